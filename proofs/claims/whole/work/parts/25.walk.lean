theorem i134_0 : ins 134 0 = some (.aload_n 0, 1, 0, 0) := by decide +kernel
theorem i134_1 : ins 134 1 = some (.iload_n 1, 2, 0, 0) := by decide +kernel
theorem i134_2 : ins 134 2 = some (.invokevirtual 131, 5, 110, 0) := by decide +kernel
theorem i134_5 : ins 134 5 = some (.ifCond .eq (12), 8, 17, 0) := by decide +kernel
theorem i134_8 : ins 134 8 = some (.iload_n 2, 9, 0, 0) := by decide +kernel
theorem i134_9 : ins 134 9 = some (.iconst (0), 10, 0, 0) := by decide +kernel
theorem i134_10 : ins 134 10 = some (.iconst (1), 11, 0, 1) := by decide +kernel
theorem i134_11 : ins 134 11 = some (.invokestatic 187, 14, 112, 0) := by decide +kernel
theorem i134_14 : ins 134 14 = some (.ifCond .ne (5), 17, 19, 0) := by decide +kernel
theorem i134_17 : ins 134 17 = some (.iconst (-1), 18, 0, -1) := by decide +kernel
theorem i134_18 : ins 134 18 = some (.ireturn, 19, 0, 0) := by decide +kernel
theorem i134_19 : ins 134 19 = some (.aload_n 0, 20, 0, 0) := by decide +kernel
theorem i134_20 : ins 134 20 = some (.getfield 34, 23, 11, 4) := by decide +kernel
theorem i134_23 : ins 134 23 = some (.getfield 213, 26, 9, 0) := by decide +kernel
theorem i134_26 : ins 134 26 = some (.istore_n 3, 27, 0, 0) := by decide +kernel
theorem i134_27 : ins 134 27 = some (.aload_n 0, 28, 0, 0) := by decide +kernel
theorem i134_28 : ins 134 28 = some (.iload_n 1, 29, 0, 0) := by decide +kernel
theorem i134_29 : ins 134 29 = some (.invokevirtual 255, 32, 135, 0) := by decide +kernel
theorem i134_32 : ins 134 32 = some (.istore 4, 34, 0, 0) := by decide +kernel
theorem i134_34 : ins 134 34 = some (.aload_n 0, 35, 0, 0) := by decide +kernel
theorem i134_35 : ins 134 35 = some (.getfield 34, 38, 11, 4) := by decide +kernel
theorem i134_38 : ins 134 38 = some (.invokevirtual 220, 41, 90, 0) := by decide +kernel
theorem i134_41 : ins 134 41 = some (.iconst (1), 42, 0, 1) := by decide +kernel
theorem i134_42 : ins 134 42 = some (.isub, 43, 0, 0) := by decide +kernel
theorem i134_43 : ins 134 43 = some (.istore 5, 45, 0, 0) := by decide +kernel
theorem i134_45 : ins 134 45 = some (.iload 5, 47, 0, 0) := by decide +kernel
theorem i134_47 : ins 134 47 = some (.ifCond .lt (32), 50, 79, 0) := by decide +kernel
theorem i134_50 : ins 134 50 = some (.aload_n 0, 51, 0, 0) := by decide +kernel
theorem i134_51 : ins 134 51 = some (.iload_n 1, 52, 0, 0) := by decide +kernel
theorem i134_52 : ins 134 52 = some (.iload 5, 54, 0, 0) := by decide +kernel
theorem i134_54 : ins 134 54 = some (.invokevirtual 258, 57, 136, 0) := by decide +kernel
theorem i134_57 : ins 134 57 = some (.istore 6, 59, 0, 0) := by decide +kernel
theorem i134_59 : ins 134 59 = some (.iload 6, 61, 0, 0) := by decide +kernel
theorem i134_61 : ins 134 61 = some (.iload 4, 63, 0, 0) := by decide +kernel
theorem i134_63 : ins 134 63 = some (.if_icmp .gt (10), 66, 73, 0) := by decide +kernel
theorem i134_66 : ins 134 66 = some (.iload 5, 68, 0, 0) := by decide +kernel
theorem i134_68 : ins 134 68 = some (.istore_n 3, 69, 0, 0) := by decide +kernel
theorem i134_69 : ins 134 69 = some (.iload 6, 71, 0, 0) := by decide +kernel
theorem i134_71 : ins 134 71 = some (.istore 4, 73, 0, 0) := by decide +kernel
theorem i134_73 : ins 134 73 = some (.iinc 5 (-1), 76, 0, -1) := by decide +kernel
theorem i134_76 : ins 134 76 = some (.goto (-31), 79, 45, 0) := by decide +kernel
theorem i134_79 : ins 134 79 = some (.iload_n 2, 80, 0, 0) := by decide +kernel
theorem i134_80 : ins 134 80 = some (.ifCond .ne (7), 83, 87, 0) := by decide +kernel
theorem i134_83 : ins 134 83 = some (.iload_n 3, 84, 0, 0) := by decide +kernel
theorem i134_84 : ins 134 84 = some (.goto (5), 87, 89, 0) := by decide +kernel
theorem i134_87 : ins 134 87 = some (.iload 4, 89, 0, 0) := by decide +kernel
theorem i134_89 : ins 134 89 = some (.ireturn, 90, 0, 0) := by decide +kernel
theorem i137_0 : ins 137 0 = some (.aload_n 0, 1, 0, 0) := by decide +kernel
theorem i137_1 : ins 137 1 = some (.iload_n 1, 2, 0, 0) := by decide +kernel
theorem i137_2 : ins 137 2 = some (.invokevirtual 123, 5, 109, 0) := by decide +kernel
theorem i137_5 : ins 137 5 = some (.ifCond .eq (13), 8, 18, 0) := by decide +kernel
theorem i137_8 : ins 137 8 = some (.iload_n 2, 9, 0, 0) := by decide +kernel
theorem i137_9 : ins 137 9 = some (.iconst (0), 10, 0, 0) := by decide +kernel
theorem i137_10 : ins 137 10 = some (.bipush (99), 12, 0, 99) := by decide +kernel
theorem i137_12 : ins 137 12 = some (.invokestatic 187, 15, 112, 0) := by decide +kernel
theorem i137_15 : ins 137 15 = some (.ifCond .ne (5), 18, 20, 0) := by decide +kernel
theorem i137_18 : ins 137 18 = some (.iconst (-1), 19, 0, -1) := by decide +kernel
theorem i137_19 : ins 137 19 = some (.ireturn, 20, 0, 0) := by decide +kernel
theorem i137_20 : ins 137 20 = some (.aload_n 0, 21, 0, 0) := by decide +kernel
theorem i137_21 : ins 137 21 = some (.getfield 64, 24, 11, 9) := by decide +kernel
theorem i137_24 : ins 137 24 = some (.iload_n 1, 25, 0, 0) := by decide +kernel
theorem i137_25 : ins 137 25 = some (.iload_n 2, 26, 0, 0) := by decide +kernel
theorem i137_26 : ins 137 26 = some (.invokevirtual 266, 29, 43, 0) := by decide +kernel
theorem i137_29 : ins 137 29 = some (.ireturn, 30, 0, 0) := by decide +kernel
theorem i138_0 : ins 138 0 = some (.aload_n 0, 1, 0, 0) := by decide +kernel
theorem i138_1 : ins 138 1 = some (.getfield 64, 4, 11, 9) := by decide +kernel
theorem i138_4 : ins 138 4 = some (.getfield 104, 7, 3, 0) := by decide +kernel
theorem i138_7 : ins 138 7 = some (.istore_n 1, 8, 0, 0) := by decide +kernel
theorem i138_8 : ins 138 8 = some (.aload_n 0, 9, 0, 0) := by decide +kernel
theorem i138_9 : ins 138 9 = some (.getfield 64, 12, 11, 9) := by decide +kernel
theorem i138_12 : ins 138 12 = some (.iconst (0), 13, 0, 0) := by decide +kernel
theorem i138_13 : ins 138 13 = some (.putfield 104, 16, 3, 0) := by decide +kernel
theorem i138_16 : ins 138 16 = some (.iload_n 1, 17, 0, 0) := by decide +kernel
theorem i138_17 : ins 138 17 = some (.ireturn, 18, 0, 0) := by decide +kernel
theorem i139_0 : ins 139 0 = some (.iload_n 1, 1, 0, 0) := by decide +kernel
theorem i139_1 : ins 139 1 = some (.iconst (0), 2, 0, 0) := by decide +kernel
theorem i139_2 : ins 139 2 = some (.bipush (99), 4, 0, 99) := by decide +kernel
theorem i139_4 : ins 139 4 = some (.invokestatic 187, 7, 112, 0) := by decide +kernel
theorem i139_7 : ins 139 7 = some (.ifCond .eq (23), 10, 30, 0) := by decide +kernel
theorem i139_10 : ins 139 10 = some (.iload_n 2, 11, 0, 0) := by decide +kernel
theorem i139_11 : ins 139 11 = some (.iconst (0), 12, 0, 0) := by decide +kernel
theorem i139_12 : ins 139 12 = some (.aload_n 0, 13, 0, 0) := by decide +kernel
theorem i139_13 : ins 139 13 = some (.getfield 64, 16, 11, 9) := by decide +kernel
theorem i139_16 : ins 139 16 = some (.getfield 104, 19, 3, 0) := by decide +kernel
theorem i139_19 : ins 139 19 = some (.invokestatic 187, 22, 112, 0) := by decide +kernel
theorem i139_22 : ins 139 22 = some (.ifCond .eq (8), 25, 30, 0) := by decide +kernel
theorem i139_25 : ins 139 25 = some (.iload_n 3, 26, 0, 0) := by decide +kernel
theorem i139_26 : ins 139 26 = some (.iconst (-1), 27, 0, -1) := by decide +kernel
theorem i139_27 : ins 139 27 = some (.if_icmp .ge (5), 30, 32, 0) := by decide +kernel
theorem i139_30 : ins 139 30 = some (.iconst (-1), 31, 0, -1) := by decide +kernel
theorem i139_31 : ins 139 31 = some (.ireturn, 32, 0, 0) := by decide +kernel
theorem i139_32 : ins 139 32 = some (.iconst (0), 33, 0, 0) := by decide +kernel
theorem i139_33 : ins 139 33 = some (.istore 4, 35, 0, 0) := by decide +kernel
theorem i139_35 : ins 139 35 = some (.iconst (0), 36, 0, 0) := by decide +kernel
theorem i139_36 : ins 139 36 = some (.istore 5, 38, 0, 0) := by decide +kernel
theorem i139_38 : ins 139 38 = some (.iload 5, 40, 0, 0) := by decide +kernel
theorem i139_40 : ins 139 40 = some (.aload_n 0, 41, 0, 0) := by decide +kernel
theorem i139_41 : ins 139 41 = some (.getfield 34, 44, 11, 4) := by decide +kernel
theorem i139_44 : ins 139 44 = some (.invokevirtual 220, 47, 90, 0) := by decide +kernel
theorem i139_47 : ins 139 47 = some (.if_icmp .gt (103), 50, 150, 0) := by decide +kernel
theorem i139_50 : ins 139 50 = some (.iload 5, 52, 0, 0) := by decide +kernel
theorem i139_52 : ins 139 52 = some (.aload_n 0, 53, 0, 0) := by decide +kernel
theorem i139_53 : ins 139 53 = some (.getfield 34, 56, 11, 4) := by decide +kernel
theorem i139_56 : ins 139 56 = some (.invokevirtual 220, 59, 90, 0) := by decide +kernel
theorem i139_59 : ins 139 59 = some (.if_icmp .ne (7), 62, 66, 0) := by decide +kernel
theorem i139_62 : ins 139 62 = some (.iconst (1), 63, 0, 1) := by decide +kernel
theorem i139_63 : ins 139 63 = some (.goto (4), 66, 67, 0) := by decide +kernel
theorem i139_66 : ins 139 66 = some (.iconst (0), 67, 0, 0) := by decide +kernel
theorem i139_67 : ins 139 67 = some (.istore 6, 69, 0, 0) := by decide +kernel
theorem i139_69 : ins 139 69 = some (.aload_n 0, 70, 0, 0) := by decide +kernel
theorem i139_70 : ins 139 70 = some (.getfield 64, 73, 11, 9) := by decide +kernel
theorem i139_73 : ins 139 73 = some (.iload 6, 75, 0, 0) := by decide +kernel
theorem i139_75 : ins 139 75 = some (.ifCond .eq (13), 78, 88, 0) := by decide +kernel
theorem i139_78 : ins 139 78 = some (.aload_n 0, 79, 0, 0) := by decide +kernel
theorem i139_79 : ins 139 79 = some (.getfield 34, 82, 11, 4) := by decide +kernel
theorem i139_82 : ins 139 82 = some (.getfield 127, 85, 9, 3) := by decide +kernel
theorem i139_85 : ins 139 85 = some (.goto (10), 88, 95, 0) := by decide +kernel
theorem i139_88 : ins 139 88 = some (.aload_n 0, 89, 0, 0) := by decide +kernel
theorem i139_89 : ins 139 89 = some (.getfield 44, 92, 11, 6) := by decide +kernel
theorem i139_92 : ins 139 92 = some (.getfield 269, 95, 0, 1) := by decide +kernel
theorem i139_95 : ins 139 95 = some (.iload 6, 97, 0, 0) := by decide +kernel
theorem i139_97 : ins 139 97 = some (.ifCond .eq (7), 100, 104, 0) := by decide +kernel
theorem i139_100 : ins 139 100 = some (.iconst (0), 101, 0, 0) := by decide +kernel
theorem i139_101 : ins 139 101 = some (.goto (8), 104, 109, 0) := by decide +kernel
theorem i139_104 : ins 139 104 = some (.iload 5, 106, 0, 0) := by decide +kernel
theorem i139_106 : ins 139 106 = some (.bipush (6), 108, 0, 6) := by decide +kernel
theorem i139_108 : ins 139 108 = some (.imul, 109, 0, 0) := by decide +kernel
theorem i139_109 : ins 139 109 = some (.iload_n 1, 110, 0, 0) := by decide +kernel
theorem i139_110 : ins 139 110 = some (.iload_n 2, 111, 0, 0) := by decide +kernel
theorem i139_111 : ins 139 111 = some (.invokevirtual 272, 114, 44, 0) := by decide +kernel
theorem i139_114 : ins 139 114 = some (.ifCond .eq (30), 117, 144, 0) := by decide +kernel
theorem i139_117 : ins 139 117 = some (.iload 4, 119, 0, 0) := by decide +kernel
theorem i139_119 : ins 139 119 = some (.iload_n 3, 120, 0, 0) := by decide +kernel
theorem i139_120 : ins 139 120 = some (.if_icmp .ne (21), 123, 141, 0) := by decide +kernel
theorem i139_123 : ins 139 123 = some (.iload 6, 125, 0, 0) := by decide +kernel
theorem i139_125 : ins 139 125 = some (.ifCond .eq (13), 128, 138, 0) := by decide +kernel
theorem i139_128 : ins 139 128 = some (.aload_n 0, 129, 0, 0) := by decide +kernel
theorem i139_129 : ins 139 129 = some (.getfield 34, 132, 11, 4) := by decide +kernel
theorem i139_132 : ins 139 132 = some (.getfield 213, 135, 9, 0) := by decide +kernel
theorem i139_135 : ins 139 135 = some (.goto (5), 138, 140, 0) := by decide +kernel
theorem i139_138 : ins 139 138 = some (.iload 5, 140, 0, 0) := by decide +kernel
theorem i139_140 : ins 139 140 = some (.ireturn, 141, 0, 0) := by decide +kernel
theorem i139_141 : ins 139 141 = some (.iinc 4 (1), 144, 0, 1) := by decide +kernel
theorem i139_144 : ins 139 144 = some (.iinc 5 (1), 147, 0, 1) := by decide +kernel
theorem i139_147 : ins 139 147 = some (.goto (-109), 150, 38, 0) := by decide +kernel
theorem i139_150 : ins 139 150 = some (.iload_n 3, 151, 0, 0) := by decide +kernel
theorem i139_151 : ins 139 151 = some (.iconst (-1), 152, 0, -1) := by decide +kernel
theorem i139_152 : ins 139 152 = some (.if_icmp .ne (8), 155, 160, 0) := by decide +kernel
theorem i139_155 : ins 139 155 = some (.iload 4, 157, 0, 0) := by decide +kernel
theorem i139_157 : ins 139 157 = some (.goto (4), 160, 161, 0) := by decide +kernel
theorem i139_160 : ins 139 160 = some (.iconst (-1), 161, 0, -1) := by decide +kernel
theorem i139_161 : ins 139 161 = some (.ireturn, 162, 0, 0) := by decide +kernel
theorem i140_0 : ins 140 0 = some (.iload_n 1, 1, 0, 0) := by decide +kernel
theorem i140_1 : ins 140 1 = some (.iconst (0), 2, 0, 0) := by decide +kernel
theorem i140_2 : ins 140 2 = some (.iconst (2), 3, 0, 2) := by decide +kernel
theorem i140_3 : ins 140 3 = some (.invokestatic 187, 6, 112, 0) := by decide +kernel
theorem i140_6 : ins 140 6 = some (.ifCond .ne (5), 9, 11, 0) := by decide +kernel
theorem i140_9 : ins 140 9 = some (.iconst (0), 10, 0, 0) := by decide +kernel
theorem i140_10 : ins 140 10 = some (.ireturn, 11, 0, 0) := by decide +kernel
theorem i140_11 : ins 140 11 = some (.aload_n 0, 12, 0, 0) := by decide +kernel
theorem i140_12 : ins 140 12 = some (.getfield 57, 15, 11, 8) := by decide +kernel
theorem i140_15 : ins 140 15 = some (.iload_n 1, 16, 0, 0) := by decide +kernel
theorem i140_16 : ins 140 16 = some (.aaload, 17, 0, 0) := by decide +kernel
theorem i140_17 : ins 140 17 = some (.getfield 276, 20, 8, 1) := by decide +kernel
theorem i140_20 : ins 140 20 = some (.aload_n 0, 21, 0, 0) := by decide +kernel
theorem i140_21 : ins 140 21 = some (.getfield 34, 24, 11, 4) := by decide +kernel
theorem i140_24 : ins 140 24 = some (.invokevirtual 237, 27, 89, 0) := by decide +kernel
theorem i140_27 : ins 140 27 = some (.aload_n 0, 28, 0, 0) := by decide +kernel
theorem i140_28 : ins 140 28 = some (.getfield 57, 31, 11, 8) := by decide +kernel
theorem i140_31 : ins 140 31 = some (.iload_n 1, 32, 0, 0) := by decide +kernel
theorem i140_32 : ins 140 32 = some (.aaload, 33, 0, 0) := by decide +kernel
theorem i140_33 : ins 140 33 = some (.getfield 279, 36, 8, 2) := by decide +kernel
theorem i140_36 : ins 140 36 = some (.aload_n 0, 37, 0, 0) := by decide +kernel
theorem i140_37 : ins 140 37 = some (.getfield 44, 40, 11, 6) := by decide +kernel
theorem i140_40 : ins 140 40 = some (.aload_n 0, 41, 0, 0) := by decide +kernel
theorem i140_41 : ins 140 41 = some (.getfield 34, 44, 11, 4) := by decide +kernel
theorem i140_44 : ins 140 44 = some (.invokevirtual 220, 47, 90, 0) := by decide +kernel
theorem i140_47 : ins 140 47 = some (.invokevirtual 280, 50, 17, 0) := by decide +kernel
theorem i140_50 : ins 140 50 = some (.aload_n 0, 51, 0, 0) := by decide +kernel
theorem i140_51 : ins 140 51 = some (.getfield 57, 54, 11, 8) := by decide +kernel
theorem i140_54 : ins 140 54 = some (.iload_n 1, 55, 0, 0) := by decide +kernel
theorem i140_55 : ins 140 55 = some (.aaload, 56, 0, 0) := by decide +kernel
theorem i140_56 : ins 140 56 = some (.iconst (1), 57, 0, 1) := by decide +kernel
theorem i140_57 : ins 140 57 = some (.putfield 107, 60, 8, 0) := by decide +kernel
theorem i140_60 : ins 140 60 = some (.iconst (1), 61, 0, 1) := by decide +kernel
theorem i140_61 : ins 140 61 = some (.ireturn, 62, 0, 0) := by decide +kernel
theorem i141_0 : ins 141 0 = some (.iload_n 1, 1, 0, 0) := by decide +kernel
theorem i141_1 : ins 141 1 = some (.iconst (0), 2, 0, 0) := by decide +kernel
theorem i141_2 : ins 141 2 = some (.iconst (2), 3, 0, 2) := by decide +kernel
theorem i141_3 : ins 141 3 = some (.invokestatic 187, 6, 112, 0) := by decide +kernel
theorem i141_6 : ins 141 6 = some (.ifCond .eq (15), 9, 21, 0) := by decide +kernel
theorem i141_9 : ins 141 9 = some (.aload_n 0, 10, 0, 0) := by decide +kernel
theorem i141_10 : ins 141 10 = some (.getfield 57, 13, 11, 8) := by decide +kernel
theorem i141_13 : ins 141 13 = some (.iload_n 1, 14, 0, 0) := by decide +kernel
theorem i141_14 : ins 141 14 = some (.aaload, 15, 0, 0) := by decide +kernel
theorem i141_15 : ins 141 15 = some (.getfield 107, 18, 8, 0) := by decide +kernel
theorem i141_18 : ins 141 18 = some (.ifCond .ne (5), 21, 23, 0) := by decide +kernel
theorem i141_21 : ins 141 21 = some (.iconst (0), 22, 0, 0) := by decide +kernel
theorem i141_22 : ins 141 22 = some (.ireturn, 23, 0, 0) := by decide +kernel
theorem i141_23 : ins 141 23 = some (.aload_n 0, 24, 0, 0) := by decide +kernel
theorem i141_24 : ins 141 24 = some (.getfield 34, 27, 11, 4) := by decide +kernel
theorem i141_27 : ins 141 27 = some (.aload_n 0, 28, 0, 0) := by decide +kernel
theorem i141_28 : ins 141 28 = some (.getfield 57, 31, 11, 8) := by decide +kernel
theorem i141_31 : ins 141 31 = some (.iload_n 1, 32, 0, 0) := by decide +kernel
theorem i141_32 : ins 141 32 = some (.aaload, 33, 0, 0) := by decide +kernel
theorem i141_33 : ins 141 33 = some (.getfield 276, 36, 8, 1) := by decide +kernel
theorem i141_36 : ins 141 36 = some (.invokevirtual 237, 39, 89, 0) := by decide +kernel
theorem i141_39 : ins 141 39 = some (.aload_n 0, 40, 0, 0) := by decide +kernel
theorem i141_40 : ins 141 40 = some (.getfield 44, 43, 11, 6) := by decide +kernel
theorem i141_43 : ins 141 43 = some (.aload_n 0, 44, 0, 0) := by decide +kernel
theorem i141_44 : ins 141 44 = some (.getfield 57, 47, 11, 8) := by decide +kernel
theorem i141_47 : ins 141 47 = some (.iload_n 1, 48, 0, 0) := by decide +kernel
theorem i141_48 : ins 141 48 = some (.aaload, 49, 0, 0) := by decide +kernel
theorem i141_49 : ins 141 49 = some (.getfield 279, 52, 8, 2) := by decide +kernel
theorem i141_52 : ins 141 52 = some (.aload_n 0, 53, 0, 0) := by decide +kernel
theorem i141_53 : ins 141 53 = some (.getfield 34, 56, 11, 4) := by decide +kernel
theorem i141_56 : ins 141 56 = some (.invokevirtual 220, 59, 90, 0) := by decide +kernel
theorem i141_59 : ins 141 59 = some (.invokevirtual 280, 62, 17, 0) := by decide +kernel
theorem i141_62 : ins 141 62 = some (.aload_n 0, 63, 0, 0) := by decide +kernel
theorem i141_63 : ins 141 63 = some (.getfield 51, 66, 11, 7) := by decide +kernel
theorem i141_66 : ins 141 66 = some (.invokevirtual 101, 69, 46, 0) := by decide +kernel
theorem i141_69 : ins 141 69 = some (.iconst (1), 70, 0, 1) := by decide +kernel
theorem i141_70 : ins 141 70 = some (.ireturn, 71, 0, 0) := by decide +kernel
theorem i142_0 : ins 142 0 = some (.iload_n 1, 1, 0, 0) := by decide +kernel
theorem i142_1 : ins 142 1 = some (.tableswitch (165) (0) (12) #[67, 75, 83, 91, 99, 107, 115, 123, 131, 139, 144, 152, 160], 68, 0, 0) := by decide +kernel
theorem i142_68 : ins 142 68 = some (.aload_n 0, 69, 0, 0) := by decide +kernel
theorem i142_69 : ins 142 69 = some (.getfield 27, 72, 11, 3) := by decide +kernel
theorem i142_72 : ins 142 72 = some (.getfield 114, 75, 10, 0) := by decide +kernel
theorem i142_75 : ins 142 75 = some (.ireturn, 76, 0, 0) := by decide +kernel
theorem i142_76 : ins 142 76 = some (.aload_n 0, 77, 0, 0) := by decide +kernel
theorem i142_77 : ins 142 77 = some (.getfield 27, 80, 11, 3) := by decide +kernel
theorem i142_80 : ins 142 80 = some (.getfield 117, 83, 10, 1) := by decide +kernel
theorem i142_83 : ins 142 83 = some (.ireturn, 84, 0, 0) := by decide +kernel
theorem i142_84 : ins 142 84 = some (.aload_n 0, 85, 0, 0) := by decide +kernel
theorem i142_85 : ins 142 85 = some (.getfield 27, 88, 11, 3) := by decide +kernel
theorem i142_88 : ins 142 88 = some (.getfield 120, 91, 10, 2) := by decide +kernel
theorem i142_91 : ins 142 91 = some (.ireturn, 92, 0, 0) := by decide +kernel
theorem i142_92 : ins 142 92 = some (.aload_n 0, 93, 0, 0) := by decide +kernel
theorem i142_93 : ins 142 93 = some (.getfield 34, 96, 11, 4) := by decide +kernel
theorem i142_96 : ins 142 96 = some (.getfield 213, 99, 9, 0) := by decide +kernel
theorem i142_99 : ins 142 99 = some (.ireturn, 100, 0, 0) := by decide +kernel
theorem i142_100 : ins 142 100 = some (.aload_n 0, 101, 0, 0) := by decide +kernel
theorem i142_101 : ins 142 101 = some (.getfield 34, 104, 11, 4) := by decide +kernel
theorem i142_104 : ins 142 104 = some (.getfield 283, 107, 9, 2) := by decide +kernel
theorem i142_107 : ins 142 107 = some (.ireturn, 108, 0, 0) := by decide +kernel
theorem i142_108 : ins 142 108 = some (.aload_n 0, 109, 0, 0) := by decide +kernel
theorem i142_109 : ins 142 109 = some (.getfield 34, 112, 11, 4) := by decide +kernel
theorem i142_112 : ins 142 112 = some (.getfield 286, 115, 9, 1) := by decide +kernel
theorem i142_115 : ins 142 115 = some (.ireturn, 116, 0, 0) := by decide +kernel
theorem i142_116 : ins 142 116 = some (.aload_n 0, 117, 0, 0) := by decide +kernel
theorem i142_117 : ins 142 117 = some (.getfield 27, 120, 11, 3) := by decide +kernel
theorem i142_120 : ins 142 120 = some (.getfield 289, 123, 10, 3) := by decide +kernel
theorem i142_123 : ins 142 123 = some (.ireturn, 124, 0, 0) := by decide +kernel
theorem i142_124 : ins 142 124 = some (.aload_n 0, 125, 0, 0) := by decide +kernel
theorem i142_125 : ins 142 125 = some (.getfield 27, 128, 11, 3) := by decide +kernel
theorem i142_128 : ins 142 128 = some (.getfield 291, 131, 10, 4) := by decide +kernel
theorem i142_131 : ins 142 131 = some (.ireturn, 132, 0, 0) := by decide +kernel
theorem i142_132 : ins 142 132 = some (.aload_n 0, 133, 0, 0) := by decide +kernel
theorem i142_133 : ins 142 133 = some (.getfield 34, 136, 11, 4) := by decide +kernel
theorem i142_136 : ins 142 136 = some (.invokevirtual 220, 139, 90, 0) := by decide +kernel
theorem i142_139 : ins 142 139 = some (.ireturn, 140, 0, 0) := by decide +kernel
theorem i142_140 : ins 142 140 = some (.aload_n 0, 141, 0, 0) := by decide +kernel
theorem i142_141 : ins 142 141 = some (.getfield 13, 144, 11, 1) := by decide +kernel
theorem i142_144 : ins 142 144 = some (.ireturn, 145, 0, 0) := by decide +kernel
theorem i142_145 : ins 142 145 = some (.aload_n 0, 146, 0, 0) := by decide +kernel
theorem i142_146 : ins 142 146 = some (.getfield 51, 149, 11, 7) := by decide +kernel
theorem i142_149 : ins 142 149 = some (.getfield 294, 152, 4, 0) := by decide +kernel
theorem i142_152 : ins 142 152 = some (.ireturn, 153, 0, 0) := by decide +kernel
theorem i142_153 : ins 142 153 = some (.aload_n 0, 154, 0, 0) := by decide +kernel
theorem i142_154 : ins 142 154 = some (.getfield 64, 157, 11, 9) := by decide +kernel
theorem i142_157 : ins 142 157 = some (.getfield 104, 160, 3, 0) := by decide +kernel
theorem i142_160 : ins 142 160 = some (.ireturn, 161, 0, 0) := by decide +kernel
theorem i142_161 : ins 142 161 = some (.aload_n 0, 162, 0, 0) := by decide +kernel
theorem i142_162 : ins 142 162 = some (.invokevirtual 295, 165, 143, 0) := by decide +kernel
theorem i142_165 : ins 142 165 = some (.ireturn, 166, 0, 0) := by decide +kernel
theorem i142_166 : ins 142 166 = some (.iconst (-1), 167, 0, -1) := by decide +kernel
theorem i142_167 : ins 142 167 = some (.ireturn, 168, 0, 0) := by decide +kernel
theorem i143_0 : ins 143 0 = some (.iconst (0), 1, 0, 0) := by decide +kernel
theorem i143_1 : ins 143 1 = some (.istore_n 1, 2, 0, 0) := by decide +kernel
theorem i143_2 : ins 143 2 = some (.iconst (0), 3, 0, 0) := by decide +kernel
theorem i143_3 : ins 143 3 = some (.istore_n 2, 4, 0, 0) := by decide +kernel
theorem i143_4 : ins 143 4 = some (.iload_n 2, 5, 0, 0) := by decide +kernel
theorem i143_5 : ins 143 5 = some (.iconst (3), 6, 0, 3) := by decide +kernel
theorem i143_6 : ins 143 6 = some (.if_icmp .ge (24), 9, 30, 0) := by decide +kernel
theorem i143_9 : ins 143 9 = some (.aload_n 0, 10, 0, 0) := by decide +kernel
theorem i143_10 : ins 143 10 = some (.getfield 57, 13, 11, 8) := by decide +kernel
theorem i143_13 : ins 143 13 = some (.iload_n 2, 14, 0, 0) := by decide +kernel
theorem i143_14 : ins 143 14 = some (.aaload, 15, 0, 0) := by decide +kernel
theorem i143_15 : ins 143 15 = some (.getfield 107, 18, 8, 0) := by decide +kernel
theorem i143_18 : ins 143 18 = some (.ifCond .eq (6), 21, 24, 0) := by decide +kernel
theorem i143_21 : ins 143 21 = some (.iinc 1 (1), 24, 0, 1) := by decide +kernel
theorem i143_24 : ins 143 24 = some (.iinc 2 (1), 27, 0, 1) := by decide +kernel
theorem i143_27 : ins 143 27 = some (.goto (-23), 30, 4, 0) := by decide +kernel
theorem i143_30 : ins 143 30 = some (.iload_n 1, 31, 0, 0) := by decide +kernel
theorem i143_31 : ins 143 31 = some (.ireturn, 32, 0, 0) := by decide +kernel
theorem i145_0 : ins 145 0 = some (.aload_n 0, 1, 0, 0) := by decide +kernel
theorem i145_1 : ins 145 1 = some (.invokespecial 7, 4, 1000, 0) := by decide +kernel
theorem i145_4 : ins 145 4 = some (.aload_n 0, 5, 0, 0) := by decide +kernel
theorem i145_5 : ins 145 5 = some (.sipush (2000), 8, 0, 2000) := by decide +kernel
theorem i145_8 : ins 145 8 = some (.newarray .byte, 10, 0, 0) := by decide +kernel
theorem i145_10 : ins 145 10 = some (.putfield 13, 13, 12, 1) := by decide +kernel
theorem i145_13 : ins 145 13 = some (.aload_n 0, 14, 0, 0) := by decide +kernel
theorem i145_14 : ins 145 14 = some (.sipush (2000), 17, 0, 2000) := by decide +kernel
theorem i145_17 : ins 145 17 = some (.newarray .byte, 19, 0, 0) := by decide +kernel
theorem i145_19 : ins 145 19 = some (.putfield 17, 22, 12, 3) := by decide +kernel
theorem i145_22 : ins 145 22 = some (.aload_n 0, 23, 0, 0) := by decide +kernel
theorem i145_23 : ins 145 23 = some (.sipush (403), 26, 0, 403) := by decide +kernel
theorem i145_26 : ins 145 26 = some (.newarray .int, 28, 0, 0) := by decide +kernel
theorem i145_28 : ins 145 28 = some (.putfield 20, 31, 12, 5) := by decide +kernel
theorem i145_31 : ins 145 31 = some (.aload_n 0, 32, 0, 0) := by decide +kernel
theorem i145_32 : ins 145 32 = some (.sipush (403), 35, 0, 403) := by decide +kernel
theorem i145_35 : ins 145 35 = some (.newarray .int, 37, 0, 0) := by decide +kernel
theorem i145_37 : ins 145 37 = some (.putfield 24, 40, 12, 6) := by decide +kernel
theorem i145_40 : ins 145 40 = some (.aload_n 0, 41, 0, 0) := by decide +kernel
theorem i145_41 : ins 145 41 = some (.sipush (403), 44, 0, 403) := by decide +kernel
theorem i145_44 : ins 145 44 = some (.newarray .int, 46, 0, 0) := by decide +kernel
theorem i145_46 : ins 145 46 = some (.putfield 27, 49, 12, 7) := by decide +kernel
theorem i145_49 : ins 145 49 = some (.aload_n 0, 50, 0, 0) := by decide +kernel
theorem i145_50 : ins 145 50 = some (.sipush (403), 53, 0, 403) := by decide +kernel
theorem i145_53 : ins 145 53 = some (.newarray .long, 55, 0, 0) := by decide +kernel
theorem i145_55 : ins 145 55 = some (.putfield 30, 58, 12, 8) := by decide +kernel
theorem i145_58 : ins 145 58 = some (.aload_n 0, 59, 0, 0) := by decide +kernel
theorem i145_59 : ins 145 59 = some (.bipush (17), 61, 0, 17) := by decide +kernel
theorem i145_61 : ins 145 61 = some (.newarray .long, 63, 0, 0) := by decide +kernel
theorem i145_63 : ins 145 63 = some (.putfield 34, 66, 12, 9) := by decide +kernel
theorem i145_66 : ins 145 66 = some (.aload_n 0, 67, 0, 0) := by decide +kernel
theorem i145_67 : ins 145 67 = some (.iconst (-1), 68, 0, -1) := by decide +kernel
theorem i145_68 : ins 145 68 = some (.putfield 37, 71, 12, 17) := by decide +kernel
theorem i145_71 : ins 145 71 = some (.aload_n 0, 72, 0, 0) := by decide +kernel
theorem i145_72 : ins 145 72 = some (.bipush (15), 74, 0, 15) := by decide +kernel
theorem i145_74 : ins 145 74 = some (.newarray .long, 76, 0, 0) := by decide +kernel
theorem i145_76 : ins 145 76 = some (.putfield 40, 79, 12, 21) := by decide +kernel
theorem i145_79 : ins 145 79 = some (.aload_n 0, 80, 0, 0) := by decide +kernel
theorem i145_80 : ins 145 80 = some (.bipush (15), 82, 0, 15) := by decide +kernel
theorem i145_82 : ins 145 82 = some (.newarray .int, 84, 0, 0) := by decide +kernel
theorem i145_84 : ins 145 84 = some (.putfield 43, 87, 12, 22) := by decide +kernel
theorem i145_87 : ins 145 87 = some (.aload_n 0, 88, 0, 0) := by decide +kernel
theorem i145_88 : ins 145 88 = some (.iconst (2), 89, 0, 2) := by decide +kernel
theorem i145_89 : ins 145 89 = some (.newarray .int, 91, 0, 0) := by decide +kernel
theorem i145_91 : ins 145 91 = some (.putfield 46, 94, 12, 23) := by decide +kernel
theorem i145_94 : ins 145 94 = some (.aload_n 0, 95, 0, 0) := by decide +kernel
theorem i145_95 : ins 145 95 = some (.bipush (12), 97, 0, 12) := by decide +kernel
theorem i145_97 : ins 145 97 = some (.newarray .int, 99, 0, 0) := by decide +kernel
theorem i145_99 : ins 145 99 = some (.putfield 49, 102, 12, 24) := by decide +kernel
theorem i145_102 : ins 145 102 = some (.aload_n 0, 103, 0, 0) := by decide +kernel
theorem i145_103 : ins 145 103 = some (.iconst (2), 104, 0, 2) := by decide +kernel
theorem i145_104 : ins 145 104 = some (.newarray .int, 106, 0, 0) := by decide +kernel
theorem i145_106 : ins 145 106 = some (.putfield 52, 109, 12, 25) := by decide +kernel
theorem i145_109 : ins 145 109 = some (.aload_n 0, 110, 0, 0) := by decide +kernel
theorem i145_110 : ins 145 110 = some (.bipush (12), 112, 0, 12) := by decide +kernel
theorem i145_112 : ins 145 112 = some (.newarray .int, 114, 0, 0) := by decide +kernel
theorem i145_114 : ins 145 114 = some (.putfield 55, 117, 12, 26) := by decide +kernel
theorem i145_117 : ins 145 117 = some (.aload_n 0, 118, 0, 0) := by decide +kernel
theorem i145_118 : ins 145 118 = some (.bipush (12), 120, 0, 12) := by decide +kernel
theorem i145_120 : ins 145 120 = some (.newarray .int, 122, 0, 0) := by decide +kernel
theorem i145_122 : ins 145 122 = some (.putfield 58, 125, 12, 27) := by decide +kernel
theorem i145_125 : ins 145 125 = some (.aload_n 0, 126, 0, 0) := by decide +kernel
theorem i145_126 : ins 145 126 = some (.bipush (72), 128, 0, 72) := by decide +kernel
theorem i145_128 : ins 145 128 = some (.newarray .int, 130, 0, 0) := by decide +kernel
theorem i145_130 : ins 145 130 = some (.putfield 61, 133, 12, 28) := by decide +kernel
theorem i145_133 : ins 145 133 = some (.aload_n 0, 134, 0, 0) := by decide +kernel
theorem i145_134 : ins 145 134 = some (.iconst (2), 135, 0, 2) := by decide +kernel
theorem i145_135 : ins 145 135 = some (.newarray .int, 137, 0, 0) := by decide +kernel
theorem i145_137 : ins 145 137 = some (.putfield 64, 140, 12, 29) := by decide +kernel
theorem i145_140 : ins 145 140 = some (.aload_n 0, 141, 0, 0) := by decide +kernel
theorem i145_141 : ins 145 141 = some (.iconst (2), 142, 0, 2) := by decide +kernel
theorem i145_142 : ins 145 142 = some (.newarray .int, 144, 0, 0) := by decide +kernel
theorem i145_144 : ins 145 144 = some (.putfield 67, 147, 12, 30) := by decide +kernel
theorem i145_147 : ins 145 147 = some (.aload_n 0, 148, 0, 0) := by decide +kernel
theorem i145_148 : ins 145 148 = some (.iconst (2), 149, 0, 2) := by decide +kernel
theorem i145_149 : ins 145 149 = some (.newarray .int, 151, 0, 0) := by decide +kernel
theorem i145_151 : ins 145 151 = some (.putfield 70, 154, 12, 31) := by decide +kernel
theorem i145_154 : ins 145 154 = some (.aload_n 0, 155, 0, 0) := by decide +kernel
theorem i145_155 : ins 145 155 = some (.iconst (2), 156, 0, 2) := by decide +kernel
theorem i145_156 : ins 145 156 = some (.newarray .int, 158, 0, 0) := by decide +kernel
theorem i145_158 : ins 145 158 = some (.putfield 73, 161, 12, 32) := by decide +kernel
theorem i145_161 : ins 145 161 = some (.aload_n 0, 162, 0, 0) := by decide +kernel
theorem i145_162 : ins 145 162 = some (.bipush (20), 164, 0, 20) := by decide +kernel
theorem i145_164 : ins 145 164 = some (.newarray .int, 166, 0, 0) := by decide +kernel
theorem i145_166 : ins 145 166 = some (.putfield 76, 169, 12, 33) := by decide +kernel
theorem i145_169 : ins 145 169 = some (.aload_n 0, 170, 0, 0) := by decide +kernel
theorem i145_170 : ins 145 170 = some (.bipush (20), 172, 0, 20) := by decide +kernel
theorem i145_172 : ins 145 172 = some (.newarray .int, 174, 0, 0) := by decide +kernel
theorem i145_174 : ins 145 174 = some (.putfield 79, 177, 12, 34) := by decide +kernel
theorem i145_177 : ins 145 177 = some (.aload_n 0, 178, 0, 0) := by decide +kernel
theorem i145_178 : ins 145 178 = some (.sipush (260), 181, 0, 260) := by decide +kernel
theorem i145_181 : ins 145 181 = some (.newarray .boolean, 183, 0, 0) := by decide +kernel
theorem i145_183 : ins 145 183 = some (.putfield 82, 186, 12, 36) := by decide +kernel
theorem i145_186 : ins 145 186 = some (.aload_n 0, 187, 0, 0) := by decide +kernel
theorem i145_187 : ins 145 187 = some (.sipush (260), 190, 0, 260) := by decide +kernel
theorem i145_190 : ins 145 190 = some (.newarray .int, 192, 0, 0) := by decide +kernel
theorem i145_192 : ins 145 192 = some (.putfield 86, 195, 12, 37) := by decide +kernel
theorem i145_195 : ins 145 195 = some (.aload_n 0, 196, 0, 0) := by decide +kernel
theorem i145_196 : ins 145 196 = some (.sipush (260), 199, 0, 260) := by decide +kernel
theorem i145_199 : ins 145 199 = some (.newarray .int, 201, 0, 0) := by decide +kernel
theorem i145_201 : ins 145 201 = some (.putfield 89, 204, 12, 38) := by decide +kernel
theorem i145_204 : ins 145 204 = some (.aload_n 0, 205, 0, 0) := by decide +kernel
theorem i145_205 : ins 145 205 = some (.sipush (260), 208, 0, 260) := by decide +kernel
theorem i145_208 : ins 145 208 = some (.newarray .int, 210, 0, 0) := by decide +kernel
theorem i145_210 : ins 145 210 = some (.putfield 92, 213, 12, 39) := by decide +kernel
theorem i145_213 : ins 145 213 = some (.aload_n 0, 214, 0, 0) := by decide +kernel
theorem i145_214 : ins 145 214 = some (.sipush (260), 217, 0, 260) := by decide +kernel
theorem i145_217 : ins 145 217 = some (.newarray .int, 219, 0, 0) := by decide +kernel
theorem i145_219 : ins 145 219 = some (.putfield 95, 222, 12, 40) := by decide +kernel
theorem i145_222 : ins 145 222 = some (.aload_n 0, 223, 0, 0) := by decide +kernel
theorem i145_223 : ins 145 223 = some (.sipush (840), 226, 0, 840) := by decide +kernel
theorem i145_226 : ins 145 226 = some (.newarray .int, 228, 0, 0) := by decide +kernel
theorem i145_228 : ins 145 228 = some (.putfield 98, 231, 12, 42) := by decide +kernel
theorem i145_231 : ins 145 231 = some (.aload_n 0, 232, 0, 0) := by decide +kernel
theorem i145_232 : ins 145 232 = some (.sipush (840), 235, 0, 840) := by decide +kernel
theorem i145_235 : ins 145 235 = some (.newarray .int, 237, 0, 0) := by decide +kernel
theorem i145_237 : ins 145 237 = some (.putfield 101, 240, 12, 43) := by decide +kernel
theorem i145_240 : ins 145 240 = some (.aload_n 0, 241, 0, 0) := by decide +kernel
theorem i145_241 : ins 145 241 = some (.bipush (64), 243, 0, 64) := by decide +kernel
theorem i145_243 : ins 145 243 = some (.newarray .int, 245, 0, 0) := by decide +kernel
theorem i145_245 : ins 145 245 = some (.putfield 104, 248, 12, 44) := by decide +kernel
theorem i145_248 : ins 145 248 = some (.aload_n 0, 249, 0, 0) := by decide +kernel
theorem i145_249 : ins 145 249 = some (.bipush (7), 251, 0, 7) := by decide +kernel
theorem i145_251 : ins 145 251 = some (.newarray .int, 253, 0, 0) := by decide +kernel
theorem i145_253 : ins 145 253 = some (.putfield 107, 256, 12, 46) := by decide +kernel
theorem i145_256 : ins 145 256 = some (.aload_n 0, 257, 0, 0) := by decide +kernel
theorem i145_257 : ins 145 257 = some (.sipush (400), 260, 0, 400) := by decide +kernel
theorem i145_260 : ins 145 260 = some (.newarray .int, 262, 0, 0) := by decide +kernel
theorem i145_262 : ins 145 262 = some (.putfield 110, 265, 12, 47) := by decide +kernel
theorem i145_265 : ins 145 265 = some (.aload_n 0, 266, 0, 0) := by decide +kernel
theorem i145_266 : ins 145 266 = some (.sipush (2860), 269, 0, 2860) := by decide +kernel
theorem i145_269 : ins 145 269 = some (.newarray .int, 271, 0, 0) := by decide +kernel
theorem i145_271 : ins 145 271 = some (.putfield 113, 274, 12, 49) := by decide +kernel
theorem i145_274 : ins 145 274 = some (.aload_n 0, 275, 0, 0) := by decide +kernel
theorem i145_275 : ins 145 275 = some (.sipush (2860), 278, 0, 2860) := by decide +kernel
theorem i145_278 : ins 145 278 = some (.newarray .int, 280, 0, 0) := by decide +kernel
theorem i145_280 : ins 145 280 = some (.putfield 116, 283, 12, 50) := by decide +kernel
theorem i145_283 : ins 145 283 = some (.aload_n 0, 284, 0, 0) := by decide +kernel
theorem i145_284 : ins 145 284 = some (.bipush (6), 286, 0, 6) := by decide +kernel
theorem i145_286 : ins 145 286 = some (.newarray .int, 288, 0, 0) := by decide +kernel
theorem i145_288 : ins 145 288 = some (.putfield 119, 291, 12, 56) := by decide +kernel
theorem i145_291 : ins 145 291 = some (.aload_n 0, 292, 0, 0) := by decide +kernel
theorem i145_292 : ins 145 292 = some (.iconst (3), 293, 0, 3) := by decide +kernel
theorem i145_293 : ins 145 293 = some (.newarray .int, 295, 0, 0) := by decide +kernel
theorem i145_295 : ins 145 295 = some (.putfield 122, 298, 12, 57) := by decide +kernel
theorem i145_298 : ins 145 298 = some (.aload_n 0, 299, 0, 0) := by decide +kernel
theorem i145_299 : ins 145 299 = some (.ldc 125, 301, 0, 85800) := by decide +kernel
theorem i145_301 : ins 145 301 = some (.newarray .int, 303, 0, 0) := by decide +kernel
theorem i145_303 : ins 145 303 = some (.putfield 126, 306, 12, 59) := by decide +kernel
theorem i145_306 : ins 145 306 = some (.aload_n 0, 307, 0, 0) := by decide +kernel
theorem i145_307 : ins 145 307 = some (.bipush (91), 309, 0, 91) := by decide +kernel
theorem i145_309 : ins 145 309 = some (.newarray .int, 311, 0, 0) := by decide +kernel
theorem i145_311 : ins 145 311 = some (.putfield 129, 314, 12, 60) := by decide +kernel
theorem i145_314 : ins 145 314 = some (.aload_n 0, 315, 0, 0) := by decide +kernel
theorem i145_315 : ins 145 315 = some (.bipush (6), 317, 0, 6) := by decide +kernel
theorem i145_317 : ins 145 317 = some (.newarray .int, 319, 0, 0) := by decide +kernel
theorem i145_319 : ins 145 319 = some (.putfield 132, 322, 12, 61) := by decide +kernel
theorem i145_322 : ins 145 322 = some (.aload_n 0, 323, 0, 0) := by decide +kernel
theorem i145_323 : ins 145 323 = some (.bipush (78), 325, 0, 78) := by decide +kernel
theorem i145_325 : ins 145 325 = some (.newarray .int, 327, 0, 0) := by decide +kernel
theorem i145_327 : ins 145 327 = some (.putfield 135, 330, 12, 62) := by decide +kernel
theorem i145_330 : ins 145 330 = some (.aload_n 0, 331, 0, 0) := by decide +kernel
theorem i145_331 : ins 145 331 = some (.bipush (20), 333, 0, 20) := by decide +kernel
theorem i145_333 : ins 145 333 = some (.newarray .int, 335, 0, 0) := by decide +kernel
theorem i145_335 : ins 145 335 = some (.putfield 138, 338, 12, 64) := by decide +kernel
theorem i145_338 : ins 145 338 = some (.aload_n 0, 339, 0, 0) := by decide +kernel
theorem i145_339 : ins 145 339 = some (.bipush (20), 341, 0, 20) := by decide +kernel
theorem i145_341 : ins 145 341 = some (.newarray .int, 343, 0, 0) := by decide +kernel
theorem i145_343 : ins 145 343 = some (.putfield 141, 346, 12, 65) := by decide +kernel
theorem i145_346 : ins 145 346 = some (.aload_n 0, 347, 0, 0) := by decide +kernel
theorem i145_347 : ins 145 347 = some (.iconst (3), 348, 0, 3) := by decide +kernel
theorem i145_348 : ins 145 348 = some (.newarray .boolean, 350, 0, 0) := by decide +kernel
theorem i145_350 : ins 145 350 = some (.putfield 144, 353, 12, 66) := by decide +kernel
theorem i145_353 : ins 145 353 = some (.aload_n 0, 354, 0, 0) := by decide +kernel
theorem i145_354 : ins 145 354 = some (.sipush (8580), 357, 0, 8580) := by decide +kernel
theorem i145_357 : ins 145 357 = some (.newarray .int, 359, 0, 0) := by decide +kernel
theorem i145_359 : ins 145 359 = some (.putfield 147, 362, 12, 67) := by decide +kernel
theorem i145_362 : ins 145 362 = some (.aload_n 0, 363, 0, 0) := by decide +kernel
theorem i145_363 : ins 145 363 = some (.iconst (0), 364, 0, 0) := by decide +kernel
theorem i145_364 : ins 145 364 = some (.invokevirtual 150, 367, 162, 0) := by decide +kernel
theorem i145_367 : ins 145 367 = some (.aload_n 0, 368, 0, 0) := by decide +kernel
theorem i145_368 : ins 145 368 = some (.getfield 34, 371, 12, 9) := by decide +kernel
theorem i145_371 : ins 145 371 = some (.iconst (0), 372, 0, 0) := by decide +kernel
theorem i145_372 : ins 145 372 = some (.bipush (108), 374, 0, 108) := by decide +kernel
theorem i145_374 : ins 145 374 = some (.bipush (101), 376, 0, 101) := by decide +kernel
theorem i145_376 : ins 145 376 = some (.bipush (116), 378, 0, 116) := by decide +kernel
theorem i145_378 : ins 145 378 = some (.bipush (116), 380, 0, 116) := by decide +kernel
theorem i145_380 : ins 145 380 = some (.bipush (101), 382, 0, 101) := by decide +kernel
theorem i145_382 : ins 145 382 = some (.bipush (114), 384, 0, 114) := by decide +kernel
theorem i145_384 : ins 145 384 = some (.iconst (0), 385, 0, 0) := by decide +kernel
theorem i145_385 : ins 145 385 = some (.invokestatic 154, 388, 153, 0) := by decide +kernel
theorem i145_388 : ins 145 388 = some (.lastore, 389, 0, 0) := by decide +kernel
theorem i145_389 : ins 145 389 = some (.aload_n 0, 390, 0, 0) := by decide +kernel
theorem i145_390 : ins 145 390 = some (.getfield 34, 393, 12, 9) := by decide +kernel
theorem i145_393 : ins 145 393 = some (.iconst (1), 394, 0, 1) := by decide +kernel
theorem i145_394 : ins 145 394 = some (.bipush (104), 396, 0, 104) := by decide +kernel
theorem i145_396 : ins 145 396 = some (.bipush (101), 398, 0, 101) := by decide +kernel
theorem i145_398 : ins 145 398 = some (.bipush (105), 400, 0, 105) := by decide +kernel
theorem i145_400 : ins 145 400 = some (.bipush (114), 402, 0, 114) := by decide +kernel
theorem i145_402 : ins 145 402 = some (.iconst (0), 403, 0, 0) := by decide +kernel
theorem i145_403 : ins 145 403 = some (.iconst (0), 404, 0, 0) := by decide +kernel
theorem i145_404 : ins 145 404 = some (.iconst (0), 405, 0, 0) := by decide +kernel
theorem i145_405 : ins 145 405 = some (.invokestatic 154, 408, 153, 0) := by decide +kernel
theorem i145_408 : ins 145 408 = some (.lastore, 409, 0, 0) := by decide +kernel
theorem i145_409 : ins 145 409 = some (.aload_n 0, 410, 0, 0) := by decide +kernel
theorem i145_410 : ins 145 410 = some (.getfield 34, 413, 12, 9) := by decide +kernel
theorem i145_413 : ins 145 413 = some (.iconst (2), 414, 0, 2) := by decide +kernel
theorem i145_414 : ins 145 414 = some (.bipush (109), 416, 0, 109) := by decide +kernel
theorem i145_416 : ins 145 416 = some (.bipush (97), 418, 0, 97) := by decide +kernel
theorem i145_418 : ins 145 418 = some (.bipush (115), 420, 0, 115) := by decide +kernel
theorem i145_420 : ins 145 420 = some (.bipush (116), 422, 0, 116) := by decide +kernel
theorem i145_422 : ins 145 422 = some (.bipush (101), 424, 0, 101) := by decide +kernel
theorem i145_424 : ins 145 424 = some (.bipush (114), 426, 0, 114) := by decide +kernel
theorem i145_426 : ins 145 426 = some (.iconst (0), 427, 0, 0) := by decide +kernel
theorem i145_427 : ins 145 427 = some (.invokestatic 154, 430, 153, 0) := by decide +kernel
theorem i145_430 : ins 145 430 = some (.lastore, 431, 0, 0) := by decide +kernel
theorem i145_431 : ins 145 431 = some (.aload_n 0, 432, 0, 0) := by decide +kernel
theorem i145_432 : ins 145 432 = some (.getfield 34, 435, 12, 9) := by decide +kernel
theorem i145_435 : ins 145 435 = some (.iconst (3), 436, 0, 3) := by decide +kernel
theorem i145_436 : ins 145 436 = some (.bipush (108), 438, 0, 108) := by decide +kernel
theorem i145_438 : ins 145 438 = some (.bipush (101), 440, 0, 101) := by decide +kernel
theorem i145_440 : ins 145 440 = some (.bipush (97), 442, 0, 97) := by decide +kernel
theorem i145_442 : ins 145 442 = some (.bipush (114), 444, 0, 114) := by decide +kernel
theorem i145_444 : ins 145 444 = some (.bipush (110), 446, 0, 110) := by decide +kernel
theorem i145_446 : ins 145 446 = some (.iconst (0), 447, 0, 0) := by decide +kernel
theorem i145_447 : ins 145 447 = some (.iconst (0), 448, 0, 0) := by decide +kernel
theorem i145_448 : ins 145 448 = some (.invokestatic 154, 451, 153, 0) := by decide +kernel
theorem i145_451 : ins 145 451 = some (.lastore, 452, 0, 0) := by decide +kernel
theorem i145_452 : ins 145 452 = some (.aload_n 0, 453, 0, 0) := by decide +kernel
theorem i145_453 : ins 145 453 = some (.getfield 34, 456, 12, 9) := by decide +kernel
theorem i145_456 : ins 145 456 = some (.iconst (4), 457, 0, 4) := by decide +kernel
theorem i145_457 : ins 145 457 = some (.bipush (100), 459, 0, 100) := by decide +kernel
theorem i145_459 : ins 145 459 = some (.bipush (114), 461, 0, 114) := by decide +kernel
theorem i145_461 : ins 145 461 = some (.bipush (105), 463, 0, 105) := by decide +kernel
theorem i145_463 : ins 145 463 = some (.bipush (102), 465, 0, 102) := by decide +kernel
theorem i145_465 : ins 145 465 = some (.bipush (116), 467, 0, 116) := by decide +kernel
theorem i145_467 : ins 145 467 = some (.iconst (0), 468, 0, 0) := by decide +kernel
theorem i145_468 : ins 145 468 = some (.iconst (0), 469, 0, 0) := by decide +kernel
theorem i145_469 : ins 145 469 = some (.invokestatic 154, 472, 153, 0) := by decide +kernel
theorem i145_472 : ins 145 472 = some (.lastore, 473, 0, 0) := by decide +kernel
theorem i145_473 : ins 145 473 = some (.aload_n 0, 474, 0, 0) := by decide +kernel
theorem i145_474 : ins 145 474 = some (.getfield 34, 477, 12, 9) := by decide +kernel
theorem i145_477 : ins 145 477 = some (.iconst (5), 478, 0, 5) := by decide +kernel
theorem i145_478 : ins 145 478 = some (.bipush (100), 480, 0, 100) := by decide +kernel
theorem i145_480 : ins 145 480 = some (.bipush (97), 482, 0, 97) := by decide +kernel
theorem i145_482 : ins 145 482 = some (.bipush (121), 484, 0, 121) := by decide +kernel
theorem i145_484 : ins 145 484 = some (.bipush (115), 486, 0, 115) := by decide +kernel
theorem i145_486 : ins 145 486 = some (.iconst (0), 487, 0, 0) := by decide +kernel
theorem i145_487 : ins 145 487 = some (.iconst (0), 488, 0, 0) := by decide +kernel
theorem i145_488 : ins 145 488 = some (.iconst (0), 489, 0, 0) := by decide +kernel
theorem i145_489 : ins 145 489 = some (.invokestatic 154, 492, 153, 0) := by decide +kernel
theorem i145_492 : ins 145 492 = some (.lastore, 493, 0, 0) := by decide +kernel
theorem i145_493 : ins 145 493 = some (.aload_n 0, 494, 0, 0) := by decide +kernel
theorem i145_494 : ins 145 494 = some (.getfield 34, 497, 12, 9) := by decide +kernel
theorem i145_497 : ins 145 497 = some (.bipush (6), 499, 0, 6) := by decide +kernel
theorem i145_499 : ins 145 499 = some (.bipush (108), 501, 0, 108) := by decide +kernel
theorem i145_501 : ins 145 501 = some (.bipush (105), 503, 0, 105) := by decide +kernel
theorem i145_503 : ins 145 503 = some (.bipush (109), 505, 0, 109) := by decide +kernel
theorem i145_505 : ins 145 505 = some (.bipush (105), 507, 0, 105) := by decide +kernel
theorem i145_507 : ins 145 507 = some (.bipush (116), 509, 0, 116) := by decide +kernel
theorem i145_509 : ins 145 509 = some (.iconst (0), 510, 0, 0) := by decide +kernel
theorem i145_510 : ins 145 510 = some (.iconst (0), 511, 0, 0) := by decide +kernel
theorem i145_511 : ins 145 511 = some (.invokestatic 154, 514, 153, 0) := by decide +kernel
theorem i145_514 : ins 145 514 = some (.lastore, 515, 0, 0) := by decide +kernel
theorem i145_515 : ins 145 515 = some (.aload_n 0, 516, 0, 0) := by decide +kernel
theorem i145_516 : ins 145 516 = some (.getfield 34, 519, 12, 9) := by decide +kernel
theorem i145_519 : ins 145 519 = some (.bipush (7), 521, 0, 7) := by decide +kernel
theorem i145_521 : ins 145 521 = some (.bipush (115), 523, 0, 115) := by decide +kernel
theorem i145_523 : ins 145 523 = some (.bipush (101), 525, 0, 101) := by decide +kernel
theorem i145_525 : ins 145 525 = some (.bipush (101), 527, 0, 101) := by decide +kernel
theorem i145_527 : ins 145 527 = some (.bipush (100), 529, 0, 100) := by decide +kernel
theorem i145_529 : ins 145 529 = some (.iconst (0), 530, 0, 0) := by decide +kernel
theorem i145_530 : ins 145 530 = some (.iconst (0), 531, 0, 0) := by decide +kernel
theorem i145_531 : ins 145 531 = some (.iconst (0), 532, 0, 0) := by decide +kernel
theorem i145_532 : ins 145 532 = some (.invokestatic 154, 535, 153, 0) := by decide +kernel
theorem i145_535 : ins 145 535 = some (.lastore, 536, 0, 0) := by decide +kernel
theorem i145_536 : ins 145 536 = some (.aload_n 0, 537, 0, 0) := by decide +kernel
theorem i145_537 : ins 145 537 = some (.getfield 34, 540, 12, 9) := by decide +kernel
theorem i145_540 : ins 145 540 = some (.bipush (8), 542, 0, 8) := by decide +kernel
theorem i145_542 : ins 145 542 = some (.bipush (105), 544, 0, 105) := by decide +kernel
theorem i145_544 : ins 145 544 = some (.bipush (102), 546, 0, 102) := by decide +kernel
theorem i145_546 : ins 145 546 = some (.iconst (0), 547, 0, 0) := by decide +kernel
theorem i145_547 : ins 145 547 = some (.iconst (0), 548, 0, 0) := by decide +kernel
theorem i145_548 : ins 145 548 = some (.iconst (0), 549, 0, 0) := by decide +kernel
theorem i145_549 : ins 145 549 = some (.iconst (0), 550, 0, 0) := by decide +kernel
theorem i145_550 : ins 145 550 = some (.iconst (0), 551, 0, 0) := by decide +kernel
theorem i145_551 : ins 145 551 = some (.invokestatic 154, 554, 153, 0) := by decide +kernel
theorem i145_554 : ins 145 554 = some (.lastore, 555, 0, 0) := by decide +kernel
theorem i145_555 : ins 145 555 = some (.aload_n 0, 556, 0, 0) := by decide +kernel
theorem i145_556 : ins 145 556 = some (.getfield 34, 559, 12, 9) := by decide +kernel
theorem i145_559 : ins 145 559 = some (.bipush (9), 561, 0, 9) := by decide +kernel
theorem i145_561 : ins 145 561 = some (.bipush (116), 563, 0, 116) := by decide +kernel
theorem i145_563 : ins 145 563 = some (.bipush (104), 565, 0, 104) := by decide +kernel
theorem i145_565 : ins 145 565 = some (.bipush (101), 567, 0, 101) := by decide +kernel
theorem i145_567 : ins 145 567 = some (.bipush (110), 569, 0, 110) := by decide +kernel
theorem i145_569 : ins 145 569 = some (.iconst (0), 570, 0, 0) := by decide +kernel
theorem i145_570 : ins 145 570 = some (.iconst (0), 571, 0, 0) := by decide +kernel
theorem i145_571 : ins 145 571 = some (.iconst (0), 572, 0, 0) := by decide +kernel
theorem i145_572 : ins 145 572 = some (.invokestatic 154, 575, 153, 0) := by decide +kernel
theorem i145_575 : ins 145 575 = some (.lastore, 576, 0, 0) := by decide +kernel
theorem i145_576 : ins 145 576 = some (.aload_n 0, 577, 0, 0) := by decide +kernel
theorem i145_577 : ins 145 577 = some (.getfield 34, 580, 12, 9) := by decide +kernel
theorem i145_580 : ins 145 580 = some (.bipush (10), 582, 0, 10) := by decide +kernel
theorem i145_582 : ins 145 582 = some (.bipush (101), 584, 0, 101) := by decide +kernel
theorem i145_584 : ins 145 584 = some (.bipush (108), 586, 0, 108) := by decide +kernel
theorem i145_586 : ins 145 586 = some (.bipush (115), 588, 0, 115) := by decide +kernel
theorem i145_588 : ins 145 588 = some (.bipush (101), 590, 0, 101) := by decide +kernel
theorem i145_590 : ins 145 590 = some (.iconst (0), 591, 0, 0) := by decide +kernel
theorem i145_591 : ins 145 591 = some (.iconst (0), 592, 0, 0) := by decide +kernel
theorem i145_592 : ins 145 592 = some (.iconst (0), 593, 0, 0) := by decide +kernel
theorem i145_593 : ins 145 593 = some (.invokestatic 154, 596, 153, 0) := by decide +kernel
theorem i145_596 : ins 145 596 = some (.lastore, 597, 0, 0) := by decide +kernel
theorem i145_597 : ins 145 597 = some (.aload_n 0, 598, 0, 0) := by decide +kernel
theorem i145_598 : ins 145 598 = some (.getfield 34, 601, 12, 9) := by decide +kernel
theorem i145_601 : ins 145 601 = some (.bipush (11), 603, 0, 11) := by decide +kernel
theorem i145_603 : ins 145 603 = some (.bipush (111), 605, 0, 111) := by decide +kernel
theorem i145_605 : ins 145 605 = some (.bipush (102), 607, 0, 102) := by decide +kernel
theorem i145_607 : ins 145 607 = some (.bipush (102), 609, 0, 102) := by decide +kernel
theorem i145_609 : ins 145 609 = some (.iconst (0), 610, 0, 0) := by decide +kernel
theorem i145_610 : ins 145 610 = some (.iconst (0), 611, 0, 0) := by decide +kernel
theorem i145_611 : ins 145 611 = some (.iconst (0), 612, 0, 0) := by decide +kernel
theorem i145_612 : ins 145 612 = some (.iconst (0), 613, 0, 0) := by decide +kernel
theorem i145_613 : ins 145 613 = some (.invokestatic 154, 616, 153, 0) := by decide +kernel
theorem i145_616 : ins 145 616 = some (.lastore, 617, 0, 0) := by decide +kernel
theorem i145_617 : ins 145 617 = some (.aload_n 0, 618, 0, 0) := by decide +kernel
theorem i145_618 : ins 145 618 = some (.getfield 34, 621, 12, 9) := by decide +kernel
theorem i145_621 : ins 145 621 = some (.bipush (12), 623, 0, 12) := by decide +kernel
theorem i145_623 : ins 145 623 = some (.bipush (121), 625, 0, 121) := by decide +kernel
theorem i145_625 : ins 145 625 = some (.bipush (101), 627, 0, 101) := by decide +kernel
theorem i145_627 : ins 145 627 = some (.bipush (97), 629, 0, 97) := by decide +kernel
theorem i145_629 : ins 145 629 = some (.bipush (114), 631, 0, 114) := by decide +kernel
theorem i145_631 : ins 145 631 = some (.iconst (0), 632, 0, 0) := by decide +kernel
theorem i145_632 : ins 145 632 = some (.iconst (0), 633, 0, 0) := by decide +kernel
theorem i145_633 : ins 145 633 = some (.iconst (0), 634, 0, 0) := by decide +kernel
theorem i145_634 : ins 145 634 = some (.invokestatic 154, 637, 153, 0) := by decide +kernel
theorem i145_637 : ins 145 637 = some (.lastore, 638, 0, 0) := by decide +kernel
theorem i145_638 : ins 145 638 = some (.aload_n 0, 639, 0, 0) := by decide +kernel
theorem i145_639 : ins 145 639 = some (.getfield 34, 642, 12, 9) := by decide +kernel
theorem i145_642 : ins 145 642 = some (.bipush (13), 644, 0, 13) := by decide +kernel
theorem i145_644 : ins 145 644 = some (.bipush (119), 646, 0, 119) := by decide +kernel
theorem i145_646 : ins 145 646 = some (.bipush (111), 648, 0, 111) := by decide +kernel
theorem i145_648 : ins 145 648 = some (.bipush (114), 650, 0, 114) := by decide +kernel
theorem i145_650 : ins 145 650 = some (.bipush (110), 652, 0, 110) := by decide +kernel
theorem i145_652 : ins 145 652 = some (.iconst (0), 653, 0, 0) := by decide +kernel
theorem i145_653 : ins 145 653 = some (.iconst (0), 654, 0, 0) := by decide +kernel
theorem i145_654 : ins 145 654 = some (.iconst (0), 655, 0, 0) := by decide +kernel
theorem i145_655 : ins 145 655 = some (.invokestatic 154, 658, 153, 0) := by decide +kernel
theorem i145_658 : ins 145 658 = some (.lastore, 659, 0, 0) := by decide +kernel
theorem i145_659 : ins 145 659 = some (.aload_n 0, 660, 0, 0) := by decide +kernel
theorem i145_660 : ins 145 660 = some (.getfield 34, 663, 12, 9) := by decide +kernel
theorem i145_663 : ins 145 663 = some (.bipush (14), 665, 0, 14) := by decide +kernel
theorem i145_665 : ins 145 665 = some (.bipush (111), 667, 0, 111) := by decide +kernel
theorem i145_667 : ins 145 667 = some (.bipush (119), 669, 0, 119) := by decide +kernel
theorem i145_669 : ins 145 669 = some (.bipush (110), 671, 0, 110) := by decide +kernel
theorem i145_671 : ins 145 671 = some (.iconst (0), 672, 0, 0) := by decide +kernel
theorem i145_672 : ins 145 672 = some (.iconst (0), 673, 0, 0) := by decide +kernel
theorem i145_673 : ins 145 673 = some (.iconst (0), 674, 0, 0) := by decide +kernel
theorem i145_674 : ins 145 674 = some (.iconst (0), 675, 0, 0) := by decide +kernel
theorem i145_675 : ins 145 675 = some (.invokestatic 154, 678, 153, 0) := by decide +kernel
theorem i145_678 : ins 145 678 = some (.lastore, 679, 0, 0) := by decide +kernel
theorem i145_679 : ins 145 679 = some (.aload_n 0, 680, 0, 0) := by decide +kernel
theorem i145_680 : ins 145 680 = some (.getfield 34, 683, 12, 9) := by decide +kernel
theorem i145_683 : ins 145 683 = some (.bipush (15), 685, 0, 15) := by decide +kernel
theorem i145_685 : ins 145 685 = some (.bipush (104), 687, 0, 104) := by decide +kernel
theorem i145_687 : ins 145 687 = some (.bipush (97), 689, 0, 97) := by decide +kernel
theorem i145_689 : ins 145 689 = some (.bipush (110), 691, 0, 110) := by decide +kernel
theorem i145_691 : ins 145 691 = some (.bipush (100), 693, 0, 100) := by decide +kernel
theorem i145_693 : ins 145 693 = some (.iconst (0), 694, 0, 0) := by decide +kernel
theorem i145_694 : ins 145 694 = some (.iconst (0), 695, 0, 0) := by decide +kernel
theorem i145_695 : ins 145 695 = some (.iconst (0), 696, 0, 0) := by decide +kernel
theorem i145_696 : ins 145 696 = some (.invokestatic 154, 699, 153, 0) := by decide +kernel
theorem i145_699 : ins 145 699 = some (.lastore, 700, 0, 0) := by decide +kernel
theorem i145_700 : ins 145 700 = some (.aload_n 0, 701, 0, 0) := by decide +kernel
theorem i145_701 : ins 145 701 = some (.getfield 34, 704, 12, 9) := by decide +kernel
theorem i145_704 : ins 145 704 = some (.bipush (16), 706, 0, 16) := by decide +kernel
theorem i145_706 : ins 145 706 = some (.bipush (100), 708, 0, 100) := by decide +kernel
theorem i145_708 : ins 145 708 = some (.bipush (97), 710, 0, 97) := by decide +kernel
theorem i145_710 : ins 145 710 = some (.bipush (121), 712, 0, 121) := by decide +kernel
theorem i145_712 : ins 145 712 = some (.iconst (0), 713, 0, 0) := by decide +kernel
theorem i145_713 : ins 145 713 = some (.iconst (0), 714, 0, 0) := by decide +kernel
theorem i145_714 : ins 145 714 = some (.iconst (0), 715, 0, 0) := by decide +kernel
theorem i145_715 : ins 145 715 = some (.iconst (0), 716, 0, 0) := by decide +kernel
theorem i145_716 : ins 145 716 = some (.invokestatic 154, 719, 153, 0) := by decide +kernel
theorem i145_719 : ins 145 719 = some (.lastore, 720, 0, 0) := by decide +kernel
theorem i145_720 : ins 145 720 = some (.aload_n 0, 721, 0, 0) := by decide +kernel
theorem i145_721 : ins 145 721 = some (.invokevirtual 158, 724, 185, 0) := by decide +kernel
theorem i145_724 : ins 145 724 = some (.return_, 725, 0, 0) := by decide +kernel
theorem i146_0 : ins 146 0 = some (.aload_n 0, 1, 0, 0) := by decide +kernel
theorem i146_1 : ins 146 1 = some (.getfield 161, 4, 12, 2) := by decide +kernel
theorem i146_4 : ins 146 4 = some (.bipush (20), 6, 0, 20) := by decide +kernel
theorem i146_6 : ins 146 6 = some (.iadd, 7, 0, 0) := by decide +kernel
theorem i146_7 : ins 146 7 = some (.sipush (2000), 10, 0, 2000) := by decide +kernel
theorem i146_10 : ins 146 10 = some (.if_icmp .le (5), 13, 15, 0) := by decide +kernel
theorem i146_13 : ins 146 13 = some (.iconst (-1), 14, 0, -1) := by decide +kernel
theorem i146_14 : ins 146 14 = some (.ireturn, 15, 0, 0) := by decide +kernel
theorem i146_15 : ins 146 15 = some (.aload_n 0, 16, 0, 0) := by decide +kernel
theorem i146_16 : ins 146 16 = some (.iload_n 1, 17, 0, 0) := by decide +kernel
theorem i146_17 : ins 146 17 = some (.invokevirtual 164, 20, 147, 0) := by decide +kernel
theorem i146_20 : ins 146 20 = some (.aload_n 0, 21, 0, 0) := by decide +kernel
theorem i146_21 : ins 146 21 = some (.iload_n 2, 22, 0, 0) := by decide +kernel
theorem i146_22 : ins 146 22 = some (.invokevirtual 164, 25, 147, 0) := by decide +kernel
theorem i146_25 : ins 146 25 = some (.aload_n 0, 26, 0, 0) := by decide +kernel
theorem i146_26 : ins 146 26 = some (.iload_n 3, 27, 0, 0) := by decide +kernel
theorem i146_27 : ins 146 27 = some (.invokevirtual 164, 30, 147, 0) := by decide +kernel
theorem i146_30 : ins 146 30 = some (.aload_n 0, 31, 0, 0) := by decide +kernel
theorem i146_31 : ins 146 31 = some (.iload 4, 33, 0, 0) := by decide +kernel
theorem i146_33 : ins 146 33 = some (.invokevirtual 164, 36, 147, 0) := by decide +kernel
theorem i146_36 : ins 146 36 = some (.aload_n 0, 37, 0, 0) := by decide +kernel
theorem i146_37 : ins 146 37 = some (.iload 5, 39, 0, 0) := by decide +kernel
theorem i146_39 : ins 146 39 = some (.invokevirtual 164, 42, 147, 0) := by decide +kernel
theorem i146_42 : ins 146 42 = some (.aload_n 0, 43, 0, 0) := by decide +kernel
theorem i146_43 : ins 146 43 = some (.getfield 161, 46, 12, 2) := by decide +kernel
theorem i146_46 : ins 146 46 = some (.ireturn, 47, 0, 0) := by decide +kernel
theorem i147_0 : ins 147 0 = some (.bipush (24), 2, 0, 24) := by decide +kernel
theorem i147_2 : ins 147 2 = some (.istore_n 2, 3, 0, 0) := by decide +kernel
theorem i147_3 : ins 147 3 = some (.iload_n 2, 4, 0, 0) := by decide +kernel
theorem i147_4 : ins 147 4 = some (.ifCond .lt (32), 7, 36, 0) := by decide +kernel
theorem i147_7 : ins 147 7 = some (.aload_n 0, 8, 0, 0) := by decide +kernel
theorem i147_8 : ins 147 8 = some (.getfield 13, 11, 12, 1) := by decide +kernel
theorem i147_11 : ins 147 11 = some (.aload_n 0, 12, 0, 0) := by decide +kernel
theorem i147_12 : ins 147 12 = some (.getfield 161, 15, 12, 2) := by decide +kernel
theorem i147_15 : ins 147 15 = some (.iload_n 1, 16, 0, 0) := by decide +kernel
theorem i147_16 : ins 147 16 = some (.iload_n 2, 17, 0, 0) := by decide +kernel
theorem i147_17 : ins 147 17 = some (.ishr, 18, 0, 0) := by decide +kernel
theorem i147_18 : ins 147 18 = some (.i2b, 19, 0, 0) := by decide +kernel
theorem i147_19 : ins 147 19 = some (.bastore, 20, 0, 0) := by decide +kernel
theorem i147_20 : ins 147 20 = some (.aload_n 0, 21, 0, 0) := by decide +kernel
theorem i147_21 : ins 147 21 = some (.dup, 22, 0, 0) := by decide +kernel
theorem i147_22 : ins 147 22 = some (.getfield 161, 25, 12, 2) := by decide +kernel
theorem i147_25 : ins 147 25 = some (.iconst (1), 26, 0, 1) := by decide +kernel
theorem i147_26 : ins 147 26 = some (.iadd, 27, 0, 0) := by decide +kernel
theorem i147_27 : ins 147 27 = some (.putfield 161, 30, 12, 2) := by decide +kernel
theorem i147_30 : ins 147 30 = some (.iinc 2 (-8), 33, 0, -8) := by decide +kernel
theorem i147_33 : ins 147 33 = some (.goto (-30), 36, 3, 0) := by decide +kernel
theorem i147_36 : ins 147 36 = some (.return_, 37, 0, 0) := by decide +kernel
theorem i148_0 : ins 148 0 = some (.iload_n 1, 1, 0, 0) := by decide +kernel
theorem i148_1 : ins 148 1 = some (.ifCond .lt (11), 4, 12, 0) := by decide +kernel
theorem i148_4 : ins 148 4 = some (.iload_n 1, 5, 0, 0) := by decide +kernel
theorem i148_5 : ins 148 5 = some (.aload_n 0, 6, 0, 0) := by decide +kernel
theorem i148_6 : ins 148 6 = some (.getfield 161, 9, 12, 2) := by decide +kernel
theorem i148_9 : ins 148 9 = some (.if_icmp .le (5), 12, 14, 0) := by decide +kernel
theorem i148_12 : ins 148 12 = some (.iconst (-1), 13, 0, -1) := by decide +kernel
theorem i148_13 : ins 148 13 = some (.ireturn, 14, 0, 0) := by decide +kernel
theorem i148_14 : ins 148 14 = some (.aload_n 0, 15, 0, 0) := by decide +kernel
theorem i148_15 : ins 148 15 = some (.dup, 16, 0, 0) := by decide +kernel
theorem i148_16 : ins 148 16 = some (.getfield 161, 19, 12, 2) := by decide +kernel
theorem i148_19 : ins 148 19 = some (.iload_n 1, 20, 0, 0) := by decide +kernel
theorem i148_20 : ins 148 20 = some (.isub, 21, 0, 0) := by decide +kernel
theorem i148_21 : ins 148 21 = some (.putfield 161, 24, 12, 2) := by decide +kernel
theorem i148_24 : ins 148 24 = some (.aload_n 0, 25, 0, 0) := by decide +kernel
theorem i148_25 : ins 148 25 = some (.getfield 161, 28, 12, 2) := by decide +kernel
theorem i148_28 : ins 148 28 = some (.ireturn, 29, 0, 0) := by decide +kernel
theorem i149_0 : ins 149 0 = some (.iload_n 1, 1, 0, 0) := by decide +kernel
theorem i149_1 : ins 149 1 = some (.aload_n 0, 2, 0, 0) := by decide +kernel
theorem i149_2 : ins 149 2 = some (.getfield 167, 5, 12, 4) := by decide +kernel
theorem i149_5 : ins 149 5 = some (.if_icmp .ge (16), 8, 21, 0) := by decide +kernel
theorem i149_8 : ins 149 8 = some (.aload_n 0, 9, 0, 0) := by decide +kernel
theorem i149_9 : ins 149 9 = some (.getfield 17, 12, 12, 3) := by decide +kernel
theorem i149_12 : ins 149 12 = some (.iload_n 1, 13, 0, 0) := by decide +kernel
theorem i149_13 : ins 149 13 = some (.baload, 14, 0, 0) := by decide +kernel
theorem i149_14 : ins 149 14 = some (.sipush (255), 17, 0, 255) := by decide +kernel
theorem i149_17 : ins 149 17 = some (.iand, 18, 0, 0) := by decide +kernel
theorem i149_18 : ins 149 18 = some (.goto (4), 21, 22, 0) := by decide +kernel
theorem i149_21 : ins 149 21 = some (.iconst (0), 22, 0, 0) := by decide +kernel
theorem i149_22 : ins 149 22 = some (.ireturn, 23, 0, 0) := by decide +kernel
theorem i150_0 : ins 150 0 = some (.iload_n 0, 1, 0, 0) := by decide +kernel
theorem i150_1 : ins 150 1 = some (.bipush (48), 3, 0, 48) := by decide +kernel
theorem i150_3 : ins 150 3 = some (.if_icmp .lt (13), 6, 16, 0) := by decide +kernel
theorem i150_6 : ins 150 6 = some (.iload_n 0, 7, 0, 0) := by decide +kernel
theorem i150_7 : ins 150 7 = some (.bipush (57), 9, 0, 57) := by decide +kernel
theorem i150_9 : ins 150 9 = some (.if_icmp .gt (7), 12, 16, 0) := by decide +kernel
theorem i150_12 : ins 150 12 = some (.iconst (1), 13, 0, 1) := by decide +kernel
theorem i150_13 : ins 150 13 = some (.goto (4), 16, 17, 0) := by decide +kernel
theorem i150_16 : ins 150 16 = some (.iconst (0), 17, 0, 0) := by decide +kernel
theorem i150_17 : ins 150 17 = some (.ireturn, 18, 0, 0) := by decide +kernel
theorem i151_0 : ins 151 0 = some (.iload_n 0, 1, 0, 0) := by decide +kernel
theorem i151_1 : ins 151 1 = some (.bipush (97), 3, 0, 97) := by decide +kernel
theorem i151_3 : ins 151 3 = some (.if_icmp .lt (13), 6, 16, 0) := by decide +kernel
theorem i151_6 : ins 151 6 = some (.iload_n 0, 7, 0, 0) := by decide +kernel
theorem i151_7 : ins 151 7 = some (.bipush (122), 9, 0, 122) := by decide +kernel
theorem i151_9 : ins 151 9 = some (.if_icmp .gt (7), 12, 16, 0) := by decide +kernel
theorem i151_12 : ins 151 12 = some (.iconst (1), 13, 0, 1) := by decide +kernel
theorem i151_13 : ins 151 13 = some (.goto (4), 16, 17, 0) := by decide +kernel
theorem i151_16 : ins 151 16 = some (.iconst (0), 17, 0, 0) := by decide +kernel
theorem i151_17 : ins 151 17 = some (.ireturn, 18, 0, 0) := by decide +kernel
theorem i152_0 : ins 152 0 = some (.iload_n 2, 1, 0, 0) := by decide +kernel
theorem i152_1 : ins 152 1 = some (.ifCond .ne (7), 4, 8, 0) := by decide +kernel
theorem i152_4 : ins 152 4 = some (.lload_n 0, 5, 0, 0) := by decide +kernel
theorem i152_5 : ins 152 5 = some (.goto (16), 8, 21, 0) := by decide +kernel
theorem i152_8 : ins 152 8 = some (.ldc2_w 170, 11, 0, 27) := by decide +kernel
theorem i152_11 : ins 152 11 = some (.lload_n 0, 12, 0, 0) := by decide +kernel
theorem i152_12 : ins 152 12 = some (.lmul, 13, 0, 0) := by decide +kernel
theorem i152_13 : ins 152 13 = some (.iload_n 2, 14, 0, 0) := by decide +kernel
theorem i152_14 : ins 152 14 = some (.bipush (97), 16, 0, 97) := by decide +kernel
theorem i152_16 : ins 152 16 = some (.isub, 17, 0, 0) := by decide +kernel
theorem i152_17 : ins 152 17 = some (.iconst (1), 18, 0, 1) := by decide +kernel
theorem i152_18 : ins 152 18 = some (.iadd, 19, 0, 0) := by decide +kernel
theorem i152_19 : ins 152 19 = some (.i2l, 20, 0, 0) := by decide +kernel
theorem i152_20 : ins 152 20 = some (.ladd, 21, 0, 0) := by decide +kernel
theorem i152_21 : ins 152 21 = some (.lreturn, 22, 0, 0) := by decide +kernel
theorem i153_0 : ins 153 0 = some (.lconst 0, 1, 0, 0) := by decide +kernel
theorem i153_1 : ins 153 1 = some (.iload_n 0, 2, 0, 0) := by decide +kernel
theorem i153_2 : ins 153 2 = some (.invokestatic 172, 5, 152, 0) := by decide +kernel
theorem i153_5 : ins 153 5 = some (.iload_n 1, 6, 0, 0) := by decide +kernel
theorem i153_6 : ins 153 6 = some (.invokestatic 172, 9, 152, 0) := by decide +kernel
theorem i153_9 : ins 153 9 = some (.iload_n 2, 10, 0, 0) := by decide +kernel
theorem i153_10 : ins 153 10 = some (.invokestatic 172, 13, 152, 0) := by decide +kernel
theorem i153_13 : ins 153 13 = some (.iload_n 3, 14, 0, 0) := by decide +kernel
theorem i153_14 : ins 153 14 = some (.invokestatic 172, 17, 152, 0) := by decide +kernel
theorem i153_17 : ins 153 17 = some (.iload 4, 19, 0, 0) := by decide +kernel
theorem i153_19 : ins 153 19 = some (.invokestatic 172, 22, 152, 0) := by decide +kernel
theorem i153_22 : ins 153 22 = some (.iload 5, 24, 0, 0) := by decide +kernel
theorem i153_24 : ins 153 24 = some (.invokestatic 172, 27, 152, 0) := by decide +kernel
theorem i153_27 : ins 153 27 = some (.iload 6, 29, 0, 0) := by decide +kernel
theorem i153_29 : ins 153 29 = some (.invokestatic 172, 32, 152, 0) := by decide +kernel
theorem i153_32 : ins 153 32 = some (.lreturn, 33, 0, 0) := by decide +kernel
theorem i154_0 : ins 154 0 = some (.aload_n 0, 1, 0, 0) := by decide +kernel
theorem i154_1 : ins 154 1 = some (.getfield 20, 4, 12, 5) := by decide +kernel
theorem i154_4 : ins 154 4 = some (.aload_n 0, 5, 0, 0) := by decide +kernel
theorem i154_5 : ins 154 5 = some (.getfield 176, 8, 12, 10) := by decide +kernel
theorem i154_8 : ins 154 8 = some (.iload_n 1, 9, 0, 0) := by decide +kernel
theorem i154_9 : ins 154 9 = some (.iastore, 10, 0, 0) := by decide +kernel
theorem i154_10 : ins 154 10 = some (.aload_n 0, 11, 0, 0) := by decide +kernel
theorem i154_11 : ins 154 11 = some (.getfield 24, 14, 12, 6) := by decide +kernel
theorem i154_14 : ins 154 14 = some (.aload_n 0, 15, 0, 0) := by decide +kernel
theorem i154_15 : ins 154 15 = some (.getfield 176, 18, 12, 10) := by decide +kernel
theorem i154_18 : ins 154 18 = some (.iload_n 2, 19, 0, 0) := by decide +kernel
theorem i154_19 : ins 154 19 = some (.iastore, 20, 0, 0) := by decide +kernel
theorem i154_20 : ins 154 20 = some (.aload_n 0, 21, 0, 0) := by decide +kernel
theorem i154_21 : ins 154 21 = some (.getfield 27, 24, 12, 7) := by decide +kernel
theorem i154_24 : ins 154 24 = some (.aload_n 0, 25, 0, 0) := by decide +kernel
theorem i154_25 : ins 154 25 = some (.getfield 176, 28, 12, 10) := by decide +kernel
theorem i154_28 : ins 154 28 = some (.iload_n 3, 29, 0, 0) := by decide +kernel
theorem i154_29 : ins 154 29 = some (.iastore, 30, 0, 0) := by decide +kernel
theorem i154_30 : ins 154 30 = some (.aload_n 0, 31, 0, 0) := by decide +kernel
theorem i154_31 : ins 154 31 = some (.getfield 30, 34, 12, 8) := by decide +kernel
theorem i154_34 : ins 154 34 = some (.aload_n 0, 35, 0, 0) := by decide +kernel
theorem i154_35 : ins 154 35 = some (.getfield 176, 38, 12, 10) := by decide +kernel
theorem i154_38 : ins 154 38 = some (.lload 4, 40, 0, 0) := by decide +kernel
theorem i154_40 : ins 154 40 = some (.lastore, 41, 0, 0) := by decide +kernel
theorem i154_41 : ins 154 41 = some (.aload_n 0, 42, 0, 0) := by decide +kernel
theorem i154_42 : ins 154 42 = some (.dup, 43, 0, 0) := by decide +kernel
theorem i154_43 : ins 154 43 = some (.getfield 176, 46, 12, 10) := by decide +kernel
theorem i154_46 : ins 154 46 = some (.iconst (1), 47, 0, 1) := by decide +kernel
theorem i154_47 : ins 154 47 = some (.iadd, 48, 0, 0) := by decide +kernel
theorem i154_48 : ins 154 48 = some (.putfield 176, 51, 12, 10) := by decide +kernel
theorem i154_51 : ins 154 51 = some (.return_, 52, 0, 0) := by decide +kernel
theorem i155_0 : ins 155 0 = some (.aload_n 0, 1, 0, 0) := by decide +kernel
theorem i155_1 : ins 155 1 = some (.iconst (0), 2, 0, 0) := by decide +kernel
theorem i155_2 : ins 155 2 = some (.putfield 176, 5, 12, 10) := by decide +kernel
theorem i155_5 : ins 155 5 = some (.iconst (0), 6, 0, 0) := by decide +kernel
theorem i155_6 : ins 155 6 = some (.istore_n 1, 7, 0, 0) := by decide +kernel
theorem i155_7 : ins 155 7 = some (.aload_n 0, 8, 0, 0) := by decide +kernel
theorem i155_8 : ins 155 8 = some (.getfield 176, 11, 12, 10) := by decide +kernel
theorem i155_11 : ins 155 11 = some (.sipush (400), 14, 0, 400) := by decide +kernel
theorem i155_14 : ins 155 14 = some (.if_icmp .gt (280), 17, 294, 0) := by decide +kernel
theorem i155_17 : ins 155 17 = some (.aload_n 0, 18, 0, 0) := by decide +kernel
theorem i155_18 : ins 155 18 = some (.iload_n 1, 19, 0, 0) := by decide +kernel
theorem i155_19 : ins 155 19 = some (.invokevirtual 179, 22, 149, 0) := by decide +kernel
theorem i155_22 : ins 155 22 = some (.istore_n 2, 23, 0, 0) := by decide +kernel
theorem i155_23 : ins 155 23 = some (.iload_n 1, 24, 0, 0) := by decide +kernel
theorem i155_24 : ins 155 24 = some (.aload_n 0, 25, 0, 0) := by decide +kernel
theorem i155_25 : ins 155 25 = some (.getfield 167, 28, 12, 4) := by decide +kernel
theorem i155_28 : ins 155 28 = some (.if_icmp .lt (15), 31, 43, 0) := by decide +kernel
theorem i155_31 : ins 155 31 = some (.aload_n 0, 32, 0, 0) := by decide +kernel
theorem i155_32 : ins 155 32 = some (.iconst (0), 33, 0, 0) := by decide +kernel
theorem i155_33 : ins 155 33 = some (.aload_n 0, 34, 0, 0) := by decide +kernel
theorem i155_34 : ins 155 34 = some (.getfield 167, 37, 12, 4) := by decide +kernel
theorem i155_37 : ins 155 37 = some (.iconst (0), 38, 0, 0) := by decide +kernel
theorem i155_38 : ins 155 38 = some (.lconst 0, 39, 0, 0) := by decide +kernel
theorem i155_39 : ins 155 39 = some (.invokevirtual 183, 42, 154, 0) := by decide +kernel
theorem i155_42 : ins 155 42 = some (.return_, 43, 0, 0) := by decide +kernel
theorem i155_43 : ins 155 43 = some (.iload_n 2, 44, 0, 0) := by decide +kernel
theorem i155_44 : ins 155 44 = some (.bipush (9), 46, 0, 9) := by decide +kernel
theorem i155_46 : ins 155 46 = some (.if_icmp .eq (21), 49, 67, 0) := by decide +kernel
theorem i155_49 : ins 155 49 = some (.iload_n 2, 50, 0, 0) := by decide +kernel
theorem i155_50 : ins 155 50 = some (.bipush (10), 52, 0, 10) := by decide +kernel
theorem i155_52 : ins 155 52 = some (.if_icmp .eq (15), 55, 67, 0) := by decide +kernel
theorem i155_55 : ins 155 55 = some (.iload_n 2, 56, 0, 0) := by decide +kernel
theorem i155_56 : ins 155 56 = some (.bipush (13), 58, 0, 13) := by decide +kernel
theorem i155_58 : ins 155 58 = some (.if_icmp .eq (9), 61, 67, 0) := by decide +kernel
theorem i155_61 : ins 155 61 = some (.iload_n 2, 62, 0, 0) := by decide +kernel
theorem i155_62 : ins 155 62 = some (.bipush (32), 64, 0, 32) := by decide +kernel
theorem i155_64 : ins 155 64 = some (.if_icmp .ne (9), 67, 73, 0) := by decide +kernel
theorem i155_67 : ins 155 67 = some (.iinc 1 (1), 70, 0, 1) := by decide +kernel
theorem i155_70 : ins 155 70 = some (.goto (221), 73, 291, 0) := by decide +kernel
theorem i155_73 : ins 155 73 = some (.iload_n 2, 74, 0, 0) := by decide +kernel
theorem i155_74 : ins 155 74 = some (.invokestatic 187, 77, 151, 0) := by decide +kernel
theorem i155_77 : ins 155 77 = some (.ifCond .eq (119), 80, 196, 0) := by decide +kernel
theorem i155_80 : ins 155 80 = some (.iconst (0), 81, 0, 0) := by decide +kernel
theorem i155_81 : ins 155 81 = some (.istore_n 3, 82, 0, 0) := by decide +kernel
theorem i155_82 : ins 155 82 = some (.lconst 0, 83, 0, 0) := by decide +kernel
theorem i155_83 : ins 155 83 = some (.lstore 4, 85, 0, 0) := by decide +kernel
theorem i155_85 : ins 155 85 = some (.aload_n 0, 86, 0, 0) := by decide +kernel
theorem i155_86 : ins 155 86 = some (.iload_n 1, 87, 0, 0) := by decide +kernel
theorem i155_87 : ins 155 87 = some (.iload_n 3, 88, 0, 0) := by decide +kernel
theorem i155_88 : ins 155 88 = some (.iadd, 89, 0, 0) := by decide +kernel
theorem i155_89 : ins 155 89 = some (.invokevirtual 179, 92, 149, 0) := by decide +kernel
theorem i155_92 : ins 155 92 = some (.invokestatic 187, 95, 151, 0) := by decide +kernel
theorem i155_95 : ins 155 95 = some (.ifCond .eq (29), 98, 124, 0) := by decide +kernel
theorem i155_98 : ins 155 98 = some (.iload_n 3, 99, 0, 0) := by decide +kernel
theorem i155_99 : ins 155 99 = some (.bipush (8), 101, 0, 8) := by decide +kernel
theorem i155_101 : ins 155 101 = some (.if_icmp .ge (17), 104, 118, 0) := by decide +kernel
theorem i155_104 : ins 155 104 = some (.lload 4, 106, 0, 0) := by decide +kernel
theorem i155_106 : ins 155 106 = some (.aload_n 0, 107, 0, 0) := by decide +kernel
theorem i155_107 : ins 155 107 = some (.iload_n 1, 108, 0, 0) := by decide +kernel
theorem i155_108 : ins 155 108 = some (.iload_n 3, 109, 0, 0) := by decide +kernel
theorem i155_109 : ins 155 109 = some (.iadd, 110, 0, 0) := by decide +kernel
theorem i155_110 : ins 155 110 = some (.invokevirtual 179, 113, 149, 0) := by decide +kernel
theorem i155_113 : ins 155 113 = some (.invokestatic 172, 116, 152, 0) := by decide +kernel
theorem i155_116 : ins 155 116 = some (.lstore 4, 118, 0, 0) := by decide +kernel
theorem i155_118 : ins 155 118 = some (.iinc 3 (1), 121, 0, 1) := by decide +kernel
theorem i155_121 : ins 155 121 = some (.goto (-36), 124, 85, 0) := by decide +kernel
theorem i155_124 : ins 155 124 = some (.iload_n 3, 125, 0, 0) := by decide +kernel
theorem i155_125 : ins 155 125 = some (.bipush (8), 127, 0, 8) := by decide +kernel
theorem i155_127 : ins 155 127 = some (.if_icmp .le (7), 130, 134, 0) := by decide +kernel
theorem i155_130 : ins 155 130 = some (.iconst (3), 131, 0, 3) := by decide +kernel
theorem i155_131 : ins 155 131 = some (.goto (4), 134, 135, 0) := by decide +kernel
theorem i155_134 : ins 155 134 = some (.iconst (1), 135, 0, 1) := by decide +kernel
theorem i155_135 : ins 155 135 = some (.istore 6, 137, 0, 0) := by decide +kernel
theorem i155_137 : ins 155 137 = some (.iload_n 3, 138, 0, 0) := by decide +kernel
theorem i155_138 : ins 155 138 = some (.bipush (7), 140, 0, 7) := by decide +kernel
theorem i155_140 : ins 155 140 = some (.if_icmp .gt (39), 143, 179, 0) := by decide +kernel
theorem i155_143 : ins 155 143 = some (.iconst (0), 144, 0, 0) := by decide +kernel
theorem i155_144 : ins 155 144 = some (.istore 7, 146, 0, 0) := by decide +kernel
theorem i155_146 : ins 155 146 = some (.iload 7, 148, 0, 0) := by decide +kernel
theorem i155_148 : ins 155 148 = some (.bipush (17), 150, 0, 17) := by decide +kernel
theorem i155_150 : ins 155 150 = some (.if_icmp .ge (29), 153, 179, 0) := by decide +kernel
theorem i155_153 : ins 155 153 = some (.aload_n 0, 154, 0, 0) := by decide +kernel
theorem i155_154 : ins 155 154 = some (.getfield 34, 157, 12, 9) := by decide +kernel
theorem i155_157 : ins 155 157 = some (.iload 7, 159, 0, 0) := by decide +kernel
theorem i155_159 : ins 155 159 = some (.laload, 160, 0, 0) := by decide +kernel
theorem i155_160 : ins 155 160 = some (.lload 4, 162, 0, 0) := by decide +kernel
theorem i155_162 : ins 155 162 = some (.lcmp, 163, 0, 0) := by decide +kernel
theorem i155_163 : ins 155 163 = some (.ifCond .ne (10), 166, 173, 0) := by decide +kernel
theorem i155_166 : ins 155 166 = some (.bipush (20), 168, 0, 20) := by decide +kernel
theorem i155_168 : ins 155 168 = some (.iload 7, 170, 0, 0) := by decide +kernel
theorem i155_170 : ins 155 170 = some (.iadd, 171, 0, 0) := by decide +kernel
theorem i155_171 : ins 155 171 = some (.istore 6, 173, 0, 0) := by decide +kernel
theorem i155_173 : ins 155 173 = some (.iinc 7 (1), 176, 0, 1) := by decide +kernel
theorem i155_176 : ins 155 176 = some (.goto (-30), 179, 146, 0) := by decide +kernel
theorem i155_179 : ins 155 179 = some (.aload_n 0, 180, 0, 0) := by decide +kernel
theorem i155_180 : ins 155 180 = some (.iload 6, 182, 0, 0) := by decide +kernel
theorem i155_182 : ins 155 182 = some (.iload_n 1, 183, 0, 0) := by decide +kernel
theorem i155_183 : ins 155 183 = some (.iconst (0), 184, 0, 0) := by decide +kernel
theorem i155_184 : ins 155 184 = some (.lload 4, 186, 0, 0) := by decide +kernel
theorem i155_186 : ins 155 186 = some (.invokevirtual 183, 189, 154, 0) := by decide +kernel
theorem i155_189 : ins 155 189 = some (.iload_n 1, 190, 0, 0) := by decide +kernel
theorem i155_190 : ins 155 190 = some (.iload_n 3, 191, 0, 0) := by decide +kernel
theorem i155_191 : ins 155 191 = some (.iadd, 192, 0, 0) := by decide +kernel
theorem i155_192 : ins 155 192 = some (.istore_n 1, 193, 0, 0) := by decide +kernel
theorem i155_193 : ins 155 193 = some (.goto (98), 196, 291, 0) := by decide +kernel
theorem i155_196 : ins 155 196 = some (.iload_n 2, 197, 0, 0) := by decide +kernel
theorem i155_197 : ins 155 197 = some (.invokestatic 191, 200, 150, 0) := by decide +kernel
theorem i155_200 : ins 155 200 = some (.ifCond .eq (75), 203, 275, 0) := by decide +kernel
theorem i155_203 : ins 155 203 = some (.iconst (0), 204, 0, 0) := by decide +kernel
theorem i155_204 : ins 155 204 = some (.istore_n 3, 205, 0, 0) := by decide +kernel
theorem i155_205 : ins 155 205 = some (.iconst (0), 206, 0, 0) := by decide +kernel
theorem i155_206 : ins 155 206 = some (.istore 4, 208, 0, 0) := by decide +kernel
theorem i155_208 : ins 155 208 = some (.aload_n 0, 209, 0, 0) := by decide +kernel
theorem i155_209 : ins 155 209 = some (.iload_n 1, 210, 0, 0) := by decide +kernel
theorem i155_210 : ins 155 210 = some (.iload_n 3, 211, 0, 0) := by decide +kernel
theorem i155_211 : ins 155 211 = some (.iadd, 212, 0, 0) := by decide +kernel
theorem i155_212 : ins 155 212 = some (.invokevirtual 179, 215, 149, 0) := by decide +kernel
theorem i155_215 : ins 155 215 = some (.invokestatic 191, 218, 150, 0) := by decide +kernel
theorem i155_218 : ins 155 218 = some (.ifCond .eq (32), 221, 250, 0) := by decide +kernel
theorem i155_221 : ins 155 221 = some (.iload_n 3, 222, 0, 0) := by decide +kernel
theorem i155_222 : ins 155 222 = some (.iconst (4), 223, 0, 4) := by decide +kernel
theorem i155_223 : ins 155 223 = some (.if_icmp .ge (21), 226, 244, 0) := by decide +kernel
theorem i155_226 : ins 155 226 = some (.bipush (10), 228, 0, 10) := by decide +kernel
theorem i155_228 : ins 155 228 = some (.iload 4, 230, 0, 0) := by decide +kernel
theorem i155_230 : ins 155 230 = some (.imul, 231, 0, 0) := by decide +kernel
theorem i155_231 : ins 155 231 = some (.aload_n 0, 232, 0, 0) := by decide +kernel
theorem i155_232 : ins 155 232 = some (.iload_n 1, 233, 0, 0) := by decide +kernel
theorem i155_233 : ins 155 233 = some (.iload_n 3, 234, 0, 0) := by decide +kernel
theorem i155_234 : ins 155 234 = some (.iadd, 235, 0, 0) := by decide +kernel
theorem i155_235 : ins 155 235 = some (.invokevirtual 179, 238, 149, 0) := by decide +kernel
theorem i155_238 : ins 155 238 = some (.iadd, 239, 0, 0) := by decide +kernel
theorem i155_239 : ins 155 239 = some (.bipush (48), 241, 0, 48) := by decide +kernel
theorem i155_241 : ins 155 241 = some (.isub, 242, 0, 0) := by decide +kernel
theorem i155_242 : ins 155 242 = some (.istore 4, 244, 0, 0) := by decide +kernel
theorem i155_244 : ins 155 244 = some (.iinc 3 (1), 247, 0, 1) := by decide +kernel
theorem i155_247 : ins 155 247 = some (.goto (-39), 250, 208, 0) := by decide +kernel
theorem i155_250 : ins 155 250 = some (.aload_n 0, 251, 0, 0) := by decide +kernel
theorem i155_251 : ins 155 251 = some (.iload_n 3, 252, 0, 0) := by decide +kernel
theorem i155_252 : ins 155 252 = some (.iconst (4), 253, 0, 4) := by decide +kernel
theorem i155_253 : ins 155 253 = some (.if_icmp .le (7), 256, 260, 0) := by decide +kernel
theorem i155_256 : ins 155 256 = some (.iconst (3), 257, 0, 3) := by decide +kernel
theorem i155_257 : ins 155 257 = some (.goto (4), 260, 261, 0) := by decide +kernel
theorem i155_260 : ins 155 260 = some (.iconst (2), 261, 0, 2) := by decide +kernel
theorem i155_261 : ins 155 261 = some (.iload_n 1, 262, 0, 0) := by decide +kernel
theorem i155_262 : ins 155 262 = some (.iload 4, 264, 0, 0) := by decide +kernel
theorem i155_264 : ins 155 264 = some (.lconst 0, 265, 0, 0) := by decide +kernel
theorem i155_265 : ins 155 265 = some (.invokevirtual 183, 268, 154, 0) := by decide +kernel
theorem i155_268 : ins 155 268 = some (.iload_n 1, 269, 0, 0) := by decide +kernel
theorem i155_269 : ins 155 269 = some (.iload_n 3, 270, 0, 0) := by decide +kernel
theorem i155_270 : ins 155 270 = some (.iadd, 271, 0, 0) := by decide +kernel
theorem i155_271 : ins 155 271 = some (.istore_n 1, 272, 0, 0) := by decide +kernel
theorem i155_272 : ins 155 272 = some (.goto (19), 275, 291, 0) := by decide +kernel
theorem i155_275 : ins 155 275 = some (.iload_n 1, 276, 0, 0) := by decide +kernel
theorem i155_276 : ins 155 276 = some (.aload_n 0, 277, 0, 0) := by decide +kernel
theorem i155_277 : ins 155 277 = some (.iload_n 1, 278, 0, 0) := by decide +kernel
theorem i155_278 : ins 155 278 = some (.iload_n 2, 279, 0, 0) := by decide +kernel
theorem i155_279 : ins 155 279 = some (.aload_n 0, 280, 0, 0) := by decide +kernel
theorem i155_280 : ins 155 280 = some (.iload_n 1, 281, 0, 0) := by decide +kernel
theorem i155_281 : ins 155 281 = some (.iconst (1), 282, 0, 1) := by decide +kernel
theorem i155_282 : ins 155 282 = some (.iadd, 283, 0, 0) := by decide +kernel
theorem i155_283 : ins 155 283 = some (.invokevirtual 179, 286, 149, 0) := by decide +kernel
theorem i155_286 : ins 155 286 = some (.invokevirtual 194, 289, 156, 0) := by decide +kernel
theorem i155_289 : ins 155 289 = some (.iadd, 290, 0, 0) := by decide +kernel
theorem i155_290 : ins 155 290 = some (.istore_n 1, 291, 0, 0) := by decide +kernel
theorem i155_291 : ins 155 291 = some (.goto (-284), 294, 7, 0) := by decide +kernel
theorem i155_294 : ins 155 294 = some (.return_, 295, 0, 0) := by decide +kernel
theorem i156_0 : ins 156 0 = some (.iload_n 2, 1, 0, 0) := by decide +kernel
theorem i156_1 : ins 156 1 = some (.bipush (59), 3, 0, 59) := by decide +kernel
theorem i156_3 : ins 156 3 = some (.if_icmp .ne (7), 6, 10, 0) := by decide +kernel
theorem i156_6 : ins 156 6 = some (.iconst (4), 7, 0, 4) := by decide +kernel
theorem i156_7 : ins 156 7 = some (.goto (36), 10, 43, 0) := by decide +kernel
theorem i156_10 : ins 156 10 = some (.iload_n 2, 11, 0, 0) := by decide +kernel
theorem i156_11 : ins 156 11 = some (.bipush (61), 13, 0, 61) := by decide +kernel
theorem i156_13 : ins 156 13 = some (.if_icmp .ne (7), 16, 20, 0) := by decide +kernel
theorem i156_16 : ins 156 16 = some (.iconst (5), 17, 0, 5) := by decide +kernel
theorem i156_17 : ins 156 17 = some (.goto (26), 20, 43, 0) := by decide +kernel
theorem i156_20 : ins 156 20 = some (.iload_n 2, 21, 0, 0) := by decide +kernel
theorem i156_21 : ins 156 21 = some (.bipush (40), 23, 0, 40) := by decide +kernel
theorem i156_23 : ins 156 23 = some (.if_icmp .ne (8), 26, 31, 0) := by decide +kernel
theorem i156_26 : ins 156 26 = some (.bipush (6), 28, 0, 6) := by decide +kernel
theorem i156_28 : ins 156 28 = some (.goto (15), 31, 43, 0) := by decide +kernel
theorem i156_31 : ins 156 31 = some (.iload_n 2, 32, 0, 0) := by decide +kernel
theorem i156_32 : ins 156 32 = some (.bipush (41), 34, 0, 41) := by decide +kernel
theorem i156_34 : ins 156 34 = some (.if_icmp .ne (8), 37, 42, 0) := by decide +kernel
theorem i156_37 : ins 156 37 = some (.bipush (7), 39, 0, 7) := by decide +kernel
theorem i156_39 : ins 156 39 = some (.goto (4), 42, 43, 0) := by decide +kernel
theorem i156_42 : ins 156 42 = some (.iconst (3), 43, 0, 3) := by decide +kernel
theorem i156_43 : ins 156 43 = some (.istore 4, 45, 0, 0) := by decide +kernel
theorem i156_45 : ins 156 45 = some (.iload_n 2, 46, 0, 0) := by decide +kernel
theorem i156_46 : ins 156 46 = some (.bipush (43), 48, 0, 43) := by decide +kernel
theorem i156_48 : ins 156 48 = some (.if_icmp .ne (7), 51, 55, 0) := by decide +kernel
theorem i156_51 : ins 156 51 = some (.bipush (8), 53, 0, 8) := by decide +kernel
theorem i156_53 : ins 156 53 = some (.istore 4, 55, 0, 0) := by decide +kernel
theorem i156_55 : ins 156 55 = some (.iload_n 2, 56, 0, 0) := by decide +kernel
theorem i156_56 : ins 156 56 = some (.bipush (45), 58, 0, 45) := by decide +kernel
theorem i156_58 : ins 156 58 = some (.if_icmp .ne (7), 61, 65, 0) := by decide +kernel
theorem i156_61 : ins 156 61 = some (.bipush (9), 63, 0, 9) := by decide +kernel
theorem i156_63 : ins 156 63 = some (.istore 4, 65, 0, 0) := by decide +kernel
theorem i156_65 : ins 156 65 = some (.iload_n 2, 66, 0, 0) := by decide +kernel
theorem i156_66 : ins 156 66 = some (.bipush (42), 68, 0, 42) := by decide +kernel
theorem i156_68 : ins 156 68 = some (.if_icmp .ne (7), 71, 75, 0) := by decide +kernel
theorem i156_71 : ins 156 71 = some (.bipush (10), 73, 0, 10) := by decide +kernel
theorem i156_73 : ins 156 73 = some (.istore 4, 75, 0, 0) := by decide +kernel
theorem i156_75 : ins 156 75 = some (.iload_n 2, 76, 0, 0) := by decide +kernel
theorem i156_76 : ins 156 76 = some (.bipush (47), 78, 0, 47) := by decide +kernel
theorem i156_78 : ins 156 78 = some (.if_icmp .ne (7), 81, 85, 0) := by decide +kernel
theorem i156_81 : ins 156 81 = some (.bipush (15), 83, 0, 15) := by decide +kernel
theorem i156_83 : ins 156 83 = some (.istore 4, 85, 0, 0) := by decide +kernel
theorem i156_85 : ins 156 85 = some (.iload_n 2, 86, 0, 0) := by decide +kernel
theorem i156_86 : ins 156 86 = some (.bipush (60), 88, 0, 60) := by decide +kernel
theorem i156_88 : ins 156 88 = some (.if_icmp .ne (7), 91, 95, 0) := by decide +kernel
theorem i156_91 : ins 156 91 = some (.bipush (13), 93, 0, 13) := by decide +kernel
theorem i156_93 : ins 156 93 = some (.istore 4, 95, 0, 0) := by decide +kernel
theorem i156_95 : ins 156 95 = some (.aload_n 0, 96, 0, 0) := by decide +kernel
theorem i156_96 : ins 156 96 = some (.iload 4, 98, 0, 0) := by decide +kernel
theorem i156_98 : ins 156 98 = some (.iload_n 1, 99, 0, 0) := by decide +kernel
theorem i156_99 : ins 156 99 = some (.iconst (0), 100, 0, 0) := by decide +kernel
theorem i156_100 : ins 156 100 = some (.lconst 0, 101, 0, 0) := by decide +kernel
theorem i156_101 : ins 156 101 = some (.invokevirtual 183, 104, 154, 0) := by decide +kernel
theorem i156_104 : ins 156 104 = some (.iconst (1), 105, 0, 1) := by decide +kernel
theorem i156_105 : ins 156 105 = some (.ireturn, 106, 0, 0) := by decide +kernel
theorem i157_0 : ins 157 0 = some (.aload_n 0, 1, 0, 0) := by decide +kernel
theorem i157_1 : ins 157 1 = some (.getfield 198, 4, 12, 13) := by decide +kernel
theorem i157_4 : ins 157 4 = some (.ifCond .ne (20), 7, 24, 0) := by decide +kernel
theorem i157_7 : ins 157 7 = some (.aload_n 0, 8, 0, 0) := by decide +kernel
theorem i157_8 : ins 157 8 = some (.getfield 20, 11, 12, 5) := by decide +kernel
theorem i157_11 : ins 157 11 = some (.aload_n 0, 12, 0, 0) := by decide +kernel
theorem i157_12 : ins 157 12 = some (.getfield 201, 15, 12, 11) := by decide +kernel
theorem i157_15 : ins 157 15 = some (.iaload, 16, 0, 0) := by decide +kernel
theorem i157_16 : ins 157 16 = some (.iload_n 1, 17, 0, 0) := by decide +kernel
theorem i157_17 : ins 157 17 = some (.if_icmp .ne (7), 20, 24, 0) := by decide +kernel
theorem i157_20 : ins 157 20 = some (.iconst (1), 21, 0, 1) := by decide +kernel
theorem i157_21 : ins 157 21 = some (.goto (4), 24, 25, 0) := by decide +kernel
theorem i157_24 : ins 157 24 = some (.iconst (0), 25, 0, 0) := by decide +kernel
theorem i157_25 : ins 157 25 = some (.ireturn, 26, 0, 0) := by decide +kernel
theorem i158_0 : ins 158 0 = some (.aload_n 0, 1, 0, 0) := by decide +kernel
theorem i158_1 : ins 158 1 = some (.getfield 198, 4, 12, 13) := by decide +kernel
theorem i158_4 : ins 158 4 = some (.ifCond .le (4), 7, 8, 0) := by decide +kernel
theorem i158_7 : ins 158 7 = some (.return_, 8, 0, 0) := by decide +kernel
theorem i158_8 : ins 158 8 = some (.aload_n 0, 9, 0, 0) := by decide +kernel
theorem i158_9 : ins 158 9 = some (.iload_n 1, 10, 0, 0) := by decide +kernel
theorem i158_10 : ins 158 10 = some (.putfield 198, 13, 12, 13) := by decide +kernel
theorem i158_13 : ins 158 13 = some (.aload_n 0, 14, 0, 0) := by decide +kernel
theorem i158_14 : ins 158 14 = some (.aload_n 0, 15, 0, 0) := by decide +kernel
theorem i158_15 : ins 158 15 = some (.getfield 24, 18, 12, 6) := by decide +kernel
theorem i158_18 : ins 158 18 = some (.aload_n 0, 19, 0, 0) := by decide +kernel
theorem i158_19 : ins 158 19 = some (.getfield 201, 22, 12, 11) := by decide +kernel
theorem i158_22 : ins 158 22 = some (.iaload, 23, 0, 0) := by decide +kernel
theorem i158_23 : ins 158 23 = some (.putfield 204, 26, 12, 14) := by decide +kernel
theorem i158_26 : ins 158 26 = some (.return_, 27, 0, 0) := by decide +kernel
theorem i159_0 : ins 159 0 = some (.aload_n 0, 1, 0, 0) := by decide +kernel
theorem i159_1 : ins 159 1 = some (.getfield 24, 4, 12, 6) := by decide +kernel
theorem i159_4 : ins 159 4 = some (.iload_n 2, 5, 0, 0) := by decide +kernel
theorem i159_5 : ins 159 5 = some (.iaload, 6, 0, 0) := by decide +kernel
theorem i159_6 : ins 159 6 = some (.istore_n 3, 7, 0, 0) := by decide +kernel
theorem i159_7 : ins 159 7 = some (.aload_n 0, 8, 0, 0) := by decide +kernel
theorem i159_8 : ins 159 8 = some (.getfield 198, 11, 12, 13) := by decide +kernel
theorem i159_11 : ins 159 11 = some (.ifCond .gt (34), 14, 45, 0) := by decide +kernel
theorem i159_14 : ins 159 14 = some (.aload_n 0, 15, 0, 0) := by decide +kernel
theorem i159_15 : ins 159 15 = some (.getfield 207, 18, 12, 15) := by decide +kernel
theorem i159_18 : ins 159 18 = some (.ifCond .eq (28), 21, 46, 0) := by decide +kernel
theorem i159_21 : ins 159 21 = some (.iload_n 3, 22, 0, 0) := by decide +kernel
theorem i159_22 : ins 159 22 = some (.aload_n 0, 23, 0, 0) := by decide +kernel
theorem i159_23 : ins 159 23 = some (.getfield 210, 26, 12, 16) := by decide +kernel
theorem i159_26 : ins 159 26 = some (.if_icmp .gt (19), 29, 45, 0) := by decide +kernel
theorem i159_29 : ins 159 29 = some (.iload_n 3, 30, 0, 0) := by decide +kernel
theorem i159_30 : ins 159 30 = some (.aload_n 0, 31, 0, 0) := by decide +kernel
theorem i159_31 : ins 159 31 = some (.getfield 210, 34, 12, 16) := by decide +kernel
theorem i159_34 : ins 159 34 = some (.if_icmp .ne (12), 37, 46, 0) := by decide +kernel
theorem i159_37 : ins 159 37 = some (.iload_n 1, 38, 0, 0) := by decide +kernel
theorem i159_38 : ins 159 38 = some (.aload_n 0, 39, 0, 0) := by decide +kernel
theorem i159_39 : ins 159 39 = some (.getfield 207, 42, 12, 15) := by decide +kernel
theorem i159_42 : ins 159 42 = some (.if_icmp .lt (4), 45, 46, 0) := by decide +kernel
theorem i159_45 : ins 159 45 = some (.return_, 46, 0, 0) := by decide +kernel
theorem i159_46 : ins 159 46 = some (.aload_n 0, 47, 0, 0) := by decide +kernel
theorem i159_47 : ins 159 47 = some (.iload_n 1, 48, 0, 0) := by decide +kernel
theorem i159_48 : ins 159 48 = some (.putfield 207, 51, 12, 15) := by decide +kernel
theorem i159_51 : ins 159 51 = some (.aload_n 0, 52, 0, 0) := by decide +kernel
theorem i159_52 : ins 159 52 = some (.iload_n 3, 53, 0, 0) := by decide +kernel
theorem i159_53 : ins 159 53 = some (.putfield 210, 56, 12, 16) := by decide +kernel
theorem i159_56 : ins 159 56 = some (.return_, 57, 0, 0) := by decide +kernel
theorem i160_0 : ins 160 0 = some (.aload_n 0, 1, 0, 0) := by decide +kernel
theorem i160_1 : ins 160 1 = some (.getfield 201, 4, 12, 11) := by decide +kernel
theorem i160_4 : ins 160 4 = some (.sipush (400), 7, 0, 400) := by decide +kernel
theorem i160_7 : ins 160 7 = some (.if_icmp .ne (11), 10, 18, 0) := by decide +kernel
theorem i160_10 : ins 160 10 = some (.aload_n 0, 11, 0, 0) := by decide +kernel
theorem i160_11 : ins 160 11 = some (.iconst (2), 12, 0, 2) := by decide +kernel
theorem i160_12 : ins 160 12 = some (.invokevirtual 213, 15, 158, 0) := by decide +kernel
theorem i160_15 : ins 160 15 = some (.goto (13), 18, 28, 0) := by decide +kernel
theorem i160_18 : ins 160 18 = some (.aload_n 0, 19, 0, 0) := by decide +kernel
theorem i160_19 : ins 160 19 = some (.dup, 20, 0, 0) := by decide +kernel
theorem i160_20 : ins 160 20 = some (.getfield 201, 23, 12, 11) := by decide +kernel
theorem i160_23 : ins 160 23 = some (.iconst (1), 24, 0, 1) := by decide +kernel
theorem i160_24 : ins 160 24 = some (.iadd, 25, 0, 0) := by decide +kernel
theorem i160_25 : ins 160 25 = some (.putfield 201, 28, 12, 11) := by decide +kernel
theorem i160_28 : ins 160 28 = some (.return_, 29, 0, 0) := by decide +kernel
theorem i161_0 : ins 161 0 = some (.aload_n 0, 1, 0, 0) := by decide +kernel
theorem i161_1 : ins 161 1 = some (.iload_n 1, 2, 0, 0) := by decide +kernel
theorem i161_2 : ins 161 2 = some (.invokevirtual 216, 5, 157, 0) := by decide +kernel
theorem i161_5 : ins 161 5 = some (.ifCond .eq (10), 8, 15, 0) := by decide +kernel
theorem i161_8 : ins 161 8 = some (.aload_n 0, 9, 0, 0) := by decide +kernel
theorem i161_9 : ins 161 9 = some (.invokevirtual 219, 12, 160, 0) := by decide +kernel
theorem i161_12 : ins 161 12 = some (.goto (8), 15, 20, 0) := by decide +kernel
theorem i161_15 : ins 161 15 = some (.aload_n 0, 16, 0, 0) := by decide +kernel
theorem i161_16 : ins 161 16 = some (.iconst (1), 17, 0, 1) := by decide +kernel
theorem i161_17 : ins 161 17 = some (.invokevirtual 213, 20, 158, 0) := by decide +kernel
theorem i161_20 : ins 161 20 = some (.return_, 21, 0, 0) := by decide +kernel
theorem i162_0 : ins 162 0 = some (.aload_n 0, 1, 0, 0) := by decide +kernel
theorem i162_1 : ins 162 1 = some (.getfield 46, 4, 12, 23) := by decide +kernel
theorem i162_4 : ins 162 4 = some (.iload_n 1, 5, 0, 0) := by decide +kernel
theorem i162_5 : ins 162 5 = some (.iconst (0), 6, 0, 0) := by decide +kernel
theorem i162_6 : ins 162 6 = some (.iastore, 7, 0, 0) := by decide +kernel
theorem i162_7 : ins 162 7 = some (.aload_n 0, 8, 0, 0) := by decide +kernel
theorem i162_8 : ins 162 8 = some (.getfield 52, 11, 12, 25) := by decide +kernel
theorem i162_11 : ins 162 11 = some (.iload_n 1, 12, 0, 0) := by decide +kernel
theorem i162_12 : ins 162 12 = some (.iconst (0), 13, 0, 0) := by decide +kernel
theorem i162_13 : ins 162 13 = some (.iastore, 14, 0, 0) := by decide +kernel
theorem i162_14 : ins 162 14 = some (.aload_n 0, 15, 0, 0) := by decide +kernel
theorem i162_15 : ins 162 15 = some (.getfield 64, 18, 12, 29) := by decide +kernel
theorem i162_18 : ins 162 18 = some (.iload_n 1, 19, 0, 0) := by decide +kernel
theorem i162_19 : ins 162 19 = some (.iconst (0), 20, 0, 0) := by decide +kernel
theorem i162_20 : ins 162 20 = some (.iastore, 21, 0, 0) := by decide +kernel
theorem i162_21 : ins 162 21 = some (.aload_n 0, 22, 0, 0) := by decide +kernel
theorem i162_22 : ins 162 22 = some (.getfield 67, 25, 12, 30) := by decide +kernel
theorem i162_25 : ins 162 25 = some (.iload_n 1, 26, 0, 0) := by decide +kernel
theorem i162_26 : ins 162 26 = some (.iconst (3), 27, 0, 3) := by decide +kernel
theorem i162_27 : ins 162 27 = some (.iastore, 28, 0, 0) := by decide +kernel
theorem i162_28 : ins 162 28 = some (.aload_n 0, 29, 0, 0) := by decide +kernel
theorem i162_29 : ins 162 29 = some (.getfield 70, 32, 12, 31) := by decide +kernel
theorem i162_32 : ins 162 32 = some (.iload_n 1, 33, 0, 0) := by decide +kernel
theorem i162_33 : ins 162 33 = some (.sipush (9999), 36, 0, 9999) := by decide +kernel
theorem i162_36 : ins 162 36 = some (.iastore, 37, 0, 0) := by decide +kernel
theorem i162_37 : ins 162 37 = some (.aload_n 0, 38, 0, 0) := by decide +kernel
theorem i162_38 : ins 162 38 = some (.getfield 73, 41, 12, 32) := by decide +kernel
theorem i162_41 : ins 162 41 = some (.iload_n 1, 42, 0, 0) := by decide +kernel
theorem i162_42 : ins 162 42 = some (.iconst (0), 43, 0, 0) := by decide +kernel
theorem i162_43 : ins 162 43 = some (.iastore, 44, 0, 0) := by decide +kernel
theorem i162_44 : ins 162 44 = some (.iconst (0), 45, 0, 0) := by decide +kernel
theorem i162_45 : ins 162 45 = some (.istore_n 2, 46, 0, 0) := by decide +kernel
theorem i162_46 : ins 162 46 = some (.iload_n 2, 47, 0, 0) := by decide +kernel
theorem i162_47 : ins 162 47 = some (.bipush (10), 49, 0, 10) := by decide +kernel
theorem i162_49 : ins 162 49 = some (.if_icmp .ge (33), 52, 82, 0) := by decide +kernel
theorem i162_52 : ins 162 52 = some (.aload_n 0, 53, 0, 0) := by decide +kernel
theorem i162_53 : ins 162 53 = some (.getfield 76, 56, 12, 33) := by decide +kernel
theorem i162_56 : ins 162 56 = some (.bipush (10), 58, 0, 10) := by decide +kernel
theorem i162_58 : ins 162 58 = some (.iload_n 1, 59, 0, 0) := by decide +kernel
theorem i162_59 : ins 162 59 = some (.imul, 60, 0, 0) := by decide +kernel
theorem i162_60 : ins 162 60 = some (.iload_n 2, 61, 0, 0) := by decide +kernel
theorem i162_61 : ins 162 61 = some (.iadd, 62, 0, 0) := by decide +kernel
theorem i162_62 : ins 162 62 = some (.iconst (0), 63, 0, 0) := by decide +kernel
theorem i162_63 : ins 162 63 = some (.iastore, 64, 0, 0) := by decide +kernel
theorem i162_64 : ins 162 64 = some (.aload_n 0, 65, 0, 0) := by decide +kernel
theorem i162_65 : ins 162 65 = some (.getfield 79, 68, 12, 34) := by decide +kernel
theorem i162_68 : ins 162 68 = some (.bipush (10), 70, 0, 10) := by decide +kernel
theorem i162_70 : ins 162 70 = some (.iload_n 1, 71, 0, 0) := by decide +kernel
theorem i162_71 : ins 162 71 = some (.imul, 72, 0, 0) := by decide +kernel
theorem i162_72 : ins 162 72 = some (.iload_n 2, 73, 0, 0) := by decide +kernel
theorem i162_73 : ins 162 73 = some (.iadd, 74, 0, 0) := by decide +kernel
theorem i162_74 : ins 162 74 = some (.iconst (0), 75, 0, 0) := by decide +kernel
theorem i162_75 : ins 162 75 = some (.iastore, 76, 0, 0) := by decide +kernel
theorem i162_76 : ins 162 76 = some (.iinc 2 (1), 79, 0, 1) := by decide +kernel
theorem i162_79 : ins 162 79 = some (.goto (-33), 82, 46, 0) := by decide +kernel
theorem i162_82 : ins 162 82 = some (.return_, 83, 0, 0) := by decide +kernel
theorem i165_0 : ins 165 0 = some (.iload_n 1, 1, 0, 0) := by decide +kernel
theorem i165_1 : ins 165 1 = some (.iload_n 2, 2, 0, 0) := by decide +kernel
theorem i165_2 : ins 165 2 = some (.if_icmp .ne (8), 5, 10, 0) := by decide +kernel
theorem i165_5 : ins 165 5 = some (.aload_n 0, 6, 0, 0) := by decide +kernel
theorem i165_6 : ins 165 6 = some (.iconst (2), 7, 0, 2) := by decide +kernel
theorem i165_7 : ins 165 7 = some (.invokevirtual 213, 10, 158, 0) := by decide +kernel
theorem i165_10 : ins 165 10 = some (.aload_n 0, 11, 0, 0) := by decide +kernel
theorem i165_11 : ins 165 11 = some (.getfield 198, 14, 12, 13) := by decide +kernel
theorem i165_14 : ins 165 14 = some (.ifCond .ne (7), 17, 21, 0) := by decide +kernel
theorem i165_17 : ins 165 17 = some (.aload_n 0, 18, 0, 0) := by decide +kernel
theorem i165_18 : ins 165 18 = some (.invokevirtual 219, 21, 160, 0) := by decide +kernel
theorem i165_21 : ins 165 21 = some (.return_, 22, 0, 0) := by decide +kernel
theorem i169_0 : ins 169 0 = some (.aload_n 0, 1, 0, 0) := by decide +kernel
theorem i169_1 : ins 169 1 = some (.getfield 201, 4, 12, 11) := by decide +kernel
theorem i169_4 : ins 169 4 = some (.istore_n 1, 5, 0, 0) := by decide +kernel
theorem i169_5 : ins 169 5 = some (.aload_n 0, 6, 0, 0) := by decide +kernel
theorem i169_6 : ins 169 6 = some (.iconst (1), 7, 0, 1) := by decide +kernel
theorem i169_7 : ins 169 7 = some (.invokevirtual 276, 10, 161, 0) := by decide +kernel
theorem i169_10 : ins 169 10 = some (.aload_n 0, 11, 0, 0) := by decide +kernel
theorem i169_11 : ins 169 11 = some (.getfield 198, 14, 12, 13) := by decide +kernel
theorem i169_14 : ins 169 14 = some (.ifCond .le (5), 17, 19, 0) := by decide +kernel
theorem i169_17 : ins 169 17 = some (.iconst (-1), 18, 0, -1) := by decide +kernel
theorem i169_18 : ins 169 18 = some (.ireturn, 19, 0, 0) := by decide +kernel
theorem i169_19 : ins 169 19 = some (.iconst (0), 20, 0, 0) := by decide +kernel
theorem i169_20 : ins 169 20 = some (.istore_n 2, 21, 0, 0) := by decide +kernel
theorem i169_21 : ins 169 21 = some (.iload_n 2, 22, 0, 0) := by decide +kernel
theorem i169_22 : ins 169 22 = some (.aload_n 0, 23, 0, 0) := by decide +kernel
theorem i169_23 : ins 169 23 = some (.getfield 234, 26, 12, 20) := by decide +kernel
theorem i169_26 : ins 169 26 = some (.if_icmp .ge (41), 29, 67, 0) := by decide +kernel
theorem i169_29 : ins 169 29 = some (.aload_n 0, 30, 0, 0) := by decide +kernel
theorem i169_30 : ins 169 30 = some (.getfield 40, 33, 12, 21) := by decide +kernel
theorem i169_33 : ins 169 33 = some (.iload_n 2, 34, 0, 0) := by decide +kernel
theorem i169_34 : ins 169 34 = some (.laload, 35, 0, 0) := by decide +kernel
theorem i169_35 : ins 169 35 = some (.aload_n 0, 36, 0, 0) := by decide +kernel
theorem i169_36 : ins 169 36 = some (.getfield 30, 39, 12, 8) := by decide +kernel
theorem i169_39 : ins 169 39 = some (.iload_n 1, 40, 0, 0) := by decide +kernel
theorem i169_40 : ins 169 40 = some (.laload, 41, 0, 0) := by decide +kernel
theorem i169_41 : ins 169 41 = some (.lcmp, 42, 0, 0) := by decide +kernel
theorem i169_42 : ins 169 42 = some (.ifCond .ne (19), 45, 61, 0) := by decide +kernel
theorem i169_45 : ins 169 45 = some (.aload_n 0, 46, 0, 0) := by decide +kernel
theorem i169_46 : ins 169 46 = some (.getfield 43, 49, 12, 22) := by decide +kernel
theorem i169_49 : ins 169 49 = some (.iload_n 2, 50, 0, 0) := by decide +kernel
theorem i169_50 : ins 169 50 = some (.iaload, 51, 0, 0) := by decide +kernel
theorem i169_51 : ins 169 51 = some (.ifCond .lt (10), 54, 61, 0) := by decide +kernel
theorem i169_54 : ins 169 54 = some (.aload_n 0, 55, 0, 0) := by decide +kernel
theorem i169_55 : ins 169 55 = some (.getfield 43, 58, 12, 22) := by decide +kernel
theorem i169_58 : ins 169 58 = some (.iload_n 2, 59, 0, 0) := by decide +kernel
theorem i169_59 : ins 169 59 = some (.iaload, 60, 0, 0) := by decide +kernel
theorem i169_60 : ins 169 60 = some (.ireturn, 61, 0, 0) := by decide +kernel
theorem i169_61 : ins 169 61 = some (.iinc 2 (1), 64, 0, 1) := by decide +kernel
theorem i169_64 : ins 169 64 = some (.goto (-43), 67, 21, 0) := by decide +kernel
theorem i169_67 : ins 169 67 = some (.aload_n 0, 68, 0, 0) := by decide +kernel
theorem i169_68 : ins 169 68 = some (.iconst (4), 69, 0, 4) := by decide +kernel
theorem i169_69 : ins 169 69 = some (.iload_n 1, 70, 0, 0) := by decide +kernel
theorem i169_70 : ins 169 70 = some (.invokevirtual 279, 73, 159, 0) := by decide +kernel
theorem i169_73 : ins 169 73 = some (.iconst (-1), 74, 0, -1) := by decide +kernel
theorem i169_74 : ins 169 74 = some (.ireturn, 75, 0, 0) := by decide +kernel
theorem i185_0 : ins 185 0 = some (.iconst (0), 1, 0, 0) := by decide +kernel
theorem i185_1 : ins 185 1 = some (.istore_n 1, 2, 0, 0) := by decide +kernel
theorem i185_2 : ins 185 2 = some (.iload_n 1, 3, 0, 0) := by decide +kernel
theorem i185_3 : ins 185 3 = some (.sipush (2860), 6, 0, 2860) := by decide +kernel
theorem i185_6 : ins 185 6 = some (.if_icmp .ge (16), 9, 22, 0) := by decide +kernel
theorem i185_9 : ins 185 9 = some (.aload_n 0, 10, 0, 0) := by decide +kernel
theorem i185_10 : ins 185 10 = some (.getfield 113, 13, 12, 49) := by decide +kernel
theorem i185_13 : ins 185 13 = some (.iload_n 1, 14, 0, 0) := by decide +kernel
theorem i185_14 : ins 185 14 = some (.iconst (0), 15, 0, 0) := by decide +kernel
theorem i185_15 : ins 185 15 = some (.iastore, 16, 0, 0) := by decide +kernel
theorem i185_16 : ins 185 16 = some (.iinc 1 (1), 19, 0, 1) := by decide +kernel
theorem i185_19 : ins 185 19 = some (.goto (-17), 22, 2, 0) := by decide +kernel
theorem i185_22 : ins 185 22 = some (.iconst (0), 23, 0, 0) := by decide +kernel
theorem i185_23 : ins 185 23 = some (.istore_n 1, 24, 0, 0) := by decide +kernel
theorem i185_24 : ins 185 24 = some (.iload_n 1, 25, 0, 0) := by decide +kernel
theorem i185_25 : ins 185 25 = some (.aload_n 0, 26, 0, 0) := by decide +kernel
theorem i185_26 : ins 185 26 = some (.getfield 46, 29, 12, 23) := by decide +kernel
theorem i185_29 : ins 185 29 = some (.aload_n 0, 30, 0, 0) := by decide +kernel
theorem i185_30 : ins 185 30 = some (.getfield 228, 33, 12, 18) := by decide +kernel
theorem i185_33 : ins 185 33 = some (.iaload, 34, 0, 0) := by decide +kernel
theorem i185_34 : ins 185 34 = some (.if_icmp .ge (29), 37, 63, 0) := by decide +kernel
theorem i185_37 : ins 185 37 = some (.aload_n 0, 38, 0, 0) := by decide +kernel
theorem i185_38 : ins 185 38 = some (.getfield 113, 41, 12, 49) := by decide +kernel
theorem i185_41 : ins 185 41 = some (.iload_n 1, 42, 0, 0) := by decide +kernel
theorem i185_42 : ins 185 42 = some (.aload_n 0, 43, 0, 0) := by decide +kernel
theorem i185_43 : ins 185 43 = some (.getfield 49, 46, 12, 24) := by decide +kernel
theorem i185_46 : ins 185 46 = some (.bipush (6), 48, 0, 6) := by decide +kernel
theorem i185_48 : ins 185 48 = some (.aload_n 0, 49, 0, 0) := by decide +kernel
theorem i185_49 : ins 185 49 = some (.getfield 228, 52, 12, 18) := by decide +kernel
theorem i185_52 : ins 185 52 = some (.imul, 53, 0, 0) := by decide +kernel
theorem i185_53 : ins 185 53 = some (.iload_n 1, 54, 0, 0) := by decide +kernel
theorem i185_54 : ins 185 54 = some (.iadd, 55, 0, 0) := by decide +kernel
theorem i185_55 : ins 185 55 = some (.iaload, 56, 0, 0) := by decide +kernel
theorem i185_56 : ins 185 56 = some (.iastore, 57, 0, 0) := by decide +kernel
theorem i185_57 : ins 185 57 = some (.iinc 1 (1), 60, 0, 1) := by decide +kernel
theorem i185_60 : ins 185 60 = some (.goto (-36), 63, 24, 0) := by decide +kernel
theorem i185_63 : ins 185 63 = some (.iconst (0), 64, 0, 0) := by decide +kernel
theorem i185_64 : ins 185 64 = some (.istore_n 1, 65, 0, 0) := by decide +kernel
theorem i185_65 : ins 185 65 = some (.iload_n 1, 66, 0, 0) := by decide +kernel
theorem i185_66 : ins 185 66 = some (.bipush (36), 68, 0, 36) := by decide +kernel
theorem i185_68 : ins 185 68 = some (.if_icmp .ge (32), 71, 100, 0) := by decide +kernel
theorem i185_71 : ins 185 71 = some (.aload_n 0, 72, 0, 0) := by decide +kernel
theorem i185_72 : ins 185 72 = some (.getfield 113, 75, 12, 49) := by decide +kernel
theorem i185_75 : ins 185 75 = some (.bipush (6), 77, 0, 6) := by decide +kernel
theorem i185_77 : ins 185 77 = some (.iload_n 1, 78, 0, 0) := by decide +kernel
theorem i185_78 : ins 185 78 = some (.iadd, 79, 0, 0) := by decide +kernel
theorem i185_79 : ins 185 79 = some (.aload_n 0, 80, 0, 0) := by decide +kernel
theorem i185_80 : ins 185 80 = some (.getfield 61, 83, 12, 28) := by decide +kernel
theorem i185_83 : ins 185 83 = some (.bipush (36), 85, 0, 36) := by decide +kernel
theorem i185_85 : ins 185 85 = some (.aload_n 0, 86, 0, 0) := by decide +kernel
theorem i185_86 : ins 185 86 = some (.getfield 228, 89, 12, 18) := by decide +kernel
theorem i185_89 : ins 185 89 = some (.imul, 90, 0, 0) := by decide +kernel
theorem i185_90 : ins 185 90 = some (.iload_n 1, 91, 0, 0) := by decide +kernel
theorem i185_91 : ins 185 91 = some (.iadd, 92, 0, 0) := by decide +kernel
theorem i185_92 : ins 185 92 = some (.iaload, 93, 0, 0) := by decide +kernel
theorem i185_93 : ins 185 93 = some (.iastore, 94, 0, 0) := by decide +kernel
theorem i185_94 : ins 185 94 = some (.iinc 1 (1), 97, 0, 1) := by decide +kernel
theorem i185_97 : ins 185 97 = some (.goto (-32), 100, 65, 0) := by decide +kernel
theorem i185_100 : ins 185 100 = some (.aload_n 0, 101, 0, 0) := by decide +kernel
theorem i185_101 : ins 185 101 = some (.getfield 113, 104, 12, 49) := by decide +kernel
theorem i185_104 : ins 185 104 = some (.bipush (43), 106, 0, 43) := by decide +kernel
theorem i185_106 : ins 185 106 = some (.iconst (-1), 107, 0, -1) := by decide +kernel
theorem i185_107 : ins 185 107 = some (.iastore, 108, 0, 0) := by decide +kernel
theorem i185_108 : ins 185 108 = some (.return_, 109, 0, 0) := by decide +kernel
def Hh_copied_17 (w : Wd) : Option (Int × Wd) :=
  some ((-1), w)
theorem s_Hh_copied_17 {g : Gp} {l : Launch} {D : Nat} (hD : 3 ≤ D) (w : Wd) (r : Int × Wd) (h : Hh_copied_17 w = some r) : Rn g l D 134 17 [] [] w (some (.inl r.1)) r.2 := by
  unfold Hh_copied_17 at h
  refine rn_iconst i134_17 ?_
  obtain rfl := Option.some.inj h
  exact rn_retI i134_18 mr134
def Hh_copied_73 (k45 : Nat → Int → Int → Int → Int → Int → Wd → Option (Int × Wd)) (a0 : Nat) (x1 : Int) (x2 : Int) (x3 : Int) (x4 : Int) (x5 : Int) (w : Wd) : Option (Int × Wd) :=
  k45 a0 x1 x2 x3 x4 (w32 (x5 + (-1))) w
theorem s_Hh_copied_73 {g : Gp} {l : Launch} {D : Nat} (hD : 3 ≤ D) (k45 : Nat → Int → Int → Int → Int → Int → Wd → Option (Int × Wd)) (hk45 : ∀ (a0 : Nat) (x1 : Int) (x2 : Int) (x3 : Int) (x4 : Int) (x5 : Int) (w : Wd) (r : Int × Wd), k45 a0 x1 x2 x3 x4 x5 w = some r → Rn g l D 134 45 [(0, .inr (.inr a0)), (1, .inl x1), (2, .inl x2), (3, .inl x3), (4, .inl x4), (5, .inl x5)] [] w (some (.inl r.1)) r.2) (a0 : Nat) (x1 : Int) (x2 : Int) (x3 : Int) (x4 : Int) (x5 : Int) (w : Wd) (r : Int × Wd) (h : Hh_copied_73 k45 a0 x1 x2 x3 x4 x5 w = some r) : Rn g l D 134 73 [(0, .inr (.inr a0)), (1, .inl x1), (2, .inl x2), (3, .inl x3), (4, .inl x4), (5, .inl x5)] [] w (some (.inl r.1)) r.2 := by
  unfold Hh_copied_73 at h
  refine rn_iinc (ls1 := [(5, .inl (w32 (x5 + (-1)))), (0, .inr (.inr a0)), (1, .inl x1), (2, .inl x2), (3, .inl x3), (4, .inl x4)]) i134_73 rfl rfl ?_
  refine rn_goto i134_76 ?_
  exact rn_sub [1, 2, 3, 4, 5, 0] rfl (hk45 a0 x1 x2 x3 x4 (w32 (x5 + (-1))) w r h)
def Hh_copied_89 (s0 : Int) (w : Wd) : Option (Int × Wd) :=
  some (s0, w)
theorem s_Hh_copied_89 {g : Gp} {l : Launch} {D : Nat} (hD : 3 ≤ D) (s0 : Int) (w : Wd) (r : Int × Wd) (h : Hh_copied_89 s0 w = some r) : Rn g l D 134 89 [] [.inl s0] w (some (.inl r.1)) r.2 := by
  unfold Hh_copied_89 at h
  obtain rfl := Option.some.inj h
  exact rn_retI i134_89 mr134
def Hh_copied_79 (x2 : Int) (x3 : Int) (x4 : Int) (w : Wd) : Option (Int × Wd) :=
  if (x2 : Int) = 0 then
    Hh_copied_89 x3 w
  else
    Hh_copied_89 x4 w
theorem s_Hh_copied_79 {g : Gp} {l : Launch} {D : Nat} (hD : 3 ≤ D) (x2 : Int) (x3 : Int) (x4 : Int) (w : Wd) (r : Int × Wd) (h : Hh_copied_79 x2 x3 x4 w = some r) : Rn g l D 134 79 [(2, .inl x2), (3, .inl x3), (4, .inl x4)] [] w (some (.inl r.1)) r.2 := by
  unfold Hh_copied_79 at h
  refine rn_iload_n i134_79 rfl ?_
  by_cases c80 : (x2 : Int) = 0
  · rw [if_pos c80] at h
    refine rn_if_ne_f i134_80 c80 ?_
    refine rn_iload_n i134_83 rfl ?_
    refine rn_goto i134_84 ?_
    exact rn_sub [] rfl (s_Hh_copied_89 hD x3 w r h)
  · rw [if_neg c80] at h
    refine rn_if_ne_t i134_80 c80 ?_
    refine rn_iload i134_87 rfl ?_
    exact rn_sub [] rfl (s_Hh_copied_89 hD x4 w r h)
def Hh_copied_45 : Nat → Nat → Int → Int → Int → Int → Int → Wd → Option (Int × Wd)
  | 0, _, _, _, _, _, _, _ => none
  | n + 1, a0, x1, x2, x3, x4, x5, w =>
    if (x5 : Int) < 0 then
      Hh_copied_79 x2 x3 x4 w
    else
      (Hh_apartThen a0 x1 x5 w).bind fun r54 =>
      if (x4 : Int) < r54.1 then
        Hh_copied_73 (Hh_copied_45 n) a0 x1 x2 x3 x4 x5 r54.2
      else
        Hh_copied_73 (Hh_copied_45 n) a0 x1 x2 x5 r54.1 x5 r54.2
theorem s_Hh_copied_45 {g : Gp} {l : Launch} {D : Nat} (hD : 3 ≤ D) : ∀ (n : Nat) (a0 : Nat) (x1 : Int) (x2 : Int) (x3 : Int) (x4 : Int) (x5 : Int) (w : Wd) (r : Int × Wd), Hh_copied_45 n a0 x1 x2 x3 x4 x5 w = some r → Rn g l D 134 45 [(0, .inr (.inr a0)), (1, .inl x1), (2, .inl x2), (3, .inl x3), (4, .inl x4), (5, .inl x5)] [] w (some (.inl r.1)) r.2 := by
  obtain ⟨D, rfl⟩ : ∃ D1, D = D1 + 1 := ⟨D - 1, by omega⟩
  intro n
  induction n with
  | zero => intro a0 x1 x2 x3 x4 x5 w r h; cases (show (none : Option (Int × Wd)) = some r from h)
  | succ n ih =>
    intro a0 x1 x2 x3 x4 x5 w r h
    unfold Hh_copied_45 at h
    refine rn_iload i134_45 rfl ?_
    by_cases c47 : (x5 : Int) < 0
    · rw [if_pos c47] at h
      refine rn_if_lt_t i134_47 c47 ?_
      exact rn_sub [2, 3, 4] rfl (s_Hh_copied_79 hD x2 x3 x4 w r h)
    · rw [if_neg c47] at h
      refine rn_if_lt_f i134_47 c47 ?_
      refine fr_aload_n i134_50 rfl ?_
      refine rn_iload_n i134_51 rfl ?_
      refine rn_iload i134_52 rfl ?_
      obtain ⟨r54, h54, h⟩ := Option.bind_eq_some_iff.mp h
      obtain ⟨g54, c54⟩ := S_Hh_apartThen a0 x1 x5 w r54 h54
      refine fr_callV (a := a0) (As := [.inl x1, .inl x5]) (st := []) i134_54 (cq136 a0 x1 x5) rfl (Nat.le_of_ble_eq_true rfl) g54 (c54 _ (by omega)) ?_
      show Rn _ _ _ _ _ _ [.inl r54.1] _ _ _
      refine rn_istore (ls1 := [(6, .inl r54.1), (0, .inr (.inr a0)), (1, .inl x1), (2, .inl x2), (3, .inl x3), (4, .inl x4), (5, .inl x5)]) i134_57 rfl ?_
      refine rn_iload i134_59 rfl ?_
      refine rn_iload i134_61 rfl ?_
      by_cases c63 : (x4 : Int) < r54.1
      · rw [if_pos c63] at h
        refine rn_icmp_gt_t i134_63 c63 ?_
        exact rn_sub [1, 2, 3, 4, 5, 6] rfl (s_Hh_copied_73 hD (Hh_copied_45 n) ih a0 x1 x2 x3 x4 x5 r54.2 r h)
      · rw [if_neg c63] at h
        refine rn_icmp_gt_f i134_63 c63 ?_
        refine rn_iload i134_66 rfl ?_
        refine rn_istore_n (ls1 := [(3, .inl x5), (6, .inl r54.1), (0, .inr (.inr a0)), (1, .inl x1), (2, .inl x2), (4, .inl x4), (5, .inl x5)]) i134_68 rfl ?_
        refine rn_iload i134_69 rfl ?_
        refine rn_istore (ls1 := [(4, .inl r54.1), (3, .inl x5), (6, .inl r54.1), (0, .inr (.inr a0)), (1, .inl x1), (2, .inl x2), (5, .inl x5)]) i134_71 rfl ?_
        exact rn_sub [3, 4, 5, 1, 0, 6] rfl (s_Hh_copied_73 hD (Hh_copied_45 n) ih a0 x1 x2 x5 r54.1 x5 r54.2 r h)
def Hh_copied_0 (a0 : Nat) (x1 : Int) (x2 : Int) (w : Wd) : Option (Int × Wd) :=
  (Hh_isHeir a0 x1 w).bind fun r2 =>
  if (r2.1 : Int) = 0 then
    Hh_copied_17 r2.2
  else
    (Hh_isWithin x2 0 1 r2.2).bind fun r11 =>
    if (r11.1 : Int) = 0 then
      Hh_copied_17 r11.2
    else
      (fgR r11.2 a0 11 4).bind fun v20 =>
      (fgI r11.2 v20 9 0).bind fun v23 =>
      (Hh_apartNow a0 x1 r11.2).bind fun r29 =>
      (fgR r29.2 a0 11 4).bind fun v35 =>
      (St_led v35 r29.2).bind fun r38 =>
      Hh_copied_45 FU a0 x1 x2 v23 r29.1 (w32 (r38.1 - 1)) r38.2
theorem s_Hh_copied_0 {g : Gp} {l : Launch} {D : Nat} (hD : 3 ≤ D) (a0 : Nat) (x1 : Int) (x2 : Int) (w : Wd) (r : Int × Wd) (h : Hh_copied_0 a0 x1 x2 w = some r) : Rn g l D 134 0 [(0, .inr (.inr a0)), (1, .inl x1), (2, .inl x2)] [] w (some (.inl r.1)) r.2 := by
  obtain ⟨D, rfl⟩ : ∃ D1, D = D1 + 1 := ⟨D - 1, by omega⟩
  unfold Hh_copied_0 at h
  refine fr_aload_n i134_0 rfl ?_
  refine rn_iload_n i134_1 rfl ?_
  obtain ⟨r2, h2, h⟩ := Option.bind_eq_some_iff.mp h
  obtain ⟨g2, c2⟩ := S_Hh_isHeir a0 x1 w r2 h2
  refine fr_callV (a := a0) (As := [.inl x1]) (st := []) i134_2 (cq110 a0 x1) rfl (Nat.le_of_ble_eq_true rfl) g2 (c2 _ (by omega)) ?_
  show Rn _ _ _ _ _ _ [.inl r2.1] _ _ _
  by_cases c5 : (r2.1 : Int) = 0
  · rw [if_pos c5] at h
    refine rn_if_eq_t i134_5 c5 ?_
    exact rn_sub [] rfl (s_Hh_copied_17 hD r2.2 r h)
  · rw [if_neg c5] at h
    refine rn_if_eq_f i134_5 c5 ?_
    refine rn_iload_n i134_8 rfl ?_
    refine rn_iconst i134_9 ?_
    refine rn_iconst i134_10 ?_
    obtain ⟨r11, h11, h⟩ := Option.bind_eq_some_iff.mp h
    refine fr_callS (nst := 0) (As := [.inl x2, .inl 0, .inl 1]) (st := []) i134_11 (cq112 x2 0 1) rfl (Nat.le_of_ble_eq_true rfl) (S_Hh_isWithin x2 0 1 r2.2 r11 h11 _ (by omega)) ?_
    show Rn _ _ _ _ _ _ [.inl r11.1] _ _ _
    by_cases c14 : (r11.1 : Int) = 0
    · rw [if_pos c14] at h
      refine rn_if_ne_f i134_14 c14 ?_
      exact rn_sub [] rfl (s_Hh_copied_17 hD r11.2 r h)
    · rw [if_neg c14] at h
      refine rn_if_ne_t i134_14 c14 ?_
      refine fr_aload_n i134_19 rfl ?_
      obtain ⟨v20, h20, h⟩ := Option.bind_eq_some_iff.mp h
      refine fr_gR (k := 4) i134_20 tf11_4 h20 ?_
      obtain ⟨v23, h23, h⟩ := Option.bind_eq_some_iff.mp h
      refine fr_gI (k := 0) i134_23 tf9_0 h23 ?_
      refine rn_istore_n (ls1 := [(3, .inl v23), (0, .inr (.inr a0)), (1, .inl x1), (2, .inl x2)]) i134_26 rfl ?_
      refine fr_aload_n i134_27 rfl ?_
      refine rn_iload_n i134_28 rfl ?_
      obtain ⟨r29, h29, h⟩ := Option.bind_eq_some_iff.mp h
      obtain ⟨g29, c29⟩ := S_Hh_apartNow a0 x1 r11.2 r29 h29
      refine fr_callV (a := a0) (As := [.inl x1]) (st := []) i134_29 (cq135 a0 x1) rfl (Nat.le_of_ble_eq_true rfl) g29 (c29 _ (by omega)) ?_
      show Rn _ _ _ _ _ _ [.inl r29.1] _ _ _
      refine rn_istore (ls1 := [(4, .inl r29.1), (3, .inl v23), (0, .inr (.inr a0)), (1, .inl x1), (2, .inl x2)]) i134_32 rfl ?_
      refine fr_aload_n i134_34 rfl ?_
      obtain ⟨v35, h35, h⟩ := Option.bind_eq_some_iff.mp h
      refine fr_gR (k := 4) i134_35 tf11_4 h35 ?_
      obtain ⟨r38, h38, h⟩ := Option.bind_eq_some_iff.mp h
      obtain ⟨g38, c38⟩ := S_St_led v35 r29.2 r38 h38
      refine fr_callV (a := v35) (As := []) (st := []) i134_38 (cq90 v35) rfl (Nat.le_of_ble_eq_true rfl) g38 (c38 _ (by omega)) ?_
      show Rn _ _ _ _ _ _ [.inl r38.1] _ _ _
      refine rn_iconst i134_41 ?_
      refine rn_isub i134_42 ?_
      refine rn_istore (ls1 := [(5, .inl (w32 (r38.1 - 1))), (4, .inl r29.1), (3, .inl v23), (0, .inr (.inr a0)), (1, .inl x1), (2, .inl x2)]) i134_43 rfl ?_
      exact rn_sub [3, 4, 5, 2, 1, 0] rfl (s_Hh_copied_45 hD FU a0 x1 x2 v23 r29.1 (w32 (r38.1 - 1)) r38.2 r h)
/-- HandHeirs.copied(II)I -/
def Hh_copied (a0 : Nat) (x1 : Int) (x2 : Int) (w : Wd) : Option (Int × Wd) := gd 11 w a0 (Hh_copied_0 a0 x1 x2 w)
theorem S_Hh_copied {g : Gp} {l : Launch} (a0 : Nat) (x1 : Int) (x2 : Int) (w : Wd) (r : Int × Wd) (h : Hh_copied a0 x1 x2 w = some r) : (wsh w a0).1 = 11 ∧ ∀ D, 3 ≤ D → Rn g l D 134 0 [(0, .inr (.inr a0)), (1, .inl x1), (2, .inl x2)] [] w (some (.inl r.1)) r.2 := by
  obtain ⟨hg, h⟩ := gd_some h
  exact ⟨hg, fun D hD => rn_sub [0, 1, 2] rfl (s_Hh_copied_0 hD a0 x1 x2 w r h)⟩
def Hh_tell_18 (w : Wd) : Option (Int × Wd) :=
  some ((-1), w)
theorem s_Hh_tell_18 {g : Gp} {l : Launch} {D : Nat} (hD : 1 ≤ D) (w : Wd) (r : Int × Wd) (h : Hh_tell_18 w = some r) : Rn g l D 137 18 [] [] w (some (.inl r.1)) r.2 := by
  unfold Hh_tell_18 at h
  refine rn_iconst i137_18 ?_
  obtain rfl := Option.some.inj h
  exact rn_retI i137_19 mr137
def Hh_tell_0 (a0 : Nat) (x1 : Int) (x2 : Int) (w : Wd) : Option (Int × Wd) :=
  (Hh_isLetter a0 x1 w).bind fun r2 =>
  if (r2.1 : Int) = 0 then
    Hh_tell_18 r2.2
  else
    (Hh_isWithin x2 0 99 r2.2).bind fun r12 =>
    if (r12.1 : Int) = 0 then
      Hh_tell_18 r12.2
    else
      (fgR r12.2 a0 11 9).bind fun v21 =>
      (Pa_add v21 x1 x2 r12.2).bind fun r26 =>
      some (r26.1, r26.2)
theorem s_Hh_tell_0 {g : Gp} {l : Launch} {D : Nat} (hD : 1 ≤ D) (a0 : Nat) (x1 : Int) (x2 : Int) (w : Wd) (r : Int × Wd) (h : Hh_tell_0 a0 x1 x2 w = some r) : Rn g l D 137 0 [(0, .inr (.inr a0)), (1, .inl x1), (2, .inl x2)] [] w (some (.inl r.1)) r.2 := by
  obtain ⟨D, rfl⟩ : ∃ D1, D = D1 + 1 := ⟨D - 1, by omega⟩
  unfold Hh_tell_0 at h
  refine fr_aload_n i137_0 rfl ?_
  refine rn_iload_n i137_1 rfl ?_
  obtain ⟨r2, h2, h⟩ := Option.bind_eq_some_iff.mp h
  obtain ⟨g2, c2⟩ := S_Hh_isLetter a0 x1 w r2 h2
  refine fr_callV (a := a0) (As := [.inl x1]) (st := []) i137_2 (cq109 a0 x1) rfl (Nat.le_of_ble_eq_true rfl) g2 (c2 _ (by omega)) ?_
  show Rn _ _ _ _ _ _ [.inl r2.1] _ _ _
  by_cases c5 : (r2.1 : Int) = 0
  · rw [if_pos c5] at h
    refine rn_if_eq_t i137_5 c5 ?_
    exact rn_sub [] rfl (s_Hh_tell_18 hD r2.2 r h)
  · rw [if_neg c5] at h
    refine rn_if_eq_f i137_5 c5 ?_
    refine rn_iload_n i137_8 rfl ?_
    refine rn_iconst i137_9 ?_
    refine rn_bipush i137_10 ?_
    obtain ⟨r12, h12, h⟩ := Option.bind_eq_some_iff.mp h
    refine fr_callS (nst := 0) (As := [.inl x2, .inl 0, .inl 99]) (st := []) i137_12 (cq112 x2 0 99) rfl (Nat.le_of_ble_eq_true rfl) (S_Hh_isWithin x2 0 99 r2.2 r12 h12 _ (by omega)) ?_
    show Rn _ _ _ _ _ _ [.inl r12.1] _ _ _
    by_cases c15 : (r12.1 : Int) = 0
    · rw [if_pos c15] at h
      refine rn_if_ne_f i137_15 c15 ?_
      exact rn_sub [] rfl (s_Hh_tell_18 hD r12.2 r h)
    · rw [if_neg c15] at h
      refine rn_if_ne_t i137_15 c15 ?_
      refine fr_aload_n i137_20 rfl ?_
      obtain ⟨v21, h21, h⟩ := Option.bind_eq_some_iff.mp h
      refine fr_gR (k := 9) i137_21 tf11_9 h21 ?_
      refine rn_iload_n i137_24 rfl ?_
      refine rn_iload_n i137_25 rfl ?_
      obtain ⟨r26, h26, h⟩ := Option.bind_eq_some_iff.mp h
      obtain ⟨g26, c26⟩ := S_Pa_add v21 x1 x2 r12.2 r26 h26
      refine fr_callV (a := v21) (As := [.inl x1, .inl x2]) (st := []) i137_26 (cq43 v21 x1 x2) rfl (Nat.le_of_ble_eq_true rfl) g26 (c26 _ (by omega)) ?_
      show Rn _ _ _ _ _ _ [.inl r26.1] _ _ _
      obtain rfl := Option.some.inj h
      exact rn_retI i137_29 mr137
/-- HandHeirs.tell(II)I -/
def Hh_tell (a0 : Nat) (x1 : Int) (x2 : Int) (w : Wd) : Option (Int × Wd) := gd 11 w a0 (Hh_tell_0 a0 x1 x2 w)
theorem S_Hh_tell {g : Gp} {l : Launch} (a0 : Nat) (x1 : Int) (x2 : Int) (w : Wd) (r : Int × Wd) (h : Hh_tell a0 x1 x2 w = some r) : (wsh w a0).1 = 11 ∧ ∀ D, 1 ≤ D → Rn g l D 137 0 [(0, .inr (.inr a0)), (1, .inl x1), (2, .inl x2)] [] w (some (.inl r.1)) r.2 := by
  obtain ⟨hg, h⟩ := gd_some h
  exact ⟨hg, fun D hD => rn_sub [0, 1, 2] rfl (s_Hh_tell_0 hD a0 x1 x2 w r h)⟩
def Hh_forget_0 (a0 : Nat) (w : Wd) : Option (Int × Wd) :=
  (fgR w a0 11 9).bind fun v1 =>
  (fgI w v1 3 0).bind fun v4 =>
  (fgR w a0 11 9).bind fun v9 =>
  (fpI w v9 3 0 0).bind fun w13 =>
  some (v4, w13)
theorem s_Hh_forget_0 {g : Gp} {l : Launch} {D : Nat} (hD : 0 ≤ D) (a0 : Nat) (w : Wd) (r : Int × Wd) (h : Hh_forget_0 a0 w = some r) : Rn g l D 138 0 [(0, .inr (.inr a0))] [] w (some (.inl r.1)) r.2 := by
  unfold Hh_forget_0 at h
  refine fr_aload_n i138_0 rfl ?_
  obtain ⟨v1, h1, h⟩ := Option.bind_eq_some_iff.mp h
  refine fr_gR (k := 9) i138_1 tf11_9 h1 ?_
  obtain ⟨v4, h4, h⟩ := Option.bind_eq_some_iff.mp h
  refine fr_gI (k := 0) i138_4 tf3_0 h4 ?_
  refine rn_istore_n (ls1 := [(1, .inl v4), (0, .inr (.inr a0))]) i138_7 rfl ?_
  refine fr_aload_n i138_8 rfl ?_
  obtain ⟨v9, h9, h⟩ := Option.bind_eq_some_iff.mp h
  refine fr_gR (k := 9) i138_9 tf11_9 h9 ?_
  refine rn_iconst i138_12 ?_
  obtain ⟨w13, h13, h⟩ := Option.bind_eq_some_iff.mp h
  refine fr_pI (k := 0) i138_13 (pf3_0 138) h13 ?_
  refine rn_iload_n i138_16 rfl ?_
  obtain rfl := Option.some.inj h
  exact rn_retI i138_17 mr138
/-- HandHeirs.forget()I -/
def Hh_forget (a0 : Nat) (w : Wd) : Option (Int × Wd) := gd 11 w a0 (Hh_forget_0 a0 w)
theorem S_Hh_forget {g : Gp} {l : Launch} (a0 : Nat) (w : Wd) (r : Int × Wd) (h : Hh_forget a0 w = some r) : (wsh w a0).1 = 11 ∧ ∀ D, 0 ≤ D → Rn g l D 138 0 [(0, .inr (.inr a0))] [] w (some (.inl r.1)) r.2 := by
  obtain ⟨hg, h⟩ := gd_some h
  exact ⟨hg, fun D hD => rn_sub [0] rfl (s_Hh_forget_0 hD a0 w r h)⟩
def Hh_dated_30 (w : Wd) : Option (Int × Wd) :=
  some ((-1), w)
theorem s_Hh_dated_30 {g : Gp} {l : Launch} {D : Nat} (hD : 2 ≤ D) (w : Wd) (r : Int × Wd) (h : Hh_dated_30 w = some r) : Rn g l D 139 30 [] [] w (some (.inl r.1)) r.2 := by
  unfold Hh_dated_30 at h
  refine rn_iconst i139_30 ?_
  obtain rfl := Option.some.inj h
  exact rn_retI i139_31 mr139
def Hh_dated_140 (s0 : Int) (w : Wd) : Option (Int × Wd) :=
  some (s0, w)
theorem s_Hh_dated_140 {g : Gp} {l : Launch} {D : Nat} (hD : 2 ≤ D) (s0 : Int) (w : Wd) (r : Int × Wd) (h : Hh_dated_140 s0 w = some r) : Rn g l D 139 140 [] [.inl s0] w (some (.inl r.1)) r.2 := by
  unfold Hh_dated_140 at h
  obtain rfl := Option.some.inj h
  exact rn_retI i139_140 mr139
def Hh_dated_123 (a0 : Nat) (x5 : Int) (x6 : Int) (w : Wd) : Option (Int × Wd) :=
  if (x6 : Int) = 0 then
    Hh_dated_140 x5 w
  else
    (fgR w a0 11 4).bind fun v129 =>
    (fgI w v129 9 0).bind fun v132 =>
    Hh_dated_140 v132 w
theorem s_Hh_dated_123 {g : Gp} {l : Launch} {D : Nat} (hD : 2 ≤ D) (a0 : Nat) (x5 : Int) (x6 : Int) (w : Wd) (r : Int × Wd) (h : Hh_dated_123 a0 x5 x6 w = some r) : Rn g l D 139 123 [(0, .inr (.inr a0)), (5, .inl x5), (6, .inl x6)] [] w (some (.inl r.1)) r.2 := by
  unfold Hh_dated_123 at h
  refine rn_iload i139_123 rfl ?_
  by_cases c125 : (x6 : Int) = 0
  · rw [if_pos c125] at h
    refine rn_if_eq_t i139_125 c125 ?_
    refine rn_iload i139_138 rfl ?_
    exact rn_sub [] rfl (s_Hh_dated_140 hD x5 w r h)
  · rw [if_neg c125] at h
    refine rn_if_eq_f i139_125 c125 ?_
    refine fr_aload_n i139_128 rfl ?_
    obtain ⟨v129, h129, h⟩ := Option.bind_eq_some_iff.mp h
    refine fr_gR (k := 4) i139_129 tf11_4 h129 ?_
    obtain ⟨v132, h132, h⟩ := Option.bind_eq_some_iff.mp h
    refine fr_gI (k := 0) i139_132 tf9_0 h132 ?_
    refine rn_goto i139_135 ?_
    exact rn_sub [] rfl (s_Hh_dated_140 hD v132 w r h)
def Hh_dated_144 (k38 : Nat → Int → Int → Int → Int → Int → Wd → Option (Int × Wd)) (a0 : Nat) (x1 : Int) (x2 : Int) (x3 : Int) (x4 : Int) (x5 : Int) (w : Wd) : Option (Int × Wd) :=
  k38 a0 x1 x2 x3 x4 (w32 (x5 + 1)) w
theorem s_Hh_dated_144 {g : Gp} {l : Launch} {D : Nat} (hD : 2 ≤ D) (k38 : Nat → Int → Int → Int → Int → Int → Wd → Option (Int × Wd)) (hk38 : ∀ (a0 : Nat) (x1 : Int) (x2 : Int) (x3 : Int) (x4 : Int) (x5 : Int) (w : Wd) (r : Int × Wd), k38 a0 x1 x2 x3 x4 x5 w = some r → Rn g l D 139 38 [(0, .inr (.inr a0)), (1, .inl x1), (2, .inl x2), (3, .inl x3), (4, .inl x4), (5, .inl x5)] [] w (some (.inl r.1)) r.2) (a0 : Nat) (x1 : Int) (x2 : Int) (x3 : Int) (x4 : Int) (x5 : Int) (w : Wd) (r : Int × Wd) (h : Hh_dated_144 k38 a0 x1 x2 x3 x4 x5 w = some r) : Rn g l D 139 144 [(0, .inr (.inr a0)), (1, .inl x1), (2, .inl x2), (3, .inl x3), (4, .inl x4), (5, .inl x5)] [] w (some (.inl r.1)) r.2 := by
  unfold Hh_dated_144 at h
  refine rn_iinc (ls1 := [(5, .inl (w32 (x5 + 1))), (0, .inr (.inr a0)), (1, .inl x1), (2, .inl x2), (3, .inl x3), (4, .inl x4)]) i139_144 rfl rfl ?_
  refine rn_goto i139_147 ?_
  exact rn_sub [1, 2, 3, 4, 5, 0] rfl (hk38 a0 x1 x2 x3 x4 (w32 (x5 + 1)) w r h)
def Hh_dated_109 (k38 : Nat → Int → Int → Int → Int → Int → Wd → Option (Int × Wd)) (a0 : Nat) (x1 : Int) (x2 : Int) (x3 : Int) (x4 : Int) (x5 : Int) (x6 : Int) (s0 : Int) (s1 : Nat) (s2 : Nat) (w : Wd) : Option (Int × Wd) :=
  (Pa_fits s2 s1 s0 x1 x2 w).bind fun r111 =>
  if (r111.1 : Int) = 0 then
    Hh_dated_144 k38 a0 x1 x2 x3 x4 x5 r111.2
  else
    if (x4 : Int) = x3 then
      Hh_dated_123 a0 x5 x6 r111.2
    else
      Hh_dated_144 k38 a0 x1 x2 x3 (w32 (x4 + 1)) x5 r111.2
theorem s_Hh_dated_109 {g : Gp} {l : Launch} {D : Nat} (hD : 2 ≤ D) (k38 : Nat → Int → Int → Int → Int → Int → Wd → Option (Int × Wd)) (hk38 : ∀ (a0 : Nat) (x1 : Int) (x2 : Int) (x3 : Int) (x4 : Int) (x5 : Int) (w : Wd) (r : Int × Wd), k38 a0 x1 x2 x3 x4 x5 w = some r → Rn g l D 139 38 [(0, .inr (.inr a0)), (1, .inl x1), (2, .inl x2), (3, .inl x3), (4, .inl x4), (5, .inl x5)] [] w (some (.inl r.1)) r.2) (a0 : Nat) (x1 : Int) (x2 : Int) (x3 : Int) (x4 : Int) (x5 : Int) (x6 : Int) (s0 : Int) (s1 : Nat) (s2 : Nat) (w : Wd) (r : Int × Wd) (h : Hh_dated_109 k38 a0 x1 x2 x3 x4 x5 x6 s0 s1 s2 w = some r) : Rn g l D 139 109 [(0, .inr (.inr a0)), (1, .inl x1), (2, .inl x2), (3, .inl x3), (4, .inl x4), (5, .inl x5), (6, .inl x6)] [.inl s0, .inr (.inr s1), .inr (.inr s2)] w (some (.inl r.1)) r.2 := by
  obtain ⟨D, rfl⟩ : ∃ D1, D = D1 + 1 := ⟨D - 1, by omega⟩
  unfold Hh_dated_109 at h
  refine rn_iload_n i139_109 rfl ?_
  refine rn_iload_n i139_110 rfl ?_
  obtain ⟨r111, h111, h⟩ := Option.bind_eq_some_iff.mp h
  obtain ⟨g111, c111⟩ := S_Pa_fits s2 s1 s0 x1 x2 w r111 h111
  refine fr_callV (a := s2) (As := [.inr (.inr s1), .inl s0, .inl x1, .inl x2]) (st := []) i139_111 (cq44 s2 s1 s0 x1 x2) rfl (Nat.le_of_ble_eq_true rfl) g111 (c111 _ (by omega)) ?_
  show Rn _ _ _ _ _ _ [.inl r111.1] _ _ _
  by_cases c114 : (r111.1 : Int) = 0
  · rw [if_pos c114] at h
    refine rn_if_eq_t i139_114 c114 ?_
    exact rn_sub [0, 1, 2, 3, 4, 5] rfl (s_Hh_dated_144 hD k38 hk38 a0 x1 x2 x3 x4 x5 r111.2 r h)
  · rw [if_neg c114] at h
    refine rn_if_eq_f i139_114 c114 ?_
    refine rn_iload i139_117 rfl ?_
    refine rn_iload_n i139_119 rfl ?_
    by_cases c120 : (x4 : Int) = x3
    · rw [if_pos c120] at h
      refine rn_icmp_ne_f i139_120 c120 ?_
      exact rn_sub [0, 5, 6] rfl (s_Hh_dated_123 hD a0 x5 x6 r111.2 r h)
    · rw [if_neg c120] at h
      refine rn_icmp_ne_t i139_120 c120 ?_
      refine rn_iinc (ls1 := [(4, .inl (w32 (x4 + 1))), (0, .inr (.inr a0)), (1, .inl x1), (2, .inl x2), (3, .inl x3), (5, .inl x5), (6, .inl x6)]) i139_141 rfl rfl ?_
      exact rn_sub [1, 2, 3, 4, 0, 5] rfl (s_Hh_dated_144 hD k38 hk38 a0 x1 x2 x3 (w32 (x4 + 1)) x5 r111.2 r h)
def Hh_dated_95 (k38 : Nat → Int → Int → Int → Int → Int → Wd → Option (Int × Wd)) (a0 : Nat) (x1 : Int) (x2 : Int) (x3 : Int) (x4 : Int) (x5 : Int) (x6 : Int) (s0 : Nat) (s1 : Nat) (w : Wd) : Option (Int × Wd) :=
  if (x6 : Int) = 0 then
    Hh_dated_109 k38 a0 x1 x2 x3 x4 x5 x6 (w32 (x5 * 6)) s0 s1 w
  else
    Hh_dated_109 k38 a0 x1 x2 x3 x4 x5 x6 0 s0 s1 w
theorem s_Hh_dated_95 {g : Gp} {l : Launch} {D : Nat} (hD : 2 ≤ D) (k38 : Nat → Int → Int → Int → Int → Int → Wd → Option (Int × Wd)) (hk38 : ∀ (a0 : Nat) (x1 : Int) (x2 : Int) (x3 : Int) (x4 : Int) (x5 : Int) (w : Wd) (r : Int × Wd), k38 a0 x1 x2 x3 x4 x5 w = some r → Rn g l D 139 38 [(0, .inr (.inr a0)), (1, .inl x1), (2, .inl x2), (3, .inl x3), (4, .inl x4), (5, .inl x5)] [] w (some (.inl r.1)) r.2) (a0 : Nat) (x1 : Int) (x2 : Int) (x3 : Int) (x4 : Int) (x5 : Int) (x6 : Int) (s0 : Nat) (s1 : Nat) (w : Wd) (r : Int × Wd) (h : Hh_dated_95 k38 a0 x1 x2 x3 x4 x5 x6 s0 s1 w = some r) : Rn g l D 139 95 [(0, .inr (.inr a0)), (1, .inl x1), (2, .inl x2), (3, .inl x3), (4, .inl x4), (5, .inl x5), (6, .inl x6)] [.inr (.inr s0), .inr (.inr s1)] w (some (.inl r.1)) r.2 := by
  unfold Hh_dated_95 at h
  refine rn_iload i139_95 rfl ?_
  by_cases c97 : (x6 : Int) = 0
  · rw [if_pos c97] at h
    refine rn_if_eq_t i139_97 c97 ?_
    refine rn_iload i139_104 rfl ?_
    refine rn_bipush i139_106 ?_
    refine rn_imul i139_108 ?_
    exact rn_sub [0, 1, 2, 3, 4, 5, 6] rfl (s_Hh_dated_109 hD k38 hk38 a0 x1 x2 x3 x4 x5 x6 (w32 (x5 * 6)) s0 s1 w r h)
  · rw [if_neg c97] at h
    refine rn_if_eq_f i139_97 c97 ?_
    refine rn_iconst i139_100 ?_
    refine rn_goto i139_101 ?_
    exact rn_sub [0, 1, 2, 3, 4, 5, 6] rfl (s_Hh_dated_109 hD k38 hk38 a0 x1 x2 x3 x4 x5 x6 0 s0 s1 w r h)
def Hh_dated_67 (k38 : Nat → Int → Int → Int → Int → Int → Wd → Option (Int × Wd)) (a0 : Nat) (x1 : Int) (x2 : Int) (x3 : Int) (x4 : Int) (x5 : Int) (s0 : Int) (w : Wd) : Option (Int × Wd) :=
  (fgR w a0 11 9).bind fun v70 =>
  if (s0 : Int) = 0 then
    (fgR w a0 11 6).bind fun v89 =>
    (fgR w v89 0 1).bind fun v92 =>
    Hh_dated_95 k38 a0 x1 x2 x3 x4 x5 s0 v92 v70 w
  else
    (fgR w a0 11 4).bind fun v79 =>
    (fgR w v79 9 3).bind fun v82 =>
    Hh_dated_95 k38 a0 x1 x2 x3 x4 x5 s0 v82 v70 w
theorem s_Hh_dated_67 {g : Gp} {l : Launch} {D : Nat} (hD : 2 ≤ D) (k38 : Nat → Int → Int → Int → Int → Int → Wd → Option (Int × Wd)) (hk38 : ∀ (a0 : Nat) (x1 : Int) (x2 : Int) (x3 : Int) (x4 : Int) (x5 : Int) (w : Wd) (r : Int × Wd), k38 a0 x1 x2 x3 x4 x5 w = some r → Rn g l D 139 38 [(0, .inr (.inr a0)), (1, .inl x1), (2, .inl x2), (3, .inl x3), (4, .inl x4), (5, .inl x5)] [] w (some (.inl r.1)) r.2) (a0 : Nat) (x1 : Int) (x2 : Int) (x3 : Int) (x4 : Int) (x5 : Int) (s0 : Int) (w : Wd) (r : Int × Wd) (h : Hh_dated_67 k38 a0 x1 x2 x3 x4 x5 s0 w = some r) : Rn g l D 139 67 [(0, .inr (.inr a0)), (1, .inl x1), (2, .inl x2), (3, .inl x3), (4, .inl x4), (5, .inl x5)] [.inl s0] w (some (.inl r.1)) r.2 := by
  unfold Hh_dated_67 at h
  refine rn_istore (ls1 := [(6, .inl s0), (0, .inr (.inr a0)), (1, .inl x1), (2, .inl x2), (3, .inl x3), (4, .inl x4), (5, .inl x5)]) i139_67 rfl ?_
  refine fr_aload_n i139_69 rfl ?_
  obtain ⟨v70, h70, h⟩ := Option.bind_eq_some_iff.mp h
  refine fr_gR (k := 9) i139_70 tf11_9 h70 ?_
  refine rn_iload i139_73 rfl ?_
  by_cases c75 : (s0 : Int) = 0
  · rw [if_pos c75] at h
    refine rn_if_eq_t i139_75 c75 ?_
    refine fr_aload_n i139_88 rfl ?_
    obtain ⟨v89, h89, h⟩ := Option.bind_eq_some_iff.mp h
    refine fr_gR (k := 6) i139_89 tf11_6 h89 ?_
    obtain ⟨v92, h92, h⟩ := Option.bind_eq_some_iff.mp h
    refine fr_gR (k := 1) i139_92 tf0_1 h92 ?_
    exact rn_sub [1, 2, 3, 4, 5, 6, 0] rfl (s_Hh_dated_95 hD k38 hk38 a0 x1 x2 x3 x4 x5 s0 v92 v70 w r h)
  · rw [if_neg c75] at h
    refine rn_if_eq_f i139_75 c75 ?_
    refine fr_aload_n i139_78 rfl ?_
    obtain ⟨v79, h79, h⟩ := Option.bind_eq_some_iff.mp h
    refine fr_gR (k := 4) i139_79 tf11_4 h79 ?_
    obtain ⟨v82, h82, h⟩ := Option.bind_eq_some_iff.mp h
    refine fr_gR (k := 3) i139_82 tf9_3 h82 ?_
    refine rn_goto i139_85 ?_
    exact rn_sub [1, 2, 3, 4, 5, 6, 0] rfl (s_Hh_dated_95 hD k38 hk38 a0 x1 x2 x3 x4 x5 s0 v82 v70 w r h)
def Hh_dated_161 (s0 : Int) (w : Wd) : Option (Int × Wd) :=
  some (s0, w)
theorem s_Hh_dated_161 {g : Gp} {l : Launch} {D : Nat} (hD : 2 ≤ D) (s0 : Int) (w : Wd) (r : Int × Wd) (h : Hh_dated_161 s0 w = some r) : Rn g l D 139 161 [] [.inl s0] w (some (.inl r.1)) r.2 := by
  unfold Hh_dated_161 at h
  obtain rfl := Option.some.inj h
  exact rn_retI i139_161 mr139
def Hh_dated_150 (x3 : Int) (x4 : Int) (w : Wd) : Option (Int × Wd) :=
  if (x3 : Int) = (-1) then
    Hh_dated_161 x4 w
  else
    Hh_dated_161 (-1) w
theorem s_Hh_dated_150 {g : Gp} {l : Launch} {D : Nat} (hD : 2 ≤ D) (x3 : Int) (x4 : Int) (w : Wd) (r : Int × Wd) (h : Hh_dated_150 x3 x4 w = some r) : Rn g l D 139 150 [(3, .inl x3), (4, .inl x4)] [] w (some (.inl r.1)) r.2 := by
  unfold Hh_dated_150 at h
  refine rn_iload_n i139_150 rfl ?_
  refine rn_iconst i139_151 ?_
  by_cases c152 : (x3 : Int) = (-1)
  · rw [if_pos c152] at h
    refine rn_icmp_ne_f i139_152 c152 ?_
    refine rn_iload i139_155 rfl ?_
    refine rn_goto i139_157 ?_
    exact rn_sub [] rfl (s_Hh_dated_161 hD x4 w r h)
  · rw [if_neg c152] at h
    refine rn_icmp_ne_t i139_152 c152 ?_
    refine rn_iconst i139_160 ?_
    exact rn_sub [] rfl (s_Hh_dated_161 hD (-1) w r h)
def Hh_dated_38 : Nat → Nat → Int → Int → Int → Int → Int → Wd → Option (Int × Wd)
  | 0, _, _, _, _, _, _, _ => none
  | n + 1, a0, x1, x2, x3, x4, x5, w =>
    (fgR w a0 11 4).bind fun v41 =>
    (St_led v41 w).bind fun r44 =>
    if (r44.1 : Int) < x5 then
      Hh_dated_150 x3 x4 r44.2
    else
      (fgR r44.2 a0 11 4).bind fun v53 =>
      (St_led v53 r44.2).bind fun r56 =>
      if (x5 : Int) = r56.1 then
        Hh_dated_67 (Hh_dated_38 n) a0 x1 x2 x3 x4 x5 1 r56.2
      else
        Hh_dated_67 (Hh_dated_38 n) a0 x1 x2 x3 x4 x5 0 r56.2
theorem s_Hh_dated_38 {g : Gp} {l : Launch} {D : Nat} (hD : 2 ≤ D) : ∀ (n : Nat) (a0 : Nat) (x1 : Int) (x2 : Int) (x3 : Int) (x4 : Int) (x5 : Int) (w : Wd) (r : Int × Wd), Hh_dated_38 n a0 x1 x2 x3 x4 x5 w = some r → Rn g l D 139 38 [(0, .inr (.inr a0)), (1, .inl x1), (2, .inl x2), (3, .inl x3), (4, .inl x4), (5, .inl x5)] [] w (some (.inl r.1)) r.2 := by
  obtain ⟨D, rfl⟩ : ∃ D1, D = D1 + 1 := ⟨D - 1, by omega⟩
  intro n
  induction n with
  | zero => intro a0 x1 x2 x3 x4 x5 w r h; cases (show (none : Option (Int × Wd)) = some r from h)
  | succ n ih =>
    intro a0 x1 x2 x3 x4 x5 w r h
    unfold Hh_dated_38 at h
    refine rn_iload i139_38 rfl ?_
    refine fr_aload_n i139_40 rfl ?_
    obtain ⟨v41, h41, h⟩ := Option.bind_eq_some_iff.mp h
    refine fr_gR (k := 4) i139_41 tf11_4 h41 ?_
    obtain ⟨r44, h44, h⟩ := Option.bind_eq_some_iff.mp h
    obtain ⟨g44, c44⟩ := S_St_led v41 w r44 h44
    refine fr_callV (a := v41) (As := []) (st := [.inl x5]) i139_44 (cq90 v41) rfl (Nat.le_of_ble_eq_true rfl) g44 (c44 _ (by omega)) ?_
    show Rn _ _ _ _ _ _ [.inl r44.1, .inl x5] _ _ _
    by_cases c47 : (r44.1 : Int) < x5
    · rw [if_pos c47] at h
      refine rn_icmp_gt_t i139_47 c47 ?_
      exact rn_sub [3, 4] rfl (s_Hh_dated_150 hD x3 x4 r44.2 r h)
    · rw [if_neg c47] at h
      refine rn_icmp_gt_f i139_47 c47 ?_
      refine rn_iload i139_50 rfl ?_
      refine fr_aload_n i139_52 rfl ?_
      obtain ⟨v53, h53, h⟩ := Option.bind_eq_some_iff.mp h
      refine fr_gR (k := 4) i139_53 tf11_4 h53 ?_
      obtain ⟨r56, h56, h⟩ := Option.bind_eq_some_iff.mp h
      obtain ⟨g56, c56⟩ := S_St_led v53 r44.2 r56 h56
      refine fr_callV (a := v53) (As := []) (st := [.inl x5]) i139_56 (cq90 v53) rfl (Nat.le_of_ble_eq_true rfl) g56 (c56 _ (by omega)) ?_
      show Rn _ _ _ _ _ _ [.inl r56.1, .inl x5] _ _ _
      by_cases c59 : (x5 : Int) = r56.1
      · rw [if_pos c59] at h
        refine rn_icmp_ne_f i139_59 c59 ?_
        refine rn_iconst i139_62 ?_
        refine rn_goto i139_63 ?_
        exact rn_sub [0, 1, 2, 3, 4, 5] rfl (s_Hh_dated_67 hD (Hh_dated_38 n) ih a0 x1 x2 x3 x4 x5 1 r56.2 r h)
      · rw [if_neg c59] at h
        refine rn_icmp_ne_t i139_59 c59 ?_
        refine rn_iconst i139_66 ?_
        exact rn_sub [0, 1, 2, 3, 4, 5] rfl (s_Hh_dated_67 hD (Hh_dated_38 n) ih a0 x1 x2 x3 x4 x5 0 r56.2 r h)
def Hh_dated_0 (a0 : Nat) (x1 : Int) (x2 : Int) (x3 : Int) (w : Wd) : Option (Int × Wd) :=
  (Hh_isWithin x1 0 99 w).bind fun r4 =>
  if (r4.1 : Int) = 0 then
    Hh_dated_30 r4.2
  else
    (fgR r4.2 a0 11 9).bind fun v13 =>
    (fgI r4.2 v13 3 0).bind fun v16 =>
    (Hh_isWithin x2 0 v16 r4.2).bind fun r19 =>
    if (r19.1 : Int) = 0 then
      Hh_dated_30 r19.2
    else
      if ((-1) : Int) ≤ x3 then
        Hh_dated_38 FU a0 x1 x2 x3 0 0 r19.2
      else
        Hh_dated_30 r19.2
theorem s_Hh_dated_0 {g : Gp} {l : Launch} {D : Nat} (hD : 2 ≤ D) (a0 : Nat) (x1 : Int) (x2 : Int) (x3 : Int) (w : Wd) (r : Int × Wd) (h : Hh_dated_0 a0 x1 x2 x3 w = some r) : Rn g l D 139 0 [(0, .inr (.inr a0)), (1, .inl x1), (2, .inl x2), (3, .inl x3)] [] w (some (.inl r.1)) r.2 := by
  obtain ⟨D, rfl⟩ : ∃ D1, D = D1 + 1 := ⟨D - 1, by omega⟩
  unfold Hh_dated_0 at h
  refine rn_iload_n i139_0 rfl ?_
  refine rn_iconst i139_1 ?_
  refine rn_bipush i139_2 ?_
  obtain ⟨r4, h4, h⟩ := Option.bind_eq_some_iff.mp h
  refine fr_callS (nst := 0) (As := [.inl x1, .inl 0, .inl 99]) (st := []) i139_4 (cq112 x1 0 99) rfl (Nat.le_of_ble_eq_true rfl) (S_Hh_isWithin x1 0 99 w r4 h4 _ (by omega)) ?_
  show Rn _ _ _ _ _ _ [.inl r4.1] _ _ _
  by_cases c7 : (r4.1 : Int) = 0
  · rw [if_pos c7] at h
    refine rn_if_eq_t i139_7 c7 ?_
    exact rn_sub [] rfl (s_Hh_dated_30 hD r4.2 r h)
  · rw [if_neg c7] at h
    refine rn_if_eq_f i139_7 c7 ?_
    refine rn_iload_n i139_10 rfl ?_
    refine rn_iconst i139_11 ?_
    refine fr_aload_n i139_12 rfl ?_
    obtain ⟨v13, h13, h⟩ := Option.bind_eq_some_iff.mp h
    refine fr_gR (k := 9) i139_13 tf11_9 h13 ?_
    obtain ⟨v16, h16, h⟩ := Option.bind_eq_some_iff.mp h
    refine fr_gI (k := 0) i139_16 tf3_0 h16 ?_
    obtain ⟨r19, h19, h⟩ := Option.bind_eq_some_iff.mp h
    refine fr_callS (nst := 0) (As := [.inl x2, .inl 0, .inl v16]) (st := []) i139_19 (cq112 x2 0 v16) rfl (Nat.le_of_ble_eq_true rfl) (S_Hh_isWithin x2 0 v16 r4.2 r19 h19 _ (by omega)) ?_
    show Rn _ _ _ _ _ _ [.inl r19.1] _ _ _
    by_cases c22 : (r19.1 : Int) = 0
    · rw [if_pos c22] at h
      refine rn_if_eq_t i139_22 c22 ?_
      exact rn_sub [] rfl (s_Hh_dated_30 hD r19.2 r h)
    · rw [if_neg c22] at h
      refine rn_if_eq_f i139_22 c22 ?_
      refine rn_iload_n i139_25 rfl ?_
      refine rn_iconst i139_26 ?_
      by_cases c27 : ((-1) : Int) ≤ x3
      · rw [if_pos c27] at h
        refine rn_icmp_ge_t i139_27 c27 ?_
        refine rn_iconst i139_32 ?_
        refine rn_istore (ls1 := [(4, .inl 0), (0, .inr (.inr a0)), (1, .inl x1), (2, .inl x2), (3, .inl x3)]) i139_33 rfl ?_
        refine rn_iconst i139_35 ?_
        refine rn_istore (ls1 := [(5, .inl 0), (4, .inl 0), (0, .inr (.inr a0)), (1, .inl x1), (2, .inl x2), (3, .inl x3)]) i139_36 rfl ?_
        exact rn_sub [2, 3, 4, 5, 1, 0] rfl (s_Hh_dated_38 hD FU a0 x1 x2 x3 0 0 r19.2 r h)
      · rw [if_neg c27] at h
        refine rn_icmp_ge_f i139_27 c27 ?_
        exact rn_sub [] rfl (s_Hh_dated_30 hD r19.2 r h)
/-- HandHeirs.dated(III)I -/
def Hh_dated (a0 : Nat) (x1 : Int) (x2 : Int) (x3 : Int) (w : Wd) : Option (Int × Wd) := gd 11 w a0 (Hh_dated_0 a0 x1 x2 x3 w)
theorem S_Hh_dated {g : Gp} {l : Launch} (a0 : Nat) (x1 : Int) (x2 : Int) (x3 : Int) (w : Wd) (r : Int × Wd) (h : Hh_dated a0 x1 x2 x3 w = some r) : (wsh w a0).1 = 11 ∧ ∀ D, 2 ≤ D → Rn g l D 139 0 [(0, .inr (.inr a0)), (1, .inl x1), (2, .inl x2), (3, .inl x3)] [] w (some (.inl r.1)) r.2 := by
  obtain ⟨hg, h⟩ := gd_some h
  exact ⟨hg, fun D hD => rn_sub [0, 1, 2, 3] rfl (s_Hh_dated_0 hD a0 x1 x2 x3 w r h)⟩
def Hh_hold_0 (a0 : Nat) (x1 : Int) (w : Wd) : Option (Int × Wd) :=
  (Hh_isWithin x1 0 2 w).bind fun r3 =>
  if (r3.1 : Int) = 0 then
    some (0, r3.2)
  else
    (fgR r3.2 a0 11 8).bind fun v12 =>
    (rdR r3.2 v12 x1).bind fun v16 =>
    (fgR r3.2 v16 8 1).bind fun v17 =>
    (fgR r3.2 a0 11 4).bind fun v21 =>
    (St_copy v17 v21 r3.2).bind fun r24 =>
    (fgR r24 a0 11 8).bind fun v28 =>
    (rdR r24 v28 x1).bind fun v32 =>
    (fgR r24 v32 8 2).bind fun v33 =>
    (fgR r24 a0 11 6).bind fun v37 =>
    (fgR r24 a0 11 4).bind fun v41 =>
    (St_led v41 r24).bind fun r44 =>
    (Bk_copy v33 v37 (r44.1) r44.2).bind fun r47 =>
    (fgR r47 a0 11 8).bind fun v51 =>
    (rdR r47 v51 x1).bind fun v55 =>
    (fpZ r47 v55 8 0 1).bind fun w57 =>
    some (1, w57)
theorem s_Hh_hold_0 {g : Gp} {l : Launch} {D : Nat} (hD : 2 ≤ D) (a0 : Nat) (x1 : Int) (w : Wd) (r : Int × Wd) (h : Hh_hold_0 a0 x1 w = some r) : Rn g l D 140 0 [(0, .inr (.inr a0)), (1, .inl x1)] [] w (some (.inl r.1)) r.2 := by
  obtain ⟨D, rfl⟩ : ∃ D1, D = D1 + 1 := ⟨D - 1, by omega⟩
  unfold Hh_hold_0 at h
  refine rn_iload_n i140_0 rfl ?_
  refine rn_iconst i140_1 ?_
  refine rn_iconst i140_2 ?_
  obtain ⟨r3, h3, h⟩ := Option.bind_eq_some_iff.mp h
  refine fr_callS (nst := 0) (As := [.inl x1, .inl 0, .inl 2]) (st := []) i140_3 (cq112 x1 0 2) rfl (Nat.le_of_ble_eq_true rfl) (S_Hh_isWithin x1 0 2 w r3 h3 _ (by omega)) ?_
  show Rn _ _ _ _ _ _ [.inl r3.1] _ _ _
  by_cases c6 : (r3.1 : Int) = 0
  · rw [if_pos c6] at h
    refine rn_if_ne_f i140_6 c6 ?_
    refine rn_iconst i140_9 ?_
    obtain rfl := Option.some.inj h
    exact rn_retZ i140_10 mr140 (by decide)
  · rw [if_neg c6] at h
    refine rn_if_ne_t i140_6 c6 ?_
    refine fr_aload_n i140_11 rfl ?_
    obtain ⟨v12, h12, h⟩ := Option.bind_eq_some_iff.mp h
    refine fr_gR (k := 8) i140_12 tf11_8 h12 ?_
    refine rn_iload_n i140_15 rfl ?_
    obtain ⟨v16, h16, h⟩ := Option.bind_eq_some_iff.mp h
    refine rn_aald i140_16 h16 ?_
    obtain ⟨v17, h17, h⟩ := Option.bind_eq_some_iff.mp h
    refine fr_gR (k := 1) i140_17 tf8_1 h17 ?_
    refine fr_aload_n i140_20 rfl ?_
    obtain ⟨v21, h21, h⟩ := Option.bind_eq_some_iff.mp h
    refine fr_gR (k := 4) i140_21 tf11_4 h21 ?_
    obtain ⟨r24, h24, h⟩ := Option.bind_eq_some_iff.mp h
    obtain ⟨g24, c24⟩ := S_St_copy v17 v21 r3.2 r24 h24
    refine fr_callV (a := v17) (As := [.inr (.inr v21)]) (st := []) i140_24 (cq89 v17 v21) rfl (Nat.le_of_ble_eq_true rfl) g24 (c24 _ (by omega)) ?_
    refine fr_aload_n i140_27 rfl ?_
    obtain ⟨v28, h28, h⟩ := Option.bind_eq_some_iff.mp h
    refine fr_gR (k := 8) i140_28 tf11_8 h28 ?_
    refine rn_iload_n i140_31 rfl ?_
    obtain ⟨v32, h32, h⟩ := Option.bind_eq_some_iff.mp h
    refine rn_aald i140_32 h32 ?_
    obtain ⟨v33, h33, h⟩ := Option.bind_eq_some_iff.mp h
    refine fr_gR (k := 2) i140_33 tf8_2 h33 ?_
    refine fr_aload_n i140_36 rfl ?_
    obtain ⟨v37, h37, h⟩ := Option.bind_eq_some_iff.mp h
    refine fr_gR (k := 6) i140_37 tf11_6 h37 ?_
    refine fr_aload_n i140_40 rfl ?_
    obtain ⟨v41, h41, h⟩ := Option.bind_eq_some_iff.mp h
    refine fr_gR (k := 4) i140_41 tf11_4 h41 ?_
    obtain ⟨r44, h44, h⟩ := Option.bind_eq_some_iff.mp h
    obtain ⟨g44, c44⟩ := S_St_led v41 r24 r44 h44
    refine fr_callV (a := v41) (As := []) (st := [.inr (.inr v37), .inr (.inr v33)]) i140_44 (cq90 v41) rfl (Nat.le_of_ble_eq_true rfl) g44 (c44 _ (by omega)) ?_
    show Rn _ _ _ _ _ _ [.inl r44.1, .inr (.inr v37), .inr (.inr v33)] _ _ _
    obtain ⟨r47, h47, h⟩ := Option.bind_eq_some_iff.mp h
    obtain ⟨g47, c47⟩ := S_Bk_copy v33 v37 (r44.1) r44.2 r47 h47
    refine fr_callV (a := v33) (As := [.inr (.inr v37), .inl r44.1]) (st := []) i140_47 (cq17 v33 v37 (r44.1)) rfl (Nat.le_of_ble_eq_true rfl) g47 (c47 _ (by omega)) ?_
    refine fr_aload_n i140_50 rfl ?_
    obtain ⟨v51, h51, h⟩ := Option.bind_eq_some_iff.mp h
    refine fr_gR (k := 8) i140_51 tf11_8 h51 ?_
    refine rn_iload_n i140_54 rfl ?_
    obtain ⟨v55, h55, h⟩ := Option.bind_eq_some_iff.mp h
    refine rn_aald i140_55 h55 ?_
    refine rn_iconst i140_56 ?_
    obtain ⟨w57, h57, h⟩ := Option.bind_eq_some_iff.mp h
    refine fr_pZ (k := 0) i140_57 (pf8_0 140) h57 ?_
    refine rn_iconst i140_60 ?_
    obtain rfl := Option.some.inj h
    exact rn_retZ i140_61 mr140 (by decide)
/-- HandHeirs.hold(I)Z -/
def Hh_hold (a0 : Nat) (x1 : Int) (w : Wd) : Option (Int × Wd) := gd 11 w a0 (Hh_hold_0 a0 x1 w)
theorem S_Hh_hold {g : Gp} {l : Launch} (a0 : Nat) (x1 : Int) (w : Wd) (r : Int × Wd) (h : Hh_hold a0 x1 w = some r) : (wsh w a0).1 = 11 ∧ ∀ D, 2 ≤ D → Rn g l D 140 0 [(0, .inr (.inr a0)), (1, .inl x1)] [] w (some (.inl r.1)) r.2 := by
  obtain ⟨hg, h⟩ := gd_some h
  exact ⟨hg, fun D hD => rn_sub [0, 1] rfl (s_Hh_hold_0 hD a0 x1 w r h)⟩
def Hh_restore_21 (w : Wd) : Option (Int × Wd) :=
  some (0, w)
theorem s_Hh_restore_21 {g : Gp} {l : Launch} {D : Nat} (hD : 2 ≤ D) (w : Wd) (r : Int × Wd) (h : Hh_restore_21 w = some r) : Rn g l D 141 21 [] [] w (some (.inl r.1)) r.2 := by
  unfold Hh_restore_21 at h
  refine rn_iconst i141_21 ?_
  obtain rfl := Option.some.inj h
  exact rn_retZ i141_22 mr141 (by decide)
def Hh_restore_0 (a0 : Nat) (x1 : Int) (w : Wd) : Option (Int × Wd) :=
  (Hh_isWithin x1 0 2 w).bind fun r3 =>
  if (r3.1 : Int) = 0 then
    Hh_restore_21 r3.2
  else
    (fgR r3.2 a0 11 8).bind fun v10 =>
    (rdR r3.2 v10 x1).bind fun v14 =>
    (fgI r3.2 v14 8 0).bind fun v15 =>
    if (v15 : Int) = 0 then
      Hh_restore_21 r3.2
    else
      (fgR r3.2 a0 11 4).bind fun v24 =>
      (fgR r3.2 a0 11 8).bind fun v28 =>
      (rdR r3.2 v28 x1).bind fun v32 =>
      (fgR r3.2 v32 8 1).bind fun v33 =>
      (St_copy v24 v33 r3.2).bind fun r36 =>
      (fgR r36 a0 11 6).bind fun v40 =>
      (fgR r36 a0 11 8).bind fun v44 =>
      (rdR r36 v44 x1).bind fun v48 =>
      (fgR r36 v48 8 2).bind fun v49 =>
      (fgR r36 a0 11 4).bind fun v53 =>
      (St_led v53 r36).bind fun r56 =>
      (Bk_copy v40 v49 (r56.1) r56.2).bind fun r59 =>
      (fgR r59 a0 11 7).bind fun v63 =>
      (Ps_clear v63 r59).bind fun r66 =>
      some (1, r66)
theorem s_Hh_restore_0 {g : Gp} {l : Launch} {D : Nat} (hD : 2 ≤ D) (a0 : Nat) (x1 : Int) (w : Wd) (r : Int × Wd) (h : Hh_restore_0 a0 x1 w = some r) : Rn g l D 141 0 [(0, .inr (.inr a0)), (1, .inl x1)] [] w (some (.inl r.1)) r.2 := by
  obtain ⟨D, rfl⟩ : ∃ D1, D = D1 + 1 := ⟨D - 1, by omega⟩
  unfold Hh_restore_0 at h
  refine rn_iload_n i141_0 rfl ?_
  refine rn_iconst i141_1 ?_
  refine rn_iconst i141_2 ?_
  obtain ⟨r3, h3, h⟩ := Option.bind_eq_some_iff.mp h
  refine fr_callS (nst := 0) (As := [.inl x1, .inl 0, .inl 2]) (st := []) i141_3 (cq112 x1 0 2) rfl (Nat.le_of_ble_eq_true rfl) (S_Hh_isWithin x1 0 2 w r3 h3 _ (by omega)) ?_
  show Rn _ _ _ _ _ _ [.inl r3.1] _ _ _
  by_cases c6 : (r3.1 : Int) = 0
  · rw [if_pos c6] at h
    refine rn_if_eq_t i141_6 c6 ?_
    exact rn_sub [] rfl (s_Hh_restore_21 hD r3.2 r h)
  · rw [if_neg c6] at h
    refine rn_if_eq_f i141_6 c6 ?_
    refine fr_aload_n i141_9 rfl ?_
    obtain ⟨v10, h10, h⟩ := Option.bind_eq_some_iff.mp h
    refine fr_gR (k := 8) i141_10 tf11_8 h10 ?_
    refine rn_iload_n i141_13 rfl ?_
    obtain ⟨v14, h14, h⟩ := Option.bind_eq_some_iff.mp h
    refine rn_aald i141_14 h14 ?_
    obtain ⟨v15, h15, h⟩ := Option.bind_eq_some_iff.mp h
    refine fr_gI (k := 0) i141_15 tf8_0 h15 ?_
    by_cases c18 : (v15 : Int) = 0
    · rw [if_pos c18] at h
      refine rn_if_ne_f i141_18 c18 ?_
      exact rn_sub [] rfl (s_Hh_restore_21 hD r3.2 r h)
    · rw [if_neg c18] at h
      refine rn_if_ne_t i141_18 c18 ?_
      refine fr_aload_n i141_23 rfl ?_
      obtain ⟨v24, h24, h⟩ := Option.bind_eq_some_iff.mp h
      refine fr_gR (k := 4) i141_24 tf11_4 h24 ?_
      refine fr_aload_n i141_27 rfl ?_
      obtain ⟨v28, h28, h⟩ := Option.bind_eq_some_iff.mp h
      refine fr_gR (k := 8) i141_28 tf11_8 h28 ?_
      refine rn_iload_n i141_31 rfl ?_
      obtain ⟨v32, h32, h⟩ := Option.bind_eq_some_iff.mp h
      refine rn_aald i141_32 h32 ?_
      obtain ⟨v33, h33, h⟩ := Option.bind_eq_some_iff.mp h
      refine fr_gR (k := 1) i141_33 tf8_1 h33 ?_
      obtain ⟨r36, h36, h⟩ := Option.bind_eq_some_iff.mp h
      obtain ⟨g36, c36⟩ := S_St_copy v24 v33 r3.2 r36 h36
      refine fr_callV (a := v24) (As := [.inr (.inr v33)]) (st := []) i141_36 (cq89 v24 v33) rfl (Nat.le_of_ble_eq_true rfl) g36 (c36 _ (by omega)) ?_
      refine fr_aload_n i141_39 rfl ?_
      obtain ⟨v40, h40, h⟩ := Option.bind_eq_some_iff.mp h
      refine fr_gR (k := 6) i141_40 tf11_6 h40 ?_
      refine fr_aload_n i141_43 rfl ?_
      obtain ⟨v44, h44, h⟩ := Option.bind_eq_some_iff.mp h
      refine fr_gR (k := 8) i141_44 tf11_8 h44 ?_
      refine rn_iload_n i141_47 rfl ?_
      obtain ⟨v48, h48, h⟩ := Option.bind_eq_some_iff.mp h
      refine rn_aald i141_48 h48 ?_
      obtain ⟨v49, h49, h⟩ := Option.bind_eq_some_iff.mp h
      refine fr_gR (k := 2) i141_49 tf8_2 h49 ?_
      refine fr_aload_n i141_52 rfl ?_
      obtain ⟨v53, h53, h⟩ := Option.bind_eq_some_iff.mp h
      refine fr_gR (k := 4) i141_53 tf11_4 h53 ?_
      obtain ⟨r56, h56, h⟩ := Option.bind_eq_some_iff.mp h
      obtain ⟨g56, c56⟩ := S_St_led v53 r36 r56 h56
      refine fr_callV (a := v53) (As := []) (st := [.inr (.inr v49), .inr (.inr v40)]) i141_56 (cq90 v53) rfl (Nat.le_of_ble_eq_true rfl) g56 (c56 _ (by omega)) ?_
      show Rn _ _ _ _ _ _ [.inl r56.1, .inr (.inr v49), .inr (.inr v40)] _ _ _
      obtain ⟨r59, h59, h⟩ := Option.bind_eq_some_iff.mp h
      obtain ⟨g59, c59⟩ := S_Bk_copy v40 v49 (r56.1) r56.2 r59 h59
      refine fr_callV (a := v40) (As := [.inr (.inr v49), .inl r56.1]) (st := []) i141_59 (cq17 v40 v49 (r56.1)) rfl (Nat.le_of_ble_eq_true rfl) g59 (c59 _ (by omega)) ?_
      refine fr_aload_n i141_62 rfl ?_
      obtain ⟨v63, h63, h⟩ := Option.bind_eq_some_iff.mp h
      refine fr_gR (k := 7) i141_63 tf11_7 h63 ?_
      obtain ⟨r66, h66, h⟩ := Option.bind_eq_some_iff.mp h
      obtain ⟨g66, c66⟩ := S_Ps_clear v63 r59 r66 h66
      refine fr_callV (a := v63) (As := []) (st := []) i141_66 (cq46 v63) rfl (Nat.le_of_ble_eq_true rfl) g66 (c66 _ (by omega)) ?_
      refine rn_iconst i141_69 ?_
      obtain rfl := Option.some.inj h
      exact rn_retZ i141_70 mr141 (by decide)
/-- HandHeirs.restore(I)Z -/
def Hh_restore (a0 : Nat) (x1 : Int) (w : Wd) : Option (Int × Wd) := gd 11 w a0 (Hh_restore_0 a0 x1 w)
theorem S_Hh_restore {g : Gp} {l : Launch} (a0 : Nat) (x1 : Int) (w : Wd) (r : Int × Wd) (h : Hh_restore a0 x1 w = some r) : (wsh w a0).1 = 11 ∧ ∀ D, 2 ≤ D → Rn g l D 141 0 [(0, .inr (.inr a0)), (1, .inl x1)] [] w (some (.inl r.1)) r.2 := by
  obtain ⟨hg, h⟩ := gd_some h
  exact ⟨hg, fun D hD => rn_sub [0, 1] rfl (s_Hh_restore_0 hD a0 x1 w r h)⟩
def Hh_fullSlots_24 (k4 : Nat → Int → Int → Wd → Option (Int × Wd)) (a0 : Nat) (x1 : Int) (x2 : Int) (w : Wd) : Option (Int × Wd) :=
  k4 a0 x1 (w32 (x2 + 1)) w
theorem s_Hh_fullSlots_24 {g : Gp} {l : Launch} {D : Nat} (hD : 0 ≤ D) (k4 : Nat → Int → Int → Wd → Option (Int × Wd)) (hk4 : ∀ (a0 : Nat) (x1 : Int) (x2 : Int) (w : Wd) (r : Int × Wd), k4 a0 x1 x2 w = some r → Rn g l D 143 4 [(0, .inr (.inr a0)), (1, .inl x1), (2, .inl x2)] [] w (some (.inl r.1)) r.2) (a0 : Nat) (x1 : Int) (x2 : Int) (w : Wd) (r : Int × Wd) (h : Hh_fullSlots_24 k4 a0 x1 x2 w = some r) : Rn g l D 143 24 [(0, .inr (.inr a0)), (1, .inl x1), (2, .inl x2)] [] w (some (.inl r.1)) r.2 := by
  unfold Hh_fullSlots_24 at h
  refine rn_iinc (ls1 := [(2, .inl (w32 (x2 + 1))), (0, .inr (.inr a0)), (1, .inl x1)]) i143_24 rfl rfl ?_
  refine rn_goto i143_27 ?_
  exact rn_sub [1, 2, 0] rfl (hk4 a0 x1 (w32 (x2 + 1)) w r h)
def Hh_fullSlots_4 : Nat → Nat → Int → Int → Wd → Option (Int × Wd)
  | 0, _, _, _, _ => none
  | n + 1, a0, x1, x2, w =>
    if (3 : Int) ≤ x2 then
      some (x1, w)
    else
      (fgR w a0 11 8).bind fun v10 =>
      (rdR w v10 x2).bind fun v14 =>
      (fgI w v14 8 0).bind fun v15 =>
      if (v15 : Int) = 0 then
        Hh_fullSlots_24 (Hh_fullSlots_4 n) a0 x1 x2 w
      else
        Hh_fullSlots_24 (Hh_fullSlots_4 n) a0 (w32 (x1 + 1)) x2 w
theorem s_Hh_fullSlots_4 {g : Gp} {l : Launch} {D : Nat} (hD : 0 ≤ D) : ∀ (n : Nat) (a0 : Nat) (x1 : Int) (x2 : Int) (w : Wd) (r : Int × Wd), Hh_fullSlots_4 n a0 x1 x2 w = some r → Rn g l D 143 4 [(0, .inr (.inr a0)), (1, .inl x1), (2, .inl x2)] [] w (some (.inl r.1)) r.2 := by
  intro n
  induction n with
  | zero => intro a0 x1 x2 w r h; cases (show (none : Option (Int × Wd)) = some r from h)
  | succ n ih =>
    intro a0 x1 x2 w r h
    unfold Hh_fullSlots_4 at h
    refine rn_iload_n i143_4 rfl ?_
    refine rn_iconst i143_5 ?_
    by_cases c6 : (3 : Int) ≤ x2
    · rw [if_pos c6] at h
      refine rn_icmp_ge_t i143_6 c6 ?_
      refine rn_iload_n i143_30 rfl ?_
      obtain rfl := Option.some.inj h
      exact rn_retI i143_31 mr143
    · rw [if_neg c6] at h
      refine rn_icmp_ge_f i143_6 c6 ?_
      refine fr_aload_n i143_9 rfl ?_
      obtain ⟨v10, h10, h⟩ := Option.bind_eq_some_iff.mp h
      refine fr_gR (k := 8) i143_10 tf11_8 h10 ?_
      refine rn_iload_n i143_13 rfl ?_
      obtain ⟨v14, h14, h⟩ := Option.bind_eq_some_iff.mp h
      refine rn_aald i143_14 h14 ?_
      obtain ⟨v15, h15, h⟩ := Option.bind_eq_some_iff.mp h
      refine fr_gI (k := 0) i143_15 tf8_0 h15 ?_
      by_cases c18 : (v15 : Int) = 0
      · rw [if_pos c18] at h
        refine rn_if_eq_t i143_18 c18 ?_
        exact rn_sub [0, 1, 2] rfl (s_Hh_fullSlots_24 hD (Hh_fullSlots_4 n) ih a0 x1 x2 w r h)
      · rw [if_neg c18] at h
        refine rn_if_eq_f i143_18 c18 ?_
        refine rn_iinc (ls1 := [(1, .inl (w32 (x1 + 1))), (0, .inr (.inr a0)), (2, .inl x2)]) i143_21 rfl rfl ?_
        exact rn_sub [1, 0, 2] rfl (s_Hh_fullSlots_24 hD (Hh_fullSlots_4 n) ih a0 (w32 (x1 + 1)) x2 w r h)
def Hh_fullSlots_0 (a0 : Nat) (w : Wd) : Option (Int × Wd) :=
  Hh_fullSlots_4 FU a0 0 0 w
theorem s_Hh_fullSlots_0 {g : Gp} {l : Launch} {D : Nat} (hD : 0 ≤ D) (a0 : Nat) (w : Wd) (r : Int × Wd) (h : Hh_fullSlots_0 a0 w = some r) : Rn g l D 143 0 [(0, .inr (.inr a0))] [] w (some (.inl r.1)) r.2 := by
  unfold Hh_fullSlots_0 at h
  refine rn_iconst i143_0 ?_
  refine rn_istore_n (ls1 := [(1, .inl 0), (0, .inr (.inr a0))]) i143_1 rfl ?_
  refine rn_iconst i143_2 ?_
  refine rn_istore_n (ls1 := [(2, .inl 0), (1, .inl 0), (0, .inr (.inr a0))]) i143_3 rfl ?_
  exact rn_sub [2, 1, 0] rfl (s_Hh_fullSlots_4 hD FU a0 0 0 w r h)
/-- HandHeirs.fullSlots()I -/
def Hh_fullSlots (a0 : Nat) (w : Wd) : Option (Int × Wd) := gd 11 w a0 (Hh_fullSlots_0 a0 w)
theorem S_Hh_fullSlots {g : Gp} {l : Launch} (a0 : Nat) (w : Wd) (r : Int × Wd) (h : Hh_fullSlots a0 w = some r) : (wsh w a0).1 = 11 ∧ ∀ D, 0 ≤ D → Rn g l D 143 0 [(0, .inr (.inr a0))] [] w (some (.inl r.1)) r.2 := by
  obtain ⟨hg, h⟩ := gd_some h
  exact ⟨hg, fun D hD => rn_sub [0] rfl (s_Hh_fullSlots_0 hD a0 w r h)⟩
def Hh_count_0 (a0 : Nat) (x1 : Int) (w : Wd) : Option (Int × Wd) :=
  if (x1 : Int) = 0 then
    (fgR w a0 11 3).bind fun v69 =>
    (fgI w v69 10 0).bind fun v72 =>
    some (v72, w)
  else
    if (x1 : Int) = 1 then
      (fgR w a0 11 3).bind fun v77 =>
      (fgI w v77 10 1).bind fun v80 =>
      some (v80, w)
    else
      if (x1 : Int) = 2 then
        (fgR w a0 11 3).bind fun v85 =>
        (fgI w v85 10 2).bind fun v88 =>
        some (v88, w)
      else
        if (x1 : Int) = 3 then
          (fgR w a0 11 4).bind fun v93 =>
          (fgI w v93 9 0).bind fun v96 =>
          some (v96, w)
        else
          if (x1 : Int) = 4 then
            (fgR w a0 11 4).bind fun v101 =>
            (fgI w v101 9 2).bind fun v104 =>
            some (v104, w)
          else
            if (x1 : Int) = 5 then
              (fgR w a0 11 4).bind fun v109 =>
              (fgI w v109 9 1).bind fun v112 =>
              some (v112, w)
            else
              if (x1 : Int) = 6 then
                (fgR w a0 11 3).bind fun v117 =>
                (fgI w v117 10 3).bind fun v120 =>
                some (v120, w)
              else
                if (x1 : Int) = 7 then
                  (fgR w a0 11 3).bind fun v125 =>
                  (fgI w v125 10 4).bind fun v128 =>
                  some (v128, w)
                else
                  if (x1 : Int) = 8 then
                    (fgR w a0 11 4).bind fun v133 =>
                    (St_led v133 w).bind fun r136 =>
                    some (r136.1, r136.2)
                  else
                    if (x1 : Int) = 9 then
                      (fgI w a0 11 1).bind fun v141 =>
                      some (v141, w)
                    else
                      if (x1 : Int) = 10 then
                        (fgR w a0 11 7).bind fun v146 =>
                        (fgI w v146 4 0).bind fun v149 =>
                        some (v149, w)
                      else
                        if (x1 : Int) = 11 then
                          (fgR w a0 11 9).bind fun v154 =>
                          (fgI w v154 3 0).bind fun v157 =>
                          some (v157, w)
                        else
                          if (x1 : Int) = 12 then
                            (Hh_fullSlots a0 w).bind fun r162 =>
                            some (r162.1, r162.2)
                          else
                            some ((-1), w)
theorem s_Hh_count_0 {g : Gp} {l : Launch} {D : Nat} (hD : 2 ≤ D) (a0 : Nat) (x1 : Int) (w : Wd) (r : Int × Wd) (h : Hh_count_0 a0 x1 w = some r) : Rn g l D 142 0 [(0, .inr (.inr a0)), (1, .inl x1)] [] w (some (.inl r.1)) r.2 := by
  obtain ⟨D, rfl⟩ : ∃ D1, D = D1 + 1 := ⟨D - 1, by omega⟩
  unfold Hh_count_0 at h
  refine rn_iload_n i142_0 rfl ?_
  by_cases c1_0 : (x1 : Int) = 0
  · rw [if_pos c1_0] at h
    refine rn_tsw_in (tgt := 68) i142_1 0 (by omega) (by omega) rfl rfl ?_
    refine fr_aload_n i142_68 rfl ?_
    obtain ⟨v69, h69, h⟩ := Option.bind_eq_some_iff.mp h
    refine fr_gR (k := 3) i142_69 tf11_3 h69 ?_
    obtain ⟨v72, h72, h⟩ := Option.bind_eq_some_iff.mp h
    refine fr_gI (k := 0) i142_72 tf10_0 h72 ?_
    obtain rfl := Option.some.inj h
    exact rn_retI i142_75 mr142
  · rw [if_neg c1_0] at h
    by_cases c1_1 : (x1 : Int) = 1
    · rw [if_pos c1_1] at h
      refine rn_tsw_in (tgt := 76) i142_1 1 (by omega) (by omega) rfl rfl ?_
      refine fr_aload_n i142_76 rfl ?_
      obtain ⟨v77, h77, h⟩ := Option.bind_eq_some_iff.mp h
      refine fr_gR (k := 3) i142_77 tf11_3 h77 ?_
      obtain ⟨v80, h80, h⟩ := Option.bind_eq_some_iff.mp h
      refine fr_gI (k := 1) i142_80 tf10_1 h80 ?_
      obtain rfl := Option.some.inj h
      exact rn_retI i142_83 mr142
    · rw [if_neg c1_1] at h
      by_cases c1_2 : (x1 : Int) = 2
      · rw [if_pos c1_2] at h
        refine rn_tsw_in (tgt := 84) i142_1 2 (by omega) (by omega) rfl rfl ?_
        refine fr_aload_n i142_84 rfl ?_
        obtain ⟨v85, h85, h⟩ := Option.bind_eq_some_iff.mp h
        refine fr_gR (k := 3) i142_85 tf11_3 h85 ?_
        obtain ⟨v88, h88, h⟩ := Option.bind_eq_some_iff.mp h
        refine fr_gI (k := 2) i142_88 tf10_2 h88 ?_
        obtain rfl := Option.some.inj h
        exact rn_retI i142_91 mr142
      · rw [if_neg c1_2] at h
        by_cases c1_3 : (x1 : Int) = 3
        · rw [if_pos c1_3] at h
          refine rn_tsw_in (tgt := 92) i142_1 3 (by omega) (by omega) rfl rfl ?_
          refine fr_aload_n i142_92 rfl ?_
          obtain ⟨v93, h93, h⟩ := Option.bind_eq_some_iff.mp h
          refine fr_gR (k := 4) i142_93 tf11_4 h93 ?_
          obtain ⟨v96, h96, h⟩ := Option.bind_eq_some_iff.mp h
          refine fr_gI (k := 0) i142_96 tf9_0 h96 ?_
          obtain rfl := Option.some.inj h
          exact rn_retI i142_99 mr142
        · rw [if_neg c1_3] at h
          by_cases c1_4 : (x1 : Int) = 4
          · rw [if_pos c1_4] at h
            refine rn_tsw_in (tgt := 100) i142_1 4 (by omega) (by omega) rfl rfl ?_
            refine fr_aload_n i142_100 rfl ?_
            obtain ⟨v101, h101, h⟩ := Option.bind_eq_some_iff.mp h
            refine fr_gR (k := 4) i142_101 tf11_4 h101 ?_
            obtain ⟨v104, h104, h⟩ := Option.bind_eq_some_iff.mp h
            refine fr_gI (k := 2) i142_104 tf9_2 h104 ?_
            obtain rfl := Option.some.inj h
            exact rn_retI i142_107 mr142
          · rw [if_neg c1_4] at h
            by_cases c1_5 : (x1 : Int) = 5
            · rw [if_pos c1_5] at h
              refine rn_tsw_in (tgt := 108) i142_1 5 (by omega) (by omega) rfl rfl ?_
              refine fr_aload_n i142_108 rfl ?_
              obtain ⟨v109, h109, h⟩ := Option.bind_eq_some_iff.mp h
              refine fr_gR (k := 4) i142_109 tf11_4 h109 ?_
              obtain ⟨v112, h112, h⟩ := Option.bind_eq_some_iff.mp h
              refine fr_gI (k := 1) i142_112 tf9_1 h112 ?_
              obtain rfl := Option.some.inj h
              exact rn_retI i142_115 mr142
            · rw [if_neg c1_5] at h
              by_cases c1_6 : (x1 : Int) = 6
              · rw [if_pos c1_6] at h
                refine rn_tsw_in (tgt := 116) i142_1 6 (by omega) (by omega) rfl rfl ?_
                refine fr_aload_n i142_116 rfl ?_
                obtain ⟨v117, h117, h⟩ := Option.bind_eq_some_iff.mp h
                refine fr_gR (k := 3) i142_117 tf11_3 h117 ?_
                obtain ⟨v120, h120, h⟩ := Option.bind_eq_some_iff.mp h
                refine fr_gI (k := 3) i142_120 tf10_3 h120 ?_
                obtain rfl := Option.some.inj h
                exact rn_retI i142_123 mr142
              · rw [if_neg c1_6] at h
                by_cases c1_7 : (x1 : Int) = 7
                · rw [if_pos c1_7] at h
                  refine rn_tsw_in (tgt := 124) i142_1 7 (by omega) (by omega) rfl rfl ?_
                  refine fr_aload_n i142_124 rfl ?_
                  obtain ⟨v125, h125, h⟩ := Option.bind_eq_some_iff.mp h
                  refine fr_gR (k := 3) i142_125 tf11_3 h125 ?_
                  obtain ⟨v128, h128, h⟩ := Option.bind_eq_some_iff.mp h
                  refine fr_gI (k := 4) i142_128 tf10_4 h128 ?_
                  obtain rfl := Option.some.inj h
                  exact rn_retI i142_131 mr142
                · rw [if_neg c1_7] at h
                  by_cases c1_8 : (x1 : Int) = 8
                  · rw [if_pos c1_8] at h
                    refine rn_tsw_in (tgt := 132) i142_1 8 (by omega) (by omega) rfl rfl ?_
                    refine fr_aload_n i142_132 rfl ?_
                    obtain ⟨v133, h133, h⟩ := Option.bind_eq_some_iff.mp h
                    refine fr_gR (k := 4) i142_133 tf11_4 h133 ?_
                    obtain ⟨r136, h136, h⟩ := Option.bind_eq_some_iff.mp h
                    obtain ⟨g136, c136⟩ := S_St_led v133 w r136 h136
                    refine fr_callV (a := v133) (As := []) (st := []) i142_136 (cq90 v133) rfl (Nat.le_of_ble_eq_true rfl) g136 (c136 _ (by omega)) ?_
                    show Rn _ _ _ _ _ _ [.inl r136.1] _ _ _
                    obtain rfl := Option.some.inj h
                    exact rn_retI i142_139 mr142
                  · rw [if_neg c1_8] at h
                    by_cases c1_9 : (x1 : Int) = 9
                    · rw [if_pos c1_9] at h
                      refine rn_tsw_in (tgt := 140) i142_1 9 (by omega) (by omega) rfl rfl ?_
                      refine fr_aload_n i142_140 rfl ?_
                      obtain ⟨v141, h141, h⟩ := Option.bind_eq_some_iff.mp h
                      refine fr_gI (k := 1) i142_141 tf11_1 h141 ?_
                      obtain rfl := Option.some.inj h
                      exact rn_retI i142_144 mr142
                    · rw [if_neg c1_9] at h
                      by_cases c1_10 : (x1 : Int) = 10
                      · rw [if_pos c1_10] at h
                        refine rn_tsw_in (tgt := 145) i142_1 10 (by omega) (by omega) rfl rfl ?_
                        refine fr_aload_n i142_145 rfl ?_
                        obtain ⟨v146, h146, h⟩ := Option.bind_eq_some_iff.mp h
                        refine fr_gR (k := 7) i142_146 tf11_7 h146 ?_
                        obtain ⟨v149, h149, h⟩ := Option.bind_eq_some_iff.mp h
                        refine fr_gI (k := 0) i142_149 tf4_0 h149 ?_
                        obtain rfl := Option.some.inj h
                        exact rn_retI i142_152 mr142
                      · rw [if_neg c1_10] at h
                        by_cases c1_11 : (x1 : Int) = 11
                        · rw [if_pos c1_11] at h
                          refine rn_tsw_in (tgt := 153) i142_1 11 (by omega) (by omega) rfl rfl ?_
                          refine fr_aload_n i142_153 rfl ?_
                          obtain ⟨v154, h154, h⟩ := Option.bind_eq_some_iff.mp h
                          refine fr_gR (k := 9) i142_154 tf11_9 h154 ?_
                          obtain ⟨v157, h157, h⟩ := Option.bind_eq_some_iff.mp h
                          refine fr_gI (k := 0) i142_157 tf3_0 h157 ?_
                          obtain rfl := Option.some.inj h
                          exact rn_retI i142_160 mr142
                        · rw [if_neg c1_11] at h
                          by_cases c1_12 : (x1 : Int) = 12
                          · rw [if_pos c1_12] at h
                            refine rn_tsw_in (tgt := 161) i142_1 12 (by omega) (by omega) rfl rfl ?_
                            refine fr_aload_n i142_161 rfl ?_
                            obtain ⟨r162, h162, h⟩ := Option.bind_eq_some_iff.mp h
                            obtain ⟨g162, c162⟩ := S_Hh_fullSlots a0 w r162 h162
                            refine fr_callV (a := a0) (As := []) (st := []) i142_162 (cq143 a0) rfl (Nat.le_of_ble_eq_true rfl) g162 (c162 _ (by omega)) ?_
                            show Rn _ _ _ _ _ _ [.inl r162.1] _ _ _
                            obtain rfl := Option.some.inj h
                            exact rn_retI i142_165 mr142
                          · rw [if_neg c1_12] at h
                            refine rn_tsw_out (tgt := 166) i142_1 (by omega) rfl ?_
                            refine rn_iconst i142_166 ?_
                            obtain rfl := Option.some.inj h
                            exact rn_retI i142_167 mr142
/-- HandHeirs.count(I)I -/
def Hh_count (a0 : Nat) (x1 : Int) (w : Wd) : Option (Int × Wd) := gd 11 w a0 (Hh_count_0 a0 x1 w)
theorem S_Hh_count {g : Gp} {l : Launch} (a0 : Nat) (x1 : Int) (w : Wd) (r : Int × Wd) (h : Hh_count a0 x1 w = some r) : (wsh w a0).1 = 11 ∧ ∀ D, 2 ≤ D → Rn g l D 142 0 [(0, .inr (.inr a0)), (1, .inl x1)] [] w (some (.inl r.1)) r.2 := by
  obtain ⟨hg, h⟩ := gd_some h
  exact ⟨hg, fun D hD => rn_sub [0, 1] rfl (s_Hh_count_0 hD a0 x1 w r h)⟩
def Mo_appends_21 (s0 : Int) (w : Wd) : Option (Int × Wd) :=
  some (s0, w)
theorem s_Mo_appends_21 {g : Gp} {l : Launch} {D : Nat} (hD : 0 ≤ D) (s0 : Int) (w : Wd) (r : Int × Wd) (h : Mo_appends_21 s0 w = some r) : Rn g l D 152 21 [] [.inr (.inl s0)] w (some (.inr (.inl r.1))) r.2 := by
  unfold Mo_appends_21 at h
  obtain rfl := Option.some.inj h
  exact rn_retL i152_21 mr152
def Mo_appends_0 (x0 : Int) (x2 : Int) (w : Wd) : Option (Int × Wd) :=
  if (x2 : Int) = 0 then
    Mo_appends_21 x0 w
  else
    Mo_appends_21 (w64 ((w64 (27 * x0)) + (w32 ((w32 (x2 - 97)) + 1)))) w
theorem s_Mo_appends_0 {g : Gp} {l : Launch} {D : Nat} (hD : 0 ≤ D) (x0 : Int) (x2 : Int) (w : Wd) (r : Int × Wd) (h : Mo_appends_0 x0 x2 w = some r) : Rn g l D 152 0 [(0, .inr (.inl x0)), (2, .inl x2)] [] w (some (.inr (.inl r.1))) r.2 := by
  unfold Mo_appends_0 at h
  refine rn_iload_n i152_0 rfl ?_
  by_cases c1 : (x2 : Int) = 0
  · rw [if_pos c1] at h
    refine rn_if_ne_f i152_1 c1 ?_
    refine rn_lload_n i152_4 rfl ?_
    refine rn_goto i152_5 ?_
    exact rn_sub [] rfl (s_Mo_appends_21 hD x0 w r h)
  · rw [if_neg c1] at h
    refine rn_if_ne_t i152_1 c1 ?_
    refine rn_ldc2 i152_8 lw152_8 ⟨by decide, by decide⟩ ?_
    refine rn_lload_n i152_11 rfl ?_
    refine rn_lmul i152_12 ?_
    refine rn_iload_n i152_13 rfl ?_
    refine rn_bipush i152_14 ?_
    refine rn_isub i152_16 ?_
    refine rn_iconst i152_17 ?_
    refine rn_iadd i152_18 ?_
    refine rn_i2l i152_19 ?_
    refine rn_ladd i152_20 ?_
    exact rn_sub [] rfl (s_Mo_appends_21 hD (w64 ((w64 (27 * x0)) + (w32 ((w32 (x2 - 97)) + 1)))) w r h)
/-- HandHeirsModel.appends(JI)J -/
def Mo_appends (x0 : Int) (x2 : Int) (w : Wd) : Option (Int × Wd) := Mo_appends_0 x0 x2 w
theorem S_Mo_appends {g : Gp} {l : Launch} (x0 : Int) (x2 : Int) (w : Wd) (r : Int × Wd) (h : Mo_appends x0 x2 w = some r) : ∀ D, 0 ≤ D → Rn g l D 152 0 [(0, .inr (.inl x0)), (2, .inl x2)] [] w (some (.inr (.inl r.1))) r.2 := fun D hD => rn_sub [0, 1] rfl (s_Mo_appends_0 hD x0 x2 w r h)
def Mo_word_0 (x0 : Int) (x1 : Int) (x2 : Int) (x3 : Int) (x4 : Int) (x5 : Int) (x6 : Int) (w : Wd) : Option (Int × Wd) :=
  (Mo_appends 0 x0 w).bind fun r2 =>
  (Mo_appends (r2.1) x1 r2.2).bind fun r6 =>
  (Mo_appends (r6.1) x2 r6.2).bind fun r10 =>
  (Mo_appends (r10.1) x3 r10.2).bind fun r14 =>
  (Mo_appends (r14.1) x4 r14.2).bind fun r19 =>
  (Mo_appends (r19.1) x5 r19.2).bind fun r24 =>
  (Mo_appends (r24.1) x6 r24.2).bind fun r29 =>
  some (r29.1, r29.2)
theorem s_Mo_word_0 {g : Gp} {l : Launch} {D : Nat} (hD : 1 ≤ D) (x0 : Int) (x1 : Int) (x2 : Int) (x3 : Int) (x4 : Int) (x5 : Int) (x6 : Int) (w : Wd) (r : Int × Wd) (h : Mo_word_0 x0 x1 x2 x3 x4 x5 x6 w = some r) : Rn g l D 153 0 [(0, .inl x0), (1, .inl x1), (2, .inl x2), (3, .inl x3), (4, .inl x4), (5, .inl x5), (6, .inl x6)] [] w (some (.inr (.inl r.1))) r.2 := by
  obtain ⟨D, rfl⟩ : ∃ D1, D = D1 + 1 := ⟨D - 1, by omega⟩
  unfold Mo_word_0 at h
  refine fr_lconst0 i153_0 ?_
  refine rn_iload_n i153_1 rfl ?_
  obtain ⟨r2, h2, h⟩ := Option.bind_eq_some_iff.mp h
  refine fr_callS (nst := 0) (As := [.inr (.inl 0), .inl x0]) (st := []) i153_2 (cq152 0 x0) rfl (Nat.le_of_ble_eq_true rfl) (S_Mo_appends 0 x0 w r2 h2 _ (by omega)) ?_
  show Rn _ _ _ _ _ _ [.inr (.inl r2.1)] _ _ _
  refine rn_iload_n i153_5 rfl ?_
  obtain ⟨r6, h6, h⟩ := Option.bind_eq_some_iff.mp h
  refine fr_callS (nst := 0) (As := [.inr (.inl r2.1), .inl x1]) (st := []) i153_6 (cq152 (r2.1) x1) rfl (Nat.le_of_ble_eq_true rfl) (S_Mo_appends (r2.1) x1 r2.2 r6 h6 _ (by omega)) ?_
  show Rn _ _ _ _ _ _ [.inr (.inl r6.1)] _ _ _
  refine rn_iload_n i153_9 rfl ?_
  obtain ⟨r10, h10, h⟩ := Option.bind_eq_some_iff.mp h
  refine fr_callS (nst := 0) (As := [.inr (.inl r6.1), .inl x2]) (st := []) i153_10 (cq152 (r6.1) x2) rfl (Nat.le_of_ble_eq_true rfl) (S_Mo_appends (r6.1) x2 r6.2 r10 h10 _ (by omega)) ?_
  show Rn _ _ _ _ _ _ [.inr (.inl r10.1)] _ _ _
  refine rn_iload_n i153_13 rfl ?_
  obtain ⟨r14, h14, h⟩ := Option.bind_eq_some_iff.mp h
  refine fr_callS (nst := 0) (As := [.inr (.inl r10.1), .inl x3]) (st := []) i153_14 (cq152 (r10.1) x3) rfl (Nat.le_of_ble_eq_true rfl) (S_Mo_appends (r10.1) x3 r10.2 r14 h14 _ (by omega)) ?_
  show Rn _ _ _ _ _ _ [.inr (.inl r14.1)] _ _ _
  refine rn_iload i153_17 rfl ?_
  obtain ⟨r19, h19, h⟩ := Option.bind_eq_some_iff.mp h
  refine fr_callS (nst := 0) (As := [.inr (.inl r14.1), .inl x4]) (st := []) i153_19 (cq152 (r14.1) x4) rfl (Nat.le_of_ble_eq_true rfl) (S_Mo_appends (r14.1) x4 r14.2 r19 h19 _ (by omega)) ?_
  show Rn _ _ _ _ _ _ [.inr (.inl r19.1)] _ _ _
  refine rn_iload i153_22 rfl ?_
  obtain ⟨r24, h24, h⟩ := Option.bind_eq_some_iff.mp h
  refine fr_callS (nst := 0) (As := [.inr (.inl r19.1), .inl x5]) (st := []) i153_24 (cq152 (r19.1) x5) rfl (Nat.le_of_ble_eq_true rfl) (S_Mo_appends (r19.1) x5 r19.2 r24 h24 _ (by omega)) ?_
  show Rn _ _ _ _ _ _ [.inr (.inl r24.1)] _ _ _
  refine rn_iload i153_27 rfl ?_
  obtain ⟨r29, h29, h⟩ := Option.bind_eq_some_iff.mp h
  refine fr_callS (nst := 0) (As := [.inr (.inl r24.1), .inl x6]) (st := []) i153_29 (cq152 (r24.1) x6) rfl (Nat.le_of_ble_eq_true rfl) (S_Mo_appends (r24.1) x6 r24.2 r29 h29 _ (by omega)) ?_
  show Rn _ _ _ _ _ _ [.inr (.inl r29.1)] _ _ _
  obtain rfl := Option.some.inj h
  exact rn_retL i153_32 mr153
/-- HandHeirsModel.word(IIIIIII)J -/
def Mo_word (x0 : Int) (x1 : Int) (x2 : Int) (x3 : Int) (x4 : Int) (x5 : Int) (x6 : Int) (w : Wd) : Option (Int × Wd) := Mo_word_0 x0 x1 x2 x3 x4 x5 x6 w
theorem S_Mo_word {g : Gp} {l : Launch} (x0 : Int) (x1 : Int) (x2 : Int) (x3 : Int) (x4 : Int) (x5 : Int) (x6 : Int) (w : Wd) (r : Int × Wd) (h : Mo_word x0 x1 x2 x3 x4 x5 x6 w = some r) : ∀ D, 1 ≤ D → Rn g l D 153 0 [(0, .inl x0), (1, .inl x1), (2, .inl x2), (3, .inl x3), (4, .inl x4), (5, .inl x5), (6, .inl x6)] [] w (some (.inr (.inl r.1))) r.2 := fun D hD => rn_sub [0, 1, 2, 3, 4, 5, 6] rfl (s_Mo_word_0 hD x0 x1 x2 x3 x4 x5 x6 w r h)
def Mo_plain_46 : Nat → Nat → Int → Int → Wd → Option (Wd)
  | 0, _, _, _, _ => none
  | n + 1, a0, x1, x2, w =>
    if (10 : Int) ≤ x2 then
      some w
    else
      (fgR w a0 12 33).bind fun v53 =>
      (wrI w v53 (w32 ((w32 (10 * x1)) + x2)) 0).bind fun w63 =>
      (fgR w63 a0 12 34).bind fun v65 =>
      (wrI w63 v65 (w32 ((w32 (10 * x1)) + x2)) 0).bind fun w75 =>
      Mo_plain_46 n a0 x1 (w32 (x2 + 1)) w75
theorem s_Mo_plain_46 {g : Gp} {l : Launch} {D : Nat} (hD : 0 ≤ D) : ∀ (n : Nat) (a0 : Nat) (x1 : Int) (x2 : Int) (w : Wd) (r : Wd), Mo_plain_46 n a0 x1 x2 w = some r → Rn g l D 162 46 [(0, .inr (.inr a0)), (1, .inl x1), (2, .inl x2)] [] w none r := by
  intro n
  induction n with
  | zero => intro a0 x1 x2 w r h; cases (show (none : Option (Wd)) = some r from h)
  | succ n ih =>
    intro a0 x1 x2 w r h
    unfold Mo_plain_46 at h
    refine rn_iload_n i162_46 rfl ?_
    refine rn_bipush i162_47 ?_
    by_cases c49 : (10 : Int) ≤ x2
    · rw [if_pos c49] at h
      refine rn_icmp_ge_t i162_49 c49 ?_
      obtain rfl := Option.some.inj h
      exact rn_ret i162_82 mr162
    · rw [if_neg c49] at h
      refine rn_icmp_ge_f i162_49 c49 ?_
      refine fr_aload_n i162_52 rfl ?_
      obtain ⟨v53, h53, h⟩ := Option.bind_eq_some_iff.mp h
      refine fr_gR (k := 33) i162_53 tf12_33 h53 ?_
      refine rn_bipush i162_56 ?_
      refine rn_iload_n i162_58 rfl ?_
      refine rn_imul i162_59 ?_
      refine rn_iload_n i162_60 rfl ?_
      refine rn_iadd i162_61 ?_
      refine rn_iconst i162_62 ?_
      obtain ⟨w63, h63, h⟩ := Option.bind_eq_some_iff.mp h
      refine rn_iast i162_63 h63 ?_
      refine fr_aload_n i162_64 rfl ?_
      obtain ⟨v65, h65, h⟩ := Option.bind_eq_some_iff.mp h
      refine fr_gR (k := 34) i162_65 tf12_34 h65 ?_
      refine rn_bipush i162_68 ?_
      refine rn_iload_n i162_70 rfl ?_
      refine rn_imul i162_71 ?_
      refine rn_iload_n i162_72 rfl ?_
      refine rn_iadd i162_73 ?_
      refine rn_iconst i162_74 ?_
      obtain ⟨w75, h75, h⟩ := Option.bind_eq_some_iff.mp h
      refine rn_iast i162_75 h75 ?_
      refine rn_iinc (ls1 := [(2, .inl (w32 (x2 + 1))), (0, .inr (.inr a0)), (1, .inl x1)]) i162_76 rfl rfl ?_
      refine rn_goto i162_79 ?_
      exact rn_sub [1, 2, 0] rfl (ih a0 x1 (w32 (x2 + 1)) w75 r h)
def Mo_plain_0 (a0 : Nat) (x1 : Int) (w : Wd) : Option (Wd) :=
  (fgR w a0 12 23).bind fun v1 =>
  (wrI w v1 x1 0).bind fun w6 =>
  (fgR w6 a0 12 25).bind fun v8 =>
  (wrI w6 v8 x1 0).bind fun w13 =>
  (fgR w13 a0 12 29).bind fun v15 =>
  (wrI w13 v15 x1 0).bind fun w20 =>
  (fgR w20 a0 12 30).bind fun v22 =>
  (wrI w20 v22 x1 3).bind fun w27 =>
  (fgR w27 a0 12 31).bind fun v29 =>
  (wrI w27 v29 x1 9999).bind fun w36 =>
  (fgR w36 a0 12 32).bind fun v38 =>
  (wrI w36 v38 x1 0).bind fun w43 =>
  Mo_plain_46 FU a0 x1 0 w43
theorem s_Mo_plain_0 {g : Gp} {l : Launch} {D : Nat} (hD : 0 ≤ D) (a0 : Nat) (x1 : Int) (w : Wd) (r : Wd) (h : Mo_plain_0 a0 x1 w = some r) : Rn g l D 162 0 [(0, .inr (.inr a0)), (1, .inl x1)] [] w none r := by
  unfold Mo_plain_0 at h
  refine fr_aload_n i162_0 rfl ?_
  obtain ⟨v1, h1, h⟩ := Option.bind_eq_some_iff.mp h
  refine fr_gR (k := 23) i162_1 tf12_23 h1 ?_
  refine rn_iload_n i162_4 rfl ?_
  refine rn_iconst i162_5 ?_
  obtain ⟨w6, h6, h⟩ := Option.bind_eq_some_iff.mp h
  refine rn_iast i162_6 h6 ?_
  refine fr_aload_n i162_7 rfl ?_
  obtain ⟨v8, h8, h⟩ := Option.bind_eq_some_iff.mp h
  refine fr_gR (k := 25) i162_8 tf12_25 h8 ?_
  refine rn_iload_n i162_11 rfl ?_
  refine rn_iconst i162_12 ?_
  obtain ⟨w13, h13, h⟩ := Option.bind_eq_some_iff.mp h
  refine rn_iast i162_13 h13 ?_
  refine fr_aload_n i162_14 rfl ?_
  obtain ⟨v15, h15, h⟩ := Option.bind_eq_some_iff.mp h
  refine fr_gR (k := 29) i162_15 tf12_29 h15 ?_
  refine rn_iload_n i162_18 rfl ?_
  refine rn_iconst i162_19 ?_
  obtain ⟨w20, h20, h⟩ := Option.bind_eq_some_iff.mp h
  refine rn_iast i162_20 h20 ?_
  refine fr_aload_n i162_21 rfl ?_
  obtain ⟨v22, h22, h⟩ := Option.bind_eq_some_iff.mp h
  refine fr_gR (k := 30) i162_22 tf12_30 h22 ?_
  refine rn_iload_n i162_25 rfl ?_
  refine rn_iconst i162_26 ?_
  obtain ⟨w27, h27, h⟩ := Option.bind_eq_some_iff.mp h
  refine rn_iast i162_27 h27 ?_
  refine fr_aload_n i162_28 rfl ?_
  obtain ⟨v29, h29, h⟩ := Option.bind_eq_some_iff.mp h
  refine fr_gR (k := 31) i162_29 tf12_31 h29 ?_
  refine rn_iload_n i162_32 rfl ?_
  refine rn_sipush i162_33 ?_
  obtain ⟨w36, h36, h⟩ := Option.bind_eq_some_iff.mp h
  refine rn_iast i162_36 h36 ?_
  refine fr_aload_n i162_37 rfl ?_
  obtain ⟨v38, h38, h⟩ := Option.bind_eq_some_iff.mp h
  refine fr_gR (k := 32) i162_38 tf12_32 h38 ?_
  refine rn_iload_n i162_41 rfl ?_
  refine rn_iconst i162_42 ?_
  obtain ⟨w43, h43, h⟩ := Option.bind_eq_some_iff.mp h
  refine rn_iast i162_43 h43 ?_
  refine rn_iconst i162_44 ?_
  refine rn_istore_n (ls1 := [(2, .inl 0), (0, .inr (.inr a0)), (1, .inl x1)]) i162_45 rfl ?_
  exact rn_sub [1, 2, 0] rfl (s_Mo_plain_46 hD FU a0 x1 0 w43 r h)
/-- HandHeirsModel.plain(I)V -/
def Mo_plain (a0 : Nat) (x1 : Int) (w : Wd) : Option (Wd) := gd 12 w a0 (Mo_plain_0 a0 x1 w)
theorem S_Mo_plain {g : Gp} {l : Launch} (a0 : Nat) (x1 : Int) (w : Wd) (r : Wd) (h : Mo_plain a0 x1 w = some r) : (wsh w a0).1 = 12 ∧ ∀ D, 0 ≤ D → Rn g l D 162 0 [(0, .inr (.inr a0)), (1, .inl x1)] [] w none r := by
  obtain ⟨hg, h⟩ := gd_some h
  exact ⟨hg, fun D hD => rn_sub [0, 1] rfl (s_Mo_plain_0 hD a0 x1 w r h)⟩
def Mo_begins_100 (a0 : Nat) (w : Wd) : Option (Wd) :=
  (fgR w a0 12 49).bind fun v101 =>
  (wrI w v101 43 (-1)).bind fun w107 =>
  some w107
theorem s_Mo_begins_100 {g : Gp} {l : Launch} {D : Nat} (hD : 0 ≤ D) (a0 : Nat) (w : Wd) (r : Wd) (h : Mo_begins_100 a0 w = some r) : Rn g l D 185 100 [(0, .inr (.inr a0))] [] w none r := by
  unfold Mo_begins_100 at h
  refine fr_aload_n i185_100 rfl ?_
  obtain ⟨v101, h101, h⟩ := Option.bind_eq_some_iff.mp h
  refine fr_gR (k := 49) i185_101 tf12_49 h101 ?_
  refine rn_bipush i185_104 ?_
  refine rn_iconst i185_106 ?_
  obtain ⟨w107, h107, h⟩ := Option.bind_eq_some_iff.mp h
  refine rn_iast i185_107 h107 ?_
  obtain rfl := Option.some.inj h
  exact rn_ret i185_108 mr185
def Mo_begins_65 : Nat → Nat → Int → Wd → Option (Wd)
  | 0, _, _, _ => none
  | n + 1, a0, x1, w =>
    if (36 : Int) ≤ x1 then
      Mo_begins_100 a0 w
    else
      (fgR w a0 12 49).bind fun v72 =>
      (fgR w a0 12 28).bind fun v80 =>
      (fgI w a0 12 18).bind fun v86 =>
      (rdI w v80 (w32 ((w32 (36 * v86)) + x1))).bind fun v92 =>
      (wrI w v72 (w32 (6 + x1)) v92).bind fun w93 =>
      Mo_begins_65 n a0 (w32 (x1 + 1)) w93
theorem s_Mo_begins_65 {g : Gp} {l : Launch} {D : Nat} (hD : 0 ≤ D) : ∀ (n : Nat) (a0 : Nat) (x1 : Int) (w : Wd) (r : Wd), Mo_begins_65 n a0 x1 w = some r → Rn g l D 185 65 [(0, .inr (.inr a0)), (1, .inl x1)] [] w none r := by
  intro n
  induction n with
  | zero => intro a0 x1 w r h; cases (show (none : Option (Wd)) = some r from h)
  | succ n ih =>
    intro a0 x1 w r h
    unfold Mo_begins_65 at h
    refine rn_iload_n i185_65 rfl ?_
    refine rn_bipush i185_66 ?_
    by_cases c68 : (36 : Int) ≤ x1
    · rw [if_pos c68] at h
      refine rn_icmp_ge_t i185_68 c68 ?_
      exact rn_sub [0] rfl (s_Mo_begins_100 hD a0 w r h)
    · rw [if_neg c68] at h
      refine rn_icmp_ge_f i185_68 c68 ?_
      refine fr_aload_n i185_71 rfl ?_
      obtain ⟨v72, h72, h⟩ := Option.bind_eq_some_iff.mp h
      refine fr_gR (k := 49) i185_72 tf12_49 h72 ?_
      refine rn_bipush i185_75 ?_
      refine rn_iload_n i185_77 rfl ?_
      refine rn_iadd i185_78 ?_
      refine fr_aload_n i185_79 rfl ?_
      obtain ⟨v80, h80, h⟩ := Option.bind_eq_some_iff.mp h
      refine fr_gR (k := 28) i185_80 tf12_28 h80 ?_
      refine rn_bipush i185_83 ?_
      refine fr_aload_n i185_85 rfl ?_
      obtain ⟨v86, h86, h⟩ := Option.bind_eq_some_iff.mp h
      refine fr_gI (k := 18) i185_86 tf12_18 h86 ?_
      refine rn_imul i185_89 ?_
      refine rn_iload_n i185_90 rfl ?_
      refine rn_iadd i185_91 ?_
      obtain ⟨v92, h92, h⟩ := Option.bind_eq_some_iff.mp h
      refine rn_iald i185_92 h92 ?_
      obtain ⟨w93, h93, h⟩ := Option.bind_eq_some_iff.mp h
      refine rn_iast i185_93 h93 ?_
      refine rn_iinc (ls1 := [(1, .inl (w32 (x1 + 1))), (0, .inr (.inr a0))]) i185_94 rfl rfl ?_
      refine rn_goto i185_97 ?_
      exact rn_sub [1, 0] rfl (ih a0 (w32 (x1 + 1)) w93 r h)
def Mo_begins_63 (a0 : Nat) (w : Wd) : Option (Wd) :=
  Mo_begins_65 FU a0 0 w
theorem s_Mo_begins_63 {g : Gp} {l : Launch} {D : Nat} (hD : 0 ≤ D) (a0 : Nat) (w : Wd) (r : Wd) (h : Mo_begins_63 a0 w = some r) : Rn g l D 185 63 [(0, .inr (.inr a0))] [] w none r := by
  unfold Mo_begins_63 at h
  refine rn_iconst i185_63 ?_
  refine rn_istore_n (ls1 := [(1, .inl 0), (0, .inr (.inr a0))]) i185_64 rfl ?_
  exact rn_sub [1, 0] rfl (s_Mo_begins_65 hD FU a0 0 w r h)
def Mo_begins_24 : Nat → Nat → Int → Wd → Option (Wd)
  | 0, _, _, _ => none
  | n + 1, a0, x1, w =>
    (fgR w a0 12 23).bind fun v26 =>
    (fgI w a0 12 18).bind fun v30 =>
    (rdI w v26 v30).bind fun v33 =>
    if (v33 : Int) ≤ x1 then
      Mo_begins_63 a0 w
    else
      (fgR w a0 12 49).bind fun v38 =>
      (fgR w a0 12 24).bind fun v43 =>
      (fgI w a0 12 18).bind fun v49 =>
      (rdI w v43 (w32 ((w32 (6 * v49)) + x1))).bind fun v55 =>
      (wrI w v38 x1 v55).bind fun w56 =>
      Mo_begins_24 n a0 (w32 (x1 + 1)) w56
theorem s_Mo_begins_24 {g : Gp} {l : Launch} {D : Nat} (hD : 0 ≤ D) : ∀ (n : Nat) (a0 : Nat) (x1 : Int) (w : Wd) (r : Wd), Mo_begins_24 n a0 x1 w = some r → Rn g l D 185 24 [(0, .inr (.inr a0)), (1, .inl x1)] [] w none r := by
  intro n
  induction n with
  | zero => intro a0 x1 w r h; cases (show (none : Option (Wd)) = some r from h)
  | succ n ih =>
    intro a0 x1 w r h
    unfold Mo_begins_24 at h
    refine rn_iload_n i185_24 rfl ?_
    refine fr_aload_n i185_25 rfl ?_
    obtain ⟨v26, h26, h⟩ := Option.bind_eq_some_iff.mp h
    refine fr_gR (k := 23) i185_26 tf12_23 h26 ?_
    refine fr_aload_n i185_29 rfl ?_
    obtain ⟨v30, h30, h⟩ := Option.bind_eq_some_iff.mp h
    refine fr_gI (k := 18) i185_30 tf12_18 h30 ?_
    obtain ⟨v33, h33, h⟩ := Option.bind_eq_some_iff.mp h
    refine rn_iald i185_33 h33 ?_
    by_cases c34 : (v33 : Int) ≤ x1
    · rw [if_pos c34] at h
      refine rn_icmp_ge_t i185_34 c34 ?_
      exact rn_sub [0] rfl (s_Mo_begins_63 hD a0 w r h)
    · rw [if_neg c34] at h
      refine rn_icmp_ge_f i185_34 c34 ?_
      refine fr_aload_n i185_37 rfl ?_
      obtain ⟨v38, h38, h⟩ := Option.bind_eq_some_iff.mp h
      refine fr_gR (k := 49) i185_38 tf12_49 h38 ?_
      refine rn_iload_n i185_41 rfl ?_
      refine fr_aload_n i185_42 rfl ?_
      obtain ⟨v43, h43, h⟩ := Option.bind_eq_some_iff.mp h
      refine fr_gR (k := 24) i185_43 tf12_24 h43 ?_
      refine rn_bipush i185_46 ?_
      refine fr_aload_n i185_48 rfl ?_
      obtain ⟨v49, h49, h⟩ := Option.bind_eq_some_iff.mp h
      refine fr_gI (k := 18) i185_49 tf12_18 h49 ?_
      refine rn_imul i185_52 ?_
      refine rn_iload_n i185_53 rfl ?_
      refine rn_iadd i185_54 ?_
      obtain ⟨v55, h55, h⟩ := Option.bind_eq_some_iff.mp h
      refine rn_iald i185_55 h55 ?_
      obtain ⟨w56, h56, h⟩ := Option.bind_eq_some_iff.mp h
      refine rn_iast i185_56 h56 ?_
      refine rn_iinc (ls1 := [(1, .inl (w32 (x1 + 1))), (0, .inr (.inr a0))]) i185_57 rfl rfl ?_
      refine rn_goto i185_60 ?_
      exact rn_sub [1, 0] rfl (ih a0 (w32 (x1 + 1)) w56 r h)
def Mo_begins_22 (a0 : Nat) (w : Wd) : Option (Wd) :=
  Mo_begins_24 FU a0 0 w
theorem s_Mo_begins_22 {g : Gp} {l : Launch} {D : Nat} (hD : 0 ≤ D) (a0 : Nat) (w : Wd) (r : Wd) (h : Mo_begins_22 a0 w = some r) : Rn g l D 185 22 [(0, .inr (.inr a0))] [] w none r := by
  unfold Mo_begins_22 at h
  refine rn_iconst i185_22 ?_
  refine rn_istore_n (ls1 := [(1, .inl 0), (0, .inr (.inr a0))]) i185_23 rfl ?_
  exact rn_sub [1, 0] rfl (s_Mo_begins_24 hD FU a0 0 w r h)
def Mo_begins_2 : Nat → Nat → Int → Wd → Option (Wd)
  | 0, _, _, _ => none
  | n + 1, a0, x1, w =>
    if (2860 : Int) ≤ x1 then
      Mo_begins_22 a0 w
    else
      (fgR w a0 12 49).bind fun v10 =>
      (wrI w v10 x1 0).bind fun w15 =>
      Mo_begins_2 n a0 (w32 (x1 + 1)) w15
theorem s_Mo_begins_2 {g : Gp} {l : Launch} {D : Nat} (hD : 0 ≤ D) : ∀ (n : Nat) (a0 : Nat) (x1 : Int) (w : Wd) (r : Wd), Mo_begins_2 n a0 x1 w = some r → Rn g l D 185 2 [(0, .inr (.inr a0)), (1, .inl x1)] [] w none r := by
  intro n
  induction n with
  | zero => intro a0 x1 w r h; cases (show (none : Option (Wd)) = some r from h)
  | succ n ih =>
    intro a0 x1 w r h
    unfold Mo_begins_2 at h
    refine rn_iload_n i185_2 rfl ?_
    refine rn_sipush i185_3 ?_
    by_cases c6 : (2860 : Int) ≤ x1
    · rw [if_pos c6] at h
      refine rn_icmp_ge_t i185_6 c6 ?_
      exact rn_sub [0] rfl (s_Mo_begins_22 hD a0 w r h)
    · rw [if_neg c6] at h
      refine rn_icmp_ge_f i185_6 c6 ?_
      refine fr_aload_n i185_9 rfl ?_
      obtain ⟨v10, h10, h⟩ := Option.bind_eq_some_iff.mp h
      refine fr_gR (k := 49) i185_10 tf12_49 h10 ?_
      refine rn_iload_n i185_13 rfl ?_
      refine rn_iconst i185_14 ?_
      obtain ⟨w15, h15, h⟩ := Option.bind_eq_some_iff.mp h
      refine rn_iast i185_15 h15 ?_
      refine rn_iinc (ls1 := [(1, .inl (w32 (x1 + 1))), (0, .inr (.inr a0))]) i185_16 rfl rfl ?_
      refine rn_goto i185_19 ?_
      exact rn_sub [1, 0] rfl (ih a0 (w32 (x1 + 1)) w15 r h)
def Mo_begins_0 (a0 : Nat) (w : Wd) : Option (Wd) :=
  Mo_begins_2 FU a0 0 w
theorem s_Mo_begins_0 {g : Gp} {l : Launch} {D : Nat} (hD : 0 ≤ D) (a0 : Nat) (w : Wd) (r : Wd) (h : Mo_begins_0 a0 w = some r) : Rn g l D 185 0 [(0, .inr (.inr a0))] [] w none r := by
  unfold Mo_begins_0 at h
  refine rn_iconst i185_0 ?_
  refine rn_istore_n (ls1 := [(1, .inl 0), (0, .inr (.inr a0))]) i185_1 rfl ?_
  exact rn_sub [1, 0] rfl (s_Mo_begins_2 hD FU a0 0 w r h)
/-- HandHeirsModel.begins()V -/
def Mo_begins (a0 : Nat) (w : Wd) : Option (Wd) := gd 12 w a0 (Mo_begins_0 a0 w)
theorem S_Mo_begins {g : Gp} {l : Launch} (a0 : Nat) (w : Wd) (r : Wd) (h : Mo_begins a0 w = some r) : (wsh w a0).1 = 12 ∧ ∀ D, 0 ≤ D → Rn g l D 185 0 [(0, .inr (.inr a0))] [] w none r := by
  obtain ⟨hg, h⟩ := gd_some h
  exact ⟨hg, fun D hD => rn_sub [0] rfl (s_Mo_begins_0 hD a0 w r h)⟩
def Mo_init_0 (a0 : Nat) (w : Wd) : Option (Wd) :=
  (tgd w a0 12).bind fun _ =>
  (nwA w 21 2000).bind fun w8 =>
  (fpR w8 a0 12 1 (wn w)).bind fun w10 =>
  (nwA w10 21 2000).bind fun w17 =>
  (fpR w17 a0 12 3 (wn w10)).bind fun w19 =>
  (nwA w19 20 403).bind fun w26 =>
  (fpR w26 a0 12 5 (wn w19)).bind fun w28 =>
  (nwA w28 20 403).bind fun w35 =>
  (fpR w35 a0 12 6 (wn w28)).bind fun w37 =>
  (nwA w37 20 403).bind fun w44 =>
  (fpR w44 a0 12 7 (wn w37)).bind fun w46 =>
  (nwA w46 22 403).bind fun w53 =>
  (fpR w53 a0 12 8 (wn w46)).bind fun w55 =>
  (nwA w55 22 17).bind fun w61 =>
  (fpR w61 a0 12 9 (wn w55)).bind fun w63 =>
  (fpI w63 a0 12 17 (-1)).bind fun w68 =>
  (nwA w68 22 15).bind fun w74 =>
  (fpR w74 a0 12 21 (wn w68)).bind fun w76 =>
  (nwA w76 20 15).bind fun w82 =>
  (fpR w82 a0 12 22 (wn w76)).bind fun w84 =>
  (nwA w84 20 2).bind fun w89 =>
  (fpR w89 a0 12 23 (wn w84)).bind fun w91 =>
  (nwA w91 20 12).bind fun w97 =>
  (fpR w97 a0 12 24 (wn w91)).bind fun w99 =>
  (nwA w99 20 2).bind fun w104 =>
  (fpR w104 a0 12 25 (wn w99)).bind fun w106 =>
  (nwA w106 20 12).bind fun w112 =>
  (fpR w112 a0 12 26 (wn w106)).bind fun w114 =>
  (nwA w114 20 12).bind fun w120 =>
  (fpR w120 a0 12 27 (wn w114)).bind fun w122 =>
  (nwA w122 20 72).bind fun w128 =>
  (fpR w128 a0 12 28 (wn w122)).bind fun w130 =>
  (nwA w130 20 2).bind fun w135 =>
  (fpR w135 a0 12 29 (wn w130)).bind fun w137 =>
  (nwA w137 20 2).bind fun w142 =>
  (fpR w142 a0 12 30 (wn w137)).bind fun w144 =>
  (nwA w144 20 2).bind fun w149 =>
  (fpR w149 a0 12 31 (wn w144)).bind fun w151 =>
  (nwA w151 20 2).bind fun w156 =>
  (fpR w156 a0 12 32 (wn w151)).bind fun w158 =>
  (nwA w158 20 20).bind fun w164 =>
  (fpR w164 a0 12 33 (wn w158)).bind fun w166 =>
  (nwA w166 20 20).bind fun w172 =>
  (fpR w172 a0 12 34 (wn w166)).bind fun w174 =>
  (nwA w174 23 260).bind fun w181 =>
  (fpR w181 a0 12 36 (wn w174)).bind fun w183 =>
  (nwA w183 20 260).bind fun w190 =>
  (fpR w190 a0 12 37 (wn w183)).bind fun w192 =>
  (nwA w192 20 260).bind fun w199 =>
  (fpR w199 a0 12 38 (wn w192)).bind fun w201 =>
  (nwA w201 20 260).bind fun w208 =>
  (fpR w208 a0 12 39 (wn w201)).bind fun w210 =>
  (nwA w210 20 260).bind fun w217 =>
  (fpR w217 a0 12 40 (wn w210)).bind fun w219 =>
  (nwA w219 20 840).bind fun w226 =>
  (fpR w226 a0 12 42 (wn w219)).bind fun w228 =>
  (nwA w228 20 840).bind fun w235 =>
  (fpR w235 a0 12 43 (wn w228)).bind fun w237 =>
  (nwA w237 20 64).bind fun w243 =>
  (fpR w243 a0 12 44 (wn w237)).bind fun w245 =>
  (nwA w245 20 7).bind fun w251 =>
  (fpR w251 a0 12 46 (wn w245)).bind fun w253 =>
  (nwA w253 20 400).bind fun w260 =>
  (fpR w260 a0 12 47 (wn w253)).bind fun w262 =>
  (nwA w262 20 2860).bind fun w269 =>
  (fpR w269 a0 12 49 (wn w262)).bind fun w271 =>
  (nwA w271 20 2860).bind fun w278 =>
  (fpR w278 a0 12 50 (wn w271)).bind fun w280 =>
  (nwA w280 20 6).bind fun w286 =>
  (fpR w286 a0 12 56 (wn w280)).bind fun w288 =>
  (nwA w288 20 3).bind fun w293 =>
  (fpR w293 a0 12 57 (wn w288)).bind fun w295 =>
  (nwA w295 20 85800).bind fun w301 =>
  (fpR w301 a0 12 59 (wn w295)).bind fun w303 =>
  (nwA w303 20 91).bind fun w309 =>
  (fpR w309 a0 12 60 (wn w303)).bind fun w311 =>
  (nwA w311 20 6).bind fun w317 =>
  (fpR w317 a0 12 61 (wn w311)).bind fun w319 =>
  (nwA w319 20 78).bind fun w325 =>
  (fpR w325 a0 12 62 (wn w319)).bind fun w327 =>
  (nwA w327 20 20).bind fun w333 =>
  (fpR w333 a0 12 64 (wn w327)).bind fun w335 =>
  (nwA w335 20 20).bind fun w341 =>
  (fpR w341 a0 12 65 (wn w335)).bind fun w343 =>
  (nwA w343 23 3).bind fun w348 =>
  (fpR w348 a0 12 66 (wn w343)).bind fun w350 =>
  (nwA w350 20 8580).bind fun w357 =>
  (fpR w357 a0 12 67 (wn w350)).bind fun w359 =>
  (Mo_plain a0 0 w359).bind fun r364 =>
  (fgR r364 a0 12 9).bind fun v368 =>
  (Mo_word 108 101 116 116 101 114 0 r364).bind fun r385 =>
  (wrL r385.2 v368 0 r385.1).bind fun w388 =>
  (fgR w388 a0 12 9).bind fun v390 =>
  (Mo_word 104 101 105 114 0 0 0 w388).bind fun r405 =>
  (wrL r405.2 v390 1 r405.1).bind fun w408 =>
  (fgR w408 a0 12 9).bind fun v410 =>
  (Mo_word 109 97 115 116 101 114 0 w408).bind fun r427 =>
  (wrL r427.2 v410 2 r427.1).bind fun w430 =>
  (fgR w430 a0 12 9).bind fun v432 =>
  (Mo_word 108 101 97 114 110 0 0 w430).bind fun r448 =>
  (wrL r448.2 v432 3 r448.1).bind fun w451 =>
  (fgR w451 a0 12 9).bind fun v453 =>
  (Mo_word 100 114 105 102 116 0 0 w451).bind fun r469 =>
  (wrL r469.2 v453 4 r469.1).bind fun w472 =>
  (fgR w472 a0 12 9).bind fun v474 =>
  (Mo_word 100 97 121 115 0 0 0 w472).bind fun r489 =>
  (wrL r489.2 v474 5 r489.1).bind fun w492 =>
  (fgR w492 a0 12 9).bind fun v494 =>
  (Mo_word 108 105 109 105 116 0 0 w492).bind fun r511 =>
  (wrL r511.2 v494 6 r511.1).bind fun w514 =>
  (fgR w514 a0 12 9).bind fun v516 =>
  (Mo_word 115 101 101 100 0 0 0 w514).bind fun r532 =>
  (wrL r532.2 v516 7 r532.1).bind fun w535 =>
  (fgR w535 a0 12 9).bind fun v537 =>
  (Mo_word 105 102 0 0 0 0 0 w535).bind fun r551 =>
  (wrL r551.2 v537 8 r551.1).bind fun w554 =>
  (fgR w554 a0 12 9).bind fun v556 =>
  (Mo_word 116 104 101 110 0 0 0 w554).bind fun r572 =>
  (wrL r572.2 v556 9 r572.1).bind fun w575 =>
  (fgR w575 a0 12 9).bind fun v577 =>
  (Mo_word 101 108 115 101 0 0 0 w575).bind fun r593 =>
  (wrL r593.2 v577 10 r593.1).bind fun w596 =>
  (fgR w596 a0 12 9).bind fun v598 =>
  (Mo_word 111 102 102 0 0 0 0 w596).bind fun r613 =>
  (wrL r613.2 v598 11 r613.1).bind fun w616 =>
  (fgR w616 a0 12 9).bind fun v618 =>
  (Mo_word 121 101 97 114 0 0 0 w616).bind fun r634 =>
  (wrL r634.2 v618 12 r634.1).bind fun w637 =>
  (fgR w637 a0 12 9).bind fun v639 =>
  (Mo_word 119 111 114 110 0 0 0 w637).bind fun r655 =>
  (wrL r655.2 v639 13 r655.1).bind fun w658 =>
  (fgR w658 a0 12 9).bind fun v660 =>
  (Mo_word 111 119 110 0 0 0 0 w658).bind fun r675 =>
  (wrL r675.2 v660 14 r675.1).bind fun w678 =>
  (fgR w678 a0 12 9).bind fun v680 =>
  (Mo_word 104 97 110 100 0 0 0 w678).bind fun r696 =>
  (wrL r696.2 v680 15 r696.1).bind fun w699 =>
  (fgR w699 a0 12 9).bind fun v701 =>
  (Mo_word 100 97 121 0 0 0 0 w699).bind fun r716 =>
  (wrL r716.2 v701 16 r716.1).bind fun w719 =>
  (Mo_begins a0 w719).bind fun r721 =>
  some r721
theorem s_Mo_init_0 {g : Gp} {l : Launch} {D : Nat} (hD : 2 ≤ D) (a0 : Nat) (w : Wd) (r : Wd) (h : Mo_init_0 a0 w = some r) : Rn g l D 145 0 [(0, .inr (.inr a0))] [] w none r := by
  obtain ⟨D, rfl⟩ : ∃ D1, D = D1 + 1 := ⟨D - 1, by omega⟩
  unfold Mo_init_0 at h
  refine fr_aload_n i145_0 rfl ?_
  obtain ⟨_, h1, h⟩ := Option.bind_eq_some_iff.mp h
  refine fr_objI i145_1 h1 (by decide) (Nat.le_of_ble_eq_true rfl) ?_
  refine fr_aload_n i145_4 rfl ?_
  refine rn_sipush i145_5 ?_
  obtain ⟨w8, h8, h⟩ := Option.bind_eq_some_iff.mp h
  refine rn_newa (t := 21) i145_8 (by decide) rfl h8 ?_
  obtain ⟨w10, h10, h⟩ := Option.bind_eq_some_iff.mp h
  refine fr_pR (k := 1) i145_10 pf145_12_1 h10 ?_
  refine fr_aload_n i145_13 rfl ?_
  refine rn_sipush i145_14 ?_
  obtain ⟨w17, h17, h⟩ := Option.bind_eq_some_iff.mp h
  refine rn_newa (t := 21) i145_17 (by decide) rfl h17 ?_
  obtain ⟨w19, h19, h⟩ := Option.bind_eq_some_iff.mp h
  refine fr_pR (k := 3) i145_19 pf145_12_3 h19 ?_
  refine fr_aload_n i145_22 rfl ?_
  refine rn_sipush i145_23 ?_
  obtain ⟨w26, h26, h⟩ := Option.bind_eq_some_iff.mp h
  refine rn_newa (t := 20) i145_26 (by decide) rfl h26 ?_
  obtain ⟨w28, h28, h⟩ := Option.bind_eq_some_iff.mp h
  refine fr_pR (k := 5) i145_28 pf145_12_5 h28 ?_
  refine fr_aload_n i145_31 rfl ?_
  refine rn_sipush i145_32 ?_
  obtain ⟨w35, h35, h⟩ := Option.bind_eq_some_iff.mp h
  refine rn_newa (t := 20) i145_35 (by decide) rfl h35 ?_
  obtain ⟨w37, h37, h⟩ := Option.bind_eq_some_iff.mp h
  refine fr_pR (k := 6) i145_37 pf145_12_6 h37 ?_
  refine fr_aload_n i145_40 rfl ?_
  refine rn_sipush i145_41 ?_
  obtain ⟨w44, h44, h⟩ := Option.bind_eq_some_iff.mp h
  refine rn_newa (t := 20) i145_44 (by decide) rfl h44 ?_
  obtain ⟨w46, h46, h⟩ := Option.bind_eq_some_iff.mp h
  refine fr_pR (k := 7) i145_46 pf145_12_7 h46 ?_
  refine fr_aload_n i145_49 rfl ?_
  refine rn_sipush i145_50 ?_
  obtain ⟨w53, h53, h⟩ := Option.bind_eq_some_iff.mp h
  refine rn_newa (t := 22) i145_53 (by decide) rfl h53 ?_
  obtain ⟨w55, h55, h⟩ := Option.bind_eq_some_iff.mp h
  refine fr_pR (k := 8) i145_55 pf145_12_8 h55 ?_
  refine fr_aload_n i145_58 rfl ?_
  refine rn_bipush i145_59 ?_
  obtain ⟨w61, h61, h⟩ := Option.bind_eq_some_iff.mp h
  refine rn_newa (t := 22) i145_61 (by decide) rfl h61 ?_
  obtain ⟨w63, h63, h⟩ := Option.bind_eq_some_iff.mp h
  refine fr_pR (k := 9) i145_63 pf145_12_9 h63 ?_
  refine fr_aload_n i145_66 rfl ?_
  refine rn_iconst i145_67 ?_
  obtain ⟨w68, h68, h⟩ := Option.bind_eq_some_iff.mp h
  refine fr_pI (k := 17) i145_68 (pf12_17 145) h68 ?_
  refine fr_aload_n i145_71 rfl ?_
  refine rn_bipush i145_72 ?_
  obtain ⟨w74, h74, h⟩ := Option.bind_eq_some_iff.mp h
  refine rn_newa (t := 22) i145_74 (by decide) rfl h74 ?_
  obtain ⟨w76, h76, h⟩ := Option.bind_eq_some_iff.mp h
  refine fr_pR (k := 21) i145_76 pf145_12_21 h76 ?_
  refine fr_aload_n i145_79 rfl ?_
  refine rn_bipush i145_80 ?_
  obtain ⟨w82, h82, h⟩ := Option.bind_eq_some_iff.mp h
  refine rn_newa (t := 20) i145_82 (by decide) rfl h82 ?_
  obtain ⟨w84, h84, h⟩ := Option.bind_eq_some_iff.mp h
  refine fr_pR (k := 22) i145_84 pf145_12_22 h84 ?_
  refine fr_aload_n i145_87 rfl ?_
  refine rn_iconst i145_88 ?_
  obtain ⟨w89, h89, h⟩ := Option.bind_eq_some_iff.mp h
  refine rn_newa (t := 20) i145_89 (by decide) rfl h89 ?_
  obtain ⟨w91, h91, h⟩ := Option.bind_eq_some_iff.mp h
  refine fr_pR (k := 23) i145_91 pf145_12_23 h91 ?_
  refine fr_aload_n i145_94 rfl ?_
  refine rn_bipush i145_95 ?_
  obtain ⟨w97, h97, h⟩ := Option.bind_eq_some_iff.mp h
  refine rn_newa (t := 20) i145_97 (by decide) rfl h97 ?_
  obtain ⟨w99, h99, h⟩ := Option.bind_eq_some_iff.mp h
  refine fr_pR (k := 24) i145_99 pf145_12_24 h99 ?_
  refine fr_aload_n i145_102 rfl ?_
  refine rn_iconst i145_103 ?_
  obtain ⟨w104, h104, h⟩ := Option.bind_eq_some_iff.mp h
  refine rn_newa (t := 20) i145_104 (by decide) rfl h104 ?_
  obtain ⟨w106, h106, h⟩ := Option.bind_eq_some_iff.mp h
  refine fr_pR (k := 25) i145_106 pf145_12_25 h106 ?_
  refine fr_aload_n i145_109 rfl ?_
  refine rn_bipush i145_110 ?_
  obtain ⟨w112, h112, h⟩ := Option.bind_eq_some_iff.mp h
  refine rn_newa (t := 20) i145_112 (by decide) rfl h112 ?_
  obtain ⟨w114, h114, h⟩ := Option.bind_eq_some_iff.mp h
  refine fr_pR (k := 26) i145_114 pf145_12_26 h114 ?_
  refine fr_aload_n i145_117 rfl ?_
  refine rn_bipush i145_118 ?_
  obtain ⟨w120, h120, h⟩ := Option.bind_eq_some_iff.mp h
  refine rn_newa (t := 20) i145_120 (by decide) rfl h120 ?_
  obtain ⟨w122, h122, h⟩ := Option.bind_eq_some_iff.mp h
  refine fr_pR (k := 27) i145_122 pf145_12_27 h122 ?_
  refine fr_aload_n i145_125 rfl ?_
  refine rn_bipush i145_126 ?_
  obtain ⟨w128, h128, h⟩ := Option.bind_eq_some_iff.mp h
  refine rn_newa (t := 20) i145_128 (by decide) rfl h128 ?_
  obtain ⟨w130, h130, h⟩ := Option.bind_eq_some_iff.mp h
  refine fr_pR (k := 28) i145_130 pf145_12_28 h130 ?_
  refine fr_aload_n i145_133 rfl ?_
  refine rn_iconst i145_134 ?_
  obtain ⟨w135, h135, h⟩ := Option.bind_eq_some_iff.mp h
  refine rn_newa (t := 20) i145_135 (by decide) rfl h135 ?_
  obtain ⟨w137, h137, h⟩ := Option.bind_eq_some_iff.mp h
  refine fr_pR (k := 29) i145_137 pf145_12_29 h137 ?_
  refine fr_aload_n i145_140 rfl ?_
  refine rn_iconst i145_141 ?_
  obtain ⟨w142, h142, h⟩ := Option.bind_eq_some_iff.mp h
  refine rn_newa (t := 20) i145_142 (by decide) rfl h142 ?_
  obtain ⟨w144, h144, h⟩ := Option.bind_eq_some_iff.mp h
  refine fr_pR (k := 30) i145_144 pf145_12_30 h144 ?_
  refine fr_aload_n i145_147 rfl ?_
  refine rn_iconst i145_148 ?_
  obtain ⟨w149, h149, h⟩ := Option.bind_eq_some_iff.mp h
  refine rn_newa (t := 20) i145_149 (by decide) rfl h149 ?_
  obtain ⟨w151, h151, h⟩ := Option.bind_eq_some_iff.mp h
  refine fr_pR (k := 31) i145_151 pf145_12_31 h151 ?_
  refine fr_aload_n i145_154 rfl ?_
  refine rn_iconst i145_155 ?_
  obtain ⟨w156, h156, h⟩ := Option.bind_eq_some_iff.mp h
  refine rn_newa (t := 20) i145_156 (by decide) rfl h156 ?_
  obtain ⟨w158, h158, h⟩ := Option.bind_eq_some_iff.mp h
  refine fr_pR (k := 32) i145_158 pf145_12_32 h158 ?_
  refine fr_aload_n i145_161 rfl ?_
  refine rn_bipush i145_162 ?_
  obtain ⟨w164, h164, h⟩ := Option.bind_eq_some_iff.mp h
  refine rn_newa (t := 20) i145_164 (by decide) rfl h164 ?_
  obtain ⟨w166, h166, h⟩ := Option.bind_eq_some_iff.mp h
  refine fr_pR (k := 33) i145_166 pf145_12_33 h166 ?_
  refine fr_aload_n i145_169 rfl ?_
  refine rn_bipush i145_170 ?_
  obtain ⟨w172, h172, h⟩ := Option.bind_eq_some_iff.mp h
  refine rn_newa (t := 20) i145_172 (by decide) rfl h172 ?_
  obtain ⟨w174, h174, h⟩ := Option.bind_eq_some_iff.mp h
  refine fr_pR (k := 34) i145_174 pf145_12_34 h174 ?_
  refine fr_aload_n i145_177 rfl ?_
  refine rn_sipush i145_178 ?_
  obtain ⟨w181, h181, h⟩ := Option.bind_eq_some_iff.mp h
  refine rn_newa (t := 23) i145_181 (by decide) rfl h181 ?_
  obtain ⟨w183, h183, h⟩ := Option.bind_eq_some_iff.mp h
  refine fr_pR (k := 36) i145_183 pf145_12_36 h183 ?_
  refine fr_aload_n i145_186 rfl ?_
  refine rn_sipush i145_187 ?_
  obtain ⟨w190, h190, h⟩ := Option.bind_eq_some_iff.mp h
  refine rn_newa (t := 20) i145_190 (by decide) rfl h190 ?_
  obtain ⟨w192, h192, h⟩ := Option.bind_eq_some_iff.mp h
  refine fr_pR (k := 37) i145_192 pf145_12_37 h192 ?_
  refine fr_aload_n i145_195 rfl ?_
  refine rn_sipush i145_196 ?_
  obtain ⟨w199, h199, h⟩ := Option.bind_eq_some_iff.mp h
  refine rn_newa (t := 20) i145_199 (by decide) rfl h199 ?_
  obtain ⟨w201, h201, h⟩ := Option.bind_eq_some_iff.mp h
  refine fr_pR (k := 38) i145_201 pf145_12_38 h201 ?_
  refine fr_aload_n i145_204 rfl ?_
  refine rn_sipush i145_205 ?_
  obtain ⟨w208, h208, h⟩ := Option.bind_eq_some_iff.mp h
  refine rn_newa (t := 20) i145_208 (by decide) rfl h208 ?_
  obtain ⟨w210, h210, h⟩ := Option.bind_eq_some_iff.mp h
  refine fr_pR (k := 39) i145_210 pf145_12_39 h210 ?_
  refine fr_aload_n i145_213 rfl ?_
  refine rn_sipush i145_214 ?_
  obtain ⟨w217, h217, h⟩ := Option.bind_eq_some_iff.mp h
  refine rn_newa (t := 20) i145_217 (by decide) rfl h217 ?_
  obtain ⟨w219, h219, h⟩ := Option.bind_eq_some_iff.mp h
  refine fr_pR (k := 40) i145_219 pf145_12_40 h219 ?_
  refine fr_aload_n i145_222 rfl ?_
  refine rn_sipush i145_223 ?_
  obtain ⟨w226, h226, h⟩ := Option.bind_eq_some_iff.mp h
  refine rn_newa (t := 20) i145_226 (by decide) rfl h226 ?_
  obtain ⟨w228, h228, h⟩ := Option.bind_eq_some_iff.mp h
  refine fr_pR (k := 42) i145_228 pf145_12_42 h228 ?_
  refine fr_aload_n i145_231 rfl ?_
  refine rn_sipush i145_232 ?_
  obtain ⟨w235, h235, h⟩ := Option.bind_eq_some_iff.mp h
  refine rn_newa (t := 20) i145_235 (by decide) rfl h235 ?_
  obtain ⟨w237, h237, h⟩ := Option.bind_eq_some_iff.mp h
  refine fr_pR (k := 43) i145_237 pf145_12_43 h237 ?_
  refine fr_aload_n i145_240 rfl ?_
  refine rn_bipush i145_241 ?_
  obtain ⟨w243, h243, h⟩ := Option.bind_eq_some_iff.mp h
  refine rn_newa (t := 20) i145_243 (by decide) rfl h243 ?_
  obtain ⟨w245, h245, h⟩ := Option.bind_eq_some_iff.mp h
  refine fr_pR (k := 44) i145_245 pf145_12_44 h245 ?_
  refine fr_aload_n i145_248 rfl ?_
  refine rn_bipush i145_249 ?_
  obtain ⟨w251, h251, h⟩ := Option.bind_eq_some_iff.mp h
  refine rn_newa (t := 20) i145_251 (by decide) rfl h251 ?_
  obtain ⟨w253, h253, h⟩ := Option.bind_eq_some_iff.mp h
  refine fr_pR (k := 46) i145_253 pf145_12_46 h253 ?_
  refine fr_aload_n i145_256 rfl ?_
  refine rn_sipush i145_257 ?_
  obtain ⟨w260, h260, h⟩ := Option.bind_eq_some_iff.mp h
  refine rn_newa (t := 20) i145_260 (by decide) rfl h260 ?_
  obtain ⟨w262, h262, h⟩ := Option.bind_eq_some_iff.mp h
  refine fr_pR (k := 47) i145_262 pf145_12_47 h262 ?_
  refine fr_aload_n i145_265 rfl ?_
  refine rn_sipush i145_266 ?_
  obtain ⟨w269, h269, h⟩ := Option.bind_eq_some_iff.mp h
  refine rn_newa (t := 20) i145_269 (by decide) rfl h269 ?_
  obtain ⟨w271, h271, h⟩ := Option.bind_eq_some_iff.mp h
  refine fr_pR (k := 49) i145_271 pf145_12_49 h271 ?_
  refine fr_aload_n i145_274 rfl ?_
  refine rn_sipush i145_275 ?_
  obtain ⟨w278, h278, h⟩ := Option.bind_eq_some_iff.mp h
  refine rn_newa (t := 20) i145_278 (by decide) rfl h278 ?_
  obtain ⟨w280, h280, h⟩ := Option.bind_eq_some_iff.mp h
  refine fr_pR (k := 50) i145_280 pf145_12_50 h280 ?_
  refine fr_aload_n i145_283 rfl ?_
  refine rn_bipush i145_284 ?_
  obtain ⟨w286, h286, h⟩ := Option.bind_eq_some_iff.mp h
  refine rn_newa (t := 20) i145_286 (by decide) rfl h286 ?_
  obtain ⟨w288, h288, h⟩ := Option.bind_eq_some_iff.mp h
  refine fr_pR (k := 56) i145_288 pf145_12_56 h288 ?_
  refine fr_aload_n i145_291 rfl ?_
  refine rn_iconst i145_292 ?_
  obtain ⟨w293, h293, h⟩ := Option.bind_eq_some_iff.mp h
  refine rn_newa (t := 20) i145_293 (by decide) rfl h293 ?_
  obtain ⟨w295, h295, h⟩ := Option.bind_eq_some_iff.mp h
  refine fr_pR (k := 57) i145_295 pf145_12_57 h295 ?_
  refine fr_aload_n i145_298 rfl ?_
  refine rn_ldc i145_299 lw145_299 ⟨by decide, by decide⟩ ?_
  obtain ⟨w301, h301, h⟩ := Option.bind_eq_some_iff.mp h
  refine rn_newa (t := 20) i145_301 (by decide) rfl h301 ?_
  obtain ⟨w303, h303, h⟩ := Option.bind_eq_some_iff.mp h
  refine fr_pR (k := 59) i145_303 pf145_12_59 h303 ?_
  refine fr_aload_n i145_306 rfl ?_
  refine rn_bipush i145_307 ?_
  obtain ⟨w309, h309, h⟩ := Option.bind_eq_some_iff.mp h
  refine rn_newa (t := 20) i145_309 (by decide) rfl h309 ?_
  obtain ⟨w311, h311, h⟩ := Option.bind_eq_some_iff.mp h
  refine fr_pR (k := 60) i145_311 pf145_12_60 h311 ?_
  refine fr_aload_n i145_314 rfl ?_
  refine rn_bipush i145_315 ?_
  obtain ⟨w317, h317, h⟩ := Option.bind_eq_some_iff.mp h
  refine rn_newa (t := 20) i145_317 (by decide) rfl h317 ?_
  obtain ⟨w319, h319, h⟩ := Option.bind_eq_some_iff.mp h
  refine fr_pR (k := 61) i145_319 pf145_12_61 h319 ?_
  refine fr_aload_n i145_322 rfl ?_
  refine rn_bipush i145_323 ?_
  obtain ⟨w325, h325, h⟩ := Option.bind_eq_some_iff.mp h
  refine rn_newa (t := 20) i145_325 (by decide) rfl h325 ?_
  obtain ⟨w327, h327, h⟩ := Option.bind_eq_some_iff.mp h
  refine fr_pR (k := 62) i145_327 pf145_12_62 h327 ?_
  refine fr_aload_n i145_330 rfl ?_
  refine rn_bipush i145_331 ?_
  obtain ⟨w333, h333, h⟩ := Option.bind_eq_some_iff.mp h
  refine rn_newa (t := 20) i145_333 (by decide) rfl h333 ?_
  obtain ⟨w335, h335, h⟩ := Option.bind_eq_some_iff.mp h
  refine fr_pR (k := 64) i145_335 pf145_12_64 h335 ?_
  refine fr_aload_n i145_338 rfl ?_
  refine rn_bipush i145_339 ?_
  obtain ⟨w341, h341, h⟩ := Option.bind_eq_some_iff.mp h
  refine rn_newa (t := 20) i145_341 (by decide) rfl h341 ?_
  obtain ⟨w343, h343, h⟩ := Option.bind_eq_some_iff.mp h
  refine fr_pR (k := 65) i145_343 pf145_12_65 h343 ?_
  refine fr_aload_n i145_346 rfl ?_
  refine rn_iconst i145_347 ?_
  obtain ⟨w348, h348, h⟩ := Option.bind_eq_some_iff.mp h
  refine rn_newa (t := 23) i145_348 (by decide) rfl h348 ?_
  obtain ⟨w350, h350, h⟩ := Option.bind_eq_some_iff.mp h
  refine fr_pR (k := 66) i145_350 pf145_12_66 h350 ?_
  refine fr_aload_n i145_353 rfl ?_
  refine rn_sipush i145_354 ?_
  obtain ⟨w357, h357, h⟩ := Option.bind_eq_some_iff.mp h
  refine rn_newa (t := 20) i145_357 (by decide) rfl h357 ?_
  obtain ⟨w359, h359, h⟩ := Option.bind_eq_some_iff.mp h
  refine fr_pR (k := 67) i145_359 pf145_12_67 h359 ?_
  refine fr_aload_n i145_362 rfl ?_
  refine rn_iconst i145_363 ?_
  obtain ⟨r364, h364, h⟩ := Option.bind_eq_some_iff.mp h
  obtain ⟨g364, c364⟩ := S_Mo_plain a0 0 w359 r364 h364
  refine fr_callV (a := a0) (As := [.inl 0]) (st := []) i145_364 (cq162 a0 0) rfl (Nat.le_of_ble_eq_true rfl) g364 (c364 _ (by omega)) ?_
  refine fr_aload_n i145_367 rfl ?_
  obtain ⟨v368, h368, h⟩ := Option.bind_eq_some_iff.mp h
  refine fr_gR (k := 9) i145_368 tf12_9 h368 ?_
  refine rn_iconst i145_371 ?_
  refine rn_bipush i145_372 ?_
  refine rn_bipush i145_374 ?_
  refine rn_bipush i145_376 ?_
  refine rn_bipush i145_378 ?_
  refine rn_bipush i145_380 ?_
  refine rn_bipush i145_382 ?_
  refine rn_iconst i145_384 ?_
  obtain ⟨r385, h385, h⟩ := Option.bind_eq_some_iff.mp h
  refine fr_callS (nst := 0) (As := [.inl 108, .inl 101, .inl 116, .inl 116, .inl 101, .inl 114, .inl 0]) (st := [.inl 0, .inr (.inr v368)]) i145_385 (cq153 108 101 116 116 101 114 0) rfl (Nat.le_of_ble_eq_true rfl) (S_Mo_word 108 101 116 116 101 114 0 r364 r385 h385 _ (by omega)) ?_
  show Rn _ _ _ _ _ _ [.inr (.inl r385.1), .inl 0, .inr (.inr v368)] _ _ _
  obtain ⟨w388, h388, h⟩ := Option.bind_eq_some_iff.mp h
  refine rn_last i145_388 h388 ?_
  refine fr_aload_n i145_389 rfl ?_
  obtain ⟨v390, h390, h⟩ := Option.bind_eq_some_iff.mp h
  refine fr_gR (k := 9) i145_390 tf12_9 h390 ?_
  refine rn_iconst i145_393 ?_
  refine rn_bipush i145_394 ?_
  refine rn_bipush i145_396 ?_
  refine rn_bipush i145_398 ?_
  refine rn_bipush i145_400 ?_
  refine rn_iconst i145_402 ?_
  refine rn_iconst i145_403 ?_
  refine rn_iconst i145_404 ?_
  obtain ⟨r405, h405, h⟩ := Option.bind_eq_some_iff.mp h
  refine fr_callS (nst := 0) (As := [.inl 104, .inl 101, .inl 105, .inl 114, .inl 0, .inl 0, .inl 0]) (st := [.inl 1, .inr (.inr v390)]) i145_405 (cq153 104 101 105 114 0 0 0) rfl (Nat.le_of_ble_eq_true rfl) (S_Mo_word 104 101 105 114 0 0 0 w388 r405 h405 _ (by omega)) ?_
  show Rn _ _ _ _ _ _ [.inr (.inl r405.1), .inl 1, .inr (.inr v390)] _ _ _
  obtain ⟨w408, h408, h⟩ := Option.bind_eq_some_iff.mp h
  refine rn_last i145_408 h408 ?_
  refine fr_aload_n i145_409 rfl ?_
  obtain ⟨v410, h410, h⟩ := Option.bind_eq_some_iff.mp h
  refine fr_gR (k := 9) i145_410 tf12_9 h410 ?_
  refine rn_iconst i145_413 ?_
  refine rn_bipush i145_414 ?_
  refine rn_bipush i145_416 ?_
  refine rn_bipush i145_418 ?_
  refine rn_bipush i145_420 ?_
  refine rn_bipush i145_422 ?_
  refine rn_bipush i145_424 ?_
  refine rn_iconst i145_426 ?_
  obtain ⟨r427, h427, h⟩ := Option.bind_eq_some_iff.mp h
  refine fr_callS (nst := 0) (As := [.inl 109, .inl 97, .inl 115, .inl 116, .inl 101, .inl 114, .inl 0]) (st := [.inl 2, .inr (.inr v410)]) i145_427 (cq153 109 97 115 116 101 114 0) rfl (Nat.le_of_ble_eq_true rfl) (S_Mo_word 109 97 115 116 101 114 0 w408 r427 h427 _ (by omega)) ?_
  show Rn _ _ _ _ _ _ [.inr (.inl r427.1), .inl 2, .inr (.inr v410)] _ _ _
  obtain ⟨w430, h430, h⟩ := Option.bind_eq_some_iff.mp h
  refine rn_last i145_430 h430 ?_
  refine fr_aload_n i145_431 rfl ?_
  obtain ⟨v432, h432, h⟩ := Option.bind_eq_some_iff.mp h
  refine fr_gR (k := 9) i145_432 tf12_9 h432 ?_
  refine rn_iconst i145_435 ?_
  refine rn_bipush i145_436 ?_
  refine rn_bipush i145_438 ?_
  refine rn_bipush i145_440 ?_
  refine rn_bipush i145_442 ?_
  refine rn_bipush i145_444 ?_
  refine rn_iconst i145_446 ?_
  refine rn_iconst i145_447 ?_
  obtain ⟨r448, h448, h⟩ := Option.bind_eq_some_iff.mp h
  refine fr_callS (nst := 0) (As := [.inl 108, .inl 101, .inl 97, .inl 114, .inl 110, .inl 0, .inl 0]) (st := [.inl 3, .inr (.inr v432)]) i145_448 (cq153 108 101 97 114 110 0 0) rfl (Nat.le_of_ble_eq_true rfl) (S_Mo_word 108 101 97 114 110 0 0 w430 r448 h448 _ (by omega)) ?_
  show Rn _ _ _ _ _ _ [.inr (.inl r448.1), .inl 3, .inr (.inr v432)] _ _ _
  obtain ⟨w451, h451, h⟩ := Option.bind_eq_some_iff.mp h
  refine rn_last i145_451 h451 ?_
  refine fr_aload_n i145_452 rfl ?_
  obtain ⟨v453, h453, h⟩ := Option.bind_eq_some_iff.mp h
  refine fr_gR (k := 9) i145_453 tf12_9 h453 ?_
  refine rn_iconst i145_456 ?_
  refine rn_bipush i145_457 ?_
  refine rn_bipush i145_459 ?_
  refine rn_bipush i145_461 ?_
  refine rn_bipush i145_463 ?_
  refine rn_bipush i145_465 ?_
  refine rn_iconst i145_467 ?_
  refine rn_iconst i145_468 ?_
  obtain ⟨r469, h469, h⟩ := Option.bind_eq_some_iff.mp h
  refine fr_callS (nst := 0) (As := [.inl 100, .inl 114, .inl 105, .inl 102, .inl 116, .inl 0, .inl 0]) (st := [.inl 4, .inr (.inr v453)]) i145_469 (cq153 100 114 105 102 116 0 0) rfl (Nat.le_of_ble_eq_true rfl) (S_Mo_word 100 114 105 102 116 0 0 w451 r469 h469 _ (by omega)) ?_
  show Rn _ _ _ _ _ _ [.inr (.inl r469.1), .inl 4, .inr (.inr v453)] _ _ _
  obtain ⟨w472, h472, h⟩ := Option.bind_eq_some_iff.mp h
  refine rn_last i145_472 h472 ?_
  refine fr_aload_n i145_473 rfl ?_
  obtain ⟨v474, h474, h⟩ := Option.bind_eq_some_iff.mp h
  refine fr_gR (k := 9) i145_474 tf12_9 h474 ?_
  refine rn_iconst i145_477 ?_
  refine rn_bipush i145_478 ?_
  refine rn_bipush i145_480 ?_
  refine rn_bipush i145_482 ?_
  refine rn_bipush i145_484 ?_
  refine rn_iconst i145_486 ?_
  refine rn_iconst i145_487 ?_
  refine rn_iconst i145_488 ?_
  obtain ⟨r489, h489, h⟩ := Option.bind_eq_some_iff.mp h
  refine fr_callS (nst := 0) (As := [.inl 100, .inl 97, .inl 121, .inl 115, .inl 0, .inl 0, .inl 0]) (st := [.inl 5, .inr (.inr v474)]) i145_489 (cq153 100 97 121 115 0 0 0) rfl (Nat.le_of_ble_eq_true rfl) (S_Mo_word 100 97 121 115 0 0 0 w472 r489 h489 _ (by omega)) ?_
  show Rn _ _ _ _ _ _ [.inr (.inl r489.1), .inl 5, .inr (.inr v474)] _ _ _
  obtain ⟨w492, h492, h⟩ := Option.bind_eq_some_iff.mp h
  refine rn_last i145_492 h492 ?_
  refine fr_aload_n i145_493 rfl ?_
  obtain ⟨v494, h494, h⟩ := Option.bind_eq_some_iff.mp h
  refine fr_gR (k := 9) i145_494 tf12_9 h494 ?_
  refine rn_bipush i145_497 ?_
  refine rn_bipush i145_499 ?_
  refine rn_bipush i145_501 ?_
  refine rn_bipush i145_503 ?_
  refine rn_bipush i145_505 ?_
  refine rn_bipush i145_507 ?_
  refine rn_iconst i145_509 ?_
  refine rn_iconst i145_510 ?_
  obtain ⟨r511, h511, h⟩ := Option.bind_eq_some_iff.mp h
  refine fr_callS (nst := 0) (As := [.inl 108, .inl 105, .inl 109, .inl 105, .inl 116, .inl 0, .inl 0]) (st := [.inl 6, .inr (.inr v494)]) i145_511 (cq153 108 105 109 105 116 0 0) rfl (Nat.le_of_ble_eq_true rfl) (S_Mo_word 108 105 109 105 116 0 0 w492 r511 h511 _ (by omega)) ?_
  show Rn _ _ _ _ _ _ [.inr (.inl r511.1), .inl 6, .inr (.inr v494)] _ _ _
  obtain ⟨w514, h514, h⟩ := Option.bind_eq_some_iff.mp h
  refine rn_last i145_514 h514 ?_
  refine fr_aload_n i145_515 rfl ?_
  obtain ⟨v516, h516, h⟩ := Option.bind_eq_some_iff.mp h
  refine fr_gR (k := 9) i145_516 tf12_9 h516 ?_
  refine rn_bipush i145_519 ?_
  refine rn_bipush i145_521 ?_
  refine rn_bipush i145_523 ?_
  refine rn_bipush i145_525 ?_
  refine rn_bipush i145_527 ?_
  refine rn_iconst i145_529 ?_
  refine rn_iconst i145_530 ?_
  refine rn_iconst i145_531 ?_
  obtain ⟨r532, h532, h⟩ := Option.bind_eq_some_iff.mp h
  refine fr_callS (nst := 0) (As := [.inl 115, .inl 101, .inl 101, .inl 100, .inl 0, .inl 0, .inl 0]) (st := [.inl 7, .inr (.inr v516)]) i145_532 (cq153 115 101 101 100 0 0 0) rfl (Nat.le_of_ble_eq_true rfl) (S_Mo_word 115 101 101 100 0 0 0 w514 r532 h532 _ (by omega)) ?_
  show Rn _ _ _ _ _ _ [.inr (.inl r532.1), .inl 7, .inr (.inr v516)] _ _ _
  obtain ⟨w535, h535, h⟩ := Option.bind_eq_some_iff.mp h
  refine rn_last i145_535 h535 ?_
  refine fr_aload_n i145_536 rfl ?_
  obtain ⟨v537, h537, h⟩ := Option.bind_eq_some_iff.mp h
  refine fr_gR (k := 9) i145_537 tf12_9 h537 ?_
  refine rn_bipush i145_540 ?_
  refine rn_bipush i145_542 ?_
  refine rn_bipush i145_544 ?_
  refine rn_iconst i145_546 ?_
  refine rn_iconst i145_547 ?_
  refine rn_iconst i145_548 ?_
  refine rn_iconst i145_549 ?_
  refine rn_iconst i145_550 ?_
  obtain ⟨r551, h551, h⟩ := Option.bind_eq_some_iff.mp h
  refine fr_callS (nst := 0) (As := [.inl 105, .inl 102, .inl 0, .inl 0, .inl 0, .inl 0, .inl 0]) (st := [.inl 8, .inr (.inr v537)]) i145_551 (cq153 105 102 0 0 0 0 0) rfl (Nat.le_of_ble_eq_true rfl) (S_Mo_word 105 102 0 0 0 0 0 w535 r551 h551 _ (by omega)) ?_
  show Rn _ _ _ _ _ _ [.inr (.inl r551.1), .inl 8, .inr (.inr v537)] _ _ _
  obtain ⟨w554, h554, h⟩ := Option.bind_eq_some_iff.mp h
  refine rn_last i145_554 h554 ?_
  refine fr_aload_n i145_555 rfl ?_
  obtain ⟨v556, h556, h⟩ := Option.bind_eq_some_iff.mp h
  refine fr_gR (k := 9) i145_556 tf12_9 h556 ?_
  refine rn_bipush i145_559 ?_
  refine rn_bipush i145_561 ?_
  refine rn_bipush i145_563 ?_
  refine rn_bipush i145_565 ?_
  refine rn_bipush i145_567 ?_
  refine rn_iconst i145_569 ?_
  refine rn_iconst i145_570 ?_
  refine rn_iconst i145_571 ?_
  obtain ⟨r572, h572, h⟩ := Option.bind_eq_some_iff.mp h
  refine fr_callS (nst := 0) (As := [.inl 116, .inl 104, .inl 101, .inl 110, .inl 0, .inl 0, .inl 0]) (st := [.inl 9, .inr (.inr v556)]) i145_572 (cq153 116 104 101 110 0 0 0) rfl (Nat.le_of_ble_eq_true rfl) (S_Mo_word 116 104 101 110 0 0 0 w554 r572 h572 _ (by omega)) ?_
  show Rn _ _ _ _ _ _ [.inr (.inl r572.1), .inl 9, .inr (.inr v556)] _ _ _
  obtain ⟨w575, h575, h⟩ := Option.bind_eq_some_iff.mp h
  refine rn_last i145_575 h575 ?_
  refine fr_aload_n i145_576 rfl ?_
  obtain ⟨v577, h577, h⟩ := Option.bind_eq_some_iff.mp h
  refine fr_gR (k := 9) i145_577 tf12_9 h577 ?_
  refine rn_bipush i145_580 ?_
  refine rn_bipush i145_582 ?_
  refine rn_bipush i145_584 ?_
  refine rn_bipush i145_586 ?_
  refine rn_bipush i145_588 ?_
  refine rn_iconst i145_590 ?_
  refine rn_iconst i145_591 ?_
  refine rn_iconst i145_592 ?_
  obtain ⟨r593, h593, h⟩ := Option.bind_eq_some_iff.mp h
  refine fr_callS (nst := 0) (As := [.inl 101, .inl 108, .inl 115, .inl 101, .inl 0, .inl 0, .inl 0]) (st := [.inl 10, .inr (.inr v577)]) i145_593 (cq153 101 108 115 101 0 0 0) rfl (Nat.le_of_ble_eq_true rfl) (S_Mo_word 101 108 115 101 0 0 0 w575 r593 h593 _ (by omega)) ?_
  show Rn _ _ _ _ _ _ [.inr (.inl r593.1), .inl 10, .inr (.inr v577)] _ _ _
  obtain ⟨w596, h596, h⟩ := Option.bind_eq_some_iff.mp h
  refine rn_last i145_596 h596 ?_
  refine fr_aload_n i145_597 rfl ?_
  obtain ⟨v598, h598, h⟩ := Option.bind_eq_some_iff.mp h
  refine fr_gR (k := 9) i145_598 tf12_9 h598 ?_
  refine rn_bipush i145_601 ?_
  refine rn_bipush i145_603 ?_
  refine rn_bipush i145_605 ?_
  refine rn_bipush i145_607 ?_
  refine rn_iconst i145_609 ?_
  refine rn_iconst i145_610 ?_
  refine rn_iconst i145_611 ?_
  refine rn_iconst i145_612 ?_
  obtain ⟨r613, h613, h⟩ := Option.bind_eq_some_iff.mp h
  refine fr_callS (nst := 0) (As := [.inl 111, .inl 102, .inl 102, .inl 0, .inl 0, .inl 0, .inl 0]) (st := [.inl 11, .inr (.inr v598)]) i145_613 (cq153 111 102 102 0 0 0 0) rfl (Nat.le_of_ble_eq_true rfl) (S_Mo_word 111 102 102 0 0 0 0 w596 r613 h613 _ (by omega)) ?_
  show Rn _ _ _ _ _ _ [.inr (.inl r613.1), .inl 11, .inr (.inr v598)] _ _ _
  obtain ⟨w616, h616, h⟩ := Option.bind_eq_some_iff.mp h
  refine rn_last i145_616 h616 ?_
  refine fr_aload_n i145_617 rfl ?_
  obtain ⟨v618, h618, h⟩ := Option.bind_eq_some_iff.mp h
  refine fr_gR (k := 9) i145_618 tf12_9 h618 ?_
  refine rn_bipush i145_621 ?_
  refine rn_bipush i145_623 ?_
  refine rn_bipush i145_625 ?_
  refine rn_bipush i145_627 ?_
  refine rn_bipush i145_629 ?_
  refine rn_iconst i145_631 ?_
  refine rn_iconst i145_632 ?_
  refine rn_iconst i145_633 ?_
  obtain ⟨r634, h634, h⟩ := Option.bind_eq_some_iff.mp h
  refine fr_callS (nst := 0) (As := [.inl 121, .inl 101, .inl 97, .inl 114, .inl 0, .inl 0, .inl 0]) (st := [.inl 12, .inr (.inr v618)]) i145_634 (cq153 121 101 97 114 0 0 0) rfl (Nat.le_of_ble_eq_true rfl) (S_Mo_word 121 101 97 114 0 0 0 w616 r634 h634 _ (by omega)) ?_
  show Rn _ _ _ _ _ _ [.inr (.inl r634.1), .inl 12, .inr (.inr v618)] _ _ _
  obtain ⟨w637, h637, h⟩ := Option.bind_eq_some_iff.mp h
  refine rn_last i145_637 h637 ?_
  refine fr_aload_n i145_638 rfl ?_
  obtain ⟨v639, h639, h⟩ := Option.bind_eq_some_iff.mp h
  refine fr_gR (k := 9) i145_639 tf12_9 h639 ?_
  refine rn_bipush i145_642 ?_
  refine rn_bipush i145_644 ?_
  refine rn_bipush i145_646 ?_
  refine rn_bipush i145_648 ?_
  refine rn_bipush i145_650 ?_
  refine rn_iconst i145_652 ?_
  refine rn_iconst i145_653 ?_
  refine rn_iconst i145_654 ?_
  obtain ⟨r655, h655, h⟩ := Option.bind_eq_some_iff.mp h
  refine fr_callS (nst := 0) (As := [.inl 119, .inl 111, .inl 114, .inl 110, .inl 0, .inl 0, .inl 0]) (st := [.inl 13, .inr (.inr v639)]) i145_655 (cq153 119 111 114 110 0 0 0) rfl (Nat.le_of_ble_eq_true rfl) (S_Mo_word 119 111 114 110 0 0 0 w637 r655 h655 _ (by omega)) ?_
  show Rn _ _ _ _ _ _ [.inr (.inl r655.1), .inl 13, .inr (.inr v639)] _ _ _
  obtain ⟨w658, h658, h⟩ := Option.bind_eq_some_iff.mp h
  refine rn_last i145_658 h658 ?_
  refine fr_aload_n i145_659 rfl ?_
  obtain ⟨v660, h660, h⟩ := Option.bind_eq_some_iff.mp h
  refine fr_gR (k := 9) i145_660 tf12_9 h660 ?_
  refine rn_bipush i145_663 ?_
  refine rn_bipush i145_665 ?_
  refine rn_bipush i145_667 ?_
  refine rn_bipush i145_669 ?_
  refine rn_iconst i145_671 ?_
  refine rn_iconst i145_672 ?_
  refine rn_iconst i145_673 ?_
  refine rn_iconst i145_674 ?_
  obtain ⟨r675, h675, h⟩ := Option.bind_eq_some_iff.mp h
  refine fr_callS (nst := 0) (As := [.inl 111, .inl 119, .inl 110, .inl 0, .inl 0, .inl 0, .inl 0]) (st := [.inl 14, .inr (.inr v660)]) i145_675 (cq153 111 119 110 0 0 0 0) rfl (Nat.le_of_ble_eq_true rfl) (S_Mo_word 111 119 110 0 0 0 0 w658 r675 h675 _ (by omega)) ?_
  show Rn _ _ _ _ _ _ [.inr (.inl r675.1), .inl 14, .inr (.inr v660)] _ _ _
  obtain ⟨w678, h678, h⟩ := Option.bind_eq_some_iff.mp h
  refine rn_last i145_678 h678 ?_
  refine fr_aload_n i145_679 rfl ?_
  obtain ⟨v680, h680, h⟩ := Option.bind_eq_some_iff.mp h
  refine fr_gR (k := 9) i145_680 tf12_9 h680 ?_
  refine rn_bipush i145_683 ?_
  refine rn_bipush i145_685 ?_
  refine rn_bipush i145_687 ?_
  refine rn_bipush i145_689 ?_
  refine rn_bipush i145_691 ?_
  refine rn_iconst i145_693 ?_
  refine rn_iconst i145_694 ?_
  refine rn_iconst i145_695 ?_
  obtain ⟨r696, h696, h⟩ := Option.bind_eq_some_iff.mp h
  refine fr_callS (nst := 0) (As := [.inl 104, .inl 97, .inl 110, .inl 100, .inl 0, .inl 0, .inl 0]) (st := [.inl 15, .inr (.inr v680)]) i145_696 (cq153 104 97 110 100 0 0 0) rfl (Nat.le_of_ble_eq_true rfl) (S_Mo_word 104 97 110 100 0 0 0 w678 r696 h696 _ (by omega)) ?_
  show Rn _ _ _ _ _ _ [.inr (.inl r696.1), .inl 15, .inr (.inr v680)] _ _ _
  obtain ⟨w699, h699, h⟩ := Option.bind_eq_some_iff.mp h
  refine rn_last i145_699 h699 ?_
  refine fr_aload_n i145_700 rfl ?_
  obtain ⟨v701, h701, h⟩ := Option.bind_eq_some_iff.mp h
  refine fr_gR (k := 9) i145_701 tf12_9 h701 ?_
  refine rn_bipush i145_704 ?_
  refine rn_bipush i145_706 ?_
  refine rn_bipush i145_708 ?_
  refine rn_bipush i145_710 ?_
  refine rn_iconst i145_712 ?_
  refine rn_iconst i145_713 ?_
  refine rn_iconst i145_714 ?_
  refine rn_iconst i145_715 ?_
  obtain ⟨r716, h716, h⟩ := Option.bind_eq_some_iff.mp h
  refine fr_callS (nst := 0) (As := [.inl 100, .inl 97, .inl 121, .inl 0, .inl 0, .inl 0, .inl 0]) (st := [.inl 16, .inr (.inr v701)]) i145_716 (cq153 100 97 121 0 0 0 0) rfl (Nat.le_of_ble_eq_true rfl) (S_Mo_word 100 97 121 0 0 0 0 w699 r716 h716 _ (by omega)) ?_
  show Rn _ _ _ _ _ _ [.inr (.inl r716.1), .inl 16, .inr (.inr v701)] _ _ _
  obtain ⟨w719, h719, h⟩ := Option.bind_eq_some_iff.mp h
  refine rn_last i145_719 h719 ?_
  refine fr_aload_n i145_720 rfl ?_
  obtain ⟨r721, h721, h⟩ := Option.bind_eq_some_iff.mp h
  obtain ⟨g721, c721⟩ := S_Mo_begins a0 w719 r721 h721
  refine fr_callV (a := a0) (As := []) (st := []) i145_721 (cq185 a0) rfl (Nat.le_of_ble_eq_true rfl) g721 (c721 _ (by omega)) ?_
  obtain rfl := Option.some.inj h
  exact rn_ret i145_724 mr145
/-- HandHeirsModel.<init>()V -/
def Mo_init (a0 : Nat) (w : Wd) : Option (Wd) := gd 12 w a0 (Mo_init_0 a0 w)
theorem S_Mo_init {g : Gp} {l : Launch} (a0 : Nat) (w : Wd) (r : Wd) (h : Mo_init a0 w = some r) : (wsh w a0).1 = 12 ∧ ∀ D, 2 ≤ D → Rn g l D 145 0 [(0, .inr (.inr a0))] [] w none r := by
  obtain ⟨hg, h⟩ := gd_some h
  exact ⟨hg, fun D hD => rn_sub [0] rfl (s_Mo_init_0 hD a0 w r h)⟩
def Mo_put_3 : Nat → Nat → Int → Int → Wd → Option (Wd)
  | 0, _, _, _, _ => none
  | n + 1, a0, x1, x2, w =>
    if (x2 : Int) < 0 then
      some w
    else
      (fgR w a0 12 1).bind fun v8 =>
      (fgI w a0 12 2).bind fun v12 =>
      (wrB w v8 v12 (n8 (oshr x1 x2))).bind fun w19 =>
      (fgI w19 a0 12 2).bind fun v22 =>
      (fpI w19 a0 12 2 (w32 (v22 + 1))).bind fun w27 =>
      Mo_put_3 n a0 x1 (w32 (x2 + (-8))) w27
theorem s_Mo_put_3 {g : Gp} {l : Launch} {D : Nat} (hD : 0 ≤ D) : ∀ (n : Nat) (a0 : Nat) (x1 : Int) (x2 : Int) (w : Wd) (r : Wd), Mo_put_3 n a0 x1 x2 w = some r → Rn g l D 147 3 [(0, .inr (.inr a0)), (1, .inl x1), (2, .inl x2)] [] w none r := by
  intro n
  induction n with
  | zero => intro a0 x1 x2 w r h; cases (show (none : Option (Wd)) = some r from h)
  | succ n ih =>
    intro a0 x1 x2 w r h
    unfold Mo_put_3 at h
    refine rn_iload_n i147_3 rfl ?_
    by_cases c4 : (x2 : Int) < 0
    · rw [if_pos c4] at h
      refine rn_if_lt_t i147_4 c4 ?_
      obtain rfl := Option.some.inj h
      exact rn_ret i147_36 mr147
    · rw [if_neg c4] at h
      refine rn_if_lt_f i147_4 c4 ?_
      refine fr_aload_n i147_7 rfl ?_
      obtain ⟨v8, h8, h⟩ := Option.bind_eq_some_iff.mp h
      refine fr_gR (k := 1) i147_8 tf12_1 h8 ?_
      refine fr_aload_n i147_11 rfl ?_
      obtain ⟨v12, h12, h⟩ := Option.bind_eq_some_iff.mp h
      refine fr_gI (k := 2) i147_12 tf12_2 h12 ?_
      refine rn_iload_n i147_15 rfl ?_
      refine rn_iload_n i147_16 rfl ?_
      refine rn_ishr i147_17 ?_
      refine rn_i2b i147_18 ?_
      obtain ⟨w19, h19, h⟩ := Option.bind_eq_some_iff.mp h
      refine rn_bast i147_19 h19 ?_
      refine fr_aload_n i147_20 rfl ?_
      refine rn_dup i147_21 rfl ?_
      obtain ⟨v22, h22, h⟩ := Option.bind_eq_some_iff.mp h
      refine fr_gI (k := 2) i147_22 tf12_2 h22 ?_
      refine rn_iconst i147_25 ?_
      refine rn_iadd i147_26 ?_
      obtain ⟨w27, h27, h⟩ := Option.bind_eq_some_iff.mp h
      refine fr_pI (k := 2) i147_27 (pf12_2 147) h27 ?_
      refine rn_iinc (ls1 := [(2, .inl (w32 (x2 + (-8)))), (0, .inr (.inr a0)), (1, .inl x1)]) i147_30 rfl rfl ?_
      refine rn_goto i147_33 ?_
      exact rn_sub [1, 2, 0] rfl (ih a0 x1 (w32 (x2 + (-8))) w27 r h)
def Mo_put_0 (a0 : Nat) (x1 : Int) (w : Wd) : Option (Wd) :=
  Mo_put_3 FU a0 x1 24 w
theorem s_Mo_put_0 {g : Gp} {l : Launch} {D : Nat} (hD : 0 ≤ D) (a0 : Nat) (x1 : Int) (w : Wd) (r : Wd) (h : Mo_put_0 a0 x1 w = some r) : Rn g l D 147 0 [(0, .inr (.inr a0)), (1, .inl x1)] [] w none r := by
  unfold Mo_put_0 at h
  refine rn_bipush i147_0 ?_
  refine rn_istore_n (ls1 := [(2, .inl 24), (0, .inr (.inr a0)), (1, .inl x1)]) i147_2 rfl ?_
  exact rn_sub [1, 2, 0] rfl (s_Mo_put_3 hD FU a0 x1 24 w r h)
/-- HandHeirsModel.put(I)V -/
def Mo_put (a0 : Nat) (x1 : Int) (w : Wd) : Option (Wd) := gd 12 w a0 (Mo_put_0 a0 x1 w)
theorem S_Mo_put {g : Gp} {l : Launch} (a0 : Nat) (x1 : Int) (w : Wd) (r : Wd) (h : Mo_put a0 x1 w = some r) : (wsh w a0).1 = 12 ∧ ∀ D, 0 ≤ D → Rn g l D 147 0 [(0, .inr (.inr a0)), (1, .inl x1)] [] w none r := by
  obtain ⟨hg, h⟩ := gd_some h
  exact ⟨hg, fun D hD => rn_sub [0, 1] rfl (s_Mo_put_0 hD a0 x1 w r h)⟩
def Mo_feed_0 (a0 : Nat) (x1 : Int) (x2 : Int) (x3 : Int) (x4 : Int) (x5 : Int) (w : Wd) : Option (Int × Wd) :=
  (fgI w a0 12 2).bind fun v1 =>
  if ((w32 (v1 + 20)) : Int) ≤ 2000 then
    (Mo_put a0 x1 w).bind fun r17 =>
    (Mo_put a0 x2 r17).bind fun r22 =>
    (Mo_put a0 x3 r22).bind fun r27 =>
    (Mo_put a0 x4 r27).bind fun r33 =>
    (Mo_put a0 x5 r33).bind fun r39 =>
    (fgI r39 a0 12 2).bind fun v43 =>
    some (v43, r39)
  else
    some ((-1), w)
theorem s_Mo_feed_0 {g : Gp} {l : Launch} {D : Nat} (hD : 1 ≤ D) (a0 : Nat) (x1 : Int) (x2 : Int) (x3 : Int) (x4 : Int) (x5 : Int) (w : Wd) (r : Int × Wd) (h : Mo_feed_0 a0 x1 x2 x3 x4 x5 w = some r) : Rn g l D 146 0 [(0, .inr (.inr a0)), (1, .inl x1), (2, .inl x2), (3, .inl x3), (4, .inl x4), (5, .inl x5)] [] w (some (.inl r.1)) r.2 := by
  obtain ⟨D, rfl⟩ : ∃ D1, D = D1 + 1 := ⟨D - 1, by omega⟩
  unfold Mo_feed_0 at h
  refine fr_aload_n i146_0 rfl ?_
  obtain ⟨v1, h1, h⟩ := Option.bind_eq_some_iff.mp h
  refine fr_gI (k := 2) i146_1 tf12_2 h1 ?_
  refine rn_bipush i146_4 ?_
  refine rn_iadd i146_6 ?_
  refine rn_sipush i146_7 ?_
  by_cases c10 : ((w32 (v1 + 20)) : Int) ≤ 2000
  · rw [if_pos c10] at h
    refine rn_icmp_le_t i146_10 c10 ?_
    refine fr_aload_n i146_15 rfl ?_
    refine rn_iload_n i146_16 rfl ?_
    obtain ⟨r17, h17, h⟩ := Option.bind_eq_some_iff.mp h
    obtain ⟨g17, c17⟩ := S_Mo_put a0 x1 w r17 h17
    refine fr_callV (a := a0) (As := [.inl x1]) (st := []) i146_17 (cq147 a0 x1) rfl (Nat.le_of_ble_eq_true rfl) g17 (c17 _ (by omega)) ?_
    refine fr_aload_n i146_20 rfl ?_
    refine rn_iload_n i146_21 rfl ?_
    obtain ⟨r22, h22, h⟩ := Option.bind_eq_some_iff.mp h
    obtain ⟨g22, c22⟩ := S_Mo_put a0 x2 r17 r22 h22
    refine fr_callV (a := a0) (As := [.inl x2]) (st := []) i146_22 (cq147 a0 x2) rfl (Nat.le_of_ble_eq_true rfl) g22 (c22 _ (by omega)) ?_
    refine fr_aload_n i146_25 rfl ?_
    refine rn_iload_n i146_26 rfl ?_
    obtain ⟨r27, h27, h⟩ := Option.bind_eq_some_iff.mp h
    obtain ⟨g27, c27⟩ := S_Mo_put a0 x3 r22 r27 h27
    refine fr_callV (a := a0) (As := [.inl x3]) (st := []) i146_27 (cq147 a0 x3) rfl (Nat.le_of_ble_eq_true rfl) g27 (c27 _ (by omega)) ?_
    refine fr_aload_n i146_30 rfl ?_
    refine rn_iload i146_31 rfl ?_
    obtain ⟨r33, h33, h⟩ := Option.bind_eq_some_iff.mp h
    obtain ⟨g33, c33⟩ := S_Mo_put a0 x4 r27 r33 h33
    refine fr_callV (a := a0) (As := [.inl x4]) (st := []) i146_33 (cq147 a0 x4) rfl (Nat.le_of_ble_eq_true rfl) g33 (c33 _ (by omega)) ?_
    refine fr_aload_n i146_36 rfl ?_
    refine rn_iload i146_37 rfl ?_
    obtain ⟨r39, h39, h⟩ := Option.bind_eq_some_iff.mp h
    obtain ⟨g39, c39⟩ := S_Mo_put a0 x5 r33 r39 h39
    refine fr_callV (a := a0) (As := [.inl x5]) (st := []) i146_39 (cq147 a0 x5) rfl (Nat.le_of_ble_eq_true rfl) g39 (c39 _ (by omega)) ?_
    refine fr_aload_n i146_42 rfl ?_
    obtain ⟨v43, h43, h⟩ := Option.bind_eq_some_iff.mp h
    refine fr_gI (k := 2) i146_43 tf12_2 h43 ?_
    obtain rfl := Option.some.inj h
    exact rn_retI i146_46 mr146
  · rw [if_neg c10] at h
    refine rn_icmp_le_f i146_10 c10 ?_
    refine rn_iconst i146_13 ?_
    obtain rfl := Option.some.inj h
    exact rn_retI i146_14 mr146
/-- HandHeirsModel.feed(IIIII)I -/
def Mo_feed (a0 : Nat) (x1 : Int) (x2 : Int) (x3 : Int) (x4 : Int) (x5 : Int) (w : Wd) : Option (Int × Wd) := gd 12 w a0 (Mo_feed_0 a0 x1 x2 x3 x4 x5 w)
theorem S_Mo_feed {g : Gp} {l : Launch} (a0 : Nat) (x1 : Int) (x2 : Int) (x3 : Int) (x4 : Int) (x5 : Int) (w : Wd) (r : Int × Wd) (h : Mo_feed a0 x1 x2 x3 x4 x5 w = some r) : (wsh w a0).1 = 12 ∧ ∀ D, 1 ≤ D → Rn g l D 146 0 [(0, .inr (.inr a0)), (1, .inl x1), (2, .inl x2), (3, .inl x3), (4, .inl x4), (5, .inl x5)] [] w (some (.inl r.1)) r.2 := by
  obtain ⟨hg, h⟩ := gd_some h
  exact ⟨hg, fun D hD => rn_sub [0, 1, 2, 3, 4, 5] rfl (s_Mo_feed_0 hD a0 x1 x2 x3 x4 x5 w r h)⟩
def Mo_back_12 (w : Wd) : Option (Int × Wd) :=
  some ((-1), w)
theorem s_Mo_back_12 {g : Gp} {l : Launch} {D : Nat} (hD : 0 ≤ D) (w : Wd) (r : Int × Wd) (h : Mo_back_12 w = some r) : Rn g l D 148 12 [] [] w (some (.inl r.1)) r.2 := by
  unfold Mo_back_12 at h
  refine rn_iconst i148_12 ?_
  obtain rfl := Option.some.inj h
  exact rn_retI i148_13 mr148
def Mo_back_0 (a0 : Nat) (x1 : Int) (w : Wd) : Option (Int × Wd) :=
  if (x1 : Int) < 0 then
    Mo_back_12 w
  else
    (fgI w a0 12 2).bind fun v6 =>
    if (x1 : Int) ≤ v6 then
      (fgI w a0 12 2).bind fun v16 =>
      (fpI w a0 12 2 (w32 (v16 - x1))).bind fun w21 =>
      (fgI w21 a0 12 2).bind fun v25 =>
      some (v25, w21)
    else
      Mo_back_12 w
theorem s_Mo_back_0 {g : Gp} {l : Launch} {D : Nat} (hD : 0 ≤ D) (a0 : Nat) (x1 : Int) (w : Wd) (r : Int × Wd) (h : Mo_back_0 a0 x1 w = some r) : Rn g l D 148 0 [(0, .inr (.inr a0)), (1, .inl x1)] [] w (some (.inl r.1)) r.2 := by
  unfold Mo_back_0 at h
  refine rn_iload_n i148_0 rfl ?_
  by_cases c1 : (x1 : Int) < 0
  · rw [if_pos c1] at h
    refine rn_if_lt_t i148_1 c1 ?_
    exact rn_sub [] rfl (s_Mo_back_12 hD w r h)
  · rw [if_neg c1] at h
    refine rn_if_lt_f i148_1 c1 ?_
    refine rn_iload_n i148_4 rfl ?_
    refine fr_aload_n i148_5 rfl ?_
    obtain ⟨v6, h6, h⟩ := Option.bind_eq_some_iff.mp h
    refine fr_gI (k := 2) i148_6 tf12_2 h6 ?_
    by_cases c9 : (x1 : Int) ≤ v6
    · rw [if_pos c9] at h
      refine rn_icmp_le_t i148_9 c9 ?_
      refine fr_aload_n i148_14 rfl ?_
      refine rn_dup i148_15 rfl ?_
      obtain ⟨v16, h16, h⟩ := Option.bind_eq_some_iff.mp h
      refine fr_gI (k := 2) i148_16 tf12_2 h16 ?_
      refine rn_iload_n i148_19 rfl ?_
      refine rn_isub i148_20 ?_
      obtain ⟨w21, h21, h⟩ := Option.bind_eq_some_iff.mp h
      refine fr_pI (k := 2) i148_21 (pf12_2 148) h21 ?_
      refine fr_aload_n i148_24 rfl ?_
      obtain ⟨v25, h25, h⟩ := Option.bind_eq_some_iff.mp h
      refine fr_gI (k := 2) i148_25 tf12_2 h25 ?_
      obtain rfl := Option.some.inj h
      exact rn_retI i148_28 mr148
    · rw [if_neg c9] at h
      refine rn_icmp_le_f i148_9 c9 ?_
      exact rn_sub [] rfl (s_Mo_back_12 hD w r h)
/-- HandHeirsModel.back(I)I -/
def Mo_back (a0 : Nat) (x1 : Int) (w : Wd) : Option (Int × Wd) := gd 12 w a0 (Mo_back_0 a0 x1 w)
theorem S_Mo_back {g : Gp} {l : Launch} (a0 : Nat) (x1 : Int) (w : Wd) (r : Int × Wd) (h : Mo_back a0 x1 w = some r) : (wsh w a0).1 = 12 ∧ ∀ D, 0 ≤ D → Rn g l D 148 0 [(0, .inr (.inr a0)), (1, .inl x1)] [] w (some (.inl r.1)) r.2 := by
  obtain ⟨hg, h⟩ := gd_some h
  exact ⟨hg, fun D hD => rn_sub [0, 1] rfl (s_Mo_back_0 hD a0 x1 w r h)⟩
def Mo_byteAt_22 (s0 : Int) (w : Wd) : Option (Int × Wd) :=
  some (s0, w)
theorem s_Mo_byteAt_22 {g : Gp} {l : Launch} {D : Nat} (hD : 0 ≤ D) (s0 : Int) (w : Wd) (r : Int × Wd) (h : Mo_byteAt_22 s0 w = some r) : Rn g l D 149 22 [] [.inl s0] w (some (.inl r.1)) r.2 := by
  unfold Mo_byteAt_22 at h
  obtain rfl := Option.some.inj h
  exact rn_retI i149_22 mr149
def Mo_byteAt_0 (a0 : Nat) (x1 : Int) (w : Wd) : Option (Int × Wd) :=
  (fgI w a0 12 4).bind fun v2 =>
  if (v2 : Int) ≤ x1 then
    Mo_byteAt_22 0 w
  else
    (fgR w a0 12 3).bind fun v9 =>
    (rdB w v9 x1).bind fun v13 =>
    Mo_byteAt_22 (oand v13 255) w
theorem s_Mo_byteAt_0 {g : Gp} {l : Launch} {D : Nat} (hD : 0 ≤ D) (a0 : Nat) (x1 : Int) (w : Wd) (r : Int × Wd) (h : Mo_byteAt_0 a0 x1 w = some r) : Rn g l D 149 0 [(0, .inr (.inr a0)), (1, .inl x1)] [] w (some (.inl r.1)) r.2 := by
  unfold Mo_byteAt_0 at h
  refine rn_iload_n i149_0 rfl ?_
  refine fr_aload_n i149_1 rfl ?_
  obtain ⟨v2, h2, h⟩ := Option.bind_eq_some_iff.mp h
  refine fr_gI (k := 4) i149_2 tf12_4 h2 ?_
  by_cases c5 : (v2 : Int) ≤ x1
  · rw [if_pos c5] at h
    refine rn_icmp_ge_t i149_5 c5 ?_
    refine rn_iconst i149_21 ?_
    exact rn_sub [] rfl (s_Mo_byteAt_22 hD 0 w r h)
  · rw [if_neg c5] at h
    refine rn_icmp_ge_f i149_5 c5 ?_
    refine fr_aload_n i149_8 rfl ?_
    obtain ⟨v9, h9, h⟩ := Option.bind_eq_some_iff.mp h
    refine fr_gR (k := 3) i149_9 tf12_3 h9 ?_
    refine rn_iload_n i149_12 rfl ?_
    obtain ⟨v13, h13, h⟩ := Option.bind_eq_some_iff.mp h
    refine rn_bald i149_13 h13 ?_
    refine rn_sipush i149_14 ?_
    refine rn_iand i149_17 ?_
    refine rn_goto i149_18 ?_
    exact rn_sub [] rfl (s_Mo_byteAt_22 hD (oand v13 255) w r h)
/-- HandHeirsModel.byteAt(I)I -/
def Mo_byteAt (a0 : Nat) (x1 : Int) (w : Wd) : Option (Int × Wd) := gd 12 w a0 (Mo_byteAt_0 a0 x1 w)
theorem S_Mo_byteAt {g : Gp} {l : Launch} (a0 : Nat) (x1 : Int) (w : Wd) (r : Int × Wd) (h : Mo_byteAt a0 x1 w = some r) : (wsh w a0).1 = 12 ∧ ∀ D, 0 ≤ D → Rn g l D 149 0 [(0, .inr (.inr a0)), (1, .inl x1)] [] w (some (.inl r.1)) r.2 := by
  obtain ⟨hg, h⟩ := gd_some h
  exact ⟨hg, fun D hD => rn_sub [0, 1] rfl (s_Mo_byteAt_0 hD a0 x1 w r h)⟩
def Mo_isDigit_17 (s0 : Int) (w : Wd) : Option (Int × Wd) :=
  rZ s0 w
theorem s_Mo_isDigit_17 {g : Gp} {l : Launch} {D : Nat} (hD : 0 ≤ D) (s0 : Int) (w : Wd) (r : Int × Wd) (h : Mo_isDigit_17 s0 w = some r) : Rn g l D 150 17 [] [.inl s0] w (some (.inl r.1)) r.2 := by
  unfold Mo_isDigit_17 at h
  exact fr_retZ i150_17 mr150 h
def Mo_isDigit_16 (w : Wd) : Option (Int × Wd) :=
  Mo_isDigit_17 0 w
theorem s_Mo_isDigit_16 {g : Gp} {l : Launch} {D : Nat} (hD : 0 ≤ D) (w : Wd) (r : Int × Wd) (h : Mo_isDigit_16 w = some r) : Rn g l D 150 16 [] [] w (some (.inl r.1)) r.2 := by
  unfold Mo_isDigit_16 at h
  refine rn_iconst i150_16 ?_
  exact rn_sub [] rfl (s_Mo_isDigit_17 hD 0 w r h)
def Mo_isDigit_0 (x0 : Int) (w : Wd) : Option (Int × Wd) :=
  if (x0 : Int) < 48 then
    Mo_isDigit_16 w
  else
    if (57 : Int) < x0 then
      Mo_isDigit_16 w
    else
      Mo_isDigit_17 1 w
theorem s_Mo_isDigit_0 {g : Gp} {l : Launch} {D : Nat} (hD : 0 ≤ D) (x0 : Int) (w : Wd) (r : Int × Wd) (h : Mo_isDigit_0 x0 w = some r) : Rn g l D 150 0 [(0, .inl x0)] [] w (some (.inl r.1)) r.2 := by
  unfold Mo_isDigit_0 at h
  refine rn_iload_n i150_0 rfl ?_
  refine rn_bipush i150_1 ?_
  by_cases c3 : (x0 : Int) < 48
  · rw [if_pos c3] at h
    refine rn_icmp_lt_t i150_3 c3 ?_
    exact rn_sub [] rfl (s_Mo_isDigit_16 hD w r h)
  · rw [if_neg c3] at h
    refine rn_icmp_lt_f i150_3 c3 ?_
    refine rn_iload_n i150_6 rfl ?_
    refine rn_bipush i150_7 ?_
    by_cases c9 : (57 : Int) < x0
    · rw [if_pos c9] at h
      refine rn_icmp_gt_t i150_9 c9 ?_
      exact rn_sub [] rfl (s_Mo_isDigit_16 hD w r h)
    · rw [if_neg c9] at h
      refine rn_icmp_gt_f i150_9 c9 ?_
      refine rn_iconst i150_12 ?_
      refine rn_goto i150_13 ?_
      exact rn_sub [] rfl (s_Mo_isDigit_17 hD 1 w r h)
/-- HandHeirsModel.isDigit(I)Z -/
def Mo_isDigit (x0 : Int) (w : Wd) : Option (Int × Wd) := Mo_isDigit_0 x0 w
theorem S_Mo_isDigit {g : Gp} {l : Launch} (x0 : Int) (w : Wd) (r : Int × Wd) (h : Mo_isDigit x0 w = some r) : ∀ D, 0 ≤ D → Rn g l D 150 0 [(0, .inl x0)] [] w (some (.inl r.1)) r.2 := fun D hD => rn_sub [0] rfl (s_Mo_isDigit_0 hD x0 w r h)
def Mo_isLetter_17 (s0 : Int) (w : Wd) : Option (Int × Wd) :=
  rZ s0 w
theorem s_Mo_isLetter_17 {g : Gp} {l : Launch} {D : Nat} (hD : 0 ≤ D) (s0 : Int) (w : Wd) (r : Int × Wd) (h : Mo_isLetter_17 s0 w = some r) : Rn g l D 151 17 [] [.inl s0] w (some (.inl r.1)) r.2 := by
  unfold Mo_isLetter_17 at h
  exact fr_retZ i151_17 mr151 h
def Mo_isLetter_16 (w : Wd) : Option (Int × Wd) :=
  Mo_isLetter_17 0 w
theorem s_Mo_isLetter_16 {g : Gp} {l : Launch} {D : Nat} (hD : 0 ≤ D) (w : Wd) (r : Int × Wd) (h : Mo_isLetter_16 w = some r) : Rn g l D 151 16 [] [] w (some (.inl r.1)) r.2 := by
  unfold Mo_isLetter_16 at h
  refine rn_iconst i151_16 ?_
  exact rn_sub [] rfl (s_Mo_isLetter_17 hD 0 w r h)
def Mo_isLetter_0 (x0 : Int) (w : Wd) : Option (Int × Wd) :=
  if (x0 : Int) < 97 then
    Mo_isLetter_16 w
  else
    if (122 : Int) < x0 then
      Mo_isLetter_16 w
    else
      Mo_isLetter_17 1 w
theorem s_Mo_isLetter_0 {g : Gp} {l : Launch} {D : Nat} (hD : 0 ≤ D) (x0 : Int) (w : Wd) (r : Int × Wd) (h : Mo_isLetter_0 x0 w = some r) : Rn g l D 151 0 [(0, .inl x0)] [] w (some (.inl r.1)) r.2 := by
  unfold Mo_isLetter_0 at h
  refine rn_iload_n i151_0 rfl ?_
  refine rn_bipush i151_1 ?_
  by_cases c3 : (x0 : Int) < 97
  · rw [if_pos c3] at h
    refine rn_icmp_lt_t i151_3 c3 ?_
    exact rn_sub [] rfl (s_Mo_isLetter_16 hD w r h)
  · rw [if_neg c3] at h
    refine rn_icmp_lt_f i151_3 c3 ?_
    refine rn_iload_n i151_6 rfl ?_
    refine rn_bipush i151_7 ?_
    by_cases c9 : (122 : Int) < x0
    · rw [if_pos c9] at h
      refine rn_icmp_gt_t i151_9 c9 ?_
      exact rn_sub [] rfl (s_Mo_isLetter_16 hD w r h)
    · rw [if_neg c9] at h
      refine rn_icmp_gt_f i151_9 c9 ?_
      refine rn_iconst i151_12 ?_
      refine rn_goto i151_13 ?_
      exact rn_sub [] rfl (s_Mo_isLetter_17 hD 1 w r h)
/-- HandHeirsModel.isLetter(I)Z -/
def Mo_isLetter (x0 : Int) (w : Wd) : Option (Int × Wd) := Mo_isLetter_0 x0 w
theorem S_Mo_isLetter {g : Gp} {l : Launch} (x0 : Int) (w : Wd) (r : Int × Wd) (h : Mo_isLetter x0 w = some r) : ∀ D, 0 ≤ D → Rn g l D 151 0 [(0, .inl x0)] [] w (some (.inl r.1)) r.2 := fun D hD => rn_sub [0] rfl (s_Mo_isLetter_0 hD x0 w r h)
def Mo_token_0 (a0 : Nat) (x1 : Int) (x2 : Int) (x3 : Int) (x4 : Int) (w : Wd) : Option (Wd) :=
  (fgR w a0 12 5).bind fun v1 =>
  (fgI w a0 12 10).bind fun v5 =>
  (wrI w v1 v5 x1).bind fun w9 =>
  (fgR w9 a0 12 6).bind fun v11 =>
  (fgI w9 a0 12 10).bind fun v15 =>
  (wrI w9 v11 v15 x2).bind fun w19 =>
  (fgR w19 a0 12 7).bind fun v21 =>
  (fgI w19 a0 12 10).bind fun v25 =>
  (wrI w19 v21 v25 x3).bind fun w29 =>
  (fgR w29 a0 12 8).bind fun v31 =>
  (fgI w29 a0 12 10).bind fun v35 =>
  (wrL w29 v31 v35 x4).bind fun w40 =>
  (fgI w40 a0 12 10).bind fun v43 =>
  (fpI w40 a0 12 10 (w32 (v43 + 1))).bind fun w48 =>
  some w48
theorem s_Mo_token_0 {g : Gp} {l : Launch} {D : Nat} (hD : 0 ≤ D) (a0 : Nat) (x1 : Int) (x2 : Int) (x3 : Int) (x4 : Int) (w : Wd) (r : Wd) (h : Mo_token_0 a0 x1 x2 x3 x4 w = some r) : Rn g l D 154 0 [(0, .inr (.inr a0)), (1, .inl x1), (2, .inl x2), (3, .inl x3), (4, .inr (.inl x4))] [] w none r := by
  unfold Mo_token_0 at h
  refine fr_aload_n i154_0 rfl ?_
  obtain ⟨v1, h1, h⟩ := Option.bind_eq_some_iff.mp h
  refine fr_gR (k := 5) i154_1 tf12_5 h1 ?_
  refine fr_aload_n i154_4 rfl ?_
  obtain ⟨v5, h5, h⟩ := Option.bind_eq_some_iff.mp h
  refine fr_gI (k := 10) i154_5 tf12_10 h5 ?_
  refine rn_iload_n i154_8 rfl ?_
  obtain ⟨w9, h9, h⟩ := Option.bind_eq_some_iff.mp h
  refine rn_iast i154_9 h9 ?_
  refine fr_aload_n i154_10 rfl ?_
  obtain ⟨v11, h11, h⟩ := Option.bind_eq_some_iff.mp h
  refine fr_gR (k := 6) i154_11 tf12_6 h11 ?_
  refine fr_aload_n i154_14 rfl ?_
  obtain ⟨v15, h15, h⟩ := Option.bind_eq_some_iff.mp h
  refine fr_gI (k := 10) i154_15 tf12_10 h15 ?_
  refine rn_iload_n i154_18 rfl ?_
  obtain ⟨w19, h19, h⟩ := Option.bind_eq_some_iff.mp h
  refine rn_iast i154_19 h19 ?_
  refine fr_aload_n i154_20 rfl ?_
  obtain ⟨v21, h21, h⟩ := Option.bind_eq_some_iff.mp h
  refine fr_gR (k := 7) i154_21 tf12_7 h21 ?_
  refine fr_aload_n i154_24 rfl ?_
  obtain ⟨v25, h25, h⟩ := Option.bind_eq_some_iff.mp h
  refine fr_gI (k := 10) i154_25 tf12_10 h25 ?_
  refine rn_iload_n i154_28 rfl ?_
  obtain ⟨w29, h29, h⟩ := Option.bind_eq_some_iff.mp h
  refine rn_iast i154_29 h29 ?_
  refine fr_aload_n i154_30 rfl ?_
  obtain ⟨v31, h31, h⟩ := Option.bind_eq_some_iff.mp h
  refine fr_gR (k := 8) i154_31 tf12_8 h31 ?_
  refine fr_aload_n i154_34 rfl ?_
  obtain ⟨v35, h35, h⟩ := Option.bind_eq_some_iff.mp h
  refine fr_gI (k := 10) i154_35 tf12_10 h35 ?_
  refine rn_lload i154_38 rfl ?_
  obtain ⟨w40, h40, h⟩ := Option.bind_eq_some_iff.mp h
  refine rn_last i154_40 h40 ?_
  refine fr_aload_n i154_41 rfl ?_
  refine rn_dup i154_42 rfl ?_
  obtain ⟨v43, h43, h⟩ := Option.bind_eq_some_iff.mp h
  refine fr_gI (k := 10) i154_43 tf12_10 h43 ?_
  refine rn_iconst i154_46 ?_
  refine rn_iadd i154_47 ?_
  obtain ⟨w48, h48, h⟩ := Option.bind_eq_some_iff.mp h
  refine fr_pI (k := 10) i154_48 (pf12_10 154) h48 ?_
  obtain rfl := Option.some.inj h
  exact rn_ret i154_51 mr154
/-- HandHeirsModel.token(IIIJ)V -/
def Mo_token (a0 : Nat) (x1 : Int) (x2 : Int) (x3 : Int) (x4 : Int) (w : Wd) : Option (Wd) := gd 12 w a0 (Mo_token_0 a0 x1 x2 x3 x4 w)
theorem S_Mo_token {g : Gp} {l : Launch} (a0 : Nat) (x1 : Int) (x2 : Int) (x3 : Int) (x4 : Int) (w : Wd) (r : Wd) (h : Mo_token a0 x1 x2 x3 x4 w = some r) : (wsh w a0).1 = 12 ∧ ∀ D, 0 ≤ D → Rn g l D 154 0 [(0, .inr (.inr a0)), (1, .inl x1), (2, .inl x2), (3, .inl x3), (4, .inr (.inl x4))] [] w none r := by
  obtain ⟨hg, h⟩ := gd_some h
  exact ⟨hg, fun D hD => rn_sub [0, 1, 2, 3, 4] rfl (s_Mo_token_0 hD a0 x1 x2 x3 x4 w r h)⟩
def Mo_sign_95 (a0 : Nat) (x1 : Int) (x4 : Int) (w : Wd) : Option (Int × Wd) :=
  (Mo_token a0 x4 x1 0 0 w).bind fun r101 =>
  some (1, r101)
theorem s_Mo_sign_95 {g : Gp} {l : Launch} {D : Nat} (hD : 1 ≤ D) (a0 : Nat) (x1 : Int) (x4 : Int) (w : Wd) (r : Int × Wd) (h : Mo_sign_95 a0 x1 x4 w = some r) : Rn g l D 156 95 [(0, .inr (.inr a0)), (1, .inl x1), (4, .inl x4)] [] w (some (.inl r.1)) r.2 := by
  obtain ⟨D, rfl⟩ : ∃ D1, D = D1 + 1 := ⟨D - 1, by omega⟩
  unfold Mo_sign_95 at h
  refine fr_aload_n i156_95 rfl ?_
  refine rn_iload i156_96 rfl ?_
  refine rn_iload_n i156_98 rfl ?_
  refine rn_iconst i156_99 ?_
  refine fr_lconst0 i156_100 ?_
  obtain ⟨r101, h101, h⟩ := Option.bind_eq_some_iff.mp h
  obtain ⟨g101, c101⟩ := S_Mo_token a0 x4 x1 0 0 w r101 h101
  refine fr_callV (a := a0) (As := [.inl x4, .inl x1, .inl 0, .inr (.inl 0)]) (st := []) i156_101 (cq154 a0 x4 x1 0 0) rfl (Nat.le_of_ble_eq_true rfl) g101 (c101 _ (by omega)) ?_
  refine rn_iconst i156_104 ?_
  obtain rfl := Option.some.inj h
  exact rn_retI i156_105 mr156
def Mo_sign_85 (a0 : Nat) (x1 : Int) (x2 : Int) (x4 : Int) (w : Wd) : Option (Int × Wd) :=
  if (x2 : Int) = 60 then
    Mo_sign_95 a0 x1 13 w
  else
    Mo_sign_95 a0 x1 x4 w
theorem s_Mo_sign_85 {g : Gp} {l : Launch} {D : Nat} (hD : 1 ≤ D) (a0 : Nat) (x1 : Int) (x2 : Int) (x4 : Int) (w : Wd) (r : Int × Wd) (h : Mo_sign_85 a0 x1 x2 x4 w = some r) : Rn g l D 156 85 [(0, .inr (.inr a0)), (1, .inl x1), (2, .inl x2), (4, .inl x4)] [] w (some (.inl r.1)) r.2 := by
  unfold Mo_sign_85 at h
  refine rn_iload_n i156_85 rfl ?_
  refine rn_bipush i156_86 ?_
  by_cases c88 : (x2 : Int) = 60
  · rw [if_pos c88] at h
    refine rn_icmp_ne_f i156_88 c88 ?_
    refine rn_bipush i156_91 ?_
    refine rn_istore (ls1 := [(4, .inl 13), (0, .inr (.inr a0)), (1, .inl x1), (2, .inl x2)]) i156_93 rfl ?_
    exact rn_sub [1, 2, 0] rfl (s_Mo_sign_95 hD a0 x1 13 w r h)
  · rw [if_neg c88] at h
    refine rn_icmp_ne_t i156_88 c88 ?_
    exact rn_sub [0, 1, 3] rfl (s_Mo_sign_95 hD a0 x1 x4 w r h)
def Mo_sign_75 (a0 : Nat) (x1 : Int) (x2 : Int) (x4 : Int) (w : Wd) : Option (Int × Wd) :=
  if (x2 : Int) = 47 then
    Mo_sign_85 a0 x1 x2 15 w
  else
    Mo_sign_85 a0 x1 x2 x4 w
theorem s_Mo_sign_75 {g : Gp} {l : Launch} {D : Nat} (hD : 1 ≤ D) (a0 : Nat) (x1 : Int) (x2 : Int) (x4 : Int) (w : Wd) (r : Int × Wd) (h : Mo_sign_75 a0 x1 x2 x4 w = some r) : Rn g l D 156 75 [(0, .inr (.inr a0)), (1, .inl x1), (2, .inl x2), (4, .inl x4)] [] w (some (.inl r.1)) r.2 := by
  unfold Mo_sign_75 at h
  refine rn_iload_n i156_75 rfl ?_
  refine rn_bipush i156_76 ?_
  by_cases c78 : (x2 : Int) = 47
  · rw [if_pos c78] at h
    refine rn_icmp_ne_f i156_78 c78 ?_
    refine rn_bipush i156_81 ?_
    refine rn_istore (ls1 := [(4, .inl 15), (0, .inr (.inr a0)), (1, .inl x1), (2, .inl x2)]) i156_83 rfl ?_
    exact rn_sub [1, 2, 3, 0] rfl (s_Mo_sign_85 hD a0 x1 x2 15 w r h)
  · rw [if_neg c78] at h
    refine rn_icmp_ne_t i156_78 c78 ?_
    exact rn_sub [0, 1, 2, 3] rfl (s_Mo_sign_85 hD a0 x1 x2 x4 w r h)
def Mo_sign_65 (a0 : Nat) (x1 : Int) (x2 : Int) (x4 : Int) (w : Wd) : Option (Int × Wd) :=
  if (x2 : Int) = 42 then
    Mo_sign_75 a0 x1 x2 10 w
  else
    Mo_sign_75 a0 x1 x2 x4 w
theorem s_Mo_sign_65 {g : Gp} {l : Launch} {D : Nat} (hD : 1 ≤ D) (a0 : Nat) (x1 : Int) (x2 : Int) (x4 : Int) (w : Wd) (r : Int × Wd) (h : Mo_sign_65 a0 x1 x2 x4 w = some r) : Rn g l D 156 65 [(0, .inr (.inr a0)), (1, .inl x1), (2, .inl x2), (4, .inl x4)] [] w (some (.inl r.1)) r.2 := by
  unfold Mo_sign_65 at h
  refine rn_iload_n i156_65 rfl ?_
  refine rn_bipush i156_66 ?_
  by_cases c68 : (x2 : Int) = 42
  · rw [if_pos c68] at h
    refine rn_icmp_ne_f i156_68 c68 ?_
    refine rn_bipush i156_71 ?_
    refine rn_istore (ls1 := [(4, .inl 10), (0, .inr (.inr a0)), (1, .inl x1), (2, .inl x2)]) i156_73 rfl ?_
    exact rn_sub [1, 2, 3, 0] rfl (s_Mo_sign_75 hD a0 x1 x2 10 w r h)
  · rw [if_neg c68] at h
    refine rn_icmp_ne_t i156_68 c68 ?_
    exact rn_sub [0, 1, 2, 3] rfl (s_Mo_sign_75 hD a0 x1 x2 x4 w r h)
def Mo_sign_55 (a0 : Nat) (x1 : Int) (x2 : Int) (x4 : Int) (w : Wd) : Option (Int × Wd) :=
  if (x2 : Int) = 45 then
    Mo_sign_65 a0 x1 x2 9 w
  else
    Mo_sign_65 a0 x1 x2 x4 w
theorem s_Mo_sign_55 {g : Gp} {l : Launch} {D : Nat} (hD : 1 ≤ D) (a0 : Nat) (x1 : Int) (x2 : Int) (x4 : Int) (w : Wd) (r : Int × Wd) (h : Mo_sign_55 a0 x1 x2 x4 w = some r) : Rn g l D 156 55 [(0, .inr (.inr a0)), (1, .inl x1), (2, .inl x2), (4, .inl x4)] [] w (some (.inl r.1)) r.2 := by
  unfold Mo_sign_55 at h
  refine rn_iload_n i156_55 rfl ?_
  refine rn_bipush i156_56 ?_
  by_cases c58 : (x2 : Int) = 45
  · rw [if_pos c58] at h
    refine rn_icmp_ne_f i156_58 c58 ?_
    refine rn_bipush i156_61 ?_
    refine rn_istore (ls1 := [(4, .inl 9), (0, .inr (.inr a0)), (1, .inl x1), (2, .inl x2)]) i156_63 rfl ?_
    exact rn_sub [1, 2, 3, 0] rfl (s_Mo_sign_65 hD a0 x1 x2 9 w r h)
  · rw [if_neg c58] at h
    refine rn_icmp_ne_t i156_58 c58 ?_
    exact rn_sub [0, 1, 2, 3] rfl (s_Mo_sign_65 hD a0 x1 x2 x4 w r h)
def Mo_sign_43 (a0 : Nat) (x1 : Int) (x2 : Int) (s0 : Int) (w : Wd) : Option (Int × Wd) :=
  if (x2 : Int) = 43 then
    Mo_sign_55 a0 x1 x2 8 w
  else
    Mo_sign_55 a0 x1 x2 s0 w
theorem s_Mo_sign_43 {g : Gp} {l : Launch} {D : Nat} (hD : 1 ≤ D) (a0 : Nat) (x1 : Int) (x2 : Int) (s0 : Int) (w : Wd) (r : Int × Wd) (h : Mo_sign_43 a0 x1 x2 s0 w = some r) : Rn g l D 156 43 [(0, .inr (.inr a0)), (1, .inl x1), (2, .inl x2)] [.inl s0] w (some (.inl r.1)) r.2 := by
  unfold Mo_sign_43 at h
  refine rn_istore (ls1 := [(4, .inl s0), (0, .inr (.inr a0)), (1, .inl x1), (2, .inl x2)]) i156_43 rfl ?_
  refine rn_iload_n i156_45 rfl ?_
  refine rn_bipush i156_46 ?_
  by_cases c48 : (x2 : Int) = 43
  · rw [if_pos c48] at h
    refine rn_icmp_ne_f i156_48 c48 ?_
    refine rn_bipush i156_51 ?_
    refine rn_istore (ls1 := [(4, .inl 8), (0, .inr (.inr a0)), (1, .inl x1), (2, .inl x2)]) i156_53 rfl ?_
    exact rn_sub [1, 2, 3, 0] rfl (s_Mo_sign_55 hD a0 x1 x2 8 w r h)
  · rw [if_neg c48] at h
    refine rn_icmp_ne_t i156_48 c48 ?_
    exact rn_sub [1, 2, 3, 0] rfl (s_Mo_sign_55 hD a0 x1 x2 s0 w r h)
def Mo_sign_0 (a0 : Nat) (x1 : Int) (x2 : Int) (w : Wd) : Option (Int × Wd) :=
  if (x2 : Int) = 59 then
    Mo_sign_43 a0 x1 x2 4 w
  else
    if (x2 : Int) = 61 then
      Mo_sign_43 a0 x1 x2 5 w
    else
      if (x2 : Int) = 40 then
        Mo_sign_43 a0 x1 x2 6 w
      else
        if (x2 : Int) = 41 then
          Mo_sign_43 a0 x1 x2 7 w
        else
          Mo_sign_43 a0 x1 x2 3 w
theorem s_Mo_sign_0 {g : Gp} {l : Launch} {D : Nat} (hD : 1 ≤ D) (a0 : Nat) (x1 : Int) (x2 : Int) (w : Wd) (r : Int × Wd) (h : Mo_sign_0 a0 x1 x2 w = some r) : Rn g l D 156 0 [(0, .inr (.inr a0)), (1, .inl x1), (2, .inl x2)] [] w (some (.inl r.1)) r.2 := by
  unfold Mo_sign_0 at h
  refine rn_iload_n i156_0 rfl ?_
  refine rn_bipush i156_1 ?_
  by_cases c3 : (x2 : Int) = 59
  · rw [if_pos c3] at h
    refine rn_icmp_ne_f i156_3 c3 ?_
    refine rn_iconst i156_6 ?_
    refine rn_goto i156_7 ?_
    exact rn_sub [0, 1, 2] rfl (s_Mo_sign_43 hD a0 x1 x2 4 w r h)
  · rw [if_neg c3] at h
    refine rn_icmp_ne_t i156_3 c3 ?_
    refine rn_iload_n i156_10 rfl ?_
    refine rn_bipush i156_11 ?_
    by_cases c13 : (x2 : Int) = 61
    · rw [if_pos c13] at h
      refine rn_icmp_ne_f i156_13 c13 ?_
      refine rn_iconst i156_16 ?_
      refine rn_goto i156_17 ?_
      exact rn_sub [0, 1, 2] rfl (s_Mo_sign_43 hD a0 x1 x2 5 w r h)
    · rw [if_neg c13] at h
      refine rn_icmp_ne_t i156_13 c13 ?_
      refine rn_iload_n i156_20 rfl ?_
      refine rn_bipush i156_21 ?_
      by_cases c23 : (x2 : Int) = 40
      · rw [if_pos c23] at h
        refine rn_icmp_ne_f i156_23 c23 ?_
        refine rn_bipush i156_26 ?_
        refine rn_goto i156_28 ?_
        exact rn_sub [0, 1, 2] rfl (s_Mo_sign_43 hD a0 x1 x2 6 w r h)
      · rw [if_neg c23] at h
        refine rn_icmp_ne_t i156_23 c23 ?_
        refine rn_iload_n i156_31 rfl ?_
        refine rn_bipush i156_32 ?_
        by_cases c34 : (x2 : Int) = 41
        · rw [if_pos c34] at h
          refine rn_icmp_ne_f i156_34 c34 ?_
          refine rn_bipush i156_37 ?_
          refine rn_goto i156_39 ?_
          exact rn_sub [0, 1, 2] rfl (s_Mo_sign_43 hD a0 x1 x2 7 w r h)
        · rw [if_neg c34] at h
          refine rn_icmp_ne_t i156_34 c34 ?_
          refine rn_iconst i156_42 ?_
          exact rn_sub [0, 1, 2] rfl (s_Mo_sign_43 hD a0 x1 x2 3 w r h)
/-- HandHeirsModel.sign(III)I -/
def Mo_sign (a0 : Nat) (x1 : Int) (x2 : Int) (x3 : Int) (w : Wd) : Option (Int × Wd) := gd 12 w a0 (Mo_sign_0 a0 x1 x2 w)
theorem S_Mo_sign {g : Gp} {l : Launch} (a0 : Nat) (x1 : Int) (x2 : Int) (x3 : Int) (w : Wd) (r : Int × Wd) (h : Mo_sign a0 x1 x2 x3 w = some r) : (wsh w a0).1 = 12 ∧ ∀ D, 1 ≤ D → Rn g l D 156 0 [(0, .inr (.inr a0)), (1, .inl x1), (2, .inl x2), (3, .inl x3)] [] w (some (.inl r.1)) r.2 := by
  obtain ⟨hg, h⟩ := gd_some h
  exact ⟨hg, fun D hD => rn_sub [0, 1, 2] rfl (s_Mo_sign_0 hD a0 x1 x2 w r h)⟩
def Mo_cut_31 (a0 : Nat) (w : Wd) : Option (Wd) :=
  (fgI w a0 12 4).bind fun v34 =>
  (Mo_token a0 0 v34 0 0 w).bind fun r39 =>
  some r39
theorem s_Mo_cut_31 {g : Gp} {l : Launch} {D : Nat} (hD : 2 ≤ D) (a0 : Nat) (w : Wd) (r : Wd) (h : Mo_cut_31 a0 w = some r) : Rn g l D 155 31 [(0, .inr (.inr a0))] [] w none r := by
  obtain ⟨D, rfl⟩ : ∃ D1, D = D1 + 1 := ⟨D - 1, by omega⟩
  unfold Mo_cut_31 at h
  refine fr_aload_n i155_31 rfl ?_
  refine rn_iconst i155_32 ?_
  refine fr_aload_n i155_33 rfl ?_
  obtain ⟨v34, h34, h⟩ := Option.bind_eq_some_iff.mp h
  refine fr_gI (k := 4) i155_34 tf12_4 h34 ?_
  refine rn_iconst i155_37 ?_
  refine fr_lconst0 i155_38 ?_
  obtain ⟨r39, h39, h⟩ := Option.bind_eq_some_iff.mp h
  obtain ⟨g39, c39⟩ := S_Mo_token a0 0 v34 0 0 w r39 h39
  refine fr_callV (a := a0) (As := [.inl 0, .inl v34, .inl 0, .inr (.inl 0)]) (st := []) i155_39 (cq154 a0 0 v34 0 0) rfl (Nat.le_of_ble_eq_true rfl) g39 (c39 _ (by omega)) ?_
  obtain rfl := Option.some.inj h
  exact rn_ret i155_42 mr155
def Mo_cut_291 (k7 : Nat → Int → Wd → Option (Wd)) (a0 : Nat) (x1 : Int) (w : Wd) : Option (Wd) :=
  k7 a0 x1 w
theorem s_Mo_cut_291 {g : Gp} {l : Launch} {D : Nat} (hD : 2 ≤ D) (k7 : Nat → Int → Wd → Option (Wd)) (hk7 : ∀ (a0 : Nat) (x1 : Int) (w : Wd) (r : Wd), k7 a0 x1 w = some r → Rn g l D 155 7 [(0, .inr (.inr a0)), (1, .inl x1)] [] w none r) (a0 : Nat) (x1 : Int) (w : Wd) (r : Wd) (h : Mo_cut_291 k7 a0 x1 w = some r) : Rn g l D 155 291 [(0, .inr (.inr a0)), (1, .inl x1)] [] w none r := by
  unfold Mo_cut_291 at h
  refine rn_goto i155_291 ?_
  exact rn_sub [0, 1] rfl (hk7 a0 x1 w r h)
def Mo_cut_67 (k7 : Nat → Int → Wd → Option (Wd)) (a0 : Nat) (x1 : Int) (w : Wd) : Option (Wd) :=
  Mo_cut_291 k7 a0 (w32 (x1 + 1)) w
theorem s_Mo_cut_67 {g : Gp} {l : Launch} {D : Nat} (hD : 2 ≤ D) (k7 : Nat → Int → Wd → Option (Wd)) (hk7 : ∀ (a0 : Nat) (x1 : Int) (w : Wd) (r : Wd), k7 a0 x1 w = some r → Rn g l D 155 7 [(0, .inr (.inr a0)), (1, .inl x1)] [] w none r) (a0 : Nat) (x1 : Int) (w : Wd) (r : Wd) (h : Mo_cut_67 k7 a0 x1 w = some r) : Rn g l D 155 67 [(0, .inr (.inr a0)), (1, .inl x1)] [] w none r := by
  unfold Mo_cut_67 at h
  refine rn_iinc (ls1 := [(1, .inl (w32 (x1 + 1))), (0, .inr (.inr a0))]) i155_67 rfl rfl ?_
  refine rn_goto i155_70 ?_
  exact rn_sub [1, 0] rfl (s_Mo_cut_291 hD k7 hk7 a0 (w32 (x1 + 1)) w r h)
def Mo_cut_118 (k7 : Nat → Int → Wd → Option (Wd)) (k85 : Nat → Int → Int → Int → Wd → Option (Wd)) (a0 : Nat) (x1 : Int) (x3 : Int) (x4 : Int) (w : Wd) : Option (Wd) :=
  k85 a0 x1 (w32 (x3 + 1)) x4 w
theorem s_Mo_cut_118 {g : Gp} {l : Launch} {D : Nat} (hD : 2 ≤ D) (k7 : Nat → Int → Wd → Option (Wd)) (hk7 : ∀ (a0 : Nat) (x1 : Int) (w : Wd) (r : Wd), k7 a0 x1 w = some r → Rn g l D 155 7 [(0, .inr (.inr a0)), (1, .inl x1)] [] w none r) (k85 : Nat → Int → Int → Int → Wd → Option (Wd)) (hk85 : ∀ (a0 : Nat) (x1 : Int) (x3 : Int) (x4 : Int) (w : Wd) (r : Wd), k85 a0 x1 x3 x4 w = some r → Rn g l D 155 85 [(0, .inr (.inr a0)), (1, .inl x1), (3, .inl x3), (4, .inr (.inl x4))] [] w none r) (a0 : Nat) (x1 : Int) (x3 : Int) (x4 : Int) (w : Wd) (r : Wd) (h : Mo_cut_118 k7 k85 a0 x1 x3 x4 w = some r) : Rn g l D 155 118 [(0, .inr (.inr a0)), (1, .inl x1), (3, .inl x3), (4, .inr (.inl x4))] [] w none r := by
  unfold Mo_cut_118 at h
  refine rn_iinc (ls1 := [(3, .inl (w32 (x3 + 1))), (0, .inr (.inr a0)), (1, .inl x1), (4, .inr (.inl x4))]) i155_118 rfl rfl ?_
  refine rn_goto i155_121 ?_
  exact rn_sub [1, 2, 0, 3] rfl (hk85 a0 x1 (w32 (x3 + 1)) x4 w r h)
def Mo_cut_173 (k7 : Nat → Int → Wd → Option (Wd)) (k146 : Nat → Int → Int → Int → Int → Int → Wd → Option (Wd)) (a0 : Nat) (x1 : Int) (x3 : Int) (x4 : Int) (x6 : Int) (x7 : Int) (w : Wd) : Option (Wd) :=
  k146 a0 x1 x3 x4 x6 (w32 (x7 + 1)) w
theorem s_Mo_cut_173 {g : Gp} {l : Launch} {D : Nat} (hD : 2 ≤ D) (k7 : Nat → Int → Wd → Option (Wd)) (hk7 : ∀ (a0 : Nat) (x1 : Int) (w : Wd) (r : Wd), k7 a0 x1 w = some r → Rn g l D 155 7 [(0, .inr (.inr a0)), (1, .inl x1)] [] w none r) (k146 : Nat → Int → Int → Int → Int → Int → Wd → Option (Wd)) (hk146 : ∀ (a0 : Nat) (x1 : Int) (x3 : Int) (x4 : Int) (x6 : Int) (x7 : Int) (w : Wd) (r : Wd), k146 a0 x1 x3 x4 x6 x7 w = some r → Rn g l D 155 146 [(0, .inr (.inr a0)), (1, .inl x1), (3, .inl x3), (4, .inr (.inl x4)), (6, .inl x6), (7, .inl x7)] [] w none r) (a0 : Nat) (x1 : Int) (x3 : Int) (x4 : Int) (x6 : Int) (x7 : Int) (w : Wd) (r : Wd) (h : Mo_cut_173 k7 k146 a0 x1 x3 x4 x6 x7 w = some r) : Rn g l D 155 173 [(0, .inr (.inr a0)), (1, .inl x1), (3, .inl x3), (4, .inr (.inl x4)), (6, .inl x6), (7, .inl x7)] [] w none r := by
  unfold Mo_cut_173 at h
  refine rn_iinc (ls1 := [(7, .inl (w32 (x7 + 1))), (0, .inr (.inr a0)), (1, .inl x1), (3, .inl x3), (4, .inr (.inl x4)), (6, .inl x6)]) i155_173 rfl rfl ?_
  refine rn_goto i155_176 ?_
  exact rn_sub [1, 2, 3, 4, 5, 0] rfl (hk146 a0 x1 x3 x4 x6 (w32 (x7 + 1)) w r h)
def Mo_cut_179 (k7 : Nat → Int → Wd → Option (Wd)) (a0 : Nat) (x1 : Int) (x3 : Int) (x4 : Int) (x6 : Int) (w : Wd) : Option (Wd) :=
  (Mo_token a0 x6 x1 0 x4 w).bind fun r186 =>
  Mo_cut_291 k7 a0 (w32 (x1 + x3)) r186
theorem s_Mo_cut_179 {g : Gp} {l : Launch} {D : Nat} (hD : 2 ≤ D) (k7 : Nat → Int → Wd → Option (Wd)) (hk7 : ∀ (a0 : Nat) (x1 : Int) (w : Wd) (r : Wd), k7 a0 x1 w = some r → Rn g l D 155 7 [(0, .inr (.inr a0)), (1, .inl x1)] [] w none r) (a0 : Nat) (x1 : Int) (x3 : Int) (x4 : Int) (x6 : Int) (w : Wd) (r : Wd) (h : Mo_cut_179 k7 a0 x1 x3 x4 x6 w = some r) : Rn g l D 155 179 [(0, .inr (.inr a0)), (1, .inl x1), (3, .inl x3), (4, .inr (.inl x4)), (6, .inl x6)] [] w none r := by
  obtain ⟨D, rfl⟩ : ∃ D1, D = D1 + 1 := ⟨D - 1, by omega⟩
  unfold Mo_cut_179 at h
  refine fr_aload_n i155_179 rfl ?_
  refine rn_iload i155_180 rfl ?_
  refine rn_iload_n i155_182 rfl ?_
  refine rn_iconst i155_183 ?_
  refine rn_lload i155_184 rfl ?_
  obtain ⟨r186, h186, h⟩ := Option.bind_eq_some_iff.mp h
  obtain ⟨g186, c186⟩ := S_Mo_token a0 x6 x1 0 x4 w r186 h186
  refine fr_callV (a := a0) (As := [.inl x6, .inl x1, .inl 0, .inr (.inl x4)]) (st := []) i155_186 (cq154 a0 x6 x1 0 x4) rfl (Nat.le_of_ble_eq_true rfl) g186 (c186 _ (by omega)) ?_
  refine rn_iload_n i155_189 rfl ?_
  refine rn_iload_n i155_190 rfl ?_
  refine rn_iadd i155_191 ?_
  refine rn_istore_n (ls1 := [(1, .inl (w32 (x1 + x3))), (0, .inr (.inr a0)), (3, .inl x3), (4, .inr (.inl x4)), (6, .inl x6)]) i155_192 rfl ?_
  refine rn_goto i155_193 ?_
  exact rn_sub [1, 0] rfl (s_Mo_cut_291 hD k7 hk7 a0 (w32 (x1 + x3)) r186 r h)
def Mo_cut_146 (k7 : Nat → Int → Wd → Option (Wd)) : Nat → Nat → Int → Int → Int → Int → Int → Wd → Option (Wd)
  | 0, _, _, _, _, _, _, _ => none
  | n + 1, a0, x1, x3, x4, x6, x7, w =>
    if (17 : Int) ≤ x7 then
      Mo_cut_179 k7 a0 x1 x3 x4 x6 w
    else
      (fgR w a0 12 9).bind fun v154 =>
      (rdL w v154 x7).bind fun v159 =>
      if ((ocmp v159 x4) : Int) = 0 then
        Mo_cut_173 k7 (Mo_cut_146 k7 n) a0 x1 x3 x4 (w32 (20 + x7)) x7 w
      else
        Mo_cut_173 k7 (Mo_cut_146 k7 n) a0 x1 x3 x4 x6 x7 w
theorem s_Mo_cut_146 {g : Gp} {l : Launch} {D : Nat} (hD : 2 ≤ D) (k7 : Nat → Int → Wd → Option (Wd)) (hk7 : ∀ (a0 : Nat) (x1 : Int) (w : Wd) (r : Wd), k7 a0 x1 w = some r → Rn g l D 155 7 [(0, .inr (.inr a0)), (1, .inl x1)] [] w none r) : ∀ (n : Nat) (a0 : Nat) (x1 : Int) (x3 : Int) (x4 : Int) (x6 : Int) (x7 : Int) (w : Wd) (r : Wd), Mo_cut_146 k7 n a0 x1 x3 x4 x6 x7 w = some r → Rn g l D 155 146 [(0, .inr (.inr a0)), (1, .inl x1), (3, .inl x3), (4, .inr (.inl x4)), (6, .inl x6), (7, .inl x7)] [] w none r := by
  intro n
  induction n with
  | zero => intro a0 x1 x3 x4 x6 x7 w r h; cases (show (none : Option (Wd)) = some r from h)
  | succ n ih =>
    intro a0 x1 x3 x4 x6 x7 w r h
    unfold Mo_cut_146 at h
    refine rn_iload i155_146 rfl ?_
    refine rn_bipush i155_148 ?_
    by_cases c150 : (17 : Int) ≤ x7
    · rw [if_pos c150] at h
      refine rn_icmp_ge_t i155_150 c150 ?_
      exact rn_sub [0, 1, 2, 3, 4] rfl (s_Mo_cut_179 hD k7 hk7 a0 x1 x3 x4 x6 w r h)
    · rw [if_neg c150] at h
      refine rn_icmp_ge_f i155_150 c150 ?_
      refine fr_aload_n i155_153 rfl ?_
      obtain ⟨v154, h154, h⟩ := Option.bind_eq_some_iff.mp h
      refine fr_gR (k := 9) i155_154 tf12_9 h154 ?_
      refine rn_iload i155_157 rfl ?_
      obtain ⟨v159, h159, h⟩ := Option.bind_eq_some_iff.mp h
      refine rn_lald i155_159 h159 ?_
      refine rn_lload i155_160 rfl ?_
      refine rn_lcmp i155_162 ?_
      by_cases c163 : ((ocmp v159 x4) : Int) = 0
      · rw [if_pos c163] at h
        refine rn_if_ne_f i155_163 c163 ?_
        refine rn_bipush i155_166 ?_
        refine rn_iload i155_168 rfl ?_
        refine rn_iadd i155_170 ?_
        refine rn_istore (ls1 := [(6, .inl (w32 (20 + x7))), (0, .inr (.inr a0)), (1, .inl x1), (3, .inl x3), (4, .inr (.inl x4)), (7, .inl x7)]) i155_171 rfl ?_
        exact rn_sub [1, 2, 3, 4, 0, 5] rfl (s_Mo_cut_173 hD k7 hk7 (Mo_cut_146 k7 n) ih a0 x1 x3 x4 (w32 (20 + x7)) x7 w r h)
      · rw [if_neg c163] at h
        refine rn_if_ne_t i155_163 c163 ?_
        exact rn_sub [0, 1, 2, 3, 4, 5] rfl (s_Mo_cut_173 hD k7 hk7 (Mo_cut_146 k7 n) ih a0 x1 x3 x4 x6 x7 w r h)
def Mo_cut_135 (k7 : Nat → Int → Wd → Option (Wd)) (a0 : Nat) (x1 : Int) (x3 : Int) (x4 : Int) (s0 : Int) (w : Wd) : Option (Wd) :=
  if (7 : Int) < x3 then
    Mo_cut_179 k7 a0 x1 x3 x4 s0 w
  else
    Mo_cut_146 k7 FU a0 x1 x3 x4 s0 0 w
theorem s_Mo_cut_135 {g : Gp} {l : Launch} {D : Nat} (hD : 2 ≤ D) (k7 : Nat → Int → Wd → Option (Wd)) (hk7 : ∀ (a0 : Nat) (x1 : Int) (w : Wd) (r : Wd), k7 a0 x1 w = some r → Rn g l D 155 7 [(0, .inr (.inr a0)), (1, .inl x1)] [] w none r) (a0 : Nat) (x1 : Int) (x3 : Int) (x4 : Int) (s0 : Int) (w : Wd) (r : Wd) (h : Mo_cut_135 k7 a0 x1 x3 x4 s0 w = some r) : Rn g l D 155 135 [(0, .inr (.inr a0)), (1, .inl x1), (3, .inl x3), (4, .inr (.inl x4))] [.inl s0] w none r := by
  unfold Mo_cut_135 at h
  refine rn_istore (ls1 := [(6, .inl s0), (0, .inr (.inr a0)), (1, .inl x1), (3, .inl x3), (4, .inr (.inl x4))]) i155_135 rfl ?_
  refine rn_iload_n i155_137 rfl ?_
  refine rn_bipush i155_138 ?_
  by_cases c140 : (7 : Int) < x3
  · rw [if_pos c140] at h
    refine rn_icmp_gt_t i155_140 c140 ?_
    exact rn_sub [1, 2, 3, 4, 0] rfl (s_Mo_cut_179 hD k7 hk7 a0 x1 x3 x4 s0 w r h)
  · rw [if_neg c140] at h
    refine rn_icmp_gt_f i155_140 c140 ?_
    refine rn_iconst i155_143 ?_
    refine rn_istore (ls1 := [(7, .inl 0), (6, .inl s0), (0, .inr (.inr a0)), (1, .inl x1), (3, .inl x3), (4, .inr (.inl x4))]) i155_144 rfl ?_
    exact rn_sub [2, 3, 4, 5, 1, 0] rfl (s_Mo_cut_146 hD k7 hk7 FU a0 x1 x3 x4 s0 0 w r h)
def Mo_cut_124 (k7 : Nat → Int → Wd → Option (Wd)) (a0 : Nat) (x1 : Int) (x3 : Int) (x4 : Int) (w : Wd) : Option (Wd) :=
  if (x3 : Int) ≤ 8 then
    Mo_cut_135 k7 a0 x1 x3 x4 1 w
  else
    Mo_cut_135 k7 a0 x1 x3 x4 3 w
theorem s_Mo_cut_124 {g : Gp} {l : Launch} {D : Nat} (hD : 2 ≤ D) (k7 : Nat → Int → Wd → Option (Wd)) (hk7 : ∀ (a0 : Nat) (x1 : Int) (w : Wd) (r : Wd), k7 a0 x1 w = some r → Rn g l D 155 7 [(0, .inr (.inr a0)), (1, .inl x1)] [] w none r) (a0 : Nat) (x1 : Int) (x3 : Int) (x4 : Int) (w : Wd) (r : Wd) (h : Mo_cut_124 k7 a0 x1 x3 x4 w = some r) : Rn g l D 155 124 [(0, .inr (.inr a0)), (1, .inl x1), (3, .inl x3), (4, .inr (.inl x4))] [] w none r := by
  unfold Mo_cut_124 at h
  refine rn_iload_n i155_124 rfl ?_
  refine rn_bipush i155_125 ?_
  by_cases c127 : (x3 : Int) ≤ 8
  · rw [if_pos c127] at h
    refine rn_icmp_le_t i155_127 c127 ?_
    refine rn_iconst i155_134 ?_
    exact rn_sub [0, 1, 2, 3] rfl (s_Mo_cut_135 hD k7 hk7 a0 x1 x3 x4 1 w r h)
  · rw [if_neg c127] at h
    refine rn_icmp_le_f i155_127 c127 ?_
    refine rn_iconst i155_130 ?_
    refine rn_goto i155_131 ?_
    exact rn_sub [0, 1, 2, 3] rfl (s_Mo_cut_135 hD k7 hk7 a0 x1 x3 x4 3 w r h)
def Mo_cut_85 (k7 : Nat → Int → Wd → Option (Wd)) : Nat → Nat → Int → Int → Int → Wd → Option (Wd)
  | 0, _, _, _, _, _ => none
  | n + 1, a0, x1, x3, x4, w =>
    (Mo_byteAt a0 (w32 (x1 + x3)) w).bind fun r89 =>
    (Mo_isLetter (r89.1) r89.2).bind fun r92 =>
    if (r92.1 : Int) = 0 then
      Mo_cut_124 k7 a0 x1 x3 x4 r92.2
    else
      if (8 : Int) ≤ x3 then
        Mo_cut_118 k7 (Mo_cut_85 k7 n) a0 x1 x3 x4 r92.2
      else
        (Mo_byteAt a0 (w32 (x1 + x3)) r92.2).bind fun r110 =>
        (Mo_appends x4 (r110.1) r110.2).bind fun r113 =>
        Mo_cut_118 k7 (Mo_cut_85 k7 n) a0 x1 x3 r113.1 r113.2
theorem s_Mo_cut_85 {g : Gp} {l : Launch} {D : Nat} (hD : 2 ≤ D) (k7 : Nat → Int → Wd → Option (Wd)) (hk7 : ∀ (a0 : Nat) (x1 : Int) (w : Wd) (r : Wd), k7 a0 x1 w = some r → Rn g l D 155 7 [(0, .inr (.inr a0)), (1, .inl x1)] [] w none r) : ∀ (n : Nat) (a0 : Nat) (x1 : Int) (x3 : Int) (x4 : Int) (w : Wd) (r : Wd), Mo_cut_85 k7 n a0 x1 x3 x4 w = some r → Rn g l D 155 85 [(0, .inr (.inr a0)), (1, .inl x1), (3, .inl x3), (4, .inr (.inl x4))] [] w none r := by
  obtain ⟨D, rfl⟩ : ∃ D1, D = D1 + 1 := ⟨D - 1, by omega⟩
  intro n
  induction n with
  | zero => intro a0 x1 x3 x4 w r h; cases (show (none : Option (Wd)) = some r from h)
  | succ n ih =>
    intro a0 x1 x3 x4 w r h
    unfold Mo_cut_85 at h
    refine fr_aload_n i155_85 rfl ?_
    refine rn_iload_n i155_86 rfl ?_
    refine rn_iload_n i155_87 rfl ?_
    refine rn_iadd i155_88 ?_
    obtain ⟨r89, h89, h⟩ := Option.bind_eq_some_iff.mp h
    obtain ⟨g89, c89⟩ := S_Mo_byteAt a0 (w32 (x1 + x3)) w r89 h89
    refine fr_callV (a := a0) (As := [.inl (w32 (x1 + x3))]) (st := []) i155_89 (cq149 a0 (w32 (x1 + x3))) rfl (Nat.le_of_ble_eq_true rfl) g89 (c89 _ (by omega)) ?_
    show Rn _ _ _ _ _ _ [.inl r89.1] _ _ _
    obtain ⟨r92, h92, h⟩ := Option.bind_eq_some_iff.mp h
    refine fr_callS (nst := 0) (As := [.inl r89.1]) (st := []) i155_92 (cq151 (r89.1)) rfl (Nat.le_of_ble_eq_true rfl) (S_Mo_isLetter (r89.1) r89.2 r92 h92 _ (by omega)) ?_
    show Rn _ _ _ _ _ _ [.inl r92.1] _ _ _
    by_cases c95 : (r92.1 : Int) = 0
    · rw [if_pos c95] at h
      refine rn_if_eq_t i155_95 c95 ?_
      exact rn_sub [0, 1, 2, 3] rfl (s_Mo_cut_124 hD k7 hk7 a0 x1 x3 x4 r92.2 r h)
    · rw [if_neg c95] at h
      refine rn_if_eq_f i155_95 c95 ?_
      refine rn_iload_n i155_98 rfl ?_
      refine rn_bipush i155_99 ?_
      by_cases c101 : (8 : Int) ≤ x3
      · rw [if_pos c101] at h
        refine rn_icmp_ge_t i155_101 c101 ?_
        exact rn_sub [0, 1, 2, 3] rfl (s_Mo_cut_118 hD k7 hk7 (Mo_cut_85 k7 n) ih a0 x1 x3 x4 r92.2 r h)
      · rw [if_neg c101] at h
        refine rn_icmp_ge_f i155_101 c101 ?_
        refine rn_lload i155_104 rfl ?_
        refine fr_aload_n i155_106 rfl ?_
        refine rn_iload_n i155_107 rfl ?_
        refine rn_iload_n i155_108 rfl ?_
        refine rn_iadd i155_109 ?_
        obtain ⟨r110, h110, h⟩ := Option.bind_eq_some_iff.mp h
        obtain ⟨g110, c110⟩ := S_Mo_byteAt a0 (w32 (x1 + x3)) r92.2 r110 h110
        refine fr_callV (a := a0) (As := [.inl (w32 (x1 + x3))]) (st := [.inr (.inl x4)]) i155_110 (cq149 a0 (w32 (x1 + x3))) rfl (Nat.le_of_ble_eq_true rfl) g110 (c110 _ (by omega)) ?_
        show Rn _ _ _ _ _ _ [.inl r110.1, .inr (.inl x4)] _ _ _
        obtain ⟨r113, h113, h⟩ := Option.bind_eq_some_iff.mp h
        refine fr_callS (nst := 0) (As := [.inr (.inl x4), .inl r110.1]) (st := []) i155_113 (cq152 x4 (r110.1)) rfl (Nat.le_of_ble_eq_true rfl) (S_Mo_appends x4 (r110.1) r110.2 r113 h113 _ (by omega)) ?_
        show Rn _ _ _ _ _ _ [.inr (.inl r113.1)] _ _ _
        refine rn_lstore (ls1 := [(4, .inr (.inl r113.1)), (0, .inr (.inr a0)), (1, .inl x1), (3, .inl x3)]) i155_116 rfl ?_
        exact rn_sub [1, 2, 3, 0] rfl (s_Mo_cut_118 hD k7 hk7 (Mo_cut_85 k7 n) ih a0 x1 x3 r113.1 r113.2 r h)
def Mo_cut_244 (k7 : Nat → Int → Wd → Option (Wd)) (k208 : Nat → Int → Int → Int → Wd → Option (Wd)) (a0 : Nat) (x1 : Int) (x3 : Int) (x4 : Int) (w : Wd) : Option (Wd) :=
  k208 a0 x1 (w32 (x3 + 1)) x4 w
theorem s_Mo_cut_244 {g : Gp} {l : Launch} {D : Nat} (hD : 2 ≤ D) (k7 : Nat → Int → Wd → Option (Wd)) (hk7 : ∀ (a0 : Nat) (x1 : Int) (w : Wd) (r : Wd), k7 a0 x1 w = some r → Rn g l D 155 7 [(0, .inr (.inr a0)), (1, .inl x1)] [] w none r) (k208 : Nat → Int → Int → Int → Wd → Option (Wd)) (hk208 : ∀ (a0 : Nat) (x1 : Int) (x3 : Int) (x4 : Int) (w : Wd) (r : Wd), k208 a0 x1 x3 x4 w = some r → Rn g l D 155 208 [(0, .inr (.inr a0)), (1, .inl x1), (3, .inl x3), (4, .inl x4)] [] w none r) (a0 : Nat) (x1 : Int) (x3 : Int) (x4 : Int) (w : Wd) (r : Wd) (h : Mo_cut_244 k7 k208 a0 x1 x3 x4 w = some r) : Rn g l D 155 244 [(0, .inr (.inr a0)), (1, .inl x1), (3, .inl x3), (4, .inl x4)] [] w none r := by
  unfold Mo_cut_244 at h
  refine rn_iinc (ls1 := [(3, .inl (w32 (x3 + 1))), (0, .inr (.inr a0)), (1, .inl x1), (4, .inl x4)]) i155_244 rfl rfl ?_
  refine rn_goto i155_247 ?_
  exact rn_sub [1, 2, 0, 3] rfl (hk208 a0 x1 (w32 (x3 + 1)) x4 w r h)
def Mo_cut_261 (k7 : Nat → Int → Wd → Option (Wd)) (a0 : Nat) (x1 : Int) (x3 : Int) (x4 : Int) (s0 : Int) (s1 : Nat) (w : Wd) : Option (Wd) :=
  (Mo_token s1 s0 x1 x4 0 w).bind fun r265 =>
  Mo_cut_291 k7 a0 (w32 (x1 + x3)) r265
theorem s_Mo_cut_261 {g : Gp} {l : Launch} {D : Nat} (hD : 2 ≤ D) (k7 : Nat → Int → Wd → Option (Wd)) (hk7 : ∀ (a0 : Nat) (x1 : Int) (w : Wd) (r : Wd), k7 a0 x1 w = some r → Rn g l D 155 7 [(0, .inr (.inr a0)), (1, .inl x1)] [] w none r) (a0 : Nat) (x1 : Int) (x3 : Int) (x4 : Int) (s0 : Int) (s1 : Nat) (w : Wd) (r : Wd) (h : Mo_cut_261 k7 a0 x1 x3 x4 s0 s1 w = some r) : Rn g l D 155 261 [(0, .inr (.inr a0)), (1, .inl x1), (3, .inl x3), (4, .inl x4)] [.inl s0, .inr (.inr s1)] w none r := by
  obtain ⟨D, rfl⟩ : ∃ D1, D = D1 + 1 := ⟨D - 1, by omega⟩
  unfold Mo_cut_261 at h
  refine rn_iload_n i155_261 rfl ?_
  refine rn_iload i155_262 rfl ?_
  refine fr_lconst0 i155_264 ?_
  obtain ⟨r265, h265, h⟩ := Option.bind_eq_some_iff.mp h
  obtain ⟨g265, c265⟩ := S_Mo_token s1 s0 x1 x4 0 w r265 h265
  refine fr_callV (a := s1) (As := [.inl s0, .inl x1, .inl x4, .inr (.inl 0)]) (st := []) i155_265 (cq154 s1 s0 x1 x4 0) rfl (Nat.le_of_ble_eq_true rfl) g265 (c265 _ (by omega)) ?_
  refine rn_iload_n i155_268 rfl ?_
  refine rn_iload_n i155_269 rfl ?_
  refine rn_iadd i155_270 ?_
  refine rn_istore_n (ls1 := [(1, .inl (w32 (x1 + x3))), (0, .inr (.inr a0)), (3, .inl x3), (4, .inl x4)]) i155_271 rfl ?_
  refine rn_goto i155_272 ?_
  exact rn_sub [1, 0] rfl (s_Mo_cut_291 hD k7 hk7 a0 (w32 (x1 + x3)) r265 r h)
def Mo_cut_250 (k7 : Nat → Int → Wd → Option (Wd)) (a0 : Nat) (x1 : Int) (x3 : Int) (x4 : Int) (w : Wd) : Option (Wd) :=
  if (x3 : Int) ≤ 4 then
    Mo_cut_261 k7 a0 x1 x3 x4 2 a0 w
  else
    Mo_cut_261 k7 a0 x1 x3 x4 3 a0 w
theorem s_Mo_cut_250 {g : Gp} {l : Launch} {D : Nat} (hD : 2 ≤ D) (k7 : Nat → Int → Wd → Option (Wd)) (hk7 : ∀ (a0 : Nat) (x1 : Int) (w : Wd) (r : Wd), k7 a0 x1 w = some r → Rn g l D 155 7 [(0, .inr (.inr a0)), (1, .inl x1)] [] w none r) (a0 : Nat) (x1 : Int) (x3 : Int) (x4 : Int) (w : Wd) (r : Wd) (h : Mo_cut_250 k7 a0 x1 x3 x4 w = some r) : Rn g l D 155 250 [(0, .inr (.inr a0)), (1, .inl x1), (3, .inl x3), (4, .inl x4)] [] w none r := by
  unfold Mo_cut_250 at h
  refine fr_aload_n i155_250 rfl ?_
  refine rn_iload_n i155_251 rfl ?_
  refine rn_iconst i155_252 ?_
  by_cases c253 : (x3 : Int) ≤ 4
  · rw [if_pos c253] at h
    refine rn_icmp_le_t i155_253 c253 ?_
    refine rn_iconst i155_260 ?_
    exact rn_sub [0, 1, 2, 3] rfl (s_Mo_cut_261 hD k7 hk7 a0 x1 x3 x4 2 a0 w r h)
  · rw [if_neg c253] at h
    refine rn_icmp_le_f i155_253 c253 ?_
    refine rn_iconst i155_256 ?_
    refine rn_goto i155_257 ?_
    exact rn_sub [0, 1, 2, 3] rfl (s_Mo_cut_261 hD k7 hk7 a0 x1 x3 x4 3 a0 w r h)
def Mo_cut_208 (k7 : Nat → Int → Wd → Option (Wd)) : Nat → Nat → Int → Int → Int → Wd → Option (Wd)
  | 0, _, _, _, _, _ => none
  | n + 1, a0, x1, x3, x4, w =>
    (Mo_byteAt a0 (w32 (x1 + x3)) w).bind fun r212 =>
    (Mo_isDigit (r212.1) r212.2).bind fun r215 =>
    if (r215.1 : Int) = 0 then
      Mo_cut_250 k7 a0 x1 x3 x4 r215.2
    else
      if (4 : Int) ≤ x3 then
        Mo_cut_244 k7 (Mo_cut_208 k7 n) a0 x1 x3 x4 r215.2
      else
        (Mo_byteAt a0 (w32 (x1 + x3)) r215.2).bind fun r235 =>
        Mo_cut_244 k7 (Mo_cut_208 k7 n) a0 x1 x3 (w32 ((w32 ((w32 (10 * x4)) + r235.1)) - 48)) r235.2
theorem s_Mo_cut_208 {g : Gp} {l : Launch} {D : Nat} (hD : 2 ≤ D) (k7 : Nat → Int → Wd → Option (Wd)) (hk7 : ∀ (a0 : Nat) (x1 : Int) (w : Wd) (r : Wd), k7 a0 x1 w = some r → Rn g l D 155 7 [(0, .inr (.inr a0)), (1, .inl x1)] [] w none r) : ∀ (n : Nat) (a0 : Nat) (x1 : Int) (x3 : Int) (x4 : Int) (w : Wd) (r : Wd), Mo_cut_208 k7 n a0 x1 x3 x4 w = some r → Rn g l D 155 208 [(0, .inr (.inr a0)), (1, .inl x1), (3, .inl x3), (4, .inl x4)] [] w none r := by
  obtain ⟨D, rfl⟩ : ∃ D1, D = D1 + 1 := ⟨D - 1, by omega⟩
  intro n
  induction n with
  | zero => intro a0 x1 x3 x4 w r h; cases (show (none : Option (Wd)) = some r from h)
  | succ n ih =>
    intro a0 x1 x3 x4 w r h
    unfold Mo_cut_208 at h
    refine fr_aload_n i155_208 rfl ?_
    refine rn_iload_n i155_209 rfl ?_
    refine rn_iload_n i155_210 rfl ?_
    refine rn_iadd i155_211 ?_
    obtain ⟨r212, h212, h⟩ := Option.bind_eq_some_iff.mp h
    obtain ⟨g212, c212⟩ := S_Mo_byteAt a0 (w32 (x1 + x3)) w r212 h212
    refine fr_callV (a := a0) (As := [.inl (w32 (x1 + x3))]) (st := []) i155_212 (cq149 a0 (w32 (x1 + x3))) rfl (Nat.le_of_ble_eq_true rfl) g212 (c212 _ (by omega)) ?_
    show Rn _ _ _ _ _ _ [.inl r212.1] _ _ _
    obtain ⟨r215, h215, h⟩ := Option.bind_eq_some_iff.mp h
    refine fr_callS (nst := 0) (As := [.inl r212.1]) (st := []) i155_215 (cq150 (r212.1)) rfl (Nat.le_of_ble_eq_true rfl) (S_Mo_isDigit (r212.1) r212.2 r215 h215 _ (by omega)) ?_
    show Rn _ _ _ _ _ _ [.inl r215.1] _ _ _
    by_cases c218 : (r215.1 : Int) = 0
    · rw [if_pos c218] at h
      refine rn_if_eq_t i155_218 c218 ?_
      exact rn_sub [0, 1, 2, 3] rfl (s_Mo_cut_250 hD k7 hk7 a0 x1 x3 x4 r215.2 r h)
    · rw [if_neg c218] at h
      refine rn_if_eq_f i155_218 c218 ?_
      refine rn_iload_n i155_221 rfl ?_
      refine rn_iconst i155_222 ?_
      by_cases c223 : (4 : Int) ≤ x3
      · rw [if_pos c223] at h
        refine rn_icmp_ge_t i155_223 c223 ?_
        exact rn_sub [0, 1, 2, 3] rfl (s_Mo_cut_244 hD k7 hk7 (Mo_cut_208 k7 n) ih a0 x1 x3 x4 r215.2 r h)
      · rw [if_neg c223] at h
        refine rn_icmp_ge_f i155_223 c223 ?_
        refine rn_bipush i155_226 ?_
        refine rn_iload i155_228 rfl ?_
        refine rn_imul i155_230 ?_
        refine fr_aload_n i155_231 rfl ?_
        refine rn_iload_n i155_232 rfl ?_
        refine rn_iload_n i155_233 rfl ?_
        refine rn_iadd i155_234 ?_
        obtain ⟨r235, h235, h⟩ := Option.bind_eq_some_iff.mp h
        obtain ⟨g235, c235⟩ := S_Mo_byteAt a0 (w32 (x1 + x3)) r215.2 r235 h235
        refine fr_callV (a := a0) (As := [.inl (w32 (x1 + x3))]) (st := [.inl (w32 (10 * x4))]) i155_235 (cq149 a0 (w32 (x1 + x3))) rfl (Nat.le_of_ble_eq_true rfl) g235 (c235 _ (by omega)) ?_
        show Rn _ _ _ _ _ _ [.inl r235.1, .inl (w32 (10 * x4))] _ _ _
        refine rn_iadd i155_238 ?_
        refine rn_bipush i155_239 ?_
        refine rn_isub i155_241 ?_
        refine rn_istore (ls1 := [(4, .inl (w32 ((w32 ((w32 (10 * x4)) + r235.1)) - 48))), (0, .inr (.inr a0)), (1, .inl x1), (3, .inl x3)]) i155_242 rfl ?_
        exact rn_sub [1, 2, 3, 0] rfl (s_Mo_cut_244 hD k7 hk7 (Mo_cut_208 k7 n) ih a0 x1 x3 (w32 ((w32 ((w32 (10 * x4)) + r235.1)) - 48)) r235.2 r h)
def Mo_cut_7 : Nat → Nat → Int → Wd → Option (Wd)
  | 0, _, _, _ => none
  | n + 1, a0, x1, w =>
    (fgI w a0 12 10).bind fun v8 =>
    if (400 : Int) < v8 then
      some w
    else
      (Mo_byteAt a0 x1 w).bind fun r19 =>
      (fgI r19.2 a0 12 4).bind fun v25 =>
      if (x1 : Int) < v25 then
        if (r19.1 : Int) = 9 then
          Mo_cut_67 (Mo_cut_7 n) a0 x1 r19.2
        else
          if (r19.1 : Int) = 10 then
            Mo_cut_67 (Mo_cut_7 n) a0 x1 r19.2
          else
            if (r19.1 : Int) = 13 then
              Mo_cut_67 (Mo_cut_7 n) a0 x1 r19.2
            else
              if (r19.1 : Int) = 32 then
                Mo_cut_67 (Mo_cut_7 n) a0 x1 r19.2
              else
                (Mo_isLetter (r19.1) r19.2).bind fun r74 =>
                if (r74.1 : Int) = 0 then
                  (Mo_isDigit (r19.1) r74.2).bind fun r197 =>
                  if (r197.1 : Int) = 0 then
                    (Mo_byteAt a0 (w32 (x1 + 1)) r197.2).bind fun r283 =>
                    (Mo_sign a0 x1 (r19.1) (r283.1) r283.2).bind fun r286 =>
                    Mo_cut_291 (Mo_cut_7 n) a0 (w32 (x1 + r286.1)) r286.2
                  else
                    Mo_cut_208 (Mo_cut_7 n) FU a0 x1 0 0 r197.2
                else
                  Mo_cut_85 (Mo_cut_7 n) FU a0 x1 0 0 r74.2
      else
        Mo_cut_31 a0 r19.2
theorem s_Mo_cut_7 {g : Gp} {l : Launch} {D : Nat} (hD : 2 ≤ D) : ∀ (n : Nat) (a0 : Nat) (x1 : Int) (w : Wd) (r : Wd), Mo_cut_7 n a0 x1 w = some r → Rn g l D 155 7 [(0, .inr (.inr a0)), (1, .inl x1)] [] w none r := by
  obtain ⟨D, rfl⟩ : ∃ D1, D = D1 + 1 := ⟨D - 1, by omega⟩
  intro n
  induction n with
  | zero => intro a0 x1 w r h; cases (show (none : Option (Wd)) = some r from h)
  | succ n ih =>
    intro a0 x1 w r h
    unfold Mo_cut_7 at h
    refine fr_aload_n i155_7 rfl ?_
    obtain ⟨v8, h8, h⟩ := Option.bind_eq_some_iff.mp h
    refine fr_gI (k := 10) i155_8 tf12_10 h8 ?_
    refine rn_sipush i155_11 ?_
    by_cases c14 : (400 : Int) < v8
    · rw [if_pos c14] at h
      refine rn_icmp_gt_t i155_14 c14 ?_
      obtain rfl := Option.some.inj h
      exact rn_ret i155_294 mr155
    · rw [if_neg c14] at h
      refine rn_icmp_gt_f i155_14 c14 ?_
      refine fr_aload_n i155_17 rfl ?_
      refine rn_iload_n i155_18 rfl ?_
      obtain ⟨r19, h19, h⟩ := Option.bind_eq_some_iff.mp h
      obtain ⟨g19, c19⟩ := S_Mo_byteAt a0 x1 w r19 h19
      refine fr_callV (a := a0) (As := [.inl x1]) (st := []) i155_19 (cq149 a0 x1) rfl (Nat.le_of_ble_eq_true rfl) g19 (c19 _ (by omega)) ?_
      show Rn _ _ _ _ _ _ [.inl r19.1] _ _ _
      refine rn_istore_n (ls1 := [(2, .inl r19.1), (0, .inr (.inr a0)), (1, .inl x1)]) i155_22 rfl ?_
      refine rn_iload_n i155_23 rfl ?_
      refine fr_aload_n i155_24 rfl ?_
      obtain ⟨v25, h25, h⟩ := Option.bind_eq_some_iff.mp h
      refine fr_gI (k := 4) i155_25 tf12_4 h25 ?_
      by_cases c28 : (x1 : Int) < v25
      · rw [if_pos c28] at h
        refine rn_icmp_lt_t i155_28 c28 ?_
        refine rn_iload_n i155_43 rfl ?_
        refine rn_bipush i155_44 ?_
        by_cases c46 : (r19.1 : Int) = 9
        · rw [if_pos c46] at h
          refine rn_icmp_eq_t i155_46 c46 ?_
          exact rn_sub [1, 2] rfl (s_Mo_cut_67 hD (Mo_cut_7 n) ih a0 x1 r19.2 r h)
        · rw [if_neg c46] at h
          refine rn_icmp_eq_f i155_46 c46 ?_
          refine rn_iload_n i155_49 rfl ?_
          refine rn_bipush i155_50 ?_
          by_cases c52 : (r19.1 : Int) = 10
          · rw [if_pos c52] at h
            refine rn_icmp_eq_t i155_52 c52 ?_
            exact rn_sub [1, 2] rfl (s_Mo_cut_67 hD (Mo_cut_7 n) ih a0 x1 r19.2 r h)
          · rw [if_neg c52] at h
            refine rn_icmp_eq_f i155_52 c52 ?_
            refine rn_iload_n i155_55 rfl ?_
            refine rn_bipush i155_56 ?_
            by_cases c58 : (r19.1 : Int) = 13
            · rw [if_pos c58] at h
              refine rn_icmp_eq_t i155_58 c58 ?_
              exact rn_sub [1, 2] rfl (s_Mo_cut_67 hD (Mo_cut_7 n) ih a0 x1 r19.2 r h)
            · rw [if_neg c58] at h
              refine rn_icmp_eq_f i155_58 c58 ?_
              refine rn_iload_n i155_61 rfl ?_
              refine rn_bipush i155_62 ?_
              by_cases c64 : (r19.1 : Int) = 32
              · rw [if_pos c64] at h
                refine rn_icmp_ne_f i155_64 c64 ?_
                exact rn_sub [1, 2] rfl (s_Mo_cut_67 hD (Mo_cut_7 n) ih a0 x1 r19.2 r h)
              · rw [if_neg c64] at h
                refine rn_icmp_ne_t i155_64 c64 ?_
                refine rn_iload_n i155_73 rfl ?_
                obtain ⟨r74, h74, h⟩ := Option.bind_eq_some_iff.mp h
                refine fr_callS (nst := 0) (As := [.inl r19.1]) (st := []) i155_74 (cq151 (r19.1)) rfl (Nat.le_of_ble_eq_true rfl) (S_Mo_isLetter (r19.1) r19.2 r74 h74 _ (by omega)) ?_
                show Rn _ _ _ _ _ _ [.inl r74.1] _ _ _
                by_cases c77 : (r74.1 : Int) = 0
                · rw [if_pos c77] at h
                  refine rn_if_eq_t i155_77 c77 ?_
                  refine rn_iload_n i155_196 rfl ?_
                  obtain ⟨r197, h197, h⟩ := Option.bind_eq_some_iff.mp h
                  refine fr_callS (nst := 0) (As := [.inl r19.1]) (st := []) i155_197 (cq150 (r19.1)) rfl (Nat.le_of_ble_eq_true rfl) (S_Mo_isDigit (r19.1) r74.2 r197 h197 _ (by omega)) ?_
                  show Rn _ _ _ _ _ _ [.inl r197.1] _ _ _
                  by_cases c200 : (r197.1 : Int) = 0
                  · rw [if_pos c200] at h
                    refine rn_if_eq_t i155_200 c200 ?_
                    refine rn_iload_n i155_275 rfl ?_
                    refine fr_aload_n i155_276 rfl ?_
                    refine rn_iload_n i155_277 rfl ?_
                    refine rn_iload_n i155_278 rfl ?_
                    refine fr_aload_n i155_279 rfl ?_
                    refine rn_iload_n i155_280 rfl ?_
                    refine rn_iconst i155_281 ?_
                    refine rn_iadd i155_282 ?_
                    obtain ⟨r283, h283, h⟩ := Option.bind_eq_some_iff.mp h
                    obtain ⟨g283, c283⟩ := S_Mo_byteAt a0 (w32 (x1 + 1)) r197.2 r283 h283
                    refine fr_callV (a := a0) (As := [.inl (w32 (x1 + 1))]) (st := [.inl r19.1, .inl x1, .inr (.inr a0), .inl x1]) i155_283 (cq149 a0 (w32 (x1 + 1))) rfl (Nat.le_of_ble_eq_true rfl) g283 (c283 _ (by omega)) ?_
                    show Rn _ _ _ _ _ _ [.inl r283.1, .inl r19.1, .inl x1, .inr (.inr a0), .inl x1] _ _ _
                    obtain ⟨r286, h286, h⟩ := Option.bind_eq_some_iff.mp h
                    obtain ⟨g286, c286⟩ := S_Mo_sign a0 x1 (r19.1) (r283.1) r283.2 r286 h286
                    refine fr_callV (a := a0) (As := [.inl x1, .inl r19.1, .inl r283.1]) (st := [.inl x1]) i155_286 (cq156 a0 x1 (r19.1) (r283.1)) rfl (Nat.le_of_ble_eq_true rfl) g286 (c286 _ (by omega)) ?_
                    show Rn _ _ _ _ _ _ [.inl r286.1, .inl x1] _ _ _
                    refine rn_iadd i155_289 ?_
                    refine rn_istore_n (ls1 := [(1, .inl (w32 (x1 + r286.1))), (2, .inl r19.1), (0, .inr (.inr a0))]) i155_290 rfl ?_
                    exact rn_sub [2, 0] rfl (s_Mo_cut_291 hD (Mo_cut_7 n) ih a0 (w32 (x1 + r286.1)) r286.2 r h)
                  · rw [if_neg c200] at h
                    refine rn_if_eq_f i155_200 c200 ?_
                    refine rn_iconst i155_203 ?_
                    refine rn_istore_n (ls1 := [(3, .inl 0), (2, .inl r19.1), (0, .inr (.inr a0)), (1, .inl x1)]) i155_204 rfl ?_
                    refine rn_iconst i155_205 ?_
                    refine rn_istore (ls1 := [(4, .inl 0), (3, .inl 0), (2, .inl r19.1), (0, .inr (.inr a0)), (1, .inl x1)]) i155_206 rfl ?_
                    exact rn_sub [3, 4, 1, 0] rfl (s_Mo_cut_208 hD (Mo_cut_7 n) ih FU a0 x1 0 0 r197.2 r h)
                · rw [if_neg c77] at h
                  refine rn_if_eq_f i155_77 c77 ?_
                  refine rn_iconst i155_80 ?_
                  refine rn_istore_n (ls1 := [(3, .inl 0), (2, .inl r19.1), (0, .inr (.inr a0)), (1, .inl x1)]) i155_81 rfl ?_
                  refine fr_lconst0 i155_82 ?_
                  refine rn_lstore (ls1 := [(4, .inr (.inl 0)), (3, .inl 0), (2, .inl r19.1), (0, .inr (.inr a0)), (1, .inl x1)]) i155_83 rfl ?_
                  exact rn_sub [3, 4, 1, 0] rfl (s_Mo_cut_85 hD (Mo_cut_7 n) ih FU a0 x1 0 0 r74.2 r h)
      · rw [if_neg c28] at h
        refine rn_icmp_lt_f i155_28 c28 ?_
        exact rn_sub [1] rfl (s_Mo_cut_31 hD a0 r19.2 r h)
def Mo_cut_0 (a0 : Nat) (w : Wd) : Option (Wd) :=
  (fpI w a0 12 10 0).bind fun w2 =>
  Mo_cut_7 FU a0 0 w2
theorem s_Mo_cut_0 {g : Gp} {l : Launch} {D : Nat} (hD : 2 ≤ D) (a0 : Nat) (w : Wd) (r : Wd) (h : Mo_cut_0 a0 w = some r) : Rn g l D 155 0 [(0, .inr (.inr a0))] [] w none r := by
  unfold Mo_cut_0 at h
  refine fr_aload_n i155_0 rfl ?_
  refine rn_iconst i155_1 ?_
  obtain ⟨w2, h2, h⟩ := Option.bind_eq_some_iff.mp h
  refine fr_pI (k := 10) i155_2 (pf12_10 155) h2 ?_
  refine rn_iconst i155_5 ?_
  refine rn_istore_n (ls1 := [(1, .inl 0), (0, .inr (.inr a0))]) i155_6 rfl ?_
  exact rn_sub [1, 0] rfl (s_Mo_cut_7 hD FU a0 0 w2 r h)
/-- HandHeirsModel.cut()V -/
def Mo_cut (a0 : Nat) (w : Wd) : Option (Wd) := gd 12 w a0 (Mo_cut_0 a0 w)
theorem S_Mo_cut {g : Gp} {l : Launch} (a0 : Nat) (w : Wd) (r : Wd) (h : Mo_cut a0 w = some r) : (wsh w a0).1 = 12 ∧ ∀ D, 2 ≤ D → Rn g l D 155 0 [(0, .inr (.inr a0))] [] w none r := by
  obtain ⟨hg, h⟩ := gd_some h
  exact ⟨hg, fun D hD => rn_sub [0] rfl (s_Mo_cut_0 hD a0 w r h)⟩
def Mo_is_25 (s0 : Int) (w : Wd) : Option (Int × Wd) :=
  rZ s0 w
theorem s_Mo_is_25 {g : Gp} {l : Launch} {D : Nat} (hD : 0 ≤ D) (s0 : Int) (w : Wd) (r : Int × Wd) (h : Mo_is_25 s0 w = some r) : Rn g l D 157 25 [] [.inl s0] w (some (.inl r.1)) r.2 := by
  unfold Mo_is_25 at h
  exact fr_retZ i157_25 mr157 h
def Mo_is_24 (w : Wd) : Option (Int × Wd) :=
  Mo_is_25 0 w
theorem s_Mo_is_24 {g : Gp} {l : Launch} {D : Nat} (hD : 0 ≤ D) (w : Wd) (r : Int × Wd) (h : Mo_is_24 w = some r) : Rn g l D 157 24 [] [] w (some (.inl r.1)) r.2 := by
  unfold Mo_is_24 at h
  refine rn_iconst i157_24 ?_
  exact rn_sub [] rfl (s_Mo_is_25 hD 0 w r h)
def Mo_is_0 (a0 : Nat) (x1 : Int) (w : Wd) : Option (Int × Wd) :=
  (fgI w a0 12 13).bind fun v1 =>
  if (v1 : Int) = 0 then
    (fgR w a0 12 5).bind fun v8 =>
    (fgI w a0 12 11).bind fun v12 =>
    (rdI w v8 v12).bind fun v15 =>
    if (v15 : Int) = x1 then
      Mo_is_25 1 w
    else
      Mo_is_24 w
  else
    Mo_is_24 w
theorem s_Mo_is_0 {g : Gp} {l : Launch} {D : Nat} (hD : 0 ≤ D) (a0 : Nat) (x1 : Int) (w : Wd) (r : Int × Wd) (h : Mo_is_0 a0 x1 w = some r) : Rn g l D 157 0 [(0, .inr (.inr a0)), (1, .inl x1)] [] w (some (.inl r.1)) r.2 := by
  unfold Mo_is_0 at h
  refine fr_aload_n i157_0 rfl ?_
  obtain ⟨v1, h1, h⟩ := Option.bind_eq_some_iff.mp h
  refine fr_gI (k := 13) i157_1 tf12_13 h1 ?_
  by_cases c4 : (v1 : Int) = 0
  · rw [if_pos c4] at h
    refine rn_if_ne_f i157_4 c4 ?_
    refine fr_aload_n i157_7 rfl ?_
    obtain ⟨v8, h8, h⟩ := Option.bind_eq_some_iff.mp h
    refine fr_gR (k := 5) i157_8 tf12_5 h8 ?_
    refine fr_aload_n i157_11 rfl ?_
    obtain ⟨v12, h12, h⟩ := Option.bind_eq_some_iff.mp h
    refine fr_gI (k := 11) i157_12 tf12_11 h12 ?_
    obtain ⟨v15, h15, h⟩ := Option.bind_eq_some_iff.mp h
    refine rn_iald i157_15 h15 ?_
    refine rn_iload_n i157_16 rfl ?_
    by_cases c17 : (v15 : Int) = x1
    · rw [if_pos c17] at h
      refine rn_icmp_ne_f i157_17 c17 ?_
      refine rn_iconst i157_20 ?_
      refine rn_goto i157_21 ?_
      exact rn_sub [] rfl (s_Mo_is_25 hD 1 w r h)
    · rw [if_neg c17] at h
      refine rn_icmp_ne_t i157_17 c17 ?_
      exact rn_sub [] rfl (s_Mo_is_24 hD w r h)
  · rw [if_neg c4] at h
    refine rn_if_ne_t i157_4 c4 ?_
    exact rn_sub [] rfl (s_Mo_is_24 hD w r h)
/-- HandHeirsModel.is(I)Z -/
def Mo_is (a0 : Nat) (x1 : Int) (w : Wd) : Option (Int × Wd) := gd 12 w a0 (Mo_is_0 a0 x1 w)
theorem S_Mo_is {g : Gp} {l : Launch} (a0 : Nat) (x1 : Int) (w : Wd) (r : Int × Wd) (h : Mo_is a0 x1 w = some r) : (wsh w a0).1 = 12 ∧ ∀ D, 0 ≤ D → Rn g l D 157 0 [(0, .inr (.inr a0)), (1, .inl x1)] [] w (some (.inl r.1)) r.2 := by
  obtain ⟨hg, h⟩ := gd_some h
  exact ⟨hg, fun D hD => rn_sub [0, 1] rfl (s_Mo_is_0 hD a0 x1 w r h)⟩
def Mo_fail_0 (a0 : Nat) (x1 : Int) (w : Wd) : Option (Wd) :=
  (fgI w a0 12 13).bind fun v1 =>
  if (v1 : Int) ≤ 0 then
    (fpI w a0 12 13 x1).bind fun w10 =>
    (fgR w10 a0 12 6).bind fun v15 =>
    (fgI w10 a0 12 11).bind fun v19 =>
    (rdI w10 v15 v19).bind fun v22 =>
    (fpI w10 a0 12 14 v22).bind fun w23 =>
    some w23
  else
    some w
theorem s_Mo_fail_0 {g : Gp} {l : Launch} {D : Nat} (hD : 0 ≤ D) (a0 : Nat) (x1 : Int) (w : Wd) (r : Wd) (h : Mo_fail_0 a0 x1 w = some r) : Rn g l D 158 0 [(0, .inr (.inr a0)), (1, .inl x1)] [] w none r := by
  unfold Mo_fail_0 at h
  refine fr_aload_n i158_0 rfl ?_
  obtain ⟨v1, h1, h⟩ := Option.bind_eq_some_iff.mp h
  refine fr_gI (k := 13) i158_1 tf12_13 h1 ?_
  by_cases c4 : (v1 : Int) ≤ 0
  · rw [if_pos c4] at h
    refine rn_if_le_t i158_4 c4 ?_
    refine fr_aload_n i158_8 rfl ?_
    refine rn_iload_n i158_9 rfl ?_
    obtain ⟨w10, h10, h⟩ := Option.bind_eq_some_iff.mp h
    refine fr_pI (k := 13) i158_10 (pf12_13 158) h10 ?_
    refine fr_aload_n i158_13 rfl ?_
    refine fr_aload_n i158_14 rfl ?_
    obtain ⟨v15, h15, h⟩ := Option.bind_eq_some_iff.mp h
    refine fr_gR (k := 6) i158_15 tf12_6 h15 ?_
    refine fr_aload_n i158_18 rfl ?_
    obtain ⟨v19, h19, h⟩ := Option.bind_eq_some_iff.mp h
    refine fr_gI (k := 11) i158_19 tf12_11 h19 ?_
    obtain ⟨v22, h22, h⟩ := Option.bind_eq_some_iff.mp h
    refine rn_iald i158_22 h22 ?_
    obtain ⟨w23, h23, h⟩ := Option.bind_eq_some_iff.mp h
    refine fr_pI (k := 14) i158_23 (pf12_14 158) h23 ?_
    obtain rfl := Option.some.inj h
    exact rn_ret i158_26 mr158
  · rw [if_neg c4] at h
    refine rn_if_le_f i158_4 c4 ?_
    obtain rfl := Option.some.inj h
    exact rn_ret i158_7 mr158
/-- HandHeirsModel.fail(I)V -/
def Mo_fail (a0 : Nat) (x1 : Int) (w : Wd) : Option (Wd) := gd 12 w a0 (Mo_fail_0 a0 x1 w)
theorem S_Mo_fail {g : Gp} {l : Launch} (a0 : Nat) (x1 : Int) (w : Wd) (r : Wd) (h : Mo_fail a0 x1 w = some r) : (wsh w a0).1 = 12 ∧ ∀ D, 0 ≤ D → Rn g l D 158 0 [(0, .inr (.inr a0)), (1, .inl x1)] [] w none r := by
  obtain ⟨hg, h⟩ := gd_some h
  exact ⟨hg, fun D hD => rn_sub [0, 1] rfl (s_Mo_fail_0 hD a0 x1 w r h)⟩
def Mo_wrong_45 (w : Wd) : Option (Wd) :=
  some w
theorem s_Mo_wrong_45 {g : Gp} {l : Launch} {D : Nat} (hD : 0 ≤ D) (w : Wd) (r : Wd) (h : Mo_wrong_45 w = some r) : Rn g l D 159 45 [] [] w none r := by
  unfold Mo_wrong_45 at h
  obtain rfl := Option.some.inj h
  exact rn_ret i159_45 mr159
def Mo_wrong_46 (a0 : Nat) (x1 : Int) (x3 : Int) (w : Wd) : Option (Wd) :=
  (fpI w a0 12 15 x1).bind fun w48 =>
  (fpI w48 a0 12 16 x3).bind fun w53 =>
  some w53
theorem s_Mo_wrong_46 {g : Gp} {l : Launch} {D : Nat} (hD : 0 ≤ D) (a0 : Nat) (x1 : Int) (x3 : Int) (w : Wd) (r : Wd) (h : Mo_wrong_46 a0 x1 x3 w = some r) : Rn g l D 159 46 [(0, .inr (.inr a0)), (1, .inl x1), (3, .inl x3)] [] w none r := by
  unfold Mo_wrong_46 at h
  refine fr_aload_n i159_46 rfl ?_
  refine rn_iload_n i159_47 rfl ?_
  obtain ⟨w48, h48, h⟩ := Option.bind_eq_some_iff.mp h
  refine fr_pI (k := 15) i159_48 (pf12_15 159) h48 ?_
  refine fr_aload_n i159_51 rfl ?_
  refine rn_iload_n i159_52 rfl ?_
  obtain ⟨w53, h53, h⟩ := Option.bind_eq_some_iff.mp h
  refine fr_pI (k := 16) i159_53 (pf12_16 159) h53 ?_
  obtain rfl := Option.some.inj h
  exact rn_ret i159_56 mr159
def Mo_wrong_0 (a0 : Nat) (x1 : Int) (x2 : Int) (w : Wd) : Option (Wd) :=
  (fgR w a0 12 6).bind fun v1 =>
  (rdI w v1 x2).bind fun v5 =>
  (fgI w a0 12 13).bind fun v8 =>
  if (0 : Int) < v8 then
    Mo_wrong_45 w
  else
    (fgI w a0 12 15).bind fun v15 =>
    if (v15 : Int) = 0 then
      Mo_wrong_46 a0 x1 v5 w
    else
      (fgI w a0 12 16).bind fun v23 =>
      if (v23 : Int) < v5 then
        Mo_wrong_45 w
      else
        (fgI w a0 12 16).bind fun v31 =>
        if (v5 : Int) = v31 then
          (fgI w a0 12 15).bind fun v39 =>
          if (x1 : Int) < v39 then
            Mo_wrong_46 a0 x1 v5 w
          else
            Mo_wrong_45 w
        else
          Mo_wrong_46 a0 x1 v5 w
theorem s_Mo_wrong_0 {g : Gp} {l : Launch} {D : Nat} (hD : 0 ≤ D) (a0 : Nat) (x1 : Int) (x2 : Int) (w : Wd) (r : Wd) (h : Mo_wrong_0 a0 x1 x2 w = some r) : Rn g l D 159 0 [(0, .inr (.inr a0)), (1, .inl x1), (2, .inl x2)] [] w none r := by
  unfold Mo_wrong_0 at h
  refine fr_aload_n i159_0 rfl ?_
  obtain ⟨v1, h1, h⟩ := Option.bind_eq_some_iff.mp h
  refine fr_gR (k := 6) i159_1 tf12_6 h1 ?_
  refine rn_iload_n i159_4 rfl ?_
  obtain ⟨v5, h5, h⟩ := Option.bind_eq_some_iff.mp h
  refine rn_iald i159_5 h5 ?_
  refine rn_istore_n (ls1 := [(3, .inl v5), (0, .inr (.inr a0)), (1, .inl x1), (2, .inl x2)]) i159_6 rfl ?_
  refine fr_aload_n i159_7 rfl ?_
  obtain ⟨v8, h8, h⟩ := Option.bind_eq_some_iff.mp h
  refine fr_gI (k := 13) i159_8 tf12_13 h8 ?_
  by_cases c11 : (0 : Int) < v8
  · rw [if_pos c11] at h
    refine rn_if_gt_t i159_11 c11 ?_
    exact rn_sub [] rfl (s_Mo_wrong_45 hD w r h)
  · rw [if_neg c11] at h
    refine rn_if_gt_f i159_11 c11 ?_
    refine fr_aload_n i159_14 rfl ?_
    obtain ⟨v15, h15, h⟩ := Option.bind_eq_some_iff.mp h
    refine fr_gI (k := 15) i159_15 tf12_15 h15 ?_
    by_cases c18 : (v15 : Int) = 0
    · rw [if_pos c18] at h
      refine rn_if_eq_t i159_18 c18 ?_
      exact rn_sub [1, 2, 0] rfl (s_Mo_wrong_46 hD a0 x1 v5 w r h)
    · rw [if_neg c18] at h
      refine rn_if_eq_f i159_18 c18 ?_
      refine rn_iload_n i159_21 rfl ?_
      refine fr_aload_n i159_22 rfl ?_
      obtain ⟨v23, h23, h⟩ := Option.bind_eq_some_iff.mp h
      refine fr_gI (k := 16) i159_23 tf12_16 h23 ?_
      by_cases c26 : (v23 : Int) < v5
      · rw [if_pos c26] at h
        refine rn_icmp_gt_t i159_26 c26 ?_
        exact rn_sub [] rfl (s_Mo_wrong_45 hD w r h)
      · rw [if_neg c26] at h
        refine rn_icmp_gt_f i159_26 c26 ?_
        refine rn_iload_n i159_29 rfl ?_
        refine fr_aload_n i159_30 rfl ?_
        obtain ⟨v31, h31, h⟩ := Option.bind_eq_some_iff.mp h
        refine fr_gI (k := 16) i159_31 tf12_16 h31 ?_
        by_cases c34 : (v5 : Int) = v31
        · rw [if_pos c34] at h
          refine rn_icmp_ne_f i159_34 c34 ?_
          refine rn_iload_n i159_37 rfl ?_
          refine fr_aload_n i159_38 rfl ?_
          obtain ⟨v39, h39, h⟩ := Option.bind_eq_some_iff.mp h
          refine fr_gI (k := 15) i159_39 tf12_15 h39 ?_
          by_cases c42 : (x1 : Int) < v39
          · rw [if_pos c42] at h
            refine rn_icmp_lt_t i159_42 c42 ?_
            exact rn_sub [1, 2, 0] rfl (s_Mo_wrong_46 hD a0 x1 v5 w r h)
          · rw [if_neg c42] at h
            refine rn_icmp_lt_f i159_42 c42 ?_
            exact rn_sub [] rfl (s_Mo_wrong_45 hD w r h)
        · rw [if_neg c34] at h
          refine rn_icmp_ne_t i159_34 c34 ?_
          exact rn_sub [1, 2, 0] rfl (s_Mo_wrong_46 hD a0 x1 v5 w r h)
/-- HandHeirsModel.wrong(II)V -/
def Mo_wrong (a0 : Nat) (x1 : Int) (x2 : Int) (w : Wd) : Option (Wd) := gd 12 w a0 (Mo_wrong_0 a0 x1 x2 w)
theorem S_Mo_wrong {g : Gp} {l : Launch} (a0 : Nat) (x1 : Int) (x2 : Int) (w : Wd) (r : Wd) (h : Mo_wrong a0 x1 x2 w = some r) : (wsh w a0).1 = 12 ∧ ∀ D, 0 ≤ D → Rn g l D 159 0 [(0, .inr (.inr a0)), (1, .inl x1), (2, .inl x2)] [] w none r := by
  obtain ⟨hg, h⟩ := gd_some h
  exact ⟨hg, fun D hD => rn_sub [0, 1, 2] rfl (s_Mo_wrong_0 hD a0 x1 x2 w r h)⟩
def Mo_goesOn_28 (w : Wd) : Option (Wd) :=
  some w
theorem s_Mo_goesOn_28 {g : Gp} {l : Launch} {D : Nat} (hD : 1 ≤ D) (w : Wd) (r : Wd) (h : Mo_goesOn_28 w = some r) : Rn g l D 160 28 [] [] w none r := by
  unfold Mo_goesOn_28 at h
  obtain rfl := Option.some.inj h
  exact rn_ret i160_28 mr160
def Mo_goesOn_0 (a0 : Nat) (w : Wd) : Option (Wd) :=
  (fgI w a0 12 11).bind fun v1 =>
  if (v1 : Int) = 400 then
    (Mo_fail a0 2 w).bind fun r12 =>
    Mo_goesOn_28 r12
  else
    (fgI w a0 12 11).bind fun v20 =>
    (fpI w a0 12 11 (w32 (v20 + 1))).bind fun w25 =>
    Mo_goesOn_28 w25
theorem s_Mo_goesOn_0 {g : Gp} {l : Launch} {D : Nat} (hD : 1 ≤ D) (a0 : Nat) (w : Wd) (r : Wd) (h : Mo_goesOn_0 a0 w = some r) : Rn g l D 160 0 [(0, .inr (.inr a0))] [] w none r := by
  obtain ⟨D, rfl⟩ : ∃ D1, D = D1 + 1 := ⟨D - 1, by omega⟩
  unfold Mo_goesOn_0 at h
  refine fr_aload_n i160_0 rfl ?_
  obtain ⟨v1, h1, h⟩ := Option.bind_eq_some_iff.mp h
  refine fr_gI (k := 11) i160_1 tf12_11 h1 ?_
  refine rn_sipush i160_4 ?_
  by_cases c7 : (v1 : Int) = 400
  · rw [if_pos c7] at h
    refine rn_icmp_ne_f i160_7 c7 ?_
    refine fr_aload_n i160_10 rfl ?_
    refine rn_iconst i160_11 ?_
    obtain ⟨r12, h12, h⟩ := Option.bind_eq_some_iff.mp h
    obtain ⟨g12, c12⟩ := S_Mo_fail a0 2 w r12 h12
    refine fr_callV (a := a0) (As := [.inl 2]) (st := []) i160_12 (cq158 a0 2) rfl (Nat.le_of_ble_eq_true rfl) g12 (c12 _ (by omega)) ?_
    refine rn_goto i160_15 ?_
    exact rn_sub [] rfl (s_Mo_goesOn_28 hD r12 r h)
  · rw [if_neg c7] at h
    refine rn_icmp_ne_t i160_7 c7 ?_
    refine fr_aload_n i160_18 rfl ?_
    refine rn_dup i160_19 rfl ?_
    obtain ⟨v20, h20, h⟩ := Option.bind_eq_some_iff.mp h
    refine fr_gI (k := 11) i160_20 tf12_11 h20 ?_
    refine rn_iconst i160_23 ?_
    refine rn_iadd i160_24 ?_
    obtain ⟨w25, h25, h⟩ := Option.bind_eq_some_iff.mp h
    refine fr_pI (k := 11) i160_25 (pf12_11 160) h25 ?_
    exact rn_sub [] rfl (s_Mo_goesOn_28 hD w25 r h)
/-- HandHeirsModel.goesOn()V -/
def Mo_goesOn (a0 : Nat) (w : Wd) : Option (Wd) := gd 12 w a0 (Mo_goesOn_0 a0 w)
theorem S_Mo_goesOn {g : Gp} {l : Launch} (a0 : Nat) (w : Wd) (r : Wd) (h : Mo_goesOn a0 w = some r) : (wsh w a0).1 = 12 ∧ ∀ D, 1 ≤ D → Rn g l D 160 0 [(0, .inr (.inr a0))] [] w none r := by
  obtain ⟨hg, h⟩ := gd_some h
  exact ⟨hg, fun D hD => rn_sub [0] rfl (s_Mo_goesOn_0 hD a0 w r h)⟩
def Mo_must_20 (w : Wd) : Option (Wd) :=
  some w
theorem s_Mo_must_20 {g : Gp} {l : Launch} {D : Nat} (hD : 2 ≤ D) (w : Wd) (r : Wd) (h : Mo_must_20 w = some r) : Rn g l D 161 20 [] [] w none r := by
  unfold Mo_must_20 at h
  obtain rfl := Option.some.inj h
  exact rn_ret i161_20 mr161
def Mo_must_0 (a0 : Nat) (x1 : Int) (w : Wd) : Option (Wd) :=
  (Mo_is a0 x1 w).bind fun r2 =>
  if (r2.1 : Int) = 0 then
    (Mo_fail a0 1 r2.2).bind fun r17 =>
    Mo_must_20 r17
  else
    (Mo_goesOn a0 r2.2).bind fun r9 =>
    Mo_must_20 r9
theorem s_Mo_must_0 {g : Gp} {l : Launch} {D : Nat} (hD : 2 ≤ D) (a0 : Nat) (x1 : Int) (w : Wd) (r : Wd) (h : Mo_must_0 a0 x1 w = some r) : Rn g l D 161 0 [(0, .inr (.inr a0)), (1, .inl x1)] [] w none r := by
  obtain ⟨D, rfl⟩ : ∃ D1, D = D1 + 1 := ⟨D - 1, by omega⟩
  unfold Mo_must_0 at h
  refine fr_aload_n i161_0 rfl ?_
  refine rn_iload_n i161_1 rfl ?_
  obtain ⟨r2, h2, h⟩ := Option.bind_eq_some_iff.mp h
  obtain ⟨g2, c2⟩ := S_Mo_is a0 x1 w r2 h2
  refine fr_callV (a := a0) (As := [.inl x1]) (st := []) i161_2 (cq157 a0 x1) rfl (Nat.le_of_ble_eq_true rfl) g2 (c2 _ (by omega)) ?_
  show Rn _ _ _ _ _ _ [.inl r2.1] _ _ _
  by_cases c5 : (r2.1 : Int) = 0
  · rw [if_pos c5] at h
    refine rn_if_eq_t i161_5 c5 ?_
    refine fr_aload_n i161_15 rfl ?_
    refine rn_iconst i161_16 ?_
    obtain ⟨r17, h17, h⟩ := Option.bind_eq_some_iff.mp h
    obtain ⟨g17, c17⟩ := S_Mo_fail a0 1 r2.2 r17 h17
    refine fr_callV (a := a0) (As := [.inl 1]) (st := []) i161_17 (cq158 a0 1) rfl (Nat.le_of_ble_eq_true rfl) g17 (c17 _ (by omega)) ?_
    exact rn_sub [] rfl (s_Mo_must_20 hD r17 r h)
  · rw [if_neg c5] at h
    refine rn_if_eq_f i161_5 c5 ?_
    refine fr_aload_n i161_8 rfl ?_
    obtain ⟨r9, h9, h⟩ := Option.bind_eq_some_iff.mp h
    obtain ⟨g9, c9⟩ := S_Mo_goesOn a0 r2.2 r9 h9
    refine fr_callV (a := a0) (As := []) (st := []) i161_9 (cq160 a0) rfl (Nat.le_of_ble_eq_true rfl) g9 (c9 _ (by omega)) ?_
    refine rn_goto i161_12 ?_
    exact rn_sub [] rfl (s_Mo_must_20 hD r9 r h)
/-- HandHeirsModel.must(I)V -/
def Mo_must (a0 : Nat) (x1 : Int) (w : Wd) : Option (Wd) := gd 12 w a0 (Mo_must_0 a0 x1 w)
theorem S_Mo_must {g : Gp} {l : Launch} (a0 : Nat) (x1 : Int) (w : Wd) (r : Wd) (h : Mo_must a0 x1 w = some r) : (wsh w a0).1 = 12 ∧ ∀ D, 2 ≤ D → Rn g l D 161 0 [(0, .inr (.inr a0)), (1, .inl x1)] [] w none r := by
  obtain ⟨hg, h⟩ := gd_some h
  exact ⟨hg, fun D hD => rn_sub [0, 1] rfl (s_Mo_must_0 hD a0 x1 w r h)⟩
def Mo_roomFor_21 (w : Wd) : Option (Wd) :=
  some w
theorem s_Mo_roomFor_21 {g : Gp} {l : Launch} {D : Nat} (hD : 2 ≤ D) (w : Wd) (r : Wd) (h : Mo_roomFor_21 w = some r) : Rn g l D 165 21 [] [] w none r := by
  unfold Mo_roomFor_21 at h
  obtain rfl := Option.some.inj h
  exact rn_ret i165_21 mr165
def Mo_roomFor_10 (a0 : Nat) (w : Wd) : Option (Wd) :=
  (fgI w a0 12 13).bind fun v11 =>
  if (v11 : Int) = 0 then
    (Mo_goesOn a0 w).bind fun r18 =>
    Mo_roomFor_21 r18
  else
    Mo_roomFor_21 w
theorem s_Mo_roomFor_10 {g : Gp} {l : Launch} {D : Nat} (hD : 2 ≤ D) (a0 : Nat) (w : Wd) (r : Wd) (h : Mo_roomFor_10 a0 w = some r) : Rn g l D 165 10 [(0, .inr (.inr a0))] [] w none r := by
  obtain ⟨D, rfl⟩ : ∃ D1, D = D1 + 1 := ⟨D - 1, by omega⟩
  unfold Mo_roomFor_10 at h
  refine fr_aload_n i165_10 rfl ?_
  obtain ⟨v11, h11, h⟩ := Option.bind_eq_some_iff.mp h
  refine fr_gI (k := 13) i165_11 tf12_13 h11 ?_
  by_cases c14 : (v11 : Int) = 0
  · rw [if_pos c14] at h
    refine rn_if_ne_f i165_14 c14 ?_
    refine fr_aload_n i165_17 rfl ?_
    obtain ⟨r18, h18, h⟩ := Option.bind_eq_some_iff.mp h
    obtain ⟨g18, c18⟩ := S_Mo_goesOn a0 w r18 h18
    refine fr_callV (a := a0) (As := []) (st := []) i165_18 (cq160 a0) rfl (Nat.le_of_ble_eq_true rfl) g18 (c18 _ (by omega)) ?_
    exact rn_sub [] rfl (s_Mo_roomFor_21 hD r18 r h)
  · rw [if_neg c14] at h
    refine rn_if_ne_t i165_14 c14 ?_
    exact rn_sub [] rfl (s_Mo_roomFor_21 hD w r h)
def Mo_roomFor_0 (a0 : Nat) (x1 : Int) (x2 : Int) (w : Wd) : Option (Wd) :=
  if (x1 : Int) = x2 then
    (Mo_fail a0 2 w).bind fun r7 =>
    Mo_roomFor_10 a0 r7
  else
    Mo_roomFor_10 a0 w
theorem s_Mo_roomFor_0 {g : Gp} {l : Launch} {D : Nat} (hD : 2 ≤ D) (a0 : Nat) (x1 : Int) (x2 : Int) (w : Wd) (r : Wd) (h : Mo_roomFor_0 a0 x1 x2 w = some r) : Rn g l D 165 0 [(0, .inr (.inr a0)), (1, .inl x1), (2, .inl x2)] [] w none r := by
  obtain ⟨D, rfl⟩ : ∃ D1, D = D1 + 1 := ⟨D - 1, by omega⟩
  unfold Mo_roomFor_0 at h
  refine rn_iload_n i165_0 rfl ?_
  refine rn_iload_n i165_1 rfl ?_
  by_cases c2 : (x1 : Int) = x2
  · rw [if_pos c2] at h
    refine rn_icmp_ne_f i165_2 c2 ?_
    refine fr_aload_n i165_5 rfl ?_
    refine rn_iconst i165_6 ?_
    obtain ⟨r7, h7, h⟩ := Option.bind_eq_some_iff.mp h
    obtain ⟨g7, c7⟩ := S_Mo_fail a0 2 w r7 h7
    refine fr_callV (a := a0) (As := [.inl 2]) (st := []) i165_7 (cq158 a0 2) rfl (Nat.le_of_ble_eq_true rfl) g7 (c7 _ (by omega)) ?_
    exact rn_sub [0] rfl (s_Mo_roomFor_10 hD a0 r7 r h)
  · rw [if_neg c2] at h
    refine rn_icmp_ne_t i165_2 c2 ?_
    exact rn_sub [0] rfl (s_Mo_roomFor_10 hD a0 w r h)
/-- HandHeirsModel.roomFor(II)V -/
def Mo_roomFor (a0 : Nat) (x1 : Int) (x2 : Int) (w : Wd) : Option (Wd) := gd 12 w a0 (Mo_roomFor_0 a0 x1 x2 w)
theorem S_Mo_roomFor {g : Gp} {l : Launch} (a0 : Nat) (x1 : Int) (x2 : Int) (w : Wd) (r : Wd) (h : Mo_roomFor a0 x1 x2 w = some r) : (wsh w a0).1 = 12 ∧ ∀ D, 2 ≤ D → Rn g l D 165 0 [(0, .inr (.inr a0)), (1, .inl x1), (2, .inl x2)] [] w none r := by
  obtain ⟨hg, h⟩ := gd_some h
  exact ⟨hg, fun D hD => rn_sub [0, 1, 2] rfl (s_Mo_roomFor_0 hD a0 x1 x2 w r h)⟩
def Mo_known_54 (a0 : Nat) (x2 : Int) (w : Wd) : Option (Int × Wd) :=
  (fgR w a0 12 22).bind fun v55 =>
  (rdI w v55 x2).bind fun v59 =>
  some (v59, w)
theorem s_Mo_known_54 {g : Gp} {l : Launch} {D : Nat} (hD : 3 ≤ D) (a0 : Nat) (x2 : Int) (w : Wd) (r : Int × Wd) (h : Mo_known_54 a0 x2 w = some r) : Rn g l D 169 54 [(0, .inr (.inr a0)), (2, .inl x2)] [] w (some (.inl r.1)) r.2 := by
  unfold Mo_known_54 at h
  refine fr_aload_n i169_54 rfl ?_
  obtain ⟨v55, h55, h⟩ := Option.bind_eq_some_iff.mp h
  refine fr_gR (k := 22) i169_55 tf12_22 h55 ?_
  refine rn_iload_n i169_58 rfl ?_
  obtain ⟨v59, h59, h⟩ := Option.bind_eq_some_iff.mp h
  refine rn_iald i169_59 h59 ?_
  obtain rfl := Option.some.inj h
  exact rn_retI i169_60 mr169
def Mo_known_61 (k21 : Nat → Int → Int → Wd → Option (Int × Wd)) (a0 : Nat) (x1 : Int) (x2 : Int) (w : Wd) : Option (Int × Wd) :=
  k21 a0 x1 (w32 (x2 + 1)) w
theorem s_Mo_known_61 {g : Gp} {l : Launch} {D : Nat} (hD : 3 ≤ D) (k21 : Nat → Int → Int → Wd → Option (Int × Wd)) (hk21 : ∀ (a0 : Nat) (x1 : Int) (x2 : Int) (w : Wd) (r : Int × Wd), k21 a0 x1 x2 w = some r → Rn g l D 169 21 [(0, .inr (.inr a0)), (1, .inl x1), (2, .inl x2)] [] w (some (.inl r.1)) r.2) (a0 : Nat) (x1 : Int) (x2 : Int) (w : Wd) (r : Int × Wd) (h : Mo_known_61 k21 a0 x1 x2 w = some r) : Rn g l D 169 61 [(0, .inr (.inr a0)), (1, .inl x1), (2, .inl x2)] [] w (some (.inl r.1)) r.2 := by
  unfold Mo_known_61 at h
  refine rn_iinc (ls1 := [(2, .inl (w32 (x2 + 1))), (0, .inr (.inr a0)), (1, .inl x1)]) i169_61 rfl rfl ?_
  refine rn_goto i169_64 ?_
  exact rn_sub [1, 2, 0] rfl (hk21 a0 x1 (w32 (x2 + 1)) w r h)
def Mo_known_67 (a0 : Nat) (x1 : Int) (w : Wd) : Option (Int × Wd) :=
  (Mo_wrong a0 4 x1 w).bind fun r70 =>
  some ((-1), r70)
theorem s_Mo_known_67 {g : Gp} {l : Launch} {D : Nat} (hD : 3 ≤ D) (a0 : Nat) (x1 : Int) (w : Wd) (r : Int × Wd) (h : Mo_known_67 a0 x1 w = some r) : Rn g l D 169 67 [(0, .inr (.inr a0)), (1, .inl x1)] [] w (some (.inl r.1)) r.2 := by
  obtain ⟨D, rfl⟩ : ∃ D1, D = D1 + 1 := ⟨D - 1, by omega⟩
  unfold Mo_known_67 at h
  refine fr_aload_n i169_67 rfl ?_
  refine rn_iconst i169_68 ?_
  refine rn_iload_n i169_69 rfl ?_
  obtain ⟨r70, h70, h⟩ := Option.bind_eq_some_iff.mp h
  obtain ⟨g70, c70⟩ := S_Mo_wrong a0 4 x1 w r70 h70
  refine fr_callV (a := a0) (As := [.inl 4, .inl x1]) (st := []) i169_70 (cq159 a0 4 x1) rfl (Nat.le_of_ble_eq_true rfl) g70 (c70 _ (by omega)) ?_
  refine rn_iconst i169_73 ?_
  obtain rfl := Option.some.inj h
  exact rn_retI i169_74 mr169
def Mo_known_21 : Nat → Nat → Int → Int → Wd → Option (Int × Wd)
  | 0, _, _, _, _ => none
  | n + 1, a0, x1, x2, w =>
    (fgI w a0 12 20).bind fun v23 =>
    if (v23 : Int) ≤ x2 then
      Mo_known_67 a0 x1 w
    else
      (fgR w a0 12 21).bind fun v30 =>
      (rdL w v30 x2).bind fun v34 =>
      (fgR w a0 12 8).bind fun v36 =>
      (rdL w v36 x1).bind fun v40 =>
      if ((ocmp v34 v40) : Int) = 0 then
        (fgR w a0 12 22).bind fun v46 =>
        (rdI w v46 x2).bind fun v50 =>
        if (v50 : Int) < 0 then
          Mo_known_61 (Mo_known_21 n) a0 x1 x2 w
        else
          Mo_known_54 a0 x2 w
      else
        Mo_known_61 (Mo_known_21 n) a0 x1 x2 w
theorem s_Mo_known_21 {g : Gp} {l : Launch} {D : Nat} (hD : 3 ≤ D) : ∀ (n : Nat) (a0 : Nat) (x1 : Int) (x2 : Int) (w : Wd) (r : Int × Wd), Mo_known_21 n a0 x1 x2 w = some r → Rn g l D 169 21 [(0, .inr (.inr a0)), (1, .inl x1), (2, .inl x2)] [] w (some (.inl r.1)) r.2 := by
  intro n
  induction n with
  | zero => intro a0 x1 x2 w r h; cases (show (none : Option (Int × Wd)) = some r from h)
  | succ n ih =>
    intro a0 x1 x2 w r h
    unfold Mo_known_21 at h
    refine rn_iload_n i169_21 rfl ?_
    refine fr_aload_n i169_22 rfl ?_
    obtain ⟨v23, h23, h⟩ := Option.bind_eq_some_iff.mp h
    refine fr_gI (k := 20) i169_23 tf12_20 h23 ?_
    by_cases c26 : (v23 : Int) ≤ x2
    · rw [if_pos c26] at h
      refine rn_icmp_ge_t i169_26 c26 ?_
      exact rn_sub [0, 1] rfl (s_Mo_known_67 hD a0 x1 w r h)
    · rw [if_neg c26] at h
      refine rn_icmp_ge_f i169_26 c26 ?_
      refine fr_aload_n i169_29 rfl ?_
      obtain ⟨v30, h30, h⟩ := Option.bind_eq_some_iff.mp h
      refine fr_gR (k := 21) i169_30 tf12_21 h30 ?_
      refine rn_iload_n i169_33 rfl ?_
      obtain ⟨v34, h34, h⟩ := Option.bind_eq_some_iff.mp h
      refine rn_lald i169_34 h34 ?_
      refine fr_aload_n i169_35 rfl ?_
      obtain ⟨v36, h36, h⟩ := Option.bind_eq_some_iff.mp h
      refine fr_gR (k := 8) i169_36 tf12_8 h36 ?_
      refine rn_iload_n i169_39 rfl ?_
      obtain ⟨v40, h40, h⟩ := Option.bind_eq_some_iff.mp h
      refine rn_lald i169_40 h40 ?_
      refine rn_lcmp i169_41 ?_
      by_cases c42 : ((ocmp v34 v40) : Int) = 0
      · rw [if_pos c42] at h
        refine rn_if_ne_f i169_42 c42 ?_
        refine fr_aload_n i169_45 rfl ?_
        obtain ⟨v46, h46, h⟩ := Option.bind_eq_some_iff.mp h
        refine fr_gR (k := 22) i169_46 tf12_22 h46 ?_
        refine rn_iload_n i169_49 rfl ?_
        obtain ⟨v50, h50, h⟩ := Option.bind_eq_some_iff.mp h
        refine rn_iald i169_50 h50 ?_
        by_cases c51 : (v50 : Int) < 0
        · rw [if_pos c51] at h
          refine rn_if_lt_t i169_51 c51 ?_
          exact rn_sub [0, 1, 2] rfl (s_Mo_known_61 hD (Mo_known_21 n) ih a0 x1 x2 w r h)
        · rw [if_neg c51] at h
          refine rn_if_lt_f i169_51 c51 ?_
          exact rn_sub [0, 2] rfl (s_Mo_known_54 hD a0 x2 w r h)
      · rw [if_neg c42] at h
        refine rn_if_ne_t i169_42 c42 ?_
        exact rn_sub [0, 1, 2] rfl (s_Mo_known_61 hD (Mo_known_21 n) ih a0 x1 x2 w r h)
def Mo_known_0 (a0 : Nat) (w : Wd) : Option (Int × Wd) :=
  (fgI w a0 12 11).bind fun v1 =>
  (Mo_must a0 1 w).bind fun r7 =>
  (fgI r7 a0 12 13).bind fun v11 =>
  if (v11 : Int) ≤ 0 then
    Mo_known_21 FU a0 v1 0 r7
  else
    some ((-1), r7)
theorem s_Mo_known_0 {g : Gp} {l : Launch} {D : Nat} (hD : 3 ≤ D) (a0 : Nat) (w : Wd) (r : Int × Wd) (h : Mo_known_0 a0 w = some r) : Rn g l D 169 0 [(0, .inr (.inr a0))] [] w (some (.inl r.1)) r.2 := by
  obtain ⟨D, rfl⟩ : ∃ D1, D = D1 + 1 := ⟨D - 1, by omega⟩
  unfold Mo_known_0 at h
  refine fr_aload_n i169_0 rfl ?_
  obtain ⟨v1, h1, h⟩ := Option.bind_eq_some_iff.mp h
  refine fr_gI (k := 11) i169_1 tf12_11 h1 ?_
  refine rn_istore_n (ls1 := [(1, .inl v1), (0, .inr (.inr a0))]) i169_4 rfl ?_
  refine fr_aload_n i169_5 rfl ?_
  refine rn_iconst i169_6 ?_
  obtain ⟨r7, h7, h⟩ := Option.bind_eq_some_iff.mp h
  obtain ⟨g7, c7⟩ := S_Mo_must a0 1 w r7 h7
  refine fr_callV (a := a0) (As := [.inl 1]) (st := []) i169_7 (cq161 a0 1) rfl (Nat.le_of_ble_eq_true rfl) g7 (c7 _ (by omega)) ?_
  refine fr_aload_n i169_10 rfl ?_
  obtain ⟨v11, h11, h⟩ := Option.bind_eq_some_iff.mp h
  refine fr_gI (k := 13) i169_11 tf12_13 h11 ?_
  by_cases c14 : (v11 : Int) ≤ 0
  · rw [if_pos c14] at h
    refine rn_if_le_t i169_14 c14 ?_
    refine rn_iconst i169_19 ?_
    refine rn_istore_n (ls1 := [(2, .inl 0), (1, .inl v1), (0, .inr (.inr a0))]) i169_20 rfl ?_
    exact rn_sub [2, 1, 0] rfl (s_Mo_known_21 hD FU a0 v1 0 r7 r h)
  · rw [if_neg c14] at h
    refine rn_if_le_f i169_14 c14 ?_
    refine rn_iconst i169_17 ?_
    obtain rfl := Option.some.inj h
    exact rn_retI i169_18 mr169
/-- HandHeirsModel.known()I -/
def Mo_known (a0 : Nat) (w : Wd) : Option (Int × Wd) := gd 12 w a0 (Mo_known_0 a0 w)
theorem S_Mo_known {g : Gp} {l : Launch} (a0 : Nat) (w : Wd) (r : Int × Wd) (h : Mo_known a0 w = some r) : (wsh w a0).1 = 12 ∧ ∀ D, 3 ≤ D → Rn g l D 169 0 [(0, .inr (.inr a0))] [] w (some (.inl r.1)) r.2 := by
  obtain ⟨hg, h⟩ := gd_some h
  exact ⟨hg, fun D hD => rn_sub [0] rfl (s_Mo_known_0 hD a0 w r h)⟩
