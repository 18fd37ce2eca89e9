theorem i223_0 : ins 223 0 = some (.aload_n 0, 1, 0, 0) := by decide +kernel
theorem i223_1 : ins 223 1 = some (.iload_n 1, 2, 0, 0) := by decide +kernel
theorem i223_2 : ins 223 2 = some (.invokevirtual 387, 5, 183, 0) := by decide +kernel
theorem i223_5 : ins 223 5 = some (.ifCond .eq (13), 8, 18, 0) := by decide +kernel
theorem i223_8 : ins 223 8 = some (.iload_n 2, 9, 0, 0) := by decide +kernel
theorem i223_9 : ins 223 9 = some (.iconst (1), 10, 0, 1) := by decide +kernel
theorem i223_10 : ins 223 10 = some (.bipush (50), 12, 0, 50) := by decide +kernel
theorem i223_12 : ins 223 12 = some (.invokestatic 311, 15, 181, 0) := by decide +kernel
theorem i223_15 : ins 223 15 = some (.ifCond .ne (5), 18, 20, 0) := by decide +kernel
theorem i223_18 : ins 223 18 = some (.iconst (-1), 19, 0, -1) := by decide +kernel
theorem i223_19 : ins 223 19 = some (.ireturn, 20, 0, 0) := by decide +kernel
theorem i223_20 : ins 223 20 = some (.aload_n 0, 21, 0, 0) := by decide +kernel
theorem i223_21 : ins 223 21 = some (.invokevirtual 390, 24, 187, 0) := by decide +kernel
theorem i223_24 : ins 223 24 = some (.iconst (0), 25, 0, 0) := by decide +kernel
theorem i223_25 : ins 223 25 = some (.istore_n 3, 26, 0, 0) := by decide +kernel
theorem i223_26 : ins 223 26 = some (.aload_n 0, 27, 0, 0) := by decide +kernel
theorem i223_27 : ins 223 27 = some (.iconst (0), 28, 0, 0) := by decide +kernel
theorem i223_28 : ins 223 28 = some (.putfield 315, 31, 12, 51) := by decide +kernel
theorem i223_31 : ins 223 31 = some (.aload_n 0, 32, 0, 0) := by decide +kernel
theorem i223_32 : ins 223 32 = some (.getfield 315, 35, 12, 51) := by decide +kernel
theorem i223_35 : ins 223 35 = some (.iload_n 2, 36, 0, 0) := by decide +kernel
theorem i223_36 : ins 223 36 = some (.if_icmp .ge (27), 39, 63, 0) := by decide +kernel
theorem i223_39 : ins 223 39 = some (.aload_n 0, 40, 0, 0) := by decide +kernel
theorem i223_40 : ins 223 40 = some (.invokevirtual 378, 43, 200, 0) := by decide +kernel
theorem i223_43 : ins 223 43 = some (.iload_n 1, 44, 0, 0) := by decide +kernel
theorem i223_44 : ins 223 44 = some (.if_icmp .ne (6), 47, 50, 0) := by decide +kernel
theorem i223_47 : ins 223 47 = some (.iinc 3 (1), 50, 0, 1) := by decide +kernel
theorem i223_50 : ins 223 50 = some (.aload_n 0, 51, 0, 0) := by decide +kernel
theorem i223_51 : ins 223 51 = some (.dup, 52, 0, 0) := by decide +kernel
theorem i223_52 : ins 223 52 = some (.getfield 315, 55, 12, 51) := by decide +kernel
theorem i223_55 : ins 223 55 = some (.iconst (1), 56, 0, 1) := by decide +kernel
theorem i223_56 : ins 223 56 = some (.iadd, 57, 0, 0) := by decide +kernel
theorem i223_57 : ins 223 57 = some (.putfield 315, 60, 12, 51) := by decide +kernel
theorem i223_60 : ins 223 60 = some (.goto (-29), 63, 31, 0) := by decide +kernel
theorem i223_63 : ins 223 63 = some (.iload_n 3, 64, 0, 0) := by decide +kernel
theorem i223_64 : ins 223 64 = some (.ireturn, 65, 0, 0) := by decide +kernel
theorem i224_0 : ins 224 0 = some (.aload_n 0, 1, 0, 0) := by decide +kernel
theorem i224_1 : ins 224 1 = some (.iload_n 1, 2, 0, 0) := by decide +kernel
theorem i224_2 : ins 224 2 = some (.invokevirtual 387, 5, 183, 0) := by decide +kernel
theorem i224_5 : ins 224 5 = some (.ifCond .ne (5), 8, 10, 0) := by decide +kernel
theorem i224_8 : ins 224 8 = some (.iconst (-1), 9, 0, -1) := by decide +kernel
theorem i224_9 : ins 224 9 = some (.ireturn, 10, 0, 0) := by decide +kernel
theorem i224_10 : ins 224 10 = some (.aload_n 0, 11, 0, 0) := by decide +kernel
theorem i224_11 : ins 224 11 = some (.invokevirtual 390, 14, 187, 0) := by decide +kernel
theorem i224_14 : ins 224 14 = some (.aload_n 0, 15, 0, 0) := by decide +kernel
theorem i224_15 : ins 224 15 = some (.iload_n 1, 16, 0, 0) := by decide +kernel
theorem i224_16 : ins 224 16 = some (.putfield 321, 19, 12, 53) := by decide +kernel
theorem i224_19 : ins 224 19 = some (.aload_n 0, 20, 0, 0) := by decide +kernel
theorem i224_20 : ins 224 20 = some (.invokevirtual 378, 23, 200, 0) := by decide +kernel
theorem i224_23 : ins 224 23 = some (.invokestatic 396, 26, 209, 0) := by decide +kernel
theorem i224_26 : ins 224 26 = some (.ireturn, 27, 0, 0) := by decide +kernel
theorem i225_0 : ins 225 0 = some (.aload_n 0, 1, 0, 0) := by decide +kernel
theorem i225_1 : ins 225 1 = some (.iload_n 1, 2, 0, 0) := by decide +kernel
theorem i225_2 : ins 225 2 = some (.invokevirtual 393, 5, 184, 0) := by decide +kernel
theorem i225_5 : ins 225 5 = some (.ifCond .eq (13), 8, 18, 0) := by decide +kernel
theorem i225_8 : ins 225 8 = some (.iload_n 2, 9, 0, 0) := by decide +kernel
theorem i225_9 : ins 225 9 = some (.iconst (1), 10, 0, 1) := by decide +kernel
theorem i225_10 : ins 225 10 = some (.bipush (100), 12, 0, 100) := by decide +kernel
theorem i225_12 : ins 225 12 = some (.invokestatic 311, 15, 181, 0) := by decide +kernel
theorem i225_15 : ins 225 15 = some (.ifCond .ne (5), 18, 20, 0) := by decide +kernel
theorem i225_18 : ins 225 18 = some (.iconst (-1), 19, 0, -1) := by decide +kernel
theorem i225_19 : ins 225 19 = some (.ireturn, 20, 0, 0) := by decide +kernel
theorem i225_20 : ins 225 20 = some (.aload_n 0, 21, 0, 0) := by decide +kernel
theorem i225_21 : ins 225 21 = some (.invokevirtual 390, 24, 187, 0) := by decide +kernel
theorem i225_24 : ins 225 24 = some (.iconst (0), 25, 0, 0) := by decide +kernel
theorem i225_25 : ins 225 25 = some (.istore_n 3, 26, 0, 0) := by decide +kernel
theorem i225_26 : ins 225 26 = some (.iconst (0), 27, 0, 0) := by decide +kernel
theorem i225_27 : ins 225 27 = some (.istore 4, 29, 0, 0) := by decide +kernel
theorem i225_29 : ins 225 29 = some (.iload 4, 31, 0, 0) := by decide +kernel
theorem i225_31 : ins 225 31 = some (.iload_n 2, 32, 0, 0) := by decide +kernel
theorem i225_32 : ins 225 32 = some (.if_icmp .ge (41), 35, 73, 0) := by decide +kernel
theorem i225_35 : ins 225 35 = some (.aload_n 0, 36, 0, 0) := by decide +kernel
theorem i225_36 : ins 225 36 = some (.invokevirtual 406, 39, 203, 0) := by decide +kernel
theorem i225_39 : ins 225 39 = some (.aload_n 0, 40, 0, 0) := by decide +kernel
theorem i225_40 : ins 225 40 = some (.getfield 122, 43, 12, 57) := by decide +kernel
theorem i225_43 : ins 225 43 = some (.iload_n 1, 44, 0, 0) := by decide +kernel
theorem i225_44 : ins 225 44 = some (.iaload, 45, 0, 0) := by decide +kernel
theorem i225_45 : ins 225 45 = some (.ifCond .lt (22), 48, 67, 0) := by decide +kernel
theorem i225_48 : ins 225 48 = some (.aload_n 0, 49, 0, 0) := by decide +kernel
theorem i225_49 : ins 225 49 = some (.getfield 122, 52, 12, 57) := by decide +kernel
theorem i225_52 : ins 225 52 = some (.iload_n 1, 53, 0, 0) := by decide +kernel
theorem i225_53 : ins 225 53 = some (.iaload, 54, 0, 0) := by decide +kernel
theorem i225_54 : ins 225 54 = some (.aload_n 0, 55, 0, 0) := by decide +kernel
theorem i225_55 : ins 225 55 = some (.getfield 116, 58, 12, 50) := by decide +kernel
theorem i225_58 : ins 225 58 = some (.bipush (43), 60, 0, 43) := by decide +kernel
theorem i225_60 : ins 225 60 = some (.iaload, 61, 0, 0) := by decide +kernel
theorem i225_61 : ins 225 61 = some (.if_icmp .eq (6), 64, 67, 0) := by decide +kernel
theorem i225_64 : ins 225 64 = some (.iinc 3 (1), 67, 0, 1) := by decide +kernel
theorem i225_67 : ins 225 67 = some (.iinc 4 (1), 70, 0, 1) := by decide +kernel
theorem i225_70 : ins 225 70 = some (.goto (-41), 73, 29, 0) := by decide +kernel
theorem i225_73 : ins 225 73 = some (.iload_n 3, 74, 0, 0) := by decide +kernel
theorem i225_74 : ins 225 74 = some (.ireturn, 75, 0, 0) := by decide +kernel
theorem i226_0 : ins 226 0 = some (.aload_n 0, 1, 0, 0) := by decide +kernel
theorem i226_1 : ins 226 1 = some (.iload_n 1, 2, 0, 0) := by decide +kernel
theorem i226_2 : ins 226 2 = some (.invokevirtual 387, 5, 183, 0) := by decide +kernel
theorem i226_5 : ins 226 5 = some (.ifCond .eq (22), 8, 27, 0) := by decide +kernel
theorem i226_8 : ins 226 8 = some (.iload_n 2, 9, 0, 0) := by decide +kernel
theorem i226_9 : ins 226 9 = some (.iconst (1), 10, 0, 1) := by decide +kernel
theorem i226_10 : ins 226 10 = some (.bipush (50), 12, 0, 50) := by decide +kernel
theorem i226_12 : ins 226 12 = some (.invokestatic 311, 15, 181, 0) := by decide +kernel
theorem i226_15 : ins 226 15 = some (.ifCond .eq (12), 18, 27, 0) := by decide +kernel
theorem i226_18 : ins 226 18 = some (.iload_n 3, 19, 0, 0) := by decide +kernel
theorem i226_19 : ins 226 19 = some (.iconst (0), 20, 0, 0) := by decide +kernel
theorem i226_20 : ins 226 20 = some (.iconst (1), 21, 0, 1) := by decide +kernel
theorem i226_21 : ins 226 21 = some (.invokestatic 311, 24, 181, 0) := by decide +kernel
theorem i226_24 : ins 226 24 = some (.ifCond .ne (5), 27, 29, 0) := by decide +kernel
theorem i226_27 : ins 226 27 = some (.iconst (-1), 28, 0, -1) := by decide +kernel
theorem i226_28 : ins 226 28 = some (.ireturn, 29, 0, 0) := by decide +kernel
theorem i226_29 : ins 226 29 = some (.bipush (-2), 31, 0, -2) := by decide +kernel
theorem i226_31 : ins 226 31 = some (.istore 4, 33, 0, 0) := by decide +kernel
theorem i226_33 : ins 226 33 = some (.bipush (-2), 35, 0, -2) := by decide +kernel
theorem i226_35 : ins 226 35 = some (.istore 5, 37, 0, 0) := by decide +kernel
theorem i226_37 : ins 226 37 = some (.iconst (0), 38, 0, 0) := by decide +kernel
theorem i226_38 : ins 226 38 = some (.istore 6, 40, 0, 0) := by decide +kernel
theorem i226_40 : ins 226 40 = some (.iload 6, 42, 0, 0) := by decide +kernel
theorem i226_42 : ins 226 42 = some (.aload_n 0, 43, 0, 0) := by decide +kernel
theorem i226_43 : ins 226 43 = some (.getfield 46, 46, 12, 23) := by decide +kernel
theorem i226_46 : ins 226 46 = some (.aload_n 0, 47, 0, 0) := by decide +kernel
theorem i226_47 : ins 226 47 = some (.getfield 228, 50, 12, 18) := by decide +kernel
theorem i226_50 : ins 226 50 = some (.iaload, 51, 0, 0) := by decide +kernel
theorem i226_51 : ins 226 51 = some (.if_icmp .ge (78), 54, 129, 0) := by decide +kernel
theorem i226_54 : ins 226 54 = some (.aload_n 0, 55, 0, 0) := by decide +kernel
theorem i226_55 : ins 226 55 = some (.invokevirtual 390, 58, 187, 0) := by decide +kernel
theorem i226_58 : ins 226 58 = some (.aload_n 0, 59, 0, 0) := by decide +kernel
theorem i226_59 : ins 226 59 = some (.iload_n 1, 60, 0, 0) := by decide +kernel
theorem i226_60 : ins 226 60 = some (.putfield 324, 63, 12, 54) := by decide +kernel
theorem i226_63 : ins 226 63 = some (.aload_n 0, 64, 0, 0) := by decide +kernel
theorem i226_64 : ins 226 64 = some (.iload 6, 66, 0, 0) := by decide +kernel
theorem i226_66 : ins 226 66 = some (.putfield 327, 69, 12, 55) := by decide +kernel
theorem i226_69 : ins 226 69 = some (.iconst (0), 70, 0, 0) := by decide +kernel
theorem i226_70 : ins 226 70 = some (.istore 7, 72, 0, 0) := by decide +kernel
theorem i226_72 : ins 226 72 = some (.iconst (0), 73, 0, 0) := by decide +kernel
theorem i226_73 : ins 226 73 = some (.istore 8, 75, 0, 0) := by decide +kernel
theorem i226_75 : ins 226 75 = some (.iload 8, 77, 0, 0) := by decide +kernel
theorem i226_77 : ins 226 77 = some (.iload_n 2, 78, 0, 0) := by decide +kernel
theorem i226_78 : ins 226 78 = some (.if_icmp .ge (27), 81, 105, 0) := by decide +kernel
theorem i226_81 : ins 226 81 = some (.aload_n 0, 82, 0, 0) := by decide +kernel
theorem i226_82 : ins 226 82 = some (.invokevirtual 406, 85, 203, 0) := by decide +kernel
theorem i226_85 : ins 226 85 = some (.aload_n 0, 86, 0, 0) := by decide +kernel
theorem i226_86 : ins 226 86 = some (.getfield 116, 89, 12, 50) := by decide +kernel
theorem i226_89 : ins 226 89 = some (.bipush (43), 91, 0, 43) := by decide +kernel
theorem i226_91 : ins 226 91 = some (.iaload, 92, 0, 0) := by decide +kernel
theorem i226_92 : ins 226 92 = some (.iload_n 1, 93, 0, 0) := by decide +kernel
theorem i226_93 : ins 226 93 = some (.if_icmp .ne (6), 96, 99, 0) := by decide +kernel
theorem i226_96 : ins 226 96 = some (.iinc 7 (1), 99, 0, 1) := by decide +kernel
theorem i226_99 : ins 226 99 = some (.iinc 8 (1), 102, 0, 1) := by decide +kernel
theorem i226_102 : ins 226 102 = some (.goto (-27), 105, 75, 0) := by decide +kernel
theorem i226_105 : ins 226 105 = some (.iload 7, 107, 0, 0) := by decide +kernel
theorem i226_107 : ins 226 107 = some (.iload 5, 109, 0, 0) := by decide +kernel
theorem i226_109 : ins 226 109 = some (.if_icmp .gt (6), 112, 115, 0) := by decide +kernel
theorem i226_112 : ins 226 112 = some (.goto (11), 115, 123, 0) := by decide +kernel
theorem i226_115 : ins 226 115 = some (.iload 6, 117, 0, 0) := by decide +kernel
theorem i226_117 : ins 226 117 = some (.istore 4, 119, 0, 0) := by decide +kernel
theorem i226_119 : ins 226 119 = some (.iload 7, 121, 0, 0) := by decide +kernel
theorem i226_121 : ins 226 121 = some (.istore 5, 123, 0, 0) := by decide +kernel
theorem i226_123 : ins 226 123 = some (.iinc 6 (1), 126, 0, 1) := by decide +kernel
theorem i226_126 : ins 226 126 = some (.goto (-86), 129, 40, 0) := by decide +kernel
theorem i226_129 : ins 226 129 = some (.iload_n 3, 130, 0, 0) := by decide +kernel
theorem i226_130 : ins 226 130 = some (.ifCond .ne (8), 133, 138, 0) := by decide +kernel
theorem i226_133 : ins 226 133 = some (.iload 4, 135, 0, 0) := by decide +kernel
theorem i226_135 : ins 226 135 = some (.goto (5), 138, 140, 0) := by decide +kernel
theorem i226_138 : ins 226 138 = some (.iload 5, 140, 0, 0) := by decide +kernel
theorem i226_140 : ins 226 140 = some (.ireturn, 141, 0, 0) := by decide +kernel
theorem i227_0 : ins 227 0 = some (.iload_n 1, 1, 0, 0) := by decide +kernel
theorem i227_1 : ins 227 1 = some (.iconst (0), 2, 0, 0) := by decide +kernel
theorem i227_2 : ins 227 2 = some (.iconst (2), 3, 0, 2) := by decide +kernel
theorem i227_3 : ins 227 3 = some (.invokestatic 311, 6, 181, 0) := by decide +kernel
theorem i227_6 : ins 227 6 = some (.ifCond .ne (5), 9, 11, 0) := by decide +kernel
theorem i227_9 : ins 227 9 = some (.iconst (-1), 10, 0, -1) := by decide +kernel
theorem i227_10 : ins 227 10 = some (.ireturn, 11, 0, 0) := by decide +kernel
theorem i227_11 : ins 227 11 = some (.bipush (-2), 13, 0, -2) := by decide +kernel
theorem i227_13 : ins 227 13 = some (.istore_n 2, 14, 0, 0) := by decide +kernel
theorem i227_14 : ins 227 14 = some (.bipush (-2), 16, 0, -2) := by decide +kernel
theorem i227_16 : ins 227 16 = some (.istore_n 3, 17, 0, 0) := by decide +kernel
theorem i227_17 : ins 227 17 = some (.iconst (0), 18, 0, 0) := by decide +kernel
theorem i227_18 : ins 227 18 = some (.istore 4, 20, 0, 0) := by decide +kernel
theorem i227_20 : ins 227 20 = some (.iconst (0), 21, 0, 0) := by decide +kernel
theorem i227_21 : ins 227 21 = some (.istore 5, 23, 0, 0) := by decide +kernel
theorem i227_23 : ins 227 23 = some (.iconst (0), 24, 0, 0) := by decide +kernel
theorem i227_24 : ins 227 24 = some (.istore 6, 26, 0, 0) := by decide +kernel
theorem i227_26 : ins 227 26 = some (.iload 6, 28, 0, 0) := by decide +kernel
theorem i227_28 : ins 227 28 = some (.aload_n 0, 29, 0, 0) := by decide +kernel
theorem i227_29 : ins 227 29 = some (.getfield 113, 32, 12, 49) := by decide +kernel
theorem i227_32 : ins 227 32 = some (.bipush (45), 34, 0, 45) := by decide +kernel
theorem i227_34 : ins 227 34 = some (.iaload, 35, 0, 0) := by decide +kernel
theorem i227_35 : ins 227 35 = some (.if_icmp .ge (91), 38, 126, 0) := by decide +kernel
theorem i227_38 : ins 227 38 = some (.aload_n 0, 39, 0, 0) := by decide +kernel
theorem i227_39 : ins 227 39 = some (.getfield 113, 42, 12, 49) := by decide +kernel
theorem i227_42 : ins 227 42 = some (.bipush (66), 44, 0, 66) := by decide +kernel
theorem i227_44 : ins 227 44 = some (.bipush (7), 46, 0, 7) := by decide +kernel
theorem i227_46 : ins 227 46 = some (.iload 6, 48, 0, 0) := by decide +kernel
theorem i227_48 : ins 227 48 = some (.imul, 49, 0, 0) := by decide +kernel
theorem i227_49 : ins 227 49 = some (.iadd, 50, 0, 0) := by decide +kernel
theorem i227_50 : ins 227 50 = some (.iaload, 51, 0, 0) := by decide +kernel
theorem i227_51 : ins 227 51 = some (.istore 7, 53, 0, 0) := by decide +kernel
theorem i227_53 : ins 227 53 = some (.iload 7, 55, 0, 0) := by decide +kernel
theorem i227_55 : ins 227 55 = some (.ifCond .ge (7), 58, 62, 0) := by decide +kernel
theorem i227_58 : ins 227 58 = some (.iconst (0), 59, 0, 0) := by decide +kernel
theorem i227_59 : ins 227 59 = some (.goto (34), 62, 93, 0) := by decide +kernel
theorem i227_62 : ins 227 62 = some (.iload 6, 64, 0, 0) := by decide +kernel
theorem i227_64 : ins 227 64 = some (.ifCond .le (28), 67, 92, 0) := by decide +kernel
theorem i227_67 : ins 227 67 = some (.aload_n 0, 68, 0, 0) := by decide +kernel
theorem i227_68 : ins 227 68 = some (.getfield 113, 71, 12, 49) := by decide +kernel
theorem i227_71 : ins 227 71 = some (.bipush (59), 73, 0, 59) := by decide +kernel
theorem i227_73 : ins 227 73 = some (.bipush (7), 75, 0, 7) := by decide +kernel
theorem i227_75 : ins 227 75 = some (.iload 6, 77, 0, 0) := by decide +kernel
theorem i227_77 : ins 227 77 = some (.imul, 78, 0, 0) := by decide +kernel
theorem i227_78 : ins 227 78 = some (.iadd, 79, 0, 0) := by decide +kernel
theorem i227_79 : ins 227 79 = some (.iaload, 80, 0, 0) := by decide +kernel
theorem i227_80 : ins 227 80 = some (.iload 7, 82, 0, 0) := by decide +kernel
theorem i227_82 : ins 227 82 = some (.if_icmp .ne (10), 85, 92, 0) := by decide +kernel
theorem i227_85 : ins 227 85 = some (.iload 5, 87, 0, 0) := by decide +kernel
theorem i227_87 : ins 227 87 = some (.iconst (1), 88, 0, 1) := by decide +kernel
theorem i227_88 : ins 227 88 = some (.iadd, 89, 0, 0) := by decide +kernel
theorem i227_89 : ins 227 89 = some (.goto (4), 92, 93, 0) := by decide +kernel
theorem i227_92 : ins 227 92 = some (.iconst (1), 93, 0, 1) := by decide +kernel
theorem i227_93 : ins 227 93 = some (.istore 5, 95, 0, 0) := by decide +kernel
theorem i227_95 : ins 227 95 = some (.iload 5, 97, 0, 0) := by decide +kernel
theorem i227_97 : ins 227 97 = some (.iload 4, 99, 0, 0) := by decide +kernel
theorem i227_99 : ins 227 99 = some (.if_icmp .gt (6), 102, 105, 0) := by decide +kernel
theorem i227_102 : ins 227 102 = some (.goto (18), 105, 120, 0) := by decide +kernel
theorem i227_105 : ins 227 105 = some (.iload 5, 107, 0, 0) := by decide +kernel
theorem i227_107 : ins 227 107 = some (.istore 4, 109, 0, 0) := by decide +kernel
theorem i227_109 : ins 227 109 = some (.iload 6, 111, 0, 0) := by decide +kernel
theorem i227_111 : ins 227 111 = some (.iload 5, 113, 0, 0) := by decide +kernel
theorem i227_113 : ins 227 113 = some (.isub, 114, 0, 0) := by decide +kernel
theorem i227_114 : ins 227 114 = some (.iconst (1), 115, 0, 1) := by decide +kernel
theorem i227_115 : ins 227 115 = some (.iadd, 116, 0, 0) := by decide +kernel
theorem i227_116 : ins 227 116 = some (.istore_n 3, 117, 0, 0) := by decide +kernel
theorem i227_117 : ins 227 117 = some (.iload 7, 119, 0, 0) := by decide +kernel
theorem i227_119 : ins 227 119 = some (.istore_n 2, 120, 0, 0) := by decide +kernel
theorem i227_120 : ins 227 120 = some (.iinc 6 (1), 123, 0, 1) := by decide +kernel
theorem i227_123 : ins 227 123 = some (.goto (-97), 126, 26, 0) := by decide +kernel
theorem i227_126 : ins 227 126 = some (.iload_n 2, 127, 0, 0) := by decide +kernel
theorem i227_127 : ins 227 127 = some (.ifCond .ge (6), 130, 133, 0) := by decide +kernel
theorem i227_130 : ins 227 130 = some (.bipush (-2), 132, 0, -2) := by decide +kernel
theorem i227_132 : ins 227 132 = some (.ireturn, 133, 0, 0) := by decide +kernel
theorem i227_133 : ins 227 133 = some (.iload_n 1, 134, 0, 0) := by decide +kernel
theorem i227_134 : ins 227 134 = some (.ifCond .ne (8), 137, 142, 0) := by decide +kernel
theorem i227_137 : ins 227 137 = some (.iload 4, 139, 0, 0) := by decide +kernel
theorem i227_139 : ins 227 139 = some (.goto (13), 142, 152, 0) := by decide +kernel
theorem i227_142 : ins 227 142 = some (.iload_n 1, 143, 0, 0) := by decide +kernel
theorem i227_143 : ins 227 143 = some (.iconst (1), 144, 0, 1) := by decide +kernel
theorem i227_144 : ins 227 144 = some (.if_icmp .ne (7), 147, 151, 0) := by decide +kernel
theorem i227_147 : ins 227 147 = some (.iload_n 3, 148, 0, 0) := by decide +kernel
theorem i227_148 : ins 227 148 = some (.goto (4), 151, 152, 0) := by decide +kernel
theorem i227_151 : ins 227 151 = some (.iload_n 2, 152, 0, 0) := by decide +kernel
theorem i227_152 : ins 227 152 = some (.ireturn, 153, 0, 0) := by decide +kernel
theorem i228_0 : ins 228 0 = some (.iconst (0), 1, 0, 0) := by decide +kernel
theorem i228_1 : ins 228 1 = some (.istore_n 3, 2, 0, 0) := by decide +kernel
theorem i228_2 : ins 228 2 = some (.iconst (0), 3, 0, 0) := by decide +kernel
theorem i228_3 : ins 228 3 = some (.istore 4, 5, 0, 0) := by decide +kernel
theorem i228_5 : ins 228 5 = some (.iload 4, 7, 0, 0) := by decide +kernel
theorem i228_7 : ins 228 7 = some (.aload_n 0, 8, 0, 0) := by decide +kernel
theorem i228_8 : ins 228 8 = some (.getfield 46, 11, 12, 23) := by decide +kernel
theorem i228_11 : ins 228 11 = some (.aload_n 0, 12, 0, 0) := by decide +kernel
theorem i228_12 : ins 228 12 = some (.getfield 228, 15, 12, 18) := by decide +kernel
theorem i228_15 : ins 228 15 = some (.iaload, 16, 0, 0) := by decide +kernel
theorem i228_16 : ins 228 16 = some (.if_icmp .ge (37), 19, 53, 0) := by decide +kernel
theorem i228_19 : ins 228 19 = some (.iload_n 3, 20, 0, 0) := by decide +kernel
theorem i228_20 : ins 228 20 = some (.aload_n 0, 21, 0, 0) := by decide +kernel
theorem i228_21 : ins 228 21 = some (.getfield 113, 24, 12, 49) := by decide +kernel
theorem i228_24 : ins 228 24 = some (.bipush (6), 26, 0, 6) := by decide +kernel
theorem i228_26 : ins 228 26 = some (.bipush (6), 28, 0, 6) := by decide +kernel
theorem i228_28 : ins 228 28 = some (.iload_n 1, 29, 0, 0) := by decide +kernel
theorem i228_29 : ins 228 29 = some (.imul, 30, 0, 0) := by decide +kernel
theorem i228_30 : ins 228 30 = some (.iadd, 31, 0, 0) := by decide +kernel
theorem i228_31 : ins 228 31 = some (.iload 4, 33, 0, 0) := by decide +kernel
theorem i228_33 : ins 228 33 = some (.iadd, 34, 0, 0) := by decide +kernel
theorem i228_34 : ins 228 34 = some (.iaload, 35, 0, 0) := by decide +kernel
theorem i228_35 : ins 228 35 = some (.aload_n 0, 36, 0, 0) := by decide +kernel
theorem i228_36 : ins 228 36 = some (.iload_n 2, 37, 0, 0) := by decide +kernel
theorem i228_37 : ins 228 37 = some (.iload 4, 39, 0, 0) := by decide +kernel
theorem i228_39 : ins 228 39 = some (.invokevirtual 416, 42, 229, 0) := by decide +kernel
theorem i228_42 : ins 228 42 = some (.invokestatic 346, 45, 191, 0) := by decide +kernel
theorem i228_45 : ins 228 45 = some (.iadd, 46, 0, 0) := by decide +kernel
theorem i228_46 : ins 228 46 = some (.istore_n 3, 47, 0, 0) := by decide +kernel
theorem i228_47 : ins 228 47 = some (.iinc 4 (1), 50, 0, 1) := by decide +kernel
theorem i228_50 : ins 228 50 = some (.goto (-45), 53, 5, 0) := by decide +kernel
theorem i228_53 : ins 228 53 = some (.iload_n 3, 54, 0, 0) := by decide +kernel
theorem i228_54 : ins 228 54 = some (.ireturn, 55, 0, 0) := by decide +kernel
theorem i229_0 : ins 229 0 = some (.iload_n 1, 1, 0, 0) := by decide +kernel
theorem i229_1 : ins 229 1 = some (.aload_n 0, 2, 0, 0) := by decide +kernel
theorem i229_2 : ins 229 2 = some (.getfield 113, 5, 12, 49) := by decide +kernel
theorem i229_5 : ins 229 5 = some (.bipush (45), 7, 0, 45) := by decide +kernel
theorem i229_7 : ins 229 7 = some (.iaload, 8, 0, 0) := by decide +kernel
theorem i229_8 : ins 229 8 = some (.if_icmp .ge (20), 11, 28, 0) := by decide +kernel
theorem i229_11 : ins 229 11 = some (.aload_n 0, 12, 0, 0) := by decide +kernel
theorem i229_12 : ins 229 12 = some (.getfield 113, 15, 12, 49) := by decide +kernel
theorem i229_15 : ins 229 15 = some (.bipush (60), 17, 0, 60) := by decide +kernel
theorem i229_17 : ins 229 17 = some (.bipush (7), 19, 0, 7) := by decide +kernel
theorem i229_19 : ins 229 19 = some (.iload_n 1, 20, 0, 0) := by decide +kernel
theorem i229_20 : ins 229 20 = some (.imul, 21, 0, 0) := by decide +kernel
theorem i229_21 : ins 229 21 = some (.iadd, 22, 0, 0) := by decide +kernel
theorem i229_22 : ins 229 22 = some (.iload_n 2, 23, 0, 0) := by decide +kernel
theorem i229_23 : ins 229 23 = some (.iadd, 24, 0, 0) := by decide +kernel
theorem i229_24 : ins 229 24 = some (.iaload, 25, 0, 0) := by decide +kernel
theorem i229_25 : ins 229 25 = some (.goto (9), 28, 34, 0) := by decide +kernel
theorem i229_28 : ins 229 28 = some (.aload_n 0, 29, 0, 0) := by decide +kernel
theorem i229_29 : ins 229 29 = some (.getfield 113, 32, 12, 49) := by decide +kernel
theorem i229_32 : ins 229 32 = some (.iload_n 2, 33, 0, 0) := by decide +kernel
theorem i229_33 : ins 229 33 = some (.iaload, 34, 0, 0) := by decide +kernel
theorem i229_34 : ins 229 34 = some (.ireturn, 35, 0, 0) := by decide +kernel
theorem i230_0 : ins 230 0 = some (.aload_n 0, 1, 0, 0) := by decide +kernel
theorem i230_1 : ins 230 1 = some (.iload_n 1, 2, 0, 0) := by decide +kernel
theorem i230_2 : ins 230 2 = some (.invokevirtual 387, 5, 183, 0) := by decide +kernel
theorem i230_5 : ins 230 5 = some (.ifCond .eq (12), 8, 17, 0) := by decide +kernel
theorem i230_8 : ins 230 8 = some (.iload_n 2, 9, 0, 0) := by decide +kernel
theorem i230_9 : ins 230 9 = some (.iconst (0), 10, 0, 0) := by decide +kernel
theorem i230_10 : ins 230 10 = some (.iconst (1), 11, 0, 1) := by decide +kernel
theorem i230_11 : ins 230 11 = some (.invokestatic 311, 14, 181, 0) := by decide +kernel
theorem i230_14 : ins 230 14 = some (.ifCond .ne (5), 17, 19, 0) := by decide +kernel
theorem i230_17 : ins 230 17 = some (.iconst (-1), 18, 0, -1) := by decide +kernel
theorem i230_18 : ins 230 18 = some (.ireturn, 19, 0, 0) := by decide +kernel
theorem i230_19 : ins 230 19 = some (.iconst (0), 20, 0, 0) := by decide +kernel
theorem i230_20 : ins 230 20 = some (.istore_n 3, 21, 0, 0) := by decide +kernel
theorem i230_21 : ins 230 21 = some (.iconst (1), 22, 0, 1) := by decide +kernel
theorem i230_22 : ins 230 22 = some (.istore 4, 24, 0, 0) := by decide +kernel
theorem i230_24 : ins 230 24 = some (.iload 4, 26, 0, 0) := by decide +kernel
theorem i230_26 : ins 230 26 = some (.aload_n 0, 27, 0, 0) := by decide +kernel
theorem i230_27 : ins 230 27 = some (.getfield 113, 30, 12, 49) := by decide +kernel
theorem i230_30 : ins 230 30 = some (.bipush (45), 32, 0, 45) := by decide +kernel
theorem i230_32 : ins 230 32 = some (.iaload, 33, 0, 0) := by decide +kernel
theorem i230_33 : ins 230 33 = some (.if_icmp .gt (28), 36, 61, 0) := by decide +kernel
theorem i230_36 : ins 230 36 = some (.aload_n 0, 37, 0, 0) := by decide +kernel
theorem i230_37 : ins 230 37 = some (.iload_n 1, 38, 0, 0) := by decide +kernel
theorem i230_38 : ins 230 38 = some (.iload 4, 40, 0, 0) := by decide +kernel
theorem i230_40 : ins 230 40 = some (.invokevirtual 419, 43, 228, 0) := by decide +kernel
theorem i230_43 : ins 230 43 = some (.aload_n 0, 44, 0, 0) := by decide +kernel
theorem i230_44 : ins 230 44 = some (.iload_n 1, 45, 0, 0) := by decide +kernel
theorem i230_45 : ins 230 45 = some (.iload_n 3, 46, 0, 0) := by decide +kernel
theorem i230_46 : ins 230 46 = some (.invokevirtual 419, 49, 228, 0) := by decide +kernel
theorem i230_49 : ins 230 49 = some (.if_icmp .ge (6), 52, 55, 0) := by decide +kernel
theorem i230_52 : ins 230 52 = some (.iload 4, 54, 0, 0) := by decide +kernel
theorem i230_54 : ins 230 54 = some (.istore_n 3, 55, 0, 0) := by decide +kernel
theorem i230_55 : ins 230 55 = some (.iinc 4 (1), 58, 0, 1) := by decide +kernel
theorem i230_58 : ins 230 58 = some (.goto (-34), 61, 24, 0) := by decide +kernel
theorem i230_61 : ins 230 61 = some (.iload_n 2, 62, 0, 0) := by decide +kernel
theorem i230_62 : ins 230 62 = some (.iconst (1), 63, 0, 1) := by decide +kernel
theorem i230_63 : ins 230 63 = some (.if_icmp .ne (12), 66, 75, 0) := by decide +kernel
theorem i230_66 : ins 230 66 = some (.aload_n 0, 67, 0, 0) := by decide +kernel
theorem i230_67 : ins 230 67 = some (.iload_n 1, 68, 0, 0) := by decide +kernel
theorem i230_68 : ins 230 68 = some (.iload_n 3, 69, 0, 0) := by decide +kernel
theorem i230_69 : ins 230 69 = some (.invokevirtual 419, 72, 228, 0) := by decide +kernel
theorem i230_72 : ins 230 72 = some (.goto (25), 75, 97, 0) := by decide +kernel
theorem i230_75 : ins 230 75 = some (.iload_n 3, 76, 0, 0) := by decide +kernel
theorem i230_76 : ins 230 76 = some (.aload_n 0, 77, 0, 0) := by decide +kernel
theorem i230_77 : ins 230 77 = some (.getfield 113, 80, 12, 49) := by decide +kernel
theorem i230_80 : ins 230 80 = some (.bipush (45), 82, 0, 45) := by decide +kernel
theorem i230_82 : ins 230 82 = some (.iaload, 83, 0, 0) := by decide +kernel
theorem i230_83 : ins 230 83 = some (.if_icmp .ge (7), 86, 90, 0) := by decide +kernel
theorem i230_86 : ins 230 86 = some (.iload_n 3, 87, 0, 0) := by decide +kernel
theorem i230_87 : ins 230 87 = some (.goto (10), 90, 97, 0) := by decide +kernel
theorem i230_90 : ins 230 90 = some (.aload_n 0, 91, 0, 0) := by decide +kernel
theorem i230_91 : ins 230 91 = some (.getfield 113, 94, 12, 49) := by decide +kernel
theorem i230_94 : ins 230 94 = some (.bipush (42), 96, 0, 42) := by decide +kernel
theorem i230_96 : ins 230 96 = some (.iaload, 97, 0, 0) := by decide +kernel
theorem i230_97 : ins 230 97 = some (.ireturn, 98, 0, 0) := by decide +kernel
theorem i231_0 : ins 231 0 = some (.aload_n 0, 1, 0, 0) := by decide +kernel
theorem i231_1 : ins 231 1 = some (.invokevirtual 390, 4, 187, 0) := by decide +kernel
theorem i231_4 : ins 231 4 = some (.iconst (1), 5, 0, 1) := by decide +kernel
theorem i231_5 : ins 231 5 = some (.istore_n 1, 6, 0, 0) := by decide +kernel
theorem i231_6 : ins 231 6 = some (.iload_n 1, 7, 0, 0) := by decide +kernel
theorem i231_7 : ins 231 7 = some (.sipush (200), 10, 0, 200) := by decide +kernel
theorem i231_10 : ins 231 10 = some (.if_icmp .gt (25), 13, 35, 0) := by decide +kernel
theorem i231_13 : ins 231 13 = some (.aload_n 0, 14, 0, 0) := by decide +kernel
theorem i231_14 : ins 231 14 = some (.invokevirtual 406, 17, 203, 0) := by decide +kernel
theorem i231_17 : ins 231 17 = some (.aload_n 0, 18, 0, 0) := by decide +kernel
theorem i231_18 : ins 231 18 = some (.getfield 116, 21, 12, 50) := by decide +kernel
theorem i231_21 : ins 231 21 = some (.bipush (43), 23, 0, 43) := by decide +kernel
theorem i231_23 : ins 231 23 = some (.iaload, 24, 0, 0) := by decide +kernel
theorem i231_24 : ins 231 24 = some (.ifCond .ge (5), 27, 29, 0) := by decide +kernel
theorem i231_27 : ins 231 27 = some (.iload_n 1, 28, 0, 0) := by decide +kernel
theorem i231_28 : ins 231 28 = some (.ireturn, 29, 0, 0) := by decide +kernel
theorem i231_29 : ins 231 29 = some (.iinc 1 (1), 32, 0, 1) := by decide +kernel
theorem i231_32 : ins 231 32 = some (.goto (-26), 35, 6, 0) := by decide +kernel
theorem i231_35 : ins 231 35 = some (.bipush (-2), 37, 0, -2) := by decide +kernel
theorem i231_37 : ins 231 37 = some (.ireturn, 38, 0, 0) := by decide +kernel
theorem i232_0 : ins 232 0 = some (.aload_n 0, 1, 0, 0) := by decide +kernel
theorem i232_1 : ins 232 1 = some (.getfield 249, 4, 12, 63) := by decide +kernel
theorem i232_4 : ins 232 4 = some (.bipush (20), 6, 0, 20) := by decide +kernel
theorem i232_6 : ins 232 6 = some (.if_icmp .eq (21), 9, 27, 0) := by decide +kernel
theorem i232_9 : ins 232 9 = some (.aload_n 0, 10, 0, 0) := by decide +kernel
theorem i232_10 : ins 232 10 = some (.iload_n 1, 11, 0, 0) := by decide +kernel
theorem i232_11 : ins 232 11 = some (.invokevirtual 384, 14, 182, 0) := by decide +kernel
theorem i232_14 : ins 232 14 = some (.ifCond .eq (13), 17, 27, 0) := by decide +kernel
theorem i232_17 : ins 232 17 = some (.iload_n 2, 18, 0, 0) := by decide +kernel
theorem i232_18 : ins 232 18 = some (.iconst (0), 19, 0, 0) := by decide +kernel
theorem i232_19 : ins 232 19 = some (.bipush (99), 21, 0, 99) := by decide +kernel
theorem i232_21 : ins 232 21 = some (.invokestatic 311, 24, 181, 0) := by decide +kernel
theorem i232_24 : ins 232 24 = some (.ifCond .ne (5), 27, 29, 0) := by decide +kernel
theorem i232_27 : ins 232 27 = some (.iconst (-1), 28, 0, -1) := by decide +kernel
theorem i232_28 : ins 232 28 = some (.ireturn, 29, 0, 0) := by decide +kernel
theorem i232_29 : ins 232 29 = some (.aload_n 0, 30, 0, 0) := by decide +kernel
theorem i232_30 : ins 232 30 = some (.getfield 138, 33, 12, 64) := by decide +kernel
theorem i232_33 : ins 232 33 = some (.aload_n 0, 34, 0, 0) := by decide +kernel
theorem i232_34 : ins 232 34 = some (.getfield 249, 37, 12, 63) := by decide +kernel
theorem i232_37 : ins 232 37 = some (.iload_n 1, 38, 0, 0) := by decide +kernel
theorem i232_38 : ins 232 38 = some (.iastore, 39, 0, 0) := by decide +kernel
theorem i232_39 : ins 232 39 = some (.aload_n 0, 40, 0, 0) := by decide +kernel
theorem i232_40 : ins 232 40 = some (.getfield 141, 43, 12, 65) := by decide +kernel
theorem i232_43 : ins 232 43 = some (.aload_n 0, 44, 0, 0) := by decide +kernel
theorem i232_44 : ins 232 44 = some (.getfield 249, 47, 12, 63) := by decide +kernel
theorem i232_47 : ins 232 47 = some (.iload_n 2, 48, 0, 0) := by decide +kernel
theorem i232_48 : ins 232 48 = some (.iastore, 49, 0, 0) := by decide +kernel
theorem i232_49 : ins 232 49 = some (.aload_n 0, 50, 0, 0) := by decide +kernel
theorem i232_50 : ins 232 50 = some (.dup, 51, 0, 0) := by decide +kernel
theorem i232_51 : ins 232 51 = some (.getfield 249, 54, 12, 63) := by decide +kernel
theorem i232_54 : ins 232 54 = some (.iconst (1), 55, 0, 1) := by decide +kernel
theorem i232_55 : ins 232 55 = some (.iadd, 56, 0, 0) := by decide +kernel
theorem i232_56 : ins 232 56 = some (.putfield 249, 59, 12, 63) := by decide +kernel
theorem i232_59 : ins 232 59 = some (.aload_n 0, 60, 0, 0) := by decide +kernel
theorem i232_60 : ins 232 60 = some (.getfield 249, 63, 12, 63) := by decide +kernel
theorem i232_63 : ins 232 63 = some (.iconst (1), 64, 0, 1) := by decide +kernel
theorem i232_64 : ins 232 64 = some (.isub, 65, 0, 0) := by decide +kernel
theorem i232_65 : ins 232 65 = some (.ireturn, 66, 0, 0) := by decide +kernel
theorem i233_0 : ins 233 0 = some (.aload_n 0, 1, 0, 0) := by decide +kernel
theorem i233_1 : ins 233 1 = some (.getfield 249, 4, 12, 63) := by decide +kernel
theorem i233_4 : ins 233 4 = some (.istore_n 1, 5, 0, 0) := by decide +kernel
theorem i233_5 : ins 233 5 = some (.aload_n 0, 6, 0, 0) := by decide +kernel
theorem i233_6 : ins 233 6 = some (.iconst (0), 7, 0, 0) := by decide +kernel
theorem i233_7 : ins 233 7 = some (.putfield 249, 10, 12, 63) := by decide +kernel
theorem i233_10 : ins 233 10 = some (.iload_n 1, 11, 0, 0) := by decide +kernel
theorem i233_11 : ins 233 11 = some (.ireturn, 12, 0, 0) := by decide +kernel
theorem i234_0 : ins 234 0 = some (.iconst (0), 1, 0, 0) := by decide +kernel
theorem i234_1 : ins 234 1 = some (.istore 4, 3, 0, 0) := by decide +kernel
theorem i234_3 : ins 234 3 = some (.iload 4, 5, 0, 0) := by decide +kernel
theorem i234_5 : ins 234 5 = some (.iload_n 3, 6, 0, 0) := by decide +kernel
theorem i234_6 : ins 234 6 = some (.if_icmp .ge (37), 9, 43, 0) := by decide +kernel
theorem i234_9 : ins 234 9 = some (.aload_n 0, 10, 0, 0) := by decide +kernel
theorem i234_10 : ins 234 10 = some (.iload_n 1, 11, 0, 0) := by decide +kernel
theorem i234_11 : ins 234 11 = some (.aload_n 0, 12, 0, 0) := by decide +kernel
theorem i234_12 : ins 234 12 = some (.getfield 138, 15, 12, 64) := by decide +kernel
theorem i234_15 : ins 234 15 = some (.iload 4, 17, 0, 0) := by decide +kernel
theorem i234_17 : ins 234 17 = some (.iaload, 18, 0, 0) := by decide +kernel
theorem i234_18 : ins 234 18 = some (.invokevirtual 416, 21, 229, 0) := by decide +kernel
theorem i234_21 : ins 234 21 = some (.aload_n 0, 22, 0, 0) := by decide +kernel
theorem i234_22 : ins 234 22 = some (.getfield 141, 25, 12, 65) := by decide +kernel
theorem i234_25 : ins 234 25 = some (.iload 4, 27, 0, 0) := by decide +kernel
theorem i234_27 : ins 234 27 = some (.iaload, 28, 0, 0) := by decide +kernel
theorem i234_28 : ins 234 28 = some (.invokestatic 346, 31, 191, 0) := by decide +kernel
theorem i234_31 : ins 234 31 = some (.iload_n 2, 32, 0, 0) := by decide +kernel
theorem i234_32 : ins 234 32 = some (.if_icmp .le (5), 35, 37, 0) := by decide +kernel
theorem i234_35 : ins 234 35 = some (.iconst (0), 36, 0, 0) := by decide +kernel
theorem i234_36 : ins 234 36 = some (.ireturn, 37, 0, 0) := by decide +kernel
theorem i234_37 : ins 234 37 = some (.iinc 4 (1), 40, 0, 1) := by decide +kernel
theorem i234_40 : ins 234 40 = some (.goto (-37), 43, 3, 0) := by decide +kernel
theorem i234_43 : ins 234 43 = some (.iconst (1), 44, 0, 1) := by decide +kernel
theorem i234_44 : ins 234 44 = some (.ireturn, 45, 0, 0) := by decide +kernel
theorem i235_0 : ins 235 0 = some (.iload_n 1, 1, 0, 0) := by decide +kernel
theorem i235_1 : ins 235 1 = some (.iconst (0), 2, 0, 0) := by decide +kernel
theorem i235_2 : ins 235 2 = some (.bipush (99), 4, 0, 99) := by decide +kernel
theorem i235_4 : ins 235 4 = some (.invokestatic 311, 7, 181, 0) := by decide +kernel
theorem i235_7 : ins 235 7 = some (.ifCond .eq (20), 10, 27, 0) := by decide +kernel
theorem i235_10 : ins 235 10 = some (.iload_n 2, 11, 0, 0) := by decide +kernel
theorem i235_11 : ins 235 11 = some (.iconst (0), 12, 0, 0) := by decide +kernel
theorem i235_12 : ins 235 12 = some (.aload_n 0, 13, 0, 0) := by decide +kernel
theorem i235_13 : ins 235 13 = some (.getfield 249, 16, 12, 63) := by decide +kernel
theorem i235_16 : ins 235 16 = some (.invokestatic 311, 19, 181, 0) := by decide +kernel
theorem i235_19 : ins 235 19 = some (.ifCond .eq (8), 22, 27, 0) := by decide +kernel
theorem i235_22 : ins 235 22 = some (.iload_n 3, 23, 0, 0) := by decide +kernel
theorem i235_23 : ins 235 23 = some (.iconst (-1), 24, 0, -1) := by decide +kernel
theorem i235_24 : ins 235 24 = some (.if_icmp .ge (5), 27, 29, 0) := by decide +kernel
theorem i235_27 : ins 235 27 = some (.iconst (-1), 28, 0, -1) := by decide +kernel
theorem i235_28 : ins 235 28 = some (.ireturn, 29, 0, 0) := by decide +kernel
theorem i235_29 : ins 235 29 = some (.iconst (0), 30, 0, 0) := by decide +kernel
theorem i235_30 : ins 235 30 = some (.istore 4, 32, 0, 0) := by decide +kernel
theorem i235_32 : ins 235 32 = some (.iconst (0), 33, 0, 0) := by decide +kernel
theorem i235_33 : ins 235 33 = some (.istore 5, 35, 0, 0) := by decide +kernel
theorem i235_35 : ins 235 35 = some (.iload 5, 37, 0, 0) := by decide +kernel
theorem i235_37 : ins 235 37 = some (.aload_n 0, 38, 0, 0) := by decide +kernel
theorem i235_38 : ins 235 38 = some (.getfield 113, 41, 12, 49) := by decide +kernel
theorem i235_41 : ins 235 41 = some (.bipush (45), 43, 0, 45) := by decide +kernel
theorem i235_43 : ins 235 43 = some (.iaload, 44, 0, 0) := by decide +kernel
theorem i235_44 : ins 235 44 = some (.if_icmp .gt (57), 47, 101, 0) := by decide +kernel
theorem i235_47 : ins 235 47 = some (.aload_n 0, 48, 0, 0) := by decide +kernel
theorem i235_48 : ins 235 48 = some (.iload 5, 50, 0, 0) := by decide +kernel
theorem i235_50 : ins 235 50 = some (.iload_n 1, 51, 0, 0) := by decide +kernel
theorem i235_51 : ins 235 51 = some (.iload_n 2, 52, 0, 0) := by decide +kernel
theorem i235_52 : ins 235 52 = some (.invokevirtual 422, 55, 234, 0) := by decide +kernel
theorem i235_55 : ins 235 55 = some (.ifCond .ne (6), 58, 61, 0) := by decide +kernel
theorem i235_58 : ins 235 58 = some (.goto (37), 61, 95, 0) := by decide +kernel
theorem i235_61 : ins 235 61 = some (.iload 4, 63, 0, 0) := by decide +kernel
theorem i235_63 : ins 235 63 = some (.iload_n 3, 64, 0, 0) := by decide +kernel
theorem i235_64 : ins 235 64 = some (.if_icmp .ne (28), 67, 92, 0) := by decide +kernel
theorem i235_67 : ins 235 67 = some (.iload 5, 69, 0, 0) := by decide +kernel
theorem i235_69 : ins 235 69 = some (.aload_n 0, 70, 0, 0) := by decide +kernel
theorem i235_70 : ins 235 70 = some (.getfield 113, 73, 12, 49) := by decide +kernel
theorem i235_73 : ins 235 73 = some (.bipush (45), 75, 0, 45) := by decide +kernel
theorem i235_75 : ins 235 75 = some (.iaload, 76, 0, 0) := by decide +kernel
theorem i235_76 : ins 235 76 = some (.if_icmp .ge (8), 79, 84, 0) := by decide +kernel
theorem i235_79 : ins 235 79 = some (.iload 5, 81, 0, 0) := by decide +kernel
theorem i235_81 : ins 235 81 = some (.goto (10), 84, 91, 0) := by decide +kernel
theorem i235_84 : ins 235 84 = some (.aload_n 0, 85, 0, 0) := by decide +kernel
theorem i235_85 : ins 235 85 = some (.getfield 113, 88, 12, 49) := by decide +kernel
theorem i235_88 : ins 235 88 = some (.bipush (42), 90, 0, 42) := by decide +kernel
theorem i235_90 : ins 235 90 = some (.iaload, 91, 0, 0) := by decide +kernel
theorem i235_91 : ins 235 91 = some (.ireturn, 92, 0, 0) := by decide +kernel
theorem i235_92 : ins 235 92 = some (.iinc 4 (1), 95, 0, 1) := by decide +kernel
theorem i235_95 : ins 235 95 = some (.iinc 5 (1), 98, 0, 1) := by decide +kernel
theorem i235_98 : ins 235 98 = some (.goto (-63), 101, 35, 0) := by decide +kernel
theorem i235_101 : ins 235 101 = some (.iload_n 3, 102, 0, 0) := by decide +kernel
theorem i235_102 : ins 235 102 = some (.iconst (-1), 103, 0, -1) := by decide +kernel
theorem i235_103 : ins 235 103 = some (.if_icmp .ne (8), 106, 111, 0) := by decide +kernel
theorem i235_106 : ins 235 106 = some (.iload 4, 108, 0, 0) := by decide +kernel
theorem i235_108 : ins 235 108 = some (.goto (4), 111, 112, 0) := by decide +kernel
theorem i235_111 : ins 235 111 = some (.iconst (-1), 112, 0, -1) := by decide +kernel
theorem i235_112 : ins 235 112 = some (.ireturn, 113, 0, 0) := by decide +kernel
theorem i236_0 : ins 236 0 = some (.iload_n 1, 1, 0, 0) := by decide +kernel
theorem i236_1 : ins 236 1 = some (.iconst (0), 2, 0, 0) := by decide +kernel
theorem i236_2 : ins 236 2 = some (.iconst (2), 3, 0, 2) := by decide +kernel
theorem i236_3 : ins 236 3 = some (.invokestatic 311, 6, 181, 0) := by decide +kernel
theorem i236_6 : ins 236 6 = some (.ifCond .ne (5), 9, 11, 0) := by decide +kernel
theorem i236_9 : ins 236 9 = some (.iconst (0), 10, 0, 0) := by decide +kernel
theorem i236_10 : ins 236 10 = some (.ireturn, 11, 0, 0) := by decide +kernel
theorem i236_11 : ins 236 11 = some (.aload_n 0, 12, 0, 0) := by decide +kernel
theorem i236_12 : ins 236 12 = some (.getfield 144, 15, 12, 66) := by decide +kernel
theorem i236_15 : ins 236 15 = some (.iload_n 1, 16, 0, 0) := by decide +kernel
theorem i236_16 : ins 236 16 = some (.iconst (1), 17, 0, 1) := by decide +kernel
theorem i236_17 : ins 236 17 = some (.bastore, 18, 0, 0) := by decide +kernel
theorem i236_18 : ins 236 18 = some (.iconst (0), 19, 0, 0) := by decide +kernel
theorem i236_19 : ins 236 19 = some (.istore_n 2, 20, 0, 0) := by decide +kernel
theorem i236_20 : ins 236 20 = some (.iload_n 2, 21, 0, 0) := by decide +kernel
theorem i236_21 : ins 236 21 = some (.sipush (2860), 24, 0, 2860) := by decide +kernel
theorem i236_24 : ins 236 24 = some (.if_icmp .ge (27), 27, 51, 0) := by decide +kernel
theorem i236_27 : ins 236 27 = some (.aload_n 0, 28, 0, 0) := by decide +kernel
theorem i236_28 : ins 236 28 = some (.getfield 147, 31, 12, 67) := by decide +kernel
theorem i236_31 : ins 236 31 = some (.sipush (2860), 34, 0, 2860) := by decide +kernel
theorem i236_34 : ins 236 34 = some (.iload_n 1, 35, 0, 0) := by decide +kernel
theorem i236_35 : ins 236 35 = some (.imul, 36, 0, 0) := by decide +kernel
theorem i236_36 : ins 236 36 = some (.iload_n 2, 37, 0, 0) := by decide +kernel
theorem i236_37 : ins 236 37 = some (.iadd, 38, 0, 0) := by decide +kernel
theorem i236_38 : ins 236 38 = some (.aload_n 0, 39, 0, 0) := by decide +kernel
theorem i236_39 : ins 236 39 = some (.getfield 113, 42, 12, 49) := by decide +kernel
theorem i236_42 : ins 236 42 = some (.iload_n 2, 43, 0, 0) := by decide +kernel
theorem i236_43 : ins 236 43 = some (.iaload, 44, 0, 0) := by decide +kernel
theorem i236_44 : ins 236 44 = some (.iastore, 45, 0, 0) := by decide +kernel
theorem i236_45 : ins 236 45 = some (.iinc 2 (1), 48, 0, 1) := by decide +kernel
theorem i236_48 : ins 236 48 = some (.goto (-28), 51, 20, 0) := by decide +kernel
theorem i236_51 : ins 236 51 = some (.iconst (1), 52, 0, 1) := by decide +kernel
theorem i236_52 : ins 236 52 = some (.ireturn, 53, 0, 0) := by decide +kernel
theorem i237_0 : ins 237 0 = some (.iload_n 1, 1, 0, 0) := by decide +kernel
theorem i237_1 : ins 237 1 = some (.iconst (0), 2, 0, 0) := by decide +kernel
theorem i237_2 : ins 237 2 = some (.iconst (2), 3, 0, 2) := by decide +kernel
theorem i237_3 : ins 237 3 = some (.invokestatic 311, 6, 181, 0) := by decide +kernel
theorem i237_6 : ins 237 6 = some (.ifCond .eq (12), 9, 18, 0) := by decide +kernel
theorem i237_9 : ins 237 9 = some (.aload_n 0, 10, 0, 0) := by decide +kernel
theorem i237_10 : ins 237 10 = some (.getfield 144, 13, 12, 66) := by decide +kernel
theorem i237_13 : ins 237 13 = some (.iload_n 1, 14, 0, 0) := by decide +kernel
theorem i237_14 : ins 237 14 = some (.baload, 15, 0, 0) := by decide +kernel
theorem i237_15 : ins 237 15 = some (.ifCond .ne (5), 18, 20, 0) := by decide +kernel
theorem i237_18 : ins 237 18 = some (.iconst (0), 19, 0, 0) := by decide +kernel
theorem i237_19 : ins 237 19 = some (.ireturn, 20, 0, 0) := by decide +kernel
theorem i237_20 : ins 237 20 = some (.iconst (0), 21, 0, 0) := by decide +kernel
theorem i237_21 : ins 237 21 = some (.istore_n 2, 22, 0, 0) := by decide +kernel
theorem i237_22 : ins 237 22 = some (.iload_n 2, 23, 0, 0) := by decide +kernel
theorem i237_23 : ins 237 23 = some (.sipush (2860), 26, 0, 2860) := by decide +kernel
theorem i237_26 : ins 237 26 = some (.if_icmp .ge (27), 29, 53, 0) := by decide +kernel
theorem i237_29 : ins 237 29 = some (.aload_n 0, 30, 0, 0) := by decide +kernel
theorem i237_30 : ins 237 30 = some (.getfield 113, 33, 12, 49) := by decide +kernel
theorem i237_33 : ins 237 33 = some (.iload_n 2, 34, 0, 0) := by decide +kernel
theorem i237_34 : ins 237 34 = some (.aload_n 0, 35, 0, 0) := by decide +kernel
theorem i237_35 : ins 237 35 = some (.getfield 147, 38, 12, 67) := by decide +kernel
theorem i237_38 : ins 237 38 = some (.sipush (2860), 41, 0, 2860) := by decide +kernel
theorem i237_41 : ins 237 41 = some (.iload_n 1, 42, 0, 0) := by decide +kernel
theorem i237_42 : ins 237 42 = some (.imul, 43, 0, 0) := by decide +kernel
theorem i237_43 : ins 237 43 = some (.iload_n 2, 44, 0, 0) := by decide +kernel
theorem i237_44 : ins 237 44 = some (.iadd, 45, 0, 0) := by decide +kernel
theorem i237_45 : ins 237 45 = some (.iaload, 46, 0, 0) := by decide +kernel
theorem i237_46 : ins 237 46 = some (.iastore, 47, 0, 0) := by decide +kernel
theorem i237_47 : ins 237 47 = some (.iinc 2 (1), 50, 0, 1) := by decide +kernel
theorem i237_50 : ins 237 50 = some (.goto (-28), 53, 22, 0) := by decide +kernel
theorem i237_53 : ins 237 53 = some (.aload_n 0, 54, 0, 0) := by decide +kernel
theorem i237_54 : ins 237 54 = some (.iconst (0), 55, 0, 0) := by decide +kernel
theorem i237_55 : ins 237 55 = some (.putfield 246, 58, 12, 58) := by decide +kernel
theorem i237_58 : ins 237 58 = some (.iconst (1), 59, 0, 1) := by decide +kernel
theorem i237_59 : ins 237 59 = some (.ireturn, 60, 0, 0) := by decide +kernel
theorem i238_0 : ins 238 0 = some (.iload_n 1, 1, 0, 0) := by decide +kernel
theorem i238_1 : ins 238 1 = some (.tableswitch (212) (0) (12) #[67, 77, 87, 97, 105, 116, 124, 134, 144, 152, 157, 162, 167], 68, 0, 0) := by decide +kernel
theorem i238_68 : ins 238 68 = some (.aload_n 0, 69, 0, 0) := by decide +kernel
theorem i238_69 : ins 238 69 = some (.getfield 46, 72, 12, 23) := by decide +kernel
theorem i238_72 : ins 238 72 = some (.aload_n 0, 73, 0, 0) := by decide +kernel
theorem i238_73 : ins 238 73 = some (.getfield 228, 76, 12, 18) := by decide +kernel
theorem i238_76 : ins 238 76 = some (.iaload, 77, 0, 0) := by decide +kernel
theorem i238_77 : ins 238 77 = some (.ireturn, 78, 0, 0) := by decide +kernel
theorem i238_78 : ins 238 78 = some (.aload_n 0, 79, 0, 0) := by decide +kernel
theorem i238_79 : ins 238 79 = some (.getfield 52, 82, 12, 25) := by decide +kernel
theorem i238_82 : ins 238 82 = some (.aload_n 0, 83, 0, 0) := by decide +kernel
theorem i238_83 : ins 238 83 = some (.getfield 228, 86, 12, 18) := by decide +kernel
theorem i238_86 : ins 238 86 = some (.iaload, 87, 0, 0) := by decide +kernel
theorem i238_87 : ins 238 87 = some (.ireturn, 88, 0, 0) := by decide +kernel
theorem i238_88 : ins 238 88 = some (.aload_n 0, 89, 0, 0) := by decide +kernel
theorem i238_89 : ins 238 89 = some (.getfield 64, 92, 12, 29) := by decide +kernel
theorem i238_92 : ins 238 92 = some (.aload_n 0, 93, 0, 0) := by decide +kernel
theorem i238_93 : ins 238 93 = some (.getfield 228, 96, 12, 18) := by decide +kernel
theorem i238_96 : ins 238 96 = some (.iaload, 97, 0, 0) := by decide +kernel
theorem i238_97 : ins 238 97 = some (.ireturn, 98, 0, 0) := by decide +kernel
theorem i238_98 : ins 238 98 = some (.aload_n 0, 99, 0, 0) := by decide +kernel
theorem i238_99 : ins 238 99 = some (.getfield 113, 102, 12, 49) := by decide +kernel
theorem i238_102 : ins 238 102 = some (.bipush (42), 104, 0, 42) := by decide +kernel
theorem i238_104 : ins 238 104 = some (.iaload, 105, 0, 0) := by decide +kernel
theorem i238_105 : ins 238 105 = some (.ireturn, 106, 0, 0) := by decide +kernel
theorem i238_106 : ins 238 106 = some (.aload_n 0, 107, 0, 0) := by decide +kernel
theorem i238_107 : ins 238 107 = some (.getfield 113, 110, 12, 49) := by decide +kernel
theorem i238_110 : ins 238 110 = some (.bipush (43), 112, 0, 43) := by decide +kernel
theorem i238_112 : ins 238 112 = some (.iaload, 113, 0, 0) := by decide +kernel
theorem i238_113 : ins 238 113 = some (.invokestatic 396, 116, 209, 0) := by decide +kernel
theorem i238_116 : ins 238 116 = some (.ireturn, 117, 0, 0) := by decide +kernel
theorem i238_117 : ins 238 117 = some (.aload_n 0, 118, 0, 0) := by decide +kernel
theorem i238_118 : ins 238 118 = some (.getfield 113, 121, 12, 49) := by decide +kernel
theorem i238_121 : ins 238 121 = some (.bipush (44), 123, 0, 44) := by decide +kernel
theorem i238_123 : ins 238 123 = some (.iaload, 124, 0, 0) := by decide +kernel
theorem i238_124 : ins 238 124 = some (.ireturn, 125, 0, 0) := by decide +kernel
theorem i238_125 : ins 238 125 = some (.aload_n 0, 126, 0, 0) := by decide +kernel
theorem i238_126 : ins 238 126 = some (.getfield 67, 129, 12, 30) := by decide +kernel
theorem i238_129 : ins 238 129 = some (.aload_n 0, 130, 0, 0) := by decide +kernel
theorem i238_130 : ins 238 130 = some (.getfield 228, 133, 12, 18) := by decide +kernel
theorem i238_133 : ins 238 133 = some (.iaload, 134, 0, 0) := by decide +kernel
theorem i238_134 : ins 238 134 = some (.ireturn, 135, 0, 0) := by decide +kernel
theorem i238_135 : ins 238 135 = some (.aload_n 0, 136, 0, 0) := by decide +kernel
theorem i238_136 : ins 238 136 = some (.getfield 70, 139, 12, 31) := by decide +kernel
theorem i238_139 : ins 238 139 = some (.aload_n 0, 140, 0, 0) := by decide +kernel
theorem i238_140 : ins 238 140 = some (.getfield 228, 143, 12, 18) := by decide +kernel
theorem i238_143 : ins 238 143 = some (.iaload, 144, 0, 0) := by decide +kernel
theorem i238_144 : ins 238 144 = some (.ireturn, 145, 0, 0) := by decide +kernel
theorem i238_145 : ins 238 145 = some (.aload_n 0, 146, 0, 0) := by decide +kernel
theorem i238_146 : ins 238 146 = some (.getfield 113, 149, 12, 49) := by decide +kernel
theorem i238_149 : ins 238 149 = some (.bipush (45), 151, 0, 45) := by decide +kernel
theorem i238_151 : ins 238 151 = some (.iaload, 152, 0, 0) := by decide +kernel
theorem i238_152 : ins 238 152 = some (.ireturn, 153, 0, 0) := by decide +kernel
theorem i238_153 : ins 238 153 = some (.aload_n 0, 154, 0, 0) := by decide +kernel
theorem i238_154 : ins 238 154 = some (.getfield 161, 157, 12, 2) := by decide +kernel
theorem i238_157 : ins 238 157 = some (.ireturn, 158, 0, 0) := by decide +kernel
theorem i238_158 : ins 238 158 = some (.aload_n 0, 159, 0, 0) := by decide +kernel
theorem i238_159 : ins 238 159 = some (.getfield 246, 162, 12, 58) := by decide +kernel
theorem i238_162 : ins 238 162 = some (.ireturn, 163, 0, 0) := by decide +kernel
theorem i238_163 : ins 238 163 = some (.aload_n 0, 164, 0, 0) := by decide +kernel
theorem i238_164 : ins 238 164 = some (.getfield 249, 167, 12, 63) := by decide +kernel
theorem i238_167 : ins 238 167 = some (.ireturn, 168, 0, 0) := by decide +kernel
theorem i238_168 : ins 238 168 = some (.aload_n 0, 169, 0, 0) := by decide +kernel
theorem i238_169 : ins 238 169 = some (.getfield 144, 172, 12, 66) := by decide +kernel
theorem i238_172 : ins 238 172 = some (.iconst (0), 173, 0, 0) := by decide +kernel
theorem i238_173 : ins 238 173 = some (.baload, 174, 0, 0) := by decide +kernel
theorem i238_174 : ins 238 174 = some (.ifCond .eq (7), 177, 181, 0) := by decide +kernel
theorem i238_177 : ins 238 177 = some (.iconst (1), 178, 0, 1) := by decide +kernel
theorem i238_178 : ins 238 178 = some (.goto (4), 181, 182, 0) := by decide +kernel
theorem i238_181 : ins 238 181 = some (.iconst (0), 182, 0, 0) := by decide +kernel
theorem i238_182 : ins 238 182 = some (.aload_n 0, 183, 0, 0) := by decide +kernel
theorem i238_183 : ins 238 183 = some (.getfield 144, 186, 12, 66) := by decide +kernel
theorem i238_186 : ins 238 186 = some (.iconst (1), 187, 0, 1) := by decide +kernel
theorem i238_187 : ins 238 187 = some (.baload, 188, 0, 0) := by decide +kernel
theorem i238_188 : ins 238 188 = some (.ifCond .eq (7), 191, 195, 0) := by decide +kernel
theorem i238_191 : ins 238 191 = some (.iconst (1), 192, 0, 1) := by decide +kernel
theorem i238_192 : ins 238 192 = some (.goto (4), 195, 196, 0) := by decide +kernel
theorem i238_195 : ins 238 195 = some (.iconst (0), 196, 0, 0) := by decide +kernel
theorem i238_196 : ins 238 196 = some (.iadd, 197, 0, 0) := by decide +kernel
theorem i238_197 : ins 238 197 = some (.aload_n 0, 198, 0, 0) := by decide +kernel
theorem i238_198 : ins 238 198 = some (.getfield 144, 201, 12, 66) := by decide +kernel
theorem i238_201 : ins 238 201 = some (.iconst (2), 202, 0, 2) := by decide +kernel
theorem i238_202 : ins 238 202 = some (.baload, 203, 0, 0) := by decide +kernel
theorem i238_203 : ins 238 203 = some (.ifCond .eq (7), 206, 210, 0) := by decide +kernel
theorem i238_206 : ins 238 206 = some (.iconst (1), 207, 0, 1) := by decide +kernel
theorem i238_207 : ins 238 207 = some (.goto (4), 210, 211, 0) := by decide +kernel
theorem i238_210 : ins 238 210 = some (.iconst (0), 211, 0, 0) := by decide +kernel
theorem i238_211 : ins 238 211 = some (.iadd, 212, 0, 0) := by decide +kernel
theorem i238_212 : ins 238 212 = some (.ireturn, 213, 0, 0) := by decide +kernel
theorem i238_213 : ins 238 213 = some (.iconst (-1), 214, 0, -1) := by decide +kernel
theorem i238_214 : ins 238 214 = some (.ireturn, 215, 0, 0) := by decide +kernel
theorem i239_0 : ins 239 0 = some (.new 7, 3, 11, 0) := by decide +kernel
theorem i239_3 : ins 239 3 = some (.dup, 4, 0, 0) := by decide +kernel
theorem i239_4 : ins 239 4 = some (.invokespecial 9, 7, 102, 0) := by decide +kernel
theorem i239_7 : ins 239 7 = some (.astore_n 1, 8, 0, 0) := by decide +kernel
theorem i239_8 : ins 239 8 = some (.new 10, 11, 12, 0) := by decide +kernel
theorem i239_11 : ins 239 11 = some (.dup, 12, 0, 0) := by decide +kernel
theorem i239_12 : ins 239 12 = some (.invokespecial 12, 15, 145, 0) := by decide +kernel
theorem i239_15 : ins 239 15 = some (.astore_n 2, 16, 0, 0) := by decide +kernel
theorem i239_16 : ins 239 16 = some (.iconst (0), 17, 0, 0) := by decide +kernel
theorem i239_17 : ins 239 17 = some (.istore_n 3, 18, 0, 0) := by decide +kernel
theorem i239_18 : ins 239 18 = some (.iload_n 3, 19, 0, 0) := by decide +kernel
theorem i239_19 : ins 239 19 = some (.aload_n 0, 20, 0, 0) := by decide +kernel
theorem i239_20 : ins 239 20 = some (.arraylength, 21, 0, 0) := by decide +kernel
theorem i239_21 : ins 239 21 = some (.bipush (6), 23, 0, 6) := by decide +kernel
theorem i239_23 : ins 239 23 = some (.isub, 24, 0, 0) := by decide +kernel
theorem i239_24 : ins 239 24 = some (.if_icmp .gt (1027), 27, 1051, 0) := by decide +kernel
theorem i239_27 : ins 239 27 = some (.aload_n 0, 28, 0, 0) := by decide +kernel
theorem i239_28 : ins 239 28 = some (.iload_n 3, 29, 0, 0) := by decide +kernel
theorem i239_29 : ins 239 29 = some (.iaload, 30, 0, 0) := by decide +kernel
theorem i239_30 : ins 239 30 = some (.bipush (31), 32, 0, 31) := by decide +kernel
theorem i239_32 : ins 239 32 = some (.iand, 33, 0, 0) := by decide +kernel
theorem i239_33 : ins 239 33 = some (.tableswitch (1012) (0) (30) #[139, 202, 225, 238, 251, 274, 317, 350, 383, 406, 419, 462, 485, 498, 531, 564, 607, 630, 653, 686, 709, 742, 785, 808, 841, 854, 887, 900, 943, 966, 989], 172, 0, 0) := by decide +kernel
theorem i239_172 : ins 239 172 = some (.aload_n 1, 173, 0, 0) := by decide +kernel
theorem i239_173 : ins 239 173 = some (.aload_n 0, 174, 0, 0) := by decide +kernel
theorem i239_174 : ins 239 174 = some (.iload_n 3, 175, 0, 0) := by decide +kernel
theorem i239_175 : ins 239 175 = some (.iconst (1), 176, 0, 1) := by decide +kernel
theorem i239_176 : ins 239 176 = some (.iadd, 177, 0, 0) := by decide +kernel
theorem i239_177 : ins 239 177 = some (.iaload, 178, 0, 0) := by decide +kernel
theorem i239_178 : ins 239 178 = some (.aload_n 0, 179, 0, 0) := by decide +kernel
theorem i239_179 : ins 239 179 = some (.iload_n 3, 180, 0, 0) := by decide +kernel
theorem i239_180 : ins 239 180 = some (.iconst (2), 181, 0, 2) := by decide +kernel
theorem i239_181 : ins 239 181 = some (.iadd, 182, 0, 0) := by decide +kernel
theorem i239_182 : ins 239 182 = some (.iaload, 183, 0, 0) := by decide +kernel
theorem i239_183 : ins 239 183 = some (.aload_n 0, 184, 0, 0) := by decide +kernel
theorem i239_184 : ins 239 184 = some (.iload_n 3, 185, 0, 0) := by decide +kernel
theorem i239_185 : ins 239 185 = some (.iconst (3), 186, 0, 3) := by decide +kernel
theorem i239_186 : ins 239 186 = some (.iadd, 187, 0, 0) := by decide +kernel
theorem i239_187 : ins 239 187 = some (.iaload, 188, 0, 0) := by decide +kernel
theorem i239_188 : ins 239 188 = some (.aload_n 0, 189, 0, 0) := by decide +kernel
theorem i239_189 : ins 239 189 = some (.iload_n 3, 190, 0, 0) := by decide +kernel
theorem i239_190 : ins 239 190 = some (.iconst (4), 191, 0, 4) := by decide +kernel
theorem i239_191 : ins 239 191 = some (.iadd, 192, 0, 0) := by decide +kernel
theorem i239_192 : ins 239 192 = some (.iaload, 193, 0, 0) := by decide +kernel
theorem i239_193 : ins 239 193 = some (.aload_n 0, 194, 0, 0) := by decide +kernel
theorem i239_194 : ins 239 194 = some (.iload_n 3, 195, 0, 0) := by decide +kernel
theorem i239_195 : ins 239 195 = some (.iconst (5), 196, 0, 5) := by decide +kernel
theorem i239_196 : ins 239 196 = some (.iadd, 197, 0, 0) := by decide +kernel
theorem i239_197 : ins 239 197 = some (.iaload, 198, 0, 0) := by decide +kernel
theorem i239_198 : ins 239 198 = some (.invokevirtual 13, 201, 103, 0) := by decide +kernel
theorem i239_201 : ins 239 201 = some (.aload_n 2, 202, 0, 0) := by decide +kernel
theorem i239_202 : ins 239 202 = some (.aload_n 0, 203, 0, 0) := by decide +kernel
theorem i239_203 : ins 239 203 = some (.iload_n 3, 204, 0, 0) := by decide +kernel
theorem i239_204 : ins 239 204 = some (.iconst (1), 205, 0, 1) := by decide +kernel
theorem i239_205 : ins 239 205 = some (.iadd, 206, 0, 0) := by decide +kernel
theorem i239_206 : ins 239 206 = some (.iaload, 207, 0, 0) := by decide +kernel
theorem i239_207 : ins 239 207 = some (.aload_n 0, 208, 0, 0) := by decide +kernel
theorem i239_208 : ins 239 208 = some (.iload_n 3, 209, 0, 0) := by decide +kernel
theorem i239_209 : ins 239 209 = some (.iconst (2), 210, 0, 2) := by decide +kernel
theorem i239_210 : ins 239 210 = some (.iadd, 211, 0, 0) := by decide +kernel
theorem i239_211 : ins 239 211 = some (.iaload, 212, 0, 0) := by decide +kernel
theorem i239_212 : ins 239 212 = some (.aload_n 0, 213, 0, 0) := by decide +kernel
theorem i239_213 : ins 239 213 = some (.iload_n 3, 214, 0, 0) := by decide +kernel
theorem i239_214 : ins 239 214 = some (.iconst (3), 215, 0, 3) := by decide +kernel
theorem i239_215 : ins 239 215 = some (.iadd, 216, 0, 0) := by decide +kernel
theorem i239_216 : ins 239 216 = some (.iaload, 217, 0, 0) := by decide +kernel
theorem i239_217 : ins 239 217 = some (.aload_n 0, 218, 0, 0) := by decide +kernel
theorem i239_218 : ins 239 218 = some (.iload_n 3, 219, 0, 0) := by decide +kernel
theorem i239_219 : ins 239 219 = some (.iconst (4), 220, 0, 4) := by decide +kernel
theorem i239_220 : ins 239 220 = some (.iadd, 221, 0, 0) := by decide +kernel
theorem i239_221 : ins 239 221 = some (.iaload, 222, 0, 0) := by decide +kernel
theorem i239_222 : ins 239 222 = some (.aload_n 0, 223, 0, 0) := by decide +kernel
theorem i239_223 : ins 239 223 = some (.iload_n 3, 224, 0, 0) := by decide +kernel
theorem i239_224 : ins 239 224 = some (.iconst (5), 225, 0, 5) := by decide +kernel
theorem i239_225 : ins 239 225 = some (.iadd, 226, 0, 0) := by decide +kernel
theorem i239_226 : ins 239 226 = some (.iaload, 227, 0, 0) := by decide +kernel
theorem i239_227 : ins 239 227 = some (.invokevirtual 17, 230, 146, 0) := by decide +kernel
theorem i239_230 : ins 239 230 = some (.if_icmp .eq (815), 233, 1045, 0) := by decide +kernel
theorem i239_233 : ins 239 233 = some (.iconst (0), 234, 0, 0) := by decide +kernel
theorem i239_234 : ins 239 234 = some (.ireturn, 235, 0, 0) := by decide +kernel
theorem i239_235 : ins 239 235 = some (.aload_n 1, 236, 0, 0) := by decide +kernel
theorem i239_236 : ins 239 236 = some (.aload_n 0, 237, 0, 0) := by decide +kernel
theorem i239_237 : ins 239 237 = some (.iload_n 3, 238, 0, 0) := by decide +kernel
theorem i239_238 : ins 239 238 = some (.iconst (1), 239, 0, 1) := by decide +kernel
theorem i239_239 : ins 239 239 = some (.iadd, 240, 0, 0) := by decide +kernel
theorem i239_240 : ins 239 240 = some (.iaload, 241, 0, 0) := by decide +kernel
theorem i239_241 : ins 239 241 = some (.invokevirtual 18, 244, 105, 0) := by decide +kernel
theorem i239_244 : ins 239 244 = some (.aload_n 2, 245, 0, 0) := by decide +kernel
theorem i239_245 : ins 239 245 = some (.aload_n 0, 246, 0, 0) := by decide +kernel
theorem i239_246 : ins 239 246 = some (.iload_n 3, 247, 0, 0) := by decide +kernel
theorem i239_247 : ins 239 247 = some (.iconst (1), 248, 0, 1) := by decide +kernel
theorem i239_248 : ins 239 248 = some (.iadd, 249, 0, 0) := by decide +kernel
theorem i239_249 : ins 239 249 = some (.iaload, 250, 0, 0) := by decide +kernel
theorem i239_250 : ins 239 250 = some (.invokevirtual 22, 253, 148, 0) := by decide +kernel
theorem i239_253 : ins 239 253 = some (.if_icmp .eq (792), 256, 1045, 0) := by decide +kernel
theorem i239_256 : ins 239 256 = some (.iconst (0), 257, 0, 0) := by decide +kernel
theorem i239_257 : ins 239 257 = some (.ireturn, 258, 0, 0) := by decide +kernel
theorem i239_258 : ins 239 258 = some (.aload_n 1, 259, 0, 0) := by decide +kernel
theorem i239_259 : ins 239 259 = some (.invokevirtual 23, 262, 106, 0) := by decide +kernel
theorem i239_262 : ins 239 262 = some (.aload_n 2, 263, 0, 0) := by decide +kernel
theorem i239_263 : ins 239 263 = some (.invokevirtual 27, 266, 163, 0) := by decide +kernel
theorem i239_266 : ins 239 266 = some (.if_icmp .eq (779), 269, 1045, 0) := by decide +kernel
theorem i239_269 : ins 239 269 = some (.iconst (0), 270, 0, 0) := by decide +kernel
theorem i239_270 : ins 239 270 = some (.ireturn, 271, 0, 0) := by decide +kernel
theorem i239_271 : ins 239 271 = some (.aload_n 1, 272, 0, 0) := by decide +kernel
theorem i239_272 : ins 239 272 = some (.invokevirtual 28, 275, 108, 0) := by decide +kernel
theorem i239_275 : ins 239 275 = some (.aload_n 2, 276, 0, 0) := by decide +kernel
theorem i239_276 : ins 239 276 = some (.invokevirtual 31, 279, 164, 0) := by decide +kernel
theorem i239_279 : ins 239 279 = some (.if_icmp .eq (766), 282, 1045, 0) := by decide +kernel
theorem i239_282 : ins 239 282 = some (.iconst (0), 283, 0, 0) := by decide +kernel
theorem i239_283 : ins 239 283 = some (.ireturn, 284, 0, 0) := by decide +kernel
theorem i239_284 : ins 239 284 = some (.aload_n 1, 285, 0, 0) := by decide +kernel
theorem i239_285 : ins 239 285 = some (.aload_n 0, 286, 0, 0) := by decide +kernel
theorem i239_286 : ins 239 286 = some (.iload_n 3, 287, 0, 0) := by decide +kernel
theorem i239_287 : ins 239 287 = some (.iconst (1), 288, 0, 1) := by decide +kernel
theorem i239_288 : ins 239 288 = some (.iadd, 289, 0, 0) := by decide +kernel
theorem i239_289 : ins 239 289 = some (.iaload, 290, 0, 0) := by decide +kernel
theorem i239_290 : ins 239 290 = some (.invokevirtual 32, 293, 113, 0) := by decide +kernel
theorem i239_293 : ins 239 293 = some (.aload_n 2, 294, 0, 0) := by decide +kernel
theorem i239_294 : ins 239 294 = some (.aload_n 0, 295, 0, 0) := by decide +kernel
theorem i239_295 : ins 239 295 = some (.iload_n 3, 296, 0, 0) := by decide +kernel
theorem i239_296 : ins 239 296 = some (.iconst (1), 297, 0, 1) := by decide +kernel
theorem i239_297 : ins 239 297 = some (.iadd, 298, 0, 0) := by decide +kernel
theorem i239_298 : ins 239 298 = some (.iaload, 299, 0, 0) := by decide +kernel
theorem i239_299 : ins 239 299 = some (.invokevirtual 35, 302, 205, 0) := by decide +kernel
theorem i239_302 : ins 239 302 = some (.if_icmp .eq (743), 305, 1045, 0) := by decide +kernel
theorem i239_305 : ins 239 305 = some (.iconst (0), 306, 0, 0) := by decide +kernel
theorem i239_306 : ins 239 306 = some (.ireturn, 307, 0, 0) := by decide +kernel
theorem i239_307 : ins 239 307 = some (.aload_n 1, 308, 0, 0) := by decide +kernel
theorem i239_308 : ins 239 308 = some (.aload_n 0, 309, 0, 0) := by decide +kernel
theorem i239_309 : ins 239 309 = some (.iload_n 3, 310, 0, 0) := by decide +kernel
theorem i239_310 : ins 239 310 = some (.iconst (1), 311, 0, 1) := by decide +kernel
theorem i239_311 : ins 239 311 = some (.iadd, 312, 0, 0) := by decide +kernel
theorem i239_312 : ins 239 312 = some (.iaload, 313, 0, 0) := by decide +kernel
theorem i239_313 : ins 239 313 = some (.aload_n 0, 314, 0, 0) := by decide +kernel
theorem i239_314 : ins 239 314 = some (.iload_n 3, 315, 0, 0) := by decide +kernel
theorem i239_315 : ins 239 315 = some (.iconst (2), 316, 0, 2) := by decide +kernel
theorem i239_316 : ins 239 316 = some (.iadd, 317, 0, 0) := by decide +kernel
theorem i239_317 : ins 239 317 = some (.iaload, 318, 0, 0) := by decide +kernel
theorem i239_318 : ins 239 318 = some (.aload_n 0, 319, 0, 0) := by decide +kernel
theorem i239_319 : ins 239 319 = some (.iload_n 3, 320, 0, 0) := by decide +kernel
theorem i239_320 : ins 239 320 = some (.iconst (3), 321, 0, 3) := by decide +kernel
theorem i239_321 : ins 239 321 = some (.iadd, 322, 0, 0) := by decide +kernel
theorem i239_322 : ins 239 322 = some (.iaload, 323, 0, 0) := by decide +kernel
theorem i239_323 : ins 239 323 = some (.invokevirtual 36, 326, 114, 0) := by decide +kernel
theorem i239_326 : ins 239 326 = some (.aload_n 2, 327, 0, 0) := by decide +kernel
theorem i239_327 : ins 239 327 = some (.aload_n 0, 328, 0, 0) := by decide +kernel
theorem i239_328 : ins 239 328 = some (.iload_n 3, 329, 0, 0) := by decide +kernel
theorem i239_329 : ins 239 329 = some (.iconst (1), 330, 0, 1) := by decide +kernel
theorem i239_330 : ins 239 330 = some (.iadd, 331, 0, 0) := by decide +kernel
theorem i239_331 : ins 239 331 = some (.iaload, 332, 0, 0) := by decide +kernel
theorem i239_332 : ins 239 332 = some (.aload_n 0, 333, 0, 0) := by decide +kernel
theorem i239_333 : ins 239 333 = some (.iload_n 3, 334, 0, 0) := by decide +kernel
theorem i239_334 : ins 239 334 = some (.iconst (2), 335, 0, 2) := by decide +kernel
theorem i239_335 : ins 239 335 = some (.iadd, 336, 0, 0) := by decide +kernel
theorem i239_336 : ins 239 336 = some (.iaload, 337, 0, 0) := by decide +kernel
theorem i239_337 : ins 239 337 = some (.aload_n 0, 338, 0, 0) := by decide +kernel
theorem i239_338 : ins 239 338 = some (.iload_n 3, 339, 0, 0) := by decide +kernel
theorem i239_339 : ins 239 339 = some (.iconst (3), 340, 0, 3) := by decide +kernel
theorem i239_340 : ins 239 340 = some (.iadd, 341, 0, 0) := by decide +kernel
theorem i239_341 : ins 239 341 = some (.iaload, 342, 0, 0) := by decide +kernel
theorem i239_342 : ins 239 342 = some (.invokevirtual 40, 345, 206, 0) := by decide +kernel
theorem i239_345 : ins 239 345 = some (.if_icmp .eq (700), 348, 1045, 0) := by decide +kernel
theorem i239_348 : ins 239 348 = some (.iconst (0), 349, 0, 0) := by decide +kernel
theorem i239_349 : ins 239 349 = some (.ireturn, 350, 0, 0) := by decide +kernel
theorem i239_350 : ins 239 350 = some (.aload_n 1, 351, 0, 0) := by decide +kernel
theorem i239_351 : ins 239 351 = some (.aload_n 0, 352, 0, 0) := by decide +kernel
theorem i239_352 : ins 239 352 = some (.iload_n 3, 353, 0, 0) := by decide +kernel
theorem i239_353 : ins 239 353 = some (.iconst (1), 354, 0, 1) := by decide +kernel
theorem i239_354 : ins 239 354 = some (.iadd, 355, 0, 0) := by decide +kernel
theorem i239_355 : ins 239 355 = some (.iaload, 356, 0, 0) := by decide +kernel
theorem i239_356 : ins 239 356 = some (.aload_n 0, 357, 0, 0) := by decide +kernel
theorem i239_357 : ins 239 357 = some (.iload_n 3, 358, 0, 0) := by decide +kernel
theorem i239_358 : ins 239 358 = some (.iconst (2), 359, 0, 2) := by decide +kernel
theorem i239_359 : ins 239 359 = some (.iadd, 360, 0, 0) := by decide +kernel
theorem i239_360 : ins 239 360 = some (.iaload, 361, 0, 0) := by decide +kernel
theorem i239_361 : ins 239 361 = some (.invokevirtual 41, 364, 115, 0) := by decide +kernel
theorem i239_364 : ins 239 364 = some (.aload_n 2, 365, 0, 0) := by decide +kernel
theorem i239_365 : ins 239 365 = some (.aload_n 0, 366, 0, 0) := by decide +kernel
theorem i239_366 : ins 239 366 = some (.iload_n 3, 367, 0, 0) := by decide +kernel
theorem i239_367 : ins 239 367 = some (.iconst (1), 368, 0, 1) := by decide +kernel
theorem i239_368 : ins 239 368 = some (.iadd, 369, 0, 0) := by decide +kernel
theorem i239_369 : ins 239 369 = some (.iaload, 370, 0, 0) := by decide +kernel
theorem i239_370 : ins 239 370 = some (.aload_n 0, 371, 0, 0) := by decide +kernel
theorem i239_371 : ins 239 371 = some (.iload_n 3, 372, 0, 0) := by decide +kernel
theorem i239_372 : ins 239 372 = some (.iconst (2), 373, 0, 2) := by decide +kernel
theorem i239_373 : ins 239 373 = some (.iadd, 374, 0, 0) := by decide +kernel
theorem i239_374 : ins 239 374 = some (.iaload, 375, 0, 0) := by decide +kernel
theorem i239_375 : ins 239 375 = some (.invokevirtual 45, 378, 207, 0) := by decide +kernel
theorem i239_378 : ins 239 378 = some (.if_icmp .eq (667), 381, 1045, 0) := by decide +kernel
theorem i239_381 : ins 239 381 = some (.iconst (0), 382, 0, 0) := by decide +kernel
theorem i239_382 : ins 239 382 = some (.ireturn, 383, 0, 0) := by decide +kernel
theorem i239_383 : ins 239 383 = some (.aload_n 1, 384, 0, 0) := by decide +kernel
theorem i239_384 : ins 239 384 = some (.aload_n 0, 385, 0, 0) := by decide +kernel
theorem i239_385 : ins 239 385 = some (.iload_n 3, 386, 0, 0) := by decide +kernel
theorem i239_386 : ins 239 386 = some (.iconst (1), 387, 0, 1) := by decide +kernel
theorem i239_387 : ins 239 387 = some (.iadd, 388, 0, 0) := by decide +kernel
theorem i239_388 : ins 239 388 = some (.iaload, 389, 0, 0) := by decide +kernel
theorem i239_389 : ins 239 389 = some (.aload_n 0, 390, 0, 0) := by decide +kernel
theorem i239_390 : ins 239 390 = some (.iload_n 3, 391, 0, 0) := by decide +kernel
theorem i239_391 : ins 239 391 = some (.iconst (2), 392, 0, 2) := by decide +kernel
theorem i239_392 : ins 239 392 = some (.iadd, 393, 0, 0) := by decide +kernel
theorem i239_393 : ins 239 393 = some (.iaload, 394, 0, 0) := by decide +kernel
theorem i239_394 : ins 239 394 = some (.invokevirtual 46, 397, 117, 0) := by decide +kernel
theorem i239_397 : ins 239 397 = some (.aload_n 2, 398, 0, 0) := by decide +kernel
theorem i239_398 : ins 239 398 = some (.aload_n 0, 399, 0, 0) := by decide +kernel
theorem i239_399 : ins 239 399 = some (.iload_n 3, 400, 0, 0) := by decide +kernel
theorem i239_400 : ins 239 400 = some (.iconst (1), 401, 0, 1) := by decide +kernel
theorem i239_401 : ins 239 401 = some (.iadd, 402, 0, 0) := by decide +kernel
theorem i239_402 : ins 239 402 = some (.iaload, 403, 0, 0) := by decide +kernel
theorem i239_403 : ins 239 403 = some (.aload_n 0, 404, 0, 0) := by decide +kernel
theorem i239_404 : ins 239 404 = some (.iload_n 3, 405, 0, 0) := by decide +kernel
theorem i239_405 : ins 239 405 = some (.iconst (2), 406, 0, 2) := by decide +kernel
theorem i239_406 : ins 239 406 = some (.iadd, 407, 0, 0) := by decide +kernel
theorem i239_407 : ins 239 407 = some (.iaload, 408, 0, 0) := by decide +kernel
theorem i239_408 : ins 239 408 = some (.invokevirtual 49, 411, 208, 0) := by decide +kernel
theorem i239_411 : ins 239 411 = some (.if_icmp .eq (634), 414, 1045, 0) := by decide +kernel
theorem i239_414 : ins 239 414 = some (.iconst (0), 415, 0, 0) := by decide +kernel
theorem i239_415 : ins 239 415 = some (.ireturn, 416, 0, 0) := by decide +kernel
theorem i239_416 : ins 239 416 = some (.aload_n 1, 417, 0, 0) := by decide +kernel
theorem i239_417 : ins 239 417 = some (.aload_n 0, 418, 0, 0) := by decide +kernel
theorem i239_418 : ins 239 418 = some (.iload_n 3, 419, 0, 0) := by decide +kernel
theorem i239_419 : ins 239 419 = some (.iconst (1), 420, 0, 1) := by decide +kernel
theorem i239_420 : ins 239 420 = some (.iadd, 421, 0, 0) := by decide +kernel
theorem i239_421 : ins 239 421 = some (.iaload, 422, 0, 0) := by decide +kernel
theorem i239_422 : ins 239 422 = some (.invokevirtual 50, 425, 118, 0) := by decide +kernel
theorem i239_425 : ins 239 425 = some (.aload_n 2, 426, 0, 0) := by decide +kernel
theorem i239_426 : ins 239 426 = some (.aload_n 0, 427, 0, 0) := by decide +kernel
theorem i239_427 : ins 239 427 = some (.iload_n 3, 428, 0, 0) := by decide +kernel
theorem i239_428 : ins 239 428 = some (.iconst (1), 429, 0, 1) := by decide +kernel
theorem i239_429 : ins 239 429 = some (.iadd, 430, 0, 0) := by decide +kernel
theorem i239_430 : ins 239 430 = some (.iaload, 431, 0, 0) := by decide +kernel
theorem i239_431 : ins 239 431 = some (.invokevirtual 53, 434, 210, 0) := by decide +kernel
theorem i239_434 : ins 239 434 = some (.if_icmp .eq (611), 437, 1045, 0) := by decide +kernel
theorem i239_437 : ins 239 437 = some (.iconst (0), 438, 0, 0) := by decide +kernel
theorem i239_438 : ins 239 438 = some (.ireturn, 439, 0, 0) := by decide +kernel
theorem i239_439 : ins 239 439 = some (.aload_n 1, 440, 0, 0) := by decide +kernel
theorem i239_440 : ins 239 440 = some (.invokevirtual 54, 443, 119, 0) := by decide +kernel
theorem i239_443 : ins 239 443 = some (.aload_n 2, 444, 0, 0) := by decide +kernel
theorem i239_444 : ins 239 444 = some (.invokevirtual 57, 447, 211, 0) := by decide +kernel
theorem i239_447 : ins 239 447 = some (.if_icmp .eq (598), 450, 1045, 0) := by decide +kernel
theorem i239_450 : ins 239 450 = some (.iconst (0), 451, 0, 0) := by decide +kernel
theorem i239_451 : ins 239 451 = some (.ireturn, 452, 0, 0) := by decide +kernel
theorem i239_452 : ins 239 452 = some (.aload_n 1, 453, 0, 0) := by decide +kernel
theorem i239_453 : ins 239 453 = some (.aload_n 0, 454, 0, 0) := by decide +kernel
theorem i239_454 : ins 239 454 = some (.iload_n 3, 455, 0, 0) := by decide +kernel
theorem i239_455 : ins 239 455 = some (.iconst (1), 456, 0, 1) := by decide +kernel
theorem i239_456 : ins 239 456 = some (.iadd, 457, 0, 0) := by decide +kernel
theorem i239_457 : ins 239 457 = some (.iaload, 458, 0, 0) := by decide +kernel
theorem i239_458 : ins 239 458 = some (.aload_n 0, 459, 0, 0) := by decide +kernel
theorem i239_459 : ins 239 459 = some (.iload_n 3, 460, 0, 0) := by decide +kernel
theorem i239_460 : ins 239 460 = some (.iconst (2), 461, 0, 2) := by decide +kernel
theorem i239_461 : ins 239 461 = some (.iadd, 462, 0, 0) := by decide +kernel
theorem i239_462 : ins 239 462 = some (.iaload, 463, 0, 0) := by decide +kernel
theorem i239_463 : ins 239 463 = some (.aload_n 0, 464, 0, 0) := by decide +kernel
theorem i239_464 : ins 239 464 = some (.iload_n 3, 465, 0, 0) := by decide +kernel
theorem i239_465 : ins 239 465 = some (.iconst (3), 466, 0, 3) := by decide +kernel
theorem i239_466 : ins 239 466 = some (.iadd, 467, 0, 0) := by decide +kernel
theorem i239_467 : ins 239 467 = some (.iaload, 468, 0, 0) := by decide +kernel
theorem i239_468 : ins 239 468 = some (.invokevirtual 58, 471, 120, 0) := by decide +kernel
theorem i239_471 : ins 239 471 = some (.aload_n 2, 472, 0, 0) := by decide +kernel
theorem i239_472 : ins 239 472 = some (.aload_n 0, 473, 0, 0) := by decide +kernel
theorem i239_473 : ins 239 473 = some (.iload_n 3, 474, 0, 0) := by decide +kernel
theorem i239_474 : ins 239 474 = some (.iconst (1), 475, 0, 1) := by decide +kernel
theorem i239_475 : ins 239 475 = some (.iadd, 476, 0, 0) := by decide +kernel
theorem i239_476 : ins 239 476 = some (.iaload, 477, 0, 0) := by decide +kernel
theorem i239_477 : ins 239 477 = some (.aload_n 0, 478, 0, 0) := by decide +kernel
theorem i239_478 : ins 239 478 = some (.iload_n 3, 479, 0, 0) := by decide +kernel
theorem i239_479 : ins 239 479 = some (.iconst (2), 480, 0, 2) := by decide +kernel
theorem i239_480 : ins 239 480 = some (.iadd, 481, 0, 0) := by decide +kernel
theorem i239_481 : ins 239 481 = some (.iaload, 482, 0, 0) := by decide +kernel
theorem i239_482 : ins 239 482 = some (.aload_n 0, 483, 0, 0) := by decide +kernel
theorem i239_483 : ins 239 483 = some (.iload_n 3, 484, 0, 0) := by decide +kernel
theorem i239_484 : ins 239 484 = some (.iconst (3), 485, 0, 3) := by decide +kernel
theorem i239_485 : ins 239 485 = some (.iadd, 486, 0, 0) := by decide +kernel
theorem i239_486 : ins 239 486 = some (.iaload, 487, 0, 0) := by decide +kernel
theorem i239_487 : ins 239 487 = some (.invokevirtual 61, 490, 213, 0) := by decide +kernel
theorem i239_490 : ins 239 490 = some (.if_icmp .eq (555), 493, 1045, 0) := by decide +kernel
theorem i239_493 : ins 239 493 = some (.iconst (0), 494, 0, 0) := by decide +kernel
theorem i239_494 : ins 239 494 = some (.ireturn, 495, 0, 0) := by decide +kernel
theorem i239_495 : ins 239 495 = some (.aload_n 1, 496, 0, 0) := by decide +kernel
theorem i239_496 : ins 239 496 = some (.aload_n 0, 497, 0, 0) := by decide +kernel
theorem i239_497 : ins 239 497 = some (.iload_n 3, 498, 0, 0) := by decide +kernel
theorem i239_498 : ins 239 498 = some (.iconst (1), 499, 0, 1) := by decide +kernel
theorem i239_499 : ins 239 499 = some (.iadd, 500, 0, 0) := by decide +kernel
theorem i239_500 : ins 239 500 = some (.iaload, 501, 0, 0) := by decide +kernel
theorem i239_501 : ins 239 501 = some (.invokevirtual 62, 504, 121, 0) := by decide +kernel
theorem i239_504 : ins 239 504 = some (.aload_n 2, 505, 0, 0) := by decide +kernel
theorem i239_505 : ins 239 505 = some (.aload_n 0, 506, 0, 0) := by decide +kernel
theorem i239_506 : ins 239 506 = some (.iload_n 3, 507, 0, 0) := by decide +kernel
theorem i239_507 : ins 239 507 = some (.iconst (1), 508, 0, 1) := by decide +kernel
theorem i239_508 : ins 239 508 = some (.iadd, 509, 0, 0) := by decide +kernel
theorem i239_509 : ins 239 509 = some (.iaload, 510, 0, 0) := by decide +kernel
theorem i239_510 : ins 239 510 = some (.invokevirtual 65, 513, 214, 0) := by decide +kernel
theorem i239_513 : ins 239 513 = some (.if_icmp .eq (532), 516, 1045, 0) := by decide +kernel
theorem i239_516 : ins 239 516 = some (.iconst (0), 517, 0, 0) := by decide +kernel
theorem i239_517 : ins 239 517 = some (.ireturn, 518, 0, 0) := by decide +kernel
theorem i239_518 : ins 239 518 = some (.aload_n 1, 519, 0, 0) := by decide +kernel
theorem i239_519 : ins 239 519 = some (.invokevirtual 66, 522, 122, 0) := by decide +kernel
theorem i239_522 : ins 239 522 = some (.aload_n 2, 523, 0, 0) := by decide +kernel
theorem i239_523 : ins 239 523 = some (.invokevirtual 70, 526, 215, 0) := by decide +kernel
theorem i239_526 : ins 239 526 = some (.if_icmp .eq (519), 529, 1045, 0) := by decide +kernel
theorem i239_529 : ins 239 529 = some (.iconst (0), 530, 0, 0) := by decide +kernel
theorem i239_530 : ins 239 530 = some (.ireturn, 531, 0, 0) := by decide +kernel
theorem i239_531 : ins 239 531 = some (.aload_n 1, 532, 0, 0) := by decide +kernel
theorem i239_532 : ins 239 532 = some (.aload_n 0, 533, 0, 0) := by decide +kernel
theorem i239_533 : ins 239 533 = some (.iload_n 3, 534, 0, 0) := by decide +kernel
theorem i239_534 : ins 239 534 = some (.iconst (1), 535, 0, 1) := by decide +kernel
theorem i239_535 : ins 239 535 = some (.iadd, 536, 0, 0) := by decide +kernel
theorem i239_536 : ins 239 536 = some (.iaload, 537, 0, 0) := by decide +kernel
theorem i239_537 : ins 239 537 = some (.aload_n 0, 538, 0, 0) := by decide +kernel
theorem i239_538 : ins 239 538 = some (.iload_n 3, 539, 0, 0) := by decide +kernel
theorem i239_539 : ins 239 539 = some (.iconst (2), 540, 0, 2) := by decide +kernel
theorem i239_540 : ins 239 540 = some (.iadd, 541, 0, 0) := by decide +kernel
theorem i239_541 : ins 239 541 = some (.iaload, 542, 0, 0) := by decide +kernel
theorem i239_542 : ins 239 542 = some (.invokevirtual 71, 545, 123, 0) := by decide +kernel
theorem i239_545 : ins 239 545 = some (.aload_n 2, 546, 0, 0) := by decide +kernel
theorem i239_546 : ins 239 546 = some (.aload_n 0, 547, 0, 0) := by decide +kernel
theorem i239_547 : ins 239 547 = some (.iload_n 3, 548, 0, 0) := by decide +kernel
theorem i239_548 : ins 239 548 = some (.iconst (1), 549, 0, 1) := by decide +kernel
theorem i239_549 : ins 239 549 = some (.iadd, 550, 0, 0) := by decide +kernel
theorem i239_550 : ins 239 550 = some (.iaload, 551, 0, 0) := by decide +kernel
theorem i239_551 : ins 239 551 = some (.aload_n 0, 552, 0, 0) := by decide +kernel
theorem i239_552 : ins 239 552 = some (.iload_n 3, 553, 0, 0) := by decide +kernel
theorem i239_553 : ins 239 553 = some (.iconst (2), 554, 0, 2) := by decide +kernel
theorem i239_554 : ins 239 554 = some (.iadd, 555, 0, 0) := by decide +kernel
theorem i239_555 : ins 239 555 = some (.iaload, 556, 0, 0) := by decide +kernel
theorem i239_556 : ins 239 556 = some (.invokevirtual 74, 559, 216, 0) := by decide +kernel
theorem i239_559 : ins 239 559 = some (.if_icmp .eq (486), 562, 1045, 0) := by decide +kernel
theorem i239_562 : ins 239 562 = some (.iconst (0), 563, 0, 0) := by decide +kernel
theorem i239_563 : ins 239 563 = some (.ireturn, 564, 0, 0) := by decide +kernel
theorem i239_564 : ins 239 564 = some (.aload_n 1, 565, 0, 0) := by decide +kernel
theorem i239_565 : ins 239 565 = some (.aload_n 0, 566, 0, 0) := by decide +kernel
theorem i239_566 : ins 239 566 = some (.iload_n 3, 567, 0, 0) := by decide +kernel
theorem i239_567 : ins 239 567 = some (.iconst (1), 568, 0, 1) := by decide +kernel
theorem i239_568 : ins 239 568 = some (.iadd, 569, 0, 0) := by decide +kernel
theorem i239_569 : ins 239 569 = some (.iaload, 570, 0, 0) := by decide +kernel
theorem i239_570 : ins 239 570 = some (.aload_n 0, 571, 0, 0) := by decide +kernel
theorem i239_571 : ins 239 571 = some (.iload_n 3, 572, 0, 0) := by decide +kernel
theorem i239_572 : ins 239 572 = some (.iconst (2), 573, 0, 2) := by decide +kernel
theorem i239_573 : ins 239 573 = some (.iadd, 574, 0, 0) := by decide +kernel
theorem i239_574 : ins 239 574 = some (.iaload, 575, 0, 0) := by decide +kernel
theorem i239_575 : ins 239 575 = some (.invokevirtual 75, 578, 124, 0) := by decide +kernel
theorem i239_578 : ins 239 578 = some (.aload_n 2, 579, 0, 0) := by decide +kernel
theorem i239_579 : ins 239 579 = some (.aload_n 0, 580, 0, 0) := by decide +kernel
theorem i239_580 : ins 239 580 = some (.iload_n 3, 581, 0, 0) := by decide +kernel
theorem i239_581 : ins 239 581 = some (.iconst (1), 582, 0, 1) := by decide +kernel
theorem i239_582 : ins 239 582 = some (.iadd, 583, 0, 0) := by decide +kernel
theorem i239_583 : ins 239 583 = some (.iaload, 584, 0, 0) := by decide +kernel
theorem i239_584 : ins 239 584 = some (.aload_n 0, 585, 0, 0) := by decide +kernel
theorem i239_585 : ins 239 585 = some (.iload_n 3, 586, 0, 0) := by decide +kernel
theorem i239_586 : ins 239 586 = some (.iconst (2), 587, 0, 2) := by decide +kernel
theorem i239_587 : ins 239 587 = some (.iadd, 588, 0, 0) := by decide +kernel
theorem i239_588 : ins 239 588 = some (.iaload, 589, 0, 0) := by decide +kernel
theorem i239_589 : ins 239 589 = some (.invokevirtual 78, 592, 219, 0) := by decide +kernel
theorem i239_592 : ins 239 592 = some (.if_icmp .eq (453), 595, 1045, 0) := by decide +kernel
theorem i239_595 : ins 239 595 = some (.iconst (0), 596, 0, 0) := by decide +kernel
theorem i239_596 : ins 239 596 = some (.ireturn, 597, 0, 0) := by decide +kernel
theorem i239_597 : ins 239 597 = some (.aload_n 1, 598, 0, 0) := by decide +kernel
theorem i239_598 : ins 239 598 = some (.aload_n 0, 599, 0, 0) := by decide +kernel
theorem i239_599 : ins 239 599 = some (.iload_n 3, 600, 0, 0) := by decide +kernel
theorem i239_600 : ins 239 600 = some (.iconst (1), 601, 0, 1) := by decide +kernel
theorem i239_601 : ins 239 601 = some (.iadd, 602, 0, 0) := by decide +kernel
theorem i239_602 : ins 239 602 = some (.iaload, 603, 0, 0) := by decide +kernel
theorem i239_603 : ins 239 603 = some (.aload_n 0, 604, 0, 0) := by decide +kernel
theorem i239_604 : ins 239 604 = some (.iload_n 3, 605, 0, 0) := by decide +kernel
theorem i239_605 : ins 239 605 = some (.iconst (2), 606, 0, 2) := by decide +kernel
theorem i239_606 : ins 239 606 = some (.iadd, 607, 0, 0) := by decide +kernel
theorem i239_607 : ins 239 607 = some (.iaload, 608, 0, 0) := by decide +kernel
theorem i239_608 : ins 239 608 = some (.aload_n 0, 609, 0, 0) := by decide +kernel
theorem i239_609 : ins 239 609 = some (.iload_n 3, 610, 0, 0) := by decide +kernel
theorem i239_610 : ins 239 610 = some (.iconst (3), 611, 0, 3) := by decide +kernel
theorem i239_611 : ins 239 611 = some (.iadd, 612, 0, 0) := by decide +kernel
theorem i239_612 : ins 239 612 = some (.iaload, 613, 0, 0) := by decide +kernel
theorem i239_613 : ins 239 613 = some (.invokevirtual 79, 616, 125, 0) := by decide +kernel
theorem i239_616 : ins 239 616 = some (.aload_n 2, 617, 0, 0) := by decide +kernel
theorem i239_617 : ins 239 617 = some (.aload_n 0, 618, 0, 0) := by decide +kernel
theorem i239_618 : ins 239 618 = some (.iload_n 3, 619, 0, 0) := by decide +kernel
theorem i239_619 : ins 239 619 = some (.iconst (1), 620, 0, 1) := by decide +kernel
theorem i239_620 : ins 239 620 = some (.iadd, 621, 0, 0) := by decide +kernel
theorem i239_621 : ins 239 621 = some (.iaload, 622, 0, 0) := by decide +kernel
theorem i239_622 : ins 239 622 = some (.aload_n 0, 623, 0, 0) := by decide +kernel
theorem i239_623 : ins 239 623 = some (.iload_n 3, 624, 0, 0) := by decide +kernel
theorem i239_624 : ins 239 624 = some (.iconst (2), 625, 0, 2) := by decide +kernel
theorem i239_625 : ins 239 625 = some (.iadd, 626, 0, 0) := by decide +kernel
theorem i239_626 : ins 239 626 = some (.iaload, 627, 0, 0) := by decide +kernel
theorem i239_627 : ins 239 627 = some (.aload_n 0, 628, 0, 0) := by decide +kernel
theorem i239_628 : ins 239 628 = some (.iload_n 3, 629, 0, 0) := by decide +kernel
theorem i239_629 : ins 239 629 = some (.iconst (3), 630, 0, 3) := by decide +kernel
theorem i239_630 : ins 239 630 = some (.iadd, 631, 0, 0) := by decide +kernel
theorem i239_631 : ins 239 631 = some (.iaload, 632, 0, 0) := by decide +kernel
theorem i239_632 : ins 239 632 = some (.invokevirtual 82, 635, 220, 0) := by decide +kernel
theorem i239_635 : ins 239 635 = some (.if_icmp .eq (410), 638, 1045, 0) := by decide +kernel
theorem i239_638 : ins 239 638 = some (.iconst (0), 639, 0, 0) := by decide +kernel
theorem i239_639 : ins 239 639 = some (.ireturn, 640, 0, 0) := by decide +kernel
theorem i239_640 : ins 239 640 = some (.aload_n 1, 641, 0, 0) := by decide +kernel
theorem i239_641 : ins 239 641 = some (.aload_n 0, 642, 0, 0) := by decide +kernel
theorem i239_642 : ins 239 642 = some (.iload_n 3, 643, 0, 0) := by decide +kernel
theorem i239_643 : ins 239 643 = some (.iconst (1), 644, 0, 1) := by decide +kernel
theorem i239_644 : ins 239 644 = some (.iadd, 645, 0, 0) := by decide +kernel
theorem i239_645 : ins 239 645 = some (.iaload, 646, 0, 0) := by decide +kernel
theorem i239_646 : ins 239 646 = some (.invokevirtual 83, 649, 126, 0) := by decide +kernel
theorem i239_649 : ins 239 649 = some (.aload_n 2, 650, 0, 0) := by decide +kernel
theorem i239_650 : ins 239 650 = some (.aload_n 0, 651, 0, 0) := by decide +kernel
theorem i239_651 : ins 239 651 = some (.iload_n 3, 652, 0, 0) := by decide +kernel
theorem i239_652 : ins 239 652 = some (.iconst (1), 653, 0, 1) := by decide +kernel
theorem i239_653 : ins 239 653 = some (.iadd, 654, 0, 0) := by decide +kernel
theorem i239_654 : ins 239 654 = some (.iaload, 655, 0, 0) := by decide +kernel
theorem i239_655 : ins 239 655 = some (.invokevirtual 86, 658, 221, 0) := by decide +kernel
theorem i239_658 : ins 239 658 = some (.if_icmp .eq (387), 661, 1045, 0) := by decide +kernel
theorem i239_661 : ins 239 661 = some (.iconst (0), 662, 0, 0) := by decide +kernel
theorem i239_662 : ins 239 662 = some (.ireturn, 663, 0, 0) := by decide +kernel
theorem i239_663 : ins 239 663 = some (.aload_n 1, 664, 0, 0) := by decide +kernel
theorem i239_664 : ins 239 664 = some (.aload_n 0, 665, 0, 0) := by decide +kernel
theorem i239_665 : ins 239 665 = some (.iload_n 3, 666, 0, 0) := by decide +kernel
theorem i239_666 : ins 239 666 = some (.iconst (1), 667, 0, 1) := by decide +kernel
theorem i239_667 : ins 239 667 = some (.iadd, 668, 0, 0) := by decide +kernel
theorem i239_668 : ins 239 668 = some (.iaload, 669, 0, 0) := by decide +kernel
theorem i239_669 : ins 239 669 = some (.invokevirtual 87, 672, 127, 0) := by decide +kernel
theorem i239_672 : ins 239 672 = some (.aload_n 2, 673, 0, 0) := by decide +kernel
theorem i239_673 : ins 239 673 = some (.aload_n 0, 674, 0, 0) := by decide +kernel
theorem i239_674 : ins 239 674 = some (.iload_n 3, 675, 0, 0) := by decide +kernel
theorem i239_675 : ins 239 675 = some (.iconst (1), 676, 0, 1) := by decide +kernel
theorem i239_676 : ins 239 676 = some (.iadd, 677, 0, 0) := by decide +kernel
theorem i239_677 : ins 239 677 = some (.iaload, 678, 0, 0) := by decide +kernel
theorem i239_678 : ins 239 678 = some (.invokevirtual 90, 681, 222, 0) := by decide +kernel
theorem i239_681 : ins 239 681 = some (.if_icmp .eq (364), 684, 1045, 0) := by decide +kernel
theorem i239_684 : ins 239 684 = some (.iconst (0), 685, 0, 0) := by decide +kernel
theorem i239_685 : ins 239 685 = some (.ireturn, 686, 0, 0) := by decide +kernel
theorem i239_686 : ins 239 686 = some (.aload_n 1, 687, 0, 0) := by decide +kernel
theorem i239_687 : ins 239 687 = some (.aload_n 0, 688, 0, 0) := by decide +kernel
theorem i239_688 : ins 239 688 = some (.iload_n 3, 689, 0, 0) := by decide +kernel
theorem i239_689 : ins 239 689 = some (.iconst (1), 690, 0, 1) := by decide +kernel
theorem i239_690 : ins 239 690 = some (.iadd, 691, 0, 0) := by decide +kernel
theorem i239_691 : ins 239 691 = some (.iaload, 692, 0, 0) := by decide +kernel
theorem i239_692 : ins 239 692 = some (.aload_n 0, 693, 0, 0) := by decide +kernel
theorem i239_693 : ins 239 693 = some (.iload_n 3, 694, 0, 0) := by decide +kernel
theorem i239_694 : ins 239 694 = some (.iconst (2), 695, 0, 2) := by decide +kernel
theorem i239_695 : ins 239 695 = some (.iadd, 696, 0, 0) := by decide +kernel
theorem i239_696 : ins 239 696 = some (.iaload, 697, 0, 0) := by decide +kernel
theorem i239_697 : ins 239 697 = some (.invokevirtual 91, 700, 128, 0) := by decide +kernel
theorem i239_700 : ins 239 700 = some (.aload_n 2, 701, 0, 0) := by decide +kernel
theorem i239_701 : ins 239 701 = some (.aload_n 0, 702, 0, 0) := by decide +kernel
theorem i239_702 : ins 239 702 = some (.iload_n 3, 703, 0, 0) := by decide +kernel
theorem i239_703 : ins 239 703 = some (.iconst (1), 704, 0, 1) := by decide +kernel
theorem i239_704 : ins 239 704 = some (.iadd, 705, 0, 0) := by decide +kernel
theorem i239_705 : ins 239 705 = some (.iaload, 706, 0, 0) := by decide +kernel
theorem i239_706 : ins 239 706 = some (.aload_n 0, 707, 0, 0) := by decide +kernel
theorem i239_707 : ins 239 707 = some (.iload_n 3, 708, 0, 0) := by decide +kernel
theorem i239_708 : ins 239 708 = some (.iconst (2), 709, 0, 2) := by decide +kernel
theorem i239_709 : ins 239 709 = some (.iadd, 710, 0, 0) := by decide +kernel
theorem i239_710 : ins 239 710 = some (.iaload, 711, 0, 0) := by decide +kernel
theorem i239_711 : ins 239 711 = some (.invokevirtual 94, 714, 223, 0) := by decide +kernel
theorem i239_714 : ins 239 714 = some (.if_icmp .eq (331), 717, 1045, 0) := by decide +kernel
theorem i239_717 : ins 239 717 = some (.iconst (0), 718, 0, 0) := by decide +kernel
theorem i239_718 : ins 239 718 = some (.ireturn, 719, 0, 0) := by decide +kernel
theorem i239_719 : ins 239 719 = some (.aload_n 1, 720, 0, 0) := by decide +kernel
theorem i239_720 : ins 239 720 = some (.aload_n 0, 721, 0, 0) := by decide +kernel
theorem i239_721 : ins 239 721 = some (.iload_n 3, 722, 0, 0) := by decide +kernel
theorem i239_722 : ins 239 722 = some (.iconst (1), 723, 0, 1) := by decide +kernel
theorem i239_723 : ins 239 723 = some (.iadd, 724, 0, 0) := by decide +kernel
theorem i239_724 : ins 239 724 = some (.iaload, 725, 0, 0) := by decide +kernel
theorem i239_725 : ins 239 725 = some (.invokevirtual 95, 728, 129, 0) := by decide +kernel
theorem i239_728 : ins 239 728 = some (.aload_n 2, 729, 0, 0) := by decide +kernel
theorem i239_729 : ins 239 729 = some (.aload_n 0, 730, 0, 0) := by decide +kernel
theorem i239_730 : ins 239 730 = some (.iload_n 3, 731, 0, 0) := by decide +kernel
theorem i239_731 : ins 239 731 = some (.iconst (1), 732, 0, 1) := by decide +kernel
theorem i239_732 : ins 239 732 = some (.iadd, 733, 0, 0) := by decide +kernel
theorem i239_733 : ins 239 733 = some (.iaload, 734, 0, 0) := by decide +kernel
theorem i239_734 : ins 239 734 = some (.invokevirtual 98, 737, 224, 0) := by decide +kernel
theorem i239_737 : ins 239 737 = some (.if_icmp .eq (308), 740, 1045, 0) := by decide +kernel
theorem i239_740 : ins 239 740 = some (.iconst (0), 741, 0, 0) := by decide +kernel
theorem i239_741 : ins 239 741 = some (.ireturn, 742, 0, 0) := by decide +kernel
theorem i239_742 : ins 239 742 = some (.aload_n 1, 743, 0, 0) := by decide +kernel
theorem i239_743 : ins 239 743 = some (.aload_n 0, 744, 0, 0) := by decide +kernel
theorem i239_744 : ins 239 744 = some (.iload_n 3, 745, 0, 0) := by decide +kernel
theorem i239_745 : ins 239 745 = some (.iconst (1), 746, 0, 1) := by decide +kernel
theorem i239_746 : ins 239 746 = some (.iadd, 747, 0, 0) := by decide +kernel
theorem i239_747 : ins 239 747 = some (.iaload, 748, 0, 0) := by decide +kernel
theorem i239_748 : ins 239 748 = some (.aload_n 0, 749, 0, 0) := by decide +kernel
theorem i239_749 : ins 239 749 = some (.iload_n 3, 750, 0, 0) := by decide +kernel
theorem i239_750 : ins 239 750 = some (.iconst (2), 751, 0, 2) := by decide +kernel
theorem i239_751 : ins 239 751 = some (.iadd, 752, 0, 0) := by decide +kernel
theorem i239_752 : ins 239 752 = some (.iaload, 753, 0, 0) := by decide +kernel
theorem i239_753 : ins 239 753 = some (.invokevirtual 99, 756, 130, 0) := by decide +kernel
theorem i239_756 : ins 239 756 = some (.aload_n 2, 757, 0, 0) := by decide +kernel
theorem i239_757 : ins 239 757 = some (.aload_n 0, 758, 0, 0) := by decide +kernel
theorem i239_758 : ins 239 758 = some (.iload_n 3, 759, 0, 0) := by decide +kernel
theorem i239_759 : ins 239 759 = some (.iconst (1), 760, 0, 1) := by decide +kernel
theorem i239_760 : ins 239 760 = some (.iadd, 761, 0, 0) := by decide +kernel
theorem i239_761 : ins 239 761 = some (.iaload, 762, 0, 0) := by decide +kernel
theorem i239_762 : ins 239 762 = some (.aload_n 0, 763, 0, 0) := by decide +kernel
theorem i239_763 : ins 239 763 = some (.iload_n 3, 764, 0, 0) := by decide +kernel
theorem i239_764 : ins 239 764 = some (.iconst (2), 765, 0, 2) := by decide +kernel
theorem i239_765 : ins 239 765 = some (.iadd, 766, 0, 0) := by decide +kernel
theorem i239_766 : ins 239 766 = some (.iaload, 767, 0, 0) := by decide +kernel
theorem i239_767 : ins 239 767 = some (.invokevirtual 102, 770, 225, 0) := by decide +kernel
theorem i239_770 : ins 239 770 = some (.if_icmp .eq (275), 773, 1045, 0) := by decide +kernel
theorem i239_773 : ins 239 773 = some (.iconst (0), 774, 0, 0) := by decide +kernel
theorem i239_774 : ins 239 774 = some (.ireturn, 775, 0, 0) := by decide +kernel
theorem i239_775 : ins 239 775 = some (.aload_n 1, 776, 0, 0) := by decide +kernel
theorem i239_776 : ins 239 776 = some (.aload_n 0, 777, 0, 0) := by decide +kernel
theorem i239_777 : ins 239 777 = some (.iload_n 3, 778, 0, 0) := by decide +kernel
theorem i239_778 : ins 239 778 = some (.iconst (1), 779, 0, 1) := by decide +kernel
theorem i239_779 : ins 239 779 = some (.iadd, 780, 0, 0) := by decide +kernel
theorem i239_780 : ins 239 780 = some (.iaload, 781, 0, 0) := by decide +kernel
theorem i239_781 : ins 239 781 = some (.aload_n 0, 782, 0, 0) := by decide +kernel
theorem i239_782 : ins 239 782 = some (.iload_n 3, 783, 0, 0) := by decide +kernel
theorem i239_783 : ins 239 783 = some (.iconst (2), 784, 0, 2) := by decide +kernel
theorem i239_784 : ins 239 784 = some (.iadd, 785, 0, 0) := by decide +kernel
theorem i239_785 : ins 239 785 = some (.iaload, 786, 0, 0) := by decide +kernel
theorem i239_786 : ins 239 786 = some (.aload_n 0, 787, 0, 0) := by decide +kernel
theorem i239_787 : ins 239 787 = some (.iload_n 3, 788, 0, 0) := by decide +kernel
theorem i239_788 : ins 239 788 = some (.iconst (3), 789, 0, 3) := by decide +kernel
theorem i239_789 : ins 239 789 = some (.iadd, 790, 0, 0) := by decide +kernel
theorem i239_790 : ins 239 790 = some (.iaload, 791, 0, 0) := by decide +kernel
theorem i239_791 : ins 239 791 = some (.invokevirtual 103, 794, 131, 0) := by decide +kernel
theorem i239_794 : ins 239 794 = some (.aload_n 2, 795, 0, 0) := by decide +kernel
theorem i239_795 : ins 239 795 = some (.aload_n 0, 796, 0, 0) := by decide +kernel
theorem i239_796 : ins 239 796 = some (.iload_n 3, 797, 0, 0) := by decide +kernel
theorem i239_797 : ins 239 797 = some (.iconst (1), 798, 0, 1) := by decide +kernel
theorem i239_798 : ins 239 798 = some (.iadd, 799, 0, 0) := by decide +kernel
theorem i239_799 : ins 239 799 = some (.iaload, 800, 0, 0) := by decide +kernel
theorem i239_800 : ins 239 800 = some (.aload_n 0, 801, 0, 0) := by decide +kernel
theorem i239_801 : ins 239 801 = some (.iload_n 3, 802, 0, 0) := by decide +kernel
theorem i239_802 : ins 239 802 = some (.iconst (2), 803, 0, 2) := by decide +kernel
theorem i239_803 : ins 239 803 = some (.iadd, 804, 0, 0) := by decide +kernel
theorem i239_804 : ins 239 804 = some (.iaload, 805, 0, 0) := by decide +kernel
theorem i239_805 : ins 239 805 = some (.aload_n 0, 806, 0, 0) := by decide +kernel
theorem i239_806 : ins 239 806 = some (.iload_n 3, 807, 0, 0) := by decide +kernel
theorem i239_807 : ins 239 807 = some (.iconst (3), 808, 0, 3) := by decide +kernel
theorem i239_808 : ins 239 808 = some (.iadd, 809, 0, 0) := by decide +kernel
theorem i239_809 : ins 239 809 = some (.iaload, 810, 0, 0) := by decide +kernel
theorem i239_810 : ins 239 810 = some (.invokevirtual 106, 813, 226, 0) := by decide +kernel
theorem i239_813 : ins 239 813 = some (.if_icmp .eq (232), 816, 1045, 0) := by decide +kernel
theorem i239_816 : ins 239 816 = some (.iconst (0), 817, 0, 0) := by decide +kernel
theorem i239_817 : ins 239 817 = some (.ireturn, 818, 0, 0) := by decide +kernel
theorem i239_818 : ins 239 818 = some (.aload_n 1, 819, 0, 0) := by decide +kernel
theorem i239_819 : ins 239 819 = some (.aload_n 0, 820, 0, 0) := by decide +kernel
theorem i239_820 : ins 239 820 = some (.iload_n 3, 821, 0, 0) := by decide +kernel
theorem i239_821 : ins 239 821 = some (.iconst (1), 822, 0, 1) := by decide +kernel
theorem i239_822 : ins 239 822 = some (.iadd, 823, 0, 0) := by decide +kernel
theorem i239_823 : ins 239 823 = some (.iaload, 824, 0, 0) := by decide +kernel
theorem i239_824 : ins 239 824 = some (.invokevirtual 107, 827, 133, 0) := by decide +kernel
theorem i239_827 : ins 239 827 = some (.aload_n 2, 828, 0, 0) := by decide +kernel
theorem i239_828 : ins 239 828 = some (.aload_n 0, 829, 0, 0) := by decide +kernel
theorem i239_829 : ins 239 829 = some (.iload_n 3, 830, 0, 0) := by decide +kernel
theorem i239_830 : ins 239 830 = some (.iconst (1), 831, 0, 1) := by decide +kernel
theorem i239_831 : ins 239 831 = some (.iadd, 832, 0, 0) := by decide +kernel
theorem i239_832 : ins 239 832 = some (.iaload, 833, 0, 0) := by decide +kernel
theorem i239_833 : ins 239 833 = some (.invokevirtual 110, 836, 227, 0) := by decide +kernel
theorem i239_836 : ins 239 836 = some (.if_icmp .eq (209), 839, 1045, 0) := by decide +kernel
theorem i239_839 : ins 239 839 = some (.iconst (0), 840, 0, 0) := by decide +kernel
theorem i239_840 : ins 239 840 = some (.ireturn, 841, 0, 0) := by decide +kernel
theorem i239_841 : ins 239 841 = some (.aload_n 1, 842, 0, 0) := by decide +kernel
theorem i239_842 : ins 239 842 = some (.aload_n 0, 843, 0, 0) := by decide +kernel
theorem i239_843 : ins 239 843 = some (.iload_n 3, 844, 0, 0) := by decide +kernel
theorem i239_844 : ins 239 844 = some (.iconst (1), 845, 0, 1) := by decide +kernel
theorem i239_845 : ins 239 845 = some (.iadd, 846, 0, 0) := by decide +kernel
theorem i239_846 : ins 239 846 = some (.iaload, 847, 0, 0) := by decide +kernel
theorem i239_847 : ins 239 847 = some (.aload_n 0, 848, 0, 0) := by decide +kernel
theorem i239_848 : ins 239 848 = some (.iload_n 3, 849, 0, 0) := by decide +kernel
theorem i239_849 : ins 239 849 = some (.iconst (2), 850, 0, 2) := by decide +kernel
theorem i239_850 : ins 239 850 = some (.iadd, 851, 0, 0) := by decide +kernel
theorem i239_851 : ins 239 851 = some (.iaload, 852, 0, 0) := by decide +kernel
theorem i239_852 : ins 239 852 = some (.invokevirtual 111, 855, 134, 0) := by decide +kernel
theorem i239_855 : ins 239 855 = some (.aload_n 2, 856, 0, 0) := by decide +kernel
theorem i239_856 : ins 239 856 = some (.aload_n 0, 857, 0, 0) := by decide +kernel
theorem i239_857 : ins 239 857 = some (.iload_n 3, 858, 0, 0) := by decide +kernel
theorem i239_858 : ins 239 858 = some (.iconst (1), 859, 0, 1) := by decide +kernel
theorem i239_859 : ins 239 859 = some (.iadd, 860, 0, 0) := by decide +kernel
theorem i239_860 : ins 239 860 = some (.iaload, 861, 0, 0) := by decide +kernel
theorem i239_861 : ins 239 861 = some (.aload_n 0, 862, 0, 0) := by decide +kernel
theorem i239_862 : ins 239 862 = some (.iload_n 3, 863, 0, 0) := by decide +kernel
theorem i239_863 : ins 239 863 = some (.iconst (2), 864, 0, 2) := by decide +kernel
theorem i239_864 : ins 239 864 = some (.iadd, 865, 0, 0) := by decide +kernel
theorem i239_865 : ins 239 865 = some (.iaload, 866, 0, 0) := by decide +kernel
theorem i239_866 : ins 239 866 = some (.invokevirtual 114, 869, 230, 0) := by decide +kernel
theorem i239_869 : ins 239 869 = some (.if_icmp .eq (176), 872, 1045, 0) := by decide +kernel
theorem i239_872 : ins 239 872 = some (.iconst (0), 873, 0, 0) := by decide +kernel
theorem i239_873 : ins 239 873 = some (.ireturn, 874, 0, 0) := by decide +kernel
theorem i239_874 : ins 239 874 = some (.aload_n 1, 875, 0, 0) := by decide +kernel
theorem i239_875 : ins 239 875 = some (.invokevirtual 115, 878, 132, 0) := by decide +kernel
theorem i239_878 : ins 239 878 = some (.aload_n 2, 879, 0, 0) := by decide +kernel
theorem i239_879 : ins 239 879 = some (.invokevirtual 118, 882, 231, 0) := by decide +kernel
theorem i239_882 : ins 239 882 = some (.if_icmp .eq (163), 885, 1045, 0) := by decide +kernel
theorem i239_885 : ins 239 885 = some (.iconst (0), 886, 0, 0) := by decide +kernel
theorem i239_886 : ins 239 886 = some (.ireturn, 887, 0, 0) := by decide +kernel
theorem i239_887 : ins 239 887 = some (.aload_n 1, 888, 0, 0) := by decide +kernel
theorem i239_888 : ins 239 888 = some (.aload_n 0, 889, 0, 0) := by decide +kernel
theorem i239_889 : ins 239 889 = some (.iload_n 3, 890, 0, 0) := by decide +kernel
theorem i239_890 : ins 239 890 = some (.iconst (1), 891, 0, 1) := by decide +kernel
theorem i239_891 : ins 239 891 = some (.iadd, 892, 0, 0) := by decide +kernel
theorem i239_892 : ins 239 892 = some (.iaload, 893, 0, 0) := by decide +kernel
theorem i239_893 : ins 239 893 = some (.aload_n 0, 894, 0, 0) := by decide +kernel
theorem i239_894 : ins 239 894 = some (.iload_n 3, 895, 0, 0) := by decide +kernel
theorem i239_895 : ins 239 895 = some (.iconst (2), 896, 0, 2) := by decide +kernel
theorem i239_896 : ins 239 896 = some (.iadd, 897, 0, 0) := by decide +kernel
theorem i239_897 : ins 239 897 = some (.iaload, 898, 0, 0) := by decide +kernel
theorem i239_898 : ins 239 898 = some (.invokevirtual 119, 901, 137, 0) := by decide +kernel
theorem i239_901 : ins 239 901 = some (.aload_n 2, 902, 0, 0) := by decide +kernel
theorem i239_902 : ins 239 902 = some (.aload_n 0, 903, 0, 0) := by decide +kernel
theorem i239_903 : ins 239 903 = some (.iload_n 3, 904, 0, 0) := by decide +kernel
theorem i239_904 : ins 239 904 = some (.iconst (1), 905, 0, 1) := by decide +kernel
theorem i239_905 : ins 239 905 = some (.iadd, 906, 0, 0) := by decide +kernel
theorem i239_906 : ins 239 906 = some (.iaload, 907, 0, 0) := by decide +kernel
theorem i239_907 : ins 239 907 = some (.aload_n 0, 908, 0, 0) := by decide +kernel
theorem i239_908 : ins 239 908 = some (.iload_n 3, 909, 0, 0) := by decide +kernel
theorem i239_909 : ins 239 909 = some (.iconst (2), 910, 0, 2) := by decide +kernel
theorem i239_910 : ins 239 910 = some (.iadd, 911, 0, 0) := by decide +kernel
theorem i239_911 : ins 239 911 = some (.iaload, 912, 0, 0) := by decide +kernel
theorem i239_912 : ins 239 912 = some (.invokevirtual 122, 915, 232, 0) := by decide +kernel
theorem i239_915 : ins 239 915 = some (.if_icmp .eq (130), 918, 1045, 0) := by decide +kernel
theorem i239_918 : ins 239 918 = some (.iconst (0), 919, 0, 0) := by decide +kernel
theorem i239_919 : ins 239 919 = some (.ireturn, 920, 0, 0) := by decide +kernel
theorem i239_920 : ins 239 920 = some (.aload_n 1, 921, 0, 0) := by decide +kernel
theorem i239_921 : ins 239 921 = some (.invokevirtual 123, 924, 138, 0) := by decide +kernel
theorem i239_924 : ins 239 924 = some (.aload_n 2, 925, 0, 0) := by decide +kernel
theorem i239_925 : ins 239 925 = some (.invokevirtual 126, 928, 233, 0) := by decide +kernel
theorem i239_928 : ins 239 928 = some (.if_icmp .eq (117), 931, 1045, 0) := by decide +kernel
theorem i239_931 : ins 239 931 = some (.iconst (0), 932, 0, 0) := by decide +kernel
theorem i239_932 : ins 239 932 = some (.ireturn, 933, 0, 0) := by decide +kernel
theorem i239_933 : ins 239 933 = some (.aload_n 1, 934, 0, 0) := by decide +kernel
theorem i239_934 : ins 239 934 = some (.aload_n 0, 935, 0, 0) := by decide +kernel
theorem i239_935 : ins 239 935 = some (.iload_n 3, 936, 0, 0) := by decide +kernel
theorem i239_936 : ins 239 936 = some (.iconst (1), 937, 0, 1) := by decide +kernel
theorem i239_937 : ins 239 937 = some (.iadd, 938, 0, 0) := by decide +kernel
theorem i239_938 : ins 239 938 = some (.iaload, 939, 0, 0) := by decide +kernel
theorem i239_939 : ins 239 939 = some (.aload_n 0, 940, 0, 0) := by decide +kernel
theorem i239_940 : ins 239 940 = some (.iload_n 3, 941, 0, 0) := by decide +kernel
theorem i239_941 : ins 239 941 = some (.iconst (2), 942, 0, 2) := by decide +kernel
theorem i239_942 : ins 239 942 = some (.iadd, 943, 0, 0) := by decide +kernel
theorem i239_943 : ins 239 943 = some (.iaload, 944, 0, 0) := by decide +kernel
theorem i239_944 : ins 239 944 = some (.aload_n 0, 945, 0, 0) := by decide +kernel
theorem i239_945 : ins 239 945 = some (.iload_n 3, 946, 0, 0) := by decide +kernel
theorem i239_946 : ins 239 946 = some (.iconst (3), 947, 0, 3) := by decide +kernel
theorem i239_947 : ins 239 947 = some (.iadd, 948, 0, 0) := by decide +kernel
theorem i239_948 : ins 239 948 = some (.iaload, 949, 0, 0) := by decide +kernel
theorem i239_949 : ins 239 949 = some (.invokevirtual 127, 952, 139, 0) := by decide +kernel
theorem i239_952 : ins 239 952 = some (.aload_n 2, 953, 0, 0) := by decide +kernel
theorem i239_953 : ins 239 953 = some (.aload_n 0, 954, 0, 0) := by decide +kernel
theorem i239_954 : ins 239 954 = some (.iload_n 3, 955, 0, 0) := by decide +kernel
theorem i239_955 : ins 239 955 = some (.iconst (1), 956, 0, 1) := by decide +kernel
theorem i239_956 : ins 239 956 = some (.iadd, 957, 0, 0) := by decide +kernel
theorem i239_957 : ins 239 957 = some (.iaload, 958, 0, 0) := by decide +kernel
theorem i239_958 : ins 239 958 = some (.aload_n 0, 959, 0, 0) := by decide +kernel
theorem i239_959 : ins 239 959 = some (.iload_n 3, 960, 0, 0) := by decide +kernel
theorem i239_960 : ins 239 960 = some (.iconst (2), 961, 0, 2) := by decide +kernel
theorem i239_961 : ins 239 961 = some (.iadd, 962, 0, 0) := by decide +kernel
theorem i239_962 : ins 239 962 = some (.iaload, 963, 0, 0) := by decide +kernel
theorem i239_963 : ins 239 963 = some (.aload_n 0, 964, 0, 0) := by decide +kernel
theorem i239_964 : ins 239 964 = some (.iload_n 3, 965, 0, 0) := by decide +kernel
theorem i239_965 : ins 239 965 = some (.iconst (3), 966, 0, 3) := by decide +kernel
theorem i239_966 : ins 239 966 = some (.iadd, 967, 0, 0) := by decide +kernel
theorem i239_967 : ins 239 967 = some (.iaload, 968, 0, 0) := by decide +kernel
theorem i239_968 : ins 239 968 = some (.invokevirtual 130, 971, 235, 0) := by decide +kernel
theorem i239_971 : ins 239 971 = some (.if_icmp .eq (74), 974, 1045, 0) := by decide +kernel
theorem i239_974 : ins 239 974 = some (.iconst (0), 975, 0, 0) := by decide +kernel
theorem i239_975 : ins 239 975 = some (.ireturn, 976, 0, 0) := by decide +kernel
theorem i239_976 : ins 239 976 = some (.aload_n 1, 977, 0, 0) := by decide +kernel
theorem i239_977 : ins 239 977 = some (.aload_n 0, 978, 0, 0) := by decide +kernel
theorem i239_978 : ins 239 978 = some (.iload_n 3, 979, 0, 0) := by decide +kernel
theorem i239_979 : ins 239 979 = some (.iconst (1), 980, 0, 1) := by decide +kernel
theorem i239_980 : ins 239 980 = some (.iadd, 981, 0, 0) := by decide +kernel
theorem i239_981 : ins 239 981 = some (.iaload, 982, 0, 0) := by decide +kernel
theorem i239_982 : ins 239 982 = some (.invokevirtual 131, 985, 140, 0) := by decide +kernel
theorem i239_985 : ins 239 985 = some (.aload_n 2, 986, 0, 0) := by decide +kernel
theorem i239_986 : ins 239 986 = some (.aload_n 0, 987, 0, 0) := by decide +kernel
theorem i239_987 : ins 239 987 = some (.iload_n 3, 988, 0, 0) := by decide +kernel
theorem i239_988 : ins 239 988 = some (.iconst (1), 989, 0, 1) := by decide +kernel
theorem i239_989 : ins 239 989 = some (.iadd, 990, 0, 0) := by decide +kernel
theorem i239_990 : ins 239 990 = some (.iaload, 991, 0, 0) := by decide +kernel
theorem i239_991 : ins 239 991 = some (.invokevirtual 135, 994, 236, 0) := by decide +kernel
theorem i239_994 : ins 239 994 = some (.if_icmp .eq (51), 997, 1045, 0) := by decide +kernel
theorem i239_997 : ins 239 997 = some (.iconst (0), 998, 0, 0) := by decide +kernel
theorem i239_998 : ins 239 998 = some (.ireturn, 999, 0, 0) := by decide +kernel
theorem i239_999 : ins 239 999 = some (.aload_n 1, 1000, 0, 0) := by decide +kernel
theorem i239_1000 : ins 239 1000 = some (.aload_n 0, 1001, 0, 0) := by decide +kernel
theorem i239_1001 : ins 239 1001 = some (.iload_n 3, 1002, 0, 0) := by decide +kernel
theorem i239_1002 : ins 239 1002 = some (.iconst (1), 1003, 0, 1) := by decide +kernel
theorem i239_1003 : ins 239 1003 = some (.iadd, 1004, 0, 0) := by decide +kernel
theorem i239_1004 : ins 239 1004 = some (.iaload, 1005, 0, 0) := by decide +kernel
theorem i239_1005 : ins 239 1005 = some (.invokevirtual 136, 1008, 141, 0) := by decide +kernel
theorem i239_1008 : ins 239 1008 = some (.aload_n 2, 1009, 0, 0) := by decide +kernel
theorem i239_1009 : ins 239 1009 = some (.aload_n 0, 1010, 0, 0) := by decide +kernel
theorem i239_1010 : ins 239 1010 = some (.iload_n 3, 1011, 0, 0) := by decide +kernel
theorem i239_1011 : ins 239 1011 = some (.iconst (1), 1012, 0, 1) := by decide +kernel
theorem i239_1012 : ins 239 1012 = some (.iadd, 1013, 0, 0) := by decide +kernel
theorem i239_1013 : ins 239 1013 = some (.iaload, 1014, 0, 0) := by decide +kernel
theorem i239_1014 : ins 239 1014 = some (.invokevirtual 139, 1017, 237, 0) := by decide +kernel
theorem i239_1017 : ins 239 1017 = some (.if_icmp .eq (28), 1020, 1045, 0) := by decide +kernel
theorem i239_1020 : ins 239 1020 = some (.iconst (0), 1021, 0, 0) := by decide +kernel
theorem i239_1021 : ins 239 1021 = some (.ireturn, 1022, 0, 0) := by decide +kernel
theorem i239_1022 : ins 239 1022 = some (.aload_n 1, 1023, 0, 0) := by decide +kernel
theorem i239_1023 : ins 239 1023 = some (.aload_n 0, 1024, 0, 0) := by decide +kernel
theorem i239_1024 : ins 239 1024 = some (.iload_n 3, 1025, 0, 0) := by decide +kernel
theorem i239_1025 : ins 239 1025 = some (.iconst (1), 1026, 0, 1) := by decide +kernel
theorem i239_1026 : ins 239 1026 = some (.iadd, 1027, 0, 0) := by decide +kernel
theorem i239_1027 : ins 239 1027 = some (.iaload, 1028, 0, 0) := by decide +kernel
theorem i239_1028 : ins 239 1028 = some (.invokevirtual 140, 1031, 142, 0) := by decide +kernel
theorem i239_1031 : ins 239 1031 = some (.aload_n 2, 1032, 0, 0) := by decide +kernel
theorem i239_1032 : ins 239 1032 = some (.aload_n 0, 1033, 0, 0) := by decide +kernel
theorem i239_1033 : ins 239 1033 = some (.iload_n 3, 1034, 0, 0) := by decide +kernel
theorem i239_1034 : ins 239 1034 = some (.iconst (1), 1035, 0, 1) := by decide +kernel
theorem i239_1035 : ins 239 1035 = some (.iadd, 1036, 0, 0) := by decide +kernel
theorem i239_1036 : ins 239 1036 = some (.iaload, 1037, 0, 0) := by decide +kernel
theorem i239_1037 : ins 239 1037 = some (.invokevirtual 143, 1040, 238, 0) := by decide +kernel
theorem i239_1040 : ins 239 1040 = some (.if_icmp .eq (5), 1043, 1045, 0) := by decide +kernel
theorem i239_1043 : ins 239 1043 = some (.iconst (0), 1044, 0, 0) := by decide +kernel
theorem i239_1044 : ins 239 1044 = some (.ireturn, 1045, 0, 0) := by decide +kernel
theorem i239_1045 : ins 239 1045 = some (.iinc 3 (6), 1048, 0, 6) := by decide +kernel
theorem i239_1048 : ins 239 1048 = some (.goto (-1030), 1051, 18, 0) := by decide +kernel
theorem i239_1051 : ins 239 1051 = some (.iconst (1), 1052, 0, 1) := by decide +kernel
theorem i239_1052 : ins 239 1052 = some (.ireturn, 1053, 0, 0) := by decide +kernel
def Mo_chance_18 (w : Wd) : Option (Int × Wd) :=
  some ((-1), w)
theorem s_Mo_chance_18 {g : Gp} {l : Launch} {D : Nat} (hD : 6 ≤ D) (w : Wd) (r : Int × Wd) (h : Mo_chance_18 w = some r) : Rn g l D 223 18 [] [] w (some (.inl r.1)) r.2 := by
  unfold Mo_chance_18 at h
  refine rn_iconst i223_18 ?_
  obtain rfl := Option.some.inj h
  exact rn_retI i223_19 mr223
def Mo_chance_50 (k31 : Nat → Int → Int → Int → Wd → Option (Int × Wd)) (a0 : Nat) (x1 : Int) (x2 : Int) (x3 : Int) (w : Wd) : Option (Int × Wd) :=
  (fgI w a0 12 51).bind fun v52 =>
  (fpI w a0 12 51 (w32 (v52 + 1))).bind fun w57 =>
  k31 a0 x1 x2 x3 w57
theorem s_Mo_chance_50 {g : Gp} {l : Launch} {D : Nat} (hD : 6 ≤ D) (k31 : Nat → Int → Int → Int → Wd → Option (Int × Wd)) (hk31 : ∀ (a0 : Nat) (x1 : Int) (x2 : Int) (x3 : Int) (w : Wd) (r : Int × Wd), k31 a0 x1 x2 x3 w = some r → Rn g l D 223 31 [(0, .inr (.inr a0)), (1, .inl x1), (2, .inl x2), (3, .inl x3)] [] w (some (.inl r.1)) r.2) (a0 : Nat) (x1 : Int) (x2 : Int) (x3 : Int) (w : Wd) (r : Int × Wd) (h : Mo_chance_50 k31 a0 x1 x2 x3 w = some r) : Rn g l D 223 50 [(0, .inr (.inr a0)), (1, .inl x1), (2, .inl x2), (3, .inl x3)] [] w (some (.inl r.1)) r.2 := by
  unfold Mo_chance_50 at h
  refine fr_aload_n i223_50 rfl ?_
  refine rn_dup i223_51 rfl ?_
  obtain ⟨v52, h52, h⟩ := Option.bind_eq_some_iff.mp h
  refine fr_gI (k := 51) i223_52 tf12_51 h52 ?_
  refine rn_iconst i223_55 ?_
  refine rn_iadd i223_56 ?_
  obtain ⟨w57, h57, h⟩ := Option.bind_eq_some_iff.mp h
  refine fr_pI (k := 51) i223_57 (pf12_51 223) h57 ?_
  refine rn_goto i223_60 ?_
  exact rn_sub [0, 1, 2, 3] rfl (hk31 a0 x1 x2 x3 w57 r h)
def Mo_chance_31 : Nat → Nat → Int → Int → Int → Wd → Option (Int × Wd)
  | 0, _, _, _, _, _ => none
  | n + 1, a0, x1, x2, x3, w =>
    (fgI w a0 12 51).bind fun v32 =>
    if (x2 : Int) ≤ v32 then
      some (x3, w)
    else
      (Mo_judged a0 w).bind fun r40 =>
      if (r40.1 : Int) = x1 then
        Mo_chance_50 (Mo_chance_31 n) a0 x1 x2 (w32 (x3 + 1)) r40.2
      else
        Mo_chance_50 (Mo_chance_31 n) a0 x1 x2 x3 r40.2
theorem s_Mo_chance_31 {g : Gp} {l : Launch} {D : Nat} (hD : 6 ≤ D) : ∀ (n : Nat) (a0 : Nat) (x1 : Int) (x2 : Int) (x3 : Int) (w : Wd) (r : Int × Wd), Mo_chance_31 n a0 x1 x2 x3 w = some r → Rn g l D 223 31 [(0, .inr (.inr a0)), (1, .inl x1), (2, .inl x2), (3, .inl x3)] [] w (some (.inl r.1)) r.2 := by
  obtain ⟨D, rfl⟩ : ∃ D1, D = D1 + 1 := ⟨D - 1, by omega⟩
  intro n
  induction n with
  | zero => intro a0 x1 x2 x3 w r h; cases (show (none : Option (Int × Wd)) = some r from h)
  | succ n ih =>
    intro a0 x1 x2 x3 w r h
    unfold Mo_chance_31 at h
    refine fr_aload_n i223_31 rfl ?_
    obtain ⟨v32, h32, h⟩ := Option.bind_eq_some_iff.mp h
    refine fr_gI (k := 51) i223_32 tf12_51 h32 ?_
    refine rn_iload_n i223_35 rfl ?_
    by_cases c36 : (x2 : Int) ≤ v32
    · rw [if_pos c36] at h
      refine rn_icmp_ge_t i223_36 c36 ?_
      refine rn_iload_n i223_63 rfl ?_
      obtain rfl := Option.some.inj h
      exact rn_retI i223_64 mr223
    · rw [if_neg c36] at h
      refine rn_icmp_ge_f i223_36 c36 ?_
      refine fr_aload_n i223_39 rfl ?_
      obtain ⟨r40, h40, h⟩ := Option.bind_eq_some_iff.mp h
      obtain ⟨g40, c40⟩ := S_Mo_judged a0 w r40 h40
      refine fr_callV (a := a0) (As := []) (st := []) i223_40 (cq200 a0) rfl (Nat.le_of_ble_eq_true rfl) g40 (c40 _ (by omega)) ?_
      show Rn _ _ _ _ _ _ [.inl r40.1] _ _ _
      refine rn_iload_n i223_43 rfl ?_
      by_cases c44 : (r40.1 : Int) = x1
      · rw [if_pos c44] at h
        refine rn_icmp_ne_f i223_44 c44 ?_
        refine rn_iinc (ls1 := [(3, .inl (w32 (x3 + 1))), (0, .inr (.inr a0)), (1, .inl x1), (2, .inl x2)]) i223_47 rfl rfl ?_
        exact rn_sub [1, 2, 3, 0] rfl (s_Mo_chance_50 hD (Mo_chance_31 n) ih a0 x1 x2 (w32 (x3 + 1)) r40.2 r h)
      · rw [if_neg c44] at h
        refine rn_icmp_ne_t i223_44 c44 ?_
        exact rn_sub [0, 1, 2, 3] rfl (s_Mo_chance_50 hD (Mo_chance_31 n) ih a0 x1 x2 x3 r40.2 r h)
def Mo_chance_0 (a0 : Nat) (x1 : Int) (x2 : Int) (w : Wd) : Option (Int × Wd) :=
  (Mo_isHeir a0 x1 w).bind fun r2 =>
  if (r2.1 : Int) = 0 then
    Mo_chance_18 r2.2
  else
    (Mo_in x2 1 50 r2.2).bind fun r12 =>
    if (r12.1 : Int) = 0 then
      Mo_chance_18 r12.2
    else
      (Mo_copies a0 r12.2).bind fun r21 =>
      (fpI r21 a0 12 51 0).bind fun w28 =>
      Mo_chance_31 FU a0 x1 x2 0 w28
theorem s_Mo_chance_0 {g : Gp} {l : Launch} {D : Nat} (hD : 6 ≤ D) (a0 : Nat) (x1 : Int) (x2 : Int) (w : Wd) (r : Int × Wd) (h : Mo_chance_0 a0 x1 x2 w = some r) : Rn g l D 223 0 [(0, .inr (.inr a0)), (1, .inl x1), (2, .inl x2)] [] w (some (.inl r.1)) r.2 := by
  obtain ⟨D, rfl⟩ : ∃ D1, D = D1 + 1 := ⟨D - 1, by omega⟩
  unfold Mo_chance_0 at h
  refine fr_aload_n i223_0 rfl ?_
  refine rn_iload_n i223_1 rfl ?_
  obtain ⟨r2, h2, h⟩ := Option.bind_eq_some_iff.mp h
  obtain ⟨g2, c2⟩ := S_Mo_isHeir a0 x1 w r2 h2
  refine fr_callV (a := a0) (As := [.inl x1]) (st := []) i223_2 (cq183 a0 x1) rfl (Nat.le_of_ble_eq_true rfl) g2 (c2 _ (by omega)) ?_
  show Rn _ _ _ _ _ _ [.inl r2.1] _ _ _
  by_cases c5 : (r2.1 : Int) = 0
  · rw [if_pos c5] at h
    refine rn_if_eq_t i223_5 c5 ?_
    exact rn_sub [] rfl (s_Mo_chance_18 hD r2.2 r h)
  · rw [if_neg c5] at h
    refine rn_if_eq_f i223_5 c5 ?_
    refine rn_iload_n i223_8 rfl ?_
    refine rn_iconst i223_9 ?_
    refine rn_bipush i223_10 ?_
    obtain ⟨r12, h12, h⟩ := Option.bind_eq_some_iff.mp h
    refine fr_callS (nst := 0) (As := [.inl x2, .inl 1, .inl 50]) (st := []) i223_12 (cq181 x2 1 50) rfl (Nat.le_of_ble_eq_true rfl) (S_Mo_in x2 1 50 r2.2 r12 h12 _ (by omega)) ?_
    show Rn _ _ _ _ _ _ [.inl r12.1] _ _ _
    by_cases c15 : (r12.1 : Int) = 0
    · rw [if_pos c15] at h
      refine rn_if_ne_f i223_15 c15 ?_
      exact rn_sub [] rfl (s_Mo_chance_18 hD r12.2 r h)
    · rw [if_neg c15] at h
      refine rn_if_ne_t i223_15 c15 ?_
      refine fr_aload_n i223_20 rfl ?_
      obtain ⟨r21, h21, h⟩ := Option.bind_eq_some_iff.mp h
      obtain ⟨g21, c21⟩ := S_Mo_copies a0 r12.2 r21 h21
      refine fr_callV (a := a0) (As := []) (st := []) i223_21 (cq187 a0) rfl (Nat.le_of_ble_eq_true rfl) g21 (c21 _ (by omega)) ?_
      refine rn_iconst i223_24 ?_
      refine rn_istore_n (ls1 := [(3, .inl 0), (0, .inr (.inr a0)), (1, .inl x1), (2, .inl x2)]) i223_25 rfl ?_
      refine fr_aload_n i223_26 rfl ?_
      refine rn_iconst i223_27 ?_
      obtain ⟨w28, h28, h⟩ := Option.bind_eq_some_iff.mp h
      refine fr_pI (k := 51) i223_28 (pf12_51 223) h28 ?_
      exact rn_sub [1, 2, 3, 0] rfl (s_Mo_chance_31 hD FU a0 x1 x2 0 w28 r h)
/-- HandHeirsModel.chance(II)I -/
def Mo_chance (a0 : Nat) (x1 : Int) (x2 : Int) (w : Wd) : Option (Int × Wd) := gd 12 w a0 (Mo_chance_0 a0 x1 x2 w)
theorem S_Mo_chance {g : Gp} {l : Launch} (a0 : Nat) (x1 : Int) (x2 : Int) (w : Wd) (r : Int × Wd) (h : Mo_chance a0 x1 x2 w = some r) : (wsh w a0).1 = 12 ∧ ∀ D, 6 ≤ D → Rn g l D 223 0 [(0, .inr (.inr a0)), (1, .inl x1), (2, .inl x2)] [] w (some (.inl r.1)) r.2 := by
  obtain ⟨hg, h⟩ := gd_some h
  exact ⟨hg, fun D hD => rn_sub [0, 1, 2] rfl (s_Mo_chance_0 hD a0 x1 x2 w r h)⟩
def Mo_without_0 (a0 : Nat) (x1 : Int) (w : Wd) : Option (Int × Wd) :=
  (Mo_isHeir a0 x1 w).bind fun r2 =>
  if (r2.1 : Int) = 0 then
    some ((-1), r2.2)
  else
    (Mo_copies a0 r2.2).bind fun r11 =>
    (fpI r11 a0 12 53 x1).bind fun w16 =>
    (Mo_judged a0 w16).bind fun r20 =>
    (Mo_orNobody (r20.1) r20.2).bind fun r23 =>
    some (r23.1, r23.2)
theorem s_Mo_without_0 {g : Gp} {l : Launch} {D : Nat} (hD : 6 ≤ D) (a0 : Nat) (x1 : Int) (w : Wd) (r : Int × Wd) (h : Mo_without_0 a0 x1 w = some r) : Rn g l D 224 0 [(0, .inr (.inr a0)), (1, .inl x1)] [] w (some (.inl r.1)) r.2 := by
  obtain ⟨D, rfl⟩ : ∃ D1, D = D1 + 1 := ⟨D - 1, by omega⟩
  unfold Mo_without_0 at h
  refine fr_aload_n i224_0 rfl ?_
  refine rn_iload_n i224_1 rfl ?_
  obtain ⟨r2, h2, h⟩ := Option.bind_eq_some_iff.mp h
  obtain ⟨g2, c2⟩ := S_Mo_isHeir a0 x1 w r2 h2
  refine fr_callV (a := a0) (As := [.inl x1]) (st := []) i224_2 (cq183 a0 x1) rfl (Nat.le_of_ble_eq_true rfl) g2 (c2 _ (by omega)) ?_
  show Rn _ _ _ _ _ _ [.inl r2.1] _ _ _
  by_cases c5 : (r2.1 : Int) = 0
  · rw [if_pos c5] at h
    refine rn_if_ne_f i224_5 c5 ?_
    refine rn_iconst i224_8 ?_
    obtain rfl := Option.some.inj h
    exact rn_retI i224_9 mr224
  · rw [if_neg c5] at h
    refine rn_if_ne_t i224_5 c5 ?_
    refine fr_aload_n i224_10 rfl ?_
    obtain ⟨r11, h11, h⟩ := Option.bind_eq_some_iff.mp h
    obtain ⟨g11, c11⟩ := S_Mo_copies a0 r2.2 r11 h11
    refine fr_callV (a := a0) (As := []) (st := []) i224_11 (cq187 a0) rfl (Nat.le_of_ble_eq_true rfl) g11 (c11 _ (by omega)) ?_
    refine fr_aload_n i224_14 rfl ?_
    refine rn_iload_n i224_15 rfl ?_
    obtain ⟨w16, h16, h⟩ := Option.bind_eq_some_iff.mp h
    refine fr_pI (k := 53) i224_16 (pf12_53 224) h16 ?_
    refine fr_aload_n i224_19 rfl ?_
    obtain ⟨r20, h20, h⟩ := Option.bind_eq_some_iff.mp h
    obtain ⟨g20, c20⟩ := S_Mo_judged a0 w16 r20 h20
    refine fr_callV (a := a0) (As := []) (st := []) i224_20 (cq200 a0) rfl (Nat.le_of_ble_eq_true rfl) g20 (c20 _ (by omega)) ?_
    show Rn _ _ _ _ _ _ [.inl r20.1] _ _ _
    obtain ⟨r23, h23, h⟩ := Option.bind_eq_some_iff.mp h
    refine fr_callS (nst := 0) (As := [.inl r20.1]) (st := []) i224_23 (cq209 (r20.1)) rfl (Nat.le_of_ble_eq_true rfl) (S_Mo_orNobody (r20.1) r20.2 r23 h23 _ (by omega)) ?_
    show Rn _ _ _ _ _ _ [.inl r23.1] _ _ _
    obtain rfl := Option.some.inj h
    exact rn_retI i224_26 mr224
/-- HandHeirsModel.without(I)I -/
def Mo_without (a0 : Nat) (x1 : Int) (w : Wd) : Option (Int × Wd) := gd 12 w a0 (Mo_without_0 a0 x1 w)
theorem S_Mo_without {g : Gp} {l : Launch} (a0 : Nat) (x1 : Int) (w : Wd) (r : Int × Wd) (h : Mo_without a0 x1 w = some r) : (wsh w a0).1 = 12 ∧ ∀ D, 6 ≤ D → Rn g l D 224 0 [(0, .inr (.inr a0)), (1, .inl x1)] [] w (some (.inl r.1)) r.2 := by
  obtain ⟨hg, h⟩ := gd_some h
  exact ⟨hg, fun D hD => rn_sub [0, 1] rfl (s_Mo_without_0 hD a0 x1 w r h)⟩
def Mo_bias_18 (w : Wd) : Option (Int × Wd) :=
  some ((-1), w)
theorem s_Mo_bias_18 {g : Gp} {l : Launch} {D : Nat} (hD : 7 ≤ D) (w : Wd) (r : Int × Wd) (h : Mo_bias_18 w = some r) : Rn g l D 225 18 [] [] w (some (.inl r.1)) r.2 := by
  unfold Mo_bias_18 at h
  refine rn_iconst i225_18 ?_
  obtain rfl := Option.some.inj h
  exact rn_retI i225_19 mr225
def Mo_bias_67 (k29 : Nat → Int → Int → Int → Int → Wd → Option (Int × Wd)) (a0 : Nat) (x1 : Int) (x2 : Int) (x3 : Int) (x4 : Int) (w : Wd) : Option (Int × Wd) :=
  k29 a0 x1 x2 x3 (w32 (x4 + 1)) w
theorem s_Mo_bias_67 {g : Gp} {l : Launch} {D : Nat} (hD : 7 ≤ D) (k29 : Nat → Int → Int → Int → Int → Wd → Option (Int × Wd)) (hk29 : ∀ (a0 : Nat) (x1 : Int) (x2 : Int) (x3 : Int) (x4 : Int) (w : Wd) (r : Int × Wd), k29 a0 x1 x2 x3 x4 w = some r → Rn g l D 225 29 [(0, .inr (.inr a0)), (1, .inl x1), (2, .inl x2), (3, .inl x3), (4, .inl x4)] [] w (some (.inl r.1)) r.2) (a0 : Nat) (x1 : Int) (x2 : Int) (x3 : Int) (x4 : Int) (w : Wd) (r : Int × Wd) (h : Mo_bias_67 k29 a0 x1 x2 x3 x4 w = some r) : Rn g l D 225 67 [(0, .inr (.inr a0)), (1, .inl x1), (2, .inl x2), (3, .inl x3), (4, .inl x4)] [] w (some (.inl r.1)) r.2 := by
  unfold Mo_bias_67 at h
  refine rn_iinc (ls1 := [(4, .inl (w32 (x4 + 1))), (0, .inr (.inr a0)), (1, .inl x1), (2, .inl x2), (3, .inl x3)]) i225_67 rfl rfl ?_
  refine rn_goto i225_70 ?_
  exact rn_sub [1, 2, 3, 4, 0] rfl (hk29 a0 x1 x2 x3 (w32 (x4 + 1)) w r h)
def Mo_bias_29 : Nat → Nat → Int → Int → Int → Int → Wd → Option (Int × Wd)
  | 0, _, _, _, _, _, _ => none
  | n + 1, a0, x1, x2, x3, x4, w =>
    if (x2 : Int) ≤ x4 then
      some (x3, w)
    else
      (Mo_yearGoes a0 w).bind fun r36 =>
      (fgR r36 a0 12 57).bind fun v40 =>
      (rdI r36 v40 x1).bind fun v44 =>
      if (v44 : Int) < 0 then
        Mo_bias_67 (Mo_bias_29 n) a0 x1 x2 x3 x4 r36
      else
        (fgR r36 a0 12 57).bind fun v49 =>
        (rdI r36 v49 x1).bind fun v53 =>
        (fgR r36 a0 12 50).bind fun v55 =>
        (rdI r36 v55 43).bind fun v60 =>
        if (v53 : Int) = v60 then
          Mo_bias_67 (Mo_bias_29 n) a0 x1 x2 x3 x4 r36
        else
          Mo_bias_67 (Mo_bias_29 n) a0 x1 x2 (w32 (x3 + 1)) x4 r36
theorem s_Mo_bias_29 {g : Gp} {l : Launch} {D : Nat} (hD : 7 ≤ D) : ∀ (n : Nat) (a0 : Nat) (x1 : Int) (x2 : Int) (x3 : Int) (x4 : Int) (w : Wd) (r : Int × Wd), Mo_bias_29 n a0 x1 x2 x3 x4 w = some r → Rn g l D 225 29 [(0, .inr (.inr a0)), (1, .inl x1), (2, .inl x2), (3, .inl x3), (4, .inl x4)] [] w (some (.inl r.1)) r.2 := by
  obtain ⟨D, rfl⟩ : ∃ D1, D = D1 + 1 := ⟨D - 1, by omega⟩
  intro n
  induction n with
  | zero => intro a0 x1 x2 x3 x4 w r h; cases (show (none : Option (Int × Wd)) = some r from h)
  | succ n ih =>
    intro a0 x1 x2 x3 x4 w r h
    unfold Mo_bias_29 at h
    refine rn_iload i225_29 rfl ?_
    refine rn_iload_n i225_31 rfl ?_
    by_cases c32 : (x2 : Int) ≤ x4
    · rw [if_pos c32] at h
      refine rn_icmp_ge_t i225_32 c32 ?_
      refine rn_iload_n i225_73 rfl ?_
      obtain rfl := Option.some.inj h
      exact rn_retI i225_74 mr225
    · rw [if_neg c32] at h
      refine rn_icmp_ge_f i225_32 c32 ?_
      refine fr_aload_n i225_35 rfl ?_
      obtain ⟨r36, h36, h⟩ := Option.bind_eq_some_iff.mp h
      obtain ⟨g36, c36⟩ := S_Mo_yearGoes a0 w r36 h36
      refine fr_callV (a := a0) (As := []) (st := []) i225_36 (cq203 a0) rfl (Nat.le_of_ble_eq_true rfl) g36 (c36 _ (by omega)) ?_
      refine fr_aload_n i225_39 rfl ?_
      obtain ⟨v40, h40, h⟩ := Option.bind_eq_some_iff.mp h
      refine fr_gR (k := 57) i225_40 tf12_57 h40 ?_
      refine rn_iload_n i225_43 rfl ?_
      obtain ⟨v44, h44, h⟩ := Option.bind_eq_some_iff.mp h
      refine rn_iald i225_44 h44 ?_
      by_cases c45 : (v44 : Int) < 0
      · rw [if_pos c45] at h
        refine rn_if_lt_t i225_45 c45 ?_
        exact rn_sub [0, 1, 2, 3, 4] rfl (s_Mo_bias_67 hD (Mo_bias_29 n) ih a0 x1 x2 x3 x4 r36 r h)
      · rw [if_neg c45] at h
        refine rn_if_lt_f i225_45 c45 ?_
        refine fr_aload_n i225_48 rfl ?_
        obtain ⟨v49, h49, h⟩ := Option.bind_eq_some_iff.mp h
        refine fr_gR (k := 57) i225_49 tf12_57 h49 ?_
        refine rn_iload_n i225_52 rfl ?_
        obtain ⟨v53, h53, h⟩ := Option.bind_eq_some_iff.mp h
        refine rn_iald i225_53 h53 ?_
        refine fr_aload_n i225_54 rfl ?_
        obtain ⟨v55, h55, h⟩ := Option.bind_eq_some_iff.mp h
        refine fr_gR (k := 50) i225_55 tf12_50 h55 ?_
        refine rn_bipush i225_58 ?_
        obtain ⟨v60, h60, h⟩ := Option.bind_eq_some_iff.mp h
        refine rn_iald i225_60 h60 ?_
        by_cases c61 : (v53 : Int) = v60
        · rw [if_pos c61] at h
          refine rn_icmp_eq_t i225_61 c61 ?_
          exact rn_sub [0, 1, 2, 3, 4] rfl (s_Mo_bias_67 hD (Mo_bias_29 n) ih a0 x1 x2 x3 x4 r36 r h)
        · rw [if_neg c61] at h
          refine rn_icmp_eq_f i225_61 c61 ?_
          refine rn_iinc (ls1 := [(3, .inl (w32 (x3 + 1))), (0, .inr (.inr a0)), (1, .inl x1), (2, .inl x2), (4, .inl x4)]) i225_64 rfl rfl ?_
          exact rn_sub [1, 2, 3, 0, 4] rfl (s_Mo_bias_67 hD (Mo_bias_29 n) ih a0 x1 x2 (w32 (x3 + 1)) x4 r36 r h)
def Mo_bias_0 (a0 : Nat) (x1 : Int) (x2 : Int) (w : Wd) : Option (Int × Wd) :=
  (Mo_isMaster a0 x1 w).bind fun r2 =>
  if (r2.1 : Int) = 0 then
    Mo_bias_18 r2.2
  else
    (Mo_in x2 1 100 r2.2).bind fun r12 =>
    if (r12.1 : Int) = 0 then
      Mo_bias_18 r12.2
    else
      (Mo_copies a0 r12.2).bind fun r21 =>
      Mo_bias_29 FU a0 x1 x2 0 0 r21
theorem s_Mo_bias_0 {g : Gp} {l : Launch} {D : Nat} (hD : 7 ≤ D) (a0 : Nat) (x1 : Int) (x2 : Int) (w : Wd) (r : Int × Wd) (h : Mo_bias_0 a0 x1 x2 w = some r) : Rn g l D 225 0 [(0, .inr (.inr a0)), (1, .inl x1), (2, .inl x2)] [] w (some (.inl r.1)) r.2 := by
  obtain ⟨D, rfl⟩ : ∃ D1, D = D1 + 1 := ⟨D - 1, by omega⟩
  unfold Mo_bias_0 at h
  refine fr_aload_n i225_0 rfl ?_
  refine rn_iload_n i225_1 rfl ?_
  obtain ⟨r2, h2, h⟩ := Option.bind_eq_some_iff.mp h
  obtain ⟨g2, c2⟩ := S_Mo_isMaster a0 x1 w r2 h2
  refine fr_callV (a := a0) (As := [.inl x1]) (st := []) i225_2 (cq184 a0 x1) rfl (Nat.le_of_ble_eq_true rfl) g2 (c2 _ (by omega)) ?_
  show Rn _ _ _ _ _ _ [.inl r2.1] _ _ _
  by_cases c5 : (r2.1 : Int) = 0
  · rw [if_pos c5] at h
    refine rn_if_eq_t i225_5 c5 ?_
    exact rn_sub [] rfl (s_Mo_bias_18 hD r2.2 r h)
  · rw [if_neg c5] at h
    refine rn_if_eq_f i225_5 c5 ?_
    refine rn_iload_n i225_8 rfl ?_
    refine rn_iconst i225_9 ?_
    refine rn_bipush i225_10 ?_
    obtain ⟨r12, h12, h⟩ := Option.bind_eq_some_iff.mp h
    refine fr_callS (nst := 0) (As := [.inl x2, .inl 1, .inl 100]) (st := []) i225_12 (cq181 x2 1 100) rfl (Nat.le_of_ble_eq_true rfl) (S_Mo_in x2 1 100 r2.2 r12 h12 _ (by omega)) ?_
    show Rn _ _ _ _ _ _ [.inl r12.1] _ _ _
    by_cases c15 : (r12.1 : Int) = 0
    · rw [if_pos c15] at h
      refine rn_if_ne_f i225_15 c15 ?_
      exact rn_sub [] rfl (s_Mo_bias_18 hD r12.2 r h)
    · rw [if_neg c15] at h
      refine rn_if_ne_t i225_15 c15 ?_
      refine fr_aload_n i225_20 rfl ?_
      obtain ⟨r21, h21, h⟩ := Option.bind_eq_some_iff.mp h
      obtain ⟨g21, c21⟩ := S_Mo_copies a0 r12.2 r21 h21
      refine fr_callV (a := a0) (As := []) (st := []) i225_21 (cq187 a0) rfl (Nat.le_of_ble_eq_true rfl) g21 (c21 _ (by omega)) ?_
      refine rn_iconst i225_24 ?_
      refine rn_istore_n (ls1 := [(3, .inl 0), (0, .inr (.inr a0)), (1, .inl x1), (2, .inl x2)]) i225_25 rfl ?_
      refine rn_iconst i225_26 ?_
      refine rn_istore (ls1 := [(4, .inl 0), (3, .inl 0), (0, .inr (.inr a0)), (1, .inl x1), (2, .inl x2)]) i225_27 rfl ?_
      exact rn_sub [2, 3, 4, 1, 0] rfl (s_Mo_bias_29 hD FU a0 x1 x2 0 0 r21 r h)
/-- HandHeirsModel.bias(II)I -/
def Mo_bias (a0 : Nat) (x1 : Int) (x2 : Int) (w : Wd) : Option (Int × Wd) := gd 12 w a0 (Mo_bias_0 a0 x1 x2 w)
theorem S_Mo_bias {g : Gp} {l : Launch} (a0 : Nat) (x1 : Int) (x2 : Int) (w : Wd) (r : Int × Wd) (h : Mo_bias a0 x1 x2 w = some r) : (wsh w a0).1 = 12 ∧ ∀ D, 7 ≤ D → Rn g l D 225 0 [(0, .inr (.inr a0)), (1, .inl x1), (2, .inl x2)] [] w (some (.inl r.1)) r.2 := by
  obtain ⟨hg, h⟩ := gd_some h
  exact ⟨hg, fun D hD => rn_sub [0, 1, 2] rfl (s_Mo_bias_0 hD a0 x1 x2 w r h)⟩
def Mo_bestLetter_27 (w : Wd) : Option (Int × Wd) :=
  some ((-1), w)
theorem s_Mo_bestLetter_27 {g : Gp} {l : Launch} {D : Nat} (hD : 7 ≤ D) (w : Wd) (r : Int × Wd) (h : Mo_bestLetter_27 w = some r) : Rn g l D 226 27 [] [] w (some (.inl r.1)) r.2 := by
  unfold Mo_bestLetter_27 at h
  refine rn_iconst i226_27 ?_
  obtain rfl := Option.some.inj h
  exact rn_retI i226_28 mr226
def Mo_bestLetter_99 (k40 : Nat → Int → Int → Int → Int → Int → Int → Wd → Option (Int × Wd)) (k75 : Nat → Int → Int → Int → Int → Int → Int → Int → Int → Wd → Option (Int × Wd)) (a0 : Nat) (x1 : Int) (x2 : Int) (x3 : Int) (x4 : Int) (x5 : Int) (x6 : Int) (x7 : Int) (x8 : Int) (w : Wd) : Option (Int × Wd) :=
  k75 a0 x1 x2 x3 x4 x5 x6 x7 (w32 (x8 + 1)) w
theorem s_Mo_bestLetter_99 {g : Gp} {l : Launch} {D : Nat} (hD : 7 ≤ D) (k40 : Nat → Int → Int → Int → Int → Int → Int → Wd → Option (Int × Wd)) (hk40 : ∀ (a0 : Nat) (x1 : Int) (x2 : Int) (x3 : Int) (x4 : Int) (x5 : Int) (x6 : Int) (w : Wd) (r : Int × Wd), k40 a0 x1 x2 x3 x4 x5 x6 w = some r → Rn g l D 226 40 [(0, .inr (.inr a0)), (1, .inl x1), (2, .inl x2), (3, .inl x3), (4, .inl x4), (5, .inl x5), (6, .inl x6)] [] w (some (.inl r.1)) r.2) (k75 : Nat → Int → Int → Int → Int → Int → Int → Int → Int → Wd → Option (Int × Wd)) (hk75 : ∀ (a0 : Nat) (x1 : Int) (x2 : Int) (x3 : Int) (x4 : Int) (x5 : Int) (x6 : Int) (x7 : Int) (x8 : Int) (w : Wd) (r : Int × Wd), k75 a0 x1 x2 x3 x4 x5 x6 x7 x8 w = some r → Rn g l D 226 75 [(0, .inr (.inr a0)), (1, .inl x1), (2, .inl x2), (3, .inl x3), (4, .inl x4), (5, .inl x5), (6, .inl x6), (7, .inl x7), (8, .inl x8)] [] w (some (.inl r.1)) r.2) (a0 : Nat) (x1 : Int) (x2 : Int) (x3 : Int) (x4 : Int) (x5 : Int) (x6 : Int) (x7 : Int) (x8 : Int) (w : Wd) (r : Int × Wd) (h : Mo_bestLetter_99 k40 k75 a0 x1 x2 x3 x4 x5 x6 x7 x8 w = some r) : Rn g l D 226 99 [(0, .inr (.inr a0)), (1, .inl x1), (2, .inl x2), (3, .inl x3), (4, .inl x4), (5, .inl x5), (6, .inl x6), (7, .inl x7), (8, .inl x8)] [] w (some (.inl r.1)) r.2 := by
  unfold Mo_bestLetter_99 at h
  refine rn_iinc (ls1 := [(8, .inl (w32 (x8 + 1))), (0, .inr (.inr a0)), (1, .inl x1), (2, .inl x2), (3, .inl x3), (4, .inl x4), (5, .inl x5), (6, .inl x6), (7, .inl x7)]) i226_99 rfl rfl ?_
  refine rn_goto i226_102 ?_
  exact rn_sub [1, 2, 3, 4, 5, 6, 7, 8, 0] rfl (hk75 a0 x1 x2 x3 x4 x5 x6 x7 (w32 (x8 + 1)) w r h)
def Mo_bestLetter_123 (k40 : Nat → Int → Int → Int → Int → Int → Int → Wd → Option (Int × Wd)) (a0 : Nat) (x1 : Int) (x2 : Int) (x3 : Int) (x4 : Int) (x5 : Int) (x6 : Int) (w : Wd) : Option (Int × Wd) :=
  k40 a0 x1 x2 x3 x4 x5 (w32 (x6 + 1)) w
theorem s_Mo_bestLetter_123 {g : Gp} {l : Launch} {D : Nat} (hD : 7 ≤ D) (k40 : Nat → Int → Int → Int → Int → Int → Int → Wd → Option (Int × Wd)) (hk40 : ∀ (a0 : Nat) (x1 : Int) (x2 : Int) (x3 : Int) (x4 : Int) (x5 : Int) (x6 : Int) (w : Wd) (r : Int × Wd), k40 a0 x1 x2 x3 x4 x5 x6 w = some r → Rn g l D 226 40 [(0, .inr (.inr a0)), (1, .inl x1), (2, .inl x2), (3, .inl x3), (4, .inl x4), (5, .inl x5), (6, .inl x6)] [] w (some (.inl r.1)) r.2) (a0 : Nat) (x1 : Int) (x2 : Int) (x3 : Int) (x4 : Int) (x5 : Int) (x6 : Int) (w : Wd) (r : Int × Wd) (h : Mo_bestLetter_123 k40 a0 x1 x2 x3 x4 x5 x6 w = some r) : Rn g l D 226 123 [(0, .inr (.inr a0)), (1, .inl x1), (2, .inl x2), (3, .inl x3), (4, .inl x4), (5, .inl x5), (6, .inl x6)] [] w (some (.inl r.1)) r.2 := by
  unfold Mo_bestLetter_123 at h
  refine rn_iinc (ls1 := [(6, .inl (w32 (x6 + 1))), (0, .inr (.inr a0)), (1, .inl x1), (2, .inl x2), (3, .inl x3), (4, .inl x4), (5, .inl x5)]) i226_123 rfl rfl ?_
  refine rn_goto i226_126 ?_
  exact rn_sub [1, 2, 3, 4, 5, 6, 0] rfl (hk40 a0 x1 x2 x3 x4 x5 (w32 (x6 + 1)) w r h)
def Mo_bestLetter_105 (k40 : Nat → Int → Int → Int → Int → Int → Int → Wd → Option (Int × Wd)) (a0 : Nat) (x1 : Int) (x2 : Int) (x3 : Int) (x4 : Int) (x5 : Int) (x6 : Int) (x7 : Int) (w : Wd) : Option (Int × Wd) :=
  if (x5 : Int) < x7 then
    Mo_bestLetter_123 k40 a0 x1 x2 x3 x6 x7 x6 w
  else
    Mo_bestLetter_123 k40 a0 x1 x2 x3 x4 x5 x6 w
theorem s_Mo_bestLetter_105 {g : Gp} {l : Launch} {D : Nat} (hD : 7 ≤ D) (k40 : Nat → Int → Int → Int → Int → Int → Int → Wd → Option (Int × Wd)) (hk40 : ∀ (a0 : Nat) (x1 : Int) (x2 : Int) (x3 : Int) (x4 : Int) (x5 : Int) (x6 : Int) (w : Wd) (r : Int × Wd), k40 a0 x1 x2 x3 x4 x5 x6 w = some r → Rn g l D 226 40 [(0, .inr (.inr a0)), (1, .inl x1), (2, .inl x2), (3, .inl x3), (4, .inl x4), (5, .inl x5), (6, .inl x6)] [] w (some (.inl r.1)) r.2) (a0 : Nat) (x1 : Int) (x2 : Int) (x3 : Int) (x4 : Int) (x5 : Int) (x6 : Int) (x7 : Int) (w : Wd) (r : Int × Wd) (h : Mo_bestLetter_105 k40 a0 x1 x2 x3 x4 x5 x6 x7 w = some r) : Rn g l D 226 105 [(0, .inr (.inr a0)), (1, .inl x1), (2, .inl x2), (3, .inl x3), (4, .inl x4), (5, .inl x5), (6, .inl x6), (7, .inl x7)] [] w (some (.inl r.1)) r.2 := by
  unfold Mo_bestLetter_105 at h
  refine rn_iload i226_105 rfl ?_
  refine rn_iload i226_107 rfl ?_
  by_cases c109 : (x5 : Int) < x7
  · rw [if_pos c109] at h
    refine rn_icmp_gt_t i226_109 c109 ?_
    refine rn_iload i226_115 rfl ?_
    refine rn_istore (ls1 := [(4, .inl x6), (0, .inr (.inr a0)), (1, .inl x1), (2, .inl x2), (3, .inl x3), (5, .inl x5), (6, .inl x6), (7, .inl x7)]) i226_117 rfl ?_
    refine rn_iload i226_119 rfl ?_
    refine rn_istore (ls1 := [(5, .inl x7), (4, .inl x6), (0, .inr (.inr a0)), (1, .inl x1), (2, .inl x2), (3, .inl x3), (6, .inl x6), (7, .inl x7)]) i226_121 rfl ?_
    exact rn_sub [2, 3, 4, 5, 1, 0, 6] rfl (s_Mo_bestLetter_123 hD k40 hk40 a0 x1 x2 x3 x6 x7 x6 w r h)
  · rw [if_neg c109] at h
    refine rn_icmp_gt_f i226_109 c109 ?_
    refine rn_goto i226_112 ?_
    exact rn_sub [0, 1, 2, 3, 4, 5, 6] rfl (s_Mo_bestLetter_123 hD k40 hk40 a0 x1 x2 x3 x4 x5 x6 w r h)
def Mo_bestLetter_75 (k40 : Nat → Int → Int → Int → Int → Int → Int → Wd → Option (Int × Wd)) : Nat → Nat → Int → Int → Int → Int → Int → Int → Int → Int → Wd → Option (Int × Wd)
  | 0, _, _, _, _, _, _, _, _, _, _ => none
  | n + 1, a0, x1, x2, x3, x4, x5, x6, x7, x8, w =>
    if (x2 : Int) ≤ x8 then
      Mo_bestLetter_105 k40 a0 x1 x2 x3 x4 x5 x6 x7 w
    else
      (Mo_yearGoes a0 w).bind fun r82 =>
      (fgR r82 a0 12 50).bind fun v86 =>
      (rdI r82 v86 43).bind fun v91 =>
      if (v91 : Int) = x1 then
        Mo_bestLetter_99 k40 (Mo_bestLetter_75 k40 n) a0 x1 x2 x3 x4 x5 x6 (w32 (x7 + 1)) x8 r82
      else
        Mo_bestLetter_99 k40 (Mo_bestLetter_75 k40 n) a0 x1 x2 x3 x4 x5 x6 x7 x8 r82
theorem s_Mo_bestLetter_75 {g : Gp} {l : Launch} {D : Nat} (hD : 7 ≤ D) (k40 : Nat → Int → Int → Int → Int → Int → Int → Wd → Option (Int × Wd)) (hk40 : ∀ (a0 : Nat) (x1 : Int) (x2 : Int) (x3 : Int) (x4 : Int) (x5 : Int) (x6 : Int) (w : Wd) (r : Int × Wd), k40 a0 x1 x2 x3 x4 x5 x6 w = some r → Rn g l D 226 40 [(0, .inr (.inr a0)), (1, .inl x1), (2, .inl x2), (3, .inl x3), (4, .inl x4), (5, .inl x5), (6, .inl x6)] [] w (some (.inl r.1)) r.2) : ∀ (n : Nat) (a0 : Nat) (x1 : Int) (x2 : Int) (x3 : Int) (x4 : Int) (x5 : Int) (x6 : Int) (x7 : Int) (x8 : Int) (w : Wd) (r : Int × Wd), Mo_bestLetter_75 k40 n a0 x1 x2 x3 x4 x5 x6 x7 x8 w = some r → Rn g l D 226 75 [(0, .inr (.inr a0)), (1, .inl x1), (2, .inl x2), (3, .inl x3), (4, .inl x4), (5, .inl x5), (6, .inl x6), (7, .inl x7), (8, .inl x8)] [] w (some (.inl r.1)) r.2 := by
  obtain ⟨D, rfl⟩ : ∃ D1, D = D1 + 1 := ⟨D - 1, by omega⟩
  intro n
  induction n with
  | zero => intro a0 x1 x2 x3 x4 x5 x6 x7 x8 w r h; cases (show (none : Option (Int × Wd)) = some r from h)
  | succ n ih =>
    intro a0 x1 x2 x3 x4 x5 x6 x7 x8 w r h
    unfold Mo_bestLetter_75 at h
    refine rn_iload i226_75 rfl ?_
    refine rn_iload_n i226_77 rfl ?_
    by_cases c78 : (x2 : Int) ≤ x8
    · rw [if_pos c78] at h
      refine rn_icmp_ge_t i226_78 c78 ?_
      exact rn_sub [0, 1, 2, 3, 4, 5, 6, 7] rfl (s_Mo_bestLetter_105 hD k40 hk40 a0 x1 x2 x3 x4 x5 x6 x7 w r h)
    · rw [if_neg c78] at h
      refine rn_icmp_ge_f i226_78 c78 ?_
      refine fr_aload_n i226_81 rfl ?_
      obtain ⟨r82, h82, h⟩ := Option.bind_eq_some_iff.mp h
      obtain ⟨g82, c82⟩ := S_Mo_yearGoes a0 w r82 h82
      refine fr_callV (a := a0) (As := []) (st := []) i226_82 (cq203 a0) rfl (Nat.le_of_ble_eq_true rfl) g82 (c82 _ (by omega)) ?_
      refine fr_aload_n i226_85 rfl ?_
      obtain ⟨v86, h86, h⟩ := Option.bind_eq_some_iff.mp h
      refine fr_gR (k := 50) i226_86 tf12_50 h86 ?_
      refine rn_bipush i226_89 ?_
      obtain ⟨v91, h91, h⟩ := Option.bind_eq_some_iff.mp h
      refine rn_iald i226_91 h91 ?_
      refine rn_iload_n i226_92 rfl ?_
      by_cases c93 : (v91 : Int) = x1
      · rw [if_pos c93] at h
        refine rn_icmp_ne_f i226_93 c93 ?_
        refine rn_iinc (ls1 := [(7, .inl (w32 (x7 + 1))), (0, .inr (.inr a0)), (1, .inl x1), (2, .inl x2), (3, .inl x3), (4, .inl x4), (5, .inl x5), (6, .inl x6), (8, .inl x8)]) i226_96 rfl rfl ?_
        exact rn_sub [1, 2, 3, 4, 5, 6, 7, 0, 8] rfl (s_Mo_bestLetter_99 hD k40 hk40 (Mo_bestLetter_75 k40 n) ih a0 x1 x2 x3 x4 x5 x6 (w32 (x7 + 1)) x8 r82 r h)
      · rw [if_neg c93] at h
        refine rn_icmp_ne_t i226_93 c93 ?_
        exact rn_sub [0, 1, 2, 3, 4, 5, 6, 7, 8] rfl (s_Mo_bestLetter_99 hD k40 hk40 (Mo_bestLetter_75 k40 n) ih a0 x1 x2 x3 x4 x5 x6 x7 x8 r82 r h)
def Mo_bestLetter_140 (s0 : Int) (w : Wd) : Option (Int × Wd) :=
  some (s0, w)
theorem s_Mo_bestLetter_140 {g : Gp} {l : Launch} {D : Nat} (hD : 7 ≤ D) (s0 : Int) (w : Wd) (r : Int × Wd) (h : Mo_bestLetter_140 s0 w = some r) : Rn g l D 226 140 [] [.inl s0] w (some (.inl r.1)) r.2 := by
  unfold Mo_bestLetter_140 at h
  obtain rfl := Option.some.inj h
  exact rn_retI i226_140 mr226
def Mo_bestLetter_129 (x3 : Int) (x4 : Int) (x5 : Int) (w : Wd) : Option (Int × Wd) :=
  if (x3 : Int) = 0 then
    Mo_bestLetter_140 x4 w
  else
    Mo_bestLetter_140 x5 w
theorem s_Mo_bestLetter_129 {g : Gp} {l : Launch} {D : Nat} (hD : 7 ≤ D) (x3 : Int) (x4 : Int) (x5 : Int) (w : Wd) (r : Int × Wd) (h : Mo_bestLetter_129 x3 x4 x5 w = some r) : Rn g l D 226 129 [(3, .inl x3), (4, .inl x4), (5, .inl x5)] [] w (some (.inl r.1)) r.2 := by
  unfold Mo_bestLetter_129 at h
  refine rn_iload_n i226_129 rfl ?_
  by_cases c130 : (x3 : Int) = 0
  · rw [if_pos c130] at h
    refine rn_if_ne_f i226_130 c130 ?_
    refine rn_iload i226_133 rfl ?_
    refine rn_goto i226_135 ?_
    exact rn_sub [] rfl (s_Mo_bestLetter_140 hD x4 w r h)
  · rw [if_neg c130] at h
    refine rn_if_ne_t i226_130 c130 ?_
    refine rn_iload i226_138 rfl ?_
    exact rn_sub [] rfl (s_Mo_bestLetter_140 hD x5 w r h)
def Mo_bestLetter_40 : Nat → Nat → Int → Int → Int → Int → Int → Int → Wd → Option (Int × Wd)
  | 0, _, _, _, _, _, _, _, _ => none
  | n + 1, a0, x1, x2, x3, x4, x5, x6, w =>
    (fgR w a0 12 23).bind fun v43 =>
    (fgI w a0 12 18).bind fun v47 =>
    (rdI w v43 v47).bind fun v50 =>
    if (v50 : Int) ≤ x6 then
      Mo_bestLetter_129 x3 x4 x5 w
    else
      (Mo_copies a0 w).bind fun r55 =>
      (fpI r55 a0 12 54 x1).bind fun w60 =>
      (fpI w60 a0 12 55 x6).bind fun w66 =>
      Mo_bestLetter_75 (Mo_bestLetter_40 n) FU a0 x1 x2 x3 x4 x5 x6 0 0 w66
theorem s_Mo_bestLetter_40 {g : Gp} {l : Launch} {D : Nat} (hD : 7 ≤ D) : ∀ (n : Nat) (a0 : Nat) (x1 : Int) (x2 : Int) (x3 : Int) (x4 : Int) (x5 : Int) (x6 : Int) (w : Wd) (r : Int × Wd), Mo_bestLetter_40 n a0 x1 x2 x3 x4 x5 x6 w = some r → Rn g l D 226 40 [(0, .inr (.inr a0)), (1, .inl x1), (2, .inl x2), (3, .inl x3), (4, .inl x4), (5, .inl x5), (6, .inl x6)] [] w (some (.inl r.1)) r.2 := by
  obtain ⟨D, rfl⟩ : ∃ D1, D = D1 + 1 := ⟨D - 1, by omega⟩
  intro n
  induction n with
  | zero => intro a0 x1 x2 x3 x4 x5 x6 w r h; cases (show (none : Option (Int × Wd)) = some r from h)
  | succ n ih =>
    intro a0 x1 x2 x3 x4 x5 x6 w r h
    unfold Mo_bestLetter_40 at h
    refine rn_iload i226_40 rfl ?_
    refine fr_aload_n i226_42 rfl ?_
    obtain ⟨v43, h43, h⟩ := Option.bind_eq_some_iff.mp h
    refine fr_gR (k := 23) i226_43 tf12_23 h43 ?_
    refine fr_aload_n i226_46 rfl ?_
    obtain ⟨v47, h47, h⟩ := Option.bind_eq_some_iff.mp h
    refine fr_gI (k := 18) i226_47 tf12_18 h47 ?_
    obtain ⟨v50, h50, h⟩ := Option.bind_eq_some_iff.mp h
    refine rn_iald i226_50 h50 ?_
    by_cases c51 : (v50 : Int) ≤ x6
    · rw [if_pos c51] at h
      refine rn_icmp_ge_t i226_51 c51 ?_
      exact rn_sub [3, 4, 5] rfl (s_Mo_bestLetter_129 hD x3 x4 x5 w r h)
    · rw [if_neg c51] at h
      refine rn_icmp_ge_f i226_51 c51 ?_
      refine fr_aload_n i226_54 rfl ?_
      obtain ⟨r55, h55, h⟩ := Option.bind_eq_some_iff.mp h
      obtain ⟨g55, c55⟩ := S_Mo_copies a0 w r55 h55
      refine fr_callV (a := a0) (As := []) (st := []) i226_55 (cq187 a0) rfl (Nat.le_of_ble_eq_true rfl) g55 (c55 _ (by omega)) ?_
      refine fr_aload_n i226_58 rfl ?_
      refine rn_iload_n i226_59 rfl ?_
      obtain ⟨w60, h60, h⟩ := Option.bind_eq_some_iff.mp h
      refine fr_pI (k := 54) i226_60 (pf12_54 226) h60 ?_
      refine fr_aload_n i226_63 rfl ?_
      refine rn_iload i226_64 rfl ?_
      obtain ⟨w66, h66, h⟩ := Option.bind_eq_some_iff.mp h
      refine fr_pI (k := 55) i226_66 (pf12_55 226) h66 ?_
      refine rn_iconst i226_69 ?_
      refine rn_istore (ls1 := [(7, .inl 0), (0, .inr (.inr a0)), (1, .inl x1), (2, .inl x2), (3, .inl x3), (4, .inl x4), (5, .inl x5), (6, .inl x6)]) i226_70 rfl ?_
      refine rn_iconst i226_72 ?_
      refine rn_istore (ls1 := [(8, .inl 0), (7, .inl 0), (0, .inr (.inr a0)), (1, .inl x1), (2, .inl x2), (3, .inl x3), (4, .inl x4), (5, .inl x5), (6, .inl x6)]) i226_73 rfl ?_
      exact rn_sub [2, 3, 4, 5, 6, 7, 8, 1, 0] rfl (s_Mo_bestLetter_75 hD (Mo_bestLetter_40 n) ih FU a0 x1 x2 x3 x4 x5 x6 0 0 w66 r h)
def Mo_bestLetter_0 (a0 : Nat) (x1 : Int) (x2 : Int) (x3 : Int) (w : Wd) : Option (Int × Wd) :=
  (Mo_isHeir a0 x1 w).bind fun r2 =>
  if (r2.1 : Int) = 0 then
    Mo_bestLetter_27 r2.2
  else
    (Mo_in x2 1 50 r2.2).bind fun r12 =>
    if (r12.1 : Int) = 0 then
      Mo_bestLetter_27 r12.2
    else
      (Mo_in x3 0 1 r12.2).bind fun r21 =>
      if (r21.1 : Int) = 0 then
        Mo_bestLetter_27 r21.2
      else
        Mo_bestLetter_40 FU a0 x1 x2 x3 (-2) (-2) 0 r21.2
theorem s_Mo_bestLetter_0 {g : Gp} {l : Launch} {D : Nat} (hD : 7 ≤ D) (a0 : Nat) (x1 : Int) (x2 : Int) (x3 : Int) (w : Wd) (r : Int × Wd) (h : Mo_bestLetter_0 a0 x1 x2 x3 w = some r) : Rn g l D 226 0 [(0, .inr (.inr a0)), (1, .inl x1), (2, .inl x2), (3, .inl x3)] [] w (some (.inl r.1)) r.2 := by
  obtain ⟨D, rfl⟩ : ∃ D1, D = D1 + 1 := ⟨D - 1, by omega⟩
  unfold Mo_bestLetter_0 at h
  refine fr_aload_n i226_0 rfl ?_
  refine rn_iload_n i226_1 rfl ?_
  obtain ⟨r2, h2, h⟩ := Option.bind_eq_some_iff.mp h
  obtain ⟨g2, c2⟩ := S_Mo_isHeir a0 x1 w r2 h2
  refine fr_callV (a := a0) (As := [.inl x1]) (st := []) i226_2 (cq183 a0 x1) rfl (Nat.le_of_ble_eq_true rfl) g2 (c2 _ (by omega)) ?_
  show Rn _ _ _ _ _ _ [.inl r2.1] _ _ _
  by_cases c5 : (r2.1 : Int) = 0
  · rw [if_pos c5] at h
    refine rn_if_eq_t i226_5 c5 ?_
    exact rn_sub [] rfl (s_Mo_bestLetter_27 hD r2.2 r h)
  · rw [if_neg c5] at h
    refine rn_if_eq_f i226_5 c5 ?_
    refine rn_iload_n i226_8 rfl ?_
    refine rn_iconst i226_9 ?_
    refine rn_bipush i226_10 ?_
    obtain ⟨r12, h12, h⟩ := Option.bind_eq_some_iff.mp h
    refine fr_callS (nst := 0) (As := [.inl x2, .inl 1, .inl 50]) (st := []) i226_12 (cq181 x2 1 50) rfl (Nat.le_of_ble_eq_true rfl) (S_Mo_in x2 1 50 r2.2 r12 h12 _ (by omega)) ?_
    show Rn _ _ _ _ _ _ [.inl r12.1] _ _ _
    by_cases c15 : (r12.1 : Int) = 0
    · rw [if_pos c15] at h
      refine rn_if_eq_t i226_15 c15 ?_
      exact rn_sub [] rfl (s_Mo_bestLetter_27 hD r12.2 r h)
    · rw [if_neg c15] at h
      refine rn_if_eq_f i226_15 c15 ?_
      refine rn_iload_n i226_18 rfl ?_
      refine rn_iconst i226_19 ?_
      refine rn_iconst i226_20 ?_
      obtain ⟨r21, h21, h⟩ := Option.bind_eq_some_iff.mp h
      refine fr_callS (nst := 0) (As := [.inl x3, .inl 0, .inl 1]) (st := []) i226_21 (cq181 x3 0 1) rfl (Nat.le_of_ble_eq_true rfl) (S_Mo_in x3 0 1 r12.2 r21 h21 _ (by omega)) ?_
      show Rn _ _ _ _ _ _ [.inl r21.1] _ _ _
      by_cases c24 : (r21.1 : Int) = 0
      · rw [if_pos c24] at h
        refine rn_if_ne_f i226_24 c24 ?_
        exact rn_sub [] rfl (s_Mo_bestLetter_27 hD r21.2 r h)
      · rw [if_neg c24] at h
        refine rn_if_ne_t i226_24 c24 ?_
        refine rn_bipush i226_29 ?_
        refine rn_istore (ls1 := [(4, .inl (-2)), (0, .inr (.inr a0)), (1, .inl x1), (2, .inl x2), (3, .inl x3)]) i226_31 rfl ?_
        refine rn_bipush i226_33 ?_
        refine rn_istore (ls1 := [(5, .inl (-2)), (4, .inl (-2)), (0, .inr (.inr a0)), (1, .inl x1), (2, .inl x2), (3, .inl x3)]) i226_35 rfl ?_
        refine rn_iconst i226_37 ?_
        refine rn_istore (ls1 := [(6, .inl 0), (5, .inl (-2)), (4, .inl (-2)), (0, .inr (.inr a0)), (1, .inl x1), (2, .inl x2), (3, .inl x3)]) i226_38 rfl ?_
        exact rn_sub [3, 4, 5, 6, 2, 1, 0] rfl (s_Mo_bestLetter_40 hD FU a0 x1 x2 x3 (-2) (-2) 0 r21.2 r h)
/-- HandHeirsModel.bestLetter(III)I -/
def Mo_bestLetter (a0 : Nat) (x1 : Int) (x2 : Int) (x3 : Int) (w : Wd) : Option (Int × Wd) := gd 12 w a0 (Mo_bestLetter_0 a0 x1 x2 x3 w)
theorem S_Mo_bestLetter {g : Gp} {l : Launch} (a0 : Nat) (x1 : Int) (x2 : Int) (x3 : Int) (w : Wd) (r : Int × Wd) (h : Mo_bestLetter a0 x1 x2 x3 w = some r) : (wsh w a0).1 = 12 ∧ ∀ D, 7 ≤ D → Rn g l D 226 0 [(0, .inr (.inr a0)), (1, .inl x1), (2, .inl x2), (3, .inl x3)] [] w (some (.inl r.1)) r.2 := by
  obtain ⟨hg, h⟩ := gd_some h
  exact ⟨hg, fun D hD => rn_sub [0, 1, 2, 3] rfl (s_Mo_bestLetter_0 hD a0 x1 x2 x3 w r h)⟩
def Mo_reign_120 (k26 : Nat → Int → Int → Int → Int → Int → Int → Wd → Option (Int × Wd)) (a0 : Nat) (x1 : Int) (x2 : Int) (x3 : Int) (x4 : Int) (x5 : Int) (x6 : Int) (w : Wd) : Option (Int × Wd) :=
  k26 a0 x1 x2 x3 x4 x5 (w32 (x6 + 1)) w
theorem s_Mo_reign_120 {g : Gp} {l : Launch} {D : Nat} (hD : 1 ≤ D) (k26 : Nat → Int → Int → Int → Int → Int → Int → Wd → Option (Int × Wd)) (hk26 : ∀ (a0 : Nat) (x1 : Int) (x2 : Int) (x3 : Int) (x4 : Int) (x5 : Int) (x6 : Int) (w : Wd) (r : Int × Wd), k26 a0 x1 x2 x3 x4 x5 x6 w = some r → Rn g l D 227 26 [(0, .inr (.inr a0)), (1, .inl x1), (2, .inl x2), (3, .inl x3), (4, .inl x4), (5, .inl x5), (6, .inl x6)] [] w (some (.inl r.1)) r.2) (a0 : Nat) (x1 : Int) (x2 : Int) (x3 : Int) (x4 : Int) (x5 : Int) (x6 : Int) (w : Wd) (r : Int × Wd) (h : Mo_reign_120 k26 a0 x1 x2 x3 x4 x5 x6 w = some r) : Rn g l D 227 120 [(0, .inr (.inr a0)), (1, .inl x1), (2, .inl x2), (3, .inl x3), (4, .inl x4), (5, .inl x5), (6, .inl x6)] [] w (some (.inl r.1)) r.2 := by
  unfold Mo_reign_120 at h
  refine rn_iinc (ls1 := [(6, .inl (w32 (x6 + 1))), (0, .inr (.inr a0)), (1, .inl x1), (2, .inl x2), (3, .inl x3), (4, .inl x4), (5, .inl x5)]) i227_120 rfl rfl ?_
  refine rn_goto i227_123 ?_
  exact rn_sub [1, 2, 3, 4, 5, 6, 0] rfl (hk26 a0 x1 x2 x3 x4 x5 (w32 (x6 + 1)) w r h)
def Mo_reign_93 (k26 : Nat → Int → Int → Int → Int → Int → Int → Wd → Option (Int × Wd)) (a0 : Nat) (x1 : Int) (x2 : Int) (x3 : Int) (x4 : Int) (x6 : Int) (x7 : Int) (s0 : Int) (w : Wd) : Option (Int × Wd) :=
  if (x4 : Int) < s0 then
    Mo_reign_120 k26 a0 x1 x7 (w32 ((w32 (x6 - s0)) + 1)) s0 s0 x6 w
  else
    Mo_reign_120 k26 a0 x1 x2 x3 x4 s0 x6 w
theorem s_Mo_reign_93 {g : Gp} {l : Launch} {D : Nat} (hD : 1 ≤ D) (k26 : Nat → Int → Int → Int → Int → Int → Int → Wd → Option (Int × Wd)) (hk26 : ∀ (a0 : Nat) (x1 : Int) (x2 : Int) (x3 : Int) (x4 : Int) (x5 : Int) (x6 : Int) (w : Wd) (r : Int × Wd), k26 a0 x1 x2 x3 x4 x5 x6 w = some r → Rn g l D 227 26 [(0, .inr (.inr a0)), (1, .inl x1), (2, .inl x2), (3, .inl x3), (4, .inl x4), (5, .inl x5), (6, .inl x6)] [] w (some (.inl r.1)) r.2) (a0 : Nat) (x1 : Int) (x2 : Int) (x3 : Int) (x4 : Int) (x6 : Int) (x7 : Int) (s0 : Int) (w : Wd) (r : Int × Wd) (h : Mo_reign_93 k26 a0 x1 x2 x3 x4 x6 x7 s0 w = some r) : Rn g l D 227 93 [(0, .inr (.inr a0)), (1, .inl x1), (2, .inl x2), (3, .inl x3), (4, .inl x4), (6, .inl x6), (7, .inl x7)] [.inl s0] w (some (.inl r.1)) r.2 := by
  unfold Mo_reign_93 at h
  refine rn_istore (ls1 := [(5, .inl s0), (0, .inr (.inr a0)), (1, .inl x1), (2, .inl x2), (3, .inl x3), (4, .inl x4), (6, .inl x6), (7, .inl x7)]) i227_93 rfl ?_
  refine rn_iload i227_95 rfl ?_
  refine rn_iload i227_97 rfl ?_
  by_cases c99 : (x4 : Int) < s0
  · rw [if_pos c99] at h
    refine rn_icmp_gt_t i227_99 c99 ?_
    refine rn_iload i227_105 rfl ?_
    refine rn_istore (ls1 := [(4, .inl s0), (5, .inl s0), (0, .inr (.inr a0)), (1, .inl x1), (2, .inl x2), (3, .inl x3), (6, .inl x6), (7, .inl x7)]) i227_107 rfl ?_
    refine rn_iload i227_109 rfl ?_
    refine rn_iload i227_111 rfl ?_
    refine rn_isub i227_113 ?_
    refine rn_iconst i227_114 ?_
    refine rn_iadd i227_115 ?_
    refine rn_istore_n (ls1 := [(3, .inl (w32 ((w32 (x6 - s0)) + 1))), (4, .inl s0), (5, .inl s0), (0, .inr (.inr a0)), (1, .inl x1), (2, .inl x2), (6, .inl x6), (7, .inl x7)]) i227_116 rfl ?_
    refine rn_iload i227_117 rfl ?_
    refine rn_istore_n (ls1 := [(2, .inl x7), (3, .inl (w32 ((w32 (x6 - s0)) + 1))), (4, .inl s0), (5, .inl s0), (0, .inr (.inr a0)), (1, .inl x1), (6, .inl x6), (7, .inl x7)]) i227_119 rfl ?_
    exact rn_sub [4, 5, 0, 1, 2, 3, 6] rfl (s_Mo_reign_120 hD k26 hk26 a0 x1 x7 (w32 ((w32 (x6 - s0)) + 1)) s0 s0 x6 w r h)
  · rw [if_neg c99] at h
    refine rn_icmp_gt_f i227_99 c99 ?_
    refine rn_goto i227_102 ?_
    exact rn_sub [1, 2, 3, 4, 5, 0, 6] rfl (s_Mo_reign_120 hD k26 hk26 a0 x1 x2 x3 x4 s0 x6 w r h)
def Mo_reign_92 (k26 : Nat → Int → Int → Int → Int → Int → Int → Wd → Option (Int × Wd)) (a0 : Nat) (x1 : Int) (x2 : Int) (x3 : Int) (x4 : Int) (x6 : Int) (x7 : Int) (w : Wd) : Option (Int × Wd) :=
  Mo_reign_93 k26 a0 x1 x2 x3 x4 x6 x7 1 w
theorem s_Mo_reign_92 {g : Gp} {l : Launch} {D : Nat} (hD : 1 ≤ D) (k26 : Nat → Int → Int → Int → Int → Int → Int → Wd → Option (Int × Wd)) (hk26 : ∀ (a0 : Nat) (x1 : Int) (x2 : Int) (x3 : Int) (x4 : Int) (x5 : Int) (x6 : Int) (w : Wd) (r : Int × Wd), k26 a0 x1 x2 x3 x4 x5 x6 w = some r → Rn g l D 227 26 [(0, .inr (.inr a0)), (1, .inl x1), (2, .inl x2), (3, .inl x3), (4, .inl x4), (5, .inl x5), (6, .inl x6)] [] w (some (.inl r.1)) r.2) (a0 : Nat) (x1 : Int) (x2 : Int) (x3 : Int) (x4 : Int) (x6 : Int) (x7 : Int) (w : Wd) (r : Int × Wd) (h : Mo_reign_92 k26 a0 x1 x2 x3 x4 x6 x7 w = some r) : Rn g l D 227 92 [(0, .inr (.inr a0)), (1, .inl x1), (2, .inl x2), (3, .inl x3), (4, .inl x4), (6, .inl x6), (7, .inl x7)] [] w (some (.inl r.1)) r.2 := by
  unfold Mo_reign_92 at h
  refine rn_iconst i227_92 ?_
  exact rn_sub [0, 1, 2, 3, 4, 5, 6] rfl (s_Mo_reign_93 hD k26 hk26 a0 x1 x2 x3 x4 x6 x7 1 w r h)
def Mo_reign_152 (s0 : Int) (w : Wd) : Option (Int × Wd) :=
  some (s0, w)
theorem s_Mo_reign_152 {g : Gp} {l : Launch} {D : Nat} (hD : 1 ≤ D) (s0 : Int) (w : Wd) (r : Int × Wd) (h : Mo_reign_152 s0 w = some r) : Rn g l D 227 152 [] [.inl s0] w (some (.inl r.1)) r.2 := by
  unfold Mo_reign_152 at h
  obtain rfl := Option.some.inj h
  exact rn_retI i227_152 mr227
def Mo_reign_126 (x1 : Int) (x2 : Int) (x3 : Int) (x4 : Int) (w : Wd) : Option (Int × Wd) :=
  if (0 : Int) ≤ x2 then
    if (x1 : Int) = 0 then
      Mo_reign_152 x4 w
    else
      if (x1 : Int) = 1 then
        Mo_reign_152 x3 w
      else
        Mo_reign_152 x2 w
  else
    some ((-2), w)
theorem s_Mo_reign_126 {g : Gp} {l : Launch} {D : Nat} (hD : 1 ≤ D) (x1 : Int) (x2 : Int) (x3 : Int) (x4 : Int) (w : Wd) (r : Int × Wd) (h : Mo_reign_126 x1 x2 x3 x4 w = some r) : Rn g l D 227 126 [(1, .inl x1), (2, .inl x2), (3, .inl x3), (4, .inl x4)] [] w (some (.inl r.1)) r.2 := by
  unfold Mo_reign_126 at h
  refine rn_iload_n i227_126 rfl ?_
  by_cases c127 : (0 : Int) ≤ x2
  · rw [if_pos c127] at h
    refine rn_if_ge_t i227_127 c127 ?_
    refine rn_iload_n i227_133 rfl ?_
    by_cases c134 : (x1 : Int) = 0
    · rw [if_pos c134] at h
      refine rn_if_ne_f i227_134 c134 ?_
      refine rn_iload i227_137 rfl ?_
      refine rn_goto i227_139 ?_
      exact rn_sub [] rfl (s_Mo_reign_152 hD x4 w r h)
    · rw [if_neg c134] at h
      refine rn_if_ne_t i227_134 c134 ?_
      refine rn_iload_n i227_142 rfl ?_
      refine rn_iconst i227_143 ?_
      by_cases c144 : (x1 : Int) = 1
      · rw [if_pos c144] at h
        refine rn_icmp_ne_f i227_144 c144 ?_
        refine rn_iload_n i227_147 rfl ?_
        refine rn_goto i227_148 ?_
        exact rn_sub [] rfl (s_Mo_reign_152 hD x3 w r h)
      · rw [if_neg c144] at h
        refine rn_icmp_ne_t i227_144 c144 ?_
        refine rn_iload_n i227_151 rfl ?_
        exact rn_sub [] rfl (s_Mo_reign_152 hD x2 w r h)
  · rw [if_neg c127] at h
    refine rn_if_ge_f i227_127 c127 ?_
    refine rn_bipush i227_130 ?_
    obtain rfl := Option.some.inj h
    exact rn_retI i227_132 mr227
def Mo_reign_26 : Nat → Nat → Int → Int → Int → Int → Int → Int → Wd → Option (Int × Wd)
  | 0, _, _, _, _, _, _, _, _ => none
  | n + 1, a0, x1, x2, x3, x4, x5, x6, w =>
    (fgR w a0 12 49).bind fun v29 =>
    (rdI w v29 45).bind fun v34 =>
    if (v34 : Int) ≤ x6 then
      Mo_reign_126 x1 x2 x3 x4 w
    else
      (fgR w a0 12 49).bind fun v39 =>
      (rdI w v39 (w32 (66 + (w32 (7 * x6))))).bind fun v50 =>
      if (0 : Int) ≤ v50 then
        if (x6 : Int) ≤ 0 then
          Mo_reign_92 (Mo_reign_26 n) a0 x1 x2 x3 x4 x6 v50 w
        else
          (fgR w a0 12 49).bind fun v68 =>
          (rdI w v68 (w32 (59 + (w32 (7 * x6))))).bind fun v79 =>
          if (v79 : Int) = v50 then
            Mo_reign_93 (Mo_reign_26 n) a0 x1 x2 x3 x4 x6 v50 (w32 (x5 + 1)) w
          else
            Mo_reign_92 (Mo_reign_26 n) a0 x1 x2 x3 x4 x6 v50 w
      else
        Mo_reign_93 (Mo_reign_26 n) a0 x1 x2 x3 x4 x6 v50 0 w
theorem s_Mo_reign_26 {g : Gp} {l : Launch} {D : Nat} (hD : 1 ≤ D) : ∀ (n : Nat) (a0 : Nat) (x1 : Int) (x2 : Int) (x3 : Int) (x4 : Int) (x5 : Int) (x6 : Int) (w : Wd) (r : Int × Wd), Mo_reign_26 n a0 x1 x2 x3 x4 x5 x6 w = some r → Rn g l D 227 26 [(0, .inr (.inr a0)), (1, .inl x1), (2, .inl x2), (3, .inl x3), (4, .inl x4), (5, .inl x5), (6, .inl x6)] [] w (some (.inl r.1)) r.2 := by
  intro n
  induction n with
  | zero => intro a0 x1 x2 x3 x4 x5 x6 w r h; cases (show (none : Option (Int × Wd)) = some r from h)
  | succ n ih =>
    intro a0 x1 x2 x3 x4 x5 x6 w r h
    unfold Mo_reign_26 at h
    refine rn_iload i227_26 rfl ?_
    refine fr_aload_n i227_28 rfl ?_
    obtain ⟨v29, h29, h⟩ := Option.bind_eq_some_iff.mp h
    refine fr_gR (k := 49) i227_29 tf12_49 h29 ?_
    refine rn_bipush i227_32 ?_
    obtain ⟨v34, h34, h⟩ := Option.bind_eq_some_iff.mp h
    refine rn_iald i227_34 h34 ?_
    by_cases c35 : (v34 : Int) ≤ x6
    · rw [if_pos c35] at h
      refine rn_icmp_ge_t i227_35 c35 ?_
      exact rn_sub [1, 2, 3, 4] rfl (s_Mo_reign_126 hD x1 x2 x3 x4 w r h)
    · rw [if_neg c35] at h
      refine rn_icmp_ge_f i227_35 c35 ?_
      refine fr_aload_n i227_38 rfl ?_
      obtain ⟨v39, h39, h⟩ := Option.bind_eq_some_iff.mp h
      refine fr_gR (k := 49) i227_39 tf12_49 h39 ?_
      refine rn_bipush i227_42 ?_
      refine rn_bipush i227_44 ?_
      refine rn_iload i227_46 rfl ?_
      refine rn_imul i227_48 ?_
      refine rn_iadd i227_49 ?_
      obtain ⟨v50, h50, h⟩ := Option.bind_eq_some_iff.mp h
      refine rn_iald i227_50 h50 ?_
      refine rn_istore (ls1 := [(7, .inl v50), (0, .inr (.inr a0)), (1, .inl x1), (2, .inl x2), (3, .inl x3), (4, .inl x4), (5, .inl x5), (6, .inl x6)]) i227_51 rfl ?_
      refine rn_iload i227_53 rfl ?_
      by_cases c55 : (0 : Int) ≤ v50
      · rw [if_pos c55] at h
        refine rn_if_ge_t i227_55 c55 ?_
        refine rn_iload i227_62 rfl ?_
        by_cases c64 : (x6 : Int) ≤ 0
        · rw [if_pos c64] at h
          refine rn_if_le_t i227_64 c64 ?_
          exact rn_sub [1, 2, 3, 4, 5, 7, 0] rfl (s_Mo_reign_92 hD (Mo_reign_26 n) ih a0 x1 x2 x3 x4 x6 v50 w r h)
        · rw [if_neg c64] at h
          refine rn_if_le_f i227_64 c64 ?_
          refine fr_aload_n i227_67 rfl ?_
          obtain ⟨v68, h68, h⟩ := Option.bind_eq_some_iff.mp h
          refine fr_gR (k := 49) i227_68 tf12_49 h68 ?_
          refine rn_bipush i227_71 ?_
          refine rn_bipush i227_73 ?_
          refine rn_iload i227_75 rfl ?_
          refine rn_imul i227_77 ?_
          refine rn_iadd i227_78 ?_
          obtain ⟨v79, h79, h⟩ := Option.bind_eq_some_iff.mp h
          refine rn_iald i227_79 h79 ?_
          refine rn_iload i227_80 rfl ?_
          by_cases c82 : (v79 : Int) = v50
          · rw [if_pos c82] at h
            refine rn_icmp_ne_f i227_82 c82 ?_
            refine rn_iload i227_85 rfl ?_
            refine rn_iconst i227_87 ?_
            refine rn_iadd i227_88 ?_
            refine rn_goto i227_89 ?_
            exact rn_sub [1, 2, 3, 4, 5, 7, 0] rfl (s_Mo_reign_93 hD (Mo_reign_26 n) ih a0 x1 x2 x3 x4 x6 v50 (w32 (x5 + 1)) w r h)
          · rw [if_neg c82] at h
            refine rn_icmp_ne_t i227_82 c82 ?_
            exact rn_sub [1, 2, 3, 4, 5, 7, 0] rfl (s_Mo_reign_92 hD (Mo_reign_26 n) ih a0 x1 x2 x3 x4 x6 v50 w r h)
      · rw [if_neg c55] at h
        refine rn_if_ge_f i227_55 c55 ?_
        refine rn_iconst i227_58 ?_
        refine rn_goto i227_59 ?_
        exact rn_sub [1, 2, 3, 4, 5, 7, 0] rfl (s_Mo_reign_93 hD (Mo_reign_26 n) ih a0 x1 x2 x3 x4 x6 v50 0 w r h)
def Mo_reign_0 (a0 : Nat) (x1 : Int) (w : Wd) : Option (Int × Wd) :=
  (Mo_in x1 0 2 w).bind fun r3 =>
  if (r3.1 : Int) = 0 then
    some ((-1), r3.2)
  else
    Mo_reign_26 FU a0 x1 (-2) (-2) 0 0 0 r3.2
theorem s_Mo_reign_0 {g : Gp} {l : Launch} {D : Nat} (hD : 1 ≤ D) (a0 : Nat) (x1 : Int) (w : Wd) (r : Int × Wd) (h : Mo_reign_0 a0 x1 w = some r) : Rn g l D 227 0 [(0, .inr (.inr a0)), (1, .inl x1)] [] w (some (.inl r.1)) r.2 := by
  obtain ⟨D, rfl⟩ : ∃ D1, D = D1 + 1 := ⟨D - 1, by omega⟩
  unfold Mo_reign_0 at h
  refine rn_iload_n i227_0 rfl ?_
  refine rn_iconst i227_1 ?_
  refine rn_iconst i227_2 ?_
  obtain ⟨r3, h3, h⟩ := Option.bind_eq_some_iff.mp h
  refine fr_callS (nst := 0) (As := [.inl x1, .inl 0, .inl 2]) (st := []) i227_3 (cq181 x1 0 2) rfl (Nat.le_of_ble_eq_true rfl) (S_Mo_in x1 0 2 w r3 h3 _ (by omega)) ?_
  show Rn _ _ _ _ _ _ [.inl r3.1] _ _ _
  by_cases c6 : (r3.1 : Int) = 0
  · rw [if_pos c6] at h
    refine rn_if_ne_f i227_6 c6 ?_
    refine rn_iconst i227_9 ?_
    obtain rfl := Option.some.inj h
    exact rn_retI i227_10 mr227
  · rw [if_neg c6] at h
    refine rn_if_ne_t i227_6 c6 ?_
    refine rn_bipush i227_11 ?_
    refine rn_istore_n (ls1 := [(2, .inl (-2)), (0, .inr (.inr a0)), (1, .inl x1)]) i227_13 rfl ?_
    refine rn_bipush i227_14 ?_
    refine rn_istore_n (ls1 := [(3, .inl (-2)), (2, .inl (-2)), (0, .inr (.inr a0)), (1, .inl x1)]) i227_16 rfl ?_
    refine rn_iconst i227_17 ?_
    refine rn_istore (ls1 := [(4, .inl 0), (3, .inl (-2)), (2, .inl (-2)), (0, .inr (.inr a0)), (1, .inl x1)]) i227_18 rfl ?_
    refine rn_iconst i227_20 ?_
    refine rn_istore (ls1 := [(5, .inl 0), (4, .inl 0), (3, .inl (-2)), (2, .inl (-2)), (0, .inr (.inr a0)), (1, .inl x1)]) i227_21 rfl ?_
    refine rn_iconst i227_23 ?_
    refine rn_istore (ls1 := [(6, .inl 0), (5, .inl 0), (4, .inl 0), (3, .inl (-2)), (2, .inl (-2)), (0, .inr (.inr a0)), (1, .inl x1)]) i227_24 rfl ?_
    exact rn_sub [5, 6, 4, 3, 2, 1, 0] rfl (s_Mo_reign_26 hD FU a0 x1 (-2) (-2) 0 0 0 r3.2 r h)
/-- HandHeirsModel.reign(I)I -/
def Mo_reign (a0 : Nat) (x1 : Int) (w : Wd) : Option (Int × Wd) := gd 12 w a0 (Mo_reign_0 a0 x1 w)
theorem S_Mo_reign {g : Gp} {l : Launch} (a0 : Nat) (x1 : Int) (w : Wd) (r : Int × Wd) (h : Mo_reign a0 x1 w = some r) : (wsh w a0).1 = 12 ∧ ∀ D, 1 ≤ D → Rn g l D 227 0 [(0, .inr (.inr a0)), (1, .inl x1)] [] w (some (.inl r.1)) r.2 := by
  obtain ⟨hg, h⟩ := gd_some h
  exact ⟨hg, fun D hD => rn_sub [0, 1] rfl (s_Mo_reign_0 hD a0 x1 w r h)⟩
def Mo_handIn_34 (s0 : Int) (w : Wd) : Option (Int × Wd) :=
  some (s0, w)
theorem s_Mo_handIn_34 {g : Gp} {l : Launch} {D : Nat} (hD : 0 ≤ D) (s0 : Int) (w : Wd) (r : Int × Wd) (h : Mo_handIn_34 s0 w = some r) : Rn g l D 229 34 [] [.inl s0] w (some (.inl r.1)) r.2 := by
  unfold Mo_handIn_34 at h
  obtain rfl := Option.some.inj h
  exact rn_retI i229_34 mr229
def Mo_handIn_0 (a0 : Nat) (x1 : Int) (x2 : Int) (w : Wd) : Option (Int × Wd) :=
  (fgR w a0 12 49).bind fun v2 =>
  (rdI w v2 45).bind fun v7 =>
  if (v7 : Int) ≤ x1 then
    (fgR w a0 12 49).bind fun v29 =>
    (rdI w v29 x2).bind fun v33 =>
    Mo_handIn_34 v33 w
  else
    (fgR w a0 12 49).bind fun v12 =>
    (rdI w v12 (w32 ((w32 (60 + (w32 (7 * x1)))) + x2))).bind fun v24 =>
    Mo_handIn_34 v24 w
theorem s_Mo_handIn_0 {g : Gp} {l : Launch} {D : Nat} (hD : 0 ≤ D) (a0 : Nat) (x1 : Int) (x2 : Int) (w : Wd) (r : Int × Wd) (h : Mo_handIn_0 a0 x1 x2 w = some r) : Rn g l D 229 0 [(0, .inr (.inr a0)), (1, .inl x1), (2, .inl x2)] [] w (some (.inl r.1)) r.2 := by
  unfold Mo_handIn_0 at h
  refine rn_iload_n i229_0 rfl ?_
  refine fr_aload_n i229_1 rfl ?_
  obtain ⟨v2, h2, h⟩ := Option.bind_eq_some_iff.mp h
  refine fr_gR (k := 49) i229_2 tf12_49 h2 ?_
  refine rn_bipush i229_5 ?_
  obtain ⟨v7, h7, h⟩ := Option.bind_eq_some_iff.mp h
  refine rn_iald i229_7 h7 ?_
  by_cases c8 : (v7 : Int) ≤ x1
  · rw [if_pos c8] at h
    refine rn_icmp_ge_t i229_8 c8 ?_
    refine fr_aload_n i229_28 rfl ?_
    obtain ⟨v29, h29, h⟩ := Option.bind_eq_some_iff.mp h
    refine fr_gR (k := 49) i229_29 tf12_49 h29 ?_
    refine rn_iload_n i229_32 rfl ?_
    obtain ⟨v33, h33, h⟩ := Option.bind_eq_some_iff.mp h
    refine rn_iald i229_33 h33 ?_
    exact rn_sub [] rfl (s_Mo_handIn_34 hD v33 w r h)
  · rw [if_neg c8] at h
    refine rn_icmp_ge_f i229_8 c8 ?_
    refine fr_aload_n i229_11 rfl ?_
    obtain ⟨v12, h12, h⟩ := Option.bind_eq_some_iff.mp h
    refine fr_gR (k := 49) i229_12 tf12_49 h12 ?_
    refine rn_bipush i229_15 ?_
    refine rn_bipush i229_17 ?_
    refine rn_iload_n i229_19 rfl ?_
    refine rn_imul i229_20 ?_
    refine rn_iadd i229_21 ?_
    refine rn_iload_n i229_22 rfl ?_
    refine rn_iadd i229_23 ?_
    obtain ⟨v24, h24, h⟩ := Option.bind_eq_some_iff.mp h
    refine rn_iald i229_24 h24 ?_
    refine rn_goto i229_25 ?_
    exact rn_sub [] rfl (s_Mo_handIn_34 hD v24 w r h)
/-- HandHeirsModel.handIn(II)I -/
def Mo_handIn (a0 : Nat) (x1 : Int) (x2 : Int) (w : Wd) : Option (Int × Wd) := gd 12 w a0 (Mo_handIn_0 a0 x1 x2 w)
theorem S_Mo_handIn {g : Gp} {l : Launch} (a0 : Nat) (x1 : Int) (x2 : Int) (w : Wd) (r : Int × Wd) (h : Mo_handIn a0 x1 x2 w = some r) : (wsh w a0).1 = 12 ∧ ∀ D, 0 ≤ D → Rn g l D 229 0 [(0, .inr (.inr a0)), (1, .inl x1), (2, .inl x2)] [] w (some (.inl r.1)) r.2 := by
  obtain ⟨hg, h⟩ := gd_some h
  exact ⟨hg, fun D hD => rn_sub [0, 1, 2] rfl (s_Mo_handIn_0 hD a0 x1 x2 w r h)⟩
def Mo_copiedFrom_5 : Nat → Nat → Int → Int → Int → Int → Wd → Option (Int × Wd)
  | 0, _, _, _, _, _, _ => none
  | n + 1, a0, x1, x2, x3, x4, w =>
    (fgR w a0 12 23).bind fun v8 =>
    (fgI w a0 12 18).bind fun v12 =>
    (rdI w v8 v12).bind fun v15 =>
    if (v15 : Int) ≤ x4 then
      some (x3, w)
    else
      (fgR w a0 12 49).bind fun v21 =>
      (rdI w v21 (w32 ((w32 (6 + (w32 (6 * x1)))) + x4))).bind fun v34 =>
      (Mo_handIn a0 x2 x4 w).bind fun r39 =>
      (Mo_apart v34 (r39.1) r39.2).bind fun r42 =>
      Mo_copiedFrom_5 n a0 x1 x2 (w32 (x3 + r42.1)) (w32 (x4 + 1)) r42.2
theorem s_Mo_copiedFrom_5 {g : Gp} {l : Launch} {D : Nat} (hD : 1 ≤ D) : ∀ (n : Nat) (a0 : Nat) (x1 : Int) (x2 : Int) (x3 : Int) (x4 : Int) (w : Wd) (r : Int × Wd), Mo_copiedFrom_5 n a0 x1 x2 x3 x4 w = some r → Rn g l D 228 5 [(0, .inr (.inr a0)), (1, .inl x1), (2, .inl x2), (3, .inl x3), (4, .inl x4)] [] w (some (.inl r.1)) r.2 := by
  obtain ⟨D, rfl⟩ : ∃ D1, D = D1 + 1 := ⟨D - 1, by omega⟩
  intro n
  induction n with
  | zero => intro a0 x1 x2 x3 x4 w r h; cases (show (none : Option (Int × Wd)) = some r from h)
  | succ n ih =>
    intro a0 x1 x2 x3 x4 w r h
    unfold Mo_copiedFrom_5 at h
    refine rn_iload i228_5 rfl ?_
    refine fr_aload_n i228_7 rfl ?_
    obtain ⟨v8, h8, h⟩ := Option.bind_eq_some_iff.mp h
    refine fr_gR (k := 23) i228_8 tf12_23 h8 ?_
    refine fr_aload_n i228_11 rfl ?_
    obtain ⟨v12, h12, h⟩ := Option.bind_eq_some_iff.mp h
    refine fr_gI (k := 18) i228_12 tf12_18 h12 ?_
    obtain ⟨v15, h15, h⟩ := Option.bind_eq_some_iff.mp h
    refine rn_iald i228_15 h15 ?_
    by_cases c16 : (v15 : Int) ≤ x4
    · rw [if_pos c16] at h
      refine rn_icmp_ge_t i228_16 c16 ?_
      refine rn_iload_n i228_53 rfl ?_
      obtain rfl := Option.some.inj h
      exact rn_retI i228_54 mr228
    · rw [if_neg c16] at h
      refine rn_icmp_ge_f i228_16 c16 ?_
      refine rn_iload_n i228_19 rfl ?_
      refine fr_aload_n i228_20 rfl ?_
      obtain ⟨v21, h21, h⟩ := Option.bind_eq_some_iff.mp h
      refine fr_gR (k := 49) i228_21 tf12_49 h21 ?_
      refine rn_bipush i228_24 ?_
      refine rn_bipush i228_26 ?_
      refine rn_iload_n i228_28 rfl ?_
      refine rn_imul i228_29 ?_
      refine rn_iadd i228_30 ?_
      refine rn_iload i228_31 rfl ?_
      refine rn_iadd i228_33 ?_
      obtain ⟨v34, h34, h⟩ := Option.bind_eq_some_iff.mp h
      refine rn_iald i228_34 h34 ?_
      refine fr_aload_n i228_35 rfl ?_
      refine rn_iload_n i228_36 rfl ?_
      refine rn_iload i228_37 rfl ?_
      obtain ⟨r39, h39, h⟩ := Option.bind_eq_some_iff.mp h
      obtain ⟨g39, c39⟩ := S_Mo_handIn a0 x2 x4 w r39 h39
      refine fr_callV (a := a0) (As := [.inl x2, .inl x4]) (st := [.inl v34, .inl x3]) i228_39 (cq229 a0 x2 x4) rfl (Nat.le_of_ble_eq_true rfl) g39 (c39 _ (by omega)) ?_
      show Rn _ _ _ _ _ _ [.inl r39.1, .inl v34, .inl x3] _ _ _
      obtain ⟨r42, h42, h⟩ := Option.bind_eq_some_iff.mp h
      refine fr_callS (nst := 0) (As := [.inl v34, .inl r39.1]) (st := [.inl x3]) i228_42 (cq191 v34 (r39.1)) rfl (Nat.le_of_ble_eq_true rfl) (S_Mo_apart v34 (r39.1) r39.2 r42 h42 _ (by omega)) ?_
      show Rn _ _ _ _ _ _ [.inl r42.1, .inl x3] _ _ _
      refine rn_iadd i228_45 ?_
      refine rn_istore_n (ls1 := [(3, .inl (w32 (x3 + r42.1))), (0, .inr (.inr a0)), (1, .inl x1), (2, .inl x2), (4, .inl x4)]) i228_46 rfl ?_
      refine rn_iinc (ls1 := [(4, .inl (w32 (x4 + 1))), (3, .inl (w32 (x3 + r42.1))), (0, .inr (.inr a0)), (1, .inl x1), (2, .inl x2)]) i228_47 rfl rfl ?_
      refine rn_goto i228_50 ?_
      exact rn_sub [2, 3, 4, 1, 0] rfl (ih a0 x1 x2 (w32 (x3 + r42.1)) (w32 (x4 + 1)) r42.2 r h)
def Mo_copiedFrom_0 (a0 : Nat) (x1 : Int) (x2 : Int) (w : Wd) : Option (Int × Wd) :=
  Mo_copiedFrom_5 FU a0 x1 x2 0 0 w
theorem s_Mo_copiedFrom_0 {g : Gp} {l : Launch} {D : Nat} (hD : 1 ≤ D) (a0 : Nat) (x1 : Int) (x2 : Int) (w : Wd) (r : Int × Wd) (h : Mo_copiedFrom_0 a0 x1 x2 w = some r) : Rn g l D 228 0 [(0, .inr (.inr a0)), (1, .inl x1), (2, .inl x2)] [] w (some (.inl r.1)) r.2 := by
  unfold Mo_copiedFrom_0 at h
  refine rn_iconst i228_0 ?_
  refine rn_istore_n (ls1 := [(3, .inl 0), (0, .inr (.inr a0)), (1, .inl x1), (2, .inl x2)]) i228_1 rfl ?_
  refine rn_iconst i228_2 ?_
  refine rn_istore (ls1 := [(4, .inl 0), (3, .inl 0), (0, .inr (.inr a0)), (1, .inl x1), (2, .inl x2)]) i228_3 rfl ?_
  exact rn_sub [2, 3, 4, 1, 0] rfl (s_Mo_copiedFrom_5 hD FU a0 x1 x2 0 0 w r h)
/-- HandHeirsModel.copiedFrom(II)I -/
def Mo_copiedFrom (a0 : Nat) (x1 : Int) (x2 : Int) (w : Wd) : Option (Int × Wd) := gd 12 w a0 (Mo_copiedFrom_0 a0 x1 x2 w)
theorem S_Mo_copiedFrom {g : Gp} {l : Launch} (a0 : Nat) (x1 : Int) (x2 : Int) (w : Wd) (r : Int × Wd) (h : Mo_copiedFrom a0 x1 x2 w = some r) : (wsh w a0).1 = 12 ∧ ∀ D, 1 ≤ D → Rn g l D 228 0 [(0, .inr (.inr a0)), (1, .inl x1), (2, .inl x2)] [] w (some (.inl r.1)) r.2 := by
  obtain ⟨hg, h⟩ := gd_some h
  exact ⟨hg, fun D hD => rn_sub [0, 1, 2] rfl (s_Mo_copiedFrom_0 hD a0 x1 x2 w r h)⟩
def Mo_copied_17 (w : Wd) : Option (Int × Wd) :=
  some ((-1), w)
theorem s_Mo_copied_17 {g : Gp} {l : Launch} {D : Nat} (hD : 2 ≤ D) (w : Wd) (r : Int × Wd) (h : Mo_copied_17 w = some r) : Rn g l D 230 17 [] [] w (some (.inl r.1)) r.2 := by
  unfold Mo_copied_17 at h
  refine rn_iconst i230_17 ?_
  obtain rfl := Option.some.inj h
  exact rn_retI i230_18 mr230
def Mo_copied_55 (k24 : Nat → Int → Int → Int → Int → Wd → Option (Int × Wd)) (a0 : Nat) (x1 : Int) (x2 : Int) (x3 : Int) (x4 : Int) (w : Wd) : Option (Int × Wd) :=
  k24 a0 x1 x2 x3 (w32 (x4 + 1)) w
theorem s_Mo_copied_55 {g : Gp} {l : Launch} {D : Nat} (hD : 2 ≤ D) (k24 : Nat → Int → Int → Int → Int → Wd → Option (Int × Wd)) (hk24 : ∀ (a0 : Nat) (x1 : Int) (x2 : Int) (x3 : Int) (x4 : Int) (w : Wd) (r : Int × Wd), k24 a0 x1 x2 x3 x4 w = some r → Rn g l D 230 24 [(0, .inr (.inr a0)), (1, .inl x1), (2, .inl x2), (3, .inl x3), (4, .inl x4)] [] w (some (.inl r.1)) r.2) (a0 : Nat) (x1 : Int) (x2 : Int) (x3 : Int) (x4 : Int) (w : Wd) (r : Int × Wd) (h : Mo_copied_55 k24 a0 x1 x2 x3 x4 w = some r) : Rn g l D 230 55 [(0, .inr (.inr a0)), (1, .inl x1), (2, .inl x2), (3, .inl x3), (4, .inl x4)] [] w (some (.inl r.1)) r.2 := by
  unfold Mo_copied_55 at h
  refine rn_iinc (ls1 := [(4, .inl (w32 (x4 + 1))), (0, .inr (.inr a0)), (1, .inl x1), (2, .inl x2), (3, .inl x3)]) i230_55 rfl rfl ?_
  refine rn_goto i230_58 ?_
  exact rn_sub [1, 2, 3, 4, 0] rfl (hk24 a0 x1 x2 x3 (w32 (x4 + 1)) w r h)
def Mo_copied_97 (s0 : Int) (w : Wd) : Option (Int × Wd) :=
  some (s0, w)
theorem s_Mo_copied_97 {g : Gp} {l : Launch} {D : Nat} (hD : 2 ≤ D) (s0 : Int) (w : Wd) (r : Int × Wd) (h : Mo_copied_97 s0 w = some r) : Rn g l D 230 97 [] [.inl s0] w (some (.inl r.1)) r.2 := by
  unfold Mo_copied_97 at h
  obtain rfl := Option.some.inj h
  exact rn_retI i230_97 mr230
def Mo_copied_61 (a0 : Nat) (x1 : Int) (x2 : Int) (x3 : Int) (w : Wd) : Option (Int × Wd) :=
  if (x2 : Int) = 1 then
    (Mo_copiedFrom a0 x1 x3 w).bind fun r69 =>
    Mo_copied_97 r69.1 r69.2
  else
    (fgR w a0 12 49).bind fun v77 =>
    (rdI w v77 45).bind fun v82 =>
    if (v82 : Int) ≤ x3 then
      (fgR w a0 12 49).bind fun v91 =>
      (rdI w v91 42).bind fun v96 =>
      Mo_copied_97 v96 w
    else
      Mo_copied_97 x3 w
theorem s_Mo_copied_61 {g : Gp} {l : Launch} {D : Nat} (hD : 2 ≤ D) (a0 : Nat) (x1 : Int) (x2 : Int) (x3 : Int) (w : Wd) (r : Int × Wd) (h : Mo_copied_61 a0 x1 x2 x3 w = some r) : Rn g l D 230 61 [(0, .inr (.inr a0)), (1, .inl x1), (2, .inl x2), (3, .inl x3)] [] w (some (.inl r.1)) r.2 := by
  obtain ⟨D, rfl⟩ : ∃ D1, D = D1 + 1 := ⟨D - 1, by omega⟩
  unfold Mo_copied_61 at h
  refine rn_iload_n i230_61 rfl ?_
  refine rn_iconst i230_62 ?_
  by_cases c63 : (x2 : Int) = 1
  · rw [if_pos c63] at h
    refine rn_icmp_ne_f i230_63 c63 ?_
    refine fr_aload_n i230_66 rfl ?_
    refine rn_iload_n i230_67 rfl ?_
    refine rn_iload_n i230_68 rfl ?_
    obtain ⟨r69, h69, h⟩ := Option.bind_eq_some_iff.mp h
    obtain ⟨g69, c69⟩ := S_Mo_copiedFrom a0 x1 x3 w r69 h69
    refine fr_callV (a := a0) (As := [.inl x1, .inl x3]) (st := []) i230_69 (cq228 a0 x1 x3) rfl (Nat.le_of_ble_eq_true rfl) g69 (c69 _ (by omega)) ?_
    show Rn _ _ _ _ _ _ [.inl r69.1] _ _ _
    refine rn_goto i230_72 ?_
    exact rn_sub [] rfl (s_Mo_copied_97 hD r69.1 r69.2 r h)
  · rw [if_neg c63] at h
    refine rn_icmp_ne_t i230_63 c63 ?_
    refine rn_iload_n i230_75 rfl ?_
    refine fr_aload_n i230_76 rfl ?_
    obtain ⟨v77, h77, h⟩ := Option.bind_eq_some_iff.mp h
    refine fr_gR (k := 49) i230_77 tf12_49 h77 ?_
    refine rn_bipush i230_80 ?_
    obtain ⟨v82, h82, h⟩ := Option.bind_eq_some_iff.mp h
    refine rn_iald i230_82 h82 ?_
    by_cases c83 : (v82 : Int) ≤ x3
    · rw [if_pos c83] at h
      refine rn_icmp_ge_t i230_83 c83 ?_
      refine fr_aload_n i230_90 rfl ?_
      obtain ⟨v91, h91, h⟩ := Option.bind_eq_some_iff.mp h
      refine fr_gR (k := 49) i230_91 tf12_49 h91 ?_
      refine rn_bipush i230_94 ?_
      obtain ⟨v96, h96, h⟩ := Option.bind_eq_some_iff.mp h
      refine rn_iald i230_96 h96 ?_
      exact rn_sub [] rfl (s_Mo_copied_97 hD v96 w r h)
    · rw [if_neg c83] at h
      refine rn_icmp_ge_f i230_83 c83 ?_
      refine rn_iload_n i230_86 rfl ?_
      refine rn_goto i230_87 ?_
      exact rn_sub [] rfl (s_Mo_copied_97 hD x3 w r h)
def Mo_copied_24 : Nat → Nat → Int → Int → Int → Int → Wd → Option (Int × Wd)
  | 0, _, _, _, _, _, _ => none
  | n + 1, a0, x1, x2, x3, x4, w =>
    (fgR w a0 12 49).bind fun v27 =>
    (rdI w v27 45).bind fun v32 =>
    if (v32 : Int) < x4 then
      Mo_copied_61 a0 x1 x2 x3 w
    else
      (Mo_copiedFrom a0 x1 x4 w).bind fun r40 =>
      (Mo_copiedFrom a0 x1 x3 r40.2).bind fun r46 =>
      if (r46.1 : Int) ≤ r40.1 then
        Mo_copied_55 (Mo_copied_24 n) a0 x1 x2 x3 x4 r46.2
      else
        Mo_copied_55 (Mo_copied_24 n) a0 x1 x2 x4 x4 r46.2
theorem s_Mo_copied_24 {g : Gp} {l : Launch} {D : Nat} (hD : 2 ≤ D) : ∀ (n : Nat) (a0 : Nat) (x1 : Int) (x2 : Int) (x3 : Int) (x4 : Int) (w : Wd) (r : Int × Wd), Mo_copied_24 n a0 x1 x2 x3 x4 w = some r → Rn g l D 230 24 [(0, .inr (.inr a0)), (1, .inl x1), (2, .inl x2), (3, .inl x3), (4, .inl x4)] [] w (some (.inl r.1)) r.2 := by
  obtain ⟨D, rfl⟩ : ∃ D1, D = D1 + 1 := ⟨D - 1, by omega⟩
  intro n
  induction n with
  | zero => intro a0 x1 x2 x3 x4 w r h; cases (show (none : Option (Int × Wd)) = some r from h)
  | succ n ih =>
    intro a0 x1 x2 x3 x4 w r h
    unfold Mo_copied_24 at h
    refine rn_iload i230_24 rfl ?_
    refine fr_aload_n i230_26 rfl ?_
    obtain ⟨v27, h27, h⟩ := Option.bind_eq_some_iff.mp h
    refine fr_gR (k := 49) i230_27 tf12_49 h27 ?_
    refine rn_bipush i230_30 ?_
    obtain ⟨v32, h32, h⟩ := Option.bind_eq_some_iff.mp h
    refine rn_iald i230_32 h32 ?_
    by_cases c33 : (v32 : Int) < x4
    · rw [if_pos c33] at h
      refine rn_icmp_gt_t i230_33 c33 ?_
      exact rn_sub [0, 1, 2, 3] rfl (s_Mo_copied_61 hD a0 x1 x2 x3 w r h)
    · rw [if_neg c33] at h
      refine rn_icmp_gt_f i230_33 c33 ?_
      refine fr_aload_n i230_36 rfl ?_
      refine rn_iload_n i230_37 rfl ?_
      refine rn_iload i230_38 rfl ?_
      obtain ⟨r40, h40, h⟩ := Option.bind_eq_some_iff.mp h
      obtain ⟨g40, c40⟩ := S_Mo_copiedFrom a0 x1 x4 w r40 h40
      refine fr_callV (a := a0) (As := [.inl x1, .inl x4]) (st := []) i230_40 (cq228 a0 x1 x4) rfl (Nat.le_of_ble_eq_true rfl) g40 (c40 _ (by omega)) ?_
      show Rn _ _ _ _ _ _ [.inl r40.1] _ _ _
      refine fr_aload_n i230_43 rfl ?_
      refine rn_iload_n i230_44 rfl ?_
      refine rn_iload_n i230_45 rfl ?_
      obtain ⟨r46, h46, h⟩ := Option.bind_eq_some_iff.mp h
      obtain ⟨g46, c46⟩ := S_Mo_copiedFrom a0 x1 x3 r40.2 r46 h46
      refine fr_callV (a := a0) (As := [.inl x1, .inl x3]) (st := [.inl r40.1]) i230_46 (cq228 a0 x1 x3) rfl (Nat.le_of_ble_eq_true rfl) g46 (c46 _ (by omega)) ?_
      show Rn _ _ _ _ _ _ [.inl r46.1, .inl r40.1] _ _ _
      by_cases c49 : (r46.1 : Int) ≤ r40.1
      · rw [if_pos c49] at h
        refine rn_icmp_ge_t i230_49 c49 ?_
        exact rn_sub [0, 1, 2, 3, 4] rfl (s_Mo_copied_55 hD (Mo_copied_24 n) ih a0 x1 x2 x3 x4 r46.2 r h)
      · rw [if_neg c49] at h
        refine rn_icmp_ge_f i230_49 c49 ?_
        refine rn_iload i230_52 rfl ?_
        refine rn_istore_n (ls1 := [(3, .inl x4), (0, .inr (.inr a0)), (1, .inl x1), (2, .inl x2), (4, .inl x4)]) i230_54 rfl ?_
        exact rn_sub [1, 2, 3, 0, 4] rfl (s_Mo_copied_55 hD (Mo_copied_24 n) ih a0 x1 x2 x4 x4 r46.2 r h)
def Mo_copied_0 (a0 : Nat) (x1 : Int) (x2 : Int) (w : Wd) : Option (Int × Wd) :=
  (Mo_isHeir a0 x1 w).bind fun r2 =>
  if (r2.1 : Int) = 0 then
    Mo_copied_17 r2.2
  else
    (Mo_in x2 0 1 r2.2).bind fun r11 =>
    if (r11.1 : Int) = 0 then
      Mo_copied_17 r11.2
    else
      Mo_copied_24 FU a0 x1 x2 0 1 r11.2
theorem s_Mo_copied_0 {g : Gp} {l : Launch} {D : Nat} (hD : 2 ≤ D) (a0 : Nat) (x1 : Int) (x2 : Int) (w : Wd) (r : Int × Wd) (h : Mo_copied_0 a0 x1 x2 w = some r) : Rn g l D 230 0 [(0, .inr (.inr a0)), (1, .inl x1), (2, .inl x2)] [] w (some (.inl r.1)) r.2 := by
  obtain ⟨D, rfl⟩ : ∃ D1, D = D1 + 1 := ⟨D - 1, by omega⟩
  unfold Mo_copied_0 at h
  refine fr_aload_n i230_0 rfl ?_
  refine rn_iload_n i230_1 rfl ?_
  obtain ⟨r2, h2, h⟩ := Option.bind_eq_some_iff.mp h
  obtain ⟨g2, c2⟩ := S_Mo_isHeir a0 x1 w r2 h2
  refine fr_callV (a := a0) (As := [.inl x1]) (st := []) i230_2 (cq183 a0 x1) rfl (Nat.le_of_ble_eq_true rfl) g2 (c2 _ (by omega)) ?_
  show Rn _ _ _ _ _ _ [.inl r2.1] _ _ _
  by_cases c5 : (r2.1 : Int) = 0
  · rw [if_pos c5] at h
    refine rn_if_eq_t i230_5 c5 ?_
    exact rn_sub [] rfl (s_Mo_copied_17 hD r2.2 r h)
  · rw [if_neg c5] at h
    refine rn_if_eq_f i230_5 c5 ?_
    refine rn_iload_n i230_8 rfl ?_
    refine rn_iconst i230_9 ?_
    refine rn_iconst i230_10 ?_
    obtain ⟨r11, h11, h⟩ := Option.bind_eq_some_iff.mp h
    refine fr_callS (nst := 0) (As := [.inl x2, .inl 0, .inl 1]) (st := []) i230_11 (cq181 x2 0 1) rfl (Nat.le_of_ble_eq_true rfl) (S_Mo_in x2 0 1 r2.2 r11 h11 _ (by omega)) ?_
    show Rn _ _ _ _ _ _ [.inl r11.1] _ _ _
    by_cases c14 : (r11.1 : Int) = 0
    · rw [if_pos c14] at h
      refine rn_if_ne_f i230_14 c14 ?_
      exact rn_sub [] rfl (s_Mo_copied_17 hD r11.2 r h)
    · rw [if_neg c14] at h
      refine rn_if_ne_t i230_14 c14 ?_
      refine rn_iconst i230_19 ?_
      refine rn_istore_n (ls1 := [(3, .inl 0), (0, .inr (.inr a0)), (1, .inl x1), (2, .inl x2)]) i230_20 rfl ?_
      refine rn_iconst i230_21 ?_
      refine rn_istore (ls1 := [(4, .inl 1), (3, .inl 0), (0, .inr (.inr a0)), (1, .inl x1), (2, .inl x2)]) i230_22 rfl ?_
      exact rn_sub [2, 3, 4, 1, 0] rfl (s_Mo_copied_24 hD FU a0 x1 x2 0 1 r11.2 r h)
/-- HandHeirsModel.copied(II)I -/
def Mo_copied (a0 : Nat) (x1 : Int) (x2 : Int) (w : Wd) : Option (Int × Wd) := gd 12 w a0 (Mo_copied_0 a0 x1 x2 w)
theorem S_Mo_copied {g : Gp} {l : Launch} (a0 : Nat) (x1 : Int) (x2 : Int) (w : Wd) (r : Int × Wd) (h : Mo_copied a0 x1 x2 w = some r) : (wsh w a0).1 = 12 ∧ ∀ D, 2 ≤ D → Rn g l D 230 0 [(0, .inr (.inr a0)), (1, .inl x1), (2, .inl x2)] [] w (some (.inl r.1)) r.2 := by
  obtain ⟨hg, h⟩ := gd_some h
  exact ⟨hg, fun D hD => rn_sub [0, 1, 2] rfl (s_Mo_copied_0 hD a0 x1 x2 w r h)⟩
def Mo_nobody_6 : Nat → Nat → Int → Wd → Option (Int × Wd)
  | 0, _, _, _ => none
  | n + 1, a0, x1, w =>
    if (200 : Int) < x1 then
      some ((-2), w)
    else
      (Mo_yearGoes a0 w).bind fun r14 =>
      (fgR r14 a0 12 50).bind fun v18 =>
      (rdI r14 v18 43).bind fun v23 =>
      if (0 : Int) ≤ v23 then
        Mo_nobody_6 n a0 (w32 (x1 + 1)) r14
      else
        some (x1, r14)
theorem s_Mo_nobody_6 {g : Gp} {l : Launch} {D : Nat} (hD : 7 ≤ D) : ∀ (n : Nat) (a0 : Nat) (x1 : Int) (w : Wd) (r : Int × Wd), Mo_nobody_6 n a0 x1 w = some r → Rn g l D 231 6 [(0, .inr (.inr a0)), (1, .inl x1)] [] w (some (.inl r.1)) r.2 := by
  obtain ⟨D, rfl⟩ : ∃ D1, D = D1 + 1 := ⟨D - 1, by omega⟩
  intro n
  induction n with
  | zero => intro a0 x1 w r h; cases (show (none : Option (Int × Wd)) = some r from h)
  | succ n ih =>
    intro a0 x1 w r h
    unfold Mo_nobody_6 at h
    refine rn_iload_n i231_6 rfl ?_
    refine rn_sipush i231_7 ?_
    by_cases c10 : (200 : Int) < x1
    · rw [if_pos c10] at h
      refine rn_icmp_gt_t i231_10 c10 ?_
      refine rn_bipush i231_35 ?_
      obtain rfl := Option.some.inj h
      exact rn_retI i231_37 mr231
    · rw [if_neg c10] at h
      refine rn_icmp_gt_f i231_10 c10 ?_
      refine fr_aload_n i231_13 rfl ?_
      obtain ⟨r14, h14, h⟩ := Option.bind_eq_some_iff.mp h
      obtain ⟨g14, c14⟩ := S_Mo_yearGoes a0 w r14 h14
      refine fr_callV (a := a0) (As := []) (st := []) i231_14 (cq203 a0) rfl (Nat.le_of_ble_eq_true rfl) g14 (c14 _ (by omega)) ?_
      refine fr_aload_n i231_17 rfl ?_
      obtain ⟨v18, h18, h⟩ := Option.bind_eq_some_iff.mp h
      refine fr_gR (k := 50) i231_18 tf12_50 h18 ?_
      refine rn_bipush i231_21 ?_
      obtain ⟨v23, h23, h⟩ := Option.bind_eq_some_iff.mp h
      refine rn_iald i231_23 h23 ?_
      by_cases c24 : (0 : Int) ≤ v23
      · rw [if_pos c24] at h
        refine rn_if_ge_t i231_24 c24 ?_
        refine rn_iinc (ls1 := [(1, .inl (w32 (x1 + 1))), (0, .inr (.inr a0))]) i231_29 rfl rfl ?_
        refine rn_goto i231_32 ?_
        exact rn_sub [1, 0] rfl (ih a0 (w32 (x1 + 1)) r14 r h)
      · rw [if_neg c24] at h
        refine rn_if_ge_f i231_24 c24 ?_
        refine rn_iload_n i231_27 rfl ?_
        obtain rfl := Option.some.inj h
        exact rn_retI i231_28 mr231
def Mo_nobody_0 (a0 : Nat) (w : Wd) : Option (Int × Wd) :=
  (Mo_copies a0 w).bind fun r1 =>
  Mo_nobody_6 FU a0 1 r1
theorem s_Mo_nobody_0 {g : Gp} {l : Launch} {D : Nat} (hD : 7 ≤ D) (a0 : Nat) (w : Wd) (r : Int × Wd) (h : Mo_nobody_0 a0 w = some r) : Rn g l D 231 0 [(0, .inr (.inr a0))] [] w (some (.inl r.1)) r.2 := by
  obtain ⟨D, rfl⟩ : ∃ D1, D = D1 + 1 := ⟨D - 1, by omega⟩
  unfold Mo_nobody_0 at h
  refine fr_aload_n i231_0 rfl ?_
  obtain ⟨r1, h1, h⟩ := Option.bind_eq_some_iff.mp h
  obtain ⟨g1, c1⟩ := S_Mo_copies a0 w r1 h1
  refine fr_callV (a := a0) (As := []) (st := []) i231_1 (cq187 a0) rfl (Nat.le_of_ble_eq_true rfl) g1 (c1 _ (by omega)) ?_
  refine rn_iconst i231_4 ?_
  refine rn_istore_n (ls1 := [(1, .inl 1), (0, .inr (.inr a0))]) i231_5 rfl ?_
  exact rn_sub [1, 0] rfl (s_Mo_nobody_6 hD FU a0 1 r1 r h)
/-- HandHeirsModel.nobody()I -/
def Mo_nobody (a0 : Nat) (w : Wd) : Option (Int × Wd) := gd 12 w a0 (Mo_nobody_0 a0 w)
theorem S_Mo_nobody {g : Gp} {l : Launch} (a0 : Nat) (w : Wd) (r : Int × Wd) (h : Mo_nobody a0 w = some r) : (wsh w a0).1 = 12 ∧ ∀ D, 7 ≤ D → Rn g l D 231 0 [(0, .inr (.inr a0))] [] w (some (.inl r.1)) r.2 := by
  obtain ⟨hg, h⟩ := gd_some h
  exact ⟨hg, fun D hD => rn_sub [0] rfl (s_Mo_nobody_0 hD a0 w r h)⟩
def Mo_tell_27 (w : Wd) : Option (Int × Wd) :=
  some ((-1), w)
theorem s_Mo_tell_27 {g : Gp} {l : Launch} {D : Nat} (hD : 2 ≤ D) (w : Wd) (r : Int × Wd) (h : Mo_tell_27 w = some r) : Rn g l D 232 27 [] [] w (some (.inl r.1)) r.2 := by
  unfold Mo_tell_27 at h
  refine rn_iconst i232_27 ?_
  obtain rfl := Option.some.inj h
  exact rn_retI i232_28 mr232
def Mo_tell_0 (a0 : Nat) (x1 : Int) (x2 : Int) (w : Wd) : Option (Int × Wd) :=
  (fgI w a0 12 63).bind fun v1 =>
  if (v1 : Int) = 20 then
    Mo_tell_27 w
  else
    (Mo_isLetterAt a0 x1 w).bind fun r11 =>
    if (r11.1 : Int) = 0 then
      Mo_tell_27 r11.2
    else
      (Mo_in x2 0 99 r11.2).bind fun r21 =>
      if (r21.1 : Int) = 0 then
        Mo_tell_27 r21.2
      else
        (fgR r21.2 a0 12 64).bind fun v30 =>
        (fgI r21.2 a0 12 63).bind fun v34 =>
        (wrI r21.2 v30 v34 x1).bind fun w38 =>
        (fgR w38 a0 12 65).bind fun v40 =>
        (fgI w38 a0 12 63).bind fun v44 =>
        (wrI w38 v40 v44 x2).bind fun w48 =>
        (fgI w48 a0 12 63).bind fun v51 =>
        (fpI w48 a0 12 63 (w32 (v51 + 1))).bind fun w56 =>
        (fgI w56 a0 12 63).bind fun v60 =>
        some ((w32 (v60 - 1)), w56)
theorem s_Mo_tell_0 {g : Gp} {l : Launch} {D : Nat} (hD : 2 ≤ D) (a0 : Nat) (x1 : Int) (x2 : Int) (w : Wd) (r : Int × Wd) (h : Mo_tell_0 a0 x1 x2 w = some r) : Rn g l D 232 0 [(0, .inr (.inr a0)), (1, .inl x1), (2, .inl x2)] [] w (some (.inl r.1)) r.2 := by
  obtain ⟨D, rfl⟩ : ∃ D1, D = D1 + 1 := ⟨D - 1, by omega⟩
  unfold Mo_tell_0 at h
  refine fr_aload_n i232_0 rfl ?_
  obtain ⟨v1, h1, h⟩ := Option.bind_eq_some_iff.mp h
  refine fr_gI (k := 63) i232_1 tf12_63 h1 ?_
  refine rn_bipush i232_4 ?_
  by_cases c6 : (v1 : Int) = 20
  · rw [if_pos c6] at h
    refine rn_icmp_eq_t i232_6 c6 ?_
    exact rn_sub [] rfl (s_Mo_tell_27 hD w r h)
  · rw [if_neg c6] at h
    refine rn_icmp_eq_f i232_6 c6 ?_
    refine fr_aload_n i232_9 rfl ?_
    refine rn_iload_n i232_10 rfl ?_
    obtain ⟨r11, h11, h⟩ := Option.bind_eq_some_iff.mp h
    obtain ⟨g11, c11⟩ := S_Mo_isLetterAt a0 x1 w r11 h11
    refine fr_callV (a := a0) (As := [.inl x1]) (st := []) i232_11 (cq182 a0 x1) rfl (Nat.le_of_ble_eq_true rfl) g11 (c11 _ (by omega)) ?_
    show Rn _ _ _ _ _ _ [.inl r11.1] _ _ _
    by_cases c14 : (r11.1 : Int) = 0
    · rw [if_pos c14] at h
      refine rn_if_eq_t i232_14 c14 ?_
      exact rn_sub [] rfl (s_Mo_tell_27 hD r11.2 r h)
    · rw [if_neg c14] at h
      refine rn_if_eq_f i232_14 c14 ?_
      refine rn_iload_n i232_17 rfl ?_
      refine rn_iconst i232_18 ?_
      refine rn_bipush i232_19 ?_
      obtain ⟨r21, h21, h⟩ := Option.bind_eq_some_iff.mp h
      refine fr_callS (nst := 0) (As := [.inl x2, .inl 0, .inl 99]) (st := []) i232_21 (cq181 x2 0 99) rfl (Nat.le_of_ble_eq_true rfl) (S_Mo_in x2 0 99 r11.2 r21 h21 _ (by omega)) ?_
      show Rn _ _ _ _ _ _ [.inl r21.1] _ _ _
      by_cases c24 : (r21.1 : Int) = 0
      · rw [if_pos c24] at h
        refine rn_if_ne_f i232_24 c24 ?_
        exact rn_sub [] rfl (s_Mo_tell_27 hD r21.2 r h)
      · rw [if_neg c24] at h
        refine rn_if_ne_t i232_24 c24 ?_
        refine fr_aload_n i232_29 rfl ?_
        obtain ⟨v30, h30, h⟩ := Option.bind_eq_some_iff.mp h
        refine fr_gR (k := 64) i232_30 tf12_64 h30 ?_
        refine fr_aload_n i232_33 rfl ?_
        obtain ⟨v34, h34, h⟩ := Option.bind_eq_some_iff.mp h
        refine fr_gI (k := 63) i232_34 tf12_63 h34 ?_
        refine rn_iload_n i232_37 rfl ?_
        obtain ⟨w38, h38, h⟩ := Option.bind_eq_some_iff.mp h
        refine rn_iast i232_38 h38 ?_
        refine fr_aload_n i232_39 rfl ?_
        obtain ⟨v40, h40, h⟩ := Option.bind_eq_some_iff.mp h
        refine fr_gR (k := 65) i232_40 tf12_65 h40 ?_
        refine fr_aload_n i232_43 rfl ?_
        obtain ⟨v44, h44, h⟩ := Option.bind_eq_some_iff.mp h
        refine fr_gI (k := 63) i232_44 tf12_63 h44 ?_
        refine rn_iload_n i232_47 rfl ?_
        obtain ⟨w48, h48, h⟩ := Option.bind_eq_some_iff.mp h
        refine rn_iast i232_48 h48 ?_
        refine fr_aload_n i232_49 rfl ?_
        refine rn_dup i232_50 rfl ?_
        obtain ⟨v51, h51, h⟩ := Option.bind_eq_some_iff.mp h
        refine fr_gI (k := 63) i232_51 tf12_63 h51 ?_
        refine rn_iconst i232_54 ?_
        refine rn_iadd i232_55 ?_
        obtain ⟨w56, h56, h⟩ := Option.bind_eq_some_iff.mp h
        refine fr_pI (k := 63) i232_56 (pf12_63 232) h56 ?_
        refine fr_aload_n i232_59 rfl ?_
        obtain ⟨v60, h60, h⟩ := Option.bind_eq_some_iff.mp h
        refine fr_gI (k := 63) i232_60 tf12_63 h60 ?_
        refine rn_iconst i232_63 ?_
        refine rn_isub i232_64 ?_
        obtain rfl := Option.some.inj h
        exact rn_retI i232_65 mr232
/-- HandHeirsModel.tell(II)I -/
def Mo_tell (a0 : Nat) (x1 : Int) (x2 : Int) (w : Wd) : Option (Int × Wd) := gd 12 w a0 (Mo_tell_0 a0 x1 x2 w)
theorem S_Mo_tell {g : Gp} {l : Launch} (a0 : Nat) (x1 : Int) (x2 : Int) (w : Wd) (r : Int × Wd) (h : Mo_tell a0 x1 x2 w = some r) : (wsh w a0).1 = 12 ∧ ∀ D, 2 ≤ D → Rn g l D 232 0 [(0, .inr (.inr a0)), (1, .inl x1), (2, .inl x2)] [] w (some (.inl r.1)) r.2 := by
  obtain ⟨hg, h⟩ := gd_some h
  exact ⟨hg, fun D hD => rn_sub [0, 1, 2] rfl (s_Mo_tell_0 hD a0 x1 x2 w r h)⟩
def Mo_forget_0 (a0 : Nat) (w : Wd) : Option (Int × Wd) :=
  (fgI w a0 12 63).bind fun v1 =>
  (fpI w a0 12 63 0).bind fun w7 =>
  some (v1, w7)
theorem s_Mo_forget_0 {g : Gp} {l : Launch} {D : Nat} (hD : 0 ≤ D) (a0 : Nat) (w : Wd) (r : Int × Wd) (h : Mo_forget_0 a0 w = some r) : Rn g l D 233 0 [(0, .inr (.inr a0))] [] w (some (.inl r.1)) r.2 := by
  unfold Mo_forget_0 at h
  refine fr_aload_n i233_0 rfl ?_
  obtain ⟨v1, h1, h⟩ := Option.bind_eq_some_iff.mp h
  refine fr_gI (k := 63) i233_1 tf12_63 h1 ?_
  refine rn_istore_n (ls1 := [(1, .inl v1), (0, .inr (.inr a0))]) i233_4 rfl ?_
  refine fr_aload_n i233_5 rfl ?_
  refine rn_iconst i233_6 ?_
  obtain ⟨w7, h7, h⟩ := Option.bind_eq_some_iff.mp h
  refine fr_pI (k := 63) i233_7 (pf12_63 233) h7 ?_
  refine rn_iload_n i233_10 rfl ?_
  obtain rfl := Option.some.inj h
  exact rn_retI i233_11 mr233
/-- HandHeirsModel.forget()I -/
def Mo_forget (a0 : Nat) (w : Wd) : Option (Int × Wd) := gd 12 w a0 (Mo_forget_0 a0 w)
theorem S_Mo_forget {g : Gp} {l : Launch} (a0 : Nat) (w : Wd) (r : Int × Wd) (h : Mo_forget a0 w = some r) : (wsh w a0).1 = 12 ∧ ∀ D, 0 ≤ D → Rn g l D 233 0 [(0, .inr (.inr a0))] [] w (some (.inl r.1)) r.2 := by
  obtain ⟨hg, h⟩ := gd_some h
  exact ⟨hg, fun D hD => rn_sub [0] rfl (s_Mo_forget_0 hD a0 w r h)⟩
def Mo_isDated_3 : Nat → Nat → Int → Int → Int → Int → Wd → Option (Int × Wd)
  | 0, _, _, _, _, _, _ => none
  | n + 1, a0, x1, x2, x3, x4, w =>
    if (x3 : Int) ≤ x4 then
      some (1, w)
    else
      (fgR w a0 12 64).bind fun v12 =>
      (rdI w v12 x4).bind fun v17 =>
      (Mo_handIn a0 x1 v17 w).bind fun r18 =>
      (fgR r18.2 a0 12 65).bind fun v22 =>
      (rdI r18.2 v22 x4).bind fun v27 =>
      (Mo_apart (r18.1) v27 r18.2).bind fun r28 =>
      if (r28.1 : Int) ≤ x2 then
        Mo_isDated_3 n a0 x1 x2 x3 (w32 (x4 + 1)) r28.2
      else
        some (0, r28.2)
theorem s_Mo_isDated_3 {g : Gp} {l : Launch} {D : Nat} (hD : 1 ≤ D) : ∀ (n : Nat) (a0 : Nat) (x1 : Int) (x2 : Int) (x3 : Int) (x4 : Int) (w : Wd) (r : Int × Wd), Mo_isDated_3 n a0 x1 x2 x3 x4 w = some r → Rn g l D 234 3 [(0, .inr (.inr a0)), (1, .inl x1), (2, .inl x2), (3, .inl x3), (4, .inl x4)] [] w (some (.inl r.1)) r.2 := by
  obtain ⟨D, rfl⟩ : ∃ D1, D = D1 + 1 := ⟨D - 1, by omega⟩
  intro n
  induction n with
  | zero => intro a0 x1 x2 x3 x4 w r h; cases (show (none : Option (Int × Wd)) = some r from h)
  | succ n ih =>
    intro a0 x1 x2 x3 x4 w r h
    unfold Mo_isDated_3 at h
    refine rn_iload i234_3 rfl ?_
    refine rn_iload_n i234_5 rfl ?_
    by_cases c6 : (x3 : Int) ≤ x4
    · rw [if_pos c6] at h
      refine rn_icmp_ge_t i234_6 c6 ?_
      refine rn_iconst i234_43 ?_
      obtain rfl := Option.some.inj h
      exact rn_retZ i234_44 mr234 (by decide)
    · rw [if_neg c6] at h
      refine rn_icmp_ge_f i234_6 c6 ?_
      refine fr_aload_n i234_9 rfl ?_
      refine rn_iload_n i234_10 rfl ?_
      refine fr_aload_n i234_11 rfl ?_
      obtain ⟨v12, h12, h⟩ := Option.bind_eq_some_iff.mp h
      refine fr_gR (k := 64) i234_12 tf12_64 h12 ?_
      refine rn_iload i234_15 rfl ?_
      obtain ⟨v17, h17, h⟩ := Option.bind_eq_some_iff.mp h
      refine rn_iald i234_17 h17 ?_
      obtain ⟨r18, h18, h⟩ := Option.bind_eq_some_iff.mp h
      obtain ⟨g18, c18⟩ := S_Mo_handIn a0 x1 v17 w r18 h18
      refine fr_callV (a := a0) (As := [.inl x1, .inl v17]) (st := []) i234_18 (cq229 a0 x1 v17) rfl (Nat.le_of_ble_eq_true rfl) g18 (c18 _ (by omega)) ?_
      show Rn _ _ _ _ _ _ [.inl r18.1] _ _ _
      refine fr_aload_n i234_21 rfl ?_
      obtain ⟨v22, h22, h⟩ := Option.bind_eq_some_iff.mp h
      refine fr_gR (k := 65) i234_22 tf12_65 h22 ?_
      refine rn_iload i234_25 rfl ?_
      obtain ⟨v27, h27, h⟩ := Option.bind_eq_some_iff.mp h
      refine rn_iald i234_27 h27 ?_
      obtain ⟨r28, h28, h⟩ := Option.bind_eq_some_iff.mp h
      refine fr_callS (nst := 0) (As := [.inl r18.1, .inl v27]) (st := []) i234_28 (cq191 (r18.1) v27) rfl (Nat.le_of_ble_eq_true rfl) (S_Mo_apart (r18.1) v27 r18.2 r28 h28 _ (by omega)) ?_
      show Rn _ _ _ _ _ _ [.inl r28.1] _ _ _
      refine rn_iload_n i234_31 rfl ?_
      by_cases c32 : (r28.1 : Int) ≤ x2
      · rw [if_pos c32] at h
        refine rn_icmp_le_t i234_32 c32 ?_
        refine rn_iinc (ls1 := [(4, .inl (w32 (x4 + 1))), (0, .inr (.inr a0)), (1, .inl x1), (2, .inl x2), (3, .inl x3)]) i234_37 rfl rfl ?_
        refine rn_goto i234_40 ?_
        exact rn_sub [1, 2, 3, 4, 0] rfl (ih a0 x1 x2 x3 (w32 (x4 + 1)) r28.2 r h)
      · rw [if_neg c32] at h
        refine rn_icmp_le_f i234_32 c32 ?_
        refine rn_iconst i234_35 ?_
        obtain rfl := Option.some.inj h
        exact rn_retZ i234_36 mr234 (by decide)
def Mo_isDated_0 (a0 : Nat) (x1 : Int) (x2 : Int) (x3 : Int) (w : Wd) : Option (Int × Wd) :=
  Mo_isDated_3 FU a0 x1 x2 x3 0 w
theorem s_Mo_isDated_0 {g : Gp} {l : Launch} {D : Nat} (hD : 1 ≤ D) (a0 : Nat) (x1 : Int) (x2 : Int) (x3 : Int) (w : Wd) (r : Int × Wd) (h : Mo_isDated_0 a0 x1 x2 x3 w = some r) : Rn g l D 234 0 [(0, .inr (.inr a0)), (1, .inl x1), (2, .inl x2), (3, .inl x3)] [] w (some (.inl r.1)) r.2 := by
  unfold Mo_isDated_0 at h
  refine rn_iconst i234_0 ?_
  refine rn_istore (ls1 := [(4, .inl 0), (0, .inr (.inr a0)), (1, .inl x1), (2, .inl x2), (3, .inl x3)]) i234_1 rfl ?_
  exact rn_sub [1, 2, 3, 4, 0] rfl (s_Mo_isDated_3 hD FU a0 x1 x2 x3 0 w r h)
/-- HandHeirsModel.isDated(III)Z -/
def Mo_isDated (a0 : Nat) (x1 : Int) (x2 : Int) (x3 : Int) (w : Wd) : Option (Int × Wd) := gd 12 w a0 (Mo_isDated_0 a0 x1 x2 x3 w)
theorem S_Mo_isDated {g : Gp} {l : Launch} (a0 : Nat) (x1 : Int) (x2 : Int) (x3 : Int) (w : Wd) (r : Int × Wd) (h : Mo_isDated a0 x1 x2 x3 w = some r) : (wsh w a0).1 = 12 ∧ ∀ D, 1 ≤ D → Rn g l D 234 0 [(0, .inr (.inr a0)), (1, .inl x1), (2, .inl x2), (3, .inl x3)] [] w (some (.inl r.1)) r.2 := by
  obtain ⟨hg, h⟩ := gd_some h
  exact ⟨hg, fun D hD => rn_sub [0, 1, 2, 3] rfl (s_Mo_isDated_0 hD a0 x1 x2 x3 w r h)⟩
def Mo_dated_27 (w : Wd) : Option (Int × Wd) :=
  some ((-1), w)
theorem s_Mo_dated_27 {g : Gp} {l : Launch} {D : Nat} (hD : 2 ≤ D) (w : Wd) (r : Int × Wd) (h : Mo_dated_27 w = some r) : Rn g l D 235 27 [] [] w (some (.inl r.1)) r.2 := by
  unfold Mo_dated_27 at h
  refine rn_iconst i235_27 ?_
  obtain rfl := Option.some.inj h
  exact rn_retI i235_28 mr235
def Mo_dated_91 (s0 : Int) (w : Wd) : Option (Int × Wd) :=
  some (s0, w)
theorem s_Mo_dated_91 {g : Gp} {l : Launch} {D : Nat} (hD : 2 ≤ D) (s0 : Int) (w : Wd) (r : Int × Wd) (h : Mo_dated_91 s0 w = some r) : Rn g l D 235 91 [] [.inl s0] w (some (.inl r.1)) r.2 := by
  unfold Mo_dated_91 at h
  obtain rfl := Option.some.inj h
  exact rn_retI i235_91 mr235
def Mo_dated_67 (a0 : Nat) (x5 : Int) (w : Wd) : Option (Int × Wd) :=
  (fgR w a0 12 49).bind fun v70 =>
  (rdI w v70 45).bind fun v75 =>
  if (v75 : Int) ≤ x5 then
    (fgR w a0 12 49).bind fun v85 =>
    (rdI w v85 42).bind fun v90 =>
    Mo_dated_91 v90 w
  else
    Mo_dated_91 x5 w
theorem s_Mo_dated_67 {g : Gp} {l : Launch} {D : Nat} (hD : 2 ≤ D) (a0 : Nat) (x5 : Int) (w : Wd) (r : Int × Wd) (h : Mo_dated_67 a0 x5 w = some r) : Rn g l D 235 67 [(0, .inr (.inr a0)), (5, .inl x5)] [] w (some (.inl r.1)) r.2 := by
  unfold Mo_dated_67 at h
  refine rn_iload i235_67 rfl ?_
  refine fr_aload_n i235_69 rfl ?_
  obtain ⟨v70, h70, h⟩ := Option.bind_eq_some_iff.mp h
  refine fr_gR (k := 49) i235_70 tf12_49 h70 ?_
  refine rn_bipush i235_73 ?_
  obtain ⟨v75, h75, h⟩ := Option.bind_eq_some_iff.mp h
  refine rn_iald i235_75 h75 ?_
  by_cases c76 : (v75 : Int) ≤ x5
  · rw [if_pos c76] at h
    refine rn_icmp_ge_t i235_76 c76 ?_
    refine fr_aload_n i235_84 rfl ?_
    obtain ⟨v85, h85, h⟩ := Option.bind_eq_some_iff.mp h
    refine fr_gR (k := 49) i235_85 tf12_49 h85 ?_
    refine rn_bipush i235_88 ?_
    obtain ⟨v90, h90, h⟩ := Option.bind_eq_some_iff.mp h
    refine rn_iald i235_90 h90 ?_
    exact rn_sub [] rfl (s_Mo_dated_91 hD v90 w r h)
  · rw [if_neg c76] at h
    refine rn_icmp_ge_f i235_76 c76 ?_
    refine rn_iload i235_79 rfl ?_
    refine rn_goto i235_81 ?_
    exact rn_sub [] rfl (s_Mo_dated_91 hD x5 w r h)
def Mo_dated_95 (k35 : Nat → Int → Int → Int → Int → Int → Wd → Option (Int × Wd)) (a0 : Nat) (x1 : Int) (x2 : Int) (x3 : Int) (x4 : Int) (x5 : Int) (w : Wd) : Option (Int × Wd) :=
  k35 a0 x1 x2 x3 x4 (w32 (x5 + 1)) w
theorem s_Mo_dated_95 {g : Gp} {l : Launch} {D : Nat} (hD : 2 ≤ D) (k35 : Nat → Int → Int → Int → Int → Int → Wd → Option (Int × Wd)) (hk35 : ∀ (a0 : Nat) (x1 : Int) (x2 : Int) (x3 : Int) (x4 : Int) (x5 : Int) (w : Wd) (r : Int × Wd), k35 a0 x1 x2 x3 x4 x5 w = some r → Rn g l D 235 35 [(0, .inr (.inr a0)), (1, .inl x1), (2, .inl x2), (3, .inl x3), (4, .inl x4), (5, .inl x5)] [] w (some (.inl r.1)) r.2) (a0 : Nat) (x1 : Int) (x2 : Int) (x3 : Int) (x4 : Int) (x5 : Int) (w : Wd) (r : Int × Wd) (h : Mo_dated_95 k35 a0 x1 x2 x3 x4 x5 w = some r) : Rn g l D 235 95 [(0, .inr (.inr a0)), (1, .inl x1), (2, .inl x2), (3, .inl x3), (4, .inl x4), (5, .inl x5)] [] w (some (.inl r.1)) r.2 := by
  unfold Mo_dated_95 at h
  refine rn_iinc (ls1 := [(5, .inl (w32 (x5 + 1))), (0, .inr (.inr a0)), (1, .inl x1), (2, .inl x2), (3, .inl x3), (4, .inl x4)]) i235_95 rfl rfl ?_
  refine rn_goto i235_98 ?_
  exact rn_sub [1, 2, 3, 4, 5, 0] rfl (hk35 a0 x1 x2 x3 x4 (w32 (x5 + 1)) w r h)
def Mo_dated_112 (s0 : Int) (w : Wd) : Option (Int × Wd) :=
  some (s0, w)
theorem s_Mo_dated_112 {g : Gp} {l : Launch} {D : Nat} (hD : 2 ≤ D) (s0 : Int) (w : Wd) (r : Int × Wd) (h : Mo_dated_112 s0 w = some r) : Rn g l D 235 112 [] [.inl s0] w (some (.inl r.1)) r.2 := by
  unfold Mo_dated_112 at h
  obtain rfl := Option.some.inj h
  exact rn_retI i235_112 mr235
def Mo_dated_101 (x3 : Int) (x4 : Int) (w : Wd) : Option (Int × Wd) :=
  if (x3 : Int) = (-1) then
    Mo_dated_112 x4 w
  else
    Mo_dated_112 (-1) w
theorem s_Mo_dated_101 {g : Gp} {l : Launch} {D : Nat} (hD : 2 ≤ D) (x3 : Int) (x4 : Int) (w : Wd) (r : Int × Wd) (h : Mo_dated_101 x3 x4 w = some r) : Rn g l D 235 101 [(3, .inl x3), (4, .inl x4)] [] w (some (.inl r.1)) r.2 := by
  unfold Mo_dated_101 at h
  refine rn_iload_n i235_101 rfl ?_
  refine rn_iconst i235_102 ?_
  by_cases c103 : (x3 : Int) = (-1)
  · rw [if_pos c103] at h
    refine rn_icmp_ne_f i235_103 c103 ?_
    refine rn_iload i235_106 rfl ?_
    refine rn_goto i235_108 ?_
    exact rn_sub [] rfl (s_Mo_dated_112 hD x4 w r h)
  · rw [if_neg c103] at h
    refine rn_icmp_ne_t i235_103 c103 ?_
    refine rn_iconst i235_111 ?_
    exact rn_sub [] rfl (s_Mo_dated_112 hD (-1) w r h)
def Mo_dated_35 : Nat → Nat → Int → Int → Int → Int → Int → Wd → Option (Int × Wd)
  | 0, _, _, _, _, _, _, _ => none
  | n + 1, a0, x1, x2, x3, x4, x5, w =>
    (fgR w a0 12 49).bind fun v38 =>
    (rdI w v38 45).bind fun v43 =>
    if (v43 : Int) < x5 then
      Mo_dated_101 x3 x4 w
    else
      (Mo_isDated a0 x5 x1 x2 w).bind fun r52 =>
      if (r52.1 : Int) = 0 then
        Mo_dated_95 (Mo_dated_35 n) a0 x1 x2 x3 x4 x5 r52.2
      else
        if (x4 : Int) = x3 then
          Mo_dated_67 a0 x5 r52.2
        else
          Mo_dated_95 (Mo_dated_35 n) a0 x1 x2 x3 (w32 (x4 + 1)) x5 r52.2
theorem s_Mo_dated_35 {g : Gp} {l : Launch} {D : Nat} (hD : 2 ≤ D) : ∀ (n : Nat) (a0 : Nat) (x1 : Int) (x2 : Int) (x3 : Int) (x4 : Int) (x5 : Int) (w : Wd) (r : Int × Wd), Mo_dated_35 n a0 x1 x2 x3 x4 x5 w = some r → Rn g l D 235 35 [(0, .inr (.inr a0)), (1, .inl x1), (2, .inl x2), (3, .inl x3), (4, .inl x4), (5, .inl x5)] [] w (some (.inl r.1)) r.2 := by
  obtain ⟨D, rfl⟩ : ∃ D1, D = D1 + 1 := ⟨D - 1, by omega⟩
  intro n
  induction n with
  | zero => intro a0 x1 x2 x3 x4 x5 w r h; cases (show (none : Option (Int × Wd)) = some r from h)
  | succ n ih =>
    intro a0 x1 x2 x3 x4 x5 w r h
    unfold Mo_dated_35 at h
    refine rn_iload i235_35 rfl ?_
    refine fr_aload_n i235_37 rfl ?_
    obtain ⟨v38, h38, h⟩ := Option.bind_eq_some_iff.mp h
    refine fr_gR (k := 49) i235_38 tf12_49 h38 ?_
    refine rn_bipush i235_41 ?_
    obtain ⟨v43, h43, h⟩ := Option.bind_eq_some_iff.mp h
    refine rn_iald i235_43 h43 ?_
    by_cases c44 : (v43 : Int) < x5
    · rw [if_pos c44] at h
      refine rn_icmp_gt_t i235_44 c44 ?_
      exact rn_sub [3, 4] rfl (s_Mo_dated_101 hD x3 x4 w r h)
    · rw [if_neg c44] at h
      refine rn_icmp_gt_f i235_44 c44 ?_
      refine fr_aload_n i235_47 rfl ?_
      refine rn_iload i235_48 rfl ?_
      refine rn_iload_n i235_50 rfl ?_
      refine rn_iload_n i235_51 rfl ?_
      obtain ⟨r52, h52, h⟩ := Option.bind_eq_some_iff.mp h
      obtain ⟨g52, c52⟩ := S_Mo_isDated a0 x5 x1 x2 w r52 h52
      refine fr_callV (a := a0) (As := [.inl x5, .inl x1, .inl x2]) (st := []) i235_52 (cq234 a0 x5 x1 x2) rfl (Nat.le_of_ble_eq_true rfl) g52 (c52 _ (by omega)) ?_
      show Rn _ _ _ _ _ _ [.inl r52.1] _ _ _
      by_cases c55 : (r52.1 : Int) = 0
      · rw [if_pos c55] at h
        refine rn_if_ne_f i235_55 c55 ?_
        refine rn_goto i235_58 ?_
        exact rn_sub [0, 1, 2, 3, 4, 5] rfl (s_Mo_dated_95 hD (Mo_dated_35 n) ih a0 x1 x2 x3 x4 x5 r52.2 r h)
      · rw [if_neg c55] at h
        refine rn_if_ne_t i235_55 c55 ?_
        refine rn_iload i235_61 rfl ?_
        refine rn_iload_n i235_63 rfl ?_
        by_cases c64 : (x4 : Int) = x3
        · rw [if_pos c64] at h
          refine rn_icmp_ne_f i235_64 c64 ?_
          exact rn_sub [0, 5] rfl (s_Mo_dated_67 hD a0 x5 r52.2 r h)
        · rw [if_neg c64] at h
          refine rn_icmp_ne_t i235_64 c64 ?_
          refine rn_iinc (ls1 := [(4, .inl (w32 (x4 + 1))), (0, .inr (.inr a0)), (1, .inl x1), (2, .inl x2), (3, .inl x3), (5, .inl x5)]) i235_92 rfl rfl ?_
          exact rn_sub [1, 2, 3, 4, 0, 5] rfl (s_Mo_dated_95 hD (Mo_dated_35 n) ih a0 x1 x2 x3 (w32 (x4 + 1)) x5 r52.2 r h)
def Mo_dated_0 (a0 : Nat) (x1 : Int) (x2 : Int) (x3 : Int) (w : Wd) : Option (Int × Wd) :=
  (Mo_in x1 0 99 w).bind fun r4 =>
  if (r4.1 : Int) = 0 then
    Mo_dated_27 r4.2
  else
    (fgI r4.2 a0 12 63).bind fun v13 =>
    (Mo_in x2 0 v13 r4.2).bind fun r16 =>
    if (r16.1 : Int) = 0 then
      Mo_dated_27 r16.2
    else
      if ((-1) : Int) ≤ x3 then
        Mo_dated_35 FU a0 x1 x2 x3 0 0 r16.2
      else
        Mo_dated_27 r16.2
theorem s_Mo_dated_0 {g : Gp} {l : Launch} {D : Nat} (hD : 2 ≤ D) (a0 : Nat) (x1 : Int) (x2 : Int) (x3 : Int) (w : Wd) (r : Int × Wd) (h : Mo_dated_0 a0 x1 x2 x3 w = some r) : Rn g l D 235 0 [(0, .inr (.inr a0)), (1, .inl x1), (2, .inl x2), (3, .inl x3)] [] w (some (.inl r.1)) r.2 := by
  obtain ⟨D, rfl⟩ : ∃ D1, D = D1 + 1 := ⟨D - 1, by omega⟩
  unfold Mo_dated_0 at h
  refine rn_iload_n i235_0 rfl ?_
  refine rn_iconst i235_1 ?_
  refine rn_bipush i235_2 ?_
  obtain ⟨r4, h4, h⟩ := Option.bind_eq_some_iff.mp h
  refine fr_callS (nst := 0) (As := [.inl x1, .inl 0, .inl 99]) (st := []) i235_4 (cq181 x1 0 99) rfl (Nat.le_of_ble_eq_true rfl) (S_Mo_in x1 0 99 w r4 h4 _ (by omega)) ?_
  show Rn _ _ _ _ _ _ [.inl r4.1] _ _ _
  by_cases c7 : (r4.1 : Int) = 0
  · rw [if_pos c7] at h
    refine rn_if_eq_t i235_7 c7 ?_
    exact rn_sub [] rfl (s_Mo_dated_27 hD r4.2 r h)
  · rw [if_neg c7] at h
    refine rn_if_eq_f i235_7 c7 ?_
    refine rn_iload_n i235_10 rfl ?_
    refine rn_iconst i235_11 ?_
    refine fr_aload_n i235_12 rfl ?_
    obtain ⟨v13, h13, h⟩ := Option.bind_eq_some_iff.mp h
    refine fr_gI (k := 63) i235_13 tf12_63 h13 ?_
    obtain ⟨r16, h16, h⟩ := Option.bind_eq_some_iff.mp h
    refine fr_callS (nst := 0) (As := [.inl x2, .inl 0, .inl v13]) (st := []) i235_16 (cq181 x2 0 v13) rfl (Nat.le_of_ble_eq_true rfl) (S_Mo_in x2 0 v13 r4.2 r16 h16 _ (by omega)) ?_
    show Rn _ _ _ _ _ _ [.inl r16.1] _ _ _
    by_cases c19 : (r16.1 : Int) = 0
    · rw [if_pos c19] at h
      refine rn_if_eq_t i235_19 c19 ?_
      exact rn_sub [] rfl (s_Mo_dated_27 hD r16.2 r h)
    · rw [if_neg c19] at h
      refine rn_if_eq_f i235_19 c19 ?_
      refine rn_iload_n i235_22 rfl ?_
      refine rn_iconst i235_23 ?_
      by_cases c24 : ((-1) : Int) ≤ x3
      · rw [if_pos c24] at h
        refine rn_icmp_ge_t i235_24 c24 ?_
        refine rn_iconst i235_29 ?_
        refine rn_istore (ls1 := [(4, .inl 0), (0, .inr (.inr a0)), (1, .inl x1), (2, .inl x2), (3, .inl x3)]) i235_30 rfl ?_
        refine rn_iconst i235_32 ?_
        refine rn_istore (ls1 := [(5, .inl 0), (4, .inl 0), (0, .inr (.inr a0)), (1, .inl x1), (2, .inl x2), (3, .inl x3)]) i235_33 rfl ?_
        exact rn_sub [2, 3, 4, 5, 1, 0] rfl (s_Mo_dated_35 hD FU a0 x1 x2 x3 0 0 r16.2 r h)
      · rw [if_neg c24] at h
        refine rn_icmp_ge_f i235_24 c24 ?_
        exact rn_sub [] rfl (s_Mo_dated_27 hD r16.2 r h)
/-- HandHeirsModel.dated(III)I -/
def Mo_dated (a0 : Nat) (x1 : Int) (x2 : Int) (x3 : Int) (w : Wd) : Option (Int × Wd) := gd 12 w a0 (Mo_dated_0 a0 x1 x2 x3 w)
theorem S_Mo_dated {g : Gp} {l : Launch} (a0 : Nat) (x1 : Int) (x2 : Int) (x3 : Int) (w : Wd) (r : Int × Wd) (h : Mo_dated a0 x1 x2 x3 w = some r) : (wsh w a0).1 = 12 ∧ ∀ D, 2 ≤ D → Rn g l D 235 0 [(0, .inr (.inr a0)), (1, .inl x1), (2, .inl x2), (3, .inl x3)] [] w (some (.inl r.1)) r.2 := by
  obtain ⟨hg, h⟩ := gd_some h
  exact ⟨hg, fun D hD => rn_sub [0, 1, 2, 3] rfl (s_Mo_dated_0 hD a0 x1 x2 x3 w r h)⟩
def Mo_hold_20 : Nat → Nat → Int → Int → Wd → Option (Int × Wd)
  | 0, _, _, _, _ => none
  | n + 1, a0, x1, x2, w =>
    if (2860 : Int) ≤ x2 then
      some (1, w)
    else
      (fgR w a0 12 67).bind fun v28 =>
      (fgR w a0 12 49).bind fun v39 =>
      (rdI w v39 x2).bind fun v43 =>
      (wrI w v28 (w32 ((w32 (2860 * x1)) + x2)) v43).bind fun w44 =>
      Mo_hold_20 n a0 x1 (w32 (x2 + 1)) w44
theorem s_Mo_hold_20 {g : Gp} {l : Launch} {D : Nat} (hD : 1 ≤ D) : ∀ (n : Nat) (a0 : Nat) (x1 : Int) (x2 : Int) (w : Wd) (r : Int × Wd), Mo_hold_20 n a0 x1 x2 w = some r → Rn g l D 236 20 [(0, .inr (.inr a0)), (1, .inl x1), (2, .inl x2)] [] w (some (.inl r.1)) r.2 := by
  intro n
  induction n with
  | zero => intro a0 x1 x2 w r h; cases (show (none : Option (Int × Wd)) = some r from h)
  | succ n ih =>
    intro a0 x1 x2 w r h
    unfold Mo_hold_20 at h
    refine rn_iload_n i236_20 rfl ?_
    refine rn_sipush i236_21 ?_
    by_cases c24 : (2860 : Int) ≤ x2
    · rw [if_pos c24] at h
      refine rn_icmp_ge_t i236_24 c24 ?_
      refine rn_iconst i236_51 ?_
      obtain rfl := Option.some.inj h
      exact rn_retZ i236_52 mr236 (by decide)
    · rw [if_neg c24] at h
      refine rn_icmp_ge_f i236_24 c24 ?_
      refine fr_aload_n i236_27 rfl ?_
      obtain ⟨v28, h28, h⟩ := Option.bind_eq_some_iff.mp h
      refine fr_gR (k := 67) i236_28 tf12_67 h28 ?_
      refine rn_sipush i236_31 ?_
      refine rn_iload_n i236_34 rfl ?_
      refine rn_imul i236_35 ?_
      refine rn_iload_n i236_36 rfl ?_
      refine rn_iadd i236_37 ?_
      refine fr_aload_n i236_38 rfl ?_
      obtain ⟨v39, h39, h⟩ := Option.bind_eq_some_iff.mp h
      refine fr_gR (k := 49) i236_39 tf12_49 h39 ?_
      refine rn_iload_n i236_42 rfl ?_
      obtain ⟨v43, h43, h⟩ := Option.bind_eq_some_iff.mp h
      refine rn_iald i236_43 h43 ?_
      obtain ⟨w44, h44, h⟩ := Option.bind_eq_some_iff.mp h
      refine rn_iast i236_44 h44 ?_
      refine rn_iinc (ls1 := [(2, .inl (w32 (x2 + 1))), (0, .inr (.inr a0)), (1, .inl x1)]) i236_45 rfl rfl ?_
      refine rn_goto i236_48 ?_
      exact rn_sub [1, 2, 0] rfl (ih a0 x1 (w32 (x2 + 1)) w44 r h)
def Mo_hold_0 (a0 : Nat) (x1 : Int) (w : Wd) : Option (Int × Wd) :=
  (Mo_in x1 0 2 w).bind fun r3 =>
  if (r3.1 : Int) = 0 then
    some (0, r3.2)
  else
    (fgR r3.2 a0 12 66).bind fun v12 =>
    (wrB r3.2 v12 x1 1).bind fun w17 =>
    Mo_hold_20 FU a0 x1 0 w17
theorem s_Mo_hold_0 {g : Gp} {l : Launch} {D : Nat} (hD : 1 ≤ D) (a0 : Nat) (x1 : Int) (w : Wd) (r : Int × Wd) (h : Mo_hold_0 a0 x1 w = some r) : Rn g l D 236 0 [(0, .inr (.inr a0)), (1, .inl x1)] [] w (some (.inl r.1)) r.2 := by
  obtain ⟨D, rfl⟩ : ∃ D1, D = D1 + 1 := ⟨D - 1, by omega⟩
  unfold Mo_hold_0 at h
  refine rn_iload_n i236_0 rfl ?_
  refine rn_iconst i236_1 ?_
  refine rn_iconst i236_2 ?_
  obtain ⟨r3, h3, h⟩ := Option.bind_eq_some_iff.mp h
  refine fr_callS (nst := 0) (As := [.inl x1, .inl 0, .inl 2]) (st := []) i236_3 (cq181 x1 0 2) rfl (Nat.le_of_ble_eq_true rfl) (S_Mo_in x1 0 2 w r3 h3 _ (by omega)) ?_
  show Rn _ _ _ _ _ _ [.inl r3.1] _ _ _
  by_cases c6 : (r3.1 : Int) = 0
  · rw [if_pos c6] at h
    refine rn_if_ne_f i236_6 c6 ?_
    refine rn_iconst i236_9 ?_
    obtain rfl := Option.some.inj h
    exact rn_retZ i236_10 mr236 (by decide)
  · rw [if_neg c6] at h
    refine rn_if_ne_t i236_6 c6 ?_
    refine fr_aload_n i236_11 rfl ?_
    obtain ⟨v12, h12, h⟩ := Option.bind_eq_some_iff.mp h
    refine fr_gR (k := 66) i236_12 tf12_66 h12 ?_
    refine rn_iload_n i236_15 rfl ?_
    refine rn_iconst i236_16 ?_
    obtain ⟨w17, h17, h⟩ := Option.bind_eq_some_iff.mp h
    refine rn_bast i236_17 h17 ?_
    refine rn_iconst i236_18 ?_
    refine rn_istore_n (ls1 := [(2, .inl 0), (0, .inr (.inr a0)), (1, .inl x1)]) i236_19 rfl ?_
    exact rn_sub [1, 2, 0] rfl (s_Mo_hold_20 hD FU a0 x1 0 w17 r h)
/-- HandHeirsModel.hold(I)Z -/
def Mo_hold (a0 : Nat) (x1 : Int) (w : Wd) : Option (Int × Wd) := gd 12 w a0 (Mo_hold_0 a0 x1 w)
theorem S_Mo_hold {g : Gp} {l : Launch} (a0 : Nat) (x1 : Int) (w : Wd) (r : Int × Wd) (h : Mo_hold a0 x1 w = some r) : (wsh w a0).1 = 12 ∧ ∀ D, 1 ≤ D → Rn g l D 236 0 [(0, .inr (.inr a0)), (1, .inl x1)] [] w (some (.inl r.1)) r.2 := by
  obtain ⟨hg, h⟩ := gd_some h
  exact ⟨hg, fun D hD => rn_sub [0, 1] rfl (s_Mo_hold_0 hD a0 x1 w r h)⟩
def Mo_restore_18 (w : Wd) : Option (Int × Wd) :=
  some (0, w)
theorem s_Mo_restore_18 {g : Gp} {l : Launch} {D : Nat} (hD : 1 ≤ D) (w : Wd) (r : Int × Wd) (h : Mo_restore_18 w = some r) : Rn g l D 237 18 [] [] w (some (.inl r.1)) r.2 := by
  unfold Mo_restore_18 at h
  refine rn_iconst i237_18 ?_
  obtain rfl := Option.some.inj h
  exact rn_retZ i237_19 mr237 (by decide)
def Mo_restore_53 (a0 : Nat) (w : Wd) : Option (Int × Wd) :=
  (fpI w a0 12 58 0).bind fun w55 =>
  some (1, w55)
theorem s_Mo_restore_53 {g : Gp} {l : Launch} {D : Nat} (hD : 1 ≤ D) (a0 : Nat) (w : Wd) (r : Int × Wd) (h : Mo_restore_53 a0 w = some r) : Rn g l D 237 53 [(0, .inr (.inr a0))] [] w (some (.inl r.1)) r.2 := by
  unfold Mo_restore_53 at h
  refine fr_aload_n i237_53 rfl ?_
  refine rn_iconst i237_54 ?_
  obtain ⟨w55, h55, h⟩ := Option.bind_eq_some_iff.mp h
  refine fr_pI (k := 58) i237_55 (pf12_58 237) h55 ?_
  refine rn_iconst i237_58 ?_
  obtain rfl := Option.some.inj h
  exact rn_retZ i237_59 mr237 (by decide)
def Mo_restore_22 : Nat → Nat → Int → Int → Wd → Option (Int × Wd)
  | 0, _, _, _, _ => none
  | n + 1, a0, x1, x2, w =>
    if (2860 : Int) ≤ x2 then
      Mo_restore_53 a0 w
    else
      (fgR w a0 12 49).bind fun v30 =>
      (fgR w a0 12 67).bind fun v35 =>
      (rdI w v35 (w32 ((w32 (2860 * x1)) + x2))).bind fun v45 =>
      (wrI w v30 x2 v45).bind fun w46 =>
      Mo_restore_22 n a0 x1 (w32 (x2 + 1)) w46
theorem s_Mo_restore_22 {g : Gp} {l : Launch} {D : Nat} (hD : 1 ≤ D) : ∀ (n : Nat) (a0 : Nat) (x1 : Int) (x2 : Int) (w : Wd) (r : Int × Wd), Mo_restore_22 n a0 x1 x2 w = some r → Rn g l D 237 22 [(0, .inr (.inr a0)), (1, .inl x1), (2, .inl x2)] [] w (some (.inl r.1)) r.2 := by
  intro n
  induction n with
  | zero => intro a0 x1 x2 w r h; cases (show (none : Option (Int × Wd)) = some r from h)
  | succ n ih =>
    intro a0 x1 x2 w r h
    unfold Mo_restore_22 at h
    refine rn_iload_n i237_22 rfl ?_
    refine rn_sipush i237_23 ?_
    by_cases c26 : (2860 : Int) ≤ x2
    · rw [if_pos c26] at h
      refine rn_icmp_ge_t i237_26 c26 ?_
      exact rn_sub [0] rfl (s_Mo_restore_53 hD a0 w r h)
    · rw [if_neg c26] at h
      refine rn_icmp_ge_f i237_26 c26 ?_
      refine fr_aload_n i237_29 rfl ?_
      obtain ⟨v30, h30, h⟩ := Option.bind_eq_some_iff.mp h
      refine fr_gR (k := 49) i237_30 tf12_49 h30 ?_
      refine rn_iload_n i237_33 rfl ?_
      refine fr_aload_n i237_34 rfl ?_
      obtain ⟨v35, h35, h⟩ := Option.bind_eq_some_iff.mp h
      refine fr_gR (k := 67) i237_35 tf12_67 h35 ?_
      refine rn_sipush i237_38 ?_
      refine rn_iload_n i237_41 rfl ?_
      refine rn_imul i237_42 ?_
      refine rn_iload_n i237_43 rfl ?_
      refine rn_iadd i237_44 ?_
      obtain ⟨v45, h45, h⟩ := Option.bind_eq_some_iff.mp h
      refine rn_iald i237_45 h45 ?_
      obtain ⟨w46, h46, h⟩ := Option.bind_eq_some_iff.mp h
      refine rn_iast i237_46 h46 ?_
      refine rn_iinc (ls1 := [(2, .inl (w32 (x2 + 1))), (0, .inr (.inr a0)), (1, .inl x1)]) i237_47 rfl rfl ?_
      refine rn_goto i237_50 ?_
      exact rn_sub [1, 2, 0] rfl (ih a0 x1 (w32 (x2 + 1)) w46 r h)
def Mo_restore_0 (a0 : Nat) (x1 : Int) (w : Wd) : Option (Int × Wd) :=
  (Mo_in x1 0 2 w).bind fun r3 =>
  if (r3.1 : Int) = 0 then
    Mo_restore_18 r3.2
  else
    (fgR r3.2 a0 12 66).bind fun v10 =>
    (rdB r3.2 v10 x1).bind fun v14 =>
    if (v14 : Int) = 0 then
      Mo_restore_18 r3.2
    else
      Mo_restore_22 FU a0 x1 0 r3.2
theorem s_Mo_restore_0 {g : Gp} {l : Launch} {D : Nat} (hD : 1 ≤ D) (a0 : Nat) (x1 : Int) (w : Wd) (r : Int × Wd) (h : Mo_restore_0 a0 x1 w = some r) : Rn g l D 237 0 [(0, .inr (.inr a0)), (1, .inl x1)] [] w (some (.inl r.1)) r.2 := by
  obtain ⟨D, rfl⟩ : ∃ D1, D = D1 + 1 := ⟨D - 1, by omega⟩
  unfold Mo_restore_0 at h
  refine rn_iload_n i237_0 rfl ?_
  refine rn_iconst i237_1 ?_
  refine rn_iconst i237_2 ?_
  obtain ⟨r3, h3, h⟩ := Option.bind_eq_some_iff.mp h
  refine fr_callS (nst := 0) (As := [.inl x1, .inl 0, .inl 2]) (st := []) i237_3 (cq181 x1 0 2) rfl (Nat.le_of_ble_eq_true rfl) (S_Mo_in x1 0 2 w r3 h3 _ (by omega)) ?_
  show Rn _ _ _ _ _ _ [.inl r3.1] _ _ _
  by_cases c6 : (r3.1 : Int) = 0
  · rw [if_pos c6] at h
    refine rn_if_eq_t i237_6 c6 ?_
    exact rn_sub [] rfl (s_Mo_restore_18 hD r3.2 r h)
  · rw [if_neg c6] at h
    refine rn_if_eq_f i237_6 c6 ?_
    refine fr_aload_n i237_9 rfl ?_
    obtain ⟨v10, h10, h⟩ := Option.bind_eq_some_iff.mp h
    refine fr_gR (k := 66) i237_10 tf12_66 h10 ?_
    refine rn_iload_n i237_13 rfl ?_
    obtain ⟨v14, h14, h⟩ := Option.bind_eq_some_iff.mp h
    refine rn_bald i237_14 h14 ?_
    by_cases c15 : (v14 : Int) = 0
    · rw [if_pos c15] at h
      refine rn_if_ne_f i237_15 c15 ?_
      exact rn_sub [] rfl (s_Mo_restore_18 hD r3.2 r h)
    · rw [if_neg c15] at h
      refine rn_if_ne_t i237_15 c15 ?_
      refine rn_iconst i237_20 ?_
      refine rn_istore_n (ls1 := [(2, .inl 0), (0, .inr (.inr a0)), (1, .inl x1)]) i237_21 rfl ?_
      exact rn_sub [1, 2, 0] rfl (s_Mo_restore_22 hD FU a0 x1 0 r3.2 r h)
/-- HandHeirsModel.restore(I)Z -/
def Mo_restore (a0 : Nat) (x1 : Int) (w : Wd) : Option (Int × Wd) := gd 12 w a0 (Mo_restore_0 a0 x1 w)
theorem S_Mo_restore {g : Gp} {l : Launch} (a0 : Nat) (x1 : Int) (w : Wd) (r : Int × Wd) (h : Mo_restore a0 x1 w = some r) : (wsh w a0).1 = 12 ∧ ∀ D, 1 ≤ D → Rn g l D 237 0 [(0, .inr (.inr a0)), (1, .inl x1)] [] w (some (.inl r.1)) r.2 := by
  obtain ⟨hg, h⟩ := gd_some h
  exact ⟨hg, fun D hD => rn_sub [0, 1] rfl (s_Mo_restore_0 hD a0 x1 w r h)⟩
def Mo_count_211 (s0 : Int) (s1 : Int) (w : Wd) : Option (Int × Wd) :=
  some ((w32 (s1 + s0)), w)
theorem s_Mo_count_211 {g : Gp} {l : Launch} {D : Nat} (hD : 1 ≤ D) (s0 : Int) (s1 : Int) (w : Wd) (r : Int × Wd) (h : Mo_count_211 s0 s1 w = some r) : Rn g l D 238 211 [] [.inl s0, .inl s1] w (some (.inl r.1)) r.2 := by
  unfold Mo_count_211 at h
  refine rn_iadd i238_211 ?_
  obtain rfl := Option.some.inj h
  exact rn_retI i238_212 mr238
def Mo_count_196 (a0 : Nat) (s0 : Int) (s1 : Int) (w : Wd) : Option (Int × Wd) :=
  (fgR w a0 12 66).bind fun v198 =>
  (rdB w v198 2).bind fun v202 =>
  if (v202 : Int) = 0 then
    Mo_count_211 0 (w32 (s1 + s0)) w
  else
    Mo_count_211 1 (w32 (s1 + s0)) w
theorem s_Mo_count_196 {g : Gp} {l : Launch} {D : Nat} (hD : 1 ≤ D) (a0 : Nat) (s0 : Int) (s1 : Int) (w : Wd) (r : Int × Wd) (h : Mo_count_196 a0 s0 s1 w = some r) : Rn g l D 238 196 [(0, .inr (.inr a0))] [.inl s0, .inl s1] w (some (.inl r.1)) r.2 := by
  unfold Mo_count_196 at h
  refine rn_iadd i238_196 ?_
  refine fr_aload_n i238_197 rfl ?_
  obtain ⟨v198, h198, h⟩ := Option.bind_eq_some_iff.mp h
  refine fr_gR (k := 66) i238_198 tf12_66 h198 ?_
  refine rn_iconst i238_201 ?_
  obtain ⟨v202, h202, h⟩ := Option.bind_eq_some_iff.mp h
  refine rn_bald i238_202 h202 ?_
  by_cases c203 : (v202 : Int) = 0
  · rw [if_pos c203] at h
    refine rn_if_eq_t i238_203 c203 ?_
    refine rn_iconst i238_210 ?_
    exact rn_sub [] rfl (s_Mo_count_211 hD 0 (w32 (s1 + s0)) w r h)
  · rw [if_neg c203] at h
    refine rn_if_eq_f i238_203 c203 ?_
    refine rn_iconst i238_206 ?_
    refine rn_goto i238_207 ?_
    exact rn_sub [] rfl (s_Mo_count_211 hD 1 (w32 (s1 + s0)) w r h)
def Mo_count_182 (a0 : Nat) (s0 : Int) (w : Wd) : Option (Int × Wd) :=
  (fgR w a0 12 66).bind fun v183 =>
  (rdB w v183 1).bind fun v187 =>
  if (v187 : Int) = 0 then
    Mo_count_196 a0 0 s0 w
  else
    Mo_count_196 a0 1 s0 w
theorem s_Mo_count_182 {g : Gp} {l : Launch} {D : Nat} (hD : 1 ≤ D) (a0 : Nat) (s0 : Int) (w : Wd) (r : Int × Wd) (h : Mo_count_182 a0 s0 w = some r) : Rn g l D 238 182 [(0, .inr (.inr a0))] [.inl s0] w (some (.inl r.1)) r.2 := by
  unfold Mo_count_182 at h
  refine fr_aload_n i238_182 rfl ?_
  obtain ⟨v183, h183, h⟩ := Option.bind_eq_some_iff.mp h
  refine fr_gR (k := 66) i238_183 tf12_66 h183 ?_
  refine rn_iconst i238_186 ?_
  obtain ⟨v187, h187, h⟩ := Option.bind_eq_some_iff.mp h
  refine rn_bald i238_187 h187 ?_
  by_cases c188 : (v187 : Int) = 0
  · rw [if_pos c188] at h
    refine rn_if_eq_t i238_188 c188 ?_
    refine rn_iconst i238_195 ?_
    exact rn_sub [0] rfl (s_Mo_count_196 hD a0 0 s0 w r h)
  · rw [if_neg c188] at h
    refine rn_if_eq_f i238_188 c188 ?_
    refine rn_iconst i238_191 ?_
    refine rn_goto i238_192 ?_
    exact rn_sub [0] rfl (s_Mo_count_196 hD a0 1 s0 w r h)
def Mo_count_0 (a0 : Nat) (x1 : Int) (w : Wd) : Option (Int × Wd) :=
  if (x1 : Int) = 0 then
    (fgR w a0 12 23).bind fun v69 =>
    (fgI w a0 12 18).bind fun v73 =>
    (rdI w v69 v73).bind fun v76 =>
    some (v76, w)
  else
    if (x1 : Int) = 1 then
      (fgR w a0 12 25).bind fun v79 =>
      (fgI w a0 12 18).bind fun v83 =>
      (rdI w v79 v83).bind fun v86 =>
      some (v86, w)
    else
      if (x1 : Int) = 2 then
        (fgR w a0 12 29).bind fun v89 =>
        (fgI w a0 12 18).bind fun v93 =>
        (rdI w v89 v93).bind fun v96 =>
        some (v96, w)
      else
        if (x1 : Int) = 3 then
          (fgR w a0 12 49).bind fun v99 =>
          (rdI w v99 42).bind fun v104 =>
          some (v104, w)
        else
          if (x1 : Int) = 4 then
            (fgR w a0 12 49).bind fun v107 =>
            (rdI w v107 43).bind fun v112 =>
            (Mo_orNobody v112 w).bind fun r113 =>
            some (r113.1, r113.2)
          else
            if (x1 : Int) = 5 then
              (fgR w a0 12 49).bind fun v118 =>
              (rdI w v118 44).bind fun v123 =>
              some (v123, w)
            else
              if (x1 : Int) = 6 then
                (fgR w a0 12 30).bind fun v126 =>
                (fgI w a0 12 18).bind fun v130 =>
                (rdI w v126 v130).bind fun v133 =>
                some (v133, w)
              else
                if (x1 : Int) = 7 then
                  (fgR w a0 12 31).bind fun v136 =>
                  (fgI w a0 12 18).bind fun v140 =>
                  (rdI w v136 v140).bind fun v143 =>
                  some (v143, w)
                else
                  if (x1 : Int) = 8 then
                    (fgR w a0 12 49).bind fun v146 =>
                    (rdI w v146 45).bind fun v151 =>
                    some (v151, w)
                  else
                    if (x1 : Int) = 9 then
                      (fgI w a0 12 2).bind fun v154 =>
                      some (v154, w)
                    else
                      if (x1 : Int) = 10 then
                        (fgI w a0 12 58).bind fun v159 =>
                        some (v159, w)
                      else
                        if (x1 : Int) = 11 then
                          (fgI w a0 12 63).bind fun v164 =>
                          some (v164, w)
                        else
                          if (x1 : Int) = 12 then
                            (fgR w a0 12 66).bind fun v169 =>
                            (rdB w v169 0).bind fun v173 =>
                            if (v173 : Int) = 0 then
                              Mo_count_182 a0 0 w
                            else
                              Mo_count_182 a0 1 w
                          else
                            some ((-1), w)
theorem s_Mo_count_0 {g : Gp} {l : Launch} {D : Nat} (hD : 1 ≤ D) (a0 : Nat) (x1 : Int) (w : Wd) (r : Int × Wd) (h : Mo_count_0 a0 x1 w = some r) : Rn g l D 238 0 [(0, .inr (.inr a0)), (1, .inl x1)] [] w (some (.inl r.1)) r.2 := by
  obtain ⟨D, rfl⟩ : ∃ D1, D = D1 + 1 := ⟨D - 1, by omega⟩
  unfold Mo_count_0 at h
  refine rn_iload_n i238_0 rfl ?_
  by_cases c1_0 : (x1 : Int) = 0
  · rw [if_pos c1_0] at h
    refine rn_tsw_in (tgt := 68) i238_1 0 (by omega) (by omega) rfl rfl ?_
    refine fr_aload_n i238_68 rfl ?_
    obtain ⟨v69, h69, h⟩ := Option.bind_eq_some_iff.mp h
    refine fr_gR (k := 23) i238_69 tf12_23 h69 ?_
    refine fr_aload_n i238_72 rfl ?_
    obtain ⟨v73, h73, h⟩ := Option.bind_eq_some_iff.mp h
    refine fr_gI (k := 18) i238_73 tf12_18 h73 ?_
    obtain ⟨v76, h76, h⟩ := Option.bind_eq_some_iff.mp h
    refine rn_iald i238_76 h76 ?_
    obtain rfl := Option.some.inj h
    exact rn_retI i238_77 mr238
  · rw [if_neg c1_0] at h
    by_cases c1_1 : (x1 : Int) = 1
    · rw [if_pos c1_1] at h
      refine rn_tsw_in (tgt := 78) i238_1 1 (by omega) (by omega) rfl rfl ?_
      refine fr_aload_n i238_78 rfl ?_
      obtain ⟨v79, h79, h⟩ := Option.bind_eq_some_iff.mp h
      refine fr_gR (k := 25) i238_79 tf12_25 h79 ?_
      refine fr_aload_n i238_82 rfl ?_
      obtain ⟨v83, h83, h⟩ := Option.bind_eq_some_iff.mp h
      refine fr_gI (k := 18) i238_83 tf12_18 h83 ?_
      obtain ⟨v86, h86, h⟩ := Option.bind_eq_some_iff.mp h
      refine rn_iald i238_86 h86 ?_
      obtain rfl := Option.some.inj h
      exact rn_retI i238_87 mr238
    · rw [if_neg c1_1] at h
      by_cases c1_2 : (x1 : Int) = 2
      · rw [if_pos c1_2] at h
        refine rn_tsw_in (tgt := 88) i238_1 2 (by omega) (by omega) rfl rfl ?_
        refine fr_aload_n i238_88 rfl ?_
        obtain ⟨v89, h89, h⟩ := Option.bind_eq_some_iff.mp h
        refine fr_gR (k := 29) i238_89 tf12_29 h89 ?_
        refine fr_aload_n i238_92 rfl ?_
        obtain ⟨v93, h93, h⟩ := Option.bind_eq_some_iff.mp h
        refine fr_gI (k := 18) i238_93 tf12_18 h93 ?_
        obtain ⟨v96, h96, h⟩ := Option.bind_eq_some_iff.mp h
        refine rn_iald i238_96 h96 ?_
        obtain rfl := Option.some.inj h
        exact rn_retI i238_97 mr238
      · rw [if_neg c1_2] at h
        by_cases c1_3 : (x1 : Int) = 3
        · rw [if_pos c1_3] at h
          refine rn_tsw_in (tgt := 98) i238_1 3 (by omega) (by omega) rfl rfl ?_
          refine fr_aload_n i238_98 rfl ?_
          obtain ⟨v99, h99, h⟩ := Option.bind_eq_some_iff.mp h
          refine fr_gR (k := 49) i238_99 tf12_49 h99 ?_
          refine rn_bipush i238_102 ?_
          obtain ⟨v104, h104, h⟩ := Option.bind_eq_some_iff.mp h
          refine rn_iald i238_104 h104 ?_
          obtain rfl := Option.some.inj h
          exact rn_retI i238_105 mr238
        · rw [if_neg c1_3] at h
          by_cases c1_4 : (x1 : Int) = 4
          · rw [if_pos c1_4] at h
            refine rn_tsw_in (tgt := 106) i238_1 4 (by omega) (by omega) rfl rfl ?_
            refine fr_aload_n i238_106 rfl ?_
            obtain ⟨v107, h107, h⟩ := Option.bind_eq_some_iff.mp h
            refine fr_gR (k := 49) i238_107 tf12_49 h107 ?_
            refine rn_bipush i238_110 ?_
            obtain ⟨v112, h112, h⟩ := Option.bind_eq_some_iff.mp h
            refine rn_iald i238_112 h112 ?_
            obtain ⟨r113, h113, h⟩ := Option.bind_eq_some_iff.mp h
            refine fr_callS (nst := 0) (As := [.inl v112]) (st := []) i238_113 (cq209 v112) rfl (Nat.le_of_ble_eq_true rfl) (S_Mo_orNobody v112 w r113 h113 _ (by omega)) ?_
            show Rn _ _ _ _ _ _ [.inl r113.1] _ _ _
            obtain rfl := Option.some.inj h
            exact rn_retI i238_116 mr238
          · rw [if_neg c1_4] at h
            by_cases c1_5 : (x1 : Int) = 5
            · rw [if_pos c1_5] at h
              refine rn_tsw_in (tgt := 117) i238_1 5 (by omega) (by omega) rfl rfl ?_
              refine fr_aload_n i238_117 rfl ?_
              obtain ⟨v118, h118, h⟩ := Option.bind_eq_some_iff.mp h
              refine fr_gR (k := 49) i238_118 tf12_49 h118 ?_
              refine rn_bipush i238_121 ?_
              obtain ⟨v123, h123, h⟩ := Option.bind_eq_some_iff.mp h
              refine rn_iald i238_123 h123 ?_
              obtain rfl := Option.some.inj h
              exact rn_retI i238_124 mr238
            · rw [if_neg c1_5] at h
              by_cases c1_6 : (x1 : Int) = 6
              · rw [if_pos c1_6] at h
                refine rn_tsw_in (tgt := 125) i238_1 6 (by omega) (by omega) rfl rfl ?_
                refine fr_aload_n i238_125 rfl ?_
                obtain ⟨v126, h126, h⟩ := Option.bind_eq_some_iff.mp h
                refine fr_gR (k := 30) i238_126 tf12_30 h126 ?_
                refine fr_aload_n i238_129 rfl ?_
                obtain ⟨v130, h130, h⟩ := Option.bind_eq_some_iff.mp h
                refine fr_gI (k := 18) i238_130 tf12_18 h130 ?_
                obtain ⟨v133, h133, h⟩ := Option.bind_eq_some_iff.mp h
                refine rn_iald i238_133 h133 ?_
                obtain rfl := Option.some.inj h
                exact rn_retI i238_134 mr238
              · rw [if_neg c1_6] at h
                by_cases c1_7 : (x1 : Int) = 7
                · rw [if_pos c1_7] at h
                  refine rn_tsw_in (tgt := 135) i238_1 7 (by omega) (by omega) rfl rfl ?_
                  refine fr_aload_n i238_135 rfl ?_
                  obtain ⟨v136, h136, h⟩ := Option.bind_eq_some_iff.mp h
                  refine fr_gR (k := 31) i238_136 tf12_31 h136 ?_
                  refine fr_aload_n i238_139 rfl ?_
                  obtain ⟨v140, h140, h⟩ := Option.bind_eq_some_iff.mp h
                  refine fr_gI (k := 18) i238_140 tf12_18 h140 ?_
                  obtain ⟨v143, h143, h⟩ := Option.bind_eq_some_iff.mp h
                  refine rn_iald i238_143 h143 ?_
                  obtain rfl := Option.some.inj h
                  exact rn_retI i238_144 mr238
                · rw [if_neg c1_7] at h
                  by_cases c1_8 : (x1 : Int) = 8
                  · rw [if_pos c1_8] at h
                    refine rn_tsw_in (tgt := 145) i238_1 8 (by omega) (by omega) rfl rfl ?_
                    refine fr_aload_n i238_145 rfl ?_
                    obtain ⟨v146, h146, h⟩ := Option.bind_eq_some_iff.mp h
                    refine fr_gR (k := 49) i238_146 tf12_49 h146 ?_
                    refine rn_bipush i238_149 ?_
                    obtain ⟨v151, h151, h⟩ := Option.bind_eq_some_iff.mp h
                    refine rn_iald i238_151 h151 ?_
                    obtain rfl := Option.some.inj h
                    exact rn_retI i238_152 mr238
                  · rw [if_neg c1_8] at h
                    by_cases c1_9 : (x1 : Int) = 9
                    · rw [if_pos c1_9] at h
                      refine rn_tsw_in (tgt := 153) i238_1 9 (by omega) (by omega) rfl rfl ?_
                      refine fr_aload_n i238_153 rfl ?_
                      obtain ⟨v154, h154, h⟩ := Option.bind_eq_some_iff.mp h
                      refine fr_gI (k := 2) i238_154 tf12_2 h154 ?_
                      obtain rfl := Option.some.inj h
                      exact rn_retI i238_157 mr238
                    · rw [if_neg c1_9] at h
                      by_cases c1_10 : (x1 : Int) = 10
                      · rw [if_pos c1_10] at h
                        refine rn_tsw_in (tgt := 158) i238_1 10 (by omega) (by omega) rfl rfl ?_
                        refine fr_aload_n i238_158 rfl ?_
                        obtain ⟨v159, h159, h⟩ := Option.bind_eq_some_iff.mp h
                        refine fr_gI (k := 58) i238_159 tf12_58 h159 ?_
                        obtain rfl := Option.some.inj h
                        exact rn_retI i238_162 mr238
                      · rw [if_neg c1_10] at h
                        by_cases c1_11 : (x1 : Int) = 11
                        · rw [if_pos c1_11] at h
                          refine rn_tsw_in (tgt := 163) i238_1 11 (by omega) (by omega) rfl rfl ?_
                          refine fr_aload_n i238_163 rfl ?_
                          obtain ⟨v164, h164, h⟩ := Option.bind_eq_some_iff.mp h
                          refine fr_gI (k := 63) i238_164 tf12_63 h164 ?_
                          obtain rfl := Option.some.inj h
                          exact rn_retI i238_167 mr238
                        · rw [if_neg c1_11] at h
                          by_cases c1_12 : (x1 : Int) = 12
                          · rw [if_pos c1_12] at h
                            refine rn_tsw_in (tgt := 168) i238_1 12 (by omega) (by omega) rfl rfl ?_
                            refine fr_aload_n i238_168 rfl ?_
                            obtain ⟨v169, h169, h⟩ := Option.bind_eq_some_iff.mp h
                            refine fr_gR (k := 66) i238_169 tf12_66 h169 ?_
                            refine rn_iconst i238_172 ?_
                            obtain ⟨v173, h173, h⟩ := Option.bind_eq_some_iff.mp h
                            refine rn_bald i238_173 h173 ?_
                            by_cases c174 : (v173 : Int) = 0
                            · rw [if_pos c174] at h
                              refine rn_if_eq_t i238_174 c174 ?_
                              refine rn_iconst i238_181 ?_
                              exact rn_sub [0] rfl (s_Mo_count_182 hD a0 0 w r h)
                            · rw [if_neg c174] at h
                              refine rn_if_eq_f i238_174 c174 ?_
                              refine rn_iconst i238_177 ?_
                              refine rn_goto i238_178 ?_
                              exact rn_sub [0] rfl (s_Mo_count_182 hD a0 1 w r h)
                          · rw [if_neg c1_12] at h
                            refine rn_tsw_out (tgt := 213) i238_1 (by omega) rfl ?_
                            refine rn_iconst i238_213 ?_
                            obtain rfl := Option.some.inj h
                            exact rn_retI i238_214 mr238
/-- HandHeirsModel.count(I)I -/
def Mo_count (a0 : Nat) (x1 : Int) (w : Wd) : Option (Int × Wd) := gd 12 w a0 (Mo_count_0 a0 x1 w)
theorem S_Mo_count {g : Gp} {l : Launch} (a0 : Nat) (x1 : Int) (w : Wd) (r : Int × Wd) (h : Mo_count a0 x1 w = some r) : (wsh w a0).1 = 12 ∧ ∀ D, 1 ≤ D → Rn g l D 238 0 [(0, .inr (.inr a0)), (1, .inl x1)] [] w (some (.inl r.1)) r.2 := by
  obtain ⟨hg, h⟩ := gd_some h
  exact ⟨hg, fun D hD => rn_sub [0, 1] rfl (s_Mo_count_0 hD a0 x1 w r h)⟩
def La_law_1045 (k18 : Nat → Nat → Nat → Int → Wd → Option (Int × Wd)) (a0 : Nat) (a1 : Nat) (a2 : Nat) (x3 : Int) (w : Wd) : Option (Int × Wd) :=
  k18 a0 a1 a2 (w32 (x3 + 6)) w
theorem s_La_law_1045 {g : Gp} {l : Launch} {D : Nat} (hD : 105 ≤ D) (k18 : Nat → Nat → Nat → Int → Wd → Option (Int × Wd)) (hk18 : ∀ (a0 : Nat) (a1 : Nat) (a2 : Nat) (x3 : Int) (w : Wd) (r : Int × Wd), k18 a0 a1 a2 x3 w = some r → Rn g l D 239 18 [(0, .inr (.inr a0)), (1, .inr (.inr a1)), (2, .inr (.inr a2)), (3, .inl x3)] [] w (some (.inl r.1)) r.2) (a0 : Nat) (a1 : Nat) (a2 : Nat) (x3 : Int) (w : Wd) (r : Int × Wd) (h : La_law_1045 k18 a0 a1 a2 x3 w = some r) : Rn g l D 239 1045 [(0, .inr (.inr a0)), (1, .inr (.inr a1)), (2, .inr (.inr a2)), (3, .inl x3)] [] w (some (.inl r.1)) r.2 := by
  unfold La_law_1045 at h
  refine rn_iinc (ls1 := [(3, .inl (w32 (x3 + 6))), (0, .inr (.inr a0)), (1, .inr (.inr a1)), (2, .inr (.inr a2))]) i239_1045 rfl rfl ?_
  refine rn_goto i239_1048 ?_
  exact rn_sub [1, 2, 3, 0] rfl (hk18 a0 a1 a2 (w32 (x3 + 6)) w r h)
def La_law_18 : Nat → Nat → Nat → Nat → Int → Wd → Option (Int × Wd)
  | 0, _, _, _, _, _ => none
  | n + 1, a0, a1, a2, x3, w =>
    (aln w a0).bind fun v20 =>
    if ((w32 (v20 - 6)) : Int) < x3 then
      some (1, w)
    else
      (rdI w a0 x3).bind fun v29 =>
      if ((oand v29 31) : Int) = 0 then
        (rdI w a0 (w32 (x3 + 1))).bind fun v177 =>
        (rdI w a0 (w32 (x3 + 2))).bind fun v182 =>
        (rdI w a0 (w32 (x3 + 3))).bind fun v187 =>
        (rdI w a0 (w32 (x3 + 4))).bind fun v192 =>
        (rdI w a0 (w32 (x3 + 5))).bind fun v197 =>
        (Hh_feed a1 v177 v182 v187 v192 v197 w).bind fun r198 =>
        (rdI r198.2 a0 (w32 (x3 + 1))).bind fun v206 =>
        (rdI r198.2 a0 (w32 (x3 + 2))).bind fun v211 =>
        (rdI r198.2 a0 (w32 (x3 + 3))).bind fun v216 =>
        (rdI r198.2 a0 (w32 (x3 + 4))).bind fun v221 =>
        (rdI r198.2 a0 (w32 (x3 + 5))).bind fun v226 =>
        (Mo_feed a2 v206 v211 v216 v221 v226 r198.2).bind fun r227 =>
        if (r198.1 : Int) = r227.1 then
          La_law_1045 (La_law_18 n) a0 a1 a2 x3 r227.2
        else
          some (0, r227.2)
      else
        if ((oand v29 31) : Int) = 1 then
          (rdI w a0 (w32 (x3 + 1))).bind fun v240 =>
          (Hh_back a1 v240 w).bind fun r241 =>
          (rdI r241.2 a0 (w32 (x3 + 1))).bind fun v249 =>
          (Mo_back a2 v249 r241.2).bind fun r250 =>
          if (r241.1 : Int) = r250.1 then
            La_law_1045 (La_law_18 n) a0 a1 a2 x3 r250.2
          else
            some (0, r250.2)
        else
          if ((oand v29 31) : Int) = 2 then
            (Hh_read a1 w).bind fun r259 =>
            (Mo_read a2 r259.2).bind fun r263 =>
            if (r259.1 : Int) = r263.1 then
              La_law_1045 (La_law_18 n) a0 a1 a2 x3 r263.2
            else
              some (0, r263.2)
          else
            if ((oand v29 31) : Int) = 3 then
              (Hh_place a1 w).bind fun r272 =>
              (Mo_place a2 r272.2).bind fun r276 =>
              if (r272.1 : Int) = r276.1 then
                La_law_1045 (La_law_18 n) a0 a1 a2 x3 r276.2
              else
                some (0, r276.2)
            else
              if ((oand v29 31) : Int) = 4 then
                (rdI w a0 (w32 (x3 + 1))).bind fun v289 =>
                (Hh_hand a1 v289 w).bind fun r290 =>
                (rdI r290.2 a0 (w32 (x3 + 1))).bind fun v298 =>
                (Mo_hand a2 v298 r290.2).bind fun r299 =>
                if (r290.1 : Int) = r299.1 then
                  La_law_1045 (La_law_18 n) a0 a1 a2 x3 r299.2
                else
                  some (0, r299.2)
              else
                if ((oand v29 31) : Int) = 5 then
                  (rdI w a0 (w32 (x3 + 1))).bind fun v312 =>
                  (rdI w a0 (w32 (x3 + 2))).bind fun v317 =>
                  (rdI w a0 (w32 (x3 + 3))).bind fun v322 =>
                  (Hh_shape a1 v312 v317 v322 w).bind fun r323 =>
                  (rdI r323.2 a0 (w32 (x3 + 1))).bind fun v331 =>
                  (rdI r323.2 a0 (w32 (x3 + 2))).bind fun v336 =>
                  (rdI r323.2 a0 (w32 (x3 + 3))).bind fun v341 =>
                  (Mo_shape a2 v331 v336 v341 r323.2).bind fun r342 =>
                  if (r323.1 : Int) = r342.1 then
                    La_law_1045 (La_law_18 n) a0 a1 a2 x3 r342.2
                  else
                    some (0, r342.2)
                else
                  if ((oand v29 31) : Int) = 6 then
                    (rdI w a0 (w32 (x3 + 1))).bind fun v355 =>
                    (rdI w a0 (w32 (x3 + 2))).bind fun v360 =>
                    (Hh_heir a1 v355 v360 w).bind fun r361 =>
                    (rdI r361.2 a0 (w32 (x3 + 1))).bind fun v369 =>
                    (rdI r361.2 a0 (w32 (x3 + 2))).bind fun v374 =>
                    (Mo_heir a2 v369 v374 r361.2).bind fun r375 =>
                    if (r361.1 : Int) = r375.1 then
                      La_law_1045 (La_law_18 n) a0 a1 a2 x3 r375.2
                    else
                      some (0, r375.2)
                  else
                    if ((oand v29 31) : Int) = 7 then
                      (rdI w a0 (w32 (x3 + 1))).bind fun v388 =>
                      (rdI w a0 (w32 (x3 + 2))).bind fun v393 =>
                      (Hh_unlike a1 v388 v393 w).bind fun r394 =>
                      (rdI r394.2 a0 (w32 (x3 + 1))).bind fun v402 =>
                      (rdI r394.2 a0 (w32 (x3 + 2))).bind fun v407 =>
                      (Mo_unlike a2 v402 v407 r394.2).bind fun r408 =>
                      if (r394.1 : Int) = r408.1 then
                        La_law_1045 (La_law_18 n) a0 a1 a2 x3 r408.2
                      else
                        some (0, r408.2)
                    else
                      if ((oand v29 31) : Int) = 8 then
                        (rdI w a0 (w32 (x3 + 1))).bind fun v421 =>
                        (Hh_vote a1 v421 w).bind fun r422 =>
                        (rdI r422.2 a0 (w32 (x3 + 1))).bind fun v430 =>
                        (Mo_vote a2 v430 r422.2).bind fun r431 =>
                        if (r422.1 : Int) = r431.1 then
                          La_law_1045 (La_law_18 n) a0 a1 a2 x3 r431.2
                        else
                          some (0, r431.2)
                      else
                        if ((oand v29 31) : Int) = 9 then
                          (Hh_judge a1 w).bind fun r440 =>
                          (Mo_judge a2 r440.2).bind fun r444 =>
                          if (r440.1 : Int) = r444.1 then
                            La_law_1045 (La_law_18 n) a0 a1 a2 x3 r444.2
                          else
                            some (0, r444.2)
                        else
                          if ((oand v29 31) : Int) = 10 then
                            (rdI w a0 (w32 (x3 + 1))).bind fun v457 =>
                            (rdI w a0 (w32 (x3 + 2))).bind fun v462 =>
                            (rdI w a0 (w32 (x3 + 3))).bind fun v467 =>
                            (Hh_lesson a1 v457 v462 v467 w).bind fun r468 =>
                            (rdI r468.2 a0 (w32 (x3 + 1))).bind fun v476 =>
                            (rdI r468.2 a0 (w32 (x3 + 2))).bind fun v481 =>
                            (rdI r468.2 a0 (w32 (x3 + 3))).bind fun v486 =>
                            (Mo_lesson a2 v476 v481 v486 r468.2).bind fun r487 =>
                            if (r468.1 : Int) = r487.1 then
                              La_law_1045 (La_law_18 n) a0 a1 a2 x3 r487.2
                            else
                              some (0, r487.2)
                          else
                            if ((oand v29 31) : Int) = 11 then
                              (rdI w a0 (w32 (x3 + 1))).bind fun v500 =>
                              (Hh_years a1 v500 w).bind fun r501 =>
                              (rdI r501.2 a0 (w32 (x3 + 1))).bind fun v509 =>
                              (Mo_years a2 v509 r501.2).bind fun r510 =>
                              if (r501.1 : Int) = r510.1 then
                                La_law_1045 (La_law_18 n) a0 a1 a2 x3 r510.2
                              else
                                some (0, r510.2)
                            else
                              if ((oand v29 31) : Int) = 12 then
                                (Hh_undo a1 w).bind fun r519 =>
                                (Mo_undo a2 r519.2).bind fun r523 =>
                                if (r519.1 : Int) = r523.1 then
                                  La_law_1045 (La_law_18 n) a0 a1 a2 x3 r523.2
                                else
                                  some (0, r523.2)
                              else
                                if ((oand v29 31) : Int) = 13 then
                                  (rdI w a0 (w32 (x3 + 1))).bind fun v536 =>
                                  (rdI w a0 (w32 (x3 + 2))).bind fun v541 =>
                                  (Hh_book a1 v536 v541 w).bind fun r542 =>
                                  (rdI r542.2 a0 (w32 (x3 + 1))).bind fun v550 =>
                                  (rdI r542.2 a0 (w32 (x3 + 2))).bind fun v555 =>
                                  (Mo_book a2 v550 v555 r542.2).bind fun r556 =>
                                  if (r542.1 : Int) = r556.1 then
                                    La_law_1045 (La_law_18 n) a0 a1 a2 x3 r556.2
                                  else
                                    some (0, r556.2)
                                else
                                  if ((oand v29 31) : Int) = 14 then
                                    (rdI w a0 (w32 (x3 + 1))).bind fun v569 =>
                                    (rdI w a0 (w32 (x3 + 2))).bind fun v574 =>
                                    (Hh_plan a1 v569 v574 w).bind fun r575 =>
                                    (rdI r575.2 a0 (w32 (x3 + 1))).bind fun v583 =>
                                    (rdI r575.2 a0 (w32 (x3 + 2))).bind fun v588 =>
                                    (Mo_plan a2 v583 v588 r575.2).bind fun r589 =>
                                    if (r575.1 : Int) = r589.1 then
                                      La_law_1045 (La_law_18 n) a0 a1 a2 x3 r589.2
                                    else
                                      some (0, r589.2)
                                  else
                                    if ((oand v29 31) : Int) = 15 then
                                      (rdI w a0 (w32 (x3 + 1))).bind fun v602 =>
                                      (rdI w a0 (w32 (x3 + 2))).bind fun v607 =>
                                      (rdI w a0 (w32 (x3 + 3))).bind fun v612 =>
                                      (Hh_planOf a1 v602 v607 v612 w).bind fun r613 =>
                                      (rdI r613.2 a0 (w32 (x3 + 1))).bind fun v621 =>
                                      (rdI r613.2 a0 (w32 (x3 + 2))).bind fun v626 =>
                                      (rdI r613.2 a0 (w32 (x3 + 3))).bind fun v631 =>
                                      (Mo_planOf a2 v621 v626 v631 r613.2).bind fun r632 =>
                                      if (r613.1 : Int) = r632.1 then
                                        La_law_1045 (La_law_18 n) a0 a1 a2 x3 r632.2
                                      else
                                        some (0, r632.2)
                                    else
                                      if ((oand v29 31) : Int) = 16 then
                                        (rdI w a0 (w32 (x3 + 1))).bind fun v645 =>
                                        (Hh_needs a1 v645 w).bind fun r646 =>
                                        (rdI r646.2 a0 (w32 (x3 + 1))).bind fun v654 =>
                                        (Mo_needs a2 v654 r646.2).bind fun r655 =>
                                        if (r646.1 : Int) = r655.1 then
                                          La_law_1045 (La_law_18 n) a0 a1 a2 x3 r655.2
                                        else
                                          some (0, r655.2)
                                      else
                                        if ((oand v29 31) : Int) = 17 then
                                          (rdI w a0 (w32 (x3 + 1))).bind fun v668 =>
                                          (Hh_swing a1 v668 w).bind fun r669 =>
                                          (rdI r669.2 a0 (w32 (x3 + 1))).bind fun v677 =>
                                          (Mo_swing a2 v677 r669.2).bind fun r678 =>
                                          if (r669.1 : Int) = r678.1 then
                                            La_law_1045 (La_law_18 n) a0 a1 a2 x3 r678.2
                                          else
                                            some (0, r678.2)
                                        else
                                          if ((oand v29 31) : Int) = 18 then
                                            (rdI w a0 (w32 (x3 + 1))).bind fun v691 =>
                                            (rdI w a0 (w32 (x3 + 2))).bind fun v696 =>
                                            (Hh_chance a1 v691 v696 w).bind fun r697 =>
                                            (rdI r697.2 a0 (w32 (x3 + 1))).bind fun v705 =>
                                            (rdI r697.2 a0 (w32 (x3 + 2))).bind fun v710 =>
                                            (Mo_chance a2 v705 v710 r697.2).bind fun r711 =>
                                            if (r697.1 : Int) = r711.1 then
                                              La_law_1045 (La_law_18 n) a0 a1 a2 x3 r711.2
                                            else
                                              some (0, r711.2)
                                          else
                                            if ((oand v29 31) : Int) = 19 then
                                              (rdI w a0 (w32 (x3 + 1))).bind fun v724 =>
                                              (Hh_without a1 v724 w).bind fun r725 =>
                                              (rdI r725.2 a0 (w32 (x3 + 1))).bind fun v733 =>
                                              (Mo_without a2 v733 r725.2).bind fun r734 =>
                                              if (r725.1 : Int) = r734.1 then
                                                La_law_1045 (La_law_18 n) a0 a1 a2 x3 r734.2
                                              else
                                                some (0, r734.2)
                                            else
                                              if ((oand v29 31) : Int) = 20 then
                                                (rdI w a0 (w32 (x3 + 1))).bind fun v747 =>
                                                (rdI w a0 (w32 (x3 + 2))).bind fun v752 =>
                                                (Hh_bias a1 v747 v752 w).bind fun r753 =>
                                                (rdI r753.2 a0 (w32 (x3 + 1))).bind fun v761 =>
                                                (rdI r753.2 a0 (w32 (x3 + 2))).bind fun v766 =>
                                                (Mo_bias a2 v761 v766 r753.2).bind fun r767 =>
                                                if (r753.1 : Int) = r767.1 then
                                                  La_law_1045 (La_law_18 n) a0 a1 a2 x3 r767.2
                                                else
                                                  some (0, r767.2)
                                              else
                                                if ((oand v29 31) : Int) = 21 then
                                                  (rdI w a0 (w32 (x3 + 1))).bind fun v780 =>
                                                  (rdI w a0 (w32 (x3 + 2))).bind fun v785 =>
                                                  (rdI w a0 (w32 (x3 + 3))).bind fun v790 =>
                                                  (Hh_bestLetter a1 v780 v785 v790 w).bind fun r791 =>
                                                  (rdI r791.2 a0 (w32 (x3 + 1))).bind fun v799 =>
                                                  (rdI r791.2 a0 (w32 (x3 + 2))).bind fun v804 =>
                                                  (rdI r791.2 a0 (w32 (x3 + 3))).bind fun v809 =>
                                                  (Mo_bestLetter a2 v799 v804 v809 r791.2).bind fun r810 =>
                                                  if (r791.1 : Int) = r810.1 then
                                                    La_law_1045 (La_law_18 n) a0 a1 a2 x3 r810.2
                                                  else
                                                    some (0, r810.2)
                                                else
                                                  if ((oand v29 31) : Int) = 22 then
                                                    (rdI w a0 (w32 (x3 + 1))).bind fun v823 =>
                                                    (Hh_reign a1 v823 w).bind fun r824 =>
                                                    (rdI r824.2 a0 (w32 (x3 + 1))).bind fun v832 =>
                                                    (Mo_reign a2 v832 r824.2).bind fun r833 =>
                                                    if (r824.1 : Int) = r833.1 then
                                                      La_law_1045 (La_law_18 n) a0 a1 a2 x3 r833.2
                                                    else
                                                      some (0, r833.2)
                                                  else
                                                    if ((oand v29 31) : Int) = 23 then
                                                      (rdI w a0 (w32 (x3 + 1))).bind fun v846 =>
                                                      (rdI w a0 (w32 (x3 + 2))).bind fun v851 =>
                                                      (Hh_copied a1 v846 v851 w).bind fun r852 =>
                                                      (rdI r852.2 a0 (w32 (x3 + 1))).bind fun v860 =>
                                                      (rdI r852.2 a0 (w32 (x3 + 2))).bind fun v865 =>
                                                      (Mo_copied a2 v860 v865 r852.2).bind fun r866 =>
                                                      if (r852.1 : Int) = r866.1 then
                                                        La_law_1045 (La_law_18 n) a0 a1 a2 x3 r866.2
                                                      else
                                                        some (0, r866.2)
                                                    else
                                                      if ((oand v29 31) : Int) = 24 then
                                                        (Hh_nobody a1 w).bind fun r875 =>
                                                        (Mo_nobody a2 r875.2).bind fun r879 =>
                                                        if (r875.1 : Int) = r879.1 then
                                                          La_law_1045 (La_law_18 n) a0 a1 a2 x3 r879.2
                                                        else
                                                          some (0, r879.2)
                                                      else
                                                        if ((oand v29 31) : Int) = 25 then
                                                          (rdI w a0 (w32 (x3 + 1))).bind fun v892 =>
                                                          (rdI w a0 (w32 (x3 + 2))).bind fun v897 =>
                                                          (Hh_tell a1 v892 v897 w).bind fun r898 =>
                                                          (rdI r898.2 a0 (w32 (x3 + 1))).bind fun v906 =>
                                                          (rdI r898.2 a0 (w32 (x3 + 2))).bind fun v911 =>
                                                          (Mo_tell a2 v906 v911 r898.2).bind fun r912 =>
                                                          if (r898.1 : Int) = r912.1 then
                                                            La_law_1045 (La_law_18 n) a0 a1 a2 x3 r912.2
                                                          else
                                                            some (0, r912.2)
                                                        else
                                                          if ((oand v29 31) : Int) = 26 then
                                                            (Hh_forget a1 w).bind fun r921 =>
                                                            (Mo_forget a2 r921.2).bind fun r925 =>
                                                            if (r921.1 : Int) = r925.1 then
                                                              La_law_1045 (La_law_18 n) a0 a1 a2 x3 r925.2
                                                            else
                                                              some (0, r925.2)
                                                          else
                                                            if ((oand v29 31) : Int) = 27 then
                                                              (rdI w a0 (w32 (x3 + 1))).bind fun v938 =>
                                                              (rdI w a0 (w32 (x3 + 2))).bind fun v943 =>
                                                              (rdI w a0 (w32 (x3 + 3))).bind fun v948 =>
                                                              (Hh_dated a1 v938 v943 v948 w).bind fun r949 =>
                                                              (rdI r949.2 a0 (w32 (x3 + 1))).bind fun v957 =>
                                                              (rdI r949.2 a0 (w32 (x3 + 2))).bind fun v962 =>
                                                              (rdI r949.2 a0 (w32 (x3 + 3))).bind fun v967 =>
                                                              (Mo_dated a2 v957 v962 v967 r949.2).bind fun r968 =>
                                                              if (r949.1 : Int) = r968.1 then
                                                                La_law_1045 (La_law_18 n) a0 a1 a2 x3 r968.2
                                                              else
                                                                some (0, r968.2)
                                                            else
                                                              if ((oand v29 31) : Int) = 28 then
                                                                (rdI w a0 (w32 (x3 + 1))).bind fun v981 =>
                                                                (Hh_hold a1 v981 w).bind fun r982 =>
                                                                (rdI r982.2 a0 (w32 (x3 + 1))).bind fun v990 =>
                                                                (Mo_hold a2 v990 r982.2).bind fun r991 =>
                                                                if (r982.1 : Int) = r991.1 then
                                                                  La_law_1045 (La_law_18 n) a0 a1 a2 x3 r991.2
                                                                else
                                                                  some (0, r991.2)
                                                              else
                                                                if ((oand v29 31) : Int) = 29 then
                                                                  (rdI w a0 (w32 (x3 + 1))).bind fun v1004 =>
                                                                  (Hh_restore a1 v1004 w).bind fun r1005 =>
                                                                  (rdI r1005.2 a0 (w32 (x3 + 1))).bind fun v1013 =>
                                                                  (Mo_restore a2 v1013 r1005.2).bind fun r1014 =>
                                                                  if (r1005.1 : Int) = r1014.1 then
                                                                    La_law_1045 (La_law_18 n) a0 a1 a2 x3 r1014.2
                                                                  else
                                                                    some (0, r1014.2)
                                                                else
                                                                  if ((oand v29 31) : Int) = 30 then
                                                                    (rdI w a0 (w32 (x3 + 1))).bind fun v1027 =>
                                                                    (Hh_count a1 v1027 w).bind fun r1028 =>
                                                                    (rdI r1028.2 a0 (w32 (x3 + 1))).bind fun v1036 =>
                                                                    (Mo_count a2 v1036 r1028.2).bind fun r1037 =>
                                                                    if (r1028.1 : Int) = r1037.1 then
                                                                      La_law_1045 (La_law_18 n) a0 a1 a2 x3 r1037.2
                                                                    else
                                                                      some (0, r1037.2)
                                                                  else
                                                                    La_law_1045 (La_law_18 n) a0 a1 a2 x3 w
theorem s_La_law_18 {g : Gp} {l : Launch} {D : Nat} (hD : 105 ≤ D) : ∀ (n : Nat) (a0 : Nat) (a1 : Nat) (a2 : Nat) (x3 : Int) (w : Wd) (r : Int × Wd), La_law_18 n a0 a1 a2 x3 w = some r → Rn g l D 239 18 [(0, .inr (.inr a0)), (1, .inr (.inr a1)), (2, .inr (.inr a2)), (3, .inl x3)] [] w (some (.inl r.1)) r.2 := by
  obtain ⟨D, rfl⟩ : ∃ D1, D = D1 + 1 := ⟨D - 1, by omega⟩
  intro n
  induction n with
  | zero => intro a0 a1 a2 x3 w r h; cases (show (none : Option (Int × Wd)) = some r from h)
  | succ n ih =>
    intro a0 a1 a2 x3 w r h
    unfold La_law_18 at h
    refine rn_iload_n i239_18 rfl ?_
    refine fr_aload_n i239_19 rfl ?_
    obtain ⟨v20, h20, h⟩ := Option.bind_eq_some_iff.mp h
    refine rn_alen i239_20 h20 ?_
    refine rn_bipush i239_21 ?_
    refine rn_isub i239_23 ?_
    by_cases c24 : ((w32 (v20 - 6)) : Int) < x3
    · rw [if_pos c24] at h
      refine rn_icmp_gt_t i239_24 c24 ?_
      refine rn_iconst i239_1051 ?_
      obtain rfl := Option.some.inj h
      exact rn_retZ i239_1052 mr239 (by decide)
    · rw [if_neg c24] at h
      refine rn_icmp_gt_f i239_24 c24 ?_
      refine fr_aload_n i239_27 rfl ?_
      refine rn_iload_n i239_28 rfl ?_
      obtain ⟨v29, h29, h⟩ := Option.bind_eq_some_iff.mp h
      refine rn_iald i239_29 h29 ?_
      refine rn_bipush i239_30 ?_
      refine rn_iand i239_32 ?_
      by_cases c33_0 : ((oand v29 31) : Int) = 0
      · rw [if_pos c33_0] at h
        refine rn_tsw_in (tgt := 172) i239_33 0 (by omega) (by omega) rfl rfl ?_
        refine fr_aload_n i239_172 rfl ?_
        refine fr_aload_n i239_173 rfl ?_
        refine rn_iload_n i239_174 rfl ?_
        refine rn_iconst i239_175 ?_
        refine rn_iadd i239_176 ?_
        obtain ⟨v177, h177, h⟩ := Option.bind_eq_some_iff.mp h
        refine rn_iald i239_177 h177 ?_
        refine fr_aload_n i239_178 rfl ?_
        refine rn_iload_n i239_179 rfl ?_
        refine rn_iconst i239_180 ?_
        refine rn_iadd i239_181 ?_
        obtain ⟨v182, h182, h⟩ := Option.bind_eq_some_iff.mp h
        refine rn_iald i239_182 h182 ?_
        refine fr_aload_n i239_183 rfl ?_
        refine rn_iload_n i239_184 rfl ?_
        refine rn_iconst i239_185 ?_
        refine rn_iadd i239_186 ?_
        obtain ⟨v187, h187, h⟩ := Option.bind_eq_some_iff.mp h
        refine rn_iald i239_187 h187 ?_
        refine fr_aload_n i239_188 rfl ?_
        refine rn_iload_n i239_189 rfl ?_
        refine rn_iconst i239_190 ?_
        refine rn_iadd i239_191 ?_
        obtain ⟨v192, h192, h⟩ := Option.bind_eq_some_iff.mp h
        refine rn_iald i239_192 h192 ?_
        refine fr_aload_n i239_193 rfl ?_
        refine rn_iload_n i239_194 rfl ?_
        refine rn_iconst i239_195 ?_
        refine rn_iadd i239_196 ?_
        obtain ⟨v197, h197, h⟩ := Option.bind_eq_some_iff.mp h
        refine rn_iald i239_197 h197 ?_
        obtain ⟨r198, h198, h⟩ := Option.bind_eq_some_iff.mp h
        obtain ⟨g198, c198⟩ := S_Hh_feed a1 v177 v182 v187 v192 v197 w r198 h198
        refine fr_callV (a := a1) (As := [.inl v177, .inl v182, .inl v187, .inl v192, .inl v197]) (st := []) i239_198 (cq103 a1 v177 v182 v187 v192 v197) rfl (Nat.le_of_ble_eq_true rfl) g198 (c198 _ (by omega)) ?_
        show Rn _ _ _ _ _ _ [.inl r198.1] _ _ _
        refine fr_aload_n i239_201 rfl ?_
        refine fr_aload_n i239_202 rfl ?_
        refine rn_iload_n i239_203 rfl ?_
        refine rn_iconst i239_204 ?_
        refine rn_iadd i239_205 ?_
        obtain ⟨v206, h206, h⟩ := Option.bind_eq_some_iff.mp h
        refine rn_iald i239_206 h206 ?_
        refine fr_aload_n i239_207 rfl ?_
        refine rn_iload_n i239_208 rfl ?_
        refine rn_iconst i239_209 ?_
        refine rn_iadd i239_210 ?_
        obtain ⟨v211, h211, h⟩ := Option.bind_eq_some_iff.mp h
        refine rn_iald i239_211 h211 ?_
        refine fr_aload_n i239_212 rfl ?_
        refine rn_iload_n i239_213 rfl ?_
        refine rn_iconst i239_214 ?_
        refine rn_iadd i239_215 ?_
        obtain ⟨v216, h216, h⟩ := Option.bind_eq_some_iff.mp h
        refine rn_iald i239_216 h216 ?_
        refine fr_aload_n i239_217 rfl ?_
        refine rn_iload_n i239_218 rfl ?_
        refine rn_iconst i239_219 ?_
        refine rn_iadd i239_220 ?_
        obtain ⟨v221, h221, h⟩ := Option.bind_eq_some_iff.mp h
        refine rn_iald i239_221 h221 ?_
        refine fr_aload_n i239_222 rfl ?_
        refine rn_iload_n i239_223 rfl ?_
        refine rn_iconst i239_224 ?_
        refine rn_iadd i239_225 ?_
        obtain ⟨v226, h226, h⟩ := Option.bind_eq_some_iff.mp h
        refine rn_iald i239_226 h226 ?_
        obtain ⟨r227, h227, h⟩ := Option.bind_eq_some_iff.mp h
        obtain ⟨g227, c227⟩ := S_Mo_feed a2 v206 v211 v216 v221 v226 r198.2 r227 h227
        refine fr_callV (a := a2) (As := [.inl v206, .inl v211, .inl v216, .inl v221, .inl v226]) (st := [.inl r198.1]) i239_227 (cq146 a2 v206 v211 v216 v221 v226) rfl (Nat.le_of_ble_eq_true rfl) g227 (c227 _ (by omega)) ?_
        show Rn _ _ _ _ _ _ [.inl r227.1, .inl r198.1] _ _ _
        by_cases c230 : (r198.1 : Int) = r227.1
        · rw [if_pos c230] at h
          refine rn_icmp_eq_t i239_230 c230 ?_
          exact rn_sub [0, 1, 2, 3] rfl (s_La_law_1045 hD (La_law_18 n) ih a0 a1 a2 x3 r227.2 r h)
        · rw [if_neg c230] at h
          refine rn_icmp_eq_f i239_230 c230 ?_
          refine rn_iconst i239_233 ?_
          obtain rfl := Option.some.inj h
          exact rn_retZ i239_234 mr239 (by decide)
      · rw [if_neg c33_0] at h
        by_cases c33_1 : ((oand v29 31) : Int) = 1
        · rw [if_pos c33_1] at h
          refine rn_tsw_in (tgt := 235) i239_33 1 (by omega) (by omega) rfl rfl ?_
          refine fr_aload_n i239_235 rfl ?_
          refine fr_aload_n i239_236 rfl ?_
          refine rn_iload_n i239_237 rfl ?_
          refine rn_iconst i239_238 ?_
          refine rn_iadd i239_239 ?_
          obtain ⟨v240, h240, h⟩ := Option.bind_eq_some_iff.mp h
          refine rn_iald i239_240 h240 ?_
          obtain ⟨r241, h241, h⟩ := Option.bind_eq_some_iff.mp h
          obtain ⟨g241, c241⟩ := S_Hh_back a1 v240 w r241 h241
          refine fr_callV (a := a1) (As := [.inl v240]) (st := []) i239_241 (cq105 a1 v240) rfl (Nat.le_of_ble_eq_true rfl) g241 (c241 _ (by omega)) ?_
          show Rn _ _ _ _ _ _ [.inl r241.1] _ _ _
          refine fr_aload_n i239_244 rfl ?_
          refine fr_aload_n i239_245 rfl ?_
          refine rn_iload_n i239_246 rfl ?_
          refine rn_iconst i239_247 ?_
          refine rn_iadd i239_248 ?_
          obtain ⟨v249, h249, h⟩ := Option.bind_eq_some_iff.mp h
          refine rn_iald i239_249 h249 ?_
          obtain ⟨r250, h250, h⟩ := Option.bind_eq_some_iff.mp h
          obtain ⟨g250, c250⟩ := S_Mo_back a2 v249 r241.2 r250 h250
          refine fr_callV (a := a2) (As := [.inl v249]) (st := [.inl r241.1]) i239_250 (cq148 a2 v249) rfl (Nat.le_of_ble_eq_true rfl) g250 (c250 _ (by omega)) ?_
          show Rn _ _ _ _ _ _ [.inl r250.1, .inl r241.1] _ _ _
          by_cases c253 : (r241.1 : Int) = r250.1
          · rw [if_pos c253] at h
            refine rn_icmp_eq_t i239_253 c253 ?_
            exact rn_sub [0, 1, 2, 3] rfl (s_La_law_1045 hD (La_law_18 n) ih a0 a1 a2 x3 r250.2 r h)
          · rw [if_neg c253] at h
            refine rn_icmp_eq_f i239_253 c253 ?_
            refine rn_iconst i239_256 ?_
            obtain rfl := Option.some.inj h
            exact rn_retZ i239_257 mr239 (by decide)
        · rw [if_neg c33_1] at h
          by_cases c33_2 : ((oand v29 31) : Int) = 2
          · rw [if_pos c33_2] at h
            refine rn_tsw_in (tgt := 258) i239_33 2 (by omega) (by omega) rfl rfl ?_
            refine fr_aload_n i239_258 rfl ?_
            obtain ⟨r259, h259, h⟩ := Option.bind_eq_some_iff.mp h
            obtain ⟨g259, c259⟩ := S_Hh_read a1 w r259 h259
            refine fr_callV (a := a1) (As := []) (st := []) i239_259 (cq106 a1) rfl (Nat.le_of_ble_eq_true rfl) g259 (c259 _ (by omega)) ?_
            show Rn _ _ _ _ _ _ [.inl r259.1] _ _ _
            refine fr_aload_n i239_262 rfl ?_
            obtain ⟨r263, h263, h⟩ := Option.bind_eq_some_iff.mp h
            obtain ⟨g263, c263⟩ := S_Mo_read a2 r259.2 r263 h263
            refine fr_callV (a := a2) (As := []) (st := [.inl r259.1]) i239_263 (cq163 a2) rfl (Nat.le_of_ble_eq_true rfl) g263 (c263 _ (by omega)) ?_
            show Rn _ _ _ _ _ _ [.inl r263.1, .inl r259.1] _ _ _
            by_cases c266 : (r259.1 : Int) = r263.1
            · rw [if_pos c266] at h
              refine rn_icmp_eq_t i239_266 c266 ?_
              exact rn_sub [0, 1, 2, 3] rfl (s_La_law_1045 hD (La_law_18 n) ih a0 a1 a2 x3 r263.2 r h)
            · rw [if_neg c266] at h
              refine rn_icmp_eq_f i239_266 c266 ?_
              refine rn_iconst i239_269 ?_
              obtain rfl := Option.some.inj h
              exact rn_retZ i239_270 mr239 (by decide)
          · rw [if_neg c33_2] at h
            by_cases c33_3 : ((oand v29 31) : Int) = 3
            · rw [if_pos c33_3] at h
              refine rn_tsw_in (tgt := 271) i239_33 3 (by omega) (by omega) rfl rfl ?_
              refine fr_aload_n i239_271 rfl ?_
              obtain ⟨r272, h272, h⟩ := Option.bind_eq_some_iff.mp h
              obtain ⟨g272, c272⟩ := S_Hh_place a1 w r272 h272
              refine fr_callV (a := a1) (As := []) (st := []) i239_272 (cq108 a1) rfl (Nat.le_of_ble_eq_true rfl) g272 (c272 _ (by omega)) ?_
              show Rn _ _ _ _ _ _ [.inl r272.1] _ _ _
              refine fr_aload_n i239_275 rfl ?_
              obtain ⟨r276, h276, h⟩ := Option.bind_eq_some_iff.mp h
              obtain ⟨g276, c276⟩ := S_Mo_place a2 r272.2 r276 h276
              refine fr_callV (a := a2) (As := []) (st := [.inl r272.1]) i239_276 (cq164 a2) rfl (Nat.le_of_ble_eq_true rfl) g276 (c276 _ (by omega)) ?_
              show Rn _ _ _ _ _ _ [.inl r276.1, .inl r272.1] _ _ _
              by_cases c279 : (r272.1 : Int) = r276.1
              · rw [if_pos c279] at h
                refine rn_icmp_eq_t i239_279 c279 ?_
                exact rn_sub [0, 1, 2, 3] rfl (s_La_law_1045 hD (La_law_18 n) ih a0 a1 a2 x3 r276.2 r h)
              · rw [if_neg c279] at h
                refine rn_icmp_eq_f i239_279 c279 ?_
                refine rn_iconst i239_282 ?_
                obtain rfl := Option.some.inj h
                exact rn_retZ i239_283 mr239 (by decide)
            · rw [if_neg c33_3] at h
              by_cases c33_4 : ((oand v29 31) : Int) = 4
              · rw [if_pos c33_4] at h
                refine rn_tsw_in (tgt := 284) i239_33 4 (by omega) (by omega) rfl rfl ?_
                refine fr_aload_n i239_284 rfl ?_
                refine fr_aload_n i239_285 rfl ?_
                refine rn_iload_n i239_286 rfl ?_
                refine rn_iconst i239_287 ?_
                refine rn_iadd i239_288 ?_
                obtain ⟨v289, h289, h⟩ := Option.bind_eq_some_iff.mp h
                refine rn_iald i239_289 h289 ?_
                obtain ⟨r290, h290, h⟩ := Option.bind_eq_some_iff.mp h
                obtain ⟨g290, c290⟩ := S_Hh_hand a1 v289 w r290 h290
                refine fr_callV (a := a1) (As := [.inl v289]) (st := []) i239_290 (cq113 a1 v289) rfl (Nat.le_of_ble_eq_true rfl) g290 (c290 _ (by omega)) ?_
                show Rn _ _ _ _ _ _ [.inl r290.1] _ _ _
                refine fr_aload_n i239_293 rfl ?_
                refine fr_aload_n i239_294 rfl ?_
                refine rn_iload_n i239_295 rfl ?_
                refine rn_iconst i239_296 ?_
                refine rn_iadd i239_297 ?_
                obtain ⟨v298, h298, h⟩ := Option.bind_eq_some_iff.mp h
                refine rn_iald i239_298 h298 ?_
                obtain ⟨r299, h299, h⟩ := Option.bind_eq_some_iff.mp h
                obtain ⟨g299, c299⟩ := S_Mo_hand a2 v298 r290.2 r299 h299
                refine fr_callV (a := a2) (As := [.inl v298]) (st := [.inl r290.1]) i239_299 (cq205 a2 v298) rfl (Nat.le_of_ble_eq_true rfl) g299 (c299 _ (by omega)) ?_
                show Rn _ _ _ _ _ _ [.inl r299.1, .inl r290.1] _ _ _
                by_cases c302 : (r290.1 : Int) = r299.1
                · rw [if_pos c302] at h
                  refine rn_icmp_eq_t i239_302 c302 ?_
                  exact rn_sub [0, 1, 2, 3] rfl (s_La_law_1045 hD (La_law_18 n) ih a0 a1 a2 x3 r299.2 r h)
                · rw [if_neg c302] at h
                  refine rn_icmp_eq_f i239_302 c302 ?_
                  refine rn_iconst i239_305 ?_
                  obtain rfl := Option.some.inj h
                  exact rn_retZ i239_306 mr239 (by decide)
              · rw [if_neg c33_4] at h
                by_cases c33_5 : ((oand v29 31) : Int) = 5
                · rw [if_pos c33_5] at h
                  refine rn_tsw_in (tgt := 307) i239_33 5 (by omega) (by omega) rfl rfl ?_
                  refine fr_aload_n i239_307 rfl ?_
                  refine fr_aload_n i239_308 rfl ?_
                  refine rn_iload_n i239_309 rfl ?_
                  refine rn_iconst i239_310 ?_
                  refine rn_iadd i239_311 ?_
                  obtain ⟨v312, h312, h⟩ := Option.bind_eq_some_iff.mp h
                  refine rn_iald i239_312 h312 ?_
                  refine fr_aload_n i239_313 rfl ?_
                  refine rn_iload_n i239_314 rfl ?_
                  refine rn_iconst i239_315 ?_
                  refine rn_iadd i239_316 ?_
                  obtain ⟨v317, h317, h⟩ := Option.bind_eq_some_iff.mp h
                  refine rn_iald i239_317 h317 ?_
                  refine fr_aload_n i239_318 rfl ?_
                  refine rn_iload_n i239_319 rfl ?_
                  refine rn_iconst i239_320 ?_
                  refine rn_iadd i239_321 ?_
                  obtain ⟨v322, h322, h⟩ := Option.bind_eq_some_iff.mp h
                  refine rn_iald i239_322 h322 ?_
                  obtain ⟨r323, h323, h⟩ := Option.bind_eq_some_iff.mp h
                  obtain ⟨g323, c323⟩ := S_Hh_shape a1 v312 v317 v322 w r323 h323
                  refine fr_callV (a := a1) (As := [.inl v312, .inl v317, .inl v322]) (st := []) i239_323 (cq114 a1 v312 v317 v322) rfl (Nat.le_of_ble_eq_true rfl) g323 (c323 _ (by omega)) ?_
                  show Rn _ _ _ _ _ _ [.inl r323.1] _ _ _
                  refine fr_aload_n i239_326 rfl ?_
                  refine fr_aload_n i239_327 rfl ?_
                  refine rn_iload_n i239_328 rfl ?_
                  refine rn_iconst i239_329 ?_
                  refine rn_iadd i239_330 ?_
                  obtain ⟨v331, h331, h⟩ := Option.bind_eq_some_iff.mp h
                  refine rn_iald i239_331 h331 ?_
                  refine fr_aload_n i239_332 rfl ?_
                  refine rn_iload_n i239_333 rfl ?_
                  refine rn_iconst i239_334 ?_
                  refine rn_iadd i239_335 ?_
                  obtain ⟨v336, h336, h⟩ := Option.bind_eq_some_iff.mp h
                  refine rn_iald i239_336 h336 ?_
                  refine fr_aload_n i239_337 rfl ?_
                  refine rn_iload_n i239_338 rfl ?_
                  refine rn_iconst i239_339 ?_
                  refine rn_iadd i239_340 ?_
                  obtain ⟨v341, h341, h⟩ := Option.bind_eq_some_iff.mp h
                  refine rn_iald i239_341 h341 ?_
                  obtain ⟨r342, h342, h⟩ := Option.bind_eq_some_iff.mp h
                  obtain ⟨g342, c342⟩ := S_Mo_shape a2 v331 v336 v341 r323.2 r342 h342
                  refine fr_callV (a := a2) (As := [.inl v331, .inl v336, .inl v341]) (st := [.inl r323.1]) i239_342 (cq206 a2 v331 v336 v341) rfl (Nat.le_of_ble_eq_true rfl) g342 (c342 _ (by omega)) ?_
                  show Rn _ _ _ _ _ _ [.inl r342.1, .inl r323.1] _ _ _
                  by_cases c345 : (r323.1 : Int) = r342.1
                  · rw [if_pos c345] at h
                    refine rn_icmp_eq_t i239_345 c345 ?_
                    exact rn_sub [0, 1, 2, 3] rfl (s_La_law_1045 hD (La_law_18 n) ih a0 a1 a2 x3 r342.2 r h)
                  · rw [if_neg c345] at h
                    refine rn_icmp_eq_f i239_345 c345 ?_
                    refine rn_iconst i239_348 ?_
                    obtain rfl := Option.some.inj h
                    exact rn_retZ i239_349 mr239 (by decide)
                · rw [if_neg c33_5] at h
                  by_cases c33_6 : ((oand v29 31) : Int) = 6
                  · rw [if_pos c33_6] at h
                    refine rn_tsw_in (tgt := 350) i239_33 6 (by omega) (by omega) rfl rfl ?_
                    refine fr_aload_n i239_350 rfl ?_
                    refine fr_aload_n i239_351 rfl ?_
                    refine rn_iload_n i239_352 rfl ?_
                    refine rn_iconst i239_353 ?_
                    refine rn_iadd i239_354 ?_
                    obtain ⟨v355, h355, h⟩ := Option.bind_eq_some_iff.mp h
                    refine rn_iald i239_355 h355 ?_
                    refine fr_aload_n i239_356 rfl ?_
                    refine rn_iload_n i239_357 rfl ?_
                    refine rn_iconst i239_358 ?_
                    refine rn_iadd i239_359 ?_
                    obtain ⟨v360, h360, h⟩ := Option.bind_eq_some_iff.mp h
                    refine rn_iald i239_360 h360 ?_
                    obtain ⟨r361, h361, h⟩ := Option.bind_eq_some_iff.mp h
                    obtain ⟨g361, c361⟩ := S_Hh_heir a1 v355 v360 w r361 h361
                    refine fr_callV (a := a1) (As := [.inl v355, .inl v360]) (st := []) i239_361 (cq115 a1 v355 v360) rfl (Nat.le_of_ble_eq_true rfl) g361 (c361 _ (by omega)) ?_
                    show Rn _ _ _ _ _ _ [.inl r361.1] _ _ _
                    refine fr_aload_n i239_364 rfl ?_
                    refine fr_aload_n i239_365 rfl ?_
                    refine rn_iload_n i239_366 rfl ?_
                    refine rn_iconst i239_367 ?_
                    refine rn_iadd i239_368 ?_
                    obtain ⟨v369, h369, h⟩ := Option.bind_eq_some_iff.mp h
                    refine rn_iald i239_369 h369 ?_
                    refine fr_aload_n i239_370 rfl ?_
                    refine rn_iload_n i239_371 rfl ?_
                    refine rn_iconst i239_372 ?_
                    refine rn_iadd i239_373 ?_
                    obtain ⟨v374, h374, h⟩ := Option.bind_eq_some_iff.mp h
                    refine rn_iald i239_374 h374 ?_
                    obtain ⟨r375, h375, h⟩ := Option.bind_eq_some_iff.mp h
                    obtain ⟨g375, c375⟩ := S_Mo_heir a2 v369 v374 r361.2 r375 h375
                    refine fr_callV (a := a2) (As := [.inl v369, .inl v374]) (st := [.inl r361.1]) i239_375 (cq207 a2 v369 v374) rfl (Nat.le_of_ble_eq_true rfl) g375 (c375 _ (by omega)) ?_
                    show Rn _ _ _ _ _ _ [.inl r375.1, .inl r361.1] _ _ _
                    by_cases c378 : (r361.1 : Int) = r375.1
                    · rw [if_pos c378] at h
                      refine rn_icmp_eq_t i239_378 c378 ?_
                      exact rn_sub [0, 1, 2, 3] rfl (s_La_law_1045 hD (La_law_18 n) ih a0 a1 a2 x3 r375.2 r h)
                    · rw [if_neg c378] at h
                      refine rn_icmp_eq_f i239_378 c378 ?_
                      refine rn_iconst i239_381 ?_
                      obtain rfl := Option.some.inj h
                      exact rn_retZ i239_382 mr239 (by decide)
                  · rw [if_neg c33_6] at h
                    by_cases c33_7 : ((oand v29 31) : Int) = 7
                    · rw [if_pos c33_7] at h
                      refine rn_tsw_in (tgt := 383) i239_33 7 (by omega) (by omega) rfl rfl ?_
                      refine fr_aload_n i239_383 rfl ?_
                      refine fr_aload_n i239_384 rfl ?_
                      refine rn_iload_n i239_385 rfl ?_
                      refine rn_iconst i239_386 ?_
                      refine rn_iadd i239_387 ?_
                      obtain ⟨v388, h388, h⟩ := Option.bind_eq_some_iff.mp h
                      refine rn_iald i239_388 h388 ?_
                      refine fr_aload_n i239_389 rfl ?_
                      refine rn_iload_n i239_390 rfl ?_
                      refine rn_iconst i239_391 ?_
                      refine rn_iadd i239_392 ?_
                      obtain ⟨v393, h393, h⟩ := Option.bind_eq_some_iff.mp h
                      refine rn_iald i239_393 h393 ?_
                      obtain ⟨r394, h394, h⟩ := Option.bind_eq_some_iff.mp h
                      obtain ⟨g394, c394⟩ := S_Hh_unlike a1 v388 v393 w r394 h394
                      refine fr_callV (a := a1) (As := [.inl v388, .inl v393]) (st := []) i239_394 (cq117 a1 v388 v393) rfl (Nat.le_of_ble_eq_true rfl) g394 (c394 _ (by omega)) ?_
                      show Rn _ _ _ _ _ _ [.inl r394.1] _ _ _
                      refine fr_aload_n i239_397 rfl ?_
                      refine fr_aload_n i239_398 rfl ?_
                      refine rn_iload_n i239_399 rfl ?_
                      refine rn_iconst i239_400 ?_
                      refine rn_iadd i239_401 ?_
                      obtain ⟨v402, h402, h⟩ := Option.bind_eq_some_iff.mp h
                      refine rn_iald i239_402 h402 ?_
                      refine fr_aload_n i239_403 rfl ?_
                      refine rn_iload_n i239_404 rfl ?_
                      refine rn_iconst i239_405 ?_
                      refine rn_iadd i239_406 ?_
                      obtain ⟨v407, h407, h⟩ := Option.bind_eq_some_iff.mp h
                      refine rn_iald i239_407 h407 ?_
                      obtain ⟨r408, h408, h⟩ := Option.bind_eq_some_iff.mp h
                      obtain ⟨g408, c408⟩ := S_Mo_unlike a2 v402 v407 r394.2 r408 h408
                      refine fr_callV (a := a2) (As := [.inl v402, .inl v407]) (st := [.inl r394.1]) i239_408 (cq208 a2 v402 v407) rfl (Nat.le_of_ble_eq_true rfl) g408 (c408 _ (by omega)) ?_
                      show Rn _ _ _ _ _ _ [.inl r408.1, .inl r394.1] _ _ _
                      by_cases c411 : (r394.1 : Int) = r408.1
                      · rw [if_pos c411] at h
                        refine rn_icmp_eq_t i239_411 c411 ?_
                        exact rn_sub [0, 1, 2, 3] rfl (s_La_law_1045 hD (La_law_18 n) ih a0 a1 a2 x3 r408.2 r h)
                      · rw [if_neg c411] at h
                        refine rn_icmp_eq_f i239_411 c411 ?_
                        refine rn_iconst i239_414 ?_
                        obtain rfl := Option.some.inj h
                        exact rn_retZ i239_415 mr239 (by decide)
                    · rw [if_neg c33_7] at h
                      by_cases c33_8 : ((oand v29 31) : Int) = 8
                      · rw [if_pos c33_8] at h
                        refine rn_tsw_in (tgt := 416) i239_33 8 (by omega) (by omega) rfl rfl ?_
                        refine fr_aload_n i239_416 rfl ?_
                        refine fr_aload_n i239_417 rfl ?_
                        refine rn_iload_n i239_418 rfl ?_
                        refine rn_iconst i239_419 ?_
                        refine rn_iadd i239_420 ?_
                        obtain ⟨v421, h421, h⟩ := Option.bind_eq_some_iff.mp h
                        refine rn_iald i239_421 h421 ?_
                        obtain ⟨r422, h422, h⟩ := Option.bind_eq_some_iff.mp h
                        obtain ⟨g422, c422⟩ := S_Hh_vote a1 v421 w r422 h422
                        refine fr_callV (a := a1) (As := [.inl v421]) (st := []) i239_422 (cq118 a1 v421) rfl (Nat.le_of_ble_eq_true rfl) g422 (c422 _ (by omega)) ?_
                        show Rn _ _ _ _ _ _ [.inl r422.1] _ _ _
                        refine fr_aload_n i239_425 rfl ?_
                        refine fr_aload_n i239_426 rfl ?_
                        refine rn_iload_n i239_427 rfl ?_
                        refine rn_iconst i239_428 ?_
                        refine rn_iadd i239_429 ?_
                        obtain ⟨v430, h430, h⟩ := Option.bind_eq_some_iff.mp h
                        refine rn_iald i239_430 h430 ?_
                        obtain ⟨r431, h431, h⟩ := Option.bind_eq_some_iff.mp h
                        obtain ⟨g431, c431⟩ := S_Mo_vote a2 v430 r422.2 r431 h431
                        refine fr_callV (a := a2) (As := [.inl v430]) (st := [.inl r422.1]) i239_431 (cq210 a2 v430) rfl (Nat.le_of_ble_eq_true rfl) g431 (c431 _ (by omega)) ?_
                        show Rn _ _ _ _ _ _ [.inl r431.1, .inl r422.1] _ _ _
                        by_cases c434 : (r422.1 : Int) = r431.1
                        · rw [if_pos c434] at h
                          refine rn_icmp_eq_t i239_434 c434 ?_
                          exact rn_sub [0, 1, 2, 3] rfl (s_La_law_1045 hD (La_law_18 n) ih a0 a1 a2 x3 r431.2 r h)
                        · rw [if_neg c434] at h
                          refine rn_icmp_eq_f i239_434 c434 ?_
                          refine rn_iconst i239_437 ?_
                          obtain rfl := Option.some.inj h
                          exact rn_retZ i239_438 mr239 (by decide)
                      · rw [if_neg c33_8] at h
                        by_cases c33_9 : ((oand v29 31) : Int) = 9
                        · rw [if_pos c33_9] at h
                          refine rn_tsw_in (tgt := 439) i239_33 9 (by omega) (by omega) rfl rfl ?_
                          refine fr_aload_n i239_439 rfl ?_
                          obtain ⟨r440, h440, h⟩ := Option.bind_eq_some_iff.mp h
                          obtain ⟨g440, c440⟩ := S_Hh_judge a1 w r440 h440
                          refine fr_callV (a := a1) (As := []) (st := []) i239_440 (cq119 a1) rfl (Nat.le_of_ble_eq_true rfl) g440 (c440 _ (by omega)) ?_
                          show Rn _ _ _ _ _ _ [.inl r440.1] _ _ _
                          refine fr_aload_n i239_443 rfl ?_
                          obtain ⟨r444, h444, h⟩ := Option.bind_eq_some_iff.mp h
                          obtain ⟨g444, c444⟩ := S_Mo_judge a2 r440.2 r444 h444
                          refine fr_callV (a := a2) (As := []) (st := [.inl r440.1]) i239_444 (cq211 a2) rfl (Nat.le_of_ble_eq_true rfl) g444 (c444 _ (by omega)) ?_
                          show Rn _ _ _ _ _ _ [.inl r444.1, .inl r440.1] _ _ _
                          by_cases c447 : (r440.1 : Int) = r444.1
                          · rw [if_pos c447] at h
                            refine rn_icmp_eq_t i239_447 c447 ?_
                            exact rn_sub [0, 1, 2, 3] rfl (s_La_law_1045 hD (La_law_18 n) ih a0 a1 a2 x3 r444.2 r h)
                          · rw [if_neg c447] at h
                            refine rn_icmp_eq_f i239_447 c447 ?_
                            refine rn_iconst i239_450 ?_
                            obtain rfl := Option.some.inj h
                            exact rn_retZ i239_451 mr239 (by decide)
                        · rw [if_neg c33_9] at h
                          by_cases c33_10 : ((oand v29 31) : Int) = 10
                          · rw [if_pos c33_10] at h
                            refine rn_tsw_in (tgt := 452) i239_33 10 (by omega) (by omega) rfl rfl ?_
                            refine fr_aload_n i239_452 rfl ?_
                            refine fr_aload_n i239_453 rfl ?_
                            refine rn_iload_n i239_454 rfl ?_
                            refine rn_iconst i239_455 ?_
                            refine rn_iadd i239_456 ?_
                            obtain ⟨v457, h457, h⟩ := Option.bind_eq_some_iff.mp h
                            refine rn_iald i239_457 h457 ?_
                            refine fr_aload_n i239_458 rfl ?_
                            refine rn_iload_n i239_459 rfl ?_
                            refine rn_iconst i239_460 ?_
                            refine rn_iadd i239_461 ?_
                            obtain ⟨v462, h462, h⟩ := Option.bind_eq_some_iff.mp h
                            refine rn_iald i239_462 h462 ?_
                            refine fr_aload_n i239_463 rfl ?_
                            refine rn_iload_n i239_464 rfl ?_
                            refine rn_iconst i239_465 ?_
                            refine rn_iadd i239_466 ?_
                            obtain ⟨v467, h467, h⟩ := Option.bind_eq_some_iff.mp h
                            refine rn_iald i239_467 h467 ?_
                            obtain ⟨r468, h468, h⟩ := Option.bind_eq_some_iff.mp h
                            obtain ⟨g468, c468⟩ := S_Hh_lesson a1 v457 v462 v467 w r468 h468
                            refine fr_callV (a := a1) (As := [.inl v457, .inl v462, .inl v467]) (st := []) i239_468 (cq120 a1 v457 v462 v467) rfl (Nat.le_of_ble_eq_true rfl) g468 (c468 _ (by omega)) ?_
                            show Rn _ _ _ _ _ _ [.inl r468.1] _ _ _
                            refine fr_aload_n i239_471 rfl ?_
                            refine fr_aload_n i239_472 rfl ?_
                            refine rn_iload_n i239_473 rfl ?_
                            refine rn_iconst i239_474 ?_
                            refine rn_iadd i239_475 ?_
                            obtain ⟨v476, h476, h⟩ := Option.bind_eq_some_iff.mp h
                            refine rn_iald i239_476 h476 ?_
                            refine fr_aload_n i239_477 rfl ?_
                            refine rn_iload_n i239_478 rfl ?_
                            refine rn_iconst i239_479 ?_
                            refine rn_iadd i239_480 ?_
                            obtain ⟨v481, h481, h⟩ := Option.bind_eq_some_iff.mp h
                            refine rn_iald i239_481 h481 ?_
                            refine fr_aload_n i239_482 rfl ?_
                            refine rn_iload_n i239_483 rfl ?_
                            refine rn_iconst i239_484 ?_
                            refine rn_iadd i239_485 ?_
                            obtain ⟨v486, h486, h⟩ := Option.bind_eq_some_iff.mp h
                            refine rn_iald i239_486 h486 ?_
                            obtain ⟨r487, h487, h⟩ := Option.bind_eq_some_iff.mp h
                            obtain ⟨g487, c487⟩ := S_Mo_lesson a2 v476 v481 v486 r468.2 r487 h487
                            refine fr_callV (a := a2) (As := [.inl v476, .inl v481, .inl v486]) (st := [.inl r468.1]) i239_487 (cq213 a2 v476 v481 v486) rfl (Nat.le_of_ble_eq_true rfl) g487 (c487 _ (by omega)) ?_
                            show Rn _ _ _ _ _ _ [.inl r487.1, .inl r468.1] _ _ _
                            by_cases c490 : (r468.1 : Int) = r487.1
                            · rw [if_pos c490] at h
                              refine rn_icmp_eq_t i239_490 c490 ?_
                              exact rn_sub [0, 1, 2, 3] rfl (s_La_law_1045 hD (La_law_18 n) ih a0 a1 a2 x3 r487.2 r h)
                            · rw [if_neg c490] at h
                              refine rn_icmp_eq_f i239_490 c490 ?_
                              refine rn_iconst i239_493 ?_
                              obtain rfl := Option.some.inj h
                              exact rn_retZ i239_494 mr239 (by decide)
                          · rw [if_neg c33_10] at h
                            by_cases c33_11 : ((oand v29 31) : Int) = 11
                            · rw [if_pos c33_11] at h
                              refine rn_tsw_in (tgt := 495) i239_33 11 (by omega) (by omega) rfl rfl ?_
                              refine fr_aload_n i239_495 rfl ?_
                              refine fr_aload_n i239_496 rfl ?_
                              refine rn_iload_n i239_497 rfl ?_
                              refine rn_iconst i239_498 ?_
                              refine rn_iadd i239_499 ?_
                              obtain ⟨v500, h500, h⟩ := Option.bind_eq_some_iff.mp h
                              refine rn_iald i239_500 h500 ?_
                              obtain ⟨r501, h501, h⟩ := Option.bind_eq_some_iff.mp h
                              obtain ⟨g501, c501⟩ := S_Hh_years a1 v500 w r501 h501
                              refine fr_callV (a := a1) (As := [.inl v500]) (st := []) i239_501 (cq121 a1 v500) rfl (Nat.le_of_ble_eq_true rfl) g501 (c501 _ (by omega)) ?_
                              show Rn _ _ _ _ _ _ [.inl r501.1] _ _ _
                              refine fr_aload_n i239_504 rfl ?_
                              refine fr_aload_n i239_505 rfl ?_
                              refine rn_iload_n i239_506 rfl ?_
                              refine rn_iconst i239_507 ?_
                              refine rn_iadd i239_508 ?_
                              obtain ⟨v509, h509, h⟩ := Option.bind_eq_some_iff.mp h
                              refine rn_iald i239_509 h509 ?_
                              obtain ⟨r510, h510, h⟩ := Option.bind_eq_some_iff.mp h
                              obtain ⟨g510, c510⟩ := S_Mo_years a2 v509 r501.2 r510 h510
                              refine fr_callV (a := a2) (As := [.inl v509]) (st := [.inl r501.1]) i239_510 (cq214 a2 v509) rfl (Nat.le_of_ble_eq_true rfl) g510 (c510 _ (by omega)) ?_
                              show Rn _ _ _ _ _ _ [.inl r510.1, .inl r501.1] _ _ _
                              by_cases c513 : (r501.1 : Int) = r510.1
                              · rw [if_pos c513] at h
                                refine rn_icmp_eq_t i239_513 c513 ?_
                                exact rn_sub [0, 1, 2, 3] rfl (s_La_law_1045 hD (La_law_18 n) ih a0 a1 a2 x3 r510.2 r h)
                              · rw [if_neg c513] at h
                                refine rn_icmp_eq_f i239_513 c513 ?_
                                refine rn_iconst i239_516 ?_
                                obtain rfl := Option.some.inj h
                                exact rn_retZ i239_517 mr239 (by decide)
                            · rw [if_neg c33_11] at h
                              by_cases c33_12 : ((oand v29 31) : Int) = 12
                              · rw [if_pos c33_12] at h
                                refine rn_tsw_in (tgt := 518) i239_33 12 (by omega) (by omega) rfl rfl ?_
                                refine fr_aload_n i239_518 rfl ?_
                                obtain ⟨r519, h519, h⟩ := Option.bind_eq_some_iff.mp h
                                obtain ⟨g519, c519⟩ := S_Hh_undo a1 w r519 h519
                                refine fr_callV (a := a1) (As := []) (st := []) i239_519 (cq122 a1) rfl (Nat.le_of_ble_eq_true rfl) g519 (c519 _ (by omega)) ?_
                                show Rn _ _ _ _ _ _ [.inl r519.1] _ _ _
                                refine fr_aload_n i239_522 rfl ?_
                                obtain ⟨r523, h523, h⟩ := Option.bind_eq_some_iff.mp h
                                obtain ⟨g523, c523⟩ := S_Mo_undo a2 r519.2 r523 h523
                                refine fr_callV (a := a2) (As := []) (st := [.inl r519.1]) i239_523 (cq215 a2) rfl (Nat.le_of_ble_eq_true rfl) g523 (c523 _ (by omega)) ?_
                                show Rn _ _ _ _ _ _ [.inl r523.1, .inl r519.1] _ _ _
                                by_cases c526 : (r519.1 : Int) = r523.1
                                · rw [if_pos c526] at h
                                  refine rn_icmp_eq_t i239_526 c526 ?_
                                  exact rn_sub [0, 1, 2, 3] rfl (s_La_law_1045 hD (La_law_18 n) ih a0 a1 a2 x3 r523.2 r h)
                                · rw [if_neg c526] at h
                                  refine rn_icmp_eq_f i239_526 c526 ?_
                                  refine rn_iconst i239_529 ?_
                                  obtain rfl := Option.some.inj h
                                  exact rn_retZ i239_530 mr239 (by decide)
                              · rw [if_neg c33_12] at h
                                by_cases c33_13 : ((oand v29 31) : Int) = 13
                                · rw [if_pos c33_13] at h
                                  refine rn_tsw_in (tgt := 531) i239_33 13 (by omega) (by omega) rfl rfl ?_
                                  refine fr_aload_n i239_531 rfl ?_
                                  refine fr_aload_n i239_532 rfl ?_
                                  refine rn_iload_n i239_533 rfl ?_
                                  refine rn_iconst i239_534 ?_
                                  refine rn_iadd i239_535 ?_
                                  obtain ⟨v536, h536, h⟩ := Option.bind_eq_some_iff.mp h
                                  refine rn_iald i239_536 h536 ?_
                                  refine fr_aload_n i239_537 rfl ?_
                                  refine rn_iload_n i239_538 rfl ?_
                                  refine rn_iconst i239_539 ?_
                                  refine rn_iadd i239_540 ?_
                                  obtain ⟨v541, h541, h⟩ := Option.bind_eq_some_iff.mp h
                                  refine rn_iald i239_541 h541 ?_
                                  obtain ⟨r542, h542, h⟩ := Option.bind_eq_some_iff.mp h
                                  obtain ⟨g542, c542⟩ := S_Hh_book a1 v536 v541 w r542 h542
                                  refine fr_callV (a := a1) (As := [.inl v536, .inl v541]) (st := []) i239_542 (cq123 a1 v536 v541) rfl (Nat.le_of_ble_eq_true rfl) g542 (c542 _ (by omega)) ?_
                                  show Rn _ _ _ _ _ _ [.inl r542.1] _ _ _
                                  refine fr_aload_n i239_545 rfl ?_
                                  refine fr_aload_n i239_546 rfl ?_
                                  refine rn_iload_n i239_547 rfl ?_
                                  refine rn_iconst i239_548 ?_
                                  refine rn_iadd i239_549 ?_
                                  obtain ⟨v550, h550, h⟩ := Option.bind_eq_some_iff.mp h
                                  refine rn_iald i239_550 h550 ?_
                                  refine fr_aload_n i239_551 rfl ?_
                                  refine rn_iload_n i239_552 rfl ?_
                                  refine rn_iconst i239_553 ?_
                                  refine rn_iadd i239_554 ?_
                                  obtain ⟨v555, h555, h⟩ := Option.bind_eq_some_iff.mp h
                                  refine rn_iald i239_555 h555 ?_
                                  obtain ⟨r556, h556, h⟩ := Option.bind_eq_some_iff.mp h
                                  obtain ⟨g556, c556⟩ := S_Mo_book a2 v550 v555 r542.2 r556 h556
                                  refine fr_callV (a := a2) (As := [.inl v550, .inl v555]) (st := [.inl r542.1]) i239_556 (cq216 a2 v550 v555) rfl (Nat.le_of_ble_eq_true rfl) g556 (c556 _ (by omega)) ?_
                                  show Rn _ _ _ _ _ _ [.inl r556.1, .inl r542.1] _ _ _
                                  by_cases c559 : (r542.1 : Int) = r556.1
                                  · rw [if_pos c559] at h
                                    refine rn_icmp_eq_t i239_559 c559 ?_
                                    exact rn_sub [0, 1, 2, 3] rfl (s_La_law_1045 hD (La_law_18 n) ih a0 a1 a2 x3 r556.2 r h)
                                  · rw [if_neg c559] at h
                                    refine rn_icmp_eq_f i239_559 c559 ?_
                                    refine rn_iconst i239_562 ?_
                                    obtain rfl := Option.some.inj h
                                    exact rn_retZ i239_563 mr239 (by decide)
                                · rw [if_neg c33_13] at h
                                  by_cases c33_14 : ((oand v29 31) : Int) = 14
                                  · rw [if_pos c33_14] at h
                                    refine rn_tsw_in (tgt := 564) i239_33 14 (by omega) (by omega) rfl rfl ?_
                                    refine fr_aload_n i239_564 rfl ?_
                                    refine fr_aload_n i239_565 rfl ?_
                                    refine rn_iload_n i239_566 rfl ?_
                                    refine rn_iconst i239_567 ?_
                                    refine rn_iadd i239_568 ?_
                                    obtain ⟨v569, h569, h⟩ := Option.bind_eq_some_iff.mp h
                                    refine rn_iald i239_569 h569 ?_
                                    refine fr_aload_n i239_570 rfl ?_
                                    refine rn_iload_n i239_571 rfl ?_
                                    refine rn_iconst i239_572 ?_
                                    refine rn_iadd i239_573 ?_
                                    obtain ⟨v574, h574, h⟩ := Option.bind_eq_some_iff.mp h
                                    refine rn_iald i239_574 h574 ?_
                                    obtain ⟨r575, h575, h⟩ := Option.bind_eq_some_iff.mp h
                                    obtain ⟨g575, c575⟩ := S_Hh_plan a1 v569 v574 w r575 h575
                                    refine fr_callV (a := a1) (As := [.inl v569, .inl v574]) (st := []) i239_575 (cq124 a1 v569 v574) rfl (Nat.le_of_ble_eq_true rfl) g575 (c575 _ (by omega)) ?_
                                    show Rn _ _ _ _ _ _ [.inl r575.1] _ _ _
                                    refine fr_aload_n i239_578 rfl ?_
                                    refine fr_aload_n i239_579 rfl ?_
                                    refine rn_iload_n i239_580 rfl ?_
                                    refine rn_iconst i239_581 ?_
                                    refine rn_iadd i239_582 ?_
                                    obtain ⟨v583, h583, h⟩ := Option.bind_eq_some_iff.mp h
                                    refine rn_iald i239_583 h583 ?_
                                    refine fr_aload_n i239_584 rfl ?_
                                    refine rn_iload_n i239_585 rfl ?_
                                    refine rn_iconst i239_586 ?_
                                    refine rn_iadd i239_587 ?_
                                    obtain ⟨v588, h588, h⟩ := Option.bind_eq_some_iff.mp h
                                    refine rn_iald i239_588 h588 ?_
                                    obtain ⟨r589, h589, h⟩ := Option.bind_eq_some_iff.mp h
                                    obtain ⟨g589, c589⟩ := S_Mo_plan a2 v583 v588 r575.2 r589 h589
                                    refine fr_callV (a := a2) (As := [.inl v583, .inl v588]) (st := [.inl r575.1]) i239_589 (cq219 a2 v583 v588) rfl (Nat.le_of_ble_eq_true rfl) g589 (c589 _ (by omega)) ?_
                                    show Rn _ _ _ _ _ _ [.inl r589.1, .inl r575.1] _ _ _
                                    by_cases c592 : (r575.1 : Int) = r589.1
                                    · rw [if_pos c592] at h
                                      refine rn_icmp_eq_t i239_592 c592 ?_
                                      exact rn_sub [0, 1, 2, 3] rfl (s_La_law_1045 hD (La_law_18 n) ih a0 a1 a2 x3 r589.2 r h)
                                    · rw [if_neg c592] at h
                                      refine rn_icmp_eq_f i239_592 c592 ?_
                                      refine rn_iconst i239_595 ?_
                                      obtain rfl := Option.some.inj h
                                      exact rn_retZ i239_596 mr239 (by decide)
                                  · rw [if_neg c33_14] at h
                                    by_cases c33_15 : ((oand v29 31) : Int) = 15
                                    · rw [if_pos c33_15] at h
                                      refine rn_tsw_in (tgt := 597) i239_33 15 (by omega) (by omega) rfl rfl ?_
                                      refine fr_aload_n i239_597 rfl ?_
                                      refine fr_aload_n i239_598 rfl ?_
                                      refine rn_iload_n i239_599 rfl ?_
                                      refine rn_iconst i239_600 ?_
                                      refine rn_iadd i239_601 ?_
                                      obtain ⟨v602, h602, h⟩ := Option.bind_eq_some_iff.mp h
                                      refine rn_iald i239_602 h602 ?_
                                      refine fr_aload_n i239_603 rfl ?_
                                      refine rn_iload_n i239_604 rfl ?_
                                      refine rn_iconst i239_605 ?_
                                      refine rn_iadd i239_606 ?_
                                      obtain ⟨v607, h607, h⟩ := Option.bind_eq_some_iff.mp h
                                      refine rn_iald i239_607 h607 ?_
                                      refine fr_aload_n i239_608 rfl ?_
                                      refine rn_iload_n i239_609 rfl ?_
                                      refine rn_iconst i239_610 ?_
                                      refine rn_iadd i239_611 ?_
                                      obtain ⟨v612, h612, h⟩ := Option.bind_eq_some_iff.mp h
                                      refine rn_iald i239_612 h612 ?_
                                      obtain ⟨r613, h613, h⟩ := Option.bind_eq_some_iff.mp h
                                      obtain ⟨g613, c613⟩ := S_Hh_planOf a1 v602 v607 v612 w r613 h613
                                      refine fr_callV (a := a1) (As := [.inl v602, .inl v607, .inl v612]) (st := []) i239_613 (cq125 a1 v602 v607 v612) rfl (Nat.le_of_ble_eq_true rfl) g613 (c613 _ (by omega)) ?_
                                      show Rn _ _ _ _ _ _ [.inl r613.1] _ _ _
                                      refine fr_aload_n i239_616 rfl ?_
                                      refine fr_aload_n i239_617 rfl ?_
                                      refine rn_iload_n i239_618 rfl ?_
                                      refine rn_iconst i239_619 ?_
                                      refine rn_iadd i239_620 ?_
                                      obtain ⟨v621, h621, h⟩ := Option.bind_eq_some_iff.mp h
                                      refine rn_iald i239_621 h621 ?_
                                      refine fr_aload_n i239_622 rfl ?_
                                      refine rn_iload_n i239_623 rfl ?_
                                      refine rn_iconst i239_624 ?_
                                      refine rn_iadd i239_625 ?_
                                      obtain ⟨v626, h626, h⟩ := Option.bind_eq_some_iff.mp h
                                      refine rn_iald i239_626 h626 ?_
                                      refine fr_aload_n i239_627 rfl ?_
                                      refine rn_iload_n i239_628 rfl ?_
                                      refine rn_iconst i239_629 ?_
                                      refine rn_iadd i239_630 ?_
                                      obtain ⟨v631, h631, h⟩ := Option.bind_eq_some_iff.mp h
                                      refine rn_iald i239_631 h631 ?_
                                      obtain ⟨r632, h632, h⟩ := Option.bind_eq_some_iff.mp h
                                      obtain ⟨g632, c632⟩ := S_Mo_planOf a2 v621 v626 v631 r613.2 r632 h632
                                      refine fr_callV (a := a2) (As := [.inl v621, .inl v626, .inl v631]) (st := [.inl r613.1]) i239_632 (cq220 a2 v621 v626 v631) rfl (Nat.le_of_ble_eq_true rfl) g632 (c632 _ (by omega)) ?_
                                      show Rn _ _ _ _ _ _ [.inl r632.1, .inl r613.1] _ _ _
                                      by_cases c635 : (r613.1 : Int) = r632.1
                                      · rw [if_pos c635] at h
                                        refine rn_icmp_eq_t i239_635 c635 ?_
                                        exact rn_sub [0, 1, 2, 3] rfl (s_La_law_1045 hD (La_law_18 n) ih a0 a1 a2 x3 r632.2 r h)
                                      · rw [if_neg c635] at h
                                        refine rn_icmp_eq_f i239_635 c635 ?_
                                        refine rn_iconst i239_638 ?_
                                        obtain rfl := Option.some.inj h
                                        exact rn_retZ i239_639 mr239 (by decide)
                                    · rw [if_neg c33_15] at h
                                      by_cases c33_16 : ((oand v29 31) : Int) = 16
                                      · rw [if_pos c33_16] at h
                                        refine rn_tsw_in (tgt := 640) i239_33 16 (by omega) (by omega) rfl rfl ?_
                                        refine fr_aload_n i239_640 rfl ?_
                                        refine fr_aload_n i239_641 rfl ?_
                                        refine rn_iload_n i239_642 rfl ?_
                                        refine rn_iconst i239_643 ?_
                                        refine rn_iadd i239_644 ?_
                                        obtain ⟨v645, h645, h⟩ := Option.bind_eq_some_iff.mp h
                                        refine rn_iald i239_645 h645 ?_
                                        obtain ⟨r646, h646, h⟩ := Option.bind_eq_some_iff.mp h
                                        obtain ⟨g646, c646⟩ := S_Hh_needs a1 v645 w r646 h646
                                        refine fr_callV (a := a1) (As := [.inl v645]) (st := []) i239_646 (cq126 a1 v645) rfl (Nat.le_of_ble_eq_true rfl) g646 (c646 _ (by omega)) ?_
                                        show Rn _ _ _ _ _ _ [.inl r646.1] _ _ _
                                        refine fr_aload_n i239_649 rfl ?_
                                        refine fr_aload_n i239_650 rfl ?_
                                        refine rn_iload_n i239_651 rfl ?_
                                        refine rn_iconst i239_652 ?_
                                        refine rn_iadd i239_653 ?_
                                        obtain ⟨v654, h654, h⟩ := Option.bind_eq_some_iff.mp h
                                        refine rn_iald i239_654 h654 ?_
                                        obtain ⟨r655, h655, h⟩ := Option.bind_eq_some_iff.mp h
                                        obtain ⟨g655, c655⟩ := S_Mo_needs a2 v654 r646.2 r655 h655
                                        refine fr_callV (a := a2) (As := [.inl v654]) (st := [.inl r646.1]) i239_655 (cq221 a2 v654) rfl (Nat.le_of_ble_eq_true rfl) g655 (c655 _ (by omega)) ?_
                                        show Rn _ _ _ _ _ _ [.inl r655.1, .inl r646.1] _ _ _
                                        by_cases c658 : (r646.1 : Int) = r655.1
                                        · rw [if_pos c658] at h
                                          refine rn_icmp_eq_t i239_658 c658 ?_
                                          exact rn_sub [0, 1, 2, 3] rfl (s_La_law_1045 hD (La_law_18 n) ih a0 a1 a2 x3 r655.2 r h)
                                        · rw [if_neg c658] at h
                                          refine rn_icmp_eq_f i239_658 c658 ?_
                                          refine rn_iconst i239_661 ?_
                                          obtain rfl := Option.some.inj h
                                          exact rn_retZ i239_662 mr239 (by decide)
                                      · rw [if_neg c33_16] at h
                                        by_cases c33_17 : ((oand v29 31) : Int) = 17
                                        · rw [if_pos c33_17] at h
                                          refine rn_tsw_in (tgt := 663) i239_33 17 (by omega) (by omega) rfl rfl ?_
                                          refine fr_aload_n i239_663 rfl ?_
                                          refine fr_aload_n i239_664 rfl ?_
                                          refine rn_iload_n i239_665 rfl ?_
                                          refine rn_iconst i239_666 ?_
                                          refine rn_iadd i239_667 ?_
                                          obtain ⟨v668, h668, h⟩ := Option.bind_eq_some_iff.mp h
                                          refine rn_iald i239_668 h668 ?_
                                          obtain ⟨r669, h669, h⟩ := Option.bind_eq_some_iff.mp h
                                          obtain ⟨g669, c669⟩ := S_Hh_swing a1 v668 w r669 h669
                                          refine fr_callV (a := a1) (As := [.inl v668]) (st := []) i239_669 (cq127 a1 v668) rfl (Nat.le_of_ble_eq_true rfl) g669 (c669 _ (by omega)) ?_
                                          show Rn _ _ _ _ _ _ [.inl r669.1] _ _ _
                                          refine fr_aload_n i239_672 rfl ?_
                                          refine fr_aload_n i239_673 rfl ?_
                                          refine rn_iload_n i239_674 rfl ?_
                                          refine rn_iconst i239_675 ?_
                                          refine rn_iadd i239_676 ?_
                                          obtain ⟨v677, h677, h⟩ := Option.bind_eq_some_iff.mp h
                                          refine rn_iald i239_677 h677 ?_
                                          obtain ⟨r678, h678, h⟩ := Option.bind_eq_some_iff.mp h
                                          obtain ⟨g678, c678⟩ := S_Mo_swing a2 v677 r669.2 r678 h678
                                          refine fr_callV (a := a2) (As := [.inl v677]) (st := [.inl r669.1]) i239_678 (cq222 a2 v677) rfl (Nat.le_of_ble_eq_true rfl) g678 (c678 _ (by omega)) ?_
                                          show Rn _ _ _ _ _ _ [.inl r678.1, .inl r669.1] _ _ _
                                          by_cases c681 : (r669.1 : Int) = r678.1
                                          · rw [if_pos c681] at h
                                            refine rn_icmp_eq_t i239_681 c681 ?_
                                            exact rn_sub [0, 1, 2, 3] rfl (s_La_law_1045 hD (La_law_18 n) ih a0 a1 a2 x3 r678.2 r h)
                                          · rw [if_neg c681] at h
                                            refine rn_icmp_eq_f i239_681 c681 ?_
                                            refine rn_iconst i239_684 ?_
                                            obtain rfl := Option.some.inj h
                                            exact rn_retZ i239_685 mr239 (by decide)
                                        · rw [if_neg c33_17] at h
                                          by_cases c33_18 : ((oand v29 31) : Int) = 18
                                          · rw [if_pos c33_18] at h
                                            refine rn_tsw_in (tgt := 686) i239_33 18 (by omega) (by omega) rfl rfl ?_
                                            refine fr_aload_n i239_686 rfl ?_
                                            refine fr_aload_n i239_687 rfl ?_
                                            refine rn_iload_n i239_688 rfl ?_
                                            refine rn_iconst i239_689 ?_
                                            refine rn_iadd i239_690 ?_
                                            obtain ⟨v691, h691, h⟩ := Option.bind_eq_some_iff.mp h
                                            refine rn_iald i239_691 h691 ?_
                                            refine fr_aload_n i239_692 rfl ?_
                                            refine rn_iload_n i239_693 rfl ?_
                                            refine rn_iconst i239_694 ?_
                                            refine rn_iadd i239_695 ?_
                                            obtain ⟨v696, h696, h⟩ := Option.bind_eq_some_iff.mp h
                                            refine rn_iald i239_696 h696 ?_
                                            obtain ⟨r697, h697, h⟩ := Option.bind_eq_some_iff.mp h
                                            obtain ⟨g697, c697⟩ := S_Hh_chance a1 v691 v696 w r697 h697
                                            refine fr_callV (a := a1) (As := [.inl v691, .inl v696]) (st := []) i239_697 (cq128 a1 v691 v696) rfl (Nat.le_of_ble_eq_true rfl) g697 (c697 _ (by omega)) ?_
                                            show Rn _ _ _ _ _ _ [.inl r697.1] _ _ _
                                            refine fr_aload_n i239_700 rfl ?_
                                            refine fr_aload_n i239_701 rfl ?_
                                            refine rn_iload_n i239_702 rfl ?_
                                            refine rn_iconst i239_703 ?_
                                            refine rn_iadd i239_704 ?_
                                            obtain ⟨v705, h705, h⟩ := Option.bind_eq_some_iff.mp h
                                            refine rn_iald i239_705 h705 ?_
                                            refine fr_aload_n i239_706 rfl ?_
                                            refine rn_iload_n i239_707 rfl ?_
                                            refine rn_iconst i239_708 ?_
                                            refine rn_iadd i239_709 ?_
                                            obtain ⟨v710, h710, h⟩ := Option.bind_eq_some_iff.mp h
                                            refine rn_iald i239_710 h710 ?_
                                            obtain ⟨r711, h711, h⟩ := Option.bind_eq_some_iff.mp h
                                            obtain ⟨g711, c711⟩ := S_Mo_chance a2 v705 v710 r697.2 r711 h711
                                            refine fr_callV (a := a2) (As := [.inl v705, .inl v710]) (st := [.inl r697.1]) i239_711 (cq223 a2 v705 v710) rfl (Nat.le_of_ble_eq_true rfl) g711 (c711 _ (by omega)) ?_
                                            show Rn _ _ _ _ _ _ [.inl r711.1, .inl r697.1] _ _ _
                                            by_cases c714 : (r697.1 : Int) = r711.1
                                            · rw [if_pos c714] at h
                                              refine rn_icmp_eq_t i239_714 c714 ?_
                                              exact rn_sub [0, 1, 2, 3] rfl (s_La_law_1045 hD (La_law_18 n) ih a0 a1 a2 x3 r711.2 r h)
                                            · rw [if_neg c714] at h
                                              refine rn_icmp_eq_f i239_714 c714 ?_
                                              refine rn_iconst i239_717 ?_
                                              obtain rfl := Option.some.inj h
                                              exact rn_retZ i239_718 mr239 (by decide)
                                          · rw [if_neg c33_18] at h
                                            by_cases c33_19 : ((oand v29 31) : Int) = 19
                                            · rw [if_pos c33_19] at h
                                              refine rn_tsw_in (tgt := 719) i239_33 19 (by omega) (by omega) rfl rfl ?_
                                              refine fr_aload_n i239_719 rfl ?_
                                              refine fr_aload_n i239_720 rfl ?_
                                              refine rn_iload_n i239_721 rfl ?_
                                              refine rn_iconst i239_722 ?_
                                              refine rn_iadd i239_723 ?_
                                              obtain ⟨v724, h724, h⟩ := Option.bind_eq_some_iff.mp h
                                              refine rn_iald i239_724 h724 ?_
                                              obtain ⟨r725, h725, h⟩ := Option.bind_eq_some_iff.mp h
                                              obtain ⟨g725, c725⟩ := S_Hh_without a1 v724 w r725 h725
                                              refine fr_callV (a := a1) (As := [.inl v724]) (st := []) i239_725 (cq129 a1 v724) rfl (Nat.le_of_ble_eq_true rfl) g725 (c725 _ (by omega)) ?_
                                              show Rn _ _ _ _ _ _ [.inl r725.1] _ _ _
                                              refine fr_aload_n i239_728 rfl ?_
                                              refine fr_aload_n i239_729 rfl ?_
                                              refine rn_iload_n i239_730 rfl ?_
                                              refine rn_iconst i239_731 ?_
                                              refine rn_iadd i239_732 ?_
                                              obtain ⟨v733, h733, h⟩ := Option.bind_eq_some_iff.mp h
                                              refine rn_iald i239_733 h733 ?_
                                              obtain ⟨r734, h734, h⟩ := Option.bind_eq_some_iff.mp h
                                              obtain ⟨g734, c734⟩ := S_Mo_without a2 v733 r725.2 r734 h734
                                              refine fr_callV (a := a2) (As := [.inl v733]) (st := [.inl r725.1]) i239_734 (cq224 a2 v733) rfl (Nat.le_of_ble_eq_true rfl) g734 (c734 _ (by omega)) ?_
                                              show Rn _ _ _ _ _ _ [.inl r734.1, .inl r725.1] _ _ _
                                              by_cases c737 : (r725.1 : Int) = r734.1
                                              · rw [if_pos c737] at h
                                                refine rn_icmp_eq_t i239_737 c737 ?_
                                                exact rn_sub [0, 1, 2, 3] rfl (s_La_law_1045 hD (La_law_18 n) ih a0 a1 a2 x3 r734.2 r h)
                                              · rw [if_neg c737] at h
                                                refine rn_icmp_eq_f i239_737 c737 ?_
                                                refine rn_iconst i239_740 ?_
                                                obtain rfl := Option.some.inj h
                                                exact rn_retZ i239_741 mr239 (by decide)
                                            · rw [if_neg c33_19] at h
                                              by_cases c33_20 : ((oand v29 31) : Int) = 20
                                              · rw [if_pos c33_20] at h
                                                refine rn_tsw_in (tgt := 742) i239_33 20 (by omega) (by omega) rfl rfl ?_
                                                refine fr_aload_n i239_742 rfl ?_
                                                refine fr_aload_n i239_743 rfl ?_
                                                refine rn_iload_n i239_744 rfl ?_
                                                refine rn_iconst i239_745 ?_
                                                refine rn_iadd i239_746 ?_
                                                obtain ⟨v747, h747, h⟩ := Option.bind_eq_some_iff.mp h
                                                refine rn_iald i239_747 h747 ?_
                                                refine fr_aload_n i239_748 rfl ?_
                                                refine rn_iload_n i239_749 rfl ?_
                                                refine rn_iconst i239_750 ?_
                                                refine rn_iadd i239_751 ?_
                                                obtain ⟨v752, h752, h⟩ := Option.bind_eq_some_iff.mp h
                                                refine rn_iald i239_752 h752 ?_
                                                obtain ⟨r753, h753, h⟩ := Option.bind_eq_some_iff.mp h
                                                obtain ⟨g753, c753⟩ := S_Hh_bias a1 v747 v752 w r753 h753
                                                refine fr_callV (a := a1) (As := [.inl v747, .inl v752]) (st := []) i239_753 (cq130 a1 v747 v752) rfl (Nat.le_of_ble_eq_true rfl) g753 (c753 _ (by omega)) ?_
                                                show Rn _ _ _ _ _ _ [.inl r753.1] _ _ _
                                                refine fr_aload_n i239_756 rfl ?_
                                                refine fr_aload_n i239_757 rfl ?_
                                                refine rn_iload_n i239_758 rfl ?_
                                                refine rn_iconst i239_759 ?_
                                                refine rn_iadd i239_760 ?_
                                                obtain ⟨v761, h761, h⟩ := Option.bind_eq_some_iff.mp h
                                                refine rn_iald i239_761 h761 ?_
                                                refine fr_aload_n i239_762 rfl ?_
                                                refine rn_iload_n i239_763 rfl ?_
                                                refine rn_iconst i239_764 ?_
                                                refine rn_iadd i239_765 ?_
                                                obtain ⟨v766, h766, h⟩ := Option.bind_eq_some_iff.mp h
                                                refine rn_iald i239_766 h766 ?_
                                                obtain ⟨r767, h767, h⟩ := Option.bind_eq_some_iff.mp h
                                                obtain ⟨g767, c767⟩ := S_Mo_bias a2 v761 v766 r753.2 r767 h767
                                                refine fr_callV (a := a2) (As := [.inl v761, .inl v766]) (st := [.inl r753.1]) i239_767 (cq225 a2 v761 v766) rfl (Nat.le_of_ble_eq_true rfl) g767 (c767 _ (by omega)) ?_
                                                show Rn _ _ _ _ _ _ [.inl r767.1, .inl r753.1] _ _ _
                                                by_cases c770 : (r753.1 : Int) = r767.1
                                                · rw [if_pos c770] at h
                                                  refine rn_icmp_eq_t i239_770 c770 ?_
                                                  exact rn_sub [0, 1, 2, 3] rfl (s_La_law_1045 hD (La_law_18 n) ih a0 a1 a2 x3 r767.2 r h)
                                                · rw [if_neg c770] at h
                                                  refine rn_icmp_eq_f i239_770 c770 ?_
                                                  refine rn_iconst i239_773 ?_
                                                  obtain rfl := Option.some.inj h
                                                  exact rn_retZ i239_774 mr239 (by decide)
                                              · rw [if_neg c33_20] at h
                                                by_cases c33_21 : ((oand v29 31) : Int) = 21
                                                · rw [if_pos c33_21] at h
                                                  refine rn_tsw_in (tgt := 775) i239_33 21 (by omega) (by omega) rfl rfl ?_
                                                  refine fr_aload_n i239_775 rfl ?_
                                                  refine fr_aload_n i239_776 rfl ?_
                                                  refine rn_iload_n i239_777 rfl ?_
                                                  refine rn_iconst i239_778 ?_
                                                  refine rn_iadd i239_779 ?_
                                                  obtain ⟨v780, h780, h⟩ := Option.bind_eq_some_iff.mp h
                                                  refine rn_iald i239_780 h780 ?_
                                                  refine fr_aload_n i239_781 rfl ?_
                                                  refine rn_iload_n i239_782 rfl ?_
                                                  refine rn_iconst i239_783 ?_
                                                  refine rn_iadd i239_784 ?_
                                                  obtain ⟨v785, h785, h⟩ := Option.bind_eq_some_iff.mp h
                                                  refine rn_iald i239_785 h785 ?_
                                                  refine fr_aload_n i239_786 rfl ?_
                                                  refine rn_iload_n i239_787 rfl ?_
                                                  refine rn_iconst i239_788 ?_
                                                  refine rn_iadd i239_789 ?_
                                                  obtain ⟨v790, h790, h⟩ := Option.bind_eq_some_iff.mp h
                                                  refine rn_iald i239_790 h790 ?_
                                                  obtain ⟨r791, h791, h⟩ := Option.bind_eq_some_iff.mp h
                                                  obtain ⟨g791, c791⟩ := S_Hh_bestLetter a1 v780 v785 v790 w r791 h791
                                                  refine fr_callV (a := a1) (As := [.inl v780, .inl v785, .inl v790]) (st := []) i239_791 (cq131 a1 v780 v785 v790) rfl (Nat.le_of_ble_eq_true rfl) g791 (c791 _ (by omega)) ?_
                                                  show Rn _ _ _ _ _ _ [.inl r791.1] _ _ _
                                                  refine fr_aload_n i239_794 rfl ?_
                                                  refine fr_aload_n i239_795 rfl ?_
                                                  refine rn_iload_n i239_796 rfl ?_
                                                  refine rn_iconst i239_797 ?_
                                                  refine rn_iadd i239_798 ?_
                                                  obtain ⟨v799, h799, h⟩ := Option.bind_eq_some_iff.mp h
                                                  refine rn_iald i239_799 h799 ?_
                                                  refine fr_aload_n i239_800 rfl ?_
                                                  refine rn_iload_n i239_801 rfl ?_
                                                  refine rn_iconst i239_802 ?_
                                                  refine rn_iadd i239_803 ?_
                                                  obtain ⟨v804, h804, h⟩ := Option.bind_eq_some_iff.mp h
                                                  refine rn_iald i239_804 h804 ?_
                                                  refine fr_aload_n i239_805 rfl ?_
                                                  refine rn_iload_n i239_806 rfl ?_
                                                  refine rn_iconst i239_807 ?_
                                                  refine rn_iadd i239_808 ?_
                                                  obtain ⟨v809, h809, h⟩ := Option.bind_eq_some_iff.mp h
                                                  refine rn_iald i239_809 h809 ?_
                                                  obtain ⟨r810, h810, h⟩ := Option.bind_eq_some_iff.mp h
                                                  obtain ⟨g810, c810⟩ := S_Mo_bestLetter a2 v799 v804 v809 r791.2 r810 h810
                                                  refine fr_callV (a := a2) (As := [.inl v799, .inl v804, .inl v809]) (st := [.inl r791.1]) i239_810 (cq226 a2 v799 v804 v809) rfl (Nat.le_of_ble_eq_true rfl) g810 (c810 _ (by omega)) ?_
                                                  show Rn _ _ _ _ _ _ [.inl r810.1, .inl r791.1] _ _ _
                                                  by_cases c813 : (r791.1 : Int) = r810.1
                                                  · rw [if_pos c813] at h
                                                    refine rn_icmp_eq_t i239_813 c813 ?_
                                                    exact rn_sub [0, 1, 2, 3] rfl (s_La_law_1045 hD (La_law_18 n) ih a0 a1 a2 x3 r810.2 r h)
                                                  · rw [if_neg c813] at h
                                                    refine rn_icmp_eq_f i239_813 c813 ?_
                                                    refine rn_iconst i239_816 ?_
                                                    obtain rfl := Option.some.inj h
                                                    exact rn_retZ i239_817 mr239 (by decide)
                                                · rw [if_neg c33_21] at h
                                                  by_cases c33_22 : ((oand v29 31) : Int) = 22
                                                  · rw [if_pos c33_22] at h
                                                    refine rn_tsw_in (tgt := 818) i239_33 22 (by omega) (by omega) rfl rfl ?_
                                                    refine fr_aload_n i239_818 rfl ?_
                                                    refine fr_aload_n i239_819 rfl ?_
                                                    refine rn_iload_n i239_820 rfl ?_
                                                    refine rn_iconst i239_821 ?_
                                                    refine rn_iadd i239_822 ?_
                                                    obtain ⟨v823, h823, h⟩ := Option.bind_eq_some_iff.mp h
                                                    refine rn_iald i239_823 h823 ?_
                                                    obtain ⟨r824, h824, h⟩ := Option.bind_eq_some_iff.mp h
                                                    obtain ⟨g824, c824⟩ := S_Hh_reign a1 v823 w r824 h824
                                                    refine fr_callV (a := a1) (As := [.inl v823]) (st := []) i239_824 (cq133 a1 v823) rfl (Nat.le_of_ble_eq_true rfl) g824 (c824 _ (by omega)) ?_
                                                    show Rn _ _ _ _ _ _ [.inl r824.1] _ _ _
                                                    refine fr_aload_n i239_827 rfl ?_
                                                    refine fr_aload_n i239_828 rfl ?_
                                                    refine rn_iload_n i239_829 rfl ?_
                                                    refine rn_iconst i239_830 ?_
                                                    refine rn_iadd i239_831 ?_
                                                    obtain ⟨v832, h832, h⟩ := Option.bind_eq_some_iff.mp h
                                                    refine rn_iald i239_832 h832 ?_
                                                    obtain ⟨r833, h833, h⟩ := Option.bind_eq_some_iff.mp h
                                                    obtain ⟨g833, c833⟩ := S_Mo_reign a2 v832 r824.2 r833 h833
                                                    refine fr_callV (a := a2) (As := [.inl v832]) (st := [.inl r824.1]) i239_833 (cq227 a2 v832) rfl (Nat.le_of_ble_eq_true rfl) g833 (c833 _ (by omega)) ?_
                                                    show Rn _ _ _ _ _ _ [.inl r833.1, .inl r824.1] _ _ _
                                                    by_cases c836 : (r824.1 : Int) = r833.1
                                                    · rw [if_pos c836] at h
                                                      refine rn_icmp_eq_t i239_836 c836 ?_
                                                      exact rn_sub [0, 1, 2, 3] rfl (s_La_law_1045 hD (La_law_18 n) ih a0 a1 a2 x3 r833.2 r h)
                                                    · rw [if_neg c836] at h
                                                      refine rn_icmp_eq_f i239_836 c836 ?_
                                                      refine rn_iconst i239_839 ?_
                                                      obtain rfl := Option.some.inj h
                                                      exact rn_retZ i239_840 mr239 (by decide)
                                                  · rw [if_neg c33_22] at h
                                                    by_cases c33_23 : ((oand v29 31) : Int) = 23
                                                    · rw [if_pos c33_23] at h
                                                      refine rn_tsw_in (tgt := 841) i239_33 23 (by omega) (by omega) rfl rfl ?_
                                                      refine fr_aload_n i239_841 rfl ?_
                                                      refine fr_aload_n i239_842 rfl ?_
                                                      refine rn_iload_n i239_843 rfl ?_
                                                      refine rn_iconst i239_844 ?_
                                                      refine rn_iadd i239_845 ?_
                                                      obtain ⟨v846, h846, h⟩ := Option.bind_eq_some_iff.mp h
                                                      refine rn_iald i239_846 h846 ?_
                                                      refine fr_aload_n i239_847 rfl ?_
                                                      refine rn_iload_n i239_848 rfl ?_
                                                      refine rn_iconst i239_849 ?_
                                                      refine rn_iadd i239_850 ?_
                                                      obtain ⟨v851, h851, h⟩ := Option.bind_eq_some_iff.mp h
                                                      refine rn_iald i239_851 h851 ?_
                                                      obtain ⟨r852, h852, h⟩ := Option.bind_eq_some_iff.mp h
                                                      obtain ⟨g852, c852⟩ := S_Hh_copied a1 v846 v851 w r852 h852
                                                      refine fr_callV (a := a1) (As := [.inl v846, .inl v851]) (st := []) i239_852 (cq134 a1 v846 v851) rfl (Nat.le_of_ble_eq_true rfl) g852 (c852 _ (by omega)) ?_
                                                      show Rn _ _ _ _ _ _ [.inl r852.1] _ _ _
                                                      refine fr_aload_n i239_855 rfl ?_
                                                      refine fr_aload_n i239_856 rfl ?_
                                                      refine rn_iload_n i239_857 rfl ?_
                                                      refine rn_iconst i239_858 ?_
                                                      refine rn_iadd i239_859 ?_
                                                      obtain ⟨v860, h860, h⟩ := Option.bind_eq_some_iff.mp h
                                                      refine rn_iald i239_860 h860 ?_
                                                      refine fr_aload_n i239_861 rfl ?_
                                                      refine rn_iload_n i239_862 rfl ?_
                                                      refine rn_iconst i239_863 ?_
                                                      refine rn_iadd i239_864 ?_
                                                      obtain ⟨v865, h865, h⟩ := Option.bind_eq_some_iff.mp h
                                                      refine rn_iald i239_865 h865 ?_
                                                      obtain ⟨r866, h866, h⟩ := Option.bind_eq_some_iff.mp h
                                                      obtain ⟨g866, c866⟩ := S_Mo_copied a2 v860 v865 r852.2 r866 h866
                                                      refine fr_callV (a := a2) (As := [.inl v860, .inl v865]) (st := [.inl r852.1]) i239_866 (cq230 a2 v860 v865) rfl (Nat.le_of_ble_eq_true rfl) g866 (c866 _ (by omega)) ?_
                                                      show Rn _ _ _ _ _ _ [.inl r866.1, .inl r852.1] _ _ _
                                                      by_cases c869 : (r852.1 : Int) = r866.1
                                                      · rw [if_pos c869] at h
                                                        refine rn_icmp_eq_t i239_869 c869 ?_
                                                        exact rn_sub [0, 1, 2, 3] rfl (s_La_law_1045 hD (La_law_18 n) ih a0 a1 a2 x3 r866.2 r h)
                                                      · rw [if_neg c869] at h
                                                        refine rn_icmp_eq_f i239_869 c869 ?_
                                                        refine rn_iconst i239_872 ?_
                                                        obtain rfl := Option.some.inj h
                                                        exact rn_retZ i239_873 mr239 (by decide)
                                                    · rw [if_neg c33_23] at h
                                                      by_cases c33_24 : ((oand v29 31) : Int) = 24
                                                      · rw [if_pos c33_24] at h
                                                        refine rn_tsw_in (tgt := 874) i239_33 24 (by omega) (by omega) rfl rfl ?_
                                                        refine fr_aload_n i239_874 rfl ?_
                                                        obtain ⟨r875, h875, h⟩ := Option.bind_eq_some_iff.mp h
                                                        obtain ⟨g875, c875⟩ := S_Hh_nobody a1 w r875 h875
                                                        refine fr_callV (a := a1) (As := []) (st := []) i239_875 (cq132 a1) rfl (Nat.le_of_ble_eq_true rfl) g875 (c875 _ (by omega)) ?_
                                                        show Rn _ _ _ _ _ _ [.inl r875.1] _ _ _
                                                        refine fr_aload_n i239_878 rfl ?_
                                                        obtain ⟨r879, h879, h⟩ := Option.bind_eq_some_iff.mp h
                                                        obtain ⟨g879, c879⟩ := S_Mo_nobody a2 r875.2 r879 h879
                                                        refine fr_callV (a := a2) (As := []) (st := [.inl r875.1]) i239_879 (cq231 a2) rfl (Nat.le_of_ble_eq_true rfl) g879 (c879 _ (by omega)) ?_
                                                        show Rn _ _ _ _ _ _ [.inl r879.1, .inl r875.1] _ _ _
                                                        by_cases c882 : (r875.1 : Int) = r879.1
                                                        · rw [if_pos c882] at h
                                                          refine rn_icmp_eq_t i239_882 c882 ?_
                                                          exact rn_sub [0, 1, 2, 3] rfl (s_La_law_1045 hD (La_law_18 n) ih a0 a1 a2 x3 r879.2 r h)
                                                        · rw [if_neg c882] at h
                                                          refine rn_icmp_eq_f i239_882 c882 ?_
                                                          refine rn_iconst i239_885 ?_
                                                          obtain rfl := Option.some.inj h
                                                          exact rn_retZ i239_886 mr239 (by decide)
                                                      · rw [if_neg c33_24] at h
                                                        by_cases c33_25 : ((oand v29 31) : Int) = 25
                                                        · rw [if_pos c33_25] at h
                                                          refine rn_tsw_in (tgt := 887) i239_33 25 (by omega) (by omega) rfl rfl ?_
                                                          refine fr_aload_n i239_887 rfl ?_
                                                          refine fr_aload_n i239_888 rfl ?_
                                                          refine rn_iload_n i239_889 rfl ?_
                                                          refine rn_iconst i239_890 ?_
                                                          refine rn_iadd i239_891 ?_
                                                          obtain ⟨v892, h892, h⟩ := Option.bind_eq_some_iff.mp h
                                                          refine rn_iald i239_892 h892 ?_
                                                          refine fr_aload_n i239_893 rfl ?_
                                                          refine rn_iload_n i239_894 rfl ?_
                                                          refine rn_iconst i239_895 ?_
                                                          refine rn_iadd i239_896 ?_
                                                          obtain ⟨v897, h897, h⟩ := Option.bind_eq_some_iff.mp h
                                                          refine rn_iald i239_897 h897 ?_
                                                          obtain ⟨r898, h898, h⟩ := Option.bind_eq_some_iff.mp h
                                                          obtain ⟨g898, c898⟩ := S_Hh_tell a1 v892 v897 w r898 h898
                                                          refine fr_callV (a := a1) (As := [.inl v892, .inl v897]) (st := []) i239_898 (cq137 a1 v892 v897) rfl (Nat.le_of_ble_eq_true rfl) g898 (c898 _ (by omega)) ?_
                                                          show Rn _ _ _ _ _ _ [.inl r898.1] _ _ _
                                                          refine fr_aload_n i239_901 rfl ?_
                                                          refine fr_aload_n i239_902 rfl ?_
                                                          refine rn_iload_n i239_903 rfl ?_
                                                          refine rn_iconst i239_904 ?_
                                                          refine rn_iadd i239_905 ?_
                                                          obtain ⟨v906, h906, h⟩ := Option.bind_eq_some_iff.mp h
                                                          refine rn_iald i239_906 h906 ?_
                                                          refine fr_aload_n i239_907 rfl ?_
                                                          refine rn_iload_n i239_908 rfl ?_
                                                          refine rn_iconst i239_909 ?_
                                                          refine rn_iadd i239_910 ?_
                                                          obtain ⟨v911, h911, h⟩ := Option.bind_eq_some_iff.mp h
                                                          refine rn_iald i239_911 h911 ?_
                                                          obtain ⟨r912, h912, h⟩ := Option.bind_eq_some_iff.mp h
                                                          obtain ⟨g912, c912⟩ := S_Mo_tell a2 v906 v911 r898.2 r912 h912
                                                          refine fr_callV (a := a2) (As := [.inl v906, .inl v911]) (st := [.inl r898.1]) i239_912 (cq232 a2 v906 v911) rfl (Nat.le_of_ble_eq_true rfl) g912 (c912 _ (by omega)) ?_
                                                          show Rn _ _ _ _ _ _ [.inl r912.1, .inl r898.1] _ _ _
                                                          by_cases c915 : (r898.1 : Int) = r912.1
                                                          · rw [if_pos c915] at h
                                                            refine rn_icmp_eq_t i239_915 c915 ?_
                                                            exact rn_sub [0, 1, 2, 3] rfl (s_La_law_1045 hD (La_law_18 n) ih a0 a1 a2 x3 r912.2 r h)
                                                          · rw [if_neg c915] at h
                                                            refine rn_icmp_eq_f i239_915 c915 ?_
                                                            refine rn_iconst i239_918 ?_
                                                            obtain rfl := Option.some.inj h
                                                            exact rn_retZ i239_919 mr239 (by decide)
                                                        · rw [if_neg c33_25] at h
                                                          by_cases c33_26 : ((oand v29 31) : Int) = 26
                                                          · rw [if_pos c33_26] at h
                                                            refine rn_tsw_in (tgt := 920) i239_33 26 (by omega) (by omega) rfl rfl ?_
                                                            refine fr_aload_n i239_920 rfl ?_
                                                            obtain ⟨r921, h921, h⟩ := Option.bind_eq_some_iff.mp h
                                                            obtain ⟨g921, c921⟩ := S_Hh_forget a1 w r921 h921
                                                            refine fr_callV (a := a1) (As := []) (st := []) i239_921 (cq138 a1) rfl (Nat.le_of_ble_eq_true rfl) g921 (c921 _ (by omega)) ?_
                                                            show Rn _ _ _ _ _ _ [.inl r921.1] _ _ _
                                                            refine fr_aload_n i239_924 rfl ?_
                                                            obtain ⟨r925, h925, h⟩ := Option.bind_eq_some_iff.mp h
                                                            obtain ⟨g925, c925⟩ := S_Mo_forget a2 r921.2 r925 h925
                                                            refine fr_callV (a := a2) (As := []) (st := [.inl r921.1]) i239_925 (cq233 a2) rfl (Nat.le_of_ble_eq_true rfl) g925 (c925 _ (by omega)) ?_
                                                            show Rn _ _ _ _ _ _ [.inl r925.1, .inl r921.1] _ _ _
                                                            by_cases c928 : (r921.1 : Int) = r925.1
                                                            · rw [if_pos c928] at h
                                                              refine rn_icmp_eq_t i239_928 c928 ?_
                                                              exact rn_sub [0, 1, 2, 3] rfl (s_La_law_1045 hD (La_law_18 n) ih a0 a1 a2 x3 r925.2 r h)
                                                            · rw [if_neg c928] at h
                                                              refine rn_icmp_eq_f i239_928 c928 ?_
                                                              refine rn_iconst i239_931 ?_
                                                              obtain rfl := Option.some.inj h
                                                              exact rn_retZ i239_932 mr239 (by decide)
                                                          · rw [if_neg c33_26] at h
                                                            by_cases c33_27 : ((oand v29 31) : Int) = 27
                                                            · rw [if_pos c33_27] at h
                                                              refine rn_tsw_in (tgt := 933) i239_33 27 (by omega) (by omega) rfl rfl ?_
                                                              refine fr_aload_n i239_933 rfl ?_
                                                              refine fr_aload_n i239_934 rfl ?_
                                                              refine rn_iload_n i239_935 rfl ?_
                                                              refine rn_iconst i239_936 ?_
                                                              refine rn_iadd i239_937 ?_
                                                              obtain ⟨v938, h938, h⟩ := Option.bind_eq_some_iff.mp h
                                                              refine rn_iald i239_938 h938 ?_
                                                              refine fr_aload_n i239_939 rfl ?_
                                                              refine rn_iload_n i239_940 rfl ?_
                                                              refine rn_iconst i239_941 ?_
                                                              refine rn_iadd i239_942 ?_
                                                              obtain ⟨v943, h943, h⟩ := Option.bind_eq_some_iff.mp h
                                                              refine rn_iald i239_943 h943 ?_
                                                              refine fr_aload_n i239_944 rfl ?_
                                                              refine rn_iload_n i239_945 rfl ?_
                                                              refine rn_iconst i239_946 ?_
                                                              refine rn_iadd i239_947 ?_
                                                              obtain ⟨v948, h948, h⟩ := Option.bind_eq_some_iff.mp h
                                                              refine rn_iald i239_948 h948 ?_
                                                              obtain ⟨r949, h949, h⟩ := Option.bind_eq_some_iff.mp h
                                                              obtain ⟨g949, c949⟩ := S_Hh_dated a1 v938 v943 v948 w r949 h949
                                                              refine fr_callV (a := a1) (As := [.inl v938, .inl v943, .inl v948]) (st := []) i239_949 (cq139 a1 v938 v943 v948) rfl (Nat.le_of_ble_eq_true rfl) g949 (c949 _ (by omega)) ?_
                                                              show Rn _ _ _ _ _ _ [.inl r949.1] _ _ _
                                                              refine fr_aload_n i239_952 rfl ?_
                                                              refine fr_aload_n i239_953 rfl ?_
                                                              refine rn_iload_n i239_954 rfl ?_
                                                              refine rn_iconst i239_955 ?_
                                                              refine rn_iadd i239_956 ?_
                                                              obtain ⟨v957, h957, h⟩ := Option.bind_eq_some_iff.mp h
                                                              refine rn_iald i239_957 h957 ?_
                                                              refine fr_aload_n i239_958 rfl ?_
                                                              refine rn_iload_n i239_959 rfl ?_
                                                              refine rn_iconst i239_960 ?_
                                                              refine rn_iadd i239_961 ?_
                                                              obtain ⟨v962, h962, h⟩ := Option.bind_eq_some_iff.mp h
                                                              refine rn_iald i239_962 h962 ?_
                                                              refine fr_aload_n i239_963 rfl ?_
                                                              refine rn_iload_n i239_964 rfl ?_
                                                              refine rn_iconst i239_965 ?_
                                                              refine rn_iadd i239_966 ?_
                                                              obtain ⟨v967, h967, h⟩ := Option.bind_eq_some_iff.mp h
                                                              refine rn_iald i239_967 h967 ?_
                                                              obtain ⟨r968, h968, h⟩ := Option.bind_eq_some_iff.mp h
                                                              obtain ⟨g968, c968⟩ := S_Mo_dated a2 v957 v962 v967 r949.2 r968 h968
                                                              refine fr_callV (a := a2) (As := [.inl v957, .inl v962, .inl v967]) (st := [.inl r949.1]) i239_968 (cq235 a2 v957 v962 v967) rfl (Nat.le_of_ble_eq_true rfl) g968 (c968 _ (by omega)) ?_
                                                              show Rn _ _ _ _ _ _ [.inl r968.1, .inl r949.1] _ _ _
                                                              by_cases c971 : (r949.1 : Int) = r968.1
                                                              · rw [if_pos c971] at h
                                                                refine rn_icmp_eq_t i239_971 c971 ?_
                                                                exact rn_sub [0, 1, 2, 3] rfl (s_La_law_1045 hD (La_law_18 n) ih a0 a1 a2 x3 r968.2 r h)
                                                              · rw [if_neg c971] at h
                                                                refine rn_icmp_eq_f i239_971 c971 ?_
                                                                refine rn_iconst i239_974 ?_
                                                                obtain rfl := Option.some.inj h
                                                                exact rn_retZ i239_975 mr239 (by decide)
                                                            · rw [if_neg c33_27] at h
                                                              by_cases c33_28 : ((oand v29 31) : Int) = 28
                                                              · rw [if_pos c33_28] at h
                                                                refine rn_tsw_in (tgt := 976) i239_33 28 (by omega) (by omega) rfl rfl ?_
                                                                refine fr_aload_n i239_976 rfl ?_
                                                                refine fr_aload_n i239_977 rfl ?_
                                                                refine rn_iload_n i239_978 rfl ?_
                                                                refine rn_iconst i239_979 ?_
                                                                refine rn_iadd i239_980 ?_
                                                                obtain ⟨v981, h981, h⟩ := Option.bind_eq_some_iff.mp h
                                                                refine rn_iald i239_981 h981 ?_
                                                                obtain ⟨r982, h982, h⟩ := Option.bind_eq_some_iff.mp h
                                                                obtain ⟨g982, c982⟩ := S_Hh_hold a1 v981 w r982 h982
                                                                refine fr_callV (a := a1) (As := [.inl v981]) (st := []) i239_982 (cq140 a1 v981) rfl (Nat.le_of_ble_eq_true rfl) g982 (c982 _ (by omega)) ?_
                                                                show Rn _ _ _ _ _ _ [.inl r982.1] _ _ _
                                                                refine fr_aload_n i239_985 rfl ?_
                                                                refine fr_aload_n i239_986 rfl ?_
                                                                refine rn_iload_n i239_987 rfl ?_
                                                                refine rn_iconst i239_988 ?_
                                                                refine rn_iadd i239_989 ?_
                                                                obtain ⟨v990, h990, h⟩ := Option.bind_eq_some_iff.mp h
                                                                refine rn_iald i239_990 h990 ?_
                                                                obtain ⟨r991, h991, h⟩ := Option.bind_eq_some_iff.mp h
                                                                obtain ⟨g991, c991⟩ := S_Mo_hold a2 v990 r982.2 r991 h991
                                                                refine fr_callV (a := a2) (As := [.inl v990]) (st := [.inl r982.1]) i239_991 (cq236 a2 v990) rfl (Nat.le_of_ble_eq_true rfl) g991 (c991 _ (by omega)) ?_
                                                                show Rn _ _ _ _ _ _ [.inl r991.1, .inl r982.1] _ _ _
                                                                by_cases c994 : (r982.1 : Int) = r991.1
                                                                · rw [if_pos c994] at h
                                                                  refine rn_icmp_eq_t i239_994 c994 ?_
                                                                  exact rn_sub [0, 1, 2, 3] rfl (s_La_law_1045 hD (La_law_18 n) ih a0 a1 a2 x3 r991.2 r h)
                                                                · rw [if_neg c994] at h
                                                                  refine rn_icmp_eq_f i239_994 c994 ?_
                                                                  refine rn_iconst i239_997 ?_
                                                                  obtain rfl := Option.some.inj h
                                                                  exact rn_retZ i239_998 mr239 (by decide)
                                                              · rw [if_neg c33_28] at h
                                                                by_cases c33_29 : ((oand v29 31) : Int) = 29
                                                                · rw [if_pos c33_29] at h
                                                                  refine rn_tsw_in (tgt := 999) i239_33 29 (by omega) (by omega) rfl rfl ?_
                                                                  refine fr_aload_n i239_999 rfl ?_
                                                                  refine fr_aload_n i239_1000 rfl ?_
                                                                  refine rn_iload_n i239_1001 rfl ?_
                                                                  refine rn_iconst i239_1002 ?_
                                                                  refine rn_iadd i239_1003 ?_
                                                                  obtain ⟨v1004, h1004, h⟩ := Option.bind_eq_some_iff.mp h
                                                                  refine rn_iald i239_1004 h1004 ?_
                                                                  obtain ⟨r1005, h1005, h⟩ := Option.bind_eq_some_iff.mp h
                                                                  obtain ⟨g1005, c1005⟩ := S_Hh_restore a1 v1004 w r1005 h1005
                                                                  refine fr_callV (a := a1) (As := [.inl v1004]) (st := []) i239_1005 (cq141 a1 v1004) rfl (Nat.le_of_ble_eq_true rfl) g1005 (c1005 _ (by omega)) ?_
                                                                  show Rn _ _ _ _ _ _ [.inl r1005.1] _ _ _
                                                                  refine fr_aload_n i239_1008 rfl ?_
                                                                  refine fr_aload_n i239_1009 rfl ?_
                                                                  refine rn_iload_n i239_1010 rfl ?_
                                                                  refine rn_iconst i239_1011 ?_
                                                                  refine rn_iadd i239_1012 ?_
                                                                  obtain ⟨v1013, h1013, h⟩ := Option.bind_eq_some_iff.mp h
                                                                  refine rn_iald i239_1013 h1013 ?_
                                                                  obtain ⟨r1014, h1014, h⟩ := Option.bind_eq_some_iff.mp h
                                                                  obtain ⟨g1014, c1014⟩ := S_Mo_restore a2 v1013 r1005.2 r1014 h1014
                                                                  refine fr_callV (a := a2) (As := [.inl v1013]) (st := [.inl r1005.1]) i239_1014 (cq237 a2 v1013) rfl (Nat.le_of_ble_eq_true rfl) g1014 (c1014 _ (by omega)) ?_
                                                                  show Rn _ _ _ _ _ _ [.inl r1014.1, .inl r1005.1] _ _ _
                                                                  by_cases c1017 : (r1005.1 : Int) = r1014.1
                                                                  · rw [if_pos c1017] at h
                                                                    refine rn_icmp_eq_t i239_1017 c1017 ?_
                                                                    exact rn_sub [0, 1, 2, 3] rfl (s_La_law_1045 hD (La_law_18 n) ih a0 a1 a2 x3 r1014.2 r h)
                                                                  · rw [if_neg c1017] at h
                                                                    refine rn_icmp_eq_f i239_1017 c1017 ?_
                                                                    refine rn_iconst i239_1020 ?_
                                                                    obtain rfl := Option.some.inj h
                                                                    exact rn_retZ i239_1021 mr239 (by decide)
                                                                · rw [if_neg c33_29] at h
                                                                  by_cases c33_30 : ((oand v29 31) : Int) = 30
                                                                  · rw [if_pos c33_30] at h
                                                                    refine rn_tsw_in (tgt := 1022) i239_33 30 (by omega) (by omega) rfl rfl ?_
                                                                    refine fr_aload_n i239_1022 rfl ?_
                                                                    refine fr_aload_n i239_1023 rfl ?_
                                                                    refine rn_iload_n i239_1024 rfl ?_
                                                                    refine rn_iconst i239_1025 ?_
                                                                    refine rn_iadd i239_1026 ?_
                                                                    obtain ⟨v1027, h1027, h⟩ := Option.bind_eq_some_iff.mp h
                                                                    refine rn_iald i239_1027 h1027 ?_
                                                                    obtain ⟨r1028, h1028, h⟩ := Option.bind_eq_some_iff.mp h
                                                                    obtain ⟨g1028, c1028⟩ := S_Hh_count a1 v1027 w r1028 h1028
                                                                    refine fr_callV (a := a1) (As := [.inl v1027]) (st := []) i239_1028 (cq142 a1 v1027) rfl (Nat.le_of_ble_eq_true rfl) g1028 (c1028 _ (by omega)) ?_
                                                                    show Rn _ _ _ _ _ _ [.inl r1028.1] _ _ _
                                                                    refine fr_aload_n i239_1031 rfl ?_
                                                                    refine fr_aload_n i239_1032 rfl ?_
                                                                    refine rn_iload_n i239_1033 rfl ?_
                                                                    refine rn_iconst i239_1034 ?_
                                                                    refine rn_iadd i239_1035 ?_
                                                                    obtain ⟨v1036, h1036, h⟩ := Option.bind_eq_some_iff.mp h
                                                                    refine rn_iald i239_1036 h1036 ?_
                                                                    obtain ⟨r1037, h1037, h⟩ := Option.bind_eq_some_iff.mp h
                                                                    obtain ⟨g1037, c1037⟩ := S_Mo_count a2 v1036 r1028.2 r1037 h1037
                                                                    refine fr_callV (a := a2) (As := [.inl v1036]) (st := [.inl r1028.1]) i239_1037 (cq238 a2 v1036) rfl (Nat.le_of_ble_eq_true rfl) g1037 (c1037 _ (by omega)) ?_
                                                                    show Rn _ _ _ _ _ _ [.inl r1037.1, .inl r1028.1] _ _ _
                                                                    by_cases c1040 : (r1028.1 : Int) = r1037.1
                                                                    · rw [if_pos c1040] at h
                                                                      refine rn_icmp_eq_t i239_1040 c1040 ?_
                                                                      exact rn_sub [0, 1, 2, 3] rfl (s_La_law_1045 hD (La_law_18 n) ih a0 a1 a2 x3 r1037.2 r h)
                                                                    · rw [if_neg c1040] at h
                                                                      refine rn_icmp_eq_f i239_1040 c1040 ?_
                                                                      refine rn_iconst i239_1043 ?_
                                                                      obtain rfl := Option.some.inj h
                                                                      exact rn_retZ i239_1044 mr239 (by decide)
                                                                  · rw [if_neg c33_30] at h
                                                                    refine rn_tsw_out (tgt := 1045) i239_33 (by omega) rfl ?_
                                                                    exact rn_sub [0, 1, 2, 3] rfl (s_La_law_1045 hD (La_law_18 n) ih a0 a1 a2 x3 w r h)
def La_law_0 (a0 : Nat) (w : Wd) : Option (Int × Wd) :=
  (Hh_init (wn w) (nw w 11 12)).bind fun r4 =>
  (Mo_init (wn r4) (nw r4 12 68)).bind fun r12 =>
  La_law_18 FU a0 (wn w) (wn r4) 0 r12
theorem s_La_law_0 {g : Gp} {l : Launch} {D : Nat} (hD : 105 ≤ D) (a0 : Nat) (w : Wd) (r : Int × Wd) (h : La_law_0 a0 w = some r) : Rn g l D 239 0 [(0, .inr (.inr a0))] [] w (some (.inl r.1)) r.2 := by
  obtain ⟨D, rfl⟩ : ∃ D1, D = D1 + 1 := ⟨D - 1, by omega⟩
  unfold La_law_0 at h
  refine rn_new i239_0 (by decide) ?_
  refine rn_dup i239_3 rfl ?_
  obtain ⟨r4, h4, h⟩ := Option.bind_eq_some_iff.mp h
  obtain ⟨g4, c4⟩ := S_Hh_init (wn w) (nw w 11 12) r4 h4
  refine fr_callI (nst := 0) (a := (wn w)) (As := []) (st := [.inr (.inr (wn w))]) i239_4 (cq102 (wn w)) rfl (Nat.le_of_ble_eq_true rfl) g4 (c4 _ (by omega)) ?_
  refine fr_astore_n (ls1 := [(1, .inr (.inr (wn w))), (0, .inr (.inr a0))]) i239_7 rfl ?_
  refine rn_new i239_8 (by decide) ?_
  refine rn_dup i239_11 rfl ?_
  obtain ⟨r12, h12, h⟩ := Option.bind_eq_some_iff.mp h
  obtain ⟨g12, c12⟩ := S_Mo_init (wn r4) (nw r4 12 68) r12 h12
  refine fr_callI (nst := 0) (a := (wn r4)) (As := []) (st := [.inr (.inr (wn r4))]) i239_12 (cq145 (wn r4)) rfl (Nat.le_of_ble_eq_true rfl) g12 (c12 _ (by omega)) ?_
  refine fr_astore_n (ls1 := [(2, .inr (.inr (wn r4))), (1, .inr (.inr (wn w))), (0, .inr (.inr a0))]) i239_15 rfl ?_
  refine rn_iconst i239_16 ?_
  refine rn_istore_n (ls1 := [(3, .inl 0), (2, .inr (.inr (wn r4))), (1, .inr (.inr (wn w))), (0, .inr (.inr a0))]) i239_17 rfl ?_
  exact rn_sub [3, 2, 1, 0] rfl (s_La_law_18 hD FU a0 (wn w) (wn r4) 0 r12 r h)
/-- HandHeirsLaw.law([I)Z -/
def La_law (a0 : Nat) (w : Wd) : Option (Int × Wd) := La_law_0 a0 w
theorem S_La_law {g : Gp} {l : Launch} (a0 : Nat) (w : Wd) (r : Int × Wd) (h : La_law a0 w = some r) : ∀ D, 105 ≤ D → Rn g l D 239 0 [(0, .inr (.inr a0))] [] w (some (.inl r.1)) r.2 := fun D hD => rn_sub [0] rfl (s_La_law_0 hD a0 w r h)
