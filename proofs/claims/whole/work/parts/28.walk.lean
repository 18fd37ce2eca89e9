theorem i225_0 : ins 225 0 = some (.aload_n 0, 1, 0, 0) := by decide +kernel
theorem i225_1 : ins 225 1 = some (.iload_n 1, 2, 0, 0) := by decide +kernel
theorem i225_2 : ins 225 2 = some (.invokevirtual 387, 5, 185, 0) := by decide +kernel
theorem i225_5 : ins 225 5 = some (.ifCond .eq (13), 8, 18, 0) := by decide +kernel
theorem i225_8 : ins 225 8 = some (.iload_n 2, 9, 0, 0) := by decide +kernel
theorem i225_9 : ins 225 9 = some (.iconst (1), 10, 0, 1) := by decide +kernel
theorem i225_10 : ins 225 10 = some (.bipush (50), 12, 0, 50) := by decide +kernel
theorem i225_12 : ins 225 12 = some (.invokestatic 311, 15, 183, 0) := by decide +kernel
theorem i225_15 : ins 225 15 = some (.ifCond .ne (5), 18, 20, 0) := by decide +kernel
theorem i225_18 : ins 225 18 = some (.iconst (-1), 19, 0, -1) := by decide +kernel
theorem i225_19 : ins 225 19 = some (.ireturn, 20, 0, 0) := by decide +kernel
theorem i225_20 : ins 225 20 = some (.aload_n 0, 21, 0, 0) := by decide +kernel
theorem i225_21 : ins 225 21 = some (.invokevirtual 390, 24, 189, 0) := by decide +kernel
theorem i225_24 : ins 225 24 = some (.iconst (0), 25, 0, 0) := by decide +kernel
theorem i225_25 : ins 225 25 = some (.istore_n 3, 26, 0, 0) := by decide +kernel
theorem i225_26 : ins 225 26 = some (.aload_n 0, 27, 0, 0) := by decide +kernel
theorem i225_27 : ins 225 27 = some (.iconst (0), 28, 0, 0) := by decide +kernel
theorem i225_28 : ins 225 28 = some (.putfield 315, 31, 12, 51) := by decide +kernel
theorem i225_31 : ins 225 31 = some (.aload_n 0, 32, 0, 0) := by decide +kernel
theorem i225_32 : ins 225 32 = some (.getfield 315, 35, 12, 51) := by decide +kernel
theorem i225_35 : ins 225 35 = some (.iload_n 2, 36, 0, 0) := by decide +kernel
theorem i225_36 : ins 225 36 = some (.if_icmp .ge (27), 39, 63, 0) := by decide +kernel
theorem i225_39 : ins 225 39 = some (.aload_n 0, 40, 0, 0) := by decide +kernel
theorem i225_40 : ins 225 40 = some (.invokevirtual 378, 43, 202, 0) := by decide +kernel
theorem i225_43 : ins 225 43 = some (.iload_n 1, 44, 0, 0) := by decide +kernel
theorem i225_44 : ins 225 44 = some (.if_icmp .ne (6), 47, 50, 0) := by decide +kernel
theorem i225_47 : ins 225 47 = some (.iinc 3 (1), 50, 0, 1) := by decide +kernel
theorem i225_50 : ins 225 50 = some (.aload_n 0, 51, 0, 0) := by decide +kernel
theorem i225_51 : ins 225 51 = some (.dup, 52, 0, 0) := by decide +kernel
theorem i225_52 : ins 225 52 = some (.getfield 315, 55, 12, 51) := by decide +kernel
theorem i225_55 : ins 225 55 = some (.iconst (1), 56, 0, 1) := by decide +kernel
theorem i225_56 : ins 225 56 = some (.iadd, 57, 0, 0) := by decide +kernel
theorem i225_57 : ins 225 57 = some (.putfield 315, 60, 12, 51) := by decide +kernel
theorem i225_60 : ins 225 60 = some (.goto (-29), 63, 31, 0) := by decide +kernel
theorem i225_63 : ins 225 63 = some (.iload_n 3, 64, 0, 0) := by decide +kernel
theorem i225_64 : ins 225 64 = some (.ireturn, 65, 0, 0) := by decide +kernel
theorem i226_0 : ins 226 0 = some (.aload_n 0, 1, 0, 0) := by decide +kernel
theorem i226_1 : ins 226 1 = some (.iload_n 1, 2, 0, 0) := by decide +kernel
theorem i226_2 : ins 226 2 = some (.invokevirtual 387, 5, 185, 0) := by decide +kernel
theorem i226_5 : ins 226 5 = some (.ifCond .ne (5), 8, 10, 0) := by decide +kernel
theorem i226_8 : ins 226 8 = some (.iconst (-1), 9, 0, -1) := by decide +kernel
theorem i226_9 : ins 226 9 = some (.ireturn, 10, 0, 0) := by decide +kernel
theorem i226_10 : ins 226 10 = some (.aload_n 0, 11, 0, 0) := by decide +kernel
theorem i226_11 : ins 226 11 = some (.invokevirtual 390, 14, 189, 0) := by decide +kernel
theorem i226_14 : ins 226 14 = some (.aload_n 0, 15, 0, 0) := by decide +kernel
theorem i226_15 : ins 226 15 = some (.iload_n 1, 16, 0, 0) := by decide +kernel
theorem i226_16 : ins 226 16 = some (.putfield 321, 19, 12, 53) := by decide +kernel
theorem i226_19 : ins 226 19 = some (.aload_n 0, 20, 0, 0) := by decide +kernel
theorem i226_20 : ins 226 20 = some (.invokevirtual 378, 23, 202, 0) := by decide +kernel
theorem i226_23 : ins 226 23 = some (.invokestatic 396, 26, 211, 0) := by decide +kernel
theorem i226_26 : ins 226 26 = some (.ireturn, 27, 0, 0) := by decide +kernel
theorem i227_0 : ins 227 0 = some (.aload_n 0, 1, 0, 0) := by decide +kernel
theorem i227_1 : ins 227 1 = some (.iload_n 1, 2, 0, 0) := by decide +kernel
theorem i227_2 : ins 227 2 = some (.invokevirtual 393, 5, 186, 0) := by decide +kernel
theorem i227_5 : ins 227 5 = some (.ifCond .eq (13), 8, 18, 0) := by decide +kernel
theorem i227_8 : ins 227 8 = some (.iload_n 2, 9, 0, 0) := by decide +kernel
theorem i227_9 : ins 227 9 = some (.iconst (1), 10, 0, 1) := by decide +kernel
theorem i227_10 : ins 227 10 = some (.bipush (100), 12, 0, 100) := by decide +kernel
theorem i227_12 : ins 227 12 = some (.invokestatic 311, 15, 183, 0) := by decide +kernel
theorem i227_15 : ins 227 15 = some (.ifCond .ne (5), 18, 20, 0) := by decide +kernel
theorem i227_18 : ins 227 18 = some (.iconst (-1), 19, 0, -1) := by decide +kernel
theorem i227_19 : ins 227 19 = some (.ireturn, 20, 0, 0) := by decide +kernel
theorem i227_20 : ins 227 20 = some (.aload_n 0, 21, 0, 0) := by decide +kernel
theorem i227_21 : ins 227 21 = some (.invokevirtual 390, 24, 189, 0) := by decide +kernel
theorem i227_24 : ins 227 24 = some (.iconst (0), 25, 0, 0) := by decide +kernel
theorem i227_25 : ins 227 25 = some (.istore_n 3, 26, 0, 0) := by decide +kernel
theorem i227_26 : ins 227 26 = some (.iconst (0), 27, 0, 0) := by decide +kernel
theorem i227_27 : ins 227 27 = some (.istore 4, 29, 0, 0) := by decide +kernel
theorem i227_29 : ins 227 29 = some (.iload 4, 31, 0, 0) := by decide +kernel
theorem i227_31 : ins 227 31 = some (.iload_n 2, 32, 0, 0) := by decide +kernel
theorem i227_32 : ins 227 32 = some (.if_icmp .ge (41), 35, 73, 0) := by decide +kernel
theorem i227_35 : ins 227 35 = some (.aload_n 0, 36, 0, 0) := by decide +kernel
theorem i227_36 : ins 227 36 = some (.invokevirtual 406, 39, 205, 0) := by decide +kernel
theorem i227_39 : ins 227 39 = some (.aload_n 0, 40, 0, 0) := by decide +kernel
theorem i227_40 : ins 227 40 = some (.getfield 122, 43, 12, 57) := by decide +kernel
theorem i227_43 : ins 227 43 = some (.iload_n 1, 44, 0, 0) := by decide +kernel
theorem i227_44 : ins 227 44 = some (.iaload, 45, 0, 0) := by decide +kernel
theorem i227_45 : ins 227 45 = some (.ifCond .lt (22), 48, 67, 0) := by decide +kernel
theorem i227_48 : ins 227 48 = some (.aload_n 0, 49, 0, 0) := by decide +kernel
theorem i227_49 : ins 227 49 = some (.getfield 122, 52, 12, 57) := by decide +kernel
theorem i227_52 : ins 227 52 = some (.iload_n 1, 53, 0, 0) := by decide +kernel
theorem i227_53 : ins 227 53 = some (.iaload, 54, 0, 0) := by decide +kernel
theorem i227_54 : ins 227 54 = some (.aload_n 0, 55, 0, 0) := by decide +kernel
theorem i227_55 : ins 227 55 = some (.getfield 116, 58, 12, 50) := by decide +kernel
theorem i227_58 : ins 227 58 = some (.bipush (43), 60, 0, 43) := by decide +kernel
theorem i227_60 : ins 227 60 = some (.iaload, 61, 0, 0) := by decide +kernel
theorem i227_61 : ins 227 61 = some (.if_icmp .eq (6), 64, 67, 0) := by decide +kernel
theorem i227_64 : ins 227 64 = some (.iinc 3 (1), 67, 0, 1) := by decide +kernel
theorem i227_67 : ins 227 67 = some (.iinc 4 (1), 70, 0, 1) := by decide +kernel
theorem i227_70 : ins 227 70 = some (.goto (-41), 73, 29, 0) := by decide +kernel
theorem i227_73 : ins 227 73 = some (.iload_n 3, 74, 0, 0) := by decide +kernel
theorem i227_74 : ins 227 74 = some (.ireturn, 75, 0, 0) := by decide +kernel
theorem i228_0 : ins 228 0 = some (.aload_n 0, 1, 0, 0) := by decide +kernel
theorem i228_1 : ins 228 1 = some (.iload_n 1, 2, 0, 0) := by decide +kernel
theorem i228_2 : ins 228 2 = some (.invokevirtual 387, 5, 185, 0) := by decide +kernel
theorem i228_5 : ins 228 5 = some (.ifCond .eq (22), 8, 27, 0) := by decide +kernel
theorem i228_8 : ins 228 8 = some (.iload_n 2, 9, 0, 0) := by decide +kernel
theorem i228_9 : ins 228 9 = some (.iconst (1), 10, 0, 1) := by decide +kernel
theorem i228_10 : ins 228 10 = some (.bipush (50), 12, 0, 50) := by decide +kernel
theorem i228_12 : ins 228 12 = some (.invokestatic 311, 15, 183, 0) := by decide +kernel
theorem i228_15 : ins 228 15 = some (.ifCond .eq (12), 18, 27, 0) := by decide +kernel
theorem i228_18 : ins 228 18 = some (.iload_n 3, 19, 0, 0) := by decide +kernel
theorem i228_19 : ins 228 19 = some (.iconst (0), 20, 0, 0) := by decide +kernel
theorem i228_20 : ins 228 20 = some (.iconst (1), 21, 0, 1) := by decide +kernel
theorem i228_21 : ins 228 21 = some (.invokestatic 311, 24, 183, 0) := by decide +kernel
theorem i228_24 : ins 228 24 = some (.ifCond .ne (5), 27, 29, 0) := by decide +kernel
theorem i228_27 : ins 228 27 = some (.iconst (-1), 28, 0, -1) := by decide +kernel
theorem i228_28 : ins 228 28 = some (.ireturn, 29, 0, 0) := by decide +kernel
theorem i228_29 : ins 228 29 = some (.bipush (-2), 31, 0, -2) := by decide +kernel
theorem i228_31 : ins 228 31 = some (.istore 4, 33, 0, 0) := by decide +kernel
theorem i228_33 : ins 228 33 = some (.bipush (-2), 35, 0, -2) := by decide +kernel
theorem i228_35 : ins 228 35 = some (.istore 5, 37, 0, 0) := by decide +kernel
theorem i228_37 : ins 228 37 = some (.iconst (0), 38, 0, 0) := by decide +kernel
theorem i228_38 : ins 228 38 = some (.istore 6, 40, 0, 0) := by decide +kernel
theorem i228_40 : ins 228 40 = some (.iload 6, 42, 0, 0) := by decide +kernel
theorem i228_42 : ins 228 42 = some (.aload_n 0, 43, 0, 0) := by decide +kernel
theorem i228_43 : ins 228 43 = some (.getfield 46, 46, 12, 23) := by decide +kernel
theorem i228_46 : ins 228 46 = some (.aload_n 0, 47, 0, 0) := by decide +kernel
theorem i228_47 : ins 228 47 = some (.getfield 228, 50, 12, 18) := by decide +kernel
theorem i228_50 : ins 228 50 = some (.iaload, 51, 0, 0) := by decide +kernel
theorem i228_51 : ins 228 51 = some (.if_icmp .ge (78), 54, 129, 0) := by decide +kernel
theorem i228_54 : ins 228 54 = some (.aload_n 0, 55, 0, 0) := by decide +kernel
theorem i228_55 : ins 228 55 = some (.invokevirtual 390, 58, 189, 0) := by decide +kernel
theorem i228_58 : ins 228 58 = some (.aload_n 0, 59, 0, 0) := by decide +kernel
theorem i228_59 : ins 228 59 = some (.iload_n 1, 60, 0, 0) := by decide +kernel
theorem i228_60 : ins 228 60 = some (.putfield 324, 63, 12, 54) := by decide +kernel
theorem i228_63 : ins 228 63 = some (.aload_n 0, 64, 0, 0) := by decide +kernel
theorem i228_64 : ins 228 64 = some (.iload 6, 66, 0, 0) := by decide +kernel
theorem i228_66 : ins 228 66 = some (.putfield 327, 69, 12, 55) := by decide +kernel
theorem i228_69 : ins 228 69 = some (.iconst (0), 70, 0, 0) := by decide +kernel
theorem i228_70 : ins 228 70 = some (.istore 7, 72, 0, 0) := by decide +kernel
theorem i228_72 : ins 228 72 = some (.iconst (0), 73, 0, 0) := by decide +kernel
theorem i228_73 : ins 228 73 = some (.istore 8, 75, 0, 0) := by decide +kernel
theorem i228_75 : ins 228 75 = some (.iload 8, 77, 0, 0) := by decide +kernel
theorem i228_77 : ins 228 77 = some (.iload_n 2, 78, 0, 0) := by decide +kernel
theorem i228_78 : ins 228 78 = some (.if_icmp .ge (27), 81, 105, 0) := by decide +kernel
theorem i228_81 : ins 228 81 = some (.aload_n 0, 82, 0, 0) := by decide +kernel
theorem i228_82 : ins 228 82 = some (.invokevirtual 406, 85, 205, 0) := by decide +kernel
theorem i228_85 : ins 228 85 = some (.aload_n 0, 86, 0, 0) := by decide +kernel
theorem i228_86 : ins 228 86 = some (.getfield 116, 89, 12, 50) := by decide +kernel
theorem i228_89 : ins 228 89 = some (.bipush (43), 91, 0, 43) := by decide +kernel
theorem i228_91 : ins 228 91 = some (.iaload, 92, 0, 0) := by decide +kernel
theorem i228_92 : ins 228 92 = some (.iload_n 1, 93, 0, 0) := by decide +kernel
theorem i228_93 : ins 228 93 = some (.if_icmp .ne (6), 96, 99, 0) := by decide +kernel
theorem i228_96 : ins 228 96 = some (.iinc 7 (1), 99, 0, 1) := by decide +kernel
theorem i228_99 : ins 228 99 = some (.iinc 8 (1), 102, 0, 1) := by decide +kernel
theorem i228_102 : ins 228 102 = some (.goto (-27), 105, 75, 0) := by decide +kernel
theorem i228_105 : ins 228 105 = some (.iload 7, 107, 0, 0) := by decide +kernel
theorem i228_107 : ins 228 107 = some (.iload 5, 109, 0, 0) := by decide +kernel
theorem i228_109 : ins 228 109 = some (.if_icmp .gt (6), 112, 115, 0) := by decide +kernel
theorem i228_112 : ins 228 112 = some (.goto (11), 115, 123, 0) := by decide +kernel
theorem i228_115 : ins 228 115 = some (.iload 6, 117, 0, 0) := by decide +kernel
theorem i228_117 : ins 228 117 = some (.istore 4, 119, 0, 0) := by decide +kernel
theorem i228_119 : ins 228 119 = some (.iload 7, 121, 0, 0) := by decide +kernel
theorem i228_121 : ins 228 121 = some (.istore 5, 123, 0, 0) := by decide +kernel
theorem i228_123 : ins 228 123 = some (.iinc 6 (1), 126, 0, 1) := by decide +kernel
theorem i228_126 : ins 228 126 = some (.goto (-86), 129, 40, 0) := by decide +kernel
theorem i228_129 : ins 228 129 = some (.iload_n 3, 130, 0, 0) := by decide +kernel
theorem i228_130 : ins 228 130 = some (.ifCond .ne (8), 133, 138, 0) := by decide +kernel
theorem i228_133 : ins 228 133 = some (.iload 4, 135, 0, 0) := by decide +kernel
theorem i228_135 : ins 228 135 = some (.goto (5), 138, 140, 0) := by decide +kernel
theorem i228_138 : ins 228 138 = some (.iload 5, 140, 0, 0) := by decide +kernel
theorem i228_140 : ins 228 140 = some (.ireturn, 141, 0, 0) := by decide +kernel
theorem i229_0 : ins 229 0 = some (.iload_n 1, 1, 0, 0) := by decide +kernel
theorem i229_1 : ins 229 1 = some (.iconst (0), 2, 0, 0) := by decide +kernel
theorem i229_2 : ins 229 2 = some (.iconst (2), 3, 0, 2) := by decide +kernel
theorem i229_3 : ins 229 3 = some (.invokestatic 311, 6, 183, 0) := by decide +kernel
theorem i229_6 : ins 229 6 = some (.ifCond .ne (5), 9, 11, 0) := by decide +kernel
theorem i229_9 : ins 229 9 = some (.iconst (-1), 10, 0, -1) := by decide +kernel
theorem i229_10 : ins 229 10 = some (.ireturn, 11, 0, 0) := by decide +kernel
theorem i229_11 : ins 229 11 = some (.bipush (-2), 13, 0, -2) := by decide +kernel
theorem i229_13 : ins 229 13 = some (.istore_n 2, 14, 0, 0) := by decide +kernel
theorem i229_14 : ins 229 14 = some (.bipush (-2), 16, 0, -2) := by decide +kernel
theorem i229_16 : ins 229 16 = some (.istore_n 3, 17, 0, 0) := by decide +kernel
theorem i229_17 : ins 229 17 = some (.iconst (0), 18, 0, 0) := by decide +kernel
theorem i229_18 : ins 229 18 = some (.istore 4, 20, 0, 0) := by decide +kernel
theorem i229_20 : ins 229 20 = some (.iconst (0), 21, 0, 0) := by decide +kernel
theorem i229_21 : ins 229 21 = some (.istore 5, 23, 0, 0) := by decide +kernel
theorem i229_23 : ins 229 23 = some (.iconst (0), 24, 0, 0) := by decide +kernel
theorem i229_24 : ins 229 24 = some (.istore 6, 26, 0, 0) := by decide +kernel
theorem i229_26 : ins 229 26 = some (.iload 6, 28, 0, 0) := by decide +kernel
theorem i229_28 : ins 229 28 = some (.aload_n 0, 29, 0, 0) := by decide +kernel
theorem i229_29 : ins 229 29 = some (.getfield 113, 32, 12, 49) := by decide +kernel
theorem i229_32 : ins 229 32 = some (.bipush (45), 34, 0, 45) := by decide +kernel
theorem i229_34 : ins 229 34 = some (.iaload, 35, 0, 0) := by decide +kernel
theorem i229_35 : ins 229 35 = some (.if_icmp .ge (91), 38, 126, 0) := by decide +kernel
theorem i229_38 : ins 229 38 = some (.aload_n 0, 39, 0, 0) := by decide +kernel
theorem i229_39 : ins 229 39 = some (.getfield 113, 42, 12, 49) := by decide +kernel
theorem i229_42 : ins 229 42 = some (.bipush (66), 44, 0, 66) := by decide +kernel
theorem i229_44 : ins 229 44 = some (.bipush (7), 46, 0, 7) := by decide +kernel
theorem i229_46 : ins 229 46 = some (.iload 6, 48, 0, 0) := by decide +kernel
theorem i229_48 : ins 229 48 = some (.imul, 49, 0, 0) := by decide +kernel
theorem i229_49 : ins 229 49 = some (.iadd, 50, 0, 0) := by decide +kernel
theorem i229_50 : ins 229 50 = some (.iaload, 51, 0, 0) := by decide +kernel
theorem i229_51 : ins 229 51 = some (.istore 7, 53, 0, 0) := by decide +kernel
theorem i229_53 : ins 229 53 = some (.iload 7, 55, 0, 0) := by decide +kernel
theorem i229_55 : ins 229 55 = some (.ifCond .ge (7), 58, 62, 0) := by decide +kernel
theorem i229_58 : ins 229 58 = some (.iconst (0), 59, 0, 0) := by decide +kernel
theorem i229_59 : ins 229 59 = some (.goto (34), 62, 93, 0) := by decide +kernel
theorem i229_62 : ins 229 62 = some (.iload 6, 64, 0, 0) := by decide +kernel
theorem i229_64 : ins 229 64 = some (.ifCond .le (28), 67, 92, 0) := by decide +kernel
theorem i229_67 : ins 229 67 = some (.aload_n 0, 68, 0, 0) := by decide +kernel
theorem i229_68 : ins 229 68 = some (.getfield 113, 71, 12, 49) := by decide +kernel
theorem i229_71 : ins 229 71 = some (.bipush (59), 73, 0, 59) := by decide +kernel
theorem i229_73 : ins 229 73 = some (.bipush (7), 75, 0, 7) := by decide +kernel
theorem i229_75 : ins 229 75 = some (.iload 6, 77, 0, 0) := by decide +kernel
theorem i229_77 : ins 229 77 = some (.imul, 78, 0, 0) := by decide +kernel
theorem i229_78 : ins 229 78 = some (.iadd, 79, 0, 0) := by decide +kernel
theorem i229_79 : ins 229 79 = some (.iaload, 80, 0, 0) := by decide +kernel
theorem i229_80 : ins 229 80 = some (.iload 7, 82, 0, 0) := by decide +kernel
theorem i229_82 : ins 229 82 = some (.if_icmp .ne (10), 85, 92, 0) := by decide +kernel
theorem i229_85 : ins 229 85 = some (.iload 5, 87, 0, 0) := by decide +kernel
theorem i229_87 : ins 229 87 = some (.iconst (1), 88, 0, 1) := by decide +kernel
theorem i229_88 : ins 229 88 = some (.iadd, 89, 0, 0) := by decide +kernel
theorem i229_89 : ins 229 89 = some (.goto (4), 92, 93, 0) := by decide +kernel
theorem i229_92 : ins 229 92 = some (.iconst (1), 93, 0, 1) := by decide +kernel
theorem i229_93 : ins 229 93 = some (.istore 5, 95, 0, 0) := by decide +kernel
theorem i229_95 : ins 229 95 = some (.iload 5, 97, 0, 0) := by decide +kernel
theorem i229_97 : ins 229 97 = some (.iload 4, 99, 0, 0) := by decide +kernel
theorem i229_99 : ins 229 99 = some (.if_icmp .gt (6), 102, 105, 0) := by decide +kernel
theorem i229_102 : ins 229 102 = some (.goto (18), 105, 120, 0) := by decide +kernel
theorem i229_105 : ins 229 105 = some (.iload 5, 107, 0, 0) := by decide +kernel
theorem i229_107 : ins 229 107 = some (.istore 4, 109, 0, 0) := by decide +kernel
theorem i229_109 : ins 229 109 = some (.iload 6, 111, 0, 0) := by decide +kernel
theorem i229_111 : ins 229 111 = some (.iload 5, 113, 0, 0) := by decide +kernel
theorem i229_113 : ins 229 113 = some (.isub, 114, 0, 0) := by decide +kernel
theorem i229_114 : ins 229 114 = some (.iconst (1), 115, 0, 1) := by decide +kernel
theorem i229_115 : ins 229 115 = some (.iadd, 116, 0, 0) := by decide +kernel
theorem i229_116 : ins 229 116 = some (.istore_n 3, 117, 0, 0) := by decide +kernel
theorem i229_117 : ins 229 117 = some (.iload 7, 119, 0, 0) := by decide +kernel
theorem i229_119 : ins 229 119 = some (.istore_n 2, 120, 0, 0) := by decide +kernel
theorem i229_120 : ins 229 120 = some (.iinc 6 (1), 123, 0, 1) := by decide +kernel
theorem i229_123 : ins 229 123 = some (.goto (-97), 126, 26, 0) := by decide +kernel
theorem i229_126 : ins 229 126 = some (.iload_n 2, 127, 0, 0) := by decide +kernel
theorem i229_127 : ins 229 127 = some (.ifCond .ge (6), 130, 133, 0) := by decide +kernel
theorem i229_130 : ins 229 130 = some (.bipush (-2), 132, 0, -2) := by decide +kernel
theorem i229_132 : ins 229 132 = some (.ireturn, 133, 0, 0) := by decide +kernel
theorem i229_133 : ins 229 133 = some (.iload_n 1, 134, 0, 0) := by decide +kernel
theorem i229_134 : ins 229 134 = some (.ifCond .ne (8), 137, 142, 0) := by decide +kernel
theorem i229_137 : ins 229 137 = some (.iload 4, 139, 0, 0) := by decide +kernel
theorem i229_139 : ins 229 139 = some (.goto (13), 142, 152, 0) := by decide +kernel
theorem i229_142 : ins 229 142 = some (.iload_n 1, 143, 0, 0) := by decide +kernel
theorem i229_143 : ins 229 143 = some (.iconst (1), 144, 0, 1) := by decide +kernel
theorem i229_144 : ins 229 144 = some (.if_icmp .ne (7), 147, 151, 0) := by decide +kernel
theorem i229_147 : ins 229 147 = some (.iload_n 3, 148, 0, 0) := by decide +kernel
theorem i229_148 : ins 229 148 = some (.goto (4), 151, 152, 0) := by decide +kernel
theorem i229_151 : ins 229 151 = some (.iload_n 2, 152, 0, 0) := by decide +kernel
theorem i229_152 : ins 229 152 = some (.ireturn, 153, 0, 0) := by decide +kernel
theorem i230_0 : ins 230 0 = some (.iconst (0), 1, 0, 0) := by decide +kernel
theorem i230_1 : ins 230 1 = some (.istore_n 3, 2, 0, 0) := by decide +kernel
theorem i230_2 : ins 230 2 = some (.iconst (0), 3, 0, 0) := by decide +kernel
theorem i230_3 : ins 230 3 = some (.istore 4, 5, 0, 0) := by decide +kernel
theorem i230_5 : ins 230 5 = some (.iload 4, 7, 0, 0) := by decide +kernel
theorem i230_7 : ins 230 7 = some (.aload_n 0, 8, 0, 0) := by decide +kernel
theorem i230_8 : ins 230 8 = some (.getfield 46, 11, 12, 23) := by decide +kernel
theorem i230_11 : ins 230 11 = some (.aload_n 0, 12, 0, 0) := by decide +kernel
theorem i230_12 : ins 230 12 = some (.getfield 228, 15, 12, 18) := by decide +kernel
theorem i230_15 : ins 230 15 = some (.iaload, 16, 0, 0) := by decide +kernel
theorem i230_16 : ins 230 16 = some (.if_icmp .ge (37), 19, 53, 0) := by decide +kernel
theorem i230_19 : ins 230 19 = some (.iload_n 3, 20, 0, 0) := by decide +kernel
theorem i230_20 : ins 230 20 = some (.aload_n 0, 21, 0, 0) := by decide +kernel
theorem i230_21 : ins 230 21 = some (.getfield 113, 24, 12, 49) := by decide +kernel
theorem i230_24 : ins 230 24 = some (.bipush (6), 26, 0, 6) := by decide +kernel
theorem i230_26 : ins 230 26 = some (.bipush (6), 28, 0, 6) := by decide +kernel
theorem i230_28 : ins 230 28 = some (.iload_n 1, 29, 0, 0) := by decide +kernel
theorem i230_29 : ins 230 29 = some (.imul, 30, 0, 0) := by decide +kernel
theorem i230_30 : ins 230 30 = some (.iadd, 31, 0, 0) := by decide +kernel
theorem i230_31 : ins 230 31 = some (.iload 4, 33, 0, 0) := by decide +kernel
theorem i230_33 : ins 230 33 = some (.iadd, 34, 0, 0) := by decide +kernel
theorem i230_34 : ins 230 34 = some (.iaload, 35, 0, 0) := by decide +kernel
theorem i230_35 : ins 230 35 = some (.aload_n 0, 36, 0, 0) := by decide +kernel
theorem i230_36 : ins 230 36 = some (.iload_n 2, 37, 0, 0) := by decide +kernel
theorem i230_37 : ins 230 37 = some (.iload 4, 39, 0, 0) := by decide +kernel
theorem i230_39 : ins 230 39 = some (.invokevirtual 416, 42, 231, 0) := by decide +kernel
theorem i230_42 : ins 230 42 = some (.invokestatic 346, 45, 193, 0) := by decide +kernel
theorem i230_45 : ins 230 45 = some (.iadd, 46, 0, 0) := by decide +kernel
theorem i230_46 : ins 230 46 = some (.istore_n 3, 47, 0, 0) := by decide +kernel
theorem i230_47 : ins 230 47 = some (.iinc 4 (1), 50, 0, 1) := by decide +kernel
theorem i230_50 : ins 230 50 = some (.goto (-45), 53, 5, 0) := by decide +kernel
theorem i230_53 : ins 230 53 = some (.iload_n 3, 54, 0, 0) := by decide +kernel
theorem i230_54 : ins 230 54 = some (.ireturn, 55, 0, 0) := by decide +kernel
theorem i231_0 : ins 231 0 = some (.iload_n 1, 1, 0, 0) := by decide +kernel
theorem i231_1 : ins 231 1 = some (.aload_n 0, 2, 0, 0) := by decide +kernel
theorem i231_2 : ins 231 2 = some (.getfield 113, 5, 12, 49) := by decide +kernel
theorem i231_5 : ins 231 5 = some (.bipush (45), 7, 0, 45) := by decide +kernel
theorem i231_7 : ins 231 7 = some (.iaload, 8, 0, 0) := by decide +kernel
theorem i231_8 : ins 231 8 = some (.if_icmp .ge (20), 11, 28, 0) := by decide +kernel
theorem i231_11 : ins 231 11 = some (.aload_n 0, 12, 0, 0) := by decide +kernel
theorem i231_12 : ins 231 12 = some (.getfield 113, 15, 12, 49) := by decide +kernel
theorem i231_15 : ins 231 15 = some (.bipush (60), 17, 0, 60) := by decide +kernel
theorem i231_17 : ins 231 17 = some (.bipush (7), 19, 0, 7) := by decide +kernel
theorem i231_19 : ins 231 19 = some (.iload_n 1, 20, 0, 0) := by decide +kernel
theorem i231_20 : ins 231 20 = some (.imul, 21, 0, 0) := by decide +kernel
theorem i231_21 : ins 231 21 = some (.iadd, 22, 0, 0) := by decide +kernel
theorem i231_22 : ins 231 22 = some (.iload_n 2, 23, 0, 0) := by decide +kernel
theorem i231_23 : ins 231 23 = some (.iadd, 24, 0, 0) := by decide +kernel
theorem i231_24 : ins 231 24 = some (.iaload, 25, 0, 0) := by decide +kernel
theorem i231_25 : ins 231 25 = some (.goto (9), 28, 34, 0) := by decide +kernel
theorem i231_28 : ins 231 28 = some (.aload_n 0, 29, 0, 0) := by decide +kernel
theorem i231_29 : ins 231 29 = some (.getfield 113, 32, 12, 49) := by decide +kernel
theorem i231_32 : ins 231 32 = some (.iload_n 2, 33, 0, 0) := by decide +kernel
theorem i231_33 : ins 231 33 = some (.iaload, 34, 0, 0) := by decide +kernel
theorem i231_34 : ins 231 34 = some (.ireturn, 35, 0, 0) := by decide +kernel
theorem i232_0 : ins 232 0 = some (.aload_n 0, 1, 0, 0) := by decide +kernel
theorem i232_1 : ins 232 1 = some (.iload_n 1, 2, 0, 0) := by decide +kernel
theorem i232_2 : ins 232 2 = some (.invokevirtual 387, 5, 185, 0) := by decide +kernel
theorem i232_5 : ins 232 5 = some (.ifCond .eq (12), 8, 17, 0) := by decide +kernel
theorem i232_8 : ins 232 8 = some (.iload_n 2, 9, 0, 0) := by decide +kernel
theorem i232_9 : ins 232 9 = some (.iconst (0), 10, 0, 0) := by decide +kernel
theorem i232_10 : ins 232 10 = some (.iconst (1), 11, 0, 1) := by decide +kernel
theorem i232_11 : ins 232 11 = some (.invokestatic 311, 14, 183, 0) := by decide +kernel
theorem i232_14 : ins 232 14 = some (.ifCond .ne (5), 17, 19, 0) := by decide +kernel
theorem i232_17 : ins 232 17 = some (.iconst (-1), 18, 0, -1) := by decide +kernel
theorem i232_18 : ins 232 18 = some (.ireturn, 19, 0, 0) := by decide +kernel
theorem i232_19 : ins 232 19 = some (.iconst (0), 20, 0, 0) := by decide +kernel
theorem i232_20 : ins 232 20 = some (.istore_n 3, 21, 0, 0) := by decide +kernel
theorem i232_21 : ins 232 21 = some (.iconst (1), 22, 0, 1) := by decide +kernel
theorem i232_22 : ins 232 22 = some (.istore 4, 24, 0, 0) := by decide +kernel
theorem i232_24 : ins 232 24 = some (.iload 4, 26, 0, 0) := by decide +kernel
theorem i232_26 : ins 232 26 = some (.aload_n 0, 27, 0, 0) := by decide +kernel
theorem i232_27 : ins 232 27 = some (.getfield 113, 30, 12, 49) := by decide +kernel
theorem i232_30 : ins 232 30 = some (.bipush (45), 32, 0, 45) := by decide +kernel
theorem i232_32 : ins 232 32 = some (.iaload, 33, 0, 0) := by decide +kernel
theorem i232_33 : ins 232 33 = some (.if_icmp .gt (28), 36, 61, 0) := by decide +kernel
theorem i232_36 : ins 232 36 = some (.aload_n 0, 37, 0, 0) := by decide +kernel
theorem i232_37 : ins 232 37 = some (.iload_n 1, 38, 0, 0) := by decide +kernel
theorem i232_38 : ins 232 38 = some (.iload 4, 40, 0, 0) := by decide +kernel
theorem i232_40 : ins 232 40 = some (.invokevirtual 419, 43, 230, 0) := by decide +kernel
theorem i232_43 : ins 232 43 = some (.aload_n 0, 44, 0, 0) := by decide +kernel
theorem i232_44 : ins 232 44 = some (.iload_n 1, 45, 0, 0) := by decide +kernel
theorem i232_45 : ins 232 45 = some (.iload_n 3, 46, 0, 0) := by decide +kernel
theorem i232_46 : ins 232 46 = some (.invokevirtual 419, 49, 230, 0) := by decide +kernel
theorem i232_49 : ins 232 49 = some (.if_icmp .ge (6), 52, 55, 0) := by decide +kernel
theorem i232_52 : ins 232 52 = some (.iload 4, 54, 0, 0) := by decide +kernel
theorem i232_54 : ins 232 54 = some (.istore_n 3, 55, 0, 0) := by decide +kernel
theorem i232_55 : ins 232 55 = some (.iinc 4 (1), 58, 0, 1) := by decide +kernel
theorem i232_58 : ins 232 58 = some (.goto (-34), 61, 24, 0) := by decide +kernel
theorem i232_61 : ins 232 61 = some (.iload_n 2, 62, 0, 0) := by decide +kernel
theorem i232_62 : ins 232 62 = some (.iconst (1), 63, 0, 1) := by decide +kernel
theorem i232_63 : ins 232 63 = some (.if_icmp .ne (12), 66, 75, 0) := by decide +kernel
theorem i232_66 : ins 232 66 = some (.aload_n 0, 67, 0, 0) := by decide +kernel
theorem i232_67 : ins 232 67 = some (.iload_n 1, 68, 0, 0) := by decide +kernel
theorem i232_68 : ins 232 68 = some (.iload_n 3, 69, 0, 0) := by decide +kernel
theorem i232_69 : ins 232 69 = some (.invokevirtual 419, 72, 230, 0) := by decide +kernel
theorem i232_72 : ins 232 72 = some (.goto (25), 75, 97, 0) := by decide +kernel
theorem i232_75 : ins 232 75 = some (.iload_n 3, 76, 0, 0) := by decide +kernel
theorem i232_76 : ins 232 76 = some (.aload_n 0, 77, 0, 0) := by decide +kernel
theorem i232_77 : ins 232 77 = some (.getfield 113, 80, 12, 49) := by decide +kernel
theorem i232_80 : ins 232 80 = some (.bipush (45), 82, 0, 45) := by decide +kernel
theorem i232_82 : ins 232 82 = some (.iaload, 83, 0, 0) := by decide +kernel
theorem i232_83 : ins 232 83 = some (.if_icmp .ge (7), 86, 90, 0) := by decide +kernel
theorem i232_86 : ins 232 86 = some (.iload_n 3, 87, 0, 0) := by decide +kernel
theorem i232_87 : ins 232 87 = some (.goto (10), 90, 97, 0) := by decide +kernel
theorem i232_90 : ins 232 90 = some (.aload_n 0, 91, 0, 0) := by decide +kernel
theorem i232_91 : ins 232 91 = some (.getfield 113, 94, 12, 49) := by decide +kernel
theorem i232_94 : ins 232 94 = some (.bipush (42), 96, 0, 42) := by decide +kernel
theorem i232_96 : ins 232 96 = some (.iaload, 97, 0, 0) := by decide +kernel
theorem i232_97 : ins 232 97 = some (.ireturn, 98, 0, 0) := by decide +kernel
theorem i233_0 : ins 233 0 = some (.aload_n 0, 1, 0, 0) := by decide +kernel
theorem i233_1 : ins 233 1 = some (.invokevirtual 390, 4, 189, 0) := by decide +kernel
theorem i233_4 : ins 233 4 = some (.iconst (1), 5, 0, 1) := by decide +kernel
theorem i233_5 : ins 233 5 = some (.istore_n 1, 6, 0, 0) := by decide +kernel
theorem i233_6 : ins 233 6 = some (.iload_n 1, 7, 0, 0) := by decide +kernel
theorem i233_7 : ins 233 7 = some (.sipush (200), 10, 0, 200) := by decide +kernel
theorem i233_10 : ins 233 10 = some (.if_icmp .gt (25), 13, 35, 0) := by decide +kernel
theorem i233_13 : ins 233 13 = some (.aload_n 0, 14, 0, 0) := by decide +kernel
theorem i233_14 : ins 233 14 = some (.invokevirtual 406, 17, 205, 0) := by decide +kernel
theorem i233_17 : ins 233 17 = some (.aload_n 0, 18, 0, 0) := by decide +kernel
theorem i233_18 : ins 233 18 = some (.getfield 116, 21, 12, 50) := by decide +kernel
theorem i233_21 : ins 233 21 = some (.bipush (43), 23, 0, 43) := by decide +kernel
theorem i233_23 : ins 233 23 = some (.iaload, 24, 0, 0) := by decide +kernel
theorem i233_24 : ins 233 24 = some (.ifCond .ge (5), 27, 29, 0) := by decide +kernel
theorem i233_27 : ins 233 27 = some (.iload_n 1, 28, 0, 0) := by decide +kernel
theorem i233_28 : ins 233 28 = some (.ireturn, 29, 0, 0) := by decide +kernel
theorem i233_29 : ins 233 29 = some (.iinc 1 (1), 32, 0, 1) := by decide +kernel
theorem i233_32 : ins 233 32 = some (.goto (-26), 35, 6, 0) := by decide +kernel
theorem i233_35 : ins 233 35 = some (.bipush (-2), 37, 0, -2) := by decide +kernel
theorem i233_37 : ins 233 37 = some (.ireturn, 38, 0, 0) := by decide +kernel
theorem i234_0 : ins 234 0 = some (.aload_n 0, 1, 0, 0) := by decide +kernel
theorem i234_1 : ins 234 1 = some (.getfield 249, 4, 12, 63) := by decide +kernel
theorem i234_4 : ins 234 4 = some (.bipush (20), 6, 0, 20) := by decide +kernel
theorem i234_6 : ins 234 6 = some (.if_icmp .eq (21), 9, 27, 0) := by decide +kernel
theorem i234_9 : ins 234 9 = some (.aload_n 0, 10, 0, 0) := by decide +kernel
theorem i234_10 : ins 234 10 = some (.iload_n 1, 11, 0, 0) := by decide +kernel
theorem i234_11 : ins 234 11 = some (.invokevirtual 384, 14, 184, 0) := by decide +kernel
theorem i234_14 : ins 234 14 = some (.ifCond .eq (13), 17, 27, 0) := by decide +kernel
theorem i234_17 : ins 234 17 = some (.iload_n 2, 18, 0, 0) := by decide +kernel
theorem i234_18 : ins 234 18 = some (.iconst (0), 19, 0, 0) := by decide +kernel
theorem i234_19 : ins 234 19 = some (.bipush (99), 21, 0, 99) := by decide +kernel
theorem i234_21 : ins 234 21 = some (.invokestatic 311, 24, 183, 0) := by decide +kernel
theorem i234_24 : ins 234 24 = some (.ifCond .ne (5), 27, 29, 0) := by decide +kernel
theorem i234_27 : ins 234 27 = some (.iconst (-1), 28, 0, -1) := by decide +kernel
theorem i234_28 : ins 234 28 = some (.ireturn, 29, 0, 0) := by decide +kernel
theorem i234_29 : ins 234 29 = some (.aload_n 0, 30, 0, 0) := by decide +kernel
theorem i234_30 : ins 234 30 = some (.getfield 138, 33, 12, 64) := by decide +kernel
theorem i234_33 : ins 234 33 = some (.aload_n 0, 34, 0, 0) := by decide +kernel
theorem i234_34 : ins 234 34 = some (.getfield 249, 37, 12, 63) := by decide +kernel
theorem i234_37 : ins 234 37 = some (.iload_n 1, 38, 0, 0) := by decide +kernel
theorem i234_38 : ins 234 38 = some (.iastore, 39, 0, 0) := by decide +kernel
theorem i234_39 : ins 234 39 = some (.aload_n 0, 40, 0, 0) := by decide +kernel
theorem i234_40 : ins 234 40 = some (.getfield 141, 43, 12, 65) := by decide +kernel
theorem i234_43 : ins 234 43 = some (.aload_n 0, 44, 0, 0) := by decide +kernel
theorem i234_44 : ins 234 44 = some (.getfield 249, 47, 12, 63) := by decide +kernel
theorem i234_47 : ins 234 47 = some (.iload_n 2, 48, 0, 0) := by decide +kernel
theorem i234_48 : ins 234 48 = some (.iastore, 49, 0, 0) := by decide +kernel
theorem i234_49 : ins 234 49 = some (.aload_n 0, 50, 0, 0) := by decide +kernel
theorem i234_50 : ins 234 50 = some (.dup, 51, 0, 0) := by decide +kernel
theorem i234_51 : ins 234 51 = some (.getfield 249, 54, 12, 63) := by decide +kernel
theorem i234_54 : ins 234 54 = some (.iconst (1), 55, 0, 1) := by decide +kernel
theorem i234_55 : ins 234 55 = some (.iadd, 56, 0, 0) := by decide +kernel
theorem i234_56 : ins 234 56 = some (.putfield 249, 59, 12, 63) := by decide +kernel
theorem i234_59 : ins 234 59 = some (.aload_n 0, 60, 0, 0) := by decide +kernel
theorem i234_60 : ins 234 60 = some (.getfield 249, 63, 12, 63) := by decide +kernel
theorem i234_63 : ins 234 63 = some (.iconst (1), 64, 0, 1) := by decide +kernel
theorem i234_64 : ins 234 64 = some (.isub, 65, 0, 0) := by decide +kernel
theorem i234_65 : ins 234 65 = some (.ireturn, 66, 0, 0) := by decide +kernel
theorem i235_0 : ins 235 0 = some (.aload_n 0, 1, 0, 0) := by decide +kernel
theorem i235_1 : ins 235 1 = some (.getfield 249, 4, 12, 63) := by decide +kernel
theorem i235_4 : ins 235 4 = some (.istore_n 1, 5, 0, 0) := by decide +kernel
theorem i235_5 : ins 235 5 = some (.aload_n 0, 6, 0, 0) := by decide +kernel
theorem i235_6 : ins 235 6 = some (.iconst (0), 7, 0, 0) := by decide +kernel
theorem i235_7 : ins 235 7 = some (.putfield 249, 10, 12, 63) := by decide +kernel
theorem i235_10 : ins 235 10 = some (.iload_n 1, 11, 0, 0) := by decide +kernel
theorem i235_11 : ins 235 11 = some (.ireturn, 12, 0, 0) := by decide +kernel
theorem i236_0 : ins 236 0 = some (.iconst (0), 1, 0, 0) := by decide +kernel
theorem i236_1 : ins 236 1 = some (.istore 4, 3, 0, 0) := by decide +kernel
theorem i236_3 : ins 236 3 = some (.iload 4, 5, 0, 0) := by decide +kernel
theorem i236_5 : ins 236 5 = some (.iload_n 3, 6, 0, 0) := by decide +kernel
theorem i236_6 : ins 236 6 = some (.if_icmp .ge (37), 9, 43, 0) := by decide +kernel
theorem i236_9 : ins 236 9 = some (.aload_n 0, 10, 0, 0) := by decide +kernel
theorem i236_10 : ins 236 10 = some (.iload_n 1, 11, 0, 0) := by decide +kernel
theorem i236_11 : ins 236 11 = some (.aload_n 0, 12, 0, 0) := by decide +kernel
theorem i236_12 : ins 236 12 = some (.getfield 138, 15, 12, 64) := by decide +kernel
theorem i236_15 : ins 236 15 = some (.iload 4, 17, 0, 0) := by decide +kernel
theorem i236_17 : ins 236 17 = some (.iaload, 18, 0, 0) := by decide +kernel
theorem i236_18 : ins 236 18 = some (.invokevirtual 416, 21, 231, 0) := by decide +kernel
theorem i236_21 : ins 236 21 = some (.aload_n 0, 22, 0, 0) := by decide +kernel
theorem i236_22 : ins 236 22 = some (.getfield 141, 25, 12, 65) := by decide +kernel
theorem i236_25 : ins 236 25 = some (.iload 4, 27, 0, 0) := by decide +kernel
theorem i236_27 : ins 236 27 = some (.iaload, 28, 0, 0) := by decide +kernel
theorem i236_28 : ins 236 28 = some (.invokestatic 346, 31, 193, 0) := by decide +kernel
theorem i236_31 : ins 236 31 = some (.iload_n 2, 32, 0, 0) := by decide +kernel
theorem i236_32 : ins 236 32 = some (.if_icmp .le (5), 35, 37, 0) := by decide +kernel
theorem i236_35 : ins 236 35 = some (.iconst (0), 36, 0, 0) := by decide +kernel
theorem i236_36 : ins 236 36 = some (.ireturn, 37, 0, 0) := by decide +kernel
theorem i236_37 : ins 236 37 = some (.iinc 4 (1), 40, 0, 1) := by decide +kernel
theorem i236_40 : ins 236 40 = some (.goto (-37), 43, 3, 0) := by decide +kernel
theorem i236_43 : ins 236 43 = some (.iconst (1), 44, 0, 1) := by decide +kernel
theorem i236_44 : ins 236 44 = some (.ireturn, 45, 0, 0) := by decide +kernel
theorem i237_0 : ins 237 0 = some (.iload_n 1, 1, 0, 0) := by decide +kernel
theorem i237_1 : ins 237 1 = some (.iconst (0), 2, 0, 0) := by decide +kernel
theorem i237_2 : ins 237 2 = some (.bipush (99), 4, 0, 99) := by decide +kernel
theorem i237_4 : ins 237 4 = some (.invokestatic 311, 7, 183, 0) := by decide +kernel
theorem i237_7 : ins 237 7 = some (.ifCond .eq (20), 10, 27, 0) := by decide +kernel
theorem i237_10 : ins 237 10 = some (.iload_n 2, 11, 0, 0) := by decide +kernel
theorem i237_11 : ins 237 11 = some (.iconst (0), 12, 0, 0) := by decide +kernel
theorem i237_12 : ins 237 12 = some (.aload_n 0, 13, 0, 0) := by decide +kernel
theorem i237_13 : ins 237 13 = some (.getfield 249, 16, 12, 63) := by decide +kernel
theorem i237_16 : ins 237 16 = some (.invokestatic 311, 19, 183, 0) := by decide +kernel
theorem i237_19 : ins 237 19 = some (.ifCond .eq (8), 22, 27, 0) := by decide +kernel
theorem i237_22 : ins 237 22 = some (.iload_n 3, 23, 0, 0) := by decide +kernel
theorem i237_23 : ins 237 23 = some (.iconst (-1), 24, 0, -1) := by decide +kernel
theorem i237_24 : ins 237 24 = some (.if_icmp .ge (5), 27, 29, 0) := by decide +kernel
theorem i237_27 : ins 237 27 = some (.iconst (-1), 28, 0, -1) := by decide +kernel
theorem i237_28 : ins 237 28 = some (.ireturn, 29, 0, 0) := by decide +kernel
theorem i237_29 : ins 237 29 = some (.iconst (0), 30, 0, 0) := by decide +kernel
theorem i237_30 : ins 237 30 = some (.istore 4, 32, 0, 0) := by decide +kernel
theorem i237_32 : ins 237 32 = some (.iconst (0), 33, 0, 0) := by decide +kernel
theorem i237_33 : ins 237 33 = some (.istore 5, 35, 0, 0) := by decide +kernel
theorem i237_35 : ins 237 35 = some (.iload 5, 37, 0, 0) := by decide +kernel
theorem i237_37 : ins 237 37 = some (.aload_n 0, 38, 0, 0) := by decide +kernel
theorem i237_38 : ins 237 38 = some (.getfield 113, 41, 12, 49) := by decide +kernel
theorem i237_41 : ins 237 41 = some (.bipush (45), 43, 0, 45) := by decide +kernel
theorem i237_43 : ins 237 43 = some (.iaload, 44, 0, 0) := by decide +kernel
theorem i237_44 : ins 237 44 = some (.if_icmp .gt (57), 47, 101, 0) := by decide +kernel
theorem i237_47 : ins 237 47 = some (.aload_n 0, 48, 0, 0) := by decide +kernel
theorem i237_48 : ins 237 48 = some (.iload 5, 50, 0, 0) := by decide +kernel
theorem i237_50 : ins 237 50 = some (.iload_n 1, 51, 0, 0) := by decide +kernel
theorem i237_51 : ins 237 51 = some (.iload_n 2, 52, 0, 0) := by decide +kernel
theorem i237_52 : ins 237 52 = some (.invokevirtual 422, 55, 236, 0) := by decide +kernel
theorem i237_55 : ins 237 55 = some (.ifCond .ne (6), 58, 61, 0) := by decide +kernel
theorem i237_58 : ins 237 58 = some (.goto (37), 61, 95, 0) := by decide +kernel
theorem i237_61 : ins 237 61 = some (.iload 4, 63, 0, 0) := by decide +kernel
theorem i237_63 : ins 237 63 = some (.iload_n 3, 64, 0, 0) := by decide +kernel
theorem i237_64 : ins 237 64 = some (.if_icmp .ne (28), 67, 92, 0) := by decide +kernel
theorem i237_67 : ins 237 67 = some (.iload 5, 69, 0, 0) := by decide +kernel
theorem i237_69 : ins 237 69 = some (.aload_n 0, 70, 0, 0) := by decide +kernel
theorem i237_70 : ins 237 70 = some (.getfield 113, 73, 12, 49) := by decide +kernel
theorem i237_73 : ins 237 73 = some (.bipush (45), 75, 0, 45) := by decide +kernel
theorem i237_75 : ins 237 75 = some (.iaload, 76, 0, 0) := by decide +kernel
theorem i237_76 : ins 237 76 = some (.if_icmp .ge (8), 79, 84, 0) := by decide +kernel
theorem i237_79 : ins 237 79 = some (.iload 5, 81, 0, 0) := by decide +kernel
theorem i237_81 : ins 237 81 = some (.goto (10), 84, 91, 0) := by decide +kernel
theorem i237_84 : ins 237 84 = some (.aload_n 0, 85, 0, 0) := by decide +kernel
theorem i237_85 : ins 237 85 = some (.getfield 113, 88, 12, 49) := by decide +kernel
theorem i237_88 : ins 237 88 = some (.bipush (42), 90, 0, 42) := by decide +kernel
theorem i237_90 : ins 237 90 = some (.iaload, 91, 0, 0) := by decide +kernel
theorem i237_91 : ins 237 91 = some (.ireturn, 92, 0, 0) := by decide +kernel
theorem i237_92 : ins 237 92 = some (.iinc 4 (1), 95, 0, 1) := by decide +kernel
theorem i237_95 : ins 237 95 = some (.iinc 5 (1), 98, 0, 1) := by decide +kernel
theorem i237_98 : ins 237 98 = some (.goto (-63), 101, 35, 0) := by decide +kernel
theorem i237_101 : ins 237 101 = some (.iload_n 3, 102, 0, 0) := by decide +kernel
theorem i237_102 : ins 237 102 = some (.iconst (-1), 103, 0, -1) := by decide +kernel
theorem i237_103 : ins 237 103 = some (.if_icmp .ne (8), 106, 111, 0) := by decide +kernel
theorem i237_106 : ins 237 106 = some (.iload 4, 108, 0, 0) := by decide +kernel
theorem i237_108 : ins 237 108 = some (.goto (4), 111, 112, 0) := by decide +kernel
theorem i237_111 : ins 237 111 = some (.iconst (-1), 112, 0, -1) := by decide +kernel
theorem i237_112 : ins 237 112 = some (.ireturn, 113, 0, 0) := by decide +kernel
theorem i238_0 : ins 238 0 = some (.iload_n 1, 1, 0, 0) := by decide +kernel
theorem i238_1 : ins 238 1 = some (.iconst (0), 2, 0, 0) := by decide +kernel
theorem i238_2 : ins 238 2 = some (.iconst (2), 3, 0, 2) := by decide +kernel
theorem i238_3 : ins 238 3 = some (.invokestatic 311, 6, 183, 0) := by decide +kernel
theorem i238_6 : ins 238 6 = some (.ifCond .ne (5), 9, 11, 0) := by decide +kernel
theorem i238_9 : ins 238 9 = some (.iconst (0), 10, 0, 0) := by decide +kernel
theorem i238_10 : ins 238 10 = some (.ireturn, 11, 0, 0) := by decide +kernel
theorem i238_11 : ins 238 11 = some (.aload_n 0, 12, 0, 0) := by decide +kernel
theorem i238_12 : ins 238 12 = some (.getfield 144, 15, 12, 66) := by decide +kernel
theorem i238_15 : ins 238 15 = some (.iload_n 1, 16, 0, 0) := by decide +kernel
theorem i238_16 : ins 238 16 = some (.iconst (1), 17, 0, 1) := by decide +kernel
theorem i238_17 : ins 238 17 = some (.bastore, 18, 0, 0) := by decide +kernel
theorem i238_18 : ins 238 18 = some (.iconst (0), 19, 0, 0) := by decide +kernel
theorem i238_19 : ins 238 19 = some (.istore_n 2, 20, 0, 0) := by decide +kernel
theorem i238_20 : ins 238 20 = some (.iload_n 2, 21, 0, 0) := by decide +kernel
theorem i238_21 : ins 238 21 = some (.sipush (2860), 24, 0, 2860) := by decide +kernel
theorem i238_24 : ins 238 24 = some (.if_icmp .ge (27), 27, 51, 0) := by decide +kernel
theorem i238_27 : ins 238 27 = some (.aload_n 0, 28, 0, 0) := by decide +kernel
theorem i238_28 : ins 238 28 = some (.getfield 147, 31, 12, 67) := by decide +kernel
theorem i238_31 : ins 238 31 = some (.sipush (2860), 34, 0, 2860) := by decide +kernel
theorem i238_34 : ins 238 34 = some (.iload_n 1, 35, 0, 0) := by decide +kernel
theorem i238_35 : ins 238 35 = some (.imul, 36, 0, 0) := by decide +kernel
theorem i238_36 : ins 238 36 = some (.iload_n 2, 37, 0, 0) := by decide +kernel
theorem i238_37 : ins 238 37 = some (.iadd, 38, 0, 0) := by decide +kernel
theorem i238_38 : ins 238 38 = some (.aload_n 0, 39, 0, 0) := by decide +kernel
theorem i238_39 : ins 238 39 = some (.getfield 113, 42, 12, 49) := by decide +kernel
theorem i238_42 : ins 238 42 = some (.iload_n 2, 43, 0, 0) := by decide +kernel
theorem i238_43 : ins 238 43 = some (.iaload, 44, 0, 0) := by decide +kernel
theorem i238_44 : ins 238 44 = some (.iastore, 45, 0, 0) := by decide +kernel
theorem i238_45 : ins 238 45 = some (.iinc 2 (1), 48, 0, 1) := by decide +kernel
theorem i238_48 : ins 238 48 = some (.goto (-28), 51, 20, 0) := by decide +kernel
theorem i238_51 : ins 238 51 = some (.iconst (1), 52, 0, 1) := by decide +kernel
theorem i238_52 : ins 238 52 = some (.ireturn, 53, 0, 0) := by decide +kernel
theorem i239_0 : ins 239 0 = some (.iload_n 1, 1, 0, 0) := by decide +kernel
theorem i239_1 : ins 239 1 = some (.iconst (0), 2, 0, 0) := by decide +kernel
theorem i239_2 : ins 239 2 = some (.iconst (2), 3, 0, 2) := by decide +kernel
theorem i239_3 : ins 239 3 = some (.invokestatic 311, 6, 183, 0) := by decide +kernel
theorem i239_6 : ins 239 6 = some (.ifCond .eq (12), 9, 18, 0) := by decide +kernel
theorem i239_9 : ins 239 9 = some (.aload_n 0, 10, 0, 0) := by decide +kernel
theorem i239_10 : ins 239 10 = some (.getfield 144, 13, 12, 66) := by decide +kernel
theorem i239_13 : ins 239 13 = some (.iload_n 1, 14, 0, 0) := by decide +kernel
theorem i239_14 : ins 239 14 = some (.baload, 15, 0, 0) := by decide +kernel
theorem i239_15 : ins 239 15 = some (.ifCond .ne (5), 18, 20, 0) := by decide +kernel
theorem i239_18 : ins 239 18 = some (.iconst (0), 19, 0, 0) := by decide +kernel
theorem i239_19 : ins 239 19 = some (.ireturn, 20, 0, 0) := by decide +kernel
theorem i239_20 : ins 239 20 = some (.iconst (0), 21, 0, 0) := by decide +kernel
theorem i239_21 : ins 239 21 = some (.istore_n 2, 22, 0, 0) := by decide +kernel
theorem i239_22 : ins 239 22 = some (.iload_n 2, 23, 0, 0) := by decide +kernel
theorem i239_23 : ins 239 23 = some (.sipush (2860), 26, 0, 2860) := by decide +kernel
theorem i239_26 : ins 239 26 = some (.if_icmp .ge (27), 29, 53, 0) := by decide +kernel
theorem i239_29 : ins 239 29 = some (.aload_n 0, 30, 0, 0) := by decide +kernel
theorem i239_30 : ins 239 30 = some (.getfield 113, 33, 12, 49) := by decide +kernel
theorem i239_33 : ins 239 33 = some (.iload_n 2, 34, 0, 0) := by decide +kernel
theorem i239_34 : ins 239 34 = some (.aload_n 0, 35, 0, 0) := by decide +kernel
theorem i239_35 : ins 239 35 = some (.getfield 147, 38, 12, 67) := by decide +kernel
theorem i239_38 : ins 239 38 = some (.sipush (2860), 41, 0, 2860) := by decide +kernel
theorem i239_41 : ins 239 41 = some (.iload_n 1, 42, 0, 0) := by decide +kernel
theorem i239_42 : ins 239 42 = some (.imul, 43, 0, 0) := by decide +kernel
theorem i239_43 : ins 239 43 = some (.iload_n 2, 44, 0, 0) := by decide +kernel
theorem i239_44 : ins 239 44 = some (.iadd, 45, 0, 0) := by decide +kernel
theorem i239_45 : ins 239 45 = some (.iaload, 46, 0, 0) := by decide +kernel
theorem i239_46 : ins 239 46 = some (.iastore, 47, 0, 0) := by decide +kernel
theorem i239_47 : ins 239 47 = some (.iinc 2 (1), 50, 0, 1) := by decide +kernel
theorem i239_50 : ins 239 50 = some (.goto (-28), 53, 22, 0) := by decide +kernel
theorem i239_53 : ins 239 53 = some (.aload_n 0, 54, 0, 0) := by decide +kernel
theorem i239_54 : ins 239 54 = some (.iconst (0), 55, 0, 0) := by decide +kernel
theorem i239_55 : ins 239 55 = some (.putfield 246, 58, 12, 58) := by decide +kernel
theorem i239_58 : ins 239 58 = some (.iconst (1), 59, 0, 1) := by decide +kernel
theorem i239_59 : ins 239 59 = some (.ireturn, 60, 0, 0) := by decide +kernel
theorem i240_0 : ins 240 0 = some (.iload_n 1, 1, 0, 0) := by decide +kernel
theorem i240_1 : ins 240 1 = some (.tableswitch (212) (0) (12) #[67, 77, 87, 97, 105, 116, 124, 134, 144, 152, 157, 162, 167], 68, 0, 0) := by decide +kernel
theorem i240_68 : ins 240 68 = some (.aload_n 0, 69, 0, 0) := by decide +kernel
theorem i240_69 : ins 240 69 = some (.getfield 46, 72, 12, 23) := by decide +kernel
theorem i240_72 : ins 240 72 = some (.aload_n 0, 73, 0, 0) := by decide +kernel
theorem i240_73 : ins 240 73 = some (.getfield 228, 76, 12, 18) := by decide +kernel
theorem i240_76 : ins 240 76 = some (.iaload, 77, 0, 0) := by decide +kernel
theorem i240_77 : ins 240 77 = some (.ireturn, 78, 0, 0) := by decide +kernel
theorem i240_78 : ins 240 78 = some (.aload_n 0, 79, 0, 0) := by decide +kernel
theorem i240_79 : ins 240 79 = some (.getfield 52, 82, 12, 25) := by decide +kernel
theorem i240_82 : ins 240 82 = some (.aload_n 0, 83, 0, 0) := by decide +kernel
theorem i240_83 : ins 240 83 = some (.getfield 228, 86, 12, 18) := by decide +kernel
theorem i240_86 : ins 240 86 = some (.iaload, 87, 0, 0) := by decide +kernel
theorem i240_87 : ins 240 87 = some (.ireturn, 88, 0, 0) := by decide +kernel
theorem i240_88 : ins 240 88 = some (.aload_n 0, 89, 0, 0) := by decide +kernel
theorem i240_89 : ins 240 89 = some (.getfield 64, 92, 12, 29) := by decide +kernel
theorem i240_92 : ins 240 92 = some (.aload_n 0, 93, 0, 0) := by decide +kernel
theorem i240_93 : ins 240 93 = some (.getfield 228, 96, 12, 18) := by decide +kernel
theorem i240_96 : ins 240 96 = some (.iaload, 97, 0, 0) := by decide +kernel
theorem i240_97 : ins 240 97 = some (.ireturn, 98, 0, 0) := by decide +kernel
theorem i240_98 : ins 240 98 = some (.aload_n 0, 99, 0, 0) := by decide +kernel
theorem i240_99 : ins 240 99 = some (.getfield 113, 102, 12, 49) := by decide +kernel
theorem i240_102 : ins 240 102 = some (.bipush (42), 104, 0, 42) := by decide +kernel
theorem i240_104 : ins 240 104 = some (.iaload, 105, 0, 0) := by decide +kernel
theorem i240_105 : ins 240 105 = some (.ireturn, 106, 0, 0) := by decide +kernel
theorem i240_106 : ins 240 106 = some (.aload_n 0, 107, 0, 0) := by decide +kernel
theorem i240_107 : ins 240 107 = some (.getfield 113, 110, 12, 49) := by decide +kernel
theorem i240_110 : ins 240 110 = some (.bipush (43), 112, 0, 43) := by decide +kernel
theorem i240_112 : ins 240 112 = some (.iaload, 113, 0, 0) := by decide +kernel
theorem i240_113 : ins 240 113 = some (.invokestatic 396, 116, 211, 0) := by decide +kernel
theorem i240_116 : ins 240 116 = some (.ireturn, 117, 0, 0) := by decide +kernel
theorem i240_117 : ins 240 117 = some (.aload_n 0, 118, 0, 0) := by decide +kernel
theorem i240_118 : ins 240 118 = some (.getfield 113, 121, 12, 49) := by decide +kernel
theorem i240_121 : ins 240 121 = some (.bipush (44), 123, 0, 44) := by decide +kernel
theorem i240_123 : ins 240 123 = some (.iaload, 124, 0, 0) := by decide +kernel
theorem i240_124 : ins 240 124 = some (.ireturn, 125, 0, 0) := by decide +kernel
theorem i240_125 : ins 240 125 = some (.aload_n 0, 126, 0, 0) := by decide +kernel
theorem i240_126 : ins 240 126 = some (.getfield 67, 129, 12, 30) := by decide +kernel
theorem i240_129 : ins 240 129 = some (.aload_n 0, 130, 0, 0) := by decide +kernel
theorem i240_130 : ins 240 130 = some (.getfield 228, 133, 12, 18) := by decide +kernel
theorem i240_133 : ins 240 133 = some (.iaload, 134, 0, 0) := by decide +kernel
theorem i240_134 : ins 240 134 = some (.ireturn, 135, 0, 0) := by decide +kernel
theorem i240_135 : ins 240 135 = some (.aload_n 0, 136, 0, 0) := by decide +kernel
theorem i240_136 : ins 240 136 = some (.getfield 70, 139, 12, 31) := by decide +kernel
theorem i240_139 : ins 240 139 = some (.aload_n 0, 140, 0, 0) := by decide +kernel
theorem i240_140 : ins 240 140 = some (.getfield 228, 143, 12, 18) := by decide +kernel
theorem i240_143 : ins 240 143 = some (.iaload, 144, 0, 0) := by decide +kernel
theorem i240_144 : ins 240 144 = some (.ireturn, 145, 0, 0) := by decide +kernel
theorem i240_145 : ins 240 145 = some (.aload_n 0, 146, 0, 0) := by decide +kernel
theorem i240_146 : ins 240 146 = some (.getfield 113, 149, 12, 49) := by decide +kernel
theorem i240_149 : ins 240 149 = some (.bipush (45), 151, 0, 45) := by decide +kernel
theorem i240_151 : ins 240 151 = some (.iaload, 152, 0, 0) := by decide +kernel
theorem i240_152 : ins 240 152 = some (.ireturn, 153, 0, 0) := by decide +kernel
theorem i240_153 : ins 240 153 = some (.aload_n 0, 154, 0, 0) := by decide +kernel
theorem i240_154 : ins 240 154 = some (.getfield 161, 157, 12, 2) := by decide +kernel
theorem i240_157 : ins 240 157 = some (.ireturn, 158, 0, 0) := by decide +kernel
theorem i240_158 : ins 240 158 = some (.aload_n 0, 159, 0, 0) := by decide +kernel
theorem i240_159 : ins 240 159 = some (.getfield 246, 162, 12, 58) := by decide +kernel
theorem i240_162 : ins 240 162 = some (.ireturn, 163, 0, 0) := by decide +kernel
theorem i240_163 : ins 240 163 = some (.aload_n 0, 164, 0, 0) := by decide +kernel
theorem i240_164 : ins 240 164 = some (.getfield 249, 167, 12, 63) := by decide +kernel
theorem i240_167 : ins 240 167 = some (.ireturn, 168, 0, 0) := by decide +kernel
theorem i240_168 : ins 240 168 = some (.aload_n 0, 169, 0, 0) := by decide +kernel
theorem i240_169 : ins 240 169 = some (.getfield 144, 172, 12, 66) := by decide +kernel
theorem i240_172 : ins 240 172 = some (.iconst (0), 173, 0, 0) := by decide +kernel
theorem i240_173 : ins 240 173 = some (.baload, 174, 0, 0) := by decide +kernel
theorem i240_174 : ins 240 174 = some (.ifCond .eq (7), 177, 181, 0) := by decide +kernel
theorem i240_177 : ins 240 177 = some (.iconst (1), 178, 0, 1) := by decide +kernel
theorem i240_178 : ins 240 178 = some (.goto (4), 181, 182, 0) := by decide +kernel
theorem i240_181 : ins 240 181 = some (.iconst (0), 182, 0, 0) := by decide +kernel
theorem i240_182 : ins 240 182 = some (.aload_n 0, 183, 0, 0) := by decide +kernel
theorem i240_183 : ins 240 183 = some (.getfield 144, 186, 12, 66) := by decide +kernel
theorem i240_186 : ins 240 186 = some (.iconst (1), 187, 0, 1) := by decide +kernel
theorem i240_187 : ins 240 187 = some (.baload, 188, 0, 0) := by decide +kernel
theorem i240_188 : ins 240 188 = some (.ifCond .eq (7), 191, 195, 0) := by decide +kernel
theorem i240_191 : ins 240 191 = some (.iconst (1), 192, 0, 1) := by decide +kernel
theorem i240_192 : ins 240 192 = some (.goto (4), 195, 196, 0) := by decide +kernel
theorem i240_195 : ins 240 195 = some (.iconst (0), 196, 0, 0) := by decide +kernel
theorem i240_196 : ins 240 196 = some (.iadd, 197, 0, 0) := by decide +kernel
theorem i240_197 : ins 240 197 = some (.aload_n 0, 198, 0, 0) := by decide +kernel
theorem i240_198 : ins 240 198 = some (.getfield 144, 201, 12, 66) := by decide +kernel
theorem i240_201 : ins 240 201 = some (.iconst (2), 202, 0, 2) := by decide +kernel
theorem i240_202 : ins 240 202 = some (.baload, 203, 0, 0) := by decide +kernel
theorem i240_203 : ins 240 203 = some (.ifCond .eq (7), 206, 210, 0) := by decide +kernel
theorem i240_206 : ins 240 206 = some (.iconst (1), 207, 0, 1) := by decide +kernel
theorem i240_207 : ins 240 207 = some (.goto (4), 210, 211, 0) := by decide +kernel
theorem i240_210 : ins 240 210 = some (.iconst (0), 211, 0, 0) := by decide +kernel
theorem i240_211 : ins 240 211 = some (.iadd, 212, 0, 0) := by decide +kernel
theorem i240_212 : ins 240 212 = some (.ireturn, 213, 0, 0) := by decide +kernel
theorem i240_213 : ins 240 213 = some (.iconst (-1), 214, 0, -1) := by decide +kernel
theorem i240_214 : ins 240 214 = some (.ireturn, 215, 0, 0) := by decide +kernel
theorem i241_0 : ins 241 0 = some (.new 7, 3, 11, 0) := by decide +kernel
theorem i241_3 : ins 241 3 = some (.dup, 4, 0, 0) := by decide +kernel
theorem i241_4 : ins 241 4 = some (.invokespecial 9, 7, 102, 0) := by decide +kernel
theorem i241_7 : ins 241 7 = some (.astore_n 1, 8, 0, 0) := by decide +kernel
theorem i241_8 : ins 241 8 = some (.new 10, 11, 12, 0) := by decide +kernel
theorem i241_11 : ins 241 11 = some (.dup, 12, 0, 0) := by decide +kernel
theorem i241_12 : ins 241 12 = some (.invokespecial 12, 15, 147, 0) := by decide +kernel
theorem i241_15 : ins 241 15 = some (.astore_n 2, 16, 0, 0) := by decide +kernel
theorem i241_16 : ins 241 16 = some (.iconst (0), 17, 0, 0) := by decide +kernel
theorem i241_17 : ins 241 17 = some (.istore_n 3, 18, 0, 0) := by decide +kernel
theorem i241_18 : ins 241 18 = some (.iload_n 3, 19, 0, 0) := by decide +kernel
theorem i241_19 : ins 241 19 = some (.aload_n 0, 20, 0, 0) := by decide +kernel
theorem i241_20 : ins 241 20 = some (.arraylength, 21, 0, 0) := by decide +kernel
theorem i241_21 : ins 241 21 = some (.bipush (6), 23, 0, 6) := by decide +kernel
theorem i241_23 : ins 241 23 = some (.isub, 24, 0, 0) := by decide +kernel
theorem i241_24 : ins 241 24 = some (.if_icmp .gt (1027), 27, 1051, 0) := by decide +kernel
theorem i241_27 : ins 241 27 = some (.aload_n 0, 28, 0, 0) := by decide +kernel
theorem i241_28 : ins 241 28 = some (.iload_n 3, 29, 0, 0) := by decide +kernel
theorem i241_29 : ins 241 29 = some (.iaload, 30, 0, 0) := by decide +kernel
theorem i241_30 : ins 241 30 = some (.bipush (31), 32, 0, 31) := by decide +kernel
theorem i241_32 : ins 241 32 = some (.iand, 33, 0, 0) := by decide +kernel
theorem i241_33 : ins 241 33 = some (.tableswitch (1012) (0) (30) #[139, 202, 225, 238, 251, 274, 317, 350, 383, 406, 419, 462, 485, 498, 531, 564, 607, 630, 653, 686, 709, 742, 785, 808, 841, 854, 887, 900, 943, 966, 989], 172, 0, 0) := by decide +kernel
theorem i241_172 : ins 241 172 = some (.aload_n 1, 173, 0, 0) := by decide +kernel
theorem i241_173 : ins 241 173 = some (.aload_n 0, 174, 0, 0) := by decide +kernel
theorem i241_174 : ins 241 174 = some (.iload_n 3, 175, 0, 0) := by decide +kernel
theorem i241_175 : ins 241 175 = some (.iconst (1), 176, 0, 1) := by decide +kernel
theorem i241_176 : ins 241 176 = some (.iadd, 177, 0, 0) := by decide +kernel
theorem i241_177 : ins 241 177 = some (.iaload, 178, 0, 0) := by decide +kernel
theorem i241_178 : ins 241 178 = some (.aload_n 0, 179, 0, 0) := by decide +kernel
theorem i241_179 : ins 241 179 = some (.iload_n 3, 180, 0, 0) := by decide +kernel
theorem i241_180 : ins 241 180 = some (.iconst (2), 181, 0, 2) := by decide +kernel
theorem i241_181 : ins 241 181 = some (.iadd, 182, 0, 0) := by decide +kernel
theorem i241_182 : ins 241 182 = some (.iaload, 183, 0, 0) := by decide +kernel
theorem i241_183 : ins 241 183 = some (.aload_n 0, 184, 0, 0) := by decide +kernel
theorem i241_184 : ins 241 184 = some (.iload_n 3, 185, 0, 0) := by decide +kernel
theorem i241_185 : ins 241 185 = some (.iconst (3), 186, 0, 3) := by decide +kernel
theorem i241_186 : ins 241 186 = some (.iadd, 187, 0, 0) := by decide +kernel
theorem i241_187 : ins 241 187 = some (.iaload, 188, 0, 0) := by decide +kernel
theorem i241_188 : ins 241 188 = some (.aload_n 0, 189, 0, 0) := by decide +kernel
theorem i241_189 : ins 241 189 = some (.iload_n 3, 190, 0, 0) := by decide +kernel
theorem i241_190 : ins 241 190 = some (.iconst (4), 191, 0, 4) := by decide +kernel
theorem i241_191 : ins 241 191 = some (.iadd, 192, 0, 0) := by decide +kernel
theorem i241_192 : ins 241 192 = some (.iaload, 193, 0, 0) := by decide +kernel
theorem i241_193 : ins 241 193 = some (.aload_n 0, 194, 0, 0) := by decide +kernel
theorem i241_194 : ins 241 194 = some (.iload_n 3, 195, 0, 0) := by decide +kernel
theorem i241_195 : ins 241 195 = some (.iconst (5), 196, 0, 5) := by decide +kernel
theorem i241_196 : ins 241 196 = some (.iadd, 197, 0, 0) := by decide +kernel
theorem i241_197 : ins 241 197 = some (.iaload, 198, 0, 0) := by decide +kernel
theorem i241_198 : ins 241 198 = some (.invokevirtual 13, 201, 103, 0) := by decide +kernel
theorem i241_201 : ins 241 201 = some (.aload_n 2, 202, 0, 0) := by decide +kernel
theorem i241_202 : ins 241 202 = some (.aload_n 0, 203, 0, 0) := by decide +kernel
theorem i241_203 : ins 241 203 = some (.iload_n 3, 204, 0, 0) := by decide +kernel
theorem i241_204 : ins 241 204 = some (.iconst (1), 205, 0, 1) := by decide +kernel
theorem i241_205 : ins 241 205 = some (.iadd, 206, 0, 0) := by decide +kernel
theorem i241_206 : ins 241 206 = some (.iaload, 207, 0, 0) := by decide +kernel
theorem i241_207 : ins 241 207 = some (.aload_n 0, 208, 0, 0) := by decide +kernel
theorem i241_208 : ins 241 208 = some (.iload_n 3, 209, 0, 0) := by decide +kernel
theorem i241_209 : ins 241 209 = some (.iconst (2), 210, 0, 2) := by decide +kernel
theorem i241_210 : ins 241 210 = some (.iadd, 211, 0, 0) := by decide +kernel
theorem i241_211 : ins 241 211 = some (.iaload, 212, 0, 0) := by decide +kernel
theorem i241_212 : ins 241 212 = some (.aload_n 0, 213, 0, 0) := by decide +kernel
theorem i241_213 : ins 241 213 = some (.iload_n 3, 214, 0, 0) := by decide +kernel
theorem i241_214 : ins 241 214 = some (.iconst (3), 215, 0, 3) := by decide +kernel
theorem i241_215 : ins 241 215 = some (.iadd, 216, 0, 0) := by decide +kernel
theorem i241_216 : ins 241 216 = some (.iaload, 217, 0, 0) := by decide +kernel
theorem i241_217 : ins 241 217 = some (.aload_n 0, 218, 0, 0) := by decide +kernel
theorem i241_218 : ins 241 218 = some (.iload_n 3, 219, 0, 0) := by decide +kernel
theorem i241_219 : ins 241 219 = some (.iconst (4), 220, 0, 4) := by decide +kernel
theorem i241_220 : ins 241 220 = some (.iadd, 221, 0, 0) := by decide +kernel
theorem i241_221 : ins 241 221 = some (.iaload, 222, 0, 0) := by decide +kernel
theorem i241_222 : ins 241 222 = some (.aload_n 0, 223, 0, 0) := by decide +kernel
theorem i241_223 : ins 241 223 = some (.iload_n 3, 224, 0, 0) := by decide +kernel
theorem i241_224 : ins 241 224 = some (.iconst (5), 225, 0, 5) := by decide +kernel
theorem i241_225 : ins 241 225 = some (.iadd, 226, 0, 0) := by decide +kernel
theorem i241_226 : ins 241 226 = some (.iaload, 227, 0, 0) := by decide +kernel
theorem i241_227 : ins 241 227 = some (.invokevirtual 17, 230, 148, 0) := by decide +kernel
theorem i241_230 : ins 241 230 = some (.if_icmp .eq (815), 233, 1045, 0) := by decide +kernel
theorem i241_233 : ins 241 233 = some (.iconst (0), 234, 0, 0) := by decide +kernel
theorem i241_234 : ins 241 234 = some (.ireturn, 235, 0, 0) := by decide +kernel
theorem i241_235 : ins 241 235 = some (.aload_n 1, 236, 0, 0) := by decide +kernel
theorem i241_236 : ins 241 236 = some (.aload_n 0, 237, 0, 0) := by decide +kernel
theorem i241_237 : ins 241 237 = some (.iload_n 3, 238, 0, 0) := by decide +kernel
theorem i241_238 : ins 241 238 = some (.iconst (1), 239, 0, 1) := by decide +kernel
theorem i241_239 : ins 241 239 = some (.iadd, 240, 0, 0) := by decide +kernel
theorem i241_240 : ins 241 240 = some (.iaload, 241, 0, 0) := by decide +kernel
theorem i241_241 : ins 241 241 = some (.invokevirtual 18, 244, 105, 0) := by decide +kernel
theorem i241_244 : ins 241 244 = some (.aload_n 2, 245, 0, 0) := by decide +kernel
theorem i241_245 : ins 241 245 = some (.aload_n 0, 246, 0, 0) := by decide +kernel
theorem i241_246 : ins 241 246 = some (.iload_n 3, 247, 0, 0) := by decide +kernel
theorem i241_247 : ins 241 247 = some (.iconst (1), 248, 0, 1) := by decide +kernel
theorem i241_248 : ins 241 248 = some (.iadd, 249, 0, 0) := by decide +kernel
theorem i241_249 : ins 241 249 = some (.iaload, 250, 0, 0) := by decide +kernel
theorem i241_250 : ins 241 250 = some (.invokevirtual 22, 253, 150, 0) := by decide +kernel
theorem i241_253 : ins 241 253 = some (.if_icmp .eq (792), 256, 1045, 0) := by decide +kernel
theorem i241_256 : ins 241 256 = some (.iconst (0), 257, 0, 0) := by decide +kernel
theorem i241_257 : ins 241 257 = some (.ireturn, 258, 0, 0) := by decide +kernel
theorem i241_258 : ins 241 258 = some (.aload_n 1, 259, 0, 0) := by decide +kernel
theorem i241_259 : ins 241 259 = some (.invokevirtual 23, 262, 106, 0) := by decide +kernel
theorem i241_262 : ins 241 262 = some (.aload_n 2, 263, 0, 0) := by decide +kernel
theorem i241_263 : ins 241 263 = some (.invokevirtual 27, 266, 165, 0) := by decide +kernel
theorem i241_266 : ins 241 266 = some (.if_icmp .eq (779), 269, 1045, 0) := by decide +kernel
theorem i241_269 : ins 241 269 = some (.iconst (0), 270, 0, 0) := by decide +kernel
theorem i241_270 : ins 241 270 = some (.ireturn, 271, 0, 0) := by decide +kernel
theorem i241_271 : ins 241 271 = some (.aload_n 1, 272, 0, 0) := by decide +kernel
theorem i241_272 : ins 241 272 = some (.invokevirtual 28, 275, 108, 0) := by decide +kernel
theorem i241_275 : ins 241 275 = some (.aload_n 2, 276, 0, 0) := by decide +kernel
theorem i241_276 : ins 241 276 = some (.invokevirtual 31, 279, 166, 0) := by decide +kernel
theorem i241_279 : ins 241 279 = some (.if_icmp .eq (766), 282, 1045, 0) := by decide +kernel
theorem i241_282 : ins 241 282 = some (.iconst (0), 283, 0, 0) := by decide +kernel
theorem i241_283 : ins 241 283 = some (.ireturn, 284, 0, 0) := by decide +kernel
theorem i241_284 : ins 241 284 = some (.aload_n 1, 285, 0, 0) := by decide +kernel
theorem i241_285 : ins 241 285 = some (.aload_n 0, 286, 0, 0) := by decide +kernel
theorem i241_286 : ins 241 286 = some (.iload_n 3, 287, 0, 0) := by decide +kernel
theorem i241_287 : ins 241 287 = some (.iconst (1), 288, 0, 1) := by decide +kernel
theorem i241_288 : ins 241 288 = some (.iadd, 289, 0, 0) := by decide +kernel
theorem i241_289 : ins 241 289 = some (.iaload, 290, 0, 0) := by decide +kernel
theorem i241_290 : ins 241 290 = some (.invokevirtual 32, 293, 113, 0) := by decide +kernel
theorem i241_293 : ins 241 293 = some (.aload_n 2, 294, 0, 0) := by decide +kernel
theorem i241_294 : ins 241 294 = some (.aload_n 0, 295, 0, 0) := by decide +kernel
theorem i241_295 : ins 241 295 = some (.iload_n 3, 296, 0, 0) := by decide +kernel
theorem i241_296 : ins 241 296 = some (.iconst (1), 297, 0, 1) := by decide +kernel
theorem i241_297 : ins 241 297 = some (.iadd, 298, 0, 0) := by decide +kernel
theorem i241_298 : ins 241 298 = some (.iaload, 299, 0, 0) := by decide +kernel
theorem i241_299 : ins 241 299 = some (.invokevirtual 35, 302, 207, 0) := by decide +kernel
theorem i241_302 : ins 241 302 = some (.if_icmp .eq (743), 305, 1045, 0) := by decide +kernel
theorem i241_305 : ins 241 305 = some (.iconst (0), 306, 0, 0) := by decide +kernel
theorem i241_306 : ins 241 306 = some (.ireturn, 307, 0, 0) := by decide +kernel
theorem i241_307 : ins 241 307 = some (.aload_n 1, 308, 0, 0) := by decide +kernel
theorem i241_308 : ins 241 308 = some (.aload_n 0, 309, 0, 0) := by decide +kernel
theorem i241_309 : ins 241 309 = some (.iload_n 3, 310, 0, 0) := by decide +kernel
theorem i241_310 : ins 241 310 = some (.iconst (1), 311, 0, 1) := by decide +kernel
theorem i241_311 : ins 241 311 = some (.iadd, 312, 0, 0) := by decide +kernel
theorem i241_312 : ins 241 312 = some (.iaload, 313, 0, 0) := by decide +kernel
theorem i241_313 : ins 241 313 = some (.aload_n 0, 314, 0, 0) := by decide +kernel
theorem i241_314 : ins 241 314 = some (.iload_n 3, 315, 0, 0) := by decide +kernel
theorem i241_315 : ins 241 315 = some (.iconst (2), 316, 0, 2) := by decide +kernel
theorem i241_316 : ins 241 316 = some (.iadd, 317, 0, 0) := by decide +kernel
theorem i241_317 : ins 241 317 = some (.iaload, 318, 0, 0) := by decide +kernel
theorem i241_318 : ins 241 318 = some (.aload_n 0, 319, 0, 0) := by decide +kernel
theorem i241_319 : ins 241 319 = some (.iload_n 3, 320, 0, 0) := by decide +kernel
theorem i241_320 : ins 241 320 = some (.iconst (3), 321, 0, 3) := by decide +kernel
theorem i241_321 : ins 241 321 = some (.iadd, 322, 0, 0) := by decide +kernel
theorem i241_322 : ins 241 322 = some (.iaload, 323, 0, 0) := by decide +kernel
theorem i241_323 : ins 241 323 = some (.invokevirtual 36, 326, 114, 0) := by decide +kernel
theorem i241_326 : ins 241 326 = some (.aload_n 2, 327, 0, 0) := by decide +kernel
theorem i241_327 : ins 241 327 = some (.aload_n 0, 328, 0, 0) := by decide +kernel
theorem i241_328 : ins 241 328 = some (.iload_n 3, 329, 0, 0) := by decide +kernel
theorem i241_329 : ins 241 329 = some (.iconst (1), 330, 0, 1) := by decide +kernel
theorem i241_330 : ins 241 330 = some (.iadd, 331, 0, 0) := by decide +kernel
theorem i241_331 : ins 241 331 = some (.iaload, 332, 0, 0) := by decide +kernel
theorem i241_332 : ins 241 332 = some (.aload_n 0, 333, 0, 0) := by decide +kernel
theorem i241_333 : ins 241 333 = some (.iload_n 3, 334, 0, 0) := by decide +kernel
theorem i241_334 : ins 241 334 = some (.iconst (2), 335, 0, 2) := by decide +kernel
theorem i241_335 : ins 241 335 = some (.iadd, 336, 0, 0) := by decide +kernel
theorem i241_336 : ins 241 336 = some (.iaload, 337, 0, 0) := by decide +kernel
theorem i241_337 : ins 241 337 = some (.aload_n 0, 338, 0, 0) := by decide +kernel
theorem i241_338 : ins 241 338 = some (.iload_n 3, 339, 0, 0) := by decide +kernel
theorem i241_339 : ins 241 339 = some (.iconst (3), 340, 0, 3) := by decide +kernel
theorem i241_340 : ins 241 340 = some (.iadd, 341, 0, 0) := by decide +kernel
theorem i241_341 : ins 241 341 = some (.iaload, 342, 0, 0) := by decide +kernel
theorem i241_342 : ins 241 342 = some (.invokevirtual 40, 345, 208, 0) := by decide +kernel
theorem i241_345 : ins 241 345 = some (.if_icmp .eq (700), 348, 1045, 0) := by decide +kernel
theorem i241_348 : ins 241 348 = some (.iconst (0), 349, 0, 0) := by decide +kernel
theorem i241_349 : ins 241 349 = some (.ireturn, 350, 0, 0) := by decide +kernel
theorem i241_350 : ins 241 350 = some (.aload_n 1, 351, 0, 0) := by decide +kernel
theorem i241_351 : ins 241 351 = some (.aload_n 0, 352, 0, 0) := by decide +kernel
theorem i241_352 : ins 241 352 = some (.iload_n 3, 353, 0, 0) := by decide +kernel
theorem i241_353 : ins 241 353 = some (.iconst (1), 354, 0, 1) := by decide +kernel
theorem i241_354 : ins 241 354 = some (.iadd, 355, 0, 0) := by decide +kernel
theorem i241_355 : ins 241 355 = some (.iaload, 356, 0, 0) := by decide +kernel
theorem i241_356 : ins 241 356 = some (.aload_n 0, 357, 0, 0) := by decide +kernel
theorem i241_357 : ins 241 357 = some (.iload_n 3, 358, 0, 0) := by decide +kernel
theorem i241_358 : ins 241 358 = some (.iconst (2), 359, 0, 2) := by decide +kernel
theorem i241_359 : ins 241 359 = some (.iadd, 360, 0, 0) := by decide +kernel
theorem i241_360 : ins 241 360 = some (.iaload, 361, 0, 0) := by decide +kernel
theorem i241_361 : ins 241 361 = some (.invokevirtual 41, 364, 115, 0) := by decide +kernel
theorem i241_364 : ins 241 364 = some (.aload_n 2, 365, 0, 0) := by decide +kernel
theorem i241_365 : ins 241 365 = some (.aload_n 0, 366, 0, 0) := by decide +kernel
theorem i241_366 : ins 241 366 = some (.iload_n 3, 367, 0, 0) := by decide +kernel
theorem i241_367 : ins 241 367 = some (.iconst (1), 368, 0, 1) := by decide +kernel
theorem i241_368 : ins 241 368 = some (.iadd, 369, 0, 0) := by decide +kernel
theorem i241_369 : ins 241 369 = some (.iaload, 370, 0, 0) := by decide +kernel
theorem i241_370 : ins 241 370 = some (.aload_n 0, 371, 0, 0) := by decide +kernel
theorem i241_371 : ins 241 371 = some (.iload_n 3, 372, 0, 0) := by decide +kernel
theorem i241_372 : ins 241 372 = some (.iconst (2), 373, 0, 2) := by decide +kernel
theorem i241_373 : ins 241 373 = some (.iadd, 374, 0, 0) := by decide +kernel
theorem i241_374 : ins 241 374 = some (.iaload, 375, 0, 0) := by decide +kernel
theorem i241_375 : ins 241 375 = some (.invokevirtual 45, 378, 209, 0) := by decide +kernel
theorem i241_378 : ins 241 378 = some (.if_icmp .eq (667), 381, 1045, 0) := by decide +kernel
theorem i241_381 : ins 241 381 = some (.iconst (0), 382, 0, 0) := by decide +kernel
theorem i241_382 : ins 241 382 = some (.ireturn, 383, 0, 0) := by decide +kernel
theorem i241_383 : ins 241 383 = some (.aload_n 1, 384, 0, 0) := by decide +kernel
theorem i241_384 : ins 241 384 = some (.aload_n 0, 385, 0, 0) := by decide +kernel
theorem i241_385 : ins 241 385 = some (.iload_n 3, 386, 0, 0) := by decide +kernel
theorem i241_386 : ins 241 386 = some (.iconst (1), 387, 0, 1) := by decide +kernel
theorem i241_387 : ins 241 387 = some (.iadd, 388, 0, 0) := by decide +kernel
theorem i241_388 : ins 241 388 = some (.iaload, 389, 0, 0) := by decide +kernel
theorem i241_389 : ins 241 389 = some (.aload_n 0, 390, 0, 0) := by decide +kernel
theorem i241_390 : ins 241 390 = some (.iload_n 3, 391, 0, 0) := by decide +kernel
theorem i241_391 : ins 241 391 = some (.iconst (2), 392, 0, 2) := by decide +kernel
theorem i241_392 : ins 241 392 = some (.iadd, 393, 0, 0) := by decide +kernel
theorem i241_393 : ins 241 393 = some (.iaload, 394, 0, 0) := by decide +kernel
theorem i241_394 : ins 241 394 = some (.invokevirtual 46, 397, 117, 0) := by decide +kernel
theorem i241_397 : ins 241 397 = some (.aload_n 2, 398, 0, 0) := by decide +kernel
theorem i241_398 : ins 241 398 = some (.aload_n 0, 399, 0, 0) := by decide +kernel
theorem i241_399 : ins 241 399 = some (.iload_n 3, 400, 0, 0) := by decide +kernel
theorem i241_400 : ins 241 400 = some (.iconst (1), 401, 0, 1) := by decide +kernel
theorem i241_401 : ins 241 401 = some (.iadd, 402, 0, 0) := by decide +kernel
theorem i241_402 : ins 241 402 = some (.iaload, 403, 0, 0) := by decide +kernel
theorem i241_403 : ins 241 403 = some (.aload_n 0, 404, 0, 0) := by decide +kernel
theorem i241_404 : ins 241 404 = some (.iload_n 3, 405, 0, 0) := by decide +kernel
theorem i241_405 : ins 241 405 = some (.iconst (2), 406, 0, 2) := by decide +kernel
theorem i241_406 : ins 241 406 = some (.iadd, 407, 0, 0) := by decide +kernel
theorem i241_407 : ins 241 407 = some (.iaload, 408, 0, 0) := by decide +kernel
theorem i241_408 : ins 241 408 = some (.invokevirtual 49, 411, 210, 0) := by decide +kernel
theorem i241_411 : ins 241 411 = some (.if_icmp .eq (634), 414, 1045, 0) := by decide +kernel
theorem i241_414 : ins 241 414 = some (.iconst (0), 415, 0, 0) := by decide +kernel
theorem i241_415 : ins 241 415 = some (.ireturn, 416, 0, 0) := by decide +kernel
theorem i241_416 : ins 241 416 = some (.aload_n 1, 417, 0, 0) := by decide +kernel
theorem i241_417 : ins 241 417 = some (.aload_n 0, 418, 0, 0) := by decide +kernel
theorem i241_418 : ins 241 418 = some (.iload_n 3, 419, 0, 0) := by decide +kernel
theorem i241_419 : ins 241 419 = some (.iconst (1), 420, 0, 1) := by decide +kernel
theorem i241_420 : ins 241 420 = some (.iadd, 421, 0, 0) := by decide +kernel
theorem i241_421 : ins 241 421 = some (.iaload, 422, 0, 0) := by decide +kernel
theorem i241_422 : ins 241 422 = some (.invokevirtual 50, 425, 118, 0) := by decide +kernel
theorem i241_425 : ins 241 425 = some (.aload_n 2, 426, 0, 0) := by decide +kernel
theorem i241_426 : ins 241 426 = some (.aload_n 0, 427, 0, 0) := by decide +kernel
theorem i241_427 : ins 241 427 = some (.iload_n 3, 428, 0, 0) := by decide +kernel
theorem i241_428 : ins 241 428 = some (.iconst (1), 429, 0, 1) := by decide +kernel
theorem i241_429 : ins 241 429 = some (.iadd, 430, 0, 0) := by decide +kernel
theorem i241_430 : ins 241 430 = some (.iaload, 431, 0, 0) := by decide +kernel
theorem i241_431 : ins 241 431 = some (.invokevirtual 53, 434, 212, 0) := by decide +kernel
theorem i241_434 : ins 241 434 = some (.if_icmp .eq (611), 437, 1045, 0) := by decide +kernel
theorem i241_437 : ins 241 437 = some (.iconst (0), 438, 0, 0) := by decide +kernel
theorem i241_438 : ins 241 438 = some (.ireturn, 439, 0, 0) := by decide +kernel
theorem i241_439 : ins 241 439 = some (.aload_n 1, 440, 0, 0) := by decide +kernel
theorem i241_440 : ins 241 440 = some (.invokevirtual 54, 443, 119, 0) := by decide +kernel
theorem i241_443 : ins 241 443 = some (.aload_n 2, 444, 0, 0) := by decide +kernel
theorem i241_444 : ins 241 444 = some (.invokevirtual 57, 447, 213, 0) := by decide +kernel
theorem i241_447 : ins 241 447 = some (.if_icmp .eq (598), 450, 1045, 0) := by decide +kernel
theorem i241_450 : ins 241 450 = some (.iconst (0), 451, 0, 0) := by decide +kernel
theorem i241_451 : ins 241 451 = some (.ireturn, 452, 0, 0) := by decide +kernel
theorem i241_452 : ins 241 452 = some (.aload_n 1, 453, 0, 0) := by decide +kernel
theorem i241_453 : ins 241 453 = some (.aload_n 0, 454, 0, 0) := by decide +kernel
theorem i241_454 : ins 241 454 = some (.iload_n 3, 455, 0, 0) := by decide +kernel
theorem i241_455 : ins 241 455 = some (.iconst (1), 456, 0, 1) := by decide +kernel
theorem i241_456 : ins 241 456 = some (.iadd, 457, 0, 0) := by decide +kernel
theorem i241_457 : ins 241 457 = some (.iaload, 458, 0, 0) := by decide +kernel
theorem i241_458 : ins 241 458 = some (.aload_n 0, 459, 0, 0) := by decide +kernel
theorem i241_459 : ins 241 459 = some (.iload_n 3, 460, 0, 0) := by decide +kernel
theorem i241_460 : ins 241 460 = some (.iconst (2), 461, 0, 2) := by decide +kernel
theorem i241_461 : ins 241 461 = some (.iadd, 462, 0, 0) := by decide +kernel
theorem i241_462 : ins 241 462 = some (.iaload, 463, 0, 0) := by decide +kernel
theorem i241_463 : ins 241 463 = some (.aload_n 0, 464, 0, 0) := by decide +kernel
theorem i241_464 : ins 241 464 = some (.iload_n 3, 465, 0, 0) := by decide +kernel
theorem i241_465 : ins 241 465 = some (.iconst (3), 466, 0, 3) := by decide +kernel
theorem i241_466 : ins 241 466 = some (.iadd, 467, 0, 0) := by decide +kernel
theorem i241_467 : ins 241 467 = some (.iaload, 468, 0, 0) := by decide +kernel
theorem i241_468 : ins 241 468 = some (.invokevirtual 58, 471, 120, 0) := by decide +kernel
theorem i241_471 : ins 241 471 = some (.aload_n 2, 472, 0, 0) := by decide +kernel
theorem i241_472 : ins 241 472 = some (.aload_n 0, 473, 0, 0) := by decide +kernel
theorem i241_473 : ins 241 473 = some (.iload_n 3, 474, 0, 0) := by decide +kernel
theorem i241_474 : ins 241 474 = some (.iconst (1), 475, 0, 1) := by decide +kernel
theorem i241_475 : ins 241 475 = some (.iadd, 476, 0, 0) := by decide +kernel
theorem i241_476 : ins 241 476 = some (.iaload, 477, 0, 0) := by decide +kernel
theorem i241_477 : ins 241 477 = some (.aload_n 0, 478, 0, 0) := by decide +kernel
theorem i241_478 : ins 241 478 = some (.iload_n 3, 479, 0, 0) := by decide +kernel
theorem i241_479 : ins 241 479 = some (.iconst (2), 480, 0, 2) := by decide +kernel
theorem i241_480 : ins 241 480 = some (.iadd, 481, 0, 0) := by decide +kernel
theorem i241_481 : ins 241 481 = some (.iaload, 482, 0, 0) := by decide +kernel
theorem i241_482 : ins 241 482 = some (.aload_n 0, 483, 0, 0) := by decide +kernel
theorem i241_483 : ins 241 483 = some (.iload_n 3, 484, 0, 0) := by decide +kernel
theorem i241_484 : ins 241 484 = some (.iconst (3), 485, 0, 3) := by decide +kernel
theorem i241_485 : ins 241 485 = some (.iadd, 486, 0, 0) := by decide +kernel
theorem i241_486 : ins 241 486 = some (.iaload, 487, 0, 0) := by decide +kernel
theorem i241_487 : ins 241 487 = some (.invokevirtual 61, 490, 215, 0) := by decide +kernel
theorem i241_490 : ins 241 490 = some (.if_icmp .eq (555), 493, 1045, 0) := by decide +kernel
theorem i241_493 : ins 241 493 = some (.iconst (0), 494, 0, 0) := by decide +kernel
theorem i241_494 : ins 241 494 = some (.ireturn, 495, 0, 0) := by decide +kernel
theorem i241_495 : ins 241 495 = some (.aload_n 1, 496, 0, 0) := by decide +kernel
theorem i241_496 : ins 241 496 = some (.aload_n 0, 497, 0, 0) := by decide +kernel
theorem i241_497 : ins 241 497 = some (.iload_n 3, 498, 0, 0) := by decide +kernel
theorem i241_498 : ins 241 498 = some (.iconst (1), 499, 0, 1) := by decide +kernel
theorem i241_499 : ins 241 499 = some (.iadd, 500, 0, 0) := by decide +kernel
theorem i241_500 : ins 241 500 = some (.iaload, 501, 0, 0) := by decide +kernel
theorem i241_501 : ins 241 501 = some (.invokevirtual 62, 504, 121, 0) := by decide +kernel
theorem i241_504 : ins 241 504 = some (.aload_n 2, 505, 0, 0) := by decide +kernel
theorem i241_505 : ins 241 505 = some (.aload_n 0, 506, 0, 0) := by decide +kernel
theorem i241_506 : ins 241 506 = some (.iload_n 3, 507, 0, 0) := by decide +kernel
theorem i241_507 : ins 241 507 = some (.iconst (1), 508, 0, 1) := by decide +kernel
theorem i241_508 : ins 241 508 = some (.iadd, 509, 0, 0) := by decide +kernel
theorem i241_509 : ins 241 509 = some (.iaload, 510, 0, 0) := by decide +kernel
theorem i241_510 : ins 241 510 = some (.invokevirtual 65, 513, 216, 0) := by decide +kernel
theorem i241_513 : ins 241 513 = some (.if_icmp .eq (532), 516, 1045, 0) := by decide +kernel
theorem i241_516 : ins 241 516 = some (.iconst (0), 517, 0, 0) := by decide +kernel
theorem i241_517 : ins 241 517 = some (.ireturn, 518, 0, 0) := by decide +kernel
theorem i241_518 : ins 241 518 = some (.aload_n 1, 519, 0, 0) := by decide +kernel
theorem i241_519 : ins 241 519 = some (.invokevirtual 66, 522, 122, 0) := by decide +kernel
theorem i241_522 : ins 241 522 = some (.aload_n 2, 523, 0, 0) := by decide +kernel
theorem i241_523 : ins 241 523 = some (.invokevirtual 70, 526, 217, 0) := by decide +kernel
theorem i241_526 : ins 241 526 = some (.if_icmp .eq (519), 529, 1045, 0) := by decide +kernel
theorem i241_529 : ins 241 529 = some (.iconst (0), 530, 0, 0) := by decide +kernel
theorem i241_530 : ins 241 530 = some (.ireturn, 531, 0, 0) := by decide +kernel
theorem i241_531 : ins 241 531 = some (.aload_n 1, 532, 0, 0) := by decide +kernel
theorem i241_532 : ins 241 532 = some (.aload_n 0, 533, 0, 0) := by decide +kernel
theorem i241_533 : ins 241 533 = some (.iload_n 3, 534, 0, 0) := by decide +kernel
theorem i241_534 : ins 241 534 = some (.iconst (1), 535, 0, 1) := by decide +kernel
theorem i241_535 : ins 241 535 = some (.iadd, 536, 0, 0) := by decide +kernel
theorem i241_536 : ins 241 536 = some (.iaload, 537, 0, 0) := by decide +kernel
theorem i241_537 : ins 241 537 = some (.aload_n 0, 538, 0, 0) := by decide +kernel
theorem i241_538 : ins 241 538 = some (.iload_n 3, 539, 0, 0) := by decide +kernel
theorem i241_539 : ins 241 539 = some (.iconst (2), 540, 0, 2) := by decide +kernel
theorem i241_540 : ins 241 540 = some (.iadd, 541, 0, 0) := by decide +kernel
theorem i241_541 : ins 241 541 = some (.iaload, 542, 0, 0) := by decide +kernel
theorem i241_542 : ins 241 542 = some (.invokevirtual 71, 545, 123, 0) := by decide +kernel
theorem i241_545 : ins 241 545 = some (.aload_n 2, 546, 0, 0) := by decide +kernel
theorem i241_546 : ins 241 546 = some (.aload_n 0, 547, 0, 0) := by decide +kernel
theorem i241_547 : ins 241 547 = some (.iload_n 3, 548, 0, 0) := by decide +kernel
theorem i241_548 : ins 241 548 = some (.iconst (1), 549, 0, 1) := by decide +kernel
theorem i241_549 : ins 241 549 = some (.iadd, 550, 0, 0) := by decide +kernel
theorem i241_550 : ins 241 550 = some (.iaload, 551, 0, 0) := by decide +kernel
theorem i241_551 : ins 241 551 = some (.aload_n 0, 552, 0, 0) := by decide +kernel
theorem i241_552 : ins 241 552 = some (.iload_n 3, 553, 0, 0) := by decide +kernel
theorem i241_553 : ins 241 553 = some (.iconst (2), 554, 0, 2) := by decide +kernel
theorem i241_554 : ins 241 554 = some (.iadd, 555, 0, 0) := by decide +kernel
theorem i241_555 : ins 241 555 = some (.iaload, 556, 0, 0) := by decide +kernel
theorem i241_556 : ins 241 556 = some (.invokevirtual 74, 559, 218, 0) := by decide +kernel
theorem i241_559 : ins 241 559 = some (.if_icmp .eq (486), 562, 1045, 0) := by decide +kernel
theorem i241_562 : ins 241 562 = some (.iconst (0), 563, 0, 0) := by decide +kernel
theorem i241_563 : ins 241 563 = some (.ireturn, 564, 0, 0) := by decide +kernel
theorem i241_564 : ins 241 564 = some (.aload_n 1, 565, 0, 0) := by decide +kernel
theorem i241_565 : ins 241 565 = some (.aload_n 0, 566, 0, 0) := by decide +kernel
theorem i241_566 : ins 241 566 = some (.iload_n 3, 567, 0, 0) := by decide +kernel
theorem i241_567 : ins 241 567 = some (.iconst (1), 568, 0, 1) := by decide +kernel
theorem i241_568 : ins 241 568 = some (.iadd, 569, 0, 0) := by decide +kernel
theorem i241_569 : ins 241 569 = some (.iaload, 570, 0, 0) := by decide +kernel
theorem i241_570 : ins 241 570 = some (.aload_n 0, 571, 0, 0) := by decide +kernel
theorem i241_571 : ins 241 571 = some (.iload_n 3, 572, 0, 0) := by decide +kernel
theorem i241_572 : ins 241 572 = some (.iconst (2), 573, 0, 2) := by decide +kernel
theorem i241_573 : ins 241 573 = some (.iadd, 574, 0, 0) := by decide +kernel
theorem i241_574 : ins 241 574 = some (.iaload, 575, 0, 0) := by decide +kernel
theorem i241_575 : ins 241 575 = some (.invokevirtual 75, 578, 124, 0) := by decide +kernel
theorem i241_578 : ins 241 578 = some (.aload_n 2, 579, 0, 0) := by decide +kernel
theorem i241_579 : ins 241 579 = some (.aload_n 0, 580, 0, 0) := by decide +kernel
theorem i241_580 : ins 241 580 = some (.iload_n 3, 581, 0, 0) := by decide +kernel
theorem i241_581 : ins 241 581 = some (.iconst (1), 582, 0, 1) := by decide +kernel
theorem i241_582 : ins 241 582 = some (.iadd, 583, 0, 0) := by decide +kernel
theorem i241_583 : ins 241 583 = some (.iaload, 584, 0, 0) := by decide +kernel
theorem i241_584 : ins 241 584 = some (.aload_n 0, 585, 0, 0) := by decide +kernel
theorem i241_585 : ins 241 585 = some (.iload_n 3, 586, 0, 0) := by decide +kernel
theorem i241_586 : ins 241 586 = some (.iconst (2), 587, 0, 2) := by decide +kernel
theorem i241_587 : ins 241 587 = some (.iadd, 588, 0, 0) := by decide +kernel
theorem i241_588 : ins 241 588 = some (.iaload, 589, 0, 0) := by decide +kernel
theorem i241_589 : ins 241 589 = some (.invokevirtual 78, 592, 221, 0) := by decide +kernel
theorem i241_592 : ins 241 592 = some (.if_icmp .eq (453), 595, 1045, 0) := by decide +kernel
theorem i241_595 : ins 241 595 = some (.iconst (0), 596, 0, 0) := by decide +kernel
theorem i241_596 : ins 241 596 = some (.ireturn, 597, 0, 0) := by decide +kernel
theorem i241_597 : ins 241 597 = some (.aload_n 1, 598, 0, 0) := by decide +kernel
theorem i241_598 : ins 241 598 = some (.aload_n 0, 599, 0, 0) := by decide +kernel
theorem i241_599 : ins 241 599 = some (.iload_n 3, 600, 0, 0) := by decide +kernel
theorem i241_600 : ins 241 600 = some (.iconst (1), 601, 0, 1) := by decide +kernel
theorem i241_601 : ins 241 601 = some (.iadd, 602, 0, 0) := by decide +kernel
theorem i241_602 : ins 241 602 = some (.iaload, 603, 0, 0) := by decide +kernel
theorem i241_603 : ins 241 603 = some (.aload_n 0, 604, 0, 0) := by decide +kernel
theorem i241_604 : ins 241 604 = some (.iload_n 3, 605, 0, 0) := by decide +kernel
theorem i241_605 : ins 241 605 = some (.iconst (2), 606, 0, 2) := by decide +kernel
theorem i241_606 : ins 241 606 = some (.iadd, 607, 0, 0) := by decide +kernel
theorem i241_607 : ins 241 607 = some (.iaload, 608, 0, 0) := by decide +kernel
theorem i241_608 : ins 241 608 = some (.aload_n 0, 609, 0, 0) := by decide +kernel
theorem i241_609 : ins 241 609 = some (.iload_n 3, 610, 0, 0) := by decide +kernel
theorem i241_610 : ins 241 610 = some (.iconst (3), 611, 0, 3) := by decide +kernel
theorem i241_611 : ins 241 611 = some (.iadd, 612, 0, 0) := by decide +kernel
theorem i241_612 : ins 241 612 = some (.iaload, 613, 0, 0) := by decide +kernel
theorem i241_613 : ins 241 613 = some (.invokevirtual 79, 616, 125, 0) := by decide +kernel
theorem i241_616 : ins 241 616 = some (.aload_n 2, 617, 0, 0) := by decide +kernel
theorem i241_617 : ins 241 617 = some (.aload_n 0, 618, 0, 0) := by decide +kernel
theorem i241_618 : ins 241 618 = some (.iload_n 3, 619, 0, 0) := by decide +kernel
theorem i241_619 : ins 241 619 = some (.iconst (1), 620, 0, 1) := by decide +kernel
theorem i241_620 : ins 241 620 = some (.iadd, 621, 0, 0) := by decide +kernel
theorem i241_621 : ins 241 621 = some (.iaload, 622, 0, 0) := by decide +kernel
theorem i241_622 : ins 241 622 = some (.aload_n 0, 623, 0, 0) := by decide +kernel
theorem i241_623 : ins 241 623 = some (.iload_n 3, 624, 0, 0) := by decide +kernel
theorem i241_624 : ins 241 624 = some (.iconst (2), 625, 0, 2) := by decide +kernel
theorem i241_625 : ins 241 625 = some (.iadd, 626, 0, 0) := by decide +kernel
theorem i241_626 : ins 241 626 = some (.iaload, 627, 0, 0) := by decide +kernel
theorem i241_627 : ins 241 627 = some (.aload_n 0, 628, 0, 0) := by decide +kernel
theorem i241_628 : ins 241 628 = some (.iload_n 3, 629, 0, 0) := by decide +kernel
theorem i241_629 : ins 241 629 = some (.iconst (3), 630, 0, 3) := by decide +kernel
theorem i241_630 : ins 241 630 = some (.iadd, 631, 0, 0) := by decide +kernel
theorem i241_631 : ins 241 631 = some (.iaload, 632, 0, 0) := by decide +kernel
theorem i241_632 : ins 241 632 = some (.invokevirtual 82, 635, 222, 0) := by decide +kernel
theorem i241_635 : ins 241 635 = some (.if_icmp .eq (410), 638, 1045, 0) := by decide +kernel
theorem i241_638 : ins 241 638 = some (.iconst (0), 639, 0, 0) := by decide +kernel
theorem i241_639 : ins 241 639 = some (.ireturn, 640, 0, 0) := by decide +kernel
theorem i241_640 : ins 241 640 = some (.aload_n 1, 641, 0, 0) := by decide +kernel
theorem i241_641 : ins 241 641 = some (.aload_n 0, 642, 0, 0) := by decide +kernel
theorem i241_642 : ins 241 642 = some (.iload_n 3, 643, 0, 0) := by decide +kernel
theorem i241_643 : ins 241 643 = some (.iconst (1), 644, 0, 1) := by decide +kernel
theorem i241_644 : ins 241 644 = some (.iadd, 645, 0, 0) := by decide +kernel
theorem i241_645 : ins 241 645 = some (.iaload, 646, 0, 0) := by decide +kernel
theorem i241_646 : ins 241 646 = some (.invokevirtual 83, 649, 126, 0) := by decide +kernel
theorem i241_649 : ins 241 649 = some (.aload_n 2, 650, 0, 0) := by decide +kernel
theorem i241_650 : ins 241 650 = some (.aload_n 0, 651, 0, 0) := by decide +kernel
theorem i241_651 : ins 241 651 = some (.iload_n 3, 652, 0, 0) := by decide +kernel
theorem i241_652 : ins 241 652 = some (.iconst (1), 653, 0, 1) := by decide +kernel
theorem i241_653 : ins 241 653 = some (.iadd, 654, 0, 0) := by decide +kernel
theorem i241_654 : ins 241 654 = some (.iaload, 655, 0, 0) := by decide +kernel
theorem i241_655 : ins 241 655 = some (.invokevirtual 86, 658, 223, 0) := by decide +kernel
theorem i241_658 : ins 241 658 = some (.if_icmp .eq (387), 661, 1045, 0) := by decide +kernel
theorem i241_661 : ins 241 661 = some (.iconst (0), 662, 0, 0) := by decide +kernel
theorem i241_662 : ins 241 662 = some (.ireturn, 663, 0, 0) := by decide +kernel
theorem i241_663 : ins 241 663 = some (.aload_n 1, 664, 0, 0) := by decide +kernel
theorem i241_664 : ins 241 664 = some (.aload_n 0, 665, 0, 0) := by decide +kernel
theorem i241_665 : ins 241 665 = some (.iload_n 3, 666, 0, 0) := by decide +kernel
theorem i241_666 : ins 241 666 = some (.iconst (1), 667, 0, 1) := by decide +kernel
theorem i241_667 : ins 241 667 = some (.iadd, 668, 0, 0) := by decide +kernel
theorem i241_668 : ins 241 668 = some (.iaload, 669, 0, 0) := by decide +kernel
theorem i241_669 : ins 241 669 = some (.invokevirtual 87, 672, 127, 0) := by decide +kernel
theorem i241_672 : ins 241 672 = some (.aload_n 2, 673, 0, 0) := by decide +kernel
theorem i241_673 : ins 241 673 = some (.aload_n 0, 674, 0, 0) := by decide +kernel
theorem i241_674 : ins 241 674 = some (.iload_n 3, 675, 0, 0) := by decide +kernel
theorem i241_675 : ins 241 675 = some (.iconst (1), 676, 0, 1) := by decide +kernel
theorem i241_676 : ins 241 676 = some (.iadd, 677, 0, 0) := by decide +kernel
theorem i241_677 : ins 241 677 = some (.iaload, 678, 0, 0) := by decide +kernel
theorem i241_678 : ins 241 678 = some (.invokevirtual 90, 681, 224, 0) := by decide +kernel
theorem i241_681 : ins 241 681 = some (.if_icmp .eq (364), 684, 1045, 0) := by decide +kernel
theorem i241_684 : ins 241 684 = some (.iconst (0), 685, 0, 0) := by decide +kernel
theorem i241_685 : ins 241 685 = some (.ireturn, 686, 0, 0) := by decide +kernel
theorem i241_686 : ins 241 686 = some (.aload_n 1, 687, 0, 0) := by decide +kernel
theorem i241_687 : ins 241 687 = some (.aload_n 0, 688, 0, 0) := by decide +kernel
theorem i241_688 : ins 241 688 = some (.iload_n 3, 689, 0, 0) := by decide +kernel
theorem i241_689 : ins 241 689 = some (.iconst (1), 690, 0, 1) := by decide +kernel
theorem i241_690 : ins 241 690 = some (.iadd, 691, 0, 0) := by decide +kernel
theorem i241_691 : ins 241 691 = some (.iaload, 692, 0, 0) := by decide +kernel
theorem i241_692 : ins 241 692 = some (.aload_n 0, 693, 0, 0) := by decide +kernel
theorem i241_693 : ins 241 693 = some (.iload_n 3, 694, 0, 0) := by decide +kernel
theorem i241_694 : ins 241 694 = some (.iconst (2), 695, 0, 2) := by decide +kernel
theorem i241_695 : ins 241 695 = some (.iadd, 696, 0, 0) := by decide +kernel
theorem i241_696 : ins 241 696 = some (.iaload, 697, 0, 0) := by decide +kernel
theorem i241_697 : ins 241 697 = some (.invokevirtual 91, 700, 128, 0) := by decide +kernel
theorem i241_700 : ins 241 700 = some (.aload_n 2, 701, 0, 0) := by decide +kernel
theorem i241_701 : ins 241 701 = some (.aload_n 0, 702, 0, 0) := by decide +kernel
theorem i241_702 : ins 241 702 = some (.iload_n 3, 703, 0, 0) := by decide +kernel
theorem i241_703 : ins 241 703 = some (.iconst (1), 704, 0, 1) := by decide +kernel
theorem i241_704 : ins 241 704 = some (.iadd, 705, 0, 0) := by decide +kernel
theorem i241_705 : ins 241 705 = some (.iaload, 706, 0, 0) := by decide +kernel
theorem i241_706 : ins 241 706 = some (.aload_n 0, 707, 0, 0) := by decide +kernel
theorem i241_707 : ins 241 707 = some (.iload_n 3, 708, 0, 0) := by decide +kernel
theorem i241_708 : ins 241 708 = some (.iconst (2), 709, 0, 2) := by decide +kernel
theorem i241_709 : ins 241 709 = some (.iadd, 710, 0, 0) := by decide +kernel
theorem i241_710 : ins 241 710 = some (.iaload, 711, 0, 0) := by decide +kernel
theorem i241_711 : ins 241 711 = some (.invokevirtual 94, 714, 225, 0) := by decide +kernel
theorem i241_714 : ins 241 714 = some (.if_icmp .eq (331), 717, 1045, 0) := by decide +kernel
theorem i241_717 : ins 241 717 = some (.iconst (0), 718, 0, 0) := by decide +kernel
theorem i241_718 : ins 241 718 = some (.ireturn, 719, 0, 0) := by decide +kernel
theorem i241_719 : ins 241 719 = some (.aload_n 1, 720, 0, 0) := by decide +kernel
theorem i241_720 : ins 241 720 = some (.aload_n 0, 721, 0, 0) := by decide +kernel
theorem i241_721 : ins 241 721 = some (.iload_n 3, 722, 0, 0) := by decide +kernel
theorem i241_722 : ins 241 722 = some (.iconst (1), 723, 0, 1) := by decide +kernel
theorem i241_723 : ins 241 723 = some (.iadd, 724, 0, 0) := by decide +kernel
theorem i241_724 : ins 241 724 = some (.iaload, 725, 0, 0) := by decide +kernel
theorem i241_725 : ins 241 725 = some (.invokevirtual 95, 728, 129, 0) := by decide +kernel
theorem i241_728 : ins 241 728 = some (.aload_n 2, 729, 0, 0) := by decide +kernel
theorem i241_729 : ins 241 729 = some (.aload_n 0, 730, 0, 0) := by decide +kernel
theorem i241_730 : ins 241 730 = some (.iload_n 3, 731, 0, 0) := by decide +kernel
theorem i241_731 : ins 241 731 = some (.iconst (1), 732, 0, 1) := by decide +kernel
theorem i241_732 : ins 241 732 = some (.iadd, 733, 0, 0) := by decide +kernel
theorem i241_733 : ins 241 733 = some (.iaload, 734, 0, 0) := by decide +kernel
theorem i241_734 : ins 241 734 = some (.invokevirtual 98, 737, 226, 0) := by decide +kernel
theorem i241_737 : ins 241 737 = some (.if_icmp .eq (308), 740, 1045, 0) := by decide +kernel
theorem i241_740 : ins 241 740 = some (.iconst (0), 741, 0, 0) := by decide +kernel
theorem i241_741 : ins 241 741 = some (.ireturn, 742, 0, 0) := by decide +kernel
theorem i241_742 : ins 241 742 = some (.aload_n 1, 743, 0, 0) := by decide +kernel
theorem i241_743 : ins 241 743 = some (.aload_n 0, 744, 0, 0) := by decide +kernel
theorem i241_744 : ins 241 744 = some (.iload_n 3, 745, 0, 0) := by decide +kernel
theorem i241_745 : ins 241 745 = some (.iconst (1), 746, 0, 1) := by decide +kernel
theorem i241_746 : ins 241 746 = some (.iadd, 747, 0, 0) := by decide +kernel
theorem i241_747 : ins 241 747 = some (.iaload, 748, 0, 0) := by decide +kernel
theorem i241_748 : ins 241 748 = some (.aload_n 0, 749, 0, 0) := by decide +kernel
theorem i241_749 : ins 241 749 = some (.iload_n 3, 750, 0, 0) := by decide +kernel
theorem i241_750 : ins 241 750 = some (.iconst (2), 751, 0, 2) := by decide +kernel
theorem i241_751 : ins 241 751 = some (.iadd, 752, 0, 0) := by decide +kernel
theorem i241_752 : ins 241 752 = some (.iaload, 753, 0, 0) := by decide +kernel
theorem i241_753 : ins 241 753 = some (.invokevirtual 99, 756, 130, 0) := by decide +kernel
theorem i241_756 : ins 241 756 = some (.aload_n 2, 757, 0, 0) := by decide +kernel
theorem i241_757 : ins 241 757 = some (.aload_n 0, 758, 0, 0) := by decide +kernel
theorem i241_758 : ins 241 758 = some (.iload_n 3, 759, 0, 0) := by decide +kernel
theorem i241_759 : ins 241 759 = some (.iconst (1), 760, 0, 1) := by decide +kernel
theorem i241_760 : ins 241 760 = some (.iadd, 761, 0, 0) := by decide +kernel
theorem i241_761 : ins 241 761 = some (.iaload, 762, 0, 0) := by decide +kernel
theorem i241_762 : ins 241 762 = some (.aload_n 0, 763, 0, 0) := by decide +kernel
theorem i241_763 : ins 241 763 = some (.iload_n 3, 764, 0, 0) := by decide +kernel
theorem i241_764 : ins 241 764 = some (.iconst (2), 765, 0, 2) := by decide +kernel
theorem i241_765 : ins 241 765 = some (.iadd, 766, 0, 0) := by decide +kernel
theorem i241_766 : ins 241 766 = some (.iaload, 767, 0, 0) := by decide +kernel
theorem i241_767 : ins 241 767 = some (.invokevirtual 102, 770, 227, 0) := by decide +kernel
theorem i241_770 : ins 241 770 = some (.if_icmp .eq (275), 773, 1045, 0) := by decide +kernel
theorem i241_773 : ins 241 773 = some (.iconst (0), 774, 0, 0) := by decide +kernel
theorem i241_774 : ins 241 774 = some (.ireturn, 775, 0, 0) := by decide +kernel
theorem i241_775 : ins 241 775 = some (.aload_n 1, 776, 0, 0) := by decide +kernel
theorem i241_776 : ins 241 776 = some (.aload_n 0, 777, 0, 0) := by decide +kernel
theorem i241_777 : ins 241 777 = some (.iload_n 3, 778, 0, 0) := by decide +kernel
theorem i241_778 : ins 241 778 = some (.iconst (1), 779, 0, 1) := by decide +kernel
theorem i241_779 : ins 241 779 = some (.iadd, 780, 0, 0) := by decide +kernel
theorem i241_780 : ins 241 780 = some (.iaload, 781, 0, 0) := by decide +kernel
theorem i241_781 : ins 241 781 = some (.aload_n 0, 782, 0, 0) := by decide +kernel
theorem i241_782 : ins 241 782 = some (.iload_n 3, 783, 0, 0) := by decide +kernel
theorem i241_783 : ins 241 783 = some (.iconst (2), 784, 0, 2) := by decide +kernel
theorem i241_784 : ins 241 784 = some (.iadd, 785, 0, 0) := by decide +kernel
theorem i241_785 : ins 241 785 = some (.iaload, 786, 0, 0) := by decide +kernel
theorem i241_786 : ins 241 786 = some (.aload_n 0, 787, 0, 0) := by decide +kernel
theorem i241_787 : ins 241 787 = some (.iload_n 3, 788, 0, 0) := by decide +kernel
theorem i241_788 : ins 241 788 = some (.iconst (3), 789, 0, 3) := by decide +kernel
theorem i241_789 : ins 241 789 = some (.iadd, 790, 0, 0) := by decide +kernel
theorem i241_790 : ins 241 790 = some (.iaload, 791, 0, 0) := by decide +kernel
theorem i241_791 : ins 241 791 = some (.invokevirtual 103, 794, 131, 0) := by decide +kernel
theorem i241_794 : ins 241 794 = some (.aload_n 2, 795, 0, 0) := by decide +kernel
theorem i241_795 : ins 241 795 = some (.aload_n 0, 796, 0, 0) := by decide +kernel
theorem i241_796 : ins 241 796 = some (.iload_n 3, 797, 0, 0) := by decide +kernel
theorem i241_797 : ins 241 797 = some (.iconst (1), 798, 0, 1) := by decide +kernel
theorem i241_798 : ins 241 798 = some (.iadd, 799, 0, 0) := by decide +kernel
theorem i241_799 : ins 241 799 = some (.iaload, 800, 0, 0) := by decide +kernel
theorem i241_800 : ins 241 800 = some (.aload_n 0, 801, 0, 0) := by decide +kernel
theorem i241_801 : ins 241 801 = some (.iload_n 3, 802, 0, 0) := by decide +kernel
theorem i241_802 : ins 241 802 = some (.iconst (2), 803, 0, 2) := by decide +kernel
theorem i241_803 : ins 241 803 = some (.iadd, 804, 0, 0) := by decide +kernel
theorem i241_804 : ins 241 804 = some (.iaload, 805, 0, 0) := by decide +kernel
theorem i241_805 : ins 241 805 = some (.aload_n 0, 806, 0, 0) := by decide +kernel
theorem i241_806 : ins 241 806 = some (.iload_n 3, 807, 0, 0) := by decide +kernel
theorem i241_807 : ins 241 807 = some (.iconst (3), 808, 0, 3) := by decide +kernel
theorem i241_808 : ins 241 808 = some (.iadd, 809, 0, 0) := by decide +kernel
theorem i241_809 : ins 241 809 = some (.iaload, 810, 0, 0) := by decide +kernel
theorem i241_810 : ins 241 810 = some (.invokevirtual 106, 813, 228, 0) := by decide +kernel
theorem i241_813 : ins 241 813 = some (.if_icmp .eq (232), 816, 1045, 0) := by decide +kernel
theorem i241_816 : ins 241 816 = some (.iconst (0), 817, 0, 0) := by decide +kernel
theorem i241_817 : ins 241 817 = some (.ireturn, 818, 0, 0) := by decide +kernel
theorem i241_818 : ins 241 818 = some (.aload_n 1, 819, 0, 0) := by decide +kernel
theorem i241_819 : ins 241 819 = some (.aload_n 0, 820, 0, 0) := by decide +kernel
theorem i241_820 : ins 241 820 = some (.iload_n 3, 821, 0, 0) := by decide +kernel
theorem i241_821 : ins 241 821 = some (.iconst (1), 822, 0, 1) := by decide +kernel
theorem i241_822 : ins 241 822 = some (.iadd, 823, 0, 0) := by decide +kernel
theorem i241_823 : ins 241 823 = some (.iaload, 824, 0, 0) := by decide +kernel
theorem i241_824 : ins 241 824 = some (.invokevirtual 107, 827, 133, 0) := by decide +kernel
theorem i241_827 : ins 241 827 = some (.aload_n 2, 828, 0, 0) := by decide +kernel
theorem i241_828 : ins 241 828 = some (.aload_n 0, 829, 0, 0) := by decide +kernel
theorem i241_829 : ins 241 829 = some (.iload_n 3, 830, 0, 0) := by decide +kernel
theorem i241_830 : ins 241 830 = some (.iconst (1), 831, 0, 1) := by decide +kernel
theorem i241_831 : ins 241 831 = some (.iadd, 832, 0, 0) := by decide +kernel
theorem i241_832 : ins 241 832 = some (.iaload, 833, 0, 0) := by decide +kernel
theorem i241_833 : ins 241 833 = some (.invokevirtual 110, 836, 229, 0) := by decide +kernel
theorem i241_836 : ins 241 836 = some (.if_icmp .eq (209), 839, 1045, 0) := by decide +kernel
theorem i241_839 : ins 241 839 = some (.iconst (0), 840, 0, 0) := by decide +kernel
theorem i241_840 : ins 241 840 = some (.ireturn, 841, 0, 0) := by decide +kernel
theorem i241_841 : ins 241 841 = some (.aload_n 1, 842, 0, 0) := by decide +kernel
theorem i241_842 : ins 241 842 = some (.aload_n 0, 843, 0, 0) := by decide +kernel
theorem i241_843 : ins 241 843 = some (.iload_n 3, 844, 0, 0) := by decide +kernel
theorem i241_844 : ins 241 844 = some (.iconst (1), 845, 0, 1) := by decide +kernel
theorem i241_845 : ins 241 845 = some (.iadd, 846, 0, 0) := by decide +kernel
theorem i241_846 : ins 241 846 = some (.iaload, 847, 0, 0) := by decide +kernel
theorem i241_847 : ins 241 847 = some (.aload_n 0, 848, 0, 0) := by decide +kernel
theorem i241_848 : ins 241 848 = some (.iload_n 3, 849, 0, 0) := by decide +kernel
theorem i241_849 : ins 241 849 = some (.iconst (2), 850, 0, 2) := by decide +kernel
theorem i241_850 : ins 241 850 = some (.iadd, 851, 0, 0) := by decide +kernel
theorem i241_851 : ins 241 851 = some (.iaload, 852, 0, 0) := by decide +kernel
theorem i241_852 : ins 241 852 = some (.invokevirtual 111, 855, 134, 0) := by decide +kernel
theorem i241_855 : ins 241 855 = some (.aload_n 2, 856, 0, 0) := by decide +kernel
theorem i241_856 : ins 241 856 = some (.aload_n 0, 857, 0, 0) := by decide +kernel
theorem i241_857 : ins 241 857 = some (.iload_n 3, 858, 0, 0) := by decide +kernel
theorem i241_858 : ins 241 858 = some (.iconst (1), 859, 0, 1) := by decide +kernel
theorem i241_859 : ins 241 859 = some (.iadd, 860, 0, 0) := by decide +kernel
theorem i241_860 : ins 241 860 = some (.iaload, 861, 0, 0) := by decide +kernel
theorem i241_861 : ins 241 861 = some (.aload_n 0, 862, 0, 0) := by decide +kernel
theorem i241_862 : ins 241 862 = some (.iload_n 3, 863, 0, 0) := by decide +kernel
theorem i241_863 : ins 241 863 = some (.iconst (2), 864, 0, 2) := by decide +kernel
theorem i241_864 : ins 241 864 = some (.iadd, 865, 0, 0) := by decide +kernel
theorem i241_865 : ins 241 865 = some (.iaload, 866, 0, 0) := by decide +kernel
theorem i241_866 : ins 241 866 = some (.invokevirtual 114, 869, 232, 0) := by decide +kernel
theorem i241_869 : ins 241 869 = some (.if_icmp .eq (176), 872, 1045, 0) := by decide +kernel
theorem i241_872 : ins 241 872 = some (.iconst (0), 873, 0, 0) := by decide +kernel
theorem i241_873 : ins 241 873 = some (.ireturn, 874, 0, 0) := by decide +kernel
theorem i241_874 : ins 241 874 = some (.aload_n 1, 875, 0, 0) := by decide +kernel
theorem i241_875 : ins 241 875 = some (.invokevirtual 115, 878, 132, 0) := by decide +kernel
theorem i241_878 : ins 241 878 = some (.aload_n 2, 879, 0, 0) := by decide +kernel
theorem i241_879 : ins 241 879 = some (.invokevirtual 118, 882, 233, 0) := by decide +kernel
theorem i241_882 : ins 241 882 = some (.if_icmp .eq (163), 885, 1045, 0) := by decide +kernel
theorem i241_885 : ins 241 885 = some (.iconst (0), 886, 0, 0) := by decide +kernel
theorem i241_886 : ins 241 886 = some (.ireturn, 887, 0, 0) := by decide +kernel
theorem i241_887 : ins 241 887 = some (.aload_n 1, 888, 0, 0) := by decide +kernel
theorem i241_888 : ins 241 888 = some (.aload_n 0, 889, 0, 0) := by decide +kernel
theorem i241_889 : ins 241 889 = some (.iload_n 3, 890, 0, 0) := by decide +kernel
theorem i241_890 : ins 241 890 = some (.iconst (1), 891, 0, 1) := by decide +kernel
theorem i241_891 : ins 241 891 = some (.iadd, 892, 0, 0) := by decide +kernel
theorem i241_892 : ins 241 892 = some (.iaload, 893, 0, 0) := by decide +kernel
theorem i241_893 : ins 241 893 = some (.aload_n 0, 894, 0, 0) := by decide +kernel
theorem i241_894 : ins 241 894 = some (.iload_n 3, 895, 0, 0) := by decide +kernel
theorem i241_895 : ins 241 895 = some (.iconst (2), 896, 0, 2) := by decide +kernel
theorem i241_896 : ins 241 896 = some (.iadd, 897, 0, 0) := by decide +kernel
theorem i241_897 : ins 241 897 = some (.iaload, 898, 0, 0) := by decide +kernel
theorem i241_898 : ins 241 898 = some (.invokevirtual 119, 901, 138, 0) := by decide +kernel
theorem i241_901 : ins 241 901 = some (.aload_n 2, 902, 0, 0) := by decide +kernel
theorem i241_902 : ins 241 902 = some (.aload_n 0, 903, 0, 0) := by decide +kernel
theorem i241_903 : ins 241 903 = some (.iload_n 3, 904, 0, 0) := by decide +kernel
theorem i241_904 : ins 241 904 = some (.iconst (1), 905, 0, 1) := by decide +kernel
theorem i241_905 : ins 241 905 = some (.iadd, 906, 0, 0) := by decide +kernel
theorem i241_906 : ins 241 906 = some (.iaload, 907, 0, 0) := by decide +kernel
theorem i241_907 : ins 241 907 = some (.aload_n 0, 908, 0, 0) := by decide +kernel
theorem i241_908 : ins 241 908 = some (.iload_n 3, 909, 0, 0) := by decide +kernel
theorem i241_909 : ins 241 909 = some (.iconst (2), 910, 0, 2) := by decide +kernel
theorem i241_910 : ins 241 910 = some (.iadd, 911, 0, 0) := by decide +kernel
theorem i241_911 : ins 241 911 = some (.iaload, 912, 0, 0) := by decide +kernel
theorem i241_912 : ins 241 912 = some (.invokevirtual 122, 915, 234, 0) := by decide +kernel
theorem i241_915 : ins 241 915 = some (.if_icmp .eq (130), 918, 1045, 0) := by decide +kernel
theorem i241_918 : ins 241 918 = some (.iconst (0), 919, 0, 0) := by decide +kernel
theorem i241_919 : ins 241 919 = some (.ireturn, 920, 0, 0) := by decide +kernel
theorem i241_920 : ins 241 920 = some (.aload_n 1, 921, 0, 0) := by decide +kernel
theorem i241_921 : ins 241 921 = some (.invokevirtual 123, 924, 139, 0) := by decide +kernel
theorem i241_924 : ins 241 924 = some (.aload_n 2, 925, 0, 0) := by decide +kernel
theorem i241_925 : ins 241 925 = some (.invokevirtual 126, 928, 235, 0) := by decide +kernel
theorem i241_928 : ins 241 928 = some (.if_icmp .eq (117), 931, 1045, 0) := by decide +kernel
theorem i241_931 : ins 241 931 = some (.iconst (0), 932, 0, 0) := by decide +kernel
theorem i241_932 : ins 241 932 = some (.ireturn, 933, 0, 0) := by decide +kernel
theorem i241_933 : ins 241 933 = some (.aload_n 1, 934, 0, 0) := by decide +kernel
theorem i241_934 : ins 241 934 = some (.aload_n 0, 935, 0, 0) := by decide +kernel
theorem i241_935 : ins 241 935 = some (.iload_n 3, 936, 0, 0) := by decide +kernel
theorem i241_936 : ins 241 936 = some (.iconst (1), 937, 0, 1) := by decide +kernel
theorem i241_937 : ins 241 937 = some (.iadd, 938, 0, 0) := by decide +kernel
theorem i241_938 : ins 241 938 = some (.iaload, 939, 0, 0) := by decide +kernel
theorem i241_939 : ins 241 939 = some (.aload_n 0, 940, 0, 0) := by decide +kernel
theorem i241_940 : ins 241 940 = some (.iload_n 3, 941, 0, 0) := by decide +kernel
theorem i241_941 : ins 241 941 = some (.iconst (2), 942, 0, 2) := by decide +kernel
theorem i241_942 : ins 241 942 = some (.iadd, 943, 0, 0) := by decide +kernel
theorem i241_943 : ins 241 943 = some (.iaload, 944, 0, 0) := by decide +kernel
theorem i241_944 : ins 241 944 = some (.aload_n 0, 945, 0, 0) := by decide +kernel
theorem i241_945 : ins 241 945 = some (.iload_n 3, 946, 0, 0) := by decide +kernel
theorem i241_946 : ins 241 946 = some (.iconst (3), 947, 0, 3) := by decide +kernel
theorem i241_947 : ins 241 947 = some (.iadd, 948, 0, 0) := by decide +kernel
theorem i241_948 : ins 241 948 = some (.iaload, 949, 0, 0) := by decide +kernel
theorem i241_949 : ins 241 949 = some (.invokevirtual 127, 952, 140, 0) := by decide +kernel
theorem i241_952 : ins 241 952 = some (.aload_n 2, 953, 0, 0) := by decide +kernel
theorem i241_953 : ins 241 953 = some (.aload_n 0, 954, 0, 0) := by decide +kernel
theorem i241_954 : ins 241 954 = some (.iload_n 3, 955, 0, 0) := by decide +kernel
theorem i241_955 : ins 241 955 = some (.iconst (1), 956, 0, 1) := by decide +kernel
theorem i241_956 : ins 241 956 = some (.iadd, 957, 0, 0) := by decide +kernel
theorem i241_957 : ins 241 957 = some (.iaload, 958, 0, 0) := by decide +kernel
theorem i241_958 : ins 241 958 = some (.aload_n 0, 959, 0, 0) := by decide +kernel
theorem i241_959 : ins 241 959 = some (.iload_n 3, 960, 0, 0) := by decide +kernel
theorem i241_960 : ins 241 960 = some (.iconst (2), 961, 0, 2) := by decide +kernel
theorem i241_961 : ins 241 961 = some (.iadd, 962, 0, 0) := by decide +kernel
theorem i241_962 : ins 241 962 = some (.iaload, 963, 0, 0) := by decide +kernel
theorem i241_963 : ins 241 963 = some (.aload_n 0, 964, 0, 0) := by decide +kernel
theorem i241_964 : ins 241 964 = some (.iload_n 3, 965, 0, 0) := by decide +kernel
theorem i241_965 : ins 241 965 = some (.iconst (3), 966, 0, 3) := by decide +kernel
theorem i241_966 : ins 241 966 = some (.iadd, 967, 0, 0) := by decide +kernel
theorem i241_967 : ins 241 967 = some (.iaload, 968, 0, 0) := by decide +kernel
theorem i241_968 : ins 241 968 = some (.invokevirtual 130, 971, 237, 0) := by decide +kernel
theorem i241_971 : ins 241 971 = some (.if_icmp .eq (74), 974, 1045, 0) := by decide +kernel
theorem i241_974 : ins 241 974 = some (.iconst (0), 975, 0, 0) := by decide +kernel
theorem i241_975 : ins 241 975 = some (.ireturn, 976, 0, 0) := by decide +kernel
theorem i241_976 : ins 241 976 = some (.aload_n 1, 977, 0, 0) := by decide +kernel
theorem i241_977 : ins 241 977 = some (.aload_n 0, 978, 0, 0) := by decide +kernel
theorem i241_978 : ins 241 978 = some (.iload_n 3, 979, 0, 0) := by decide +kernel
theorem i241_979 : ins 241 979 = some (.iconst (1), 980, 0, 1) := by decide +kernel
theorem i241_980 : ins 241 980 = some (.iadd, 981, 0, 0) := by decide +kernel
theorem i241_981 : ins 241 981 = some (.iaload, 982, 0, 0) := by decide +kernel
theorem i241_982 : ins 241 982 = some (.invokevirtual 131, 985, 142, 0) := by decide +kernel
theorem i241_985 : ins 241 985 = some (.aload_n 2, 986, 0, 0) := by decide +kernel
theorem i241_986 : ins 241 986 = some (.aload_n 0, 987, 0, 0) := by decide +kernel
theorem i241_987 : ins 241 987 = some (.iload_n 3, 988, 0, 0) := by decide +kernel
theorem i241_988 : ins 241 988 = some (.iconst (1), 989, 0, 1) := by decide +kernel
theorem i241_989 : ins 241 989 = some (.iadd, 990, 0, 0) := by decide +kernel
theorem i241_990 : ins 241 990 = some (.iaload, 991, 0, 0) := by decide +kernel
theorem i241_991 : ins 241 991 = some (.invokevirtual 135, 994, 238, 0) := by decide +kernel
theorem i241_994 : ins 241 994 = some (.if_icmp .eq (51), 997, 1045, 0) := by decide +kernel
theorem i241_997 : ins 241 997 = some (.iconst (0), 998, 0, 0) := by decide +kernel
theorem i241_998 : ins 241 998 = some (.ireturn, 999, 0, 0) := by decide +kernel
theorem i241_999 : ins 241 999 = some (.aload_n 1, 1000, 0, 0) := by decide +kernel
theorem i241_1000 : ins 241 1000 = some (.aload_n 0, 1001, 0, 0) := by decide +kernel
theorem i241_1001 : ins 241 1001 = some (.iload_n 3, 1002, 0, 0) := by decide +kernel
theorem i241_1002 : ins 241 1002 = some (.iconst (1), 1003, 0, 1) := by decide +kernel
theorem i241_1003 : ins 241 1003 = some (.iadd, 1004, 0, 0) := by decide +kernel
theorem i241_1004 : ins 241 1004 = some (.iaload, 1005, 0, 0) := by decide +kernel
theorem i241_1005 : ins 241 1005 = some (.invokevirtual 136, 1008, 143, 0) := by decide +kernel
theorem i241_1008 : ins 241 1008 = some (.aload_n 2, 1009, 0, 0) := by decide +kernel
theorem i241_1009 : ins 241 1009 = some (.aload_n 0, 1010, 0, 0) := by decide +kernel
theorem i241_1010 : ins 241 1010 = some (.iload_n 3, 1011, 0, 0) := by decide +kernel
theorem i241_1011 : ins 241 1011 = some (.iconst (1), 1012, 0, 1) := by decide +kernel
theorem i241_1012 : ins 241 1012 = some (.iadd, 1013, 0, 0) := by decide +kernel
theorem i241_1013 : ins 241 1013 = some (.iaload, 1014, 0, 0) := by decide +kernel
theorem i241_1014 : ins 241 1014 = some (.invokevirtual 139, 1017, 239, 0) := by decide +kernel
theorem i241_1017 : ins 241 1017 = some (.if_icmp .eq (28), 1020, 1045, 0) := by decide +kernel
theorem i241_1020 : ins 241 1020 = some (.iconst (0), 1021, 0, 0) := by decide +kernel
theorem i241_1021 : ins 241 1021 = some (.ireturn, 1022, 0, 0) := by decide +kernel
theorem i241_1022 : ins 241 1022 = some (.aload_n 1, 1023, 0, 0) := by decide +kernel
theorem i241_1023 : ins 241 1023 = some (.aload_n 0, 1024, 0, 0) := by decide +kernel
theorem i241_1024 : ins 241 1024 = some (.iload_n 3, 1025, 0, 0) := by decide +kernel
theorem i241_1025 : ins 241 1025 = some (.iconst (1), 1026, 0, 1) := by decide +kernel
theorem i241_1026 : ins 241 1026 = some (.iadd, 1027, 0, 0) := by decide +kernel
theorem i241_1027 : ins 241 1027 = some (.iaload, 1028, 0, 0) := by decide +kernel
theorem i241_1028 : ins 241 1028 = some (.invokevirtual 140, 1031, 144, 0) := by decide +kernel
theorem i241_1031 : ins 241 1031 = some (.aload_n 2, 1032, 0, 0) := by decide +kernel
theorem i241_1032 : ins 241 1032 = some (.aload_n 0, 1033, 0, 0) := by decide +kernel
theorem i241_1033 : ins 241 1033 = some (.iload_n 3, 1034, 0, 0) := by decide +kernel
theorem i241_1034 : ins 241 1034 = some (.iconst (1), 1035, 0, 1) := by decide +kernel
theorem i241_1035 : ins 241 1035 = some (.iadd, 1036, 0, 0) := by decide +kernel
theorem i241_1036 : ins 241 1036 = some (.iaload, 1037, 0, 0) := by decide +kernel
theorem i241_1037 : ins 241 1037 = some (.invokevirtual 143, 1040, 240, 0) := by decide +kernel
theorem i241_1040 : ins 241 1040 = some (.if_icmp .eq (5), 1043, 1045, 0) := by decide +kernel
theorem i241_1043 : ins 241 1043 = some (.iconst (0), 1044, 0, 0) := by decide +kernel
theorem i241_1044 : ins 241 1044 = some (.ireturn, 1045, 0, 0) := by decide +kernel
theorem i241_1045 : ins 241 1045 = some (.iinc 3 (6), 1048, 0, 6) := by decide +kernel
theorem i241_1048 : ins 241 1048 = some (.goto (-1030), 1051, 18, 0) := by decide +kernel
theorem i241_1051 : ins 241 1051 = some (.iconst (1), 1052, 0, 1) := by decide +kernel
theorem i241_1052 : ins 241 1052 = some (.ireturn, 1053, 0, 0) := by decide +kernel
def Mo_chance_18 (w : Wd) : Option (Int × Wd) :=
  some ((-1), w)
theorem s_Mo_chance_18 {g : Gp} {l : Launch} {D : Nat} (hD : 6 ≤ D) (w : Wd) (r : Int × Wd) (h : Mo_chance_18 w = some r) : Rn g l D 225 18 [] [] w (some (.inl r.1)) r.2 := by
  unfold Mo_chance_18 at h
  refine rn_iconst i225_18 ?_
  obtain rfl := Option.some.inj h
  exact rn_retI i225_19 mr225
def Mo_chance_50 (k31 : Nat → Int → Int → Int → Wd → Option (Int × Wd)) (a0 : Nat) (x1 : Int) (x2 : Int) (x3 : Int) (w : Wd) : Option (Int × Wd) :=
  (fgI w a0 12 51).bind fun v52 =>
  (fpI w a0 12 51 (w32 (v52 + 1))).bind fun w57 =>
  k31 a0 x1 x2 x3 w57
theorem s_Mo_chance_50 {g : Gp} {l : Launch} {D : Nat} (hD : 6 ≤ D) (k31 : Nat → Int → Int → Int → Wd → Option (Int × Wd)) (hk31 : ∀ (a0 : Nat) (x1 : Int) (x2 : Int) (x3 : Int) (w : Wd) (r : Int × Wd), k31 a0 x1 x2 x3 w = some r → Rn g l D 225 31 [(0, .inr (.inr a0)), (1, .inl x1), (2, .inl x2), (3, .inl x3)] [] w (some (.inl r.1)) r.2) (a0 : Nat) (x1 : Int) (x2 : Int) (x3 : Int) (w : Wd) (r : Int × Wd) (h : Mo_chance_50 k31 a0 x1 x2 x3 w = some r) : Rn g l D 225 50 [(0, .inr (.inr a0)), (1, .inl x1), (2, .inl x2), (3, .inl x3)] [] w (some (.inl r.1)) r.2 := by
  unfold Mo_chance_50 at h
  refine fr_aload_n i225_50 rfl ?_
  refine rn_dup i225_51 rfl ?_
  obtain ⟨v52, h52, h⟩ := Option.bind_eq_some_iff.mp h
  refine fr_gI (k := 51) i225_52 tf12_51 h52 ?_
  refine rn_iconst i225_55 ?_
  refine rn_iadd i225_56 ?_
  obtain ⟨w57, h57, h⟩ := Option.bind_eq_some_iff.mp h
  refine fr_pI (k := 51) i225_57 (pf12_51 225) h57 ?_
  refine rn_goto i225_60 ?_
  exact rn_sub [0, 1, 2, 3] rfl (hk31 a0 x1 x2 x3 w57 r h)
def Mo_chance_31 : Nat → Nat → Int → Int → Int → Wd → Option (Int × Wd)
  | 0, _, _, _, _, _ => none
  | n + 1, a0, x1, x2, x3, w =>
    (fgI w a0 12 51).bind fun v32 =>
    if (x2 : Int) ≤ v32 then
      some (x3, w)
    else
      (Mo_judged a0 w).bind fun r40 =>
      if (r40.1 : Int) = x1 then
        Mo_chance_50 (Mo_chance_31 n) a0 x1 x2 (w32 (x3 + 1)) r40.2
      else
        Mo_chance_50 (Mo_chance_31 n) a0 x1 x2 x3 r40.2
theorem s_Mo_chance_31 {g : Gp} {l : Launch} {D : Nat} (hD : 6 ≤ D) : ∀ (n : Nat) (a0 : Nat) (x1 : Int) (x2 : Int) (x3 : Int) (w : Wd) (r : Int × Wd), Mo_chance_31 n a0 x1 x2 x3 w = some r → Rn g l D 225 31 [(0, .inr (.inr a0)), (1, .inl x1), (2, .inl x2), (3, .inl x3)] [] w (some (.inl r.1)) r.2 := by
  obtain ⟨D, rfl⟩ : ∃ D1, D = D1 + 1 := ⟨D - 1, by omega⟩
  intro n
  induction n with
  | zero => intro a0 x1 x2 x3 w r h; cases (show (none : Option (Int × Wd)) = some r from h)
  | succ n ih =>
    intro a0 x1 x2 x3 w r h
    unfold Mo_chance_31 at h
    refine fr_aload_n i225_31 rfl ?_
    obtain ⟨v32, h32, h⟩ := Option.bind_eq_some_iff.mp h
    refine fr_gI (k := 51) i225_32 tf12_51 h32 ?_
    refine rn_iload_n i225_35 rfl ?_
    by_cases c36 : (x2 : Int) ≤ v32
    · rw [if_pos c36] at h
      refine rn_icmp_ge_t i225_36 c36 ?_
      refine rn_iload_n i225_63 rfl ?_
      obtain rfl := Option.some.inj h
      exact rn_retI i225_64 mr225
    · rw [if_neg c36] at h
      refine rn_icmp_ge_f i225_36 c36 ?_
      refine fr_aload_n i225_39 rfl ?_
      obtain ⟨r40, h40, h⟩ := Option.bind_eq_some_iff.mp h
      obtain ⟨g40, c40⟩ := S_Mo_judged a0 w r40 h40
      refine fr_callV (a := a0) (As := []) (st := []) i225_40 (cq202 a0) rfl (Nat.le_of_ble_eq_true rfl) g40 (c40 _ (by omega)) ?_
      show Rn _ _ _ _ _ _ [.inl r40.1] _ _ _
      refine rn_iload_n i225_43 rfl ?_
      by_cases c44 : (r40.1 : Int) = x1
      · rw [if_pos c44] at h
        refine rn_icmp_ne_f i225_44 c44 ?_
        refine rn_iinc (ls1 := [(3, .inl (w32 (x3 + 1))), (0, .inr (.inr a0)), (1, .inl x1), (2, .inl x2)]) i225_47 rfl rfl ?_
        exact rn_sub [1, 2, 3, 0] rfl (s_Mo_chance_50 hD (Mo_chance_31 n) ih a0 x1 x2 (w32 (x3 + 1)) r40.2 r h)
      · rw [if_neg c44] at h
        refine rn_icmp_ne_t i225_44 c44 ?_
        exact rn_sub [0, 1, 2, 3] rfl (s_Mo_chance_50 hD (Mo_chance_31 n) ih a0 x1 x2 x3 r40.2 r h)
def Mo_chance_0 (a0 : Nat) (x1 : Int) (x2 : Int) (w : Wd) : Option (Int × Wd) :=
  (Mo_isHeir a0 x1 w).bind fun r2 =>
  if (r2.1 : Int) = 0 then
    Mo_chance_18 r2.2
  else
    (Mo_in x2 1 50 r2.2).bind fun r12 =>
    if (r12.1 : Int) = 0 then
      Mo_chance_18 r12.2
    else
      (Mo_copies a0 r12.2).bind fun r21 =>
      (fpI r21 a0 12 51 0).bind fun w28 =>
      Mo_chance_31 FU a0 x1 x2 0 w28
theorem s_Mo_chance_0 {g : Gp} {l : Launch} {D : Nat} (hD : 6 ≤ D) (a0 : Nat) (x1 : Int) (x2 : Int) (w : Wd) (r : Int × Wd) (h : Mo_chance_0 a0 x1 x2 w = some r) : Rn g l D 225 0 [(0, .inr (.inr a0)), (1, .inl x1), (2, .inl x2)] [] w (some (.inl r.1)) r.2 := by
  obtain ⟨D, rfl⟩ : ∃ D1, D = D1 + 1 := ⟨D - 1, by omega⟩
  unfold Mo_chance_0 at h
  refine fr_aload_n i225_0 rfl ?_
  refine rn_iload_n i225_1 rfl ?_
  obtain ⟨r2, h2, h⟩ := Option.bind_eq_some_iff.mp h
  obtain ⟨g2, c2⟩ := S_Mo_isHeir a0 x1 w r2 h2
  refine fr_callV (a := a0) (As := [.inl x1]) (st := []) i225_2 (cq185 a0 x1) rfl (Nat.le_of_ble_eq_true rfl) g2 (c2 _ (by omega)) ?_
  show Rn _ _ _ _ _ _ [.inl r2.1] _ _ _
  by_cases c5 : (r2.1 : Int) = 0
  · rw [if_pos c5] at h
    refine rn_if_eq_t i225_5 c5 ?_
    exact rn_sub [] rfl (s_Mo_chance_18 hD r2.2 r h)
  · rw [if_neg c5] at h
    refine rn_if_eq_f i225_5 c5 ?_
    refine rn_iload_n i225_8 rfl ?_
    refine rn_iconst i225_9 ?_
    refine rn_bipush i225_10 ?_
    obtain ⟨r12, h12, h⟩ := Option.bind_eq_some_iff.mp h
    refine fr_callS (nst := 0) (As := [.inl x2, .inl 1, .inl 50]) (st := []) i225_12 (cq183 x2 1 50) rfl (Nat.le_of_ble_eq_true rfl) (S_Mo_in x2 1 50 r2.2 r12 h12 _ (by omega)) ?_
    show Rn _ _ _ _ _ _ [.inl r12.1] _ _ _
    by_cases c15 : (r12.1 : Int) = 0
    · rw [if_pos c15] at h
      refine rn_if_ne_f i225_15 c15 ?_
      exact rn_sub [] rfl (s_Mo_chance_18 hD r12.2 r h)
    · rw [if_neg c15] at h
      refine rn_if_ne_t i225_15 c15 ?_
      refine fr_aload_n i225_20 rfl ?_
      obtain ⟨r21, h21, h⟩ := Option.bind_eq_some_iff.mp h
      obtain ⟨g21, c21⟩ := S_Mo_copies a0 r12.2 r21 h21
      refine fr_callV (a := a0) (As := []) (st := []) i225_21 (cq189 a0) rfl (Nat.le_of_ble_eq_true rfl) g21 (c21 _ (by omega)) ?_
      refine rn_iconst i225_24 ?_
      refine rn_istore_n (ls1 := [(3, .inl 0), (0, .inr (.inr a0)), (1, .inl x1), (2, .inl x2)]) i225_25 rfl ?_
      refine fr_aload_n i225_26 rfl ?_
      refine rn_iconst i225_27 ?_
      obtain ⟨w28, h28, h⟩ := Option.bind_eq_some_iff.mp h
      refine fr_pI (k := 51) i225_28 (pf12_51 225) h28 ?_
      exact rn_sub [1, 2, 3, 0] rfl (s_Mo_chance_31 hD FU a0 x1 x2 0 w28 r h)
/-- HandHeirsModel.chance(II)I -/
def Mo_chance (a0 : Nat) (x1 : Int) (x2 : Int) (w : Wd) : Option (Int × Wd) := gd 12 w a0 (Mo_chance_0 a0 x1 x2 w)
theorem S_Mo_chance {g : Gp} {l : Launch} (a0 : Nat) (x1 : Int) (x2 : Int) (w : Wd) (r : Int × Wd) (h : Mo_chance a0 x1 x2 w = some r) : (wsh w a0).1 = 12 ∧ ∀ D, 6 ≤ D → Rn g l D 225 0 [(0, .inr (.inr a0)), (1, .inl x1), (2, .inl x2)] [] w (some (.inl r.1)) r.2 := by
  obtain ⟨hg, h⟩ := gd_some h
  exact ⟨hg, fun D hD => rn_sub [0, 1, 2] rfl (s_Mo_chance_0 hD a0 x1 x2 w r h)⟩
def Mo_without_0 (a0 : Nat) (x1 : Int) (w : Wd) : Option (Int × Wd) :=
  (Mo_isHeir a0 x1 w).bind fun r2 =>
  if (r2.1 : Int) = 0 then
    some ((-1), r2.2)
  else
    (Mo_copies a0 r2.2).bind fun r11 =>
    (fpI r11 a0 12 53 x1).bind fun w16 =>
    (Mo_judged a0 w16).bind fun r20 =>
    (Mo_orNobody (r20.1) r20.2).bind fun r23 =>
    some (r23.1, r23.2)
theorem s_Mo_without_0 {g : Gp} {l : Launch} {D : Nat} (hD : 6 ≤ D) (a0 : Nat) (x1 : Int) (w : Wd) (r : Int × Wd) (h : Mo_without_0 a0 x1 w = some r) : Rn g l D 226 0 [(0, .inr (.inr a0)), (1, .inl x1)] [] w (some (.inl r.1)) r.2 := by
  obtain ⟨D, rfl⟩ : ∃ D1, D = D1 + 1 := ⟨D - 1, by omega⟩
  unfold Mo_without_0 at h
  refine fr_aload_n i226_0 rfl ?_
  refine rn_iload_n i226_1 rfl ?_
  obtain ⟨r2, h2, h⟩ := Option.bind_eq_some_iff.mp h
  obtain ⟨g2, c2⟩ := S_Mo_isHeir a0 x1 w r2 h2
  refine fr_callV (a := a0) (As := [.inl x1]) (st := []) i226_2 (cq185 a0 x1) rfl (Nat.le_of_ble_eq_true rfl) g2 (c2 _ (by omega)) ?_
  show Rn _ _ _ _ _ _ [.inl r2.1] _ _ _
  by_cases c5 : (r2.1 : Int) = 0
  · rw [if_pos c5] at h
    refine rn_if_ne_f i226_5 c5 ?_
    refine rn_iconst i226_8 ?_
    obtain rfl := Option.some.inj h
    exact rn_retI i226_9 mr226
  · rw [if_neg c5] at h
    refine rn_if_ne_t i226_5 c5 ?_
    refine fr_aload_n i226_10 rfl ?_
    obtain ⟨r11, h11, h⟩ := Option.bind_eq_some_iff.mp h
    obtain ⟨g11, c11⟩ := S_Mo_copies a0 r2.2 r11 h11
    refine fr_callV (a := a0) (As := []) (st := []) i226_11 (cq189 a0) rfl (Nat.le_of_ble_eq_true rfl) g11 (c11 _ (by omega)) ?_
    refine fr_aload_n i226_14 rfl ?_
    refine rn_iload_n i226_15 rfl ?_
    obtain ⟨w16, h16, h⟩ := Option.bind_eq_some_iff.mp h
    refine fr_pI (k := 53) i226_16 (pf12_53 226) h16 ?_
    refine fr_aload_n i226_19 rfl ?_
    obtain ⟨r20, h20, h⟩ := Option.bind_eq_some_iff.mp h
    obtain ⟨g20, c20⟩ := S_Mo_judged a0 w16 r20 h20
    refine fr_callV (a := a0) (As := []) (st := []) i226_20 (cq202 a0) rfl (Nat.le_of_ble_eq_true rfl) g20 (c20 _ (by omega)) ?_
    show Rn _ _ _ _ _ _ [.inl r20.1] _ _ _
    obtain ⟨r23, h23, h⟩ := Option.bind_eq_some_iff.mp h
    refine fr_callS (nst := 0) (As := [.inl r20.1]) (st := []) i226_23 (cq211 (r20.1)) rfl (Nat.le_of_ble_eq_true rfl) (S_Mo_orNobody (r20.1) r20.2 r23 h23 _ (by omega)) ?_
    show Rn _ _ _ _ _ _ [.inl r23.1] _ _ _
    obtain rfl := Option.some.inj h
    exact rn_retI i226_26 mr226
/-- HandHeirsModel.without(I)I -/
def Mo_without (a0 : Nat) (x1 : Int) (w : Wd) : Option (Int × Wd) := gd 12 w a0 (Mo_without_0 a0 x1 w)
theorem S_Mo_without {g : Gp} {l : Launch} (a0 : Nat) (x1 : Int) (w : Wd) (r : Int × Wd) (h : Mo_without a0 x1 w = some r) : (wsh w a0).1 = 12 ∧ ∀ D, 6 ≤ D → Rn g l D 226 0 [(0, .inr (.inr a0)), (1, .inl x1)] [] w (some (.inl r.1)) r.2 := by
  obtain ⟨hg, h⟩ := gd_some h
  exact ⟨hg, fun D hD => rn_sub [0, 1] rfl (s_Mo_without_0 hD a0 x1 w r h)⟩
def Mo_bias_18 (w : Wd) : Option (Int × Wd) :=
  some ((-1), w)
theorem s_Mo_bias_18 {g : Gp} {l : Launch} {D : Nat} (hD : 7 ≤ D) (w : Wd) (r : Int × Wd) (h : Mo_bias_18 w = some r) : Rn g l D 227 18 [] [] w (some (.inl r.1)) r.2 := by
  unfold Mo_bias_18 at h
  refine rn_iconst i227_18 ?_
  obtain rfl := Option.some.inj h
  exact rn_retI i227_19 mr227
def Mo_bias_67 (k29 : Nat → Int → Int → Int → Int → Wd → Option (Int × Wd)) (a0 : Nat) (x1 : Int) (x2 : Int) (x3 : Int) (x4 : Int) (w : Wd) : Option (Int × Wd) :=
  k29 a0 x1 x2 x3 (w32 (x4 + 1)) w
theorem s_Mo_bias_67 {g : Gp} {l : Launch} {D : Nat} (hD : 7 ≤ D) (k29 : Nat → Int → Int → Int → Int → Wd → Option (Int × Wd)) (hk29 : ∀ (a0 : Nat) (x1 : Int) (x2 : Int) (x3 : Int) (x4 : Int) (w : Wd) (r : Int × Wd), k29 a0 x1 x2 x3 x4 w = some r → Rn g l D 227 29 [(0, .inr (.inr a0)), (1, .inl x1), (2, .inl x2), (3, .inl x3), (4, .inl x4)] [] w (some (.inl r.1)) r.2) (a0 : Nat) (x1 : Int) (x2 : Int) (x3 : Int) (x4 : Int) (w : Wd) (r : Int × Wd) (h : Mo_bias_67 k29 a0 x1 x2 x3 x4 w = some r) : Rn g l D 227 67 [(0, .inr (.inr a0)), (1, .inl x1), (2, .inl x2), (3, .inl x3), (4, .inl x4)] [] w (some (.inl r.1)) r.2 := by
  unfold Mo_bias_67 at h
  refine rn_iinc (ls1 := [(4, .inl (w32 (x4 + 1))), (0, .inr (.inr a0)), (1, .inl x1), (2, .inl x2), (3, .inl x3)]) i227_67 rfl rfl ?_
  refine rn_goto i227_70 ?_
  exact rn_sub [1, 2, 3, 4, 0] rfl (hk29 a0 x1 x2 x3 (w32 (x4 + 1)) w r h)
def Mo_bias_29 : Nat → Nat → Int → Int → Int → Int → Wd → Option (Int × Wd)
  | 0, _, _, _, _, _, _ => none
  | n + 1, a0, x1, x2, x3, x4, w =>
    if (x2 : Int) ≤ x4 then
      some (x3, w)
    else
      (Mo_yearGoes a0 w).bind fun r36 =>
      (fgR r36 a0 12 57).bind fun v40 =>
      (rdI r36 v40 x1).bind fun v44 =>
      if (v44 : Int) < 0 then
        Mo_bias_67 (Mo_bias_29 n) a0 x1 x2 x3 x4 r36
      else
        (fgR r36 a0 12 57).bind fun v49 =>
        (rdI r36 v49 x1).bind fun v53 =>
        (fgR r36 a0 12 50).bind fun v55 =>
        (rdI r36 v55 43).bind fun v60 =>
        if (v53 : Int) = v60 then
          Mo_bias_67 (Mo_bias_29 n) a0 x1 x2 x3 x4 r36
        else
          Mo_bias_67 (Mo_bias_29 n) a0 x1 x2 (w32 (x3 + 1)) x4 r36
theorem s_Mo_bias_29 {g : Gp} {l : Launch} {D : Nat} (hD : 7 ≤ D) : ∀ (n : Nat) (a0 : Nat) (x1 : Int) (x2 : Int) (x3 : Int) (x4 : Int) (w : Wd) (r : Int × Wd), Mo_bias_29 n a0 x1 x2 x3 x4 w = some r → Rn g l D 227 29 [(0, .inr (.inr a0)), (1, .inl x1), (2, .inl x2), (3, .inl x3), (4, .inl x4)] [] w (some (.inl r.1)) r.2 := by
  obtain ⟨D, rfl⟩ : ∃ D1, D = D1 + 1 := ⟨D - 1, by omega⟩
  intro n
  induction n with
  | zero => intro a0 x1 x2 x3 x4 w r h; cases (show (none : Option (Int × Wd)) = some r from h)
  | succ n ih =>
    intro a0 x1 x2 x3 x4 w r h
    unfold Mo_bias_29 at h
    refine rn_iload i227_29 rfl ?_
    refine rn_iload_n i227_31 rfl ?_
    by_cases c32 : (x2 : Int) ≤ x4
    · rw [if_pos c32] at h
      refine rn_icmp_ge_t i227_32 c32 ?_
      refine rn_iload_n i227_73 rfl ?_
      obtain rfl := Option.some.inj h
      exact rn_retI i227_74 mr227
    · rw [if_neg c32] at h
      refine rn_icmp_ge_f i227_32 c32 ?_
      refine fr_aload_n i227_35 rfl ?_
      obtain ⟨r36, h36, h⟩ := Option.bind_eq_some_iff.mp h
      obtain ⟨g36, c36⟩ := S_Mo_yearGoes a0 w r36 h36
      refine fr_callV (a := a0) (As := []) (st := []) i227_36 (cq205 a0) rfl (Nat.le_of_ble_eq_true rfl) g36 (c36 _ (by omega)) ?_
      refine fr_aload_n i227_39 rfl ?_
      obtain ⟨v40, h40, h⟩ := Option.bind_eq_some_iff.mp h
      refine fr_gR (k := 57) i227_40 tf12_57 h40 ?_
      refine rn_iload_n i227_43 rfl ?_
      obtain ⟨v44, h44, h⟩ := Option.bind_eq_some_iff.mp h
      refine rn_iald i227_44 h44 ?_
      by_cases c45 : (v44 : Int) < 0
      · rw [if_pos c45] at h
        refine rn_if_lt_t i227_45 c45 ?_
        exact rn_sub [0, 1, 2, 3, 4] rfl (s_Mo_bias_67 hD (Mo_bias_29 n) ih a0 x1 x2 x3 x4 r36 r h)
      · rw [if_neg c45] at h
        refine rn_if_lt_f i227_45 c45 ?_
        refine fr_aload_n i227_48 rfl ?_
        obtain ⟨v49, h49, h⟩ := Option.bind_eq_some_iff.mp h
        refine fr_gR (k := 57) i227_49 tf12_57 h49 ?_
        refine rn_iload_n i227_52 rfl ?_
        obtain ⟨v53, h53, h⟩ := Option.bind_eq_some_iff.mp h
        refine rn_iald i227_53 h53 ?_
        refine fr_aload_n i227_54 rfl ?_
        obtain ⟨v55, h55, h⟩ := Option.bind_eq_some_iff.mp h
        refine fr_gR (k := 50) i227_55 tf12_50 h55 ?_
        refine rn_bipush i227_58 ?_
        obtain ⟨v60, h60, h⟩ := Option.bind_eq_some_iff.mp h
        refine rn_iald i227_60 h60 ?_
        by_cases c61 : (v53 : Int) = v60
        · rw [if_pos c61] at h
          refine rn_icmp_eq_t i227_61 c61 ?_
          exact rn_sub [0, 1, 2, 3, 4] rfl (s_Mo_bias_67 hD (Mo_bias_29 n) ih a0 x1 x2 x3 x4 r36 r h)
        · rw [if_neg c61] at h
          refine rn_icmp_eq_f i227_61 c61 ?_
          refine rn_iinc (ls1 := [(3, .inl (w32 (x3 + 1))), (0, .inr (.inr a0)), (1, .inl x1), (2, .inl x2), (4, .inl x4)]) i227_64 rfl rfl ?_
          exact rn_sub [1, 2, 3, 0, 4] rfl (s_Mo_bias_67 hD (Mo_bias_29 n) ih a0 x1 x2 (w32 (x3 + 1)) x4 r36 r h)
def Mo_bias_0 (a0 : Nat) (x1 : Int) (x2 : Int) (w : Wd) : Option (Int × Wd) :=
  (Mo_isMaster a0 x1 w).bind fun r2 =>
  if (r2.1 : Int) = 0 then
    Mo_bias_18 r2.2
  else
    (Mo_in x2 1 100 r2.2).bind fun r12 =>
    if (r12.1 : Int) = 0 then
      Mo_bias_18 r12.2
    else
      (Mo_copies a0 r12.2).bind fun r21 =>
      Mo_bias_29 FU a0 x1 x2 0 0 r21
theorem s_Mo_bias_0 {g : Gp} {l : Launch} {D : Nat} (hD : 7 ≤ D) (a0 : Nat) (x1 : Int) (x2 : Int) (w : Wd) (r : Int × Wd) (h : Mo_bias_0 a0 x1 x2 w = some r) : Rn g l D 227 0 [(0, .inr (.inr a0)), (1, .inl x1), (2, .inl x2)] [] w (some (.inl r.1)) r.2 := by
  obtain ⟨D, rfl⟩ : ∃ D1, D = D1 + 1 := ⟨D - 1, by omega⟩
  unfold Mo_bias_0 at h
  refine fr_aload_n i227_0 rfl ?_
  refine rn_iload_n i227_1 rfl ?_
  obtain ⟨r2, h2, h⟩ := Option.bind_eq_some_iff.mp h
  obtain ⟨g2, c2⟩ := S_Mo_isMaster a0 x1 w r2 h2
  refine fr_callV (a := a0) (As := [.inl x1]) (st := []) i227_2 (cq186 a0 x1) rfl (Nat.le_of_ble_eq_true rfl) g2 (c2 _ (by omega)) ?_
  show Rn _ _ _ _ _ _ [.inl r2.1] _ _ _
  by_cases c5 : (r2.1 : Int) = 0
  · rw [if_pos c5] at h
    refine rn_if_eq_t i227_5 c5 ?_
    exact rn_sub [] rfl (s_Mo_bias_18 hD r2.2 r h)
  · rw [if_neg c5] at h
    refine rn_if_eq_f i227_5 c5 ?_
    refine rn_iload_n i227_8 rfl ?_
    refine rn_iconst i227_9 ?_
    refine rn_bipush i227_10 ?_
    obtain ⟨r12, h12, h⟩ := Option.bind_eq_some_iff.mp h
    refine fr_callS (nst := 0) (As := [.inl x2, .inl 1, .inl 100]) (st := []) i227_12 (cq183 x2 1 100) rfl (Nat.le_of_ble_eq_true rfl) (S_Mo_in x2 1 100 r2.2 r12 h12 _ (by omega)) ?_
    show Rn _ _ _ _ _ _ [.inl r12.1] _ _ _
    by_cases c15 : (r12.1 : Int) = 0
    · rw [if_pos c15] at h
      refine rn_if_ne_f i227_15 c15 ?_
      exact rn_sub [] rfl (s_Mo_bias_18 hD r12.2 r h)
    · rw [if_neg c15] at h
      refine rn_if_ne_t i227_15 c15 ?_
      refine fr_aload_n i227_20 rfl ?_
      obtain ⟨r21, h21, h⟩ := Option.bind_eq_some_iff.mp h
      obtain ⟨g21, c21⟩ := S_Mo_copies a0 r12.2 r21 h21
      refine fr_callV (a := a0) (As := []) (st := []) i227_21 (cq189 a0) rfl (Nat.le_of_ble_eq_true rfl) g21 (c21 _ (by omega)) ?_
      refine rn_iconst i227_24 ?_
      refine rn_istore_n (ls1 := [(3, .inl 0), (0, .inr (.inr a0)), (1, .inl x1), (2, .inl x2)]) i227_25 rfl ?_
      refine rn_iconst i227_26 ?_
      refine rn_istore (ls1 := [(4, .inl 0), (3, .inl 0), (0, .inr (.inr a0)), (1, .inl x1), (2, .inl x2)]) i227_27 rfl ?_
      exact rn_sub [2, 3, 4, 1, 0] rfl (s_Mo_bias_29 hD FU a0 x1 x2 0 0 r21 r h)
/-- HandHeirsModel.bias(II)I -/
def Mo_bias (a0 : Nat) (x1 : Int) (x2 : Int) (w : Wd) : Option (Int × Wd) := gd 12 w a0 (Mo_bias_0 a0 x1 x2 w)
theorem S_Mo_bias {g : Gp} {l : Launch} (a0 : Nat) (x1 : Int) (x2 : Int) (w : Wd) (r : Int × Wd) (h : Mo_bias a0 x1 x2 w = some r) : (wsh w a0).1 = 12 ∧ ∀ D, 7 ≤ D → Rn g l D 227 0 [(0, .inr (.inr a0)), (1, .inl x1), (2, .inl x2)] [] w (some (.inl r.1)) r.2 := by
  obtain ⟨hg, h⟩ := gd_some h
  exact ⟨hg, fun D hD => rn_sub [0, 1, 2] rfl (s_Mo_bias_0 hD a0 x1 x2 w r h)⟩
def Mo_bestLetter_27 (w : Wd) : Option (Int × Wd) :=
  some ((-1), w)
theorem s_Mo_bestLetter_27 {g : Gp} {l : Launch} {D : Nat} (hD : 7 ≤ D) (w : Wd) (r : Int × Wd) (h : Mo_bestLetter_27 w = some r) : Rn g l D 228 27 [] [] w (some (.inl r.1)) r.2 := by
  unfold Mo_bestLetter_27 at h
  refine rn_iconst i228_27 ?_
  obtain rfl := Option.some.inj h
  exact rn_retI i228_28 mr228
def Mo_bestLetter_99 (k40 : Nat → Int → Int → Int → Int → Int → Int → Wd → Option (Int × Wd)) (k75 : Nat → Int → Int → Int → Int → Int → Int → Int → Int → Wd → Option (Int × Wd)) (a0 : Nat) (x1 : Int) (x2 : Int) (x3 : Int) (x4 : Int) (x5 : Int) (x6 : Int) (x7 : Int) (x8 : Int) (w : Wd) : Option (Int × Wd) :=
  k75 a0 x1 x2 x3 x4 x5 x6 x7 (w32 (x8 + 1)) w
theorem s_Mo_bestLetter_99 {g : Gp} {l : Launch} {D : Nat} (hD : 7 ≤ D) (k40 : Nat → Int → Int → Int → Int → Int → Int → Wd → Option (Int × Wd)) (hk40 : ∀ (a0 : Nat) (x1 : Int) (x2 : Int) (x3 : Int) (x4 : Int) (x5 : Int) (x6 : Int) (w : Wd) (r : Int × Wd), k40 a0 x1 x2 x3 x4 x5 x6 w = some r → Rn g l D 228 40 [(0, .inr (.inr a0)), (1, .inl x1), (2, .inl x2), (3, .inl x3), (4, .inl x4), (5, .inl x5), (6, .inl x6)] [] w (some (.inl r.1)) r.2) (k75 : Nat → Int → Int → Int → Int → Int → Int → Int → Int → Wd → Option (Int × Wd)) (hk75 : ∀ (a0 : Nat) (x1 : Int) (x2 : Int) (x3 : Int) (x4 : Int) (x5 : Int) (x6 : Int) (x7 : Int) (x8 : Int) (w : Wd) (r : Int × Wd), k75 a0 x1 x2 x3 x4 x5 x6 x7 x8 w = some r → Rn g l D 228 75 [(0, .inr (.inr a0)), (1, .inl x1), (2, .inl x2), (3, .inl x3), (4, .inl x4), (5, .inl x5), (6, .inl x6), (7, .inl x7), (8, .inl x8)] [] w (some (.inl r.1)) r.2) (a0 : Nat) (x1 : Int) (x2 : Int) (x3 : Int) (x4 : Int) (x5 : Int) (x6 : Int) (x7 : Int) (x8 : Int) (w : Wd) (r : Int × Wd) (h : Mo_bestLetter_99 k40 k75 a0 x1 x2 x3 x4 x5 x6 x7 x8 w = some r) : Rn g l D 228 99 [(0, .inr (.inr a0)), (1, .inl x1), (2, .inl x2), (3, .inl x3), (4, .inl x4), (5, .inl x5), (6, .inl x6), (7, .inl x7), (8, .inl x8)] [] w (some (.inl r.1)) r.2 := by
  unfold Mo_bestLetter_99 at h
  refine rn_iinc (ls1 := [(8, .inl (w32 (x8 + 1))), (0, .inr (.inr a0)), (1, .inl x1), (2, .inl x2), (3, .inl x3), (4, .inl x4), (5, .inl x5), (6, .inl x6), (7, .inl x7)]) i228_99 rfl rfl ?_
  refine rn_goto i228_102 ?_
  exact rn_sub [1, 2, 3, 4, 5, 6, 7, 8, 0] rfl (hk75 a0 x1 x2 x3 x4 x5 x6 x7 (w32 (x8 + 1)) w r h)
def Mo_bestLetter_123 (k40 : Nat → Int → Int → Int → Int → Int → Int → Wd → Option (Int × Wd)) (a0 : Nat) (x1 : Int) (x2 : Int) (x3 : Int) (x4 : Int) (x5 : Int) (x6 : Int) (w : Wd) : Option (Int × Wd) :=
  k40 a0 x1 x2 x3 x4 x5 (w32 (x6 + 1)) w
theorem s_Mo_bestLetter_123 {g : Gp} {l : Launch} {D : Nat} (hD : 7 ≤ D) (k40 : Nat → Int → Int → Int → Int → Int → Int → Wd → Option (Int × Wd)) (hk40 : ∀ (a0 : Nat) (x1 : Int) (x2 : Int) (x3 : Int) (x4 : Int) (x5 : Int) (x6 : Int) (w : Wd) (r : Int × Wd), k40 a0 x1 x2 x3 x4 x5 x6 w = some r → Rn g l D 228 40 [(0, .inr (.inr a0)), (1, .inl x1), (2, .inl x2), (3, .inl x3), (4, .inl x4), (5, .inl x5), (6, .inl x6)] [] w (some (.inl r.1)) r.2) (a0 : Nat) (x1 : Int) (x2 : Int) (x3 : Int) (x4 : Int) (x5 : Int) (x6 : Int) (w : Wd) (r : Int × Wd) (h : Mo_bestLetter_123 k40 a0 x1 x2 x3 x4 x5 x6 w = some r) : Rn g l D 228 123 [(0, .inr (.inr a0)), (1, .inl x1), (2, .inl x2), (3, .inl x3), (4, .inl x4), (5, .inl x5), (6, .inl x6)] [] w (some (.inl r.1)) r.2 := by
  unfold Mo_bestLetter_123 at h
  refine rn_iinc (ls1 := [(6, .inl (w32 (x6 + 1))), (0, .inr (.inr a0)), (1, .inl x1), (2, .inl x2), (3, .inl x3), (4, .inl x4), (5, .inl x5)]) i228_123 rfl rfl ?_
  refine rn_goto i228_126 ?_
  exact rn_sub [1, 2, 3, 4, 5, 6, 0] rfl (hk40 a0 x1 x2 x3 x4 x5 (w32 (x6 + 1)) w r h)
def Mo_bestLetter_105 (k40 : Nat → Int → Int → Int → Int → Int → Int → Wd → Option (Int × Wd)) (a0 : Nat) (x1 : Int) (x2 : Int) (x3 : Int) (x4 : Int) (x5 : Int) (x6 : Int) (x7 : Int) (w : Wd) : Option (Int × Wd) :=
  if (x5 : Int) < x7 then
    Mo_bestLetter_123 k40 a0 x1 x2 x3 x6 x7 x6 w
  else
    Mo_bestLetter_123 k40 a0 x1 x2 x3 x4 x5 x6 w
theorem s_Mo_bestLetter_105 {g : Gp} {l : Launch} {D : Nat} (hD : 7 ≤ D) (k40 : Nat → Int → Int → Int → Int → Int → Int → Wd → Option (Int × Wd)) (hk40 : ∀ (a0 : Nat) (x1 : Int) (x2 : Int) (x3 : Int) (x4 : Int) (x5 : Int) (x6 : Int) (w : Wd) (r : Int × Wd), k40 a0 x1 x2 x3 x4 x5 x6 w = some r → Rn g l D 228 40 [(0, .inr (.inr a0)), (1, .inl x1), (2, .inl x2), (3, .inl x3), (4, .inl x4), (5, .inl x5), (6, .inl x6)] [] w (some (.inl r.1)) r.2) (a0 : Nat) (x1 : Int) (x2 : Int) (x3 : Int) (x4 : Int) (x5 : Int) (x6 : Int) (x7 : Int) (w : Wd) (r : Int × Wd) (h : Mo_bestLetter_105 k40 a0 x1 x2 x3 x4 x5 x6 x7 w = some r) : Rn g l D 228 105 [(0, .inr (.inr a0)), (1, .inl x1), (2, .inl x2), (3, .inl x3), (4, .inl x4), (5, .inl x5), (6, .inl x6), (7, .inl x7)] [] w (some (.inl r.1)) r.2 := by
  unfold Mo_bestLetter_105 at h
  refine rn_iload i228_105 rfl ?_
  refine rn_iload i228_107 rfl ?_
  by_cases c109 : (x5 : Int) < x7
  · rw [if_pos c109] at h
    refine rn_icmp_gt_t i228_109 c109 ?_
    refine rn_iload i228_115 rfl ?_
    refine rn_istore (ls1 := [(4, .inl x6), (0, .inr (.inr a0)), (1, .inl x1), (2, .inl x2), (3, .inl x3), (5, .inl x5), (6, .inl x6), (7, .inl x7)]) i228_117 rfl ?_
    refine rn_iload i228_119 rfl ?_
    refine rn_istore (ls1 := [(5, .inl x7), (4, .inl x6), (0, .inr (.inr a0)), (1, .inl x1), (2, .inl x2), (3, .inl x3), (6, .inl x6), (7, .inl x7)]) i228_121 rfl ?_
    exact rn_sub [2, 3, 4, 5, 1, 0, 6] rfl (s_Mo_bestLetter_123 hD k40 hk40 a0 x1 x2 x3 x6 x7 x6 w r h)
  · rw [if_neg c109] at h
    refine rn_icmp_gt_f i228_109 c109 ?_
    refine rn_goto i228_112 ?_
    exact rn_sub [0, 1, 2, 3, 4, 5, 6] rfl (s_Mo_bestLetter_123 hD k40 hk40 a0 x1 x2 x3 x4 x5 x6 w r h)
def Mo_bestLetter_75 (k40 : Nat → Int → Int → Int → Int → Int → Int → Wd → Option (Int × Wd)) : Nat → Nat → Int → Int → Int → Int → Int → Int → Int → Int → Wd → Option (Int × Wd)
  | 0, _, _, _, _, _, _, _, _, _, _ => none
  | n + 1, a0, x1, x2, x3, x4, x5, x6, x7, x8, w =>
    if (x2 : Int) ≤ x8 then
      Mo_bestLetter_105 k40 a0 x1 x2 x3 x4 x5 x6 x7 w
    else
      (Mo_yearGoes a0 w).bind fun r82 =>
      (fgR r82 a0 12 50).bind fun v86 =>
      (rdI r82 v86 43).bind fun v91 =>
      if (v91 : Int) = x1 then
        Mo_bestLetter_99 k40 (Mo_bestLetter_75 k40 n) a0 x1 x2 x3 x4 x5 x6 (w32 (x7 + 1)) x8 r82
      else
        Mo_bestLetter_99 k40 (Mo_bestLetter_75 k40 n) a0 x1 x2 x3 x4 x5 x6 x7 x8 r82
theorem s_Mo_bestLetter_75 {g : Gp} {l : Launch} {D : Nat} (hD : 7 ≤ D) (k40 : Nat → Int → Int → Int → Int → Int → Int → Wd → Option (Int × Wd)) (hk40 : ∀ (a0 : Nat) (x1 : Int) (x2 : Int) (x3 : Int) (x4 : Int) (x5 : Int) (x6 : Int) (w : Wd) (r : Int × Wd), k40 a0 x1 x2 x3 x4 x5 x6 w = some r → Rn g l D 228 40 [(0, .inr (.inr a0)), (1, .inl x1), (2, .inl x2), (3, .inl x3), (4, .inl x4), (5, .inl x5), (6, .inl x6)] [] w (some (.inl r.1)) r.2) : ∀ (n : Nat) (a0 : Nat) (x1 : Int) (x2 : Int) (x3 : Int) (x4 : Int) (x5 : Int) (x6 : Int) (x7 : Int) (x8 : Int) (w : Wd) (r : Int × Wd), Mo_bestLetter_75 k40 n a0 x1 x2 x3 x4 x5 x6 x7 x8 w = some r → Rn g l D 228 75 [(0, .inr (.inr a0)), (1, .inl x1), (2, .inl x2), (3, .inl x3), (4, .inl x4), (5, .inl x5), (6, .inl x6), (7, .inl x7), (8, .inl x8)] [] w (some (.inl r.1)) r.2 := by
  obtain ⟨D, rfl⟩ : ∃ D1, D = D1 + 1 := ⟨D - 1, by omega⟩
  intro n
  induction n with
  | zero => intro a0 x1 x2 x3 x4 x5 x6 x7 x8 w r h; cases (show (none : Option (Int × Wd)) = some r from h)
  | succ n ih =>
    intro a0 x1 x2 x3 x4 x5 x6 x7 x8 w r h
    unfold Mo_bestLetter_75 at h
    refine rn_iload i228_75 rfl ?_
    refine rn_iload_n i228_77 rfl ?_
    by_cases c78 : (x2 : Int) ≤ x8
    · rw [if_pos c78] at h
      refine rn_icmp_ge_t i228_78 c78 ?_
      exact rn_sub [0, 1, 2, 3, 4, 5, 6, 7] rfl (s_Mo_bestLetter_105 hD k40 hk40 a0 x1 x2 x3 x4 x5 x6 x7 w r h)
    · rw [if_neg c78] at h
      refine rn_icmp_ge_f i228_78 c78 ?_
      refine fr_aload_n i228_81 rfl ?_
      obtain ⟨r82, h82, h⟩ := Option.bind_eq_some_iff.mp h
      obtain ⟨g82, c82⟩ := S_Mo_yearGoes a0 w r82 h82
      refine fr_callV (a := a0) (As := []) (st := []) i228_82 (cq205 a0) rfl (Nat.le_of_ble_eq_true rfl) g82 (c82 _ (by omega)) ?_
      refine fr_aload_n i228_85 rfl ?_
      obtain ⟨v86, h86, h⟩ := Option.bind_eq_some_iff.mp h
      refine fr_gR (k := 50) i228_86 tf12_50 h86 ?_
      refine rn_bipush i228_89 ?_
      obtain ⟨v91, h91, h⟩ := Option.bind_eq_some_iff.mp h
      refine rn_iald i228_91 h91 ?_
      refine rn_iload_n i228_92 rfl ?_
      by_cases c93 : (v91 : Int) = x1
      · rw [if_pos c93] at h
        refine rn_icmp_ne_f i228_93 c93 ?_
        refine rn_iinc (ls1 := [(7, .inl (w32 (x7 + 1))), (0, .inr (.inr a0)), (1, .inl x1), (2, .inl x2), (3, .inl x3), (4, .inl x4), (5, .inl x5), (6, .inl x6), (8, .inl x8)]) i228_96 rfl rfl ?_
        exact rn_sub [1, 2, 3, 4, 5, 6, 7, 0, 8] rfl (s_Mo_bestLetter_99 hD k40 hk40 (Mo_bestLetter_75 k40 n) ih a0 x1 x2 x3 x4 x5 x6 (w32 (x7 + 1)) x8 r82 r h)
      · rw [if_neg c93] at h
        refine rn_icmp_ne_t i228_93 c93 ?_
        exact rn_sub [0, 1, 2, 3, 4, 5, 6, 7, 8] rfl (s_Mo_bestLetter_99 hD k40 hk40 (Mo_bestLetter_75 k40 n) ih a0 x1 x2 x3 x4 x5 x6 x7 x8 r82 r h)
def Mo_bestLetter_140 (s0 : Int) (w : Wd) : Option (Int × Wd) :=
  some (s0, w)
theorem s_Mo_bestLetter_140 {g : Gp} {l : Launch} {D : Nat} (hD : 7 ≤ D) (s0 : Int) (w : Wd) (r : Int × Wd) (h : Mo_bestLetter_140 s0 w = some r) : Rn g l D 228 140 [] [.inl s0] w (some (.inl r.1)) r.2 := by
  unfold Mo_bestLetter_140 at h
  obtain rfl := Option.some.inj h
  exact rn_retI i228_140 mr228
def Mo_bestLetter_129 (x3 : Int) (x4 : Int) (x5 : Int) (w : Wd) : Option (Int × Wd) :=
  if (x3 : Int) = 0 then
    Mo_bestLetter_140 x4 w
  else
    Mo_bestLetter_140 x5 w
theorem s_Mo_bestLetter_129 {g : Gp} {l : Launch} {D : Nat} (hD : 7 ≤ D) (x3 : Int) (x4 : Int) (x5 : Int) (w : Wd) (r : Int × Wd) (h : Mo_bestLetter_129 x3 x4 x5 w = some r) : Rn g l D 228 129 [(3, .inl x3), (4, .inl x4), (5, .inl x5)] [] w (some (.inl r.1)) r.2 := by
  unfold Mo_bestLetter_129 at h
  refine rn_iload_n i228_129 rfl ?_
  by_cases c130 : (x3 : Int) = 0
  · rw [if_pos c130] at h
    refine rn_if_ne_f i228_130 c130 ?_
    refine rn_iload i228_133 rfl ?_
    refine rn_goto i228_135 ?_
    exact rn_sub [] rfl (s_Mo_bestLetter_140 hD x4 w r h)
  · rw [if_neg c130] at h
    refine rn_if_ne_t i228_130 c130 ?_
    refine rn_iload i228_138 rfl ?_
    exact rn_sub [] rfl (s_Mo_bestLetter_140 hD x5 w r h)
def Mo_bestLetter_40 : Nat → Nat → Int → Int → Int → Int → Int → Int → Wd → Option (Int × Wd)
  | 0, _, _, _, _, _, _, _, _ => none
  | n + 1, a0, x1, x2, x3, x4, x5, x6, w =>
    (fgR w a0 12 23).bind fun v43 =>
    (fgI w a0 12 18).bind fun v47 =>
    (rdI w v43 v47).bind fun v50 =>
    if (v50 : Int) ≤ x6 then
      Mo_bestLetter_129 x3 x4 x5 w
    else
      (Mo_copies a0 w).bind fun r55 =>
      (fpI r55 a0 12 54 x1).bind fun w60 =>
      (fpI w60 a0 12 55 x6).bind fun w66 =>
      Mo_bestLetter_75 (Mo_bestLetter_40 n) FU a0 x1 x2 x3 x4 x5 x6 0 0 w66
theorem s_Mo_bestLetter_40 {g : Gp} {l : Launch} {D : Nat} (hD : 7 ≤ D) : ∀ (n : Nat) (a0 : Nat) (x1 : Int) (x2 : Int) (x3 : Int) (x4 : Int) (x5 : Int) (x6 : Int) (w : Wd) (r : Int × Wd), Mo_bestLetter_40 n a0 x1 x2 x3 x4 x5 x6 w = some r → Rn g l D 228 40 [(0, .inr (.inr a0)), (1, .inl x1), (2, .inl x2), (3, .inl x3), (4, .inl x4), (5, .inl x5), (6, .inl x6)] [] w (some (.inl r.1)) r.2 := by
  obtain ⟨D, rfl⟩ : ∃ D1, D = D1 + 1 := ⟨D - 1, by omega⟩
  intro n
  induction n with
  | zero => intro a0 x1 x2 x3 x4 x5 x6 w r h; cases (show (none : Option (Int × Wd)) = some r from h)
  | succ n ih =>
    intro a0 x1 x2 x3 x4 x5 x6 w r h
    unfold Mo_bestLetter_40 at h
    refine rn_iload i228_40 rfl ?_
    refine fr_aload_n i228_42 rfl ?_
    obtain ⟨v43, h43, h⟩ := Option.bind_eq_some_iff.mp h
    refine fr_gR (k := 23) i228_43 tf12_23 h43 ?_
    refine fr_aload_n i228_46 rfl ?_
    obtain ⟨v47, h47, h⟩ := Option.bind_eq_some_iff.mp h
    refine fr_gI (k := 18) i228_47 tf12_18 h47 ?_
    obtain ⟨v50, h50, h⟩ := Option.bind_eq_some_iff.mp h
    refine rn_iald i228_50 h50 ?_
    by_cases c51 : (v50 : Int) ≤ x6
    · rw [if_pos c51] at h
      refine rn_icmp_ge_t i228_51 c51 ?_
      exact rn_sub [3, 4, 5] rfl (s_Mo_bestLetter_129 hD x3 x4 x5 w r h)
    · rw [if_neg c51] at h
      refine rn_icmp_ge_f i228_51 c51 ?_
      refine fr_aload_n i228_54 rfl ?_
      obtain ⟨r55, h55, h⟩ := Option.bind_eq_some_iff.mp h
      obtain ⟨g55, c55⟩ := S_Mo_copies a0 w r55 h55
      refine fr_callV (a := a0) (As := []) (st := []) i228_55 (cq189 a0) rfl (Nat.le_of_ble_eq_true rfl) g55 (c55 _ (by omega)) ?_
      refine fr_aload_n i228_58 rfl ?_
      refine rn_iload_n i228_59 rfl ?_
      obtain ⟨w60, h60, h⟩ := Option.bind_eq_some_iff.mp h
      refine fr_pI (k := 54) i228_60 (pf12_54 228) h60 ?_
      refine fr_aload_n i228_63 rfl ?_
      refine rn_iload i228_64 rfl ?_
      obtain ⟨w66, h66, h⟩ := Option.bind_eq_some_iff.mp h
      refine fr_pI (k := 55) i228_66 (pf12_55 228) h66 ?_
      refine rn_iconst i228_69 ?_
      refine rn_istore (ls1 := [(7, .inl 0), (0, .inr (.inr a0)), (1, .inl x1), (2, .inl x2), (3, .inl x3), (4, .inl x4), (5, .inl x5), (6, .inl x6)]) i228_70 rfl ?_
      refine rn_iconst i228_72 ?_
      refine rn_istore (ls1 := [(8, .inl 0), (7, .inl 0), (0, .inr (.inr a0)), (1, .inl x1), (2, .inl x2), (3, .inl x3), (4, .inl x4), (5, .inl x5), (6, .inl x6)]) i228_73 rfl ?_
      exact rn_sub [2, 3, 4, 5, 6, 7, 8, 1, 0] rfl (s_Mo_bestLetter_75 hD (Mo_bestLetter_40 n) ih FU a0 x1 x2 x3 x4 x5 x6 0 0 w66 r h)
def Mo_bestLetter_0 (a0 : Nat) (x1 : Int) (x2 : Int) (x3 : Int) (w : Wd) : Option (Int × Wd) :=
  (Mo_isHeir a0 x1 w).bind fun r2 =>
  if (r2.1 : Int) = 0 then
    Mo_bestLetter_27 r2.2
  else
    (Mo_in x2 1 50 r2.2).bind fun r12 =>
    if (r12.1 : Int) = 0 then
      Mo_bestLetter_27 r12.2
    else
      (Mo_in x3 0 1 r12.2).bind fun r21 =>
      if (r21.1 : Int) = 0 then
        Mo_bestLetter_27 r21.2
      else
        Mo_bestLetter_40 FU a0 x1 x2 x3 (-2) (-2) 0 r21.2
theorem s_Mo_bestLetter_0 {g : Gp} {l : Launch} {D : Nat} (hD : 7 ≤ D) (a0 : Nat) (x1 : Int) (x2 : Int) (x3 : Int) (w : Wd) (r : Int × Wd) (h : Mo_bestLetter_0 a0 x1 x2 x3 w = some r) : Rn g l D 228 0 [(0, .inr (.inr a0)), (1, .inl x1), (2, .inl x2), (3, .inl x3)] [] w (some (.inl r.1)) r.2 := by
  obtain ⟨D, rfl⟩ : ∃ D1, D = D1 + 1 := ⟨D - 1, by omega⟩
  unfold Mo_bestLetter_0 at h
  refine fr_aload_n i228_0 rfl ?_
  refine rn_iload_n i228_1 rfl ?_
  obtain ⟨r2, h2, h⟩ := Option.bind_eq_some_iff.mp h
  obtain ⟨g2, c2⟩ := S_Mo_isHeir a0 x1 w r2 h2
  refine fr_callV (a := a0) (As := [.inl x1]) (st := []) i228_2 (cq185 a0 x1) rfl (Nat.le_of_ble_eq_true rfl) g2 (c2 _ (by omega)) ?_
  show Rn _ _ _ _ _ _ [.inl r2.1] _ _ _
  by_cases c5 : (r2.1 : Int) = 0
  · rw [if_pos c5] at h
    refine rn_if_eq_t i228_5 c5 ?_
    exact rn_sub [] rfl (s_Mo_bestLetter_27 hD r2.2 r h)
  · rw [if_neg c5] at h
    refine rn_if_eq_f i228_5 c5 ?_
    refine rn_iload_n i228_8 rfl ?_
    refine rn_iconst i228_9 ?_
    refine rn_bipush i228_10 ?_
    obtain ⟨r12, h12, h⟩ := Option.bind_eq_some_iff.mp h
    refine fr_callS (nst := 0) (As := [.inl x2, .inl 1, .inl 50]) (st := []) i228_12 (cq183 x2 1 50) rfl (Nat.le_of_ble_eq_true rfl) (S_Mo_in x2 1 50 r2.2 r12 h12 _ (by omega)) ?_
    show Rn _ _ _ _ _ _ [.inl r12.1] _ _ _
    by_cases c15 : (r12.1 : Int) = 0
    · rw [if_pos c15] at h
      refine rn_if_eq_t i228_15 c15 ?_
      exact rn_sub [] rfl (s_Mo_bestLetter_27 hD r12.2 r h)
    · rw [if_neg c15] at h
      refine rn_if_eq_f i228_15 c15 ?_
      refine rn_iload_n i228_18 rfl ?_
      refine rn_iconst i228_19 ?_
      refine rn_iconst i228_20 ?_
      obtain ⟨r21, h21, h⟩ := Option.bind_eq_some_iff.mp h
      refine fr_callS (nst := 0) (As := [.inl x3, .inl 0, .inl 1]) (st := []) i228_21 (cq183 x3 0 1) rfl (Nat.le_of_ble_eq_true rfl) (S_Mo_in x3 0 1 r12.2 r21 h21 _ (by omega)) ?_
      show Rn _ _ _ _ _ _ [.inl r21.1] _ _ _
      by_cases c24 : (r21.1 : Int) = 0
      · rw [if_pos c24] at h
        refine rn_if_ne_f i228_24 c24 ?_
        exact rn_sub [] rfl (s_Mo_bestLetter_27 hD r21.2 r h)
      · rw [if_neg c24] at h
        refine rn_if_ne_t i228_24 c24 ?_
        refine rn_bipush i228_29 ?_
        refine rn_istore (ls1 := [(4, .inl (-2)), (0, .inr (.inr a0)), (1, .inl x1), (2, .inl x2), (3, .inl x3)]) i228_31 rfl ?_
        refine rn_bipush i228_33 ?_
        refine rn_istore (ls1 := [(5, .inl (-2)), (4, .inl (-2)), (0, .inr (.inr a0)), (1, .inl x1), (2, .inl x2), (3, .inl x3)]) i228_35 rfl ?_
        refine rn_iconst i228_37 ?_
        refine rn_istore (ls1 := [(6, .inl 0), (5, .inl (-2)), (4, .inl (-2)), (0, .inr (.inr a0)), (1, .inl x1), (2, .inl x2), (3, .inl x3)]) i228_38 rfl ?_
        exact rn_sub [3, 4, 5, 6, 2, 1, 0] rfl (s_Mo_bestLetter_40 hD FU a0 x1 x2 x3 (-2) (-2) 0 r21.2 r h)
/-- HandHeirsModel.bestLetter(III)I -/
def Mo_bestLetter (a0 : Nat) (x1 : Int) (x2 : Int) (x3 : Int) (w : Wd) : Option (Int × Wd) := gd 12 w a0 (Mo_bestLetter_0 a0 x1 x2 x3 w)
theorem S_Mo_bestLetter {g : Gp} {l : Launch} (a0 : Nat) (x1 : Int) (x2 : Int) (x3 : Int) (w : Wd) (r : Int × Wd) (h : Mo_bestLetter a0 x1 x2 x3 w = some r) : (wsh w a0).1 = 12 ∧ ∀ D, 7 ≤ D → Rn g l D 228 0 [(0, .inr (.inr a0)), (1, .inl x1), (2, .inl x2), (3, .inl x3)] [] w (some (.inl r.1)) r.2 := by
  obtain ⟨hg, h⟩ := gd_some h
  exact ⟨hg, fun D hD => rn_sub [0, 1, 2, 3] rfl (s_Mo_bestLetter_0 hD a0 x1 x2 x3 w r h)⟩
def Mo_reign_120 (k26 : Nat → Int → Int → Int → Int → Int → Int → Wd → Option (Int × Wd)) (a0 : Nat) (x1 : Int) (x2 : Int) (x3 : Int) (x4 : Int) (x5 : Int) (x6 : Int) (w : Wd) : Option (Int × Wd) :=
  k26 a0 x1 x2 x3 x4 x5 (w32 (x6 + 1)) w
theorem s_Mo_reign_120 {g : Gp} {l : Launch} {D : Nat} (hD : 1 ≤ D) (k26 : Nat → Int → Int → Int → Int → Int → Int → Wd → Option (Int × Wd)) (hk26 : ∀ (a0 : Nat) (x1 : Int) (x2 : Int) (x3 : Int) (x4 : Int) (x5 : Int) (x6 : Int) (w : Wd) (r : Int × Wd), k26 a0 x1 x2 x3 x4 x5 x6 w = some r → Rn g l D 229 26 [(0, .inr (.inr a0)), (1, .inl x1), (2, .inl x2), (3, .inl x3), (4, .inl x4), (5, .inl x5), (6, .inl x6)] [] w (some (.inl r.1)) r.2) (a0 : Nat) (x1 : Int) (x2 : Int) (x3 : Int) (x4 : Int) (x5 : Int) (x6 : Int) (w : Wd) (r : Int × Wd) (h : Mo_reign_120 k26 a0 x1 x2 x3 x4 x5 x6 w = some r) : Rn g l D 229 120 [(0, .inr (.inr a0)), (1, .inl x1), (2, .inl x2), (3, .inl x3), (4, .inl x4), (5, .inl x5), (6, .inl x6)] [] w (some (.inl r.1)) r.2 := by
  unfold Mo_reign_120 at h
  refine rn_iinc (ls1 := [(6, .inl (w32 (x6 + 1))), (0, .inr (.inr a0)), (1, .inl x1), (2, .inl x2), (3, .inl x3), (4, .inl x4), (5, .inl x5)]) i229_120 rfl rfl ?_
  refine rn_goto i229_123 ?_
  exact rn_sub [1, 2, 3, 4, 5, 6, 0] rfl (hk26 a0 x1 x2 x3 x4 x5 (w32 (x6 + 1)) w r h)
def Mo_reign_93 (k26 : Nat → Int → Int → Int → Int → Int → Int → Wd → Option (Int × Wd)) (a0 : Nat) (x1 : Int) (x2 : Int) (x3 : Int) (x4 : Int) (x6 : Int) (x7 : Int) (s0 : Int) (w : Wd) : Option (Int × Wd) :=
  if (x4 : Int) < s0 then
    Mo_reign_120 k26 a0 x1 x7 (w32 ((w32 (x6 - s0)) + 1)) s0 s0 x6 w
  else
    Mo_reign_120 k26 a0 x1 x2 x3 x4 s0 x6 w
theorem s_Mo_reign_93 {g : Gp} {l : Launch} {D : Nat} (hD : 1 ≤ D) (k26 : Nat → Int → Int → Int → Int → Int → Int → Wd → Option (Int × Wd)) (hk26 : ∀ (a0 : Nat) (x1 : Int) (x2 : Int) (x3 : Int) (x4 : Int) (x5 : Int) (x6 : Int) (w : Wd) (r : Int × Wd), k26 a0 x1 x2 x3 x4 x5 x6 w = some r → Rn g l D 229 26 [(0, .inr (.inr a0)), (1, .inl x1), (2, .inl x2), (3, .inl x3), (4, .inl x4), (5, .inl x5), (6, .inl x6)] [] w (some (.inl r.1)) r.2) (a0 : Nat) (x1 : Int) (x2 : Int) (x3 : Int) (x4 : Int) (x6 : Int) (x7 : Int) (s0 : Int) (w : Wd) (r : Int × Wd) (h : Mo_reign_93 k26 a0 x1 x2 x3 x4 x6 x7 s0 w = some r) : Rn g l D 229 93 [(0, .inr (.inr a0)), (1, .inl x1), (2, .inl x2), (3, .inl x3), (4, .inl x4), (6, .inl x6), (7, .inl x7)] [.inl s0] w (some (.inl r.1)) r.2 := by
  unfold Mo_reign_93 at h
  refine rn_istore (ls1 := [(5, .inl s0), (0, .inr (.inr a0)), (1, .inl x1), (2, .inl x2), (3, .inl x3), (4, .inl x4), (6, .inl x6), (7, .inl x7)]) i229_93 rfl ?_
  refine rn_iload i229_95 rfl ?_
  refine rn_iload i229_97 rfl ?_
  by_cases c99 : (x4 : Int) < s0
  · rw [if_pos c99] at h
    refine rn_icmp_gt_t i229_99 c99 ?_
    refine rn_iload i229_105 rfl ?_
    refine rn_istore (ls1 := [(4, .inl s0), (5, .inl s0), (0, .inr (.inr a0)), (1, .inl x1), (2, .inl x2), (3, .inl x3), (6, .inl x6), (7, .inl x7)]) i229_107 rfl ?_
    refine rn_iload i229_109 rfl ?_
    refine rn_iload i229_111 rfl ?_
    refine rn_isub i229_113 ?_
    refine rn_iconst i229_114 ?_
    refine rn_iadd i229_115 ?_
    refine rn_istore_n (ls1 := [(3, .inl (w32 ((w32 (x6 - s0)) + 1))), (4, .inl s0), (5, .inl s0), (0, .inr (.inr a0)), (1, .inl x1), (2, .inl x2), (6, .inl x6), (7, .inl x7)]) i229_116 rfl ?_
    refine rn_iload i229_117 rfl ?_
    refine rn_istore_n (ls1 := [(2, .inl x7), (3, .inl (w32 ((w32 (x6 - s0)) + 1))), (4, .inl s0), (5, .inl s0), (0, .inr (.inr a0)), (1, .inl x1), (6, .inl x6), (7, .inl x7)]) i229_119 rfl ?_
    exact rn_sub [4, 5, 0, 1, 2, 3, 6] rfl (s_Mo_reign_120 hD k26 hk26 a0 x1 x7 (w32 ((w32 (x6 - s0)) + 1)) s0 s0 x6 w r h)
  · rw [if_neg c99] at h
    refine rn_icmp_gt_f i229_99 c99 ?_
    refine rn_goto i229_102 ?_
    exact rn_sub [1, 2, 3, 4, 5, 0, 6] rfl (s_Mo_reign_120 hD k26 hk26 a0 x1 x2 x3 x4 s0 x6 w r h)
def Mo_reign_92 (k26 : Nat → Int → Int → Int → Int → Int → Int → Wd → Option (Int × Wd)) (a0 : Nat) (x1 : Int) (x2 : Int) (x3 : Int) (x4 : Int) (x6 : Int) (x7 : Int) (w : Wd) : Option (Int × Wd) :=
  Mo_reign_93 k26 a0 x1 x2 x3 x4 x6 x7 1 w
theorem s_Mo_reign_92 {g : Gp} {l : Launch} {D : Nat} (hD : 1 ≤ D) (k26 : Nat → Int → Int → Int → Int → Int → Int → Wd → Option (Int × Wd)) (hk26 : ∀ (a0 : Nat) (x1 : Int) (x2 : Int) (x3 : Int) (x4 : Int) (x5 : Int) (x6 : Int) (w : Wd) (r : Int × Wd), k26 a0 x1 x2 x3 x4 x5 x6 w = some r → Rn g l D 229 26 [(0, .inr (.inr a0)), (1, .inl x1), (2, .inl x2), (3, .inl x3), (4, .inl x4), (5, .inl x5), (6, .inl x6)] [] w (some (.inl r.1)) r.2) (a0 : Nat) (x1 : Int) (x2 : Int) (x3 : Int) (x4 : Int) (x6 : Int) (x7 : Int) (w : Wd) (r : Int × Wd) (h : Mo_reign_92 k26 a0 x1 x2 x3 x4 x6 x7 w = some r) : Rn g l D 229 92 [(0, .inr (.inr a0)), (1, .inl x1), (2, .inl x2), (3, .inl x3), (4, .inl x4), (6, .inl x6), (7, .inl x7)] [] w (some (.inl r.1)) r.2 := by
  unfold Mo_reign_92 at h
  refine rn_iconst i229_92 ?_
  exact rn_sub [0, 1, 2, 3, 4, 5, 6] rfl (s_Mo_reign_93 hD k26 hk26 a0 x1 x2 x3 x4 x6 x7 1 w r h)
def Mo_reign_152 (s0 : Int) (w : Wd) : Option (Int × Wd) :=
  some (s0, w)
theorem s_Mo_reign_152 {g : Gp} {l : Launch} {D : Nat} (hD : 1 ≤ D) (s0 : Int) (w : Wd) (r : Int × Wd) (h : Mo_reign_152 s0 w = some r) : Rn g l D 229 152 [] [.inl s0] w (some (.inl r.1)) r.2 := by
  unfold Mo_reign_152 at h
  obtain rfl := Option.some.inj h
  exact rn_retI i229_152 mr229
def Mo_reign_126 (x1 : Int) (x2 : Int) (x3 : Int) (x4 : Int) (w : Wd) : Option (Int × Wd) :=
  if (0 : Int) ≤ x2 then
    if (x1 : Int) = 0 then
      Mo_reign_152 x4 w
    else
      if (x1 : Int) = 1 then
        Mo_reign_152 x3 w
      else
        Mo_reign_152 x2 w
  else
    some ((-2), w)
theorem s_Mo_reign_126 {g : Gp} {l : Launch} {D : Nat} (hD : 1 ≤ D) (x1 : Int) (x2 : Int) (x3 : Int) (x4 : Int) (w : Wd) (r : Int × Wd) (h : Mo_reign_126 x1 x2 x3 x4 w = some r) : Rn g l D 229 126 [(1, .inl x1), (2, .inl x2), (3, .inl x3), (4, .inl x4)] [] w (some (.inl r.1)) r.2 := by
  unfold Mo_reign_126 at h
  refine rn_iload_n i229_126 rfl ?_
  by_cases c127 : (0 : Int) ≤ x2
  · rw [if_pos c127] at h
    refine rn_if_ge_t i229_127 c127 ?_
    refine rn_iload_n i229_133 rfl ?_
    by_cases c134 : (x1 : Int) = 0
    · rw [if_pos c134] at h
      refine rn_if_ne_f i229_134 c134 ?_
      refine rn_iload i229_137 rfl ?_
      refine rn_goto i229_139 ?_
      exact rn_sub [] rfl (s_Mo_reign_152 hD x4 w r h)
    · rw [if_neg c134] at h
      refine rn_if_ne_t i229_134 c134 ?_
      refine rn_iload_n i229_142 rfl ?_
      refine rn_iconst i229_143 ?_
      by_cases c144 : (x1 : Int) = 1
      · rw [if_pos c144] at h
        refine rn_icmp_ne_f i229_144 c144 ?_
        refine rn_iload_n i229_147 rfl ?_
        refine rn_goto i229_148 ?_
        exact rn_sub [] rfl (s_Mo_reign_152 hD x3 w r h)
      · rw [if_neg c144] at h
        refine rn_icmp_ne_t i229_144 c144 ?_
        refine rn_iload_n i229_151 rfl ?_
        exact rn_sub [] rfl (s_Mo_reign_152 hD x2 w r h)
  · rw [if_neg c127] at h
    refine rn_if_ge_f i229_127 c127 ?_
    refine rn_bipush i229_130 ?_
    obtain rfl := Option.some.inj h
    exact rn_retI i229_132 mr229
def Mo_reign_26 : Nat → Nat → Int → Int → Int → Int → Int → Int → Wd → Option (Int × Wd)
  | 0, _, _, _, _, _, _, _, _ => none
  | n + 1, a0, x1, x2, x3, x4, x5, x6, w =>
    (fgR w a0 12 49).bind fun v29 =>
    (rdI w v29 45).bind fun v34 =>
    if (v34 : Int) ≤ x6 then
      Mo_reign_126 x1 x2 x3 x4 w
    else
      (fgR w a0 12 49).bind fun v39 =>
      (rdI w v39 (w32 (66 + (w32 (7 * x6))))).bind fun v50 =>
      if (0 : Int) ≤ v50 then
        if (x6 : Int) ≤ 0 then
          Mo_reign_92 (Mo_reign_26 n) a0 x1 x2 x3 x4 x6 v50 w
        else
          (fgR w a0 12 49).bind fun v68 =>
          (rdI w v68 (w32 (59 + (w32 (7 * x6))))).bind fun v79 =>
          if (v79 : Int) = v50 then
            Mo_reign_93 (Mo_reign_26 n) a0 x1 x2 x3 x4 x6 v50 (w32 (x5 + 1)) w
          else
            Mo_reign_92 (Mo_reign_26 n) a0 x1 x2 x3 x4 x6 v50 w
      else
        Mo_reign_93 (Mo_reign_26 n) a0 x1 x2 x3 x4 x6 v50 0 w
theorem s_Mo_reign_26 {g : Gp} {l : Launch} {D : Nat} (hD : 1 ≤ D) : ∀ (n : Nat) (a0 : Nat) (x1 : Int) (x2 : Int) (x3 : Int) (x4 : Int) (x5 : Int) (x6 : Int) (w : Wd) (r : Int × Wd), Mo_reign_26 n a0 x1 x2 x3 x4 x5 x6 w = some r → Rn g l D 229 26 [(0, .inr (.inr a0)), (1, .inl x1), (2, .inl x2), (3, .inl x3), (4, .inl x4), (5, .inl x5), (6, .inl x6)] [] w (some (.inl r.1)) r.2 := by
  intro n
  induction n with
  | zero => intro a0 x1 x2 x3 x4 x5 x6 w r h; cases (show (none : Option (Int × Wd)) = some r from h)
  | succ n ih =>
    intro a0 x1 x2 x3 x4 x5 x6 w r h
    unfold Mo_reign_26 at h
    refine rn_iload i229_26 rfl ?_
    refine fr_aload_n i229_28 rfl ?_
    obtain ⟨v29, h29, h⟩ := Option.bind_eq_some_iff.mp h
    refine fr_gR (k := 49) i229_29 tf12_49 h29 ?_
    refine rn_bipush i229_32 ?_
    obtain ⟨v34, h34, h⟩ := Option.bind_eq_some_iff.mp h
    refine rn_iald i229_34 h34 ?_
    by_cases c35 : (v34 : Int) ≤ x6
    · rw [if_pos c35] at h
      refine rn_icmp_ge_t i229_35 c35 ?_
      exact rn_sub [1, 2, 3, 4] rfl (s_Mo_reign_126 hD x1 x2 x3 x4 w r h)
    · rw [if_neg c35] at h
      refine rn_icmp_ge_f i229_35 c35 ?_
      refine fr_aload_n i229_38 rfl ?_
      obtain ⟨v39, h39, h⟩ := Option.bind_eq_some_iff.mp h
      refine fr_gR (k := 49) i229_39 tf12_49 h39 ?_
      refine rn_bipush i229_42 ?_
      refine rn_bipush i229_44 ?_
      refine rn_iload i229_46 rfl ?_
      refine rn_imul i229_48 ?_
      refine rn_iadd i229_49 ?_
      obtain ⟨v50, h50, h⟩ := Option.bind_eq_some_iff.mp h
      refine rn_iald i229_50 h50 ?_
      refine rn_istore (ls1 := [(7, .inl v50), (0, .inr (.inr a0)), (1, .inl x1), (2, .inl x2), (3, .inl x3), (4, .inl x4), (5, .inl x5), (6, .inl x6)]) i229_51 rfl ?_
      refine rn_iload i229_53 rfl ?_
      by_cases c55 : (0 : Int) ≤ v50
      · rw [if_pos c55] at h
        refine rn_if_ge_t i229_55 c55 ?_
        refine rn_iload i229_62 rfl ?_
        by_cases c64 : (x6 : Int) ≤ 0
        · rw [if_pos c64] at h
          refine rn_if_le_t i229_64 c64 ?_
          exact rn_sub [1, 2, 3, 4, 5, 7, 0] rfl (s_Mo_reign_92 hD (Mo_reign_26 n) ih a0 x1 x2 x3 x4 x6 v50 w r h)
        · rw [if_neg c64] at h
          refine rn_if_le_f i229_64 c64 ?_
          refine fr_aload_n i229_67 rfl ?_
          obtain ⟨v68, h68, h⟩ := Option.bind_eq_some_iff.mp h
          refine fr_gR (k := 49) i229_68 tf12_49 h68 ?_
          refine rn_bipush i229_71 ?_
          refine rn_bipush i229_73 ?_
          refine rn_iload i229_75 rfl ?_
          refine rn_imul i229_77 ?_
          refine rn_iadd i229_78 ?_
          obtain ⟨v79, h79, h⟩ := Option.bind_eq_some_iff.mp h
          refine rn_iald i229_79 h79 ?_
          refine rn_iload i229_80 rfl ?_
          by_cases c82 : (v79 : Int) = v50
          · rw [if_pos c82] at h
            refine rn_icmp_ne_f i229_82 c82 ?_
            refine rn_iload i229_85 rfl ?_
            refine rn_iconst i229_87 ?_
            refine rn_iadd i229_88 ?_
            refine rn_goto i229_89 ?_
            exact rn_sub [1, 2, 3, 4, 5, 7, 0] rfl (s_Mo_reign_93 hD (Mo_reign_26 n) ih a0 x1 x2 x3 x4 x6 v50 (w32 (x5 + 1)) w r h)
          · rw [if_neg c82] at h
            refine rn_icmp_ne_t i229_82 c82 ?_
            exact rn_sub [1, 2, 3, 4, 5, 7, 0] rfl (s_Mo_reign_92 hD (Mo_reign_26 n) ih a0 x1 x2 x3 x4 x6 v50 w r h)
      · rw [if_neg c55] at h
        refine rn_if_ge_f i229_55 c55 ?_
        refine rn_iconst i229_58 ?_
        refine rn_goto i229_59 ?_
        exact rn_sub [1, 2, 3, 4, 5, 7, 0] rfl (s_Mo_reign_93 hD (Mo_reign_26 n) ih a0 x1 x2 x3 x4 x6 v50 0 w r h)
def Mo_reign_0 (a0 : Nat) (x1 : Int) (w : Wd) : Option (Int × Wd) :=
  (Mo_in x1 0 2 w).bind fun r3 =>
  if (r3.1 : Int) = 0 then
    some ((-1), r3.2)
  else
    Mo_reign_26 FU a0 x1 (-2) (-2) 0 0 0 r3.2
theorem s_Mo_reign_0 {g : Gp} {l : Launch} {D : Nat} (hD : 1 ≤ D) (a0 : Nat) (x1 : Int) (w : Wd) (r : Int × Wd) (h : Mo_reign_0 a0 x1 w = some r) : Rn g l D 229 0 [(0, .inr (.inr a0)), (1, .inl x1)] [] w (some (.inl r.1)) r.2 := by
  obtain ⟨D, rfl⟩ : ∃ D1, D = D1 + 1 := ⟨D - 1, by omega⟩
  unfold Mo_reign_0 at h
  refine rn_iload_n i229_0 rfl ?_
  refine rn_iconst i229_1 ?_
  refine rn_iconst i229_2 ?_
  obtain ⟨r3, h3, h⟩ := Option.bind_eq_some_iff.mp h
  refine fr_callS (nst := 0) (As := [.inl x1, .inl 0, .inl 2]) (st := []) i229_3 (cq183 x1 0 2) rfl (Nat.le_of_ble_eq_true rfl) (S_Mo_in x1 0 2 w r3 h3 _ (by omega)) ?_
  show Rn _ _ _ _ _ _ [.inl r3.1] _ _ _
  by_cases c6 : (r3.1 : Int) = 0
  · rw [if_pos c6] at h
    refine rn_if_ne_f i229_6 c6 ?_
    refine rn_iconst i229_9 ?_
    obtain rfl := Option.some.inj h
    exact rn_retI i229_10 mr229
  · rw [if_neg c6] at h
    refine rn_if_ne_t i229_6 c6 ?_
    refine rn_bipush i229_11 ?_
    refine rn_istore_n (ls1 := [(2, .inl (-2)), (0, .inr (.inr a0)), (1, .inl x1)]) i229_13 rfl ?_
    refine rn_bipush i229_14 ?_
    refine rn_istore_n (ls1 := [(3, .inl (-2)), (2, .inl (-2)), (0, .inr (.inr a0)), (1, .inl x1)]) i229_16 rfl ?_
    refine rn_iconst i229_17 ?_
    refine rn_istore (ls1 := [(4, .inl 0), (3, .inl (-2)), (2, .inl (-2)), (0, .inr (.inr a0)), (1, .inl x1)]) i229_18 rfl ?_
    refine rn_iconst i229_20 ?_
    refine rn_istore (ls1 := [(5, .inl 0), (4, .inl 0), (3, .inl (-2)), (2, .inl (-2)), (0, .inr (.inr a0)), (1, .inl x1)]) i229_21 rfl ?_
    refine rn_iconst i229_23 ?_
    refine rn_istore (ls1 := [(6, .inl 0), (5, .inl 0), (4, .inl 0), (3, .inl (-2)), (2, .inl (-2)), (0, .inr (.inr a0)), (1, .inl x1)]) i229_24 rfl ?_
    exact rn_sub [5, 6, 4, 3, 2, 1, 0] rfl (s_Mo_reign_26 hD FU a0 x1 (-2) (-2) 0 0 0 r3.2 r h)
/-- HandHeirsModel.reign(I)I -/
def Mo_reign (a0 : Nat) (x1 : Int) (w : Wd) : Option (Int × Wd) := gd 12 w a0 (Mo_reign_0 a0 x1 w)
theorem S_Mo_reign {g : Gp} {l : Launch} (a0 : Nat) (x1 : Int) (w : Wd) (r : Int × Wd) (h : Mo_reign a0 x1 w = some r) : (wsh w a0).1 = 12 ∧ ∀ D, 1 ≤ D → Rn g l D 229 0 [(0, .inr (.inr a0)), (1, .inl x1)] [] w (some (.inl r.1)) r.2 := by
  obtain ⟨hg, h⟩ := gd_some h
  exact ⟨hg, fun D hD => rn_sub [0, 1] rfl (s_Mo_reign_0 hD a0 x1 w r h)⟩
def Mo_handIn_34 (s0 : Int) (w : Wd) : Option (Int × Wd) :=
  some (s0, w)
theorem s_Mo_handIn_34 {g : Gp} {l : Launch} {D : Nat} (hD : 0 ≤ D) (s0 : Int) (w : Wd) (r : Int × Wd) (h : Mo_handIn_34 s0 w = some r) : Rn g l D 231 34 [] [.inl s0] w (some (.inl r.1)) r.2 := by
  unfold Mo_handIn_34 at h
  obtain rfl := Option.some.inj h
  exact rn_retI i231_34 mr231
def Mo_handIn_0 (a0 : Nat) (x1 : Int) (x2 : Int) (w : Wd) : Option (Int × Wd) :=
  (fgR w a0 12 49).bind fun v2 =>
  (rdI w v2 45).bind fun v7 =>
  if (v7 : Int) ≤ x1 then
    (fgR w a0 12 49).bind fun v29 =>
    (rdI w v29 x2).bind fun v33 =>
    Mo_handIn_34 v33 w
  else
    (fgR w a0 12 49).bind fun v12 =>
    (rdI w v12 (w32 ((w32 (60 + (w32 (7 * x1)))) + x2))).bind fun v24 =>
    Mo_handIn_34 v24 w
theorem s_Mo_handIn_0 {g : Gp} {l : Launch} {D : Nat} (hD : 0 ≤ D) (a0 : Nat) (x1 : Int) (x2 : Int) (w : Wd) (r : Int × Wd) (h : Mo_handIn_0 a0 x1 x2 w = some r) : Rn g l D 231 0 [(0, .inr (.inr a0)), (1, .inl x1), (2, .inl x2)] [] w (some (.inl r.1)) r.2 := by
  unfold Mo_handIn_0 at h
  refine rn_iload_n i231_0 rfl ?_
  refine fr_aload_n i231_1 rfl ?_
  obtain ⟨v2, h2, h⟩ := Option.bind_eq_some_iff.mp h
  refine fr_gR (k := 49) i231_2 tf12_49 h2 ?_
  refine rn_bipush i231_5 ?_
  obtain ⟨v7, h7, h⟩ := Option.bind_eq_some_iff.mp h
  refine rn_iald i231_7 h7 ?_
  by_cases c8 : (v7 : Int) ≤ x1
  · rw [if_pos c8] at h
    refine rn_icmp_ge_t i231_8 c8 ?_
    refine fr_aload_n i231_28 rfl ?_
    obtain ⟨v29, h29, h⟩ := Option.bind_eq_some_iff.mp h
    refine fr_gR (k := 49) i231_29 tf12_49 h29 ?_
    refine rn_iload_n i231_32 rfl ?_
    obtain ⟨v33, h33, h⟩ := Option.bind_eq_some_iff.mp h
    refine rn_iald i231_33 h33 ?_
    exact rn_sub [] rfl (s_Mo_handIn_34 hD v33 w r h)
  · rw [if_neg c8] at h
    refine rn_icmp_ge_f i231_8 c8 ?_
    refine fr_aload_n i231_11 rfl ?_
    obtain ⟨v12, h12, h⟩ := Option.bind_eq_some_iff.mp h
    refine fr_gR (k := 49) i231_12 tf12_49 h12 ?_
    refine rn_bipush i231_15 ?_
    refine rn_bipush i231_17 ?_
    refine rn_iload_n i231_19 rfl ?_
    refine rn_imul i231_20 ?_
    refine rn_iadd i231_21 ?_
    refine rn_iload_n i231_22 rfl ?_
    refine rn_iadd i231_23 ?_
    obtain ⟨v24, h24, h⟩ := Option.bind_eq_some_iff.mp h
    refine rn_iald i231_24 h24 ?_
    refine rn_goto i231_25 ?_
    exact rn_sub [] rfl (s_Mo_handIn_34 hD v24 w r h)
/-- HandHeirsModel.handIn(II)I -/
def Mo_handIn (a0 : Nat) (x1 : Int) (x2 : Int) (w : Wd) : Option (Int × Wd) := gd 12 w a0 (Mo_handIn_0 a0 x1 x2 w)
theorem S_Mo_handIn {g : Gp} {l : Launch} (a0 : Nat) (x1 : Int) (x2 : Int) (w : Wd) (r : Int × Wd) (h : Mo_handIn a0 x1 x2 w = some r) : (wsh w a0).1 = 12 ∧ ∀ D, 0 ≤ D → Rn g l D 231 0 [(0, .inr (.inr a0)), (1, .inl x1), (2, .inl x2)] [] w (some (.inl r.1)) r.2 := by
  obtain ⟨hg, h⟩ := gd_some h
  exact ⟨hg, fun D hD => rn_sub [0, 1, 2] rfl (s_Mo_handIn_0 hD a0 x1 x2 w r h)⟩
def Mo_copiedFrom_5 : Nat → Nat → Int → Int → Int → Int → Wd → Option (Int × Wd)
  | 0, _, _, _, _, _, _ => none
  | n + 1, a0, x1, x2, x3, x4, w =>
    (fgR w a0 12 23).bind fun v8 =>
    (fgI w a0 12 18).bind fun v12 =>
    (rdI w v8 v12).bind fun v15 =>
    if (v15 : Int) ≤ x4 then
      some (x3, w)
    else
      (fgR w a0 12 49).bind fun v21 =>
      (rdI w v21 (w32 ((w32 (6 + (w32 (6 * x1)))) + x4))).bind fun v34 =>
      (Mo_handIn a0 x2 x4 w).bind fun r39 =>
      (Mo_apart v34 (r39.1) r39.2).bind fun r42 =>
      Mo_copiedFrom_5 n a0 x1 x2 (w32 (x3 + r42.1)) (w32 (x4 + 1)) r42.2
theorem s_Mo_copiedFrom_5 {g : Gp} {l : Launch} {D : Nat} (hD : 1 ≤ D) : ∀ (n : Nat) (a0 : Nat) (x1 : Int) (x2 : Int) (x3 : Int) (x4 : Int) (w : Wd) (r : Int × Wd), Mo_copiedFrom_5 n a0 x1 x2 x3 x4 w = some r → Rn g l D 230 5 [(0, .inr (.inr a0)), (1, .inl x1), (2, .inl x2), (3, .inl x3), (4, .inl x4)] [] w (some (.inl r.1)) r.2 := by
  obtain ⟨D, rfl⟩ : ∃ D1, D = D1 + 1 := ⟨D - 1, by omega⟩
  intro n
  induction n with
  | zero => intro a0 x1 x2 x3 x4 w r h; cases (show (none : Option (Int × Wd)) = some r from h)
  | succ n ih =>
    intro a0 x1 x2 x3 x4 w r h
    unfold Mo_copiedFrom_5 at h
    refine rn_iload i230_5 rfl ?_
    refine fr_aload_n i230_7 rfl ?_
    obtain ⟨v8, h8, h⟩ := Option.bind_eq_some_iff.mp h
    refine fr_gR (k := 23) i230_8 tf12_23 h8 ?_
    refine fr_aload_n i230_11 rfl ?_
    obtain ⟨v12, h12, h⟩ := Option.bind_eq_some_iff.mp h
    refine fr_gI (k := 18) i230_12 tf12_18 h12 ?_
    obtain ⟨v15, h15, h⟩ := Option.bind_eq_some_iff.mp h
    refine rn_iald i230_15 h15 ?_
    by_cases c16 : (v15 : Int) ≤ x4
    · rw [if_pos c16] at h
      refine rn_icmp_ge_t i230_16 c16 ?_
      refine rn_iload_n i230_53 rfl ?_
      obtain rfl := Option.some.inj h
      exact rn_retI i230_54 mr230
    · rw [if_neg c16] at h
      refine rn_icmp_ge_f i230_16 c16 ?_
      refine rn_iload_n i230_19 rfl ?_
      refine fr_aload_n i230_20 rfl ?_
      obtain ⟨v21, h21, h⟩ := Option.bind_eq_some_iff.mp h
      refine fr_gR (k := 49) i230_21 tf12_49 h21 ?_
      refine rn_bipush i230_24 ?_
      refine rn_bipush i230_26 ?_
      refine rn_iload_n i230_28 rfl ?_
      refine rn_imul i230_29 ?_
      refine rn_iadd i230_30 ?_
      refine rn_iload i230_31 rfl ?_
      refine rn_iadd i230_33 ?_
      obtain ⟨v34, h34, h⟩ := Option.bind_eq_some_iff.mp h
      refine rn_iald i230_34 h34 ?_
      refine fr_aload_n i230_35 rfl ?_
      refine rn_iload_n i230_36 rfl ?_
      refine rn_iload i230_37 rfl ?_
      obtain ⟨r39, h39, h⟩ := Option.bind_eq_some_iff.mp h
      obtain ⟨g39, c39⟩ := S_Mo_handIn a0 x2 x4 w r39 h39
      refine fr_callV (a := a0) (As := [.inl x2, .inl x4]) (st := [.inl v34, .inl x3]) i230_39 (cq231 a0 x2 x4) rfl (Nat.le_of_ble_eq_true rfl) g39 (c39 _ (by omega)) ?_
      show Rn _ _ _ _ _ _ [.inl r39.1, .inl v34, .inl x3] _ _ _
      obtain ⟨r42, h42, h⟩ := Option.bind_eq_some_iff.mp h
      refine fr_callS (nst := 0) (As := [.inl v34, .inl r39.1]) (st := [.inl x3]) i230_42 (cq193 v34 (r39.1)) rfl (Nat.le_of_ble_eq_true rfl) (S_Mo_apart v34 (r39.1) r39.2 r42 h42 _ (by omega)) ?_
      show Rn _ _ _ _ _ _ [.inl r42.1, .inl x3] _ _ _
      refine rn_iadd i230_45 ?_
      refine rn_istore_n (ls1 := [(3, .inl (w32 (x3 + r42.1))), (0, .inr (.inr a0)), (1, .inl x1), (2, .inl x2), (4, .inl x4)]) i230_46 rfl ?_
      refine rn_iinc (ls1 := [(4, .inl (w32 (x4 + 1))), (3, .inl (w32 (x3 + r42.1))), (0, .inr (.inr a0)), (1, .inl x1), (2, .inl x2)]) i230_47 rfl rfl ?_
      refine rn_goto i230_50 ?_
      exact rn_sub [2, 3, 4, 1, 0] rfl (ih a0 x1 x2 (w32 (x3 + r42.1)) (w32 (x4 + 1)) r42.2 r h)
def Mo_copiedFrom_0 (a0 : Nat) (x1 : Int) (x2 : Int) (w : Wd) : Option (Int × Wd) :=
  Mo_copiedFrom_5 FU a0 x1 x2 0 0 w
theorem s_Mo_copiedFrom_0 {g : Gp} {l : Launch} {D : Nat} (hD : 1 ≤ D) (a0 : Nat) (x1 : Int) (x2 : Int) (w : Wd) (r : Int × Wd) (h : Mo_copiedFrom_0 a0 x1 x2 w = some r) : Rn g l D 230 0 [(0, .inr (.inr a0)), (1, .inl x1), (2, .inl x2)] [] w (some (.inl r.1)) r.2 := by
  unfold Mo_copiedFrom_0 at h
  refine rn_iconst i230_0 ?_
  refine rn_istore_n (ls1 := [(3, .inl 0), (0, .inr (.inr a0)), (1, .inl x1), (2, .inl x2)]) i230_1 rfl ?_
  refine rn_iconst i230_2 ?_
  refine rn_istore (ls1 := [(4, .inl 0), (3, .inl 0), (0, .inr (.inr a0)), (1, .inl x1), (2, .inl x2)]) i230_3 rfl ?_
  exact rn_sub [2, 3, 4, 1, 0] rfl (s_Mo_copiedFrom_5 hD FU a0 x1 x2 0 0 w r h)
/-- HandHeirsModel.copiedFrom(II)I -/
def Mo_copiedFrom (a0 : Nat) (x1 : Int) (x2 : Int) (w : Wd) : Option (Int × Wd) := gd 12 w a0 (Mo_copiedFrom_0 a0 x1 x2 w)
theorem S_Mo_copiedFrom {g : Gp} {l : Launch} (a0 : Nat) (x1 : Int) (x2 : Int) (w : Wd) (r : Int × Wd) (h : Mo_copiedFrom a0 x1 x2 w = some r) : (wsh w a0).1 = 12 ∧ ∀ D, 1 ≤ D → Rn g l D 230 0 [(0, .inr (.inr a0)), (1, .inl x1), (2, .inl x2)] [] w (some (.inl r.1)) r.2 := by
  obtain ⟨hg, h⟩ := gd_some h
  exact ⟨hg, fun D hD => rn_sub [0, 1, 2] rfl (s_Mo_copiedFrom_0 hD a0 x1 x2 w r h)⟩
def Mo_copied_17 (w : Wd) : Option (Int × Wd) :=
  some ((-1), w)
theorem s_Mo_copied_17 {g : Gp} {l : Launch} {D : Nat} (hD : 2 ≤ D) (w : Wd) (r : Int × Wd) (h : Mo_copied_17 w = some r) : Rn g l D 232 17 [] [] w (some (.inl r.1)) r.2 := by
  unfold Mo_copied_17 at h
  refine rn_iconst i232_17 ?_
  obtain rfl := Option.some.inj h
  exact rn_retI i232_18 mr232
def Mo_copied_55 (k24 : Nat → Int → Int → Int → Int → Wd → Option (Int × Wd)) (a0 : Nat) (x1 : Int) (x2 : Int) (x3 : Int) (x4 : Int) (w : Wd) : Option (Int × Wd) :=
  k24 a0 x1 x2 x3 (w32 (x4 + 1)) w
theorem s_Mo_copied_55 {g : Gp} {l : Launch} {D : Nat} (hD : 2 ≤ D) (k24 : Nat → Int → Int → Int → Int → Wd → Option (Int × Wd)) (hk24 : ∀ (a0 : Nat) (x1 : Int) (x2 : Int) (x3 : Int) (x4 : Int) (w : Wd) (r : Int × Wd), k24 a0 x1 x2 x3 x4 w = some r → Rn g l D 232 24 [(0, .inr (.inr a0)), (1, .inl x1), (2, .inl x2), (3, .inl x3), (4, .inl x4)] [] w (some (.inl r.1)) r.2) (a0 : Nat) (x1 : Int) (x2 : Int) (x3 : Int) (x4 : Int) (w : Wd) (r : Int × Wd) (h : Mo_copied_55 k24 a0 x1 x2 x3 x4 w = some r) : Rn g l D 232 55 [(0, .inr (.inr a0)), (1, .inl x1), (2, .inl x2), (3, .inl x3), (4, .inl x4)] [] w (some (.inl r.1)) r.2 := by
  unfold Mo_copied_55 at h
  refine rn_iinc (ls1 := [(4, .inl (w32 (x4 + 1))), (0, .inr (.inr a0)), (1, .inl x1), (2, .inl x2), (3, .inl x3)]) i232_55 rfl rfl ?_
  refine rn_goto i232_58 ?_
  exact rn_sub [1, 2, 3, 4, 0] rfl (hk24 a0 x1 x2 x3 (w32 (x4 + 1)) w r h)
def Mo_copied_97 (s0 : Int) (w : Wd) : Option (Int × Wd) :=
  some (s0, w)
theorem s_Mo_copied_97 {g : Gp} {l : Launch} {D : Nat} (hD : 2 ≤ D) (s0 : Int) (w : Wd) (r : Int × Wd) (h : Mo_copied_97 s0 w = some r) : Rn g l D 232 97 [] [.inl s0] w (some (.inl r.1)) r.2 := by
  unfold Mo_copied_97 at h
  obtain rfl := Option.some.inj h
  exact rn_retI i232_97 mr232
def Mo_copied_61 (a0 : Nat) (x1 : Int) (x2 : Int) (x3 : Int) (w : Wd) : Option (Int × Wd) :=
  if (x2 : Int) = 1 then
    (Mo_copiedFrom a0 x1 x3 w).bind fun r69 =>
    Mo_copied_97 r69.1 r69.2
  else
    (fgR w a0 12 49).bind fun v77 =>
    (rdI w v77 45).bind fun v82 =>
    if (v82 : Int) ≤ x3 then
      (fgR w a0 12 49).bind fun v91 =>
      (rdI w v91 42).bind fun v96 =>
      Mo_copied_97 v96 w
    else
      Mo_copied_97 x3 w
theorem s_Mo_copied_61 {g : Gp} {l : Launch} {D : Nat} (hD : 2 ≤ D) (a0 : Nat) (x1 : Int) (x2 : Int) (x3 : Int) (w : Wd) (r : Int × Wd) (h : Mo_copied_61 a0 x1 x2 x3 w = some r) : Rn g l D 232 61 [(0, .inr (.inr a0)), (1, .inl x1), (2, .inl x2), (3, .inl x3)] [] w (some (.inl r.1)) r.2 := by
  obtain ⟨D, rfl⟩ : ∃ D1, D = D1 + 1 := ⟨D - 1, by omega⟩
  unfold Mo_copied_61 at h
  refine rn_iload_n i232_61 rfl ?_
  refine rn_iconst i232_62 ?_
  by_cases c63 : (x2 : Int) = 1
  · rw [if_pos c63] at h
    refine rn_icmp_ne_f i232_63 c63 ?_
    refine fr_aload_n i232_66 rfl ?_
    refine rn_iload_n i232_67 rfl ?_
    refine rn_iload_n i232_68 rfl ?_
    obtain ⟨r69, h69, h⟩ := Option.bind_eq_some_iff.mp h
    obtain ⟨g69, c69⟩ := S_Mo_copiedFrom a0 x1 x3 w r69 h69
    refine fr_callV (a := a0) (As := [.inl x1, .inl x3]) (st := []) i232_69 (cq230 a0 x1 x3) rfl (Nat.le_of_ble_eq_true rfl) g69 (c69 _ (by omega)) ?_
    show Rn _ _ _ _ _ _ [.inl r69.1] _ _ _
    refine rn_goto i232_72 ?_
    exact rn_sub [] rfl (s_Mo_copied_97 hD r69.1 r69.2 r h)
  · rw [if_neg c63] at h
    refine rn_icmp_ne_t i232_63 c63 ?_
    refine rn_iload_n i232_75 rfl ?_
    refine fr_aload_n i232_76 rfl ?_
    obtain ⟨v77, h77, h⟩ := Option.bind_eq_some_iff.mp h
    refine fr_gR (k := 49) i232_77 tf12_49 h77 ?_
    refine rn_bipush i232_80 ?_
    obtain ⟨v82, h82, h⟩ := Option.bind_eq_some_iff.mp h
    refine rn_iald i232_82 h82 ?_
    by_cases c83 : (v82 : Int) ≤ x3
    · rw [if_pos c83] at h
      refine rn_icmp_ge_t i232_83 c83 ?_
      refine fr_aload_n i232_90 rfl ?_
      obtain ⟨v91, h91, h⟩ := Option.bind_eq_some_iff.mp h
      refine fr_gR (k := 49) i232_91 tf12_49 h91 ?_
      refine rn_bipush i232_94 ?_
      obtain ⟨v96, h96, h⟩ := Option.bind_eq_some_iff.mp h
      refine rn_iald i232_96 h96 ?_
      exact rn_sub [] rfl (s_Mo_copied_97 hD v96 w r h)
    · rw [if_neg c83] at h
      refine rn_icmp_ge_f i232_83 c83 ?_
      refine rn_iload_n i232_86 rfl ?_
      refine rn_goto i232_87 ?_
      exact rn_sub [] rfl (s_Mo_copied_97 hD x3 w r h)
def Mo_copied_24 : Nat → Nat → Int → Int → Int → Int → Wd → Option (Int × Wd)
  | 0, _, _, _, _, _, _ => none
  | n + 1, a0, x1, x2, x3, x4, w =>
    (fgR w a0 12 49).bind fun v27 =>
    (rdI w v27 45).bind fun v32 =>
    if (v32 : Int) < x4 then
      Mo_copied_61 a0 x1 x2 x3 w
    else
      (Mo_copiedFrom a0 x1 x4 w).bind fun r40 =>
      (Mo_copiedFrom a0 x1 x3 r40.2).bind fun r46 =>
      if (r46.1 : Int) ≤ r40.1 then
        Mo_copied_55 (Mo_copied_24 n) a0 x1 x2 x3 x4 r46.2
      else
        Mo_copied_55 (Mo_copied_24 n) a0 x1 x2 x4 x4 r46.2
theorem s_Mo_copied_24 {g : Gp} {l : Launch} {D : Nat} (hD : 2 ≤ D) : ∀ (n : Nat) (a0 : Nat) (x1 : Int) (x2 : Int) (x3 : Int) (x4 : Int) (w : Wd) (r : Int × Wd), Mo_copied_24 n a0 x1 x2 x3 x4 w = some r → Rn g l D 232 24 [(0, .inr (.inr a0)), (1, .inl x1), (2, .inl x2), (3, .inl x3), (4, .inl x4)] [] w (some (.inl r.1)) r.2 := by
  obtain ⟨D, rfl⟩ : ∃ D1, D = D1 + 1 := ⟨D - 1, by omega⟩
  intro n
  induction n with
  | zero => intro a0 x1 x2 x3 x4 w r h; cases (show (none : Option (Int × Wd)) = some r from h)
  | succ n ih =>
    intro a0 x1 x2 x3 x4 w r h
    unfold Mo_copied_24 at h
    refine rn_iload i232_24 rfl ?_
    refine fr_aload_n i232_26 rfl ?_
    obtain ⟨v27, h27, h⟩ := Option.bind_eq_some_iff.mp h
    refine fr_gR (k := 49) i232_27 tf12_49 h27 ?_
    refine rn_bipush i232_30 ?_
    obtain ⟨v32, h32, h⟩ := Option.bind_eq_some_iff.mp h
    refine rn_iald i232_32 h32 ?_
    by_cases c33 : (v32 : Int) < x4
    · rw [if_pos c33] at h
      refine rn_icmp_gt_t i232_33 c33 ?_
      exact rn_sub [0, 1, 2, 3] rfl (s_Mo_copied_61 hD a0 x1 x2 x3 w r h)
    · rw [if_neg c33] at h
      refine rn_icmp_gt_f i232_33 c33 ?_
      refine fr_aload_n i232_36 rfl ?_
      refine rn_iload_n i232_37 rfl ?_
      refine rn_iload i232_38 rfl ?_
      obtain ⟨r40, h40, h⟩ := Option.bind_eq_some_iff.mp h
      obtain ⟨g40, c40⟩ := S_Mo_copiedFrom a0 x1 x4 w r40 h40
      refine fr_callV (a := a0) (As := [.inl x1, .inl x4]) (st := []) i232_40 (cq230 a0 x1 x4) rfl (Nat.le_of_ble_eq_true rfl) g40 (c40 _ (by omega)) ?_
      show Rn _ _ _ _ _ _ [.inl r40.1] _ _ _
      refine fr_aload_n i232_43 rfl ?_
      refine rn_iload_n i232_44 rfl ?_
      refine rn_iload_n i232_45 rfl ?_
      obtain ⟨r46, h46, h⟩ := Option.bind_eq_some_iff.mp h
      obtain ⟨g46, c46⟩ := S_Mo_copiedFrom a0 x1 x3 r40.2 r46 h46
      refine fr_callV (a := a0) (As := [.inl x1, .inl x3]) (st := [.inl r40.1]) i232_46 (cq230 a0 x1 x3) rfl (Nat.le_of_ble_eq_true rfl) g46 (c46 _ (by omega)) ?_
      show Rn _ _ _ _ _ _ [.inl r46.1, .inl r40.1] _ _ _
      by_cases c49 : (r46.1 : Int) ≤ r40.1
      · rw [if_pos c49] at h
        refine rn_icmp_ge_t i232_49 c49 ?_
        exact rn_sub [0, 1, 2, 3, 4] rfl (s_Mo_copied_55 hD (Mo_copied_24 n) ih a0 x1 x2 x3 x4 r46.2 r h)
      · rw [if_neg c49] at h
        refine rn_icmp_ge_f i232_49 c49 ?_
        refine rn_iload i232_52 rfl ?_
        refine rn_istore_n (ls1 := [(3, .inl x4), (0, .inr (.inr a0)), (1, .inl x1), (2, .inl x2), (4, .inl x4)]) i232_54 rfl ?_
        exact rn_sub [1, 2, 3, 0, 4] rfl (s_Mo_copied_55 hD (Mo_copied_24 n) ih a0 x1 x2 x4 x4 r46.2 r h)
def Mo_copied_0 (a0 : Nat) (x1 : Int) (x2 : Int) (w : Wd) : Option (Int × Wd) :=
  (Mo_isHeir a0 x1 w).bind fun r2 =>
  if (r2.1 : Int) = 0 then
    Mo_copied_17 r2.2
  else
    (Mo_in x2 0 1 r2.2).bind fun r11 =>
    if (r11.1 : Int) = 0 then
      Mo_copied_17 r11.2
    else
      Mo_copied_24 FU a0 x1 x2 0 1 r11.2
theorem s_Mo_copied_0 {g : Gp} {l : Launch} {D : Nat} (hD : 2 ≤ D) (a0 : Nat) (x1 : Int) (x2 : Int) (w : Wd) (r : Int × Wd) (h : Mo_copied_0 a0 x1 x2 w = some r) : Rn g l D 232 0 [(0, .inr (.inr a0)), (1, .inl x1), (2, .inl x2)] [] w (some (.inl r.1)) r.2 := by
  obtain ⟨D, rfl⟩ : ∃ D1, D = D1 + 1 := ⟨D - 1, by omega⟩
  unfold Mo_copied_0 at h
  refine fr_aload_n i232_0 rfl ?_
  refine rn_iload_n i232_1 rfl ?_
  obtain ⟨r2, h2, h⟩ := Option.bind_eq_some_iff.mp h
  obtain ⟨g2, c2⟩ := S_Mo_isHeir a0 x1 w r2 h2
  refine fr_callV (a := a0) (As := [.inl x1]) (st := []) i232_2 (cq185 a0 x1) rfl (Nat.le_of_ble_eq_true rfl) g2 (c2 _ (by omega)) ?_
  show Rn _ _ _ _ _ _ [.inl r2.1] _ _ _
  by_cases c5 : (r2.1 : Int) = 0
  · rw [if_pos c5] at h
    refine rn_if_eq_t i232_5 c5 ?_
    exact rn_sub [] rfl (s_Mo_copied_17 hD r2.2 r h)
  · rw [if_neg c5] at h
    refine rn_if_eq_f i232_5 c5 ?_
    refine rn_iload_n i232_8 rfl ?_
    refine rn_iconst i232_9 ?_
    refine rn_iconst i232_10 ?_
    obtain ⟨r11, h11, h⟩ := Option.bind_eq_some_iff.mp h
    refine fr_callS (nst := 0) (As := [.inl x2, .inl 0, .inl 1]) (st := []) i232_11 (cq183 x2 0 1) rfl (Nat.le_of_ble_eq_true rfl) (S_Mo_in x2 0 1 r2.2 r11 h11 _ (by omega)) ?_
    show Rn _ _ _ _ _ _ [.inl r11.1] _ _ _
    by_cases c14 : (r11.1 : Int) = 0
    · rw [if_pos c14] at h
      refine rn_if_ne_f i232_14 c14 ?_
      exact rn_sub [] rfl (s_Mo_copied_17 hD r11.2 r h)
    · rw [if_neg c14] at h
      refine rn_if_ne_t i232_14 c14 ?_
      refine rn_iconst i232_19 ?_
      refine rn_istore_n (ls1 := [(3, .inl 0), (0, .inr (.inr a0)), (1, .inl x1), (2, .inl x2)]) i232_20 rfl ?_
      refine rn_iconst i232_21 ?_
      refine rn_istore (ls1 := [(4, .inl 1), (3, .inl 0), (0, .inr (.inr a0)), (1, .inl x1), (2, .inl x2)]) i232_22 rfl ?_
      exact rn_sub [2, 3, 4, 1, 0] rfl (s_Mo_copied_24 hD FU a0 x1 x2 0 1 r11.2 r h)
/-- HandHeirsModel.copied(II)I -/
def Mo_copied (a0 : Nat) (x1 : Int) (x2 : Int) (w : Wd) : Option (Int × Wd) := gd 12 w a0 (Mo_copied_0 a0 x1 x2 w)
theorem S_Mo_copied {g : Gp} {l : Launch} (a0 : Nat) (x1 : Int) (x2 : Int) (w : Wd) (r : Int × Wd) (h : Mo_copied a0 x1 x2 w = some r) : (wsh w a0).1 = 12 ∧ ∀ D, 2 ≤ D → Rn g l D 232 0 [(0, .inr (.inr a0)), (1, .inl x1), (2, .inl x2)] [] w (some (.inl r.1)) r.2 := by
  obtain ⟨hg, h⟩ := gd_some h
  exact ⟨hg, fun D hD => rn_sub [0, 1, 2] rfl (s_Mo_copied_0 hD a0 x1 x2 w r h)⟩
def Mo_nobody_6 : Nat → Nat → Int → Wd → Option (Int × Wd)
  | 0, _, _, _ => none
  | n + 1, a0, x1, w =>
    if (200 : Int) < x1 then
      some ((-2), w)
    else
      (Mo_yearGoes a0 w).bind fun r14 =>
      (fgR r14 a0 12 50).bind fun v18 =>
      (rdI r14 v18 43).bind fun v23 =>
      if (0 : Int) ≤ v23 then
        Mo_nobody_6 n a0 (w32 (x1 + 1)) r14
      else
        some (x1, r14)
theorem s_Mo_nobody_6 {g : Gp} {l : Launch} {D : Nat} (hD : 7 ≤ D) : ∀ (n : Nat) (a0 : Nat) (x1 : Int) (w : Wd) (r : Int × Wd), Mo_nobody_6 n a0 x1 w = some r → Rn g l D 233 6 [(0, .inr (.inr a0)), (1, .inl x1)] [] w (some (.inl r.1)) r.2 := by
  obtain ⟨D, rfl⟩ : ∃ D1, D = D1 + 1 := ⟨D - 1, by omega⟩
  intro n
  induction n with
  | zero => intro a0 x1 w r h; cases (show (none : Option (Int × Wd)) = some r from h)
  | succ n ih =>
    intro a0 x1 w r h
    unfold Mo_nobody_6 at h
    refine rn_iload_n i233_6 rfl ?_
    refine rn_sipush i233_7 ?_
    by_cases c10 : (200 : Int) < x1
    · rw [if_pos c10] at h
      refine rn_icmp_gt_t i233_10 c10 ?_
      refine rn_bipush i233_35 ?_
      obtain rfl := Option.some.inj h
      exact rn_retI i233_37 mr233
    · rw [if_neg c10] at h
      refine rn_icmp_gt_f i233_10 c10 ?_
      refine fr_aload_n i233_13 rfl ?_
      obtain ⟨r14, h14, h⟩ := Option.bind_eq_some_iff.mp h
      obtain ⟨g14, c14⟩ := S_Mo_yearGoes a0 w r14 h14
      refine fr_callV (a := a0) (As := []) (st := []) i233_14 (cq205 a0) rfl (Nat.le_of_ble_eq_true rfl) g14 (c14 _ (by omega)) ?_
      refine fr_aload_n i233_17 rfl ?_
      obtain ⟨v18, h18, h⟩ := Option.bind_eq_some_iff.mp h
      refine fr_gR (k := 50) i233_18 tf12_50 h18 ?_
      refine rn_bipush i233_21 ?_
      obtain ⟨v23, h23, h⟩ := Option.bind_eq_some_iff.mp h
      refine rn_iald i233_23 h23 ?_
      by_cases c24 : (0 : Int) ≤ v23
      · rw [if_pos c24] at h
        refine rn_if_ge_t i233_24 c24 ?_
        refine rn_iinc (ls1 := [(1, .inl (w32 (x1 + 1))), (0, .inr (.inr a0))]) i233_29 rfl rfl ?_
        refine rn_goto i233_32 ?_
        exact rn_sub [1, 0] rfl (ih a0 (w32 (x1 + 1)) r14 r h)
      · rw [if_neg c24] at h
        refine rn_if_ge_f i233_24 c24 ?_
        refine rn_iload_n i233_27 rfl ?_
        obtain rfl := Option.some.inj h
        exact rn_retI i233_28 mr233
def Mo_nobody_0 (a0 : Nat) (w : Wd) : Option (Int × Wd) :=
  (Mo_copies a0 w).bind fun r1 =>
  Mo_nobody_6 FU a0 1 r1
theorem s_Mo_nobody_0 {g : Gp} {l : Launch} {D : Nat} (hD : 7 ≤ D) (a0 : Nat) (w : Wd) (r : Int × Wd) (h : Mo_nobody_0 a0 w = some r) : Rn g l D 233 0 [(0, .inr (.inr a0))] [] w (some (.inl r.1)) r.2 := by
  obtain ⟨D, rfl⟩ : ∃ D1, D = D1 + 1 := ⟨D - 1, by omega⟩
  unfold Mo_nobody_0 at h
  refine fr_aload_n i233_0 rfl ?_
  obtain ⟨r1, h1, h⟩ := Option.bind_eq_some_iff.mp h
  obtain ⟨g1, c1⟩ := S_Mo_copies a0 w r1 h1
  refine fr_callV (a := a0) (As := []) (st := []) i233_1 (cq189 a0) rfl (Nat.le_of_ble_eq_true rfl) g1 (c1 _ (by omega)) ?_
  refine rn_iconst i233_4 ?_
  refine rn_istore_n (ls1 := [(1, .inl 1), (0, .inr (.inr a0))]) i233_5 rfl ?_
  exact rn_sub [1, 0] rfl (s_Mo_nobody_6 hD FU a0 1 r1 r h)
/-- HandHeirsModel.nobody()I -/
def Mo_nobody (a0 : Nat) (w : Wd) : Option (Int × Wd) := gd 12 w a0 (Mo_nobody_0 a0 w)
theorem S_Mo_nobody {g : Gp} {l : Launch} (a0 : Nat) (w : Wd) (r : Int × Wd) (h : Mo_nobody a0 w = some r) : (wsh w a0).1 = 12 ∧ ∀ D, 7 ≤ D → Rn g l D 233 0 [(0, .inr (.inr a0))] [] w (some (.inl r.1)) r.2 := by
  obtain ⟨hg, h⟩ := gd_some h
  exact ⟨hg, fun D hD => rn_sub [0] rfl (s_Mo_nobody_0 hD a0 w r h)⟩
def Mo_tell_27 (w : Wd) : Option (Int × Wd) :=
  some ((-1), w)
theorem s_Mo_tell_27 {g : Gp} {l : Launch} {D : Nat} (hD : 2 ≤ D) (w : Wd) (r : Int × Wd) (h : Mo_tell_27 w = some r) : Rn g l D 234 27 [] [] w (some (.inl r.1)) r.2 := by
  unfold Mo_tell_27 at h
  refine rn_iconst i234_27 ?_
  obtain rfl := Option.some.inj h
  exact rn_retI i234_28 mr234
def Mo_tell_0 (a0 : Nat) (x1 : Int) (x2 : Int) (w : Wd) : Option (Int × Wd) :=
  (fgI w a0 12 63).bind fun v1 =>
  if (v1 : Int) = 20 then
    Mo_tell_27 w
  else
    (Mo_isLetterAt a0 x1 w).bind fun r11 =>
    if (r11.1 : Int) = 0 then
      Mo_tell_27 r11.2
    else
      (Mo_in x2 0 99 r11.2).bind fun r21 =>
      if (r21.1 : Int) = 0 then
        Mo_tell_27 r21.2
      else
        (fgR r21.2 a0 12 64).bind fun v30 =>
        (fgI r21.2 a0 12 63).bind fun v34 =>
        (wrI r21.2 v30 v34 x1).bind fun w38 =>
        (fgR w38 a0 12 65).bind fun v40 =>
        (fgI w38 a0 12 63).bind fun v44 =>
        (wrI w38 v40 v44 x2).bind fun w48 =>
        (fgI w48 a0 12 63).bind fun v51 =>
        (fpI w48 a0 12 63 (w32 (v51 + 1))).bind fun w56 =>
        (fgI w56 a0 12 63).bind fun v60 =>
        some ((w32 (v60 - 1)), w56)
theorem s_Mo_tell_0 {g : Gp} {l : Launch} {D : Nat} (hD : 2 ≤ D) (a0 : Nat) (x1 : Int) (x2 : Int) (w : Wd) (r : Int × Wd) (h : Mo_tell_0 a0 x1 x2 w = some r) : Rn g l D 234 0 [(0, .inr (.inr a0)), (1, .inl x1), (2, .inl x2)] [] w (some (.inl r.1)) r.2 := by
  obtain ⟨D, rfl⟩ : ∃ D1, D = D1 + 1 := ⟨D - 1, by omega⟩
  unfold Mo_tell_0 at h
  refine fr_aload_n i234_0 rfl ?_
  obtain ⟨v1, h1, h⟩ := Option.bind_eq_some_iff.mp h
  refine fr_gI (k := 63) i234_1 tf12_63 h1 ?_
  refine rn_bipush i234_4 ?_
  by_cases c6 : (v1 : Int) = 20
  · rw [if_pos c6] at h
    refine rn_icmp_eq_t i234_6 c6 ?_
    exact rn_sub [] rfl (s_Mo_tell_27 hD w r h)
  · rw [if_neg c6] at h
    refine rn_icmp_eq_f i234_6 c6 ?_
    refine fr_aload_n i234_9 rfl ?_
    refine rn_iload_n i234_10 rfl ?_
    obtain ⟨r11, h11, h⟩ := Option.bind_eq_some_iff.mp h
    obtain ⟨g11, c11⟩ := S_Mo_isLetterAt a0 x1 w r11 h11
    refine fr_callV (a := a0) (As := [.inl x1]) (st := []) i234_11 (cq184 a0 x1) rfl (Nat.le_of_ble_eq_true rfl) g11 (c11 _ (by omega)) ?_
    show Rn _ _ _ _ _ _ [.inl r11.1] _ _ _
    by_cases c14 : (r11.1 : Int) = 0
    · rw [if_pos c14] at h
      refine rn_if_eq_t i234_14 c14 ?_
      exact rn_sub [] rfl (s_Mo_tell_27 hD r11.2 r h)
    · rw [if_neg c14] at h
      refine rn_if_eq_f i234_14 c14 ?_
      refine rn_iload_n i234_17 rfl ?_
      refine rn_iconst i234_18 ?_
      refine rn_bipush i234_19 ?_
      obtain ⟨r21, h21, h⟩ := Option.bind_eq_some_iff.mp h
      refine fr_callS (nst := 0) (As := [.inl x2, .inl 0, .inl 99]) (st := []) i234_21 (cq183 x2 0 99) rfl (Nat.le_of_ble_eq_true rfl) (S_Mo_in x2 0 99 r11.2 r21 h21 _ (by omega)) ?_
      show Rn _ _ _ _ _ _ [.inl r21.1] _ _ _
      by_cases c24 : (r21.1 : Int) = 0
      · rw [if_pos c24] at h
        refine rn_if_ne_f i234_24 c24 ?_
        exact rn_sub [] rfl (s_Mo_tell_27 hD r21.2 r h)
      · rw [if_neg c24] at h
        refine rn_if_ne_t i234_24 c24 ?_
        refine fr_aload_n i234_29 rfl ?_
        obtain ⟨v30, h30, h⟩ := Option.bind_eq_some_iff.mp h
        refine fr_gR (k := 64) i234_30 tf12_64 h30 ?_
        refine fr_aload_n i234_33 rfl ?_
        obtain ⟨v34, h34, h⟩ := Option.bind_eq_some_iff.mp h
        refine fr_gI (k := 63) i234_34 tf12_63 h34 ?_
        refine rn_iload_n i234_37 rfl ?_
        obtain ⟨w38, h38, h⟩ := Option.bind_eq_some_iff.mp h
        refine rn_iast i234_38 h38 ?_
        refine fr_aload_n i234_39 rfl ?_
        obtain ⟨v40, h40, h⟩ := Option.bind_eq_some_iff.mp h
        refine fr_gR (k := 65) i234_40 tf12_65 h40 ?_
        refine fr_aload_n i234_43 rfl ?_
        obtain ⟨v44, h44, h⟩ := Option.bind_eq_some_iff.mp h
        refine fr_gI (k := 63) i234_44 tf12_63 h44 ?_
        refine rn_iload_n i234_47 rfl ?_
        obtain ⟨w48, h48, h⟩ := Option.bind_eq_some_iff.mp h
        refine rn_iast i234_48 h48 ?_
        refine fr_aload_n i234_49 rfl ?_
        refine rn_dup i234_50 rfl ?_
        obtain ⟨v51, h51, h⟩ := Option.bind_eq_some_iff.mp h
        refine fr_gI (k := 63) i234_51 tf12_63 h51 ?_
        refine rn_iconst i234_54 ?_
        refine rn_iadd i234_55 ?_
        obtain ⟨w56, h56, h⟩ := Option.bind_eq_some_iff.mp h
        refine fr_pI (k := 63) i234_56 (pf12_63 234) h56 ?_
        refine fr_aload_n i234_59 rfl ?_
        obtain ⟨v60, h60, h⟩ := Option.bind_eq_some_iff.mp h
        refine fr_gI (k := 63) i234_60 tf12_63 h60 ?_
        refine rn_iconst i234_63 ?_
        refine rn_isub i234_64 ?_
        obtain rfl := Option.some.inj h
        exact rn_retI i234_65 mr234
/-- HandHeirsModel.tell(II)I -/
def Mo_tell (a0 : Nat) (x1 : Int) (x2 : Int) (w : Wd) : Option (Int × Wd) := gd 12 w a0 (Mo_tell_0 a0 x1 x2 w)
theorem S_Mo_tell {g : Gp} {l : Launch} (a0 : Nat) (x1 : Int) (x2 : Int) (w : Wd) (r : Int × Wd) (h : Mo_tell a0 x1 x2 w = some r) : (wsh w a0).1 = 12 ∧ ∀ D, 2 ≤ D → Rn g l D 234 0 [(0, .inr (.inr a0)), (1, .inl x1), (2, .inl x2)] [] w (some (.inl r.1)) r.2 := by
  obtain ⟨hg, h⟩ := gd_some h
  exact ⟨hg, fun D hD => rn_sub [0, 1, 2] rfl (s_Mo_tell_0 hD a0 x1 x2 w r h)⟩
def Mo_forget_0 (a0 : Nat) (w : Wd) : Option (Int × Wd) :=
  (fgI w a0 12 63).bind fun v1 =>
  (fpI w a0 12 63 0).bind fun w7 =>
  some (v1, w7)
theorem s_Mo_forget_0 {g : Gp} {l : Launch} {D : Nat} (hD : 0 ≤ D) (a0 : Nat) (w : Wd) (r : Int × Wd) (h : Mo_forget_0 a0 w = some r) : Rn g l D 235 0 [(0, .inr (.inr a0))] [] w (some (.inl r.1)) r.2 := by
  unfold Mo_forget_0 at h
  refine fr_aload_n i235_0 rfl ?_
  obtain ⟨v1, h1, h⟩ := Option.bind_eq_some_iff.mp h
  refine fr_gI (k := 63) i235_1 tf12_63 h1 ?_
  refine rn_istore_n (ls1 := [(1, .inl v1), (0, .inr (.inr a0))]) i235_4 rfl ?_
  refine fr_aload_n i235_5 rfl ?_
  refine rn_iconst i235_6 ?_
  obtain ⟨w7, h7, h⟩ := Option.bind_eq_some_iff.mp h
  refine fr_pI (k := 63) i235_7 (pf12_63 235) h7 ?_
  refine rn_iload_n i235_10 rfl ?_
  obtain rfl := Option.some.inj h
  exact rn_retI i235_11 mr235
/-- HandHeirsModel.forget()I -/
def Mo_forget (a0 : Nat) (w : Wd) : Option (Int × Wd) := gd 12 w a0 (Mo_forget_0 a0 w)
theorem S_Mo_forget {g : Gp} {l : Launch} (a0 : Nat) (w : Wd) (r : Int × Wd) (h : Mo_forget a0 w = some r) : (wsh w a0).1 = 12 ∧ ∀ D, 0 ≤ D → Rn g l D 235 0 [(0, .inr (.inr a0))] [] w (some (.inl r.1)) r.2 := by
  obtain ⟨hg, h⟩ := gd_some h
  exact ⟨hg, fun D hD => rn_sub [0] rfl (s_Mo_forget_0 hD a0 w r h)⟩
def Mo_isDated_3 : Nat → Nat → Int → Int → Int → Int → Wd → Option (Int × Wd)
  | 0, _, _, _, _, _, _ => none
  | n + 1, a0, x1, x2, x3, x4, w =>
    if (x3 : Int) ≤ x4 then
      some (1, w)
    else
      (fgR w a0 12 64).bind fun v12 =>
      (rdI w v12 x4).bind fun v17 =>
      (Mo_handIn a0 x1 v17 w).bind fun r18 =>
      (fgR r18.2 a0 12 65).bind fun v22 =>
      (rdI r18.2 v22 x4).bind fun v27 =>
      (Mo_apart (r18.1) v27 r18.2).bind fun r28 =>
      if (r28.1 : Int) ≤ x2 then
        Mo_isDated_3 n a0 x1 x2 x3 (w32 (x4 + 1)) r28.2
      else
        some (0, r28.2)
theorem s_Mo_isDated_3 {g : Gp} {l : Launch} {D : Nat} (hD : 1 ≤ D) : ∀ (n : Nat) (a0 : Nat) (x1 : Int) (x2 : Int) (x3 : Int) (x4 : Int) (w : Wd) (r : Int × Wd), Mo_isDated_3 n a0 x1 x2 x3 x4 w = some r → Rn g l D 236 3 [(0, .inr (.inr a0)), (1, .inl x1), (2, .inl x2), (3, .inl x3), (4, .inl x4)] [] w (some (.inl r.1)) r.2 := by
  obtain ⟨D, rfl⟩ : ∃ D1, D = D1 + 1 := ⟨D - 1, by omega⟩
  intro n
  induction n with
  | zero => intro a0 x1 x2 x3 x4 w r h; cases (show (none : Option (Int × Wd)) = some r from h)
  | succ n ih =>
    intro a0 x1 x2 x3 x4 w r h
    unfold Mo_isDated_3 at h
    refine rn_iload i236_3 rfl ?_
    refine rn_iload_n i236_5 rfl ?_
    by_cases c6 : (x3 : Int) ≤ x4
    · rw [if_pos c6] at h
      refine rn_icmp_ge_t i236_6 c6 ?_
      refine rn_iconst i236_43 ?_
      obtain rfl := Option.some.inj h
      exact rn_retZ i236_44 mr236 (by decide)
    · rw [if_neg c6] at h
      refine rn_icmp_ge_f i236_6 c6 ?_
      refine fr_aload_n i236_9 rfl ?_
      refine rn_iload_n i236_10 rfl ?_
      refine fr_aload_n i236_11 rfl ?_
      obtain ⟨v12, h12, h⟩ := Option.bind_eq_some_iff.mp h
      refine fr_gR (k := 64) i236_12 tf12_64 h12 ?_
      refine rn_iload i236_15 rfl ?_
      obtain ⟨v17, h17, h⟩ := Option.bind_eq_some_iff.mp h
      refine rn_iald i236_17 h17 ?_
      obtain ⟨r18, h18, h⟩ := Option.bind_eq_some_iff.mp h
      obtain ⟨g18, c18⟩ := S_Mo_handIn a0 x1 v17 w r18 h18
      refine fr_callV (a := a0) (As := [.inl x1, .inl v17]) (st := []) i236_18 (cq231 a0 x1 v17) rfl (Nat.le_of_ble_eq_true rfl) g18 (c18 _ (by omega)) ?_
      show Rn _ _ _ _ _ _ [.inl r18.1] _ _ _
      refine fr_aload_n i236_21 rfl ?_
      obtain ⟨v22, h22, h⟩ := Option.bind_eq_some_iff.mp h
      refine fr_gR (k := 65) i236_22 tf12_65 h22 ?_
      refine rn_iload i236_25 rfl ?_
      obtain ⟨v27, h27, h⟩ := Option.bind_eq_some_iff.mp h
      refine rn_iald i236_27 h27 ?_
      obtain ⟨r28, h28, h⟩ := Option.bind_eq_some_iff.mp h
      refine fr_callS (nst := 0) (As := [.inl r18.1, .inl v27]) (st := []) i236_28 (cq193 (r18.1) v27) rfl (Nat.le_of_ble_eq_true rfl) (S_Mo_apart (r18.1) v27 r18.2 r28 h28 _ (by omega)) ?_
      show Rn _ _ _ _ _ _ [.inl r28.1] _ _ _
      refine rn_iload_n i236_31 rfl ?_
      by_cases c32 : (r28.1 : Int) ≤ x2
      · rw [if_pos c32] at h
        refine rn_icmp_le_t i236_32 c32 ?_
        refine rn_iinc (ls1 := [(4, .inl (w32 (x4 + 1))), (0, .inr (.inr a0)), (1, .inl x1), (2, .inl x2), (3, .inl x3)]) i236_37 rfl rfl ?_
        refine rn_goto i236_40 ?_
        exact rn_sub [1, 2, 3, 4, 0] rfl (ih a0 x1 x2 x3 (w32 (x4 + 1)) r28.2 r h)
      · rw [if_neg c32] at h
        refine rn_icmp_le_f i236_32 c32 ?_
        refine rn_iconst i236_35 ?_
        obtain rfl := Option.some.inj h
        exact rn_retZ i236_36 mr236 (by decide)
def Mo_isDated_0 (a0 : Nat) (x1 : Int) (x2 : Int) (x3 : Int) (w : Wd) : Option (Int × Wd) :=
  Mo_isDated_3 FU a0 x1 x2 x3 0 w
theorem s_Mo_isDated_0 {g : Gp} {l : Launch} {D : Nat} (hD : 1 ≤ D) (a0 : Nat) (x1 : Int) (x2 : Int) (x3 : Int) (w : Wd) (r : Int × Wd) (h : Mo_isDated_0 a0 x1 x2 x3 w = some r) : Rn g l D 236 0 [(0, .inr (.inr a0)), (1, .inl x1), (2, .inl x2), (3, .inl x3)] [] w (some (.inl r.1)) r.2 := by
  unfold Mo_isDated_0 at h
  refine rn_iconst i236_0 ?_
  refine rn_istore (ls1 := [(4, .inl 0), (0, .inr (.inr a0)), (1, .inl x1), (2, .inl x2), (3, .inl x3)]) i236_1 rfl ?_
  exact rn_sub [1, 2, 3, 4, 0] rfl (s_Mo_isDated_3 hD FU a0 x1 x2 x3 0 w r h)
/-- HandHeirsModel.isDated(III)Z -/
def Mo_isDated (a0 : Nat) (x1 : Int) (x2 : Int) (x3 : Int) (w : Wd) : Option (Int × Wd) := gd 12 w a0 (Mo_isDated_0 a0 x1 x2 x3 w)
theorem S_Mo_isDated {g : Gp} {l : Launch} (a0 : Nat) (x1 : Int) (x2 : Int) (x3 : Int) (w : Wd) (r : Int × Wd) (h : Mo_isDated a0 x1 x2 x3 w = some r) : (wsh w a0).1 = 12 ∧ ∀ D, 1 ≤ D → Rn g l D 236 0 [(0, .inr (.inr a0)), (1, .inl x1), (2, .inl x2), (3, .inl x3)] [] w (some (.inl r.1)) r.2 := by
  obtain ⟨hg, h⟩ := gd_some h
  exact ⟨hg, fun D hD => rn_sub [0, 1, 2, 3] rfl (s_Mo_isDated_0 hD a0 x1 x2 x3 w r h)⟩
def Mo_dated_27 (w : Wd) : Option (Int × Wd) :=
  some ((-1), w)
theorem s_Mo_dated_27 {g : Gp} {l : Launch} {D : Nat} (hD : 2 ≤ D) (w : Wd) (r : Int × Wd) (h : Mo_dated_27 w = some r) : Rn g l D 237 27 [] [] w (some (.inl r.1)) r.2 := by
  unfold Mo_dated_27 at h
  refine rn_iconst i237_27 ?_
  obtain rfl := Option.some.inj h
  exact rn_retI i237_28 mr237
def Mo_dated_91 (s0 : Int) (w : Wd) : Option (Int × Wd) :=
  some (s0, w)
theorem s_Mo_dated_91 {g : Gp} {l : Launch} {D : Nat} (hD : 2 ≤ D) (s0 : Int) (w : Wd) (r : Int × Wd) (h : Mo_dated_91 s0 w = some r) : Rn g l D 237 91 [] [.inl s0] w (some (.inl r.1)) r.2 := by
  unfold Mo_dated_91 at h
  obtain rfl := Option.some.inj h
  exact rn_retI i237_91 mr237
def Mo_dated_67 (a0 : Nat) (x5 : Int) (w : Wd) : Option (Int × Wd) :=
  (fgR w a0 12 49).bind fun v70 =>
  (rdI w v70 45).bind fun v75 =>
  if (v75 : Int) ≤ x5 then
    (fgR w a0 12 49).bind fun v85 =>
    (rdI w v85 42).bind fun v90 =>
    Mo_dated_91 v90 w
  else
    Mo_dated_91 x5 w
theorem s_Mo_dated_67 {g : Gp} {l : Launch} {D : Nat} (hD : 2 ≤ D) (a0 : Nat) (x5 : Int) (w : Wd) (r : Int × Wd) (h : Mo_dated_67 a0 x5 w = some r) : Rn g l D 237 67 [(0, .inr (.inr a0)), (5, .inl x5)] [] w (some (.inl r.1)) r.2 := by
  unfold Mo_dated_67 at h
  refine rn_iload i237_67 rfl ?_
  refine fr_aload_n i237_69 rfl ?_
  obtain ⟨v70, h70, h⟩ := Option.bind_eq_some_iff.mp h
  refine fr_gR (k := 49) i237_70 tf12_49 h70 ?_
  refine rn_bipush i237_73 ?_
  obtain ⟨v75, h75, h⟩ := Option.bind_eq_some_iff.mp h
  refine rn_iald i237_75 h75 ?_
  by_cases c76 : (v75 : Int) ≤ x5
  · rw [if_pos c76] at h
    refine rn_icmp_ge_t i237_76 c76 ?_
    refine fr_aload_n i237_84 rfl ?_
    obtain ⟨v85, h85, h⟩ := Option.bind_eq_some_iff.mp h
    refine fr_gR (k := 49) i237_85 tf12_49 h85 ?_
    refine rn_bipush i237_88 ?_
    obtain ⟨v90, h90, h⟩ := Option.bind_eq_some_iff.mp h
    refine rn_iald i237_90 h90 ?_
    exact rn_sub [] rfl (s_Mo_dated_91 hD v90 w r h)
  · rw [if_neg c76] at h
    refine rn_icmp_ge_f i237_76 c76 ?_
    refine rn_iload i237_79 rfl ?_
    refine rn_goto i237_81 ?_
    exact rn_sub [] rfl (s_Mo_dated_91 hD x5 w r h)
def Mo_dated_95 (k35 : Nat → Int → Int → Int → Int → Int → Wd → Option (Int × Wd)) (a0 : Nat) (x1 : Int) (x2 : Int) (x3 : Int) (x4 : Int) (x5 : Int) (w : Wd) : Option (Int × Wd) :=
  k35 a0 x1 x2 x3 x4 (w32 (x5 + 1)) w
theorem s_Mo_dated_95 {g : Gp} {l : Launch} {D : Nat} (hD : 2 ≤ D) (k35 : Nat → Int → Int → Int → Int → Int → Wd → Option (Int × Wd)) (hk35 : ∀ (a0 : Nat) (x1 : Int) (x2 : Int) (x3 : Int) (x4 : Int) (x5 : Int) (w : Wd) (r : Int × Wd), k35 a0 x1 x2 x3 x4 x5 w = some r → Rn g l D 237 35 [(0, .inr (.inr a0)), (1, .inl x1), (2, .inl x2), (3, .inl x3), (4, .inl x4), (5, .inl x5)] [] w (some (.inl r.1)) r.2) (a0 : Nat) (x1 : Int) (x2 : Int) (x3 : Int) (x4 : Int) (x5 : Int) (w : Wd) (r : Int × Wd) (h : Mo_dated_95 k35 a0 x1 x2 x3 x4 x5 w = some r) : Rn g l D 237 95 [(0, .inr (.inr a0)), (1, .inl x1), (2, .inl x2), (3, .inl x3), (4, .inl x4), (5, .inl x5)] [] w (some (.inl r.1)) r.2 := by
  unfold Mo_dated_95 at h
  refine rn_iinc (ls1 := [(5, .inl (w32 (x5 + 1))), (0, .inr (.inr a0)), (1, .inl x1), (2, .inl x2), (3, .inl x3), (4, .inl x4)]) i237_95 rfl rfl ?_
  refine rn_goto i237_98 ?_
  exact rn_sub [1, 2, 3, 4, 5, 0] rfl (hk35 a0 x1 x2 x3 x4 (w32 (x5 + 1)) w r h)
def Mo_dated_112 (s0 : Int) (w : Wd) : Option (Int × Wd) :=
  some (s0, w)
theorem s_Mo_dated_112 {g : Gp} {l : Launch} {D : Nat} (hD : 2 ≤ D) (s0 : Int) (w : Wd) (r : Int × Wd) (h : Mo_dated_112 s0 w = some r) : Rn g l D 237 112 [] [.inl s0] w (some (.inl r.1)) r.2 := by
  unfold Mo_dated_112 at h
  obtain rfl := Option.some.inj h
  exact rn_retI i237_112 mr237
def Mo_dated_101 (x3 : Int) (x4 : Int) (w : Wd) : Option (Int × Wd) :=
  if (x3 : Int) = (-1) then
    Mo_dated_112 x4 w
  else
    Mo_dated_112 (-1) w
theorem s_Mo_dated_101 {g : Gp} {l : Launch} {D : Nat} (hD : 2 ≤ D) (x3 : Int) (x4 : Int) (w : Wd) (r : Int × Wd) (h : Mo_dated_101 x3 x4 w = some r) : Rn g l D 237 101 [(3, .inl x3), (4, .inl x4)] [] w (some (.inl r.1)) r.2 := by
  unfold Mo_dated_101 at h
  refine rn_iload_n i237_101 rfl ?_
  refine rn_iconst i237_102 ?_
  by_cases c103 : (x3 : Int) = (-1)
  · rw [if_pos c103] at h
    refine rn_icmp_ne_f i237_103 c103 ?_
    refine rn_iload i237_106 rfl ?_
    refine rn_goto i237_108 ?_
    exact rn_sub [] rfl (s_Mo_dated_112 hD x4 w r h)
  · rw [if_neg c103] at h
    refine rn_icmp_ne_t i237_103 c103 ?_
    refine rn_iconst i237_111 ?_
    exact rn_sub [] rfl (s_Mo_dated_112 hD (-1) w r h)
def Mo_dated_35 : Nat → Nat → Int → Int → Int → Int → Int → Wd → Option (Int × Wd)
  | 0, _, _, _, _, _, _, _ => none
  | n + 1, a0, x1, x2, x3, x4, x5, w =>
    (fgR w a0 12 49).bind fun v38 =>
    (rdI w v38 45).bind fun v43 =>
    if (v43 : Int) < x5 then
      Mo_dated_101 x3 x4 w
    else
      (Mo_isDated a0 x5 x1 x2 w).bind fun r52 =>
      if (r52.1 : Int) = 0 then
        Mo_dated_95 (Mo_dated_35 n) a0 x1 x2 x3 x4 x5 r52.2
      else
        if (x4 : Int) = x3 then
          Mo_dated_67 a0 x5 r52.2
        else
          Mo_dated_95 (Mo_dated_35 n) a0 x1 x2 x3 (w32 (x4 + 1)) x5 r52.2
theorem s_Mo_dated_35 {g : Gp} {l : Launch} {D : Nat} (hD : 2 ≤ D) : ∀ (n : Nat) (a0 : Nat) (x1 : Int) (x2 : Int) (x3 : Int) (x4 : Int) (x5 : Int) (w : Wd) (r : Int × Wd), Mo_dated_35 n a0 x1 x2 x3 x4 x5 w = some r → Rn g l D 237 35 [(0, .inr (.inr a0)), (1, .inl x1), (2, .inl x2), (3, .inl x3), (4, .inl x4), (5, .inl x5)] [] w (some (.inl r.1)) r.2 := by
  obtain ⟨D, rfl⟩ : ∃ D1, D = D1 + 1 := ⟨D - 1, by omega⟩
  intro n
  induction n with
  | zero => intro a0 x1 x2 x3 x4 x5 w r h; cases (show (none : Option (Int × Wd)) = some r from h)
  | succ n ih =>
    intro a0 x1 x2 x3 x4 x5 w r h
    unfold Mo_dated_35 at h
    refine rn_iload i237_35 rfl ?_
    refine fr_aload_n i237_37 rfl ?_
    obtain ⟨v38, h38, h⟩ := Option.bind_eq_some_iff.mp h
    refine fr_gR (k := 49) i237_38 tf12_49 h38 ?_
    refine rn_bipush i237_41 ?_
    obtain ⟨v43, h43, h⟩ := Option.bind_eq_some_iff.mp h
    refine rn_iald i237_43 h43 ?_
    by_cases c44 : (v43 : Int) < x5
    · rw [if_pos c44] at h
      refine rn_icmp_gt_t i237_44 c44 ?_
      exact rn_sub [3, 4] rfl (s_Mo_dated_101 hD x3 x4 w r h)
    · rw [if_neg c44] at h
      refine rn_icmp_gt_f i237_44 c44 ?_
      refine fr_aload_n i237_47 rfl ?_
      refine rn_iload i237_48 rfl ?_
      refine rn_iload_n i237_50 rfl ?_
      refine rn_iload_n i237_51 rfl ?_
      obtain ⟨r52, h52, h⟩ := Option.bind_eq_some_iff.mp h
      obtain ⟨g52, c52⟩ := S_Mo_isDated a0 x5 x1 x2 w r52 h52
      refine fr_callV (a := a0) (As := [.inl x5, .inl x1, .inl x2]) (st := []) i237_52 (cq236 a0 x5 x1 x2) rfl (Nat.le_of_ble_eq_true rfl) g52 (c52 _ (by omega)) ?_
      show Rn _ _ _ _ _ _ [.inl r52.1] _ _ _
      by_cases c55 : (r52.1 : Int) = 0
      · rw [if_pos c55] at h
        refine rn_if_ne_f i237_55 c55 ?_
        refine rn_goto i237_58 ?_
        exact rn_sub [0, 1, 2, 3, 4, 5] rfl (s_Mo_dated_95 hD (Mo_dated_35 n) ih a0 x1 x2 x3 x4 x5 r52.2 r h)
      · rw [if_neg c55] at h
        refine rn_if_ne_t i237_55 c55 ?_
        refine rn_iload i237_61 rfl ?_
        refine rn_iload_n i237_63 rfl ?_
        by_cases c64 : (x4 : Int) = x3
        · rw [if_pos c64] at h
          refine rn_icmp_ne_f i237_64 c64 ?_
          exact rn_sub [0, 5] rfl (s_Mo_dated_67 hD a0 x5 r52.2 r h)
        · rw [if_neg c64] at h
          refine rn_icmp_ne_t i237_64 c64 ?_
          refine rn_iinc (ls1 := [(4, .inl (w32 (x4 + 1))), (0, .inr (.inr a0)), (1, .inl x1), (2, .inl x2), (3, .inl x3), (5, .inl x5)]) i237_92 rfl rfl ?_
          exact rn_sub [1, 2, 3, 4, 0, 5] rfl (s_Mo_dated_95 hD (Mo_dated_35 n) ih a0 x1 x2 x3 (w32 (x4 + 1)) x5 r52.2 r h)
def Mo_dated_0 (a0 : Nat) (x1 : Int) (x2 : Int) (x3 : Int) (w : Wd) : Option (Int × Wd) :=
  (Mo_in x1 0 99 w).bind fun r4 =>
  if (r4.1 : Int) = 0 then
    Mo_dated_27 r4.2
  else
    (fgI r4.2 a0 12 63).bind fun v13 =>
    (Mo_in x2 0 v13 r4.2).bind fun r16 =>
    if (r16.1 : Int) = 0 then
      Mo_dated_27 r16.2
    else
      if ((-1) : Int) ≤ x3 then
        Mo_dated_35 FU a0 x1 x2 x3 0 0 r16.2
      else
        Mo_dated_27 r16.2
theorem s_Mo_dated_0 {g : Gp} {l : Launch} {D : Nat} (hD : 2 ≤ D) (a0 : Nat) (x1 : Int) (x2 : Int) (x3 : Int) (w : Wd) (r : Int × Wd) (h : Mo_dated_0 a0 x1 x2 x3 w = some r) : Rn g l D 237 0 [(0, .inr (.inr a0)), (1, .inl x1), (2, .inl x2), (3, .inl x3)] [] w (some (.inl r.1)) r.2 := by
  obtain ⟨D, rfl⟩ : ∃ D1, D = D1 + 1 := ⟨D - 1, by omega⟩
  unfold Mo_dated_0 at h
  refine rn_iload_n i237_0 rfl ?_
  refine rn_iconst i237_1 ?_
  refine rn_bipush i237_2 ?_
  obtain ⟨r4, h4, h⟩ := Option.bind_eq_some_iff.mp h
  refine fr_callS (nst := 0) (As := [.inl x1, .inl 0, .inl 99]) (st := []) i237_4 (cq183 x1 0 99) rfl (Nat.le_of_ble_eq_true rfl) (S_Mo_in x1 0 99 w r4 h4 _ (by omega)) ?_
  show Rn _ _ _ _ _ _ [.inl r4.1] _ _ _
  by_cases c7 : (r4.1 : Int) = 0
  · rw [if_pos c7] at h
    refine rn_if_eq_t i237_7 c7 ?_
    exact rn_sub [] rfl (s_Mo_dated_27 hD r4.2 r h)
  · rw [if_neg c7] at h
    refine rn_if_eq_f i237_7 c7 ?_
    refine rn_iload_n i237_10 rfl ?_
    refine rn_iconst i237_11 ?_
    refine fr_aload_n i237_12 rfl ?_
    obtain ⟨v13, h13, h⟩ := Option.bind_eq_some_iff.mp h
    refine fr_gI (k := 63) i237_13 tf12_63 h13 ?_
    obtain ⟨r16, h16, h⟩ := Option.bind_eq_some_iff.mp h
    refine fr_callS (nst := 0) (As := [.inl x2, .inl 0, .inl v13]) (st := []) i237_16 (cq183 x2 0 v13) rfl (Nat.le_of_ble_eq_true rfl) (S_Mo_in x2 0 v13 r4.2 r16 h16 _ (by omega)) ?_
    show Rn _ _ _ _ _ _ [.inl r16.1] _ _ _
    by_cases c19 : (r16.1 : Int) = 0
    · rw [if_pos c19] at h
      refine rn_if_eq_t i237_19 c19 ?_
      exact rn_sub [] rfl (s_Mo_dated_27 hD r16.2 r h)
    · rw [if_neg c19] at h
      refine rn_if_eq_f i237_19 c19 ?_
      refine rn_iload_n i237_22 rfl ?_
      refine rn_iconst i237_23 ?_
      by_cases c24 : ((-1) : Int) ≤ x3
      · rw [if_pos c24] at h
        refine rn_icmp_ge_t i237_24 c24 ?_
        refine rn_iconst i237_29 ?_
        refine rn_istore (ls1 := [(4, .inl 0), (0, .inr (.inr a0)), (1, .inl x1), (2, .inl x2), (3, .inl x3)]) i237_30 rfl ?_
        refine rn_iconst i237_32 ?_
        refine rn_istore (ls1 := [(5, .inl 0), (4, .inl 0), (0, .inr (.inr a0)), (1, .inl x1), (2, .inl x2), (3, .inl x3)]) i237_33 rfl ?_
        exact rn_sub [2, 3, 4, 5, 1, 0] rfl (s_Mo_dated_35 hD FU a0 x1 x2 x3 0 0 r16.2 r h)
      · rw [if_neg c24] at h
        refine rn_icmp_ge_f i237_24 c24 ?_
        exact rn_sub [] rfl (s_Mo_dated_27 hD r16.2 r h)
/-- HandHeirsModel.dated(III)I -/
def Mo_dated (a0 : Nat) (x1 : Int) (x2 : Int) (x3 : Int) (w : Wd) : Option (Int × Wd) := gd 12 w a0 (Mo_dated_0 a0 x1 x2 x3 w)
theorem S_Mo_dated {g : Gp} {l : Launch} (a0 : Nat) (x1 : Int) (x2 : Int) (x3 : Int) (w : Wd) (r : Int × Wd) (h : Mo_dated a0 x1 x2 x3 w = some r) : (wsh w a0).1 = 12 ∧ ∀ D, 2 ≤ D → Rn g l D 237 0 [(0, .inr (.inr a0)), (1, .inl x1), (2, .inl x2), (3, .inl x3)] [] w (some (.inl r.1)) r.2 := by
  obtain ⟨hg, h⟩ := gd_some h
  exact ⟨hg, fun D hD => rn_sub [0, 1, 2, 3] rfl (s_Mo_dated_0 hD a0 x1 x2 x3 w r h)⟩
def Mo_hold_20 : Nat → Nat → Int → Int → Wd → Option (Int × Wd)
  | 0, _, _, _, _ => none
  | n + 1, a0, x1, x2, w =>
    if (2860 : Int) ≤ x2 then
      some (1, w)
    else
      (fgR w a0 12 67).bind fun v28 =>
      (fgR w a0 12 49).bind fun v39 =>
      (rdI w v39 x2).bind fun v43 =>
      (wrI w v28 (w32 ((w32 (2860 * x1)) + x2)) v43).bind fun w44 =>
      Mo_hold_20 n a0 x1 (w32 (x2 + 1)) w44
theorem s_Mo_hold_20 {g : Gp} {l : Launch} {D : Nat} (hD : 1 ≤ D) : ∀ (n : Nat) (a0 : Nat) (x1 : Int) (x2 : Int) (w : Wd) (r : Int × Wd), Mo_hold_20 n a0 x1 x2 w = some r → Rn g l D 238 20 [(0, .inr (.inr a0)), (1, .inl x1), (2, .inl x2)] [] w (some (.inl r.1)) r.2 := by
  intro n
  induction n with
  | zero => intro a0 x1 x2 w r h; cases (show (none : Option (Int × Wd)) = some r from h)
  | succ n ih =>
    intro a0 x1 x2 w r h
    unfold Mo_hold_20 at h
    refine rn_iload_n i238_20 rfl ?_
    refine rn_sipush i238_21 ?_
    by_cases c24 : (2860 : Int) ≤ x2
    · rw [if_pos c24] at h
      refine rn_icmp_ge_t i238_24 c24 ?_
      refine rn_iconst i238_51 ?_
      obtain rfl := Option.some.inj h
      exact rn_retZ i238_52 mr238 (by decide)
    · rw [if_neg c24] at h
      refine rn_icmp_ge_f i238_24 c24 ?_
      refine fr_aload_n i238_27 rfl ?_
      obtain ⟨v28, h28, h⟩ := Option.bind_eq_some_iff.mp h
      refine fr_gR (k := 67) i238_28 tf12_67 h28 ?_
      refine rn_sipush i238_31 ?_
      refine rn_iload_n i238_34 rfl ?_
      refine rn_imul i238_35 ?_
      refine rn_iload_n i238_36 rfl ?_
      refine rn_iadd i238_37 ?_
      refine fr_aload_n i238_38 rfl ?_
      obtain ⟨v39, h39, h⟩ := Option.bind_eq_some_iff.mp h
      refine fr_gR (k := 49) i238_39 tf12_49 h39 ?_
      refine rn_iload_n i238_42 rfl ?_
      obtain ⟨v43, h43, h⟩ := Option.bind_eq_some_iff.mp h
      refine rn_iald i238_43 h43 ?_
      obtain ⟨w44, h44, h⟩ := Option.bind_eq_some_iff.mp h
      refine rn_iast i238_44 h44 ?_
      refine rn_iinc (ls1 := [(2, .inl (w32 (x2 + 1))), (0, .inr (.inr a0)), (1, .inl x1)]) i238_45 rfl rfl ?_
      refine rn_goto i238_48 ?_
      exact rn_sub [1, 2, 0] rfl (ih a0 x1 (w32 (x2 + 1)) w44 r h)
def Mo_hold_0 (a0 : Nat) (x1 : Int) (w : Wd) : Option (Int × Wd) :=
  (Mo_in x1 0 2 w).bind fun r3 =>
  if (r3.1 : Int) = 0 then
    some (0, r3.2)
  else
    (fgR r3.2 a0 12 66).bind fun v12 =>
    (wrB r3.2 v12 x1 1).bind fun w17 =>
    Mo_hold_20 FU a0 x1 0 w17
theorem s_Mo_hold_0 {g : Gp} {l : Launch} {D : Nat} (hD : 1 ≤ D) (a0 : Nat) (x1 : Int) (w : Wd) (r : Int × Wd) (h : Mo_hold_0 a0 x1 w = some r) : Rn g l D 238 0 [(0, .inr (.inr a0)), (1, .inl x1)] [] w (some (.inl r.1)) r.2 := by
  obtain ⟨D, rfl⟩ : ∃ D1, D = D1 + 1 := ⟨D - 1, by omega⟩
  unfold Mo_hold_0 at h
  refine rn_iload_n i238_0 rfl ?_
  refine rn_iconst i238_1 ?_
  refine rn_iconst i238_2 ?_
  obtain ⟨r3, h3, h⟩ := Option.bind_eq_some_iff.mp h
  refine fr_callS (nst := 0) (As := [.inl x1, .inl 0, .inl 2]) (st := []) i238_3 (cq183 x1 0 2) rfl (Nat.le_of_ble_eq_true rfl) (S_Mo_in x1 0 2 w r3 h3 _ (by omega)) ?_
  show Rn _ _ _ _ _ _ [.inl r3.1] _ _ _
  by_cases c6 : (r3.1 : Int) = 0
  · rw [if_pos c6] at h
    refine rn_if_ne_f i238_6 c6 ?_
    refine rn_iconst i238_9 ?_
    obtain rfl := Option.some.inj h
    exact rn_retZ i238_10 mr238 (by decide)
  · rw [if_neg c6] at h
    refine rn_if_ne_t i238_6 c6 ?_
    refine fr_aload_n i238_11 rfl ?_
    obtain ⟨v12, h12, h⟩ := Option.bind_eq_some_iff.mp h
    refine fr_gR (k := 66) i238_12 tf12_66 h12 ?_
    refine rn_iload_n i238_15 rfl ?_
    refine rn_iconst i238_16 ?_
    obtain ⟨w17, h17, h⟩ := Option.bind_eq_some_iff.mp h
    refine rn_bast i238_17 h17 ?_
    refine rn_iconst i238_18 ?_
    refine rn_istore_n (ls1 := [(2, .inl 0), (0, .inr (.inr a0)), (1, .inl x1)]) i238_19 rfl ?_
    exact rn_sub [1, 2, 0] rfl (s_Mo_hold_20 hD FU a0 x1 0 w17 r h)
/-- HandHeirsModel.hold(I)Z -/
def Mo_hold (a0 : Nat) (x1 : Int) (w : Wd) : Option (Int × Wd) := gd 12 w a0 (Mo_hold_0 a0 x1 w)
theorem S_Mo_hold {g : Gp} {l : Launch} (a0 : Nat) (x1 : Int) (w : Wd) (r : Int × Wd) (h : Mo_hold a0 x1 w = some r) : (wsh w a0).1 = 12 ∧ ∀ D, 1 ≤ D → Rn g l D 238 0 [(0, .inr (.inr a0)), (1, .inl x1)] [] w (some (.inl r.1)) r.2 := by
  obtain ⟨hg, h⟩ := gd_some h
  exact ⟨hg, fun D hD => rn_sub [0, 1] rfl (s_Mo_hold_0 hD a0 x1 w r h)⟩
def Mo_restore_18 (w : Wd) : Option (Int × Wd) :=
  some (0, w)
theorem s_Mo_restore_18 {g : Gp} {l : Launch} {D : Nat} (hD : 1 ≤ D) (w : Wd) (r : Int × Wd) (h : Mo_restore_18 w = some r) : Rn g l D 239 18 [] [] w (some (.inl r.1)) r.2 := by
  unfold Mo_restore_18 at h
  refine rn_iconst i239_18 ?_
  obtain rfl := Option.some.inj h
  exact rn_retZ i239_19 mr239 (by decide)
def Mo_restore_53 (a0 : Nat) (w : Wd) : Option (Int × Wd) :=
  (fpI w a0 12 58 0).bind fun w55 =>
  some (1, w55)
theorem s_Mo_restore_53 {g : Gp} {l : Launch} {D : Nat} (hD : 1 ≤ D) (a0 : Nat) (w : Wd) (r : Int × Wd) (h : Mo_restore_53 a0 w = some r) : Rn g l D 239 53 [(0, .inr (.inr a0))] [] w (some (.inl r.1)) r.2 := by
  unfold Mo_restore_53 at h
  refine fr_aload_n i239_53 rfl ?_
  refine rn_iconst i239_54 ?_
  obtain ⟨w55, h55, h⟩ := Option.bind_eq_some_iff.mp h
  refine fr_pI (k := 58) i239_55 (pf12_58 239) h55 ?_
  refine rn_iconst i239_58 ?_
  obtain rfl := Option.some.inj h
  exact rn_retZ i239_59 mr239 (by decide)
def Mo_restore_22 : Nat → Nat → Int → Int → Wd → Option (Int × Wd)
  | 0, _, _, _, _ => none
  | n + 1, a0, x1, x2, w =>
    if (2860 : Int) ≤ x2 then
      Mo_restore_53 a0 w
    else
      (fgR w a0 12 49).bind fun v30 =>
      (fgR w a0 12 67).bind fun v35 =>
      (rdI w v35 (w32 ((w32 (2860 * x1)) + x2))).bind fun v45 =>
      (wrI w v30 x2 v45).bind fun w46 =>
      Mo_restore_22 n a0 x1 (w32 (x2 + 1)) w46
theorem s_Mo_restore_22 {g : Gp} {l : Launch} {D : Nat} (hD : 1 ≤ D) : ∀ (n : Nat) (a0 : Nat) (x1 : Int) (x2 : Int) (w : Wd) (r : Int × Wd), Mo_restore_22 n a0 x1 x2 w = some r → Rn g l D 239 22 [(0, .inr (.inr a0)), (1, .inl x1), (2, .inl x2)] [] w (some (.inl r.1)) r.2 := by
  intro n
  induction n with
  | zero => intro a0 x1 x2 w r h; cases (show (none : Option (Int × Wd)) = some r from h)
  | succ n ih =>
    intro a0 x1 x2 w r h
    unfold Mo_restore_22 at h
    refine rn_iload_n i239_22 rfl ?_
    refine rn_sipush i239_23 ?_
    by_cases c26 : (2860 : Int) ≤ x2
    · rw [if_pos c26] at h
      refine rn_icmp_ge_t i239_26 c26 ?_
      exact rn_sub [0] rfl (s_Mo_restore_53 hD a0 w r h)
    · rw [if_neg c26] at h
      refine rn_icmp_ge_f i239_26 c26 ?_
      refine fr_aload_n i239_29 rfl ?_
      obtain ⟨v30, h30, h⟩ := Option.bind_eq_some_iff.mp h
      refine fr_gR (k := 49) i239_30 tf12_49 h30 ?_
      refine rn_iload_n i239_33 rfl ?_
      refine fr_aload_n i239_34 rfl ?_
      obtain ⟨v35, h35, h⟩ := Option.bind_eq_some_iff.mp h
      refine fr_gR (k := 67) i239_35 tf12_67 h35 ?_
      refine rn_sipush i239_38 ?_
      refine rn_iload_n i239_41 rfl ?_
      refine rn_imul i239_42 ?_
      refine rn_iload_n i239_43 rfl ?_
      refine rn_iadd i239_44 ?_
      obtain ⟨v45, h45, h⟩ := Option.bind_eq_some_iff.mp h
      refine rn_iald i239_45 h45 ?_
      obtain ⟨w46, h46, h⟩ := Option.bind_eq_some_iff.mp h
      refine rn_iast i239_46 h46 ?_
      refine rn_iinc (ls1 := [(2, .inl (w32 (x2 + 1))), (0, .inr (.inr a0)), (1, .inl x1)]) i239_47 rfl rfl ?_
      refine rn_goto i239_50 ?_
      exact rn_sub [1, 2, 0] rfl (ih a0 x1 (w32 (x2 + 1)) w46 r h)
def Mo_restore_0 (a0 : Nat) (x1 : Int) (w : Wd) : Option (Int × Wd) :=
  (Mo_in x1 0 2 w).bind fun r3 =>
  if (r3.1 : Int) = 0 then
    Mo_restore_18 r3.2
  else
    (fgR r3.2 a0 12 66).bind fun v10 =>
    (rdB r3.2 v10 x1).bind fun v14 =>
    if (v14 : Int) = 0 then
      Mo_restore_18 r3.2
    else
      Mo_restore_22 FU a0 x1 0 r3.2
theorem s_Mo_restore_0 {g : Gp} {l : Launch} {D : Nat} (hD : 1 ≤ D) (a0 : Nat) (x1 : Int) (w : Wd) (r : Int × Wd) (h : Mo_restore_0 a0 x1 w = some r) : Rn g l D 239 0 [(0, .inr (.inr a0)), (1, .inl x1)] [] w (some (.inl r.1)) r.2 := by
  obtain ⟨D, rfl⟩ : ∃ D1, D = D1 + 1 := ⟨D - 1, by omega⟩
  unfold Mo_restore_0 at h
  refine rn_iload_n i239_0 rfl ?_
  refine rn_iconst i239_1 ?_
  refine rn_iconst i239_2 ?_
  obtain ⟨r3, h3, h⟩ := Option.bind_eq_some_iff.mp h
  refine fr_callS (nst := 0) (As := [.inl x1, .inl 0, .inl 2]) (st := []) i239_3 (cq183 x1 0 2) rfl (Nat.le_of_ble_eq_true rfl) (S_Mo_in x1 0 2 w r3 h3 _ (by omega)) ?_
  show Rn _ _ _ _ _ _ [.inl r3.1] _ _ _
  by_cases c6 : (r3.1 : Int) = 0
  · rw [if_pos c6] at h
    refine rn_if_eq_t i239_6 c6 ?_
    exact rn_sub [] rfl (s_Mo_restore_18 hD r3.2 r h)
  · rw [if_neg c6] at h
    refine rn_if_eq_f i239_6 c6 ?_
    refine fr_aload_n i239_9 rfl ?_
    obtain ⟨v10, h10, h⟩ := Option.bind_eq_some_iff.mp h
    refine fr_gR (k := 66) i239_10 tf12_66 h10 ?_
    refine rn_iload_n i239_13 rfl ?_
    obtain ⟨v14, h14, h⟩ := Option.bind_eq_some_iff.mp h
    refine rn_bald i239_14 h14 ?_
    by_cases c15 : (v14 : Int) = 0
    · rw [if_pos c15] at h
      refine rn_if_ne_f i239_15 c15 ?_
      exact rn_sub [] rfl (s_Mo_restore_18 hD r3.2 r h)
    · rw [if_neg c15] at h
      refine rn_if_ne_t i239_15 c15 ?_
      refine rn_iconst i239_20 ?_
      refine rn_istore_n (ls1 := [(2, .inl 0), (0, .inr (.inr a0)), (1, .inl x1)]) i239_21 rfl ?_
      exact rn_sub [1, 2, 0] rfl (s_Mo_restore_22 hD FU a0 x1 0 r3.2 r h)
/-- HandHeirsModel.restore(I)Z -/
def Mo_restore (a0 : Nat) (x1 : Int) (w : Wd) : Option (Int × Wd) := gd 12 w a0 (Mo_restore_0 a0 x1 w)
theorem S_Mo_restore {g : Gp} {l : Launch} (a0 : Nat) (x1 : Int) (w : Wd) (r : Int × Wd) (h : Mo_restore a0 x1 w = some r) : (wsh w a0).1 = 12 ∧ ∀ D, 1 ≤ D → Rn g l D 239 0 [(0, .inr (.inr a0)), (1, .inl x1)] [] w (some (.inl r.1)) r.2 := by
  obtain ⟨hg, h⟩ := gd_some h
  exact ⟨hg, fun D hD => rn_sub [0, 1] rfl (s_Mo_restore_0 hD a0 x1 w r h)⟩
def Mo_count_211 (s0 : Int) (s1 : Int) (w : Wd) : Option (Int × Wd) :=
  some ((w32 (s1 + s0)), w)
theorem s_Mo_count_211 {g : Gp} {l : Launch} {D : Nat} (hD : 1 ≤ D) (s0 : Int) (s1 : Int) (w : Wd) (r : Int × Wd) (h : Mo_count_211 s0 s1 w = some r) : Rn g l D 240 211 [] [.inl s0, .inl s1] w (some (.inl r.1)) r.2 := by
  unfold Mo_count_211 at h
  refine rn_iadd i240_211 ?_
  obtain rfl := Option.some.inj h
  exact rn_retI i240_212 mr240
def Mo_count_196 (a0 : Nat) (s0 : Int) (s1 : Int) (w : Wd) : Option (Int × Wd) :=
  (fgR w a0 12 66).bind fun v198 =>
  (rdB w v198 2).bind fun v202 =>
  if (v202 : Int) = 0 then
    Mo_count_211 0 (w32 (s1 + s0)) w
  else
    Mo_count_211 1 (w32 (s1 + s0)) w
theorem s_Mo_count_196 {g : Gp} {l : Launch} {D : Nat} (hD : 1 ≤ D) (a0 : Nat) (s0 : Int) (s1 : Int) (w : Wd) (r : Int × Wd) (h : Mo_count_196 a0 s0 s1 w = some r) : Rn g l D 240 196 [(0, .inr (.inr a0))] [.inl s0, .inl s1] w (some (.inl r.1)) r.2 := by
  unfold Mo_count_196 at h
  refine rn_iadd i240_196 ?_
  refine fr_aload_n i240_197 rfl ?_
  obtain ⟨v198, h198, h⟩ := Option.bind_eq_some_iff.mp h
  refine fr_gR (k := 66) i240_198 tf12_66 h198 ?_
  refine rn_iconst i240_201 ?_
  obtain ⟨v202, h202, h⟩ := Option.bind_eq_some_iff.mp h
  refine rn_bald i240_202 h202 ?_
  by_cases c203 : (v202 : Int) = 0
  · rw [if_pos c203] at h
    refine rn_if_eq_t i240_203 c203 ?_
    refine rn_iconst i240_210 ?_
    exact rn_sub [] rfl (s_Mo_count_211 hD 0 (w32 (s1 + s0)) w r h)
  · rw [if_neg c203] at h
    refine rn_if_eq_f i240_203 c203 ?_
    refine rn_iconst i240_206 ?_
    refine rn_goto i240_207 ?_
    exact rn_sub [] rfl (s_Mo_count_211 hD 1 (w32 (s1 + s0)) w r h)
def Mo_count_182 (a0 : Nat) (s0 : Int) (w : Wd) : Option (Int × Wd) :=
  (fgR w a0 12 66).bind fun v183 =>
  (rdB w v183 1).bind fun v187 =>
  if (v187 : Int) = 0 then
    Mo_count_196 a0 0 s0 w
  else
    Mo_count_196 a0 1 s0 w
theorem s_Mo_count_182 {g : Gp} {l : Launch} {D : Nat} (hD : 1 ≤ D) (a0 : Nat) (s0 : Int) (w : Wd) (r : Int × Wd) (h : Mo_count_182 a0 s0 w = some r) : Rn g l D 240 182 [(0, .inr (.inr a0))] [.inl s0] w (some (.inl r.1)) r.2 := by
  unfold Mo_count_182 at h
  refine fr_aload_n i240_182 rfl ?_
  obtain ⟨v183, h183, h⟩ := Option.bind_eq_some_iff.mp h
  refine fr_gR (k := 66) i240_183 tf12_66 h183 ?_
  refine rn_iconst i240_186 ?_
  obtain ⟨v187, h187, h⟩ := Option.bind_eq_some_iff.mp h
  refine rn_bald i240_187 h187 ?_
  by_cases c188 : (v187 : Int) = 0
  · rw [if_pos c188] at h
    refine rn_if_eq_t i240_188 c188 ?_
    refine rn_iconst i240_195 ?_
    exact rn_sub [0] rfl (s_Mo_count_196 hD a0 0 s0 w r h)
  · rw [if_neg c188] at h
    refine rn_if_eq_f i240_188 c188 ?_
    refine rn_iconst i240_191 ?_
    refine rn_goto i240_192 ?_
    exact rn_sub [0] rfl (s_Mo_count_196 hD a0 1 s0 w r h)
def Mo_count_0 (a0 : Nat) (x1 : Int) (w : Wd) : Option (Int × Wd) :=
  if (x1 : Int) = 0 then
    (fgR w a0 12 23).bind fun v69 =>
    (fgI w a0 12 18).bind fun v73 =>
    (rdI w v69 v73).bind fun v76 =>
    some (v76, w)
  else
    if (x1 : Int) = 1 then
      (fgR w a0 12 25).bind fun v79 =>
      (fgI w a0 12 18).bind fun v83 =>
      (rdI w v79 v83).bind fun v86 =>
      some (v86, w)
    else
      if (x1 : Int) = 2 then
        (fgR w a0 12 29).bind fun v89 =>
        (fgI w a0 12 18).bind fun v93 =>
        (rdI w v89 v93).bind fun v96 =>
        some (v96, w)
      else
        if (x1 : Int) = 3 then
          (fgR w a0 12 49).bind fun v99 =>
          (rdI w v99 42).bind fun v104 =>
          some (v104, w)
        else
          if (x1 : Int) = 4 then
            (fgR w a0 12 49).bind fun v107 =>
            (rdI w v107 43).bind fun v112 =>
            (Mo_orNobody v112 w).bind fun r113 =>
            some (r113.1, r113.2)
          else
            if (x1 : Int) = 5 then
              (fgR w a0 12 49).bind fun v118 =>
              (rdI w v118 44).bind fun v123 =>
              some (v123, w)
            else
              if (x1 : Int) = 6 then
                (fgR w a0 12 30).bind fun v126 =>
                (fgI w a0 12 18).bind fun v130 =>
                (rdI w v126 v130).bind fun v133 =>
                some (v133, w)
              else
                if (x1 : Int) = 7 then
                  (fgR w a0 12 31).bind fun v136 =>
                  (fgI w a0 12 18).bind fun v140 =>
                  (rdI w v136 v140).bind fun v143 =>
                  some (v143, w)
                else
                  if (x1 : Int) = 8 then
                    (fgR w a0 12 49).bind fun v146 =>
                    (rdI w v146 45).bind fun v151 =>
                    some (v151, w)
                  else
                    if (x1 : Int) = 9 then
                      (fgI w a0 12 2).bind fun v154 =>
                      some (v154, w)
                    else
                      if (x1 : Int) = 10 then
                        (fgI w a0 12 58).bind fun v159 =>
                        some (v159, w)
                      else
                        if (x1 : Int) = 11 then
                          (fgI w a0 12 63).bind fun v164 =>
                          some (v164, w)
                        else
                          if (x1 : Int) = 12 then
                            (fgR w a0 12 66).bind fun v169 =>
                            (rdB w v169 0).bind fun v173 =>
                            if (v173 : Int) = 0 then
                              Mo_count_182 a0 0 w
                            else
                              Mo_count_182 a0 1 w
                          else
                            some ((-1), w)
theorem s_Mo_count_0 {g : Gp} {l : Launch} {D : Nat} (hD : 1 ≤ D) (a0 : Nat) (x1 : Int) (w : Wd) (r : Int × Wd) (h : Mo_count_0 a0 x1 w = some r) : Rn g l D 240 0 [(0, .inr (.inr a0)), (1, .inl x1)] [] w (some (.inl r.1)) r.2 := by
  obtain ⟨D, rfl⟩ : ∃ D1, D = D1 + 1 := ⟨D - 1, by omega⟩
  unfold Mo_count_0 at h
  refine rn_iload_n i240_0 rfl ?_
  by_cases c1_0 : (x1 : Int) = 0
  · rw [if_pos c1_0] at h
    refine rn_tsw_in (tgt := 68) i240_1 0 (by omega) (by omega) rfl rfl ?_
    refine fr_aload_n i240_68 rfl ?_
    obtain ⟨v69, h69, h⟩ := Option.bind_eq_some_iff.mp h
    refine fr_gR (k := 23) i240_69 tf12_23 h69 ?_
    refine fr_aload_n i240_72 rfl ?_
    obtain ⟨v73, h73, h⟩ := Option.bind_eq_some_iff.mp h
    refine fr_gI (k := 18) i240_73 tf12_18 h73 ?_
    obtain ⟨v76, h76, h⟩ := Option.bind_eq_some_iff.mp h
    refine rn_iald i240_76 h76 ?_
    obtain rfl := Option.some.inj h
    exact rn_retI i240_77 mr240
  · rw [if_neg c1_0] at h
    by_cases c1_1 : (x1 : Int) = 1
    · rw [if_pos c1_1] at h
      refine rn_tsw_in (tgt := 78) i240_1 1 (by omega) (by omega) rfl rfl ?_
      refine fr_aload_n i240_78 rfl ?_
      obtain ⟨v79, h79, h⟩ := Option.bind_eq_some_iff.mp h
      refine fr_gR (k := 25) i240_79 tf12_25 h79 ?_
      refine fr_aload_n i240_82 rfl ?_
      obtain ⟨v83, h83, h⟩ := Option.bind_eq_some_iff.mp h
      refine fr_gI (k := 18) i240_83 tf12_18 h83 ?_
      obtain ⟨v86, h86, h⟩ := Option.bind_eq_some_iff.mp h
      refine rn_iald i240_86 h86 ?_
      obtain rfl := Option.some.inj h
      exact rn_retI i240_87 mr240
    · rw [if_neg c1_1] at h
      by_cases c1_2 : (x1 : Int) = 2
      · rw [if_pos c1_2] at h
        refine rn_tsw_in (tgt := 88) i240_1 2 (by omega) (by omega) rfl rfl ?_
        refine fr_aload_n i240_88 rfl ?_
        obtain ⟨v89, h89, h⟩ := Option.bind_eq_some_iff.mp h
        refine fr_gR (k := 29) i240_89 tf12_29 h89 ?_
        refine fr_aload_n i240_92 rfl ?_
        obtain ⟨v93, h93, h⟩ := Option.bind_eq_some_iff.mp h
        refine fr_gI (k := 18) i240_93 tf12_18 h93 ?_
        obtain ⟨v96, h96, h⟩ := Option.bind_eq_some_iff.mp h
        refine rn_iald i240_96 h96 ?_
        obtain rfl := Option.some.inj h
        exact rn_retI i240_97 mr240
      · rw [if_neg c1_2] at h
        by_cases c1_3 : (x1 : Int) = 3
        · rw [if_pos c1_3] at h
          refine rn_tsw_in (tgt := 98) i240_1 3 (by omega) (by omega) rfl rfl ?_
          refine fr_aload_n i240_98 rfl ?_
          obtain ⟨v99, h99, h⟩ := Option.bind_eq_some_iff.mp h
          refine fr_gR (k := 49) i240_99 tf12_49 h99 ?_
          refine rn_bipush i240_102 ?_
          obtain ⟨v104, h104, h⟩ := Option.bind_eq_some_iff.mp h
          refine rn_iald i240_104 h104 ?_
          obtain rfl := Option.some.inj h
          exact rn_retI i240_105 mr240
        · rw [if_neg c1_3] at h
          by_cases c1_4 : (x1 : Int) = 4
          · rw [if_pos c1_4] at h
            refine rn_tsw_in (tgt := 106) i240_1 4 (by omega) (by omega) rfl rfl ?_
            refine fr_aload_n i240_106 rfl ?_
            obtain ⟨v107, h107, h⟩ := Option.bind_eq_some_iff.mp h
            refine fr_gR (k := 49) i240_107 tf12_49 h107 ?_
            refine rn_bipush i240_110 ?_
            obtain ⟨v112, h112, h⟩ := Option.bind_eq_some_iff.mp h
            refine rn_iald i240_112 h112 ?_
            obtain ⟨r113, h113, h⟩ := Option.bind_eq_some_iff.mp h
            refine fr_callS (nst := 0) (As := [.inl v112]) (st := []) i240_113 (cq211 v112) rfl (Nat.le_of_ble_eq_true rfl) (S_Mo_orNobody v112 w r113 h113 _ (by omega)) ?_
            show Rn _ _ _ _ _ _ [.inl r113.1] _ _ _
            obtain rfl := Option.some.inj h
            exact rn_retI i240_116 mr240
          · rw [if_neg c1_4] at h
            by_cases c1_5 : (x1 : Int) = 5
            · rw [if_pos c1_5] at h
              refine rn_tsw_in (tgt := 117) i240_1 5 (by omega) (by omega) rfl rfl ?_
              refine fr_aload_n i240_117 rfl ?_
              obtain ⟨v118, h118, h⟩ := Option.bind_eq_some_iff.mp h
              refine fr_gR (k := 49) i240_118 tf12_49 h118 ?_
              refine rn_bipush i240_121 ?_
              obtain ⟨v123, h123, h⟩ := Option.bind_eq_some_iff.mp h
              refine rn_iald i240_123 h123 ?_
              obtain rfl := Option.some.inj h
              exact rn_retI i240_124 mr240
            · rw [if_neg c1_5] at h
              by_cases c1_6 : (x1 : Int) = 6
              · rw [if_pos c1_6] at h
                refine rn_tsw_in (tgt := 125) i240_1 6 (by omega) (by omega) rfl rfl ?_
                refine fr_aload_n i240_125 rfl ?_
                obtain ⟨v126, h126, h⟩ := Option.bind_eq_some_iff.mp h
                refine fr_gR (k := 30) i240_126 tf12_30 h126 ?_
                refine fr_aload_n i240_129 rfl ?_
                obtain ⟨v130, h130, h⟩ := Option.bind_eq_some_iff.mp h
                refine fr_gI (k := 18) i240_130 tf12_18 h130 ?_
                obtain ⟨v133, h133, h⟩ := Option.bind_eq_some_iff.mp h
                refine rn_iald i240_133 h133 ?_
                obtain rfl := Option.some.inj h
                exact rn_retI i240_134 mr240
              · rw [if_neg c1_6] at h
                by_cases c1_7 : (x1 : Int) = 7
                · rw [if_pos c1_7] at h
                  refine rn_tsw_in (tgt := 135) i240_1 7 (by omega) (by omega) rfl rfl ?_
                  refine fr_aload_n i240_135 rfl ?_
                  obtain ⟨v136, h136, h⟩ := Option.bind_eq_some_iff.mp h
                  refine fr_gR (k := 31) i240_136 tf12_31 h136 ?_
                  refine fr_aload_n i240_139 rfl ?_
                  obtain ⟨v140, h140, h⟩ := Option.bind_eq_some_iff.mp h
                  refine fr_gI (k := 18) i240_140 tf12_18 h140 ?_
                  obtain ⟨v143, h143, h⟩ := Option.bind_eq_some_iff.mp h
                  refine rn_iald i240_143 h143 ?_
                  obtain rfl := Option.some.inj h
                  exact rn_retI i240_144 mr240
                · rw [if_neg c1_7] at h
                  by_cases c1_8 : (x1 : Int) = 8
                  · rw [if_pos c1_8] at h
                    refine rn_tsw_in (tgt := 145) i240_1 8 (by omega) (by omega) rfl rfl ?_
                    refine fr_aload_n i240_145 rfl ?_
                    obtain ⟨v146, h146, h⟩ := Option.bind_eq_some_iff.mp h
                    refine fr_gR (k := 49) i240_146 tf12_49 h146 ?_
                    refine rn_bipush i240_149 ?_
                    obtain ⟨v151, h151, h⟩ := Option.bind_eq_some_iff.mp h
                    refine rn_iald i240_151 h151 ?_
                    obtain rfl := Option.some.inj h
                    exact rn_retI i240_152 mr240
                  · rw [if_neg c1_8] at h
                    by_cases c1_9 : (x1 : Int) = 9
                    · rw [if_pos c1_9] at h
                      refine rn_tsw_in (tgt := 153) i240_1 9 (by omega) (by omega) rfl rfl ?_
                      refine fr_aload_n i240_153 rfl ?_
                      obtain ⟨v154, h154, h⟩ := Option.bind_eq_some_iff.mp h
                      refine fr_gI (k := 2) i240_154 tf12_2 h154 ?_
                      obtain rfl := Option.some.inj h
                      exact rn_retI i240_157 mr240
                    · rw [if_neg c1_9] at h
                      by_cases c1_10 : (x1 : Int) = 10
                      · rw [if_pos c1_10] at h
                        refine rn_tsw_in (tgt := 158) i240_1 10 (by omega) (by omega) rfl rfl ?_
                        refine fr_aload_n i240_158 rfl ?_
                        obtain ⟨v159, h159, h⟩ := Option.bind_eq_some_iff.mp h
                        refine fr_gI (k := 58) i240_159 tf12_58 h159 ?_
                        obtain rfl := Option.some.inj h
                        exact rn_retI i240_162 mr240
                      · rw [if_neg c1_10] at h
                        by_cases c1_11 : (x1 : Int) = 11
                        · rw [if_pos c1_11] at h
                          refine rn_tsw_in (tgt := 163) i240_1 11 (by omega) (by omega) rfl rfl ?_
                          refine fr_aload_n i240_163 rfl ?_
                          obtain ⟨v164, h164, h⟩ := Option.bind_eq_some_iff.mp h
                          refine fr_gI (k := 63) i240_164 tf12_63 h164 ?_
                          obtain rfl := Option.some.inj h
                          exact rn_retI i240_167 mr240
                        · rw [if_neg c1_11] at h
                          by_cases c1_12 : (x1 : Int) = 12
                          · rw [if_pos c1_12] at h
                            refine rn_tsw_in (tgt := 168) i240_1 12 (by omega) (by omega) rfl rfl ?_
                            refine fr_aload_n i240_168 rfl ?_
                            obtain ⟨v169, h169, h⟩ := Option.bind_eq_some_iff.mp h
                            refine fr_gR (k := 66) i240_169 tf12_66 h169 ?_
                            refine rn_iconst i240_172 ?_
                            obtain ⟨v173, h173, h⟩ := Option.bind_eq_some_iff.mp h
                            refine rn_bald i240_173 h173 ?_
                            by_cases c174 : (v173 : Int) = 0
                            · rw [if_pos c174] at h
                              refine rn_if_eq_t i240_174 c174 ?_
                              refine rn_iconst i240_181 ?_
                              exact rn_sub [0] rfl (s_Mo_count_182 hD a0 0 w r h)
                            · rw [if_neg c174] at h
                              refine rn_if_eq_f i240_174 c174 ?_
                              refine rn_iconst i240_177 ?_
                              refine rn_goto i240_178 ?_
                              exact rn_sub [0] rfl (s_Mo_count_182 hD a0 1 w r h)
                          · rw [if_neg c1_12] at h
                            refine rn_tsw_out (tgt := 213) i240_1 (by omega) rfl ?_
                            refine rn_iconst i240_213 ?_
                            obtain rfl := Option.some.inj h
                            exact rn_retI i240_214 mr240
/-- HandHeirsModel.count(I)I -/
def Mo_count (a0 : Nat) (x1 : Int) (w : Wd) : Option (Int × Wd) := gd 12 w a0 (Mo_count_0 a0 x1 w)
theorem S_Mo_count {g : Gp} {l : Launch} (a0 : Nat) (x1 : Int) (w : Wd) (r : Int × Wd) (h : Mo_count a0 x1 w = some r) : (wsh w a0).1 = 12 ∧ ∀ D, 1 ≤ D → Rn g l D 240 0 [(0, .inr (.inr a0)), (1, .inl x1)] [] w (some (.inl r.1)) r.2 := by
  obtain ⟨hg, h⟩ := gd_some h
  exact ⟨hg, fun D hD => rn_sub [0, 1] rfl (s_Mo_count_0 hD a0 x1 w r h)⟩
def La_law_1045 (k18 : Nat → Nat → Nat → Int → Wd → Option (Int × Wd)) (a0 : Nat) (a1 : Nat) (a2 : Nat) (x3 : Int) (w : Wd) : Option (Int × Wd) :=
  k18 a0 a1 a2 (w32 (x3 + 6)) w
theorem s_La_law_1045 {g : Gp} {l : Launch} {D : Nat} (hD : 105 ≤ D) (k18 : Nat → Nat → Nat → Int → Wd → Option (Int × Wd)) (hk18 : ∀ (a0 : Nat) (a1 : Nat) (a2 : Nat) (x3 : Int) (w : Wd) (r : Int × Wd), k18 a0 a1 a2 x3 w = some r → Rn g l D 241 18 [(0, .inr (.inr a0)), (1, .inr (.inr a1)), (2, .inr (.inr a2)), (3, .inl x3)] [] w (some (.inl r.1)) r.2) (a0 : Nat) (a1 : Nat) (a2 : Nat) (x3 : Int) (w : Wd) (r : Int × Wd) (h : La_law_1045 k18 a0 a1 a2 x3 w = some r) : Rn g l D 241 1045 [(0, .inr (.inr a0)), (1, .inr (.inr a1)), (2, .inr (.inr a2)), (3, .inl x3)] [] w (some (.inl r.1)) r.2 := by
  unfold La_law_1045 at h
  refine rn_iinc (ls1 := [(3, .inl (w32 (x3 + 6))), (0, .inr (.inr a0)), (1, .inr (.inr a1)), (2, .inr (.inr a2))]) i241_1045 rfl rfl ?_
  refine rn_goto i241_1048 ?_
  exact rn_sub [1, 2, 3, 0] rfl (hk18 a0 a1 a2 (w32 (x3 + 6)) w r h)
def La_law_18 : Nat → Nat → Nat → Nat → Int → Wd → Option (Int × Wd)
  | 0, _, _, _, _, _ => none
  | n + 1, a0, a1, a2, x3, w =>
    (aln w a0).bind fun v20 =>
    if ((w32 (v20 - 6)) : Int) < x3 then
      some (1, w)
    else
      (rdI w a0 x3).bind fun v29 =>
      if ((oand v29 31) : Int) = 0 then
        (rdI w a0 (w32 (x3 + 1))).bind fun v177 =>
        (rdI w a0 (w32 (x3 + 2))).bind fun v182 =>
        (rdI w a0 (w32 (x3 + 3))).bind fun v187 =>
        (rdI w a0 (w32 (x3 + 4))).bind fun v192 =>
        (rdI w a0 (w32 (x3 + 5))).bind fun v197 =>
        (Hh_feed a1 v177 v182 v187 v192 v197 w).bind fun r198 =>
        (rdI r198.2 a0 (w32 (x3 + 1))).bind fun v206 =>
        (rdI r198.2 a0 (w32 (x3 + 2))).bind fun v211 =>
        (rdI r198.2 a0 (w32 (x3 + 3))).bind fun v216 =>
        (rdI r198.2 a0 (w32 (x3 + 4))).bind fun v221 =>
        (rdI r198.2 a0 (w32 (x3 + 5))).bind fun v226 =>
        (Mo_feed a2 v206 v211 v216 v221 v226 r198.2).bind fun r227 =>
        if (r198.1 : Int) = r227.1 then
          La_law_1045 (La_law_18 n) a0 a1 a2 x3 r227.2
        else
          some (0, r227.2)
      else
        if ((oand v29 31) : Int) = 1 then
          (rdI w a0 (w32 (x3 + 1))).bind fun v240 =>
          (Hh_back a1 v240 w).bind fun r241 =>
          (rdI r241.2 a0 (w32 (x3 + 1))).bind fun v249 =>
          (Mo_back a2 v249 r241.2).bind fun r250 =>
          if (r241.1 : Int) = r250.1 then
            La_law_1045 (La_law_18 n) a0 a1 a2 x3 r250.2
          else
            some (0, r250.2)
        else
          if ((oand v29 31) : Int) = 2 then
            (Hh_read a1 w).bind fun r259 =>
            (Mo_read a2 r259.2).bind fun r263 =>
            if (r259.1 : Int) = r263.1 then
              La_law_1045 (La_law_18 n) a0 a1 a2 x3 r263.2
            else
              some (0, r263.2)
          else
            if ((oand v29 31) : Int) = 3 then
              (Hh_place a1 w).bind fun r272 =>
              (Mo_place a2 r272.2).bind fun r276 =>
              if (r272.1 : Int) = r276.1 then
                La_law_1045 (La_law_18 n) a0 a1 a2 x3 r276.2
              else
                some (0, r276.2)
            else
              if ((oand v29 31) : Int) = 4 then
                (rdI w a0 (w32 (x3 + 1))).bind fun v289 =>
                (Hh_hand a1 v289 w).bind fun r290 =>
                (rdI r290.2 a0 (w32 (x3 + 1))).bind fun v298 =>
                (Mo_hand a2 v298 r290.2).bind fun r299 =>
                if (r290.1 : Int) = r299.1 then
                  La_law_1045 (La_law_18 n) a0 a1 a2 x3 r299.2
                else
                  some (0, r299.2)
              else
                if ((oand v29 31) : Int) = 5 then
                  (rdI w a0 (w32 (x3 + 1))).bind fun v312 =>
                  (rdI w a0 (w32 (x3 + 2))).bind fun v317 =>
                  (rdI w a0 (w32 (x3 + 3))).bind fun v322 =>
                  (Hh_shape a1 v312 v317 v322 w).bind fun r323 =>
                  (rdI r323.2 a0 (w32 (x3 + 1))).bind fun v331 =>
                  (rdI r323.2 a0 (w32 (x3 + 2))).bind fun v336 =>
                  (rdI r323.2 a0 (w32 (x3 + 3))).bind fun v341 =>
                  (Mo_shape a2 v331 v336 v341 r323.2).bind fun r342 =>
                  if (r323.1 : Int) = r342.1 then
                    La_law_1045 (La_law_18 n) a0 a1 a2 x3 r342.2
                  else
                    some (0, r342.2)
                else
                  if ((oand v29 31) : Int) = 6 then
                    (rdI w a0 (w32 (x3 + 1))).bind fun v355 =>
                    (rdI w a0 (w32 (x3 + 2))).bind fun v360 =>
                    (Hh_heir a1 v355 v360 w).bind fun r361 =>
                    (rdI r361.2 a0 (w32 (x3 + 1))).bind fun v369 =>
                    (rdI r361.2 a0 (w32 (x3 + 2))).bind fun v374 =>
                    (Mo_heir a2 v369 v374 r361.2).bind fun r375 =>
                    if (r361.1 : Int) = r375.1 then
                      La_law_1045 (La_law_18 n) a0 a1 a2 x3 r375.2
                    else
                      some (0, r375.2)
                  else
                    if ((oand v29 31) : Int) = 7 then
                      (rdI w a0 (w32 (x3 + 1))).bind fun v388 =>
                      (rdI w a0 (w32 (x3 + 2))).bind fun v393 =>
                      (Hh_unlike a1 v388 v393 w).bind fun r394 =>
                      (rdI r394.2 a0 (w32 (x3 + 1))).bind fun v402 =>
                      (rdI r394.2 a0 (w32 (x3 + 2))).bind fun v407 =>
                      (Mo_unlike a2 v402 v407 r394.2).bind fun r408 =>
                      if (r394.1 : Int) = r408.1 then
                        La_law_1045 (La_law_18 n) a0 a1 a2 x3 r408.2
                      else
                        some (0, r408.2)
                    else
                      if ((oand v29 31) : Int) = 8 then
                        (rdI w a0 (w32 (x3 + 1))).bind fun v421 =>
                        (Hh_vote a1 v421 w).bind fun r422 =>
                        (rdI r422.2 a0 (w32 (x3 + 1))).bind fun v430 =>
                        (Mo_vote a2 v430 r422.2).bind fun r431 =>
                        if (r422.1 : Int) = r431.1 then
                          La_law_1045 (La_law_18 n) a0 a1 a2 x3 r431.2
                        else
                          some (0, r431.2)
                      else
                        if ((oand v29 31) : Int) = 9 then
                          (Hh_judge a1 w).bind fun r440 =>
                          (Mo_judge a2 r440.2).bind fun r444 =>
                          if (r440.1 : Int) = r444.1 then
                            La_law_1045 (La_law_18 n) a0 a1 a2 x3 r444.2
                          else
                            some (0, r444.2)
                        else
                          if ((oand v29 31) : Int) = 10 then
                            (rdI w a0 (w32 (x3 + 1))).bind fun v457 =>
                            (rdI w a0 (w32 (x3 + 2))).bind fun v462 =>
                            (rdI w a0 (w32 (x3 + 3))).bind fun v467 =>
                            (Hh_lesson a1 v457 v462 v467 w).bind fun r468 =>
                            (rdI r468.2 a0 (w32 (x3 + 1))).bind fun v476 =>
                            (rdI r468.2 a0 (w32 (x3 + 2))).bind fun v481 =>
                            (rdI r468.2 a0 (w32 (x3 + 3))).bind fun v486 =>
                            (Mo_lesson a2 v476 v481 v486 r468.2).bind fun r487 =>
                            if (r468.1 : Int) = r487.1 then
                              La_law_1045 (La_law_18 n) a0 a1 a2 x3 r487.2
                            else
                              some (0, r487.2)
                          else
                            if ((oand v29 31) : Int) = 11 then
                              (rdI w a0 (w32 (x3 + 1))).bind fun v500 =>
                              (Hh_years a1 v500 w).bind fun r501 =>
                              (rdI r501.2 a0 (w32 (x3 + 1))).bind fun v509 =>
                              (Mo_years a2 v509 r501.2).bind fun r510 =>
                              if (r501.1 : Int) = r510.1 then
                                La_law_1045 (La_law_18 n) a0 a1 a2 x3 r510.2
                              else
                                some (0, r510.2)
                            else
                              if ((oand v29 31) : Int) = 12 then
                                (Hh_undo a1 w).bind fun r519 =>
                                (Mo_undo a2 r519.2).bind fun r523 =>
                                if (r519.1 : Int) = r523.1 then
                                  La_law_1045 (La_law_18 n) a0 a1 a2 x3 r523.2
                                else
                                  some (0, r523.2)
                              else
                                if ((oand v29 31) : Int) = 13 then
                                  (rdI w a0 (w32 (x3 + 1))).bind fun v536 =>
                                  (rdI w a0 (w32 (x3 + 2))).bind fun v541 =>
                                  (Hh_book a1 v536 v541 w).bind fun r542 =>
                                  (rdI r542.2 a0 (w32 (x3 + 1))).bind fun v550 =>
                                  (rdI r542.2 a0 (w32 (x3 + 2))).bind fun v555 =>
                                  (Mo_book a2 v550 v555 r542.2).bind fun r556 =>
                                  if (r542.1 : Int) = r556.1 then
                                    La_law_1045 (La_law_18 n) a0 a1 a2 x3 r556.2
                                  else
                                    some (0, r556.2)
                                else
                                  if ((oand v29 31) : Int) = 14 then
                                    (rdI w a0 (w32 (x3 + 1))).bind fun v569 =>
                                    (rdI w a0 (w32 (x3 + 2))).bind fun v574 =>
                                    (Hh_plan a1 v569 v574 w).bind fun r575 =>
                                    (rdI r575.2 a0 (w32 (x3 + 1))).bind fun v583 =>
                                    (rdI r575.2 a0 (w32 (x3 + 2))).bind fun v588 =>
                                    (Mo_plan a2 v583 v588 r575.2).bind fun r589 =>
                                    if (r575.1 : Int) = r589.1 then
                                      La_law_1045 (La_law_18 n) a0 a1 a2 x3 r589.2
                                    else
                                      some (0, r589.2)
                                  else
                                    if ((oand v29 31) : Int) = 15 then
                                      (rdI w a0 (w32 (x3 + 1))).bind fun v602 =>
                                      (rdI w a0 (w32 (x3 + 2))).bind fun v607 =>
                                      (rdI w a0 (w32 (x3 + 3))).bind fun v612 =>
                                      (Hh_planOf a1 v602 v607 v612 w).bind fun r613 =>
                                      (rdI r613.2 a0 (w32 (x3 + 1))).bind fun v621 =>
                                      (rdI r613.2 a0 (w32 (x3 + 2))).bind fun v626 =>
                                      (rdI r613.2 a0 (w32 (x3 + 3))).bind fun v631 =>
                                      (Mo_planOf a2 v621 v626 v631 r613.2).bind fun r632 =>
                                      if (r613.1 : Int) = r632.1 then
                                        La_law_1045 (La_law_18 n) a0 a1 a2 x3 r632.2
                                      else
                                        some (0, r632.2)
                                    else
                                      if ((oand v29 31) : Int) = 16 then
                                        (rdI w a0 (w32 (x3 + 1))).bind fun v645 =>
                                        (Hh_needs a1 v645 w).bind fun r646 =>
                                        (rdI r646.2 a0 (w32 (x3 + 1))).bind fun v654 =>
                                        (Mo_needs a2 v654 r646.2).bind fun r655 =>
                                        if (r646.1 : Int) = r655.1 then
                                          La_law_1045 (La_law_18 n) a0 a1 a2 x3 r655.2
                                        else
                                          some (0, r655.2)
                                      else
                                        if ((oand v29 31) : Int) = 17 then
                                          (rdI w a0 (w32 (x3 + 1))).bind fun v668 =>
                                          (Hh_swing a1 v668 w).bind fun r669 =>
                                          (rdI r669.2 a0 (w32 (x3 + 1))).bind fun v677 =>
                                          (Mo_swing a2 v677 r669.2).bind fun r678 =>
                                          if (r669.1 : Int) = r678.1 then
                                            La_law_1045 (La_law_18 n) a0 a1 a2 x3 r678.2
                                          else
                                            some (0, r678.2)
                                        else
                                          if ((oand v29 31) : Int) = 18 then
                                            (rdI w a0 (w32 (x3 + 1))).bind fun v691 =>
                                            (rdI w a0 (w32 (x3 + 2))).bind fun v696 =>
                                            (Hh_chance a1 v691 v696 w).bind fun r697 =>
                                            (rdI r697.2 a0 (w32 (x3 + 1))).bind fun v705 =>
                                            (rdI r697.2 a0 (w32 (x3 + 2))).bind fun v710 =>
                                            (Mo_chance a2 v705 v710 r697.2).bind fun r711 =>
                                            if (r697.1 : Int) = r711.1 then
                                              La_law_1045 (La_law_18 n) a0 a1 a2 x3 r711.2
                                            else
                                              some (0, r711.2)
                                          else
                                            if ((oand v29 31) : Int) = 19 then
                                              (rdI w a0 (w32 (x3 + 1))).bind fun v724 =>
                                              (Hh_without a1 v724 w).bind fun r725 =>
                                              (rdI r725.2 a0 (w32 (x3 + 1))).bind fun v733 =>
                                              (Mo_without a2 v733 r725.2).bind fun r734 =>
                                              if (r725.1 : Int) = r734.1 then
                                                La_law_1045 (La_law_18 n) a0 a1 a2 x3 r734.2
                                              else
                                                some (0, r734.2)
                                            else
                                              if ((oand v29 31) : Int) = 20 then
                                                (rdI w a0 (w32 (x3 + 1))).bind fun v747 =>
                                                (rdI w a0 (w32 (x3 + 2))).bind fun v752 =>
                                                (Hh_bias a1 v747 v752 w).bind fun r753 =>
                                                (rdI r753.2 a0 (w32 (x3 + 1))).bind fun v761 =>
                                                (rdI r753.2 a0 (w32 (x3 + 2))).bind fun v766 =>
                                                (Mo_bias a2 v761 v766 r753.2).bind fun r767 =>
                                                if (r753.1 : Int) = r767.1 then
                                                  La_law_1045 (La_law_18 n) a0 a1 a2 x3 r767.2
                                                else
                                                  some (0, r767.2)
                                              else
                                                if ((oand v29 31) : Int) = 21 then
                                                  (rdI w a0 (w32 (x3 + 1))).bind fun v780 =>
                                                  (rdI w a0 (w32 (x3 + 2))).bind fun v785 =>
                                                  (rdI w a0 (w32 (x3 + 3))).bind fun v790 =>
                                                  (Hh_bestLetter a1 v780 v785 v790 w).bind fun r791 =>
                                                  (rdI r791.2 a0 (w32 (x3 + 1))).bind fun v799 =>
                                                  (rdI r791.2 a0 (w32 (x3 + 2))).bind fun v804 =>
                                                  (rdI r791.2 a0 (w32 (x3 + 3))).bind fun v809 =>
                                                  (Mo_bestLetter a2 v799 v804 v809 r791.2).bind fun r810 =>
                                                  if (r791.1 : Int) = r810.1 then
                                                    La_law_1045 (La_law_18 n) a0 a1 a2 x3 r810.2
                                                  else
                                                    some (0, r810.2)
                                                else
                                                  if ((oand v29 31) : Int) = 22 then
                                                    (rdI w a0 (w32 (x3 + 1))).bind fun v823 =>
                                                    (Hh_reign a1 v823 w).bind fun r824 =>
                                                    (rdI r824.2 a0 (w32 (x3 + 1))).bind fun v832 =>
                                                    (Mo_reign a2 v832 r824.2).bind fun r833 =>
                                                    if (r824.1 : Int) = r833.1 then
                                                      La_law_1045 (La_law_18 n) a0 a1 a2 x3 r833.2
                                                    else
                                                      some (0, r833.2)
                                                  else
                                                    if ((oand v29 31) : Int) = 23 then
                                                      (rdI w a0 (w32 (x3 + 1))).bind fun v846 =>
                                                      (rdI w a0 (w32 (x3 + 2))).bind fun v851 =>
                                                      (Hh_copied a1 v846 v851 w).bind fun r852 =>
                                                      (rdI r852.2 a0 (w32 (x3 + 1))).bind fun v860 =>
                                                      (rdI r852.2 a0 (w32 (x3 + 2))).bind fun v865 =>
                                                      (Mo_copied a2 v860 v865 r852.2).bind fun r866 =>
                                                      if (r852.1 : Int) = r866.1 then
                                                        La_law_1045 (La_law_18 n) a0 a1 a2 x3 r866.2
                                                      else
                                                        some (0, r866.2)
                                                    else
                                                      if ((oand v29 31) : Int) = 24 then
                                                        (Hh_nobody a1 w).bind fun r875 =>
                                                        (Mo_nobody a2 r875.2).bind fun r879 =>
                                                        if (r875.1 : Int) = r879.1 then
                                                          La_law_1045 (La_law_18 n) a0 a1 a2 x3 r879.2
                                                        else
                                                          some (0, r879.2)
                                                      else
                                                        if ((oand v29 31) : Int) = 25 then
                                                          (rdI w a0 (w32 (x3 + 1))).bind fun v892 =>
                                                          (rdI w a0 (w32 (x3 + 2))).bind fun v897 =>
                                                          (Hh_tell a1 v892 v897 w).bind fun r898 =>
                                                          (rdI r898.2 a0 (w32 (x3 + 1))).bind fun v906 =>
                                                          (rdI r898.2 a0 (w32 (x3 + 2))).bind fun v911 =>
                                                          (Mo_tell a2 v906 v911 r898.2).bind fun r912 =>
                                                          if (r898.1 : Int) = r912.1 then
                                                            La_law_1045 (La_law_18 n) a0 a1 a2 x3 r912.2
                                                          else
                                                            some (0, r912.2)
                                                        else
                                                          if ((oand v29 31) : Int) = 26 then
                                                            (Hh_forget a1 w).bind fun r921 =>
                                                            (Mo_forget a2 r921.2).bind fun r925 =>
                                                            if (r921.1 : Int) = r925.1 then
                                                              La_law_1045 (La_law_18 n) a0 a1 a2 x3 r925.2
                                                            else
                                                              some (0, r925.2)
                                                          else
                                                            if ((oand v29 31) : Int) = 27 then
                                                              (rdI w a0 (w32 (x3 + 1))).bind fun v938 =>
                                                              (rdI w a0 (w32 (x3 + 2))).bind fun v943 =>
                                                              (rdI w a0 (w32 (x3 + 3))).bind fun v948 =>
                                                              (Hh_dated a1 v938 v943 v948 w).bind fun r949 =>
                                                              (rdI r949.2 a0 (w32 (x3 + 1))).bind fun v957 =>
                                                              (rdI r949.2 a0 (w32 (x3 + 2))).bind fun v962 =>
                                                              (rdI r949.2 a0 (w32 (x3 + 3))).bind fun v967 =>
                                                              (Mo_dated a2 v957 v962 v967 r949.2).bind fun r968 =>
                                                              if (r949.1 : Int) = r968.1 then
                                                                La_law_1045 (La_law_18 n) a0 a1 a2 x3 r968.2
                                                              else
                                                                some (0, r968.2)
                                                            else
                                                              if ((oand v29 31) : Int) = 28 then
                                                                (rdI w a0 (w32 (x3 + 1))).bind fun v981 =>
                                                                (Hh_hold a1 v981 w).bind fun r982 =>
                                                                (rdI r982.2 a0 (w32 (x3 + 1))).bind fun v990 =>
                                                                (Mo_hold a2 v990 r982.2).bind fun r991 =>
                                                                if (r982.1 : Int) = r991.1 then
                                                                  La_law_1045 (La_law_18 n) a0 a1 a2 x3 r991.2
                                                                else
                                                                  some (0, r991.2)
                                                              else
                                                                if ((oand v29 31) : Int) = 29 then
                                                                  (rdI w a0 (w32 (x3 + 1))).bind fun v1004 =>
                                                                  (Hh_restore a1 v1004 w).bind fun r1005 =>
                                                                  (rdI r1005.2 a0 (w32 (x3 + 1))).bind fun v1013 =>
                                                                  (Mo_restore a2 v1013 r1005.2).bind fun r1014 =>
                                                                  if (r1005.1 : Int) = r1014.1 then
                                                                    La_law_1045 (La_law_18 n) a0 a1 a2 x3 r1014.2
                                                                  else
                                                                    some (0, r1014.2)
                                                                else
                                                                  if ((oand v29 31) : Int) = 30 then
                                                                    (rdI w a0 (w32 (x3 + 1))).bind fun v1027 =>
                                                                    (Hh_count a1 v1027 w).bind fun r1028 =>
                                                                    (rdI r1028.2 a0 (w32 (x3 + 1))).bind fun v1036 =>
                                                                    (Mo_count a2 v1036 r1028.2).bind fun r1037 =>
                                                                    if (r1028.1 : Int) = r1037.1 then
                                                                      La_law_1045 (La_law_18 n) a0 a1 a2 x3 r1037.2
                                                                    else
                                                                      some (0, r1037.2)
                                                                  else
                                                                    La_law_1045 (La_law_18 n) a0 a1 a2 x3 w
theorem s_La_law_18 {g : Gp} {l : Launch} {D : Nat} (hD : 105 ≤ D) : ∀ (n : Nat) (a0 : Nat) (a1 : Nat) (a2 : Nat) (x3 : Int) (w : Wd) (r : Int × Wd), La_law_18 n a0 a1 a2 x3 w = some r → Rn g l D 241 18 [(0, .inr (.inr a0)), (1, .inr (.inr a1)), (2, .inr (.inr a2)), (3, .inl x3)] [] w (some (.inl r.1)) r.2 := by
  obtain ⟨D, rfl⟩ : ∃ D1, D = D1 + 1 := ⟨D - 1, by omega⟩
  intro n
  induction n with
  | zero => intro a0 a1 a2 x3 w r h; cases (show (none : Option (Int × Wd)) = some r from h)
  | succ n ih =>
    intro a0 a1 a2 x3 w r h
    unfold La_law_18 at h
    refine rn_iload_n i241_18 rfl ?_
    refine fr_aload_n i241_19 rfl ?_
    obtain ⟨v20, h20, h⟩ := Option.bind_eq_some_iff.mp h
    refine rn_alen i241_20 h20 ?_
    refine rn_bipush i241_21 ?_
    refine rn_isub i241_23 ?_
    by_cases c24 : ((w32 (v20 - 6)) : Int) < x3
    · rw [if_pos c24] at h
      refine rn_icmp_gt_t i241_24 c24 ?_
      refine rn_iconst i241_1051 ?_
      obtain rfl := Option.some.inj h
      exact rn_retZ i241_1052 mr241 (by decide)
    · rw [if_neg c24] at h
      refine rn_icmp_gt_f i241_24 c24 ?_
      refine fr_aload_n i241_27 rfl ?_
      refine rn_iload_n i241_28 rfl ?_
      obtain ⟨v29, h29, h⟩ := Option.bind_eq_some_iff.mp h
      refine rn_iald i241_29 h29 ?_
      refine rn_bipush i241_30 ?_
      refine rn_iand i241_32 ?_
      by_cases c33_0 : ((oand v29 31) : Int) = 0
      · rw [if_pos c33_0] at h
        refine rn_tsw_in (tgt := 172) i241_33 0 (by omega) (by omega) rfl rfl ?_
        refine fr_aload_n i241_172 rfl ?_
        refine fr_aload_n i241_173 rfl ?_
        refine rn_iload_n i241_174 rfl ?_
        refine rn_iconst i241_175 ?_
        refine rn_iadd i241_176 ?_
        obtain ⟨v177, h177, h⟩ := Option.bind_eq_some_iff.mp h
        refine rn_iald i241_177 h177 ?_
        refine fr_aload_n i241_178 rfl ?_
        refine rn_iload_n i241_179 rfl ?_
        refine rn_iconst i241_180 ?_
        refine rn_iadd i241_181 ?_
        obtain ⟨v182, h182, h⟩ := Option.bind_eq_some_iff.mp h
        refine rn_iald i241_182 h182 ?_
        refine fr_aload_n i241_183 rfl ?_
        refine rn_iload_n i241_184 rfl ?_
        refine rn_iconst i241_185 ?_
        refine rn_iadd i241_186 ?_
        obtain ⟨v187, h187, h⟩ := Option.bind_eq_some_iff.mp h
        refine rn_iald i241_187 h187 ?_
        refine fr_aload_n i241_188 rfl ?_
        refine rn_iload_n i241_189 rfl ?_
        refine rn_iconst i241_190 ?_
        refine rn_iadd i241_191 ?_
        obtain ⟨v192, h192, h⟩ := Option.bind_eq_some_iff.mp h
        refine rn_iald i241_192 h192 ?_
        refine fr_aload_n i241_193 rfl ?_
        refine rn_iload_n i241_194 rfl ?_
        refine rn_iconst i241_195 ?_
        refine rn_iadd i241_196 ?_
        obtain ⟨v197, h197, h⟩ := Option.bind_eq_some_iff.mp h
        refine rn_iald i241_197 h197 ?_
        obtain ⟨r198, h198, h⟩ := Option.bind_eq_some_iff.mp h
        obtain ⟨g198, c198⟩ := S_Hh_feed a1 v177 v182 v187 v192 v197 w r198 h198
        refine fr_callV (a := a1) (As := [.inl v177, .inl v182, .inl v187, .inl v192, .inl v197]) (st := []) i241_198 (cq103 a1 v177 v182 v187 v192 v197) rfl (Nat.le_of_ble_eq_true rfl) g198 (c198 _ (by omega)) ?_
        show Rn _ _ _ _ _ _ [.inl r198.1] _ _ _
        refine fr_aload_n i241_201 rfl ?_
        refine fr_aload_n i241_202 rfl ?_
        refine rn_iload_n i241_203 rfl ?_
        refine rn_iconst i241_204 ?_
        refine rn_iadd i241_205 ?_
        obtain ⟨v206, h206, h⟩ := Option.bind_eq_some_iff.mp h
        refine rn_iald i241_206 h206 ?_
        refine fr_aload_n i241_207 rfl ?_
        refine rn_iload_n i241_208 rfl ?_
        refine rn_iconst i241_209 ?_
        refine rn_iadd i241_210 ?_
        obtain ⟨v211, h211, h⟩ := Option.bind_eq_some_iff.mp h
        refine rn_iald i241_211 h211 ?_
        refine fr_aload_n i241_212 rfl ?_
        refine rn_iload_n i241_213 rfl ?_
        refine rn_iconst i241_214 ?_
        refine rn_iadd i241_215 ?_
        obtain ⟨v216, h216, h⟩ := Option.bind_eq_some_iff.mp h
        refine rn_iald i241_216 h216 ?_
        refine fr_aload_n i241_217 rfl ?_
        refine rn_iload_n i241_218 rfl ?_
        refine rn_iconst i241_219 ?_
        refine rn_iadd i241_220 ?_
        obtain ⟨v221, h221, h⟩ := Option.bind_eq_some_iff.mp h
        refine rn_iald i241_221 h221 ?_
        refine fr_aload_n i241_222 rfl ?_
        refine rn_iload_n i241_223 rfl ?_
        refine rn_iconst i241_224 ?_
        refine rn_iadd i241_225 ?_
        obtain ⟨v226, h226, h⟩ := Option.bind_eq_some_iff.mp h
        refine rn_iald i241_226 h226 ?_
        obtain ⟨r227, h227, h⟩ := Option.bind_eq_some_iff.mp h
        obtain ⟨g227, c227⟩ := S_Mo_feed a2 v206 v211 v216 v221 v226 r198.2 r227 h227
        refine fr_callV (a := a2) (As := [.inl v206, .inl v211, .inl v216, .inl v221, .inl v226]) (st := [.inl r198.1]) i241_227 (cq148 a2 v206 v211 v216 v221 v226) rfl (Nat.le_of_ble_eq_true rfl) g227 (c227 _ (by omega)) ?_
        show Rn _ _ _ _ _ _ [.inl r227.1, .inl r198.1] _ _ _
        by_cases c230 : (r198.1 : Int) = r227.1
        · rw [if_pos c230] at h
          refine rn_icmp_eq_t i241_230 c230 ?_
          exact rn_sub [0, 1, 2, 3] rfl (s_La_law_1045 hD (La_law_18 n) ih a0 a1 a2 x3 r227.2 r h)
        · rw [if_neg c230] at h
          refine rn_icmp_eq_f i241_230 c230 ?_
          refine rn_iconst i241_233 ?_
          obtain rfl := Option.some.inj h
          exact rn_retZ i241_234 mr241 (by decide)
      · rw [if_neg c33_0] at h
        by_cases c33_1 : ((oand v29 31) : Int) = 1
        · rw [if_pos c33_1] at h
          refine rn_tsw_in (tgt := 235) i241_33 1 (by omega) (by omega) rfl rfl ?_
          refine fr_aload_n i241_235 rfl ?_
          refine fr_aload_n i241_236 rfl ?_
          refine rn_iload_n i241_237 rfl ?_
          refine rn_iconst i241_238 ?_
          refine rn_iadd i241_239 ?_
          obtain ⟨v240, h240, h⟩ := Option.bind_eq_some_iff.mp h
          refine rn_iald i241_240 h240 ?_
          obtain ⟨r241, h241, h⟩ := Option.bind_eq_some_iff.mp h
          obtain ⟨g241, c241⟩ := S_Hh_back a1 v240 w r241 h241
          refine fr_callV (a := a1) (As := [.inl v240]) (st := []) i241_241 (cq105 a1 v240) rfl (Nat.le_of_ble_eq_true rfl) g241 (c241 _ (by omega)) ?_
          show Rn _ _ _ _ _ _ [.inl r241.1] _ _ _
          refine fr_aload_n i241_244 rfl ?_
          refine fr_aload_n i241_245 rfl ?_
          refine rn_iload_n i241_246 rfl ?_
          refine rn_iconst i241_247 ?_
          refine rn_iadd i241_248 ?_
          obtain ⟨v249, h249, h⟩ := Option.bind_eq_some_iff.mp h
          refine rn_iald i241_249 h249 ?_
          obtain ⟨r250, h250, h⟩ := Option.bind_eq_some_iff.mp h
          obtain ⟨g250, c250⟩ := S_Mo_back a2 v249 r241.2 r250 h250
          refine fr_callV (a := a2) (As := [.inl v249]) (st := [.inl r241.1]) i241_250 (cq150 a2 v249) rfl (Nat.le_of_ble_eq_true rfl) g250 (c250 _ (by omega)) ?_
          show Rn _ _ _ _ _ _ [.inl r250.1, .inl r241.1] _ _ _
          by_cases c253 : (r241.1 : Int) = r250.1
          · rw [if_pos c253] at h
            refine rn_icmp_eq_t i241_253 c253 ?_
            exact rn_sub [0, 1, 2, 3] rfl (s_La_law_1045 hD (La_law_18 n) ih a0 a1 a2 x3 r250.2 r h)
          · rw [if_neg c253] at h
            refine rn_icmp_eq_f i241_253 c253 ?_
            refine rn_iconst i241_256 ?_
            obtain rfl := Option.some.inj h
            exact rn_retZ i241_257 mr241 (by decide)
        · rw [if_neg c33_1] at h
          by_cases c33_2 : ((oand v29 31) : Int) = 2
          · rw [if_pos c33_2] at h
            refine rn_tsw_in (tgt := 258) i241_33 2 (by omega) (by omega) rfl rfl ?_
            refine fr_aload_n i241_258 rfl ?_
            obtain ⟨r259, h259, h⟩ := Option.bind_eq_some_iff.mp h
            obtain ⟨g259, c259⟩ := S_Hh_read a1 w r259 h259
            refine fr_callV (a := a1) (As := []) (st := []) i241_259 (cq106 a1) rfl (Nat.le_of_ble_eq_true rfl) g259 (c259 _ (by omega)) ?_
            show Rn _ _ _ _ _ _ [.inl r259.1] _ _ _
            refine fr_aload_n i241_262 rfl ?_
            obtain ⟨r263, h263, h⟩ := Option.bind_eq_some_iff.mp h
            obtain ⟨g263, c263⟩ := S_Mo_read a2 r259.2 r263 h263
            refine fr_callV (a := a2) (As := []) (st := [.inl r259.1]) i241_263 (cq165 a2) rfl (Nat.le_of_ble_eq_true rfl) g263 (c263 _ (by omega)) ?_
            show Rn _ _ _ _ _ _ [.inl r263.1, .inl r259.1] _ _ _
            by_cases c266 : (r259.1 : Int) = r263.1
            · rw [if_pos c266] at h
              refine rn_icmp_eq_t i241_266 c266 ?_
              exact rn_sub [0, 1, 2, 3] rfl (s_La_law_1045 hD (La_law_18 n) ih a0 a1 a2 x3 r263.2 r h)
            · rw [if_neg c266] at h
              refine rn_icmp_eq_f i241_266 c266 ?_
              refine rn_iconst i241_269 ?_
              obtain rfl := Option.some.inj h
              exact rn_retZ i241_270 mr241 (by decide)
          · rw [if_neg c33_2] at h
            by_cases c33_3 : ((oand v29 31) : Int) = 3
            · rw [if_pos c33_3] at h
              refine rn_tsw_in (tgt := 271) i241_33 3 (by omega) (by omega) rfl rfl ?_
              refine fr_aload_n i241_271 rfl ?_
              obtain ⟨r272, h272, h⟩ := Option.bind_eq_some_iff.mp h
              obtain ⟨g272, c272⟩ := S_Hh_place a1 w r272 h272
              refine fr_callV (a := a1) (As := []) (st := []) i241_272 (cq108 a1) rfl (Nat.le_of_ble_eq_true rfl) g272 (c272 _ (by omega)) ?_
              show Rn _ _ _ _ _ _ [.inl r272.1] _ _ _
              refine fr_aload_n i241_275 rfl ?_
              obtain ⟨r276, h276, h⟩ := Option.bind_eq_some_iff.mp h
              obtain ⟨g276, c276⟩ := S_Mo_place a2 r272.2 r276 h276
              refine fr_callV (a := a2) (As := []) (st := [.inl r272.1]) i241_276 (cq166 a2) rfl (Nat.le_of_ble_eq_true rfl) g276 (c276 _ (by omega)) ?_
              show Rn _ _ _ _ _ _ [.inl r276.1, .inl r272.1] _ _ _
              by_cases c279 : (r272.1 : Int) = r276.1
              · rw [if_pos c279] at h
                refine rn_icmp_eq_t i241_279 c279 ?_
                exact rn_sub [0, 1, 2, 3] rfl (s_La_law_1045 hD (La_law_18 n) ih a0 a1 a2 x3 r276.2 r h)
              · rw [if_neg c279] at h
                refine rn_icmp_eq_f i241_279 c279 ?_
                refine rn_iconst i241_282 ?_
                obtain rfl := Option.some.inj h
                exact rn_retZ i241_283 mr241 (by decide)
            · rw [if_neg c33_3] at h
              by_cases c33_4 : ((oand v29 31) : Int) = 4
              · rw [if_pos c33_4] at h
                refine rn_tsw_in (tgt := 284) i241_33 4 (by omega) (by omega) rfl rfl ?_
                refine fr_aload_n i241_284 rfl ?_
                refine fr_aload_n i241_285 rfl ?_
                refine rn_iload_n i241_286 rfl ?_
                refine rn_iconst i241_287 ?_
                refine rn_iadd i241_288 ?_
                obtain ⟨v289, h289, h⟩ := Option.bind_eq_some_iff.mp h
                refine rn_iald i241_289 h289 ?_
                obtain ⟨r290, h290, h⟩ := Option.bind_eq_some_iff.mp h
                obtain ⟨g290, c290⟩ := S_Hh_hand a1 v289 w r290 h290
                refine fr_callV (a := a1) (As := [.inl v289]) (st := []) i241_290 (cq113 a1 v289) rfl (Nat.le_of_ble_eq_true rfl) g290 (c290 _ (by omega)) ?_
                show Rn _ _ _ _ _ _ [.inl r290.1] _ _ _
                refine fr_aload_n i241_293 rfl ?_
                refine fr_aload_n i241_294 rfl ?_
                refine rn_iload_n i241_295 rfl ?_
                refine rn_iconst i241_296 ?_
                refine rn_iadd i241_297 ?_
                obtain ⟨v298, h298, h⟩ := Option.bind_eq_some_iff.mp h
                refine rn_iald i241_298 h298 ?_
                obtain ⟨r299, h299, h⟩ := Option.bind_eq_some_iff.mp h
                obtain ⟨g299, c299⟩ := S_Mo_hand a2 v298 r290.2 r299 h299
                refine fr_callV (a := a2) (As := [.inl v298]) (st := [.inl r290.1]) i241_299 (cq207 a2 v298) rfl (Nat.le_of_ble_eq_true rfl) g299 (c299 _ (by omega)) ?_
                show Rn _ _ _ _ _ _ [.inl r299.1, .inl r290.1] _ _ _
                by_cases c302 : (r290.1 : Int) = r299.1
                · rw [if_pos c302] at h
                  refine rn_icmp_eq_t i241_302 c302 ?_
                  exact rn_sub [0, 1, 2, 3] rfl (s_La_law_1045 hD (La_law_18 n) ih a0 a1 a2 x3 r299.2 r h)
                · rw [if_neg c302] at h
                  refine rn_icmp_eq_f i241_302 c302 ?_
                  refine rn_iconst i241_305 ?_
                  obtain rfl := Option.some.inj h
                  exact rn_retZ i241_306 mr241 (by decide)
              · rw [if_neg c33_4] at h
                by_cases c33_5 : ((oand v29 31) : Int) = 5
                · rw [if_pos c33_5] at h
                  refine rn_tsw_in (tgt := 307) i241_33 5 (by omega) (by omega) rfl rfl ?_
                  refine fr_aload_n i241_307 rfl ?_
                  refine fr_aload_n i241_308 rfl ?_
                  refine rn_iload_n i241_309 rfl ?_
                  refine rn_iconst i241_310 ?_
                  refine rn_iadd i241_311 ?_
                  obtain ⟨v312, h312, h⟩ := Option.bind_eq_some_iff.mp h
                  refine rn_iald i241_312 h312 ?_
                  refine fr_aload_n i241_313 rfl ?_
                  refine rn_iload_n i241_314 rfl ?_
                  refine rn_iconst i241_315 ?_
                  refine rn_iadd i241_316 ?_
                  obtain ⟨v317, h317, h⟩ := Option.bind_eq_some_iff.mp h
                  refine rn_iald i241_317 h317 ?_
                  refine fr_aload_n i241_318 rfl ?_
                  refine rn_iload_n i241_319 rfl ?_
                  refine rn_iconst i241_320 ?_
                  refine rn_iadd i241_321 ?_
                  obtain ⟨v322, h322, h⟩ := Option.bind_eq_some_iff.mp h
                  refine rn_iald i241_322 h322 ?_
                  obtain ⟨r323, h323, h⟩ := Option.bind_eq_some_iff.mp h
                  obtain ⟨g323, c323⟩ := S_Hh_shape a1 v312 v317 v322 w r323 h323
                  refine fr_callV (a := a1) (As := [.inl v312, .inl v317, .inl v322]) (st := []) i241_323 (cq114 a1 v312 v317 v322) rfl (Nat.le_of_ble_eq_true rfl) g323 (c323 _ (by omega)) ?_
                  show Rn _ _ _ _ _ _ [.inl r323.1] _ _ _
                  refine fr_aload_n i241_326 rfl ?_
                  refine fr_aload_n i241_327 rfl ?_
                  refine rn_iload_n i241_328 rfl ?_
                  refine rn_iconst i241_329 ?_
                  refine rn_iadd i241_330 ?_
                  obtain ⟨v331, h331, h⟩ := Option.bind_eq_some_iff.mp h
                  refine rn_iald i241_331 h331 ?_
                  refine fr_aload_n i241_332 rfl ?_
                  refine rn_iload_n i241_333 rfl ?_
                  refine rn_iconst i241_334 ?_
                  refine rn_iadd i241_335 ?_
                  obtain ⟨v336, h336, h⟩ := Option.bind_eq_some_iff.mp h
                  refine rn_iald i241_336 h336 ?_
                  refine fr_aload_n i241_337 rfl ?_
                  refine rn_iload_n i241_338 rfl ?_
                  refine rn_iconst i241_339 ?_
                  refine rn_iadd i241_340 ?_
                  obtain ⟨v341, h341, h⟩ := Option.bind_eq_some_iff.mp h
                  refine rn_iald i241_341 h341 ?_
                  obtain ⟨r342, h342, h⟩ := Option.bind_eq_some_iff.mp h
                  obtain ⟨g342, c342⟩ := S_Mo_shape a2 v331 v336 v341 r323.2 r342 h342
                  refine fr_callV (a := a2) (As := [.inl v331, .inl v336, .inl v341]) (st := [.inl r323.1]) i241_342 (cq208 a2 v331 v336 v341) rfl (Nat.le_of_ble_eq_true rfl) g342 (c342 _ (by omega)) ?_
                  show Rn _ _ _ _ _ _ [.inl r342.1, .inl r323.1] _ _ _
                  by_cases c345 : (r323.1 : Int) = r342.1
                  · rw [if_pos c345] at h
                    refine rn_icmp_eq_t i241_345 c345 ?_
                    exact rn_sub [0, 1, 2, 3] rfl (s_La_law_1045 hD (La_law_18 n) ih a0 a1 a2 x3 r342.2 r h)
                  · rw [if_neg c345] at h
                    refine rn_icmp_eq_f i241_345 c345 ?_
                    refine rn_iconst i241_348 ?_
                    obtain rfl := Option.some.inj h
                    exact rn_retZ i241_349 mr241 (by decide)
                · rw [if_neg c33_5] at h
                  by_cases c33_6 : ((oand v29 31) : Int) = 6
                  · rw [if_pos c33_6] at h
                    refine rn_tsw_in (tgt := 350) i241_33 6 (by omega) (by omega) rfl rfl ?_
                    refine fr_aload_n i241_350 rfl ?_
                    refine fr_aload_n i241_351 rfl ?_
                    refine rn_iload_n i241_352 rfl ?_
                    refine rn_iconst i241_353 ?_
                    refine rn_iadd i241_354 ?_
                    obtain ⟨v355, h355, h⟩ := Option.bind_eq_some_iff.mp h
                    refine rn_iald i241_355 h355 ?_
                    refine fr_aload_n i241_356 rfl ?_
                    refine rn_iload_n i241_357 rfl ?_
                    refine rn_iconst i241_358 ?_
                    refine rn_iadd i241_359 ?_
                    obtain ⟨v360, h360, h⟩ := Option.bind_eq_some_iff.mp h
                    refine rn_iald i241_360 h360 ?_
                    obtain ⟨r361, h361, h⟩ := Option.bind_eq_some_iff.mp h
                    obtain ⟨g361, c361⟩ := S_Hh_heir a1 v355 v360 w r361 h361
                    refine fr_callV (a := a1) (As := [.inl v355, .inl v360]) (st := []) i241_361 (cq115 a1 v355 v360) rfl (Nat.le_of_ble_eq_true rfl) g361 (c361 _ (by omega)) ?_
                    show Rn _ _ _ _ _ _ [.inl r361.1] _ _ _
                    refine fr_aload_n i241_364 rfl ?_
                    refine fr_aload_n i241_365 rfl ?_
                    refine rn_iload_n i241_366 rfl ?_
                    refine rn_iconst i241_367 ?_
                    refine rn_iadd i241_368 ?_
                    obtain ⟨v369, h369, h⟩ := Option.bind_eq_some_iff.mp h
                    refine rn_iald i241_369 h369 ?_
                    refine fr_aload_n i241_370 rfl ?_
                    refine rn_iload_n i241_371 rfl ?_
                    refine rn_iconst i241_372 ?_
                    refine rn_iadd i241_373 ?_
                    obtain ⟨v374, h374, h⟩ := Option.bind_eq_some_iff.mp h
                    refine rn_iald i241_374 h374 ?_
                    obtain ⟨r375, h375, h⟩ := Option.bind_eq_some_iff.mp h
                    obtain ⟨g375, c375⟩ := S_Mo_heir a2 v369 v374 r361.2 r375 h375
                    refine fr_callV (a := a2) (As := [.inl v369, .inl v374]) (st := [.inl r361.1]) i241_375 (cq209 a2 v369 v374) rfl (Nat.le_of_ble_eq_true rfl) g375 (c375 _ (by omega)) ?_
                    show Rn _ _ _ _ _ _ [.inl r375.1, .inl r361.1] _ _ _
                    by_cases c378 : (r361.1 : Int) = r375.1
                    · rw [if_pos c378] at h
                      refine rn_icmp_eq_t i241_378 c378 ?_
                      exact rn_sub [0, 1, 2, 3] rfl (s_La_law_1045 hD (La_law_18 n) ih a0 a1 a2 x3 r375.2 r h)
                    · rw [if_neg c378] at h
                      refine rn_icmp_eq_f i241_378 c378 ?_
                      refine rn_iconst i241_381 ?_
                      obtain rfl := Option.some.inj h
                      exact rn_retZ i241_382 mr241 (by decide)
                  · rw [if_neg c33_6] at h
                    by_cases c33_7 : ((oand v29 31) : Int) = 7
                    · rw [if_pos c33_7] at h
                      refine rn_tsw_in (tgt := 383) i241_33 7 (by omega) (by omega) rfl rfl ?_
                      refine fr_aload_n i241_383 rfl ?_
                      refine fr_aload_n i241_384 rfl ?_
                      refine rn_iload_n i241_385 rfl ?_
                      refine rn_iconst i241_386 ?_
                      refine rn_iadd i241_387 ?_
                      obtain ⟨v388, h388, h⟩ := Option.bind_eq_some_iff.mp h
                      refine rn_iald i241_388 h388 ?_
                      refine fr_aload_n i241_389 rfl ?_
                      refine rn_iload_n i241_390 rfl ?_
                      refine rn_iconst i241_391 ?_
                      refine rn_iadd i241_392 ?_
                      obtain ⟨v393, h393, h⟩ := Option.bind_eq_some_iff.mp h
                      refine rn_iald i241_393 h393 ?_
                      obtain ⟨r394, h394, h⟩ := Option.bind_eq_some_iff.mp h
                      obtain ⟨g394, c394⟩ := S_Hh_unlike a1 v388 v393 w r394 h394
                      refine fr_callV (a := a1) (As := [.inl v388, .inl v393]) (st := []) i241_394 (cq117 a1 v388 v393) rfl (Nat.le_of_ble_eq_true rfl) g394 (c394 _ (by omega)) ?_
                      show Rn _ _ _ _ _ _ [.inl r394.1] _ _ _
                      refine fr_aload_n i241_397 rfl ?_
                      refine fr_aload_n i241_398 rfl ?_
                      refine rn_iload_n i241_399 rfl ?_
                      refine rn_iconst i241_400 ?_
                      refine rn_iadd i241_401 ?_
                      obtain ⟨v402, h402, h⟩ := Option.bind_eq_some_iff.mp h
                      refine rn_iald i241_402 h402 ?_
                      refine fr_aload_n i241_403 rfl ?_
                      refine rn_iload_n i241_404 rfl ?_
                      refine rn_iconst i241_405 ?_
                      refine rn_iadd i241_406 ?_
                      obtain ⟨v407, h407, h⟩ := Option.bind_eq_some_iff.mp h
                      refine rn_iald i241_407 h407 ?_
                      obtain ⟨r408, h408, h⟩ := Option.bind_eq_some_iff.mp h
                      obtain ⟨g408, c408⟩ := S_Mo_unlike a2 v402 v407 r394.2 r408 h408
                      refine fr_callV (a := a2) (As := [.inl v402, .inl v407]) (st := [.inl r394.1]) i241_408 (cq210 a2 v402 v407) rfl (Nat.le_of_ble_eq_true rfl) g408 (c408 _ (by omega)) ?_
                      show Rn _ _ _ _ _ _ [.inl r408.1, .inl r394.1] _ _ _
                      by_cases c411 : (r394.1 : Int) = r408.1
                      · rw [if_pos c411] at h
                        refine rn_icmp_eq_t i241_411 c411 ?_
                        exact rn_sub [0, 1, 2, 3] rfl (s_La_law_1045 hD (La_law_18 n) ih a0 a1 a2 x3 r408.2 r h)
                      · rw [if_neg c411] at h
                        refine rn_icmp_eq_f i241_411 c411 ?_
                        refine rn_iconst i241_414 ?_
                        obtain rfl := Option.some.inj h
                        exact rn_retZ i241_415 mr241 (by decide)
                    · rw [if_neg c33_7] at h
                      by_cases c33_8 : ((oand v29 31) : Int) = 8
                      · rw [if_pos c33_8] at h
                        refine rn_tsw_in (tgt := 416) i241_33 8 (by omega) (by omega) rfl rfl ?_
                        refine fr_aload_n i241_416 rfl ?_
                        refine fr_aload_n i241_417 rfl ?_
                        refine rn_iload_n i241_418 rfl ?_
                        refine rn_iconst i241_419 ?_
                        refine rn_iadd i241_420 ?_
                        obtain ⟨v421, h421, h⟩ := Option.bind_eq_some_iff.mp h
                        refine rn_iald i241_421 h421 ?_
                        obtain ⟨r422, h422, h⟩ := Option.bind_eq_some_iff.mp h
                        obtain ⟨g422, c422⟩ := S_Hh_vote a1 v421 w r422 h422
                        refine fr_callV (a := a1) (As := [.inl v421]) (st := []) i241_422 (cq118 a1 v421) rfl (Nat.le_of_ble_eq_true rfl) g422 (c422 _ (by omega)) ?_
                        show Rn _ _ _ _ _ _ [.inl r422.1] _ _ _
                        refine fr_aload_n i241_425 rfl ?_
                        refine fr_aload_n i241_426 rfl ?_
                        refine rn_iload_n i241_427 rfl ?_
                        refine rn_iconst i241_428 ?_
                        refine rn_iadd i241_429 ?_
                        obtain ⟨v430, h430, h⟩ := Option.bind_eq_some_iff.mp h
                        refine rn_iald i241_430 h430 ?_
                        obtain ⟨r431, h431, h⟩ := Option.bind_eq_some_iff.mp h
                        obtain ⟨g431, c431⟩ := S_Mo_vote a2 v430 r422.2 r431 h431
                        refine fr_callV (a := a2) (As := [.inl v430]) (st := [.inl r422.1]) i241_431 (cq212 a2 v430) rfl (Nat.le_of_ble_eq_true rfl) g431 (c431 _ (by omega)) ?_
                        show Rn _ _ _ _ _ _ [.inl r431.1, .inl r422.1] _ _ _
                        by_cases c434 : (r422.1 : Int) = r431.1
                        · rw [if_pos c434] at h
                          refine rn_icmp_eq_t i241_434 c434 ?_
                          exact rn_sub [0, 1, 2, 3] rfl (s_La_law_1045 hD (La_law_18 n) ih a0 a1 a2 x3 r431.2 r h)
                        · rw [if_neg c434] at h
                          refine rn_icmp_eq_f i241_434 c434 ?_
                          refine rn_iconst i241_437 ?_
                          obtain rfl := Option.some.inj h
                          exact rn_retZ i241_438 mr241 (by decide)
                      · rw [if_neg c33_8] at h
                        by_cases c33_9 : ((oand v29 31) : Int) = 9
                        · rw [if_pos c33_9] at h
                          refine rn_tsw_in (tgt := 439) i241_33 9 (by omega) (by omega) rfl rfl ?_
                          refine fr_aload_n i241_439 rfl ?_
                          obtain ⟨r440, h440, h⟩ := Option.bind_eq_some_iff.mp h
                          obtain ⟨g440, c440⟩ := S_Hh_judge a1 w r440 h440
                          refine fr_callV (a := a1) (As := []) (st := []) i241_440 (cq119 a1) rfl (Nat.le_of_ble_eq_true rfl) g440 (c440 _ (by omega)) ?_
                          show Rn _ _ _ _ _ _ [.inl r440.1] _ _ _
                          refine fr_aload_n i241_443 rfl ?_
                          obtain ⟨r444, h444, h⟩ := Option.bind_eq_some_iff.mp h
                          obtain ⟨g444, c444⟩ := S_Mo_judge a2 r440.2 r444 h444
                          refine fr_callV (a := a2) (As := []) (st := [.inl r440.1]) i241_444 (cq213 a2) rfl (Nat.le_of_ble_eq_true rfl) g444 (c444 _ (by omega)) ?_
                          show Rn _ _ _ _ _ _ [.inl r444.1, .inl r440.1] _ _ _
                          by_cases c447 : (r440.1 : Int) = r444.1
                          · rw [if_pos c447] at h
                            refine rn_icmp_eq_t i241_447 c447 ?_
                            exact rn_sub [0, 1, 2, 3] rfl (s_La_law_1045 hD (La_law_18 n) ih a0 a1 a2 x3 r444.2 r h)
                          · rw [if_neg c447] at h
                            refine rn_icmp_eq_f i241_447 c447 ?_
                            refine rn_iconst i241_450 ?_
                            obtain rfl := Option.some.inj h
                            exact rn_retZ i241_451 mr241 (by decide)
                        · rw [if_neg c33_9] at h
                          by_cases c33_10 : ((oand v29 31) : Int) = 10
                          · rw [if_pos c33_10] at h
                            refine rn_tsw_in (tgt := 452) i241_33 10 (by omega) (by omega) rfl rfl ?_
                            refine fr_aload_n i241_452 rfl ?_
                            refine fr_aload_n i241_453 rfl ?_
                            refine rn_iload_n i241_454 rfl ?_
                            refine rn_iconst i241_455 ?_
                            refine rn_iadd i241_456 ?_
                            obtain ⟨v457, h457, h⟩ := Option.bind_eq_some_iff.mp h
                            refine rn_iald i241_457 h457 ?_
                            refine fr_aload_n i241_458 rfl ?_
                            refine rn_iload_n i241_459 rfl ?_
                            refine rn_iconst i241_460 ?_
                            refine rn_iadd i241_461 ?_
                            obtain ⟨v462, h462, h⟩ := Option.bind_eq_some_iff.mp h
                            refine rn_iald i241_462 h462 ?_
                            refine fr_aload_n i241_463 rfl ?_
                            refine rn_iload_n i241_464 rfl ?_
                            refine rn_iconst i241_465 ?_
                            refine rn_iadd i241_466 ?_
                            obtain ⟨v467, h467, h⟩ := Option.bind_eq_some_iff.mp h
                            refine rn_iald i241_467 h467 ?_
                            obtain ⟨r468, h468, h⟩ := Option.bind_eq_some_iff.mp h
                            obtain ⟨g468, c468⟩ := S_Hh_lesson a1 v457 v462 v467 w r468 h468
                            refine fr_callV (a := a1) (As := [.inl v457, .inl v462, .inl v467]) (st := []) i241_468 (cq120 a1 v457 v462 v467) rfl (Nat.le_of_ble_eq_true rfl) g468 (c468 _ (by omega)) ?_
                            show Rn _ _ _ _ _ _ [.inl r468.1] _ _ _
                            refine fr_aload_n i241_471 rfl ?_
                            refine fr_aload_n i241_472 rfl ?_
                            refine rn_iload_n i241_473 rfl ?_
                            refine rn_iconst i241_474 ?_
                            refine rn_iadd i241_475 ?_
                            obtain ⟨v476, h476, h⟩ := Option.bind_eq_some_iff.mp h
                            refine rn_iald i241_476 h476 ?_
                            refine fr_aload_n i241_477 rfl ?_
                            refine rn_iload_n i241_478 rfl ?_
                            refine rn_iconst i241_479 ?_
                            refine rn_iadd i241_480 ?_
                            obtain ⟨v481, h481, h⟩ := Option.bind_eq_some_iff.mp h
                            refine rn_iald i241_481 h481 ?_
                            refine fr_aload_n i241_482 rfl ?_
                            refine rn_iload_n i241_483 rfl ?_
                            refine rn_iconst i241_484 ?_
                            refine rn_iadd i241_485 ?_
                            obtain ⟨v486, h486, h⟩ := Option.bind_eq_some_iff.mp h
                            refine rn_iald i241_486 h486 ?_
                            obtain ⟨r487, h487, h⟩ := Option.bind_eq_some_iff.mp h
                            obtain ⟨g487, c487⟩ := S_Mo_lesson a2 v476 v481 v486 r468.2 r487 h487
                            refine fr_callV (a := a2) (As := [.inl v476, .inl v481, .inl v486]) (st := [.inl r468.1]) i241_487 (cq215 a2 v476 v481 v486) rfl (Nat.le_of_ble_eq_true rfl) g487 (c487 _ (by omega)) ?_
                            show Rn _ _ _ _ _ _ [.inl r487.1, .inl r468.1] _ _ _
                            by_cases c490 : (r468.1 : Int) = r487.1
                            · rw [if_pos c490] at h
                              refine rn_icmp_eq_t i241_490 c490 ?_
                              exact rn_sub [0, 1, 2, 3] rfl (s_La_law_1045 hD (La_law_18 n) ih a0 a1 a2 x3 r487.2 r h)
                            · rw [if_neg c490] at h
                              refine rn_icmp_eq_f i241_490 c490 ?_
                              refine rn_iconst i241_493 ?_
                              obtain rfl := Option.some.inj h
                              exact rn_retZ i241_494 mr241 (by decide)
                          · rw [if_neg c33_10] at h
                            by_cases c33_11 : ((oand v29 31) : Int) = 11
                            · rw [if_pos c33_11] at h
                              refine rn_tsw_in (tgt := 495) i241_33 11 (by omega) (by omega) rfl rfl ?_
                              refine fr_aload_n i241_495 rfl ?_
                              refine fr_aload_n i241_496 rfl ?_
                              refine rn_iload_n i241_497 rfl ?_
                              refine rn_iconst i241_498 ?_
                              refine rn_iadd i241_499 ?_
                              obtain ⟨v500, h500, h⟩ := Option.bind_eq_some_iff.mp h
                              refine rn_iald i241_500 h500 ?_
                              obtain ⟨r501, h501, h⟩ := Option.bind_eq_some_iff.mp h
                              obtain ⟨g501, c501⟩ := S_Hh_years a1 v500 w r501 h501
                              refine fr_callV (a := a1) (As := [.inl v500]) (st := []) i241_501 (cq121 a1 v500) rfl (Nat.le_of_ble_eq_true rfl) g501 (c501 _ (by omega)) ?_
                              show Rn _ _ _ _ _ _ [.inl r501.1] _ _ _
                              refine fr_aload_n i241_504 rfl ?_
                              refine fr_aload_n i241_505 rfl ?_
                              refine rn_iload_n i241_506 rfl ?_
                              refine rn_iconst i241_507 ?_
                              refine rn_iadd i241_508 ?_
                              obtain ⟨v509, h509, h⟩ := Option.bind_eq_some_iff.mp h
                              refine rn_iald i241_509 h509 ?_
                              obtain ⟨r510, h510, h⟩ := Option.bind_eq_some_iff.mp h
                              obtain ⟨g510, c510⟩ := S_Mo_years a2 v509 r501.2 r510 h510
                              refine fr_callV (a := a2) (As := [.inl v509]) (st := [.inl r501.1]) i241_510 (cq216 a2 v509) rfl (Nat.le_of_ble_eq_true rfl) g510 (c510 _ (by omega)) ?_
                              show Rn _ _ _ _ _ _ [.inl r510.1, .inl r501.1] _ _ _
                              by_cases c513 : (r501.1 : Int) = r510.1
                              · rw [if_pos c513] at h
                                refine rn_icmp_eq_t i241_513 c513 ?_
                                exact rn_sub [0, 1, 2, 3] rfl (s_La_law_1045 hD (La_law_18 n) ih a0 a1 a2 x3 r510.2 r h)
                              · rw [if_neg c513] at h
                                refine rn_icmp_eq_f i241_513 c513 ?_
                                refine rn_iconst i241_516 ?_
                                obtain rfl := Option.some.inj h
                                exact rn_retZ i241_517 mr241 (by decide)
                            · rw [if_neg c33_11] at h
                              by_cases c33_12 : ((oand v29 31) : Int) = 12
                              · rw [if_pos c33_12] at h
                                refine rn_tsw_in (tgt := 518) i241_33 12 (by omega) (by omega) rfl rfl ?_
                                refine fr_aload_n i241_518 rfl ?_
                                obtain ⟨r519, h519, h⟩ := Option.bind_eq_some_iff.mp h
                                obtain ⟨g519, c519⟩ := S_Hh_undo a1 w r519 h519
                                refine fr_callV (a := a1) (As := []) (st := []) i241_519 (cq122 a1) rfl (Nat.le_of_ble_eq_true rfl) g519 (c519 _ (by omega)) ?_
                                show Rn _ _ _ _ _ _ [.inl r519.1] _ _ _
                                refine fr_aload_n i241_522 rfl ?_
                                obtain ⟨r523, h523, h⟩ := Option.bind_eq_some_iff.mp h
                                obtain ⟨g523, c523⟩ := S_Mo_undo a2 r519.2 r523 h523
                                refine fr_callV (a := a2) (As := []) (st := [.inl r519.1]) i241_523 (cq217 a2) rfl (Nat.le_of_ble_eq_true rfl) g523 (c523 _ (by omega)) ?_
                                show Rn _ _ _ _ _ _ [.inl r523.1, .inl r519.1] _ _ _
                                by_cases c526 : (r519.1 : Int) = r523.1
                                · rw [if_pos c526] at h
                                  refine rn_icmp_eq_t i241_526 c526 ?_
                                  exact rn_sub [0, 1, 2, 3] rfl (s_La_law_1045 hD (La_law_18 n) ih a0 a1 a2 x3 r523.2 r h)
                                · rw [if_neg c526] at h
                                  refine rn_icmp_eq_f i241_526 c526 ?_
                                  refine rn_iconst i241_529 ?_
                                  obtain rfl := Option.some.inj h
                                  exact rn_retZ i241_530 mr241 (by decide)
                              · rw [if_neg c33_12] at h
                                by_cases c33_13 : ((oand v29 31) : Int) = 13
                                · rw [if_pos c33_13] at h
                                  refine rn_tsw_in (tgt := 531) i241_33 13 (by omega) (by omega) rfl rfl ?_
                                  refine fr_aload_n i241_531 rfl ?_
                                  refine fr_aload_n i241_532 rfl ?_
                                  refine rn_iload_n i241_533 rfl ?_
                                  refine rn_iconst i241_534 ?_
                                  refine rn_iadd i241_535 ?_
                                  obtain ⟨v536, h536, h⟩ := Option.bind_eq_some_iff.mp h
                                  refine rn_iald i241_536 h536 ?_
                                  refine fr_aload_n i241_537 rfl ?_
                                  refine rn_iload_n i241_538 rfl ?_
                                  refine rn_iconst i241_539 ?_
                                  refine rn_iadd i241_540 ?_
                                  obtain ⟨v541, h541, h⟩ := Option.bind_eq_some_iff.mp h
                                  refine rn_iald i241_541 h541 ?_
                                  obtain ⟨r542, h542, h⟩ := Option.bind_eq_some_iff.mp h
                                  obtain ⟨g542, c542⟩ := S_Hh_book a1 v536 v541 w r542 h542
                                  refine fr_callV (a := a1) (As := [.inl v536, .inl v541]) (st := []) i241_542 (cq123 a1 v536 v541) rfl (Nat.le_of_ble_eq_true rfl) g542 (c542 _ (by omega)) ?_
                                  show Rn _ _ _ _ _ _ [.inl r542.1] _ _ _
                                  refine fr_aload_n i241_545 rfl ?_
                                  refine fr_aload_n i241_546 rfl ?_
                                  refine rn_iload_n i241_547 rfl ?_
                                  refine rn_iconst i241_548 ?_
                                  refine rn_iadd i241_549 ?_
                                  obtain ⟨v550, h550, h⟩ := Option.bind_eq_some_iff.mp h
                                  refine rn_iald i241_550 h550 ?_
                                  refine fr_aload_n i241_551 rfl ?_
                                  refine rn_iload_n i241_552 rfl ?_
                                  refine rn_iconst i241_553 ?_
                                  refine rn_iadd i241_554 ?_
                                  obtain ⟨v555, h555, h⟩ := Option.bind_eq_some_iff.mp h
                                  refine rn_iald i241_555 h555 ?_
                                  obtain ⟨r556, h556, h⟩ := Option.bind_eq_some_iff.mp h
                                  obtain ⟨g556, c556⟩ := S_Mo_book a2 v550 v555 r542.2 r556 h556
                                  refine fr_callV (a := a2) (As := [.inl v550, .inl v555]) (st := [.inl r542.1]) i241_556 (cq218 a2 v550 v555) rfl (Nat.le_of_ble_eq_true rfl) g556 (c556 _ (by omega)) ?_
                                  show Rn _ _ _ _ _ _ [.inl r556.1, .inl r542.1] _ _ _
                                  by_cases c559 : (r542.1 : Int) = r556.1
                                  · rw [if_pos c559] at h
                                    refine rn_icmp_eq_t i241_559 c559 ?_
                                    exact rn_sub [0, 1, 2, 3] rfl (s_La_law_1045 hD (La_law_18 n) ih a0 a1 a2 x3 r556.2 r h)
                                  · rw [if_neg c559] at h
                                    refine rn_icmp_eq_f i241_559 c559 ?_
                                    refine rn_iconst i241_562 ?_
                                    obtain rfl := Option.some.inj h
                                    exact rn_retZ i241_563 mr241 (by decide)
                                · rw [if_neg c33_13] at h
                                  by_cases c33_14 : ((oand v29 31) : Int) = 14
                                  · rw [if_pos c33_14] at h
                                    refine rn_tsw_in (tgt := 564) i241_33 14 (by omega) (by omega) rfl rfl ?_
                                    refine fr_aload_n i241_564 rfl ?_
                                    refine fr_aload_n i241_565 rfl ?_
                                    refine rn_iload_n i241_566 rfl ?_
                                    refine rn_iconst i241_567 ?_
                                    refine rn_iadd i241_568 ?_
                                    obtain ⟨v569, h569, h⟩ := Option.bind_eq_some_iff.mp h
                                    refine rn_iald i241_569 h569 ?_
                                    refine fr_aload_n i241_570 rfl ?_
                                    refine rn_iload_n i241_571 rfl ?_
                                    refine rn_iconst i241_572 ?_
                                    refine rn_iadd i241_573 ?_
                                    obtain ⟨v574, h574, h⟩ := Option.bind_eq_some_iff.mp h
                                    refine rn_iald i241_574 h574 ?_
                                    obtain ⟨r575, h575, h⟩ := Option.bind_eq_some_iff.mp h
                                    obtain ⟨g575, c575⟩ := S_Hh_plan a1 v569 v574 w r575 h575
                                    refine fr_callV (a := a1) (As := [.inl v569, .inl v574]) (st := []) i241_575 (cq124 a1 v569 v574) rfl (Nat.le_of_ble_eq_true rfl) g575 (c575 _ (by omega)) ?_
                                    show Rn _ _ _ _ _ _ [.inl r575.1] _ _ _
                                    refine fr_aload_n i241_578 rfl ?_
                                    refine fr_aload_n i241_579 rfl ?_
                                    refine rn_iload_n i241_580 rfl ?_
                                    refine rn_iconst i241_581 ?_
                                    refine rn_iadd i241_582 ?_
                                    obtain ⟨v583, h583, h⟩ := Option.bind_eq_some_iff.mp h
                                    refine rn_iald i241_583 h583 ?_
                                    refine fr_aload_n i241_584 rfl ?_
                                    refine rn_iload_n i241_585 rfl ?_
                                    refine rn_iconst i241_586 ?_
                                    refine rn_iadd i241_587 ?_
                                    obtain ⟨v588, h588, h⟩ := Option.bind_eq_some_iff.mp h
                                    refine rn_iald i241_588 h588 ?_
                                    obtain ⟨r589, h589, h⟩ := Option.bind_eq_some_iff.mp h
                                    obtain ⟨g589, c589⟩ := S_Mo_plan a2 v583 v588 r575.2 r589 h589
                                    refine fr_callV (a := a2) (As := [.inl v583, .inl v588]) (st := [.inl r575.1]) i241_589 (cq221 a2 v583 v588) rfl (Nat.le_of_ble_eq_true rfl) g589 (c589 _ (by omega)) ?_
                                    show Rn _ _ _ _ _ _ [.inl r589.1, .inl r575.1] _ _ _
                                    by_cases c592 : (r575.1 : Int) = r589.1
                                    · rw [if_pos c592] at h
                                      refine rn_icmp_eq_t i241_592 c592 ?_
                                      exact rn_sub [0, 1, 2, 3] rfl (s_La_law_1045 hD (La_law_18 n) ih a0 a1 a2 x3 r589.2 r h)
                                    · rw [if_neg c592] at h
                                      refine rn_icmp_eq_f i241_592 c592 ?_
                                      refine rn_iconst i241_595 ?_
                                      obtain rfl := Option.some.inj h
                                      exact rn_retZ i241_596 mr241 (by decide)
                                  · rw [if_neg c33_14] at h
                                    by_cases c33_15 : ((oand v29 31) : Int) = 15
                                    · rw [if_pos c33_15] at h
                                      refine rn_tsw_in (tgt := 597) i241_33 15 (by omega) (by omega) rfl rfl ?_
                                      refine fr_aload_n i241_597 rfl ?_
                                      refine fr_aload_n i241_598 rfl ?_
                                      refine rn_iload_n i241_599 rfl ?_
                                      refine rn_iconst i241_600 ?_
                                      refine rn_iadd i241_601 ?_
                                      obtain ⟨v602, h602, h⟩ := Option.bind_eq_some_iff.mp h
                                      refine rn_iald i241_602 h602 ?_
                                      refine fr_aload_n i241_603 rfl ?_
                                      refine rn_iload_n i241_604 rfl ?_
                                      refine rn_iconst i241_605 ?_
                                      refine rn_iadd i241_606 ?_
                                      obtain ⟨v607, h607, h⟩ := Option.bind_eq_some_iff.mp h
                                      refine rn_iald i241_607 h607 ?_
                                      refine fr_aload_n i241_608 rfl ?_
                                      refine rn_iload_n i241_609 rfl ?_
                                      refine rn_iconst i241_610 ?_
                                      refine rn_iadd i241_611 ?_
                                      obtain ⟨v612, h612, h⟩ := Option.bind_eq_some_iff.mp h
                                      refine rn_iald i241_612 h612 ?_
                                      obtain ⟨r613, h613, h⟩ := Option.bind_eq_some_iff.mp h
                                      obtain ⟨g613, c613⟩ := S_Hh_planOf a1 v602 v607 v612 w r613 h613
                                      refine fr_callV (a := a1) (As := [.inl v602, .inl v607, .inl v612]) (st := []) i241_613 (cq125 a1 v602 v607 v612) rfl (Nat.le_of_ble_eq_true rfl) g613 (c613 _ (by omega)) ?_
                                      show Rn _ _ _ _ _ _ [.inl r613.1] _ _ _
                                      refine fr_aload_n i241_616 rfl ?_
                                      refine fr_aload_n i241_617 rfl ?_
                                      refine rn_iload_n i241_618 rfl ?_
                                      refine rn_iconst i241_619 ?_
                                      refine rn_iadd i241_620 ?_
                                      obtain ⟨v621, h621, h⟩ := Option.bind_eq_some_iff.mp h
                                      refine rn_iald i241_621 h621 ?_
                                      refine fr_aload_n i241_622 rfl ?_
                                      refine rn_iload_n i241_623 rfl ?_
                                      refine rn_iconst i241_624 ?_
                                      refine rn_iadd i241_625 ?_
                                      obtain ⟨v626, h626, h⟩ := Option.bind_eq_some_iff.mp h
                                      refine rn_iald i241_626 h626 ?_
                                      refine fr_aload_n i241_627 rfl ?_
                                      refine rn_iload_n i241_628 rfl ?_
                                      refine rn_iconst i241_629 ?_
                                      refine rn_iadd i241_630 ?_
                                      obtain ⟨v631, h631, h⟩ := Option.bind_eq_some_iff.mp h
                                      refine rn_iald i241_631 h631 ?_
                                      obtain ⟨r632, h632, h⟩ := Option.bind_eq_some_iff.mp h
                                      obtain ⟨g632, c632⟩ := S_Mo_planOf a2 v621 v626 v631 r613.2 r632 h632
                                      refine fr_callV (a := a2) (As := [.inl v621, .inl v626, .inl v631]) (st := [.inl r613.1]) i241_632 (cq222 a2 v621 v626 v631) rfl (Nat.le_of_ble_eq_true rfl) g632 (c632 _ (by omega)) ?_
                                      show Rn _ _ _ _ _ _ [.inl r632.1, .inl r613.1] _ _ _
                                      by_cases c635 : (r613.1 : Int) = r632.1
                                      · rw [if_pos c635] at h
                                        refine rn_icmp_eq_t i241_635 c635 ?_
                                        exact rn_sub [0, 1, 2, 3] rfl (s_La_law_1045 hD (La_law_18 n) ih a0 a1 a2 x3 r632.2 r h)
                                      · rw [if_neg c635] at h
                                        refine rn_icmp_eq_f i241_635 c635 ?_
                                        refine rn_iconst i241_638 ?_
                                        obtain rfl := Option.some.inj h
                                        exact rn_retZ i241_639 mr241 (by decide)
                                    · rw [if_neg c33_15] at h
                                      by_cases c33_16 : ((oand v29 31) : Int) = 16
                                      · rw [if_pos c33_16] at h
                                        refine rn_tsw_in (tgt := 640) i241_33 16 (by omega) (by omega) rfl rfl ?_
                                        refine fr_aload_n i241_640 rfl ?_
                                        refine fr_aload_n i241_641 rfl ?_
                                        refine rn_iload_n i241_642 rfl ?_
                                        refine rn_iconst i241_643 ?_
                                        refine rn_iadd i241_644 ?_
                                        obtain ⟨v645, h645, h⟩ := Option.bind_eq_some_iff.mp h
                                        refine rn_iald i241_645 h645 ?_
                                        obtain ⟨r646, h646, h⟩ := Option.bind_eq_some_iff.mp h
                                        obtain ⟨g646, c646⟩ := S_Hh_needs a1 v645 w r646 h646
                                        refine fr_callV (a := a1) (As := [.inl v645]) (st := []) i241_646 (cq126 a1 v645) rfl (Nat.le_of_ble_eq_true rfl) g646 (c646 _ (by omega)) ?_
                                        show Rn _ _ _ _ _ _ [.inl r646.1] _ _ _
                                        refine fr_aload_n i241_649 rfl ?_
                                        refine fr_aload_n i241_650 rfl ?_
                                        refine rn_iload_n i241_651 rfl ?_
                                        refine rn_iconst i241_652 ?_
                                        refine rn_iadd i241_653 ?_
                                        obtain ⟨v654, h654, h⟩ := Option.bind_eq_some_iff.mp h
                                        refine rn_iald i241_654 h654 ?_
                                        obtain ⟨r655, h655, h⟩ := Option.bind_eq_some_iff.mp h
                                        obtain ⟨g655, c655⟩ := S_Mo_needs a2 v654 r646.2 r655 h655
                                        refine fr_callV (a := a2) (As := [.inl v654]) (st := [.inl r646.1]) i241_655 (cq223 a2 v654) rfl (Nat.le_of_ble_eq_true rfl) g655 (c655 _ (by omega)) ?_
                                        show Rn _ _ _ _ _ _ [.inl r655.1, .inl r646.1] _ _ _
                                        by_cases c658 : (r646.1 : Int) = r655.1
                                        · rw [if_pos c658] at h
                                          refine rn_icmp_eq_t i241_658 c658 ?_
                                          exact rn_sub [0, 1, 2, 3] rfl (s_La_law_1045 hD (La_law_18 n) ih a0 a1 a2 x3 r655.2 r h)
                                        · rw [if_neg c658] at h
                                          refine rn_icmp_eq_f i241_658 c658 ?_
                                          refine rn_iconst i241_661 ?_
                                          obtain rfl := Option.some.inj h
                                          exact rn_retZ i241_662 mr241 (by decide)
                                      · rw [if_neg c33_16] at h
                                        by_cases c33_17 : ((oand v29 31) : Int) = 17
                                        · rw [if_pos c33_17] at h
                                          refine rn_tsw_in (tgt := 663) i241_33 17 (by omega) (by omega) rfl rfl ?_
                                          refine fr_aload_n i241_663 rfl ?_
                                          refine fr_aload_n i241_664 rfl ?_
                                          refine rn_iload_n i241_665 rfl ?_
                                          refine rn_iconst i241_666 ?_
                                          refine rn_iadd i241_667 ?_
                                          obtain ⟨v668, h668, h⟩ := Option.bind_eq_some_iff.mp h
                                          refine rn_iald i241_668 h668 ?_
                                          obtain ⟨r669, h669, h⟩ := Option.bind_eq_some_iff.mp h
                                          obtain ⟨g669, c669⟩ := S_Hh_swing a1 v668 w r669 h669
                                          refine fr_callV (a := a1) (As := [.inl v668]) (st := []) i241_669 (cq127 a1 v668) rfl (Nat.le_of_ble_eq_true rfl) g669 (c669 _ (by omega)) ?_
                                          show Rn _ _ _ _ _ _ [.inl r669.1] _ _ _
                                          refine fr_aload_n i241_672 rfl ?_
                                          refine fr_aload_n i241_673 rfl ?_
                                          refine rn_iload_n i241_674 rfl ?_
                                          refine rn_iconst i241_675 ?_
                                          refine rn_iadd i241_676 ?_
                                          obtain ⟨v677, h677, h⟩ := Option.bind_eq_some_iff.mp h
                                          refine rn_iald i241_677 h677 ?_
                                          obtain ⟨r678, h678, h⟩ := Option.bind_eq_some_iff.mp h
                                          obtain ⟨g678, c678⟩ := S_Mo_swing a2 v677 r669.2 r678 h678
                                          refine fr_callV (a := a2) (As := [.inl v677]) (st := [.inl r669.1]) i241_678 (cq224 a2 v677) rfl (Nat.le_of_ble_eq_true rfl) g678 (c678 _ (by omega)) ?_
                                          show Rn _ _ _ _ _ _ [.inl r678.1, .inl r669.1] _ _ _
                                          by_cases c681 : (r669.1 : Int) = r678.1
                                          · rw [if_pos c681] at h
                                            refine rn_icmp_eq_t i241_681 c681 ?_
                                            exact rn_sub [0, 1, 2, 3] rfl (s_La_law_1045 hD (La_law_18 n) ih a0 a1 a2 x3 r678.2 r h)
                                          · rw [if_neg c681] at h
                                            refine rn_icmp_eq_f i241_681 c681 ?_
                                            refine rn_iconst i241_684 ?_
                                            obtain rfl := Option.some.inj h
                                            exact rn_retZ i241_685 mr241 (by decide)
                                        · rw [if_neg c33_17] at h
                                          by_cases c33_18 : ((oand v29 31) : Int) = 18
                                          · rw [if_pos c33_18] at h
                                            refine rn_tsw_in (tgt := 686) i241_33 18 (by omega) (by omega) rfl rfl ?_
                                            refine fr_aload_n i241_686 rfl ?_
                                            refine fr_aload_n i241_687 rfl ?_
                                            refine rn_iload_n i241_688 rfl ?_
                                            refine rn_iconst i241_689 ?_
                                            refine rn_iadd i241_690 ?_
                                            obtain ⟨v691, h691, h⟩ := Option.bind_eq_some_iff.mp h
                                            refine rn_iald i241_691 h691 ?_
                                            refine fr_aload_n i241_692 rfl ?_
                                            refine rn_iload_n i241_693 rfl ?_
                                            refine rn_iconst i241_694 ?_
                                            refine rn_iadd i241_695 ?_
                                            obtain ⟨v696, h696, h⟩ := Option.bind_eq_some_iff.mp h
                                            refine rn_iald i241_696 h696 ?_
                                            obtain ⟨r697, h697, h⟩ := Option.bind_eq_some_iff.mp h
                                            obtain ⟨g697, c697⟩ := S_Hh_chance a1 v691 v696 w r697 h697
                                            refine fr_callV (a := a1) (As := [.inl v691, .inl v696]) (st := []) i241_697 (cq128 a1 v691 v696) rfl (Nat.le_of_ble_eq_true rfl) g697 (c697 _ (by omega)) ?_
                                            show Rn _ _ _ _ _ _ [.inl r697.1] _ _ _
                                            refine fr_aload_n i241_700 rfl ?_
                                            refine fr_aload_n i241_701 rfl ?_
                                            refine rn_iload_n i241_702 rfl ?_
                                            refine rn_iconst i241_703 ?_
                                            refine rn_iadd i241_704 ?_
                                            obtain ⟨v705, h705, h⟩ := Option.bind_eq_some_iff.mp h
                                            refine rn_iald i241_705 h705 ?_
                                            refine fr_aload_n i241_706 rfl ?_
                                            refine rn_iload_n i241_707 rfl ?_
                                            refine rn_iconst i241_708 ?_
                                            refine rn_iadd i241_709 ?_
                                            obtain ⟨v710, h710, h⟩ := Option.bind_eq_some_iff.mp h
                                            refine rn_iald i241_710 h710 ?_
                                            obtain ⟨r711, h711, h⟩ := Option.bind_eq_some_iff.mp h
                                            obtain ⟨g711, c711⟩ := S_Mo_chance a2 v705 v710 r697.2 r711 h711
                                            refine fr_callV (a := a2) (As := [.inl v705, .inl v710]) (st := [.inl r697.1]) i241_711 (cq225 a2 v705 v710) rfl (Nat.le_of_ble_eq_true rfl) g711 (c711 _ (by omega)) ?_
                                            show Rn _ _ _ _ _ _ [.inl r711.1, .inl r697.1] _ _ _
                                            by_cases c714 : (r697.1 : Int) = r711.1
                                            · rw [if_pos c714] at h
                                              refine rn_icmp_eq_t i241_714 c714 ?_
                                              exact rn_sub [0, 1, 2, 3] rfl (s_La_law_1045 hD (La_law_18 n) ih a0 a1 a2 x3 r711.2 r h)
                                            · rw [if_neg c714] at h
                                              refine rn_icmp_eq_f i241_714 c714 ?_
                                              refine rn_iconst i241_717 ?_
                                              obtain rfl := Option.some.inj h
                                              exact rn_retZ i241_718 mr241 (by decide)
                                          · rw [if_neg c33_18] at h
                                            by_cases c33_19 : ((oand v29 31) : Int) = 19
                                            · rw [if_pos c33_19] at h
                                              refine rn_tsw_in (tgt := 719) i241_33 19 (by omega) (by omega) rfl rfl ?_
                                              refine fr_aload_n i241_719 rfl ?_
                                              refine fr_aload_n i241_720 rfl ?_
                                              refine rn_iload_n i241_721 rfl ?_
                                              refine rn_iconst i241_722 ?_
                                              refine rn_iadd i241_723 ?_
                                              obtain ⟨v724, h724, h⟩ := Option.bind_eq_some_iff.mp h
                                              refine rn_iald i241_724 h724 ?_
                                              obtain ⟨r725, h725, h⟩ := Option.bind_eq_some_iff.mp h
                                              obtain ⟨g725, c725⟩ := S_Hh_without a1 v724 w r725 h725
                                              refine fr_callV (a := a1) (As := [.inl v724]) (st := []) i241_725 (cq129 a1 v724) rfl (Nat.le_of_ble_eq_true rfl) g725 (c725 _ (by omega)) ?_
                                              show Rn _ _ _ _ _ _ [.inl r725.1] _ _ _
                                              refine fr_aload_n i241_728 rfl ?_
                                              refine fr_aload_n i241_729 rfl ?_
                                              refine rn_iload_n i241_730 rfl ?_
                                              refine rn_iconst i241_731 ?_
                                              refine rn_iadd i241_732 ?_
                                              obtain ⟨v733, h733, h⟩ := Option.bind_eq_some_iff.mp h
                                              refine rn_iald i241_733 h733 ?_
                                              obtain ⟨r734, h734, h⟩ := Option.bind_eq_some_iff.mp h
                                              obtain ⟨g734, c734⟩ := S_Mo_without a2 v733 r725.2 r734 h734
                                              refine fr_callV (a := a2) (As := [.inl v733]) (st := [.inl r725.1]) i241_734 (cq226 a2 v733) rfl (Nat.le_of_ble_eq_true rfl) g734 (c734 _ (by omega)) ?_
                                              show Rn _ _ _ _ _ _ [.inl r734.1, .inl r725.1] _ _ _
                                              by_cases c737 : (r725.1 : Int) = r734.1
                                              · rw [if_pos c737] at h
                                                refine rn_icmp_eq_t i241_737 c737 ?_
                                                exact rn_sub [0, 1, 2, 3] rfl (s_La_law_1045 hD (La_law_18 n) ih a0 a1 a2 x3 r734.2 r h)
                                              · rw [if_neg c737] at h
                                                refine rn_icmp_eq_f i241_737 c737 ?_
                                                refine rn_iconst i241_740 ?_
                                                obtain rfl := Option.some.inj h
                                                exact rn_retZ i241_741 mr241 (by decide)
                                            · rw [if_neg c33_19] at h
                                              by_cases c33_20 : ((oand v29 31) : Int) = 20
                                              · rw [if_pos c33_20] at h
                                                refine rn_tsw_in (tgt := 742) i241_33 20 (by omega) (by omega) rfl rfl ?_
                                                refine fr_aload_n i241_742 rfl ?_
                                                refine fr_aload_n i241_743 rfl ?_
                                                refine rn_iload_n i241_744 rfl ?_
                                                refine rn_iconst i241_745 ?_
                                                refine rn_iadd i241_746 ?_
                                                obtain ⟨v747, h747, h⟩ := Option.bind_eq_some_iff.mp h
                                                refine rn_iald i241_747 h747 ?_
                                                refine fr_aload_n i241_748 rfl ?_
                                                refine rn_iload_n i241_749 rfl ?_
                                                refine rn_iconst i241_750 ?_
                                                refine rn_iadd i241_751 ?_
                                                obtain ⟨v752, h752, h⟩ := Option.bind_eq_some_iff.mp h
                                                refine rn_iald i241_752 h752 ?_
                                                obtain ⟨r753, h753, h⟩ := Option.bind_eq_some_iff.mp h
                                                obtain ⟨g753, c753⟩ := S_Hh_bias a1 v747 v752 w r753 h753
                                                refine fr_callV (a := a1) (As := [.inl v747, .inl v752]) (st := []) i241_753 (cq130 a1 v747 v752) rfl (Nat.le_of_ble_eq_true rfl) g753 (c753 _ (by omega)) ?_
                                                show Rn _ _ _ _ _ _ [.inl r753.1] _ _ _
                                                refine fr_aload_n i241_756 rfl ?_
                                                refine fr_aload_n i241_757 rfl ?_
                                                refine rn_iload_n i241_758 rfl ?_
                                                refine rn_iconst i241_759 ?_
                                                refine rn_iadd i241_760 ?_
                                                obtain ⟨v761, h761, h⟩ := Option.bind_eq_some_iff.mp h
                                                refine rn_iald i241_761 h761 ?_
                                                refine fr_aload_n i241_762 rfl ?_
                                                refine rn_iload_n i241_763 rfl ?_
                                                refine rn_iconst i241_764 ?_
                                                refine rn_iadd i241_765 ?_
                                                obtain ⟨v766, h766, h⟩ := Option.bind_eq_some_iff.mp h
                                                refine rn_iald i241_766 h766 ?_
                                                obtain ⟨r767, h767, h⟩ := Option.bind_eq_some_iff.mp h
                                                obtain ⟨g767, c767⟩ := S_Mo_bias a2 v761 v766 r753.2 r767 h767
                                                refine fr_callV (a := a2) (As := [.inl v761, .inl v766]) (st := [.inl r753.1]) i241_767 (cq227 a2 v761 v766) rfl (Nat.le_of_ble_eq_true rfl) g767 (c767 _ (by omega)) ?_
                                                show Rn _ _ _ _ _ _ [.inl r767.1, .inl r753.1] _ _ _
                                                by_cases c770 : (r753.1 : Int) = r767.1
                                                · rw [if_pos c770] at h
                                                  refine rn_icmp_eq_t i241_770 c770 ?_
                                                  exact rn_sub [0, 1, 2, 3] rfl (s_La_law_1045 hD (La_law_18 n) ih a0 a1 a2 x3 r767.2 r h)
                                                · rw [if_neg c770] at h
                                                  refine rn_icmp_eq_f i241_770 c770 ?_
                                                  refine rn_iconst i241_773 ?_
                                                  obtain rfl := Option.some.inj h
                                                  exact rn_retZ i241_774 mr241 (by decide)
                                              · rw [if_neg c33_20] at h
                                                by_cases c33_21 : ((oand v29 31) : Int) = 21
                                                · rw [if_pos c33_21] at h
                                                  refine rn_tsw_in (tgt := 775) i241_33 21 (by omega) (by omega) rfl rfl ?_
                                                  refine fr_aload_n i241_775 rfl ?_
                                                  refine fr_aload_n i241_776 rfl ?_
                                                  refine rn_iload_n i241_777 rfl ?_
                                                  refine rn_iconst i241_778 ?_
                                                  refine rn_iadd i241_779 ?_
                                                  obtain ⟨v780, h780, h⟩ := Option.bind_eq_some_iff.mp h
                                                  refine rn_iald i241_780 h780 ?_
                                                  refine fr_aload_n i241_781 rfl ?_
                                                  refine rn_iload_n i241_782 rfl ?_
                                                  refine rn_iconst i241_783 ?_
                                                  refine rn_iadd i241_784 ?_
                                                  obtain ⟨v785, h785, h⟩ := Option.bind_eq_some_iff.mp h
                                                  refine rn_iald i241_785 h785 ?_
                                                  refine fr_aload_n i241_786 rfl ?_
                                                  refine rn_iload_n i241_787 rfl ?_
                                                  refine rn_iconst i241_788 ?_
                                                  refine rn_iadd i241_789 ?_
                                                  obtain ⟨v790, h790, h⟩ := Option.bind_eq_some_iff.mp h
                                                  refine rn_iald i241_790 h790 ?_
                                                  obtain ⟨r791, h791, h⟩ := Option.bind_eq_some_iff.mp h
                                                  obtain ⟨g791, c791⟩ := S_Hh_bestLetter a1 v780 v785 v790 w r791 h791
                                                  refine fr_callV (a := a1) (As := [.inl v780, .inl v785, .inl v790]) (st := []) i241_791 (cq131 a1 v780 v785 v790) rfl (Nat.le_of_ble_eq_true rfl) g791 (c791 _ (by omega)) ?_
                                                  show Rn _ _ _ _ _ _ [.inl r791.1] _ _ _
                                                  refine fr_aload_n i241_794 rfl ?_
                                                  refine fr_aload_n i241_795 rfl ?_
                                                  refine rn_iload_n i241_796 rfl ?_
                                                  refine rn_iconst i241_797 ?_
                                                  refine rn_iadd i241_798 ?_
                                                  obtain ⟨v799, h799, h⟩ := Option.bind_eq_some_iff.mp h
                                                  refine rn_iald i241_799 h799 ?_
                                                  refine fr_aload_n i241_800 rfl ?_
                                                  refine rn_iload_n i241_801 rfl ?_
                                                  refine rn_iconst i241_802 ?_
                                                  refine rn_iadd i241_803 ?_
                                                  obtain ⟨v804, h804, h⟩ := Option.bind_eq_some_iff.mp h
                                                  refine rn_iald i241_804 h804 ?_
                                                  refine fr_aload_n i241_805 rfl ?_
                                                  refine rn_iload_n i241_806 rfl ?_
                                                  refine rn_iconst i241_807 ?_
                                                  refine rn_iadd i241_808 ?_
                                                  obtain ⟨v809, h809, h⟩ := Option.bind_eq_some_iff.mp h
                                                  refine rn_iald i241_809 h809 ?_
                                                  obtain ⟨r810, h810, h⟩ := Option.bind_eq_some_iff.mp h
                                                  obtain ⟨g810, c810⟩ := S_Mo_bestLetter a2 v799 v804 v809 r791.2 r810 h810
                                                  refine fr_callV (a := a2) (As := [.inl v799, .inl v804, .inl v809]) (st := [.inl r791.1]) i241_810 (cq228 a2 v799 v804 v809) rfl (Nat.le_of_ble_eq_true rfl) g810 (c810 _ (by omega)) ?_
                                                  show Rn _ _ _ _ _ _ [.inl r810.1, .inl r791.1] _ _ _
                                                  by_cases c813 : (r791.1 : Int) = r810.1
                                                  · rw [if_pos c813] at h
                                                    refine rn_icmp_eq_t i241_813 c813 ?_
                                                    exact rn_sub [0, 1, 2, 3] rfl (s_La_law_1045 hD (La_law_18 n) ih a0 a1 a2 x3 r810.2 r h)
                                                  · rw [if_neg c813] at h
                                                    refine rn_icmp_eq_f i241_813 c813 ?_
                                                    refine rn_iconst i241_816 ?_
                                                    obtain rfl := Option.some.inj h
                                                    exact rn_retZ i241_817 mr241 (by decide)
                                                · rw [if_neg c33_21] at h
                                                  by_cases c33_22 : ((oand v29 31) : Int) = 22
                                                  · rw [if_pos c33_22] at h
                                                    refine rn_tsw_in (tgt := 818) i241_33 22 (by omega) (by omega) rfl rfl ?_
                                                    refine fr_aload_n i241_818 rfl ?_
                                                    refine fr_aload_n i241_819 rfl ?_
                                                    refine rn_iload_n i241_820 rfl ?_
                                                    refine rn_iconst i241_821 ?_
                                                    refine rn_iadd i241_822 ?_
                                                    obtain ⟨v823, h823, h⟩ := Option.bind_eq_some_iff.mp h
                                                    refine rn_iald i241_823 h823 ?_
                                                    obtain ⟨r824, h824, h⟩ := Option.bind_eq_some_iff.mp h
                                                    obtain ⟨g824, c824⟩ := S_Hh_reign a1 v823 w r824 h824
                                                    refine fr_callV (a := a1) (As := [.inl v823]) (st := []) i241_824 (cq133 a1 v823) rfl (Nat.le_of_ble_eq_true rfl) g824 (c824 _ (by omega)) ?_
                                                    show Rn _ _ _ _ _ _ [.inl r824.1] _ _ _
                                                    refine fr_aload_n i241_827 rfl ?_
                                                    refine fr_aload_n i241_828 rfl ?_
                                                    refine rn_iload_n i241_829 rfl ?_
                                                    refine rn_iconst i241_830 ?_
                                                    refine rn_iadd i241_831 ?_
                                                    obtain ⟨v832, h832, h⟩ := Option.bind_eq_some_iff.mp h
                                                    refine rn_iald i241_832 h832 ?_
                                                    obtain ⟨r833, h833, h⟩ := Option.bind_eq_some_iff.mp h
                                                    obtain ⟨g833, c833⟩ := S_Mo_reign a2 v832 r824.2 r833 h833
                                                    refine fr_callV (a := a2) (As := [.inl v832]) (st := [.inl r824.1]) i241_833 (cq229 a2 v832) rfl (Nat.le_of_ble_eq_true rfl) g833 (c833 _ (by omega)) ?_
                                                    show Rn _ _ _ _ _ _ [.inl r833.1, .inl r824.1] _ _ _
                                                    by_cases c836 : (r824.1 : Int) = r833.1
                                                    · rw [if_pos c836] at h
                                                      refine rn_icmp_eq_t i241_836 c836 ?_
                                                      exact rn_sub [0, 1, 2, 3] rfl (s_La_law_1045 hD (La_law_18 n) ih a0 a1 a2 x3 r833.2 r h)
                                                    · rw [if_neg c836] at h
                                                      refine rn_icmp_eq_f i241_836 c836 ?_
                                                      refine rn_iconst i241_839 ?_
                                                      obtain rfl := Option.some.inj h
                                                      exact rn_retZ i241_840 mr241 (by decide)
                                                  · rw [if_neg c33_22] at h
                                                    by_cases c33_23 : ((oand v29 31) : Int) = 23
                                                    · rw [if_pos c33_23] at h
                                                      refine rn_tsw_in (tgt := 841) i241_33 23 (by omega) (by omega) rfl rfl ?_
                                                      refine fr_aload_n i241_841 rfl ?_
                                                      refine fr_aload_n i241_842 rfl ?_
                                                      refine rn_iload_n i241_843 rfl ?_
                                                      refine rn_iconst i241_844 ?_
                                                      refine rn_iadd i241_845 ?_
                                                      obtain ⟨v846, h846, h⟩ := Option.bind_eq_some_iff.mp h
                                                      refine rn_iald i241_846 h846 ?_
                                                      refine fr_aload_n i241_847 rfl ?_
                                                      refine rn_iload_n i241_848 rfl ?_
                                                      refine rn_iconst i241_849 ?_
                                                      refine rn_iadd i241_850 ?_
                                                      obtain ⟨v851, h851, h⟩ := Option.bind_eq_some_iff.mp h
                                                      refine rn_iald i241_851 h851 ?_
                                                      obtain ⟨r852, h852, h⟩ := Option.bind_eq_some_iff.mp h
                                                      obtain ⟨g852, c852⟩ := S_Hh_copied a1 v846 v851 w r852 h852
                                                      refine fr_callV (a := a1) (As := [.inl v846, .inl v851]) (st := []) i241_852 (cq134 a1 v846 v851) rfl (Nat.le_of_ble_eq_true rfl) g852 (c852 _ (by omega)) ?_
                                                      show Rn _ _ _ _ _ _ [.inl r852.1] _ _ _
                                                      refine fr_aload_n i241_855 rfl ?_
                                                      refine fr_aload_n i241_856 rfl ?_
                                                      refine rn_iload_n i241_857 rfl ?_
                                                      refine rn_iconst i241_858 ?_
                                                      refine rn_iadd i241_859 ?_
                                                      obtain ⟨v860, h860, h⟩ := Option.bind_eq_some_iff.mp h
                                                      refine rn_iald i241_860 h860 ?_
                                                      refine fr_aload_n i241_861 rfl ?_
                                                      refine rn_iload_n i241_862 rfl ?_
                                                      refine rn_iconst i241_863 ?_
                                                      refine rn_iadd i241_864 ?_
                                                      obtain ⟨v865, h865, h⟩ := Option.bind_eq_some_iff.mp h
                                                      refine rn_iald i241_865 h865 ?_
                                                      obtain ⟨r866, h866, h⟩ := Option.bind_eq_some_iff.mp h
                                                      obtain ⟨g866, c866⟩ := S_Mo_copied a2 v860 v865 r852.2 r866 h866
                                                      refine fr_callV (a := a2) (As := [.inl v860, .inl v865]) (st := [.inl r852.1]) i241_866 (cq232 a2 v860 v865) rfl (Nat.le_of_ble_eq_true rfl) g866 (c866 _ (by omega)) ?_
                                                      show Rn _ _ _ _ _ _ [.inl r866.1, .inl r852.1] _ _ _
                                                      by_cases c869 : (r852.1 : Int) = r866.1
                                                      · rw [if_pos c869] at h
                                                        refine rn_icmp_eq_t i241_869 c869 ?_
                                                        exact rn_sub [0, 1, 2, 3] rfl (s_La_law_1045 hD (La_law_18 n) ih a0 a1 a2 x3 r866.2 r h)
                                                      · rw [if_neg c869] at h
                                                        refine rn_icmp_eq_f i241_869 c869 ?_
                                                        refine rn_iconst i241_872 ?_
                                                        obtain rfl := Option.some.inj h
                                                        exact rn_retZ i241_873 mr241 (by decide)
                                                    · rw [if_neg c33_23] at h
                                                      by_cases c33_24 : ((oand v29 31) : Int) = 24
                                                      · rw [if_pos c33_24] at h
                                                        refine rn_tsw_in (tgt := 874) i241_33 24 (by omega) (by omega) rfl rfl ?_
                                                        refine fr_aload_n i241_874 rfl ?_
                                                        obtain ⟨r875, h875, h⟩ := Option.bind_eq_some_iff.mp h
                                                        obtain ⟨g875, c875⟩ := S_Hh_nobody a1 w r875 h875
                                                        refine fr_callV (a := a1) (As := []) (st := []) i241_875 (cq132 a1) rfl (Nat.le_of_ble_eq_true rfl) g875 (c875 _ (by omega)) ?_
                                                        show Rn _ _ _ _ _ _ [.inl r875.1] _ _ _
                                                        refine fr_aload_n i241_878 rfl ?_
                                                        obtain ⟨r879, h879, h⟩ := Option.bind_eq_some_iff.mp h
                                                        obtain ⟨g879, c879⟩ := S_Mo_nobody a2 r875.2 r879 h879
                                                        refine fr_callV (a := a2) (As := []) (st := [.inl r875.1]) i241_879 (cq233 a2) rfl (Nat.le_of_ble_eq_true rfl) g879 (c879 _ (by omega)) ?_
                                                        show Rn _ _ _ _ _ _ [.inl r879.1, .inl r875.1] _ _ _
                                                        by_cases c882 : (r875.1 : Int) = r879.1
                                                        · rw [if_pos c882] at h
                                                          refine rn_icmp_eq_t i241_882 c882 ?_
                                                          exact rn_sub [0, 1, 2, 3] rfl (s_La_law_1045 hD (La_law_18 n) ih a0 a1 a2 x3 r879.2 r h)
                                                        · rw [if_neg c882] at h
                                                          refine rn_icmp_eq_f i241_882 c882 ?_
                                                          refine rn_iconst i241_885 ?_
                                                          obtain rfl := Option.some.inj h
                                                          exact rn_retZ i241_886 mr241 (by decide)
                                                      · rw [if_neg c33_24] at h
                                                        by_cases c33_25 : ((oand v29 31) : Int) = 25
                                                        · rw [if_pos c33_25] at h
                                                          refine rn_tsw_in (tgt := 887) i241_33 25 (by omega) (by omega) rfl rfl ?_
                                                          refine fr_aload_n i241_887 rfl ?_
                                                          refine fr_aload_n i241_888 rfl ?_
                                                          refine rn_iload_n i241_889 rfl ?_
                                                          refine rn_iconst i241_890 ?_
                                                          refine rn_iadd i241_891 ?_
                                                          obtain ⟨v892, h892, h⟩ := Option.bind_eq_some_iff.mp h
                                                          refine rn_iald i241_892 h892 ?_
                                                          refine fr_aload_n i241_893 rfl ?_
                                                          refine rn_iload_n i241_894 rfl ?_
                                                          refine rn_iconst i241_895 ?_
                                                          refine rn_iadd i241_896 ?_
                                                          obtain ⟨v897, h897, h⟩ := Option.bind_eq_some_iff.mp h
                                                          refine rn_iald i241_897 h897 ?_
                                                          obtain ⟨r898, h898, h⟩ := Option.bind_eq_some_iff.mp h
                                                          obtain ⟨g898, c898⟩ := S_Hh_tell a1 v892 v897 w r898 h898
                                                          refine fr_callV (a := a1) (As := [.inl v892, .inl v897]) (st := []) i241_898 (cq138 a1 v892 v897) rfl (Nat.le_of_ble_eq_true rfl) g898 (c898 _ (by omega)) ?_
                                                          show Rn _ _ _ _ _ _ [.inl r898.1] _ _ _
                                                          refine fr_aload_n i241_901 rfl ?_
                                                          refine fr_aload_n i241_902 rfl ?_
                                                          refine rn_iload_n i241_903 rfl ?_
                                                          refine rn_iconst i241_904 ?_
                                                          refine rn_iadd i241_905 ?_
                                                          obtain ⟨v906, h906, h⟩ := Option.bind_eq_some_iff.mp h
                                                          refine rn_iald i241_906 h906 ?_
                                                          refine fr_aload_n i241_907 rfl ?_
                                                          refine rn_iload_n i241_908 rfl ?_
                                                          refine rn_iconst i241_909 ?_
                                                          refine rn_iadd i241_910 ?_
                                                          obtain ⟨v911, h911, h⟩ := Option.bind_eq_some_iff.mp h
                                                          refine rn_iald i241_911 h911 ?_
                                                          obtain ⟨r912, h912, h⟩ := Option.bind_eq_some_iff.mp h
                                                          obtain ⟨g912, c912⟩ := S_Mo_tell a2 v906 v911 r898.2 r912 h912
                                                          refine fr_callV (a := a2) (As := [.inl v906, .inl v911]) (st := [.inl r898.1]) i241_912 (cq234 a2 v906 v911) rfl (Nat.le_of_ble_eq_true rfl) g912 (c912 _ (by omega)) ?_
                                                          show Rn _ _ _ _ _ _ [.inl r912.1, .inl r898.1] _ _ _
                                                          by_cases c915 : (r898.1 : Int) = r912.1
                                                          · rw [if_pos c915] at h
                                                            refine rn_icmp_eq_t i241_915 c915 ?_
                                                            exact rn_sub [0, 1, 2, 3] rfl (s_La_law_1045 hD (La_law_18 n) ih a0 a1 a2 x3 r912.2 r h)
                                                          · rw [if_neg c915] at h
                                                            refine rn_icmp_eq_f i241_915 c915 ?_
                                                            refine rn_iconst i241_918 ?_
                                                            obtain rfl := Option.some.inj h
                                                            exact rn_retZ i241_919 mr241 (by decide)
                                                        · rw [if_neg c33_25] at h
                                                          by_cases c33_26 : ((oand v29 31) : Int) = 26
                                                          · rw [if_pos c33_26] at h
                                                            refine rn_tsw_in (tgt := 920) i241_33 26 (by omega) (by omega) rfl rfl ?_
                                                            refine fr_aload_n i241_920 rfl ?_
                                                            obtain ⟨r921, h921, h⟩ := Option.bind_eq_some_iff.mp h
                                                            obtain ⟨g921, c921⟩ := S_Hh_forget a1 w r921 h921
                                                            refine fr_callV (a := a1) (As := []) (st := []) i241_921 (cq139 a1) rfl (Nat.le_of_ble_eq_true rfl) g921 (c921 _ (by omega)) ?_
                                                            show Rn _ _ _ _ _ _ [.inl r921.1] _ _ _
                                                            refine fr_aload_n i241_924 rfl ?_
                                                            obtain ⟨r925, h925, h⟩ := Option.bind_eq_some_iff.mp h
                                                            obtain ⟨g925, c925⟩ := S_Mo_forget a2 r921.2 r925 h925
                                                            refine fr_callV (a := a2) (As := []) (st := [.inl r921.1]) i241_925 (cq235 a2) rfl (Nat.le_of_ble_eq_true rfl) g925 (c925 _ (by omega)) ?_
                                                            show Rn _ _ _ _ _ _ [.inl r925.1, .inl r921.1] _ _ _
                                                            by_cases c928 : (r921.1 : Int) = r925.1
                                                            · rw [if_pos c928] at h
                                                              refine rn_icmp_eq_t i241_928 c928 ?_
                                                              exact rn_sub [0, 1, 2, 3] rfl (s_La_law_1045 hD (La_law_18 n) ih a0 a1 a2 x3 r925.2 r h)
                                                            · rw [if_neg c928] at h
                                                              refine rn_icmp_eq_f i241_928 c928 ?_
                                                              refine rn_iconst i241_931 ?_
                                                              obtain rfl := Option.some.inj h
                                                              exact rn_retZ i241_932 mr241 (by decide)
                                                          · rw [if_neg c33_26] at h
                                                            by_cases c33_27 : ((oand v29 31) : Int) = 27
                                                            · rw [if_pos c33_27] at h
                                                              refine rn_tsw_in (tgt := 933) i241_33 27 (by omega) (by omega) rfl rfl ?_
                                                              refine fr_aload_n i241_933 rfl ?_
                                                              refine fr_aload_n i241_934 rfl ?_
                                                              refine rn_iload_n i241_935 rfl ?_
                                                              refine rn_iconst i241_936 ?_
                                                              refine rn_iadd i241_937 ?_
                                                              obtain ⟨v938, h938, h⟩ := Option.bind_eq_some_iff.mp h
                                                              refine rn_iald i241_938 h938 ?_
                                                              refine fr_aload_n i241_939 rfl ?_
                                                              refine rn_iload_n i241_940 rfl ?_
                                                              refine rn_iconst i241_941 ?_
                                                              refine rn_iadd i241_942 ?_
                                                              obtain ⟨v943, h943, h⟩ := Option.bind_eq_some_iff.mp h
                                                              refine rn_iald i241_943 h943 ?_
                                                              refine fr_aload_n i241_944 rfl ?_
                                                              refine rn_iload_n i241_945 rfl ?_
                                                              refine rn_iconst i241_946 ?_
                                                              refine rn_iadd i241_947 ?_
                                                              obtain ⟨v948, h948, h⟩ := Option.bind_eq_some_iff.mp h
                                                              refine rn_iald i241_948 h948 ?_
                                                              obtain ⟨r949, h949, h⟩ := Option.bind_eq_some_iff.mp h
                                                              obtain ⟨g949, c949⟩ := S_Hh_dated a1 v938 v943 v948 w r949 h949
                                                              refine fr_callV (a := a1) (As := [.inl v938, .inl v943, .inl v948]) (st := []) i241_949 (cq140 a1 v938 v943 v948) rfl (Nat.le_of_ble_eq_true rfl) g949 (c949 _ (by omega)) ?_
                                                              show Rn _ _ _ _ _ _ [.inl r949.1] _ _ _
                                                              refine fr_aload_n i241_952 rfl ?_
                                                              refine fr_aload_n i241_953 rfl ?_
                                                              refine rn_iload_n i241_954 rfl ?_
                                                              refine rn_iconst i241_955 ?_
                                                              refine rn_iadd i241_956 ?_
                                                              obtain ⟨v957, h957, h⟩ := Option.bind_eq_some_iff.mp h
                                                              refine rn_iald i241_957 h957 ?_
                                                              refine fr_aload_n i241_958 rfl ?_
                                                              refine rn_iload_n i241_959 rfl ?_
                                                              refine rn_iconst i241_960 ?_
                                                              refine rn_iadd i241_961 ?_
                                                              obtain ⟨v962, h962, h⟩ := Option.bind_eq_some_iff.mp h
                                                              refine rn_iald i241_962 h962 ?_
                                                              refine fr_aload_n i241_963 rfl ?_
                                                              refine rn_iload_n i241_964 rfl ?_
                                                              refine rn_iconst i241_965 ?_
                                                              refine rn_iadd i241_966 ?_
                                                              obtain ⟨v967, h967, h⟩ := Option.bind_eq_some_iff.mp h
                                                              refine rn_iald i241_967 h967 ?_
                                                              obtain ⟨r968, h968, h⟩ := Option.bind_eq_some_iff.mp h
                                                              obtain ⟨g968, c968⟩ := S_Mo_dated a2 v957 v962 v967 r949.2 r968 h968
                                                              refine fr_callV (a := a2) (As := [.inl v957, .inl v962, .inl v967]) (st := [.inl r949.1]) i241_968 (cq237 a2 v957 v962 v967) rfl (Nat.le_of_ble_eq_true rfl) g968 (c968 _ (by omega)) ?_
                                                              show Rn _ _ _ _ _ _ [.inl r968.1, .inl r949.1] _ _ _
                                                              by_cases c971 : (r949.1 : Int) = r968.1
                                                              · rw [if_pos c971] at h
                                                                refine rn_icmp_eq_t i241_971 c971 ?_
                                                                exact rn_sub [0, 1, 2, 3] rfl (s_La_law_1045 hD (La_law_18 n) ih a0 a1 a2 x3 r968.2 r h)
                                                              · rw [if_neg c971] at h
                                                                refine rn_icmp_eq_f i241_971 c971 ?_
                                                                refine rn_iconst i241_974 ?_
                                                                obtain rfl := Option.some.inj h
                                                                exact rn_retZ i241_975 mr241 (by decide)
                                                            · rw [if_neg c33_27] at h
                                                              by_cases c33_28 : ((oand v29 31) : Int) = 28
                                                              · rw [if_pos c33_28] at h
                                                                refine rn_tsw_in (tgt := 976) i241_33 28 (by omega) (by omega) rfl rfl ?_
                                                                refine fr_aload_n i241_976 rfl ?_
                                                                refine fr_aload_n i241_977 rfl ?_
                                                                refine rn_iload_n i241_978 rfl ?_
                                                                refine rn_iconst i241_979 ?_
                                                                refine rn_iadd i241_980 ?_
                                                                obtain ⟨v981, h981, h⟩ := Option.bind_eq_some_iff.mp h
                                                                refine rn_iald i241_981 h981 ?_
                                                                obtain ⟨r982, h982, h⟩ := Option.bind_eq_some_iff.mp h
                                                                obtain ⟨g982, c982⟩ := S_Hh_hold a1 v981 w r982 h982
                                                                refine fr_callV (a := a1) (As := [.inl v981]) (st := []) i241_982 (cq142 a1 v981) rfl (Nat.le_of_ble_eq_true rfl) g982 (c982 _ (by omega)) ?_
                                                                show Rn _ _ _ _ _ _ [.inl r982.1] _ _ _
                                                                refine fr_aload_n i241_985 rfl ?_
                                                                refine fr_aload_n i241_986 rfl ?_
                                                                refine rn_iload_n i241_987 rfl ?_
                                                                refine rn_iconst i241_988 ?_
                                                                refine rn_iadd i241_989 ?_
                                                                obtain ⟨v990, h990, h⟩ := Option.bind_eq_some_iff.mp h
                                                                refine rn_iald i241_990 h990 ?_
                                                                obtain ⟨r991, h991, h⟩ := Option.bind_eq_some_iff.mp h
                                                                obtain ⟨g991, c991⟩ := S_Mo_hold a2 v990 r982.2 r991 h991
                                                                refine fr_callV (a := a2) (As := [.inl v990]) (st := [.inl r982.1]) i241_991 (cq238 a2 v990) rfl (Nat.le_of_ble_eq_true rfl) g991 (c991 _ (by omega)) ?_
                                                                show Rn _ _ _ _ _ _ [.inl r991.1, .inl r982.1] _ _ _
                                                                by_cases c994 : (r982.1 : Int) = r991.1
                                                                · rw [if_pos c994] at h
                                                                  refine rn_icmp_eq_t i241_994 c994 ?_
                                                                  exact rn_sub [0, 1, 2, 3] rfl (s_La_law_1045 hD (La_law_18 n) ih a0 a1 a2 x3 r991.2 r h)
                                                                · rw [if_neg c994] at h
                                                                  refine rn_icmp_eq_f i241_994 c994 ?_
                                                                  refine rn_iconst i241_997 ?_
                                                                  obtain rfl := Option.some.inj h
                                                                  exact rn_retZ i241_998 mr241 (by decide)
                                                              · rw [if_neg c33_28] at h
                                                                by_cases c33_29 : ((oand v29 31) : Int) = 29
                                                                · rw [if_pos c33_29] at h
                                                                  refine rn_tsw_in (tgt := 999) i241_33 29 (by omega) (by omega) rfl rfl ?_
                                                                  refine fr_aload_n i241_999 rfl ?_
                                                                  refine fr_aload_n i241_1000 rfl ?_
                                                                  refine rn_iload_n i241_1001 rfl ?_
                                                                  refine rn_iconst i241_1002 ?_
                                                                  refine rn_iadd i241_1003 ?_
                                                                  obtain ⟨v1004, h1004, h⟩ := Option.bind_eq_some_iff.mp h
                                                                  refine rn_iald i241_1004 h1004 ?_
                                                                  obtain ⟨r1005, h1005, h⟩ := Option.bind_eq_some_iff.mp h
                                                                  obtain ⟨g1005, c1005⟩ := S_Hh_restore a1 v1004 w r1005 h1005
                                                                  refine fr_callV (a := a1) (As := [.inl v1004]) (st := []) i241_1005 (cq143 a1 v1004) rfl (Nat.le_of_ble_eq_true rfl) g1005 (c1005 _ (by omega)) ?_
                                                                  show Rn _ _ _ _ _ _ [.inl r1005.1] _ _ _
                                                                  refine fr_aload_n i241_1008 rfl ?_
                                                                  refine fr_aload_n i241_1009 rfl ?_
                                                                  refine rn_iload_n i241_1010 rfl ?_
                                                                  refine rn_iconst i241_1011 ?_
                                                                  refine rn_iadd i241_1012 ?_
                                                                  obtain ⟨v1013, h1013, h⟩ := Option.bind_eq_some_iff.mp h
                                                                  refine rn_iald i241_1013 h1013 ?_
                                                                  obtain ⟨r1014, h1014, h⟩ := Option.bind_eq_some_iff.mp h
                                                                  obtain ⟨g1014, c1014⟩ := S_Mo_restore a2 v1013 r1005.2 r1014 h1014
                                                                  refine fr_callV (a := a2) (As := [.inl v1013]) (st := [.inl r1005.1]) i241_1014 (cq239 a2 v1013) rfl (Nat.le_of_ble_eq_true rfl) g1014 (c1014 _ (by omega)) ?_
                                                                  show Rn _ _ _ _ _ _ [.inl r1014.1, .inl r1005.1] _ _ _
                                                                  by_cases c1017 : (r1005.1 : Int) = r1014.1
                                                                  · rw [if_pos c1017] at h
                                                                    refine rn_icmp_eq_t i241_1017 c1017 ?_
                                                                    exact rn_sub [0, 1, 2, 3] rfl (s_La_law_1045 hD (La_law_18 n) ih a0 a1 a2 x3 r1014.2 r h)
                                                                  · rw [if_neg c1017] at h
                                                                    refine rn_icmp_eq_f i241_1017 c1017 ?_
                                                                    refine rn_iconst i241_1020 ?_
                                                                    obtain rfl := Option.some.inj h
                                                                    exact rn_retZ i241_1021 mr241 (by decide)
                                                                · rw [if_neg c33_29] at h
                                                                  by_cases c33_30 : ((oand v29 31) : Int) = 30
                                                                  · rw [if_pos c33_30] at h
                                                                    refine rn_tsw_in (tgt := 1022) i241_33 30 (by omega) (by omega) rfl rfl ?_
                                                                    refine fr_aload_n i241_1022 rfl ?_
                                                                    refine fr_aload_n i241_1023 rfl ?_
                                                                    refine rn_iload_n i241_1024 rfl ?_
                                                                    refine rn_iconst i241_1025 ?_
                                                                    refine rn_iadd i241_1026 ?_
                                                                    obtain ⟨v1027, h1027, h⟩ := Option.bind_eq_some_iff.mp h
                                                                    refine rn_iald i241_1027 h1027 ?_
                                                                    obtain ⟨r1028, h1028, h⟩ := Option.bind_eq_some_iff.mp h
                                                                    obtain ⟨g1028, c1028⟩ := S_Hh_count a1 v1027 w r1028 h1028
                                                                    refine fr_callV (a := a1) (As := [.inl v1027]) (st := []) i241_1028 (cq144 a1 v1027) rfl (Nat.le_of_ble_eq_true rfl) g1028 (c1028 _ (by omega)) ?_
                                                                    show Rn _ _ _ _ _ _ [.inl r1028.1] _ _ _
                                                                    refine fr_aload_n i241_1031 rfl ?_
                                                                    refine fr_aload_n i241_1032 rfl ?_
                                                                    refine rn_iload_n i241_1033 rfl ?_
                                                                    refine rn_iconst i241_1034 ?_
                                                                    refine rn_iadd i241_1035 ?_
                                                                    obtain ⟨v1036, h1036, h⟩ := Option.bind_eq_some_iff.mp h
                                                                    refine rn_iald i241_1036 h1036 ?_
                                                                    obtain ⟨r1037, h1037, h⟩ := Option.bind_eq_some_iff.mp h
                                                                    obtain ⟨g1037, c1037⟩ := S_Mo_count a2 v1036 r1028.2 r1037 h1037
                                                                    refine fr_callV (a := a2) (As := [.inl v1036]) (st := [.inl r1028.1]) i241_1037 (cq240 a2 v1036) rfl (Nat.le_of_ble_eq_true rfl) g1037 (c1037 _ (by omega)) ?_
                                                                    show Rn _ _ _ _ _ _ [.inl r1037.1, .inl r1028.1] _ _ _
                                                                    by_cases c1040 : (r1028.1 : Int) = r1037.1
                                                                    · rw [if_pos c1040] at h
                                                                      refine rn_icmp_eq_t i241_1040 c1040 ?_
                                                                      exact rn_sub [0, 1, 2, 3] rfl (s_La_law_1045 hD (La_law_18 n) ih a0 a1 a2 x3 r1037.2 r h)
                                                                    · rw [if_neg c1040] at h
                                                                      refine rn_icmp_eq_f i241_1040 c1040 ?_
                                                                      refine rn_iconst i241_1043 ?_
                                                                      obtain rfl := Option.some.inj h
                                                                      exact rn_retZ i241_1044 mr241 (by decide)
                                                                  · rw [if_neg c33_30] at h
                                                                    refine rn_tsw_out (tgt := 1045) i241_33 (by omega) rfl ?_
                                                                    exact rn_sub [0, 1, 2, 3] rfl (s_La_law_1045 hD (La_law_18 n) ih a0 a1 a2 x3 w r h)
def La_law_0 (a0 : Nat) (w : Wd) : Option (Int × Wd) :=
  (Hh_init (wn w) (nw w 11 12)).bind fun r4 =>
  (Mo_init (wn r4) (nw r4 12 68)).bind fun r12 =>
  La_law_18 FU a0 (wn w) (wn r4) 0 r12
theorem s_La_law_0 {g : Gp} {l : Launch} {D : Nat} (hD : 105 ≤ D) (a0 : Nat) (w : Wd) (r : Int × Wd) (h : La_law_0 a0 w = some r) : Rn g l D 241 0 [(0, .inr (.inr a0))] [] w (some (.inl r.1)) r.2 := by
  obtain ⟨D, rfl⟩ : ∃ D1, D = D1 + 1 := ⟨D - 1, by omega⟩
  unfold La_law_0 at h
  refine rn_new i241_0 (by decide) ?_
  refine rn_dup i241_3 rfl ?_
  obtain ⟨r4, h4, h⟩ := Option.bind_eq_some_iff.mp h
  obtain ⟨g4, c4⟩ := S_Hh_init (wn w) (nw w 11 12) r4 h4
  refine fr_callI (nst := 0) (a := (wn w)) (As := []) (st := [.inr (.inr (wn w))]) i241_4 (cq102 (wn w)) rfl (Nat.le_of_ble_eq_true rfl) g4 (c4 _ (by omega)) ?_
  refine fr_astore_n (ls1 := [(1, .inr (.inr (wn w))), (0, .inr (.inr a0))]) i241_7 rfl ?_
  refine rn_new i241_8 (by decide) ?_
  refine rn_dup i241_11 rfl ?_
  obtain ⟨r12, h12, h⟩ := Option.bind_eq_some_iff.mp h
  obtain ⟨g12, c12⟩ := S_Mo_init (wn r4) (nw r4 12 68) r12 h12
  refine fr_callI (nst := 0) (a := (wn r4)) (As := []) (st := [.inr (.inr (wn r4))]) i241_12 (cq147 (wn r4)) rfl (Nat.le_of_ble_eq_true rfl) g12 (c12 _ (by omega)) ?_
  refine fr_astore_n (ls1 := [(2, .inr (.inr (wn r4))), (1, .inr (.inr (wn w))), (0, .inr (.inr a0))]) i241_15 rfl ?_
  refine rn_iconst i241_16 ?_
  refine rn_istore_n (ls1 := [(3, .inl 0), (2, .inr (.inr (wn r4))), (1, .inr (.inr (wn w))), (0, .inr (.inr a0))]) i241_17 rfl ?_
  exact rn_sub [3, 2, 1, 0] rfl (s_La_law_18 hD FU a0 (wn w) (wn r4) 0 r12 r h)
/-- HandHeirsLaw.law([I)Z -/
def La_law (a0 : Nat) (w : Wd) : Option (Int × Wd) := La_law_0 a0 w
theorem S_La_law {g : Gp} {l : Launch} (a0 : Nat) (w : Wd) (r : Int × Wd) (h : La_law a0 w = some r) : ∀ D, 105 ≤ D → Rn g l D 241 0 [(0, .inr (.inr a0))] [] w (some (.inl r.1)) r.2 := fun D hD => rn_sub [0] rfl (s_La_law_0 hD a0 w r h)
