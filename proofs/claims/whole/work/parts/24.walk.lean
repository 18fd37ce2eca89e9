theorem i55_0 : ins 55 0 = some (.aload_n 0, 1, 0, 0) := by decide +kernel
theorem i55_1 : ins 55 1 = some (.aload_n 1, 2, 0, 0) := by decide +kernel
theorem i55_2 : ins 55 2 = some (.iload_n 2, 3, 0, 0) := by decide +kernel
theorem i55_3 : ins 55 3 = some (.invokevirtual 52, 6, 56, 0) := by decide +kernel
theorem i55_6 : ins 55 6 = some (.iconst (1), 7, 0, 1) := by decide +kernel
theorem i55_7 : ins 55 7 = some (.istore_n 3, 8, 0, 0) := by decide +kernel
theorem i55_8 : ins 55 8 = some (.iconst (0), 9, 0, 0) := by decide +kernel
theorem i55_9 : ins 55 9 = some (.istore 4, 11, 0, 0) := by decide +kernel
theorem i55_11 : ins 55 11 = some (.iload 4, 13, 0, 0) := by decide +kernel
theorem i55_13 : ins 55 13 = some (.sipush (400), 16, 0, 400) := by decide +kernel
theorem i55_16 : ins 55 16 = some (.if_icmp .gt (276), 19, 292, 0) := by decide +kernel
theorem i55_19 : ins 55 19 = some (.iload_n 3, 20, 0, 0) := by decide +kernel
theorem i55_20 : ins 55 20 = some (.ifCond .eq (272), 23, 292, 0) := by decide +kernel
theorem i55_23 : ins 55 23 = some (.aload_n 0, 24, 0, 0) := by decide +kernel
theorem i55_24 : ins 55 24 = some (.getfield 39, 27, 6, 6) := by decide +kernel
theorem i55_27 : ins 55 27 = some (.ifCond .eq (265), 30, 292, 0) := by decide +kernel
theorem i55_30 : ins 55 30 = some (.aload_n 0, 31, 0, 0) := by decide +kernel
theorem i55_31 : ins 55 31 = some (.getfield 39, 34, 6, 6) := by decide +kernel
theorem i55_34 : ins 55 34 = some (.tableswitch (246) (256) (263) #[46, 71, 96, 121, 146, 171, 196, 221], 80, 0, 0) := by decide +kernel
theorem i55_80 : ins 55 80 = some (.aload_n 0, 81, 0, 0) := by decide +kernel
theorem i55_81 : ins 55 81 = some (.invokevirtual 56, 84, 61, 0) := by decide +kernel
theorem i55_84 : ins 55 84 = some (.ifCond .eq (16), 87, 100, 0) := by decide +kernel
theorem i55_87 : ins 55 87 = some (.aload_n 0, 88, 0, 0) := by decide +kernel
theorem i55_88 : ins 55 88 = some (.bipush (59), 90, 0, 59) := by decide +kernel
theorem i55_90 : ins 55 90 = some (.invokevirtual 60, 93, 60, 0) := by decide +kernel
theorem i55_93 : ins 55 93 = some (.ifCond .eq (7), 96, 100, 0) := by decide +kernel
theorem i55_96 : ins 55 96 = some (.iconst (1), 97, 0, 1) := by decide +kernel
theorem i55_97 : ins 55 97 = some (.goto (4), 100, 101, 0) := by decide +kernel
theorem i55_100 : ins 55 100 = some (.iconst (0), 101, 0, 0) := by decide +kernel
theorem i55_101 : ins 55 101 = some (.istore_n 3, 102, 0, 0) := by decide +kernel
theorem i55_102 : ins 55 102 = some (.goto (184), 105, 286, 0) := by decide +kernel
theorem i55_105 : ins 55 105 = some (.aload_n 0, 106, 0, 0) := by decide +kernel
theorem i55_106 : ins 55 106 = some (.invokevirtual 64, 109, 62, 0) := by decide +kernel
theorem i55_109 : ins 55 109 = some (.ifCond .eq (16), 112, 125, 0) := by decide +kernel
theorem i55_112 : ins 55 112 = some (.aload_n 0, 113, 0, 0) := by decide +kernel
theorem i55_113 : ins 55 113 = some (.bipush (59), 115, 0, 59) := by decide +kernel
theorem i55_115 : ins 55 115 = some (.invokevirtual 60, 118, 60, 0) := by decide +kernel
theorem i55_118 : ins 55 118 = some (.ifCond .eq (7), 121, 125, 0) := by decide +kernel
theorem i55_121 : ins 55 121 = some (.iconst (1), 122, 0, 1) := by decide +kernel
theorem i55_122 : ins 55 122 = some (.goto (4), 125, 126, 0) := by decide +kernel
theorem i55_125 : ins 55 125 = some (.iconst (0), 126, 0, 0) := by decide +kernel
theorem i55_126 : ins 55 126 = some (.istore_n 3, 127, 0, 0) := by decide +kernel
theorem i55_127 : ins 55 127 = some (.goto (159), 130, 286, 0) := by decide +kernel
theorem i55_130 : ins 55 130 = some (.aload_n 0, 131, 0, 0) := by decide +kernel
theorem i55_131 : ins 55 131 = some (.invokevirtual 67, 134, 63, 0) := by decide +kernel
theorem i55_134 : ins 55 134 = some (.ifCond .eq (16), 137, 150, 0) := by decide +kernel
theorem i55_137 : ins 55 137 = some (.aload_n 0, 138, 0, 0) := by decide +kernel
theorem i55_138 : ins 55 138 = some (.bipush (59), 140, 0, 59) := by decide +kernel
theorem i55_140 : ins 55 140 = some (.invokevirtual 60, 143, 60, 0) := by decide +kernel
theorem i55_143 : ins 55 143 = some (.ifCond .eq (7), 146, 150, 0) := by decide +kernel
theorem i55_146 : ins 55 146 = some (.iconst (1), 147, 0, 1) := by decide +kernel
theorem i55_147 : ins 55 147 = some (.goto (4), 150, 151, 0) := by decide +kernel
theorem i55_150 : ins 55 150 = some (.iconst (0), 151, 0, 0) := by decide +kernel
theorem i55_151 : ins 55 151 = some (.istore_n 3, 152, 0, 0) := by decide +kernel
theorem i55_152 : ins 55 152 = some (.goto (134), 155, 286, 0) := by decide +kernel
theorem i55_155 : ins 55 155 = some (.aload_n 0, 156, 0, 0) := by decide +kernel
theorem i55_156 : ins 55 156 = some (.invokevirtual 70, 159, 64, 0) := by decide +kernel
theorem i55_159 : ins 55 159 = some (.ifCond .eq (16), 162, 175, 0) := by decide +kernel
theorem i55_162 : ins 55 162 = some (.aload_n 0, 163, 0, 0) := by decide +kernel
theorem i55_163 : ins 55 163 = some (.bipush (59), 165, 0, 59) := by decide +kernel
theorem i55_165 : ins 55 165 = some (.invokevirtual 60, 168, 60, 0) := by decide +kernel
theorem i55_168 : ins 55 168 = some (.ifCond .eq (7), 171, 175, 0) := by decide +kernel
theorem i55_171 : ins 55 171 = some (.iconst (1), 172, 0, 1) := by decide +kernel
theorem i55_172 : ins 55 172 = some (.goto (4), 175, 176, 0) := by decide +kernel
theorem i55_175 : ins 55 175 = some (.iconst (0), 176, 0, 0) := by decide +kernel
theorem i55_176 : ins 55 176 = some (.istore_n 3, 177, 0, 0) := by decide +kernel
theorem i55_177 : ins 55 177 = some (.goto (109), 180, 286, 0) := by decide +kernel
theorem i55_180 : ins 55 180 = some (.aload_n 0, 181, 0, 0) := by decide +kernel
theorem i55_181 : ins 55 181 = some (.invokevirtual 73, 184, 66, 0) := by decide +kernel
theorem i55_184 : ins 55 184 = some (.ifCond .eq (16), 187, 200, 0) := by decide +kernel
theorem i55_187 : ins 55 187 = some (.aload_n 0, 188, 0, 0) := by decide +kernel
theorem i55_188 : ins 55 188 = some (.bipush (59), 190, 0, 59) := by decide +kernel
theorem i55_190 : ins 55 190 = some (.invokevirtual 60, 193, 60, 0) := by decide +kernel
theorem i55_193 : ins 55 193 = some (.ifCond .eq (7), 196, 200, 0) := by decide +kernel
theorem i55_196 : ins 55 196 = some (.iconst (1), 197, 0, 1) := by decide +kernel
theorem i55_197 : ins 55 197 = some (.goto (4), 200, 201, 0) := by decide +kernel
theorem i55_200 : ins 55 200 = some (.iconst (0), 201, 0, 0) := by decide +kernel
theorem i55_201 : ins 55 201 = some (.istore_n 3, 202, 0, 0) := by decide +kernel
theorem i55_202 : ins 55 202 = some (.goto (84), 205, 286, 0) := by decide +kernel
theorem i55_205 : ins 55 205 = some (.aload_n 0, 206, 0, 0) := by decide +kernel
theorem i55_206 : ins 55 206 = some (.invokevirtual 76, 209, 67, 0) := by decide +kernel
theorem i55_209 : ins 55 209 = some (.ifCond .eq (16), 212, 225, 0) := by decide +kernel
theorem i55_212 : ins 55 212 = some (.aload_n 0, 213, 0, 0) := by decide +kernel
theorem i55_213 : ins 55 213 = some (.bipush (59), 215, 0, 59) := by decide +kernel
theorem i55_215 : ins 55 215 = some (.invokevirtual 60, 218, 60, 0) := by decide +kernel
theorem i55_218 : ins 55 218 = some (.ifCond .eq (7), 221, 225, 0) := by decide +kernel
theorem i55_221 : ins 55 221 = some (.iconst (1), 222, 0, 1) := by decide +kernel
theorem i55_222 : ins 55 222 = some (.goto (4), 225, 226, 0) := by decide +kernel
theorem i55_225 : ins 55 225 = some (.iconst (0), 226, 0, 0) := by decide +kernel
theorem i55_226 : ins 55 226 = some (.istore_n 3, 227, 0, 0) := by decide +kernel
theorem i55_227 : ins 55 227 = some (.goto (59), 230, 286, 0) := by decide +kernel
theorem i55_230 : ins 55 230 = some (.aload_n 0, 231, 0, 0) := by decide +kernel
theorem i55_231 : ins 55 231 = some (.invokevirtual 79, 234, 68, 0) := by decide +kernel
theorem i55_234 : ins 55 234 = some (.ifCond .eq (16), 237, 250, 0) := by decide +kernel
theorem i55_237 : ins 55 237 = some (.aload_n 0, 238, 0, 0) := by decide +kernel
theorem i55_238 : ins 55 238 = some (.bipush (59), 240, 0, 59) := by decide +kernel
theorem i55_240 : ins 55 240 = some (.invokevirtual 60, 243, 60, 0) := by decide +kernel
theorem i55_243 : ins 55 243 = some (.ifCond .eq (7), 246, 250, 0) := by decide +kernel
theorem i55_246 : ins 55 246 = some (.iconst (1), 247, 0, 1) := by decide +kernel
theorem i55_247 : ins 55 247 = some (.goto (4), 250, 251, 0) := by decide +kernel
theorem i55_250 : ins 55 250 = some (.iconst (0), 251, 0, 0) := by decide +kernel
theorem i55_251 : ins 55 251 = some (.istore_n 3, 252, 0, 0) := by decide +kernel
theorem i55_252 : ins 55 252 = some (.goto (34), 255, 286, 0) := by decide +kernel
theorem i55_255 : ins 55 255 = some (.aload_n 0, 256, 0, 0) := by decide +kernel
theorem i55_256 : ins 55 256 = some (.invokevirtual 82, 259, 69, 0) := by decide +kernel
theorem i55_259 : ins 55 259 = some (.ifCond .eq (16), 262, 275, 0) := by decide +kernel
theorem i55_262 : ins 55 262 = some (.aload_n 0, 263, 0, 0) := by decide +kernel
theorem i55_263 : ins 55 263 = some (.bipush (59), 265, 0, 59) := by decide +kernel
theorem i55_265 : ins 55 265 = some (.invokevirtual 60, 268, 60, 0) := by decide +kernel
theorem i55_268 : ins 55 268 = some (.ifCond .eq (7), 271, 275, 0) := by decide +kernel
theorem i55_271 : ins 55 271 = some (.iconst (1), 272, 0, 1) := by decide +kernel
theorem i55_272 : ins 55 272 = some (.goto (4), 275, 276, 0) := by decide +kernel
theorem i55_275 : ins 55 275 = some (.iconst (0), 276, 0, 0) := by decide +kernel
theorem i55_276 : ins 55 276 = some (.istore_n 3, 277, 0, 0) := by decide +kernel
theorem i55_277 : ins 55 277 = some (.goto (9), 280, 286, 0) := by decide +kernel
theorem i55_280 : ins 55 280 = some (.aload_n 0, 281, 0, 0) := by decide +kernel
theorem i55_281 : ins 55 281 = some (.iconst (1), 282, 0, 1) := by decide +kernel
theorem i55_282 : ins 55 282 = some (.invokevirtual 85, 285, 57, 0) := by decide +kernel
theorem i55_285 : ins 55 285 = some (.istore_n 3, 286, 0, 0) := by decide +kernel
theorem i55_286 : ins 55 286 = some (.iinc 4 (1), 289, 0, 1) := by decide +kernel
theorem i55_289 : ins 55 289 = some (.goto (-278), 292, 11, 0) := by decide +kernel
theorem i55_292 : ins 55 292 = some (.aload_n 0, 293, 0, 0) := by decide +kernel
theorem i55_293 : ins 55 293 = some (.getfield 22, 296, 6, 2) := by decide +kernel
theorem i55_296 : ins 55 296 = some (.ireturn, 297, 0, 0) := by decide +kernel
theorem i63_0 : ins 63 0 = some (.aload_n 0, 1, 0, 0) := by decide +kernel
theorem i63_1 : ins 63 1 = some (.getfield 18, 4, 6, 1) := by decide +kernel
theorem i63_4 : ins 63 4 = some (.getfield 131, 7, 10, 2) := by decide +kernel
theorem i63_7 : ins 63 7 = some (.istore_n 1, 8, 0, 0) := by decide +kernel
theorem i63_8 : ins 63 8 = some (.iload_n 1, 9, 0, 0) := by decide +kernel
theorem i63_9 : ins 63 9 = some (.iconst (3), 10, 0, 3) := by decide +kernel
theorem i63_10 : ins 63 10 = some (.if_icmp .lt (9), 13, 19, 0) := by decide +kernel
theorem i63_13 : ins 63 13 = some (.aload_n 0, 14, 0, 0) := by decide +kernel
theorem i63_14 : ins 63 14 = some (.iconst (2), 15, 0, 2) := by decide +kernel
theorem i63_15 : ins 63 15 = some (.invokevirtual 85, 18, 57, 0) := by decide +kernel
theorem i63_18 : ins 63 18 = some (.ireturn, 19, 0, 0) := by decide +kernel
theorem i63_19 : ins 63 19 = some (.aload_n 0, 20, 0, 0) := by decide +kernel
theorem i63_20 : ins 63 20 = some (.getfield 18, 23, 6, 1) := by decide +kernel
theorem i63_23 : ins 63 23 = some (.dup, 24, 0, 0) := by decide +kernel
theorem i63_24 : ins 63 24 = some (.getfield 131, 27, 10, 2) := by decide +kernel
theorem i63_27 : ins 63 27 = some (.iconst (1), 28, 0, 1) := by decide +kernel
theorem i63_28 : ins 63 28 = some (.iadd, 29, 0, 0) := by decide +kernel
theorem i63_29 : ins 63 29 = some (.putfield 131, 32, 10, 2) := by decide +kernel
theorem i63_32 : ins 63 32 = some (.aload_n 0, 33, 0, 0) := by decide +kernel
theorem i63_33 : ins 63 33 = some (.invokevirtual 94, 36, 59, 0) := by decide +kernel
theorem i63_36 : ins 63 36 = some (.ifCond .eq (21), 39, 57, 0) := by decide +kernel
theorem i63_39 : ins 63 39 = some (.aload_n 0, 40, 0, 0) := by decide +kernel
theorem i63_40 : ins 63 40 = some (.bipush (12), 42, 0, 12) := by decide +kernel
theorem i63_42 : ins 63 42 = some (.iload_n 1, 43, 0, 0) := by decide +kernel
theorem i63_43 : ins 63 43 = some (.iadd, 44, 0, 0) := by decide +kernel
theorem i63_44 : ins 63 44 = some (.invokevirtual 110, 47, 70, 0) := by decide +kernel
theorem i63_47 : ins 63 47 = some (.ifCond .eq (10), 50, 57, 0) := by decide +kernel
theorem i63_50 : ins 63 50 = some (.aload_n 0, 51, 0, 0) := by decide +kernel
theorem i63_51 : ins 63 51 = some (.invokevirtual 134, 54, 72, 0) := by decide +kernel
theorem i63_54 : ins 63 54 = some (.ifCond .ne (5), 57, 59, 0) := by decide +kernel
theorem i63_57 : ins 63 57 = some (.iconst (0), 58, 0, 0) := by decide +kernel
theorem i63_58 : ins 63 58 = some (.ireturn, 59, 0, 0) := by decide +kernel
theorem i63_59 : ins 63 59 = some (.aload_n 0, 60, 0, 0) := by decide +kernel
theorem i63_60 : ins 63 60 = some (.getfield 18, 63, 6, 1) := by decide +kernel
theorem i63_63 : ins 63 63 = some (.getfield 137, 66, 10, 11) := by decide +kernel
theorem i63_66 : ins 63 66 = some (.iload_n 1, 67, 0, 0) := by decide +kernel
theorem i63_67 : ins 63 67 = some (.aload_n 0, 68, 0, 0) := by decide +kernel
theorem i63_68 : ins 63 68 = some (.getfield 49, 71, 6, 9) := by decide +kernel
theorem i63_71 : ins 63 71 = some (.iastore, 72, 0, 0) := by decide +kernel
theorem i63_72 : ins 63 72 = some (.iconst (1), 73, 0, 1) := by decide +kernel
theorem i63_73 : ins 63 73 = some (.ireturn, 74, 0, 0) := by decide +kernel
theorem i64_0 : ins 64 0 = some (.aload_n 0, 1, 0, 0) := by decide +kernel
theorem i64_1 : ins 64 1 = some (.invokevirtual 94, 4, 59, 0) := by decide +kernel
theorem i64_4 : ins 64 4 = some (.ifCond .ne (5), 7, 9, 0) := by decide +kernel
theorem i64_7 : ins 64 7 = some (.iconst (0), 8, 0, 0) := by decide +kernel
theorem i64_8 : ins 64 8 = some (.ireturn, 9, 0, 0) := by decide +kernel
theorem i64_9 : ins 64 9 = some (.aload_n 0, 10, 0, 0) := by decide +kernel
theorem i64_10 : ins 64 10 = some (.aload_n 0, 11, 0, 0) := by decide +kernel
theorem i64_11 : ins 64 11 = some (.getfield 42, 14, 6, 7) := by decide +kernel
theorem i64_14 : ins 64 14 = some (.invokevirtual 140, 17, 65, 0) := by decide +kernel
theorem i64_17 : ins 64 17 = some (.istore_n 1, 18, 0, 0) := by decide +kernel
theorem i64_18 : ins 64 18 = some (.aload_n 0, 19, 0, 0) := by decide +kernel
theorem i64_19 : ins 64 19 = some (.getfield 39, 22, 6, 6) := by decide +kernel
theorem i64_22 : ins 64 22 = some (.iconst (2), 23, 0, 2) := by decide +kernel
theorem i64_23 : ins 64 23 = some (.if_icmp .ne (13), 26, 36, 0) := by decide +kernel
theorem i64_26 : ins 64 26 = some (.iload_n 1, 27, 0, 0) := by decide +kernel
theorem i64_27 : ins 64 27 = some (.iconst (-1), 28, 0, -1) := by decide +kernel
theorem i64_28 : ins 64 28 = some (.if_icmp .ne (8), 31, 36, 0) := by decide +kernel
theorem i64_31 : ins 64 31 = some (.aload_n 0, 32, 0, 0) := by decide +kernel
theorem i64_32 : ins 64 32 = some (.iconst (4), 33, 0, 4) := by decide +kernel
theorem i64_33 : ins 64 33 = some (.invokevirtual 144, 36, 58, 0) := by decide +kernel
theorem i64_36 : ins 64 36 = some (.aload_n 0, 37, 0, 0) := by decide +kernel
theorem i64_37 : ins 64 37 = some (.iconst (2), 38, 0, 2) := by decide +kernel
theorem i64_38 : ins 64 38 = some (.invokevirtual 60, 41, 60, 0) := by decide +kernel
theorem i64_41 : ins 64 41 = some (.ifCond .eq (10), 44, 51, 0) := by decide +kernel
theorem i64_44 : ins 64 44 = some (.aload_n 0, 45, 0, 0) := by decide +kernel
theorem i64_45 : ins 64 45 = some (.invokevirtual 134, 48, 72, 0) := by decide +kernel
theorem i64_48 : ins 64 48 = some (.ifCond .ne (5), 51, 53, 0) := by decide +kernel
theorem i64_51 : ins 64 51 = some (.iconst (0), 52, 0, 0) := by decide +kernel
theorem i64_52 : ins 64 52 = some (.ireturn, 53, 0, 0) := by decide +kernel
theorem i64_53 : ins 64 53 = some (.iload_n 1, 54, 0, 0) := by decide +kernel
theorem i64_54 : ins 64 54 = some (.iconst (-1), 55, 0, -1) := by decide +kernel
theorem i64_55 : ins 64 55 = some (.if_icmp .eq (16), 58, 71, 0) := by decide +kernel
theorem i64_58 : ins 64 58 = some (.aload_n 0, 59, 0, 0) := by decide +kernel
theorem i64_59 : ins 64 59 = some (.getfield 18, 62, 6, 1) := by decide +kernel
theorem i64_62 : ins 64 62 = some (.getfield 148, 65, 10, 12) := by decide +kernel
theorem i64_65 : ins 64 65 = some (.iload_n 1, 66, 0, 0) := by decide +kernel
theorem i64_66 : ins 64 66 = some (.aload_n 0, 67, 0, 0) := by decide +kernel
theorem i64_67 : ins 64 67 = some (.getfield 49, 70, 6, 9) := by decide +kernel
theorem i64_70 : ins 64 70 = some (.iastore, 71, 0, 0) := by decide +kernel
theorem i64_71 : ins 64 71 = some (.iconst (1), 72, 0, 1) := by decide +kernel
theorem i64_72 : ins 64 72 = some (.ireturn, 73, 0, 0) := by decide +kernel
theorem i65_0 : ins 65 0 = some (.iconst (0), 1, 0, 0) := by decide +kernel
theorem i65_1 : ins 65 1 = some (.istore_n 3, 2, 0, 0) := by decide +kernel
theorem i65_2 : ins 65 2 = some (.iload_n 3, 3, 0, 0) := by decide +kernel
theorem i65_3 : ins 65 3 = some (.aload_n 0, 4, 0, 0) := by decide +kernel
theorem i65_4 : ins 65 4 = some (.getfield 18, 7, 6, 1) := by decide +kernel
theorem i65_7 : ins 65 7 = some (.getfield 119, 10, 10, 1) := by decide +kernel
theorem i65_10 : ins 65 10 = some (.if_icmp .ge (25), 13, 35, 0) := by decide +kernel
theorem i65_13 : ins 65 13 = some (.aload_n 0, 14, 0, 0) := by decide +kernel
theorem i65_14 : ins 65 14 = some (.getfield 32, 17, 6, 4) := by decide +kernel
theorem i65_17 : ins 65 17 = some (.bipush (6), 19, 0, 6) := by decide +kernel
theorem i65_19 : ins 65 19 = some (.iload_n 3, 20, 0, 0) := by decide +kernel
theorem i65_20 : ins 65 20 = some (.iadd, 21, 0, 0) := by decide +kernel
theorem i65_21 : ins 65 21 = some (.laload, 22, 0, 0) := by decide +kernel
theorem i65_22 : ins 65 22 = some (.lload_n 1, 23, 0, 0) := by decide +kernel
theorem i65_23 : ins 65 23 = some (.lcmp, 24, 0, 0) := by decide +kernel
theorem i65_24 : ins 65 24 = some (.ifCond .ne (5), 27, 29, 0) := by decide +kernel
theorem i65_27 : ins 65 27 = some (.iload_n 3, 28, 0, 0) := by decide +kernel
theorem i65_28 : ins 65 28 = some (.ireturn, 29, 0, 0) := by decide +kernel
theorem i65_29 : ins 65 29 = some (.iinc 3 (1), 32, 0, 1) := by decide +kernel
theorem i65_32 : ins 65 32 = some (.goto (-30), 35, 2, 0) := by decide +kernel
theorem i65_35 : ins 65 35 = some (.iconst (-1), 36, 0, -1) := by decide +kernel
theorem i65_36 : ins 65 36 = some (.ireturn, 37, 0, 0) := by decide +kernel
theorem i66_0 : ins 66 0 = some (.aload_n 0, 1, 0, 0) := by decide +kernel
theorem i66_1 : ins 66 1 = some (.invokevirtual 94, 4, 59, 0) := by decide +kernel
theorem i66_4 : ins 66 4 = some (.ifCond .eq (10), 7, 14, 0) := by decide +kernel
theorem i66_7 : ins 66 7 = some (.aload_n 0, 8, 0, 0) := by decide +kernel
theorem i66_8 : ins 66 8 = some (.invokevirtual 134, 11, 72, 0) := by decide +kernel
theorem i66_11 : ins 66 11 = some (.ifCond .ne (5), 14, 16, 0) := by decide +kernel
theorem i66_14 : ins 66 14 = some (.iconst (0), 15, 0, 0) := by decide +kernel
theorem i66_15 : ins 66 15 = some (.ireturn, 16, 0, 0) := by decide +kernel
theorem i66_16 : ins 66 16 = some (.aload_n 0, 17, 0, 0) := by decide +kernel
theorem i66_17 : ins 66 17 = some (.getfield 18, 20, 6, 1) := by decide +kernel
theorem i66_20 : ins 66 20 = some (.aload_n 0, 21, 0, 0) := by decide +kernel
theorem i66_21 : ins 66 21 = some (.getfield 49, 24, 6, 9) := by decide +kernel
theorem i66_24 : ins 66 24 = some (.putfield 151, 27, 10, 6) := by decide +kernel
theorem i66_27 : ins 66 27 = some (.iconst (1), 28, 0, 1) := by decide +kernel
theorem i66_28 : ins 66 28 = some (.ireturn, 29, 0, 0) := by decide +kernel
theorem i67_0 : ins 67 0 = some (.aload_n 0, 1, 0, 0) := by decide +kernel
theorem i67_1 : ins 67 1 = some (.invokevirtual 94, 4, 59, 0) := by decide +kernel
theorem i67_4 : ins 67 4 = some (.ifCond .eq (12), 7, 16, 0) := by decide +kernel
theorem i67_7 : ins 67 7 = some (.aload_n 0, 8, 0, 0) := by decide +kernel
theorem i67_8 : ins 67 8 = some (.bipush (9), 10, 0, 9) := by decide +kernel
theorem i67_10 : ins 67 10 = some (.invokevirtual 113, 13, 71, 0) := by decide +kernel
theorem i67_13 : ins 67 13 = some (.ifCond .ne (5), 16, 18, 0) := by decide +kernel
theorem i67_16 : ins 67 16 = some (.iconst (0), 17, 0, 0) := by decide +kernel
theorem i67_17 : ins 67 17 = some (.ireturn, 18, 0, 0) := by decide +kernel
theorem i67_18 : ins 67 18 = some (.aload_n 0, 19, 0, 0) := by decide +kernel
theorem i67_19 : ins 67 19 = some (.getfield 18, 22, 6, 1) := by decide +kernel
theorem i67_22 : ins 67 22 = some (.aload_n 0, 23, 0, 0) := by decide +kernel
theorem i67_23 : ins 67 23 = some (.getfield 46, 26, 6, 8) := by decide +kernel
theorem i67_26 : ins 67 26 = some (.putfield 154, 29, 10, 3) := by decide +kernel
theorem i67_29 : ins 67 29 = some (.iconst (1), 30, 0, 1) := by decide +kernel
theorem i67_30 : ins 67 30 = some (.ireturn, 31, 0, 0) := by decide +kernel
theorem i68_0 : ins 68 0 = some (.aload_n 0, 1, 0, 0) := by decide +kernel
theorem i68_1 : ins 68 1 = some (.invokevirtual 94, 4, 59, 0) := by decide +kernel
theorem i68_4 : ins 68 4 = some (.ifCond .eq (13), 7, 17, 0) := by decide +kernel
theorem i68_7 : ins 68 7 = some (.aload_n 0, 8, 0, 0) := by decide +kernel
theorem i68_8 : ins 68 8 = some (.sipush (9999), 11, 0, 9999) := by decide +kernel
theorem i68_11 : ins 68 11 = some (.invokevirtual 113, 14, 71, 0) := by decide +kernel
theorem i68_14 : ins 68 14 = some (.ifCond .ne (5), 17, 19, 0) := by decide +kernel
theorem i68_17 : ins 68 17 = some (.iconst (0), 18, 0, 0) := by decide +kernel
theorem i68_18 : ins 68 18 = some (.ireturn, 19, 0, 0) := by decide +kernel
theorem i68_19 : ins 68 19 = some (.aload_n 0, 20, 0, 0) := by decide +kernel
theorem i68_20 : ins 68 20 = some (.getfield 18, 23, 6, 1) := by decide +kernel
theorem i68_23 : ins 68 23 = some (.aload_n 0, 24, 0, 0) := by decide +kernel
theorem i68_24 : ins 68 24 = some (.getfield 46, 27, 6, 8) := by decide +kernel
theorem i68_27 : ins 68 27 = some (.putfield 157, 30, 10, 4) := by decide +kernel
theorem i68_30 : ins 68 30 = some (.iconst (1), 31, 0, 1) := by decide +kernel
theorem i68_31 : ins 68 31 = some (.ireturn, 32, 0, 0) := by decide +kernel
theorem i69_0 : ins 69 0 = some (.aload_n 0, 1, 0, 0) := by decide +kernel
theorem i69_1 : ins 69 1 = some (.invokevirtual 94, 4, 59, 0) := by decide +kernel
theorem i69_4 : ins 69 4 = some (.ifCond .eq (13), 7, 17, 0) := by decide +kernel
theorem i69_7 : ins 69 7 = some (.aload_n 0, 8, 0, 0) := by decide +kernel
theorem i69_8 : ins 69 8 = some (.sipush (9999), 11, 0, 9999) := by decide +kernel
theorem i69_11 : ins 69 11 = some (.invokevirtual 113, 14, 71, 0) := by decide +kernel
theorem i69_14 : ins 69 14 = some (.ifCond .ne (5), 17, 19, 0) := by decide +kernel
theorem i69_17 : ins 69 17 = some (.iconst (0), 18, 0, 0) := by decide +kernel
theorem i69_18 : ins 69 18 = some (.ireturn, 19, 0, 0) := by decide +kernel
theorem i69_19 : ins 69 19 = some (.aload_n 0, 20, 0, 0) := by decide +kernel
theorem i69_20 : ins 69 20 = some (.getfield 18, 23, 6, 1) := by decide +kernel
theorem i69_23 : ins 69 23 = some (.aload_n 0, 24, 0, 0) := by decide +kernel
theorem i69_24 : ins 69 24 = some (.getfield 46, 27, 6, 8) := by decide +kernel
theorem i69_27 : ins 69 27 = some (.putfield 160, 30, 10, 5) := by decide +kernel
theorem i69_30 : ins 69 30 = some (.iconst (1), 31, 0, 1) := by decide +kernel
theorem i69_31 : ins 69 31 = some (.ireturn, 32, 0, 0) := by decide +kernel
theorem i86_0 : ins 86 0 = some (.aload_n 0, 1, 0, 0) := by decide +kernel
theorem i86_1 : ins 86 1 = some (.invokespecial 1, 4, 1000, 0) := by decide +kernel
theorem i86_4 : ins 86 4 = some (.aload_n 0, 5, 0, 0) := by decide +kernel
theorem i86_5 : ins 86 5 = some (.iconst (0), 6, 0, 0) := by decide +kernel
theorem i86_6 : ins 86 6 = some (.putfield 7, 9, 8, 0) := by decide +kernel
theorem i86_9 : ins 86 9 = some (.aload_n 0, 10, 0, 0) := by decide +kernel
theorem i86_10 : ins 86 10 = some (.new 13, 13, 9, 0) := by decide +kernel
theorem i86_13 : ins 86 13 = some (.dup, 14, 0, 0) := by decide +kernel
theorem i86_14 : ins 86 14 = some (.invokespecial 15, 17, 87, 1) := by decide +kernel
theorem i86_17 : ins 86 17 = some (.putfield 16, 20, 8, 1) := by decide +kernel
theorem i86_20 : ins 86 20 = some (.aload_n 0, 21, 0, 0) := by decide +kernel
theorem i86_21 : ins 86 21 = some (.new 20, 24, 0, 0) := by decide +kernel
theorem i86_24 : ins 86 24 = some (.dup, 25, 0, 0) := by decide +kernel
theorem i86_25 : ins 86 25 = some (.invokespecial 22, 28, 15, 1) := by decide +kernel
theorem i86_28 : ins 86 28 = some (.putfield 23, 31, 8, 2) := by decide +kernel
theorem i86_31 : ins 86 31 = some (.return_, 32, 0, 0) := by decide +kernel
theorem i88_0 : ins 88 0 = some (.aload_n 0, 1, 0, 0) := by decide +kernel
theorem i88_1 : ins 88 1 = some (.iconst (0), 2, 0, 0) := by decide +kernel
theorem i88_2 : ins 88 2 = some (.putfield 9, 5, 9, 0) := by decide +kernel
theorem i88_5 : ins 88 5 = some (.aload_n 0, 6, 0, 0) := by decide +kernel
theorem i88_6 : ins 88 6 = some (.iconst (0), 7, 0, 0) := by decide +kernel
theorem i88_7 : ins 88 7 = some (.putfield 15, 10, 9, 1) := by decide +kernel
theorem i88_10 : ins 88 10 = some (.aload_n 0, 11, 0, 0) := by decide +kernel
theorem i88_11 : ins 88 11 = some (.bipush (-2), 13, 0, -2) := by decide +kernel
theorem i88_13 : ins 88 13 = some (.putfield 18, 16, 9, 2) := by decide +kernel
theorem i88_16 : ins 88 16 = some (.aload_n 1, 17, 0, 0) := by decide +kernel
theorem i88_17 : ins 88 17 = some (.getfield 31, 20, 10, 7) := by decide +kernel
theorem i88_20 : ins 88 20 = some (.iconst (0), 21, 0, 0) := by decide +kernel
theorem i88_21 : ins 88 21 = some (.aload_n 0, 22, 0, 0) := by decide +kernel
theorem i88_22 : ins 88 22 = some (.getfield 21, 25, 9, 3) := by decide +kernel
theorem i88_25 : ins 88 25 = some (.iconst (0), 26, 0, 0) := by decide +kernel
theorem i88_26 : ins 88 26 = some (.bipush (6), 28, 0, 6) := by decide +kernel
theorem i88_28 : ins 88 28 = some (.invokestatic 34, 31, 1001, 0) := by decide +kernel
theorem i88_31 : ins 88 31 = some (.aload_n 1, 32, 0, 0) := by decide +kernel
theorem i88_32 : ins 88 32 = some (.getfield 40, 35, 10, 10) := by decide +kernel
theorem i88_35 : ins 88 35 = some (.iconst (0), 36, 0, 0) := by decide +kernel
theorem i88_36 : ins 88 36 = some (.aload_n 0, 37, 0, 0) := by decide +kernel
theorem i88_37 : ins 88 37 = some (.getfield 25, 40, 9, 4) := by decide +kernel
theorem i88_40 : ins 88 40 = some (.iconst (0), 41, 0, 0) := by decide +kernel
theorem i88_41 : ins 88 41 = some (.bipush (36), 43, 0, 36) := by decide +kernel
theorem i88_43 : ins 88 43 = some (.invokestatic 34, 46, 1001, 0) := by decide +kernel
theorem i88_46 : ins 88 46 = some (.iconst (0), 47, 0, 0) := by decide +kernel
theorem i88_47 : ins 88 47 = some (.istore_n 2, 48, 0, 0) := by decide +kernel
theorem i88_48 : ins 88 48 = some (.iload_n 2, 49, 0, 0) := by decide +kernel
theorem i88_49 : ins 88 49 = some (.bipush (6), 51, 0, 6) := by decide +kernel
theorem i88_51 : ins 88 51 = some (.if_icmp .ge (16), 54, 67, 0) := by decide +kernel
theorem i88_54 : ins 88 54 = some (.aload_n 0, 55, 0, 0) := by decide +kernel
theorem i88_55 : ins 88 55 = some (.getfield 28, 58, 9, 5) := by decide +kernel
theorem i88_58 : ins 88 58 = some (.iload_n 2, 59, 0, 0) := by decide +kernel
theorem i88_59 : ins 88 59 = some (.iconst (0), 60, 0, 0) := by decide +kernel
theorem i88_60 : ins 88 60 = some (.iastore, 61, 0, 0) := by decide +kernel
theorem i88_61 : ins 88 61 = some (.iinc 2 (1), 64, 0, 1) := by decide +kernel
theorem i88_64 : ins 88 64 = some (.goto (-16), 67, 48, 0) := by decide +kernel
theorem i88_67 : ins 88 67 = some (.return_, 68, 0, 0) := by decide +kernel
theorem i90_0 : ins 90 0 = some (.aload_n 0, 1, 0, 0) := by decide +kernel
theorem i90_1 : ins 90 1 = some (.getfield 9, 4, 9, 0) := by decide +kernel
theorem i90_4 : ins 90 4 = some (.sipush (400), 7, 0, 400) := by decide +kernel
theorem i90_7 : ins 90 7 = some (.invokestatic 41, 10, 2, 0) := by decide +kernel
theorem i90_10 : ins 90 10 = some (.ireturn, 11, 0, 0) := by decide +kernel
theorem i102_0 : ins 102 0 = some (.aload_n 0, 1, 0, 0) := by decide +kernel
theorem i102_1 : ins 102 1 = some (.invokespecial 1, 4, 1000, 0) := by decide +kernel
theorem i102_4 : ins 102 4 = some (.aload_n 0, 5, 0, 0) := by decide +kernel
theorem i102_5 : ins 102 5 = some (.sipush (2000), 8, 0, 2000) := by decide +kernel
theorem i102_8 : ins 102 8 = some (.newarray .byte, 10, 0, 0) := by decide +kernel
theorem i102_10 : ins 102 10 = some (.putfield 9, 13, 11, 0) := by decide +kernel
theorem i102_13 : ins 102 13 = some (.aload_n 0, 14, 0, 0) := by decide +kernel
theorem i102_14 : ins 102 14 = some (.iconst (0), 15, 0, 0) := by decide +kernel
theorem i102_15 : ins 102 15 = some (.putfield 13, 18, 11, 1) := by decide +kernel
theorem i102_18 : ins 102 18 = some (.aload_n 0, 19, 0, 0) := by decide +kernel
theorem i102_19 : ins 102 19 = some (.new 17, 22, 6, 0) := by decide +kernel
theorem i102_22 : ins 102 22 = some (.dup, 23, 0, 0) := by decide +kernel
theorem i102_23 : ins 102 23 = some (.invokespecial 19, 26, 54, 1) := by decide +kernel
theorem i102_26 : ins 102 26 = some (.putfield 20, 29, 11, 2) := by decide +kernel
theorem i102_29 : ins 102 29 = some (.aload_n 0, 30, 0, 0) := by decide +kernel
theorem i102_30 : ins 102 30 = some (.new 24, 33, 10, 0) := by decide +kernel
theorem i102_33 : ins 102 33 = some (.dup, 34, 0, 0) := by decide +kernel
theorem i102_34 : ins 102 34 = some (.invokespecial 26, 37, 95, 0) := by decide +kernel
theorem i102_37 : ins 102 37 = some (.putfield 27, 40, 11, 3) := by decide +kernel
theorem i102_40 : ins 102 40 = some (.aload_n 0, 41, 0, 0) := by decide +kernel
theorem i102_41 : ins 102 41 = some (.new 31, 44, 9, 0) := by decide +kernel
theorem i102_44 : ins 102 44 = some (.dup, 45, 0, 0) := by decide +kernel
theorem i102_45 : ins 102 45 = some (.invokespecial 33, 48, 87, 1) := by decide +kernel
theorem i102_48 : ins 102 48 = some (.putfield 34, 51, 11, 4) := by decide +kernel
theorem i102_51 : ins 102 51 = some (.aload_n 0, 52, 0, 0) := by decide +kernel
theorem i102_52 : ins 102 52 = some (.new 31, 55, 9, 0) := by decide +kernel
theorem i102_55 : ins 102 55 = some (.dup, 56, 0, 0) := by decide +kernel
theorem i102_56 : ins 102 56 = some (.invokespecial 33, 59, 87, 1) := by decide +kernel
theorem i102_59 : ins 102 59 = some (.putfield 38, 62, 11, 5) := by decide +kernel
theorem i102_62 : ins 102 62 = some (.aload_n 0, 63, 0, 0) := by decide +kernel
theorem i102_63 : ins 102 63 = some (.new 41, 66, 0, 0) := by decide +kernel
theorem i102_66 : ins 102 66 = some (.dup, 67, 0, 0) := by decide +kernel
theorem i102_67 : ins 102 67 = some (.invokespecial 43, 70, 15, 1) := by decide +kernel
theorem i102_70 : ins 102 70 = some (.putfield 44, 73, 11, 6) := by decide +kernel
theorem i102_73 : ins 102 73 = some (.aload_n 0, 74, 0, 0) := by decide +kernel
theorem i102_74 : ins 102 74 = some (.new 48, 77, 4, 0) := by decide +kernel
theorem i102_77 : ins 102 77 = some (.dup, 78, 0, 0) := by decide +kernel
theorem i102_78 : ins 102 78 = some (.invokespecial 50, 81, 45, 0) := by decide +kernel
theorem i102_81 : ins 102 81 = some (.putfield 51, 84, 11, 7) := by decide +kernel
theorem i102_84 : ins 102 84 = some (.aload_n 0, 85, 0, 0) := by decide +kernel
theorem i102_85 : ins 102 85 = some (.iconst (3), 86, 0, 3) := by decide +kernel
theorem i102_86 : ins 102 86 = some (.anewarray 55, 89, 25, 0) := by decide +kernel
theorem i102_89 : ins 102 89 = some (.putfield 57, 92, 11, 8) := by decide +kernel
theorem i102_92 : ins 102 92 = some (.aload_n 0, 93, 0, 0) := by decide +kernel
theorem i102_93 : ins 102 93 = some (.new 61, 96, 3, 0) := by decide +kernel
theorem i102_96 : ins 102 96 = some (.dup, 97, 0, 0) := by decide +kernel
theorem i102_97 : ins 102 97 = some (.invokespecial 63, 100, 43, 1) := by decide +kernel
theorem i102_100 : ins 102 100 = some (.putfield 64, 103, 11, 9) := by decide +kernel
theorem i102_103 : ins 102 103 = some (.aload_n 0, 104, 0, 0) := by decide +kernel
theorem i102_104 : ins 102 104 = some (.new 68, 107, 1, 0) := by decide +kernel
theorem i102_107 : ins 102 107 = some (.dup, 108, 0, 0) := by decide +kernel
theorem i102_108 : ins 102 108 = some (.invokespecial 70, 111, 22, 1) := by decide +kernel
theorem i102_111 : ins 102 111 = some (.putfield 71, 114, 11, 10) := by decide +kernel
theorem i102_114 : ins 102 114 = some (.aload_n 0, 115, 0, 0) := by decide +kernel
theorem i102_115 : ins 102 115 = some (.new 75, 118, 5, 0) := by decide +kernel
theorem i102_118 : ins 102 118 = some (.dup, 119, 0, 0) := by decide +kernel
theorem i102_119 : ins 102 119 = some (.invokespecial 77, 122, 49, 1) := by decide +kernel
theorem i102_122 : ins 102 122 = some (.putfield 78, 125, 11, 11) := by decide +kernel
theorem i102_125 : ins 102 125 = some (.iconst (0), 126, 0, 0) := by decide +kernel
theorem i102_126 : ins 102 126 = some (.istore_n 1, 127, 0, 0) := by decide +kernel
theorem i102_127 : ins 102 127 = some (.iload_n 1, 128, 0, 0) := by decide +kernel
theorem i102_128 : ins 102 128 = some (.iconst (3), 129, 0, 3) := by decide +kernel
theorem i102_129 : ins 102 129 = some (.if_icmp .ge (22), 132, 151, 0) := by decide +kernel
theorem i102_132 : ins 102 132 = some (.aload_n 0, 133, 0, 0) := by decide +kernel
theorem i102_133 : ins 102 133 = some (.getfield 57, 136, 11, 8) := by decide +kernel
theorem i102_136 : ins 102 136 = some (.iload_n 1, 137, 0, 0) := by decide +kernel
theorem i102_137 : ins 102 137 = some (.new 55, 140, 8, 0) := by decide +kernel
theorem i102_140 : ins 102 140 = some (.dup, 141, 0, 0) := by decide +kernel
theorem i102_141 : ins 102 141 = some (.invokespecial 82, 144, 86, 1) := by decide +kernel
theorem i102_144 : ins 102 144 = some (.aastore, 145, 0, 0) := by decide +kernel
theorem i102_145 : ins 102 145 = some (.iinc 1 (1), 148, 0, 1) := by decide +kernel
theorem i102_148 : ins 102 148 = some (.goto (-21), 151, 127, 0) := by decide +kernel
theorem i102_151 : ins 102 151 = some (.aload_n 0, 152, 0, 0) := by decide +kernel
theorem i102_152 : ins 102 152 = some (.getfield 34, 155, 11, 4) := by decide +kernel
theorem i102_155 : ins 102 155 = some (.aload_n 0, 156, 0, 0) := by decide +kernel
theorem i102_156 : ins 102 156 = some (.getfield 27, 159, 11, 3) := by decide +kernel
theorem i102_159 : ins 102 159 = some (.invokevirtual 83, 162, 88, 0) := by decide +kernel
theorem i102_162 : ins 102 162 = some (.return_, 163, 0, 0) := by decide +kernel
theorem i103_0 : ins 103 0 = some (.aload_n 0, 1, 0, 0) := by decide +kernel
theorem i103_1 : ins 103 1 = some (.getfield 13, 4, 11, 1) := by decide +kernel
theorem i103_4 : ins 103 4 = some (.bipush (20), 6, 0, 20) := by decide +kernel
theorem i103_6 : ins 103 6 = some (.iadd, 7, 0, 0) := by decide +kernel
theorem i103_7 : ins 103 7 = some (.sipush (2000), 10, 0, 2000) := by decide +kernel
theorem i103_10 : ins 103 10 = some (.if_icmp .le (5), 13, 15, 0) := by decide +kernel
theorem i103_13 : ins 103 13 = some (.iconst (-1), 14, 0, -1) := by decide +kernel
theorem i103_14 : ins 103 14 = some (.ireturn, 15, 0, 0) := by decide +kernel
theorem i103_15 : ins 103 15 = some (.aload_n 0, 16, 0, 0) := by decide +kernel
theorem i103_16 : ins 103 16 = some (.iload_n 1, 17, 0, 0) := by decide +kernel
theorem i103_17 : ins 103 17 = some (.invokevirtual 87, 20, 104, 0) := by decide +kernel
theorem i103_20 : ins 103 20 = some (.aload_n 0, 21, 0, 0) := by decide +kernel
theorem i103_21 : ins 103 21 = some (.iload_n 2, 22, 0, 0) := by decide +kernel
theorem i103_22 : ins 103 22 = some (.invokevirtual 87, 25, 104, 0) := by decide +kernel
theorem i103_25 : ins 103 25 = some (.aload_n 0, 26, 0, 0) := by decide +kernel
theorem i103_26 : ins 103 26 = some (.iload_n 3, 27, 0, 0) := by decide +kernel
theorem i103_27 : ins 103 27 = some (.invokevirtual 87, 30, 104, 0) := by decide +kernel
theorem i103_30 : ins 103 30 = some (.aload_n 0, 31, 0, 0) := by decide +kernel
theorem i103_31 : ins 103 31 = some (.iload 4, 33, 0, 0) := by decide +kernel
theorem i103_33 : ins 103 33 = some (.invokevirtual 87, 36, 104, 0) := by decide +kernel
theorem i103_36 : ins 103 36 = some (.aload_n 0, 37, 0, 0) := by decide +kernel
theorem i103_37 : ins 103 37 = some (.iload 5, 39, 0, 0) := by decide +kernel
theorem i103_39 : ins 103 39 = some (.invokevirtual 87, 42, 104, 0) := by decide +kernel
theorem i103_42 : ins 103 42 = some (.aload_n 0, 43, 0, 0) := by decide +kernel
theorem i103_43 : ins 103 43 = some (.getfield 13, 46, 11, 1) := by decide +kernel
theorem i103_46 : ins 103 46 = some (.ireturn, 47, 0, 0) := by decide +kernel
theorem i104_0 : ins 104 0 = some (.bipush (24), 2, 0, 24) := by decide +kernel
theorem i104_2 : ins 104 2 = some (.istore_n 2, 3, 0, 0) := by decide +kernel
theorem i104_3 : ins 104 3 = some (.iload_n 2, 4, 0, 0) := by decide +kernel
theorem i104_4 : ins 104 4 = some (.ifCond .lt (42), 7, 46, 0) := by decide +kernel
theorem i104_7 : ins 104 7 = some (.aload_n 0, 8, 0, 0) := by decide +kernel
theorem i104_8 : ins 104 8 = some (.getfield 13, 11, 11, 1) := by decide +kernel
theorem i104_11 : ins 104 11 = some (.sipush (2000), 14, 0, 2000) := by decide +kernel
theorem i104_14 : ins 104 14 = some (.if_icmp .ge (32), 17, 46, 0) := by decide +kernel
theorem i104_17 : ins 104 17 = some (.aload_n 0, 18, 0, 0) := by decide +kernel
theorem i104_18 : ins 104 18 = some (.getfield 9, 21, 11, 0) := by decide +kernel
theorem i104_21 : ins 104 21 = some (.aload_n 0, 22, 0, 0) := by decide +kernel
theorem i104_22 : ins 104 22 = some (.getfield 13, 25, 11, 1) := by decide +kernel
theorem i104_25 : ins 104 25 = some (.iload_n 1, 26, 0, 0) := by decide +kernel
theorem i104_26 : ins 104 26 = some (.iload_n 2, 27, 0, 0) := by decide +kernel
theorem i104_27 : ins 104 27 = some (.iushr, 28, 0, 0) := by decide +kernel
theorem i104_28 : ins 104 28 = some (.i2b, 29, 0, 0) := by decide +kernel
theorem i104_29 : ins 104 29 = some (.bastore, 30, 0, 0) := by decide +kernel
theorem i104_30 : ins 104 30 = some (.aload_n 0, 31, 0, 0) := by decide +kernel
theorem i104_31 : ins 104 31 = some (.dup, 32, 0, 0) := by decide +kernel
theorem i104_32 : ins 104 32 = some (.getfield 13, 35, 11, 1) := by decide +kernel
theorem i104_35 : ins 104 35 = some (.iconst (1), 36, 0, 1) := by decide +kernel
theorem i104_36 : ins 104 36 = some (.iadd, 37, 0, 0) := by decide +kernel
theorem i104_37 : ins 104 37 = some (.putfield 13, 40, 11, 1) := by decide +kernel
theorem i104_40 : ins 104 40 = some (.iinc 2 (-8), 43, 0, -8) := by decide +kernel
theorem i104_43 : ins 104 43 = some (.goto (-40), 46, 3, 0) := by decide +kernel
theorem i104_46 : ins 104 46 = some (.return_, 47, 0, 0) := by decide +kernel
theorem i105_0 : ins 105 0 = some (.iload_n 1, 1, 0, 0) := by decide +kernel
theorem i105_1 : ins 105 1 = some (.ifCond .lt (11), 4, 12, 0) := by decide +kernel
theorem i105_4 : ins 105 4 = some (.iload_n 1, 5, 0, 0) := by decide +kernel
theorem i105_5 : ins 105 5 = some (.aload_n 0, 6, 0, 0) := by decide +kernel
theorem i105_6 : ins 105 6 = some (.getfield 13, 9, 11, 1) := by decide +kernel
theorem i105_9 : ins 105 9 = some (.if_icmp .le (5), 12, 14, 0) := by decide +kernel
theorem i105_12 : ins 105 12 = some (.iconst (-1), 13, 0, -1) := by decide +kernel
theorem i105_13 : ins 105 13 = some (.ireturn, 14, 0, 0) := by decide +kernel
theorem i105_14 : ins 105 14 = some (.aload_n 0, 15, 0, 0) := by decide +kernel
theorem i105_15 : ins 105 15 = some (.dup, 16, 0, 0) := by decide +kernel
theorem i105_16 : ins 105 16 = some (.getfield 13, 19, 11, 1) := by decide +kernel
theorem i105_19 : ins 105 19 = some (.iload_n 1, 20, 0, 0) := by decide +kernel
theorem i105_20 : ins 105 20 = some (.isub, 21, 0, 0) := by decide +kernel
theorem i105_21 : ins 105 21 = some (.putfield 13, 24, 11, 1) := by decide +kernel
theorem i105_24 : ins 105 24 = some (.aload_n 0, 25, 0, 0) := by decide +kernel
theorem i105_25 : ins 105 25 = some (.getfield 13, 28, 11, 1) := by decide +kernel
theorem i105_28 : ins 105 28 = some (.ireturn, 29, 0, 0) := by decide +kernel
theorem i106_0 : ins 106 0 = some (.aload_n 0, 1, 0, 0) := by decide +kernel
theorem i106_1 : ins 106 1 = some (.getfield 20, 4, 11, 2) := by decide +kernel
theorem i106_4 : ins 106 4 = some (.aload_n 0, 5, 0, 0) := by decide +kernel
theorem i106_5 : ins 106 5 = some (.getfield 9, 8, 11, 0) := by decide +kernel
theorem i106_8 : ins 106 8 = some (.aload_n 0, 9, 0, 0) := by decide +kernel
theorem i106_9 : ins 106 9 = some (.getfield 13, 12, 11, 1) := by decide +kernel
theorem i106_12 : ins 106 12 = some (.invokevirtual 91, 15, 55, 0) := by decide +kernel
theorem i106_15 : ins 106 15 = some (.istore_n 1, 16, 0, 0) := by decide +kernel
theorem i106_16 : ins 106 16 = some (.aload_n 0, 17, 0, 0) := by decide +kernel
theorem i106_17 : ins 106 17 = some (.iconst (0), 18, 0, 0) := by decide +kernel
theorem i106_18 : ins 106 18 = some (.putfield 13, 21, 11, 1) := by decide +kernel
theorem i106_21 : ins 106 21 = some (.iload_n 1, 22, 0, 0) := by decide +kernel
theorem i106_22 : ins 106 22 = some (.ifCond .ne (7), 25, 29, 0) := by decide +kernel
theorem i106_25 : ins 106 25 = some (.aload_n 0, 26, 0, 0) := by decide +kernel
theorem i106_26 : ins 106 26 = some (.invokevirtual 95, 29, 107, 0) := by decide +kernel
theorem i106_29 : ins 106 29 = some (.iload_n 1, 30, 0, 0) := by decide +kernel
theorem i106_30 : ins 106 30 = some (.ireturn, 31, 0, 0) := by decide +kernel
theorem i107_0 : ins 107 0 = some (.aload_n 0, 1, 0, 0) := by decide +kernel
theorem i107_1 : ins 107 1 = some (.getfield 27, 4, 11, 3) := by decide +kernel
theorem i107_4 : ins 107 4 = some (.astore_n 1, 5, 0, 0) := by decide +kernel
theorem i107_5 : ins 107 5 = some (.aload_n 0, 6, 0, 0) := by decide +kernel
theorem i107_6 : ins 107 6 = some (.aload_n 0, 7, 0, 0) := by decide +kernel
theorem i107_7 : ins 107 7 = some (.getfield 20, 10, 11, 2) := by decide +kernel
theorem i107_10 : ins 107 10 = some (.getfield 98, 13, 6, 1) := by decide +kernel
theorem i107_13 : ins 107 13 = some (.putfield 27, 16, 11, 3) := by decide +kernel
theorem i107_16 : ins 107 16 = some (.aload_n 0, 17, 0, 0) := by decide +kernel
theorem i107_17 : ins 107 17 = some (.getfield 20, 20, 11, 2) := by decide +kernel
theorem i107_20 : ins 107 20 = some (.aload_n 1, 21, 0, 0) := by decide +kernel
theorem i107_21 : ins 107 21 = some (.putfield 98, 24, 6, 1) := by decide +kernel
theorem i107_24 : ins 107 24 = some (.aload_n 0, 25, 0, 0) := by decide +kernel
theorem i107_25 : ins 107 25 = some (.getfield 34, 28, 11, 4) := by decide +kernel
theorem i107_28 : ins 107 28 = some (.aload_n 0, 29, 0, 0) := by decide +kernel
theorem i107_29 : ins 107 29 = some (.getfield 27, 32, 11, 3) := by decide +kernel
theorem i107_32 : ins 107 32 = some (.invokevirtual 83, 35, 88, 0) := by decide +kernel
theorem i107_35 : ins 107 35 = some (.aload_n 0, 36, 0, 0) := by decide +kernel
theorem i107_36 : ins 107 36 = some (.getfield 51, 39, 11, 7) := by decide +kernel
theorem i107_39 : ins 107 39 = some (.invokevirtual 101, 42, 46, 0) := by decide +kernel
theorem i107_42 : ins 107 42 = some (.aload_n 0, 43, 0, 0) := by decide +kernel
theorem i107_43 : ins 107 43 = some (.getfield 64, 46, 11, 9) := by decide +kernel
theorem i107_46 : ins 107 46 = some (.iconst (0), 47, 0, 0) := by decide +kernel
theorem i107_47 : ins 107 47 = some (.putfield 104, 50, 3, 0) := by decide +kernel
theorem i107_50 : ins 107 50 = some (.iconst (0), 51, 0, 0) := by decide +kernel
theorem i107_51 : ins 107 51 = some (.istore_n 2, 52, 0, 0) := by decide +kernel
theorem i107_52 : ins 107 52 = some (.iload_n 2, 53, 0, 0) := by decide +kernel
theorem i107_53 : ins 107 53 = some (.iconst (3), 54, 0, 3) := by decide +kernel
theorem i107_54 : ins 107 54 = some (.if_icmp .ge (19), 57, 73, 0) := by decide +kernel
theorem i107_57 : ins 107 57 = some (.aload_n 0, 58, 0, 0) := by decide +kernel
theorem i107_58 : ins 107 58 = some (.getfield 57, 61, 11, 8) := by decide +kernel
theorem i107_61 : ins 107 61 = some (.iload_n 2, 62, 0, 0) := by decide +kernel
theorem i107_62 : ins 107 62 = some (.aaload, 63, 0, 0) := by decide +kernel
theorem i107_63 : ins 107 63 = some (.iconst (0), 64, 0, 0) := by decide +kernel
theorem i107_64 : ins 107 64 = some (.putfield 107, 67, 8, 0) := by decide +kernel
theorem i107_67 : ins 107 67 = some (.iinc 2 (1), 70, 0, 1) := by decide +kernel
theorem i107_70 : ins 107 70 = some (.goto (-18), 73, 52, 0) := by decide +kernel
theorem i107_73 : ins 107 73 = some (.return_, 74, 0, 0) := by decide +kernel
theorem i108_0 : ins 108 0 = some (.aload_n 0, 1, 0, 0) := by decide +kernel
theorem i108_1 : ins 108 1 = some (.getfield 20, 4, 11, 2) := by decide +kernel
theorem i108_4 : ins 108 4 = some (.getfield 111, 7, 6, 0) := by decide +kernel
theorem i108_7 : ins 108 7 = some (.ireturn, 8, 0, 0) := by decide +kernel
theorem i109_0 : ins 109 0 = some (.iload_n 1, 1, 0, 0) := by decide +kernel
theorem i109_1 : ins 109 1 = some (.ifCond .lt (18), 4, 19, 0) := by decide +kernel
theorem i109_4 : ins 109 4 = some (.iload_n 1, 5, 0, 0) := by decide +kernel
theorem i109_5 : ins 109 5 = some (.aload_n 0, 6, 0, 0) := by decide +kernel
theorem i109_6 : ins 109 6 = some (.getfield 27, 9, 11, 3) := by decide +kernel
theorem i109_9 : ins 109 9 = some (.getfield 114, 12, 10, 0) := by decide +kernel
theorem i109_12 : ins 109 12 = some (.if_icmp .ge (7), 15, 19, 0) := by decide +kernel
theorem i109_15 : ins 109 15 = some (.iconst (1), 16, 0, 1) := by decide +kernel
theorem i109_16 : ins 109 16 = some (.goto (4), 19, 20, 0) := by decide +kernel
theorem i109_19 : ins 109 19 = some (.iconst (0), 20, 0, 0) := by decide +kernel
theorem i109_20 : ins 109 20 = some (.ireturn, 21, 0, 0) := by decide +kernel
theorem i110_0 : ins 110 0 = some (.iload_n 1, 1, 0, 0) := by decide +kernel
theorem i110_1 : ins 110 1 = some (.ifCond .lt (18), 4, 19, 0) := by decide +kernel
theorem i110_4 : ins 110 4 = some (.iload_n 1, 5, 0, 0) := by decide +kernel
theorem i110_5 : ins 110 5 = some (.aload_n 0, 6, 0, 0) := by decide +kernel
theorem i110_6 : ins 110 6 = some (.getfield 27, 9, 11, 3) := by decide +kernel
theorem i110_9 : ins 110 9 = some (.getfield 117, 12, 10, 1) := by decide +kernel
theorem i110_12 : ins 110 12 = some (.if_icmp .ge (7), 15, 19, 0) := by decide +kernel
theorem i110_15 : ins 110 15 = some (.iconst (1), 16, 0, 1) := by decide +kernel
theorem i110_16 : ins 110 16 = some (.goto (4), 19, 20, 0) := by decide +kernel
theorem i110_19 : ins 110 19 = some (.iconst (0), 20, 0, 0) := by decide +kernel
theorem i110_20 : ins 110 20 = some (.ireturn, 21, 0, 0) := by decide +kernel
theorem i111_0 : ins 111 0 = some (.iload_n 1, 1, 0, 0) := by decide +kernel
theorem i111_1 : ins 111 1 = some (.ifCond .lt (18), 4, 19, 0) := by decide +kernel
theorem i111_4 : ins 111 4 = some (.iload_n 1, 5, 0, 0) := by decide +kernel
theorem i111_5 : ins 111 5 = some (.aload_n 0, 6, 0, 0) := by decide +kernel
theorem i111_6 : ins 111 6 = some (.getfield 27, 9, 11, 3) := by decide +kernel
theorem i111_9 : ins 111 9 = some (.getfield 120, 12, 10, 2) := by decide +kernel
theorem i111_12 : ins 111 12 = some (.if_icmp .ge (7), 15, 19, 0) := by decide +kernel
theorem i111_15 : ins 111 15 = some (.iconst (1), 16, 0, 1) := by decide +kernel
theorem i111_16 : ins 111 16 = some (.goto (4), 19, 20, 0) := by decide +kernel
theorem i111_19 : ins 111 19 = some (.iconst (0), 20, 0, 0) := by decide +kernel
theorem i111_20 : ins 111 20 = some (.ireturn, 21, 0, 0) := by decide +kernel
theorem i112_0 : ins 112 0 = some (.iload_n 0, 1, 0, 0) := by decide +kernel
theorem i112_1 : ins 112 1 = some (.iload_n 1, 2, 0, 0) := by decide +kernel
theorem i112_2 : ins 112 2 = some (.if_icmp .lt (12), 5, 14, 0) := by decide +kernel
theorem i112_5 : ins 112 5 = some (.iload_n 0, 6, 0, 0) := by decide +kernel
theorem i112_6 : ins 112 6 = some (.iload_n 2, 7, 0, 0) := by decide +kernel
theorem i112_7 : ins 112 7 = some (.if_icmp .gt (7), 10, 14, 0) := by decide +kernel
theorem i112_10 : ins 112 10 = some (.iconst (1), 11, 0, 1) := by decide +kernel
theorem i112_11 : ins 112 11 = some (.goto (4), 14, 15, 0) := by decide +kernel
theorem i112_14 : ins 112 14 = some (.iconst (0), 15, 0, 0) := by decide +kernel
theorem i112_15 : ins 112 15 = some (.ireturn, 16, 0, 0) := by decide +kernel
theorem i113_0 : ins 113 0 = some (.aload_n 0, 1, 0, 0) := by decide +kernel
theorem i113_1 : ins 113 1 = some (.iload_n 1, 2, 0, 0) := by decide +kernel
theorem i113_2 : ins 113 2 = some (.invokevirtual 123, 5, 109, 0) := by decide +kernel
theorem i113_5 : ins 113 5 = some (.ifCond .eq (15), 8, 20, 0) := by decide +kernel
theorem i113_8 : ins 113 8 = some (.aload_n 0, 9, 0, 0) := by decide +kernel
theorem i113_9 : ins 113 9 = some (.getfield 34, 12, 11, 4) := by decide +kernel
theorem i113_12 : ins 113 12 = some (.getfield 127, 15, 9, 3) := by decide +kernel
theorem i113_15 : ins 113 15 = some (.iload_n 1, 16, 0, 0) := by decide +kernel
theorem i113_16 : ins 113 16 = some (.iaload, 17, 0, 0) := by decide +kernel
theorem i113_17 : ins 113 17 = some (.goto (4), 20, 21, 0) := by decide +kernel
theorem i113_20 : ins 113 20 = some (.iconst (-1), 21, 0, -1) := by decide +kernel
theorem i113_21 : ins 113 21 = some (.ireturn, 22, 0, 0) := by decide +kernel
theorem i114_0 : ins 114 0 = some (.aload_n 0, 1, 0, 0) := by decide +kernel
theorem i114_1 : ins 114 1 = some (.iload_n 1, 2, 0, 0) := by decide +kernel
theorem i114_2 : ins 114 2 = some (.invokevirtual 131, 5, 110, 0) := by decide +kernel
theorem i114_5 : ins 114 5 = some (.ifCond .eq (11), 8, 16, 0) := by decide +kernel
theorem i114_8 : ins 114 8 = some (.aload_n 0, 9, 0, 0) := by decide +kernel
theorem i114_9 : ins 114 9 = some (.iload_n 2, 10, 0, 0) := by decide +kernel
theorem i114_10 : ins 114 10 = some (.invokevirtual 123, 13, 109, 0) := by decide +kernel
theorem i114_13 : ins 114 13 = some (.ifCond .ne (5), 16, 18, 0) := by decide +kernel
theorem i114_16 : ins 114 16 = some (.iconst (-1), 17, 0, -1) := by decide +kernel
theorem i114_17 : ins 114 17 = some (.ireturn, 18, 0, 0) := by decide +kernel
theorem i114_18 : ins 114 18 = some (.iload_n 3, 19, 0, 0) := by decide +kernel
theorem i114_19 : ins 114 19 = some (.tableswitch (66) (0) (2) #[25, 35, 56], 44, 0, 0) := by decide +kernel
theorem i114_44 : ins 114 44 = some (.aload_n 0, 45, 0, 0) := by decide +kernel
theorem i114_45 : ins 114 45 = some (.getfield 34, 48, 11, 4) := by decide +kernel
theorem i114_48 : ins 114 48 = some (.iload_n 1, 49, 0, 0) := by decide +kernel
theorem i114_49 : ins 114 49 = some (.iload_n 2, 50, 0, 0) := by decide +kernel
theorem i114_50 : ins 114 50 = some (.invokevirtual 134, 53, 91, 0) := by decide +kernel
theorem i114_53 : ins 114 53 = some (.ireturn, 54, 0, 0) := by decide +kernel
theorem i114_54 : ins 114 54 = some (.aload_n 0, 55, 0, 0) := by decide +kernel
theorem i114_55 : ins 114 55 = some (.getfield 27, 58, 11, 3) := by decide +kernel
theorem i114_58 : ins 114 58 = some (.aload_n 0, 59, 0, 0) := by decide +kernel
theorem i114_59 : ins 114 59 = some (.getfield 34, 62, 11, 4) := by decide +kernel
theorem i114_62 : ins 114 62 = some (.aload_n 0, 63, 0, 0) := by decide +kernel
theorem i114_63 : ins 114 63 = some (.getfield 27, 66, 11, 3) := by decide +kernel
theorem i114_66 : ins 114 66 = some (.getfield 138, 69, 10, 5) := by decide +kernel
theorem i114_69 : ins 114 69 = some (.iload_n 1, 70, 0, 0) := by decide +kernel
theorem i114_70 : ins 114 70 = some (.iload_n 2, 71, 0, 0) := by decide +kernel
theorem i114_71 : ins 114 71 = some (.invokestatic 141, 74, 25, 0) := by decide +kernel
theorem i114_74 : ins 114 74 = some (.ireturn, 75, 0, 0) := by decide +kernel
theorem i114_75 : ins 114 75 = some (.aload_n 0, 76, 0, 0) := by decide +kernel
theorem i114_76 : ins 114 76 = some (.getfield 34, 79, 11, 4) := by decide +kernel
theorem i114_79 : ins 114 79 = some (.iload_n 1, 80, 0, 0) := by decide +kernel
theorem i114_80 : ins 114 80 = some (.iload_n 2, 81, 0, 0) := by decide +kernel
theorem i114_81 : ins 114 81 = some (.invokevirtual 145, 84, 92, 0) := by decide +kernel
theorem i114_84 : ins 114 84 = some (.ireturn, 85, 0, 0) := by decide +kernel
theorem i114_85 : ins 114 85 = some (.iconst (-1), 86, 0, -1) := by decide +kernel
theorem i114_86 : ins 114 86 = some (.ireturn, 87, 0, 0) := by decide +kernel
theorem i115_0 : ins 115 0 = some (.aload_n 0, 1, 0, 0) := by decide +kernel
theorem i115_1 : ins 115 1 = some (.iload_n 1, 2, 0, 0) := by decide +kernel
theorem i115_2 : ins 115 2 = some (.invokevirtual 131, 5, 110, 0) := by decide +kernel
theorem i115_5 : ins 115 5 = some (.ifCond .ne (5), 8, 10, 0) := by decide +kernel
theorem i115_8 : ins 115 8 = some (.iconst (-1), 9, 0, -1) := by decide +kernel
theorem i115_9 : ins 115 9 = some (.ireturn, 10, 0, 0) := by decide +kernel
theorem i115_10 : ins 115 10 = some (.iload_n 2, 11, 0, 0) := by decide +kernel
theorem i115_11 : ins 115 11 = some (.tableswitch (83) (0) (4) #[33, 43, 53, 59, 69], 44, 0, 0) := by decide +kernel
theorem i115_44 : ins 115 44 = some (.aload_n 0, 45, 0, 0) := by decide +kernel
theorem i115_45 : ins 115 45 = some (.getfield 27, 48, 11, 3) := by decide +kernel
theorem i115_48 : ins 115 48 = some (.getfield 148, 51, 10, 8) := by decide +kernel
theorem i115_51 : ins 115 51 = some (.iload_n 1, 52, 0, 0) := by decide +kernel
theorem i115_52 : ins 115 52 = some (.iaload, 53, 0, 0) := by decide +kernel
theorem i115_53 : ins 115 53 = some (.ireturn, 54, 0, 0) := by decide +kernel
theorem i115_54 : ins 115 54 = some (.aload_n 0, 55, 0, 0) := by decide +kernel
theorem i115_55 : ins 115 55 = some (.getfield 27, 58, 11, 3) := by decide +kernel
theorem i115_58 : ins 115 58 = some (.getfield 151, 61, 10, 9) := by decide +kernel
theorem i115_61 : ins 115 61 = some (.iload_n 1, 62, 0, 0) := by decide +kernel
theorem i115_62 : ins 115 62 = some (.iaload, 63, 0, 0) := by decide +kernel
theorem i115_63 : ins 115 63 = some (.ireturn, 64, 0, 0) := by decide +kernel
theorem i115_64 : ins 115 64 = some (.aload_n 0, 65, 0, 0) := by decide +kernel
theorem i115_65 : ins 115 65 = some (.iload_n 1, 66, 0, 0) := by decide +kernel
theorem i115_66 : ins 115 66 = some (.invokevirtual 154, 69, 116, 0) := by decide +kernel
theorem i115_69 : ins 115 69 = some (.ireturn, 70, 0, 0) := by decide +kernel
theorem i115_70 : ins 115 70 = some (.aload_n 0, 71, 0, 0) := by decide +kernel
theorem i115_71 : ins 115 71 = some (.getfield 34, 74, 11, 4) := by decide +kernel
theorem i115_74 : ins 115 74 = some (.getfield 158, 77, 9, 5) := by decide +kernel
theorem i115_77 : ins 115 77 = some (.iload_n 1, 78, 0, 0) := by decide +kernel
theorem i115_78 : ins 115 78 = some (.iaload, 79, 0, 0) := by decide +kernel
theorem i115_79 : ins 115 79 = some (.ireturn, 80, 0, 0) := by decide +kernel
theorem i115_80 : ins 115 80 = some (.aload_n 0, 81, 0, 0) := by decide +kernel
theorem i115_81 : ins 115 81 = some (.getfield 27, 84, 11, 3) := by decide +kernel
theorem i115_84 : ins 115 84 = some (.aload_n 0, 85, 0, 0) := by decide +kernel
theorem i115_85 : ins 115 85 = some (.getfield 34, 88, 11, 4) := by decide +kernel
theorem i115_88 : ins 115 88 = some (.iload_n 1, 89, 0, 0) := by decide +kernel
theorem i115_89 : ins 115 89 = some (.iconst (0), 90, 0, 0) := by decide +kernel
theorem i115_90 : ins 115 90 = some (.invokevirtual 161, 93, 97, 0) := by decide +kernel
theorem i115_93 : ins 115 93 = some (.ireturn, 94, 0, 0) := by decide +kernel
theorem i115_94 : ins 115 94 = some (.iconst (-1), 95, 0, -1) := by decide +kernel
theorem i115_95 : ins 115 95 = some (.ireturn, 96, 0, 0) := by decide +kernel
theorem i116_0 : ins 116 0 = some (.aload_n 0, 1, 0, 0) := by decide +kernel
theorem i116_1 : ins 116 1 = some (.getfield 71, 4, 11, 10) := by decide +kernel
theorem i116_4 : ins 116 4 = some (.aload_n 0, 5, 0, 0) := by decide +kernel
theorem i116_5 : ins 116 5 = some (.getfield 27, 8, 11, 3) := by decide +kernel
theorem i116_8 : ins 116 8 = some (.aload_n 0, 9, 0, 0) := by decide +kernel
theorem i116_9 : ins 116 9 = some (.getfield 34, 12, 11, 4) := by decide +kernel
theorem i116_12 : ins 116 12 = some (.aload_n 0, 13, 0, 0) := by decide +kernel
theorem i116_13 : ins 116 13 = some (.getfield 27, 16, 11, 3) := by decide +kernel
theorem i116_16 : ins 116 16 = some (.getfield 138, 19, 10, 5) := by decide +kernel
theorem i116_19 : ins 116 19 = some (.invokevirtual 165, 22, 26, 0) := by decide +kernel
theorem i116_22 : ins 116 22 = some (.aload_n 0, 23, 0, 0) := by decide +kernel
theorem i116_23 : ins 116 23 = some (.getfield 71, 26, 11, 10) := by decide +kernel
theorem i116_26 : ins 116 26 = some (.aload_n 0, 27, 0, 0) := by decide +kernel
theorem i116_27 : ins 116 27 = some (.getfield 27, 30, 11, 3) := by decide +kernel
theorem i116_30 : ins 116 30 = some (.iload_n 1, 31, 0, 0) := by decide +kernel
theorem i116_31 : ins 116 31 = some (.iconst (-1), 32, 0, -1) := by decide +kernel
theorem i116_32 : ins 116 32 = some (.invokevirtual 169, 35, 27, 0) := by decide +kernel
theorem i116_35 : ins 116 35 = some (.ireturn, 36, 0, 0) := by decide +kernel
theorem i117_0 : ins 117 0 = some (.aload_n 0, 1, 0, 0) := by decide +kernel
theorem i117_1 : ins 117 1 = some (.iload_n 1, 2, 0, 0) := by decide +kernel
theorem i117_2 : ins 117 2 = some (.invokevirtual 131, 5, 110, 0) := by decide +kernel
theorem i117_5 : ins 117 5 = some (.ifCond .eq (11), 8, 16, 0) := by decide +kernel
theorem i117_8 : ins 117 8 = some (.aload_n 0, 9, 0, 0) := by decide +kernel
theorem i117_9 : ins 117 9 = some (.iload_n 2, 10, 0, 0) := by decide +kernel
theorem i117_10 : ins 117 10 = some (.invokevirtual 173, 13, 111, 0) := by decide +kernel
theorem i117_13 : ins 117 13 = some (.ifCond .ne (5), 16, 18, 0) := by decide +kernel
theorem i117_16 : ins 117 16 = some (.iconst (-1), 17, 0, -1) := by decide +kernel
theorem i117_17 : ins 117 17 = some (.ireturn, 18, 0, 0) := by decide +kernel
theorem i117_18 : ins 117 18 = some (.aload_n 0, 19, 0, 0) := by decide +kernel
theorem i117_19 : ins 117 19 = some (.getfield 71, 22, 11, 10) := by decide +kernel
theorem i117_22 : ins 117 22 = some (.aload_n 0, 23, 0, 0) := by decide +kernel
theorem i117_23 : ins 117 23 = some (.getfield 27, 26, 11, 3) := by decide +kernel
theorem i117_26 : ins 117 26 = some (.aload_n 0, 27, 0, 0) := by decide +kernel
theorem i117_27 : ins 117 27 = some (.getfield 34, 30, 11, 4) := by decide +kernel
theorem i117_30 : ins 117 30 = some (.aload_n 0, 31, 0, 0) := by decide +kernel
theorem i117_31 : ins 117 31 = some (.getfield 27, 34, 11, 3) := by decide +kernel
theorem i117_34 : ins 117 34 = some (.getfield 138, 37, 10, 5) := by decide +kernel
theorem i117_37 : ins 117 37 = some (.invokevirtual 165, 40, 26, 0) := by decide +kernel
theorem i117_40 : ins 117 40 = some (.aload_n 0, 41, 0, 0) := by decide +kernel
theorem i117_41 : ins 117 41 = some (.getfield 71, 44, 11, 10) := by decide +kernel
theorem i117_44 : ins 117 44 = some (.getfield 176, 47, 1, 0) := by decide +kernel
theorem i117_47 : ins 117 47 = some (.iload_n 1, 48, 0, 0) := by decide +kernel
theorem i117_48 : ins 117 48 = some (.aaload, 49, 0, 0) := by decide +kernel
theorem i117_49 : ins 117 49 = some (.iload_n 2, 50, 0, 0) := by decide +kernel
theorem i117_50 : ins 117 50 = some (.iaload, 51, 0, 0) := by decide +kernel
theorem i117_51 : ins 117 51 = some (.ireturn, 52, 0, 0) := by decide +kernel
theorem i118_0 : ins 118 0 = some (.aload_n 0, 1, 0, 0) := by decide +kernel
theorem i118_1 : ins 118 1 = some (.iload_n 1, 2, 0, 0) := by decide +kernel
theorem i118_2 : ins 118 2 = some (.invokevirtual 173, 5, 111, 0) := by decide +kernel
theorem i118_5 : ins 118 5 = some (.ifCond .ne (5), 8, 10, 0) := by decide +kernel
theorem i118_8 : ins 118 8 = some (.iconst (-1), 9, 0, -1) := by decide +kernel
theorem i118_9 : ins 118 9 = some (.ireturn, 10, 0, 0) := by decide +kernel
theorem i118_10 : ins 118 10 = some (.aload_n 0, 11, 0, 0) := by decide +kernel
theorem i118_11 : ins 118 11 = some (.getfield 71, 14, 11, 10) := by decide +kernel
theorem i118_14 : ins 118 14 = some (.aload_n 0, 15, 0, 0) := by decide +kernel
theorem i118_15 : ins 118 15 = some (.getfield 27, 18, 11, 3) := by decide +kernel
theorem i118_18 : ins 118 18 = some (.aload_n 0, 19, 0, 0) := by decide +kernel
theorem i118_19 : ins 118 19 = some (.getfield 34, 22, 11, 4) := by decide +kernel
theorem i118_22 : ins 118 22 = some (.aload_n 0, 23, 0, 0) := by decide +kernel
theorem i118_23 : ins 118 23 = some (.getfield 27, 26, 11, 3) := by decide +kernel
theorem i118_26 : ins 118 26 = some (.getfield 138, 29, 10, 5) := by decide +kernel
theorem i118_29 : ins 118 29 = some (.invokevirtual 165, 32, 26, 0) := by decide +kernel
theorem i118_32 : ins 118 32 = some (.aload_n 0, 33, 0, 0) := by decide +kernel
theorem i118_33 : ins 118 33 = some (.getfield 71, 36, 11, 10) := by decide +kernel
theorem i118_36 : ins 118 36 = some (.aload_n 0, 37, 0, 0) := by decide +kernel
theorem i118_37 : ins 118 37 = some (.getfield 27, 40, 11, 3) := by decide +kernel
theorem i118_40 : ins 118 40 = some (.iload_n 1, 41, 0, 0) := by decide +kernel
theorem i118_41 : ins 118 41 = some (.iconst (-1), 42, 0, -1) := by decide +kernel
theorem i118_42 : ins 118 42 = some (.invokevirtual 180, 45, 28, 0) := by decide +kernel
theorem i118_45 : ins 118 45 = some (.ireturn, 46, 0, 0) := by decide +kernel
theorem i119_0 : ins 119 0 = some (.aload_n 0, 1, 0, 0) := by decide +kernel
theorem i119_1 : ins 119 1 = some (.getfield 71, 4, 11, 10) := by decide +kernel
theorem i119_4 : ins 119 4 = some (.aload_n 0, 5, 0, 0) := by decide +kernel
theorem i119_5 : ins 119 5 = some (.getfield 27, 8, 11, 3) := by decide +kernel
theorem i119_8 : ins 119 8 = some (.aload_n 0, 9, 0, 0) := by decide +kernel
theorem i119_9 : ins 119 9 = some (.getfield 34, 12, 11, 4) := by decide +kernel
theorem i119_12 : ins 119 12 = some (.aload_n 0, 13, 0, 0) := by decide +kernel
theorem i119_13 : ins 119 13 = some (.getfield 27, 16, 11, 3) := by decide +kernel
theorem i119_16 : ins 119 16 = some (.getfield 138, 19, 10, 5) := by decide +kernel
theorem i119_19 : ins 119 19 = some (.invokevirtual 183, 22, 31, 0) := by decide +kernel
theorem i119_22 : ins 119 22 = some (.ireturn, 23, 0, 0) := by decide +kernel
theorem i120_0 : ins 120 0 = some (.aload_n 0, 1, 0, 0) := by decide +kernel
theorem i120_1 : ins 120 1 = some (.iload_n 1, 2, 0, 0) := by decide +kernel
theorem i120_2 : ins 120 2 = some (.invokevirtual 131, 5, 110, 0) := by decide +kernel
theorem i120_5 : ins 120 5 = some (.ifCond .eq (21), 8, 26, 0) := by decide +kernel
theorem i120_8 : ins 120 8 = some (.aload_n 0, 9, 0, 0) := by decide +kernel
theorem i120_9 : ins 120 9 = some (.iload_n 2, 10, 0, 0) := by decide +kernel
theorem i120_10 : ins 120 10 = some (.invokevirtual 123, 13, 109, 0) := by decide +kernel
theorem i120_13 : ins 120 13 = some (.ifCond .eq (13), 16, 26, 0) := by decide +kernel
theorem i120_16 : ins 120 16 = some (.iload_n 3, 17, 0, 0) := by decide +kernel
theorem i120_17 : ins 120 17 = some (.iconst (1), 18, 0, 1) := by decide +kernel
theorem i120_18 : ins 120 18 = some (.bipush (99), 20, 0, 99) := by decide +kernel
theorem i120_20 : ins 120 20 = some (.invokestatic 187, 23, 112, 0) := by decide +kernel
theorem i120_23 : ins 120 23 = some (.ifCond .ne (5), 26, 28, 0) := by decide +kernel
theorem i120_26 : ins 120 26 = some (.iconst (-1), 27, 0, -1) := by decide +kernel
theorem i120_27 : ins 120 27 = some (.ireturn, 28, 0, 0) := by decide +kernel
theorem i120_28 : ins 120 28 = some (.aload_n 0, 29, 0, 0) := by decide +kernel
theorem i120_29 : ins 120 29 = some (.getfield 51, 32, 11, 7) := by decide +kernel
theorem i120_32 : ins 120 32 = some (.aload_n 0, 33, 0, 0) := by decide +kernel
theorem i120_33 : ins 120 33 = some (.getfield 34, 36, 11, 4) := by decide +kernel
theorem i120_36 : ins 120 36 = some (.invokevirtual 191, 39, 47, 0) := by decide +kernel
theorem i120_39 : ins 120 39 = some (.aload_n 0, 40, 0, 0) := by decide +kernel
theorem i120_40 : ins 120 40 = some (.getfield 34, 43, 11, 4) := by decide +kernel
theorem i120_43 : ins 120 43 = some (.iload_n 1, 44, 0, 0) := by decide +kernel
theorem i120_44 : ins 120 44 = some (.iload_n 2, 45, 0, 0) := by decide +kernel
theorem i120_45 : ins 120 45 = some (.iload_n 3, 46, 0, 0) := by decide +kernel
theorem i120_46 : ins 120 46 = some (.aload_n 0, 47, 0, 0) := by decide +kernel
theorem i120_47 : ins 120 47 = some (.getfield 27, 50, 11, 3) := by decide +kernel
theorem i120_50 : ins 120 50 = some (.getfield 148, 53, 10, 8) := by decide +kernel
theorem i120_53 : ins 120 53 = some (.iload_n 1, 54, 0, 0) := by decide +kernel
theorem i120_54 : ins 120 54 = some (.iaload, 55, 0, 0) := by decide +kernel
theorem i120_55 : ins 120 55 = some (.imul, 56, 0, 0) := by decide +kernel
theorem i120_56 : ins 120 56 = some (.invokevirtual 195, 59, 94, 0) := by decide +kernel
theorem i120_59 : ins 120 59 = some (.aload_n 0, 60, 0, 0) := by decide +kernel
theorem i120_60 : ins 120 60 = some (.getfield 34, 63, 11, 4) := by decide +kernel
theorem i120_63 : ins 120 63 = some (.iload_n 1, 64, 0, 0) := by decide +kernel
theorem i120_64 : ins 120 64 = some (.iload_n 2, 65, 0, 0) := by decide +kernel
theorem i120_65 : ins 120 65 = some (.invokevirtual 145, 68, 92, 0) := by decide +kernel
theorem i120_68 : ins 120 68 = some (.ireturn, 69, 0, 0) := by decide +kernel
theorem i121_0 : ins 121 0 = some (.iload_n 1, 1, 0, 0) := by decide +kernel
theorem i121_1 : ins 121 1 = some (.iconst (0), 2, 0, 0) := by decide +kernel
theorem i121_2 : ins 121 2 = some (.bipush (100), 4, 0, 100) := by decide +kernel
theorem i121_4 : ins 121 4 = some (.invokestatic 187, 7, 112, 0) := by decide +kernel
theorem i121_7 : ins 121 7 = some (.ifCond .ne (5), 10, 12, 0) := by decide +kernel
theorem i121_10 : ins 121 10 = some (.iconst (-1), 11, 0, -1) := by decide +kernel
theorem i121_11 : ins 121 11 = some (.ireturn, 12, 0, 0) := by decide +kernel
theorem i121_12 : ins 121 12 = some (.iload_n 1, 13, 0, 0) := by decide +kernel
theorem i121_13 : ins 121 13 = some (.ifCond .le (14), 16, 27, 0) := by decide +kernel
theorem i121_16 : ins 121 16 = some (.aload_n 0, 17, 0, 0) := by decide +kernel
theorem i121_17 : ins 121 17 = some (.getfield 51, 20, 11, 7) := by decide +kernel
theorem i121_20 : ins 121 20 = some (.aload_n 0, 21, 0, 0) := by decide +kernel
theorem i121_21 : ins 121 21 = some (.getfield 34, 24, 11, 4) := by decide +kernel
theorem i121_24 : ins 121 24 = some (.invokevirtual 191, 27, 47, 0) := by decide +kernel
theorem i121_27 : ins 121 27 = some (.iconst (0), 28, 0, 0) := by decide +kernel
theorem i121_28 : ins 121 28 = some (.istore_n 2, 29, 0, 0) := by decide +kernel
theorem i121_29 : ins 121 29 = some (.iload_n 2, 30, 0, 0) := by decide +kernel
theorem i121_30 : ins 121 30 = some (.iload_n 1, 31, 0, 0) := by decide +kernel
theorem i121_31 : ins 121 31 = some (.if_icmp .ge (67), 34, 98, 0) := by decide +kernel
theorem i121_34 : ins 121 34 = some (.aload_n 0, 35, 0, 0) := by decide +kernel
theorem i121_35 : ins 121 35 = some (.getfield 71, 38, 11, 10) := by decide +kernel
theorem i121_38 : ins 121 38 = some (.aload_n 0, 39, 0, 0) := by decide +kernel
theorem i121_39 : ins 121 39 = some (.getfield 27, 42, 11, 3) := by decide +kernel
theorem i121_42 : ins 121 42 = some (.aload_n 0, 43, 0, 0) := by decide +kernel
theorem i121_43 : ins 121 43 = some (.getfield 34, 46, 11, 4) := by decide +kernel
theorem i121_46 : ins 121 46 = some (.iconst (-1), 47, 0, -1) := by decide +kernel
theorem i121_47 : ins 121 47 = some (.iconst (-1), 48, 0, -1) := by decide +kernel
theorem i121_48 : ins 121 48 = some (.invokevirtual 199, 51, 32, 0) := by decide +kernel
theorem i121_51 : ins 121 51 = some (.aload_n 0, 52, 0, 0) := by decide +kernel
theorem i121_52 : ins 121 52 = some (.getfield 71, 55, 11, 10) := by decide +kernel
theorem i121_55 : ins 121 55 = some (.aload_n 0, 56, 0, 0) := by decide +kernel
theorem i121_56 : ins 121 56 = some (.getfield 27, 59, 11, 3) := by decide +kernel
theorem i121_59 : ins 121 59 = some (.aload_n 0, 60, 0, 0) := by decide +kernel
theorem i121_60 : ins 121 60 = some (.getfield 34, 63, 11, 4) := by decide +kernel
theorem i121_63 : ins 121 63 = some (.invokevirtual 203, 66, 33, 0) := by decide +kernel
theorem i121_66 : ins 121 66 = some (.aload_n 0, 67, 0, 0) := by decide +kernel
theorem i121_67 : ins 121 67 = some (.getfield 44, 70, 11, 6) := by decide +kernel
theorem i121_70 : ins 121 70 = some (.aload_n 0, 71, 0, 0) := by decide +kernel
theorem i121_71 : ins 121 71 = some (.getfield 34, 74, 11, 4) := by decide +kernel
theorem i121_74 : ins 121 74 = some (.invokevirtual 207, 77, 16, 0) := by decide +kernel
theorem i121_77 : ins 121 77 = some (.aload_n 0, 78, 0, 0) := by decide +kernel
theorem i121_78 : ins 121 78 = some (.getfield 71, 81, 11, 10) := by decide +kernel
theorem i121_81 : ins 121 81 = some (.aload_n 0, 82, 0, 0) := by decide +kernel
theorem i121_82 : ins 121 82 = some (.getfield 27, 85, 11, 3) := by decide +kernel
theorem i121_85 : ins 121 85 = some (.aload_n 0, 86, 0, 0) := by decide +kernel
theorem i121_86 : ins 121 86 = some (.getfield 34, 89, 11, 4) := by decide +kernel
theorem i121_89 : ins 121 89 = some (.invokevirtual 210, 92, 34, 0) := by decide +kernel
theorem i121_92 : ins 121 92 = some (.iinc 2 (1), 95, 0, 1) := by decide +kernel
theorem i121_95 : ins 121 95 = some (.goto (-66), 98, 29, 0) := by decide +kernel
theorem i121_98 : ins 121 98 = some (.aload_n 0, 99, 0, 0) := by decide +kernel
theorem i121_99 : ins 121 99 = some (.getfield 34, 102, 11, 4) := by decide +kernel
theorem i121_102 : ins 121 102 = some (.getfield 213, 105, 9, 0) := by decide +kernel
theorem i121_105 : ins 121 105 = some (.ireturn, 106, 0, 0) := by decide +kernel
theorem i122_0 : ins 122 0 = some (.aload_n 0, 1, 0, 0) := by decide +kernel
theorem i122_1 : ins 122 1 = some (.getfield 51, 4, 11, 7) := by decide +kernel
theorem i122_4 : ins 122 4 = some (.aload_n 0, 5, 0, 0) := by decide +kernel
theorem i122_5 : ins 122 5 = some (.getfield 34, 8, 11, 4) := by decide +kernel
theorem i122_8 : ins 122 8 = some (.invokevirtual 216, 11, 48, 0) := by decide +kernel
theorem i122_11 : ins 122 11 = some (.ireturn, 12, 0, 0) := by decide +kernel
theorem i123_0 : ins 123 0 = some (.iload_n 1, 1, 0, 0) := by decide +kernel
theorem i123_1 : ins 123 1 = some (.ifCond .lt (14), 4, 15, 0) := by decide +kernel
theorem i123_4 : ins 123 4 = some (.iload_n 1, 5, 0, 0) := by decide +kernel
theorem i123_5 : ins 123 5 = some (.aload_n 0, 6, 0, 0) := by decide +kernel
theorem i123_6 : ins 123 6 = some (.getfield 34, 9, 11, 4) := by decide +kernel
theorem i123_9 : ins 123 9 = some (.invokevirtual 220, 12, 90, 0) := by decide +kernel
theorem i123_12 : ins 123 12 = some (.if_icmp .lt (5), 15, 17, 0) := by decide +kernel
theorem i123_15 : ins 123 15 = some (.iconst (-1), 16, 0, -1) := by decide +kernel
theorem i123_16 : ins 123 16 = some (.ireturn, 17, 0, 0) := by decide +kernel
theorem i123_17 : ins 123 17 = some (.iload_n 2, 18, 0, 0) := by decide +kernel
theorem i123_18 : ins 123 18 = some (.iconst (-1), 19, 0, -1) := by decide +kernel
theorem i123_19 : ins 123 19 = some (.if_icmp .ne (12), 22, 31, 0) := by decide +kernel
theorem i123_22 : ins 123 22 = some (.aload_n 0, 23, 0, 0) := by decide +kernel
theorem i123_23 : ins 123 23 = some (.getfield 44, 26, 11, 6) := by decide +kernel
theorem i123_26 : ins 123 26 = some (.iload_n 1, 27, 0, 0) := by decide +kernel
theorem i123_27 : ins 123 27 = some (.invokevirtual 224, 30, 19, 0) := by decide +kernel
theorem i123_30 : ins 123 30 = some (.ireturn, 31, 0, 0) := by decide +kernel
theorem i123_31 : ins 123 31 = some (.aload_n 0, 32, 0, 0) := by decide +kernel
theorem i123_32 : ins 123 32 = some (.iload_n 2, 33, 0, 0) := by decide +kernel
theorem i123_33 : ins 123 33 = some (.invokevirtual 123, 36, 109, 0) := by decide +kernel
theorem i123_36 : ins 123 36 = some (.ifCond .eq (15), 39, 51, 0) := by decide +kernel
theorem i123_39 : ins 123 39 = some (.aload_n 0, 40, 0, 0) := by decide +kernel
theorem i123_40 : ins 123 40 = some (.getfield 44, 43, 11, 6) := by decide +kernel
theorem i123_43 : ins 123 43 = some (.iload_n 1, 44, 0, 0) := by decide +kernel
theorem i123_44 : ins 123 44 = some (.iload_n 2, 45, 0, 0) := by decide +kernel
theorem i123_45 : ins 123 45 = some (.invokevirtual 227, 48, 18, 0) := by decide +kernel
theorem i123_48 : ins 123 48 = some (.goto (4), 51, 52, 0) := by decide +kernel
theorem i123_51 : ins 123 51 = some (.iconst (-1), 52, 0, -1) := by decide +kernel
theorem i123_52 : ins 123 52 = some (.ireturn, 53, 0, 0) := by decide +kernel
theorem i124_0 : ins 124 0 = some (.aload_n 0, 1, 0, 0) := by decide +kernel
theorem i124_1 : ins 124 1 = some (.iload_n 1, 2, 0, 0) := by decide +kernel
theorem i124_2 : ins 124 2 = some (.invokevirtual 131, 5, 110, 0) := by decide +kernel
theorem i124_5 : ins 124 5 = some (.ifCond .eq (13), 8, 18, 0) := by decide +kernel
theorem i124_8 : ins 124 8 = some (.iload_n 2, 9, 0, 0) := by decide +kernel
theorem i124_9 : ins 124 9 = some (.iconst (0), 10, 0, 0) := by decide +kernel
theorem i124_10 : ins 124 10 = some (.bipush (12), 12, 0, 12) := by decide +kernel
theorem i124_12 : ins 124 12 = some (.invokestatic 187, 15, 112, 0) := by decide +kernel
theorem i124_15 : ins 124 15 = some (.ifCond .ne (5), 18, 20, 0) := by decide +kernel
theorem i124_18 : ins 124 18 = some (.iconst (-1), 19, 0, -1) := by decide +kernel
theorem i124_19 : ins 124 19 = some (.ireturn, 20, 0, 0) := by decide +kernel
theorem i124_20 : ins 124 20 = some (.aload_n 0, 21, 0, 0) := by decide +kernel
theorem i124_21 : ins 124 21 = some (.getfield 78, 24, 11, 11) := by decide +kernel
theorem i124_24 : ins 124 24 = some (.aload_n 0, 25, 0, 0) := by decide +kernel
theorem i124_25 : ins 124 25 = some (.getfield 27, 28, 11, 3) := by decide +kernel
theorem i124_28 : ins 124 28 = some (.aload_n 0, 29, 0, 0) := by decide +kernel
theorem i124_29 : ins 124 29 = some (.getfield 34, 32, 11, 4) := by decide +kernel
theorem i124_32 : ins 124 32 = some (.iload_n 1, 33, 0, 0) := by decide +kernel
theorem i124_33 : ins 124 33 = some (.iload_n 2, 34, 0, 0) := by decide +kernel
theorem i124_34 : ins 124 34 = some (.invokevirtual 230, 37, 50, 0) := by decide +kernel
theorem i124_37 : ins 124 37 = some (.ireturn, 38, 0, 0) := by decide +kernel
theorem i125_0 : ins 125 0 = some (.aload_n 0, 1, 0, 0) := by decide +kernel
theorem i125_1 : ins 125 1 = some (.iload_n 1, 2, 0, 0) := by decide +kernel
theorem i125_2 : ins 125 2 = some (.invokevirtual 131, 5, 110, 0) := by decide +kernel
theorem i125_5 : ins 125 5 = some (.ifCond .eq (21), 8, 26, 0) := by decide +kernel
theorem i125_8 : ins 125 8 = some (.iload_n 2, 9, 0, 0) := by decide +kernel
theorem i125_9 : ins 125 9 = some (.iconst (0), 10, 0, 0) := by decide +kernel
theorem i125_10 : ins 125 10 = some (.bipush (12), 12, 0, 12) := by decide +kernel
theorem i125_12 : ins 125 12 = some (.invokestatic 187, 15, 112, 0) := by decide +kernel
theorem i125_15 : ins 125 15 = some (.ifCond .eq (11), 18, 26, 0) := by decide +kernel
theorem i125_18 : ins 125 18 = some (.aload_n 0, 19, 0, 0) := by decide +kernel
theorem i125_19 : ins 125 19 = some (.iload_n 3, 20, 0, 0) := by decide +kernel
theorem i125_20 : ins 125 20 = some (.invokevirtual 123, 23, 109, 0) := by decide +kernel
theorem i125_23 : ins 125 23 = some (.ifCond .ne (5), 26, 28, 0) := by decide +kernel
theorem i125_26 : ins 125 26 = some (.iconst (-1), 27, 0, -1) := by decide +kernel
theorem i125_27 : ins 125 27 = some (.ireturn, 28, 0, 0) := by decide +kernel
theorem i125_28 : ins 125 28 = some (.aload_n 0, 29, 0, 0) := by decide +kernel
theorem i125_29 : ins 125 29 = some (.getfield 78, 32, 11, 11) := by decide +kernel
theorem i125_32 : ins 125 32 = some (.aload_n 0, 33, 0, 0) := by decide +kernel
theorem i125_33 : ins 125 33 = some (.getfield 27, 36, 11, 3) := by decide +kernel
theorem i125_36 : ins 125 36 = some (.aload_n 0, 37, 0, 0) := by decide +kernel
theorem i125_37 : ins 125 37 = some (.getfield 34, 40, 11, 4) := by decide +kernel
theorem i125_40 : ins 125 40 = some (.iload_n 1, 41, 0, 0) := by decide +kernel
theorem i125_41 : ins 125 41 = some (.iload_n 2, 42, 0, 0) := by decide +kernel
theorem i125_42 : ins 125 42 = some (.invokevirtual 230, 45, 50, 0) := by decide +kernel
theorem i125_45 : ins 125 45 = some (.pop, 46, 0, 0) := by decide +kernel
theorem i125_46 : ins 125 46 = some (.aload_n 0, 47, 0, 0) := by decide +kernel
theorem i125_47 : ins 125 47 = some (.getfield 78, 50, 11, 11) := by decide +kernel
theorem i125_50 : ins 125 50 = some (.getfield 234, 53, 5, 0) := by decide +kernel
theorem i125_53 : ins 125 53 = some (.iload_n 3, 54, 0, 0) := by decide +kernel
theorem i125_54 : ins 125 54 = some (.iaload, 55, 0, 0) := by decide +kernel
theorem i125_55 : ins 125 55 = some (.ireturn, 56, 0, 0) := by decide +kernel
theorem i126_0 : ins 126 0 = some (.aload_n 0, 1, 0, 0) := by decide +kernel
theorem i126_1 : ins 126 1 = some (.iload_n 1, 2, 0, 0) := by decide +kernel
theorem i126_2 : ins 126 2 = some (.invokevirtual 131, 5, 110, 0) := by decide +kernel
theorem i126_5 : ins 126 5 = some (.ifCond .ne (5), 8, 10, 0) := by decide +kernel
theorem i126_8 : ins 126 8 = some (.iconst (-1), 9, 0, -1) := by decide +kernel
theorem i126_9 : ins 126 9 = some (.ireturn, 10, 0, 0) := by decide +kernel
theorem i126_10 : ins 126 10 = some (.iconst (0), 11, 0, 0) := by decide +kernel
theorem i126_11 : ins 126 11 = some (.istore_n 2, 12, 0, 0) := by decide +kernel
theorem i126_12 : ins 126 12 = some (.iload_n 2, 13, 0, 0) := by decide +kernel
theorem i126_13 : ins 126 13 = some (.bipush (12), 15, 0, 12) := by decide +kernel
theorem i126_15 : ins 126 15 = some (.if_icmp .gt (113), 18, 128, 0) := by decide +kernel
theorem i126_18 : ins 126 18 = some (.aload_n 0, 19, 0, 0) := by decide +kernel
theorem i126_19 : ins 126 19 = some (.getfield 78, 22, 11, 11) := by decide +kernel
theorem i126_22 : ins 126 22 = some (.aload_n 0, 23, 0, 0) := by decide +kernel
theorem i126_23 : ins 126 23 = some (.getfield 27, 26, 11, 3) := by decide +kernel
theorem i126_26 : ins 126 26 = some (.aload_n 0, 27, 0, 0) := by decide +kernel
theorem i126_27 : ins 126 27 = some (.getfield 34, 30, 11, 4) := by decide +kernel
theorem i126_30 : ins 126 30 = some (.iload_n 1, 31, 0, 0) := by decide +kernel
theorem i126_31 : ins 126 31 = some (.iload_n 2, 32, 0, 0) := by decide +kernel
theorem i126_32 : ins 126 32 = some (.invokevirtual 230, 35, 50, 0) := by decide +kernel
theorem i126_35 : ins 126 35 = some (.pop, 36, 0, 0) := by decide +kernel
theorem i126_36 : ins 126 36 = some (.aload_n 0, 37, 0, 0) := by decide +kernel
theorem i126_37 : ins 126 37 = some (.getfield 38, 40, 11, 5) := by decide +kernel
theorem i126_40 : ins 126 40 = some (.aload_n 0, 41, 0, 0) := by decide +kernel
theorem i126_41 : ins 126 41 = some (.getfield 34, 44, 11, 4) := by decide +kernel
theorem i126_44 : ins 126 44 = some (.invokevirtual 237, 47, 89, 0) := by decide +kernel
theorem i126_47 : ins 126 47 = some (.iconst (0), 48, 0, 0) := by decide +kernel
theorem i126_48 : ins 126 48 = some (.istore_n 3, 49, 0, 0) := by decide +kernel
theorem i126_49 : ins 126 49 = some (.iload_n 3, 50, 0, 0) := by decide +kernel
theorem i126_50 : ins 126 50 = some (.aload_n 0, 51, 0, 0) := by decide +kernel
theorem i126_51 : ins 126 51 = some (.getfield 27, 54, 11, 3) := by decide +kernel
theorem i126_54 : ins 126 54 = some (.getfield 114, 57, 10, 0) := by decide +kernel
theorem i126_57 : ins 126 57 = some (.if_icmp .ge (37), 60, 94, 0) := by decide +kernel
theorem i126_60 : ins 126 60 = some (.aload_n 0, 61, 0, 0) := by decide +kernel
theorem i126_61 : ins 126 61 = some (.getfield 38, 64, 11, 5) := by decide +kernel
theorem i126_64 : ins 126 64 = some (.iload_n 1, 65, 0, 0) := by decide +kernel
theorem i126_65 : ins 126 65 = some (.iload_n 3, 66, 0, 0) := by decide +kernel
theorem i126_66 : ins 126 66 = some (.aload_n 0, 67, 0, 0) := by decide +kernel
theorem i126_67 : ins 126 67 = some (.getfield 78, 70, 11, 11) := by decide +kernel
theorem i126_70 : ins 126 70 = some (.getfield 234, 73, 5, 0) := by decide +kernel
theorem i126_73 : ins 126 73 = some (.iload_n 3, 74, 0, 0) := by decide +kernel
theorem i126_74 : ins 126 74 = some (.iaload, 75, 0, 0) := by decide +kernel
theorem i126_75 : ins 126 75 = some (.aload_n 0, 76, 0, 0) := by decide +kernel
theorem i126_76 : ins 126 76 = some (.getfield 27, 79, 11, 3) := by decide +kernel
theorem i126_79 : ins 126 79 = some (.getfield 148, 82, 10, 8) := by decide +kernel
theorem i126_82 : ins 126 82 = some (.iload_n 1, 83, 0, 0) := by decide +kernel
theorem i126_83 : ins 126 83 = some (.iaload, 84, 0, 0) := by decide +kernel
theorem i126_84 : ins 126 84 = some (.imul, 85, 0, 0) := by decide +kernel
theorem i126_85 : ins 126 85 = some (.invokevirtual 195, 88, 94, 0) := by decide +kernel
theorem i126_88 : ins 126 88 = some (.iinc 3 (1), 91, 0, 1) := by decide +kernel
theorem i126_91 : ins 126 91 = some (.goto (-42), 94, 49, 0) := by decide +kernel
theorem i126_94 : ins 126 94 = some (.aload_n 0, 95, 0, 0) := by decide +kernel
theorem i126_95 : ins 126 95 = some (.getfield 71, 98, 11, 10) := by decide +kernel
theorem i126_98 : ins 126 98 = some (.aload_n 0, 99, 0, 0) := by decide +kernel
theorem i126_99 : ins 126 99 = some (.getfield 27, 102, 11, 3) := by decide +kernel
theorem i126_102 : ins 126 102 = some (.aload_n 0, 103, 0, 0) := by decide +kernel
theorem i126_103 : ins 126 103 = some (.getfield 38, 106, 11, 5) := by decide +kernel
theorem i126_106 : ins 126 106 = some (.aload_n 0, 107, 0, 0) := by decide +kernel
theorem i126_107 : ins 126 107 = some (.getfield 27, 110, 11, 3) := by decide +kernel
theorem i126_110 : ins 126 110 = some (.getfield 138, 113, 10, 5) := by decide +kernel
theorem i126_113 : ins 126 113 = some (.invokevirtual 183, 116, 31, 0) := by decide +kernel
theorem i126_116 : ins 126 116 = some (.iload_n 1, 117, 0, 0) := by decide +kernel
theorem i126_117 : ins 126 117 = some (.if_icmp .ne (5), 120, 122, 0) := by decide +kernel
theorem i126_120 : ins 126 120 = some (.iload_n 2, 121, 0, 0) := by decide +kernel
theorem i126_121 : ins 126 121 = some (.ireturn, 122, 0, 0) := by decide +kernel
theorem i126_122 : ins 126 122 = some (.iinc 2 (1), 125, 0, 1) := by decide +kernel
theorem i126_125 : ins 126 125 = some (.goto (-113), 128, 12, 0) := by decide +kernel
theorem i126_128 : ins 126 128 = some (.bipush (-2), 130, 0, -2) := by decide +kernel
theorem i126_130 : ins 126 130 = some (.ireturn, 131, 0, 0) := by decide +kernel
theorem i127_0 : ins 127 0 = some (.aload_n 0, 1, 0, 0) := by decide +kernel
theorem i127_1 : ins 127 1 = some (.iload_n 1, 2, 0, 0) := by decide +kernel
theorem i127_2 : ins 127 2 = some (.invokevirtual 173, 5, 111, 0) := by decide +kernel
theorem i127_5 : ins 127 5 = some (.ifCond .ne (5), 8, 10, 0) := by decide +kernel
theorem i127_8 : ins 127 8 = some (.iconst (-1), 9, 0, -1) := by decide +kernel
theorem i127_9 : ins 127 9 = some (.ireturn, 10, 0, 0) := by decide +kernel
theorem i127_10 : ins 127 10 = some (.aload_n 0, 11, 0, 0) := by decide +kernel
theorem i127_11 : ins 127 11 = some (.getfield 71, 14, 11, 10) := by decide +kernel
theorem i127_14 : ins 127 14 = some (.aload_n 0, 15, 0, 0) := by decide +kernel
theorem i127_15 : ins 127 15 = some (.getfield 27, 18, 11, 3) := by decide +kernel
theorem i127_18 : ins 127 18 = some (.aload_n 0, 19, 0, 0) := by decide +kernel
theorem i127_19 : ins 127 19 = some (.getfield 34, 22, 11, 4) := by decide +kernel
theorem i127_22 : ins 127 22 = some (.aload_n 0, 23, 0, 0) := by decide +kernel
theorem i127_23 : ins 127 23 = some (.getfield 27, 26, 11, 3) := by decide +kernel
theorem i127_26 : ins 127 26 = some (.getfield 138, 29, 10, 5) := by decide +kernel
theorem i127_29 : ins 127 29 = some (.invokevirtual 165, 32, 26, 0) := by decide +kernel
theorem i127_32 : ins 127 32 = some (.aload_n 0, 33, 0, 0) := by decide +kernel
theorem i127_33 : ins 127 33 = some (.getfield 71, 36, 11, 10) := by decide +kernel
theorem i127_36 : ins 127 36 = some (.aload_n 0, 37, 0, 0) := by decide +kernel
theorem i127_37 : ins 127 37 = some (.getfield 27, 40, 11, 3) := by decide +kernel
theorem i127_40 : ins 127 40 = some (.iconst (-1), 41, 0, -1) := by decide +kernel
theorem i127_41 : ins 127 41 = some (.iload_n 1, 42, 0, 0) := by decide +kernel
theorem i127_42 : ins 127 42 = some (.invokevirtual 240, 45, 29, 0) := by decide +kernel
theorem i127_45 : ins 127 45 = some (.ireturn, 46, 0, 0) := by decide +kernel
theorem i128_0 : ins 128 0 = some (.aload_n 0, 1, 0, 0) := by decide +kernel
theorem i128_1 : ins 128 1 = some (.iload_n 1, 2, 0, 0) := by decide +kernel
theorem i128_2 : ins 128 2 = some (.invokevirtual 131, 5, 110, 0) := by decide +kernel
theorem i128_5 : ins 128 5 = some (.ifCond .eq (13), 8, 18, 0) := by decide +kernel
theorem i128_8 : ins 128 8 = some (.iload_n 2, 9, 0, 0) := by decide +kernel
theorem i128_9 : ins 128 9 = some (.iconst (1), 10, 0, 1) := by decide +kernel
theorem i128_10 : ins 128 10 = some (.bipush (50), 12, 0, 50) := by decide +kernel
theorem i128_12 : ins 128 12 = some (.invokestatic 187, 15, 112, 0) := by decide +kernel
theorem i128_15 : ins 128 15 = some (.ifCond .ne (5), 18, 20, 0) := by decide +kernel
theorem i128_18 : ins 128 18 = some (.iconst (-1), 19, 0, -1) := by decide +kernel
theorem i128_19 : ins 128 19 = some (.ireturn, 20, 0, 0) := by decide +kernel
theorem i128_20 : ins 128 20 = some (.iconst (0), 21, 0, 0) := by decide +kernel
theorem i128_21 : ins 128 21 = some (.istore_n 3, 22, 0, 0) := by decide +kernel
theorem i128_22 : ins 128 22 = some (.iconst (0), 23, 0, 0) := by decide +kernel
theorem i128_23 : ins 128 23 = some (.istore 4, 25, 0, 0) := by decide +kernel
theorem i128_25 : ins 128 25 = some (.iload 4, 27, 0, 0) := by decide +kernel
theorem i128_27 : ins 128 27 = some (.iload_n 2, 28, 0, 0) := by decide +kernel
theorem i128_28 : ins 128 28 = some (.if_icmp .ge (33), 31, 61, 0) := by decide +kernel
theorem i128_31 : ins 128 31 = some (.aload_n 0, 32, 0, 0) := by decide +kernel
theorem i128_32 : ins 128 32 = some (.getfield 71, 35, 11, 10) := by decide +kernel
theorem i128_35 : ins 128 35 = some (.aload_n 0, 36, 0, 0) := by decide +kernel
theorem i128_36 : ins 128 36 = some (.getfield 27, 39, 11, 3) := by decide +kernel
theorem i128_39 : ins 128 39 = some (.aload_n 0, 40, 0, 0) := by decide +kernel
theorem i128_40 : ins 128 40 = some (.getfield 34, 43, 11, 4) := by decide +kernel
theorem i128_43 : ins 128 43 = some (.iload 4, 45, 0, 0) := by decide +kernel
theorem i128_45 : ins 128 45 = some (.invokevirtual 183, 48, 31, 0) := by decide +kernel
theorem i128_48 : ins 128 48 = some (.iload_n 1, 49, 0, 0) := by decide +kernel
theorem i128_49 : ins 128 49 = some (.if_icmp .ne (6), 52, 55, 0) := by decide +kernel
theorem i128_52 : ins 128 52 = some (.iinc 3 (1), 55, 0, 1) := by decide +kernel
theorem i128_55 : ins 128 55 = some (.iinc 4 (1), 58, 0, 1) := by decide +kernel
theorem i128_58 : ins 128 58 = some (.goto (-33), 61, 25, 0) := by decide +kernel
theorem i128_61 : ins 128 61 = some (.iload_n 3, 62, 0, 0) := by decide +kernel
theorem i128_62 : ins 128 62 = some (.ireturn, 63, 0, 0) := by decide +kernel
theorem i129_0 : ins 129 0 = some (.aload_n 0, 1, 0, 0) := by decide +kernel
theorem i129_1 : ins 129 1 = some (.iload_n 1, 2, 0, 0) := by decide +kernel
theorem i129_2 : ins 129 2 = some (.invokevirtual 131, 5, 110, 0) := by decide +kernel
theorem i129_5 : ins 129 5 = some (.ifCond .ne (5), 8, 10, 0) := by decide +kernel
theorem i129_8 : ins 129 8 = some (.iconst (-1), 9, 0, -1) := by decide +kernel
theorem i129_9 : ins 129 9 = some (.ireturn, 10, 0, 0) := by decide +kernel
theorem i129_10 : ins 129 10 = some (.aload_n 0, 11, 0, 0) := by decide +kernel
theorem i129_11 : ins 129 11 = some (.getfield 71, 14, 11, 10) := by decide +kernel
theorem i129_14 : ins 129 14 = some (.aload_n 0, 15, 0, 0) := by decide +kernel
theorem i129_15 : ins 129 15 = some (.getfield 27, 18, 11, 3) := by decide +kernel
theorem i129_18 : ins 129 18 = some (.aload_n 0, 19, 0, 0) := by decide +kernel
theorem i129_19 : ins 129 19 = some (.getfield 34, 22, 11, 4) := by decide +kernel
theorem i129_22 : ins 129 22 = some (.aload_n 0, 23, 0, 0) := by decide +kernel
theorem i129_23 : ins 129 23 = some (.getfield 27, 26, 11, 3) := by decide +kernel
theorem i129_26 : ins 129 26 = some (.getfield 138, 29, 10, 5) := by decide +kernel
theorem i129_29 : ins 129 29 = some (.invokevirtual 165, 32, 26, 0) := by decide +kernel
theorem i129_32 : ins 129 32 = some (.aload_n 0, 33, 0, 0) := by decide +kernel
theorem i129_33 : ins 129 33 = some (.getfield 71, 36, 11, 10) := by decide +kernel
theorem i129_36 : ins 129 36 = some (.aload_n 0, 37, 0, 0) := by decide +kernel
theorem i129_37 : ins 129 37 = some (.getfield 27, 40, 11, 3) := by decide +kernel
theorem i129_40 : ins 129 40 = some (.iload_n 1, 41, 0, 0) := by decide +kernel
theorem i129_41 : ins 129 41 = some (.iconst (-1), 42, 0, -1) := by decide +kernel
theorem i129_42 : ins 129 42 = some (.invokevirtual 240, 45, 29, 0) := by decide +kernel
theorem i129_45 : ins 129 45 = some (.ireturn, 46, 0, 0) := by decide +kernel
theorem i130_0 : ins 130 0 = some (.aload_n 0, 1, 0, 0) := by decide +kernel
theorem i130_1 : ins 130 1 = some (.iload_n 1, 2, 0, 0) := by decide +kernel
theorem i130_2 : ins 130 2 = some (.invokevirtual 173, 5, 111, 0) := by decide +kernel
theorem i130_5 : ins 130 5 = some (.ifCond .eq (13), 8, 18, 0) := by decide +kernel
theorem i130_8 : ins 130 8 = some (.iload_n 2, 9, 0, 0) := by decide +kernel
theorem i130_9 : ins 130 9 = some (.iconst (1), 10, 0, 1) := by decide +kernel
theorem i130_10 : ins 130 10 = some (.bipush (100), 12, 0, 100) := by decide +kernel
theorem i130_12 : ins 130 12 = some (.invokestatic 187, 15, 112, 0) := by decide +kernel
theorem i130_15 : ins 130 15 = some (.ifCond .ne (5), 18, 20, 0) := by decide +kernel
theorem i130_18 : ins 130 18 = some (.iconst (-1), 19, 0, -1) := by decide +kernel
theorem i130_19 : ins 130 19 = some (.ireturn, 20, 0, 0) := by decide +kernel
theorem i130_20 : ins 130 20 = some (.aload_n 0, 21, 0, 0) := by decide +kernel
theorem i130_21 : ins 130 21 = some (.getfield 38, 24, 11, 5) := by decide +kernel
theorem i130_24 : ins 130 24 = some (.aload_n 0, 25, 0, 0) := by decide +kernel
theorem i130_25 : ins 130 25 = some (.getfield 34, 28, 11, 4) := by decide +kernel
theorem i130_28 : ins 130 28 = some (.invokevirtual 237, 31, 89, 0) := by decide +kernel
theorem i130_31 : ins 130 31 = some (.iconst (0), 32, 0, 0) := by decide +kernel
theorem i130_32 : ins 130 32 = some (.istore_n 3, 33, 0, 0) := by decide +kernel
theorem i130_33 : ins 130 33 = some (.iconst (0), 34, 0, 0) := by decide +kernel
theorem i130_34 : ins 130 34 = some (.istore 4, 36, 0, 0) := by decide +kernel
theorem i130_36 : ins 130 36 = some (.iload 4, 38, 0, 0) := by decide +kernel
theorem i130_38 : ins 130 38 = some (.iload_n 2, 39, 0, 0) := by decide +kernel
theorem i130_39 : ins 130 39 = some (.if_icmp .ge (45), 42, 84, 0) := by decide +kernel
theorem i130_42 : ins 130 42 = some (.aload_n 0, 43, 0, 0) := by decide +kernel
theorem i130_43 : ins 130 43 = some (.getfield 71, 46, 11, 10) := by decide +kernel
theorem i130_46 : ins 130 46 = some (.aload_n 0, 47, 0, 0) := by decide +kernel
theorem i130_47 : ins 130 47 = some (.getfield 27, 50, 11, 3) := by decide +kernel
theorem i130_50 : ins 130 50 = some (.aload_n 0, 51, 0, 0) := by decide +kernel
theorem i130_51 : ins 130 51 = some (.getfield 38, 54, 11, 5) := by decide +kernel
theorem i130_54 : ins 130 54 = some (.iconst (-1), 55, 0, -1) := by decide +kernel
theorem i130_55 : ins 130 55 = some (.iconst (-1), 56, 0, -1) := by decide +kernel
theorem i130_56 : ins 130 56 = some (.invokevirtual 243, 59, 35, 0) := by decide +kernel
theorem i130_59 : ins 130 59 = some (.istore 5, 61, 0, 0) := by decide +kernel
theorem i130_61 : ins 130 61 = some (.aload_n 0, 62, 0, 0) := by decide +kernel
theorem i130_62 : ins 130 62 = some (.getfield 71, 65, 11, 10) := by decide +kernel
theorem i130_65 : ins 130 65 = some (.getfield 246, 68, 1, 1) := by decide +kernel
theorem i130_68 : ins 130 68 = some (.iload_n 1, 69, 0, 0) := by decide +kernel
theorem i130_69 : ins 130 69 = some (.iaload, 70, 0, 0) := by decide +kernel
theorem i130_70 : ins 130 70 = some (.iload 5, 72, 0, 0) := by decide +kernel
theorem i130_72 : ins 130 72 = some (.if_icmp .eq (6), 75, 78, 0) := by decide +kernel
theorem i130_75 : ins 130 75 = some (.iinc 3 (1), 78, 0, 1) := by decide +kernel
theorem i130_78 : ins 130 78 = some (.iinc 4 (1), 81, 0, 1) := by decide +kernel
theorem i130_81 : ins 130 81 = some (.goto (-45), 84, 36, 0) := by decide +kernel
theorem i130_84 : ins 130 84 = some (.iload_n 3, 85, 0, 0) := by decide +kernel
theorem i130_85 : ins 130 85 = some (.ireturn, 86, 0, 0) := by decide +kernel
theorem i131_0 : ins 131 0 = some (.aload_n 0, 1, 0, 0) := by decide +kernel
theorem i131_1 : ins 131 1 = some (.iload_n 1, 2, 0, 0) := by decide +kernel
theorem i131_2 : ins 131 2 = some (.invokevirtual 131, 5, 110, 0) := by decide +kernel
theorem i131_5 : ins 131 5 = some (.ifCond .eq (22), 8, 27, 0) := by decide +kernel
theorem i131_8 : ins 131 8 = some (.iload_n 2, 9, 0, 0) := by decide +kernel
theorem i131_9 : ins 131 9 = some (.iconst (1), 10, 0, 1) := by decide +kernel
theorem i131_10 : ins 131 10 = some (.bipush (50), 12, 0, 50) := by decide +kernel
theorem i131_12 : ins 131 12 = some (.invokestatic 187, 15, 112, 0) := by decide +kernel
theorem i131_15 : ins 131 15 = some (.ifCond .eq (12), 18, 27, 0) := by decide +kernel
theorem i131_18 : ins 131 18 = some (.iload_n 3, 19, 0, 0) := by decide +kernel
theorem i131_19 : ins 131 19 = some (.iconst (0), 20, 0, 0) := by decide +kernel
theorem i131_20 : ins 131 20 = some (.iconst (1), 21, 0, 1) := by decide +kernel
theorem i131_21 : ins 131 21 = some (.invokestatic 187, 24, 112, 0) := by decide +kernel
theorem i131_24 : ins 131 24 = some (.ifCond .ne (5), 27, 29, 0) := by decide +kernel
theorem i131_27 : ins 131 27 = some (.iconst (-1), 28, 0, -1) := by decide +kernel
theorem i131_28 : ins 131 28 = some (.ireturn, 29, 0, 0) := by decide +kernel
theorem i131_29 : ins 131 29 = some (.bipush (-2), 31, 0, -2) := by decide +kernel
theorem i131_31 : ins 131 31 = some (.istore 4, 33, 0, 0) := by decide +kernel
theorem i131_33 : ins 131 33 = some (.bipush (-2), 35, 0, -2) := by decide +kernel
theorem i131_35 : ins 131 35 = some (.istore 5, 37, 0, 0) := by decide +kernel
theorem i131_37 : ins 131 37 = some (.iconst (0), 38, 0, 0) := by decide +kernel
theorem i131_38 : ins 131 38 = some (.istore 6, 40, 0, 0) := by decide +kernel
theorem i131_40 : ins 131 40 = some (.iload 6, 42, 0, 0) := by decide +kernel
theorem i131_42 : ins 131 42 = some (.aload_n 0, 43, 0, 0) := by decide +kernel
theorem i131_43 : ins 131 43 = some (.getfield 27, 46, 11, 3) := by decide +kernel
theorem i131_46 : ins 131 46 = some (.getfield 114, 49, 10, 0) := by decide +kernel
theorem i131_49 : ins 131 49 = some (.if_icmp .ge (78), 52, 127, 0) := by decide +kernel
theorem i131_52 : ins 131 52 = some (.aload_n 0, 53, 0, 0) := by decide +kernel
theorem i131_53 : ins 131 53 = some (.getfield 38, 56, 11, 5) := by decide +kernel
theorem i131_56 : ins 131 56 = some (.aload_n 0, 57, 0, 0) := by decide +kernel
theorem i131_57 : ins 131 57 = some (.getfield 34, 60, 11, 4) := by decide +kernel
theorem i131_60 : ins 131 60 = some (.invokevirtual 237, 63, 89, 0) := by decide +kernel
theorem i131_63 : ins 131 63 = some (.iconst (0), 64, 0, 0) := by decide +kernel
theorem i131_64 : ins 131 64 = some (.istore 7, 66, 0, 0) := by decide +kernel
theorem i131_66 : ins 131 66 = some (.iconst (0), 67, 0, 0) := by decide +kernel
theorem i131_67 : ins 131 67 = some (.istore 8, 69, 0, 0) := by decide +kernel
theorem i131_69 : ins 131 69 = some (.iload 8, 71, 0, 0) := by decide +kernel
theorem i131_71 : ins 131 71 = some (.iload_n 2, 72, 0, 0) := by decide +kernel
theorem i131_72 : ins 131 72 = some (.if_icmp .ge (34), 75, 106, 0) := by decide +kernel
theorem i131_75 : ins 131 75 = some (.aload_n 0, 76, 0, 0) := by decide +kernel
theorem i131_76 : ins 131 76 = some (.getfield 71, 79, 11, 10) := by decide +kernel
theorem i131_79 : ins 131 79 = some (.aload_n 0, 80, 0, 0) := by decide +kernel
theorem i131_80 : ins 131 80 = some (.getfield 27, 83, 11, 3) := by decide +kernel
theorem i131_83 : ins 131 83 = some (.aload_n 0, 84, 0, 0) := by decide +kernel
theorem i131_84 : ins 131 84 = some (.getfield 38, 87, 11, 5) := by decide +kernel
theorem i131_87 : ins 131 87 = some (.iload_n 1, 88, 0, 0) := by decide +kernel
theorem i131_88 : ins 131 88 = some (.iload 6, 90, 0, 0) := by decide +kernel
theorem i131_90 : ins 131 90 = some (.invokevirtual 243, 93, 35, 0) := by decide +kernel
theorem i131_93 : ins 131 93 = some (.iload_n 1, 94, 0, 0) := by decide +kernel
theorem i131_94 : ins 131 94 = some (.if_icmp .ne (6), 97, 100, 0) := by decide +kernel
theorem i131_97 : ins 131 97 = some (.iinc 7 (1), 100, 0, 1) := by decide +kernel
theorem i131_100 : ins 131 100 = some (.iinc 8 (1), 103, 0, 1) := by decide +kernel
theorem i131_103 : ins 131 103 = some (.goto (-34), 106, 69, 0) := by decide +kernel
theorem i131_106 : ins 131 106 = some (.iload 7, 108, 0, 0) := by decide +kernel
theorem i131_108 : ins 131 108 = some (.iload 5, 110, 0, 0) := by decide +kernel
theorem i131_110 : ins 131 110 = some (.if_icmp .le (11), 113, 121, 0) := by decide +kernel
theorem i131_113 : ins 131 113 = some (.iload 6, 115, 0, 0) := by decide +kernel
theorem i131_115 : ins 131 115 = some (.istore 4, 117, 0, 0) := by decide +kernel
theorem i131_117 : ins 131 117 = some (.iload 7, 119, 0, 0) := by decide +kernel
theorem i131_119 : ins 131 119 = some (.istore 5, 121, 0, 0) := by decide +kernel
theorem i131_121 : ins 131 121 = some (.iinc 6 (1), 124, 0, 1) := by decide +kernel
theorem i131_124 : ins 131 124 = some (.goto (-84), 127, 40, 0) := by decide +kernel
theorem i131_127 : ins 131 127 = some (.iload_n 3, 128, 0, 0) := by decide +kernel
theorem i131_128 : ins 131 128 = some (.ifCond .ne (8), 131, 136, 0) := by decide +kernel
theorem i131_131 : ins 131 131 = some (.iload 4, 133, 0, 0) := by decide +kernel
theorem i131_133 : ins 131 133 = some (.goto (5), 136, 138, 0) := by decide +kernel
theorem i131_136 : ins 131 136 = some (.iload 5, 138, 0, 0) := by decide +kernel
theorem i131_138 : ins 131 138 = some (.ireturn, 139, 0, 0) := by decide +kernel
theorem i132_0 : ins 132 0 = some (.aload_n 0, 1, 0, 0) := by decide +kernel
theorem i132_1 : ins 132 1 = some (.getfield 38, 4, 11, 5) := by decide +kernel
theorem i132_4 : ins 132 4 = some (.aload_n 0, 5, 0, 0) := by decide +kernel
theorem i132_5 : ins 132 5 = some (.getfield 34, 8, 11, 4) := by decide +kernel
theorem i132_8 : ins 132 8 = some (.invokevirtual 237, 11, 89, 0) := by decide +kernel
theorem i132_11 : ins 132 11 = some (.iconst (1), 12, 0, 1) := by decide +kernel
theorem i132_12 : ins 132 12 = some (.istore_n 1, 13, 0, 0) := by decide +kernel
theorem i132_13 : ins 132 13 = some (.iload_n 1, 14, 0, 0) := by decide +kernel
theorem i132_14 : ins 132 14 = some (.sipush (200), 17, 0, 200) := by decide +kernel
theorem i132_17 : ins 132 17 = some (.if_icmp .gt (33), 20, 50, 0) := by decide +kernel
theorem i132_20 : ins 132 20 = some (.aload_n 0, 21, 0, 0) := by decide +kernel
theorem i132_21 : ins 132 21 = some (.getfield 71, 24, 11, 10) := by decide +kernel
theorem i132_24 : ins 132 24 = some (.aload_n 0, 25, 0, 0) := by decide +kernel
theorem i132_25 : ins 132 25 = some (.getfield 27, 28, 11, 3) := by decide +kernel
theorem i132_28 : ins 132 28 = some (.aload_n 0, 29, 0, 0) := by decide +kernel
theorem i132_29 : ins 132 29 = some (.getfield 38, 32, 11, 5) := by decide +kernel
theorem i132_32 : ins 132 32 = some (.iconst (-1), 33, 0, -1) := by decide +kernel
theorem i132_33 : ins 132 33 = some (.iconst (-1), 34, 0, -1) := by decide +kernel
theorem i132_34 : ins 132 34 = some (.invokevirtual 243, 37, 35, 0) := by decide +kernel
theorem i132_37 : ins 132 37 = some (.bipush (-2), 39, 0, -2) := by decide +kernel
theorem i132_39 : ins 132 39 = some (.if_icmp .ne (5), 42, 44, 0) := by decide +kernel
theorem i132_42 : ins 132 42 = some (.iload_n 1, 43, 0, 0) := by decide +kernel
theorem i132_43 : ins 132 43 = some (.ireturn, 44, 0, 0) := by decide +kernel
theorem i132_44 : ins 132 44 = some (.iinc 1 (1), 47, 0, 1) := by decide +kernel
theorem i132_47 : ins 132 47 = some (.goto (-34), 50, 13, 0) := by decide +kernel
theorem i132_50 : ins 132 50 = some (.bipush (-2), 52, 0, -2) := by decide +kernel
theorem i132_52 : ins 132 52 = some (.ireturn, 53, 0, 0) := by decide +kernel
theorem i133_0 : ins 133 0 = some (.iload_n 1, 1, 0, 0) := by decide +kernel
theorem i133_1 : ins 133 1 = some (.iconst (0), 2, 0, 0) := by decide +kernel
theorem i133_2 : ins 133 2 = some (.iconst (2), 3, 0, 2) := by decide +kernel
theorem i133_3 : ins 133 3 = some (.invokestatic 187, 6, 112, 0) := by decide +kernel
theorem i133_6 : ins 133 6 = some (.ifCond .ne (5), 9, 11, 0) := by decide +kernel
theorem i133_9 : ins 133 9 = some (.iconst (-1), 10, 0, -1) := by decide +kernel
theorem i133_10 : ins 133 10 = some (.ireturn, 11, 0, 0) := by decide +kernel
theorem i133_11 : ins 133 11 = some (.aload_n 0, 12, 0, 0) := by decide +kernel
theorem i133_12 : ins 133 12 = some (.getfield 44, 15, 11, 6) := by decide +kernel
theorem i133_15 : ins 133 15 = some (.aload_n 0, 16, 0, 0) := by decide +kernel
theorem i133_16 : ins 133 16 = some (.getfield 34, 19, 11, 4) := by decide +kernel
theorem i133_19 : ins 133 19 = some (.invokevirtual 220, 22, 90, 0) := by decide +kernel
theorem i133_22 : ins 133 22 = some (.invokevirtual 249, 25, 21, 0) := by decide +kernel
theorem i133_25 : ins 133 25 = some (.istore_n 2, 26, 0, 0) := by decide +kernel
theorem i133_26 : ins 133 26 = some (.iload_n 2, 27, 0, 0) := by decide +kernel
theorem i133_27 : ins 133 27 = some (.ifCond .ge (6), 30, 33, 0) := by decide +kernel
theorem i133_30 : ins 133 30 = some (.bipush (-2), 32, 0, -2) := by decide +kernel
theorem i133_32 : ins 133 32 = some (.ireturn, 33, 0, 0) := by decide +kernel
theorem i133_33 : ins 133 33 = some (.iload_n 1, 34, 0, 0) := by decide +kernel
theorem i133_34 : ins 133 34 = some (.lookupswitch (44) #[(0, 26), (1, 42)], 60, 0, 0) := by decide +kernel
theorem i133_60 : ins 133 60 = some (.aload_n 0, 61, 0, 0) := by decide +kernel
theorem i133_61 : ins 133 61 = some (.getfield 44, 64, 11, 6) := by decide +kernel
theorem i133_64 : ins 133 64 = some (.iload_n 2, 65, 0, 0) := by decide +kernel
theorem i133_65 : ins 133 65 = some (.aload_n 0, 66, 0, 0) := by decide +kernel
theorem i133_66 : ins 133 66 = some (.getfield 34, 69, 11, 4) := by decide +kernel
theorem i133_69 : ins 133 69 = some (.invokevirtual 220, 72, 90, 0) := by decide +kernel
theorem i133_72 : ins 133 72 = some (.invokevirtual 252, 75, 20, 0) := by decide +kernel
theorem i133_75 : ins 133 75 = some (.ireturn, 76, 0, 0) := by decide +kernel
theorem i133_76 : ins 133 76 = some (.iload_n 2, 77, 0, 0) := by decide +kernel
theorem i133_77 : ins 133 77 = some (.ireturn, 78, 0, 0) := by decide +kernel
theorem i133_78 : ins 133 78 = some (.aload_n 0, 79, 0, 0) := by decide +kernel
theorem i133_79 : ins 133 79 = some (.getfield 44, 82, 11, 6) := by decide +kernel
theorem i133_82 : ins 133 82 = some (.iload_n 2, 83, 0, 0) := by decide +kernel
theorem i133_83 : ins 133 83 = some (.invokevirtual 224, 86, 19, 0) := by decide +kernel
theorem i133_86 : ins 133 86 = some (.ireturn, 87, 0, 0) := by decide +kernel
theorem i135_0 : ins 135 0 = some (.iconst (0), 1, 0, 0) := by decide +kernel
theorem i135_1 : ins 135 1 = some (.istore_n 3, 2, 0, 0) := by decide +kernel
theorem i135_2 : ins 135 2 = some (.iconst (0), 3, 0, 0) := by decide +kernel
theorem i135_3 : ins 135 3 = some (.istore 4, 5, 0, 0) := by decide +kernel
theorem i135_5 : ins 135 5 = some (.iload 4, 7, 0, 0) := by decide +kernel
theorem i135_7 : ins 135 7 = some (.aload_n 0, 8, 0, 0) := by decide +kernel
theorem i135_8 : ins 135 8 = some (.getfield 27, 11, 11, 3) := by decide +kernel
theorem i135_11 : ins 135 11 = some (.getfield 114, 14, 10, 0) := by decide +kernel
theorem i135_14 : ins 135 14 = some (.if_icmp .ge (33), 17, 47, 0) := by decide +kernel
theorem i135_17 : ins 135 17 = some (.iload_n 3, 18, 0, 0) := by decide +kernel
theorem i135_18 : ins 135 18 = some (.aload_n 0, 19, 0, 0) := by decide +kernel
theorem i135_19 : ins 135 19 = some (.iload_n 2, 20, 0, 0) := by decide +kernel
theorem i135_20 : ins 135 20 = some (.iload 4, 22, 0, 0) := by decide +kernel
theorem i135_22 : ins 135 22 = some (.invokevirtual 261, 25, 136, 0) := by decide +kernel
theorem i135_25 : ins 135 25 = some (.aload_n 0, 26, 0, 0) := by decide +kernel
theorem i135_26 : ins 135 26 = some (.getfield 34, 29, 11, 4) := by decide +kernel
theorem i135_29 : ins 135 29 = some (.iload_n 1, 30, 0, 0) := by decide +kernel
theorem i135_30 : ins 135 30 = some (.iload 4, 32, 0, 0) := by decide +kernel
theorem i135_32 : ins 135 32 = some (.invokevirtual 134, 35, 91, 0) := by decide +kernel
theorem i135_35 : ins 135 35 = some (.isub, 36, 0, 0) := by decide +kernel
theorem i135_36 : ins 135 36 = some (.invokestatic 264, 39, 0, 0) := by decide +kernel
theorem i135_39 : ins 135 39 = some (.iadd, 40, 0, 0) := by decide +kernel
theorem i135_40 : ins 135 40 = some (.istore_n 3, 41, 0, 0) := by decide +kernel
theorem i135_41 : ins 135 41 = some (.iinc 4 (1), 44, 0, 1) := by decide +kernel
theorem i135_44 : ins 135 44 = some (.goto (-39), 47, 5, 0) := by decide +kernel
theorem i135_47 : ins 135 47 = some (.iload_n 3, 48, 0, 0) := by decide +kernel
theorem i135_48 : ins 135 48 = some (.ireturn, 49, 0, 0) := by decide +kernel
theorem i136_0 : ins 136 0 = some (.iload_n 1, 1, 0, 0) := by decide +kernel
theorem i136_1 : ins 136 1 = some (.aload_n 0, 2, 0, 0) := by decide +kernel
theorem i136_2 : ins 136 2 = some (.getfield 34, 5, 11, 4) := by decide +kernel
theorem i136_5 : ins 136 5 = some (.invokevirtual 220, 8, 90, 0) := by decide +kernel
theorem i136_8 : ins 136 8 = some (.if_icmp .ge (15), 11, 23, 0) := by decide +kernel
theorem i136_11 : ins 136 11 = some (.aload_n 0, 12, 0, 0) := by decide +kernel
theorem i136_12 : ins 136 12 = some (.getfield 44, 15, 11, 6) := by decide +kernel
theorem i136_15 : ins 136 15 = some (.iload_n 1, 16, 0, 0) := by decide +kernel
theorem i136_16 : ins 136 16 = some (.iload_n 2, 17, 0, 0) := by decide +kernel
theorem i136_17 : ins 136 17 = some (.invokevirtual 227, 20, 18, 0) := by decide +kernel
theorem i136_20 : ins 136 20 = some (.goto (12), 23, 32, 0) := by decide +kernel
theorem i136_23 : ins 136 23 = some (.aload_n 0, 24, 0, 0) := by decide +kernel
theorem i136_24 : ins 136 24 = some (.getfield 34, 27, 11, 4) := by decide +kernel
theorem i136_27 : ins 136 27 = some (.getfield 127, 30, 9, 3) := by decide +kernel
theorem i136_30 : ins 136 30 = some (.iload_n 2, 31, 0, 0) := by decide +kernel
theorem i136_31 : ins 136 31 = some (.iaload, 32, 0, 0) := by decide +kernel
theorem i136_32 : ins 136 32 = some (.ireturn, 33, 0, 0) := by decide +kernel
def Rd_takeMaster_57 (w : Wd) : Option (Int × Wd) :=
  some (0, w)
theorem s_Rd_takeMaster_57 {g : Gp} {l : Launch} {D : Nat} (hD : 102 ≤ D) (w : Wd) (r : Int × Wd) (h : Rd_takeMaster_57 w = some r) : Rn g l D 63 57 [] [] w (some (.inl r.1)) r.2 := by
  unfold Rd_takeMaster_57 at h
  refine rn_iconst i63_57 ?_
  obtain rfl := Option.some.inj h
  exact rn_retZ i63_58 mr63 (by decide)
def Rd_takeMaster_0 (a0 : Nat) (w : Wd) : Option (Int × Wd) :=
  (fgR w a0 6 1).bind fun v1 =>
  (fgI w v1 10 2).bind fun v4 =>
  if (v4 : Int) < 3 then
    (fgR w a0 6 1).bind fun v20 =>
    (fgI w v20 10 2).bind fun v24 =>
    (fpI w v20 10 2 (w32 (v24 + 1))).bind fun w29 =>
    (Rd_pass a0 w29).bind fun r33 =>
    if (r33.1 : Int) = 0 then
      Rd_takeMaster_57 r33.2
    else
      (Rd_takeNewName a0 (w32 (12 + v4)) r33.2).bind fun r44 =>
      if (r44.1 : Int) = 0 then
        Rd_takeMaster_57 r44.2
      else
        (Rd_takeLaw a0 r44.2).bind fun r51 =>
        if (r51.1 : Int) = 0 then
          Rd_takeMaster_57 r51.2
        else
          (fgR r51.2 a0 6 1).bind fun v60 =>
          (fgR r51.2 v60 10 11).bind fun v63 =>
          (fgI r51.2 a0 6 9).bind fun v68 =>
          (wrI r51.2 v63 v4 v68).bind fun w71 =>
          some (1, w71)
  else
    (Rd_refuse a0 2 w).bind fun r15 =>
    rZ r15.1 r15.2
theorem s_Rd_takeMaster_0 {g : Gp} {l : Launch} {D : Nat} (hD : 102 ≤ D) (a0 : Nat) (w : Wd) (r : Int × Wd) (h : Rd_takeMaster_0 a0 w = some r) : Rn g l D 63 0 [(0, .inr (.inr a0))] [] w (some (.inl r.1)) r.2 := by
  obtain ⟨D, rfl⟩ : ∃ D1, D = D1 + 1 := ⟨D - 1, by omega⟩
  unfold Rd_takeMaster_0 at h
  refine fr_aload_n i63_0 rfl ?_
  obtain ⟨v1, h1, h⟩ := Option.bind_eq_some_iff.mp h
  refine fr_gR (k := 1) i63_1 tf6_1 h1 ?_
  obtain ⟨v4, h4, h⟩ := Option.bind_eq_some_iff.mp h
  refine fr_gI (k := 2) i63_4 tf10_2 h4 ?_
  refine rn_istore_n (ls1 := [(1, .inl v4), (0, .inr (.inr a0))]) i63_7 rfl ?_
  refine rn_iload_n i63_8 rfl ?_
  refine rn_iconst i63_9 ?_
  by_cases c10 : (v4 : Int) < 3
  · rw [if_pos c10] at h
    refine rn_icmp_lt_t i63_10 c10 ?_
    refine fr_aload_n i63_19 rfl ?_
    obtain ⟨v20, h20, h⟩ := Option.bind_eq_some_iff.mp h
    refine fr_gR (k := 1) i63_20 tf6_1 h20 ?_
    refine rn_dup i63_23 rfl ?_
    obtain ⟨v24, h24, h⟩ := Option.bind_eq_some_iff.mp h
    refine fr_gI (k := 2) i63_24 tf10_2 h24 ?_
    refine rn_iconst i63_27 ?_
    refine rn_iadd i63_28 ?_
    obtain ⟨w29, h29, h⟩ := Option.bind_eq_some_iff.mp h
    refine fr_pI (k := 2) i63_29 (pf10_2 63) h29 ?_
    refine fr_aload_n i63_32 rfl ?_
    obtain ⟨r33, h33, h⟩ := Option.bind_eq_some_iff.mp h
    obtain ⟨g33, c33⟩ := S_Rd_pass a0 w29 r33 h33
    refine fr_callV (a := a0) (As := []) (st := []) i63_33 (cq59 a0) rfl (Nat.le_of_ble_eq_true rfl) g33 (c33 _ (by omega)) ?_
    show Rn _ _ _ _ _ _ [.inl r33.1] _ _ _
    by_cases c36 : (r33.1 : Int) = 0
    · rw [if_pos c36] at h
      refine rn_if_eq_t i63_36 c36 ?_
      exact rn_sub [] rfl (s_Rd_takeMaster_57 hD r33.2 r h)
    · rw [if_neg c36] at h
      refine rn_if_eq_f i63_36 c36 ?_
      refine fr_aload_n i63_39 rfl ?_
      refine rn_bipush i63_40 ?_
      refine rn_iload_n i63_42 rfl ?_
      refine rn_iadd i63_43 ?_
      obtain ⟨r44, h44, h⟩ := Option.bind_eq_some_iff.mp h
      obtain ⟨g44, c44⟩ := S_Rd_takeNewName a0 (w32 (12 + v4)) r33.2 r44 h44
      refine fr_callV (a := a0) (As := [.inl (w32 (12 + v4))]) (st := []) i63_44 (cq70 a0 (w32 (12 + v4))) rfl (Nat.le_of_ble_eq_true rfl) g44 (c44 _ (by omega)) ?_
      show Rn _ _ _ _ _ _ [.inl r44.1] _ _ _
      by_cases c47 : (r44.1 : Int) = 0
      · rw [if_pos c47] at h
        refine rn_if_eq_t i63_47 c47 ?_
        exact rn_sub [] rfl (s_Rd_takeMaster_57 hD r44.2 r h)
      · rw [if_neg c47] at h
        refine rn_if_eq_f i63_47 c47 ?_
        refine fr_aload_n i63_50 rfl ?_
        obtain ⟨r51, h51, h⟩ := Option.bind_eq_some_iff.mp h
        obtain ⟨g51, c51⟩ := S_Rd_takeLaw a0 r44.2 r51 h51
        refine fr_callV (a := a0) (As := []) (st := []) i63_51 (cq72 a0) rfl (Nat.le_of_ble_eq_true rfl) g51 (c51 _ (by omega)) ?_
        show Rn _ _ _ _ _ _ [.inl r51.1] _ _ _
        by_cases c54 : (r51.1 : Int) = 0
        · rw [if_pos c54] at h
          refine rn_if_ne_f i63_54 c54 ?_
          exact rn_sub [] rfl (s_Rd_takeMaster_57 hD r51.2 r h)
        · rw [if_neg c54] at h
          refine rn_if_ne_t i63_54 c54 ?_
          refine fr_aload_n i63_59 rfl ?_
          obtain ⟨v60, h60, h⟩ := Option.bind_eq_some_iff.mp h
          refine fr_gR (k := 1) i63_60 tf6_1 h60 ?_
          obtain ⟨v63, h63, h⟩ := Option.bind_eq_some_iff.mp h
          refine fr_gR (k := 11) i63_63 tf10_11 h63 ?_
          refine rn_iload_n i63_66 rfl ?_
          refine fr_aload_n i63_67 rfl ?_
          obtain ⟨v68, h68, h⟩ := Option.bind_eq_some_iff.mp h
          refine fr_gI (k := 9) i63_68 tf6_9 h68 ?_
          obtain ⟨w71, h71, h⟩ := Option.bind_eq_some_iff.mp h
          refine rn_iast i63_71 h71 ?_
          refine rn_iconst i63_72 ?_
          obtain rfl := Option.some.inj h
          exact rn_retZ i63_73 mr63 (by decide)
  · rw [if_neg c10] at h
    refine rn_icmp_lt_f i63_10 c10 ?_
    refine fr_aload_n i63_13 rfl ?_
    refine rn_iconst i63_14 ?_
    obtain ⟨r15, h15, h⟩ := Option.bind_eq_some_iff.mp h
    obtain ⟨g15, c15⟩ := S_Rd_refuse a0 2 w r15 h15
    refine fr_callV (a := a0) (As := [.inl 2]) (st := []) i63_15 (cq57 a0 2) rfl (Nat.le_of_ble_eq_true rfl) g15 (c15 _ (by omega)) ?_
    show Rn _ _ _ _ _ _ [.inl r15.1] _ _ _
    exact fr_retZ i63_18 mr63 h
/-- HandHeirs$Reader.takeMaster()Z -/
def Rd_takeMaster (a0 : Nat) (w : Wd) : Option (Int × Wd) := gd 6 w a0 (Rd_takeMaster_0 a0 w)
theorem S_Rd_takeMaster {g : Gp} {l : Launch} (a0 : Nat) (w : Wd) (r : Int × Wd) (h : Rd_takeMaster a0 w = some r) : (wsh w a0).1 = 6 ∧ ∀ D, 102 ≤ D → Rn g l D 63 0 [(0, .inr (.inr a0))] [] w (some (.inl r.1)) r.2 := by
  obtain ⟨hg, h⟩ := gd_some h
  exact ⟨hg, fun D hD => rn_sub [0] rfl (s_Rd_takeMaster_0 hD a0 w r h)⟩
def Rd_heirNamed_2 : Nat → Nat → Int → Int → Wd → Option (Int × Wd)
  | 0, _, _, _, _ => none
  | n + 1, a0, x1, x3, w =>
    (fgR w a0 6 1).bind fun v4 =>
    (fgI w v4 10 1).bind fun v7 =>
    if (v7 : Int) ≤ x3 then
      some ((-1), w)
    else
      (fgR w a0 6 4).bind fun v14 =>
      (rdL w v14 (w32 (6 + x3))).bind fun v21 =>
      if ((ocmp v21 x1) : Int) = 0 then
        some (x3, w)
      else
        Rd_heirNamed_2 n a0 x1 (w32 (x3 + 1)) w
theorem s_Rd_heirNamed_2 {g : Gp} {l : Launch} {D : Nat} (hD : 0 ≤ D) : ∀ (n : Nat) (a0 : Nat) (x1 : Int) (x3 : Int) (w : Wd) (r : Int × Wd), Rd_heirNamed_2 n a0 x1 x3 w = some r → Rn g l D 65 2 [(0, .inr (.inr a0)), (1, .inr (.inl x1)), (3, .inl x3)] [] w (some (.inl r.1)) r.2 := by
  intro n
  induction n with
  | zero => intro a0 x1 x3 w r h; cases (show (none : Option (Int × Wd)) = some r from h)
  | succ n ih =>
    intro a0 x1 x3 w r h
    unfold Rd_heirNamed_2 at h
    refine rn_iload_n i65_2 rfl ?_
    refine fr_aload_n i65_3 rfl ?_
    obtain ⟨v4, h4, h⟩ := Option.bind_eq_some_iff.mp h
    refine fr_gR (k := 1) i65_4 tf6_1 h4 ?_
    obtain ⟨v7, h7, h⟩ := Option.bind_eq_some_iff.mp h
    refine fr_gI (k := 1) i65_7 tf10_1 h7 ?_
    by_cases c10 : (v7 : Int) ≤ x3
    · rw [if_pos c10] at h
      refine rn_icmp_ge_t i65_10 c10 ?_
      refine rn_iconst i65_35 ?_
      obtain rfl := Option.some.inj h
      exact rn_retI i65_36 mr65
    · rw [if_neg c10] at h
      refine rn_icmp_ge_f i65_10 c10 ?_
      refine fr_aload_n i65_13 rfl ?_
      obtain ⟨v14, h14, h⟩ := Option.bind_eq_some_iff.mp h
      refine fr_gR (k := 4) i65_14 tf6_4 h14 ?_
      refine rn_bipush i65_17 ?_
      refine rn_iload_n i65_19 rfl ?_
      refine rn_iadd i65_20 ?_
      obtain ⟨v21, h21, h⟩ := Option.bind_eq_some_iff.mp h
      refine rn_lald i65_21 h21 ?_
      refine rn_lload_n i65_22 rfl ?_
      refine rn_lcmp i65_23 ?_
      by_cases c24 : ((ocmp v21 x1) : Int) = 0
      · rw [if_pos c24] at h
        refine rn_if_ne_f i65_24 c24 ?_
        refine rn_iload_n i65_27 rfl ?_
        obtain rfl := Option.some.inj h
        exact rn_retI i65_28 mr65
      · rw [if_neg c24] at h
        refine rn_if_ne_t i65_24 c24 ?_
        refine rn_iinc (ls1 := [(3, .inl (w32 (x3 + 1))), (0, .inr (.inr a0)), (1, .inr (.inl x1))]) i65_29 rfl rfl ?_
        refine rn_goto i65_32 ?_
        exact rn_sub [1, 2, 0] rfl (ih a0 x1 (w32 (x3 + 1)) w r h)
def Rd_heirNamed_0 (a0 : Nat) (x1 : Int) (w : Wd) : Option (Int × Wd) :=
  Rd_heirNamed_2 FU a0 x1 0 w
theorem s_Rd_heirNamed_0 {g : Gp} {l : Launch} {D : Nat} (hD : 0 ≤ D) (a0 : Nat) (x1 : Int) (w : Wd) (r : Int × Wd) (h : Rd_heirNamed_0 a0 x1 w = some r) : Rn g l D 65 0 [(0, .inr (.inr a0)), (1, .inr (.inl x1))] [] w (some (.inl r.1)) r.2 := by
  unfold Rd_heirNamed_0 at h
  refine rn_iconst i65_0 ?_
  refine rn_istore_n (ls1 := [(3, .inl 0), (0, .inr (.inr a0)), (1, .inr (.inl x1))]) i65_1 rfl ?_
  exact rn_sub [1, 2, 0] rfl (s_Rd_heirNamed_2 hD FU a0 x1 0 w r h)
/-- HandHeirs$Reader.heirNamed(J)I -/
def Rd_heirNamed (a0 : Nat) (x1 : Int) (w : Wd) : Option (Int × Wd) := gd 6 w a0 (Rd_heirNamed_0 a0 x1 w)
theorem S_Rd_heirNamed {g : Gp} {l : Launch} (a0 : Nat) (x1 : Int) (w : Wd) (r : Int × Wd) (h : Rd_heirNamed a0 x1 w = some r) : (wsh w a0).1 = 6 ∧ ∀ D, 0 ≤ D → Rn g l D 65 0 [(0, .inr (.inr a0)), (1, .inr (.inl x1))] [] w (some (.inl r.1)) r.2 := by
  obtain ⟨hg, h⟩ := gd_some h
  exact ⟨hg, fun D hD => rn_sub [0, 1] rfl (s_Rd_heirNamed_0 hD a0 x1 w r h)⟩
def Rd_takeLearn_51 (w : Wd) : Option (Int × Wd) :=
  some (0, w)
theorem s_Rd_takeLearn_51 {g : Gp} {l : Launch} {D : Nat} (hD : 102 ≤ D) (w : Wd) (r : Int × Wd) (h : Rd_takeLearn_51 w = some r) : Rn g l D 64 51 [] [] w (some (.inl r.1)) r.2 := by
  unfold Rd_takeLearn_51 at h
  refine rn_iconst i64_51 ?_
  obtain rfl := Option.some.inj h
  exact rn_retZ i64_52 mr64 (by decide)
def Rd_takeLearn_71 (w : Wd) : Option (Int × Wd) :=
  some (1, w)
theorem s_Rd_takeLearn_71 {g : Gp} {l : Launch} {D : Nat} (hD : 102 ≤ D) (w : Wd) (r : Int × Wd) (h : Rd_takeLearn_71 w = some r) : Rn g l D 64 71 [] [] w (some (.inl r.1)) r.2 := by
  unfold Rd_takeLearn_71 at h
  refine rn_iconst i64_71 ?_
  obtain rfl := Option.some.inj h
  exact rn_retZ i64_72 mr64 (by decide)
def Rd_takeLearn_36 (a0 : Nat) (x1 : Int) (w : Wd) : Option (Int × Wd) :=
  (Rd_take a0 2 w).bind fun r38 =>
  if (r38.1 : Int) = 0 then
    Rd_takeLearn_51 r38.2
  else
    (Rd_takeLaw a0 r38.2).bind fun r45 =>
    if (r45.1 : Int) = 0 then
      Rd_takeLearn_51 r45.2
    else
      if (x1 : Int) = (-1) then
        Rd_takeLearn_71 r45.2
      else
        (fgR r45.2 a0 6 1).bind fun v59 =>
        (fgR r45.2 v59 10 12).bind fun v62 =>
        (fgI r45.2 a0 6 9).bind fun v67 =>
        (wrI r45.2 v62 x1 v67).bind fun w70 =>
        Rd_takeLearn_71 w70
theorem s_Rd_takeLearn_36 {g : Gp} {l : Launch} {D : Nat} (hD : 102 ≤ D) (a0 : Nat) (x1 : Int) (w : Wd) (r : Int × Wd) (h : Rd_takeLearn_36 a0 x1 w = some r) : Rn g l D 64 36 [(0, .inr (.inr a0)), (1, .inl x1)] [] w (some (.inl r.1)) r.2 := by
  obtain ⟨D, rfl⟩ : ∃ D1, D = D1 + 1 := ⟨D - 1, by omega⟩
  unfold Rd_takeLearn_36 at h
  refine fr_aload_n i64_36 rfl ?_
  refine rn_iconst i64_37 ?_
  obtain ⟨r38, h38, h⟩ := Option.bind_eq_some_iff.mp h
  obtain ⟨g38, c38⟩ := S_Rd_take a0 2 w r38 h38
  refine fr_callV (a := a0) (As := [.inl 2]) (st := []) i64_38 (cq60 a0 2) rfl (Nat.le_of_ble_eq_true rfl) g38 (c38 _ (by omega)) ?_
  show Rn _ _ _ _ _ _ [.inl r38.1] _ _ _
  by_cases c41 : (r38.1 : Int) = 0
  · rw [if_pos c41] at h
    refine rn_if_eq_t i64_41 c41 ?_
    exact rn_sub [] rfl (s_Rd_takeLearn_51 hD r38.2 r h)
  · rw [if_neg c41] at h
    refine rn_if_eq_f i64_41 c41 ?_
    refine fr_aload_n i64_44 rfl ?_
    obtain ⟨r45, h45, h⟩ := Option.bind_eq_some_iff.mp h
    obtain ⟨g45, c45⟩ := S_Rd_takeLaw a0 r38.2 r45 h45
    refine fr_callV (a := a0) (As := []) (st := []) i64_45 (cq72 a0) rfl (Nat.le_of_ble_eq_true rfl) g45 (c45 _ (by omega)) ?_
    show Rn _ _ _ _ _ _ [.inl r45.1] _ _ _
    by_cases c48 : (r45.1 : Int) = 0
    · rw [if_pos c48] at h
      refine rn_if_ne_f i64_48 c48 ?_
      exact rn_sub [] rfl (s_Rd_takeLearn_51 hD r45.2 r h)
    · rw [if_neg c48] at h
      refine rn_if_ne_t i64_48 c48 ?_
      refine rn_iload_n i64_53 rfl ?_
      refine rn_iconst i64_54 ?_
      by_cases c55 : (x1 : Int) = (-1)
      · rw [if_pos c55] at h
        refine rn_icmp_eq_t i64_55 c55 ?_
        exact rn_sub [] rfl (s_Rd_takeLearn_71 hD r45.2 r h)
      · rw [if_neg c55] at h
        refine rn_icmp_eq_f i64_55 c55 ?_
        refine fr_aload_n i64_58 rfl ?_
        obtain ⟨v59, h59, h⟩ := Option.bind_eq_some_iff.mp h
        refine fr_gR (k := 1) i64_59 tf6_1 h59 ?_
        obtain ⟨v62, h62, h⟩ := Option.bind_eq_some_iff.mp h
        refine fr_gR (k := 12) i64_62 tf10_12 h62 ?_
        refine rn_iload_n i64_65 rfl ?_
        refine fr_aload_n i64_66 rfl ?_
        obtain ⟨v67, h67, h⟩ := Option.bind_eq_some_iff.mp h
        refine fr_gI (k := 9) i64_67 tf6_9 h67 ?_
        obtain ⟨w70, h70, h⟩ := Option.bind_eq_some_iff.mp h
        refine rn_iast i64_70 h70 ?_
        exact rn_sub [] rfl (s_Rd_takeLearn_71 hD w70 r h)
def Rd_takeLearn_0 (a0 : Nat) (w : Wd) : Option (Int × Wd) :=
  (Rd_pass a0 w).bind fun r1 =>
  if (r1.1 : Int) = 0 then
    some (0, r1.2)
  else
    (fgL r1.2 a0 6 7).bind fun v11 =>
    (Rd_heirNamed a0 v11 r1.2).bind fun r14 =>
    (fgI r14.2 a0 6 6).bind fun v19 =>
    if (v19 : Int) = 2 then
      if (r14.1 : Int) = (-1) then
        (Rd_note a0 4 r14.2).bind fun r33 =>
        Rd_takeLearn_36 a0 r14.1 r33
      else
        Rd_takeLearn_36 a0 r14.1 r14.2
    else
      Rd_takeLearn_36 a0 r14.1 r14.2
theorem s_Rd_takeLearn_0 {g : Gp} {l : Launch} {D : Nat} (hD : 102 ≤ D) (a0 : Nat) (w : Wd) (r : Int × Wd) (h : Rd_takeLearn_0 a0 w = some r) : Rn g l D 64 0 [(0, .inr (.inr a0))] [] w (some (.inl r.1)) r.2 := by
  obtain ⟨D, rfl⟩ : ∃ D1, D = D1 + 1 := ⟨D - 1, by omega⟩
  unfold Rd_takeLearn_0 at h
  refine fr_aload_n i64_0 rfl ?_
  obtain ⟨r1, h1, h⟩ := Option.bind_eq_some_iff.mp h
  obtain ⟨g1, c1⟩ := S_Rd_pass a0 w r1 h1
  refine fr_callV (a := a0) (As := []) (st := []) i64_1 (cq59 a0) rfl (Nat.le_of_ble_eq_true rfl) g1 (c1 _ (by omega)) ?_
  show Rn _ _ _ _ _ _ [.inl r1.1] _ _ _
  by_cases c4 : (r1.1 : Int) = 0
  · rw [if_pos c4] at h
    refine rn_if_ne_f i64_4 c4 ?_
    refine rn_iconst i64_7 ?_
    obtain rfl := Option.some.inj h
    exact rn_retZ i64_8 mr64 (by decide)
  · rw [if_neg c4] at h
    refine rn_if_ne_t i64_4 c4 ?_
    refine fr_aload_n i64_9 rfl ?_
    refine fr_aload_n i64_10 rfl ?_
    obtain ⟨v11, h11, h⟩ := Option.bind_eq_some_iff.mp h
    refine fr_gL (k := 7) i64_11 tf6_7 h11 ?_
    obtain ⟨r14, h14, h⟩ := Option.bind_eq_some_iff.mp h
    obtain ⟨g14, c14⟩ := S_Rd_heirNamed a0 v11 r1.2 r14 h14
    refine fr_callV (a := a0) (As := [.inr (.inl v11)]) (st := []) i64_14 (cq65 a0 v11) rfl (Nat.le_of_ble_eq_true rfl) g14 (c14 _ (by omega)) ?_
    show Rn _ _ _ _ _ _ [.inl r14.1] _ _ _
    refine rn_istore_n (ls1 := [(1, .inl r14.1), (0, .inr (.inr a0))]) i64_17 rfl ?_
    refine fr_aload_n i64_18 rfl ?_
    obtain ⟨v19, h19, h⟩ := Option.bind_eq_some_iff.mp h
    refine fr_gI (k := 6) i64_19 tf6_6 h19 ?_
    refine rn_iconst i64_22 ?_
    by_cases c23 : (v19 : Int) = 2
    · rw [if_pos c23] at h
      refine rn_icmp_ne_f i64_23 c23 ?_
      refine rn_iload_n i64_26 rfl ?_
      refine rn_iconst i64_27 ?_
      by_cases c28 : (r14.1 : Int) = (-1)
      · rw [if_pos c28] at h
        refine rn_icmp_ne_f i64_28 c28 ?_
        refine fr_aload_n i64_31 rfl ?_
        refine rn_iconst i64_32 ?_
        obtain ⟨r33, h33, h⟩ := Option.bind_eq_some_iff.mp h
        obtain ⟨g33, c33⟩ := S_Rd_note a0 4 r14.2 r33 h33
        refine fr_callV (a := a0) (As := [.inl 4]) (st := []) i64_33 (cq58 a0 4) rfl (Nat.le_of_ble_eq_true rfl) g33 (c33 _ (by omega)) ?_
        exact rn_sub [1, 0] rfl (s_Rd_takeLearn_36 hD a0 r14.1 r33 r h)
      · rw [if_neg c28] at h
        refine rn_icmp_ne_t i64_28 c28 ?_
        exact rn_sub [1, 0] rfl (s_Rd_takeLearn_36 hD a0 r14.1 r14.2 r h)
    · rw [if_neg c23] at h
      refine rn_icmp_ne_t i64_23 c23 ?_
      exact rn_sub [1, 0] rfl (s_Rd_takeLearn_36 hD a0 r14.1 r14.2 r h)
/-- HandHeirs$Reader.takeLearn()Z -/
def Rd_takeLearn (a0 : Nat) (w : Wd) : Option (Int × Wd) := gd 6 w a0 (Rd_takeLearn_0 a0 w)
theorem S_Rd_takeLearn {g : Gp} {l : Launch} (a0 : Nat) (w : Wd) (r : Int × Wd) (h : Rd_takeLearn a0 w = some r) : (wsh w a0).1 = 6 ∧ ∀ D, 102 ≤ D → Rn g l D 64 0 [(0, .inr (.inr a0))] [] w (some (.inl r.1)) r.2 := by
  obtain ⟨hg, h⟩ := gd_some h
  exact ⟨hg, fun D hD => rn_sub [0] rfl (s_Rd_takeLearn_0 hD a0 w r h)⟩
def Rd_takeDrift_14 (w : Wd) : Option (Int × Wd) :=
  some (0, w)
theorem s_Rd_takeDrift_14 {g : Gp} {l : Launch} {D : Nat} (hD : 102 ≤ D) (w : Wd) (r : Int × Wd) (h : Rd_takeDrift_14 w = some r) : Rn g l D 66 14 [] [] w (some (.inl r.1)) r.2 := by
  unfold Rd_takeDrift_14 at h
  refine rn_iconst i66_14 ?_
  obtain rfl := Option.some.inj h
  exact rn_retZ i66_15 mr66 (by decide)
def Rd_takeDrift_0 (a0 : Nat) (w : Wd) : Option (Int × Wd) :=
  (Rd_pass a0 w).bind fun r1 =>
  if (r1.1 : Int) = 0 then
    Rd_takeDrift_14 r1.2
  else
    (Rd_takeLaw a0 r1.2).bind fun r8 =>
    if (r8.1 : Int) = 0 then
      Rd_takeDrift_14 r8.2
    else
      (fgR r8.2 a0 6 1).bind fun v17 =>
      (fgI r8.2 a0 6 9).bind fun v21 =>
      (fpI r8.2 v17 10 6 v21).bind fun w24 =>
      some (1, w24)
theorem s_Rd_takeDrift_0 {g : Gp} {l : Launch} {D : Nat} (hD : 102 ≤ D) (a0 : Nat) (w : Wd) (r : Int × Wd) (h : Rd_takeDrift_0 a0 w = some r) : Rn g l D 66 0 [(0, .inr (.inr a0))] [] w (some (.inl r.1)) r.2 := by
  obtain ⟨D, rfl⟩ : ∃ D1, D = D1 + 1 := ⟨D - 1, by omega⟩
  unfold Rd_takeDrift_0 at h
  refine fr_aload_n i66_0 rfl ?_
  obtain ⟨r1, h1, h⟩ := Option.bind_eq_some_iff.mp h
  obtain ⟨g1, c1⟩ := S_Rd_pass a0 w r1 h1
  refine fr_callV (a := a0) (As := []) (st := []) i66_1 (cq59 a0) rfl (Nat.le_of_ble_eq_true rfl) g1 (c1 _ (by omega)) ?_
  show Rn _ _ _ _ _ _ [.inl r1.1] _ _ _
  by_cases c4 : (r1.1 : Int) = 0
  · rw [if_pos c4] at h
    refine rn_if_eq_t i66_4 c4 ?_
    exact rn_sub [] rfl (s_Rd_takeDrift_14 hD r1.2 r h)
  · rw [if_neg c4] at h
    refine rn_if_eq_f i66_4 c4 ?_
    refine fr_aload_n i66_7 rfl ?_
    obtain ⟨r8, h8, h⟩ := Option.bind_eq_some_iff.mp h
    obtain ⟨g8, c8⟩ := S_Rd_takeLaw a0 r1.2 r8 h8
    refine fr_callV (a := a0) (As := []) (st := []) i66_8 (cq72 a0) rfl (Nat.le_of_ble_eq_true rfl) g8 (c8 _ (by omega)) ?_
    show Rn _ _ _ _ _ _ [.inl r8.1] _ _ _
    by_cases c11 : (r8.1 : Int) = 0
    · rw [if_pos c11] at h
      refine rn_if_ne_f i66_11 c11 ?_
      exact rn_sub [] rfl (s_Rd_takeDrift_14 hD r8.2 r h)
    · rw [if_neg c11] at h
      refine rn_if_ne_t i66_11 c11 ?_
      refine fr_aload_n i66_16 rfl ?_
      obtain ⟨v17, h17, h⟩ := Option.bind_eq_some_iff.mp h
      refine fr_gR (k := 1) i66_17 tf6_1 h17 ?_
      refine fr_aload_n i66_20 rfl ?_
      obtain ⟨v21, h21, h⟩ := Option.bind_eq_some_iff.mp h
      refine fr_gI (k := 9) i66_21 tf6_9 h21 ?_
      obtain ⟨w24, h24, h⟩ := Option.bind_eq_some_iff.mp h
      refine fr_pI (k := 6) i66_24 (pf10_6 66) h24 ?_
      refine rn_iconst i66_27 ?_
      obtain rfl := Option.some.inj h
      exact rn_retZ i66_28 mr66 (by decide)
/-- HandHeirs$Reader.takeDrift()Z -/
def Rd_takeDrift (a0 : Nat) (w : Wd) : Option (Int × Wd) := gd 6 w a0 (Rd_takeDrift_0 a0 w)
theorem S_Rd_takeDrift {g : Gp} {l : Launch} (a0 : Nat) (w : Wd) (r : Int × Wd) (h : Rd_takeDrift a0 w = some r) : (wsh w a0).1 = 6 ∧ ∀ D, 102 ≤ D → Rn g l D 66 0 [(0, .inr (.inr a0))] [] w (some (.inl r.1)) r.2 := by
  obtain ⟨hg, h⟩ := gd_some h
  exact ⟨hg, fun D hD => rn_sub [0] rfl (s_Rd_takeDrift_0 hD a0 w r h)⟩
def Rd_takeDays_16 (w : Wd) : Option (Int × Wd) :=
  some (0, w)
theorem s_Rd_takeDays_16 {g : Gp} {l : Launch} {D : Nat} (hD : 4 ≤ D) (w : Wd) (r : Int × Wd) (h : Rd_takeDays_16 w = some r) : Rn g l D 67 16 [] [] w (some (.inl r.1)) r.2 := by
  unfold Rd_takeDays_16 at h
  refine rn_iconst i67_16 ?_
  obtain rfl := Option.some.inj h
  exact rn_retZ i67_17 mr67 (by decide)
def Rd_takeDays_0 (a0 : Nat) (w : Wd) : Option (Int × Wd) :=
  (Rd_pass a0 w).bind fun r1 =>
  if (r1.1 : Int) = 0 then
    Rd_takeDays_16 r1.2
  else
    (Rd_takeInt a0 9 r1.2).bind fun r10 =>
    if (r10.1 : Int) = 0 then
      Rd_takeDays_16 r10.2
    else
      (fgR r10.2 a0 6 1).bind fun v19 =>
      (fgI r10.2 a0 6 8).bind fun v23 =>
      (fpI r10.2 v19 10 3 v23).bind fun w26 =>
      some (1, w26)
theorem s_Rd_takeDays_0 {g : Gp} {l : Launch} {D : Nat} (hD : 4 ≤ D) (a0 : Nat) (w : Wd) (r : Int × Wd) (h : Rd_takeDays_0 a0 w = some r) : Rn g l D 67 0 [(0, .inr (.inr a0))] [] w (some (.inl r.1)) r.2 := by
  obtain ⟨D, rfl⟩ : ∃ D1, D = D1 + 1 := ⟨D - 1, by omega⟩
  unfold Rd_takeDays_0 at h
  refine fr_aload_n i67_0 rfl ?_
  obtain ⟨r1, h1, h⟩ := Option.bind_eq_some_iff.mp h
  obtain ⟨g1, c1⟩ := S_Rd_pass a0 w r1 h1
  refine fr_callV (a := a0) (As := []) (st := []) i67_1 (cq59 a0) rfl (Nat.le_of_ble_eq_true rfl) g1 (c1 _ (by omega)) ?_
  show Rn _ _ _ _ _ _ [.inl r1.1] _ _ _
  by_cases c4 : (r1.1 : Int) = 0
  · rw [if_pos c4] at h
    refine rn_if_eq_t i67_4 c4 ?_
    exact rn_sub [] rfl (s_Rd_takeDays_16 hD r1.2 r h)
  · rw [if_neg c4] at h
    refine rn_if_eq_f i67_4 c4 ?_
    refine fr_aload_n i67_7 rfl ?_
    refine rn_bipush i67_8 ?_
    obtain ⟨r10, h10, h⟩ := Option.bind_eq_some_iff.mp h
    obtain ⟨g10, c10⟩ := S_Rd_takeInt a0 9 r1.2 r10 h10
    refine fr_callV (a := a0) (As := [.inl 9]) (st := []) i67_10 (cq71 a0 9) rfl (Nat.le_of_ble_eq_true rfl) g10 (c10 _ (by omega)) ?_
    show Rn _ _ _ _ _ _ [.inl r10.1] _ _ _
    by_cases c13 : (r10.1 : Int) = 0
    · rw [if_pos c13] at h
      refine rn_if_ne_f i67_13 c13 ?_
      exact rn_sub [] rfl (s_Rd_takeDays_16 hD r10.2 r h)
    · rw [if_neg c13] at h
      refine rn_if_ne_t i67_13 c13 ?_
      refine fr_aload_n i67_18 rfl ?_
      obtain ⟨v19, h19, h⟩ := Option.bind_eq_some_iff.mp h
      refine fr_gR (k := 1) i67_19 tf6_1 h19 ?_
      refine fr_aload_n i67_22 rfl ?_
      obtain ⟨v23, h23, h⟩ := Option.bind_eq_some_iff.mp h
      refine fr_gI (k := 8) i67_23 tf6_8 h23 ?_
      obtain ⟨w26, h26, h⟩ := Option.bind_eq_some_iff.mp h
      refine fr_pI (k := 3) i67_26 (pf10_3 67) h26 ?_
      refine rn_iconst i67_29 ?_
      obtain rfl := Option.some.inj h
      exact rn_retZ i67_30 mr67 (by decide)
/-- HandHeirs$Reader.takeDays()Z -/
def Rd_takeDays (a0 : Nat) (w : Wd) : Option (Int × Wd) := gd 6 w a0 (Rd_takeDays_0 a0 w)
theorem S_Rd_takeDays {g : Gp} {l : Launch} (a0 : Nat) (w : Wd) (r : Int × Wd) (h : Rd_takeDays a0 w = some r) : (wsh w a0).1 = 6 ∧ ∀ D, 4 ≤ D → Rn g l D 67 0 [(0, .inr (.inr a0))] [] w (some (.inl r.1)) r.2 := by
  obtain ⟨hg, h⟩ := gd_some h
  exact ⟨hg, fun D hD => rn_sub [0] rfl (s_Rd_takeDays_0 hD a0 w r h)⟩
def Rd_takeLimit_17 (w : Wd) : Option (Int × Wd) :=
  some (0, w)
theorem s_Rd_takeLimit_17 {g : Gp} {l : Launch} {D : Nat} (hD : 4 ≤ D) (w : Wd) (r : Int × Wd) (h : Rd_takeLimit_17 w = some r) : Rn g l D 68 17 [] [] w (some (.inl r.1)) r.2 := by
  unfold Rd_takeLimit_17 at h
  refine rn_iconst i68_17 ?_
  obtain rfl := Option.some.inj h
  exact rn_retZ i68_18 mr68 (by decide)
def Rd_takeLimit_0 (a0 : Nat) (w : Wd) : Option (Int × Wd) :=
  (Rd_pass a0 w).bind fun r1 =>
  if (r1.1 : Int) = 0 then
    Rd_takeLimit_17 r1.2
  else
    (Rd_takeInt a0 9999 r1.2).bind fun r11 =>
    if (r11.1 : Int) = 0 then
      Rd_takeLimit_17 r11.2
    else
      (fgR r11.2 a0 6 1).bind fun v20 =>
      (fgI r11.2 a0 6 8).bind fun v24 =>
      (fpI r11.2 v20 10 4 v24).bind fun w27 =>
      some (1, w27)
theorem s_Rd_takeLimit_0 {g : Gp} {l : Launch} {D : Nat} (hD : 4 ≤ D) (a0 : Nat) (w : Wd) (r : Int × Wd) (h : Rd_takeLimit_0 a0 w = some r) : Rn g l D 68 0 [(0, .inr (.inr a0))] [] w (some (.inl r.1)) r.2 := by
  obtain ⟨D, rfl⟩ : ∃ D1, D = D1 + 1 := ⟨D - 1, by omega⟩
  unfold Rd_takeLimit_0 at h
  refine fr_aload_n i68_0 rfl ?_
  obtain ⟨r1, h1, h⟩ := Option.bind_eq_some_iff.mp h
  obtain ⟨g1, c1⟩ := S_Rd_pass a0 w r1 h1
  refine fr_callV (a := a0) (As := []) (st := []) i68_1 (cq59 a0) rfl (Nat.le_of_ble_eq_true rfl) g1 (c1 _ (by omega)) ?_
  show Rn _ _ _ _ _ _ [.inl r1.1] _ _ _
  by_cases c4 : (r1.1 : Int) = 0
  · rw [if_pos c4] at h
    refine rn_if_eq_t i68_4 c4 ?_
    exact rn_sub [] rfl (s_Rd_takeLimit_17 hD r1.2 r h)
  · rw [if_neg c4] at h
    refine rn_if_eq_f i68_4 c4 ?_
    refine fr_aload_n i68_7 rfl ?_
    refine rn_sipush i68_8 ?_
    obtain ⟨r11, h11, h⟩ := Option.bind_eq_some_iff.mp h
    obtain ⟨g11, c11⟩ := S_Rd_takeInt a0 9999 r1.2 r11 h11
    refine fr_callV (a := a0) (As := [.inl 9999]) (st := []) i68_11 (cq71 a0 9999) rfl (Nat.le_of_ble_eq_true rfl) g11 (c11 _ (by omega)) ?_
    show Rn _ _ _ _ _ _ [.inl r11.1] _ _ _
    by_cases c14 : (r11.1 : Int) = 0
    · rw [if_pos c14] at h
      refine rn_if_ne_f i68_14 c14 ?_
      exact rn_sub [] rfl (s_Rd_takeLimit_17 hD r11.2 r h)
    · rw [if_neg c14] at h
      refine rn_if_ne_t i68_14 c14 ?_
      refine fr_aload_n i68_19 rfl ?_
      obtain ⟨v20, h20, h⟩ := Option.bind_eq_some_iff.mp h
      refine fr_gR (k := 1) i68_20 tf6_1 h20 ?_
      refine fr_aload_n i68_23 rfl ?_
      obtain ⟨v24, h24, h⟩ := Option.bind_eq_some_iff.mp h
      refine fr_gI (k := 8) i68_24 tf6_8 h24 ?_
      obtain ⟨w27, h27, h⟩ := Option.bind_eq_some_iff.mp h
      refine fr_pI (k := 4) i68_27 (pf10_4 68) h27 ?_
      refine rn_iconst i68_30 ?_
      obtain rfl := Option.some.inj h
      exact rn_retZ i68_31 mr68 (by decide)
/-- HandHeirs$Reader.takeLimit()Z -/
def Rd_takeLimit (a0 : Nat) (w : Wd) : Option (Int × Wd) := gd 6 w a0 (Rd_takeLimit_0 a0 w)
theorem S_Rd_takeLimit {g : Gp} {l : Launch} (a0 : Nat) (w : Wd) (r : Int × Wd) (h : Rd_takeLimit a0 w = some r) : (wsh w a0).1 = 6 ∧ ∀ D, 4 ≤ D → Rn g l D 68 0 [(0, .inr (.inr a0))] [] w (some (.inl r.1)) r.2 := by
  obtain ⟨hg, h⟩ := gd_some h
  exact ⟨hg, fun D hD => rn_sub [0] rfl (s_Rd_takeLimit_0 hD a0 w r h)⟩
def Rd_takeSeed_17 (w : Wd) : Option (Int × Wd) :=
  some (0, w)
theorem s_Rd_takeSeed_17 {g : Gp} {l : Launch} {D : Nat} (hD : 4 ≤ D) (w : Wd) (r : Int × Wd) (h : Rd_takeSeed_17 w = some r) : Rn g l D 69 17 [] [] w (some (.inl r.1)) r.2 := by
  unfold Rd_takeSeed_17 at h
  refine rn_iconst i69_17 ?_
  obtain rfl := Option.some.inj h
  exact rn_retZ i69_18 mr69 (by decide)
def Rd_takeSeed_0 (a0 : Nat) (w : Wd) : Option (Int × Wd) :=
  (Rd_pass a0 w).bind fun r1 =>
  if (r1.1 : Int) = 0 then
    Rd_takeSeed_17 r1.2
  else
    (Rd_takeInt a0 9999 r1.2).bind fun r11 =>
    if (r11.1 : Int) = 0 then
      Rd_takeSeed_17 r11.2
    else
      (fgR r11.2 a0 6 1).bind fun v20 =>
      (fgI r11.2 a0 6 8).bind fun v24 =>
      (fpI r11.2 v20 10 5 v24).bind fun w27 =>
      some (1, w27)
theorem s_Rd_takeSeed_0 {g : Gp} {l : Launch} {D : Nat} (hD : 4 ≤ D) (a0 : Nat) (w : Wd) (r : Int × Wd) (h : Rd_takeSeed_0 a0 w = some r) : Rn g l D 69 0 [(0, .inr (.inr a0))] [] w (some (.inl r.1)) r.2 := by
  obtain ⟨D, rfl⟩ : ∃ D1, D = D1 + 1 := ⟨D - 1, by omega⟩
  unfold Rd_takeSeed_0 at h
  refine fr_aload_n i69_0 rfl ?_
  obtain ⟨r1, h1, h⟩ := Option.bind_eq_some_iff.mp h
  obtain ⟨g1, c1⟩ := S_Rd_pass a0 w r1 h1
  refine fr_callV (a := a0) (As := []) (st := []) i69_1 (cq59 a0) rfl (Nat.le_of_ble_eq_true rfl) g1 (c1 _ (by omega)) ?_
  show Rn _ _ _ _ _ _ [.inl r1.1] _ _ _
  by_cases c4 : (r1.1 : Int) = 0
  · rw [if_pos c4] at h
    refine rn_if_eq_t i69_4 c4 ?_
    exact rn_sub [] rfl (s_Rd_takeSeed_17 hD r1.2 r h)
  · rw [if_neg c4] at h
    refine rn_if_eq_f i69_4 c4 ?_
    refine fr_aload_n i69_7 rfl ?_
    refine rn_sipush i69_8 ?_
    obtain ⟨r11, h11, h⟩ := Option.bind_eq_some_iff.mp h
    obtain ⟨g11, c11⟩ := S_Rd_takeInt a0 9999 r1.2 r11 h11
    refine fr_callV (a := a0) (As := [.inl 9999]) (st := []) i69_11 (cq71 a0 9999) rfl (Nat.le_of_ble_eq_true rfl) g11 (c11 _ (by omega)) ?_
    show Rn _ _ _ _ _ _ [.inl r11.1] _ _ _
    by_cases c14 : (r11.1 : Int) = 0
    · rw [if_pos c14] at h
      refine rn_if_ne_f i69_14 c14 ?_
      exact rn_sub [] rfl (s_Rd_takeSeed_17 hD r11.2 r h)
    · rw [if_neg c14] at h
      refine rn_if_ne_t i69_14 c14 ?_
      refine fr_aload_n i69_19 rfl ?_
      obtain ⟨v20, h20, h⟩ := Option.bind_eq_some_iff.mp h
      refine fr_gR (k := 1) i69_20 tf6_1 h20 ?_
      refine fr_aload_n i69_23 rfl ?_
      obtain ⟨v24, h24, h⟩ := Option.bind_eq_some_iff.mp h
      refine fr_gI (k := 8) i69_24 tf6_8 h24 ?_
      obtain ⟨w27, h27, h⟩ := Option.bind_eq_some_iff.mp h
      refine fr_pI (k := 5) i69_27 (pf10_5 69) h27 ?_
      refine rn_iconst i69_30 ?_
      obtain rfl := Option.some.inj h
      exact rn_retZ i69_31 mr69 (by decide)
/-- HandHeirs$Reader.takeSeed()Z -/
def Rd_takeSeed (a0 : Nat) (w : Wd) : Option (Int × Wd) := gd 6 w a0 (Rd_takeSeed_0 a0 w)
theorem S_Rd_takeSeed {g : Gp} {l : Launch} (a0 : Nat) (w : Wd) (r : Int × Wd) (h : Rd_takeSeed a0 w = some r) : (wsh w a0).1 = 6 ∧ ∀ D, 4 ≤ D → Rn g l D 69 0 [(0, .inr (.inr a0))] [] w (some (.inl r.1)) r.2 := by
  obtain ⟨hg, h⟩ := gd_some h
  exact ⟨hg, fun D hD => rn_sub [0] rfl (s_Rd_takeSeed_0 hD a0 w r h)⟩
def Rd_readText_286 (k11 : Nat → Int → Int → Wd → Option (Int × Wd)) (a0 : Nat) (x3 : Int) (x4 : Int) (w : Wd) : Option (Int × Wd) :=
  k11 a0 x3 (w32 (x4 + 1)) w
theorem s_Rd_readText_286 {g : Gp} {l : Launch} {D : Nat} (hD : 103 ≤ D) (k11 : Nat → Int → Int → Wd → Option (Int × Wd)) (hk11 : ∀ (a0 : Nat) (x3 : Int) (x4 : Int) (w : Wd) (r : Int × Wd), k11 a0 x3 x4 w = some r → Rn g l D 55 11 [(0, .inr (.inr a0)), (3, .inl x3), (4, .inl x4)] [] w (some (.inl r.1)) r.2) (a0 : Nat) (x3 : Int) (x4 : Int) (w : Wd) (r : Int × Wd) (h : Rd_readText_286 k11 a0 x3 x4 w = some r) : Rn g l D 55 286 [(0, .inr (.inr a0)), (3, .inl x3), (4, .inl x4)] [] w (some (.inl r.1)) r.2 := by
  unfold Rd_readText_286 at h
  refine rn_iinc (ls1 := [(4, .inl (w32 (x4 + 1))), (0, .inr (.inr a0)), (3, .inl x3)]) i55_286 rfl rfl ?_
  refine rn_goto i55_289 ?_
  exact rn_sub [1, 2, 0] rfl (hk11 a0 x3 (w32 (x4 + 1)) w r h)
def Rd_readText_101 (k11 : Nat → Int → Int → Wd → Option (Int × Wd)) (a0 : Nat) (x4 : Int) (s0 : Int) (w : Wd) : Option (Int × Wd) :=
  Rd_readText_286 k11 a0 s0 x4 w
theorem s_Rd_readText_101 {g : Gp} {l : Launch} {D : Nat} (hD : 103 ≤ D) (k11 : Nat → Int → Int → Wd → Option (Int × Wd)) (hk11 : ∀ (a0 : Nat) (x3 : Int) (x4 : Int) (w : Wd) (r : Int × Wd), k11 a0 x3 x4 w = some r → Rn g l D 55 11 [(0, .inr (.inr a0)), (3, .inl x3), (4, .inl x4)] [] w (some (.inl r.1)) r.2) (a0 : Nat) (x4 : Int) (s0 : Int) (w : Wd) (r : Int × Wd) (h : Rd_readText_101 k11 a0 x4 s0 w = some r) : Rn g l D 55 101 [(0, .inr (.inr a0)), (4, .inl x4)] [.inl s0] w (some (.inl r.1)) r.2 := by
  unfold Rd_readText_101 at h
  refine rn_istore_n (ls1 := [(3, .inl s0), (0, .inr (.inr a0)), (4, .inl x4)]) i55_101 rfl ?_
  refine rn_goto i55_102 ?_
  exact rn_sub [1, 0, 2] rfl (s_Rd_readText_286 hD k11 hk11 a0 s0 x4 w r h)
def Rd_readText_100 (k11 : Nat → Int → Int → Wd → Option (Int × Wd)) (a0 : Nat) (x4 : Int) (w : Wd) : Option (Int × Wd) :=
  Rd_readText_101 k11 a0 x4 0 w
theorem s_Rd_readText_100 {g : Gp} {l : Launch} {D : Nat} (hD : 103 ≤ D) (k11 : Nat → Int → Int → Wd → Option (Int × Wd)) (hk11 : ∀ (a0 : Nat) (x3 : Int) (x4 : Int) (w : Wd) (r : Int × Wd), k11 a0 x3 x4 w = some r → Rn g l D 55 11 [(0, .inr (.inr a0)), (3, .inl x3), (4, .inl x4)] [] w (some (.inl r.1)) r.2) (a0 : Nat) (x4 : Int) (w : Wd) (r : Int × Wd) (h : Rd_readText_100 k11 a0 x4 w = some r) : Rn g l D 55 100 [(0, .inr (.inr a0)), (4, .inl x4)] [] w (some (.inl r.1)) r.2 := by
  unfold Rd_readText_100 at h
  refine rn_iconst i55_100 ?_
  exact rn_sub [0, 1] rfl (s_Rd_readText_101 hD k11 hk11 a0 x4 0 w r h)
def Rd_readText_126 (k11 : Nat → Int → Int → Wd → Option (Int × Wd)) (a0 : Nat) (x4 : Int) (s0 : Int) (w : Wd) : Option (Int × Wd) :=
  Rd_readText_286 k11 a0 s0 x4 w
theorem s_Rd_readText_126 {g : Gp} {l : Launch} {D : Nat} (hD : 103 ≤ D) (k11 : Nat → Int → Int → Wd → Option (Int × Wd)) (hk11 : ∀ (a0 : Nat) (x3 : Int) (x4 : Int) (w : Wd) (r : Int × Wd), k11 a0 x3 x4 w = some r → Rn g l D 55 11 [(0, .inr (.inr a0)), (3, .inl x3), (4, .inl x4)] [] w (some (.inl r.1)) r.2) (a0 : Nat) (x4 : Int) (s0 : Int) (w : Wd) (r : Int × Wd) (h : Rd_readText_126 k11 a0 x4 s0 w = some r) : Rn g l D 55 126 [(0, .inr (.inr a0)), (4, .inl x4)] [.inl s0] w (some (.inl r.1)) r.2 := by
  unfold Rd_readText_126 at h
  refine rn_istore_n (ls1 := [(3, .inl s0), (0, .inr (.inr a0)), (4, .inl x4)]) i55_126 rfl ?_
  refine rn_goto i55_127 ?_
  exact rn_sub [1, 0, 2] rfl (s_Rd_readText_286 hD k11 hk11 a0 s0 x4 w r h)
def Rd_readText_125 (k11 : Nat → Int → Int → Wd → Option (Int × Wd)) (a0 : Nat) (x4 : Int) (w : Wd) : Option (Int × Wd) :=
  Rd_readText_126 k11 a0 x4 0 w
theorem s_Rd_readText_125 {g : Gp} {l : Launch} {D : Nat} (hD : 103 ≤ D) (k11 : Nat → Int → Int → Wd → Option (Int × Wd)) (hk11 : ∀ (a0 : Nat) (x3 : Int) (x4 : Int) (w : Wd) (r : Int × Wd), k11 a0 x3 x4 w = some r → Rn g l D 55 11 [(0, .inr (.inr a0)), (3, .inl x3), (4, .inl x4)] [] w (some (.inl r.1)) r.2) (a0 : Nat) (x4 : Int) (w : Wd) (r : Int × Wd) (h : Rd_readText_125 k11 a0 x4 w = some r) : Rn g l D 55 125 [(0, .inr (.inr a0)), (4, .inl x4)] [] w (some (.inl r.1)) r.2 := by
  unfold Rd_readText_125 at h
  refine rn_iconst i55_125 ?_
  exact rn_sub [0, 1] rfl (s_Rd_readText_126 hD k11 hk11 a0 x4 0 w r h)
def Rd_readText_151 (k11 : Nat → Int → Int → Wd → Option (Int × Wd)) (a0 : Nat) (x4 : Int) (s0 : Int) (w : Wd) : Option (Int × Wd) :=
  Rd_readText_286 k11 a0 s0 x4 w
theorem s_Rd_readText_151 {g : Gp} {l : Launch} {D : Nat} (hD : 103 ≤ D) (k11 : Nat → Int → Int → Wd → Option (Int × Wd)) (hk11 : ∀ (a0 : Nat) (x3 : Int) (x4 : Int) (w : Wd) (r : Int × Wd), k11 a0 x3 x4 w = some r → Rn g l D 55 11 [(0, .inr (.inr a0)), (3, .inl x3), (4, .inl x4)] [] w (some (.inl r.1)) r.2) (a0 : Nat) (x4 : Int) (s0 : Int) (w : Wd) (r : Int × Wd) (h : Rd_readText_151 k11 a0 x4 s0 w = some r) : Rn g l D 55 151 [(0, .inr (.inr a0)), (4, .inl x4)] [.inl s0] w (some (.inl r.1)) r.2 := by
  unfold Rd_readText_151 at h
  refine rn_istore_n (ls1 := [(3, .inl s0), (0, .inr (.inr a0)), (4, .inl x4)]) i55_151 rfl ?_
  refine rn_goto i55_152 ?_
  exact rn_sub [1, 0, 2] rfl (s_Rd_readText_286 hD k11 hk11 a0 s0 x4 w r h)
def Rd_readText_150 (k11 : Nat → Int → Int → Wd → Option (Int × Wd)) (a0 : Nat) (x4 : Int) (w : Wd) : Option (Int × Wd) :=
  Rd_readText_151 k11 a0 x4 0 w
theorem s_Rd_readText_150 {g : Gp} {l : Launch} {D : Nat} (hD : 103 ≤ D) (k11 : Nat → Int → Int → Wd → Option (Int × Wd)) (hk11 : ∀ (a0 : Nat) (x3 : Int) (x4 : Int) (w : Wd) (r : Int × Wd), k11 a0 x3 x4 w = some r → Rn g l D 55 11 [(0, .inr (.inr a0)), (3, .inl x3), (4, .inl x4)] [] w (some (.inl r.1)) r.2) (a0 : Nat) (x4 : Int) (w : Wd) (r : Int × Wd) (h : Rd_readText_150 k11 a0 x4 w = some r) : Rn g l D 55 150 [(0, .inr (.inr a0)), (4, .inl x4)] [] w (some (.inl r.1)) r.2 := by
  unfold Rd_readText_150 at h
  refine rn_iconst i55_150 ?_
  exact rn_sub [0, 1] rfl (s_Rd_readText_151 hD k11 hk11 a0 x4 0 w r h)
def Rd_readText_176 (k11 : Nat → Int → Int → Wd → Option (Int × Wd)) (a0 : Nat) (x4 : Int) (s0 : Int) (w : Wd) : Option (Int × Wd) :=
  Rd_readText_286 k11 a0 s0 x4 w
theorem s_Rd_readText_176 {g : Gp} {l : Launch} {D : Nat} (hD : 103 ≤ D) (k11 : Nat → Int → Int → Wd → Option (Int × Wd)) (hk11 : ∀ (a0 : Nat) (x3 : Int) (x4 : Int) (w : Wd) (r : Int × Wd), k11 a0 x3 x4 w = some r → Rn g l D 55 11 [(0, .inr (.inr a0)), (3, .inl x3), (4, .inl x4)] [] w (some (.inl r.1)) r.2) (a0 : Nat) (x4 : Int) (s0 : Int) (w : Wd) (r : Int × Wd) (h : Rd_readText_176 k11 a0 x4 s0 w = some r) : Rn g l D 55 176 [(0, .inr (.inr a0)), (4, .inl x4)] [.inl s0] w (some (.inl r.1)) r.2 := by
  unfold Rd_readText_176 at h
  refine rn_istore_n (ls1 := [(3, .inl s0), (0, .inr (.inr a0)), (4, .inl x4)]) i55_176 rfl ?_
  refine rn_goto i55_177 ?_
  exact rn_sub [1, 0, 2] rfl (s_Rd_readText_286 hD k11 hk11 a0 s0 x4 w r h)
def Rd_readText_175 (k11 : Nat → Int → Int → Wd → Option (Int × Wd)) (a0 : Nat) (x4 : Int) (w : Wd) : Option (Int × Wd) :=
  Rd_readText_176 k11 a0 x4 0 w
theorem s_Rd_readText_175 {g : Gp} {l : Launch} {D : Nat} (hD : 103 ≤ D) (k11 : Nat → Int → Int → Wd → Option (Int × Wd)) (hk11 : ∀ (a0 : Nat) (x3 : Int) (x4 : Int) (w : Wd) (r : Int × Wd), k11 a0 x3 x4 w = some r → Rn g l D 55 11 [(0, .inr (.inr a0)), (3, .inl x3), (4, .inl x4)] [] w (some (.inl r.1)) r.2) (a0 : Nat) (x4 : Int) (w : Wd) (r : Int × Wd) (h : Rd_readText_175 k11 a0 x4 w = some r) : Rn g l D 55 175 [(0, .inr (.inr a0)), (4, .inl x4)] [] w (some (.inl r.1)) r.2 := by
  unfold Rd_readText_175 at h
  refine rn_iconst i55_175 ?_
  exact rn_sub [0, 1] rfl (s_Rd_readText_176 hD k11 hk11 a0 x4 0 w r h)
def Rd_readText_201 (k11 : Nat → Int → Int → Wd → Option (Int × Wd)) (a0 : Nat) (x4 : Int) (s0 : Int) (w : Wd) : Option (Int × Wd) :=
  Rd_readText_286 k11 a0 s0 x4 w
theorem s_Rd_readText_201 {g : Gp} {l : Launch} {D : Nat} (hD : 103 ≤ D) (k11 : Nat → Int → Int → Wd → Option (Int × Wd)) (hk11 : ∀ (a0 : Nat) (x3 : Int) (x4 : Int) (w : Wd) (r : Int × Wd), k11 a0 x3 x4 w = some r → Rn g l D 55 11 [(0, .inr (.inr a0)), (3, .inl x3), (4, .inl x4)] [] w (some (.inl r.1)) r.2) (a0 : Nat) (x4 : Int) (s0 : Int) (w : Wd) (r : Int × Wd) (h : Rd_readText_201 k11 a0 x4 s0 w = some r) : Rn g l D 55 201 [(0, .inr (.inr a0)), (4, .inl x4)] [.inl s0] w (some (.inl r.1)) r.2 := by
  unfold Rd_readText_201 at h
  refine rn_istore_n (ls1 := [(3, .inl s0), (0, .inr (.inr a0)), (4, .inl x4)]) i55_201 rfl ?_
  refine rn_goto i55_202 ?_
  exact rn_sub [1, 0, 2] rfl (s_Rd_readText_286 hD k11 hk11 a0 s0 x4 w r h)
def Rd_readText_200 (k11 : Nat → Int → Int → Wd → Option (Int × Wd)) (a0 : Nat) (x4 : Int) (w : Wd) : Option (Int × Wd) :=
  Rd_readText_201 k11 a0 x4 0 w
theorem s_Rd_readText_200 {g : Gp} {l : Launch} {D : Nat} (hD : 103 ≤ D) (k11 : Nat → Int → Int → Wd → Option (Int × Wd)) (hk11 : ∀ (a0 : Nat) (x3 : Int) (x4 : Int) (w : Wd) (r : Int × Wd), k11 a0 x3 x4 w = some r → Rn g l D 55 11 [(0, .inr (.inr a0)), (3, .inl x3), (4, .inl x4)] [] w (some (.inl r.1)) r.2) (a0 : Nat) (x4 : Int) (w : Wd) (r : Int × Wd) (h : Rd_readText_200 k11 a0 x4 w = some r) : Rn g l D 55 200 [(0, .inr (.inr a0)), (4, .inl x4)] [] w (some (.inl r.1)) r.2 := by
  unfold Rd_readText_200 at h
  refine rn_iconst i55_200 ?_
  exact rn_sub [0, 1] rfl (s_Rd_readText_201 hD k11 hk11 a0 x4 0 w r h)
def Rd_readText_226 (k11 : Nat → Int → Int → Wd → Option (Int × Wd)) (a0 : Nat) (x4 : Int) (s0 : Int) (w : Wd) : Option (Int × Wd) :=
  Rd_readText_286 k11 a0 s0 x4 w
theorem s_Rd_readText_226 {g : Gp} {l : Launch} {D : Nat} (hD : 103 ≤ D) (k11 : Nat → Int → Int → Wd → Option (Int × Wd)) (hk11 : ∀ (a0 : Nat) (x3 : Int) (x4 : Int) (w : Wd) (r : Int × Wd), k11 a0 x3 x4 w = some r → Rn g l D 55 11 [(0, .inr (.inr a0)), (3, .inl x3), (4, .inl x4)] [] w (some (.inl r.1)) r.2) (a0 : Nat) (x4 : Int) (s0 : Int) (w : Wd) (r : Int × Wd) (h : Rd_readText_226 k11 a0 x4 s0 w = some r) : Rn g l D 55 226 [(0, .inr (.inr a0)), (4, .inl x4)] [.inl s0] w (some (.inl r.1)) r.2 := by
  unfold Rd_readText_226 at h
  refine rn_istore_n (ls1 := [(3, .inl s0), (0, .inr (.inr a0)), (4, .inl x4)]) i55_226 rfl ?_
  refine rn_goto i55_227 ?_
  exact rn_sub [1, 0, 2] rfl (s_Rd_readText_286 hD k11 hk11 a0 s0 x4 w r h)
def Rd_readText_225 (k11 : Nat → Int → Int → Wd → Option (Int × Wd)) (a0 : Nat) (x4 : Int) (w : Wd) : Option (Int × Wd) :=
  Rd_readText_226 k11 a0 x4 0 w
theorem s_Rd_readText_225 {g : Gp} {l : Launch} {D : Nat} (hD : 103 ≤ D) (k11 : Nat → Int → Int → Wd → Option (Int × Wd)) (hk11 : ∀ (a0 : Nat) (x3 : Int) (x4 : Int) (w : Wd) (r : Int × Wd), k11 a0 x3 x4 w = some r → Rn g l D 55 11 [(0, .inr (.inr a0)), (3, .inl x3), (4, .inl x4)] [] w (some (.inl r.1)) r.2) (a0 : Nat) (x4 : Int) (w : Wd) (r : Int × Wd) (h : Rd_readText_225 k11 a0 x4 w = some r) : Rn g l D 55 225 [(0, .inr (.inr a0)), (4, .inl x4)] [] w (some (.inl r.1)) r.2 := by
  unfold Rd_readText_225 at h
  refine rn_iconst i55_225 ?_
  exact rn_sub [0, 1] rfl (s_Rd_readText_226 hD k11 hk11 a0 x4 0 w r h)
def Rd_readText_251 (k11 : Nat → Int → Int → Wd → Option (Int × Wd)) (a0 : Nat) (x4 : Int) (s0 : Int) (w : Wd) : Option (Int × Wd) :=
  Rd_readText_286 k11 a0 s0 x4 w
theorem s_Rd_readText_251 {g : Gp} {l : Launch} {D : Nat} (hD : 103 ≤ D) (k11 : Nat → Int → Int → Wd → Option (Int × Wd)) (hk11 : ∀ (a0 : Nat) (x3 : Int) (x4 : Int) (w : Wd) (r : Int × Wd), k11 a0 x3 x4 w = some r → Rn g l D 55 11 [(0, .inr (.inr a0)), (3, .inl x3), (4, .inl x4)] [] w (some (.inl r.1)) r.2) (a0 : Nat) (x4 : Int) (s0 : Int) (w : Wd) (r : Int × Wd) (h : Rd_readText_251 k11 a0 x4 s0 w = some r) : Rn g l D 55 251 [(0, .inr (.inr a0)), (4, .inl x4)] [.inl s0] w (some (.inl r.1)) r.2 := by
  unfold Rd_readText_251 at h
  refine rn_istore_n (ls1 := [(3, .inl s0), (0, .inr (.inr a0)), (4, .inl x4)]) i55_251 rfl ?_
  refine rn_goto i55_252 ?_
  exact rn_sub [1, 0, 2] rfl (s_Rd_readText_286 hD k11 hk11 a0 s0 x4 w r h)
def Rd_readText_250 (k11 : Nat → Int → Int → Wd → Option (Int × Wd)) (a0 : Nat) (x4 : Int) (w : Wd) : Option (Int × Wd) :=
  Rd_readText_251 k11 a0 x4 0 w
theorem s_Rd_readText_250 {g : Gp} {l : Launch} {D : Nat} (hD : 103 ≤ D) (k11 : Nat → Int → Int → Wd → Option (Int × Wd)) (hk11 : ∀ (a0 : Nat) (x3 : Int) (x4 : Int) (w : Wd) (r : Int × Wd), k11 a0 x3 x4 w = some r → Rn g l D 55 11 [(0, .inr (.inr a0)), (3, .inl x3), (4, .inl x4)] [] w (some (.inl r.1)) r.2) (a0 : Nat) (x4 : Int) (w : Wd) (r : Int × Wd) (h : Rd_readText_250 k11 a0 x4 w = some r) : Rn g l D 55 250 [(0, .inr (.inr a0)), (4, .inl x4)] [] w (some (.inl r.1)) r.2 := by
  unfold Rd_readText_250 at h
  refine rn_iconst i55_250 ?_
  exact rn_sub [0, 1] rfl (s_Rd_readText_251 hD k11 hk11 a0 x4 0 w r h)
def Rd_readText_276 (k11 : Nat → Int → Int → Wd → Option (Int × Wd)) (a0 : Nat) (x4 : Int) (s0 : Int) (w : Wd) : Option (Int × Wd) :=
  Rd_readText_286 k11 a0 s0 x4 w
theorem s_Rd_readText_276 {g : Gp} {l : Launch} {D : Nat} (hD : 103 ≤ D) (k11 : Nat → Int → Int → Wd → Option (Int × Wd)) (hk11 : ∀ (a0 : Nat) (x3 : Int) (x4 : Int) (w : Wd) (r : Int × Wd), k11 a0 x3 x4 w = some r → Rn g l D 55 11 [(0, .inr (.inr a0)), (3, .inl x3), (4, .inl x4)] [] w (some (.inl r.1)) r.2) (a0 : Nat) (x4 : Int) (s0 : Int) (w : Wd) (r : Int × Wd) (h : Rd_readText_276 k11 a0 x4 s0 w = some r) : Rn g l D 55 276 [(0, .inr (.inr a0)), (4, .inl x4)] [.inl s0] w (some (.inl r.1)) r.2 := by
  unfold Rd_readText_276 at h
  refine rn_istore_n (ls1 := [(3, .inl s0), (0, .inr (.inr a0)), (4, .inl x4)]) i55_276 rfl ?_
  refine rn_goto i55_277 ?_
  exact rn_sub [1, 0, 2] rfl (s_Rd_readText_286 hD k11 hk11 a0 s0 x4 w r h)
def Rd_readText_275 (k11 : Nat → Int → Int → Wd → Option (Int × Wd)) (a0 : Nat) (x4 : Int) (w : Wd) : Option (Int × Wd) :=
  Rd_readText_276 k11 a0 x4 0 w
theorem s_Rd_readText_275 {g : Gp} {l : Launch} {D : Nat} (hD : 103 ≤ D) (k11 : Nat → Int → Int → Wd → Option (Int × Wd)) (hk11 : ∀ (a0 : Nat) (x3 : Int) (x4 : Int) (w : Wd) (r : Int × Wd), k11 a0 x3 x4 w = some r → Rn g l D 55 11 [(0, .inr (.inr a0)), (3, .inl x3), (4, .inl x4)] [] w (some (.inl r.1)) r.2) (a0 : Nat) (x4 : Int) (w : Wd) (r : Int × Wd) (h : Rd_readText_275 k11 a0 x4 w = some r) : Rn g l D 55 275 [(0, .inr (.inr a0)), (4, .inl x4)] [] w (some (.inl r.1)) r.2 := by
  unfold Rd_readText_275 at h
  refine rn_iconst i55_275 ?_
  exact rn_sub [0, 1] rfl (s_Rd_readText_276 hD k11 hk11 a0 x4 0 w r h)
def Rd_readText_292 (a0 : Nat) (w : Wd) : Option (Int × Wd) :=
  (fgI w a0 6 2).bind fun v293 =>
  some (v293, w)
theorem s_Rd_readText_292 {g : Gp} {l : Launch} {D : Nat} (hD : 103 ≤ D) (a0 : Nat) (w : Wd) (r : Int × Wd) (h : Rd_readText_292 a0 w = some r) : Rn g l D 55 292 [(0, .inr (.inr a0))] [] w (some (.inl r.1)) r.2 := by
  unfold Rd_readText_292 at h
  refine fr_aload_n i55_292 rfl ?_
  obtain ⟨v293, h293, h⟩ := Option.bind_eq_some_iff.mp h
  refine fr_gI (k := 2) i55_293 tf6_2 h293 ?_
  obtain rfl := Option.some.inj h
  exact rn_retI i55_296 mr55
def Rd_readText_11 : Nat → Nat → Int → Int → Wd → Option (Int × Wd)
  | 0, _, _, _, _ => none
  | n + 1, a0, x3, x4, w =>
    if (400 : Int) < x4 then
      Rd_readText_292 a0 w
    else
      if (x3 : Int) = 0 then
        Rd_readText_292 a0 w
      else
        (fgI w a0 6 6).bind fun v24 =>
        if (v24 : Int) = 0 then
          Rd_readText_292 a0 w
        else
          (fgI w a0 6 6).bind fun v31 =>
          if (v31 : Int) = 256 then
            (Rd_takeLetter a0 w).bind fun r81 =>
            if (r81.1 : Int) = 0 then
              Rd_readText_100 (Rd_readText_11 n) a0 x4 r81.2
            else
              (Rd_take a0 59 r81.2).bind fun r90 =>
              if (r90.1 : Int) = 0 then
                Rd_readText_100 (Rd_readText_11 n) a0 x4 r90.2
              else
                Rd_readText_101 (Rd_readText_11 n) a0 x4 1 r90.2
          else
            if (v31 : Int) = 257 then
              (Rd_takeHeir a0 w).bind fun r106 =>
              if (r106.1 : Int) = 0 then
                Rd_readText_125 (Rd_readText_11 n) a0 x4 r106.2
              else
                (Rd_take a0 59 r106.2).bind fun r115 =>
                if (r115.1 : Int) = 0 then
                  Rd_readText_125 (Rd_readText_11 n) a0 x4 r115.2
                else
                  Rd_readText_126 (Rd_readText_11 n) a0 x4 1 r115.2
            else
              if (v31 : Int) = 258 then
                (Rd_takeMaster a0 w).bind fun r131 =>
                if (r131.1 : Int) = 0 then
                  Rd_readText_150 (Rd_readText_11 n) a0 x4 r131.2
                else
                  (Rd_take a0 59 r131.2).bind fun r140 =>
                  if (r140.1 : Int) = 0 then
                    Rd_readText_150 (Rd_readText_11 n) a0 x4 r140.2
                  else
                    Rd_readText_151 (Rd_readText_11 n) a0 x4 1 r140.2
              else
                if (v31 : Int) = 259 then
                  (Rd_takeLearn a0 w).bind fun r156 =>
                  if (r156.1 : Int) = 0 then
                    Rd_readText_175 (Rd_readText_11 n) a0 x4 r156.2
                  else
                    (Rd_take a0 59 r156.2).bind fun r165 =>
                    if (r165.1 : Int) = 0 then
                      Rd_readText_175 (Rd_readText_11 n) a0 x4 r165.2
                    else
                      Rd_readText_176 (Rd_readText_11 n) a0 x4 1 r165.2
                else
                  if (v31 : Int) = 260 then
                    (Rd_takeDrift a0 w).bind fun r181 =>
                    if (r181.1 : Int) = 0 then
                      Rd_readText_200 (Rd_readText_11 n) a0 x4 r181.2
                    else
                      (Rd_take a0 59 r181.2).bind fun r190 =>
                      if (r190.1 : Int) = 0 then
                        Rd_readText_200 (Rd_readText_11 n) a0 x4 r190.2
                      else
                        Rd_readText_201 (Rd_readText_11 n) a0 x4 1 r190.2
                  else
                    if (v31 : Int) = 261 then
                      (Rd_takeDays a0 w).bind fun r206 =>
                      if (r206.1 : Int) = 0 then
                        Rd_readText_225 (Rd_readText_11 n) a0 x4 r206.2
                      else
                        (Rd_take a0 59 r206.2).bind fun r215 =>
                        if (r215.1 : Int) = 0 then
                          Rd_readText_225 (Rd_readText_11 n) a0 x4 r215.2
                        else
                          Rd_readText_226 (Rd_readText_11 n) a0 x4 1 r215.2
                    else
                      if (v31 : Int) = 262 then
                        (Rd_takeLimit a0 w).bind fun r231 =>
                        if (r231.1 : Int) = 0 then
                          Rd_readText_250 (Rd_readText_11 n) a0 x4 r231.2
                        else
                          (Rd_take a0 59 r231.2).bind fun r240 =>
                          if (r240.1 : Int) = 0 then
                            Rd_readText_250 (Rd_readText_11 n) a0 x4 r240.2
                          else
                            Rd_readText_251 (Rd_readText_11 n) a0 x4 1 r240.2
                      else
                        if (v31 : Int) = 263 then
                          (Rd_takeSeed a0 w).bind fun r256 =>
                          if (r256.1 : Int) = 0 then
                            Rd_readText_275 (Rd_readText_11 n) a0 x4 r256.2
                          else
                            (Rd_take a0 59 r256.2).bind fun r265 =>
                            if (r265.1 : Int) = 0 then
                              Rd_readText_275 (Rd_readText_11 n) a0 x4 r265.2
                            else
                              Rd_readText_276 (Rd_readText_11 n) a0 x4 1 r265.2
                        else
                          (Rd_refuse a0 1 w).bind fun r282 =>
                          Rd_readText_286 (Rd_readText_11 n) a0 r282.1 x4 r282.2
theorem s_Rd_readText_11 {g : Gp} {l : Launch} {D : Nat} (hD : 103 ≤ D) : ∀ (n : Nat) (a0 : Nat) (x3 : Int) (x4 : Int) (w : Wd) (r : Int × Wd), Rd_readText_11 n a0 x3 x4 w = some r → Rn g l D 55 11 [(0, .inr (.inr a0)), (3, .inl x3), (4, .inl x4)] [] w (some (.inl r.1)) r.2 := by
  obtain ⟨D, rfl⟩ : ∃ D1, D = D1 + 1 := ⟨D - 1, by omega⟩
  intro n
  induction n with
  | zero => intro a0 x3 x4 w r h; cases (show (none : Option (Int × Wd)) = some r from h)
  | succ n ih =>
    intro a0 x3 x4 w r h
    unfold Rd_readText_11 at h
    refine rn_iload i55_11 rfl ?_
    refine rn_sipush i55_13 ?_
    by_cases c16 : (400 : Int) < x4
    · rw [if_pos c16] at h
      refine rn_icmp_gt_t i55_16 c16 ?_
      exact rn_sub [0] rfl (s_Rd_readText_292 hD a0 w r h)
    · rw [if_neg c16] at h
      refine rn_icmp_gt_f i55_16 c16 ?_
      refine rn_iload_n i55_19 rfl ?_
      by_cases c20 : (x3 : Int) = 0
      · rw [if_pos c20] at h
        refine rn_if_eq_t i55_20 c20 ?_
        exact rn_sub [0] rfl (s_Rd_readText_292 hD a0 w r h)
      · rw [if_neg c20] at h
        refine rn_if_eq_f i55_20 c20 ?_
        refine fr_aload_n i55_23 rfl ?_
        obtain ⟨v24, h24, h⟩ := Option.bind_eq_some_iff.mp h
        refine fr_gI (k := 6) i55_24 tf6_6 h24 ?_
        by_cases c27 : (v24 : Int) = 0
        · rw [if_pos c27] at h
          refine rn_if_eq_t i55_27 c27 ?_
          exact rn_sub [0] rfl (s_Rd_readText_292 hD a0 w r h)
        · rw [if_neg c27] at h
          refine rn_if_eq_f i55_27 c27 ?_
          refine fr_aload_n i55_30 rfl ?_
          obtain ⟨v31, h31, h⟩ := Option.bind_eq_some_iff.mp h
          refine fr_gI (k := 6) i55_31 tf6_6 h31 ?_
          by_cases c34_0 : (v31 : Int) = 256
          · rw [if_pos c34_0] at h
            refine rn_tsw_in (tgt := 80) i55_34 0 (by omega) (by omega) rfl rfl ?_
            refine fr_aload_n i55_80 rfl ?_
            obtain ⟨r81, h81, h⟩ := Option.bind_eq_some_iff.mp h
            obtain ⟨g81, c81⟩ := S_Rd_takeLetter a0 w r81 h81
            refine fr_callV (a := a0) (As := []) (st := []) i55_81 (cq61 a0) rfl (Nat.le_of_ble_eq_true rfl) g81 (c81 _ (by omega)) ?_
            show Rn _ _ _ _ _ _ [.inl r81.1] _ _ _
            by_cases c84 : (r81.1 : Int) = 0
            · rw [if_pos c84] at h
              refine rn_if_eq_t i55_84 c84 ?_
              exact rn_sub [0, 2] rfl (s_Rd_readText_100 hD (Rd_readText_11 n) ih a0 x4 r81.2 r h)
            · rw [if_neg c84] at h
              refine rn_if_eq_f i55_84 c84 ?_
              refine fr_aload_n i55_87 rfl ?_
              refine rn_bipush i55_88 ?_
              obtain ⟨r90, h90, h⟩ := Option.bind_eq_some_iff.mp h
              obtain ⟨g90, c90⟩ := S_Rd_take a0 59 r81.2 r90 h90
              refine fr_callV (a := a0) (As := [.inl 59]) (st := []) i55_90 (cq60 a0 59) rfl (Nat.le_of_ble_eq_true rfl) g90 (c90 _ (by omega)) ?_
              show Rn _ _ _ _ _ _ [.inl r90.1] _ _ _
              by_cases c93 : (r90.1 : Int) = 0
              · rw [if_pos c93] at h
                refine rn_if_eq_t i55_93 c93 ?_
                exact rn_sub [0, 2] rfl (s_Rd_readText_100 hD (Rd_readText_11 n) ih a0 x4 r90.2 r h)
              · rw [if_neg c93] at h
                refine rn_if_eq_f i55_93 c93 ?_
                refine rn_iconst i55_96 ?_
                refine rn_goto i55_97 ?_
                exact rn_sub [0, 2] rfl (s_Rd_readText_101 hD (Rd_readText_11 n) ih a0 x4 1 r90.2 r h)
          · rw [if_neg c34_0] at h
            by_cases c34_1 : (v31 : Int) = 257
            · rw [if_pos c34_1] at h
              refine rn_tsw_in (tgt := 105) i55_34 1 (by omega) (by omega) rfl rfl ?_
              refine fr_aload_n i55_105 rfl ?_
              obtain ⟨r106, h106, h⟩ := Option.bind_eq_some_iff.mp h
              obtain ⟨g106, c106⟩ := S_Rd_takeHeir a0 w r106 h106
              refine fr_callV (a := a0) (As := []) (st := []) i55_106 (cq62 a0) rfl (Nat.le_of_ble_eq_true rfl) g106 (c106 _ (by omega)) ?_
              show Rn _ _ _ _ _ _ [.inl r106.1] _ _ _
              by_cases c109 : (r106.1 : Int) = 0
              · rw [if_pos c109] at h
                refine rn_if_eq_t i55_109 c109 ?_
                exact rn_sub [0, 2] rfl (s_Rd_readText_125 hD (Rd_readText_11 n) ih a0 x4 r106.2 r h)
              · rw [if_neg c109] at h
                refine rn_if_eq_f i55_109 c109 ?_
                refine fr_aload_n i55_112 rfl ?_
                refine rn_bipush i55_113 ?_
                obtain ⟨r115, h115, h⟩ := Option.bind_eq_some_iff.mp h
                obtain ⟨g115, c115⟩ := S_Rd_take a0 59 r106.2 r115 h115
                refine fr_callV (a := a0) (As := [.inl 59]) (st := []) i55_115 (cq60 a0 59) rfl (Nat.le_of_ble_eq_true rfl) g115 (c115 _ (by omega)) ?_
                show Rn _ _ _ _ _ _ [.inl r115.1] _ _ _
                by_cases c118 : (r115.1 : Int) = 0
                · rw [if_pos c118] at h
                  refine rn_if_eq_t i55_118 c118 ?_
                  exact rn_sub [0, 2] rfl (s_Rd_readText_125 hD (Rd_readText_11 n) ih a0 x4 r115.2 r h)
                · rw [if_neg c118] at h
                  refine rn_if_eq_f i55_118 c118 ?_
                  refine rn_iconst i55_121 ?_
                  refine rn_goto i55_122 ?_
                  exact rn_sub [0, 2] rfl (s_Rd_readText_126 hD (Rd_readText_11 n) ih a0 x4 1 r115.2 r h)
            · rw [if_neg c34_1] at h
              by_cases c34_2 : (v31 : Int) = 258
              · rw [if_pos c34_2] at h
                refine rn_tsw_in (tgt := 130) i55_34 2 (by omega) (by omega) rfl rfl ?_
                refine fr_aload_n i55_130 rfl ?_
                obtain ⟨r131, h131, h⟩ := Option.bind_eq_some_iff.mp h
                obtain ⟨g131, c131⟩ := S_Rd_takeMaster a0 w r131 h131
                refine fr_callV (a := a0) (As := []) (st := []) i55_131 (cq63 a0) rfl (Nat.le_of_ble_eq_true rfl) g131 (c131 _ (by omega)) ?_
                show Rn _ _ _ _ _ _ [.inl r131.1] _ _ _
                by_cases c134 : (r131.1 : Int) = 0
                · rw [if_pos c134] at h
                  refine rn_if_eq_t i55_134 c134 ?_
                  exact rn_sub [0, 2] rfl (s_Rd_readText_150 hD (Rd_readText_11 n) ih a0 x4 r131.2 r h)
                · rw [if_neg c134] at h
                  refine rn_if_eq_f i55_134 c134 ?_
                  refine fr_aload_n i55_137 rfl ?_
                  refine rn_bipush i55_138 ?_
                  obtain ⟨r140, h140, h⟩ := Option.bind_eq_some_iff.mp h
                  obtain ⟨g140, c140⟩ := S_Rd_take a0 59 r131.2 r140 h140
                  refine fr_callV (a := a0) (As := [.inl 59]) (st := []) i55_140 (cq60 a0 59) rfl (Nat.le_of_ble_eq_true rfl) g140 (c140 _ (by omega)) ?_
                  show Rn _ _ _ _ _ _ [.inl r140.1] _ _ _
                  by_cases c143 : (r140.1 : Int) = 0
                  · rw [if_pos c143] at h
                    refine rn_if_eq_t i55_143 c143 ?_
                    exact rn_sub [0, 2] rfl (s_Rd_readText_150 hD (Rd_readText_11 n) ih a0 x4 r140.2 r h)
                  · rw [if_neg c143] at h
                    refine rn_if_eq_f i55_143 c143 ?_
                    refine rn_iconst i55_146 ?_
                    refine rn_goto i55_147 ?_
                    exact rn_sub [0, 2] rfl (s_Rd_readText_151 hD (Rd_readText_11 n) ih a0 x4 1 r140.2 r h)
              · rw [if_neg c34_2] at h
                by_cases c34_3 : (v31 : Int) = 259
                · rw [if_pos c34_3] at h
                  refine rn_tsw_in (tgt := 155) i55_34 3 (by omega) (by omega) rfl rfl ?_
                  refine fr_aload_n i55_155 rfl ?_
                  obtain ⟨r156, h156, h⟩ := Option.bind_eq_some_iff.mp h
                  obtain ⟨g156, c156⟩ := S_Rd_takeLearn a0 w r156 h156
                  refine fr_callV (a := a0) (As := []) (st := []) i55_156 (cq64 a0) rfl (Nat.le_of_ble_eq_true rfl) g156 (c156 _ (by omega)) ?_
                  show Rn _ _ _ _ _ _ [.inl r156.1] _ _ _
                  by_cases c159 : (r156.1 : Int) = 0
                  · rw [if_pos c159] at h
                    refine rn_if_eq_t i55_159 c159 ?_
                    exact rn_sub [0, 2] rfl (s_Rd_readText_175 hD (Rd_readText_11 n) ih a0 x4 r156.2 r h)
                  · rw [if_neg c159] at h
                    refine rn_if_eq_f i55_159 c159 ?_
                    refine fr_aload_n i55_162 rfl ?_
                    refine rn_bipush i55_163 ?_
                    obtain ⟨r165, h165, h⟩ := Option.bind_eq_some_iff.mp h
                    obtain ⟨g165, c165⟩ := S_Rd_take a0 59 r156.2 r165 h165
                    refine fr_callV (a := a0) (As := [.inl 59]) (st := []) i55_165 (cq60 a0 59) rfl (Nat.le_of_ble_eq_true rfl) g165 (c165 _ (by omega)) ?_
                    show Rn _ _ _ _ _ _ [.inl r165.1] _ _ _
                    by_cases c168 : (r165.1 : Int) = 0
                    · rw [if_pos c168] at h
                      refine rn_if_eq_t i55_168 c168 ?_
                      exact rn_sub [0, 2] rfl (s_Rd_readText_175 hD (Rd_readText_11 n) ih a0 x4 r165.2 r h)
                    · rw [if_neg c168] at h
                      refine rn_if_eq_f i55_168 c168 ?_
                      refine rn_iconst i55_171 ?_
                      refine rn_goto i55_172 ?_
                      exact rn_sub [0, 2] rfl (s_Rd_readText_176 hD (Rd_readText_11 n) ih a0 x4 1 r165.2 r h)
                · rw [if_neg c34_3] at h
                  by_cases c34_4 : (v31 : Int) = 260
                  · rw [if_pos c34_4] at h
                    refine rn_tsw_in (tgt := 180) i55_34 4 (by omega) (by omega) rfl rfl ?_
                    refine fr_aload_n i55_180 rfl ?_
                    obtain ⟨r181, h181, h⟩ := Option.bind_eq_some_iff.mp h
                    obtain ⟨g181, c181⟩ := S_Rd_takeDrift a0 w r181 h181
                    refine fr_callV (a := a0) (As := []) (st := []) i55_181 (cq66 a0) rfl (Nat.le_of_ble_eq_true rfl) g181 (c181 _ (by omega)) ?_
                    show Rn _ _ _ _ _ _ [.inl r181.1] _ _ _
                    by_cases c184 : (r181.1 : Int) = 0
                    · rw [if_pos c184] at h
                      refine rn_if_eq_t i55_184 c184 ?_
                      exact rn_sub [0, 2] rfl (s_Rd_readText_200 hD (Rd_readText_11 n) ih a0 x4 r181.2 r h)
                    · rw [if_neg c184] at h
                      refine rn_if_eq_f i55_184 c184 ?_
                      refine fr_aload_n i55_187 rfl ?_
                      refine rn_bipush i55_188 ?_
                      obtain ⟨r190, h190, h⟩ := Option.bind_eq_some_iff.mp h
                      obtain ⟨g190, c190⟩ := S_Rd_take a0 59 r181.2 r190 h190
                      refine fr_callV (a := a0) (As := [.inl 59]) (st := []) i55_190 (cq60 a0 59) rfl (Nat.le_of_ble_eq_true rfl) g190 (c190 _ (by omega)) ?_
                      show Rn _ _ _ _ _ _ [.inl r190.1] _ _ _
                      by_cases c193 : (r190.1 : Int) = 0
                      · rw [if_pos c193] at h
                        refine rn_if_eq_t i55_193 c193 ?_
                        exact rn_sub [0, 2] rfl (s_Rd_readText_200 hD (Rd_readText_11 n) ih a0 x4 r190.2 r h)
                      · rw [if_neg c193] at h
                        refine rn_if_eq_f i55_193 c193 ?_
                        refine rn_iconst i55_196 ?_
                        refine rn_goto i55_197 ?_
                        exact rn_sub [0, 2] rfl (s_Rd_readText_201 hD (Rd_readText_11 n) ih a0 x4 1 r190.2 r h)
                  · rw [if_neg c34_4] at h
                    by_cases c34_5 : (v31 : Int) = 261
                    · rw [if_pos c34_5] at h
                      refine rn_tsw_in (tgt := 205) i55_34 5 (by omega) (by omega) rfl rfl ?_
                      refine fr_aload_n i55_205 rfl ?_
                      obtain ⟨r206, h206, h⟩ := Option.bind_eq_some_iff.mp h
                      obtain ⟨g206, c206⟩ := S_Rd_takeDays a0 w r206 h206
                      refine fr_callV (a := a0) (As := []) (st := []) i55_206 (cq67 a0) rfl (Nat.le_of_ble_eq_true rfl) g206 (c206 _ (by omega)) ?_
                      show Rn _ _ _ _ _ _ [.inl r206.1] _ _ _
                      by_cases c209 : (r206.1 : Int) = 0
                      · rw [if_pos c209] at h
                        refine rn_if_eq_t i55_209 c209 ?_
                        exact rn_sub [0, 2] rfl (s_Rd_readText_225 hD (Rd_readText_11 n) ih a0 x4 r206.2 r h)
                      · rw [if_neg c209] at h
                        refine rn_if_eq_f i55_209 c209 ?_
                        refine fr_aload_n i55_212 rfl ?_
                        refine rn_bipush i55_213 ?_
                        obtain ⟨r215, h215, h⟩ := Option.bind_eq_some_iff.mp h
                        obtain ⟨g215, c215⟩ := S_Rd_take a0 59 r206.2 r215 h215
                        refine fr_callV (a := a0) (As := [.inl 59]) (st := []) i55_215 (cq60 a0 59) rfl (Nat.le_of_ble_eq_true rfl) g215 (c215 _ (by omega)) ?_
                        show Rn _ _ _ _ _ _ [.inl r215.1] _ _ _
                        by_cases c218 : (r215.1 : Int) = 0
                        · rw [if_pos c218] at h
                          refine rn_if_eq_t i55_218 c218 ?_
                          exact rn_sub [0, 2] rfl (s_Rd_readText_225 hD (Rd_readText_11 n) ih a0 x4 r215.2 r h)
                        · rw [if_neg c218] at h
                          refine rn_if_eq_f i55_218 c218 ?_
                          refine rn_iconst i55_221 ?_
                          refine rn_goto i55_222 ?_
                          exact rn_sub [0, 2] rfl (s_Rd_readText_226 hD (Rd_readText_11 n) ih a0 x4 1 r215.2 r h)
                    · rw [if_neg c34_5] at h
                      by_cases c34_6 : (v31 : Int) = 262
                      · rw [if_pos c34_6] at h
                        refine rn_tsw_in (tgt := 230) i55_34 6 (by omega) (by omega) rfl rfl ?_
                        refine fr_aload_n i55_230 rfl ?_
                        obtain ⟨r231, h231, h⟩ := Option.bind_eq_some_iff.mp h
                        obtain ⟨g231, c231⟩ := S_Rd_takeLimit a0 w r231 h231
                        refine fr_callV (a := a0) (As := []) (st := []) i55_231 (cq68 a0) rfl (Nat.le_of_ble_eq_true rfl) g231 (c231 _ (by omega)) ?_
                        show Rn _ _ _ _ _ _ [.inl r231.1] _ _ _
                        by_cases c234 : (r231.1 : Int) = 0
                        · rw [if_pos c234] at h
                          refine rn_if_eq_t i55_234 c234 ?_
                          exact rn_sub [0, 2] rfl (s_Rd_readText_250 hD (Rd_readText_11 n) ih a0 x4 r231.2 r h)
                        · rw [if_neg c234] at h
                          refine rn_if_eq_f i55_234 c234 ?_
                          refine fr_aload_n i55_237 rfl ?_
                          refine rn_bipush i55_238 ?_
                          obtain ⟨r240, h240, h⟩ := Option.bind_eq_some_iff.mp h
                          obtain ⟨g240, c240⟩ := S_Rd_take a0 59 r231.2 r240 h240
                          refine fr_callV (a := a0) (As := [.inl 59]) (st := []) i55_240 (cq60 a0 59) rfl (Nat.le_of_ble_eq_true rfl) g240 (c240 _ (by omega)) ?_
                          show Rn _ _ _ _ _ _ [.inl r240.1] _ _ _
                          by_cases c243 : (r240.1 : Int) = 0
                          · rw [if_pos c243] at h
                            refine rn_if_eq_t i55_243 c243 ?_
                            exact rn_sub [0, 2] rfl (s_Rd_readText_250 hD (Rd_readText_11 n) ih a0 x4 r240.2 r h)
                          · rw [if_neg c243] at h
                            refine rn_if_eq_f i55_243 c243 ?_
                            refine rn_iconst i55_246 ?_
                            refine rn_goto i55_247 ?_
                            exact rn_sub [0, 2] rfl (s_Rd_readText_251 hD (Rd_readText_11 n) ih a0 x4 1 r240.2 r h)
                      · rw [if_neg c34_6] at h
                        by_cases c34_7 : (v31 : Int) = 263
                        · rw [if_pos c34_7] at h
                          refine rn_tsw_in (tgt := 255) i55_34 7 (by omega) (by omega) rfl rfl ?_
                          refine fr_aload_n i55_255 rfl ?_
                          obtain ⟨r256, h256, h⟩ := Option.bind_eq_some_iff.mp h
                          obtain ⟨g256, c256⟩ := S_Rd_takeSeed a0 w r256 h256
                          refine fr_callV (a := a0) (As := []) (st := []) i55_256 (cq69 a0) rfl (Nat.le_of_ble_eq_true rfl) g256 (c256 _ (by omega)) ?_
                          show Rn _ _ _ _ _ _ [.inl r256.1] _ _ _
                          by_cases c259 : (r256.1 : Int) = 0
                          · rw [if_pos c259] at h
                            refine rn_if_eq_t i55_259 c259 ?_
                            exact rn_sub [0, 2] rfl (s_Rd_readText_275 hD (Rd_readText_11 n) ih a0 x4 r256.2 r h)
                          · rw [if_neg c259] at h
                            refine rn_if_eq_f i55_259 c259 ?_
                            refine fr_aload_n i55_262 rfl ?_
                            refine rn_bipush i55_263 ?_
                            obtain ⟨r265, h265, h⟩ := Option.bind_eq_some_iff.mp h
                            obtain ⟨g265, c265⟩ := S_Rd_take a0 59 r256.2 r265 h265
                            refine fr_callV (a := a0) (As := [.inl 59]) (st := []) i55_265 (cq60 a0 59) rfl (Nat.le_of_ble_eq_true rfl) g265 (c265 _ (by omega)) ?_
                            show Rn _ _ _ _ _ _ [.inl r265.1] _ _ _
                            by_cases c268 : (r265.1 : Int) = 0
                            · rw [if_pos c268] at h
                              refine rn_if_eq_t i55_268 c268 ?_
                              exact rn_sub [0, 2] rfl (s_Rd_readText_275 hD (Rd_readText_11 n) ih a0 x4 r265.2 r h)
                            · rw [if_neg c268] at h
                              refine rn_if_eq_f i55_268 c268 ?_
                              refine rn_iconst i55_271 ?_
                              refine rn_goto i55_272 ?_
                              exact rn_sub [0, 2] rfl (s_Rd_readText_276 hD (Rd_readText_11 n) ih a0 x4 1 r265.2 r h)
                        · rw [if_neg c34_7] at h
                          refine rn_tsw_out (tgt := 280) i55_34 (by omega) rfl ?_
                          refine fr_aload_n i55_280 rfl ?_
                          refine rn_iconst i55_281 ?_
                          obtain ⟨r282, h282, h⟩ := Option.bind_eq_some_iff.mp h
                          obtain ⟨g282, c282⟩ := S_Rd_refuse a0 1 w r282 h282
                          refine fr_callV (a := a0) (As := [.inl 1]) (st := []) i55_282 (cq57 a0 1) rfl (Nat.le_of_ble_eq_true rfl) g282 (c282 _ (by omega)) ?_
                          show Rn _ _ _ _ _ _ [.inl r282.1] _ _ _
                          refine rn_istore_n (ls1 := [(3, .inl r282.1), (0, .inr (.inr a0)), (4, .inl x4)]) i55_285 rfl ?_
                          exact rn_sub [1, 0, 2] rfl (s_Rd_readText_286 hD (Rd_readText_11 n) ih a0 r282.1 x4 r282.2 r h)
def Rd_readText_0 (a0 : Nat) (a1 : Nat) (x2 : Int) (w : Wd) : Option (Int × Wd) :=
  (Rd_open a0 a1 x2 w).bind fun r3 =>
  Rd_readText_11 FU a0 1 0 r3
theorem s_Rd_readText_0 {g : Gp} {l : Launch} {D : Nat} (hD : 103 ≤ D) (a0 : Nat) (a1 : Nat) (x2 : Int) (w : Wd) (r : Int × Wd) (h : Rd_readText_0 a0 a1 x2 w = some r) : Rn g l D 55 0 [(0, .inr (.inr a0)), (1, .inr (.inr a1)), (2, .inl x2)] [] w (some (.inl r.1)) r.2 := by
  obtain ⟨D, rfl⟩ : ∃ D1, D = D1 + 1 := ⟨D - 1, by omega⟩
  unfold Rd_readText_0 at h
  refine fr_aload_n i55_0 rfl ?_
  refine fr_aload_n i55_1 rfl ?_
  refine rn_iload_n i55_2 rfl ?_
  obtain ⟨r3, h3, h⟩ := Option.bind_eq_some_iff.mp h
  obtain ⟨g3, c3⟩ := S_Rd_open a0 a1 x2 w r3 h3
  refine fr_callV (a := a0) (As := [.inr (.inr a1), .inl x2]) (st := []) i55_3 (cq56 a0 a1 x2) rfl (Nat.le_of_ble_eq_true rfl) g3 (c3 _ (by omega)) ?_
  refine rn_iconst i55_6 ?_
  refine rn_istore_n (ls1 := [(3, .inl 1), (0, .inr (.inr a0)), (1, .inr (.inr a1)), (2, .inl x2)]) i55_7 rfl ?_
  refine rn_iconst i55_8 ?_
  refine rn_istore (ls1 := [(4, .inl 0), (3, .inl 1), (0, .inr (.inr a0)), (1, .inr (.inr a1)), (2, .inl x2)]) i55_9 rfl ?_
  exact rn_sub [2, 1, 0] rfl (s_Rd_readText_11 hD FU a0 1 0 r3 r h)
/-- HandHeirs$Reader.readText([BI)I -/
def Rd_readText (a0 : Nat) (a1 : Nat) (x2 : Int) (w : Wd) : Option (Int × Wd) := gd 6 w a0 (Rd_readText_0 a0 a1 x2 w)
theorem S_Rd_readText {g : Gp} {l : Launch} (a0 : Nat) (a1 : Nat) (x2 : Int) (w : Wd) (r : Int × Wd) (h : Rd_readText a0 a1 x2 w = some r) : (wsh w a0).1 = 6 ∧ ∀ D, 103 ≤ D → Rn g l D 55 0 [(0, .inr (.inr a0)), (1, .inr (.inr a1)), (2, .inl x2)] [] w (some (.inl r.1)) r.2 := by
  obtain ⟨hg, h⟩ := gd_some h
  exact ⟨hg, fun D hD => rn_sub [0, 1, 2] rfl (s_Rd_readText_0 hD a0 a1 x2 w r h)⟩
def Sl_init_0 (a0 : Nat) (w : Wd) : Option (Wd) :=
  (tgd w a0 8).bind fun _ =>
  (fpZ w a0 8 0 0).bind fun w6 =>
  (St_init (wn w6) (nw w6 9 6)).bind fun r14 =>
  (fpR r14 a0 8 1 (wn w6)).bind fun w17 =>
  (Bk_init (wn w17) (nw w17 0 1)).bind fun r25 =>
  (fpR r25 a0 8 2 (wn w17)).bind fun w28 =>
  some w28
theorem s_Sl_init_0 {g : Gp} {l : Launch} {D : Nat} (hD : 2 ≤ D) (a0 : Nat) (w : Wd) (r : Wd) (h : Sl_init_0 a0 w = some r) : Rn g l D 86 0 [(0, .inr (.inr a0))] [] w none r := by
  obtain ⟨D, rfl⟩ : ∃ D1, D = D1 + 1 := ⟨D - 1, by omega⟩
  unfold Sl_init_0 at h
  refine fr_aload_n i86_0 rfl ?_
  obtain ⟨_, h1, h⟩ := Option.bind_eq_some_iff.mp h
  refine fr_objI i86_1 h1 (by decide) (Nat.le_of_ble_eq_true rfl) ?_
  refine fr_aload_n i86_4 rfl ?_
  refine rn_iconst i86_5 ?_
  obtain ⟨w6, h6, h⟩ := Option.bind_eq_some_iff.mp h
  refine fr_pZ (k := 0) i86_6 (pf8_0 86) h6 ?_
  refine fr_aload_n i86_9 rfl ?_
  refine rn_new i86_10 (by decide) ?_
  refine rn_dup i86_13 rfl ?_
  obtain ⟨r14, h14, h⟩ := Option.bind_eq_some_iff.mp h
  obtain ⟨g14, c14⟩ := S_St_init (wn w6) (nw w6 9 6) r14 h14
  refine fr_callI (nst := 1) (a := (wn w6)) (As := []) (st := [.inr (.inr (wn w6)), .inr (.inr a0)]) i86_14 (cq87 (wn w6)) rfl (Nat.le_of_ble_eq_true rfl) g14 (c14 _ (by omega)) ?_
  obtain ⟨w17, h17, h⟩ := Option.bind_eq_some_iff.mp h
  refine fr_pR (k := 1) i86_17 pf86_8_1 h17 ?_
  refine fr_aload_n i86_20 rfl ?_
  refine rn_new i86_21 (by decide) ?_
  refine rn_dup i86_24 rfl ?_
  obtain ⟨r25, h25, h⟩ := Option.bind_eq_some_iff.mp h
  obtain ⟨g25, c25⟩ := S_Bk_init (wn w17) (nw w17 0 1) r25 h25
  refine fr_callI (nst := 1) (a := (wn w17)) (As := []) (st := [.inr (.inr (wn w17)), .inr (.inr a0)]) i86_25 (cq15 (wn w17)) rfl (Nat.le_of_ble_eq_true rfl) g25 (c25 _ (by omega)) ?_
  obtain ⟨w28, h28, h⟩ := Option.bind_eq_some_iff.mp h
  refine fr_pR (k := 2) i86_28 pf86_8_2 h28 ?_
  obtain rfl := Option.some.inj h
  exact rn_ret i86_31 mr86
/-- HandHeirs$Slot.<init>()V -/
def Sl_init (a0 : Nat) (w : Wd) : Option (Wd) := gd 8 w a0 (Sl_init_0 a0 w)
theorem S_Sl_init {g : Gp} {l : Launch} (a0 : Nat) (w : Wd) (r : Wd) (h : Sl_init a0 w = some r) : (wsh w a0).1 = 8 ∧ ∀ D, 2 ≤ D → Rn g l D 86 0 [(0, .inr (.inr a0))] [] w none r := by
  obtain ⟨hg, h⟩ := gd_some h
  exact ⟨hg, fun D hD => rn_sub [0] rfl (s_Sl_init_0 hD a0 w r h)⟩
def St_begin_48 : Nat → Nat → Int → Wd → Option (Wd)
  | 0, _, _, _ => none
  | n + 1, a0, x2, w =>
    if (6 : Int) ≤ x2 then
      some w
    else
      (fgR w a0 9 5).bind fun v55 =>
      (wrI w v55 x2 0).bind fun w60 =>
      St_begin_48 n a0 (w32 (x2 + 1)) w60
theorem s_St_begin_48 {g : Gp} {l : Launch} {D : Nat} (hD : 1 ≤ D) : ∀ (n : Nat) (a0 : Nat) (x2 : Int) (w : Wd) (r : Wd), St_begin_48 n a0 x2 w = some r → Rn g l D 88 48 [(0, .inr (.inr a0)), (2, .inl x2)] [] w none r := by
  intro n
  induction n with
  | zero => intro a0 x2 w r h; cases (show (none : Option (Wd)) = some r from h)
  | succ n ih =>
    intro a0 x2 w r h
    unfold St_begin_48 at h
    refine rn_iload_n i88_48 rfl ?_
    refine rn_bipush i88_49 ?_
    by_cases c51 : (6 : Int) ≤ x2
    · rw [if_pos c51] at h
      refine rn_icmp_ge_t i88_51 c51 ?_
      obtain rfl := Option.some.inj h
      exact rn_ret i88_67 mr88
    · rw [if_neg c51] at h
      refine rn_icmp_ge_f i88_51 c51 ?_
      refine fr_aload_n i88_54 rfl ?_
      obtain ⟨v55, h55, h⟩ := Option.bind_eq_some_iff.mp h
      refine fr_gR (k := 5) i88_55 tf9_5 h55 ?_
      refine rn_iload_n i88_58 rfl ?_
      refine rn_iconst i88_59 ?_
      obtain ⟨w60, h60, h⟩ := Option.bind_eq_some_iff.mp h
      refine rn_iast i88_60 h60 ?_
      refine rn_iinc (ls1 := [(2, .inl (w32 (x2 + 1))), (0, .inr (.inr a0))]) i88_61 rfl rfl ?_
      refine rn_goto i88_64 ?_
      exact rn_sub [1, 0] rfl (ih a0 (w32 (x2 + 1)) w60 r h)
def St_begin_0 (a0 : Nat) (a1 : Nat) (w : Wd) : Option (Wd) :=
  (fpI w a0 9 0 0).bind fun w2 =>
  (fpI w2 a0 9 1 0).bind fun w7 =>
  (fpI w7 a0 9 2 (-2)).bind fun w13 =>
  (fgR w13 a1 10 7).bind fun v17 =>
  (fgR w13 a0 9 3).bind fun v22 =>
  (cpyI w13 v17 0 v22 0 6).bind fun w28 =>
  (fgR w28 a1 10 10).bind fun v32 =>
  (fgR w28 a0 9 4).bind fun v37 =>
  (cpyI w28 v32 0 v37 0 36).bind fun w43 =>
  St_begin_48 FU a0 0 w43
theorem s_St_begin_0 {g : Gp} {l : Launch} {D : Nat} (hD : 1 ≤ D) (a0 : Nat) (a1 : Nat) (w : Wd) (r : Wd) (h : St_begin_0 a0 a1 w = some r) : Rn g l D 88 0 [(0, .inr (.inr a0)), (1, .inr (.inr a1))] [] w none r := by
  obtain ⟨D, rfl⟩ : ∃ D1, D = D1 + 1 := ⟨D - 1, by omega⟩
  unfold St_begin_0 at h
  refine fr_aload_n i88_0 rfl ?_
  refine rn_iconst i88_1 ?_
  obtain ⟨w2, h2, h⟩ := Option.bind_eq_some_iff.mp h
  refine fr_pI (k := 0) i88_2 (pf9_0 88) h2 ?_
  refine fr_aload_n i88_5 rfl ?_
  refine rn_iconst i88_6 ?_
  obtain ⟨w7, h7, h⟩ := Option.bind_eq_some_iff.mp h
  refine fr_pI (k := 1) i88_7 (pf9_1 88) h7 ?_
  refine fr_aload_n i88_10 rfl ?_
  refine rn_bipush i88_11 ?_
  obtain ⟨w13, h13, h⟩ := Option.bind_eq_some_iff.mp h
  refine fr_pI (k := 2) i88_13 (pf9_2 88) h13 ?_
  refine fr_aload_n i88_16 rfl ?_
  obtain ⟨v17, h17, h⟩ := Option.bind_eq_some_iff.mp h
  refine fr_gR (k := 7) i88_17 tf10_7 h17 ?_
  refine rn_iconst i88_20 ?_
  refine fr_aload_n i88_21 rfl ?_
  obtain ⟨v22, h22, h⟩ := Option.bind_eq_some_iff.mp h
  refine fr_gR (k := 3) i88_22 tf9_3 h22 ?_
  refine rn_iconst i88_25 ?_
  refine rn_bipush i88_26 ?_
  obtain ⟨w28, h28, h⟩ := Option.bind_eq_some_iff.mp h
  refine rn_copy i88_28 (Nat.le_of_ble_eq_true rfl) h28 ?_
  refine fr_aload_n i88_31 rfl ?_
  obtain ⟨v32, h32, h⟩ := Option.bind_eq_some_iff.mp h
  refine fr_gR (k := 10) i88_32 tf10_10 h32 ?_
  refine rn_iconst i88_35 ?_
  refine fr_aload_n i88_36 rfl ?_
  obtain ⟨v37, h37, h⟩ := Option.bind_eq_some_iff.mp h
  refine fr_gR (k := 4) i88_37 tf9_4 h37 ?_
  refine rn_iconst i88_40 ?_
  refine rn_bipush i88_41 ?_
  obtain ⟨w43, h43, h⟩ := Option.bind_eq_some_iff.mp h
  refine rn_copy i88_43 (Nat.le_of_ble_eq_true rfl) h43 ?_
  refine rn_iconst i88_46 ?_
  refine rn_istore_n (ls1 := [(2, .inl 0), (0, .inr (.inr a0)), (1, .inr (.inr a1))]) i88_47 rfl ?_
  exact rn_sub [1, 0] rfl (s_St_begin_48 hD FU a0 0 w43 r h)
/-- HandHeirs$State.begin(LHandHeirs$Will;)V -/
def St_begin (a0 : Nat) (a1 : Nat) (w : Wd) : Option (Wd) := gd 9 w a0 (St_begin_0 a0 a1 w)
theorem S_St_begin {g : Gp} {l : Launch} (a0 : Nat) (a1 : Nat) (w : Wd) (r : Wd) (h : St_begin a0 a1 w = some r) : (wsh w a0).1 = 9 ∧ ∀ D, 1 ≤ D → Rn g l D 88 0 [(0, .inr (.inr a0)), (1, .inr (.inr a1))] [] w none r := by
  obtain ⟨hg, h⟩ := gd_some h
  exact ⟨hg, fun D hD => rn_sub [0, 1] rfl (s_St_begin_0 hD a0 a1 w r h)⟩
def St_led_0 (a0 : Nat) (w : Wd) : Option (Int × Wd) :=
  (fgI w a0 9 0).bind fun v1 =>
  some ((min v1 400), w)
theorem s_St_led_0 {g : Gp} {l : Launch} {D : Nat} (hD : 1 ≤ D) (a0 : Nat) (w : Wd) (r : Int × Wd) (h : St_led_0 a0 w = some r) : Rn g l D 90 0 [(0, .inr (.inr a0))] [] w (some (.inl r.1)) r.2 := by
  obtain ⟨D, rfl⟩ : ∃ D1, D = D1 + 1 := ⟨D - 1, by omega⟩
  unfold St_led_0 at h
  refine fr_aload_n i90_0 rfl ?_
  obtain ⟨v1, h1, h⟩ := Option.bind_eq_some_iff.mp h
  refine fr_gI (k := 0) i90_1 tf9_0 h1 ?_
  refine rn_sipush i90_4 ?_
  refine rn_min i90_7 (Nat.le_of_ble_eq_true rfl) ?_
  obtain rfl := Option.some.inj h
  exact rn_retI i90_10 mr90
/-- HandHeirs$State.led()I -/
def St_led (a0 : Nat) (w : Wd) : Option (Int × Wd) := gd 9 w a0 (St_led_0 a0 w)
theorem S_St_led {g : Gp} {l : Launch} (a0 : Nat) (w : Wd) (r : Int × Wd) (h : St_led a0 w = some r) : (wsh w a0).1 = 9 ∧ ∀ D, 1 ≤ D → Rn g l D 90 0 [(0, .inr (.inr a0))] [] w (some (.inl r.1)) r.2 := by
  obtain ⟨hg, h⟩ := gd_some h
  exact ⟨hg, fun D hD => rn_sub [0] rfl (s_St_led_0 hD a0 w r h)⟩
def Hh_init_151 (a0 : Nat) (w : Wd) : Option (Wd) :=
  (fgR w a0 11 4).bind fun v152 =>
  (fgR w a0 11 3).bind fun v156 =>
  (St_begin v152 v156 w).bind fun r159 =>
  some r159
theorem s_Hh_init_151 {g : Gp} {l : Launch} {D : Nat} (hD : 6 ≤ D) (a0 : Nat) (w : Wd) (r : Wd) (h : Hh_init_151 a0 w = some r) : Rn g l D 102 151 [(0, .inr (.inr a0))] [] w none r := by
  obtain ⟨D, rfl⟩ : ∃ D1, D = D1 + 1 := ⟨D - 1, by omega⟩
  unfold Hh_init_151 at h
  refine fr_aload_n i102_151 rfl ?_
  obtain ⟨v152, h152, h⟩ := Option.bind_eq_some_iff.mp h
  refine fr_gR (k := 4) i102_152 tf11_4 h152 ?_
  refine fr_aload_n i102_155 rfl ?_
  obtain ⟨v156, h156, h⟩ := Option.bind_eq_some_iff.mp h
  refine fr_gR (k := 3) i102_156 tf11_3 h156 ?_
  obtain ⟨r159, h159, h⟩ := Option.bind_eq_some_iff.mp h
  obtain ⟨g159, c159⟩ := S_St_begin v152 v156 w r159 h159
  refine fr_callV (a := v152) (As := [.inr (.inr v156)]) (st := []) i102_159 (cq88 v152 v156) rfl (Nat.le_of_ble_eq_true rfl) g159 (c159 _ (by omega)) ?_
  obtain rfl := Option.some.inj h
  exact rn_ret i102_162 mr102
def Hh_init_127 : Nat → Nat → Int → Wd → Option (Wd)
  | 0, _, _, _ => none
  | n + 1, a0, x1, w =>
    if (3 : Int) ≤ x1 then
      Hh_init_151 a0 w
    else
      (fgR w a0 11 8).bind fun v133 =>
      (Sl_init (wn w) (nw w 8 3)).bind fun r141 =>
      (wrR r141 v133 x1 (wn w)).bind fun w144 =>
      Hh_init_127 n a0 (w32 (x1 + 1)) w144
theorem s_Hh_init_127 {g : Gp} {l : Launch} {D : Nat} (hD : 6 ≤ D) : ∀ (n : Nat) (a0 : Nat) (x1 : Int) (w : Wd) (r : Wd), Hh_init_127 n a0 x1 w = some r → Rn g l D 102 127 [(0, .inr (.inr a0)), (1, .inl x1)] [] w none r := by
  obtain ⟨D, rfl⟩ : ∃ D1, D = D1 + 1 := ⟨D - 1, by omega⟩
  intro n
  induction n with
  | zero => intro a0 x1 w r h; cases (show (none : Option (Wd)) = some r from h)
  | succ n ih =>
    intro a0 x1 w r h
    unfold Hh_init_127 at h
    refine rn_iload_n i102_127 rfl ?_
    refine rn_iconst i102_128 ?_
    by_cases c129 : (3 : Int) ≤ x1
    · rw [if_pos c129] at h
      refine rn_icmp_ge_t i102_129 c129 ?_
      exact rn_sub [0] rfl (s_Hh_init_151 hD a0 w r h)
    · rw [if_neg c129] at h
      refine rn_icmp_ge_f i102_129 c129 ?_
      refine fr_aload_n i102_132 rfl ?_
      obtain ⟨v133, h133, h⟩ := Option.bind_eq_some_iff.mp h
      refine fr_gR (k := 8) i102_133 tf11_8 h133 ?_
      refine rn_iload_n i102_136 rfl ?_
      refine rn_new i102_137 (by decide) ?_
      refine rn_dup i102_140 rfl ?_
      obtain ⟨r141, h141, h⟩ := Option.bind_eq_some_iff.mp h
      obtain ⟨g141, c141⟩ := S_Sl_init (wn w) (nw w 8 3) r141 h141
      refine fr_callI (nst := 1) (a := (wn w)) (As := []) (st := [.inr (.inr (wn w)), .inl x1, .inr (.inr v133)]) i102_141 (cq86 (wn w)) rfl (Nat.le_of_ble_eq_true rfl) g141 (c141 _ (by omega)) ?_
      obtain ⟨w144, h144, h⟩ := Option.bind_eq_some_iff.mp h
      refine rn_aast i102_144 h144 ?_
      refine rn_iinc (ls1 := [(1, .inl (w32 (x1 + 1))), (0, .inr (.inr a0))]) i102_145 rfl rfl ?_
      refine rn_goto i102_148 ?_
      exact rn_sub [1, 0] rfl (ih a0 (w32 (x1 + 1)) w144 r h)
def Hh_init_0 (a0 : Nat) (w : Wd) : Option (Wd) :=
  (tgd w a0 11).bind fun _ =>
  (nwA w 21 2000).bind fun w8 =>
  (fpR w8 a0 11 0 (wn w)).bind fun w10 =>
  (fpI w10 a0 11 1 0).bind fun w15 =>
  (Rd_init (wn w15) (nw w15 6 10)).bind fun r23 =>
  (fpR r23 a0 11 2 (wn w15)).bind fun w26 =>
  (Wi_init (wn w26) (nw w26 10 14)).bind fun r34 =>
  (fpR r34 a0 11 3 (wn w26)).bind fun w37 =>
  (St_init (wn w37) (nw w37 9 6)).bind fun r45 =>
  (fpR r45 a0 11 4 (wn w37)).bind fun w48 =>
  (St_init (wn w48) (nw w48 9 6)).bind fun r56 =>
  (fpR r56 a0 11 5 (wn w48)).bind fun w59 =>
  (Bk_init (wn w59) (nw w59 0 1)).bind fun r67 =>
  (fpR r67 a0 11 6 (wn w59)).bind fun w70 =>
  (Ps_init (wn w70) (nw w70 4 3)).bind fun r78 =>
  (fpR r78 a0 11 7 (wn w70)).bind fun w81 =>
  (nwA w81 25 3).bind fun w86 =>
  (fpR w86 a0 11 8 (wn w81)).bind fun w89 =>
  (Pa_init (wn w89) (nw w89 3 3)).bind fun r97 =>
  (fpR r97 a0 11 9 (wn w89)).bind fun w100 =>
  (Ct_init (wn w100) (nw w100 1 3)).bind fun r108 =>
  (fpR r108 a0 11 10 (wn w100)).bind fun w111 =>
  (Pl_init (wn w111) (nw w111 5 3)).bind fun r119 =>
  (fpR r119 a0 11 11 (wn w111)).bind fun w122 =>
  Hh_init_127 FU a0 0 w122
theorem s_Hh_init_0 {g : Gp} {l : Launch} {D : Nat} (hD : 6 ≤ D) (a0 : Nat) (w : Wd) (r : Wd) (h : Hh_init_0 a0 w = some r) : Rn g l D 102 0 [(0, .inr (.inr a0))] [] w none r := by
  obtain ⟨D, rfl⟩ : ∃ D1, D = D1 + 1 := ⟨D - 1, by omega⟩
  unfold Hh_init_0 at h
  refine fr_aload_n i102_0 rfl ?_
  obtain ⟨_, h1, h⟩ := Option.bind_eq_some_iff.mp h
  refine fr_objI i102_1 h1 (by decide) (Nat.le_of_ble_eq_true rfl) ?_
  refine fr_aload_n i102_4 rfl ?_
  refine rn_sipush i102_5 ?_
  obtain ⟨w8, h8, h⟩ := Option.bind_eq_some_iff.mp h
  refine rn_newa (t := 21) i102_8 (by decide) rfl h8 ?_
  obtain ⟨w10, h10, h⟩ := Option.bind_eq_some_iff.mp h
  refine fr_pR (k := 0) i102_10 pf102_11_0 h10 ?_
  refine fr_aload_n i102_13 rfl ?_
  refine rn_iconst i102_14 ?_
  obtain ⟨w15, h15, h⟩ := Option.bind_eq_some_iff.mp h
  refine fr_pI (k := 1) i102_15 (pf11_1 102) h15 ?_
  refine fr_aload_n i102_18 rfl ?_
  refine rn_new i102_19 (by decide) ?_
  refine rn_dup i102_22 rfl ?_
  obtain ⟨r23, h23, h⟩ := Option.bind_eq_some_iff.mp h
  obtain ⟨g23, c23⟩ := S_Rd_init (wn w15) (nw w15 6 10) r23 h23
  refine fr_callI (nst := 1) (a := (wn w15)) (As := []) (st := [.inr (.inr (wn w15)), .inr (.inr a0)]) i102_23 (cq54 (wn w15)) rfl (Nat.le_of_ble_eq_true rfl) g23 (c23 _ (by omega)) ?_
  obtain ⟨w26, h26, h⟩ := Option.bind_eq_some_iff.mp h
  refine fr_pR (k := 2) i102_26 pf102_11_2 h26 ?_
  refine fr_aload_n i102_29 rfl ?_
  refine rn_new i102_30 (by decide) ?_
  refine rn_dup i102_33 rfl ?_
  obtain ⟨r34, h34, h⟩ := Option.bind_eq_some_iff.mp h
  obtain ⟨g34, c34⟩ := S_Wi_init (wn w26) (nw w26 10 14) r34 h34
  refine fr_callI (nst := 0) (a := (wn w26)) (As := []) (st := [.inr (.inr (wn w26)), .inr (.inr a0)]) i102_34 (cq95 (wn w26)) rfl (Nat.le_of_ble_eq_true rfl) g34 (c34 _ (by omega)) ?_
  obtain ⟨w37, h37, h⟩ := Option.bind_eq_some_iff.mp h
  refine fr_pR (k := 3) i102_37 (pf11_3 102) h37 ?_
  refine fr_aload_n i102_40 rfl ?_
  refine rn_new i102_41 (by decide) ?_
  refine rn_dup i102_44 rfl ?_
  obtain ⟨r45, h45, h⟩ := Option.bind_eq_some_iff.mp h
  obtain ⟨g45, c45⟩ := S_St_init (wn w37) (nw w37 9 6) r45 h45
  refine fr_callI (nst := 1) (a := (wn w37)) (As := []) (st := [.inr (.inr (wn w37)), .inr (.inr a0)]) i102_45 (cq87 (wn w37)) rfl (Nat.le_of_ble_eq_true rfl) g45 (c45 _ (by omega)) ?_
  obtain ⟨w48, h48, h⟩ := Option.bind_eq_some_iff.mp h
  refine fr_pR (k := 4) i102_48 pf102_11_4 h48 ?_
  refine fr_aload_n i102_51 rfl ?_
  refine rn_new i102_52 (by decide) ?_
  refine rn_dup i102_55 rfl ?_
  obtain ⟨r56, h56, h⟩ := Option.bind_eq_some_iff.mp h
  obtain ⟨g56, c56⟩ := S_St_init (wn w48) (nw w48 9 6) r56 h56
  refine fr_callI (nst := 1) (a := (wn w48)) (As := []) (st := [.inr (.inr (wn w48)), .inr (.inr a0)]) i102_56 (cq87 (wn w48)) rfl (Nat.le_of_ble_eq_true rfl) g56 (c56 _ (by omega)) ?_
  obtain ⟨w59, h59, h⟩ := Option.bind_eq_some_iff.mp h
  refine fr_pR (k := 5) i102_59 pf102_11_5 h59 ?_
  refine fr_aload_n i102_62 rfl ?_
  refine rn_new i102_63 (by decide) ?_
  refine rn_dup i102_66 rfl ?_
  obtain ⟨r67, h67, h⟩ := Option.bind_eq_some_iff.mp h
  obtain ⟨g67, c67⟩ := S_Bk_init (wn w59) (nw w59 0 1) r67 h67
  refine fr_callI (nst := 1) (a := (wn w59)) (As := []) (st := [.inr (.inr (wn w59)), .inr (.inr a0)]) i102_67 (cq15 (wn w59)) rfl (Nat.le_of_ble_eq_true rfl) g67 (c67 _ (by omega)) ?_
  obtain ⟨w70, h70, h⟩ := Option.bind_eq_some_iff.mp h
  refine fr_pR (k := 6) i102_70 pf102_11_6 h70 ?_
  refine fr_aload_n i102_73 rfl ?_
  refine rn_new i102_74 (by decide) ?_
  refine rn_dup i102_77 rfl ?_
  obtain ⟨r78, h78, h⟩ := Option.bind_eq_some_iff.mp h
  obtain ⟨g78, c78⟩ := S_Ps_init (wn w70) (nw w70 4 3) r78 h78
  refine fr_callI (nst := 0) (a := (wn w70)) (As := []) (st := [.inr (.inr (wn w70)), .inr (.inr a0)]) i102_78 (cq45 (wn w70)) rfl (Nat.le_of_ble_eq_true rfl) g78 (c78 _ (by omega)) ?_
  obtain ⟨w81, h81, h⟩ := Option.bind_eq_some_iff.mp h
  refine fr_pR (k := 7) i102_81 pf102_11_7 h81 ?_
  refine fr_aload_n i102_84 rfl ?_
  refine rn_iconst i102_85 ?_
  obtain ⟨w86, h86, h⟩ := Option.bind_eq_some_iff.mp h
  refine rn_anew i102_86 (by decide) h86 ?_
  obtain ⟨w89, h89, h⟩ := Option.bind_eq_some_iff.mp h
  refine fr_pR (k := 8) i102_89 pf102_11_8 h89 ?_
  refine fr_aload_n i102_92 rfl ?_
  refine rn_new i102_93 (by decide) ?_
  refine rn_dup i102_96 rfl ?_
  obtain ⟨r97, h97, h⟩ := Option.bind_eq_some_iff.mp h
  obtain ⟨g97, c97⟩ := S_Pa_init (wn w89) (nw w89 3 3) r97 h97
  refine fr_callI (nst := 1) (a := (wn w89)) (As := []) (st := [.inr (.inr (wn w89)), .inr (.inr a0)]) i102_97 (cq43 (wn w89)) rfl (Nat.le_of_ble_eq_true rfl) g97 (c97 _ (by omega)) ?_
  obtain ⟨w100, h100, h⟩ := Option.bind_eq_some_iff.mp h
  refine fr_pR (k := 9) i102_100 pf102_11_9 h100 ?_
  refine fr_aload_n i102_103 rfl ?_
  refine rn_new i102_104 (by decide) ?_
  refine rn_dup i102_107 rfl ?_
  obtain ⟨r108, h108, h⟩ := Option.bind_eq_some_iff.mp h
  obtain ⟨g108, c108⟩ := S_Ct_init (wn w100) (nw w100 1 3) r108 h108
  refine fr_callI (nst := 1) (a := (wn w100)) (As := []) (st := [.inr (.inr (wn w100)), .inr (.inr a0)]) i102_108 (cq22 (wn w100)) rfl (Nat.le_of_ble_eq_true rfl) g108 (c108 _ (by omega)) ?_
  obtain ⟨w111, h111, h⟩ := Option.bind_eq_some_iff.mp h
  refine fr_pR (k := 10) i102_111 pf102_11_10 h111 ?_
  refine fr_aload_n i102_114 rfl ?_
  refine rn_new i102_115 (by decide) ?_
  refine rn_dup i102_118 rfl ?_
  obtain ⟨r119, h119, h⟩ := Option.bind_eq_some_iff.mp h
  obtain ⟨g119, c119⟩ := S_Pl_init (wn w111) (nw w111 5 3) r119 h119
  refine fr_callI (nst := 1) (a := (wn w111)) (As := []) (st := [.inr (.inr (wn w111)), .inr (.inr a0)]) i102_119 (cq49 (wn w111)) rfl (Nat.le_of_ble_eq_true rfl) g119 (c119 _ (by omega)) ?_
  obtain ⟨w122, h122, h⟩ := Option.bind_eq_some_iff.mp h
  refine fr_pR (k := 11) i102_122 pf102_11_11 h122 ?_
  refine rn_iconst i102_125 ?_
  refine rn_istore_n (ls1 := [(1, .inl 0), (0, .inr (.inr a0))]) i102_126 rfl ?_
  exact rn_sub [1, 0] rfl (s_Hh_init_127 hD FU a0 0 w122 r h)
/-- HandHeirs.<init>()V -/
def Hh_init (a0 : Nat) (w : Wd) : Option (Wd) := gd 11 w a0 (Hh_init_0 a0 w)
theorem S_Hh_init {g : Gp} {l : Launch} (a0 : Nat) (w : Wd) (r : Wd) (h : Hh_init a0 w = some r) : (wsh w a0).1 = 11 ∧ ∀ D, 6 ≤ D → Rn g l D 102 0 [(0, .inr (.inr a0))] [] w none r := by
  obtain ⟨hg, h⟩ := gd_some h
  exact ⟨hg, fun D hD => rn_sub [0] rfl (s_Hh_init_0 hD a0 w r h)⟩
def Hh_putFour_46 (w : Wd) : Option (Wd) :=
  some w
theorem s_Hh_putFour_46 {g : Gp} {l : Launch} {D : Nat} (hD : 0 ≤ D) (w : Wd) (r : Wd) (h : Hh_putFour_46 w = some r) : Rn g l D 104 46 [] [] w none r := by
  unfold Hh_putFour_46 at h
  obtain rfl := Option.some.inj h
  exact rn_ret i104_46 mr104
def Hh_putFour_3 : Nat → Nat → Int → Int → Wd → Option (Wd)
  | 0, _, _, _, _ => none
  | n + 1, a0, x1, x2, w =>
    if (x2 : Int) < 0 then
      Hh_putFour_46 w
    else
      (fgI w a0 11 1).bind fun v8 =>
      if (2000 : Int) ≤ v8 then
        Hh_putFour_46 w
      else
        (fgR w a0 11 0).bind fun v18 =>
        (fgI w a0 11 1).bind fun v22 =>
        (wrB w v18 v22 (n8 (oushr x1 x2))).bind fun w29 =>
        (fgI w29 a0 11 1).bind fun v32 =>
        (fpI w29 a0 11 1 (w32 (v32 + 1))).bind fun w37 =>
        Hh_putFour_3 n a0 x1 (w32 (x2 + (-8))) w37
theorem s_Hh_putFour_3 {g : Gp} {l : Launch} {D : Nat} (hD : 0 ≤ D) : ∀ (n : Nat) (a0 : Nat) (x1 : Int) (x2 : Int) (w : Wd) (r : Wd), Hh_putFour_3 n a0 x1 x2 w = some r → Rn g l D 104 3 [(0, .inr (.inr a0)), (1, .inl x1), (2, .inl x2)] [] w none r := by
  intro n
  induction n with
  | zero => intro a0 x1 x2 w r h; cases (show (none : Option (Wd)) = some r from h)
  | succ n ih =>
    intro a0 x1 x2 w r h
    unfold Hh_putFour_3 at h
    refine rn_iload_n i104_3 rfl ?_
    by_cases c4 : (x2 : Int) < 0
    · rw [if_pos c4] at h
      refine rn_if_lt_t i104_4 c4 ?_
      exact rn_sub [] rfl (s_Hh_putFour_46 hD w r h)
    · rw [if_neg c4] at h
      refine rn_if_lt_f i104_4 c4 ?_
      refine fr_aload_n i104_7 rfl ?_
      obtain ⟨v8, h8, h⟩ := Option.bind_eq_some_iff.mp h
      refine fr_gI (k := 1) i104_8 tf11_1 h8 ?_
      refine rn_sipush i104_11 ?_
      by_cases c14 : (2000 : Int) ≤ v8
      · rw [if_pos c14] at h
        refine rn_icmp_ge_t i104_14 c14 ?_
        exact rn_sub [] rfl (s_Hh_putFour_46 hD w r h)
      · rw [if_neg c14] at h
        refine rn_icmp_ge_f i104_14 c14 ?_
        refine fr_aload_n i104_17 rfl ?_
        obtain ⟨v18, h18, h⟩ := Option.bind_eq_some_iff.mp h
        refine fr_gR (k := 0) i104_18 tf11_0 h18 ?_
        refine fr_aload_n i104_21 rfl ?_
        obtain ⟨v22, h22, h⟩ := Option.bind_eq_some_iff.mp h
        refine fr_gI (k := 1) i104_22 tf11_1 h22 ?_
        refine rn_iload_n i104_25 rfl ?_
        refine rn_iload_n i104_26 rfl ?_
        refine rn_iushr i104_27 ?_
        refine rn_i2b i104_28 ?_
        obtain ⟨w29, h29, h⟩ := Option.bind_eq_some_iff.mp h
        refine rn_bast i104_29 h29 ?_
        refine fr_aload_n i104_30 rfl ?_
        refine rn_dup i104_31 rfl ?_
        obtain ⟨v32, h32, h⟩ := Option.bind_eq_some_iff.mp h
        refine fr_gI (k := 1) i104_32 tf11_1 h32 ?_
        refine rn_iconst i104_35 ?_
        refine rn_iadd i104_36 ?_
        obtain ⟨w37, h37, h⟩ := Option.bind_eq_some_iff.mp h
        refine fr_pI (k := 1) i104_37 (pf11_1 104) h37 ?_
        refine rn_iinc (ls1 := [(2, .inl (w32 (x2 + (-8)))), (0, .inr (.inr a0)), (1, .inl x1)]) i104_40 rfl rfl ?_
        refine rn_goto i104_43 ?_
        exact rn_sub [1, 2, 0] rfl (ih a0 x1 (w32 (x2 + (-8))) w37 r h)
def Hh_putFour_0 (a0 : Nat) (x1 : Int) (w : Wd) : Option (Wd) :=
  Hh_putFour_3 FU a0 x1 24 w
theorem s_Hh_putFour_0 {g : Gp} {l : Launch} {D : Nat} (hD : 0 ≤ D) (a0 : Nat) (x1 : Int) (w : Wd) (r : Wd) (h : Hh_putFour_0 a0 x1 w = some r) : Rn g l D 104 0 [(0, .inr (.inr a0)), (1, .inl x1)] [] w none r := by
  unfold Hh_putFour_0 at h
  refine rn_bipush i104_0 ?_
  refine rn_istore_n (ls1 := [(2, .inl 24), (0, .inr (.inr a0)), (1, .inl x1)]) i104_2 rfl ?_
  exact rn_sub [1, 2, 0] rfl (s_Hh_putFour_3 hD FU a0 x1 24 w r h)
/-- HandHeirs.putFour(I)V -/
def Hh_putFour (a0 : Nat) (x1 : Int) (w : Wd) : Option (Wd) := gd 11 w a0 (Hh_putFour_0 a0 x1 w)
theorem S_Hh_putFour {g : Gp} {l : Launch} (a0 : Nat) (x1 : Int) (w : Wd) (r : Wd) (h : Hh_putFour a0 x1 w = some r) : (wsh w a0).1 = 11 ∧ ∀ D, 0 ≤ D → Rn g l D 104 0 [(0, .inr (.inr a0)), (1, .inl x1)] [] w none r := by
  obtain ⟨hg, h⟩ := gd_some h
  exact ⟨hg, fun D hD => rn_sub [0, 1] rfl (s_Hh_putFour_0 hD a0 x1 w r h)⟩
def Hh_feed_0 (a0 : Nat) (x1 : Int) (x2 : Int) (x3 : Int) (x4 : Int) (x5 : Int) (w : Wd) : Option (Int × Wd) :=
  (fgI w a0 11 1).bind fun v1 =>
  if ((w32 (v1 + 20)) : Int) ≤ 2000 then
    (Hh_putFour a0 x1 w).bind fun r17 =>
    (Hh_putFour a0 x2 r17).bind fun r22 =>
    (Hh_putFour a0 x3 r22).bind fun r27 =>
    (Hh_putFour a0 x4 r27).bind fun r33 =>
    (Hh_putFour a0 x5 r33).bind fun r39 =>
    (fgI r39 a0 11 1).bind fun v43 =>
    some (v43, r39)
  else
    some ((-1), w)
theorem s_Hh_feed_0 {g : Gp} {l : Launch} {D : Nat} (hD : 1 ≤ D) (a0 : Nat) (x1 : Int) (x2 : Int) (x3 : Int) (x4 : Int) (x5 : Int) (w : Wd) (r : Int × Wd) (h : Hh_feed_0 a0 x1 x2 x3 x4 x5 w = some r) : Rn g l D 103 0 [(0, .inr (.inr a0)), (1, .inl x1), (2, .inl x2), (3, .inl x3), (4, .inl x4), (5, .inl x5)] [] w (some (.inl r.1)) r.2 := by
  obtain ⟨D, rfl⟩ : ∃ D1, D = D1 + 1 := ⟨D - 1, by omega⟩
  unfold Hh_feed_0 at h
  refine fr_aload_n i103_0 rfl ?_
  obtain ⟨v1, h1, h⟩ := Option.bind_eq_some_iff.mp h
  refine fr_gI (k := 1) i103_1 tf11_1 h1 ?_
  refine rn_bipush i103_4 ?_
  refine rn_iadd i103_6 ?_
  refine rn_sipush i103_7 ?_
  by_cases c10 : ((w32 (v1 + 20)) : Int) ≤ 2000
  · rw [if_pos c10] at h
    refine rn_icmp_le_t i103_10 c10 ?_
    refine fr_aload_n i103_15 rfl ?_
    refine rn_iload_n i103_16 rfl ?_
    obtain ⟨r17, h17, h⟩ := Option.bind_eq_some_iff.mp h
    obtain ⟨g17, c17⟩ := S_Hh_putFour a0 x1 w r17 h17
    refine fr_callV (a := a0) (As := [.inl x1]) (st := []) i103_17 (cq104 a0 x1) rfl (Nat.le_of_ble_eq_true rfl) g17 (c17 _ (by omega)) ?_
    refine fr_aload_n i103_20 rfl ?_
    refine rn_iload_n i103_21 rfl ?_
    obtain ⟨r22, h22, h⟩ := Option.bind_eq_some_iff.mp h
    obtain ⟨g22, c22⟩ := S_Hh_putFour a0 x2 r17 r22 h22
    refine fr_callV (a := a0) (As := [.inl x2]) (st := []) i103_22 (cq104 a0 x2) rfl (Nat.le_of_ble_eq_true rfl) g22 (c22 _ (by omega)) ?_
    refine fr_aload_n i103_25 rfl ?_
    refine rn_iload_n i103_26 rfl ?_
    obtain ⟨r27, h27, h⟩ := Option.bind_eq_some_iff.mp h
    obtain ⟨g27, c27⟩ := S_Hh_putFour a0 x3 r22 r27 h27
    refine fr_callV (a := a0) (As := [.inl x3]) (st := []) i103_27 (cq104 a0 x3) rfl (Nat.le_of_ble_eq_true rfl) g27 (c27 _ (by omega)) ?_
    refine fr_aload_n i103_30 rfl ?_
    refine rn_iload i103_31 rfl ?_
    obtain ⟨r33, h33, h⟩ := Option.bind_eq_some_iff.mp h
    obtain ⟨g33, c33⟩ := S_Hh_putFour a0 x4 r27 r33 h33
    refine fr_callV (a := a0) (As := [.inl x4]) (st := []) i103_33 (cq104 a0 x4) rfl (Nat.le_of_ble_eq_true rfl) g33 (c33 _ (by omega)) ?_
    refine fr_aload_n i103_36 rfl ?_
    refine rn_iload i103_37 rfl ?_
    obtain ⟨r39, h39, h⟩ := Option.bind_eq_some_iff.mp h
    obtain ⟨g39, c39⟩ := S_Hh_putFour a0 x5 r33 r39 h39
    refine fr_callV (a := a0) (As := [.inl x5]) (st := []) i103_39 (cq104 a0 x5) rfl (Nat.le_of_ble_eq_true rfl) g39 (c39 _ (by omega)) ?_
    refine fr_aload_n i103_42 rfl ?_
    obtain ⟨v43, h43, h⟩ := Option.bind_eq_some_iff.mp h
    refine fr_gI (k := 1) i103_43 tf11_1 h43 ?_
    obtain rfl := Option.some.inj h
    exact rn_retI i103_46 mr103
  · rw [if_neg c10] at h
    refine rn_icmp_le_f i103_10 c10 ?_
    refine rn_iconst i103_13 ?_
    obtain rfl := Option.some.inj h
    exact rn_retI i103_14 mr103
/-- HandHeirs.feed(IIIII)I -/
def Hh_feed (a0 : Nat) (x1 : Int) (x2 : Int) (x3 : Int) (x4 : Int) (x5 : Int) (w : Wd) : Option (Int × Wd) := gd 11 w a0 (Hh_feed_0 a0 x1 x2 x3 x4 x5 w)
theorem S_Hh_feed {g : Gp} {l : Launch} (a0 : Nat) (x1 : Int) (x2 : Int) (x3 : Int) (x4 : Int) (x5 : Int) (w : Wd) (r : Int × Wd) (h : Hh_feed a0 x1 x2 x3 x4 x5 w = some r) : (wsh w a0).1 = 11 ∧ ∀ D, 1 ≤ D → Rn g l D 103 0 [(0, .inr (.inr a0)), (1, .inl x1), (2, .inl x2), (3, .inl x3), (4, .inl x4), (5, .inl x5)] [] w (some (.inl r.1)) r.2 := by
  obtain ⟨hg, h⟩ := gd_some h
  exact ⟨hg, fun D hD => rn_sub [0, 1, 2, 3, 4, 5] rfl (s_Hh_feed_0 hD a0 x1 x2 x3 x4 x5 w r h)⟩
def Hh_back_12 (w : Wd) : Option (Int × Wd) :=
  some ((-1), w)
theorem s_Hh_back_12 {g : Gp} {l : Launch} {D : Nat} (hD : 0 ≤ D) (w : Wd) (r : Int × Wd) (h : Hh_back_12 w = some r) : Rn g l D 105 12 [] [] w (some (.inl r.1)) r.2 := by
  unfold Hh_back_12 at h
  refine rn_iconst i105_12 ?_
  obtain rfl := Option.some.inj h
  exact rn_retI i105_13 mr105
def Hh_back_0 (a0 : Nat) (x1 : Int) (w : Wd) : Option (Int × Wd) :=
  if (x1 : Int) < 0 then
    Hh_back_12 w
  else
    (fgI w a0 11 1).bind fun v6 =>
    if (x1 : Int) ≤ v6 then
      (fgI w a0 11 1).bind fun v16 =>
      (fpI w a0 11 1 (w32 (v16 - x1))).bind fun w21 =>
      (fgI w21 a0 11 1).bind fun v25 =>
      some (v25, w21)
    else
      Hh_back_12 w
theorem s_Hh_back_0 {g : Gp} {l : Launch} {D : Nat} (hD : 0 ≤ D) (a0 : Nat) (x1 : Int) (w : Wd) (r : Int × Wd) (h : Hh_back_0 a0 x1 w = some r) : Rn g l D 105 0 [(0, .inr (.inr a0)), (1, .inl x1)] [] w (some (.inl r.1)) r.2 := by
  unfold Hh_back_0 at h
  refine rn_iload_n i105_0 rfl ?_
  by_cases c1 : (x1 : Int) < 0
  · rw [if_pos c1] at h
    refine rn_if_lt_t i105_1 c1 ?_
    exact rn_sub [] rfl (s_Hh_back_12 hD w r h)
  · rw [if_neg c1] at h
    refine rn_if_lt_f i105_1 c1 ?_
    refine rn_iload_n i105_4 rfl ?_
    refine fr_aload_n i105_5 rfl ?_
    obtain ⟨v6, h6, h⟩ := Option.bind_eq_some_iff.mp h
    refine fr_gI (k := 1) i105_6 tf11_1 h6 ?_
    by_cases c9 : (x1 : Int) ≤ v6
    · rw [if_pos c9] at h
      refine rn_icmp_le_t i105_9 c9 ?_
      refine fr_aload_n i105_14 rfl ?_
      refine rn_dup i105_15 rfl ?_
      obtain ⟨v16, h16, h⟩ := Option.bind_eq_some_iff.mp h
      refine fr_gI (k := 1) i105_16 tf11_1 h16 ?_
      refine rn_iload_n i105_19 rfl ?_
      refine rn_isub i105_20 ?_
      obtain ⟨w21, h21, h⟩ := Option.bind_eq_some_iff.mp h
      refine fr_pI (k := 1) i105_21 (pf11_1 105) h21 ?_
      refine fr_aload_n i105_24 rfl ?_
      obtain ⟨v25, h25, h⟩ := Option.bind_eq_some_iff.mp h
      refine fr_gI (k := 1) i105_25 tf11_1 h25 ?_
      obtain rfl := Option.some.inj h
      exact rn_retI i105_28 mr105
    · rw [if_neg c9] at h
      refine rn_icmp_le_f i105_9 c9 ?_
      exact rn_sub [] rfl (s_Hh_back_12 hD w r h)
/-- HandHeirs.back(I)I -/
def Hh_back (a0 : Nat) (x1 : Int) (w : Wd) : Option (Int × Wd) := gd 11 w a0 (Hh_back_0 a0 x1 w)
theorem S_Hh_back {g : Gp} {l : Launch} (a0 : Nat) (x1 : Int) (w : Wd) (r : Int × Wd) (h : Hh_back a0 x1 w = some r) : (wsh w a0).1 = 11 ∧ ∀ D, 0 ≤ D → Rn g l D 105 0 [(0, .inr (.inr a0)), (1, .inl x1)] [] w (some (.inl r.1)) r.2 := by
  obtain ⟨hg, h⟩ := gd_some h
  exact ⟨hg, fun D hD => rn_sub [0, 1] rfl (s_Hh_back_0 hD a0 x1 w r h)⟩
def Hh_beginAnew_52 : Nat → Nat → Int → Wd → Option (Wd)
  | 0, _, _, _ => none
  | n + 1, a0, x2, w =>
    if (3 : Int) ≤ x2 then
      some w
    else
      (fgR w a0 11 8).bind fun v58 =>
      (rdR w v58 x2).bind fun v62 =>
      (fpZ w v62 8 0 0).bind fun w64 =>
      Hh_beginAnew_52 n a0 (w32 (x2 + 1)) w64
theorem s_Hh_beginAnew_52 {g : Gp} {l : Launch} {D : Nat} (hD : 2 ≤ D) : ∀ (n : Nat) (a0 : Nat) (x2 : Int) (w : Wd) (r : Wd), Hh_beginAnew_52 n a0 x2 w = some r → Rn g l D 107 52 [(0, .inr (.inr a0)), (2, .inl x2)] [] w none r := by
  intro n
  induction n with
  | zero => intro a0 x2 w r h; cases (show (none : Option (Wd)) = some r from h)
  | succ n ih =>
    intro a0 x2 w r h
    unfold Hh_beginAnew_52 at h
    refine rn_iload_n i107_52 rfl ?_
    refine rn_iconst i107_53 ?_
    by_cases c54 : (3 : Int) ≤ x2
    · rw [if_pos c54] at h
      refine rn_icmp_ge_t i107_54 c54 ?_
      obtain rfl := Option.some.inj h
      exact rn_ret i107_73 mr107
    · rw [if_neg c54] at h
      refine rn_icmp_ge_f i107_54 c54 ?_
      refine fr_aload_n i107_57 rfl ?_
      obtain ⟨v58, h58, h⟩ := Option.bind_eq_some_iff.mp h
      refine fr_gR (k := 8) i107_58 tf11_8 h58 ?_
      refine rn_iload_n i107_61 rfl ?_
      obtain ⟨v62, h62, h⟩ := Option.bind_eq_some_iff.mp h
      refine rn_aald i107_62 h62 ?_
      refine rn_iconst i107_63 ?_
      obtain ⟨w64, h64, h⟩ := Option.bind_eq_some_iff.mp h
      refine fr_pZ (k := 0) i107_64 (pf8_0 107) h64 ?_
      refine rn_iinc (ls1 := [(2, .inl (w32 (x2 + 1))), (0, .inr (.inr a0))]) i107_67 rfl rfl ?_
      refine rn_goto i107_70 ?_
      exact rn_sub [1, 0] rfl (ih a0 (w32 (x2 + 1)) w64 r h)
def Hh_beginAnew_0 (a0 : Nat) (w : Wd) : Option (Wd) :=
  (fgR w a0 11 3).bind fun v1 =>
  (fgR w a0 11 2).bind fun v7 =>
  (fgR w v7 6 1).bind fun v10 =>
  (fpR w a0 11 3 v10).bind fun w13 =>
  (fgR w13 a0 11 2).bind fun v17 =>
  (fpR w13 v17 6 1 v1).bind fun w21 =>
  (fgR w21 a0 11 4).bind fun v25 =>
  (fgR w21 a0 11 3).bind fun v29 =>
  (St_begin v25 v29 w21).bind fun r32 =>
  (fgR r32 a0 11 7).bind fun v36 =>
  (Ps_clear v36 r32).bind fun r39 =>
  (fgR r39 a0 11 9).bind fun v43 =>
  (fpI r39 v43 3 0 0).bind fun w47 =>
  Hh_beginAnew_52 FU a0 0 w47
theorem s_Hh_beginAnew_0 {g : Gp} {l : Launch} {D : Nat} (hD : 2 ≤ D) (a0 : Nat) (w : Wd) (r : Wd) (h : Hh_beginAnew_0 a0 w = some r) : Rn g l D 107 0 [(0, .inr (.inr a0))] [] w none r := by
  obtain ⟨D, rfl⟩ : ∃ D1, D = D1 + 1 := ⟨D - 1, by omega⟩
  unfold Hh_beginAnew_0 at h
  refine fr_aload_n i107_0 rfl ?_
  obtain ⟨v1, h1, h⟩ := Option.bind_eq_some_iff.mp h
  refine fr_gR (k := 3) i107_1 tf11_3 h1 ?_
  refine fr_astore_n (ls1 := [(1, .inr (.inr v1)), (0, .inr (.inr a0))]) i107_4 rfl ?_
  refine fr_aload_n i107_5 rfl ?_
  refine fr_aload_n i107_6 rfl ?_
  obtain ⟨v7, h7, h⟩ := Option.bind_eq_some_iff.mp h
  refine fr_gR (k := 2) i107_7 tf11_2 h7 ?_
  obtain ⟨v10, h10, h⟩ := Option.bind_eq_some_iff.mp h
  refine fr_gR (k := 1) i107_10 tf6_1 h10 ?_
  obtain ⟨w13, h13, h⟩ := Option.bind_eq_some_iff.mp h
  refine fr_pR (k := 3) i107_13 (pf11_3 107) h13 ?_
  refine fr_aload_n i107_16 rfl ?_
  obtain ⟨v17, h17, h⟩ := Option.bind_eq_some_iff.mp h
  refine fr_gR (k := 2) i107_17 tf11_2 h17 ?_
  refine fr_aload_n i107_20 rfl ?_
  obtain ⟨w21, h21, h⟩ := Option.bind_eq_some_iff.mp h
  refine fr_pR (k := 1) i107_21 (pf6_1 107) h21 ?_
  refine fr_aload_n i107_24 rfl ?_
  obtain ⟨v25, h25, h⟩ := Option.bind_eq_some_iff.mp h
  refine fr_gR (k := 4) i107_25 tf11_4 h25 ?_
  refine fr_aload_n i107_28 rfl ?_
  obtain ⟨v29, h29, h⟩ := Option.bind_eq_some_iff.mp h
  refine fr_gR (k := 3) i107_29 tf11_3 h29 ?_
  obtain ⟨r32, h32, h⟩ := Option.bind_eq_some_iff.mp h
  obtain ⟨g32, c32⟩ := S_St_begin v25 v29 w21 r32 h32
  refine fr_callV (a := v25) (As := [.inr (.inr v29)]) (st := []) i107_32 (cq88 v25 v29) rfl (Nat.le_of_ble_eq_true rfl) g32 (c32 _ (by omega)) ?_
  refine fr_aload_n i107_35 rfl ?_
  obtain ⟨v36, h36, h⟩ := Option.bind_eq_some_iff.mp h
  refine fr_gR (k := 7) i107_36 tf11_7 h36 ?_
  obtain ⟨r39, h39, h⟩ := Option.bind_eq_some_iff.mp h
  obtain ⟨g39, c39⟩ := S_Ps_clear v36 r32 r39 h39
  refine fr_callV (a := v36) (As := []) (st := []) i107_39 (cq46 v36) rfl (Nat.le_of_ble_eq_true rfl) g39 (c39 _ (by omega)) ?_
  refine fr_aload_n i107_42 rfl ?_
  obtain ⟨v43, h43, h⟩ := Option.bind_eq_some_iff.mp h
  refine fr_gR (k := 9) i107_43 tf11_9 h43 ?_
  refine rn_iconst i107_46 ?_
  obtain ⟨w47, h47, h⟩ := Option.bind_eq_some_iff.mp h
  refine fr_pI (k := 0) i107_47 (pf3_0 107) h47 ?_
  refine rn_iconst i107_50 ?_
  refine rn_istore_n (ls1 := [(2, .inl 0), (1, .inr (.inr v1)), (0, .inr (.inr a0))]) i107_51 rfl ?_
  exact rn_sub [2, 0] rfl (s_Hh_beginAnew_52 hD FU a0 0 w47 r h)
/-- HandHeirs.beginAnew()V -/
def Hh_beginAnew (a0 : Nat) (w : Wd) : Option (Wd) := gd 11 w a0 (Hh_beginAnew_0 a0 w)
theorem S_Hh_beginAnew {g : Gp} {l : Launch} (a0 : Nat) (w : Wd) (r : Wd) (h : Hh_beginAnew a0 w = some r) : (wsh w a0).1 = 11 ∧ ∀ D, 2 ≤ D → Rn g l D 107 0 [(0, .inr (.inr a0))] [] w none r := by
  obtain ⟨hg, h⟩ := gd_some h
  exact ⟨hg, fun D hD => rn_sub [0] rfl (s_Hh_beginAnew_0 hD a0 w r h)⟩
def Hh_read_29 (x1 : Int) (w : Wd) : Option (Int × Wd) :=
  some (x1, w)
theorem s_Hh_read_29 {g : Gp} {l : Launch} {D : Nat} (hD : 104 ≤ D) (x1 : Int) (w : Wd) (r : Int × Wd) (h : Hh_read_29 x1 w = some r) : Rn g l D 106 29 [(1, .inl x1)] [] w (some (.inl r.1)) r.2 := by
  unfold Hh_read_29 at h
  refine rn_iload_n i106_29 rfl ?_
  obtain rfl := Option.some.inj h
  exact rn_retI i106_30 mr106
def Hh_read_0 (a0 : Nat) (w : Wd) : Option (Int × Wd) :=
  (fgR w a0 11 2).bind fun v1 =>
  (fgR w a0 11 0).bind fun v5 =>
  (fgI w a0 11 1).bind fun v9 =>
  (Rd_readText v1 v5 v9 w).bind fun r12 =>
  (fpI r12.2 a0 11 1 0).bind fun w18 =>
  if (r12.1 : Int) = 0 then
    (Hh_beginAnew a0 w18).bind fun r26 =>
    Hh_read_29 r12.1 r26
  else
    Hh_read_29 r12.1 w18
theorem s_Hh_read_0 {g : Gp} {l : Launch} {D : Nat} (hD : 104 ≤ D) (a0 : Nat) (w : Wd) (r : Int × Wd) (h : Hh_read_0 a0 w = some r) : Rn g l D 106 0 [(0, .inr (.inr a0))] [] w (some (.inl r.1)) r.2 := by
  obtain ⟨D, rfl⟩ : ∃ D1, D = D1 + 1 := ⟨D - 1, by omega⟩
  unfold Hh_read_0 at h
  refine fr_aload_n i106_0 rfl ?_
  obtain ⟨v1, h1, h⟩ := Option.bind_eq_some_iff.mp h
  refine fr_gR (k := 2) i106_1 tf11_2 h1 ?_
  refine fr_aload_n i106_4 rfl ?_
  obtain ⟨v5, h5, h⟩ := Option.bind_eq_some_iff.mp h
  refine fr_gR (k := 0) i106_5 tf11_0 h5 ?_
  refine fr_aload_n i106_8 rfl ?_
  obtain ⟨v9, h9, h⟩ := Option.bind_eq_some_iff.mp h
  refine fr_gI (k := 1) i106_9 tf11_1 h9 ?_
  obtain ⟨r12, h12, h⟩ := Option.bind_eq_some_iff.mp h
  obtain ⟨g12, c12⟩ := S_Rd_readText v1 v5 v9 w r12 h12
  refine fr_callV (a := v1) (As := [.inr (.inr v5), .inl v9]) (st := []) i106_12 (cq55 v1 v5 v9) rfl (Nat.le_of_ble_eq_true rfl) g12 (c12 _ (by omega)) ?_
  show Rn _ _ _ _ _ _ [.inl r12.1] _ _ _
  refine rn_istore_n (ls1 := [(1, .inl r12.1), (0, .inr (.inr a0))]) i106_15 rfl ?_
  refine fr_aload_n i106_16 rfl ?_
  refine rn_iconst i106_17 ?_
  obtain ⟨w18, h18, h⟩ := Option.bind_eq_some_iff.mp h
  refine fr_pI (k := 1) i106_18 (pf11_1 106) h18 ?_
  refine rn_iload_n i106_21 rfl ?_
  by_cases c22 : (r12.1 : Int) = 0
  · rw [if_pos c22] at h
    refine rn_if_ne_f i106_22 c22 ?_
    refine fr_aload_n i106_25 rfl ?_
    obtain ⟨r26, h26, h⟩ := Option.bind_eq_some_iff.mp h
    obtain ⟨g26, c26⟩ := S_Hh_beginAnew a0 w18 r26 h26
    refine fr_callV (a := a0) (As := []) (st := []) i106_26 (cq107 a0) rfl (Nat.le_of_ble_eq_true rfl) g26 (c26 _ (by omega)) ?_
    exact rn_sub [0] rfl (s_Hh_read_29 hD r12.1 r26 r h)
  · rw [if_neg c22] at h
    refine rn_if_ne_t i106_22 c22 ?_
    exact rn_sub [0] rfl (s_Hh_read_29 hD r12.1 w18 r h)
/-- HandHeirs.read()I -/
def Hh_read (a0 : Nat) (w : Wd) : Option (Int × Wd) := gd 11 w a0 (Hh_read_0 a0 w)
theorem S_Hh_read {g : Gp} {l : Launch} (a0 : Nat) (w : Wd) (r : Int × Wd) (h : Hh_read a0 w = some r) : (wsh w a0).1 = 11 ∧ ∀ D, 104 ≤ D → Rn g l D 106 0 [(0, .inr (.inr a0))] [] w (some (.inl r.1)) r.2 := by
  obtain ⟨hg, h⟩ := gd_some h
  exact ⟨hg, fun D hD => rn_sub [0] rfl (s_Hh_read_0 hD a0 w r h)⟩
def Hh_place_0 (a0 : Nat) (w : Wd) : Option (Int × Wd) :=
  (fgR w a0 11 2).bind fun v1 =>
  (fgI w v1 6 0).bind fun v4 =>
  some (v4, w)
theorem s_Hh_place_0 {g : Gp} {l : Launch} {D : Nat} (hD : 0 ≤ D) (a0 : Nat) (w : Wd) (r : Int × Wd) (h : Hh_place_0 a0 w = some r) : Rn g l D 108 0 [(0, .inr (.inr a0))] [] w (some (.inl r.1)) r.2 := by
  unfold Hh_place_0 at h
  refine fr_aload_n i108_0 rfl ?_
  obtain ⟨v1, h1, h⟩ := Option.bind_eq_some_iff.mp h
  refine fr_gR (k := 2) i108_1 tf11_2 h1 ?_
  obtain ⟨v4, h4, h⟩ := Option.bind_eq_some_iff.mp h
  refine fr_gI (k := 0) i108_4 tf6_0 h4 ?_
  obtain rfl := Option.some.inj h
  exact rn_retI i108_7 mr108
/-- HandHeirs.place()I -/
def Hh_place (a0 : Nat) (w : Wd) : Option (Int × Wd) := gd 11 w a0 (Hh_place_0 a0 w)
theorem S_Hh_place {g : Gp} {l : Launch} (a0 : Nat) (w : Wd) (r : Int × Wd) (h : Hh_place a0 w = some r) : (wsh w a0).1 = 11 ∧ ∀ D, 0 ≤ D → Rn g l D 108 0 [(0, .inr (.inr a0))] [] w (some (.inl r.1)) r.2 := by
  obtain ⟨hg, h⟩ := gd_some h
  exact ⟨hg, fun D hD => rn_sub [0] rfl (s_Hh_place_0 hD a0 w r h)⟩
def Hh_isLetter_20 (s0 : Int) (w : Wd) : Option (Int × Wd) :=
  rZ s0 w
theorem s_Hh_isLetter_20 {g : Gp} {l : Launch} {D : Nat} (hD : 0 ≤ D) (s0 : Int) (w : Wd) (r : Int × Wd) (h : Hh_isLetter_20 s0 w = some r) : Rn g l D 109 20 [] [.inl s0] w (some (.inl r.1)) r.2 := by
  unfold Hh_isLetter_20 at h
  exact fr_retZ i109_20 mr109 h
def Hh_isLetter_19 (w : Wd) : Option (Int × Wd) :=
  Hh_isLetter_20 0 w
theorem s_Hh_isLetter_19 {g : Gp} {l : Launch} {D : Nat} (hD : 0 ≤ D) (w : Wd) (r : Int × Wd) (h : Hh_isLetter_19 w = some r) : Rn g l D 109 19 [] [] w (some (.inl r.1)) r.2 := by
  unfold Hh_isLetter_19 at h
  refine rn_iconst i109_19 ?_
  exact rn_sub [] rfl (s_Hh_isLetter_20 hD 0 w r h)
def Hh_isLetter_0 (a0 : Nat) (x1 : Int) (w : Wd) : Option (Int × Wd) :=
  if (x1 : Int) < 0 then
    Hh_isLetter_19 w
  else
    (fgR w a0 11 3).bind fun v6 =>
    (fgI w v6 10 0).bind fun v9 =>
    if (v9 : Int) ≤ x1 then
      Hh_isLetter_19 w
    else
      Hh_isLetter_20 1 w
theorem s_Hh_isLetter_0 {g : Gp} {l : Launch} {D : Nat} (hD : 0 ≤ D) (a0 : Nat) (x1 : Int) (w : Wd) (r : Int × Wd) (h : Hh_isLetter_0 a0 x1 w = some r) : Rn g l D 109 0 [(0, .inr (.inr a0)), (1, .inl x1)] [] w (some (.inl r.1)) r.2 := by
  unfold Hh_isLetter_0 at h
  refine rn_iload_n i109_0 rfl ?_
  by_cases c1 : (x1 : Int) < 0
  · rw [if_pos c1] at h
    refine rn_if_lt_t i109_1 c1 ?_
    exact rn_sub [] rfl (s_Hh_isLetter_19 hD w r h)
  · rw [if_neg c1] at h
    refine rn_if_lt_f i109_1 c1 ?_
    refine rn_iload_n i109_4 rfl ?_
    refine fr_aload_n i109_5 rfl ?_
    obtain ⟨v6, h6, h⟩ := Option.bind_eq_some_iff.mp h
    refine fr_gR (k := 3) i109_6 tf11_3 h6 ?_
    obtain ⟨v9, h9, h⟩ := Option.bind_eq_some_iff.mp h
    refine fr_gI (k := 0) i109_9 tf10_0 h9 ?_
    by_cases c12 : (v9 : Int) ≤ x1
    · rw [if_pos c12] at h
      refine rn_icmp_ge_t i109_12 c12 ?_
      exact rn_sub [] rfl (s_Hh_isLetter_19 hD w r h)
    · rw [if_neg c12] at h
      refine rn_icmp_ge_f i109_12 c12 ?_
      refine rn_iconst i109_15 ?_
      refine rn_goto i109_16 ?_
      exact rn_sub [] rfl (s_Hh_isLetter_20 hD 1 w r h)
/-- HandHeirs.isLetter(I)Z -/
def Hh_isLetter (a0 : Nat) (x1 : Int) (w : Wd) : Option (Int × Wd) := gd 11 w a0 (Hh_isLetter_0 a0 x1 w)
theorem S_Hh_isLetter {g : Gp} {l : Launch} (a0 : Nat) (x1 : Int) (w : Wd) (r : Int × Wd) (h : Hh_isLetter a0 x1 w = some r) : (wsh w a0).1 = 11 ∧ ∀ D, 0 ≤ D → Rn g l D 109 0 [(0, .inr (.inr a0)), (1, .inl x1)] [] w (some (.inl r.1)) r.2 := by
  obtain ⟨hg, h⟩ := gd_some h
  exact ⟨hg, fun D hD => rn_sub [0, 1] rfl (s_Hh_isLetter_0 hD a0 x1 w r h)⟩
def Hh_isHeir_20 (s0 : Int) (w : Wd) : Option (Int × Wd) :=
  rZ s0 w
theorem s_Hh_isHeir_20 {g : Gp} {l : Launch} {D : Nat} (hD : 0 ≤ D) (s0 : Int) (w : Wd) (r : Int × Wd) (h : Hh_isHeir_20 s0 w = some r) : Rn g l D 110 20 [] [.inl s0] w (some (.inl r.1)) r.2 := by
  unfold Hh_isHeir_20 at h
  exact fr_retZ i110_20 mr110 h
def Hh_isHeir_19 (w : Wd) : Option (Int × Wd) :=
  Hh_isHeir_20 0 w
theorem s_Hh_isHeir_19 {g : Gp} {l : Launch} {D : Nat} (hD : 0 ≤ D) (w : Wd) (r : Int × Wd) (h : Hh_isHeir_19 w = some r) : Rn g l D 110 19 [] [] w (some (.inl r.1)) r.2 := by
  unfold Hh_isHeir_19 at h
  refine rn_iconst i110_19 ?_
  exact rn_sub [] rfl (s_Hh_isHeir_20 hD 0 w r h)
def Hh_isHeir_0 (a0 : Nat) (x1 : Int) (w : Wd) : Option (Int × Wd) :=
  if (x1 : Int) < 0 then
    Hh_isHeir_19 w
  else
    (fgR w a0 11 3).bind fun v6 =>
    (fgI w v6 10 1).bind fun v9 =>
    if (v9 : Int) ≤ x1 then
      Hh_isHeir_19 w
    else
      Hh_isHeir_20 1 w
theorem s_Hh_isHeir_0 {g : Gp} {l : Launch} {D : Nat} (hD : 0 ≤ D) (a0 : Nat) (x1 : Int) (w : Wd) (r : Int × Wd) (h : Hh_isHeir_0 a0 x1 w = some r) : Rn g l D 110 0 [(0, .inr (.inr a0)), (1, .inl x1)] [] w (some (.inl r.1)) r.2 := by
  unfold Hh_isHeir_0 at h
  refine rn_iload_n i110_0 rfl ?_
  by_cases c1 : (x1 : Int) < 0
  · rw [if_pos c1] at h
    refine rn_if_lt_t i110_1 c1 ?_
    exact rn_sub [] rfl (s_Hh_isHeir_19 hD w r h)
  · rw [if_neg c1] at h
    refine rn_if_lt_f i110_1 c1 ?_
    refine rn_iload_n i110_4 rfl ?_
    refine fr_aload_n i110_5 rfl ?_
    obtain ⟨v6, h6, h⟩ := Option.bind_eq_some_iff.mp h
    refine fr_gR (k := 3) i110_6 tf11_3 h6 ?_
    obtain ⟨v9, h9, h⟩ := Option.bind_eq_some_iff.mp h
    refine fr_gI (k := 1) i110_9 tf10_1 h9 ?_
    by_cases c12 : (v9 : Int) ≤ x1
    · rw [if_pos c12] at h
      refine rn_icmp_ge_t i110_12 c12 ?_
      exact rn_sub [] rfl (s_Hh_isHeir_19 hD w r h)
    · rw [if_neg c12] at h
      refine rn_icmp_ge_f i110_12 c12 ?_
      refine rn_iconst i110_15 ?_
      refine rn_goto i110_16 ?_
      exact rn_sub [] rfl (s_Hh_isHeir_20 hD 1 w r h)
/-- HandHeirs.isHeir(I)Z -/
def Hh_isHeir (a0 : Nat) (x1 : Int) (w : Wd) : Option (Int × Wd) := gd 11 w a0 (Hh_isHeir_0 a0 x1 w)
theorem S_Hh_isHeir {g : Gp} {l : Launch} (a0 : Nat) (x1 : Int) (w : Wd) (r : Int × Wd) (h : Hh_isHeir a0 x1 w = some r) : (wsh w a0).1 = 11 ∧ ∀ D, 0 ≤ D → Rn g l D 110 0 [(0, .inr (.inr a0)), (1, .inl x1)] [] w (some (.inl r.1)) r.2 := by
  obtain ⟨hg, h⟩ := gd_some h
  exact ⟨hg, fun D hD => rn_sub [0, 1] rfl (s_Hh_isHeir_0 hD a0 x1 w r h)⟩
def Hh_isMaster_20 (s0 : Int) (w : Wd) : Option (Int × Wd) :=
  rZ s0 w
theorem s_Hh_isMaster_20 {g : Gp} {l : Launch} {D : Nat} (hD : 0 ≤ D) (s0 : Int) (w : Wd) (r : Int × Wd) (h : Hh_isMaster_20 s0 w = some r) : Rn g l D 111 20 [] [.inl s0] w (some (.inl r.1)) r.2 := by
  unfold Hh_isMaster_20 at h
  exact fr_retZ i111_20 mr111 h
def Hh_isMaster_19 (w : Wd) : Option (Int × Wd) :=
  Hh_isMaster_20 0 w
theorem s_Hh_isMaster_19 {g : Gp} {l : Launch} {D : Nat} (hD : 0 ≤ D) (w : Wd) (r : Int × Wd) (h : Hh_isMaster_19 w = some r) : Rn g l D 111 19 [] [] w (some (.inl r.1)) r.2 := by
  unfold Hh_isMaster_19 at h
  refine rn_iconst i111_19 ?_
  exact rn_sub [] rfl (s_Hh_isMaster_20 hD 0 w r h)
def Hh_isMaster_0 (a0 : Nat) (x1 : Int) (w : Wd) : Option (Int × Wd) :=
  if (x1 : Int) < 0 then
    Hh_isMaster_19 w
  else
    (fgR w a0 11 3).bind fun v6 =>
    (fgI w v6 10 2).bind fun v9 =>
    if (v9 : Int) ≤ x1 then
      Hh_isMaster_19 w
    else
      Hh_isMaster_20 1 w
theorem s_Hh_isMaster_0 {g : Gp} {l : Launch} {D : Nat} (hD : 0 ≤ D) (a0 : Nat) (x1 : Int) (w : Wd) (r : Int × Wd) (h : Hh_isMaster_0 a0 x1 w = some r) : Rn g l D 111 0 [(0, .inr (.inr a0)), (1, .inl x1)] [] w (some (.inl r.1)) r.2 := by
  unfold Hh_isMaster_0 at h
  refine rn_iload_n i111_0 rfl ?_
  by_cases c1 : (x1 : Int) < 0
  · rw [if_pos c1] at h
    refine rn_if_lt_t i111_1 c1 ?_
    exact rn_sub [] rfl (s_Hh_isMaster_19 hD w r h)
  · rw [if_neg c1] at h
    refine rn_if_lt_f i111_1 c1 ?_
    refine rn_iload_n i111_4 rfl ?_
    refine fr_aload_n i111_5 rfl ?_
    obtain ⟨v6, h6, h⟩ := Option.bind_eq_some_iff.mp h
    refine fr_gR (k := 3) i111_6 tf11_3 h6 ?_
    obtain ⟨v9, h9, h⟩ := Option.bind_eq_some_iff.mp h
    refine fr_gI (k := 2) i111_9 tf10_2 h9 ?_
    by_cases c12 : (v9 : Int) ≤ x1
    · rw [if_pos c12] at h
      refine rn_icmp_ge_t i111_12 c12 ?_
      exact rn_sub [] rfl (s_Hh_isMaster_19 hD w r h)
    · rw [if_neg c12] at h
      refine rn_icmp_ge_f i111_12 c12 ?_
      refine rn_iconst i111_15 ?_
      refine rn_goto i111_16 ?_
      exact rn_sub [] rfl (s_Hh_isMaster_20 hD 1 w r h)
/-- HandHeirs.isMaster(I)Z -/
def Hh_isMaster (a0 : Nat) (x1 : Int) (w : Wd) : Option (Int × Wd) := gd 11 w a0 (Hh_isMaster_0 a0 x1 w)
theorem S_Hh_isMaster {g : Gp} {l : Launch} (a0 : Nat) (x1 : Int) (w : Wd) (r : Int × Wd) (h : Hh_isMaster a0 x1 w = some r) : (wsh w a0).1 = 11 ∧ ∀ D, 0 ≤ D → Rn g l D 111 0 [(0, .inr (.inr a0)), (1, .inl x1)] [] w (some (.inl r.1)) r.2 := by
  obtain ⟨hg, h⟩ := gd_some h
  exact ⟨hg, fun D hD => rn_sub [0, 1] rfl (s_Hh_isMaster_0 hD a0 x1 w r h)⟩
def Hh_isWithin_15 (s0 : Int) (w : Wd) : Option (Int × Wd) :=
  rZ s0 w
theorem s_Hh_isWithin_15 {g : Gp} {l : Launch} {D : Nat} (hD : 0 ≤ D) (s0 : Int) (w : Wd) (r : Int × Wd) (h : Hh_isWithin_15 s0 w = some r) : Rn g l D 112 15 [] [.inl s0] w (some (.inl r.1)) r.2 := by
  unfold Hh_isWithin_15 at h
  exact fr_retZ i112_15 mr112 h
def Hh_isWithin_14 (w : Wd) : Option (Int × Wd) :=
  Hh_isWithin_15 0 w
theorem s_Hh_isWithin_14 {g : Gp} {l : Launch} {D : Nat} (hD : 0 ≤ D) (w : Wd) (r : Int × Wd) (h : Hh_isWithin_14 w = some r) : Rn g l D 112 14 [] [] w (some (.inl r.1)) r.2 := by
  unfold Hh_isWithin_14 at h
  refine rn_iconst i112_14 ?_
  exact rn_sub [] rfl (s_Hh_isWithin_15 hD 0 w r h)
def Hh_isWithin_0 (x0 : Int) (x1 : Int) (x2 : Int) (w : Wd) : Option (Int × Wd) :=
  if (x0 : Int) < x1 then
    Hh_isWithin_14 w
  else
    if (x2 : Int) < x0 then
      Hh_isWithin_14 w
    else
      Hh_isWithin_15 1 w
theorem s_Hh_isWithin_0 {g : Gp} {l : Launch} {D : Nat} (hD : 0 ≤ D) (x0 : Int) (x1 : Int) (x2 : Int) (w : Wd) (r : Int × Wd) (h : Hh_isWithin_0 x0 x1 x2 w = some r) : Rn g l D 112 0 [(0, .inl x0), (1, .inl x1), (2, .inl x2)] [] w (some (.inl r.1)) r.2 := by
  unfold Hh_isWithin_0 at h
  refine rn_iload_n i112_0 rfl ?_
  refine rn_iload_n i112_1 rfl ?_
  by_cases c2 : (x0 : Int) < x1
  · rw [if_pos c2] at h
    refine rn_icmp_lt_t i112_2 c2 ?_
    exact rn_sub [] rfl (s_Hh_isWithin_14 hD w r h)
  · rw [if_neg c2] at h
    refine rn_icmp_lt_f i112_2 c2 ?_
    refine rn_iload_n i112_5 rfl ?_
    refine rn_iload_n i112_6 rfl ?_
    by_cases c7 : (x2 : Int) < x0
    · rw [if_pos c7] at h
      refine rn_icmp_gt_t i112_7 c7 ?_
      exact rn_sub [] rfl (s_Hh_isWithin_14 hD w r h)
    · rw [if_neg c7] at h
      refine rn_icmp_gt_f i112_7 c7 ?_
      refine rn_iconst i112_10 ?_
      refine rn_goto i112_11 ?_
      exact rn_sub [] rfl (s_Hh_isWithin_15 hD 1 w r h)
/-- HandHeirs.isWithin(III)Z -/
def Hh_isWithin (x0 : Int) (x1 : Int) (x2 : Int) (w : Wd) : Option (Int × Wd) := Hh_isWithin_0 x0 x1 x2 w
theorem S_Hh_isWithin {g : Gp} {l : Launch} (x0 : Int) (x1 : Int) (x2 : Int) (w : Wd) (r : Int × Wd) (h : Hh_isWithin x0 x1 x2 w = some r) : ∀ D, 0 ≤ D → Rn g l D 112 0 [(0, .inl x0), (1, .inl x1), (2, .inl x2)] [] w (some (.inl r.1)) r.2 := fun D hD => rn_sub [0, 1, 2] rfl (s_Hh_isWithin_0 hD x0 x1 x2 w r h)
def Hh_hand_21 (s0 : Int) (w : Wd) : Option (Int × Wd) :=
  some (s0, w)
theorem s_Hh_hand_21 {g : Gp} {l : Launch} {D : Nat} (hD : 1 ≤ D) (s0 : Int) (w : Wd) (r : Int × Wd) (h : Hh_hand_21 s0 w = some r) : Rn g l D 113 21 [] [.inl s0] w (some (.inl r.1)) r.2 := by
  unfold Hh_hand_21 at h
  obtain rfl := Option.some.inj h
  exact rn_retI i113_21 mr113
def Hh_hand_0 (a0 : Nat) (x1 : Int) (w : Wd) : Option (Int × Wd) :=
  (Hh_isLetter a0 x1 w).bind fun r2 =>
  if (r2.1 : Int) = 0 then
    Hh_hand_21 (-1) r2.2
  else
    (fgR r2.2 a0 11 4).bind fun v9 =>
    (fgR r2.2 v9 9 3).bind fun v12 =>
    (rdI r2.2 v12 x1).bind fun v16 =>
    Hh_hand_21 v16 r2.2
theorem s_Hh_hand_0 {g : Gp} {l : Launch} {D : Nat} (hD : 1 ≤ D) (a0 : Nat) (x1 : Int) (w : Wd) (r : Int × Wd) (h : Hh_hand_0 a0 x1 w = some r) : Rn g l D 113 0 [(0, .inr (.inr a0)), (1, .inl x1)] [] w (some (.inl r.1)) r.2 := by
  obtain ⟨D, rfl⟩ : ∃ D1, D = D1 + 1 := ⟨D - 1, by omega⟩
  unfold Hh_hand_0 at h
  refine fr_aload_n i113_0 rfl ?_
  refine rn_iload_n i113_1 rfl ?_
  obtain ⟨r2, h2, h⟩ := Option.bind_eq_some_iff.mp h
  obtain ⟨g2, c2⟩ := S_Hh_isLetter a0 x1 w r2 h2
  refine fr_callV (a := a0) (As := [.inl x1]) (st := []) i113_2 (cq109 a0 x1) rfl (Nat.le_of_ble_eq_true rfl) g2 (c2 _ (by omega)) ?_
  show Rn _ _ _ _ _ _ [.inl r2.1] _ _ _
  by_cases c5 : (r2.1 : Int) = 0
  · rw [if_pos c5] at h
    refine rn_if_eq_t i113_5 c5 ?_
    refine rn_iconst i113_20 ?_
    exact rn_sub [] rfl (s_Hh_hand_21 hD (-1) r2.2 r h)
  · rw [if_neg c5] at h
    refine rn_if_eq_f i113_5 c5 ?_
    refine fr_aload_n i113_8 rfl ?_
    obtain ⟨v9, h9, h⟩ := Option.bind_eq_some_iff.mp h
    refine fr_gR (k := 4) i113_9 tf11_4 h9 ?_
    obtain ⟨v12, h12, h⟩ := Option.bind_eq_some_iff.mp h
    refine fr_gR (k := 3) i113_12 tf9_3 h12 ?_
    refine rn_iload_n i113_15 rfl ?_
    obtain ⟨v16, h16, h⟩ := Option.bind_eq_some_iff.mp h
    refine rn_iald i113_16 h16 ?_
    refine rn_goto i113_17 ?_
    exact rn_sub [] rfl (s_Hh_hand_21 hD v16 r2.2 r h)
/-- HandHeirs.hand(I)I -/
def Hh_hand (a0 : Nat) (x1 : Int) (w : Wd) : Option (Int × Wd) := gd 11 w a0 (Hh_hand_0 a0 x1 w)
theorem S_Hh_hand {g : Gp} {l : Launch} (a0 : Nat) (x1 : Int) (w : Wd) (r : Int × Wd) (h : Hh_hand a0 x1 w = some r) : (wsh w a0).1 = 11 ∧ ∀ D, 1 ≤ D → Rn g l D 113 0 [(0, .inr (.inr a0)), (1, .inl x1)] [] w (some (.inl r.1)) r.2 := by
  obtain ⟨hg, h⟩ := gd_some h
  exact ⟨hg, fun D hD => rn_sub [0, 1] rfl (s_Hh_hand_0 hD a0 x1 w r h)⟩
def Hh_shape_16 (w : Wd) : Option (Int × Wd) :=
  some ((-1), w)
theorem s_Hh_shape_16 {g : Gp} {l : Launch} {D : Nat} (hD : 3 ≤ D) (w : Wd) (r : Int × Wd) (h : Hh_shape_16 w = some r) : Rn g l D 114 16 [] [] w (some (.inl r.1)) r.2 := by
  unfold Hh_shape_16 at h
  refine rn_iconst i114_16 ?_
  obtain rfl := Option.some.inj h
  exact rn_retI i114_17 mr114
def Hh_shape_0 (a0 : Nat) (x1 : Int) (x2 : Int) (x3 : Int) (w : Wd) : Option (Int × Wd) :=
  (Hh_isHeir a0 x1 w).bind fun r2 =>
  if (r2.1 : Int) = 0 then
    Hh_shape_16 r2.2
  else
    (Hh_isLetter a0 x2 r2.2).bind fun r10 =>
    if (r10.1 : Int) = 0 then
      Hh_shape_16 r10.2
    else
      if (x3 : Int) = 0 then
        (fgR r10.2 a0 11 4).bind fun v45 =>
        (St_own v45 x1 x2 r10.2).bind fun r50 =>
        some (r50.1, r50.2)
      else
        if (x3 : Int) = 1 then
          (fgR r10.2 a0 11 3).bind fun v55 =>
          (fgR r10.2 a0 11 4).bind fun v59 =>
          (fgR r10.2 a0 11 3).bind fun v63 =>
          (fgI r10.2 v63 10 5).bind fun v66 =>
          (Ct_written v55 v59 v66 x1 x2 r10.2).bind fun r71 =>
          some (r71.1, r71.2)
        else
          if (x3 : Int) = 2 then
            (fgR r10.2 a0 11 4).bind fun v76 =>
            (St_off v76 x1 x2 r10.2).bind fun r81 =>
            some (r81.1, r81.2)
          else
            some ((-1), r10.2)
theorem s_Hh_shape_0 {g : Gp} {l : Launch} {D : Nat} (hD : 3 ≤ D) (a0 : Nat) (x1 : Int) (x2 : Int) (x3 : Int) (w : Wd) (r : Int × Wd) (h : Hh_shape_0 a0 x1 x2 x3 w = some r) : Rn g l D 114 0 [(0, .inr (.inr a0)), (1, .inl x1), (2, .inl x2), (3, .inl x3)] [] w (some (.inl r.1)) r.2 := by
  obtain ⟨D, rfl⟩ : ∃ D1, D = D1 + 1 := ⟨D - 1, by omega⟩
  unfold Hh_shape_0 at h
  refine fr_aload_n i114_0 rfl ?_
  refine rn_iload_n i114_1 rfl ?_
  obtain ⟨r2, h2, h⟩ := Option.bind_eq_some_iff.mp h
  obtain ⟨g2, c2⟩ := S_Hh_isHeir a0 x1 w r2 h2
  refine fr_callV (a := a0) (As := [.inl x1]) (st := []) i114_2 (cq110 a0 x1) rfl (Nat.le_of_ble_eq_true rfl) g2 (c2 _ (by omega)) ?_
  show Rn _ _ _ _ _ _ [.inl r2.1] _ _ _
  by_cases c5 : (r2.1 : Int) = 0
  · rw [if_pos c5] at h
    refine rn_if_eq_t i114_5 c5 ?_
    exact rn_sub [] rfl (s_Hh_shape_16 hD r2.2 r h)
  · rw [if_neg c5] at h
    refine rn_if_eq_f i114_5 c5 ?_
    refine fr_aload_n i114_8 rfl ?_
    refine rn_iload_n i114_9 rfl ?_
    obtain ⟨r10, h10, h⟩ := Option.bind_eq_some_iff.mp h
    obtain ⟨g10, c10⟩ := S_Hh_isLetter a0 x2 r2.2 r10 h10
    refine fr_callV (a := a0) (As := [.inl x2]) (st := []) i114_10 (cq109 a0 x2) rfl (Nat.le_of_ble_eq_true rfl) g10 (c10 _ (by omega)) ?_
    show Rn _ _ _ _ _ _ [.inl r10.1] _ _ _
    by_cases c13 : (r10.1 : Int) = 0
    · rw [if_pos c13] at h
      refine rn_if_ne_f i114_13 c13 ?_
      exact rn_sub [] rfl (s_Hh_shape_16 hD r10.2 r h)
    · rw [if_neg c13] at h
      refine rn_if_ne_t i114_13 c13 ?_
      refine rn_iload_n i114_18 rfl ?_
      by_cases c19_0 : (x3 : Int) = 0
      · rw [if_pos c19_0] at h
        refine rn_tsw_in (tgt := 44) i114_19 0 (by omega) (by omega) rfl rfl ?_
        refine fr_aload_n i114_44 rfl ?_
        obtain ⟨v45, h45, h⟩ := Option.bind_eq_some_iff.mp h
        refine fr_gR (k := 4) i114_45 tf11_4 h45 ?_
        refine rn_iload_n i114_48 rfl ?_
        refine rn_iload_n i114_49 rfl ?_
        obtain ⟨r50, h50, h⟩ := Option.bind_eq_some_iff.mp h
        obtain ⟨g50, c50⟩ := S_St_own v45 x1 x2 r10.2 r50 h50
        refine fr_callV (a := v45) (As := [.inl x1, .inl x2]) (st := []) i114_50 (cq91 v45 x1 x2) rfl (Nat.le_of_ble_eq_true rfl) g50 (c50 _ (by omega)) ?_
        show Rn _ _ _ _ _ _ [.inl r50.1] _ _ _
        obtain rfl := Option.some.inj h
        exact rn_retI i114_53 mr114
      · rw [if_neg c19_0] at h
        by_cases c19_1 : (x3 : Int) = 1
        · rw [if_pos c19_1] at h
          refine rn_tsw_in (tgt := 54) i114_19 1 (by omega) (by omega) rfl rfl ?_
          refine fr_aload_n i114_54 rfl ?_
          obtain ⟨v55, h55, h⟩ := Option.bind_eq_some_iff.mp h
          refine fr_gR (k := 3) i114_55 tf11_3 h55 ?_
          refine fr_aload_n i114_58 rfl ?_
          obtain ⟨v59, h59, h⟩ := Option.bind_eq_some_iff.mp h
          refine fr_gR (k := 4) i114_59 tf11_4 h59 ?_
          refine fr_aload_n i114_62 rfl ?_
          obtain ⟨v63, h63, h⟩ := Option.bind_eq_some_iff.mp h
          refine fr_gR (k := 3) i114_63 tf11_3 h63 ?_
          obtain ⟨v66, h66, h⟩ := Option.bind_eq_some_iff.mp h
          refine fr_gI (k := 5) i114_66 tf10_5 h66 ?_
          refine rn_iload_n i114_69 rfl ?_
          refine rn_iload_n i114_70 rfl ?_
          obtain ⟨r71, h71, h⟩ := Option.bind_eq_some_iff.mp h
          refine fr_callS (nst := 0) (As := [.inr (.inr v55), .inr (.inr v59), .inl v66, .inl x1, .inl x2]) (st := []) i114_71 (cq25 v55 v59 v66 x1 x2) rfl (Nat.le_of_ble_eq_true rfl) (S_Ct_written v55 v59 v66 x1 x2 r10.2 r71 h71 _ (by omega)) ?_
          show Rn _ _ _ _ _ _ [.inl r71.1] _ _ _
          obtain rfl := Option.some.inj h
          exact rn_retI i114_74 mr114
        · rw [if_neg c19_1] at h
          by_cases c19_2 : (x3 : Int) = 2
          · rw [if_pos c19_2] at h
            refine rn_tsw_in (tgt := 75) i114_19 2 (by omega) (by omega) rfl rfl ?_
            refine fr_aload_n i114_75 rfl ?_
            obtain ⟨v76, h76, h⟩ := Option.bind_eq_some_iff.mp h
            refine fr_gR (k := 4) i114_76 tf11_4 h76 ?_
            refine rn_iload_n i114_79 rfl ?_
            refine rn_iload_n i114_80 rfl ?_
            obtain ⟨r81, h81, h⟩ := Option.bind_eq_some_iff.mp h
            obtain ⟨g81, c81⟩ := S_St_off v76 x1 x2 r10.2 r81 h81
            refine fr_callV (a := v76) (As := [.inl x1, .inl x2]) (st := []) i114_81 (cq92 v76 x1 x2) rfl (Nat.le_of_ble_eq_true rfl) g81 (c81 _ (by omega)) ?_
            show Rn _ _ _ _ _ _ [.inl r81.1] _ _ _
            obtain rfl := Option.some.inj h
            exact rn_retI i114_84 mr114
          · rw [if_neg c19_2] at h
            refine rn_tsw_out (tgt := 85) i114_19 (by omega) rfl ?_
            refine rn_iconst i114_85 ?_
            obtain rfl := Option.some.inj h
            exact rn_retI i114_86 mr114
/-- HandHeirs.shape(III)I -/
def Hh_shape (a0 : Nat) (x1 : Int) (x2 : Int) (x3 : Int) (w : Wd) : Option (Int × Wd) := gd 11 w a0 (Hh_shape_0 a0 x1 x2 x3 w)
theorem S_Hh_shape {g : Gp} {l : Launch} (a0 : Nat) (x1 : Int) (x2 : Int) (x3 : Int) (w : Wd) (r : Int × Wd) (h : Hh_shape a0 x1 x2 x3 w = some r) : (wsh w a0).1 = 11 ∧ ∀ D, 3 ≤ D → Rn g l D 114 0 [(0, .inr (.inr a0)), (1, .inl x1), (2, .inl x2), (3, .inl x3)] [] w (some (.inl r.1)) r.2 := by
  obtain ⟨hg, h⟩ := gd_some h
  exact ⟨hg, fun D hD => rn_sub [0, 1, 2, 3] rfl (s_Hh_shape_0 hD a0 x1 x2 x3 w r h)⟩
def Hh_sumNow_0 (a0 : Nat) (x1 : Int) (w : Wd) : Option (Int × Wd) :=
  (fgR w a0 11 10).bind fun v1 =>
  (fgR w a0 11 3).bind fun v5 =>
  (fgR w a0 11 4).bind fun v9 =>
  (fgR w a0 11 3).bind fun v13 =>
  (fgI w v13 10 5).bind fun v16 =>
  (Ct_compare v1 v5 v9 v16 w).bind fun r19 =>
  (fgR r19 a0 11 10).bind fun v23 =>
  (fgR r19 a0 11 3).bind fun v27 =>
  (Ct_sum v23 v27 x1 (-1) r19).bind fun r32 =>
  some (r32.1, r32.2)
theorem s_Hh_sumNow_0 {g : Gp} {l : Launch} {D : Nat} (hD : 4 ≤ D) (a0 : Nat) (x1 : Int) (w : Wd) (r : Int × Wd) (h : Hh_sumNow_0 a0 x1 w = some r) : Rn g l D 116 0 [(0, .inr (.inr a0)), (1, .inl x1)] [] w (some (.inl r.1)) r.2 := by
  obtain ⟨D, rfl⟩ : ∃ D1, D = D1 + 1 := ⟨D - 1, by omega⟩
  unfold Hh_sumNow_0 at h
  refine fr_aload_n i116_0 rfl ?_
  obtain ⟨v1, h1, h⟩ := Option.bind_eq_some_iff.mp h
  refine fr_gR (k := 10) i116_1 tf11_10 h1 ?_
  refine fr_aload_n i116_4 rfl ?_
  obtain ⟨v5, h5, h⟩ := Option.bind_eq_some_iff.mp h
  refine fr_gR (k := 3) i116_5 tf11_3 h5 ?_
  refine fr_aload_n i116_8 rfl ?_
  obtain ⟨v9, h9, h⟩ := Option.bind_eq_some_iff.mp h
  refine fr_gR (k := 4) i116_9 tf11_4 h9 ?_
  refine fr_aload_n i116_12 rfl ?_
  obtain ⟨v13, h13, h⟩ := Option.bind_eq_some_iff.mp h
  refine fr_gR (k := 3) i116_13 tf11_3 h13 ?_
  obtain ⟨v16, h16, h⟩ := Option.bind_eq_some_iff.mp h
  refine fr_gI (k := 5) i116_16 tf10_5 h16 ?_
  obtain ⟨r19, h19, h⟩ := Option.bind_eq_some_iff.mp h
  obtain ⟨g19, c19⟩ := S_Ct_compare v1 v5 v9 v16 w r19 h19
  refine fr_callV (a := v1) (As := [.inr (.inr v5), .inr (.inr v9), .inl v16]) (st := []) i116_19 (cq26 v1 v5 v9 v16) rfl (Nat.le_of_ble_eq_true rfl) g19 (c19 _ (by omega)) ?_
  refine fr_aload_n i116_22 rfl ?_
  obtain ⟨v23, h23, h⟩ := Option.bind_eq_some_iff.mp h
  refine fr_gR (k := 10) i116_23 tf11_10 h23 ?_
  refine fr_aload_n i116_26 rfl ?_
  obtain ⟨v27, h27, h⟩ := Option.bind_eq_some_iff.mp h
  refine fr_gR (k := 3) i116_27 tf11_3 h27 ?_
  refine rn_iload_n i116_30 rfl ?_
  refine rn_iconst i116_31 ?_
  obtain ⟨r32, h32, h⟩ := Option.bind_eq_some_iff.mp h
  obtain ⟨g32, c32⟩ := S_Ct_sum v23 v27 x1 (-1) r19 r32 h32
  refine fr_callV (a := v23) (As := [.inr (.inr v27), .inl x1, .inl (-1)]) (st := []) i116_32 (cq27 v23 v27 x1 (-1)) rfl (Nat.le_of_ble_eq_true rfl) g32 (c32 _ (by omega)) ?_
  show Rn _ _ _ _ _ _ [.inl r32.1] _ _ _
  obtain rfl := Option.some.inj h
  exact rn_retI i116_35 mr116
/-- HandHeirs.sumNow(I)I -/
def Hh_sumNow (a0 : Nat) (x1 : Int) (w : Wd) : Option (Int × Wd) := gd 11 w a0 (Hh_sumNow_0 a0 x1 w)
theorem S_Hh_sumNow {g : Gp} {l : Launch} (a0 : Nat) (x1 : Int) (w : Wd) (r : Int × Wd) (h : Hh_sumNow a0 x1 w = some r) : (wsh w a0).1 = 11 ∧ ∀ D, 4 ≤ D → Rn g l D 116 0 [(0, .inr (.inr a0)), (1, .inl x1)] [] w (some (.inl r.1)) r.2 := by
  obtain ⟨hg, h⟩ := gd_some h
  exact ⟨hg, fun D hD => rn_sub [0, 1] rfl (s_Hh_sumNow_0 hD a0 x1 w r h)⟩
def Hh_heir_0 (a0 : Nat) (x1 : Int) (x2 : Int) (w : Wd) : Option (Int × Wd) :=
  (Hh_isHeir a0 x1 w).bind fun r2 =>
  if (r2.1 : Int) = 0 then
    some ((-1), r2.2)
  else
    if (x2 : Int) = 0 then
      (fgR r2.2 a0 11 3).bind fun v45 =>
      (fgR r2.2 v45 10 8).bind fun v48 =>
      (rdI r2.2 v48 x1).bind fun v52 =>
      some (v52, r2.2)
    else
      if (x2 : Int) = 1 then
        (fgR r2.2 a0 11 3).bind fun v55 =>
        (fgR r2.2 v55 10 9).bind fun v58 =>
        (rdI r2.2 v58 x1).bind fun v62 =>
        some (v62, r2.2)
      else
        if (x2 : Int) = 2 then
          (Hh_sumNow a0 x1 r2.2).bind fun r66 =>
          some (r66.1, r66.2)
        else
          if (x2 : Int) = 3 then
            (fgR r2.2 a0 11 4).bind fun v71 =>
            (fgR r2.2 v71 9 5).bind fun v74 =>
            (rdI r2.2 v74 x1).bind fun v78 =>
            some (v78, r2.2)
          else
            if (x2 : Int) = 4 then
              (fgR r2.2 a0 11 3).bind fun v81 =>
              (fgR r2.2 a0 11 4).bind fun v85 =>
              (Wi_learned v81 v85 x1 0 r2.2).bind fun r90 =>
              some (r90.1, r90.2)
            else
              some ((-1), r2.2)
theorem s_Hh_heir_0 {g : Gp} {l : Launch} {D : Nat} (hD : 5 ≤ D) (a0 : Nat) (x1 : Int) (x2 : Int) (w : Wd) (r : Int × Wd) (h : Hh_heir_0 a0 x1 x2 w = some r) : Rn g l D 115 0 [(0, .inr (.inr a0)), (1, .inl x1), (2, .inl x2)] [] w (some (.inl r.1)) r.2 := by
  obtain ⟨D, rfl⟩ : ∃ D1, D = D1 + 1 := ⟨D - 1, by omega⟩
  unfold Hh_heir_0 at h
  refine fr_aload_n i115_0 rfl ?_
  refine rn_iload_n i115_1 rfl ?_
  obtain ⟨r2, h2, h⟩ := Option.bind_eq_some_iff.mp h
  obtain ⟨g2, c2⟩ := S_Hh_isHeir a0 x1 w r2 h2
  refine fr_callV (a := a0) (As := [.inl x1]) (st := []) i115_2 (cq110 a0 x1) rfl (Nat.le_of_ble_eq_true rfl) g2 (c2 _ (by omega)) ?_
  show Rn _ _ _ _ _ _ [.inl r2.1] _ _ _
  by_cases c5 : (r2.1 : Int) = 0
  · rw [if_pos c5] at h
    refine rn_if_ne_f i115_5 c5 ?_
    refine rn_iconst i115_8 ?_
    obtain rfl := Option.some.inj h
    exact rn_retI i115_9 mr115
  · rw [if_neg c5] at h
    refine rn_if_ne_t i115_5 c5 ?_
    refine rn_iload_n i115_10 rfl ?_
    by_cases c11_0 : (x2 : Int) = 0
    · rw [if_pos c11_0] at h
      refine rn_tsw_in (tgt := 44) i115_11 0 (by omega) (by omega) rfl rfl ?_
      refine fr_aload_n i115_44 rfl ?_
      obtain ⟨v45, h45, h⟩ := Option.bind_eq_some_iff.mp h
      refine fr_gR (k := 3) i115_45 tf11_3 h45 ?_
      obtain ⟨v48, h48, h⟩ := Option.bind_eq_some_iff.mp h
      refine fr_gR (k := 8) i115_48 tf10_8 h48 ?_
      refine rn_iload_n i115_51 rfl ?_
      obtain ⟨v52, h52, h⟩ := Option.bind_eq_some_iff.mp h
      refine rn_iald i115_52 h52 ?_
      obtain rfl := Option.some.inj h
      exact rn_retI i115_53 mr115
    · rw [if_neg c11_0] at h
      by_cases c11_1 : (x2 : Int) = 1
      · rw [if_pos c11_1] at h
        refine rn_tsw_in (tgt := 54) i115_11 1 (by omega) (by omega) rfl rfl ?_
        refine fr_aload_n i115_54 rfl ?_
        obtain ⟨v55, h55, h⟩ := Option.bind_eq_some_iff.mp h
        refine fr_gR (k := 3) i115_55 tf11_3 h55 ?_
        obtain ⟨v58, h58, h⟩ := Option.bind_eq_some_iff.mp h
        refine fr_gR (k := 9) i115_58 tf10_9 h58 ?_
        refine rn_iload_n i115_61 rfl ?_
        obtain ⟨v62, h62, h⟩ := Option.bind_eq_some_iff.mp h
        refine rn_iald i115_62 h62 ?_
        obtain rfl := Option.some.inj h
        exact rn_retI i115_63 mr115
      · rw [if_neg c11_1] at h
        by_cases c11_2 : (x2 : Int) = 2
        · rw [if_pos c11_2] at h
          refine rn_tsw_in (tgt := 64) i115_11 2 (by omega) (by omega) rfl rfl ?_
          refine fr_aload_n i115_64 rfl ?_
          refine rn_iload_n i115_65 rfl ?_
          obtain ⟨r66, h66, h⟩ := Option.bind_eq_some_iff.mp h
          obtain ⟨g66, c66⟩ := S_Hh_sumNow a0 x1 r2.2 r66 h66
          refine fr_callV (a := a0) (As := [.inl x1]) (st := []) i115_66 (cq116 a0 x1) rfl (Nat.le_of_ble_eq_true rfl) g66 (c66 _ (by omega)) ?_
          show Rn _ _ _ _ _ _ [.inl r66.1] _ _ _
          obtain rfl := Option.some.inj h
          exact rn_retI i115_69 mr115
        · rw [if_neg c11_2] at h
          by_cases c11_3 : (x2 : Int) = 3
          · rw [if_pos c11_3] at h
            refine rn_tsw_in (tgt := 70) i115_11 3 (by omega) (by omega) rfl rfl ?_
            refine fr_aload_n i115_70 rfl ?_
            obtain ⟨v71, h71, h⟩ := Option.bind_eq_some_iff.mp h
            refine fr_gR (k := 4) i115_71 tf11_4 h71 ?_
            obtain ⟨v74, h74, h⟩ := Option.bind_eq_some_iff.mp h
            refine fr_gR (k := 5) i115_74 tf9_5 h74 ?_
            refine rn_iload_n i115_77 rfl ?_
            obtain ⟨v78, h78, h⟩ := Option.bind_eq_some_iff.mp h
            refine rn_iald i115_78 h78 ?_
            obtain rfl := Option.some.inj h
            exact rn_retI i115_79 mr115
          · rw [if_neg c11_3] at h
            by_cases c11_4 : (x2 : Int) = 4
            · rw [if_pos c11_4] at h
              refine rn_tsw_in (tgt := 80) i115_11 4 (by omega) (by omega) rfl rfl ?_
              refine fr_aload_n i115_80 rfl ?_
              obtain ⟨v81, h81, h⟩ := Option.bind_eq_some_iff.mp h
              refine fr_gR (k := 3) i115_81 tf11_3 h81 ?_
              refine fr_aload_n i115_84 rfl ?_
              obtain ⟨v85, h85, h⟩ := Option.bind_eq_some_iff.mp h
              refine fr_gR (k := 4) i115_85 tf11_4 h85 ?_
              refine rn_iload_n i115_88 rfl ?_
              refine rn_iconst i115_89 ?_
              obtain ⟨r90, h90, h⟩ := Option.bind_eq_some_iff.mp h
              obtain ⟨g90, c90⟩ := S_Wi_learned v81 v85 x1 0 r2.2 r90 h90
              refine fr_callV (a := v81) (As := [.inr (.inr v85), .inl x1, .inl 0]) (st := []) i115_90 (cq97 v81 v85 x1 0) rfl (Nat.le_of_ble_eq_true rfl) g90 (c90 _ (by omega)) ?_
              show Rn _ _ _ _ _ _ [.inl r90.1] _ _ _
              obtain rfl := Option.some.inj h
              exact rn_retI i115_93 mr115
            · rw [if_neg c11_4] at h
              refine rn_tsw_out (tgt := 94) i115_11 (by omega) rfl ?_
              refine rn_iconst i115_94 ?_
              obtain rfl := Option.some.inj h
              exact rn_retI i115_95 mr115
/-- HandHeirs.heir(II)I -/
def Hh_heir (a0 : Nat) (x1 : Int) (x2 : Int) (w : Wd) : Option (Int × Wd) := gd 11 w a0 (Hh_heir_0 a0 x1 x2 w)
theorem S_Hh_heir {g : Gp} {l : Launch} (a0 : Nat) (x1 : Int) (x2 : Int) (w : Wd) (r : Int × Wd) (h : Hh_heir a0 x1 x2 w = some r) : (wsh w a0).1 = 11 ∧ ∀ D, 5 ≤ D → Rn g l D 115 0 [(0, .inr (.inr a0)), (1, .inl x1), (2, .inl x2)] [] w (some (.inl r.1)) r.2 := by
  obtain ⟨hg, h⟩ := gd_some h
  exact ⟨hg, fun D hD => rn_sub [0, 1, 2] rfl (s_Hh_heir_0 hD a0 x1 x2 w r h)⟩
def Hh_unlike_16 (w : Wd) : Option (Int × Wd) :=
  some ((-1), w)
theorem s_Hh_unlike_16 {g : Gp} {l : Launch} {D : Nat} (hD : 4 ≤ D) (w : Wd) (r : Int × Wd) (h : Hh_unlike_16 w = some r) : Rn g l D 117 16 [] [] w (some (.inl r.1)) r.2 := by
  unfold Hh_unlike_16 at h
  refine rn_iconst i117_16 ?_
  obtain rfl := Option.some.inj h
  exact rn_retI i117_17 mr117
def Hh_unlike_0 (a0 : Nat) (x1 : Int) (x2 : Int) (w : Wd) : Option (Int × Wd) :=
  (Hh_isHeir a0 x1 w).bind fun r2 =>
  if (r2.1 : Int) = 0 then
    Hh_unlike_16 r2.2
  else
    (Hh_isMaster a0 x2 r2.2).bind fun r10 =>
    if (r10.1 : Int) = 0 then
      Hh_unlike_16 r10.2
    else
      (fgR r10.2 a0 11 10).bind fun v19 =>
      (fgR r10.2 a0 11 3).bind fun v23 =>
      (fgR r10.2 a0 11 4).bind fun v27 =>
      (fgR r10.2 a0 11 3).bind fun v31 =>
      (fgI r10.2 v31 10 5).bind fun v34 =>
      (Ct_compare v19 v23 v27 v34 r10.2).bind fun r37 =>
      (fgR r37 a0 11 10).bind fun v41 =>
      (fgR r37 v41 1 0).bind fun v44 =>
      (rdR r37 v44 x1).bind fun v48 =>
      (rdI r37 v48 x2).bind fun v50 =>
      some (v50, r37)
theorem s_Hh_unlike_0 {g : Gp} {l : Launch} {D : Nat} (hD : 4 ≤ D) (a0 : Nat) (x1 : Int) (x2 : Int) (w : Wd) (r : Int × Wd) (h : Hh_unlike_0 a0 x1 x2 w = some r) : Rn g l D 117 0 [(0, .inr (.inr a0)), (1, .inl x1), (2, .inl x2)] [] w (some (.inl r.1)) r.2 := by
  obtain ⟨D, rfl⟩ : ∃ D1, D = D1 + 1 := ⟨D - 1, by omega⟩
  unfold Hh_unlike_0 at h
  refine fr_aload_n i117_0 rfl ?_
  refine rn_iload_n i117_1 rfl ?_
  obtain ⟨r2, h2, h⟩ := Option.bind_eq_some_iff.mp h
  obtain ⟨g2, c2⟩ := S_Hh_isHeir a0 x1 w r2 h2
  refine fr_callV (a := a0) (As := [.inl x1]) (st := []) i117_2 (cq110 a0 x1) rfl (Nat.le_of_ble_eq_true rfl) g2 (c2 _ (by omega)) ?_
  show Rn _ _ _ _ _ _ [.inl r2.1] _ _ _
  by_cases c5 : (r2.1 : Int) = 0
  · rw [if_pos c5] at h
    refine rn_if_eq_t i117_5 c5 ?_
    exact rn_sub [] rfl (s_Hh_unlike_16 hD r2.2 r h)
  · rw [if_neg c5] at h
    refine rn_if_eq_f i117_5 c5 ?_
    refine fr_aload_n i117_8 rfl ?_
    refine rn_iload_n i117_9 rfl ?_
    obtain ⟨r10, h10, h⟩ := Option.bind_eq_some_iff.mp h
    obtain ⟨g10, c10⟩ := S_Hh_isMaster a0 x2 r2.2 r10 h10
    refine fr_callV (a := a0) (As := [.inl x2]) (st := []) i117_10 (cq111 a0 x2) rfl (Nat.le_of_ble_eq_true rfl) g10 (c10 _ (by omega)) ?_
    show Rn _ _ _ _ _ _ [.inl r10.1] _ _ _
    by_cases c13 : (r10.1 : Int) = 0
    · rw [if_pos c13] at h
      refine rn_if_ne_f i117_13 c13 ?_
      exact rn_sub [] rfl (s_Hh_unlike_16 hD r10.2 r h)
    · rw [if_neg c13] at h
      refine rn_if_ne_t i117_13 c13 ?_
      refine fr_aload_n i117_18 rfl ?_
      obtain ⟨v19, h19, h⟩ := Option.bind_eq_some_iff.mp h
      refine fr_gR (k := 10) i117_19 tf11_10 h19 ?_
      refine fr_aload_n i117_22 rfl ?_
      obtain ⟨v23, h23, h⟩ := Option.bind_eq_some_iff.mp h
      refine fr_gR (k := 3) i117_23 tf11_3 h23 ?_
      refine fr_aload_n i117_26 rfl ?_
      obtain ⟨v27, h27, h⟩ := Option.bind_eq_some_iff.mp h
      refine fr_gR (k := 4) i117_27 tf11_4 h27 ?_
      refine fr_aload_n i117_30 rfl ?_
      obtain ⟨v31, h31, h⟩ := Option.bind_eq_some_iff.mp h
      refine fr_gR (k := 3) i117_31 tf11_3 h31 ?_
      obtain ⟨v34, h34, h⟩ := Option.bind_eq_some_iff.mp h
      refine fr_gI (k := 5) i117_34 tf10_5 h34 ?_
      obtain ⟨r37, h37, h⟩ := Option.bind_eq_some_iff.mp h
      obtain ⟨g37, c37⟩ := S_Ct_compare v19 v23 v27 v34 r10.2 r37 h37
      refine fr_callV (a := v19) (As := [.inr (.inr v23), .inr (.inr v27), .inl v34]) (st := []) i117_37 (cq26 v19 v23 v27 v34) rfl (Nat.le_of_ble_eq_true rfl) g37 (c37 _ (by omega)) ?_
      refine fr_aload_n i117_40 rfl ?_
      obtain ⟨v41, h41, h⟩ := Option.bind_eq_some_iff.mp h
      refine fr_gR (k := 10) i117_41 tf11_10 h41 ?_
      obtain ⟨v44, h44, h⟩ := Option.bind_eq_some_iff.mp h
      refine fr_gR (k := 0) i117_44 tf1_0 h44 ?_
      refine rn_iload_n i117_47 rfl ?_
      obtain ⟨v48, h48, h⟩ := Option.bind_eq_some_iff.mp h
      refine rn_aald i117_48 h48 ?_
      refine rn_iload_n i117_49 rfl ?_
      obtain ⟨v50, h50, h⟩ := Option.bind_eq_some_iff.mp h
      refine rn_iald i117_50 h50 ?_
      obtain rfl := Option.some.inj h
      exact rn_retI i117_51 mr117
/-- HandHeirs.unlike(II)I -/
def Hh_unlike (a0 : Nat) (x1 : Int) (x2 : Int) (w : Wd) : Option (Int × Wd) := gd 11 w a0 (Hh_unlike_0 a0 x1 x2 w)
theorem S_Hh_unlike {g : Gp} {l : Launch} (a0 : Nat) (x1 : Int) (x2 : Int) (w : Wd) (r : Int × Wd) (h : Hh_unlike a0 x1 x2 w = some r) : (wsh w a0).1 = 11 ∧ ∀ D, 4 ≤ D → Rn g l D 117 0 [(0, .inr (.inr a0)), (1, .inl x1), (2, .inl x2)] [] w (some (.inl r.1)) r.2 := by
  obtain ⟨hg, h⟩ := gd_some h
  exact ⟨hg, fun D hD => rn_sub [0, 1, 2] rfl (s_Hh_unlike_0 hD a0 x1 x2 w r h)⟩
def Hh_vote_0 (a0 : Nat) (x1 : Int) (w : Wd) : Option (Int × Wd) :=
  (Hh_isMaster a0 x1 w).bind fun r2 =>
  if (r2.1 : Int) = 0 then
    some ((-1), r2.2)
  else
    (fgR r2.2 a0 11 10).bind fun v11 =>
    (fgR r2.2 a0 11 3).bind fun v15 =>
    (fgR r2.2 a0 11 4).bind fun v19 =>
    (fgR r2.2 a0 11 3).bind fun v23 =>
    (fgI r2.2 v23 10 5).bind fun v26 =>
    (Ct_compare v11 v15 v19 v26 r2.2).bind fun r29 =>
    (fgR r29 a0 11 10).bind fun v33 =>
    (fgR r29 a0 11 3).bind fun v37 =>
    (Ct_choice v33 v37 x1 (-1) r29).bind fun r42 =>
    some (r42.1, r42.2)
theorem s_Hh_vote_0 {g : Gp} {l : Launch} {D : Nat} (hD : 4 ≤ D) (a0 : Nat) (x1 : Int) (w : Wd) (r : Int × Wd) (h : Hh_vote_0 a0 x1 w = some r) : Rn g l D 118 0 [(0, .inr (.inr a0)), (1, .inl x1)] [] w (some (.inl r.1)) r.2 := by
  obtain ⟨D, rfl⟩ : ∃ D1, D = D1 + 1 := ⟨D - 1, by omega⟩
  unfold Hh_vote_0 at h
  refine fr_aload_n i118_0 rfl ?_
  refine rn_iload_n i118_1 rfl ?_
  obtain ⟨r2, h2, h⟩ := Option.bind_eq_some_iff.mp h
  obtain ⟨g2, c2⟩ := S_Hh_isMaster a0 x1 w r2 h2
  refine fr_callV (a := a0) (As := [.inl x1]) (st := []) i118_2 (cq111 a0 x1) rfl (Nat.le_of_ble_eq_true rfl) g2 (c2 _ (by omega)) ?_
  show Rn _ _ _ _ _ _ [.inl r2.1] _ _ _
  by_cases c5 : (r2.1 : Int) = 0
  · rw [if_pos c5] at h
    refine rn_if_ne_f i118_5 c5 ?_
    refine rn_iconst i118_8 ?_
    obtain rfl := Option.some.inj h
    exact rn_retI i118_9 mr118
  · rw [if_neg c5] at h
    refine rn_if_ne_t i118_5 c5 ?_
    refine fr_aload_n i118_10 rfl ?_
    obtain ⟨v11, h11, h⟩ := Option.bind_eq_some_iff.mp h
    refine fr_gR (k := 10) i118_11 tf11_10 h11 ?_
    refine fr_aload_n i118_14 rfl ?_
    obtain ⟨v15, h15, h⟩ := Option.bind_eq_some_iff.mp h
    refine fr_gR (k := 3) i118_15 tf11_3 h15 ?_
    refine fr_aload_n i118_18 rfl ?_
    obtain ⟨v19, h19, h⟩ := Option.bind_eq_some_iff.mp h
    refine fr_gR (k := 4) i118_19 tf11_4 h19 ?_
    refine fr_aload_n i118_22 rfl ?_
    obtain ⟨v23, h23, h⟩ := Option.bind_eq_some_iff.mp h
    refine fr_gR (k := 3) i118_23 tf11_3 h23 ?_
    obtain ⟨v26, h26, h⟩ := Option.bind_eq_some_iff.mp h
    refine fr_gI (k := 5) i118_26 tf10_5 h26 ?_
    obtain ⟨r29, h29, h⟩ := Option.bind_eq_some_iff.mp h
    obtain ⟨g29, c29⟩ := S_Ct_compare v11 v15 v19 v26 r2.2 r29 h29
    refine fr_callV (a := v11) (As := [.inr (.inr v15), .inr (.inr v19), .inl v26]) (st := []) i118_29 (cq26 v11 v15 v19 v26) rfl (Nat.le_of_ble_eq_true rfl) g29 (c29 _ (by omega)) ?_
    refine fr_aload_n i118_32 rfl ?_
    obtain ⟨v33, h33, h⟩ := Option.bind_eq_some_iff.mp h
    refine fr_gR (k := 10) i118_33 tf11_10 h33 ?_
    refine fr_aload_n i118_36 rfl ?_
    obtain ⟨v37, h37, h⟩ := Option.bind_eq_some_iff.mp h
    refine fr_gR (k := 3) i118_37 tf11_3 h37 ?_
    refine rn_iload_n i118_40 rfl ?_
    refine rn_iconst i118_41 ?_
    obtain ⟨r42, h42, h⟩ := Option.bind_eq_some_iff.mp h
    obtain ⟨g42, c42⟩ := S_Ct_choice v33 v37 x1 (-1) r29 r42 h42
    refine fr_callV (a := v33) (As := [.inr (.inr v37), .inl x1, .inl (-1)]) (st := []) i118_42 (cq28 v33 v37 x1 (-1)) rfl (Nat.le_of_ble_eq_true rfl) g42 (c42 _ (by omega)) ?_
    show Rn _ _ _ _ _ _ [.inl r42.1] _ _ _
    obtain rfl := Option.some.inj h
    exact rn_retI i118_45 mr118
/-- HandHeirs.vote(I)I -/
def Hh_vote (a0 : Nat) (x1 : Int) (w : Wd) : Option (Int × Wd) := gd 11 w a0 (Hh_vote_0 a0 x1 w)
theorem S_Hh_vote {g : Gp} {l : Launch} (a0 : Nat) (x1 : Int) (w : Wd) (r : Int × Wd) (h : Hh_vote a0 x1 w = some r) : (wsh w a0).1 = 11 ∧ ∀ D, 4 ≤ D → Rn g l D 118 0 [(0, .inr (.inr a0)), (1, .inl x1)] [] w (some (.inl r.1)) r.2 := by
  obtain ⟨hg, h⟩ := gd_some h
  exact ⟨hg, fun D hD => rn_sub [0, 1] rfl (s_Hh_vote_0 hD a0 x1 w r h)⟩
def Hh_judge_0 (a0 : Nat) (w : Wd) : Option (Int × Wd) :=
  (fgR w a0 11 10).bind fun v1 =>
  (fgR w a0 11 3).bind fun v5 =>
  (fgR w a0 11 4).bind fun v9 =>
  (fgR w a0 11 3).bind fun v13 =>
  (fgI w v13 10 5).bind fun v16 =>
  (Ct_given v1 v5 v9 v16 w).bind fun r19 =>
  some (r19.1, r19.2)
theorem s_Hh_judge_0 {g : Gp} {l : Launch} {D : Nat} (hD : 5 ≤ D) (a0 : Nat) (w : Wd) (r : Int × Wd) (h : Hh_judge_0 a0 w = some r) : Rn g l D 119 0 [(0, .inr (.inr a0))] [] w (some (.inl r.1)) r.2 := by
  obtain ⟨D, rfl⟩ : ∃ D1, D = D1 + 1 := ⟨D - 1, by omega⟩
  unfold Hh_judge_0 at h
  refine fr_aload_n i119_0 rfl ?_
  obtain ⟨v1, h1, h⟩ := Option.bind_eq_some_iff.mp h
  refine fr_gR (k := 10) i119_1 tf11_10 h1 ?_
  refine fr_aload_n i119_4 rfl ?_
  obtain ⟨v5, h5, h⟩ := Option.bind_eq_some_iff.mp h
  refine fr_gR (k := 3) i119_5 tf11_3 h5 ?_
  refine fr_aload_n i119_8 rfl ?_
  obtain ⟨v9, h9, h⟩ := Option.bind_eq_some_iff.mp h
  refine fr_gR (k := 4) i119_9 tf11_4 h9 ?_
  refine fr_aload_n i119_12 rfl ?_
  obtain ⟨v13, h13, h⟩ := Option.bind_eq_some_iff.mp h
  refine fr_gR (k := 3) i119_13 tf11_3 h13 ?_
  obtain ⟨v16, h16, h⟩ := Option.bind_eq_some_iff.mp h
  refine fr_gI (k := 5) i119_16 tf10_5 h16 ?_
  obtain ⟨r19, h19, h⟩ := Option.bind_eq_some_iff.mp h
  obtain ⟨g19, c19⟩ := S_Ct_given v1 v5 v9 v16 w r19 h19
  refine fr_callV (a := v1) (As := [.inr (.inr v5), .inr (.inr v9), .inl v16]) (st := []) i119_19 (cq31 v1 v5 v9 v16) rfl (Nat.le_of_ble_eq_true rfl) g19 (c19 _ (by omega)) ?_
  show Rn _ _ _ _ _ _ [.inl r19.1] _ _ _
  obtain rfl := Option.some.inj h
  exact rn_retI i119_22 mr119
/-- HandHeirs.judge()I -/
def Hh_judge (a0 : Nat) (w : Wd) : Option (Int × Wd) := gd 11 w a0 (Hh_judge_0 a0 w)
theorem S_Hh_judge {g : Gp} {l : Launch} (a0 : Nat) (w : Wd) (r : Int × Wd) (h : Hh_judge a0 w = some r) : (wsh w a0).1 = 11 ∧ ∀ D, 5 ≤ D → Rn g l D 119 0 [(0, .inr (.inr a0))] [] w (some (.inl r.1)) r.2 := by
  obtain ⟨hg, h⟩ := gd_some h
  exact ⟨hg, fun D hD => rn_sub [0] rfl (s_Hh_judge_0 hD a0 w r h)⟩
def Hh_lesson_26 (w : Wd) : Option (Int × Wd) :=
  some ((-1), w)
theorem s_Hh_lesson_26 {g : Gp} {l : Launch} {D : Nat} (hD : 4 ≤ D) (w : Wd) (r : Int × Wd) (h : Hh_lesson_26 w = some r) : Rn g l D 120 26 [] [] w (some (.inl r.1)) r.2 := by
  unfold Hh_lesson_26 at h
  refine rn_iconst i120_26 ?_
  obtain rfl := Option.some.inj h
  exact rn_retI i120_27 mr120
def Hh_lesson_0 (a0 : Nat) (x1 : Int) (x2 : Int) (x3 : Int) (w : Wd) : Option (Int × Wd) :=
  (Hh_isHeir a0 x1 w).bind fun r2 =>
  if (r2.1 : Int) = 0 then
    Hh_lesson_26 r2.2
  else
    (Hh_isLetter a0 x2 r2.2).bind fun r10 =>
    if (r10.1 : Int) = 0 then
      Hh_lesson_26 r10.2
    else
      (Hh_isWithin x3 1 99 r10.2).bind fun r20 =>
      if (r20.1 : Int) = 0 then
        Hh_lesson_26 r20.2
      else
        (fgR r20.2 a0 11 7).bind fun v29 =>
        (fgR r20.2 a0 11 4).bind fun v33 =>
        (Ps_keep v29 v33 r20.2).bind fun r36 =>
        (fgR r36 a0 11 4).bind fun v40 =>
        (fgR r36 a0 11 3).bind fun v47 =>
        (fgR r36 v47 10 8).bind fun v50 =>
        (rdI r36 v50 x1).bind fun v54 =>
        (St_teach v40 x1 x2 (w32 (x3 * v54)) r36).bind fun r56 =>
        (fgR r56 a0 11 4).bind fun v60 =>
        (St_off v60 x1 x2 r56).bind fun r65 =>
        some (r65.1, r65.2)
theorem s_Hh_lesson_0 {g : Gp} {l : Launch} {D : Nat} (hD : 4 ≤ D) (a0 : Nat) (x1 : Int) (x2 : Int) (x3 : Int) (w : Wd) (r : Int × Wd) (h : Hh_lesson_0 a0 x1 x2 x3 w = some r) : Rn g l D 120 0 [(0, .inr (.inr a0)), (1, .inl x1), (2, .inl x2), (3, .inl x3)] [] w (some (.inl r.1)) r.2 := by
  obtain ⟨D, rfl⟩ : ∃ D1, D = D1 + 1 := ⟨D - 1, by omega⟩
  unfold Hh_lesson_0 at h
  refine fr_aload_n i120_0 rfl ?_
  refine rn_iload_n i120_1 rfl ?_
  obtain ⟨r2, h2, h⟩ := Option.bind_eq_some_iff.mp h
  obtain ⟨g2, c2⟩ := S_Hh_isHeir a0 x1 w r2 h2
  refine fr_callV (a := a0) (As := [.inl x1]) (st := []) i120_2 (cq110 a0 x1) rfl (Nat.le_of_ble_eq_true rfl) g2 (c2 _ (by omega)) ?_
  show Rn _ _ _ _ _ _ [.inl r2.1] _ _ _
  by_cases c5 : (r2.1 : Int) = 0
  · rw [if_pos c5] at h
    refine rn_if_eq_t i120_5 c5 ?_
    exact rn_sub [] rfl (s_Hh_lesson_26 hD r2.2 r h)
  · rw [if_neg c5] at h
    refine rn_if_eq_f i120_5 c5 ?_
    refine fr_aload_n i120_8 rfl ?_
    refine rn_iload_n i120_9 rfl ?_
    obtain ⟨r10, h10, h⟩ := Option.bind_eq_some_iff.mp h
    obtain ⟨g10, c10⟩ := S_Hh_isLetter a0 x2 r2.2 r10 h10
    refine fr_callV (a := a0) (As := [.inl x2]) (st := []) i120_10 (cq109 a0 x2) rfl (Nat.le_of_ble_eq_true rfl) g10 (c10 _ (by omega)) ?_
    show Rn _ _ _ _ _ _ [.inl r10.1] _ _ _
    by_cases c13 : (r10.1 : Int) = 0
    · rw [if_pos c13] at h
      refine rn_if_eq_t i120_13 c13 ?_
      exact rn_sub [] rfl (s_Hh_lesson_26 hD r10.2 r h)
    · rw [if_neg c13] at h
      refine rn_if_eq_f i120_13 c13 ?_
      refine rn_iload_n i120_16 rfl ?_
      refine rn_iconst i120_17 ?_
      refine rn_bipush i120_18 ?_
      obtain ⟨r20, h20, h⟩ := Option.bind_eq_some_iff.mp h
      refine fr_callS (nst := 0) (As := [.inl x3, .inl 1, .inl 99]) (st := []) i120_20 (cq112 x3 1 99) rfl (Nat.le_of_ble_eq_true rfl) (S_Hh_isWithin x3 1 99 r10.2 r20 h20 _ (by omega)) ?_
      show Rn _ _ _ _ _ _ [.inl r20.1] _ _ _
      by_cases c23 : (r20.1 : Int) = 0
      · rw [if_pos c23] at h
        refine rn_if_ne_f i120_23 c23 ?_
        exact rn_sub [] rfl (s_Hh_lesson_26 hD r20.2 r h)
      · rw [if_neg c23] at h
        refine rn_if_ne_t i120_23 c23 ?_
        refine fr_aload_n i120_28 rfl ?_
        obtain ⟨v29, h29, h⟩ := Option.bind_eq_some_iff.mp h
        refine fr_gR (k := 7) i120_29 tf11_7 h29 ?_
        refine fr_aload_n i120_32 rfl ?_
        obtain ⟨v33, h33, h⟩ := Option.bind_eq_some_iff.mp h
        refine fr_gR (k := 4) i120_33 tf11_4 h33 ?_
        obtain ⟨r36, h36, h⟩ := Option.bind_eq_some_iff.mp h
        obtain ⟨g36, c36⟩ := S_Ps_keep v29 v33 r20.2 r36 h36
        refine fr_callV (a := v29) (As := [.inr (.inr v33)]) (st := []) i120_36 (cq47 v29 v33) rfl (Nat.le_of_ble_eq_true rfl) g36 (c36 _ (by omega)) ?_
        refine fr_aload_n i120_39 rfl ?_
        obtain ⟨v40, h40, h⟩ := Option.bind_eq_some_iff.mp h
        refine fr_gR (k := 4) i120_40 tf11_4 h40 ?_
        refine rn_iload_n i120_43 rfl ?_
        refine rn_iload_n i120_44 rfl ?_
        refine rn_iload_n i120_45 rfl ?_
        refine fr_aload_n i120_46 rfl ?_
        obtain ⟨v47, h47, h⟩ := Option.bind_eq_some_iff.mp h
        refine fr_gR (k := 3) i120_47 tf11_3 h47 ?_
        obtain ⟨v50, h50, h⟩ := Option.bind_eq_some_iff.mp h
        refine fr_gR (k := 8) i120_50 tf10_8 h50 ?_
        refine rn_iload_n i120_53 rfl ?_
        obtain ⟨v54, h54, h⟩ := Option.bind_eq_some_iff.mp h
        refine rn_iald i120_54 h54 ?_
        refine rn_imul i120_55 ?_
        obtain ⟨r56, h56, h⟩ := Option.bind_eq_some_iff.mp h
        obtain ⟨g56, c56⟩ := S_St_teach v40 x1 x2 (w32 (x3 * v54)) r36 r56 h56
        refine fr_callV (a := v40) (As := [.inl x1, .inl x2, .inl (w32 (x3 * v54))]) (st := []) i120_56 (cq94 v40 x1 x2 (w32 (x3 * v54))) rfl (Nat.le_of_ble_eq_true rfl) g56 (c56 _ (by omega)) ?_
        refine fr_aload_n i120_59 rfl ?_
        obtain ⟨v60, h60, h⟩ := Option.bind_eq_some_iff.mp h
        refine fr_gR (k := 4) i120_60 tf11_4 h60 ?_
        refine rn_iload_n i120_63 rfl ?_
        refine rn_iload_n i120_64 rfl ?_
        obtain ⟨r65, h65, h⟩ := Option.bind_eq_some_iff.mp h
        obtain ⟨g65, c65⟩ := S_St_off v60 x1 x2 r56 r65 h65
        refine fr_callV (a := v60) (As := [.inl x1, .inl x2]) (st := []) i120_65 (cq92 v60 x1 x2) rfl (Nat.le_of_ble_eq_true rfl) g65 (c65 _ (by omega)) ?_
        show Rn _ _ _ _ _ _ [.inl r65.1] _ _ _
        obtain rfl := Option.some.inj h
        exact rn_retI i120_68 mr120
/-- HandHeirs.lesson(III)I -/
def Hh_lesson (a0 : Nat) (x1 : Int) (x2 : Int) (x3 : Int) (w : Wd) : Option (Int × Wd) := gd 11 w a0 (Hh_lesson_0 a0 x1 x2 x3 w)
theorem S_Hh_lesson {g : Gp} {l : Launch} (a0 : Nat) (x1 : Int) (x2 : Int) (x3 : Int) (w : Wd) (r : Int × Wd) (h : Hh_lesson a0 x1 x2 x3 w = some r) : (wsh w a0).1 = 11 ∧ ∀ D, 4 ≤ D → Rn g l D 120 0 [(0, .inr (.inr a0)), (1, .inl x1), (2, .inl x2), (3, .inl x3)] [] w (some (.inl r.1)) r.2 := by
  obtain ⟨hg, h⟩ := gd_some h
  exact ⟨hg, fun D hD => rn_sub [0, 1, 2, 3] rfl (s_Hh_lesson_0 hD a0 x1 x2 x3 w r h)⟩
def Hh_years_98 (a0 : Nat) (w : Wd) : Option (Int × Wd) :=
  (fgR w a0 11 4).bind fun v99 =>
  (fgI w v99 9 0).bind fun v102 =>
  some (v102, w)
theorem s_Hh_years_98 {g : Gp} {l : Launch} {D : Nat} (hD : 5 ≤ D) (a0 : Nat) (w : Wd) (r : Int × Wd) (h : Hh_years_98 a0 w = some r) : Rn g l D 121 98 [(0, .inr (.inr a0))] [] w (some (.inl r.1)) r.2 := by
  unfold Hh_years_98 at h
  refine fr_aload_n i121_98 rfl ?_
  obtain ⟨v99, h99, h⟩ := Option.bind_eq_some_iff.mp h
  refine fr_gR (k := 4) i121_99 tf11_4 h99 ?_
  obtain ⟨v102, h102, h⟩ := Option.bind_eq_some_iff.mp h
  refine fr_gI (k := 0) i121_102 tf9_0 h102 ?_
  obtain rfl := Option.some.inj h
  exact rn_retI i121_105 mr121
def Hh_years_29 : Nat → Nat → Int → Int → Wd → Option (Int × Wd)
  | 0, _, _, _, _ => none
  | n + 1, a0, x1, x2, w =>
    if (x1 : Int) ≤ x2 then
      Hh_years_98 a0 w
    else
      (fgR w a0 11 10).bind fun v35 =>
      (fgR w a0 11 3).bind fun v39 =>
      (fgR w a0 11 4).bind fun v43 =>
      (Ct_spendDays v35 v39 v43 (-1) (-1) w).bind fun r48 =>
      (fgR r48 a0 11 10).bind fun v52 =>
      (fgR r48 a0 11 3).bind fun v56 =>
      (fgR r48 a0 11 4).bind fun v60 =>
      (Ct_settle v52 v56 v60 r48).bind fun r63 =>
      (fgR r63 a0 11 6).bind fun v67 =>
      (fgR r63 a0 11 4).bind fun v71 =>
      (Bk_lead v67 v71 r63).bind fun r74 =>
      (fgR r74 a0 11 10).bind fun v78 =>
      (fgR r74 a0 11 3).bind fun v82 =>
      (fgR r74 a0 11 4).bind fun v86 =>
      (Ct_endYear v78 v82 v86 r74).bind fun r89 =>
      Hh_years_29 n a0 x1 (w32 (x2 + 1)) r89
theorem s_Hh_years_29 {g : Gp} {l : Launch} {D : Nat} (hD : 5 ≤ D) : ∀ (n : Nat) (a0 : Nat) (x1 : Int) (x2 : Int) (w : Wd) (r : Int × Wd), Hh_years_29 n a0 x1 x2 w = some r → Rn g l D 121 29 [(0, .inr (.inr a0)), (1, .inl x1), (2, .inl x2)] [] w (some (.inl r.1)) r.2 := by
  obtain ⟨D, rfl⟩ : ∃ D1, D = D1 + 1 := ⟨D - 1, by omega⟩
  intro n
  induction n with
  | zero => intro a0 x1 x2 w r h; cases (show (none : Option (Int × Wd)) = some r from h)
  | succ n ih =>
    intro a0 x1 x2 w r h
    unfold Hh_years_29 at h
    refine rn_iload_n i121_29 rfl ?_
    refine rn_iload_n i121_30 rfl ?_
    by_cases c31 : (x1 : Int) ≤ x2
    · rw [if_pos c31] at h
      refine rn_icmp_ge_t i121_31 c31 ?_
      exact rn_sub [0] rfl (s_Hh_years_98 hD a0 w r h)
    · rw [if_neg c31] at h
      refine rn_icmp_ge_f i121_31 c31 ?_
      refine fr_aload_n i121_34 rfl ?_
      obtain ⟨v35, h35, h⟩ := Option.bind_eq_some_iff.mp h
      refine fr_gR (k := 10) i121_35 tf11_10 h35 ?_
      refine fr_aload_n i121_38 rfl ?_
      obtain ⟨v39, h39, h⟩ := Option.bind_eq_some_iff.mp h
      refine fr_gR (k := 3) i121_39 tf11_3 h39 ?_
      refine fr_aload_n i121_42 rfl ?_
      obtain ⟨v43, h43, h⟩ := Option.bind_eq_some_iff.mp h
      refine fr_gR (k := 4) i121_43 tf11_4 h43 ?_
      refine rn_iconst i121_46 ?_
      refine rn_iconst i121_47 ?_
      obtain ⟨r48, h48, h⟩ := Option.bind_eq_some_iff.mp h
      obtain ⟨g48, c48⟩ := S_Ct_spendDays v35 v39 v43 (-1) (-1) w r48 h48
      refine fr_callV (a := v35) (As := [.inr (.inr v39), .inr (.inr v43), .inl (-1), .inl (-1)]) (st := []) i121_48 (cq32 v35 v39 v43 (-1) (-1)) rfl (Nat.le_of_ble_eq_true rfl) g48 (c48 _ (by omega)) ?_
      refine fr_aload_n i121_51 rfl ?_
      obtain ⟨v52, h52, h⟩ := Option.bind_eq_some_iff.mp h
      refine fr_gR (k := 10) i121_52 tf11_10 h52 ?_
      refine fr_aload_n i121_55 rfl ?_
      obtain ⟨v56, h56, h⟩ := Option.bind_eq_some_iff.mp h
      refine fr_gR (k := 3) i121_56 tf11_3 h56 ?_
      refine fr_aload_n i121_59 rfl ?_
      obtain ⟨v60, h60, h⟩ := Option.bind_eq_some_iff.mp h
      refine fr_gR (k := 4) i121_60 tf11_4 h60 ?_
      obtain ⟨r63, h63, h⟩ := Option.bind_eq_some_iff.mp h
      obtain ⟨g63, c63⟩ := S_Ct_settle v52 v56 v60 r48 r63 h63
      refine fr_callV (a := v52) (As := [.inr (.inr v56), .inr (.inr v60)]) (st := []) i121_63 (cq33 v52 v56 v60) rfl (Nat.le_of_ble_eq_true rfl) g63 (c63 _ (by omega)) ?_
      refine fr_aload_n i121_66 rfl ?_
      obtain ⟨v67, h67, h⟩ := Option.bind_eq_some_iff.mp h
      refine fr_gR (k := 6) i121_67 tf11_6 h67 ?_
      refine fr_aload_n i121_70 rfl ?_
      obtain ⟨v71, h71, h⟩ := Option.bind_eq_some_iff.mp h
      refine fr_gR (k := 4) i121_71 tf11_4 h71 ?_
      obtain ⟨r74, h74, h⟩ := Option.bind_eq_some_iff.mp h
      obtain ⟨g74, c74⟩ := S_Bk_lead v67 v71 r63 r74 h74
      refine fr_callV (a := v67) (As := [.inr (.inr v71)]) (st := []) i121_74 (cq16 v67 v71) rfl (Nat.le_of_ble_eq_true rfl) g74 (c74 _ (by omega)) ?_
      refine fr_aload_n i121_77 rfl ?_
      obtain ⟨v78, h78, h⟩ := Option.bind_eq_some_iff.mp h
      refine fr_gR (k := 10) i121_78 tf11_10 h78 ?_
      refine fr_aload_n i121_81 rfl ?_
      obtain ⟨v82, h82, h⟩ := Option.bind_eq_some_iff.mp h
      refine fr_gR (k := 3) i121_82 tf11_3 h82 ?_
      refine fr_aload_n i121_85 rfl ?_
      obtain ⟨v86, h86, h⟩ := Option.bind_eq_some_iff.mp h
      refine fr_gR (k := 4) i121_86 tf11_4 h86 ?_
      obtain ⟨r89, h89, h⟩ := Option.bind_eq_some_iff.mp h
      obtain ⟨g89, c89⟩ := S_Ct_endYear v78 v82 v86 r74 r89 h89
      refine fr_callV (a := v78) (As := [.inr (.inr v82), .inr (.inr v86)]) (st := []) i121_89 (cq34 v78 v82 v86) rfl (Nat.le_of_ble_eq_true rfl) g89 (c89 _ (by omega)) ?_
      refine rn_iinc (ls1 := [(2, .inl (w32 (x2 + 1))), (0, .inr (.inr a0)), (1, .inl x1)]) i121_92 rfl rfl ?_
      refine rn_goto i121_95 ?_
      exact rn_sub [1, 2, 0] rfl (ih a0 x1 (w32 (x2 + 1)) r89 r h)
def Hh_years_27 (a0 : Nat) (x1 : Int) (w : Wd) : Option (Int × Wd) :=
  Hh_years_29 FU a0 x1 0 w
theorem s_Hh_years_27 {g : Gp} {l : Launch} {D : Nat} (hD : 5 ≤ D) (a0 : Nat) (x1 : Int) (w : Wd) (r : Int × Wd) (h : Hh_years_27 a0 x1 w = some r) : Rn g l D 121 27 [(0, .inr (.inr a0)), (1, .inl x1)] [] w (some (.inl r.1)) r.2 := by
  unfold Hh_years_27 at h
  refine rn_iconst i121_27 ?_
  refine rn_istore_n (ls1 := [(2, .inl 0), (0, .inr (.inr a0)), (1, .inl x1)]) i121_28 rfl ?_
  exact rn_sub [1, 2, 0] rfl (s_Hh_years_29 hD FU a0 x1 0 w r h)
def Hh_years_0 (a0 : Nat) (x1 : Int) (w : Wd) : Option (Int × Wd) :=
  (Hh_isWithin x1 0 100 w).bind fun r4 =>
  if (r4.1 : Int) = 0 then
    some ((-1), r4.2)
  else
    if (x1 : Int) ≤ 0 then
      Hh_years_27 a0 x1 r4.2
    else
      (fgR r4.2 a0 11 7).bind fun v17 =>
      (fgR r4.2 a0 11 4).bind fun v21 =>
      (Ps_keep v17 v21 r4.2).bind fun r24 =>
      Hh_years_27 a0 x1 r24
theorem s_Hh_years_0 {g : Gp} {l : Launch} {D : Nat} (hD : 5 ≤ D) (a0 : Nat) (x1 : Int) (w : Wd) (r : Int × Wd) (h : Hh_years_0 a0 x1 w = some r) : Rn g l D 121 0 [(0, .inr (.inr a0)), (1, .inl x1)] [] w (some (.inl r.1)) r.2 := by
  obtain ⟨D, rfl⟩ : ∃ D1, D = D1 + 1 := ⟨D - 1, by omega⟩
  unfold Hh_years_0 at h
  refine rn_iload_n i121_0 rfl ?_
  refine rn_iconst i121_1 ?_
  refine rn_bipush i121_2 ?_
  obtain ⟨r4, h4, h⟩ := Option.bind_eq_some_iff.mp h
  refine fr_callS (nst := 0) (As := [.inl x1, .inl 0, .inl 100]) (st := []) i121_4 (cq112 x1 0 100) rfl (Nat.le_of_ble_eq_true rfl) (S_Hh_isWithin x1 0 100 w r4 h4 _ (by omega)) ?_
  show Rn _ _ _ _ _ _ [.inl r4.1] _ _ _
  by_cases c7 : (r4.1 : Int) = 0
  · rw [if_pos c7] at h
    refine rn_if_ne_f i121_7 c7 ?_
    refine rn_iconst i121_10 ?_
    obtain rfl := Option.some.inj h
    exact rn_retI i121_11 mr121
  · rw [if_neg c7] at h
    refine rn_if_ne_t i121_7 c7 ?_
    refine rn_iload_n i121_12 rfl ?_
    by_cases c13 : (x1 : Int) ≤ 0
    · rw [if_pos c13] at h
      refine rn_if_le_t i121_13 c13 ?_
      exact rn_sub [0, 1] rfl (s_Hh_years_27 hD a0 x1 r4.2 r h)
    · rw [if_neg c13] at h
      refine rn_if_le_f i121_13 c13 ?_
      refine fr_aload_n i121_16 rfl ?_
      obtain ⟨v17, h17, h⟩ := Option.bind_eq_some_iff.mp h
      refine fr_gR (k := 7) i121_17 tf11_7 h17 ?_
      refine fr_aload_n i121_20 rfl ?_
      obtain ⟨v21, h21, h⟩ := Option.bind_eq_some_iff.mp h
      refine fr_gR (k := 4) i121_21 tf11_4 h21 ?_
      obtain ⟨r24, h24, h⟩ := Option.bind_eq_some_iff.mp h
      obtain ⟨g24, c24⟩ := S_Ps_keep v17 v21 r4.2 r24 h24
      refine fr_callV (a := v17) (As := [.inr (.inr v21)]) (st := []) i121_24 (cq47 v17 v21) rfl (Nat.le_of_ble_eq_true rfl) g24 (c24 _ (by omega)) ?_
      exact rn_sub [0, 1] rfl (s_Hh_years_27 hD a0 x1 r24 r h)
/-- HandHeirs.years(I)I -/
def Hh_years (a0 : Nat) (x1 : Int) (w : Wd) : Option (Int × Wd) := gd 11 w a0 (Hh_years_0 a0 x1 w)
theorem S_Hh_years {g : Gp} {l : Launch} (a0 : Nat) (x1 : Int) (w : Wd) (r : Int × Wd) (h : Hh_years a0 x1 w = some r) : (wsh w a0).1 = 11 ∧ ∀ D, 5 ≤ D → Rn g l D 121 0 [(0, .inr (.inr a0)), (1, .inl x1)] [] w (some (.inl r.1)) r.2 := by
  obtain ⟨hg, h⟩ := gd_some h
  exact ⟨hg, fun D hD => rn_sub [0, 1] rfl (s_Hh_years_0 hD a0 x1 w r h)⟩
def Hh_undo_0 (a0 : Nat) (w : Wd) : Option (Int × Wd) :=
  (fgR w a0 11 7).bind fun v1 =>
  (fgR w a0 11 4).bind fun v5 =>
  (Ps_takeBack v1 v5 w).bind fun r8 =>
  rZ r8.1 r8.2
theorem s_Hh_undo_0 {g : Gp} {l : Launch} {D : Nat} (hD : 3 ≤ D) (a0 : Nat) (w : Wd) (r : Int × Wd) (h : Hh_undo_0 a0 w = some r) : Rn g l D 122 0 [(0, .inr (.inr a0))] [] w (some (.inl r.1)) r.2 := by
  obtain ⟨D, rfl⟩ : ∃ D1, D = D1 + 1 := ⟨D - 1, by omega⟩
  unfold Hh_undo_0 at h
  refine fr_aload_n i122_0 rfl ?_
  obtain ⟨v1, h1, h⟩ := Option.bind_eq_some_iff.mp h
  refine fr_gR (k := 7) i122_1 tf11_7 h1 ?_
  refine fr_aload_n i122_4 rfl ?_
  obtain ⟨v5, h5, h⟩ := Option.bind_eq_some_iff.mp h
  refine fr_gR (k := 4) i122_5 tf11_4 h5 ?_
  obtain ⟨r8, h8, h⟩ := Option.bind_eq_some_iff.mp h
  obtain ⟨g8, c8⟩ := S_Ps_takeBack v1 v5 w r8 h8
  refine fr_callV (a := v1) (As := [.inr (.inr v5)]) (st := []) i122_8 (cq48 v1 v5) rfl (Nat.le_of_ble_eq_true rfl) g8 (c8 _ (by omega)) ?_
  show Rn _ _ _ _ _ _ [.inl r8.1] _ _ _
  exact fr_retZ i122_11 mr122 h
/-- HandHeirs.undo()Z -/
def Hh_undo (a0 : Nat) (w : Wd) : Option (Int × Wd) := gd 11 w a0 (Hh_undo_0 a0 w)
theorem S_Hh_undo {g : Gp} {l : Launch} (a0 : Nat) (w : Wd) (r : Int × Wd) (h : Hh_undo a0 w = some r) : (wsh w a0).1 = 11 ∧ ∀ D, 3 ≤ D → Rn g l D 122 0 [(0, .inr (.inr a0))] [] w (some (.inl r.1)) r.2 := by
  obtain ⟨hg, h⟩ := gd_some h
  exact ⟨hg, fun D hD => rn_sub [0] rfl (s_Hh_undo_0 hD a0 w r h)⟩
def Hh_book_15 (w : Wd) : Option (Int × Wd) :=
  some ((-1), w)
theorem s_Hh_book_15 {g : Gp} {l : Launch} {D : Nat} (hD : 2 ≤ D) (w : Wd) (r : Int × Wd) (h : Hh_book_15 w = some r) : Rn g l D 123 15 [] [] w (some (.inl r.1)) r.2 := by
  unfold Hh_book_15 at h
  refine rn_iconst i123_15 ?_
  obtain rfl := Option.some.inj h
  exact rn_retI i123_16 mr123
def Hh_book_52 (s0 : Int) (w : Wd) : Option (Int × Wd) :=
  some (s0, w)
theorem s_Hh_book_52 {g : Gp} {l : Launch} {D : Nat} (hD : 2 ≤ D) (s0 : Int) (w : Wd) (r : Int × Wd) (h : Hh_book_52 s0 w = some r) : Rn g l D 123 52 [] [.inl s0] w (some (.inl r.1)) r.2 := by
  unfold Hh_book_52 at h
  obtain rfl := Option.some.inj h
  exact rn_retI i123_52 mr123
def Hh_book_0 (a0 : Nat) (x1 : Int) (x2 : Int) (w : Wd) : Option (Int × Wd) :=
  if (x1 : Int) < 0 then
    Hh_book_15 w
  else
    (fgR w a0 11 4).bind fun v6 =>
    (St_led v6 w).bind fun r9 =>
    if (x1 : Int) < r9.1 then
      if (x2 : Int) = (-1) then
        (fgR r9.2 a0 11 6).bind fun v23 =>
        (Bk_givenIn v23 x1 r9.2).bind fun r27 =>
        some (r27.1, r27.2)
      else
        (Hh_isLetter a0 x2 r9.2).bind fun r33 =>
        if (r33.1 : Int) = 0 then
          Hh_book_52 (-1) r33.2
        else
          (fgR r33.2 a0 11 6).bind fun v40 =>
          (Bk_handOf v40 x1 x2 r33.2).bind fun r45 =>
          Hh_book_52 r45.1 r45.2
    else
      Hh_book_15 r9.2
theorem s_Hh_book_0 {g : Gp} {l : Launch} {D : Nat} (hD : 2 ≤ D) (a0 : Nat) (x1 : Int) (x2 : Int) (w : Wd) (r : Int × Wd) (h : Hh_book_0 a0 x1 x2 w = some r) : Rn g l D 123 0 [(0, .inr (.inr a0)), (1, .inl x1), (2, .inl x2)] [] w (some (.inl r.1)) r.2 := by
  obtain ⟨D, rfl⟩ : ∃ D1, D = D1 + 1 := ⟨D - 1, by omega⟩
  unfold Hh_book_0 at h
  refine rn_iload_n i123_0 rfl ?_
  by_cases c1 : (x1 : Int) < 0
  · rw [if_pos c1] at h
    refine rn_if_lt_t i123_1 c1 ?_
    exact rn_sub [] rfl (s_Hh_book_15 hD w r h)
  · rw [if_neg c1] at h
    refine rn_if_lt_f i123_1 c1 ?_
    refine rn_iload_n i123_4 rfl ?_
    refine fr_aload_n i123_5 rfl ?_
    obtain ⟨v6, h6, h⟩ := Option.bind_eq_some_iff.mp h
    refine fr_gR (k := 4) i123_6 tf11_4 h6 ?_
    obtain ⟨r9, h9, h⟩ := Option.bind_eq_some_iff.mp h
    obtain ⟨g9, c9⟩ := S_St_led v6 w r9 h9
    refine fr_callV (a := v6) (As := []) (st := [.inl x1]) i123_9 (cq90 v6) rfl (Nat.le_of_ble_eq_true rfl) g9 (c9 _ (by omega)) ?_
    show Rn _ _ _ _ _ _ [.inl r9.1, .inl x1] _ _ _
    by_cases c12 : (x1 : Int) < r9.1
    · rw [if_pos c12] at h
      refine rn_icmp_lt_t i123_12 c12 ?_
      refine rn_iload_n i123_17 rfl ?_
      refine rn_iconst i123_18 ?_
      by_cases c19 : (x2 : Int) = (-1)
      · rw [if_pos c19] at h
        refine rn_icmp_ne_f i123_19 c19 ?_
        refine fr_aload_n i123_22 rfl ?_
        obtain ⟨v23, h23, h⟩ := Option.bind_eq_some_iff.mp h
        refine fr_gR (k := 6) i123_23 tf11_6 h23 ?_
        refine rn_iload_n i123_26 rfl ?_
        obtain ⟨r27, h27, h⟩ := Option.bind_eq_some_iff.mp h
        obtain ⟨g27, c27⟩ := S_Bk_givenIn v23 x1 r9.2 r27 h27
        refine fr_callV (a := v23) (As := [.inl x1]) (st := []) i123_27 (cq19 v23 x1) rfl (Nat.le_of_ble_eq_true rfl) g27 (c27 _ (by omega)) ?_
        show Rn _ _ _ _ _ _ [.inl r27.1] _ _ _
        obtain rfl := Option.some.inj h
        exact rn_retI i123_30 mr123
      · rw [if_neg c19] at h
        refine rn_icmp_ne_t i123_19 c19 ?_
        refine fr_aload_n i123_31 rfl ?_
        refine rn_iload_n i123_32 rfl ?_
        obtain ⟨r33, h33, h⟩ := Option.bind_eq_some_iff.mp h
        obtain ⟨g33, c33⟩ := S_Hh_isLetter a0 x2 r9.2 r33 h33
        refine fr_callV (a := a0) (As := [.inl x2]) (st := []) i123_33 (cq109 a0 x2) rfl (Nat.le_of_ble_eq_true rfl) g33 (c33 _ (by omega)) ?_
        show Rn _ _ _ _ _ _ [.inl r33.1] _ _ _
        by_cases c36 : (r33.1 : Int) = 0
        · rw [if_pos c36] at h
          refine rn_if_eq_t i123_36 c36 ?_
          refine rn_iconst i123_51 ?_
          exact rn_sub [] rfl (s_Hh_book_52 hD (-1) r33.2 r h)
        · rw [if_neg c36] at h
          refine rn_if_eq_f i123_36 c36 ?_
          refine fr_aload_n i123_39 rfl ?_
          obtain ⟨v40, h40, h⟩ := Option.bind_eq_some_iff.mp h
          refine fr_gR (k := 6) i123_40 tf11_6 h40 ?_
          refine rn_iload_n i123_43 rfl ?_
          refine rn_iload_n i123_44 rfl ?_
          obtain ⟨r45, h45, h⟩ := Option.bind_eq_some_iff.mp h
          obtain ⟨g45, c45⟩ := S_Bk_handOf v40 x1 x2 r33.2 r45 h45
          refine fr_callV (a := v40) (As := [.inl x1, .inl x2]) (st := []) i123_45 (cq18 v40 x1 x2) rfl (Nat.le_of_ble_eq_true rfl) g45 (c45 _ (by omega)) ?_
          show Rn _ _ _ _ _ _ [.inl r45.1] _ _ _
          refine rn_goto i123_48 ?_
          exact rn_sub [] rfl (s_Hh_book_52 hD r45.1 r45.2 r h)
    · rw [if_neg c12] at h
      refine rn_icmp_lt_f i123_12 c12 ?_
      exact rn_sub [] rfl (s_Hh_book_15 hD r9.2 r h)
/-- HandHeirs.book(II)I -/
def Hh_book (a0 : Nat) (x1 : Int) (x2 : Int) (w : Wd) : Option (Int × Wd) := gd 11 w a0 (Hh_book_0 a0 x1 x2 w)
theorem S_Hh_book {g : Gp} {l : Launch} (a0 : Nat) (x1 : Int) (x2 : Int) (w : Wd) (r : Int × Wd) (h : Hh_book a0 x1 x2 w = some r) : (wsh w a0).1 = 11 ∧ ∀ D, 2 ≤ D → Rn g l D 123 0 [(0, .inr (.inr a0)), (1, .inl x1), (2, .inl x2)] [] w (some (.inl r.1)) r.2 := by
  obtain ⟨hg, h⟩ := gd_some h
  exact ⟨hg, fun D hD => rn_sub [0, 1, 2] rfl (s_Hh_book_0 hD a0 x1 x2 w r h)⟩
def Hh_plan_18 (w : Wd) : Option (Int × Wd) :=
  some ((-1), w)
theorem s_Hh_plan_18 {g : Gp} {l : Launch} {D : Nat} (hD : 5 ≤ D) (w : Wd) (r : Int × Wd) (h : Hh_plan_18 w = some r) : Rn g l D 124 18 [] [] w (some (.inl r.1)) r.2 := by
  unfold Hh_plan_18 at h
  refine rn_iconst i124_18 ?_
  obtain rfl := Option.some.inj h
  exact rn_retI i124_19 mr124
def Hh_plan_0 (a0 : Nat) (x1 : Int) (x2 : Int) (w : Wd) : Option (Int × Wd) :=
  (Hh_isHeir a0 x1 w).bind fun r2 =>
  if (r2.1 : Int) = 0 then
    Hh_plan_18 r2.2
  else
    (Hh_isWithin x2 0 12 r2.2).bind fun r12 =>
    if (r12.1 : Int) = 0 then
      Hh_plan_18 r12.2
    else
      (fgR r12.2 a0 11 11).bind fun v21 =>
      (fgR r12.2 a0 11 3).bind fun v25 =>
      (fgR r12.2 a0 11 4).bind fun v29 =>
      (Pl_lay v21 v25 v29 x1 x2 r12.2).bind fun r34 =>
      some (r34.1, r34.2)
theorem s_Hh_plan_0 {g : Gp} {l : Launch} {D : Nat} (hD : 5 ≤ D) (a0 : Nat) (x1 : Int) (x2 : Int) (w : Wd) (r : Int × Wd) (h : Hh_plan_0 a0 x1 x2 w = some r) : Rn g l D 124 0 [(0, .inr (.inr a0)), (1, .inl x1), (2, .inl x2)] [] w (some (.inl r.1)) r.2 := by
  obtain ⟨D, rfl⟩ : ∃ D1, D = D1 + 1 := ⟨D - 1, by omega⟩
  unfold Hh_plan_0 at h
  refine fr_aload_n i124_0 rfl ?_
  refine rn_iload_n i124_1 rfl ?_
  obtain ⟨r2, h2, h⟩ := Option.bind_eq_some_iff.mp h
  obtain ⟨g2, c2⟩ := S_Hh_isHeir a0 x1 w r2 h2
  refine fr_callV (a := a0) (As := [.inl x1]) (st := []) i124_2 (cq110 a0 x1) rfl (Nat.le_of_ble_eq_true rfl) g2 (c2 _ (by omega)) ?_
  show Rn _ _ _ _ _ _ [.inl r2.1] _ _ _
  by_cases c5 : (r2.1 : Int) = 0
  · rw [if_pos c5] at h
    refine rn_if_eq_t i124_5 c5 ?_
    exact rn_sub [] rfl (s_Hh_plan_18 hD r2.2 r h)
  · rw [if_neg c5] at h
    refine rn_if_eq_f i124_5 c5 ?_
    refine rn_iload_n i124_8 rfl ?_
    refine rn_iconst i124_9 ?_
    refine rn_bipush i124_10 ?_
    obtain ⟨r12, h12, h⟩ := Option.bind_eq_some_iff.mp h
    refine fr_callS (nst := 0) (As := [.inl x2, .inl 0, .inl 12]) (st := []) i124_12 (cq112 x2 0 12) rfl (Nat.le_of_ble_eq_true rfl) (S_Hh_isWithin x2 0 12 r2.2 r12 h12 _ (by omega)) ?_
    show Rn _ _ _ _ _ _ [.inl r12.1] _ _ _
    by_cases c15 : (r12.1 : Int) = 0
    · rw [if_pos c15] at h
      refine rn_if_ne_f i124_15 c15 ?_
      exact rn_sub [] rfl (s_Hh_plan_18 hD r12.2 r h)
    · rw [if_neg c15] at h
      refine rn_if_ne_t i124_15 c15 ?_
      refine fr_aload_n i124_20 rfl ?_
      obtain ⟨v21, h21, h⟩ := Option.bind_eq_some_iff.mp h
      refine fr_gR (k := 11) i124_21 tf11_11 h21 ?_
      refine fr_aload_n i124_24 rfl ?_
      obtain ⟨v25, h25, h⟩ := Option.bind_eq_some_iff.mp h
      refine fr_gR (k := 3) i124_25 tf11_3 h25 ?_
      refine fr_aload_n i124_28 rfl ?_
      obtain ⟨v29, h29, h⟩ := Option.bind_eq_some_iff.mp h
      refine fr_gR (k := 4) i124_29 tf11_4 h29 ?_
      refine rn_iload_n i124_32 rfl ?_
      refine rn_iload_n i124_33 rfl ?_
      obtain ⟨r34, h34, h⟩ := Option.bind_eq_some_iff.mp h
      obtain ⟨g34, c34⟩ := S_Pl_lay v21 v25 v29 x1 x2 r12.2 r34 h34
      refine fr_callV (a := v21) (As := [.inr (.inr v25), .inr (.inr v29), .inl x1, .inl x2]) (st := []) i124_34 (cq50 v21 v25 v29 x1 x2) rfl (Nat.le_of_ble_eq_true rfl) g34 (c34 _ (by omega)) ?_
      show Rn _ _ _ _ _ _ [.inl r34.1] _ _ _
      obtain rfl := Option.some.inj h
      exact rn_retI i124_37 mr124
/-- HandHeirs.plan(II)I -/
def Hh_plan (a0 : Nat) (x1 : Int) (x2 : Int) (w : Wd) : Option (Int × Wd) := gd 11 w a0 (Hh_plan_0 a0 x1 x2 w)
theorem S_Hh_plan {g : Gp} {l : Launch} (a0 : Nat) (x1 : Int) (x2 : Int) (w : Wd) (r : Int × Wd) (h : Hh_plan a0 x1 x2 w = some r) : (wsh w a0).1 = 11 ∧ ∀ D, 5 ≤ D → Rn g l D 124 0 [(0, .inr (.inr a0)), (1, .inl x1), (2, .inl x2)] [] w (some (.inl r.1)) r.2 := by
  obtain ⟨hg, h⟩ := gd_some h
  exact ⟨hg, fun D hD => rn_sub [0, 1, 2] rfl (s_Hh_plan_0 hD a0 x1 x2 w r h)⟩
def Hh_planOf_26 (w : Wd) : Option (Int × Wd) :=
  some ((-1), w)
theorem s_Hh_planOf_26 {g : Gp} {l : Launch} {D : Nat} (hD : 5 ≤ D) (w : Wd) (r : Int × Wd) (h : Hh_planOf_26 w = some r) : Rn g l D 125 26 [] [] w (some (.inl r.1)) r.2 := by
  unfold Hh_planOf_26 at h
  refine rn_iconst i125_26 ?_
  obtain rfl := Option.some.inj h
  exact rn_retI i125_27 mr125
def Hh_planOf_0 (a0 : Nat) (x1 : Int) (x2 : Int) (x3 : Int) (w : Wd) : Option (Int × Wd) :=
  (Hh_isHeir a0 x1 w).bind fun r2 =>
  if (r2.1 : Int) = 0 then
    Hh_planOf_26 r2.2
  else
    (Hh_isWithin x2 0 12 r2.2).bind fun r12 =>
    if (r12.1 : Int) = 0 then
      Hh_planOf_26 r12.2
    else
      (Hh_isLetter a0 x3 r12.2).bind fun r20 =>
      if (r20.1 : Int) = 0 then
        Hh_planOf_26 r20.2
      else
        (fgR r20.2 a0 11 11).bind fun v29 =>
        (fgR r20.2 a0 11 3).bind fun v33 =>
        (fgR r20.2 a0 11 4).bind fun v37 =>
        (Pl_lay v29 v33 v37 x1 x2 r20.2).bind fun r42 =>
        (fgR r42.2 a0 11 11).bind fun v47 =>
        (fgR r42.2 v47 5 0).bind fun v50 =>
        (rdI r42.2 v50 x3).bind fun v54 =>
        some (v54, r42.2)
theorem s_Hh_planOf_0 {g : Gp} {l : Launch} {D : Nat} (hD : 5 ≤ D) (a0 : Nat) (x1 : Int) (x2 : Int) (x3 : Int) (w : Wd) (r : Int × Wd) (h : Hh_planOf_0 a0 x1 x2 x3 w = some r) : Rn g l D 125 0 [(0, .inr (.inr a0)), (1, .inl x1), (2, .inl x2), (3, .inl x3)] [] w (some (.inl r.1)) r.2 := by
  obtain ⟨D, rfl⟩ : ∃ D1, D = D1 + 1 := ⟨D - 1, by omega⟩
  unfold Hh_planOf_0 at h
  refine fr_aload_n i125_0 rfl ?_
  refine rn_iload_n i125_1 rfl ?_
  obtain ⟨r2, h2, h⟩ := Option.bind_eq_some_iff.mp h
  obtain ⟨g2, c2⟩ := S_Hh_isHeir a0 x1 w r2 h2
  refine fr_callV (a := a0) (As := [.inl x1]) (st := []) i125_2 (cq110 a0 x1) rfl (Nat.le_of_ble_eq_true rfl) g2 (c2 _ (by omega)) ?_
  show Rn _ _ _ _ _ _ [.inl r2.1] _ _ _
  by_cases c5 : (r2.1 : Int) = 0
  · rw [if_pos c5] at h
    refine rn_if_eq_t i125_5 c5 ?_
    exact rn_sub [] rfl (s_Hh_planOf_26 hD r2.2 r h)
  · rw [if_neg c5] at h
    refine rn_if_eq_f i125_5 c5 ?_
    refine rn_iload_n i125_8 rfl ?_
    refine rn_iconst i125_9 ?_
    refine rn_bipush i125_10 ?_
    obtain ⟨r12, h12, h⟩ := Option.bind_eq_some_iff.mp h
    refine fr_callS (nst := 0) (As := [.inl x2, .inl 0, .inl 12]) (st := []) i125_12 (cq112 x2 0 12) rfl (Nat.le_of_ble_eq_true rfl) (S_Hh_isWithin x2 0 12 r2.2 r12 h12 _ (by omega)) ?_
    show Rn _ _ _ _ _ _ [.inl r12.1] _ _ _
    by_cases c15 : (r12.1 : Int) = 0
    · rw [if_pos c15] at h
      refine rn_if_eq_t i125_15 c15 ?_
      exact rn_sub [] rfl (s_Hh_planOf_26 hD r12.2 r h)
    · rw [if_neg c15] at h
      refine rn_if_eq_f i125_15 c15 ?_
      refine fr_aload_n i125_18 rfl ?_
      refine rn_iload_n i125_19 rfl ?_
      obtain ⟨r20, h20, h⟩ := Option.bind_eq_some_iff.mp h
      obtain ⟨g20, c20⟩ := S_Hh_isLetter a0 x3 r12.2 r20 h20
      refine fr_callV (a := a0) (As := [.inl x3]) (st := []) i125_20 (cq109 a0 x3) rfl (Nat.le_of_ble_eq_true rfl) g20 (c20 _ (by omega)) ?_
      show Rn _ _ _ _ _ _ [.inl r20.1] _ _ _
      by_cases c23 : (r20.1 : Int) = 0
      · rw [if_pos c23] at h
        refine rn_if_ne_f i125_23 c23 ?_
        exact rn_sub [] rfl (s_Hh_planOf_26 hD r20.2 r h)
      · rw [if_neg c23] at h
        refine rn_if_ne_t i125_23 c23 ?_
        refine fr_aload_n i125_28 rfl ?_
        obtain ⟨v29, h29, h⟩ := Option.bind_eq_some_iff.mp h
        refine fr_gR (k := 11) i125_29 tf11_11 h29 ?_
        refine fr_aload_n i125_32 rfl ?_
        obtain ⟨v33, h33, h⟩ := Option.bind_eq_some_iff.mp h
        refine fr_gR (k := 3) i125_33 tf11_3 h33 ?_
        refine fr_aload_n i125_36 rfl ?_
        obtain ⟨v37, h37, h⟩ := Option.bind_eq_some_iff.mp h
        refine fr_gR (k := 4) i125_37 tf11_4 h37 ?_
        refine rn_iload_n i125_40 rfl ?_
        refine rn_iload_n i125_41 rfl ?_
        obtain ⟨r42, h42, h⟩ := Option.bind_eq_some_iff.mp h
        obtain ⟨g42, c42⟩ := S_Pl_lay v29 v33 v37 x1 x2 r20.2 r42 h42
        refine fr_callV (a := v29) (As := [.inr (.inr v33), .inr (.inr v37), .inl x1, .inl x2]) (st := []) i125_42 (cq50 v29 v33 v37 x1 x2) rfl (Nat.le_of_ble_eq_true rfl) g42 (c42 _ (by omega)) ?_
        show Rn _ _ _ _ _ _ [.inl r42.1] _ _ _
        refine rn_pop i125_45 rfl ?_
        refine fr_aload_n i125_46 rfl ?_
        obtain ⟨v47, h47, h⟩ := Option.bind_eq_some_iff.mp h
        refine fr_gR (k := 11) i125_47 tf11_11 h47 ?_
        obtain ⟨v50, h50, h⟩ := Option.bind_eq_some_iff.mp h
        refine fr_gR (k := 0) i125_50 tf5_0 h50 ?_
        refine rn_iload_n i125_53 rfl ?_
        obtain ⟨v54, h54, h⟩ := Option.bind_eq_some_iff.mp h
        refine rn_iald i125_54 h54 ?_
        obtain rfl := Option.some.inj h
        exact rn_retI i125_55 mr125
/-- HandHeirs.planOf(III)I -/
def Hh_planOf (a0 : Nat) (x1 : Int) (x2 : Int) (x3 : Int) (w : Wd) : Option (Int × Wd) := gd 11 w a0 (Hh_planOf_0 a0 x1 x2 x3 w)
theorem S_Hh_planOf {g : Gp} {l : Launch} (a0 : Nat) (x1 : Int) (x2 : Int) (x3 : Int) (w : Wd) (r : Int × Wd) (h : Hh_planOf a0 x1 x2 x3 w = some r) : (wsh w a0).1 = 11 ∧ ∀ D, 5 ≤ D → Rn g l D 125 0 [(0, .inr (.inr a0)), (1, .inl x1), (2, .inl x2), (3, .inl x3)] [] w (some (.inl r.1)) r.2 := by
  obtain ⟨hg, h⟩ := gd_some h
  exact ⟨hg, fun D hD => rn_sub [0, 1, 2, 3] rfl (s_Hh_planOf_0 hD a0 x1 x2 x3 w r h)⟩
def Hh_needs_94 (k12 : Nat → Int → Int → Wd → Option (Int × Wd)) (a0 : Nat) (x1 : Int) (x2 : Int) (w : Wd) : Option (Int × Wd) :=
  (fgR w a0 11 10).bind fun v95 =>
  (fgR w a0 11 3).bind fun v99 =>
  (fgR w a0 11 5).bind fun v103 =>
  (fgR w a0 11 3).bind fun v107 =>
  (fgI w v107 10 5).bind fun v110 =>
  (Ct_given v95 v99 v103 v110 w).bind fun r113 =>
  if (r113.1 : Int) = x1 then
    some (x2, r113.2)
  else
    k12 a0 x1 (w32 (x2 + 1)) r113.2
theorem s_Hh_needs_94 {g : Gp} {l : Launch} {D : Nat} (hD : 5 ≤ D) (k12 : Nat → Int → Int → Wd → Option (Int × Wd)) (hk12 : ∀ (a0 : Nat) (x1 : Int) (x2 : Int) (w : Wd) (r : Int × Wd), k12 a0 x1 x2 w = some r → Rn g l D 126 12 [(0, .inr (.inr a0)), (1, .inl x1), (2, .inl x2)] [] w (some (.inl r.1)) r.2) (a0 : Nat) (x1 : Int) (x2 : Int) (w : Wd) (r : Int × Wd) (h : Hh_needs_94 k12 a0 x1 x2 w = some r) : Rn g l D 126 94 [(0, .inr (.inr a0)), (1, .inl x1), (2, .inl x2)] [] w (some (.inl r.1)) r.2 := by
  obtain ⟨D, rfl⟩ : ∃ D1, D = D1 + 1 := ⟨D - 1, by omega⟩
  unfold Hh_needs_94 at h
  refine fr_aload_n i126_94 rfl ?_
  obtain ⟨v95, h95, h⟩ := Option.bind_eq_some_iff.mp h
  refine fr_gR (k := 10) i126_95 tf11_10 h95 ?_
  refine fr_aload_n i126_98 rfl ?_
  obtain ⟨v99, h99, h⟩ := Option.bind_eq_some_iff.mp h
  refine fr_gR (k := 3) i126_99 tf11_3 h99 ?_
  refine fr_aload_n i126_102 rfl ?_
  obtain ⟨v103, h103, h⟩ := Option.bind_eq_some_iff.mp h
  refine fr_gR (k := 5) i126_103 tf11_5 h103 ?_
  refine fr_aload_n i126_106 rfl ?_
  obtain ⟨v107, h107, h⟩ := Option.bind_eq_some_iff.mp h
  refine fr_gR (k := 3) i126_107 tf11_3 h107 ?_
  obtain ⟨v110, h110, h⟩ := Option.bind_eq_some_iff.mp h
  refine fr_gI (k := 5) i126_110 tf10_5 h110 ?_
  obtain ⟨r113, h113, h⟩ := Option.bind_eq_some_iff.mp h
  obtain ⟨g113, c113⟩ := S_Ct_given v95 v99 v103 v110 w r113 h113
  refine fr_callV (a := v95) (As := [.inr (.inr v99), .inr (.inr v103), .inl v110]) (st := []) i126_113 (cq31 v95 v99 v103 v110) rfl (Nat.le_of_ble_eq_true rfl) g113 (c113 _ (by omega)) ?_
  show Rn _ _ _ _ _ _ [.inl r113.1] _ _ _
  refine rn_iload_n i126_116 rfl ?_
  by_cases c117 : (r113.1 : Int) = x1
  · rw [if_pos c117] at h
    refine rn_icmp_ne_f i126_117 c117 ?_
    refine rn_iload_n i126_120 rfl ?_
    obtain rfl := Option.some.inj h
    exact rn_retI i126_121 mr126
  · rw [if_neg c117] at h
    refine rn_icmp_ne_t i126_117 c117 ?_
    refine rn_iinc (ls1 := [(2, .inl (w32 (x2 + 1))), (0, .inr (.inr a0)), (1, .inl x1)]) i126_122 rfl rfl ?_
    refine rn_goto i126_125 ?_
    exact rn_sub [1, 2, 0] rfl (hk12 a0 x1 (w32 (x2 + 1)) r113.2 r h)
def Hh_needs_49 (k12 : Nat → Int → Int → Wd → Option (Int × Wd)) : Nat → Nat → Int → Int → Int → Wd → Option (Int × Wd)
  | 0, _, _, _, _, _ => none
  | n + 1, a0, x1, x2, x3, w =>
    (fgR w a0 11 3).bind fun v51 =>
    (fgI w v51 10 0).bind fun v54 =>
    if (v54 : Int) ≤ x3 then
      Hh_needs_94 k12 a0 x1 x2 w
    else
      (fgR w a0 11 5).bind fun v61 =>
      (fgR w a0 11 11).bind fun v67 =>
      (fgR w v67 5 0).bind fun v70 =>
      (rdI w v70 x3).bind fun v74 =>
      (fgR w a0 11 3).bind fun v76 =>
      (fgR w v76 10 8).bind fun v79 =>
      (rdI w v79 x1).bind fun v83 =>
      (St_teach v61 x1 x3 (w32 (v74 * v83)) w).bind fun r85 =>
      Hh_needs_49 k12 n a0 x1 x2 (w32 (x3 + 1)) r85
theorem s_Hh_needs_49 {g : Gp} {l : Launch} {D : Nat} (hD : 5 ≤ D) (k12 : Nat → Int → Int → Wd → Option (Int × Wd)) (hk12 : ∀ (a0 : Nat) (x1 : Int) (x2 : Int) (w : Wd) (r : Int × Wd), k12 a0 x1 x2 w = some r → Rn g l D 126 12 [(0, .inr (.inr a0)), (1, .inl x1), (2, .inl x2)] [] w (some (.inl r.1)) r.2) : ∀ (n : Nat) (a0 : Nat) (x1 : Int) (x2 : Int) (x3 : Int) (w : Wd) (r : Int × Wd), Hh_needs_49 k12 n a0 x1 x2 x3 w = some r → Rn g l D 126 49 [(0, .inr (.inr a0)), (1, .inl x1), (2, .inl x2), (3, .inl x3)] [] w (some (.inl r.1)) r.2 := by
  obtain ⟨D, rfl⟩ : ∃ D1, D = D1 + 1 := ⟨D - 1, by omega⟩
  intro n
  induction n with
  | zero => intro a0 x1 x2 x3 w r h; cases (show (none : Option (Int × Wd)) = some r from h)
  | succ n ih =>
    intro a0 x1 x2 x3 w r h
    unfold Hh_needs_49 at h
    refine rn_iload_n i126_49 rfl ?_
    refine fr_aload_n i126_50 rfl ?_
    obtain ⟨v51, h51, h⟩ := Option.bind_eq_some_iff.mp h
    refine fr_gR (k := 3) i126_51 tf11_3 h51 ?_
    obtain ⟨v54, h54, h⟩ := Option.bind_eq_some_iff.mp h
    refine fr_gI (k := 0) i126_54 tf10_0 h54 ?_
    by_cases c57 : (v54 : Int) ≤ x3
    · rw [if_pos c57] at h
      refine rn_icmp_ge_t i126_57 c57 ?_
      exact rn_sub [0, 1, 2] rfl (s_Hh_needs_94 hD k12 hk12 a0 x1 x2 w r h)
    · rw [if_neg c57] at h
      refine rn_icmp_ge_f i126_57 c57 ?_
      refine fr_aload_n i126_60 rfl ?_
      obtain ⟨v61, h61, h⟩ := Option.bind_eq_some_iff.mp h
      refine fr_gR (k := 5) i126_61 tf11_5 h61 ?_
      refine rn_iload_n i126_64 rfl ?_
      refine rn_iload_n i126_65 rfl ?_
      refine fr_aload_n i126_66 rfl ?_
      obtain ⟨v67, h67, h⟩ := Option.bind_eq_some_iff.mp h
      refine fr_gR (k := 11) i126_67 tf11_11 h67 ?_
      obtain ⟨v70, h70, h⟩ := Option.bind_eq_some_iff.mp h
      refine fr_gR (k := 0) i126_70 tf5_0 h70 ?_
      refine rn_iload_n i126_73 rfl ?_
      obtain ⟨v74, h74, h⟩ := Option.bind_eq_some_iff.mp h
      refine rn_iald i126_74 h74 ?_
      refine fr_aload_n i126_75 rfl ?_
      obtain ⟨v76, h76, h⟩ := Option.bind_eq_some_iff.mp h
      refine fr_gR (k := 3) i126_76 tf11_3 h76 ?_
      obtain ⟨v79, h79, h⟩ := Option.bind_eq_some_iff.mp h
      refine fr_gR (k := 8) i126_79 tf10_8 h79 ?_
      refine rn_iload_n i126_82 rfl ?_
      obtain ⟨v83, h83, h⟩ := Option.bind_eq_some_iff.mp h
      refine rn_iald i126_83 h83 ?_
      refine rn_imul i126_84 ?_
      obtain ⟨r85, h85, h⟩ := Option.bind_eq_some_iff.mp h
      obtain ⟨g85, c85⟩ := S_St_teach v61 x1 x3 (w32 (v74 * v83)) w r85 h85
      refine fr_callV (a := v61) (As := [.inl x1, .inl x3, .inl (w32 (v74 * v83))]) (st := []) i126_85 (cq94 v61 x1 x3 (w32 (v74 * v83))) rfl (Nat.le_of_ble_eq_true rfl) g85 (c85 _ (by omega)) ?_
      refine rn_iinc (ls1 := [(3, .inl (w32 (x3 + 1))), (0, .inr (.inr a0)), (1, .inl x1), (2, .inl x2)]) i126_88 rfl rfl ?_
      refine rn_goto i126_91 ?_
      exact rn_sub [1, 2, 3, 0] rfl (ih a0 x1 x2 (w32 (x3 + 1)) r85 r h)
def Hh_needs_12 : Nat → Nat → Int → Int → Wd → Option (Int × Wd)
  | 0, _, _, _, _ => none
  | n + 1, a0, x1, x2, w =>
    if (12 : Int) < x2 then
      some ((-2), w)
    else
      (fgR w a0 11 11).bind fun v19 =>
      (fgR w a0 11 3).bind fun v23 =>
      (fgR w a0 11 4).bind fun v27 =>
      (Pl_lay v19 v23 v27 x1 x2 w).bind fun r32 =>
      (fgR r32.2 a0 11 5).bind fun v37 =>
      (fgR r32.2 a0 11 4).bind fun v41 =>
      (St_copy v37 v41 r32.2).bind fun r44 =>
      Hh_needs_49 (Hh_needs_12 n) FU a0 x1 x2 0 r44
theorem s_Hh_needs_12 {g : Gp} {l : Launch} {D : Nat} (hD : 5 ≤ D) : ∀ (n : Nat) (a0 : Nat) (x1 : Int) (x2 : Int) (w : Wd) (r : Int × Wd), Hh_needs_12 n a0 x1 x2 w = some r → Rn g l D 126 12 [(0, .inr (.inr a0)), (1, .inl x1), (2, .inl x2)] [] w (some (.inl r.1)) r.2 := by
  obtain ⟨D, rfl⟩ : ∃ D1, D = D1 + 1 := ⟨D - 1, by omega⟩
  intro n
  induction n with
  | zero => intro a0 x1 x2 w r h; cases (show (none : Option (Int × Wd)) = some r from h)
  | succ n ih =>
    intro a0 x1 x2 w r h
    unfold Hh_needs_12 at h
    refine rn_iload_n i126_12 rfl ?_
    refine rn_bipush i126_13 ?_
    by_cases c15 : (12 : Int) < x2
    · rw [if_pos c15] at h
      refine rn_icmp_gt_t i126_15 c15 ?_
      refine rn_bipush i126_128 ?_
      obtain rfl := Option.some.inj h
      exact rn_retI i126_130 mr126
    · rw [if_neg c15] at h
      refine rn_icmp_gt_f i126_15 c15 ?_
      refine fr_aload_n i126_18 rfl ?_
      obtain ⟨v19, h19, h⟩ := Option.bind_eq_some_iff.mp h
      refine fr_gR (k := 11) i126_19 tf11_11 h19 ?_
      refine fr_aload_n i126_22 rfl ?_
      obtain ⟨v23, h23, h⟩ := Option.bind_eq_some_iff.mp h
      refine fr_gR (k := 3) i126_23 tf11_3 h23 ?_
      refine fr_aload_n i126_26 rfl ?_
      obtain ⟨v27, h27, h⟩ := Option.bind_eq_some_iff.mp h
      refine fr_gR (k := 4) i126_27 tf11_4 h27 ?_
      refine rn_iload_n i126_30 rfl ?_
      refine rn_iload_n i126_31 rfl ?_
      obtain ⟨r32, h32, h⟩ := Option.bind_eq_some_iff.mp h
      obtain ⟨g32, c32⟩ := S_Pl_lay v19 v23 v27 x1 x2 w r32 h32
      refine fr_callV (a := v19) (As := [.inr (.inr v23), .inr (.inr v27), .inl x1, .inl x2]) (st := []) i126_32 (cq50 v19 v23 v27 x1 x2) rfl (Nat.le_of_ble_eq_true rfl) g32 (c32 _ (by omega)) ?_
      show Rn _ _ _ _ _ _ [.inl r32.1] _ _ _
      refine rn_pop i126_35 rfl ?_
      refine fr_aload_n i126_36 rfl ?_
      obtain ⟨v37, h37, h⟩ := Option.bind_eq_some_iff.mp h
      refine fr_gR (k := 5) i126_37 tf11_5 h37 ?_
      refine fr_aload_n i126_40 rfl ?_
      obtain ⟨v41, h41, h⟩ := Option.bind_eq_some_iff.mp h
      refine fr_gR (k := 4) i126_41 tf11_4 h41 ?_
      obtain ⟨r44, h44, h⟩ := Option.bind_eq_some_iff.mp h
      obtain ⟨g44, c44⟩ := S_St_copy v37 v41 r32.2 r44 h44
      refine fr_callV (a := v37) (As := [.inr (.inr v41)]) (st := []) i126_44 (cq89 v37 v41) rfl (Nat.le_of_ble_eq_true rfl) g44 (c44 _ (by omega)) ?_
      refine rn_iconst i126_47 ?_
      refine rn_istore_n (ls1 := [(3, .inl 0), (0, .inr (.inr a0)), (1, .inl x1), (2, .inl x2)]) i126_48 rfl ?_
      exact rn_sub [1, 2, 3, 0] rfl (s_Hh_needs_49 hD (Hh_needs_12 n) ih FU a0 x1 x2 0 r44 r h)
def Hh_needs_0 (a0 : Nat) (x1 : Int) (w : Wd) : Option (Int × Wd) :=
  (Hh_isHeir a0 x1 w).bind fun r2 =>
  if (r2.1 : Int) = 0 then
    some ((-1), r2.2)
  else
    Hh_needs_12 FU a0 x1 0 r2.2
theorem s_Hh_needs_0 {g : Gp} {l : Launch} {D : Nat} (hD : 5 ≤ D) (a0 : Nat) (x1 : Int) (w : Wd) (r : Int × Wd) (h : Hh_needs_0 a0 x1 w = some r) : Rn g l D 126 0 [(0, .inr (.inr a0)), (1, .inl x1)] [] w (some (.inl r.1)) r.2 := by
  obtain ⟨D, rfl⟩ : ∃ D1, D = D1 + 1 := ⟨D - 1, by omega⟩
  unfold Hh_needs_0 at h
  refine fr_aload_n i126_0 rfl ?_
  refine rn_iload_n i126_1 rfl ?_
  obtain ⟨r2, h2, h⟩ := Option.bind_eq_some_iff.mp h
  obtain ⟨g2, c2⟩ := S_Hh_isHeir a0 x1 w r2 h2
  refine fr_callV (a := a0) (As := [.inl x1]) (st := []) i126_2 (cq110 a0 x1) rfl (Nat.le_of_ble_eq_true rfl) g2 (c2 _ (by omega)) ?_
  show Rn _ _ _ _ _ _ [.inl r2.1] _ _ _
  by_cases c5 : (r2.1 : Int) = 0
  · rw [if_pos c5] at h
    refine rn_if_ne_f i126_5 c5 ?_
    refine rn_iconst i126_8 ?_
    obtain rfl := Option.some.inj h
    exact rn_retI i126_9 mr126
  · rw [if_neg c5] at h
    refine rn_if_ne_t i126_5 c5 ?_
    refine rn_iconst i126_10 ?_
    refine rn_istore_n (ls1 := [(2, .inl 0), (0, .inr (.inr a0)), (1, .inl x1)]) i126_11 rfl ?_
    exact rn_sub [1, 2, 0] rfl (s_Hh_needs_12 hD FU a0 x1 0 r2.2 r h)
/-- HandHeirs.needs(I)I -/
def Hh_needs (a0 : Nat) (x1 : Int) (w : Wd) : Option (Int × Wd) := gd 11 w a0 (Hh_needs_0 a0 x1 w)
theorem S_Hh_needs {g : Gp} {l : Launch} (a0 : Nat) (x1 : Int) (w : Wd) (r : Int × Wd) (h : Hh_needs a0 x1 w = some r) : (wsh w a0).1 = 11 ∧ ∀ D, 5 ≤ D → Rn g l D 126 0 [(0, .inr (.inr a0)), (1, .inl x1)] [] w (some (.inl r.1)) r.2 := by
  obtain ⟨hg, h⟩ := gd_some h
  exact ⟨hg, fun D hD => rn_sub [0, 1] rfl (s_Hh_needs_0 hD a0 x1 w r h)⟩
def Hh_swing_0 (a0 : Nat) (x1 : Int) (w : Wd) : Option (Int × Wd) :=
  (Hh_isMaster a0 x1 w).bind fun r2 =>
  if (r2.1 : Int) = 0 then
    some ((-1), r2.2)
  else
    (fgR r2.2 a0 11 10).bind fun v11 =>
    (fgR r2.2 a0 11 3).bind fun v15 =>
    (fgR r2.2 a0 11 4).bind fun v19 =>
    (fgR r2.2 a0 11 3).bind fun v23 =>
    (fgI r2.2 v23 10 5).bind fun v26 =>
    (Ct_compare v11 v15 v19 v26 r2.2).bind fun r29 =>
    (fgR r29 a0 11 10).bind fun v33 =>
    (fgR r29 a0 11 3).bind fun v37 =>
    (Ct_award v33 v37 (-1) x1 r29).bind fun r42 =>
    some (r42.1, r42.2)
theorem s_Hh_swing_0 {g : Gp} {l : Launch} {D : Nat} (hD : 4 ≤ D) (a0 : Nat) (x1 : Int) (w : Wd) (r : Int × Wd) (h : Hh_swing_0 a0 x1 w = some r) : Rn g l D 127 0 [(0, .inr (.inr a0)), (1, .inl x1)] [] w (some (.inl r.1)) r.2 := by
  obtain ⟨D, rfl⟩ : ∃ D1, D = D1 + 1 := ⟨D - 1, by omega⟩
  unfold Hh_swing_0 at h
  refine fr_aload_n i127_0 rfl ?_
  refine rn_iload_n i127_1 rfl ?_
  obtain ⟨r2, h2, h⟩ := Option.bind_eq_some_iff.mp h
  obtain ⟨g2, c2⟩ := S_Hh_isMaster a0 x1 w r2 h2
  refine fr_callV (a := a0) (As := [.inl x1]) (st := []) i127_2 (cq111 a0 x1) rfl (Nat.le_of_ble_eq_true rfl) g2 (c2 _ (by omega)) ?_
  show Rn _ _ _ _ _ _ [.inl r2.1] _ _ _
  by_cases c5 : (r2.1 : Int) = 0
  · rw [if_pos c5] at h
    refine rn_if_ne_f i127_5 c5 ?_
    refine rn_iconst i127_8 ?_
    obtain rfl := Option.some.inj h
    exact rn_retI i127_9 mr127
  · rw [if_neg c5] at h
    refine rn_if_ne_t i127_5 c5 ?_
    refine fr_aload_n i127_10 rfl ?_
    obtain ⟨v11, h11, h⟩ := Option.bind_eq_some_iff.mp h
    refine fr_gR (k := 10) i127_11 tf11_10 h11 ?_
    refine fr_aload_n i127_14 rfl ?_
    obtain ⟨v15, h15, h⟩ := Option.bind_eq_some_iff.mp h
    refine fr_gR (k := 3) i127_15 tf11_3 h15 ?_
    refine fr_aload_n i127_18 rfl ?_
    obtain ⟨v19, h19, h⟩ := Option.bind_eq_some_iff.mp h
    refine fr_gR (k := 4) i127_19 tf11_4 h19 ?_
    refine fr_aload_n i127_22 rfl ?_
    obtain ⟨v23, h23, h⟩ := Option.bind_eq_some_iff.mp h
    refine fr_gR (k := 3) i127_23 tf11_3 h23 ?_
    obtain ⟨v26, h26, h⟩ := Option.bind_eq_some_iff.mp h
    refine fr_gI (k := 5) i127_26 tf10_5 h26 ?_
    obtain ⟨r29, h29, h⟩ := Option.bind_eq_some_iff.mp h
    obtain ⟨g29, c29⟩ := S_Ct_compare v11 v15 v19 v26 r2.2 r29 h29
    refine fr_callV (a := v11) (As := [.inr (.inr v15), .inr (.inr v19), .inl v26]) (st := []) i127_29 (cq26 v11 v15 v19 v26) rfl (Nat.le_of_ble_eq_true rfl) g29 (c29 _ (by omega)) ?_
    refine fr_aload_n i127_32 rfl ?_
    obtain ⟨v33, h33, h⟩ := Option.bind_eq_some_iff.mp h
    refine fr_gR (k := 10) i127_33 tf11_10 h33 ?_
    refine fr_aload_n i127_36 rfl ?_
    obtain ⟨v37, h37, h⟩ := Option.bind_eq_some_iff.mp h
    refine fr_gR (k := 3) i127_37 tf11_3 h37 ?_
    refine rn_iconst i127_40 ?_
    refine rn_iload_n i127_41 rfl ?_
    obtain ⟨r42, h42, h⟩ := Option.bind_eq_some_iff.mp h
    obtain ⟨g42, c42⟩ := S_Ct_award v33 v37 (-1) x1 r29 r42 h42
    refine fr_callV (a := v33) (As := [.inr (.inr v37), .inl (-1), .inl x1]) (st := []) i127_42 (cq29 v33 v37 (-1) x1) rfl (Nat.le_of_ble_eq_true rfl) g42 (c42 _ (by omega)) ?_
    show Rn _ _ _ _ _ _ [.inl r42.1] _ _ _
    obtain rfl := Option.some.inj h
    exact rn_retI i127_45 mr127
/-- HandHeirs.swing(I)I -/
def Hh_swing (a0 : Nat) (x1 : Int) (w : Wd) : Option (Int × Wd) := gd 11 w a0 (Hh_swing_0 a0 x1 w)
theorem S_Hh_swing {g : Gp} {l : Launch} (a0 : Nat) (x1 : Int) (w : Wd) (r : Int × Wd) (h : Hh_swing a0 x1 w = some r) : (wsh w a0).1 = 11 ∧ ∀ D, 4 ≤ D → Rn g l D 127 0 [(0, .inr (.inr a0)), (1, .inl x1)] [] w (some (.inl r.1)) r.2 := by
  obtain ⟨hg, h⟩ := gd_some h
  exact ⟨hg, fun D hD => rn_sub [0, 1] rfl (s_Hh_swing_0 hD a0 x1 w r h)⟩
def Hh_chance_18 (w : Wd) : Option (Int × Wd) :=
  some ((-1), w)
theorem s_Hh_chance_18 {g : Gp} {l : Launch} {D : Nat} (hD : 5 ≤ D) (w : Wd) (r : Int × Wd) (h : Hh_chance_18 w = some r) : Rn g l D 128 18 [] [] w (some (.inl r.1)) r.2 := by
  unfold Hh_chance_18 at h
  refine rn_iconst i128_18 ?_
  obtain rfl := Option.some.inj h
  exact rn_retI i128_19 mr128
def Hh_chance_55 (k25 : Nat → Int → Int → Int → Int → Wd → Option (Int × Wd)) (a0 : Nat) (x1 : Int) (x2 : Int) (x3 : Int) (x4 : Int) (w : Wd) : Option (Int × Wd) :=
  k25 a0 x1 x2 x3 (w32 (x4 + 1)) w
theorem s_Hh_chance_55 {g : Gp} {l : Launch} {D : Nat} (hD : 5 ≤ D) (k25 : Nat → Int → Int → Int → Int → Wd → Option (Int × Wd)) (hk25 : ∀ (a0 : Nat) (x1 : Int) (x2 : Int) (x3 : Int) (x4 : Int) (w : Wd) (r : Int × Wd), k25 a0 x1 x2 x3 x4 w = some r → Rn g l D 128 25 [(0, .inr (.inr a0)), (1, .inl x1), (2, .inl x2), (3, .inl x3), (4, .inl x4)] [] w (some (.inl r.1)) r.2) (a0 : Nat) (x1 : Int) (x2 : Int) (x3 : Int) (x4 : Int) (w : Wd) (r : Int × Wd) (h : Hh_chance_55 k25 a0 x1 x2 x3 x4 w = some r) : Rn g l D 128 55 [(0, .inr (.inr a0)), (1, .inl x1), (2, .inl x2), (3, .inl x3), (4, .inl x4)] [] w (some (.inl r.1)) r.2 := by
  unfold Hh_chance_55 at h
  refine rn_iinc (ls1 := [(4, .inl (w32 (x4 + 1))), (0, .inr (.inr a0)), (1, .inl x1), (2, .inl x2), (3, .inl x3)]) i128_55 rfl rfl ?_
  refine rn_goto i128_58 ?_
  exact rn_sub [1, 2, 3, 4, 0] rfl (hk25 a0 x1 x2 x3 (w32 (x4 + 1)) w r h)
def Hh_chance_25 : Nat → Nat → Int → Int → Int → Int → Wd → Option (Int × Wd)
  | 0, _, _, _, _, _, _ => none
  | n + 1, a0, x1, x2, x3, x4, w =>
    if (x2 : Int) ≤ x4 then
      some (x3, w)
    else
      (fgR w a0 11 10).bind fun v32 =>
      (fgR w a0 11 3).bind fun v36 =>
      (fgR w a0 11 4).bind fun v40 =>
      (Ct_given v32 v36 v40 x4 w).bind fun r45 =>
      if (r45.1 : Int) = x1 then
        Hh_chance_55 (Hh_chance_25 n) a0 x1 x2 (w32 (x3 + 1)) x4 r45.2
      else
        Hh_chance_55 (Hh_chance_25 n) a0 x1 x2 x3 x4 r45.2
theorem s_Hh_chance_25 {g : Gp} {l : Launch} {D : Nat} (hD : 5 ≤ D) : ∀ (n : Nat) (a0 : Nat) (x1 : Int) (x2 : Int) (x3 : Int) (x4 : Int) (w : Wd) (r : Int × Wd), Hh_chance_25 n a0 x1 x2 x3 x4 w = some r → Rn g l D 128 25 [(0, .inr (.inr a0)), (1, .inl x1), (2, .inl x2), (3, .inl x3), (4, .inl x4)] [] w (some (.inl r.1)) r.2 := by
  obtain ⟨D, rfl⟩ : ∃ D1, D = D1 + 1 := ⟨D - 1, by omega⟩
  intro n
  induction n with
  | zero => intro a0 x1 x2 x3 x4 w r h; cases (show (none : Option (Int × Wd)) = some r from h)
  | succ n ih =>
    intro a0 x1 x2 x3 x4 w r h
    unfold Hh_chance_25 at h
    refine rn_iload i128_25 rfl ?_
    refine rn_iload_n i128_27 rfl ?_
    by_cases c28 : (x2 : Int) ≤ x4
    · rw [if_pos c28] at h
      refine rn_icmp_ge_t i128_28 c28 ?_
      refine rn_iload_n i128_61 rfl ?_
      obtain rfl := Option.some.inj h
      exact rn_retI i128_62 mr128
    · rw [if_neg c28] at h
      refine rn_icmp_ge_f i128_28 c28 ?_
      refine fr_aload_n i128_31 rfl ?_
      obtain ⟨v32, h32, h⟩ := Option.bind_eq_some_iff.mp h
      refine fr_gR (k := 10) i128_32 tf11_10 h32 ?_
      refine fr_aload_n i128_35 rfl ?_
      obtain ⟨v36, h36, h⟩ := Option.bind_eq_some_iff.mp h
      refine fr_gR (k := 3) i128_36 tf11_3 h36 ?_
      refine fr_aload_n i128_39 rfl ?_
      obtain ⟨v40, h40, h⟩ := Option.bind_eq_some_iff.mp h
      refine fr_gR (k := 4) i128_40 tf11_4 h40 ?_
      refine rn_iload i128_43 rfl ?_
      obtain ⟨r45, h45, h⟩ := Option.bind_eq_some_iff.mp h
      obtain ⟨g45, c45⟩ := S_Ct_given v32 v36 v40 x4 w r45 h45
      refine fr_callV (a := v32) (As := [.inr (.inr v36), .inr (.inr v40), .inl x4]) (st := []) i128_45 (cq31 v32 v36 v40 x4) rfl (Nat.le_of_ble_eq_true rfl) g45 (c45 _ (by omega)) ?_
      show Rn _ _ _ _ _ _ [.inl r45.1] _ _ _
      refine rn_iload_n i128_48 rfl ?_
      by_cases c49 : (r45.1 : Int) = x1
      · rw [if_pos c49] at h
        refine rn_icmp_ne_f i128_49 c49 ?_
        refine rn_iinc (ls1 := [(3, .inl (w32 (x3 + 1))), (0, .inr (.inr a0)), (1, .inl x1), (2, .inl x2), (4, .inl x4)]) i128_52 rfl rfl ?_
        exact rn_sub [1, 2, 3, 0, 4] rfl (s_Hh_chance_55 hD (Hh_chance_25 n) ih a0 x1 x2 (w32 (x3 + 1)) x4 r45.2 r h)
      · rw [if_neg c49] at h
        refine rn_icmp_ne_t i128_49 c49 ?_
        exact rn_sub [0, 1, 2, 3, 4] rfl (s_Hh_chance_55 hD (Hh_chance_25 n) ih a0 x1 x2 x3 x4 r45.2 r h)
def Hh_chance_0 (a0 : Nat) (x1 : Int) (x2 : Int) (w : Wd) : Option (Int × Wd) :=
  (Hh_isHeir a0 x1 w).bind fun r2 =>
  if (r2.1 : Int) = 0 then
    Hh_chance_18 r2.2
  else
    (Hh_isWithin x2 1 50 r2.2).bind fun r12 =>
    if (r12.1 : Int) = 0 then
      Hh_chance_18 r12.2
    else
      Hh_chance_25 FU a0 x1 x2 0 0 r12.2
theorem s_Hh_chance_0 {g : Gp} {l : Launch} {D : Nat} (hD : 5 ≤ D) (a0 : Nat) (x1 : Int) (x2 : Int) (w : Wd) (r : Int × Wd) (h : Hh_chance_0 a0 x1 x2 w = some r) : Rn g l D 128 0 [(0, .inr (.inr a0)), (1, .inl x1), (2, .inl x2)] [] w (some (.inl r.1)) r.2 := by
  obtain ⟨D, rfl⟩ : ∃ D1, D = D1 + 1 := ⟨D - 1, by omega⟩
  unfold Hh_chance_0 at h
  refine fr_aload_n i128_0 rfl ?_
  refine rn_iload_n i128_1 rfl ?_
  obtain ⟨r2, h2, h⟩ := Option.bind_eq_some_iff.mp h
  obtain ⟨g2, c2⟩ := S_Hh_isHeir a0 x1 w r2 h2
  refine fr_callV (a := a0) (As := [.inl x1]) (st := []) i128_2 (cq110 a0 x1) rfl (Nat.le_of_ble_eq_true rfl) g2 (c2 _ (by omega)) ?_
  show Rn _ _ _ _ _ _ [.inl r2.1] _ _ _
  by_cases c5 : (r2.1 : Int) = 0
  · rw [if_pos c5] at h
    refine rn_if_eq_t i128_5 c5 ?_
    exact rn_sub [] rfl (s_Hh_chance_18 hD r2.2 r h)
  · rw [if_neg c5] at h
    refine rn_if_eq_f i128_5 c5 ?_
    refine rn_iload_n i128_8 rfl ?_
    refine rn_iconst i128_9 ?_
    refine rn_bipush i128_10 ?_
    obtain ⟨r12, h12, h⟩ := Option.bind_eq_some_iff.mp h
    refine fr_callS (nst := 0) (As := [.inl x2, .inl 1, .inl 50]) (st := []) i128_12 (cq112 x2 1 50) rfl (Nat.le_of_ble_eq_true rfl) (S_Hh_isWithin x2 1 50 r2.2 r12 h12 _ (by omega)) ?_
    show Rn _ _ _ _ _ _ [.inl r12.1] _ _ _
    by_cases c15 : (r12.1 : Int) = 0
    · rw [if_pos c15] at h
      refine rn_if_ne_f i128_15 c15 ?_
      exact rn_sub [] rfl (s_Hh_chance_18 hD r12.2 r h)
    · rw [if_neg c15] at h
      refine rn_if_ne_t i128_15 c15 ?_
      refine rn_iconst i128_20 ?_
      refine rn_istore_n (ls1 := [(3, .inl 0), (0, .inr (.inr a0)), (1, .inl x1), (2, .inl x2)]) i128_21 rfl ?_
      refine rn_iconst i128_22 ?_
      refine rn_istore (ls1 := [(4, .inl 0), (3, .inl 0), (0, .inr (.inr a0)), (1, .inl x1), (2, .inl x2)]) i128_23 rfl ?_
      exact rn_sub [2, 3, 4, 1, 0] rfl (s_Hh_chance_25 hD FU a0 x1 x2 0 0 r12.2 r h)
/-- HandHeirs.chance(II)I -/
def Hh_chance (a0 : Nat) (x1 : Int) (x2 : Int) (w : Wd) : Option (Int × Wd) := gd 11 w a0 (Hh_chance_0 a0 x1 x2 w)
theorem S_Hh_chance {g : Gp} {l : Launch} (a0 : Nat) (x1 : Int) (x2 : Int) (w : Wd) (r : Int × Wd) (h : Hh_chance a0 x1 x2 w = some r) : (wsh w a0).1 = 11 ∧ ∀ D, 5 ≤ D → Rn g l D 128 0 [(0, .inr (.inr a0)), (1, .inl x1), (2, .inl x2)] [] w (some (.inl r.1)) r.2 := by
  obtain ⟨hg, h⟩ := gd_some h
  exact ⟨hg, fun D hD => rn_sub [0, 1, 2] rfl (s_Hh_chance_0 hD a0 x1 x2 w r h)⟩
def Hh_without_0 (a0 : Nat) (x1 : Int) (w : Wd) : Option (Int × Wd) :=
  (Hh_isHeir a0 x1 w).bind fun r2 =>
  if (r2.1 : Int) = 0 then
    some ((-1), r2.2)
  else
    (fgR r2.2 a0 11 10).bind fun v11 =>
    (fgR r2.2 a0 11 3).bind fun v15 =>
    (fgR r2.2 a0 11 4).bind fun v19 =>
    (fgR r2.2 a0 11 3).bind fun v23 =>
    (fgI r2.2 v23 10 5).bind fun v26 =>
    (Ct_compare v11 v15 v19 v26 r2.2).bind fun r29 =>
    (fgR r29 a0 11 10).bind fun v33 =>
    (fgR r29 a0 11 3).bind fun v37 =>
    (Ct_award v33 v37 x1 (-1) r29).bind fun r42 =>
    some (r42.1, r42.2)
theorem s_Hh_without_0 {g : Gp} {l : Launch} {D : Nat} (hD : 4 ≤ D) (a0 : Nat) (x1 : Int) (w : Wd) (r : Int × Wd) (h : Hh_without_0 a0 x1 w = some r) : Rn g l D 129 0 [(0, .inr (.inr a0)), (1, .inl x1)] [] w (some (.inl r.1)) r.2 := by
  obtain ⟨D, rfl⟩ : ∃ D1, D = D1 + 1 := ⟨D - 1, by omega⟩
  unfold Hh_without_0 at h
  refine fr_aload_n i129_0 rfl ?_
  refine rn_iload_n i129_1 rfl ?_
  obtain ⟨r2, h2, h⟩ := Option.bind_eq_some_iff.mp h
  obtain ⟨g2, c2⟩ := S_Hh_isHeir a0 x1 w r2 h2
  refine fr_callV (a := a0) (As := [.inl x1]) (st := []) i129_2 (cq110 a0 x1) rfl (Nat.le_of_ble_eq_true rfl) g2 (c2 _ (by omega)) ?_
  show Rn _ _ _ _ _ _ [.inl r2.1] _ _ _
  by_cases c5 : (r2.1 : Int) = 0
  · rw [if_pos c5] at h
    refine rn_if_ne_f i129_5 c5 ?_
    refine rn_iconst i129_8 ?_
    obtain rfl := Option.some.inj h
    exact rn_retI i129_9 mr129
  · rw [if_neg c5] at h
    refine rn_if_ne_t i129_5 c5 ?_
    refine fr_aload_n i129_10 rfl ?_
    obtain ⟨v11, h11, h⟩ := Option.bind_eq_some_iff.mp h
    refine fr_gR (k := 10) i129_11 tf11_10 h11 ?_
    refine fr_aload_n i129_14 rfl ?_
    obtain ⟨v15, h15, h⟩ := Option.bind_eq_some_iff.mp h
    refine fr_gR (k := 3) i129_15 tf11_3 h15 ?_
    refine fr_aload_n i129_18 rfl ?_
    obtain ⟨v19, h19, h⟩ := Option.bind_eq_some_iff.mp h
    refine fr_gR (k := 4) i129_19 tf11_4 h19 ?_
    refine fr_aload_n i129_22 rfl ?_
    obtain ⟨v23, h23, h⟩ := Option.bind_eq_some_iff.mp h
    refine fr_gR (k := 3) i129_23 tf11_3 h23 ?_
    obtain ⟨v26, h26, h⟩ := Option.bind_eq_some_iff.mp h
    refine fr_gI (k := 5) i129_26 tf10_5 h26 ?_
    obtain ⟨r29, h29, h⟩ := Option.bind_eq_some_iff.mp h
    obtain ⟨g29, c29⟩ := S_Ct_compare v11 v15 v19 v26 r2.2 r29 h29
    refine fr_callV (a := v11) (As := [.inr (.inr v15), .inr (.inr v19), .inl v26]) (st := []) i129_29 (cq26 v11 v15 v19 v26) rfl (Nat.le_of_ble_eq_true rfl) g29 (c29 _ (by omega)) ?_
    refine fr_aload_n i129_32 rfl ?_
    obtain ⟨v33, h33, h⟩ := Option.bind_eq_some_iff.mp h
    refine fr_gR (k := 10) i129_33 tf11_10 h33 ?_
    refine fr_aload_n i129_36 rfl ?_
    obtain ⟨v37, h37, h⟩ := Option.bind_eq_some_iff.mp h
    refine fr_gR (k := 3) i129_37 tf11_3 h37 ?_
    refine rn_iload_n i129_40 rfl ?_
    refine rn_iconst i129_41 ?_
    obtain ⟨r42, h42, h⟩ := Option.bind_eq_some_iff.mp h
    obtain ⟨g42, c42⟩ := S_Ct_award v33 v37 x1 (-1) r29 r42 h42
    refine fr_callV (a := v33) (As := [.inr (.inr v37), .inl x1, .inl (-1)]) (st := []) i129_42 (cq29 v33 v37 x1 (-1)) rfl (Nat.le_of_ble_eq_true rfl) g42 (c42 _ (by omega)) ?_
    show Rn _ _ _ _ _ _ [.inl r42.1] _ _ _
    obtain rfl := Option.some.inj h
    exact rn_retI i129_45 mr129
/-- HandHeirs.without(I)I -/
def Hh_without (a0 : Nat) (x1 : Int) (w : Wd) : Option (Int × Wd) := gd 11 w a0 (Hh_without_0 a0 x1 w)
theorem S_Hh_without {g : Gp} {l : Launch} (a0 : Nat) (x1 : Int) (w : Wd) (r : Int × Wd) (h : Hh_without a0 x1 w = some r) : (wsh w a0).1 = 11 ∧ ∀ D, 4 ≤ D → Rn g l D 129 0 [(0, .inr (.inr a0)), (1, .inl x1)] [] w (some (.inl r.1)) r.2 := by
  obtain ⟨hg, h⟩ := gd_some h
  exact ⟨hg, fun D hD => rn_sub [0, 1] rfl (s_Hh_without_0 hD a0 x1 w r h)⟩
def Hh_bias_18 (w : Wd) : Option (Int × Wd) :=
  some ((-1), w)
theorem s_Hh_bias_18 {g : Gp} {l : Launch} {D : Nat} (hD : 6 ≤ D) (w : Wd) (r : Int × Wd) (h : Hh_bias_18 w = some r) : Rn g l D 130 18 [] [] w (some (.inl r.1)) r.2 := by
  unfold Hh_bias_18 at h
  refine rn_iconst i130_18 ?_
  obtain rfl := Option.some.inj h
  exact rn_retI i130_19 mr130
def Hh_bias_78 (k36 : Nat → Int → Int → Int → Int → Wd → Option (Int × Wd)) (a0 : Nat) (x1 : Int) (x2 : Int) (x3 : Int) (x4 : Int) (w : Wd) : Option (Int × Wd) :=
  k36 a0 x1 x2 x3 (w32 (x4 + 1)) w
theorem s_Hh_bias_78 {g : Gp} {l : Launch} {D : Nat} (hD : 6 ≤ D) (k36 : Nat → Int → Int → Int → Int → Wd → Option (Int × Wd)) (hk36 : ∀ (a0 : Nat) (x1 : Int) (x2 : Int) (x3 : Int) (x4 : Int) (w : Wd) (r : Int × Wd), k36 a0 x1 x2 x3 x4 w = some r → Rn g l D 130 36 [(0, .inr (.inr a0)), (1, .inl x1), (2, .inl x2), (3, .inl x3), (4, .inl x4)] [] w (some (.inl r.1)) r.2) (a0 : Nat) (x1 : Int) (x2 : Int) (x3 : Int) (x4 : Int) (w : Wd) (r : Int × Wd) (h : Hh_bias_78 k36 a0 x1 x2 x3 x4 w = some r) : Rn g l D 130 78 [(0, .inr (.inr a0)), (1, .inl x1), (2, .inl x2), (3, .inl x3), (4, .inl x4)] [] w (some (.inl r.1)) r.2 := by
  unfold Hh_bias_78 at h
  refine rn_iinc (ls1 := [(4, .inl (w32 (x4 + 1))), (0, .inr (.inr a0)), (1, .inl x1), (2, .inl x2), (3, .inl x3)]) i130_78 rfl rfl ?_
  refine rn_goto i130_81 ?_
  exact rn_sub [1, 2, 3, 4, 0] rfl (hk36 a0 x1 x2 x3 (w32 (x4 + 1)) w r h)
def Hh_bias_36 : Nat → Nat → Int → Int → Int → Int → Wd → Option (Int × Wd)
  | 0, _, _, _, _, _, _ => none
  | n + 1, a0, x1, x2, x3, x4, w =>
    if (x2 : Int) ≤ x4 then
      some (x3, w)
    else
      (fgR w a0 11 10).bind fun v43 =>
      (fgR w a0 11 3).bind fun v47 =>
      (fgR w a0 11 5).bind fun v51 =>
      (Ct_goThroughYear v43 v47 v51 (-1) (-1) w).bind fun r56 =>
      (fgR r56.2 a0 11 10).bind fun v62 =>
      (fgR r56.2 v62 1 1).bind fun v65 =>
      (rdI r56.2 v65 x1).bind fun v69 =>
      if (v69 : Int) = r56.1 then
        Hh_bias_78 (Hh_bias_36 n) a0 x1 x2 x3 x4 r56.2
      else
        Hh_bias_78 (Hh_bias_36 n) a0 x1 x2 (w32 (x3 + 1)) x4 r56.2
theorem s_Hh_bias_36 {g : Gp} {l : Launch} {D : Nat} (hD : 6 ≤ D) : ∀ (n : Nat) (a0 : Nat) (x1 : Int) (x2 : Int) (x3 : Int) (x4 : Int) (w : Wd) (r : Int × Wd), Hh_bias_36 n a0 x1 x2 x3 x4 w = some r → Rn g l D 130 36 [(0, .inr (.inr a0)), (1, .inl x1), (2, .inl x2), (3, .inl x3), (4, .inl x4)] [] w (some (.inl r.1)) r.2 := by
  obtain ⟨D, rfl⟩ : ∃ D1, D = D1 + 1 := ⟨D - 1, by omega⟩
  intro n
  induction n with
  | zero => intro a0 x1 x2 x3 x4 w r h; cases (show (none : Option (Int × Wd)) = some r from h)
  | succ n ih =>
    intro a0 x1 x2 x3 x4 w r h
    unfold Hh_bias_36 at h
    refine rn_iload i130_36 rfl ?_
    refine rn_iload_n i130_38 rfl ?_
    by_cases c39 : (x2 : Int) ≤ x4
    · rw [if_pos c39] at h
      refine rn_icmp_ge_t i130_39 c39 ?_
      refine rn_iload_n i130_84 rfl ?_
      obtain rfl := Option.some.inj h
      exact rn_retI i130_85 mr130
    · rw [if_neg c39] at h
      refine rn_icmp_ge_f i130_39 c39 ?_
      refine fr_aload_n i130_42 rfl ?_
      obtain ⟨v43, h43, h⟩ := Option.bind_eq_some_iff.mp h
      refine fr_gR (k := 10) i130_43 tf11_10 h43 ?_
      refine fr_aload_n i130_46 rfl ?_
      obtain ⟨v47, h47, h⟩ := Option.bind_eq_some_iff.mp h
      refine fr_gR (k := 3) i130_47 tf11_3 h47 ?_
      refine fr_aload_n i130_50 rfl ?_
      obtain ⟨v51, h51, h⟩ := Option.bind_eq_some_iff.mp h
      refine fr_gR (k := 5) i130_51 tf11_5 h51 ?_
      refine rn_iconst i130_54 ?_
      refine rn_iconst i130_55 ?_
      obtain ⟨r56, h56, h⟩ := Option.bind_eq_some_iff.mp h
      obtain ⟨g56, c56⟩ := S_Ct_goThroughYear v43 v47 v51 (-1) (-1) w r56 h56
      refine fr_callV (a := v43) (As := [.inr (.inr v47), .inr (.inr v51), .inl (-1), .inl (-1)]) (st := []) i130_56 (cq35 v43 v47 v51 (-1) (-1)) rfl (Nat.le_of_ble_eq_true rfl) g56 (c56 _ (by omega)) ?_
      show Rn _ _ _ _ _ _ [.inl r56.1] _ _ _
      refine rn_istore (ls1 := [(5, .inl r56.1), (0, .inr (.inr a0)), (1, .inl x1), (2, .inl x2), (3, .inl x3), (4, .inl x4)]) i130_59 rfl ?_
      refine fr_aload_n i130_61 rfl ?_
      obtain ⟨v62, h62, h⟩ := Option.bind_eq_some_iff.mp h
      refine fr_gR (k := 10) i130_62 tf11_10 h62 ?_
      obtain ⟨v65, h65, h⟩ := Option.bind_eq_some_iff.mp h
      refine fr_gR (k := 1) i130_65 tf1_1 h65 ?_
      refine rn_iload_n i130_68 rfl ?_
      obtain ⟨v69, h69, h⟩ := Option.bind_eq_some_iff.mp h
      refine rn_iald i130_69 h69 ?_
      refine rn_iload i130_70 rfl ?_
      by_cases c72 : (v69 : Int) = r56.1
      · rw [if_pos c72] at h
        refine rn_icmp_eq_t i130_72 c72 ?_
        exact rn_sub [1, 2, 3, 4, 5] rfl (s_Hh_bias_78 hD (Hh_bias_36 n) ih a0 x1 x2 x3 x4 r56.2 r h)
      · rw [if_neg c72] at h
        refine rn_icmp_eq_f i130_72 c72 ?_
        refine rn_iinc (ls1 := [(3, .inl (w32 (x3 + 1))), (5, .inl r56.1), (0, .inr (.inr a0)), (1, .inl x1), (2, .inl x2), (4, .inl x4)]) i130_75 rfl rfl ?_
        exact rn_sub [2, 3, 4, 0, 5] rfl (s_Hh_bias_78 hD (Hh_bias_36 n) ih a0 x1 x2 (w32 (x3 + 1)) x4 r56.2 r h)
def Hh_bias_0 (a0 : Nat) (x1 : Int) (x2 : Int) (w : Wd) : Option (Int × Wd) :=
  (Hh_isMaster a0 x1 w).bind fun r2 =>
  if (r2.1 : Int) = 0 then
    Hh_bias_18 r2.2
  else
    (Hh_isWithin x2 1 100 r2.2).bind fun r12 =>
    if (r12.1 : Int) = 0 then
      Hh_bias_18 r12.2
    else
      (fgR r12.2 a0 11 5).bind fun v21 =>
      (fgR r12.2 a0 11 4).bind fun v25 =>
      (St_copy v21 v25 r12.2).bind fun r28 =>
      Hh_bias_36 FU a0 x1 x2 0 0 r28
theorem s_Hh_bias_0 {g : Gp} {l : Launch} {D : Nat} (hD : 6 ≤ D) (a0 : Nat) (x1 : Int) (x2 : Int) (w : Wd) (r : Int × Wd) (h : Hh_bias_0 a0 x1 x2 w = some r) : Rn g l D 130 0 [(0, .inr (.inr a0)), (1, .inl x1), (2, .inl x2)] [] w (some (.inl r.1)) r.2 := by
  obtain ⟨D, rfl⟩ : ∃ D1, D = D1 + 1 := ⟨D - 1, by omega⟩
  unfold Hh_bias_0 at h
  refine fr_aload_n i130_0 rfl ?_
  refine rn_iload_n i130_1 rfl ?_
  obtain ⟨r2, h2, h⟩ := Option.bind_eq_some_iff.mp h
  obtain ⟨g2, c2⟩ := S_Hh_isMaster a0 x1 w r2 h2
  refine fr_callV (a := a0) (As := [.inl x1]) (st := []) i130_2 (cq111 a0 x1) rfl (Nat.le_of_ble_eq_true rfl) g2 (c2 _ (by omega)) ?_
  show Rn _ _ _ _ _ _ [.inl r2.1] _ _ _
  by_cases c5 : (r2.1 : Int) = 0
  · rw [if_pos c5] at h
    refine rn_if_eq_t i130_5 c5 ?_
    exact rn_sub [] rfl (s_Hh_bias_18 hD r2.2 r h)
  · rw [if_neg c5] at h
    refine rn_if_eq_f i130_5 c5 ?_
    refine rn_iload_n i130_8 rfl ?_
    refine rn_iconst i130_9 ?_
    refine rn_bipush i130_10 ?_
    obtain ⟨r12, h12, h⟩ := Option.bind_eq_some_iff.mp h
    refine fr_callS (nst := 0) (As := [.inl x2, .inl 1, .inl 100]) (st := []) i130_12 (cq112 x2 1 100) rfl (Nat.le_of_ble_eq_true rfl) (S_Hh_isWithin x2 1 100 r2.2 r12 h12 _ (by omega)) ?_
    show Rn _ _ _ _ _ _ [.inl r12.1] _ _ _
    by_cases c15 : (r12.1 : Int) = 0
    · rw [if_pos c15] at h
      refine rn_if_ne_f i130_15 c15 ?_
      exact rn_sub [] rfl (s_Hh_bias_18 hD r12.2 r h)
    · rw [if_neg c15] at h
      refine rn_if_ne_t i130_15 c15 ?_
      refine fr_aload_n i130_20 rfl ?_
      obtain ⟨v21, h21, h⟩ := Option.bind_eq_some_iff.mp h
      refine fr_gR (k := 5) i130_21 tf11_5 h21 ?_
      refine fr_aload_n i130_24 rfl ?_
      obtain ⟨v25, h25, h⟩ := Option.bind_eq_some_iff.mp h
      refine fr_gR (k := 4) i130_25 tf11_4 h25 ?_
      obtain ⟨r28, h28, h⟩ := Option.bind_eq_some_iff.mp h
      obtain ⟨g28, c28⟩ := S_St_copy v21 v25 r12.2 r28 h28
      refine fr_callV (a := v21) (As := [.inr (.inr v25)]) (st := []) i130_28 (cq89 v21 v25) rfl (Nat.le_of_ble_eq_true rfl) g28 (c28 _ (by omega)) ?_
      refine rn_iconst i130_31 ?_
      refine rn_istore_n (ls1 := [(3, .inl 0), (0, .inr (.inr a0)), (1, .inl x1), (2, .inl x2)]) i130_32 rfl ?_
      refine rn_iconst i130_33 ?_
      refine rn_istore (ls1 := [(4, .inl 0), (3, .inl 0), (0, .inr (.inr a0)), (1, .inl x1), (2, .inl x2)]) i130_34 rfl ?_
      exact rn_sub [2, 3, 4, 1, 0] rfl (s_Hh_bias_36 hD FU a0 x1 x2 0 0 r28 r h)
/-- HandHeirs.bias(II)I -/
def Hh_bias (a0 : Nat) (x1 : Int) (x2 : Int) (w : Wd) : Option (Int × Wd) := gd 11 w a0 (Hh_bias_0 a0 x1 x2 w)
theorem S_Hh_bias {g : Gp} {l : Launch} (a0 : Nat) (x1 : Int) (x2 : Int) (w : Wd) (r : Int × Wd) (h : Hh_bias a0 x1 x2 w = some r) : (wsh w a0).1 = 11 ∧ ∀ D, 6 ≤ D → Rn g l D 130 0 [(0, .inr (.inr a0)), (1, .inl x1), (2, .inl x2)] [] w (some (.inl r.1)) r.2 := by
  obtain ⟨hg, h⟩ := gd_some h
  exact ⟨hg, fun D hD => rn_sub [0, 1, 2] rfl (s_Hh_bias_0 hD a0 x1 x2 w r h)⟩
def Hh_bestLetter_27 (w : Wd) : Option (Int × Wd) :=
  some ((-1), w)
theorem s_Hh_bestLetter_27 {g : Gp} {l : Launch} {D : Nat} (hD : 6 ≤ D) (w : Wd) (r : Int × Wd) (h : Hh_bestLetter_27 w = some r) : Rn g l D 131 27 [] [] w (some (.inl r.1)) r.2 := by
  unfold Hh_bestLetter_27 at h
  refine rn_iconst i131_27 ?_
  obtain rfl := Option.some.inj h
  exact rn_retI i131_28 mr131
def Hh_bestLetter_100 (k40 : Nat → Int → Int → Int → Int → Int → Int → Wd → Option (Int × Wd)) (k69 : Nat → Int → Int → Int → Int → Int → Int → Int → Int → Wd → Option (Int × Wd)) (a0 : Nat) (x1 : Int) (x2 : Int) (x3 : Int) (x4 : Int) (x5 : Int) (x6 : Int) (x7 : Int) (x8 : Int) (w : Wd) : Option (Int × Wd) :=
  k69 a0 x1 x2 x3 x4 x5 x6 x7 (w32 (x8 + 1)) w
theorem s_Hh_bestLetter_100 {g : Gp} {l : Launch} {D : Nat} (hD : 6 ≤ D) (k40 : Nat → Int → Int → Int → Int → Int → Int → Wd → Option (Int × Wd)) (hk40 : ∀ (a0 : Nat) (x1 : Int) (x2 : Int) (x3 : Int) (x4 : Int) (x5 : Int) (x6 : Int) (w : Wd) (r : Int × Wd), k40 a0 x1 x2 x3 x4 x5 x6 w = some r → Rn g l D 131 40 [(0, .inr (.inr a0)), (1, .inl x1), (2, .inl x2), (3, .inl x3), (4, .inl x4), (5, .inl x5), (6, .inl x6)] [] w (some (.inl r.1)) r.2) (k69 : Nat → Int → Int → Int → Int → Int → Int → Int → Int → Wd → Option (Int × Wd)) (hk69 : ∀ (a0 : Nat) (x1 : Int) (x2 : Int) (x3 : Int) (x4 : Int) (x5 : Int) (x6 : Int) (x7 : Int) (x8 : Int) (w : Wd) (r : Int × Wd), k69 a0 x1 x2 x3 x4 x5 x6 x7 x8 w = some r → Rn g l D 131 69 [(0, .inr (.inr a0)), (1, .inl x1), (2, .inl x2), (3, .inl x3), (4, .inl x4), (5, .inl x5), (6, .inl x6), (7, .inl x7), (8, .inl x8)] [] w (some (.inl r.1)) r.2) (a0 : Nat) (x1 : Int) (x2 : Int) (x3 : Int) (x4 : Int) (x5 : Int) (x6 : Int) (x7 : Int) (x8 : Int) (w : Wd) (r : Int × Wd) (h : Hh_bestLetter_100 k40 k69 a0 x1 x2 x3 x4 x5 x6 x7 x8 w = some r) : Rn g l D 131 100 [(0, .inr (.inr a0)), (1, .inl x1), (2, .inl x2), (3, .inl x3), (4, .inl x4), (5, .inl x5), (6, .inl x6), (7, .inl x7), (8, .inl x8)] [] w (some (.inl r.1)) r.2 := by
  unfold Hh_bestLetter_100 at h
  refine rn_iinc (ls1 := [(8, .inl (w32 (x8 + 1))), (0, .inr (.inr a0)), (1, .inl x1), (2, .inl x2), (3, .inl x3), (4, .inl x4), (5, .inl x5), (6, .inl x6), (7, .inl x7)]) i131_100 rfl rfl ?_
  refine rn_goto i131_103 ?_
  exact rn_sub [1, 2, 3, 4, 5, 6, 7, 8, 0] rfl (hk69 a0 x1 x2 x3 x4 x5 x6 x7 (w32 (x8 + 1)) w r h)
def Hh_bestLetter_121 (k40 : Nat → Int → Int → Int → Int → Int → Int → Wd → Option (Int × Wd)) (a0 : Nat) (x1 : Int) (x2 : Int) (x3 : Int) (x4 : Int) (x5 : Int) (x6 : Int) (w : Wd) : Option (Int × Wd) :=
  k40 a0 x1 x2 x3 x4 x5 (w32 (x6 + 1)) w
theorem s_Hh_bestLetter_121 {g : Gp} {l : Launch} {D : Nat} (hD : 6 ≤ D) (k40 : Nat → Int → Int → Int → Int → Int → Int → Wd → Option (Int × Wd)) (hk40 : ∀ (a0 : Nat) (x1 : Int) (x2 : Int) (x3 : Int) (x4 : Int) (x5 : Int) (x6 : Int) (w : Wd) (r : Int × Wd), k40 a0 x1 x2 x3 x4 x5 x6 w = some r → Rn g l D 131 40 [(0, .inr (.inr a0)), (1, .inl x1), (2, .inl x2), (3, .inl x3), (4, .inl x4), (5, .inl x5), (6, .inl x6)] [] w (some (.inl r.1)) r.2) (a0 : Nat) (x1 : Int) (x2 : Int) (x3 : Int) (x4 : Int) (x5 : Int) (x6 : Int) (w : Wd) (r : Int × Wd) (h : Hh_bestLetter_121 k40 a0 x1 x2 x3 x4 x5 x6 w = some r) : Rn g l D 131 121 [(0, .inr (.inr a0)), (1, .inl x1), (2, .inl x2), (3, .inl x3), (4, .inl x4), (5, .inl x5), (6, .inl x6)] [] w (some (.inl r.1)) r.2 := by
  unfold Hh_bestLetter_121 at h
  refine rn_iinc (ls1 := [(6, .inl (w32 (x6 + 1))), (0, .inr (.inr a0)), (1, .inl x1), (2, .inl x2), (3, .inl x3), (4, .inl x4), (5, .inl x5)]) i131_121 rfl rfl ?_
  refine rn_goto i131_124 ?_
  exact rn_sub [1, 2, 3, 4, 5, 6, 0] rfl (hk40 a0 x1 x2 x3 x4 x5 (w32 (x6 + 1)) w r h)
def Hh_bestLetter_106 (k40 : Nat → Int → Int → Int → Int → Int → Int → Wd → Option (Int × Wd)) (a0 : Nat) (x1 : Int) (x2 : Int) (x3 : Int) (x4 : Int) (x5 : Int) (x6 : Int) (x7 : Int) (w : Wd) : Option (Int × Wd) :=
  if (x7 : Int) ≤ x5 then
    Hh_bestLetter_121 k40 a0 x1 x2 x3 x4 x5 x6 w
  else
    Hh_bestLetter_121 k40 a0 x1 x2 x3 x6 x7 x6 w
theorem s_Hh_bestLetter_106 {g : Gp} {l : Launch} {D : Nat} (hD : 6 ≤ D) (k40 : Nat → Int → Int → Int → Int → Int → Int → Wd → Option (Int × Wd)) (hk40 : ∀ (a0 : Nat) (x1 : Int) (x2 : Int) (x3 : Int) (x4 : Int) (x5 : Int) (x6 : Int) (w : Wd) (r : Int × Wd), k40 a0 x1 x2 x3 x4 x5 x6 w = some r → Rn g l D 131 40 [(0, .inr (.inr a0)), (1, .inl x1), (2, .inl x2), (3, .inl x3), (4, .inl x4), (5, .inl x5), (6, .inl x6)] [] w (some (.inl r.1)) r.2) (a0 : Nat) (x1 : Int) (x2 : Int) (x3 : Int) (x4 : Int) (x5 : Int) (x6 : Int) (x7 : Int) (w : Wd) (r : Int × Wd) (h : Hh_bestLetter_106 k40 a0 x1 x2 x3 x4 x5 x6 x7 w = some r) : Rn g l D 131 106 [(0, .inr (.inr a0)), (1, .inl x1), (2, .inl x2), (3, .inl x3), (4, .inl x4), (5, .inl x5), (6, .inl x6), (7, .inl x7)] [] w (some (.inl r.1)) r.2 := by
  unfold Hh_bestLetter_106 at h
  refine rn_iload i131_106 rfl ?_
  refine rn_iload i131_108 rfl ?_
  by_cases c110 : (x7 : Int) ≤ x5
  · rw [if_pos c110] at h
    refine rn_icmp_le_t i131_110 c110 ?_
    exact rn_sub [0, 1, 2, 3, 4, 5, 6] rfl (s_Hh_bestLetter_121 hD k40 hk40 a0 x1 x2 x3 x4 x5 x6 w r h)
  · rw [if_neg c110] at h
    refine rn_icmp_le_f i131_110 c110 ?_
    refine rn_iload i131_113 rfl ?_
    refine rn_istore (ls1 := [(4, .inl x6), (0, .inr (.inr a0)), (1, .inl x1), (2, .inl x2), (3, .inl x3), (5, .inl x5), (6, .inl x6), (7, .inl x7)]) i131_115 rfl ?_
    refine rn_iload i131_117 rfl ?_
    refine rn_istore (ls1 := [(5, .inl x7), (4, .inl x6), (0, .inr (.inr a0)), (1, .inl x1), (2, .inl x2), (3, .inl x3), (6, .inl x6), (7, .inl x7)]) i131_119 rfl ?_
    exact rn_sub [2, 3, 4, 5, 1, 0, 6] rfl (s_Hh_bestLetter_121 hD k40 hk40 a0 x1 x2 x3 x6 x7 x6 w r h)
def Hh_bestLetter_69 (k40 : Nat → Int → Int → Int → Int → Int → Int → Wd → Option (Int × Wd)) : Nat → Nat → Int → Int → Int → Int → Int → Int → Int → Int → Wd → Option (Int × Wd)
  | 0, _, _, _, _, _, _, _, _, _, _ => none
  | n + 1, a0, x1, x2, x3, x4, x5, x6, x7, x8, w =>
    if (x2 : Int) ≤ x8 then
      Hh_bestLetter_106 k40 a0 x1 x2 x3 x4 x5 x6 x7 w
    else
      (fgR w a0 11 10).bind fun v76 =>
      (fgR w a0 11 3).bind fun v80 =>
      (fgR w a0 11 5).bind fun v84 =>
      (Ct_goThroughYear v76 v80 v84 x1 x6 w).bind fun r90 =>
      if (r90.1 : Int) = x1 then
        Hh_bestLetter_100 k40 (Hh_bestLetter_69 k40 n) a0 x1 x2 x3 x4 x5 x6 (w32 (x7 + 1)) x8 r90.2
      else
        Hh_bestLetter_100 k40 (Hh_bestLetter_69 k40 n) a0 x1 x2 x3 x4 x5 x6 x7 x8 r90.2
theorem s_Hh_bestLetter_69 {g : Gp} {l : Launch} {D : Nat} (hD : 6 ≤ D) (k40 : Nat → Int → Int → Int → Int → Int → Int → Wd → Option (Int × Wd)) (hk40 : ∀ (a0 : Nat) (x1 : Int) (x2 : Int) (x3 : Int) (x4 : Int) (x5 : Int) (x6 : Int) (w : Wd) (r : Int × Wd), k40 a0 x1 x2 x3 x4 x5 x6 w = some r → Rn g l D 131 40 [(0, .inr (.inr a0)), (1, .inl x1), (2, .inl x2), (3, .inl x3), (4, .inl x4), (5, .inl x5), (6, .inl x6)] [] w (some (.inl r.1)) r.2) : ∀ (n : Nat) (a0 : Nat) (x1 : Int) (x2 : Int) (x3 : Int) (x4 : Int) (x5 : Int) (x6 : Int) (x7 : Int) (x8 : Int) (w : Wd) (r : Int × Wd), Hh_bestLetter_69 k40 n a0 x1 x2 x3 x4 x5 x6 x7 x8 w = some r → Rn g l D 131 69 [(0, .inr (.inr a0)), (1, .inl x1), (2, .inl x2), (3, .inl x3), (4, .inl x4), (5, .inl x5), (6, .inl x6), (7, .inl x7), (8, .inl x8)] [] w (some (.inl r.1)) r.2 := by
  obtain ⟨D, rfl⟩ : ∃ D1, D = D1 + 1 := ⟨D - 1, by omega⟩
  intro n
  induction n with
  | zero => intro a0 x1 x2 x3 x4 x5 x6 x7 x8 w r h; cases (show (none : Option (Int × Wd)) = some r from h)
  | succ n ih =>
    intro a0 x1 x2 x3 x4 x5 x6 x7 x8 w r h
    unfold Hh_bestLetter_69 at h
    refine rn_iload i131_69 rfl ?_
    refine rn_iload_n i131_71 rfl ?_
    by_cases c72 : (x2 : Int) ≤ x8
    · rw [if_pos c72] at h
      refine rn_icmp_ge_t i131_72 c72 ?_
      exact rn_sub [0, 1, 2, 3, 4, 5, 6, 7] rfl (s_Hh_bestLetter_106 hD k40 hk40 a0 x1 x2 x3 x4 x5 x6 x7 w r h)
    · rw [if_neg c72] at h
      refine rn_icmp_ge_f i131_72 c72 ?_
      refine fr_aload_n i131_75 rfl ?_
      obtain ⟨v76, h76, h⟩ := Option.bind_eq_some_iff.mp h
      refine fr_gR (k := 10) i131_76 tf11_10 h76 ?_
      refine fr_aload_n i131_79 rfl ?_
      obtain ⟨v80, h80, h⟩ := Option.bind_eq_some_iff.mp h
      refine fr_gR (k := 3) i131_80 tf11_3 h80 ?_
      refine fr_aload_n i131_83 rfl ?_
      obtain ⟨v84, h84, h⟩ := Option.bind_eq_some_iff.mp h
      refine fr_gR (k := 5) i131_84 tf11_5 h84 ?_
      refine rn_iload_n i131_87 rfl ?_
      refine rn_iload i131_88 rfl ?_
      obtain ⟨r90, h90, h⟩ := Option.bind_eq_some_iff.mp h
      obtain ⟨g90, c90⟩ := S_Ct_goThroughYear v76 v80 v84 x1 x6 w r90 h90
      refine fr_callV (a := v76) (As := [.inr (.inr v80), .inr (.inr v84), .inl x1, .inl x6]) (st := []) i131_90 (cq35 v76 v80 v84 x1 x6) rfl (Nat.le_of_ble_eq_true rfl) g90 (c90 _ (by omega)) ?_
      show Rn _ _ _ _ _ _ [.inl r90.1] _ _ _
      refine rn_iload_n i131_93 rfl ?_
      by_cases c94 : (r90.1 : Int) = x1
      · rw [if_pos c94] at h
        refine rn_icmp_ne_f i131_94 c94 ?_
        refine rn_iinc (ls1 := [(7, .inl (w32 (x7 + 1))), (0, .inr (.inr a0)), (1, .inl x1), (2, .inl x2), (3, .inl x3), (4, .inl x4), (5, .inl x5), (6, .inl x6), (8, .inl x8)]) i131_97 rfl rfl ?_
        exact rn_sub [1, 2, 3, 4, 5, 6, 7, 0, 8] rfl (s_Hh_bestLetter_100 hD k40 hk40 (Hh_bestLetter_69 k40 n) ih a0 x1 x2 x3 x4 x5 x6 (w32 (x7 + 1)) x8 r90.2 r h)
      · rw [if_neg c94] at h
        refine rn_icmp_ne_t i131_94 c94 ?_
        exact rn_sub [0, 1, 2, 3, 4, 5, 6, 7, 8] rfl (s_Hh_bestLetter_100 hD k40 hk40 (Hh_bestLetter_69 k40 n) ih a0 x1 x2 x3 x4 x5 x6 x7 x8 r90.2 r h)
def Hh_bestLetter_138 (s0 : Int) (w : Wd) : Option (Int × Wd) :=
  some (s0, w)
theorem s_Hh_bestLetter_138 {g : Gp} {l : Launch} {D : Nat} (hD : 6 ≤ D) (s0 : Int) (w : Wd) (r : Int × Wd) (h : Hh_bestLetter_138 s0 w = some r) : Rn g l D 131 138 [] [.inl s0] w (some (.inl r.1)) r.2 := by
  unfold Hh_bestLetter_138 at h
  obtain rfl := Option.some.inj h
  exact rn_retI i131_138 mr131
def Hh_bestLetter_127 (x3 : Int) (x4 : Int) (x5 : Int) (w : Wd) : Option (Int × Wd) :=
  if (x3 : Int) = 0 then
    Hh_bestLetter_138 x4 w
  else
    Hh_bestLetter_138 x5 w
theorem s_Hh_bestLetter_127 {g : Gp} {l : Launch} {D : Nat} (hD : 6 ≤ D) (x3 : Int) (x4 : Int) (x5 : Int) (w : Wd) (r : Int × Wd) (h : Hh_bestLetter_127 x3 x4 x5 w = some r) : Rn g l D 131 127 [(3, .inl x3), (4, .inl x4), (5, .inl x5)] [] w (some (.inl r.1)) r.2 := by
  unfold Hh_bestLetter_127 at h
  refine rn_iload_n i131_127 rfl ?_
  by_cases c128 : (x3 : Int) = 0
  · rw [if_pos c128] at h
    refine rn_if_ne_f i131_128 c128 ?_
    refine rn_iload i131_131 rfl ?_
    refine rn_goto i131_133 ?_
    exact rn_sub [] rfl (s_Hh_bestLetter_138 hD x4 w r h)
  · rw [if_neg c128] at h
    refine rn_if_ne_t i131_128 c128 ?_
    refine rn_iload i131_136 rfl ?_
    exact rn_sub [] rfl (s_Hh_bestLetter_138 hD x5 w r h)
def Hh_bestLetter_40 : Nat → Nat → Int → Int → Int → Int → Int → Int → Wd → Option (Int × Wd)
  | 0, _, _, _, _, _, _, _, _ => none
  | n + 1, a0, x1, x2, x3, x4, x5, x6, w =>
    (fgR w a0 11 3).bind fun v43 =>
    (fgI w v43 10 0).bind fun v46 =>
    if (v46 : Int) ≤ x6 then
      Hh_bestLetter_127 x3 x4 x5 w
    else
      (fgR w a0 11 5).bind fun v53 =>
      (fgR w a0 11 4).bind fun v57 =>
      (St_copy v53 v57 w).bind fun r60 =>
      Hh_bestLetter_69 (Hh_bestLetter_40 n) FU a0 x1 x2 x3 x4 x5 x6 0 0 r60
theorem s_Hh_bestLetter_40 {g : Gp} {l : Launch} {D : Nat} (hD : 6 ≤ D) : ∀ (n : Nat) (a0 : Nat) (x1 : Int) (x2 : Int) (x3 : Int) (x4 : Int) (x5 : Int) (x6 : Int) (w : Wd) (r : Int × Wd), Hh_bestLetter_40 n a0 x1 x2 x3 x4 x5 x6 w = some r → Rn g l D 131 40 [(0, .inr (.inr a0)), (1, .inl x1), (2, .inl x2), (3, .inl x3), (4, .inl x4), (5, .inl x5), (6, .inl x6)] [] w (some (.inl r.1)) r.2 := by
  obtain ⟨D, rfl⟩ : ∃ D1, D = D1 + 1 := ⟨D - 1, by omega⟩
  intro n
  induction n with
  | zero => intro a0 x1 x2 x3 x4 x5 x6 w r h; cases (show (none : Option (Int × Wd)) = some r from h)
  | succ n ih =>
    intro a0 x1 x2 x3 x4 x5 x6 w r h
    unfold Hh_bestLetter_40 at h
    refine rn_iload i131_40 rfl ?_
    refine fr_aload_n i131_42 rfl ?_
    obtain ⟨v43, h43, h⟩ := Option.bind_eq_some_iff.mp h
    refine fr_gR (k := 3) i131_43 tf11_3 h43 ?_
    obtain ⟨v46, h46, h⟩ := Option.bind_eq_some_iff.mp h
    refine fr_gI (k := 0) i131_46 tf10_0 h46 ?_
    by_cases c49 : (v46 : Int) ≤ x6
    · rw [if_pos c49] at h
      refine rn_icmp_ge_t i131_49 c49 ?_
      exact rn_sub [3, 4, 5] rfl (s_Hh_bestLetter_127 hD x3 x4 x5 w r h)
    · rw [if_neg c49] at h
      refine rn_icmp_ge_f i131_49 c49 ?_
      refine fr_aload_n i131_52 rfl ?_
      obtain ⟨v53, h53, h⟩ := Option.bind_eq_some_iff.mp h
      refine fr_gR (k := 5) i131_53 tf11_5 h53 ?_
      refine fr_aload_n i131_56 rfl ?_
      obtain ⟨v57, h57, h⟩ := Option.bind_eq_some_iff.mp h
      refine fr_gR (k := 4) i131_57 tf11_4 h57 ?_
      obtain ⟨r60, h60, h⟩ := Option.bind_eq_some_iff.mp h
      obtain ⟨g60, c60⟩ := S_St_copy v53 v57 w r60 h60
      refine fr_callV (a := v53) (As := [.inr (.inr v57)]) (st := []) i131_60 (cq89 v53 v57) rfl (Nat.le_of_ble_eq_true rfl) g60 (c60 _ (by omega)) ?_
      refine rn_iconst i131_63 ?_
      refine rn_istore (ls1 := [(7, .inl 0), (0, .inr (.inr a0)), (1, .inl x1), (2, .inl x2), (3, .inl x3), (4, .inl x4), (5, .inl x5), (6, .inl x6)]) i131_64 rfl ?_
      refine rn_iconst i131_66 ?_
      refine rn_istore (ls1 := [(8, .inl 0), (7, .inl 0), (0, .inr (.inr a0)), (1, .inl x1), (2, .inl x2), (3, .inl x3), (4, .inl x4), (5, .inl x5), (6, .inl x6)]) i131_67 rfl ?_
      exact rn_sub [2, 3, 4, 5, 6, 7, 8, 1, 0] rfl (s_Hh_bestLetter_69 hD (Hh_bestLetter_40 n) ih FU a0 x1 x2 x3 x4 x5 x6 0 0 r60 r h)
def Hh_bestLetter_0 (a0 : Nat) (x1 : Int) (x2 : Int) (x3 : Int) (w : Wd) : Option (Int × Wd) :=
  (Hh_isHeir a0 x1 w).bind fun r2 =>
  if (r2.1 : Int) = 0 then
    Hh_bestLetter_27 r2.2
  else
    (Hh_isWithin x2 1 50 r2.2).bind fun r12 =>
    if (r12.1 : Int) = 0 then
      Hh_bestLetter_27 r12.2
    else
      (Hh_isWithin x3 0 1 r12.2).bind fun r21 =>
      if (r21.1 : Int) = 0 then
        Hh_bestLetter_27 r21.2
      else
        Hh_bestLetter_40 FU a0 x1 x2 x3 (-2) (-2) 0 r21.2
theorem s_Hh_bestLetter_0 {g : Gp} {l : Launch} {D : Nat} (hD : 6 ≤ D) (a0 : Nat) (x1 : Int) (x2 : Int) (x3 : Int) (w : Wd) (r : Int × Wd) (h : Hh_bestLetter_0 a0 x1 x2 x3 w = some r) : Rn g l D 131 0 [(0, .inr (.inr a0)), (1, .inl x1), (2, .inl x2), (3, .inl x3)] [] w (some (.inl r.1)) r.2 := by
  obtain ⟨D, rfl⟩ : ∃ D1, D = D1 + 1 := ⟨D - 1, by omega⟩
  unfold Hh_bestLetter_0 at h
  refine fr_aload_n i131_0 rfl ?_
  refine rn_iload_n i131_1 rfl ?_
  obtain ⟨r2, h2, h⟩ := Option.bind_eq_some_iff.mp h
  obtain ⟨g2, c2⟩ := S_Hh_isHeir a0 x1 w r2 h2
  refine fr_callV (a := a0) (As := [.inl x1]) (st := []) i131_2 (cq110 a0 x1) rfl (Nat.le_of_ble_eq_true rfl) g2 (c2 _ (by omega)) ?_
  show Rn _ _ _ _ _ _ [.inl r2.1] _ _ _
  by_cases c5 : (r2.1 : Int) = 0
  · rw [if_pos c5] at h
    refine rn_if_eq_t i131_5 c5 ?_
    exact rn_sub [] rfl (s_Hh_bestLetter_27 hD r2.2 r h)
  · rw [if_neg c5] at h
    refine rn_if_eq_f i131_5 c5 ?_
    refine rn_iload_n i131_8 rfl ?_
    refine rn_iconst i131_9 ?_
    refine rn_bipush i131_10 ?_
    obtain ⟨r12, h12, h⟩ := Option.bind_eq_some_iff.mp h
    refine fr_callS (nst := 0) (As := [.inl x2, .inl 1, .inl 50]) (st := []) i131_12 (cq112 x2 1 50) rfl (Nat.le_of_ble_eq_true rfl) (S_Hh_isWithin x2 1 50 r2.2 r12 h12 _ (by omega)) ?_
    show Rn _ _ _ _ _ _ [.inl r12.1] _ _ _
    by_cases c15 : (r12.1 : Int) = 0
    · rw [if_pos c15] at h
      refine rn_if_eq_t i131_15 c15 ?_
      exact rn_sub [] rfl (s_Hh_bestLetter_27 hD r12.2 r h)
    · rw [if_neg c15] at h
      refine rn_if_eq_f i131_15 c15 ?_
      refine rn_iload_n i131_18 rfl ?_
      refine rn_iconst i131_19 ?_
      refine rn_iconst i131_20 ?_
      obtain ⟨r21, h21, h⟩ := Option.bind_eq_some_iff.mp h
      refine fr_callS (nst := 0) (As := [.inl x3, .inl 0, .inl 1]) (st := []) i131_21 (cq112 x3 0 1) rfl (Nat.le_of_ble_eq_true rfl) (S_Hh_isWithin x3 0 1 r12.2 r21 h21 _ (by omega)) ?_
      show Rn _ _ _ _ _ _ [.inl r21.1] _ _ _
      by_cases c24 : (r21.1 : Int) = 0
      · rw [if_pos c24] at h
        refine rn_if_ne_f i131_24 c24 ?_
        exact rn_sub [] rfl (s_Hh_bestLetter_27 hD r21.2 r h)
      · rw [if_neg c24] at h
        refine rn_if_ne_t i131_24 c24 ?_
        refine rn_bipush i131_29 ?_
        refine rn_istore (ls1 := [(4, .inl (-2)), (0, .inr (.inr a0)), (1, .inl x1), (2, .inl x2), (3, .inl x3)]) i131_31 rfl ?_
        refine rn_bipush i131_33 ?_
        refine rn_istore (ls1 := [(5, .inl (-2)), (4, .inl (-2)), (0, .inr (.inr a0)), (1, .inl x1), (2, .inl x2), (3, .inl x3)]) i131_35 rfl ?_
        refine rn_iconst i131_37 ?_
        refine rn_istore (ls1 := [(6, .inl 0), (5, .inl (-2)), (4, .inl (-2)), (0, .inr (.inr a0)), (1, .inl x1), (2, .inl x2), (3, .inl x3)]) i131_38 rfl ?_
        exact rn_sub [3, 4, 5, 6, 2, 1, 0] rfl (s_Hh_bestLetter_40 hD FU a0 x1 x2 x3 (-2) (-2) 0 r21.2 r h)
/-- HandHeirs.bestLetter(III)I -/
def Hh_bestLetter (a0 : Nat) (x1 : Int) (x2 : Int) (x3 : Int) (w : Wd) : Option (Int × Wd) := gd 11 w a0 (Hh_bestLetter_0 a0 x1 x2 x3 w)
theorem S_Hh_bestLetter {g : Gp} {l : Launch} (a0 : Nat) (x1 : Int) (x2 : Int) (x3 : Int) (w : Wd) (r : Int × Wd) (h : Hh_bestLetter a0 x1 x2 x3 w = some r) : (wsh w a0).1 = 11 ∧ ∀ D, 6 ≤ D → Rn g l D 131 0 [(0, .inr (.inr a0)), (1, .inl x1), (2, .inl x2), (3, .inl x3)] [] w (some (.inl r.1)) r.2 := by
  obtain ⟨hg, h⟩ := gd_some h
  exact ⟨hg, fun D hD => rn_sub [0, 1, 2, 3] rfl (s_Hh_bestLetter_0 hD a0 x1 x2 x3 w r h)⟩
def Hh_nobody_13 : Nat → Nat → Int → Wd → Option (Int × Wd)
  | 0, _, _, _ => none
  | n + 1, a0, x1, w =>
    if (200 : Int) < x1 then
      some ((-2), w)
    else
      (fgR w a0 11 10).bind fun v21 =>
      (fgR w a0 11 3).bind fun v25 =>
      (fgR w a0 11 5).bind fun v29 =>
      (Ct_goThroughYear v21 v25 v29 (-1) (-1) w).bind fun r34 =>
      if (r34.1 : Int) = (-2) then
        some (x1, r34.2)
      else
        Hh_nobody_13 n a0 (w32 (x1 + 1)) r34.2
theorem s_Hh_nobody_13 {g : Gp} {l : Launch} {D : Nat} (hD : 6 ≤ D) : ∀ (n : Nat) (a0 : Nat) (x1 : Int) (w : Wd) (r : Int × Wd), Hh_nobody_13 n a0 x1 w = some r → Rn g l D 132 13 [(0, .inr (.inr a0)), (1, .inl x1)] [] w (some (.inl r.1)) r.2 := by
  obtain ⟨D, rfl⟩ : ∃ D1, D = D1 + 1 := ⟨D - 1, by omega⟩
  intro n
  induction n with
  | zero => intro a0 x1 w r h; cases (show (none : Option (Int × Wd)) = some r from h)
  | succ n ih =>
    intro a0 x1 w r h
    unfold Hh_nobody_13 at h
    refine rn_iload_n i132_13 rfl ?_
    refine rn_sipush i132_14 ?_
    by_cases c17 : (200 : Int) < x1
    · rw [if_pos c17] at h
      refine rn_icmp_gt_t i132_17 c17 ?_
      refine rn_bipush i132_50 ?_
      obtain rfl := Option.some.inj h
      exact rn_retI i132_52 mr132
    · rw [if_neg c17] at h
      refine rn_icmp_gt_f i132_17 c17 ?_
      refine fr_aload_n i132_20 rfl ?_
      obtain ⟨v21, h21, h⟩ := Option.bind_eq_some_iff.mp h
      refine fr_gR (k := 10) i132_21 tf11_10 h21 ?_
      refine fr_aload_n i132_24 rfl ?_
      obtain ⟨v25, h25, h⟩ := Option.bind_eq_some_iff.mp h
      refine fr_gR (k := 3) i132_25 tf11_3 h25 ?_
      refine fr_aload_n i132_28 rfl ?_
      obtain ⟨v29, h29, h⟩ := Option.bind_eq_some_iff.mp h
      refine fr_gR (k := 5) i132_29 tf11_5 h29 ?_
      refine rn_iconst i132_32 ?_
      refine rn_iconst i132_33 ?_
      obtain ⟨r34, h34, h⟩ := Option.bind_eq_some_iff.mp h
      obtain ⟨g34, c34⟩ := S_Ct_goThroughYear v21 v25 v29 (-1) (-1) w r34 h34
      refine fr_callV (a := v21) (As := [.inr (.inr v25), .inr (.inr v29), .inl (-1), .inl (-1)]) (st := []) i132_34 (cq35 v21 v25 v29 (-1) (-1)) rfl (Nat.le_of_ble_eq_true rfl) g34 (c34 _ (by omega)) ?_
      show Rn _ _ _ _ _ _ [.inl r34.1] _ _ _
      refine rn_bipush i132_37 ?_
      by_cases c39 : (r34.1 : Int) = (-2)
      · rw [if_pos c39] at h
        refine rn_icmp_ne_f i132_39 c39 ?_
        refine rn_iload_n i132_42 rfl ?_
        obtain rfl := Option.some.inj h
        exact rn_retI i132_43 mr132
      · rw [if_neg c39] at h
        refine rn_icmp_ne_t i132_39 c39 ?_
        refine rn_iinc (ls1 := [(1, .inl (w32 (x1 + 1))), (0, .inr (.inr a0))]) i132_44 rfl rfl ?_
        refine rn_goto i132_47 ?_
        exact rn_sub [1, 0] rfl (ih a0 (w32 (x1 + 1)) r34.2 r h)
def Hh_nobody_0 (a0 : Nat) (w : Wd) : Option (Int × Wd) :=
  (fgR w a0 11 5).bind fun v1 =>
  (fgR w a0 11 4).bind fun v5 =>
  (St_copy v1 v5 w).bind fun r8 =>
  Hh_nobody_13 FU a0 1 r8
theorem s_Hh_nobody_0 {g : Gp} {l : Launch} {D : Nat} (hD : 6 ≤ D) (a0 : Nat) (w : Wd) (r : Int × Wd) (h : Hh_nobody_0 a0 w = some r) : Rn g l D 132 0 [(0, .inr (.inr a0))] [] w (some (.inl r.1)) r.2 := by
  obtain ⟨D, rfl⟩ : ∃ D1, D = D1 + 1 := ⟨D - 1, by omega⟩
  unfold Hh_nobody_0 at h
  refine fr_aload_n i132_0 rfl ?_
  obtain ⟨v1, h1, h⟩ := Option.bind_eq_some_iff.mp h
  refine fr_gR (k := 5) i132_1 tf11_5 h1 ?_
  refine fr_aload_n i132_4 rfl ?_
  obtain ⟨v5, h5, h⟩ := Option.bind_eq_some_iff.mp h
  refine fr_gR (k := 4) i132_5 tf11_4 h5 ?_
  obtain ⟨r8, h8, h⟩ := Option.bind_eq_some_iff.mp h
  obtain ⟨g8, c8⟩ := S_St_copy v1 v5 w r8 h8
  refine fr_callV (a := v1) (As := [.inr (.inr v5)]) (st := []) i132_8 (cq89 v1 v5) rfl (Nat.le_of_ble_eq_true rfl) g8 (c8 _ (by omega)) ?_
  refine rn_iconst i132_11 ?_
  refine rn_istore_n (ls1 := [(1, .inl 1), (0, .inr (.inr a0))]) i132_12 rfl ?_
  exact rn_sub [1, 0] rfl (s_Hh_nobody_13 hD FU a0 1 r8 r h)
/-- HandHeirs.nobody()I -/
def Hh_nobody (a0 : Nat) (w : Wd) : Option (Int × Wd) := gd 11 w a0 (Hh_nobody_0 a0 w)
theorem S_Hh_nobody {g : Gp} {l : Launch} (a0 : Nat) (w : Wd) (r : Int × Wd) (h : Hh_nobody a0 w = some r) : (wsh w a0).1 = 11 ∧ ∀ D, 6 ≤ D → Rn g l D 132 0 [(0, .inr (.inr a0))] [] w (some (.inl r.1)) r.2 := by
  obtain ⟨hg, h⟩ := gd_some h
  exact ⟨hg, fun D hD => rn_sub [0] rfl (s_Hh_nobody_0 hD a0 w r h)⟩
def Hh_reign_0 (a0 : Nat) (x1 : Int) (w : Wd) : Option (Int × Wd) :=
  (Hh_isWithin x1 0 2 w).bind fun r3 =>
  if (r3.1 : Int) = 0 then
    some ((-1), r3.2)
  else
    (fgR r3.2 a0 11 6).bind fun v12 =>
    (fgR r3.2 a0 11 4).bind fun v16 =>
    (St_led v16 r3.2).bind fun r19 =>
    (Bk_longestReign v12 (r19.1) r19.2).bind fun r22 =>
    if (0 : Int) ≤ r22.1 then
      if (x1 : Int) = 0 then
        (fgR r22.2 a0 11 6).bind fun v61 =>
        (fgR r22.2 a0 11 4).bind fun v66 =>
        (St_led v66 r22.2).bind fun r69 =>
        (Bk_reignFrom v61 (r22.1) (r69.1) r69.2).bind fun r72 =>
        some (r72.1, r72.2)
      else
        if (x1 : Int) = 1 then
          some (r22.1, r22.2)
        else
          (fgR r22.2 a0 11 6).bind fun v79 =>
          (Bk_givenIn v79 (r22.1) r22.2).bind fun r83 =>
          some (r83.1, r83.2)
    else
      some ((-2), r22.2)
theorem s_Hh_reign_0 {g : Gp} {l : Launch} {D : Nat} (hD : 3 ≤ D) (a0 : Nat) (x1 : Int) (w : Wd) (r : Int × Wd) (h : Hh_reign_0 a0 x1 w = some r) : Rn g l D 133 0 [(0, .inr (.inr a0)), (1, .inl x1)] [] w (some (.inl r.1)) r.2 := by
  obtain ⟨D, rfl⟩ : ∃ D1, D = D1 + 1 := ⟨D - 1, by omega⟩
  unfold Hh_reign_0 at h
  refine rn_iload_n i133_0 rfl ?_
  refine rn_iconst i133_1 ?_
  refine rn_iconst i133_2 ?_
  obtain ⟨r3, h3, h⟩ := Option.bind_eq_some_iff.mp h
  refine fr_callS (nst := 0) (As := [.inl x1, .inl 0, .inl 2]) (st := []) i133_3 (cq112 x1 0 2) rfl (Nat.le_of_ble_eq_true rfl) (S_Hh_isWithin x1 0 2 w r3 h3 _ (by omega)) ?_
  show Rn _ _ _ _ _ _ [.inl r3.1] _ _ _
  by_cases c6 : (r3.1 : Int) = 0
  · rw [if_pos c6] at h
    refine rn_if_ne_f i133_6 c6 ?_
    refine rn_iconst i133_9 ?_
    obtain rfl := Option.some.inj h
    exact rn_retI i133_10 mr133
  · rw [if_neg c6] at h
    refine rn_if_ne_t i133_6 c6 ?_
    refine fr_aload_n i133_11 rfl ?_
    obtain ⟨v12, h12, h⟩ := Option.bind_eq_some_iff.mp h
    refine fr_gR (k := 6) i133_12 tf11_6 h12 ?_
    refine fr_aload_n i133_15 rfl ?_
    obtain ⟨v16, h16, h⟩ := Option.bind_eq_some_iff.mp h
    refine fr_gR (k := 4) i133_16 tf11_4 h16 ?_
    obtain ⟨r19, h19, h⟩ := Option.bind_eq_some_iff.mp h
    obtain ⟨g19, c19⟩ := S_St_led v16 r3.2 r19 h19
    refine fr_callV (a := v16) (As := []) (st := [.inr (.inr v12)]) i133_19 (cq90 v16) rfl (Nat.le_of_ble_eq_true rfl) g19 (c19 _ (by omega)) ?_
    show Rn _ _ _ _ _ _ [.inl r19.1, .inr (.inr v12)] _ _ _
    obtain ⟨r22, h22, h⟩ := Option.bind_eq_some_iff.mp h
    obtain ⟨g22, c22⟩ := S_Bk_longestReign v12 (r19.1) r19.2 r22 h22
    refine fr_callV (a := v12) (As := [.inl r19.1]) (st := []) i133_22 (cq21 v12 (r19.1)) rfl (Nat.le_of_ble_eq_true rfl) g22 (c22 _ (by omega)) ?_
    show Rn _ _ _ _ _ _ [.inl r22.1] _ _ _
    refine rn_istore_n (ls1 := [(2, .inl r22.1), (0, .inr (.inr a0)), (1, .inl x1)]) i133_25 rfl ?_
    refine rn_iload_n i133_26 rfl ?_
    by_cases c27 : (0 : Int) ≤ r22.1
    · rw [if_pos c27] at h
      refine rn_if_ge_t i133_27 c27 ?_
      refine rn_iload_n i133_33 rfl ?_
      by_cases c34_0 : (x1 : Int) = 0
      · rw [if_pos c34_0] at h
        refine rn_lsw (off := 26) (tgt := 60) i133_34 rfl (by simp [Op.lookupswitch.offset, c34_0]) rfl ?_
        refine fr_aload_n i133_60 rfl ?_
        obtain ⟨v61, h61, h⟩ := Option.bind_eq_some_iff.mp h
        refine fr_gR (k := 6) i133_61 tf11_6 h61 ?_
        refine rn_iload_n i133_64 rfl ?_
        refine fr_aload_n i133_65 rfl ?_
        obtain ⟨v66, h66, h⟩ := Option.bind_eq_some_iff.mp h
        refine fr_gR (k := 4) i133_66 tf11_4 h66 ?_
        obtain ⟨r69, h69, h⟩ := Option.bind_eq_some_iff.mp h
        obtain ⟨g69, c69⟩ := S_St_led v66 r22.2 r69 h69
        refine fr_callV (a := v66) (As := []) (st := [.inl r22.1, .inr (.inr v61)]) i133_69 (cq90 v66) rfl (Nat.le_of_ble_eq_true rfl) g69 (c69 _ (by omega)) ?_
        show Rn _ _ _ _ _ _ [.inl r69.1, .inl r22.1, .inr (.inr v61)] _ _ _
        obtain ⟨r72, h72, h⟩ := Option.bind_eq_some_iff.mp h
        obtain ⟨g72, c72⟩ := S_Bk_reignFrom v61 (r22.1) (r69.1) r69.2 r72 h72
        refine fr_callV (a := v61) (As := [.inl r22.1, .inl r69.1]) (st := []) i133_72 (cq20 v61 (r22.1) (r69.1)) rfl (Nat.le_of_ble_eq_true rfl) g72 (c72 _ (by omega)) ?_
        show Rn _ _ _ _ _ _ [.inl r72.1] _ _ _
        obtain rfl := Option.some.inj h
        exact rn_retI i133_75 mr133
      · rw [if_neg c34_0] at h
        by_cases c34_1 : (x1 : Int) = 1
        · rw [if_pos c34_1] at h
          refine rn_lsw (off := 42) (tgt := 76) i133_34 rfl (by simp [Op.lookupswitch.offset, c34_1]) rfl ?_
          refine rn_iload_n i133_76 rfl ?_
          obtain rfl := Option.some.inj h
          exact rn_retI i133_77 mr133
        · rw [if_neg c34_1] at h
          refine rn_lsw (off := 44) (tgt := 78) i133_34 rfl (by simp [Op.lookupswitch.offset, c34_0, Ne.symm c34_0, c34_1, Ne.symm c34_1]) rfl ?_
          refine fr_aload_n i133_78 rfl ?_
          obtain ⟨v79, h79, h⟩ := Option.bind_eq_some_iff.mp h
          refine fr_gR (k := 6) i133_79 tf11_6 h79 ?_
          refine rn_iload_n i133_82 rfl ?_
          obtain ⟨r83, h83, h⟩ := Option.bind_eq_some_iff.mp h
          obtain ⟨g83, c83⟩ := S_Bk_givenIn v79 (r22.1) r22.2 r83 h83
          refine fr_callV (a := v79) (As := [.inl r22.1]) (st := []) i133_83 (cq19 v79 (r22.1)) rfl (Nat.le_of_ble_eq_true rfl) g83 (c83 _ (by omega)) ?_
          show Rn _ _ _ _ _ _ [.inl r83.1] _ _ _
          obtain rfl := Option.some.inj h
          exact rn_retI i133_86 mr133
    · rw [if_neg c27] at h
      refine rn_if_ge_f i133_27 c27 ?_
      refine rn_bipush i133_30 ?_
      obtain rfl := Option.some.inj h
      exact rn_retI i133_32 mr133
/-- HandHeirs.reign(I)I -/
def Hh_reign (a0 : Nat) (x1 : Int) (w : Wd) : Option (Int × Wd) := gd 11 w a0 (Hh_reign_0 a0 x1 w)
theorem S_Hh_reign {g : Gp} {l : Launch} (a0 : Nat) (x1 : Int) (w : Wd) (r : Int × Wd) (h : Hh_reign a0 x1 w = some r) : (wsh w a0).1 = 11 ∧ ∀ D, 3 ≤ D → Rn g l D 133 0 [(0, .inr (.inr a0)), (1, .inl x1)] [] w (some (.inl r.1)) r.2 := by
  obtain ⟨hg, h⟩ := gd_some h
  exact ⟨hg, fun D hD => rn_sub [0, 1] rfl (s_Hh_reign_0 hD a0 x1 w r h)⟩
def Hh_handOn_32 (s0 : Int) (w : Wd) : Option (Int × Wd) :=
  some (s0, w)
theorem s_Hh_handOn_32 {g : Gp} {l : Launch} {D : Nat} (hD : 2 ≤ D) (s0 : Int) (w : Wd) (r : Int × Wd) (h : Hh_handOn_32 s0 w = some r) : Rn g l D 136 32 [] [.inl s0] w (some (.inl r.1)) r.2 := by
  unfold Hh_handOn_32 at h
  obtain rfl := Option.some.inj h
  exact rn_retI i136_32 mr136
def Hh_handOn_0 (a0 : Nat) (x1 : Int) (x2 : Int) (w : Wd) : Option (Int × Wd) :=
  (fgR w a0 11 4).bind fun v2 =>
  (St_led v2 w).bind fun r5 =>
  if (r5.1 : Int) ≤ x1 then
    (fgR r5.2 a0 11 4).bind fun v24 =>
    (fgR r5.2 v24 9 3).bind fun v27 =>
    (rdI r5.2 v27 x2).bind fun v31 =>
    Hh_handOn_32 v31 r5.2
  else
    (fgR r5.2 a0 11 6).bind fun v12 =>
    (Bk_handOf v12 x1 x2 r5.2).bind fun r17 =>
    Hh_handOn_32 r17.1 r17.2
theorem s_Hh_handOn_0 {g : Gp} {l : Launch} {D : Nat} (hD : 2 ≤ D) (a0 : Nat) (x1 : Int) (x2 : Int) (w : Wd) (r : Int × Wd) (h : Hh_handOn_0 a0 x1 x2 w = some r) : Rn g l D 136 0 [(0, .inr (.inr a0)), (1, .inl x1), (2, .inl x2)] [] w (some (.inl r.1)) r.2 := by
  obtain ⟨D, rfl⟩ : ∃ D1, D = D1 + 1 := ⟨D - 1, by omega⟩
  unfold Hh_handOn_0 at h
  refine rn_iload_n i136_0 rfl ?_
  refine fr_aload_n i136_1 rfl ?_
  obtain ⟨v2, h2, h⟩ := Option.bind_eq_some_iff.mp h
  refine fr_gR (k := 4) i136_2 tf11_4 h2 ?_
  obtain ⟨r5, h5, h⟩ := Option.bind_eq_some_iff.mp h
  obtain ⟨g5, c5⟩ := S_St_led v2 w r5 h5
  refine fr_callV (a := v2) (As := []) (st := [.inl x1]) i136_5 (cq90 v2) rfl (Nat.le_of_ble_eq_true rfl) g5 (c5 _ (by omega)) ?_
  show Rn _ _ _ _ _ _ [.inl r5.1, .inl x1] _ _ _
  by_cases c8 : (r5.1 : Int) ≤ x1
  · rw [if_pos c8] at h
    refine rn_icmp_ge_t i136_8 c8 ?_
    refine fr_aload_n i136_23 rfl ?_
    obtain ⟨v24, h24, h⟩ := Option.bind_eq_some_iff.mp h
    refine fr_gR (k := 4) i136_24 tf11_4 h24 ?_
    obtain ⟨v27, h27, h⟩ := Option.bind_eq_some_iff.mp h
    refine fr_gR (k := 3) i136_27 tf9_3 h27 ?_
    refine rn_iload_n i136_30 rfl ?_
    obtain ⟨v31, h31, h⟩ := Option.bind_eq_some_iff.mp h
    refine rn_iald i136_31 h31 ?_
    exact rn_sub [] rfl (s_Hh_handOn_32 hD v31 r5.2 r h)
  · rw [if_neg c8] at h
    refine rn_icmp_ge_f i136_8 c8 ?_
    refine fr_aload_n i136_11 rfl ?_
    obtain ⟨v12, h12, h⟩ := Option.bind_eq_some_iff.mp h
    refine fr_gR (k := 6) i136_12 tf11_6 h12 ?_
    refine rn_iload_n i136_15 rfl ?_
    refine rn_iload_n i136_16 rfl ?_
    obtain ⟨r17, h17, h⟩ := Option.bind_eq_some_iff.mp h
    obtain ⟨g17, c17⟩ := S_Bk_handOf v12 x1 x2 r5.2 r17 h17
    refine fr_callV (a := v12) (As := [.inl x1, .inl x2]) (st := []) i136_17 (cq18 v12 x1 x2) rfl (Nat.le_of_ble_eq_true rfl) g17 (c17 _ (by omega)) ?_
    show Rn _ _ _ _ _ _ [.inl r17.1] _ _ _
    refine rn_goto i136_20 ?_
    exact rn_sub [] rfl (s_Hh_handOn_32 hD r17.1 r17.2 r h)
/-- HandHeirs.handOn(II)I -/
def Hh_handOn (a0 : Nat) (x1 : Int) (x2 : Int) (w : Wd) : Option (Int × Wd) := gd 11 w a0 (Hh_handOn_0 a0 x1 x2 w)
theorem S_Hh_handOn {g : Gp} {l : Launch} (a0 : Nat) (x1 : Int) (x2 : Int) (w : Wd) (r : Int × Wd) (h : Hh_handOn a0 x1 x2 w = some r) : (wsh w a0).1 = 11 ∧ ∀ D, 2 ≤ D → Rn g l D 136 0 [(0, .inr (.inr a0)), (1, .inl x1), (2, .inl x2)] [] w (some (.inl r.1)) r.2 := by
  obtain ⟨hg, h⟩ := gd_some h
  exact ⟨hg, fun D hD => rn_sub [0, 1, 2] rfl (s_Hh_handOn_0 hD a0 x1 x2 w r h)⟩
def Hh_apart_5 : Nat → Nat → Int → Int → Int → Int → Wd → Option (Int × Wd)
  | 0, _, _, _, _, _, _ => none
  | n + 1, a0, x1, x2, x3, x4, w =>
    (fgR w a0 11 3).bind fun v8 =>
    (fgI w v8 10 0).bind fun v11 =>
    if (v11 : Int) ≤ x4 then
      some (x3, w)
    else
      (Hh_handOn a0 x2 x4 w).bind fun r22 =>
      (fgR r22.2 a0 11 4).bind fun v26 =>
      (St_own v26 x1 x4 r22.2).bind fun r32 =>
      Hh_apart_5 n a0 x1 x2 (w32 (x3 + (iabs (w32 (r22.1 - r32.1))))) (w32 (x4 + 1)) r32.2
theorem s_Hh_apart_5 {g : Gp} {l : Launch} {D : Nat} (hD : 3 ≤ D) : ∀ (n : Nat) (a0 : Nat) (x1 : Int) (x2 : Int) (x3 : Int) (x4 : Int) (w : Wd) (r : Int × Wd), Hh_apart_5 n a0 x1 x2 x3 x4 w = some r → Rn g l D 135 5 [(0, .inr (.inr a0)), (1, .inl x1), (2, .inl x2), (3, .inl x3), (4, .inl x4)] [] w (some (.inl r.1)) r.2 := by
  obtain ⟨D, rfl⟩ : ∃ D1, D = D1 + 1 := ⟨D - 1, by omega⟩
  intro n
  induction n with
  | zero => intro a0 x1 x2 x3 x4 w r h; cases (show (none : Option (Int × Wd)) = some r from h)
  | succ n ih =>
    intro a0 x1 x2 x3 x4 w r h
    unfold Hh_apart_5 at h
    refine rn_iload i135_5 rfl ?_
    refine fr_aload_n i135_7 rfl ?_
    obtain ⟨v8, h8, h⟩ := Option.bind_eq_some_iff.mp h
    refine fr_gR (k := 3) i135_8 tf11_3 h8 ?_
    obtain ⟨v11, h11, h⟩ := Option.bind_eq_some_iff.mp h
    refine fr_gI (k := 0) i135_11 tf10_0 h11 ?_
    by_cases c14 : (v11 : Int) ≤ x4
    · rw [if_pos c14] at h
      refine rn_icmp_ge_t i135_14 c14 ?_
      refine rn_iload_n i135_47 rfl ?_
      obtain rfl := Option.some.inj h
      exact rn_retI i135_48 mr135
    · rw [if_neg c14] at h
      refine rn_icmp_ge_f i135_14 c14 ?_
      refine rn_iload_n i135_17 rfl ?_
      refine fr_aload_n i135_18 rfl ?_
      refine rn_iload_n i135_19 rfl ?_
      refine rn_iload i135_20 rfl ?_
      obtain ⟨r22, h22, h⟩ := Option.bind_eq_some_iff.mp h
      obtain ⟨g22, c22⟩ := S_Hh_handOn a0 x2 x4 w r22 h22
      refine fr_callV (a := a0) (As := [.inl x2, .inl x4]) (st := [.inl x3]) i135_22 (cq136 a0 x2 x4) rfl (Nat.le_of_ble_eq_true rfl) g22 (c22 _ (by omega)) ?_
      show Rn _ _ _ _ _ _ [.inl r22.1, .inl x3] _ _ _
      refine fr_aload_n i135_25 rfl ?_
      obtain ⟨v26, h26, h⟩ := Option.bind_eq_some_iff.mp h
      refine fr_gR (k := 4) i135_26 tf11_4 h26 ?_
      refine rn_iload_n i135_29 rfl ?_
      refine rn_iload i135_30 rfl ?_
      obtain ⟨r32, h32, h⟩ := Option.bind_eq_some_iff.mp h
      obtain ⟨g32, c32⟩ := S_St_own v26 x1 x4 r22.2 r32 h32
      refine fr_callV (a := v26) (As := [.inl x1, .inl x4]) (st := [.inl r22.1, .inl x3]) i135_32 (cq91 v26 x1 x4) rfl (Nat.le_of_ble_eq_true rfl) g32 (c32 _ (by omega)) ?_
      show Rn _ _ _ _ _ _ [.inl r32.1, .inl r22.1, .inl x3] _ _ _
      refine rn_isub i135_35 ?_
      refine rn_abs i135_36 (Nat.le_of_ble_eq_true rfl) ?_
      refine rn_iadd i135_39 ?_
      refine rn_istore_n (ls1 := [(3, .inl (w32 (x3 + (iabs (w32 (r22.1 - r32.1)))))), (0, .inr (.inr a0)), (1, .inl x1), (2, .inl x2), (4, .inl x4)]) i135_40 rfl ?_
      refine rn_iinc (ls1 := [(4, .inl (w32 (x4 + 1))), (3, .inl (w32 (x3 + (iabs (w32 (r22.1 - r32.1)))))), (0, .inr (.inr a0)), (1, .inl x1), (2, .inl x2)]) i135_41 rfl rfl ?_
      refine rn_goto i135_44 ?_
      exact rn_sub [2, 3, 4, 1, 0] rfl (ih a0 x1 x2 (w32 (x3 + (iabs (w32 (r22.1 - r32.1))))) (w32 (x4 + 1)) r32.2 r h)
def Hh_apart_0 (a0 : Nat) (x1 : Int) (x2 : Int) (w : Wd) : Option (Int × Wd) :=
  Hh_apart_5 FU a0 x1 x2 0 0 w
theorem s_Hh_apart_0 {g : Gp} {l : Launch} {D : Nat} (hD : 3 ≤ D) (a0 : Nat) (x1 : Int) (x2 : Int) (w : Wd) (r : Int × Wd) (h : Hh_apart_0 a0 x1 x2 w = some r) : Rn g l D 135 0 [(0, .inr (.inr a0)), (1, .inl x1), (2, .inl x2)] [] w (some (.inl r.1)) r.2 := by
  unfold Hh_apart_0 at h
  refine rn_iconst i135_0 ?_
  refine rn_istore_n (ls1 := [(3, .inl 0), (0, .inr (.inr a0)), (1, .inl x1), (2, .inl x2)]) i135_1 rfl ?_
  refine rn_iconst i135_2 ?_
  refine rn_istore (ls1 := [(4, .inl 0), (3, .inl 0), (0, .inr (.inr a0)), (1, .inl x1), (2, .inl x2)]) i135_3 rfl ?_
  exact rn_sub [2, 3, 4, 1, 0] rfl (s_Hh_apart_5 hD FU a0 x1 x2 0 0 w r h)
/-- HandHeirs.apart(II)I -/
def Hh_apart (a0 : Nat) (x1 : Int) (x2 : Int) (w : Wd) : Option (Int × Wd) := gd 11 w a0 (Hh_apart_0 a0 x1 x2 w)
theorem S_Hh_apart {g : Gp} {l : Launch} (a0 : Nat) (x1 : Int) (x2 : Int) (w : Wd) (r : Int × Wd) (h : Hh_apart a0 x1 x2 w = some r) : (wsh w a0).1 = 11 ∧ ∀ D, 3 ≤ D → Rn g l D 135 0 [(0, .inr (.inr a0)), (1, .inl x1), (2, .inl x2)] [] w (some (.inl r.1)) r.2 := by
  obtain ⟨hg, h⟩ := gd_some h
  exact ⟨hg, fun D hD => rn_sub [0, 1, 2] rfl (s_Hh_apart_0 hD a0 x1 x2 w r h)⟩
