theorem i165_0 : ins 165 0 = some (.aload_n 0, 1, 0, 0) := by decide +kernel
theorem i165_1 : ins 165 1 = some (.aload_n 0, 2, 0, 0) := by decide +kernel
theorem i165_2 : ins 165 2 = some (.getfield 161, 5, 12, 2) := by decide +kernel
theorem i165_5 : ins 165 5 = some (.putfield 167, 8, 12, 4) := by decide +kernel
theorem i165_8 : ins 165 8 = some (.iconst (0), 9, 0, 0) := by decide +kernel
theorem i165_9 : ins 165 9 = some (.istore_n 1, 10, 0, 0) := by decide +kernel
theorem i165_10 : ins 165 10 = some (.iload_n 1, 11, 0, 0) := by decide +kernel
theorem i165_11 : ins 165 11 = some (.aload_n 0, 12, 0, 0) := by decide +kernel
theorem i165_12 : ins 165 12 = some (.getfield 167, 15, 12, 4) := by decide +kernel
theorem i165_15 : ins 165 15 = some (.if_icmp .ge (21), 18, 36, 0) := by decide +kernel
theorem i165_18 : ins 165 18 = some (.aload_n 0, 19, 0, 0) := by decide +kernel
theorem i165_19 : ins 165 19 = some (.getfield 17, 22, 12, 3) := by decide +kernel
theorem i165_22 : ins 165 22 = some (.iload_n 1, 23, 0, 0) := by decide +kernel
theorem i165_23 : ins 165 23 = some (.aload_n 0, 24, 0, 0) := by decide +kernel
theorem i165_24 : ins 165 24 = some (.getfield 13, 27, 12, 1) := by decide +kernel
theorem i165_27 : ins 165 27 = some (.iload_n 1, 28, 0, 0) := by decide +kernel
theorem i165_28 : ins 165 28 = some (.baload, 29, 0, 0) := by decide +kernel
theorem i165_29 : ins 165 29 = some (.bastore, 30, 0, 0) := by decide +kernel
theorem i165_30 : ins 165 30 = some (.iinc 1 (1), 33, 0, 1) := by decide +kernel
theorem i165_33 : ins 165 33 = some (.goto (-23), 36, 10, 0) := by decide +kernel
theorem i165_36 : ins 165 36 = some (.aload_n 0, 37, 0, 0) := by decide +kernel
theorem i165_37 : ins 165 37 = some (.iconst (0), 38, 0, 0) := by decide +kernel
theorem i165_38 : ins 165 38 = some (.putfield 161, 41, 12, 2) := by decide +kernel
theorem i165_41 : ins 165 41 = some (.aload_n 0, 42, 0, 0) := by decide +kernel
theorem i165_42 : ins 165 42 = some (.invokevirtual 222, 45, 157, 0) := by decide +kernel
theorem i165_45 : ins 165 45 = some (.aload_n 0, 46, 0, 0) := by decide +kernel
theorem i165_46 : ins 165 46 = some (.iconst (0), 47, 0, 0) := by decide +kernel
theorem i165_47 : ins 165 47 = some (.putfield 201, 50, 12, 11) := by decide +kernel
theorem i165_50 : ins 165 50 = some (.aload_n 0, 51, 0, 0) := by decide +kernel
theorem i165_51 : ins 165 51 = some (.iconst (0), 52, 0, 0) := by decide +kernel
theorem i165_52 : ins 165 52 = some (.putfield 225, 55, 12, 12) := by decide +kernel
theorem i165_55 : ins 165 55 = some (.aload_n 0, 56, 0, 0) := by decide +kernel
theorem i165_56 : ins 165 56 = some (.iconst (0), 57, 0, 0) := by decide +kernel
theorem i165_57 : ins 165 57 = some (.putfield 198, 60, 12, 13) := by decide +kernel
theorem i165_60 : ins 165 60 = some (.aload_n 0, 61, 0, 0) := by decide +kernel
theorem i165_61 : ins 165 61 = some (.iconst (0), 62, 0, 0) := by decide +kernel
theorem i165_62 : ins 165 62 = some (.putfield 207, 65, 12, 15) := by decide +kernel
theorem i165_65 : ins 165 65 = some (.aload_n 0, 66, 0, 0) := by decide +kernel
theorem i165_66 : ins 165 66 = some (.iconst (1), 67, 0, 1) := by decide +kernel
theorem i165_67 : ins 165 67 = some (.aload_n 0, 68, 0, 0) := by decide +kernel
theorem i165_68 : ins 165 68 = some (.getfield 228, 71, 12, 18) := by decide +kernel
theorem i165_71 : ins 165 71 = some (.isub, 72, 0, 0) := by decide +kernel
theorem i165_72 : ins 165 72 = some (.putfield 231, 75, 12, 19) := by decide +kernel
theorem i165_75 : ins 165 75 = some (.aload_n 0, 76, 0, 0) := by decide +kernel
theorem i165_76 : ins 165 76 = some (.iconst (0), 77, 0, 0) := by decide +kernel
theorem i165_77 : ins 165 77 = some (.putfield 234, 80, 12, 20) := by decide +kernel
theorem i165_80 : ins 165 80 = some (.aload_n 0, 81, 0, 0) := by decide +kernel
theorem i165_81 : ins 165 81 = some (.aload_n 0, 82, 0, 0) := by decide +kernel
theorem i165_82 : ins 165 82 = some (.getfield 231, 85, 12, 19) := by decide +kernel
theorem i165_85 : ins 165 85 = some (.invokevirtual 150, 88, 164, 0) := by decide +kernel
theorem i165_88 : ins 165 88 = some (.aload_n 0, 89, 0, 0) := by decide +kernel
theorem i165_89 : ins 165 89 = some (.sipush (130), 92, 0, 130) := by decide +kernel
theorem i165_92 : ins 165 92 = some (.aload_n 0, 93, 0, 0) := by decide +kernel
theorem i165_93 : ins 165 93 = some (.getfield 231, 96, 12, 19) := by decide +kernel
theorem i165_96 : ins 165 96 = some (.imul, 97, 0, 0) := by decide +kernel
theorem i165_97 : ins 165 97 = some (.putfield 237, 100, 12, 35) := by decide +kernel
theorem i165_100 : ins 165 100 = some (.aload_n 0, 101, 0, 0) := by decide +kernel
theorem i165_101 : ins 165 101 = some (.sipush (420), 104, 0, 420) := by decide +kernel
theorem i165_104 : ins 165 104 = some (.aload_n 0, 105, 0, 0) := by decide +kernel
theorem i165_105 : ins 165 105 = some (.getfield 231, 108, 12, 19) := by decide +kernel
theorem i165_108 : ins 165 108 = some (.imul, 109, 0, 0) := by decide +kernel
theorem i165_109 : ins 165 109 = some (.putfield 240, 112, 12, 41) := by decide +kernel
theorem i165_112 : ins 165 112 = some (.aload_n 0, 113, 0, 0) := by decide +kernel
theorem i165_113 : ins 165 113 = some (.getfield 198, 116, 12, 13) := by decide +kernel
theorem i165_116 : ins 165 116 = some (.ifCond .ne (18), 119, 134, 0) := by decide +kernel
theorem i165_119 : ins 165 119 = some (.aload_n 0, 120, 0, 0) := by decide +kernel
theorem i165_120 : ins 165 120 = some (.iconst (0), 121, 0, 0) := by decide +kernel
theorem i165_121 : ins 165 121 = some (.invokevirtual 216, 124, 159, 0) := by decide +kernel
theorem i165_124 : ins 165 124 = some (.ifCond .ne (10), 127, 134, 0) := by decide +kernel
theorem i165_127 : ins 165 127 = some (.aload_n 0, 128, 0, 0) := by decide +kernel
theorem i165_128 : ins 165 128 = some (.invokevirtual 243, 131, 168, 0) := by decide +kernel
theorem i165_131 : ins 165 131 = some (.goto (-19), 134, 112, 0) := by decide +kernel
theorem i165_134 : ins 165 134 = some (.aload_n 0, 135, 0, 0) := by decide +kernel
theorem i165_135 : ins 165 135 = some (.aload_n 0, 136, 0, 0) := by decide +kernel
theorem i165_136 : ins 165 136 = some (.getfield 198, 139, 12, 13) := by decide +kernel
theorem i165_139 : ins 165 139 = some (.ifCond .le (10), 142, 149, 0) := by decide +kernel
theorem i165_142 : ins 165 142 = some (.aload_n 0, 143, 0, 0) := by decide +kernel
theorem i165_143 : ins 165 143 = some (.getfield 204, 146, 12, 14) := by decide +kernel
theorem i165_146 : ins 165 146 = some (.goto (18), 149, 164, 0) := by decide +kernel
theorem i165_149 : ins 165 149 = some (.aload_n 0, 150, 0, 0) := by decide +kernel
theorem i165_150 : ins 165 150 = some (.getfield 207, 153, 12, 15) := by decide +kernel
theorem i165_153 : ins 165 153 = some (.ifCond .le (10), 156, 163, 0) := by decide +kernel
theorem i165_156 : ins 165 156 = some (.aload_n 0, 157, 0, 0) := by decide +kernel
theorem i165_157 : ins 165 157 = some (.getfield 210, 160, 12, 16) := by decide +kernel
theorem i165_160 : ins 165 160 = some (.goto (4), 163, 164, 0) := by decide +kernel
theorem i165_163 : ins 165 163 = some (.iconst (-1), 164, 0, -1) := by decide +kernel
theorem i165_164 : ins 165 164 = some (.putfield 37, 167, 12, 17) := by decide +kernel
theorem i165_167 : ins 165 167 = some (.aload_n 0, 168, 0, 0) := by decide +kernel
theorem i165_168 : ins 165 168 = some (.getfield 198, 171, 12, 13) := by decide +kernel
theorem i165_171 : ins 165 171 = some (.ifCond .le (8), 174, 179, 0) := by decide +kernel
theorem i165_174 : ins 165 174 = some (.aload_n 0, 175, 0, 0) := by decide +kernel
theorem i165_175 : ins 165 175 = some (.getfield 198, 178, 12, 13) := by decide +kernel
theorem i165_178 : ins 165 178 = some (.ireturn, 179, 0, 0) := by decide +kernel
theorem i165_179 : ins 165 179 = some (.aload_n 0, 180, 0, 0) := by decide +kernel
theorem i165_180 : ins 165 180 = some (.getfield 207, 183, 12, 15) := by decide +kernel
theorem i165_183 : ins 165 183 = some (.ifCond .le (8), 186, 191, 0) := by decide +kernel
theorem i165_186 : ins 165 186 = some (.aload_n 0, 187, 0, 0) := by decide +kernel
theorem i165_187 : ins 165 187 = some (.getfield 207, 190, 12, 15) := by decide +kernel
theorem i165_190 : ins 165 190 = some (.ireturn, 191, 0, 0) := by decide +kernel
theorem i165_191 : ins 165 191 = some (.aload_n 0, 192, 0, 0) := by decide +kernel
theorem i165_192 : ins 165 192 = some (.aload_n 0, 193, 0, 0) := by decide +kernel
theorem i165_193 : ins 165 193 = some (.getfield 231, 196, 12, 19) := by decide +kernel
theorem i165_196 : ins 165 196 = some (.putfield 228, 199, 12, 18) := by decide +kernel
theorem i165_199 : ins 165 199 = some (.aload_n 0, 200, 0, 0) := by decide +kernel
theorem i165_200 : ins 165 200 = some (.invokevirtual 158, 203, 187, 0) := by decide +kernel
theorem i165_203 : ins 165 203 = some (.aload_n 0, 204, 0, 0) := by decide +kernel
theorem i165_204 : ins 165 204 = some (.iconst (0), 205, 0, 0) := by decide +kernel
theorem i165_205 : ins 165 205 = some (.putfield 246, 208, 12, 58) := by decide +kernel
theorem i165_208 : ins 165 208 = some (.aload_n 0, 209, 0, 0) := by decide +kernel
theorem i165_209 : ins 165 209 = some (.iconst (0), 210, 0, 0) := by decide +kernel
theorem i165_210 : ins 165 210 = some (.putfield 249, 213, 12, 63) := by decide +kernel
theorem i165_213 : ins 165 213 = some (.iconst (0), 214, 0, 0) := by decide +kernel
theorem i165_214 : ins 165 214 = some (.istore_n 1, 215, 0, 0) := by decide +kernel
theorem i165_215 : ins 165 215 = some (.iload_n 1, 216, 0, 0) := by decide +kernel
theorem i165_216 : ins 165 216 = some (.iconst (3), 217, 0, 3) := by decide +kernel
theorem i165_217 : ins 165 217 = some (.if_icmp .ge (16), 220, 233, 0) := by decide +kernel
theorem i165_220 : ins 165 220 = some (.aload_n 0, 221, 0, 0) := by decide +kernel
theorem i165_221 : ins 165 221 = some (.getfield 144, 224, 12, 66) := by decide +kernel
theorem i165_224 : ins 165 224 = some (.iload_n 1, 225, 0, 0) := by decide +kernel
theorem i165_225 : ins 165 225 = some (.iconst (0), 226, 0, 0) := by decide +kernel
theorem i165_226 : ins 165 226 = some (.bastore, 227, 0, 0) := by decide +kernel
theorem i165_227 : ins 165 227 = some (.iinc 1 (1), 230, 0, 1) := by decide +kernel
theorem i165_230 : ins 165 230 = some (.goto (-15), 233, 215, 0) := by decide +kernel
theorem i165_233 : ins 165 233 = some (.iconst (0), 234, 0, 0) := by decide +kernel
theorem i165_234 : ins 165 234 = some (.ireturn, 235, 0, 0) := by decide +kernel
theorem i166_0 : ins 166 0 = some (.aload_n 0, 1, 0, 0) := by decide +kernel
theorem i166_1 : ins 166 1 = some (.getfield 37, 4, 12, 17) := by decide +kernel
theorem i166_4 : ins 166 4 = some (.ireturn, 5, 0, 0) := by decide +kernel
theorem i168_0 : ins 168 0 = some (.aload_n 0, 1, 0, 0) := by decide +kernel
theorem i168_1 : ins 168 1 = some (.getfield 20, 4, 12, 5) := by decide +kernel
theorem i168_4 : ins 168 4 = some (.aload_n 0, 5, 0, 0) := by decide +kernel
theorem i168_5 : ins 168 5 = some (.getfield 201, 8, 12, 11) := by decide +kernel
theorem i168_8 : ins 168 8 = some (.iaload, 9, 0, 0) := by decide +kernel
theorem i168_9 : ins 168 9 = some (.tableswitch (259) (20) (27) #[47, 76, 105, 133, 160, 173, 201, 230], 56, 0, 0) := by decide +kernel
theorem i168_56 : ins 168 56 = some (.aload_n 0, 57, 0, 0) := by decide +kernel
theorem i168_57 : ins 168 57 = some (.aload_n 0, 58, 0, 0) := by decide +kernel
theorem i168_58 : ins 168 58 = some (.getfield 46, 61, 12, 23) := by decide +kernel
theorem i168_61 : ins 168 61 = some (.aload_n 0, 62, 0, 0) := by decide +kernel
theorem i168_62 : ins 168 62 = some (.getfield 231, 65, 12, 19) := by decide +kernel
theorem i168_65 : ins 168 65 = some (.iaload, 66, 0, 0) := by decide +kernel
theorem i168_66 : ins 168 66 = some (.bipush (6), 68, 0, 6) := by decide +kernel
theorem i168_68 : ins 168 68 = some (.invokevirtual 252, 71, 167, 0) := by decide +kernel
theorem i168_71 : ins 168 71 = some (.aload_n 0, 72, 0, 0) := by decide +kernel
theorem i168_72 : ins 168 72 = some (.getfield 198, 75, 12, 13) := by decide +kernel
theorem i168_75 : ins 168 75 = some (.ifCond .ne (198), 78, 273, 0) := by decide +kernel
theorem i168_78 : ins 168 78 = some (.aload_n 0, 79, 0, 0) := by decide +kernel
theorem i168_79 : ins 168 79 = some (.invokevirtual 256, 82, 173, 0) := by decide +kernel
theorem i168_82 : ins 168 82 = some (.goto (191), 85, 273, 0) := by decide +kernel
theorem i168_85 : ins 168 85 = some (.aload_n 0, 86, 0, 0) := by decide +kernel
theorem i168_86 : ins 168 86 = some (.aload_n 0, 87, 0, 0) := by decide +kernel
theorem i168_87 : ins 168 87 = some (.getfield 52, 90, 12, 25) := by decide +kernel
theorem i168_90 : ins 168 90 = some (.aload_n 0, 91, 0, 0) := by decide +kernel
theorem i168_91 : ins 168 91 = some (.getfield 231, 94, 12, 19) := by decide +kernel
theorem i168_94 : ins 168 94 = some (.iaload, 95, 0, 0) := by decide +kernel
theorem i168_95 : ins 168 95 = some (.bipush (6), 97, 0, 6) := by decide +kernel
theorem i168_97 : ins 168 97 = some (.invokevirtual 252, 100, 167, 0) := by decide +kernel
theorem i168_100 : ins 168 100 = some (.aload_n 0, 101, 0, 0) := by decide +kernel
theorem i168_101 : ins 168 101 = some (.getfield 198, 104, 12, 13) := by decide +kernel
theorem i168_104 : ins 168 104 = some (.ifCond .ne (169), 107, 273, 0) := by decide +kernel
theorem i168_107 : ins 168 107 = some (.aload_n 0, 108, 0, 0) := by decide +kernel
theorem i168_108 : ins 168 108 = some (.invokevirtual 259, 111, 174, 0) := by decide +kernel
theorem i168_111 : ins 168 111 = some (.goto (162), 114, 273, 0) := by decide +kernel
theorem i168_114 : ins 168 114 = some (.aload_n 0, 115, 0, 0) := by decide +kernel
theorem i168_115 : ins 168 115 = some (.aload_n 0, 116, 0, 0) := by decide +kernel
theorem i168_116 : ins 168 116 = some (.getfield 64, 119, 12, 29) := by decide +kernel
theorem i168_119 : ins 168 119 = some (.aload_n 0, 120, 0, 0) := by decide +kernel
theorem i168_120 : ins 168 120 = some (.getfield 231, 123, 12, 19) := by decide +kernel
theorem i168_123 : ins 168 123 = some (.iaload, 124, 0, 0) := by decide +kernel
theorem i168_124 : ins 168 124 = some (.iconst (3), 125, 0, 3) := by decide +kernel
theorem i168_125 : ins 168 125 = some (.invokevirtual 252, 128, 167, 0) := by decide +kernel
theorem i168_128 : ins 168 128 = some (.aload_n 0, 129, 0, 0) := by decide +kernel
theorem i168_129 : ins 168 129 = some (.getfield 198, 132, 12, 13) := by decide +kernel
theorem i168_132 : ins 168 132 = some (.ifCond .ne (141), 135, 273, 0) := by decide +kernel
theorem i168_135 : ins 168 135 = some (.aload_n 0, 136, 0, 0) := by decide +kernel
theorem i168_136 : ins 168 136 = some (.invokevirtual 262, 139, 175, 0) := by decide +kernel
theorem i168_139 : ins 168 139 = some (.goto (134), 142, 273, 0) := by decide +kernel
theorem i168_142 : ins 168 142 = some (.aload_n 0, 143, 0, 0) := by decide +kernel
theorem i168_143 : ins 168 143 = some (.invokevirtual 219, 146, 162, 0) := by decide +kernel
theorem i168_146 : ins 168 146 = some (.aload_n 0, 147, 0, 0) := by decide +kernel
theorem i168_147 : ins 168 147 = some (.invokevirtual 265, 150, 171, 0) := by decide +kernel
theorem i168_150 : ins 168 150 = some (.istore_n 1, 151, 0, 0) := by decide +kernel
theorem i168_151 : ins 168 151 = some (.aload_n 0, 152, 0, 0) := by decide +kernel
theorem i168_152 : ins 168 152 = some (.iload_n 1, 153, 0, 0) := by decide +kernel
theorem i168_153 : ins 168 153 = some (.ifCond .ge (7), 156, 160, 0) := by decide +kernel
theorem i168_156 : ins 168 156 = some (.iconst (-1), 157, 0, -1) := by decide +kernel
theorem i168_157 : ins 168 157 = some (.goto (6), 160, 163, 0) := by decide +kernel
theorem i168_160 : ins 168 160 = some (.iconst (3), 161, 0, 3) := by decide +kernel
theorem i168_161 : ins 168 161 = some (.iload_n 1, 162, 0, 0) := by decide +kernel
theorem i168_162 : ins 168 162 = some (.iadd, 163, 0, 0) := by decide +kernel
theorem i168_163 : ins 168 163 = some (.invokevirtual 269, 166, 176, 0) := by decide +kernel
theorem i168_166 : ins 168 166 = some (.goto (107), 169, 273, 0) := by decide +kernel
theorem i168_169 : ins 168 169 = some (.aload_n 0, 170, 0, 0) := by decide +kernel
theorem i168_170 : ins 168 170 = some (.invokevirtual 219, 173, 162, 0) := by decide +kernel
theorem i168_173 : ins 168 173 = some (.aload_n 0, 174, 0, 0) := by decide +kernel
theorem i168_174 : ins 168 174 = some (.bipush (9), 176, 0, 9) := by decide +kernel
theorem i168_176 : ins 168 176 = some (.invokevirtual 269, 179, 176, 0) := by decide +kernel
theorem i168_179 : ins 168 179 = some (.goto (94), 182, 273, 0) := by decide +kernel
theorem i168_182 : ins 168 182 = some (.aload_n 0, 183, 0, 0) := by decide +kernel
theorem i168_183 : ins 168 183 = some (.invokevirtual 219, 186, 162, 0) := by decide +kernel
theorem i168_186 : ins 168 186 = some (.aload_n 0, 187, 0, 0) := by decide +kernel
theorem i168_187 : ins 168 187 = some (.getfield 67, 190, 12, 30) := by decide +kernel
theorem i168_190 : ins 168 190 = some (.aload_n 0, 191, 0, 0) := by decide +kernel
theorem i168_191 : ins 168 191 = some (.getfield 231, 194, 12, 19) := by decide +kernel
theorem i168_194 : ins 168 194 = some (.aload_n 0, 195, 0, 0) := by decide +kernel
theorem i168_195 : ins 168 195 = some (.iconst (0), 196, 0, 0) := by decide +kernel
theorem i168_196 : ins 168 196 = some (.bipush (9), 198, 0, 9) := by decide +kernel
theorem i168_198 : ins 168 198 = some (.invokevirtual 272, 201, 172, 0) := by decide +kernel
theorem i168_201 : ins 168 201 = some (.iastore, 202, 0, 0) := by decide +kernel
theorem i168_202 : ins 168 202 = some (.aload_n 0, 203, 0, 0) := by decide +kernel
theorem i168_203 : ins 168 203 = some (.iconst (4), 204, 0, 4) := by decide +kernel
theorem i168_204 : ins 168 204 = some (.invokevirtual 276, 207, 163, 0) := by decide +kernel
theorem i168_207 : ins 168 207 = some (.goto (66), 210, 273, 0) := by decide +kernel
theorem i168_210 : ins 168 210 = some (.aload_n 0, 211, 0, 0) := by decide +kernel
theorem i168_211 : ins 168 211 = some (.invokevirtual 219, 214, 162, 0) := by decide +kernel
theorem i168_214 : ins 168 214 = some (.aload_n 0, 215, 0, 0) := by decide +kernel
theorem i168_215 : ins 168 215 = some (.getfield 70, 218, 12, 31) := by decide +kernel
theorem i168_218 : ins 168 218 = some (.aload_n 0, 219, 0, 0) := by decide +kernel
theorem i168_219 : ins 168 219 = some (.getfield 231, 222, 12, 19) := by decide +kernel
theorem i168_222 : ins 168 222 = some (.aload_n 0, 223, 0, 0) := by decide +kernel
theorem i168_223 : ins 168 223 = some (.iconst (0), 224, 0, 0) := by decide +kernel
theorem i168_224 : ins 168 224 = some (.sipush (9999), 227, 0, 9999) := by decide +kernel
theorem i168_227 : ins 168 227 = some (.invokevirtual 272, 230, 172, 0) := by decide +kernel
theorem i168_230 : ins 168 230 = some (.iastore, 231, 0, 0) := by decide +kernel
theorem i168_231 : ins 168 231 = some (.aload_n 0, 232, 0, 0) := by decide +kernel
theorem i168_232 : ins 168 232 = some (.iconst (4), 233, 0, 4) := by decide +kernel
theorem i168_233 : ins 168 233 = some (.invokevirtual 276, 236, 163, 0) := by decide +kernel
theorem i168_236 : ins 168 236 = some (.goto (37), 239, 273, 0) := by decide +kernel
theorem i168_239 : ins 168 239 = some (.aload_n 0, 240, 0, 0) := by decide +kernel
theorem i168_240 : ins 168 240 = some (.invokevirtual 219, 243, 162, 0) := by decide +kernel
theorem i168_243 : ins 168 243 = some (.aload_n 0, 244, 0, 0) := by decide +kernel
theorem i168_244 : ins 168 244 = some (.getfield 73, 247, 12, 32) := by decide +kernel
theorem i168_247 : ins 168 247 = some (.aload_n 0, 248, 0, 0) := by decide +kernel
theorem i168_248 : ins 168 248 = some (.getfield 231, 251, 12, 19) := by decide +kernel
theorem i168_251 : ins 168 251 = some (.aload_n 0, 252, 0, 0) := by decide +kernel
theorem i168_252 : ins 168 252 = some (.iconst (0), 253, 0, 0) := by decide +kernel
theorem i168_253 : ins 168 253 = some (.sipush (9999), 256, 0, 9999) := by decide +kernel
theorem i168_256 : ins 168 256 = some (.invokevirtual 272, 259, 172, 0) := by decide +kernel
theorem i168_259 : ins 168 259 = some (.iastore, 260, 0, 0) := by decide +kernel
theorem i168_260 : ins 168 260 = some (.aload_n 0, 261, 0, 0) := by decide +kernel
theorem i168_261 : ins 168 261 = some (.iconst (4), 262, 0, 4) := by decide +kernel
theorem i168_262 : ins 168 262 = some (.invokevirtual 276, 265, 163, 0) := by decide +kernel
theorem i168_265 : ins 168 265 = some (.goto (8), 268, 273, 0) := by decide +kernel
theorem i168_268 : ins 168 268 = some (.aload_n 0, 269, 0, 0) := by decide +kernel
theorem i168_269 : ins 168 269 = some (.iconst (1), 270, 0, 1) := by decide +kernel
theorem i168_270 : ins 168 270 = some (.invokevirtual 213, 273, 160, 0) := by decide +kernel
theorem i168_273 : ins 168 273 = some (.return_, 274, 0, 0) := by decide +kernel
theorem i169_0 : ins 169 0 = some (.aload_n 0, 1, 0, 0) := by decide +kernel
theorem i169_1 : ins 169 1 = some (.getfield 201, 4, 12, 11) := by decide +kernel
theorem i169_4 : ins 169 4 = some (.istore_n 1, 5, 0, 0) := by decide +kernel
theorem i169_5 : ins 169 5 = some (.aload_n 0, 6, 0, 0) := by decide +kernel
theorem i169_6 : ins 169 6 = some (.iconst (1), 7, 0, 1) := by decide +kernel
theorem i169_7 : ins 169 7 = some (.invokevirtual 276, 10, 163, 0) := by decide +kernel
theorem i169_10 : ins 169 10 = some (.iconst (0), 11, 0, 0) := by decide +kernel
theorem i169_11 : ins 169 11 = some (.istore_n 2, 12, 0, 0) := by decide +kernel
theorem i169_12 : ins 169 12 = some (.iload_n 2, 13, 0, 0) := by decide +kernel
theorem i169_13 : ins 169 13 = some (.aload_n 0, 14, 0, 0) := by decide +kernel
theorem i169_14 : ins 169 14 = some (.getfield 234, 17, 12, 20) := by decide +kernel
theorem i169_17 : ins 169 17 = some (.if_icmp .ge (38), 20, 55, 0) := by decide +kernel
theorem i169_20 : ins 169 20 = some (.aload_n 0, 21, 0, 0) := by decide +kernel
theorem i169_21 : ins 169 21 = some (.getfield 198, 24, 12, 13) := by decide +kernel
theorem i169_24 : ins 169 24 = some (.ifCond .ne (31), 27, 55, 0) := by decide +kernel
theorem i169_27 : ins 169 27 = some (.aload_n 0, 28, 0, 0) := by decide +kernel
theorem i169_28 : ins 169 28 = some (.getfield 40, 31, 12, 21) := by decide +kernel
theorem i169_31 : ins 169 31 = some (.iload_n 2, 32, 0, 0) := by decide +kernel
theorem i169_32 : ins 169 32 = some (.laload, 33, 0, 0) := by decide +kernel
theorem i169_33 : ins 169 33 = some (.aload_n 0, 34, 0, 0) := by decide +kernel
theorem i169_34 : ins 169 34 = some (.getfield 30, 37, 12, 8) := by decide +kernel
theorem i169_37 : ins 169 37 = some (.iload_n 1, 38, 0, 0) := by decide +kernel
theorem i169_38 : ins 169 38 = some (.laload, 39, 0, 0) := by decide +kernel
theorem i169_39 : ins 169 39 = some (.lcmp, 40, 0, 0) := by decide +kernel
theorem i169_40 : ins 169 40 = some (.ifCond .ne (9), 43, 49, 0) := by decide +kernel
theorem i169_43 : ins 169 43 = some (.aload_n 0, 44, 0, 0) := by decide +kernel
theorem i169_44 : ins 169 44 = some (.iconst (3), 45, 0, 3) := by decide +kernel
theorem i169_45 : ins 169 45 = some (.iload_n 1, 46, 0, 0) := by decide +kernel
theorem i169_46 : ins 169 46 = some (.invokevirtual 279, 49, 161, 0) := by decide +kernel
theorem i169_49 : ins 169 49 = some (.iinc 2 (1), 52, 0, 1) := by decide +kernel
theorem i169_52 : ins 169 52 = some (.goto (-40), 55, 12, 0) := by decide +kernel
theorem i169_55 : ins 169 55 = some (.iload_n 1, 56, 0, 0) := by decide +kernel
theorem i169_56 : ins 169 56 = some (.ireturn, 57, 0, 0) := by decide +kernel
theorem i170_0 : ins 170 0 = some (.aload_n 0, 1, 0, 0) := by decide +kernel
theorem i170_1 : ins 170 1 = some (.getfield 40, 4, 12, 21) := by decide +kernel
theorem i170_4 : ins 170 4 = some (.aload_n 0, 5, 0, 0) := by decide +kernel
theorem i170_5 : ins 170 5 = some (.getfield 234, 8, 12, 20) := by decide +kernel
theorem i170_8 : ins 170 8 = some (.aload_n 0, 9, 0, 0) := by decide +kernel
theorem i170_9 : ins 170 9 = some (.getfield 30, 12, 12, 8) := by decide +kernel
theorem i170_12 : ins 170 12 = some (.iload_n 1, 13, 0, 0) := by decide +kernel
theorem i170_13 : ins 170 13 = some (.laload, 14, 0, 0) := by decide +kernel
theorem i170_14 : ins 170 14 = some (.lastore, 15, 0, 0) := by decide +kernel
theorem i170_15 : ins 170 15 = some (.aload_n 0, 16, 0, 0) := by decide +kernel
theorem i170_16 : ins 170 16 = some (.getfield 43, 19, 12, 22) := by decide +kernel
theorem i170_19 : ins 170 19 = some (.aload_n 0, 20, 0, 0) := by decide +kernel
theorem i170_20 : ins 170 20 = some (.getfield 234, 23, 12, 20) := by decide +kernel
theorem i170_23 : ins 170 23 = some (.iload_n 2, 24, 0, 0) := by decide +kernel
theorem i170_24 : ins 170 24 = some (.iastore, 25, 0, 0) := by decide +kernel
theorem i170_25 : ins 170 25 = some (.aload_n 0, 26, 0, 0) := by decide +kernel
theorem i170_26 : ins 170 26 = some (.dup, 27, 0, 0) := by decide +kernel
theorem i170_27 : ins 170 27 = some (.getfield 234, 30, 12, 20) := by decide +kernel
theorem i170_30 : ins 170 30 = some (.iconst (1), 31, 0, 1) := by decide +kernel
theorem i170_31 : ins 170 31 = some (.iadd, 32, 0, 0) := by decide +kernel
theorem i170_32 : ins 170 32 = some (.putfield 234, 35, 12, 20) := by decide +kernel
theorem i170_35 : ins 170 35 = some (.return_, 36, 0, 0) := by decide +kernel
theorem i172_0 : ins 172 0 = some (.aload_n 0, 1, 0, 0) := by decide +kernel
theorem i172_1 : ins 172 1 = some (.getfield 198, 4, 12, 13) := by decide +kernel
theorem i172_4 : ins 172 4 = some (.ifCond .gt (11), 7, 15, 0) := by decide +kernel
theorem i172_7 : ins 172 7 = some (.aload_n 0, 8, 0, 0) := by decide +kernel
theorem i172_8 : ins 172 8 = some (.iconst (2), 9, 0, 2) := by decide +kernel
theorem i172_9 : ins 172 9 = some (.invokevirtual 216, 12, 159, 0) := by decide +kernel
theorem i172_12 : ins 172 12 = some (.ifCond .ne (10), 15, 22, 0) := by decide +kernel
theorem i172_15 : ins 172 15 = some (.aload_n 0, 16, 0, 0) := by decide +kernel
theorem i172_16 : ins 172 16 = some (.iconst (1), 17, 0, 1) := by decide +kernel
theorem i172_17 : ins 172 17 = some (.invokevirtual 213, 20, 160, 0) := by decide +kernel
theorem i172_20 : ins 172 20 = some (.iload_n 1, 21, 0, 0) := by decide +kernel
theorem i172_21 : ins 172 21 = some (.ireturn, 22, 0, 0) := by decide +kernel
theorem i172_22 : ins 172 22 = some (.aload_n 0, 23, 0, 0) := by decide +kernel
theorem i172_23 : ins 172 23 = some (.getfield 27, 26, 12, 7) := by decide +kernel
theorem i172_26 : ins 172 26 = some (.aload_n 0, 27, 0, 0) := by decide +kernel
theorem i172_27 : ins 172 27 = some (.getfield 201, 30, 12, 11) := by decide +kernel
theorem i172_30 : ins 172 30 = some (.iaload, 31, 0, 0) := by decide +kernel
theorem i172_31 : ins 172 31 = some (.istore_n 3, 32, 0, 0) := by decide +kernel
theorem i172_32 : ins 172 32 = some (.iload_n 3, 33, 0, 0) := by decide +kernel
theorem i172_33 : ins 172 33 = some (.iload_n 1, 34, 0, 0) := by decide +kernel
theorem i172_34 : ins 172 34 = some (.if_icmp .lt (8), 37, 42, 0) := by decide +kernel
theorem i172_37 : ins 172 37 = some (.iload_n 3, 38, 0, 0) := by decide +kernel
theorem i172_38 : ins 172 38 = some (.iload_n 2, 39, 0, 0) := by decide +kernel
theorem i172_39 : ins 172 39 = some (.if_icmp .le (12), 42, 51, 0) := by decide +kernel
theorem i172_42 : ins 172 42 = some (.aload_n 0, 43, 0, 0) := by decide +kernel
theorem i172_43 : ins 172 43 = some (.iconst (5), 44, 0, 5) := by decide +kernel
theorem i172_44 : ins 172 44 = some (.aload_n 0, 45, 0, 0) := by decide +kernel
theorem i172_45 : ins 172 45 = some (.getfield 201, 48, 12, 11) := by decide +kernel
theorem i172_48 : ins 172 48 = some (.invokevirtual 279, 51, 161, 0) := by decide +kernel
theorem i172_51 : ins 172 51 = some (.aload_n 0, 52, 0, 0) := by decide +kernel
theorem i172_52 : ins 172 52 = some (.invokevirtual 219, 55, 162, 0) := by decide +kernel
theorem i172_55 : ins 172 55 = some (.iload_n 3, 56, 0, 0) := by decide +kernel
theorem i172_56 : ins 172 56 = some (.ireturn, 57, 0, 0) := by decide +kernel
theorem i173_0 : ins 173 0 = some (.aload_n 0, 1, 0, 0) := by decide +kernel
theorem i173_1 : ins 173 1 = some (.invokevirtual 282, 4, 169, 0) := by decide +kernel
theorem i173_4 : ins 173 4 = some (.istore_n 1, 5, 0, 0) := by decide +kernel
theorem i173_5 : ins 173 5 = some (.aload_n 0, 6, 0, 0) := by decide +kernel
theorem i173_6 : ins 173 6 = some (.getfield 49, 9, 12, 24) := by decide +kernel
theorem i173_9 : ins 173 9 = some (.bipush (6), 11, 0, 6) := by decide +kernel
theorem i173_11 : ins 173 11 = some (.aload_n 0, 12, 0, 0) := by decide +kernel
theorem i173_12 : ins 173 12 = some (.getfield 231, 15, 12, 19) := by decide +kernel
theorem i173_15 : ins 173 15 = some (.imul, 16, 0, 0) := by decide +kernel
theorem i173_16 : ins 173 16 = some (.aload_n 0, 17, 0, 0) := by decide +kernel
theorem i173_17 : ins 173 17 = some (.getfield 46, 20, 12, 23) := by decide +kernel
theorem i173_20 : ins 173 20 = some (.aload_n 0, 21, 0, 0) := by decide +kernel
theorem i173_21 : ins 173 21 = some (.getfield 231, 24, 12, 19) := by decide +kernel
theorem i173_24 : ins 173 24 = some (.iaload, 25, 0, 0) := by decide +kernel
theorem i173_25 : ins 173 25 = some (.iadd, 26, 0, 0) := by decide +kernel
theorem i173_26 : ins 173 26 = some (.aload_n 0, 27, 0, 0) := by decide +kernel
theorem i173_27 : ins 173 27 = some (.iconst (0), 28, 0, 0) := by decide +kernel
theorem i173_28 : ins 173 28 = some (.bipush (99), 30, 0, 99) := by decide +kernel
theorem i173_30 : ins 173 30 = some (.invokevirtual 272, 33, 172, 0) := by decide +kernel
theorem i173_33 : ins 173 33 = some (.iastore, 34, 0, 0) := by decide +kernel
theorem i173_34 : ins 173 34 = some (.aload_n 0, 35, 0, 0) := by decide +kernel
theorem i173_35 : ins 173 35 = some (.iconst (4), 36, 0, 4) := by decide +kernel
theorem i173_36 : ins 173 36 = some (.invokevirtual 276, 39, 163, 0) := by decide +kernel
theorem i173_39 : ins 173 39 = some (.aload_n 0, 40, 0, 0) := by decide +kernel
theorem i173_40 : ins 173 40 = some (.getfield 198, 43, 12, 13) := by decide +kernel
theorem i173_43 : ins 173 43 = some (.ifCond .le (4), 46, 47, 0) := by decide +kernel
theorem i173_46 : ins 173 46 = some (.return_, 47, 0, 0) := by decide +kernel
theorem i173_47 : ins 173 47 = some (.aload_n 0, 48, 0, 0) := by decide +kernel
theorem i173_48 : ins 173 48 = some (.iload_n 1, 49, 0, 0) := by decide +kernel
theorem i173_49 : ins 173 49 = some (.iconst (-1), 50, 0, -1) := by decide +kernel
theorem i173_50 : ins 173 50 = some (.invokevirtual 285, 53, 170, 0) := by decide +kernel
theorem i173_53 : ins 173 53 = some (.aload_n 0, 54, 0, 0) := by decide +kernel
theorem i173_54 : ins 173 54 = some (.getfield 46, 57, 12, 23) := by decide +kernel
theorem i173_57 : ins 173 57 = some (.aload_n 0, 58, 0, 0) := by decide +kernel
theorem i173_58 : ins 173 58 = some (.getfield 231, 61, 12, 19) := by decide +kernel
theorem i173_61 : ins 173 61 = some (.dup2, 62, 0, 0) := by decide +kernel
theorem i173_62 : ins 173 62 = some (.iaload, 63, 0, 0) := by decide +kernel
theorem i173_63 : ins 173 63 = some (.iconst (1), 64, 0, 1) := by decide +kernel
theorem i173_64 : ins 173 64 = some (.iadd, 65, 0, 0) := by decide +kernel
theorem i173_65 : ins 173 65 = some (.iastore, 66, 0, 0) := by decide +kernel
theorem i173_66 : ins 173 66 = some (.return_, 67, 0, 0) := by decide +kernel
theorem i174_0 : ins 174 0 = some (.bipush (6), 2, 0, 6) := by decide +kernel
theorem i174_2 : ins 174 2 = some (.aload_n 0, 3, 0, 0) := by decide +kernel
theorem i174_3 : ins 174 3 = some (.getfield 231, 6, 12, 19) := by decide +kernel
theorem i174_6 : ins 174 6 = some (.imul, 7, 0, 0) := by decide +kernel
theorem i174_7 : ins 174 7 = some (.aload_n 0, 8, 0, 0) := by decide +kernel
theorem i174_8 : ins 174 8 = some (.getfield 52, 11, 12, 25) := by decide +kernel
theorem i174_11 : ins 174 11 = some (.aload_n 0, 12, 0, 0) := by decide +kernel
theorem i174_12 : ins 174 12 = some (.getfield 231, 15, 12, 19) := by decide +kernel
theorem i174_15 : ins 174 15 = some (.iaload, 16, 0, 0) := by decide +kernel
theorem i174_16 : ins 174 16 = some (.iadd, 17, 0, 0) := by decide +kernel
theorem i174_17 : ins 174 17 = some (.istore_n 1, 18, 0, 0) := by decide +kernel
theorem i174_18 : ins 174 18 = some (.aload_n 0, 19, 0, 0) := by decide +kernel
theorem i174_19 : ins 174 19 = some (.invokevirtual 282, 22, 169, 0) := by decide +kernel
theorem i174_22 : ins 174 22 = some (.istore_n 2, 23, 0, 0) := by decide +kernel
theorem i174_23 : ins 174 23 = some (.aload_n 0, 24, 0, 0) := by decide +kernel
theorem i174_24 : ins 174 24 = some (.getfield 55, 27, 12, 26) := by decide +kernel
theorem i174_27 : ins 174 27 = some (.iload_n 1, 28, 0, 0) := by decide +kernel
theorem i174_28 : ins 174 28 = some (.aload_n 0, 29, 0, 0) := by decide +kernel
theorem i174_29 : ins 174 29 = some (.iconst (0), 30, 0, 0) := by decide +kernel
theorem i174_30 : ins 174 30 = some (.bipush (99), 32, 0, 99) := by decide +kernel
theorem i174_32 : ins 174 32 = some (.invokevirtual 272, 35, 172, 0) := by decide +kernel
theorem i174_35 : ins 174 35 = some (.iastore, 36, 0, 0) := by decide +kernel
theorem i174_36 : ins 174 36 = some (.aload_n 0, 37, 0, 0) := by decide +kernel
theorem i174_37 : ins 174 37 = some (.getfield 58, 40, 12, 27) := by decide +kernel
theorem i174_40 : ins 174 40 = some (.iload_n 1, 41, 0, 0) := by decide +kernel
theorem i174_41 : ins 174 41 = some (.aload_n 0, 42, 0, 0) := by decide +kernel
theorem i174_42 : ins 174 42 = some (.iconst (0), 43, 0, 0) := by decide +kernel
theorem i174_43 : ins 174 43 = some (.bipush (9), 45, 0, 9) := by decide +kernel
theorem i174_45 : ins 174 45 = some (.invokevirtual 272, 48, 172, 0) := by decide +kernel
theorem i174_48 : ins 174 48 = some (.iastore, 49, 0, 0) := by decide +kernel
theorem i174_49 : ins 174 49 = some (.iconst (0), 50, 0, 0) := by decide +kernel
theorem i174_50 : ins 174 50 = some (.istore_n 3, 51, 0, 0) := by decide +kernel
theorem i174_51 : ins 174 51 = some (.iload_n 3, 52, 0, 0) := by decide +kernel
theorem i174_52 : ins 174 52 = some (.bipush (6), 54, 0, 6) := by decide +kernel
theorem i174_54 : ins 174 54 = some (.if_icmp .ge (22), 57, 76, 0) := by decide +kernel
theorem i174_57 : ins 174 57 = some (.aload_n 0, 58, 0, 0) := by decide +kernel
theorem i174_58 : ins 174 58 = some (.getfield 61, 61, 12, 28) := by decide +kernel
theorem i174_61 : ins 174 61 = some (.bipush (6), 63, 0, 6) := by decide +kernel
theorem i174_63 : ins 174 63 = some (.iload_n 1, 64, 0, 0) := by decide +kernel
theorem i174_64 : ins 174 64 = some (.imul, 65, 0, 0) := by decide +kernel
theorem i174_65 : ins 174 65 = some (.iload_n 3, 66, 0, 0) := by decide +kernel
theorem i174_66 : ins 174 66 = some (.iadd, 67, 0, 0) := by decide +kernel
theorem i174_67 : ins 174 67 = some (.bipush (50), 69, 0, 50) := by decide +kernel
theorem i174_69 : ins 174 69 = some (.iastore, 70, 0, 0) := by decide +kernel
theorem i174_70 : ins 174 70 = some (.iinc 3 (1), 73, 0, 1) := by decide +kernel
theorem i174_73 : ins 174 73 = some (.goto (-22), 76, 51, 0) := by decide +kernel
theorem i174_76 : ins 174 76 = some (.iconst (0), 77, 0, 0) := by decide +kernel
theorem i174_77 : ins 174 77 = some (.istore_n 3, 78, 0, 0) := by decide +kernel
theorem i174_78 : ins 174 78 = some (.aload_n 0, 79, 0, 0) := by decide +kernel
theorem i174_79 : ins 174 79 = some (.getfield 198, 82, 12, 13) := by decide +kernel
theorem i174_82 : ins 174 82 = some (.ifCond .ne (54), 85, 136, 0) := by decide +kernel
theorem i174_85 : ins 174 85 = some (.aload_n 0, 86, 0, 0) := by decide +kernel
theorem i174_86 : ins 174 86 = some (.iconst (2), 87, 0, 2) := by decide +kernel
theorem i174_87 : ins 174 87 = some (.invokevirtual 216, 90, 159, 0) := by decide +kernel
theorem i174_90 : ins 174 90 = some (.ifCond .eq (46), 93, 136, 0) := by decide +kernel
theorem i174_93 : ins 174 93 = some (.iload_n 3, 94, 0, 0) := by decide +kernel
theorem i174_94 : ins 174 94 = some (.bipush (6), 96, 0, 6) := by decide +kernel
theorem i174_96 : ins 174 96 = some (.if_icmp .ne (8), 99, 104, 0) := by decide +kernel
theorem i174_99 : ins 174 99 = some (.aload_n 0, 100, 0, 0) := by decide +kernel
theorem i174_100 : ins 174 100 = some (.iconst (2), 101, 0, 2) := by decide +kernel
theorem i174_101 : ins 174 101 = some (.invokevirtual 213, 104, 160, 0) := by decide +kernel
theorem i174_104 : ins 174 104 = some (.aload_n 0, 105, 0, 0) := by decide +kernel
theorem i174_105 : ins 174 105 = some (.getfield 198, 108, 12, 13) := by decide +kernel
theorem i174_108 : ins 174 108 = some (.ifCond .le (4), 111, 112, 0) := by decide +kernel
theorem i174_111 : ins 174 111 = some (.return_, 112, 0, 0) := by decide +kernel
theorem i174_112 : ins 174 112 = some (.aload_n 0, 113, 0, 0) := by decide +kernel
theorem i174_113 : ins 174 113 = some (.getfield 61, 116, 12, 28) := by decide +kernel
theorem i174_116 : ins 174 116 = some (.bipush (6), 118, 0, 6) := by decide +kernel
theorem i174_118 : ins 174 118 = some (.iload_n 1, 119, 0, 0) := by decide +kernel
theorem i174_119 : ins 174 119 = some (.imul, 120, 0, 0) := by decide +kernel
theorem i174_120 : ins 174 120 = some (.iload_n 3, 121, 0, 0) := by decide +kernel
theorem i174_121 : ins 174 121 = some (.iadd, 122, 0, 0) := by decide +kernel
theorem i174_122 : ins 174 122 = some (.aload_n 0, 123, 0, 0) := by decide +kernel
theorem i174_123 : ins 174 123 = some (.iconst (0), 124, 0, 0) := by decide +kernel
theorem i174_124 : ins 174 124 = some (.bipush (99), 126, 0, 99) := by decide +kernel
theorem i174_126 : ins 174 126 = some (.invokevirtual 272, 129, 172, 0) := by decide +kernel
theorem i174_129 : ins 174 129 = some (.iastore, 130, 0, 0) := by decide +kernel
theorem i174_130 : ins 174 130 = some (.iinc 3 (1), 133, 0, 1) := by decide +kernel
theorem i174_133 : ins 174 133 = some (.goto (-55), 136, 78, 0) := by decide +kernel
theorem i174_136 : ins 174 136 = some (.aload_n 0, 137, 0, 0) := by decide +kernel
theorem i174_137 : ins 174 137 = some (.iconst (4), 138, 0, 4) := by decide +kernel
theorem i174_138 : ins 174 138 = some (.invokevirtual 276, 141, 163, 0) := by decide +kernel
theorem i174_141 : ins 174 141 = some (.aload_n 0, 142, 0, 0) := by decide +kernel
theorem i174_142 : ins 174 142 = some (.getfield 198, 145, 12, 13) := by decide +kernel
theorem i174_145 : ins 174 145 = some (.ifCond .le (4), 148, 149, 0) := by decide +kernel
theorem i174_148 : ins 174 148 = some (.return_, 149, 0, 0) := by decide +kernel
theorem i174_149 : ins 174 149 = some (.aload_n 0, 150, 0, 0) := by decide +kernel
theorem i174_150 : ins 174 150 = some (.iload_n 2, 151, 0, 0) := by decide +kernel
theorem i174_151 : ins 174 151 = some (.aload_n 0, 152, 0, 0) := by decide +kernel
theorem i174_152 : ins 174 152 = some (.getfield 52, 155, 12, 25) := by decide +kernel
theorem i174_155 : ins 174 155 = some (.aload_n 0, 156, 0, 0) := by decide +kernel
theorem i174_156 : ins 174 156 = some (.getfield 231, 159, 12, 19) := by decide +kernel
theorem i174_159 : ins 174 159 = some (.iaload, 160, 0, 0) := by decide +kernel
theorem i174_160 : ins 174 160 = some (.invokevirtual 285, 163, 170, 0) := by decide +kernel
theorem i174_163 : ins 174 163 = some (.aload_n 0, 164, 0, 0) := by decide +kernel
theorem i174_164 : ins 174 164 = some (.getfield 52, 167, 12, 25) := by decide +kernel
theorem i174_167 : ins 174 167 = some (.aload_n 0, 168, 0, 0) := by decide +kernel
theorem i174_168 : ins 174 168 = some (.getfield 231, 171, 12, 19) := by decide +kernel
theorem i174_171 : ins 174 171 = some (.dup2, 172, 0, 0) := by decide +kernel
theorem i174_172 : ins 174 172 = some (.iaload, 173, 0, 0) := by decide +kernel
theorem i174_173 : ins 174 173 = some (.iconst (1), 174, 0, 1) := by decide +kernel
theorem i174_174 : ins 174 174 = some (.iadd, 175, 0, 0) := by decide +kernel
theorem i174_175 : ins 174 175 = some (.iastore, 176, 0, 0) := by decide +kernel
theorem i174_176 : ins 174 176 = some (.return_, 177, 0, 0) := by decide +kernel
theorem i175_0 : ins 175 0 = some (.aload_n 0, 1, 0, 0) := by decide +kernel
theorem i175_1 : ins 175 1 = some (.invokevirtual 282, 4, 169, 0) := by decide +kernel
theorem i175_4 : ins 175 4 = some (.istore_n 1, 5, 0, 0) := by decide +kernel
theorem i175_5 : ins 175 5 = some (.aload_n 0, 6, 0, 0) := by decide +kernel
theorem i175_6 : ins 175 6 = some (.aload_n 0, 7, 0, 0) := by decide +kernel
theorem i175_7 : ins 175 7 = some (.getfield 64, 10, 12, 29) := by decide +kernel
theorem i175_10 : ins 175 10 = some (.aload_n 0, 11, 0, 0) := by decide +kernel
theorem i175_11 : ins 175 11 = some (.getfield 231, 14, 12, 19) := by decide +kernel
theorem i175_14 : ins 175 14 = some (.iaload, 15, 0, 0) := by decide +kernel
theorem i175_15 : ins 175 15 = some (.invokevirtual 269, 18, 176, 0) := by decide +kernel
theorem i175_18 : ins 175 18 = some (.aload_n 0, 19, 0, 0) := by decide +kernel
theorem i175_19 : ins 175 19 = some (.getfield 198, 22, 12, 13) := by decide +kernel
theorem i175_22 : ins 175 22 = some (.ifCond .le (4), 25, 26, 0) := by decide +kernel
theorem i175_25 : ins 175 25 = some (.return_, 26, 0, 0) := by decide +kernel
theorem i175_26 : ins 175 26 = some (.aload_n 0, 27, 0, 0) := by decide +kernel
theorem i175_27 : ins 175 27 = some (.iload_n 1, 28, 0, 0) := by decide +kernel
theorem i175_28 : ins 175 28 = some (.iconst (-1), 29, 0, -1) := by decide +kernel
theorem i175_29 : ins 175 29 = some (.invokevirtual 285, 32, 170, 0) := by decide +kernel
theorem i175_32 : ins 175 32 = some (.aload_n 0, 33, 0, 0) := by decide +kernel
theorem i175_33 : ins 175 33 = some (.getfield 64, 36, 12, 29) := by decide +kernel
theorem i175_36 : ins 175 36 = some (.aload_n 0, 37, 0, 0) := by decide +kernel
theorem i175_37 : ins 175 37 = some (.getfield 231, 40, 12, 19) := by decide +kernel
theorem i175_40 : ins 175 40 = some (.dup2, 41, 0, 0) := by decide +kernel
theorem i175_41 : ins 175 41 = some (.iaload, 42, 0, 0) := by decide +kernel
theorem i175_42 : ins 175 42 = some (.iconst (1), 43, 0, 1) := by decide +kernel
theorem i175_43 : ins 175 43 = some (.iadd, 44, 0, 0) := by decide +kernel
theorem i175_44 : ins 175 44 = some (.iastore, 45, 0, 0) := by decide +kernel
theorem i175_45 : ins 175 45 = some (.return_, 46, 0, 0) := by decide +kernel
theorem i176_0 : ins 176 0 = some (.aload_n 0, 1, 0, 0) := by decide +kernel
theorem i176_1 : ins 176 1 = some (.iconst (5), 2, 0, 5) := by decide +kernel
theorem i176_2 : ins 176 2 = some (.invokevirtual 276, 5, 163, 0) := by decide +kernel
theorem i176_5 : ins 176 5 = some (.aload_n 0, 6, 0, 0) := by decide +kernel
theorem i176_6 : ins 176 6 = some (.getfield 237, 9, 12, 35) := by decide +kernel
theorem i176_9 : ins 176 9 = some (.istore_n 2, 10, 0, 0) := by decide +kernel
theorem i176_10 : ins 176 10 = some (.iconst (0), 11, 0, 0) := by decide +kernel
theorem i176_11 : ins 176 11 = some (.istore_n 3, 12, 0, 0) := by decide +kernel
theorem i176_12 : ins 176 12 = some (.aload_n 0, 13, 0, 0) := by decide +kernel
theorem i176_13 : ins 176 13 = some (.getfield 198, 16, 12, 13) := by decide +kernel
theorem i176_16 : ins 176 16 = some (.ifCond .ne (113), 19, 129, 0) := by decide +kernel
theorem i176_19 : ins 176 19 = some (.aload_n 0, 20, 0, 0) := by decide +kernel
theorem i176_20 : ins 176 20 = some (.bipush (28), 22, 0, 28) := by decide +kernel
theorem i176_22 : ins 176 22 = some (.invokevirtual 216, 25, 159, 0) := by decide +kernel
theorem i176_25 : ins 176 25 = some (.ifCond .eq (104), 28, 129, 0) := by decide +kernel
theorem i176_28 : ins 176 28 = some (.iload_n 3, 29, 0, 0) := by decide +kernel
theorem i176_29 : ins 176 29 = some (.iconst (4), 30, 0, 4) := by decide +kernel
theorem i176_30 : ins 176 30 = some (.if_icmp .ne (8), 33, 38, 0) := by decide +kernel
theorem i176_33 : ins 176 33 = some (.aload_n 0, 34, 0, 0) := by decide +kernel
theorem i176_34 : ins 176 34 = some (.iconst (2), 35, 0, 2) := by decide +kernel
theorem i176_35 : ins 176 35 = some (.invokevirtual 213, 38, 160, 0) := by decide +kernel
theorem i176_38 : ins 176 38 = some (.aload_n 0, 39, 0, 0) := by decide +kernel
theorem i176_39 : ins 176 39 = some (.getfield 198, 42, 12, 13) := by decide +kernel
theorem i176_42 : ins 176 42 = some (.ifCond .le (4), 45, 46, 0) := by decide +kernel
theorem i176_45 : ins 176 45 = some (.return_, 46, 0, 0) := by decide +kernel
theorem i176_46 : ins 176 46 = some (.iinc 3 (1), 49, 0, 1) := by decide +kernel
theorem i176_49 : ins 176 49 = some (.aload_n 0, 50, 0, 0) := by decide +kernel
theorem i176_50 : ins 176 50 = some (.invokevirtual 219, 53, 162, 0) := by decide +kernel
theorem i176_53 : ins 176 53 = some (.aload_n 0, 54, 0, 0) := by decide +kernel
theorem i176_54 : ins 176 54 = some (.getfield 82, 57, 12, 36) := by decide +kernel
theorem i176_57 : ins 176 57 = some (.aload_n 0, 58, 0, 0) := by decide +kernel
theorem i176_58 : ins 176 58 = some (.getfield 237, 61, 12, 35) := by decide +kernel
theorem i176_61 : ins 176 61 = some (.iconst (1), 62, 0, 1) := by decide +kernel
theorem i176_62 : ins 176 62 = some (.bastore, 63, 0, 0) := by decide +kernel
theorem i176_63 : ins 176 63 = some (.aload_n 0, 64, 0, 0) := by decide +kernel
theorem i176_64 : ins 176 64 = some (.getfield 86, 67, 12, 37) := by decide +kernel
theorem i176_67 : ins 176 67 = some (.aload_n 0, 68, 0, 0) := by decide +kernel
theorem i176_68 : ins 176 68 = some (.getfield 237, 71, 12, 35) := by decide +kernel
theorem i176_71 : ins 176 71 = some (.aload_n 0, 72, 0, 0) := by decide +kernel
theorem i176_72 : ins 176 72 = some (.getfield 240, 75, 12, 41) := by decide +kernel
theorem i176_75 : ins 176 75 = some (.iastore, 76, 0, 0) := by decide +kernel
theorem i176_76 : ins 176 76 = some (.aload_n 0, 77, 0, 0) := by decide +kernel
theorem i176_77 : ins 176 77 = some (.invokevirtual 288, 80, 180, 0) := by decide +kernel
theorem i176_80 : ins 176 80 = some (.aload_n 0, 81, 0, 0) := by decide +kernel
theorem i176_81 : ins 176 81 = some (.bipush (13), 83, 0, 13) := by decide +kernel
theorem i176_83 : ins 176 83 = some (.invokevirtual 276, 86, 163, 0) := by decide +kernel
theorem i176_86 : ins 176 86 = some (.aload_n 0, 87, 0, 0) := by decide +kernel
theorem i176_87 : ins 176 87 = some (.getfield 89, 90, 12, 38) := by decide +kernel
theorem i176_90 : ins 176 90 = some (.aload_n 0, 91, 0, 0) := by decide +kernel
theorem i176_91 : ins 176 91 = some (.getfield 237, 94, 12, 35) := by decide +kernel
theorem i176_94 : ins 176 94 = some (.aload_n 0, 95, 0, 0) := by decide +kernel
theorem i176_95 : ins 176 95 = some (.getfield 240, 98, 12, 41) := by decide +kernel
theorem i176_98 : ins 176 98 = some (.iastore, 99, 0, 0) := by decide +kernel
theorem i176_99 : ins 176 99 = some (.aload_n 0, 100, 0, 0) := by decide +kernel
theorem i176_100 : ins 176 100 = some (.getfield 198, 103, 12, 13) := by decide +kernel
theorem i176_103 : ins 176 103 = some (.ifCond .ne (7), 106, 110, 0) := by decide +kernel
theorem i176_106 : ins 176 106 = some (.aload_n 0, 107, 0, 0) := by decide +kernel
theorem i176_107 : ins 176 107 = some (.invokevirtual 288, 110, 180, 0) := by decide +kernel
theorem i176_110 : ins 176 110 = some (.aload_n 0, 111, 0, 0) := by decide +kernel
theorem i176_111 : ins 176 111 = some (.bipush (29), 113, 0, 29) := by decide +kernel
theorem i176_113 : ins 176 113 = some (.invokevirtual 276, 116, 163, 0) := by decide +kernel
theorem i176_116 : ins 176 116 = some (.aload_n 0, 117, 0, 0) := by decide +kernel
theorem i176_117 : ins 176 117 = some (.invokevirtual 291, 120, 177, 0) := by decide +kernel
theorem i176_120 : ins 176 120 = some (.aload_n 0, 121, 0, 0) := by decide +kernel
theorem i176_121 : ins 176 121 = some (.bipush (30), 123, 0, 30) := by decide +kernel
theorem i176_123 : ins 176 123 = some (.invokevirtual 276, 126, 163, 0) := by decide +kernel
theorem i176_126 : ins 176 126 = some (.goto (-114), 129, 12, 0) := by decide +kernel
theorem i176_129 : ins 176 129 = some (.aload_n 0, 130, 0, 0) := by decide +kernel
theorem i176_130 : ins 176 130 = some (.getfield 82, 133, 12, 36) := by decide +kernel
theorem i176_133 : ins 176 133 = some (.aload_n 0, 134, 0, 0) := by decide +kernel
theorem i176_134 : ins 176 134 = some (.getfield 237, 137, 12, 35) := by decide +kernel
theorem i176_137 : ins 176 137 = some (.iconst (0), 138, 0, 0) := by decide +kernel
theorem i176_138 : ins 176 138 = some (.bastore, 139, 0, 0) := by decide +kernel
theorem i176_139 : ins 176 139 = some (.aload_n 0, 140, 0, 0) := by decide +kernel
theorem i176_140 : ins 176 140 = some (.invokevirtual 291, 143, 177, 0) := by decide +kernel
theorem i176_143 : ins 176 143 = some (.aload_n 0, 144, 0, 0) := by decide +kernel
theorem i176_144 : ins 176 144 = some (.iconst (4), 145, 0, 4) := by decide +kernel
theorem i176_145 : ins 176 145 = some (.invokevirtual 276, 148, 163, 0) := by decide +kernel
theorem i176_148 : ins 176 148 = some (.aload_n 0, 149, 0, 0) := by decide +kernel
theorem i176_149 : ins 176 149 = some (.getfield 198, 152, 12, 13) := by decide +kernel
theorem i176_152 : ins 176 152 = some (.ifCond .gt (7), 155, 159, 0) := by decide +kernel
theorem i176_155 : ins 176 155 = some (.iload_n 1, 156, 0, 0) := by decide +kernel
theorem i176_156 : ins 176 156 = some (.ifCond .ge (4), 159, 160, 0) := by decide +kernel
theorem i176_159 : ins 176 159 = some (.return_, 160, 0, 0) := by decide +kernel
theorem i176_160 : ins 176 160 = some (.aload_n 0, 161, 0, 0) := by decide +kernel
theorem i176_161 : ins 176 161 = some (.getfield 76, 164, 12, 33) := by decide +kernel
theorem i176_164 : ins 176 164 = some (.bipush (10), 166, 0, 10) := by decide +kernel
theorem i176_166 : ins 176 166 = some (.aload_n 0, 167, 0, 0) := by decide +kernel
theorem i176_167 : ins 176 167 = some (.getfield 231, 170, 12, 19) := by decide +kernel
theorem i176_170 : ins 176 170 = some (.imul, 171, 0, 0) := by decide +kernel
theorem i176_171 : ins 176 171 = some (.iload_n 1, 172, 0, 0) := by decide +kernel
theorem i176_172 : ins 176 172 = some (.iadd, 173, 0, 0) := by decide +kernel
theorem i176_173 : ins 176 173 = some (.iload_n 2, 174, 0, 0) := by decide +kernel
theorem i176_174 : ins 176 174 = some (.iastore, 175, 0, 0) := by decide +kernel
theorem i176_175 : ins 176 175 = some (.aload_n 0, 176, 0, 0) := by decide +kernel
theorem i176_176 : ins 176 176 = some (.getfield 79, 179, 12, 34) := by decide +kernel
theorem i176_179 : ins 176 179 = some (.bipush (10), 181, 0, 10) := by decide +kernel
theorem i176_181 : ins 176 181 = some (.aload_n 0, 182, 0, 0) := by decide +kernel
theorem i176_182 : ins 176 182 = some (.getfield 231, 185, 12, 19) := by decide +kernel
theorem i176_185 : ins 176 185 = some (.imul, 186, 0, 0) := by decide +kernel
theorem i176_186 : ins 176 186 = some (.iload_n 1, 187, 0, 0) := by decide +kernel
theorem i176_187 : ins 176 187 = some (.iadd, 188, 0, 0) := by decide +kernel
theorem i176_188 : ins 176 188 = some (.aload_n 0, 189, 0, 0) := by decide +kernel
theorem i176_189 : ins 176 189 = some (.getfield 237, 192, 12, 35) := by decide +kernel
theorem i176_192 : ins 176 192 = some (.iastore, 193, 0, 0) := by decide +kernel
theorem i176_193 : ins 176 193 = some (.return_, 194, 0, 0) := by decide +kernel
theorem i177_0 : ins 177 0 = some (.aload_n 0, 1, 0, 0) := by decide +kernel
theorem i177_1 : ins 177 1 = some (.getfield 92, 4, 12, 39) := by decide +kernel
theorem i177_4 : ins 177 4 = some (.aload_n 0, 5, 0, 0) := by decide +kernel
theorem i177_5 : ins 177 5 = some (.getfield 237, 8, 12, 35) := by decide +kernel
theorem i177_8 : ins 177 8 = some (.aload_n 0, 9, 0, 0) := by decide +kernel
theorem i177_9 : ins 177 9 = some (.getfield 240, 12, 12, 41) := by decide +kernel
theorem i177_12 : ins 177 12 = some (.iastore, 13, 0, 0) := by decide +kernel
theorem i177_13 : ins 177 13 = some (.aload_n 0, 14, 0, 0) := by decide +kernel
theorem i177_14 : ins 177 14 = some (.getfield 198, 17, 12, 13) := by decide +kernel
theorem i177_17 : ins 177 17 = some (.ifCond .ne (7), 20, 24, 0) := by decide +kernel
theorem i177_20 : ins 177 20 = some (.aload_n 0, 21, 0, 0) := by decide +kernel
theorem i177_21 : ins 177 21 = some (.invokevirtual 288, 24, 180, 0) := by decide +kernel
theorem i177_24 : ins 177 24 = some (.aload_n 0, 25, 0, 0) := by decide +kernel
theorem i177_25 : ins 177 25 = some (.getfield 95, 28, 12, 40) := by decide +kernel
theorem i177_28 : ins 177 28 = some (.aload_n 0, 29, 0, 0) := by decide +kernel
theorem i177_29 : ins 177 29 = some (.getfield 237, 32, 12, 35) := by decide +kernel
theorem i177_32 : ins 177 32 = some (.aload_n 0, 33, 0, 0) := by decide +kernel
theorem i177_33 : ins 177 33 = some (.getfield 240, 36, 12, 41) := by decide +kernel
theorem i177_36 : ins 177 36 = some (.iastore, 37, 0, 0) := by decide +kernel
theorem i177_37 : ins 177 37 = some (.aload_n 0, 38, 0, 0) := by decide +kernel
theorem i177_38 : ins 177 38 = some (.dup, 39, 0, 0) := by decide +kernel
theorem i177_39 : ins 177 39 = some (.getfield 237, 42, 12, 35) := by decide +kernel
theorem i177_42 : ins 177 42 = some (.iconst (1), 43, 0, 1) := by decide +kernel
theorem i177_43 : ins 177 43 = some (.iadd, 44, 0, 0) := by decide +kernel
theorem i177_44 : ins 177 44 = some (.putfield 237, 47, 12, 35) := by decide +kernel
theorem i177_47 : ins 177 47 = some (.return_, 48, 0, 0) := by decide +kernel
theorem i178_0 : ins 178 0 = some (.aload_n 0, 1, 0, 0) := by decide +kernel
theorem i178_1 : ins 178 1 = some (.getfield 98, 4, 12, 42) := by decide +kernel
theorem i178_4 : ins 178 4 = some (.aload_n 0, 5, 0, 0) := by decide +kernel
theorem i178_5 : ins 178 5 = some (.getfield 240, 8, 12, 41) := by decide +kernel
theorem i178_8 : ins 178 8 = some (.iload_n 1, 9, 0, 0) := by decide +kernel
theorem i178_9 : ins 178 9 = some (.iastore, 10, 0, 0) := by decide +kernel
theorem i178_10 : ins 178 10 = some (.aload_n 0, 11, 0, 0) := by decide +kernel
theorem i178_11 : ins 178 11 = some (.getfield 101, 14, 12, 43) := by decide +kernel
theorem i178_14 : ins 178 14 = some (.aload_n 0, 15, 0, 0) := by decide +kernel
theorem i178_15 : ins 178 15 = some (.getfield 240, 18, 12, 41) := by decide +kernel
theorem i178_18 : ins 178 18 = some (.iload_n 2, 19, 0, 0) := by decide +kernel
theorem i178_19 : ins 178 19 = some (.iastore, 20, 0, 0) := by decide +kernel
theorem i178_20 : ins 178 20 = some (.aload_n 0, 21, 0, 0) := by decide +kernel
theorem i178_21 : ins 178 21 = some (.dup, 22, 0, 0) := by decide +kernel
theorem i178_22 : ins 178 22 = some (.getfield 240, 25, 12, 41) := by decide +kernel
theorem i178_25 : ins 178 25 = some (.iconst (1), 26, 0, 1) := by decide +kernel
theorem i178_26 : ins 178 26 = some (.iadd, 27, 0, 0) := by decide +kernel
theorem i178_27 : ins 178 27 = some (.putfield 240, 30, 12, 41) := by decide +kernel
theorem i178_30 : ins 178 30 = some (.return_, 31, 0, 0) := by decide +kernel
theorem i179_0 : ins 179 0 = some (.aload_n 0, 1, 0, 0) := by decide +kernel
theorem i179_1 : ins 179 1 = some (.getfield 294, 4, 12, 45) := by decide +kernel
theorem i179_4 : ins 179 4 = some (.ifCond .le (87), 7, 91, 0) := by decide +kernel
theorem i179_7 : ins 179 7 = some (.aload_n 0, 8, 0, 0) := by decide +kernel
theorem i179_8 : ins 179 8 = some (.getfield 104, 11, 12, 44) := by decide +kernel
theorem i179_11 : ins 179 11 = some (.aload_n 0, 12, 0, 0) := by decide +kernel
theorem i179_12 : ins 179 12 = some (.getfield 294, 15, 12, 45) := by decide +kernel
theorem i179_15 : ins 179 15 = some (.iconst (1), 16, 0, 1) := by decide +kernel
theorem i179_16 : ins 179 16 = some (.isub, 17, 0, 0) := by decide +kernel
theorem i179_17 : ins 179 17 = some (.iaload, 18, 0, 0) := by decide +kernel
theorem i179_18 : ins 179 18 = some (.istore_n 2, 19, 0, 0) := by decide +kernel
theorem i179_19 : ins 179 19 = some (.iload_n 2, 20, 0, 0) := by decide +kernel
theorem i179_20 : ins 179 20 = some (.bipush (6), 22, 0, 6) := by decide +kernel
theorem i179_22 : ins 179 22 = some (.if_icmp .eq (19), 25, 41, 0) := by decide +kernel
theorem i179_25 : ins 179 25 = some (.iload_n 1, 26, 0, 0) := by decide +kernel
theorem i179_26 : ins 179 26 = some (.ifCond .eq (16), 29, 42, 0) := by decide +kernel
theorem i179_29 : ins 179 29 = some (.iload_n 2, 30, 0, 0) := by decide +kernel
theorem i179_30 : ins 179 30 = some (.bipush (8), 32, 0, 8) := by decide +kernel
theorem i179_32 : ins 179 32 = some (.if_icmp .eq (9), 35, 41, 0) := by decide +kernel
theorem i179_35 : ins 179 35 = some (.iload_n 2, 36, 0, 0) := by decide +kernel
theorem i179_36 : ins 179 36 = some (.bipush (9), 38, 0, 9) := by decide +kernel
theorem i179_38 : ins 179 38 = some (.if_icmp .ne (4), 41, 42, 0) := by decide +kernel
theorem i179_41 : ins 179 41 = some (.return_, 42, 0, 0) := by decide +kernel
theorem i179_42 : ins 179 42 = some (.aload_n 0, 43, 0, 0) := by decide +kernel
theorem i179_43 : ins 179 43 = some (.dup, 44, 0, 0) := by decide +kernel
theorem i179_44 : ins 179 44 = some (.getfield 294, 47, 12, 45) := by decide +kernel
theorem i179_47 : ins 179 47 = some (.iconst (1), 48, 0, 1) := by decide +kernel
theorem i179_48 : ins 179 48 = some (.isub, 49, 0, 0) := by decide +kernel
theorem i179_49 : ins 179 49 = some (.putfield 294, 52, 12, 45) := by decide +kernel
theorem i179_52 : ins 179 52 = some (.aload_n 0, 53, 0, 0) := by decide +kernel
theorem i179_53 : ins 179 53 = some (.iload_n 2, 54, 0, 0) := by decide +kernel
theorem i179_54 : ins 179 54 = some (.bipush (8), 56, 0, 8) := by decide +kernel
theorem i179_56 : ins 179 56 = some (.if_icmp .ne (7), 59, 63, 0) := by decide +kernel
theorem i179_59 : ins 179 59 = some (.iconst (2), 60, 0, 2) := by decide +kernel
theorem i179_60 : ins 179 60 = some (.goto (24), 63, 84, 0) := by decide +kernel
theorem i179_63 : ins 179 63 = some (.iload_n 2, 64, 0, 0) := by decide +kernel
theorem i179_64 : ins 179 64 = some (.bipush (9), 66, 0, 9) := by decide +kernel
theorem i179_66 : ins 179 66 = some (.if_icmp .ne (7), 69, 73, 0) := by decide +kernel
theorem i179_69 : ins 179 69 = some (.iconst (3), 70, 0, 3) := by decide +kernel
theorem i179_70 : ins 179 70 = some (.goto (14), 73, 84, 0) := by decide +kernel
theorem i179_73 : ins 179 73 = some (.iload_n 2, 74, 0, 0) := by decide +kernel
theorem i179_74 : ins 179 74 = some (.bipush (10), 76, 0, 10) := by decide +kernel
theorem i179_76 : ins 179 76 = some (.if_icmp .ne (7), 79, 83, 0) := by decide +kernel
theorem i179_79 : ins 179 79 = some (.iconst (4), 80, 0, 4) := by decide +kernel
theorem i179_80 : ins 179 80 = some (.goto (4), 83, 84, 0) := by decide +kernel
theorem i179_83 : ins 179 83 = some (.iconst (5), 84, 0, 5) := by decide +kernel
theorem i179_84 : ins 179 84 = some (.iconst (0), 85, 0, 0) := by decide +kernel
theorem i179_85 : ins 179 85 = some (.invokevirtual 297, 88, 178, 0) := by decide +kernel
theorem i179_88 : ins 179 88 = some (.goto (-88), 91, 0, 0) := by decide +kernel
theorem i179_91 : ins 179 91 = some (.return_, 92, 0, 0) := by decide +kernel
theorem i180_0 : ins 180 0 = some (.aload_n 0, 1, 0, 0) := by decide +kernel
theorem i180_1 : ins 180 1 = some (.iconst (0), 2, 0, 0) := by decide +kernel
theorem i180_2 : ins 180 2 = some (.putfield 294, 5, 12, 45) := by decide +kernel
theorem i180_5 : ins 180 5 = some (.aload_n 0, 6, 0, 0) := by decide +kernel
theorem i180_6 : ins 180 6 = some (.getfield 225, 9, 12, 12) := by decide +kernel
theorem i180_9 : ins 180 9 = some (.istore_n 1, 10, 0, 0) := by decide +kernel
theorem i180_10 : ins 180 10 = some (.iconst (1), 11, 0, 1) := by decide +kernel
theorem i180_11 : ins 180 11 = some (.istore_n 2, 12, 0, 0) := by decide +kernel
theorem i180_12 : ins 180 12 = some (.iload_n 2, 13, 0, 0) := by decide +kernel
theorem i180_13 : ins 180 13 = some (.ifCond .eq (259), 16, 272, 0) := by decide +kernel
theorem i180_16 : ins 180 16 = some (.aload_n 0, 17, 0, 0) := by decide +kernel
theorem i180_17 : ins 180 17 = some (.getfield 198, 20, 12, 13) := by decide +kernel
theorem i180_20 : ins 180 20 = some (.ifCond .ne (252), 23, 272, 0) := by decide +kernel
theorem i180_23 : ins 180 23 = some (.aload_n 0, 24, 0, 0) := by decide +kernel
theorem i180_24 : ins 180 24 = some (.bipush (6), 26, 0, 6) := by decide +kernel
theorem i180_26 : ins 180 26 = some (.invokevirtual 216, 29, 159, 0) := by decide +kernel
theorem i180_29 : ins 180 29 = some (.ifCond .eq (55), 32, 84, 0) := by decide +kernel
theorem i180_32 : ins 180 32 = some (.aload_n 0, 33, 0, 0) := by decide +kernel
theorem i180_33 : ins 180 33 = some (.getfield 225, 36, 12, 12) := by decide +kernel
theorem i180_36 : ins 180 36 = some (.bipush (6), 38, 0, 6) := by decide +kernel
theorem i180_38 : ins 180 38 = some (.if_icmp .ne (8), 41, 46, 0) := by decide +kernel
theorem i180_41 : ins 180 41 = some (.aload_n 0, 42, 0, 0) := by decide +kernel
theorem i180_42 : ins 180 42 = some (.iconst (2), 43, 0, 2) := by decide +kernel
theorem i180_43 : ins 180 43 = some (.invokevirtual 213, 46, 160, 0) := by decide +kernel
theorem i180_46 : ins 180 46 = some (.aload_n 0, 47, 0, 0) := by decide +kernel
theorem i180_47 : ins 180 47 = some (.dup, 48, 0, 0) := by decide +kernel
theorem i180_48 : ins 180 48 = some (.getfield 225, 51, 12, 12) := by decide +kernel
theorem i180_51 : ins 180 51 = some (.iconst (1), 52, 0, 1) := by decide +kernel
theorem i180_52 : ins 180 52 = some (.iadd, 53, 0, 0) := by decide +kernel
theorem i180_53 : ins 180 53 = some (.putfield 225, 56, 12, 12) := by decide +kernel
theorem i180_56 : ins 180 56 = some (.aload_n 0, 57, 0, 0) := by decide +kernel
theorem i180_57 : ins 180 57 = some (.invokevirtual 219, 60, 162, 0) := by decide +kernel
theorem i180_60 : ins 180 60 = some (.aload_n 0, 61, 0, 0) := by decide +kernel
theorem i180_61 : ins 180 61 = some (.getfield 104, 64, 12, 44) := by decide +kernel
theorem i180_64 : ins 180 64 = some (.aload_n 0, 65, 0, 0) := by decide +kernel
theorem i180_65 : ins 180 65 = some (.getfield 294, 68, 12, 45) := by decide +kernel
theorem i180_68 : ins 180 68 = some (.bipush (6), 70, 0, 6) := by decide +kernel
theorem i180_70 : ins 180 70 = some (.iastore, 71, 0, 0) := by decide +kernel
theorem i180_71 : ins 180 71 = some (.aload_n 0, 72, 0, 0) := by decide +kernel
theorem i180_72 : ins 180 72 = some (.dup, 73, 0, 0) := by decide +kernel
theorem i180_73 : ins 180 73 = some (.getfield 294, 76, 12, 45) := by decide +kernel
theorem i180_76 : ins 180 76 = some (.iconst (1), 77, 0, 1) := by decide +kernel
theorem i180_77 : ins 180 77 = some (.iadd, 78, 0, 0) := by decide +kernel
theorem i180_78 : ins 180 78 = some (.putfield 294, 81, 12, 45) := by decide +kernel
theorem i180_81 : ins 180 81 = some (.goto (-58), 84, 23, 0) := by decide +kernel
theorem i180_84 : ins 180 84 = some (.aload_n 0, 85, 0, 0) := by decide +kernel
theorem i180_85 : ins 180 85 = some (.invokevirtual 300, 88, 181, 0) := by decide +kernel
theorem i180_88 : ins 180 88 = some (.aload_n 0, 89, 0, 0) := by decide +kernel
theorem i180_89 : ins 180 89 = some (.getfield 198, 92, 12, 13) := by decide +kernel
theorem i180_92 : ins 180 92 = some (.ifCond .le (4), 95, 96, 0) := by decide +kernel
theorem i180_95 : ins 180 95 = some (.return_, 96, 0, 0) := by decide +kernel
theorem i180_96 : ins 180 96 = some (.aload_n 0, 97, 0, 0) := by decide +kernel
theorem i180_97 : ins 180 97 = some (.bipush (7), 99, 0, 7) := by decide +kernel
theorem i180_99 : ins 180 99 = some (.invokevirtual 216, 102, 159, 0) := by decide +kernel
theorem i180_102 : ins 180 102 = some (.ifCond .eq (43), 105, 145, 0) := by decide +kernel
theorem i180_105 : ins 180 105 = some (.aload_n 0, 106, 0, 0) := by decide +kernel
theorem i180_106 : ins 180 106 = some (.getfield 225, 109, 12, 12) := by decide +kernel
theorem i180_109 : ins 180 109 = some (.iload_n 1, 110, 0, 0) := by decide +kernel
theorem i180_110 : ins 180 110 = some (.if_icmp .le (35), 113, 145, 0) := by decide +kernel
theorem i180_113 : ins 180 113 = some (.aload_n 0, 114, 0, 0) := by decide +kernel
theorem i180_114 : ins 180 114 = some (.iconst (0), 115, 0, 0) := by decide +kernel
theorem i180_115 : ins 180 115 = some (.invokevirtual 303, 118, 179, 0) := by decide +kernel
theorem i180_118 : ins 180 118 = some (.aload_n 0, 119, 0, 0) := by decide +kernel
theorem i180_119 : ins 180 119 = some (.dup, 120, 0, 0) := by decide +kernel
theorem i180_120 : ins 180 120 = some (.getfield 294, 123, 12, 45) := by decide +kernel
theorem i180_123 : ins 180 123 = some (.iconst (1), 124, 0, 1) := by decide +kernel
theorem i180_124 : ins 180 124 = some (.isub, 125, 0, 0) := by decide +kernel
theorem i180_125 : ins 180 125 = some (.putfield 294, 128, 12, 45) := by decide +kernel
theorem i180_128 : ins 180 128 = some (.aload_n 0, 129, 0, 0) := by decide +kernel
theorem i180_129 : ins 180 129 = some (.dup, 130, 0, 0) := by decide +kernel
theorem i180_130 : ins 180 130 = some (.getfield 225, 133, 12, 12) := by decide +kernel
theorem i180_133 : ins 180 133 = some (.iconst (1), 134, 0, 1) := by decide +kernel
theorem i180_134 : ins 180 134 = some (.isub, 135, 0, 0) := by decide +kernel
theorem i180_135 : ins 180 135 = some (.putfield 225, 138, 12, 12) := by decide +kernel
theorem i180_138 : ins 180 138 = some (.aload_n 0, 139, 0, 0) := by decide +kernel
theorem i180_139 : ins 180 139 = some (.invokevirtual 219, 142, 162, 0) := by decide +kernel
theorem i180_142 : ins 180 142 = some (.goto (-46), 145, 96, 0) := by decide +kernel
theorem i180_145 : ins 180 145 = some (.aload_n 0, 146, 0, 0) := by decide +kernel
theorem i180_146 : ins 180 146 = some (.bipush (8), 148, 0, 8) := by decide +kernel
theorem i180_148 : ins 180 148 = some (.invokevirtual 216, 151, 159, 0) := by decide +kernel
theorem i180_151 : ins 180 151 = some (.ifCond .ne (30), 154, 181, 0) := by decide +kernel
theorem i180_154 : ins 180 154 = some (.aload_n 0, 155, 0, 0) := by decide +kernel
theorem i180_155 : ins 180 155 = some (.bipush (9), 157, 0, 9) := by decide +kernel
theorem i180_157 : ins 180 157 = some (.invokevirtual 216, 160, 159, 0) := by decide +kernel
theorem i180_160 : ins 180 160 = some (.ifCond .ne (21), 163, 181, 0) := by decide +kernel
theorem i180_163 : ins 180 163 = some (.aload_n 0, 164, 0, 0) := by decide +kernel
theorem i180_164 : ins 180 164 = some (.bipush (10), 166, 0, 10) := by decide +kernel
theorem i180_166 : ins 180 166 = some (.invokevirtual 216, 169, 159, 0) := by decide +kernel
theorem i180_169 : ins 180 169 = some (.ifCond .ne (12), 172, 181, 0) := by decide +kernel
theorem i180_172 : ins 180 172 = some (.aload_n 0, 173, 0, 0) := by decide +kernel
theorem i180_173 : ins 180 173 = some (.bipush (15), 175, 0, 15) := by decide +kernel
theorem i180_175 : ins 180 175 = some (.invokevirtual 216, 178, 159, 0) := by decide +kernel
theorem i180_178 : ins 180 178 = some (.ifCond .eq (7), 181, 185, 0) := by decide +kernel
theorem i180_181 : ins 180 181 = some (.iconst (1), 182, 0, 1) := by decide +kernel
theorem i180_182 : ins 180 182 = some (.goto (4), 185, 186, 0) := by decide +kernel
theorem i180_185 : ins 180 185 = some (.iconst (0), 186, 0, 0) := by decide +kernel
theorem i180_186 : ins 180 186 = some (.istore_n 2, 187, 0, 0) := by decide +kernel
theorem i180_187 : ins 180 187 = some (.iload_n 2, 188, 0, 0) := by decide +kernel
theorem i180_188 : ins 180 188 = some (.ifCond .ne (22), 191, 210, 0) := by decide +kernel
theorem i180_191 : ins 180 191 = some (.aload_n 0, 192, 0, 0) := by decide +kernel
theorem i180_192 : ins 180 192 = some (.getfield 225, 195, 12, 12) := by decide +kernel
theorem i180_195 : ins 180 195 = some (.iload_n 1, 196, 0, 0) := by decide +kernel
theorem i180_196 : ins 180 196 = some (.if_icmp .le (8), 199, 204, 0) := by decide +kernel
theorem i180_199 : ins 180 199 = some (.aload_n 0, 200, 0, 0) := by decide +kernel
theorem i180_200 : ins 180 200 = some (.iconst (1), 201, 0, 1) := by decide +kernel
theorem i180_201 : ins 180 201 = some (.invokevirtual 213, 204, 160, 0) := by decide +kernel
theorem i180_204 : ins 180 204 = some (.aload_n 0, 205, 0, 0) := by decide +kernel
theorem i180_205 : ins 180 205 = some (.iconst (0), 206, 0, 0) := by decide +kernel
theorem i180_206 : ins 180 206 = some (.invokevirtual 303, 209, 179, 0) := by decide +kernel
theorem i180_209 : ins 180 209 = some (.return_, 210, 0, 0) := by decide +kernel
theorem i180_210 : ins 180 210 = some (.aload_n 0, 211, 0, 0) := by decide +kernel
theorem i180_211 : ins 180 211 = some (.aload_n 0, 212, 0, 0) := by decide +kernel
theorem i180_212 : ins 180 212 = some (.bipush (10), 214, 0, 10) := by decide +kernel
theorem i180_214 : ins 180 214 = some (.invokevirtual 216, 217, 159, 0) := by decide +kernel
theorem i180_217 : ins 180 217 = some (.ifCond .ne (12), 220, 229, 0) := by decide +kernel
theorem i180_220 : ins 180 220 = some (.aload_n 0, 221, 0, 0) := by decide +kernel
theorem i180_221 : ins 180 221 = some (.bipush (15), 223, 0, 15) := by decide +kernel
theorem i180_223 : ins 180 223 = some (.invokevirtual 216, 226, 159, 0) := by decide +kernel
theorem i180_226 : ins 180 226 = some (.ifCond .eq (7), 229, 233, 0) := by decide +kernel
theorem i180_229 : ins 180 229 = some (.iconst (1), 230, 0, 1) := by decide +kernel
theorem i180_230 : ins 180 230 = some (.goto (4), 233, 234, 0) := by decide +kernel
theorem i180_233 : ins 180 233 = some (.iconst (0), 234, 0, 0) := by decide +kernel
theorem i180_234 : ins 180 234 = some (.invokevirtual 303, 237, 179, 0) := by decide +kernel
theorem i180_237 : ins 180 237 = some (.aload_n 0, 238, 0, 0) := by decide +kernel
theorem i180_238 : ins 180 238 = some (.getfield 104, 241, 12, 44) := by decide +kernel
theorem i180_241 : ins 180 241 = some (.aload_n 0, 242, 0, 0) := by decide +kernel
theorem i180_242 : ins 180 242 = some (.getfield 294, 245, 12, 45) := by decide +kernel
theorem i180_245 : ins 180 245 = some (.aload_n 0, 246, 0, 0) := by decide +kernel
theorem i180_246 : ins 180 246 = some (.getfield 20, 249, 12, 5) := by decide +kernel
theorem i180_249 : ins 180 249 = some (.aload_n 0, 250, 0, 0) := by decide +kernel
theorem i180_250 : ins 180 250 = some (.getfield 201, 253, 12, 11) := by decide +kernel
theorem i180_253 : ins 180 253 = some (.iaload, 254, 0, 0) := by decide +kernel
theorem i180_254 : ins 180 254 = some (.iastore, 255, 0, 0) := by decide +kernel
theorem i180_255 : ins 180 255 = some (.aload_n 0, 256, 0, 0) := by decide +kernel
theorem i180_256 : ins 180 256 = some (.dup, 257, 0, 0) := by decide +kernel
theorem i180_257 : ins 180 257 = some (.getfield 294, 260, 12, 45) := by decide +kernel
theorem i180_260 : ins 180 260 = some (.iconst (1), 261, 0, 1) := by decide +kernel
theorem i180_261 : ins 180 261 = some (.iadd, 262, 0, 0) := by decide +kernel
theorem i180_262 : ins 180 262 = some (.putfield 294, 265, 12, 45) := by decide +kernel
theorem i180_265 : ins 180 265 = some (.aload_n 0, 266, 0, 0) := by decide +kernel
theorem i180_266 : ins 180 266 = some (.invokevirtual 219, 269, 162, 0) := by decide +kernel
theorem i180_269 : ins 180 269 = some (.goto (-257), 272, 12, 0) := by decide +kernel
theorem i180_272 : ins 180 272 = some (.return_, 273, 0, 0) := by decide +kernel
theorem i181_0 : ins 181 0 = some (.aload_n 0, 1, 0, 0) := by decide +kernel
theorem i181_1 : ins 181 1 = some (.iconst (2), 2, 0, 2) := by decide +kernel
theorem i181_2 : ins 181 2 = some (.invokevirtual 216, 5, 159, 0) := by decide +kernel
theorem i181_5 : ins 181 5 = some (.ifCond .eq (24), 8, 29, 0) := by decide +kernel
theorem i181_8 : ins 181 8 = some (.aload_n 0, 9, 0, 0) := by decide +kernel
theorem i181_9 : ins 181 9 = some (.iconst (0), 10, 0, 0) := by decide +kernel
theorem i181_10 : ins 181 10 = some (.aload_n 0, 11, 0, 0) := by decide +kernel
theorem i181_11 : ins 181 11 = some (.getfield 27, 14, 12, 7) := by decide +kernel
theorem i181_14 : ins 181 14 = some (.aload_n 0, 15, 0, 0) := by decide +kernel
theorem i181_15 : ins 181 15 = some (.getfield 201, 18, 12, 11) := by decide +kernel
theorem i181_18 : ins 181 18 = some (.iaload, 19, 0, 0) := by decide +kernel
theorem i181_19 : ins 181 19 = some (.invokevirtual 297, 22, 178, 0) := by decide +kernel
theorem i181_22 : ins 181 22 = some (.aload_n 0, 23, 0, 0) := by decide +kernel
theorem i181_23 : ins 181 23 = some (.invokevirtual 219, 26, 162, 0) := by decide +kernel
theorem i181_26 : ins 181 26 = some (.goto (104), 29, 130, 0) := by decide +kernel
theorem i181_29 : ins 181 29 = some (.aload_n 0, 30, 0, 0) := by decide +kernel
theorem i181_30 : ins 181 30 = some (.getfield 198, 33, 12, 13) := by decide +kernel
theorem i181_33 : ins 181 33 = some (.ifCond .ne (92), 36, 125, 0) := by decide +kernel
theorem i181_36 : ins 181 36 = some (.aload_n 0, 37, 0, 0) := by decide +kernel
theorem i181_37 : ins 181 37 = some (.getfield 20, 40, 12, 5) := by decide +kernel
theorem i181_40 : ins 181 40 = some (.aload_n 0, 41, 0, 0) := by decide +kernel
theorem i181_41 : ins 181 41 = some (.getfield 201, 44, 12, 11) := by decide +kernel
theorem i181_44 : ins 181 44 = some (.iaload, 45, 0, 0) := by decide +kernel
theorem i181_45 : ins 181 45 = some (.bipush (31), 47, 0, 31) := by decide +kernel
theorem i181_47 : ins 181 47 = some (.if_icmp .lt (17), 50, 64, 0) := by decide +kernel
theorem i181_50 : ins 181 50 = some (.aload_n 0, 51, 0, 0) := by decide +kernel
theorem i181_51 : ins 181 51 = some (.getfield 20, 54, 12, 5) := by decide +kernel
theorem i181_54 : ins 181 54 = some (.aload_n 0, 55, 0, 0) := by decide +kernel
theorem i181_55 : ins 181 55 = some (.getfield 201, 58, 12, 11) := by decide +kernel
theorem i181_58 : ins 181 58 = some (.iaload, 59, 0, 0) := by decide +kernel
theorem i181_59 : ins 181 59 = some (.bipush (36), 61, 0, 36) := by decide +kernel
theorem i181_61 : ins 181 61 = some (.if_icmp .le (12), 64, 73, 0) := by decide +kernel
theorem i181_64 : ins 181 64 = some (.aload_n 0, 65, 0, 0) := by decide +kernel
theorem i181_65 : ins 181 65 = some (.bipush (20), 67, 0, 20) := by decide +kernel
theorem i181_67 : ins 181 67 = some (.invokevirtual 216, 70, 159, 0) := by decide +kernel
theorem i181_70 : ins 181 70 = some (.ifCond .eq (55), 73, 125, 0) := by decide +kernel
theorem i181_73 : ins 181 73 = some (.aload_n 0, 74, 0, 0) := by decide +kernel
theorem i181_74 : ins 181 74 = some (.iconst (1), 75, 0, 1) := by decide +kernel
theorem i181_75 : ins 181 75 = some (.aload_n 0, 76, 0, 0) := by decide +kernel
theorem i181_76 : ins 181 76 = some (.bipush (20), 78, 0, 20) := by decide +kernel
theorem i181_78 : ins 181 78 = some (.invokevirtual 216, 81, 159, 0) := by decide +kernel
theorem i181_81 : ins 181 81 = some (.ifCond .eq (7), 84, 88, 0) := by decide +kernel
theorem i181_84 : ins 181 84 = some (.iconst (1), 85, 0, 1) := by decide +kernel
theorem i181_85 : ins 181 85 = some (.goto (30), 88, 115, 0) := by decide +kernel
theorem i181_88 : ins 181 88 = some (.aload_n 0, 89, 0, 0) := by decide +kernel
theorem i181_89 : ins 181 89 = some (.bipush (31), 91, 0, 31) := by decide +kernel
theorem i181_91 : ins 181 91 = some (.invokevirtual 216, 94, 159, 0) := by decide +kernel
theorem i181_94 : ins 181 94 = some (.ifCond .eq (7), 97, 101, 0) := by decide +kernel
theorem i181_97 : ins 181 97 = some (.iconst (0), 98, 0, 0) := by decide +kernel
theorem i181_98 : ins 181 98 = some (.goto (17), 101, 115, 0) := by decide +kernel
theorem i181_101 : ins 181 101 = some (.aload_n 0, 102, 0, 0) := by decide +kernel
theorem i181_102 : ins 181 102 = some (.getfield 20, 105, 12, 5) := by decide +kernel
theorem i181_105 : ins 181 105 = some (.aload_n 0, 106, 0, 0) := by decide +kernel
theorem i181_106 : ins 181 106 = some (.getfield 201, 109, 12, 11) := by decide +kernel
theorem i181_109 : ins 181 109 = some (.iaload, 110, 0, 0) := by decide +kernel
theorem i181_110 : ins 181 110 = some (.bipush (32), 112, 0, 32) := by decide +kernel
theorem i181_112 : ins 181 112 = some (.isub, 113, 0, 0) := by decide +kernel
theorem i181_113 : ins 181 113 = some (.iconst (2), 114, 0, 2) := by decide +kernel
theorem i181_114 : ins 181 114 = some (.iadd, 115, 0, 0) := by decide +kernel
theorem i181_115 : ins 181 115 = some (.invokevirtual 297, 118, 178, 0) := by decide +kernel
theorem i181_118 : ins 181 118 = some (.aload_n 0, 119, 0, 0) := by decide +kernel
theorem i181_119 : ins 181 119 = some (.invokevirtual 219, 122, 162, 0) := by decide +kernel
theorem i181_122 : ins 181 122 = some (.goto (8), 125, 130, 0) := by decide +kernel
theorem i181_125 : ins 181 125 = some (.aload_n 0, 126, 0, 0) := by decide +kernel
theorem i181_126 : ins 181 126 = some (.iconst (1), 127, 0, 1) := by decide +kernel
theorem i181_127 : ins 181 127 = some (.invokevirtual 213, 130, 160, 0) := by decide +kernel
theorem i181_130 : ins 181 130 = some (.return_, 131, 0, 0) := by decide +kernel
theorem i182_0 : ins 182 0 = some (.iconst (0), 1, 0, 0) := by decide +kernel
theorem i182_1 : ins 182 1 = some (.istore_n 3, 2, 0, 0) := by decide +kernel
theorem i182_2 : ins 182 2 = some (.iload_n 1, 3, 0, 0) := by decide +kernel
theorem i182_3 : ins 182 3 = some (.istore 4, 5, 0, 0) := by decide +kernel
theorem i182_5 : ins 182 5 = some (.iload 4, 7, 0, 0) := by decide +kernel
theorem i182_7 : ins 182 7 = some (.iload_n 2, 8, 0, 0) := by decide +kernel
theorem i182_8 : ins 182 8 = some (.if_icmp .ge (157), 11, 165, 0) := by decide +kernel
theorem i182_11 : ins 182 11 = some (.aload_n 0, 12, 0, 0) := by decide +kernel
theorem i182_12 : ins 182 12 = some (.getfield 98, 15, 12, 42) := by decide +kernel
theorem i182_15 : ins 182 15 = some (.iload 4, 17, 0, 0) := by decide +kernel
theorem i182_17 : ins 182 17 = some (.iaload, 18, 0, 0) := by decide +kernel
theorem i182_18 : ins 182 18 = some (.istore 5, 20, 0, 0) := by decide +kernel
theorem i182_20 : ins 182 20 = some (.iload 5, 22, 0, 0) := by decide +kernel
theorem i182_22 : ins 182 22 = some (.iconst (2), 23, 0, 2) := by decide +kernel
theorem i182_23 : ins 182 23 = some (.if_icmp .ge (42), 26, 65, 0) := by decide +kernel
theorem i182_26 : ins 182 26 = some (.aload_n 0, 27, 0, 0) := by decide +kernel
theorem i182_27 : ins 182 27 = some (.getfield 110, 30, 12, 47) := by decide +kernel
theorem i182_30 : ins 182 30 = some (.iload_n 3, 31, 0, 0) := by decide +kernel
theorem i182_31 : ins 182 31 = some (.iload 5, 33, 0, 0) := by decide +kernel
theorem i182_33 : ins 182 33 = some (.ifCond .ne (13), 36, 46, 0) := by decide +kernel
theorem i182_36 : ins 182 36 = some (.aload_n 0, 37, 0, 0) := by decide +kernel
theorem i182_37 : ins 182 37 = some (.getfield 101, 40, 12, 43) := by decide +kernel
theorem i182_40 : ins 182 40 = some (.iload 4, 42, 0, 0) := by decide +kernel
theorem i182_42 : ins 182 42 = some (.iaload, 43, 0, 0) := by decide +kernel
theorem i182_43 : ins 182 43 = some (.goto (15), 46, 58, 0) := by decide +kernel
theorem i182_46 : ins 182 46 = some (.aload_n 0, 47, 0, 0) := by decide +kernel
theorem i182_47 : ins 182 47 = some (.getfield 107, 50, 12, 46) := by decide +kernel
theorem i182_50 : ins 182 50 = some (.aload_n 0, 51, 0, 0) := by decide +kernel
theorem i182_51 : ins 182 51 = some (.getfield 101, 54, 12, 43) := by decide +kernel
theorem i182_54 : ins 182 54 = some (.iload 4, 56, 0, 0) := by decide +kernel
theorem i182_56 : ins 182 56 = some (.iaload, 57, 0, 0) := by decide +kernel
theorem i182_57 : ins 182 57 = some (.iaload, 58, 0, 0) := by decide +kernel
theorem i182_58 : ins 182 58 = some (.iastore, 59, 0, 0) := by decide +kernel
theorem i182_59 : ins 182 59 = some (.iinc 3 (1), 62, 0, 1) := by decide +kernel
theorem i182_62 : ins 182 62 = some (.goto (97), 65, 159, 0) := by decide +kernel
theorem i182_65 : ins 182 65 = some (.iinc 3 (-1), 68, 0, -1) := by decide +kernel
theorem i182_68 : ins 182 68 = some (.aload_n 0, 69, 0, 0) := by decide +kernel
theorem i182_69 : ins 182 69 = some (.getfield 110, 72, 12, 47) := by decide +kernel
theorem i182_72 : ins 182 72 = some (.iload_n 3, 73, 0, 0) := by decide +kernel
theorem i182_73 : ins 182 73 = some (.iconst (1), 74, 0, 1) := by decide +kernel
theorem i182_74 : ins 182 74 = some (.isub, 75, 0, 0) := by decide +kernel
theorem i182_75 : ins 182 75 = some (.iaload, 76, 0, 0) := by decide +kernel
theorem i182_76 : ins 182 76 = some (.istore 6, 78, 0, 0) := by decide +kernel
theorem i182_78 : ins 182 78 = some (.aload_n 0, 79, 0, 0) := by decide +kernel
theorem i182_79 : ins 182 79 = some (.getfield 110, 82, 12, 47) := by decide +kernel
theorem i182_82 : ins 182 82 = some (.iload_n 3, 83, 0, 0) := by decide +kernel
theorem i182_83 : ins 182 83 = some (.iaload, 84, 0, 0) := by decide +kernel
theorem i182_84 : ins 182 84 = some (.istore 7, 86, 0, 0) := by decide +kernel
theorem i182_86 : ins 182 86 = some (.iload 5, 88, 0, 0) := by decide +kernel
theorem i182_88 : ins 182 88 = some (.iconst (5), 89, 0, 5) := by decide +kernel
theorem i182_89 : ins 182 89 = some (.if_icmp .ne (15), 92, 104, 0) := by decide +kernel
theorem i182_92 : ins 182 92 = some (.iload 7, 94, 0, 0) := by decide +kernel
theorem i182_94 : ins 182 94 = some (.ifCond .ne (10), 97, 104, 0) := by decide +kernel
theorem i182_97 : ins 182 97 = some (.aload_n 0, 98, 0, 0) := by decide +kernel
theorem i182_98 : ins 182 98 = some (.iconst (1), 99, 0, 1) := by decide +kernel
theorem i182_99 : ins 182 99 = some (.putfield 307, 102, 12, 48) := by decide +kernel
theorem i182_102 : ins 182 102 = some (.iconst (0), 103, 0, 0) := by decide +kernel
theorem i182_103 : ins 182 103 = some (.ireturn, 104, 0, 0) := by decide +kernel
theorem i182_104 : ins 182 104 = some (.aload_n 0, 105, 0, 0) := by decide +kernel
theorem i182_105 : ins 182 105 = some (.getfield 110, 108, 12, 47) := by decide +kernel
theorem i182_108 : ins 182 108 = some (.iload_n 3, 109, 0, 0) := by decide +kernel
theorem i182_109 : ins 182 109 = some (.iconst (1), 110, 0, 1) := by decide +kernel
theorem i182_110 : ins 182 110 = some (.isub, 111, 0, 0) := by decide +kernel
theorem i182_111 : ins 182 111 = some (.iload 5, 113, 0, 0) := by decide +kernel
theorem i182_113 : ins 182 113 = some (.iconst (2), 114, 0, 2) := by decide +kernel
theorem i182_114 : ins 182 114 = some (.if_icmp .ne (11), 117, 125, 0) := by decide +kernel
theorem i182_117 : ins 182 117 = some (.iload 6, 119, 0, 0) := by decide +kernel
theorem i182_119 : ins 182 119 = some (.iload 7, 121, 0, 0) := by decide +kernel
theorem i182_121 : ins 182 121 = some (.iadd, 122, 0, 0) := by decide +kernel
theorem i182_122 : ins 182 122 = some (.goto (36), 125, 158, 0) := by decide +kernel
theorem i182_125 : ins 182 125 = some (.iload 5, 127, 0, 0) := by decide +kernel
theorem i182_127 : ins 182 127 = some (.iconst (3), 128, 0, 3) := by decide +kernel
theorem i182_128 : ins 182 128 = some (.if_icmp .ne (11), 131, 139, 0) := by decide +kernel
theorem i182_131 : ins 182 131 = some (.iload 6, 133, 0, 0) := by decide +kernel
theorem i182_133 : ins 182 133 = some (.iload 7, 135, 0, 0) := by decide +kernel
theorem i182_135 : ins 182 135 = some (.isub, 136, 0, 0) := by decide +kernel
theorem i182_136 : ins 182 136 = some (.goto (22), 139, 158, 0) := by decide +kernel
theorem i182_139 : ins 182 139 = some (.iload 5, 141, 0, 0) := by decide +kernel
theorem i182_141 : ins 182 141 = some (.iconst (4), 142, 0, 4) := by decide +kernel
theorem i182_142 : ins 182 142 = some (.if_icmp .ne (11), 145, 153, 0) := by decide +kernel
theorem i182_145 : ins 182 145 = some (.iload 6, 147, 0, 0) := by decide +kernel
theorem i182_147 : ins 182 147 = some (.iload 7, 149, 0, 0) := by decide +kernel
theorem i182_149 : ins 182 149 = some (.imul, 150, 0, 0) := by decide +kernel
theorem i182_150 : ins 182 150 = some (.goto (8), 153, 158, 0) := by decide +kernel
theorem i182_153 : ins 182 153 = some (.iload 6, 155, 0, 0) := by decide +kernel
theorem i182_155 : ins 182 155 = some (.iload 7, 157, 0, 0) := by decide +kernel
theorem i182_157 : ins 182 157 = some (.idiv, 158, 0, 0) := by decide +kernel
theorem i182_158 : ins 182 158 = some (.iastore, 159, 0, 0) := by decide +kernel
theorem i182_159 : ins 182 159 = some (.iinc 4 (1), 162, 0, 1) := by decide +kernel
theorem i182_162 : ins 182 162 = some (.goto (-157), 165, 5, 0) := by decide +kernel
theorem i182_165 : ins 182 165 = some (.aload_n 0, 166, 0, 0) := by decide +kernel
theorem i182_166 : ins 182 166 = some (.getfield 110, 169, 12, 47) := by decide +kernel
theorem i182_169 : ins 182 169 = some (.iconst (0), 170, 0, 0) := by decide +kernel
theorem i182_170 : ins 182 170 = some (.iaload, 171, 0, 0) := by decide +kernel
theorem i182_171 : ins 182 171 = some (.ireturn, 172, 0, 0) := by decide +kernel
theorem i183_0 : ins 183 0 = some (.iload_n 0, 1, 0, 0) := by decide +kernel
theorem i183_1 : ins 183 1 = some (.iload_n 1, 2, 0, 0) := by decide +kernel
theorem i183_2 : ins 183 2 = some (.if_icmp .lt (12), 5, 14, 0) := by decide +kernel
theorem i183_5 : ins 183 5 = some (.iload_n 0, 6, 0, 0) := by decide +kernel
theorem i183_6 : ins 183 6 = some (.iload_n 2, 7, 0, 0) := by decide +kernel
theorem i183_7 : ins 183 7 = some (.if_icmp .gt (7), 10, 14, 0) := by decide +kernel
theorem i183_10 : ins 183 10 = some (.iconst (1), 11, 0, 1) := by decide +kernel
theorem i183_11 : ins 183 11 = some (.goto (4), 14, 15, 0) := by decide +kernel
theorem i183_14 : ins 183 14 = some (.iconst (0), 15, 0, 0) := by decide +kernel
theorem i183_15 : ins 183 15 = some (.ireturn, 16, 0, 0) := by decide +kernel
theorem i184_0 : ins 184 0 = some (.iload_n 1, 1, 0, 0) := by decide +kernel
theorem i184_1 : ins 184 1 = some (.iconst (0), 2, 0, 0) := by decide +kernel
theorem i184_2 : ins 184 2 = some (.aload_n 0, 3, 0, 0) := by decide +kernel
theorem i184_3 : ins 184 3 = some (.getfield 46, 6, 12, 23) := by decide +kernel
theorem i184_6 : ins 184 6 = some (.aload_n 0, 7, 0, 0) := by decide +kernel
theorem i184_7 : ins 184 7 = some (.getfield 228, 10, 12, 18) := by decide +kernel
theorem i184_10 : ins 184 10 = some (.iaload, 11, 0, 0) := by decide +kernel
theorem i184_11 : ins 184 11 = some (.iconst (1), 12, 0, 1) := by decide +kernel
theorem i184_12 : ins 184 12 = some (.isub, 13, 0, 0) := by decide +kernel
theorem i184_13 : ins 184 13 = some (.invokestatic 311, 16, 183, 0) := by decide +kernel
theorem i184_16 : ins 184 16 = some (.ireturn, 17, 0, 0) := by decide +kernel
theorem i185_0 : ins 185 0 = some (.iload_n 1, 1, 0, 0) := by decide +kernel
theorem i185_1 : ins 185 1 = some (.iconst (0), 2, 0, 0) := by decide +kernel
theorem i185_2 : ins 185 2 = some (.aload_n 0, 3, 0, 0) := by decide +kernel
theorem i185_3 : ins 185 3 = some (.getfield 52, 6, 12, 25) := by decide +kernel
theorem i185_6 : ins 185 6 = some (.aload_n 0, 7, 0, 0) := by decide +kernel
theorem i185_7 : ins 185 7 = some (.getfield 228, 10, 12, 18) := by decide +kernel
theorem i185_10 : ins 185 10 = some (.iaload, 11, 0, 0) := by decide +kernel
theorem i185_11 : ins 185 11 = some (.iconst (1), 12, 0, 1) := by decide +kernel
theorem i185_12 : ins 185 12 = some (.isub, 13, 0, 0) := by decide +kernel
theorem i185_13 : ins 185 13 = some (.invokestatic 311, 16, 183, 0) := by decide +kernel
theorem i185_16 : ins 185 16 = some (.ireturn, 17, 0, 0) := by decide +kernel
theorem i186_0 : ins 186 0 = some (.iload_n 1, 1, 0, 0) := by decide +kernel
theorem i186_1 : ins 186 1 = some (.iconst (0), 2, 0, 0) := by decide +kernel
theorem i186_2 : ins 186 2 = some (.aload_n 0, 3, 0, 0) := by decide +kernel
theorem i186_3 : ins 186 3 = some (.getfield 64, 6, 12, 29) := by decide +kernel
theorem i186_6 : ins 186 6 = some (.aload_n 0, 7, 0, 0) := by decide +kernel
theorem i186_7 : ins 186 7 = some (.getfield 228, 10, 12, 18) := by decide +kernel
theorem i186_10 : ins 186 10 = some (.iaload, 11, 0, 0) := by decide +kernel
theorem i186_11 : ins 186 11 = some (.iconst (1), 12, 0, 1) := by decide +kernel
theorem i186_12 : ins 186 12 = some (.isub, 13, 0, 0) := by decide +kernel
theorem i186_13 : ins 186 13 = some (.invokestatic 311, 16, 183, 0) := by decide +kernel
theorem i186_16 : ins 186 16 = some (.ireturn, 17, 0, 0) := by decide +kernel
theorem i188_0 : ins 188 0 = some (.aload_n 0, 1, 0, 0) := by decide +kernel
theorem i188_1 : ins 188 1 = some (.aload_n 0, 2, 0, 0) := by decide +kernel
theorem i188_2 : ins 188 2 = some (.getfield 73, 5, 12, 32) := by decide +kernel
theorem i188_5 : ins 188 5 = some (.aload_n 0, 6, 0, 0) := by decide +kernel
theorem i188_6 : ins 188 6 = some (.getfield 228, 9, 12, 18) := by decide +kernel
theorem i188_9 : ins 188 9 = some (.iaload, 10, 0, 0) := by decide +kernel
theorem i188_10 : ins 188 10 = some (.putfield 315, 13, 12, 51) := by decide +kernel
theorem i188_13 : ins 188 13 = some (.aload_n 0, 14, 0, 0) := by decide +kernel
theorem i188_14 : ins 188 14 = some (.iconst (-1), 15, 0, -1) := by decide +kernel
theorem i188_15 : ins 188 15 = some (.putfield 318, 18, 12, 52) := by decide +kernel
theorem i188_18 : ins 188 18 = some (.aload_n 0, 19, 0, 0) := by decide +kernel
theorem i188_19 : ins 188 19 = some (.iconst (-1), 20, 0, -1) := by decide +kernel
theorem i188_20 : ins 188 20 = some (.putfield 321, 23, 12, 53) := by decide +kernel
theorem i188_23 : ins 188 23 = some (.aload_n 0, 24, 0, 0) := by decide +kernel
theorem i188_24 : ins 188 24 = some (.iconst (-1), 25, 0, -1) := by decide +kernel
theorem i188_25 : ins 188 25 = some (.putfield 324, 28, 12, 54) := by decide +kernel
theorem i188_28 : ins 188 28 = some (.aload_n 0, 29, 0, 0) := by decide +kernel
theorem i188_29 : ins 188 29 = some (.iconst (-1), 30, 0, -1) := by decide +kernel
theorem i188_30 : ins 188 30 = some (.putfield 327, 33, 12, 55) := by decide +kernel
theorem i188_33 : ins 188 33 = some (.return_, 34, 0, 0) := by decide +kernel
theorem i189_0 : ins 189 0 = some (.iconst (0), 1, 0, 0) := by decide +kernel
theorem i189_1 : ins 189 1 = some (.istore_n 1, 2, 0, 0) := by decide +kernel
theorem i189_2 : ins 189 2 = some (.iload_n 1, 3, 0, 0) := by decide +kernel
theorem i189_3 : ins 189 3 = some (.bipush (60), 5, 0, 60) := by decide +kernel
theorem i189_5 : ins 189 5 = some (.if_icmp .ge (21), 8, 26, 0) := by decide +kernel
theorem i189_8 : ins 189 8 = some (.aload_n 0, 9, 0, 0) := by decide +kernel
theorem i189_9 : ins 189 9 = some (.getfield 116, 12, 12, 50) := by decide +kernel
theorem i189_12 : ins 189 12 = some (.iload_n 1, 13, 0, 0) := by decide +kernel
theorem i189_13 : ins 189 13 = some (.aload_n 0, 14, 0, 0) := by decide +kernel
theorem i189_14 : ins 189 14 = some (.getfield 113, 17, 12, 49) := by decide +kernel
theorem i189_17 : ins 189 17 = some (.iload_n 1, 18, 0, 0) := by decide +kernel
theorem i189_18 : ins 189 18 = some (.iaload, 19, 0, 0) := by decide +kernel
theorem i189_19 : ins 189 19 = some (.iastore, 20, 0, 0) := by decide +kernel
theorem i189_20 : ins 189 20 = some (.iinc 1 (1), 23, 0, 1) := by decide +kernel
theorem i189_23 : ins 189 23 = some (.goto (-21), 26, 2, 0) := by decide +kernel
theorem i189_26 : ins 189 26 = some (.aload_n 0, 27, 0, 0) := by decide +kernel
theorem i189_27 : ins 189 27 = some (.invokevirtual 330, 30, 188, 0) := by decide +kernel
theorem i189_30 : ins 189 30 = some (.return_, 31, 0, 0) := by decide +kernel
theorem i190_0 : ins 190 0 = some (.iconst (0), 1, 0, 0) := by decide +kernel
theorem i190_1 : ins 190 1 = some (.istore_n 1, 2, 0, 0) := by decide +kernel
theorem i190_2 : ins 190 2 = some (.iload_n 1, 3, 0, 0) := by decide +kernel
theorem i190_3 : ins 190 3 = some (.sipush (2860), 6, 0, 2860) := by decide +kernel
theorem i190_6 : ins 190 6 = some (.if_icmp .ge (21), 9, 27, 0) := by decide +kernel
theorem i190_9 : ins 190 9 = some (.aload_n 0, 10, 0, 0) := by decide +kernel
theorem i190_10 : ins 190 10 = some (.getfield 116, 13, 12, 50) := by decide +kernel
theorem i190_13 : ins 190 13 = some (.iload_n 1, 14, 0, 0) := by decide +kernel
theorem i190_14 : ins 190 14 = some (.aload_n 0, 15, 0, 0) := by decide +kernel
theorem i190_15 : ins 190 15 = some (.getfield 113, 18, 12, 49) := by decide +kernel
theorem i190_18 : ins 190 18 = some (.iload_n 1, 19, 0, 0) := by decide +kernel
theorem i190_19 : ins 190 19 = some (.iaload, 20, 0, 0) := by decide +kernel
theorem i190_20 : ins 190 20 = some (.iastore, 21, 0, 0) := by decide +kernel
theorem i190_21 : ins 190 21 = some (.iinc 1 (1), 24, 0, 1) := by decide +kernel
theorem i190_24 : ins 190 24 = some (.goto (-22), 27, 2, 0) := by decide +kernel
theorem i190_27 : ins 190 27 = some (.aload_n 0, 28, 0, 0) := by decide +kernel
theorem i190_28 : ins 190 28 = some (.invokevirtual 330, 31, 188, 0) := by decide +kernel
theorem i190_31 : ins 190 31 = some (.return_, 32, 0, 0) := by decide +kernel
theorem i191_0 : ins 191 0 = some (.iload_n 0, 1, 0, 0) := by decide +kernel
theorem i191_1 : ins 191 1 = some (.iload_n 1, 2, 0, 0) := by decide +kernel
theorem i191_2 : ins 191 2 = some (.ixor, 3, 0, 0) := by decide +kernel
theorem i191_3 : ins 191 3 = some (.ldc_w 333, 6, 0, 1103515245) := by decide +kernel
theorem i191_6 : ins 191 6 = some (.imul, 7, 0, 0) := by decide +kernel
theorem i191_7 : ins 191 7 = some (.sipush (12345), 10, 0, 12345) := by decide +kernel
theorem i191_10 : ins 191 10 = some (.iadd, 11, 0, 0) := by decide +kernel
theorem i191_11 : ins 191 11 = some (.istore_n 2, 12, 0, 0) := by decide +kernel
theorem i191_12 : ins 191 12 = some (.iload_n 2, 13, 0, 0) := by decide +kernel
theorem i191_13 : ins 191 13 = some (.iload_n 2, 14, 0, 0) := by decide +kernel
theorem i191_14 : ins 191 14 = some (.bipush (15), 16, 0, 15) := by decide +kernel
theorem i191_16 : ins 191 16 = some (.iushr, 17, 0, 0) := by decide +kernel
theorem i191_17 : ins 191 17 = some (.ixor, 18, 0, 0) := by decide +kernel
theorem i191_18 : ins 191 18 = some (.ireturn, 19, 0, 0) := by decide +kernel
theorem i192_0 : ins 192 0 = some (.iload_n 0, 1, 0, 0) := by decide +kernel
theorem i192_1 : ins 192 1 = some (.bipush (27), 3, 0, 27) := by decide +kernel
theorem i192_3 : ins 192 3 = some (.invokestatic 334, 6, 191, 0) := by decide +kernel
theorem i192_6 : ins 192 6 = some (.iload_n 1, 7, 0, 0) := by decide +kernel
theorem i192_7 : ins 192 7 = some (.invokestatic 334, 10, 191, 0) := by decide +kernel
theorem i192_10 : ins 192 10 = some (.iconst (1), 11, 0, 1) := by decide +kernel
theorem i192_11 : ins 192 11 = some (.iushr, 12, 0, 0) := by decide +kernel
theorem i192_12 : ins 192 12 = some (.iload_n 2, 13, 0, 0) := by decide +kernel
theorem i192_13 : ins 192 13 = some (.irem, 14, 0, 0) := by decide +kernel
theorem i192_14 : ins 192 14 = some (.ireturn, 15, 0, 0) := by decide +kernel
theorem i193_0 : ins 193 0 = some (.iload_n 0, 1, 0, 0) := by decide +kernel
theorem i193_1 : ins 193 1 = some (.iload_n 1, 2, 0, 0) := by decide +kernel
theorem i193_2 : ins 193 2 = some (.if_icmp .ge (9), 5, 11, 0) := by decide +kernel
theorem i193_5 : ins 193 5 = some (.iload_n 1, 6, 0, 0) := by decide +kernel
theorem i193_6 : ins 193 6 = some (.iload_n 0, 7, 0, 0) := by decide +kernel
theorem i193_7 : ins 193 7 = some (.isub, 8, 0, 0) := by decide +kernel
theorem i193_8 : ins 193 8 = some (.goto (6), 11, 14, 0) := by decide +kernel
theorem i193_11 : ins 193 11 = some (.iload_n 0, 12, 0, 0) := by decide +kernel
theorem i193_12 : ins 193 12 = some (.iload_n 1, 13, 0, 0) := by decide +kernel
theorem i193_13 : ins 193 13 = some (.isub, 14, 0, 0) := by decide +kernel
theorem i193_14 : ins 193 14 = some (.ireturn, 15, 0, 0) := by decide +kernel
theorem i194_0 : ins 194 0 = some (.aload_n 0, 1, 0, 0) := by decide +kernel
theorem i194_1 : ins 194 1 = some (.getfield 116, 4, 12, 50) := by decide +kernel
theorem i194_4 : ins 194 4 = some (.bipush (6), 6, 0, 6) := by decide +kernel
theorem i194_6 : ins 194 6 = some (.bipush (6), 8, 0, 6) := by decide +kernel
theorem i194_8 : ins 194 8 = some (.iload_n 1, 9, 0, 0) := by decide +kernel
theorem i194_9 : ins 194 9 = some (.imul, 10, 0, 0) := by decide +kernel
theorem i194_10 : ins 194 10 = some (.iadd, 11, 0, 0) := by decide +kernel
theorem i194_11 : ins 194 11 = some (.iload_n 2, 12, 0, 0) := by decide +kernel
theorem i194_12 : ins 194 12 = some (.iadd, 13, 0, 0) := by decide +kernel
theorem i194_13 : ins 194 13 = some (.iaload, 14, 0, 0) := by decide +kernel
theorem i194_14 : ins 194 14 = some (.ireturn, 15, 0, 0) := by decide +kernel
theorem i195_0 : ins 195 0 = some (.aload_n 0, 1, 0, 0) := by decide +kernel
theorem i195_1 : ins 195 1 = some (.getfield 58, 4, 12, 27) := by decide +kernel
theorem i195_4 : ins 195 4 = some (.bipush (6), 6, 0, 6) := by decide +kernel
theorem i195_6 : ins 195 6 = some (.aload_n 0, 7, 0, 0) := by decide +kernel
theorem i195_7 : ins 195 7 = some (.getfield 228, 10, 12, 18) := by decide +kernel
theorem i195_10 : ins 195 10 = some (.imul, 11, 0, 0) := by decide +kernel
theorem i195_11 : ins 195 11 = some (.iload_n 1, 12, 0, 0) := by decide +kernel
theorem i195_12 : ins 195 12 = some (.iadd, 13, 0, 0) := by decide +kernel
theorem i195_13 : ins 195 13 = some (.iaload, 14, 0, 0) := by decide +kernel
theorem i195_14 : ins 195 14 = some (.istore_n 3, 15, 0, 0) := by decide +kernel
theorem i195_15 : ins 195 15 = some (.aload_n 0, 16, 0, 0) := by decide +kernel
theorem i195_16 : ins 195 16 = some (.iload_n 1, 17, 0, 0) := by decide +kernel
theorem i195_17 : ins 195 17 = some (.iload_n 2, 18, 0, 0) := by decide +kernel
theorem i195_18 : ins 195 18 = some (.invokevirtual 337, 21, 194, 0) := by decide +kernel
theorem i195_21 : ins 195 21 = some (.aload_n 0, 22, 0, 0) := by decide +kernel
theorem i195_22 : ins 195 22 = some (.getfield 315, 25, 12, 51) := by decide +kernel
theorem i195_25 : ins 195 25 = some (.bipush (36), 27, 0, 36) := by decide +kernel
theorem i195_27 : ins 195 27 = some (.aload_n 0, 28, 0, 0) := by decide +kernel
theorem i195_28 : ins 195 28 = some (.getfield 116, 31, 12, 50) := by decide +kernel
theorem i195_31 : ins 195 31 = some (.bipush (42), 33, 0, 42) := by decide +kernel
theorem i195_33 : ins 195 33 = some (.iaload, 34, 0, 0) := by decide +kernel
theorem i195_34 : ins 195 34 = some (.imul, 35, 0, 0) := by decide +kernel
theorem i195_35 : ins 195 35 = some (.bipush (6), 37, 0, 6) := by decide +kernel
theorem i195_37 : ins 195 37 = some (.iload_n 1, 38, 0, 0) := by decide +kernel
theorem i195_38 : ins 195 38 = some (.imul, 39, 0, 0) := by decide +kernel
theorem i195_39 : ins 195 39 = some (.iadd, 40, 0, 0) := by decide +kernel
theorem i195_40 : ins 195 40 = some (.iload_n 2, 41, 0, 0) := by decide +kernel
theorem i195_41 : ins 195 41 = some (.iadd, 42, 0, 0) := by decide +kernel
theorem i195_42 : ins 195 42 = some (.iconst (2), 43, 0, 2) := by decide +kernel
theorem i195_43 : ins 195 43 = some (.iload_n 3, 44, 0, 0) := by decide +kernel
theorem i195_44 : ins 195 44 = some (.imul, 45, 0, 0) := by decide +kernel
theorem i195_45 : ins 195 45 = some (.iconst (1), 46, 0, 1) := by decide +kernel
theorem i195_46 : ins 195 46 = some (.iadd, 47, 0, 0) := by decide +kernel
theorem i195_47 : ins 195 47 = some (.invokestatic 340, 50, 192, 0) := by decide +kernel
theorem i195_50 : ins 195 50 = some (.iadd, 51, 0, 0) := by decide +kernel
theorem i195_51 : ins 195 51 = some (.iload_n 3, 52, 0, 0) := by decide +kernel
theorem i195_52 : ins 195 52 = some (.isub, 53, 0, 0) := by decide +kernel
theorem i195_53 : ins 195 53 = some (.istore 4, 55, 0, 0) := by decide +kernel
theorem i195_55 : ins 195 55 = some (.iload 4, 57, 0, 0) := by decide +kernel
theorem i195_57 : ins 195 57 = some (.ifCond .ge (7), 60, 64, 0) := by decide +kernel
theorem i195_60 : ins 195 60 = some (.iconst (0), 61, 0, 0) := by decide +kernel
theorem i195_61 : ins 195 61 = some (.goto (17), 64, 78, 0) := by decide +kernel
theorem i195_64 : ins 195 64 = some (.iload 4, 66, 0, 0) := by decide +kernel
theorem i195_66 : ins 195 66 = some (.bipush (99), 68, 0, 99) := by decide +kernel
theorem i195_68 : ins 195 68 = some (.if_icmp .le (8), 71, 76, 0) := by decide +kernel
theorem i195_71 : ins 195 71 = some (.bipush (99), 73, 0, 99) := by decide +kernel
theorem i195_73 : ins 195 73 = some (.goto (5), 76, 78, 0) := by decide +kernel
theorem i195_76 : ins 195 76 = some (.iload 4, 78, 0, 0) := by decide +kernel
theorem i195_78 : ins 195 78 = some (.ireturn, 79, 0, 0) := by decide +kernel
theorem i196_0 : ins 196 0 = some (.bipush (10), 2, 0, 10) := by decide +kernel
theorem i196_2 : ins 196 2 = some (.aload_n 0, 3, 0, 0) := by decide +kernel
theorem i196_3 : ins 196 3 = some (.getfield 228, 6, 12, 18) := by decide +kernel
theorem i196_6 : ins 196 6 = some (.imul, 7, 0, 0) := by decide +kernel
theorem i196_7 : ins 196 7 = some (.iload_n 1, 8, 0, 0) := by decide +kernel
theorem i196_8 : ins 196 8 = some (.iadd, 9, 0, 0) := by decide +kernel
theorem i196_9 : ins 196 9 = some (.istore_n 2, 10, 0, 0) := by decide +kernel
theorem i196_10 : ins 196 10 = some (.aload_n 0, 11, 0, 0) := by decide +kernel
theorem i196_11 : ins 196 11 = some (.iconst (0), 12, 0, 0) := by decide +kernel
theorem i196_12 : ins 196 12 = some (.putfield 307, 15, 12, 48) := by decide +kernel
theorem i196_15 : ins 196 15 = some (.aload_n 0, 16, 0, 0) := by decide +kernel
theorem i196_16 : ins 196 16 = some (.getfield 76, 19, 12, 33) := by decide +kernel
theorem i196_19 : ins 196 19 = some (.iload_n 2, 20, 0, 0) := by decide +kernel
theorem i196_20 : ins 196 20 = some (.iaload, 21, 0, 0) := by decide +kernel
theorem i196_21 : ins 196 21 = some (.istore_n 3, 22, 0, 0) := by decide +kernel
theorem i196_22 : ins 196 22 = some (.iload_n 3, 23, 0, 0) := by decide +kernel
theorem i196_23 : ins 196 23 = some (.aload_n 0, 24, 0, 0) := by decide +kernel
theorem i196_24 : ins 196 24 = some (.getfield 79, 27, 12, 34) := by decide +kernel
theorem i196_27 : ins 196 27 = some (.iload_n 2, 28, 0, 0) := by decide +kernel
theorem i196_28 : ins 196 28 = some (.iaload, 29, 0, 0) := by decide +kernel
theorem i196_29 : ins 196 29 = some (.if_icmp .ge (105), 32, 134, 0) := by decide +kernel
theorem i196_32 : ins 196 32 = some (.aload_n 0, 33, 0, 0) := by decide +kernel
theorem i196_33 : ins 196 33 = some (.getfield 82, 36, 12, 36) := by decide +kernel
theorem i196_36 : ins 196 36 = some (.iload_n 3, 37, 0, 0) := by decide +kernel
theorem i196_37 : ins 196 37 = some (.baload, 38, 0, 0) := by decide +kernel
theorem i196_38 : ins 196 38 = some (.ifCond .eq (58), 41, 96, 0) := by decide +kernel
theorem i196_41 : ins 196 41 = some (.aload_n 0, 42, 0, 0) := by decide +kernel
theorem i196_42 : ins 196 42 = some (.aload_n 0, 43, 0, 0) := by decide +kernel
theorem i196_43 : ins 196 43 = some (.getfield 86, 46, 12, 37) := by decide +kernel
theorem i196_46 : ins 196 46 = some (.iload_n 3, 47, 0, 0) := by decide +kernel
theorem i196_47 : ins 196 47 = some (.iaload, 48, 0, 0) := by decide +kernel
theorem i196_48 : ins 196 48 = some (.aload_n 0, 49, 0, 0) := by decide +kernel
theorem i196_49 : ins 196 49 = some (.getfield 89, 52, 12, 38) := by decide +kernel
theorem i196_52 : ins 196 52 = some (.iload_n 3, 53, 0, 0) := by decide +kernel
theorem i196_53 : ins 196 53 = some (.iaload, 54, 0, 0) := by decide +kernel
theorem i196_54 : ins 196 54 = some (.invokevirtual 343, 57, 182, 0) := by decide +kernel
theorem i196_57 : ins 196 57 = some (.istore 4, 59, 0, 0) := by decide +kernel
theorem i196_59 : ins 196 59 = some (.aload_n 0, 60, 0, 0) := by decide +kernel
theorem i196_60 : ins 196 60 = some (.aload_n 0, 61, 0, 0) := by decide +kernel
theorem i196_61 : ins 196 61 = some (.getfield 89, 64, 12, 38) := by decide +kernel
theorem i196_64 : ins 196 64 = some (.iload_n 3, 65, 0, 0) := by decide +kernel
theorem i196_65 : ins 196 65 = some (.iaload, 66, 0, 0) := by decide +kernel
theorem i196_66 : ins 196 66 = some (.aload_n 0, 67, 0, 0) := by decide +kernel
theorem i196_67 : ins 196 67 = some (.getfield 92, 70, 12, 39) := by decide +kernel
theorem i196_70 : ins 196 70 = some (.iload_n 3, 71, 0, 0) := by decide +kernel
theorem i196_71 : ins 196 71 = some (.iaload, 72, 0, 0) := by decide +kernel
theorem i196_72 : ins 196 72 = some (.invokevirtual 343, 75, 182, 0) := by decide +kernel
theorem i196_75 : ins 196 75 = some (.istore 5, 77, 0, 0) := by decide +kernel
theorem i196_77 : ins 196 77 = some (.aload_n 0, 78, 0, 0) := by decide +kernel
theorem i196_78 : ins 196 78 = some (.getfield 307, 81, 12, 48) := by decide +kernel
theorem i196_81 : ins 196 81 = some (.ifCond .eq (5), 84, 86, 0) := by decide +kernel
theorem i196_84 : ins 196 84 = some (.iconst (0), 85, 0, 0) := by decide +kernel
theorem i196_85 : ins 196 85 = some (.ireturn, 86, 0, 0) := by decide +kernel
theorem i196_86 : ins 196 86 = some (.iload 4, 88, 0, 0) := by decide +kernel
theorem i196_88 : ins 196 88 = some (.iload 5, 90, 0, 0) := by decide +kernel
theorem i196_90 : ins 196 90 = some (.if_icmp .lt (6), 93, 96, 0) := by decide +kernel
theorem i196_93 : ins 196 93 = some (.goto (35), 96, 128, 0) := by decide +kernel
theorem i196_96 : ins 196 96 = some (.aload_n 0, 97, 0, 0) := by decide +kernel
theorem i196_97 : ins 196 97 = some (.aload_n 0, 98, 0, 0) := by decide +kernel
theorem i196_98 : ins 196 98 = some (.getfield 92, 101, 12, 39) := by decide +kernel
theorem i196_101 : ins 196 101 = some (.iload_n 3, 102, 0, 0) := by decide +kernel
theorem i196_102 : ins 196 102 = some (.iaload, 103, 0, 0) := by decide +kernel
theorem i196_103 : ins 196 103 = some (.aload_n 0, 104, 0, 0) := by decide +kernel
theorem i196_104 : ins 196 104 = some (.getfield 95, 107, 12, 40) := by decide +kernel
theorem i196_107 : ins 196 107 = some (.iload_n 3, 108, 0, 0) := by decide +kernel
theorem i196_108 : ins 196 108 = some (.iaload, 109, 0, 0) := by decide +kernel
theorem i196_109 : ins 196 109 = some (.invokevirtual 343, 112, 182, 0) := by decide +kernel
theorem i196_112 : ins 196 112 = some (.istore 4, 114, 0, 0) := by decide +kernel
theorem i196_114 : ins 196 114 = some (.aload_n 0, 115, 0, 0) := by decide +kernel
theorem i196_115 : ins 196 115 = some (.getfield 307, 118, 12, 48) := by decide +kernel
theorem i196_118 : ins 196 118 = some (.ifCond .eq (7), 121, 125, 0) := by decide +kernel
theorem i196_121 : ins 196 121 = some (.iconst (0), 122, 0, 0) := by decide +kernel
theorem i196_122 : ins 196 122 = some (.goto (5), 125, 127, 0) := by decide +kernel
theorem i196_125 : ins 196 125 = some (.iload 4, 127, 0, 0) := by decide +kernel
theorem i196_127 : ins 196 127 = some (.ireturn, 128, 0, 0) := by decide +kernel
theorem i196_128 : ins 196 128 = some (.iinc 3 (1), 131, 0, 1) := by decide +kernel
theorem i196_131 : ins 196 131 = some (.goto (-109), 134, 22, 0) := by decide +kernel
theorem i196_134 : ins 196 134 = some (.iconst (0), 135, 0, 0) := by decide +kernel
theorem i196_135 : ins 196 135 = some (.ireturn, 136, 0, 0) := by decide +kernel
theorem i197_0 : ins 197 0 = some (.aload_n 0, 1, 0, 0) := by decide +kernel
theorem i197_1 : ins 197 1 = some (.getfield 107, 4, 12, 46) := by decide +kernel
theorem i197_4 : ins 197 4 = some (.iconst (0), 5, 0, 0) := by decide +kernel
theorem i197_5 : ins 197 5 = some (.iload_n 1, 6, 0, 0) := by decide +kernel
theorem i197_6 : ins 197 6 = some (.iastore, 7, 0, 0) := by decide +kernel
theorem i197_7 : ins 197 7 = some (.aload_n 0, 8, 0, 0) := by decide +kernel
theorem i197_8 : ins 197 8 = some (.getfield 107, 11, 12, 46) := by decide +kernel
theorem i197_11 : ins 197 11 = some (.iconst (1), 12, 0, 1) := by decide +kernel
theorem i197_12 : ins 197 12 = some (.iload_n 2, 13, 0, 0) := by decide +kernel
theorem i197_13 : ins 197 13 = some (.iastore, 14, 0, 0) := by decide +kernel
theorem i197_14 : ins 197 14 = some (.aload_n 0, 15, 0, 0) := by decide +kernel
theorem i197_15 : ins 197 15 = some (.getfield 107, 18, 12, 46) := by decide +kernel
theorem i197_18 : ins 197 18 = some (.iconst (2), 19, 0, 2) := by decide +kernel
theorem i197_19 : ins 197 19 = some (.aload_n 0, 20, 0, 0) := by decide +kernel
theorem i197_20 : ins 197 20 = some (.getfield 116, 23, 12, 50) := by decide +kernel
theorem i197_23 : ins 197 23 = some (.bipush (42), 25, 0, 42) := by decide +kernel
theorem i197_25 : ins 197 25 = some (.iaload, 26, 0, 0) := by decide +kernel
theorem i197_26 : ins 197 26 = some (.iastore, 27, 0, 0) := by decide +kernel
theorem i197_27 : ins 197 27 = some (.aload_n 0, 28, 0, 0) := by decide +kernel
theorem i197_28 : ins 197 28 = some (.getfield 107, 31, 12, 46) := by decide +kernel
theorem i197_31 : ins 197 31 = some (.iconst (3), 32, 0, 3) := by decide +kernel
theorem i197_32 : ins 197 32 = some (.iload_n 3, 33, 0, 0) := by decide +kernel
theorem i197_33 : ins 197 33 = some (.iastore, 34, 0, 0) := by decide +kernel
theorem i197_34 : ins 197 34 = some (.aload_n 0, 35, 0, 0) := by decide +kernel
theorem i197_35 : ins 197 35 = some (.getfield 107, 38, 12, 46) := by decide +kernel
theorem i197_38 : ins 197 38 = some (.iconst (4), 39, 0, 4) := by decide +kernel
theorem i197_39 : ins 197 39 = some (.iload 4, 41, 0, 0) := by decide +kernel
theorem i197_41 : ins 197 41 = some (.iastore, 42, 0, 0) := by decide +kernel
theorem i197_42 : ins 197 42 = some (.aload_n 0, 43, 0, 0) := by decide +kernel
theorem i197_43 : ins 197 43 = some (.getfield 107, 46, 12, 46) := by decide +kernel
theorem i197_46 : ins 197 46 = some (.iconst (5), 47, 0, 5) := by decide +kernel
theorem i197_47 : ins 197 47 = some (.iload 5, 49, 0, 0) := by decide +kernel
theorem i197_49 : ins 197 49 = some (.iastore, 50, 0, 0) := by decide +kernel
theorem i197_50 : ins 197 50 = some (.aload_n 0, 51, 0, 0) := by decide +kernel
theorem i197_51 : ins 197 51 = some (.getfield 107, 54, 12, 46) := by decide +kernel
theorem i197_54 : ins 197 54 = some (.bipush (6), 56, 0, 6) := by decide +kernel
theorem i197_56 : ins 197 56 = some (.iload 6, 58, 0, 0) := by decide +kernel
theorem i197_58 : ins 197 58 = some (.iastore, 59, 0, 0) := by decide +kernel
theorem i197_59 : ins 197 59 = some (.return_, 60, 0, 0) := by decide +kernel
def Mo_bounded_15 (a0 : Nat) (x1 : Int) (w : Wd) : Option (Int × Wd) :=
  (Mo_fail a0 1 w).bind fun r17 =>
  some (x1, r17)
theorem s_Mo_bounded_15 {g : Gp} {l : Launch} {D : Nat} (hD : 2 ≤ D) (a0 : Nat) (x1 : Int) (w : Wd) (r : Int × Wd) (h : Mo_bounded_15 a0 x1 w = some r) : Rn g l D 172 15 [(0, .inr (.inr a0)), (1, .inl x1)] [] w (some (.inl r.1)) r.2 := by
  obtain ⟨D, rfl⟩ : ∃ D1, D = D1 + 1 := ⟨D - 1, by omega⟩
  unfold Mo_bounded_15 at h
  refine fr_aload_n i172_15 rfl ?_
  refine rn_iconst i172_16 ?_
  obtain ⟨r17, h17, h⟩ := Option.bind_eq_some_iff.mp h
  obtain ⟨g17, c17⟩ := S_Mo_fail a0 1 w r17 h17
  refine fr_callV (a := a0) (As := [.inl 1]) (st := []) i172_17 (cq160 a0 1) rfl (Nat.le_of_ble_eq_true rfl) g17 (c17 _ (by omega)) ?_
  refine rn_iload_n i172_20 rfl ?_
  obtain rfl := Option.some.inj h
  exact rn_retI i172_21 mr172
def Mo_bounded_51 (a0 : Nat) (x3 : Int) (w : Wd) : Option (Int × Wd) :=
  (Mo_goesOn a0 w).bind fun r52 =>
  some (x3, r52)
theorem s_Mo_bounded_51 {g : Gp} {l : Launch} {D : Nat} (hD : 2 ≤ D) (a0 : Nat) (x3 : Int) (w : Wd) (r : Int × Wd) (h : Mo_bounded_51 a0 x3 w = some r) : Rn g l D 172 51 [(0, .inr (.inr a0)), (3, .inl x3)] [] w (some (.inl r.1)) r.2 := by
  obtain ⟨D, rfl⟩ : ∃ D1, D = D1 + 1 := ⟨D - 1, by omega⟩
  unfold Mo_bounded_51 at h
  refine fr_aload_n i172_51 rfl ?_
  obtain ⟨r52, h52, h⟩ := Option.bind_eq_some_iff.mp h
  obtain ⟨g52, c52⟩ := S_Mo_goesOn a0 w r52 h52
  refine fr_callV (a := a0) (As := []) (st := []) i172_52 (cq162 a0) rfl (Nat.le_of_ble_eq_true rfl) g52 (c52 _ (by omega)) ?_
  refine rn_iload_n i172_55 rfl ?_
  obtain rfl := Option.some.inj h
  exact rn_retI i172_56 mr172
def Mo_bounded_42 (a0 : Nat) (x3 : Int) (w : Wd) : Option (Int × Wd) :=
  (fgI w a0 12 11).bind fun v45 =>
  (Mo_wrong a0 5 v45 w).bind fun r48 =>
  Mo_bounded_51 a0 x3 r48
theorem s_Mo_bounded_42 {g : Gp} {l : Launch} {D : Nat} (hD : 2 ≤ D) (a0 : Nat) (x3 : Int) (w : Wd) (r : Int × Wd) (h : Mo_bounded_42 a0 x3 w = some r) : Rn g l D 172 42 [(0, .inr (.inr a0)), (3, .inl x3)] [] w (some (.inl r.1)) r.2 := by
  obtain ⟨D, rfl⟩ : ∃ D1, D = D1 + 1 := ⟨D - 1, by omega⟩
  unfold Mo_bounded_42 at h
  refine fr_aload_n i172_42 rfl ?_
  refine rn_iconst i172_43 ?_
  refine fr_aload_n i172_44 rfl ?_
  obtain ⟨v45, h45, h⟩ := Option.bind_eq_some_iff.mp h
  refine fr_gI (k := 11) i172_45 tf12_11 h45 ?_
  obtain ⟨r48, h48, h⟩ := Option.bind_eq_some_iff.mp h
  obtain ⟨g48, c48⟩ := S_Mo_wrong a0 5 v45 w r48 h48
  refine fr_callV (a := a0) (As := [.inl 5, .inl v45]) (st := []) i172_48 (cq161 a0 5 v45) rfl (Nat.le_of_ble_eq_true rfl) g48 (c48 _ (by omega)) ?_
  exact rn_sub [0, 1] rfl (s_Mo_bounded_51 hD a0 x3 r48 r h)
def Mo_bounded_0 (a0 : Nat) (x1 : Int) (x2 : Int) (w : Wd) : Option (Int × Wd) :=
  (fgI w a0 12 13).bind fun v1 =>
  if (0 : Int) < v1 then
    Mo_bounded_15 a0 x1 w
  else
    (Mo_is a0 2 w).bind fun r9 =>
    if (r9.1 : Int) = 0 then
      Mo_bounded_15 a0 x1 r9.2
    else
      (fgR r9.2 a0 12 7).bind fun v23 =>
      (fgI r9.2 a0 12 11).bind fun v27 =>
      (rdI r9.2 v23 v27).bind fun v30 =>
      if (v30 : Int) < x1 then
        Mo_bounded_42 a0 v30 r9.2
      else
        if (v30 : Int) ≤ x2 then
          Mo_bounded_51 a0 v30 r9.2
        else
          Mo_bounded_42 a0 v30 r9.2
theorem s_Mo_bounded_0 {g : Gp} {l : Launch} {D : Nat} (hD : 2 ≤ D) (a0 : Nat) (x1 : Int) (x2 : Int) (w : Wd) (r : Int × Wd) (h : Mo_bounded_0 a0 x1 x2 w = some r) : Rn g l D 172 0 [(0, .inr (.inr a0)), (1, .inl x1), (2, .inl x2)] [] w (some (.inl r.1)) r.2 := by
  obtain ⟨D, rfl⟩ : ∃ D1, D = D1 + 1 := ⟨D - 1, by omega⟩
  unfold Mo_bounded_0 at h
  refine fr_aload_n i172_0 rfl ?_
  obtain ⟨v1, h1, h⟩ := Option.bind_eq_some_iff.mp h
  refine fr_gI (k := 13) i172_1 tf12_13 h1 ?_
  by_cases c4 : (0 : Int) < v1
  · rw [if_pos c4] at h
    refine rn_if_gt_t i172_4 c4 ?_
    exact rn_sub [0, 1] rfl (s_Mo_bounded_15 hD a0 x1 w r h)
  · rw [if_neg c4] at h
    refine rn_if_gt_f i172_4 c4 ?_
    refine fr_aload_n i172_7 rfl ?_
    refine rn_iconst i172_8 ?_
    obtain ⟨r9, h9, h⟩ := Option.bind_eq_some_iff.mp h
    obtain ⟨g9, c9⟩ := S_Mo_is a0 2 w r9 h9
    refine fr_callV (a := a0) (As := [.inl 2]) (st := []) i172_9 (cq159 a0 2) rfl (Nat.le_of_ble_eq_true rfl) g9 (c9 _ (by omega)) ?_
    show Rn _ _ _ _ _ _ [.inl r9.1] _ _ _
    by_cases c12 : (r9.1 : Int) = 0
    · rw [if_pos c12] at h
      refine rn_if_ne_f i172_12 c12 ?_
      exact rn_sub [0, 1] rfl (s_Mo_bounded_15 hD a0 x1 r9.2 r h)
    · rw [if_neg c12] at h
      refine rn_if_ne_t i172_12 c12 ?_
      refine fr_aload_n i172_22 rfl ?_
      obtain ⟨v23, h23, h⟩ := Option.bind_eq_some_iff.mp h
      refine fr_gR (k := 7) i172_23 tf12_7 h23 ?_
      refine fr_aload_n i172_26 rfl ?_
      obtain ⟨v27, h27, h⟩ := Option.bind_eq_some_iff.mp h
      refine fr_gI (k := 11) i172_27 tf12_11 h27 ?_
      obtain ⟨v30, h30, h⟩ := Option.bind_eq_some_iff.mp h
      refine rn_iald i172_30 h30 ?_
      refine rn_istore_n (ls1 := [(3, .inl v30), (0, .inr (.inr a0)), (1, .inl x1), (2, .inl x2)]) i172_31 rfl ?_
      refine rn_iload_n i172_32 rfl ?_
      refine rn_iload_n i172_33 rfl ?_
      by_cases c34 : (v30 : Int) < x1
      · rw [if_pos c34] at h
        refine rn_icmp_lt_t i172_34 c34 ?_
        exact rn_sub [1, 0] rfl (s_Mo_bounded_42 hD a0 v30 r9.2 r h)
      · rw [if_neg c34] at h
        refine rn_icmp_lt_f i172_34 c34 ?_
        refine rn_iload_n i172_37 rfl ?_
        refine rn_iload_n i172_38 rfl ?_
        by_cases c39 : (v30 : Int) ≤ x2
        · rw [if_pos c39] at h
          refine rn_icmp_le_t i172_39 c39 ?_
          exact rn_sub [1, 0] rfl (s_Mo_bounded_51 hD a0 v30 r9.2 r h)
        · rw [if_neg c39] at h
          refine rn_icmp_le_f i172_39 c39 ?_
          exact rn_sub [1, 0] rfl (s_Mo_bounded_42 hD a0 v30 r9.2 r h)
/-- HandHeirsModel.bounded(II)I -/
def Mo_bounded (a0 : Nat) (x1 : Int) (x2 : Int) (w : Wd) : Option (Int × Wd) := gd 12 w a0 (Mo_bounded_0 a0 x1 x2 w)
theorem S_Mo_bounded {g : Gp} {l : Launch} (a0 : Nat) (x1 : Int) (x2 : Int) (w : Wd) (r : Int × Wd) (h : Mo_bounded a0 x1 x2 w = some r) : (wsh w a0).1 = 12 ∧ ∀ D, 2 ≤ D → Rn g l D 172 0 [(0, .inr (.inr a0)), (1, .inl x1), (2, .inl x2)] [] w (some (.inl r.1)) r.2 := by
  obtain ⟨hg, h⟩ := gd_some h
  exact ⟨hg, fun D hD => rn_sub [0, 1, 2] rfl (s_Mo_bounded_0 hD a0 x1 x2 w r h)⟩
def Mo_named_49 (k12 : Nat → Int → Int → Wd → Option (Int × Wd)) (a0 : Nat) (x1 : Int) (x2 : Int) (w : Wd) : Option (Int × Wd) :=
  k12 a0 x1 (w32 (x2 + 1)) w
theorem s_Mo_named_49 {g : Gp} {l : Launch} {D : Nat} (hD : 3 ≤ D) (k12 : Nat → Int → Int → Wd → Option (Int × Wd)) (hk12 : ∀ (a0 : Nat) (x1 : Int) (x2 : Int) (w : Wd) (r : Int × Wd), k12 a0 x1 x2 w = some r → Rn g l D 169 12 [(0, .inr (.inr a0)), (1, .inl x1), (2, .inl x2)] [] w (some (.inl r.1)) r.2) (a0 : Nat) (x1 : Int) (x2 : Int) (w : Wd) (r : Int × Wd) (h : Mo_named_49 k12 a0 x1 x2 w = some r) : Rn g l D 169 49 [(0, .inr (.inr a0)), (1, .inl x1), (2, .inl x2)] [] w (some (.inl r.1)) r.2 := by
  unfold Mo_named_49 at h
  refine rn_iinc (ls1 := [(2, .inl (w32 (x2 + 1))), (0, .inr (.inr a0)), (1, .inl x1)]) i169_49 rfl rfl ?_
  refine rn_goto i169_52 ?_
  exact rn_sub [1, 2, 0] rfl (hk12 a0 x1 (w32 (x2 + 1)) w r h)
def Mo_named_55 (x1 : Int) (w : Wd) : Option (Int × Wd) :=
  some (x1, w)
theorem s_Mo_named_55 {g : Gp} {l : Launch} {D : Nat} (hD : 3 ≤ D) (x1 : Int) (w : Wd) (r : Int × Wd) (h : Mo_named_55 x1 w = some r) : Rn g l D 169 55 [(1, .inl x1)] [] w (some (.inl r.1)) r.2 := by
  unfold Mo_named_55 at h
  refine rn_iload_n i169_55 rfl ?_
  obtain rfl := Option.some.inj h
  exact rn_retI i169_56 mr169
def Mo_named_12 : Nat → Nat → Int → Int → Wd → Option (Int × Wd)
  | 0, _, _, _, _ => none
  | n + 1, a0, x1, x2, w =>
    (fgI w a0 12 20).bind fun v14 =>
    if (v14 : Int) ≤ x2 then
      Mo_named_55 x1 w
    else
      (fgI w a0 12 13).bind fun v21 =>
      if (v21 : Int) = 0 then
        (fgR w a0 12 21).bind fun v28 =>
        (rdL w v28 x2).bind fun v32 =>
        (fgR w a0 12 8).bind fun v34 =>
        (rdL w v34 x1).bind fun v38 =>
        if ((ocmp v32 v38) : Int) = 0 then
          (Mo_wrong a0 3 x1 w).bind fun r46 =>
          Mo_named_49 (Mo_named_12 n) a0 x1 x2 r46
        else
          Mo_named_49 (Mo_named_12 n) a0 x1 x2 w
      else
        Mo_named_55 x1 w
theorem s_Mo_named_12 {g : Gp} {l : Launch} {D : Nat} (hD : 3 ≤ D) : ∀ (n : Nat) (a0 : Nat) (x1 : Int) (x2 : Int) (w : Wd) (r : Int × Wd), Mo_named_12 n a0 x1 x2 w = some r → Rn g l D 169 12 [(0, .inr (.inr a0)), (1, .inl x1), (2, .inl x2)] [] w (some (.inl r.1)) r.2 := by
  obtain ⟨D, rfl⟩ : ∃ D1, D = D1 + 1 := ⟨D - 1, by omega⟩
  intro n
  induction n with
  | zero => intro a0 x1 x2 w r h; cases (show (none : Option (Int × Wd)) = some r from h)
  | succ n ih =>
    intro a0 x1 x2 w r h
    unfold Mo_named_12 at h
    refine rn_iload_n i169_12 rfl ?_
    refine fr_aload_n i169_13 rfl ?_
    obtain ⟨v14, h14, h⟩ := Option.bind_eq_some_iff.mp h
    refine fr_gI (k := 20) i169_14 tf12_20 h14 ?_
    by_cases c17 : (v14 : Int) ≤ x2
    · rw [if_pos c17] at h
      refine rn_icmp_ge_t i169_17 c17 ?_
      exact rn_sub [1] rfl (s_Mo_named_55 hD x1 w r h)
    · rw [if_neg c17] at h
      refine rn_icmp_ge_f i169_17 c17 ?_
      refine fr_aload_n i169_20 rfl ?_
      obtain ⟨v21, h21, h⟩ := Option.bind_eq_some_iff.mp h
      refine fr_gI (k := 13) i169_21 tf12_13 h21 ?_
      by_cases c24 : (v21 : Int) = 0
      · rw [if_pos c24] at h
        refine rn_if_ne_f i169_24 c24 ?_
        refine fr_aload_n i169_27 rfl ?_
        obtain ⟨v28, h28, h⟩ := Option.bind_eq_some_iff.mp h
        refine fr_gR (k := 21) i169_28 tf12_21 h28 ?_
        refine rn_iload_n i169_31 rfl ?_
        obtain ⟨v32, h32, h⟩ := Option.bind_eq_some_iff.mp h
        refine rn_lald i169_32 h32 ?_
        refine fr_aload_n i169_33 rfl ?_
        obtain ⟨v34, h34, h⟩ := Option.bind_eq_some_iff.mp h
        refine fr_gR (k := 8) i169_34 tf12_8 h34 ?_
        refine rn_iload_n i169_37 rfl ?_
        obtain ⟨v38, h38, h⟩ := Option.bind_eq_some_iff.mp h
        refine rn_lald i169_38 h38 ?_
        refine rn_lcmp i169_39 ?_
        by_cases c40 : ((ocmp v32 v38) : Int) = 0
        · rw [if_pos c40] at h
          refine rn_if_ne_f i169_40 c40 ?_
          refine fr_aload_n i169_43 rfl ?_
          refine rn_iconst i169_44 ?_
          refine rn_iload_n i169_45 rfl ?_
          obtain ⟨r46, h46, h⟩ := Option.bind_eq_some_iff.mp h
          obtain ⟨g46, c46⟩ := S_Mo_wrong a0 3 x1 w r46 h46
          refine fr_callV (a := a0) (As := [.inl 3, .inl x1]) (st := []) i169_46 (cq161 a0 3 x1) rfl (Nat.le_of_ble_eq_true rfl) g46 (c46 _ (by omega)) ?_
          exact rn_sub [0, 1, 2] rfl (s_Mo_named_49 hD (Mo_named_12 n) ih a0 x1 x2 r46 r h)
        · rw [if_neg c40] at h
          refine rn_if_ne_t i169_40 c40 ?_
          exact rn_sub [0, 1, 2] rfl (s_Mo_named_49 hD (Mo_named_12 n) ih a0 x1 x2 w r h)
      · rw [if_neg c24] at h
        refine rn_if_ne_t i169_24 c24 ?_
        exact rn_sub [1] rfl (s_Mo_named_55 hD x1 w r h)
def Mo_named_0 (a0 : Nat) (w : Wd) : Option (Int × Wd) :=
  (fgI w a0 12 11).bind fun v1 =>
  (Mo_must a0 1 w).bind fun r7 =>
  Mo_named_12 FU a0 v1 0 r7
theorem s_Mo_named_0 {g : Gp} {l : Launch} {D : Nat} (hD : 3 ≤ D) (a0 : Nat) (w : Wd) (r : Int × Wd) (h : Mo_named_0 a0 w = some r) : Rn g l D 169 0 [(0, .inr (.inr a0))] [] w (some (.inl r.1)) r.2 := by
  obtain ⟨D, rfl⟩ : ∃ D1, D = D1 + 1 := ⟨D - 1, by omega⟩
  unfold Mo_named_0 at h
  refine fr_aload_n i169_0 rfl ?_
  obtain ⟨v1, h1, h⟩ := Option.bind_eq_some_iff.mp h
  refine fr_gI (k := 11) i169_1 tf12_11 h1 ?_
  refine rn_istore_n (ls1 := [(1, .inl v1), (0, .inr (.inr a0))]) i169_4 rfl ?_
  refine fr_aload_n i169_5 rfl ?_
  refine rn_iconst i169_6 ?_
  obtain ⟨r7, h7, h⟩ := Option.bind_eq_some_iff.mp h
  obtain ⟨g7, c7⟩ := S_Mo_must a0 1 w r7 h7
  refine fr_callV (a := a0) (As := [.inl 1]) (st := []) i169_7 (cq163 a0 1) rfl (Nat.le_of_ble_eq_true rfl) g7 (c7 _ (by omega)) ?_
  refine rn_iconst i169_10 ?_
  refine rn_istore_n (ls1 := [(2, .inl 0), (1, .inl v1), (0, .inr (.inr a0))]) i169_11 rfl ?_
  exact rn_sub [2, 1, 0] rfl (s_Mo_named_12 hD FU a0 v1 0 r7 r h)
/-- HandHeirsModel.named()I -/
def Mo_named (a0 : Nat) (w : Wd) : Option (Int × Wd) := gd 12 w a0 (Mo_named_0 a0 w)
theorem S_Mo_named {g : Gp} {l : Launch} (a0 : Nat) (w : Wd) (r : Int × Wd) (h : Mo_named a0 w = some r) : (wsh w a0).1 = 12 ∧ ∀ D, 3 ≤ D → Rn g l D 169 0 [(0, .inr (.inr a0))] [] w (some (.inl r.1)) r.2 := by
  obtain ⟨hg, h⟩ := gd_some h
  exact ⟨hg, fun D hD => rn_sub [0] rfl (s_Mo_named_0 hD a0 w r h)⟩
def Mo_notes_0 (a0 : Nat) (x1 : Int) (x2 : Int) (w : Wd) : Option (Wd) :=
  (fgR w a0 12 21).bind fun v1 =>
  (fgI w a0 12 20).bind fun v5 =>
  (fgR w a0 12 8).bind fun v9 =>
  (rdL w v9 x1).bind fun v13 =>
  (wrL w v1 v5 v13).bind fun w14 =>
  (fgR w14 a0 12 22).bind fun v16 =>
  (fgI w14 a0 12 20).bind fun v20 =>
  (wrI w14 v16 v20 x2).bind fun w24 =>
  (fgI w24 a0 12 20).bind fun v27 =>
  (fpI w24 a0 12 20 (w32 (v27 + 1))).bind fun w32 =>
  some w32
theorem s_Mo_notes_0 {g : Gp} {l : Launch} {D : Nat} (hD : 0 ≤ D) (a0 : Nat) (x1 : Int) (x2 : Int) (w : Wd) (r : Wd) (h : Mo_notes_0 a0 x1 x2 w = some r) : Rn g l D 170 0 [(0, .inr (.inr a0)), (1, .inl x1), (2, .inl x2)] [] w none r := by
  unfold Mo_notes_0 at h
  refine fr_aload_n i170_0 rfl ?_
  obtain ⟨v1, h1, h⟩ := Option.bind_eq_some_iff.mp h
  refine fr_gR (k := 21) i170_1 tf12_21 h1 ?_
  refine fr_aload_n i170_4 rfl ?_
  obtain ⟨v5, h5, h⟩ := Option.bind_eq_some_iff.mp h
  refine fr_gI (k := 20) i170_5 tf12_20 h5 ?_
  refine fr_aload_n i170_8 rfl ?_
  obtain ⟨v9, h9, h⟩ := Option.bind_eq_some_iff.mp h
  refine fr_gR (k := 8) i170_9 tf12_8 h9 ?_
  refine rn_iload_n i170_12 rfl ?_
  obtain ⟨v13, h13, h⟩ := Option.bind_eq_some_iff.mp h
  refine rn_lald i170_13 h13 ?_
  obtain ⟨w14, h14, h⟩ := Option.bind_eq_some_iff.mp h
  refine rn_last i170_14 h14 ?_
  refine fr_aload_n i170_15 rfl ?_
  obtain ⟨v16, h16, h⟩ := Option.bind_eq_some_iff.mp h
  refine fr_gR (k := 22) i170_16 tf12_22 h16 ?_
  refine fr_aload_n i170_19 rfl ?_
  obtain ⟨v20, h20, h⟩ := Option.bind_eq_some_iff.mp h
  refine fr_gI (k := 20) i170_20 tf12_20 h20 ?_
  refine rn_iload_n i170_23 rfl ?_
  obtain ⟨w24, h24, h⟩ := Option.bind_eq_some_iff.mp h
  refine rn_iast i170_24 h24 ?_
  refine fr_aload_n i170_25 rfl ?_
  refine rn_dup i170_26 rfl ?_
  obtain ⟨v27, h27, h⟩ := Option.bind_eq_some_iff.mp h
  refine fr_gI (k := 20) i170_27 tf12_20 h27 ?_
  refine rn_iconst i170_30 ?_
  refine rn_iadd i170_31 ?_
  obtain ⟨w32, h32, h⟩ := Option.bind_eq_some_iff.mp h
  refine fr_pI (k := 20) i170_32 (pf12_20 170) h32 ?_
  obtain rfl := Option.some.inj h
  exact rn_ret i170_35 mr170
/-- HandHeirsModel.notes(II)V -/
def Mo_notes (a0 : Nat) (x1 : Int) (x2 : Int) (w : Wd) : Option (Wd) := gd 12 w a0 (Mo_notes_0 a0 x1 x2 w)
theorem S_Mo_notes {g : Gp} {l : Launch} (a0 : Nat) (x1 : Int) (x2 : Int) (w : Wd) (r : Wd) (h : Mo_notes a0 x1 x2 w = some r) : (wsh w a0).1 = 12 ∧ ∀ D, 0 ≤ D → Rn g l D 170 0 [(0, .inr (.inr a0)), (1, .inl x1), (2, .inl x2)] [] w none r := by
  obtain ⟨hg, h⟩ := gd_some h
  exact ⟨hg, fun D hD => rn_sub [0, 1, 2] rfl (s_Mo_notes_0 hD a0 x1 x2 w r h)⟩
def Mo_tellLetter_0 (a0 : Nat) (w : Wd) : Option (Wd) :=
  (Mo_named a0 w).bind fun r1 =>
  (fgR r1.2 a0 12 24).bind fun v6 =>
  (fgI r1.2 a0 12 19).bind fun v12 =>
  (fgR r1.2 a0 12 23).bind fun v17 =>
  (fgI r1.2 a0 12 19).bind fun v21 =>
  (rdI r1.2 v17 v21).bind fun v24 =>
  (Mo_bounded a0 0 99 r1.2).bind fun r30 =>
  (wrI r30.2 v6 (w32 ((w32 (6 * v12)) + v24)) r30.1).bind fun w33 =>
  (Mo_must a0 4 w33).bind fun r36 =>
  (fgI r36 a0 12 13).bind fun v40 =>
  if (v40 : Int) ≤ 0 then
    (Mo_notes a0 (r1.1) (-1) r36).bind fun r50 =>
    (fgR r50 a0 12 23).bind fun v54 =>
    (fgI r50 a0 12 19).bind fun v58 =>
    (rdI r50 v54 v58).bind fun v62 =>
    (wrI r50 v54 v58 (w32 (v62 + 1))).bind fun w65 =>
    some w65
  else
    some r36
theorem s_Mo_tellLetter_0 {g : Gp} {l : Launch} {D : Nat} (hD : 4 ≤ D) (a0 : Nat) (w : Wd) (r : Wd) (h : Mo_tellLetter_0 a0 w = some r) : Rn g l D 173 0 [(0, .inr (.inr a0))] [] w none r := by
  obtain ⟨D, rfl⟩ : ∃ D1, D = D1 + 1 := ⟨D - 1, by omega⟩
  unfold Mo_tellLetter_0 at h
  refine fr_aload_n i173_0 rfl ?_
  obtain ⟨r1, h1, h⟩ := Option.bind_eq_some_iff.mp h
  obtain ⟨g1, c1⟩ := S_Mo_named a0 w r1 h1
  refine fr_callV (a := a0) (As := []) (st := []) i173_1 (cq169 a0) rfl (Nat.le_of_ble_eq_true rfl) g1 (c1 _ (by omega)) ?_
  show Rn _ _ _ _ _ _ [.inl r1.1] _ _ _
  refine rn_istore_n (ls1 := [(1, .inl r1.1), (0, .inr (.inr a0))]) i173_4 rfl ?_
  refine fr_aload_n i173_5 rfl ?_
  obtain ⟨v6, h6, h⟩ := Option.bind_eq_some_iff.mp h
  refine fr_gR (k := 24) i173_6 tf12_24 h6 ?_
  refine rn_bipush i173_9 ?_
  refine fr_aload_n i173_11 rfl ?_
  obtain ⟨v12, h12, h⟩ := Option.bind_eq_some_iff.mp h
  refine fr_gI (k := 19) i173_12 tf12_19 h12 ?_
  refine rn_imul i173_15 ?_
  refine fr_aload_n i173_16 rfl ?_
  obtain ⟨v17, h17, h⟩ := Option.bind_eq_some_iff.mp h
  refine fr_gR (k := 23) i173_17 tf12_23 h17 ?_
  refine fr_aload_n i173_20 rfl ?_
  obtain ⟨v21, h21, h⟩ := Option.bind_eq_some_iff.mp h
  refine fr_gI (k := 19) i173_21 tf12_19 h21 ?_
  obtain ⟨v24, h24, h⟩ := Option.bind_eq_some_iff.mp h
  refine rn_iald i173_24 h24 ?_
  refine rn_iadd i173_25 ?_
  refine fr_aload_n i173_26 rfl ?_
  refine rn_iconst i173_27 ?_
  refine rn_bipush i173_28 ?_
  obtain ⟨r30, h30, h⟩ := Option.bind_eq_some_iff.mp h
  obtain ⟨g30, c30⟩ := S_Mo_bounded a0 0 99 r1.2 r30 h30
  refine fr_callV (a := a0) (As := [.inl 0, .inl 99]) (st := [.inl (w32 ((w32 (6 * v12)) + v24)), .inr (.inr v6)]) i173_30 (cq172 a0 0 99) rfl (Nat.le_of_ble_eq_true rfl) g30 (c30 _ (by omega)) ?_
  show Rn _ _ _ _ _ _ [.inl r30.1, .inl (w32 ((w32 (6 * v12)) + v24)), .inr (.inr v6)] _ _ _
  obtain ⟨w33, h33, h⟩ := Option.bind_eq_some_iff.mp h
  refine rn_iast i173_33 h33 ?_
  refine fr_aload_n i173_34 rfl ?_
  refine rn_iconst i173_35 ?_
  obtain ⟨r36, h36, h⟩ := Option.bind_eq_some_iff.mp h
  obtain ⟨g36, c36⟩ := S_Mo_must a0 4 w33 r36 h36
  refine fr_callV (a := a0) (As := [.inl 4]) (st := []) i173_36 (cq163 a0 4) rfl (Nat.le_of_ble_eq_true rfl) g36 (c36 _ (by omega)) ?_
  refine fr_aload_n i173_39 rfl ?_
  obtain ⟨v40, h40, h⟩ := Option.bind_eq_some_iff.mp h
  refine fr_gI (k := 13) i173_40 tf12_13 h40 ?_
  by_cases c43 : (v40 : Int) ≤ 0
  · rw [if_pos c43] at h
    refine rn_if_le_t i173_43 c43 ?_
    refine fr_aload_n i173_47 rfl ?_
    refine rn_iload_n i173_48 rfl ?_
    refine rn_iconst i173_49 ?_
    obtain ⟨r50, h50, h⟩ := Option.bind_eq_some_iff.mp h
    obtain ⟨g50, c50⟩ := S_Mo_notes a0 (r1.1) (-1) r36 r50 h50
    refine fr_callV (a := a0) (As := [.inl r1.1, .inl (-1)]) (st := []) i173_50 (cq170 a0 (r1.1) (-1)) rfl (Nat.le_of_ble_eq_true rfl) g50 (c50 _ (by omega)) ?_
    refine fr_aload_n i173_53 rfl ?_
    obtain ⟨v54, h54, h⟩ := Option.bind_eq_some_iff.mp h
    refine fr_gR (k := 23) i173_54 tf12_23 h54 ?_
    refine fr_aload_n i173_57 rfl ?_
    obtain ⟨v58, h58, h⟩ := Option.bind_eq_some_iff.mp h
    refine fr_gI (k := 19) i173_58 tf12_19 h58 ?_
    refine rn_dup2 i173_61 rfl rfl ?_
    obtain ⟨v62, h62, h⟩ := Option.bind_eq_some_iff.mp h
    refine rn_iald i173_62 h62 ?_
    refine rn_iconst i173_63 ?_
    refine rn_iadd i173_64 ?_
    obtain ⟨w65, h65, h⟩ := Option.bind_eq_some_iff.mp h
    refine rn_iast i173_65 h65 ?_
    obtain rfl := Option.some.inj h
    exact rn_ret i173_66 mr173
  · rw [if_neg c43] at h
    refine rn_if_le_f i173_43 c43 ?_
    obtain rfl := Option.some.inj h
    exact rn_ret i173_46 mr173
/-- HandHeirsModel.tellLetter()V -/
def Mo_tellLetter (a0 : Nat) (w : Wd) : Option (Wd) := gd 12 w a0 (Mo_tellLetter_0 a0 w)
theorem S_Mo_tellLetter {g : Gp} {l : Launch} (a0 : Nat) (w : Wd) (r : Wd) (h : Mo_tellLetter a0 w = some r) : (wsh w a0).1 = 12 ∧ ∀ D, 4 ≤ D → Rn g l D 173 0 [(0, .inr (.inr a0))] [] w none r := by
  obtain ⟨hg, h⟩ := gd_some h
  exact ⟨hg, fun D hD => rn_sub [0] rfl (s_Mo_tellLetter_0 hD a0 w r h)⟩
def Mo_tellHeir_104 (k78 : Nat → Int → Int → Int → Wd → Option (Wd)) (a0 : Nat) (x1 : Int) (x2 : Int) (x3 : Int) (w : Wd) : Option (Wd) :=
  (fgI w a0 12 13).bind fun v105 =>
  if (v105 : Int) ≤ 0 then
    (fgR w a0 12 28).bind fun v113 =>
    (Mo_bounded a0 0 99 w).bind fun r126 =>
    (wrI r126.2 v113 (w32 ((w32 (6 * x1)) + x3)) r126.1).bind fun w129 =>
    k78 a0 x1 x2 (w32 (x3 + 1)) w129
  else
    some w
theorem s_Mo_tellHeir_104 {g : Gp} {l : Launch} {D : Nat} (hD : 4 ≤ D) (k78 : Nat → Int → Int → Int → Wd → Option (Wd)) (hk78 : ∀ (a0 : Nat) (x1 : Int) (x2 : Int) (x3 : Int) (w : Wd) (r : Wd), k78 a0 x1 x2 x3 w = some r → Rn g l D 174 78 [(0, .inr (.inr a0)), (1, .inl x1), (2, .inl x2), (3, .inl x3)] [] w none r) (a0 : Nat) (x1 : Int) (x2 : Int) (x3 : Int) (w : Wd) (r : Wd) (h : Mo_tellHeir_104 k78 a0 x1 x2 x3 w = some r) : Rn g l D 174 104 [(0, .inr (.inr a0)), (1, .inl x1), (2, .inl x2), (3, .inl x3)] [] w none r := by
  obtain ⟨D, rfl⟩ : ∃ D1, D = D1 + 1 := ⟨D - 1, by omega⟩
  unfold Mo_tellHeir_104 at h
  refine fr_aload_n i174_104 rfl ?_
  obtain ⟨v105, h105, h⟩ := Option.bind_eq_some_iff.mp h
  refine fr_gI (k := 13) i174_105 tf12_13 h105 ?_
  by_cases c108 : (v105 : Int) ≤ 0
  · rw [if_pos c108] at h
    refine rn_if_le_t i174_108 c108 ?_
    refine fr_aload_n i174_112 rfl ?_
    obtain ⟨v113, h113, h⟩ := Option.bind_eq_some_iff.mp h
    refine fr_gR (k := 28) i174_113 tf12_28 h113 ?_
    refine rn_bipush i174_116 ?_
    refine rn_iload_n i174_118 rfl ?_
    refine rn_imul i174_119 ?_
    refine rn_iload_n i174_120 rfl ?_
    refine rn_iadd i174_121 ?_
    refine fr_aload_n i174_122 rfl ?_
    refine rn_iconst i174_123 ?_
    refine rn_bipush i174_124 ?_
    obtain ⟨r126, h126, h⟩ := Option.bind_eq_some_iff.mp h
    obtain ⟨g126, c126⟩ := S_Mo_bounded a0 0 99 w r126 h126
    refine fr_callV (a := a0) (As := [.inl 0, .inl 99]) (st := [.inl (w32 ((w32 (6 * x1)) + x3)), .inr (.inr v113)]) i174_126 (cq172 a0 0 99) rfl (Nat.le_of_ble_eq_true rfl) g126 (c126 _ (by omega)) ?_
    show Rn _ _ _ _ _ _ [.inl r126.1, .inl (w32 ((w32 (6 * x1)) + x3)), .inr (.inr v113)] _ _ _
    obtain ⟨w129, h129, h⟩ := Option.bind_eq_some_iff.mp h
    refine rn_iast i174_129 h129 ?_
    refine rn_iinc (ls1 := [(3, .inl (w32 (x3 + 1))), (0, .inr (.inr a0)), (1, .inl x1), (2, .inl x2)]) i174_130 rfl rfl ?_
    refine rn_goto i174_133 ?_
    exact rn_sub [1, 2, 3, 0] rfl (hk78 a0 x1 x2 (w32 (x3 + 1)) w129 r h)
  · rw [if_neg c108] at h
    refine rn_if_le_f i174_108 c108 ?_
    obtain rfl := Option.some.inj h
    exact rn_ret i174_111 mr174
def Mo_tellHeir_136 (a0 : Nat) (x2 : Int) (w : Wd) : Option (Wd) :=
  (Mo_must a0 4 w).bind fun r138 =>
  (fgI r138 a0 12 13).bind fun v142 =>
  if (v142 : Int) ≤ 0 then
    (fgR r138 a0 12 25).bind fun v152 =>
    (fgI r138 a0 12 19).bind fun v156 =>
    (rdI r138 v152 v156).bind fun v159 =>
    (Mo_notes a0 x2 v159 r138).bind fun r160 =>
    (fgR r160 a0 12 25).bind fun v164 =>
    (fgI r160 a0 12 19).bind fun v168 =>
    (rdI r160 v164 v168).bind fun v172 =>
    (wrI r160 v164 v168 (w32 (v172 + 1))).bind fun w175 =>
    some w175
  else
    some r138
theorem s_Mo_tellHeir_136 {g : Gp} {l : Launch} {D : Nat} (hD : 4 ≤ D) (a0 : Nat) (x2 : Int) (w : Wd) (r : Wd) (h : Mo_tellHeir_136 a0 x2 w = some r) : Rn g l D 174 136 [(0, .inr (.inr a0)), (2, .inl x2)] [] w none r := by
  obtain ⟨D, rfl⟩ : ∃ D1, D = D1 + 1 := ⟨D - 1, by omega⟩
  unfold Mo_tellHeir_136 at h
  refine fr_aload_n i174_136 rfl ?_
  refine rn_iconst i174_137 ?_
  obtain ⟨r138, h138, h⟩ := Option.bind_eq_some_iff.mp h
  obtain ⟨g138, c138⟩ := S_Mo_must a0 4 w r138 h138
  refine fr_callV (a := a0) (As := [.inl 4]) (st := []) i174_138 (cq163 a0 4) rfl (Nat.le_of_ble_eq_true rfl) g138 (c138 _ (by omega)) ?_
  refine fr_aload_n i174_141 rfl ?_
  obtain ⟨v142, h142, h⟩ := Option.bind_eq_some_iff.mp h
  refine fr_gI (k := 13) i174_142 tf12_13 h142 ?_
  by_cases c145 : (v142 : Int) ≤ 0
  · rw [if_pos c145] at h
    refine rn_if_le_t i174_145 c145 ?_
    refine fr_aload_n i174_149 rfl ?_
    refine rn_iload_n i174_150 rfl ?_
    refine fr_aload_n i174_151 rfl ?_
    obtain ⟨v152, h152, h⟩ := Option.bind_eq_some_iff.mp h
    refine fr_gR (k := 25) i174_152 tf12_25 h152 ?_
    refine fr_aload_n i174_155 rfl ?_
    obtain ⟨v156, h156, h⟩ := Option.bind_eq_some_iff.mp h
    refine fr_gI (k := 19) i174_156 tf12_19 h156 ?_
    obtain ⟨v159, h159, h⟩ := Option.bind_eq_some_iff.mp h
    refine rn_iald i174_159 h159 ?_
    obtain ⟨r160, h160, h⟩ := Option.bind_eq_some_iff.mp h
    obtain ⟨g160, c160⟩ := S_Mo_notes a0 x2 v159 r138 r160 h160
    refine fr_callV (a := a0) (As := [.inl x2, .inl v159]) (st := []) i174_160 (cq170 a0 x2 v159) rfl (Nat.le_of_ble_eq_true rfl) g160 (c160 _ (by omega)) ?_
    refine fr_aload_n i174_163 rfl ?_
    obtain ⟨v164, h164, h⟩ := Option.bind_eq_some_iff.mp h
    refine fr_gR (k := 25) i174_164 tf12_25 h164 ?_
    refine fr_aload_n i174_167 rfl ?_
    obtain ⟨v168, h168, h⟩ := Option.bind_eq_some_iff.mp h
    refine fr_gI (k := 19) i174_168 tf12_19 h168 ?_
    refine rn_dup2 i174_171 rfl rfl ?_
    obtain ⟨v172, h172, h⟩ := Option.bind_eq_some_iff.mp h
    refine rn_iald i174_172 h172 ?_
    refine rn_iconst i174_173 ?_
    refine rn_iadd i174_174 ?_
    obtain ⟨w175, h175, h⟩ := Option.bind_eq_some_iff.mp h
    refine rn_iast i174_175 h175 ?_
    obtain rfl := Option.some.inj h
    exact rn_ret i174_176 mr174
  · rw [if_neg c145] at h
    refine rn_if_le_f i174_145 c145 ?_
    obtain rfl := Option.some.inj h
    exact rn_ret i174_148 mr174
def Mo_tellHeir_78 : Nat → Nat → Int → Int → Int → Wd → Option (Wd)
  | 0, _, _, _, _, _ => none
  | n + 1, a0, x1, x2, x3, w =>
    (fgI w a0 12 13).bind fun v79 =>
    if (v79 : Int) = 0 then
      (Mo_is a0 2 w).bind fun r87 =>
      if (r87.1 : Int) = 0 then
        Mo_tellHeir_136 a0 x2 r87.2
      else
        if (x3 : Int) = 6 then
          (Mo_fail a0 2 r87.2).bind fun r101 =>
          Mo_tellHeir_104 (Mo_tellHeir_78 n) a0 x1 x2 x3 r101
        else
          Mo_tellHeir_104 (Mo_tellHeir_78 n) a0 x1 x2 x3 r87.2
    else
      Mo_tellHeir_136 a0 x2 w
theorem s_Mo_tellHeir_78 {g : Gp} {l : Launch} {D : Nat} (hD : 4 ≤ D) : ∀ (n : Nat) (a0 : Nat) (x1 : Int) (x2 : Int) (x3 : Int) (w : Wd) (r : Wd), Mo_tellHeir_78 n a0 x1 x2 x3 w = some r → Rn g l D 174 78 [(0, .inr (.inr a0)), (1, .inl x1), (2, .inl x2), (3, .inl x3)] [] w none r := by
  obtain ⟨D, rfl⟩ : ∃ D1, D = D1 + 1 := ⟨D - 1, by omega⟩
  intro n
  induction n with
  | zero => intro a0 x1 x2 x3 w r h; cases (show (none : Option (Wd)) = some r from h)
  | succ n ih =>
    intro a0 x1 x2 x3 w r h
    unfold Mo_tellHeir_78 at h
    refine fr_aload_n i174_78 rfl ?_
    obtain ⟨v79, h79, h⟩ := Option.bind_eq_some_iff.mp h
    refine fr_gI (k := 13) i174_79 tf12_13 h79 ?_
    by_cases c82 : (v79 : Int) = 0
    · rw [if_pos c82] at h
      refine rn_if_ne_f i174_82 c82 ?_
      refine fr_aload_n i174_85 rfl ?_
      refine rn_iconst i174_86 ?_
      obtain ⟨r87, h87, h⟩ := Option.bind_eq_some_iff.mp h
      obtain ⟨g87, c87⟩ := S_Mo_is a0 2 w r87 h87
      refine fr_callV (a := a0) (As := [.inl 2]) (st := []) i174_87 (cq159 a0 2) rfl (Nat.le_of_ble_eq_true rfl) g87 (c87 _ (by omega)) ?_
      show Rn _ _ _ _ _ _ [.inl r87.1] _ _ _
      by_cases c90 : (r87.1 : Int) = 0
      · rw [if_pos c90] at h
        refine rn_if_eq_t i174_90 c90 ?_
        exact rn_sub [0, 2] rfl (s_Mo_tellHeir_136 hD a0 x2 r87.2 r h)
      · rw [if_neg c90] at h
        refine rn_if_eq_f i174_90 c90 ?_
        refine rn_iload_n i174_93 rfl ?_
        refine rn_bipush i174_94 ?_
        by_cases c96 : (x3 : Int) = 6
        · rw [if_pos c96] at h
          refine rn_icmp_ne_f i174_96 c96 ?_
          refine fr_aload_n i174_99 rfl ?_
          refine rn_iconst i174_100 ?_
          obtain ⟨r101, h101, h⟩ := Option.bind_eq_some_iff.mp h
          obtain ⟨g101, c101⟩ := S_Mo_fail a0 2 r87.2 r101 h101
          refine fr_callV (a := a0) (As := [.inl 2]) (st := []) i174_101 (cq160 a0 2) rfl (Nat.le_of_ble_eq_true rfl) g101 (c101 _ (by omega)) ?_
          exact rn_sub [0, 1, 2, 3] rfl (s_Mo_tellHeir_104 hD (Mo_tellHeir_78 n) ih a0 x1 x2 x3 r101 r h)
        · rw [if_neg c96] at h
          refine rn_icmp_ne_t i174_96 c96 ?_
          exact rn_sub [0, 1, 2, 3] rfl (s_Mo_tellHeir_104 hD (Mo_tellHeir_78 n) ih a0 x1 x2 x3 r87.2 r h)
    · rw [if_neg c82] at h
      refine rn_if_ne_t i174_82 c82 ?_
      exact rn_sub [0, 2] rfl (s_Mo_tellHeir_136 hD a0 x2 w r h)
def Mo_tellHeir_76 (a0 : Nat) (x1 : Int) (x2 : Int) (w : Wd) : Option (Wd) :=
  Mo_tellHeir_78 FU a0 x1 x2 0 w
theorem s_Mo_tellHeir_76 {g : Gp} {l : Launch} {D : Nat} (hD : 4 ≤ D) (a0 : Nat) (x1 : Int) (x2 : Int) (w : Wd) (r : Wd) (h : Mo_tellHeir_76 a0 x1 x2 w = some r) : Rn g l D 174 76 [(0, .inr (.inr a0)), (1, .inl x1), (2, .inl x2)] [] w none r := by
  unfold Mo_tellHeir_76 at h
  refine rn_iconst i174_76 ?_
  refine rn_istore_n (ls1 := [(3, .inl 0), (0, .inr (.inr a0)), (1, .inl x1), (2, .inl x2)]) i174_77 rfl ?_
  exact rn_sub [1, 2, 3, 0] rfl (s_Mo_tellHeir_78 hD FU a0 x1 x2 0 w r h)
def Mo_tellHeir_51 : Nat → Nat → Int → Int → Int → Wd → Option (Wd)
  | 0, _, _, _, _, _ => none
  | n + 1, a0, x1, x2, x3, w =>
    if (6 : Int) ≤ x3 then
      Mo_tellHeir_76 a0 x1 x2 w
    else
      (fgR w a0 12 28).bind fun v58 =>
      (wrI w v58 (w32 ((w32 (6 * x1)) + x3)) 50).bind fun w69 =>
      Mo_tellHeir_51 n a0 x1 x2 (w32 (x3 + 1)) w69
theorem s_Mo_tellHeir_51 {g : Gp} {l : Launch} {D : Nat} (hD : 4 ≤ D) : ∀ (n : Nat) (a0 : Nat) (x1 : Int) (x2 : Int) (x3 : Int) (w : Wd) (r : Wd), Mo_tellHeir_51 n a0 x1 x2 x3 w = some r → Rn g l D 174 51 [(0, .inr (.inr a0)), (1, .inl x1), (2, .inl x2), (3, .inl x3)] [] w none r := by
  intro n
  induction n with
  | zero => intro a0 x1 x2 x3 w r h; cases (show (none : Option (Wd)) = some r from h)
  | succ n ih =>
    intro a0 x1 x2 x3 w r h
    unfold Mo_tellHeir_51 at h
    refine rn_iload_n i174_51 rfl ?_
    refine rn_bipush i174_52 ?_
    by_cases c54 : (6 : Int) ≤ x3
    · rw [if_pos c54] at h
      refine rn_icmp_ge_t i174_54 c54 ?_
      exact rn_sub [0, 1, 2] rfl (s_Mo_tellHeir_76 hD a0 x1 x2 w r h)
    · rw [if_neg c54] at h
      refine rn_icmp_ge_f i174_54 c54 ?_
      refine fr_aload_n i174_57 rfl ?_
      obtain ⟨v58, h58, h⟩ := Option.bind_eq_some_iff.mp h
      refine fr_gR (k := 28) i174_58 tf12_28 h58 ?_
      refine rn_bipush i174_61 ?_
      refine rn_iload_n i174_63 rfl ?_
      refine rn_imul i174_64 ?_
      refine rn_iload_n i174_65 rfl ?_
      refine rn_iadd i174_66 ?_
      refine rn_bipush i174_67 ?_
      obtain ⟨w69, h69, h⟩ := Option.bind_eq_some_iff.mp h
      refine rn_iast i174_69 h69 ?_
      refine rn_iinc (ls1 := [(3, .inl (w32 (x3 + 1))), (0, .inr (.inr a0)), (1, .inl x1), (2, .inl x2)]) i174_70 rfl rfl ?_
      refine rn_goto i174_73 ?_
      exact rn_sub [1, 2, 3, 0] rfl (ih a0 x1 x2 (w32 (x3 + 1)) w69 r h)
def Mo_tellHeir_0 (a0 : Nat) (w : Wd) : Option (Wd) :=
  (fgI w a0 12 19).bind fun v3 =>
  (fgR w a0 12 25).bind fun v8 =>
  (fgI w a0 12 19).bind fun v12 =>
  (rdI w v8 v12).bind fun v15 =>
  (Mo_named a0 w).bind fun r19 =>
  (fgR r19.2 a0 12 26).bind fun v24 =>
  (Mo_bounded a0 0 99 r19.2).bind fun r32 =>
  (wrI r32.2 v24 (w32 ((w32 (6 * v3)) + v15)) r32.1).bind fun w35 =>
  (fgR w35 a0 12 27).bind fun v37 =>
  (Mo_bounded a0 0 9 w35).bind fun r45 =>
  (wrI r45.2 v37 (w32 ((w32 (6 * v3)) + v15)) r45.1).bind fun w48 =>
  Mo_tellHeir_51 FU a0 (w32 ((w32 (6 * v3)) + v15)) r19.1 0 w48
theorem s_Mo_tellHeir_0 {g : Gp} {l : Launch} {D : Nat} (hD : 4 ≤ D) (a0 : Nat) (w : Wd) (r : Wd) (h : Mo_tellHeir_0 a0 w = some r) : Rn g l D 174 0 [(0, .inr (.inr a0))] [] w none r := by
  obtain ⟨D, rfl⟩ : ∃ D1, D = D1 + 1 := ⟨D - 1, by omega⟩
  unfold Mo_tellHeir_0 at h
  refine rn_bipush i174_0 ?_
  refine fr_aload_n i174_2 rfl ?_
  obtain ⟨v3, h3, h⟩ := Option.bind_eq_some_iff.mp h
  refine fr_gI (k := 19) i174_3 tf12_19 h3 ?_
  refine rn_imul i174_6 ?_
  refine fr_aload_n i174_7 rfl ?_
  obtain ⟨v8, h8, h⟩ := Option.bind_eq_some_iff.mp h
  refine fr_gR (k := 25) i174_8 tf12_25 h8 ?_
  refine fr_aload_n i174_11 rfl ?_
  obtain ⟨v12, h12, h⟩ := Option.bind_eq_some_iff.mp h
  refine fr_gI (k := 19) i174_12 tf12_19 h12 ?_
  obtain ⟨v15, h15, h⟩ := Option.bind_eq_some_iff.mp h
  refine rn_iald i174_15 h15 ?_
  refine rn_iadd i174_16 ?_
  refine rn_istore_n (ls1 := [(1, .inl (w32 ((w32 (6 * v3)) + v15))), (0, .inr (.inr a0))]) i174_17 rfl ?_
  refine fr_aload_n i174_18 rfl ?_
  obtain ⟨r19, h19, h⟩ := Option.bind_eq_some_iff.mp h
  obtain ⟨g19, c19⟩ := S_Mo_named a0 w r19 h19
  refine fr_callV (a := a0) (As := []) (st := []) i174_19 (cq169 a0) rfl (Nat.le_of_ble_eq_true rfl) g19 (c19 _ (by omega)) ?_
  show Rn _ _ _ _ _ _ [.inl r19.1] _ _ _
  refine rn_istore_n (ls1 := [(2, .inl r19.1), (1, .inl (w32 ((w32 (6 * v3)) + v15))), (0, .inr (.inr a0))]) i174_22 rfl ?_
  refine fr_aload_n i174_23 rfl ?_
  obtain ⟨v24, h24, h⟩ := Option.bind_eq_some_iff.mp h
  refine fr_gR (k := 26) i174_24 tf12_26 h24 ?_
  refine rn_iload_n i174_27 rfl ?_
  refine fr_aload_n i174_28 rfl ?_
  refine rn_iconst i174_29 ?_
  refine rn_bipush i174_30 ?_
  obtain ⟨r32, h32, h⟩ := Option.bind_eq_some_iff.mp h
  obtain ⟨g32, c32⟩ := S_Mo_bounded a0 0 99 r19.2 r32 h32
  refine fr_callV (a := a0) (As := [.inl 0, .inl 99]) (st := [.inl (w32 ((w32 (6 * v3)) + v15)), .inr (.inr v24)]) i174_32 (cq172 a0 0 99) rfl (Nat.le_of_ble_eq_true rfl) g32 (c32 _ (by omega)) ?_
  show Rn _ _ _ _ _ _ [.inl r32.1, .inl (w32 ((w32 (6 * v3)) + v15)), .inr (.inr v24)] _ _ _
  obtain ⟨w35, h35, h⟩ := Option.bind_eq_some_iff.mp h
  refine rn_iast i174_35 h35 ?_
  refine fr_aload_n i174_36 rfl ?_
  obtain ⟨v37, h37, h⟩ := Option.bind_eq_some_iff.mp h
  refine fr_gR (k := 27) i174_37 tf12_27 h37 ?_
  refine rn_iload_n i174_40 rfl ?_
  refine fr_aload_n i174_41 rfl ?_
  refine rn_iconst i174_42 ?_
  refine rn_bipush i174_43 ?_
  obtain ⟨r45, h45, h⟩ := Option.bind_eq_some_iff.mp h
  obtain ⟨g45, c45⟩ := S_Mo_bounded a0 0 9 w35 r45 h45
  refine fr_callV (a := a0) (As := [.inl 0, .inl 9]) (st := [.inl (w32 ((w32 (6 * v3)) + v15)), .inr (.inr v37)]) i174_45 (cq172 a0 0 9) rfl (Nat.le_of_ble_eq_true rfl) g45 (c45 _ (by omega)) ?_
  show Rn _ _ _ _ _ _ [.inl r45.1, .inl (w32 ((w32 (6 * v3)) + v15)), .inr (.inr v37)] _ _ _
  obtain ⟨w48, h48, h⟩ := Option.bind_eq_some_iff.mp h
  refine rn_iast i174_48 h48 ?_
  refine rn_iconst i174_49 ?_
  refine rn_istore_n (ls1 := [(3, .inl 0), (2, .inl r19.1), (1, .inl (w32 ((w32 (6 * v3)) + v15))), (0, .inr (.inr a0))]) i174_50 rfl ?_
  exact rn_sub [3, 2, 1, 0] rfl (s_Mo_tellHeir_51 hD FU a0 (w32 ((w32 (6 * v3)) + v15)) r19.1 0 w48 r h)
/-- HandHeirsModel.tellHeir()V -/
def Mo_tellHeir (a0 : Nat) (w : Wd) : Option (Wd) := gd 12 w a0 (Mo_tellHeir_0 a0 w)
theorem S_Mo_tellHeir {g : Gp} {l : Launch} (a0 : Nat) (w : Wd) (r : Wd) (h : Mo_tellHeir a0 w = some r) : (wsh w a0).1 = 12 ∧ ∀ D, 4 ≤ D → Rn g l D 174 0 [(0, .inr (.inr a0))] [] w none r := by
  obtain ⟨hg, h⟩ := gd_some h
  exact ⟨hg, fun D hD => rn_sub [0] rfl (s_Mo_tellHeir_0 hD a0 w r h)⟩
def Mo_emit_0 (a0 : Nat) (x1 : Int) (x2 : Int) (w : Wd) : Option (Wd) :=
  (fgR w a0 12 42).bind fun v1 =>
  (fgI w a0 12 41).bind fun v5 =>
  (wrI w v1 v5 x1).bind fun w9 =>
  (fgR w9 a0 12 43).bind fun v11 =>
  (fgI w9 a0 12 41).bind fun v15 =>
  (wrI w9 v11 v15 x2).bind fun w19 =>
  (fgI w19 a0 12 41).bind fun v22 =>
  (fpI w19 a0 12 41 (w32 (v22 + 1))).bind fun w27 =>
  some w27
theorem s_Mo_emit_0 {g : Gp} {l : Launch} {D : Nat} (hD : 0 ≤ D) (a0 : Nat) (x1 : Int) (x2 : Int) (w : Wd) (r : Wd) (h : Mo_emit_0 a0 x1 x2 w = some r) : Rn g l D 178 0 [(0, .inr (.inr a0)), (1, .inl x1), (2, .inl x2)] [] w none r := by
  unfold Mo_emit_0 at h
  refine fr_aload_n i178_0 rfl ?_
  obtain ⟨v1, h1, h⟩ := Option.bind_eq_some_iff.mp h
  refine fr_gR (k := 42) i178_1 tf12_42 h1 ?_
  refine fr_aload_n i178_4 rfl ?_
  obtain ⟨v5, h5, h⟩ := Option.bind_eq_some_iff.mp h
  refine fr_gI (k := 41) i178_5 tf12_41 h5 ?_
  refine rn_iload_n i178_8 rfl ?_
  obtain ⟨w9, h9, h⟩ := Option.bind_eq_some_iff.mp h
  refine rn_iast i178_9 h9 ?_
  refine fr_aload_n i178_10 rfl ?_
  obtain ⟨v11, h11, h⟩ := Option.bind_eq_some_iff.mp h
  refine fr_gR (k := 43) i178_11 tf12_43 h11 ?_
  refine fr_aload_n i178_14 rfl ?_
  obtain ⟨v15, h15, h⟩ := Option.bind_eq_some_iff.mp h
  refine fr_gI (k := 41) i178_15 tf12_41 h15 ?_
  refine rn_iload_n i178_18 rfl ?_
  obtain ⟨w19, h19, h⟩ := Option.bind_eq_some_iff.mp h
  refine rn_iast i178_19 h19 ?_
  refine fr_aload_n i178_20 rfl ?_
  refine rn_dup i178_21 rfl ?_
  obtain ⟨v22, h22, h⟩ := Option.bind_eq_some_iff.mp h
  refine fr_gI (k := 41) i178_22 tf12_41 h22 ?_
  refine rn_iconst i178_25 ?_
  refine rn_iadd i178_26 ?_
  obtain ⟨w27, h27, h⟩ := Option.bind_eq_some_iff.mp h
  refine fr_pI (k := 41) i178_27 (pf12_41 178) h27 ?_
  obtain rfl := Option.some.inj h
  exact rn_ret i178_30 mr178
/-- HandHeirsModel.emit(II)V -/
def Mo_emit (a0 : Nat) (x1 : Int) (x2 : Int) (w : Wd) : Option (Wd) := gd 12 w a0 (Mo_emit_0 a0 x1 x2 w)
theorem S_Mo_emit {g : Gp} {l : Launch} (a0 : Nat) (x1 : Int) (x2 : Int) (w : Wd) (r : Wd) (h : Mo_emit a0 x1 x2 w = some r) : (wsh w a0).1 = 12 ∧ ∀ D, 0 ≤ D → Rn g l D 178 0 [(0, .inr (.inr a0)), (1, .inl x1), (2, .inl x2)] [] w none r := by
  obtain ⟨hg, h⟩ := gd_some h
  exact ⟨hg, fun D hD => rn_sub [0, 1, 2] rfl (s_Mo_emit_0 hD a0 x1 x2 w r h)⟩
def Mo_comesOut_41 (w : Wd) : Option (Wd) :=
  some w
theorem s_Mo_comesOut_41 {g : Gp} {l : Launch} {D : Nat} (hD : 1 ≤ D) (w : Wd) (r : Wd) (h : Mo_comesOut_41 w = some r) : Rn g l D 179 41 [] [] w none r := by
  unfold Mo_comesOut_41 at h
  obtain rfl := Option.some.inj h
  exact rn_ret i179_41 mr179
def Mo_comesOut_84 (k0 : Nat → Int → Wd → Option (Wd)) (a0 : Nat) (x1 : Int) (s0 : Int) (s1 : Nat) (w : Wd) : Option (Wd) :=
  (Mo_emit s1 s0 0 w).bind fun r85 =>
  k0 a0 x1 r85
theorem s_Mo_comesOut_84 {g : Gp} {l : Launch} {D : Nat} (hD : 1 ≤ D) (k0 : Nat → Int → Wd → Option (Wd)) (hk0 : ∀ (a0 : Nat) (x1 : Int) (w : Wd) (r : Wd), k0 a0 x1 w = some r → Rn g l D 179 0 [(0, .inr (.inr a0)), (1, .inl x1)] [] w none r) (a0 : Nat) (x1 : Int) (s0 : Int) (s1 : Nat) (w : Wd) (r : Wd) (h : Mo_comesOut_84 k0 a0 x1 s0 s1 w = some r) : Rn g l D 179 84 [(0, .inr (.inr a0)), (1, .inl x1)] [.inl s0, .inr (.inr s1)] w none r := by
  obtain ⟨D, rfl⟩ : ∃ D1, D = D1 + 1 := ⟨D - 1, by omega⟩
  unfold Mo_comesOut_84 at h
  refine rn_iconst i179_84 ?_
  obtain ⟨r85, h85, h⟩ := Option.bind_eq_some_iff.mp h
  obtain ⟨g85, c85⟩ := S_Mo_emit s1 s0 0 w r85 h85
  refine fr_callV (a := s1) (As := [.inl s0, .inl 0]) (st := []) i179_85 (cq178 s1 s0 0) rfl (Nat.le_of_ble_eq_true rfl) g85 (c85 _ (by omega)) ?_
  refine rn_goto i179_88 ?_
  exact rn_sub [0, 1] rfl (hk0 a0 x1 r85 r h)
def Mo_comesOut_42 (k0 : Nat → Int → Wd → Option (Wd)) (a0 : Nat) (x1 : Int) (x2 : Int) (w : Wd) : Option (Wd) :=
  (fgI w a0 12 45).bind fun v44 =>
  (fpI w a0 12 45 (w32 (v44 - 1))).bind fun w49 =>
  if (x2 : Int) = 8 then
    Mo_comesOut_84 k0 a0 x1 2 a0 w49
  else
    if (x2 : Int) = 9 then
      Mo_comesOut_84 k0 a0 x1 3 a0 w49
    else
      if (x2 : Int) = 10 then
        Mo_comesOut_84 k0 a0 x1 4 a0 w49
      else
        Mo_comesOut_84 k0 a0 x1 5 a0 w49
theorem s_Mo_comesOut_42 {g : Gp} {l : Launch} {D : Nat} (hD : 1 ≤ D) (k0 : Nat → Int → Wd → Option (Wd)) (hk0 : ∀ (a0 : Nat) (x1 : Int) (w : Wd) (r : Wd), k0 a0 x1 w = some r → Rn g l D 179 0 [(0, .inr (.inr a0)), (1, .inl x1)] [] w none r) (a0 : Nat) (x1 : Int) (x2 : Int) (w : Wd) (r : Wd) (h : Mo_comesOut_42 k0 a0 x1 x2 w = some r) : Rn g l D 179 42 [(0, .inr (.inr a0)), (1, .inl x1), (2, .inl x2)] [] w none r := by
  unfold Mo_comesOut_42 at h
  refine fr_aload_n i179_42 rfl ?_
  refine rn_dup i179_43 rfl ?_
  obtain ⟨v44, h44, h⟩ := Option.bind_eq_some_iff.mp h
  refine fr_gI (k := 45) i179_44 tf12_45 h44 ?_
  refine rn_iconst i179_47 ?_
  refine rn_isub i179_48 ?_
  obtain ⟨w49, h49, h⟩ := Option.bind_eq_some_iff.mp h
  refine fr_pI (k := 45) i179_49 (pf12_45 179) h49 ?_
  refine fr_aload_n i179_52 rfl ?_
  refine rn_iload_n i179_53 rfl ?_
  refine rn_bipush i179_54 ?_
  by_cases c56 : (x2 : Int) = 8
  · rw [if_pos c56] at h
    refine rn_icmp_ne_f i179_56 c56 ?_
    refine rn_iconst i179_59 ?_
    refine rn_goto i179_60 ?_
    exact rn_sub [0, 1] rfl (s_Mo_comesOut_84 hD k0 hk0 a0 x1 2 a0 w49 r h)
  · rw [if_neg c56] at h
    refine rn_icmp_ne_t i179_56 c56 ?_
    refine rn_iload_n i179_63 rfl ?_
    refine rn_bipush i179_64 ?_
    by_cases c66 : (x2 : Int) = 9
    · rw [if_pos c66] at h
      refine rn_icmp_ne_f i179_66 c66 ?_
      refine rn_iconst i179_69 ?_
      refine rn_goto i179_70 ?_
      exact rn_sub [0, 1] rfl (s_Mo_comesOut_84 hD k0 hk0 a0 x1 3 a0 w49 r h)
    · rw [if_neg c66] at h
      refine rn_icmp_ne_t i179_66 c66 ?_
      refine rn_iload_n i179_73 rfl ?_
      refine rn_bipush i179_74 ?_
      by_cases c76 : (x2 : Int) = 10
      · rw [if_pos c76] at h
        refine rn_icmp_ne_f i179_76 c76 ?_
        refine rn_iconst i179_79 ?_
        refine rn_goto i179_80 ?_
        exact rn_sub [0, 1] rfl (s_Mo_comesOut_84 hD k0 hk0 a0 x1 4 a0 w49 r h)
      · rw [if_neg c76] at h
        refine rn_icmp_ne_t i179_76 c76 ?_
        refine rn_iconst i179_83 ?_
        exact rn_sub [0, 1] rfl (s_Mo_comesOut_84 hD k0 hk0 a0 x1 5 a0 w49 r h)
def Mo_comesOut_0 : Nat → Nat → Int → Wd → Option (Wd)
  | 0, _, _, _ => none
  | n + 1, a0, x1, w =>
    (fgI w a0 12 45).bind fun v1 =>
    if (v1 : Int) ≤ 0 then
      some w
    else
      (fgR w a0 12 44).bind fun v8 =>
      (fgI w a0 12 45).bind fun v12 =>
      (rdI w v8 (w32 (v12 - 1))).bind fun v17 =>
      if (v17 : Int) = 6 then
        Mo_comesOut_41 w
      else
        if (x1 : Int) = 0 then
          Mo_comesOut_42 (Mo_comesOut_0 n) a0 x1 v17 w
        else
          if (v17 : Int) = 8 then
            Mo_comesOut_41 w
          else
            if (v17 : Int) = 9 then
              Mo_comesOut_41 w
            else
              Mo_comesOut_42 (Mo_comesOut_0 n) a0 x1 v17 w
theorem s_Mo_comesOut_0 {g : Gp} {l : Launch} {D : Nat} (hD : 1 ≤ D) : ∀ (n : Nat) (a0 : Nat) (x1 : Int) (w : Wd) (r : Wd), Mo_comesOut_0 n a0 x1 w = some r → Rn g l D 179 0 [(0, .inr (.inr a0)), (1, .inl x1)] [] w none r := by
  intro n
  induction n with
  | zero => intro a0 x1 w r h; cases (show (none : Option (Wd)) = some r from h)
  | succ n ih =>
    intro a0 x1 w r h
    unfold Mo_comesOut_0 at h
    refine fr_aload_n i179_0 rfl ?_
    obtain ⟨v1, h1, h⟩ := Option.bind_eq_some_iff.mp h
    refine fr_gI (k := 45) i179_1 tf12_45 h1 ?_
    by_cases c4 : (v1 : Int) ≤ 0
    · rw [if_pos c4] at h
      refine rn_if_le_t i179_4 c4 ?_
      obtain rfl := Option.some.inj h
      exact rn_ret i179_91 mr179
    · rw [if_neg c4] at h
      refine rn_if_le_f i179_4 c4 ?_
      refine fr_aload_n i179_7 rfl ?_
      obtain ⟨v8, h8, h⟩ := Option.bind_eq_some_iff.mp h
      refine fr_gR (k := 44) i179_8 tf12_44 h8 ?_
      refine fr_aload_n i179_11 rfl ?_
      obtain ⟨v12, h12, h⟩ := Option.bind_eq_some_iff.mp h
      refine fr_gI (k := 45) i179_12 tf12_45 h12 ?_
      refine rn_iconst i179_15 ?_
      refine rn_isub i179_16 ?_
      obtain ⟨v17, h17, h⟩ := Option.bind_eq_some_iff.mp h
      refine rn_iald i179_17 h17 ?_
      refine rn_istore_n (ls1 := [(2, .inl v17), (0, .inr (.inr a0)), (1, .inl x1)]) i179_18 rfl ?_
      refine rn_iload_n i179_19 rfl ?_
      refine rn_bipush i179_20 ?_
      by_cases c22 : (v17 : Int) = 6
      · rw [if_pos c22] at h
        refine rn_icmp_eq_t i179_22 c22 ?_
        exact rn_sub [] rfl (s_Mo_comesOut_41 hD w r h)
      · rw [if_neg c22] at h
        refine rn_icmp_eq_f i179_22 c22 ?_
        refine rn_iload_n i179_25 rfl ?_
        by_cases c26 : (x1 : Int) = 0
        · rw [if_pos c26] at h
          refine rn_if_eq_t i179_26 c26 ?_
          exact rn_sub [1, 2, 0] rfl (s_Mo_comesOut_42 hD (Mo_comesOut_0 n) ih a0 x1 v17 w r h)
        · rw [if_neg c26] at h
          refine rn_if_eq_f i179_26 c26 ?_
          refine rn_iload_n i179_29 rfl ?_
          refine rn_bipush i179_30 ?_
          by_cases c32 : (v17 : Int) = 8
          · rw [if_pos c32] at h
            refine rn_icmp_eq_t i179_32 c32 ?_
            exact rn_sub [] rfl (s_Mo_comesOut_41 hD w r h)
          · rw [if_neg c32] at h
            refine rn_icmp_eq_f i179_32 c32 ?_
            refine rn_iload_n i179_35 rfl ?_
            refine rn_bipush i179_36 ?_
            by_cases c38 : (v17 : Int) = 9
            · rw [if_pos c38] at h
              refine rn_icmp_ne_f i179_38 c38 ?_
              exact rn_sub [] rfl (s_Mo_comesOut_41 hD w r h)
            · rw [if_neg c38] at h
              refine rn_icmp_ne_t i179_38 c38 ?_
              exact rn_sub [1, 2, 0] rfl (s_Mo_comesOut_42 hD (Mo_comesOut_0 n) ih a0 x1 v17 w r h)
/-- HandHeirsModel.comesOut(Z)V -/
def Mo_comesOut (a0 : Nat) (x1 : Int) (w : Wd) : Option (Wd) := gd 12 w a0 (Mo_comesOut_0 FU a0 x1 w)
theorem S_Mo_comesOut {g : Gp} {l : Launch} (a0 : Nat) (x1 : Int) (w : Wd) (r : Wd) (h : Mo_comesOut a0 x1 w = some r) : (wsh w a0).1 = 12 ∧ ∀ D, 1 ≤ D → Rn g l D 179 0 [(0, .inr (.inr a0)), (1, .inl x1)] [] w none r := by
  obtain ⟨hg, h⟩ := gd_some h
  exact ⟨hg, fun D hD => rn_sub [0, 1] rfl (s_Mo_comesOut_0 hD FU a0 x1 w r h)⟩
def Mo_unit_130 (w : Wd) : Option (Wd) :=
  some w
theorem s_Mo_unit_130 {g : Gp} {l : Launch} {D : Nat} (hD : 2 ≤ D) (w : Wd) (r : Wd) (h : Mo_unit_130 w = some r) : Rn g l D 181 130 [] [] w none r := by
  unfold Mo_unit_130 at h
  obtain rfl := Option.some.inj h
  exact rn_ret i181_130 mr181
def Mo_unit_115 (a0 : Nat) (s0 : Int) (s1 : Int) (s2 : Nat) (w : Wd) : Option (Wd) :=
  (Mo_emit s2 s1 s0 w).bind fun r115 =>
  (Mo_goesOn a0 r115).bind fun r119 =>
  Mo_unit_130 r119
theorem s_Mo_unit_115 {g : Gp} {l : Launch} {D : Nat} (hD : 2 ≤ D) (a0 : Nat) (s0 : Int) (s1 : Int) (s2 : Nat) (w : Wd) (r : Wd) (h : Mo_unit_115 a0 s0 s1 s2 w = some r) : Rn g l D 181 115 [(0, .inr (.inr a0))] [.inl s0, .inl s1, .inr (.inr s2)] w none r := by
  obtain ⟨D, rfl⟩ : ∃ D1, D = D1 + 1 := ⟨D - 1, by omega⟩
  unfold Mo_unit_115 at h
  obtain ⟨r115, h115, h⟩ := Option.bind_eq_some_iff.mp h
  obtain ⟨g115, c115⟩ := S_Mo_emit s2 s1 s0 w r115 h115
  refine fr_callV (a := s2) (As := [.inl s1, .inl s0]) (st := []) i181_115 (cq178 s2 s1 s0) rfl (Nat.le_of_ble_eq_true rfl) g115 (c115 _ (by omega)) ?_
  refine fr_aload_n i181_118 rfl ?_
  obtain ⟨r119, h119, h⟩ := Option.bind_eq_some_iff.mp h
  obtain ⟨g119, c119⟩ := S_Mo_goesOn a0 r115 r119 h119
  refine fr_callV (a := a0) (As := []) (st := []) i181_119 (cq162 a0) rfl (Nat.le_of_ble_eq_true rfl) g119 (c119 _ (by omega)) ?_
  refine rn_goto i181_122 ?_
  exact rn_sub [] rfl (s_Mo_unit_130 hD r119 r h)
def Mo_unit_73 (a0 : Nat) (w : Wd) : Option (Wd) :=
  (Mo_is a0 20 w).bind fun r78 =>
  if (r78.1 : Int) = 0 then
    (Mo_is a0 31 r78.2).bind fun r91 =>
    if (r91.1 : Int) = 0 then
      (fgR r91.2 a0 12 5).bind fun v102 =>
      (fgI r91.2 a0 12 11).bind fun v106 =>
      (rdI r91.2 v102 v106).bind fun v109 =>
      Mo_unit_115 a0 (w32 ((w32 (v109 - 32)) + 2)) 1 a0 r91.2
    else
      Mo_unit_115 a0 0 1 a0 r91.2
  else
    Mo_unit_115 a0 1 1 a0 r78.2
theorem s_Mo_unit_73 {g : Gp} {l : Launch} {D : Nat} (hD : 2 ≤ D) (a0 : Nat) (w : Wd) (r : Wd) (h : Mo_unit_73 a0 w = some r) : Rn g l D 181 73 [(0, .inr (.inr a0))] [] w none r := by
  obtain ⟨D, rfl⟩ : ∃ D1, D = D1 + 1 := ⟨D - 1, by omega⟩
  unfold Mo_unit_73 at h
  refine fr_aload_n i181_73 rfl ?_
  refine rn_iconst i181_74 ?_
  refine fr_aload_n i181_75 rfl ?_
  refine rn_bipush i181_76 ?_
  obtain ⟨r78, h78, h⟩ := Option.bind_eq_some_iff.mp h
  obtain ⟨g78, c78⟩ := S_Mo_is a0 20 w r78 h78
  refine fr_callV (a := a0) (As := [.inl 20]) (st := [.inl 1, .inr (.inr a0)]) i181_78 (cq159 a0 20) rfl (Nat.le_of_ble_eq_true rfl) g78 (c78 _ (by omega)) ?_
  show Rn _ _ _ _ _ _ [.inl r78.1, .inl 1, .inr (.inr a0)] _ _ _
  by_cases c81 : (r78.1 : Int) = 0
  · rw [if_pos c81] at h
    refine rn_if_eq_t i181_81 c81 ?_
    refine fr_aload_n i181_88 rfl ?_
    refine rn_bipush i181_89 ?_
    obtain ⟨r91, h91, h⟩ := Option.bind_eq_some_iff.mp h
    obtain ⟨g91, c91⟩ := S_Mo_is a0 31 r78.2 r91 h91
    refine fr_callV (a := a0) (As := [.inl 31]) (st := [.inl 1, .inr (.inr a0)]) i181_91 (cq159 a0 31) rfl (Nat.le_of_ble_eq_true rfl) g91 (c91 _ (by omega)) ?_
    show Rn _ _ _ _ _ _ [.inl r91.1, .inl 1, .inr (.inr a0)] _ _ _
    by_cases c94 : (r91.1 : Int) = 0
    · rw [if_pos c94] at h
      refine rn_if_eq_t i181_94 c94 ?_
      refine fr_aload_n i181_101 rfl ?_
      obtain ⟨v102, h102, h⟩ := Option.bind_eq_some_iff.mp h
      refine fr_gR (k := 5) i181_102 tf12_5 h102 ?_
      refine fr_aload_n i181_105 rfl ?_
      obtain ⟨v106, h106, h⟩ := Option.bind_eq_some_iff.mp h
      refine fr_gI (k := 11) i181_106 tf12_11 h106 ?_
      obtain ⟨v109, h109, h⟩ := Option.bind_eq_some_iff.mp h
      refine rn_iald i181_109 h109 ?_
      refine rn_bipush i181_110 ?_
      refine rn_isub i181_112 ?_
      refine rn_iconst i181_113 ?_
      refine rn_iadd i181_114 ?_
      exact rn_sub [0] rfl (s_Mo_unit_115 hD a0 (w32 ((w32 (v109 - 32)) + 2)) 1 a0 r91.2 r h)
    · rw [if_neg c94] at h
      refine rn_if_eq_f i181_94 c94 ?_
      refine rn_iconst i181_97 ?_
      refine rn_goto i181_98 ?_
      exact rn_sub [0] rfl (s_Mo_unit_115 hD a0 0 1 a0 r91.2 r h)
  · rw [if_neg c81] at h
    refine rn_if_eq_f i181_81 c81 ?_
    refine rn_iconst i181_84 ?_
    refine rn_goto i181_85 ?_
    exact rn_sub [0] rfl (s_Mo_unit_115 hD a0 1 1 a0 r78.2 r h)
def Mo_unit_125 (a0 : Nat) (w : Wd) : Option (Wd) :=
  (Mo_fail a0 1 w).bind fun r127 =>
  Mo_unit_130 r127
theorem s_Mo_unit_125 {g : Gp} {l : Launch} {D : Nat} (hD : 2 ≤ D) (a0 : Nat) (w : Wd) (r : Wd) (h : Mo_unit_125 a0 w = some r) : Rn g l D 181 125 [(0, .inr (.inr a0))] [] w none r := by
  obtain ⟨D, rfl⟩ : ∃ D1, D = D1 + 1 := ⟨D - 1, by omega⟩
  unfold Mo_unit_125 at h
  refine fr_aload_n i181_125 rfl ?_
  refine rn_iconst i181_126 ?_
  obtain ⟨r127, h127, h⟩ := Option.bind_eq_some_iff.mp h
  obtain ⟨g127, c127⟩ := S_Mo_fail a0 1 w r127 h127
  refine fr_callV (a := a0) (As := [.inl 1]) (st := []) i181_127 (cq160 a0 1) rfl (Nat.le_of_ble_eq_true rfl) g127 (c127 _ (by omega)) ?_
  exact rn_sub [] rfl (s_Mo_unit_130 hD r127 r h)
def Mo_unit_64 (a0 : Nat) (w : Wd) : Option (Wd) :=
  (Mo_is a0 20 w).bind fun r67 =>
  if (r67.1 : Int) = 0 then
    Mo_unit_125 a0 r67.2
  else
    Mo_unit_73 a0 r67.2
theorem s_Mo_unit_64 {g : Gp} {l : Launch} {D : Nat} (hD : 2 ≤ D) (a0 : Nat) (w : Wd) (r : Wd) (h : Mo_unit_64 a0 w = some r) : Rn g l D 181 64 [(0, .inr (.inr a0))] [] w none r := by
  obtain ⟨D, rfl⟩ : ∃ D1, D = D1 + 1 := ⟨D - 1, by omega⟩
  unfold Mo_unit_64 at h
  refine fr_aload_n i181_64 rfl ?_
  refine rn_bipush i181_65 ?_
  obtain ⟨r67, h67, h⟩ := Option.bind_eq_some_iff.mp h
  obtain ⟨g67, c67⟩ := S_Mo_is a0 20 w r67 h67
  refine fr_callV (a := a0) (As := [.inl 20]) (st := []) i181_67 (cq159 a0 20) rfl (Nat.le_of_ble_eq_true rfl) g67 (c67 _ (by omega)) ?_
  show Rn _ _ _ _ _ _ [.inl r67.1] _ _ _
  by_cases c70 : (r67.1 : Int) = 0
  · rw [if_pos c70] at h
    refine rn_if_eq_t i181_70 c70 ?_
    exact rn_sub [0] rfl (s_Mo_unit_125 hD a0 r67.2 r h)
  · rw [if_neg c70] at h
    refine rn_if_eq_f i181_70 c70 ?_
    exact rn_sub [0] rfl (s_Mo_unit_73 hD a0 r67.2 r h)
def Mo_unit_0 (a0 : Nat) (w : Wd) : Option (Wd) :=
  (Mo_is a0 2 w).bind fun r2 =>
  if (r2.1 : Int) = 0 then
    (fgI r2.2 a0 12 13).bind fun v30 =>
    if (v30 : Int) = 0 then
      (fgR r2.2 a0 12 5).bind fun v37 =>
      (fgI r2.2 a0 12 11).bind fun v41 =>
      (rdI r2.2 v37 v41).bind fun v44 =>
      if (v44 : Int) < 31 then
        Mo_unit_64 a0 r2.2
      else
        (fgR r2.2 a0 12 5).bind fun v51 =>
        (fgI r2.2 a0 12 11).bind fun v55 =>
        (rdI r2.2 v51 v55).bind fun v58 =>
        if (v58 : Int) ≤ 36 then
          Mo_unit_73 a0 r2.2
        else
          Mo_unit_64 a0 r2.2
    else
      Mo_unit_125 a0 r2.2
  else
    (fgR r2.2 a0 12 7).bind fun v11 =>
    (fgI r2.2 a0 12 11).bind fun v15 =>
    (rdI r2.2 v11 v15).bind fun v18 =>
    (Mo_emit a0 0 v18 r2.2).bind fun r19 =>
    (Mo_goesOn a0 r19).bind fun r23 =>
    Mo_unit_130 r23
theorem s_Mo_unit_0 {g : Gp} {l : Launch} {D : Nat} (hD : 2 ≤ D) (a0 : Nat) (w : Wd) (r : Wd) (h : Mo_unit_0 a0 w = some r) : Rn g l D 181 0 [(0, .inr (.inr a0))] [] w none r := by
  obtain ⟨D, rfl⟩ : ∃ D1, D = D1 + 1 := ⟨D - 1, by omega⟩
  unfold Mo_unit_0 at h
  refine fr_aload_n i181_0 rfl ?_
  refine rn_iconst i181_1 ?_
  obtain ⟨r2, h2, h⟩ := Option.bind_eq_some_iff.mp h
  obtain ⟨g2, c2⟩ := S_Mo_is a0 2 w r2 h2
  refine fr_callV (a := a0) (As := [.inl 2]) (st := []) i181_2 (cq159 a0 2) rfl (Nat.le_of_ble_eq_true rfl) g2 (c2 _ (by omega)) ?_
  show Rn _ _ _ _ _ _ [.inl r2.1] _ _ _
  by_cases c5 : (r2.1 : Int) = 0
  · rw [if_pos c5] at h
    refine rn_if_eq_t i181_5 c5 ?_
    refine fr_aload_n i181_29 rfl ?_
    obtain ⟨v30, h30, h⟩ := Option.bind_eq_some_iff.mp h
    refine fr_gI (k := 13) i181_30 tf12_13 h30 ?_
    by_cases c33 : (v30 : Int) = 0
    · rw [if_pos c33] at h
      refine rn_if_ne_f i181_33 c33 ?_
      refine fr_aload_n i181_36 rfl ?_
      obtain ⟨v37, h37, h⟩ := Option.bind_eq_some_iff.mp h
      refine fr_gR (k := 5) i181_37 tf12_5 h37 ?_
      refine fr_aload_n i181_40 rfl ?_
      obtain ⟨v41, h41, h⟩ := Option.bind_eq_some_iff.mp h
      refine fr_gI (k := 11) i181_41 tf12_11 h41 ?_
      obtain ⟨v44, h44, h⟩ := Option.bind_eq_some_iff.mp h
      refine rn_iald i181_44 h44 ?_
      refine rn_bipush i181_45 ?_
      by_cases c47 : (v44 : Int) < 31
      · rw [if_pos c47] at h
        refine rn_icmp_lt_t i181_47 c47 ?_
        exact rn_sub [0] rfl (s_Mo_unit_64 hD a0 r2.2 r h)
      · rw [if_neg c47] at h
        refine rn_icmp_lt_f i181_47 c47 ?_
        refine fr_aload_n i181_50 rfl ?_
        obtain ⟨v51, h51, h⟩ := Option.bind_eq_some_iff.mp h
        refine fr_gR (k := 5) i181_51 tf12_5 h51 ?_
        refine fr_aload_n i181_54 rfl ?_
        obtain ⟨v55, h55, h⟩ := Option.bind_eq_some_iff.mp h
        refine fr_gI (k := 11) i181_55 tf12_11 h55 ?_
        obtain ⟨v58, h58, h⟩ := Option.bind_eq_some_iff.mp h
        refine rn_iald i181_58 h58 ?_
        refine rn_bipush i181_59 ?_
        by_cases c61 : (v58 : Int) ≤ 36
        · rw [if_pos c61] at h
          refine rn_icmp_le_t i181_61 c61 ?_
          exact rn_sub [0] rfl (s_Mo_unit_73 hD a0 r2.2 r h)
        · rw [if_neg c61] at h
          refine rn_icmp_le_f i181_61 c61 ?_
          exact rn_sub [0] rfl (s_Mo_unit_64 hD a0 r2.2 r h)
    · rw [if_neg c33] at h
      refine rn_if_ne_t i181_33 c33 ?_
      exact rn_sub [0] rfl (s_Mo_unit_125 hD a0 r2.2 r h)
  · rw [if_neg c5] at h
    refine rn_if_eq_f i181_5 c5 ?_
    refine fr_aload_n i181_8 rfl ?_
    refine rn_iconst i181_9 ?_
    refine fr_aload_n i181_10 rfl ?_
    obtain ⟨v11, h11, h⟩ := Option.bind_eq_some_iff.mp h
    refine fr_gR (k := 7) i181_11 tf12_7 h11 ?_
    refine fr_aload_n i181_14 rfl ?_
    obtain ⟨v15, h15, h⟩ := Option.bind_eq_some_iff.mp h
    refine fr_gI (k := 11) i181_15 tf12_11 h15 ?_
    obtain ⟨v18, h18, h⟩ := Option.bind_eq_some_iff.mp h
    refine rn_iald i181_18 h18 ?_
    obtain ⟨r19, h19, h⟩ := Option.bind_eq_some_iff.mp h
    obtain ⟨g19, c19⟩ := S_Mo_emit a0 0 v18 r2.2 r19 h19
    refine fr_callV (a := a0) (As := [.inl 0, .inl v18]) (st := []) i181_19 (cq178 a0 0 v18) rfl (Nat.le_of_ble_eq_true rfl) g19 (c19 _ (by omega)) ?_
    refine fr_aload_n i181_22 rfl ?_
    obtain ⟨r23, h23, h⟩ := Option.bind_eq_some_iff.mp h
    obtain ⟨g23, c23⟩ := S_Mo_goesOn a0 r19 r23 h23
    refine fr_callV (a := a0) (As := []) (st := []) i181_23 (cq162 a0) rfl (Nat.le_of_ble_eq_true rfl) g23 (c23 _ (by omega)) ?_
    refine rn_goto i181_26 ?_
    exact rn_sub [] rfl (s_Mo_unit_130 hD r23 r h)
/-- HandHeirsModel.unit()V -/
def Mo_unit (a0 : Nat) (w : Wd) : Option (Wd) := gd 12 w a0 (Mo_unit_0 a0 w)
theorem S_Mo_unit {g : Gp} {l : Launch} (a0 : Nat) (w : Wd) (r : Wd) (h : Mo_unit a0 w = some r) : (wsh w a0).1 = 12 ∧ ∀ D, 2 ≤ D → Rn g l D 181 0 [(0, .inr (.inr a0))] [] w none r := by
  obtain ⟨hg, h⟩ := gd_some h
  exact ⟨hg, fun D hD => rn_sub [0] rfl (s_Mo_unit_0 hD a0 w r h)⟩
def Mo_expression_46 (k12 : Nat → Int → Int → Wd → Option (Wd)) (k23 : Nat → Int → Wd → Option (Wd)) (a0 : Nat) (x1 : Int) (w : Wd) : Option (Wd) :=
  (fgI w a0 12 12).bind fun v48 =>
  (fpI w a0 12 12 (w32 (v48 + 1))).bind fun w53 =>
  (Mo_goesOn a0 w53).bind fun r57 =>
  (fgR r57 a0 12 44).bind fun v61 =>
  (fgI r57 a0 12 45).bind fun v65 =>
  (wrI r57 v61 v65 6).bind fun w70 =>
  (fgI w70 a0 12 45).bind fun v73 =>
  (fpI w70 a0 12 45 (w32 (v73 + 1))).bind fun w78 =>
  k23 a0 x1 w78
theorem s_Mo_expression_46 {g : Gp} {l : Launch} {D : Nat} (hD : 3 ≤ D) (k12 : Nat → Int → Int → Wd → Option (Wd)) (hk12 : ∀ (a0 : Nat) (x1 : Int) (x2 : Int) (w : Wd) (r : Wd), k12 a0 x1 x2 w = some r → Rn g l D 180 12 [(0, .inr (.inr a0)), (1, .inl x1), (2, .inl x2)] [] w none r) (k23 : Nat → Int → Wd → Option (Wd)) (hk23 : ∀ (a0 : Nat) (x1 : Int) (w : Wd) (r : Wd), k23 a0 x1 w = some r → Rn g l D 180 23 [(0, .inr (.inr a0)), (1, .inl x1)] [] w none r) (a0 : Nat) (x1 : Int) (w : Wd) (r : Wd) (h : Mo_expression_46 k12 k23 a0 x1 w = some r) : Rn g l D 180 46 [(0, .inr (.inr a0)), (1, .inl x1)] [] w none r := by
  obtain ⟨D, rfl⟩ : ∃ D1, D = D1 + 1 := ⟨D - 1, by omega⟩
  unfold Mo_expression_46 at h
  refine fr_aload_n i180_46 rfl ?_
  refine rn_dup i180_47 rfl ?_
  obtain ⟨v48, h48, h⟩ := Option.bind_eq_some_iff.mp h
  refine fr_gI (k := 12) i180_48 tf12_12 h48 ?_
  refine rn_iconst i180_51 ?_
  refine rn_iadd i180_52 ?_
  obtain ⟨w53, h53, h⟩ := Option.bind_eq_some_iff.mp h
  refine fr_pI (k := 12) i180_53 (pf12_12 180) h53 ?_
  refine fr_aload_n i180_56 rfl ?_
  obtain ⟨r57, h57, h⟩ := Option.bind_eq_some_iff.mp h
  obtain ⟨g57, c57⟩ := S_Mo_goesOn a0 w53 r57 h57
  refine fr_callV (a := a0) (As := []) (st := []) i180_57 (cq162 a0) rfl (Nat.le_of_ble_eq_true rfl) g57 (c57 _ (by omega)) ?_
  refine fr_aload_n i180_60 rfl ?_
  obtain ⟨v61, h61, h⟩ := Option.bind_eq_some_iff.mp h
  refine fr_gR (k := 44) i180_61 tf12_44 h61 ?_
  refine fr_aload_n i180_64 rfl ?_
  obtain ⟨v65, h65, h⟩ := Option.bind_eq_some_iff.mp h
  refine fr_gI (k := 45) i180_65 tf12_45 h65 ?_
  refine rn_bipush i180_68 ?_
  obtain ⟨w70, h70, h⟩ := Option.bind_eq_some_iff.mp h
  refine rn_iast i180_70 h70 ?_
  refine fr_aload_n i180_71 rfl ?_
  refine rn_dup i180_72 rfl ?_
  obtain ⟨v73, h73, h⟩ := Option.bind_eq_some_iff.mp h
  refine fr_gI (k := 45) i180_73 tf12_45 h73 ?_
  refine rn_iconst i180_76 ?_
  refine rn_iadd i180_77 ?_
  obtain ⟨w78, h78, h⟩ := Option.bind_eq_some_iff.mp h
  refine fr_pI (k := 45) i180_78 (pf12_45 180) h78 ?_
  refine rn_goto i180_81 ?_
  exact rn_sub [0, 1] rfl (hk23 a0 x1 w78 r h)
def Mo_expression_204 (a0 : Nat) (w : Wd) : Option (Wd) :=
  (Mo_comesOut a0 0 w).bind fun r206 =>
  some r206
theorem s_Mo_expression_204 {g : Gp} {l : Launch} {D : Nat} (hD : 3 ≤ D) (a0 : Nat) (w : Wd) (r : Wd) (h : Mo_expression_204 a0 w = some r) : Rn g l D 180 204 [(0, .inr (.inr a0))] [] w none r := by
  obtain ⟨D, rfl⟩ : ∃ D1, D = D1 + 1 := ⟨D - 1, by omega⟩
  unfold Mo_expression_204 at h
  refine fr_aload_n i180_204 rfl ?_
  refine rn_iconst i180_205 ?_
  obtain ⟨r206, h206, h⟩ := Option.bind_eq_some_iff.mp h
  obtain ⟨g206, c206⟩ := S_Mo_comesOut a0 0 w r206 h206
  refine fr_callV (a := a0) (As := [.inl 0]) (st := []) i180_206 (cq179 a0 0) rfl (Nat.le_of_ble_eq_true rfl) g206 (c206 _ (by omega)) ?_
  obtain rfl := Option.some.inj h
  exact rn_ret i180_209 mr180
def Mo_expression_191 (a0 : Nat) (x1 : Int) (w : Wd) : Option (Wd) :=
  (fgI w a0 12 12).bind fun v192 =>
  if (v192 : Int) ≤ x1 then
    Mo_expression_204 a0 w
  else
    (Mo_fail a0 1 w).bind fun r201 =>
    Mo_expression_204 a0 r201
theorem s_Mo_expression_191 {g : Gp} {l : Launch} {D : Nat} (hD : 3 ≤ D) (a0 : Nat) (x1 : Int) (w : Wd) (r : Wd) (h : Mo_expression_191 a0 x1 w = some r) : Rn g l D 180 191 [(0, .inr (.inr a0)), (1, .inl x1)] [] w none r := by
  obtain ⟨D, rfl⟩ : ∃ D1, D = D1 + 1 := ⟨D - 1, by omega⟩
  unfold Mo_expression_191 at h
  refine fr_aload_n i180_191 rfl ?_
  obtain ⟨v192, h192, h⟩ := Option.bind_eq_some_iff.mp h
  refine fr_gI (k := 12) i180_192 tf12_12 h192 ?_
  refine rn_iload_n i180_195 rfl ?_
  by_cases c196 : (v192 : Int) ≤ x1
  · rw [if_pos c196] at h
    refine rn_icmp_le_t i180_196 c196 ?_
    exact rn_sub [0] rfl (s_Mo_expression_204 hD a0 w r h)
  · rw [if_neg c196] at h
    refine rn_icmp_le_f i180_196 c196 ?_
    refine fr_aload_n i180_199 rfl ?_
    refine rn_iconst i180_200 ?_
    obtain ⟨r201, h201, h⟩ := Option.bind_eq_some_iff.mp h
    obtain ⟨g201, c201⟩ := S_Mo_fail a0 1 w r201 h201
    refine fr_callV (a := a0) (As := [.inl 1]) (st := []) i180_201 (cq160 a0 1) rfl (Nat.le_of_ble_eq_true rfl) g201 (c201 _ (by omega)) ?_
    exact rn_sub [0] rfl (s_Mo_expression_204 hD a0 r201 r h)
def Mo_expression_234 (k12 : Nat → Int → Int → Wd → Option (Wd)) (a0 : Nat) (x1 : Int) (x2 : Int) (s0 : Int) (s1 : Nat) (w : Wd) : Option (Wd) :=
  (Mo_comesOut s1 s0 w).bind fun r234 =>
  (fgR r234 a0 12 44).bind fun v238 =>
  (fgI r234 a0 12 45).bind fun v242 =>
  (fgR r234 a0 12 5).bind fun v246 =>
  (fgI r234 a0 12 11).bind fun v250 =>
  (rdI r234 v246 v250).bind fun v253 =>
  (wrI r234 v238 v242 v253).bind fun w254 =>
  (fgI w254 a0 12 45).bind fun v257 =>
  (fpI w254 a0 12 45 (w32 (v257 + 1))).bind fun w262 =>
  (Mo_goesOn a0 w262).bind fun r266 =>
  k12 a0 x1 x2 r266
theorem s_Mo_expression_234 {g : Gp} {l : Launch} {D : Nat} (hD : 3 ≤ D) (k12 : Nat → Int → Int → Wd → Option (Wd)) (hk12 : ∀ (a0 : Nat) (x1 : Int) (x2 : Int) (w : Wd) (r : Wd), k12 a0 x1 x2 w = some r → Rn g l D 180 12 [(0, .inr (.inr a0)), (1, .inl x1), (2, .inl x2)] [] w none r) (a0 : Nat) (x1 : Int) (x2 : Int) (s0 : Int) (s1 : Nat) (w : Wd) (r : Wd) (h : Mo_expression_234 k12 a0 x1 x2 s0 s1 w = some r) : Rn g l D 180 234 [(0, .inr (.inr a0)), (1, .inl x1), (2, .inl x2)] [.inl s0, .inr (.inr s1)] w none r := by
  obtain ⟨D, rfl⟩ : ∃ D1, D = D1 + 1 := ⟨D - 1, by omega⟩
  unfold Mo_expression_234 at h
  obtain ⟨r234, h234, h⟩ := Option.bind_eq_some_iff.mp h
  obtain ⟨g234, c234⟩ := S_Mo_comesOut s1 s0 w r234 h234
  refine fr_callV (a := s1) (As := [.inl s0]) (st := []) i180_234 (cq179 s1 s0) rfl (Nat.le_of_ble_eq_true rfl) g234 (c234 _ (by omega)) ?_
  refine fr_aload_n i180_237 rfl ?_
  obtain ⟨v238, h238, h⟩ := Option.bind_eq_some_iff.mp h
  refine fr_gR (k := 44) i180_238 tf12_44 h238 ?_
  refine fr_aload_n i180_241 rfl ?_
  obtain ⟨v242, h242, h⟩ := Option.bind_eq_some_iff.mp h
  refine fr_gI (k := 45) i180_242 tf12_45 h242 ?_
  refine fr_aload_n i180_245 rfl ?_
  obtain ⟨v246, h246, h⟩ := Option.bind_eq_some_iff.mp h
  refine fr_gR (k := 5) i180_246 tf12_5 h246 ?_
  refine fr_aload_n i180_249 rfl ?_
  obtain ⟨v250, h250, h⟩ := Option.bind_eq_some_iff.mp h
  refine fr_gI (k := 11) i180_250 tf12_11 h250 ?_
  obtain ⟨v253, h253, h⟩ := Option.bind_eq_some_iff.mp h
  refine rn_iald i180_253 h253 ?_
  obtain ⟨w254, h254, h⟩ := Option.bind_eq_some_iff.mp h
  refine rn_iast i180_254 h254 ?_
  refine fr_aload_n i180_255 rfl ?_
  refine rn_dup i180_256 rfl ?_
  obtain ⟨v257, h257, h⟩ := Option.bind_eq_some_iff.mp h
  refine fr_gI (k := 45) i180_257 tf12_45 h257 ?_
  refine rn_iconst i180_260 ?_
  refine rn_iadd i180_261 ?_
  obtain ⟨w262, h262, h⟩ := Option.bind_eq_some_iff.mp h
  refine fr_pI (k := 45) i180_262 (pf12_45 180) h262 ?_
  refine fr_aload_n i180_265 rfl ?_
  obtain ⟨r266, h266, h⟩ := Option.bind_eq_some_iff.mp h
  obtain ⟨g266, c266⟩ := S_Mo_goesOn a0 w262 r266 h266
  refine fr_callV (a := a0) (As := []) (st := []) i180_266 (cq162 a0) rfl (Nat.le_of_ble_eq_true rfl) g266 (c266 _ (by omega)) ?_
  refine rn_goto i180_269 ?_
  exact rn_sub [0, 1, 2] rfl (hk12 a0 x1 x2 r266 r h)
def Mo_expression_229 (k12 : Nat → Int → Int → Wd → Option (Wd)) (a0 : Nat) (x1 : Int) (x2 : Int) (s0 : Nat) (w : Wd) : Option (Wd) :=
  Mo_expression_234 k12 a0 x1 x2 1 s0 w
theorem s_Mo_expression_229 {g : Gp} {l : Launch} {D : Nat} (hD : 3 ≤ D) (k12 : Nat → Int → Int → Wd → Option (Wd)) (hk12 : ∀ (a0 : Nat) (x1 : Int) (x2 : Int) (w : Wd) (r : Wd), k12 a0 x1 x2 w = some r → Rn g l D 180 12 [(0, .inr (.inr a0)), (1, .inl x1), (2, .inl x2)] [] w none r) (a0 : Nat) (x1 : Int) (x2 : Int) (s0 : Nat) (w : Wd) (r : Wd) (h : Mo_expression_229 k12 a0 x1 x2 s0 w = some r) : Rn g l D 180 229 [(0, .inr (.inr a0)), (1, .inl x1), (2, .inl x2)] [.inr (.inr s0)] w none r := by
  unfold Mo_expression_229 at h
  refine rn_iconst i180_229 ?_
  refine rn_goto i180_230 ?_
  exact rn_sub [0, 1, 2] rfl (s_Mo_expression_234 hD k12 hk12 a0 x1 x2 1 s0 w r h)
def Mo_expression_186 (k12 : Nat → Int → Int → Wd → Option (Wd)) (a0 : Nat) (x1 : Int) (s0 : Int) (w : Wd) : Option (Wd) :=
  if (s0 : Int) = 0 then
    Mo_expression_191 a0 x1 w
  else
    (Mo_is a0 10 w).bind fun r214 =>
    if (r214.1 : Int) = 0 then
      (Mo_is a0 15 r214.2).bind fun r223 =>
      if (r223.1 : Int) = 0 then
        Mo_expression_234 k12 a0 x1 s0 0 a0 r223.2
      else
        Mo_expression_229 k12 a0 x1 s0 a0 r223.2
    else
      Mo_expression_229 k12 a0 x1 s0 a0 r214.2
theorem s_Mo_expression_186 {g : Gp} {l : Launch} {D : Nat} (hD : 3 ≤ D) (k12 : Nat → Int → Int → Wd → Option (Wd)) (hk12 : ∀ (a0 : Nat) (x1 : Int) (x2 : Int) (w : Wd) (r : Wd), k12 a0 x1 x2 w = some r → Rn g l D 180 12 [(0, .inr (.inr a0)), (1, .inl x1), (2, .inl x2)] [] w none r) (a0 : Nat) (x1 : Int) (s0 : Int) (w : Wd) (r : Wd) (h : Mo_expression_186 k12 a0 x1 s0 w = some r) : Rn g l D 180 186 [(0, .inr (.inr a0)), (1, .inl x1)] [.inl s0] w none r := by
  obtain ⟨D, rfl⟩ : ∃ D1, D = D1 + 1 := ⟨D - 1, by omega⟩
  unfold Mo_expression_186 at h
  refine rn_istore_n (ls1 := [(2, .inl s0), (0, .inr (.inr a0)), (1, .inl x1)]) i180_186 rfl ?_
  refine rn_iload_n i180_187 rfl ?_
  by_cases c188 : (s0 : Int) = 0
  · rw [if_pos c188] at h
    refine rn_if_ne_f i180_188 c188 ?_
    exact rn_sub [1, 2] rfl (s_Mo_expression_191 hD a0 x1 w r h)
  · rw [if_neg c188] at h
    refine rn_if_ne_t i180_188 c188 ?_
    refine fr_aload_n i180_210 rfl ?_
    refine fr_aload_n i180_211 rfl ?_
    refine rn_bipush i180_212 ?_
    obtain ⟨r214, h214, h⟩ := Option.bind_eq_some_iff.mp h
    obtain ⟨g214, c214⟩ := S_Mo_is a0 10 w r214 h214
    refine fr_callV (a := a0) (As := [.inl 10]) (st := [.inr (.inr a0)]) i180_214 (cq159 a0 10) rfl (Nat.le_of_ble_eq_true rfl) g214 (c214 _ (by omega)) ?_
    show Rn _ _ _ _ _ _ [.inl r214.1, .inr (.inr a0)] _ _ _
    by_cases c217 : (r214.1 : Int) = 0
    · rw [if_pos c217] at h
      refine rn_if_ne_f i180_217 c217 ?_
      refine fr_aload_n i180_220 rfl ?_
      refine rn_bipush i180_221 ?_
      obtain ⟨r223, h223, h⟩ := Option.bind_eq_some_iff.mp h
      obtain ⟨g223, c223⟩ := S_Mo_is a0 15 r214.2 r223 h223
      refine fr_callV (a := a0) (As := [.inl 15]) (st := [.inr (.inr a0)]) i180_223 (cq159 a0 15) rfl (Nat.le_of_ble_eq_true rfl) g223 (c223 _ (by omega)) ?_
      show Rn _ _ _ _ _ _ [.inl r223.1, .inr (.inr a0)] _ _ _
      by_cases c226 : (r223.1 : Int) = 0
      · rw [if_pos c226] at h
        refine rn_if_eq_t i180_226 c226 ?_
        refine rn_iconst i180_233 ?_
        exact rn_sub [1, 2, 0] rfl (s_Mo_expression_234 hD k12 hk12 a0 x1 s0 0 a0 r223.2 r h)
      · rw [if_neg c226] at h
        refine rn_if_eq_f i180_226 c226 ?_
        exact rn_sub [1, 2, 0] rfl (s_Mo_expression_229 hD k12 hk12 a0 x1 s0 a0 r223.2 r h)
    · rw [if_neg c217] at h
      refine rn_if_ne_t i180_217 c217 ?_
      exact rn_sub [1, 2, 0] rfl (s_Mo_expression_229 hD k12 hk12 a0 x1 s0 a0 r214.2 r h)
def Mo_expression_181 (k12 : Nat → Int → Int → Wd → Option (Wd)) (a0 : Nat) (x1 : Int) (w : Wd) : Option (Wd) :=
  Mo_expression_186 k12 a0 x1 1 w
theorem s_Mo_expression_181 {g : Gp} {l : Launch} {D : Nat} (hD : 3 ≤ D) (k12 : Nat → Int → Int → Wd → Option (Wd)) (hk12 : ∀ (a0 : Nat) (x1 : Int) (x2 : Int) (w : Wd) (r : Wd), k12 a0 x1 x2 w = some r → Rn g l D 180 12 [(0, .inr (.inr a0)), (1, .inl x1), (2, .inl x2)] [] w none r) (a0 : Nat) (x1 : Int) (w : Wd) (r : Wd) (h : Mo_expression_181 k12 a0 x1 w = some r) : Rn g l D 180 181 [(0, .inr (.inr a0)), (1, .inl x1)] [] w none r := by
  unfold Mo_expression_181 at h
  refine rn_iconst i180_181 ?_
  refine rn_goto i180_182 ?_
  exact rn_sub [0, 1] rfl (s_Mo_expression_186 hD k12 hk12 a0 x1 1 w r h)
def Mo_expression_145 (k12 : Nat → Int → Int → Wd → Option (Wd)) (a0 : Nat) (x1 : Int) (w : Wd) : Option (Wd) :=
  (Mo_is a0 8 w).bind fun r148 =>
  if (r148.1 : Int) = 0 then
    (Mo_is a0 9 r148.2).bind fun r157 =>
    if (r157.1 : Int) = 0 then
      (Mo_is a0 10 r157.2).bind fun r166 =>
      if (r166.1 : Int) = 0 then
        (Mo_is a0 15 r166.2).bind fun r175 =>
        if (r175.1 : Int) = 0 then
          Mo_expression_186 k12 a0 x1 0 r175.2
        else
          Mo_expression_181 k12 a0 x1 r175.2
      else
        Mo_expression_181 k12 a0 x1 r166.2
    else
      Mo_expression_181 k12 a0 x1 r157.2
  else
    Mo_expression_181 k12 a0 x1 r148.2
theorem s_Mo_expression_145 {g : Gp} {l : Launch} {D : Nat} (hD : 3 ≤ D) (k12 : Nat → Int → Int → Wd → Option (Wd)) (hk12 : ∀ (a0 : Nat) (x1 : Int) (x2 : Int) (w : Wd) (r : Wd), k12 a0 x1 x2 w = some r → Rn g l D 180 12 [(0, .inr (.inr a0)), (1, .inl x1), (2, .inl x2)] [] w none r) (a0 : Nat) (x1 : Int) (w : Wd) (r : Wd) (h : Mo_expression_145 k12 a0 x1 w = some r) : Rn g l D 180 145 [(0, .inr (.inr a0)), (1, .inl x1)] [] w none r := by
  obtain ⟨D, rfl⟩ : ∃ D1, D = D1 + 1 := ⟨D - 1, by omega⟩
  unfold Mo_expression_145 at h
  refine fr_aload_n i180_145 rfl ?_
  refine rn_bipush i180_146 ?_
  obtain ⟨r148, h148, h⟩ := Option.bind_eq_some_iff.mp h
  obtain ⟨g148, c148⟩ := S_Mo_is a0 8 w r148 h148
  refine fr_callV (a := a0) (As := [.inl 8]) (st := []) i180_148 (cq159 a0 8) rfl (Nat.le_of_ble_eq_true rfl) g148 (c148 _ (by omega)) ?_
  show Rn _ _ _ _ _ _ [.inl r148.1] _ _ _
  by_cases c151 : (r148.1 : Int) = 0
  · rw [if_pos c151] at h
    refine rn_if_ne_f i180_151 c151 ?_
    refine fr_aload_n i180_154 rfl ?_
    refine rn_bipush i180_155 ?_
    obtain ⟨r157, h157, h⟩ := Option.bind_eq_some_iff.mp h
    obtain ⟨g157, c157⟩ := S_Mo_is a0 9 r148.2 r157 h157
    refine fr_callV (a := a0) (As := [.inl 9]) (st := []) i180_157 (cq159 a0 9) rfl (Nat.le_of_ble_eq_true rfl) g157 (c157 _ (by omega)) ?_
    show Rn _ _ _ _ _ _ [.inl r157.1] _ _ _
    by_cases c160 : (r157.1 : Int) = 0
    · rw [if_pos c160] at h
      refine rn_if_ne_f i180_160 c160 ?_
      refine fr_aload_n i180_163 rfl ?_
      refine rn_bipush i180_164 ?_
      obtain ⟨r166, h166, h⟩ := Option.bind_eq_some_iff.mp h
      obtain ⟨g166, c166⟩ := S_Mo_is a0 10 r157.2 r166 h166
      refine fr_callV (a := a0) (As := [.inl 10]) (st := []) i180_166 (cq159 a0 10) rfl (Nat.le_of_ble_eq_true rfl) g166 (c166 _ (by omega)) ?_
      show Rn _ _ _ _ _ _ [.inl r166.1] _ _ _
      by_cases c169 : (r166.1 : Int) = 0
      · rw [if_pos c169] at h
        refine rn_if_ne_f i180_169 c169 ?_
        refine fr_aload_n i180_172 rfl ?_
        refine rn_bipush i180_173 ?_
        obtain ⟨r175, h175, h⟩ := Option.bind_eq_some_iff.mp h
        obtain ⟨g175, c175⟩ := S_Mo_is a0 15 r166.2 r175 h175
        refine fr_callV (a := a0) (As := [.inl 15]) (st := []) i180_175 (cq159 a0 15) rfl (Nat.le_of_ble_eq_true rfl) g175 (c175 _ (by omega)) ?_
        show Rn _ _ _ _ _ _ [.inl r175.1] _ _ _
        by_cases c178 : (r175.1 : Int) = 0
        · rw [if_pos c178] at h
          refine rn_if_eq_t i180_178 c178 ?_
          refine rn_iconst i180_185 ?_
          exact rn_sub [0, 1] rfl (s_Mo_expression_186 hD k12 hk12 a0 x1 0 r175.2 r h)
        · rw [if_neg c178] at h
          refine rn_if_eq_f i180_178 c178 ?_
          exact rn_sub [0, 1] rfl (s_Mo_expression_181 hD k12 hk12 a0 x1 r175.2 r h)
      · rw [if_neg c169] at h
        refine rn_if_ne_t i180_169 c169 ?_
        exact rn_sub [0, 1] rfl (s_Mo_expression_181 hD k12 hk12 a0 x1 r166.2 r h)
    · rw [if_neg c160] at h
      refine rn_if_ne_t i180_160 c160 ?_
      exact rn_sub [0, 1] rfl (s_Mo_expression_181 hD k12 hk12 a0 x1 r157.2 r h)
  · rw [if_neg c151] at h
    refine rn_if_ne_t i180_151 c151 ?_
    exact rn_sub [0, 1] rfl (s_Mo_expression_181 hD k12 hk12 a0 x1 r148.2 r h)
def Mo_expression_96 (k12 : Nat → Int → Int → Wd → Option (Wd)) : Nat → Nat → Int → Wd → Option (Wd)
  | 0, _, _, _ => none
  | n + 1, a0, x1, w =>
    (Mo_is a0 7 w).bind fun r99 =>
    if (r99.1 : Int) = 0 then
      Mo_expression_145 k12 a0 x1 r99.2
    else
      (fgI r99.2 a0 12 12).bind fun v106 =>
      if (v106 : Int) ≤ x1 then
        Mo_expression_145 k12 a0 x1 r99.2
      else
        (Mo_comesOut a0 0 r99.2).bind fun r115 =>
        (fgI r115 a0 12 45).bind fun v120 =>
        (fpI r115 a0 12 45 (w32 (v120 - 1))).bind fun w125 =>
        (fgI w125 a0 12 12).bind fun v130 =>
        (fpI w125 a0 12 12 (w32 (v130 - 1))).bind fun w135 =>
        (Mo_goesOn a0 w135).bind fun r139 =>
        Mo_expression_96 k12 n a0 x1 r139
theorem s_Mo_expression_96 {g : Gp} {l : Launch} {D : Nat} (hD : 3 ≤ D) (k12 : Nat → Int → Int → Wd → Option (Wd)) (hk12 : ∀ (a0 : Nat) (x1 : Int) (x2 : Int) (w : Wd) (r : Wd), k12 a0 x1 x2 w = some r → Rn g l D 180 12 [(0, .inr (.inr a0)), (1, .inl x1), (2, .inl x2)] [] w none r) : ∀ (n : Nat) (a0 : Nat) (x1 : Int) (w : Wd) (r : Wd), Mo_expression_96 k12 n a0 x1 w = some r → Rn g l D 180 96 [(0, .inr (.inr a0)), (1, .inl x1)] [] w none r := by
  obtain ⟨D, rfl⟩ : ∃ D1, D = D1 + 1 := ⟨D - 1, by omega⟩
  intro n
  induction n with
  | zero => intro a0 x1 w r h; cases (show (none : Option (Wd)) = some r from h)
  | succ n ih =>
    intro a0 x1 w r h
    unfold Mo_expression_96 at h
    refine fr_aload_n i180_96 rfl ?_
    refine rn_bipush i180_97 ?_
    obtain ⟨r99, h99, h⟩ := Option.bind_eq_some_iff.mp h
    obtain ⟨g99, c99⟩ := S_Mo_is a0 7 w r99 h99
    refine fr_callV (a := a0) (As := [.inl 7]) (st := []) i180_99 (cq159 a0 7) rfl (Nat.le_of_ble_eq_true rfl) g99 (c99 _ (by omega)) ?_
    show Rn _ _ _ _ _ _ [.inl r99.1] _ _ _
    by_cases c102 : (r99.1 : Int) = 0
    · rw [if_pos c102] at h
      refine rn_if_eq_t i180_102 c102 ?_
      exact rn_sub [0, 1] rfl (s_Mo_expression_145 hD k12 hk12 a0 x1 r99.2 r h)
    · rw [if_neg c102] at h
      refine rn_if_eq_f i180_102 c102 ?_
      refine fr_aload_n i180_105 rfl ?_
      obtain ⟨v106, h106, h⟩ := Option.bind_eq_some_iff.mp h
      refine fr_gI (k := 12) i180_106 tf12_12 h106 ?_
      refine rn_iload_n i180_109 rfl ?_
      by_cases c110 : (v106 : Int) ≤ x1
      · rw [if_pos c110] at h
        refine rn_icmp_le_t i180_110 c110 ?_
        exact rn_sub [0, 1] rfl (s_Mo_expression_145 hD k12 hk12 a0 x1 r99.2 r h)
      · rw [if_neg c110] at h
        refine rn_icmp_le_f i180_110 c110 ?_
        refine fr_aload_n i180_113 rfl ?_
        refine rn_iconst i180_114 ?_
        obtain ⟨r115, h115, h⟩ := Option.bind_eq_some_iff.mp h
        obtain ⟨g115, c115⟩ := S_Mo_comesOut a0 0 r99.2 r115 h115
        refine fr_callV (a := a0) (As := [.inl 0]) (st := []) i180_115 (cq179 a0 0) rfl (Nat.le_of_ble_eq_true rfl) g115 (c115 _ (by omega)) ?_
        refine fr_aload_n i180_118 rfl ?_
        refine rn_dup i180_119 rfl ?_
        obtain ⟨v120, h120, h⟩ := Option.bind_eq_some_iff.mp h
        refine fr_gI (k := 45) i180_120 tf12_45 h120 ?_
        refine rn_iconst i180_123 ?_
        refine rn_isub i180_124 ?_
        obtain ⟨w125, h125, h⟩ := Option.bind_eq_some_iff.mp h
        refine fr_pI (k := 45) i180_125 (pf12_45 180) h125 ?_
        refine fr_aload_n i180_128 rfl ?_
        refine rn_dup i180_129 rfl ?_
        obtain ⟨v130, h130, h⟩ := Option.bind_eq_some_iff.mp h
        refine fr_gI (k := 12) i180_130 tf12_12 h130 ?_
        refine rn_iconst i180_133 ?_
        refine rn_isub i180_134 ?_
        obtain ⟨w135, h135, h⟩ := Option.bind_eq_some_iff.mp h
        refine fr_pI (k := 12) i180_135 (pf12_12 180) h135 ?_
        refine fr_aload_n i180_138 rfl ?_
        obtain ⟨r139, h139, h⟩ := Option.bind_eq_some_iff.mp h
        obtain ⟨g139, c139⟩ := S_Mo_goesOn a0 w135 r139 h139
        refine fr_callV (a := a0) (As := []) (st := []) i180_139 (cq162 a0) rfl (Nat.le_of_ble_eq_true rfl) g139 (c139 _ (by omega)) ?_
        refine rn_goto i180_142 ?_
        exact rn_sub [0, 1] rfl (ih a0 x1 r139 r h)
def Mo_expression_84 (k12 : Nat → Int → Int → Wd → Option (Wd)) (a0 : Nat) (x1 : Int) (w : Wd) : Option (Wd) :=
  (Mo_unit a0 w).bind fun r85 =>
  (fgI r85 a0 12 13).bind fun v89 =>
  if (v89 : Int) ≤ 0 then
    Mo_expression_96 k12 FU a0 x1 r85
  else
    some r85
theorem s_Mo_expression_84 {g : Gp} {l : Launch} {D : Nat} (hD : 3 ≤ D) (k12 : Nat → Int → Int → Wd → Option (Wd)) (hk12 : ∀ (a0 : Nat) (x1 : Int) (x2 : Int) (w : Wd) (r : Wd), k12 a0 x1 x2 w = some r → Rn g l D 180 12 [(0, .inr (.inr a0)), (1, .inl x1), (2, .inl x2)] [] w none r) (a0 : Nat) (x1 : Int) (w : Wd) (r : Wd) (h : Mo_expression_84 k12 a0 x1 w = some r) : Rn g l D 180 84 [(0, .inr (.inr a0)), (1, .inl x1)] [] w none r := by
  obtain ⟨D, rfl⟩ : ∃ D1, D = D1 + 1 := ⟨D - 1, by omega⟩
  unfold Mo_expression_84 at h
  refine fr_aload_n i180_84 rfl ?_
  obtain ⟨r85, h85, h⟩ := Option.bind_eq_some_iff.mp h
  obtain ⟨g85, c85⟩ := S_Mo_unit a0 w r85 h85
  refine fr_callV (a := a0) (As := []) (st := []) i180_85 (cq181 a0) rfl (Nat.le_of_ble_eq_true rfl) g85 (c85 _ (by omega)) ?_
  refine fr_aload_n i180_88 rfl ?_
  obtain ⟨v89, h89, h⟩ := Option.bind_eq_some_iff.mp h
  refine fr_gI (k := 13) i180_89 tf12_13 h89 ?_
  by_cases c92 : (v89 : Int) ≤ 0
  · rw [if_pos c92] at h
    refine rn_if_le_t i180_92 c92 ?_
    exact rn_sub [0, 1] rfl (s_Mo_expression_96 hD k12 hk12 FU a0 x1 r85 r h)
  · rw [if_neg c92] at h
    refine rn_if_le_f i180_92 c92 ?_
    obtain rfl := Option.some.inj h
    exact rn_ret i180_95 mr180
def Mo_expression_23 (k12 : Nat → Int → Int → Wd → Option (Wd)) : Nat → Nat → Int → Wd → Option (Wd)
  | 0, _, _, _ => none
  | n + 1, a0, x1, w =>
    (Mo_is a0 6 w).bind fun r26 =>
    if (r26.1 : Int) = 0 then
      Mo_expression_84 k12 a0 x1 r26.2
    else
      (fgI r26.2 a0 12 12).bind fun v33 =>
      if (v33 : Int) = 6 then
        (Mo_fail a0 2 r26.2).bind fun r43 =>
        Mo_expression_46 k12 (Mo_expression_23 k12 n) a0 x1 r43
      else
        Mo_expression_46 k12 (Mo_expression_23 k12 n) a0 x1 r26.2
theorem s_Mo_expression_23 {g : Gp} {l : Launch} {D : Nat} (hD : 3 ≤ D) (k12 : Nat → Int → Int → Wd → Option (Wd)) (hk12 : ∀ (a0 : Nat) (x1 : Int) (x2 : Int) (w : Wd) (r : Wd), k12 a0 x1 x2 w = some r → Rn g l D 180 12 [(0, .inr (.inr a0)), (1, .inl x1), (2, .inl x2)] [] w none r) : ∀ (n : Nat) (a0 : Nat) (x1 : Int) (w : Wd) (r : Wd), Mo_expression_23 k12 n a0 x1 w = some r → Rn g l D 180 23 [(0, .inr (.inr a0)), (1, .inl x1)] [] w none r := by
  obtain ⟨D, rfl⟩ : ∃ D1, D = D1 + 1 := ⟨D - 1, by omega⟩
  intro n
  induction n with
  | zero => intro a0 x1 w r h; cases (show (none : Option (Wd)) = some r from h)
  | succ n ih =>
    intro a0 x1 w r h
    unfold Mo_expression_23 at h
    refine fr_aload_n i180_23 rfl ?_
    refine rn_bipush i180_24 ?_
    obtain ⟨r26, h26, h⟩ := Option.bind_eq_some_iff.mp h
    obtain ⟨g26, c26⟩ := S_Mo_is a0 6 w r26 h26
    refine fr_callV (a := a0) (As := [.inl 6]) (st := []) i180_26 (cq159 a0 6) rfl (Nat.le_of_ble_eq_true rfl) g26 (c26 _ (by omega)) ?_
    show Rn _ _ _ _ _ _ [.inl r26.1] _ _ _
    by_cases c29 : (r26.1 : Int) = 0
    · rw [if_pos c29] at h
      refine rn_if_eq_t i180_29 c29 ?_
      exact rn_sub [0, 1] rfl (s_Mo_expression_84 hD k12 hk12 a0 x1 r26.2 r h)
    · rw [if_neg c29] at h
      refine rn_if_eq_f i180_29 c29 ?_
      refine fr_aload_n i180_32 rfl ?_
      obtain ⟨v33, h33, h⟩ := Option.bind_eq_some_iff.mp h
      refine fr_gI (k := 12) i180_33 tf12_12 h33 ?_
      refine rn_bipush i180_36 ?_
      by_cases c38 : (v33 : Int) = 6
      · rw [if_pos c38] at h
        refine rn_icmp_ne_f i180_38 c38 ?_
        refine fr_aload_n i180_41 rfl ?_
        refine rn_iconst i180_42 ?_
        obtain ⟨r43, h43, h⟩ := Option.bind_eq_some_iff.mp h
        obtain ⟨g43, c43⟩ := S_Mo_fail a0 2 r26.2 r43 h43
        refine fr_callV (a := a0) (As := [.inl 2]) (st := []) i180_43 (cq160 a0 2) rfl (Nat.le_of_ble_eq_true rfl) g43 (c43 _ (by omega)) ?_
        exact rn_sub [0, 1] rfl (s_Mo_expression_46 hD k12 hk12 (Mo_expression_23 k12 n) ih a0 x1 r43 r h)
      · rw [if_neg c38] at h
        refine rn_icmp_ne_t i180_38 c38 ?_
        exact rn_sub [0, 1] rfl (s_Mo_expression_46 hD k12 hk12 (Mo_expression_23 k12 n) ih a0 x1 r26.2 r h)
def Mo_expression_272 (w : Wd) : Option (Wd) :=
  some w
theorem s_Mo_expression_272 {g : Gp} {l : Launch} {D : Nat} (hD : 3 ≤ D) (w : Wd) (r : Wd) (h : Mo_expression_272 w = some r) : Rn g l D 180 272 [] [] w none r := by
  unfold Mo_expression_272 at h
  obtain rfl := Option.some.inj h
  exact rn_ret i180_272 mr180
def Mo_expression_12 : Nat → Nat → Int → Int → Wd → Option (Wd)
  | 0, _, _, _, _ => none
  | n + 1, a0, x1, x2, w =>
    if (x2 : Int) = 0 then
      Mo_expression_272 w
    else
      (fgI w a0 12 13).bind fun v17 =>
      if (v17 : Int) = 0 then
        Mo_expression_23 (Mo_expression_12 n) FU a0 x1 w
      else
        Mo_expression_272 w
theorem s_Mo_expression_12 {g : Gp} {l : Launch} {D : Nat} (hD : 3 ≤ D) : ∀ (n : Nat) (a0 : Nat) (x1 : Int) (x2 : Int) (w : Wd) (r : Wd), Mo_expression_12 n a0 x1 x2 w = some r → Rn g l D 180 12 [(0, .inr (.inr a0)), (1, .inl x1), (2, .inl x2)] [] w none r := by
  intro n
  induction n with
  | zero => intro a0 x1 x2 w r h; cases (show (none : Option (Wd)) = some r from h)
  | succ n ih =>
    intro a0 x1 x2 w r h
    unfold Mo_expression_12 at h
    refine rn_iload_n i180_12 rfl ?_
    by_cases c13 : (x2 : Int) = 0
    · rw [if_pos c13] at h
      refine rn_if_eq_t i180_13 c13 ?_
      exact rn_sub [] rfl (s_Mo_expression_272 hD w r h)
    · rw [if_neg c13] at h
      refine rn_if_eq_f i180_13 c13 ?_
      refine fr_aload_n i180_16 rfl ?_
      obtain ⟨v17, h17, h⟩ := Option.bind_eq_some_iff.mp h
      refine fr_gI (k := 13) i180_17 tf12_13 h17 ?_
      by_cases c20 : (v17 : Int) = 0
      · rw [if_pos c20] at h
        refine rn_if_ne_f i180_20 c20 ?_
        exact rn_sub [0, 1] rfl (s_Mo_expression_23 hD (Mo_expression_12 n) ih FU a0 x1 w r h)
      · rw [if_neg c20] at h
        refine rn_if_ne_t i180_20 c20 ?_
        exact rn_sub [] rfl (s_Mo_expression_272 hD w r h)
def Mo_expression_0 (a0 : Nat) (w : Wd) : Option (Wd) :=
  (fpI w a0 12 45 0).bind fun w2 =>
  (fgI w2 a0 12 12).bind fun v6 =>
  Mo_expression_12 FU a0 v6 1 w2
theorem s_Mo_expression_0 {g : Gp} {l : Launch} {D : Nat} (hD : 3 ≤ D) (a0 : Nat) (w : Wd) (r : Wd) (h : Mo_expression_0 a0 w = some r) : Rn g l D 180 0 [(0, .inr (.inr a0))] [] w none r := by
  unfold Mo_expression_0 at h
  refine fr_aload_n i180_0 rfl ?_
  refine rn_iconst i180_1 ?_
  obtain ⟨w2, h2, h⟩ := Option.bind_eq_some_iff.mp h
  refine fr_pI (k := 45) i180_2 (pf12_45 180) h2 ?_
  refine fr_aload_n i180_5 rfl ?_
  obtain ⟨v6, h6, h⟩ := Option.bind_eq_some_iff.mp h
  refine fr_gI (k := 12) i180_6 tf12_12 h6 ?_
  refine rn_istore_n (ls1 := [(1, .inl v6), (0, .inr (.inr a0))]) i180_9 rfl ?_
  refine rn_iconst i180_10 ?_
  refine rn_istore_n (ls1 := [(2, .inl 1), (1, .inl v6), (0, .inr (.inr a0))]) i180_11 rfl ?_
  exact rn_sub [2, 1, 0] rfl (s_Mo_expression_12 hD FU a0 v6 1 w2 r h)
/-- HandHeirsModel.expression()V -/
def Mo_expression (a0 : Nat) (w : Wd) : Option (Wd) := gd 12 w a0 (Mo_expression_0 a0 w)
theorem S_Mo_expression {g : Gp} {l : Launch} (a0 : Nat) (w : Wd) (r : Wd) (h : Mo_expression a0 w = some r) : (wsh w a0).1 = 12 ∧ ∀ D, 3 ≤ D → Rn g l D 180 0 [(0, .inr (.inr a0))] [] w none r := by
  obtain ⟨hg, h⟩ := gd_some h
  exact ⟨hg, fun D hD => rn_sub [0] rfl (s_Mo_expression_0 hD a0 w r h)⟩
def Mo_term_24 (a0 : Nat) (w : Wd) : Option (Wd) :=
  (fgR w a0 12 40).bind fun v25 =>
  (fgI w a0 12 35).bind fun v29 =>
  (fgI w a0 12 41).bind fun v33 =>
  (wrI w v25 v29 v33).bind fun w36 =>
  (fgI w36 a0 12 35).bind fun v39 =>
  (fpI w36 a0 12 35 (w32 (v39 + 1))).bind fun w44 =>
  some w44
theorem s_Mo_term_24 {g : Gp} {l : Launch} {D : Nat} (hD : 4 ≤ D) (a0 : Nat) (w : Wd) (r : Wd) (h : Mo_term_24 a0 w = some r) : Rn g l D 177 24 [(0, .inr (.inr a0))] [] w none r := by
  unfold Mo_term_24 at h
  refine fr_aload_n i177_24 rfl ?_
  obtain ⟨v25, h25, h⟩ := Option.bind_eq_some_iff.mp h
  refine fr_gR (k := 40) i177_25 tf12_40 h25 ?_
  refine fr_aload_n i177_28 rfl ?_
  obtain ⟨v29, h29, h⟩ := Option.bind_eq_some_iff.mp h
  refine fr_gI (k := 35) i177_29 tf12_35 h29 ?_
  refine fr_aload_n i177_32 rfl ?_
  obtain ⟨v33, h33, h⟩ := Option.bind_eq_some_iff.mp h
  refine fr_gI (k := 41) i177_33 tf12_41 h33 ?_
  obtain ⟨w36, h36, h⟩ := Option.bind_eq_some_iff.mp h
  refine rn_iast i177_36 h36 ?_
  refine fr_aload_n i177_37 rfl ?_
  refine rn_dup i177_38 rfl ?_
  obtain ⟨v39, h39, h⟩ := Option.bind_eq_some_iff.mp h
  refine fr_gI (k := 35) i177_39 tf12_35 h39 ?_
  refine rn_iconst i177_42 ?_
  refine rn_iadd i177_43 ?_
  obtain ⟨w44, h44, h⟩ := Option.bind_eq_some_iff.mp h
  refine fr_pI (k := 35) i177_44 (pf12_35 177) h44 ?_
  obtain rfl := Option.some.inj h
  exact rn_ret i177_47 mr177
def Mo_term_0 (a0 : Nat) (w : Wd) : Option (Wd) :=
  (fgR w a0 12 39).bind fun v1 =>
  (fgI w a0 12 35).bind fun v5 =>
  (fgI w a0 12 41).bind fun v9 =>
  (wrI w v1 v5 v9).bind fun w12 =>
  (fgI w12 a0 12 13).bind fun v14 =>
  if (v14 : Int) = 0 then
    (Mo_expression a0 w12).bind fun r21 =>
    Mo_term_24 a0 r21
  else
    Mo_term_24 a0 w12
theorem s_Mo_term_0 {g : Gp} {l : Launch} {D : Nat} (hD : 4 ≤ D) (a0 : Nat) (w : Wd) (r : Wd) (h : Mo_term_0 a0 w = some r) : Rn g l D 177 0 [(0, .inr (.inr a0))] [] w none r := by
  obtain ⟨D, rfl⟩ : ∃ D1, D = D1 + 1 := ⟨D - 1, by omega⟩
  unfold Mo_term_0 at h
  refine fr_aload_n i177_0 rfl ?_
  obtain ⟨v1, h1, h⟩ := Option.bind_eq_some_iff.mp h
  refine fr_gR (k := 39) i177_1 tf12_39 h1 ?_
  refine fr_aload_n i177_4 rfl ?_
  obtain ⟨v5, h5, h⟩ := Option.bind_eq_some_iff.mp h
  refine fr_gI (k := 35) i177_5 tf12_35 h5 ?_
  refine fr_aload_n i177_8 rfl ?_
  obtain ⟨v9, h9, h⟩ := Option.bind_eq_some_iff.mp h
  refine fr_gI (k := 41) i177_9 tf12_41 h9 ?_
  obtain ⟨w12, h12, h⟩ := Option.bind_eq_some_iff.mp h
  refine rn_iast i177_12 h12 ?_
  refine fr_aload_n i177_13 rfl ?_
  obtain ⟨v14, h14, h⟩ := Option.bind_eq_some_iff.mp h
  refine fr_gI (k := 13) i177_14 tf12_13 h14 ?_
  by_cases c17 : (v14 : Int) = 0
  · rw [if_pos c17] at h
    refine rn_if_ne_f i177_17 c17 ?_
    refine fr_aload_n i177_20 rfl ?_
    obtain ⟨r21, h21, h⟩ := Option.bind_eq_some_iff.mp h
    obtain ⟨g21, c21⟩ := S_Mo_expression a0 w12 r21 h21
    refine fr_callV (a := a0) (As := []) (st := []) i177_21 (cq180 a0) rfl (Nat.le_of_ble_eq_true rfl) g21 (c21 _ (by omega)) ?_
    exact rn_sub [0] rfl (s_Mo_term_24 hD a0 r21 r h)
  · rw [if_neg c17] at h
    refine rn_if_ne_t i177_17 c17 ?_
    exact rn_sub [0] rfl (s_Mo_term_24 hD a0 w12 r h)
/-- HandHeirsModel.term()V -/
def Mo_term (a0 : Nat) (w : Wd) : Option (Wd) := gd 12 w a0 (Mo_term_0 a0 w)
theorem S_Mo_term {g : Gp} {l : Launch} (a0 : Nat) (w : Wd) (r : Wd) (h : Mo_term a0 w = some r) : (wsh w a0).1 = 12 ∧ ∀ D, 4 ≤ D → Rn g l D 177 0 [(0, .inr (.inr a0))] [] w none r := by
  obtain ⟨hg, h⟩ := gd_some h
  exact ⟨hg, fun D hD => rn_sub [0] rfl (s_Mo_term_0 hD a0 w r h)⟩
def Mo_tellLaw_110 (k12 : Nat → Int → Int → Int → Wd → Option (Wd)) (a0 : Nat) (x1 : Int) (x2 : Int) (x3 : Int) (w : Wd) : Option (Wd) :=
  (Mo_must a0 29 w).bind fun r113 =>
  (Mo_term a0 r113).bind fun r117 =>
  (Mo_must a0 30 r117).bind fun r123 =>
  k12 a0 x1 x2 x3 r123
theorem s_Mo_tellLaw_110 {g : Gp} {l : Launch} {D : Nat} (hD : 5 ≤ D) (k12 : Nat → Int → Int → Int → Wd → Option (Wd)) (hk12 : ∀ (a0 : Nat) (x1 : Int) (x2 : Int) (x3 : Int) (w : Wd) (r : Wd), k12 a0 x1 x2 x3 w = some r → Rn g l D 176 12 [(0, .inr (.inr a0)), (1, .inl x1), (2, .inl x2), (3, .inl x3)] [] w none r) (a0 : Nat) (x1 : Int) (x2 : Int) (x3 : Int) (w : Wd) (r : Wd) (h : Mo_tellLaw_110 k12 a0 x1 x2 x3 w = some r) : Rn g l D 176 110 [(0, .inr (.inr a0)), (1, .inl x1), (2, .inl x2), (3, .inl x3)] [] w none r := by
  obtain ⟨D, rfl⟩ : ∃ D1, D = D1 + 1 := ⟨D - 1, by omega⟩
  unfold Mo_tellLaw_110 at h
  refine fr_aload_n i176_110 rfl ?_
  refine rn_bipush i176_111 ?_
  obtain ⟨r113, h113, h⟩ := Option.bind_eq_some_iff.mp h
  obtain ⟨g113, c113⟩ := S_Mo_must a0 29 w r113 h113
  refine fr_callV (a := a0) (As := [.inl 29]) (st := []) i176_113 (cq163 a0 29) rfl (Nat.le_of_ble_eq_true rfl) g113 (c113 _ (by omega)) ?_
  refine fr_aload_n i176_116 rfl ?_
  obtain ⟨r117, h117, h⟩ := Option.bind_eq_some_iff.mp h
  obtain ⟨g117, c117⟩ := S_Mo_term a0 r113 r117 h117
  refine fr_callV (a := a0) (As := []) (st := []) i176_117 (cq177 a0) rfl (Nat.le_of_ble_eq_true rfl) g117 (c117 _ (by omega)) ?_
  refine fr_aload_n i176_120 rfl ?_
  refine rn_bipush i176_121 ?_
  obtain ⟨r123, h123, h⟩ := Option.bind_eq_some_iff.mp h
  obtain ⟨g123, c123⟩ := S_Mo_must a0 30 r117 r123 h123
  refine fr_callV (a := a0) (As := [.inl 30]) (st := []) i176_123 (cq163 a0 30) rfl (Nat.le_of_ble_eq_true rfl) g123 (c123 _ (by omega)) ?_
  refine rn_goto i176_126 ?_
  exact rn_sub [0, 1, 2, 3] rfl (hk12 a0 x1 x2 x3 r123 r h)
def Mo_tellLaw_38 (k12 : Nat → Int → Int → Int → Wd → Option (Wd)) (a0 : Nat) (x1 : Int) (x2 : Int) (x3 : Int) (w : Wd) : Option (Wd) :=
  (fgI w a0 12 13).bind fun v39 =>
  if (v39 : Int) ≤ 0 then
    (Mo_goesOn a0 w).bind fun r50 =>
    (fgR r50 a0 12 36).bind fun v54 =>
    (fgI r50 a0 12 35).bind fun v58 =>
    (wrB r50 v54 v58 1).bind fun w62 =>
    (fgR w62 a0 12 37).bind fun v64 =>
    (fgI w62 a0 12 35).bind fun v68 =>
    (fgI w62 a0 12 41).bind fun v72 =>
    (wrI w62 v64 v68 v72).bind fun w75 =>
    (Mo_expression a0 w75).bind fun r77 =>
    (Mo_must a0 13 r77).bind fun r83 =>
    (fgR r83 a0 12 38).bind fun v87 =>
    (fgI r83 a0 12 35).bind fun v91 =>
    (fgI r83 a0 12 41).bind fun v95 =>
    (wrI r83 v87 v91 v95).bind fun w98 =>
    (fgI w98 a0 12 13).bind fun v100 =>
    if (v100 : Int) = 0 then
      (Mo_expression a0 w98).bind fun r107 =>
      Mo_tellLaw_110 k12 a0 x1 x2 (w32 (x3 + 1)) r107
    else
      Mo_tellLaw_110 k12 a0 x1 x2 (w32 (x3 + 1)) w98
  else
    some w
theorem s_Mo_tellLaw_38 {g : Gp} {l : Launch} {D : Nat} (hD : 5 ≤ D) (k12 : Nat → Int → Int → Int → Wd → Option (Wd)) (hk12 : ∀ (a0 : Nat) (x1 : Int) (x2 : Int) (x3 : Int) (w : Wd) (r : Wd), k12 a0 x1 x2 x3 w = some r → Rn g l D 176 12 [(0, .inr (.inr a0)), (1, .inl x1), (2, .inl x2), (3, .inl x3)] [] w none r) (a0 : Nat) (x1 : Int) (x2 : Int) (x3 : Int) (w : Wd) (r : Wd) (h : Mo_tellLaw_38 k12 a0 x1 x2 x3 w = some r) : Rn g l D 176 38 [(0, .inr (.inr a0)), (1, .inl x1), (2, .inl x2), (3, .inl x3)] [] w none r := by
  obtain ⟨D, rfl⟩ : ∃ D1, D = D1 + 1 := ⟨D - 1, by omega⟩
  unfold Mo_tellLaw_38 at h
  refine fr_aload_n i176_38 rfl ?_
  obtain ⟨v39, h39, h⟩ := Option.bind_eq_some_iff.mp h
  refine fr_gI (k := 13) i176_39 tf12_13 h39 ?_
  by_cases c42 : (v39 : Int) ≤ 0
  · rw [if_pos c42] at h
    refine rn_if_le_t i176_42 c42 ?_
    refine rn_iinc (ls1 := [(3, .inl (w32 (x3 + 1))), (0, .inr (.inr a0)), (1, .inl x1), (2, .inl x2)]) i176_46 rfl rfl ?_
    refine fr_aload_n i176_49 rfl ?_
    obtain ⟨r50, h50, h⟩ := Option.bind_eq_some_iff.mp h
    obtain ⟨g50, c50⟩ := S_Mo_goesOn a0 w r50 h50
    refine fr_callV (a := a0) (As := []) (st := []) i176_50 (cq162 a0) rfl (Nat.le_of_ble_eq_true rfl) g50 (c50 _ (by omega)) ?_
    refine fr_aload_n i176_53 rfl ?_
    obtain ⟨v54, h54, h⟩ := Option.bind_eq_some_iff.mp h
    refine fr_gR (k := 36) i176_54 tf12_36 h54 ?_
    refine fr_aload_n i176_57 rfl ?_
    obtain ⟨v58, h58, h⟩ := Option.bind_eq_some_iff.mp h
    refine fr_gI (k := 35) i176_58 tf12_35 h58 ?_
    refine rn_iconst i176_61 ?_
    obtain ⟨w62, h62, h⟩ := Option.bind_eq_some_iff.mp h
    refine rn_bast i176_62 h62 ?_
    refine fr_aload_n i176_63 rfl ?_
    obtain ⟨v64, h64, h⟩ := Option.bind_eq_some_iff.mp h
    refine fr_gR (k := 37) i176_64 tf12_37 h64 ?_
    refine fr_aload_n i176_67 rfl ?_
    obtain ⟨v68, h68, h⟩ := Option.bind_eq_some_iff.mp h
    refine fr_gI (k := 35) i176_68 tf12_35 h68 ?_
    refine fr_aload_n i176_71 rfl ?_
    obtain ⟨v72, h72, h⟩ := Option.bind_eq_some_iff.mp h
    refine fr_gI (k := 41) i176_72 tf12_41 h72 ?_
    obtain ⟨w75, h75, h⟩ := Option.bind_eq_some_iff.mp h
    refine rn_iast i176_75 h75 ?_
    refine fr_aload_n i176_76 rfl ?_
    obtain ⟨r77, h77, h⟩ := Option.bind_eq_some_iff.mp h
    obtain ⟨g77, c77⟩ := S_Mo_expression a0 w75 r77 h77
    refine fr_callV (a := a0) (As := []) (st := []) i176_77 (cq180 a0) rfl (Nat.le_of_ble_eq_true rfl) g77 (c77 _ (by omega)) ?_
    refine fr_aload_n i176_80 rfl ?_
    refine rn_bipush i176_81 ?_
    obtain ⟨r83, h83, h⟩ := Option.bind_eq_some_iff.mp h
    obtain ⟨g83, c83⟩ := S_Mo_must a0 13 r77 r83 h83
    refine fr_callV (a := a0) (As := [.inl 13]) (st := []) i176_83 (cq163 a0 13) rfl (Nat.le_of_ble_eq_true rfl) g83 (c83 _ (by omega)) ?_
    refine fr_aload_n i176_86 rfl ?_
    obtain ⟨v87, h87, h⟩ := Option.bind_eq_some_iff.mp h
    refine fr_gR (k := 38) i176_87 tf12_38 h87 ?_
    refine fr_aload_n i176_90 rfl ?_
    obtain ⟨v91, h91, h⟩ := Option.bind_eq_some_iff.mp h
    refine fr_gI (k := 35) i176_91 tf12_35 h91 ?_
    refine fr_aload_n i176_94 rfl ?_
    obtain ⟨v95, h95, h⟩ := Option.bind_eq_some_iff.mp h
    refine fr_gI (k := 41) i176_95 tf12_41 h95 ?_
    obtain ⟨w98, h98, h⟩ := Option.bind_eq_some_iff.mp h
    refine rn_iast i176_98 h98 ?_
    refine fr_aload_n i176_99 rfl ?_
    obtain ⟨v100, h100, h⟩ := Option.bind_eq_some_iff.mp h
    refine fr_gI (k := 13) i176_100 tf12_13 h100 ?_
    by_cases c103 : (v100 : Int) = 0
    · rw [if_pos c103] at h
      refine rn_if_ne_f i176_103 c103 ?_
      refine fr_aload_n i176_106 rfl ?_
      obtain ⟨r107, h107, h⟩ := Option.bind_eq_some_iff.mp h
      obtain ⟨g107, c107⟩ := S_Mo_expression a0 w98 r107 h107
      refine fr_callV (a := a0) (As := []) (st := []) i176_107 (cq180 a0) rfl (Nat.le_of_ble_eq_true rfl) g107 (c107 _ (by omega)) ?_
      exact rn_sub [1, 2, 3, 0] rfl (s_Mo_tellLaw_110 hD k12 hk12 a0 x1 x2 (w32 (x3 + 1)) r107 r h)
    · rw [if_neg c103] at h
      refine rn_if_ne_t i176_103 c103 ?_
      exact rn_sub [1, 2, 3, 0] rfl (s_Mo_tellLaw_110 hD k12 hk12 a0 x1 x2 (w32 (x3 + 1)) w98 r h)
  · rw [if_neg c42] at h
    refine rn_if_le_f i176_42 c42 ?_
    obtain rfl := Option.some.inj h
    exact rn_ret i176_45 mr176
def Mo_tellLaw_159 (w : Wd) : Option (Wd) :=
  some w
theorem s_Mo_tellLaw_159 {g : Gp} {l : Launch} {D : Nat} (hD : 5 ≤ D) (w : Wd) (r : Wd) (h : Mo_tellLaw_159 w = some r) : Rn g l D 176 159 [] [] w none r := by
  unfold Mo_tellLaw_159 at h
  obtain rfl := Option.some.inj h
  exact rn_ret i176_159 mr176
def Mo_tellLaw_129 (a0 : Nat) (x1 : Int) (x2 : Int) (w : Wd) : Option (Wd) :=
  (fgR w a0 12 36).bind fun v130 =>
  (fgI w a0 12 35).bind fun v134 =>
  (wrB w v130 v134 0).bind fun w138 =>
  (Mo_term a0 w138).bind fun r140 =>
  (Mo_must a0 4 r140).bind fun r145 =>
  (fgI r145 a0 12 13).bind fun v149 =>
  if (0 : Int) < v149 then
    Mo_tellLaw_159 r145
  else
    if (0 : Int) ≤ x1 then
      (fgR r145 a0 12 33).bind fun v161 =>
      (fgI r145 a0 12 19).bind fun v167 =>
      (wrI r145 v161 (w32 ((w32 (10 * v167)) + x1)) x2).bind fun w174 =>
      (fgR w174 a0 12 34).bind fun v176 =>
      (fgI w174 a0 12 19).bind fun v182 =>
      (fgI w174 a0 12 35).bind fun v189 =>
      (wrI w174 v176 (w32 ((w32 (10 * v182)) + x1)) v189).bind fun w192 =>
      some w192
    else
      Mo_tellLaw_159 r145
theorem s_Mo_tellLaw_129 {g : Gp} {l : Launch} {D : Nat} (hD : 5 ≤ D) (a0 : Nat) (x1 : Int) (x2 : Int) (w : Wd) (r : Wd) (h : Mo_tellLaw_129 a0 x1 x2 w = some r) : Rn g l D 176 129 [(0, .inr (.inr a0)), (1, .inl x1), (2, .inl x2)] [] w none r := by
  obtain ⟨D, rfl⟩ : ∃ D1, D = D1 + 1 := ⟨D - 1, by omega⟩
  unfold Mo_tellLaw_129 at h
  refine fr_aload_n i176_129 rfl ?_
  obtain ⟨v130, h130, h⟩ := Option.bind_eq_some_iff.mp h
  refine fr_gR (k := 36) i176_130 tf12_36 h130 ?_
  refine fr_aload_n i176_133 rfl ?_
  obtain ⟨v134, h134, h⟩ := Option.bind_eq_some_iff.mp h
  refine fr_gI (k := 35) i176_134 tf12_35 h134 ?_
  refine rn_iconst i176_137 ?_
  obtain ⟨w138, h138, h⟩ := Option.bind_eq_some_iff.mp h
  refine rn_bast i176_138 h138 ?_
  refine fr_aload_n i176_139 rfl ?_
  obtain ⟨r140, h140, h⟩ := Option.bind_eq_some_iff.mp h
  obtain ⟨g140, c140⟩ := S_Mo_term a0 w138 r140 h140
  refine fr_callV (a := a0) (As := []) (st := []) i176_140 (cq177 a0) rfl (Nat.le_of_ble_eq_true rfl) g140 (c140 _ (by omega)) ?_
  refine fr_aload_n i176_143 rfl ?_
  refine rn_iconst i176_144 ?_
  obtain ⟨r145, h145, h⟩ := Option.bind_eq_some_iff.mp h
  obtain ⟨g145, c145⟩ := S_Mo_must a0 4 r140 r145 h145
  refine fr_callV (a := a0) (As := [.inl 4]) (st := []) i176_145 (cq163 a0 4) rfl (Nat.le_of_ble_eq_true rfl) g145 (c145 _ (by omega)) ?_
  refine fr_aload_n i176_148 rfl ?_
  obtain ⟨v149, h149, h⟩ := Option.bind_eq_some_iff.mp h
  refine fr_gI (k := 13) i176_149 tf12_13 h149 ?_
  by_cases c152 : (0 : Int) < v149
  · rw [if_pos c152] at h
    refine rn_if_gt_t i176_152 c152 ?_
    exact rn_sub [] rfl (s_Mo_tellLaw_159 hD r145 r h)
  · rw [if_neg c152] at h
    refine rn_if_gt_f i176_152 c152 ?_
    refine rn_iload_n i176_155 rfl ?_
    by_cases c156 : (0 : Int) ≤ x1
    · rw [if_pos c156] at h
      refine rn_if_ge_t i176_156 c156 ?_
      refine fr_aload_n i176_160 rfl ?_
      obtain ⟨v161, h161, h⟩ := Option.bind_eq_some_iff.mp h
      refine fr_gR (k := 33) i176_161 tf12_33 h161 ?_
      refine rn_bipush i176_164 ?_
      refine fr_aload_n i176_166 rfl ?_
      obtain ⟨v167, h167, h⟩ := Option.bind_eq_some_iff.mp h
      refine fr_gI (k := 19) i176_167 tf12_19 h167 ?_
      refine rn_imul i176_170 ?_
      refine rn_iload_n i176_171 rfl ?_
      refine rn_iadd i176_172 ?_
      refine rn_iload_n i176_173 rfl ?_
      obtain ⟨w174, h174, h⟩ := Option.bind_eq_some_iff.mp h
      refine rn_iast i176_174 h174 ?_
      refine fr_aload_n i176_175 rfl ?_
      obtain ⟨v176, h176, h⟩ := Option.bind_eq_some_iff.mp h
      refine fr_gR (k := 34) i176_176 tf12_34 h176 ?_
      refine rn_bipush i176_179 ?_
      refine fr_aload_n i176_181 rfl ?_
      obtain ⟨v182, h182, h⟩ := Option.bind_eq_some_iff.mp h
      refine fr_gI (k := 19) i176_182 tf12_19 h182 ?_
      refine rn_imul i176_185 ?_
      refine rn_iload_n i176_186 rfl ?_
      refine rn_iadd i176_187 ?_
      refine fr_aload_n i176_188 rfl ?_
      obtain ⟨v189, h189, h⟩ := Option.bind_eq_some_iff.mp h
      refine fr_gI (k := 35) i176_189 tf12_35 h189 ?_
      obtain ⟨w192, h192, h⟩ := Option.bind_eq_some_iff.mp h
      refine rn_iast i176_192 h192 ?_
      obtain rfl := Option.some.inj h
      exact rn_ret i176_193 mr176
    · rw [if_neg c156] at h
      refine rn_if_ge_f i176_156 c156 ?_
      exact rn_sub [] rfl (s_Mo_tellLaw_159 hD r145 r h)
def Mo_tellLaw_12 : Nat → Nat → Int → Int → Int → Wd → Option (Wd)
  | 0, _, _, _, _, _ => none
  | n + 1, a0, x1, x2, x3, w =>
    (fgI w a0 12 13).bind fun v13 =>
    if (v13 : Int) = 0 then
      (Mo_is a0 28 w).bind fun r22 =>
      if (r22.1 : Int) = 0 then
        Mo_tellLaw_129 a0 x1 x2 r22.2
      else
        if (x3 : Int) = 4 then
          (Mo_fail a0 2 r22.2).bind fun r35 =>
          Mo_tellLaw_38 (Mo_tellLaw_12 n) a0 x1 x2 x3 r35
        else
          Mo_tellLaw_38 (Mo_tellLaw_12 n) a0 x1 x2 x3 r22.2
    else
      Mo_tellLaw_129 a0 x1 x2 w
theorem s_Mo_tellLaw_12 {g : Gp} {l : Launch} {D : Nat} (hD : 5 ≤ D) : ∀ (n : Nat) (a0 : Nat) (x1 : Int) (x2 : Int) (x3 : Int) (w : Wd) (r : Wd), Mo_tellLaw_12 n a0 x1 x2 x3 w = some r → Rn g l D 176 12 [(0, .inr (.inr a0)), (1, .inl x1), (2, .inl x2), (3, .inl x3)] [] w none r := by
  obtain ⟨D, rfl⟩ : ∃ D1, D = D1 + 1 := ⟨D - 1, by omega⟩
  intro n
  induction n with
  | zero => intro a0 x1 x2 x3 w r h; cases (show (none : Option (Wd)) = some r from h)
  | succ n ih =>
    intro a0 x1 x2 x3 w r h
    unfold Mo_tellLaw_12 at h
    refine fr_aload_n i176_12 rfl ?_
    obtain ⟨v13, h13, h⟩ := Option.bind_eq_some_iff.mp h
    refine fr_gI (k := 13) i176_13 tf12_13 h13 ?_
    by_cases c16 : (v13 : Int) = 0
    · rw [if_pos c16] at h
      refine rn_if_ne_f i176_16 c16 ?_
      refine fr_aload_n i176_19 rfl ?_
      refine rn_bipush i176_20 ?_
      obtain ⟨r22, h22, h⟩ := Option.bind_eq_some_iff.mp h
      obtain ⟨g22, c22⟩ := S_Mo_is a0 28 w r22 h22
      refine fr_callV (a := a0) (As := [.inl 28]) (st := []) i176_22 (cq159 a0 28) rfl (Nat.le_of_ble_eq_true rfl) g22 (c22 _ (by omega)) ?_
      show Rn _ _ _ _ _ _ [.inl r22.1] _ _ _
      by_cases c25 : (r22.1 : Int) = 0
      · rw [if_pos c25] at h
        refine rn_if_eq_t i176_25 c25 ?_
        exact rn_sub [0, 1, 2] rfl (s_Mo_tellLaw_129 hD a0 x1 x2 r22.2 r h)
      · rw [if_neg c25] at h
        refine rn_if_eq_f i176_25 c25 ?_
        refine rn_iload_n i176_28 rfl ?_
        refine rn_iconst i176_29 ?_
        by_cases c30 : (x3 : Int) = 4
        · rw [if_pos c30] at h
          refine rn_icmp_ne_f i176_30 c30 ?_
          refine fr_aload_n i176_33 rfl ?_
          refine rn_iconst i176_34 ?_
          obtain ⟨r35, h35, h⟩ := Option.bind_eq_some_iff.mp h
          obtain ⟨g35, c35⟩ := S_Mo_fail a0 2 r22.2 r35 h35
          refine fr_callV (a := a0) (As := [.inl 2]) (st := []) i176_35 (cq160 a0 2) rfl (Nat.le_of_ble_eq_true rfl) g35 (c35 _ (by omega)) ?_
          exact rn_sub [0, 1, 2, 3] rfl (s_Mo_tellLaw_38 hD (Mo_tellLaw_12 n) ih a0 x1 x2 x3 r35 r h)
        · rw [if_neg c30] at h
          refine rn_icmp_ne_t i176_30 c30 ?_
          exact rn_sub [0, 1, 2, 3] rfl (s_Mo_tellLaw_38 hD (Mo_tellLaw_12 n) ih a0 x1 x2 x3 r22.2 r h)
    · rw [if_neg c16] at h
      refine rn_if_ne_t i176_16 c16 ?_
      exact rn_sub [0, 1, 2] rfl (s_Mo_tellLaw_129 hD a0 x1 x2 w r h)
def Mo_tellLaw_0 (a0 : Nat) (x1 : Int) (w : Wd) : Option (Wd) :=
  (Mo_must a0 5 w).bind fun r2 =>
  (fgI r2 a0 12 35).bind fun v6 =>
  Mo_tellLaw_12 FU a0 x1 v6 0 r2
theorem s_Mo_tellLaw_0 {g : Gp} {l : Launch} {D : Nat} (hD : 5 ≤ D) (a0 : Nat) (x1 : Int) (w : Wd) (r : Wd) (h : Mo_tellLaw_0 a0 x1 w = some r) : Rn g l D 176 0 [(0, .inr (.inr a0)), (1, .inl x1)] [] w none r := by
  obtain ⟨D, rfl⟩ : ∃ D1, D = D1 + 1 := ⟨D - 1, by omega⟩
  unfold Mo_tellLaw_0 at h
  refine fr_aload_n i176_0 rfl ?_
  refine rn_iconst i176_1 ?_
  obtain ⟨r2, h2, h⟩ := Option.bind_eq_some_iff.mp h
  obtain ⟨g2, c2⟩ := S_Mo_must a0 5 w r2 h2
  refine fr_callV (a := a0) (As := [.inl 5]) (st := []) i176_2 (cq163 a0 5) rfl (Nat.le_of_ble_eq_true rfl) g2 (c2 _ (by omega)) ?_
  refine fr_aload_n i176_5 rfl ?_
  obtain ⟨v6, h6, h⟩ := Option.bind_eq_some_iff.mp h
  refine fr_gI (k := 35) i176_6 tf12_35 h6 ?_
  refine rn_istore_n (ls1 := [(2, .inl v6), (0, .inr (.inr a0)), (1, .inl x1)]) i176_9 rfl ?_
  refine rn_iconst i176_10 ?_
  refine rn_istore_n (ls1 := [(3, .inl 0), (2, .inl v6), (0, .inr (.inr a0)), (1, .inl x1)]) i176_11 rfl ?_
  exact rn_sub [2, 3, 1, 0] rfl (s_Mo_tellLaw_12 hD FU a0 x1 v6 0 r2 r h)
/-- HandHeirsModel.tellLaw(I)V -/
def Mo_tellLaw (a0 : Nat) (x1 : Int) (w : Wd) : Option (Wd) := gd 12 w a0 (Mo_tellLaw_0 a0 x1 w)
theorem S_Mo_tellLaw {g : Gp} {l : Launch} (a0 : Nat) (x1 : Int) (w : Wd) (r : Wd) (h : Mo_tellLaw a0 x1 w = some r) : (wsh w a0).1 = 12 ∧ ∀ D, 5 ≤ D → Rn g l D 176 0 [(0, .inr (.inr a0)), (1, .inl x1)] [] w none r := by
  obtain ⟨hg, h⟩ := gd_some h
  exact ⟨hg, fun D hD => rn_sub [0, 1] rfl (s_Mo_tellLaw_0 hD a0 x1 w r h)⟩
def Mo_tellMaster_0 (a0 : Nat) (w : Wd) : Option (Wd) :=
  (Mo_named a0 w).bind fun r1 =>
  (fgR r1.2 a0 12 29).bind fun v7 =>
  (fgI r1.2 a0 12 19).bind fun v11 =>
  (rdI r1.2 v7 v11).bind fun v14 =>
  (Mo_tellLaw a0 v14 r1.2).bind fun r15 =>
  (fgI r15 a0 12 13).bind fun v19 =>
  if (v19 : Int) ≤ 0 then
    (Mo_notes a0 (r1.1) (-1) r15).bind fun r29 =>
    (fgR r29 a0 12 29).bind fun v33 =>
    (fgI r29 a0 12 19).bind fun v37 =>
    (rdI r29 v33 v37).bind fun v41 =>
    (wrI r29 v33 v37 (w32 (v41 + 1))).bind fun w44 =>
    some w44
  else
    some r15
theorem s_Mo_tellMaster_0 {g : Gp} {l : Launch} {D : Nat} (hD : 6 ≤ D) (a0 : Nat) (w : Wd) (r : Wd) (h : Mo_tellMaster_0 a0 w = some r) : Rn g l D 175 0 [(0, .inr (.inr a0))] [] w none r := by
  obtain ⟨D, rfl⟩ : ∃ D1, D = D1 + 1 := ⟨D - 1, by omega⟩
  unfold Mo_tellMaster_0 at h
  refine fr_aload_n i175_0 rfl ?_
  obtain ⟨r1, h1, h⟩ := Option.bind_eq_some_iff.mp h
  obtain ⟨g1, c1⟩ := S_Mo_named a0 w r1 h1
  refine fr_callV (a := a0) (As := []) (st := []) i175_1 (cq169 a0) rfl (Nat.le_of_ble_eq_true rfl) g1 (c1 _ (by omega)) ?_
  show Rn _ _ _ _ _ _ [.inl r1.1] _ _ _
  refine rn_istore_n (ls1 := [(1, .inl r1.1), (0, .inr (.inr a0))]) i175_4 rfl ?_
  refine fr_aload_n i175_5 rfl ?_
  refine fr_aload_n i175_6 rfl ?_
  obtain ⟨v7, h7, h⟩ := Option.bind_eq_some_iff.mp h
  refine fr_gR (k := 29) i175_7 tf12_29 h7 ?_
  refine fr_aload_n i175_10 rfl ?_
  obtain ⟨v11, h11, h⟩ := Option.bind_eq_some_iff.mp h
  refine fr_gI (k := 19) i175_11 tf12_19 h11 ?_
  obtain ⟨v14, h14, h⟩ := Option.bind_eq_some_iff.mp h
  refine rn_iald i175_14 h14 ?_
  obtain ⟨r15, h15, h⟩ := Option.bind_eq_some_iff.mp h
  obtain ⟨g15, c15⟩ := S_Mo_tellLaw a0 v14 r1.2 r15 h15
  refine fr_callV (a := a0) (As := [.inl v14]) (st := []) i175_15 (cq176 a0 v14) rfl (Nat.le_of_ble_eq_true rfl) g15 (c15 _ (by omega)) ?_
  refine fr_aload_n i175_18 rfl ?_
  obtain ⟨v19, h19, h⟩ := Option.bind_eq_some_iff.mp h
  refine fr_gI (k := 13) i175_19 tf12_13 h19 ?_
  by_cases c22 : (v19 : Int) ≤ 0
  · rw [if_pos c22] at h
    refine rn_if_le_t i175_22 c22 ?_
    refine fr_aload_n i175_26 rfl ?_
    refine rn_iload_n i175_27 rfl ?_
    refine rn_iconst i175_28 ?_
    obtain ⟨r29, h29, h⟩ := Option.bind_eq_some_iff.mp h
    obtain ⟨g29, c29⟩ := S_Mo_notes a0 (r1.1) (-1) r15 r29 h29
    refine fr_callV (a := a0) (As := [.inl r1.1, .inl (-1)]) (st := []) i175_29 (cq170 a0 (r1.1) (-1)) rfl (Nat.le_of_ble_eq_true rfl) g29 (c29 _ (by omega)) ?_
    refine fr_aload_n i175_32 rfl ?_
    obtain ⟨v33, h33, h⟩ := Option.bind_eq_some_iff.mp h
    refine fr_gR (k := 29) i175_33 tf12_29 h33 ?_
    refine fr_aload_n i175_36 rfl ?_
    obtain ⟨v37, h37, h⟩ := Option.bind_eq_some_iff.mp h
    refine fr_gI (k := 19) i175_37 tf12_19 h37 ?_
    refine rn_dup2 i175_40 rfl rfl ?_
    obtain ⟨v41, h41, h⟩ := Option.bind_eq_some_iff.mp h
    refine rn_iald i175_41 h41 ?_
    refine rn_iconst i175_42 ?_
    refine rn_iadd i175_43 ?_
    obtain ⟨w44, h44, h⟩ := Option.bind_eq_some_iff.mp h
    refine rn_iast i175_44 h44 ?_
    obtain rfl := Option.some.inj h
    exact rn_ret i175_45 mr175
  · rw [if_neg c22] at h
    refine rn_if_le_f i175_22 c22 ?_
    obtain rfl := Option.some.inj h
    exact rn_ret i175_25 mr175
/-- HandHeirsModel.tellMaster()V -/
def Mo_tellMaster (a0 : Nat) (w : Wd) : Option (Wd) := gd 12 w a0 (Mo_tellMaster_0 a0 w)
theorem S_Mo_tellMaster {g : Gp} {l : Launch} (a0 : Nat) (w : Wd) (r : Wd) (h : Mo_tellMaster a0 w = some r) : (wsh w a0).1 = 12 ∧ ∀ D, 6 ≤ D → Rn g l D 175 0 [(0, .inr (.inr a0))] [] w none r := by
  obtain ⟨hg, h⟩ := gd_some h
  exact ⟨hg, fun D hD => rn_sub [0] rfl (s_Mo_tellMaster_0 hD a0 w r h)⟩
def Mo_tellText_273 (w : Wd) : Option (Wd) :=
  some w
theorem s_Mo_tellText_273 {g : Gp} {l : Launch} {D : Nat} (hD : 7 ≤ D) (w : Wd) (r : Wd) (h : Mo_tellText_273 w = some r) : Rn g l D 168 273 [] [] w none r := by
  unfold Mo_tellText_273 at h
  obtain rfl := Option.some.inj h
  exact rn_ret i168_273 mr168
def Mo_tellText_163 (s0 : Int) (s1 : Nat) (w : Wd) : Option (Wd) :=
  (Mo_tellLaw s1 s0 w).bind fun r163 =>
  Mo_tellText_273 r163
theorem s_Mo_tellText_163 {g : Gp} {l : Launch} {D : Nat} (hD : 7 ≤ D) (s0 : Int) (s1 : Nat) (w : Wd) (r : Wd) (h : Mo_tellText_163 s0 s1 w = some r) : Rn g l D 168 163 [] [.inl s0, .inr (.inr s1)] w none r := by
  obtain ⟨D, rfl⟩ : ∃ D1, D = D1 + 1 := ⟨D - 1, by omega⟩
  unfold Mo_tellText_163 at h
  obtain ⟨r163, h163, h⟩ := Option.bind_eq_some_iff.mp h
  obtain ⟨g163, c163⟩ := S_Mo_tellLaw s1 s0 w r163 h163
  refine fr_callV (a := s1) (As := [.inl s0]) (st := []) i168_163 (cq176 s1 s0) rfl (Nat.le_of_ble_eq_true rfl) g163 (c163 _ (by omega)) ?_
  refine rn_goto i168_166 ?_
  exact rn_sub [] rfl (s_Mo_tellText_273 hD r163 r h)
def Mo_tellText_0 (a0 : Nat) (w : Wd) : Option (Wd) :=
  (fgR w a0 12 5).bind fun v1 =>
  (fgI w a0 12 11).bind fun v5 =>
  (rdI w v1 v5).bind fun v8 =>
  if (v8 : Int) = 20 then
    (fgR w a0 12 23).bind fun v58 =>
    (fgI w a0 12 19).bind fun v62 =>
    (rdI w v58 v62).bind fun v65 =>
    (Mo_roomFor a0 v65 6 w).bind fun r68 =>
    (fgI r68 a0 12 13).bind fun v72 =>
    if (v72 : Int) = 0 then
      (Mo_tellLetter a0 r68).bind fun r79 =>
      Mo_tellText_273 r79
    else
      Mo_tellText_273 r68
  else
    if (v8 : Int) = 21 then
      (fgR w a0 12 25).bind fun v87 =>
      (fgI w a0 12 19).bind fun v91 =>
      (rdI w v87 v91).bind fun v94 =>
      (Mo_roomFor a0 v94 6 w).bind fun r97 =>
      (fgI r97 a0 12 13).bind fun v101 =>
      if (v101 : Int) = 0 then
        (Mo_tellHeir a0 r97).bind fun r108 =>
        Mo_tellText_273 r108
      else
        Mo_tellText_273 r97
    else
      if (v8 : Int) = 22 then
        (fgR w a0 12 29).bind fun v116 =>
        (fgI w a0 12 19).bind fun v120 =>
        (rdI w v116 v120).bind fun v123 =>
        (Mo_roomFor a0 v123 3 w).bind fun r125 =>
        (fgI r125 a0 12 13).bind fun v129 =>
        if (v129 : Int) = 0 then
          (Mo_tellMaster a0 r125).bind fun r136 =>
          Mo_tellText_273 r136
        else
          Mo_tellText_273 r125
      else
        if (v8 : Int) = 23 then
          (Mo_goesOn a0 w).bind fun r143 =>
          (Mo_known a0 r143).bind fun r147 =>
          if (0 : Int) ≤ r147.1 then
            Mo_tellText_163 (w32 (3 + r147.1)) a0 r147.2
          else
            Mo_tellText_163 (-1) a0 r147.2
        else
          if (v8 : Int) = 24 then
            (Mo_goesOn a0 w).bind fun r170 =>
            (Mo_tellLaw a0 9 r170).bind fun r176 =>
            Mo_tellText_273 r176
          else
            if (v8 : Int) = 25 then
              (Mo_goesOn a0 w).bind fun r183 =>
              (fgR r183 a0 12 30).bind fun v187 =>
              (fgI r183 a0 12 19).bind fun v191 =>
              (Mo_bounded a0 0 9 r183).bind fun r198 =>
              (wrI r198.2 v187 v191 r198.1).bind fun w201 =>
              (Mo_must a0 4 w201).bind fun r204 =>
              Mo_tellText_273 r204
            else
              if (v8 : Int) = 26 then
                (Mo_goesOn a0 w).bind fun r211 =>
                (fgR r211 a0 12 31).bind fun v215 =>
                (fgI r211 a0 12 19).bind fun v219 =>
                (Mo_bounded a0 0 9999 r211).bind fun r227 =>
                (wrI r227.2 v215 v219 r227.1).bind fun w230 =>
                (Mo_must a0 4 w230).bind fun r233 =>
                Mo_tellText_273 r233
              else
                if (v8 : Int) = 27 then
                  (Mo_goesOn a0 w).bind fun r240 =>
                  (fgR r240 a0 12 32).bind fun v244 =>
                  (fgI r240 a0 12 19).bind fun v248 =>
                  (Mo_bounded a0 0 9999 r240).bind fun r256 =>
                  (wrI r256.2 v244 v248 r256.1).bind fun w259 =>
                  (Mo_must a0 4 w259).bind fun r262 =>
                  Mo_tellText_273 r262
                else
                  (Mo_fail a0 1 w).bind fun r270 =>
                  Mo_tellText_273 r270
theorem s_Mo_tellText_0 {g : Gp} {l : Launch} {D : Nat} (hD : 7 ≤ D) (a0 : Nat) (w : Wd) (r : Wd) (h : Mo_tellText_0 a0 w = some r) : Rn g l D 168 0 [(0, .inr (.inr a0))] [] w none r := by
  obtain ⟨D, rfl⟩ : ∃ D1, D = D1 + 1 := ⟨D - 1, by omega⟩
  unfold Mo_tellText_0 at h
  refine fr_aload_n i168_0 rfl ?_
  obtain ⟨v1, h1, h⟩ := Option.bind_eq_some_iff.mp h
  refine fr_gR (k := 5) i168_1 tf12_5 h1 ?_
  refine fr_aload_n i168_4 rfl ?_
  obtain ⟨v5, h5, h⟩ := Option.bind_eq_some_iff.mp h
  refine fr_gI (k := 11) i168_5 tf12_11 h5 ?_
  obtain ⟨v8, h8, h⟩ := Option.bind_eq_some_iff.mp h
  refine rn_iald i168_8 h8 ?_
  by_cases c9_0 : (v8 : Int) = 20
  · rw [if_pos c9_0] at h
    refine rn_tsw_in (tgt := 56) i168_9 0 (by omega) (by omega) rfl rfl ?_
    refine fr_aload_n i168_56 rfl ?_
    refine fr_aload_n i168_57 rfl ?_
    obtain ⟨v58, h58, h⟩ := Option.bind_eq_some_iff.mp h
    refine fr_gR (k := 23) i168_58 tf12_23 h58 ?_
    refine fr_aload_n i168_61 rfl ?_
    obtain ⟨v62, h62, h⟩ := Option.bind_eq_some_iff.mp h
    refine fr_gI (k := 19) i168_62 tf12_19 h62 ?_
    obtain ⟨v65, h65, h⟩ := Option.bind_eq_some_iff.mp h
    refine rn_iald i168_65 h65 ?_
    refine rn_bipush i168_66 ?_
    obtain ⟨r68, h68, h⟩ := Option.bind_eq_some_iff.mp h
    obtain ⟨g68, c68⟩ := S_Mo_roomFor a0 v65 6 w r68 h68
    refine fr_callV (a := a0) (As := [.inl v65, .inl 6]) (st := []) i168_68 (cq167 a0 v65 6) rfl (Nat.le_of_ble_eq_true rfl) g68 (c68 _ (by omega)) ?_
    refine fr_aload_n i168_71 rfl ?_
    obtain ⟨v72, h72, h⟩ := Option.bind_eq_some_iff.mp h
    refine fr_gI (k := 13) i168_72 tf12_13 h72 ?_
    by_cases c75 : (v72 : Int) = 0
    · rw [if_pos c75] at h
      refine rn_if_ne_f i168_75 c75 ?_
      refine fr_aload_n i168_78 rfl ?_
      obtain ⟨r79, h79, h⟩ := Option.bind_eq_some_iff.mp h
      obtain ⟨g79, c79⟩ := S_Mo_tellLetter a0 r68 r79 h79
      refine fr_callV (a := a0) (As := []) (st := []) i168_79 (cq173 a0) rfl (Nat.le_of_ble_eq_true rfl) g79 (c79 _ (by omega)) ?_
      refine rn_goto i168_82 ?_
      exact rn_sub [] rfl (s_Mo_tellText_273 hD r79 r h)
    · rw [if_neg c75] at h
      refine rn_if_ne_t i168_75 c75 ?_
      exact rn_sub [] rfl (s_Mo_tellText_273 hD r68 r h)
  · rw [if_neg c9_0] at h
    by_cases c9_1 : (v8 : Int) = 21
    · rw [if_pos c9_1] at h
      refine rn_tsw_in (tgt := 85) i168_9 1 (by omega) (by omega) rfl rfl ?_
      refine fr_aload_n i168_85 rfl ?_
      refine fr_aload_n i168_86 rfl ?_
      obtain ⟨v87, h87, h⟩ := Option.bind_eq_some_iff.mp h
      refine fr_gR (k := 25) i168_87 tf12_25 h87 ?_
      refine fr_aload_n i168_90 rfl ?_
      obtain ⟨v91, h91, h⟩ := Option.bind_eq_some_iff.mp h
      refine fr_gI (k := 19) i168_91 tf12_19 h91 ?_
      obtain ⟨v94, h94, h⟩ := Option.bind_eq_some_iff.mp h
      refine rn_iald i168_94 h94 ?_
      refine rn_bipush i168_95 ?_
      obtain ⟨r97, h97, h⟩ := Option.bind_eq_some_iff.mp h
      obtain ⟨g97, c97⟩ := S_Mo_roomFor a0 v94 6 w r97 h97
      refine fr_callV (a := a0) (As := [.inl v94, .inl 6]) (st := []) i168_97 (cq167 a0 v94 6) rfl (Nat.le_of_ble_eq_true rfl) g97 (c97 _ (by omega)) ?_
      refine fr_aload_n i168_100 rfl ?_
      obtain ⟨v101, h101, h⟩ := Option.bind_eq_some_iff.mp h
      refine fr_gI (k := 13) i168_101 tf12_13 h101 ?_
      by_cases c104 : (v101 : Int) = 0
      · rw [if_pos c104] at h
        refine rn_if_ne_f i168_104 c104 ?_
        refine fr_aload_n i168_107 rfl ?_
        obtain ⟨r108, h108, h⟩ := Option.bind_eq_some_iff.mp h
        obtain ⟨g108, c108⟩ := S_Mo_tellHeir a0 r97 r108 h108
        refine fr_callV (a := a0) (As := []) (st := []) i168_108 (cq174 a0) rfl (Nat.le_of_ble_eq_true rfl) g108 (c108 _ (by omega)) ?_
        refine rn_goto i168_111 ?_
        exact rn_sub [] rfl (s_Mo_tellText_273 hD r108 r h)
      · rw [if_neg c104] at h
        refine rn_if_ne_t i168_104 c104 ?_
        exact rn_sub [] rfl (s_Mo_tellText_273 hD r97 r h)
    · rw [if_neg c9_1] at h
      by_cases c9_2 : (v8 : Int) = 22
      · rw [if_pos c9_2] at h
        refine rn_tsw_in (tgt := 114) i168_9 2 (by omega) (by omega) rfl rfl ?_
        refine fr_aload_n i168_114 rfl ?_
        refine fr_aload_n i168_115 rfl ?_
        obtain ⟨v116, h116, h⟩ := Option.bind_eq_some_iff.mp h
        refine fr_gR (k := 29) i168_116 tf12_29 h116 ?_
        refine fr_aload_n i168_119 rfl ?_
        obtain ⟨v120, h120, h⟩ := Option.bind_eq_some_iff.mp h
        refine fr_gI (k := 19) i168_120 tf12_19 h120 ?_
        obtain ⟨v123, h123, h⟩ := Option.bind_eq_some_iff.mp h
        refine rn_iald i168_123 h123 ?_
        refine rn_iconst i168_124 ?_
        obtain ⟨r125, h125, h⟩ := Option.bind_eq_some_iff.mp h
        obtain ⟨g125, c125⟩ := S_Mo_roomFor a0 v123 3 w r125 h125
        refine fr_callV (a := a0) (As := [.inl v123, .inl 3]) (st := []) i168_125 (cq167 a0 v123 3) rfl (Nat.le_of_ble_eq_true rfl) g125 (c125 _ (by omega)) ?_
        refine fr_aload_n i168_128 rfl ?_
        obtain ⟨v129, h129, h⟩ := Option.bind_eq_some_iff.mp h
        refine fr_gI (k := 13) i168_129 tf12_13 h129 ?_
        by_cases c132 : (v129 : Int) = 0
        · rw [if_pos c132] at h
          refine rn_if_ne_f i168_132 c132 ?_
          refine fr_aload_n i168_135 rfl ?_
          obtain ⟨r136, h136, h⟩ := Option.bind_eq_some_iff.mp h
          obtain ⟨g136, c136⟩ := S_Mo_tellMaster a0 r125 r136 h136
          refine fr_callV (a := a0) (As := []) (st := []) i168_136 (cq175 a0) rfl (Nat.le_of_ble_eq_true rfl) g136 (c136 _ (by omega)) ?_
          refine rn_goto i168_139 ?_
          exact rn_sub [] rfl (s_Mo_tellText_273 hD r136 r h)
        · rw [if_neg c132] at h
          refine rn_if_ne_t i168_132 c132 ?_
          exact rn_sub [] rfl (s_Mo_tellText_273 hD r125 r h)
      · rw [if_neg c9_2] at h
        by_cases c9_3 : (v8 : Int) = 23
        · rw [if_pos c9_3] at h
          refine rn_tsw_in (tgt := 142) i168_9 3 (by omega) (by omega) rfl rfl ?_
          refine fr_aload_n i168_142 rfl ?_
          obtain ⟨r143, h143, h⟩ := Option.bind_eq_some_iff.mp h
          obtain ⟨g143, c143⟩ := S_Mo_goesOn a0 w r143 h143
          refine fr_callV (a := a0) (As := []) (st := []) i168_143 (cq162 a0) rfl (Nat.le_of_ble_eq_true rfl) g143 (c143 _ (by omega)) ?_
          refine fr_aload_n i168_146 rfl ?_
          obtain ⟨r147, h147, h⟩ := Option.bind_eq_some_iff.mp h
          obtain ⟨g147, c147⟩ := S_Mo_known a0 r143 r147 h147
          refine fr_callV (a := a0) (As := []) (st := []) i168_147 (cq171 a0) rfl (Nat.le_of_ble_eq_true rfl) g147 (c147 _ (by omega)) ?_
          show Rn _ _ _ _ _ _ [.inl r147.1] _ _ _
          refine rn_istore_n (ls1 := [(1, .inl r147.1), (0, .inr (.inr a0))]) i168_150 rfl ?_
          refine fr_aload_n i168_151 rfl ?_
          refine rn_iload_n i168_152 rfl ?_
          by_cases c153 : (0 : Int) ≤ r147.1
          · rw [if_pos c153] at h
            refine rn_if_ge_t i168_153 c153 ?_
            refine rn_iconst i168_160 ?_
            refine rn_iload_n i168_161 rfl ?_
            refine rn_iadd i168_162 ?_
            exact rn_sub [] rfl (s_Mo_tellText_163 hD (w32 (3 + r147.1)) a0 r147.2 r h)
          · rw [if_neg c153] at h
            refine rn_if_ge_f i168_153 c153 ?_
            refine rn_iconst i168_156 ?_
            refine rn_goto i168_157 ?_
            exact rn_sub [] rfl (s_Mo_tellText_163 hD (-1) a0 r147.2 r h)
        · rw [if_neg c9_3] at h
          by_cases c9_4 : (v8 : Int) = 24
          · rw [if_pos c9_4] at h
            refine rn_tsw_in (tgt := 169) i168_9 4 (by omega) (by omega) rfl rfl ?_
            refine fr_aload_n i168_169 rfl ?_
            obtain ⟨r170, h170, h⟩ := Option.bind_eq_some_iff.mp h
            obtain ⟨g170, c170⟩ := S_Mo_goesOn a0 w r170 h170
            refine fr_callV (a := a0) (As := []) (st := []) i168_170 (cq162 a0) rfl (Nat.le_of_ble_eq_true rfl) g170 (c170 _ (by omega)) ?_
            refine fr_aload_n i168_173 rfl ?_
            refine rn_bipush i168_174 ?_
            obtain ⟨r176, h176, h⟩ := Option.bind_eq_some_iff.mp h
            obtain ⟨g176, c176⟩ := S_Mo_tellLaw a0 9 r170 r176 h176
            refine fr_callV (a := a0) (As := [.inl 9]) (st := []) i168_176 (cq176 a0 9) rfl (Nat.le_of_ble_eq_true rfl) g176 (c176 _ (by omega)) ?_
            refine rn_goto i168_179 ?_
            exact rn_sub [] rfl (s_Mo_tellText_273 hD r176 r h)
          · rw [if_neg c9_4] at h
            by_cases c9_5 : (v8 : Int) = 25
            · rw [if_pos c9_5] at h
              refine rn_tsw_in (tgt := 182) i168_9 5 (by omega) (by omega) rfl rfl ?_
              refine fr_aload_n i168_182 rfl ?_
              obtain ⟨r183, h183, h⟩ := Option.bind_eq_some_iff.mp h
              obtain ⟨g183, c183⟩ := S_Mo_goesOn a0 w r183 h183
              refine fr_callV (a := a0) (As := []) (st := []) i168_183 (cq162 a0) rfl (Nat.le_of_ble_eq_true rfl) g183 (c183 _ (by omega)) ?_
              refine fr_aload_n i168_186 rfl ?_
              obtain ⟨v187, h187, h⟩ := Option.bind_eq_some_iff.mp h
              refine fr_gR (k := 30) i168_187 tf12_30 h187 ?_
              refine fr_aload_n i168_190 rfl ?_
              obtain ⟨v191, h191, h⟩ := Option.bind_eq_some_iff.mp h
              refine fr_gI (k := 19) i168_191 tf12_19 h191 ?_
              refine fr_aload_n i168_194 rfl ?_
              refine rn_iconst i168_195 ?_
              refine rn_bipush i168_196 ?_
              obtain ⟨r198, h198, h⟩ := Option.bind_eq_some_iff.mp h
              obtain ⟨g198, c198⟩ := S_Mo_bounded a0 0 9 r183 r198 h198
              refine fr_callV (a := a0) (As := [.inl 0, .inl 9]) (st := [.inl v191, .inr (.inr v187)]) i168_198 (cq172 a0 0 9) rfl (Nat.le_of_ble_eq_true rfl) g198 (c198 _ (by omega)) ?_
              show Rn _ _ _ _ _ _ [.inl r198.1, .inl v191, .inr (.inr v187)] _ _ _
              obtain ⟨w201, h201, h⟩ := Option.bind_eq_some_iff.mp h
              refine rn_iast i168_201 h201 ?_
              refine fr_aload_n i168_202 rfl ?_
              refine rn_iconst i168_203 ?_
              obtain ⟨r204, h204, h⟩ := Option.bind_eq_some_iff.mp h
              obtain ⟨g204, c204⟩ := S_Mo_must a0 4 w201 r204 h204
              refine fr_callV (a := a0) (As := [.inl 4]) (st := []) i168_204 (cq163 a0 4) rfl (Nat.le_of_ble_eq_true rfl) g204 (c204 _ (by omega)) ?_
              refine rn_goto i168_207 ?_
              exact rn_sub [] rfl (s_Mo_tellText_273 hD r204 r h)
            · rw [if_neg c9_5] at h
              by_cases c9_6 : (v8 : Int) = 26
              · rw [if_pos c9_6] at h
                refine rn_tsw_in (tgt := 210) i168_9 6 (by omega) (by omega) rfl rfl ?_
                refine fr_aload_n i168_210 rfl ?_
                obtain ⟨r211, h211, h⟩ := Option.bind_eq_some_iff.mp h
                obtain ⟨g211, c211⟩ := S_Mo_goesOn a0 w r211 h211
                refine fr_callV (a := a0) (As := []) (st := []) i168_211 (cq162 a0) rfl (Nat.le_of_ble_eq_true rfl) g211 (c211 _ (by omega)) ?_
                refine fr_aload_n i168_214 rfl ?_
                obtain ⟨v215, h215, h⟩ := Option.bind_eq_some_iff.mp h
                refine fr_gR (k := 31) i168_215 tf12_31 h215 ?_
                refine fr_aload_n i168_218 rfl ?_
                obtain ⟨v219, h219, h⟩ := Option.bind_eq_some_iff.mp h
                refine fr_gI (k := 19) i168_219 tf12_19 h219 ?_
                refine fr_aload_n i168_222 rfl ?_
                refine rn_iconst i168_223 ?_
                refine rn_sipush i168_224 ?_
                obtain ⟨r227, h227, h⟩ := Option.bind_eq_some_iff.mp h
                obtain ⟨g227, c227⟩ := S_Mo_bounded a0 0 9999 r211 r227 h227
                refine fr_callV (a := a0) (As := [.inl 0, .inl 9999]) (st := [.inl v219, .inr (.inr v215)]) i168_227 (cq172 a0 0 9999) rfl (Nat.le_of_ble_eq_true rfl) g227 (c227 _ (by omega)) ?_
                show Rn _ _ _ _ _ _ [.inl r227.1, .inl v219, .inr (.inr v215)] _ _ _
                obtain ⟨w230, h230, h⟩ := Option.bind_eq_some_iff.mp h
                refine rn_iast i168_230 h230 ?_
                refine fr_aload_n i168_231 rfl ?_
                refine rn_iconst i168_232 ?_
                obtain ⟨r233, h233, h⟩ := Option.bind_eq_some_iff.mp h
                obtain ⟨g233, c233⟩ := S_Mo_must a0 4 w230 r233 h233
                refine fr_callV (a := a0) (As := [.inl 4]) (st := []) i168_233 (cq163 a0 4) rfl (Nat.le_of_ble_eq_true rfl) g233 (c233 _ (by omega)) ?_
                refine rn_goto i168_236 ?_
                exact rn_sub [] rfl (s_Mo_tellText_273 hD r233 r h)
              · rw [if_neg c9_6] at h
                by_cases c9_7 : (v8 : Int) = 27
                · rw [if_pos c9_7] at h
                  refine rn_tsw_in (tgt := 239) i168_9 7 (by omega) (by omega) rfl rfl ?_
                  refine fr_aload_n i168_239 rfl ?_
                  obtain ⟨r240, h240, h⟩ := Option.bind_eq_some_iff.mp h
                  obtain ⟨g240, c240⟩ := S_Mo_goesOn a0 w r240 h240
                  refine fr_callV (a := a0) (As := []) (st := []) i168_240 (cq162 a0) rfl (Nat.le_of_ble_eq_true rfl) g240 (c240 _ (by omega)) ?_
                  refine fr_aload_n i168_243 rfl ?_
                  obtain ⟨v244, h244, h⟩ := Option.bind_eq_some_iff.mp h
                  refine fr_gR (k := 32) i168_244 tf12_32 h244 ?_
                  refine fr_aload_n i168_247 rfl ?_
                  obtain ⟨v248, h248, h⟩ := Option.bind_eq_some_iff.mp h
                  refine fr_gI (k := 19) i168_248 tf12_19 h248 ?_
                  refine fr_aload_n i168_251 rfl ?_
                  refine rn_iconst i168_252 ?_
                  refine rn_sipush i168_253 ?_
                  obtain ⟨r256, h256, h⟩ := Option.bind_eq_some_iff.mp h
                  obtain ⟨g256, c256⟩ := S_Mo_bounded a0 0 9999 r240 r256 h256
                  refine fr_callV (a := a0) (As := [.inl 0, .inl 9999]) (st := [.inl v248, .inr (.inr v244)]) i168_256 (cq172 a0 0 9999) rfl (Nat.le_of_ble_eq_true rfl) g256 (c256 _ (by omega)) ?_
                  show Rn _ _ _ _ _ _ [.inl r256.1, .inl v248, .inr (.inr v244)] _ _ _
                  obtain ⟨w259, h259, h⟩ := Option.bind_eq_some_iff.mp h
                  refine rn_iast i168_259 h259 ?_
                  refine fr_aload_n i168_260 rfl ?_
                  refine rn_iconst i168_261 ?_
                  obtain ⟨r262, h262, h⟩ := Option.bind_eq_some_iff.mp h
                  obtain ⟨g262, c262⟩ := S_Mo_must a0 4 w259 r262 h262
                  refine fr_callV (a := a0) (As := [.inl 4]) (st := []) i168_262 (cq163 a0 4) rfl (Nat.le_of_ble_eq_true rfl) g262 (c262 _ (by omega)) ?_
                  refine rn_goto i168_265 ?_
                  exact rn_sub [] rfl (s_Mo_tellText_273 hD r262 r h)
                · rw [if_neg c9_7] at h
                  refine rn_tsw_out (tgt := 268) i168_9 (by omega) rfl ?_
                  refine fr_aload_n i168_268 rfl ?_
                  refine rn_iconst i168_269 ?_
                  obtain ⟨r270, h270, h⟩ := Option.bind_eq_some_iff.mp h
                  obtain ⟨g270, c270⟩ := S_Mo_fail a0 1 w r270 h270
                  refine fr_callV (a := a0) (As := [.inl 1]) (st := []) i168_270 (cq160 a0 1) rfl (Nat.le_of_ble_eq_true rfl) g270 (c270 _ (by omega)) ?_
                  exact rn_sub [] rfl (s_Mo_tellText_273 hD r270 r h)
/-- HandHeirsModel.tell()V -/
def Mo_tellText (a0 : Nat) (w : Wd) : Option (Wd) := gd 12 w a0 (Mo_tellText_0 a0 w)
theorem S_Mo_tellText {g : Gp} {l : Launch} (a0 : Nat) (w : Wd) (r : Wd) (h : Mo_tellText a0 w = some r) : (wsh w a0).1 = 12 ∧ ∀ D, 7 ≤ D → Rn g l D 168 0 [(0, .inr (.inr a0))] [] w none r := by
  obtain ⟨hg, h⟩ := gd_some h
  exact ⟨hg, fun D hD => rn_sub [0] rfl (s_Mo_tellText_0 hD a0 w r h)⟩
def Mo_read_215 : Nat → Nat → Int → Wd → Option (Int × Wd)
  | 0, _, _, _ => none
  | n + 1, a0, x1, w =>
    if (3 : Int) ≤ x1 then
      some (0, w)
    else
      (fgR w a0 12 66).bind fun v221 =>
      (wrB w v221 x1 0).bind fun w226 =>
      Mo_read_215 n a0 (w32 (x1 + 1)) w226
theorem s_Mo_read_215 {g : Gp} {l : Launch} {D : Nat} (hD : 8 ≤ D) : ∀ (n : Nat) (a0 : Nat) (x1 : Int) (w : Wd) (r : Int × Wd), Mo_read_215 n a0 x1 w = some r → Rn g l D 165 215 [(0, .inr (.inr a0)), (1, .inl x1)] [] w (some (.inl r.1)) r.2 := by
  intro n
  induction n with
  | zero => intro a0 x1 w r h; cases (show (none : Option (Int × Wd)) = some r from h)
  | succ n ih =>
    intro a0 x1 w r h
    unfold Mo_read_215 at h
    refine rn_iload_n i165_215 rfl ?_
    refine rn_iconst i165_216 ?_
    by_cases c217 : (3 : Int) ≤ x1
    · rw [if_pos c217] at h
      refine rn_icmp_ge_t i165_217 c217 ?_
      refine rn_iconst i165_233 ?_
      obtain rfl := Option.some.inj h
      exact rn_retI i165_234 mr165
    · rw [if_neg c217] at h
      refine rn_icmp_ge_f i165_217 c217 ?_
      refine fr_aload_n i165_220 rfl ?_
      obtain ⟨v221, h221, h⟩ := Option.bind_eq_some_iff.mp h
      refine fr_gR (k := 66) i165_221 tf12_66 h221 ?_
      refine rn_iload_n i165_224 rfl ?_
      refine rn_iconst i165_225 ?_
      obtain ⟨w226, h226, h⟩ := Option.bind_eq_some_iff.mp h
      refine rn_bast i165_226 h226 ?_
      refine rn_iinc (ls1 := [(1, .inl (w32 (x1 + 1))), (0, .inr (.inr a0))]) i165_227 rfl rfl ?_
      refine rn_goto i165_230 ?_
      exact rn_sub [1, 0] rfl (ih a0 (w32 (x1 + 1)) w226 r h)
def Mo_read_164 (a0 : Nat) (s0 : Int) (s1 : Nat) (w : Wd) : Option (Int × Wd) :=
  (fpI w s1 12 17 s0).bind fun w164 =>
  (fgI w164 a0 12 13).bind fun v168 =>
  if (v168 : Int) ≤ 0 then
    (fgI w164 a0 12 15).bind fun v180 =>
    if (v180 : Int) ≤ 0 then
      (fgI w164 a0 12 19).bind fun v193 =>
      (fpI w164 a0 12 18 v193).bind fun w196 =>
      (Mo_begins a0 w196).bind fun r200 =>
      (fpI r200 a0 12 58 0).bind fun w205 =>
      (fpI w205 a0 12 63 0).bind fun w210 =>
      Mo_read_215 FU a0 0 w210
    else
      (fgI w164 a0 12 15).bind fun v187 =>
      some (v187, w164)
  else
    (fgI w164 a0 12 13).bind fun v175 =>
    some (v175, w164)
theorem s_Mo_read_164 {g : Gp} {l : Launch} {D : Nat} (hD : 8 ≤ D) (a0 : Nat) (s0 : Int) (s1 : Nat) (w : Wd) (r : Int × Wd) (h : Mo_read_164 a0 s0 s1 w = some r) : Rn g l D 165 164 [(0, .inr (.inr a0))] [.inl s0, .inr (.inr s1)] w (some (.inl r.1)) r.2 := by
  obtain ⟨D, rfl⟩ : ∃ D1, D = D1 + 1 := ⟨D - 1, by omega⟩
  unfold Mo_read_164 at h
  obtain ⟨w164, h164, h⟩ := Option.bind_eq_some_iff.mp h
  refine fr_pI (k := 17) i165_164 (pf12_17 165) h164 ?_
  refine fr_aload_n i165_167 rfl ?_
  obtain ⟨v168, h168, h⟩ := Option.bind_eq_some_iff.mp h
  refine fr_gI (k := 13) i165_168 tf12_13 h168 ?_
  by_cases c171 : (v168 : Int) ≤ 0
  · rw [if_pos c171] at h
    refine rn_if_le_t i165_171 c171 ?_
    refine fr_aload_n i165_179 rfl ?_
    obtain ⟨v180, h180, h⟩ := Option.bind_eq_some_iff.mp h
    refine fr_gI (k := 15) i165_180 tf12_15 h180 ?_
    by_cases c183 : (v180 : Int) ≤ 0
    · rw [if_pos c183] at h
      refine rn_if_le_t i165_183 c183 ?_
      refine fr_aload_n i165_191 rfl ?_
      refine fr_aload_n i165_192 rfl ?_
      obtain ⟨v193, h193, h⟩ := Option.bind_eq_some_iff.mp h
      refine fr_gI (k := 19) i165_193 tf12_19 h193 ?_
      obtain ⟨w196, h196, h⟩ := Option.bind_eq_some_iff.mp h
      refine fr_pI (k := 18) i165_196 (pf12_18 165) h196 ?_
      refine fr_aload_n i165_199 rfl ?_
      obtain ⟨r200, h200, h⟩ := Option.bind_eq_some_iff.mp h
      obtain ⟨g200, c200⟩ := S_Mo_begins a0 w196 r200 h200
      refine fr_callV (a := a0) (As := []) (st := []) i165_200 (cq187 a0) rfl (Nat.le_of_ble_eq_true rfl) g200 (c200 _ (by omega)) ?_
      refine fr_aload_n i165_203 rfl ?_
      refine rn_iconst i165_204 ?_
      obtain ⟨w205, h205, h⟩ := Option.bind_eq_some_iff.mp h
      refine fr_pI (k := 58) i165_205 (pf12_58 165) h205 ?_
      refine fr_aload_n i165_208 rfl ?_
      refine rn_iconst i165_209 ?_
      obtain ⟨w210, h210, h⟩ := Option.bind_eq_some_iff.mp h
      refine fr_pI (k := 63) i165_210 (pf12_63 165) h210 ?_
      refine rn_iconst i165_213 ?_
      refine rn_istore_n (ls1 := [(1, .inl 0), (0, .inr (.inr a0))]) i165_214 rfl ?_
      exact rn_sub [1, 0] rfl (s_Mo_read_215 hD FU a0 0 w210 r h)
    · rw [if_neg c183] at h
      refine rn_if_le_f i165_183 c183 ?_
      refine fr_aload_n i165_186 rfl ?_
      obtain ⟨v187, h187, h⟩ := Option.bind_eq_some_iff.mp h
      refine fr_gI (k := 15) i165_187 tf12_15 h187 ?_
      obtain rfl := Option.some.inj h
      exact rn_retI i165_190 mr165
  · rw [if_neg c171] at h
    refine rn_if_le_f i165_171 c171 ?_
    refine fr_aload_n i165_174 rfl ?_
    obtain ⟨v175, h175, h⟩ := Option.bind_eq_some_iff.mp h
    refine fr_gI (k := 13) i165_175 tf12_13 h175 ?_
    obtain rfl := Option.some.inj h
    exact rn_retI i165_178 mr165
def Mo_read_134 (a0 : Nat) (w : Wd) : Option (Int × Wd) :=
  (fgI w a0 12 13).bind fun v136 =>
  if (v136 : Int) ≤ 0 then
    (fgI w a0 12 15).bind fun v150 =>
    if (v150 : Int) ≤ 0 then
      Mo_read_164 a0 (-1) a0 w
    else
      (fgI w a0 12 16).bind fun v157 =>
      Mo_read_164 a0 v157 a0 w
  else
    (fgI w a0 12 14).bind fun v143 =>
    Mo_read_164 a0 v143 a0 w
theorem s_Mo_read_134 {g : Gp} {l : Launch} {D : Nat} (hD : 8 ≤ D) (a0 : Nat) (w : Wd) (r : Int × Wd) (h : Mo_read_134 a0 w = some r) : Rn g l D 165 134 [(0, .inr (.inr a0))] [] w (some (.inl r.1)) r.2 := by
  unfold Mo_read_134 at h
  refine fr_aload_n i165_134 rfl ?_
  refine fr_aload_n i165_135 rfl ?_
  obtain ⟨v136, h136, h⟩ := Option.bind_eq_some_iff.mp h
  refine fr_gI (k := 13) i165_136 tf12_13 h136 ?_
  by_cases c139 : (v136 : Int) ≤ 0
  · rw [if_pos c139] at h
    refine rn_if_le_t i165_139 c139 ?_
    refine fr_aload_n i165_149 rfl ?_
    obtain ⟨v150, h150, h⟩ := Option.bind_eq_some_iff.mp h
    refine fr_gI (k := 15) i165_150 tf12_15 h150 ?_
    by_cases c153 : (v150 : Int) ≤ 0
    · rw [if_pos c153] at h
      refine rn_if_le_t i165_153 c153 ?_
      refine rn_iconst i165_163 ?_
      exact rn_sub [0] rfl (s_Mo_read_164 hD a0 (-1) a0 w r h)
    · rw [if_neg c153] at h
      refine rn_if_le_f i165_153 c153 ?_
      refine fr_aload_n i165_156 rfl ?_
      obtain ⟨v157, h157, h⟩ := Option.bind_eq_some_iff.mp h
      refine fr_gI (k := 16) i165_157 tf12_16 h157 ?_
      refine rn_goto i165_160 ?_
      exact rn_sub [0] rfl (s_Mo_read_164 hD a0 v157 a0 w r h)
  · rw [if_neg c139] at h
    refine rn_if_le_f i165_139 c139 ?_
    refine fr_aload_n i165_142 rfl ?_
    obtain ⟨v143, h143, h⟩ := Option.bind_eq_some_iff.mp h
    refine fr_gI (k := 14) i165_143 tf12_14 h143 ?_
    refine rn_goto i165_146 ?_
    exact rn_sub [0] rfl (s_Mo_read_164 hD a0 v143 a0 w r h)
def Mo_read_112 : Nat → Nat → Wd → Option (Int × Wd)
  | 0, _, _ => none
  | n + 1, a0, w =>
    (fgI w a0 12 13).bind fun v113 =>
    if (v113 : Int) = 0 then
      (Mo_is a0 0 w).bind fun r121 =>
      if (r121.1 : Int) = 0 then
        (Mo_tellText a0 r121.2).bind fun r128 =>
        Mo_read_112 n a0 r128
      else
        Mo_read_134 a0 r121.2
    else
      Mo_read_134 a0 w
theorem s_Mo_read_112 {g : Gp} {l : Launch} {D : Nat} (hD : 8 ≤ D) : ∀ (n : Nat) (a0 : Nat) (w : Wd) (r : Int × Wd), Mo_read_112 n a0 w = some r → Rn g l D 165 112 [(0, .inr (.inr a0))] [] w (some (.inl r.1)) r.2 := by
  obtain ⟨D, rfl⟩ : ∃ D1, D = D1 + 1 := ⟨D - 1, by omega⟩
  intro n
  induction n with
  | zero => intro a0 w r h; cases (show (none : Option (Int × Wd)) = some r from h)
  | succ n ih =>
    intro a0 w r h
    unfold Mo_read_112 at h
    refine fr_aload_n i165_112 rfl ?_
    obtain ⟨v113, h113, h⟩ := Option.bind_eq_some_iff.mp h
    refine fr_gI (k := 13) i165_113 tf12_13 h113 ?_
    by_cases c116 : (v113 : Int) = 0
    · rw [if_pos c116] at h
      refine rn_if_ne_f i165_116 c116 ?_
      refine fr_aload_n i165_119 rfl ?_
      refine rn_iconst i165_120 ?_
      obtain ⟨r121, h121, h⟩ := Option.bind_eq_some_iff.mp h
      obtain ⟨g121, c121⟩ := S_Mo_is a0 0 w r121 h121
      refine fr_callV (a := a0) (As := [.inl 0]) (st := []) i165_121 (cq159 a0 0) rfl (Nat.le_of_ble_eq_true rfl) g121 (c121 _ (by omega)) ?_
      show Rn _ _ _ _ _ _ [.inl r121.1] _ _ _
      by_cases c124 : (r121.1 : Int) = 0
      · rw [if_pos c124] at h
        refine rn_if_ne_f i165_124 c124 ?_
        refine fr_aload_n i165_127 rfl ?_
        obtain ⟨r128, h128, h⟩ := Option.bind_eq_some_iff.mp h
        obtain ⟨g128, c128⟩ := S_Mo_tellText a0 r121.2 r128 h128
        refine fr_callV (a := a0) (As := []) (st := []) i165_128 (cq168 a0) rfl (Nat.le_of_ble_eq_true rfl) g128 (c128 _ (by omega)) ?_
        refine rn_goto i165_131 ?_
        exact rn_sub [0] rfl (ih a0 r128 r h)
      · rw [if_neg c124] at h
        refine rn_if_ne_t i165_124 c124 ?_
        exact rn_sub [0] rfl (s_Mo_read_134 hD a0 r121.2 r h)
    · rw [if_neg c116] at h
      refine rn_if_ne_t i165_116 c116 ?_
      exact rn_sub [0] rfl (s_Mo_read_134 hD a0 w r h)
def Mo_read_36 (a0 : Nat) (w : Wd) : Option (Int × Wd) :=
  (fpI w a0 12 2 0).bind fun w38 =>
  (Mo_cut a0 w38).bind fun r42 =>
  (fpI r42 a0 12 11 0).bind fun w47 =>
  (fpI w47 a0 12 12 0).bind fun w52 =>
  (fpI w52 a0 12 13 0).bind fun w57 =>
  (fpI w57 a0 12 15 0).bind fun w62 =>
  (fgI w62 a0 12 18).bind fun v68 =>
  (fpI w62 a0 12 19 (w32 (1 - v68))).bind fun w72 =>
  (fpI w72 a0 12 20 0).bind fun w77 =>
  (fgI w77 a0 12 19).bind fun v82 =>
  (Mo_plain a0 v82 w77).bind fun r85 =>
  (fgI r85 a0 12 19).bind fun v93 =>
  (fpI r85 a0 12 35 (w32 (130 * v93))).bind fun w97 =>
  (fgI w97 a0 12 19).bind fun v105 =>
  (fpI w97 a0 12 41 (w32 (420 * v105))).bind fun w109 =>
  Mo_read_112 FU a0 w109
theorem s_Mo_read_36 {g : Gp} {l : Launch} {D : Nat} (hD : 8 ≤ D) (a0 : Nat) (w : Wd) (r : Int × Wd) (h : Mo_read_36 a0 w = some r) : Rn g l D 165 36 [(0, .inr (.inr a0))] [] w (some (.inl r.1)) r.2 := by
  obtain ⟨D, rfl⟩ : ∃ D1, D = D1 + 1 := ⟨D - 1, by omega⟩
  unfold Mo_read_36 at h
  refine fr_aload_n i165_36 rfl ?_
  refine rn_iconst i165_37 ?_
  obtain ⟨w38, h38, h⟩ := Option.bind_eq_some_iff.mp h
  refine fr_pI (k := 2) i165_38 (pf12_2 165) h38 ?_
  refine fr_aload_n i165_41 rfl ?_
  obtain ⟨r42, h42, h⟩ := Option.bind_eq_some_iff.mp h
  obtain ⟨g42, c42⟩ := S_Mo_cut a0 w38 r42 h42
  refine fr_callV (a := a0) (As := []) (st := []) i165_42 (cq157 a0) rfl (Nat.le_of_ble_eq_true rfl) g42 (c42 _ (by omega)) ?_
  refine fr_aload_n i165_45 rfl ?_
  refine rn_iconst i165_46 ?_
  obtain ⟨w47, h47, h⟩ := Option.bind_eq_some_iff.mp h
  refine fr_pI (k := 11) i165_47 (pf12_11 165) h47 ?_
  refine fr_aload_n i165_50 rfl ?_
  refine rn_iconst i165_51 ?_
  obtain ⟨w52, h52, h⟩ := Option.bind_eq_some_iff.mp h
  refine fr_pI (k := 12) i165_52 (pf12_12 165) h52 ?_
  refine fr_aload_n i165_55 rfl ?_
  refine rn_iconst i165_56 ?_
  obtain ⟨w57, h57, h⟩ := Option.bind_eq_some_iff.mp h
  refine fr_pI (k := 13) i165_57 (pf12_13 165) h57 ?_
  refine fr_aload_n i165_60 rfl ?_
  refine rn_iconst i165_61 ?_
  obtain ⟨w62, h62, h⟩ := Option.bind_eq_some_iff.mp h
  refine fr_pI (k := 15) i165_62 (pf12_15 165) h62 ?_
  refine fr_aload_n i165_65 rfl ?_
  refine rn_iconst i165_66 ?_
  refine fr_aload_n i165_67 rfl ?_
  obtain ⟨v68, h68, h⟩ := Option.bind_eq_some_iff.mp h
  refine fr_gI (k := 18) i165_68 tf12_18 h68 ?_
  refine rn_isub i165_71 ?_
  obtain ⟨w72, h72, h⟩ := Option.bind_eq_some_iff.mp h
  refine fr_pI (k := 19) i165_72 (pf12_19 165) h72 ?_
  refine fr_aload_n i165_75 rfl ?_
  refine rn_iconst i165_76 ?_
  obtain ⟨w77, h77, h⟩ := Option.bind_eq_some_iff.mp h
  refine fr_pI (k := 20) i165_77 (pf12_20 165) h77 ?_
  refine fr_aload_n i165_80 rfl ?_
  refine fr_aload_n i165_81 rfl ?_
  obtain ⟨v82, h82, h⟩ := Option.bind_eq_some_iff.mp h
  refine fr_gI (k := 19) i165_82 tf12_19 h82 ?_
  obtain ⟨r85, h85, h⟩ := Option.bind_eq_some_iff.mp h
  obtain ⟨g85, c85⟩ := S_Mo_plain a0 v82 w77 r85 h85
  refine fr_callV (a := a0) (As := [.inl v82]) (st := []) i165_85 (cq164 a0 v82) rfl (Nat.le_of_ble_eq_true rfl) g85 (c85 _ (by omega)) ?_
  refine fr_aload_n i165_88 rfl ?_
  refine rn_sipush i165_89 ?_
  refine fr_aload_n i165_92 rfl ?_
  obtain ⟨v93, h93, h⟩ := Option.bind_eq_some_iff.mp h
  refine fr_gI (k := 19) i165_93 tf12_19 h93 ?_
  refine rn_imul i165_96 ?_
  obtain ⟨w97, h97, h⟩ := Option.bind_eq_some_iff.mp h
  refine fr_pI (k := 35) i165_97 (pf12_35 165) h97 ?_
  refine fr_aload_n i165_100 rfl ?_
  refine rn_sipush i165_101 ?_
  refine fr_aload_n i165_104 rfl ?_
  obtain ⟨v105, h105, h⟩ := Option.bind_eq_some_iff.mp h
  refine fr_gI (k := 19) i165_105 tf12_19 h105 ?_
  refine rn_imul i165_108 ?_
  obtain ⟨w109, h109, h⟩ := Option.bind_eq_some_iff.mp h
  refine fr_pI (k := 41) i165_109 (pf12_41 165) h109 ?_
  exact rn_sub [0] rfl (s_Mo_read_112 hD FU a0 w109 r h)
def Mo_read_10 : Nat → Nat → Int → Wd → Option (Int × Wd)
  | 0, _, _, _ => none
  | n + 1, a0, x1, w =>
    (fgI w a0 12 4).bind fun v12 =>
    if (v12 : Int) ≤ x1 then
      Mo_read_36 a0 w
    else
      (fgR w a0 12 3).bind fun v19 =>
      (fgR w a0 12 1).bind fun v24 =>
      (rdB w v24 x1).bind fun v28 =>
      (wrB w v19 x1 v28).bind fun w29 =>
      Mo_read_10 n a0 (w32 (x1 + 1)) w29
theorem s_Mo_read_10 {g : Gp} {l : Launch} {D : Nat} (hD : 8 ≤ D) : ∀ (n : Nat) (a0 : Nat) (x1 : Int) (w : Wd) (r : Int × Wd), Mo_read_10 n a0 x1 w = some r → Rn g l D 165 10 [(0, .inr (.inr a0)), (1, .inl x1)] [] w (some (.inl r.1)) r.2 := by
  intro n
  induction n with
  | zero => intro a0 x1 w r h; cases (show (none : Option (Int × Wd)) = some r from h)
  | succ n ih =>
    intro a0 x1 w r h
    unfold Mo_read_10 at h
    refine rn_iload_n i165_10 rfl ?_
    refine fr_aload_n i165_11 rfl ?_
    obtain ⟨v12, h12, h⟩ := Option.bind_eq_some_iff.mp h
    refine fr_gI (k := 4) i165_12 tf12_4 h12 ?_
    by_cases c15 : (v12 : Int) ≤ x1
    · rw [if_pos c15] at h
      refine rn_icmp_ge_t i165_15 c15 ?_
      exact rn_sub [0] rfl (s_Mo_read_36 hD a0 w r h)
    · rw [if_neg c15] at h
      refine rn_icmp_ge_f i165_15 c15 ?_
      refine fr_aload_n i165_18 rfl ?_
      obtain ⟨v19, h19, h⟩ := Option.bind_eq_some_iff.mp h
      refine fr_gR (k := 3) i165_19 tf12_3 h19 ?_
      refine rn_iload_n i165_22 rfl ?_
      refine fr_aload_n i165_23 rfl ?_
      obtain ⟨v24, h24, h⟩ := Option.bind_eq_some_iff.mp h
      refine fr_gR (k := 1) i165_24 tf12_1 h24 ?_
      refine rn_iload_n i165_27 rfl ?_
      obtain ⟨v28, h28, h⟩ := Option.bind_eq_some_iff.mp h
      refine rn_bald i165_28 h28 ?_
      obtain ⟨w29, h29, h⟩ := Option.bind_eq_some_iff.mp h
      refine rn_bast i165_29 h29 ?_
      refine rn_iinc (ls1 := [(1, .inl (w32 (x1 + 1))), (0, .inr (.inr a0))]) i165_30 rfl rfl ?_
      refine rn_goto i165_33 ?_
      exact rn_sub [1, 0] rfl (ih a0 (w32 (x1 + 1)) w29 r h)
def Mo_read_0 (a0 : Nat) (w : Wd) : Option (Int × Wd) :=
  (fgI w a0 12 2).bind fun v2 =>
  (fpI w a0 12 4 v2).bind fun w5 =>
  Mo_read_10 FU a0 0 w5
theorem s_Mo_read_0 {g : Gp} {l : Launch} {D : Nat} (hD : 8 ≤ D) (a0 : Nat) (w : Wd) (r : Int × Wd) (h : Mo_read_0 a0 w = some r) : Rn g l D 165 0 [(0, .inr (.inr a0))] [] w (some (.inl r.1)) r.2 := by
  unfold Mo_read_0 at h
  refine fr_aload_n i165_0 rfl ?_
  refine fr_aload_n i165_1 rfl ?_
  obtain ⟨v2, h2, h⟩ := Option.bind_eq_some_iff.mp h
  refine fr_gI (k := 2) i165_2 tf12_2 h2 ?_
  obtain ⟨w5, h5, h⟩ := Option.bind_eq_some_iff.mp h
  refine fr_pI (k := 4) i165_5 (pf12_4 165) h5 ?_
  refine rn_iconst i165_8 ?_
  refine rn_istore_n (ls1 := [(1, .inl 0), (0, .inr (.inr a0))]) i165_9 rfl ?_
  exact rn_sub [1, 0] rfl (s_Mo_read_10 hD FU a0 0 w5 r h)
/-- HandHeirsModel.read()I -/
def Mo_read (a0 : Nat) (w : Wd) : Option (Int × Wd) := gd 12 w a0 (Mo_read_0 a0 w)
theorem S_Mo_read {g : Gp} {l : Launch} (a0 : Nat) (w : Wd) (r : Int × Wd) (h : Mo_read a0 w = some r) : (wsh w a0).1 = 12 ∧ ∀ D, 8 ≤ D → Rn g l D 165 0 [(0, .inr (.inr a0))] [] w (some (.inl r.1)) r.2 := by
  obtain ⟨hg, h⟩ := gd_some h
  exact ⟨hg, fun D hD => rn_sub [0] rfl (s_Mo_read_0 hD a0 w r h)⟩
def Mo_place_0 (a0 : Nat) (w : Wd) : Option (Int × Wd) :=
  (fgI w a0 12 17).bind fun v1 =>
  some (v1, w)
theorem s_Mo_place_0 {g : Gp} {l : Launch} {D : Nat} (hD : 0 ≤ D) (a0 : Nat) (w : Wd) (r : Int × Wd) (h : Mo_place_0 a0 w = some r) : Rn g l D 166 0 [(0, .inr (.inr a0))] [] w (some (.inl r.1)) r.2 := by
  unfold Mo_place_0 at h
  refine fr_aload_n i166_0 rfl ?_
  obtain ⟨v1, h1, h⟩ := Option.bind_eq_some_iff.mp h
  refine fr_gI (k := 17) i166_1 tf12_17 h1 ?_
  obtain rfl := Option.some.inj h
  exact rn_retI i166_4 mr166
/-- HandHeirsModel.place()I -/
def Mo_place (a0 : Nat) (w : Wd) : Option (Int × Wd) := gd 12 w a0 (Mo_place_0 a0 w)
theorem S_Mo_place {g : Gp} {l : Launch} (a0 : Nat) (w : Wd) (r : Int × Wd) (h : Mo_place a0 w = some r) : (wsh w a0).1 = 12 ∧ ∀ D, 0 ≤ D → Rn g l D 166 0 [(0, .inr (.inr a0))] [] w (some (.inl r.1)) r.2 := by
  obtain ⟨hg, h⟩ := gd_some h
  exact ⟨hg, fun D hD => rn_sub [0] rfl (s_Mo_place_0 hD a0 w r h)⟩
def Mo_termOf_159 (k5 : Nat → Int → Int → Int → Wd → Option (Int × Wd)) (a0 : Nat) (x2 : Int) (x3 : Int) (x4 : Int) (w : Wd) : Option (Int × Wd) :=
  k5 a0 x2 x3 (w32 (x4 + 1)) w
theorem s_Mo_termOf_159 {g : Gp} {l : Launch} {D : Nat} (hD : 0 ≤ D) (k5 : Nat → Int → Int → Int → Wd → Option (Int × Wd)) (hk5 : ∀ (a0 : Nat) (x2 : Int) (x3 : Int) (x4 : Int) (w : Wd) (r : Int × Wd), k5 a0 x2 x3 x4 w = some r → Rn g l D 182 5 [(0, .inr (.inr a0)), (2, .inl x2), (3, .inl x3), (4, .inl x4)] [] w (some (.inl r.1)) r.2) (a0 : Nat) (x2 : Int) (x3 : Int) (x4 : Int) (w : Wd) (r : Int × Wd) (h : Mo_termOf_159 k5 a0 x2 x3 x4 w = some r) : Rn g l D 182 159 [(0, .inr (.inr a0)), (2, .inl x2), (3, .inl x3), (4, .inl x4)] [] w (some (.inl r.1)) r.2 := by
  unfold Mo_termOf_159 at h
  refine rn_iinc (ls1 := [(4, .inl (w32 (x4 + 1))), (0, .inr (.inr a0)), (2, .inl x2), (3, .inl x3)]) i182_159 rfl rfl ?_
  refine rn_goto i182_162 ?_
  exact rn_sub [1, 2, 3, 0] rfl (hk5 a0 x2 x3 (w32 (x4 + 1)) w r h)
def Mo_termOf_58 (k5 : Nat → Int → Int → Int → Wd → Option (Int × Wd)) (a0 : Nat) (x2 : Int) (x3 : Int) (x4 : Int) (s0 : Int) (s1 : Int) (s2 : Nat) (w : Wd) : Option (Int × Wd) :=
  (wrI w s2 s1 s0).bind fun w58 =>
  Mo_termOf_159 k5 a0 x2 (w32 (x3 + 1)) x4 w58
theorem s_Mo_termOf_58 {g : Gp} {l : Launch} {D : Nat} (hD : 0 ≤ D) (k5 : Nat → Int → Int → Int → Wd → Option (Int × Wd)) (hk5 : ∀ (a0 : Nat) (x2 : Int) (x3 : Int) (x4 : Int) (w : Wd) (r : Int × Wd), k5 a0 x2 x3 x4 w = some r → Rn g l D 182 5 [(0, .inr (.inr a0)), (2, .inl x2), (3, .inl x3), (4, .inl x4)] [] w (some (.inl r.1)) r.2) (a0 : Nat) (x2 : Int) (x3 : Int) (x4 : Int) (s0 : Int) (s1 : Int) (s2 : Nat) (w : Wd) (r : Int × Wd) (h : Mo_termOf_58 k5 a0 x2 x3 x4 s0 s1 s2 w = some r) : Rn g l D 182 58 [(0, .inr (.inr a0)), (2, .inl x2), (3, .inl x3), (4, .inl x4)] [.inl s0, .inl s1, .inr (.inr s2)] w (some (.inl r.1)) r.2 := by
  unfold Mo_termOf_58 at h
  obtain ⟨w58, h58, h⟩ := Option.bind_eq_some_iff.mp h
  refine rn_iast i182_58 h58 ?_
  refine rn_iinc (ls1 := [(3, .inl (w32 (x3 + 1))), (0, .inr (.inr a0)), (2, .inl x2), (4, .inl x4)]) i182_59 rfl rfl ?_
  refine rn_goto i182_62 ?_
  exact rn_sub [1, 2, 0, 3] rfl (s_Mo_termOf_159 hD k5 hk5 a0 x2 (w32 (x3 + 1)) x4 w58 r h)
def Mo_termOf_97 (a0 : Nat) (w : Wd) : Option (Int × Wd) :=
  (fpZ w a0 12 48 1).bind fun w99 =>
  some (0, w99)
theorem s_Mo_termOf_97 {g : Gp} {l : Launch} {D : Nat} (hD : 0 ≤ D) (a0 : Nat) (w : Wd) (r : Int × Wd) (h : Mo_termOf_97 a0 w = some r) : Rn g l D 182 97 [(0, .inr (.inr a0))] [] w (some (.inl r.1)) r.2 := by
  unfold Mo_termOf_97 at h
  refine fr_aload_n i182_97 rfl ?_
  refine rn_iconst i182_98 ?_
  obtain ⟨w99, h99, h⟩ := Option.bind_eq_some_iff.mp h
  refine fr_pZ (k := 48) i182_99 (pf12_48 182) h99 ?_
  refine rn_iconst i182_102 ?_
  obtain rfl := Option.some.inj h
  exact rn_retI i182_103 mr182
def Mo_termOf_158 (k5 : Nat → Int → Int → Int → Wd → Option (Int × Wd)) (a0 : Nat) (x2 : Int) (x3 : Int) (x4 : Int) (s0 : Int) (s1 : Int) (s2 : Nat) (w : Wd) : Option (Int × Wd) :=
  (wrI w s2 s1 s0).bind fun w158 =>
  Mo_termOf_159 k5 a0 x2 x3 x4 w158
theorem s_Mo_termOf_158 {g : Gp} {l : Launch} {D : Nat} (hD : 0 ≤ D) (k5 : Nat → Int → Int → Int → Wd → Option (Int × Wd)) (hk5 : ∀ (a0 : Nat) (x2 : Int) (x3 : Int) (x4 : Int) (w : Wd) (r : Int × Wd), k5 a0 x2 x3 x4 w = some r → Rn g l D 182 5 [(0, .inr (.inr a0)), (2, .inl x2), (3, .inl x3), (4, .inl x4)] [] w (some (.inl r.1)) r.2) (a0 : Nat) (x2 : Int) (x3 : Int) (x4 : Int) (s0 : Int) (s1 : Int) (s2 : Nat) (w : Wd) (r : Int × Wd) (h : Mo_termOf_158 k5 a0 x2 x3 x4 s0 s1 s2 w = some r) : Rn g l D 182 158 [(0, .inr (.inr a0)), (2, .inl x2), (3, .inl x3), (4, .inl x4)] [.inl s0, .inl s1, .inr (.inr s2)] w (some (.inl r.1)) r.2 := by
  unfold Mo_termOf_158 at h
  obtain ⟨w158, h158, h⟩ := Option.bind_eq_some_iff.mp h
  refine rn_iast i182_158 h158 ?_
  exact rn_sub [0, 1, 2, 3] rfl (s_Mo_termOf_159 hD k5 hk5 a0 x2 x3 x4 w158 r h)
def Mo_termOf_104 (k5 : Nat → Int → Int → Int → Wd → Option (Int × Wd)) (a0 : Nat) (x2 : Int) (x3 : Int) (x4 : Int) (x5 : Int) (x6 : Int) (x7 : Int) (w : Wd) : Option (Int × Wd) :=
  (fgR w a0 12 47).bind fun v105 =>
  if (x5 : Int) = 2 then
    Mo_termOf_158 k5 a0 x2 x3 x4 (w32 (x6 + x7)) (w32 (x3 - 1)) v105 w
  else
    if (x5 : Int) = 3 then
      Mo_termOf_158 k5 a0 x2 x3 x4 (w32 (x6 - x7)) (w32 (x3 - 1)) v105 w
    else
      if (x5 : Int) = 4 then
        Mo_termOf_158 k5 a0 x2 x3 x4 (w32 (x6 * x7)) (w32 (x3 - 1)) v105 w
      else
        (idv x6 x7).bind fun v157 =>
        Mo_termOf_158 k5 a0 x2 x3 x4 v157 (w32 (x3 - 1)) v105 w
theorem s_Mo_termOf_104 {g : Gp} {l : Launch} {D : Nat} (hD : 0 ≤ D) (k5 : Nat → Int → Int → Int → Wd → Option (Int × Wd)) (hk5 : ∀ (a0 : Nat) (x2 : Int) (x3 : Int) (x4 : Int) (w : Wd) (r : Int × Wd), k5 a0 x2 x3 x4 w = some r → Rn g l D 182 5 [(0, .inr (.inr a0)), (2, .inl x2), (3, .inl x3), (4, .inl x4)] [] w (some (.inl r.1)) r.2) (a0 : Nat) (x2 : Int) (x3 : Int) (x4 : Int) (x5 : Int) (x6 : Int) (x7 : Int) (w : Wd) (r : Int × Wd) (h : Mo_termOf_104 k5 a0 x2 x3 x4 x5 x6 x7 w = some r) : Rn g l D 182 104 [(0, .inr (.inr a0)), (2, .inl x2), (3, .inl x3), (4, .inl x4), (5, .inl x5), (6, .inl x6), (7, .inl x7)] [] w (some (.inl r.1)) r.2 := by
  unfold Mo_termOf_104 at h
  refine fr_aload_n i182_104 rfl ?_
  obtain ⟨v105, h105, h⟩ := Option.bind_eq_some_iff.mp h
  refine fr_gR (k := 47) i182_105 tf12_47 h105 ?_
  refine rn_iload_n i182_108 rfl ?_
  refine rn_iconst i182_109 ?_
  refine rn_isub i182_110 ?_
  refine rn_iload i182_111 rfl ?_
  refine rn_iconst i182_113 ?_
  by_cases c114 : (x5 : Int) = 2
  · rw [if_pos c114] at h
    refine rn_icmp_ne_f i182_114 c114 ?_
    refine rn_iload i182_117 rfl ?_
    refine rn_iload i182_119 rfl ?_
    refine rn_iadd i182_121 ?_
    refine rn_goto i182_122 ?_
    exact rn_sub [0, 1, 2, 3] rfl (s_Mo_termOf_158 hD k5 hk5 a0 x2 x3 x4 (w32 (x6 + x7)) (w32 (x3 - 1)) v105 w r h)
  · rw [if_neg c114] at h
    refine rn_icmp_ne_t i182_114 c114 ?_
    refine rn_iload i182_125 rfl ?_
    refine rn_iconst i182_127 ?_
    by_cases c128 : (x5 : Int) = 3
    · rw [if_pos c128] at h
      refine rn_icmp_ne_f i182_128 c128 ?_
      refine rn_iload i182_131 rfl ?_
      refine rn_iload i182_133 rfl ?_
      refine rn_isub i182_135 ?_
      refine rn_goto i182_136 ?_
      exact rn_sub [0, 1, 2, 3] rfl (s_Mo_termOf_158 hD k5 hk5 a0 x2 x3 x4 (w32 (x6 - x7)) (w32 (x3 - 1)) v105 w r h)
    · rw [if_neg c128] at h
      refine rn_icmp_ne_t i182_128 c128 ?_
      refine rn_iload i182_139 rfl ?_
      refine rn_iconst i182_141 ?_
      by_cases c142 : (x5 : Int) = 4
      · rw [if_pos c142] at h
        refine rn_icmp_ne_f i182_142 c142 ?_
        refine rn_iload i182_145 rfl ?_
        refine rn_iload i182_147 rfl ?_
        refine rn_imul i182_149 ?_
        refine rn_goto i182_150 ?_
        exact rn_sub [0, 1, 2, 3] rfl (s_Mo_termOf_158 hD k5 hk5 a0 x2 x3 x4 (w32 (x6 * x7)) (w32 (x3 - 1)) v105 w r h)
      · rw [if_neg c142] at h
        refine rn_icmp_ne_t i182_142 c142 ?_
        refine rn_iload i182_153 rfl ?_
        refine rn_iload i182_155 rfl ?_
        obtain ⟨v157, h157, h⟩ := Option.bind_eq_some_iff.mp h
        refine fr_idv i182_157 h157 ?_
        exact rn_sub [0, 1, 2, 3] rfl (s_Mo_termOf_158 hD k5 hk5 a0 x2 x3 x4 v157 (w32 (x3 - 1)) v105 w r h)
def Mo_termOf_165 (a0 : Nat) (w : Wd) : Option (Int × Wd) :=
  (fgR w a0 12 47).bind fun v166 =>
  (rdI w v166 0).bind fun v170 =>
  some (v170, w)
theorem s_Mo_termOf_165 {g : Gp} {l : Launch} {D : Nat} (hD : 0 ≤ D) (a0 : Nat) (w : Wd) (r : Int × Wd) (h : Mo_termOf_165 a0 w = some r) : Rn g l D 182 165 [(0, .inr (.inr a0))] [] w (some (.inl r.1)) r.2 := by
  unfold Mo_termOf_165 at h
  refine fr_aload_n i182_165 rfl ?_
  obtain ⟨v166, h166, h⟩ := Option.bind_eq_some_iff.mp h
  refine fr_gR (k := 47) i182_166 tf12_47 h166 ?_
  refine rn_iconst i182_169 ?_
  obtain ⟨v170, h170, h⟩ := Option.bind_eq_some_iff.mp h
  refine rn_iald i182_170 h170 ?_
  obtain rfl := Option.some.inj h
  exact rn_retI i182_171 mr182
def Mo_termOf_5 : Nat → Nat → Int → Int → Int → Wd → Option (Int × Wd)
  | 0, _, _, _, _, _ => none
  | n + 1, a0, x2, x3, x4, w =>
    if (x2 : Int) ≤ x4 then
      Mo_termOf_165 a0 w
    else
      (fgR w a0 12 42).bind fun v12 =>
      (rdI w v12 x4).bind fun v17 =>
      if (2 : Int) ≤ v17 then
        (fgR w a0 12 47).bind fun v69 =>
        (rdI w v69 (w32 ((w32 (x3 + (-1))) - 1))).bind fun v75 =>
        (fgR w a0 12 47).bind fun v79 =>
        (rdI w v79 (w32 (x3 + (-1)))).bind fun v83 =>
        if (v17 : Int) = 5 then
          if (v83 : Int) = 0 then
            Mo_termOf_97 a0 w
          else
            Mo_termOf_104 (Mo_termOf_5 n) a0 x2 (w32 (x3 + (-1))) x4 v17 v75 v83 w
        else
          Mo_termOf_104 (Mo_termOf_5 n) a0 x2 (w32 (x3 + (-1))) x4 v17 v75 v83 w
      else
        (fgR w a0 12 47).bind fun v27 =>
        if (v17 : Int) = 0 then
          (fgR w a0 12 43).bind fun v37 =>
          (rdI w v37 x4).bind fun v42 =>
          Mo_termOf_58 (Mo_termOf_5 n) a0 x2 x3 x4 v42 x3 v27 w
        else
          (fgR w a0 12 46).bind fun v47 =>
          (fgR w a0 12 43).bind fun v51 =>
          (rdI w v51 x4).bind fun v56 =>
          (rdI w v47 v56).bind fun v57 =>
          Mo_termOf_58 (Mo_termOf_5 n) a0 x2 x3 x4 v57 x3 v27 w
theorem s_Mo_termOf_5 {g : Gp} {l : Launch} {D : Nat} (hD : 0 ≤ D) : ∀ (n : Nat) (a0 : Nat) (x2 : Int) (x3 : Int) (x4 : Int) (w : Wd) (r : Int × Wd), Mo_termOf_5 n a0 x2 x3 x4 w = some r → Rn g l D 182 5 [(0, .inr (.inr a0)), (2, .inl x2), (3, .inl x3), (4, .inl x4)] [] w (some (.inl r.1)) r.2 := by
  intro n
  induction n with
  | zero => intro a0 x2 x3 x4 w r h; cases (show (none : Option (Int × Wd)) = some r from h)
  | succ n ih =>
    intro a0 x2 x3 x4 w r h
    unfold Mo_termOf_5 at h
    refine rn_iload i182_5 rfl ?_
    refine rn_iload_n i182_7 rfl ?_
    by_cases c8 : (x2 : Int) ≤ x4
    · rw [if_pos c8] at h
      refine rn_icmp_ge_t i182_8 c8 ?_
      exact rn_sub [0] rfl (s_Mo_termOf_165 hD a0 w r h)
    · rw [if_neg c8] at h
      refine rn_icmp_ge_f i182_8 c8 ?_
      refine fr_aload_n i182_11 rfl ?_
      obtain ⟨v12, h12, h⟩ := Option.bind_eq_some_iff.mp h
      refine fr_gR (k := 42) i182_12 tf12_42 h12 ?_
      refine rn_iload i182_15 rfl ?_
      obtain ⟨v17, h17, h⟩ := Option.bind_eq_some_iff.mp h
      refine rn_iald i182_17 h17 ?_
      refine rn_istore (ls1 := [(5, .inl v17), (0, .inr (.inr a0)), (2, .inl x2), (3, .inl x3), (4, .inl x4)]) i182_18 rfl ?_
      refine rn_iload i182_20 rfl ?_
      refine rn_iconst i182_22 ?_
      by_cases c23 : (2 : Int) ≤ v17
      · rw [if_pos c23] at h
        refine rn_icmp_ge_t i182_23 c23 ?_
        refine rn_iinc (ls1 := [(3, .inl (w32 (x3 + (-1)))), (5, .inl v17), (0, .inr (.inr a0)), (2, .inl x2), (4, .inl x4)]) i182_65 rfl rfl ?_
        refine fr_aload_n i182_68 rfl ?_
        obtain ⟨v69, h69, h⟩ := Option.bind_eq_some_iff.mp h
        refine fr_gR (k := 47) i182_69 tf12_47 h69 ?_
        refine rn_iload_n i182_72 rfl ?_
        refine rn_iconst i182_73 ?_
        refine rn_isub i182_74 ?_
        obtain ⟨v75, h75, h⟩ := Option.bind_eq_some_iff.mp h
        refine rn_iald i182_75 h75 ?_
        refine rn_istore (ls1 := [(6, .inl v75), (3, .inl (w32 (x3 + (-1)))), (5, .inl v17), (0, .inr (.inr a0)), (2, .inl x2), (4, .inl x4)]) i182_76 rfl ?_
        refine fr_aload_n i182_78 rfl ?_
        obtain ⟨v79, h79, h⟩ := Option.bind_eq_some_iff.mp h
        refine fr_gR (k := 47) i182_79 tf12_47 h79 ?_
        refine rn_iload_n i182_82 rfl ?_
        obtain ⟨v83, h83, h⟩ := Option.bind_eq_some_iff.mp h
        refine rn_iald i182_83 h83 ?_
        refine rn_istore (ls1 := [(7, .inl v83), (6, .inl v75), (3, .inl (w32 (x3 + (-1)))), (5, .inl v17), (0, .inr (.inr a0)), (2, .inl x2), (4, .inl x4)]) i182_84 rfl ?_
        refine rn_iload i182_86 rfl ?_
        refine rn_iconst i182_88 ?_
        by_cases c89 : (v17 : Int) = 5
        · rw [if_pos c89] at h
          refine rn_icmp_ne_f i182_89 c89 ?_
          refine rn_iload i182_92 rfl ?_
          by_cases c94 : (v83 : Int) = 0
          · rw [if_pos c94] at h
            refine rn_if_ne_f i182_94 c94 ?_
            exact rn_sub [4] rfl (s_Mo_termOf_97 hD a0 w r h)
          · rw [if_neg c94] at h
            refine rn_if_ne_t i182_94 c94 ?_
            exact rn_sub [4, 5, 2, 6, 3, 1, 0] rfl (s_Mo_termOf_104 hD (Mo_termOf_5 n) ih a0 x2 (w32 (x3 + (-1))) x4 v17 v75 v83 w r h)
        · rw [if_neg c89] at h
          refine rn_icmp_ne_t i182_89 c89 ?_
          exact rn_sub [4, 5, 2, 6, 3, 1, 0] rfl (s_Mo_termOf_104 hD (Mo_termOf_5 n) ih a0 x2 (w32 (x3 + (-1))) x4 v17 v75 v83 w r h)
      · rw [if_neg c23] at h
        refine rn_icmp_ge_f i182_23 c23 ?_
        refine fr_aload_n i182_26 rfl ?_
        obtain ⟨v27, h27, h⟩ := Option.bind_eq_some_iff.mp h
        refine fr_gR (k := 47) i182_27 tf12_47 h27 ?_
        refine rn_iload_n i182_30 rfl ?_
        refine rn_iload i182_31 rfl ?_
        by_cases c33 : (v17 : Int) = 0
        · rw [if_pos c33] at h
          refine rn_if_ne_f i182_33 c33 ?_
          refine fr_aload_n i182_36 rfl ?_
          obtain ⟨v37, h37, h⟩ := Option.bind_eq_some_iff.mp h
          refine fr_gR (k := 43) i182_37 tf12_43 h37 ?_
          refine rn_iload i182_40 rfl ?_
          obtain ⟨v42, h42, h⟩ := Option.bind_eq_some_iff.mp h
          refine rn_iald i182_42 h42 ?_
          refine rn_goto i182_43 ?_
          exact rn_sub [1, 2, 3, 4] rfl (s_Mo_termOf_58 hD (Mo_termOf_5 n) ih a0 x2 x3 x4 v42 x3 v27 w r h)
        · rw [if_neg c33] at h
          refine rn_if_ne_t i182_33 c33 ?_
          refine fr_aload_n i182_46 rfl ?_
          obtain ⟨v47, h47, h⟩ := Option.bind_eq_some_iff.mp h
          refine fr_gR (k := 46) i182_47 tf12_46 h47 ?_
          refine fr_aload_n i182_50 rfl ?_
          obtain ⟨v51, h51, h⟩ := Option.bind_eq_some_iff.mp h
          refine fr_gR (k := 43) i182_51 tf12_43 h51 ?_
          refine rn_iload i182_54 rfl ?_
          obtain ⟨v56, h56, h⟩ := Option.bind_eq_some_iff.mp h
          refine rn_iald i182_56 h56 ?_
          obtain ⟨v57, h57, h⟩ := Option.bind_eq_some_iff.mp h
          refine rn_iald i182_57 h57 ?_
          exact rn_sub [1, 2, 3, 4] rfl (s_Mo_termOf_58 hD (Mo_termOf_5 n) ih a0 x2 x3 x4 v57 x3 v27 w r h)
def Mo_termOf_0 (a0 : Nat) (x1 : Int) (x2 : Int) (w : Wd) : Option (Int × Wd) :=
  Mo_termOf_5 FU a0 x2 0 x1 w
theorem s_Mo_termOf_0 {g : Gp} {l : Launch} {D : Nat} (hD : 0 ≤ D) (a0 : Nat) (x1 : Int) (x2 : Int) (w : Wd) (r : Int × Wd) (h : Mo_termOf_0 a0 x1 x2 w = some r) : Rn g l D 182 0 [(0, .inr (.inr a0)), (1, .inl x1), (2, .inl x2)] [] w (some (.inl r.1)) r.2 := by
  unfold Mo_termOf_0 at h
  refine rn_iconst i182_0 ?_
  refine rn_istore_n (ls1 := [(3, .inl 0), (0, .inr (.inr a0)), (1, .inl x1), (2, .inl x2)]) i182_1 rfl ?_
  refine rn_iload_n i182_2 rfl ?_
  refine rn_istore (ls1 := [(4, .inl x1), (3, .inl 0), (0, .inr (.inr a0)), (1, .inl x1), (2, .inl x2)]) i182_3 rfl ?_
  exact rn_sub [2, 4, 1, 0] rfl (s_Mo_termOf_5 hD FU a0 x2 0 x1 w r h)
/-- HandHeirsModel.termOf(II)I -/
def Mo_termOf (a0 : Nat) (x1 : Int) (x2 : Int) (w : Wd) : Option (Int × Wd) := gd 12 w a0 (Mo_termOf_0 a0 x1 x2 w)
theorem S_Mo_termOf {g : Gp} {l : Launch} (a0 : Nat) (x1 : Int) (x2 : Int) (w : Wd) (r : Int × Wd) (h : Mo_termOf a0 x1 x2 w = some r) : (wsh w a0).1 = 12 ∧ ∀ D, 0 ≤ D → Rn g l D 182 0 [(0, .inr (.inr a0)), (1, .inl x1), (2, .inl x2)] [] w (some (.inl r.1)) r.2 := by
  obtain ⟨hg, h⟩ := gd_some h
  exact ⟨hg, fun D hD => rn_sub [0, 1, 2] rfl (s_Mo_termOf_0 hD a0 x1 x2 w r h)⟩
def Mo_in_15 (s0 : Int) (w : Wd) : Option (Int × Wd) :=
  rZ s0 w
theorem s_Mo_in_15 {g : Gp} {l : Launch} {D : Nat} (hD : 0 ≤ D) (s0 : Int) (w : Wd) (r : Int × Wd) (h : Mo_in_15 s0 w = some r) : Rn g l D 183 15 [] [.inl s0] w (some (.inl r.1)) r.2 := by
  unfold Mo_in_15 at h
  exact fr_retZ i183_15 mr183 h
def Mo_in_14 (w : Wd) : Option (Int × Wd) :=
  Mo_in_15 0 w
theorem s_Mo_in_14 {g : Gp} {l : Launch} {D : Nat} (hD : 0 ≤ D) (w : Wd) (r : Int × Wd) (h : Mo_in_14 w = some r) : Rn g l D 183 14 [] [] w (some (.inl r.1)) r.2 := by
  unfold Mo_in_14 at h
  refine rn_iconst i183_14 ?_
  exact rn_sub [] rfl (s_Mo_in_15 hD 0 w r h)
def Mo_in_0 (x0 : Int) (x1 : Int) (x2 : Int) (w : Wd) : Option (Int × Wd) :=
  if (x0 : Int) < x1 then
    Mo_in_14 w
  else
    if (x2 : Int) < x0 then
      Mo_in_14 w
    else
      Mo_in_15 1 w
theorem s_Mo_in_0 {g : Gp} {l : Launch} {D : Nat} (hD : 0 ≤ D) (x0 : Int) (x1 : Int) (x2 : Int) (w : Wd) (r : Int × Wd) (h : Mo_in_0 x0 x1 x2 w = some r) : Rn g l D 183 0 [(0, .inl x0), (1, .inl x1), (2, .inl x2)] [] w (some (.inl r.1)) r.2 := by
  unfold Mo_in_0 at h
  refine rn_iload_n i183_0 rfl ?_
  refine rn_iload_n i183_1 rfl ?_
  by_cases c2 : (x0 : Int) < x1
  · rw [if_pos c2] at h
    refine rn_icmp_lt_t i183_2 c2 ?_
    exact rn_sub [] rfl (s_Mo_in_14 hD w r h)
  · rw [if_neg c2] at h
    refine rn_icmp_lt_f i183_2 c2 ?_
    refine rn_iload_n i183_5 rfl ?_
    refine rn_iload_n i183_6 rfl ?_
    by_cases c7 : (x2 : Int) < x0
    · rw [if_pos c7] at h
      refine rn_icmp_gt_t i183_7 c7 ?_
      exact rn_sub [] rfl (s_Mo_in_14 hD w r h)
    · rw [if_neg c7] at h
      refine rn_icmp_gt_f i183_7 c7 ?_
      refine rn_iconst i183_10 ?_
      refine rn_goto i183_11 ?_
      exact rn_sub [] rfl (s_Mo_in_15 hD 1 w r h)
/-- HandHeirsModel.in(III)Z -/
def Mo_in (x0 : Int) (x1 : Int) (x2 : Int) (w : Wd) : Option (Int × Wd) := Mo_in_0 x0 x1 x2 w
theorem S_Mo_in {g : Gp} {l : Launch} (x0 : Int) (x1 : Int) (x2 : Int) (w : Wd) (r : Int × Wd) (h : Mo_in x0 x1 x2 w = some r) : ∀ D, 0 ≤ D → Rn g l D 183 0 [(0, .inl x0), (1, .inl x1), (2, .inl x2)] [] w (some (.inl r.1)) r.2 := fun D hD => rn_sub [0, 1, 2] rfl (s_Mo_in_0 hD x0 x1 x2 w r h)
def Mo_isLetterAt_0 (a0 : Nat) (x1 : Int) (w : Wd) : Option (Int × Wd) :=
  (fgR w a0 12 23).bind fun v3 =>
  (fgI w a0 12 18).bind fun v7 =>
  (rdI w v3 v7).bind fun v10 =>
  (Mo_in x1 0 (w32 (v10 - 1)) w).bind fun r13 =>
  rZ r13.1 r13.2
theorem s_Mo_isLetterAt_0 {g : Gp} {l : Launch} {D : Nat} (hD : 1 ≤ D) (a0 : Nat) (x1 : Int) (w : Wd) (r : Int × Wd) (h : Mo_isLetterAt_0 a0 x1 w = some r) : Rn g l D 184 0 [(0, .inr (.inr a0)), (1, .inl x1)] [] w (some (.inl r.1)) r.2 := by
  obtain ⟨D, rfl⟩ : ∃ D1, D = D1 + 1 := ⟨D - 1, by omega⟩
  unfold Mo_isLetterAt_0 at h
  refine rn_iload_n i184_0 rfl ?_
  refine rn_iconst i184_1 ?_
  refine fr_aload_n i184_2 rfl ?_
  obtain ⟨v3, h3, h⟩ := Option.bind_eq_some_iff.mp h
  refine fr_gR (k := 23) i184_3 tf12_23 h3 ?_
  refine fr_aload_n i184_6 rfl ?_
  obtain ⟨v7, h7, h⟩ := Option.bind_eq_some_iff.mp h
  refine fr_gI (k := 18) i184_7 tf12_18 h7 ?_
  obtain ⟨v10, h10, h⟩ := Option.bind_eq_some_iff.mp h
  refine rn_iald i184_10 h10 ?_
  refine rn_iconst i184_11 ?_
  refine rn_isub i184_12 ?_
  obtain ⟨r13, h13, h⟩ := Option.bind_eq_some_iff.mp h
  refine fr_callS (nst := 0) (As := [.inl x1, .inl 0, .inl (w32 (v10 - 1))]) (st := []) i184_13 (cq183 x1 0 (w32 (v10 - 1))) rfl (Nat.le_of_ble_eq_true rfl) (S_Mo_in x1 0 (w32 (v10 - 1)) w r13 h13 _ (by omega)) ?_
  show Rn _ _ _ _ _ _ [.inl r13.1] _ _ _
  exact fr_retZ i184_16 mr184 h
/-- HandHeirsModel.isLetterAt(I)Z -/
def Mo_isLetterAt (a0 : Nat) (x1 : Int) (w : Wd) : Option (Int × Wd) := gd 12 w a0 (Mo_isLetterAt_0 a0 x1 w)
theorem S_Mo_isLetterAt {g : Gp} {l : Launch} (a0 : Nat) (x1 : Int) (w : Wd) (r : Int × Wd) (h : Mo_isLetterAt a0 x1 w = some r) : (wsh w a0).1 = 12 ∧ ∀ D, 1 ≤ D → Rn g l D 184 0 [(0, .inr (.inr a0)), (1, .inl x1)] [] w (some (.inl r.1)) r.2 := by
  obtain ⟨hg, h⟩ := gd_some h
  exact ⟨hg, fun D hD => rn_sub [0, 1] rfl (s_Mo_isLetterAt_0 hD a0 x1 w r h)⟩
def Mo_isHeir_0 (a0 : Nat) (x1 : Int) (w : Wd) : Option (Int × Wd) :=
  (fgR w a0 12 25).bind fun v3 =>
  (fgI w a0 12 18).bind fun v7 =>
  (rdI w v3 v7).bind fun v10 =>
  (Mo_in x1 0 (w32 (v10 - 1)) w).bind fun r13 =>
  rZ r13.1 r13.2
theorem s_Mo_isHeir_0 {g : Gp} {l : Launch} {D : Nat} (hD : 1 ≤ D) (a0 : Nat) (x1 : Int) (w : Wd) (r : Int × Wd) (h : Mo_isHeir_0 a0 x1 w = some r) : Rn g l D 185 0 [(0, .inr (.inr a0)), (1, .inl x1)] [] w (some (.inl r.1)) r.2 := by
  obtain ⟨D, rfl⟩ : ∃ D1, D = D1 + 1 := ⟨D - 1, by omega⟩
  unfold Mo_isHeir_0 at h
  refine rn_iload_n i185_0 rfl ?_
  refine rn_iconst i185_1 ?_
  refine fr_aload_n i185_2 rfl ?_
  obtain ⟨v3, h3, h⟩ := Option.bind_eq_some_iff.mp h
  refine fr_gR (k := 25) i185_3 tf12_25 h3 ?_
  refine fr_aload_n i185_6 rfl ?_
  obtain ⟨v7, h7, h⟩ := Option.bind_eq_some_iff.mp h
  refine fr_gI (k := 18) i185_7 tf12_18 h7 ?_
  obtain ⟨v10, h10, h⟩ := Option.bind_eq_some_iff.mp h
  refine rn_iald i185_10 h10 ?_
  refine rn_iconst i185_11 ?_
  refine rn_isub i185_12 ?_
  obtain ⟨r13, h13, h⟩ := Option.bind_eq_some_iff.mp h
  refine fr_callS (nst := 0) (As := [.inl x1, .inl 0, .inl (w32 (v10 - 1))]) (st := []) i185_13 (cq183 x1 0 (w32 (v10 - 1))) rfl (Nat.le_of_ble_eq_true rfl) (S_Mo_in x1 0 (w32 (v10 - 1)) w r13 h13 _ (by omega)) ?_
  show Rn _ _ _ _ _ _ [.inl r13.1] _ _ _
  exact fr_retZ i185_16 mr185 h
/-- HandHeirsModel.isHeir(I)Z -/
def Mo_isHeir (a0 : Nat) (x1 : Int) (w : Wd) : Option (Int × Wd) := gd 12 w a0 (Mo_isHeir_0 a0 x1 w)
theorem S_Mo_isHeir {g : Gp} {l : Launch} (a0 : Nat) (x1 : Int) (w : Wd) (r : Int × Wd) (h : Mo_isHeir a0 x1 w = some r) : (wsh w a0).1 = 12 ∧ ∀ D, 1 ≤ D → Rn g l D 185 0 [(0, .inr (.inr a0)), (1, .inl x1)] [] w (some (.inl r.1)) r.2 := by
  obtain ⟨hg, h⟩ := gd_some h
  exact ⟨hg, fun D hD => rn_sub [0, 1] rfl (s_Mo_isHeir_0 hD a0 x1 w r h)⟩
def Mo_isMaster_0 (a0 : Nat) (x1 : Int) (w : Wd) : Option (Int × Wd) :=
  (fgR w a0 12 29).bind fun v3 =>
  (fgI w a0 12 18).bind fun v7 =>
  (rdI w v3 v7).bind fun v10 =>
  (Mo_in x1 0 (w32 (v10 - 1)) w).bind fun r13 =>
  rZ r13.1 r13.2
theorem s_Mo_isMaster_0 {g : Gp} {l : Launch} {D : Nat} (hD : 1 ≤ D) (a0 : Nat) (x1 : Int) (w : Wd) (r : Int × Wd) (h : Mo_isMaster_0 a0 x1 w = some r) : Rn g l D 186 0 [(0, .inr (.inr a0)), (1, .inl x1)] [] w (some (.inl r.1)) r.2 := by
  obtain ⟨D, rfl⟩ : ∃ D1, D = D1 + 1 := ⟨D - 1, by omega⟩
  unfold Mo_isMaster_0 at h
  refine rn_iload_n i186_0 rfl ?_
  refine rn_iconst i186_1 ?_
  refine fr_aload_n i186_2 rfl ?_
  obtain ⟨v3, h3, h⟩ := Option.bind_eq_some_iff.mp h
  refine fr_gR (k := 29) i186_3 tf12_29 h3 ?_
  refine fr_aload_n i186_6 rfl ?_
  obtain ⟨v7, h7, h⟩ := Option.bind_eq_some_iff.mp h
  refine fr_gI (k := 18) i186_7 tf12_18 h7 ?_
  obtain ⟨v10, h10, h⟩ := Option.bind_eq_some_iff.mp h
  refine rn_iald i186_10 h10 ?_
  refine rn_iconst i186_11 ?_
  refine rn_isub i186_12 ?_
  obtain ⟨r13, h13, h⟩ := Option.bind_eq_some_iff.mp h
  refine fr_callS (nst := 0) (As := [.inl x1, .inl 0, .inl (w32 (v10 - 1))]) (st := []) i186_13 (cq183 x1 0 (w32 (v10 - 1))) rfl (Nat.le_of_ble_eq_true rfl) (S_Mo_in x1 0 (w32 (v10 - 1)) w r13 h13 _ (by omega)) ?_
  show Rn _ _ _ _ _ _ [.inl r13.1] _ _ _
  exact fr_retZ i186_16 mr186 h
/-- HandHeirsModel.isMaster(I)Z -/
def Mo_isMaster (a0 : Nat) (x1 : Int) (w : Wd) : Option (Int × Wd) := gd 12 w a0 (Mo_isMaster_0 a0 x1 w)
theorem S_Mo_isMaster {g : Gp} {l : Launch} (a0 : Nat) (x1 : Int) (w : Wd) (r : Int × Wd) (h : Mo_isMaster a0 x1 w = some r) : (wsh w a0).1 = 12 ∧ ∀ D, 1 ≤ D → Rn g l D 186 0 [(0, .inr (.inr a0)), (1, .inl x1)] [] w (some (.inl r.1)) r.2 := by
  obtain ⟨hg, h⟩ := gd_some h
  exact ⟨hg, fun D hD => rn_sub [0, 1] rfl (s_Mo_isMaster_0 hD a0 x1 w r h)⟩
def Mo_freshly_0 (a0 : Nat) (w : Wd) : Option (Wd) :=
  (fgR w a0 12 32).bind fun v2 =>
  (fgI w a0 12 18).bind fun v6 =>
  (rdI w v2 v6).bind fun v9 =>
  (fpI w a0 12 51 v9).bind fun w10 =>
  (fpI w10 a0 12 52 (-1)).bind fun w15 =>
  (fpI w15 a0 12 53 (-1)).bind fun w20 =>
  (fpI w20 a0 12 54 (-1)).bind fun w25 =>
  (fpI w25 a0 12 55 (-1)).bind fun w30 =>
  some w30
theorem s_Mo_freshly_0 {g : Gp} {l : Launch} {D : Nat} (hD : 0 ≤ D) (a0 : Nat) (w : Wd) (r : Wd) (h : Mo_freshly_0 a0 w = some r) : Rn g l D 188 0 [(0, .inr (.inr a0))] [] w none r := by
  unfold Mo_freshly_0 at h
  refine fr_aload_n i188_0 rfl ?_
  refine fr_aload_n i188_1 rfl ?_
  obtain ⟨v2, h2, h⟩ := Option.bind_eq_some_iff.mp h
  refine fr_gR (k := 32) i188_2 tf12_32 h2 ?_
  refine fr_aload_n i188_5 rfl ?_
  obtain ⟨v6, h6, h⟩ := Option.bind_eq_some_iff.mp h
  refine fr_gI (k := 18) i188_6 tf12_18 h6 ?_
  obtain ⟨v9, h9, h⟩ := Option.bind_eq_some_iff.mp h
  refine rn_iald i188_9 h9 ?_
  obtain ⟨w10, h10, h⟩ := Option.bind_eq_some_iff.mp h
  refine fr_pI (k := 51) i188_10 (pf12_51 188) h10 ?_
  refine fr_aload_n i188_13 rfl ?_
  refine rn_iconst i188_14 ?_
  obtain ⟨w15, h15, h⟩ := Option.bind_eq_some_iff.mp h
  refine fr_pI (k := 52) i188_15 (pf12_52 188) h15 ?_
  refine fr_aload_n i188_18 rfl ?_
  refine rn_iconst i188_19 ?_
  obtain ⟨w20, h20, h⟩ := Option.bind_eq_some_iff.mp h
  refine fr_pI (k := 53) i188_20 (pf12_53 188) h20 ?_
  refine fr_aload_n i188_23 rfl ?_
  refine rn_iconst i188_24 ?_
  obtain ⟨w25, h25, h⟩ := Option.bind_eq_some_iff.mp h
  refine fr_pI (k := 54) i188_25 (pf12_54 188) h25 ?_
  refine fr_aload_n i188_28 rfl ?_
  refine rn_iconst i188_29 ?_
  obtain ⟨w30, h30, h⟩ := Option.bind_eq_some_iff.mp h
  refine fr_pI (k := 55) i188_30 (pf12_55 188) h30 ?_
  obtain rfl := Option.some.inj h
  exact rn_ret i188_33 mr188
/-- HandHeirsModel.freshly()V -/
def Mo_freshly (a0 : Nat) (w : Wd) : Option (Wd) := gd 12 w a0 (Mo_freshly_0 a0 w)
theorem S_Mo_freshly {g : Gp} {l : Launch} (a0 : Nat) (w : Wd) (r : Wd) (h : Mo_freshly a0 w = some r) : (wsh w a0).1 = 12 ∧ ∀ D, 0 ≤ D → Rn g l D 188 0 [(0, .inr (.inr a0))] [] w none r := by
  obtain ⟨hg, h⟩ := gd_some h
  exact ⟨hg, fun D hD => rn_sub [0] rfl (s_Mo_freshly_0 hD a0 w r h)⟩
def Mo_copies_26 (a0 : Nat) (w : Wd) : Option (Wd) :=
  (Mo_freshly a0 w).bind fun r27 =>
  some r27
theorem s_Mo_copies_26 {g : Gp} {l : Launch} {D : Nat} (hD : 1 ≤ D) (a0 : Nat) (w : Wd) (r : Wd) (h : Mo_copies_26 a0 w = some r) : Rn g l D 189 26 [(0, .inr (.inr a0))] [] w none r := by
  obtain ⟨D, rfl⟩ : ∃ D1, D = D1 + 1 := ⟨D - 1, by omega⟩
  unfold Mo_copies_26 at h
  refine fr_aload_n i189_26 rfl ?_
  obtain ⟨r27, h27, h⟩ := Option.bind_eq_some_iff.mp h
  obtain ⟨g27, c27⟩ := S_Mo_freshly a0 w r27 h27
  refine fr_callV (a := a0) (As := []) (st := []) i189_27 (cq188 a0) rfl (Nat.le_of_ble_eq_true rfl) g27 (c27 _ (by omega)) ?_
  obtain rfl := Option.some.inj h
  exact rn_ret i189_30 mr189
def Mo_copies_2 : Nat → Nat → Int → Wd → Option (Wd)
  | 0, _, _, _ => none
  | n + 1, a0, x1, w =>
    if (60 : Int) ≤ x1 then
      Mo_copies_26 a0 w
    else
      (fgR w a0 12 50).bind fun v9 =>
      (fgR w a0 12 49).bind fun v14 =>
      (rdI w v14 x1).bind fun v18 =>
      (wrI w v9 x1 v18).bind fun w19 =>
      Mo_copies_2 n a0 (w32 (x1 + 1)) w19
theorem s_Mo_copies_2 {g : Gp} {l : Launch} {D : Nat} (hD : 1 ≤ D) : ∀ (n : Nat) (a0 : Nat) (x1 : Int) (w : Wd) (r : Wd), Mo_copies_2 n a0 x1 w = some r → Rn g l D 189 2 [(0, .inr (.inr a0)), (1, .inl x1)] [] w none r := by
  intro n
  induction n with
  | zero => intro a0 x1 w r h; cases (show (none : Option (Wd)) = some r from h)
  | succ n ih =>
    intro a0 x1 w r h
    unfold Mo_copies_2 at h
    refine rn_iload_n i189_2 rfl ?_
    refine rn_bipush i189_3 ?_
    by_cases c5 : (60 : Int) ≤ x1
    · rw [if_pos c5] at h
      refine rn_icmp_ge_t i189_5 c5 ?_
      exact rn_sub [0] rfl (s_Mo_copies_26 hD a0 w r h)
    · rw [if_neg c5] at h
      refine rn_icmp_ge_f i189_5 c5 ?_
      refine fr_aload_n i189_8 rfl ?_
      obtain ⟨v9, h9, h⟩ := Option.bind_eq_some_iff.mp h
      refine fr_gR (k := 50) i189_9 tf12_50 h9 ?_
      refine rn_iload_n i189_12 rfl ?_
      refine fr_aload_n i189_13 rfl ?_
      obtain ⟨v14, h14, h⟩ := Option.bind_eq_some_iff.mp h
      refine fr_gR (k := 49) i189_14 tf12_49 h14 ?_
      refine rn_iload_n i189_17 rfl ?_
      obtain ⟨v18, h18, h⟩ := Option.bind_eq_some_iff.mp h
      refine rn_iald i189_18 h18 ?_
      obtain ⟨w19, h19, h⟩ := Option.bind_eq_some_iff.mp h
      refine rn_iast i189_19 h19 ?_
      refine rn_iinc (ls1 := [(1, .inl (w32 (x1 + 1))), (0, .inr (.inr a0))]) i189_20 rfl rfl ?_
      refine rn_goto i189_23 ?_
      exact rn_sub [1, 0] rfl (ih a0 (w32 (x1 + 1)) w19 r h)
def Mo_copies_0 (a0 : Nat) (w : Wd) : Option (Wd) :=
  Mo_copies_2 FU a0 0 w
theorem s_Mo_copies_0 {g : Gp} {l : Launch} {D : Nat} (hD : 1 ≤ D) (a0 : Nat) (w : Wd) (r : Wd) (h : Mo_copies_0 a0 w = some r) : Rn g l D 189 0 [(0, .inr (.inr a0))] [] w none r := by
  unfold Mo_copies_0 at h
  refine rn_iconst i189_0 ?_
  refine rn_istore_n (ls1 := [(1, .inl 0), (0, .inr (.inr a0))]) i189_1 rfl ?_
  exact rn_sub [1, 0] rfl (s_Mo_copies_2 hD FU a0 0 w r h)
/-- HandHeirsModel.copies()V -/
def Mo_copies (a0 : Nat) (w : Wd) : Option (Wd) := gd 12 w a0 (Mo_copies_0 a0 w)
theorem S_Mo_copies {g : Gp} {l : Launch} (a0 : Nat) (w : Wd) (r : Wd) (h : Mo_copies a0 w = some r) : (wsh w a0).1 = 12 ∧ ∀ D, 1 ≤ D → Rn g l D 189 0 [(0, .inr (.inr a0))] [] w none r := by
  obtain ⟨hg, h⟩ := gd_some h
  exact ⟨hg, fun D hD => rn_sub [0] rfl (s_Mo_copies_0 hD a0 w r h)⟩
def Mo_copiesAll_27 (a0 : Nat) (w : Wd) : Option (Wd) :=
  (Mo_freshly a0 w).bind fun r28 =>
  some r28
theorem s_Mo_copiesAll_27 {g : Gp} {l : Launch} {D : Nat} (hD : 1 ≤ D) (a0 : Nat) (w : Wd) (r : Wd) (h : Mo_copiesAll_27 a0 w = some r) : Rn g l D 190 27 [(0, .inr (.inr a0))] [] w none r := by
  obtain ⟨D, rfl⟩ : ∃ D1, D = D1 + 1 := ⟨D - 1, by omega⟩
  unfold Mo_copiesAll_27 at h
  refine fr_aload_n i190_27 rfl ?_
  obtain ⟨r28, h28, h⟩ := Option.bind_eq_some_iff.mp h
  obtain ⟨g28, c28⟩ := S_Mo_freshly a0 w r28 h28
  refine fr_callV (a := a0) (As := []) (st := []) i190_28 (cq188 a0) rfl (Nat.le_of_ble_eq_true rfl) g28 (c28 _ (by omega)) ?_
  obtain rfl := Option.some.inj h
  exact rn_ret i190_31 mr190
def Mo_copiesAll_2 : Nat → Nat → Int → Wd → Option (Wd)
  | 0, _, _, _ => none
  | n + 1, a0, x1, w =>
    if (2860 : Int) ≤ x1 then
      Mo_copiesAll_27 a0 w
    else
      (fgR w a0 12 50).bind fun v10 =>
      (fgR w a0 12 49).bind fun v15 =>
      (rdI w v15 x1).bind fun v19 =>
      (wrI w v10 x1 v19).bind fun w20 =>
      Mo_copiesAll_2 n a0 (w32 (x1 + 1)) w20
theorem s_Mo_copiesAll_2 {g : Gp} {l : Launch} {D : Nat} (hD : 1 ≤ D) : ∀ (n : Nat) (a0 : Nat) (x1 : Int) (w : Wd) (r : Wd), Mo_copiesAll_2 n a0 x1 w = some r → Rn g l D 190 2 [(0, .inr (.inr a0)), (1, .inl x1)] [] w none r := by
  intro n
  induction n with
  | zero => intro a0 x1 w r h; cases (show (none : Option (Wd)) = some r from h)
  | succ n ih =>
    intro a0 x1 w r h
    unfold Mo_copiesAll_2 at h
    refine rn_iload_n i190_2 rfl ?_
    refine rn_sipush i190_3 ?_
    by_cases c6 : (2860 : Int) ≤ x1
    · rw [if_pos c6] at h
      refine rn_icmp_ge_t i190_6 c6 ?_
      exact rn_sub [0] rfl (s_Mo_copiesAll_27 hD a0 w r h)
    · rw [if_neg c6] at h
      refine rn_icmp_ge_f i190_6 c6 ?_
      refine fr_aload_n i190_9 rfl ?_
      obtain ⟨v10, h10, h⟩ := Option.bind_eq_some_iff.mp h
      refine fr_gR (k := 50) i190_10 tf12_50 h10 ?_
      refine rn_iload_n i190_13 rfl ?_
      refine fr_aload_n i190_14 rfl ?_
      obtain ⟨v15, h15, h⟩ := Option.bind_eq_some_iff.mp h
      refine fr_gR (k := 49) i190_15 tf12_49 h15 ?_
      refine rn_iload_n i190_18 rfl ?_
      obtain ⟨v19, h19, h⟩ := Option.bind_eq_some_iff.mp h
      refine rn_iald i190_19 h19 ?_
      obtain ⟨w20, h20, h⟩ := Option.bind_eq_some_iff.mp h
      refine rn_iast i190_20 h20 ?_
      refine rn_iinc (ls1 := [(1, .inl (w32 (x1 + 1))), (0, .inr (.inr a0))]) i190_21 rfl rfl ?_
      refine rn_goto i190_24 ?_
      exact rn_sub [1, 0] rfl (ih a0 (w32 (x1 + 1)) w20 r h)
def Mo_copiesAll_0 (a0 : Nat) (w : Wd) : Option (Wd) :=
  Mo_copiesAll_2 FU a0 0 w
theorem s_Mo_copiesAll_0 {g : Gp} {l : Launch} {D : Nat} (hD : 1 ≤ D) (a0 : Nat) (w : Wd) (r : Wd) (h : Mo_copiesAll_0 a0 w = some r) : Rn g l D 190 0 [(0, .inr (.inr a0))] [] w none r := by
  unfold Mo_copiesAll_0 at h
  refine rn_iconst i190_0 ?_
  refine rn_istore_n (ls1 := [(1, .inl 0), (0, .inr (.inr a0))]) i190_1 rfl ?_
  exact rn_sub [1, 0] rfl (s_Mo_copiesAll_2 hD FU a0 0 w r h)
/-- HandHeirsModel.copiesAll()V -/
def Mo_copiesAll (a0 : Nat) (w : Wd) : Option (Wd) := gd 12 w a0 (Mo_copiesAll_0 a0 w)
theorem S_Mo_copiesAll {g : Gp} {l : Launch} (a0 : Nat) (w : Wd) (r : Wd) (h : Mo_copiesAll a0 w = some r) : (wsh w a0).1 = 12 ∧ ∀ D, 1 ≤ D → Rn g l D 190 0 [(0, .inr (.inr a0))] [] w none r := by
  obtain ⟨hg, h⟩ := gd_some h
  exact ⟨hg, fun D hD => rn_sub [0] rfl (s_Mo_copiesAll_0 hD a0 w r h)⟩
def Mo_mixed_0 (x0 : Int) (x1 : Int) (w : Wd) : Option (Int × Wd) :=
  some ((oxor (w32 ((w32 ((oxor x0 x1) * 1103515245)) + 12345)) (oushr (w32 ((w32 ((oxor x0 x1) * 1103515245)) + 12345)) 15)), w)
theorem s_Mo_mixed_0 {g : Gp} {l : Launch} {D : Nat} (hD : 0 ≤ D) (x0 : Int) (x1 : Int) (w : Wd) (r : Int × Wd) (h : Mo_mixed_0 x0 x1 w = some r) : Rn g l D 191 0 [(0, .inl x0), (1, .inl x1)] [] w (some (.inl r.1)) r.2 := by
  unfold Mo_mixed_0 at h
  refine rn_iload_n i191_0 rfl ?_
  refine rn_iload_n i191_1 rfl ?_
  refine rn_ixor i191_2 ?_
  refine rn_ldcw i191_3 lw191_3 ⟨by decide, by decide⟩ ?_
  refine rn_imul i191_6 ?_
  refine rn_sipush i191_7 ?_
  refine rn_iadd i191_10 ?_
  refine rn_istore_n (ls1 := [(2, .inl (w32 ((w32 ((oxor x0 x1) * 1103515245)) + 12345))), (0, .inl x0), (1, .inl x1)]) i191_11 rfl ?_
  refine rn_iload_n i191_12 rfl ?_
  refine rn_iload_n i191_13 rfl ?_
  refine rn_bipush i191_14 ?_
  refine rn_iushr i191_16 ?_
  refine rn_ixor i191_17 ?_
  obtain rfl := Option.some.inj h
  exact rn_retI i191_18 mr191
/-- HandHeirsModel.mixed(II)I -/
def Mo_mixed (x0 : Int) (x1 : Int) (w : Wd) : Option (Int × Wd) := Mo_mixed_0 x0 x1 w
theorem S_Mo_mixed {g : Gp} {l : Launch} (x0 : Int) (x1 : Int) (w : Wd) (r : Int × Wd) (h : Mo_mixed x0 x1 w = some r) : ∀ D, 0 ≤ D → Rn g l D 191 0 [(0, .inl x0), (1, .inl x1)] [] w (some (.inl r.1)) r.2 := fun D hD => rn_sub [0, 1] rfl (s_Mo_mixed_0 hD x0 x1 w r h)
def Mo_lotOf_0 (x0 : Int) (x1 : Int) (x2 : Int) (w : Wd) : Option (Int × Wd) :=
  (Mo_mixed x0 27 w).bind fun r3 =>
  (Mo_mixed (r3.1) x1 r3.2).bind fun r7 =>
  (irm (oushr r7.1 1) x2).bind fun v13 =>
  some (v13, r7.2)
theorem s_Mo_lotOf_0 {g : Gp} {l : Launch} {D : Nat} (hD : 1 ≤ D) (x0 : Int) (x1 : Int) (x2 : Int) (w : Wd) (r : Int × Wd) (h : Mo_lotOf_0 x0 x1 x2 w = some r) : Rn g l D 192 0 [(0, .inl x0), (1, .inl x1), (2, .inl x2)] [] w (some (.inl r.1)) r.2 := by
  obtain ⟨D, rfl⟩ : ∃ D1, D = D1 + 1 := ⟨D - 1, by omega⟩
  unfold Mo_lotOf_0 at h
  refine rn_iload_n i192_0 rfl ?_
  refine rn_bipush i192_1 ?_
  obtain ⟨r3, h3, h⟩ := Option.bind_eq_some_iff.mp h
  refine fr_callS (nst := 0) (As := [.inl x0, .inl 27]) (st := []) i192_3 (cq191 x0 27) rfl (Nat.le_of_ble_eq_true rfl) (S_Mo_mixed x0 27 w r3 h3 _ (by omega)) ?_
  show Rn _ _ _ _ _ _ [.inl r3.1] _ _ _
  refine rn_iload_n i192_6 rfl ?_
  obtain ⟨r7, h7, h⟩ := Option.bind_eq_some_iff.mp h
  refine fr_callS (nst := 0) (As := [.inl r3.1, .inl x1]) (st := []) i192_7 (cq191 (r3.1) x1) rfl (Nat.le_of_ble_eq_true rfl) (S_Mo_mixed (r3.1) x1 r3.2 r7 h7 _ (by omega)) ?_
  show Rn _ _ _ _ _ _ [.inl r7.1] _ _ _
  refine rn_iconst i192_10 ?_
  refine rn_iushr i192_11 ?_
  refine rn_iload_n i192_12 rfl ?_
  obtain ⟨v13, h13, h⟩ := Option.bind_eq_some_iff.mp h
  refine fr_irm i192_13 h13 ?_
  obtain rfl := Option.some.inj h
  exact rn_retI i192_14 mr192
/-- HandHeirsModel.lotOf(III)I -/
def Mo_lotOf (x0 : Int) (x1 : Int) (x2 : Int) (w : Wd) : Option (Int × Wd) := Mo_lotOf_0 x0 x1 x2 w
theorem S_Mo_lotOf {g : Gp} {l : Launch} (x0 : Int) (x1 : Int) (x2 : Int) (w : Wd) (r : Int × Wd) (h : Mo_lotOf x0 x1 x2 w = some r) : ∀ D, 1 ≤ D → Rn g l D 192 0 [(0, .inl x0), (1, .inl x1), (2, .inl x2)] [] w (some (.inl r.1)) r.2 := fun D hD => rn_sub [0, 1, 2] rfl (s_Mo_lotOf_0 hD x0 x1 x2 w r h)
def Mo_apart_14 (s0 : Int) (w : Wd) : Option (Int × Wd) :=
  some (s0, w)
theorem s_Mo_apart_14 {g : Gp} {l : Launch} {D : Nat} (hD : 0 ≤ D) (s0 : Int) (w : Wd) (r : Int × Wd) (h : Mo_apart_14 s0 w = some r) : Rn g l D 193 14 [] [.inl s0] w (some (.inl r.1)) r.2 := by
  unfold Mo_apart_14 at h
  obtain rfl := Option.some.inj h
  exact rn_retI i193_14 mr193
def Mo_apart_0 (x0 : Int) (x1 : Int) (w : Wd) : Option (Int × Wd) :=
  if (x1 : Int) ≤ x0 then
    Mo_apart_14 (w32 (x0 - x1)) w
  else
    Mo_apart_14 (w32 (x1 - x0)) w
theorem s_Mo_apart_0 {g : Gp} {l : Launch} {D : Nat} (hD : 0 ≤ D) (x0 : Int) (x1 : Int) (w : Wd) (r : Int × Wd) (h : Mo_apart_0 x0 x1 w = some r) : Rn g l D 193 0 [(0, .inl x0), (1, .inl x1)] [] w (some (.inl r.1)) r.2 := by
  unfold Mo_apart_0 at h
  refine rn_iload_n i193_0 rfl ?_
  refine rn_iload_n i193_1 rfl ?_
  by_cases c2 : (x1 : Int) ≤ x0
  · rw [if_pos c2] at h
    refine rn_icmp_ge_t i193_2 c2 ?_
    refine rn_iload_n i193_11 rfl ?_
    refine rn_iload_n i193_12 rfl ?_
    refine rn_isub i193_13 ?_
    exact rn_sub [] rfl (s_Mo_apart_14 hD (w32 (x0 - x1)) w r h)
  · rw [if_neg c2] at h
    refine rn_icmp_ge_f i193_2 c2 ?_
    refine rn_iload_n i193_5 rfl ?_
    refine rn_iload_n i193_6 rfl ?_
    refine rn_isub i193_7 ?_
    refine rn_goto i193_8 ?_
    exact rn_sub [] rfl (s_Mo_apart_14 hD (w32 (x1 - x0)) w r h)
/-- HandHeirsModel.apart(II)I -/
def Mo_apart (x0 : Int) (x1 : Int) (w : Wd) : Option (Int × Wd) := Mo_apart_0 x0 x1 w
theorem S_Mo_apart {g : Gp} {l : Launch} (x0 : Int) (x1 : Int) (w : Wd) (r : Int × Wd) (h : Mo_apart x0 x1 w = some r) : ∀ D, 0 ≤ D → Rn g l D 193 0 [(0, .inl x0), (1, .inl x1)] [] w (some (.inl r.1)) r.2 := fun D hD => rn_sub [0, 1] rfl (s_Mo_apart_0 hD x0 x1 w r h)
def Mo_shapeOf_0 (a0 : Nat) (x1 : Int) (x2 : Int) (w : Wd) : Option (Int × Wd) :=
  (fgR w a0 12 50).bind fun v1 =>
  (rdI w v1 (w32 ((w32 (6 + (w32 (6 * x1)))) + x2))).bind fun v13 =>
  some (v13, w)
theorem s_Mo_shapeOf_0 {g : Gp} {l : Launch} {D : Nat} (hD : 0 ≤ D) (a0 : Nat) (x1 : Int) (x2 : Int) (w : Wd) (r : Int × Wd) (h : Mo_shapeOf_0 a0 x1 x2 w = some r) : Rn g l D 194 0 [(0, .inr (.inr a0)), (1, .inl x1), (2, .inl x2)] [] w (some (.inl r.1)) r.2 := by
  unfold Mo_shapeOf_0 at h
  refine fr_aload_n i194_0 rfl ?_
  obtain ⟨v1, h1, h⟩ := Option.bind_eq_some_iff.mp h
  refine fr_gR (k := 50) i194_1 tf12_50 h1 ?_
  refine rn_bipush i194_4 ?_
  refine rn_bipush i194_6 ?_
  refine rn_iload_n i194_8 rfl ?_
  refine rn_imul i194_9 ?_
  refine rn_iadd i194_10 ?_
  refine rn_iload_n i194_11 rfl ?_
  refine rn_iadd i194_12 ?_
  obtain ⟨v13, h13, h⟩ := Option.bind_eq_some_iff.mp h
  refine rn_iald i194_13 h13 ?_
  obtain rfl := Option.some.inj h
  exact rn_retI i194_14 mr194
/-- HandHeirsModel.shapeOf(II)I -/
def Mo_shapeOf (a0 : Nat) (x1 : Int) (x2 : Int) (w : Wd) : Option (Int × Wd) := gd 12 w a0 (Mo_shapeOf_0 a0 x1 x2 w)
theorem S_Mo_shapeOf {g : Gp} {l : Launch} (a0 : Nat) (x1 : Int) (x2 : Int) (w : Wd) (r : Int × Wd) (h : Mo_shapeOf a0 x1 x2 w = some r) : (wsh w a0).1 = 12 ∧ ∀ D, 0 ≤ D → Rn g l D 194 0 [(0, .inr (.inr a0)), (1, .inl x1), (2, .inl x2)] [] w (some (.inl r.1)) r.2 := by
  obtain ⟨hg, h⟩ := gd_some h
  exact ⟨hg, fun D hD => rn_sub [0, 1, 2] rfl (s_Mo_shapeOf_0 hD a0 x1 x2 w r h)⟩
def Mo_writes_78 (s0 : Int) (w : Wd) : Option (Int × Wd) :=
  some (s0, w)
theorem s_Mo_writes_78 {g : Gp} {l : Launch} {D : Nat} (hD : 2 ≤ D) (s0 : Int) (w : Wd) (r : Int × Wd) (h : Mo_writes_78 s0 w = some r) : Rn g l D 195 78 [] [.inl s0] w (some (.inl r.1)) r.2 := by
  unfold Mo_writes_78 at h
  obtain rfl := Option.some.inj h
  exact rn_retI i195_78 mr195
def Mo_writes_0 (a0 : Nat) (x1 : Int) (x2 : Int) (w : Wd) : Option (Int × Wd) :=
  (fgR w a0 12 27).bind fun v1 =>
  (fgI w a0 12 18).bind fun v7 =>
  (rdI w v1 (w32 ((w32 (6 * v7)) + x1))).bind fun v13 =>
  (Mo_shapeOf a0 x1 x2 w).bind fun r18 =>
  (fgI r18.2 a0 12 51).bind fun v22 =>
  (fgR r18.2 a0 12 50).bind fun v28 =>
  (rdI r18.2 v28 42).bind fun v33 =>
  (Mo_lotOf v22 (w32 ((w32 ((w32 (36 * v33)) + (w32 (6 * x1)))) + x2)) (w32 ((w32 (2 * v13)) + 1)) r18.2).bind fun r47 =>
  if (0 : Int) ≤ (w32 ((w32 (r18.1 + r47.1)) - v13)) then
    if ((w32 ((w32 (r18.1 + r47.1)) - v13)) : Int) ≤ 99 then
      Mo_writes_78 (w32 ((w32 (r18.1 + r47.1)) - v13)) r47.2
    else
      Mo_writes_78 99 r47.2
  else
    Mo_writes_78 0 r47.2
theorem s_Mo_writes_0 {g : Gp} {l : Launch} {D : Nat} (hD : 2 ≤ D) (a0 : Nat) (x1 : Int) (x2 : Int) (w : Wd) (r : Int × Wd) (h : Mo_writes_0 a0 x1 x2 w = some r) : Rn g l D 195 0 [(0, .inr (.inr a0)), (1, .inl x1), (2, .inl x2)] [] w (some (.inl r.1)) r.2 := by
  obtain ⟨D, rfl⟩ : ∃ D1, D = D1 + 1 := ⟨D - 1, by omega⟩
  unfold Mo_writes_0 at h
  refine fr_aload_n i195_0 rfl ?_
  obtain ⟨v1, h1, h⟩ := Option.bind_eq_some_iff.mp h
  refine fr_gR (k := 27) i195_1 tf12_27 h1 ?_
  refine rn_bipush i195_4 ?_
  refine fr_aload_n i195_6 rfl ?_
  obtain ⟨v7, h7, h⟩ := Option.bind_eq_some_iff.mp h
  refine fr_gI (k := 18) i195_7 tf12_18 h7 ?_
  refine rn_imul i195_10 ?_
  refine rn_iload_n i195_11 rfl ?_
  refine rn_iadd i195_12 ?_
  obtain ⟨v13, h13, h⟩ := Option.bind_eq_some_iff.mp h
  refine rn_iald i195_13 h13 ?_
  refine rn_istore_n (ls1 := [(3, .inl v13), (0, .inr (.inr a0)), (1, .inl x1), (2, .inl x2)]) i195_14 rfl ?_
  refine fr_aload_n i195_15 rfl ?_
  refine rn_iload_n i195_16 rfl ?_
  refine rn_iload_n i195_17 rfl ?_
  obtain ⟨r18, h18, h⟩ := Option.bind_eq_some_iff.mp h
  obtain ⟨g18, c18⟩ := S_Mo_shapeOf a0 x1 x2 w r18 h18
  refine fr_callV (a := a0) (As := [.inl x1, .inl x2]) (st := []) i195_18 (cq194 a0 x1 x2) rfl (Nat.le_of_ble_eq_true rfl) g18 (c18 _ (by omega)) ?_
  show Rn _ _ _ _ _ _ [.inl r18.1] _ _ _
  refine fr_aload_n i195_21 rfl ?_
  obtain ⟨v22, h22, h⟩ := Option.bind_eq_some_iff.mp h
  refine fr_gI (k := 51) i195_22 tf12_51 h22 ?_
  refine rn_bipush i195_25 ?_
  refine fr_aload_n i195_27 rfl ?_
  obtain ⟨v28, h28, h⟩ := Option.bind_eq_some_iff.mp h
  refine fr_gR (k := 50) i195_28 tf12_50 h28 ?_
  refine rn_bipush i195_31 ?_
  obtain ⟨v33, h33, h⟩ := Option.bind_eq_some_iff.mp h
  refine rn_iald i195_33 h33 ?_
  refine rn_imul i195_34 ?_
  refine rn_bipush i195_35 ?_
  refine rn_iload_n i195_37 rfl ?_
  refine rn_imul i195_38 ?_
  refine rn_iadd i195_39 ?_
  refine rn_iload_n i195_40 rfl ?_
  refine rn_iadd i195_41 ?_
  refine rn_iconst i195_42 ?_
  refine rn_iload_n i195_43 rfl ?_
  refine rn_imul i195_44 ?_
  refine rn_iconst i195_45 ?_
  refine rn_iadd i195_46 ?_
  obtain ⟨r47, h47, h⟩ := Option.bind_eq_some_iff.mp h
  refine fr_callS (nst := 0) (As := [.inl v22, .inl (w32 ((w32 ((w32 (36 * v33)) + (w32 (6 * x1)))) + x2)), .inl (w32 ((w32 (2 * v13)) + 1))]) (st := [.inl r18.1]) i195_47 (cq192 v22 (w32 ((w32 ((w32 (36 * v33)) + (w32 (6 * x1)))) + x2)) (w32 ((w32 (2 * v13)) + 1))) rfl (Nat.le_of_ble_eq_true rfl) (S_Mo_lotOf v22 (w32 ((w32 ((w32 (36 * v33)) + (w32 (6 * x1)))) + x2)) (w32 ((w32 (2 * v13)) + 1)) r18.2 r47 h47 _ (by omega)) ?_
  show Rn _ _ _ _ _ _ [.inl r47.1, .inl r18.1] _ _ _
  refine rn_iadd i195_50 ?_
  refine rn_iload_n i195_51 rfl ?_
  refine rn_isub i195_52 ?_
  refine rn_istore (ls1 := [(4, .inl (w32 ((w32 (r18.1 + r47.1)) - v13))), (3, .inl v13), (0, .inr (.inr a0)), (1, .inl x1), (2, .inl x2)]) i195_53 rfl ?_
  refine rn_iload i195_55 rfl ?_
  by_cases c57 : (0 : Int) ≤ (w32 ((w32 (r18.1 + r47.1)) - v13))
  · rw [if_pos c57] at h
    refine rn_if_ge_t i195_57 c57 ?_
    refine rn_iload i195_64 rfl ?_
    refine rn_bipush i195_66 ?_
    by_cases c68 : ((w32 ((w32 (r18.1 + r47.1)) - v13)) : Int) ≤ 99
    · rw [if_pos c68] at h
      refine rn_icmp_le_t i195_68 c68 ?_
      refine rn_iload i195_76 rfl ?_
      exact rn_sub [] rfl (s_Mo_writes_78 hD (w32 ((w32 (r18.1 + r47.1)) - v13)) r47.2 r h)
    · rw [if_neg c68] at h
      refine rn_icmp_le_f i195_68 c68 ?_
      refine rn_bipush i195_71 ?_
      refine rn_goto i195_73 ?_
      exact rn_sub [] rfl (s_Mo_writes_78 hD 99 r47.2 r h)
  · rw [if_neg c57] at h
    refine rn_if_ge_f i195_57 c57 ?_
    refine rn_iconst i195_60 ?_
    refine rn_goto i195_61 ?_
    exact rn_sub [] rfl (s_Mo_writes_78 hD 0 r47.2 r h)
/-- HandHeirsModel.writes(II)I -/
def Mo_writes (a0 : Nat) (x1 : Int) (x2 : Int) (w : Wd) : Option (Int × Wd) := gd 12 w a0 (Mo_writes_0 a0 x1 x2 w)
theorem S_Mo_writes {g : Gp} {l : Launch} (a0 : Nat) (x1 : Int) (x2 : Int) (w : Wd) (r : Int × Wd) (h : Mo_writes a0 x1 x2 w = some r) : (wsh w a0).1 = 12 ∧ ∀ D, 2 ≤ D → Rn g l D 195 0 [(0, .inr (.inr a0)), (1, .inl x1), (2, .inl x2)] [] w (some (.inl r.1)) r.2 := by
  obtain ⟨hg, h⟩ := gd_some h
  exact ⟨hg, fun D hD => rn_sub [0, 1, 2] rfl (s_Mo_writes_0 hD a0 x1 x2 w r h)⟩
def Mo_tells_127 (s0 : Int) (w : Wd) : Option (Int × Wd) :=
  some (s0, w)
theorem s_Mo_tells_127 {g : Gp} {l : Launch} {D : Nat} (hD : 1 ≤ D) (s0 : Int) (w : Wd) (r : Int × Wd) (h : Mo_tells_127 s0 w = some r) : Rn g l D 196 127 [] [.inl s0] w (some (.inl r.1)) r.2 := by
  unfold Mo_tells_127 at h
  obtain rfl := Option.some.inj h
  exact rn_retI i196_127 mr196
def Mo_tells_96 (a0 : Nat) (x3 : Int) (w : Wd) : Option (Int × Wd) :=
  (fgR w a0 12 39).bind fun v98 =>
  (rdI w v98 x3).bind fun v102 =>
  (fgR w a0 12 40).bind fun v104 =>
  (rdI w v104 x3).bind fun v108 =>
  (Mo_termOf a0 v102 v108 w).bind fun r109 =>
  (fgI r109.2 a0 12 48).bind fun v115 =>
  if (v115 : Int) = 0 then
    Mo_tells_127 r109.1 r109.2
  else
    Mo_tells_127 0 r109.2
theorem s_Mo_tells_96 {g : Gp} {l : Launch} {D : Nat} (hD : 1 ≤ D) (a0 : Nat) (x3 : Int) (w : Wd) (r : Int × Wd) (h : Mo_tells_96 a0 x3 w = some r) : Rn g l D 196 96 [(0, .inr (.inr a0)), (3, .inl x3)] [] w (some (.inl r.1)) r.2 := by
  obtain ⟨D, rfl⟩ : ∃ D1, D = D1 + 1 := ⟨D - 1, by omega⟩
  unfold Mo_tells_96 at h
  refine fr_aload_n i196_96 rfl ?_
  refine fr_aload_n i196_97 rfl ?_
  obtain ⟨v98, h98, h⟩ := Option.bind_eq_some_iff.mp h
  refine fr_gR (k := 39) i196_98 tf12_39 h98 ?_
  refine rn_iload_n i196_101 rfl ?_
  obtain ⟨v102, h102, h⟩ := Option.bind_eq_some_iff.mp h
  refine rn_iald i196_102 h102 ?_
  refine fr_aload_n i196_103 rfl ?_
  obtain ⟨v104, h104, h⟩ := Option.bind_eq_some_iff.mp h
  refine fr_gR (k := 40) i196_104 tf12_40 h104 ?_
  refine rn_iload_n i196_107 rfl ?_
  obtain ⟨v108, h108, h⟩ := Option.bind_eq_some_iff.mp h
  refine rn_iald i196_108 h108 ?_
  obtain ⟨r109, h109, h⟩ := Option.bind_eq_some_iff.mp h
  obtain ⟨g109, c109⟩ := S_Mo_termOf a0 v102 v108 w r109 h109
  refine fr_callV (a := a0) (As := [.inl v102, .inl v108]) (st := []) i196_109 (cq182 a0 v102 v108) rfl (Nat.le_of_ble_eq_true rfl) g109 (c109 _ (by omega)) ?_
  show Rn _ _ _ _ _ _ [.inl r109.1] _ _ _
  refine rn_istore (ls1 := [(4, .inl r109.1), (0, .inr (.inr a0)), (3, .inl x3)]) i196_112 rfl ?_
  refine fr_aload_n i196_114 rfl ?_
  obtain ⟨v115, h115, h⟩ := Option.bind_eq_some_iff.mp h
  refine fr_gI (k := 48) i196_115 tf12_48 h115 ?_
  by_cases c118 : (v115 : Int) = 0
  · rw [if_pos c118] at h
    refine rn_if_eq_t i196_118 c118 ?_
    refine rn_iload i196_125 rfl ?_
    exact rn_sub [] rfl (s_Mo_tells_127 hD r109.1 r109.2 r h)
  · rw [if_neg c118] at h
    refine rn_if_eq_f i196_118 c118 ?_
    refine rn_iconst i196_121 ?_
    refine rn_goto i196_122 ?_
    exact rn_sub [] rfl (s_Mo_tells_127 hD 0 r109.2 r h)
def Mo_tells_22 : Nat → Nat → Int → Int → Wd → Option (Int × Wd)
  | 0, _, _, _, _ => none
  | n + 1, a0, x2, x3, w =>
    (fgR w a0 12 34).bind fun v24 =>
    (rdI w v24 x2).bind fun v28 =>
    if (v28 : Int) ≤ x3 then
      some (0, w)
    else
      (fgR w a0 12 36).bind fun v33 =>
      (rdB w v33 x3).bind fun v37 =>
      if (v37 : Int) = 0 then
        Mo_tells_96 a0 x3 w
      else
        (fgR w a0 12 37).bind fun v43 =>
        (rdI w v43 x3).bind fun v47 =>
        (fgR w a0 12 38).bind fun v49 =>
        (rdI w v49 x3).bind fun v53 =>
        (Mo_termOf a0 v47 v53 w).bind fun r54 =>
        (fgR r54.2 a0 12 38).bind fun v61 =>
        (rdI r54.2 v61 x3).bind fun v65 =>
        (fgR r54.2 a0 12 39).bind fun v67 =>
        (rdI r54.2 v67 x3).bind fun v71 =>
        (Mo_termOf a0 v65 v71 r54.2).bind fun r72 =>
        (fgI r72.2 a0 12 48).bind fun v78 =>
        if (v78 : Int) = 0 then
          if (r54.1 : Int) < r72.1 then
            Mo_tells_96 a0 x3 r72.2
          else
            Mo_tells_22 n a0 x2 (w32 (x3 + 1)) r72.2
        else
          some (0, r72.2)
theorem s_Mo_tells_22 {g : Gp} {l : Launch} {D : Nat} (hD : 1 ≤ D) : ∀ (n : Nat) (a0 : Nat) (x2 : Int) (x3 : Int) (w : Wd) (r : Int × Wd), Mo_tells_22 n a0 x2 x3 w = some r → Rn g l D 196 22 [(0, .inr (.inr a0)), (2, .inl x2), (3, .inl x3)] [] w (some (.inl r.1)) r.2 := by
  obtain ⟨D, rfl⟩ : ∃ D1, D = D1 + 1 := ⟨D - 1, by omega⟩
  intro n
  induction n with
  | zero => intro a0 x2 x3 w r h; cases (show (none : Option (Int × Wd)) = some r from h)
  | succ n ih =>
    intro a0 x2 x3 w r h
    unfold Mo_tells_22 at h
    refine rn_iload_n i196_22 rfl ?_
    refine fr_aload_n i196_23 rfl ?_
    obtain ⟨v24, h24, h⟩ := Option.bind_eq_some_iff.mp h
    refine fr_gR (k := 34) i196_24 tf12_34 h24 ?_
    refine rn_iload_n i196_27 rfl ?_
    obtain ⟨v28, h28, h⟩ := Option.bind_eq_some_iff.mp h
    refine rn_iald i196_28 h28 ?_
    by_cases c29 : (v28 : Int) ≤ x3
    · rw [if_pos c29] at h
      refine rn_icmp_ge_t i196_29 c29 ?_
      refine rn_iconst i196_134 ?_
      obtain rfl := Option.some.inj h
      exact rn_retI i196_135 mr196
    · rw [if_neg c29] at h
      refine rn_icmp_ge_f i196_29 c29 ?_
      refine fr_aload_n i196_32 rfl ?_
      obtain ⟨v33, h33, h⟩ := Option.bind_eq_some_iff.mp h
      refine fr_gR (k := 36) i196_33 tf12_36 h33 ?_
      refine rn_iload_n i196_36 rfl ?_
      obtain ⟨v37, h37, h⟩ := Option.bind_eq_some_iff.mp h
      refine rn_bald i196_37 h37 ?_
      by_cases c38 : (v37 : Int) = 0
      · rw [if_pos c38] at h
        refine rn_if_eq_t i196_38 c38 ?_
        exact rn_sub [0, 2] rfl (s_Mo_tells_96 hD a0 x3 w r h)
      · rw [if_neg c38] at h
        refine rn_if_eq_f i196_38 c38 ?_
        refine fr_aload_n i196_41 rfl ?_
        refine fr_aload_n i196_42 rfl ?_
        obtain ⟨v43, h43, h⟩ := Option.bind_eq_some_iff.mp h
        refine fr_gR (k := 37) i196_43 tf12_37 h43 ?_
        refine rn_iload_n i196_46 rfl ?_
        obtain ⟨v47, h47, h⟩ := Option.bind_eq_some_iff.mp h
        refine rn_iald i196_47 h47 ?_
        refine fr_aload_n i196_48 rfl ?_
        obtain ⟨v49, h49, h⟩ := Option.bind_eq_some_iff.mp h
        refine fr_gR (k := 38) i196_49 tf12_38 h49 ?_
        refine rn_iload_n i196_52 rfl ?_
        obtain ⟨v53, h53, h⟩ := Option.bind_eq_some_iff.mp h
        refine rn_iald i196_53 h53 ?_
        obtain ⟨r54, h54, h⟩ := Option.bind_eq_some_iff.mp h
        obtain ⟨g54, c54⟩ := S_Mo_termOf a0 v47 v53 w r54 h54
        refine fr_callV (a := a0) (As := [.inl v47, .inl v53]) (st := []) i196_54 (cq182 a0 v47 v53) rfl (Nat.le_of_ble_eq_true rfl) g54 (c54 _ (by omega)) ?_
        show Rn _ _ _ _ _ _ [.inl r54.1] _ _ _
        refine rn_istore (ls1 := [(4, .inl r54.1), (0, .inr (.inr a0)), (2, .inl x2), (3, .inl x3)]) i196_57 rfl ?_
        refine fr_aload_n i196_59 rfl ?_
        refine fr_aload_n i196_60 rfl ?_
        obtain ⟨v61, h61, h⟩ := Option.bind_eq_some_iff.mp h
        refine fr_gR (k := 38) i196_61 tf12_38 h61 ?_
        refine rn_iload_n i196_64 rfl ?_
        obtain ⟨v65, h65, h⟩ := Option.bind_eq_some_iff.mp h
        refine rn_iald i196_65 h65 ?_
        refine fr_aload_n i196_66 rfl ?_
        obtain ⟨v67, h67, h⟩ := Option.bind_eq_some_iff.mp h
        refine fr_gR (k := 39) i196_67 tf12_39 h67 ?_
        refine rn_iload_n i196_70 rfl ?_
        obtain ⟨v71, h71, h⟩ := Option.bind_eq_some_iff.mp h
        refine rn_iald i196_71 h71 ?_
        obtain ⟨r72, h72, h⟩ := Option.bind_eq_some_iff.mp h
        obtain ⟨g72, c72⟩ := S_Mo_termOf a0 v65 v71 r54.2 r72 h72
        refine fr_callV (a := a0) (As := [.inl v65, .inl v71]) (st := []) i196_72 (cq182 a0 v65 v71) rfl (Nat.le_of_ble_eq_true rfl) g72 (c72 _ (by omega)) ?_
        show Rn _ _ _ _ _ _ [.inl r72.1] _ _ _
        refine rn_istore (ls1 := [(5, .inl r72.1), (4, .inl r54.1), (0, .inr (.inr a0)), (2, .inl x2), (3, .inl x3)]) i196_75 rfl ?_
        refine fr_aload_n i196_77 rfl ?_
        obtain ⟨v78, h78, h⟩ := Option.bind_eq_some_iff.mp h
        refine fr_gI (k := 48) i196_78 tf12_48 h78 ?_
        by_cases c81 : (v78 : Int) = 0
        · rw [if_pos c81] at h
          refine rn_if_eq_t i196_81 c81 ?_
          refine rn_iload i196_86 rfl ?_
          refine rn_iload i196_88 rfl ?_
          by_cases c90 : (r54.1 : Int) < r72.1
          · rw [if_pos c90] at h
            refine rn_icmp_lt_t i196_90 c90 ?_
            exact rn_sub [2, 4] rfl (s_Mo_tells_96 hD a0 x3 r72.2 r h)
          · rw [if_neg c90] at h
            refine rn_icmp_lt_f i196_90 c90 ?_
            refine rn_goto i196_93 ?_
            refine rn_iinc (ls1 := [(3, .inl (w32 (x3 + 1))), (5, .inl r72.1), (4, .inl r54.1), (0, .inr (.inr a0)), (2, .inl x2)]) i196_128 rfl rfl ?_
            refine rn_goto i196_131 ?_
            exact rn_sub [3, 4, 0] rfl (ih a0 x2 (w32 (x3 + 1)) r72.2 r h)
        · rw [if_neg c81] at h
          refine rn_if_eq_f i196_81 c81 ?_
          refine rn_iconst i196_84 ?_
          obtain rfl := Option.some.inj h
          exact rn_retI i196_85 mr196
def Mo_tells_0 (a0 : Nat) (x1 : Int) (w : Wd) : Option (Int × Wd) :=
  (fgI w a0 12 18).bind fun v3 =>
  (fpZ w a0 12 48 0).bind fun w12 =>
  (fgR w12 a0 12 33).bind fun v16 =>
  (rdI w12 v16 (w32 ((w32 (10 * v3)) + x1))).bind fun v20 =>
  Mo_tells_22 FU a0 (w32 ((w32 (10 * v3)) + x1)) v20 w12
theorem s_Mo_tells_0 {g : Gp} {l : Launch} {D : Nat} (hD : 1 ≤ D) (a0 : Nat) (x1 : Int) (w : Wd) (r : Int × Wd) (h : Mo_tells_0 a0 x1 w = some r) : Rn g l D 196 0 [(0, .inr (.inr a0)), (1, .inl x1)] [] w (some (.inl r.1)) r.2 := by
  unfold Mo_tells_0 at h
  refine rn_bipush i196_0 ?_
  refine fr_aload_n i196_2 rfl ?_
  obtain ⟨v3, h3, h⟩ := Option.bind_eq_some_iff.mp h
  refine fr_gI (k := 18) i196_3 tf12_18 h3 ?_
  refine rn_imul i196_6 ?_
  refine rn_iload_n i196_7 rfl ?_
  refine rn_iadd i196_8 ?_
  refine rn_istore_n (ls1 := [(2, .inl (w32 ((w32 (10 * v3)) + x1))), (0, .inr (.inr a0)), (1, .inl x1)]) i196_9 rfl ?_
  refine fr_aload_n i196_10 rfl ?_
  refine rn_iconst i196_11 ?_
  obtain ⟨w12, h12, h⟩ := Option.bind_eq_some_iff.mp h
  refine fr_pZ (k := 48) i196_12 (pf12_48 196) h12 ?_
  refine fr_aload_n i196_15 rfl ?_
  obtain ⟨v16, h16, h⟩ := Option.bind_eq_some_iff.mp h
  refine fr_gR (k := 33) i196_16 tf12_33 h16 ?_
  refine rn_iload_n i196_19 rfl ?_
  obtain ⟨v20, h20, h⟩ := Option.bind_eq_some_iff.mp h
  refine rn_iald i196_20 h20 ?_
  refine rn_istore_n (ls1 := [(3, .inl v20), (2, .inl (w32 ((w32 (10 * v3)) + x1))), (0, .inr (.inr a0)), (1, .inl x1)]) i196_21 rfl ?_
  exact rn_sub [2, 1, 0] rfl (s_Mo_tells_22 hD FU a0 (w32 ((w32 (10 * v3)) + x1)) v20 w12 r h)
/-- HandHeirsModel.tells(I)I -/
def Mo_tells (a0 : Nat) (x1 : Int) (w : Wd) : Option (Int × Wd) := gd 12 w a0 (Mo_tells_0 a0 x1 w)
theorem S_Mo_tells {g : Gp} {l : Launch} (a0 : Nat) (x1 : Int) (w : Wd) (r : Int × Wd) (h : Mo_tells a0 x1 w = some r) : (wsh w a0).1 = 12 ∧ ∀ D, 1 ≤ D → Rn g l D 196 0 [(0, .inr (.inr a0)), (1, .inl x1)] [] w (some (.inl r.1)) r.2 := by
  obtain ⟨hg, h⟩ := gd_some h
  exact ⟨hg, fun D hD => rn_sub [0, 1] rfl (s_Mo_tells_0 hD a0 x1 w r h)⟩
def Mo_setsOf_0 (a0 : Nat) (x1 : Int) (x2 : Int) (x3 : Int) (x4 : Int) (x5 : Int) (x6 : Int) (w : Wd) : Option (Wd) :=
  (fgR w a0 12 46).bind fun v1 =>
  (wrI w v1 0 x1).bind fun w6 =>
  (fgR w6 a0 12 46).bind fun v8 =>
  (wrI w6 v8 1 x2).bind fun w13 =>
  (fgR w13 a0 12 46).bind fun v15 =>
  (fgR w13 a0 12 50).bind fun v20 =>
  (rdI w13 v20 42).bind fun v25 =>
  (wrI w13 v15 2 v25).bind fun w26 =>
  (fgR w26 a0 12 46).bind fun v28 =>
  (wrI w26 v28 3 x3).bind fun w33 =>
  (fgR w33 a0 12 46).bind fun v35 =>
  (wrI w33 v35 4 x4).bind fun w41 =>
  (fgR w41 a0 12 46).bind fun v43 =>
  (wrI w41 v43 5 x5).bind fun w49 =>
  (fgR w49 a0 12 46).bind fun v51 =>
  (wrI w49 v51 6 x6).bind fun w58 =>
  some w58
theorem s_Mo_setsOf_0 {g : Gp} {l : Launch} {D : Nat} (hD : 0 ≤ D) (a0 : Nat) (x1 : Int) (x2 : Int) (x3 : Int) (x4 : Int) (x5 : Int) (x6 : Int) (w : Wd) (r : Wd) (h : Mo_setsOf_0 a0 x1 x2 x3 x4 x5 x6 w = some r) : Rn g l D 197 0 [(0, .inr (.inr a0)), (1, .inl x1), (2, .inl x2), (3, .inl x3), (4, .inl x4), (5, .inl x5), (6, .inl x6)] [] w none r := by
  unfold Mo_setsOf_0 at h
  refine fr_aload_n i197_0 rfl ?_
  obtain ⟨v1, h1, h⟩ := Option.bind_eq_some_iff.mp h
  refine fr_gR (k := 46) i197_1 tf12_46 h1 ?_
  refine rn_iconst i197_4 ?_
  refine rn_iload_n i197_5 rfl ?_
  obtain ⟨w6, h6, h⟩ := Option.bind_eq_some_iff.mp h
  refine rn_iast i197_6 h6 ?_
  refine fr_aload_n i197_7 rfl ?_
  obtain ⟨v8, h8, h⟩ := Option.bind_eq_some_iff.mp h
  refine fr_gR (k := 46) i197_8 tf12_46 h8 ?_
  refine rn_iconst i197_11 ?_
  refine rn_iload_n i197_12 rfl ?_
  obtain ⟨w13, h13, h⟩ := Option.bind_eq_some_iff.mp h
  refine rn_iast i197_13 h13 ?_
  refine fr_aload_n i197_14 rfl ?_
  obtain ⟨v15, h15, h⟩ := Option.bind_eq_some_iff.mp h
  refine fr_gR (k := 46) i197_15 tf12_46 h15 ?_
  refine rn_iconst i197_18 ?_
  refine fr_aload_n i197_19 rfl ?_
  obtain ⟨v20, h20, h⟩ := Option.bind_eq_some_iff.mp h
  refine fr_gR (k := 50) i197_20 tf12_50 h20 ?_
  refine rn_bipush i197_23 ?_
  obtain ⟨v25, h25, h⟩ := Option.bind_eq_some_iff.mp h
  refine rn_iald i197_25 h25 ?_
  obtain ⟨w26, h26, h⟩ := Option.bind_eq_some_iff.mp h
  refine rn_iast i197_26 h26 ?_
  refine fr_aload_n i197_27 rfl ?_
  obtain ⟨v28, h28, h⟩ := Option.bind_eq_some_iff.mp h
  refine fr_gR (k := 46) i197_28 tf12_46 h28 ?_
  refine rn_iconst i197_31 ?_
  refine rn_iload_n i197_32 rfl ?_
  obtain ⟨w33, h33, h⟩ := Option.bind_eq_some_iff.mp h
  refine rn_iast i197_33 h33 ?_
  refine fr_aload_n i197_34 rfl ?_
  obtain ⟨v35, h35, h⟩ := Option.bind_eq_some_iff.mp h
  refine fr_gR (k := 46) i197_35 tf12_46 h35 ?_
  refine rn_iconst i197_38 ?_
  refine rn_iload i197_39 rfl ?_
  obtain ⟨w41, h41, h⟩ := Option.bind_eq_some_iff.mp h
  refine rn_iast i197_41 h41 ?_
  refine fr_aload_n i197_42 rfl ?_
  obtain ⟨v43, h43, h⟩ := Option.bind_eq_some_iff.mp h
  refine fr_gR (k := 46) i197_43 tf12_46 h43 ?_
  refine rn_iconst i197_46 ?_
  refine rn_iload i197_47 rfl ?_
  obtain ⟨w49, h49, h⟩ := Option.bind_eq_some_iff.mp h
  refine rn_iast i197_49 h49 ?_
  refine fr_aload_n i197_50 rfl ?_
  obtain ⟨v51, h51, h⟩ := Option.bind_eq_some_iff.mp h
  refine fr_gR (k := 46) i197_51 tf12_46 h51 ?_
  refine rn_bipush i197_54 ?_
  refine rn_iload i197_56 rfl ?_
  obtain ⟨w58, h58, h⟩ := Option.bind_eq_some_iff.mp h
  refine rn_iast i197_58 h58 ?_
  obtain rfl := Option.some.inj h
  exact rn_ret i197_59 mr197
/-- HandHeirsModel.setsOf(IIIIII)V -/
def Mo_setsOf (a0 : Nat) (x1 : Int) (x2 : Int) (x3 : Int) (x4 : Int) (x5 : Int) (x6 : Int) (w : Wd) : Option (Wd) := gd 12 w a0 (Mo_setsOf_0 a0 x1 x2 x3 x4 x5 x6 w)
theorem S_Mo_setsOf {g : Gp} {l : Launch} (a0 : Nat) (x1 : Int) (x2 : Int) (x3 : Int) (x4 : Int) (x5 : Int) (x6 : Int) (w : Wd) (r : Wd) (h : Mo_setsOf a0 x1 x2 x3 x4 x5 x6 w = some r) : (wsh w a0).1 = 12 ∧ ∀ D, 0 ≤ D → Rn g l D 197 0 [(0, .inr (.inr a0)), (1, .inl x1), (2, .inl x2), (3, .inl x3), (4, .inl x4), (5, .inl x5), (6, .inl x6)] [] w none r := by
  obtain ⟨hg, h⟩ := gd_some h
  exact ⟨hg, fun D hD => rn_sub [0, 1, 2, 3, 4, 5, 6] rfl (s_Mo_setsOf_0 hD a0 x1 x2 x3 x4 x5 x6 w r h)⟩
