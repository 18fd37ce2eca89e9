theorem i163_0 : ins 163 0 = some (.aload_n 0, 1, 0, 0) := by decide +kernel
theorem i163_1 : ins 163 1 = some (.aload_n 0, 2, 0, 0) := by decide +kernel
theorem i163_2 : ins 163 2 = some (.getfield 161, 5, 12, 2) := by decide +kernel
theorem i163_5 : ins 163 5 = some (.putfield 167, 8, 12, 4) := by decide +kernel
theorem i163_8 : ins 163 8 = some (.iconst (0), 9, 0, 0) := by decide +kernel
theorem i163_9 : ins 163 9 = some (.istore_n 1, 10, 0, 0) := by decide +kernel
theorem i163_10 : ins 163 10 = some (.iload_n 1, 11, 0, 0) := by decide +kernel
theorem i163_11 : ins 163 11 = some (.aload_n 0, 12, 0, 0) := by decide +kernel
theorem i163_12 : ins 163 12 = some (.getfield 167, 15, 12, 4) := by decide +kernel
theorem i163_15 : ins 163 15 = some (.if_icmp .ge (21), 18, 36, 0) := by decide +kernel
theorem i163_18 : ins 163 18 = some (.aload_n 0, 19, 0, 0) := by decide +kernel
theorem i163_19 : ins 163 19 = some (.getfield 17, 22, 12, 3) := by decide +kernel
theorem i163_22 : ins 163 22 = some (.iload_n 1, 23, 0, 0) := by decide +kernel
theorem i163_23 : ins 163 23 = some (.aload_n 0, 24, 0, 0) := by decide +kernel
theorem i163_24 : ins 163 24 = some (.getfield 13, 27, 12, 1) := by decide +kernel
theorem i163_27 : ins 163 27 = some (.iload_n 1, 28, 0, 0) := by decide +kernel
theorem i163_28 : ins 163 28 = some (.baload, 29, 0, 0) := by decide +kernel
theorem i163_29 : ins 163 29 = some (.bastore, 30, 0, 0) := by decide +kernel
theorem i163_30 : ins 163 30 = some (.iinc 1 (1), 33, 0, 1) := by decide +kernel
theorem i163_33 : ins 163 33 = some (.goto (-23), 36, 10, 0) := by decide +kernel
theorem i163_36 : ins 163 36 = some (.aload_n 0, 37, 0, 0) := by decide +kernel
theorem i163_37 : ins 163 37 = some (.iconst (0), 38, 0, 0) := by decide +kernel
theorem i163_38 : ins 163 38 = some (.putfield 161, 41, 12, 2) := by decide +kernel
theorem i163_41 : ins 163 41 = some (.aload_n 0, 42, 0, 0) := by decide +kernel
theorem i163_42 : ins 163 42 = some (.invokevirtual 222, 45, 155, 0) := by decide +kernel
theorem i163_45 : ins 163 45 = some (.aload_n 0, 46, 0, 0) := by decide +kernel
theorem i163_46 : ins 163 46 = some (.iconst (0), 47, 0, 0) := by decide +kernel
theorem i163_47 : ins 163 47 = some (.putfield 201, 50, 12, 11) := by decide +kernel
theorem i163_50 : ins 163 50 = some (.aload_n 0, 51, 0, 0) := by decide +kernel
theorem i163_51 : ins 163 51 = some (.iconst (0), 52, 0, 0) := by decide +kernel
theorem i163_52 : ins 163 52 = some (.putfield 225, 55, 12, 12) := by decide +kernel
theorem i163_55 : ins 163 55 = some (.aload_n 0, 56, 0, 0) := by decide +kernel
theorem i163_56 : ins 163 56 = some (.iconst (0), 57, 0, 0) := by decide +kernel
theorem i163_57 : ins 163 57 = some (.putfield 198, 60, 12, 13) := by decide +kernel
theorem i163_60 : ins 163 60 = some (.aload_n 0, 61, 0, 0) := by decide +kernel
theorem i163_61 : ins 163 61 = some (.iconst (0), 62, 0, 0) := by decide +kernel
theorem i163_62 : ins 163 62 = some (.putfield 207, 65, 12, 15) := by decide +kernel
theorem i163_65 : ins 163 65 = some (.aload_n 0, 66, 0, 0) := by decide +kernel
theorem i163_66 : ins 163 66 = some (.iconst (1), 67, 0, 1) := by decide +kernel
theorem i163_67 : ins 163 67 = some (.aload_n 0, 68, 0, 0) := by decide +kernel
theorem i163_68 : ins 163 68 = some (.getfield 228, 71, 12, 18) := by decide +kernel
theorem i163_71 : ins 163 71 = some (.isub, 72, 0, 0) := by decide +kernel
theorem i163_72 : ins 163 72 = some (.putfield 231, 75, 12, 19) := by decide +kernel
theorem i163_75 : ins 163 75 = some (.aload_n 0, 76, 0, 0) := by decide +kernel
theorem i163_76 : ins 163 76 = some (.iconst (0), 77, 0, 0) := by decide +kernel
theorem i163_77 : ins 163 77 = some (.putfield 234, 80, 12, 20) := by decide +kernel
theorem i163_80 : ins 163 80 = some (.aload_n 0, 81, 0, 0) := by decide +kernel
theorem i163_81 : ins 163 81 = some (.aload_n 0, 82, 0, 0) := by decide +kernel
theorem i163_82 : ins 163 82 = some (.getfield 231, 85, 12, 19) := by decide +kernel
theorem i163_85 : ins 163 85 = some (.invokevirtual 150, 88, 162, 0) := by decide +kernel
theorem i163_88 : ins 163 88 = some (.aload_n 0, 89, 0, 0) := by decide +kernel
theorem i163_89 : ins 163 89 = some (.sipush (130), 92, 0, 130) := by decide +kernel
theorem i163_92 : ins 163 92 = some (.aload_n 0, 93, 0, 0) := by decide +kernel
theorem i163_93 : ins 163 93 = some (.getfield 231, 96, 12, 19) := by decide +kernel
theorem i163_96 : ins 163 96 = some (.imul, 97, 0, 0) := by decide +kernel
theorem i163_97 : ins 163 97 = some (.putfield 237, 100, 12, 35) := by decide +kernel
theorem i163_100 : ins 163 100 = some (.aload_n 0, 101, 0, 0) := by decide +kernel
theorem i163_101 : ins 163 101 = some (.sipush (420), 104, 0, 420) := by decide +kernel
theorem i163_104 : ins 163 104 = some (.aload_n 0, 105, 0, 0) := by decide +kernel
theorem i163_105 : ins 163 105 = some (.getfield 231, 108, 12, 19) := by decide +kernel
theorem i163_108 : ins 163 108 = some (.imul, 109, 0, 0) := by decide +kernel
theorem i163_109 : ins 163 109 = some (.putfield 240, 112, 12, 41) := by decide +kernel
theorem i163_112 : ins 163 112 = some (.aload_n 0, 113, 0, 0) := by decide +kernel
theorem i163_113 : ins 163 113 = some (.getfield 198, 116, 12, 13) := by decide +kernel
theorem i163_116 : ins 163 116 = some (.ifCond .ne (18), 119, 134, 0) := by decide +kernel
theorem i163_119 : ins 163 119 = some (.aload_n 0, 120, 0, 0) := by decide +kernel
theorem i163_120 : ins 163 120 = some (.iconst (0), 121, 0, 0) := by decide +kernel
theorem i163_121 : ins 163 121 = some (.invokevirtual 216, 124, 157, 0) := by decide +kernel
theorem i163_124 : ins 163 124 = some (.ifCond .ne (10), 127, 134, 0) := by decide +kernel
theorem i163_127 : ins 163 127 = some (.aload_n 0, 128, 0, 0) := by decide +kernel
theorem i163_128 : ins 163 128 = some (.invokevirtual 243, 131, 166, 0) := by decide +kernel
theorem i163_131 : ins 163 131 = some (.goto (-19), 134, 112, 0) := by decide +kernel
theorem i163_134 : ins 163 134 = some (.aload_n 0, 135, 0, 0) := by decide +kernel
theorem i163_135 : ins 163 135 = some (.aload_n 0, 136, 0, 0) := by decide +kernel
theorem i163_136 : ins 163 136 = some (.getfield 198, 139, 12, 13) := by decide +kernel
theorem i163_139 : ins 163 139 = some (.ifCond .le (10), 142, 149, 0) := by decide +kernel
theorem i163_142 : ins 163 142 = some (.aload_n 0, 143, 0, 0) := by decide +kernel
theorem i163_143 : ins 163 143 = some (.getfield 204, 146, 12, 14) := by decide +kernel
theorem i163_146 : ins 163 146 = some (.goto (18), 149, 164, 0) := by decide +kernel
theorem i163_149 : ins 163 149 = some (.aload_n 0, 150, 0, 0) := by decide +kernel
theorem i163_150 : ins 163 150 = some (.getfield 207, 153, 12, 15) := by decide +kernel
theorem i163_153 : ins 163 153 = some (.ifCond .le (10), 156, 163, 0) := by decide +kernel
theorem i163_156 : ins 163 156 = some (.aload_n 0, 157, 0, 0) := by decide +kernel
theorem i163_157 : ins 163 157 = some (.getfield 210, 160, 12, 16) := by decide +kernel
theorem i163_160 : ins 163 160 = some (.goto (4), 163, 164, 0) := by decide +kernel
theorem i163_163 : ins 163 163 = some (.iconst (-1), 164, 0, -1) := by decide +kernel
theorem i163_164 : ins 163 164 = some (.putfield 37, 167, 12, 17) := by decide +kernel
theorem i163_167 : ins 163 167 = some (.aload_n 0, 168, 0, 0) := by decide +kernel
theorem i163_168 : ins 163 168 = some (.getfield 198, 171, 12, 13) := by decide +kernel
theorem i163_171 : ins 163 171 = some (.ifCond .le (8), 174, 179, 0) := by decide +kernel
theorem i163_174 : ins 163 174 = some (.aload_n 0, 175, 0, 0) := by decide +kernel
theorem i163_175 : ins 163 175 = some (.getfield 198, 178, 12, 13) := by decide +kernel
theorem i163_178 : ins 163 178 = some (.ireturn, 179, 0, 0) := by decide +kernel
theorem i163_179 : ins 163 179 = some (.aload_n 0, 180, 0, 0) := by decide +kernel
theorem i163_180 : ins 163 180 = some (.getfield 207, 183, 12, 15) := by decide +kernel
theorem i163_183 : ins 163 183 = some (.ifCond .le (8), 186, 191, 0) := by decide +kernel
theorem i163_186 : ins 163 186 = some (.aload_n 0, 187, 0, 0) := by decide +kernel
theorem i163_187 : ins 163 187 = some (.getfield 207, 190, 12, 15) := by decide +kernel
theorem i163_190 : ins 163 190 = some (.ireturn, 191, 0, 0) := by decide +kernel
theorem i163_191 : ins 163 191 = some (.aload_n 0, 192, 0, 0) := by decide +kernel
theorem i163_192 : ins 163 192 = some (.aload_n 0, 193, 0, 0) := by decide +kernel
theorem i163_193 : ins 163 193 = some (.getfield 231, 196, 12, 19) := by decide +kernel
theorem i163_196 : ins 163 196 = some (.putfield 228, 199, 12, 18) := by decide +kernel
theorem i163_199 : ins 163 199 = some (.aload_n 0, 200, 0, 0) := by decide +kernel
theorem i163_200 : ins 163 200 = some (.invokevirtual 158, 203, 185, 0) := by decide +kernel
theorem i163_203 : ins 163 203 = some (.aload_n 0, 204, 0, 0) := by decide +kernel
theorem i163_204 : ins 163 204 = some (.iconst (0), 205, 0, 0) := by decide +kernel
theorem i163_205 : ins 163 205 = some (.putfield 246, 208, 12, 58) := by decide +kernel
theorem i163_208 : ins 163 208 = some (.aload_n 0, 209, 0, 0) := by decide +kernel
theorem i163_209 : ins 163 209 = some (.iconst (0), 210, 0, 0) := by decide +kernel
theorem i163_210 : ins 163 210 = some (.putfield 249, 213, 12, 63) := by decide +kernel
theorem i163_213 : ins 163 213 = some (.iconst (0), 214, 0, 0) := by decide +kernel
theorem i163_214 : ins 163 214 = some (.istore_n 1, 215, 0, 0) := by decide +kernel
theorem i163_215 : ins 163 215 = some (.iload_n 1, 216, 0, 0) := by decide +kernel
theorem i163_216 : ins 163 216 = some (.iconst (3), 217, 0, 3) := by decide +kernel
theorem i163_217 : ins 163 217 = some (.if_icmp .ge (16), 220, 233, 0) := by decide +kernel
theorem i163_220 : ins 163 220 = some (.aload_n 0, 221, 0, 0) := by decide +kernel
theorem i163_221 : ins 163 221 = some (.getfield 144, 224, 12, 66) := by decide +kernel
theorem i163_224 : ins 163 224 = some (.iload_n 1, 225, 0, 0) := by decide +kernel
theorem i163_225 : ins 163 225 = some (.iconst (0), 226, 0, 0) := by decide +kernel
theorem i163_226 : ins 163 226 = some (.bastore, 227, 0, 0) := by decide +kernel
theorem i163_227 : ins 163 227 = some (.iinc 1 (1), 230, 0, 1) := by decide +kernel
theorem i163_230 : ins 163 230 = some (.goto (-15), 233, 215, 0) := by decide +kernel
theorem i163_233 : ins 163 233 = some (.iconst (0), 234, 0, 0) := by decide +kernel
theorem i163_234 : ins 163 234 = some (.ireturn, 235, 0, 0) := by decide +kernel
theorem i164_0 : ins 164 0 = some (.aload_n 0, 1, 0, 0) := by decide +kernel
theorem i164_1 : ins 164 1 = some (.getfield 37, 4, 12, 17) := by decide +kernel
theorem i164_4 : ins 164 4 = some (.ireturn, 5, 0, 0) := by decide +kernel
theorem i166_0 : ins 166 0 = some (.aload_n 0, 1, 0, 0) := by decide +kernel
theorem i166_1 : ins 166 1 = some (.getfield 20, 4, 12, 5) := by decide +kernel
theorem i166_4 : ins 166 4 = some (.aload_n 0, 5, 0, 0) := by decide +kernel
theorem i166_5 : ins 166 5 = some (.getfield 201, 8, 12, 11) := by decide +kernel
theorem i166_8 : ins 166 8 = some (.iaload, 9, 0, 0) := by decide +kernel
theorem i166_9 : ins 166 9 = some (.tableswitch (259) (20) (27) #[47, 76, 105, 133, 160, 173, 201, 230], 56, 0, 0) := by decide +kernel
theorem i166_56 : ins 166 56 = some (.aload_n 0, 57, 0, 0) := by decide +kernel
theorem i166_57 : ins 166 57 = some (.aload_n 0, 58, 0, 0) := by decide +kernel
theorem i166_58 : ins 166 58 = some (.getfield 46, 61, 12, 23) := by decide +kernel
theorem i166_61 : ins 166 61 = some (.aload_n 0, 62, 0, 0) := by decide +kernel
theorem i166_62 : ins 166 62 = some (.getfield 231, 65, 12, 19) := by decide +kernel
theorem i166_65 : ins 166 65 = some (.iaload, 66, 0, 0) := by decide +kernel
theorem i166_66 : ins 166 66 = some (.bipush (6), 68, 0, 6) := by decide +kernel
theorem i166_68 : ins 166 68 = some (.invokevirtual 252, 71, 165, 0) := by decide +kernel
theorem i166_71 : ins 166 71 = some (.aload_n 0, 72, 0, 0) := by decide +kernel
theorem i166_72 : ins 166 72 = some (.getfield 198, 75, 12, 13) := by decide +kernel
theorem i166_75 : ins 166 75 = some (.ifCond .ne (198), 78, 273, 0) := by decide +kernel
theorem i166_78 : ins 166 78 = some (.aload_n 0, 79, 0, 0) := by decide +kernel
theorem i166_79 : ins 166 79 = some (.invokevirtual 256, 82, 171, 0) := by decide +kernel
theorem i166_82 : ins 166 82 = some (.goto (191), 85, 273, 0) := by decide +kernel
theorem i166_85 : ins 166 85 = some (.aload_n 0, 86, 0, 0) := by decide +kernel
theorem i166_86 : ins 166 86 = some (.aload_n 0, 87, 0, 0) := by decide +kernel
theorem i166_87 : ins 166 87 = some (.getfield 52, 90, 12, 25) := by decide +kernel
theorem i166_90 : ins 166 90 = some (.aload_n 0, 91, 0, 0) := by decide +kernel
theorem i166_91 : ins 166 91 = some (.getfield 231, 94, 12, 19) := by decide +kernel
theorem i166_94 : ins 166 94 = some (.iaload, 95, 0, 0) := by decide +kernel
theorem i166_95 : ins 166 95 = some (.bipush (6), 97, 0, 6) := by decide +kernel
theorem i166_97 : ins 166 97 = some (.invokevirtual 252, 100, 165, 0) := by decide +kernel
theorem i166_100 : ins 166 100 = some (.aload_n 0, 101, 0, 0) := by decide +kernel
theorem i166_101 : ins 166 101 = some (.getfield 198, 104, 12, 13) := by decide +kernel
theorem i166_104 : ins 166 104 = some (.ifCond .ne (169), 107, 273, 0) := by decide +kernel
theorem i166_107 : ins 166 107 = some (.aload_n 0, 108, 0, 0) := by decide +kernel
theorem i166_108 : ins 166 108 = some (.invokevirtual 259, 111, 172, 0) := by decide +kernel
theorem i166_111 : ins 166 111 = some (.goto (162), 114, 273, 0) := by decide +kernel
theorem i166_114 : ins 166 114 = some (.aload_n 0, 115, 0, 0) := by decide +kernel
theorem i166_115 : ins 166 115 = some (.aload_n 0, 116, 0, 0) := by decide +kernel
theorem i166_116 : ins 166 116 = some (.getfield 64, 119, 12, 29) := by decide +kernel
theorem i166_119 : ins 166 119 = some (.aload_n 0, 120, 0, 0) := by decide +kernel
theorem i166_120 : ins 166 120 = some (.getfield 231, 123, 12, 19) := by decide +kernel
theorem i166_123 : ins 166 123 = some (.iaload, 124, 0, 0) := by decide +kernel
theorem i166_124 : ins 166 124 = some (.iconst (3), 125, 0, 3) := by decide +kernel
theorem i166_125 : ins 166 125 = some (.invokevirtual 252, 128, 165, 0) := by decide +kernel
theorem i166_128 : ins 166 128 = some (.aload_n 0, 129, 0, 0) := by decide +kernel
theorem i166_129 : ins 166 129 = some (.getfield 198, 132, 12, 13) := by decide +kernel
theorem i166_132 : ins 166 132 = some (.ifCond .ne (141), 135, 273, 0) := by decide +kernel
theorem i166_135 : ins 166 135 = some (.aload_n 0, 136, 0, 0) := by decide +kernel
theorem i166_136 : ins 166 136 = some (.invokevirtual 262, 139, 173, 0) := by decide +kernel
theorem i166_139 : ins 166 139 = some (.goto (134), 142, 273, 0) := by decide +kernel
theorem i166_142 : ins 166 142 = some (.aload_n 0, 143, 0, 0) := by decide +kernel
theorem i166_143 : ins 166 143 = some (.invokevirtual 219, 146, 160, 0) := by decide +kernel
theorem i166_146 : ins 166 146 = some (.aload_n 0, 147, 0, 0) := by decide +kernel
theorem i166_147 : ins 166 147 = some (.invokevirtual 265, 150, 169, 0) := by decide +kernel
theorem i166_150 : ins 166 150 = some (.istore_n 1, 151, 0, 0) := by decide +kernel
theorem i166_151 : ins 166 151 = some (.aload_n 0, 152, 0, 0) := by decide +kernel
theorem i166_152 : ins 166 152 = some (.iload_n 1, 153, 0, 0) := by decide +kernel
theorem i166_153 : ins 166 153 = some (.ifCond .ge (7), 156, 160, 0) := by decide +kernel
theorem i166_156 : ins 166 156 = some (.iconst (-1), 157, 0, -1) := by decide +kernel
theorem i166_157 : ins 166 157 = some (.goto (6), 160, 163, 0) := by decide +kernel
theorem i166_160 : ins 166 160 = some (.iconst (3), 161, 0, 3) := by decide +kernel
theorem i166_161 : ins 166 161 = some (.iload_n 1, 162, 0, 0) := by decide +kernel
theorem i166_162 : ins 166 162 = some (.iadd, 163, 0, 0) := by decide +kernel
theorem i166_163 : ins 166 163 = some (.invokevirtual 269, 166, 174, 0) := by decide +kernel
theorem i166_166 : ins 166 166 = some (.goto (107), 169, 273, 0) := by decide +kernel
theorem i166_169 : ins 166 169 = some (.aload_n 0, 170, 0, 0) := by decide +kernel
theorem i166_170 : ins 166 170 = some (.invokevirtual 219, 173, 160, 0) := by decide +kernel
theorem i166_173 : ins 166 173 = some (.aload_n 0, 174, 0, 0) := by decide +kernel
theorem i166_174 : ins 166 174 = some (.bipush (9), 176, 0, 9) := by decide +kernel
theorem i166_176 : ins 166 176 = some (.invokevirtual 269, 179, 174, 0) := by decide +kernel
theorem i166_179 : ins 166 179 = some (.goto (94), 182, 273, 0) := by decide +kernel
theorem i166_182 : ins 166 182 = some (.aload_n 0, 183, 0, 0) := by decide +kernel
theorem i166_183 : ins 166 183 = some (.invokevirtual 219, 186, 160, 0) := by decide +kernel
theorem i166_186 : ins 166 186 = some (.aload_n 0, 187, 0, 0) := by decide +kernel
theorem i166_187 : ins 166 187 = some (.getfield 67, 190, 12, 30) := by decide +kernel
theorem i166_190 : ins 166 190 = some (.aload_n 0, 191, 0, 0) := by decide +kernel
theorem i166_191 : ins 166 191 = some (.getfield 231, 194, 12, 19) := by decide +kernel
theorem i166_194 : ins 166 194 = some (.aload_n 0, 195, 0, 0) := by decide +kernel
theorem i166_195 : ins 166 195 = some (.iconst (0), 196, 0, 0) := by decide +kernel
theorem i166_196 : ins 166 196 = some (.bipush (9), 198, 0, 9) := by decide +kernel
theorem i166_198 : ins 166 198 = some (.invokevirtual 272, 201, 170, 0) := by decide +kernel
theorem i166_201 : ins 166 201 = some (.iastore, 202, 0, 0) := by decide +kernel
theorem i166_202 : ins 166 202 = some (.aload_n 0, 203, 0, 0) := by decide +kernel
theorem i166_203 : ins 166 203 = some (.iconst (4), 204, 0, 4) := by decide +kernel
theorem i166_204 : ins 166 204 = some (.invokevirtual 276, 207, 161, 0) := by decide +kernel
theorem i166_207 : ins 166 207 = some (.goto (66), 210, 273, 0) := by decide +kernel
theorem i166_210 : ins 166 210 = some (.aload_n 0, 211, 0, 0) := by decide +kernel
theorem i166_211 : ins 166 211 = some (.invokevirtual 219, 214, 160, 0) := by decide +kernel
theorem i166_214 : ins 166 214 = some (.aload_n 0, 215, 0, 0) := by decide +kernel
theorem i166_215 : ins 166 215 = some (.getfield 70, 218, 12, 31) := by decide +kernel
theorem i166_218 : ins 166 218 = some (.aload_n 0, 219, 0, 0) := by decide +kernel
theorem i166_219 : ins 166 219 = some (.getfield 231, 222, 12, 19) := by decide +kernel
theorem i166_222 : ins 166 222 = some (.aload_n 0, 223, 0, 0) := by decide +kernel
theorem i166_223 : ins 166 223 = some (.iconst (0), 224, 0, 0) := by decide +kernel
theorem i166_224 : ins 166 224 = some (.sipush (9999), 227, 0, 9999) := by decide +kernel
theorem i166_227 : ins 166 227 = some (.invokevirtual 272, 230, 170, 0) := by decide +kernel
theorem i166_230 : ins 166 230 = some (.iastore, 231, 0, 0) := by decide +kernel
theorem i166_231 : ins 166 231 = some (.aload_n 0, 232, 0, 0) := by decide +kernel
theorem i166_232 : ins 166 232 = some (.iconst (4), 233, 0, 4) := by decide +kernel
theorem i166_233 : ins 166 233 = some (.invokevirtual 276, 236, 161, 0) := by decide +kernel
theorem i166_236 : ins 166 236 = some (.goto (37), 239, 273, 0) := by decide +kernel
theorem i166_239 : ins 166 239 = some (.aload_n 0, 240, 0, 0) := by decide +kernel
theorem i166_240 : ins 166 240 = some (.invokevirtual 219, 243, 160, 0) := by decide +kernel
theorem i166_243 : ins 166 243 = some (.aload_n 0, 244, 0, 0) := by decide +kernel
theorem i166_244 : ins 166 244 = some (.getfield 73, 247, 12, 32) := by decide +kernel
theorem i166_247 : ins 166 247 = some (.aload_n 0, 248, 0, 0) := by decide +kernel
theorem i166_248 : ins 166 248 = some (.getfield 231, 251, 12, 19) := by decide +kernel
theorem i166_251 : ins 166 251 = some (.aload_n 0, 252, 0, 0) := by decide +kernel
theorem i166_252 : ins 166 252 = some (.iconst (0), 253, 0, 0) := by decide +kernel
theorem i166_253 : ins 166 253 = some (.sipush (9999), 256, 0, 9999) := by decide +kernel
theorem i166_256 : ins 166 256 = some (.invokevirtual 272, 259, 170, 0) := by decide +kernel
theorem i166_259 : ins 166 259 = some (.iastore, 260, 0, 0) := by decide +kernel
theorem i166_260 : ins 166 260 = some (.aload_n 0, 261, 0, 0) := by decide +kernel
theorem i166_261 : ins 166 261 = some (.iconst (4), 262, 0, 4) := by decide +kernel
theorem i166_262 : ins 166 262 = some (.invokevirtual 276, 265, 161, 0) := by decide +kernel
theorem i166_265 : ins 166 265 = some (.goto (8), 268, 273, 0) := by decide +kernel
theorem i166_268 : ins 166 268 = some (.aload_n 0, 269, 0, 0) := by decide +kernel
theorem i166_269 : ins 166 269 = some (.iconst (1), 270, 0, 1) := by decide +kernel
theorem i166_270 : ins 166 270 = some (.invokevirtual 213, 273, 158, 0) := by decide +kernel
theorem i166_273 : ins 166 273 = some (.return_, 274, 0, 0) := by decide +kernel
theorem i167_0 : ins 167 0 = some (.aload_n 0, 1, 0, 0) := by decide +kernel
theorem i167_1 : ins 167 1 = some (.getfield 201, 4, 12, 11) := by decide +kernel
theorem i167_4 : ins 167 4 = some (.istore_n 1, 5, 0, 0) := by decide +kernel
theorem i167_5 : ins 167 5 = some (.aload_n 0, 6, 0, 0) := by decide +kernel
theorem i167_6 : ins 167 6 = some (.iconst (1), 7, 0, 1) := by decide +kernel
theorem i167_7 : ins 167 7 = some (.invokevirtual 276, 10, 161, 0) := by decide +kernel
theorem i167_10 : ins 167 10 = some (.iconst (0), 11, 0, 0) := by decide +kernel
theorem i167_11 : ins 167 11 = some (.istore_n 2, 12, 0, 0) := by decide +kernel
theorem i167_12 : ins 167 12 = some (.iload_n 2, 13, 0, 0) := by decide +kernel
theorem i167_13 : ins 167 13 = some (.aload_n 0, 14, 0, 0) := by decide +kernel
theorem i167_14 : ins 167 14 = some (.getfield 234, 17, 12, 20) := by decide +kernel
theorem i167_17 : ins 167 17 = some (.if_icmp .ge (38), 20, 55, 0) := by decide +kernel
theorem i167_20 : ins 167 20 = some (.aload_n 0, 21, 0, 0) := by decide +kernel
theorem i167_21 : ins 167 21 = some (.getfield 198, 24, 12, 13) := by decide +kernel
theorem i167_24 : ins 167 24 = some (.ifCond .ne (31), 27, 55, 0) := by decide +kernel
theorem i167_27 : ins 167 27 = some (.aload_n 0, 28, 0, 0) := by decide +kernel
theorem i167_28 : ins 167 28 = some (.getfield 40, 31, 12, 21) := by decide +kernel
theorem i167_31 : ins 167 31 = some (.iload_n 2, 32, 0, 0) := by decide +kernel
theorem i167_32 : ins 167 32 = some (.laload, 33, 0, 0) := by decide +kernel
theorem i167_33 : ins 167 33 = some (.aload_n 0, 34, 0, 0) := by decide +kernel
theorem i167_34 : ins 167 34 = some (.getfield 30, 37, 12, 8) := by decide +kernel
theorem i167_37 : ins 167 37 = some (.iload_n 1, 38, 0, 0) := by decide +kernel
theorem i167_38 : ins 167 38 = some (.laload, 39, 0, 0) := by decide +kernel
theorem i167_39 : ins 167 39 = some (.lcmp, 40, 0, 0) := by decide +kernel
theorem i167_40 : ins 167 40 = some (.ifCond .ne (9), 43, 49, 0) := by decide +kernel
theorem i167_43 : ins 167 43 = some (.aload_n 0, 44, 0, 0) := by decide +kernel
theorem i167_44 : ins 167 44 = some (.iconst (3), 45, 0, 3) := by decide +kernel
theorem i167_45 : ins 167 45 = some (.iload_n 1, 46, 0, 0) := by decide +kernel
theorem i167_46 : ins 167 46 = some (.invokevirtual 279, 49, 159, 0) := by decide +kernel
theorem i167_49 : ins 167 49 = some (.iinc 2 (1), 52, 0, 1) := by decide +kernel
theorem i167_52 : ins 167 52 = some (.goto (-40), 55, 12, 0) := by decide +kernel
theorem i167_55 : ins 167 55 = some (.iload_n 1, 56, 0, 0) := by decide +kernel
theorem i167_56 : ins 167 56 = some (.ireturn, 57, 0, 0) := by decide +kernel
theorem i168_0 : ins 168 0 = some (.aload_n 0, 1, 0, 0) := by decide +kernel
theorem i168_1 : ins 168 1 = some (.getfield 40, 4, 12, 21) := by decide +kernel
theorem i168_4 : ins 168 4 = some (.aload_n 0, 5, 0, 0) := by decide +kernel
theorem i168_5 : ins 168 5 = some (.getfield 234, 8, 12, 20) := by decide +kernel
theorem i168_8 : ins 168 8 = some (.aload_n 0, 9, 0, 0) := by decide +kernel
theorem i168_9 : ins 168 9 = some (.getfield 30, 12, 12, 8) := by decide +kernel
theorem i168_12 : ins 168 12 = some (.iload_n 1, 13, 0, 0) := by decide +kernel
theorem i168_13 : ins 168 13 = some (.laload, 14, 0, 0) := by decide +kernel
theorem i168_14 : ins 168 14 = some (.lastore, 15, 0, 0) := by decide +kernel
theorem i168_15 : ins 168 15 = some (.aload_n 0, 16, 0, 0) := by decide +kernel
theorem i168_16 : ins 168 16 = some (.getfield 43, 19, 12, 22) := by decide +kernel
theorem i168_19 : ins 168 19 = some (.aload_n 0, 20, 0, 0) := by decide +kernel
theorem i168_20 : ins 168 20 = some (.getfield 234, 23, 12, 20) := by decide +kernel
theorem i168_23 : ins 168 23 = some (.iload_n 2, 24, 0, 0) := by decide +kernel
theorem i168_24 : ins 168 24 = some (.iastore, 25, 0, 0) := by decide +kernel
theorem i168_25 : ins 168 25 = some (.aload_n 0, 26, 0, 0) := by decide +kernel
theorem i168_26 : ins 168 26 = some (.dup, 27, 0, 0) := by decide +kernel
theorem i168_27 : ins 168 27 = some (.getfield 234, 30, 12, 20) := by decide +kernel
theorem i168_30 : ins 168 30 = some (.iconst (1), 31, 0, 1) := by decide +kernel
theorem i168_31 : ins 168 31 = some (.iadd, 32, 0, 0) := by decide +kernel
theorem i168_32 : ins 168 32 = some (.putfield 234, 35, 12, 20) := by decide +kernel
theorem i168_35 : ins 168 35 = some (.return_, 36, 0, 0) := by decide +kernel
theorem i170_0 : ins 170 0 = some (.aload_n 0, 1, 0, 0) := by decide +kernel
theorem i170_1 : ins 170 1 = some (.getfield 198, 4, 12, 13) := by decide +kernel
theorem i170_4 : ins 170 4 = some (.ifCond .gt (11), 7, 15, 0) := by decide +kernel
theorem i170_7 : ins 170 7 = some (.aload_n 0, 8, 0, 0) := by decide +kernel
theorem i170_8 : ins 170 8 = some (.iconst (2), 9, 0, 2) := by decide +kernel
theorem i170_9 : ins 170 9 = some (.invokevirtual 216, 12, 157, 0) := by decide +kernel
theorem i170_12 : ins 170 12 = some (.ifCond .ne (10), 15, 22, 0) := by decide +kernel
theorem i170_15 : ins 170 15 = some (.aload_n 0, 16, 0, 0) := by decide +kernel
theorem i170_16 : ins 170 16 = some (.iconst (1), 17, 0, 1) := by decide +kernel
theorem i170_17 : ins 170 17 = some (.invokevirtual 213, 20, 158, 0) := by decide +kernel
theorem i170_20 : ins 170 20 = some (.iload_n 1, 21, 0, 0) := by decide +kernel
theorem i170_21 : ins 170 21 = some (.ireturn, 22, 0, 0) := by decide +kernel
theorem i170_22 : ins 170 22 = some (.aload_n 0, 23, 0, 0) := by decide +kernel
theorem i170_23 : ins 170 23 = some (.getfield 27, 26, 12, 7) := by decide +kernel
theorem i170_26 : ins 170 26 = some (.aload_n 0, 27, 0, 0) := by decide +kernel
theorem i170_27 : ins 170 27 = some (.getfield 201, 30, 12, 11) := by decide +kernel
theorem i170_30 : ins 170 30 = some (.iaload, 31, 0, 0) := by decide +kernel
theorem i170_31 : ins 170 31 = some (.istore_n 3, 32, 0, 0) := by decide +kernel
theorem i170_32 : ins 170 32 = some (.iload_n 3, 33, 0, 0) := by decide +kernel
theorem i170_33 : ins 170 33 = some (.iload_n 1, 34, 0, 0) := by decide +kernel
theorem i170_34 : ins 170 34 = some (.if_icmp .lt (8), 37, 42, 0) := by decide +kernel
theorem i170_37 : ins 170 37 = some (.iload_n 3, 38, 0, 0) := by decide +kernel
theorem i170_38 : ins 170 38 = some (.iload_n 2, 39, 0, 0) := by decide +kernel
theorem i170_39 : ins 170 39 = some (.if_icmp .le (12), 42, 51, 0) := by decide +kernel
theorem i170_42 : ins 170 42 = some (.aload_n 0, 43, 0, 0) := by decide +kernel
theorem i170_43 : ins 170 43 = some (.iconst (5), 44, 0, 5) := by decide +kernel
theorem i170_44 : ins 170 44 = some (.aload_n 0, 45, 0, 0) := by decide +kernel
theorem i170_45 : ins 170 45 = some (.getfield 201, 48, 12, 11) := by decide +kernel
theorem i170_48 : ins 170 48 = some (.invokevirtual 279, 51, 159, 0) := by decide +kernel
theorem i170_51 : ins 170 51 = some (.aload_n 0, 52, 0, 0) := by decide +kernel
theorem i170_52 : ins 170 52 = some (.invokevirtual 219, 55, 160, 0) := by decide +kernel
theorem i170_55 : ins 170 55 = some (.iload_n 3, 56, 0, 0) := by decide +kernel
theorem i170_56 : ins 170 56 = some (.ireturn, 57, 0, 0) := by decide +kernel
theorem i171_0 : ins 171 0 = some (.aload_n 0, 1, 0, 0) := by decide +kernel
theorem i171_1 : ins 171 1 = some (.invokevirtual 282, 4, 167, 0) := by decide +kernel
theorem i171_4 : ins 171 4 = some (.istore_n 1, 5, 0, 0) := by decide +kernel
theorem i171_5 : ins 171 5 = some (.aload_n 0, 6, 0, 0) := by decide +kernel
theorem i171_6 : ins 171 6 = some (.getfield 49, 9, 12, 24) := by decide +kernel
theorem i171_9 : ins 171 9 = some (.bipush (6), 11, 0, 6) := by decide +kernel
theorem i171_11 : ins 171 11 = some (.aload_n 0, 12, 0, 0) := by decide +kernel
theorem i171_12 : ins 171 12 = some (.getfield 231, 15, 12, 19) := by decide +kernel
theorem i171_15 : ins 171 15 = some (.imul, 16, 0, 0) := by decide +kernel
theorem i171_16 : ins 171 16 = some (.aload_n 0, 17, 0, 0) := by decide +kernel
theorem i171_17 : ins 171 17 = some (.getfield 46, 20, 12, 23) := by decide +kernel
theorem i171_20 : ins 171 20 = some (.aload_n 0, 21, 0, 0) := by decide +kernel
theorem i171_21 : ins 171 21 = some (.getfield 231, 24, 12, 19) := by decide +kernel
theorem i171_24 : ins 171 24 = some (.iaload, 25, 0, 0) := by decide +kernel
theorem i171_25 : ins 171 25 = some (.iadd, 26, 0, 0) := by decide +kernel
theorem i171_26 : ins 171 26 = some (.aload_n 0, 27, 0, 0) := by decide +kernel
theorem i171_27 : ins 171 27 = some (.iconst (0), 28, 0, 0) := by decide +kernel
theorem i171_28 : ins 171 28 = some (.bipush (99), 30, 0, 99) := by decide +kernel
theorem i171_30 : ins 171 30 = some (.invokevirtual 272, 33, 170, 0) := by decide +kernel
theorem i171_33 : ins 171 33 = some (.iastore, 34, 0, 0) := by decide +kernel
theorem i171_34 : ins 171 34 = some (.aload_n 0, 35, 0, 0) := by decide +kernel
theorem i171_35 : ins 171 35 = some (.iconst (4), 36, 0, 4) := by decide +kernel
theorem i171_36 : ins 171 36 = some (.invokevirtual 276, 39, 161, 0) := by decide +kernel
theorem i171_39 : ins 171 39 = some (.aload_n 0, 40, 0, 0) := by decide +kernel
theorem i171_40 : ins 171 40 = some (.getfield 198, 43, 12, 13) := by decide +kernel
theorem i171_43 : ins 171 43 = some (.ifCond .le (4), 46, 47, 0) := by decide +kernel
theorem i171_46 : ins 171 46 = some (.return_, 47, 0, 0) := by decide +kernel
theorem i171_47 : ins 171 47 = some (.aload_n 0, 48, 0, 0) := by decide +kernel
theorem i171_48 : ins 171 48 = some (.iload_n 1, 49, 0, 0) := by decide +kernel
theorem i171_49 : ins 171 49 = some (.iconst (-1), 50, 0, -1) := by decide +kernel
theorem i171_50 : ins 171 50 = some (.invokevirtual 285, 53, 168, 0) := by decide +kernel
theorem i171_53 : ins 171 53 = some (.aload_n 0, 54, 0, 0) := by decide +kernel
theorem i171_54 : ins 171 54 = some (.getfield 46, 57, 12, 23) := by decide +kernel
theorem i171_57 : ins 171 57 = some (.aload_n 0, 58, 0, 0) := by decide +kernel
theorem i171_58 : ins 171 58 = some (.getfield 231, 61, 12, 19) := by decide +kernel
theorem i171_61 : ins 171 61 = some (.dup2, 62, 0, 0) := by decide +kernel
theorem i171_62 : ins 171 62 = some (.iaload, 63, 0, 0) := by decide +kernel
theorem i171_63 : ins 171 63 = some (.iconst (1), 64, 0, 1) := by decide +kernel
theorem i171_64 : ins 171 64 = some (.iadd, 65, 0, 0) := by decide +kernel
theorem i171_65 : ins 171 65 = some (.iastore, 66, 0, 0) := by decide +kernel
theorem i171_66 : ins 171 66 = some (.return_, 67, 0, 0) := by decide +kernel
theorem i172_0 : ins 172 0 = some (.bipush (6), 2, 0, 6) := by decide +kernel
theorem i172_2 : ins 172 2 = some (.aload_n 0, 3, 0, 0) := by decide +kernel
theorem i172_3 : ins 172 3 = some (.getfield 231, 6, 12, 19) := by decide +kernel
theorem i172_6 : ins 172 6 = some (.imul, 7, 0, 0) := by decide +kernel
theorem i172_7 : ins 172 7 = some (.aload_n 0, 8, 0, 0) := by decide +kernel
theorem i172_8 : ins 172 8 = some (.getfield 52, 11, 12, 25) := by decide +kernel
theorem i172_11 : ins 172 11 = some (.aload_n 0, 12, 0, 0) := by decide +kernel
theorem i172_12 : ins 172 12 = some (.getfield 231, 15, 12, 19) := by decide +kernel
theorem i172_15 : ins 172 15 = some (.iaload, 16, 0, 0) := by decide +kernel
theorem i172_16 : ins 172 16 = some (.iadd, 17, 0, 0) := by decide +kernel
theorem i172_17 : ins 172 17 = some (.istore_n 1, 18, 0, 0) := by decide +kernel
theorem i172_18 : ins 172 18 = some (.aload_n 0, 19, 0, 0) := by decide +kernel
theorem i172_19 : ins 172 19 = some (.invokevirtual 282, 22, 167, 0) := by decide +kernel
theorem i172_22 : ins 172 22 = some (.istore_n 2, 23, 0, 0) := by decide +kernel
theorem i172_23 : ins 172 23 = some (.aload_n 0, 24, 0, 0) := by decide +kernel
theorem i172_24 : ins 172 24 = some (.getfield 55, 27, 12, 26) := by decide +kernel
theorem i172_27 : ins 172 27 = some (.iload_n 1, 28, 0, 0) := by decide +kernel
theorem i172_28 : ins 172 28 = some (.aload_n 0, 29, 0, 0) := by decide +kernel
theorem i172_29 : ins 172 29 = some (.iconst (0), 30, 0, 0) := by decide +kernel
theorem i172_30 : ins 172 30 = some (.bipush (99), 32, 0, 99) := by decide +kernel
theorem i172_32 : ins 172 32 = some (.invokevirtual 272, 35, 170, 0) := by decide +kernel
theorem i172_35 : ins 172 35 = some (.iastore, 36, 0, 0) := by decide +kernel
theorem i172_36 : ins 172 36 = some (.aload_n 0, 37, 0, 0) := by decide +kernel
theorem i172_37 : ins 172 37 = some (.getfield 58, 40, 12, 27) := by decide +kernel
theorem i172_40 : ins 172 40 = some (.iload_n 1, 41, 0, 0) := by decide +kernel
theorem i172_41 : ins 172 41 = some (.aload_n 0, 42, 0, 0) := by decide +kernel
theorem i172_42 : ins 172 42 = some (.iconst (0), 43, 0, 0) := by decide +kernel
theorem i172_43 : ins 172 43 = some (.bipush (9), 45, 0, 9) := by decide +kernel
theorem i172_45 : ins 172 45 = some (.invokevirtual 272, 48, 170, 0) := by decide +kernel
theorem i172_48 : ins 172 48 = some (.iastore, 49, 0, 0) := by decide +kernel
theorem i172_49 : ins 172 49 = some (.iconst (0), 50, 0, 0) := by decide +kernel
theorem i172_50 : ins 172 50 = some (.istore_n 3, 51, 0, 0) := by decide +kernel
theorem i172_51 : ins 172 51 = some (.iload_n 3, 52, 0, 0) := by decide +kernel
theorem i172_52 : ins 172 52 = some (.bipush (6), 54, 0, 6) := by decide +kernel
theorem i172_54 : ins 172 54 = some (.if_icmp .ge (22), 57, 76, 0) := by decide +kernel
theorem i172_57 : ins 172 57 = some (.aload_n 0, 58, 0, 0) := by decide +kernel
theorem i172_58 : ins 172 58 = some (.getfield 61, 61, 12, 28) := by decide +kernel
theorem i172_61 : ins 172 61 = some (.bipush (6), 63, 0, 6) := by decide +kernel
theorem i172_63 : ins 172 63 = some (.iload_n 1, 64, 0, 0) := by decide +kernel
theorem i172_64 : ins 172 64 = some (.imul, 65, 0, 0) := by decide +kernel
theorem i172_65 : ins 172 65 = some (.iload_n 3, 66, 0, 0) := by decide +kernel
theorem i172_66 : ins 172 66 = some (.iadd, 67, 0, 0) := by decide +kernel
theorem i172_67 : ins 172 67 = some (.bipush (50), 69, 0, 50) := by decide +kernel
theorem i172_69 : ins 172 69 = some (.iastore, 70, 0, 0) := by decide +kernel
theorem i172_70 : ins 172 70 = some (.iinc 3 (1), 73, 0, 1) := by decide +kernel
theorem i172_73 : ins 172 73 = some (.goto (-22), 76, 51, 0) := by decide +kernel
theorem i172_76 : ins 172 76 = some (.iconst (0), 77, 0, 0) := by decide +kernel
theorem i172_77 : ins 172 77 = some (.istore_n 3, 78, 0, 0) := by decide +kernel
theorem i172_78 : ins 172 78 = some (.aload_n 0, 79, 0, 0) := by decide +kernel
theorem i172_79 : ins 172 79 = some (.getfield 198, 82, 12, 13) := by decide +kernel
theorem i172_82 : ins 172 82 = some (.ifCond .ne (54), 85, 136, 0) := by decide +kernel
theorem i172_85 : ins 172 85 = some (.aload_n 0, 86, 0, 0) := by decide +kernel
theorem i172_86 : ins 172 86 = some (.iconst (2), 87, 0, 2) := by decide +kernel
theorem i172_87 : ins 172 87 = some (.invokevirtual 216, 90, 157, 0) := by decide +kernel
theorem i172_90 : ins 172 90 = some (.ifCond .eq (46), 93, 136, 0) := by decide +kernel
theorem i172_93 : ins 172 93 = some (.iload_n 3, 94, 0, 0) := by decide +kernel
theorem i172_94 : ins 172 94 = some (.bipush (6), 96, 0, 6) := by decide +kernel
theorem i172_96 : ins 172 96 = some (.if_icmp .ne (8), 99, 104, 0) := by decide +kernel
theorem i172_99 : ins 172 99 = some (.aload_n 0, 100, 0, 0) := by decide +kernel
theorem i172_100 : ins 172 100 = some (.iconst (2), 101, 0, 2) := by decide +kernel
theorem i172_101 : ins 172 101 = some (.invokevirtual 213, 104, 158, 0) := by decide +kernel
theorem i172_104 : ins 172 104 = some (.aload_n 0, 105, 0, 0) := by decide +kernel
theorem i172_105 : ins 172 105 = some (.getfield 198, 108, 12, 13) := by decide +kernel
theorem i172_108 : ins 172 108 = some (.ifCond .le (4), 111, 112, 0) := by decide +kernel
theorem i172_111 : ins 172 111 = some (.return_, 112, 0, 0) := by decide +kernel
theorem i172_112 : ins 172 112 = some (.aload_n 0, 113, 0, 0) := by decide +kernel
theorem i172_113 : ins 172 113 = some (.getfield 61, 116, 12, 28) := by decide +kernel
theorem i172_116 : ins 172 116 = some (.bipush (6), 118, 0, 6) := by decide +kernel
theorem i172_118 : ins 172 118 = some (.iload_n 1, 119, 0, 0) := by decide +kernel
theorem i172_119 : ins 172 119 = some (.imul, 120, 0, 0) := by decide +kernel
theorem i172_120 : ins 172 120 = some (.iload_n 3, 121, 0, 0) := by decide +kernel
theorem i172_121 : ins 172 121 = some (.iadd, 122, 0, 0) := by decide +kernel
theorem i172_122 : ins 172 122 = some (.aload_n 0, 123, 0, 0) := by decide +kernel
theorem i172_123 : ins 172 123 = some (.iconst (0), 124, 0, 0) := by decide +kernel
theorem i172_124 : ins 172 124 = some (.bipush (99), 126, 0, 99) := by decide +kernel
theorem i172_126 : ins 172 126 = some (.invokevirtual 272, 129, 170, 0) := by decide +kernel
theorem i172_129 : ins 172 129 = some (.iastore, 130, 0, 0) := by decide +kernel
theorem i172_130 : ins 172 130 = some (.iinc 3 (1), 133, 0, 1) := by decide +kernel
theorem i172_133 : ins 172 133 = some (.goto (-55), 136, 78, 0) := by decide +kernel
theorem i172_136 : ins 172 136 = some (.aload_n 0, 137, 0, 0) := by decide +kernel
theorem i172_137 : ins 172 137 = some (.iconst (4), 138, 0, 4) := by decide +kernel
theorem i172_138 : ins 172 138 = some (.invokevirtual 276, 141, 161, 0) := by decide +kernel
theorem i172_141 : ins 172 141 = some (.aload_n 0, 142, 0, 0) := by decide +kernel
theorem i172_142 : ins 172 142 = some (.getfield 198, 145, 12, 13) := by decide +kernel
theorem i172_145 : ins 172 145 = some (.ifCond .le (4), 148, 149, 0) := by decide +kernel
theorem i172_148 : ins 172 148 = some (.return_, 149, 0, 0) := by decide +kernel
theorem i172_149 : ins 172 149 = some (.aload_n 0, 150, 0, 0) := by decide +kernel
theorem i172_150 : ins 172 150 = some (.iload_n 2, 151, 0, 0) := by decide +kernel
theorem i172_151 : ins 172 151 = some (.aload_n 0, 152, 0, 0) := by decide +kernel
theorem i172_152 : ins 172 152 = some (.getfield 52, 155, 12, 25) := by decide +kernel
theorem i172_155 : ins 172 155 = some (.aload_n 0, 156, 0, 0) := by decide +kernel
theorem i172_156 : ins 172 156 = some (.getfield 231, 159, 12, 19) := by decide +kernel
theorem i172_159 : ins 172 159 = some (.iaload, 160, 0, 0) := by decide +kernel
theorem i172_160 : ins 172 160 = some (.invokevirtual 285, 163, 168, 0) := by decide +kernel
theorem i172_163 : ins 172 163 = some (.aload_n 0, 164, 0, 0) := by decide +kernel
theorem i172_164 : ins 172 164 = some (.getfield 52, 167, 12, 25) := by decide +kernel
theorem i172_167 : ins 172 167 = some (.aload_n 0, 168, 0, 0) := by decide +kernel
theorem i172_168 : ins 172 168 = some (.getfield 231, 171, 12, 19) := by decide +kernel
theorem i172_171 : ins 172 171 = some (.dup2, 172, 0, 0) := by decide +kernel
theorem i172_172 : ins 172 172 = some (.iaload, 173, 0, 0) := by decide +kernel
theorem i172_173 : ins 172 173 = some (.iconst (1), 174, 0, 1) := by decide +kernel
theorem i172_174 : ins 172 174 = some (.iadd, 175, 0, 0) := by decide +kernel
theorem i172_175 : ins 172 175 = some (.iastore, 176, 0, 0) := by decide +kernel
theorem i172_176 : ins 172 176 = some (.return_, 177, 0, 0) := by decide +kernel
theorem i173_0 : ins 173 0 = some (.aload_n 0, 1, 0, 0) := by decide +kernel
theorem i173_1 : ins 173 1 = some (.invokevirtual 282, 4, 167, 0) := by decide +kernel
theorem i173_4 : ins 173 4 = some (.istore_n 1, 5, 0, 0) := by decide +kernel
theorem i173_5 : ins 173 5 = some (.aload_n 0, 6, 0, 0) := by decide +kernel
theorem i173_6 : ins 173 6 = some (.aload_n 0, 7, 0, 0) := by decide +kernel
theorem i173_7 : ins 173 7 = some (.getfield 64, 10, 12, 29) := by decide +kernel
theorem i173_10 : ins 173 10 = some (.aload_n 0, 11, 0, 0) := by decide +kernel
theorem i173_11 : ins 173 11 = some (.getfield 231, 14, 12, 19) := by decide +kernel
theorem i173_14 : ins 173 14 = some (.iaload, 15, 0, 0) := by decide +kernel
theorem i173_15 : ins 173 15 = some (.invokevirtual 269, 18, 174, 0) := by decide +kernel
theorem i173_18 : ins 173 18 = some (.aload_n 0, 19, 0, 0) := by decide +kernel
theorem i173_19 : ins 173 19 = some (.getfield 198, 22, 12, 13) := by decide +kernel
theorem i173_22 : ins 173 22 = some (.ifCond .le (4), 25, 26, 0) := by decide +kernel
theorem i173_25 : ins 173 25 = some (.return_, 26, 0, 0) := by decide +kernel
theorem i173_26 : ins 173 26 = some (.aload_n 0, 27, 0, 0) := by decide +kernel
theorem i173_27 : ins 173 27 = some (.iload_n 1, 28, 0, 0) := by decide +kernel
theorem i173_28 : ins 173 28 = some (.iconst (-1), 29, 0, -1) := by decide +kernel
theorem i173_29 : ins 173 29 = some (.invokevirtual 285, 32, 168, 0) := by decide +kernel
theorem i173_32 : ins 173 32 = some (.aload_n 0, 33, 0, 0) := by decide +kernel
theorem i173_33 : ins 173 33 = some (.getfield 64, 36, 12, 29) := by decide +kernel
theorem i173_36 : ins 173 36 = some (.aload_n 0, 37, 0, 0) := by decide +kernel
theorem i173_37 : ins 173 37 = some (.getfield 231, 40, 12, 19) := by decide +kernel
theorem i173_40 : ins 173 40 = some (.dup2, 41, 0, 0) := by decide +kernel
theorem i173_41 : ins 173 41 = some (.iaload, 42, 0, 0) := by decide +kernel
theorem i173_42 : ins 173 42 = some (.iconst (1), 43, 0, 1) := by decide +kernel
theorem i173_43 : ins 173 43 = some (.iadd, 44, 0, 0) := by decide +kernel
theorem i173_44 : ins 173 44 = some (.iastore, 45, 0, 0) := by decide +kernel
theorem i173_45 : ins 173 45 = some (.return_, 46, 0, 0) := by decide +kernel
theorem i174_0 : ins 174 0 = some (.aload_n 0, 1, 0, 0) := by decide +kernel
theorem i174_1 : ins 174 1 = some (.iconst (5), 2, 0, 5) := by decide +kernel
theorem i174_2 : ins 174 2 = some (.invokevirtual 276, 5, 161, 0) := by decide +kernel
theorem i174_5 : ins 174 5 = some (.aload_n 0, 6, 0, 0) := by decide +kernel
theorem i174_6 : ins 174 6 = some (.getfield 237, 9, 12, 35) := by decide +kernel
theorem i174_9 : ins 174 9 = some (.istore_n 2, 10, 0, 0) := by decide +kernel
theorem i174_10 : ins 174 10 = some (.iconst (0), 11, 0, 0) := by decide +kernel
theorem i174_11 : ins 174 11 = some (.istore_n 3, 12, 0, 0) := by decide +kernel
theorem i174_12 : ins 174 12 = some (.aload_n 0, 13, 0, 0) := by decide +kernel
theorem i174_13 : ins 174 13 = some (.getfield 198, 16, 12, 13) := by decide +kernel
theorem i174_16 : ins 174 16 = some (.ifCond .ne (113), 19, 129, 0) := by decide +kernel
theorem i174_19 : ins 174 19 = some (.aload_n 0, 20, 0, 0) := by decide +kernel
theorem i174_20 : ins 174 20 = some (.bipush (28), 22, 0, 28) := by decide +kernel
theorem i174_22 : ins 174 22 = some (.invokevirtual 216, 25, 157, 0) := by decide +kernel
theorem i174_25 : ins 174 25 = some (.ifCond .eq (104), 28, 129, 0) := by decide +kernel
theorem i174_28 : ins 174 28 = some (.iload_n 3, 29, 0, 0) := by decide +kernel
theorem i174_29 : ins 174 29 = some (.iconst (4), 30, 0, 4) := by decide +kernel
theorem i174_30 : ins 174 30 = some (.if_icmp .ne (8), 33, 38, 0) := by decide +kernel
theorem i174_33 : ins 174 33 = some (.aload_n 0, 34, 0, 0) := by decide +kernel
theorem i174_34 : ins 174 34 = some (.iconst (2), 35, 0, 2) := by decide +kernel
theorem i174_35 : ins 174 35 = some (.invokevirtual 213, 38, 158, 0) := by decide +kernel
theorem i174_38 : ins 174 38 = some (.aload_n 0, 39, 0, 0) := by decide +kernel
theorem i174_39 : ins 174 39 = some (.getfield 198, 42, 12, 13) := by decide +kernel
theorem i174_42 : ins 174 42 = some (.ifCond .le (4), 45, 46, 0) := by decide +kernel
theorem i174_45 : ins 174 45 = some (.return_, 46, 0, 0) := by decide +kernel
theorem i174_46 : ins 174 46 = some (.iinc 3 (1), 49, 0, 1) := by decide +kernel
theorem i174_49 : ins 174 49 = some (.aload_n 0, 50, 0, 0) := by decide +kernel
theorem i174_50 : ins 174 50 = some (.invokevirtual 219, 53, 160, 0) := by decide +kernel
theorem i174_53 : ins 174 53 = some (.aload_n 0, 54, 0, 0) := by decide +kernel
theorem i174_54 : ins 174 54 = some (.getfield 82, 57, 12, 36) := by decide +kernel
theorem i174_57 : ins 174 57 = some (.aload_n 0, 58, 0, 0) := by decide +kernel
theorem i174_58 : ins 174 58 = some (.getfield 237, 61, 12, 35) := by decide +kernel
theorem i174_61 : ins 174 61 = some (.iconst (1), 62, 0, 1) := by decide +kernel
theorem i174_62 : ins 174 62 = some (.bastore, 63, 0, 0) := by decide +kernel
theorem i174_63 : ins 174 63 = some (.aload_n 0, 64, 0, 0) := by decide +kernel
theorem i174_64 : ins 174 64 = some (.getfield 86, 67, 12, 37) := by decide +kernel
theorem i174_67 : ins 174 67 = some (.aload_n 0, 68, 0, 0) := by decide +kernel
theorem i174_68 : ins 174 68 = some (.getfield 237, 71, 12, 35) := by decide +kernel
theorem i174_71 : ins 174 71 = some (.aload_n 0, 72, 0, 0) := by decide +kernel
theorem i174_72 : ins 174 72 = some (.getfield 240, 75, 12, 41) := by decide +kernel
theorem i174_75 : ins 174 75 = some (.iastore, 76, 0, 0) := by decide +kernel
theorem i174_76 : ins 174 76 = some (.aload_n 0, 77, 0, 0) := by decide +kernel
theorem i174_77 : ins 174 77 = some (.invokevirtual 288, 80, 178, 0) := by decide +kernel
theorem i174_80 : ins 174 80 = some (.aload_n 0, 81, 0, 0) := by decide +kernel
theorem i174_81 : ins 174 81 = some (.bipush (13), 83, 0, 13) := by decide +kernel
theorem i174_83 : ins 174 83 = some (.invokevirtual 276, 86, 161, 0) := by decide +kernel
theorem i174_86 : ins 174 86 = some (.aload_n 0, 87, 0, 0) := by decide +kernel
theorem i174_87 : ins 174 87 = some (.getfield 89, 90, 12, 38) := by decide +kernel
theorem i174_90 : ins 174 90 = some (.aload_n 0, 91, 0, 0) := by decide +kernel
theorem i174_91 : ins 174 91 = some (.getfield 237, 94, 12, 35) := by decide +kernel
theorem i174_94 : ins 174 94 = some (.aload_n 0, 95, 0, 0) := by decide +kernel
theorem i174_95 : ins 174 95 = some (.getfield 240, 98, 12, 41) := by decide +kernel
theorem i174_98 : ins 174 98 = some (.iastore, 99, 0, 0) := by decide +kernel
theorem i174_99 : ins 174 99 = some (.aload_n 0, 100, 0, 0) := by decide +kernel
theorem i174_100 : ins 174 100 = some (.getfield 198, 103, 12, 13) := by decide +kernel
theorem i174_103 : ins 174 103 = some (.ifCond .ne (7), 106, 110, 0) := by decide +kernel
theorem i174_106 : ins 174 106 = some (.aload_n 0, 107, 0, 0) := by decide +kernel
theorem i174_107 : ins 174 107 = some (.invokevirtual 288, 110, 178, 0) := by decide +kernel
theorem i174_110 : ins 174 110 = some (.aload_n 0, 111, 0, 0) := by decide +kernel
theorem i174_111 : ins 174 111 = some (.bipush (29), 113, 0, 29) := by decide +kernel
theorem i174_113 : ins 174 113 = some (.invokevirtual 276, 116, 161, 0) := by decide +kernel
theorem i174_116 : ins 174 116 = some (.aload_n 0, 117, 0, 0) := by decide +kernel
theorem i174_117 : ins 174 117 = some (.invokevirtual 291, 120, 175, 0) := by decide +kernel
theorem i174_120 : ins 174 120 = some (.aload_n 0, 121, 0, 0) := by decide +kernel
theorem i174_121 : ins 174 121 = some (.bipush (30), 123, 0, 30) := by decide +kernel
theorem i174_123 : ins 174 123 = some (.invokevirtual 276, 126, 161, 0) := by decide +kernel
theorem i174_126 : ins 174 126 = some (.goto (-114), 129, 12, 0) := by decide +kernel
theorem i174_129 : ins 174 129 = some (.aload_n 0, 130, 0, 0) := by decide +kernel
theorem i174_130 : ins 174 130 = some (.getfield 82, 133, 12, 36) := by decide +kernel
theorem i174_133 : ins 174 133 = some (.aload_n 0, 134, 0, 0) := by decide +kernel
theorem i174_134 : ins 174 134 = some (.getfield 237, 137, 12, 35) := by decide +kernel
theorem i174_137 : ins 174 137 = some (.iconst (0), 138, 0, 0) := by decide +kernel
theorem i174_138 : ins 174 138 = some (.bastore, 139, 0, 0) := by decide +kernel
theorem i174_139 : ins 174 139 = some (.aload_n 0, 140, 0, 0) := by decide +kernel
theorem i174_140 : ins 174 140 = some (.invokevirtual 291, 143, 175, 0) := by decide +kernel
theorem i174_143 : ins 174 143 = some (.aload_n 0, 144, 0, 0) := by decide +kernel
theorem i174_144 : ins 174 144 = some (.iconst (4), 145, 0, 4) := by decide +kernel
theorem i174_145 : ins 174 145 = some (.invokevirtual 276, 148, 161, 0) := by decide +kernel
theorem i174_148 : ins 174 148 = some (.aload_n 0, 149, 0, 0) := by decide +kernel
theorem i174_149 : ins 174 149 = some (.getfield 198, 152, 12, 13) := by decide +kernel
theorem i174_152 : ins 174 152 = some (.ifCond .gt (7), 155, 159, 0) := by decide +kernel
theorem i174_155 : ins 174 155 = some (.iload_n 1, 156, 0, 0) := by decide +kernel
theorem i174_156 : ins 174 156 = some (.ifCond .ge (4), 159, 160, 0) := by decide +kernel
theorem i174_159 : ins 174 159 = some (.return_, 160, 0, 0) := by decide +kernel
theorem i174_160 : ins 174 160 = some (.aload_n 0, 161, 0, 0) := by decide +kernel
theorem i174_161 : ins 174 161 = some (.getfield 76, 164, 12, 33) := by decide +kernel
theorem i174_164 : ins 174 164 = some (.bipush (10), 166, 0, 10) := by decide +kernel
theorem i174_166 : ins 174 166 = some (.aload_n 0, 167, 0, 0) := by decide +kernel
theorem i174_167 : ins 174 167 = some (.getfield 231, 170, 12, 19) := by decide +kernel
theorem i174_170 : ins 174 170 = some (.imul, 171, 0, 0) := by decide +kernel
theorem i174_171 : ins 174 171 = some (.iload_n 1, 172, 0, 0) := by decide +kernel
theorem i174_172 : ins 174 172 = some (.iadd, 173, 0, 0) := by decide +kernel
theorem i174_173 : ins 174 173 = some (.iload_n 2, 174, 0, 0) := by decide +kernel
theorem i174_174 : ins 174 174 = some (.iastore, 175, 0, 0) := by decide +kernel
theorem i174_175 : ins 174 175 = some (.aload_n 0, 176, 0, 0) := by decide +kernel
theorem i174_176 : ins 174 176 = some (.getfield 79, 179, 12, 34) := by decide +kernel
theorem i174_179 : ins 174 179 = some (.bipush (10), 181, 0, 10) := by decide +kernel
theorem i174_181 : ins 174 181 = some (.aload_n 0, 182, 0, 0) := by decide +kernel
theorem i174_182 : ins 174 182 = some (.getfield 231, 185, 12, 19) := by decide +kernel
theorem i174_185 : ins 174 185 = some (.imul, 186, 0, 0) := by decide +kernel
theorem i174_186 : ins 174 186 = some (.iload_n 1, 187, 0, 0) := by decide +kernel
theorem i174_187 : ins 174 187 = some (.iadd, 188, 0, 0) := by decide +kernel
theorem i174_188 : ins 174 188 = some (.aload_n 0, 189, 0, 0) := by decide +kernel
theorem i174_189 : ins 174 189 = some (.getfield 237, 192, 12, 35) := by decide +kernel
theorem i174_192 : ins 174 192 = some (.iastore, 193, 0, 0) := by decide +kernel
theorem i174_193 : ins 174 193 = some (.return_, 194, 0, 0) := by decide +kernel
theorem i175_0 : ins 175 0 = some (.aload_n 0, 1, 0, 0) := by decide +kernel
theorem i175_1 : ins 175 1 = some (.getfield 92, 4, 12, 39) := by decide +kernel
theorem i175_4 : ins 175 4 = some (.aload_n 0, 5, 0, 0) := by decide +kernel
theorem i175_5 : ins 175 5 = some (.getfield 237, 8, 12, 35) := by decide +kernel
theorem i175_8 : ins 175 8 = some (.aload_n 0, 9, 0, 0) := by decide +kernel
theorem i175_9 : ins 175 9 = some (.getfield 240, 12, 12, 41) := by decide +kernel
theorem i175_12 : ins 175 12 = some (.iastore, 13, 0, 0) := by decide +kernel
theorem i175_13 : ins 175 13 = some (.aload_n 0, 14, 0, 0) := by decide +kernel
theorem i175_14 : ins 175 14 = some (.getfield 198, 17, 12, 13) := by decide +kernel
theorem i175_17 : ins 175 17 = some (.ifCond .ne (7), 20, 24, 0) := by decide +kernel
theorem i175_20 : ins 175 20 = some (.aload_n 0, 21, 0, 0) := by decide +kernel
theorem i175_21 : ins 175 21 = some (.invokevirtual 288, 24, 178, 0) := by decide +kernel
theorem i175_24 : ins 175 24 = some (.aload_n 0, 25, 0, 0) := by decide +kernel
theorem i175_25 : ins 175 25 = some (.getfield 95, 28, 12, 40) := by decide +kernel
theorem i175_28 : ins 175 28 = some (.aload_n 0, 29, 0, 0) := by decide +kernel
theorem i175_29 : ins 175 29 = some (.getfield 237, 32, 12, 35) := by decide +kernel
theorem i175_32 : ins 175 32 = some (.aload_n 0, 33, 0, 0) := by decide +kernel
theorem i175_33 : ins 175 33 = some (.getfield 240, 36, 12, 41) := by decide +kernel
theorem i175_36 : ins 175 36 = some (.iastore, 37, 0, 0) := by decide +kernel
theorem i175_37 : ins 175 37 = some (.aload_n 0, 38, 0, 0) := by decide +kernel
theorem i175_38 : ins 175 38 = some (.dup, 39, 0, 0) := by decide +kernel
theorem i175_39 : ins 175 39 = some (.getfield 237, 42, 12, 35) := by decide +kernel
theorem i175_42 : ins 175 42 = some (.iconst (1), 43, 0, 1) := by decide +kernel
theorem i175_43 : ins 175 43 = some (.iadd, 44, 0, 0) := by decide +kernel
theorem i175_44 : ins 175 44 = some (.putfield 237, 47, 12, 35) := by decide +kernel
theorem i175_47 : ins 175 47 = some (.return_, 48, 0, 0) := by decide +kernel
theorem i176_0 : ins 176 0 = some (.aload_n 0, 1, 0, 0) := by decide +kernel
theorem i176_1 : ins 176 1 = some (.getfield 98, 4, 12, 42) := by decide +kernel
theorem i176_4 : ins 176 4 = some (.aload_n 0, 5, 0, 0) := by decide +kernel
theorem i176_5 : ins 176 5 = some (.getfield 240, 8, 12, 41) := by decide +kernel
theorem i176_8 : ins 176 8 = some (.iload_n 1, 9, 0, 0) := by decide +kernel
theorem i176_9 : ins 176 9 = some (.iastore, 10, 0, 0) := by decide +kernel
theorem i176_10 : ins 176 10 = some (.aload_n 0, 11, 0, 0) := by decide +kernel
theorem i176_11 : ins 176 11 = some (.getfield 101, 14, 12, 43) := by decide +kernel
theorem i176_14 : ins 176 14 = some (.aload_n 0, 15, 0, 0) := by decide +kernel
theorem i176_15 : ins 176 15 = some (.getfield 240, 18, 12, 41) := by decide +kernel
theorem i176_18 : ins 176 18 = some (.iload_n 2, 19, 0, 0) := by decide +kernel
theorem i176_19 : ins 176 19 = some (.iastore, 20, 0, 0) := by decide +kernel
theorem i176_20 : ins 176 20 = some (.aload_n 0, 21, 0, 0) := by decide +kernel
theorem i176_21 : ins 176 21 = some (.dup, 22, 0, 0) := by decide +kernel
theorem i176_22 : ins 176 22 = some (.getfield 240, 25, 12, 41) := by decide +kernel
theorem i176_25 : ins 176 25 = some (.iconst (1), 26, 0, 1) := by decide +kernel
theorem i176_26 : ins 176 26 = some (.iadd, 27, 0, 0) := by decide +kernel
theorem i176_27 : ins 176 27 = some (.putfield 240, 30, 12, 41) := by decide +kernel
theorem i176_30 : ins 176 30 = some (.return_, 31, 0, 0) := by decide +kernel
theorem i177_0 : ins 177 0 = some (.aload_n 0, 1, 0, 0) := by decide +kernel
theorem i177_1 : ins 177 1 = some (.getfield 294, 4, 12, 45) := by decide +kernel
theorem i177_4 : ins 177 4 = some (.ifCond .le (87), 7, 91, 0) := by decide +kernel
theorem i177_7 : ins 177 7 = some (.aload_n 0, 8, 0, 0) := by decide +kernel
theorem i177_8 : ins 177 8 = some (.getfield 104, 11, 12, 44) := by decide +kernel
theorem i177_11 : ins 177 11 = some (.aload_n 0, 12, 0, 0) := by decide +kernel
theorem i177_12 : ins 177 12 = some (.getfield 294, 15, 12, 45) := by decide +kernel
theorem i177_15 : ins 177 15 = some (.iconst (1), 16, 0, 1) := by decide +kernel
theorem i177_16 : ins 177 16 = some (.isub, 17, 0, 0) := by decide +kernel
theorem i177_17 : ins 177 17 = some (.iaload, 18, 0, 0) := by decide +kernel
theorem i177_18 : ins 177 18 = some (.istore_n 2, 19, 0, 0) := by decide +kernel
theorem i177_19 : ins 177 19 = some (.iload_n 2, 20, 0, 0) := by decide +kernel
theorem i177_20 : ins 177 20 = some (.bipush (6), 22, 0, 6) := by decide +kernel
theorem i177_22 : ins 177 22 = some (.if_icmp .eq (19), 25, 41, 0) := by decide +kernel
theorem i177_25 : ins 177 25 = some (.iload_n 1, 26, 0, 0) := by decide +kernel
theorem i177_26 : ins 177 26 = some (.ifCond .eq (16), 29, 42, 0) := by decide +kernel
theorem i177_29 : ins 177 29 = some (.iload_n 2, 30, 0, 0) := by decide +kernel
theorem i177_30 : ins 177 30 = some (.bipush (8), 32, 0, 8) := by decide +kernel
theorem i177_32 : ins 177 32 = some (.if_icmp .eq (9), 35, 41, 0) := by decide +kernel
theorem i177_35 : ins 177 35 = some (.iload_n 2, 36, 0, 0) := by decide +kernel
theorem i177_36 : ins 177 36 = some (.bipush (9), 38, 0, 9) := by decide +kernel
theorem i177_38 : ins 177 38 = some (.if_icmp .ne (4), 41, 42, 0) := by decide +kernel
theorem i177_41 : ins 177 41 = some (.return_, 42, 0, 0) := by decide +kernel
theorem i177_42 : ins 177 42 = some (.aload_n 0, 43, 0, 0) := by decide +kernel
theorem i177_43 : ins 177 43 = some (.dup, 44, 0, 0) := by decide +kernel
theorem i177_44 : ins 177 44 = some (.getfield 294, 47, 12, 45) := by decide +kernel
theorem i177_47 : ins 177 47 = some (.iconst (1), 48, 0, 1) := by decide +kernel
theorem i177_48 : ins 177 48 = some (.isub, 49, 0, 0) := by decide +kernel
theorem i177_49 : ins 177 49 = some (.putfield 294, 52, 12, 45) := by decide +kernel
theorem i177_52 : ins 177 52 = some (.aload_n 0, 53, 0, 0) := by decide +kernel
theorem i177_53 : ins 177 53 = some (.iload_n 2, 54, 0, 0) := by decide +kernel
theorem i177_54 : ins 177 54 = some (.bipush (8), 56, 0, 8) := by decide +kernel
theorem i177_56 : ins 177 56 = some (.if_icmp .ne (7), 59, 63, 0) := by decide +kernel
theorem i177_59 : ins 177 59 = some (.iconst (2), 60, 0, 2) := by decide +kernel
theorem i177_60 : ins 177 60 = some (.goto (24), 63, 84, 0) := by decide +kernel
theorem i177_63 : ins 177 63 = some (.iload_n 2, 64, 0, 0) := by decide +kernel
theorem i177_64 : ins 177 64 = some (.bipush (9), 66, 0, 9) := by decide +kernel
theorem i177_66 : ins 177 66 = some (.if_icmp .ne (7), 69, 73, 0) := by decide +kernel
theorem i177_69 : ins 177 69 = some (.iconst (3), 70, 0, 3) := by decide +kernel
theorem i177_70 : ins 177 70 = some (.goto (14), 73, 84, 0) := by decide +kernel
theorem i177_73 : ins 177 73 = some (.iload_n 2, 74, 0, 0) := by decide +kernel
theorem i177_74 : ins 177 74 = some (.bipush (10), 76, 0, 10) := by decide +kernel
theorem i177_76 : ins 177 76 = some (.if_icmp .ne (7), 79, 83, 0) := by decide +kernel
theorem i177_79 : ins 177 79 = some (.iconst (4), 80, 0, 4) := by decide +kernel
theorem i177_80 : ins 177 80 = some (.goto (4), 83, 84, 0) := by decide +kernel
theorem i177_83 : ins 177 83 = some (.iconst (5), 84, 0, 5) := by decide +kernel
theorem i177_84 : ins 177 84 = some (.iconst (0), 85, 0, 0) := by decide +kernel
theorem i177_85 : ins 177 85 = some (.invokevirtual 297, 88, 176, 0) := by decide +kernel
theorem i177_88 : ins 177 88 = some (.goto (-88), 91, 0, 0) := by decide +kernel
theorem i177_91 : ins 177 91 = some (.return_, 92, 0, 0) := by decide +kernel
theorem i178_0 : ins 178 0 = some (.aload_n 0, 1, 0, 0) := by decide +kernel
theorem i178_1 : ins 178 1 = some (.iconst (0), 2, 0, 0) := by decide +kernel
theorem i178_2 : ins 178 2 = some (.putfield 294, 5, 12, 45) := by decide +kernel
theorem i178_5 : ins 178 5 = some (.aload_n 0, 6, 0, 0) := by decide +kernel
theorem i178_6 : ins 178 6 = some (.getfield 225, 9, 12, 12) := by decide +kernel
theorem i178_9 : ins 178 9 = some (.istore_n 1, 10, 0, 0) := by decide +kernel
theorem i178_10 : ins 178 10 = some (.iconst (1), 11, 0, 1) := by decide +kernel
theorem i178_11 : ins 178 11 = some (.istore_n 2, 12, 0, 0) := by decide +kernel
theorem i178_12 : ins 178 12 = some (.iload_n 2, 13, 0, 0) := by decide +kernel
theorem i178_13 : ins 178 13 = some (.ifCond .eq (259), 16, 272, 0) := by decide +kernel
theorem i178_16 : ins 178 16 = some (.aload_n 0, 17, 0, 0) := by decide +kernel
theorem i178_17 : ins 178 17 = some (.getfield 198, 20, 12, 13) := by decide +kernel
theorem i178_20 : ins 178 20 = some (.ifCond .ne (252), 23, 272, 0) := by decide +kernel
theorem i178_23 : ins 178 23 = some (.aload_n 0, 24, 0, 0) := by decide +kernel
theorem i178_24 : ins 178 24 = some (.bipush (6), 26, 0, 6) := by decide +kernel
theorem i178_26 : ins 178 26 = some (.invokevirtual 216, 29, 157, 0) := by decide +kernel
theorem i178_29 : ins 178 29 = some (.ifCond .eq (55), 32, 84, 0) := by decide +kernel
theorem i178_32 : ins 178 32 = some (.aload_n 0, 33, 0, 0) := by decide +kernel
theorem i178_33 : ins 178 33 = some (.getfield 225, 36, 12, 12) := by decide +kernel
theorem i178_36 : ins 178 36 = some (.bipush (6), 38, 0, 6) := by decide +kernel
theorem i178_38 : ins 178 38 = some (.if_icmp .ne (8), 41, 46, 0) := by decide +kernel
theorem i178_41 : ins 178 41 = some (.aload_n 0, 42, 0, 0) := by decide +kernel
theorem i178_42 : ins 178 42 = some (.iconst (2), 43, 0, 2) := by decide +kernel
theorem i178_43 : ins 178 43 = some (.invokevirtual 213, 46, 158, 0) := by decide +kernel
theorem i178_46 : ins 178 46 = some (.aload_n 0, 47, 0, 0) := by decide +kernel
theorem i178_47 : ins 178 47 = some (.dup, 48, 0, 0) := by decide +kernel
theorem i178_48 : ins 178 48 = some (.getfield 225, 51, 12, 12) := by decide +kernel
theorem i178_51 : ins 178 51 = some (.iconst (1), 52, 0, 1) := by decide +kernel
theorem i178_52 : ins 178 52 = some (.iadd, 53, 0, 0) := by decide +kernel
theorem i178_53 : ins 178 53 = some (.putfield 225, 56, 12, 12) := by decide +kernel
theorem i178_56 : ins 178 56 = some (.aload_n 0, 57, 0, 0) := by decide +kernel
theorem i178_57 : ins 178 57 = some (.invokevirtual 219, 60, 160, 0) := by decide +kernel
theorem i178_60 : ins 178 60 = some (.aload_n 0, 61, 0, 0) := by decide +kernel
theorem i178_61 : ins 178 61 = some (.getfield 104, 64, 12, 44) := by decide +kernel
theorem i178_64 : ins 178 64 = some (.aload_n 0, 65, 0, 0) := by decide +kernel
theorem i178_65 : ins 178 65 = some (.getfield 294, 68, 12, 45) := by decide +kernel
theorem i178_68 : ins 178 68 = some (.bipush (6), 70, 0, 6) := by decide +kernel
theorem i178_70 : ins 178 70 = some (.iastore, 71, 0, 0) := by decide +kernel
theorem i178_71 : ins 178 71 = some (.aload_n 0, 72, 0, 0) := by decide +kernel
theorem i178_72 : ins 178 72 = some (.dup, 73, 0, 0) := by decide +kernel
theorem i178_73 : ins 178 73 = some (.getfield 294, 76, 12, 45) := by decide +kernel
theorem i178_76 : ins 178 76 = some (.iconst (1), 77, 0, 1) := by decide +kernel
theorem i178_77 : ins 178 77 = some (.iadd, 78, 0, 0) := by decide +kernel
theorem i178_78 : ins 178 78 = some (.putfield 294, 81, 12, 45) := by decide +kernel
theorem i178_81 : ins 178 81 = some (.goto (-58), 84, 23, 0) := by decide +kernel
theorem i178_84 : ins 178 84 = some (.aload_n 0, 85, 0, 0) := by decide +kernel
theorem i178_85 : ins 178 85 = some (.invokevirtual 300, 88, 179, 0) := by decide +kernel
theorem i178_88 : ins 178 88 = some (.aload_n 0, 89, 0, 0) := by decide +kernel
theorem i178_89 : ins 178 89 = some (.getfield 198, 92, 12, 13) := by decide +kernel
theorem i178_92 : ins 178 92 = some (.ifCond .le (4), 95, 96, 0) := by decide +kernel
theorem i178_95 : ins 178 95 = some (.return_, 96, 0, 0) := by decide +kernel
theorem i178_96 : ins 178 96 = some (.aload_n 0, 97, 0, 0) := by decide +kernel
theorem i178_97 : ins 178 97 = some (.bipush (7), 99, 0, 7) := by decide +kernel
theorem i178_99 : ins 178 99 = some (.invokevirtual 216, 102, 157, 0) := by decide +kernel
theorem i178_102 : ins 178 102 = some (.ifCond .eq (43), 105, 145, 0) := by decide +kernel
theorem i178_105 : ins 178 105 = some (.aload_n 0, 106, 0, 0) := by decide +kernel
theorem i178_106 : ins 178 106 = some (.getfield 225, 109, 12, 12) := by decide +kernel
theorem i178_109 : ins 178 109 = some (.iload_n 1, 110, 0, 0) := by decide +kernel
theorem i178_110 : ins 178 110 = some (.if_icmp .le (35), 113, 145, 0) := by decide +kernel
theorem i178_113 : ins 178 113 = some (.aload_n 0, 114, 0, 0) := by decide +kernel
theorem i178_114 : ins 178 114 = some (.iconst (0), 115, 0, 0) := by decide +kernel
theorem i178_115 : ins 178 115 = some (.invokevirtual 303, 118, 177, 0) := by decide +kernel
theorem i178_118 : ins 178 118 = some (.aload_n 0, 119, 0, 0) := by decide +kernel
theorem i178_119 : ins 178 119 = some (.dup, 120, 0, 0) := by decide +kernel
theorem i178_120 : ins 178 120 = some (.getfield 294, 123, 12, 45) := by decide +kernel
theorem i178_123 : ins 178 123 = some (.iconst (1), 124, 0, 1) := by decide +kernel
theorem i178_124 : ins 178 124 = some (.isub, 125, 0, 0) := by decide +kernel
theorem i178_125 : ins 178 125 = some (.putfield 294, 128, 12, 45) := by decide +kernel
theorem i178_128 : ins 178 128 = some (.aload_n 0, 129, 0, 0) := by decide +kernel
theorem i178_129 : ins 178 129 = some (.dup, 130, 0, 0) := by decide +kernel
theorem i178_130 : ins 178 130 = some (.getfield 225, 133, 12, 12) := by decide +kernel
theorem i178_133 : ins 178 133 = some (.iconst (1), 134, 0, 1) := by decide +kernel
theorem i178_134 : ins 178 134 = some (.isub, 135, 0, 0) := by decide +kernel
theorem i178_135 : ins 178 135 = some (.putfield 225, 138, 12, 12) := by decide +kernel
theorem i178_138 : ins 178 138 = some (.aload_n 0, 139, 0, 0) := by decide +kernel
theorem i178_139 : ins 178 139 = some (.invokevirtual 219, 142, 160, 0) := by decide +kernel
theorem i178_142 : ins 178 142 = some (.goto (-46), 145, 96, 0) := by decide +kernel
theorem i178_145 : ins 178 145 = some (.aload_n 0, 146, 0, 0) := by decide +kernel
theorem i178_146 : ins 178 146 = some (.bipush (8), 148, 0, 8) := by decide +kernel
theorem i178_148 : ins 178 148 = some (.invokevirtual 216, 151, 157, 0) := by decide +kernel
theorem i178_151 : ins 178 151 = some (.ifCond .ne (30), 154, 181, 0) := by decide +kernel
theorem i178_154 : ins 178 154 = some (.aload_n 0, 155, 0, 0) := by decide +kernel
theorem i178_155 : ins 178 155 = some (.bipush (9), 157, 0, 9) := by decide +kernel
theorem i178_157 : ins 178 157 = some (.invokevirtual 216, 160, 157, 0) := by decide +kernel
theorem i178_160 : ins 178 160 = some (.ifCond .ne (21), 163, 181, 0) := by decide +kernel
theorem i178_163 : ins 178 163 = some (.aload_n 0, 164, 0, 0) := by decide +kernel
theorem i178_164 : ins 178 164 = some (.bipush (10), 166, 0, 10) := by decide +kernel
theorem i178_166 : ins 178 166 = some (.invokevirtual 216, 169, 157, 0) := by decide +kernel
theorem i178_169 : ins 178 169 = some (.ifCond .ne (12), 172, 181, 0) := by decide +kernel
theorem i178_172 : ins 178 172 = some (.aload_n 0, 173, 0, 0) := by decide +kernel
theorem i178_173 : ins 178 173 = some (.bipush (15), 175, 0, 15) := by decide +kernel
theorem i178_175 : ins 178 175 = some (.invokevirtual 216, 178, 157, 0) := by decide +kernel
theorem i178_178 : ins 178 178 = some (.ifCond .eq (7), 181, 185, 0) := by decide +kernel
theorem i178_181 : ins 178 181 = some (.iconst (1), 182, 0, 1) := by decide +kernel
theorem i178_182 : ins 178 182 = some (.goto (4), 185, 186, 0) := by decide +kernel
theorem i178_185 : ins 178 185 = some (.iconst (0), 186, 0, 0) := by decide +kernel
theorem i178_186 : ins 178 186 = some (.istore_n 2, 187, 0, 0) := by decide +kernel
theorem i178_187 : ins 178 187 = some (.iload_n 2, 188, 0, 0) := by decide +kernel
theorem i178_188 : ins 178 188 = some (.ifCond .ne (22), 191, 210, 0) := by decide +kernel
theorem i178_191 : ins 178 191 = some (.aload_n 0, 192, 0, 0) := by decide +kernel
theorem i178_192 : ins 178 192 = some (.getfield 225, 195, 12, 12) := by decide +kernel
theorem i178_195 : ins 178 195 = some (.iload_n 1, 196, 0, 0) := by decide +kernel
theorem i178_196 : ins 178 196 = some (.if_icmp .le (8), 199, 204, 0) := by decide +kernel
theorem i178_199 : ins 178 199 = some (.aload_n 0, 200, 0, 0) := by decide +kernel
theorem i178_200 : ins 178 200 = some (.iconst (1), 201, 0, 1) := by decide +kernel
theorem i178_201 : ins 178 201 = some (.invokevirtual 213, 204, 158, 0) := by decide +kernel
theorem i178_204 : ins 178 204 = some (.aload_n 0, 205, 0, 0) := by decide +kernel
theorem i178_205 : ins 178 205 = some (.iconst (0), 206, 0, 0) := by decide +kernel
theorem i178_206 : ins 178 206 = some (.invokevirtual 303, 209, 177, 0) := by decide +kernel
theorem i178_209 : ins 178 209 = some (.return_, 210, 0, 0) := by decide +kernel
theorem i178_210 : ins 178 210 = some (.aload_n 0, 211, 0, 0) := by decide +kernel
theorem i178_211 : ins 178 211 = some (.aload_n 0, 212, 0, 0) := by decide +kernel
theorem i178_212 : ins 178 212 = some (.bipush (10), 214, 0, 10) := by decide +kernel
theorem i178_214 : ins 178 214 = some (.invokevirtual 216, 217, 157, 0) := by decide +kernel
theorem i178_217 : ins 178 217 = some (.ifCond .ne (12), 220, 229, 0) := by decide +kernel
theorem i178_220 : ins 178 220 = some (.aload_n 0, 221, 0, 0) := by decide +kernel
theorem i178_221 : ins 178 221 = some (.bipush (15), 223, 0, 15) := by decide +kernel
theorem i178_223 : ins 178 223 = some (.invokevirtual 216, 226, 157, 0) := by decide +kernel
theorem i178_226 : ins 178 226 = some (.ifCond .eq (7), 229, 233, 0) := by decide +kernel
theorem i178_229 : ins 178 229 = some (.iconst (1), 230, 0, 1) := by decide +kernel
theorem i178_230 : ins 178 230 = some (.goto (4), 233, 234, 0) := by decide +kernel
theorem i178_233 : ins 178 233 = some (.iconst (0), 234, 0, 0) := by decide +kernel
theorem i178_234 : ins 178 234 = some (.invokevirtual 303, 237, 177, 0) := by decide +kernel
theorem i178_237 : ins 178 237 = some (.aload_n 0, 238, 0, 0) := by decide +kernel
theorem i178_238 : ins 178 238 = some (.getfield 104, 241, 12, 44) := by decide +kernel
theorem i178_241 : ins 178 241 = some (.aload_n 0, 242, 0, 0) := by decide +kernel
theorem i178_242 : ins 178 242 = some (.getfield 294, 245, 12, 45) := by decide +kernel
theorem i178_245 : ins 178 245 = some (.aload_n 0, 246, 0, 0) := by decide +kernel
theorem i178_246 : ins 178 246 = some (.getfield 20, 249, 12, 5) := by decide +kernel
theorem i178_249 : ins 178 249 = some (.aload_n 0, 250, 0, 0) := by decide +kernel
theorem i178_250 : ins 178 250 = some (.getfield 201, 253, 12, 11) := by decide +kernel
theorem i178_253 : ins 178 253 = some (.iaload, 254, 0, 0) := by decide +kernel
theorem i178_254 : ins 178 254 = some (.iastore, 255, 0, 0) := by decide +kernel
theorem i178_255 : ins 178 255 = some (.aload_n 0, 256, 0, 0) := by decide +kernel
theorem i178_256 : ins 178 256 = some (.dup, 257, 0, 0) := by decide +kernel
theorem i178_257 : ins 178 257 = some (.getfield 294, 260, 12, 45) := by decide +kernel
theorem i178_260 : ins 178 260 = some (.iconst (1), 261, 0, 1) := by decide +kernel
theorem i178_261 : ins 178 261 = some (.iadd, 262, 0, 0) := by decide +kernel
theorem i178_262 : ins 178 262 = some (.putfield 294, 265, 12, 45) := by decide +kernel
theorem i178_265 : ins 178 265 = some (.aload_n 0, 266, 0, 0) := by decide +kernel
theorem i178_266 : ins 178 266 = some (.invokevirtual 219, 269, 160, 0) := by decide +kernel
theorem i178_269 : ins 178 269 = some (.goto (-257), 272, 12, 0) := by decide +kernel
theorem i178_272 : ins 178 272 = some (.return_, 273, 0, 0) := by decide +kernel
theorem i179_0 : ins 179 0 = some (.aload_n 0, 1, 0, 0) := by decide +kernel
theorem i179_1 : ins 179 1 = some (.iconst (2), 2, 0, 2) := by decide +kernel
theorem i179_2 : ins 179 2 = some (.invokevirtual 216, 5, 157, 0) := by decide +kernel
theorem i179_5 : ins 179 5 = some (.ifCond .eq (24), 8, 29, 0) := by decide +kernel
theorem i179_8 : ins 179 8 = some (.aload_n 0, 9, 0, 0) := by decide +kernel
theorem i179_9 : ins 179 9 = some (.iconst (0), 10, 0, 0) := by decide +kernel
theorem i179_10 : ins 179 10 = some (.aload_n 0, 11, 0, 0) := by decide +kernel
theorem i179_11 : ins 179 11 = some (.getfield 27, 14, 12, 7) := by decide +kernel
theorem i179_14 : ins 179 14 = some (.aload_n 0, 15, 0, 0) := by decide +kernel
theorem i179_15 : ins 179 15 = some (.getfield 201, 18, 12, 11) := by decide +kernel
theorem i179_18 : ins 179 18 = some (.iaload, 19, 0, 0) := by decide +kernel
theorem i179_19 : ins 179 19 = some (.invokevirtual 297, 22, 176, 0) := by decide +kernel
theorem i179_22 : ins 179 22 = some (.aload_n 0, 23, 0, 0) := by decide +kernel
theorem i179_23 : ins 179 23 = some (.invokevirtual 219, 26, 160, 0) := by decide +kernel
theorem i179_26 : ins 179 26 = some (.goto (104), 29, 130, 0) := by decide +kernel
theorem i179_29 : ins 179 29 = some (.aload_n 0, 30, 0, 0) := by decide +kernel
theorem i179_30 : ins 179 30 = some (.getfield 198, 33, 12, 13) := by decide +kernel
theorem i179_33 : ins 179 33 = some (.ifCond .ne (92), 36, 125, 0) := by decide +kernel
theorem i179_36 : ins 179 36 = some (.aload_n 0, 37, 0, 0) := by decide +kernel
theorem i179_37 : ins 179 37 = some (.getfield 20, 40, 12, 5) := by decide +kernel
theorem i179_40 : ins 179 40 = some (.aload_n 0, 41, 0, 0) := by decide +kernel
theorem i179_41 : ins 179 41 = some (.getfield 201, 44, 12, 11) := by decide +kernel
theorem i179_44 : ins 179 44 = some (.iaload, 45, 0, 0) := by decide +kernel
theorem i179_45 : ins 179 45 = some (.bipush (31), 47, 0, 31) := by decide +kernel
theorem i179_47 : ins 179 47 = some (.if_icmp .lt (17), 50, 64, 0) := by decide +kernel
theorem i179_50 : ins 179 50 = some (.aload_n 0, 51, 0, 0) := by decide +kernel
theorem i179_51 : ins 179 51 = some (.getfield 20, 54, 12, 5) := by decide +kernel
theorem i179_54 : ins 179 54 = some (.aload_n 0, 55, 0, 0) := by decide +kernel
theorem i179_55 : ins 179 55 = some (.getfield 201, 58, 12, 11) := by decide +kernel
theorem i179_58 : ins 179 58 = some (.iaload, 59, 0, 0) := by decide +kernel
theorem i179_59 : ins 179 59 = some (.bipush (36), 61, 0, 36) := by decide +kernel
theorem i179_61 : ins 179 61 = some (.if_icmp .le (12), 64, 73, 0) := by decide +kernel
theorem i179_64 : ins 179 64 = some (.aload_n 0, 65, 0, 0) := by decide +kernel
theorem i179_65 : ins 179 65 = some (.bipush (20), 67, 0, 20) := by decide +kernel
theorem i179_67 : ins 179 67 = some (.invokevirtual 216, 70, 157, 0) := by decide +kernel
theorem i179_70 : ins 179 70 = some (.ifCond .eq (55), 73, 125, 0) := by decide +kernel
theorem i179_73 : ins 179 73 = some (.aload_n 0, 74, 0, 0) := by decide +kernel
theorem i179_74 : ins 179 74 = some (.iconst (1), 75, 0, 1) := by decide +kernel
theorem i179_75 : ins 179 75 = some (.aload_n 0, 76, 0, 0) := by decide +kernel
theorem i179_76 : ins 179 76 = some (.bipush (20), 78, 0, 20) := by decide +kernel
theorem i179_78 : ins 179 78 = some (.invokevirtual 216, 81, 157, 0) := by decide +kernel
theorem i179_81 : ins 179 81 = some (.ifCond .eq (7), 84, 88, 0) := by decide +kernel
theorem i179_84 : ins 179 84 = some (.iconst (1), 85, 0, 1) := by decide +kernel
theorem i179_85 : ins 179 85 = some (.goto (30), 88, 115, 0) := by decide +kernel
theorem i179_88 : ins 179 88 = some (.aload_n 0, 89, 0, 0) := by decide +kernel
theorem i179_89 : ins 179 89 = some (.bipush (31), 91, 0, 31) := by decide +kernel
theorem i179_91 : ins 179 91 = some (.invokevirtual 216, 94, 157, 0) := by decide +kernel
theorem i179_94 : ins 179 94 = some (.ifCond .eq (7), 97, 101, 0) := by decide +kernel
theorem i179_97 : ins 179 97 = some (.iconst (0), 98, 0, 0) := by decide +kernel
theorem i179_98 : ins 179 98 = some (.goto (17), 101, 115, 0) := by decide +kernel
theorem i179_101 : ins 179 101 = some (.aload_n 0, 102, 0, 0) := by decide +kernel
theorem i179_102 : ins 179 102 = some (.getfield 20, 105, 12, 5) := by decide +kernel
theorem i179_105 : ins 179 105 = some (.aload_n 0, 106, 0, 0) := by decide +kernel
theorem i179_106 : ins 179 106 = some (.getfield 201, 109, 12, 11) := by decide +kernel
theorem i179_109 : ins 179 109 = some (.iaload, 110, 0, 0) := by decide +kernel
theorem i179_110 : ins 179 110 = some (.bipush (32), 112, 0, 32) := by decide +kernel
theorem i179_112 : ins 179 112 = some (.isub, 113, 0, 0) := by decide +kernel
theorem i179_113 : ins 179 113 = some (.iconst (2), 114, 0, 2) := by decide +kernel
theorem i179_114 : ins 179 114 = some (.iadd, 115, 0, 0) := by decide +kernel
theorem i179_115 : ins 179 115 = some (.invokevirtual 297, 118, 176, 0) := by decide +kernel
theorem i179_118 : ins 179 118 = some (.aload_n 0, 119, 0, 0) := by decide +kernel
theorem i179_119 : ins 179 119 = some (.invokevirtual 219, 122, 160, 0) := by decide +kernel
theorem i179_122 : ins 179 122 = some (.goto (8), 125, 130, 0) := by decide +kernel
theorem i179_125 : ins 179 125 = some (.aload_n 0, 126, 0, 0) := by decide +kernel
theorem i179_126 : ins 179 126 = some (.iconst (1), 127, 0, 1) := by decide +kernel
theorem i179_127 : ins 179 127 = some (.invokevirtual 213, 130, 158, 0) := by decide +kernel
theorem i179_130 : ins 179 130 = some (.return_, 131, 0, 0) := by decide +kernel
theorem i180_0 : ins 180 0 = some (.iconst (0), 1, 0, 0) := by decide +kernel
theorem i180_1 : ins 180 1 = some (.istore_n 3, 2, 0, 0) := by decide +kernel
theorem i180_2 : ins 180 2 = some (.iload_n 1, 3, 0, 0) := by decide +kernel
theorem i180_3 : ins 180 3 = some (.istore 4, 5, 0, 0) := by decide +kernel
theorem i180_5 : ins 180 5 = some (.iload 4, 7, 0, 0) := by decide +kernel
theorem i180_7 : ins 180 7 = some (.iload_n 2, 8, 0, 0) := by decide +kernel
theorem i180_8 : ins 180 8 = some (.if_icmp .ge (157), 11, 165, 0) := by decide +kernel
theorem i180_11 : ins 180 11 = some (.aload_n 0, 12, 0, 0) := by decide +kernel
theorem i180_12 : ins 180 12 = some (.getfield 98, 15, 12, 42) := by decide +kernel
theorem i180_15 : ins 180 15 = some (.iload 4, 17, 0, 0) := by decide +kernel
theorem i180_17 : ins 180 17 = some (.iaload, 18, 0, 0) := by decide +kernel
theorem i180_18 : ins 180 18 = some (.istore 5, 20, 0, 0) := by decide +kernel
theorem i180_20 : ins 180 20 = some (.iload 5, 22, 0, 0) := by decide +kernel
theorem i180_22 : ins 180 22 = some (.iconst (2), 23, 0, 2) := by decide +kernel
theorem i180_23 : ins 180 23 = some (.if_icmp .ge (42), 26, 65, 0) := by decide +kernel
theorem i180_26 : ins 180 26 = some (.aload_n 0, 27, 0, 0) := by decide +kernel
theorem i180_27 : ins 180 27 = some (.getfield 110, 30, 12, 47) := by decide +kernel
theorem i180_30 : ins 180 30 = some (.iload_n 3, 31, 0, 0) := by decide +kernel
theorem i180_31 : ins 180 31 = some (.iload 5, 33, 0, 0) := by decide +kernel
theorem i180_33 : ins 180 33 = some (.ifCond .ne (13), 36, 46, 0) := by decide +kernel
theorem i180_36 : ins 180 36 = some (.aload_n 0, 37, 0, 0) := by decide +kernel
theorem i180_37 : ins 180 37 = some (.getfield 101, 40, 12, 43) := by decide +kernel
theorem i180_40 : ins 180 40 = some (.iload 4, 42, 0, 0) := by decide +kernel
theorem i180_42 : ins 180 42 = some (.iaload, 43, 0, 0) := by decide +kernel
theorem i180_43 : ins 180 43 = some (.goto (15), 46, 58, 0) := by decide +kernel
theorem i180_46 : ins 180 46 = some (.aload_n 0, 47, 0, 0) := by decide +kernel
theorem i180_47 : ins 180 47 = some (.getfield 107, 50, 12, 46) := by decide +kernel
theorem i180_50 : ins 180 50 = some (.aload_n 0, 51, 0, 0) := by decide +kernel
theorem i180_51 : ins 180 51 = some (.getfield 101, 54, 12, 43) := by decide +kernel
theorem i180_54 : ins 180 54 = some (.iload 4, 56, 0, 0) := by decide +kernel
theorem i180_56 : ins 180 56 = some (.iaload, 57, 0, 0) := by decide +kernel
theorem i180_57 : ins 180 57 = some (.iaload, 58, 0, 0) := by decide +kernel
theorem i180_58 : ins 180 58 = some (.iastore, 59, 0, 0) := by decide +kernel
theorem i180_59 : ins 180 59 = some (.iinc 3 (1), 62, 0, 1) := by decide +kernel
theorem i180_62 : ins 180 62 = some (.goto (97), 65, 159, 0) := by decide +kernel
theorem i180_65 : ins 180 65 = some (.iinc 3 (-1), 68, 0, -1) := by decide +kernel
theorem i180_68 : ins 180 68 = some (.aload_n 0, 69, 0, 0) := by decide +kernel
theorem i180_69 : ins 180 69 = some (.getfield 110, 72, 12, 47) := by decide +kernel
theorem i180_72 : ins 180 72 = some (.iload_n 3, 73, 0, 0) := by decide +kernel
theorem i180_73 : ins 180 73 = some (.iconst (1), 74, 0, 1) := by decide +kernel
theorem i180_74 : ins 180 74 = some (.isub, 75, 0, 0) := by decide +kernel
theorem i180_75 : ins 180 75 = some (.iaload, 76, 0, 0) := by decide +kernel
theorem i180_76 : ins 180 76 = some (.istore 6, 78, 0, 0) := by decide +kernel
theorem i180_78 : ins 180 78 = some (.aload_n 0, 79, 0, 0) := by decide +kernel
theorem i180_79 : ins 180 79 = some (.getfield 110, 82, 12, 47) := by decide +kernel
theorem i180_82 : ins 180 82 = some (.iload_n 3, 83, 0, 0) := by decide +kernel
theorem i180_83 : ins 180 83 = some (.iaload, 84, 0, 0) := by decide +kernel
theorem i180_84 : ins 180 84 = some (.istore 7, 86, 0, 0) := by decide +kernel
theorem i180_86 : ins 180 86 = some (.iload 5, 88, 0, 0) := by decide +kernel
theorem i180_88 : ins 180 88 = some (.iconst (5), 89, 0, 5) := by decide +kernel
theorem i180_89 : ins 180 89 = some (.if_icmp .ne (15), 92, 104, 0) := by decide +kernel
theorem i180_92 : ins 180 92 = some (.iload 7, 94, 0, 0) := by decide +kernel
theorem i180_94 : ins 180 94 = some (.ifCond .ne (10), 97, 104, 0) := by decide +kernel
theorem i180_97 : ins 180 97 = some (.aload_n 0, 98, 0, 0) := by decide +kernel
theorem i180_98 : ins 180 98 = some (.iconst (1), 99, 0, 1) := by decide +kernel
theorem i180_99 : ins 180 99 = some (.putfield 307, 102, 12, 48) := by decide +kernel
theorem i180_102 : ins 180 102 = some (.iconst (0), 103, 0, 0) := by decide +kernel
theorem i180_103 : ins 180 103 = some (.ireturn, 104, 0, 0) := by decide +kernel
theorem i180_104 : ins 180 104 = some (.aload_n 0, 105, 0, 0) := by decide +kernel
theorem i180_105 : ins 180 105 = some (.getfield 110, 108, 12, 47) := by decide +kernel
theorem i180_108 : ins 180 108 = some (.iload_n 3, 109, 0, 0) := by decide +kernel
theorem i180_109 : ins 180 109 = some (.iconst (1), 110, 0, 1) := by decide +kernel
theorem i180_110 : ins 180 110 = some (.isub, 111, 0, 0) := by decide +kernel
theorem i180_111 : ins 180 111 = some (.iload 5, 113, 0, 0) := by decide +kernel
theorem i180_113 : ins 180 113 = some (.iconst (2), 114, 0, 2) := by decide +kernel
theorem i180_114 : ins 180 114 = some (.if_icmp .ne (11), 117, 125, 0) := by decide +kernel
theorem i180_117 : ins 180 117 = some (.iload 6, 119, 0, 0) := by decide +kernel
theorem i180_119 : ins 180 119 = some (.iload 7, 121, 0, 0) := by decide +kernel
theorem i180_121 : ins 180 121 = some (.iadd, 122, 0, 0) := by decide +kernel
theorem i180_122 : ins 180 122 = some (.goto (36), 125, 158, 0) := by decide +kernel
theorem i180_125 : ins 180 125 = some (.iload 5, 127, 0, 0) := by decide +kernel
theorem i180_127 : ins 180 127 = some (.iconst (3), 128, 0, 3) := by decide +kernel
theorem i180_128 : ins 180 128 = some (.if_icmp .ne (11), 131, 139, 0) := by decide +kernel
theorem i180_131 : ins 180 131 = some (.iload 6, 133, 0, 0) := by decide +kernel
theorem i180_133 : ins 180 133 = some (.iload 7, 135, 0, 0) := by decide +kernel
theorem i180_135 : ins 180 135 = some (.isub, 136, 0, 0) := by decide +kernel
theorem i180_136 : ins 180 136 = some (.goto (22), 139, 158, 0) := by decide +kernel
theorem i180_139 : ins 180 139 = some (.iload 5, 141, 0, 0) := by decide +kernel
theorem i180_141 : ins 180 141 = some (.iconst (4), 142, 0, 4) := by decide +kernel
theorem i180_142 : ins 180 142 = some (.if_icmp .ne (11), 145, 153, 0) := by decide +kernel
theorem i180_145 : ins 180 145 = some (.iload 6, 147, 0, 0) := by decide +kernel
theorem i180_147 : ins 180 147 = some (.iload 7, 149, 0, 0) := by decide +kernel
theorem i180_149 : ins 180 149 = some (.imul, 150, 0, 0) := by decide +kernel
theorem i180_150 : ins 180 150 = some (.goto (8), 153, 158, 0) := by decide +kernel
theorem i180_153 : ins 180 153 = some (.iload 6, 155, 0, 0) := by decide +kernel
theorem i180_155 : ins 180 155 = some (.iload 7, 157, 0, 0) := by decide +kernel
theorem i180_157 : ins 180 157 = some (.idiv, 158, 0, 0) := by decide +kernel
theorem i180_158 : ins 180 158 = some (.iastore, 159, 0, 0) := by decide +kernel
theorem i180_159 : ins 180 159 = some (.iinc 4 (1), 162, 0, 1) := by decide +kernel
theorem i180_162 : ins 180 162 = some (.goto (-157), 165, 5, 0) := by decide +kernel
theorem i180_165 : ins 180 165 = some (.aload_n 0, 166, 0, 0) := by decide +kernel
theorem i180_166 : ins 180 166 = some (.getfield 110, 169, 12, 47) := by decide +kernel
theorem i180_169 : ins 180 169 = some (.iconst (0), 170, 0, 0) := by decide +kernel
theorem i180_170 : ins 180 170 = some (.iaload, 171, 0, 0) := by decide +kernel
theorem i180_171 : ins 180 171 = some (.ireturn, 172, 0, 0) := by decide +kernel
theorem i181_0 : ins 181 0 = some (.iload_n 0, 1, 0, 0) := by decide +kernel
theorem i181_1 : ins 181 1 = some (.iload_n 1, 2, 0, 0) := by decide +kernel
theorem i181_2 : ins 181 2 = some (.if_icmp .lt (12), 5, 14, 0) := by decide +kernel
theorem i181_5 : ins 181 5 = some (.iload_n 0, 6, 0, 0) := by decide +kernel
theorem i181_6 : ins 181 6 = some (.iload_n 2, 7, 0, 0) := by decide +kernel
theorem i181_7 : ins 181 7 = some (.if_icmp .gt (7), 10, 14, 0) := by decide +kernel
theorem i181_10 : ins 181 10 = some (.iconst (1), 11, 0, 1) := by decide +kernel
theorem i181_11 : ins 181 11 = some (.goto (4), 14, 15, 0) := by decide +kernel
theorem i181_14 : ins 181 14 = some (.iconst (0), 15, 0, 0) := by decide +kernel
theorem i181_15 : ins 181 15 = some (.ireturn, 16, 0, 0) := by decide +kernel
theorem i182_0 : ins 182 0 = some (.iload_n 1, 1, 0, 0) := by decide +kernel
theorem i182_1 : ins 182 1 = some (.iconst (0), 2, 0, 0) := by decide +kernel
theorem i182_2 : ins 182 2 = some (.aload_n 0, 3, 0, 0) := by decide +kernel
theorem i182_3 : ins 182 3 = some (.getfield 46, 6, 12, 23) := by decide +kernel
theorem i182_6 : ins 182 6 = some (.aload_n 0, 7, 0, 0) := by decide +kernel
theorem i182_7 : ins 182 7 = some (.getfield 228, 10, 12, 18) := by decide +kernel
theorem i182_10 : ins 182 10 = some (.iaload, 11, 0, 0) := by decide +kernel
theorem i182_11 : ins 182 11 = some (.iconst (1), 12, 0, 1) := by decide +kernel
theorem i182_12 : ins 182 12 = some (.isub, 13, 0, 0) := by decide +kernel
theorem i182_13 : ins 182 13 = some (.invokestatic 311, 16, 181, 0) := by decide +kernel
theorem i182_16 : ins 182 16 = some (.ireturn, 17, 0, 0) := by decide +kernel
theorem i183_0 : ins 183 0 = some (.iload_n 1, 1, 0, 0) := by decide +kernel
theorem i183_1 : ins 183 1 = some (.iconst (0), 2, 0, 0) := by decide +kernel
theorem i183_2 : ins 183 2 = some (.aload_n 0, 3, 0, 0) := by decide +kernel
theorem i183_3 : ins 183 3 = some (.getfield 52, 6, 12, 25) := by decide +kernel
theorem i183_6 : ins 183 6 = some (.aload_n 0, 7, 0, 0) := by decide +kernel
theorem i183_7 : ins 183 7 = some (.getfield 228, 10, 12, 18) := by decide +kernel
theorem i183_10 : ins 183 10 = some (.iaload, 11, 0, 0) := by decide +kernel
theorem i183_11 : ins 183 11 = some (.iconst (1), 12, 0, 1) := by decide +kernel
theorem i183_12 : ins 183 12 = some (.isub, 13, 0, 0) := by decide +kernel
theorem i183_13 : ins 183 13 = some (.invokestatic 311, 16, 181, 0) := by decide +kernel
theorem i183_16 : ins 183 16 = some (.ireturn, 17, 0, 0) := by decide +kernel
theorem i184_0 : ins 184 0 = some (.iload_n 1, 1, 0, 0) := by decide +kernel
theorem i184_1 : ins 184 1 = some (.iconst (0), 2, 0, 0) := by decide +kernel
theorem i184_2 : ins 184 2 = some (.aload_n 0, 3, 0, 0) := by decide +kernel
theorem i184_3 : ins 184 3 = some (.getfield 64, 6, 12, 29) := by decide +kernel
theorem i184_6 : ins 184 6 = some (.aload_n 0, 7, 0, 0) := by decide +kernel
theorem i184_7 : ins 184 7 = some (.getfield 228, 10, 12, 18) := by decide +kernel
theorem i184_10 : ins 184 10 = some (.iaload, 11, 0, 0) := by decide +kernel
theorem i184_11 : ins 184 11 = some (.iconst (1), 12, 0, 1) := by decide +kernel
theorem i184_12 : ins 184 12 = some (.isub, 13, 0, 0) := by decide +kernel
theorem i184_13 : ins 184 13 = some (.invokestatic 311, 16, 181, 0) := by decide +kernel
theorem i184_16 : ins 184 16 = some (.ireturn, 17, 0, 0) := by decide +kernel
theorem i186_0 : ins 186 0 = some (.aload_n 0, 1, 0, 0) := by decide +kernel
theorem i186_1 : ins 186 1 = some (.aload_n 0, 2, 0, 0) := by decide +kernel
theorem i186_2 : ins 186 2 = some (.getfield 73, 5, 12, 32) := by decide +kernel
theorem i186_5 : ins 186 5 = some (.aload_n 0, 6, 0, 0) := by decide +kernel
theorem i186_6 : ins 186 6 = some (.getfield 228, 9, 12, 18) := by decide +kernel
theorem i186_9 : ins 186 9 = some (.iaload, 10, 0, 0) := by decide +kernel
theorem i186_10 : ins 186 10 = some (.putfield 315, 13, 12, 51) := by decide +kernel
theorem i186_13 : ins 186 13 = some (.aload_n 0, 14, 0, 0) := by decide +kernel
theorem i186_14 : ins 186 14 = some (.iconst (-1), 15, 0, -1) := by decide +kernel
theorem i186_15 : ins 186 15 = some (.putfield 318, 18, 12, 52) := by decide +kernel
theorem i186_18 : ins 186 18 = some (.aload_n 0, 19, 0, 0) := by decide +kernel
theorem i186_19 : ins 186 19 = some (.iconst (-1), 20, 0, -1) := by decide +kernel
theorem i186_20 : ins 186 20 = some (.putfield 321, 23, 12, 53) := by decide +kernel
theorem i186_23 : ins 186 23 = some (.aload_n 0, 24, 0, 0) := by decide +kernel
theorem i186_24 : ins 186 24 = some (.iconst (-1), 25, 0, -1) := by decide +kernel
theorem i186_25 : ins 186 25 = some (.putfield 324, 28, 12, 54) := by decide +kernel
theorem i186_28 : ins 186 28 = some (.aload_n 0, 29, 0, 0) := by decide +kernel
theorem i186_29 : ins 186 29 = some (.iconst (-1), 30, 0, -1) := by decide +kernel
theorem i186_30 : ins 186 30 = some (.putfield 327, 33, 12, 55) := by decide +kernel
theorem i186_33 : ins 186 33 = some (.return_, 34, 0, 0) := by decide +kernel
theorem i187_0 : ins 187 0 = some (.iconst (0), 1, 0, 0) := by decide +kernel
theorem i187_1 : ins 187 1 = some (.istore_n 1, 2, 0, 0) := by decide +kernel
theorem i187_2 : ins 187 2 = some (.iload_n 1, 3, 0, 0) := by decide +kernel
theorem i187_3 : ins 187 3 = some (.bipush (60), 5, 0, 60) := by decide +kernel
theorem i187_5 : ins 187 5 = some (.if_icmp .ge (21), 8, 26, 0) := by decide +kernel
theorem i187_8 : ins 187 8 = some (.aload_n 0, 9, 0, 0) := by decide +kernel
theorem i187_9 : ins 187 9 = some (.getfield 116, 12, 12, 50) := by decide +kernel
theorem i187_12 : ins 187 12 = some (.iload_n 1, 13, 0, 0) := by decide +kernel
theorem i187_13 : ins 187 13 = some (.aload_n 0, 14, 0, 0) := by decide +kernel
theorem i187_14 : ins 187 14 = some (.getfield 113, 17, 12, 49) := by decide +kernel
theorem i187_17 : ins 187 17 = some (.iload_n 1, 18, 0, 0) := by decide +kernel
theorem i187_18 : ins 187 18 = some (.iaload, 19, 0, 0) := by decide +kernel
theorem i187_19 : ins 187 19 = some (.iastore, 20, 0, 0) := by decide +kernel
theorem i187_20 : ins 187 20 = some (.iinc 1 (1), 23, 0, 1) := by decide +kernel
theorem i187_23 : ins 187 23 = some (.goto (-21), 26, 2, 0) := by decide +kernel
theorem i187_26 : ins 187 26 = some (.aload_n 0, 27, 0, 0) := by decide +kernel
theorem i187_27 : ins 187 27 = some (.invokevirtual 330, 30, 186, 0) := by decide +kernel
theorem i187_30 : ins 187 30 = some (.return_, 31, 0, 0) := by decide +kernel
theorem i188_0 : ins 188 0 = some (.iconst (0), 1, 0, 0) := by decide +kernel
theorem i188_1 : ins 188 1 = some (.istore_n 1, 2, 0, 0) := by decide +kernel
theorem i188_2 : ins 188 2 = some (.iload_n 1, 3, 0, 0) := by decide +kernel
theorem i188_3 : ins 188 3 = some (.sipush (2860), 6, 0, 2860) := by decide +kernel
theorem i188_6 : ins 188 6 = some (.if_icmp .ge (21), 9, 27, 0) := by decide +kernel
theorem i188_9 : ins 188 9 = some (.aload_n 0, 10, 0, 0) := by decide +kernel
theorem i188_10 : ins 188 10 = some (.getfield 116, 13, 12, 50) := by decide +kernel
theorem i188_13 : ins 188 13 = some (.iload_n 1, 14, 0, 0) := by decide +kernel
theorem i188_14 : ins 188 14 = some (.aload_n 0, 15, 0, 0) := by decide +kernel
theorem i188_15 : ins 188 15 = some (.getfield 113, 18, 12, 49) := by decide +kernel
theorem i188_18 : ins 188 18 = some (.iload_n 1, 19, 0, 0) := by decide +kernel
theorem i188_19 : ins 188 19 = some (.iaload, 20, 0, 0) := by decide +kernel
theorem i188_20 : ins 188 20 = some (.iastore, 21, 0, 0) := by decide +kernel
theorem i188_21 : ins 188 21 = some (.iinc 1 (1), 24, 0, 1) := by decide +kernel
theorem i188_24 : ins 188 24 = some (.goto (-22), 27, 2, 0) := by decide +kernel
theorem i188_27 : ins 188 27 = some (.aload_n 0, 28, 0, 0) := by decide +kernel
theorem i188_28 : ins 188 28 = some (.invokevirtual 330, 31, 186, 0) := by decide +kernel
theorem i188_31 : ins 188 31 = some (.return_, 32, 0, 0) := by decide +kernel
theorem i189_0 : ins 189 0 = some (.iload_n 0, 1, 0, 0) := by decide +kernel
theorem i189_1 : ins 189 1 = some (.iload_n 1, 2, 0, 0) := by decide +kernel
theorem i189_2 : ins 189 2 = some (.ixor, 3, 0, 0) := by decide +kernel
theorem i189_3 : ins 189 3 = some (.ldc_w 333, 6, 0, 1103515245) := by decide +kernel
theorem i189_6 : ins 189 6 = some (.imul, 7, 0, 0) := by decide +kernel
theorem i189_7 : ins 189 7 = some (.sipush (12345), 10, 0, 12345) := by decide +kernel
theorem i189_10 : ins 189 10 = some (.iadd, 11, 0, 0) := by decide +kernel
theorem i189_11 : ins 189 11 = some (.istore_n 2, 12, 0, 0) := by decide +kernel
theorem i189_12 : ins 189 12 = some (.iload_n 2, 13, 0, 0) := by decide +kernel
theorem i189_13 : ins 189 13 = some (.iload_n 2, 14, 0, 0) := by decide +kernel
theorem i189_14 : ins 189 14 = some (.bipush (15), 16, 0, 15) := by decide +kernel
theorem i189_16 : ins 189 16 = some (.iushr, 17, 0, 0) := by decide +kernel
theorem i189_17 : ins 189 17 = some (.ixor, 18, 0, 0) := by decide +kernel
theorem i189_18 : ins 189 18 = some (.ireturn, 19, 0, 0) := by decide +kernel
theorem i190_0 : ins 190 0 = some (.iload_n 0, 1, 0, 0) := by decide +kernel
theorem i190_1 : ins 190 1 = some (.bipush (27), 3, 0, 27) := by decide +kernel
theorem i190_3 : ins 190 3 = some (.invokestatic 334, 6, 189, 0) := by decide +kernel
theorem i190_6 : ins 190 6 = some (.iload_n 1, 7, 0, 0) := by decide +kernel
theorem i190_7 : ins 190 7 = some (.invokestatic 334, 10, 189, 0) := by decide +kernel
theorem i190_10 : ins 190 10 = some (.iconst (1), 11, 0, 1) := by decide +kernel
theorem i190_11 : ins 190 11 = some (.iushr, 12, 0, 0) := by decide +kernel
theorem i190_12 : ins 190 12 = some (.iload_n 2, 13, 0, 0) := by decide +kernel
theorem i190_13 : ins 190 13 = some (.irem, 14, 0, 0) := by decide +kernel
theorem i190_14 : ins 190 14 = some (.ireturn, 15, 0, 0) := by decide +kernel
theorem i191_0 : ins 191 0 = some (.iload_n 0, 1, 0, 0) := by decide +kernel
theorem i191_1 : ins 191 1 = some (.iload_n 1, 2, 0, 0) := by decide +kernel
theorem i191_2 : ins 191 2 = some (.if_icmp .ge (9), 5, 11, 0) := by decide +kernel
theorem i191_5 : ins 191 5 = some (.iload_n 1, 6, 0, 0) := by decide +kernel
theorem i191_6 : ins 191 6 = some (.iload_n 0, 7, 0, 0) := by decide +kernel
theorem i191_7 : ins 191 7 = some (.isub, 8, 0, 0) := by decide +kernel
theorem i191_8 : ins 191 8 = some (.goto (6), 11, 14, 0) := by decide +kernel
theorem i191_11 : ins 191 11 = some (.iload_n 0, 12, 0, 0) := by decide +kernel
theorem i191_12 : ins 191 12 = some (.iload_n 1, 13, 0, 0) := by decide +kernel
theorem i191_13 : ins 191 13 = some (.isub, 14, 0, 0) := by decide +kernel
theorem i191_14 : ins 191 14 = some (.ireturn, 15, 0, 0) := by decide +kernel
theorem i192_0 : ins 192 0 = some (.aload_n 0, 1, 0, 0) := by decide +kernel
theorem i192_1 : ins 192 1 = some (.getfield 116, 4, 12, 50) := by decide +kernel
theorem i192_4 : ins 192 4 = some (.bipush (6), 6, 0, 6) := by decide +kernel
theorem i192_6 : ins 192 6 = some (.bipush (6), 8, 0, 6) := by decide +kernel
theorem i192_8 : ins 192 8 = some (.iload_n 1, 9, 0, 0) := by decide +kernel
theorem i192_9 : ins 192 9 = some (.imul, 10, 0, 0) := by decide +kernel
theorem i192_10 : ins 192 10 = some (.iadd, 11, 0, 0) := by decide +kernel
theorem i192_11 : ins 192 11 = some (.iload_n 2, 12, 0, 0) := by decide +kernel
theorem i192_12 : ins 192 12 = some (.iadd, 13, 0, 0) := by decide +kernel
theorem i192_13 : ins 192 13 = some (.iaload, 14, 0, 0) := by decide +kernel
theorem i192_14 : ins 192 14 = some (.ireturn, 15, 0, 0) := by decide +kernel
theorem i193_0 : ins 193 0 = some (.aload_n 0, 1, 0, 0) := by decide +kernel
theorem i193_1 : ins 193 1 = some (.getfield 58, 4, 12, 27) := by decide +kernel
theorem i193_4 : ins 193 4 = some (.bipush (6), 6, 0, 6) := by decide +kernel
theorem i193_6 : ins 193 6 = some (.aload_n 0, 7, 0, 0) := by decide +kernel
theorem i193_7 : ins 193 7 = some (.getfield 228, 10, 12, 18) := by decide +kernel
theorem i193_10 : ins 193 10 = some (.imul, 11, 0, 0) := by decide +kernel
theorem i193_11 : ins 193 11 = some (.iload_n 1, 12, 0, 0) := by decide +kernel
theorem i193_12 : ins 193 12 = some (.iadd, 13, 0, 0) := by decide +kernel
theorem i193_13 : ins 193 13 = some (.iaload, 14, 0, 0) := by decide +kernel
theorem i193_14 : ins 193 14 = some (.istore_n 3, 15, 0, 0) := by decide +kernel
theorem i193_15 : ins 193 15 = some (.aload_n 0, 16, 0, 0) := by decide +kernel
theorem i193_16 : ins 193 16 = some (.iload_n 1, 17, 0, 0) := by decide +kernel
theorem i193_17 : ins 193 17 = some (.iload_n 2, 18, 0, 0) := by decide +kernel
theorem i193_18 : ins 193 18 = some (.invokevirtual 337, 21, 192, 0) := by decide +kernel
theorem i193_21 : ins 193 21 = some (.aload_n 0, 22, 0, 0) := by decide +kernel
theorem i193_22 : ins 193 22 = some (.getfield 315, 25, 12, 51) := by decide +kernel
theorem i193_25 : ins 193 25 = some (.bipush (36), 27, 0, 36) := by decide +kernel
theorem i193_27 : ins 193 27 = some (.aload_n 0, 28, 0, 0) := by decide +kernel
theorem i193_28 : ins 193 28 = some (.getfield 116, 31, 12, 50) := by decide +kernel
theorem i193_31 : ins 193 31 = some (.bipush (42), 33, 0, 42) := by decide +kernel
theorem i193_33 : ins 193 33 = some (.iaload, 34, 0, 0) := by decide +kernel
theorem i193_34 : ins 193 34 = some (.imul, 35, 0, 0) := by decide +kernel
theorem i193_35 : ins 193 35 = some (.bipush (6), 37, 0, 6) := by decide +kernel
theorem i193_37 : ins 193 37 = some (.iload_n 1, 38, 0, 0) := by decide +kernel
theorem i193_38 : ins 193 38 = some (.imul, 39, 0, 0) := by decide +kernel
theorem i193_39 : ins 193 39 = some (.iadd, 40, 0, 0) := by decide +kernel
theorem i193_40 : ins 193 40 = some (.iload_n 2, 41, 0, 0) := by decide +kernel
theorem i193_41 : ins 193 41 = some (.iadd, 42, 0, 0) := by decide +kernel
theorem i193_42 : ins 193 42 = some (.iconst (2), 43, 0, 2) := by decide +kernel
theorem i193_43 : ins 193 43 = some (.iload_n 3, 44, 0, 0) := by decide +kernel
theorem i193_44 : ins 193 44 = some (.imul, 45, 0, 0) := by decide +kernel
theorem i193_45 : ins 193 45 = some (.iconst (1), 46, 0, 1) := by decide +kernel
theorem i193_46 : ins 193 46 = some (.iadd, 47, 0, 0) := by decide +kernel
theorem i193_47 : ins 193 47 = some (.invokestatic 340, 50, 190, 0) := by decide +kernel
theorem i193_50 : ins 193 50 = some (.iadd, 51, 0, 0) := by decide +kernel
theorem i193_51 : ins 193 51 = some (.iload_n 3, 52, 0, 0) := by decide +kernel
theorem i193_52 : ins 193 52 = some (.isub, 53, 0, 0) := by decide +kernel
theorem i193_53 : ins 193 53 = some (.istore 4, 55, 0, 0) := by decide +kernel
theorem i193_55 : ins 193 55 = some (.iload 4, 57, 0, 0) := by decide +kernel
theorem i193_57 : ins 193 57 = some (.ifCond .ge (7), 60, 64, 0) := by decide +kernel
theorem i193_60 : ins 193 60 = some (.iconst (0), 61, 0, 0) := by decide +kernel
theorem i193_61 : ins 193 61 = some (.goto (17), 64, 78, 0) := by decide +kernel
theorem i193_64 : ins 193 64 = some (.iload 4, 66, 0, 0) := by decide +kernel
theorem i193_66 : ins 193 66 = some (.bipush (99), 68, 0, 99) := by decide +kernel
theorem i193_68 : ins 193 68 = some (.if_icmp .le (8), 71, 76, 0) := by decide +kernel
theorem i193_71 : ins 193 71 = some (.bipush (99), 73, 0, 99) := by decide +kernel
theorem i193_73 : ins 193 73 = some (.goto (5), 76, 78, 0) := by decide +kernel
theorem i193_76 : ins 193 76 = some (.iload 4, 78, 0, 0) := by decide +kernel
theorem i193_78 : ins 193 78 = some (.ireturn, 79, 0, 0) := by decide +kernel
theorem i194_0 : ins 194 0 = some (.bipush (10), 2, 0, 10) := by decide +kernel
theorem i194_2 : ins 194 2 = some (.aload_n 0, 3, 0, 0) := by decide +kernel
theorem i194_3 : ins 194 3 = some (.getfield 228, 6, 12, 18) := by decide +kernel
theorem i194_6 : ins 194 6 = some (.imul, 7, 0, 0) := by decide +kernel
theorem i194_7 : ins 194 7 = some (.iload_n 1, 8, 0, 0) := by decide +kernel
theorem i194_8 : ins 194 8 = some (.iadd, 9, 0, 0) := by decide +kernel
theorem i194_9 : ins 194 9 = some (.istore_n 2, 10, 0, 0) := by decide +kernel
theorem i194_10 : ins 194 10 = some (.aload_n 0, 11, 0, 0) := by decide +kernel
theorem i194_11 : ins 194 11 = some (.iconst (0), 12, 0, 0) := by decide +kernel
theorem i194_12 : ins 194 12 = some (.putfield 307, 15, 12, 48) := by decide +kernel
theorem i194_15 : ins 194 15 = some (.aload_n 0, 16, 0, 0) := by decide +kernel
theorem i194_16 : ins 194 16 = some (.getfield 76, 19, 12, 33) := by decide +kernel
theorem i194_19 : ins 194 19 = some (.iload_n 2, 20, 0, 0) := by decide +kernel
theorem i194_20 : ins 194 20 = some (.iaload, 21, 0, 0) := by decide +kernel
theorem i194_21 : ins 194 21 = some (.istore_n 3, 22, 0, 0) := by decide +kernel
theorem i194_22 : ins 194 22 = some (.iload_n 3, 23, 0, 0) := by decide +kernel
theorem i194_23 : ins 194 23 = some (.aload_n 0, 24, 0, 0) := by decide +kernel
theorem i194_24 : ins 194 24 = some (.getfield 79, 27, 12, 34) := by decide +kernel
theorem i194_27 : ins 194 27 = some (.iload_n 2, 28, 0, 0) := by decide +kernel
theorem i194_28 : ins 194 28 = some (.iaload, 29, 0, 0) := by decide +kernel
theorem i194_29 : ins 194 29 = some (.if_icmp .ge (105), 32, 134, 0) := by decide +kernel
theorem i194_32 : ins 194 32 = some (.aload_n 0, 33, 0, 0) := by decide +kernel
theorem i194_33 : ins 194 33 = some (.getfield 82, 36, 12, 36) := by decide +kernel
theorem i194_36 : ins 194 36 = some (.iload_n 3, 37, 0, 0) := by decide +kernel
theorem i194_37 : ins 194 37 = some (.baload, 38, 0, 0) := by decide +kernel
theorem i194_38 : ins 194 38 = some (.ifCond .eq (58), 41, 96, 0) := by decide +kernel
theorem i194_41 : ins 194 41 = some (.aload_n 0, 42, 0, 0) := by decide +kernel
theorem i194_42 : ins 194 42 = some (.aload_n 0, 43, 0, 0) := by decide +kernel
theorem i194_43 : ins 194 43 = some (.getfield 86, 46, 12, 37) := by decide +kernel
theorem i194_46 : ins 194 46 = some (.iload_n 3, 47, 0, 0) := by decide +kernel
theorem i194_47 : ins 194 47 = some (.iaload, 48, 0, 0) := by decide +kernel
theorem i194_48 : ins 194 48 = some (.aload_n 0, 49, 0, 0) := by decide +kernel
theorem i194_49 : ins 194 49 = some (.getfield 89, 52, 12, 38) := by decide +kernel
theorem i194_52 : ins 194 52 = some (.iload_n 3, 53, 0, 0) := by decide +kernel
theorem i194_53 : ins 194 53 = some (.iaload, 54, 0, 0) := by decide +kernel
theorem i194_54 : ins 194 54 = some (.invokevirtual 343, 57, 180, 0) := by decide +kernel
theorem i194_57 : ins 194 57 = some (.istore 4, 59, 0, 0) := by decide +kernel
theorem i194_59 : ins 194 59 = some (.aload_n 0, 60, 0, 0) := by decide +kernel
theorem i194_60 : ins 194 60 = some (.aload_n 0, 61, 0, 0) := by decide +kernel
theorem i194_61 : ins 194 61 = some (.getfield 89, 64, 12, 38) := by decide +kernel
theorem i194_64 : ins 194 64 = some (.iload_n 3, 65, 0, 0) := by decide +kernel
theorem i194_65 : ins 194 65 = some (.iaload, 66, 0, 0) := by decide +kernel
theorem i194_66 : ins 194 66 = some (.aload_n 0, 67, 0, 0) := by decide +kernel
theorem i194_67 : ins 194 67 = some (.getfield 92, 70, 12, 39) := by decide +kernel
theorem i194_70 : ins 194 70 = some (.iload_n 3, 71, 0, 0) := by decide +kernel
theorem i194_71 : ins 194 71 = some (.iaload, 72, 0, 0) := by decide +kernel
theorem i194_72 : ins 194 72 = some (.invokevirtual 343, 75, 180, 0) := by decide +kernel
theorem i194_75 : ins 194 75 = some (.istore 5, 77, 0, 0) := by decide +kernel
theorem i194_77 : ins 194 77 = some (.aload_n 0, 78, 0, 0) := by decide +kernel
theorem i194_78 : ins 194 78 = some (.getfield 307, 81, 12, 48) := by decide +kernel
theorem i194_81 : ins 194 81 = some (.ifCond .eq (5), 84, 86, 0) := by decide +kernel
theorem i194_84 : ins 194 84 = some (.iconst (0), 85, 0, 0) := by decide +kernel
theorem i194_85 : ins 194 85 = some (.ireturn, 86, 0, 0) := by decide +kernel
theorem i194_86 : ins 194 86 = some (.iload 4, 88, 0, 0) := by decide +kernel
theorem i194_88 : ins 194 88 = some (.iload 5, 90, 0, 0) := by decide +kernel
theorem i194_90 : ins 194 90 = some (.if_icmp .lt (6), 93, 96, 0) := by decide +kernel
theorem i194_93 : ins 194 93 = some (.goto (35), 96, 128, 0) := by decide +kernel
theorem i194_96 : ins 194 96 = some (.aload_n 0, 97, 0, 0) := by decide +kernel
theorem i194_97 : ins 194 97 = some (.aload_n 0, 98, 0, 0) := by decide +kernel
theorem i194_98 : ins 194 98 = some (.getfield 92, 101, 12, 39) := by decide +kernel
theorem i194_101 : ins 194 101 = some (.iload_n 3, 102, 0, 0) := by decide +kernel
theorem i194_102 : ins 194 102 = some (.iaload, 103, 0, 0) := by decide +kernel
theorem i194_103 : ins 194 103 = some (.aload_n 0, 104, 0, 0) := by decide +kernel
theorem i194_104 : ins 194 104 = some (.getfield 95, 107, 12, 40) := by decide +kernel
theorem i194_107 : ins 194 107 = some (.iload_n 3, 108, 0, 0) := by decide +kernel
theorem i194_108 : ins 194 108 = some (.iaload, 109, 0, 0) := by decide +kernel
theorem i194_109 : ins 194 109 = some (.invokevirtual 343, 112, 180, 0) := by decide +kernel
theorem i194_112 : ins 194 112 = some (.istore 4, 114, 0, 0) := by decide +kernel
theorem i194_114 : ins 194 114 = some (.aload_n 0, 115, 0, 0) := by decide +kernel
theorem i194_115 : ins 194 115 = some (.getfield 307, 118, 12, 48) := by decide +kernel
theorem i194_118 : ins 194 118 = some (.ifCond .eq (7), 121, 125, 0) := by decide +kernel
theorem i194_121 : ins 194 121 = some (.iconst (0), 122, 0, 0) := by decide +kernel
theorem i194_122 : ins 194 122 = some (.goto (5), 125, 127, 0) := by decide +kernel
theorem i194_125 : ins 194 125 = some (.iload 4, 127, 0, 0) := by decide +kernel
theorem i194_127 : ins 194 127 = some (.ireturn, 128, 0, 0) := by decide +kernel
theorem i194_128 : ins 194 128 = some (.iinc 3 (1), 131, 0, 1) := by decide +kernel
theorem i194_131 : ins 194 131 = some (.goto (-109), 134, 22, 0) := by decide +kernel
theorem i194_134 : ins 194 134 = some (.iconst (0), 135, 0, 0) := by decide +kernel
theorem i194_135 : ins 194 135 = some (.ireturn, 136, 0, 0) := by decide +kernel
theorem i195_0 : ins 195 0 = some (.aload_n 0, 1, 0, 0) := by decide +kernel
theorem i195_1 : ins 195 1 = some (.getfield 107, 4, 12, 46) := by decide +kernel
theorem i195_4 : ins 195 4 = some (.iconst (0), 5, 0, 0) := by decide +kernel
theorem i195_5 : ins 195 5 = some (.iload_n 1, 6, 0, 0) := by decide +kernel
theorem i195_6 : ins 195 6 = some (.iastore, 7, 0, 0) := by decide +kernel
theorem i195_7 : ins 195 7 = some (.aload_n 0, 8, 0, 0) := by decide +kernel
theorem i195_8 : ins 195 8 = some (.getfield 107, 11, 12, 46) := by decide +kernel
theorem i195_11 : ins 195 11 = some (.iconst (1), 12, 0, 1) := by decide +kernel
theorem i195_12 : ins 195 12 = some (.iload_n 2, 13, 0, 0) := by decide +kernel
theorem i195_13 : ins 195 13 = some (.iastore, 14, 0, 0) := by decide +kernel
theorem i195_14 : ins 195 14 = some (.aload_n 0, 15, 0, 0) := by decide +kernel
theorem i195_15 : ins 195 15 = some (.getfield 107, 18, 12, 46) := by decide +kernel
theorem i195_18 : ins 195 18 = some (.iconst (2), 19, 0, 2) := by decide +kernel
theorem i195_19 : ins 195 19 = some (.aload_n 0, 20, 0, 0) := by decide +kernel
theorem i195_20 : ins 195 20 = some (.getfield 116, 23, 12, 50) := by decide +kernel
theorem i195_23 : ins 195 23 = some (.bipush (42), 25, 0, 42) := by decide +kernel
theorem i195_25 : ins 195 25 = some (.iaload, 26, 0, 0) := by decide +kernel
theorem i195_26 : ins 195 26 = some (.iastore, 27, 0, 0) := by decide +kernel
theorem i195_27 : ins 195 27 = some (.aload_n 0, 28, 0, 0) := by decide +kernel
theorem i195_28 : ins 195 28 = some (.getfield 107, 31, 12, 46) := by decide +kernel
theorem i195_31 : ins 195 31 = some (.iconst (3), 32, 0, 3) := by decide +kernel
theorem i195_32 : ins 195 32 = some (.iload_n 3, 33, 0, 0) := by decide +kernel
theorem i195_33 : ins 195 33 = some (.iastore, 34, 0, 0) := by decide +kernel
theorem i195_34 : ins 195 34 = some (.aload_n 0, 35, 0, 0) := by decide +kernel
theorem i195_35 : ins 195 35 = some (.getfield 107, 38, 12, 46) := by decide +kernel
theorem i195_38 : ins 195 38 = some (.iconst (4), 39, 0, 4) := by decide +kernel
theorem i195_39 : ins 195 39 = some (.iload 4, 41, 0, 0) := by decide +kernel
theorem i195_41 : ins 195 41 = some (.iastore, 42, 0, 0) := by decide +kernel
theorem i195_42 : ins 195 42 = some (.aload_n 0, 43, 0, 0) := by decide +kernel
theorem i195_43 : ins 195 43 = some (.getfield 107, 46, 12, 46) := by decide +kernel
theorem i195_46 : ins 195 46 = some (.iconst (5), 47, 0, 5) := by decide +kernel
theorem i195_47 : ins 195 47 = some (.iload 5, 49, 0, 0) := by decide +kernel
theorem i195_49 : ins 195 49 = some (.iastore, 50, 0, 0) := by decide +kernel
theorem i195_50 : ins 195 50 = some (.aload_n 0, 51, 0, 0) := by decide +kernel
theorem i195_51 : ins 195 51 = some (.getfield 107, 54, 12, 46) := by decide +kernel
theorem i195_54 : ins 195 54 = some (.bipush (6), 56, 0, 6) := by decide +kernel
theorem i195_56 : ins 195 56 = some (.iload 6, 58, 0, 0) := by decide +kernel
theorem i195_58 : ins 195 58 = some (.iastore, 59, 0, 0) := by decide +kernel
theorem i195_59 : ins 195 59 = some (.return_, 60, 0, 0) := by decide +kernel
def Mo_bounded_15 (a0 : Nat) (x1 : Int) (w : Wd) : Option (Int × Wd) :=
  (Mo_fail a0 1 w).bind fun r17 =>
  some (x1, r17)
theorem s_Mo_bounded_15 {g : Gp} {l : Launch} {D : Nat} (hD : 2 ≤ D) (a0 : Nat) (x1 : Int) (w : Wd) (r : Int × Wd) (h : Mo_bounded_15 a0 x1 w = some r) : Rn g l D 170 15 [(0, .inr (.inr a0)), (1, .inl x1)] [] w (some (.inl r.1)) r.2 := by
  obtain ⟨D, rfl⟩ : ∃ D1, D = D1 + 1 := ⟨D - 1, by omega⟩
  unfold Mo_bounded_15 at h
  refine fr_aload_n i170_15 rfl ?_
  refine rn_iconst i170_16 ?_
  obtain ⟨r17, h17, h⟩ := Option.bind_eq_some_iff.mp h
  obtain ⟨g17, c17⟩ := S_Mo_fail a0 1 w r17 h17
  refine fr_callV (a := a0) (As := [.inl 1]) (st := []) i170_17 (cq158 a0 1) rfl (Nat.le_of_ble_eq_true rfl) g17 (c17 _ (by omega)) ?_
  refine rn_iload_n i170_20 rfl ?_
  obtain rfl := Option.some.inj h
  exact rn_retI i170_21 mr170
def Mo_bounded_51 (a0 : Nat) (x3 : Int) (w : Wd) : Option (Int × Wd) :=
  (Mo_goesOn a0 w).bind fun r52 =>
  some (x3, r52)
theorem s_Mo_bounded_51 {g : Gp} {l : Launch} {D : Nat} (hD : 2 ≤ D) (a0 : Nat) (x3 : Int) (w : Wd) (r : Int × Wd) (h : Mo_bounded_51 a0 x3 w = some r) : Rn g l D 170 51 [(0, .inr (.inr a0)), (3, .inl x3)] [] w (some (.inl r.1)) r.2 := by
  obtain ⟨D, rfl⟩ : ∃ D1, D = D1 + 1 := ⟨D - 1, by omega⟩
  unfold Mo_bounded_51 at h
  refine fr_aload_n i170_51 rfl ?_
  obtain ⟨r52, h52, h⟩ := Option.bind_eq_some_iff.mp h
  obtain ⟨g52, c52⟩ := S_Mo_goesOn a0 w r52 h52
  refine fr_callV (a := a0) (As := []) (st := []) i170_52 (cq160 a0) rfl (Nat.le_of_ble_eq_true rfl) g52 (c52 _ (by omega)) ?_
  refine rn_iload_n i170_55 rfl ?_
  obtain rfl := Option.some.inj h
  exact rn_retI i170_56 mr170
def Mo_bounded_42 (a0 : Nat) (x3 : Int) (w : Wd) : Option (Int × Wd) :=
  (fgI w a0 12 11).bind fun v45 =>
  (Mo_wrong a0 5 v45 w).bind fun r48 =>
  Mo_bounded_51 a0 x3 r48
theorem s_Mo_bounded_42 {g : Gp} {l : Launch} {D : Nat} (hD : 2 ≤ D) (a0 : Nat) (x3 : Int) (w : Wd) (r : Int × Wd) (h : Mo_bounded_42 a0 x3 w = some r) : Rn g l D 170 42 [(0, .inr (.inr a0)), (3, .inl x3)] [] w (some (.inl r.1)) r.2 := by
  obtain ⟨D, rfl⟩ : ∃ D1, D = D1 + 1 := ⟨D - 1, by omega⟩
  unfold Mo_bounded_42 at h
  refine fr_aload_n i170_42 rfl ?_
  refine rn_iconst i170_43 ?_
  refine fr_aload_n i170_44 rfl ?_
  obtain ⟨v45, h45, h⟩ := Option.bind_eq_some_iff.mp h
  refine fr_gI (k := 11) i170_45 tf12_11 h45 ?_
  obtain ⟨r48, h48, h⟩ := Option.bind_eq_some_iff.mp h
  obtain ⟨g48, c48⟩ := S_Mo_wrong a0 5 v45 w r48 h48
  refine fr_callV (a := a0) (As := [.inl 5, .inl v45]) (st := []) i170_48 (cq159 a0 5 v45) rfl (Nat.le_of_ble_eq_true rfl) g48 (c48 _ (by omega)) ?_
  exact rn_sub [0, 1] rfl (s_Mo_bounded_51 hD a0 x3 r48 r h)
def Mo_bounded_0 (a0 : Nat) (x1 : Int) (x2 : Int) (w : Wd) : Option (Int × Wd) :=
  (fgI w a0 12 13).bind fun v1 =>
  if (0 : Int) < v1 then
    Mo_bounded_15 a0 x1 w
  else
    (Mo_is a0 2 w).bind fun r9 =>
    if (r9.1 : Int) = 0 then
      Mo_bounded_15 a0 x1 r9.2
    else
      (fgR r9.2 a0 12 7).bind fun v23 =>
      (fgI r9.2 a0 12 11).bind fun v27 =>
      (rdI r9.2 v23 v27).bind fun v30 =>
      if (v30 : Int) < x1 then
        Mo_bounded_42 a0 v30 r9.2
      else
        if (v30 : Int) ≤ x2 then
          Mo_bounded_51 a0 v30 r9.2
        else
          Mo_bounded_42 a0 v30 r9.2
theorem s_Mo_bounded_0 {g : Gp} {l : Launch} {D : Nat} (hD : 2 ≤ D) (a0 : Nat) (x1 : Int) (x2 : Int) (w : Wd) (r : Int × Wd) (h : Mo_bounded_0 a0 x1 x2 w = some r) : Rn g l D 170 0 [(0, .inr (.inr a0)), (1, .inl x1), (2, .inl x2)] [] w (some (.inl r.1)) r.2 := by
  obtain ⟨D, rfl⟩ : ∃ D1, D = D1 + 1 := ⟨D - 1, by omega⟩
  unfold Mo_bounded_0 at h
  refine fr_aload_n i170_0 rfl ?_
  obtain ⟨v1, h1, h⟩ := Option.bind_eq_some_iff.mp h
  refine fr_gI (k := 13) i170_1 tf12_13 h1 ?_
  by_cases c4 : (0 : Int) < v1
  · rw [if_pos c4] at h
    refine rn_if_gt_t i170_4 c4 ?_
    exact rn_sub [0, 1] rfl (s_Mo_bounded_15 hD a0 x1 w r h)
  · rw [if_neg c4] at h
    refine rn_if_gt_f i170_4 c4 ?_
    refine fr_aload_n i170_7 rfl ?_
    refine rn_iconst i170_8 ?_
    obtain ⟨r9, h9, h⟩ := Option.bind_eq_some_iff.mp h
    obtain ⟨g9, c9⟩ := S_Mo_is a0 2 w r9 h9
    refine fr_callV (a := a0) (As := [.inl 2]) (st := []) i170_9 (cq157 a0 2) rfl (Nat.le_of_ble_eq_true rfl) g9 (c9 _ (by omega)) ?_
    show Rn _ _ _ _ _ _ [.inl r9.1] _ _ _
    by_cases c12 : (r9.1 : Int) = 0
    · rw [if_pos c12] at h
      refine rn_if_ne_f i170_12 c12 ?_
      exact rn_sub [0, 1] rfl (s_Mo_bounded_15 hD a0 x1 r9.2 r h)
    · rw [if_neg c12] at h
      refine rn_if_ne_t i170_12 c12 ?_
      refine fr_aload_n i170_22 rfl ?_
      obtain ⟨v23, h23, h⟩ := Option.bind_eq_some_iff.mp h
      refine fr_gR (k := 7) i170_23 tf12_7 h23 ?_
      refine fr_aload_n i170_26 rfl ?_
      obtain ⟨v27, h27, h⟩ := Option.bind_eq_some_iff.mp h
      refine fr_gI (k := 11) i170_27 tf12_11 h27 ?_
      obtain ⟨v30, h30, h⟩ := Option.bind_eq_some_iff.mp h
      refine rn_iald i170_30 h30 ?_
      refine rn_istore_n (ls1 := [(3, .inl v30), (0, .inr (.inr a0)), (1, .inl x1), (2, .inl x2)]) i170_31 rfl ?_
      refine rn_iload_n i170_32 rfl ?_
      refine rn_iload_n i170_33 rfl ?_
      by_cases c34 : (v30 : Int) < x1
      · rw [if_pos c34] at h
        refine rn_icmp_lt_t i170_34 c34 ?_
        exact rn_sub [1, 0] rfl (s_Mo_bounded_42 hD a0 v30 r9.2 r h)
      · rw [if_neg c34] at h
        refine rn_icmp_lt_f i170_34 c34 ?_
        refine rn_iload_n i170_37 rfl ?_
        refine rn_iload_n i170_38 rfl ?_
        by_cases c39 : (v30 : Int) ≤ x2
        · rw [if_pos c39] at h
          refine rn_icmp_le_t i170_39 c39 ?_
          exact rn_sub [1, 0] rfl (s_Mo_bounded_51 hD a0 v30 r9.2 r h)
        · rw [if_neg c39] at h
          refine rn_icmp_le_f i170_39 c39 ?_
          exact rn_sub [1, 0] rfl (s_Mo_bounded_42 hD a0 v30 r9.2 r h)
/-- HandHeirsModel.bounded(II)I -/
def Mo_bounded (a0 : Nat) (x1 : Int) (x2 : Int) (w : Wd) : Option (Int × Wd) := gd 12 w a0 (Mo_bounded_0 a0 x1 x2 w)
theorem S_Mo_bounded {g : Gp} {l : Launch} (a0 : Nat) (x1 : Int) (x2 : Int) (w : Wd) (r : Int × Wd) (h : Mo_bounded a0 x1 x2 w = some r) : (wsh w a0).1 = 12 ∧ ∀ D, 2 ≤ D → Rn g l D 170 0 [(0, .inr (.inr a0)), (1, .inl x1), (2, .inl x2)] [] w (some (.inl r.1)) r.2 := by
  obtain ⟨hg, h⟩ := gd_some h
  exact ⟨hg, fun D hD => rn_sub [0, 1, 2] rfl (s_Mo_bounded_0 hD a0 x1 x2 w r h)⟩
def Mo_named_49 (k12 : Nat → Int → Int → Wd → Option (Int × Wd)) (a0 : Nat) (x1 : Int) (x2 : Int) (w : Wd) : Option (Int × Wd) :=
  k12 a0 x1 (w32 (x2 + 1)) w
theorem s_Mo_named_49 {g : Gp} {l : Launch} {D : Nat} (hD : 3 ≤ D) (k12 : Nat → Int → Int → Wd → Option (Int × Wd)) (hk12 : ∀ (a0 : Nat) (x1 : Int) (x2 : Int) (w : Wd) (r : Int × Wd), k12 a0 x1 x2 w = some r → Rn g l D 167 12 [(0, .inr (.inr a0)), (1, .inl x1), (2, .inl x2)] [] w (some (.inl r.1)) r.2) (a0 : Nat) (x1 : Int) (x2 : Int) (w : Wd) (r : Int × Wd) (h : Mo_named_49 k12 a0 x1 x2 w = some r) : Rn g l D 167 49 [(0, .inr (.inr a0)), (1, .inl x1), (2, .inl x2)] [] w (some (.inl r.1)) r.2 := by
  unfold Mo_named_49 at h
  refine rn_iinc (ls1 := [(2, .inl (w32 (x2 + 1))), (0, .inr (.inr a0)), (1, .inl x1)]) i167_49 rfl rfl ?_
  refine rn_goto i167_52 ?_
  exact rn_sub [1, 2, 0] rfl (hk12 a0 x1 (w32 (x2 + 1)) w r h)
def Mo_named_55 (x1 : Int) (w : Wd) : Option (Int × Wd) :=
  some (x1, w)
theorem s_Mo_named_55 {g : Gp} {l : Launch} {D : Nat} (hD : 3 ≤ D) (x1 : Int) (w : Wd) (r : Int × Wd) (h : Mo_named_55 x1 w = some r) : Rn g l D 167 55 [(1, .inl x1)] [] w (some (.inl r.1)) r.2 := by
  unfold Mo_named_55 at h
  refine rn_iload_n i167_55 rfl ?_
  obtain rfl := Option.some.inj h
  exact rn_retI i167_56 mr167
def Mo_named_12 : Nat → Nat → Int → Int → Wd → Option (Int × Wd)
  | 0, _, _, _, _ => none
  | n + 1, a0, x1, x2, w =>
    (fgI w a0 12 20).bind fun v14 =>
    if (v14 : Int) ≤ x2 then
      Mo_named_55 x1 w
    else
      (fgI w a0 12 13).bind fun v21 =>
      if (v21 : Int) = 0 then
        (fgR w a0 12 21).bind fun v28 =>
        (rdL w v28 x2).bind fun v32 =>
        (fgR w a0 12 8).bind fun v34 =>
        (rdL w v34 x1).bind fun v38 =>
        if ((ocmp v32 v38) : Int) = 0 then
          (Mo_wrong a0 3 x1 w).bind fun r46 =>
          Mo_named_49 (Mo_named_12 n) a0 x1 x2 r46
        else
          Mo_named_49 (Mo_named_12 n) a0 x1 x2 w
      else
        Mo_named_55 x1 w
theorem s_Mo_named_12 {g : Gp} {l : Launch} {D : Nat} (hD : 3 ≤ D) : ∀ (n : Nat) (a0 : Nat) (x1 : Int) (x2 : Int) (w : Wd) (r : Int × Wd), Mo_named_12 n a0 x1 x2 w = some r → Rn g l D 167 12 [(0, .inr (.inr a0)), (1, .inl x1), (2, .inl x2)] [] w (some (.inl r.1)) r.2 := by
  obtain ⟨D, rfl⟩ : ∃ D1, D = D1 + 1 := ⟨D - 1, by omega⟩
  intro n
  induction n with
  | zero => intro a0 x1 x2 w r h; cases (show (none : Option (Int × Wd)) = some r from h)
  | succ n ih =>
    intro a0 x1 x2 w r h
    unfold Mo_named_12 at h
    refine rn_iload_n i167_12 rfl ?_
    refine fr_aload_n i167_13 rfl ?_
    obtain ⟨v14, h14, h⟩ := Option.bind_eq_some_iff.mp h
    refine fr_gI (k := 20) i167_14 tf12_20 h14 ?_
    by_cases c17 : (v14 : Int) ≤ x2
    · rw [if_pos c17] at h
      refine rn_icmp_ge_t i167_17 c17 ?_
      exact rn_sub [1] rfl (s_Mo_named_55 hD x1 w r h)
    · rw [if_neg c17] at h
      refine rn_icmp_ge_f i167_17 c17 ?_
      refine fr_aload_n i167_20 rfl ?_
      obtain ⟨v21, h21, h⟩ := Option.bind_eq_some_iff.mp h
      refine fr_gI (k := 13) i167_21 tf12_13 h21 ?_
      by_cases c24 : (v21 : Int) = 0
      · rw [if_pos c24] at h
        refine rn_if_ne_f i167_24 c24 ?_
        refine fr_aload_n i167_27 rfl ?_
        obtain ⟨v28, h28, h⟩ := Option.bind_eq_some_iff.mp h
        refine fr_gR (k := 21) i167_28 tf12_21 h28 ?_
        refine rn_iload_n i167_31 rfl ?_
        obtain ⟨v32, h32, h⟩ := Option.bind_eq_some_iff.mp h
        refine rn_lald i167_32 h32 ?_
        refine fr_aload_n i167_33 rfl ?_
        obtain ⟨v34, h34, h⟩ := Option.bind_eq_some_iff.mp h
        refine fr_gR (k := 8) i167_34 tf12_8 h34 ?_
        refine rn_iload_n i167_37 rfl ?_
        obtain ⟨v38, h38, h⟩ := Option.bind_eq_some_iff.mp h
        refine rn_lald i167_38 h38 ?_
        refine rn_lcmp i167_39 ?_
        by_cases c40 : ((ocmp v32 v38) : Int) = 0
        · rw [if_pos c40] at h
          refine rn_if_ne_f i167_40 c40 ?_
          refine fr_aload_n i167_43 rfl ?_
          refine rn_iconst i167_44 ?_
          refine rn_iload_n i167_45 rfl ?_
          obtain ⟨r46, h46, h⟩ := Option.bind_eq_some_iff.mp h
          obtain ⟨g46, c46⟩ := S_Mo_wrong a0 3 x1 w r46 h46
          refine fr_callV (a := a0) (As := [.inl 3, .inl x1]) (st := []) i167_46 (cq159 a0 3 x1) rfl (Nat.le_of_ble_eq_true rfl) g46 (c46 _ (by omega)) ?_
          exact rn_sub [0, 1, 2] rfl (s_Mo_named_49 hD (Mo_named_12 n) ih a0 x1 x2 r46 r h)
        · rw [if_neg c40] at h
          refine rn_if_ne_t i167_40 c40 ?_
          exact rn_sub [0, 1, 2] rfl (s_Mo_named_49 hD (Mo_named_12 n) ih a0 x1 x2 w r h)
      · rw [if_neg c24] at h
        refine rn_if_ne_t i167_24 c24 ?_
        exact rn_sub [1] rfl (s_Mo_named_55 hD x1 w r h)
def Mo_named_0 (a0 : Nat) (w : Wd) : Option (Int × Wd) :=
  (fgI w a0 12 11).bind fun v1 =>
  (Mo_must a0 1 w).bind fun r7 =>
  Mo_named_12 FU a0 v1 0 r7
theorem s_Mo_named_0 {g : Gp} {l : Launch} {D : Nat} (hD : 3 ≤ D) (a0 : Nat) (w : Wd) (r : Int × Wd) (h : Mo_named_0 a0 w = some r) : Rn g l D 167 0 [(0, .inr (.inr a0))] [] w (some (.inl r.1)) r.2 := by
  obtain ⟨D, rfl⟩ : ∃ D1, D = D1 + 1 := ⟨D - 1, by omega⟩
  unfold Mo_named_0 at h
  refine fr_aload_n i167_0 rfl ?_
  obtain ⟨v1, h1, h⟩ := Option.bind_eq_some_iff.mp h
  refine fr_gI (k := 11) i167_1 tf12_11 h1 ?_
  refine rn_istore_n (ls1 := [(1, .inl v1), (0, .inr (.inr a0))]) i167_4 rfl ?_
  refine fr_aload_n i167_5 rfl ?_
  refine rn_iconst i167_6 ?_
  obtain ⟨r7, h7, h⟩ := Option.bind_eq_some_iff.mp h
  obtain ⟨g7, c7⟩ := S_Mo_must a0 1 w r7 h7
  refine fr_callV (a := a0) (As := [.inl 1]) (st := []) i167_7 (cq161 a0 1) rfl (Nat.le_of_ble_eq_true rfl) g7 (c7 _ (by omega)) ?_
  refine rn_iconst i167_10 ?_
  refine rn_istore_n (ls1 := [(2, .inl 0), (1, .inl v1), (0, .inr (.inr a0))]) i167_11 rfl ?_
  exact rn_sub [2, 1, 0] rfl (s_Mo_named_12 hD FU a0 v1 0 r7 r h)
/-- HandHeirsModel.named()I -/
def Mo_named (a0 : Nat) (w : Wd) : Option (Int × Wd) := gd 12 w a0 (Mo_named_0 a0 w)
theorem S_Mo_named {g : Gp} {l : Launch} (a0 : Nat) (w : Wd) (r : Int × Wd) (h : Mo_named a0 w = some r) : (wsh w a0).1 = 12 ∧ ∀ D, 3 ≤ D → Rn g l D 167 0 [(0, .inr (.inr a0))] [] w (some (.inl r.1)) r.2 := by
  obtain ⟨hg, h⟩ := gd_some h
  exact ⟨hg, fun D hD => rn_sub [0] rfl (s_Mo_named_0 hD a0 w r h)⟩
def Mo_notes_0 (a0 : Nat) (x1 : Int) (x2 : Int) (w : Wd) : Option (Wd) :=
  (fgR w a0 12 21).bind fun v1 =>
  (fgI w a0 12 20).bind fun v5 =>
  (fgR w a0 12 8).bind fun v9 =>
  (rdL w v9 x1).bind fun v13 =>
  (wrL w v1 v5 v13).bind fun w14 =>
  (fgR w14 a0 12 22).bind fun v16 =>
  (fgI w14 a0 12 20).bind fun v20 =>
  (wrI w14 v16 v20 x2).bind fun w24 =>
  (fgI w24 a0 12 20).bind fun v27 =>
  (fpI w24 a0 12 20 (w32 (v27 + 1))).bind fun w32 =>
  some w32
theorem s_Mo_notes_0 {g : Gp} {l : Launch} {D : Nat} (hD : 0 ≤ D) (a0 : Nat) (x1 : Int) (x2 : Int) (w : Wd) (r : Wd) (h : Mo_notes_0 a0 x1 x2 w = some r) : Rn g l D 168 0 [(0, .inr (.inr a0)), (1, .inl x1), (2, .inl x2)] [] w none r := by
  unfold Mo_notes_0 at h
  refine fr_aload_n i168_0 rfl ?_
  obtain ⟨v1, h1, h⟩ := Option.bind_eq_some_iff.mp h
  refine fr_gR (k := 21) i168_1 tf12_21 h1 ?_
  refine fr_aload_n i168_4 rfl ?_
  obtain ⟨v5, h5, h⟩ := Option.bind_eq_some_iff.mp h
  refine fr_gI (k := 20) i168_5 tf12_20 h5 ?_
  refine fr_aload_n i168_8 rfl ?_
  obtain ⟨v9, h9, h⟩ := Option.bind_eq_some_iff.mp h
  refine fr_gR (k := 8) i168_9 tf12_8 h9 ?_
  refine rn_iload_n i168_12 rfl ?_
  obtain ⟨v13, h13, h⟩ := Option.bind_eq_some_iff.mp h
  refine rn_lald i168_13 h13 ?_
  obtain ⟨w14, h14, h⟩ := Option.bind_eq_some_iff.mp h
  refine rn_last i168_14 h14 ?_
  refine fr_aload_n i168_15 rfl ?_
  obtain ⟨v16, h16, h⟩ := Option.bind_eq_some_iff.mp h
  refine fr_gR (k := 22) i168_16 tf12_22 h16 ?_
  refine fr_aload_n i168_19 rfl ?_
  obtain ⟨v20, h20, h⟩ := Option.bind_eq_some_iff.mp h
  refine fr_gI (k := 20) i168_20 tf12_20 h20 ?_
  refine rn_iload_n i168_23 rfl ?_
  obtain ⟨w24, h24, h⟩ := Option.bind_eq_some_iff.mp h
  refine rn_iast i168_24 h24 ?_
  refine fr_aload_n i168_25 rfl ?_
  refine rn_dup i168_26 rfl ?_
  obtain ⟨v27, h27, h⟩ := Option.bind_eq_some_iff.mp h
  refine fr_gI (k := 20) i168_27 tf12_20 h27 ?_
  refine rn_iconst i168_30 ?_
  refine rn_iadd i168_31 ?_
  obtain ⟨w32, h32, h⟩ := Option.bind_eq_some_iff.mp h
  refine fr_pI (k := 20) i168_32 (pf12_20 168) h32 ?_
  obtain rfl := Option.some.inj h
  exact rn_ret i168_35 mr168
/-- HandHeirsModel.notes(II)V -/
def Mo_notes (a0 : Nat) (x1 : Int) (x2 : Int) (w : Wd) : Option (Wd) := gd 12 w a0 (Mo_notes_0 a0 x1 x2 w)
theorem S_Mo_notes {g : Gp} {l : Launch} (a0 : Nat) (x1 : Int) (x2 : Int) (w : Wd) (r : Wd) (h : Mo_notes a0 x1 x2 w = some r) : (wsh w a0).1 = 12 ∧ ∀ D, 0 ≤ D → Rn g l D 168 0 [(0, .inr (.inr a0)), (1, .inl x1), (2, .inl x2)] [] w none r := by
  obtain ⟨hg, h⟩ := gd_some h
  exact ⟨hg, fun D hD => rn_sub [0, 1, 2] rfl (s_Mo_notes_0 hD a0 x1 x2 w r h)⟩
def Mo_tellLetter_0 (a0 : Nat) (w : Wd) : Option (Wd) :=
  (Mo_named a0 w).bind fun r1 =>
  (fgR r1.2 a0 12 24).bind fun v6 =>
  (fgI r1.2 a0 12 19).bind fun v12 =>
  (fgR r1.2 a0 12 23).bind fun v17 =>
  (fgI r1.2 a0 12 19).bind fun v21 =>
  (rdI r1.2 v17 v21).bind fun v24 =>
  (Mo_bounded a0 0 99 r1.2).bind fun r30 =>
  (wrI r30.2 v6 (w32 ((w32 (6 * v12)) + v24)) r30.1).bind fun w33 =>
  (Mo_must a0 4 w33).bind fun r36 =>
  (fgI r36 a0 12 13).bind fun v40 =>
  if (v40 : Int) ≤ 0 then
    (Mo_notes a0 (r1.1) (-1) r36).bind fun r50 =>
    (fgR r50 a0 12 23).bind fun v54 =>
    (fgI r50 a0 12 19).bind fun v58 =>
    (rdI r50 v54 v58).bind fun v62 =>
    (wrI r50 v54 v58 (w32 (v62 + 1))).bind fun w65 =>
    some w65
  else
    some r36
theorem s_Mo_tellLetter_0 {g : Gp} {l : Launch} {D : Nat} (hD : 4 ≤ D) (a0 : Nat) (w : Wd) (r : Wd) (h : Mo_tellLetter_0 a0 w = some r) : Rn g l D 171 0 [(0, .inr (.inr a0))] [] w none r := by
  obtain ⟨D, rfl⟩ : ∃ D1, D = D1 + 1 := ⟨D - 1, by omega⟩
  unfold Mo_tellLetter_0 at h
  refine fr_aload_n i171_0 rfl ?_
  obtain ⟨r1, h1, h⟩ := Option.bind_eq_some_iff.mp h
  obtain ⟨g1, c1⟩ := S_Mo_named a0 w r1 h1
  refine fr_callV (a := a0) (As := []) (st := []) i171_1 (cq167 a0) rfl (Nat.le_of_ble_eq_true rfl) g1 (c1 _ (by omega)) ?_
  show Rn _ _ _ _ _ _ [.inl r1.1] _ _ _
  refine rn_istore_n (ls1 := [(1, .inl r1.1), (0, .inr (.inr a0))]) i171_4 rfl ?_
  refine fr_aload_n i171_5 rfl ?_
  obtain ⟨v6, h6, h⟩ := Option.bind_eq_some_iff.mp h
  refine fr_gR (k := 24) i171_6 tf12_24 h6 ?_
  refine rn_bipush i171_9 ?_
  refine fr_aload_n i171_11 rfl ?_
  obtain ⟨v12, h12, h⟩ := Option.bind_eq_some_iff.mp h
  refine fr_gI (k := 19) i171_12 tf12_19 h12 ?_
  refine rn_imul i171_15 ?_
  refine fr_aload_n i171_16 rfl ?_
  obtain ⟨v17, h17, h⟩ := Option.bind_eq_some_iff.mp h
  refine fr_gR (k := 23) i171_17 tf12_23 h17 ?_
  refine fr_aload_n i171_20 rfl ?_
  obtain ⟨v21, h21, h⟩ := Option.bind_eq_some_iff.mp h
  refine fr_gI (k := 19) i171_21 tf12_19 h21 ?_
  obtain ⟨v24, h24, h⟩ := Option.bind_eq_some_iff.mp h
  refine rn_iald i171_24 h24 ?_
  refine rn_iadd i171_25 ?_
  refine fr_aload_n i171_26 rfl ?_
  refine rn_iconst i171_27 ?_
  refine rn_bipush i171_28 ?_
  obtain ⟨r30, h30, h⟩ := Option.bind_eq_some_iff.mp h
  obtain ⟨g30, c30⟩ := S_Mo_bounded a0 0 99 r1.2 r30 h30
  refine fr_callV (a := a0) (As := [.inl 0, .inl 99]) (st := [.inl (w32 ((w32 (6 * v12)) + v24)), .inr (.inr v6)]) i171_30 (cq170 a0 0 99) rfl (Nat.le_of_ble_eq_true rfl) g30 (c30 _ (by omega)) ?_
  show Rn _ _ _ _ _ _ [.inl r30.1, .inl (w32 ((w32 (6 * v12)) + v24)), .inr (.inr v6)] _ _ _
  obtain ⟨w33, h33, h⟩ := Option.bind_eq_some_iff.mp h
  refine rn_iast i171_33 h33 ?_
  refine fr_aload_n i171_34 rfl ?_
  refine rn_iconst i171_35 ?_
  obtain ⟨r36, h36, h⟩ := Option.bind_eq_some_iff.mp h
  obtain ⟨g36, c36⟩ := S_Mo_must a0 4 w33 r36 h36
  refine fr_callV (a := a0) (As := [.inl 4]) (st := []) i171_36 (cq161 a0 4) rfl (Nat.le_of_ble_eq_true rfl) g36 (c36 _ (by omega)) ?_
  refine fr_aload_n i171_39 rfl ?_
  obtain ⟨v40, h40, h⟩ := Option.bind_eq_some_iff.mp h
  refine fr_gI (k := 13) i171_40 tf12_13 h40 ?_
  by_cases c43 : (v40 : Int) ≤ 0
  · rw [if_pos c43] at h
    refine rn_if_le_t i171_43 c43 ?_
    refine fr_aload_n i171_47 rfl ?_
    refine rn_iload_n i171_48 rfl ?_
    refine rn_iconst i171_49 ?_
    obtain ⟨r50, h50, h⟩ := Option.bind_eq_some_iff.mp h
    obtain ⟨g50, c50⟩ := S_Mo_notes a0 (r1.1) (-1) r36 r50 h50
    refine fr_callV (a := a0) (As := [.inl r1.1, .inl (-1)]) (st := []) i171_50 (cq168 a0 (r1.1) (-1)) rfl (Nat.le_of_ble_eq_true rfl) g50 (c50 _ (by omega)) ?_
    refine fr_aload_n i171_53 rfl ?_
    obtain ⟨v54, h54, h⟩ := Option.bind_eq_some_iff.mp h
    refine fr_gR (k := 23) i171_54 tf12_23 h54 ?_
    refine fr_aload_n i171_57 rfl ?_
    obtain ⟨v58, h58, h⟩ := Option.bind_eq_some_iff.mp h
    refine fr_gI (k := 19) i171_58 tf12_19 h58 ?_
    refine rn_dup2 i171_61 rfl rfl ?_
    obtain ⟨v62, h62, h⟩ := Option.bind_eq_some_iff.mp h
    refine rn_iald i171_62 h62 ?_
    refine rn_iconst i171_63 ?_
    refine rn_iadd i171_64 ?_
    obtain ⟨w65, h65, h⟩ := Option.bind_eq_some_iff.mp h
    refine rn_iast i171_65 h65 ?_
    obtain rfl := Option.some.inj h
    exact rn_ret i171_66 mr171
  · rw [if_neg c43] at h
    refine rn_if_le_f i171_43 c43 ?_
    obtain rfl := Option.some.inj h
    exact rn_ret i171_46 mr171
/-- HandHeirsModel.tellLetter()V -/
def Mo_tellLetter (a0 : Nat) (w : Wd) : Option (Wd) := gd 12 w a0 (Mo_tellLetter_0 a0 w)
theorem S_Mo_tellLetter {g : Gp} {l : Launch} (a0 : Nat) (w : Wd) (r : Wd) (h : Mo_tellLetter a0 w = some r) : (wsh w a0).1 = 12 ∧ ∀ D, 4 ≤ D → Rn g l D 171 0 [(0, .inr (.inr a0))] [] w none r := by
  obtain ⟨hg, h⟩ := gd_some h
  exact ⟨hg, fun D hD => rn_sub [0] rfl (s_Mo_tellLetter_0 hD a0 w r h)⟩
def Mo_tellHeir_104 (k78 : Nat → Int → Int → Int → Wd → Option (Wd)) (a0 : Nat) (x1 : Int) (x2 : Int) (x3 : Int) (w : Wd) : Option (Wd) :=
  (fgI w a0 12 13).bind fun v105 =>
  if (v105 : Int) ≤ 0 then
    (fgR w a0 12 28).bind fun v113 =>
    (Mo_bounded a0 0 99 w).bind fun r126 =>
    (wrI r126.2 v113 (w32 ((w32 (6 * x1)) + x3)) r126.1).bind fun w129 =>
    k78 a0 x1 x2 (w32 (x3 + 1)) w129
  else
    some w
theorem s_Mo_tellHeir_104 {g : Gp} {l : Launch} {D : Nat} (hD : 4 ≤ D) (k78 : Nat → Int → Int → Int → Wd → Option (Wd)) (hk78 : ∀ (a0 : Nat) (x1 : Int) (x2 : Int) (x3 : Int) (w : Wd) (r : Wd), k78 a0 x1 x2 x3 w = some r → Rn g l D 172 78 [(0, .inr (.inr a0)), (1, .inl x1), (2, .inl x2), (3, .inl x3)] [] w none r) (a0 : Nat) (x1 : Int) (x2 : Int) (x3 : Int) (w : Wd) (r : Wd) (h : Mo_tellHeir_104 k78 a0 x1 x2 x3 w = some r) : Rn g l D 172 104 [(0, .inr (.inr a0)), (1, .inl x1), (2, .inl x2), (3, .inl x3)] [] w none r := by
  obtain ⟨D, rfl⟩ : ∃ D1, D = D1 + 1 := ⟨D - 1, by omega⟩
  unfold Mo_tellHeir_104 at h
  refine fr_aload_n i172_104 rfl ?_
  obtain ⟨v105, h105, h⟩ := Option.bind_eq_some_iff.mp h
  refine fr_gI (k := 13) i172_105 tf12_13 h105 ?_
  by_cases c108 : (v105 : Int) ≤ 0
  · rw [if_pos c108] at h
    refine rn_if_le_t i172_108 c108 ?_
    refine fr_aload_n i172_112 rfl ?_
    obtain ⟨v113, h113, h⟩ := Option.bind_eq_some_iff.mp h
    refine fr_gR (k := 28) i172_113 tf12_28 h113 ?_
    refine rn_bipush i172_116 ?_
    refine rn_iload_n i172_118 rfl ?_
    refine rn_imul i172_119 ?_
    refine rn_iload_n i172_120 rfl ?_
    refine rn_iadd i172_121 ?_
    refine fr_aload_n i172_122 rfl ?_
    refine rn_iconst i172_123 ?_
    refine rn_bipush i172_124 ?_
    obtain ⟨r126, h126, h⟩ := Option.bind_eq_some_iff.mp h
    obtain ⟨g126, c126⟩ := S_Mo_bounded a0 0 99 w r126 h126
    refine fr_callV (a := a0) (As := [.inl 0, .inl 99]) (st := [.inl (w32 ((w32 (6 * x1)) + x3)), .inr (.inr v113)]) i172_126 (cq170 a0 0 99) rfl (Nat.le_of_ble_eq_true rfl) g126 (c126 _ (by omega)) ?_
    show Rn _ _ _ _ _ _ [.inl r126.1, .inl (w32 ((w32 (6 * x1)) + x3)), .inr (.inr v113)] _ _ _
    obtain ⟨w129, h129, h⟩ := Option.bind_eq_some_iff.mp h
    refine rn_iast i172_129 h129 ?_
    refine rn_iinc (ls1 := [(3, .inl (w32 (x3 + 1))), (0, .inr (.inr a0)), (1, .inl x1), (2, .inl x2)]) i172_130 rfl rfl ?_
    refine rn_goto i172_133 ?_
    exact rn_sub [1, 2, 3, 0] rfl (hk78 a0 x1 x2 (w32 (x3 + 1)) w129 r h)
  · rw [if_neg c108] at h
    refine rn_if_le_f i172_108 c108 ?_
    obtain rfl := Option.some.inj h
    exact rn_ret i172_111 mr172
def Mo_tellHeir_136 (a0 : Nat) (x2 : Int) (w : Wd) : Option (Wd) :=
  (Mo_must a0 4 w).bind fun r138 =>
  (fgI r138 a0 12 13).bind fun v142 =>
  if (v142 : Int) ≤ 0 then
    (fgR r138 a0 12 25).bind fun v152 =>
    (fgI r138 a0 12 19).bind fun v156 =>
    (rdI r138 v152 v156).bind fun v159 =>
    (Mo_notes a0 x2 v159 r138).bind fun r160 =>
    (fgR r160 a0 12 25).bind fun v164 =>
    (fgI r160 a0 12 19).bind fun v168 =>
    (rdI r160 v164 v168).bind fun v172 =>
    (wrI r160 v164 v168 (w32 (v172 + 1))).bind fun w175 =>
    some w175
  else
    some r138
theorem s_Mo_tellHeir_136 {g : Gp} {l : Launch} {D : Nat} (hD : 4 ≤ D) (a0 : Nat) (x2 : Int) (w : Wd) (r : Wd) (h : Mo_tellHeir_136 a0 x2 w = some r) : Rn g l D 172 136 [(0, .inr (.inr a0)), (2, .inl x2)] [] w none r := by
  obtain ⟨D, rfl⟩ : ∃ D1, D = D1 + 1 := ⟨D - 1, by omega⟩
  unfold Mo_tellHeir_136 at h
  refine fr_aload_n i172_136 rfl ?_
  refine rn_iconst i172_137 ?_
  obtain ⟨r138, h138, h⟩ := Option.bind_eq_some_iff.mp h
  obtain ⟨g138, c138⟩ := S_Mo_must a0 4 w r138 h138
  refine fr_callV (a := a0) (As := [.inl 4]) (st := []) i172_138 (cq161 a0 4) rfl (Nat.le_of_ble_eq_true rfl) g138 (c138 _ (by omega)) ?_
  refine fr_aload_n i172_141 rfl ?_
  obtain ⟨v142, h142, h⟩ := Option.bind_eq_some_iff.mp h
  refine fr_gI (k := 13) i172_142 tf12_13 h142 ?_
  by_cases c145 : (v142 : Int) ≤ 0
  · rw [if_pos c145] at h
    refine rn_if_le_t i172_145 c145 ?_
    refine fr_aload_n i172_149 rfl ?_
    refine rn_iload_n i172_150 rfl ?_
    refine fr_aload_n i172_151 rfl ?_
    obtain ⟨v152, h152, h⟩ := Option.bind_eq_some_iff.mp h
    refine fr_gR (k := 25) i172_152 tf12_25 h152 ?_
    refine fr_aload_n i172_155 rfl ?_
    obtain ⟨v156, h156, h⟩ := Option.bind_eq_some_iff.mp h
    refine fr_gI (k := 19) i172_156 tf12_19 h156 ?_
    obtain ⟨v159, h159, h⟩ := Option.bind_eq_some_iff.mp h
    refine rn_iald i172_159 h159 ?_
    obtain ⟨r160, h160, h⟩ := Option.bind_eq_some_iff.mp h
    obtain ⟨g160, c160⟩ := S_Mo_notes a0 x2 v159 r138 r160 h160
    refine fr_callV (a := a0) (As := [.inl x2, .inl v159]) (st := []) i172_160 (cq168 a0 x2 v159) rfl (Nat.le_of_ble_eq_true rfl) g160 (c160 _ (by omega)) ?_
    refine fr_aload_n i172_163 rfl ?_
    obtain ⟨v164, h164, h⟩ := Option.bind_eq_some_iff.mp h
    refine fr_gR (k := 25) i172_164 tf12_25 h164 ?_
    refine fr_aload_n i172_167 rfl ?_
    obtain ⟨v168, h168, h⟩ := Option.bind_eq_some_iff.mp h
    refine fr_gI (k := 19) i172_168 tf12_19 h168 ?_
    refine rn_dup2 i172_171 rfl rfl ?_
    obtain ⟨v172, h172, h⟩ := Option.bind_eq_some_iff.mp h
    refine rn_iald i172_172 h172 ?_
    refine rn_iconst i172_173 ?_
    refine rn_iadd i172_174 ?_
    obtain ⟨w175, h175, h⟩ := Option.bind_eq_some_iff.mp h
    refine rn_iast i172_175 h175 ?_
    obtain rfl := Option.some.inj h
    exact rn_ret i172_176 mr172
  · rw [if_neg c145] at h
    refine rn_if_le_f i172_145 c145 ?_
    obtain rfl := Option.some.inj h
    exact rn_ret i172_148 mr172
def Mo_tellHeir_78 : Nat → Nat → Int → Int → Int → Wd → Option (Wd)
  | 0, _, _, _, _, _ => none
  | n + 1, a0, x1, x2, x3, w =>
    (fgI w a0 12 13).bind fun v79 =>
    if (v79 : Int) = 0 then
      (Mo_is a0 2 w).bind fun r87 =>
      if (r87.1 : Int) = 0 then
        Mo_tellHeir_136 a0 x2 r87.2
      else
        if (x3 : Int) = 6 then
          (Mo_fail a0 2 r87.2).bind fun r101 =>
          Mo_tellHeir_104 (Mo_tellHeir_78 n) a0 x1 x2 x3 r101
        else
          Mo_tellHeir_104 (Mo_tellHeir_78 n) a0 x1 x2 x3 r87.2
    else
      Mo_tellHeir_136 a0 x2 w
theorem s_Mo_tellHeir_78 {g : Gp} {l : Launch} {D : Nat} (hD : 4 ≤ D) : ∀ (n : Nat) (a0 : Nat) (x1 : Int) (x2 : Int) (x3 : Int) (w : Wd) (r : Wd), Mo_tellHeir_78 n a0 x1 x2 x3 w = some r → Rn g l D 172 78 [(0, .inr (.inr a0)), (1, .inl x1), (2, .inl x2), (3, .inl x3)] [] w none r := by
  obtain ⟨D, rfl⟩ : ∃ D1, D = D1 + 1 := ⟨D - 1, by omega⟩
  intro n
  induction n with
  | zero => intro a0 x1 x2 x3 w r h; cases (show (none : Option (Wd)) = some r from h)
  | succ n ih =>
    intro a0 x1 x2 x3 w r h
    unfold Mo_tellHeir_78 at h
    refine fr_aload_n i172_78 rfl ?_
    obtain ⟨v79, h79, h⟩ := Option.bind_eq_some_iff.mp h
    refine fr_gI (k := 13) i172_79 tf12_13 h79 ?_
    by_cases c82 : (v79 : Int) = 0
    · rw [if_pos c82] at h
      refine rn_if_ne_f i172_82 c82 ?_
      refine fr_aload_n i172_85 rfl ?_
      refine rn_iconst i172_86 ?_
      obtain ⟨r87, h87, h⟩ := Option.bind_eq_some_iff.mp h
      obtain ⟨g87, c87⟩ := S_Mo_is a0 2 w r87 h87
      refine fr_callV (a := a0) (As := [.inl 2]) (st := []) i172_87 (cq157 a0 2) rfl (Nat.le_of_ble_eq_true rfl) g87 (c87 _ (by omega)) ?_
      show Rn _ _ _ _ _ _ [.inl r87.1] _ _ _
      by_cases c90 : (r87.1 : Int) = 0
      · rw [if_pos c90] at h
        refine rn_if_eq_t i172_90 c90 ?_
        exact rn_sub [0, 2] rfl (s_Mo_tellHeir_136 hD a0 x2 r87.2 r h)
      · rw [if_neg c90] at h
        refine rn_if_eq_f i172_90 c90 ?_
        refine rn_iload_n i172_93 rfl ?_
        refine rn_bipush i172_94 ?_
        by_cases c96 : (x3 : Int) = 6
        · rw [if_pos c96] at h
          refine rn_icmp_ne_f i172_96 c96 ?_
          refine fr_aload_n i172_99 rfl ?_
          refine rn_iconst i172_100 ?_
          obtain ⟨r101, h101, h⟩ := Option.bind_eq_some_iff.mp h
          obtain ⟨g101, c101⟩ := S_Mo_fail a0 2 r87.2 r101 h101
          refine fr_callV (a := a0) (As := [.inl 2]) (st := []) i172_101 (cq158 a0 2) rfl (Nat.le_of_ble_eq_true rfl) g101 (c101 _ (by omega)) ?_
          exact rn_sub [0, 1, 2, 3] rfl (s_Mo_tellHeir_104 hD (Mo_tellHeir_78 n) ih a0 x1 x2 x3 r101 r h)
        · rw [if_neg c96] at h
          refine rn_icmp_ne_t i172_96 c96 ?_
          exact rn_sub [0, 1, 2, 3] rfl (s_Mo_tellHeir_104 hD (Mo_tellHeir_78 n) ih a0 x1 x2 x3 r87.2 r h)
    · rw [if_neg c82] at h
      refine rn_if_ne_t i172_82 c82 ?_
      exact rn_sub [0, 2] rfl (s_Mo_tellHeir_136 hD a0 x2 w r h)
def Mo_tellHeir_76 (a0 : Nat) (x1 : Int) (x2 : Int) (w : Wd) : Option (Wd) :=
  Mo_tellHeir_78 FU a0 x1 x2 0 w
theorem s_Mo_tellHeir_76 {g : Gp} {l : Launch} {D : Nat} (hD : 4 ≤ D) (a0 : Nat) (x1 : Int) (x2 : Int) (w : Wd) (r : Wd) (h : Mo_tellHeir_76 a0 x1 x2 w = some r) : Rn g l D 172 76 [(0, .inr (.inr a0)), (1, .inl x1), (2, .inl x2)] [] w none r := by
  unfold Mo_tellHeir_76 at h
  refine rn_iconst i172_76 ?_
  refine rn_istore_n (ls1 := [(3, .inl 0), (0, .inr (.inr a0)), (1, .inl x1), (2, .inl x2)]) i172_77 rfl ?_
  exact rn_sub [1, 2, 3, 0] rfl (s_Mo_tellHeir_78 hD FU a0 x1 x2 0 w r h)
def Mo_tellHeir_51 : Nat → Nat → Int → Int → Int → Wd → Option (Wd)
  | 0, _, _, _, _, _ => none
  | n + 1, a0, x1, x2, x3, w =>
    if (6 : Int) ≤ x3 then
      Mo_tellHeir_76 a0 x1 x2 w
    else
      (fgR w a0 12 28).bind fun v58 =>
      (wrI w v58 (w32 ((w32 (6 * x1)) + x3)) 50).bind fun w69 =>
      Mo_tellHeir_51 n a0 x1 x2 (w32 (x3 + 1)) w69
theorem s_Mo_tellHeir_51 {g : Gp} {l : Launch} {D : Nat} (hD : 4 ≤ D) : ∀ (n : Nat) (a0 : Nat) (x1 : Int) (x2 : Int) (x3 : Int) (w : Wd) (r : Wd), Mo_tellHeir_51 n a0 x1 x2 x3 w = some r → Rn g l D 172 51 [(0, .inr (.inr a0)), (1, .inl x1), (2, .inl x2), (3, .inl x3)] [] w none r := by
  intro n
  induction n with
  | zero => intro a0 x1 x2 x3 w r h; cases (show (none : Option (Wd)) = some r from h)
  | succ n ih =>
    intro a0 x1 x2 x3 w r h
    unfold Mo_tellHeir_51 at h
    refine rn_iload_n i172_51 rfl ?_
    refine rn_bipush i172_52 ?_
    by_cases c54 : (6 : Int) ≤ x3
    · rw [if_pos c54] at h
      refine rn_icmp_ge_t i172_54 c54 ?_
      exact rn_sub [0, 1, 2] rfl (s_Mo_tellHeir_76 hD a0 x1 x2 w r h)
    · rw [if_neg c54] at h
      refine rn_icmp_ge_f i172_54 c54 ?_
      refine fr_aload_n i172_57 rfl ?_
      obtain ⟨v58, h58, h⟩ := Option.bind_eq_some_iff.mp h
      refine fr_gR (k := 28) i172_58 tf12_28 h58 ?_
      refine rn_bipush i172_61 ?_
      refine rn_iload_n i172_63 rfl ?_
      refine rn_imul i172_64 ?_
      refine rn_iload_n i172_65 rfl ?_
      refine rn_iadd i172_66 ?_
      refine rn_bipush i172_67 ?_
      obtain ⟨w69, h69, h⟩ := Option.bind_eq_some_iff.mp h
      refine rn_iast i172_69 h69 ?_
      refine rn_iinc (ls1 := [(3, .inl (w32 (x3 + 1))), (0, .inr (.inr a0)), (1, .inl x1), (2, .inl x2)]) i172_70 rfl rfl ?_
      refine rn_goto i172_73 ?_
      exact rn_sub [1, 2, 3, 0] rfl (ih a0 x1 x2 (w32 (x3 + 1)) w69 r h)
def Mo_tellHeir_0 (a0 : Nat) (w : Wd) : Option (Wd) :=
  (fgI w a0 12 19).bind fun v3 =>
  (fgR w a0 12 25).bind fun v8 =>
  (fgI w a0 12 19).bind fun v12 =>
  (rdI w v8 v12).bind fun v15 =>
  (Mo_named a0 w).bind fun r19 =>
  (fgR r19.2 a0 12 26).bind fun v24 =>
  (Mo_bounded a0 0 99 r19.2).bind fun r32 =>
  (wrI r32.2 v24 (w32 ((w32 (6 * v3)) + v15)) r32.1).bind fun w35 =>
  (fgR w35 a0 12 27).bind fun v37 =>
  (Mo_bounded a0 0 9 w35).bind fun r45 =>
  (wrI r45.2 v37 (w32 ((w32 (6 * v3)) + v15)) r45.1).bind fun w48 =>
  Mo_tellHeir_51 FU a0 (w32 ((w32 (6 * v3)) + v15)) r19.1 0 w48
theorem s_Mo_tellHeir_0 {g : Gp} {l : Launch} {D : Nat} (hD : 4 ≤ D) (a0 : Nat) (w : Wd) (r : Wd) (h : Mo_tellHeir_0 a0 w = some r) : Rn g l D 172 0 [(0, .inr (.inr a0))] [] w none r := by
  obtain ⟨D, rfl⟩ : ∃ D1, D = D1 + 1 := ⟨D - 1, by omega⟩
  unfold Mo_tellHeir_0 at h
  refine rn_bipush i172_0 ?_
  refine fr_aload_n i172_2 rfl ?_
  obtain ⟨v3, h3, h⟩ := Option.bind_eq_some_iff.mp h
  refine fr_gI (k := 19) i172_3 tf12_19 h3 ?_
  refine rn_imul i172_6 ?_
  refine fr_aload_n i172_7 rfl ?_
  obtain ⟨v8, h8, h⟩ := Option.bind_eq_some_iff.mp h
  refine fr_gR (k := 25) i172_8 tf12_25 h8 ?_
  refine fr_aload_n i172_11 rfl ?_
  obtain ⟨v12, h12, h⟩ := Option.bind_eq_some_iff.mp h
  refine fr_gI (k := 19) i172_12 tf12_19 h12 ?_
  obtain ⟨v15, h15, h⟩ := Option.bind_eq_some_iff.mp h
  refine rn_iald i172_15 h15 ?_
  refine rn_iadd i172_16 ?_
  refine rn_istore_n (ls1 := [(1, .inl (w32 ((w32 (6 * v3)) + v15))), (0, .inr (.inr a0))]) i172_17 rfl ?_
  refine fr_aload_n i172_18 rfl ?_
  obtain ⟨r19, h19, h⟩ := Option.bind_eq_some_iff.mp h
  obtain ⟨g19, c19⟩ := S_Mo_named a0 w r19 h19
  refine fr_callV (a := a0) (As := []) (st := []) i172_19 (cq167 a0) rfl (Nat.le_of_ble_eq_true rfl) g19 (c19 _ (by omega)) ?_
  show Rn _ _ _ _ _ _ [.inl r19.1] _ _ _
  refine rn_istore_n (ls1 := [(2, .inl r19.1), (1, .inl (w32 ((w32 (6 * v3)) + v15))), (0, .inr (.inr a0))]) i172_22 rfl ?_
  refine fr_aload_n i172_23 rfl ?_
  obtain ⟨v24, h24, h⟩ := Option.bind_eq_some_iff.mp h
  refine fr_gR (k := 26) i172_24 tf12_26 h24 ?_
  refine rn_iload_n i172_27 rfl ?_
  refine fr_aload_n i172_28 rfl ?_
  refine rn_iconst i172_29 ?_
  refine rn_bipush i172_30 ?_
  obtain ⟨r32, h32, h⟩ := Option.bind_eq_some_iff.mp h
  obtain ⟨g32, c32⟩ := S_Mo_bounded a0 0 99 r19.2 r32 h32
  refine fr_callV (a := a0) (As := [.inl 0, .inl 99]) (st := [.inl (w32 ((w32 (6 * v3)) + v15)), .inr (.inr v24)]) i172_32 (cq170 a0 0 99) rfl (Nat.le_of_ble_eq_true rfl) g32 (c32 _ (by omega)) ?_
  show Rn _ _ _ _ _ _ [.inl r32.1, .inl (w32 ((w32 (6 * v3)) + v15)), .inr (.inr v24)] _ _ _
  obtain ⟨w35, h35, h⟩ := Option.bind_eq_some_iff.mp h
  refine rn_iast i172_35 h35 ?_
  refine fr_aload_n i172_36 rfl ?_
  obtain ⟨v37, h37, h⟩ := Option.bind_eq_some_iff.mp h
  refine fr_gR (k := 27) i172_37 tf12_27 h37 ?_
  refine rn_iload_n i172_40 rfl ?_
  refine fr_aload_n i172_41 rfl ?_
  refine rn_iconst i172_42 ?_
  refine rn_bipush i172_43 ?_
  obtain ⟨r45, h45, h⟩ := Option.bind_eq_some_iff.mp h
  obtain ⟨g45, c45⟩ := S_Mo_bounded a0 0 9 w35 r45 h45
  refine fr_callV (a := a0) (As := [.inl 0, .inl 9]) (st := [.inl (w32 ((w32 (6 * v3)) + v15)), .inr (.inr v37)]) i172_45 (cq170 a0 0 9) rfl (Nat.le_of_ble_eq_true rfl) g45 (c45 _ (by omega)) ?_
  show Rn _ _ _ _ _ _ [.inl r45.1, .inl (w32 ((w32 (6 * v3)) + v15)), .inr (.inr v37)] _ _ _
  obtain ⟨w48, h48, h⟩ := Option.bind_eq_some_iff.mp h
  refine rn_iast i172_48 h48 ?_
  refine rn_iconst i172_49 ?_
  refine rn_istore_n (ls1 := [(3, .inl 0), (2, .inl r19.1), (1, .inl (w32 ((w32 (6 * v3)) + v15))), (0, .inr (.inr a0))]) i172_50 rfl ?_
  exact rn_sub [3, 2, 1, 0] rfl (s_Mo_tellHeir_51 hD FU a0 (w32 ((w32 (6 * v3)) + v15)) r19.1 0 w48 r h)
/-- HandHeirsModel.tellHeir()V -/
def Mo_tellHeir (a0 : Nat) (w : Wd) : Option (Wd) := gd 12 w a0 (Mo_tellHeir_0 a0 w)
theorem S_Mo_tellHeir {g : Gp} {l : Launch} (a0 : Nat) (w : Wd) (r : Wd) (h : Mo_tellHeir a0 w = some r) : (wsh w a0).1 = 12 ∧ ∀ D, 4 ≤ D → Rn g l D 172 0 [(0, .inr (.inr a0))] [] w none r := by
  obtain ⟨hg, h⟩ := gd_some h
  exact ⟨hg, fun D hD => rn_sub [0] rfl (s_Mo_tellHeir_0 hD a0 w r h)⟩
def Mo_emit_0 (a0 : Nat) (x1 : Int) (x2 : Int) (w : Wd) : Option (Wd) :=
  (fgR w a0 12 42).bind fun v1 =>
  (fgI w a0 12 41).bind fun v5 =>
  (wrI w v1 v5 x1).bind fun w9 =>
  (fgR w9 a0 12 43).bind fun v11 =>
  (fgI w9 a0 12 41).bind fun v15 =>
  (wrI w9 v11 v15 x2).bind fun w19 =>
  (fgI w19 a0 12 41).bind fun v22 =>
  (fpI w19 a0 12 41 (w32 (v22 + 1))).bind fun w27 =>
  some w27
theorem s_Mo_emit_0 {g : Gp} {l : Launch} {D : Nat} (hD : 0 ≤ D) (a0 : Nat) (x1 : Int) (x2 : Int) (w : Wd) (r : Wd) (h : Mo_emit_0 a0 x1 x2 w = some r) : Rn g l D 176 0 [(0, .inr (.inr a0)), (1, .inl x1), (2, .inl x2)] [] w none r := by
  unfold Mo_emit_0 at h
  refine fr_aload_n i176_0 rfl ?_
  obtain ⟨v1, h1, h⟩ := Option.bind_eq_some_iff.mp h
  refine fr_gR (k := 42) i176_1 tf12_42 h1 ?_
  refine fr_aload_n i176_4 rfl ?_
  obtain ⟨v5, h5, h⟩ := Option.bind_eq_some_iff.mp h
  refine fr_gI (k := 41) i176_5 tf12_41 h5 ?_
  refine rn_iload_n i176_8 rfl ?_
  obtain ⟨w9, h9, h⟩ := Option.bind_eq_some_iff.mp h
  refine rn_iast i176_9 h9 ?_
  refine fr_aload_n i176_10 rfl ?_
  obtain ⟨v11, h11, h⟩ := Option.bind_eq_some_iff.mp h
  refine fr_gR (k := 43) i176_11 tf12_43 h11 ?_
  refine fr_aload_n i176_14 rfl ?_
  obtain ⟨v15, h15, h⟩ := Option.bind_eq_some_iff.mp h
  refine fr_gI (k := 41) i176_15 tf12_41 h15 ?_
  refine rn_iload_n i176_18 rfl ?_
  obtain ⟨w19, h19, h⟩ := Option.bind_eq_some_iff.mp h
  refine rn_iast i176_19 h19 ?_
  refine fr_aload_n i176_20 rfl ?_
  refine rn_dup i176_21 rfl ?_
  obtain ⟨v22, h22, h⟩ := Option.bind_eq_some_iff.mp h
  refine fr_gI (k := 41) i176_22 tf12_41 h22 ?_
  refine rn_iconst i176_25 ?_
  refine rn_iadd i176_26 ?_
  obtain ⟨w27, h27, h⟩ := Option.bind_eq_some_iff.mp h
  refine fr_pI (k := 41) i176_27 (pf12_41 176) h27 ?_
  obtain rfl := Option.some.inj h
  exact rn_ret i176_30 mr176
/-- HandHeirsModel.emit(II)V -/
def Mo_emit (a0 : Nat) (x1 : Int) (x2 : Int) (w : Wd) : Option (Wd) := gd 12 w a0 (Mo_emit_0 a0 x1 x2 w)
theorem S_Mo_emit {g : Gp} {l : Launch} (a0 : Nat) (x1 : Int) (x2 : Int) (w : Wd) (r : Wd) (h : Mo_emit a0 x1 x2 w = some r) : (wsh w a0).1 = 12 ∧ ∀ D, 0 ≤ D → Rn g l D 176 0 [(0, .inr (.inr a0)), (1, .inl x1), (2, .inl x2)] [] w none r := by
  obtain ⟨hg, h⟩ := gd_some h
  exact ⟨hg, fun D hD => rn_sub [0, 1, 2] rfl (s_Mo_emit_0 hD a0 x1 x2 w r h)⟩
def Mo_comesOut_41 (w : Wd) : Option (Wd) :=
  some w
theorem s_Mo_comesOut_41 {g : Gp} {l : Launch} {D : Nat} (hD : 1 ≤ D) (w : Wd) (r : Wd) (h : Mo_comesOut_41 w = some r) : Rn g l D 177 41 [] [] w none r := by
  unfold Mo_comesOut_41 at h
  obtain rfl := Option.some.inj h
  exact rn_ret i177_41 mr177
def Mo_comesOut_84 (k0 : Nat → Int → Wd → Option (Wd)) (a0 : Nat) (x1 : Int) (s0 : Int) (s1 : Nat) (w : Wd) : Option (Wd) :=
  (Mo_emit s1 s0 0 w).bind fun r85 =>
  k0 a0 x1 r85
theorem s_Mo_comesOut_84 {g : Gp} {l : Launch} {D : Nat} (hD : 1 ≤ D) (k0 : Nat → Int → Wd → Option (Wd)) (hk0 : ∀ (a0 : Nat) (x1 : Int) (w : Wd) (r : Wd), k0 a0 x1 w = some r → Rn g l D 177 0 [(0, .inr (.inr a0)), (1, .inl x1)] [] w none r) (a0 : Nat) (x1 : Int) (s0 : Int) (s1 : Nat) (w : Wd) (r : Wd) (h : Mo_comesOut_84 k0 a0 x1 s0 s1 w = some r) : Rn g l D 177 84 [(0, .inr (.inr a0)), (1, .inl x1)] [.inl s0, .inr (.inr s1)] w none r := by
  obtain ⟨D, rfl⟩ : ∃ D1, D = D1 + 1 := ⟨D - 1, by omega⟩
  unfold Mo_comesOut_84 at h
  refine rn_iconst i177_84 ?_
  obtain ⟨r85, h85, h⟩ := Option.bind_eq_some_iff.mp h
  obtain ⟨g85, c85⟩ := S_Mo_emit s1 s0 0 w r85 h85
  refine fr_callV (a := s1) (As := [.inl s0, .inl 0]) (st := []) i177_85 (cq176 s1 s0 0) rfl (Nat.le_of_ble_eq_true rfl) g85 (c85 _ (by omega)) ?_
  refine rn_goto i177_88 ?_
  exact rn_sub [0, 1] rfl (hk0 a0 x1 r85 r h)
def Mo_comesOut_42 (k0 : Nat → Int → Wd → Option (Wd)) (a0 : Nat) (x1 : Int) (x2 : Int) (w : Wd) : Option (Wd) :=
  (fgI w a0 12 45).bind fun v44 =>
  (fpI w a0 12 45 (w32 (v44 - 1))).bind fun w49 =>
  if (x2 : Int) = 8 then
    Mo_comesOut_84 k0 a0 x1 2 a0 w49
  else
    if (x2 : Int) = 9 then
      Mo_comesOut_84 k0 a0 x1 3 a0 w49
    else
      if (x2 : Int) = 10 then
        Mo_comesOut_84 k0 a0 x1 4 a0 w49
      else
        Mo_comesOut_84 k0 a0 x1 5 a0 w49
theorem s_Mo_comesOut_42 {g : Gp} {l : Launch} {D : Nat} (hD : 1 ≤ D) (k0 : Nat → Int → Wd → Option (Wd)) (hk0 : ∀ (a0 : Nat) (x1 : Int) (w : Wd) (r : Wd), k0 a0 x1 w = some r → Rn g l D 177 0 [(0, .inr (.inr a0)), (1, .inl x1)] [] w none r) (a0 : Nat) (x1 : Int) (x2 : Int) (w : Wd) (r : Wd) (h : Mo_comesOut_42 k0 a0 x1 x2 w = some r) : Rn g l D 177 42 [(0, .inr (.inr a0)), (1, .inl x1), (2, .inl x2)] [] w none r := by
  unfold Mo_comesOut_42 at h
  refine fr_aload_n i177_42 rfl ?_
  refine rn_dup i177_43 rfl ?_
  obtain ⟨v44, h44, h⟩ := Option.bind_eq_some_iff.mp h
  refine fr_gI (k := 45) i177_44 tf12_45 h44 ?_
  refine rn_iconst i177_47 ?_
  refine rn_isub i177_48 ?_
  obtain ⟨w49, h49, h⟩ := Option.bind_eq_some_iff.mp h
  refine fr_pI (k := 45) i177_49 (pf12_45 177) h49 ?_
  refine fr_aload_n i177_52 rfl ?_
  refine rn_iload_n i177_53 rfl ?_
  refine rn_bipush i177_54 ?_
  by_cases c56 : (x2 : Int) = 8
  · rw [if_pos c56] at h
    refine rn_icmp_ne_f i177_56 c56 ?_
    refine rn_iconst i177_59 ?_
    refine rn_goto i177_60 ?_
    exact rn_sub [0, 1] rfl (s_Mo_comesOut_84 hD k0 hk0 a0 x1 2 a0 w49 r h)
  · rw [if_neg c56] at h
    refine rn_icmp_ne_t i177_56 c56 ?_
    refine rn_iload_n i177_63 rfl ?_
    refine rn_bipush i177_64 ?_
    by_cases c66 : (x2 : Int) = 9
    · rw [if_pos c66] at h
      refine rn_icmp_ne_f i177_66 c66 ?_
      refine rn_iconst i177_69 ?_
      refine rn_goto i177_70 ?_
      exact rn_sub [0, 1] rfl (s_Mo_comesOut_84 hD k0 hk0 a0 x1 3 a0 w49 r h)
    · rw [if_neg c66] at h
      refine rn_icmp_ne_t i177_66 c66 ?_
      refine rn_iload_n i177_73 rfl ?_
      refine rn_bipush i177_74 ?_
      by_cases c76 : (x2 : Int) = 10
      · rw [if_pos c76] at h
        refine rn_icmp_ne_f i177_76 c76 ?_
        refine rn_iconst i177_79 ?_
        refine rn_goto i177_80 ?_
        exact rn_sub [0, 1] rfl (s_Mo_comesOut_84 hD k0 hk0 a0 x1 4 a0 w49 r h)
      · rw [if_neg c76] at h
        refine rn_icmp_ne_t i177_76 c76 ?_
        refine rn_iconst i177_83 ?_
        exact rn_sub [0, 1] rfl (s_Mo_comesOut_84 hD k0 hk0 a0 x1 5 a0 w49 r h)
def Mo_comesOut_0 : Nat → Nat → Int → Wd → Option (Wd)
  | 0, _, _, _ => none
  | n + 1, a0, x1, w =>
    (fgI w a0 12 45).bind fun v1 =>
    if (v1 : Int) ≤ 0 then
      some w
    else
      (fgR w a0 12 44).bind fun v8 =>
      (fgI w a0 12 45).bind fun v12 =>
      (rdI w v8 (w32 (v12 - 1))).bind fun v17 =>
      if (v17 : Int) = 6 then
        Mo_comesOut_41 w
      else
        if (x1 : Int) = 0 then
          Mo_comesOut_42 (Mo_comesOut_0 n) a0 x1 v17 w
        else
          if (v17 : Int) = 8 then
            Mo_comesOut_41 w
          else
            if (v17 : Int) = 9 then
              Mo_comesOut_41 w
            else
              Mo_comesOut_42 (Mo_comesOut_0 n) a0 x1 v17 w
theorem s_Mo_comesOut_0 {g : Gp} {l : Launch} {D : Nat} (hD : 1 ≤ D) : ∀ (n : Nat) (a0 : Nat) (x1 : Int) (w : Wd) (r : Wd), Mo_comesOut_0 n a0 x1 w = some r → Rn g l D 177 0 [(0, .inr (.inr a0)), (1, .inl x1)] [] w none r := by
  intro n
  induction n with
  | zero => intro a0 x1 w r h; cases (show (none : Option (Wd)) = some r from h)
  | succ n ih =>
    intro a0 x1 w r h
    unfold Mo_comesOut_0 at h
    refine fr_aload_n i177_0 rfl ?_
    obtain ⟨v1, h1, h⟩ := Option.bind_eq_some_iff.mp h
    refine fr_gI (k := 45) i177_1 tf12_45 h1 ?_
    by_cases c4 : (v1 : Int) ≤ 0
    · rw [if_pos c4] at h
      refine rn_if_le_t i177_4 c4 ?_
      obtain rfl := Option.some.inj h
      exact rn_ret i177_91 mr177
    · rw [if_neg c4] at h
      refine rn_if_le_f i177_4 c4 ?_
      refine fr_aload_n i177_7 rfl ?_
      obtain ⟨v8, h8, h⟩ := Option.bind_eq_some_iff.mp h
      refine fr_gR (k := 44) i177_8 tf12_44 h8 ?_
      refine fr_aload_n i177_11 rfl ?_
      obtain ⟨v12, h12, h⟩ := Option.bind_eq_some_iff.mp h
      refine fr_gI (k := 45) i177_12 tf12_45 h12 ?_
      refine rn_iconst i177_15 ?_
      refine rn_isub i177_16 ?_
      obtain ⟨v17, h17, h⟩ := Option.bind_eq_some_iff.mp h
      refine rn_iald i177_17 h17 ?_
      refine rn_istore_n (ls1 := [(2, .inl v17), (0, .inr (.inr a0)), (1, .inl x1)]) i177_18 rfl ?_
      refine rn_iload_n i177_19 rfl ?_
      refine rn_bipush i177_20 ?_
      by_cases c22 : (v17 : Int) = 6
      · rw [if_pos c22] at h
        refine rn_icmp_eq_t i177_22 c22 ?_
        exact rn_sub [] rfl (s_Mo_comesOut_41 hD w r h)
      · rw [if_neg c22] at h
        refine rn_icmp_eq_f i177_22 c22 ?_
        refine rn_iload_n i177_25 rfl ?_
        by_cases c26 : (x1 : Int) = 0
        · rw [if_pos c26] at h
          refine rn_if_eq_t i177_26 c26 ?_
          exact rn_sub [1, 2, 0] rfl (s_Mo_comesOut_42 hD (Mo_comesOut_0 n) ih a0 x1 v17 w r h)
        · rw [if_neg c26] at h
          refine rn_if_eq_f i177_26 c26 ?_
          refine rn_iload_n i177_29 rfl ?_
          refine rn_bipush i177_30 ?_
          by_cases c32 : (v17 : Int) = 8
          · rw [if_pos c32] at h
            refine rn_icmp_eq_t i177_32 c32 ?_
            exact rn_sub [] rfl (s_Mo_comesOut_41 hD w r h)
          · rw [if_neg c32] at h
            refine rn_icmp_eq_f i177_32 c32 ?_
            refine rn_iload_n i177_35 rfl ?_
            refine rn_bipush i177_36 ?_
            by_cases c38 : (v17 : Int) = 9
            · rw [if_pos c38] at h
              refine rn_icmp_ne_f i177_38 c38 ?_
              exact rn_sub [] rfl (s_Mo_comesOut_41 hD w r h)
            · rw [if_neg c38] at h
              refine rn_icmp_ne_t i177_38 c38 ?_
              exact rn_sub [1, 2, 0] rfl (s_Mo_comesOut_42 hD (Mo_comesOut_0 n) ih a0 x1 v17 w r h)
/-- HandHeirsModel.comesOut(Z)V -/
def Mo_comesOut (a0 : Nat) (x1 : Int) (w : Wd) : Option (Wd) := gd 12 w a0 (Mo_comesOut_0 FU a0 x1 w)
theorem S_Mo_comesOut {g : Gp} {l : Launch} (a0 : Nat) (x1 : Int) (w : Wd) (r : Wd) (h : Mo_comesOut a0 x1 w = some r) : (wsh w a0).1 = 12 ∧ ∀ D, 1 ≤ D → Rn g l D 177 0 [(0, .inr (.inr a0)), (1, .inl x1)] [] w none r := by
  obtain ⟨hg, h⟩ := gd_some h
  exact ⟨hg, fun D hD => rn_sub [0, 1] rfl (s_Mo_comesOut_0 hD FU a0 x1 w r h)⟩
def Mo_unit_130 (w : Wd) : Option (Wd) :=
  some w
theorem s_Mo_unit_130 {g : Gp} {l : Launch} {D : Nat} (hD : 2 ≤ D) (w : Wd) (r : Wd) (h : Mo_unit_130 w = some r) : Rn g l D 179 130 [] [] w none r := by
  unfold Mo_unit_130 at h
  obtain rfl := Option.some.inj h
  exact rn_ret i179_130 mr179
def Mo_unit_115 (a0 : Nat) (s0 : Int) (s1 : Int) (s2 : Nat) (w : Wd) : Option (Wd) :=
  (Mo_emit s2 s1 s0 w).bind fun r115 =>
  (Mo_goesOn a0 r115).bind fun r119 =>
  Mo_unit_130 r119
theorem s_Mo_unit_115 {g : Gp} {l : Launch} {D : Nat} (hD : 2 ≤ D) (a0 : Nat) (s0 : Int) (s1 : Int) (s2 : Nat) (w : Wd) (r : Wd) (h : Mo_unit_115 a0 s0 s1 s2 w = some r) : Rn g l D 179 115 [(0, .inr (.inr a0))] [.inl s0, .inl s1, .inr (.inr s2)] w none r := by
  obtain ⟨D, rfl⟩ : ∃ D1, D = D1 + 1 := ⟨D - 1, by omega⟩
  unfold Mo_unit_115 at h
  obtain ⟨r115, h115, h⟩ := Option.bind_eq_some_iff.mp h
  obtain ⟨g115, c115⟩ := S_Mo_emit s2 s1 s0 w r115 h115
  refine fr_callV (a := s2) (As := [.inl s1, .inl s0]) (st := []) i179_115 (cq176 s2 s1 s0) rfl (Nat.le_of_ble_eq_true rfl) g115 (c115 _ (by omega)) ?_
  refine fr_aload_n i179_118 rfl ?_
  obtain ⟨r119, h119, h⟩ := Option.bind_eq_some_iff.mp h
  obtain ⟨g119, c119⟩ := S_Mo_goesOn a0 r115 r119 h119
  refine fr_callV (a := a0) (As := []) (st := []) i179_119 (cq160 a0) rfl (Nat.le_of_ble_eq_true rfl) g119 (c119 _ (by omega)) ?_
  refine rn_goto i179_122 ?_
  exact rn_sub [] rfl (s_Mo_unit_130 hD r119 r h)
def Mo_unit_73 (a0 : Nat) (w : Wd) : Option (Wd) :=
  (Mo_is a0 20 w).bind fun r78 =>
  if (r78.1 : Int) = 0 then
    (Mo_is a0 31 r78.2).bind fun r91 =>
    if (r91.1 : Int) = 0 then
      (fgR r91.2 a0 12 5).bind fun v102 =>
      (fgI r91.2 a0 12 11).bind fun v106 =>
      (rdI r91.2 v102 v106).bind fun v109 =>
      Mo_unit_115 a0 (w32 ((w32 (v109 - 32)) + 2)) 1 a0 r91.2
    else
      Mo_unit_115 a0 0 1 a0 r91.2
  else
    Mo_unit_115 a0 1 1 a0 r78.2
theorem s_Mo_unit_73 {g : Gp} {l : Launch} {D : Nat} (hD : 2 ≤ D) (a0 : Nat) (w : Wd) (r : Wd) (h : Mo_unit_73 a0 w = some r) : Rn g l D 179 73 [(0, .inr (.inr a0))] [] w none r := by
  obtain ⟨D, rfl⟩ : ∃ D1, D = D1 + 1 := ⟨D - 1, by omega⟩
  unfold Mo_unit_73 at h
  refine fr_aload_n i179_73 rfl ?_
  refine rn_iconst i179_74 ?_
  refine fr_aload_n i179_75 rfl ?_
  refine rn_bipush i179_76 ?_
  obtain ⟨r78, h78, h⟩ := Option.bind_eq_some_iff.mp h
  obtain ⟨g78, c78⟩ := S_Mo_is a0 20 w r78 h78
  refine fr_callV (a := a0) (As := [.inl 20]) (st := [.inl 1, .inr (.inr a0)]) i179_78 (cq157 a0 20) rfl (Nat.le_of_ble_eq_true rfl) g78 (c78 _ (by omega)) ?_
  show Rn _ _ _ _ _ _ [.inl r78.1, .inl 1, .inr (.inr a0)] _ _ _
  by_cases c81 : (r78.1 : Int) = 0
  · rw [if_pos c81] at h
    refine rn_if_eq_t i179_81 c81 ?_
    refine fr_aload_n i179_88 rfl ?_
    refine rn_bipush i179_89 ?_
    obtain ⟨r91, h91, h⟩ := Option.bind_eq_some_iff.mp h
    obtain ⟨g91, c91⟩ := S_Mo_is a0 31 r78.2 r91 h91
    refine fr_callV (a := a0) (As := [.inl 31]) (st := [.inl 1, .inr (.inr a0)]) i179_91 (cq157 a0 31) rfl (Nat.le_of_ble_eq_true rfl) g91 (c91 _ (by omega)) ?_
    show Rn _ _ _ _ _ _ [.inl r91.1, .inl 1, .inr (.inr a0)] _ _ _
    by_cases c94 : (r91.1 : Int) = 0
    · rw [if_pos c94] at h
      refine rn_if_eq_t i179_94 c94 ?_
      refine fr_aload_n i179_101 rfl ?_
      obtain ⟨v102, h102, h⟩ := Option.bind_eq_some_iff.mp h
      refine fr_gR (k := 5) i179_102 tf12_5 h102 ?_
      refine fr_aload_n i179_105 rfl ?_
      obtain ⟨v106, h106, h⟩ := Option.bind_eq_some_iff.mp h
      refine fr_gI (k := 11) i179_106 tf12_11 h106 ?_
      obtain ⟨v109, h109, h⟩ := Option.bind_eq_some_iff.mp h
      refine rn_iald i179_109 h109 ?_
      refine rn_bipush i179_110 ?_
      refine rn_isub i179_112 ?_
      refine rn_iconst i179_113 ?_
      refine rn_iadd i179_114 ?_
      exact rn_sub [0] rfl (s_Mo_unit_115 hD a0 (w32 ((w32 (v109 - 32)) + 2)) 1 a0 r91.2 r h)
    · rw [if_neg c94] at h
      refine rn_if_eq_f i179_94 c94 ?_
      refine rn_iconst i179_97 ?_
      refine rn_goto i179_98 ?_
      exact rn_sub [0] rfl (s_Mo_unit_115 hD a0 0 1 a0 r91.2 r h)
  · rw [if_neg c81] at h
    refine rn_if_eq_f i179_81 c81 ?_
    refine rn_iconst i179_84 ?_
    refine rn_goto i179_85 ?_
    exact rn_sub [0] rfl (s_Mo_unit_115 hD a0 1 1 a0 r78.2 r h)
def Mo_unit_125 (a0 : Nat) (w : Wd) : Option (Wd) :=
  (Mo_fail a0 1 w).bind fun r127 =>
  Mo_unit_130 r127
theorem s_Mo_unit_125 {g : Gp} {l : Launch} {D : Nat} (hD : 2 ≤ D) (a0 : Nat) (w : Wd) (r : Wd) (h : Mo_unit_125 a0 w = some r) : Rn g l D 179 125 [(0, .inr (.inr a0))] [] w none r := by
  obtain ⟨D, rfl⟩ : ∃ D1, D = D1 + 1 := ⟨D - 1, by omega⟩
  unfold Mo_unit_125 at h
  refine fr_aload_n i179_125 rfl ?_
  refine rn_iconst i179_126 ?_
  obtain ⟨r127, h127, h⟩ := Option.bind_eq_some_iff.mp h
  obtain ⟨g127, c127⟩ := S_Mo_fail a0 1 w r127 h127
  refine fr_callV (a := a0) (As := [.inl 1]) (st := []) i179_127 (cq158 a0 1) rfl (Nat.le_of_ble_eq_true rfl) g127 (c127 _ (by omega)) ?_
  exact rn_sub [] rfl (s_Mo_unit_130 hD r127 r h)
def Mo_unit_64 (a0 : Nat) (w : Wd) : Option (Wd) :=
  (Mo_is a0 20 w).bind fun r67 =>
  if (r67.1 : Int) = 0 then
    Mo_unit_125 a0 r67.2
  else
    Mo_unit_73 a0 r67.2
theorem s_Mo_unit_64 {g : Gp} {l : Launch} {D : Nat} (hD : 2 ≤ D) (a0 : Nat) (w : Wd) (r : Wd) (h : Mo_unit_64 a0 w = some r) : Rn g l D 179 64 [(0, .inr (.inr a0))] [] w none r := by
  obtain ⟨D, rfl⟩ : ∃ D1, D = D1 + 1 := ⟨D - 1, by omega⟩
  unfold Mo_unit_64 at h
  refine fr_aload_n i179_64 rfl ?_
  refine rn_bipush i179_65 ?_
  obtain ⟨r67, h67, h⟩ := Option.bind_eq_some_iff.mp h
  obtain ⟨g67, c67⟩ := S_Mo_is a0 20 w r67 h67
  refine fr_callV (a := a0) (As := [.inl 20]) (st := []) i179_67 (cq157 a0 20) rfl (Nat.le_of_ble_eq_true rfl) g67 (c67 _ (by omega)) ?_
  show Rn _ _ _ _ _ _ [.inl r67.1] _ _ _
  by_cases c70 : (r67.1 : Int) = 0
  · rw [if_pos c70] at h
    refine rn_if_eq_t i179_70 c70 ?_
    exact rn_sub [0] rfl (s_Mo_unit_125 hD a0 r67.2 r h)
  · rw [if_neg c70] at h
    refine rn_if_eq_f i179_70 c70 ?_
    exact rn_sub [0] rfl (s_Mo_unit_73 hD a0 r67.2 r h)
def Mo_unit_0 (a0 : Nat) (w : Wd) : Option (Wd) :=
  (Mo_is a0 2 w).bind fun r2 =>
  if (r2.1 : Int) = 0 then
    (fgI r2.2 a0 12 13).bind fun v30 =>
    if (v30 : Int) = 0 then
      (fgR r2.2 a0 12 5).bind fun v37 =>
      (fgI r2.2 a0 12 11).bind fun v41 =>
      (rdI r2.2 v37 v41).bind fun v44 =>
      if (v44 : Int) < 31 then
        Mo_unit_64 a0 r2.2
      else
        (fgR r2.2 a0 12 5).bind fun v51 =>
        (fgI r2.2 a0 12 11).bind fun v55 =>
        (rdI r2.2 v51 v55).bind fun v58 =>
        if (v58 : Int) ≤ 36 then
          Mo_unit_73 a0 r2.2
        else
          Mo_unit_64 a0 r2.2
    else
      Mo_unit_125 a0 r2.2
  else
    (fgR r2.2 a0 12 7).bind fun v11 =>
    (fgI r2.2 a0 12 11).bind fun v15 =>
    (rdI r2.2 v11 v15).bind fun v18 =>
    (Mo_emit a0 0 v18 r2.2).bind fun r19 =>
    (Mo_goesOn a0 r19).bind fun r23 =>
    Mo_unit_130 r23
theorem s_Mo_unit_0 {g : Gp} {l : Launch} {D : Nat} (hD : 2 ≤ D) (a0 : Nat) (w : Wd) (r : Wd) (h : Mo_unit_0 a0 w = some r) : Rn g l D 179 0 [(0, .inr (.inr a0))] [] w none r := by
  obtain ⟨D, rfl⟩ : ∃ D1, D = D1 + 1 := ⟨D - 1, by omega⟩
  unfold Mo_unit_0 at h
  refine fr_aload_n i179_0 rfl ?_
  refine rn_iconst i179_1 ?_
  obtain ⟨r2, h2, h⟩ := Option.bind_eq_some_iff.mp h
  obtain ⟨g2, c2⟩ := S_Mo_is a0 2 w r2 h2
  refine fr_callV (a := a0) (As := [.inl 2]) (st := []) i179_2 (cq157 a0 2) rfl (Nat.le_of_ble_eq_true rfl) g2 (c2 _ (by omega)) ?_
  show Rn _ _ _ _ _ _ [.inl r2.1] _ _ _
  by_cases c5 : (r2.1 : Int) = 0
  · rw [if_pos c5] at h
    refine rn_if_eq_t i179_5 c5 ?_
    refine fr_aload_n i179_29 rfl ?_
    obtain ⟨v30, h30, h⟩ := Option.bind_eq_some_iff.mp h
    refine fr_gI (k := 13) i179_30 tf12_13 h30 ?_
    by_cases c33 : (v30 : Int) = 0
    · rw [if_pos c33] at h
      refine rn_if_ne_f i179_33 c33 ?_
      refine fr_aload_n i179_36 rfl ?_
      obtain ⟨v37, h37, h⟩ := Option.bind_eq_some_iff.mp h
      refine fr_gR (k := 5) i179_37 tf12_5 h37 ?_
      refine fr_aload_n i179_40 rfl ?_
      obtain ⟨v41, h41, h⟩ := Option.bind_eq_some_iff.mp h
      refine fr_gI (k := 11) i179_41 tf12_11 h41 ?_
      obtain ⟨v44, h44, h⟩ := Option.bind_eq_some_iff.mp h
      refine rn_iald i179_44 h44 ?_
      refine rn_bipush i179_45 ?_
      by_cases c47 : (v44 : Int) < 31
      · rw [if_pos c47] at h
        refine rn_icmp_lt_t i179_47 c47 ?_
        exact rn_sub [0] rfl (s_Mo_unit_64 hD a0 r2.2 r h)
      · rw [if_neg c47] at h
        refine rn_icmp_lt_f i179_47 c47 ?_
        refine fr_aload_n i179_50 rfl ?_
        obtain ⟨v51, h51, h⟩ := Option.bind_eq_some_iff.mp h
        refine fr_gR (k := 5) i179_51 tf12_5 h51 ?_
        refine fr_aload_n i179_54 rfl ?_
        obtain ⟨v55, h55, h⟩ := Option.bind_eq_some_iff.mp h
        refine fr_gI (k := 11) i179_55 tf12_11 h55 ?_
        obtain ⟨v58, h58, h⟩ := Option.bind_eq_some_iff.mp h
        refine rn_iald i179_58 h58 ?_
        refine rn_bipush i179_59 ?_
        by_cases c61 : (v58 : Int) ≤ 36
        · rw [if_pos c61] at h
          refine rn_icmp_le_t i179_61 c61 ?_
          exact rn_sub [0] rfl (s_Mo_unit_73 hD a0 r2.2 r h)
        · rw [if_neg c61] at h
          refine rn_icmp_le_f i179_61 c61 ?_
          exact rn_sub [0] rfl (s_Mo_unit_64 hD a0 r2.2 r h)
    · rw [if_neg c33] at h
      refine rn_if_ne_t i179_33 c33 ?_
      exact rn_sub [0] rfl (s_Mo_unit_125 hD a0 r2.2 r h)
  · rw [if_neg c5] at h
    refine rn_if_eq_f i179_5 c5 ?_
    refine fr_aload_n i179_8 rfl ?_
    refine rn_iconst i179_9 ?_
    refine fr_aload_n i179_10 rfl ?_
    obtain ⟨v11, h11, h⟩ := Option.bind_eq_some_iff.mp h
    refine fr_gR (k := 7) i179_11 tf12_7 h11 ?_
    refine fr_aload_n i179_14 rfl ?_
    obtain ⟨v15, h15, h⟩ := Option.bind_eq_some_iff.mp h
    refine fr_gI (k := 11) i179_15 tf12_11 h15 ?_
    obtain ⟨v18, h18, h⟩ := Option.bind_eq_some_iff.mp h
    refine rn_iald i179_18 h18 ?_
    obtain ⟨r19, h19, h⟩ := Option.bind_eq_some_iff.mp h
    obtain ⟨g19, c19⟩ := S_Mo_emit a0 0 v18 r2.2 r19 h19
    refine fr_callV (a := a0) (As := [.inl 0, .inl v18]) (st := []) i179_19 (cq176 a0 0 v18) rfl (Nat.le_of_ble_eq_true rfl) g19 (c19 _ (by omega)) ?_
    refine fr_aload_n i179_22 rfl ?_
    obtain ⟨r23, h23, h⟩ := Option.bind_eq_some_iff.mp h
    obtain ⟨g23, c23⟩ := S_Mo_goesOn a0 r19 r23 h23
    refine fr_callV (a := a0) (As := []) (st := []) i179_23 (cq160 a0) rfl (Nat.le_of_ble_eq_true rfl) g23 (c23 _ (by omega)) ?_
    refine rn_goto i179_26 ?_
    exact rn_sub [] rfl (s_Mo_unit_130 hD r23 r h)
/-- HandHeirsModel.unit()V -/
def Mo_unit (a0 : Nat) (w : Wd) : Option (Wd) := gd 12 w a0 (Mo_unit_0 a0 w)
theorem S_Mo_unit {g : Gp} {l : Launch} (a0 : Nat) (w : Wd) (r : Wd) (h : Mo_unit a0 w = some r) : (wsh w a0).1 = 12 ∧ ∀ D, 2 ≤ D → Rn g l D 179 0 [(0, .inr (.inr a0))] [] w none r := by
  obtain ⟨hg, h⟩ := gd_some h
  exact ⟨hg, fun D hD => rn_sub [0] rfl (s_Mo_unit_0 hD a0 w r h)⟩
def Mo_expression_46 (k12 : Nat → Int → Int → Wd → Option (Wd)) (k23 : Nat → Int → Wd → Option (Wd)) (a0 : Nat) (x1 : Int) (w : Wd) : Option (Wd) :=
  (fgI w a0 12 12).bind fun v48 =>
  (fpI w a0 12 12 (w32 (v48 + 1))).bind fun w53 =>
  (Mo_goesOn a0 w53).bind fun r57 =>
  (fgR r57 a0 12 44).bind fun v61 =>
  (fgI r57 a0 12 45).bind fun v65 =>
  (wrI r57 v61 v65 6).bind fun w70 =>
  (fgI w70 a0 12 45).bind fun v73 =>
  (fpI w70 a0 12 45 (w32 (v73 + 1))).bind fun w78 =>
  k23 a0 x1 w78
theorem s_Mo_expression_46 {g : Gp} {l : Launch} {D : Nat} (hD : 3 ≤ D) (k12 : Nat → Int → Int → Wd → Option (Wd)) (hk12 : ∀ (a0 : Nat) (x1 : Int) (x2 : Int) (w : Wd) (r : Wd), k12 a0 x1 x2 w = some r → Rn g l D 178 12 [(0, .inr (.inr a0)), (1, .inl x1), (2, .inl x2)] [] w none r) (k23 : Nat → Int → Wd → Option (Wd)) (hk23 : ∀ (a0 : Nat) (x1 : Int) (w : Wd) (r : Wd), k23 a0 x1 w = some r → Rn g l D 178 23 [(0, .inr (.inr a0)), (1, .inl x1)] [] w none r) (a0 : Nat) (x1 : Int) (w : Wd) (r : Wd) (h : Mo_expression_46 k12 k23 a0 x1 w = some r) : Rn g l D 178 46 [(0, .inr (.inr a0)), (1, .inl x1)] [] w none r := by
  obtain ⟨D, rfl⟩ : ∃ D1, D = D1 + 1 := ⟨D - 1, by omega⟩
  unfold Mo_expression_46 at h
  refine fr_aload_n i178_46 rfl ?_
  refine rn_dup i178_47 rfl ?_
  obtain ⟨v48, h48, h⟩ := Option.bind_eq_some_iff.mp h
  refine fr_gI (k := 12) i178_48 tf12_12 h48 ?_
  refine rn_iconst i178_51 ?_
  refine rn_iadd i178_52 ?_
  obtain ⟨w53, h53, h⟩ := Option.bind_eq_some_iff.mp h
  refine fr_pI (k := 12) i178_53 (pf12_12 178) h53 ?_
  refine fr_aload_n i178_56 rfl ?_
  obtain ⟨r57, h57, h⟩ := Option.bind_eq_some_iff.mp h
  obtain ⟨g57, c57⟩ := S_Mo_goesOn a0 w53 r57 h57
  refine fr_callV (a := a0) (As := []) (st := []) i178_57 (cq160 a0) rfl (Nat.le_of_ble_eq_true rfl) g57 (c57 _ (by omega)) ?_
  refine fr_aload_n i178_60 rfl ?_
  obtain ⟨v61, h61, h⟩ := Option.bind_eq_some_iff.mp h
  refine fr_gR (k := 44) i178_61 tf12_44 h61 ?_
  refine fr_aload_n i178_64 rfl ?_
  obtain ⟨v65, h65, h⟩ := Option.bind_eq_some_iff.mp h
  refine fr_gI (k := 45) i178_65 tf12_45 h65 ?_
  refine rn_bipush i178_68 ?_
  obtain ⟨w70, h70, h⟩ := Option.bind_eq_some_iff.mp h
  refine rn_iast i178_70 h70 ?_
  refine fr_aload_n i178_71 rfl ?_
  refine rn_dup i178_72 rfl ?_
  obtain ⟨v73, h73, h⟩ := Option.bind_eq_some_iff.mp h
  refine fr_gI (k := 45) i178_73 tf12_45 h73 ?_
  refine rn_iconst i178_76 ?_
  refine rn_iadd i178_77 ?_
  obtain ⟨w78, h78, h⟩ := Option.bind_eq_some_iff.mp h
  refine fr_pI (k := 45) i178_78 (pf12_45 178) h78 ?_
  refine rn_goto i178_81 ?_
  exact rn_sub [0, 1] rfl (hk23 a0 x1 w78 r h)
def Mo_expression_204 (a0 : Nat) (w : Wd) : Option (Wd) :=
  (Mo_comesOut a0 0 w).bind fun r206 =>
  some r206
theorem s_Mo_expression_204 {g : Gp} {l : Launch} {D : Nat} (hD : 3 ≤ D) (a0 : Nat) (w : Wd) (r : Wd) (h : Mo_expression_204 a0 w = some r) : Rn g l D 178 204 [(0, .inr (.inr a0))] [] w none r := by
  obtain ⟨D, rfl⟩ : ∃ D1, D = D1 + 1 := ⟨D - 1, by omega⟩
  unfold Mo_expression_204 at h
  refine fr_aload_n i178_204 rfl ?_
  refine rn_iconst i178_205 ?_
  obtain ⟨r206, h206, h⟩ := Option.bind_eq_some_iff.mp h
  obtain ⟨g206, c206⟩ := S_Mo_comesOut a0 0 w r206 h206
  refine fr_callV (a := a0) (As := [.inl 0]) (st := []) i178_206 (cq177 a0 0) rfl (Nat.le_of_ble_eq_true rfl) g206 (c206 _ (by omega)) ?_
  obtain rfl := Option.some.inj h
  exact rn_ret i178_209 mr178
def Mo_expression_191 (a0 : Nat) (x1 : Int) (w : Wd) : Option (Wd) :=
  (fgI w a0 12 12).bind fun v192 =>
  if (v192 : Int) ≤ x1 then
    Mo_expression_204 a0 w
  else
    (Mo_fail a0 1 w).bind fun r201 =>
    Mo_expression_204 a0 r201
theorem s_Mo_expression_191 {g : Gp} {l : Launch} {D : Nat} (hD : 3 ≤ D) (a0 : Nat) (x1 : Int) (w : Wd) (r : Wd) (h : Mo_expression_191 a0 x1 w = some r) : Rn g l D 178 191 [(0, .inr (.inr a0)), (1, .inl x1)] [] w none r := by
  obtain ⟨D, rfl⟩ : ∃ D1, D = D1 + 1 := ⟨D - 1, by omega⟩
  unfold Mo_expression_191 at h
  refine fr_aload_n i178_191 rfl ?_
  obtain ⟨v192, h192, h⟩ := Option.bind_eq_some_iff.mp h
  refine fr_gI (k := 12) i178_192 tf12_12 h192 ?_
  refine rn_iload_n i178_195 rfl ?_
  by_cases c196 : (v192 : Int) ≤ x1
  · rw [if_pos c196] at h
    refine rn_icmp_le_t i178_196 c196 ?_
    exact rn_sub [0] rfl (s_Mo_expression_204 hD a0 w r h)
  · rw [if_neg c196] at h
    refine rn_icmp_le_f i178_196 c196 ?_
    refine fr_aload_n i178_199 rfl ?_
    refine rn_iconst i178_200 ?_
    obtain ⟨r201, h201, h⟩ := Option.bind_eq_some_iff.mp h
    obtain ⟨g201, c201⟩ := S_Mo_fail a0 1 w r201 h201
    refine fr_callV (a := a0) (As := [.inl 1]) (st := []) i178_201 (cq158 a0 1) rfl (Nat.le_of_ble_eq_true rfl) g201 (c201 _ (by omega)) ?_
    exact rn_sub [0] rfl (s_Mo_expression_204 hD a0 r201 r h)
def Mo_expression_234 (k12 : Nat → Int → Int → Wd → Option (Wd)) (a0 : Nat) (x1 : Int) (x2 : Int) (s0 : Int) (s1 : Nat) (w : Wd) : Option (Wd) :=
  (Mo_comesOut s1 s0 w).bind fun r234 =>
  (fgR r234 a0 12 44).bind fun v238 =>
  (fgI r234 a0 12 45).bind fun v242 =>
  (fgR r234 a0 12 5).bind fun v246 =>
  (fgI r234 a0 12 11).bind fun v250 =>
  (rdI r234 v246 v250).bind fun v253 =>
  (wrI r234 v238 v242 v253).bind fun w254 =>
  (fgI w254 a0 12 45).bind fun v257 =>
  (fpI w254 a0 12 45 (w32 (v257 + 1))).bind fun w262 =>
  (Mo_goesOn a0 w262).bind fun r266 =>
  k12 a0 x1 x2 r266
theorem s_Mo_expression_234 {g : Gp} {l : Launch} {D : Nat} (hD : 3 ≤ D) (k12 : Nat → Int → Int → Wd → Option (Wd)) (hk12 : ∀ (a0 : Nat) (x1 : Int) (x2 : Int) (w : Wd) (r : Wd), k12 a0 x1 x2 w = some r → Rn g l D 178 12 [(0, .inr (.inr a0)), (1, .inl x1), (2, .inl x2)] [] w none r) (a0 : Nat) (x1 : Int) (x2 : Int) (s0 : Int) (s1 : Nat) (w : Wd) (r : Wd) (h : Mo_expression_234 k12 a0 x1 x2 s0 s1 w = some r) : Rn g l D 178 234 [(0, .inr (.inr a0)), (1, .inl x1), (2, .inl x2)] [.inl s0, .inr (.inr s1)] w none r := by
  obtain ⟨D, rfl⟩ : ∃ D1, D = D1 + 1 := ⟨D - 1, by omega⟩
  unfold Mo_expression_234 at h
  obtain ⟨r234, h234, h⟩ := Option.bind_eq_some_iff.mp h
  obtain ⟨g234, c234⟩ := S_Mo_comesOut s1 s0 w r234 h234
  refine fr_callV (a := s1) (As := [.inl s0]) (st := []) i178_234 (cq177 s1 s0) rfl (Nat.le_of_ble_eq_true rfl) g234 (c234 _ (by omega)) ?_
  refine fr_aload_n i178_237 rfl ?_
  obtain ⟨v238, h238, h⟩ := Option.bind_eq_some_iff.mp h
  refine fr_gR (k := 44) i178_238 tf12_44 h238 ?_
  refine fr_aload_n i178_241 rfl ?_
  obtain ⟨v242, h242, h⟩ := Option.bind_eq_some_iff.mp h
  refine fr_gI (k := 45) i178_242 tf12_45 h242 ?_
  refine fr_aload_n i178_245 rfl ?_
  obtain ⟨v246, h246, h⟩ := Option.bind_eq_some_iff.mp h
  refine fr_gR (k := 5) i178_246 tf12_5 h246 ?_
  refine fr_aload_n i178_249 rfl ?_
  obtain ⟨v250, h250, h⟩ := Option.bind_eq_some_iff.mp h
  refine fr_gI (k := 11) i178_250 tf12_11 h250 ?_
  obtain ⟨v253, h253, h⟩ := Option.bind_eq_some_iff.mp h
  refine rn_iald i178_253 h253 ?_
  obtain ⟨w254, h254, h⟩ := Option.bind_eq_some_iff.mp h
  refine rn_iast i178_254 h254 ?_
  refine fr_aload_n i178_255 rfl ?_
  refine rn_dup i178_256 rfl ?_
  obtain ⟨v257, h257, h⟩ := Option.bind_eq_some_iff.mp h
  refine fr_gI (k := 45) i178_257 tf12_45 h257 ?_
  refine rn_iconst i178_260 ?_
  refine rn_iadd i178_261 ?_
  obtain ⟨w262, h262, h⟩ := Option.bind_eq_some_iff.mp h
  refine fr_pI (k := 45) i178_262 (pf12_45 178) h262 ?_
  refine fr_aload_n i178_265 rfl ?_
  obtain ⟨r266, h266, h⟩ := Option.bind_eq_some_iff.mp h
  obtain ⟨g266, c266⟩ := S_Mo_goesOn a0 w262 r266 h266
  refine fr_callV (a := a0) (As := []) (st := []) i178_266 (cq160 a0) rfl (Nat.le_of_ble_eq_true rfl) g266 (c266 _ (by omega)) ?_
  refine rn_goto i178_269 ?_
  exact rn_sub [0, 1, 2] rfl (hk12 a0 x1 x2 r266 r h)
def Mo_expression_229 (k12 : Nat → Int → Int → Wd → Option (Wd)) (a0 : Nat) (x1 : Int) (x2 : Int) (s0 : Nat) (w : Wd) : Option (Wd) :=
  Mo_expression_234 k12 a0 x1 x2 1 s0 w
theorem s_Mo_expression_229 {g : Gp} {l : Launch} {D : Nat} (hD : 3 ≤ D) (k12 : Nat → Int → Int → Wd → Option (Wd)) (hk12 : ∀ (a0 : Nat) (x1 : Int) (x2 : Int) (w : Wd) (r : Wd), k12 a0 x1 x2 w = some r → Rn g l D 178 12 [(0, .inr (.inr a0)), (1, .inl x1), (2, .inl x2)] [] w none r) (a0 : Nat) (x1 : Int) (x2 : Int) (s0 : Nat) (w : Wd) (r : Wd) (h : Mo_expression_229 k12 a0 x1 x2 s0 w = some r) : Rn g l D 178 229 [(0, .inr (.inr a0)), (1, .inl x1), (2, .inl x2)] [.inr (.inr s0)] w none r := by
  unfold Mo_expression_229 at h
  refine rn_iconst i178_229 ?_
  refine rn_goto i178_230 ?_
  exact rn_sub [0, 1, 2] rfl (s_Mo_expression_234 hD k12 hk12 a0 x1 x2 1 s0 w r h)
def Mo_expression_186 (k12 : Nat → Int → Int → Wd → Option (Wd)) (a0 : Nat) (x1 : Int) (s0 : Int) (w : Wd) : Option (Wd) :=
  if (s0 : Int) = 0 then
    Mo_expression_191 a0 x1 w
  else
    (Mo_is a0 10 w).bind fun r214 =>
    if (r214.1 : Int) = 0 then
      (Mo_is a0 15 r214.2).bind fun r223 =>
      if (r223.1 : Int) = 0 then
        Mo_expression_234 k12 a0 x1 s0 0 a0 r223.2
      else
        Mo_expression_229 k12 a0 x1 s0 a0 r223.2
    else
      Mo_expression_229 k12 a0 x1 s0 a0 r214.2
theorem s_Mo_expression_186 {g : Gp} {l : Launch} {D : Nat} (hD : 3 ≤ D) (k12 : Nat → Int → Int → Wd → Option (Wd)) (hk12 : ∀ (a0 : Nat) (x1 : Int) (x2 : Int) (w : Wd) (r : Wd), k12 a0 x1 x2 w = some r → Rn g l D 178 12 [(0, .inr (.inr a0)), (1, .inl x1), (2, .inl x2)] [] w none r) (a0 : Nat) (x1 : Int) (s0 : Int) (w : Wd) (r : Wd) (h : Mo_expression_186 k12 a0 x1 s0 w = some r) : Rn g l D 178 186 [(0, .inr (.inr a0)), (1, .inl x1)] [.inl s0] w none r := by
  obtain ⟨D, rfl⟩ : ∃ D1, D = D1 + 1 := ⟨D - 1, by omega⟩
  unfold Mo_expression_186 at h
  refine rn_istore_n (ls1 := [(2, .inl s0), (0, .inr (.inr a0)), (1, .inl x1)]) i178_186 rfl ?_
  refine rn_iload_n i178_187 rfl ?_
  by_cases c188 : (s0 : Int) = 0
  · rw [if_pos c188] at h
    refine rn_if_ne_f i178_188 c188 ?_
    exact rn_sub [1, 2] rfl (s_Mo_expression_191 hD a0 x1 w r h)
  · rw [if_neg c188] at h
    refine rn_if_ne_t i178_188 c188 ?_
    refine fr_aload_n i178_210 rfl ?_
    refine fr_aload_n i178_211 rfl ?_
    refine rn_bipush i178_212 ?_
    obtain ⟨r214, h214, h⟩ := Option.bind_eq_some_iff.mp h
    obtain ⟨g214, c214⟩ := S_Mo_is a0 10 w r214 h214
    refine fr_callV (a := a0) (As := [.inl 10]) (st := [.inr (.inr a0)]) i178_214 (cq157 a0 10) rfl (Nat.le_of_ble_eq_true rfl) g214 (c214 _ (by omega)) ?_
    show Rn _ _ _ _ _ _ [.inl r214.1, .inr (.inr a0)] _ _ _
    by_cases c217 : (r214.1 : Int) = 0
    · rw [if_pos c217] at h
      refine rn_if_ne_f i178_217 c217 ?_
      refine fr_aload_n i178_220 rfl ?_
      refine rn_bipush i178_221 ?_
      obtain ⟨r223, h223, h⟩ := Option.bind_eq_some_iff.mp h
      obtain ⟨g223, c223⟩ := S_Mo_is a0 15 r214.2 r223 h223
      refine fr_callV (a := a0) (As := [.inl 15]) (st := [.inr (.inr a0)]) i178_223 (cq157 a0 15) rfl (Nat.le_of_ble_eq_true rfl) g223 (c223 _ (by omega)) ?_
      show Rn _ _ _ _ _ _ [.inl r223.1, .inr (.inr a0)] _ _ _
      by_cases c226 : (r223.1 : Int) = 0
      · rw [if_pos c226] at h
        refine rn_if_eq_t i178_226 c226 ?_
        refine rn_iconst i178_233 ?_
        exact rn_sub [1, 2, 0] rfl (s_Mo_expression_234 hD k12 hk12 a0 x1 s0 0 a0 r223.2 r h)
      · rw [if_neg c226] at h
        refine rn_if_eq_f i178_226 c226 ?_
        exact rn_sub [1, 2, 0] rfl (s_Mo_expression_229 hD k12 hk12 a0 x1 s0 a0 r223.2 r h)
    · rw [if_neg c217] at h
      refine rn_if_ne_t i178_217 c217 ?_
      exact rn_sub [1, 2, 0] rfl (s_Mo_expression_229 hD k12 hk12 a0 x1 s0 a0 r214.2 r h)
def Mo_expression_181 (k12 : Nat → Int → Int → Wd → Option (Wd)) (a0 : Nat) (x1 : Int) (w : Wd) : Option (Wd) :=
  Mo_expression_186 k12 a0 x1 1 w
theorem s_Mo_expression_181 {g : Gp} {l : Launch} {D : Nat} (hD : 3 ≤ D) (k12 : Nat → Int → Int → Wd → Option (Wd)) (hk12 : ∀ (a0 : Nat) (x1 : Int) (x2 : Int) (w : Wd) (r : Wd), k12 a0 x1 x2 w = some r → Rn g l D 178 12 [(0, .inr (.inr a0)), (1, .inl x1), (2, .inl x2)] [] w none r) (a0 : Nat) (x1 : Int) (w : Wd) (r : Wd) (h : Mo_expression_181 k12 a0 x1 w = some r) : Rn g l D 178 181 [(0, .inr (.inr a0)), (1, .inl x1)] [] w none r := by
  unfold Mo_expression_181 at h
  refine rn_iconst i178_181 ?_
  refine rn_goto i178_182 ?_
  exact rn_sub [0, 1] rfl (s_Mo_expression_186 hD k12 hk12 a0 x1 1 w r h)
def Mo_expression_145 (k12 : Nat → Int → Int → Wd → Option (Wd)) (a0 : Nat) (x1 : Int) (w : Wd) : Option (Wd) :=
  (Mo_is a0 8 w).bind fun r148 =>
  if (r148.1 : Int) = 0 then
    (Mo_is a0 9 r148.2).bind fun r157 =>
    if (r157.1 : Int) = 0 then
      (Mo_is a0 10 r157.2).bind fun r166 =>
      if (r166.1 : Int) = 0 then
        (Mo_is a0 15 r166.2).bind fun r175 =>
        if (r175.1 : Int) = 0 then
          Mo_expression_186 k12 a0 x1 0 r175.2
        else
          Mo_expression_181 k12 a0 x1 r175.2
      else
        Mo_expression_181 k12 a0 x1 r166.2
    else
      Mo_expression_181 k12 a0 x1 r157.2
  else
    Mo_expression_181 k12 a0 x1 r148.2
theorem s_Mo_expression_145 {g : Gp} {l : Launch} {D : Nat} (hD : 3 ≤ D) (k12 : Nat → Int → Int → Wd → Option (Wd)) (hk12 : ∀ (a0 : Nat) (x1 : Int) (x2 : Int) (w : Wd) (r : Wd), k12 a0 x1 x2 w = some r → Rn g l D 178 12 [(0, .inr (.inr a0)), (1, .inl x1), (2, .inl x2)] [] w none r) (a0 : Nat) (x1 : Int) (w : Wd) (r : Wd) (h : Mo_expression_145 k12 a0 x1 w = some r) : Rn g l D 178 145 [(0, .inr (.inr a0)), (1, .inl x1)] [] w none r := by
  obtain ⟨D, rfl⟩ : ∃ D1, D = D1 + 1 := ⟨D - 1, by omega⟩
  unfold Mo_expression_145 at h
  refine fr_aload_n i178_145 rfl ?_
  refine rn_bipush i178_146 ?_
  obtain ⟨r148, h148, h⟩ := Option.bind_eq_some_iff.mp h
  obtain ⟨g148, c148⟩ := S_Mo_is a0 8 w r148 h148
  refine fr_callV (a := a0) (As := [.inl 8]) (st := []) i178_148 (cq157 a0 8) rfl (Nat.le_of_ble_eq_true rfl) g148 (c148 _ (by omega)) ?_
  show Rn _ _ _ _ _ _ [.inl r148.1] _ _ _
  by_cases c151 : (r148.1 : Int) = 0
  · rw [if_pos c151] at h
    refine rn_if_ne_f i178_151 c151 ?_
    refine fr_aload_n i178_154 rfl ?_
    refine rn_bipush i178_155 ?_
    obtain ⟨r157, h157, h⟩ := Option.bind_eq_some_iff.mp h
    obtain ⟨g157, c157⟩ := S_Mo_is a0 9 r148.2 r157 h157
    refine fr_callV (a := a0) (As := [.inl 9]) (st := []) i178_157 (cq157 a0 9) rfl (Nat.le_of_ble_eq_true rfl) g157 (c157 _ (by omega)) ?_
    show Rn _ _ _ _ _ _ [.inl r157.1] _ _ _
    by_cases c160 : (r157.1 : Int) = 0
    · rw [if_pos c160] at h
      refine rn_if_ne_f i178_160 c160 ?_
      refine fr_aload_n i178_163 rfl ?_
      refine rn_bipush i178_164 ?_
      obtain ⟨r166, h166, h⟩ := Option.bind_eq_some_iff.mp h
      obtain ⟨g166, c166⟩ := S_Mo_is a0 10 r157.2 r166 h166
      refine fr_callV (a := a0) (As := [.inl 10]) (st := []) i178_166 (cq157 a0 10) rfl (Nat.le_of_ble_eq_true rfl) g166 (c166 _ (by omega)) ?_
      show Rn _ _ _ _ _ _ [.inl r166.1] _ _ _
      by_cases c169 : (r166.1 : Int) = 0
      · rw [if_pos c169] at h
        refine rn_if_ne_f i178_169 c169 ?_
        refine fr_aload_n i178_172 rfl ?_
        refine rn_bipush i178_173 ?_
        obtain ⟨r175, h175, h⟩ := Option.bind_eq_some_iff.mp h
        obtain ⟨g175, c175⟩ := S_Mo_is a0 15 r166.2 r175 h175
        refine fr_callV (a := a0) (As := [.inl 15]) (st := []) i178_175 (cq157 a0 15) rfl (Nat.le_of_ble_eq_true rfl) g175 (c175 _ (by omega)) ?_
        show Rn _ _ _ _ _ _ [.inl r175.1] _ _ _
        by_cases c178 : (r175.1 : Int) = 0
        · rw [if_pos c178] at h
          refine rn_if_eq_t i178_178 c178 ?_
          refine rn_iconst i178_185 ?_
          exact rn_sub [0, 1] rfl (s_Mo_expression_186 hD k12 hk12 a0 x1 0 r175.2 r h)
        · rw [if_neg c178] at h
          refine rn_if_eq_f i178_178 c178 ?_
          exact rn_sub [0, 1] rfl (s_Mo_expression_181 hD k12 hk12 a0 x1 r175.2 r h)
      · rw [if_neg c169] at h
        refine rn_if_ne_t i178_169 c169 ?_
        exact rn_sub [0, 1] rfl (s_Mo_expression_181 hD k12 hk12 a0 x1 r166.2 r h)
    · rw [if_neg c160] at h
      refine rn_if_ne_t i178_160 c160 ?_
      exact rn_sub [0, 1] rfl (s_Mo_expression_181 hD k12 hk12 a0 x1 r157.2 r h)
  · rw [if_neg c151] at h
    refine rn_if_ne_t i178_151 c151 ?_
    exact rn_sub [0, 1] rfl (s_Mo_expression_181 hD k12 hk12 a0 x1 r148.2 r h)
def Mo_expression_96 (k12 : Nat → Int → Int → Wd → Option (Wd)) : Nat → Nat → Int → Wd → Option (Wd)
  | 0, _, _, _ => none
  | n + 1, a0, x1, w =>
    (Mo_is a0 7 w).bind fun r99 =>
    if (r99.1 : Int) = 0 then
      Mo_expression_145 k12 a0 x1 r99.2
    else
      (fgI r99.2 a0 12 12).bind fun v106 =>
      if (v106 : Int) ≤ x1 then
        Mo_expression_145 k12 a0 x1 r99.2
      else
        (Mo_comesOut a0 0 r99.2).bind fun r115 =>
        (fgI r115 a0 12 45).bind fun v120 =>
        (fpI r115 a0 12 45 (w32 (v120 - 1))).bind fun w125 =>
        (fgI w125 a0 12 12).bind fun v130 =>
        (fpI w125 a0 12 12 (w32 (v130 - 1))).bind fun w135 =>
        (Mo_goesOn a0 w135).bind fun r139 =>
        Mo_expression_96 k12 n a0 x1 r139
theorem s_Mo_expression_96 {g : Gp} {l : Launch} {D : Nat} (hD : 3 ≤ D) (k12 : Nat → Int → Int → Wd → Option (Wd)) (hk12 : ∀ (a0 : Nat) (x1 : Int) (x2 : Int) (w : Wd) (r : Wd), k12 a0 x1 x2 w = some r → Rn g l D 178 12 [(0, .inr (.inr a0)), (1, .inl x1), (2, .inl x2)] [] w none r) : ∀ (n : Nat) (a0 : Nat) (x1 : Int) (w : Wd) (r : Wd), Mo_expression_96 k12 n a0 x1 w = some r → Rn g l D 178 96 [(0, .inr (.inr a0)), (1, .inl x1)] [] w none r := by
  obtain ⟨D, rfl⟩ : ∃ D1, D = D1 + 1 := ⟨D - 1, by omega⟩
  intro n
  induction n with
  | zero => intro a0 x1 w r h; cases (show (none : Option (Wd)) = some r from h)
  | succ n ih =>
    intro a0 x1 w r h
    unfold Mo_expression_96 at h
    refine fr_aload_n i178_96 rfl ?_
    refine rn_bipush i178_97 ?_
    obtain ⟨r99, h99, h⟩ := Option.bind_eq_some_iff.mp h
    obtain ⟨g99, c99⟩ := S_Mo_is a0 7 w r99 h99
    refine fr_callV (a := a0) (As := [.inl 7]) (st := []) i178_99 (cq157 a0 7) rfl (Nat.le_of_ble_eq_true rfl) g99 (c99 _ (by omega)) ?_
    show Rn _ _ _ _ _ _ [.inl r99.1] _ _ _
    by_cases c102 : (r99.1 : Int) = 0
    · rw [if_pos c102] at h
      refine rn_if_eq_t i178_102 c102 ?_
      exact rn_sub [0, 1] rfl (s_Mo_expression_145 hD k12 hk12 a0 x1 r99.2 r h)
    · rw [if_neg c102] at h
      refine rn_if_eq_f i178_102 c102 ?_
      refine fr_aload_n i178_105 rfl ?_
      obtain ⟨v106, h106, h⟩ := Option.bind_eq_some_iff.mp h
      refine fr_gI (k := 12) i178_106 tf12_12 h106 ?_
      refine rn_iload_n i178_109 rfl ?_
      by_cases c110 : (v106 : Int) ≤ x1
      · rw [if_pos c110] at h
        refine rn_icmp_le_t i178_110 c110 ?_
        exact rn_sub [0, 1] rfl (s_Mo_expression_145 hD k12 hk12 a0 x1 r99.2 r h)
      · rw [if_neg c110] at h
        refine rn_icmp_le_f i178_110 c110 ?_
        refine fr_aload_n i178_113 rfl ?_
        refine rn_iconst i178_114 ?_
        obtain ⟨r115, h115, h⟩ := Option.bind_eq_some_iff.mp h
        obtain ⟨g115, c115⟩ := S_Mo_comesOut a0 0 r99.2 r115 h115
        refine fr_callV (a := a0) (As := [.inl 0]) (st := []) i178_115 (cq177 a0 0) rfl (Nat.le_of_ble_eq_true rfl) g115 (c115 _ (by omega)) ?_
        refine fr_aload_n i178_118 rfl ?_
        refine rn_dup i178_119 rfl ?_
        obtain ⟨v120, h120, h⟩ := Option.bind_eq_some_iff.mp h
        refine fr_gI (k := 45) i178_120 tf12_45 h120 ?_
        refine rn_iconst i178_123 ?_
        refine rn_isub i178_124 ?_
        obtain ⟨w125, h125, h⟩ := Option.bind_eq_some_iff.mp h
        refine fr_pI (k := 45) i178_125 (pf12_45 178) h125 ?_
        refine fr_aload_n i178_128 rfl ?_
        refine rn_dup i178_129 rfl ?_
        obtain ⟨v130, h130, h⟩ := Option.bind_eq_some_iff.mp h
        refine fr_gI (k := 12) i178_130 tf12_12 h130 ?_
        refine rn_iconst i178_133 ?_
        refine rn_isub i178_134 ?_
        obtain ⟨w135, h135, h⟩ := Option.bind_eq_some_iff.mp h
        refine fr_pI (k := 12) i178_135 (pf12_12 178) h135 ?_
        refine fr_aload_n i178_138 rfl ?_
        obtain ⟨r139, h139, h⟩ := Option.bind_eq_some_iff.mp h
        obtain ⟨g139, c139⟩ := S_Mo_goesOn a0 w135 r139 h139
        refine fr_callV (a := a0) (As := []) (st := []) i178_139 (cq160 a0) rfl (Nat.le_of_ble_eq_true rfl) g139 (c139 _ (by omega)) ?_
        refine rn_goto i178_142 ?_
        exact rn_sub [0, 1] rfl (ih a0 x1 r139 r h)
def Mo_expression_84 (k12 : Nat → Int → Int → Wd → Option (Wd)) (a0 : Nat) (x1 : Int) (w : Wd) : Option (Wd) :=
  (Mo_unit a0 w).bind fun r85 =>
  (fgI r85 a0 12 13).bind fun v89 =>
  if (v89 : Int) ≤ 0 then
    Mo_expression_96 k12 FU a0 x1 r85
  else
    some r85
theorem s_Mo_expression_84 {g : Gp} {l : Launch} {D : Nat} (hD : 3 ≤ D) (k12 : Nat → Int → Int → Wd → Option (Wd)) (hk12 : ∀ (a0 : Nat) (x1 : Int) (x2 : Int) (w : Wd) (r : Wd), k12 a0 x1 x2 w = some r → Rn g l D 178 12 [(0, .inr (.inr a0)), (1, .inl x1), (2, .inl x2)] [] w none r) (a0 : Nat) (x1 : Int) (w : Wd) (r : Wd) (h : Mo_expression_84 k12 a0 x1 w = some r) : Rn g l D 178 84 [(0, .inr (.inr a0)), (1, .inl x1)] [] w none r := by
  obtain ⟨D, rfl⟩ : ∃ D1, D = D1 + 1 := ⟨D - 1, by omega⟩
  unfold Mo_expression_84 at h
  refine fr_aload_n i178_84 rfl ?_
  obtain ⟨r85, h85, h⟩ := Option.bind_eq_some_iff.mp h
  obtain ⟨g85, c85⟩ := S_Mo_unit a0 w r85 h85
  refine fr_callV (a := a0) (As := []) (st := []) i178_85 (cq179 a0) rfl (Nat.le_of_ble_eq_true rfl) g85 (c85 _ (by omega)) ?_
  refine fr_aload_n i178_88 rfl ?_
  obtain ⟨v89, h89, h⟩ := Option.bind_eq_some_iff.mp h
  refine fr_gI (k := 13) i178_89 tf12_13 h89 ?_
  by_cases c92 : (v89 : Int) ≤ 0
  · rw [if_pos c92] at h
    refine rn_if_le_t i178_92 c92 ?_
    exact rn_sub [0, 1] rfl (s_Mo_expression_96 hD k12 hk12 FU a0 x1 r85 r h)
  · rw [if_neg c92] at h
    refine rn_if_le_f i178_92 c92 ?_
    obtain rfl := Option.some.inj h
    exact rn_ret i178_95 mr178
def Mo_expression_23 (k12 : Nat → Int → Int → Wd → Option (Wd)) : Nat → Nat → Int → Wd → Option (Wd)
  | 0, _, _, _ => none
  | n + 1, a0, x1, w =>
    (Mo_is a0 6 w).bind fun r26 =>
    if (r26.1 : Int) = 0 then
      Mo_expression_84 k12 a0 x1 r26.2
    else
      (fgI r26.2 a0 12 12).bind fun v33 =>
      if (v33 : Int) = 6 then
        (Mo_fail a0 2 r26.2).bind fun r43 =>
        Mo_expression_46 k12 (Mo_expression_23 k12 n) a0 x1 r43
      else
        Mo_expression_46 k12 (Mo_expression_23 k12 n) a0 x1 r26.2
theorem s_Mo_expression_23 {g : Gp} {l : Launch} {D : Nat} (hD : 3 ≤ D) (k12 : Nat → Int → Int → Wd → Option (Wd)) (hk12 : ∀ (a0 : Nat) (x1 : Int) (x2 : Int) (w : Wd) (r : Wd), k12 a0 x1 x2 w = some r → Rn g l D 178 12 [(0, .inr (.inr a0)), (1, .inl x1), (2, .inl x2)] [] w none r) : ∀ (n : Nat) (a0 : Nat) (x1 : Int) (w : Wd) (r : Wd), Mo_expression_23 k12 n a0 x1 w = some r → Rn g l D 178 23 [(0, .inr (.inr a0)), (1, .inl x1)] [] w none r := by
  obtain ⟨D, rfl⟩ : ∃ D1, D = D1 + 1 := ⟨D - 1, by omega⟩
  intro n
  induction n with
  | zero => intro a0 x1 w r h; cases (show (none : Option (Wd)) = some r from h)
  | succ n ih =>
    intro a0 x1 w r h
    unfold Mo_expression_23 at h
    refine fr_aload_n i178_23 rfl ?_
    refine rn_bipush i178_24 ?_
    obtain ⟨r26, h26, h⟩ := Option.bind_eq_some_iff.mp h
    obtain ⟨g26, c26⟩ := S_Mo_is a0 6 w r26 h26
    refine fr_callV (a := a0) (As := [.inl 6]) (st := []) i178_26 (cq157 a0 6) rfl (Nat.le_of_ble_eq_true rfl) g26 (c26 _ (by omega)) ?_
    show Rn _ _ _ _ _ _ [.inl r26.1] _ _ _
    by_cases c29 : (r26.1 : Int) = 0
    · rw [if_pos c29] at h
      refine rn_if_eq_t i178_29 c29 ?_
      exact rn_sub [0, 1] rfl (s_Mo_expression_84 hD k12 hk12 a0 x1 r26.2 r h)
    · rw [if_neg c29] at h
      refine rn_if_eq_f i178_29 c29 ?_
      refine fr_aload_n i178_32 rfl ?_
      obtain ⟨v33, h33, h⟩ := Option.bind_eq_some_iff.mp h
      refine fr_gI (k := 12) i178_33 tf12_12 h33 ?_
      refine rn_bipush i178_36 ?_
      by_cases c38 : (v33 : Int) = 6
      · rw [if_pos c38] at h
        refine rn_icmp_ne_f i178_38 c38 ?_
        refine fr_aload_n i178_41 rfl ?_
        refine rn_iconst i178_42 ?_
        obtain ⟨r43, h43, h⟩ := Option.bind_eq_some_iff.mp h
        obtain ⟨g43, c43⟩ := S_Mo_fail a0 2 r26.2 r43 h43
        refine fr_callV (a := a0) (As := [.inl 2]) (st := []) i178_43 (cq158 a0 2) rfl (Nat.le_of_ble_eq_true rfl) g43 (c43 _ (by omega)) ?_
        exact rn_sub [0, 1] rfl (s_Mo_expression_46 hD k12 hk12 (Mo_expression_23 k12 n) ih a0 x1 r43 r h)
      · rw [if_neg c38] at h
        refine rn_icmp_ne_t i178_38 c38 ?_
        exact rn_sub [0, 1] rfl (s_Mo_expression_46 hD k12 hk12 (Mo_expression_23 k12 n) ih a0 x1 r26.2 r h)
def Mo_expression_272 (w : Wd) : Option (Wd) :=
  some w
theorem s_Mo_expression_272 {g : Gp} {l : Launch} {D : Nat} (hD : 3 ≤ D) (w : Wd) (r : Wd) (h : Mo_expression_272 w = some r) : Rn g l D 178 272 [] [] w none r := by
  unfold Mo_expression_272 at h
  obtain rfl := Option.some.inj h
  exact rn_ret i178_272 mr178
def Mo_expression_12 : Nat → Nat → Int → Int → Wd → Option (Wd)
  | 0, _, _, _, _ => none
  | n + 1, a0, x1, x2, w =>
    if (x2 : Int) = 0 then
      Mo_expression_272 w
    else
      (fgI w a0 12 13).bind fun v17 =>
      if (v17 : Int) = 0 then
        Mo_expression_23 (Mo_expression_12 n) FU a0 x1 w
      else
        Mo_expression_272 w
theorem s_Mo_expression_12 {g : Gp} {l : Launch} {D : Nat} (hD : 3 ≤ D) : ∀ (n : Nat) (a0 : Nat) (x1 : Int) (x2 : Int) (w : Wd) (r : Wd), Mo_expression_12 n a0 x1 x2 w = some r → Rn g l D 178 12 [(0, .inr (.inr a0)), (1, .inl x1), (2, .inl x2)] [] w none r := by
  intro n
  induction n with
  | zero => intro a0 x1 x2 w r h; cases (show (none : Option (Wd)) = some r from h)
  | succ n ih =>
    intro a0 x1 x2 w r h
    unfold Mo_expression_12 at h
    refine rn_iload_n i178_12 rfl ?_
    by_cases c13 : (x2 : Int) = 0
    · rw [if_pos c13] at h
      refine rn_if_eq_t i178_13 c13 ?_
      exact rn_sub [] rfl (s_Mo_expression_272 hD w r h)
    · rw [if_neg c13] at h
      refine rn_if_eq_f i178_13 c13 ?_
      refine fr_aload_n i178_16 rfl ?_
      obtain ⟨v17, h17, h⟩ := Option.bind_eq_some_iff.mp h
      refine fr_gI (k := 13) i178_17 tf12_13 h17 ?_
      by_cases c20 : (v17 : Int) = 0
      · rw [if_pos c20] at h
        refine rn_if_ne_f i178_20 c20 ?_
        exact rn_sub [0, 1] rfl (s_Mo_expression_23 hD (Mo_expression_12 n) ih FU a0 x1 w r h)
      · rw [if_neg c20] at h
        refine rn_if_ne_t i178_20 c20 ?_
        exact rn_sub [] rfl (s_Mo_expression_272 hD w r h)
def Mo_expression_0 (a0 : Nat) (w : Wd) : Option (Wd) :=
  (fpI w a0 12 45 0).bind fun w2 =>
  (fgI w2 a0 12 12).bind fun v6 =>
  Mo_expression_12 FU a0 v6 1 w2
theorem s_Mo_expression_0 {g : Gp} {l : Launch} {D : Nat} (hD : 3 ≤ D) (a0 : Nat) (w : Wd) (r : Wd) (h : Mo_expression_0 a0 w = some r) : Rn g l D 178 0 [(0, .inr (.inr a0))] [] w none r := by
  unfold Mo_expression_0 at h
  refine fr_aload_n i178_0 rfl ?_
  refine rn_iconst i178_1 ?_
  obtain ⟨w2, h2, h⟩ := Option.bind_eq_some_iff.mp h
  refine fr_pI (k := 45) i178_2 (pf12_45 178) h2 ?_
  refine fr_aload_n i178_5 rfl ?_
  obtain ⟨v6, h6, h⟩ := Option.bind_eq_some_iff.mp h
  refine fr_gI (k := 12) i178_6 tf12_12 h6 ?_
  refine rn_istore_n (ls1 := [(1, .inl v6), (0, .inr (.inr a0))]) i178_9 rfl ?_
  refine rn_iconst i178_10 ?_
  refine rn_istore_n (ls1 := [(2, .inl 1), (1, .inl v6), (0, .inr (.inr a0))]) i178_11 rfl ?_
  exact rn_sub [2, 1, 0] rfl (s_Mo_expression_12 hD FU a0 v6 1 w2 r h)
/-- HandHeirsModel.expression()V -/
def Mo_expression (a0 : Nat) (w : Wd) : Option (Wd) := gd 12 w a0 (Mo_expression_0 a0 w)
theorem S_Mo_expression {g : Gp} {l : Launch} (a0 : Nat) (w : Wd) (r : Wd) (h : Mo_expression a0 w = some r) : (wsh w a0).1 = 12 ∧ ∀ D, 3 ≤ D → Rn g l D 178 0 [(0, .inr (.inr a0))] [] w none r := by
  obtain ⟨hg, h⟩ := gd_some h
  exact ⟨hg, fun D hD => rn_sub [0] rfl (s_Mo_expression_0 hD a0 w r h)⟩
def Mo_term_24 (a0 : Nat) (w : Wd) : Option (Wd) :=
  (fgR w a0 12 40).bind fun v25 =>
  (fgI w a0 12 35).bind fun v29 =>
  (fgI w a0 12 41).bind fun v33 =>
  (wrI w v25 v29 v33).bind fun w36 =>
  (fgI w36 a0 12 35).bind fun v39 =>
  (fpI w36 a0 12 35 (w32 (v39 + 1))).bind fun w44 =>
  some w44
theorem s_Mo_term_24 {g : Gp} {l : Launch} {D : Nat} (hD : 4 ≤ D) (a0 : Nat) (w : Wd) (r : Wd) (h : Mo_term_24 a0 w = some r) : Rn g l D 175 24 [(0, .inr (.inr a0))] [] w none r := by
  unfold Mo_term_24 at h
  refine fr_aload_n i175_24 rfl ?_
  obtain ⟨v25, h25, h⟩ := Option.bind_eq_some_iff.mp h
  refine fr_gR (k := 40) i175_25 tf12_40 h25 ?_
  refine fr_aload_n i175_28 rfl ?_
  obtain ⟨v29, h29, h⟩ := Option.bind_eq_some_iff.mp h
  refine fr_gI (k := 35) i175_29 tf12_35 h29 ?_
  refine fr_aload_n i175_32 rfl ?_
  obtain ⟨v33, h33, h⟩ := Option.bind_eq_some_iff.mp h
  refine fr_gI (k := 41) i175_33 tf12_41 h33 ?_
  obtain ⟨w36, h36, h⟩ := Option.bind_eq_some_iff.mp h
  refine rn_iast i175_36 h36 ?_
  refine fr_aload_n i175_37 rfl ?_
  refine rn_dup i175_38 rfl ?_
  obtain ⟨v39, h39, h⟩ := Option.bind_eq_some_iff.mp h
  refine fr_gI (k := 35) i175_39 tf12_35 h39 ?_
  refine rn_iconst i175_42 ?_
  refine rn_iadd i175_43 ?_
  obtain ⟨w44, h44, h⟩ := Option.bind_eq_some_iff.mp h
  refine fr_pI (k := 35) i175_44 (pf12_35 175) h44 ?_
  obtain rfl := Option.some.inj h
  exact rn_ret i175_47 mr175
def Mo_term_0 (a0 : Nat) (w : Wd) : Option (Wd) :=
  (fgR w a0 12 39).bind fun v1 =>
  (fgI w a0 12 35).bind fun v5 =>
  (fgI w a0 12 41).bind fun v9 =>
  (wrI w v1 v5 v9).bind fun w12 =>
  (fgI w12 a0 12 13).bind fun v14 =>
  if (v14 : Int) = 0 then
    (Mo_expression a0 w12).bind fun r21 =>
    Mo_term_24 a0 r21
  else
    Mo_term_24 a0 w12
theorem s_Mo_term_0 {g : Gp} {l : Launch} {D : Nat} (hD : 4 ≤ D) (a0 : Nat) (w : Wd) (r : Wd) (h : Mo_term_0 a0 w = some r) : Rn g l D 175 0 [(0, .inr (.inr a0))] [] w none r := by
  obtain ⟨D, rfl⟩ : ∃ D1, D = D1 + 1 := ⟨D - 1, by omega⟩
  unfold Mo_term_0 at h
  refine fr_aload_n i175_0 rfl ?_
  obtain ⟨v1, h1, h⟩ := Option.bind_eq_some_iff.mp h
  refine fr_gR (k := 39) i175_1 tf12_39 h1 ?_
  refine fr_aload_n i175_4 rfl ?_
  obtain ⟨v5, h5, h⟩ := Option.bind_eq_some_iff.mp h
  refine fr_gI (k := 35) i175_5 tf12_35 h5 ?_
  refine fr_aload_n i175_8 rfl ?_
  obtain ⟨v9, h9, h⟩ := Option.bind_eq_some_iff.mp h
  refine fr_gI (k := 41) i175_9 tf12_41 h9 ?_
  obtain ⟨w12, h12, h⟩ := Option.bind_eq_some_iff.mp h
  refine rn_iast i175_12 h12 ?_
  refine fr_aload_n i175_13 rfl ?_
  obtain ⟨v14, h14, h⟩ := Option.bind_eq_some_iff.mp h
  refine fr_gI (k := 13) i175_14 tf12_13 h14 ?_
  by_cases c17 : (v14 : Int) = 0
  · rw [if_pos c17] at h
    refine rn_if_ne_f i175_17 c17 ?_
    refine fr_aload_n i175_20 rfl ?_
    obtain ⟨r21, h21, h⟩ := Option.bind_eq_some_iff.mp h
    obtain ⟨g21, c21⟩ := S_Mo_expression a0 w12 r21 h21
    refine fr_callV (a := a0) (As := []) (st := []) i175_21 (cq178 a0) rfl (Nat.le_of_ble_eq_true rfl) g21 (c21 _ (by omega)) ?_
    exact rn_sub [0] rfl (s_Mo_term_24 hD a0 r21 r h)
  · rw [if_neg c17] at h
    refine rn_if_ne_t i175_17 c17 ?_
    exact rn_sub [0] rfl (s_Mo_term_24 hD a0 w12 r h)
/-- HandHeirsModel.term()V -/
def Mo_term (a0 : Nat) (w : Wd) : Option (Wd) := gd 12 w a0 (Mo_term_0 a0 w)
theorem S_Mo_term {g : Gp} {l : Launch} (a0 : Nat) (w : Wd) (r : Wd) (h : Mo_term a0 w = some r) : (wsh w a0).1 = 12 ∧ ∀ D, 4 ≤ D → Rn g l D 175 0 [(0, .inr (.inr a0))] [] w none r := by
  obtain ⟨hg, h⟩ := gd_some h
  exact ⟨hg, fun D hD => rn_sub [0] rfl (s_Mo_term_0 hD a0 w r h)⟩
def Mo_tellLaw_110 (k12 : Nat → Int → Int → Int → Wd → Option (Wd)) (a0 : Nat) (x1 : Int) (x2 : Int) (x3 : Int) (w : Wd) : Option (Wd) :=
  (Mo_must a0 29 w).bind fun r113 =>
  (Mo_term a0 r113).bind fun r117 =>
  (Mo_must a0 30 r117).bind fun r123 =>
  k12 a0 x1 x2 x3 r123
theorem s_Mo_tellLaw_110 {g : Gp} {l : Launch} {D : Nat} (hD : 5 ≤ D) (k12 : Nat → Int → Int → Int → Wd → Option (Wd)) (hk12 : ∀ (a0 : Nat) (x1 : Int) (x2 : Int) (x3 : Int) (w : Wd) (r : Wd), k12 a0 x1 x2 x3 w = some r → Rn g l D 174 12 [(0, .inr (.inr a0)), (1, .inl x1), (2, .inl x2), (3, .inl x3)] [] w none r) (a0 : Nat) (x1 : Int) (x2 : Int) (x3 : Int) (w : Wd) (r : Wd) (h : Mo_tellLaw_110 k12 a0 x1 x2 x3 w = some r) : Rn g l D 174 110 [(0, .inr (.inr a0)), (1, .inl x1), (2, .inl x2), (3, .inl x3)] [] w none r := by
  obtain ⟨D, rfl⟩ : ∃ D1, D = D1 + 1 := ⟨D - 1, by omega⟩
  unfold Mo_tellLaw_110 at h
  refine fr_aload_n i174_110 rfl ?_
  refine rn_bipush i174_111 ?_
  obtain ⟨r113, h113, h⟩ := Option.bind_eq_some_iff.mp h
  obtain ⟨g113, c113⟩ := S_Mo_must a0 29 w r113 h113
  refine fr_callV (a := a0) (As := [.inl 29]) (st := []) i174_113 (cq161 a0 29) rfl (Nat.le_of_ble_eq_true rfl) g113 (c113 _ (by omega)) ?_
  refine fr_aload_n i174_116 rfl ?_
  obtain ⟨r117, h117, h⟩ := Option.bind_eq_some_iff.mp h
  obtain ⟨g117, c117⟩ := S_Mo_term a0 r113 r117 h117
  refine fr_callV (a := a0) (As := []) (st := []) i174_117 (cq175 a0) rfl (Nat.le_of_ble_eq_true rfl) g117 (c117 _ (by omega)) ?_
  refine fr_aload_n i174_120 rfl ?_
  refine rn_bipush i174_121 ?_
  obtain ⟨r123, h123, h⟩ := Option.bind_eq_some_iff.mp h
  obtain ⟨g123, c123⟩ := S_Mo_must a0 30 r117 r123 h123
  refine fr_callV (a := a0) (As := [.inl 30]) (st := []) i174_123 (cq161 a0 30) rfl (Nat.le_of_ble_eq_true rfl) g123 (c123 _ (by omega)) ?_
  refine rn_goto i174_126 ?_
  exact rn_sub [0, 1, 2, 3] rfl (hk12 a0 x1 x2 x3 r123 r h)
def Mo_tellLaw_38 (k12 : Nat → Int → Int → Int → Wd → Option (Wd)) (a0 : Nat) (x1 : Int) (x2 : Int) (x3 : Int) (w : Wd) : Option (Wd) :=
  (fgI w a0 12 13).bind fun v39 =>
  if (v39 : Int) ≤ 0 then
    (Mo_goesOn a0 w).bind fun r50 =>
    (fgR r50 a0 12 36).bind fun v54 =>
    (fgI r50 a0 12 35).bind fun v58 =>
    (wrB r50 v54 v58 1).bind fun w62 =>
    (fgR w62 a0 12 37).bind fun v64 =>
    (fgI w62 a0 12 35).bind fun v68 =>
    (fgI w62 a0 12 41).bind fun v72 =>
    (wrI w62 v64 v68 v72).bind fun w75 =>
    (Mo_expression a0 w75).bind fun r77 =>
    (Mo_must a0 13 r77).bind fun r83 =>
    (fgR r83 a0 12 38).bind fun v87 =>
    (fgI r83 a0 12 35).bind fun v91 =>
    (fgI r83 a0 12 41).bind fun v95 =>
    (wrI r83 v87 v91 v95).bind fun w98 =>
    (fgI w98 a0 12 13).bind fun v100 =>
    if (v100 : Int) = 0 then
      (Mo_expression a0 w98).bind fun r107 =>
      Mo_tellLaw_110 k12 a0 x1 x2 (w32 (x3 + 1)) r107
    else
      Mo_tellLaw_110 k12 a0 x1 x2 (w32 (x3 + 1)) w98
  else
    some w
theorem s_Mo_tellLaw_38 {g : Gp} {l : Launch} {D : Nat} (hD : 5 ≤ D) (k12 : Nat → Int → Int → Int → Wd → Option (Wd)) (hk12 : ∀ (a0 : Nat) (x1 : Int) (x2 : Int) (x3 : Int) (w : Wd) (r : Wd), k12 a0 x1 x2 x3 w = some r → Rn g l D 174 12 [(0, .inr (.inr a0)), (1, .inl x1), (2, .inl x2), (3, .inl x3)] [] w none r) (a0 : Nat) (x1 : Int) (x2 : Int) (x3 : Int) (w : Wd) (r : Wd) (h : Mo_tellLaw_38 k12 a0 x1 x2 x3 w = some r) : Rn g l D 174 38 [(0, .inr (.inr a0)), (1, .inl x1), (2, .inl x2), (3, .inl x3)] [] w none r := by
  obtain ⟨D, rfl⟩ : ∃ D1, D = D1 + 1 := ⟨D - 1, by omega⟩
  unfold Mo_tellLaw_38 at h
  refine fr_aload_n i174_38 rfl ?_
  obtain ⟨v39, h39, h⟩ := Option.bind_eq_some_iff.mp h
  refine fr_gI (k := 13) i174_39 tf12_13 h39 ?_
  by_cases c42 : (v39 : Int) ≤ 0
  · rw [if_pos c42] at h
    refine rn_if_le_t i174_42 c42 ?_
    refine rn_iinc (ls1 := [(3, .inl (w32 (x3 + 1))), (0, .inr (.inr a0)), (1, .inl x1), (2, .inl x2)]) i174_46 rfl rfl ?_
    refine fr_aload_n i174_49 rfl ?_
    obtain ⟨r50, h50, h⟩ := Option.bind_eq_some_iff.mp h
    obtain ⟨g50, c50⟩ := S_Mo_goesOn a0 w r50 h50
    refine fr_callV (a := a0) (As := []) (st := []) i174_50 (cq160 a0) rfl (Nat.le_of_ble_eq_true rfl) g50 (c50 _ (by omega)) ?_
    refine fr_aload_n i174_53 rfl ?_
    obtain ⟨v54, h54, h⟩ := Option.bind_eq_some_iff.mp h
    refine fr_gR (k := 36) i174_54 tf12_36 h54 ?_
    refine fr_aload_n i174_57 rfl ?_
    obtain ⟨v58, h58, h⟩ := Option.bind_eq_some_iff.mp h
    refine fr_gI (k := 35) i174_58 tf12_35 h58 ?_
    refine rn_iconst i174_61 ?_
    obtain ⟨w62, h62, h⟩ := Option.bind_eq_some_iff.mp h
    refine rn_bast i174_62 h62 ?_
    refine fr_aload_n i174_63 rfl ?_
    obtain ⟨v64, h64, h⟩ := Option.bind_eq_some_iff.mp h
    refine fr_gR (k := 37) i174_64 tf12_37 h64 ?_
    refine fr_aload_n i174_67 rfl ?_
    obtain ⟨v68, h68, h⟩ := Option.bind_eq_some_iff.mp h
    refine fr_gI (k := 35) i174_68 tf12_35 h68 ?_
    refine fr_aload_n i174_71 rfl ?_
    obtain ⟨v72, h72, h⟩ := Option.bind_eq_some_iff.mp h
    refine fr_gI (k := 41) i174_72 tf12_41 h72 ?_
    obtain ⟨w75, h75, h⟩ := Option.bind_eq_some_iff.mp h
    refine rn_iast i174_75 h75 ?_
    refine fr_aload_n i174_76 rfl ?_
    obtain ⟨r77, h77, h⟩ := Option.bind_eq_some_iff.mp h
    obtain ⟨g77, c77⟩ := S_Mo_expression a0 w75 r77 h77
    refine fr_callV (a := a0) (As := []) (st := []) i174_77 (cq178 a0) rfl (Nat.le_of_ble_eq_true rfl) g77 (c77 _ (by omega)) ?_
    refine fr_aload_n i174_80 rfl ?_
    refine rn_bipush i174_81 ?_
    obtain ⟨r83, h83, h⟩ := Option.bind_eq_some_iff.mp h
    obtain ⟨g83, c83⟩ := S_Mo_must a0 13 r77 r83 h83
    refine fr_callV (a := a0) (As := [.inl 13]) (st := []) i174_83 (cq161 a0 13) rfl (Nat.le_of_ble_eq_true rfl) g83 (c83 _ (by omega)) ?_
    refine fr_aload_n i174_86 rfl ?_
    obtain ⟨v87, h87, h⟩ := Option.bind_eq_some_iff.mp h
    refine fr_gR (k := 38) i174_87 tf12_38 h87 ?_
    refine fr_aload_n i174_90 rfl ?_
    obtain ⟨v91, h91, h⟩ := Option.bind_eq_some_iff.mp h
    refine fr_gI (k := 35) i174_91 tf12_35 h91 ?_
    refine fr_aload_n i174_94 rfl ?_
    obtain ⟨v95, h95, h⟩ := Option.bind_eq_some_iff.mp h
    refine fr_gI (k := 41) i174_95 tf12_41 h95 ?_
    obtain ⟨w98, h98, h⟩ := Option.bind_eq_some_iff.mp h
    refine rn_iast i174_98 h98 ?_
    refine fr_aload_n i174_99 rfl ?_
    obtain ⟨v100, h100, h⟩ := Option.bind_eq_some_iff.mp h
    refine fr_gI (k := 13) i174_100 tf12_13 h100 ?_
    by_cases c103 : (v100 : Int) = 0
    · rw [if_pos c103] at h
      refine rn_if_ne_f i174_103 c103 ?_
      refine fr_aload_n i174_106 rfl ?_
      obtain ⟨r107, h107, h⟩ := Option.bind_eq_some_iff.mp h
      obtain ⟨g107, c107⟩ := S_Mo_expression a0 w98 r107 h107
      refine fr_callV (a := a0) (As := []) (st := []) i174_107 (cq178 a0) rfl (Nat.le_of_ble_eq_true rfl) g107 (c107 _ (by omega)) ?_
      exact rn_sub [1, 2, 3, 0] rfl (s_Mo_tellLaw_110 hD k12 hk12 a0 x1 x2 (w32 (x3 + 1)) r107 r h)
    · rw [if_neg c103] at h
      refine rn_if_ne_t i174_103 c103 ?_
      exact rn_sub [1, 2, 3, 0] rfl (s_Mo_tellLaw_110 hD k12 hk12 a0 x1 x2 (w32 (x3 + 1)) w98 r h)
  · rw [if_neg c42] at h
    refine rn_if_le_f i174_42 c42 ?_
    obtain rfl := Option.some.inj h
    exact rn_ret i174_45 mr174
def Mo_tellLaw_159 (w : Wd) : Option (Wd) :=
  some w
theorem s_Mo_tellLaw_159 {g : Gp} {l : Launch} {D : Nat} (hD : 5 ≤ D) (w : Wd) (r : Wd) (h : Mo_tellLaw_159 w = some r) : Rn g l D 174 159 [] [] w none r := by
  unfold Mo_tellLaw_159 at h
  obtain rfl := Option.some.inj h
  exact rn_ret i174_159 mr174
def Mo_tellLaw_129 (a0 : Nat) (x1 : Int) (x2 : Int) (w : Wd) : Option (Wd) :=
  (fgR w a0 12 36).bind fun v130 =>
  (fgI w a0 12 35).bind fun v134 =>
  (wrB w v130 v134 0).bind fun w138 =>
  (Mo_term a0 w138).bind fun r140 =>
  (Mo_must a0 4 r140).bind fun r145 =>
  (fgI r145 a0 12 13).bind fun v149 =>
  if (0 : Int) < v149 then
    Mo_tellLaw_159 r145
  else
    if (0 : Int) ≤ x1 then
      (fgR r145 a0 12 33).bind fun v161 =>
      (fgI r145 a0 12 19).bind fun v167 =>
      (wrI r145 v161 (w32 ((w32 (10 * v167)) + x1)) x2).bind fun w174 =>
      (fgR w174 a0 12 34).bind fun v176 =>
      (fgI w174 a0 12 19).bind fun v182 =>
      (fgI w174 a0 12 35).bind fun v189 =>
      (wrI w174 v176 (w32 ((w32 (10 * v182)) + x1)) v189).bind fun w192 =>
      some w192
    else
      Mo_tellLaw_159 r145
theorem s_Mo_tellLaw_129 {g : Gp} {l : Launch} {D : Nat} (hD : 5 ≤ D) (a0 : Nat) (x1 : Int) (x2 : Int) (w : Wd) (r : Wd) (h : Mo_tellLaw_129 a0 x1 x2 w = some r) : Rn g l D 174 129 [(0, .inr (.inr a0)), (1, .inl x1), (2, .inl x2)] [] w none r := by
  obtain ⟨D, rfl⟩ : ∃ D1, D = D1 + 1 := ⟨D - 1, by omega⟩
  unfold Mo_tellLaw_129 at h
  refine fr_aload_n i174_129 rfl ?_
  obtain ⟨v130, h130, h⟩ := Option.bind_eq_some_iff.mp h
  refine fr_gR (k := 36) i174_130 tf12_36 h130 ?_
  refine fr_aload_n i174_133 rfl ?_
  obtain ⟨v134, h134, h⟩ := Option.bind_eq_some_iff.mp h
  refine fr_gI (k := 35) i174_134 tf12_35 h134 ?_
  refine rn_iconst i174_137 ?_
  obtain ⟨w138, h138, h⟩ := Option.bind_eq_some_iff.mp h
  refine rn_bast i174_138 h138 ?_
  refine fr_aload_n i174_139 rfl ?_
  obtain ⟨r140, h140, h⟩ := Option.bind_eq_some_iff.mp h
  obtain ⟨g140, c140⟩ := S_Mo_term a0 w138 r140 h140
  refine fr_callV (a := a0) (As := []) (st := []) i174_140 (cq175 a0) rfl (Nat.le_of_ble_eq_true rfl) g140 (c140 _ (by omega)) ?_
  refine fr_aload_n i174_143 rfl ?_
  refine rn_iconst i174_144 ?_
  obtain ⟨r145, h145, h⟩ := Option.bind_eq_some_iff.mp h
  obtain ⟨g145, c145⟩ := S_Mo_must a0 4 r140 r145 h145
  refine fr_callV (a := a0) (As := [.inl 4]) (st := []) i174_145 (cq161 a0 4) rfl (Nat.le_of_ble_eq_true rfl) g145 (c145 _ (by omega)) ?_
  refine fr_aload_n i174_148 rfl ?_
  obtain ⟨v149, h149, h⟩ := Option.bind_eq_some_iff.mp h
  refine fr_gI (k := 13) i174_149 tf12_13 h149 ?_
  by_cases c152 : (0 : Int) < v149
  · rw [if_pos c152] at h
    refine rn_if_gt_t i174_152 c152 ?_
    exact rn_sub [] rfl (s_Mo_tellLaw_159 hD r145 r h)
  · rw [if_neg c152] at h
    refine rn_if_gt_f i174_152 c152 ?_
    refine rn_iload_n i174_155 rfl ?_
    by_cases c156 : (0 : Int) ≤ x1
    · rw [if_pos c156] at h
      refine rn_if_ge_t i174_156 c156 ?_
      refine fr_aload_n i174_160 rfl ?_
      obtain ⟨v161, h161, h⟩ := Option.bind_eq_some_iff.mp h
      refine fr_gR (k := 33) i174_161 tf12_33 h161 ?_
      refine rn_bipush i174_164 ?_
      refine fr_aload_n i174_166 rfl ?_
      obtain ⟨v167, h167, h⟩ := Option.bind_eq_some_iff.mp h
      refine fr_gI (k := 19) i174_167 tf12_19 h167 ?_
      refine rn_imul i174_170 ?_
      refine rn_iload_n i174_171 rfl ?_
      refine rn_iadd i174_172 ?_
      refine rn_iload_n i174_173 rfl ?_
      obtain ⟨w174, h174, h⟩ := Option.bind_eq_some_iff.mp h
      refine rn_iast i174_174 h174 ?_
      refine fr_aload_n i174_175 rfl ?_
      obtain ⟨v176, h176, h⟩ := Option.bind_eq_some_iff.mp h
      refine fr_gR (k := 34) i174_176 tf12_34 h176 ?_
      refine rn_bipush i174_179 ?_
      refine fr_aload_n i174_181 rfl ?_
      obtain ⟨v182, h182, h⟩ := Option.bind_eq_some_iff.mp h
      refine fr_gI (k := 19) i174_182 tf12_19 h182 ?_
      refine rn_imul i174_185 ?_
      refine rn_iload_n i174_186 rfl ?_
      refine rn_iadd i174_187 ?_
      refine fr_aload_n i174_188 rfl ?_
      obtain ⟨v189, h189, h⟩ := Option.bind_eq_some_iff.mp h
      refine fr_gI (k := 35) i174_189 tf12_35 h189 ?_
      obtain ⟨w192, h192, h⟩ := Option.bind_eq_some_iff.mp h
      refine rn_iast i174_192 h192 ?_
      obtain rfl := Option.some.inj h
      exact rn_ret i174_193 mr174
    · rw [if_neg c156] at h
      refine rn_if_ge_f i174_156 c156 ?_
      exact rn_sub [] rfl (s_Mo_tellLaw_159 hD r145 r h)
def Mo_tellLaw_12 : Nat → Nat → Int → Int → Int → Wd → Option (Wd)
  | 0, _, _, _, _, _ => none
  | n + 1, a0, x1, x2, x3, w =>
    (fgI w a0 12 13).bind fun v13 =>
    if (v13 : Int) = 0 then
      (Mo_is a0 28 w).bind fun r22 =>
      if (r22.1 : Int) = 0 then
        Mo_tellLaw_129 a0 x1 x2 r22.2
      else
        if (x3 : Int) = 4 then
          (Mo_fail a0 2 r22.2).bind fun r35 =>
          Mo_tellLaw_38 (Mo_tellLaw_12 n) a0 x1 x2 x3 r35
        else
          Mo_tellLaw_38 (Mo_tellLaw_12 n) a0 x1 x2 x3 r22.2
    else
      Mo_tellLaw_129 a0 x1 x2 w
theorem s_Mo_tellLaw_12 {g : Gp} {l : Launch} {D : Nat} (hD : 5 ≤ D) : ∀ (n : Nat) (a0 : Nat) (x1 : Int) (x2 : Int) (x3 : Int) (w : Wd) (r : Wd), Mo_tellLaw_12 n a0 x1 x2 x3 w = some r → Rn g l D 174 12 [(0, .inr (.inr a0)), (1, .inl x1), (2, .inl x2), (3, .inl x3)] [] w none r := by
  obtain ⟨D, rfl⟩ : ∃ D1, D = D1 + 1 := ⟨D - 1, by omega⟩
  intro n
  induction n with
  | zero => intro a0 x1 x2 x3 w r h; cases (show (none : Option (Wd)) = some r from h)
  | succ n ih =>
    intro a0 x1 x2 x3 w r h
    unfold Mo_tellLaw_12 at h
    refine fr_aload_n i174_12 rfl ?_
    obtain ⟨v13, h13, h⟩ := Option.bind_eq_some_iff.mp h
    refine fr_gI (k := 13) i174_13 tf12_13 h13 ?_
    by_cases c16 : (v13 : Int) = 0
    · rw [if_pos c16] at h
      refine rn_if_ne_f i174_16 c16 ?_
      refine fr_aload_n i174_19 rfl ?_
      refine rn_bipush i174_20 ?_
      obtain ⟨r22, h22, h⟩ := Option.bind_eq_some_iff.mp h
      obtain ⟨g22, c22⟩ := S_Mo_is a0 28 w r22 h22
      refine fr_callV (a := a0) (As := [.inl 28]) (st := []) i174_22 (cq157 a0 28) rfl (Nat.le_of_ble_eq_true rfl) g22 (c22 _ (by omega)) ?_
      show Rn _ _ _ _ _ _ [.inl r22.1] _ _ _
      by_cases c25 : (r22.1 : Int) = 0
      · rw [if_pos c25] at h
        refine rn_if_eq_t i174_25 c25 ?_
        exact rn_sub [0, 1, 2] rfl (s_Mo_tellLaw_129 hD a0 x1 x2 r22.2 r h)
      · rw [if_neg c25] at h
        refine rn_if_eq_f i174_25 c25 ?_
        refine rn_iload_n i174_28 rfl ?_
        refine rn_iconst i174_29 ?_
        by_cases c30 : (x3 : Int) = 4
        · rw [if_pos c30] at h
          refine rn_icmp_ne_f i174_30 c30 ?_
          refine fr_aload_n i174_33 rfl ?_
          refine rn_iconst i174_34 ?_
          obtain ⟨r35, h35, h⟩ := Option.bind_eq_some_iff.mp h
          obtain ⟨g35, c35⟩ := S_Mo_fail a0 2 r22.2 r35 h35
          refine fr_callV (a := a0) (As := [.inl 2]) (st := []) i174_35 (cq158 a0 2) rfl (Nat.le_of_ble_eq_true rfl) g35 (c35 _ (by omega)) ?_
          exact rn_sub [0, 1, 2, 3] rfl (s_Mo_tellLaw_38 hD (Mo_tellLaw_12 n) ih a0 x1 x2 x3 r35 r h)
        · rw [if_neg c30] at h
          refine rn_icmp_ne_t i174_30 c30 ?_
          exact rn_sub [0, 1, 2, 3] rfl (s_Mo_tellLaw_38 hD (Mo_tellLaw_12 n) ih a0 x1 x2 x3 r22.2 r h)
    · rw [if_neg c16] at h
      refine rn_if_ne_t i174_16 c16 ?_
      exact rn_sub [0, 1, 2] rfl (s_Mo_tellLaw_129 hD a0 x1 x2 w r h)
def Mo_tellLaw_0 (a0 : Nat) (x1 : Int) (w : Wd) : Option (Wd) :=
  (Mo_must a0 5 w).bind fun r2 =>
  (fgI r2 a0 12 35).bind fun v6 =>
  Mo_tellLaw_12 FU a0 x1 v6 0 r2
theorem s_Mo_tellLaw_0 {g : Gp} {l : Launch} {D : Nat} (hD : 5 ≤ D) (a0 : Nat) (x1 : Int) (w : Wd) (r : Wd) (h : Mo_tellLaw_0 a0 x1 w = some r) : Rn g l D 174 0 [(0, .inr (.inr a0)), (1, .inl x1)] [] w none r := by
  obtain ⟨D, rfl⟩ : ∃ D1, D = D1 + 1 := ⟨D - 1, by omega⟩
  unfold Mo_tellLaw_0 at h
  refine fr_aload_n i174_0 rfl ?_
  refine rn_iconst i174_1 ?_
  obtain ⟨r2, h2, h⟩ := Option.bind_eq_some_iff.mp h
  obtain ⟨g2, c2⟩ := S_Mo_must a0 5 w r2 h2
  refine fr_callV (a := a0) (As := [.inl 5]) (st := []) i174_2 (cq161 a0 5) rfl (Nat.le_of_ble_eq_true rfl) g2 (c2 _ (by omega)) ?_
  refine fr_aload_n i174_5 rfl ?_
  obtain ⟨v6, h6, h⟩ := Option.bind_eq_some_iff.mp h
  refine fr_gI (k := 35) i174_6 tf12_35 h6 ?_
  refine rn_istore_n (ls1 := [(2, .inl v6), (0, .inr (.inr a0)), (1, .inl x1)]) i174_9 rfl ?_
  refine rn_iconst i174_10 ?_
  refine rn_istore_n (ls1 := [(3, .inl 0), (2, .inl v6), (0, .inr (.inr a0)), (1, .inl x1)]) i174_11 rfl ?_
  exact rn_sub [2, 3, 1, 0] rfl (s_Mo_tellLaw_12 hD FU a0 x1 v6 0 r2 r h)
/-- HandHeirsModel.tellLaw(I)V -/
def Mo_tellLaw (a0 : Nat) (x1 : Int) (w : Wd) : Option (Wd) := gd 12 w a0 (Mo_tellLaw_0 a0 x1 w)
theorem S_Mo_tellLaw {g : Gp} {l : Launch} (a0 : Nat) (x1 : Int) (w : Wd) (r : Wd) (h : Mo_tellLaw a0 x1 w = some r) : (wsh w a0).1 = 12 ∧ ∀ D, 5 ≤ D → Rn g l D 174 0 [(0, .inr (.inr a0)), (1, .inl x1)] [] w none r := by
  obtain ⟨hg, h⟩ := gd_some h
  exact ⟨hg, fun D hD => rn_sub [0, 1] rfl (s_Mo_tellLaw_0 hD a0 x1 w r h)⟩
def Mo_tellMaster_0 (a0 : Nat) (w : Wd) : Option (Wd) :=
  (Mo_named a0 w).bind fun r1 =>
  (fgR r1.2 a0 12 29).bind fun v7 =>
  (fgI r1.2 a0 12 19).bind fun v11 =>
  (rdI r1.2 v7 v11).bind fun v14 =>
  (Mo_tellLaw a0 v14 r1.2).bind fun r15 =>
  (fgI r15 a0 12 13).bind fun v19 =>
  if (v19 : Int) ≤ 0 then
    (Mo_notes a0 (r1.1) (-1) r15).bind fun r29 =>
    (fgR r29 a0 12 29).bind fun v33 =>
    (fgI r29 a0 12 19).bind fun v37 =>
    (rdI r29 v33 v37).bind fun v41 =>
    (wrI r29 v33 v37 (w32 (v41 + 1))).bind fun w44 =>
    some w44
  else
    some r15
theorem s_Mo_tellMaster_0 {g : Gp} {l : Launch} {D : Nat} (hD : 6 ≤ D) (a0 : Nat) (w : Wd) (r : Wd) (h : Mo_tellMaster_0 a0 w = some r) : Rn g l D 173 0 [(0, .inr (.inr a0))] [] w none r := by
  obtain ⟨D, rfl⟩ : ∃ D1, D = D1 + 1 := ⟨D - 1, by omega⟩
  unfold Mo_tellMaster_0 at h
  refine fr_aload_n i173_0 rfl ?_
  obtain ⟨r1, h1, h⟩ := Option.bind_eq_some_iff.mp h
  obtain ⟨g1, c1⟩ := S_Mo_named a0 w r1 h1
  refine fr_callV (a := a0) (As := []) (st := []) i173_1 (cq167 a0) rfl (Nat.le_of_ble_eq_true rfl) g1 (c1 _ (by omega)) ?_
  show Rn _ _ _ _ _ _ [.inl r1.1] _ _ _
  refine rn_istore_n (ls1 := [(1, .inl r1.1), (0, .inr (.inr a0))]) i173_4 rfl ?_
  refine fr_aload_n i173_5 rfl ?_
  refine fr_aload_n i173_6 rfl ?_
  obtain ⟨v7, h7, h⟩ := Option.bind_eq_some_iff.mp h
  refine fr_gR (k := 29) i173_7 tf12_29 h7 ?_
  refine fr_aload_n i173_10 rfl ?_
  obtain ⟨v11, h11, h⟩ := Option.bind_eq_some_iff.mp h
  refine fr_gI (k := 19) i173_11 tf12_19 h11 ?_
  obtain ⟨v14, h14, h⟩ := Option.bind_eq_some_iff.mp h
  refine rn_iald i173_14 h14 ?_
  obtain ⟨r15, h15, h⟩ := Option.bind_eq_some_iff.mp h
  obtain ⟨g15, c15⟩ := S_Mo_tellLaw a0 v14 r1.2 r15 h15
  refine fr_callV (a := a0) (As := [.inl v14]) (st := []) i173_15 (cq174 a0 v14) rfl (Nat.le_of_ble_eq_true rfl) g15 (c15 _ (by omega)) ?_
  refine fr_aload_n i173_18 rfl ?_
  obtain ⟨v19, h19, h⟩ := Option.bind_eq_some_iff.mp h
  refine fr_gI (k := 13) i173_19 tf12_13 h19 ?_
  by_cases c22 : (v19 : Int) ≤ 0
  · rw [if_pos c22] at h
    refine rn_if_le_t i173_22 c22 ?_
    refine fr_aload_n i173_26 rfl ?_
    refine rn_iload_n i173_27 rfl ?_
    refine rn_iconst i173_28 ?_
    obtain ⟨r29, h29, h⟩ := Option.bind_eq_some_iff.mp h
    obtain ⟨g29, c29⟩ := S_Mo_notes a0 (r1.1) (-1) r15 r29 h29
    refine fr_callV (a := a0) (As := [.inl r1.1, .inl (-1)]) (st := []) i173_29 (cq168 a0 (r1.1) (-1)) rfl (Nat.le_of_ble_eq_true rfl) g29 (c29 _ (by omega)) ?_
    refine fr_aload_n i173_32 rfl ?_
    obtain ⟨v33, h33, h⟩ := Option.bind_eq_some_iff.mp h
    refine fr_gR (k := 29) i173_33 tf12_29 h33 ?_
    refine fr_aload_n i173_36 rfl ?_
    obtain ⟨v37, h37, h⟩ := Option.bind_eq_some_iff.mp h
    refine fr_gI (k := 19) i173_37 tf12_19 h37 ?_
    refine rn_dup2 i173_40 rfl rfl ?_
    obtain ⟨v41, h41, h⟩ := Option.bind_eq_some_iff.mp h
    refine rn_iald i173_41 h41 ?_
    refine rn_iconst i173_42 ?_
    refine rn_iadd i173_43 ?_
    obtain ⟨w44, h44, h⟩ := Option.bind_eq_some_iff.mp h
    refine rn_iast i173_44 h44 ?_
    obtain rfl := Option.some.inj h
    exact rn_ret i173_45 mr173
  · rw [if_neg c22] at h
    refine rn_if_le_f i173_22 c22 ?_
    obtain rfl := Option.some.inj h
    exact rn_ret i173_25 mr173
/-- HandHeirsModel.tellMaster()V -/
def Mo_tellMaster (a0 : Nat) (w : Wd) : Option (Wd) := gd 12 w a0 (Mo_tellMaster_0 a0 w)
theorem S_Mo_tellMaster {g : Gp} {l : Launch} (a0 : Nat) (w : Wd) (r : Wd) (h : Mo_tellMaster a0 w = some r) : (wsh w a0).1 = 12 ∧ ∀ D, 6 ≤ D → Rn g l D 173 0 [(0, .inr (.inr a0))] [] w none r := by
  obtain ⟨hg, h⟩ := gd_some h
  exact ⟨hg, fun D hD => rn_sub [0] rfl (s_Mo_tellMaster_0 hD a0 w r h)⟩
def Mo_tellText_273 (w : Wd) : Option (Wd) :=
  some w
theorem s_Mo_tellText_273 {g : Gp} {l : Launch} {D : Nat} (hD : 7 ≤ D) (w : Wd) (r : Wd) (h : Mo_tellText_273 w = some r) : Rn g l D 166 273 [] [] w none r := by
  unfold Mo_tellText_273 at h
  obtain rfl := Option.some.inj h
  exact rn_ret i166_273 mr166
def Mo_tellText_163 (s0 : Int) (s1 : Nat) (w : Wd) : Option (Wd) :=
  (Mo_tellLaw s1 s0 w).bind fun r163 =>
  Mo_tellText_273 r163
theorem s_Mo_tellText_163 {g : Gp} {l : Launch} {D : Nat} (hD : 7 ≤ D) (s0 : Int) (s1 : Nat) (w : Wd) (r : Wd) (h : Mo_tellText_163 s0 s1 w = some r) : Rn g l D 166 163 [] [.inl s0, .inr (.inr s1)] w none r := by
  obtain ⟨D, rfl⟩ : ∃ D1, D = D1 + 1 := ⟨D - 1, by omega⟩
  unfold Mo_tellText_163 at h
  obtain ⟨r163, h163, h⟩ := Option.bind_eq_some_iff.mp h
  obtain ⟨g163, c163⟩ := S_Mo_tellLaw s1 s0 w r163 h163
  refine fr_callV (a := s1) (As := [.inl s0]) (st := []) i166_163 (cq174 s1 s0) rfl (Nat.le_of_ble_eq_true rfl) g163 (c163 _ (by omega)) ?_
  refine rn_goto i166_166 ?_
  exact rn_sub [] rfl (s_Mo_tellText_273 hD r163 r h)
def Mo_tellText_0 (a0 : Nat) (w : Wd) : Option (Wd) :=
  (fgR w a0 12 5).bind fun v1 =>
  (fgI w a0 12 11).bind fun v5 =>
  (rdI w v1 v5).bind fun v8 =>
  if (v8 : Int) = 20 then
    (fgR w a0 12 23).bind fun v58 =>
    (fgI w a0 12 19).bind fun v62 =>
    (rdI w v58 v62).bind fun v65 =>
    (Mo_roomFor a0 v65 6 w).bind fun r68 =>
    (fgI r68 a0 12 13).bind fun v72 =>
    if (v72 : Int) = 0 then
      (Mo_tellLetter a0 r68).bind fun r79 =>
      Mo_tellText_273 r79
    else
      Mo_tellText_273 r68
  else
    if (v8 : Int) = 21 then
      (fgR w a0 12 25).bind fun v87 =>
      (fgI w a0 12 19).bind fun v91 =>
      (rdI w v87 v91).bind fun v94 =>
      (Mo_roomFor a0 v94 6 w).bind fun r97 =>
      (fgI r97 a0 12 13).bind fun v101 =>
      if (v101 : Int) = 0 then
        (Mo_tellHeir a0 r97).bind fun r108 =>
        Mo_tellText_273 r108
      else
        Mo_tellText_273 r97
    else
      if (v8 : Int) = 22 then
        (fgR w a0 12 29).bind fun v116 =>
        (fgI w a0 12 19).bind fun v120 =>
        (rdI w v116 v120).bind fun v123 =>
        (Mo_roomFor a0 v123 3 w).bind fun r125 =>
        (fgI r125 a0 12 13).bind fun v129 =>
        if (v129 : Int) = 0 then
          (Mo_tellMaster a0 r125).bind fun r136 =>
          Mo_tellText_273 r136
        else
          Mo_tellText_273 r125
      else
        if (v8 : Int) = 23 then
          (Mo_goesOn a0 w).bind fun r143 =>
          (Mo_known a0 r143).bind fun r147 =>
          if (0 : Int) ≤ r147.1 then
            Mo_tellText_163 (w32 (3 + r147.1)) a0 r147.2
          else
            Mo_tellText_163 (-1) a0 r147.2
        else
          if (v8 : Int) = 24 then
            (Mo_goesOn a0 w).bind fun r170 =>
            (Mo_tellLaw a0 9 r170).bind fun r176 =>
            Mo_tellText_273 r176
          else
            if (v8 : Int) = 25 then
              (Mo_goesOn a0 w).bind fun r183 =>
              (fgR r183 a0 12 30).bind fun v187 =>
              (fgI r183 a0 12 19).bind fun v191 =>
              (Mo_bounded a0 0 9 r183).bind fun r198 =>
              (wrI r198.2 v187 v191 r198.1).bind fun w201 =>
              (Mo_must a0 4 w201).bind fun r204 =>
              Mo_tellText_273 r204
            else
              if (v8 : Int) = 26 then
                (Mo_goesOn a0 w).bind fun r211 =>
                (fgR r211 a0 12 31).bind fun v215 =>
                (fgI r211 a0 12 19).bind fun v219 =>
                (Mo_bounded a0 0 9999 r211).bind fun r227 =>
                (wrI r227.2 v215 v219 r227.1).bind fun w230 =>
                (Mo_must a0 4 w230).bind fun r233 =>
                Mo_tellText_273 r233
              else
                if (v8 : Int) = 27 then
                  (Mo_goesOn a0 w).bind fun r240 =>
                  (fgR r240 a0 12 32).bind fun v244 =>
                  (fgI r240 a0 12 19).bind fun v248 =>
                  (Mo_bounded a0 0 9999 r240).bind fun r256 =>
                  (wrI r256.2 v244 v248 r256.1).bind fun w259 =>
                  (Mo_must a0 4 w259).bind fun r262 =>
                  Mo_tellText_273 r262
                else
                  (Mo_fail a0 1 w).bind fun r270 =>
                  Mo_tellText_273 r270
theorem s_Mo_tellText_0 {g : Gp} {l : Launch} {D : Nat} (hD : 7 ≤ D) (a0 : Nat) (w : Wd) (r : Wd) (h : Mo_tellText_0 a0 w = some r) : Rn g l D 166 0 [(0, .inr (.inr a0))] [] w none r := by
  obtain ⟨D, rfl⟩ : ∃ D1, D = D1 + 1 := ⟨D - 1, by omega⟩
  unfold Mo_tellText_0 at h
  refine fr_aload_n i166_0 rfl ?_
  obtain ⟨v1, h1, h⟩ := Option.bind_eq_some_iff.mp h
  refine fr_gR (k := 5) i166_1 tf12_5 h1 ?_
  refine fr_aload_n i166_4 rfl ?_
  obtain ⟨v5, h5, h⟩ := Option.bind_eq_some_iff.mp h
  refine fr_gI (k := 11) i166_5 tf12_11 h5 ?_
  obtain ⟨v8, h8, h⟩ := Option.bind_eq_some_iff.mp h
  refine rn_iald i166_8 h8 ?_
  by_cases c9_0 : (v8 : Int) = 20
  · rw [if_pos c9_0] at h
    refine rn_tsw_in (tgt := 56) i166_9 0 (by omega) (by omega) rfl rfl ?_
    refine fr_aload_n i166_56 rfl ?_
    refine fr_aload_n i166_57 rfl ?_
    obtain ⟨v58, h58, h⟩ := Option.bind_eq_some_iff.mp h
    refine fr_gR (k := 23) i166_58 tf12_23 h58 ?_
    refine fr_aload_n i166_61 rfl ?_
    obtain ⟨v62, h62, h⟩ := Option.bind_eq_some_iff.mp h
    refine fr_gI (k := 19) i166_62 tf12_19 h62 ?_
    obtain ⟨v65, h65, h⟩ := Option.bind_eq_some_iff.mp h
    refine rn_iald i166_65 h65 ?_
    refine rn_bipush i166_66 ?_
    obtain ⟨r68, h68, h⟩ := Option.bind_eq_some_iff.mp h
    obtain ⟨g68, c68⟩ := S_Mo_roomFor a0 v65 6 w r68 h68
    refine fr_callV (a := a0) (As := [.inl v65, .inl 6]) (st := []) i166_68 (cq165 a0 v65 6) rfl (Nat.le_of_ble_eq_true rfl) g68 (c68 _ (by omega)) ?_
    refine fr_aload_n i166_71 rfl ?_
    obtain ⟨v72, h72, h⟩ := Option.bind_eq_some_iff.mp h
    refine fr_gI (k := 13) i166_72 tf12_13 h72 ?_
    by_cases c75 : (v72 : Int) = 0
    · rw [if_pos c75] at h
      refine rn_if_ne_f i166_75 c75 ?_
      refine fr_aload_n i166_78 rfl ?_
      obtain ⟨r79, h79, h⟩ := Option.bind_eq_some_iff.mp h
      obtain ⟨g79, c79⟩ := S_Mo_tellLetter a0 r68 r79 h79
      refine fr_callV (a := a0) (As := []) (st := []) i166_79 (cq171 a0) rfl (Nat.le_of_ble_eq_true rfl) g79 (c79 _ (by omega)) ?_
      refine rn_goto i166_82 ?_
      exact rn_sub [] rfl (s_Mo_tellText_273 hD r79 r h)
    · rw [if_neg c75] at h
      refine rn_if_ne_t i166_75 c75 ?_
      exact rn_sub [] rfl (s_Mo_tellText_273 hD r68 r h)
  · rw [if_neg c9_0] at h
    by_cases c9_1 : (v8 : Int) = 21
    · rw [if_pos c9_1] at h
      refine rn_tsw_in (tgt := 85) i166_9 1 (by omega) (by omega) rfl rfl ?_
      refine fr_aload_n i166_85 rfl ?_
      refine fr_aload_n i166_86 rfl ?_
      obtain ⟨v87, h87, h⟩ := Option.bind_eq_some_iff.mp h
      refine fr_gR (k := 25) i166_87 tf12_25 h87 ?_
      refine fr_aload_n i166_90 rfl ?_
      obtain ⟨v91, h91, h⟩ := Option.bind_eq_some_iff.mp h
      refine fr_gI (k := 19) i166_91 tf12_19 h91 ?_
      obtain ⟨v94, h94, h⟩ := Option.bind_eq_some_iff.mp h
      refine rn_iald i166_94 h94 ?_
      refine rn_bipush i166_95 ?_
      obtain ⟨r97, h97, h⟩ := Option.bind_eq_some_iff.mp h
      obtain ⟨g97, c97⟩ := S_Mo_roomFor a0 v94 6 w r97 h97
      refine fr_callV (a := a0) (As := [.inl v94, .inl 6]) (st := []) i166_97 (cq165 a0 v94 6) rfl (Nat.le_of_ble_eq_true rfl) g97 (c97 _ (by omega)) ?_
      refine fr_aload_n i166_100 rfl ?_
      obtain ⟨v101, h101, h⟩ := Option.bind_eq_some_iff.mp h
      refine fr_gI (k := 13) i166_101 tf12_13 h101 ?_
      by_cases c104 : (v101 : Int) = 0
      · rw [if_pos c104] at h
        refine rn_if_ne_f i166_104 c104 ?_
        refine fr_aload_n i166_107 rfl ?_
        obtain ⟨r108, h108, h⟩ := Option.bind_eq_some_iff.mp h
        obtain ⟨g108, c108⟩ := S_Mo_tellHeir a0 r97 r108 h108
        refine fr_callV (a := a0) (As := []) (st := []) i166_108 (cq172 a0) rfl (Nat.le_of_ble_eq_true rfl) g108 (c108 _ (by omega)) ?_
        refine rn_goto i166_111 ?_
        exact rn_sub [] rfl (s_Mo_tellText_273 hD r108 r h)
      · rw [if_neg c104] at h
        refine rn_if_ne_t i166_104 c104 ?_
        exact rn_sub [] rfl (s_Mo_tellText_273 hD r97 r h)
    · rw [if_neg c9_1] at h
      by_cases c9_2 : (v8 : Int) = 22
      · rw [if_pos c9_2] at h
        refine rn_tsw_in (tgt := 114) i166_9 2 (by omega) (by omega) rfl rfl ?_
        refine fr_aload_n i166_114 rfl ?_
        refine fr_aload_n i166_115 rfl ?_
        obtain ⟨v116, h116, h⟩ := Option.bind_eq_some_iff.mp h
        refine fr_gR (k := 29) i166_116 tf12_29 h116 ?_
        refine fr_aload_n i166_119 rfl ?_
        obtain ⟨v120, h120, h⟩ := Option.bind_eq_some_iff.mp h
        refine fr_gI (k := 19) i166_120 tf12_19 h120 ?_
        obtain ⟨v123, h123, h⟩ := Option.bind_eq_some_iff.mp h
        refine rn_iald i166_123 h123 ?_
        refine rn_iconst i166_124 ?_
        obtain ⟨r125, h125, h⟩ := Option.bind_eq_some_iff.mp h
        obtain ⟨g125, c125⟩ := S_Mo_roomFor a0 v123 3 w r125 h125
        refine fr_callV (a := a0) (As := [.inl v123, .inl 3]) (st := []) i166_125 (cq165 a0 v123 3) rfl (Nat.le_of_ble_eq_true rfl) g125 (c125 _ (by omega)) ?_
        refine fr_aload_n i166_128 rfl ?_
        obtain ⟨v129, h129, h⟩ := Option.bind_eq_some_iff.mp h
        refine fr_gI (k := 13) i166_129 tf12_13 h129 ?_
        by_cases c132 : (v129 : Int) = 0
        · rw [if_pos c132] at h
          refine rn_if_ne_f i166_132 c132 ?_
          refine fr_aload_n i166_135 rfl ?_
          obtain ⟨r136, h136, h⟩ := Option.bind_eq_some_iff.mp h
          obtain ⟨g136, c136⟩ := S_Mo_tellMaster a0 r125 r136 h136
          refine fr_callV (a := a0) (As := []) (st := []) i166_136 (cq173 a0) rfl (Nat.le_of_ble_eq_true rfl) g136 (c136 _ (by omega)) ?_
          refine rn_goto i166_139 ?_
          exact rn_sub [] rfl (s_Mo_tellText_273 hD r136 r h)
        · rw [if_neg c132] at h
          refine rn_if_ne_t i166_132 c132 ?_
          exact rn_sub [] rfl (s_Mo_tellText_273 hD r125 r h)
      · rw [if_neg c9_2] at h
        by_cases c9_3 : (v8 : Int) = 23
        · rw [if_pos c9_3] at h
          refine rn_tsw_in (tgt := 142) i166_9 3 (by omega) (by omega) rfl rfl ?_
          refine fr_aload_n i166_142 rfl ?_
          obtain ⟨r143, h143, h⟩ := Option.bind_eq_some_iff.mp h
          obtain ⟨g143, c143⟩ := S_Mo_goesOn a0 w r143 h143
          refine fr_callV (a := a0) (As := []) (st := []) i166_143 (cq160 a0) rfl (Nat.le_of_ble_eq_true rfl) g143 (c143 _ (by omega)) ?_
          refine fr_aload_n i166_146 rfl ?_
          obtain ⟨r147, h147, h⟩ := Option.bind_eq_some_iff.mp h
          obtain ⟨g147, c147⟩ := S_Mo_known a0 r143 r147 h147
          refine fr_callV (a := a0) (As := []) (st := []) i166_147 (cq169 a0) rfl (Nat.le_of_ble_eq_true rfl) g147 (c147 _ (by omega)) ?_
          show Rn _ _ _ _ _ _ [.inl r147.1] _ _ _
          refine rn_istore_n (ls1 := [(1, .inl r147.1), (0, .inr (.inr a0))]) i166_150 rfl ?_
          refine fr_aload_n i166_151 rfl ?_
          refine rn_iload_n i166_152 rfl ?_
          by_cases c153 : (0 : Int) ≤ r147.1
          · rw [if_pos c153] at h
            refine rn_if_ge_t i166_153 c153 ?_
            refine rn_iconst i166_160 ?_
            refine rn_iload_n i166_161 rfl ?_
            refine rn_iadd i166_162 ?_
            exact rn_sub [] rfl (s_Mo_tellText_163 hD (w32 (3 + r147.1)) a0 r147.2 r h)
          · rw [if_neg c153] at h
            refine rn_if_ge_f i166_153 c153 ?_
            refine rn_iconst i166_156 ?_
            refine rn_goto i166_157 ?_
            exact rn_sub [] rfl (s_Mo_tellText_163 hD (-1) a0 r147.2 r h)
        · rw [if_neg c9_3] at h
          by_cases c9_4 : (v8 : Int) = 24
          · rw [if_pos c9_4] at h
            refine rn_tsw_in (tgt := 169) i166_9 4 (by omega) (by omega) rfl rfl ?_
            refine fr_aload_n i166_169 rfl ?_
            obtain ⟨r170, h170, h⟩ := Option.bind_eq_some_iff.mp h
            obtain ⟨g170, c170⟩ := S_Mo_goesOn a0 w r170 h170
            refine fr_callV (a := a0) (As := []) (st := []) i166_170 (cq160 a0) rfl (Nat.le_of_ble_eq_true rfl) g170 (c170 _ (by omega)) ?_
            refine fr_aload_n i166_173 rfl ?_
            refine rn_bipush i166_174 ?_
            obtain ⟨r176, h176, h⟩ := Option.bind_eq_some_iff.mp h
            obtain ⟨g176, c176⟩ := S_Mo_tellLaw a0 9 r170 r176 h176
            refine fr_callV (a := a0) (As := [.inl 9]) (st := []) i166_176 (cq174 a0 9) rfl (Nat.le_of_ble_eq_true rfl) g176 (c176 _ (by omega)) ?_
            refine rn_goto i166_179 ?_
            exact rn_sub [] rfl (s_Mo_tellText_273 hD r176 r h)
          · rw [if_neg c9_4] at h
            by_cases c9_5 : (v8 : Int) = 25
            · rw [if_pos c9_5] at h
              refine rn_tsw_in (tgt := 182) i166_9 5 (by omega) (by omega) rfl rfl ?_
              refine fr_aload_n i166_182 rfl ?_
              obtain ⟨r183, h183, h⟩ := Option.bind_eq_some_iff.mp h
              obtain ⟨g183, c183⟩ := S_Mo_goesOn a0 w r183 h183
              refine fr_callV (a := a0) (As := []) (st := []) i166_183 (cq160 a0) rfl (Nat.le_of_ble_eq_true rfl) g183 (c183 _ (by omega)) ?_
              refine fr_aload_n i166_186 rfl ?_
              obtain ⟨v187, h187, h⟩ := Option.bind_eq_some_iff.mp h
              refine fr_gR (k := 30) i166_187 tf12_30 h187 ?_
              refine fr_aload_n i166_190 rfl ?_
              obtain ⟨v191, h191, h⟩ := Option.bind_eq_some_iff.mp h
              refine fr_gI (k := 19) i166_191 tf12_19 h191 ?_
              refine fr_aload_n i166_194 rfl ?_
              refine rn_iconst i166_195 ?_
              refine rn_bipush i166_196 ?_
              obtain ⟨r198, h198, h⟩ := Option.bind_eq_some_iff.mp h
              obtain ⟨g198, c198⟩ := S_Mo_bounded a0 0 9 r183 r198 h198
              refine fr_callV (a := a0) (As := [.inl 0, .inl 9]) (st := [.inl v191, .inr (.inr v187)]) i166_198 (cq170 a0 0 9) rfl (Nat.le_of_ble_eq_true rfl) g198 (c198 _ (by omega)) ?_
              show Rn _ _ _ _ _ _ [.inl r198.1, .inl v191, .inr (.inr v187)] _ _ _
              obtain ⟨w201, h201, h⟩ := Option.bind_eq_some_iff.mp h
              refine rn_iast i166_201 h201 ?_
              refine fr_aload_n i166_202 rfl ?_
              refine rn_iconst i166_203 ?_
              obtain ⟨r204, h204, h⟩ := Option.bind_eq_some_iff.mp h
              obtain ⟨g204, c204⟩ := S_Mo_must a0 4 w201 r204 h204
              refine fr_callV (a := a0) (As := [.inl 4]) (st := []) i166_204 (cq161 a0 4) rfl (Nat.le_of_ble_eq_true rfl) g204 (c204 _ (by omega)) ?_
              refine rn_goto i166_207 ?_
              exact rn_sub [] rfl (s_Mo_tellText_273 hD r204 r h)
            · rw [if_neg c9_5] at h
              by_cases c9_6 : (v8 : Int) = 26
              · rw [if_pos c9_6] at h
                refine rn_tsw_in (tgt := 210) i166_9 6 (by omega) (by omega) rfl rfl ?_
                refine fr_aload_n i166_210 rfl ?_
                obtain ⟨r211, h211, h⟩ := Option.bind_eq_some_iff.mp h
                obtain ⟨g211, c211⟩ := S_Mo_goesOn a0 w r211 h211
                refine fr_callV (a := a0) (As := []) (st := []) i166_211 (cq160 a0) rfl (Nat.le_of_ble_eq_true rfl) g211 (c211 _ (by omega)) ?_
                refine fr_aload_n i166_214 rfl ?_
                obtain ⟨v215, h215, h⟩ := Option.bind_eq_some_iff.mp h
                refine fr_gR (k := 31) i166_215 tf12_31 h215 ?_
                refine fr_aload_n i166_218 rfl ?_
                obtain ⟨v219, h219, h⟩ := Option.bind_eq_some_iff.mp h
                refine fr_gI (k := 19) i166_219 tf12_19 h219 ?_
                refine fr_aload_n i166_222 rfl ?_
                refine rn_iconst i166_223 ?_
                refine rn_sipush i166_224 ?_
                obtain ⟨r227, h227, h⟩ := Option.bind_eq_some_iff.mp h
                obtain ⟨g227, c227⟩ := S_Mo_bounded a0 0 9999 r211 r227 h227
                refine fr_callV (a := a0) (As := [.inl 0, .inl 9999]) (st := [.inl v219, .inr (.inr v215)]) i166_227 (cq170 a0 0 9999) rfl (Nat.le_of_ble_eq_true rfl) g227 (c227 _ (by omega)) ?_
                show Rn _ _ _ _ _ _ [.inl r227.1, .inl v219, .inr (.inr v215)] _ _ _
                obtain ⟨w230, h230, h⟩ := Option.bind_eq_some_iff.mp h
                refine rn_iast i166_230 h230 ?_
                refine fr_aload_n i166_231 rfl ?_
                refine rn_iconst i166_232 ?_
                obtain ⟨r233, h233, h⟩ := Option.bind_eq_some_iff.mp h
                obtain ⟨g233, c233⟩ := S_Mo_must a0 4 w230 r233 h233
                refine fr_callV (a := a0) (As := [.inl 4]) (st := []) i166_233 (cq161 a0 4) rfl (Nat.le_of_ble_eq_true rfl) g233 (c233 _ (by omega)) ?_
                refine rn_goto i166_236 ?_
                exact rn_sub [] rfl (s_Mo_tellText_273 hD r233 r h)
              · rw [if_neg c9_6] at h
                by_cases c9_7 : (v8 : Int) = 27
                · rw [if_pos c9_7] at h
                  refine rn_tsw_in (tgt := 239) i166_9 7 (by omega) (by omega) rfl rfl ?_
                  refine fr_aload_n i166_239 rfl ?_
                  obtain ⟨r240, h240, h⟩ := Option.bind_eq_some_iff.mp h
                  obtain ⟨g240, c240⟩ := S_Mo_goesOn a0 w r240 h240
                  refine fr_callV (a := a0) (As := []) (st := []) i166_240 (cq160 a0) rfl (Nat.le_of_ble_eq_true rfl) g240 (c240 _ (by omega)) ?_
                  refine fr_aload_n i166_243 rfl ?_
                  obtain ⟨v244, h244, h⟩ := Option.bind_eq_some_iff.mp h
                  refine fr_gR (k := 32) i166_244 tf12_32 h244 ?_
                  refine fr_aload_n i166_247 rfl ?_
                  obtain ⟨v248, h248, h⟩ := Option.bind_eq_some_iff.mp h
                  refine fr_gI (k := 19) i166_248 tf12_19 h248 ?_
                  refine fr_aload_n i166_251 rfl ?_
                  refine rn_iconst i166_252 ?_
                  refine rn_sipush i166_253 ?_
                  obtain ⟨r256, h256, h⟩ := Option.bind_eq_some_iff.mp h
                  obtain ⟨g256, c256⟩ := S_Mo_bounded a0 0 9999 r240 r256 h256
                  refine fr_callV (a := a0) (As := [.inl 0, .inl 9999]) (st := [.inl v248, .inr (.inr v244)]) i166_256 (cq170 a0 0 9999) rfl (Nat.le_of_ble_eq_true rfl) g256 (c256 _ (by omega)) ?_
                  show Rn _ _ _ _ _ _ [.inl r256.1, .inl v248, .inr (.inr v244)] _ _ _
                  obtain ⟨w259, h259, h⟩ := Option.bind_eq_some_iff.mp h
                  refine rn_iast i166_259 h259 ?_
                  refine fr_aload_n i166_260 rfl ?_
                  refine rn_iconst i166_261 ?_
                  obtain ⟨r262, h262, h⟩ := Option.bind_eq_some_iff.mp h
                  obtain ⟨g262, c262⟩ := S_Mo_must a0 4 w259 r262 h262
                  refine fr_callV (a := a0) (As := [.inl 4]) (st := []) i166_262 (cq161 a0 4) rfl (Nat.le_of_ble_eq_true rfl) g262 (c262 _ (by omega)) ?_
                  refine rn_goto i166_265 ?_
                  exact rn_sub [] rfl (s_Mo_tellText_273 hD r262 r h)
                · rw [if_neg c9_7] at h
                  refine rn_tsw_out (tgt := 268) i166_9 (by omega) rfl ?_
                  refine fr_aload_n i166_268 rfl ?_
                  refine rn_iconst i166_269 ?_
                  obtain ⟨r270, h270, h⟩ := Option.bind_eq_some_iff.mp h
                  obtain ⟨g270, c270⟩ := S_Mo_fail a0 1 w r270 h270
                  refine fr_callV (a := a0) (As := [.inl 1]) (st := []) i166_270 (cq158 a0 1) rfl (Nat.le_of_ble_eq_true rfl) g270 (c270 _ (by omega)) ?_
                  exact rn_sub [] rfl (s_Mo_tellText_273 hD r270 r h)
/-- HandHeirsModel.tell()V -/
def Mo_tellText (a0 : Nat) (w : Wd) : Option (Wd) := gd 12 w a0 (Mo_tellText_0 a0 w)
theorem S_Mo_tellText {g : Gp} {l : Launch} (a0 : Nat) (w : Wd) (r : Wd) (h : Mo_tellText a0 w = some r) : (wsh w a0).1 = 12 ∧ ∀ D, 7 ≤ D → Rn g l D 166 0 [(0, .inr (.inr a0))] [] w none r := by
  obtain ⟨hg, h⟩ := gd_some h
  exact ⟨hg, fun D hD => rn_sub [0] rfl (s_Mo_tellText_0 hD a0 w r h)⟩
def Mo_read_215 : Nat → Nat → Int → Wd → Option (Int × Wd)
  | 0, _, _, _ => none
  | n + 1, a0, x1, w =>
    if (3 : Int) ≤ x1 then
      some (0, w)
    else
      (fgR w a0 12 66).bind fun v221 =>
      (wrB w v221 x1 0).bind fun w226 =>
      Mo_read_215 n a0 (w32 (x1 + 1)) w226
theorem s_Mo_read_215 {g : Gp} {l : Launch} {D : Nat} (hD : 8 ≤ D) : ∀ (n : Nat) (a0 : Nat) (x1 : Int) (w : Wd) (r : Int × Wd), Mo_read_215 n a0 x1 w = some r → Rn g l D 163 215 [(0, .inr (.inr a0)), (1, .inl x1)] [] w (some (.inl r.1)) r.2 := by
  intro n
  induction n with
  | zero => intro a0 x1 w r h; cases (show (none : Option (Int × Wd)) = some r from h)
  | succ n ih =>
    intro a0 x1 w r h
    unfold Mo_read_215 at h
    refine rn_iload_n i163_215 rfl ?_
    refine rn_iconst i163_216 ?_
    by_cases c217 : (3 : Int) ≤ x1
    · rw [if_pos c217] at h
      refine rn_icmp_ge_t i163_217 c217 ?_
      refine rn_iconst i163_233 ?_
      obtain rfl := Option.some.inj h
      exact rn_retI i163_234 mr163
    · rw [if_neg c217] at h
      refine rn_icmp_ge_f i163_217 c217 ?_
      refine fr_aload_n i163_220 rfl ?_
      obtain ⟨v221, h221, h⟩ := Option.bind_eq_some_iff.mp h
      refine fr_gR (k := 66) i163_221 tf12_66 h221 ?_
      refine rn_iload_n i163_224 rfl ?_
      refine rn_iconst i163_225 ?_
      obtain ⟨w226, h226, h⟩ := Option.bind_eq_some_iff.mp h
      refine rn_bast i163_226 h226 ?_
      refine rn_iinc (ls1 := [(1, .inl (w32 (x1 + 1))), (0, .inr (.inr a0))]) i163_227 rfl rfl ?_
      refine rn_goto i163_230 ?_
      exact rn_sub [1, 0] rfl (ih a0 (w32 (x1 + 1)) w226 r h)
def Mo_read_164 (a0 : Nat) (s0 : Int) (s1 : Nat) (w : Wd) : Option (Int × Wd) :=
  (fpI w s1 12 17 s0).bind fun w164 =>
  (fgI w164 a0 12 13).bind fun v168 =>
  if (v168 : Int) ≤ 0 then
    (fgI w164 a0 12 15).bind fun v180 =>
    if (v180 : Int) ≤ 0 then
      (fgI w164 a0 12 19).bind fun v193 =>
      (fpI w164 a0 12 18 v193).bind fun w196 =>
      (Mo_begins a0 w196).bind fun r200 =>
      (fpI r200 a0 12 58 0).bind fun w205 =>
      (fpI w205 a0 12 63 0).bind fun w210 =>
      Mo_read_215 FU a0 0 w210
    else
      (fgI w164 a0 12 15).bind fun v187 =>
      some (v187, w164)
  else
    (fgI w164 a0 12 13).bind fun v175 =>
    some (v175, w164)
theorem s_Mo_read_164 {g : Gp} {l : Launch} {D : Nat} (hD : 8 ≤ D) (a0 : Nat) (s0 : Int) (s1 : Nat) (w : Wd) (r : Int × Wd) (h : Mo_read_164 a0 s0 s1 w = some r) : Rn g l D 163 164 [(0, .inr (.inr a0))] [.inl s0, .inr (.inr s1)] w (some (.inl r.1)) r.2 := by
  obtain ⟨D, rfl⟩ : ∃ D1, D = D1 + 1 := ⟨D - 1, by omega⟩
  unfold Mo_read_164 at h
  obtain ⟨w164, h164, h⟩ := Option.bind_eq_some_iff.mp h
  refine fr_pI (k := 17) i163_164 (pf12_17 163) h164 ?_
  refine fr_aload_n i163_167 rfl ?_
  obtain ⟨v168, h168, h⟩ := Option.bind_eq_some_iff.mp h
  refine fr_gI (k := 13) i163_168 tf12_13 h168 ?_
  by_cases c171 : (v168 : Int) ≤ 0
  · rw [if_pos c171] at h
    refine rn_if_le_t i163_171 c171 ?_
    refine fr_aload_n i163_179 rfl ?_
    obtain ⟨v180, h180, h⟩ := Option.bind_eq_some_iff.mp h
    refine fr_gI (k := 15) i163_180 tf12_15 h180 ?_
    by_cases c183 : (v180 : Int) ≤ 0
    · rw [if_pos c183] at h
      refine rn_if_le_t i163_183 c183 ?_
      refine fr_aload_n i163_191 rfl ?_
      refine fr_aload_n i163_192 rfl ?_
      obtain ⟨v193, h193, h⟩ := Option.bind_eq_some_iff.mp h
      refine fr_gI (k := 19) i163_193 tf12_19 h193 ?_
      obtain ⟨w196, h196, h⟩ := Option.bind_eq_some_iff.mp h
      refine fr_pI (k := 18) i163_196 (pf12_18 163) h196 ?_
      refine fr_aload_n i163_199 rfl ?_
      obtain ⟨r200, h200, h⟩ := Option.bind_eq_some_iff.mp h
      obtain ⟨g200, c200⟩ := S_Mo_begins a0 w196 r200 h200
      refine fr_callV (a := a0) (As := []) (st := []) i163_200 (cq185 a0) rfl (Nat.le_of_ble_eq_true rfl) g200 (c200 _ (by omega)) ?_
      refine fr_aload_n i163_203 rfl ?_
      refine rn_iconst i163_204 ?_
      obtain ⟨w205, h205, h⟩ := Option.bind_eq_some_iff.mp h
      refine fr_pI (k := 58) i163_205 (pf12_58 163) h205 ?_
      refine fr_aload_n i163_208 rfl ?_
      refine rn_iconst i163_209 ?_
      obtain ⟨w210, h210, h⟩ := Option.bind_eq_some_iff.mp h
      refine fr_pI (k := 63) i163_210 (pf12_63 163) h210 ?_
      refine rn_iconst i163_213 ?_
      refine rn_istore_n (ls1 := [(1, .inl 0), (0, .inr (.inr a0))]) i163_214 rfl ?_
      exact rn_sub [1, 0] rfl (s_Mo_read_215 hD FU a0 0 w210 r h)
    · rw [if_neg c183] at h
      refine rn_if_le_f i163_183 c183 ?_
      refine fr_aload_n i163_186 rfl ?_
      obtain ⟨v187, h187, h⟩ := Option.bind_eq_some_iff.mp h
      refine fr_gI (k := 15) i163_187 tf12_15 h187 ?_
      obtain rfl := Option.some.inj h
      exact rn_retI i163_190 mr163
  · rw [if_neg c171] at h
    refine rn_if_le_f i163_171 c171 ?_
    refine fr_aload_n i163_174 rfl ?_
    obtain ⟨v175, h175, h⟩ := Option.bind_eq_some_iff.mp h
    refine fr_gI (k := 13) i163_175 tf12_13 h175 ?_
    obtain rfl := Option.some.inj h
    exact rn_retI i163_178 mr163
def Mo_read_134 (a0 : Nat) (w : Wd) : Option (Int × Wd) :=
  (fgI w a0 12 13).bind fun v136 =>
  if (v136 : Int) ≤ 0 then
    (fgI w a0 12 15).bind fun v150 =>
    if (v150 : Int) ≤ 0 then
      Mo_read_164 a0 (-1) a0 w
    else
      (fgI w a0 12 16).bind fun v157 =>
      Mo_read_164 a0 v157 a0 w
  else
    (fgI w a0 12 14).bind fun v143 =>
    Mo_read_164 a0 v143 a0 w
theorem s_Mo_read_134 {g : Gp} {l : Launch} {D : Nat} (hD : 8 ≤ D) (a0 : Nat) (w : Wd) (r : Int × Wd) (h : Mo_read_134 a0 w = some r) : Rn g l D 163 134 [(0, .inr (.inr a0))] [] w (some (.inl r.1)) r.2 := by
  unfold Mo_read_134 at h
  refine fr_aload_n i163_134 rfl ?_
  refine fr_aload_n i163_135 rfl ?_
  obtain ⟨v136, h136, h⟩ := Option.bind_eq_some_iff.mp h
  refine fr_gI (k := 13) i163_136 tf12_13 h136 ?_
  by_cases c139 : (v136 : Int) ≤ 0
  · rw [if_pos c139] at h
    refine rn_if_le_t i163_139 c139 ?_
    refine fr_aload_n i163_149 rfl ?_
    obtain ⟨v150, h150, h⟩ := Option.bind_eq_some_iff.mp h
    refine fr_gI (k := 15) i163_150 tf12_15 h150 ?_
    by_cases c153 : (v150 : Int) ≤ 0
    · rw [if_pos c153] at h
      refine rn_if_le_t i163_153 c153 ?_
      refine rn_iconst i163_163 ?_
      exact rn_sub [0] rfl (s_Mo_read_164 hD a0 (-1) a0 w r h)
    · rw [if_neg c153] at h
      refine rn_if_le_f i163_153 c153 ?_
      refine fr_aload_n i163_156 rfl ?_
      obtain ⟨v157, h157, h⟩ := Option.bind_eq_some_iff.mp h
      refine fr_gI (k := 16) i163_157 tf12_16 h157 ?_
      refine rn_goto i163_160 ?_
      exact rn_sub [0] rfl (s_Mo_read_164 hD a0 v157 a0 w r h)
  · rw [if_neg c139] at h
    refine rn_if_le_f i163_139 c139 ?_
    refine fr_aload_n i163_142 rfl ?_
    obtain ⟨v143, h143, h⟩ := Option.bind_eq_some_iff.mp h
    refine fr_gI (k := 14) i163_143 tf12_14 h143 ?_
    refine rn_goto i163_146 ?_
    exact rn_sub [0] rfl (s_Mo_read_164 hD a0 v143 a0 w r h)
def Mo_read_112 : Nat → Nat → Wd → Option (Int × Wd)
  | 0, _, _ => none
  | n + 1, a0, w =>
    (fgI w a0 12 13).bind fun v113 =>
    if (v113 : Int) = 0 then
      (Mo_is a0 0 w).bind fun r121 =>
      if (r121.1 : Int) = 0 then
        (Mo_tellText a0 r121.2).bind fun r128 =>
        Mo_read_112 n a0 r128
      else
        Mo_read_134 a0 r121.2
    else
      Mo_read_134 a0 w
theorem s_Mo_read_112 {g : Gp} {l : Launch} {D : Nat} (hD : 8 ≤ D) : ∀ (n : Nat) (a0 : Nat) (w : Wd) (r : Int × Wd), Mo_read_112 n a0 w = some r → Rn g l D 163 112 [(0, .inr (.inr a0))] [] w (some (.inl r.1)) r.2 := by
  obtain ⟨D, rfl⟩ : ∃ D1, D = D1 + 1 := ⟨D - 1, by omega⟩
  intro n
  induction n with
  | zero => intro a0 w r h; cases (show (none : Option (Int × Wd)) = some r from h)
  | succ n ih =>
    intro a0 w r h
    unfold Mo_read_112 at h
    refine fr_aload_n i163_112 rfl ?_
    obtain ⟨v113, h113, h⟩ := Option.bind_eq_some_iff.mp h
    refine fr_gI (k := 13) i163_113 tf12_13 h113 ?_
    by_cases c116 : (v113 : Int) = 0
    · rw [if_pos c116] at h
      refine rn_if_ne_f i163_116 c116 ?_
      refine fr_aload_n i163_119 rfl ?_
      refine rn_iconst i163_120 ?_
      obtain ⟨r121, h121, h⟩ := Option.bind_eq_some_iff.mp h
      obtain ⟨g121, c121⟩ := S_Mo_is a0 0 w r121 h121
      refine fr_callV (a := a0) (As := [.inl 0]) (st := []) i163_121 (cq157 a0 0) rfl (Nat.le_of_ble_eq_true rfl) g121 (c121 _ (by omega)) ?_
      show Rn _ _ _ _ _ _ [.inl r121.1] _ _ _
      by_cases c124 : (r121.1 : Int) = 0
      · rw [if_pos c124] at h
        refine rn_if_ne_f i163_124 c124 ?_
        refine fr_aload_n i163_127 rfl ?_
        obtain ⟨r128, h128, h⟩ := Option.bind_eq_some_iff.mp h
        obtain ⟨g128, c128⟩ := S_Mo_tellText a0 r121.2 r128 h128
        refine fr_callV (a := a0) (As := []) (st := []) i163_128 (cq166 a0) rfl (Nat.le_of_ble_eq_true rfl) g128 (c128 _ (by omega)) ?_
        refine rn_goto i163_131 ?_
        exact rn_sub [0] rfl (ih a0 r128 r h)
      · rw [if_neg c124] at h
        refine rn_if_ne_t i163_124 c124 ?_
        exact rn_sub [0] rfl (s_Mo_read_134 hD a0 r121.2 r h)
    · rw [if_neg c116] at h
      refine rn_if_ne_t i163_116 c116 ?_
      exact rn_sub [0] rfl (s_Mo_read_134 hD a0 w r h)
def Mo_read_36 (a0 : Nat) (w : Wd) : Option (Int × Wd) :=
  (fpI w a0 12 2 0).bind fun w38 =>
  (Mo_cut a0 w38).bind fun r42 =>
  (fpI r42 a0 12 11 0).bind fun w47 =>
  (fpI w47 a0 12 12 0).bind fun w52 =>
  (fpI w52 a0 12 13 0).bind fun w57 =>
  (fpI w57 a0 12 15 0).bind fun w62 =>
  (fgI w62 a0 12 18).bind fun v68 =>
  (fpI w62 a0 12 19 (w32 (1 - v68))).bind fun w72 =>
  (fpI w72 a0 12 20 0).bind fun w77 =>
  (fgI w77 a0 12 19).bind fun v82 =>
  (Mo_plain a0 v82 w77).bind fun r85 =>
  (fgI r85 a0 12 19).bind fun v93 =>
  (fpI r85 a0 12 35 (w32 (130 * v93))).bind fun w97 =>
  (fgI w97 a0 12 19).bind fun v105 =>
  (fpI w97 a0 12 41 (w32 (420 * v105))).bind fun w109 =>
  Mo_read_112 FU a0 w109
theorem s_Mo_read_36 {g : Gp} {l : Launch} {D : Nat} (hD : 8 ≤ D) (a0 : Nat) (w : Wd) (r : Int × Wd) (h : Mo_read_36 a0 w = some r) : Rn g l D 163 36 [(0, .inr (.inr a0))] [] w (some (.inl r.1)) r.2 := by
  obtain ⟨D, rfl⟩ : ∃ D1, D = D1 + 1 := ⟨D - 1, by omega⟩
  unfold Mo_read_36 at h
  refine fr_aload_n i163_36 rfl ?_
  refine rn_iconst i163_37 ?_
  obtain ⟨w38, h38, h⟩ := Option.bind_eq_some_iff.mp h
  refine fr_pI (k := 2) i163_38 (pf12_2 163) h38 ?_
  refine fr_aload_n i163_41 rfl ?_
  obtain ⟨r42, h42, h⟩ := Option.bind_eq_some_iff.mp h
  obtain ⟨g42, c42⟩ := S_Mo_cut a0 w38 r42 h42
  refine fr_callV (a := a0) (As := []) (st := []) i163_42 (cq155 a0) rfl (Nat.le_of_ble_eq_true rfl) g42 (c42 _ (by omega)) ?_
  refine fr_aload_n i163_45 rfl ?_
  refine rn_iconst i163_46 ?_
  obtain ⟨w47, h47, h⟩ := Option.bind_eq_some_iff.mp h
  refine fr_pI (k := 11) i163_47 (pf12_11 163) h47 ?_
  refine fr_aload_n i163_50 rfl ?_
  refine rn_iconst i163_51 ?_
  obtain ⟨w52, h52, h⟩ := Option.bind_eq_some_iff.mp h
  refine fr_pI (k := 12) i163_52 (pf12_12 163) h52 ?_
  refine fr_aload_n i163_55 rfl ?_
  refine rn_iconst i163_56 ?_
  obtain ⟨w57, h57, h⟩ := Option.bind_eq_some_iff.mp h
  refine fr_pI (k := 13) i163_57 (pf12_13 163) h57 ?_
  refine fr_aload_n i163_60 rfl ?_
  refine rn_iconst i163_61 ?_
  obtain ⟨w62, h62, h⟩ := Option.bind_eq_some_iff.mp h
  refine fr_pI (k := 15) i163_62 (pf12_15 163) h62 ?_
  refine fr_aload_n i163_65 rfl ?_
  refine rn_iconst i163_66 ?_
  refine fr_aload_n i163_67 rfl ?_
  obtain ⟨v68, h68, h⟩ := Option.bind_eq_some_iff.mp h
  refine fr_gI (k := 18) i163_68 tf12_18 h68 ?_
  refine rn_isub i163_71 ?_
  obtain ⟨w72, h72, h⟩ := Option.bind_eq_some_iff.mp h
  refine fr_pI (k := 19) i163_72 (pf12_19 163) h72 ?_
  refine fr_aload_n i163_75 rfl ?_
  refine rn_iconst i163_76 ?_
  obtain ⟨w77, h77, h⟩ := Option.bind_eq_some_iff.mp h
  refine fr_pI (k := 20) i163_77 (pf12_20 163) h77 ?_
  refine fr_aload_n i163_80 rfl ?_
  refine fr_aload_n i163_81 rfl ?_
  obtain ⟨v82, h82, h⟩ := Option.bind_eq_some_iff.mp h
  refine fr_gI (k := 19) i163_82 tf12_19 h82 ?_
  obtain ⟨r85, h85, h⟩ := Option.bind_eq_some_iff.mp h
  obtain ⟨g85, c85⟩ := S_Mo_plain a0 v82 w77 r85 h85
  refine fr_callV (a := a0) (As := [.inl v82]) (st := []) i163_85 (cq162 a0 v82) rfl (Nat.le_of_ble_eq_true rfl) g85 (c85 _ (by omega)) ?_
  refine fr_aload_n i163_88 rfl ?_
  refine rn_sipush i163_89 ?_
  refine fr_aload_n i163_92 rfl ?_
  obtain ⟨v93, h93, h⟩ := Option.bind_eq_some_iff.mp h
  refine fr_gI (k := 19) i163_93 tf12_19 h93 ?_
  refine rn_imul i163_96 ?_
  obtain ⟨w97, h97, h⟩ := Option.bind_eq_some_iff.mp h
  refine fr_pI (k := 35) i163_97 (pf12_35 163) h97 ?_
  refine fr_aload_n i163_100 rfl ?_
  refine rn_sipush i163_101 ?_
  refine fr_aload_n i163_104 rfl ?_
  obtain ⟨v105, h105, h⟩ := Option.bind_eq_some_iff.mp h
  refine fr_gI (k := 19) i163_105 tf12_19 h105 ?_
  refine rn_imul i163_108 ?_
  obtain ⟨w109, h109, h⟩ := Option.bind_eq_some_iff.mp h
  refine fr_pI (k := 41) i163_109 (pf12_41 163) h109 ?_
  exact rn_sub [0] rfl (s_Mo_read_112 hD FU a0 w109 r h)
def Mo_read_10 : Nat → Nat → Int → Wd → Option (Int × Wd)
  | 0, _, _, _ => none
  | n + 1, a0, x1, w =>
    (fgI w a0 12 4).bind fun v12 =>
    if (v12 : Int) ≤ x1 then
      Mo_read_36 a0 w
    else
      (fgR w a0 12 3).bind fun v19 =>
      (fgR w a0 12 1).bind fun v24 =>
      (rdB w v24 x1).bind fun v28 =>
      (wrB w v19 x1 v28).bind fun w29 =>
      Mo_read_10 n a0 (w32 (x1 + 1)) w29
theorem s_Mo_read_10 {g : Gp} {l : Launch} {D : Nat} (hD : 8 ≤ D) : ∀ (n : Nat) (a0 : Nat) (x1 : Int) (w : Wd) (r : Int × Wd), Mo_read_10 n a0 x1 w = some r → Rn g l D 163 10 [(0, .inr (.inr a0)), (1, .inl x1)] [] w (some (.inl r.1)) r.2 := by
  intro n
  induction n with
  | zero => intro a0 x1 w r h; cases (show (none : Option (Int × Wd)) = some r from h)
  | succ n ih =>
    intro a0 x1 w r h
    unfold Mo_read_10 at h
    refine rn_iload_n i163_10 rfl ?_
    refine fr_aload_n i163_11 rfl ?_
    obtain ⟨v12, h12, h⟩ := Option.bind_eq_some_iff.mp h
    refine fr_gI (k := 4) i163_12 tf12_4 h12 ?_
    by_cases c15 : (v12 : Int) ≤ x1
    · rw [if_pos c15] at h
      refine rn_icmp_ge_t i163_15 c15 ?_
      exact rn_sub [0] rfl (s_Mo_read_36 hD a0 w r h)
    · rw [if_neg c15] at h
      refine rn_icmp_ge_f i163_15 c15 ?_
      refine fr_aload_n i163_18 rfl ?_
      obtain ⟨v19, h19, h⟩ := Option.bind_eq_some_iff.mp h
      refine fr_gR (k := 3) i163_19 tf12_3 h19 ?_
      refine rn_iload_n i163_22 rfl ?_
      refine fr_aload_n i163_23 rfl ?_
      obtain ⟨v24, h24, h⟩ := Option.bind_eq_some_iff.mp h
      refine fr_gR (k := 1) i163_24 tf12_1 h24 ?_
      refine rn_iload_n i163_27 rfl ?_
      obtain ⟨v28, h28, h⟩ := Option.bind_eq_some_iff.mp h
      refine rn_bald i163_28 h28 ?_
      obtain ⟨w29, h29, h⟩ := Option.bind_eq_some_iff.mp h
      refine rn_bast i163_29 h29 ?_
      refine rn_iinc (ls1 := [(1, .inl (w32 (x1 + 1))), (0, .inr (.inr a0))]) i163_30 rfl rfl ?_
      refine rn_goto i163_33 ?_
      exact rn_sub [1, 0] rfl (ih a0 (w32 (x1 + 1)) w29 r h)
def Mo_read_0 (a0 : Nat) (w : Wd) : Option (Int × Wd) :=
  (fgI w a0 12 2).bind fun v2 =>
  (fpI w a0 12 4 v2).bind fun w5 =>
  Mo_read_10 FU a0 0 w5
theorem s_Mo_read_0 {g : Gp} {l : Launch} {D : Nat} (hD : 8 ≤ D) (a0 : Nat) (w : Wd) (r : Int × Wd) (h : Mo_read_0 a0 w = some r) : Rn g l D 163 0 [(0, .inr (.inr a0))] [] w (some (.inl r.1)) r.2 := by
  unfold Mo_read_0 at h
  refine fr_aload_n i163_0 rfl ?_
  refine fr_aload_n i163_1 rfl ?_
  obtain ⟨v2, h2, h⟩ := Option.bind_eq_some_iff.mp h
  refine fr_gI (k := 2) i163_2 tf12_2 h2 ?_
  obtain ⟨w5, h5, h⟩ := Option.bind_eq_some_iff.mp h
  refine fr_pI (k := 4) i163_5 (pf12_4 163) h5 ?_
  refine rn_iconst i163_8 ?_
  refine rn_istore_n (ls1 := [(1, .inl 0), (0, .inr (.inr a0))]) i163_9 rfl ?_
  exact rn_sub [1, 0] rfl (s_Mo_read_10 hD FU a0 0 w5 r h)
/-- HandHeirsModel.read()I -/
def Mo_read (a0 : Nat) (w : Wd) : Option (Int × Wd) := gd 12 w a0 (Mo_read_0 a0 w)
theorem S_Mo_read {g : Gp} {l : Launch} (a0 : Nat) (w : Wd) (r : Int × Wd) (h : Mo_read a0 w = some r) : (wsh w a0).1 = 12 ∧ ∀ D, 8 ≤ D → Rn g l D 163 0 [(0, .inr (.inr a0))] [] w (some (.inl r.1)) r.2 := by
  obtain ⟨hg, h⟩ := gd_some h
  exact ⟨hg, fun D hD => rn_sub [0] rfl (s_Mo_read_0 hD a0 w r h)⟩
def Mo_place_0 (a0 : Nat) (w : Wd) : Option (Int × Wd) :=
  (fgI w a0 12 17).bind fun v1 =>
  some (v1, w)
theorem s_Mo_place_0 {g : Gp} {l : Launch} {D : Nat} (hD : 0 ≤ D) (a0 : Nat) (w : Wd) (r : Int × Wd) (h : Mo_place_0 a0 w = some r) : Rn g l D 164 0 [(0, .inr (.inr a0))] [] w (some (.inl r.1)) r.2 := by
  unfold Mo_place_0 at h
  refine fr_aload_n i164_0 rfl ?_
  obtain ⟨v1, h1, h⟩ := Option.bind_eq_some_iff.mp h
  refine fr_gI (k := 17) i164_1 tf12_17 h1 ?_
  obtain rfl := Option.some.inj h
  exact rn_retI i164_4 mr164
/-- HandHeirsModel.place()I -/
def Mo_place (a0 : Nat) (w : Wd) : Option (Int × Wd) := gd 12 w a0 (Mo_place_0 a0 w)
theorem S_Mo_place {g : Gp} {l : Launch} (a0 : Nat) (w : Wd) (r : Int × Wd) (h : Mo_place a0 w = some r) : (wsh w a0).1 = 12 ∧ ∀ D, 0 ≤ D → Rn g l D 164 0 [(0, .inr (.inr a0))] [] w (some (.inl r.1)) r.2 := by
  obtain ⟨hg, h⟩ := gd_some h
  exact ⟨hg, fun D hD => rn_sub [0] rfl (s_Mo_place_0 hD a0 w r h)⟩
def Mo_termOf_159 (k5 : Nat → Int → Int → Int → Wd → Option (Int × Wd)) (a0 : Nat) (x2 : Int) (x3 : Int) (x4 : Int) (w : Wd) : Option (Int × Wd) :=
  k5 a0 x2 x3 (w32 (x4 + 1)) w
theorem s_Mo_termOf_159 {g : Gp} {l : Launch} {D : Nat} (hD : 0 ≤ D) (k5 : Nat → Int → Int → Int → Wd → Option (Int × Wd)) (hk5 : ∀ (a0 : Nat) (x2 : Int) (x3 : Int) (x4 : Int) (w : Wd) (r : Int × Wd), k5 a0 x2 x3 x4 w = some r → Rn g l D 180 5 [(0, .inr (.inr a0)), (2, .inl x2), (3, .inl x3), (4, .inl x4)] [] w (some (.inl r.1)) r.2) (a0 : Nat) (x2 : Int) (x3 : Int) (x4 : Int) (w : Wd) (r : Int × Wd) (h : Mo_termOf_159 k5 a0 x2 x3 x4 w = some r) : Rn g l D 180 159 [(0, .inr (.inr a0)), (2, .inl x2), (3, .inl x3), (4, .inl x4)] [] w (some (.inl r.1)) r.2 := by
  unfold Mo_termOf_159 at h
  refine rn_iinc (ls1 := [(4, .inl (w32 (x4 + 1))), (0, .inr (.inr a0)), (2, .inl x2), (3, .inl x3)]) i180_159 rfl rfl ?_
  refine rn_goto i180_162 ?_
  exact rn_sub [1, 2, 3, 0] rfl (hk5 a0 x2 x3 (w32 (x4 + 1)) w r h)
def Mo_termOf_58 (k5 : Nat → Int → Int → Int → Wd → Option (Int × Wd)) (a0 : Nat) (x2 : Int) (x3 : Int) (x4 : Int) (s0 : Int) (s1 : Int) (s2 : Nat) (w : Wd) : Option (Int × Wd) :=
  (wrI w s2 s1 s0).bind fun w58 =>
  Mo_termOf_159 k5 a0 x2 (w32 (x3 + 1)) x4 w58
theorem s_Mo_termOf_58 {g : Gp} {l : Launch} {D : Nat} (hD : 0 ≤ D) (k5 : Nat → Int → Int → Int → Wd → Option (Int × Wd)) (hk5 : ∀ (a0 : Nat) (x2 : Int) (x3 : Int) (x4 : Int) (w : Wd) (r : Int × Wd), k5 a0 x2 x3 x4 w = some r → Rn g l D 180 5 [(0, .inr (.inr a0)), (2, .inl x2), (3, .inl x3), (4, .inl x4)] [] w (some (.inl r.1)) r.2) (a0 : Nat) (x2 : Int) (x3 : Int) (x4 : Int) (s0 : Int) (s1 : Int) (s2 : Nat) (w : Wd) (r : Int × Wd) (h : Mo_termOf_58 k5 a0 x2 x3 x4 s0 s1 s2 w = some r) : Rn g l D 180 58 [(0, .inr (.inr a0)), (2, .inl x2), (3, .inl x3), (4, .inl x4)] [.inl s0, .inl s1, .inr (.inr s2)] w (some (.inl r.1)) r.2 := by
  unfold Mo_termOf_58 at h
  obtain ⟨w58, h58, h⟩ := Option.bind_eq_some_iff.mp h
  refine rn_iast i180_58 h58 ?_
  refine rn_iinc (ls1 := [(3, .inl (w32 (x3 + 1))), (0, .inr (.inr a0)), (2, .inl x2), (4, .inl x4)]) i180_59 rfl rfl ?_
  refine rn_goto i180_62 ?_
  exact rn_sub [1, 2, 0, 3] rfl (s_Mo_termOf_159 hD k5 hk5 a0 x2 (w32 (x3 + 1)) x4 w58 r h)
def Mo_termOf_97 (a0 : Nat) (w : Wd) : Option (Int × Wd) :=
  (fpZ w a0 12 48 1).bind fun w99 =>
  some (0, w99)
theorem s_Mo_termOf_97 {g : Gp} {l : Launch} {D : Nat} (hD : 0 ≤ D) (a0 : Nat) (w : Wd) (r : Int × Wd) (h : Mo_termOf_97 a0 w = some r) : Rn g l D 180 97 [(0, .inr (.inr a0))] [] w (some (.inl r.1)) r.2 := by
  unfold Mo_termOf_97 at h
  refine fr_aload_n i180_97 rfl ?_
  refine rn_iconst i180_98 ?_
  obtain ⟨w99, h99, h⟩ := Option.bind_eq_some_iff.mp h
  refine fr_pZ (k := 48) i180_99 (pf12_48 180) h99 ?_
  refine rn_iconst i180_102 ?_
  obtain rfl := Option.some.inj h
  exact rn_retI i180_103 mr180
def Mo_termOf_158 (k5 : Nat → Int → Int → Int → Wd → Option (Int × Wd)) (a0 : Nat) (x2 : Int) (x3 : Int) (x4 : Int) (s0 : Int) (s1 : Int) (s2 : Nat) (w : Wd) : Option (Int × Wd) :=
  (wrI w s2 s1 s0).bind fun w158 =>
  Mo_termOf_159 k5 a0 x2 x3 x4 w158
theorem s_Mo_termOf_158 {g : Gp} {l : Launch} {D : Nat} (hD : 0 ≤ D) (k5 : Nat → Int → Int → Int → Wd → Option (Int × Wd)) (hk5 : ∀ (a0 : Nat) (x2 : Int) (x3 : Int) (x4 : Int) (w : Wd) (r : Int × Wd), k5 a0 x2 x3 x4 w = some r → Rn g l D 180 5 [(0, .inr (.inr a0)), (2, .inl x2), (3, .inl x3), (4, .inl x4)] [] w (some (.inl r.1)) r.2) (a0 : Nat) (x2 : Int) (x3 : Int) (x4 : Int) (s0 : Int) (s1 : Int) (s2 : Nat) (w : Wd) (r : Int × Wd) (h : Mo_termOf_158 k5 a0 x2 x3 x4 s0 s1 s2 w = some r) : Rn g l D 180 158 [(0, .inr (.inr a0)), (2, .inl x2), (3, .inl x3), (4, .inl x4)] [.inl s0, .inl s1, .inr (.inr s2)] w (some (.inl r.1)) r.2 := by
  unfold Mo_termOf_158 at h
  obtain ⟨w158, h158, h⟩ := Option.bind_eq_some_iff.mp h
  refine rn_iast i180_158 h158 ?_
  exact rn_sub [0, 1, 2, 3] rfl (s_Mo_termOf_159 hD k5 hk5 a0 x2 x3 x4 w158 r h)
def Mo_termOf_104 (k5 : Nat → Int → Int → Int → Wd → Option (Int × Wd)) (a0 : Nat) (x2 : Int) (x3 : Int) (x4 : Int) (x5 : Int) (x6 : Int) (x7 : Int) (w : Wd) : Option (Int × Wd) :=
  (fgR w a0 12 47).bind fun v105 =>
  if (x5 : Int) = 2 then
    Mo_termOf_158 k5 a0 x2 x3 x4 (w32 (x6 + x7)) (w32 (x3 - 1)) v105 w
  else
    if (x5 : Int) = 3 then
      Mo_termOf_158 k5 a0 x2 x3 x4 (w32 (x6 - x7)) (w32 (x3 - 1)) v105 w
    else
      if (x5 : Int) = 4 then
        Mo_termOf_158 k5 a0 x2 x3 x4 (w32 (x6 * x7)) (w32 (x3 - 1)) v105 w
      else
        (idv x6 x7).bind fun v157 =>
        Mo_termOf_158 k5 a0 x2 x3 x4 v157 (w32 (x3 - 1)) v105 w
theorem s_Mo_termOf_104 {g : Gp} {l : Launch} {D : Nat} (hD : 0 ≤ D) (k5 : Nat → Int → Int → Int → Wd → Option (Int × Wd)) (hk5 : ∀ (a0 : Nat) (x2 : Int) (x3 : Int) (x4 : Int) (w : Wd) (r : Int × Wd), k5 a0 x2 x3 x4 w = some r → Rn g l D 180 5 [(0, .inr (.inr a0)), (2, .inl x2), (3, .inl x3), (4, .inl x4)] [] w (some (.inl r.1)) r.2) (a0 : Nat) (x2 : Int) (x3 : Int) (x4 : Int) (x5 : Int) (x6 : Int) (x7 : Int) (w : Wd) (r : Int × Wd) (h : Mo_termOf_104 k5 a0 x2 x3 x4 x5 x6 x7 w = some r) : Rn g l D 180 104 [(0, .inr (.inr a0)), (2, .inl x2), (3, .inl x3), (4, .inl x4), (5, .inl x5), (6, .inl x6), (7, .inl x7)] [] w (some (.inl r.1)) r.2 := by
  unfold Mo_termOf_104 at h
  refine fr_aload_n i180_104 rfl ?_
  obtain ⟨v105, h105, h⟩ := Option.bind_eq_some_iff.mp h
  refine fr_gR (k := 47) i180_105 tf12_47 h105 ?_
  refine rn_iload_n i180_108 rfl ?_
  refine rn_iconst i180_109 ?_
  refine rn_isub i180_110 ?_
  refine rn_iload i180_111 rfl ?_
  refine rn_iconst i180_113 ?_
  by_cases c114 : (x5 : Int) = 2
  · rw [if_pos c114] at h
    refine rn_icmp_ne_f i180_114 c114 ?_
    refine rn_iload i180_117 rfl ?_
    refine rn_iload i180_119 rfl ?_
    refine rn_iadd i180_121 ?_
    refine rn_goto i180_122 ?_
    exact rn_sub [0, 1, 2, 3] rfl (s_Mo_termOf_158 hD k5 hk5 a0 x2 x3 x4 (w32 (x6 + x7)) (w32 (x3 - 1)) v105 w r h)
  · rw [if_neg c114] at h
    refine rn_icmp_ne_t i180_114 c114 ?_
    refine rn_iload i180_125 rfl ?_
    refine rn_iconst i180_127 ?_
    by_cases c128 : (x5 : Int) = 3
    · rw [if_pos c128] at h
      refine rn_icmp_ne_f i180_128 c128 ?_
      refine rn_iload i180_131 rfl ?_
      refine rn_iload i180_133 rfl ?_
      refine rn_isub i180_135 ?_
      refine rn_goto i180_136 ?_
      exact rn_sub [0, 1, 2, 3] rfl (s_Mo_termOf_158 hD k5 hk5 a0 x2 x3 x4 (w32 (x6 - x7)) (w32 (x3 - 1)) v105 w r h)
    · rw [if_neg c128] at h
      refine rn_icmp_ne_t i180_128 c128 ?_
      refine rn_iload i180_139 rfl ?_
      refine rn_iconst i180_141 ?_
      by_cases c142 : (x5 : Int) = 4
      · rw [if_pos c142] at h
        refine rn_icmp_ne_f i180_142 c142 ?_
        refine rn_iload i180_145 rfl ?_
        refine rn_iload i180_147 rfl ?_
        refine rn_imul i180_149 ?_
        refine rn_goto i180_150 ?_
        exact rn_sub [0, 1, 2, 3] rfl (s_Mo_termOf_158 hD k5 hk5 a0 x2 x3 x4 (w32 (x6 * x7)) (w32 (x3 - 1)) v105 w r h)
      · rw [if_neg c142] at h
        refine rn_icmp_ne_t i180_142 c142 ?_
        refine rn_iload i180_153 rfl ?_
        refine rn_iload i180_155 rfl ?_
        obtain ⟨v157, h157, h⟩ := Option.bind_eq_some_iff.mp h
        refine fr_idv i180_157 h157 ?_
        exact rn_sub [0, 1, 2, 3] rfl (s_Mo_termOf_158 hD k5 hk5 a0 x2 x3 x4 v157 (w32 (x3 - 1)) v105 w r h)
def Mo_termOf_165 (a0 : Nat) (w : Wd) : Option (Int × Wd) :=
  (fgR w a0 12 47).bind fun v166 =>
  (rdI w v166 0).bind fun v170 =>
  some (v170, w)
theorem s_Mo_termOf_165 {g : Gp} {l : Launch} {D : Nat} (hD : 0 ≤ D) (a0 : Nat) (w : Wd) (r : Int × Wd) (h : Mo_termOf_165 a0 w = some r) : Rn g l D 180 165 [(0, .inr (.inr a0))] [] w (some (.inl r.1)) r.2 := by
  unfold Mo_termOf_165 at h
  refine fr_aload_n i180_165 rfl ?_
  obtain ⟨v166, h166, h⟩ := Option.bind_eq_some_iff.mp h
  refine fr_gR (k := 47) i180_166 tf12_47 h166 ?_
  refine rn_iconst i180_169 ?_
  obtain ⟨v170, h170, h⟩ := Option.bind_eq_some_iff.mp h
  refine rn_iald i180_170 h170 ?_
  obtain rfl := Option.some.inj h
  exact rn_retI i180_171 mr180
def Mo_termOf_5 : Nat → Nat → Int → Int → Int → Wd → Option (Int × Wd)
  | 0, _, _, _, _, _ => none
  | n + 1, a0, x2, x3, x4, w =>
    if (x2 : Int) ≤ x4 then
      Mo_termOf_165 a0 w
    else
      (fgR w a0 12 42).bind fun v12 =>
      (rdI w v12 x4).bind fun v17 =>
      if (2 : Int) ≤ v17 then
        (fgR w a0 12 47).bind fun v69 =>
        (rdI w v69 (w32 ((w32 (x3 + (-1))) - 1))).bind fun v75 =>
        (fgR w a0 12 47).bind fun v79 =>
        (rdI w v79 (w32 (x3 + (-1)))).bind fun v83 =>
        if (v17 : Int) = 5 then
          if (v83 : Int) = 0 then
            Mo_termOf_97 a0 w
          else
            Mo_termOf_104 (Mo_termOf_5 n) a0 x2 (w32 (x3 + (-1))) x4 v17 v75 v83 w
        else
          Mo_termOf_104 (Mo_termOf_5 n) a0 x2 (w32 (x3 + (-1))) x4 v17 v75 v83 w
      else
        (fgR w a0 12 47).bind fun v27 =>
        if (v17 : Int) = 0 then
          (fgR w a0 12 43).bind fun v37 =>
          (rdI w v37 x4).bind fun v42 =>
          Mo_termOf_58 (Mo_termOf_5 n) a0 x2 x3 x4 v42 x3 v27 w
        else
          (fgR w a0 12 46).bind fun v47 =>
          (fgR w a0 12 43).bind fun v51 =>
          (rdI w v51 x4).bind fun v56 =>
          (rdI w v47 v56).bind fun v57 =>
          Mo_termOf_58 (Mo_termOf_5 n) a0 x2 x3 x4 v57 x3 v27 w
theorem s_Mo_termOf_5 {g : Gp} {l : Launch} {D : Nat} (hD : 0 ≤ D) : ∀ (n : Nat) (a0 : Nat) (x2 : Int) (x3 : Int) (x4 : Int) (w : Wd) (r : Int × Wd), Mo_termOf_5 n a0 x2 x3 x4 w = some r → Rn g l D 180 5 [(0, .inr (.inr a0)), (2, .inl x2), (3, .inl x3), (4, .inl x4)] [] w (some (.inl r.1)) r.2 := by
  intro n
  induction n with
  | zero => intro a0 x2 x3 x4 w r h; cases (show (none : Option (Int × Wd)) = some r from h)
  | succ n ih =>
    intro a0 x2 x3 x4 w r h
    unfold Mo_termOf_5 at h
    refine rn_iload i180_5 rfl ?_
    refine rn_iload_n i180_7 rfl ?_
    by_cases c8 : (x2 : Int) ≤ x4
    · rw [if_pos c8] at h
      refine rn_icmp_ge_t i180_8 c8 ?_
      exact rn_sub [0] rfl (s_Mo_termOf_165 hD a0 w r h)
    · rw [if_neg c8] at h
      refine rn_icmp_ge_f i180_8 c8 ?_
      refine fr_aload_n i180_11 rfl ?_
      obtain ⟨v12, h12, h⟩ := Option.bind_eq_some_iff.mp h
      refine fr_gR (k := 42) i180_12 tf12_42 h12 ?_
      refine rn_iload i180_15 rfl ?_
      obtain ⟨v17, h17, h⟩ := Option.bind_eq_some_iff.mp h
      refine rn_iald i180_17 h17 ?_
      refine rn_istore (ls1 := [(5, .inl v17), (0, .inr (.inr a0)), (2, .inl x2), (3, .inl x3), (4, .inl x4)]) i180_18 rfl ?_
      refine rn_iload i180_20 rfl ?_
      refine rn_iconst i180_22 ?_
      by_cases c23 : (2 : Int) ≤ v17
      · rw [if_pos c23] at h
        refine rn_icmp_ge_t i180_23 c23 ?_
        refine rn_iinc (ls1 := [(3, .inl (w32 (x3 + (-1)))), (5, .inl v17), (0, .inr (.inr a0)), (2, .inl x2), (4, .inl x4)]) i180_65 rfl rfl ?_
        refine fr_aload_n i180_68 rfl ?_
        obtain ⟨v69, h69, h⟩ := Option.bind_eq_some_iff.mp h
        refine fr_gR (k := 47) i180_69 tf12_47 h69 ?_
        refine rn_iload_n i180_72 rfl ?_
        refine rn_iconst i180_73 ?_
        refine rn_isub i180_74 ?_
        obtain ⟨v75, h75, h⟩ := Option.bind_eq_some_iff.mp h
        refine rn_iald i180_75 h75 ?_
        refine rn_istore (ls1 := [(6, .inl v75), (3, .inl (w32 (x3 + (-1)))), (5, .inl v17), (0, .inr (.inr a0)), (2, .inl x2), (4, .inl x4)]) i180_76 rfl ?_
        refine fr_aload_n i180_78 rfl ?_
        obtain ⟨v79, h79, h⟩ := Option.bind_eq_some_iff.mp h
        refine fr_gR (k := 47) i180_79 tf12_47 h79 ?_
        refine rn_iload_n i180_82 rfl ?_
        obtain ⟨v83, h83, h⟩ := Option.bind_eq_some_iff.mp h
        refine rn_iald i180_83 h83 ?_
        refine rn_istore (ls1 := [(7, .inl v83), (6, .inl v75), (3, .inl (w32 (x3 + (-1)))), (5, .inl v17), (0, .inr (.inr a0)), (2, .inl x2), (4, .inl x4)]) i180_84 rfl ?_
        refine rn_iload i180_86 rfl ?_
        refine rn_iconst i180_88 ?_
        by_cases c89 : (v17 : Int) = 5
        · rw [if_pos c89] at h
          refine rn_icmp_ne_f i180_89 c89 ?_
          refine rn_iload i180_92 rfl ?_
          by_cases c94 : (v83 : Int) = 0
          · rw [if_pos c94] at h
            refine rn_if_ne_f i180_94 c94 ?_
            exact rn_sub [4] rfl (s_Mo_termOf_97 hD a0 w r h)
          · rw [if_neg c94] at h
            refine rn_if_ne_t i180_94 c94 ?_
            exact rn_sub [4, 5, 2, 6, 3, 1, 0] rfl (s_Mo_termOf_104 hD (Mo_termOf_5 n) ih a0 x2 (w32 (x3 + (-1))) x4 v17 v75 v83 w r h)
        · rw [if_neg c89] at h
          refine rn_icmp_ne_t i180_89 c89 ?_
          exact rn_sub [4, 5, 2, 6, 3, 1, 0] rfl (s_Mo_termOf_104 hD (Mo_termOf_5 n) ih a0 x2 (w32 (x3 + (-1))) x4 v17 v75 v83 w r h)
      · rw [if_neg c23] at h
        refine rn_icmp_ge_f i180_23 c23 ?_
        refine fr_aload_n i180_26 rfl ?_
        obtain ⟨v27, h27, h⟩ := Option.bind_eq_some_iff.mp h
        refine fr_gR (k := 47) i180_27 tf12_47 h27 ?_
        refine rn_iload_n i180_30 rfl ?_
        refine rn_iload i180_31 rfl ?_
        by_cases c33 : (v17 : Int) = 0
        · rw [if_pos c33] at h
          refine rn_if_ne_f i180_33 c33 ?_
          refine fr_aload_n i180_36 rfl ?_
          obtain ⟨v37, h37, h⟩ := Option.bind_eq_some_iff.mp h
          refine fr_gR (k := 43) i180_37 tf12_43 h37 ?_
          refine rn_iload i180_40 rfl ?_
          obtain ⟨v42, h42, h⟩ := Option.bind_eq_some_iff.mp h
          refine rn_iald i180_42 h42 ?_
          refine rn_goto i180_43 ?_
          exact rn_sub [1, 2, 3, 4] rfl (s_Mo_termOf_58 hD (Mo_termOf_5 n) ih a0 x2 x3 x4 v42 x3 v27 w r h)
        · rw [if_neg c33] at h
          refine rn_if_ne_t i180_33 c33 ?_
          refine fr_aload_n i180_46 rfl ?_
          obtain ⟨v47, h47, h⟩ := Option.bind_eq_some_iff.mp h
          refine fr_gR (k := 46) i180_47 tf12_46 h47 ?_
          refine fr_aload_n i180_50 rfl ?_
          obtain ⟨v51, h51, h⟩ := Option.bind_eq_some_iff.mp h
          refine fr_gR (k := 43) i180_51 tf12_43 h51 ?_
          refine rn_iload i180_54 rfl ?_
          obtain ⟨v56, h56, h⟩ := Option.bind_eq_some_iff.mp h
          refine rn_iald i180_56 h56 ?_
          obtain ⟨v57, h57, h⟩ := Option.bind_eq_some_iff.mp h
          refine rn_iald i180_57 h57 ?_
          exact rn_sub [1, 2, 3, 4] rfl (s_Mo_termOf_58 hD (Mo_termOf_5 n) ih a0 x2 x3 x4 v57 x3 v27 w r h)
def Mo_termOf_0 (a0 : Nat) (x1 : Int) (x2 : Int) (w : Wd) : Option (Int × Wd) :=
  Mo_termOf_5 FU a0 x2 0 x1 w
theorem s_Mo_termOf_0 {g : Gp} {l : Launch} {D : Nat} (hD : 0 ≤ D) (a0 : Nat) (x1 : Int) (x2 : Int) (w : Wd) (r : Int × Wd) (h : Mo_termOf_0 a0 x1 x2 w = some r) : Rn g l D 180 0 [(0, .inr (.inr a0)), (1, .inl x1), (2, .inl x2)] [] w (some (.inl r.1)) r.2 := by
  unfold Mo_termOf_0 at h
  refine rn_iconst i180_0 ?_
  refine rn_istore_n (ls1 := [(3, .inl 0), (0, .inr (.inr a0)), (1, .inl x1), (2, .inl x2)]) i180_1 rfl ?_
  refine rn_iload_n i180_2 rfl ?_
  refine rn_istore (ls1 := [(4, .inl x1), (3, .inl 0), (0, .inr (.inr a0)), (1, .inl x1), (2, .inl x2)]) i180_3 rfl ?_
  exact rn_sub [2, 4, 1, 0] rfl (s_Mo_termOf_5 hD FU a0 x2 0 x1 w r h)
/-- HandHeirsModel.termOf(II)I -/
def Mo_termOf (a0 : Nat) (x1 : Int) (x2 : Int) (w : Wd) : Option (Int × Wd) := gd 12 w a0 (Mo_termOf_0 a0 x1 x2 w)
theorem S_Mo_termOf {g : Gp} {l : Launch} (a0 : Nat) (x1 : Int) (x2 : Int) (w : Wd) (r : Int × Wd) (h : Mo_termOf a0 x1 x2 w = some r) : (wsh w a0).1 = 12 ∧ ∀ D, 0 ≤ D → Rn g l D 180 0 [(0, .inr (.inr a0)), (1, .inl x1), (2, .inl x2)] [] w (some (.inl r.1)) r.2 := by
  obtain ⟨hg, h⟩ := gd_some h
  exact ⟨hg, fun D hD => rn_sub [0, 1, 2] rfl (s_Mo_termOf_0 hD a0 x1 x2 w r h)⟩
def Mo_in_15 (s0 : Int) (w : Wd) : Option (Int × Wd) :=
  rZ s0 w
theorem s_Mo_in_15 {g : Gp} {l : Launch} {D : Nat} (hD : 0 ≤ D) (s0 : Int) (w : Wd) (r : Int × Wd) (h : Mo_in_15 s0 w = some r) : Rn g l D 181 15 [] [.inl s0] w (some (.inl r.1)) r.2 := by
  unfold Mo_in_15 at h
  exact fr_retZ i181_15 mr181 h
def Mo_in_14 (w : Wd) : Option (Int × Wd) :=
  Mo_in_15 0 w
theorem s_Mo_in_14 {g : Gp} {l : Launch} {D : Nat} (hD : 0 ≤ D) (w : Wd) (r : Int × Wd) (h : Mo_in_14 w = some r) : Rn g l D 181 14 [] [] w (some (.inl r.1)) r.2 := by
  unfold Mo_in_14 at h
  refine rn_iconst i181_14 ?_
  exact rn_sub [] rfl (s_Mo_in_15 hD 0 w r h)
def Mo_in_0 (x0 : Int) (x1 : Int) (x2 : Int) (w : Wd) : Option (Int × Wd) :=
  if (x0 : Int) < x1 then
    Mo_in_14 w
  else
    if (x2 : Int) < x0 then
      Mo_in_14 w
    else
      Mo_in_15 1 w
theorem s_Mo_in_0 {g : Gp} {l : Launch} {D : Nat} (hD : 0 ≤ D) (x0 : Int) (x1 : Int) (x2 : Int) (w : Wd) (r : Int × Wd) (h : Mo_in_0 x0 x1 x2 w = some r) : Rn g l D 181 0 [(0, .inl x0), (1, .inl x1), (2, .inl x2)] [] w (some (.inl r.1)) r.2 := by
  unfold Mo_in_0 at h
  refine rn_iload_n i181_0 rfl ?_
  refine rn_iload_n i181_1 rfl ?_
  by_cases c2 : (x0 : Int) < x1
  · rw [if_pos c2] at h
    refine rn_icmp_lt_t i181_2 c2 ?_
    exact rn_sub [] rfl (s_Mo_in_14 hD w r h)
  · rw [if_neg c2] at h
    refine rn_icmp_lt_f i181_2 c2 ?_
    refine rn_iload_n i181_5 rfl ?_
    refine rn_iload_n i181_6 rfl ?_
    by_cases c7 : (x2 : Int) < x0
    · rw [if_pos c7] at h
      refine rn_icmp_gt_t i181_7 c7 ?_
      exact rn_sub [] rfl (s_Mo_in_14 hD w r h)
    · rw [if_neg c7] at h
      refine rn_icmp_gt_f i181_7 c7 ?_
      refine rn_iconst i181_10 ?_
      refine rn_goto i181_11 ?_
      exact rn_sub [] rfl (s_Mo_in_15 hD 1 w r h)
/-- HandHeirsModel.in(III)Z -/
def Mo_in (x0 : Int) (x1 : Int) (x2 : Int) (w : Wd) : Option (Int × Wd) := Mo_in_0 x0 x1 x2 w
theorem S_Mo_in {g : Gp} {l : Launch} (x0 : Int) (x1 : Int) (x2 : Int) (w : Wd) (r : Int × Wd) (h : Mo_in x0 x1 x2 w = some r) : ∀ D, 0 ≤ D → Rn g l D 181 0 [(0, .inl x0), (1, .inl x1), (2, .inl x2)] [] w (some (.inl r.1)) r.2 := fun D hD => rn_sub [0, 1, 2] rfl (s_Mo_in_0 hD x0 x1 x2 w r h)
def Mo_isLetterAt_0 (a0 : Nat) (x1 : Int) (w : Wd) : Option (Int × Wd) :=
  (fgR w a0 12 23).bind fun v3 =>
  (fgI w a0 12 18).bind fun v7 =>
  (rdI w v3 v7).bind fun v10 =>
  (Mo_in x1 0 (w32 (v10 - 1)) w).bind fun r13 =>
  rZ r13.1 r13.2
theorem s_Mo_isLetterAt_0 {g : Gp} {l : Launch} {D : Nat} (hD : 1 ≤ D) (a0 : Nat) (x1 : Int) (w : Wd) (r : Int × Wd) (h : Mo_isLetterAt_0 a0 x1 w = some r) : Rn g l D 182 0 [(0, .inr (.inr a0)), (1, .inl x1)] [] w (some (.inl r.1)) r.2 := by
  obtain ⟨D, rfl⟩ : ∃ D1, D = D1 + 1 := ⟨D - 1, by omega⟩
  unfold Mo_isLetterAt_0 at h
  refine rn_iload_n i182_0 rfl ?_
  refine rn_iconst i182_1 ?_
  refine fr_aload_n i182_2 rfl ?_
  obtain ⟨v3, h3, h⟩ := Option.bind_eq_some_iff.mp h
  refine fr_gR (k := 23) i182_3 tf12_23 h3 ?_
  refine fr_aload_n i182_6 rfl ?_
  obtain ⟨v7, h7, h⟩ := Option.bind_eq_some_iff.mp h
  refine fr_gI (k := 18) i182_7 tf12_18 h7 ?_
  obtain ⟨v10, h10, h⟩ := Option.bind_eq_some_iff.mp h
  refine rn_iald i182_10 h10 ?_
  refine rn_iconst i182_11 ?_
  refine rn_isub i182_12 ?_
  obtain ⟨r13, h13, h⟩ := Option.bind_eq_some_iff.mp h
  refine fr_callS (nst := 0) (As := [.inl x1, .inl 0, .inl (w32 (v10 - 1))]) (st := []) i182_13 (cq181 x1 0 (w32 (v10 - 1))) rfl (Nat.le_of_ble_eq_true rfl) (S_Mo_in x1 0 (w32 (v10 - 1)) w r13 h13 _ (by omega)) ?_
  show Rn _ _ _ _ _ _ [.inl r13.1] _ _ _
  exact fr_retZ i182_16 mr182 h
/-- HandHeirsModel.isLetterAt(I)Z -/
def Mo_isLetterAt (a0 : Nat) (x1 : Int) (w : Wd) : Option (Int × Wd) := gd 12 w a0 (Mo_isLetterAt_0 a0 x1 w)
theorem S_Mo_isLetterAt {g : Gp} {l : Launch} (a0 : Nat) (x1 : Int) (w : Wd) (r : Int × Wd) (h : Mo_isLetterAt a0 x1 w = some r) : (wsh w a0).1 = 12 ∧ ∀ D, 1 ≤ D → Rn g l D 182 0 [(0, .inr (.inr a0)), (1, .inl x1)] [] w (some (.inl r.1)) r.2 := by
  obtain ⟨hg, h⟩ := gd_some h
  exact ⟨hg, fun D hD => rn_sub [0, 1] rfl (s_Mo_isLetterAt_0 hD a0 x1 w r h)⟩
def Mo_isHeir_0 (a0 : Nat) (x1 : Int) (w : Wd) : Option (Int × Wd) :=
  (fgR w a0 12 25).bind fun v3 =>
  (fgI w a0 12 18).bind fun v7 =>
  (rdI w v3 v7).bind fun v10 =>
  (Mo_in x1 0 (w32 (v10 - 1)) w).bind fun r13 =>
  rZ r13.1 r13.2
theorem s_Mo_isHeir_0 {g : Gp} {l : Launch} {D : Nat} (hD : 1 ≤ D) (a0 : Nat) (x1 : Int) (w : Wd) (r : Int × Wd) (h : Mo_isHeir_0 a0 x1 w = some r) : Rn g l D 183 0 [(0, .inr (.inr a0)), (1, .inl x1)] [] w (some (.inl r.1)) r.2 := by
  obtain ⟨D, rfl⟩ : ∃ D1, D = D1 + 1 := ⟨D - 1, by omega⟩
  unfold Mo_isHeir_0 at h
  refine rn_iload_n i183_0 rfl ?_
  refine rn_iconst i183_1 ?_
  refine fr_aload_n i183_2 rfl ?_
  obtain ⟨v3, h3, h⟩ := Option.bind_eq_some_iff.mp h
  refine fr_gR (k := 25) i183_3 tf12_25 h3 ?_
  refine fr_aload_n i183_6 rfl ?_
  obtain ⟨v7, h7, h⟩ := Option.bind_eq_some_iff.mp h
  refine fr_gI (k := 18) i183_7 tf12_18 h7 ?_
  obtain ⟨v10, h10, h⟩ := Option.bind_eq_some_iff.mp h
  refine rn_iald i183_10 h10 ?_
  refine rn_iconst i183_11 ?_
  refine rn_isub i183_12 ?_
  obtain ⟨r13, h13, h⟩ := Option.bind_eq_some_iff.mp h
  refine fr_callS (nst := 0) (As := [.inl x1, .inl 0, .inl (w32 (v10 - 1))]) (st := []) i183_13 (cq181 x1 0 (w32 (v10 - 1))) rfl (Nat.le_of_ble_eq_true rfl) (S_Mo_in x1 0 (w32 (v10 - 1)) w r13 h13 _ (by omega)) ?_
  show Rn _ _ _ _ _ _ [.inl r13.1] _ _ _
  exact fr_retZ i183_16 mr183 h
/-- HandHeirsModel.isHeir(I)Z -/
def Mo_isHeir (a0 : Nat) (x1 : Int) (w : Wd) : Option (Int × Wd) := gd 12 w a0 (Mo_isHeir_0 a0 x1 w)
theorem S_Mo_isHeir {g : Gp} {l : Launch} (a0 : Nat) (x1 : Int) (w : Wd) (r : Int × Wd) (h : Mo_isHeir a0 x1 w = some r) : (wsh w a0).1 = 12 ∧ ∀ D, 1 ≤ D → Rn g l D 183 0 [(0, .inr (.inr a0)), (1, .inl x1)] [] w (some (.inl r.1)) r.2 := by
  obtain ⟨hg, h⟩ := gd_some h
  exact ⟨hg, fun D hD => rn_sub [0, 1] rfl (s_Mo_isHeir_0 hD a0 x1 w r h)⟩
def Mo_isMaster_0 (a0 : Nat) (x1 : Int) (w : Wd) : Option (Int × Wd) :=
  (fgR w a0 12 29).bind fun v3 =>
  (fgI w a0 12 18).bind fun v7 =>
  (rdI w v3 v7).bind fun v10 =>
  (Mo_in x1 0 (w32 (v10 - 1)) w).bind fun r13 =>
  rZ r13.1 r13.2
theorem s_Mo_isMaster_0 {g : Gp} {l : Launch} {D : Nat} (hD : 1 ≤ D) (a0 : Nat) (x1 : Int) (w : Wd) (r : Int × Wd) (h : Mo_isMaster_0 a0 x1 w = some r) : Rn g l D 184 0 [(0, .inr (.inr a0)), (1, .inl x1)] [] w (some (.inl r.1)) r.2 := by
  obtain ⟨D, rfl⟩ : ∃ D1, D = D1 + 1 := ⟨D - 1, by omega⟩
  unfold Mo_isMaster_0 at h
  refine rn_iload_n i184_0 rfl ?_
  refine rn_iconst i184_1 ?_
  refine fr_aload_n i184_2 rfl ?_
  obtain ⟨v3, h3, h⟩ := Option.bind_eq_some_iff.mp h
  refine fr_gR (k := 29) i184_3 tf12_29 h3 ?_
  refine fr_aload_n i184_6 rfl ?_
  obtain ⟨v7, h7, h⟩ := Option.bind_eq_some_iff.mp h
  refine fr_gI (k := 18) i184_7 tf12_18 h7 ?_
  obtain ⟨v10, h10, h⟩ := Option.bind_eq_some_iff.mp h
  refine rn_iald i184_10 h10 ?_
  refine rn_iconst i184_11 ?_
  refine rn_isub i184_12 ?_
  obtain ⟨r13, h13, h⟩ := Option.bind_eq_some_iff.mp h
  refine fr_callS (nst := 0) (As := [.inl x1, .inl 0, .inl (w32 (v10 - 1))]) (st := []) i184_13 (cq181 x1 0 (w32 (v10 - 1))) rfl (Nat.le_of_ble_eq_true rfl) (S_Mo_in x1 0 (w32 (v10 - 1)) w r13 h13 _ (by omega)) ?_
  show Rn _ _ _ _ _ _ [.inl r13.1] _ _ _
  exact fr_retZ i184_16 mr184 h
/-- HandHeirsModel.isMaster(I)Z -/
def Mo_isMaster (a0 : Nat) (x1 : Int) (w : Wd) : Option (Int × Wd) := gd 12 w a0 (Mo_isMaster_0 a0 x1 w)
theorem S_Mo_isMaster {g : Gp} {l : Launch} (a0 : Nat) (x1 : Int) (w : Wd) (r : Int × Wd) (h : Mo_isMaster a0 x1 w = some r) : (wsh w a0).1 = 12 ∧ ∀ D, 1 ≤ D → Rn g l D 184 0 [(0, .inr (.inr a0)), (1, .inl x1)] [] w (some (.inl r.1)) r.2 := by
  obtain ⟨hg, h⟩ := gd_some h
  exact ⟨hg, fun D hD => rn_sub [0, 1] rfl (s_Mo_isMaster_0 hD a0 x1 w r h)⟩
def Mo_freshly_0 (a0 : Nat) (w : Wd) : Option (Wd) :=
  (fgR w a0 12 32).bind fun v2 =>
  (fgI w a0 12 18).bind fun v6 =>
  (rdI w v2 v6).bind fun v9 =>
  (fpI w a0 12 51 v9).bind fun w10 =>
  (fpI w10 a0 12 52 (-1)).bind fun w15 =>
  (fpI w15 a0 12 53 (-1)).bind fun w20 =>
  (fpI w20 a0 12 54 (-1)).bind fun w25 =>
  (fpI w25 a0 12 55 (-1)).bind fun w30 =>
  some w30
theorem s_Mo_freshly_0 {g : Gp} {l : Launch} {D : Nat} (hD : 0 ≤ D) (a0 : Nat) (w : Wd) (r : Wd) (h : Mo_freshly_0 a0 w = some r) : Rn g l D 186 0 [(0, .inr (.inr a0))] [] w none r := by
  unfold Mo_freshly_0 at h
  refine fr_aload_n i186_0 rfl ?_
  refine fr_aload_n i186_1 rfl ?_
  obtain ⟨v2, h2, h⟩ := Option.bind_eq_some_iff.mp h
  refine fr_gR (k := 32) i186_2 tf12_32 h2 ?_
  refine fr_aload_n i186_5 rfl ?_
  obtain ⟨v6, h6, h⟩ := Option.bind_eq_some_iff.mp h
  refine fr_gI (k := 18) i186_6 tf12_18 h6 ?_
  obtain ⟨v9, h9, h⟩ := Option.bind_eq_some_iff.mp h
  refine rn_iald i186_9 h9 ?_
  obtain ⟨w10, h10, h⟩ := Option.bind_eq_some_iff.mp h
  refine fr_pI (k := 51) i186_10 (pf12_51 186) h10 ?_
  refine fr_aload_n i186_13 rfl ?_
  refine rn_iconst i186_14 ?_
  obtain ⟨w15, h15, h⟩ := Option.bind_eq_some_iff.mp h
  refine fr_pI (k := 52) i186_15 (pf12_52 186) h15 ?_
  refine fr_aload_n i186_18 rfl ?_
  refine rn_iconst i186_19 ?_
  obtain ⟨w20, h20, h⟩ := Option.bind_eq_some_iff.mp h
  refine fr_pI (k := 53) i186_20 (pf12_53 186) h20 ?_
  refine fr_aload_n i186_23 rfl ?_
  refine rn_iconst i186_24 ?_
  obtain ⟨w25, h25, h⟩ := Option.bind_eq_some_iff.mp h
  refine fr_pI (k := 54) i186_25 (pf12_54 186) h25 ?_
  refine fr_aload_n i186_28 rfl ?_
  refine rn_iconst i186_29 ?_
  obtain ⟨w30, h30, h⟩ := Option.bind_eq_some_iff.mp h
  refine fr_pI (k := 55) i186_30 (pf12_55 186) h30 ?_
  obtain rfl := Option.some.inj h
  exact rn_ret i186_33 mr186
/-- HandHeirsModel.freshly()V -/
def Mo_freshly (a0 : Nat) (w : Wd) : Option (Wd) := gd 12 w a0 (Mo_freshly_0 a0 w)
theorem S_Mo_freshly {g : Gp} {l : Launch} (a0 : Nat) (w : Wd) (r : Wd) (h : Mo_freshly a0 w = some r) : (wsh w a0).1 = 12 ∧ ∀ D, 0 ≤ D → Rn g l D 186 0 [(0, .inr (.inr a0))] [] w none r := by
  obtain ⟨hg, h⟩ := gd_some h
  exact ⟨hg, fun D hD => rn_sub [0] rfl (s_Mo_freshly_0 hD a0 w r h)⟩
def Mo_copies_26 (a0 : Nat) (w : Wd) : Option (Wd) :=
  (Mo_freshly a0 w).bind fun r27 =>
  some r27
theorem s_Mo_copies_26 {g : Gp} {l : Launch} {D : Nat} (hD : 1 ≤ D) (a0 : Nat) (w : Wd) (r : Wd) (h : Mo_copies_26 a0 w = some r) : Rn g l D 187 26 [(0, .inr (.inr a0))] [] w none r := by
  obtain ⟨D, rfl⟩ : ∃ D1, D = D1 + 1 := ⟨D - 1, by omega⟩
  unfold Mo_copies_26 at h
  refine fr_aload_n i187_26 rfl ?_
  obtain ⟨r27, h27, h⟩ := Option.bind_eq_some_iff.mp h
  obtain ⟨g27, c27⟩ := S_Mo_freshly a0 w r27 h27
  refine fr_callV (a := a0) (As := []) (st := []) i187_27 (cq186 a0) rfl (Nat.le_of_ble_eq_true rfl) g27 (c27 _ (by omega)) ?_
  obtain rfl := Option.some.inj h
  exact rn_ret i187_30 mr187
def Mo_copies_2 : Nat → Nat → Int → Wd → Option (Wd)
  | 0, _, _, _ => none
  | n + 1, a0, x1, w =>
    if (60 : Int) ≤ x1 then
      Mo_copies_26 a0 w
    else
      (fgR w a0 12 50).bind fun v9 =>
      (fgR w a0 12 49).bind fun v14 =>
      (rdI w v14 x1).bind fun v18 =>
      (wrI w v9 x1 v18).bind fun w19 =>
      Mo_copies_2 n a0 (w32 (x1 + 1)) w19
theorem s_Mo_copies_2 {g : Gp} {l : Launch} {D : Nat} (hD : 1 ≤ D) : ∀ (n : Nat) (a0 : Nat) (x1 : Int) (w : Wd) (r : Wd), Mo_copies_2 n a0 x1 w = some r → Rn g l D 187 2 [(0, .inr (.inr a0)), (1, .inl x1)] [] w none r := by
  intro n
  induction n with
  | zero => intro a0 x1 w r h; cases (show (none : Option (Wd)) = some r from h)
  | succ n ih =>
    intro a0 x1 w r h
    unfold Mo_copies_2 at h
    refine rn_iload_n i187_2 rfl ?_
    refine rn_bipush i187_3 ?_
    by_cases c5 : (60 : Int) ≤ x1
    · rw [if_pos c5] at h
      refine rn_icmp_ge_t i187_5 c5 ?_
      exact rn_sub [0] rfl (s_Mo_copies_26 hD a0 w r h)
    · rw [if_neg c5] at h
      refine rn_icmp_ge_f i187_5 c5 ?_
      refine fr_aload_n i187_8 rfl ?_
      obtain ⟨v9, h9, h⟩ := Option.bind_eq_some_iff.mp h
      refine fr_gR (k := 50) i187_9 tf12_50 h9 ?_
      refine rn_iload_n i187_12 rfl ?_
      refine fr_aload_n i187_13 rfl ?_
      obtain ⟨v14, h14, h⟩ := Option.bind_eq_some_iff.mp h
      refine fr_gR (k := 49) i187_14 tf12_49 h14 ?_
      refine rn_iload_n i187_17 rfl ?_
      obtain ⟨v18, h18, h⟩ := Option.bind_eq_some_iff.mp h
      refine rn_iald i187_18 h18 ?_
      obtain ⟨w19, h19, h⟩ := Option.bind_eq_some_iff.mp h
      refine rn_iast i187_19 h19 ?_
      refine rn_iinc (ls1 := [(1, .inl (w32 (x1 + 1))), (0, .inr (.inr a0))]) i187_20 rfl rfl ?_
      refine rn_goto i187_23 ?_
      exact rn_sub [1, 0] rfl (ih a0 (w32 (x1 + 1)) w19 r h)
def Mo_copies_0 (a0 : Nat) (w : Wd) : Option (Wd) :=
  Mo_copies_2 FU a0 0 w
theorem s_Mo_copies_0 {g : Gp} {l : Launch} {D : Nat} (hD : 1 ≤ D) (a0 : Nat) (w : Wd) (r : Wd) (h : Mo_copies_0 a0 w = some r) : Rn g l D 187 0 [(0, .inr (.inr a0))] [] w none r := by
  unfold Mo_copies_0 at h
  refine rn_iconst i187_0 ?_
  refine rn_istore_n (ls1 := [(1, .inl 0), (0, .inr (.inr a0))]) i187_1 rfl ?_
  exact rn_sub [1, 0] rfl (s_Mo_copies_2 hD FU a0 0 w r h)
/-- HandHeirsModel.copies()V -/
def Mo_copies (a0 : Nat) (w : Wd) : Option (Wd) := gd 12 w a0 (Mo_copies_0 a0 w)
theorem S_Mo_copies {g : Gp} {l : Launch} (a0 : Nat) (w : Wd) (r : Wd) (h : Mo_copies a0 w = some r) : (wsh w a0).1 = 12 ∧ ∀ D, 1 ≤ D → Rn g l D 187 0 [(0, .inr (.inr a0))] [] w none r := by
  obtain ⟨hg, h⟩ := gd_some h
  exact ⟨hg, fun D hD => rn_sub [0] rfl (s_Mo_copies_0 hD a0 w r h)⟩
def Mo_copiesAll_27 (a0 : Nat) (w : Wd) : Option (Wd) :=
  (Mo_freshly a0 w).bind fun r28 =>
  some r28
theorem s_Mo_copiesAll_27 {g : Gp} {l : Launch} {D : Nat} (hD : 1 ≤ D) (a0 : Nat) (w : Wd) (r : Wd) (h : Mo_copiesAll_27 a0 w = some r) : Rn g l D 188 27 [(0, .inr (.inr a0))] [] w none r := by
  obtain ⟨D, rfl⟩ : ∃ D1, D = D1 + 1 := ⟨D - 1, by omega⟩
  unfold Mo_copiesAll_27 at h
  refine fr_aload_n i188_27 rfl ?_
  obtain ⟨r28, h28, h⟩ := Option.bind_eq_some_iff.mp h
  obtain ⟨g28, c28⟩ := S_Mo_freshly a0 w r28 h28
  refine fr_callV (a := a0) (As := []) (st := []) i188_28 (cq186 a0) rfl (Nat.le_of_ble_eq_true rfl) g28 (c28 _ (by omega)) ?_
  obtain rfl := Option.some.inj h
  exact rn_ret i188_31 mr188
def Mo_copiesAll_2 : Nat → Nat → Int → Wd → Option (Wd)
  | 0, _, _, _ => none
  | n + 1, a0, x1, w =>
    if (2860 : Int) ≤ x1 then
      Mo_copiesAll_27 a0 w
    else
      (fgR w a0 12 50).bind fun v10 =>
      (fgR w a0 12 49).bind fun v15 =>
      (rdI w v15 x1).bind fun v19 =>
      (wrI w v10 x1 v19).bind fun w20 =>
      Mo_copiesAll_2 n a0 (w32 (x1 + 1)) w20
theorem s_Mo_copiesAll_2 {g : Gp} {l : Launch} {D : Nat} (hD : 1 ≤ D) : ∀ (n : Nat) (a0 : Nat) (x1 : Int) (w : Wd) (r : Wd), Mo_copiesAll_2 n a0 x1 w = some r → Rn g l D 188 2 [(0, .inr (.inr a0)), (1, .inl x1)] [] w none r := by
  intro n
  induction n with
  | zero => intro a0 x1 w r h; cases (show (none : Option (Wd)) = some r from h)
  | succ n ih =>
    intro a0 x1 w r h
    unfold Mo_copiesAll_2 at h
    refine rn_iload_n i188_2 rfl ?_
    refine rn_sipush i188_3 ?_
    by_cases c6 : (2860 : Int) ≤ x1
    · rw [if_pos c6] at h
      refine rn_icmp_ge_t i188_6 c6 ?_
      exact rn_sub [0] rfl (s_Mo_copiesAll_27 hD a0 w r h)
    · rw [if_neg c6] at h
      refine rn_icmp_ge_f i188_6 c6 ?_
      refine fr_aload_n i188_9 rfl ?_
      obtain ⟨v10, h10, h⟩ := Option.bind_eq_some_iff.mp h
      refine fr_gR (k := 50) i188_10 tf12_50 h10 ?_
      refine rn_iload_n i188_13 rfl ?_
      refine fr_aload_n i188_14 rfl ?_
      obtain ⟨v15, h15, h⟩ := Option.bind_eq_some_iff.mp h
      refine fr_gR (k := 49) i188_15 tf12_49 h15 ?_
      refine rn_iload_n i188_18 rfl ?_
      obtain ⟨v19, h19, h⟩ := Option.bind_eq_some_iff.mp h
      refine rn_iald i188_19 h19 ?_
      obtain ⟨w20, h20, h⟩ := Option.bind_eq_some_iff.mp h
      refine rn_iast i188_20 h20 ?_
      refine rn_iinc (ls1 := [(1, .inl (w32 (x1 + 1))), (0, .inr (.inr a0))]) i188_21 rfl rfl ?_
      refine rn_goto i188_24 ?_
      exact rn_sub [1, 0] rfl (ih a0 (w32 (x1 + 1)) w20 r h)
def Mo_copiesAll_0 (a0 : Nat) (w : Wd) : Option (Wd) :=
  Mo_copiesAll_2 FU a0 0 w
theorem s_Mo_copiesAll_0 {g : Gp} {l : Launch} {D : Nat} (hD : 1 ≤ D) (a0 : Nat) (w : Wd) (r : Wd) (h : Mo_copiesAll_0 a0 w = some r) : Rn g l D 188 0 [(0, .inr (.inr a0))] [] w none r := by
  unfold Mo_copiesAll_0 at h
  refine rn_iconst i188_0 ?_
  refine rn_istore_n (ls1 := [(1, .inl 0), (0, .inr (.inr a0))]) i188_1 rfl ?_
  exact rn_sub [1, 0] rfl (s_Mo_copiesAll_2 hD FU a0 0 w r h)
/-- HandHeirsModel.copiesAll()V -/
def Mo_copiesAll (a0 : Nat) (w : Wd) : Option (Wd) := gd 12 w a0 (Mo_copiesAll_0 a0 w)
theorem S_Mo_copiesAll {g : Gp} {l : Launch} (a0 : Nat) (w : Wd) (r : Wd) (h : Mo_copiesAll a0 w = some r) : (wsh w a0).1 = 12 ∧ ∀ D, 1 ≤ D → Rn g l D 188 0 [(0, .inr (.inr a0))] [] w none r := by
  obtain ⟨hg, h⟩ := gd_some h
  exact ⟨hg, fun D hD => rn_sub [0] rfl (s_Mo_copiesAll_0 hD a0 w r h)⟩
def Mo_mixed_0 (x0 : Int) (x1 : Int) (w : Wd) : Option (Int × Wd) :=
  some ((oxor (w32 ((w32 ((oxor x0 x1) * 1103515245)) + 12345)) (oushr (w32 ((w32 ((oxor x0 x1) * 1103515245)) + 12345)) 15)), w)
theorem s_Mo_mixed_0 {g : Gp} {l : Launch} {D : Nat} (hD : 0 ≤ D) (x0 : Int) (x1 : Int) (w : Wd) (r : Int × Wd) (h : Mo_mixed_0 x0 x1 w = some r) : Rn g l D 189 0 [(0, .inl x0), (1, .inl x1)] [] w (some (.inl r.1)) r.2 := by
  unfold Mo_mixed_0 at h
  refine rn_iload_n i189_0 rfl ?_
  refine rn_iload_n i189_1 rfl ?_
  refine rn_ixor i189_2 ?_
  refine rn_ldcw i189_3 lw189_3 ⟨by decide, by decide⟩ ?_
  refine rn_imul i189_6 ?_
  refine rn_sipush i189_7 ?_
  refine rn_iadd i189_10 ?_
  refine rn_istore_n (ls1 := [(2, .inl (w32 ((w32 ((oxor x0 x1) * 1103515245)) + 12345))), (0, .inl x0), (1, .inl x1)]) i189_11 rfl ?_
  refine rn_iload_n i189_12 rfl ?_
  refine rn_iload_n i189_13 rfl ?_
  refine rn_bipush i189_14 ?_
  refine rn_iushr i189_16 ?_
  refine rn_ixor i189_17 ?_
  obtain rfl := Option.some.inj h
  exact rn_retI i189_18 mr189
/-- HandHeirsModel.mixed(II)I -/
def Mo_mixed (x0 : Int) (x1 : Int) (w : Wd) : Option (Int × Wd) := Mo_mixed_0 x0 x1 w
theorem S_Mo_mixed {g : Gp} {l : Launch} (x0 : Int) (x1 : Int) (w : Wd) (r : Int × Wd) (h : Mo_mixed x0 x1 w = some r) : ∀ D, 0 ≤ D → Rn g l D 189 0 [(0, .inl x0), (1, .inl x1)] [] w (some (.inl r.1)) r.2 := fun D hD => rn_sub [0, 1] rfl (s_Mo_mixed_0 hD x0 x1 w r h)
def Mo_lotOf_0 (x0 : Int) (x1 : Int) (x2 : Int) (w : Wd) : Option (Int × Wd) :=
  (Mo_mixed x0 27 w).bind fun r3 =>
  (Mo_mixed (r3.1) x1 r3.2).bind fun r7 =>
  (irm (oushr r7.1 1) x2).bind fun v13 =>
  some (v13, r7.2)
theorem s_Mo_lotOf_0 {g : Gp} {l : Launch} {D : Nat} (hD : 1 ≤ D) (x0 : Int) (x1 : Int) (x2 : Int) (w : Wd) (r : Int × Wd) (h : Mo_lotOf_0 x0 x1 x2 w = some r) : Rn g l D 190 0 [(0, .inl x0), (1, .inl x1), (2, .inl x2)] [] w (some (.inl r.1)) r.2 := by
  obtain ⟨D, rfl⟩ : ∃ D1, D = D1 + 1 := ⟨D - 1, by omega⟩
  unfold Mo_lotOf_0 at h
  refine rn_iload_n i190_0 rfl ?_
  refine rn_bipush i190_1 ?_
  obtain ⟨r3, h3, h⟩ := Option.bind_eq_some_iff.mp h
  refine fr_callS (nst := 0) (As := [.inl x0, .inl 27]) (st := []) i190_3 (cq189 x0 27) rfl (Nat.le_of_ble_eq_true rfl) (S_Mo_mixed x0 27 w r3 h3 _ (by omega)) ?_
  show Rn _ _ _ _ _ _ [.inl r3.1] _ _ _
  refine rn_iload_n i190_6 rfl ?_
  obtain ⟨r7, h7, h⟩ := Option.bind_eq_some_iff.mp h
  refine fr_callS (nst := 0) (As := [.inl r3.1, .inl x1]) (st := []) i190_7 (cq189 (r3.1) x1) rfl (Nat.le_of_ble_eq_true rfl) (S_Mo_mixed (r3.1) x1 r3.2 r7 h7 _ (by omega)) ?_
  show Rn _ _ _ _ _ _ [.inl r7.1] _ _ _
  refine rn_iconst i190_10 ?_
  refine rn_iushr i190_11 ?_
  refine rn_iload_n i190_12 rfl ?_
  obtain ⟨v13, h13, h⟩ := Option.bind_eq_some_iff.mp h
  refine fr_irm i190_13 h13 ?_
  obtain rfl := Option.some.inj h
  exact rn_retI i190_14 mr190
/-- HandHeirsModel.lotOf(III)I -/
def Mo_lotOf (x0 : Int) (x1 : Int) (x2 : Int) (w : Wd) : Option (Int × Wd) := Mo_lotOf_0 x0 x1 x2 w
theorem S_Mo_lotOf {g : Gp} {l : Launch} (x0 : Int) (x1 : Int) (x2 : Int) (w : Wd) (r : Int × Wd) (h : Mo_lotOf x0 x1 x2 w = some r) : ∀ D, 1 ≤ D → Rn g l D 190 0 [(0, .inl x0), (1, .inl x1), (2, .inl x2)] [] w (some (.inl r.1)) r.2 := fun D hD => rn_sub [0, 1, 2] rfl (s_Mo_lotOf_0 hD x0 x1 x2 w r h)
def Mo_apart_14 (s0 : Int) (w : Wd) : Option (Int × Wd) :=
  some (s0, w)
theorem s_Mo_apart_14 {g : Gp} {l : Launch} {D : Nat} (hD : 0 ≤ D) (s0 : Int) (w : Wd) (r : Int × Wd) (h : Mo_apart_14 s0 w = some r) : Rn g l D 191 14 [] [.inl s0] w (some (.inl r.1)) r.2 := by
  unfold Mo_apart_14 at h
  obtain rfl := Option.some.inj h
  exact rn_retI i191_14 mr191
def Mo_apart_0 (x0 : Int) (x1 : Int) (w : Wd) : Option (Int × Wd) :=
  if (x1 : Int) ≤ x0 then
    Mo_apart_14 (w32 (x0 - x1)) w
  else
    Mo_apart_14 (w32 (x1 - x0)) w
theorem s_Mo_apart_0 {g : Gp} {l : Launch} {D : Nat} (hD : 0 ≤ D) (x0 : Int) (x1 : Int) (w : Wd) (r : Int × Wd) (h : Mo_apart_0 x0 x1 w = some r) : Rn g l D 191 0 [(0, .inl x0), (1, .inl x1)] [] w (some (.inl r.1)) r.2 := by
  unfold Mo_apart_0 at h
  refine rn_iload_n i191_0 rfl ?_
  refine rn_iload_n i191_1 rfl ?_
  by_cases c2 : (x1 : Int) ≤ x0
  · rw [if_pos c2] at h
    refine rn_icmp_ge_t i191_2 c2 ?_
    refine rn_iload_n i191_11 rfl ?_
    refine rn_iload_n i191_12 rfl ?_
    refine rn_isub i191_13 ?_
    exact rn_sub [] rfl (s_Mo_apart_14 hD (w32 (x0 - x1)) w r h)
  · rw [if_neg c2] at h
    refine rn_icmp_ge_f i191_2 c2 ?_
    refine rn_iload_n i191_5 rfl ?_
    refine rn_iload_n i191_6 rfl ?_
    refine rn_isub i191_7 ?_
    refine rn_goto i191_8 ?_
    exact rn_sub [] rfl (s_Mo_apart_14 hD (w32 (x1 - x0)) w r h)
/-- HandHeirsModel.apart(II)I -/
def Mo_apart (x0 : Int) (x1 : Int) (w : Wd) : Option (Int × Wd) := Mo_apart_0 x0 x1 w
theorem S_Mo_apart {g : Gp} {l : Launch} (x0 : Int) (x1 : Int) (w : Wd) (r : Int × Wd) (h : Mo_apart x0 x1 w = some r) : ∀ D, 0 ≤ D → Rn g l D 191 0 [(0, .inl x0), (1, .inl x1)] [] w (some (.inl r.1)) r.2 := fun D hD => rn_sub [0, 1] rfl (s_Mo_apart_0 hD x0 x1 w r h)
def Mo_shapeOf_0 (a0 : Nat) (x1 : Int) (x2 : Int) (w : Wd) : Option (Int × Wd) :=
  (fgR w a0 12 50).bind fun v1 =>
  (rdI w v1 (w32 ((w32 (6 + (w32 (6 * x1)))) + x2))).bind fun v13 =>
  some (v13, w)
theorem s_Mo_shapeOf_0 {g : Gp} {l : Launch} {D : Nat} (hD : 0 ≤ D) (a0 : Nat) (x1 : Int) (x2 : Int) (w : Wd) (r : Int × Wd) (h : Mo_shapeOf_0 a0 x1 x2 w = some r) : Rn g l D 192 0 [(0, .inr (.inr a0)), (1, .inl x1), (2, .inl x2)] [] w (some (.inl r.1)) r.2 := by
  unfold Mo_shapeOf_0 at h
  refine fr_aload_n i192_0 rfl ?_
  obtain ⟨v1, h1, h⟩ := Option.bind_eq_some_iff.mp h
  refine fr_gR (k := 50) i192_1 tf12_50 h1 ?_
  refine rn_bipush i192_4 ?_
  refine rn_bipush i192_6 ?_
  refine rn_iload_n i192_8 rfl ?_
  refine rn_imul i192_9 ?_
  refine rn_iadd i192_10 ?_
  refine rn_iload_n i192_11 rfl ?_
  refine rn_iadd i192_12 ?_
  obtain ⟨v13, h13, h⟩ := Option.bind_eq_some_iff.mp h
  refine rn_iald i192_13 h13 ?_
  obtain rfl := Option.some.inj h
  exact rn_retI i192_14 mr192
/-- HandHeirsModel.shapeOf(II)I -/
def Mo_shapeOf (a0 : Nat) (x1 : Int) (x2 : Int) (w : Wd) : Option (Int × Wd) := gd 12 w a0 (Mo_shapeOf_0 a0 x1 x2 w)
theorem S_Mo_shapeOf {g : Gp} {l : Launch} (a0 : Nat) (x1 : Int) (x2 : Int) (w : Wd) (r : Int × Wd) (h : Mo_shapeOf a0 x1 x2 w = some r) : (wsh w a0).1 = 12 ∧ ∀ D, 0 ≤ D → Rn g l D 192 0 [(0, .inr (.inr a0)), (1, .inl x1), (2, .inl x2)] [] w (some (.inl r.1)) r.2 := by
  obtain ⟨hg, h⟩ := gd_some h
  exact ⟨hg, fun D hD => rn_sub [0, 1, 2] rfl (s_Mo_shapeOf_0 hD a0 x1 x2 w r h)⟩
def Mo_writes_78 (s0 : Int) (w : Wd) : Option (Int × Wd) :=
  some (s0, w)
theorem s_Mo_writes_78 {g : Gp} {l : Launch} {D : Nat} (hD : 2 ≤ D) (s0 : Int) (w : Wd) (r : Int × Wd) (h : Mo_writes_78 s0 w = some r) : Rn g l D 193 78 [] [.inl s0] w (some (.inl r.1)) r.2 := by
  unfold Mo_writes_78 at h
  obtain rfl := Option.some.inj h
  exact rn_retI i193_78 mr193
def Mo_writes_0 (a0 : Nat) (x1 : Int) (x2 : Int) (w : Wd) : Option (Int × Wd) :=
  (fgR w a0 12 27).bind fun v1 =>
  (fgI w a0 12 18).bind fun v7 =>
  (rdI w v1 (w32 ((w32 (6 * v7)) + x1))).bind fun v13 =>
  (Mo_shapeOf a0 x1 x2 w).bind fun r18 =>
  (fgI r18.2 a0 12 51).bind fun v22 =>
  (fgR r18.2 a0 12 50).bind fun v28 =>
  (rdI r18.2 v28 42).bind fun v33 =>
  (Mo_lotOf v22 (w32 ((w32 ((w32 (36 * v33)) + (w32 (6 * x1)))) + x2)) (w32 ((w32 (2 * v13)) + 1)) r18.2).bind fun r47 =>
  if (0 : Int) ≤ (w32 ((w32 (r18.1 + r47.1)) - v13)) then
    if ((w32 ((w32 (r18.1 + r47.1)) - v13)) : Int) ≤ 99 then
      Mo_writes_78 (w32 ((w32 (r18.1 + r47.1)) - v13)) r47.2
    else
      Mo_writes_78 99 r47.2
  else
    Mo_writes_78 0 r47.2
theorem s_Mo_writes_0 {g : Gp} {l : Launch} {D : Nat} (hD : 2 ≤ D) (a0 : Nat) (x1 : Int) (x2 : Int) (w : Wd) (r : Int × Wd) (h : Mo_writes_0 a0 x1 x2 w = some r) : Rn g l D 193 0 [(0, .inr (.inr a0)), (1, .inl x1), (2, .inl x2)] [] w (some (.inl r.1)) r.2 := by
  obtain ⟨D, rfl⟩ : ∃ D1, D = D1 + 1 := ⟨D - 1, by omega⟩
  unfold Mo_writes_0 at h
  refine fr_aload_n i193_0 rfl ?_
  obtain ⟨v1, h1, h⟩ := Option.bind_eq_some_iff.mp h
  refine fr_gR (k := 27) i193_1 tf12_27 h1 ?_
  refine rn_bipush i193_4 ?_
  refine fr_aload_n i193_6 rfl ?_
  obtain ⟨v7, h7, h⟩ := Option.bind_eq_some_iff.mp h
  refine fr_gI (k := 18) i193_7 tf12_18 h7 ?_
  refine rn_imul i193_10 ?_
  refine rn_iload_n i193_11 rfl ?_
  refine rn_iadd i193_12 ?_
  obtain ⟨v13, h13, h⟩ := Option.bind_eq_some_iff.mp h
  refine rn_iald i193_13 h13 ?_
  refine rn_istore_n (ls1 := [(3, .inl v13), (0, .inr (.inr a0)), (1, .inl x1), (2, .inl x2)]) i193_14 rfl ?_
  refine fr_aload_n i193_15 rfl ?_
  refine rn_iload_n i193_16 rfl ?_
  refine rn_iload_n i193_17 rfl ?_
  obtain ⟨r18, h18, h⟩ := Option.bind_eq_some_iff.mp h
  obtain ⟨g18, c18⟩ := S_Mo_shapeOf a0 x1 x2 w r18 h18
  refine fr_callV (a := a0) (As := [.inl x1, .inl x2]) (st := []) i193_18 (cq192 a0 x1 x2) rfl (Nat.le_of_ble_eq_true rfl) g18 (c18 _ (by omega)) ?_
  show Rn _ _ _ _ _ _ [.inl r18.1] _ _ _
  refine fr_aload_n i193_21 rfl ?_
  obtain ⟨v22, h22, h⟩ := Option.bind_eq_some_iff.mp h
  refine fr_gI (k := 51) i193_22 tf12_51 h22 ?_
  refine rn_bipush i193_25 ?_
  refine fr_aload_n i193_27 rfl ?_
  obtain ⟨v28, h28, h⟩ := Option.bind_eq_some_iff.mp h
  refine fr_gR (k := 50) i193_28 tf12_50 h28 ?_
  refine rn_bipush i193_31 ?_
  obtain ⟨v33, h33, h⟩ := Option.bind_eq_some_iff.mp h
  refine rn_iald i193_33 h33 ?_
  refine rn_imul i193_34 ?_
  refine rn_bipush i193_35 ?_
  refine rn_iload_n i193_37 rfl ?_
  refine rn_imul i193_38 ?_
  refine rn_iadd i193_39 ?_
  refine rn_iload_n i193_40 rfl ?_
  refine rn_iadd i193_41 ?_
  refine rn_iconst i193_42 ?_
  refine rn_iload_n i193_43 rfl ?_
  refine rn_imul i193_44 ?_
  refine rn_iconst i193_45 ?_
  refine rn_iadd i193_46 ?_
  obtain ⟨r47, h47, h⟩ := Option.bind_eq_some_iff.mp h
  refine fr_callS (nst := 0) (As := [.inl v22, .inl (w32 ((w32 ((w32 (36 * v33)) + (w32 (6 * x1)))) + x2)), .inl (w32 ((w32 (2 * v13)) + 1))]) (st := [.inl r18.1]) i193_47 (cq190 v22 (w32 ((w32 ((w32 (36 * v33)) + (w32 (6 * x1)))) + x2)) (w32 ((w32 (2 * v13)) + 1))) rfl (Nat.le_of_ble_eq_true rfl) (S_Mo_lotOf v22 (w32 ((w32 ((w32 (36 * v33)) + (w32 (6 * x1)))) + x2)) (w32 ((w32 (2 * v13)) + 1)) r18.2 r47 h47 _ (by omega)) ?_
  show Rn _ _ _ _ _ _ [.inl r47.1, .inl r18.1] _ _ _
  refine rn_iadd i193_50 ?_
  refine rn_iload_n i193_51 rfl ?_
  refine rn_isub i193_52 ?_
  refine rn_istore (ls1 := [(4, .inl (w32 ((w32 (r18.1 + r47.1)) - v13))), (3, .inl v13), (0, .inr (.inr a0)), (1, .inl x1), (2, .inl x2)]) i193_53 rfl ?_
  refine rn_iload i193_55 rfl ?_
  by_cases c57 : (0 : Int) ≤ (w32 ((w32 (r18.1 + r47.1)) - v13))
  · rw [if_pos c57] at h
    refine rn_if_ge_t i193_57 c57 ?_
    refine rn_iload i193_64 rfl ?_
    refine rn_bipush i193_66 ?_
    by_cases c68 : ((w32 ((w32 (r18.1 + r47.1)) - v13)) : Int) ≤ 99
    · rw [if_pos c68] at h
      refine rn_icmp_le_t i193_68 c68 ?_
      refine rn_iload i193_76 rfl ?_
      exact rn_sub [] rfl (s_Mo_writes_78 hD (w32 ((w32 (r18.1 + r47.1)) - v13)) r47.2 r h)
    · rw [if_neg c68] at h
      refine rn_icmp_le_f i193_68 c68 ?_
      refine rn_bipush i193_71 ?_
      refine rn_goto i193_73 ?_
      exact rn_sub [] rfl (s_Mo_writes_78 hD 99 r47.2 r h)
  · rw [if_neg c57] at h
    refine rn_if_ge_f i193_57 c57 ?_
    refine rn_iconst i193_60 ?_
    refine rn_goto i193_61 ?_
    exact rn_sub [] rfl (s_Mo_writes_78 hD 0 r47.2 r h)
/-- HandHeirsModel.writes(II)I -/
def Mo_writes (a0 : Nat) (x1 : Int) (x2 : Int) (w : Wd) : Option (Int × Wd) := gd 12 w a0 (Mo_writes_0 a0 x1 x2 w)
theorem S_Mo_writes {g : Gp} {l : Launch} (a0 : Nat) (x1 : Int) (x2 : Int) (w : Wd) (r : Int × Wd) (h : Mo_writes a0 x1 x2 w = some r) : (wsh w a0).1 = 12 ∧ ∀ D, 2 ≤ D → Rn g l D 193 0 [(0, .inr (.inr a0)), (1, .inl x1), (2, .inl x2)] [] w (some (.inl r.1)) r.2 := by
  obtain ⟨hg, h⟩ := gd_some h
  exact ⟨hg, fun D hD => rn_sub [0, 1, 2] rfl (s_Mo_writes_0 hD a0 x1 x2 w r h)⟩
def Mo_tells_127 (s0 : Int) (w : Wd) : Option (Int × Wd) :=
  some (s0, w)
theorem s_Mo_tells_127 {g : Gp} {l : Launch} {D : Nat} (hD : 1 ≤ D) (s0 : Int) (w : Wd) (r : Int × Wd) (h : Mo_tells_127 s0 w = some r) : Rn g l D 194 127 [] [.inl s0] w (some (.inl r.1)) r.2 := by
  unfold Mo_tells_127 at h
  obtain rfl := Option.some.inj h
  exact rn_retI i194_127 mr194
def Mo_tells_96 (a0 : Nat) (x3 : Int) (w : Wd) : Option (Int × Wd) :=
  (fgR w a0 12 39).bind fun v98 =>
  (rdI w v98 x3).bind fun v102 =>
  (fgR w a0 12 40).bind fun v104 =>
  (rdI w v104 x3).bind fun v108 =>
  (Mo_termOf a0 v102 v108 w).bind fun r109 =>
  (fgI r109.2 a0 12 48).bind fun v115 =>
  if (v115 : Int) = 0 then
    Mo_tells_127 r109.1 r109.2
  else
    Mo_tells_127 0 r109.2
theorem s_Mo_tells_96 {g : Gp} {l : Launch} {D : Nat} (hD : 1 ≤ D) (a0 : Nat) (x3 : Int) (w : Wd) (r : Int × Wd) (h : Mo_tells_96 a0 x3 w = some r) : Rn g l D 194 96 [(0, .inr (.inr a0)), (3, .inl x3)] [] w (some (.inl r.1)) r.2 := by
  obtain ⟨D, rfl⟩ : ∃ D1, D = D1 + 1 := ⟨D - 1, by omega⟩
  unfold Mo_tells_96 at h
  refine fr_aload_n i194_96 rfl ?_
  refine fr_aload_n i194_97 rfl ?_
  obtain ⟨v98, h98, h⟩ := Option.bind_eq_some_iff.mp h
  refine fr_gR (k := 39) i194_98 tf12_39 h98 ?_
  refine rn_iload_n i194_101 rfl ?_
  obtain ⟨v102, h102, h⟩ := Option.bind_eq_some_iff.mp h
  refine rn_iald i194_102 h102 ?_
  refine fr_aload_n i194_103 rfl ?_
  obtain ⟨v104, h104, h⟩ := Option.bind_eq_some_iff.mp h
  refine fr_gR (k := 40) i194_104 tf12_40 h104 ?_
  refine rn_iload_n i194_107 rfl ?_
  obtain ⟨v108, h108, h⟩ := Option.bind_eq_some_iff.mp h
  refine rn_iald i194_108 h108 ?_
  obtain ⟨r109, h109, h⟩ := Option.bind_eq_some_iff.mp h
  obtain ⟨g109, c109⟩ := S_Mo_termOf a0 v102 v108 w r109 h109
  refine fr_callV (a := a0) (As := [.inl v102, .inl v108]) (st := []) i194_109 (cq180 a0 v102 v108) rfl (Nat.le_of_ble_eq_true rfl) g109 (c109 _ (by omega)) ?_
  show Rn _ _ _ _ _ _ [.inl r109.1] _ _ _
  refine rn_istore (ls1 := [(4, .inl r109.1), (0, .inr (.inr a0)), (3, .inl x3)]) i194_112 rfl ?_
  refine fr_aload_n i194_114 rfl ?_
  obtain ⟨v115, h115, h⟩ := Option.bind_eq_some_iff.mp h
  refine fr_gI (k := 48) i194_115 tf12_48 h115 ?_
  by_cases c118 : (v115 : Int) = 0
  · rw [if_pos c118] at h
    refine rn_if_eq_t i194_118 c118 ?_
    refine rn_iload i194_125 rfl ?_
    exact rn_sub [] rfl (s_Mo_tells_127 hD r109.1 r109.2 r h)
  · rw [if_neg c118] at h
    refine rn_if_eq_f i194_118 c118 ?_
    refine rn_iconst i194_121 ?_
    refine rn_goto i194_122 ?_
    exact rn_sub [] rfl (s_Mo_tells_127 hD 0 r109.2 r h)
def Mo_tells_22 : Nat → Nat → Int → Int → Wd → Option (Int × Wd)
  | 0, _, _, _, _ => none
  | n + 1, a0, x2, x3, w =>
    (fgR w a0 12 34).bind fun v24 =>
    (rdI w v24 x2).bind fun v28 =>
    if (v28 : Int) ≤ x3 then
      some (0, w)
    else
      (fgR w a0 12 36).bind fun v33 =>
      (rdB w v33 x3).bind fun v37 =>
      if (v37 : Int) = 0 then
        Mo_tells_96 a0 x3 w
      else
        (fgR w a0 12 37).bind fun v43 =>
        (rdI w v43 x3).bind fun v47 =>
        (fgR w a0 12 38).bind fun v49 =>
        (rdI w v49 x3).bind fun v53 =>
        (Mo_termOf a0 v47 v53 w).bind fun r54 =>
        (fgR r54.2 a0 12 38).bind fun v61 =>
        (rdI r54.2 v61 x3).bind fun v65 =>
        (fgR r54.2 a0 12 39).bind fun v67 =>
        (rdI r54.2 v67 x3).bind fun v71 =>
        (Mo_termOf a0 v65 v71 r54.2).bind fun r72 =>
        (fgI r72.2 a0 12 48).bind fun v78 =>
        if (v78 : Int) = 0 then
          if (r54.1 : Int) < r72.1 then
            Mo_tells_96 a0 x3 r72.2
          else
            Mo_tells_22 n a0 x2 (w32 (x3 + 1)) r72.2
        else
          some (0, r72.2)
theorem s_Mo_tells_22 {g : Gp} {l : Launch} {D : Nat} (hD : 1 ≤ D) : ∀ (n : Nat) (a0 : Nat) (x2 : Int) (x3 : Int) (w : Wd) (r : Int × Wd), Mo_tells_22 n a0 x2 x3 w = some r → Rn g l D 194 22 [(0, .inr (.inr a0)), (2, .inl x2), (3, .inl x3)] [] w (some (.inl r.1)) r.2 := by
  obtain ⟨D, rfl⟩ : ∃ D1, D = D1 + 1 := ⟨D - 1, by omega⟩
  intro n
  induction n with
  | zero => intro a0 x2 x3 w r h; cases (show (none : Option (Int × Wd)) = some r from h)
  | succ n ih =>
    intro a0 x2 x3 w r h
    unfold Mo_tells_22 at h
    refine rn_iload_n i194_22 rfl ?_
    refine fr_aload_n i194_23 rfl ?_
    obtain ⟨v24, h24, h⟩ := Option.bind_eq_some_iff.mp h
    refine fr_gR (k := 34) i194_24 tf12_34 h24 ?_
    refine rn_iload_n i194_27 rfl ?_
    obtain ⟨v28, h28, h⟩ := Option.bind_eq_some_iff.mp h
    refine rn_iald i194_28 h28 ?_
    by_cases c29 : (v28 : Int) ≤ x3
    · rw [if_pos c29] at h
      refine rn_icmp_ge_t i194_29 c29 ?_
      refine rn_iconst i194_134 ?_
      obtain rfl := Option.some.inj h
      exact rn_retI i194_135 mr194
    · rw [if_neg c29] at h
      refine rn_icmp_ge_f i194_29 c29 ?_
      refine fr_aload_n i194_32 rfl ?_
      obtain ⟨v33, h33, h⟩ := Option.bind_eq_some_iff.mp h
      refine fr_gR (k := 36) i194_33 tf12_36 h33 ?_
      refine rn_iload_n i194_36 rfl ?_
      obtain ⟨v37, h37, h⟩ := Option.bind_eq_some_iff.mp h
      refine rn_bald i194_37 h37 ?_
      by_cases c38 : (v37 : Int) = 0
      · rw [if_pos c38] at h
        refine rn_if_eq_t i194_38 c38 ?_
        exact rn_sub [0, 2] rfl (s_Mo_tells_96 hD a0 x3 w r h)
      · rw [if_neg c38] at h
        refine rn_if_eq_f i194_38 c38 ?_
        refine fr_aload_n i194_41 rfl ?_
        refine fr_aload_n i194_42 rfl ?_
        obtain ⟨v43, h43, h⟩ := Option.bind_eq_some_iff.mp h
        refine fr_gR (k := 37) i194_43 tf12_37 h43 ?_
        refine rn_iload_n i194_46 rfl ?_
        obtain ⟨v47, h47, h⟩ := Option.bind_eq_some_iff.mp h
        refine rn_iald i194_47 h47 ?_
        refine fr_aload_n i194_48 rfl ?_
        obtain ⟨v49, h49, h⟩ := Option.bind_eq_some_iff.mp h
        refine fr_gR (k := 38) i194_49 tf12_38 h49 ?_
        refine rn_iload_n i194_52 rfl ?_
        obtain ⟨v53, h53, h⟩ := Option.bind_eq_some_iff.mp h
        refine rn_iald i194_53 h53 ?_
        obtain ⟨r54, h54, h⟩ := Option.bind_eq_some_iff.mp h
        obtain ⟨g54, c54⟩ := S_Mo_termOf a0 v47 v53 w r54 h54
        refine fr_callV (a := a0) (As := [.inl v47, .inl v53]) (st := []) i194_54 (cq180 a0 v47 v53) rfl (Nat.le_of_ble_eq_true rfl) g54 (c54 _ (by omega)) ?_
        show Rn _ _ _ _ _ _ [.inl r54.1] _ _ _
        refine rn_istore (ls1 := [(4, .inl r54.1), (0, .inr (.inr a0)), (2, .inl x2), (3, .inl x3)]) i194_57 rfl ?_
        refine fr_aload_n i194_59 rfl ?_
        refine fr_aload_n i194_60 rfl ?_
        obtain ⟨v61, h61, h⟩ := Option.bind_eq_some_iff.mp h
        refine fr_gR (k := 38) i194_61 tf12_38 h61 ?_
        refine rn_iload_n i194_64 rfl ?_
        obtain ⟨v65, h65, h⟩ := Option.bind_eq_some_iff.mp h
        refine rn_iald i194_65 h65 ?_
        refine fr_aload_n i194_66 rfl ?_
        obtain ⟨v67, h67, h⟩ := Option.bind_eq_some_iff.mp h
        refine fr_gR (k := 39) i194_67 tf12_39 h67 ?_
        refine rn_iload_n i194_70 rfl ?_
        obtain ⟨v71, h71, h⟩ := Option.bind_eq_some_iff.mp h
        refine rn_iald i194_71 h71 ?_
        obtain ⟨r72, h72, h⟩ := Option.bind_eq_some_iff.mp h
        obtain ⟨g72, c72⟩ := S_Mo_termOf a0 v65 v71 r54.2 r72 h72
        refine fr_callV (a := a0) (As := [.inl v65, .inl v71]) (st := []) i194_72 (cq180 a0 v65 v71) rfl (Nat.le_of_ble_eq_true rfl) g72 (c72 _ (by omega)) ?_
        show Rn _ _ _ _ _ _ [.inl r72.1] _ _ _
        refine rn_istore (ls1 := [(5, .inl r72.1), (4, .inl r54.1), (0, .inr (.inr a0)), (2, .inl x2), (3, .inl x3)]) i194_75 rfl ?_
        refine fr_aload_n i194_77 rfl ?_
        obtain ⟨v78, h78, h⟩ := Option.bind_eq_some_iff.mp h
        refine fr_gI (k := 48) i194_78 tf12_48 h78 ?_
        by_cases c81 : (v78 : Int) = 0
        · rw [if_pos c81] at h
          refine rn_if_eq_t i194_81 c81 ?_
          refine rn_iload i194_86 rfl ?_
          refine rn_iload i194_88 rfl ?_
          by_cases c90 : (r54.1 : Int) < r72.1
          · rw [if_pos c90] at h
            refine rn_icmp_lt_t i194_90 c90 ?_
            exact rn_sub [2, 4] rfl (s_Mo_tells_96 hD a0 x3 r72.2 r h)
          · rw [if_neg c90] at h
            refine rn_icmp_lt_f i194_90 c90 ?_
            refine rn_goto i194_93 ?_
            refine rn_iinc (ls1 := [(3, .inl (w32 (x3 + 1))), (5, .inl r72.1), (4, .inl r54.1), (0, .inr (.inr a0)), (2, .inl x2)]) i194_128 rfl rfl ?_
            refine rn_goto i194_131 ?_
            exact rn_sub [3, 4, 0] rfl (ih a0 x2 (w32 (x3 + 1)) r72.2 r h)
        · rw [if_neg c81] at h
          refine rn_if_eq_f i194_81 c81 ?_
          refine rn_iconst i194_84 ?_
          obtain rfl := Option.some.inj h
          exact rn_retI i194_85 mr194
def Mo_tells_0 (a0 : Nat) (x1 : Int) (w : Wd) : Option (Int × Wd) :=
  (fgI w a0 12 18).bind fun v3 =>
  (fpZ w a0 12 48 0).bind fun w12 =>
  (fgR w12 a0 12 33).bind fun v16 =>
  (rdI w12 v16 (w32 ((w32 (10 * v3)) + x1))).bind fun v20 =>
  Mo_tells_22 FU a0 (w32 ((w32 (10 * v3)) + x1)) v20 w12
theorem s_Mo_tells_0 {g : Gp} {l : Launch} {D : Nat} (hD : 1 ≤ D) (a0 : Nat) (x1 : Int) (w : Wd) (r : Int × Wd) (h : Mo_tells_0 a0 x1 w = some r) : Rn g l D 194 0 [(0, .inr (.inr a0)), (1, .inl x1)] [] w (some (.inl r.1)) r.2 := by
  unfold Mo_tells_0 at h
  refine rn_bipush i194_0 ?_
  refine fr_aload_n i194_2 rfl ?_
  obtain ⟨v3, h3, h⟩ := Option.bind_eq_some_iff.mp h
  refine fr_gI (k := 18) i194_3 tf12_18 h3 ?_
  refine rn_imul i194_6 ?_
  refine rn_iload_n i194_7 rfl ?_
  refine rn_iadd i194_8 ?_
  refine rn_istore_n (ls1 := [(2, .inl (w32 ((w32 (10 * v3)) + x1))), (0, .inr (.inr a0)), (1, .inl x1)]) i194_9 rfl ?_
  refine fr_aload_n i194_10 rfl ?_
  refine rn_iconst i194_11 ?_
  obtain ⟨w12, h12, h⟩ := Option.bind_eq_some_iff.mp h
  refine fr_pZ (k := 48) i194_12 (pf12_48 194) h12 ?_
  refine fr_aload_n i194_15 rfl ?_
  obtain ⟨v16, h16, h⟩ := Option.bind_eq_some_iff.mp h
  refine fr_gR (k := 33) i194_16 tf12_33 h16 ?_
  refine rn_iload_n i194_19 rfl ?_
  obtain ⟨v20, h20, h⟩ := Option.bind_eq_some_iff.mp h
  refine rn_iald i194_20 h20 ?_
  refine rn_istore_n (ls1 := [(3, .inl v20), (2, .inl (w32 ((w32 (10 * v3)) + x1))), (0, .inr (.inr a0)), (1, .inl x1)]) i194_21 rfl ?_
  exact rn_sub [2, 1, 0] rfl (s_Mo_tells_22 hD FU a0 (w32 ((w32 (10 * v3)) + x1)) v20 w12 r h)
/-- HandHeirsModel.tells(I)I -/
def Mo_tells (a0 : Nat) (x1 : Int) (w : Wd) : Option (Int × Wd) := gd 12 w a0 (Mo_tells_0 a0 x1 w)
theorem S_Mo_tells {g : Gp} {l : Launch} (a0 : Nat) (x1 : Int) (w : Wd) (r : Int × Wd) (h : Mo_tells a0 x1 w = some r) : (wsh w a0).1 = 12 ∧ ∀ D, 1 ≤ D → Rn g l D 194 0 [(0, .inr (.inr a0)), (1, .inl x1)] [] w (some (.inl r.1)) r.2 := by
  obtain ⟨hg, h⟩ := gd_some h
  exact ⟨hg, fun D hD => rn_sub [0, 1] rfl (s_Mo_tells_0 hD a0 x1 w r h)⟩
def Mo_setsOf_0 (a0 : Nat) (x1 : Int) (x2 : Int) (x3 : Int) (x4 : Int) (x5 : Int) (x6 : Int) (w : Wd) : Option (Wd) :=
  (fgR w a0 12 46).bind fun v1 =>
  (wrI w v1 0 x1).bind fun w6 =>
  (fgR w6 a0 12 46).bind fun v8 =>
  (wrI w6 v8 1 x2).bind fun w13 =>
  (fgR w13 a0 12 46).bind fun v15 =>
  (fgR w13 a0 12 50).bind fun v20 =>
  (rdI w13 v20 42).bind fun v25 =>
  (wrI w13 v15 2 v25).bind fun w26 =>
  (fgR w26 a0 12 46).bind fun v28 =>
  (wrI w26 v28 3 x3).bind fun w33 =>
  (fgR w33 a0 12 46).bind fun v35 =>
  (wrI w33 v35 4 x4).bind fun w41 =>
  (fgR w41 a0 12 46).bind fun v43 =>
  (wrI w41 v43 5 x5).bind fun w49 =>
  (fgR w49 a0 12 46).bind fun v51 =>
  (wrI w49 v51 6 x6).bind fun w58 =>
  some w58
theorem s_Mo_setsOf_0 {g : Gp} {l : Launch} {D : Nat} (hD : 0 ≤ D) (a0 : Nat) (x1 : Int) (x2 : Int) (x3 : Int) (x4 : Int) (x5 : Int) (x6 : Int) (w : Wd) (r : Wd) (h : Mo_setsOf_0 a0 x1 x2 x3 x4 x5 x6 w = some r) : Rn g l D 195 0 [(0, .inr (.inr a0)), (1, .inl x1), (2, .inl x2), (3, .inl x3), (4, .inl x4), (5, .inl x5), (6, .inl x6)] [] w none r := by
  unfold Mo_setsOf_0 at h
  refine fr_aload_n i195_0 rfl ?_
  obtain ⟨v1, h1, h⟩ := Option.bind_eq_some_iff.mp h
  refine fr_gR (k := 46) i195_1 tf12_46 h1 ?_
  refine rn_iconst i195_4 ?_
  refine rn_iload_n i195_5 rfl ?_
  obtain ⟨w6, h6, h⟩ := Option.bind_eq_some_iff.mp h
  refine rn_iast i195_6 h6 ?_
  refine fr_aload_n i195_7 rfl ?_
  obtain ⟨v8, h8, h⟩ := Option.bind_eq_some_iff.mp h
  refine fr_gR (k := 46) i195_8 tf12_46 h8 ?_
  refine rn_iconst i195_11 ?_
  refine rn_iload_n i195_12 rfl ?_
  obtain ⟨w13, h13, h⟩ := Option.bind_eq_some_iff.mp h
  refine rn_iast i195_13 h13 ?_
  refine fr_aload_n i195_14 rfl ?_
  obtain ⟨v15, h15, h⟩ := Option.bind_eq_some_iff.mp h
  refine fr_gR (k := 46) i195_15 tf12_46 h15 ?_
  refine rn_iconst i195_18 ?_
  refine fr_aload_n i195_19 rfl ?_
  obtain ⟨v20, h20, h⟩ := Option.bind_eq_some_iff.mp h
  refine fr_gR (k := 50) i195_20 tf12_50 h20 ?_
  refine rn_bipush i195_23 ?_
  obtain ⟨v25, h25, h⟩ := Option.bind_eq_some_iff.mp h
  refine rn_iald i195_25 h25 ?_
  obtain ⟨w26, h26, h⟩ := Option.bind_eq_some_iff.mp h
  refine rn_iast i195_26 h26 ?_
  refine fr_aload_n i195_27 rfl ?_
  obtain ⟨v28, h28, h⟩ := Option.bind_eq_some_iff.mp h
  refine fr_gR (k := 46) i195_28 tf12_46 h28 ?_
  refine rn_iconst i195_31 ?_
  refine rn_iload_n i195_32 rfl ?_
  obtain ⟨w33, h33, h⟩ := Option.bind_eq_some_iff.mp h
  refine rn_iast i195_33 h33 ?_
  refine fr_aload_n i195_34 rfl ?_
  obtain ⟨v35, h35, h⟩ := Option.bind_eq_some_iff.mp h
  refine fr_gR (k := 46) i195_35 tf12_46 h35 ?_
  refine rn_iconst i195_38 ?_
  refine rn_iload i195_39 rfl ?_
  obtain ⟨w41, h41, h⟩ := Option.bind_eq_some_iff.mp h
  refine rn_iast i195_41 h41 ?_
  refine fr_aload_n i195_42 rfl ?_
  obtain ⟨v43, h43, h⟩ := Option.bind_eq_some_iff.mp h
  refine fr_gR (k := 46) i195_43 tf12_46 h43 ?_
  refine rn_iconst i195_46 ?_
  refine rn_iload i195_47 rfl ?_
  obtain ⟨w49, h49, h⟩ := Option.bind_eq_some_iff.mp h
  refine rn_iast i195_49 h49 ?_
  refine fr_aload_n i195_50 rfl ?_
  obtain ⟨v51, h51, h⟩ := Option.bind_eq_some_iff.mp h
  refine fr_gR (k := 46) i195_51 tf12_46 h51 ?_
  refine rn_bipush i195_54 ?_
  refine rn_iload i195_56 rfl ?_
  obtain ⟨w58, h58, h⟩ := Option.bind_eq_some_iff.mp h
  refine rn_iast i195_58 h58 ?_
  obtain rfl := Option.some.inj h
  exact rn_ret i195_59 mr195
/-- HandHeirsModel.setsOf(IIIIII)V -/
def Mo_setsOf (a0 : Nat) (x1 : Int) (x2 : Int) (x3 : Int) (x4 : Int) (x5 : Int) (x6 : Int) (w : Wd) : Option (Wd) := gd 12 w a0 (Mo_setsOf_0 a0 x1 x2 x3 x4 x5 x6 w)
theorem S_Mo_setsOf {g : Gp} {l : Launch} (a0 : Nat) (x1 : Int) (x2 : Int) (x3 : Int) (x4 : Int) (x5 : Int) (x6 : Int) (w : Wd) (r : Wd) (h : Mo_setsOf a0 x1 x2 x3 x4 x5 x6 w = some r) : (wsh w a0).1 = 12 ∧ ∀ D, 0 ≤ D → Rn g l D 195 0 [(0, .inr (.inr a0)), (1, .inl x1), (2, .inl x2), (3, .inl x3), (4, .inl x4), (5, .inl x5), (6, .inl x6)] [] w none r := by
  obtain ⟨hg, h⟩ := gd_some h
  exact ⟨hg, fun D hD => rn_sub [0, 1, 2, 3, 4, 5, 6] rfl (s_Mo_setsOf_0 hD a0 x1 x2 x3 x4 x5 x6 w r h)⟩
