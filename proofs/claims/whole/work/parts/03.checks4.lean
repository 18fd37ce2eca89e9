theorem chk_173 : chkM 173 = true := by
  have h1 : ((itab 173).drop 40).all (chk1 173) = true := chk_173_1
  have h0 : ((itab 173).drop 0).all (chk1 173) = true := all_cut _ _ 40 chk_173_0 (by rw [List.drop_drop]; exact h1)
  exact h0
theorem chk_174_0 : (((itab 174).drop 0).take 40).all (chk1 174) = true := by decide +kernel
theorem chk_174_1 : (((itab 174).drop 40).take 40).all (chk1 174) = true := by decide +kernel
theorem chk_174_2 : ((itab 174).drop 80).all (chk1 174) = true := by decide +kernel
theorem chk_174 : chkM 174 = true := by
  have h2 : ((itab 174).drop 80).all (chk1 174) = true := chk_174_2
  have h1 : ((itab 174).drop 40).all (chk1 174) = true := all_cut _ _ 40 chk_174_1 (by rw [List.drop_drop]; exact h2)
  have h0 : ((itab 174).drop 0).all (chk1 174) = true := all_cut _ _ 40 chk_174_0 (by rw [List.drop_drop]; exact h1)
  exact h0
theorem chk_175 : chkM 175 = true := by decide +kernel
theorem chk_176_0 : (((itab 176).drop 0).take 40).all (chk1 176) = true := by decide +kernel
theorem chk_176_1 : (((itab 176).drop 40).take 40).all (chk1 176) = true := by decide +kernel
theorem chk_176_2 : ((itab 176).drop 80).all (chk1 176) = true := by decide +kernel
theorem chk_176 : chkM 176 = true := by
  have h2 : ((itab 176).drop 80).all (chk1 176) = true := chk_176_2
  have h1 : ((itab 176).drop 40).all (chk1 176) = true := all_cut _ _ 40 chk_176_1 (by rw [List.drop_drop]; exact h2)
  have h0 : ((itab 176).drop 0).all (chk1 176) = true := all_cut _ _ 40 chk_176_0 (by rw [List.drop_drop]; exact h1)
  exact h0
theorem chk_177 : chkM 177 = true := by decide +kernel
theorem chk_178 : chkM 178 = true := by decide +kernel
theorem chk_179_0 : (((itab 179).drop 0).take 40).all (chk1 179) = true := by decide +kernel
theorem chk_179_1 : ((itab 179).drop 40).all (chk1 179) = true := by decide +kernel
theorem chk_179 : chkM 179 = true := by
  have h1 : ((itab 179).drop 40).all (chk1 179) = true := chk_179_1
  have h0 : ((itab 179).drop 0).all (chk1 179) = true := all_cut _ _ 40 chk_179_0 (by rw [List.drop_drop]; exact h1)
  exact h0
theorem chk_180_0 : (((itab 180).drop 0).take 40).all (chk1 180) = true := by decide +kernel
theorem chk_180_1 : (((itab 180).drop 40).take 40).all (chk1 180) = true := by decide +kernel
theorem chk_180_2 : (((itab 180).drop 80).take 40).all (chk1 180) = true := by decide +kernel
theorem chk_180_3 : ((itab 180).drop 120).all (chk1 180) = true := by decide +kernel
theorem chk_180 : chkM 180 = true := by
  have h3 : ((itab 180).drop 120).all (chk1 180) = true := chk_180_3
  have h2 : ((itab 180).drop 80).all (chk1 180) = true := all_cut _ _ 40 chk_180_2 (by rw [List.drop_drop]; exact h3)
  have h1 : ((itab 180).drop 40).all (chk1 180) = true := all_cut _ _ 40 chk_180_1 (by rw [List.drop_drop]; exact h2)
  have h0 : ((itab 180).drop 0).all (chk1 180) = true := all_cut _ _ 40 chk_180_0 (by rw [List.drop_drop]; exact h1)
  exact h0
theorem chk_181_0 : (((itab 181).drop 0).take 40).all (chk1 181) = true := by decide +kernel
theorem chk_181_1 : ((itab 181).drop 40).all (chk1 181) = true := by decide +kernel
theorem chk_181 : chkM 181 = true := by
  have h1 : ((itab 181).drop 40).all (chk1 181) = true := chk_181_1
  have h0 : ((itab 181).drop 0).all (chk1 181) = true := all_cut _ _ 40 chk_181_0 (by rw [List.drop_drop]; exact h1)
  exact h0
theorem chk_182_0 : (((itab 182).drop 0).take 40).all (chk1 182) = true := by decide +kernel
theorem chk_182_1 : (((itab 182).drop 40).take 40).all (chk1 182) = true := by decide +kernel
theorem chk_182_2 : ((itab 182).drop 80).all (chk1 182) = true := by decide +kernel
theorem chk_182 : chkM 182 = true := by
  have h2 : ((itab 182).drop 80).all (chk1 182) = true := chk_182_2
  have h1 : ((itab 182).drop 40).all (chk1 182) = true := all_cut _ _ 40 chk_182_1 (by rw [List.drop_drop]; exact h2)
  have h0 : ((itab 182).drop 0).all (chk1 182) = true := all_cut _ _ 40 chk_182_0 (by rw [List.drop_drop]; exact h1)
  exact h0
theorem chk_183 : chkM 183 = true := by decide +kernel
theorem chk_184 : chkM 184 = true := by decide +kernel
theorem chk_185 : chkM 185 = true := by decide +kernel
theorem chk_186 : chkM 186 = true := by decide +kernel
theorem chk_187_0 : (((itab 187).drop 0).take 40).all (chk1 187) = true := by decide +kernel
theorem chk_187_1 : ((itab 187).drop 40).all (chk1 187) = true := by decide +kernel
theorem chk_187 : chkM 187 = true := by
  have h1 : ((itab 187).drop 40).all (chk1 187) = true := chk_187_1
  have h0 : ((itab 187).drop 0).all (chk1 187) = true := all_cut _ _ 40 chk_187_0 (by rw [List.drop_drop]; exact h1)
  exact h0
theorem chk_188 : chkM 188 = true := by decide +kernel
theorem chk_189 : chkM 189 = true := by decide +kernel
theorem chk_190 : chkM 190 = true := by decide +kernel
theorem chk_191 : chkM 191 = true := by decide +kernel
theorem chk_192 : chkM 192 = true := by decide +kernel
theorem chk_193 : chkM 193 = true := by decide +kernel
theorem chk_194 : chkM 194 = true := by decide +kernel
theorem chk_195_0 : (((itab 195).drop 0).take 40).all (chk1 195) = true := by decide +kernel
theorem chk_195_1 : ((itab 195).drop 40).all (chk1 195) = true := by decide +kernel
theorem chk_195 : chkM 195 = true := by
  have h1 : ((itab 195).drop 40).all (chk1 195) = true := chk_195_1
  have h0 : ((itab 195).drop 0).all (chk1 195) = true := all_cut _ _ 40 chk_195_0 (by rw [List.drop_drop]; exact h1)
  exact h0
theorem chk_196_0 : (((itab 196).drop 0).take 40).all (chk1 196) = true := by decide +kernel
theorem chk_196_1 : ((itab 196).drop 40).all (chk1 196) = true := by decide +kernel
theorem chk_196 : chkM 196 = true := by
  have h1 : ((itab 196).drop 40).all (chk1 196) = true := chk_196_1
  have h0 : ((itab 196).drop 0).all (chk1 196) = true := all_cut _ _ 40 chk_196_0 (by rw [List.drop_drop]; exact h1)
  exact h0
theorem chk_197 : chkM 197 = true := by decide +kernel
theorem chk_198 : chkM 198 = true := by decide +kernel
theorem chk_199 : chkM 199 = true := by decide +kernel
theorem chk_200 : chkM 200 = true := by decide +kernel
theorem chk_201 : chkM 201 = true := by decide +kernel
theorem chk_202_0 : (((itab 202).drop 0).take 40).all (chk1 202) = true := by decide +kernel
theorem chk_202_1 : (((itab 202).drop 40).take 40).all (chk1 202) = true := by decide +kernel
theorem chk_202_2 : (((itab 202).drop 80).take 40).all (chk1 202) = true := by decide +kernel
theorem chk_202_3 : ((itab 202).drop 120).all (chk1 202) = true := by decide +kernel
theorem chk_202 : chkM 202 = true := by
  have h3 : ((itab 202).drop 120).all (chk1 202) = true := chk_202_3
  have h2 : ((itab 202).drop 80).all (chk1 202) = true := all_cut _ _ 40 chk_202_2 (by rw [List.drop_drop]; exact h3)
  have h1 : ((itab 202).drop 40).all (chk1 202) = true := all_cut _ _ 40 chk_202_1 (by rw [List.drop_drop]; exact h2)
  have h0 : ((itab 202).drop 0).all (chk1 202) = true := all_cut _ _ 40 chk_202_0 (by rw [List.drop_drop]; exact h1)
  exact h0
theorem chk_203_0 : (((itab 203).drop 0).take 40).all (chk1 203) = true := by decide +kernel
theorem chk_203_1 : (((itab 203).drop 40).take 40).all (chk1 203) = true := by decide +kernel
theorem chk_203_2 : ((itab 203).drop 80).all (chk1 203) = true := by decide +kernel
theorem chk_203 : chkM 203 = true := by
  have h2 : ((itab 203).drop 80).all (chk1 203) = true := chk_203_2
  have h1 : ((itab 203).drop 40).all (chk1 203) = true := all_cut _ _ 40 chk_203_1 (by rw [List.drop_drop]; exact h2)
  have h0 : ((itab 203).drop 0).all (chk1 203) = true := all_cut _ _ 40 chk_203_0 (by rw [List.drop_drop]; exact h1)
  exact h0
theorem chk_204_0 : (((itab 204).drop 0).take 40).all (chk1 204) = true := by decide +kernel
theorem chk_204_1 : ((itab 204).drop 40).all (chk1 204) = true := by decide +kernel
theorem chk_204 : chkM 204 = true := by
  have h1 : ((itab 204).drop 40).all (chk1 204) = true := chk_204_1
  have h0 : ((itab 204).drop 0).all (chk1 204) = true := all_cut _ _ 40 chk_204_0 (by rw [List.drop_drop]; exact h1)
  exact h0
theorem chk_205_0 : (((itab 205).drop 0).take 40).all (chk1 205) = true := by decide +kernel
theorem chk_205_1 : (((itab 205).drop 40).take 40).all (chk1 205) = true := by decide +kernel
theorem chk_205_2 : (((itab 205).drop 80).take 40).all (chk1 205) = true := by decide +kernel
theorem chk_205_3 : ((itab 205).drop 120).all (chk1 205) = true := by decide +kernel
theorem chk_205 : chkM 205 = true := by
  have h3 : ((itab 205).drop 120).all (chk1 205) = true := chk_205_3
  have h2 : ((itab 205).drop 80).all (chk1 205) = true := all_cut _ _ 40 chk_205_2 (by rw [List.drop_drop]; exact h3)
  have h1 : ((itab 205).drop 40).all (chk1 205) = true := all_cut _ _ 40 chk_205_1 (by rw [List.drop_drop]; exact h2)
  have h0 : ((itab 205).drop 0).all (chk1 205) = true := all_cut _ _ 40 chk_205_0 (by rw [List.drop_drop]; exact h1)
  exact h0
theorem chk_206_0 : (((itab 206).drop 0).take 40).all (chk1 206) = true := by decide +kernel
theorem chk_206_1 : ((itab 206).drop 40).all (chk1 206) = true := by decide +kernel
theorem chk_206 : chkM 206 = true := by
  have h1 : ((itab 206).drop 40).all (chk1 206) = true := chk_206_1
  have h0 : ((itab 206).drop 0).all (chk1 206) = true := all_cut _ _ 40 chk_206_0 (by rw [List.drop_drop]; exact h1)
  exact h0
theorem chk_207 : chkM 207 = true := by decide +kernel
theorem chk_208 : chkM 208 = true := by decide +kernel
theorem chk_209_0 : (((itab 209).drop 0).take 40).all (chk1 209) = true := by decide +kernel
theorem chk_209_1 : ((itab 209).drop 40).all (chk1 209) = true := by decide +kernel
theorem chk_209 : chkM 209 = true := by
  have h1 : ((itab 209).drop 40).all (chk1 209) = true := chk_209_1
  have h0 : ((itab 209).drop 0).all (chk1 209) = true := all_cut _ _ 40 chk_209_0 (by rw [List.drop_drop]; exact h1)
  exact h0
theorem chk_210 : chkM 210 = true := by decide +kernel
theorem chk_211 : chkM 211 = true := by decide +kernel
theorem chk_212 : chkM 212 = true := by decide +kernel
theorem chk_213 : chkM 213 = true := by decide +kernel
theorem chk_214_0 : (((itab 214).drop 0).take 40).all (chk1 214) = true := by decide +kernel
theorem chk_214_1 : ((itab 214).drop 40).all (chk1 214) = true := by decide +kernel
theorem chk_214 : chkM 214 = true := by
  have h1 : ((itab 214).drop 40).all (chk1 214) = true := chk_214_1
  have h0 : ((itab 214).drop 0).all (chk1 214) = true := all_cut _ _ 40 chk_214_0 (by rw [List.drop_drop]; exact h1)
  exact h0
theorem chk_215 : chkM 215 = true := by decide +kernel
theorem chk_216 : chkM 216 = true := by decide +kernel
theorem chk_217 : chkM 217 = true := by decide +kernel
theorem chk_218_0 : (((itab 218).drop 0).take 40).all (chk1 218) = true := by decide +kernel
theorem chk_218_1 : ((itab 218).drop 40).all (chk1 218) = true := by decide +kernel
theorem chk_218 : chkM 218 = true := by
  have h1 : ((itab 218).drop 40).all (chk1 218) = true := chk_218_1
  have h0 : ((itab 218).drop 0).all (chk1 218) = true := all_cut _ _ 40 chk_218_0 (by rw [List.drop_drop]; exact h1)
  exact h0
