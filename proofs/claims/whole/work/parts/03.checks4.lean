theorem chk_172_1 : (((itab 172).drop 40).take 40).all (chk1 172) = true := by decide +kernel
theorem chk_172_2 : ((itab 172).drop 80).all (chk1 172) = true := by decide +kernel
theorem chk_172 : chkM 172 = true := by
  have h2 : ((itab 172).drop 80).all (chk1 172) = true := chk_172_2
  have h1 : ((itab 172).drop 40).all (chk1 172) = true := all_cut _ _ 40 chk_172_1 (by rw [List.drop_drop]; exact h2)
  have h0 : ((itab 172).drop 0).all (chk1 172) = true := all_cut _ _ 40 chk_172_0 (by rw [List.drop_drop]; exact h1)
  exact h0
theorem chk_173 : chkM 173 = true := by decide +kernel
theorem chk_174_0 : (((itab 174).drop 0).take 40).all (chk1 174) = true := by decide +kernel
theorem chk_174_1 : (((itab 174).drop 40).take 40).all (chk1 174) = true := by decide +kernel
theorem chk_174_2 : ((itab 174).drop 80).all (chk1 174) = true := by decide +kernel
theorem chk_174 : chkM 174 = true := by
  have h2 : ((itab 174).drop 80).all (chk1 174) = true := chk_174_2
  have h1 : ((itab 174).drop 40).all (chk1 174) = true := all_cut _ _ 40 chk_174_1 (by rw [List.drop_drop]; exact h2)
  have h0 : ((itab 174).drop 0).all (chk1 174) = true := all_cut _ _ 40 chk_174_0 (by rw [List.drop_drop]; exact h1)
  exact h0
theorem chk_175 : chkM 175 = true := by decide +kernel
theorem chk_176 : chkM 176 = true := by decide +kernel
theorem chk_177_0 : (((itab 177).drop 0).take 40).all (chk1 177) = true := by decide +kernel
theorem chk_177_1 : ((itab 177).drop 40).all (chk1 177) = true := by decide +kernel
theorem chk_177 : chkM 177 = true := by
  have h1 : ((itab 177).drop 40).all (chk1 177) = true := chk_177_1
  have h0 : ((itab 177).drop 0).all (chk1 177) = true := all_cut _ _ 40 chk_177_0 (by rw [List.drop_drop]; exact h1)
  exact h0
theorem chk_178_0 : (((itab 178).drop 0).take 40).all (chk1 178) = true := by decide +kernel
theorem chk_178_1 : (((itab 178).drop 40).take 40).all (chk1 178) = true := by decide +kernel
theorem chk_178_2 : (((itab 178).drop 80).take 40).all (chk1 178) = true := by decide +kernel
theorem chk_178_3 : ((itab 178).drop 120).all (chk1 178) = true := by decide +kernel
theorem chk_178 : chkM 178 = true := by
  have h3 : ((itab 178).drop 120).all (chk1 178) = true := chk_178_3
  have h2 : ((itab 178).drop 80).all (chk1 178) = true := all_cut _ _ 40 chk_178_2 (by rw [List.drop_drop]; exact h3)
  have h1 : ((itab 178).drop 40).all (chk1 178) = true := all_cut _ _ 40 chk_178_1 (by rw [List.drop_drop]; exact h2)
  have h0 : ((itab 178).drop 0).all (chk1 178) = true := all_cut _ _ 40 chk_178_0 (by rw [List.drop_drop]; exact h1)
  exact h0
theorem chk_179_0 : (((itab 179).drop 0).take 40).all (chk1 179) = true := by decide +kernel
theorem chk_179_1 : ((itab 179).drop 40).all (chk1 179) = true := by decide +kernel
theorem chk_179 : chkM 179 = true := by
  have h1 : ((itab 179).drop 40).all (chk1 179) = true := chk_179_1
  have h0 : ((itab 179).drop 0).all (chk1 179) = true := all_cut _ _ 40 chk_179_0 (by rw [List.drop_drop]; exact h1)
  exact h0
theorem chk_180_0 : (((itab 180).drop 0).take 40).all (chk1 180) = true := by decide +kernel
theorem chk_180_1 : (((itab 180).drop 40).take 40).all (chk1 180) = true := by decide +kernel
theorem chk_180_2 : ((itab 180).drop 80).all (chk1 180) = true := by decide +kernel
theorem chk_180 : chkM 180 = true := by
  have h2 : ((itab 180).drop 80).all (chk1 180) = true := chk_180_2
  have h1 : ((itab 180).drop 40).all (chk1 180) = true := all_cut _ _ 40 chk_180_1 (by rw [List.drop_drop]; exact h2)
  have h0 : ((itab 180).drop 0).all (chk1 180) = true := all_cut _ _ 40 chk_180_0 (by rw [List.drop_drop]; exact h1)
  exact h0
theorem chk_181 : chkM 181 = true := by decide +kernel
theorem chk_182 : chkM 182 = true := by decide +kernel
theorem chk_183 : chkM 183 = true := by decide +kernel
theorem chk_184 : chkM 184 = true := by decide +kernel
theorem chk_185_0 : (((itab 185).drop 0).take 40).all (chk1 185) = true := by decide +kernel
theorem chk_185_1 : ((itab 185).drop 40).all (chk1 185) = true := by decide +kernel
theorem chk_185 : chkM 185 = true := by
  have h1 : ((itab 185).drop 40).all (chk1 185) = true := chk_185_1
  have h0 : ((itab 185).drop 0).all (chk1 185) = true := all_cut _ _ 40 chk_185_0 (by rw [List.drop_drop]; exact h1)
  exact h0
theorem chk_186 : chkM 186 = true := by decide +kernel
theorem chk_187 : chkM 187 = true := by decide +kernel
theorem chk_188 : chkM 188 = true := by decide +kernel
theorem chk_189 : chkM 189 = true := by decide +kernel
theorem chk_190 : chkM 190 = true := by decide +kernel
theorem chk_191 : chkM 191 = true := by decide +kernel
theorem chk_192 : chkM 192 = true := by decide +kernel
theorem chk_193_0 : (((itab 193).drop 0).take 40).all (chk1 193) = true := by decide +kernel
theorem chk_193_1 : ((itab 193).drop 40).all (chk1 193) = true := by decide +kernel
theorem chk_193 : chkM 193 = true := by
  have h1 : ((itab 193).drop 40).all (chk1 193) = true := chk_193_1
  have h0 : ((itab 193).drop 0).all (chk1 193) = true := all_cut _ _ 40 chk_193_0 (by rw [List.drop_drop]; exact h1)
  exact h0
theorem chk_194_0 : (((itab 194).drop 0).take 40).all (chk1 194) = true := by decide +kernel
theorem chk_194_1 : ((itab 194).drop 40).all (chk1 194) = true := by decide +kernel
theorem chk_194 : chkM 194 = true := by
  have h1 : ((itab 194).drop 40).all (chk1 194) = true := chk_194_1
  have h0 : ((itab 194).drop 0).all (chk1 194) = true := all_cut _ _ 40 chk_194_0 (by rw [List.drop_drop]; exact h1)
  exact h0
theorem chk_195 : chkM 195 = true := by decide +kernel
theorem chk_196 : chkM 196 = true := by decide +kernel
theorem chk_197 : chkM 197 = true := by decide +kernel
theorem chk_198 : chkM 198 = true := by decide +kernel
theorem chk_199 : chkM 199 = true := by decide +kernel
theorem chk_200_0 : (((itab 200).drop 0).take 40).all (chk1 200) = true := by decide +kernel
theorem chk_200_1 : (((itab 200).drop 40).take 40).all (chk1 200) = true := by decide +kernel
theorem chk_200_2 : (((itab 200).drop 80).take 40).all (chk1 200) = true := by decide +kernel
theorem chk_200_3 : ((itab 200).drop 120).all (chk1 200) = true := by decide +kernel
theorem chk_200 : chkM 200 = true := by
  have h3 : ((itab 200).drop 120).all (chk1 200) = true := chk_200_3
  have h2 : ((itab 200).drop 80).all (chk1 200) = true := all_cut _ _ 40 chk_200_2 (by rw [List.drop_drop]; exact h3)
  have h1 : ((itab 200).drop 40).all (chk1 200) = true := all_cut _ _ 40 chk_200_1 (by rw [List.drop_drop]; exact h2)
  have h0 : ((itab 200).drop 0).all (chk1 200) = true := all_cut _ _ 40 chk_200_0 (by rw [List.drop_drop]; exact h1)
  exact h0
theorem chk_201_0 : (((itab 201).drop 0).take 40).all (chk1 201) = true := by decide +kernel
theorem chk_201_1 : (((itab 201).drop 40).take 40).all (chk1 201) = true := by decide +kernel
theorem chk_201_2 : ((itab 201).drop 80).all (chk1 201) = true := by decide +kernel
theorem chk_201 : chkM 201 = true := by
  have h2 : ((itab 201).drop 80).all (chk1 201) = true := chk_201_2
  have h1 : ((itab 201).drop 40).all (chk1 201) = true := all_cut _ _ 40 chk_201_1 (by rw [List.drop_drop]; exact h2)
  have h0 : ((itab 201).drop 0).all (chk1 201) = true := all_cut _ _ 40 chk_201_0 (by rw [List.drop_drop]; exact h1)
  exact h0
theorem chk_202_0 : (((itab 202).drop 0).take 40).all (chk1 202) = true := by decide +kernel
theorem chk_202_1 : ((itab 202).drop 40).all (chk1 202) = true := by decide +kernel
theorem chk_202 : chkM 202 = true := by
  have h1 : ((itab 202).drop 40).all (chk1 202) = true := chk_202_1
  have h0 : ((itab 202).drop 0).all (chk1 202) = true := all_cut _ _ 40 chk_202_0 (by rw [List.drop_drop]; exact h1)
  exact h0
theorem chk_203_0 : (((itab 203).drop 0).take 40).all (chk1 203) = true := by decide +kernel
theorem chk_203_1 : (((itab 203).drop 40).take 40).all (chk1 203) = true := by decide +kernel
theorem chk_203_2 : (((itab 203).drop 80).take 40).all (chk1 203) = true := by decide +kernel
theorem chk_203_3 : ((itab 203).drop 120).all (chk1 203) = true := by decide +kernel
theorem chk_203 : chkM 203 = true := by
  have h3 : ((itab 203).drop 120).all (chk1 203) = true := chk_203_3
  have h2 : ((itab 203).drop 80).all (chk1 203) = true := all_cut _ _ 40 chk_203_2 (by rw [List.drop_drop]; exact h3)
  have h1 : ((itab 203).drop 40).all (chk1 203) = true := all_cut _ _ 40 chk_203_1 (by rw [List.drop_drop]; exact h2)
  have h0 : ((itab 203).drop 0).all (chk1 203) = true := all_cut _ _ 40 chk_203_0 (by rw [List.drop_drop]; exact h1)
  exact h0
theorem chk_204_0 : (((itab 204).drop 0).take 40).all (chk1 204) = true := by decide +kernel
theorem chk_204_1 : ((itab 204).drop 40).all (chk1 204) = true := by decide +kernel
theorem chk_204 : chkM 204 = true := by
  have h1 : ((itab 204).drop 40).all (chk1 204) = true := chk_204_1
  have h0 : ((itab 204).drop 0).all (chk1 204) = true := all_cut _ _ 40 chk_204_0 (by rw [List.drop_drop]; exact h1)
  exact h0
theorem chk_205 : chkM 205 = true := by decide +kernel
theorem chk_206 : chkM 206 = true := by decide +kernel
theorem chk_207_0 : (((itab 207).drop 0).take 40).all (chk1 207) = true := by decide +kernel
theorem chk_207_1 : ((itab 207).drop 40).all (chk1 207) = true := by decide +kernel
theorem chk_207 : chkM 207 = true := by
  have h1 : ((itab 207).drop 40).all (chk1 207) = true := chk_207_1
  have h0 : ((itab 207).drop 0).all (chk1 207) = true := all_cut _ _ 40 chk_207_0 (by rw [List.drop_drop]; exact h1)
  exact h0
theorem chk_208 : chkM 208 = true := by decide +kernel
theorem chk_209 : chkM 209 = true := by decide +kernel
theorem chk_210 : chkM 210 = true := by decide +kernel
theorem chk_211 : chkM 211 = true := by decide +kernel
theorem chk_212_0 : (((itab 212).drop 0).take 40).all (chk1 212) = true := by decide +kernel
theorem chk_212_1 : ((itab 212).drop 40).all (chk1 212) = true := by decide +kernel
theorem chk_212 : chkM 212 = true := by
  have h1 : ((itab 212).drop 40).all (chk1 212) = true := chk_212_1
  have h0 : ((itab 212).drop 0).all (chk1 212) = true := all_cut _ _ 40 chk_212_0 (by rw [List.drop_drop]; exact h1)
  exact h0
theorem chk_213 : chkM 213 = true := by decide +kernel
theorem chk_214 : chkM 214 = true := by decide +kernel
theorem chk_215 : chkM 215 = true := by decide +kernel
theorem chk_216_0 : (((itab 216).drop 0).take 40).all (chk1 216) = true := by decide +kernel
theorem chk_216_1 : ((itab 216).drop 40).all (chk1 216) = true := by decide +kernel
theorem chk_216 : chkM 216 = true := by
  have h1 : ((itab 216).drop 40).all (chk1 216) = true := chk_216_1
  have h0 : ((itab 216).drop 0).all (chk1 216) = true := all_cut _ _ 40 chk_216_0 (by rw [List.drop_drop]; exact h1)
  exact h0
theorem chk_217_0 : (((itab 217).drop 0).take 40).all (chk1 217) = true := by decide +kernel
theorem chk_217_1 : ((itab 217).drop 40).all (chk1 217) = true := by decide +kernel
