theorem chk_219_0 : (((itab 219).drop 0).take 40).all (chk1 219) = true := by decide +kernel
theorem chk_219_1 : ((itab 219).drop 40).all (chk1 219) = true := by decide +kernel
theorem chk_219 : chkM 219 = true := by
  have h1 : ((itab 219).drop 40).all (chk1 219) = true := chk_219_1
  have h0 : ((itab 219).drop 0).all (chk1 219) = true := all_cut _ _ 40 chk_219_0 (by rw [List.drop_drop]; exact h1)
  exact h0
theorem chk_220_0 : (((itab 220).drop 0).take 40).all (chk1 220) = true := by decide +kernel
theorem chk_220_1 : (((itab 220).drop 40).take 40).all (chk1 220) = true := by decide +kernel
theorem chk_220_2 : (((itab 220).drop 80).take 40).all (chk1 220) = true := by decide +kernel
theorem chk_220_3 : (((itab 220).drop 120).take 40).all (chk1 220) = true := by decide +kernel
theorem chk_220_4 : ((itab 220).drop 160).all (chk1 220) = true := by decide +kernel
theorem chk_220 : chkM 220 = true := by
  have h4 : ((itab 220).drop 160).all (chk1 220) = true := chk_220_4
  have h3 : ((itab 220).drop 120).all (chk1 220) = true := all_cut _ _ 40 chk_220_3 (by rw [List.drop_drop]; exact h4)
  have h2 : ((itab 220).drop 80).all (chk1 220) = true := all_cut _ _ 40 chk_220_2 (by rw [List.drop_drop]; exact h3)
  have h1 : ((itab 220).drop 40).all (chk1 220) = true := all_cut _ _ 40 chk_220_1 (by rw [List.drop_drop]; exact h2)
  have h0 : ((itab 220).drop 0).all (chk1 220) = true := all_cut _ _ 40 chk_220_0 (by rw [List.drop_drop]; exact h1)
  exact h0
theorem chk_221 : chkM 221 = true := by decide +kernel
theorem chk_222 : chkM 222 = true := by decide +kernel
theorem chk_223_0 : (((itab 223).drop 0).take 40).all (chk1 223) = true := by decide +kernel
theorem chk_223_1 : ((itab 223).drop 40).all (chk1 223) = true := by decide +kernel
theorem chk_223 : chkM 223 = true := by
  have h1 : ((itab 223).drop 40).all (chk1 223) = true := chk_223_1
  have h0 : ((itab 223).drop 0).all (chk1 223) = true := all_cut _ _ 40 chk_223_0 (by rw [List.drop_drop]; exact h1)
  exact h0
theorem chk_224 : chkM 224 = true := by decide +kernel
theorem chk_225 : chkM 225 = true := by decide +kernel
theorem chk_226 : chkM 226 = true := by decide +kernel
theorem chk_227_0 : (((itab 227).drop 0).take 40).all (chk1 227) = true := by decide +kernel
theorem chk_227_1 : ((itab 227).drop 40).all (chk1 227) = true := by decide +kernel
theorem chk_227 : chkM 227 = true := by
  have h1 : ((itab 227).drop 40).all (chk1 227) = true := chk_227_1
  have h0 : ((itab 227).drop 0).all (chk1 227) = true := all_cut _ _ 40 chk_227_0 (by rw [List.drop_drop]; exact h1)
  exact h0
theorem chk_228_0 : (((itab 228).drop 0).take 40).all (chk1 228) = true := by decide +kernel
theorem chk_228_1 : ((itab 228).drop 40).all (chk1 228) = true := by decide +kernel
theorem chk_228 : chkM 228 = true := by
  have h1 : ((itab 228).drop 40).all (chk1 228) = true := chk_228_1
  have h0 : ((itab 228).drop 0).all (chk1 228) = true := all_cut _ _ 40 chk_228_0 (by rw [List.drop_drop]; exact h1)
  exact h0
theorem chk_229_0 : (((itab 229).drop 0).take 40).all (chk1 229) = true := by decide +kernel
theorem chk_229_1 : (((itab 229).drop 40).take 40).all (chk1 229) = true := by decide +kernel
theorem chk_229_2 : ((itab 229).drop 80).all (chk1 229) = true := by decide +kernel
theorem chk_229 : chkM 229 = true := by
  have h2 : ((itab 229).drop 80).all (chk1 229) = true := chk_229_2
  have h1 : ((itab 229).drop 40).all (chk1 229) = true := all_cut _ _ 40 chk_229_1 (by rw [List.drop_drop]; exact h2)
  have h0 : ((itab 229).drop 0).all (chk1 229) = true := all_cut _ _ 40 chk_229_0 (by rw [List.drop_drop]; exact h1)
  exact h0
theorem chk_230 : chkM 230 = true := by decide +kernel
theorem chk_231 : chkM 231 = true := by decide +kernel
theorem chk_232_0 : (((itab 232).drop 0).take 40).all (chk1 232) = true := by decide +kernel
theorem chk_232_1 : ((itab 232).drop 40).all (chk1 232) = true := by decide +kernel
theorem chk_232 : chkM 232 = true := by
  have h1 : ((itab 232).drop 40).all (chk1 232) = true := chk_232_1
  have h0 : ((itab 232).drop 0).all (chk1 232) = true := all_cut _ _ 40 chk_232_0 (by rw [List.drop_drop]; exact h1)
  exact h0
theorem chk_233 : chkM 233 = true := by decide +kernel
theorem chk_234 : chkM 234 = true := by decide +kernel
theorem chk_235 : chkM 235 = true := by decide +kernel
theorem chk_236 : chkM 236 = true := by decide +kernel
theorem chk_237_0 : (((itab 237).drop 0).take 40).all (chk1 237) = true := by decide +kernel
theorem chk_237_1 : ((itab 237).drop 40).all (chk1 237) = true := by decide +kernel
theorem chk_237 : chkM 237 = true := by
  have h1 : ((itab 237).drop 40).all (chk1 237) = true := chk_237_1
  have h0 : ((itab 237).drop 0).all (chk1 237) = true := all_cut _ _ 40 chk_237_0 (by rw [List.drop_drop]; exact h1)
  exact h0
theorem chk_238 : chkM 238 = true := by decide +kernel
theorem chk_239 : chkM 239 = true := by decide +kernel
theorem chk_240_0 : (((itab 240).drop 0).take 40).all (chk1 240) = true := by decide +kernel
theorem chk_240_1 : (((itab 240).drop 40).take 40).all (chk1 240) = true := by decide +kernel
theorem chk_240_2 : ((itab 240).drop 80).all (chk1 240) = true := by decide +kernel
theorem chk_240 : chkM 240 = true := by
  have h2 : ((itab 240).drop 80).all (chk1 240) = true := chk_240_2
  have h1 : ((itab 240).drop 40).all (chk1 240) = true := all_cut _ _ 40 chk_240_1 (by rw [List.drop_drop]; exact h2)
  have h0 : ((itab 240).drop 0).all (chk1 240) = true := all_cut _ _ 40 chk_240_0 (by rw [List.drop_drop]; exact h1)
  exact h0
theorem chk_241_0 : (((itab 241).drop 0).take 40).all (chk1 241) = true := by decide +kernel
theorem chk_241_1 : (((itab 241).drop 40).take 40).all (chk1 241) = true := by decide +kernel
theorem chk_241_2 : (((itab 241).drop 80).take 40).all (chk1 241) = true := by decide +kernel
theorem chk_241_3 : (((itab 241).drop 120).take 40).all (chk1 241) = true := by decide +kernel
theorem chk_241_4 : (((itab 241).drop 160).take 40).all (chk1 241) = true := by decide +kernel
theorem chk_241_5 : (((itab 241).drop 200).take 40).all (chk1 241) = true := by decide +kernel
theorem chk_241_6 : (((itab 241).drop 240).take 40).all (chk1 241) = true := by decide +kernel
theorem chk_241_7 : (((itab 241).drop 280).take 40).all (chk1 241) = true := by decide +kernel
theorem chk_241_8 : (((itab 241).drop 320).take 40).all (chk1 241) = true := by decide +kernel
theorem chk_241_9 : (((itab 241).drop 360).take 40).all (chk1 241) = true := by decide +kernel
theorem chk_241_10 : (((itab 241).drop 400).take 40).all (chk1 241) = true := by decide +kernel
theorem chk_241_11 : (((itab 241).drop 440).take 40).all (chk1 241) = true := by decide +kernel
theorem chk_241_12 : (((itab 241).drop 480).take 40).all (chk1 241) = true := by decide +kernel
theorem chk_241_13 : (((itab 241).drop 520).take 40).all (chk1 241) = true := by decide +kernel
theorem chk_241_14 : (((itab 241).drop 560).take 40).all (chk1 241) = true := by decide +kernel
theorem chk_241_15 : (((itab 241).drop 600).take 40).all (chk1 241) = true := by decide +kernel
theorem chk_241_16 : (((itab 241).drop 640).take 40).all (chk1 241) = true := by decide +kernel
theorem chk_241_17 : ((itab 241).drop 680).all (chk1 241) = true := by decide +kernel
theorem chk_241 : chkM 241 = true := by
  have h17 : ((itab 241).drop 680).all (chk1 241) = true := chk_241_17
  have h16 : ((itab 241).drop 640).all (chk1 241) = true := all_cut _ _ 40 chk_241_16 (by rw [List.drop_drop]; exact h17)
  have h15 : ((itab 241).drop 600).all (chk1 241) = true := all_cut _ _ 40 chk_241_15 (by rw [List.drop_drop]; exact h16)
  have h14 : ((itab 241).drop 560).all (chk1 241) = true := all_cut _ _ 40 chk_241_14 (by rw [List.drop_drop]; exact h15)
  have h13 : ((itab 241).drop 520).all (chk1 241) = true := all_cut _ _ 40 chk_241_13 (by rw [List.drop_drop]; exact h14)
  have h12 : ((itab 241).drop 480).all (chk1 241) = true := all_cut _ _ 40 chk_241_12 (by rw [List.drop_drop]; exact h13)
  have h11 : ((itab 241).drop 440).all (chk1 241) = true := all_cut _ _ 40 chk_241_11 (by rw [List.drop_drop]; exact h12)
  have h10 : ((itab 241).drop 400).all (chk1 241) = true := all_cut _ _ 40 chk_241_10 (by rw [List.drop_drop]; exact h11)
  have h9 : ((itab 241).drop 360).all (chk1 241) = true := all_cut _ _ 40 chk_241_9 (by rw [List.drop_drop]; exact h10)
  have h8 : ((itab 241).drop 320).all (chk1 241) = true := all_cut _ _ 40 chk_241_8 (by rw [List.drop_drop]; exact h9)
  have h7 : ((itab 241).drop 280).all (chk1 241) = true := all_cut _ _ 40 chk_241_7 (by rw [List.drop_drop]; exact h8)
  have h6 : ((itab 241).drop 240).all (chk1 241) = true := all_cut _ _ 40 chk_241_6 (by rw [List.drop_drop]; exact h7)
  have h5 : ((itab 241).drop 200).all (chk1 241) = true := all_cut _ _ 40 chk_241_5 (by rw [List.drop_drop]; exact h6)
  have h4 : ((itab 241).drop 160).all (chk1 241) = true := all_cut _ _ 40 chk_241_4 (by rw [List.drop_drop]; exact h5)
  have h3 : ((itab 241).drop 120).all (chk1 241) = true := all_cut _ _ 40 chk_241_3 (by rw [List.drop_drop]; exact h4)
  have h2 : ((itab 241).drop 80).all (chk1 241) = true := all_cut _ _ 40 chk_241_2 (by rw [List.drop_drop]; exact h3)
  have h1 : ((itab 241).drop 40).all (chk1 241) = true := all_cut _ _ 40 chk_241_1 (by rw [List.drop_drop]; exact h2)
  have h0 : ((itab 241).drop 0).all (chk1 241) = true := all_cut _ _ 40 chk_241_0 (by rw [List.drop_drop]; exact h1)
  exact h0
