theorem chk_217 : chkM 217 = true := by
  have h1 : ((itab 217).drop 40).all (chk1 217) = true := chk_217_1
  have h0 : ((itab 217).drop 0).all (chk1 217) = true := all_cut _ _ 40 chk_217_0 (by rw [List.drop_drop]; exact h1)
  exact h0
theorem chk_218_0 : (((itab 218).drop 0).take 40).all (chk1 218) = true := by decide +kernel
theorem chk_218_1 : (((itab 218).drop 40).take 40).all (chk1 218) = true := by decide +kernel
theorem chk_218_2 : (((itab 218).drop 80).take 40).all (chk1 218) = true := by decide +kernel
theorem chk_218_3 : (((itab 218).drop 120).take 40).all (chk1 218) = true := by decide +kernel
theorem chk_218_4 : ((itab 218).drop 160).all (chk1 218) = true := by decide +kernel
theorem chk_218 : chkM 218 = true := by
  have h4 : ((itab 218).drop 160).all (chk1 218) = true := chk_218_4
  have h3 : ((itab 218).drop 120).all (chk1 218) = true := all_cut _ _ 40 chk_218_3 (by rw [List.drop_drop]; exact h4)
  have h2 : ((itab 218).drop 80).all (chk1 218) = true := all_cut _ _ 40 chk_218_2 (by rw [List.drop_drop]; exact h3)
  have h1 : ((itab 218).drop 40).all (chk1 218) = true := all_cut _ _ 40 chk_218_1 (by rw [List.drop_drop]; exact h2)
  have h0 : ((itab 218).drop 0).all (chk1 218) = true := all_cut _ _ 40 chk_218_0 (by rw [List.drop_drop]; exact h1)
  exact h0
theorem chk_219 : chkM 219 = true := by decide +kernel
theorem chk_220 : chkM 220 = true := by decide +kernel
theorem chk_221_0 : (((itab 221).drop 0).take 40).all (chk1 221) = true := by decide +kernel
theorem chk_221_1 : ((itab 221).drop 40).all (chk1 221) = true := by decide +kernel
theorem chk_221 : chkM 221 = true := by
  have h1 : ((itab 221).drop 40).all (chk1 221) = true := chk_221_1
  have h0 : ((itab 221).drop 0).all (chk1 221) = true := all_cut _ _ 40 chk_221_0 (by rw [List.drop_drop]; exact h1)
  exact h0
theorem chk_222 : chkM 222 = true := by decide +kernel
theorem chk_223 : chkM 223 = true := by decide +kernel
theorem chk_224 : chkM 224 = true := by decide +kernel
theorem chk_225_0 : (((itab 225).drop 0).take 40).all (chk1 225) = true := by decide +kernel
theorem chk_225_1 : ((itab 225).drop 40).all (chk1 225) = true := by decide +kernel
theorem chk_225 : chkM 225 = true := by
  have h1 : ((itab 225).drop 40).all (chk1 225) = true := chk_225_1
  have h0 : ((itab 225).drop 0).all (chk1 225) = true := all_cut _ _ 40 chk_225_0 (by rw [List.drop_drop]; exact h1)
  exact h0
theorem chk_226_0 : (((itab 226).drop 0).take 40).all (chk1 226) = true := by decide +kernel
theorem chk_226_1 : ((itab 226).drop 40).all (chk1 226) = true := by decide +kernel
theorem chk_226 : chkM 226 = true := by
  have h1 : ((itab 226).drop 40).all (chk1 226) = true := chk_226_1
  have h0 : ((itab 226).drop 0).all (chk1 226) = true := all_cut _ _ 40 chk_226_0 (by rw [List.drop_drop]; exact h1)
  exact h0
theorem chk_227_0 : (((itab 227).drop 0).take 40).all (chk1 227) = true := by decide +kernel
theorem chk_227_1 : (((itab 227).drop 40).take 40).all (chk1 227) = true := by decide +kernel
theorem chk_227_2 : ((itab 227).drop 80).all (chk1 227) = true := by decide +kernel
theorem chk_227 : chkM 227 = true := by
  have h2 : ((itab 227).drop 80).all (chk1 227) = true := chk_227_2
  have h1 : ((itab 227).drop 40).all (chk1 227) = true := all_cut _ _ 40 chk_227_1 (by rw [List.drop_drop]; exact h2)
  have h0 : ((itab 227).drop 0).all (chk1 227) = true := all_cut _ _ 40 chk_227_0 (by rw [List.drop_drop]; exact h1)
  exact h0
theorem chk_228 : chkM 228 = true := by decide +kernel
theorem chk_229 : chkM 229 = true := by decide +kernel
theorem chk_230_0 : (((itab 230).drop 0).take 40).all (chk1 230) = true := by decide +kernel
theorem chk_230_1 : ((itab 230).drop 40).all (chk1 230) = true := by decide +kernel
theorem chk_230 : chkM 230 = true := by
  have h1 : ((itab 230).drop 40).all (chk1 230) = true := chk_230_1
  have h0 : ((itab 230).drop 0).all (chk1 230) = true := all_cut _ _ 40 chk_230_0 (by rw [List.drop_drop]; exact h1)
  exact h0
theorem chk_231 : chkM 231 = true := by decide +kernel
theorem chk_232 : chkM 232 = true := by decide +kernel
theorem chk_233 : chkM 233 = true := by decide +kernel
theorem chk_234 : chkM 234 = true := by decide +kernel
theorem chk_235_0 : (((itab 235).drop 0).take 40).all (chk1 235) = true := by decide +kernel
theorem chk_235_1 : ((itab 235).drop 40).all (chk1 235) = true := by decide +kernel
theorem chk_235 : chkM 235 = true := by
  have h1 : ((itab 235).drop 40).all (chk1 235) = true := chk_235_1
  have h0 : ((itab 235).drop 0).all (chk1 235) = true := all_cut _ _ 40 chk_235_0 (by rw [List.drop_drop]; exact h1)
  exact h0
theorem chk_236 : chkM 236 = true := by decide +kernel
theorem chk_237 : chkM 237 = true := by decide +kernel
theorem chk_238_0 : (((itab 238).drop 0).take 40).all (chk1 238) = true := by decide +kernel
theorem chk_238_1 : (((itab 238).drop 40).take 40).all (chk1 238) = true := by decide +kernel
theorem chk_238_2 : ((itab 238).drop 80).all (chk1 238) = true := by decide +kernel
theorem chk_238 : chkM 238 = true := by
  have h2 : ((itab 238).drop 80).all (chk1 238) = true := chk_238_2
  have h1 : ((itab 238).drop 40).all (chk1 238) = true := all_cut _ _ 40 chk_238_1 (by rw [List.drop_drop]; exact h2)
  have h0 : ((itab 238).drop 0).all (chk1 238) = true := all_cut _ _ 40 chk_238_0 (by rw [List.drop_drop]; exact h1)
  exact h0
theorem chk_239_0 : (((itab 239).drop 0).take 40).all (chk1 239) = true := by decide +kernel
theorem chk_239_1 : (((itab 239).drop 40).take 40).all (chk1 239) = true := by decide +kernel
theorem chk_239_2 : (((itab 239).drop 80).take 40).all (chk1 239) = true := by decide +kernel
theorem chk_239_3 : (((itab 239).drop 120).take 40).all (chk1 239) = true := by decide +kernel
theorem chk_239_4 : (((itab 239).drop 160).take 40).all (chk1 239) = true := by decide +kernel
theorem chk_239_5 : (((itab 239).drop 200).take 40).all (chk1 239) = true := by decide +kernel
theorem chk_239_6 : (((itab 239).drop 240).take 40).all (chk1 239) = true := by decide +kernel
theorem chk_239_7 : (((itab 239).drop 280).take 40).all (chk1 239) = true := by decide +kernel
theorem chk_239_8 : (((itab 239).drop 320).take 40).all (chk1 239) = true := by decide +kernel
theorem chk_239_9 : (((itab 239).drop 360).take 40).all (chk1 239) = true := by decide +kernel
theorem chk_239_10 : (((itab 239).drop 400).take 40).all (chk1 239) = true := by decide +kernel
theorem chk_239_11 : (((itab 239).drop 440).take 40).all (chk1 239) = true := by decide +kernel
theorem chk_239_12 : (((itab 239).drop 480).take 40).all (chk1 239) = true := by decide +kernel
theorem chk_239_13 : (((itab 239).drop 520).take 40).all (chk1 239) = true := by decide +kernel
theorem chk_239_14 : (((itab 239).drop 560).take 40).all (chk1 239) = true := by decide +kernel
theorem chk_239_15 : (((itab 239).drop 600).take 40).all (chk1 239) = true := by decide +kernel
theorem chk_239_16 : (((itab 239).drop 640).take 40).all (chk1 239) = true := by decide +kernel
theorem chk_239_17 : ((itab 239).drop 680).all (chk1 239) = true := by decide +kernel
theorem chk_239 : chkM 239 = true := by
  have h17 : ((itab 239).drop 680).all (chk1 239) = true := chk_239_17
  have h16 : ((itab 239).drop 640).all (chk1 239) = true := all_cut _ _ 40 chk_239_16 (by rw [List.drop_drop]; exact h17)
  have h15 : ((itab 239).drop 600).all (chk1 239) = true := all_cut _ _ 40 chk_239_15 (by rw [List.drop_drop]; exact h16)
  have h14 : ((itab 239).drop 560).all (chk1 239) = true := all_cut _ _ 40 chk_239_14 (by rw [List.drop_drop]; exact h15)
  have h13 : ((itab 239).drop 520).all (chk1 239) = true := all_cut _ _ 40 chk_239_13 (by rw [List.drop_drop]; exact h14)
  have h12 : ((itab 239).drop 480).all (chk1 239) = true := all_cut _ _ 40 chk_239_12 (by rw [List.drop_drop]; exact h13)
  have h11 : ((itab 239).drop 440).all (chk1 239) = true := all_cut _ _ 40 chk_239_11 (by rw [List.drop_drop]; exact h12)
  have h10 : ((itab 239).drop 400).all (chk1 239) = true := all_cut _ _ 40 chk_239_10 (by rw [List.drop_drop]; exact h11)
  have h9 : ((itab 239).drop 360).all (chk1 239) = true := all_cut _ _ 40 chk_239_9 (by rw [List.drop_drop]; exact h10)
  have h8 : ((itab 239).drop 320).all (chk1 239) = true := all_cut _ _ 40 chk_239_8 (by rw [List.drop_drop]; exact h9)
  have h7 : ((itab 239).drop 280).all (chk1 239) = true := all_cut _ _ 40 chk_239_7 (by rw [List.drop_drop]; exact h8)
  have h6 : ((itab 239).drop 240).all (chk1 239) = true := all_cut _ _ 40 chk_239_6 (by rw [List.drop_drop]; exact h7)
  have h5 : ((itab 239).drop 200).all (chk1 239) = true := all_cut _ _ 40 chk_239_5 (by rw [List.drop_drop]; exact h6)
  have h4 : ((itab 239).drop 160).all (chk1 239) = true := all_cut _ _ 40 chk_239_4 (by rw [List.drop_drop]; exact h5)
  have h3 : ((itab 239).drop 120).all (chk1 239) = true := all_cut _ _ 40 chk_239_3 (by rw [List.drop_drop]; exact h4)
  have h2 : ((itab 239).drop 80).all (chk1 239) = true := all_cut _ _ 40 chk_239_2 (by rw [List.drop_drop]; exact h3)
  have h1 : ((itab 239).drop 40).all (chk1 239) = true := all_cut _ _ 40 chk_239_1 (by rw [List.drop_drop]; exact h2)
  have h0 : ((itab 239).drop 0).all (chk1 239) = true := all_cut _ _ 40 chk_239_0 (by rw [List.drop_drop]; exact h1)
  exact h0
