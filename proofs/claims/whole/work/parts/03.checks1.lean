theorem chk_0 : chkM 0 = true := by decide +kernel
theorem chk_1 : chkM 1 = true := by decide +kernel
theorem chk_2 : chkM 2 = true := by decide +kernel
theorem chk_3 : chkM 3 = true := by decide +kernel
theorem chk_4 : chkM 4 = true := by decide +kernel
theorem chk_5 : chkM 5 = true := by decide +kernel
theorem chk_6 : chkM 6 = true := by decide +kernel
theorem chk_7 : chkM 7 = true := by decide +kernel
theorem chk_8 : chkM 8 = true := by decide +kernel
theorem chk_9 : chkM 9 = true := by decide +kernel
theorem chk_10 : chkM 10 = true := by decide +kernel
theorem chk_11 : chkM 11 = true := by decide +kernel
theorem chk_12 : chkM 12 = true := by decide +kernel
theorem chk_13 : chkM 13 = true := by decide +kernel
theorem chk_14 : chkM 14 = true := by decide +kernel
theorem chk_15 : chkM 15 = true := by decide +kernel
theorem chk_16 : chkM 16 = true := by decide +kernel
theorem chk_17 : chkM 17 = true := by decide +kernel
theorem chk_18 : chkM 18 = true := by decide +kernel
theorem chk_19 : chkM 19 = true := by decide +kernel
theorem chk_20 : chkM 20 = true := by decide +kernel
theorem chk_21 : chkM 21 = true := by decide +kernel
theorem chk_22 : chkM 22 = true := by decide +kernel
theorem chk_23 : chkM 23 = true := by decide +kernel
theorem chk_24 : chkM 24 = true := by decide +kernel
theorem chk_25 : chkM 25 = true := by decide +kernel
theorem chk_26_0 : (((itab 26).drop 0).take 40).all (chk1 26) = true := by decide +kernel
theorem chk_26_1 : ((itab 26).drop 40).all (chk1 26) = true := by decide +kernel
theorem chk_26 : chkM 26 = true := by
  have h1 : ((itab 26).drop 40).all (chk1 26) = true := chk_26_1
  have h0 : ((itab 26).drop 0).all (chk1 26) = true := all_cut _ _ 40 chk_26_0 (by rw [List.drop_drop]; exact h1)
  exact h0
theorem chk_27 : chkM 27 = true := by decide +kernel
theorem chk_28 : chkM 28 = true := by decide +kernel
theorem chk_29_0 : (((itab 29).drop 0).take 40).all (chk1 29) = true := by decide +kernel
theorem chk_29_1 : (((itab 29).drop 40).take 40).all (chk1 29) = true := by decide +kernel
theorem chk_29_2 : ((itab 29).drop 80).all (chk1 29) = true := by decide +kernel
theorem chk_29 : chkM 29 = true := by
  have h2 : ((itab 29).drop 80).all (chk1 29) = true := chk_29_2
  have h1 : ((itab 29).drop 40).all (chk1 29) = true := all_cut _ _ 40 chk_29_1 (by rw [List.drop_drop]; exact h2)
  have h0 : ((itab 29).drop 0).all (chk1 29) = true := all_cut _ _ 40 chk_29_0 (by rw [List.drop_drop]; exact h1)
  exact h0
theorem chk_30 : chkM 30 = true := by decide +kernel
theorem chk_31 : chkM 31 = true := by decide +kernel
theorem chk_32_0 : (((itab 32).drop 0).take 40).all (chk1 32) = true := by decide +kernel
theorem chk_32_1 : ((itab 32).drop 40).all (chk1 32) = true := by decide +kernel
theorem chk_32 : chkM 32 = true := by
  have h1 : ((itab 32).drop 40).all (chk1 32) = true := chk_32_1
  have h0 : ((itab 32).drop 0).all (chk1 32) = true := all_cut _ _ 40 chk_32_0 (by rw [List.drop_drop]; exact h1)
  exact h0
theorem chk_33 : chkM 33 = true := by decide +kernel
theorem chk_34 : chkM 34 = true := by decide +kernel
theorem chk_35 : chkM 35 = true := by decide +kernel
theorem chk_36 : chkM 36 = true := by decide +kernel
theorem chk_37 : chkM 37 = true := by decide +kernel
theorem chk_38 : chkM 38 = true := by decide +kernel
theorem chk_39 : chkM 39 = true := by decide +kernel
theorem chk_40_0 : (((itab 40).drop 0).take 40).all (chk1 40) = true := by decide +kernel
theorem chk_40_1 : (((itab 40).drop 40).take 40).all (chk1 40) = true := by decide +kernel
theorem chk_40_2 : ((itab 40).drop 80).all (chk1 40) = true := by decide +kernel
theorem chk_40 : chkM 40 = true := by
  have h2 : ((itab 40).drop 80).all (chk1 40) = true := chk_40_2
  have h1 : ((itab 40).drop 40).all (chk1 40) = true := all_cut _ _ 40 chk_40_1 (by rw [List.drop_drop]; exact h2)
  have h0 : ((itab 40).drop 0).all (chk1 40) = true := all_cut _ _ 40 chk_40_0 (by rw [List.drop_drop]; exact h1)
  exact h0
theorem chk_41 : chkM 41 = true := by decide +kernel
theorem chk_42 : chkM 42 = true := by decide +kernel
theorem chk_43 : chkM 43 = true := by decide +kernel
theorem chk_44 : chkM 44 = true := by decide +kernel
theorem chk_45 : chkM 45 = true := by decide +kernel
theorem chk_46 : chkM 46 = true := by decide +kernel
theorem chk_47 : chkM 47 = true := by decide +kernel
theorem chk_48 : chkM 48 = true := by decide +kernel
theorem chk_49 : chkM 49 = true := by decide +kernel
theorem chk_50_0 : (((itab 50).drop 0).take 40).all (chk1 50) = true := by decide +kernel
theorem chk_50_1 : (((itab 50).drop 40).take 40).all (chk1 50) = true := by decide +kernel
theorem chk_50_2 : ((itab 50).drop 80).all (chk1 50) = true := by decide +kernel
theorem chk_50 : chkM 50 = true := by
  have h2 : ((itab 50).drop 80).all (chk1 50) = true := chk_50_2
  have h1 : ((itab 50).drop 40).all (chk1 50) = true := all_cut _ _ 40 chk_50_1 (by rw [List.drop_drop]; exact h2)
  have h0 : ((itab 50).drop 0).all (chk1 50) = true := all_cut _ _ 40 chk_50_0 (by rw [List.drop_drop]; exact h1)
  exact h0
theorem chk_51 : chkM 51 = true := by decide +kernel
theorem chk_52 : chkM 52 = true := by decide +kernel
theorem chk_53 : chkM 53 = true := by decide +kernel
theorem chk_54 : chkM 54 = true := by decide +kernel
theorem chk_55_0 : (((itab 55).drop 0).take 40).all (chk1 55) = true := by decide +kernel
theorem chk_55_1 : (((itab 55).drop 40).take 40).all (chk1 55) = true := by decide +kernel
theorem chk_55_2 : (((itab 55).drop 80).take 40).all (chk1 55) = true := by decide +kernel
theorem chk_55_3 : ((itab 55).drop 120).all (chk1 55) = true := by decide +kernel
theorem chk_55 : chkM 55 = true := by
  have h3 : ((itab 55).drop 120).all (chk1 55) = true := chk_55_3
  have h2 : ((itab 55).drop 80).all (chk1 55) = true := all_cut _ _ 40 chk_55_2 (by rw [List.drop_drop]; exact h3)
  have h1 : ((itab 55).drop 40).all (chk1 55) = true := all_cut _ _ 40 chk_55_1 (by rw [List.drop_drop]; exact h2)
  have h0 : ((itab 55).drop 0).all (chk1 55) = true := all_cut _ _ 40 chk_55_0 (by rw [List.drop_drop]; exact h1)
  exact h0
theorem chk_56 : chkM 56 = true := by decide +kernel
theorem chk_57 : chkM 57 = true := by decide +kernel
theorem chk_58 : chkM 58 = true := by decide +kernel
theorem chk_59 : chkM 59 = true := by decide +kernel
theorem chk_60 : chkM 60 = true := by decide +kernel
theorem chk_61 : chkM 61 = true := by decide +kernel
theorem chk_62_0 : (((itab 62).drop 0).take 40).all (chk1 62) = true := by decide +kernel
theorem chk_62_1 : (((itab 62).drop 40).take 40).all (chk1 62) = true := by decide +kernel
theorem chk_62_2 : ((itab 62).drop 80).all (chk1 62) = true := by decide +kernel
theorem chk_62 : chkM 62 = true := by
  have h2 : ((itab 62).drop 80).all (chk1 62) = true := chk_62_2
  have h1 : ((itab 62).drop 40).all (chk1 62) = true := all_cut _ _ 40 chk_62_1 (by rw [List.drop_drop]; exact h2)
  have h0 : ((itab 62).drop 0).all (chk1 62) = true := all_cut _ _ 40 chk_62_0 (by rw [List.drop_drop]; exact h1)
  exact h0
theorem chk_63_0 : (((itab 63).drop 0).take 40).all (chk1 63) = true := by decide +kernel
theorem chk_63_1 : ((itab 63).drop 40).all (chk1 63) = true := by decide +kernel
theorem chk_63 : chkM 63 = true := by
  have h1 : ((itab 63).drop 40).all (chk1 63) = true := chk_63_1
  have h0 : ((itab 63).drop 0).all (chk1 63) = true := all_cut _ _ 40 chk_63_0 (by rw [List.drop_drop]; exact h1)
  exact h0
theorem chk_64_0 : (((itab 64).drop 0).take 40).all (chk1 64) = true := by decide +kernel
theorem chk_64_1 : ((itab 64).drop 40).all (chk1 64) = true := by decide +kernel
theorem chk_64 : chkM 64 = true := by
  have h1 : ((itab 64).drop 40).all (chk1 64) = true := chk_64_1
  have h0 : ((itab 64).drop 0).all (chk1 64) = true := all_cut _ _ 40 chk_64_0 (by rw [List.drop_drop]; exact h1)
  exact h0
theorem chk_65 : chkM 65 = true := by decide +kernel
