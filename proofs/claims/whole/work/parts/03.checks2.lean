theorem chk_66 : chkM 66 = true := by decide +kernel
theorem chk_67 : chkM 67 = true := by decide +kernel
theorem chk_68 : chkM 68 = true := by decide +kernel
theorem chk_69 : chkM 69 = true := by decide +kernel
theorem chk_70 : chkM 70 = true := by decide +kernel
theorem chk_71 : chkM 71 = true := by decide +kernel
theorem chk_72_0 : (((itab 72).drop 0).take 40).all (chk1 72) = true := by decide +kernel
theorem chk_72_1 : (((itab 72).drop 40).take 40).all (chk1 72) = true := by decide +kernel
theorem chk_72_2 : ((itab 72).drop 80).all (chk1 72) = true := by decide +kernel
theorem chk_72 : chkM 72 = true := by
  have h2 : ((itab 72).drop 80).all (chk1 72) = true := chk_72_2
  have h1 : ((itab 72).drop 40).all (chk1 72) = true := all_cut _ _ 40 chk_72_1 (by rw [List.drop_drop]; exact h2)
  have h0 : ((itab 72).drop 0).all (chk1 72) = true := all_cut _ _ 40 chk_72_0 (by rw [List.drop_drop]; exact h1)
  exact h0
theorem chk_73_0 : (((itab 73).drop 0).take 40).all (chk1 73) = true := by decide +kernel
theorem chk_73_1 : ((itab 73).drop 40).all (chk1 73) = true := by decide +kernel
theorem chk_73 : chkM 73 = true := by
  have h1 : ((itab 73).drop 40).all (chk1 73) = true := chk_73_1
  have h0 : ((itab 73).drop 0).all (chk1 73) = true := all_cut _ _ 40 chk_73_0 (by rw [List.drop_drop]; exact h1)
  exact h0
theorem chk_74_0 : (((itab 74).drop 0).take 40).all (chk1 74) = true := by decide +kernel
theorem chk_74_1 : ((itab 74).drop 40).all (chk1 74) = true := by decide +kernel
theorem chk_74 : chkM 74 = true := by
  have h1 : ((itab 74).drop 40).all (chk1 74) = true := chk_74_1
  have h0 : ((itab 74).drop 0).all (chk1 74) = true := all_cut _ _ 40 chk_74_0 (by rw [List.drop_drop]; exact h1)
  exact h0
theorem chk_75_0 : (((itab 75).drop 0).take 40).all (chk1 75) = true := by decide +kernel
theorem chk_75_1 : (((itab 75).drop 40).take 40).all (chk1 75) = true := by decide +kernel
theorem chk_75_2 : ((itab 75).drop 80).all (chk1 75) = true := by decide +kernel
theorem chk_75 : chkM 75 = true := by
  have h2 : ((itab 75).drop 80).all (chk1 75) = true := chk_75_2
  have h1 : ((itab 75).drop 40).all (chk1 75) = true := all_cut _ _ 40 chk_75_1 (by rw [List.drop_drop]; exact h2)
  have h0 : ((itab 75).drop 0).all (chk1 75) = true := all_cut _ _ 40 chk_75_0 (by rw [List.drop_drop]; exact h1)
  exact h0
theorem chk_76_0 : (((itab 76).drop 0).take 40).all (chk1 76) = true := by decide +kernel
theorem chk_76_1 : ((itab 76).drop 40).all (chk1 76) = true := by decide +kernel
theorem chk_76 : chkM 76 = true := by
  have h1 : ((itab 76).drop 40).all (chk1 76) = true := chk_76_1
  have h0 : ((itab 76).drop 0).all (chk1 76) = true := all_cut _ _ 40 chk_76_0 (by rw [List.drop_drop]; exact h1)
  exact h0
theorem chk_77 : chkM 77 = true := by decide +kernel
theorem chk_78_0 : (((itab 78).drop 0).take 40).all (chk1 78) = true := by decide +kernel
theorem chk_78_1 : ((itab 78).drop 40).all (chk1 78) = true := by decide +kernel
theorem chk_78 : chkM 78 = true := by
  have h1 : ((itab 78).drop 40).all (chk1 78) = true := chk_78_1
  have h0 : ((itab 78).drop 0).all (chk1 78) = true := all_cut _ _ 40 chk_78_0 (by rw [List.drop_drop]; exact h1)
  exact h0
theorem chk_79_0 : (((itab 79).drop 0).take 40).all (chk1 79) = true := by decide +kernel
theorem chk_79_1 : (((itab 79).drop 40).take 40).all (chk1 79) = true := by decide +kernel
theorem chk_79_2 : ((itab 79).drop 80).all (chk1 79) = true := by decide +kernel
theorem chk_79 : chkM 79 = true := by
  have h2 : ((itab 79).drop 80).all (chk1 79) = true := chk_79_2
  have h1 : ((itab 79).drop 40).all (chk1 79) = true := all_cut _ _ 40 chk_79_1 (by rw [List.drop_drop]; exact h2)
  have h0 : ((itab 79).drop 0).all (chk1 79) = true := all_cut _ _ 40 chk_79_0 (by rw [List.drop_drop]; exact h1)
  exact h0
theorem chk_80_0 : (((itab 80).drop 0).take 40).all (chk1 80) = true := by decide +kernel
theorem chk_80_1 : ((itab 80).drop 40).all (chk1 80) = true := by decide +kernel
theorem chk_80 : chkM 80 = true := by
  have h1 : ((itab 80).drop 40).all (chk1 80) = true := chk_80_1
  have h0 : ((itab 80).drop 0).all (chk1 80) = true := all_cut _ _ 40 chk_80_0 (by rw [List.drop_drop]; exact h1)
  exact h0
theorem chk_81 : chkM 81 = true := by decide +kernel
theorem chk_82_0 : (((itab 82).drop 0).take 40).all (chk1 82) = true := by decide +kernel
theorem chk_82_1 : ((itab 82).drop 40).all (chk1 82) = true := by decide +kernel
theorem chk_82 : chkM 82 = true := by
  have h1 : ((itab 82).drop 40).all (chk1 82) = true := chk_82_1
  have h0 : ((itab 82).drop 0).all (chk1 82) = true := all_cut _ _ 40 chk_82_0 (by rw [List.drop_drop]; exact h1)
  exact h0
theorem chk_83 : chkM 83 = true := by decide +kernel
theorem chk_84 : chkM 84 = true := by decide +kernel
theorem chk_85 : chkM 85 = true := by decide +kernel
theorem chk_86 : chkM 86 = true := by decide +kernel
theorem chk_87 : chkM 87 = true := by decide +kernel
theorem chk_88 : chkM 88 = true := by decide +kernel
theorem chk_89 : chkM 89 = true := by decide +kernel
theorem chk_90 : chkM 90 = true := by decide +kernel
theorem chk_91 : chkM 91 = true := by decide +kernel
theorem chk_92 : chkM 92 = true := by decide +kernel
theorem chk_93 : chkM 93 = true := by decide +kernel
theorem chk_94 : chkM 94 = true := by decide +kernel
theorem chk_95_0 : (((itab 95).drop 0).take 40).all (chk1 95) = true := by decide +kernel
theorem chk_95_1 : ((itab 95).drop 40).all (chk1 95) = true := by decide +kernel
theorem chk_95 : chkM 95 = true := by
  have h1 : ((itab 95).drop 40).all (chk1 95) = true := chk_95_1
  have h0 : ((itab 95).drop 0).all (chk1 95) = true := all_cut _ _ 40 chk_95_0 (by rw [List.drop_drop]; exact h1)
  exact h0
theorem chk_96_0 : (((itab 96).drop 0).take 40).all (chk1 96) = true := by decide +kernel
theorem chk_96_1 : ((itab 96).drop 40).all (chk1 96) = true := by decide +kernel
theorem chk_96 : chkM 96 = true := by
  have h1 : ((itab 96).drop 40).all (chk1 96) = true := chk_96_1
  have h0 : ((itab 96).drop 0).all (chk1 96) = true := all_cut _ _ 40 chk_96_0 (by rw [List.drop_drop]; exact h1)
  exact h0
theorem chk_97_0 : (((itab 97).drop 0).take 40).all (chk1 97) = true := by decide +kernel
theorem chk_97_1 : ((itab 97).drop 40).all (chk1 97) = true := by decide +kernel
theorem chk_97 : chkM 97 = true := by
  have h1 : ((itab 97).drop 40).all (chk1 97) = true := chk_97_1
  have h0 : ((itab 97).drop 0).all (chk1 97) = true := all_cut _ _ 40 chk_97_0 (by rw [List.drop_drop]; exact h1)
  exact h0
theorem chk_98 : chkM 98 = true := by decide +kernel
theorem chk_99 : chkM 99 = true := by decide +kernel
theorem chk_100 : chkM 100 = true := by decide +kernel
theorem chk_101 : chkM 101 = true := by decide +kernel
theorem chk_102_0 : (((itab 102).drop 0).take 40).all (chk1 102) = true := by decide +kernel
theorem chk_102_1 : ((itab 102).drop 40).all (chk1 102) = true := by decide +kernel
theorem chk_102 : chkM 102 = true := by
  have h1 : ((itab 102).drop 40).all (chk1 102) = true := chk_102_1
  have h0 : ((itab 102).drop 0).all (chk1 102) = true := all_cut _ _ 40 chk_102_0 (by rw [List.drop_drop]; exact h1)
  exact h0
theorem chk_103 : chkM 103 = true := by decide +kernel
theorem chk_104 : chkM 104 = true := by decide +kernel
theorem chk_105 : chkM 105 = true := by decide +kernel
theorem chk_106 : chkM 106 = true := by decide +kernel
theorem chk_107 : chkM 107 = true := by decide +kernel
theorem chk_108 : chkM 108 = true := by decide +kernel
theorem chk_109 : chkM 109 = true := by decide +kernel
theorem chk_110 : chkM 110 = true := by decide +kernel
theorem chk_111 : chkM 111 = true := by decide +kernel
theorem chk_112 : chkM 112 = true := by decide +kernel
theorem chk_113 : chkM 113 = true := by decide +kernel
theorem chk_114 : chkM 114 = true := by decide +kernel
theorem chk_115 : chkM 115 = true := by decide +kernel
theorem chk_116 : chkM 116 = true := by decide +kernel
theorem chk_117 : chkM 117 = true := by decide +kernel
theorem chk_118 : chkM 118 = true := by decide +kernel
theorem chk_119 : chkM 119 = true := by decide +kernel
theorem chk_120 : chkM 120 = true := by decide +kernel
theorem chk_121_0 : (((itab 121).drop 0).take 40).all (chk1 121) = true := by decide +kernel
theorem chk_121_1 : ((itab 121).drop 40).all (chk1 121) = true := by decide +kernel
theorem chk_121 : chkM 121 = true := by
  have h1 : ((itab 121).drop 40).all (chk1 121) = true := chk_121_1
  have h0 : ((itab 121).drop 0).all (chk1 121) = true := all_cut _ _ 40 chk_121_0 (by rw [List.drop_drop]; exact h1)
  exact h0
theorem chk_122 : chkM 122 = true := by decide +kernel
theorem chk_123 : chkM 123 = true := by decide +kernel
theorem chk_124 : chkM 124 = true := by decide +kernel
