theorem chk_125 : chkM 125 = true := by decide +kernel
theorem chk_126_0 : (((itab 126).drop 0).take 40).all (chk1 126) = true := by decide +kernel
theorem chk_126_1 : ((itab 126).drop 40).all (chk1 126) = true := by decide +kernel
theorem chk_126 : chkM 126 = true := by
  have h1 : ((itab 126).drop 40).all (chk1 126) = true := chk_126_1
  have h0 : ((itab 126).drop 0).all (chk1 126) = true := all_cut _ _ 40 chk_126_0 (by rw [List.drop_drop]; exact h1)
  exact h0
theorem chk_127 : chkM 127 = true := by decide +kernel
theorem chk_128 : chkM 128 = true := by decide +kernel
theorem chk_129 : chkM 129 = true := by decide +kernel
theorem chk_130_0 : (((itab 130).drop 0).take 40).all (chk1 130) = true := by decide +kernel
theorem chk_130_1 : ((itab 130).drop 40).all (chk1 130) = true := by decide +kernel
theorem chk_130 : chkM 130 = true := by
  have h1 : ((itab 130).drop 40).all (chk1 130) = true := chk_130_1
  have h0 : ((itab 130).drop 0).all (chk1 130) = true := all_cut _ _ 40 chk_130_0 (by rw [List.drop_drop]; exact h1)
  exact h0
theorem chk_131_0 : (((itab 131).drop 0).take 40).all (chk1 131) = true := by decide +kernel
theorem chk_131_1 : ((itab 131).drop 40).all (chk1 131) = true := by decide +kernel
theorem chk_131 : chkM 131 = true := by
  have h1 : ((itab 131).drop 40).all (chk1 131) = true := chk_131_1
  have h0 : ((itab 131).drop 0).all (chk1 131) = true := all_cut _ _ 40 chk_131_0 (by rw [List.drop_drop]; exact h1)
  exact h0
theorem chk_132 : chkM 132 = true := by decide +kernel
theorem chk_133 : chkM 133 = true := by decide +kernel
theorem chk_134_0 : (((itab 134).drop 0).take 40).all (chk1 134) = true := by decide +kernel
theorem chk_134_1 : ((itab 134).drop 40).all (chk1 134) = true := by decide +kernel
theorem chk_134 : chkM 134 = true := by
  have h1 : ((itab 134).drop 40).all (chk1 134) = true := chk_134_1
  have h0 : ((itab 134).drop 0).all (chk1 134) = true := all_cut _ _ 40 chk_134_0 (by rw [List.drop_drop]; exact h1)
  exact h0
theorem chk_135 : chkM 135 = true := by decide +kernel
theorem chk_136 : chkM 136 = true := by decide +kernel
theorem chk_137 : chkM 137 = true := by decide +kernel
theorem chk_138 : chkM 138 = true := by decide +kernel
theorem chk_139 : chkM 139 = true := by decide +kernel
theorem chk_140_0 : (((itab 140).drop 0).take 40).all (chk1 140) = true := by decide +kernel
theorem chk_140_1 : ((itab 140).drop 40).all (chk1 140) = true := by decide +kernel
theorem chk_140 : chkM 140 = true := by
  have h1 : ((itab 140).drop 40).all (chk1 140) = true := chk_140_1
  have h0 : ((itab 140).drop 0).all (chk1 140) = true := all_cut _ _ 40 chk_140_0 (by rw [List.drop_drop]; exact h1)
  exact h0
theorem chk_141 : chkM 141 = true := by decide +kernel
theorem chk_142 : chkM 142 = true := by decide +kernel
theorem chk_143 : chkM 143 = true := by decide +kernel
theorem chk_144_0 : (((itab 144).drop 0).take 40).all (chk1 144) = true := by decide +kernel
theorem chk_144_1 : ((itab 144).drop 40).all (chk1 144) = true := by decide +kernel
theorem chk_144 : chkM 144 = true := by
  have h1 : ((itab 144).drop 40).all (chk1 144) = true := chk_144_1
  have h0 : ((itab 144).drop 0).all (chk1 144) = true := all_cut _ _ 40 chk_144_0 (by rw [List.drop_drop]; exact h1)
  exact h0
theorem chk_145 : chkM 145 = true := by decide +kernel
theorem chk_146 : chkM 146 = true := by decide +kernel
theorem chk_147_0 : (((itab 147).drop 0).take 40).all (chk1 147) = true := by decide +kernel
theorem chk_147_1 : (((itab 147).drop 40).take 40).all (chk1 147) = true := by decide +kernel
theorem chk_147_2 : (((itab 147).drop 80).take 40).all (chk1 147) = true := by decide +kernel
theorem chk_147_3 : (((itab 147).drop 120).take 40).all (chk1 147) = true := by decide +kernel
theorem chk_147_4 : (((itab 147).drop 160).take 40).all (chk1 147) = true := by decide +kernel
theorem chk_147_5 : (((itab 147).drop 200).take 40).all (chk1 147) = true := by decide +kernel
theorem chk_147_6 : (((itab 147).drop 240).take 40).all (chk1 147) = true := by decide +kernel
theorem chk_147_7 : (((itab 147).drop 280).take 40).all (chk1 147) = true := by decide +kernel
theorem chk_147_8 : (((itab 147).drop 320).take 40).all (chk1 147) = true := by decide +kernel
theorem chk_147_9 : ((itab 147).drop 360).all (chk1 147) = true := by decide +kernel
theorem chk_147 : chkM 147 = true := by
  have h9 : ((itab 147).drop 360).all (chk1 147) = true := chk_147_9
  have h8 : ((itab 147).drop 320).all (chk1 147) = true := all_cut _ _ 40 chk_147_8 (by rw [List.drop_drop]; exact h9)
  have h7 : ((itab 147).drop 280).all (chk1 147) = true := all_cut _ _ 40 chk_147_7 (by rw [List.drop_drop]; exact h8)
  have h6 : ((itab 147).drop 240).all (chk1 147) = true := all_cut _ _ 40 chk_147_6 (by rw [List.drop_drop]; exact h7)
  have h5 : ((itab 147).drop 200).all (chk1 147) = true := all_cut _ _ 40 chk_147_5 (by rw [List.drop_drop]; exact h6)
  have h4 : ((itab 147).drop 160).all (chk1 147) = true := all_cut _ _ 40 chk_147_4 (by rw [List.drop_drop]; exact h5)
  have h3 : ((itab 147).drop 120).all (chk1 147) = true := all_cut _ _ 40 chk_147_3 (by rw [List.drop_drop]; exact h4)
  have h2 : ((itab 147).drop 80).all (chk1 147) = true := all_cut _ _ 40 chk_147_2 (by rw [List.drop_drop]; exact h3)
  have h1 : ((itab 147).drop 40).all (chk1 147) = true := all_cut _ _ 40 chk_147_1 (by rw [List.drop_drop]; exact h2)
  have h0 : ((itab 147).drop 0).all (chk1 147) = true := all_cut _ _ 40 chk_147_0 (by rw [List.drop_drop]; exact h1)
  exact h0
theorem chk_148 : chkM 148 = true := by decide +kernel
theorem chk_149 : chkM 149 = true := by decide +kernel
theorem chk_150 : chkM 150 = true := by decide +kernel
theorem chk_151 : chkM 151 = true := by decide +kernel
theorem chk_152 : chkM 152 = true := by decide +kernel
theorem chk_153 : chkM 153 = true := by decide +kernel
theorem chk_154 : chkM 154 = true := by decide +kernel
theorem chk_155 : chkM 155 = true := by decide +kernel
theorem chk_156 : chkM 156 = true := by decide +kernel
theorem chk_157_0 : (((itab 157).drop 0).take 40).all (chk1 157) = true := by decide +kernel
theorem chk_157_1 : (((itab 157).drop 40).take 40).all (chk1 157) = true := by decide +kernel
theorem chk_157_2 : (((itab 157).drop 80).take 40).all (chk1 157) = true := by decide +kernel
theorem chk_157_3 : (((itab 157).drop 120).take 40).all (chk1 157) = true := by decide +kernel
theorem chk_157_4 : ((itab 157).drop 160).all (chk1 157) = true := by decide +kernel
theorem chk_157 : chkM 157 = true := by
  have h4 : ((itab 157).drop 160).all (chk1 157) = true := chk_157_4
  have h3 : ((itab 157).drop 120).all (chk1 157) = true := all_cut _ _ 40 chk_157_3 (by rw [List.drop_drop]; exact h4)
  have h2 : ((itab 157).drop 80).all (chk1 157) = true := all_cut _ _ 40 chk_157_2 (by rw [List.drop_drop]; exact h3)
  have h1 : ((itab 157).drop 40).all (chk1 157) = true := all_cut _ _ 40 chk_157_1 (by rw [List.drop_drop]; exact h2)
  have h0 : ((itab 157).drop 0).all (chk1 157) = true := all_cut _ _ 40 chk_157_0 (by rw [List.drop_drop]; exact h1)
  exact h0
theorem chk_158_0 : (((itab 158).drop 0).take 40).all (chk1 158) = true := by decide +kernel
theorem chk_158_1 : ((itab 158).drop 40).all (chk1 158) = true := by decide +kernel
theorem chk_158 : chkM 158 = true := by
  have h1 : ((itab 158).drop 40).all (chk1 158) = true := chk_158_1
  have h0 : ((itab 158).drop 0).all (chk1 158) = true := all_cut _ _ 40 chk_158_0 (by rw [List.drop_drop]; exact h1)
  exact h0
theorem chk_159 : chkM 159 = true := by decide +kernel
theorem chk_160 : chkM 160 = true := by decide +kernel
theorem chk_161 : chkM 161 = true := by decide +kernel
theorem chk_162 : chkM 162 = true := by decide +kernel
theorem chk_163 : chkM 163 = true := by decide +kernel
theorem chk_164_0 : (((itab 164).drop 0).take 40).all (chk1 164) = true := by decide +kernel
theorem chk_164_1 : ((itab 164).drop 40).all (chk1 164) = true := by decide +kernel
theorem chk_164 : chkM 164 = true := by
  have h1 : ((itab 164).drop 40).all (chk1 164) = true := chk_164_1
  have h0 : ((itab 164).drop 0).all (chk1 164) = true := all_cut _ _ 40 chk_164_0 (by rw [List.drop_drop]; exact h1)
  exact h0
theorem chk_165_0 : (((itab 165).drop 0).take 40).all (chk1 165) = true := by decide +kernel
theorem chk_165_1 : (((itab 165).drop 40).take 40).all (chk1 165) = true := by decide +kernel
theorem chk_165_2 : (((itab 165).drop 80).take 40).all (chk1 165) = true := by decide +kernel
theorem chk_165_3 : ((itab 165).drop 120).all (chk1 165) = true := by decide +kernel
theorem chk_165 : chkM 165 = true := by
  have h3 : ((itab 165).drop 120).all (chk1 165) = true := chk_165_3
  have h2 : ((itab 165).drop 80).all (chk1 165) = true := all_cut _ _ 40 chk_165_2 (by rw [List.drop_drop]; exact h3)
  have h1 : ((itab 165).drop 40).all (chk1 165) = true := all_cut _ _ 40 chk_165_1 (by rw [List.drop_drop]; exact h2)
  have h0 : ((itab 165).drop 0).all (chk1 165) = true := all_cut _ _ 40 chk_165_0 (by rw [List.drop_drop]; exact h1)
  exact h0
theorem chk_166 : chkM 166 = true := by decide +kernel
theorem chk_167 : chkM 167 = true := by decide +kernel
theorem chk_168_0 : (((itab 168).drop 0).take 40).all (chk1 168) = true := by decide +kernel
theorem chk_168_1 : (((itab 168).drop 40).take 40).all (chk1 168) = true := by decide +kernel
theorem chk_168_2 : ((itab 168).drop 80).all (chk1 168) = true := by decide +kernel
theorem chk_168 : chkM 168 = true := by
  have h2 : ((itab 168).drop 80).all (chk1 168) = true := chk_168_2
  have h1 : ((itab 168).drop 40).all (chk1 168) = true := all_cut _ _ 40 chk_168_1 (by rw [List.drop_drop]; exact h2)
  have h0 : ((itab 168).drop 0).all (chk1 168) = true := all_cut _ _ 40 chk_168_0 (by rw [List.drop_drop]; exact h1)
  exact h0
theorem chk_169 : chkM 169 = true := by decide +kernel
theorem chk_170 : chkM 170 = true := by decide +kernel
theorem chk_171_0 : (((itab 171).drop 0).take 40).all (chk1 171) = true := by decide +kernel
theorem chk_171_1 : ((itab 171).drop 40).all (chk1 171) = true := by decide +kernel
theorem chk_171 : chkM 171 = true := by
  have h1 : ((itab 171).drop 40).all (chk1 171) = true := chk_171_1
  have h0 : ((itab 171).drop 0).all (chk1 171) = true := all_cut _ _ 40 chk_171_0 (by rw [List.drop_drop]; exact h1)
  exact h0
theorem chk_172 : chkM 172 = true := by decide +kernel
theorem chk_173_0 : (((itab 173).drop 0).take 40).all (chk1 173) = true := by decide +kernel
theorem chk_173_1 : ((itab 173).drop 40).all (chk1 173) = true := by decide +kernel
