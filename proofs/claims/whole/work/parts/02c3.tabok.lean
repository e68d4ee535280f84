/-! rows checked, piece 3 -/
set_option maxRecDepth 100000 in
set_option maxHeartbeats 4000000 in
theorem jrk_145_0 : jT_145_0.all (jrok 145) = true := by decide +kernel
theorem jrk_145 : jT_145.all (jrok 145) = true := by
  exact jrk_145_0
set_option maxRecDepth 100000 in
set_option maxHeartbeats 4000000 in
theorem jrk_146_0 : jT_146_0.all (jrok 146) = true := by decide +kernel
theorem jrk_146 : jT_146.all (jrok 146) = true := by
  exact jrk_146_0
set_option maxRecDepth 100000 in
set_option maxHeartbeats 4000000 in
theorem jrk_147_0 : jT_147_0.all (jrok 147) = true := by decide +kernel
set_option maxRecDepth 100000 in
set_option maxHeartbeats 4000000 in
theorem jrk_147_1 : jT_147_1.all (jrok 147) = true := by decide +kernel
theorem jrk_147 : jT_147.all (jrok 147) = true := by
  unfold jT_147
  simp only [List.all_append, jrk_147_0, jrk_147_1, Bool.and_self]
set_option maxRecDepth 100000 in
set_option maxHeartbeats 4000000 in
theorem jrk_148_0 : jT_148_0.all (jrok 148) = true := by decide +kernel
set_option maxRecDepth 100000 in
set_option maxHeartbeats 4000000 in
theorem jrk_148_1 : jT_148_1.all (jrok 148) = true := by decide +kernel
theorem jrk_148 : jT_148.all (jrok 148) = true := by
  unfold jT_148
  simp only [List.all_append, jrk_148_0, jrk_148_1, Bool.and_self]
set_option maxRecDepth 100000 in
set_option maxHeartbeats 4000000 in
theorem jrk_149_0 : jT_149_0.all (jrok 149) = true := by decide +kernel
set_option maxRecDepth 100000 in
set_option maxHeartbeats 4000000 in
theorem jrk_149_1 : jT_149_1.all (jrok 149) = true := by decide +kernel
theorem jrk_149 : jT_149.all (jrok 149) = true := by
  unfold jT_149
  simp only [List.all_append, jrk_149_0, jrk_149_1, Bool.and_self]
set_option maxRecDepth 100000 in
set_option maxHeartbeats 4000000 in
theorem jrk_150_0 : jT_150_0.all (jrok 150) = true := by decide +kernel
theorem jrk_150 : jT_150.all (jrok 150) = true := by
  exact jrk_150_0
set_option maxRecDepth 100000 in
set_option maxHeartbeats 4000000 in
theorem jrk_151_0 : jT_151_0.all (jrok 151) = true := by decide +kernel
theorem jrk_151 : jT_151.all (jrok 151) = true := by
  exact jrk_151_0
set_option maxRecDepth 100000 in
set_option maxHeartbeats 4000000 in
theorem jrk_152_0 : jT_152_0.all (jrok 152) = true := by decide +kernel
theorem jrk_152 : jT_152.all (jrok 152) = true := by
  exact jrk_152_0
set_option maxRecDepth 100000 in
set_option maxHeartbeats 4000000 in
theorem jrk_153_0 : jT_153_0.all (jrok 153) = true := by decide +kernel
theorem jrk_153 : jT_153.all (jrok 153) = true := by
  exact jrk_153_0
set_option maxRecDepth 100000 in
set_option maxHeartbeats 4000000 in
theorem jrk_154_0 : jT_154_0.all (jrok 154) = true := by decide +kernel
theorem jrk_154 : jT_154.all (jrok 154) = true := by
  exact jrk_154_0
set_option maxRecDepth 100000 in
set_option maxHeartbeats 4000000 in
theorem jrk_155_0 : jT_155_0.all (jrok 155) = true := by decide +kernel
theorem jrk_155 : jT_155.all (jrok 155) = true := by
  exact jrk_155_0
set_option maxRecDepth 100000 in
set_option maxHeartbeats 4000000 in
theorem jrk_156_0 : jT_156_0.all (jrok 156) = true := by decide +kernel
theorem jrk_156 : jT_156.all (jrok 156) = true := by
  exact jrk_156_0
set_option maxRecDepth 100000 in
set_option maxHeartbeats 4000000 in
theorem jrk_157_0 : jT_157_0.all (jrok 157) = true := by decide +kernel
theorem jrk_157 : jT_157.all (jrok 157) = true := by
  exact jrk_157_0
set_option maxRecDepth 100000 in
set_option maxHeartbeats 4000000 in
theorem jrk_158_0 : jT_158_0.all (jrok 158) = true := by decide +kernel
set_option maxRecDepth 100000 in
set_option maxHeartbeats 4000000 in
theorem jrk_158_1 : jT_158_1.all (jrok 158) = true := by decide +kernel
theorem jrk_158 : jT_158.all (jrok 158) = true := by
  unfold jT_158
  simp only [List.all_append, jrk_158_0, jrk_158_1, Bool.and_self]
set_option maxRecDepth 100000 in
set_option maxHeartbeats 4000000 in
theorem jrk_159_0 : jT_159_0.all (jrok 159) = true := by decide +kernel
theorem jrk_159 : jT_159.all (jrok 159) = true := by
  exact jrk_159_0
set_option maxRecDepth 100000 in
set_option maxHeartbeats 4000000 in
theorem jrk_160_0 : jT_160_0.all (jrok 160) = true := by decide +kernel
theorem jrk_160 : jT_160.all (jrok 160) = true := by
  exact jrk_160_0
set_option maxRecDepth 100000 in
set_option maxHeartbeats 4000000 in
theorem jrk_161_0 : jT_161_0.all (jrok 161) = true := by decide +kernel
theorem jrk_161 : jT_161.all (jrok 161) = true := by
  exact jrk_161_0
set_option maxRecDepth 100000 in
set_option maxHeartbeats 4000000 in
theorem jrk_162_0 : jT_162_0.all (jrok 162) = true := by decide +kernel
theorem jrk_162 : jT_162.all (jrok 162) = true := by
  exact jrk_162_0
set_option maxRecDepth 100000 in
set_option maxHeartbeats 4000000 in
theorem jrk_163_0 : jT_163_0.all (jrok 163) = true := by decide +kernel
set_option maxRecDepth 100000 in
set_option maxHeartbeats 4000000 in
theorem jrk_163_1 : jT_163_1.all (jrok 163) = true := by decide +kernel
theorem jrk_163 : jT_163.all (jrok 163) = true := by
  unfold jT_163
  simp only [List.all_append, jrk_163_0, jrk_163_1, Bool.and_self]
set_option maxRecDepth 100000 in
set_option maxHeartbeats 4000000 in
theorem jrk_164_0 : jT_164_0.all (jrok 164) = true := by decide +kernel
theorem jrk_164 : jT_164.all (jrok 164) = true := by
  exact jrk_164_0
set_option maxRecDepth 100000 in
set_option maxHeartbeats 4000000 in
theorem jrk_165_0 : jT_165_0.all (jrok 165) = true := by decide +kernel
theorem jrk_165 : jT_165.all (jrok 165) = true := by
  exact jrk_165_0
set_option maxRecDepth 100000 in
set_option maxHeartbeats 4000000 in
theorem jrk_166_0 : jT_166_0.all (jrok 166) = true := by decide +kernel
set_option maxRecDepth 100000 in
set_option maxHeartbeats 4000000 in
theorem jrk_166_1 : jT_166_1.all (jrok 166) = true := by decide +kernel
theorem jrk_166 : jT_166.all (jrok 166) = true := by
  unfold jT_166
  simp only [List.all_append, jrk_166_0, jrk_166_1, Bool.and_self]
set_option maxRecDepth 100000 in
set_option maxHeartbeats 4000000 in
theorem jrk_167_0 : jT_167_0.all (jrok 167) = true := by decide +kernel
set_option maxRecDepth 100000 in
set_option maxHeartbeats 4000000 in
theorem jrk_167_1 : jT_167_1.all (jrok 167) = true := by decide +kernel
theorem jrk_167 : jT_167.all (jrok 167) = true := by
  unfold jT_167
  simp only [List.all_append, jrk_167_0, jrk_167_1, Bool.and_self]
set_option maxRecDepth 100000 in
set_option maxHeartbeats 4000000 in
theorem jrk_168_0 : jT_168_0.all (jrok 168) = true := by decide +kernel
theorem jrk_168 : jT_168.all (jrok 168) = true := by
  exact jrk_168_0
set_option maxRecDepth 100000 in
set_option maxHeartbeats 4000000 in
theorem jrk_169_0 : jT_169_0.all (jrok 169) = true := by decide +kernel
theorem jrk_169 : jT_169.all (jrok 169) = true := by
  exact jrk_169_0
set_option maxRecDepth 100000 in
set_option maxHeartbeats 4000000 in
theorem jrk_170_0 : jT_170_0.all (jrok 170) = true := by decide +kernel
theorem jrk_170 : jT_170.all (jrok 170) = true := by
  exact jrk_170_0
set_option maxRecDepth 100000 in
set_option maxHeartbeats 4000000 in
theorem jrk_171_0 : jT_171_0.all (jrok 171) = true := by decide +kernel
theorem jrk_171 : jT_171.all (jrok 171) = true := by
  exact jrk_171_0
set_option maxRecDepth 100000 in
set_option maxHeartbeats 4000000 in
theorem jrk_172_0 : jT_172_0.all (jrok 172) = true := by decide +kernel
set_option maxRecDepth 100000 in
set_option maxHeartbeats 4000000 in
theorem jrk_172_1 : jT_172_1.all (jrok 172) = true := by decide +kernel
theorem jrk_172 : jT_172.all (jrok 172) = true := by
  unfold jT_172
  simp only [List.all_append, jrk_172_0, jrk_172_1, Bool.and_self]
set_option maxRecDepth 100000 in
set_option maxHeartbeats 4000000 in
theorem jrk_173_0 : jT_173_0.all (jrok 173) = true := by decide +kernel
theorem jrk_173 : jT_173.all (jrok 173) = true := by
  exact jrk_173_0
set_option maxRecDepth 100000 in
set_option maxHeartbeats 4000000 in
theorem jrk_174_0 : jT_174_0.all (jrok 174) = true := by decide +kernel
theorem jrk_174 : jT_174.all (jrok 174) = true := by
  exact jrk_174_0
set_option maxRecDepth 100000 in
set_option maxHeartbeats 4000000 in
theorem jrk_175_0 : jT_175_0.all (jrok 175) = true := by decide +kernel
theorem jrk_175 : jT_175.all (jrok 175) = true := by
  exact jrk_175_0
set_option maxRecDepth 100000 in
set_option maxHeartbeats 4000000 in
theorem jrk_176_0 : jT_176_0.all (jrok 176) = true := by decide +kernel
theorem jrk_176 : jT_176.all (jrok 176) = true := by
  exact jrk_176_0
set_option maxRecDepth 100000 in
set_option maxHeartbeats 4000000 in
theorem jrk_177_0 : jT_177_0.all (jrok 177) = true := by decide +kernel
theorem jrk_177 : jT_177.all (jrok 177) = true := by
  exact jrk_177_0
set_option maxRecDepth 100000 in
set_option maxHeartbeats 4000000 in
theorem jrk_178_0 : jT_178_0.all (jrok 178) = true := by decide +kernel
theorem jrk_178 : jT_178.all (jrok 178) = true := by
  exact jrk_178_0
set_option maxRecDepth 100000 in
set_option maxHeartbeats 4000000 in
theorem jrk_179_0 : jT_179_0.all (jrok 179) = true := by decide +kernel
theorem jrk_179 : jT_179.all (jrok 179) = true := by
  exact jrk_179_0
set_option maxRecDepth 100000 in
set_option maxHeartbeats 4000000 in
theorem jrk_180_0 : jT_180_0.all (jrok 180) = true := by decide +kernel
theorem jrk_180 : jT_180.all (jrok 180) = true := by
  exact jrk_180_0
set_option maxRecDepth 100000 in
set_option maxHeartbeats 4000000 in
theorem jrk_181_0 : jT_181_0.all (jrok 181) = true := by decide +kernel
theorem jrk_181 : jT_181.all (jrok 181) = true := by
  exact jrk_181_0
set_option maxRecDepth 100000 in
set_option maxHeartbeats 4000000 in
theorem jrk_182_0 : jT_182_0.all (jrok 182) = true := by decide +kernel
set_option maxRecDepth 100000 in
set_option maxHeartbeats 4000000 in
theorem jrk_182_1 : jT_182_1.all (jrok 182) = true := by decide +kernel
theorem jrk_182 : jT_182.all (jrok 182) = true := by
  unfold jT_182
  simp only [List.all_append, jrk_182_0, jrk_182_1, Bool.and_self]
set_option maxRecDepth 100000 in
set_option maxHeartbeats 4000000 in
theorem jrk_183_0 : jT_183_0.all (jrok 183) = true := by decide +kernel
theorem jrk_183 : jT_183.all (jrok 183) = true := by
  exact jrk_183_0
set_option maxRecDepth 100000 in
set_option maxHeartbeats 4000000 in
theorem jrk_184_0 : jT_184_0.all (jrok 184) = true := by decide +kernel
theorem jrk_184 : jT_184.all (jrok 184) = true := by
  exact jrk_184_0
set_option maxRecDepth 100000 in
set_option maxHeartbeats 4000000 in
theorem jrk_185_0 : jT_185_0.all (jrok 185) = true := by decide +kernel
theorem jrk_185 : jT_185.all (jrok 185) = true := by
  exact jrk_185_0
set_option maxRecDepth 100000 in
set_option maxHeartbeats 4000000 in
theorem jrk_186_0 : jT_186_0.all (jrok 186) = true := by decide +kernel
theorem jrk_186 : jT_186.all (jrok 186) = true := by
  exact jrk_186_0
set_option maxRecDepth 100000 in
set_option maxHeartbeats 4000000 in
theorem jrk_187_0 : jT_187_0.all (jrok 187) = true := by decide +kernel
theorem jrk_187 : jT_187.all (jrok 187) = true := by
  exact jrk_187_0
set_option maxRecDepth 100000 in
set_option maxHeartbeats 4000000 in
theorem jrk_188_0 : jT_188_0.all (jrok 188) = true := by decide +kernel
theorem jrk_188 : jT_188.all (jrok 188) = true := by
  exact jrk_188_0
set_option maxRecDepth 100000 in
set_option maxHeartbeats 4000000 in
theorem jrk_189_0 : jT_189_0.all (jrok 189) = true := by decide +kernel
theorem jrk_189 : jT_189.all (jrok 189) = true := by
  exact jrk_189_0
set_option maxRecDepth 100000 in
set_option maxHeartbeats 4000000 in
theorem jrk_190_0 : jT_190_0.all (jrok 190) = true := by decide +kernel
theorem jrk_190 : jT_190.all (jrok 190) = true := by
  exact jrk_190_0
set_option maxRecDepth 100000 in
set_option maxHeartbeats 4000000 in
theorem jrk_191_0 : jT_191_0.all (jrok 191) = true := by decide +kernel
set_option maxRecDepth 100000 in
set_option maxHeartbeats 4000000 in
theorem jrk_191_1 : jT_191_1.all (jrok 191) = true := by decide +kernel
theorem jrk_191 : jT_191.all (jrok 191) = true := by
  unfold jT_191
  simp only [List.all_append, jrk_191_0, jrk_191_1, Bool.and_self]
set_option maxRecDepth 100000 in
set_option maxHeartbeats 4000000 in
theorem jrk_192_0 : jT_192_0.all (jrok 192) = true := by decide +kernel
set_option maxRecDepth 100000 in
set_option maxHeartbeats 4000000 in
theorem jrk_192_1 : jT_192_1.all (jrok 192) = true := by decide +kernel
theorem jrk_192 : jT_192.all (jrok 192) = true := by
  unfold jT_192
  simp only [List.all_append, jrk_192_0, jrk_192_1, Bool.and_self]
set_option maxRecDepth 100000 in
set_option maxHeartbeats 4000000 in
theorem jrk_193_0 : jT_193_0.all (jrok 193) = true := by decide +kernel
set_option maxRecDepth 100000 in
set_option maxHeartbeats 4000000 in
theorem jrk_193_1 : jT_193_1.all (jrok 193) = true := by decide +kernel
theorem jrk_193 : jT_193.all (jrok 193) = true := by
  unfold jT_193
  simp only [List.all_append, jrk_193_0, jrk_193_1, Bool.and_self]
set_option maxRecDepth 100000 in
set_option maxHeartbeats 4000000 in
theorem jrk_194_0 : jT_194_0.all (jrok 194) = true := by decide +kernel
theorem jrk_194 : jT_194.all (jrok 194) = true := by
  exact jrk_194_0
set_option maxRecDepth 100000 in
set_option maxHeartbeats 4000000 in
theorem jrk_195_0 : jT_195_0.all (jrok 195) = true := by decide +kernel
theorem jrk_195 : jT_195.all (jrok 195) = true := by
  exact jrk_195_0
