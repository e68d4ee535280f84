/-! rows checked, piece 4 -/
set_option maxRecDepth 100000 in
set_option maxHeartbeats 4000000 in
theorem jrk_196_0 : jT_196_0.all (jrok 196) = true := by decide +kernel
theorem jrk_196 : jT_196.all (jrok 196) = true := by
  exact jrk_196_0
set_option maxRecDepth 100000 in
set_option maxHeartbeats 4000000 in
theorem jrk_197_0 : jT_197_0.all (jrok 197) = true := by decide +kernel
set_option maxRecDepth 100000 in
set_option maxHeartbeats 4000000 in
theorem jrk_197_1 : jT_197_1.all (jrok 197) = true := by decide +kernel
theorem jrk_197 : jT_197.all (jrok 197) = true := by
  unfold jT_197
  simp only [List.all_append, jrk_197_0, jrk_197_1, Bool.and_self]
set_option maxRecDepth 100000 in
set_option maxHeartbeats 4000000 in
theorem jrk_198_0 : jT_198_0.all (jrok 198) = true := by decide +kernel
set_option maxRecDepth 100000 in
set_option maxHeartbeats 4000000 in
theorem jrk_198_1 : jT_198_1.all (jrok 198) = true := by decide +kernel
theorem jrk_198 : jT_198.all (jrok 198) = true := by
  unfold jT_198
  simp only [List.all_append, jrk_198_0, jrk_198_1, Bool.and_self]
set_option maxRecDepth 100000 in
set_option maxHeartbeats 4000000 in
theorem jrk_199_0 : jT_199_0.all (jrok 199) = true := by decide +kernel
theorem jrk_199 : jT_199.all (jrok 199) = true := by
  exact jrk_199_0
set_option maxRecDepth 100000 in
set_option maxHeartbeats 4000000 in
theorem jrk_200_0 : jT_200_0.all (jrok 200) = true := by decide +kernel
set_option maxRecDepth 100000 in
set_option maxHeartbeats 4000000 in
theorem jrk_200_1 : jT_200_1.all (jrok 200) = true := by decide +kernel
set_option maxRecDepth 100000 in
set_option maxHeartbeats 4000000 in
theorem jrk_200_2 : jT_200_2.all (jrok 200) = true := by decide +kernel
set_option maxRecDepth 100000 in
set_option maxHeartbeats 4000000 in
theorem jrk_200_3 : jT_200_3.all (jrok 200) = true := by decide +kernel
set_option maxRecDepth 100000 in
set_option maxHeartbeats 4000000 in
theorem jrk_200_4 : jT_200_4.all (jrok 200) = true := by decide +kernel
set_option maxRecDepth 100000 in
set_option maxHeartbeats 4000000 in
theorem jrk_200_5 : jT_200_5.all (jrok 200) = true := by decide +kernel
set_option maxRecDepth 100000 in
set_option maxHeartbeats 4000000 in
theorem jrk_200_6 : jT_200_6.all (jrok 200) = true := by decide +kernel
set_option maxRecDepth 100000 in
set_option maxHeartbeats 4000000 in
theorem jrk_200_7 : jT_200_7.all (jrok 200) = true := by decide +kernel
set_option maxRecDepth 100000 in
set_option maxHeartbeats 4000000 in
theorem jrk_200_8 : jT_200_8.all (jrok 200) = true := by decide +kernel
set_option maxRecDepth 100000 in
set_option maxHeartbeats 4000000 in
theorem jrk_200_9 : jT_200_9.all (jrok 200) = true := by decide +kernel
set_option maxRecDepth 100000 in
set_option maxHeartbeats 4000000 in
theorem jrk_200_10 : jT_200_10.all (jrok 200) = true := by decide +kernel
set_option maxRecDepth 100000 in
set_option maxHeartbeats 4000000 in
theorem jrk_200_11 : jT_200_11.all (jrok 200) = true := by decide +kernel
set_option maxRecDepth 100000 in
set_option maxHeartbeats 4000000 in
theorem jrk_200_12 : jT_200_12.all (jrok 200) = true := by decide +kernel
set_option maxRecDepth 100000 in
set_option maxHeartbeats 4000000 in
theorem jrk_200_13 : jT_200_13.all (jrok 200) = true := by decide +kernel
set_option maxRecDepth 100000 in
set_option maxHeartbeats 4000000 in
theorem jrk_200_14 : jT_200_14.all (jrok 200) = true := by decide +kernel
set_option maxRecDepth 100000 in
set_option maxHeartbeats 4000000 in
theorem jrk_200_15 : jT_200_15.all (jrok 200) = true := by decide +kernel
set_option maxRecDepth 100000 in
set_option maxHeartbeats 4000000 in
theorem jrk_200_16 : jT_200_16.all (jrok 200) = true := by decide +kernel
set_option maxRecDepth 100000 in
set_option maxHeartbeats 4000000 in
theorem jrk_200_17 : jT_200_17.all (jrok 200) = true := by decide +kernel
set_option maxRecDepth 100000 in
set_option maxHeartbeats 4000000 in
theorem jrk_200_18 : jT_200_18.all (jrok 200) = true := by decide +kernel
set_option maxRecDepth 100000 in
set_option maxHeartbeats 4000000 in
theorem jrk_200_19 : jT_200_19.all (jrok 200) = true := by decide +kernel
set_option maxRecDepth 100000 in
set_option maxHeartbeats 4000000 in
theorem jrk_200_20 : jT_200_20.all (jrok 200) = true := by decide +kernel
set_option maxRecDepth 100000 in
set_option maxHeartbeats 4000000 in
theorem jrk_200_21 : jT_200_21.all (jrok 200) = true := by decide +kernel
set_option maxRecDepth 100000 in
set_option maxHeartbeats 4000000 in
theorem jrk_200_22 : jT_200_22.all (jrok 200) = true := by decide +kernel
set_option maxRecDepth 100000 in
set_option maxHeartbeats 4000000 in
theorem jrk_200_23 : jT_200_23.all (jrok 200) = true := by decide +kernel
set_option maxRecDepth 100000 in
set_option maxHeartbeats 4000000 in
theorem jrk_200_24 : jT_200_24.all (jrok 200) = true := by decide +kernel
theorem jrk_200 : jT_200.all (jrok 200) = true := by
  unfold jT_200
  simp only [List.all_append, jrk_200_0, jrk_200_1, jrk_200_2, jrk_200_3, jrk_200_4, jrk_200_5, jrk_200_6, jrk_200_7, jrk_200_8, jrk_200_9, jrk_200_10, jrk_200_11, jrk_200_12, jrk_200_13, jrk_200_14, jrk_200_15, jrk_200_16, jrk_200_17, jrk_200_18, jrk_200_19, jrk_200_20, jrk_200_21, jrk_200_22, jrk_200_23, jrk_200_24, Bool.and_self]
set_option maxRecDepth 100000 in
set_option maxHeartbeats 4000000 in
theorem jrk_201_0 : jT_201_0.all (jrok 201) = true := by decide +kernel
set_option maxRecDepth 100000 in
set_option maxHeartbeats 4000000 in
theorem jrk_201_1 : jT_201_1.all (jrok 201) = true := by decide +kernel
theorem jrk_201 : jT_201.all (jrok 201) = true := by
  unfold jT_201
  simp only [List.all_append, jrk_201_0, jrk_201_1, Bool.and_self]
set_option maxRecDepth 100000 in
set_option maxHeartbeats 4000000 in
theorem jrk_202_0 : jT_202_0.all (jrok 202) = true := by decide +kernel
theorem jrk_202 : jT_202.all (jrok 202) = true := by
  exact jrk_202_0
set_option maxRecDepth 100000 in
set_option maxHeartbeats 4000000 in
theorem jrk_203_0 : jT_203_0.all (jrok 203) = true := by decide +kernel
set_option maxRecDepth 100000 in
set_option maxHeartbeats 4000000 in
theorem jrk_203_1 : jT_203_1.all (jrok 203) = true := by decide +kernel
theorem jrk_203 : jT_203.all (jrok 203) = true := by
  unfold jT_203
  simp only [List.all_append, jrk_203_0, jrk_203_1, Bool.and_self]
set_option maxRecDepth 100000 in
set_option maxHeartbeats 4000000 in
theorem jrk_204_0 : jT_204_0.all (jrok 204) = true := by decide +kernel
theorem jrk_204 : jT_204.all (jrok 204) = true := by
  exact jrk_204_0
set_option maxRecDepth 100000 in
set_option maxHeartbeats 4000000 in
theorem jrk_205_0 : jT_205_0.all (jrok 205) = true := by decide +kernel
theorem jrk_205 : jT_205.all (jrok 205) = true := by
  exact jrk_205_0
set_option maxRecDepth 100000 in
set_option maxHeartbeats 4000000 in
theorem jrk_206_0 : jT_206_0.all (jrok 206) = true := by decide +kernel
theorem jrk_206 : jT_206.all (jrok 206) = true := by
  exact jrk_206_0
set_option maxRecDepth 100000 in
set_option maxHeartbeats 4000000 in
theorem jrk_207_0 : jT_207_0.all (jrok 207) = true := by decide +kernel
set_option maxRecDepth 100000 in
set_option maxHeartbeats 4000000 in
theorem jrk_207_1 : jT_207_1.all (jrok 207) = true := by decide +kernel
theorem jrk_207 : jT_207.all (jrok 207) = true := by
  unfold jT_207
  simp only [List.all_append, jrk_207_0, jrk_207_1, Bool.and_self]
set_option maxRecDepth 100000 in
set_option maxHeartbeats 4000000 in
theorem jrk_208_0 : jT_208_0.all (jrok 208) = true := by decide +kernel
theorem jrk_208 : jT_208.all (jrok 208) = true := by
  exact jrk_208_0
set_option maxRecDepth 100000 in
set_option maxHeartbeats 4000000 in
theorem jrk_209_0 : jT_209_0.all (jrok 209) = true := by decide +kernel
theorem jrk_209 : jT_209.all (jrok 209) = true := by
  exact jrk_209_0
set_option maxRecDepth 100000 in
set_option maxHeartbeats 4000000 in
theorem jrk_210_0 : jT_210_0.all (jrok 210) = true := by decide +kernel
theorem jrk_210 : jT_210.all (jrok 210) = true := by
  exact jrk_210_0
set_option maxRecDepth 100000 in
set_option maxHeartbeats 4000000 in
theorem jrk_211_0 : jT_211_0.all (jrok 211) = true := by decide +kernel
set_option maxRecDepth 100000 in
set_option maxHeartbeats 4000000 in
theorem jrk_211_1 : jT_211_1.all (jrok 211) = true := by decide +kernel
theorem jrk_211 : jT_211.all (jrok 211) = true := by
  unfold jT_211
  simp only [List.all_append, jrk_211_0, jrk_211_1, Bool.and_self]
set_option maxRecDepth 100000 in
set_option maxHeartbeats 4000000 in
theorem jrk_212_0 : jT_212_0.all (jrok 212) = true := by decide +kernel
theorem jrk_212 : jT_212.all (jrok 212) = true := by
  exact jrk_212_0
set_option maxRecDepth 100000 in
set_option maxHeartbeats 4000000 in
theorem jrk_213_0 : jT_213_0.all (jrok 213) = true := by decide +kernel
theorem jrk_213 : jT_213.all (jrok 213) = true := by
  exact jrk_213_0
set_option maxRecDepth 100000 in
set_option maxHeartbeats 4000000 in
theorem jrk_214_0 : jT_214_0.all (jrok 214) = true := by decide +kernel
theorem jrk_214 : jT_214.all (jrok 214) = true := by
  exact jrk_214_0
set_option maxRecDepth 100000 in
set_option maxHeartbeats 4000000 in
theorem jrk_215_0 : jT_215_0.all (jrok 215) = true := by decide +kernel
theorem jrk_215 : jT_215.all (jrok 215) = true := by
  exact jrk_215_0
set_option maxRecDepth 100000 in
set_option maxHeartbeats 4000000 in
theorem jrk_216_0 : jT_216_0.all (jrok 216) = true := by decide +kernel
set_option maxRecDepth 100000 in
set_option maxHeartbeats 4000000 in
theorem jrk_216_1 : jT_216_1.all (jrok 216) = true := by decide +kernel
theorem jrk_216 : jT_216.all (jrok 216) = true := by
  unfold jT_216
  simp only [List.all_append, jrk_216_0, jrk_216_1, Bool.and_self]
set_option maxRecDepth 100000 in
set_option maxHeartbeats 4000000 in
theorem jrk_217_0 : jT_217_0.all (jrok 217) = true := by decide +kernel
set_option maxRecDepth 100000 in
set_option maxHeartbeats 4000000 in
theorem jrk_217_1 : jT_217_1.all (jrok 217) = true := by decide +kernel
theorem jrk_217 : jT_217.all (jrok 217) = true := by
  unfold jT_217
  simp only [List.all_append, jrk_217_0, jrk_217_1, Bool.and_self]
set_option maxRecDepth 100000 in
set_option maxHeartbeats 4000000 in
theorem jrk_218_0 : jT_218_0.all (jrok 218) = true := by decide +kernel
set_option maxRecDepth 100000 in
set_option maxHeartbeats 4000000 in
theorem jrk_218_1 : jT_218_1.all (jrok 218) = true := by decide +kernel
theorem jrk_218 : jT_218.all (jrok 218) = true := by
  unfold jT_218
  simp only [List.all_append, jrk_218_0, jrk_218_1, Bool.and_self]
set_option maxRecDepth 100000 in
set_option maxHeartbeats 4000000 in
theorem jrk_219_0 : jT_219_0.all (jrok 219) = true := by decide +kernel
set_option maxRecDepth 100000 in
set_option maxHeartbeats 4000000 in
theorem jrk_219_1 : jT_219_1.all (jrok 219) = true := by decide +kernel
theorem jrk_219 : jT_219.all (jrok 219) = true := by
  unfold jT_219
  simp only [List.all_append, jrk_219_0, jrk_219_1, Bool.and_self]
set_option maxRecDepth 100000 in
set_option maxHeartbeats 4000000 in
theorem jrk_220_0 : jT_220_0.all (jrok 220) = true := by decide +kernel
theorem jrk_220 : jT_220.all (jrok 220) = true := by
  exact jrk_220_0
set_option maxRecDepth 100000 in
set_option maxHeartbeats 4000000 in
theorem jrk_221_0 : jT_221_0.all (jrok 221) = true := by decide +kernel
set_option maxRecDepth 100000 in
set_option maxHeartbeats 4000000 in
theorem jrk_221_1 : jT_221_1.all (jrok 221) = true := by decide +kernel
theorem jrk_221 : jT_221.all (jrok 221) = true := by
  unfold jT_221
  simp only [List.all_append, jrk_221_0, jrk_221_1, Bool.and_self]
set_option maxRecDepth 100000 in
set_option maxHeartbeats 4000000 in
theorem jrk_222_0 : jT_222_0.all (jrok 222) = true := by decide +kernel
theorem jrk_222 : jT_222.all (jrok 222) = true := by
  exact jrk_222_0
set_option maxRecDepth 100000 in
set_option maxHeartbeats 4000000 in
theorem jrk_223_0 : jT_223_0.all (jrok 223) = true := by decide +kernel
theorem jrk_223 : jT_223.all (jrok 223) = true := by
  exact jrk_223_0
set_option maxRecDepth 100000 in
set_option maxHeartbeats 4000000 in
theorem jrk_224_0 : jT_224_0.all (jrok 224) = true := by decide +kernel
set_option maxRecDepth 100000 in
set_option maxHeartbeats 4000000 in
theorem jrk_224_1 : jT_224_1.all (jrok 224) = true := by decide +kernel
set_option maxRecDepth 100000 in
set_option maxHeartbeats 4000000 in
theorem jrk_224_2 : jT_224_2.all (jrok 224) = true := by decide +kernel
theorem jrk_224 : jT_224.all (jrok 224) = true := by
  unfold jT_224
  simp only [List.all_append, jrk_224_0, jrk_224_1, jrk_224_2, Bool.and_self]
set_option maxRecDepth 100000 in
set_option maxHeartbeats 4000000 in
theorem jrk_225_0 : jT_225_0.all (jrok 225) = true := by decide +kernel
theorem jrk_225 : jT_225.all (jrok 225) = true := by
  exact jrk_225_0
set_option maxRecDepth 100000 in
set_option maxHeartbeats 4000000 in
theorem jrk_226_0 : jT_226_0.all (jrok 226) = true := by decide +kernel
set_option maxRecDepth 100000 in
set_option maxHeartbeats 4000000 in
theorem jrk_226_1 : jT_226_1.all (jrok 226) = true := by decide +kernel
theorem jrk_226 : jT_226.all (jrok 226) = true := by
  unfold jT_226
  simp only [List.all_append, jrk_226_0, jrk_226_1, Bool.and_self]
set_option maxRecDepth 100000 in
set_option maxHeartbeats 4000000 in
theorem jrk_227_0 : jT_227_0.all (jrok 227) = true := by decide +kernel
theorem jrk_227 : jT_227.all (jrok 227) = true := by
  exact jrk_227_0
set_option maxRecDepth 100000 in
set_option maxHeartbeats 4000000 in
theorem jrk_228_0 : jT_228_0.all (jrok 228) = true := by decide +kernel
set_option maxRecDepth 100000 in
set_option maxHeartbeats 4000000 in
theorem jrk_228_1 : jT_228_1.all (jrok 228) = true := by decide +kernel
theorem jrk_228 : jT_228.all (jrok 228) = true := by
  unfold jT_228
  simp only [List.all_append, jrk_228_0, jrk_228_1, Bool.and_self]
set_option maxRecDepth 100000 in
set_option maxHeartbeats 4000000 in
theorem jrk_229_0 : jT_229_0.all (jrok 229) = true := by decide +kernel
theorem jrk_229 : jT_229.all (jrok 229) = true := by
  exact jrk_229_0
set_option maxRecDepth 100000 in
set_option maxHeartbeats 4000000 in
theorem jrk_230_0 : jT_230_0.all (jrok 230) = true := by decide +kernel
theorem jrk_230 : jT_230.all (jrok 230) = true := by
  exact jrk_230_0
set_option maxRecDepth 100000 in
set_option maxHeartbeats 4000000 in
theorem jrk_231_0 : jT_231_0.all (jrok 231) = true := by decide +kernel
set_option maxRecDepth 100000 in
set_option maxHeartbeats 4000000 in
theorem jrk_231_1 : jT_231_1.all (jrok 231) = true := by decide +kernel
set_option maxRecDepth 100000 in
set_option maxHeartbeats 4000000 in
theorem jrk_231_2 : jT_231_2.all (jrok 231) = true := by decide +kernel
set_option maxRecDepth 100000 in
set_option maxHeartbeats 4000000 in
theorem jrk_231_3 : jT_231_3.all (jrok 231) = true := by decide +kernel
set_option maxRecDepth 100000 in
set_option maxHeartbeats 4000000 in
theorem jrk_231_4 : jT_231_4.all (jrok 231) = true := by decide +kernel
