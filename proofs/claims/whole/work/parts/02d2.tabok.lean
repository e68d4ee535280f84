/-! methods checked, piece 2 -/
theorem jmo_186 : jmok 186 = true := by
  unfold jmok
  rw [show jmi 186 = (yX11_giveUp, cX11_giveUp, 1, 0, [2], [6176, 6174, 6175, 1001, 11], 0) from rfl]
  dsimp only
  simp only [Bool.and_eq_true]
  repeat' apply And.intro
  all_goals first | (exact decide_eq_true (show jwAt 6176 = _ from rfl)) | decide +kernel
theorem jmo_187 : jmok 187 = true := by
  unfold jmok
  rw [show jmi 187 = (yX11_flip, cX11_flip, 3, 0, [2, 0, 0], [6187, 6185, 6186, 1001, 11], 0) from rfl]
  dsimp only
  simp only [Bool.and_eq_true]
  repeat' apply And.intro
  all_goals first | (exact decide_eq_true (show jwAt 6187 = _ from rfl)) | decide +kernel
theorem jmo_188 : jmok 188 = true := by
  unfold jmok
  rw [show jmi 188 = (yX11_undo, cX11_undo, 1, 5, [2], [6192, 6190, 6191, 1001, 11], 0) from rfl]
  dsimp only
  simp only [Bool.and_eq_true]
  repeat' apply And.intro
  all_goals first | (exact decide_eq_true (show jwAt 6192 = _ from rfl)) | decide +kernel
theorem jmo_189 : jmok 189 = true := by
  unfold jmok
  rw [show jmi 189 = (yX11_seed, cX11_seed, 2, 5, [2, 0], [6196, 6194, 6195, 1001, 11], 0) from rfl]
  dsimp only
  simp only [Bool.and_eq_true]
  repeat' apply And.intro
  all_goals first | (exact decide_eq_true (show jwAt 6196 = _ from rfl)) | decide +kernel
theorem jmo_190 : jmok 190 = true := by
  unfold jmok
  rw [show jmi 190 = (yX11_ask, cX11_ask, 2, 1, [2], [6200, 6198, 6199, 1001, 11], 0) from rfl]
  dsimp only
  simp only [Bool.and_eq_true]
  repeat' apply And.intro
  all_goals first | (exact decide_eq_true (show jwAt 6200 = _ from rfl)) | decide +kernel
theorem jmo_191 : jmok 191 = true := by
  unfold jmok
  rw [show jmi 191 = (yX11_answer, cX11_answer, 12, 1, [2, 0, 2], [6218, 6217, 66, 1001, 11], 0) from rfl]
  dsimp only
  simp only [Bool.and_eq_true]
  repeat' apply And.intro
  all_goals first | (exact decide_eq_true (show jwAt 6218 = _ from rfl)) | decide +kernel
theorem jmo_192 : jmok 192 = true := by
  unfold jmok
  rw [show jmi 192 = (yX11_tellSegment, cX11_tellSegment, 5, 3, [2, 2, 0], [6224, 6223, 67, 1001, 11], 0) from rfl]
  dsimp only
  simp only [Bool.and_eq_true]
  repeat' apply And.intro
  all_goals first | (exact decide_eq_true (show jwAt 6224 = _ from rfl)) | decide +kernel
theorem jmo_193 : jmok 193 = true := by
  unfold jmok
  rw [show jmi 193 = (yX11_image, cX11_image, 3, 0, [2], [6235, 6233, 6234, 1001, 11], 0) from rfl]
  dsimp only
  simp only [Bool.and_eq_true]
  repeat' apply And.intro
  all_goals first | (exact decide_eq_true (show jwAt 6235 = _ from rfl)) | decide +kernel
theorem jmo_194 : jmok 194 = true := by
  unfold jmok
  rw [show jmi 194 = (yX11_addPair, cX11_addPair, 2, 3, [2, 0], [6239, 6238, 68, 1001, 11], 0) from rfl]
  dsimp only
  simp only [Bool.and_eq_true]
  repeat' apply And.intro
  all_goals first | (exact decide_eq_true (show jwAt 6239 = _ from rfl)) | decide +kernel
theorem jmo_195 : jmok 195 = true := by
  unfold jmok
  rw [show jmi 195 = (yX11_addOctet, cX11_addOctet, 2, 3, [2, 0], [7003, 7002, 69, 1001, 11], 0) from rfl]
  dsimp only
  simp only [Bool.and_eq_true]
  repeat' apply And.intro
  all_goals first | (exact decide_eq_true (show jwAt 7003 = _ from rfl)) | decide +kernel
theorem jmo_196 : jmok 196 = true := by
  unfold jmok
  rw [show jmi 196 = (yX11_octet, cX11_octet, 2, 0, [2, 0], [7009, 7007, 7008, 1001, 11], 0) from rfl]
  dsimp only
  simp only [Bool.and_eq_true]
  repeat' apply And.intro
  all_goals first | (exact decide_eq_true (show jwAt 7009 = _ from rfl)) | decide +kernel
theorem jmo_197 : jmok 197 = true := by
  unfold jmok
  rw [show jmi 197 = (yX11_on, cX11_on, 4, 5, [2], [7013, 7011, 7012, 1001, 11], 0) from rfl]
  dsimp only
  simp only [Bool.and_eq_true]
  repeat' apply And.intro
  all_goals first | (exact decide_eq_true (show jwAt 7013 = _ from rfl)) | decide +kernel
theorem jmo_198 : jmok 198 = true := by
  unfold jmok
  rw [show jmi 198 = (yX11_isImage, cX11_isImage, 4, 5, [2, 0], [7017, 7016, 70, 1001, 11], 0) from rfl]
  dsimp only
  simp only [Bool.and_eq_true]
  repeat' apply And.intro
  all_goals first | (exact decide_eq_true (show jwAt 7017 = _ from rfl)) | decide +kernel
theorem jmo_199 : jmok 199 = true := by
  unfold jmok
  rw [show jmi 199 = (yX11_status, cX11_status, 2, 0, [2, 0], [7024, 7022, 7023, 1001, 11], 0) from rfl]
  dsimp only
  simp only [Bool.and_eq_true]
  repeat' apply And.intro
  all_goals first | (exact decide_eq_true (show jwAt 7024 = _ from rfl)) | decide +kernel
theorem jmo_200 : jmok 200 = true := by
  unfold jmok
  rw [show jmi 200 = (yX12_init, cX12_init, 1, 3, [2], [7029, 7028, 0, 1014, 12], 0) from rfl]
  dsimp only
  simp only [Bool.and_eq_true]
  repeat' apply And.intro
  all_goals first | (exact decide_eq_true (show jwAt 7029 = _ from rfl)) | decide +kernel
theorem jmo_201 : jmok 201 = true := by
  unfold jmok
  rw [show jmi 201 = (yX12_feed, cX12_feed, 8, 0, [2, 0, 0, 0, 0, 0], [8129, 8127, 8128, 1014, 12], 0) from rfl]
  dsimp only
  simp only [Bool.and_eq_true]
  repeat' apply And.intro
  all_goals first | (exact decide_eq_true (show jwAt 8129 = _ from rfl)) | decide +kernel
theorem jmo_202 : jmok 202 = true := by
  unfold jmok
  rw [show jmi 202 = (yX12_end, cX12_end, 2, 5, [2, 0], [8133, 8131, 8132, 1014, 12], 0) from rfl]
  dsimp only
  simp only [Bool.and_eq_true]
  repeat' apply And.intro
  all_goals first | (exact decide_eq_true (show jwAt 8133 = _ from rfl)) | decide +kernel
theorem jmo_203 : jmok 203 = true := by
  unfold jmok
  rw [show jmi 203 = (yX12_journal, cX12_journal, 2, 0, [2], [8137, 8135, 8136, 1014, 12], 0) from rfl]
  dsimp only
  simp only [Bool.and_eq_true]
  repeat' apply And.intro
  all_goals first | (exact decide_eq_true (show jwAt 8137 = _ from rfl)) | decide +kernel
theorem jmo_204 : jmok 204 = true := by
  unfold jmok
  rw [show jmi 204 = (yX12_journalTold, cX12_journalTold, 1, 3, [2], [8141, 8140, 71, 1014, 12], 0) from rfl]
  dsimp only
  simp only [Bool.and_eq_true]
  repeat' apply And.intro
  all_goals first | (exact decide_eq_true (show jwAt 8141 = _ from rfl)) | decide +kernel
theorem jmo_205 : jmok 205 = true := by
  unfold jmok
  rw [show jmi 205 = (yX12_asks, cX12_asks, 2, 3, [2, 2], [8145, 8144, 72, 1014, 12], 0) from rfl]
  dsimp only
  simp only [Bool.and_eq_true]
  repeat' apply And.intro
  all_goals first | (exact decide_eq_true (show jwAt 8145 = _ from rfl)) | decide +kernel
theorem jmo_206 : jmok 206 = true := by
  unfold jmok
  rw [show jmi 206 = (yX12_takes, cX12_takes, 2, 5, [2, 2], [8149, 8148, 73, 1014, 12], 0) from rfl]
  dsimp only
  simp only [Bool.and_eq_true]
  repeat' apply And.intro
  all_goals first | (exact decide_eq_true (show jwAt 8149 = _ from rfl)) | decide +kernel
theorem jmo_207 : jmok 207 = true := by
  unfold jmok
  rw [show jmi 207 = (yX12_isHere, cX12_isHere, 4, 5, [2, 2], [8153, 8152, 74, 1014, 12], 0) from rfl]
  dsimp only
  simp only [Bool.and_eq_true]
  repeat' apply And.intro
  all_goals first | (exact decide_eq_true (show jwAt 8153 = _ from rfl)) | decide +kernel
theorem jmo_208 : jmok 208 = true := by
  unfold jmok
  rw [show jmi 208 = (yX12_look, cX12_look, 1, 0, [2], [8157, 8156, 75, 1014, 12], 0) from rfl]
  dsimp only
  simp only [Bool.and_eq_true]
  repeat' apply And.intro
  all_goals first | (exact decide_eq_true (show jwAt 8157 = _ from rfl)) | decide +kernel
theorem jmo_209 : jmok 209 = true := by
  unfold jmok
  rw [show jmi 209 = (yX12_isLetter, cX12_isLetter, 1, 5, [0], [8160, 8159, 0, 1014, 12], 1) from rfl]
  dsimp only
  simp only [Bool.and_eq_true]
  repeat' apply And.intro
  all_goals first | (exact decide_eq_true (show jwAt 8160 = _ from rfl)) | decide +kernel
theorem jmo_210 : jmok 210 = true := by
  unfold jmok
  rw [show jmi 210 = (yX12_fail, cX12_fail, 3, 3, [2, 0, 0], [8164, 8163, 76, 1014, 12], 0) from rfl]
  dsimp only
  simp only [Bool.and_eq_true]
  repeat' apply And.intro
  all_goals first | (exact decide_eq_true (show jwAt 8164 = _ from rfl)) | decide +kernel
theorem jmo_211 : jmok 211 = true := by
  unfold jmok
  rw [show jmi 211 = (yX12_number, cX12_number, 5, 0, [2, 0, 0], [8168, 8167, 77, 1014, 12], 0) from rfl]
  dsimp only
  simp only [Bool.and_eq_true]
  repeat' apply And.intro
  all_goals first | (exact decide_eq_true (show jwAt 8168 = _ from rfl)) | decide +kernel
theorem jmo_212 : jmok 212 = true := by
  unfold jmok
  rw [show jmi 212 = (yX12_isDigit, cX12_isDigit, 1, 5, [0], [8171, 8170, 0, 1014, 12], 1) from rfl]
  dsimp only
  simp only [Bool.and_eq_true]
  repeat' apply And.intro
  all_goals first | (exact decide_eq_true (show jwAt 8171 = _ from rfl)) | decide +kernel
theorem jmo_213 : jmok 213 = true := by
  unfold jmok
  rw [show jmi 213 = (yX12_isIn, cX12_isIn, 6, 5, [1, 1, 1], [8174, 8173, 0, 1014, 12], 1) from rfl]
  dsimp only
  simp only [Bool.and_eq_true]
  repeat' apply And.intro
  all_goals first | (exact decide_eq_true (show jwAt 8174 = _ from rfl)) | decide +kernel
theorem jmo_214 : jmok 214 = true := by
  unfold jmok
  rw [show jmi 214 = (yX12_asksSign, cX12_asksSign, 2, 3, [2, 0], [8178, 8177, 78, 1014, 12], 0) from rfl]
  dsimp only
  simp only [Bool.and_eq_true]
  repeat' apply And.intro
  all_goals first | (exact decide_eq_true (show jwAt 8178 = _ from rfl)) | decide +kernel
theorem jmo_215 : jmok 215 = true := by
  unfold jmok
  rw [show jmi 215 = (yX12_takesSign, cX12_takesSign, 2, 5, [2, 0], [8182, 8181, 79, 1014, 12], 0) from rfl]
  dsimp only
  simp only [Bool.and_eq_true]
  repeat' apply And.intro
  all_goals first | (exact decide_eq_true (show jwAt 8182 = _ from rfl)) | decide +kernel
theorem jmo_216 : jmok 216 = true := by
  unfold jmok
  rw [show jmi 216 = (yX12_statementTold, cX12_statementTold, 2, 3, [2], [8186, 8185, 80, 1014, 12], 0) from rfl]
  dsimp only
  simp only [Bool.and_eq_true]
  repeat' apply And.intro
  all_goals first | (exact decide_eq_true (show jwAt 8186 = _ from rfl)) | decide +kernel
theorem jmo_217 : jmok 217 = true := by
  unfold jmok
  rw [show jmi 217 = (yX12_putTold, cX12_putTold, 4, 3, [2], [8190, 8189, 81, 1014, 12], 0) from rfl]
  dsimp only
  simp only [Bool.and_eq_true]
  repeat' apply And.intro
  all_goals first | (exact decide_eq_true (show jwAt 8190 = _ from rfl)) | decide +kernel
theorem jmo_218 : jmok 218 = true := by
  unfold jmok
  rw [show jmi 218 = (yX12_codesTold, cX12_codesTold, 4, 3, [2, 0, 0], [8194, 8193, 82, 1014, 12], 0) from rfl]
  dsimp only
  simp only [Bool.and_eq_true]
  repeat' apply And.intro
  all_goals first | (exact decide_eq_true (show jwAt 8194 = _ from rfl)) | decide +kernel
theorem jmo_219 : jmok 219 = true := by
  unfold jmok
  rw [show jmi 219 = (yX12_qTest, cX12_qTest, 3, 3, [2], [8198, 8197, 83, 1014, 12], 0) from rfl]
  dsimp only
  simp only [Bool.and_eq_true]
  repeat' apply And.intro
  all_goals first | (exact decide_eq_true (show jwAt 8198 = _ from rfl)) | decide +kernel
theorem jmo_220 : jmok 220 = true := by
  unfold jmok
  rw [show jmi 220 = (yX12_qOpens, cX12_qOpens, 3, 3, [2, 0, 0], [8202, 8201, 84, 1014, 12], 0) from rfl]
  dsimp only
  simp only [Bool.and_eq_true]
  repeat' apply And.intro
  all_goals first | (exact decide_eq_true (show jwAt 8202 = _ from rfl)) | decide +kernel
theorem jmo_221 : jmok 221 = true := by
  unfold jmok
  rw [show jmi 221 = (yX12_qFact, cX12_qFact, 2, 3, [2], [8206, 8205, 85, 1014, 12], 0) from rfl]
  dsimp only
  simp only [Bool.and_eq_true]
  repeat' apply And.intro
  all_goals first | (exact decide_eq_true (show jwAt 8206 = _ from rfl)) | decide +kernel
theorem jmo_222 : jmok 222 = true := by
  unfold jmok
  rw [show jmi 222 = (yX12_qCode, cX12_qCode, 2, 3, [2, 0], [8210, 8209, 86, 1014, 12], 0) from rfl]
  dsimp only
  simp only [Bool.and_eq_true]
  repeat' apply And.intro
  all_goals first | (exact decide_eq_true (show jwAt 8210 = _ from rfl)) | decide +kernel
theorem jmo_223 : jmok 223 = true := by
  unfold jmok
  rw [show jmi 223 = (yX12_qSums, cX12_qSums, 3, 3, [2], [8214, 8213, 87, 1014, 12], 0) from rfl]
  dsimp only
  simp only [Bool.and_eq_true]
  repeat' apply And.intro
  all_goals first | (exact decide_eq_true (show jwAt 8214 = _ from rfl)) | decide +kernel
theorem jmo_224 : jmok 224 = true := by
  unfold jmok
  rw [show jmi 224 = (yX12_qPartTold, cX12_qPartTold, 6, 3, [2], [8218, 8217, 88, 1014, 12], 0) from rfl]
  dsimp only
  simp only [Bool.and_eq_true]
  repeat' apply And.intro
  all_goals first | (exact decide_eq_true (show jwAt 8218 = _ from rfl)) | decide +kernel
theorem jmo_225 : jmok 225 = true := by
  unfold jmok
  rw [show jmi 225 = (yX12_qWordOf, cX12_qWordOf, 4, 0, [2, 0, 0], [8222, 8221, 89, 1014, 12], 0) from rfl]
  dsimp only
  simp only [Bool.and_eq_true]
  repeat' apply And.intro
  all_goals first | (exact decide_eq_true (show jwAt 8222 = _ from rfl)) | decide +kernel
theorem jmo_226 : jmok 226 = true := by
  unfold jmok
  rw [show jmi 226 = (yX12_qWordHere, cX12_qWordHere, 1, 0, [2], [8226, 8225, 90, 1014, 12], 0) from rfl]
  dsimp only
  simp only [Bool.and_eq_true]
  repeat' apply And.intro
  all_goals first | (exact decide_eq_true (show jwAt 8226 = _ from rfl)) | decide +kernel
theorem jmo_227 : jmok 227 = true := by
  unfold jmok
  rw [show jmi 227 = (yX12_isAllowed, cX12_isAllowed, 2, 5, [2, 0], [8230, 8229, 91, 1014, 12], 0) from rfl]
  dsimp only
  simp only [Bool.and_eq_true]
  repeat' apply And.intro
  all_goals first | (exact decide_eq_true (show jwAt 8230 = _ from rfl)) | decide +kernel
theorem jmo_228 : jmok 228 = true := by
  unfold jmok
  rw [show jmi 228 = (yX12_qAsksWord, cX12_qAsksWord, 2, 3, [2, 0], [8234, 8233, 92, 1014, 12], 0) from rfl]
  dsimp only
  simp only [Bool.and_eq_true]
  repeat' apply And.intro
  all_goals first | (exact decide_eq_true (show jwAt 8234 = _ from rfl)) | decide +kernel
theorem jmo_229 : jmok 229 = true := by
  unfold jmok
  rw [show jmi 229 = (yX12_qEndsPart, cX12_qEndsPart, 1, 3, [2], [8238, 8237, 93, 1014, 12], 0) from rfl]
  dsimp only
  simp only [Bool.and_eq_true]
  repeat' apply And.intro
  all_goals first | (exact decide_eq_true (show jwAt 8238 = _ from rfl)) | decide +kernel
theorem jmo_230 : jmok 230 = true := by
  unfold jmok
  rw [show jmi 230 = (yX12_qDrops, cX12_qDrops, 1, 3, [2], [9002, 9001, 94, 1014, 12], 0) from rfl]
  dsimp only
  simp only [Bool.and_eq_true]
  repeat' apply And.intro
  all_goals first | (exact decide_eq_true (show jwAt 9002 = _ from rfl)) | decide +kernel
theorem jmo_231 : jmok 231 = true := by
  unfold jmok
  rw [show jmi 231 = (yX12_qGoesOn, cX12_qGoesOn, 2, 5, [2], [9006, 9005, 95, 1014, 12], 0) from rfl]
  dsimp only
  simp only [Bool.and_eq_true]
  repeat' apply And.intro
  all_goals first | (exact decide_eq_true (show jwAt 9006 = _ from rfl)) | decide +kernel
theorem jmo_232 : jmok 232 = true := by
  unfold jmok
  rw [show jmi 232 = (yX12_qBracket, cX12_qBracket, 2, 0, [2], [9010, 9009, 96, 1014, 12], 0) from rfl]
  dsimp only
  simp only [Bool.and_eq_true]
  repeat' apply And.intro
  all_goals first | (exact decide_eq_true (show jwAt 9010 = _ from rfl)) | decide +kernel
theorem jmo_233 : jmok 233 = true := by
  unfold jmok
  rw [show jmi 233 = (yX12_qIsBracket, cX12_qIsBracket, 1, 5, [0], [9013, 9012, 0, 1014, 12], 1) from rfl]
  dsimp only
  simp only [Bool.and_eq_true]
  repeat' apply And.intro
  all_goals first | (exact decide_eq_true (show jwAt 9013 = _ from rfl)) | decide +kernel
theorem jmo_234 : jmok 234 = true := by
  unfold jmok
  rw [show jmi 234 = (yX12_qDropsToBracket, cX12_qDropsToBracket, 1, 3, [2], [9017, 9016, 97, 1014, 12], 0) from rfl]
  dsimp only
  simp only [Bool.and_eq_true]
  repeat' apply And.intro
  all_goals first | (exact decide_eq_true (show jwAt 9017 = _ from rfl)) | decide +kernel
theorem jmo_235 : jmok 235 = true := by
  unfold jmok
  rw [show jmi 235 = (yX12_qIsOn, cX12_qIsOn, 2, 5, [2, 0], [9021, 9020, 98, 1014, 12], 0) from rfl]
  dsimp only
  simp only [Bool.and_eq_true]
  repeat' apply And.intro
  all_goals first | (exact decide_eq_true (show jwAt 9021 = _ from rfl)) | decide +kernel
theorem jmo_236 : jmok 236 = true := by
  unfold jmok
  rw [show jmi 236 = (yX12_qDropsNots, cX12_qDropsNots, 1, 3, [2], [9025, 9024, 99, 1014, 12], 0) from rfl]
  dsimp only
  simp only [Bool.and_eq_true]
  repeat' apply And.intro
  all_goals first | (exact decide_eq_true (show jwAt 9025 = _ from rfl)) | decide +kernel
theorem jmo_237 : jmok 237 = true := by
  unfold jmok
  rw [show jmi 237 = (yX12_qGoesOnTest, cX12_qGoesOnTest, 1, 5, [2], [9029, 9028, 100, 1014, 12], 0) from rfl]
  dsimp only
  simp only [Bool.and_eq_true]
  repeat' apply And.intro
  all_goals first | (exact decide_eq_true (show jwAt 9029 = _ from rfl)) | decide +kernel
theorem jmo_238 : jmok 238 = true := by
  unfold jmok
  rw [show jmi 238 = (yX12_qHasSquare, cX12_qHasSquare, 2, 5, [2], [9033, 9032, 101, 1014, 12], 0) from rfl]
  dsimp only
  simp only [Bool.and_eq_true]
  repeat' apply And.intro
  all_goals first | (exact decide_eq_true (show jwAt 9033 = _ from rfl)) | decide +kernel
theorem jmo_239 : jmok 239 = true := by
  unfold jmok
  rw [show jmi 239 = (yX12_refuses, cX12_refuses, 2, 0, [2, 0], [9037, 9036, 102, 1014, 12], 0) from rfl]
  dsimp only
  simp only [Bool.and_eq_true]
  repeat' apply And.intro
  all_goals first | (exact decide_eq_true (show jwAt 9037 = _ from rfl)) | decide +kernel
theorem jmo_240 : jmok 240 = true := by
  unfold jmok
  rw [show jmi 240 = (yX12_stands, cX12_stands, 2, 3, [2], [9041, 9040, 103, 1014, 12], 0) from rfl]
  dsimp only
  simp only [Bool.and_eq_true]
  repeat' apply And.intro
  all_goals first | (exact decide_eq_true (show jwAt 9041 = _ from rfl)) | decide +kernel
theorem jmo_241 : jmok 241 = true := by
  unfold jmok
  rw [show jmi 241 = (yX12_opensOnDisk, cX12_opensOnDisk, 4, 3, [2, 0, 0], [9045, 9044, 104, 1014, 12], 0) from rfl]
  dsimp only
  simp only [Bool.and_eq_true]
  repeat' apply And.intro
  all_goals first | (exact decide_eq_true (show jwAt 9045 = _ from rfl)) | decide +kernel
theorem jmo_242 : jmok 242 = true := by
  unfold jmok
  rw [show jmi 242 = (yX12_opens, cX12_opens, 2, 3, [2, 0], [9049, 9048, 105, 1014, 12], 0) from rfl]
  dsimp only
  simp only [Bool.and_eq_true]
  repeat' apply And.intro
  all_goals first | (exact decide_eq_true (show jwAt 9049 = _ from rfl)) | decide +kernel
theorem jmo_243 : jmok 243 = true := by
  unfold jmok
  rw [show jmi 243 = (yX12_headByte, cX12_headByte, 6, 0, [2, 0, 0, 0], [9053, 9052, 106, 1014, 12], 0) from rfl]
  dsimp only
  simp only [Bool.and_eq_true]
  repeat' apply And.intro
  all_goals first | (exact decide_eq_true (show jwAt 9053 = _ from rfl)) | decide +kernel
theorem jmo_244 : jmok 244 = true := by
  unfold jmok
  rw [show jmi 244 = (yX12_headByteAt, cX12_headByteAt, 3, 0, [0, 0, 0], [9056, 9055, 0, 1014, 12], 1) from rfl]
  dsimp only
  simp only [Bool.and_eq_true]
  repeat' apply And.intro
  all_goals first | (exact decide_eq_true (show jwAt 9056 = _ from rfl)) | decide +kernel
theorem jmo_245 : jmok 245 = true := by
  unfold jmok
  rw [show jmi 245 = (yX12_checkBy, cX12_checkBy, 2, 0, [0, 0], [9059, 9058, 0, 1014, 12], 1) from rfl]
  dsimp only
  simp only [Bool.and_eq_true]
  repeat' apply And.intro
  all_goals first | (exact decide_eq_true (show jwAt 9059 = _ from rfl)) | decide +kernel
theorem jmo_246 : jmok 246 = true := by
  unfold jmok
  rw [show jmi 246 = (yX12_lands, cX12_lands, 3, 3, [2, 0, 0], [9063, 9062, 107, 1014, 12], 0) from rfl]
  dsimp only
  simp only [Bool.and_eq_true]
  repeat' apply And.intro
  all_goals first | (exact decide_eq_true (show jwAt 9063 = _ from rfl)) | decide +kernel
theorem jmo_247 : jmok 247 = true := by
  unfold jmok
  rw [show jmi 247 = (yX12_canAppend, cX12_canAppend, 2, 5, [2, 0], [9067, 9066, 108, 1014, 12], 0) from rfl]
  dsimp only
  simp only [Bool.and_eq_true]
  repeat' apply And.intro
  all_goals first | (exact decide_eq_true (show jwAt 9067 = _ from rfl)) | decide +kernel
theorem jmo_248 : jmok 248 = true := by
  unfold jmok
  rw [show jmi 248 = (yX12_hasRoom, cX12_hasRoom, 7, 5, [2, 0, 0], [9071, 9070, 109, 1014, 12], 0) from rfl]
  dsimp only
  simp only [Bool.and_eq_true]
  repeat' apply And.intro
  all_goals first | (exact decide_eq_true (show jwAt 9071 = _ from rfl)) | decide +kernel
theorem jmo_249 : jmok 249 = true := by
  unfold jmok
  rw [show jmi 249 = (yX12_length, cX12_length, 1, 0, [2], [9075, 9074, 110, 1014, 12], 0) from rfl]
  dsimp only
  simp only [Bool.and_eq_true]
  repeat' apply And.intro
  all_goals first | (exact decide_eq_true (show jwAt 9075 = _ from rfl)) | decide +kernel
theorem jmo_250 : jmok 250 = true := by
  unfold jmok
  rw [show jmi 250 = (yX12_blockBytes, cX12_blockBytes, 1, 0, [2], [9079, 9078, 111, 1014, 12], 0) from rfl]
  dsimp only
  simp only [Bool.and_eq_true]
  repeat' apply And.intro
  all_goals first | (exact decide_eq_true (show jwAt 9079 = _ from rfl)) | decide +kernel
theorem jmo_251 : jmok 251 = true := by
  unfold jmok
  rw [show jmi 251 = (yX12_appends, cX12_appends, 5, 3, [2, 0, 0, 0], [9083, 9082, 112, 1014, 12], 0) from rfl]
  dsimp only
  simp only [Bool.and_eq_true]
  repeat' apply And.intro
  all_goals first | (exact decide_eq_true (show jwAt 9083 = _ from rfl)) | decide +kernel
theorem jmo_252 : jmok 252 = true := by
  unfold jmok
  rw [show jmi 252 = (yX12_fault, cX12_fault, 2, 0, [2, 0], [9087, 9085, 9086, 1014, 12], 0) from rfl]
  dsimp only
  simp only [Bool.and_eq_true]
  repeat' apply And.intro
  all_goals first | (exact decide_eq_true (show jwAt 9087 = _ from rfl)) | decide +kernel
theorem jmo_253 : jmok 253 = true := by
  unfold jmok
  rw [show jmi 253 = (yX12_has, cX12_has, 2, 0, [2, 0], [9091, 9089, 9090, 1014, 12], 0) from rfl]
  dsimp only
  simp only [Bool.and_eq_true]
  repeat' apply And.intro
  all_goals first | (exact decide_eq_true (show jwAt 9091 = _ from rfl)) | decide +kernel
theorem jmo_254 : jmok 254 = true := by
  unfold jmok
  rw [show jmi 254 = (yX12_segmentMany, cX12_segmentMany, 1, 0, [2], [9095, 9094, 113, 1014, 12], 0) from rfl]
  dsimp only
  simp only [Bool.and_eq_true]
  repeat' apply And.intro
  all_goals first | (exact decide_eq_true (show jwAt 9095 = _ from rfl)) | decide +kernel
theorem jmo_255 : jmok 255 = true := by
  unfold jmok
  rw [show jmi 255 = (yX12_scarMany, cX12_scarMany, 3, 0, [2], [9099, 9098, 114, 1014, 12], 0) from rfl]
  dsimp only
  simp only [Bool.and_eq_true]
  repeat' apply And.intro
  all_goals first | (exact decide_eq_true (show jwAt 9099 = _ from rfl)) | decide +kernel
theorem jmo_256 : jmok 256 = true := by
  unfold jmok
  rw [show jmi 256 = (yX12_segment, cX12_segment, 3, 0, [2, 0, 0], [9103, 9101, 9102, 1014, 12], 0) from rfl]
  dsimp only
  simp only [Bool.and_eq_true]
  repeat' apply And.intro
  all_goals first | (exact decide_eq_true (show jwAt 9103 = _ from rfl)) | decide +kernel
theorem jmo_257 : jmok 257 = true := by
  unfold jmok
  rw [show jmi 257 = (yX12_isSegment, cX12_isSegment, 2, 5, [2, 0], [9107, 9106, 115, 1014, 12], 0) from rfl]
  dsimp only
  simp only [Bool.and_eq_true]
  repeat' apply And.intro
  all_goals first | (exact decide_eq_true (show jwAt 9107 = _ from rfl)) | decide +kernel
theorem jmo_258 : jmok 258 = true := by
  unfold jmok
  rw [show jmi 258 = (yX12_isHead, cX12_isHead, 4, 5, [2, 0], [9111, 9110, 116, 1014, 12], 0) from rfl]
  dsimp only
  simp only [Bool.and_eq_true]
  repeat' apply And.intro
  all_goals first | (exact decide_eq_true (show jwAt 9111 = _ from rfl)) | decide +kernel
theorem jmo_259 : jmok 259 = true := by
  unfold jmok
  rw [show jmi 259 = (yX12_diskAt, cX12_diskAt, 3, 0, [2, 0, 0], [9115, 9114, 117, 1014, 12], 0) from rfl]
  dsimp only
  simp only [Bool.and_eq_true]
  repeat' apply And.intro
  all_goals first | (exact decide_eq_true (show jwAt 9115 = _ from rfl)) | decide +kernel
theorem jmo_260 : jmok 260 = true := by
  unfold jmok
  rw [show jmi 260 = (yX12_serialOf, cX12_serialOf, 2, 0, [2, 0], [9119, 9118, 118, 1014, 12], 0) from rfl]
  dsimp only
  simp only [Bool.and_eq_true]
  repeat' apply And.intro
  all_goals first | (exact decide_eq_true (show jwAt 9119 = _ from rfl)) | decide +kernel
theorem jmo_261 : jmok 261 = true := by
  unfold jmok
  rw [show jmi 261 = (yX12_firstOf, cX12_firstOf, 2, 0, [2, 0], [9123, 9122, 119, 1014, 12], 0) from rfl]
  dsimp only
  simp only [Bool.and_eq_true]
  repeat' apply And.intro
  all_goals first | (exact decide_eq_true (show jwAt 9123 = _ from rfl)) | decide +kernel
theorem jmo_262 : jmok 262 = true := by
  unfold jmok
  rw [show jmi 262 = (yX12_isFree, cX12_isFree, 2, 5, [2, 0], [9127, 9126, 120, 1014, 12], 0) from rfl]
  dsimp only
  simp only [Bool.and_eq_true]
  repeat' apply And.intro
  all_goals first | (exact decide_eq_true (show jwAt 9127 = _ from rfl)) | decide +kernel
theorem jmo_263 : jmok 263 = true := by
  unfold jmok
  rw [show jmi 263 = (yX12_isOnWay, cX12_isOnWay, 3, 5, [2, 0], [9131, 9130, 121, 1014, 12], 0) from rfl]
  dsimp only
  simp only [Bool.and_eq_true]
  repeat' apply And.intro
  all_goals first | (exact decide_eq_true (show jwAt 9131 = _ from rfl)) | decide +kernel
theorem jmo_264 : jmok 264 = true := by
  unfold jmok
  rw [show jmi 264 = (yX12_framesOf, cX12_framesOf, 2, 0, [2, 0], [9135, 9134, 122, 1014, 12], 0) from rfl]
  dsimp only
  simp only [Bool.and_eq_true]
  repeat' apply And.intro
  all_goals first | (exact decide_eq_true (show jwAt 9135 = _ from rfl)) | decide +kernel
theorem jmo_265 : jmok 265 = true := by
  unfold jmok
  rw [show jmi 265 = (yX12_walks, cX12_walks, 5, 3, [2, 0], [9139, 9138, 123, 1014, 12], 0) from rfl]
  dsimp only
  simp only [Bool.and_eq_true]
  repeat' apply And.intro
  all_goals first | (exact decide_eq_true (show jwAt 9139 = _ from rfl)) | decide +kernel
theorem jmo_266 : jmok 266 = true := by
  unfold jmok
  rw [show jmi 266 = (yX12_isFrame, cX12_isFrame, 7, 5, [2, 0, 0], [9143, 9142, 124, 1014, 12], 0) from rfl]
  dsimp only
  simp only [Bool.and_eq_true]
  repeat' apply And.intro
  all_goals first | (exact decide_eq_true (show jwAt 9143 = _ from rfl)) | decide +kernel
theorem jmo_267 : jmok 267 = true := by
  unfold jmok
  rw [show jmi 267 = (yX12_canBe, cX12_canBe, 3, 5, [2, 0, 0], [9147, 9146, 125, 1014, 12], 0) from rfl]
  dsimp only
  simp only [Bool.and_eq_true]
  repeat' apply And.intro
  all_goals first | (exact decide_eq_true (show jwAt 9147 = _ from rfl)) | decide +kernel
theorem jmo_268 : jmok 268 = true := by
  unfold jmok
  rw [show jmi 268 = (yX12_isBorne, cX12_isBorne, 8, 5, [2, 0, 0], [9151, 9150, 126, 1014, 12], 0) from rfl]
  dsimp only
  simp only [Bool.and_eq_true]
  repeat' apply And.intro
  all_goals first | (exact decide_eq_true (show jwAt 9151 = _ from rfl)) | decide +kernel
theorem jmo_269 : jmok 269 = true := by
  unfold jmok
  rw [show jmi 269 = (yX12_recordRead, cX12_recordRead, 2, 3, [2, 0], [9156, 9155, 127, 1014, 12], 0) from rfl]
  dsimp only
  simp only [Bool.and_eq_true]
  repeat' apply And.intro
  all_goals first | (exact decide_eq_true (show jwAt 9156 = _ from rfl)) | decide +kernel
theorem jmo_270 : jmok 270 = true := by
  unfold jmok
  rw [show jmi 270 = (yX12_frame, cX12_frame, 5, 0, [2, 0, 0, 0], [9160, 9158, 9159, 1014, 12], 0) from rfl]
  dsimp only
  simp only [Bool.and_eq_true]
  repeat' apply And.intro
  all_goals first | (exact decide_eq_true (show jwAt 9160 = _ from rfl)) | decide +kernel
theorem jmo_271 : jmok 271 = true := by
  unfold jmok
  rw [show jmi 271 = (yX12_octetOf, cX12_octetOf, 3, 0, [2, 0, 0], [9165, 9163, 9164, 1014, 12], 0) from rfl]
  dsimp only
  simp only [Bool.and_eq_true]
  repeat' apply And.intro
  all_goals first | (exact decide_eq_true (show jwAt 9165 = _ from rfl)) | decide +kernel
theorem jmo_272 : jmok 272 = true := by
  unfold jmok
  rw [show jmi 272 = (yX12_place, cX12_place, 2, 0, [2, 0], [9169, 9167, 9168, 1014, 12], 0) from rfl]
  dsimp only
  simp only [Bool.and_eq_true]
  repeat' apply And.intro
  all_goals first | (exact decide_eq_true (show jwAt 9169 = _ from rfl)) | decide +kernel
theorem jmo_273 : jmok 273 = true := by
  unfold jmok
  rw [show jmi 273 = (yX12_value, cX12_value, 2, 0, [2, 0], [9173, 9171, 9172, 1014, 12], 0) from rfl]
  dsimp only
  simp only [Bool.and_eq_true]
  repeat' apply And.intro
  all_goals first | (exact decide_eq_true (show jwAt 9173 = _ from rfl)) | decide +kernel
theorem jmo_274 : jmok 274 = true := by
  unfold jmok
  rw [show jmi 274 = (yX12_soon, cX12_soon, 4, 0, [2, 0], [9178, 9176, 9177, 1014, 12], 0) from rfl]
  dsimp only
  simp only [Bool.and_eq_true]
  repeat' apply And.intro
  all_goals first | (exact decide_eq_true (show jwAt 9178 = _ from rfl)) | decide +kernel
theorem jmo_275 : jmok 275 = true := by
  unfold jmok
  rw [show jmi 275 = (yX12_recordOf, cX12_recordOf, 3, 0, [2, 0, 0], [9183, 9182, 128, 1014, 12], 0) from rfl]
  dsimp only
  simp only [Bool.and_eq_true]
  repeat' apply And.intro
  all_goals first | (exact decide_eq_true (show jwAt 9183 = _ from rfl)) | decide +kernel
theorem jmo_276 : jmok 276 = true := by
  unfold jmok
  rw [show jmi 276 = (yX12_waiting, cX12_waiting, 4, 0, [2, 0, 0], [9187, 9185, 9186, 1014, 12], 0) from rfl]
  dsimp only
  simp only [Bool.and_eq_true]
  repeat' apply And.intro
  all_goals first | (exact decide_eq_true (show jwAt 9187 = _ from rfl)) | decide +kernel
theorem jmo_277 : jmok 277 = true := by
  unfold jmok
  rw [show jmi 277 = (yX12_waiter, cX12_waiter, 2, 0, [2, 0], [9192, 9190, 9191, 1014, 12], 0) from rfl]
  dsimp only
  simp only [Bool.and_eq_true]
  repeat' apply And.intro
  all_goals first | (exact decide_eq_true (show jwAt 9192 = _ from rfl)) | decide +kernel
theorem jmo_278 : jmok 278 = true := by
  unfold jmok
  rw [show jmi 278 = (yX12_kept, cX12_kept, 3, 0, [2, 0, 0], [9197, 9195, 9196, 1014, 12], 0) from rfl]
  dsimp only
  simp only [Bool.and_eq_true]
  repeat' apply And.intro
  all_goals first | (exact decide_eq_true (show jwAt 9197 = _ from rfl)) | decide +kernel
