/-! methods checked, piece 0 -/
theorem jmo_1 : jmok 1 = true := by
  unfold jmok
  rw [show jmi 1 = (yX0_init, cX0_init, 1, 3, [2], [1178, 1177, 0, 1006, 0], 0) from rfl]
  dsimp only
  simp only [Bool.and_eq_true]
  repeat' apply And.intro
  all_goals first | (exact decide_eq_true (show jwAt 1178 = _ from rfl)) | decide +kernel
theorem jmo_2 : jmok 2 = true := by
  unfold jmok
  rw [show jmi 2 = (yX0_blank, cX0_blank, 2, 3, [2, 2], [4077, 4075, 4076, 1006, 0], 0) from rfl]
  dsimp only
  simp only [Bool.and_eq_true]
  repeat' apply And.intro
  all_goals first | (exact decide_eq_true (show jwAt 4077 = _ from rfl)) | decide +kernel
theorem jmo_3 : jmok 3 = true := by
  unfold jmok
  rw [show jmi 3 = (yX0_writeHead, cX0_writeHead, 5, 3, [2, 0, 0, 0], [4102, 4100, 4101, 1006, 0], 0) from rfl]
  dsimp only
  simp only [Bool.and_eq_true]
  repeat' apply And.intro
  all_goals first | (exact decide_eq_true (show jwAt 4102 = _ from rfl)) | decide +kernel
theorem jmo_4 : jmok 4 = true := by
  unfold jmok
  rw [show jmi 4 = (yX0_write, cX0_write, 3, 3, [2, 0, 0], [4106, 4104, 4105, 1006, 0], 0) from rfl]
  dsimp only
  simp only [Bool.and_eq_true]
  repeat' apply And.intro
  all_goals first | (exact decide_eq_true (show jwAt 4106 = _ from rfl)) | decide +kernel
theorem jmo_5 : jmok 5 = true := by
  unfold jmok
  rw [show jmi 5 = (yX0_behindRecord, cX0_behindRecord, 8, 0, [2, 0, 0], [4126, 4124, 4125, 1006, 0], 0) from rfl]
  dsimp only
  simp only [Bool.and_eq_true]
  repeat' apply And.intro
  all_goals first | (exact decide_eq_true (show jwAt 4126 = _ from rfl)) | decide +kernel
theorem jmo_6 : jmok 6 = true := by
  unfold jmok
  rw [show jmi 6 = (yX0_blockEnd, cX0_blockEnd, 2, 0, [2, 0], [4130, 4129, 30, 1006, 0], 0) from rfl]
  dsimp only
  simp only [Bool.and_eq_true]
  repeat' apply And.intro
  all_goals first | (exact decide_eq_true (show jwAt 4130 = _ from rfl)) | decide +kernel
theorem jmo_7 : jmok 7 = true := by
  unfold jmok
  rw [show jmi 7 = (yX0_scarCount, cX0_scarCount, 3, 0, [2], [4154, 4152, 4153, 1006, 0], 0) from rfl]
  dsimp only
  simp only [Bool.and_eq_true]
  repeat' apply And.intro
  all_goals first | (exact decide_eq_true (show jwAt 4154 = _ from rfl)) | decide +kernel
theorem jmo_8 : jmok 8 = true := by
  unfold jmok
  rw [show jmi 8 = (yX0_headStands, cX0_headStands, 3, 5, [2, 0], [4175, 4173, 4174, 1006, 0], 0) from rfl]
  dsimp only
  simp only [Bool.and_eq_true]
  repeat' apply And.intro
  all_goals first | (exact decide_eq_true (show jwAt 4175 = _ from rfl)) | decide +kernel
theorem jmo_9 : jmok 9 = true := by
  unfold jmok
  rw [show jmi 9 = (yX0_holds, cX0_holds, 3, 5, [2, 0, 0], [4179, 4177, 4178, 1006, 0], 0) from rfl]
  dsimp only
  simp only [Bool.and_eq_true]
  repeat' apply And.intro
  all_goals first | (exact decide_eq_true (show jwAt 4179 = _ from rfl)) | decide +kernel
theorem jmo_10 : jmok 10 = true := by
  unfold jmok
  rw [show jmi 10 = (yX0_serialOf, cX0_serialOf, 2, 0, [2, 0], [4183, 4181, 4182, 1006, 0], 0) from rfl]
  dsimp only
  simp only [Bool.and_eq_true]
  repeat' apply And.intro
  all_goals first | (exact decide_eq_true (show jwAt 4183 = _ from rfl)) | decide +kernel
theorem jmo_11 : jmok 11 = true := by
  unfold jmok
  rw [show jmi 11 = (yX0_octetAt, cX0_octetAt, 4, 0, [2, 0, 0], [4187, 4185, 4186, 1006, 0], 0) from rfl]
  dsimp only
  simp only [Bool.and_eq_true]
  repeat' apply And.intro
  all_goals first | (exact decide_eq_true (show jwAt 4187 = _ from rfl)) | decide +kernel
theorem jmo_12 : jmok 12 = true := by
  unfold jmok
  rw [show jmi 12 = (yX0_frameStart, cX0_frameStart, 3, 0, [2, 0], [4200, 4198, 4199, 1006, 0], 0) from rfl]
  dsimp only
  simp only [Bool.and_eq_true]
  repeat' apply And.intro
  all_goals first | (exact decide_eq_true (show jwAt 4200 = _ from rfl)) | decide +kernel
theorem jmo_13 : jmok 13 = true := by
  unfold jmok
  rw [show jmi 13 = (yX0_frameStands, cX0_frameStands, 8, 5, [2, 0, 0, 0], [4204, 4202, 4203, 1006, 0], 0) from rfl]
  dsimp only
  simp only [Bool.and_eq_true]
  repeat' apply And.intro
  all_goals first | (exact decide_eq_true (show jwAt 4204 = _ from rfl)) | decide +kernel
theorem jmo_14 : jmok 14 = true := by
  unfold jmok
  rw [show jmi 14 = (yX0_firstOf, cX0_firstOf, 2, 0, [2, 0], [4228, 4226, 4227, 1006, 0], 0) from rfl]
  dsimp only
  simp only [Bool.and_eq_true]
  repeat' apply And.intro
  all_goals first | (exact decide_eq_true (show jwAt 4228 = _ from rfl)) | decide +kernel
theorem jmo_15 : jmok 15 = true := by
  unfold jmok
  rw [show jmi 15 = (yX0_copyFrom, cX0_copyFrom, 2, 3, [2, 2], [5054, 5052, 5053, 1006, 0], 0) from rfl]
  dsimp only
  simp only [Bool.and_eq_true]
  repeat' apply And.intro
  all_goals first | (exact decide_eq_true (show jwAt 5054 = _ from rfl)) | decide +kernel
theorem jmo_16 : jmok 16 = true := by
  unfold jmok
  rw [show jmi 16 = (yX0_frameLength, cX0_frameLength, 3, 0, [2, 0, 0], [5216, 5214, 5215, 1006, 0], 0) from rfl]
  dsimp only
  simp only [Bool.and_eq_true]
  repeat' apply And.intro
  all_goals first | (exact decide_eq_true (show jwAt 5216 = _ from rfl)) | decide +kernel
theorem jmo_17 : jmok 17 = true := by
  unfold jmok
  rw [show jmi 17 = (yX0_greatestSerial, cX0_greatestSerial, 3, 0, [2], [6050, 6048, 6049, 1006, 0], 0) from rfl]
  dsimp only
  simp only [Bool.and_eq_true]
  repeat' apply And.intro
  all_goals first | (exact decide_eq_true (show jwAt 6050 = _ from rfl)) | decide +kernel
theorem jmo_18 : jmok 18 = true := by
  unfold jmok
  rw [show jmi 18 = (yX0_total, cX0_total, 1, 0, [2], [6068, 6066, 6067, 1006, 0], 0) from rfl]
  dsimp only
  simp only [Bool.and_eq_true]
  repeat' apply And.intro
  all_goals first | (exact decide_eq_true (show jwAt 6068 = _ from rfl)) | decide +kernel
theorem jmo_19 : jmok 19 = true := by
  unfold jmok
  rw [show jmi 19 = (yX0_turn, cX0_turn, 2, 3, [2, 0], [6072, 6070, 6071, 1006, 0], 0) from rfl]
  dsimp only
  simp only [Bool.and_eq_true]
  repeat' apply And.intro
  all_goals first | (exact decide_eq_true (show jwAt 6072 = _ from rfl)) | decide +kernel
theorem jmo_20 : jmok 20 = true := by
  unfold jmok
  rw [show jmi 20 = (yX0_wipe, cX0_wipe, 5, 0, [2, 0, 0], [6172, 6170, 6171, 1006, 0], 0) from rfl]
  dsimp only
  simp only [Bool.and_eq_true]
  repeat' apply And.intro
  all_goals first | (exact decide_eq_true (show jwAt 6172 = _ from rfl)) | decide +kernel
theorem jmo_21 : jmok 21 = true := by
  unfold jmok
  rw [show jmi 21 = (yX1_init, cX1_init, 1, 3, [2], [1208, 1207, 0, 1007, 1], 0) from rfl]
  dsimp only
  simp only [Bool.and_eq_true]
  repeat' apply And.intro
  all_goals first | (exact decide_eq_true (show jwAt 1208 = _ from rfl)) | decide +kernel
theorem jmo_22 : jmok 22 = true := by
  unfold jmok
  rw [show jmi 22 = (yX1_clear, cX1_clear, 1, 3, [2], [4082, 4080, 4081, 1007, 1], 0) from rfl]
  dsimp only
  simp only [Bool.and_eq_true]
  repeat' apply And.intro
  all_goals first | (exact decide_eq_true (show jwAt 4082 = _ from rfl)) | decide +kernel
theorem jmo_23 : jmok 23 = true := by
  unfold jmok
  rw [show jmi 23 = (yX1_copyFrom, cX1_copyFrom, 2, 3, [2, 2], [5065, 5063, 5064, 1007, 1], 0) from rfl]
  dsimp only
  simp only [Bool.and_eq_true]
  repeat' apply And.intro
  all_goals first | (exact decide_eq_true (show jwAt 5065 = _ from rfl)) | decide +kernel
theorem jmo_24 : jmok 24 = true := by
  unfold jmok
  rw [show jmi 24 = (yX1_arrive, cX1_arrive, 5, 3, [2, 2, 0, 0], [5089, 5087, 5088, 1007, 1], 0) from rfl]
  dsimp only
  simp only [Bool.and_eq_true]
  repeat' apply And.intro
  all_goals first | (exact decide_eq_true (show jwAt 5089 = _ from rfl)) | decide +kernel
theorem jmo_25 : jmok 25 = true := by
  unfold jmok
  rw [show jmi 25 = (yX1_add, cX1_add, 3, 3, [2, 0, 0], [5206, 5204, 5205, 1007, 1], 0) from rfl]
  dsimp only
  simp only [Bool.and_eq_true]
  repeat' apply And.intro
  all_goals first | (exact decide_eq_true (show jwAt 5206 = _ from rfl)) | decide +kernel
theorem jmo_26 : jmok 26 = true := by
  unfold jmok
  rw [show jmi 26 = (yX2_init, cX2_init, 1, 3, [2], [1039, 1038, 0, 1003, 2], 0) from rfl]
  dsimp only
  simp only [Bool.and_eq_true]
  repeat' apply And.intro
  all_goals first | (exact decide_eq_true (show jwAt 1039 = _ from rfl)) | decide +kernel
theorem jmo_27 : jmok 27 = true := by
  unfold jmok
  rw [show jmi 27 = (yX2_become, cX2_become, 3, 3, [2, 2], [3116, 3114, 3115, 1003, 2], 0) from rfl]
  dsimp only
  simp only [Bool.and_eq_true]
  repeat' apply And.intro
  all_goals first | (exact decide_eq_true (show jwAt 3116 = _ from rfl)) | decide +kernel
theorem jmo_28 : jmok 28 = true := by
  unfold jmok
  rw [show jmi 28 = (yX2_emit, cX2_emit, 2, 3, [2, 0], [3120, 3118, 3119, 1003, 2], 0) from rfl]
  dsimp only
  simp only [Bool.and_eq_true]
  repeat' apply And.intro
  all_goals first | (exact decide_eq_true (show jwAt 3120 = _ from rfl)) | decide +kernel
theorem jmo_29 : jmok 29 = true := by
  unfold jmok
  rw [show jmi 29 = (yX2_clear, cX2_clear, 1, 3, [2], [3238, 3236, 3237, 1003, 2], 0) from rfl]
  dsimp only
  simp only [Bool.and_eq_true]
  repeat' apply And.intro
  all_goals first | (exact decide_eq_true (show jwAt 3238 = _ from rfl)) | decide +kernel
theorem jmo_30 : jmok 30 = true := by
  unfold jmok
  rw [show jmi 30 = (yX2_tell, cX2_tell, 3, 3, [2, 0, 0], [5118, 5116, 5117, 1003, 2], 0) from rfl]
  dsimp only
  simp only [Bool.and_eq_true]
  repeat' apply And.intro
  all_goals first | (exact decide_eq_true (show jwAt 5118 = _ from rfl)) | decide +kernel
theorem jmo_31 : jmok 31 = true := by
  unfold jmok
  rw [show jmi 31 = (yX2_evaluate, cX2_evaluate, 4, 0, [2], [5134, 5132, 5133, 1003, 2], 0) from rfl]
  dsimp only
  simp only [Bool.and_eq_true]
  repeat' apply And.intro
  all_goals first | (exact decide_eq_true (show jwAt 5134 = _ from rfl)) | decide +kernel
theorem jmo_32 : jmok 32 = true := by
  unfold jmok
  rw [show jmi 32 = (yX2_push, cX2_push, 2, 3, [2, 0], [5139, 5138, 39, 1003, 2], 0) from rfl]
  dsimp only
  simp only [Bool.and_eq_true]
  repeat' apply And.intro
  all_goals first | (exact decide_eq_true (show jwAt 5139 = _ from rfl)) | decide +kernel
theorem jmo_33 : jmok 33 = true := by
  unfold jmok
  rw [show jmi 33 = (yX2_pop, cX2_pop, 1, 0, [2], [5143, 5142, 40, 1003, 2], 0) from rfl]
  dsimp only
  simp only [Bool.and_eq_true]
  repeat' apply And.intro
  all_goals first | (exact decide_eq_true (show jwAt 5143 = _ from rfl)) | decide +kernel
theorem jmo_34 : jmok 34 = true := by
  unfold jmok
  rw [show jmi 34 = (yX2_ofOne, cX2_ofOne, 3, 0, [2, 0, 0], [5147, 5146, 41, 1003, 2], 0) from rfl]
  dsimp only
  simp only [Bool.and_eq_true]
  repeat' apply And.intro
  all_goals first | (exact decide_eq_true (show jwAt 5147 = _ from rfl)) | decide +kernel
theorem jmo_35 : jmok 35 = true := by
  unfold jmok
  rw [show jmi 35 = (yX2_ofTwo, cX2_ofTwo, 4, 0, [2, 0, 0, 0], [5151, 5150, 42, 1003, 2], 0) from rfl]
  dsimp only
  simp only [Bool.and_eq_true]
  repeat' apply And.intro
  all_goals first | (exact decide_eq_true (show jwAt 5151 = _ from rfl)) | decide +kernel
theorem jmo_36 : jmok 36 = true := by
  unfold jmok
  rw [show jmi 36 = (yX2_held, cX2_held, 3, 0, [2, 1], [5155, 5154, 43, 1003, 2], 0) from rfl]
  dsimp only
  simp only [Bool.and_eq_true]
  repeat' apply And.intro
  all_goals first | (exact decide_eq_true (show jwAt 5155 = _ from rfl)) | decide +kernel
theorem jmo_37 : jmok 37 = true := by
  unfold jmok
  rw [show jmi 37 = (yX2_clearFacts, cX2_clearFacts, 1, 3, [2], [6228, 6226, 6227, 1003, 2], 0) from rfl]
  dsimp only
  simp only [Bool.and_eq_true]
  repeat' apply And.intro
  all_goals first | (exact decide_eq_true (show jwAt 6228 = _ from rfl)) | decide +kernel
theorem jmo_38 : jmok 38 = true := by
  unfold jmok
  rw [show jmi 38 = (yX3_init, cX3_init, 1, 3, [2], [2164, 2163, 0, 1013, 3], 0) from rfl]
  dsimp only
  simp only [Bool.and_eq_true]
  repeat' apply And.intro
  all_goals first | (exact decide_eq_true (show jwAt 2164 = _ from rfl)) | decide +kernel
theorem jmo_39 : jmok 39 = true := by
  unfold jmok
  rw [show jmi 39 = (yX3_frameCount, cX3_frameCount, 4, 0, [2, 2, 0], [4171, 4169, 4170, 1013, 3], 0) from rfl]
  dsimp only
  simp only [Bool.and_eq_true]
  repeat' apply And.intro
  all_goals first | (exact decide_eq_true (show jwAt 4171 = _ from rfl)) | decide +kernel
theorem jmo_40 : jmok 40 = true := by
  unfold jmok
  rw [show jmi 40 = (yX3_open, cX3_open, 3, 3, [2, 2, 0], [4191, 4189, 4190, 1013, 3], 0) from rfl]
  dsimp only
  simp only [Bool.and_eq_true]
  repeat' apply And.intro
  all_goals first | (exact decide_eq_true (show jwAt 4191 = _ from rfl)) | decide +kernel
theorem jmo_41 : jmok 41 = true := by
  unfold jmok
  rw [show jmi 41 = (yX3_advance, cX3_advance, 4, 5, [2, 2], [4196, 4194, 4195, 1013, 3], 0) from rfl]
  dsimp only
  simp only [Bool.and_eq_true]
  repeat' apply And.intro
  all_goals first | (exact decide_eq_true (show jwAt 4196 = _ from rfl)) | decide +kernel
theorem jmo_42 : jmok 42 = true := by
  unfold jmok
  rw [show jmi 42 = (yX3_canBe, cX3_canBe, 2, 5, [2, 0], [4209, 4208, 31, 1013, 3], 0) from rfl]
  dsimp only
  simp only [Bool.and_eq_true]
  repeat' apply And.intro
  all_goals first | (exact decide_eq_true (show jwAt 4209 = _ from rfl)) | decide +kernel
theorem jmo_43 : jmok 43 = true := by
  unfold jmok
  rw [show jmi 43 = (yX3_takeOctet, cX3_takeOctet, 3, 3, [2, 0, 0], [4213, 4212, 32, 1013, 3], 0) from rfl]
  dsimp only
  simp only [Bool.and_eq_true]
  repeat' apply And.intro
  all_goals first | (exact decide_eq_true (show jwAt 4213 = _ from rfl)) | decide +kernel
theorem jmo_44 : jmok 44 = true := by
  unfold jmok
  rw [show jmi 44 = (yX3_isLast, cX3_isLast, 1, 5, [2], [4218, 4216, 4217, 1013, 3], 0) from rfl]
  dsimp only
  simp only [Bool.and_eq_true]
  repeat' apply And.intro
  all_goals first | (exact decide_eq_true (show jwAt 4218 = _ from rfl)) | decide +kernel
theorem jmo_45 : jmok 45 = true := by
  unfold jmok
  rw [show jmi 45 = (yX3_recordStands, cX3_recordStands, 2, 5, [2, 0], [4222, 4221, 33, 1013, 3], 0) from rfl]
  dsimp only
  simp only [Bool.and_eq_true]
  repeat' apply And.intro
  all_goals first | (exact decide_eq_true (show jwAt 4222 = _ from rfl)) | decide +kernel
theorem jmo_46 : jmok 46 = true := by
  unfold jmok
  rw [show jmi 46 = (yX3_anyBehind, cX3_anyBehind, 3, 5, [2, 2], [6056, 6054, 6055, 1013, 3], 0) from rfl]
  dsimp only
  simp only [Bool.and_eq_true]
  repeat' apply And.intro
  all_goals first | (exact decide_eq_true (show jwAt 6056 = _ from rfl)) | decide +kernel
theorem jmo_47 : jmok 47 = true := by
  unfold jmok
  rw [show jmi 47 = (yX4_init, cX4_init, 1, 3, [2], [1120, 1119, 0, 1004, 4], 0) from rfl]
  dsimp only
  simp only [Bool.and_eq_true]
  repeat' apply And.intro
  all_goals first | (exact decide_eq_true (show jwAt 1120 = _ from rfl)) | decide +kernel
theorem jmo_48 : jmok 48 = true := by
  unfold jmok
  rw [show jmi 48 = (yX4_readJournal, cX4_readJournal, 4, 5, [2, 2, 0], [3099, 3097, 3098, 1004, 4], 0) from rfl]
  dsimp only
  simp only [Bool.and_eq_true]
  repeat' apply And.intro
  all_goals first | (exact decide_eq_true (show jwAt 3099 = _ from rfl)) | decide +kernel
theorem jmo_49 : jmok 49 = true := by
  unfold jmok
  rw [show jmi 49 = (yX4_begin, cX4_begin, 3, 3, [2, 2, 0], [3103, 3102, 4, 1004, 4], 0) from rfl]
  dsimp only
  simp only [Bool.and_eq_true]
  repeat' apply And.intro
  all_goals first | (exact decide_eq_true (show jwAt 3103 = _ from rfl)) | decide +kernel
theorem jmo_50 : jmok 50 = true := by
  unfold jmok
  rw [show jmi 50 = (yX4_shape, cX4_shape, 1, 5, [2], [3127, 3126, 5, 1004, 4], 0) from rfl]
  dsimp only
  simp only [Bool.and_eq_true]
  repeat' apply And.intro
  all_goals first | (exact decide_eq_true (show jwAt 3127 = _ from rfl)) | decide +kernel
theorem jmo_51 : jmok 51 = true := by
  unfold jmok
  rw [show jmi 51 = (yX4_expectWord, cX4_expectWord, 2, 5, [2, 2], [3132, 3131, 6, 1004, 4], 0) from rfl]
  dsimp only
  simp only [Bool.and_eq_true]
  repeat' apply And.intro
  all_goals first | (exact decide_eq_true (show jwAt 3132 = _ from rfl)) | decide +kernel
theorem jmo_52 : jmok 52 = true := by
  unfold jmok
  rw [show jmi 52 = (yX4_word, cX4_word, 4, 5, [2, 2], [3136, 3135, 7, 1004, 4], 0) from rfl]
  dsimp only
  simp only [Bool.and_eq_true]
  repeat' apply And.intro
  all_goals first | (exact decide_eq_true (show jwAt 3136 = _ from rfl)) | decide +kernel
theorem jmo_53 : jmok 53 = true := by
  unfold jmok
  rw [show jmi 53 = (yX4_peek, cX4_peek, 1, 0, [2], [3140, 3139, 8, 1004, 4], 0) from rfl]
  dsimp only
  simp only [Bool.and_eq_true]
  repeat' apply And.intro
  all_goals first | (exact decide_eq_true (show jwAt 3140 = _ from rfl)) | decide +kernel
theorem jmo_54 : jmok 54 = true := by
  unfold jmok
  rw [show jmi 54 = (yX4_octetAt, cX4_octetAt, 2, 0, [2, 0], [3144, 3143, 9, 1004, 4], 0) from rfl]
  dsimp only
  simp only [Bool.and_eq_true]
  repeat' apply And.intro
  all_goals first | (exact decide_eq_true (show jwAt 3144 = _ from rfl)) | decide +kernel
theorem jmo_55 : jmok 55 = true := by
  unfold jmok
  rw [show jmi 55 = (yX4_fail, cX4_fail, 3, 5, [2, 0, 0], [3196, 3195, 10, 1004, 4], 0) from rfl]
  dsimp only
  simp only [Bool.and_eq_true]
  repeat' apply And.intro
  all_goals first | (exact decide_eq_true (show jwAt 3196 = _ from rfl)) | decide +kernel
theorem jmo_56 : jmok 56 = true := by
  unfold jmok
  rw [show jmi 56 = (yX4_number, cX4_number, 5, 0, [2, 0, 0], [3200, 3199, 11, 1004, 4], 0) from rfl]
  dsimp only
  simp only [Bool.and_eq_true]
  repeat' apply And.intro
  all_goals first | (exact decide_eq_true (show jwAt 3200 = _ from rfl)) | decide +kernel
theorem jmo_57 : jmok 57 = true := by
  unfold jmok
  rw [show jmi 57 = (yX4_isDigit, cX4_isDigit, 1, 5, [0], [3203, 3202, 0, 1004, 4], 1) from rfl]
  dsimp only
  simp only [Bool.and_eq_true]
  repeat' apply And.intro
  all_goals first | (exact decide_eq_true (show jwAt 3203 = _ from rfl)) | decide +kernel
theorem jmo_58 : jmok 58 = true := by
  unfold jmok
  rw [show jmi 58 = (yX4_expect, cX4_expect, 2, 5, [2, 0], [3209, 3208, 12, 1004, 4], 0) from rfl]
  dsimp only
  simp only [Bool.and_eq_true]
  repeat' apply And.intro
  all_goals first | (exact decide_eq_true (show jwAt 3209 = _ from rfl)) | decide +kernel
theorem jmo_59 : jmok 59 = true := by
  unfold jmok
  rw [show jmi 59 = (yX4_sign, cX4_sign, 2, 5, [2, 0], [3213, 3212, 13, 1004, 4], 0) from rfl]
  dsimp only
  simp only [Bool.and_eq_true]
  repeat' apply And.intro
  all_goals first | (exact decide_eq_true (show jwAt 3213 = _ from rfl)) | decide +kernel
theorem jmo_60 : jmok 60 = true := by
  unfold jmok
  rw [show jmi 60 = (yX4_statement, cX4_statement, 2, 5, [2], [3217, 3216, 14, 1004, 4], 0) from rfl]
  dsimp only
  simp only [Bool.and_eq_true]
  repeat' apply And.intro
  all_goals first | (exact decide_eq_true (show jwAt 3217 = _ from rfl)) | decide +kernel
theorem jmo_61 : jmok 61 = true := by
  unfold jmok
  rw [show jmi 61 = (yX4_record, cX4_record, 4, 5, [2], [3222, 3221, 15, 1004, 4], 0) from rfl]
  dsimp only
  simp only [Bool.and_eq_true]
  repeat' apply And.intro
  all_goals first | (exact decide_eq_true (show jwAt 3222 = _ from rfl)) | decide +kernel
theorem jmo_62 : jmok 62 = true := by
  unfold jmok
  rw [show jmi 62 = (yX4_aim, cX4_aim, 3, 3, [2, 2, 0], [3234, 3233, 16, 1004, 4], 0) from rfl]
  dsimp only
  simp only [Bool.and_eq_true]
  repeat' apply And.intro
  all_goals first | (exact decide_eq_true (show jwAt 3234 = _ from rfl)) | decide +kernel
theorem jmo_63 : jmok 63 = true := by
  unfold jmok
  rw [show jmi 63 = (yX4_test, cX4_test, 3, 5, [2], [4002, 4001, 17, 1004, 4], 0) from rfl]
  dsimp only
  simp only [Bool.and_eq_true]
  repeat' apply And.intro
  all_goals first | (exact decide_eq_true (show jwAt 4002 = _ from rfl)) | decide +kernel
theorem jmo_64 : jmok 64 = true := by
  unfold jmok
  rw [show jmi 64 = (yX4_both, cX4_both, 3, 5, [2], [4006, 4005, 18, 1004, 4], 0) from rfl]
  dsimp only
  simp only [Bool.and_eq_true]
  repeat' apply And.intro
  all_goals first | (exact decide_eq_true (show jwAt 4006 = _ from rfl)) | decide +kernel
theorem jmo_65 : jmok 65 = true := by
  unfold jmok
  rw [show jmi 65 = (yX4_fact, cX4_fact, 4, 5, [2], [4010, 4009, 19, 1004, 4], 0) from rfl]
  dsimp only
  simp only [Bool.and_eq_true]
  repeat' apply And.intro
  all_goals first | (exact decide_eq_true (show jwAt 4010 = _ from rfl)) | decide +kernel
theorem jmo_66 : jmok 66 = true := by
  unfold jmok
  rw [show jmi 66 = (yX4_negation, cX4_negation, 3, 5, [2, 0], [4015, 4014, 20, 1004, 4], 0) from rfl]
  dsimp only
  simp only [Bool.and_eq_true]
  repeat' apply And.intro
  all_goals first | (exact decide_eq_true (show jwAt 4015 = _ from rfl)) | decide +kernel
theorem jmo_67 : jmok 67 = true := by
  unfold jmok
  rw [show jmi 67 = (yX4_opens, cX4_opens, 2, 5, [2, 0], [4019, 4018, 21, 1004, 4], 0) from rfl]
  dsimp only
  simp only [Bool.and_eq_true]
  repeat' apply And.intro
  all_goals first | (exact decide_eq_true (show jwAt 4019 = _ from rfl)) | decide +kernel
theorem jmo_68 : jmok 68 = true := by
  unfold jmok
  rw [show jmi 68 = (yX4_ends, cX4_ends, 1, 5, [2], [4023, 4022, 22, 1004, 4], 0) from rfl]
  dsimp only
  simp only [Bool.and_eq_true]
  repeat' apply And.intro
  all_goals first | (exact decide_eq_true (show jwAt 4023 = _ from rfl)) | decide +kernel
theorem jmo_69 : jmok 69 = true := by
  unfold jmok
  rw [show jmi 69 = (yX4_sum, cX4_sum, 4, 5, [2], [4029, 4028, 23, 1004, 4], 0) from rfl]
  dsimp only
  simp only [Bool.and_eq_true]
  repeat' apply And.intro
  all_goals first | (exact decide_eq_true (show jwAt 4029 = _ from rfl)) | decide +kernel
theorem jmo_70 : jmok 70 = true := by
  unfold jmok
  rw [show jmi 70 = (yX4_product, cX4_product, 4, 5, [2], [4033, 4032, 24, 1004, 4], 0) from rfl]
  dsimp only
  simp only [Bool.and_eq_true]
  repeat' apply And.intro
  all_goals first | (exact decide_eq_true (show jwAt 4033 = _ from rfl)) | decide +kernel
theorem jmo_71 : jmok 71 = true := by
  unfold jmok
  rw [show jmi 71 = (yX4_part, cX4_part, 4, 5, [2], [4037, 4036, 25, 1004, 4], 0) from rfl]
  dsimp only
  simp only [Bool.and_eq_true]
  repeat' apply And.intro
  all_goals first | (exact decide_eq_true (show jwAt 4037 = _ from rfl)) | decide +kernel
theorem jmo_72 : jmok 72 = true := by
  unfold jmok
  rw [show jmi 72 = (yX4_ofPair, cX4_ofPair, 4, 5, [2, 0], [4042, 4041, 26, 1004, 4], 0) from rfl]
  dsimp only
  simp only [Bool.and_eq_true]
  repeat' apply And.intro
  all_goals first | (exact decide_eq_true (show jwAt 4042 = _ from rfl)) | decide +kernel
theorem jmo_73 : jmok 73 = true := by
  unfold jmok
  rw [show jmi 73 = (yX4_ofPart, cX4_ofPart, 4, 5, [2, 0, 0], [4048, 4047, 27, 1004, 4], 0) from rfl]
  dsimp only
  simp only [Bool.and_eq_true]
  repeat' apply And.intro
  all_goals first | (exact decide_eq_true (show jwAt 4048 = _ from rfl)) | decide +kernel
theorem jmo_74 : jmok 74 = true := by
  unfold jmok
  rw [show jmi 74 = (yX4_factNamed, cX4_factNamed, 2, 0, [2], [4053, 4052, 28, 1004, 4], 0) from rfl]
  dsimp only
  simp only [Bool.and_eq_true]
  repeat' apply And.intro
  all_goals first | (exact decide_eq_true (show jwAt 4053 = _ from rfl)) | decide +kernel
theorem jmo_75 : jmok 75 = true := by
  unfold jmok
  rw [show jmi 75 = (yX4_readQuestion, cX4_readQuestion, 4, 5, [2, 2, 0], [6205, 6203, 6204, 1004, 4], 0) from rfl]
  dsimp only
  simp only [Bool.and_eq_true]
  repeat' apply And.intro
  all_goals first | (exact decide_eq_true (show jwAt 6205 = _ from rfl)) | decide +kernel
theorem jmo_76 : jmok 76 = true := by
  unfold jmok
  rw [show jmi 76 = (yX4_command, cX4_command, 1, 0, [2], [6209, 6208, 65, 1004, 4], 0) from rfl]
  dsimp only
  simp only [Bool.and_eq_true]
  repeat' apply And.intro
  all_goals first | (exact decide_eq_true (show jwAt 6209 = _ from rfl)) | decide +kernel
theorem jmo_77 : jmok 77 = true := by
  unfold jmok
  rw [show jmi 77 = (yX5_init, cX5_init, 1, 3, [2], [2136, 2135, 0, 1011, 5], 0) from rfl]
  dsimp only
  simp only [Bool.and_eq_true]
  repeat' apply And.intro
  all_goals first | (exact decide_eq_true (show jwAt 2136 = _ from rfl)) | decide +kernel
theorem jmo_78 : jmok 78 = true := by
  unfold jmok
  rw [show jmi 78 = (yX5_hasRoom, cX5_hasRoom, 5, 5, [2, 2, 0], [5179, 5177, 5178, 1011, 5], 0) from rfl]
  dsimp only
  simp only [Bool.and_eq_true]
  repeat' apply And.intro
  all_goals first | (exact decide_eq_true (show jwAt 5179 = _ from rfl)) | decide +kernel
theorem jmo_79 : jmok 79 = true := by
  unfold jmok
  rw [show jmi 79 = (yX5_start, cX5_start, 2, 3, [2, 2], [5183, 5182, 45, 1011, 5], 0) from rfl]
  dsimp only
  simp only [Bool.and_eq_true]
  repeat' apply And.intro
  all_goals first | (exact decide_eq_true (show jwAt 5183 = _ from rfl)) | decide +kernel
theorem jmo_80 : jmok 80 = true := by
  unfold jmok
  rw [show jmi 80 = (yX5_goesTo, cX5_goesTo, 5, 5, [2, 2, 0], [5188, 5187, 46, 1011, 5], 0) from rfl]
  dsimp only
  simp only [Bool.and_eq_true]
  repeat' apply And.intro
  all_goals first | (exact decide_eq_true (show jwAt 5188 = _ from rfl)) | decide +kernel
theorem jmo_81 : jmok 81 = true := by
  unfold jmok
  rw [show jmi 81 = (yX5_freeSegment, cX5_freeSegment, 3, 0, [2, 2], [5193, 5192, 47, 1011, 5], 0) from rfl]
  dsimp only
  simp only [Bool.and_eq_true]
  repeat' apply And.intro
  all_goals first | (exact decide_eq_true (show jwAt 5193 = _ from rfl)) | decide +kernel
theorem jmo_82 : jmok 82 = true := by
  unfold jmok
  rw [show jmi 82 = (yX5_lay, cX5_lay, 5, 3, [2, 2, 0], [5198, 5196, 5197, 1011, 5], 0) from rfl]
  dsimp only
  simp only [Bool.and_eq_true]
  repeat' apply And.intro
  all_goals first | (exact decide_eq_true (show jwAt 5198 = _ from rfl)) | decide +kernel
theorem jmo_83 : jmok 83 = true := by
  unfold jmok
  rw [show jmi 83 = (yX5_writeHead, cX5_writeHead, 6, 3, [2, 2, 0], [5202, 5201, 48, 1011, 5], 0) from rfl]
  dsimp only
  simp only [Bool.and_eq_true]
  repeat' apply And.intro
  all_goals first | (exact decide_eq_true (show jwAt 5202 = _ from rfl)) | decide +kernel
theorem jmo_84 : jmok 84 = true := by
  unfold jmok
  rw [show jmi 84 = (yX5_writeRecord, cX5_writeRecord, 10, 3, [2, 2, 0], [5211, 5210, 49, 1011, 5], 0) from rfl]
  dsimp only
  simp only [Bool.and_eq_true]
  repeat' apply And.intro
  all_goals first | (exact decide_eq_true (show jwAt 5211 = _ from rfl)) | decide +kernel
theorem jmo_85 : jmok 85 = true := by
  unfold jmok
  rw [show jmi 85 = (yX5_writeFrame, cX5_writeFrame, 12, 3, [2, 2, 0, 0, 0, 0], [5220, 5219, 50, 1011, 5], 0) from rfl]
  dsimp only
  simp only [Bool.and_eq_true]
  repeat' apply And.intro
  all_goals first | (exact decide_eq_true (show jwAt 5220 = _ from rfl)) | decide +kernel
theorem jmo_86 : jmok 86 = true := by
  unfold jmok
  rw [show jmi 86 = (yX5_roomFor, cX5_roomFor, 4, 0, [2, 2, 0], [6011, 6009, 6010, 1011, 5], 0) from rfl]
  dsimp only
  simp only [Bool.and_eq_true]
  repeat' apply And.intro
  all_goals first | (exact decide_eq_true (show jwAt 6011 = _ from rfl)) | decide +kernel
theorem jmo_87 : jmok 87 = true := by
  unfold jmok
  rw [show jmi 87 = (yX6_init, cX6_init, 1, 3, [2], [1033, 1032, 0, 1002, 6], 0) from rfl]
  dsimp only
  simp only [Bool.and_eq_true]
  repeat' apply And.intro
  all_goals first | (exact decide_eq_true (show jwAt 1033 = _ from rfl)) | decide +kernel
theorem jmo_88 : jmok 88 = true := by
  unfold jmok
  rw [show jmi 88 = (yX6_clear, cX6_clear, 1, 3, [2], [3110, 3108, 3109, 1002, 6], 0) from rfl]
  dsimp only
  simp only [Bool.and_eq_true]
  repeat' apply And.intro
  all_goals first | (exact decide_eq_true (show jwAt 3110 = _ from rfl)) | decide +kernel
theorem jmo_89 : jmok 89 = true := by
  unfold jmok
  rw [show jmi 89 = (yX6_addPut, cX6_addPut, 4, 3, [2, 0, 0, 0], [3227, 3225, 3226, 1002, 6], 0) from rfl]
  dsimp only
  simp only [Bool.and_eq_true]
  repeat' apply And.intro
  all_goals first | (exact decide_eq_true (show jwAt 3227 = _ from rfl)) | decide +kernel
theorem jmo_90 : jmok 90 = true := by
  unfold jmok
  rw [show jmi 90 = (yX7_init, cX7_init, 1, 3, [2], [1233, 1232, 0, 1008, 7], 0) from rfl]
  dsimp only
  simp only [Bool.and_eq_true]
  repeat' apply And.intro
  all_goals first | (exact decide_eq_true (show jwAt 1233 = _ from rfl)) | decide +kernel
theorem jmo_91 : jmok 91 = true := by
  unfold jmok
  rw [show jmi 91 = (yX7_clear, cX7_clear, 2, 3, [2, 0], [4086, 4084, 4085, 1008, 7], 0) from rfl]
  dsimp only
  simp only [Bool.and_eq_true]
  repeat' apply And.intro
  all_goals first | (exact decide_eq_true (show jwAt 4086 = _ from rfl)) | decide +kernel
theorem jmo_92 : jmok 92 = true := by
  unfold jmok
  rw [show jmi 92 = (yX7_waitingCount, cX7_waitingCount, 1, 0, [2], [4122, 4120, 4121, 1008, 7], 0) from rfl]
  dsimp only
  simp only [Bool.and_eq_true]
  repeat' apply And.intro
  all_goals first | (exact decide_eq_true (show jwAt 4122 = _ from rfl)) | decide +kernel
