/-! methods checked, piece 1 -/
theorem jmo_93 : jmok 93 = true := by
  unfold jmok
  rw [show jmi 93 = (yX7_add, cX7_add, 5, 3, [2, 0, 0, 0, 0], [4135, 4133, 4134, 1008, 7], 0) from rfl]
  dsimp only
  simp only [Bool.and_eq_true]
  repeat' apply And.intro
  all_goals first | (exact decide_eq_true (show jwAt 4135 = _ from rfl)) | decide +kernel
theorem jmo_94 : jmok 94 = true := by
  unfold jmok
  rw [show jmi 94 = (yX7_behindLast, cX7_behindLast, 1, 0, [2], [4149, 4147, 4148, 1008, 7], 0) from rfl]
  dsimp only
  simp only [Bool.and_eq_true]
  repeat' apply And.intro
  all_goals first | (exact decide_eq_true (show jwAt 4149 = _ from rfl)) | decide +kernel
theorem jmo_95 : jmok 95 = true := by
  unfold jmok
  rw [show jmi 95 = (yX7_latestOf, cX7_latestOf, 4, 0, [2, 0], [5019, 5017, 5018, 1008, 7], 0) from rfl]
  dsimp only
  simp only [Bool.and_eq_true]
  repeat' apply And.intro
  all_goals first | (exact decide_eq_true (show jwAt 5019 = _ from rfl)) | decide +kernel
theorem jmo_96 : jmok 96 = true := by
  unfold jmok
  rw [show jmi 96 = (yX7_copyFrom, cX7_copyFrom, 2, 3, [2, 2], [5070, 5068, 5069, 1008, 7], 0) from rfl]
  dsimp only
  simp only [Bool.and_eq_true]
  repeat' apply And.intro
  all_goals first | (exact decide_eq_true (show jwAt 5070 = _ from rfl)) | decide +kernel
theorem jmo_97 : jmok 97 = true := by
  unfold jmok
  rw [show jmi 97 = (yX7_drop, cX7_drop, 2, 3, [2], [5106, 5104, 5105, 1008, 7], 0) from rfl]
  dsimp only
  simp only [Bool.and_eq_true]
  repeat' apply And.intro
  all_goals first | (exact decide_eq_true (show jwAt 5106 = _ from rfl)) | decide +kernel
theorem jmo_98 : jmok 98 = true := by
  unfold jmok
  rw [show jmi 98 = (yX7_payloadOf, cX7_payloadOf, 4, 0, [2, 0], [5122, 5120, 5121, 1008, 7], 0) from rfl]
  dsimp only
  simp only [Bool.and_eq_true]
  repeat' apply And.intro
  all_goals first | (exact decide_eq_true (show jwAt 5122 = _ from rfl)) | decide +kernel
theorem jmo_99 : jmok 99 = true := by
  unfold jmok
  rw [show jmi 99 = (yX7_payloadAt, cX7_payloadAt, 2, 0, [2, 0], [5126, 5124, 5125, 1008, 7], 0) from rfl]
  dsimp only
  simp only [Bool.and_eq_true]
  repeat' apply And.intro
  all_goals first | (exact decide_eq_true (show jwAt 5126 = _ from rfl)) | decide +kernel
theorem jmo_100 : jmok 100 = true := by
  unfold jmok
  rw [show jmi 100 = (yX7_firstBorn, cX7_firstBorn, 1, 0, [2], [5130, 5128, 5129, 1008, 7], 0) from rfl]
  dsimp only
  simp only [Bool.and_eq_true]
  repeat' apply And.intro
  all_goals first | (exact decide_eq_true (show jwAt 5130 = _ from rfl)) | decide +kernel
theorem jmo_101 : jmok 101 = true := by
  unfold jmok
  rw [show jmi 101 = (yX8_init, cX8_init, 1, 3, [2], [2158, 2157, 0, 1012, 8], 0) from rfl]
  dsimp only
  simp only [Bool.and_eq_true]
  repeat' apply And.intro
  all_goals first | (exact decide_eq_true (show jwAt 2158 = _ from rfl)) | decide +kernel
theorem jmo_102 : jmok 102 = true := by
  unfold jmok
  rw [show jmi 102 = (yX8_read, cX8_read, 6, 3, [2, 2, 0, 2], [6021, 6019, 6020, 1012, 8], 0) from rfl]
  dsimp only
  simp only [Bool.and_eq_true]
  repeat' apply And.intro
  all_goals first | (exact decide_eq_true (show jwAt 6021 = _ from rfl)) | decide +kernel
theorem jmo_103 : jmok 103 = true := by
  unfold jmok
  rw [show jmi 103 = (yX8_beginning, cX8_beginning, 5, 0, [2, 2, 0], [6027, 6026, 52, 1012, 8], 0) from rfl]
  dsimp only
  simp only [Bool.and_eq_true]
  repeat' apply And.intro
  all_goals first | (exact decide_eq_true (show jwAt 6027 = _ from rfl)) | decide +kernel
theorem jmo_104 : jmok 104 = true := by
  unfold jmok
  rw [show jmi 104 = (yX8_readSegment, cX8_readSegment, 5, 3, [2, 2, 0, 0], [6034, 6033, 53, 1012, 8], 0) from rfl]
  dsimp only
  simp only [Bool.and_eq_true]
  repeat' apply And.intro
  all_goals first | (exact decide_eq_true (show jwAt 6034 = _ from rfl)) | decide +kernel
theorem jmo_105 : jmok 105 = true := by
  unfold jmok
  rw [show jmi 105 = (yX8_following, cX8_following, 4, 0, [2, 2], [6042, 6041, 54, 1012, 8], 0) from rfl]
  dsimp only
  simp only [Bool.and_eq_true]
  repeat' apply And.intro
  all_goals first | (exact decide_eq_true (show jwAt 6042 = _ from rfl)) | decide +kernel
theorem jmo_106 : jmok 106 = true := by
  unfold jmok
  rw [show jmi 106 = (yX8_withoutGround, cX8_withoutGround, 2, 3, [2, 0], [6046, 6045, 55, 1012, 8], 0) from rfl]
  dsimp only
  simp only [Bool.and_eq_true]
  repeat' apply And.intro
  all_goals first | (exact decide_eq_true (show jwAt 6046 = _ from rfl)) | decide +kernel
theorem jmo_107 : jmok 107 = true := by
  unfold jmok
  rw [show jmi 107 = (yX8_valueCount, cX8_valueCount, 3, 0, [2], [6060, 6058, 6059, 1012, 8], 0) from rfl]
  dsimp only
  simp only [Bool.and_eq_true]
  repeat' apply And.intro
  all_goals first | (exact decide_eq_true (show jwAt 6060 = _ from rfl)) | decide +kernel
theorem jmo_108 : jmok 108 = true := by
  unfold jmok
  rw [show jmi 108 = (yX9_init, cX9_init, 2, 3, [2, 2], [1172, 1171, 0, 1005, 9], 0) from rfl]
  dsimp only
  simp only [Bool.and_eq_true]
  repeat' apply And.intro
  all_goals first | (exact decide_eq_true (show jwAt 1172 = _ from rfl)) | decide +kernel
theorem jmo_109 : jmok 109 = true := by
  unfold jmok
  rw [show jmi 109 = (yX9_blank, cX9_blank, 2, 3, [2, 2], [4073, 4071, 4072, 1005, 9], 0) from rfl]
  dsimp only
  simp only [Bool.and_eq_true]
  repeat' apply And.intro
  all_goals first | (exact decide_eq_true (show jwAt 4073 = _ from rfl)) | decide +kernel
theorem jmo_110 : jmok 110 = true := by
  unfold jmok
  rw [show jmi 110 = (yX9_openAtOnce, cX9_openAtOnce, 2, 3, [2, 0], [4098, 4096, 4097, 1005, 9], 0) from rfl]
  dsimp only
  simp only [Bool.and_eq_true]
  repeat' apply And.intro
  all_goals first | (exact decide_eq_true (show jwAt 4098 = _ from rfl)) | decide +kernel
theorem jmo_111 : jmok 111 = true := by
  unfold jmok
  rw [show jmi 111 = (yX9_movePlace, cX9_movePlace, 5, 3, [2, 0, 0, 0, 0], [4114, 4112, 4113, 1005, 9], 0) from rfl]
  dsimp only
  simp only [Bool.and_eq_true]
  repeat' apply And.intro
  all_goals first | (exact decide_eq_true (show jwAt 4114 = _ from rfl)) | decide +kernel
theorem jmo_112 : jmok 112 = true := by
  unfold jmok
  rw [show jmi 112 = (yX9_takesRecord, cX9_takesRecord, 4, 5, [2, 0, 0, 0], [4118, 4116, 4117, 1005, 9], 0) from rfl]
  dsimp only
  simp only [Bool.and_eq_true]
  repeat' apply And.intro
  all_goals first | (exact decide_eq_true (show jwAt 4118 = _ from rfl)) | decide +kernel
theorem jmo_113 : jmok 113 = true := by
  unfold jmok
  rw [show jmi 113 = (yX9_isFree, cX9_isFree, 2, 5, [2, 0], [4167, 4165, 4166, 1005, 9], 0) from rfl]
  dsimp only
  simp only [Bool.and_eq_true]
  repeat' apply And.intro
  all_goals first | (exact decide_eq_true (show jwAt 4167 = _ from rfl)) | decide +kernel
theorem jmo_114 : jmok 114 = true := by
  unfold jmok
  rw [show jmi 114 = (yX9_copyFrom, cX9_copyFrom, 2, 3, [2, 2], [5050, 5048, 5049, 1005, 9], 0) from rfl]
  dsimp only
  simp only [Bool.and_eq_true]
  repeat' apply And.intro
  all_goals first | (exact decide_eq_true (show jwAt 5050 = _ from rfl)) | decide +kernel
theorem jmo_115 : jmok 115 = true := by
  unfold jmok
  rw [show jmi 115 = (yX9_passTick, cX9_passTick, 5, 0, [2, 2, 0], [5081, 5079, 5080, 1005, 9], 0) from rfl]
  dsimp only
  simp only [Bool.and_eq_true]
  repeat' apply And.intro
  all_goals first | (exact decide_eq_true (show jwAt 5081 = _ from rfl)) | decide +kernel
theorem jmo_116 : jmok 116 = true := by
  unfold jmok
  rw [show jmi 116 = (yX9_acknowledge, cX9_acknowledge, 3, 0, [2], [5085, 5084, 35, 1005, 9], 0) from rfl]
  dsimp only
  simp only [Bool.and_eq_true]
  repeat' apply And.intro
  all_goals first | (exact decide_eq_true (show jwAt 5085 = _ from rfl)) | decide +kernel
theorem jmo_117 : jmok 117 = true := by
  unfold jmok
  rw [show jmi 117 = (yX9_testHolds, cX9_testHolds, 2, 5, [2], [5110, 5109, 37, 1005, 9], 0) from rfl]
  dsimp only
  simp only [Bool.and_eq_true]
  repeat' apply And.intro
  all_goals first | (exact decide_eq_true (show jwAt 5110 = _ from rfl)) | decide +kernel
theorem jmo_118 : jmok 118 = true := by
  unfold jmok
  rw [show jmi 118 = (yX9_tellGroup, cX9_tellGroup, 3, 3, [2, 2, 0], [5114, 5113, 38, 1005, 9], 0) from rfl]
  dsimp only
  simp only [Bool.and_eq_true]
  repeat' apply And.intro
  all_goals first | (exact decide_eq_true (show jwAt 5114 = _ from rfl)) | decide +kernel
theorem jmo_119 : jmok 119 = true := by
  unfold jmok
  rw [show jmi 119 = (yX9_close, cX9_close, 4, 3, [2, 2, 0], [5175, 5174, 44, 1005, 9], 0) from rfl]
  dsimp only
  simp only [Bool.and_eq_true]
  repeat' apply And.intro
  all_goals first | (exact decide_eq_true (show jwAt 5175 = _ from rfl)) | decide +kernel
theorem jmo_120 : jmok 120 = true := by
  unfold jmok
  rw [show jmi 120 = (yX9_takeSnap, cX9_takeSnap, 1, 3, [2], [6155, 6153, 6154, 1005, 9], 0) from rfl]
  dsimp only
  simp only [Bool.and_eq_true]
  repeat' apply And.intro
  all_goals first | (exact decide_eq_true (show jwAt 6155 = _ from rfl)) | decide +kernel
theorem jmo_121 : jmok 121 = true := by
  unfold jmok
  rw [show jmi 121 = (yX9_crashBy, cX9_crashBy, 3, 3, [2, 0, 2], [6163, 6161, 6162, 1005, 9], 0) from rfl]
  dsimp only
  simp only [Bool.and_eq_true]
  repeat' apply And.intro
  all_goals first | (exact decide_eq_true (show jwAt 6163 = _ from rfl)) | decide +kernel
theorem jmo_122 : jmok 122 = true := by
  unfold jmok
  rw [show jmi 122 = (yX9_recover, cX9_recover, 2, 3, [2, 2], [6167, 6165, 6166, 1005, 9], 0) from rfl]
  dsimp only
  simp only [Bool.and_eq_true]
  repeat' apply And.intro
  all_goals first | (exact decide_eq_true (show jwAt 6167 = _ from rfl)) | decide +kernel
theorem jmo_123 : jmok 123 = true := by
  unfold jmok
  rw [show jmi 123 = (yX9_giveUpRest, cX9_giveUpRest, 5, 0, [2], [6180, 6178, 6179, 1005, 9], 0) from rfl]
  dsimp only
  simp only [Bool.and_eq_true]
  repeat' apply And.intro
  all_goals first | (exact decide_eq_true (show jwAt 6180 = _ from rfl)) | decide +kernel
theorem jmo_124 : jmok 124 = true := by
  unfold jmok
  rw [show jmi 124 = (yX10_init, cX10_init, 1, 3, [2], [2035, 2034, 0, 1009, 10], 0) from rfl]
  dsimp only
  simp only [Bool.and_eq_true]
  repeat' apply And.intro
  all_goals first | (exact decide_eq_true (show jwAt 2035 = _ from rfl)) | decide +kernel
theorem jmo_125 : jmok 125 = true := by
  unfold jmok
  rw [show jmi 125 = (yX10_clear, cX10_clear, 1, 3, [2], [4090, 4088, 4089, 1009, 10], 0) from rfl]
  dsimp only
  simp only [Bool.and_eq_true]
  repeat' apply And.intro
  all_goals first | (exact decide_eq_true (show jwAt 4090 = _ from rfl)) | decide +kernel
theorem jmo_126 : jmok 126 = true := by
  unfold jmok
  rw [show jmi 126 = (yX10_clearKept, cX10_clearKept, 1, 3, [2], [4094, 4092, 4093, 1009, 10], 0) from rfl]
  dsimp only
  simp only [Bool.and_eq_true]
  repeat' apply And.intro
  all_goals first | (exact decide_eq_true (show jwAt 4094 = _ from rfl)) | decide +kernel
theorem jmo_127 : jmok 127 = true := by
  unfold jmok
  rw [show jmi 127 = (yX10_told, cX10_told, 1, 0, [2], [4158, 4156, 4157, 1009, 10], 0) from rfl]
  dsimp only
  simp only [Bool.and_eq_true]
  repeat' apply And.intro
  all_goals first | (exact decide_eq_true (show jwAt 4158 = _ from rfl)) | decide +kernel
theorem jmo_128 : jmok 128 = true := by
  unfold jmok
  rw [show jmi 128 = (yX10_awaitedBy, cX10_awaitedBy, 3, 0, [2, 0], [5032, 5030, 5031, 1009, 10], 0) from rfl]
  dsimp only
  simp only [Bool.and_eq_true]
  repeat' apply And.intro
  all_goals first | (exact decide_eq_true (show jwAt 5032 = _ from rfl)) | decide +kernel
theorem jmo_129 : jmok 129 = true := by
  unfold jmok
  rw [show jmi 129 = (yX10_keptAt, cX10_keptAt, 4, 0, [2, 0, 0], [5041, 5039, 5040, 1009, 10], 0) from rfl]
  dsimp only
  simp only [Bool.and_eq_true]
  repeat' apply And.intro
  all_goals first | (exact decide_eq_true (show jwAt 5041 = _ from rfl)) | decide +kernel
theorem jmo_130 : jmok 130 = true := by
  unfold jmok
  rw [show jmi 130 = (yX10_copyFrom, cX10_copyFrom, 2, 3, [2, 2], [5075, 5073, 5074, 1009, 10], 0) from rfl]
  dsimp only
  simp only [Bool.and_eq_true]
  repeat' apply And.intro
  all_goals first | (exact decide_eq_true (show jwAt 5075 = _ from rfl)) | decide +kernel
theorem jmo_131 : jmok 131 = true := by
  unfold jmok
  rw [show jmi 131 = (yX10_release, cX10_release, 6, 0, [2, 0, 0], [5097, 5095, 5096, 1009, 10], 0) from rfl]
  dsimp only
  simp only [Bool.and_eq_true]
  repeat' apply And.intro
  all_goals first | (exact decide_eq_true (show jwAt 5097 = _ from rfl)) | decide +kernel
theorem jmo_132 : jmok 132 = true := by
  unfold jmok
  rw [show jmi 132 = (yX10_keep, cX10_keep, 5, 3, [2, 0, 0, 0], [5101, 5100, 36, 1009, 10], 0) from rfl]
  dsimp only
  simp only [Bool.and_eq_true]
  repeat' apply And.intro
  all_goals first | (exact decide_eq_true (show jwAt 5101 = _ from rfl)) | decide +kernel
theorem jmo_133 : jmok 133 = true := by
  unfold jmok
  rw [show jmi 133 = (yX10_add, cX10_add, 3, 3, [2, 0, 0], [6127, 6125, 6126, 1009, 10], 0) from rfl]
  dsimp only
  simp only [Bool.and_eq_true]
  repeat' apply And.intro
  all_goals first | (exact decide_eq_true (show jwAt 6127 = _ from rfl)) | decide +kernel
theorem jmo_134 : jmok 134 = true := by
  unfold jmok
  rw [show jmi 134 = (yX11_init, cX11_init, 2, 3, [2], [1025, 1024, 0, 1001, 11], 0) from rfl]
  dsimp only
  simp only [Bool.and_eq_true]
  repeat' apply And.intro
  all_goals first | (exact decide_eq_true (show jwAt 1025 = _ from rfl)) | decide +kernel
theorem jmo_135 : jmok 135 = true := by
  unfold jmok
  rw [show jmi 135 = (yX11_feed, cX11_feed, 6, 0, [2, 0, 0, 0, 0, 0], [3065, 3063, 3064, 1001, 11], 0) from rfl]
  dsimp only
  simp only [Bool.and_eq_true]
  repeat' apply And.intro
  all_goals first | (exact decide_eq_true (show jwAt 3065 = _ from rfl)) | decide +kernel
theorem jmo_136 : jmok 136 = true := by
  unfold jmok
  rw [show jmi 136 = (yX11_refuse, cX11_refuse, 2, 0, [2, 0], [3069, 3068, 0, 1001, 11], 0) from rfl]
  dsimp only
  simp only [Bool.and_eq_true]
  repeat' apply And.intro
  all_goals first | (exact decide_eq_true (show jwAt 3069 = _ from rfl)) | decide +kernel
theorem jmo_137 : jmok 137 = true := by
  unfold jmok
  rw [show jmi 137 = (yX11_cell, cX11_cell, 2, 0, [2, 0], [3072, 3071, 0, 1001, 11], 1) from rfl]
  dsimp only
  simp only [Bool.and_eq_true]
  repeat' apply And.intro
  all_goals first | (exact decide_eq_true (show jwAt 3072 = _ from rfl)) | decide +kernel
theorem jmo_138 : jmok 138 = true := by
  unfold jmok
  rw [show jmi 138 = (yX11_put, cX11_put, 3, 3, [2, 0, 0], [3075, 3074, 0, 1001, 11], 1) from rfl]
  dsimp only
  simp only [Bool.and_eq_true]
  repeat' apply And.intro
  all_goals first | (exact decide_eq_true (show jwAt 3075 = _ from rfl)) | decide +kernel
theorem jmo_139 : jmok 139 = true := by
  unfold jmok
  rw [show jmi 139 = (yX11_feedNumber, cX11_feedNumber, 3, 3, [2, 0], [3079, 3078, 1, 1001, 11], 0) from rfl]
  dsimp only
  simp only [Bool.and_eq_true]
  repeat' apply And.intro
  all_goals first | (exact decide_eq_true (show jwAt 3079 = _ from rfl)) | decide +kernel
theorem jmo_140 : jmok 140 = true := by
  unfold jmok
  rw [show jmi 140 = (yX11_end, cX11_end, 2, 5, [2, 0], [3083, 3081, 3082, 1001, 11], 0) from rfl]
  dsimp only
  simp only [Bool.and_eq_true]
  repeat' apply And.intro
  all_goals first | (exact decide_eq_true (show jwAt 3083 = _ from rfl)) | decide +kernel
theorem jmo_141 : jmok 141 = true := by
  unfold jmok
  rw [show jmi 141 = (yX11_deny, cX11_deny, 2, 5, [2, 0], [3087, 3086, 2, 1001, 11], 0) from rfl]
  dsimp only
  simp only [Bool.and_eq_true]
  repeat' apply And.intro
  all_goals first | (exact decide_eq_true (show jwAt 3087 = _ from rfl)) | decide +kernel
theorem jmo_142 : jmok 142 = true := by
  unfold jmok
  rw [show jmi 142 = (yX11_journal, cX11_journal, 2, 0, [2], [3091, 3089, 3090, 1001, 11], 0) from rfl]
  dsimp only
  simp only [Bool.and_eq_true]
  repeat' apply And.intro
  all_goals first | (exact decide_eq_true (show jwAt 3091 = _ from rfl)) | decide +kernel
theorem jmo_143 : jmok 143 = true := by
  unfold jmok
  rw [show jmi 143 = (yX11_takeTape, cX11_takeTape, 2, 0, [2], [3095, 3094, 3, 1001, 11], 0) from rfl]
  dsimp only
  simp only [Bool.and_eq_true]
  repeat' apply And.intro
  all_goals first | (exact decide_eq_true (show jwAt 3095 = _ from rfl)) | decide +kernel
theorem jmo_144 : jmok 144 = true := by
  unfold jmok
  rw [show jmi 144 = (yX11_begin, cX11_begin, 5, 3, [2], [4069, 4068, 29, 1001, 11], 0) from rfl]
  dsimp only
  simp only [Bool.and_eq_true]
  repeat' apply And.intro
  all_goals first | (exact decide_eq_true (show jwAt 4069 = _ from rfl)) | decide +kernel
theorem jmo_145 : jmok 145 = true := by
  unfold jmok
  rw [show jmi 145 = (yX11_checkOf, cX11_checkOf, 7, 0, [0, 2, 0, 0], [4110, 4109, 0, 1001, 11], 1) from rfl]
  dsimp only
  simp only [Bool.and_eq_true]
  repeat' apply And.intro
  all_goals first | (exact decide_eq_true (show jwAt 4110 = _ from rfl)) | decide +kernel
theorem jmo_146 : jmok 146 = true := by
  unfold jmok
  rw [show jmi 146 = (yX11_fault, cX11_fault, 2, 0, [2, 0], [4141, 4139, 4140, 1001, 11], 0) from rfl]
  dsimp only
  simp only [Bool.and_eq_true]
  repeat' apply And.intro
  all_goals first | (exact decide_eq_true (show jwAt 4141 = _ from rfl)) | decide +kernel
theorem jmo_147 : jmok 147 = true := by
  unfold jmok
  rw [show jmi 147 = (yX11_has, cX11_has, 2, 0, [2, 0], [4145, 4143, 4144, 1001, 11], 0) from rfl]
  dsimp only
  simp only [Bool.and_eq_true]
  repeat' apply And.intro
  all_goals first | (exact decide_eq_true (show jwAt 4145 = _ from rfl)) | decide +kernel
theorem jmo_148 : jmok 148 = true := by
  unfold jmok
  rw [show jmi 148 = (yX11_segment, cX11_segment, 3, 0, [2, 0, 0], [4163, 4161, 4162, 1001, 11], 0) from rfl]
  dsimp only
  simp only [Bool.and_eq_true]
  repeat' apply And.intro
  all_goals first | (exact decide_eq_true (show jwAt 4163 = _ from rfl)) | decide +kernel
theorem jmo_149 : jmok 149 = true := by
  unfold jmok
  rw [show jmi 149 = (yX11_frame, cX11_frame, 6, 0, [2, 0, 0, 0], [4232, 4230, 4231, 1001, 11], 0) from rfl]
  dsimp only
  simp only [Bool.and_eq_true]
  repeat' apply And.intro
  all_goals first | (exact decide_eq_true (show jwAt 4232 = _ from rfl)) | decide +kernel
theorem jmo_150 : jmok 150 = true := by
  unfold jmok
  rw [show jmi 150 = (yX11_octetOf, cX11_octetOf, 3, 0, [2, 0, 0], [4238, 4236, 4237, 1001, 11], 0) from rfl]
  dsimp only
  simp only [Bool.and_eq_true]
  repeat' apply And.intro
  all_goals first | (exact decide_eq_true (show jwAt 4238 = _ from rfl)) | decide +kernel
theorem jmo_151 : jmok 151 = true := by
  unfold jmok
  rw [show jmi 151 = (yX11_place, cX11_place, 2, 0, [2, 0], [5003, 5001, 5002, 1001, 11], 0) from rfl]
  dsimp only
  simp only [Bool.and_eq_true]
  repeat' apply And.intro
  all_goals first | (exact decide_eq_true (show jwAt 5003 = _ from rfl)) | decide +kernel
theorem jmo_152 : jmok 152 = true := by
  unfold jmok
  rw [show jmi 152 = (yX11_isTold, cX11_isTold, 1, 5, [2], [5007, 5006, 34, 1001, 11], 0) from rfl]
  dsimp only
  simp only [Bool.and_eq_true]
  repeat' apply And.intro
  all_goals first | (exact decide_eq_true (show jwAt 5007 = _ from rfl)) | decide +kernel
theorem jmo_153 : jmok 153 = true := by
  unfold jmok
  rw [show jmi 153 = (yX11_value, cX11_value, 2, 0, [2, 0], [5011, 5009, 5010, 1001, 11], 0) from rfl]
  dsimp only
  simp only [Bool.and_eq_true]
  repeat' apply And.intro
  all_goals first | (exact decide_eq_true (show jwAt 5011 = _ from rfl)) | decide +kernel
theorem jmo_154 : jmok 154 = true := by
  unfold jmok
  rw [show jmi 154 = (yX11_soon, cX11_soon, 3, 0, [2, 0], [5015, 5013, 5014, 1001, 11], 0) from rfl]
  dsimp only
  simp only [Bool.and_eq_true]
  repeat' apply And.intro
  all_goals first | (exact decide_eq_true (show jwAt 5015 = _ from rfl)) | decide +kernel
theorem jmo_155 : jmok 155 = true := by
  unfold jmok
  rw [show jmi 155 = (yX11_waiting, cX11_waiting, 5, 0, [2, 0, 0], [5024, 5022, 5023, 1001, 11], 0) from rfl]
  dsimp only
  simp only [Bool.and_eq_true]
  repeat' apply And.intro
  all_goals first | (exact decide_eq_true (show jwAt 5024 = _ from rfl)) | decide +kernel
theorem jmo_156 : jmok 156 = true := by
  unfold jmok
  rw [show jmi 156 = (yX11_waiter, cX11_waiter, 2, 0, [2, 0], [5028, 5026, 5027, 1001, 11], 0) from rfl]
  dsimp only
  simp only [Bool.and_eq_true]
  repeat' apply And.intro
  all_goals first | (exact decide_eq_true (show jwAt 5028 = _ from rfl)) | decide +kernel
theorem jmo_157 : jmok 157 = true := by
  unfold jmok
  rw [show jmi 157 = (yX11_kept, cX11_kept, 3, 0, [2, 0, 0], [5037, 5035, 5036, 1001, 11], 0) from rfl]
  dsimp only
  simp only [Bool.and_eq_true]
  repeat' apply And.intro
  all_goals first | (exact decide_eq_true (show jwAt 5037 = _ from rfl)) | decide +kernel
theorem jmo_158 : jmok 158 = true := by
  unfold jmok
  rw [show jmi 158 = (yX11_later, cX11_later, 4, 0, [2, 0, 0], [5046, 5044, 5045, 1001, 11], 0) from rfl]
  dsimp only
  simp only [Bool.and_eq_true]
  repeat' apply And.intro
  all_goals first | (exact decide_eq_true (show jwAt 5046 = _ from rfl)) | decide +kernel
theorem jmo_159 : jmok 159 = true := by
  unfold jmok
  rw [show jmi 159 = (yX11_copy, cX11_copy, 2, 3, [2, 2], [5057, 5056, 0, 1001, 11], 1) from rfl]
  dsimp only
  simp only [Bool.and_eq_true]
  repeat' apply And.intro
  all_goals first | (exact decide_eq_true (show jwAt 5057 = _ from rfl)) | decide +kernel
theorem jmo_160 : jmok 160 = true := by
  unfold jmok
  rw [show jmi 160 = (yX11_payloadOctet, cX11_payloadOctet, 3, 0, [0, 0, 0], [5224, 5223, 0, 1001, 11], 1) from rfl]
  dsimp only
  simp only [Bool.and_eq_true]
  repeat' apply And.intro
  all_goals first | (exact decide_eq_true (show jwAt 5224 = _ from rfl)) | decide +kernel
theorem jmo_161 : jmok 161 = true := by
  unfold jmok
  rw [show jmi 161 = (yX11_when, cX11_when, 3, 0, [2, 0], [5231, 5229, 5230, 1001, 11], 0) from rfl]
  dsimp only
  simp only [Bool.and_eq_true]
  repeat' apply And.intro
  all_goals first | (exact decide_eq_true (show jwAt 5231 = _ from rfl)) | decide +kernel
theorem jmo_162 : jmok 162 = true := by
  unfold jmok
  rw [show jmi 162 = (yX11_rule, cX11_rule, 3, 0, [2, 0, 0], [5235, 5233, 5234, 1001, 11], 0) from rfl]
  dsimp only
  simp only [Bool.and_eq_true]
  repeat' apply And.intro
  all_goals first | (exact decide_eq_true (show jwAt 5235 = _ from rfl)) | decide +kernel
theorem jmo_163 : jmok 163 = true := by
  unfold jmok
  rw [show jmi 163 = (yX11_runByRule, cX11_runByRule, 6, 0, [2, 0, 0], [5239, 5238, 51, 1001, 11], 0) from rfl]
  dsimp only
  simp only [Bool.and_eq_true]
  repeat' apply And.intro
  all_goals first | (exact decide_eq_true (show jwAt 5239 = _ from rfl)) | decide +kernel
theorem jmo_164 : jmok 164 = true := by
  unfold jmok
  rw [show jmi 164 = (yX11_best, cX11_best, 6, 0, [2, 0], [6003, 6001, 6002, 1001, 11], 0) from rfl]
  dsimp only
  simp only [Bool.and_eq_true]
  repeat' apply And.intro
  all_goals first | (exact decide_eq_true (show jwAt 6003 = _ from rfl)) | decide +kernel
theorem jmo_165 : jmok 165 = true := by
  unfold jmok
  rw [show jmi 165 = (yX11_room, cX11_room, 2, 0, [2, 0], [6007, 6005, 6006, 1001, 11], 0) from rfl]
  dsimp only
  simp only [Bool.and_eq_true]
  repeat' apply And.intro
  all_goals first | (exact decide_eq_true (show jwAt 6007 = _ from rfl)) | decide +kernel
theorem jmo_166 : jmok 166 = true := by
  unfold jmok
  rw [show jmi 166 = (yX11_recovers, cX11_recovers, 3, 0, [2, 0, 0], [6015, 6013, 6014, 1001, 11], 0) from rfl]
  dsimp only
  simp only [Bool.and_eq_true]
  repeat' apply And.intro
  all_goals first | (exact decide_eq_true (show jwAt 6015 = _ from rfl)) | decide +kernel
theorem jmo_167 : jmok 167 = true := by
  unfold jmok
  rw [show jmi 167 = (yX11_flips, cX11_flips, 7, 0, [2, 0], [6064, 6062, 6063, 1001, 11], 0) from rfl]
  dsimp only
  simp only [Bool.and_eq_true]
  repeat' apply And.intro
  all_goals first | (exact decide_eq_true (show jwAt 6064 = _ from rfl)) | decide +kernel
theorem jmo_168 : jmok 168 = true := by
  unfold jmok
  rw [show jmi 168 = (yX11_see, cX11_see, 3, 0, [2], [6077, 6075, 6076, 1001, 11], 0) from rfl]
  dsimp only
  simp only [Bool.and_eq_true]
  repeat' apply And.intro
  all_goals first | (exact decide_eq_true (show jwAt 6077 = _ from rfl)) | decide +kernel
theorem jmo_169 : jmok 169 = true := by
  unfold jmok
  rw [show jmi 169 = (yX11_rowsStand, cX11_rowsStand, 3, 5, [2, 0], [6081, 6080, 56, 1001, 11], 0) from rfl]
  dsimp only
  simp only [Bool.and_eq_true]
  repeat' apply And.intro
  all_goals first | (exact decide_eq_true (show jwAt 6081 = _ from rfl)) | decide +kernel
theorem jmo_170 : jmok 170 = true := by
  unfold jmok
  rw [show jmi 170 = (yX11_tapePair, cX11_tapePair, 2, 0, [2, 0], [6085, 6084, 57, 1001, 11], 0) from rfl]
  dsimp only
  simp only [Bool.and_eq_true]
  repeat' apply And.intro
  all_goals first | (exact decide_eq_true (show jwAt 6085 = _ from rfl)) | decide +kernel
theorem jmo_171 : jmok 171 = true := by
  unfold jmok
  rw [show jmi 171 = (yX11_arrived, cX11_arrived, 2, 0, [2, 0], [6089, 6087, 6088, 1001, 11], 0) from rfl]
  dsimp only
  simp only [Bool.and_eq_true]
  repeat' apply And.intro
  all_goals first | (exact decide_eq_true (show jwAt 6089 = _ from rfl)) | decide +kernel
theorem jmo_172 : jmok 172 = true := by
  unfold jmok
  rw [show jmi 172 = (yX11_gatherArrived, cX11_gatherArrived, 3, 3, [2], [6093, 6092, 58, 1001, 11], 0) from rfl]
  dsimp only
  simp only [Bool.and_eq_true]
  repeat' apply And.intro
  all_goals first | (exact decide_eq_true (show jwAt 6093 = _ from rfl)) | decide +kernel
theorem jmo_173 : jmok 173 = true := by
  unfold jmok
  rw [show jmi 173 = (yX11_isSeen, cX11_isSeen, 4, 5, [2, 2], [6098, 6097, 59, 1001, 11], 0) from rfl]
  dsimp only
  simp only [Bool.and_eq_true]
  repeat' apply And.intro
  all_goals first | (exact decide_eq_true (show jwAt 6098 = _ from rfl)) | decide +kernel
theorem jmo_174 : jmok 174 = true := by
  unfold jmok
  rw [show jmi 174 = (yX11_addArrival, cX11_addArrival, 5, 3, [2, 0, 2], [6102, 6101, 60, 1001, 11], 0) from rfl]
  dsimp only
  simp only [Bool.and_eq_true]
  repeat' apply And.intro
  all_goals first | (exact decide_eq_true (show jwAt 6102 = _ from rfl)) | decide +kernel
theorem jmo_175 : jmok 175 = true := by
  unfold jmok
  rw [show jmi 175 = (yX11_tells, cX11_tells, 6, 0, [2, 0], [6106, 6104, 6105, 1001, 11], 0) from rfl]
  dsimp only
  simp only [Bool.and_eq_true]
  repeat' apply And.intro
  all_goals first | (exact decide_eq_true (show jwAt 6106 = _ from rfl)) | decide +kernel
theorem jmo_176 : jmok 176 = true := by
  unfold jmok
  rw [show jmi 176 = (yX11_mostLeft, cX11_mostLeft, 4, 0, [2, 0], [6110, 6109, 61, 1001, 11], 0) from rfl]
  dsimp only
  simp only [Bool.and_eq_true]
  repeat' apply And.intro
  all_goals first | (exact decide_eq_true (show jwAt 6110 = _ from rfl)) | decide +kernel
theorem jmo_177 : jmok 177 = true := by
  unfold jmok
  rw [show jmi 177 = (yX11_append, cX11_append, 4, 0, [2, 0, 0, 0], [6115, 6113, 6114, 1001, 11], 0) from rfl]
  dsimp only
  simp only [Bool.and_eq_true]
  repeat' apply And.intro
  all_goals first | (exact decide_eq_true (show jwAt 6115 = _ from rfl)) | decide +kernel
theorem jmo_178 : jmok 178 = true := by
  unfold jmok
  rw [show jmi 178 = (yX11_remember, cX11_remember, 1, 3, [2], [6119, 6118, 62, 1001, 11], 0) from rfl]
  dsimp only
  simp only [Bool.and_eq_true]
  repeat' apply And.intro
  all_goals first | (exact decide_eq_true (show jwAt 6119 = _ from rfl)) | decide +kernel
theorem jmo_179 : jmok 179 = true := by
  unfold jmok
  rw [show jmi 179 = (yX11_waits, cX11_waits, 4, 5, [2, 0, 0], [6123, 6121, 6122, 1001, 11], 0) from rfl]
  dsimp only
  simp only [Bool.and_eq_true]
  repeat' apply And.intro
  all_goals first | (exact decide_eq_true (show jwAt 6123 = _ from rfl)) | decide +kernel
theorem jmo_180 : jmok 180 = true := by
  unfold jmok
  rw [show jmi 180 = (yX11_ticks, cX11_ticks, 4, 0, [2, 0], [6131, 6129, 6130, 1001, 11], 0) from rfl]
  dsimp only
  simp only [Bool.and_eq_true]
  repeat' apply And.intro
  all_goals first | (exact decide_eq_true (show jwAt 6131 = _ from rfl)) | decide +kernel
theorem jmo_181 : jmok 181 = true := by
  unfold jmok
  rw [show jmi 181 = (yX11_canPass, cX11_canPass, 2, 5, [2, 0], [6135, 6134, 63, 1001, 11], 0) from rfl]
  dsimp only
  simp only [Bool.and_eq_true]
  repeat' apply And.intro
  all_goals first | (exact decide_eq_true (show jwAt 6135 = _ from rfl)) | decide +kernel
theorem jmo_182 : jmok 182 = true := by
  unfold jmok
  rw [show jmi 182 = (yX11_chance, cX11_chance, 5, 0, [2, 0], [6139, 6137, 6138, 1001, 11], 0) from rfl]
  dsimp only
  simp only [Bool.and_eq_true]
  repeat' apply And.intro
  all_goals first | (exact decide_eq_true (show jwAt 6139 = _ from rfl)) | decide +kernel
theorem jmo_183 : jmok 183 = true := by
  unfold jmok
  rw [show jmi 183 = (yX11_draw, cX11_draw, 2, 0, [2, 0], [6143, 6142, 64, 1001, 11], 0) from rfl]
  dsimp only
  simp only [Bool.and_eq_true]
  repeat' apply And.intro
  all_goals first | (exact decide_eq_true (show jwAt 6143 = _ from rfl)) | decide +kernel
theorem jmo_184 : jmok 184 = true := by
  unfold jmok
  rw [show jmi 184 = (yX11_snap, cX11_snap, 1, 0, [2], [6151, 6149, 6150, 1001, 11], 0) from rfl]
  dsimp only
  simp only [Bool.and_eq_true]
  repeat' apply And.intro
  all_goals first | (exact decide_eq_true (show jwAt 6151 = _ from rfl)) | decide +kernel
theorem jmo_185 : jmok 185 = true := by
  unfold jmok
  rw [show jmi 185 = (yX11_crash, cX11_crash, 2, 0, [2, 0], [6159, 6157, 6158, 1001, 11], 0) from rfl]
  dsimp only
  simp only [Bool.and_eq_true]
  repeat' apply And.intro
  all_goals first | (exact decide_eq_true (show jwAt 6159 = _ from rfl)) | decide +kernel
