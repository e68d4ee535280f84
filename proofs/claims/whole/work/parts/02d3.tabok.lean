/-! methods checked, piece 3 -/
theorem jmo_279 : jmok 279 = true := by
  unfold jmok
  rw [show jmi 279 = (yX12_later, cX12_later, 4, 0, [2, 0, 0], [9201, 9199, 9200, 1014, 12], 0) from rfl]
  dsimp only
  simp only [Bool.and_eq_true]
  repeat' apply And.intro
  all_goals first | (exact decide_eq_true (show jwAt 9201 = _ from rfl)) | decide +kernel
theorem jmo_280 : jmok 280 = true := by
  unfold jmok
  rw [show jmi 280 = (yX12_isAhead, cX12_isAhead, 4, 5, [2, 0, 0, 0], [9205, 9204, 129, 1014, 12], 0) from rfl]
  dsimp only
  simp only [Bool.and_eq_true]
  repeat' apply And.intro
  all_goals first | (exact decide_eq_true (show jwAt 9205 = _ from rfl)) | decide +kernel
theorem jmo_281 : jmok 281 = true := by
  unfold jmok
  rw [show jmi 281 = (yX12_putsAside, cX12_putsAside, 2, 3, [2], [9209, 9208, 130, 1014, 12], 0) from rfl]
  dsimp only
  simp only [Bool.and_eq_true]
  repeat' apply And.intro
  all_goals first | (exact decide_eq_true (show jwAt 9209 = _ from rfl)) | decide +kernel
theorem jmo_282 : jmok 282 = true := by
  unfold jmok
  rw [show jmi 282 = (yX12_ticksGo, cX12_ticksGo, 3, 3, [2, 0], [9213, 9212, 131, 1014, 12], 0) from rfl]
  dsimp only
  simp only [Bool.and_eq_true]
  repeat' apply And.intro
  all_goals first | (exact decide_eq_true (show jwAt 9213 = _ from rfl)) | decide +kernel
theorem jmo_283 : jmok 283 = true := by
  unfold jmok
  rw [show jmi 283 = (yX12_tickGoes, cX12_tickGoes, 1, 3, [2], [9217, 9216, 132, 1014, 12], 0) from rfl]
  dsimp only
  simp only [Bool.and_eq_true]
  repeat' apply And.intro
  all_goals first | (exact decide_eq_true (show jwAt 9217 = _ from rfl)) | decide +kernel
theorem jmo_284 : jmok 284 = true := by
  unfold jmok
  rw [show jmi 284 = (yX12_arrives, cX12_arrives, 3, 3, [2, 0], [9221, 9220, 133, 1014, 12], 0) from rfl]
  dsimp only
  simp only [Bool.and_eq_true]
  repeat' apply And.intro
  all_goals first | (exact decide_eq_true (show jwAt 9221 = _ from rfl)) | decide +kernel
theorem jmo_285 : jmok 285 = true := by
  unfold jmok
  rw [show jmi 285 = (yX12_releases, cX12_releases, 6, 3, [2, 0], [9225, 9224, 134, 1014, 12], 0) from rfl]
  dsimp only
  simp only [Bool.and_eq_true]
  repeat' apply And.intro
  all_goals first | (exact decide_eq_true (show jwAt 9225 = _ from rfl)) | decide +kernel
theorem jmo_286 : jmok 286 = true := by
  unfold jmok
  rw [show jmi 286 = (yX12_isKept, cX12_isKept, 4, 3, [2, 0, 0], [9229, 9228, 135, 1014, 12], 0) from rfl]
  dsimp only
  simp only [Bool.and_eq_true]
  repeat' apply And.intro
  all_goals first | (exact decide_eq_true (show jwAt 9229 = _ from rfl)) | decide +kernel
theorem jmo_287 : jmok 287 = true := by
  unfold jmok
  rw [show jmi 287 = (yX12_groupCloses, cX12_groupCloses, 2, 3, [2], [9233, 9232, 136, 1014, 12], 0) from rfl]
  dsimp only
  simp only [Bool.and_eq_true]
  repeat' apply And.intro
  all_goals first | (exact decide_eq_true (show jwAt 9233 = _ from rfl)) | decide +kernel
theorem jmo_288 : jmok 288 = true := by
  unfold jmok
  rw [show jmi 288 = (yX12_doesClose, cX12_doesClose, 1, 5, [2], [9237, 9236, 137, 1014, 12], 0) from rfl]
  dsimp only
  simp only [Bool.and_eq_true]
  repeat' apply And.intro
  all_goals first | (exact decide_eq_true (show jwAt 9237 = _ from rfl)) | decide +kernel
theorem jmo_289 : jmok 289 = true := by
  unfold jmok
  rw [show jmi 289 = (yX12_asksOf, cX12_asksOf, 4, 3, [2, 0], [10001, 10000, 138, 1014, 12], 0) from rfl]
  dsimp only
  simp only [Bool.and_eq_true]
  repeat' apply And.intro
  all_goals first | (exact decide_eq_true (show jwAt 10001 = _ from rfl)) | decide +kernel
theorem jmo_290 : jmok 290 = true := by
  unfold jmok
  rw [show jmi 290 = (yX12_payloadOf, cX12_payloadOf, 2, 0, [2, 0], [10005, 10004, 139, 1014, 12], 0) from rfl]
  dsimp only
  simp only [Bool.and_eq_true]
  repeat' apply And.intro
  all_goals first | (exact decide_eq_true (show jwAt 10005 = _ from rfl)) | decide +kernel
theorem jmo_291 : jmok 291 = true := by
  unfold jmok
  rw [show jmi 291 = (yX12_isCoded, cX12_isCoded, 2, 5, [2, 0], [10009, 10008, 140, 1014, 12], 0) from rfl]
  dsimp only
  simp only [Bool.and_eq_true]
  repeat' apply And.intro
  all_goals first | (exact decide_eq_true (show jwAt 10009 = _ from rfl)) | decide +kernel
theorem jmo_292 : jmok 292 = true := by
  unfold jmok
  rw [show jmi 292 = (yX12_codesTell, cX12_codesTell, 4, 1, [2, 0], [10013, 10012, 141, 1014, 12], 0) from rfl]
  dsimp only
  simp only [Bool.and_eq_true]
  repeat' apply And.intro
  all_goals first | (exact decide_eq_true (show jwAt 10013 = _ from rfl)) | decide +kernel
theorem jmo_293 : jmok 293 = true := by
  unfold jmok
  rw [show jmi 293 = (yX12_qPuts, cX12_qPuts, 3, 3, [2, 1], [10017, 10016, 142, 1014, 12], 0) from rfl]
  dsimp only
  simp only [Bool.and_eq_true]
  repeat' apply And.intro
  all_goals first | (exact decide_eq_true (show jwAt 10017 = _ from rfl)) | decide +kernel
theorem jmo_294 : jmok 294 = true := by
  unfold jmok
  rw [show jmi 294 = (yX12_qPartOf, cX12_qPartOf, 3, 1, [2, 0, 0], [10021, 10020, 143, 1014, 12], 0) from rfl]
  dsimp only
  simp only [Bool.and_eq_true]
  repeat' apply And.intro
  all_goals first | (exact decide_eq_true (show jwAt 10021 = _ from rfl)) | decide +kernel
theorem jmo_295 : jmok 295 = true := by
  unfold jmok
  rw [show jmi 295 = (yX12_qJoins, cX12_qJoins, 6, 3, [2, 0], [10025, 10024, 144, 1014, 12], 0) from rfl]
  dsimp only
  simp only [Bool.and_eq_true]
  repeat' apply And.intro
  all_goals first | (exact decide_eq_true (show jwAt 10025 = _ from rfl)) | decide +kernel
theorem jmo_296 : jmok 296 = true := by
  unfold jmok
  rw [show jmi 296 = (yX12_qClip, cX12_qClip, 2, 1, [1], [10028, 10027, 0, 1014, 12], 1) from rfl]
  dsimp only
  simp only [Bool.and_eq_true]
  repeat' apply And.intro
  all_goals first | (exact decide_eq_true (show jwAt 10028 = _ from rfl)) | decide +kernel
theorem jmo_297 : jmok 297 = true := by
  unfold jmok
  rw [show jmi 297 = (yX12_qFloor, cX12_qFloor, 6, 1, [1, 1], [10033, 10032, 0, 1014, 12], 1) from rfl]
  dsimp only
  simp only [Bool.and_eq_true]
  repeat' apply And.intro
  all_goals first | (exact decide_eq_true (show jwAt 10033 = _ from rfl)) | decide +kernel
theorem jmo_298 : jmok 298 = true := by
  unfold jmok
  rw [show jmi 298 = (yX12_areLaid, cX12_areLaid, 5, 5, [2, 0], [10037, 10036, 145, 1014, 12], 0) from rfl]
  dsimp only
  simp only [Bool.and_eq_true]
  repeat' apply And.intro
  all_goals first | (exact decide_eq_true (show jwAt 10037 = _ from rfl)) | decide +kernel
theorem jmo_299 : jmok 299 = true := by
  unfold jmok
  rw [show jmi 299 = (yX12_isLaid, cX12_isLaid, 6, 5, [2, 0], [10041, 10040, 146, 1014, 12], 0) from rfl]
  dsimp only
  simp only [Bool.and_eq_true]
  repeat' apply And.intro
  all_goals first | (exact decide_eq_true (show jwAt 10041 = _ from rfl)) | decide +kernel
theorem jmo_300 : jmok 300 = true := by
  unfold jmok
  rw [show jmi 300 = (yX12_freeOne, cX12_freeOne, 2, 0, [2], [10045, 10044, 147, 1014, 12], 0) from rfl]
  dsimp only
  simp only [Bool.and_eq_true]
  repeat' apply And.intro
  all_goals first | (exact decide_eq_true (show jwAt 10045 = _ from rfl)) | decide +kernel
theorem jmo_301 : jmok 301 = true := by
  unfold jmok
  rw [show jmi 301 = (yX12_goesOut, cX12_goesOut, 2, 3, [2, 0], [10049, 10048, 148, 1014, 12], 0) from rfl]
  dsimp only
  simp only [Bool.and_eq_true]
  repeat' apply And.intro
  all_goals first | (exact decide_eq_true (show jwAt 10049 = _ from rfl)) | decide +kernel
theorem jmo_302 : jmok 302 = true := by
  unfold jmok
  rw [show jmi 302 = (yX12_frameGoes, cX12_frameGoes, 8, 3, [2, 0, 0, 0], [10053, 10052, 149, 1014, 12], 0) from rfl]
  dsimp only
  simp only [Bool.and_eq_true]
  repeat' apply And.intro
  all_goals first | (exact decide_eq_true (show jwAt 10053 = _ from rfl)) | decide +kernel
theorem jmo_303 : jmok 303 = true := by
  unfold jmok
  rw [show jmi 303 = (yX12_frames, cX12_frames, 2, 3, [2, 0], [10057, 10056, 150, 1014, 12], 0) from rfl]
  dsimp only
  simp only [Bool.and_eq_true]
  repeat' apply And.intro
  all_goals first | (exact decide_eq_true (show jwAt 10057 = _ from rfl)) | decide +kernel
theorem jmo_304 : jmok 304 = true := by
  unfold jmok
  rw [show jmi 304 = (yX12_payloadAt, cX12_payloadAt, 4, 0, [2, 0, 0], [10061, 10060, 151, 1014, 12], 0) from rfl]
  dsimp only
  simp only [Bool.and_eq_true]
  repeat' apply And.intro
  all_goals first | (exact decide_eq_true (show jwAt 10061 = _ from rfl)) | decide +kernel
theorem jmo_305 : jmok 305 = true := by
  unfold jmok
  rw [show jmi 305 = (yX12_ticksFor, cX12_ticksFor, 3, 0, [2], [10065, 10064, 152, 1014, 12], 0) from rfl]
  dsimp only
  simp only [Bool.and_eq_true]
  repeat' apply And.intro
  all_goals first | (exact decide_eq_true (show jwAt 10065 = _ from rfl)) | decide +kernel
theorem jmo_306 : jmok 306 = true := by
  unfold jmok
  rw [show jmi 306 = (yX12_takesBack, cX12_takesBack, 1, 3, [2], [10070, 10069, 153, 1014, 12], 0) from rfl]
  dsimp only
  simp only [Bool.and_eq_true]
  repeat' apply And.intro
  all_goals first | (exact decide_eq_true (show jwAt 10070 = _ from rfl)) | decide +kernel
theorem jmo_307 : jmok 307 = true := by
  unfold jmok
  rw [show jmi 307 = (yX12_triesAnew, cX12_triesAnew, 2, 3, [2], [10074, 10073, 154, 1014, 12], 0) from rfl]
  dsimp only
  simp only [Bool.and_eq_true]
  repeat' apply And.intro
  all_goals first | (exact decide_eq_true (show jwAt 10074 = _ from rfl)) | decide +kernel
theorem jmo_308 : jmok 308 = true := by
  unfold jmok
  rw [show jmi 308 = (yX12_when, cX12_when, 2, 0, [2, 0], [10078, 10076, 10077, 1014, 12], 0) from rfl]
  dsimp only
  simp only [Bool.and_eq_true]
  repeat' apply And.intro
  all_goals first | (exact decide_eq_true (show jwAt 10078 = _ from rfl)) | decide +kernel
theorem jmo_309 : jmok 309 = true := by
  unfold jmok
  rw [show jmi 309 = (yX12_ticksTill, cX12_ticksTill, 4, 0, [2, 0], [10082, 10081, 155, 1014, 12], 0) from rfl]
  dsimp only
  simp only [Bool.and_eq_true]
  repeat' apply And.intro
  all_goals first | (exact decide_eq_true (show jwAt 10082 = _ from rfl)) | decide +kernel
theorem jmo_310 : jmok 310 = true := by
  unfold jmok
  rw [show jmi 310 = (yX12_rule, cX12_rule, 4, 0, [2, 0, 0], [10086, 10084, 10085, 1014, 12], 0) from rfl]
  dsimp only
  simp only [Bool.and_eq_true]
  repeat' apply And.intro
  all_goals first | (exact decide_eq_true (show jwAt 10086 = _ from rfl)) | decide +kernel
theorem jmo_311 : jmok 311 = true := by
  unfold jmok
  rw [show jmi 311 = (yX12_best, cX12_best, 6, 0, [2, 0], [10091, 10089, 10090, 1014, 12], 0) from rfl]
  dsimp only
  simp only [Bool.and_eq_true]
  repeat' apply And.intro
  all_goals first | (exact decide_eq_true (show jwAt 10091 = _ from rfl)) | decide +kernel
theorem jmo_312 : jmok 312 = true := by
  unfold jmok
  rw [show jmi 312 = (yX12_room, cX12_room, 3, 0, [2, 0], [10096, 10094, 10095, 1014, 12], 0) from rfl]
  dsimp only
  simp only [Bool.and_eq_true]
  repeat' apply And.intro
  all_goals first | (exact decide_eq_true (show jwAt 10096 = _ from rfl)) | decide +kernel
theorem jmo_313 : jmok 313 = true := by
  unfold jmok
  rw [show jmi 313 = (yX12_isLaidOf, cX12_isLaidOf, 4, 5, [2, 0], [10101, 10100, 156, 1014, 12], 0) from rfl]
  dsimp only
  simp only [Bool.and_eq_true]
  repeat' apply And.intro
  all_goals first | (exact decide_eq_true (show jwAt 10101 = _ from rfl)) | decide +kernel
theorem jmo_314 : jmok 314 = true := by
  unfold jmok
  rw [show jmi 314 = (yX12_recovers, cX12_recovers, 4, 0, [2, 0, 0], [10105, 10103, 10104, 1014, 12], 0) from rfl]
  dsimp only
  simp only [Bool.and_eq_true]
  repeat' apply And.intro
  all_goals first | (exact decide_eq_true (show jwAt 10105 = _ from rfl)) | decide +kernel
theorem jmo_315 : jmok 315 = true := by
  unfold jmok
  rw [show jmi 315 = (yX12_crashes, cX12_crashes, 2, 3, [2, 0], [10110, 10109, 157, 1014, 12], 0) from rfl]
  dsimp only
  simp only [Bool.and_eq_true]
  repeat' apply And.intro
  all_goals first | (exact decide_eq_true (show jwAt 10110 = _ from rfl)) | decide +kernel
theorem jmo_316 : jmok 316 = true := by
  unfold jmok
  rw [show jmi 316 = (yX12_recovering, cX12_recovering, 3, 3, [2], [10114, 10113, 158, 1014, 12], 0) from rfl]
  dsimp only
  simp only [Bool.and_eq_true]
  repeat' apply And.intro
  all_goals first | (exact decide_eq_true (show jwAt 10114 = _ from rfl)) | decide +kernel
theorem jmo_317 : jmok 317 = true := by
  unfold jmok
  rw [show jmi 317 = (yX12_beginner, cX12_beginner, 3, 0, [2], [10118, 10117, 159, 1014, 12], 0) from rfl]
  dsimp only
  simp only [Bool.and_eq_true]
  repeat' apply And.intro
  all_goals first | (exact decide_eq_true (show jwAt 10118 = _ from rfl)) | decide +kernel
theorem jmo_318 : jmok 318 = true := by
  unfold jmok
  rw [show jmi 318 = (yX12_follower, cX12_follower, 4, 0, [2, 0], [10122, 10121, 160, 1014, 12], 0) from rfl]
  dsimp only
  simp only [Bool.and_eq_true]
  repeat' apply And.intro
  all_goals first | (exact decide_eq_true (show jwAt 10122 = _ from rfl)) | decide +kernel
theorem jmo_319 : jmok 319 = true := by
  unfold jmok
  rw [show jmi 319 = (yX12_isGreater, cX12_isGreater, 3, 5, [2, 0, 0], [10126, 10125, 161, 1014, 12], 0) from rfl]
  dsimp only
  simp only [Bool.and_eq_true]
  repeat' apply And.intro
  all_goals first | (exact decide_eq_true (show jwAt 10126 = _ from rfl)) | decide +kernel
theorem jmo_320 : jmok 320 = true := by
  unfold jmok
  rw [show jmi 320 = (yX12_endsWithoutGround, cX12_endsWithoutGround, 2, 3, [2], [10130, 10129, 162, 1014, 12], 0) from rfl]
  dsimp only
  simp only [Bool.and_eq_true]
  repeat' apply And.intro
  all_goals first | (exact decide_eq_true (show jwAt 10130 = _ from rfl)) | decide +kernel
theorem jmo_321 : jmok 321 = true := by
  unfold jmok
  rw [show jmi 321 = (yX12_isDamaged, cX12_isDamaged, 3, 5, [2, 0], [10134, 10133, 163, 1014, 12], 0) from rfl]
  dsimp only
  simp only [Bool.and_eq_true]
  repeat' apply And.intro
  all_goals first | (exact decide_eq_true (show jwAt 10134 = _ from rfl)) | decide +kernel
theorem jmo_322 : jmok 322 = true := by
  unfold jmok
  rw [show jmi 322 = (yX12_zeroes, cX12_zeroes, 5, 0, [2, 0, 0], [10138, 10137, 164, 1014, 12], 0) from rfl]
  dsimp only
  simp only [Bool.and_eq_true]
  repeat' apply And.intro
  all_goals first | (exact decide_eq_true (show jwAt 10138 = _ from rfl)) | decide +kernel
theorem jmo_323 : jmok 323 = true := by
  unfold jmok
  rw [show jmi 323 = (yX12_keyMany, cX12_keyMany, 3, 0, [2], [10142, 10141, 165, 1014, 12], 0) from rfl]
  dsimp only
  simp only [Bool.and_eq_true]
  repeat' apply And.intro
  all_goals first | (exact decide_eq_true (show jwAt 10142 = _ from rfl)) | decide +kernel
theorem jmo_324 : jmok 324 = true := by
  unfold jmok
  rw [show jmi 324 = (yX12_flips, cX12_flips, 7, 0, [2, 0], [10146, 10144, 10145, 1014, 12], 0) from rfl]
  dsimp only
  simp only [Bool.and_eq_true]
  repeat' apply And.intro
  all_goals first | (exact decide_eq_true (show jwAt 10146 = _ from rfl)) | decide +kernel
theorem jmo_325 : jmok 325 = true := by
  unfold jmok
  rw [show jmi 325 = (yX12_turns, cX12_turns, 2, 3, [2, 0], [10150, 10149, 166, 1014, 12], 0) from rfl]
  dsimp only
  simp only [Bool.and_eq_true]
  repeat' apply And.intro
  all_goals first | (exact decide_eq_true (show jwAt 10150 = _ from rfl)) | decide +kernel
theorem jmo_326 : jmok 326 = true := by
  unfold jmok
  rw [show jmi 326 = (yX12_see, cX12_see, 4, 0, [2], [10154, 10152, 10153, 1014, 12], 0) from rfl]
  dsimp only
  simp only [Bool.and_eq_true]
  repeat' apply And.intro
  all_goals first | (exact decide_eq_true (show jwAt 10154 = _ from rfl)) | decide +kernel
theorem jmo_327 : jmok 327 = true := by
  unfold jmok
  rw [show jmi 327 = (yX12_arrived, cX12_arrived, 4, 0, [2, 0], [10158, 10156, 10157, 1014, 12], 0) from rfl]
  dsimp only
  simp only [Bool.and_eq_true]
  repeat' apply And.intro
  all_goals first | (exact decide_eq_true (show jwAt 10158 = _ from rfl)) | decide +kernel
theorem jmo_328 : jmok 328 = true := by
  unfold jmok
  rw [show jmi 328 = (yX12_laysArrived, cX12_laysArrived, 4, 3, [2], [10162, 10161, 167, 1014, 12], 0) from rfl]
  dsimp only
  simp only [Bool.and_eq_true]
  repeat' apply And.intro
  all_goals first | (exact decide_eq_true (show jwAt 10162 = _ from rfl)) | decide +kernel
theorem jmo_329 : jmok 329 = true := by
  unfold jmok
  rw [show jmi 329 = (yX12_isAsSeen, cX12_isAsSeen, 3, 5, [2, 0], [10166, 10165, 168, 1014, 12], 0) from rfl]
  dsimp only
  simp only [Bool.and_eq_true]
  repeat' apply And.intro
  all_goals first | (exact decide_eq_true (show jwAt 10166 = _ from rfl)) | decide +kernel
theorem jmo_330 : jmok 330 = true := by
  unfold jmok
  rw [show jmi 330 = (yX12_tells, cX12_tells, 6, 0, [2, 0], [10170, 10168, 10169, 1014, 12], 0) from rfl]
  dsimp only
  simp only [Bool.and_eq_true]
  repeat' apply And.intro
  all_goals first | (exact decide_eq_true (show jwAt 10170 = _ from rfl)) | decide +kernel
theorem jmo_331 : jmok 331 = true := by
  unfold jmok
  rw [show jmi 331 = (yX12_mostAlike, cX12_mostAlike, 5, 0, [2, 0], [10174, 10173, 169, 1014, 12], 0) from rfl]
  dsimp only
  simp only [Bool.and_eq_true]
  repeat' apply And.intro
  all_goals first | (exact decide_eq_true (show jwAt 10174 = _ from rfl)) | decide +kernel
theorem jmo_332 : jmok 332 = true := by
  unfold jmok
  rw [show jmi 332 = (yX12_undo, cX12_undo, 2, 5, [2], [10178, 10176, 10177, 1014, 12], 0) from rfl]
  dsimp only
  simp only [Bool.and_eq_true]
  repeat' apply And.intro
  all_goals first | (exact decide_eq_true (show jwAt 10178 = _ from rfl)) | decide +kernel
theorem jmo_333 : jmok 333 = true := by
  unfold jmok
  rw [show jmi 333 = (yX12_append, cX12_append, 4, 0, [2, 0, 0, 0], [10182, 10180, 10181, 1014, 12], 0) from rfl]
  dsimp only
  simp only [Bool.and_eq_true]
  repeat' apply And.intro
  all_goals first | (exact decide_eq_true (show jwAt 10182 = _ from rfl)) | decide +kernel
theorem jmo_334 : jmok 334 = true := by
  unfold jmok
  rw [show jmi 334 = (yX12_keeps, cX12_keeps, 2, 3, [2], [10187, 10186, 170, 1014, 12], 0) from rfl]
  dsimp only
  simp only [Bool.and_eq_true]
  repeat' apply And.intro
  all_goals first | (exact decide_eq_true (show jwAt 10187 = _ from rfl)) | decide +kernel
theorem jmo_335 : jmok 335 = true := by
  unfold jmok
  rw [show jmi 335 = (yX12_waits, cX12_waits, 3, 5, [2, 0, 0], [10191, 10189, 10190, 1014, 12], 0) from rfl]
  dsimp only
  simp only [Bool.and_eq_true]
  repeat' apply And.intro
  all_goals first | (exact decide_eq_true (show jwAt 10191 = _ from rfl)) | decide +kernel
theorem jmo_336 : jmok 336 = true := by
  unfold jmok
  rw [show jmi 336 = (yX12_isRefused, cX12_isRefused, 2, 5, [2, 0], [10195, 10194, 171, 1014, 12], 0) from rfl]
  dsimp only
  simp only [Bool.and_eq_true]
  repeat' apply And.intro
  all_goals first | (exact decide_eq_true (show jwAt 10195 = _ from rfl)) | decide +kernel
theorem jmo_337 : jmok 337 = true := by
  unfold jmok
  rw [show jmi 337 = (yX12_ticks, cX12_ticks, 2, 0, [2, 0], [10199, 10197, 10198, 1014, 12], 0) from rfl]
  dsimp only
  simp only [Bool.and_eq_true]
  repeat' apply And.intro
  all_goals first | (exact decide_eq_true (show jwAt 10199 = _ from rfl)) | decide +kernel
theorem jmo_338 : jmok 338 = true := by
  unfold jmok
  rw [show jmi 338 = (yX12_seed, cX12_seed, 2, 5, [2, 0], [10203, 10201, 10202, 1014, 12], 0) from rfl]
  dsimp only
  simp only [Bool.and_eq_true]
  repeat' apply And.intro
  all_goals first | (exact decide_eq_true (show jwAt 10203 = _ from rfl)) | decide +kernel
theorem jmo_339 : jmok 339 = true := by
  unfold jmok
  rw [show jmi 339 = (yX12_chance, cX12_chance, 5, 0, [2, 0], [10207, 10205, 10206, 1014, 12], 0) from rfl]
  dsimp only
  simp only [Bool.and_eq_true]
  repeat' apply And.intro
  all_goals first | (exact decide_eq_true (show jwAt 10207 = _ from rfl)) | decide +kernel
theorem jmo_340 : jmok 340 = true := by
  unfold jmok
  rw [show jmi 340 = (yX12_drawOf, cX12_drawOf, 2, 0, [2, 0], [10211, 10210, 172, 1014, 12], 0) from rfl]
  dsimp only
  simp only [Bool.and_eq_true]
  repeat' apply And.intro
  all_goals first | (exact decide_eq_true (show jwAt 10211 = _ from rfl)) | decide +kernel
theorem jmo_341 : jmok 341 = true := by
  unfold jmok
  rw [show jmi 341 = (yX12_snap, cX12_snap, 2, 0, [2], [10219, 10217, 10218, 1014, 12], 0) from rfl]
  dsimp only
  simp only [Bool.and_eq_true]
  repeat' apply And.intro
  all_goals first | (exact decide_eq_true (show jwAt 10219 = _ from rfl)) | decide +kernel
theorem jmo_342 : jmok 342 = true := by
  unfold jmok
  rw [show jmi 342 = (yX12_crash, cX12_crash, 2, 0, [2, 0], [10223, 10221, 10222, 1014, 12], 0) from rfl]
  dsimp only
  simp only [Bool.and_eq_true]
  repeat' apply And.intro
  all_goals first | (exact decide_eq_true (show jwAt 10223 = _ from rfl)) | decide +kernel
theorem jmo_343 : jmok 343 = true := by
  unfold jmok
  rw [show jmi 343 = (yX12_giveUp, cX12_giveUp, 4, 0, [2], [10227, 10225, 10226, 1014, 12], 0) from rfl]
  dsimp only
  simp only [Bool.and_eq_true]
  repeat' apply And.intro
  all_goals first | (exact decide_eq_true (show jwAt 10227 = _ from rfl)) | decide +kernel
theorem jmo_344 : jmok 344 = true := by
  unfold jmok
  rw [show jmi 344 = (yX12_flip, cX12_flip, 3, 0, [2, 0, 0], [10231, 10229, 10230, 1014, 12], 0) from rfl]
  dsimp only
  simp only [Bool.and_eq_true]
  repeat' apply And.intro
  all_goals first | (exact decide_eq_true (show jwAt 10231 = _ from rfl)) | decide +kernel
theorem jmo_345 : jmok 345 = true := by
  unfold jmok
  rw [show jmi 345 = (yX12_ask, cX12_ask, 3, 1, [2], [10235, 10233, 10234, 1014, 12], 0) from rfl]
  dsimp only
  simp only [Bool.and_eq_true]
  repeat' apply And.intro
  all_goals first | (exact decide_eq_true (show jwAt 10235 = _ from rfl)) | decide +kernel
theorem jmo_346 : jmok 346 = true := by
  unfold jmok
  rw [show jmi 346 = (yX12_qKind, cX12_qKind, 2, 0, [2], [11000, 10239, 173, 1014, 12], 0) from rfl]
  dsimp only
  simp only [Bool.and_eq_true]
  repeat' apply And.intro
  all_goals first | (exact decide_eq_true (show jwAt 11000 = _ from rfl)) | decide +kernel
theorem jmo_347 : jmok 347 = true := by
  unfold jmok
  rw [show jmi 347 = (yX12_qTold, cX12_qTold, 4, 1, [2, 0], [11005, 11004, 174, 1014, 12], 0) from rfl]
  dsimp only
  simp only [Bool.and_eq_true]
  repeat' apply And.intro
  all_goals first | (exact decide_eq_true (show jwAt 11005 = _ from rfl)) | decide +kernel
theorem jmo_348 : jmok 348 = true := by
  unfold jmok
  rw [show jmi 348 = (yX12_qOf, cX12_qOf, 5, 1, [2, 0, 1, 0], [11009, 11008, 175, 1014, 12], 0) from rfl]
  dsimp only
  simp only [Bool.and_eq_true]
  repeat' apply And.intro
  all_goals first | (exact decide_eq_true (show jwAt 11009 = _ from rfl)) | decide +kernel
theorem jmo_349 : jmok 349 = true := by
  unfold jmok
  rw [show jmi 349 = (yX12_qTakes, cX12_qTakes, 6, 3, [2, 0, 1, 0], [11013, 11012, 176, 1014, 12], 0) from rfl]
  dsimp only
  simp only [Bool.and_eq_true]
  repeat' apply And.intro
  all_goals first | (exact decide_eq_true (show jwAt 11013 = _ from rfl)) | decide +kernel
theorem jmo_350 : jmok 350 = true := by
  unfold jmok
  rw [show jmi 350 = (yX12_octet, cX12_octet, 2, 0, [2, 0], [11017, 11015, 11016, 1014, 12], 0) from rfl]
  dsimp only
  simp only [Bool.and_eq_true]
  repeat' apply And.intro
  all_goals first | (exact decide_eq_true (show jwAt 11017 = _ from rfl)) | decide +kernel
theorem jmo_351 : jmok 351 = true := by
  unfold jmok
  rw [show jmi 351 = (yX12_status, cX12_status, 2, 0, [2, 0], [11021, 11019, 11020, 1014, 12], 0) from rfl]
  dsimp only
  simp only [Bool.and_eq_true]
  repeat' apply And.intro
  all_goals first | (exact decide_eq_true (show jwAt 11021 = _ from rfl)) | decide +kernel
theorem jmo_352 : jmok 352 = true := by
  unfold jmok
  rw [show jmi 352 = (yX12_image, cX12_image, 3, 0, [2], [11026, 11024, 11025, 1014, 12], 0) from rfl]
  dsimp only
  simp only [Bool.and_eq_true]
  repeat' apply And.intro
  all_goals first | (exact decide_eq_true (show jwAt 11026 = _ from rfl)) | decide +kernel
theorem jmo_353 : jmok 353 = true := by
  unfold jmok
  rw [show jmi 353 = (yX12_writesTwo, cX12_writesTwo, 2, 3, [2, 0], [11031, 11030, 177, 1014, 12], 0) from rfl]
  dsimp only
  simp only [Bool.and_eq_true]
  repeat' apply And.intro
  all_goals first | (exact decide_eq_true (show jwAt 11031 = _ from rfl)) | decide +kernel
theorem jmo_354 : jmok 354 = true := by
  unfold jmok
  rw [show jmi 354 = (yX12_writes, cX12_writes, 2, 3, [2, 0], [11035, 11034, 178, 1014, 12], 0) from rfl]
  dsimp only
  simp only [Bool.and_eq_true]
  repeat' apply And.intro
  all_goals first | (exact decide_eq_true (show jwAt 11035 = _ from rfl)) | decide +kernel
theorem jmo_355 : jmok 355 = true := by
  unfold jmok
  rw [show jmi 355 = (yX12_checked, cX12_checked, 4, 0, [2, 0], [11038, 11037, 0, 1014, 12], 1) from rfl]
  dsimp only
  simp only [Bool.and_eq_true]
  repeat' apply And.intro
  all_goals first | (exact decide_eq_true (show jwAt 11038 = _ from rfl)) | decide +kernel
theorem jmo_356 : jmok 356 = true := by
  unfold jmok
  rw [show jmi 356 = (yX12_on, cX12_on, 4, 5, [2], [11042, 11040, 11041, 1014, 12], 0) from rfl]
  dsimp only
  simp only [Bool.and_eq_true]
  repeat' apply And.intro
  all_goals first | (exact decide_eq_true (show jwAt 11042 = _ from rfl)) | decide +kernel
theorem jmo_357 : jmok 357 = true := by
  unfold jmok
  rw [show jmi 357 = (yX12_isImage, cX12_isImage, 3, 5, [2, 0], [11046, 11045, 179, 1014, 12], 0) from rfl]
  dsimp only
  simp only [Bool.and_eq_true]
  repeat' apply And.intro
  all_goals first | (exact decide_eq_true (show jwAt 11046 = _ from rfl)) | decide +kernel
theorem jmo_358 : jmok 358 = true := by
  unfold jmok
  rw [show jmi 358 = (yX12_twoAt, cX12_twoAt, 2, 0, [2, 0], [11050, 11049, 180, 1014, 12], 0) from rfl]
  dsimp only
  simp only [Bool.and_eq_true]
  repeat' apply And.intro
  all_goals first | (exact decide_eq_true (show jwAt 11050 = _ from rfl)) | decide +kernel
theorem jmo_359 : jmok 359 = true := by
  unfold jmok
  rw [show jmi 359 = (yJ7_fill_53178, cJ7_fill_53178, 4, 3, [2, 0], [2063, 2062, 0, 1010, 90], 1) from rfl]
  dsimp only
  simp only [Bool.and_eq_true]
  repeat' apply And.intro
  all_goals first | (exact decide_eq_true (show jwAt 2063 = _ from rfl)) | decide +kernel
theorem jmo_360 : jmok 360 = true := by
  unfold jmok
  rw [show jmi 360 = (yJ9_min_7cf53, cJ9_min_7cf53, 2, 0, [0, 0], [3106, 3105, 0, 1015, 90], 1) from rfl]
  dsimp only
  simp only [Bool.and_eq_true]
  repeat' apply And.intro
  all_goals first | (exact decide_eq_true (show jwAt 3106 = _ from rfl)) | decide +kernel
theorem jmo_361 : jmok 361 = true := by
  unfold jmok
  rw [show jmi 361 = (yJ0_length_8abf5, cJ0_length_8abf5, 1, 0, [2], [3148, 3146, 3147, 1016, 50], 0) from rfl]
  dsimp only
  simp only [Bool.and_eq_true]
  repeat' apply And.intro
  all_goals first | (exact decide_eq_true (show jwAt 3148 = _ from rfl)) | decide +kernel
theorem jmo_362 : jmok 362 = true := by
  unfold jmok
  rw [show jmi 362 = (yJ0_coder_7d493, cJ0_coder_7d493, 1, 7, [2], [3152, 3150, 3151, 1016, 50], 0) from rfl]
  dsimp only
  simp only [Bool.and_eq_true]
  repeat' apply And.intro
  all_goals first | (exact decide_eq_true (show jwAt 3152 = _ from rfl)) | decide +kernel
theorem jmo_363 : jmok 363 = true := by
  unfold jmok
  rw [show jmi 363 = (yJ0_charAt_5068e, cJ0_charAt_5068e, 2, 6, [2, 0], [3158, 3156, 3157, 1016, 50], 0) from rfl]
  dsimp only
  simp only [Bool.and_eq_true]
  repeat' apply And.intro
  all_goals first | (exact decide_eq_true (show jwAt 3158 = _ from rfl)) | decide +kernel
theorem jmo_364 : jmok 364 = true := by
  unfold jmok
  rw [show jmi 364 = (yJ0_isLatin1_aae02, cJ0_isLatin1_aae02, 1, 5, [2], [3162, 3160, 3161, 1016, 50], 0) from rfl]
  dsimp only
  simp only [Bool.and_eq_true]
  repeat' apply And.intro
  all_goals first | (exact decide_eq_true (show jwAt 3162 = _ from rfl)) | decide +kernel
theorem jmo_365 : jmok 365 = true := by
  unfold jmok
  rw [show jmi 365 = (yJ1_charAt_3b067, cJ1_charAt_3b067, 2, 6, [2, 0], [3165, 3164, 0, 1017, 90], 1) from rfl]
  dsimp only
  simp only [Bool.and_eq_true]
  repeat' apply And.intro
  all_goals first | (exact decide_eq_true (show jwAt 3165 = _ from rfl)) | decide +kernel
theorem jmo_366 : jmok 366 = true := by
  unfold jmok
  rw [show jmi 366 = (yJ0_checkIndex_df160, cJ0_checkIndex_df160, 2, 3, [0, 0], [3168, 3167, 0, 1016, 50], 1) from rfl]
  dsimp only
  simp only [Bool.and_eq_true]
  repeat' apply And.intro
  all_goals first | (exact decide_eq_true (show jwAt 3168 = _ from rfl)) | decide +kernel
theorem jmo_367 : jmok 367 = true := by
  unfold jmok
  rw [show jmi 367 = (yJ3_checkIndex_8e157, cJ3_checkIndex_8e157, 3, 0, [0, 0, 2], [3173, 3172, 0, 1018, 90], 1) from rfl]
  dsimp only
  simp only [Bool.and_eq_true]
  repeat' apply And.intro
  all_goals first | (exact decide_eq_true (show jwAt 3173 = _ from rfl)) | decide +kernel
theorem jmo_368 : jmok 368 = true := by
  unfold jmok
  rw [show jmi 368 = (yJ9_min_f86c9, cJ9_min_f86c9, 4, 1, [1, 1], [5160, 5159, 0, 1015, 90], 1) from rfl]
  dsimp only
  simp only [Bool.and_eq_true]
  repeat' apply And.intro
  all_goals first | (exact decide_eq_true (show jwAt 5160 = _ from rfl)) | decide +kernel
theorem jmo_369 : jmok 369 = true := by
  unfold jmok
  rw [show jmi 369 = (yJ9_max_f86c9, cJ9_max_f86c9, 4, 1, [1, 1], [5163, 5162, 0, 1015, 90], 1) from rfl]
  dsimp only
  simp only [Bool.and_eq_true]
  repeat' apply And.intro
  all_goals first | (exact decide_eq_true (show jwAt 5163 = _ from rfl)) | decide +kernel
theorem jmo_370 : jmok 370 = true := by
  unfold jmok
  rw [show jmi 370 = (yJ9_floorDiv_7cf53, cJ9_floorDiv_7cf53, 3, 0, [0, 0], [5166, 5165, 0, 1015, 90], 1) from rfl]
  dsimp only
  simp only [Bool.and_eq_true]
  repeat' apply And.intro
  all_goals first | (exact decide_eq_true (show jwAt 5166 = _ from rfl)) | decide +kernel
theorem jmo_371 : jmok 371 = true := by
  unfold jmok
  rw [show jmi 371 = (yJ9_max_7cf53, cJ9_max_7cf53, 2, 0, [0, 0], [5170, 5169, 0, 1015, 90], 1) from rfl]
  dsimp only
  simp only [Bool.and_eq_true]
  repeat' apply And.intro
  all_goals first | (exact decide_eq_true (show jwAt 5170 = _ from rfl)) | decide +kernel
