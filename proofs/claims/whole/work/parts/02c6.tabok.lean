/-! rows checked, piece 6 -/
theorem jrk_282 : jT_282.all (jrok 282) = true := by
  exact jrk_282_0
set_option maxRecDepth 100000 in
set_option maxHeartbeats 4000000 in
theorem jrk_283_0 : jT_283_0.all (jrok 283) = true := by decide +kernel
set_option maxRecDepth 100000 in
set_option maxHeartbeats 4000000 in
theorem jrk_283_1 : jT_283_1.all (jrok 283) = true := by decide +kernel
set_option maxRecDepth 100000 in
set_option maxHeartbeats 4000000 in
theorem jrk_283_2 : jT_283_2.all (jrok 283) = true := by decide +kernel
theorem jrk_283 : jT_283.all (jrok 283) = true := by
  unfold jT_283
  simp only [List.all_append, jrk_283_0, jrk_283_1, jrk_283_2, Bool.and_self]
set_option maxRecDepth 100000 in
set_option maxHeartbeats 4000000 in
theorem jrk_284_0 : jT_284_0.all (jrok 284) = true := by decide +kernel
theorem jrk_284 : jT_284.all (jrok 284) = true := by
  exact jrk_284_0
set_option maxRecDepth 100000 in
set_option maxHeartbeats 4000000 in
theorem jrk_285_0 : jT_285_0.all (jrok 285) = true := by decide +kernel
set_option maxRecDepth 100000 in
set_option maxHeartbeats 4000000 in
theorem jrk_285_1 : jT_285_1.all (jrok 285) = true := by decide +kernel
theorem jrk_285 : jT_285.all (jrok 285) = true := by
  unfold jT_285
  simp only [List.all_append, jrk_285_0, jrk_285_1, Bool.and_self]
set_option maxRecDepth 100000 in
set_option maxHeartbeats 4000000 in
theorem jrk_286_0 : jT_286_0.all (jrok 286) = true := by decide +kernel
set_option maxRecDepth 100000 in
set_option maxHeartbeats 4000000 in
theorem jrk_286_1 : jT_286_1.all (jrok 286) = true := by decide +kernel
theorem jrk_286 : jT_286.all (jrok 286) = true := by
  unfold jT_286
  simp only [List.all_append, jrk_286_0, jrk_286_1, Bool.and_self]
set_option maxRecDepth 100000 in
set_option maxHeartbeats 4000000 in
theorem jrk_287_0 : jT_287_0.all (jrok 287) = true := by decide +kernel
set_option maxRecDepth 100000 in
set_option maxHeartbeats 4000000 in
theorem jrk_287_1 : jT_287_1.all (jrok 287) = true := by decide +kernel
theorem jrk_287 : jT_287.all (jrok 287) = true := by
  unfold jT_287
  simp only [List.all_append, jrk_287_0, jrk_287_1, Bool.and_self]
set_option maxRecDepth 100000 in
set_option maxHeartbeats 4000000 in
theorem jrk_288_0 : jT_288_0.all (jrok 288) = true := by decide +kernel
set_option maxRecDepth 100000 in
set_option maxHeartbeats 4000000 in
theorem jrk_288_1 : jT_288_1.all (jrok 288) = true := by decide +kernel
theorem jrk_288 : jT_288.all (jrok 288) = true := by
  unfold jT_288
  simp only [List.all_append, jrk_288_0, jrk_288_1, Bool.and_self]
set_option maxRecDepth 100000 in
set_option maxHeartbeats 4000000 in
theorem jrk_289_0 : jT_289_0.all (jrok 289) = true := by decide +kernel
theorem jrk_289 : jT_289.all (jrok 289) = true := by
  exact jrk_289_0
set_option maxRecDepth 100000 in
set_option maxHeartbeats 4000000 in
theorem jrk_290_0 : jT_290_0.all (jrok 290) = true := by decide +kernel
theorem jrk_290 : jT_290.all (jrok 290) = true := by
  exact jrk_290_0
set_option maxRecDepth 100000 in
set_option maxHeartbeats 4000000 in
theorem jrk_291_0 : jT_291_0.all (jrok 291) = true := by decide +kernel
theorem jrk_291 : jT_291.all (jrok 291) = true := by
  exact jrk_291_0
set_option maxRecDepth 100000 in
set_option maxHeartbeats 4000000 in
theorem jrk_292_0 : jT_292_0.all (jrok 292) = true := by decide +kernel
set_option maxRecDepth 100000 in
set_option maxHeartbeats 4000000 in
theorem jrk_292_1 : jT_292_1.all (jrok 292) = true := by decide +kernel
theorem jrk_292 : jT_292.all (jrok 292) = true := by
  unfold jT_292
  simp only [List.all_append, jrk_292_0, jrk_292_1, Bool.and_self]
set_option maxRecDepth 100000 in
set_option maxHeartbeats 4000000 in
theorem jrk_293_0 : jT_293_0.all (jrok 293) = true := by decide +kernel
theorem jrk_293 : jT_293.all (jrok 293) = true := by
  exact jrk_293_0
set_option maxRecDepth 100000 in
set_option maxHeartbeats 4000000 in
theorem jrk_294_0 : jT_294_0.all (jrok 294) = true := by decide +kernel
set_option maxRecDepth 100000 in
set_option maxHeartbeats 4000000 in
theorem jrk_294_1 : jT_294_1.all (jrok 294) = true := by decide +kernel
theorem jrk_294 : jT_294.all (jrok 294) = true := by
  unfold jT_294
  simp only [List.all_append, jrk_294_0, jrk_294_1, Bool.and_self]
set_option maxRecDepth 100000 in
set_option maxHeartbeats 4000000 in
theorem jrk_295_0 : jT_295_0.all (jrok 295) = true := by decide +kernel
set_option maxRecDepth 100000 in
set_option maxHeartbeats 4000000 in
theorem jrk_295_1 : jT_295_1.all (jrok 295) = true := by decide +kernel
set_option maxRecDepth 100000 in
set_option maxHeartbeats 4000000 in
theorem jrk_295_2 : jT_295_2.all (jrok 295) = true := by decide +kernel
theorem jrk_295 : jT_295.all (jrok 295) = true := by
  unfold jT_295
  simp only [List.all_append, jrk_295_0, jrk_295_1, jrk_295_2, Bool.and_self]
set_option maxRecDepth 100000 in
set_option maxHeartbeats 4000000 in
theorem jrk_296_0 : jT_296_0.all (jrok 296) = true := by decide +kernel
theorem jrk_296 : jT_296.all (jrok 296) = true := by
  exact jrk_296_0
set_option maxRecDepth 100000 in
set_option maxHeartbeats 4000000 in
theorem jrk_297_0 : jT_297_0.all (jrok 297) = true := by decide +kernel
theorem jrk_297 : jT_297.all (jrok 297) = true := by
  exact jrk_297_0
set_option maxRecDepth 100000 in
set_option maxHeartbeats 4000000 in
theorem jrk_298_0 : jT_298_0.all (jrok 298) = true := by decide +kernel
set_option maxRecDepth 100000 in
set_option maxHeartbeats 4000000 in
theorem jrk_298_1 : jT_298_1.all (jrok 298) = true := by decide +kernel
theorem jrk_298 : jT_298.all (jrok 298) = true := by
  unfold jT_298
  simp only [List.all_append, jrk_298_0, jrk_298_1, Bool.and_self]
set_option maxRecDepth 100000 in
set_option maxHeartbeats 4000000 in
theorem jrk_299_0 : jT_299_0.all (jrok 299) = true := by decide +kernel
set_option maxRecDepth 100000 in
set_option maxHeartbeats 4000000 in
theorem jrk_299_1 : jT_299_1.all (jrok 299) = true := by decide +kernel
set_option maxRecDepth 100000 in
set_option maxHeartbeats 4000000 in
theorem jrk_299_2 : jT_299_2.all (jrok 299) = true := by decide +kernel
theorem jrk_299 : jT_299.all (jrok 299) = true := by
  unfold jT_299
  simp only [List.all_append, jrk_299_0, jrk_299_1, jrk_299_2, Bool.and_self]
set_option maxRecDepth 100000 in
set_option maxHeartbeats 4000000 in
theorem jrk_300_0 : jT_300_0.all (jrok 300) = true := by decide +kernel
theorem jrk_300 : jT_300.all (jrok 300) = true := by
  exact jrk_300_0
set_option maxRecDepth 100000 in
set_option maxHeartbeats 4000000 in
theorem jrk_301_0 : jT_301_0.all (jrok 301) = true := by decide +kernel
theorem jrk_301 : jT_301.all (jrok 301) = true := by
  exact jrk_301_0
set_option maxRecDepth 100000 in
set_option maxHeartbeats 4000000 in
theorem jrk_302_0 : jT_302_0.all (jrok 302) = true := by decide +kernel
set_option maxRecDepth 100000 in
set_option maxHeartbeats 4000000 in
theorem jrk_302_1 : jT_302_1.all (jrok 302) = true := by decide +kernel
theorem jrk_302 : jT_302.all (jrok 302) = true := by
  unfold jT_302
  simp only [List.all_append, jrk_302_0, jrk_302_1, Bool.and_self]
set_option maxRecDepth 100000 in
set_option maxHeartbeats 4000000 in
theorem jrk_303_0 : jT_303_0.all (jrok 303) = true := by decide +kernel
theorem jrk_303 : jT_303.all (jrok 303) = true := by
  exact jrk_303_0
set_option maxRecDepth 100000 in
set_option maxHeartbeats 4000000 in
theorem jrk_304_0 : jT_304_0.all (jrok 304) = true := by decide +kernel
theorem jrk_304 : jT_304.all (jrok 304) = true := by
  exact jrk_304_0
set_option maxRecDepth 100000 in
set_option maxHeartbeats 4000000 in
theorem jrk_305_0 : jT_305_0.all (jrok 305) = true := by decide +kernel
theorem jrk_305 : jT_305.all (jrok 305) = true := by
  exact jrk_305_0
set_option maxRecDepth 100000 in
set_option maxHeartbeats 4000000 in
theorem jrk_306_0 : jT_306_0.all (jrok 306) = true := by decide +kernel
theorem jrk_306 : jT_306.all (jrok 306) = true := by
  exact jrk_306_0
set_option maxRecDepth 100000 in
set_option maxHeartbeats 4000000 in
theorem jrk_307_0 : jT_307_0.all (jrok 307) = true := by decide +kernel
theorem jrk_307 : jT_307.all (jrok 307) = true := by
  exact jrk_307_0
set_option maxRecDepth 100000 in
set_option maxHeartbeats 4000000 in
theorem jrk_308_0 : jT_308_0.all (jrok 308) = true := by decide +kernel
theorem jrk_308 : jT_308.all (jrok 308) = true := by
  exact jrk_308_0
set_option maxRecDepth 100000 in
set_option maxHeartbeats 4000000 in
theorem jrk_309_0 : jT_309_0.all (jrok 309) = true := by decide +kernel
theorem jrk_309 : jT_309.all (jrok 309) = true := by
  exact jrk_309_0
set_option maxRecDepth 100000 in
set_option maxHeartbeats 4000000 in
theorem jrk_310_0 : jT_310_0.all (jrok 310) = true := by decide +kernel
theorem jrk_310 : jT_310.all (jrok 310) = true := by
  exact jrk_310_0
set_option maxRecDepth 100000 in
set_option maxHeartbeats 4000000 in
theorem jrk_311_0 : jT_311_0.all (jrok 311) = true := by decide +kernel
theorem jrk_311 : jT_311.all (jrok 311) = true := by
  exact jrk_311_0
set_option maxRecDepth 100000 in
set_option maxHeartbeats 4000000 in
theorem jrk_312_0 : jT_312_0.all (jrok 312) = true := by decide +kernel
set_option maxRecDepth 100000 in
set_option maxHeartbeats 4000000 in
theorem jrk_312_1 : jT_312_1.all (jrok 312) = true := by decide +kernel
theorem jrk_312 : jT_312.all (jrok 312) = true := by
  unfold jT_312
  simp only [List.all_append, jrk_312_0, jrk_312_1, Bool.and_self]
set_option maxRecDepth 100000 in
set_option maxHeartbeats 4000000 in
theorem jrk_313_0 : jT_313_0.all (jrok 313) = true := by decide +kernel
theorem jrk_313 : jT_313.all (jrok 313) = true := by
  exact jrk_313_0
set_option maxRecDepth 100000 in
set_option maxHeartbeats 4000000 in
theorem jrk_314_0 : jT_314_0.all (jrok 314) = true := by decide +kernel
set_option maxRecDepth 100000 in
set_option maxHeartbeats 4000000 in
theorem jrk_314_1 : jT_314_1.all (jrok 314) = true := by decide +kernel
theorem jrk_314 : jT_314.all (jrok 314) = true := by
  unfold jT_314
  simp only [List.all_append, jrk_314_0, jrk_314_1, Bool.and_self]
set_option maxRecDepth 100000 in
set_option maxHeartbeats 4000000 in
theorem jrk_315_0 : jT_315_0.all (jrok 315) = true := by decide +kernel
theorem jrk_315 : jT_315.all (jrok 315) = true := by
  exact jrk_315_0
set_option maxRecDepth 100000 in
set_option maxHeartbeats 4000000 in
theorem jrk_316_0 : jT_316_0.all (jrok 316) = true := by decide +kernel
set_option maxRecDepth 100000 in
set_option maxHeartbeats 4000000 in
theorem jrk_316_1 : jT_316_1.all (jrok 316) = true := by decide +kernel
set_option maxRecDepth 100000 in
set_option maxHeartbeats 4000000 in
theorem jrk_316_2 : jT_316_2.all (jrok 316) = true := by decide +kernel
set_option maxRecDepth 100000 in
set_option maxHeartbeats 4000000 in
theorem jrk_316_3 : jT_316_3.all (jrok 316) = true := by decide +kernel
theorem jrk_316 : jT_316.all (jrok 316) = true := by
  unfold jT_316
  simp only [List.all_append, jrk_316_0, jrk_316_1, jrk_316_2, jrk_316_3, Bool.and_self]
set_option maxRecDepth 100000 in
set_option maxHeartbeats 4000000 in
theorem jrk_317_0 : jT_317_0.all (jrok 317) = true := by decide +kernel
theorem jrk_317 : jT_317.all (jrok 317) = true := by
  exact jrk_317_0
set_option maxRecDepth 100000 in
set_option maxHeartbeats 4000000 in
theorem jrk_318_0 : jT_318_0.all (jrok 318) = true := by decide +kernel
theorem jrk_318 : jT_318.all (jrok 318) = true := by
  exact jrk_318_0
set_option maxRecDepth 100000 in
set_option maxHeartbeats 4000000 in
theorem jrk_319_0 : jT_319_0.all (jrok 319) = true := by decide +kernel
theorem jrk_319 : jT_319.all (jrok 319) = true := by
  exact jrk_319_0
set_option maxRecDepth 100000 in
set_option maxHeartbeats 4000000 in
theorem jrk_320_0 : jT_320_0.all (jrok 320) = true := by decide +kernel
set_option maxRecDepth 100000 in
set_option maxHeartbeats 4000000 in
theorem jrk_320_1 : jT_320_1.all (jrok 320) = true := by decide +kernel
theorem jrk_320 : jT_320.all (jrok 320) = true := by
  unfold jT_320
  simp only [List.all_append, jrk_320_0, jrk_320_1, Bool.and_self]
set_option maxRecDepth 100000 in
set_option maxHeartbeats 4000000 in
theorem jrk_321_0 : jT_321_0.all (jrok 321) = true := by decide +kernel
theorem jrk_321 : jT_321.all (jrok 321) = true := by
  exact jrk_321_0
set_option maxRecDepth 100000 in
set_option maxHeartbeats 4000000 in
theorem jrk_322_0 : jT_322_0.all (jrok 322) = true := by decide +kernel
theorem jrk_322 : jT_322.all (jrok 322) = true := by
  exact jrk_322_0
set_option maxRecDepth 100000 in
set_option maxHeartbeats 4000000 in
theorem jrk_323_0 : jT_323_0.all (jrok 323) = true := by decide +kernel
theorem jrk_323 : jT_323.all (jrok 323) = true := by
  exact jrk_323_0
set_option maxRecDepth 100000 in
set_option maxHeartbeats 4000000 in
theorem jrk_324_0 : jT_324_0.all (jrok 324) = true := by decide +kernel
set_option maxRecDepth 100000 in
set_option maxHeartbeats 4000000 in
theorem jrk_324_1 : jT_324_1.all (jrok 324) = true := by decide +kernel
theorem jrk_324 : jT_324.all (jrok 324) = true := by
  unfold jT_324
  simp only [List.all_append, jrk_324_0, jrk_324_1, Bool.and_self]
set_option maxRecDepth 100000 in
set_option maxHeartbeats 4000000 in
theorem jrk_325_0 : jT_325_0.all (jrok 325) = true := by decide +kernel
theorem jrk_325 : jT_325.all (jrok 325) = true := by
  exact jrk_325_0
set_option maxRecDepth 100000 in
set_option maxHeartbeats 4000000 in
theorem jrk_326_0 : jT_326_0.all (jrok 326) = true := by decide +kernel
set_option maxRecDepth 100000 in
set_option maxHeartbeats 4000000 in
theorem jrk_326_1 : jT_326_1.all (jrok 326) = true := by decide +kernel
set_option maxRecDepth 100000 in
set_option maxHeartbeats 4000000 in
theorem jrk_326_2 : jT_326_2.all (jrok 326) = true := by decide +kernel
theorem jrk_326 : jT_326.all (jrok 326) = true := by
  unfold jT_326
  simp only [List.all_append, jrk_326_0, jrk_326_1, jrk_326_2, Bool.and_self]
set_option maxRecDepth 100000 in
set_option maxHeartbeats 4000000 in
theorem jrk_327_0 : jT_327_0.all (jrok 327) = true := by decide +kernel
theorem jrk_327 : jT_327.all (jrok 327) = true := by
  exact jrk_327_0
