/-! rows checked, piece 7 -/
set_option maxRecDepth 100000 in
set_option maxHeartbeats 4000000 in
theorem jrk_328_0 : jT_328_0.all (jrok 328) = true := by decide +kernel
set_option maxRecDepth 100000 in
set_option maxHeartbeats 4000000 in
theorem jrk_328_1 : jT_328_1.all (jrok 328) = true := by decide +kernel
theorem jrk_328 : jT_328.all (jrok 328) = true := by
  unfold jT_328
  simp only [List.all_append, jrk_328_0, jrk_328_1, Bool.and_self]
set_option maxRecDepth 100000 in
set_option maxHeartbeats 4000000 in
theorem jrk_329_0 : jT_329_0.all (jrok 329) = true := by decide +kernel
theorem jrk_329 : jT_329.all (jrok 329) = true := by
  exact jrk_329_0
set_option maxRecDepth 100000 in
set_option maxHeartbeats 4000000 in
theorem jrk_330_0 : jT_330_0.all (jrok 330) = true := by decide +kernel
set_option maxRecDepth 100000 in
set_option maxHeartbeats 4000000 in
theorem jrk_330_1 : jT_330_1.all (jrok 330) = true := by decide +kernel
theorem jrk_330 : jT_330.all (jrok 330) = true := by
  unfold jT_330
  simp only [List.all_append, jrk_330_0, jrk_330_1, Bool.and_self]
set_option maxRecDepth 100000 in
set_option maxHeartbeats 4000000 in
theorem jrk_331_0 : jT_331_0.all (jrok 331) = true := by decide +kernel
set_option maxRecDepth 100000 in
set_option maxHeartbeats 4000000 in
theorem jrk_331_1 : jT_331_1.all (jrok 331) = true := by decide +kernel
theorem jrk_331 : jT_331.all (jrok 331) = true := by
  unfold jT_331
  simp only [List.all_append, jrk_331_0, jrk_331_1, Bool.and_self]
set_option maxRecDepth 100000 in
set_option maxHeartbeats 4000000 in
theorem jrk_332_0 : jT_332_0.all (jrok 332) = true := by decide +kernel
set_option maxRecDepth 100000 in
set_option maxHeartbeats 4000000 in
theorem jrk_332_1 : jT_332_1.all (jrok 332) = true := by decide +kernel
theorem jrk_332 : jT_332.all (jrok 332) = true := by
  unfold jT_332
  simp only [List.all_append, jrk_332_0, jrk_332_1, Bool.and_self]
set_option maxRecDepth 100000 in
set_option maxHeartbeats 4000000 in
theorem jrk_333_0 : jT_333_0.all (jrok 333) = true := by decide +kernel
theorem jrk_333 : jT_333.all (jrok 333) = true := by
  exact jrk_333_0
set_option maxRecDepth 100000 in
set_option maxHeartbeats 4000000 in
theorem jrk_334_0 : jT_334_0.all (jrok 334) = true := by decide +kernel
theorem jrk_334 : jT_334.all (jrok 334) = true := by
  exact jrk_334_0
set_option maxRecDepth 100000 in
set_option maxHeartbeats 4000000 in
theorem jrk_335_0 : jT_335_0.all (jrok 335) = true := by decide +kernel
set_option maxRecDepth 100000 in
set_option maxHeartbeats 4000000 in
theorem jrk_335_1 : jT_335_1.all (jrok 335) = true := by decide +kernel
theorem jrk_335 : jT_335.all (jrok 335) = true := by
  unfold jT_335
  simp only [List.all_append, jrk_335_0, jrk_335_1, Bool.and_self]
set_option maxRecDepth 100000 in
set_option maxHeartbeats 4000000 in
theorem jrk_336_0 : jT_336_0.all (jrok 336) = true := by decide +kernel
theorem jrk_336 : jT_336.all (jrok 336) = true := by
  exact jrk_336_0
set_option maxRecDepth 100000 in
set_option maxHeartbeats 4000000 in
theorem jrk_337_0 : jT_337_0.all (jrok 337) = true := by decide +kernel
theorem jrk_337 : jT_337.all (jrok 337) = true := by
  exact jrk_337_0
set_option maxRecDepth 100000 in
set_option maxHeartbeats 4000000 in
theorem jrk_338_0 : jT_338_0.all (jrok 338) = true := by decide +kernel
theorem jrk_338 : jT_338.all (jrok 338) = true := by
  exact jrk_338_0
set_option maxRecDepth 100000 in
set_option maxHeartbeats 4000000 in
theorem jrk_339_0 : jT_339_0.all (jrok 339) = true := by decide +kernel
set_option maxRecDepth 100000 in
set_option maxHeartbeats 4000000 in
theorem jrk_339_1 : jT_339_1.all (jrok 339) = true := by decide +kernel
theorem jrk_339 : jT_339.all (jrok 339) = true := by
  unfold jT_339
  simp only [List.all_append, jrk_339_0, jrk_339_1, Bool.and_self]
set_option maxRecDepth 100000 in
set_option maxHeartbeats 4000000 in
theorem jrk_340_0 : jT_340_0.all (jrok 340) = true := by decide +kernel
theorem jrk_340 : jT_340.all (jrok 340) = true := by
  exact jrk_340_0
set_option maxRecDepth 100000 in
set_option maxHeartbeats 4000000 in
theorem jrk_341_0 : jT_341_0.all (jrok 341) = true := by decide +kernel
set_option maxRecDepth 100000 in
set_option maxHeartbeats 4000000 in
theorem jrk_341_1 : jT_341_1.all (jrok 341) = true := by decide +kernel
theorem jrk_341 : jT_341.all (jrok 341) = true := by
  unfold jT_341
  simp only [List.all_append, jrk_341_0, jrk_341_1, Bool.and_self]
set_option maxRecDepth 100000 in
set_option maxHeartbeats 4000000 in
theorem jrk_342_0 : jT_342_0.all (jrok 342) = true := by decide +kernel
theorem jrk_342 : jT_342.all (jrok 342) = true := by
  exact jrk_342_0
set_option maxRecDepth 100000 in
set_option maxHeartbeats 4000000 in
theorem jrk_343_0 : jT_343_0.all (jrok 343) = true := by decide +kernel
set_option maxRecDepth 100000 in
set_option maxHeartbeats 4000000 in
theorem jrk_343_1 : jT_343_1.all (jrok 343) = true := by decide +kernel
theorem jrk_343 : jT_343.all (jrok 343) = true := by
  unfold jT_343
  simp only [List.all_append, jrk_343_0, jrk_343_1, Bool.and_self]
set_option maxRecDepth 100000 in
set_option maxHeartbeats 4000000 in
theorem jrk_344_0 : jT_344_0.all (jrok 344) = true := by decide +kernel
theorem jrk_344 : jT_344.all (jrok 344) = true := by
  exact jrk_344_0
set_option maxRecDepth 100000 in
set_option maxHeartbeats 4000000 in
theorem jrk_345_0 : jT_345_0.all (jrok 345) = true := by decide +kernel
set_option maxRecDepth 100000 in
set_option maxHeartbeats 4000000 in
theorem jrk_345_1 : jT_345_1.all (jrok 345) = true := by decide +kernel
set_option maxRecDepth 100000 in
set_option maxHeartbeats 4000000 in
theorem jrk_345_2 : jT_345_2.all (jrok 345) = true := by decide +kernel
theorem jrk_345 : jT_345.all (jrok 345) = true := by
  unfold jT_345
  simp only [List.all_append, jrk_345_0, jrk_345_1, jrk_345_2, Bool.and_self]
set_option maxRecDepth 100000 in
set_option maxHeartbeats 4000000 in
theorem jrk_346_0 : jT_346_0.all (jrok 346) = true := by decide +kernel
theorem jrk_346 : jT_346.all (jrok 346) = true := by
  exact jrk_346_0
set_option maxRecDepth 100000 in
set_option maxHeartbeats 4000000 in
theorem jrk_347_0 : jT_347_0.all (jrok 347) = true := by decide +kernel
set_option maxRecDepth 100000 in
set_option maxHeartbeats 4000000 in
theorem jrk_347_1 : jT_347_1.all (jrok 347) = true := by decide +kernel
set_option maxRecDepth 100000 in
set_option maxHeartbeats 4000000 in
theorem jrk_347_2 : jT_347_2.all (jrok 347) = true := by decide +kernel
theorem jrk_347 : jT_347.all (jrok 347) = true := by
  unfold jT_347
  simp only [List.all_append, jrk_347_0, jrk_347_1, jrk_347_2, Bool.and_self]
set_option maxRecDepth 100000 in
set_option maxHeartbeats 4000000 in
theorem jrk_348_0 : jT_348_0.all (jrok 348) = true := by decide +kernel
theorem jrk_348 : jT_348.all (jrok 348) = true := by
  exact jrk_348_0
set_option maxRecDepth 100000 in
set_option maxHeartbeats 4000000 in
theorem jrk_349_0 : jT_349_0.all (jrok 349) = true := by decide +kernel
set_option maxRecDepth 100000 in
set_option maxHeartbeats 4000000 in
theorem jrk_349_1 : jT_349_1.all (jrok 349) = true := by decide +kernel
theorem jrk_349 : jT_349.all (jrok 349) = true := by
  unfold jT_349
  simp only [List.all_append, jrk_349_0, jrk_349_1, Bool.and_self]
set_option maxRecDepth 100000 in
set_option maxHeartbeats 4000000 in
theorem jrk_350_0 : jT_350_0.all (jrok 350) = true := by decide +kernel
theorem jrk_350 : jT_350.all (jrok 350) = true := by
  exact jrk_350_0
set_option maxRecDepth 100000 in
set_option maxHeartbeats 4000000 in
theorem jrk_351_0 : jT_351_0.all (jrok 351) = true := by decide +kernel
theorem jrk_351 : jT_351.all (jrok 351) = true := by
  exact jrk_351_0
set_option maxRecDepth 100000 in
set_option maxHeartbeats 4000000 in
theorem jrk_352_0 : jT_352_0.all (jrok 352) = true := by decide +kernel
set_option maxRecDepth 100000 in
set_option maxHeartbeats 4000000 in
theorem jrk_352_1 : jT_352_1.all (jrok 352) = true := by decide +kernel
theorem jrk_352 : jT_352.all (jrok 352) = true := by
  unfold jT_352
  simp only [List.all_append, jrk_352_0, jrk_352_1, Bool.and_self]
set_option maxRecDepth 100000 in
set_option maxHeartbeats 4000000 in
theorem jrk_353_0 : jT_353_0.all (jrok 353) = true := by decide +kernel
theorem jrk_353 : jT_353.all (jrok 353) = true := by
  exact jrk_353_0
set_option maxRecDepth 100000 in
set_option maxHeartbeats 4000000 in
theorem jrk_354_0 : jT_354_0.all (jrok 354) = true := by decide +kernel
theorem jrk_354 : jT_354.all (jrok 354) = true := by
  exact jrk_354_0
set_option maxRecDepth 100000 in
set_option maxHeartbeats 4000000 in
theorem jrk_355_0 : jT_355_0.all (jrok 355) = true := by decide +kernel
theorem jrk_355 : jT_355.all (jrok 355) = true := by
  exact jrk_355_0
set_option maxRecDepth 100000 in
set_option maxHeartbeats 4000000 in
theorem jrk_356_0 : jT_356_0.all (jrok 356) = true := by decide +kernel
set_option maxRecDepth 100000 in
set_option maxHeartbeats 4000000 in
theorem jrk_356_1 : jT_356_1.all (jrok 356) = true := by decide +kernel
set_option maxRecDepth 100000 in
set_option maxHeartbeats 4000000 in
theorem jrk_356_2 : jT_356_2.all (jrok 356) = true := by decide +kernel
theorem jrk_356 : jT_356.all (jrok 356) = true := by
  unfold jT_356
  simp only [List.all_append, jrk_356_0, jrk_356_1, jrk_356_2, Bool.and_self]
set_option maxRecDepth 100000 in
set_option maxHeartbeats 4000000 in
theorem jrk_357_0 : jT_357_0.all (jrok 357) = true := by decide +kernel
set_option maxRecDepth 100000 in
set_option maxHeartbeats 4000000 in
theorem jrk_357_1 : jT_357_1.all (jrok 357) = true := by decide +kernel
theorem jrk_357 : jT_357.all (jrok 357) = true := by
  unfold jT_357
  simp only [List.all_append, jrk_357_0, jrk_357_1, Bool.and_self]
set_option maxRecDepth 100000 in
set_option maxHeartbeats 4000000 in
theorem jrk_358_0 : jT_358_0.all (jrok 358) = true := by decide +kernel
theorem jrk_358 : jT_358.all (jrok 358) = true := by
  exact jrk_358_0
set_option maxRecDepth 100000 in
set_option maxHeartbeats 4000000 in
theorem jrk_359_0 : jT_359_0.all (jrok 359) = true := by decide +kernel
theorem jrk_359 : jT_359.all (jrok 359) = true := by
  exact jrk_359_0
set_option maxRecDepth 100000 in
set_option maxHeartbeats 4000000 in
theorem jrk_360_0 : jT_360_0.all (jrok 360) = true := by decide +kernel
theorem jrk_360 : jT_360.all (jrok 360) = true := by
  exact jrk_360_0
set_option maxRecDepth 100000 in
set_option maxHeartbeats 4000000 in
theorem jrk_361_0 : jT_361_0.all (jrok 361) = true := by decide +kernel
theorem jrk_361 : jT_361.all (jrok 361) = true := by
  exact jrk_361_0
set_option maxRecDepth 100000 in
set_option maxHeartbeats 4000000 in
theorem jrk_362_0 : jT_362_0.all (jrok 362) = true := by decide +kernel
theorem jrk_362 : jT_362.all (jrok 362) = true := by
  exact jrk_362_0
set_option maxRecDepth 100000 in
set_option maxHeartbeats 4000000 in
theorem jrk_363_0 : jT_363_0.all (jrok 363) = true := by decide +kernel
theorem jrk_363 : jT_363.all (jrok 363) = true := by
  exact jrk_363_0
set_option maxRecDepth 100000 in
set_option maxHeartbeats 4000000 in
theorem jrk_364_0 : jT_364_0.all (jrok 364) = true := by decide +kernel
theorem jrk_364 : jT_364.all (jrok 364) = true := by
  exact jrk_364_0
set_option maxRecDepth 100000 in
set_option maxHeartbeats 4000000 in
theorem jrk_365_0 : jT_365_0.all (jrok 365) = true := by decide +kernel
theorem jrk_365 : jT_365.all (jrok 365) = true := by
  exact jrk_365_0
set_option maxRecDepth 100000 in
set_option maxHeartbeats 4000000 in
theorem jrk_366_0 : jT_366_0.all (jrok 366) = true := by decide +kernel
theorem jrk_366 : jT_366.all (jrok 366) = true := by
  exact jrk_366_0
set_option maxRecDepth 100000 in
set_option maxHeartbeats 4000000 in
theorem jrk_367_0 : jT_367_0.all (jrok 367) = true := by decide +kernel
theorem jrk_367 : jT_367.all (jrok 367) = true := by
  exact jrk_367_0
set_option maxRecDepth 100000 in
set_option maxHeartbeats 4000000 in
theorem jrk_368_0 : jT_368_0.all (jrok 368) = true := by decide +kernel
theorem jrk_368 : jT_368.all (jrok 368) = true := by
  exact jrk_368_0
set_option maxRecDepth 100000 in
set_option maxHeartbeats 4000000 in
theorem jrk_369_0 : jT_369_0.all (jrok 369) = true := by decide +kernel
theorem jrk_369 : jT_369.all (jrok 369) = true := by
  exact jrk_369_0
set_option maxRecDepth 100000 in
set_option maxHeartbeats 4000000 in
theorem jrk_370_0 : jT_370_0.all (jrok 370) = true := by decide +kernel
theorem jrk_370 : jT_370.all (jrok 370) = true := by
  exact jrk_370_0
set_option maxRecDepth 100000 in
set_option maxHeartbeats 4000000 in
theorem jrk_371_0 : jT_371_0.all (jrok 371) = true := by decide +kernel
theorem jrk_371 : jT_371.all (jrok 371) = true := by
  exact jrk_371_0
set_option maxRecDepth 100000 in
set_option maxHeartbeats 4000000 in
theorem jrk_372_0 : jT_372_0.all (jrok 372) = true := by decide +kernel
theorem jrk_372 : jT_372.all (jrok 372) = true := by
  exact jrk_372_0
