/-! rows checked, piece 5 -/
theorem jrk_231 : jT_231.all (jrok 231) = true := by
  unfold jT_231
  simp only [List.all_append, jrk_231_0, jrk_231_1, jrk_231_2, jrk_231_3, jrk_231_4, Bool.and_self]
set_option maxRecDepth 100000 in
set_option maxHeartbeats 4000000 in
theorem jrk_232_0 : jT_232_0.all (jrok 232) = true := by decide +kernel
theorem jrk_232 : jT_232.all (jrok 232) = true := by
  exact jrk_232_0
set_option maxRecDepth 100000 in
set_option maxHeartbeats 4000000 in
theorem jrk_233_0 : jT_233_0.all (jrok 233) = true := by decide +kernel
theorem jrk_233 : jT_233.all (jrok 233) = true := by
  exact jrk_233_0
set_option maxRecDepth 100000 in
set_option maxHeartbeats 4000000 in
theorem jrk_234_0 : jT_234_0.all (jrok 234) = true := by decide +kernel
theorem jrk_234 : jT_234.all (jrok 234) = true := by
  exact jrk_234_0
set_option maxRecDepth 100000 in
set_option maxHeartbeats 4000000 in
theorem jrk_235_0 : jT_235_0.all (jrok 235) = true := by decide +kernel
theorem jrk_235 : jT_235.all (jrok 235) = true := by
  exact jrk_235_0
set_option maxRecDepth 100000 in
set_option maxHeartbeats 4000000 in
theorem jrk_236_0 : jT_236_0.all (jrok 236) = true := by decide +kernel
theorem jrk_236 : jT_236.all (jrok 236) = true := by
  exact jrk_236_0
set_option maxRecDepth 100000 in
set_option maxHeartbeats 4000000 in
theorem jrk_237_0 : jT_237_0.all (jrok 237) = true := by decide +kernel
set_option maxRecDepth 100000 in
set_option maxHeartbeats 4000000 in
theorem jrk_237_1 : jT_237_1.all (jrok 237) = true := by decide +kernel
set_option maxRecDepth 100000 in
set_option maxHeartbeats 4000000 in
theorem jrk_237_2 : jT_237_2.all (jrok 237) = true := by decide +kernel
theorem jrk_237 : jT_237.all (jrok 237) = true := by
  unfold jT_237
  simp only [List.all_append, jrk_237_0, jrk_237_1, jrk_237_2, Bool.and_self]
set_option maxRecDepth 100000 in
set_option maxHeartbeats 4000000 in
theorem jrk_238_0 : jT_238_0.all (jrok 238) = true := by decide +kernel
theorem jrk_238 : jT_238.all (jrok 238) = true := by
  exact jrk_238_0
set_option maxRecDepth 100000 in
set_option maxHeartbeats 4000000 in
theorem jrk_239_0 : jT_239_0.all (jrok 239) = true := by decide +kernel
theorem jrk_239 : jT_239.all (jrok 239) = true := by
  exact jrk_239_0
set_option maxRecDepth 100000 in
set_option maxHeartbeats 4000000 in
theorem jrk_240_0 : jT_240_0.all (jrok 240) = true := by decide +kernel
set_option maxRecDepth 100000 in
set_option maxHeartbeats 4000000 in
theorem jrk_240_1 : jT_240_1.all (jrok 240) = true := by decide +kernel
set_option maxRecDepth 100000 in
set_option maxHeartbeats 4000000 in
theorem jrk_240_2 : jT_240_2.all (jrok 240) = true := by decide +kernel
set_option maxRecDepth 100000 in
set_option maxHeartbeats 4000000 in
theorem jrk_240_3 : jT_240_3.all (jrok 240) = true := by decide +kernel
theorem jrk_240 : jT_240.all (jrok 240) = true := by
  unfold jT_240
  simp only [List.all_append, jrk_240_0, jrk_240_1, jrk_240_2, jrk_240_3, Bool.and_self]
set_option maxRecDepth 100000 in
set_option maxHeartbeats 4000000 in
theorem jrk_241_0 : jT_241_0.all (jrok 241) = true := by decide +kernel
theorem jrk_241 : jT_241.all (jrok 241) = true := by
  exact jrk_241_0
set_option maxRecDepth 100000 in
set_option maxHeartbeats 4000000 in
theorem jrk_242_0 : jT_242_0.all (jrok 242) = true := by decide +kernel
theorem jrk_242 : jT_242.all (jrok 242) = true := by
  exact jrk_242_0
set_option maxRecDepth 100000 in
set_option maxHeartbeats 4000000 in
theorem jrk_243_0 : jT_243_0.all (jrok 243) = true := by decide +kernel
theorem jrk_243 : jT_243.all (jrok 243) = true := by
  exact jrk_243_0
set_option maxRecDepth 100000 in
set_option maxHeartbeats 4000000 in
theorem jrk_244_0 : jT_244_0.all (jrok 244) = true := by decide +kernel
theorem jrk_244 : jT_244.all (jrok 244) = true := by
  exact jrk_244_0
set_option maxRecDepth 100000 in
set_option maxHeartbeats 4000000 in
theorem jrk_245_0 : jT_245_0.all (jrok 245) = true := by decide +kernel
theorem jrk_245 : jT_245.all (jrok 245) = true := by
  exact jrk_245_0
set_option maxRecDepth 100000 in
set_option maxHeartbeats 4000000 in
theorem jrk_246_0 : jT_246_0.all (jrok 246) = true := by decide +kernel
theorem jrk_246 : jT_246.all (jrok 246) = true := by
  exact jrk_246_0
set_option maxRecDepth 100000 in
set_option maxHeartbeats 4000000 in
theorem jrk_247_0 : jT_247_0.all (jrok 247) = true := by decide +kernel
theorem jrk_247 : jT_247.all (jrok 247) = true := by
  exact jrk_247_0
set_option maxRecDepth 100000 in
set_option maxHeartbeats 4000000 in
theorem jrk_248_0 : jT_248_0.all (jrok 248) = true := by decide +kernel
set_option maxRecDepth 100000 in
set_option maxHeartbeats 4000000 in
theorem jrk_248_1 : jT_248_1.all (jrok 248) = true := by decide +kernel
theorem jrk_248 : jT_248.all (jrok 248) = true := by
  unfold jT_248
  simp only [List.all_append, jrk_248_0, jrk_248_1, Bool.and_self]
set_option maxRecDepth 100000 in
set_option maxHeartbeats 4000000 in
theorem jrk_249_0 : jT_249_0.all (jrok 249) = true := by decide +kernel
theorem jrk_249 : jT_249.all (jrok 249) = true := by
  exact jrk_249_0
set_option maxRecDepth 100000 in
set_option maxHeartbeats 4000000 in
theorem jrk_250_0 : jT_250_0.all (jrok 250) = true := by decide +kernel
theorem jrk_250 : jT_250.all (jrok 250) = true := by
  exact jrk_250_0
set_option maxRecDepth 100000 in
set_option maxHeartbeats 4000000 in
theorem jrk_251_0 : jT_251_0.all (jrok 251) = true := by decide +kernel
set_option maxRecDepth 100000 in
set_option maxHeartbeats 4000000 in
theorem jrk_251_1 : jT_251_1.all (jrok 251) = true := by decide +kernel
theorem jrk_251 : jT_251.all (jrok 251) = true := by
  unfold jT_251
  simp only [List.all_append, jrk_251_0, jrk_251_1, Bool.and_self]
set_option maxRecDepth 100000 in
set_option maxHeartbeats 4000000 in
theorem jrk_252_0 : jT_252_0.all (jrok 252) = true := by decide +kernel
theorem jrk_252 : jT_252.all (jrok 252) = true := by
  exact jrk_252_0
set_option maxRecDepth 100000 in
set_option maxHeartbeats 4000000 in
theorem jrk_253_0 : jT_253_0.all (jrok 253) = true := by decide +kernel
set_option maxRecDepth 100000 in
set_option maxHeartbeats 4000000 in
theorem jrk_253_1 : jT_253_1.all (jrok 253) = true := by decide +kernel
theorem jrk_253 : jT_253.all (jrok 253) = true := by
  unfold jT_253
  simp only [List.all_append, jrk_253_0, jrk_253_1, Bool.and_self]
set_option maxRecDepth 100000 in
set_option maxHeartbeats 4000000 in
theorem jrk_254_0 : jT_254_0.all (jrok 254) = true := by decide +kernel
theorem jrk_254 : jT_254.all (jrok 254) = true := by
  exact jrk_254_0
set_option maxRecDepth 100000 in
set_option maxHeartbeats 4000000 in
theorem jrk_255_0 : jT_255_0.all (jrok 255) = true := by decide +kernel
theorem jrk_255 : jT_255.all (jrok 255) = true := by
  exact jrk_255_0
set_option maxRecDepth 100000 in
set_option maxHeartbeats 4000000 in
theorem jrk_256_0 : jT_256_0.all (jrok 256) = true := by decide +kernel
theorem jrk_256 : jT_256.all (jrok 256) = true := by
  exact jrk_256_0
set_option maxRecDepth 100000 in
set_option maxHeartbeats 4000000 in
theorem jrk_257_0 : jT_257_0.all (jrok 257) = true := by decide +kernel
theorem jrk_257 : jT_257.all (jrok 257) = true := by
  exact jrk_257_0
set_option maxRecDepth 100000 in
set_option maxHeartbeats 4000000 in
theorem jrk_258_0 : jT_258_0.all (jrok 258) = true := by decide +kernel
theorem jrk_258 : jT_258.all (jrok 258) = true := by
  exact jrk_258_0
set_option maxRecDepth 100000 in
set_option maxHeartbeats 4000000 in
theorem jrk_259_0 : jT_259_0.all (jrok 259) = true := by decide +kernel
theorem jrk_259 : jT_259.all (jrok 259) = true := by
  exact jrk_259_0
set_option maxRecDepth 100000 in
set_option maxHeartbeats 4000000 in
theorem jrk_260_0 : jT_260_0.all (jrok 260) = true := by decide +kernel
theorem jrk_260 : jT_260.all (jrok 260) = true := by
  exact jrk_260_0
set_option maxRecDepth 100000 in
set_option maxHeartbeats 4000000 in
theorem jrk_261_0 : jT_261_0.all (jrok 261) = true := by decide +kernel
theorem jrk_261 : jT_261.all (jrok 261) = true := by
  exact jrk_261_0
set_option maxRecDepth 100000 in
set_option maxHeartbeats 4000000 in
theorem jrk_262_0 : jT_262_0.all (jrok 262) = true := by decide +kernel
theorem jrk_262 : jT_262.all (jrok 262) = true := by
  exact jrk_262_0
set_option maxRecDepth 100000 in
set_option maxHeartbeats 4000000 in
theorem jrk_263_0 : jT_263_0.all (jrok 263) = true := by decide +kernel
theorem jrk_263 : jT_263.all (jrok 263) = true := by
  exact jrk_263_0
set_option maxRecDepth 100000 in
set_option maxHeartbeats 4000000 in
theorem jrk_264_0 : jT_264_0.all (jrok 264) = true := by decide +kernel
theorem jrk_264 : jT_264.all (jrok 264) = true := by
  exact jrk_264_0
set_option maxRecDepth 100000 in
set_option maxHeartbeats 4000000 in
theorem jrk_265_0 : jT_265_0.all (jrok 265) = true := by decide +kernel
set_option maxRecDepth 100000 in
set_option maxHeartbeats 4000000 in
theorem jrk_265_1 : jT_265_1.all (jrok 265) = true := by decide +kernel
set_option maxRecDepth 100000 in
set_option maxHeartbeats 4000000 in
theorem jrk_265_2 : jT_265_2.all (jrok 265) = true := by decide +kernel
theorem jrk_265 : jT_265.all (jrok 265) = true := by
  unfold jT_265
  simp only [List.all_append, jrk_265_0, jrk_265_1, jrk_265_2, Bool.and_self]
set_option maxRecDepth 100000 in
set_option maxHeartbeats 4000000 in
theorem jrk_266_0 : jT_266_0.all (jrok 266) = true := by decide +kernel
set_option maxRecDepth 100000 in
set_option maxHeartbeats 4000000 in
theorem jrk_266_1 : jT_266_1.all (jrok 266) = true := by decide +kernel
theorem jrk_266 : jT_266.all (jrok 266) = true := by
  unfold jT_266
  simp only [List.all_append, jrk_266_0, jrk_266_1, Bool.and_self]
set_option maxRecDepth 100000 in
set_option maxHeartbeats 4000000 in
theorem jrk_267_0 : jT_267_0.all (jrok 267) = true := by decide +kernel
theorem jrk_267 : jT_267.all (jrok 267) = true := by
  exact jrk_267_0
set_option maxRecDepth 100000 in
set_option maxHeartbeats 4000000 in
theorem jrk_268_0 : jT_268_0.all (jrok 268) = true := by decide +kernel
set_option maxRecDepth 100000 in
set_option maxHeartbeats 4000000 in
theorem jrk_268_1 : jT_268_1.all (jrok 268) = true := by decide +kernel
theorem jrk_268 : jT_268.all (jrok 268) = true := by
  unfold jT_268
  simp only [List.all_append, jrk_268_0, jrk_268_1, Bool.and_self]
set_option maxRecDepth 100000 in
set_option maxHeartbeats 4000000 in
theorem jrk_269_0 : jT_269_0.all (jrok 269) = true := by decide +kernel
theorem jrk_269 : jT_269.all (jrok 269) = true := by
  exact jrk_269_0
set_option maxRecDepth 100000 in
set_option maxHeartbeats 4000000 in
theorem jrk_270_0 : jT_270_0.all (jrok 270) = true := by decide +kernel
theorem jrk_270 : jT_270.all (jrok 270) = true := by
  exact jrk_270_0
set_option maxRecDepth 100000 in
set_option maxHeartbeats 4000000 in
theorem jrk_271_0 : jT_271_0.all (jrok 271) = true := by decide +kernel
theorem jrk_271 : jT_271.all (jrok 271) = true := by
  exact jrk_271_0
set_option maxRecDepth 100000 in
set_option maxHeartbeats 4000000 in
theorem jrk_272_0 : jT_272_0.all (jrok 272) = true := by decide +kernel
theorem jrk_272 : jT_272.all (jrok 272) = true := by
  exact jrk_272_0
set_option maxRecDepth 100000 in
set_option maxHeartbeats 4000000 in
theorem jrk_273_0 : jT_273_0.all (jrok 273) = true := by decide +kernel
theorem jrk_273 : jT_273.all (jrok 273) = true := by
  exact jrk_273_0
set_option maxRecDepth 100000 in
set_option maxHeartbeats 4000000 in
theorem jrk_274_0 : jT_274_0.all (jrok 274) = true := by decide +kernel
theorem jrk_274 : jT_274.all (jrok 274) = true := by
  exact jrk_274_0
set_option maxRecDepth 100000 in
set_option maxHeartbeats 4000000 in
theorem jrk_275_0 : jT_275_0.all (jrok 275) = true := by decide +kernel
theorem jrk_275 : jT_275.all (jrok 275) = true := by
  exact jrk_275_0
set_option maxRecDepth 100000 in
set_option maxHeartbeats 4000000 in
theorem jrk_276_0 : jT_276_0.all (jrok 276) = true := by decide +kernel
theorem jrk_276 : jT_276.all (jrok 276) = true := by
  exact jrk_276_0
set_option maxRecDepth 100000 in
set_option maxHeartbeats 4000000 in
theorem jrk_277_0 : jT_277_0.all (jrok 277) = true := by decide +kernel
theorem jrk_277 : jT_277.all (jrok 277) = true := by
  exact jrk_277_0
set_option maxRecDepth 100000 in
set_option maxHeartbeats 4000000 in
theorem jrk_278_0 : jT_278_0.all (jrok 278) = true := by decide +kernel
theorem jrk_278 : jT_278.all (jrok 278) = true := by
  exact jrk_278_0
set_option maxRecDepth 100000 in
set_option maxHeartbeats 4000000 in
theorem jrk_279_0 : jT_279_0.all (jrok 279) = true := by decide +kernel
theorem jrk_279 : jT_279.all (jrok 279) = true := by
  exact jrk_279_0
set_option maxRecDepth 100000 in
set_option maxHeartbeats 4000000 in
theorem jrk_280_0 : jT_280_0.all (jrok 280) = true := by decide +kernel
theorem jrk_280 : jT_280.all (jrok 280) = true := by
  exact jrk_280_0
set_option maxRecDepth 100000 in
set_option maxHeartbeats 4000000 in
theorem jrk_281_0 : jT_281_0.all (jrok 281) = true := by decide +kernel
theorem jrk_281 : jT_281.all (jrok 281) = true := by
  exact jrk_281_0
set_option maxRecDepth 100000 in
set_option maxHeartbeats 4000000 in
theorem jrk_282_0 : jT_282_0.all (jrok 282) = true := by decide +kernel
