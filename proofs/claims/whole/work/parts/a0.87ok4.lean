set_option maxRecDepth 100000 in
theorem bk_ok_240 : bk_okP (bk_m 240) P_240 = true ∧ 4 = (bk_m 240).2.2.1 := by decide +kernel
set_option maxRecDepth 100000 in
theorem bk_ok_241 : bk_okP (bk_m 241) P_241 = true ∧ 7 = (bk_m 241).2.2.1 := by decide +kernel
set_option maxRecDepth 100000 in
theorem bk_ok_242 : bk_okP (bk_m 242) P_242 = true ∧ 2 = (bk_m 242).2.2.1 := by decide +kernel
set_option maxRecDepth 100000 in
theorem bk_ok_243 : bk_okP (bk_m 243) P_243 = true ∧ 8 = (bk_m 243).2.2.1 := by decide +kernel
set_option maxRecDepth 100000 in
theorem bk_ok_244 : bk_okP (bk_m 244) P_244 = true ∧ 2 = (bk_m 244).2.2.1 := by decide +kernel
set_option maxRecDepth 100000 in
theorem bk_ok_245 : bk_okP (bk_m 245) P_245 = true ∧ 2 = (bk_m 245).2.2.1 := by decide +kernel
set_option maxRecDepth 100000 in
theorem bk_ok_246 : bk_okP (bk_m 246) P_246 = true ∧ 8 = (bk_m 246).2.2.1 := by decide +kernel
set_option maxRecDepth 100000 in
theorem bk_ok_247 : bk_okP (bk_m 247) P_247 = true ∧ 3 = (bk_m 247).2.2.1 := by decide +kernel
set_option maxRecDepth 100000 in
theorem bk_ok_248 : bk_okP (bk_m 248) P_248 = true ∧ 6 = (bk_m 248).2.2.1 := by decide +kernel
set_option maxRecDepth 100000 in
theorem bk_ok_249 : bk_okP (bk_m 249) P_249 = true ∧ 5 = (bk_m 249).2.2.1 := by decide +kernel
set_option maxRecDepth 100000 in
theorem bk_ok_250 : bk_okP (bk_m 250) P_250 = true ∧ 2 = (bk_m 250).2.2.1 := by decide +kernel
set_option maxRecDepth 100000 in
theorem bk_ok_251 : bk_okP (bk_m 251) P_251 = true ∧ 2 = (bk_m 251).2.2.1 := by decide +kernel
set_option maxRecDepth 100000 in
theorem bk_ok_252 : bk_okP (bk_m 252) P_252 = true ∧ 4 = (bk_m 252).2.2.1 := by decide +kernel
set_option maxRecDepth 100000 in
theorem bk_ok_253 : bk_okP (bk_m 253) P_253 = true ∧ 2 = (bk_m 253).2.2.1 := by decide +kernel
set_option maxRecDepth 100000 in
theorem bk_ok_254 : bk_okP (bk_m 254) P_254 = true ∧ 3 = (bk_m 254).2.2.1 := by decide +kernel
set_option maxRecDepth 100000 in
theorem bk_ok_255 : bk_okP (bk_m 255) P_255 = true ∧ 2 = (bk_m 255).2.2.1 := by decide +kernel
set_option maxRecDepth 100000 in
theorem bk_ok_256 : bk_okP (bk_m 256) P_256 = true ∧ 3 = (bk_m 256).2.2.1 := by decide +kernel
set_option maxRecDepth 100000 in
theorem bk_ok_257 : bk_okP (bk_m 257) P_257 = true ∧ 2 = (bk_m 257).2.2.1 := by decide +kernel
set_option maxRecDepth 100000 in
theorem bk_ok_258 : bk_okP (bk_m 258) P_258 = true ∧ 4 = (bk_m 258).2.2.1 := by decide +kernel
set_option maxRecDepth 100000 in
theorem bk_ok_259 : bk_okP (bk_m 259) P_259 = true ∧ 4 = (bk_m 259).2.2.1 := by decide +kernel
set_option maxRecDepth 100000 in
theorem bk_ok_260 : bk_okP (bk_m 260) P_260 = true ∧ 2 = (bk_m 260).2.2.1 := by decide +kernel
set_option maxRecDepth 100000 in
theorem bk_ok_261 : bk_okP (bk_m 261) P_261 = true ∧ 2 = (bk_m 261).2.2.1 := by decide +kernel
set_option maxRecDepth 100000 in
theorem bk_ok_262 : bk_okP (bk_m 262) P_262 = true ∧ 3 = (bk_m 262).2.2.1 := by decide +kernel
set_option maxRecDepth 100000 in
theorem bk_ok_263 : bk_okP (bk_m 263) P_263 = true ∧ 3 = (bk_m 263).2.2.1 := by decide +kernel
set_option maxRecDepth 100000 in
theorem bk_ok_264 : bk_okP (bk_m 264) P_264 = true ∧ 2 = (bk_m 264).2.2.1 := by decide +kernel
set_option maxRecDepth 100000 in
theorem bk_ok_265 : bk_okP (bk_m 265) P_265 = true ∧ 6 = (bk_m 265).2.2.1 := by decide +kernel
set_option maxRecDepth 100000 in
theorem bk_ok_266 : bk_okP (bk_m 266) P_266 = true ∧ 4 = (bk_m 266).2.2.1 := by decide +kernel
set_option maxRecDepth 100000 in
theorem bk_ok_267 : bk_okP (bk_m 267) P_267 = true ∧ 2 = (bk_m 267).2.2.1 := by decide +kernel
set_option maxRecDepth 100000 in
theorem bk_ok_268 : bk_okP (bk_m 268) P_268 = true ∧ 2 = (bk_m 268).2.2.1 := by decide +kernel
set_option maxRecDepth 100000 in
theorem bk_ok_269 : bk_okP (bk_m 269) P_269 = true ∧ 2 = (bk_m 269).2.2.1 := by decide +kernel
set_option maxRecDepth 100000 in
theorem bk_ok_270 : bk_okP (bk_m 270) P_270 = true ∧ 2 = (bk_m 270).2.2.1 := by decide +kernel
set_option maxRecDepth 100000 in
theorem bk_ok_271 : bk_okP (bk_m 271) P_271 = true ∧ 4 = (bk_m 271).2.2.1 := by decide +kernel
set_option maxRecDepth 100000 in
theorem bk_ok_272 : bk_okP (bk_m 272) P_272 = true ∧ 1 = (bk_m 272).2.2.1 := by decide +kernel
set_option maxRecDepth 100000 in
theorem bk_ok_273 : bk_okP (bk_m 273) P_273 = true ∧ 1 = (bk_m 273).2.2.1 := by decide +kernel
set_option maxRecDepth 100000 in
theorem bk_ok_274 : bk_okP (bk_m 274) P_274 = true ∧ 6 = (bk_m 274).2.2.1 := by decide +kernel
set_option maxRecDepth 100000 in
theorem bk_ok_275 : bk_okP (bk_m 275) P_275 = true ∧ 2 = (bk_m 275).2.2.1 := by decide +kernel
set_option maxRecDepth 100000 in
theorem bk_ok_276 : bk_okP (bk_m 276) P_276 = true ∧ 1 = (bk_m 276).2.2.1 := by decide +kernel
set_option maxRecDepth 100000 in
theorem bk_ok_277 : bk_okP (bk_m 277) P_277 = true ∧ 3 = (bk_m 277).2.2.1 := by decide +kernel
set_option maxRecDepth 100000 in
theorem bk_ok_278 : bk_okP (bk_m 278) P_278 = true ∧ 4 = (bk_m 278).2.2.1 := by decide +kernel
set_option maxRecDepth 100000 in
theorem bk_ok_279 : bk_okP (bk_m 279) P_279 = true ∧ 8 = (bk_m 279).2.2.1 := by decide +kernel
set_option maxRecDepth 100000 in
theorem bk_ok_280 : bk_okP (bk_m 280) P_280 = true ∧ 2 = (bk_m 280).2.2.1 := by decide +kernel
set_option maxRecDepth 100000 in
theorem bk_ok_281 : bk_okP (bk_m 281) P_281 = true ∧ 3 = (bk_m 281).2.2.1 := by decide +kernel
set_option maxRecDepth 100000 in
theorem bk_ok_282 : bk_okP (bk_m 282) P_282 = true ∧ 3 = (bk_m 282).2.2.1 := by decide +kernel
set_option maxRecDepth 100000 in
theorem bk_ok_283 : bk_okP (bk_m 283) P_283 = true ∧ 2 = (bk_m 283).2.2.1 := by decide +kernel
set_option maxRecDepth 100000 in
theorem bk_ok_284 : bk_okP (bk_m 284) P_284 = true ∧ 2 = (bk_m 284).2.2.1 := by decide +kernel
set_option maxRecDepth 100000 in
theorem bk_ok_285 : bk_okP (bk_m 285) P_285 = true ∧ 4 = (bk_m 285).2.2.1 := by decide +kernel
set_option maxRecDepth 100000 in
theorem bk_ok_286 : bk_okP (bk_m 286) P_286 = true ∧ 4 = (bk_m 286).2.2.1 := by decide +kernel
theorem bk_okT_260 : ∀ a, a < 260 → bk_ok1 a := lt_s (lt_s (lt_s (lt_s (lt_s (lt_s (lt_s (lt_s (lt_s (lt_s (lt_s (lt_s (lt_s (lt_s (lt_s (lt_s (lt_s (lt_s (lt_s (lt_s (bk_okT_240) bk_ok_240) bk_ok_241) bk_ok_242) bk_ok_243) bk_ok_244) bk_ok_245) bk_ok_246) bk_ok_247) bk_ok_248) bk_ok_249) bk_ok_250) bk_ok_251) bk_ok_252) bk_ok_253) bk_ok_254) bk_ok_255) bk_ok_256) bk_ok_257) bk_ok_258) bk_ok_259
theorem bk_okT_280 : ∀ a, a < 280 → bk_ok1 a := lt_s (lt_s (lt_s (lt_s (lt_s (lt_s (lt_s (lt_s (lt_s (lt_s (lt_s (lt_s (lt_s (lt_s (lt_s (lt_s (lt_s (lt_s (lt_s (lt_s (bk_okT_260) bk_ok_260) bk_ok_261) bk_ok_262) bk_ok_263) bk_ok_264) bk_ok_265) bk_ok_266) bk_ok_267) bk_ok_268) bk_ok_269) bk_ok_270) bk_ok_271) bk_ok_272) bk_ok_273) bk_ok_274) bk_ok_275) bk_ok_276) bk_ok_277) bk_ok_278) bk_ok_279
theorem bk_okT_287 : ∀ a, a < 287 → bk_ok1 a := lt_s (lt_s (lt_s (lt_s (lt_s (lt_s (lt_s (bk_okT_280) bk_ok_280) bk_ok_281) bk_ok_282) bk_ok_283) bk_ok_284) bk_ok_285) bk_ok_286
