set_option maxRecDepth 100000 in
theorem cm_240 : chkM pm_240 = true := by decide +kernel
set_option maxRecDepth 100000 in
theorem cm_241 : chkM pm_241 = true := by decide +kernel
set_option maxRecDepth 100000 in
theorem cm_242 : chkM pm_242 = true := by decide +kernel
set_option maxRecDepth 100000 in
theorem cm_243 : chkM pm_243 = true := by decide +kernel
set_option maxRecDepth 100000 in
theorem cm_244 : chkM pm_244 = true := by decide +kernel
set_option maxRecDepth 100000 in
theorem cm_245 : chkM pm_245 = true := by decide +kernel
set_option maxRecDepth 100000 in
theorem cm_246 : chkM pm_246 = true := by decide +kernel
set_option maxRecDepth 100000 in
theorem cm_247 : chkM pm_247 = true := by decide +kernel
set_option maxRecDepth 100000 in
theorem cm_248 : chkM pm_248 = true := by decide +kernel
set_option maxRecDepth 100000 in
theorem cm_249 : chkM pm_249 = true := by decide +kernel
set_option maxRecDepth 100000 in
theorem cm_250 : chkM pm_250 = true := by decide +kernel
set_option maxRecDepth 100000 in
theorem cm_251 : chkM pm_251 = true := by decide +kernel
set_option maxRecDepth 100000 in
theorem cm_252 : chkM pm_252 = true := by decide +kernel
set_option maxRecDepth 100000 in
theorem cm_253 : chkM pm_253 = true := by decide +kernel
set_option maxRecDepth 100000 in
theorem cm_254 : chkM pm_254 = true := by decide +kernel
set_option maxRecDepth 100000 in
theorem cm_255 : chkM pm_255 = true := by decide +kernel
set_option maxRecDepth 100000 in
theorem cm_256 : chkM pm_256 = true := by decide +kernel
set_option maxRecDepth 100000 in
theorem cm_257 : chkM pm_257 = true := by decide +kernel
set_option maxRecDepth 100000 in
theorem cm_258 : chkM pm_258 = true := by decide +kernel
set_option maxRecDepth 100000 in
theorem cm_259 : chkM pm_259 = true := by decide +kernel
set_option maxRecDepth 100000 in
theorem cm_260 : chkM pm_260 = true := by decide +kernel
set_option maxRecDepth 100000 in
theorem cm_261 : chkM pm_261 = true := by decide +kernel
set_option maxRecDepth 100000 in
theorem cm_262 : chkM pm_262 = true := by decide +kernel
set_option maxRecDepth 100000 in
theorem cm_263 : chkM pm_263 = true := by decide +kernel
set_option maxRecDepth 100000 in
theorem cm_264 : chkM pm_264 = true := by decide +kernel
set_option maxRecDepth 100000 in
theorem cm_265 : chkM pm_265 = true := by decide +kernel
set_option maxRecDepth 100000 in
theorem cm_266 : chkM pm_266 = true := by decide +kernel
set_option maxRecDepth 100000 in
theorem cm_267 : chkM pm_267 = true := by decide +kernel
set_option maxRecDepth 100000 in
theorem cm_268 : chkM pm_268 = true := by decide +kernel
set_option maxRecDepth 100000 in
theorem cm_269 : chkM pm_269 = true := by decide +kernel
set_option maxRecDepth 100000 in
theorem cm_270 : chkM pm_270 = true := by decide +kernel
set_option maxRecDepth 100000 in
theorem cm_271 : chkM pm_271 = true := by decide +kernel
set_option maxRecDepth 100000 in
theorem cm_272 : chkM pm_272 = true := by decide +kernel
set_option maxRecDepth 100000 in
theorem cm_273 : chkM pm_273 = true := by decide +kernel
set_option maxRecDepth 100000 in
theorem cm_274 : chkM pm_274 = true := by decide +kernel
set_option maxRecDepth 100000 in
theorem cm_275 : chkM pm_275 = true := by decide +kernel
set_option maxRecDepth 100000 in
theorem cm_276 : chkM pm_276 = true := by decide +kernel
set_option maxRecDepth 100000 in
theorem cm_277 : chkM pm_277 = true := by decide +kernel
set_option maxRecDepth 100000 in
theorem cm_278 : chkM pm_278 = true := by decide +kernel
set_option maxRecDepth 100000 in
theorem cm_279 : chkM pm_279 = true := by decide +kernel
set_option maxRecDepth 100000 in
theorem cm_280 : chkM pm_280 = true := by decide +kernel
set_option maxRecDepth 100000 in
theorem cm_281 : chkM pm_281 = true := by decide +kernel
set_option maxRecDepth 100000 in
theorem cm_282 : chkM pm_282 = true := by decide +kernel
set_option maxRecDepth 100000 in
theorem cm_283 : chkM pm_283 = true := by decide +kernel
set_option maxRecDepth 100000 in
theorem cm_284 : chkM pm_284 = true := by decide +kernel
set_option maxRecDepth 100000 in
theorem cm_285 : chkM pm_285 = true := by decide +kernel
