set_option maxRecDepth 1000000 in
theorem am_d210 : am_dec me_210 = true := by decide +kernel
set_option maxRecDepth 1000000 in
theorem am_d211 : am_dec me_211 = true := by decide +kernel
set_option maxRecDepth 1000000 in
theorem am_d212 : am_dec me_212 = true := by decide +kernel
set_option maxRecDepth 1000000 in
theorem am_d213 : am_dec me_213 = true := by decide +kernel
set_option maxRecDepth 1000000 in
theorem am_d214 : am_dec me_214 = true := by decide +kernel
set_option maxRecDepth 1000000 in
theorem am_d215 : am_dec me_215 = true := by decide +kernel
set_option maxRecDepth 1000000 in
theorem am_d216 : am_dec me_216 = true := by decide +kernel
set_option maxRecDepth 1000000 in
theorem am_d217 : am_dec me_217 = true := by decide +kernel
set_option maxRecDepth 1000000 in
theorem am_d218 : am_dec me_218 = true := by decide +kernel
set_option maxRecDepth 1000000 in
theorem am_d219 : am_dec me_219 = true := by decide +kernel
set_option maxRecDepth 1000000 in
theorem am_d220 : am_dec me_220 = true := by decide +kernel
set_option maxRecDepth 1000000 in
theorem am_d221 : am_dec me_221 = true := by decide +kernel
set_option maxRecDepth 1000000 in
theorem am_d222 : am_dec me_222 = true := by decide +kernel
set_option maxRecDepth 1000000 in
theorem am_d223 : am_dec me_223 = true := by decide +kernel
set_option maxRecDepth 1000000 in
theorem am_d224 : am_dec me_224 = true := by decide +kernel
set_option maxRecDepth 1000000 in
theorem am_d225 : am_dec me_225 = true := by decide +kernel
set_option maxRecDepth 1000000 in
theorem am_d226 : am_dec me_226 = true := by decide +kernel
set_option maxRecDepth 1000000 in
theorem am_d227 : am_dec me_227 = true := by decide +kernel
set_option maxRecDepth 1000000 in
theorem am_d228 : am_dec me_228 = true := by decide +kernel
set_option maxRecDepth 1000000 in
theorem am_d229 : am_dec me_229 = true := by decide +kernel
set_option maxRecDepth 1000000 in
theorem am_d230 : am_dec me_230 = true := by decide +kernel
set_option maxRecDepth 1000000 in
theorem am_d231 : am_dec me_231 = true := by decide +kernel
set_option maxRecDepth 1000000 in
theorem am_d232 : am_dec me_232 = true := by decide +kernel
set_option maxRecDepth 1000000 in
theorem am_d233 : am_dec me_233 = true := by decide +kernel
set_option maxRecDepth 1000000 in
theorem am_d234 : am_dec me_234 = true := by decide +kernel
set_option maxRecDepth 1000000 in
theorem am_d235 : am_dec me_235 = true := by decide +kernel
set_option maxRecDepth 1000000 in
theorem am_d236 : am_dec me_236 = true := by decide +kernel
set_option maxRecDepth 1000000 in
theorem am_d237 : am_dec me_237 = true := by decide +kernel
set_option maxRecDepth 1000000 in
theorem am_d238 : am_dec me_238 = true := by decide +kernel
set_option maxRecDepth 1000000 in
theorem am_d239 : am_dec me_239 = true := by decide +kernel
set_option maxRecDepth 1000000 in
theorem am_d240 : am_dec me_240 = true := by decide +kernel
set_option maxRecDepth 1000000 in
theorem am_d241 : am_dec me_241 = true := by decide +kernel
set_option maxRecDepth 1000000 in
theorem am_d242 : am_dec me_242 = true := by decide +kernel
set_option maxRecDepth 1000000 in
theorem am_d243 : am_dec me_243 = true := by decide +kernel
set_option maxRecDepth 1000000 in
theorem am_d244 : am_dec me_244 = true := by decide +kernel
set_option maxRecDepth 1000000 in
theorem am_d245 : am_dec me_245 = true := by decide +kernel
set_option maxRecDepth 1000000 in
theorem am_d246 : am_dec me_246 = true := by decide +kernel
set_option maxRecDepth 1000000 in
theorem am_d247 : am_dec me_247 = true := by decide +kernel
set_option maxRecDepth 1000000 in
theorem am_d248 : am_dec me_248 = true := by decide +kernel
set_option maxRecDepth 1000000 in
theorem am_d249 : am_dec me_249 = true := by decide +kernel
set_option maxRecDepth 1000000 in
theorem am_d250 : am_dec me_250 = true := by decide +kernel
set_option maxRecDepth 1000000 in
theorem am_d251 : am_dec me_251 = true := by decide +kernel
set_option maxRecDepth 1000000 in
theorem am_d252 : am_dec me_252 = true := by decide +kernel
set_option maxRecDepth 1000000 in
theorem am_d253 : am_dec me_253 = true := by decide +kernel
set_option maxRecDepth 1000000 in
theorem am_d254 : am_dec me_254 = true := by decide +kernel
set_option maxRecDepth 1000000 in
theorem am_d255 : am_dec me_255 = true := by decide +kernel
set_option maxRecDepth 1000000 in
theorem am_d256 : am_dec me_256 = true := by decide +kernel
set_option maxRecDepth 1000000 in
theorem am_d257 : am_dec me_257 = true := by decide +kernel
set_option maxRecDepth 1000000 in
theorem am_d258 : am_dec me_258 = true := by decide +kernel
set_option maxRecDepth 1000000 in
theorem am_d259 : am_dec me_259 = true := by decide +kernel
set_option maxRecDepth 1000000 in
theorem am_d260 : am_dec me_260 = true := by decide +kernel
set_option maxRecDepth 1000000 in
theorem am_d261 : am_dec me_261 = true := by decide +kernel
set_option maxRecDepth 1000000 in
theorem am_d262 : am_dec me_262 = true := by decide +kernel
set_option maxRecDepth 1000000 in
theorem am_d263 : am_dec me_263 = true := by decide +kernel
set_option maxRecDepth 1000000 in
theorem am_d264 : am_dec me_264 = true := by decide +kernel
set_option maxRecDepth 1000000 in
theorem am_d265 : am_dec me_265 = true := by decide +kernel
set_option maxRecDepth 1000000 in
theorem am_d266 : am_dec me_266 = true := by decide +kernel
set_option maxRecDepth 1000000 in
theorem am_d267 : am_dec me_267 = true := by decide +kernel
set_option maxRecDepth 1000000 in
theorem am_d268 : am_dec me_268 = true := by decide +kernel
set_option maxRecDepth 1000000 in
theorem am_d269 : am_dec me_269 = true := by decide +kernel
set_option maxRecDepth 1000000 in
theorem am_d270 : am_dec me_270 = true := by decide +kernel
set_option maxRecDepth 1000000 in
theorem am_d271 : am_dec me_271 = true := by decide +kernel
set_option maxRecDepth 1000000 in
theorem am_d272 : am_dec me_272 = true := by decide +kernel
set_option maxRecDepth 1000000 in
theorem am_d273 : am_dec me_273 = true := by decide +kernel
set_option maxRecDepth 1000000 in
theorem am_d274 : am_dec me_274 = true := by decide +kernel
set_option maxRecDepth 1000000 in
theorem am_d275 : am_dec me_275 = true := by decide +kernel
set_option maxRecDepth 1000000 in
theorem am_d276 : am_dec me_276 = true := by decide +kernel
set_option maxRecDepth 1000000 in
theorem am_d277 : am_dec me_277 = true := by decide +kernel
set_option maxRecDepth 1000000 in
theorem am_d278 : am_dec me_278 = true := by decide +kernel
set_option maxRecDepth 1000000 in
theorem am_d279 : am_dec me_279 = true := by decide +kernel
set_option maxRecDepth 1000000 in
theorem am_d280 : am_dec me_280 = true := by decide +kernel
set_option maxRecDepth 1000000 in
theorem am_d281 : am_dec me_281 = true := by decide +kernel
set_option maxRecDepth 1000000 in
theorem am_d282 : am_dec me_282 = true := by decide +kernel
set_option maxRecDepth 1000000 in
theorem am_d283 : am_dec me_283 = true := by decide +kernel
set_option maxRecDepth 1000000 in
theorem am_d284 : am_dec me_284 = true := by decide +kernel
set_option maxRecDepth 1000000 in
theorem am_d285 : am_dec me_285 = true := by decide +kernel
set_option maxRecDepth 1000000 in
theorem am_d286 : am_dec me_286 = true := by decide +kernel
set_option maxRecDepth 1000000 in
theorem am_d287 : am_dec me_287 = true := by decide +kernel
set_option maxRecDepth 1000000 in
theorem am_d288 : am_dec me_288 = true := by decide +kernel
set_option maxRecDepth 1000000 in
theorem am_d289 : am_dec me_289 = true := by decide +kernel
set_option maxRecDepth 1000000 in
theorem am_d290 : am_dec me_290 = true := by decide +kernel
set_option maxRecDepth 1000000 in
theorem am_d291 : am_dec me_291 = true := by decide +kernel
set_option maxRecDepth 1000000 in
theorem am_d292 : am_dec me_292 = true := by decide +kernel
set_option maxRecDepth 1000000 in
theorem am_d293 : am_dec me_293 = true := by decide +kernel
set_option maxRecDepth 1000000 in
theorem am_d294 : am_dec me_294 = true := by decide +kernel
set_option maxRecDepth 1000000 in
theorem am_d295 : am_dec me_295 = true := by decide +kernel
set_option maxRecDepth 1000000 in
theorem am_d296 : am_dec me_296 = true := by decide +kernel
set_option maxRecDepth 1000000 in
theorem am_d297 : am_dec me_297 = true := by decide +kernel
set_option maxRecDepth 1000000 in
theorem am_d298 : am_dec me_298 = true := by decide +kernel
set_option maxRecDepth 1000000 in
theorem am_d299 : am_dec me_299 = true := by decide +kernel
set_option maxRecDepth 1000000 in
theorem am_d300 : am_dec me_300 = true := by decide +kernel
set_option maxRecDepth 1000000 in
theorem am_d301 : am_dec me_301 = true := by decide +kernel
set_option maxRecDepth 1000000 in
theorem am_d302 : am_dec me_302 = true := by decide +kernel
set_option maxRecDepth 1000000 in
theorem am_d303 : am_dec me_303 = true := by decide +kernel
set_option maxRecDepth 1000000 in
theorem am_d304 : am_dec me_304 = true := by decide +kernel
set_option maxRecDepth 1000000 in
theorem am_d305 : am_dec me_305 = true := by decide +kernel
set_option maxRecDepth 1000000 in
theorem am_d306 : am_dec me_306 = true := by decide +kernel
set_option maxRecDepth 1000000 in
theorem am_d307 : am_dec me_307 = true := by decide +kernel
set_option maxRecDepth 1000000 in
theorem am_d308 : am_dec me_308 = true := by decide +kernel
set_option maxRecDepth 1000000 in
theorem am_d309 : am_dec me_309 = true := by decide +kernel
set_option maxRecDepth 1000000 in
theorem am_d310 : am_dec me_310 = true := by decide +kernel
set_option maxRecDepth 1000000 in
theorem am_d311 : am_dec me_311 = true := by decide +kernel
set_option maxRecDepth 1000000 in
theorem am_d312 : am_dec me_312 = true := by decide +kernel
