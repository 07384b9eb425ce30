set_option maxRecDepth 100000 in
theorem ok_238 : okM 238 = true := by decide +kernel
set_option maxRecDepth 100000 in
theorem ok_239 : okM 239 = true := by decide +kernel
set_option maxRecDepth 100000 in
theorem ok_240 : okM 240 = true := by decide +kernel
set_option maxRecDepth 100000 in
theorem ok_241 : okM 241 = true := by decide +kernel
set_option maxRecDepth 100000 in
theorem ok_242 : okM 242 = true := by decide +kernel
set_option maxRecDepth 100000 in
theorem ok_243 : okM 243 = true := by decide +kernel
set_option maxRecDepth 100000 in
theorem ok_244 : okM 244 = true := by decide +kernel
set_option maxRecDepth 100000 in
theorem ok_245 : okM 245 = true := by decide +kernel
set_option maxRecDepth 100000 in
theorem ok_246 : okM 246 = true := by decide +kernel
set_option maxRecDepth 100000 in
theorem ok_247 : okM 247 = true := by decide +kernel
set_option maxRecDepth 100000 in
theorem ok_248 : okM 248 = true := by decide +kernel
set_option maxRecDepth 100000 in
theorem ok_249 : okM 249 = true := by decide +kernel
set_option maxRecDepth 100000 in
theorem ok_250 : okM 250 = true := by decide +kernel
set_option maxRecDepth 100000 in
theorem ok_251 : okM 251 = true := by decide +kernel
set_option maxRecDepth 100000 in
theorem ok_252 : okM 252 = true := by decide +kernel
set_option maxRecDepth 100000 in
theorem ok_253 : okM 253 = true := by decide +kernel
set_option maxRecDepth 100000 in
theorem ok_254 : okM 254 = true := by decide +kernel
set_option maxRecDepth 100000 in
theorem ok_255 : okM 255 = true := by decide +kernel
set_option maxRecDepth 100000 in
theorem ok_256 : okM 256 = true := by decide +kernel
set_option maxRecDepth 100000 in
theorem ok_257 : okM 257 = true := by decide +kernel
set_option maxRecDepth 100000 in
theorem ok_258 : okM 258 = true := by decide +kernel
set_option maxRecDepth 100000 in
theorem ok_259 : okM 259 = true := by decide +kernel
set_option maxRecDepth 100000 in
theorem ok_260 : okM 260 = true := by decide +kernel
set_option maxRecDepth 100000 in
theorem ok_261 : okM 261 = true := by decide +kernel
set_option maxRecDepth 100000 in
theorem ok_262 : okM 262 = true := by decide +kernel
set_option maxRecDepth 100000 in
theorem ok_263 : okM 263 = true := by decide +kernel
set_option maxRecDepth 100000 in
theorem ok_264 : okM 264 = true := by decide +kernel
set_option maxRecDepth 100000 in
theorem ok_265 : okM 265 = true := by decide +kernel
set_option maxRecDepth 100000 in
theorem ok_266 : okM 266 = true := by decide +kernel
set_option maxRecDepth 100000 in
theorem ok_267 : okM 267 = true := by decide +kernel
set_option maxRecDepth 100000 in
theorem ok_268 : okM 268 = true := by decide +kernel
set_option maxRecDepth 100000 in
theorem ok_269 : okM 269 = true := by decide +kernel
set_option maxRecDepth 100000 in
theorem ok_270 : okM 270 = true := by decide +kernel
set_option maxRecDepth 100000 in
theorem ok_271 : okM 271 = true := by decide +kernel
set_option maxRecDepth 100000 in
theorem ok_272 : okM 272 = true := by decide +kernel
set_option maxRecDepth 100000 in
theorem ok_273 : okM 273 = true := by decide +kernel
set_option maxRecDepth 100000 in
theorem ok_274 : okM 274 = true := by decide +kernel
set_option maxRecDepth 100000 in
theorem ok_275 : okM 275 = true := by decide +kernel
set_option maxRecDepth 100000 in
theorem ok_276 : okM 276 = true := by decide +kernel
set_option maxRecDepth 100000 in
theorem ok_277 : okM 277 = true := by decide +kernel
set_option maxRecDepth 100000 in
theorem ok_278 : okM 278 = true := by decide +kernel
set_option maxRecDepth 100000 in
theorem ok_279 : okM 279 = true := by decide +kernel
set_option maxRecDepth 100000 in
theorem ok_280 : okM 280 = true := by decide +kernel
set_option maxRecDepth 100000 in
theorem ok_281 : okM 281 = true := by decide +kernel
set_option maxRecDepth 100000 in
theorem ok_282 : okM 282 = true := by decide +kernel
set_option maxRecDepth 100000 in
theorem ok_283 : okM 283 = true := by decide +kernel
set_option maxRecDepth 100000 in
theorem ok_284 : okM 284 = true := by decide +kernel
set_option maxRecDepth 100000 in
theorem ok_285 : okM 285 = true := by decide +kernel
set_option maxRecDepth 100000 in
theorem ok_286 : okM 286 = true := by decide +kernel
set_option maxRecDepth 100000 in
theorem ok_287 : okM 287 = true := by decide +kernel
set_option maxRecDepth 100000 in
theorem ok_288 : okM 288 = true := by decide +kernel
set_option maxRecDepth 100000 in
theorem ok_289 : okM 289 = true := by decide +kernel
set_option maxRecDepth 100000 in
theorem ok_290 : okM 290 = true := by decide +kernel
set_option maxRecDepth 100000 in
theorem ok_291 : okM 291 = true := by decide +kernel
set_option maxRecDepth 100000 in
theorem ok_292 : okM 292 = true := by decide +kernel
set_option maxRecDepth 100000 in
theorem ok_293 : okM 293 = true := by decide +kernel
set_option maxRecDepth 100000 in
theorem ok_294 : okM 294 = true := by decide +kernel
set_option maxRecDepth 100000 in
theorem ok_295 : okM 295 = true := by decide +kernel
set_option maxRecDepth 100000 in
theorem ok_296 : okM 296 = true := by decide +kernel
set_option maxRecDepth 100000 in
theorem ok_297 : okM 297 = true := by decide +kernel
set_option maxRecDepth 100000 in
theorem ok_298 : okM 298 = true := by decide +kernel
set_option maxRecDepth 100000 in
theorem ok_299 : okM 299 = true := by decide +kernel
set_option maxRecDepth 100000 in
theorem ok_300 : okM 300 = true := by decide +kernel
set_option maxRecDepth 100000 in
theorem ok_301 : okM 301 = true := by decide +kernel
set_option maxRecDepth 100000 in
theorem ok_302 : okM 302 = true := by decide +kernel
set_option maxRecDepth 100000 in
theorem ok_303 : okM 303 = true := by decide +kernel
set_option maxRecDepth 100000 in
theorem ok_304 : okM 304 = true := by decide +kernel
set_option maxRecDepth 100000 in
theorem ok_305 : okM 305 = true := by decide +kernel
set_option maxRecDepth 100000 in
theorem ok_306 : okM 306 = true := by decide +kernel
set_option maxRecDepth 100000 in
theorem ok_307 : okM 307 = true := by decide +kernel
set_option maxRecDepth 100000 in
theorem ok_308 : okM 308 = true := by decide +kernel
