/-! The law, decoded, 1 -/
theorem dL_law_183 : decode code 183 = .ok (.iload 4, 2) := by decide +kernel
theorem dL_law_185 : decode code 185 = .ok (.invokevirtual 65, 3) := by decide +kernel
theorem dL_law_188 : decode code 188 = .ok (.ldc 68, 2) := by decide +kernel
theorem dL_law_190 : decode code 190 = .ok (.invokevirtual 59, 3) := by decide +kernel
theorem dL_law_193 : decode code 193 = .ok (.iload_n 2, 1) := by decide +kernel
theorem dL_law_194 : decode code 194 = .ok (.invokevirtual 65, 3) := by decide +kernel
theorem dL_law_197 : decode code 197 = .ok (.ldc 70, 2) := by decide +kernel
theorem dL_law_199 : decode code 199 = .ok (.invokevirtual 59, 3) := by decide +kernel
theorem dL_law_202 : decode code 202 = .ok (.iload 5, 2) := by decide +kernel
theorem dL_law_204 : decode code 204 = .ok (.invokevirtual 65, 3) := by decide +kernel
theorem dL_law_207 : decode code 207 = .ok (.ldc 68, 2) := by decide +kernel
theorem dL_law_209 : decode code 209 = .ok (.invokevirtual 59, 3) := by decide +kernel
theorem dL_law_212 : decode code 212 = .ok (.iload_n 3, 1) := by decide +kernel
theorem dL_law_213 : decode code 213 = .ok (.invokevirtual 65, 3) := by decide +kernel
theorem dL_law_216 : decode code 216 = .ok (.ldc 72, 2) := by decide +kernel
theorem dL_law_218 : decode code 218 = .ok (.invokevirtual 59, 3) := by decide +kernel
theorem dL_law_221 : decode code 221 = .ok (.invokevirtual 74, 3) := by decide +kernel
theorem dL_law_224 : decode code 224 = .ok (.invokestatic 41, 3) := by decide +kernel
theorem dL_law_227 : decode code 227 = .ok (.bipush 9, 2) := by decide +kernel
theorem dL_law_229 : decode code 229 = .ok (.if_icmp .ne 138, 3) := by decide +kernel
theorem dL_law_232 : decode code 232 = .ok (.aload_n 1, 1) := by decide +kernel
theorem dL_law_233 : decode code 233 = .ok (.invokevirtual 47, 3) := by decide +kernel
theorem dL_law_236 : decode code 236 = .ok (.ifCond .ne 131, 3) := by decide +kernel
theorem dL_law_239 : decode code 239 = .ok (.aload_n 1, 1) := by decide +kernel
theorem dL_law_240 : decode code 240 = .ok (.iconst 0, 1) := by decide +kernel
theorem dL_law_241 : decode code 241 = .ok (.iconst 0, 1) := by decide +kernel
theorem dL_law_242 : decode code 242 = .ok (.invokevirtual 78, 3) := by decide +kernel
theorem dL_law_245 : decode code 245 = .ok (.iconst 4, 1) := by decide +kernel
theorem dL_law_246 : decode code 246 = .ok (.if_icmp .ne 121, 3) := by decide +kernel
theorem dL_law_249 : decode code 249 = .ok (.aload_n 1, 1) := by decide +kernel
theorem dL_law_250 : decode code 250 = .ok (.iconst 1, 1) := by decide +kernel
theorem dL_law_251 : decode code 251 = .ok (.iconst 0, 1) := by decide +kernel
theorem dL_law_252 : decode code 252 = .ok (.invokevirtual 78, 3) := by decide +kernel
theorem dL_law_255 : decode code 255 = .ok (.ifCond .ne 112, 3) := by decide +kernel
theorem dL_law_258 : decode code 258 = .ok (.aload_n 1, 1) := by decide +kernel
theorem dL_law_259 : decode code 259 = .ok (.iconst 4, 1) := by decide +kernel
theorem dL_law_260 : decode code 260 = .ok (.iconst 0, 1) := by decide +kernel
theorem dL_law_261 : decode code 261 = .ok (.invokevirtual 78, 3) := by decide +kernel
theorem dL_law_264 : decode code 264 = .ok (.ifCond .ne 103, 3) := by decide +kernel
theorem dL_law_267 : decode code 267 = .ok (.aload_n 1, 1) := by decide +kernel
theorem dL_law_268 : decode code 268 = .ok (.iconst 5, 1) := by decide +kernel
theorem dL_law_269 : decode code 269 = .ok (.iconst 0, 1) := by decide +kernel
theorem dL_law_270 : decode code 270 = .ok (.invokevirtual 81, 3) := by decide +kernel
theorem dL_law_273 : decode code 273 = .ok (.bipush 11, 2) := by decide +kernel
theorem dL_law_275 : decode code 275 = .ok (.if_icmp .ne 92, 3) := by decide +kernel
theorem dL_law_278 : decode code 278 = .ok (.aload_n 1, 1) := by decide +kernel
theorem dL_law_279 : decode code 279 = .ok (.iconst 0, 1) := by decide +kernel
theorem dL_law_280 : decode code 280 = .ok (.iconst 2, 1) := by decide +kernel
theorem dL_law_281 : decode code 281 = .ok (.invokevirtual 84, 3) := by decide +kernel
theorem dL_law_284 : decode code 284 = .ok (.bipush 11, 2) := by decide +kernel
theorem dL_law_286 : decode code 286 = .ok (.if_icmp .ne 81, 3) := by decide +kernel
theorem dL_law_289 : decode code 289 = .ok (.aload_n 1, 1) := by decide +kernel
theorem dL_law_290 : decode code 290 = .ok (.iconst 0, 1) := by decide +kernel
theorem dL_law_291 : decode code 291 = .ok (.iconst 1, 1) := by decide +kernel
theorem dL_law_292 : decode code 292 = .ok (.invokevirtual 84, 3) := by decide +kernel
theorem dL_law_295 : decode code 295 = .ok (.iconst 4, 1) := by decide +kernel
theorem dL_law_296 : decode code 296 = .ok (.if_icmp .ne 71, 3) := by decide +kernel
theorem dL_law_299 : decode code 299 = .ok (.aload_n 1, 1) := by decide +kernel
theorem dL_law_300 : decode code 300 = .ok (.invokevirtual 87, 3) := by decide +kernel
theorem dL_law_303 : decode code 303 = .ok (.iconst 4, 1) := by decide +kernel
theorem dL_law_304 : decode code 304 = .ok (.if_icmp .ne 63, 3) := by decide +kernel
theorem dL_law_307 : decode code 307 = .ok (.aload_n 1, 1) := by decide +kernel
theorem dL_law_308 : decode code 308 = .ok (.iconst 1, 1) := by decide +kernel
theorem dL_law_309 : decode code 309 = .ok (.invokevirtual 90, 3) := by decide +kernel
theorem dL_law_312 : decode code 312 = .ok (.iconst 1, 1) := by decide +kernel
theorem dL_law_313 : decode code 313 = .ok (.if_icmp .ne 54, 3) := by decide +kernel
theorem dL_law_316 : decode code 316 = .ok (.aload_n 1, 1) := by decide +kernel
theorem dL_law_317 : decode code 317 = .ok (.iconst 2, 1) := by decide +kernel
theorem dL_law_318 : decode code 318 = .ok (.invokevirtual 90, 3) := by decide +kernel
theorem dL_law_321 : decode code 321 = .ok (.ifCond .ne 46, 3) := by decide +kernel
theorem dL_law_324 : decode code 324 = .ok (.aload_n 1, 1) := by decide +kernel
theorem dL_law_325 : decode code 325 = .ok (.iconst 3, 1) := by decide +kernel
theorem dL_law_326 : decode code 326 = .ok (.invokevirtual 90, 3) := by decide +kernel
theorem dL_law_329 : decode code 329 = .ok (.iconst 2, 1) := by decide +kernel
theorem dL_law_330 : decode code 330 = .ok (.if_icmp .ne 37, 3) := by decide +kernel
theorem dL_law_333 : decode code 333 = .ok (.aload_n 1, 1) := by decide +kernel
theorem dL_law_334 : decode code 334 = .ok (.iconst 0, 1) := by decide +kernel
theorem dL_law_335 : decode code 335 = .ok (.bipush 6, 2) := by decide +kernel
theorem dL_law_337 : decode code 337 = .ok (.invokevirtual 93, 3) := by decide +kernel
theorem dL_law_340 : decode code 340 = .ok (.iload 4, 2) := by decide +kernel
theorem dL_law_342 : decode code 342 = .ok (.if_icmp .ne 25, 3) := by decide +kernel
theorem dL_law_345 : decode code 345 = .ok (.aload_n 1, 1) := by decide +kernel
theorem dL_law_346 : decode code 346 = .ok (.iconst 1, 1) := by decide +kernel
theorem dL_law_347 : decode code 347 = .ok (.bipush 6, 2) := by decide +kernel
theorem dL_law_349 : decode code 349 = .ok (.invokevirtual 93, 3) := by decide +kernel
theorem dL_law_352 : decode code 352 = .ok (.iload 5, 2) := by decide +kernel
theorem dL_law_354 : decode code 354 = .ok (.if_icmp .ne 13, 3) := by decide +kernel
theorem dL_law_357 : decode code 357 = .ok (.aload_n 1, 1) := by decide +kernel
theorem dL_law_358 : decode code 358 = .ok (.iconst 2, 1) := by decide +kernel
theorem dL_law_359 : decode code 359 = .ok (.bipush 6, 2) := by decide +kernel
theorem dL_law_361 : decode code 361 = .ok (.invokevirtual 93, 3) := by decide +kernel
theorem dL_law_364 : decode code 364 = .ok (.ifCond .eq 5, 3) := by decide +kernel
theorem dL_law_367 : decode code 367 = .ok (.iconst 0, 1) := by decide +kernel
theorem dL_law_368 : decode code 368 = .ok (.ireturn, 1) := by decide +kernel
theorem dL_law_369 : decode code 369 = .ok (.iconst 3, 1) := by decide +kernel
theorem dL_law_370 : decode code 370 = .ok (.newarray .int, 2) := by decide +kernel
theorem dL_law_372 : decode code 372 = .ok (.dup, 1) := by decide +kernel
theorem dL_law_373 : decode code 373 = .ok (.iconst 0, 1) := by decide +kernel
theorem dL_law_374 : decode code 374 = .ok (.sipush 2000, 3) := by decide +kernel
theorem dL_law_377 : decode code 377 = .ok (.iastore, 1) := by decide +kernel
