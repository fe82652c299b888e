theorem dd_W_law_0 : decode cd_W_law 0 = .ok (.new 8, 3) := by decide +kernel
theorem dd_W_law_3 : decode cd_W_law 3 = .ok (.dup, 1) := by decide +kernel
theorem dd_W_law_4 : decode cd_W_law 4 = .ok (.invokespecial 72, 3) := by decide +kernel
theorem dd_W_law_7 : decode cd_W_law 7 = .ok (.astore_n 1, 1) := by decide +kernel
theorem dd_W_law_8 : decode cd_W_law 8 = .ok (.new 73, 3) := by decide +kernel
theorem dd_W_law_11 : decode cd_W_law 11 = .ok (.dup, 1) := by decide +kernel
theorem dd_W_law_12 : decode cd_W_law 12 = .ok (.invokespecial 75, 3) := by decide +kernel
theorem dd_W_law_15 : decode cd_W_law 15 = .ok (.astore_n 2, 1) := by decide +kernel
theorem dd_W_law_16 : decode cd_W_law 16 = .ok (.iconst 1, 1) := by decide +kernel
theorem dd_W_law_17 : decode cd_W_law 17 = .ok (.newarray .long, 2) := by decide +kernel
theorem dd_W_law_19 : decode cd_W_law 19 = .ok (.astore_n 3, 1) := by decide +kernel
theorem dd_W_law_20 : decode cd_W_law 20 = .ok (.iconst 0, 1) := by decide +kernel
theorem dd_W_law_21 : decode cd_W_law 21 = .ok (.istore 4, 2) := by decide +kernel
theorem dd_W_law_23 : decode cd_W_law 23 = .ok (.iload 4, 2) := by decide +kernel
theorem dd_W_law_25 : decode cd_W_law 25 = .ok (.aload_n 0, 1) := by decide +kernel
theorem dd_W_law_26 : decode cd_W_law 26 = .ok (.arraylength, 1) := by decide +kernel
theorem dd_W_law_27 : decode cd_W_law 27 = .ok (.iconst 5, 1) := by decide +kernel
theorem dd_W_law_28 : decode cd_W_law 28 = .ok (.isub, 1) := by decide +kernel
theorem dd_W_law_29 : decode cd_W_law 29 = .ok (.if_icmp .gt 1296, 3) := by decide +kernel
theorem dd_W_law_32 : decode cd_W_law 32 = .ok (.aload_n 0, 1) := by decide +kernel
theorem dd_W_law_33 : decode cd_W_law 33 = .ok (.iload 4, 2) := by decide +kernel
theorem dd_W_law_35 : decode cd_W_law 35 = .ok (.iaload, 1) := by decide +kernel
theorem dd_W_law_36 : decode cd_W_law 36 = .ok (.bipush 31, 2) := by decide +kernel
theorem dd_W_law_38 : decode cd_W_law 38 = .ok (.iand, 1) := by decide +kernel
theorem dd_W_law_39 : decode cd_W_law 39 = .ok (.tableswitch 1280 0 17 #[85, 165, 233, 313, 393, 441, 521, 589, 657, 765, 821, 889, 957, 1013, 1069, 1082, 1137, 1236], 85) := by decide +kernel
theorem dd_W_law_124 : decode cd_W_law 124 = .ok (.aload_n 1, 1) := by decide +kernel
theorem dd_W_law_125 : decode cd_W_law 125 = .ok (.aload_n 0, 1) := by decide +kernel
theorem dd_W_law_126 : decode cd_W_law 126 = .ok (.iload 4, 2) := by decide +kernel
theorem dd_W_law_128 : decode cd_W_law 128 = .ok (.iconst 1, 1) := by decide +kernel
theorem dd_W_law_129 : decode cd_W_law 129 = .ok (.iadd, 1) := by decide +kernel
theorem dd_W_law_130 : decode cd_W_law 130 = .ok (.iaload, 1) := by decide +kernel
theorem dd_W_law_131 : decode cd_W_law 131 = .ok (.aload_n 0, 1) := by decide +kernel
theorem dd_W_law_132 : decode cd_W_law 132 = .ok (.iload 4, 2) := by decide +kernel
theorem dd_W_law_134 : decode cd_W_law 134 = .ok (.iconst 2, 1) := by decide +kernel
theorem dd_W_law_135 : decode cd_W_law 135 = .ok (.iadd, 1) := by decide +kernel
theorem dd_W_law_136 : decode cd_W_law 136 = .ok (.iaload, 1) := by decide +kernel
theorem dd_W_law_137 : decode cd_W_law 137 = .ok (.aload_n 0, 1) := by decide +kernel
theorem dd_W_law_138 : decode cd_W_law 138 = .ok (.iload 4, 2) := by decide +kernel
theorem dd_W_law_140 : decode cd_W_law 140 = .ok (.iconst 3, 1) := by decide +kernel
theorem dd_W_law_141 : decode cd_W_law 141 = .ok (.iadd, 1) := by decide +kernel
theorem dd_W_law_142 : decode cd_W_law 142 = .ok (.iaload, 1) := by decide +kernel
theorem dd_W_law_143 : decode cd_W_law 143 = .ok (.aload_n 3, 1) := by decide +kernel
theorem dd_W_law_144 : decode cd_W_law 144 = .ok (.invokestatic 76, 3) := by decide +kernel
theorem dd_W_law_147 : decode cd_W_law 147 = .ok (.istore 5, 2) := by decide +kernel
theorem dd_W_law_149 : decode cd_W_law 149 = .ok (.aload_n 2, 1) := by decide +kernel
theorem dd_W_law_150 : decode cd_W_law 150 = .ok (.aload_n 0, 1) := by decide +kernel
theorem dd_W_law_151 : decode cd_W_law 151 = .ok (.iload 4, 2) := by decide +kernel
theorem dd_W_law_153 : decode cd_W_law 153 = .ok (.iconst 1, 1) := by decide +kernel
theorem dd_W_law_154 : decode cd_W_law 154 = .ok (.iadd, 1) := by decide +kernel
theorem dd_W_law_155 : decode cd_W_law 155 = .ok (.iaload, 1) := by decide +kernel
theorem dd_W_law_156 : decode cd_W_law 156 = .ok (.aload_n 0, 1) := by decide +kernel
theorem dd_W_law_157 : decode cd_W_law 157 = .ok (.iload 4, 2) := by decide +kernel
theorem dd_W_law_159 : decode cd_W_law 159 = .ok (.iconst 2, 1) := by decide +kernel
theorem dd_W_law_160 : decode cd_W_law 160 = .ok (.iadd, 1) := by decide +kernel
theorem dd_W_law_161 : decode cd_W_law 161 = .ok (.iaload, 1) := by decide +kernel
theorem dd_W_law_162 : decode cd_W_law 162 = .ok (.aload_n 0, 1) := by decide +kernel
theorem dd_W_law_163 : decode cd_W_law 163 = .ok (.iload 4, 2) := by decide +kernel
theorem dd_W_law_165 : decode cd_W_law 165 = .ok (.iconst 3, 1) := by decide +kernel
theorem dd_W_law_166 : decode cd_W_law 166 = .ok (.iadd, 1) := by decide +kernel
theorem dd_W_law_167 : decode cd_W_law 167 = .ok (.iaload, 1) := by decide +kernel
theorem dd_W_law_168 : decode cd_W_law 168 = .ok (.invokevirtual 81, 3) := by decide +kernel
theorem dd_W_law_171 : decode cd_W_law 171 = .ok (.istore 6, 2) := by decide +kernel
theorem dd_W_law_173 : decode cd_W_law 173 = .ok (.aload_n 2, 1) := by decide +kernel
theorem dd_W_law_174 : decode cd_W_law 174 = .ok (.invokevirtual 82, 3) := by decide +kernel
theorem dd_W_law_177 : decode cd_W_law 177 = .ok (.iload 5, 2) := by decide +kernel
theorem dd_W_law_179 : decode cd_W_law 179 = .ok (.if_icmp .eq 5, 3) := by decide +kernel
theorem dd_W_law_182 : decode cd_W_law 182 = .ok (.iconst 0, 1) := by decide +kernel
theorem dd_W_law_183 : decode cd_W_law 183 = .ok (.ireturn, 1) := by decide +kernel
theorem dd_W_law_184 : decode cd_W_law 184 = .ok (.iload 5, 2) := by decide +kernel
theorem dd_W_law_186 : decode cd_W_law 186 = .ok (.ifCond .ne 15, 3) := by decide +kernel
theorem dd_W_law_189 : decode cd_W_law 189 = .ok (.aload_n 3, 1) := by decide +kernel
theorem dd_W_law_190 : decode cd_W_law 190 = .ok (.iconst 0, 1) := by decide +kernel
theorem dd_W_law_191 : decode cd_W_law 191 = .ok (.laload, 1) := by decide +kernel
theorem dd_W_law_192 : decode cd_W_law 192 = .ok (.iload 6, 2) := by decide +kernel
theorem dd_W_law_194 : decode cd_W_law 194 = .ok (.i2l, 1) := by decide +kernel
theorem dd_W_law_195 : decode cd_W_law 195 = .ok (.lcmp, 1) := by decide +kernel
theorem dd_W_law_196 : decode cd_W_law 196 = .ok (.ifCond .eq 5, 3) := by decide +kernel
theorem dd_W_law_199 : decode cd_W_law 199 = .ok (.iconst 0, 1) := by decide +kernel
theorem dd_W_law_200 : decode cd_W_law 200 = .ok (.ireturn, 1) := by decide +kernel
theorem dd_W_law_201 : decode cd_W_law 201 = .ok (.goto 1118, 3) := by decide +kernel
theorem dd_W_law_204 : decode cd_W_law 204 = .ok (.aload_n 1, 1) := by decide +kernel
theorem dd_W_law_205 : decode cd_W_law 205 = .ok (.aload_n 0, 1) := by decide +kernel
theorem dd_W_law_206 : decode cd_W_law 206 = .ok (.iload 4, 2) := by decide +kernel
theorem dd_W_law_208 : decode cd_W_law 208 = .ok (.iconst 1, 1) := by decide +kernel
theorem dd_W_law_209 : decode cd_W_law 209 = .ok (.iadd, 1) := by decide +kernel
theorem dd_W_law_210 : decode cd_W_law 210 = .ok (.iaload, 1) := by decide +kernel
theorem dd_W_law_211 : decode cd_W_law 211 = .ok (.aload_n 0, 1) := by decide +kernel
theorem dd_W_law_212 : decode cd_W_law 212 = .ok (.iload 4, 2) := by decide +kernel
theorem dd_W_law_214 : decode cd_W_law 214 = .ok (.iconst 2, 1) := by decide +kernel
theorem dd_W_law_215 : decode cd_W_law 215 = .ok (.iadd, 1) := by decide +kernel
theorem dd_W_law_216 : decode cd_W_law 216 = .ok (.iaload, 1) := by decide +kernel
theorem dd_W_law_217 : decode cd_W_law 217 = .ok (.aload_n 3, 1) := by decide +kernel
theorem dd_W_law_218 : decode cd_W_law 218 = .ok (.invokestatic 85, 3) := by decide +kernel
theorem dd_W_law_221 : decode cd_W_law 221 = .ok (.istore 5, 2) := by decide +kernel
theorem dd_W_law_223 : decode cd_W_law 223 = .ok (.aload_n 2, 1) := by decide +kernel
theorem dd_W_law_224 : decode cd_W_law 224 = .ok (.aload_n 0, 1) := by decide +kernel
theorem dd_W_law_225 : decode cd_W_law 225 = .ok (.iload 4, 2) := by decide +kernel
theorem dd_W_law_227 : decode cd_W_law 227 = .ok (.iconst 1, 1) := by decide +kernel
theorem dd_W_law_228 : decode cd_W_law 228 = .ok (.iadd, 1) := by decide +kernel
theorem dd_W_law_229 : decode cd_W_law 229 = .ok (.iaload, 1) := by decide +kernel
theorem dd_W_law_230 : decode cd_W_law 230 = .ok (.aload_n 0, 1) := by decide +kernel
theorem dd_W_law_231 : decode cd_W_law 231 = .ok (.iload 4, 2) := by decide +kernel
theorem dd_W_law_233 : decode cd_W_law 233 = .ok (.iconst 2, 1) := by decide +kernel
theorem dd_W_law_234 : decode cd_W_law 234 = .ok (.iadd, 1) := by decide +kernel
theorem dd_W_law_235 : decode cd_W_law 235 = .ok (.iaload, 1) := by decide +kernel
theorem dd_W_law_236 : decode cd_W_law 236 = .ok (.invokevirtual 88, 3) := by decide +kernel
theorem dd_W_law_239 : decode cd_W_law 239 = .ok (.istore 6, 2) := by decide +kernel
theorem dd_W_law_241 : decode cd_W_law 241 = .ok (.aload_n 2, 1) := by decide +kernel
theorem dd_W_law_242 : decode cd_W_law 242 = .ok (.invokevirtual 82, 3) := by decide +kernel
theorem dd_W_law_245 : decode cd_W_law 245 = .ok (.iload 5, 2) := by decide +kernel
theorem dd_W_law_247 : decode cd_W_law 247 = .ok (.if_icmp .eq 5, 3) := by decide +kernel
theorem dd_W_law_250 : decode cd_W_law 250 = .ok (.iconst 0, 1) := by decide +kernel
theorem dd_W_law_251 : decode cd_W_law 251 = .ok (.ireturn, 1) := by decide +kernel
theorem dd_W_law_252 : decode cd_W_law 252 = .ok (.iload 5, 2) := by decide +kernel
theorem dd_W_law_254 : decode cd_W_law 254 = .ok (.ifCond .ne 15, 3) := by decide +kernel
theorem dd_W_law_257 : decode cd_W_law 257 = .ok (.aload_n 3, 1) := by decide +kernel
theorem dd_W_law_258 : decode cd_W_law 258 = .ok (.iconst 0, 1) := by decide +kernel
theorem dd_W_law_259 : decode cd_W_law 259 = .ok (.laload, 1) := by decide +kernel
theorem dd_W_law_260 : decode cd_W_law 260 = .ok (.iload 6, 2) := by decide +kernel
theorem dd_W_law_262 : decode cd_W_law 262 = .ok (.i2l, 1) := by decide +kernel
theorem dd_W_law_263 : decode cd_W_law 263 = .ok (.lcmp, 1) := by decide +kernel
theorem dd_W_law_264 : decode cd_W_law 264 = .ok (.ifCond .eq 5, 3) := by decide +kernel
theorem dd_W_law_267 : decode cd_W_law 267 = .ok (.iconst 0, 1) := by decide +kernel
theorem dd_W_law_268 : decode cd_W_law 268 = .ok (.ireturn, 1) := by decide +kernel
theorem dd_W_law_269 : decode cd_W_law 269 = .ok (.goto 1050, 3) := by decide +kernel
theorem dd_W_law_272 : decode cd_W_law 272 = .ok (.aload_n 1, 1) := by decide +kernel
theorem dd_W_law_273 : decode cd_W_law 273 = .ok (.aload_n 0, 1) := by decide +kernel
theorem dd_W_law_274 : decode cd_W_law 274 = .ok (.iload 4, 2) := by decide +kernel
theorem dd_W_law_276 : decode cd_W_law 276 = .ok (.iconst 1, 1) := by decide +kernel
theorem dd_W_law_277 : decode cd_W_law 277 = .ok (.iadd, 1) := by decide +kernel
theorem dd_W_law_278 : decode cd_W_law 278 = .ok (.iaload, 1) := by decide +kernel
theorem dd_W_law_279 : decode cd_W_law 279 = .ok (.aload_n 0, 1) := by decide +kernel
theorem dd_W_law_280 : decode cd_W_law 280 = .ok (.iload 4, 2) := by decide +kernel
theorem dd_W_law_282 : decode cd_W_law 282 = .ok (.iconst 2, 1) := by decide +kernel
theorem dd_W_law_283 : decode cd_W_law 283 = .ok (.iadd, 1) := by decide +kernel
theorem dd_W_law_284 : decode cd_W_law 284 = .ok (.iaload, 1) := by decide +kernel
theorem dd_W_law_285 : decode cd_W_law 285 = .ok (.aload_n 0, 1) := by decide +kernel
theorem dd_W_law_286 : decode cd_W_law 286 = .ok (.iload 4, 2) := by decide +kernel
theorem dd_W_law_288 : decode cd_W_law 288 = .ok (.iconst 3, 1) := by decide +kernel
theorem dd_W_law_289 : decode cd_W_law 289 = .ok (.iadd, 1) := by decide +kernel
theorem dd_W_law_290 : decode cd_W_law 290 = .ok (.iaload, 1) := by decide +kernel
theorem dd_W_law_291 : decode cd_W_law 291 = .ok (.aload_n 3, 1) := by decide +kernel
theorem dd_W_law_292 : decode cd_W_law 292 = .ok (.invokestatic 89, 3) := by decide +kernel
theorem dd_W_law_295 : decode cd_W_law 295 = .ok (.istore 5, 2) := by decide +kernel
theorem dd_W_law_297 : decode cd_W_law 297 = .ok (.aload_n 2, 1) := by decide +kernel
theorem dd_W_law_298 : decode cd_W_law 298 = .ok (.aload_n 0, 1) := by decide +kernel
theorem dd_W_law_299 : decode cd_W_law 299 = .ok (.iload 4, 2) := by decide +kernel
theorem dd_W_law_301 : decode cd_W_law 301 = .ok (.iconst 1, 1) := by decide +kernel
theorem dd_W_law_302 : decode cd_W_law 302 = .ok (.iadd, 1) := by decide +kernel
theorem dd_W_law_303 : decode cd_W_law 303 = .ok (.iaload, 1) := by decide +kernel
theorem dd_W_law_304 : decode cd_W_law 304 = .ok (.aload_n 0, 1) := by decide +kernel
theorem dd_W_law_305 : decode cd_W_law 305 = .ok (.iload 4, 2) := by decide +kernel
theorem dd_W_law_307 : decode cd_W_law 307 = .ok (.iconst 2, 1) := by decide +kernel
theorem dd_W_law_308 : decode cd_W_law 308 = .ok (.iadd, 1) := by decide +kernel
theorem dd_W_law_309 : decode cd_W_law 309 = .ok (.iaload, 1) := by decide +kernel
theorem dd_W_law_310 : decode cd_W_law 310 = .ok (.aload_n 0, 1) := by decide +kernel
theorem dd_W_law_311 : decode cd_W_law 311 = .ok (.iload 4, 2) := by decide +kernel
theorem dd_W_law_313 : decode cd_W_law 313 = .ok (.iconst 3, 1) := by decide +kernel
theorem dd_W_law_314 : decode cd_W_law 314 = .ok (.iadd, 1) := by decide +kernel
theorem dd_W_law_315 : decode cd_W_law 315 = .ok (.iaload, 1) := by decide +kernel
theorem dd_W_law_316 : decode cd_W_law 316 = .ok (.invokevirtual 91, 3) := by decide +kernel
theorem dd_W_law_319 : decode cd_W_law 319 = .ok (.istore 6, 2) := by decide +kernel
theorem dd_W_law_321 : decode cd_W_law 321 = .ok (.aload_n 2, 1) := by decide +kernel
theorem dd_W_law_322 : decode cd_W_law 322 = .ok (.invokevirtual 82, 3) := by decide +kernel
theorem dd_W_law_325 : decode cd_W_law 325 = .ok (.iload 5, 2) := by decide +kernel
theorem dd_W_law_327 : decode cd_W_law 327 = .ok (.if_icmp .eq 5, 3) := by decide +kernel
theorem dd_W_law_330 : decode cd_W_law 330 = .ok (.iconst 0, 1) := by decide +kernel
theorem dd_W_law_331 : decode cd_W_law 331 = .ok (.ireturn, 1) := by decide +kernel
theorem dd_W_law_332 : decode cd_W_law 332 = .ok (.iload 5, 2) := by decide +kernel
theorem dd_W_law_334 : decode cd_W_law 334 = .ok (.ifCond .ne 15, 3) := by decide +kernel
theorem dd_W_law_337 : decode cd_W_law 337 = .ok (.aload_n 3, 1) := by decide +kernel
theorem dd_W_law_338 : decode cd_W_law 338 = .ok (.iconst 0, 1) := by decide +kernel
theorem dd_W_law_339 : decode cd_W_law 339 = .ok (.laload, 1) := by decide +kernel
theorem dd_W_law_340 : decode cd_W_law 340 = .ok (.iload 6, 2) := by decide +kernel
theorem dd_W_law_342 : decode cd_W_law 342 = .ok (.i2l, 1) := by decide +kernel
theorem dd_W_law_343 : decode cd_W_law 343 = .ok (.lcmp, 1) := by decide +kernel
theorem dd_W_law_344 : decode cd_W_law 344 = .ok (.ifCond .eq 5, 3) := by decide +kernel
theorem dd_W_law_347 : decode cd_W_law 347 = .ok (.iconst 0, 1) := by decide +kernel
theorem dd_W_law_348 : decode cd_W_law 348 = .ok (.ireturn, 1) := by decide +kernel
theorem dd_W_law_349 : decode cd_W_law 349 = .ok (.goto 970, 3) := by decide +kernel
theorem dd_W_law_352 : decode cd_W_law 352 = .ok (.aload_n 1, 1) := by decide +kernel
theorem dd_W_law_353 : decode cd_W_law 353 = .ok (.aload_n 0, 1) := by decide +kernel
theorem dd_W_law_354 : decode cd_W_law 354 = .ok (.iload 4, 2) := by decide +kernel
theorem dd_W_law_356 : decode cd_W_law 356 = .ok (.iconst 1, 1) := by decide +kernel
theorem dd_W_law_357 : decode cd_W_law 357 = .ok (.iadd, 1) := by decide +kernel
theorem dd_W_law_358 : decode cd_W_law 358 = .ok (.iaload, 1) := by decide +kernel
theorem dd_W_law_359 : decode cd_W_law 359 = .ok (.aload_n 0, 1) := by decide +kernel
theorem dd_W_law_360 : decode cd_W_law 360 = .ok (.iload 4, 2) := by decide +kernel
theorem dd_W_law_362 : decode cd_W_law 362 = .ok (.iconst 2, 1) := by decide +kernel
theorem dd_W_law_363 : decode cd_W_law 363 = .ok (.iadd, 1) := by decide +kernel
theorem dd_W_law_364 : decode cd_W_law 364 = .ok (.iaload, 1) := by decide +kernel
theorem dd_W_law_365 : decode cd_W_law 365 = .ok (.aload_n 0, 1) := by decide +kernel
theorem dd_W_law_366 : decode cd_W_law 366 = .ok (.iload 4, 2) := by decide +kernel
theorem dd_W_law_368 : decode cd_W_law 368 = .ok (.iconst 3, 1) := by decide +kernel
theorem dd_W_law_369 : decode cd_W_law 369 = .ok (.iadd, 1) := by decide +kernel
theorem dd_W_law_370 : decode cd_W_law 370 = .ok (.iaload, 1) := by decide +kernel
theorem dd_W_law_371 : decode cd_W_law 371 = .ok (.aload_n 3, 1) := by decide +kernel
theorem dd_W_law_372 : decode cd_W_law 372 = .ok (.invokestatic 92, 3) := by decide +kernel
theorem dd_W_law_375 : decode cd_W_law 375 = .ok (.istore 5, 2) := by decide +kernel
theorem dd_W_law_377 : decode cd_W_law 377 = .ok (.aload_n 2, 1) := by decide +kernel
theorem dd_W_law_378 : decode cd_W_law 378 = .ok (.aload_n 0, 1) := by decide +kernel
theorem dd_W_law_379 : decode cd_W_law 379 = .ok (.iload 4, 2) := by decide +kernel
theorem dd_W_law_381 : decode cd_W_law 381 = .ok (.iconst 1, 1) := by decide +kernel
theorem dd_W_law_382 : decode cd_W_law 382 = .ok (.iadd, 1) := by decide +kernel
theorem dd_W_law_383 : decode cd_W_law 383 = .ok (.iaload, 1) := by decide +kernel
theorem dd_W_law_384 : decode cd_W_law 384 = .ok (.aload_n 0, 1) := by decide +kernel
theorem dd_W_law_385 : decode cd_W_law 385 = .ok (.iload 4, 2) := by decide +kernel
theorem dd_W_law_387 : decode cd_W_law 387 = .ok (.iconst 2, 1) := by decide +kernel
theorem dd_W_law_388 : decode cd_W_law 388 = .ok (.iadd, 1) := by decide +kernel
theorem dd_W_law_389 : decode cd_W_law 389 = .ok (.iaload, 1) := by decide +kernel
theorem dd_W_law_390 : decode cd_W_law 390 = .ok (.aload_n 0, 1) := by decide +kernel
theorem dd_W_law_391 : decode cd_W_law 391 = .ok (.iload 4, 2) := by decide +kernel
theorem dd_W_law_393 : decode cd_W_law 393 = .ok (.iconst 3, 1) := by decide +kernel
theorem dd_W_law_394 : decode cd_W_law 394 = .ok (.iadd, 1) := by decide +kernel
theorem dd_W_law_395 : decode cd_W_law 395 = .ok (.iaload, 1) := by decide +kernel
theorem dd_W_law_396 : decode cd_W_law 396 = .ok (.invokevirtual 94, 3) := by decide +kernel
theorem dd_W_law_399 : decode cd_W_law 399 = .ok (.istore 6, 2) := by decide +kernel
theorem dd_W_law_401 : decode cd_W_law 401 = .ok (.aload_n 2, 1) := by decide +kernel
theorem dd_W_law_402 : decode cd_W_law 402 = .ok (.invokevirtual 82, 3) := by decide +kernel
theorem dd_W_law_405 : decode cd_W_law 405 = .ok (.iload 5, 2) := by decide +kernel
theorem dd_W_law_407 : decode cd_W_law 407 = .ok (.if_icmp .eq 5, 3) := by decide +kernel
theorem dd_W_law_410 : decode cd_W_law 410 = .ok (.iconst 0, 1) := by decide +kernel
theorem dd_W_law_411 : decode cd_W_law 411 = .ok (.ireturn, 1) := by decide +kernel
theorem dd_W_law_412 : decode cd_W_law 412 = .ok (.iload 5, 2) := by decide +kernel
theorem dd_W_law_414 : decode cd_W_law 414 = .ok (.ifCond .ne 15, 3) := by decide +kernel
theorem dd_W_law_417 : decode cd_W_law 417 = .ok (.aload_n 3, 1) := by decide +kernel
theorem dd_W_law_418 : decode cd_W_law 418 = .ok (.iconst 0, 1) := by decide +kernel
theorem dd_W_law_419 : decode cd_W_law 419 = .ok (.laload, 1) := by decide +kernel
theorem dd_W_law_420 : decode cd_W_law 420 = .ok (.iload 6, 2) := by decide +kernel
theorem dd_W_law_422 : decode cd_W_law 422 = .ok (.i2l, 1) := by decide +kernel
theorem dd_W_law_423 : decode cd_W_law 423 = .ok (.lcmp, 1) := by decide +kernel
theorem dd_W_law_424 : decode cd_W_law 424 = .ok (.ifCond .eq 5, 3) := by decide +kernel
theorem dd_W_law_427 : decode cd_W_law 427 = .ok (.iconst 0, 1) := by decide +kernel
theorem dd_W_law_428 : decode cd_W_law 428 = .ok (.ireturn, 1) := by decide +kernel
theorem dd_W_law_429 : decode cd_W_law 429 = .ok (.goto 890, 3) := by decide +kernel
theorem dd_W_law_432 : decode cd_W_law 432 = .ok (.aload_n 1, 1) := by decide +kernel
theorem dd_W_law_433 : decode cd_W_law 433 = .ok (.aload_n 0, 1) := by decide +kernel
theorem dd_W_law_434 : decode cd_W_law 434 = .ok (.iload 4, 2) := by decide +kernel
theorem dd_W_law_436 : decode cd_W_law 436 = .ok (.iconst 1, 1) := by decide +kernel
theorem dd_W_law_437 : decode cd_W_law 437 = .ok (.iadd, 1) := by decide +kernel
theorem dd_W_law_438 : decode cd_W_law 438 = .ok (.iaload, 1) := by decide +kernel
theorem dd_W_law_439 : decode cd_W_law 439 = .ok (.aload_n 0, 1) := by decide +kernel
theorem dd_W_law_440 : decode cd_W_law 440 = .ok (.iload 4, 2) := by decide +kernel
theorem dd_W_law_442 : decode cd_W_law 442 = .ok (.iconst 2, 1) := by decide +kernel
theorem dd_W_law_443 : decode cd_W_law 443 = .ok (.iadd, 1) := by decide +kernel
theorem dd_W_law_444 : decode cd_W_law 444 = .ok (.iaload, 1) := by decide +kernel
theorem dd_W_law_445 : decode cd_W_law 445 = .ok (.invokestatic 95, 3) := by decide +kernel
theorem dd_W_law_448 : decode cd_W_law 448 = .ok (.istore 5, 2) := by decide +kernel
theorem dd_W_law_450 : decode cd_W_law 450 = .ok (.aload_n 2, 1) := by decide +kernel
theorem dd_W_law_451 : decode cd_W_law 451 = .ok (.aload_n 0, 1) := by decide +kernel
theorem dd_W_law_452 : decode cd_W_law 452 = .ok (.iload 4, 2) := by decide +kernel
theorem dd_W_law_454 : decode cd_W_law 454 = .ok (.iconst 1, 1) := by decide +kernel
theorem dd_W_law_455 : decode cd_W_law 455 = .ok (.iadd, 1) := by decide +kernel
theorem dd_W_law_456 : decode cd_W_law 456 = .ok (.iaload, 1) := by decide +kernel
theorem dd_W_law_457 : decode cd_W_law 457 = .ok (.aload_n 0, 1) := by decide +kernel
theorem dd_W_law_458 : decode cd_W_law 458 = .ok (.iload 4, 2) := by decide +kernel
theorem dd_W_law_460 : decode cd_W_law 460 = .ok (.iconst 2, 1) := by decide +kernel
theorem dd_W_law_461 : decode cd_W_law 461 = .ok (.iadd, 1) := by decide +kernel
theorem dd_W_law_462 : decode cd_W_law 462 = .ok (.iaload, 1) := by decide +kernel
theorem dd_W_law_463 : decode cd_W_law 463 = .ok (.invokevirtual 98, 3) := by decide +kernel
theorem dd_W_law_466 : decode cd_W_law 466 = .ok (.aload_n 2, 1) := by decide +kernel
theorem dd_W_law_467 : decode cd_W_law 467 = .ok (.invokevirtual 82, 3) := by decide +kernel
theorem dd_W_law_470 : decode cd_W_law 470 = .ok (.iload 5, 2) := by decide +kernel
theorem dd_W_law_472 : decode cd_W_law 472 = .ok (.if_icmp .eq 5, 3) := by decide +kernel
theorem dd_W_law_475 : decode cd_W_law 475 = .ok (.iconst 0, 1) := by decide +kernel
theorem dd_W_law_476 : decode cd_W_law 476 = .ok (.ireturn, 1) := by decide +kernel
theorem dd_W_law_477 : decode cd_W_law 477 = .ok (.goto 842, 3) := by decide +kernel
theorem dd_W_law_480 : decode cd_W_law 480 = .ok (.aload_n 1, 1) := by decide +kernel
theorem dd_W_law_481 : decode cd_W_law 481 = .ok (.aload_n 0, 1) := by decide +kernel
theorem dd_W_law_482 : decode cd_W_law 482 = .ok (.iload 4, 2) := by decide +kernel
theorem dd_W_law_484 : decode cd_W_law 484 = .ok (.iconst 1, 1) := by decide +kernel
theorem dd_W_law_485 : decode cd_W_law 485 = .ok (.iadd, 1) := by decide +kernel
theorem dd_W_law_486 : decode cd_W_law 486 = .ok (.iaload, 1) := by decide +kernel
theorem dd_W_law_487 : decode cd_W_law 487 = .ok (.aload_n 0, 1) := by decide +kernel
theorem dd_W_law_488 : decode cd_W_law 488 = .ok (.iload 4, 2) := by decide +kernel
theorem dd_W_law_490 : decode cd_W_law 490 = .ok (.iconst 2, 1) := by decide +kernel
theorem dd_W_law_491 : decode cd_W_law 491 = .ok (.iadd, 1) := by decide +kernel
theorem dd_W_law_492 : decode cd_W_law 492 = .ok (.iaload, 1) := by decide +kernel
theorem dd_W_law_493 : decode cd_W_law 493 = .ok (.aload_n 0, 1) := by decide +kernel
theorem dd_W_law_494 : decode cd_W_law 494 = .ok (.iload 4, 2) := by decide +kernel
theorem dd_W_law_496 : decode cd_W_law 496 = .ok (.iconst 3, 1) := by decide +kernel
theorem dd_W_law_497 : decode cd_W_law 497 = .ok (.iadd, 1) := by decide +kernel
theorem dd_W_law_498 : decode cd_W_law 498 = .ok (.iaload, 1) := by decide +kernel
theorem dd_W_law_499 : decode cd_W_law 499 = .ok (.aload_n 3, 1) := by decide +kernel
theorem dd_W_law_500 : decode cd_W_law 500 = .ok (.invokestatic 99, 3) := by decide +kernel
theorem dd_W_law_503 : decode cd_W_law 503 = .ok (.istore 5, 2) := by decide +kernel
theorem dd_W_law_505 : decode cd_W_law 505 = .ok (.aload_n 2, 1) := by decide +kernel
theorem dd_W_law_506 : decode cd_W_law 506 = .ok (.aload_n 0, 1) := by decide +kernel
theorem dd_W_law_507 : decode cd_W_law 507 = .ok (.iload 4, 2) := by decide +kernel
theorem dd_W_law_509 : decode cd_W_law 509 = .ok (.iconst 1, 1) := by decide +kernel
theorem dd_W_law_510 : decode cd_W_law 510 = .ok (.iadd, 1) := by decide +kernel
theorem dd_W_law_511 : decode cd_W_law 511 = .ok (.iaload, 1) := by decide +kernel
theorem dd_W_law_512 : decode cd_W_law 512 = .ok (.aload_n 0, 1) := by decide +kernel
theorem dd_W_law_513 : decode cd_W_law 513 = .ok (.iload 4, 2) := by decide +kernel
theorem dd_W_law_515 : decode cd_W_law 515 = .ok (.iconst 2, 1) := by decide +kernel
theorem dd_W_law_516 : decode cd_W_law 516 = .ok (.iadd, 1) := by decide +kernel
theorem dd_W_law_517 : decode cd_W_law 517 = .ok (.iaload, 1) := by decide +kernel
theorem dd_W_law_518 : decode cd_W_law 518 = .ok (.aload_n 0, 1) := by decide +kernel
theorem dd_W_law_519 : decode cd_W_law 519 = .ok (.iload 4, 2) := by decide +kernel
theorem dd_W_law_521 : decode cd_W_law 521 = .ok (.iconst 3, 1) := by decide +kernel
theorem dd_W_law_522 : decode cd_W_law 522 = .ok (.iadd, 1) := by decide +kernel
theorem dd_W_law_523 : decode cd_W_law 523 = .ok (.iaload, 1) := by decide +kernel
theorem dd_W_law_524 : decode cd_W_law 524 = .ok (.invokevirtual 101, 3) := by decide +kernel
theorem dd_W_law_527 : decode cd_W_law 527 = .ok (.istore 6, 2) := by decide +kernel
theorem dd_W_law_529 : decode cd_W_law 529 = .ok (.aload_n 2, 1) := by decide +kernel
theorem dd_W_law_530 : decode cd_W_law 530 = .ok (.invokevirtual 82, 3) := by decide +kernel
theorem dd_W_law_533 : decode cd_W_law 533 = .ok (.iload 5, 2) := by decide +kernel
theorem dd_W_law_535 : decode cd_W_law 535 = .ok (.if_icmp .eq 5, 3) := by decide +kernel
theorem dd_W_law_538 : decode cd_W_law 538 = .ok (.iconst 0, 1) := by decide +kernel
theorem dd_W_law_539 : decode cd_W_law 539 = .ok (.ireturn, 1) := by decide +kernel
theorem dd_W_law_540 : decode cd_W_law 540 = .ok (.iload 5, 2) := by decide +kernel
theorem dd_W_law_542 : decode cd_W_law 542 = .ok (.ifCond .ne 15, 3) := by decide +kernel
theorem dd_W_law_545 : decode cd_W_law 545 = .ok (.aload_n 3, 1) := by decide +kernel
theorem dd_W_law_546 : decode cd_W_law 546 = .ok (.iconst 0, 1) := by decide +kernel
theorem dd_W_law_547 : decode cd_W_law 547 = .ok (.laload, 1) := by decide +kernel
theorem dd_W_law_548 : decode cd_W_law 548 = .ok (.iload 6, 2) := by decide +kernel
theorem dd_W_law_550 : decode cd_W_law 550 = .ok (.i2l, 1) := by decide +kernel
theorem dd_W_law_551 : decode cd_W_law 551 = .ok (.lcmp, 1) := by decide +kernel
theorem dd_W_law_552 : decode cd_W_law 552 = .ok (.ifCond .eq 5, 3) := by decide +kernel
theorem dd_W_law_555 : decode cd_W_law 555 = .ok (.iconst 0, 1) := by decide +kernel
theorem dd_W_law_556 : decode cd_W_law 556 = .ok (.ireturn, 1) := by decide +kernel
theorem dd_W_law_557 : decode cd_W_law 557 = .ok (.goto 762, 3) := by decide +kernel
theorem dd_W_law_560 : decode cd_W_law 560 = .ok (.aload_n 1, 1) := by decide +kernel
theorem dd_W_law_561 : decode cd_W_law 561 = .ok (.aload_n 0, 1) := by decide +kernel
theorem dd_W_law_562 : decode cd_W_law 562 = .ok (.iload 4, 2) := by decide +kernel
theorem dd_W_law_564 : decode cd_W_law 564 = .ok (.iconst 1, 1) := by decide +kernel
theorem dd_W_law_565 : decode cd_W_law 565 = .ok (.iadd, 1) := by decide +kernel
theorem dd_W_law_566 : decode cd_W_law 566 = .ok (.iaload, 1) := by decide +kernel
theorem dd_W_law_567 : decode cd_W_law 567 = .ok (.aload_n 0, 1) := by decide +kernel
theorem dd_W_law_568 : decode cd_W_law 568 = .ok (.iload 4, 2) := by decide +kernel
theorem dd_W_law_570 : decode cd_W_law 570 = .ok (.iconst 2, 1) := by decide +kernel
theorem dd_W_law_571 : decode cd_W_law 571 = .ok (.iadd, 1) := by decide +kernel
theorem dd_W_law_572 : decode cd_W_law 572 = .ok (.iaload, 1) := by decide +kernel
theorem dd_W_law_573 : decode cd_W_law 573 = .ok (.aload_n 3, 1) := by decide +kernel
theorem dd_W_law_574 : decode cd_W_law 574 = .ok (.invokestatic 102, 3) := by decide +kernel
theorem dd_W_law_577 : decode cd_W_law 577 = .ok (.istore 5, 2) := by decide +kernel
theorem dd_W_law_579 : decode cd_W_law 579 = .ok (.aload_n 2, 1) := by decide +kernel
theorem dd_W_law_580 : decode cd_W_law 580 = .ok (.aload_n 0, 1) := by decide +kernel
theorem dd_W_law_581 : decode cd_W_law 581 = .ok (.iload 4, 2) := by decide +kernel
theorem dd_W_law_583 : decode cd_W_law 583 = .ok (.iconst 1, 1) := by decide +kernel
theorem dd_W_law_584 : decode cd_W_law 584 = .ok (.iadd, 1) := by decide +kernel
theorem dd_W_law_585 : decode cd_W_law 585 = .ok (.iaload, 1) := by decide +kernel
theorem dd_W_law_586 : decode cd_W_law 586 = .ok (.aload_n 0, 1) := by decide +kernel
theorem dd_W_law_587 : decode cd_W_law 587 = .ok (.iload 4, 2) := by decide +kernel
theorem dd_W_law_589 : decode cd_W_law 589 = .ok (.iconst 2, 1) := by decide +kernel
theorem dd_W_law_590 : decode cd_W_law 590 = .ok (.iadd, 1) := by decide +kernel
theorem dd_W_law_591 : decode cd_W_law 591 = .ok (.iaload, 1) := by decide +kernel
theorem dd_W_law_592 : decode cd_W_law 592 = .ok (.invokevirtual 104, 3) := by decide +kernel
theorem dd_W_law_595 : decode cd_W_law 595 = .ok (.istore 6, 2) := by decide +kernel
theorem dd_W_law_597 : decode cd_W_law 597 = .ok (.aload_n 2, 1) := by decide +kernel
theorem dd_W_law_598 : decode cd_W_law 598 = .ok (.invokevirtual 82, 3) := by decide +kernel
theorem dd_W_law_601 : decode cd_W_law 601 = .ok (.iload 5, 2) := by decide +kernel
theorem dd_W_law_603 : decode cd_W_law 603 = .ok (.if_icmp .eq 5, 3) := by decide +kernel
theorem dd_W_law_606 : decode cd_W_law 606 = .ok (.iconst 0, 1) := by decide +kernel
theorem dd_W_law_607 : decode cd_W_law 607 = .ok (.ireturn, 1) := by decide +kernel
theorem dd_W_law_608 : decode cd_W_law 608 = .ok (.iload 5, 2) := by decide +kernel
theorem dd_W_law_610 : decode cd_W_law 610 = .ok (.ifCond .ne 15, 3) := by decide +kernel
theorem dd_W_law_613 : decode cd_W_law 613 = .ok (.aload_n 3, 1) := by decide +kernel
theorem dd_W_law_614 : decode cd_W_law 614 = .ok (.iconst 0, 1) := by decide +kernel
theorem dd_W_law_615 : decode cd_W_law 615 = .ok (.laload, 1) := by decide +kernel
theorem dd_W_law_616 : decode cd_W_law 616 = .ok (.iload 6, 2) := by decide +kernel
theorem dd_W_law_618 : decode cd_W_law 618 = .ok (.i2l, 1) := by decide +kernel
theorem dd_W_law_619 : decode cd_W_law 619 = .ok (.lcmp, 1) := by decide +kernel
theorem dd_W_law_620 : decode cd_W_law 620 = .ok (.ifCond .eq 5, 3) := by decide +kernel
theorem dd_W_law_623 : decode cd_W_law 623 = .ok (.iconst 0, 1) := by decide +kernel
theorem dd_W_law_624 : decode cd_W_law 624 = .ok (.ireturn, 1) := by decide +kernel
theorem dd_W_law_625 : decode cd_W_law 625 = .ok (.goto 694, 3) := by decide +kernel
theorem dd_W_law_628 : decode cd_W_law 628 = .ok (.aload_n 1, 1) := by decide +kernel
theorem dd_W_law_629 : decode cd_W_law 629 = .ok (.aload_n 0, 1) := by decide +kernel
theorem dd_W_law_630 : decode cd_W_law 630 = .ok (.iload 4, 2) := by decide +kernel
theorem dd_W_law_632 : decode cd_W_law 632 = .ok (.iconst 1, 1) := by decide +kernel
theorem dd_W_law_633 : decode cd_W_law 633 = .ok (.iadd, 1) := by decide +kernel
theorem dd_W_law_634 : decode cd_W_law 634 = .ok (.iaload, 1) := by decide +kernel
theorem dd_W_law_635 : decode cd_W_law 635 = .ok (.aload_n 0, 1) := by decide +kernel
theorem dd_W_law_636 : decode cd_W_law 636 = .ok (.iload 4, 2) := by decide +kernel
theorem dd_W_law_638 : decode cd_W_law 638 = .ok (.iconst 2, 1) := by decide +kernel
theorem dd_W_law_639 : decode cd_W_law 639 = .ok (.iadd, 1) := by decide +kernel
theorem dd_W_law_640 : decode cd_W_law 640 = .ok (.iaload, 1) := by decide +kernel
theorem dd_W_law_641 : decode cd_W_law 641 = .ok (.aload_n 3, 1) := by decide +kernel
theorem dd_W_law_642 : decode cd_W_law 642 = .ok (.invokestatic 105, 3) := by decide +kernel
theorem dd_W_law_645 : decode cd_W_law 645 = .ok (.istore 5, 2) := by decide +kernel
theorem dd_W_law_647 : decode cd_W_law 647 = .ok (.aload_n 2, 1) := by decide +kernel
theorem dd_W_law_648 : decode cd_W_law 648 = .ok (.aload_n 0, 1) := by decide +kernel
theorem dd_W_law_649 : decode cd_W_law 649 = .ok (.iload 4, 2) := by decide +kernel
theorem dd_W_law_651 : decode cd_W_law 651 = .ok (.iconst 1, 1) := by decide +kernel
theorem dd_W_law_652 : decode cd_W_law 652 = .ok (.iadd, 1) := by decide +kernel
theorem dd_W_law_653 : decode cd_W_law 653 = .ok (.iaload, 1) := by decide +kernel
theorem dd_W_law_654 : decode cd_W_law 654 = .ok (.aload_n 0, 1) := by decide +kernel
theorem dd_W_law_655 : decode cd_W_law 655 = .ok (.iload 4, 2) := by decide +kernel
theorem dd_W_law_657 : decode cd_W_law 657 = .ok (.iconst 2, 1) := by decide +kernel
theorem dd_W_law_658 : decode cd_W_law 658 = .ok (.iadd, 1) := by decide +kernel
theorem dd_W_law_659 : decode cd_W_law 659 = .ok (.iaload, 1) := by decide +kernel
theorem dd_W_law_660 : decode cd_W_law 660 = .ok (.invokevirtual 107, 3) := by decide +kernel
theorem dd_W_law_663 : decode cd_W_law 663 = .ok (.istore 6, 2) := by decide +kernel
theorem dd_W_law_665 : decode cd_W_law 665 = .ok (.aload_n 2, 1) := by decide +kernel
theorem dd_W_law_666 : decode cd_W_law 666 = .ok (.invokevirtual 82, 3) := by decide +kernel
theorem dd_W_law_669 : decode cd_W_law 669 = .ok (.iload 5, 2) := by decide +kernel
theorem dd_W_law_671 : decode cd_W_law 671 = .ok (.if_icmp .eq 5, 3) := by decide +kernel
theorem dd_W_law_674 : decode cd_W_law 674 = .ok (.iconst 0, 1) := by decide +kernel
theorem dd_W_law_675 : decode cd_W_law 675 = .ok (.ireturn, 1) := by decide +kernel
theorem dd_W_law_676 : decode cd_W_law 676 = .ok (.iload 5, 2) := by decide +kernel
theorem dd_W_law_678 : decode cd_W_law 678 = .ok (.ifCond .ne 15, 3) := by decide +kernel
theorem dd_W_law_681 : decode cd_W_law 681 = .ok (.aload_n 3, 1) := by decide +kernel
theorem dd_W_law_682 : decode cd_W_law 682 = .ok (.iconst 0, 1) := by decide +kernel
theorem dd_W_law_683 : decode cd_W_law 683 = .ok (.laload, 1) := by decide +kernel
theorem dd_W_law_684 : decode cd_W_law 684 = .ok (.iload 6, 2) := by decide +kernel
theorem dd_W_law_686 : decode cd_W_law 686 = .ok (.i2l, 1) := by decide +kernel
theorem dd_W_law_687 : decode cd_W_law 687 = .ok (.lcmp, 1) := by decide +kernel
theorem dd_W_law_688 : decode cd_W_law 688 = .ok (.ifCond .eq 5, 3) := by decide +kernel
theorem dd_W_law_691 : decode cd_W_law 691 = .ok (.iconst 0, 1) := by decide +kernel
theorem dd_W_law_692 : decode cd_W_law 692 = .ok (.ireturn, 1) := by decide +kernel
theorem dd_W_law_693 : decode cd_W_law 693 = .ok (.goto 626, 3) := by decide +kernel
theorem dd_W_law_696 : decode cd_W_law 696 = .ok (.aload_n 1, 1) := by decide +kernel
theorem dd_W_law_697 : decode cd_W_law 697 = .ok (.aload_n 0, 1) := by decide +kernel
theorem dd_W_law_698 : decode cd_W_law 698 = .ok (.iload 4, 2) := by decide +kernel
theorem dd_W_law_700 : decode cd_W_law 700 = .ok (.iconst 1, 1) := by decide +kernel
theorem dd_W_law_701 : decode cd_W_law 701 = .ok (.iadd, 1) := by decide +kernel
theorem dd_W_law_702 : decode cd_W_law 702 = .ok (.iaload, 1) := by decide +kernel
theorem dd_W_law_703 : decode cd_W_law 703 = .ok (.aload_n 0, 1) := by decide +kernel
theorem dd_W_law_704 : decode cd_W_law 704 = .ok (.iload 4, 2) := by decide +kernel
theorem dd_W_law_706 : decode cd_W_law 706 = .ok (.iconst 2, 1) := by decide +kernel
theorem dd_W_law_707 : decode cd_W_law 707 = .ok (.iadd, 1) := by decide +kernel
theorem dd_W_law_708 : decode cd_W_law 708 = .ok (.iaload, 1) := by decide +kernel
theorem dd_W_law_709 : decode cd_W_law 709 = .ok (.aload_n 0, 1) := by decide +kernel
theorem dd_W_law_710 : decode cd_W_law 710 = .ok (.iload 4, 2) := by decide +kernel
theorem dd_W_law_712 : decode cd_W_law 712 = .ok (.iconst 3, 1) := by decide +kernel
theorem dd_W_law_713 : decode cd_W_law 713 = .ok (.iadd, 1) := by decide +kernel
theorem dd_W_law_714 : decode cd_W_law 714 = .ok (.iaload, 1) := by decide +kernel
theorem dd_W_law_715 : decode cd_W_law 715 = .ok (.aload_n 0, 1) := by decide +kernel
theorem dd_W_law_716 : decode cd_W_law 716 = .ok (.iload 4, 2) := by decide +kernel
theorem dd_W_law_718 : decode cd_W_law 718 = .ok (.iconst 4, 1) := by decide +kernel
theorem dd_W_law_719 : decode cd_W_law 719 = .ok (.iadd, 1) := by decide +kernel
theorem dd_W_law_720 : decode cd_W_law 720 = .ok (.iaload, 1) := by decide +kernel
theorem dd_W_law_721 : decode cd_W_law 721 = .ok (.ifCond .eq 7, 3) := by decide +kernel
theorem dd_W_law_724 : decode cd_W_law 724 = .ok (.iconst 1, 1) := by decide +kernel
theorem dd_W_law_725 : decode cd_W_law 725 = .ok (.goto 4, 3) := by decide +kernel
theorem dd_W_law_728 : decode cd_W_law 728 = .ok (.iconst 0, 1) := by decide +kernel
theorem dd_W_law_729 : decode cd_W_law 729 = .ok (.aload_n 3, 1) := by decide +kernel
theorem dd_W_law_730 : decode cd_W_law 730 = .ok (.invokestatic 108, 3) := by decide +kernel
theorem dd_W_law_733 : decode cd_W_law 733 = .ok (.istore 5, 2) := by decide +kernel
theorem dd_W_law_735 : decode cd_W_law 735 = .ok (.aload_n 2, 1) := by decide +kernel
theorem dd_W_law_736 : decode cd_W_law 736 = .ok (.aload_n 0, 1) := by decide +kernel
theorem dd_W_law_737 : decode cd_W_law 737 = .ok (.iload 4, 2) := by decide +kernel
theorem dd_W_law_739 : decode cd_W_law 739 = .ok (.iconst 1, 1) := by decide +kernel
theorem dd_W_law_740 : decode cd_W_law 740 = .ok (.iadd, 1) := by decide +kernel
theorem dd_W_law_741 : decode cd_W_law 741 = .ok (.iaload, 1) := by decide +kernel
theorem dd_W_law_742 : decode cd_W_law 742 = .ok (.aload_n 0, 1) := by decide +kernel
theorem dd_W_law_743 : decode cd_W_law 743 = .ok (.iload 4, 2) := by decide +kernel
theorem dd_W_law_745 : decode cd_W_law 745 = .ok (.iconst 2, 1) := by decide +kernel
theorem dd_W_law_746 : decode cd_W_law 746 = .ok (.iadd, 1) := by decide +kernel
theorem dd_W_law_747 : decode cd_W_law 747 = .ok (.iaload, 1) := by decide +kernel
theorem dd_W_law_748 : decode cd_W_law 748 = .ok (.aload_n 0, 1) := by decide +kernel
theorem dd_W_law_749 : decode cd_W_law 749 = .ok (.iload 4, 2) := by decide +kernel
theorem dd_W_law_751 : decode cd_W_law 751 = .ok (.iconst 3, 1) := by decide +kernel
theorem dd_W_law_752 : decode cd_W_law 752 = .ok (.iadd, 1) := by decide +kernel
theorem dd_W_law_753 : decode cd_W_law 753 = .ok (.iaload, 1) := by decide +kernel
theorem dd_W_law_754 : decode cd_W_law 754 = .ok (.aload_n 0, 1) := by decide +kernel
theorem dd_W_law_755 : decode cd_W_law 755 = .ok (.iload 4, 2) := by decide +kernel
theorem dd_W_law_757 : decode cd_W_law 757 = .ok (.iconst 4, 1) := by decide +kernel
theorem dd_W_law_758 : decode cd_W_law 758 = .ok (.iadd, 1) := by decide +kernel
theorem dd_W_law_759 : decode cd_W_law 759 = .ok (.iaload, 1) := by decide +kernel
theorem dd_W_law_760 : decode cd_W_law 760 = .ok (.ifCond .eq 7, 3) := by decide +kernel
theorem dd_W_law_763 : decode cd_W_law 763 = .ok (.iconst 1, 1) := by decide +kernel
theorem dd_W_law_764 : decode cd_W_law 764 = .ok (.goto 4, 3) := by decide +kernel
theorem dd_W_law_767 : decode cd_W_law 767 = .ok (.iconst 0, 1) := by decide +kernel
theorem dd_W_law_768 : decode cd_W_law 768 = .ok (.invokevirtual 111, 3) := by decide +kernel
theorem dd_W_law_771 : decode cd_W_law 771 = .ok (.istore 6, 2) := by decide +kernel
theorem dd_W_law_773 : decode cd_W_law 773 = .ok (.aload_n 2, 1) := by decide +kernel
theorem dd_W_law_774 : decode cd_W_law 774 = .ok (.invokevirtual 82, 3) := by decide +kernel
theorem dd_W_law_777 : decode cd_W_law 777 = .ok (.iload 5, 2) := by decide +kernel
theorem dd_W_law_779 : decode cd_W_law 779 = .ok (.if_icmp .eq 5, 3) := by decide +kernel
theorem dd_W_law_782 : decode cd_W_law 782 = .ok (.iconst 0, 1) := by decide +kernel
theorem dd_W_law_783 : decode cd_W_law 783 = .ok (.ireturn, 1) := by decide +kernel
theorem dd_W_law_784 : decode cd_W_law 784 = .ok (.iload 5, 2) := by decide +kernel
theorem dd_W_law_786 : decode cd_W_law 786 = .ok (.ifCond .ne 15, 3) := by decide +kernel
theorem dd_W_law_789 : decode cd_W_law 789 = .ok (.aload_n 3, 1) := by decide +kernel
theorem dd_W_law_790 : decode cd_W_law 790 = .ok (.iconst 0, 1) := by decide +kernel
theorem dd_W_law_791 : decode cd_W_law 791 = .ok (.laload, 1) := by decide +kernel
theorem dd_W_law_792 : decode cd_W_law 792 = .ok (.iload 6, 2) := by decide +kernel
theorem dd_W_law_794 : decode cd_W_law 794 = .ok (.i2l, 1) := by decide +kernel
theorem dd_W_law_795 : decode cd_W_law 795 = .ok (.lcmp, 1) := by decide +kernel
theorem dd_W_law_796 : decode cd_W_law 796 = .ok (.ifCond .eq 5, 3) := by decide +kernel
theorem dd_W_law_799 : decode cd_W_law 799 = .ok (.iconst 0, 1) := by decide +kernel
theorem dd_W_law_800 : decode cd_W_law 800 = .ok (.ireturn, 1) := by decide +kernel
theorem dd_W_law_801 : decode cd_W_law 801 = .ok (.goto 518, 3) := by decide +kernel
theorem dd_W_law_804 : decode cd_W_law 804 = .ok (.aload_n 1, 1) := by decide +kernel
theorem dd_W_law_805 : decode cd_W_law 805 = .ok (.aload_n 0, 1) := by decide +kernel
theorem dd_W_law_806 : decode cd_W_law 806 = .ok (.iload 4, 2) := by decide +kernel
theorem dd_W_law_808 : decode cd_W_law 808 = .ok (.iconst 1, 1) := by decide +kernel
theorem dd_W_law_809 : decode cd_W_law 809 = .ok (.iadd, 1) := by decide +kernel
theorem dd_W_law_810 : decode cd_W_law 810 = .ok (.iaload, 1) := by decide +kernel
theorem dd_W_law_811 : decode cd_W_law 811 = .ok (.aload_n 3, 1) := by decide +kernel
theorem dd_W_law_812 : decode cd_W_law 812 = .ok (.invokestatic 112, 3) := by decide +kernel
theorem dd_W_law_815 : decode cd_W_law 815 = .ok (.istore 5, 2) := by decide +kernel
theorem dd_W_law_817 : decode cd_W_law 817 = .ok (.aload_n 2, 1) := by decide +kernel
theorem dd_W_law_818 : decode cd_W_law 818 = .ok (.aload_n 0, 1) := by decide +kernel
theorem dd_W_law_819 : decode cd_W_law 819 = .ok (.iload 4, 2) := by decide +kernel
theorem dd_W_law_821 : decode cd_W_law 821 = .ok (.iconst 1, 1) := by decide +kernel
theorem dd_W_law_822 : decode cd_W_law 822 = .ok (.iadd, 1) := by decide +kernel
theorem dd_W_law_823 : decode cd_W_law 823 = .ok (.iaload, 1) := by decide +kernel
theorem dd_W_law_824 : decode cd_W_law 824 = .ok (.invokevirtual 115, 3) := by decide +kernel
theorem dd_W_law_827 : decode cd_W_law 827 = .ok (.istore 6, 2) := by decide +kernel
theorem dd_W_law_829 : decode cd_W_law 829 = .ok (.aload_n 2, 1) := by decide +kernel
theorem dd_W_law_830 : decode cd_W_law 830 = .ok (.invokevirtual 82, 3) := by decide +kernel
theorem dd_W_law_833 : decode cd_W_law 833 = .ok (.iload 5, 2) := by decide +kernel
theorem dd_W_law_835 : decode cd_W_law 835 = .ok (.if_icmp .eq 5, 3) := by decide +kernel
theorem dd_W_law_838 : decode cd_W_law 838 = .ok (.iconst 0, 1) := by decide +kernel
theorem dd_W_law_839 : decode cd_W_law 839 = .ok (.ireturn, 1) := by decide +kernel
theorem dd_W_law_840 : decode cd_W_law 840 = .ok (.iload 5, 2) := by decide +kernel
theorem dd_W_law_842 : decode cd_W_law 842 = .ok (.ifCond .ne 15, 3) := by decide +kernel
theorem dd_W_law_845 : decode cd_W_law 845 = .ok (.aload_n 3, 1) := by decide +kernel
theorem dd_W_law_846 : decode cd_W_law 846 = .ok (.iconst 0, 1) := by decide +kernel
theorem dd_W_law_847 : decode cd_W_law 847 = .ok (.laload, 1) := by decide +kernel
theorem dd_W_law_848 : decode cd_W_law 848 = .ok (.iload 6, 2) := by decide +kernel
theorem dd_W_law_850 : decode cd_W_law 850 = .ok (.i2l, 1) := by decide +kernel
theorem dd_W_law_851 : decode cd_W_law 851 = .ok (.lcmp, 1) := by decide +kernel
theorem dd_W_law_852 : decode cd_W_law 852 = .ok (.ifCond .eq 5, 3) := by decide +kernel
theorem dd_W_law_855 : decode cd_W_law 855 = .ok (.iconst 0, 1) := by decide +kernel
theorem dd_W_law_856 : decode cd_W_law 856 = .ok (.ireturn, 1) := by decide +kernel
theorem dd_W_law_857 : decode cd_W_law 857 = .ok (.goto 462, 3) := by decide +kernel
theorem dd_W_law_860 : decode cd_W_law 860 = .ok (.aload_n 1, 1) := by decide +kernel
theorem dd_W_law_861 : decode cd_W_law 861 = .ok (.aload_n 0, 1) := by decide +kernel
theorem dd_W_law_862 : decode cd_W_law 862 = .ok (.iload 4, 2) := by decide +kernel
theorem dd_W_law_864 : decode cd_W_law 864 = .ok (.iconst 1, 1) := by decide +kernel
theorem dd_W_law_865 : decode cd_W_law 865 = .ok (.iadd, 1) := by decide +kernel
theorem dd_W_law_866 : decode cd_W_law 866 = .ok (.iaload, 1) := by decide +kernel
theorem dd_W_law_867 : decode cd_W_law 867 = .ok (.aload_n 0, 1) := by decide +kernel
theorem dd_W_law_868 : decode cd_W_law 868 = .ok (.iload 4, 2) := by decide +kernel
theorem dd_W_law_870 : decode cd_W_law 870 = .ok (.iconst 2, 1) := by decide +kernel
theorem dd_W_law_871 : decode cd_W_law 871 = .ok (.iadd, 1) := by decide +kernel
theorem dd_W_law_872 : decode cd_W_law 872 = .ok (.iaload, 1) := by decide +kernel
theorem dd_W_law_873 : decode cd_W_law 873 = .ok (.aload_n 3, 1) := by decide +kernel
theorem dd_W_law_874 : decode cd_W_law 874 = .ok (.invokestatic 116, 3) := by decide +kernel
theorem dd_W_law_877 : decode cd_W_law 877 = .ok (.istore 5, 2) := by decide +kernel
theorem dd_W_law_879 : decode cd_W_law 879 = .ok (.aload_n 2, 1) := by decide +kernel
theorem dd_W_law_880 : decode cd_W_law 880 = .ok (.aload_n 0, 1) := by decide +kernel
theorem dd_W_law_881 : decode cd_W_law 881 = .ok (.iload 4, 2) := by decide +kernel
theorem dd_W_law_883 : decode cd_W_law 883 = .ok (.iconst 1, 1) := by decide +kernel
theorem dd_W_law_884 : decode cd_W_law 884 = .ok (.iadd, 1) := by decide +kernel
theorem dd_W_law_885 : decode cd_W_law 885 = .ok (.iaload, 1) := by decide +kernel
theorem dd_W_law_886 : decode cd_W_law 886 = .ok (.aload_n 0, 1) := by decide +kernel
theorem dd_W_law_887 : decode cd_W_law 887 = .ok (.iload 4, 2) := by decide +kernel
theorem dd_W_law_889 : decode cd_W_law 889 = .ok (.iconst 2, 1) := by decide +kernel
theorem dd_W_law_890 : decode cd_W_law 890 = .ok (.iadd, 1) := by decide +kernel
theorem dd_W_law_891 : decode cd_W_law 891 = .ok (.iaload, 1) := by decide +kernel
theorem dd_W_law_892 : decode cd_W_law 892 = .ok (.invokevirtual 118, 3) := by decide +kernel
theorem dd_W_law_895 : decode cd_W_law 895 = .ok (.istore 6, 2) := by decide +kernel
theorem dd_W_law_897 : decode cd_W_law 897 = .ok (.aload_n 2, 1) := by decide +kernel
theorem dd_W_law_898 : decode cd_W_law 898 = .ok (.invokevirtual 82, 3) := by decide +kernel
theorem dd_W_law_901 : decode cd_W_law 901 = .ok (.iload 5, 2) := by decide +kernel
theorem dd_W_law_903 : decode cd_W_law 903 = .ok (.if_icmp .eq 5, 3) := by decide +kernel
theorem dd_W_law_906 : decode cd_W_law 906 = .ok (.iconst 0, 1) := by decide +kernel
theorem dd_W_law_907 : decode cd_W_law 907 = .ok (.ireturn, 1) := by decide +kernel
theorem dd_W_law_908 : decode cd_W_law 908 = .ok (.iload 5, 2) := by decide +kernel
theorem dd_W_law_910 : decode cd_W_law 910 = .ok (.ifCond .ne 15, 3) := by decide +kernel
theorem dd_W_law_913 : decode cd_W_law 913 = .ok (.aload_n 3, 1) := by decide +kernel
theorem dd_W_law_914 : decode cd_W_law 914 = .ok (.iconst 0, 1) := by decide +kernel
theorem dd_W_law_915 : decode cd_W_law 915 = .ok (.laload, 1) := by decide +kernel
theorem dd_W_law_916 : decode cd_W_law 916 = .ok (.iload 6, 2) := by decide +kernel
theorem dd_W_law_918 : decode cd_W_law 918 = .ok (.i2l, 1) := by decide +kernel
theorem dd_W_law_919 : decode cd_W_law 919 = .ok (.lcmp, 1) := by decide +kernel
theorem dd_W_law_920 : decode cd_W_law 920 = .ok (.ifCond .eq 5, 3) := by decide +kernel
theorem dd_W_law_923 : decode cd_W_law 923 = .ok (.iconst 0, 1) := by decide +kernel
theorem dd_W_law_924 : decode cd_W_law 924 = .ok (.ireturn, 1) := by decide +kernel
theorem dd_W_law_925 : decode cd_W_law 925 = .ok (.goto 394, 3) := by decide +kernel
theorem dd_W_law_928 : decode cd_W_law 928 = .ok (.aload_n 1, 1) := by decide +kernel
theorem dd_W_law_929 : decode cd_W_law 929 = .ok (.aload_n 0, 1) := by decide +kernel
theorem dd_W_law_930 : decode cd_W_law 930 = .ok (.iload 4, 2) := by decide +kernel
theorem dd_W_law_932 : decode cd_W_law 932 = .ok (.iconst 1, 1) := by decide +kernel
theorem dd_W_law_933 : decode cd_W_law 933 = .ok (.iadd, 1) := by decide +kernel
theorem dd_W_law_934 : decode cd_W_law 934 = .ok (.iaload, 1) := by decide +kernel
theorem dd_W_law_935 : decode cd_W_law 935 = .ok (.aload_n 0, 1) := by decide +kernel
theorem dd_W_law_936 : decode cd_W_law 936 = .ok (.iload 4, 2) := by decide +kernel
theorem dd_W_law_938 : decode cd_W_law 938 = .ok (.iconst 2, 1) := by decide +kernel
theorem dd_W_law_939 : decode cd_W_law 939 = .ok (.iadd, 1) := by decide +kernel
theorem dd_W_law_940 : decode cd_W_law 940 = .ok (.iaload, 1) := by decide +kernel
theorem dd_W_law_941 : decode cd_W_law 941 = .ok (.aload_n 3, 1) := by decide +kernel
theorem dd_W_law_942 : decode cd_W_law 942 = .ok (.invokestatic 119, 3) := by decide +kernel
theorem dd_W_law_945 : decode cd_W_law 945 = .ok (.istore 5, 2) := by decide +kernel
theorem dd_W_law_947 : decode cd_W_law 947 = .ok (.aload_n 2, 1) := by decide +kernel
theorem dd_W_law_948 : decode cd_W_law 948 = .ok (.aload_n 0, 1) := by decide +kernel
theorem dd_W_law_949 : decode cd_W_law 949 = .ok (.iload 4, 2) := by decide +kernel
theorem dd_W_law_951 : decode cd_W_law 951 = .ok (.iconst 1, 1) := by decide +kernel
theorem dd_W_law_952 : decode cd_W_law 952 = .ok (.iadd, 1) := by decide +kernel
theorem dd_W_law_953 : decode cd_W_law 953 = .ok (.iaload, 1) := by decide +kernel
theorem dd_W_law_954 : decode cd_W_law 954 = .ok (.aload_n 0, 1) := by decide +kernel
theorem dd_W_law_955 : decode cd_W_law 955 = .ok (.iload 4, 2) := by decide +kernel
theorem dd_W_law_957 : decode cd_W_law 957 = .ok (.iconst 2, 1) := by decide +kernel
theorem dd_W_law_958 : decode cd_W_law 958 = .ok (.iadd, 1) := by decide +kernel
theorem dd_W_law_959 : decode cd_W_law 959 = .ok (.iaload, 1) := by decide +kernel
theorem dd_W_law_960 : decode cd_W_law 960 = .ok (.invokevirtual 121, 3) := by decide +kernel
theorem dd_W_law_963 : decode cd_W_law 963 = .ok (.istore 6, 2) := by decide +kernel
theorem dd_W_law_965 : decode cd_W_law 965 = .ok (.aload_n 2, 1) := by decide +kernel
theorem dd_W_law_966 : decode cd_W_law 966 = .ok (.invokevirtual 82, 3) := by decide +kernel
theorem dd_W_law_969 : decode cd_W_law 969 = .ok (.iload 5, 2) := by decide +kernel
theorem dd_W_law_971 : decode cd_W_law 971 = .ok (.if_icmp .eq 5, 3) := by decide +kernel
theorem dd_W_law_974 : decode cd_W_law 974 = .ok (.iconst 0, 1) := by decide +kernel
theorem dd_W_law_975 : decode cd_W_law 975 = .ok (.ireturn, 1) := by decide +kernel
theorem dd_W_law_976 : decode cd_W_law 976 = .ok (.iload 5, 2) := by decide +kernel
theorem dd_W_law_978 : decode cd_W_law 978 = .ok (.ifCond .ne 15, 3) := by decide +kernel
theorem dd_W_law_981 : decode cd_W_law 981 = .ok (.aload_n 3, 1) := by decide +kernel
theorem dd_W_law_982 : decode cd_W_law 982 = .ok (.iconst 0, 1) := by decide +kernel
theorem dd_W_law_983 : decode cd_W_law 983 = .ok (.laload, 1) := by decide +kernel
theorem dd_W_law_984 : decode cd_W_law 984 = .ok (.iload 6, 2) := by decide +kernel
theorem dd_W_law_986 : decode cd_W_law 986 = .ok (.i2l, 1) := by decide +kernel
theorem dd_W_law_987 : decode cd_W_law 987 = .ok (.lcmp, 1) := by decide +kernel
theorem dd_W_law_988 : decode cd_W_law 988 = .ok (.ifCond .eq 5, 3) := by decide +kernel
theorem dd_W_law_991 : decode cd_W_law 991 = .ok (.iconst 0, 1) := by decide +kernel
theorem dd_W_law_992 : decode cd_W_law 992 = .ok (.ireturn, 1) := by decide +kernel
theorem dd_W_law_993 : decode cd_W_law 993 = .ok (.goto 326, 3) := by decide +kernel
theorem dd_W_law_996 : decode cd_W_law 996 = .ok (.aload_n 1, 1) := by decide +kernel
theorem dd_W_law_997 : decode cd_W_law 997 = .ok (.aload_n 0, 1) := by decide +kernel
theorem dd_W_law_998 : decode cd_W_law 998 = .ok (.iload 4, 2) := by decide +kernel
theorem dd_W_law_1000 : decode cd_W_law 1000 = .ok (.iconst 1, 1) := by decide +kernel
theorem dd_W_law_1001 : decode cd_W_law 1001 = .ok (.iadd, 1) := by decide +kernel
theorem dd_W_law_1002 : decode cd_W_law 1002 = .ok (.iaload, 1) := by decide +kernel
theorem dd_W_law_1003 : decode cd_W_law 1003 = .ok (.aload_n 3, 1) := by decide +kernel
theorem dd_W_law_1004 : decode cd_W_law 1004 = .ok (.invokestatic 122, 3) := by decide +kernel
theorem dd_W_law_1007 : decode cd_W_law 1007 = .ok (.istore 5, 2) := by decide +kernel
theorem dd_W_law_1009 : decode cd_W_law 1009 = .ok (.aload_n 2, 1) := by decide +kernel
theorem dd_W_law_1010 : decode cd_W_law 1010 = .ok (.aload_n 0, 1) := by decide +kernel
theorem dd_W_law_1011 : decode cd_W_law 1011 = .ok (.iload 4, 2) := by decide +kernel
theorem dd_W_law_1013 : decode cd_W_law 1013 = .ok (.iconst 1, 1) := by decide +kernel
theorem dd_W_law_1014 : decode cd_W_law 1014 = .ok (.iadd, 1) := by decide +kernel
theorem dd_W_law_1015 : decode cd_W_law 1015 = .ok (.iaload, 1) := by decide +kernel
theorem dd_W_law_1016 : decode cd_W_law 1016 = .ok (.invokevirtual 124, 3) := by decide +kernel
theorem dd_W_law_1019 : decode cd_W_law 1019 = .ok (.istore 6, 2) := by decide +kernel
theorem dd_W_law_1021 : decode cd_W_law 1021 = .ok (.aload_n 2, 1) := by decide +kernel
theorem dd_W_law_1022 : decode cd_W_law 1022 = .ok (.invokevirtual 82, 3) := by decide +kernel
theorem dd_W_law_1025 : decode cd_W_law 1025 = .ok (.iload 5, 2) := by decide +kernel
theorem dd_W_law_1027 : decode cd_W_law 1027 = .ok (.if_icmp .eq 5, 3) := by decide +kernel
theorem dd_W_law_1030 : decode cd_W_law 1030 = .ok (.iconst 0, 1) := by decide +kernel
theorem dd_W_law_1031 : decode cd_W_law 1031 = .ok (.ireturn, 1) := by decide +kernel
theorem dd_W_law_1032 : decode cd_W_law 1032 = .ok (.iload 5, 2) := by decide +kernel
theorem dd_W_law_1034 : decode cd_W_law 1034 = .ok (.ifCond .ne 15, 3) := by decide +kernel
theorem dd_W_law_1037 : decode cd_W_law 1037 = .ok (.aload_n 3, 1) := by decide +kernel
theorem dd_W_law_1038 : decode cd_W_law 1038 = .ok (.iconst 0, 1) := by decide +kernel
theorem dd_W_law_1039 : decode cd_W_law 1039 = .ok (.laload, 1) := by decide +kernel
theorem dd_W_law_1040 : decode cd_W_law 1040 = .ok (.iload 6, 2) := by decide +kernel
theorem dd_W_law_1042 : decode cd_W_law 1042 = .ok (.i2l, 1) := by decide +kernel
theorem dd_W_law_1043 : decode cd_W_law 1043 = .ok (.lcmp, 1) := by decide +kernel
theorem dd_W_law_1044 : decode cd_W_law 1044 = .ok (.ifCond .eq 5, 3) := by decide +kernel
theorem dd_W_law_1047 : decode cd_W_law 1047 = .ok (.iconst 0, 1) := by decide +kernel
theorem dd_W_law_1048 : decode cd_W_law 1048 = .ok (.ireturn, 1) := by decide +kernel
theorem dd_W_law_1049 : decode cd_W_law 1049 = .ok (.goto 270, 3) := by decide +kernel
theorem dd_W_law_1052 : decode cd_W_law 1052 = .ok (.aload_n 1, 1) := by decide +kernel
theorem dd_W_law_1053 : decode cd_W_law 1053 = .ok (.aload_n 0, 1) := by decide +kernel
theorem dd_W_law_1054 : decode cd_W_law 1054 = .ok (.iload 4, 2) := by decide +kernel
theorem dd_W_law_1056 : decode cd_W_law 1056 = .ok (.iconst 1, 1) := by decide +kernel
theorem dd_W_law_1057 : decode cd_W_law 1057 = .ok (.iadd, 1) := by decide +kernel
theorem dd_W_law_1058 : decode cd_W_law 1058 = .ok (.iaload, 1) := by decide +kernel
theorem dd_W_law_1059 : decode cd_W_law 1059 = .ok (.aload_n 3, 1) := by decide +kernel
theorem dd_W_law_1060 : decode cd_W_law 1060 = .ok (.invokestatic 125, 3) := by decide +kernel
theorem dd_W_law_1063 : decode cd_W_law 1063 = .ok (.istore 5, 2) := by decide +kernel
theorem dd_W_law_1065 : decode cd_W_law 1065 = .ok (.aload_n 2, 1) := by decide +kernel
theorem dd_W_law_1066 : decode cd_W_law 1066 = .ok (.aload_n 0, 1) := by decide +kernel
theorem dd_W_law_1067 : decode cd_W_law 1067 = .ok (.iload 4, 2) := by decide +kernel
theorem dd_W_law_1069 : decode cd_W_law 1069 = .ok (.iconst 1, 1) := by decide +kernel
theorem dd_W_law_1070 : decode cd_W_law 1070 = .ok (.iadd, 1) := by decide +kernel
theorem dd_W_law_1071 : decode cd_W_law 1071 = .ok (.iaload, 1) := by decide +kernel
theorem dd_W_law_1072 : decode cd_W_law 1072 = .ok (.invokevirtual 127, 3) := by decide +kernel
theorem dd_W_law_1075 : decode cd_W_law 1075 = .ok (.istore 6, 2) := by decide +kernel
theorem dd_W_law_1077 : decode cd_W_law 1077 = .ok (.aload_n 2, 1) := by decide +kernel
theorem dd_W_law_1078 : decode cd_W_law 1078 = .ok (.invokevirtual 82, 3) := by decide +kernel
theorem dd_W_law_1081 : decode cd_W_law 1081 = .ok (.iload 5, 2) := by decide +kernel
theorem dd_W_law_1083 : decode cd_W_law 1083 = .ok (.if_icmp .eq 5, 3) := by decide +kernel
theorem dd_W_law_1086 : decode cd_W_law 1086 = .ok (.iconst 0, 1) := by decide +kernel
theorem dd_W_law_1087 : decode cd_W_law 1087 = .ok (.ireturn, 1) := by decide +kernel
theorem dd_W_law_1088 : decode cd_W_law 1088 = .ok (.iload 5, 2) := by decide +kernel
theorem dd_W_law_1090 : decode cd_W_law 1090 = .ok (.ifCond .ne 15, 3) := by decide +kernel
theorem dd_W_law_1093 : decode cd_W_law 1093 = .ok (.aload_n 3, 1) := by decide +kernel
theorem dd_W_law_1094 : decode cd_W_law 1094 = .ok (.iconst 0, 1) := by decide +kernel
theorem dd_W_law_1095 : decode cd_W_law 1095 = .ok (.laload, 1) := by decide +kernel
theorem dd_W_law_1096 : decode cd_W_law 1096 = .ok (.iload 6, 2) := by decide +kernel
theorem dd_W_law_1098 : decode cd_W_law 1098 = .ok (.i2l, 1) := by decide +kernel
theorem dd_W_law_1099 : decode cd_W_law 1099 = .ok (.lcmp, 1) := by decide +kernel
theorem dd_W_law_1100 : decode cd_W_law 1100 = .ok (.ifCond .eq 5, 3) := by decide +kernel
theorem dd_W_law_1103 : decode cd_W_law 1103 = .ok (.iconst 0, 1) := by decide +kernel
theorem dd_W_law_1104 : decode cd_W_law 1104 = .ok (.ireturn, 1) := by decide +kernel
theorem dd_W_law_1105 : decode cd_W_law 1105 = .ok (.goto 214, 3) := by decide +kernel
theorem dd_W_law_1108 : decode cd_W_law 1108 = .ok (.aload_n 1, 1) := by decide +kernel
theorem dd_W_law_1109 : decode cd_W_law 1109 = .ok (.invokevirtual 128, 3) := by decide +kernel
theorem dd_W_law_1112 : decode cd_W_law 1112 = .ok (.aload_n 2, 1) := by decide +kernel
theorem dd_W_law_1113 : decode cd_W_law 1113 = .ok (.invokevirtual 131, 3) := by decide +kernel
theorem dd_W_law_1116 : decode cd_W_law 1116 = .ok (.if_icmp .eq 203, 3) := by decide +kernel
theorem dd_W_law_1119 : decode cd_W_law 1119 = .ok (.iconst 0, 1) := by decide +kernel
theorem dd_W_law_1120 : decode cd_W_law 1120 = .ok (.ireturn, 1) := by decide +kernel
theorem dd_W_law_1121 : decode cd_W_law 1121 = .ok (.aload_n 1, 1) := by decide +kernel
theorem dd_W_law_1122 : decode cd_W_law 1122 = .ok (.aload_n 0, 1) := by decide +kernel
theorem dd_W_law_1123 : decode cd_W_law 1123 = .ok (.iload 4, 2) := by decide +kernel
theorem dd_W_law_1125 : decode cd_W_law 1125 = .ok (.iconst 1, 1) := by decide +kernel
theorem dd_W_law_1126 : decode cd_W_law 1126 = .ok (.iadd, 1) := by decide +kernel
theorem dd_W_law_1127 : decode cd_W_law 1127 = .ok (.iaload, 1) := by decide +kernel
theorem dd_W_law_1128 : decode cd_W_law 1128 = .ok (.aload_n 3, 1) := by decide +kernel
theorem dd_W_law_1129 : decode cd_W_law 1129 = .ok (.invokestatic 132, 3) := by decide +kernel
theorem dd_W_law_1132 : decode cd_W_law 1132 = .ok (.istore 5, 2) := by decide +kernel
theorem dd_W_law_1134 : decode cd_W_law 1134 = .ok (.aload_n 2, 1) := by decide +kernel
theorem dd_W_law_1135 : decode cd_W_law 1135 = .ok (.aload_n 0, 1) := by decide +kernel
theorem dd_W_law_1136 : decode cd_W_law 1136 = .ok (.iload 4, 2) := by decide +kernel
theorem dd_W_law_1138 : decode cd_W_law 1138 = .ok (.iconst 1, 1) := by decide +kernel
theorem dd_W_law_1139 : decode cd_W_law 1139 = .ok (.iadd, 1) := by decide +kernel
theorem dd_W_law_1140 : decode cd_W_law 1140 = .ok (.iaload, 1) := by decide +kernel
theorem dd_W_law_1141 : decode cd_W_law 1141 = .ok (.invokevirtual 134, 3) := by decide +kernel
theorem dd_W_law_1144 : decode cd_W_law 1144 = .ok (.lstore 6, 2) := by decide +kernel
theorem dd_W_law_1146 : decode cd_W_law 1146 = .ok (.aload_n 2, 1) := by decide +kernel
theorem dd_W_law_1147 : decode cd_W_law 1147 = .ok (.invokevirtual 82, 3) := by decide +kernel
theorem dd_W_law_1150 : decode cd_W_law 1150 = .ok (.iload 5, 2) := by decide +kernel
theorem dd_W_law_1152 : decode cd_W_law 1152 = .ok (.if_icmp .eq 5, 3) := by decide +kernel
theorem dd_W_law_1155 : decode cd_W_law 1155 = .ok (.iconst 0, 1) := by decide +kernel
theorem dd_W_law_1156 : decode cd_W_law 1156 = .ok (.ireturn, 1) := by decide +kernel
theorem dd_W_law_1157 : decode cd_W_law 1157 = .ok (.iload 5, 2) := by decide +kernel
theorem dd_W_law_1159 : decode cd_W_law 1159 = .ok (.ifCond .ne 14, 3) := by decide +kernel
theorem dd_W_law_1162 : decode cd_W_law 1162 = .ok (.aload_n 3, 1) := by decide +kernel
theorem dd_W_law_1163 : decode cd_W_law 1163 = .ok (.iconst 0, 1) := by decide +kernel
theorem dd_W_law_1164 : decode cd_W_law 1164 = .ok (.laload, 1) := by decide +kernel
theorem dd_W_law_1165 : decode cd_W_law 1165 = .ok (.lload 6, 2) := by decide +kernel
theorem dd_W_law_1167 : decode cd_W_law 1167 = .ok (.lcmp, 1) := by decide +kernel
theorem dd_W_law_1168 : decode cd_W_law 1168 = .ok (.ifCond .eq 5, 3) := by decide +kernel
theorem dd_W_law_1171 : decode cd_W_law 1171 = .ok (.iconst 0, 1) := by decide +kernel
theorem dd_W_law_1172 : decode cd_W_law 1172 = .ok (.ireturn, 1) := by decide +kernel
theorem dd_W_law_1173 : decode cd_W_law 1173 = .ok (.goto 146, 3) := by decide +kernel
theorem dd_W_law_1176 : decode cd_W_law 1176 = .ok (.aload_n 1, 1) := by decide +kernel
theorem dd_W_law_1177 : decode cd_W_law 1177 = .ok (.aload_n 0, 1) := by decide +kernel
theorem dd_W_law_1178 : decode cd_W_law 1178 = .ok (.iload 4, 2) := by decide +kernel
theorem dd_W_law_1180 : decode cd_W_law 1180 = .ok (.iconst 1, 1) := by decide +kernel
theorem dd_W_law_1181 : decode cd_W_law 1181 = .ok (.iadd, 1) := by decide +kernel
theorem dd_W_law_1182 : decode cd_W_law 1182 = .ok (.iaload, 1) := by decide +kernel
theorem dd_W_law_1183 : decode cd_W_law 1183 = .ok (.aload_n 0, 1) := by decide +kernel
theorem dd_W_law_1184 : decode cd_W_law 1184 = .ok (.iload 4, 2) := by decide +kernel
theorem dd_W_law_1186 : decode cd_W_law 1186 = .ok (.iconst 2, 1) := by decide +kernel
theorem dd_W_law_1187 : decode cd_W_law 1187 = .ok (.iadd, 1) := by decide +kernel
theorem dd_W_law_1188 : decode cd_W_law 1188 = .ok (.iaload, 1) := by decide +kernel
theorem dd_W_law_1189 : decode cd_W_law 1189 = .ok (.i2l, 1) := by decide +kernel
theorem dd_W_law_1190 : decode cd_W_law 1190 = .ok (.bipush 32, 2) := by decide +kernel
theorem dd_W_law_1192 : decode cd_W_law 1192 = .ok (.lshl, 1) := by decide +kernel
theorem dd_W_law_1193 : decode cd_W_law 1193 = .ok (.aload_n 0, 1) := by decide +kernel
theorem dd_W_law_1194 : decode cd_W_law 1194 = .ok (.iload 4, 2) := by decide +kernel
theorem dd_W_law_1196 : decode cd_W_law 1196 = .ok (.iconst 3, 1) := by decide +kernel
theorem dd_W_law_1197 : decode cd_W_law 1197 = .ok (.iadd, 1) := by decide +kernel
theorem dd_W_law_1198 : decode cd_W_law 1198 = .ok (.iaload, 1) := by decide +kernel
theorem dd_W_law_1199 : decode cd_W_law 1199 = .ok (.i2l, 1) := by decide +kernel
theorem dd_W_law_1200 : decode cd_W_law 1200 = .ok (.ldc2_w 135, 3) := by decide +kernel
theorem dd_W_law_1203 : decode cd_W_law 1203 = .ok (.land, 1) := by decide +kernel
theorem dd_W_law_1204 : decode cd_W_law 1204 = .ok (.lor, 1) := by decide +kernel
theorem dd_W_law_1205 : decode cd_W_law 1205 = .ok (.aload_n 3, 1) := by decide +kernel
theorem dd_W_law_1206 : decode cd_W_law 1206 = .ok (.invokestatic 137, 3) := by decide +kernel
theorem dd_W_law_1209 : decode cd_W_law 1209 = .ok (.istore 5, 2) := by decide +kernel
theorem dd_W_law_1211 : decode cd_W_law 1211 = .ok (.aload_n 2, 1) := by decide +kernel
theorem dd_W_law_1212 : decode cd_W_law 1212 = .ok (.aload_n 0, 1) := by decide +kernel
theorem dd_W_law_1213 : decode cd_W_law 1213 = .ok (.iload 4, 2) := by decide +kernel
theorem dd_W_law_1215 : decode cd_W_law 1215 = .ok (.iconst 1, 1) := by decide +kernel
theorem dd_W_law_1216 : decode cd_W_law 1216 = .ok (.iadd, 1) := by decide +kernel
theorem dd_W_law_1217 : decode cd_W_law 1217 = .ok (.iaload, 1) := by decide +kernel
theorem dd_W_law_1218 : decode cd_W_law 1218 = .ok (.aload_n 0, 1) := by decide +kernel
theorem dd_W_law_1219 : decode cd_W_law 1219 = .ok (.iload 4, 2) := by decide +kernel
theorem dd_W_law_1221 : decode cd_W_law 1221 = .ok (.iconst 2, 1) := by decide +kernel
theorem dd_W_law_1222 : decode cd_W_law 1222 = .ok (.iadd, 1) := by decide +kernel
theorem dd_W_law_1223 : decode cd_W_law 1223 = .ok (.iaload, 1) := by decide +kernel
theorem dd_W_law_1224 : decode cd_W_law 1224 = .ok (.i2l, 1) := by decide +kernel
theorem dd_W_law_1225 : decode cd_W_law 1225 = .ok (.bipush 32, 2) := by decide +kernel
theorem dd_W_law_1227 : decode cd_W_law 1227 = .ok (.lshl, 1) := by decide +kernel
theorem dd_W_law_1228 : decode cd_W_law 1228 = .ok (.aload_n 0, 1) := by decide +kernel
theorem dd_W_law_1229 : decode cd_W_law 1229 = .ok (.iload 4, 2) := by decide +kernel
theorem dd_W_law_1231 : decode cd_W_law 1231 = .ok (.iconst 3, 1) := by decide +kernel
theorem dd_W_law_1232 : decode cd_W_law 1232 = .ok (.iadd, 1) := by decide +kernel
theorem dd_W_law_1233 : decode cd_W_law 1233 = .ok (.iaload, 1) := by decide +kernel
theorem dd_W_law_1234 : decode cd_W_law 1234 = .ok (.i2l, 1) := by decide +kernel
theorem dd_W_law_1235 : decode cd_W_law 1235 = .ok (.ldc2_w 135, 3) := by decide +kernel
theorem dd_W_law_1238 : decode cd_W_law 1238 = .ok (.land, 1) := by decide +kernel
theorem dd_W_law_1239 : decode cd_W_law 1239 = .ok (.lor, 1) := by decide +kernel
theorem dd_W_law_1240 : decode cd_W_law 1240 = .ok (.invokevirtual 140, 3) := by decide +kernel
theorem dd_W_law_1243 : decode cd_W_law 1243 = .ok (.lstore 6, 2) := by decide +kernel
theorem dd_W_law_1245 : decode cd_W_law 1245 = .ok (.aload_n 2, 1) := by decide +kernel
theorem dd_W_law_1246 : decode cd_W_law 1246 = .ok (.invokevirtual 82, 3) := by decide +kernel
theorem dd_W_law_1249 : decode cd_W_law 1249 = .ok (.iload 5, 2) := by decide +kernel
theorem dd_W_law_1251 : decode cd_W_law 1251 = .ok (.if_icmp .eq 5, 3) := by decide +kernel
theorem dd_W_law_1254 : decode cd_W_law 1254 = .ok (.iconst 0, 1) := by decide +kernel
theorem dd_W_law_1255 : decode cd_W_law 1255 = .ok (.ireturn, 1) := by decide +kernel
theorem dd_W_law_1256 : decode cd_W_law 1256 = .ok (.iload 5, 2) := by decide +kernel
theorem dd_W_law_1258 : decode cd_W_law 1258 = .ok (.ifCond .ne 14, 3) := by decide +kernel
theorem dd_W_law_1261 : decode cd_W_law 1261 = .ok (.aload_n 3, 1) := by decide +kernel
theorem dd_W_law_1262 : decode cd_W_law 1262 = .ok (.iconst 0, 1) := by decide +kernel
theorem dd_W_law_1263 : decode cd_W_law 1263 = .ok (.laload, 1) := by decide +kernel
theorem dd_W_law_1264 : decode cd_W_law 1264 = .ok (.lload 6, 2) := by decide +kernel
theorem dd_W_law_1266 : decode cd_W_law 1266 = .ok (.lcmp, 1) := by decide +kernel
theorem dd_W_law_1267 : decode cd_W_law 1267 = .ok (.ifCond .eq 5, 3) := by decide +kernel
theorem dd_W_law_1270 : decode cd_W_law 1270 = .ok (.iconst 0, 1) := by decide +kernel
theorem dd_W_law_1271 : decode cd_W_law 1271 = .ok (.ireturn, 1) := by decide +kernel
theorem dd_W_law_1272 : decode cd_W_law 1272 = .ok (.goto 47, 3) := by decide +kernel
theorem dd_W_law_1275 : decode cd_W_law 1275 = .ok (.aload_n 1, 1) := by decide +kernel
theorem dd_W_law_1276 : decode cd_W_law 1276 = .ok (.aload_n 3, 1) := by decide +kernel
theorem dd_W_law_1277 : decode cd_W_law 1277 = .ok (.invokestatic 141, 3) := by decide +kernel
theorem dd_W_law_1280 : decode cd_W_law 1280 = .ok (.istore 5, 2) := by decide +kernel
theorem dd_W_law_1282 : decode cd_W_law 1282 = .ok (.aload_n 2, 1) := by decide +kernel
theorem dd_W_law_1283 : decode cd_W_law 1283 = .ok (.invokevirtual 144, 3) := by decide +kernel
theorem dd_W_law_1286 : decode cd_W_law 1286 = .ok (.istore 6, 2) := by decide +kernel
theorem dd_W_law_1288 : decode cd_W_law 1288 = .ok (.aload_n 2, 1) := by decide +kernel
theorem dd_W_law_1289 : decode cd_W_law 1289 = .ok (.invokevirtual 82, 3) := by decide +kernel
theorem dd_W_law_1292 : decode cd_W_law 1292 = .ok (.iload 5, 2) := by decide +kernel
theorem dd_W_law_1294 : decode cd_W_law 1294 = .ok (.if_icmp .eq 5, 3) := by decide +kernel
theorem dd_W_law_1297 : decode cd_W_law 1297 = .ok (.iconst 0, 1) := by decide +kernel
theorem dd_W_law_1298 : decode cd_W_law 1298 = .ok (.ireturn, 1) := by decide +kernel
theorem dd_W_law_1299 : decode cd_W_law 1299 = .ok (.iload 5, 2) := by decide +kernel
theorem dd_W_law_1301 : decode cd_W_law 1301 = .ok (.ifCond .ne 15, 3) := by decide +kernel
theorem dd_W_law_1304 : decode cd_W_law 1304 = .ok (.aload_n 3, 1) := by decide +kernel
theorem dd_W_law_1305 : decode cd_W_law 1305 = .ok (.iconst 0, 1) := by decide +kernel
theorem dd_W_law_1306 : decode cd_W_law 1306 = .ok (.laload, 1) := by decide +kernel
theorem dd_W_law_1307 : decode cd_W_law 1307 = .ok (.iload 6, 2) := by decide +kernel
theorem dd_W_law_1309 : decode cd_W_law 1309 = .ok (.i2l, 1) := by decide +kernel
theorem dd_W_law_1310 : decode cd_W_law 1310 = .ok (.lcmp, 1) := by decide +kernel
theorem dd_W_law_1311 : decode cd_W_law 1311 = .ok (.ifCond .eq 5, 3) := by decide +kernel
theorem dd_W_law_1314 : decode cd_W_law 1314 = .ok (.iconst 0, 1) := by decide +kernel
theorem dd_W_law_1315 : decode cd_W_law 1315 = .ok (.ireturn, 1) := by decide +kernel
theorem dd_W_law_1316 : decode cd_W_law 1316 = .ok (.goto 3, 3) := by decide +kernel
theorem dd_W_law_1319 : decode cd_W_law 1319 = .ok (.iinc 4 5, 3) := by decide +kernel
theorem dd_W_law_1322 : decode cd_W_law 1322 = .ok (.goto (-1299), 3) := by decide +kernel
theorem dd_W_law_1325 : decode cd_W_law 1325 = .ok (.iconst 1, 1) := by decide +kernel
theorem dd_W_law_1326 : decode cd_W_law 1326 = .ok (.ireturn, 1) := by decide +kernel
