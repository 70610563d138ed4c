theorem dL_law_0 : decode cL_law 0 = .ok (.new 7, 3) := by decide +kernel
theorem dL_law_3 : decode cL_law 3 = .ok (.dup, 1) := by decide +kernel
theorem dL_law_4 : decode cL_law 4 = .ok (.invokespecial 9, 3) := by decide +kernel
theorem dL_law_7 : decode cL_law 7 = .ok (.astore_n 1, 1) := by decide +kernel
theorem dL_law_8 : decode cL_law 8 = .ok (.new 10, 3) := by decide +kernel
theorem dL_law_11 : decode cL_law 11 = .ok (.dup, 1) := by decide +kernel
theorem dL_law_12 : decode cL_law 12 = .ok (.invokespecial 12, 3) := by decide +kernel
theorem dL_law_15 : decode cL_law 15 = .ok (.astore_n 2, 1) := by decide +kernel
theorem dL_law_16 : decode cL_law 16 = .ok (.iconst 0, 1) := by decide +kernel
theorem dL_law_17 : decode cL_law 17 = .ok (.istore_n 3, 1) := by decide +kernel
theorem dL_law_18 : decode cL_law 18 = .ok (.iload_n 3, 1) := by decide +kernel
theorem dL_law_19 : decode cL_law 19 = .ok (.aload_n 0, 1) := by decide +kernel
theorem dL_law_20 : decode cL_law 20 = .ok (.arraylength, 1) := by decide +kernel
theorem dL_law_21 : decode cL_law 21 = .ok (.bipush 6, 2) := by decide +kernel
theorem dL_law_23 : decode cL_law 23 = .ok (.isub, 1) := by decide +kernel
theorem dL_law_24 : decode cL_law 24 = .ok (.if_icmp .gt 697, 3) := by decide +kernel
theorem dL_law_27 : decode cL_law 27 = .ok (.aload_n 0, 1) := by decide +kernel
theorem dL_law_28 : decode cL_law 28 = .ok (.iload_n 3, 1) := by decide +kernel
theorem dL_law_29 : decode cL_law 29 = .ok (.iaload, 1) := by decide +kernel
theorem dL_law_30 : decode cL_law 30 = .ok (.bipush 31, 2) := by decide +kernel
theorem dL_law_32 : decode cL_law 32 = .ok (.iand, 1) := by decide +kernel
theorem dL_law_33 : decode cL_law 33 = .ok (.tableswitch 682 0 23 #[111, 174, 197, 210, 223, 236, 259, 292, 303, 326, 339, 362, 385, 408, 431, 445, 468, 501, 514, 537, 550, 593, 626, 659], 111) := by decide +kernel
theorem dL_law_144 : decode cL_law 144 = .ok (.aload_n 1, 1) := by decide +kernel
theorem dL_law_145 : decode cL_law 145 = .ok (.aload_n 0, 1) := by decide +kernel
theorem dL_law_146 : decode cL_law 146 = .ok (.iload_n 3, 1) := by decide +kernel
theorem dL_law_147 : decode cL_law 147 = .ok (.iconst 1, 1) := by decide +kernel
theorem dL_law_148 : decode cL_law 148 = .ok (.iadd, 1) := by decide +kernel
theorem dL_law_149 : decode cL_law 149 = .ok (.iaload, 1) := by decide +kernel
theorem dL_law_150 : decode cL_law 150 = .ok (.aload_n 0, 1) := by decide +kernel
theorem dL_law_151 : decode cL_law 151 = .ok (.iload_n 3, 1) := by decide +kernel
theorem dL_law_152 : decode cL_law 152 = .ok (.iconst 2, 1) := by decide +kernel
theorem dL_law_153 : decode cL_law 153 = .ok (.iadd, 1) := by decide +kernel
theorem dL_law_154 : decode cL_law 154 = .ok (.iaload, 1) := by decide +kernel
theorem dL_law_155 : decode cL_law 155 = .ok (.aload_n 0, 1) := by decide +kernel
theorem dL_law_156 : decode cL_law 156 = .ok (.iload_n 3, 1) := by decide +kernel
theorem dL_law_157 : decode cL_law 157 = .ok (.iconst 3, 1) := by decide +kernel
theorem dL_law_158 : decode cL_law 158 = .ok (.iadd, 1) := by decide +kernel
theorem dL_law_159 : decode cL_law 159 = .ok (.iaload, 1) := by decide +kernel
theorem dL_law_160 : decode cL_law 160 = .ok (.aload_n 0, 1) := by decide +kernel
theorem dL_law_161 : decode cL_law 161 = .ok (.iload_n 3, 1) := by decide +kernel
theorem dL_law_162 : decode cL_law 162 = .ok (.iconst 4, 1) := by decide +kernel
theorem dL_law_163 : decode cL_law 163 = .ok (.iadd, 1) := by decide +kernel
theorem dL_law_164 : decode cL_law 164 = .ok (.iaload, 1) := by decide +kernel
theorem dL_law_165 : decode cL_law 165 = .ok (.aload_n 0, 1) := by decide +kernel
theorem dL_law_166 : decode cL_law 166 = .ok (.iload_n 3, 1) := by decide +kernel
theorem dL_law_167 : decode cL_law 167 = .ok (.iconst 5, 1) := by decide +kernel
theorem dL_law_168 : decode cL_law 168 = .ok (.iadd, 1) := by decide +kernel
theorem dL_law_169 : decode cL_law 169 = .ok (.iaload, 1) := by decide +kernel
theorem dL_law_170 : decode cL_law 170 = .ok (.invokevirtual 13, 3) := by decide +kernel
theorem dL_law_173 : decode cL_law 173 = .ok (.aload_n 2, 1) := by decide +kernel
theorem dL_law_174 : decode cL_law 174 = .ok (.aload_n 0, 1) := by decide +kernel
theorem dL_law_175 : decode cL_law 175 = .ok (.iload_n 3, 1) := by decide +kernel
theorem dL_law_176 : decode cL_law 176 = .ok (.iconst 1, 1) := by decide +kernel
theorem dL_law_177 : decode cL_law 177 = .ok (.iadd, 1) := by decide +kernel
theorem dL_law_178 : decode cL_law 178 = .ok (.iaload, 1) := by decide +kernel
theorem dL_law_179 : decode cL_law 179 = .ok (.aload_n 0, 1) := by decide +kernel
theorem dL_law_180 : decode cL_law 180 = .ok (.iload_n 3, 1) := by decide +kernel
theorem dL_law_181 : decode cL_law 181 = .ok (.iconst 2, 1) := by decide +kernel
theorem dL_law_182 : decode cL_law 182 = .ok (.iadd, 1) := by decide +kernel
theorem dL_law_183 : decode cL_law 183 = .ok (.iaload, 1) := by decide +kernel
theorem dL_law_184 : decode cL_law 184 = .ok (.aload_n 0, 1) := by decide +kernel
theorem dL_law_185 : decode cL_law 185 = .ok (.iload_n 3, 1) := by decide +kernel
theorem dL_law_186 : decode cL_law 186 = .ok (.iconst 3, 1) := by decide +kernel
theorem dL_law_187 : decode cL_law 187 = .ok (.iadd, 1) := by decide +kernel
theorem dL_law_188 : decode cL_law 188 = .ok (.iaload, 1) := by decide +kernel
theorem dL_law_189 : decode cL_law 189 = .ok (.aload_n 0, 1) := by decide +kernel
theorem dL_law_190 : decode cL_law 190 = .ok (.iload_n 3, 1) := by decide +kernel
theorem dL_law_191 : decode cL_law 191 = .ok (.iconst 4, 1) := by decide +kernel
theorem dL_law_192 : decode cL_law 192 = .ok (.iadd, 1) := by decide +kernel
theorem dL_law_193 : decode cL_law 193 = .ok (.iaload, 1) := by decide +kernel
theorem dL_law_194 : decode cL_law 194 = .ok (.aload_n 0, 1) := by decide +kernel
theorem dL_law_195 : decode cL_law 195 = .ok (.iload_n 3, 1) := by decide +kernel
theorem dL_law_196 : decode cL_law 196 = .ok (.iconst 5, 1) := by decide +kernel
theorem dL_law_197 : decode cL_law 197 = .ok (.iadd, 1) := by decide +kernel
theorem dL_law_198 : decode cL_law 198 = .ok (.iaload, 1) := by decide +kernel
theorem dL_law_199 : decode cL_law 199 = .ok (.invokevirtual 17, 3) := by decide +kernel
theorem dL_law_202 : decode cL_law 202 = .ok (.if_icmp .eq 513, 3) := by decide +kernel
theorem dL_law_205 : decode cL_law 205 = .ok (.iconst 0, 1) := by decide +kernel
theorem dL_law_206 : decode cL_law 206 = .ok (.ireturn, 1) := by decide +kernel
theorem dL_law_207 : decode cL_law 207 = .ok (.aload_n 1, 1) := by decide +kernel
theorem dL_law_208 : decode cL_law 208 = .ok (.aload_n 0, 1) := by decide +kernel
theorem dL_law_209 : decode cL_law 209 = .ok (.iload_n 3, 1) := by decide +kernel
theorem dL_law_210 : decode cL_law 210 = .ok (.iconst 1, 1) := by decide +kernel
theorem dL_law_211 : decode cL_law 211 = .ok (.iadd, 1) := by decide +kernel
theorem dL_law_212 : decode cL_law 212 = .ok (.iaload, 1) := by decide +kernel
theorem dL_law_213 : decode cL_law 213 = .ok (.invokevirtual 18, 3) := by decide +kernel
theorem dL_law_216 : decode cL_law 216 = .ok (.aload_n 2, 1) := by decide +kernel
theorem dL_law_217 : decode cL_law 217 = .ok (.aload_n 0, 1) := by decide +kernel
theorem dL_law_218 : decode cL_law 218 = .ok (.iload_n 3, 1) := by decide +kernel
theorem dL_law_219 : decode cL_law 219 = .ok (.iconst 1, 1) := by decide +kernel
theorem dL_law_220 : decode cL_law 220 = .ok (.iadd, 1) := by decide +kernel
theorem dL_law_221 : decode cL_law 221 = .ok (.iaload, 1) := by decide +kernel
theorem dL_law_222 : decode cL_law 222 = .ok (.invokevirtual 22, 3) := by decide +kernel
theorem dL_law_225 : decode cL_law 225 = .ok (.if_icmp .eq 490, 3) := by decide +kernel
theorem dL_law_228 : decode cL_law 228 = .ok (.iconst 0, 1) := by decide +kernel
theorem dL_law_229 : decode cL_law 229 = .ok (.ireturn, 1) := by decide +kernel
theorem dL_law_230 : decode cL_law 230 = .ok (.aload_n 1, 1) := by decide +kernel
theorem dL_law_231 : decode cL_law 231 = .ok (.invokevirtual 23, 3) := by decide +kernel
theorem dL_law_234 : decode cL_law 234 = .ok (.aload_n 2, 1) := by decide +kernel
theorem dL_law_235 : decode cL_law 235 = .ok (.invokevirtual 27, 3) := by decide +kernel
theorem dL_law_238 : decode cL_law 238 = .ok (.if_icmp .eq 477, 3) := by decide +kernel
theorem dL_law_241 : decode cL_law 241 = .ok (.iconst 0, 1) := by decide +kernel
theorem dL_law_242 : decode cL_law 242 = .ok (.ireturn, 1) := by decide +kernel
theorem dL_law_243 : decode cL_law 243 = .ok (.aload_n 1, 1) := by decide +kernel
theorem dL_law_244 : decode cL_law 244 = .ok (.invokevirtual 28, 3) := by decide +kernel
theorem dL_law_247 : decode cL_law 247 = .ok (.aload_n 2, 1) := by decide +kernel
theorem dL_law_248 : decode cL_law 248 = .ok (.invokevirtual 31, 3) := by decide +kernel
theorem dL_law_251 : decode cL_law 251 = .ok (.if_icmp .eq 464, 3) := by decide +kernel
theorem dL_law_254 : decode cL_law 254 = .ok (.iconst 0, 1) := by decide +kernel
theorem dL_law_255 : decode cL_law 255 = .ok (.ireturn, 1) := by decide +kernel
theorem dL_law_256 : decode cL_law 256 = .ok (.aload_n 1, 1) := by decide +kernel
theorem dL_law_257 : decode cL_law 257 = .ok (.invokevirtual 32, 3) := by decide +kernel
theorem dL_law_260 : decode cL_law 260 = .ok (.aload_n 2, 1) := by decide +kernel
theorem dL_law_261 : decode cL_law 261 = .ok (.invokevirtual 35, 3) := by decide +kernel
theorem dL_law_264 : decode cL_law 264 = .ok (.if_icmp .eq 451, 3) := by decide +kernel
theorem dL_law_267 : decode cL_law 267 = .ok (.iconst 0, 1) := by decide +kernel
theorem dL_law_268 : decode cL_law 268 = .ok (.ireturn, 1) := by decide +kernel
theorem dL_law_269 : decode cL_law 269 = .ok (.aload_n 1, 1) := by decide +kernel
theorem dL_law_270 : decode cL_law 270 = .ok (.aload_n 0, 1) := by decide +kernel
theorem dL_law_271 : decode cL_law 271 = .ok (.iload_n 3, 1) := by decide +kernel
theorem dL_law_272 : decode cL_law 272 = .ok (.iconst 1, 1) := by decide +kernel
theorem dL_law_273 : decode cL_law 273 = .ok (.iadd, 1) := by decide +kernel
theorem dL_law_274 : decode cL_law 274 = .ok (.iaload, 1) := by decide +kernel
theorem dL_law_275 : decode cL_law 275 = .ok (.invokevirtual 36, 3) := by decide +kernel
theorem dL_law_278 : decode cL_law 278 = .ok (.aload_n 2, 1) := by decide +kernel
theorem dL_law_279 : decode cL_law 279 = .ok (.aload_n 0, 1) := by decide +kernel
theorem dL_law_280 : decode cL_law 280 = .ok (.iload_n 3, 1) := by decide +kernel
theorem dL_law_281 : decode cL_law 281 = .ok (.iconst 1, 1) := by decide +kernel
theorem dL_law_282 : decode cL_law 282 = .ok (.iadd, 1) := by decide +kernel
theorem dL_law_283 : decode cL_law 283 = .ok (.iaload, 1) := by decide +kernel
theorem dL_law_284 : decode cL_law 284 = .ok (.invokevirtual 40, 3) := by decide +kernel
theorem dL_law_287 : decode cL_law 287 = .ok (.if_icmp .eq 428, 3) := by decide +kernel
theorem dL_law_290 : decode cL_law 290 = .ok (.iconst 0, 1) := by decide +kernel
theorem dL_law_291 : decode cL_law 291 = .ok (.ireturn, 1) := by decide +kernel
theorem dL_law_292 : decode cL_law 292 = .ok (.aload_n 1, 1) := by decide +kernel
theorem dL_law_293 : decode cL_law 293 = .ok (.aload_n 0, 1) := by decide +kernel
theorem dL_law_294 : decode cL_law 294 = .ok (.iload_n 3, 1) := by decide +kernel
theorem dL_law_295 : decode cL_law 295 = .ok (.iconst 1, 1) := by decide +kernel
theorem dL_law_296 : decode cL_law 296 = .ok (.iadd, 1) := by decide +kernel
theorem dL_law_297 : decode cL_law 297 = .ok (.iaload, 1) := by decide +kernel
theorem dL_law_298 : decode cL_law 298 = .ok (.aload_n 0, 1) := by decide +kernel
theorem dL_law_299 : decode cL_law 299 = .ok (.iload_n 3, 1) := by decide +kernel
theorem dL_law_300 : decode cL_law 300 = .ok (.iconst 2, 1) := by decide +kernel
theorem dL_law_301 : decode cL_law 301 = .ok (.iadd, 1) := by decide +kernel
theorem dL_law_302 : decode cL_law 302 = .ok (.iaload, 1) := by decide +kernel
theorem dL_law_303 : decode cL_law 303 = .ok (.invokevirtual 41, 3) := by decide +kernel
theorem dL_law_306 : decode cL_law 306 = .ok (.aload_n 2, 1) := by decide +kernel
theorem dL_law_307 : decode cL_law 307 = .ok (.aload_n 0, 1) := by decide +kernel
theorem dL_law_308 : decode cL_law 308 = .ok (.iload_n 3, 1) := by decide +kernel
theorem dL_law_309 : decode cL_law 309 = .ok (.iconst 1, 1) := by decide +kernel
theorem dL_law_310 : decode cL_law 310 = .ok (.iadd, 1) := by decide +kernel
theorem dL_law_311 : decode cL_law 311 = .ok (.iaload, 1) := by decide +kernel
theorem dL_law_312 : decode cL_law 312 = .ok (.aload_n 0, 1) := by decide +kernel
theorem dL_law_313 : decode cL_law 313 = .ok (.iload_n 3, 1) := by decide +kernel
theorem dL_law_314 : decode cL_law 314 = .ok (.iconst 2, 1) := by decide +kernel
theorem dL_law_315 : decode cL_law 315 = .ok (.iadd, 1) := by decide +kernel
theorem dL_law_316 : decode cL_law 316 = .ok (.iaload, 1) := by decide +kernel
theorem dL_law_317 : decode cL_law 317 = .ok (.invokevirtual 45, 3) := by decide +kernel
theorem dL_law_320 : decode cL_law 320 = .ok (.if_icmp .eq 395, 3) := by decide +kernel
theorem dL_law_323 : decode cL_law 323 = .ok (.iconst 0, 1) := by decide +kernel
theorem dL_law_324 : decode cL_law 324 = .ok (.ireturn, 1) := by decide +kernel
theorem dL_law_325 : decode cL_law 325 = .ok (.aload_n 1, 1) := by decide +kernel
theorem dL_law_326 : decode cL_law 326 = .ok (.invokevirtual 46, 3) := by decide +kernel
theorem dL_law_329 : decode cL_law 329 = .ok (.aload_n 2, 1) := by decide +kernel
theorem dL_law_330 : decode cL_law 330 = .ok (.invokevirtual 49, 3) := by decide +kernel
theorem dL_law_333 : decode cL_law 333 = .ok (.goto 382, 3) := by decide +kernel
theorem dL_law_336 : decode cL_law 336 = .ok (.aload_n 1, 1) := by decide +kernel
theorem dL_law_337 : decode cL_law 337 = .ok (.aload_n 0, 1) := by decide +kernel
theorem dL_law_338 : decode cL_law 338 = .ok (.iload_n 3, 1) := by decide +kernel
theorem dL_law_339 : decode cL_law 339 = .ok (.iconst 1, 1) := by decide +kernel
theorem dL_law_340 : decode cL_law 340 = .ok (.iadd, 1) := by decide +kernel
theorem dL_law_341 : decode cL_law 341 = .ok (.iaload, 1) := by decide +kernel
theorem dL_law_342 : decode cL_law 342 = .ok (.invokevirtual 50, 3) := by decide +kernel
theorem dL_law_345 : decode cL_law 345 = .ok (.aload_n 2, 1) := by decide +kernel
theorem dL_law_346 : decode cL_law 346 = .ok (.aload_n 0, 1) := by decide +kernel
theorem dL_law_347 : decode cL_law 347 = .ok (.iload_n 3, 1) := by decide +kernel
theorem dL_law_348 : decode cL_law 348 = .ok (.iconst 1, 1) := by decide +kernel
theorem dL_law_349 : decode cL_law 349 = .ok (.iadd, 1) := by decide +kernel
theorem dL_law_350 : decode cL_law 350 = .ok (.iaload, 1) := by decide +kernel
theorem dL_law_351 : decode cL_law 351 = .ok (.invokevirtual 53, 3) := by decide +kernel
theorem dL_law_354 : decode cL_law 354 = .ok (.if_icmp .eq 361, 3) := by decide +kernel
theorem dL_law_357 : decode cL_law 357 = .ok (.iconst 0, 1) := by decide +kernel
theorem dL_law_358 : decode cL_law 358 = .ok (.ireturn, 1) := by decide +kernel
theorem dL_law_359 : decode cL_law 359 = .ok (.aload_n 1, 1) := by decide +kernel
theorem dL_law_360 : decode cL_law 360 = .ok (.invokevirtual 54, 3) := by decide +kernel
theorem dL_law_363 : decode cL_law 363 = .ok (.aload_n 2, 1) := by decide +kernel
theorem dL_law_364 : decode cL_law 364 = .ok (.invokevirtual 57, 3) := by decide +kernel
theorem dL_law_367 : decode cL_law 367 = .ok (.if_icmp .eq 348, 3) := by decide +kernel
theorem dL_law_370 : decode cL_law 370 = .ok (.iconst 0, 1) := by decide +kernel
theorem dL_law_371 : decode cL_law 371 = .ok (.ireturn, 1) := by decide +kernel
theorem dL_law_372 : decode cL_law 372 = .ok (.aload_n 1, 1) := by decide +kernel
theorem dL_law_373 : decode cL_law 373 = .ok (.aload_n 0, 1) := by decide +kernel
theorem dL_law_374 : decode cL_law 374 = .ok (.iload_n 3, 1) := by decide +kernel
theorem dL_law_375 : decode cL_law 375 = .ok (.iconst 1, 1) := by decide +kernel
theorem dL_law_376 : decode cL_law 376 = .ok (.iadd, 1) := by decide +kernel
theorem dL_law_377 : decode cL_law 377 = .ok (.iaload, 1) := by decide +kernel
theorem dL_law_378 : decode cL_law 378 = .ok (.invokevirtual 58, 3) := by decide +kernel
theorem dL_law_381 : decode cL_law 381 = .ok (.aload_n 2, 1) := by decide +kernel
theorem dL_law_382 : decode cL_law 382 = .ok (.aload_n 0, 1) := by decide +kernel
theorem dL_law_383 : decode cL_law 383 = .ok (.iload_n 3, 1) := by decide +kernel
theorem dL_law_384 : decode cL_law 384 = .ok (.iconst 1, 1) := by decide +kernel
theorem dL_law_385 : decode cL_law 385 = .ok (.iadd, 1) := by decide +kernel
theorem dL_law_386 : decode cL_law 386 = .ok (.iaload, 1) := by decide +kernel
theorem dL_law_387 : decode cL_law 387 = .ok (.invokevirtual 61, 3) := by decide +kernel
theorem dL_law_390 : decode cL_law 390 = .ok (.if_icmp .eq 325, 3) := by decide +kernel
theorem dL_law_393 : decode cL_law 393 = .ok (.iconst 0, 1) := by decide +kernel
theorem dL_law_394 : decode cL_law 394 = .ok (.ireturn, 1) := by decide +kernel
theorem dL_law_395 : decode cL_law 395 = .ok (.aload_n 1, 1) := by decide +kernel
theorem dL_law_396 : decode cL_law 396 = .ok (.aload_n 0, 1) := by decide +kernel
theorem dL_law_397 : decode cL_law 397 = .ok (.iload_n 3, 1) := by decide +kernel
theorem dL_law_398 : decode cL_law 398 = .ok (.iconst 1, 1) := by decide +kernel
theorem dL_law_399 : decode cL_law 399 = .ok (.iadd, 1) := by decide +kernel
theorem dL_law_400 : decode cL_law 400 = .ok (.iaload, 1) := by decide +kernel
theorem dL_law_401 : decode cL_law 401 = .ok (.invokevirtual 62, 3) := by decide +kernel
theorem dL_law_404 : decode cL_law 404 = .ok (.aload_n 2, 1) := by decide +kernel
theorem dL_law_405 : decode cL_law 405 = .ok (.aload_n 0, 1) := by decide +kernel
theorem dL_law_406 : decode cL_law 406 = .ok (.iload_n 3, 1) := by decide +kernel
theorem dL_law_407 : decode cL_law 407 = .ok (.iconst 1, 1) := by decide +kernel
theorem dL_law_408 : decode cL_law 408 = .ok (.iadd, 1) := by decide +kernel
theorem dL_law_409 : decode cL_law 409 = .ok (.iaload, 1) := by decide +kernel
theorem dL_law_410 : decode cL_law 410 = .ok (.invokevirtual 65, 3) := by decide +kernel
theorem dL_law_413 : decode cL_law 413 = .ok (.if_icmp .eq 302, 3) := by decide +kernel
theorem dL_law_416 : decode cL_law 416 = .ok (.iconst 0, 1) := by decide +kernel
theorem dL_law_417 : decode cL_law 417 = .ok (.ireturn, 1) := by decide +kernel
theorem dL_law_418 : decode cL_law 418 = .ok (.aload_n 1, 1) := by decide +kernel
theorem dL_law_419 : decode cL_law 419 = .ok (.aload_n 0, 1) := by decide +kernel
theorem dL_law_420 : decode cL_law 420 = .ok (.iload_n 3, 1) := by decide +kernel
theorem dL_law_421 : decode cL_law 421 = .ok (.iconst 1, 1) := by decide +kernel
theorem dL_law_422 : decode cL_law 422 = .ok (.iadd, 1) := by decide +kernel
theorem dL_law_423 : decode cL_law 423 = .ok (.iaload, 1) := by decide +kernel
theorem dL_law_424 : decode cL_law 424 = .ok (.invokevirtual 66, 3) := by decide +kernel
theorem dL_law_427 : decode cL_law 427 = .ok (.aload_n 2, 1) := by decide +kernel
theorem dL_law_428 : decode cL_law 428 = .ok (.aload_n 0, 1) := by decide +kernel
theorem dL_law_429 : decode cL_law 429 = .ok (.iload_n 3, 1) := by decide +kernel
theorem dL_law_430 : decode cL_law 430 = .ok (.iconst 1, 1) := by decide +kernel
theorem dL_law_431 : decode cL_law 431 = .ok (.iadd, 1) := by decide +kernel
theorem dL_law_432 : decode cL_law 432 = .ok (.iaload, 1) := by decide +kernel
theorem dL_law_433 : decode cL_law 433 = .ok (.invokevirtual 69, 3) := by decide +kernel
theorem dL_law_436 : decode cL_law 436 = .ok (.if_icmp .eq 279, 3) := by decide +kernel
theorem dL_law_439 : decode cL_law 439 = .ok (.iconst 0, 1) := by decide +kernel
theorem dL_law_440 : decode cL_law 440 = .ok (.ireturn, 1) := by decide +kernel
theorem dL_law_441 : decode cL_law 441 = .ok (.aload_n 1, 1) := by decide +kernel
theorem dL_law_442 : decode cL_law 442 = .ok (.aload_n 0, 1) := by decide +kernel
theorem dL_law_443 : decode cL_law 443 = .ok (.iload_n 3, 1) := by decide +kernel
theorem dL_law_444 : decode cL_law 444 = .ok (.iconst 1, 1) := by decide +kernel
theorem dL_law_445 : decode cL_law 445 = .ok (.iadd, 1) := by decide +kernel
theorem dL_law_446 : decode cL_law 446 = .ok (.iaload, 1) := by decide +kernel
theorem dL_law_447 : decode cL_law 447 = .ok (.invokevirtual 70, 3) := by decide +kernel
theorem dL_law_450 : decode cL_law 450 = .ok (.aload_n 2, 1) := by decide +kernel
theorem dL_law_451 : decode cL_law 451 = .ok (.aload_n 0, 1) := by decide +kernel
theorem dL_law_452 : decode cL_law 452 = .ok (.iload_n 3, 1) := by decide +kernel
theorem dL_law_453 : decode cL_law 453 = .ok (.iconst 1, 1) := by decide +kernel
theorem dL_law_454 : decode cL_law 454 = .ok (.iadd, 1) := by decide +kernel
theorem dL_law_455 : decode cL_law 455 = .ok (.iaload, 1) := by decide +kernel
theorem dL_law_456 : decode cL_law 456 = .ok (.invokevirtual 73, 3) := by decide +kernel
theorem dL_law_459 : decode cL_law 459 = .ok (.if_icmp .eq 256, 3) := by decide +kernel
theorem dL_law_462 : decode cL_law 462 = .ok (.iconst 0, 1) := by decide +kernel
theorem dL_law_463 : decode cL_law 463 = .ok (.ireturn, 1) := by decide +kernel
theorem dL_law_464 : decode cL_law 464 = .ok (.aload_n 1, 1) := by decide +kernel
theorem dL_law_465 : decode cL_law 465 = .ok (.invokevirtual 74, 3) := by decide +kernel
theorem dL_law_468 : decode cL_law 468 = .ok (.aload_n 2, 1) := by decide +kernel
theorem dL_law_469 : decode cL_law 469 = .ok (.invokevirtual 78, 3) := by decide +kernel
theorem dL_law_472 : decode cL_law 472 = .ok (.lcmp, 1) := by decide +kernel
theorem dL_law_473 : decode cL_law 473 = .ok (.ifCond .eq 242, 3) := by decide +kernel
theorem dL_law_476 : decode cL_law 476 = .ok (.iconst 0, 1) := by decide +kernel
theorem dL_law_477 : decode cL_law 477 = .ok (.ireturn, 1) := by decide +kernel
theorem dL_law_478 : decode cL_law 478 = .ok (.aload_n 1, 1) := by decide +kernel
theorem dL_law_479 : decode cL_law 479 = .ok (.aload_n 0, 1) := by decide +kernel
theorem dL_law_480 : decode cL_law 480 = .ok (.iload_n 3, 1) := by decide +kernel
theorem dL_law_481 : decode cL_law 481 = .ok (.iconst 1, 1) := by decide +kernel
theorem dL_law_482 : decode cL_law 482 = .ok (.iadd, 1) := by decide +kernel
theorem dL_law_483 : decode cL_law 483 = .ok (.iaload, 1) := by decide +kernel
theorem dL_law_484 : decode cL_law 484 = .ok (.invokevirtual 79, 3) := by decide +kernel
theorem dL_law_487 : decode cL_law 487 = .ok (.aload_n 2, 1) := by decide +kernel
theorem dL_law_488 : decode cL_law 488 = .ok (.aload_n 0, 1) := by decide +kernel
theorem dL_law_489 : decode cL_law 489 = .ok (.iload_n 3, 1) := by decide +kernel
theorem dL_law_490 : decode cL_law 490 = .ok (.iconst 1, 1) := by decide +kernel
theorem dL_law_491 : decode cL_law 491 = .ok (.iadd, 1) := by decide +kernel
theorem dL_law_492 : decode cL_law 492 = .ok (.iaload, 1) := by decide +kernel
theorem dL_law_493 : decode cL_law 493 = .ok (.invokevirtual 82, 3) := by decide +kernel
theorem dL_law_496 : decode cL_law 496 = .ok (.if_icmp .eq 219, 3) := by decide +kernel
theorem dL_law_499 : decode cL_law 499 = .ok (.iconst 0, 1) := by decide +kernel
theorem dL_law_500 : decode cL_law 500 = .ok (.ireturn, 1) := by decide +kernel
theorem dL_law_501 : decode cL_law 501 = .ok (.aload_n 1, 1) := by decide +kernel
theorem dL_law_502 : decode cL_law 502 = .ok (.aload_n 0, 1) := by decide +kernel
theorem dL_law_503 : decode cL_law 503 = .ok (.iload_n 3, 1) := by decide +kernel
theorem dL_law_504 : decode cL_law 504 = .ok (.iconst 1, 1) := by decide +kernel
theorem dL_law_505 : decode cL_law 505 = .ok (.iadd, 1) := by decide +kernel
theorem dL_law_506 : decode cL_law 506 = .ok (.iaload, 1) := by decide +kernel
theorem dL_law_507 : decode cL_law 507 = .ok (.aload_n 0, 1) := by decide +kernel
theorem dL_law_508 : decode cL_law 508 = .ok (.iload_n 3, 1) := by decide +kernel
theorem dL_law_509 : decode cL_law 509 = .ok (.iconst 2, 1) := by decide +kernel
theorem dL_law_510 : decode cL_law 510 = .ok (.iadd, 1) := by decide +kernel
theorem dL_law_511 : decode cL_law 511 = .ok (.iaload, 1) := by decide +kernel
theorem dL_law_512 : decode cL_law 512 = .ok (.invokevirtual 83, 3) := by decide +kernel
theorem dL_law_515 : decode cL_law 515 = .ok (.aload_n 2, 1) := by decide +kernel
theorem dL_law_516 : decode cL_law 516 = .ok (.aload_n 0, 1) := by decide +kernel
theorem dL_law_517 : decode cL_law 517 = .ok (.iload_n 3, 1) := by decide +kernel
theorem dL_law_518 : decode cL_law 518 = .ok (.iconst 1, 1) := by decide +kernel
theorem dL_law_519 : decode cL_law 519 = .ok (.iadd, 1) := by decide +kernel
theorem dL_law_520 : decode cL_law 520 = .ok (.iaload, 1) := by decide +kernel
theorem dL_law_521 : decode cL_law 521 = .ok (.aload_n 0, 1) := by decide +kernel
theorem dL_law_522 : decode cL_law 522 = .ok (.iload_n 3, 1) := by decide +kernel
theorem dL_law_523 : decode cL_law 523 = .ok (.iconst 2, 1) := by decide +kernel
theorem dL_law_524 : decode cL_law 524 = .ok (.iadd, 1) := by decide +kernel
theorem dL_law_525 : decode cL_law 525 = .ok (.iaload, 1) := by decide +kernel
theorem dL_law_526 : decode cL_law 526 = .ok (.invokevirtual 86, 3) := by decide +kernel
theorem dL_law_529 : decode cL_law 529 = .ok (.if_icmp .eq 186, 3) := by decide +kernel
theorem dL_law_532 : decode cL_law 532 = .ok (.iconst 0, 1) := by decide +kernel
theorem dL_law_533 : decode cL_law 533 = .ok (.ireturn, 1) := by decide +kernel
theorem dL_law_534 : decode cL_law 534 = .ok (.aload_n 1, 1) := by decide +kernel
theorem dL_law_535 : decode cL_law 535 = .ok (.invokevirtual 87, 3) := by decide +kernel
theorem dL_law_538 : decode cL_law 538 = .ok (.aload_n 2, 1) := by decide +kernel
theorem dL_law_539 : decode cL_law 539 = .ok (.invokevirtual 90, 3) := by decide +kernel
theorem dL_law_542 : decode cL_law 542 = .ok (.if_icmp .eq 173, 3) := by decide +kernel
theorem dL_law_545 : decode cL_law 545 = .ok (.iconst 0, 1) := by decide +kernel
theorem dL_law_546 : decode cL_law 546 = .ok (.ireturn, 1) := by decide +kernel
theorem dL_law_547 : decode cL_law 547 = .ok (.aload_n 1, 1) := by decide +kernel
theorem dL_law_548 : decode cL_law 548 = .ok (.aload_n 0, 1) := by decide +kernel
theorem dL_law_549 : decode cL_law 549 = .ok (.iload_n 3, 1) := by decide +kernel
theorem dL_law_550 : decode cL_law 550 = .ok (.iconst 1, 1) := by decide +kernel
theorem dL_law_551 : decode cL_law 551 = .ok (.iadd, 1) := by decide +kernel
theorem dL_law_552 : decode cL_law 552 = .ok (.iaload, 1) := by decide +kernel
theorem dL_law_553 : decode cL_law 553 = .ok (.invokevirtual 91, 3) := by decide +kernel
theorem dL_law_556 : decode cL_law 556 = .ok (.aload_n 2, 1) := by decide +kernel
theorem dL_law_557 : decode cL_law 557 = .ok (.aload_n 0, 1) := by decide +kernel
theorem dL_law_558 : decode cL_law 558 = .ok (.iload_n 3, 1) := by decide +kernel
theorem dL_law_559 : decode cL_law 559 = .ok (.iconst 1, 1) := by decide +kernel
theorem dL_law_560 : decode cL_law 560 = .ok (.iadd, 1) := by decide +kernel
theorem dL_law_561 : decode cL_law 561 = .ok (.iaload, 1) := by decide +kernel
theorem dL_law_562 : decode cL_law 562 = .ok (.invokevirtual 94, 3) := by decide +kernel
theorem dL_law_565 : decode cL_law 565 = .ok (.if_icmp .eq 150, 3) := by decide +kernel
theorem dL_law_568 : decode cL_law 568 = .ok (.iconst 0, 1) := by decide +kernel
theorem dL_law_569 : decode cL_law 569 = .ok (.ireturn, 1) := by decide +kernel
theorem dL_law_570 : decode cL_law 570 = .ok (.aload_n 1, 1) := by decide +kernel
theorem dL_law_571 : decode cL_law 571 = .ok (.invokevirtual 95, 3) := by decide +kernel
theorem dL_law_574 : decode cL_law 574 = .ok (.aload_n 2, 1) := by decide +kernel
theorem dL_law_575 : decode cL_law 575 = .ok (.invokevirtual 98, 3) := by decide +kernel
theorem dL_law_578 : decode cL_law 578 = .ok (.if_icmp .eq 137, 3) := by decide +kernel
theorem dL_law_581 : decode cL_law 581 = .ok (.iconst 0, 1) := by decide +kernel
theorem dL_law_582 : decode cL_law 582 = .ok (.ireturn, 1) := by decide +kernel
theorem dL_law_583 : decode cL_law 583 = .ok (.aload_n 1, 1) := by decide +kernel
theorem dL_law_584 : decode cL_law 584 = .ok (.aload_n 0, 1) := by decide +kernel
theorem dL_law_585 : decode cL_law 585 = .ok (.iload_n 3, 1) := by decide +kernel
theorem dL_law_586 : decode cL_law 586 = .ok (.iconst 1, 1) := by decide +kernel
theorem dL_law_587 : decode cL_law 587 = .ok (.iadd, 1) := by decide +kernel
theorem dL_law_588 : decode cL_law 588 = .ok (.iaload, 1) := by decide +kernel
theorem dL_law_589 : decode cL_law 589 = .ok (.aload_n 0, 1) := by decide +kernel
theorem dL_law_590 : decode cL_law 590 = .ok (.iload_n 3, 1) := by decide +kernel
theorem dL_law_591 : decode cL_law 591 = .ok (.iconst 2, 1) := by decide +kernel
theorem dL_law_592 : decode cL_law 592 = .ok (.iadd, 1) := by decide +kernel
theorem dL_law_593 : decode cL_law 593 = .ok (.iaload, 1) := by decide +kernel
theorem dL_law_594 : decode cL_law 594 = .ok (.aload_n 0, 1) := by decide +kernel
theorem dL_law_595 : decode cL_law 595 = .ok (.iload_n 3, 1) := by decide +kernel
theorem dL_law_596 : decode cL_law 596 = .ok (.iconst 3, 1) := by decide +kernel
theorem dL_law_597 : decode cL_law 597 = .ok (.iadd, 1) := by decide +kernel
theorem dL_law_598 : decode cL_law 598 = .ok (.iaload, 1) := by decide +kernel
theorem dL_law_599 : decode cL_law 599 = .ok (.invokevirtual 99, 3) := by decide +kernel
theorem dL_law_602 : decode cL_law 602 = .ok (.aload_n 2, 1) := by decide +kernel
theorem dL_law_603 : decode cL_law 603 = .ok (.aload_n 0, 1) := by decide +kernel
theorem dL_law_604 : decode cL_law 604 = .ok (.iload_n 3, 1) := by decide +kernel
theorem dL_law_605 : decode cL_law 605 = .ok (.iconst 1, 1) := by decide +kernel
theorem dL_law_606 : decode cL_law 606 = .ok (.iadd, 1) := by decide +kernel
theorem dL_law_607 : decode cL_law 607 = .ok (.iaload, 1) := by decide +kernel
theorem dL_law_608 : decode cL_law 608 = .ok (.aload_n 0, 1) := by decide +kernel
theorem dL_law_609 : decode cL_law 609 = .ok (.iload_n 3, 1) := by decide +kernel
theorem dL_law_610 : decode cL_law 610 = .ok (.iconst 2, 1) := by decide +kernel
theorem dL_law_611 : decode cL_law 611 = .ok (.iadd, 1) := by decide +kernel
theorem dL_law_612 : decode cL_law 612 = .ok (.iaload, 1) := by decide +kernel
theorem dL_law_613 : decode cL_law 613 = .ok (.aload_n 0, 1) := by decide +kernel
theorem dL_law_614 : decode cL_law 614 = .ok (.iload_n 3, 1) := by decide +kernel
theorem dL_law_615 : decode cL_law 615 = .ok (.iconst 3, 1) := by decide +kernel
theorem dL_law_616 : decode cL_law 616 = .ok (.iadd, 1) := by decide +kernel
theorem dL_law_617 : decode cL_law 617 = .ok (.iaload, 1) := by decide +kernel
theorem dL_law_618 : decode cL_law 618 = .ok (.invokevirtual 103, 3) := by decide +kernel
theorem dL_law_621 : decode cL_law 621 = .ok (.if_icmp .eq 94, 3) := by decide +kernel
theorem dL_law_624 : decode cL_law 624 = .ok (.iconst 0, 1) := by decide +kernel
theorem dL_law_625 : decode cL_law 625 = .ok (.ireturn, 1) := by decide +kernel
theorem dL_law_626 : decode cL_law 626 = .ok (.aload_n 1, 1) := by decide +kernel
theorem dL_law_627 : decode cL_law 627 = .ok (.aload_n 0, 1) := by decide +kernel
theorem dL_law_628 : decode cL_law 628 = .ok (.iload_n 3, 1) := by decide +kernel
theorem dL_law_629 : decode cL_law 629 = .ok (.iconst 1, 1) := by decide +kernel
theorem dL_law_630 : decode cL_law 630 = .ok (.iadd, 1) := by decide +kernel
theorem dL_law_631 : decode cL_law 631 = .ok (.iaload, 1) := by decide +kernel
theorem dL_law_632 : decode cL_law 632 = .ok (.aload_n 0, 1) := by decide +kernel
theorem dL_law_633 : decode cL_law 633 = .ok (.iload_n 3, 1) := by decide +kernel
theorem dL_law_634 : decode cL_law 634 = .ok (.iconst 2, 1) := by decide +kernel
theorem dL_law_635 : decode cL_law 635 = .ok (.iadd, 1) := by decide +kernel
theorem dL_law_636 : decode cL_law 636 = .ok (.iaload, 1) := by decide +kernel
theorem dL_law_637 : decode cL_law 637 = .ok (.invokevirtual 104, 3) := by decide +kernel
theorem dL_law_640 : decode cL_law 640 = .ok (.aload_n 2, 1) := by decide +kernel
theorem dL_law_641 : decode cL_law 641 = .ok (.aload_n 0, 1) := by decide +kernel
theorem dL_law_642 : decode cL_law 642 = .ok (.iload_n 3, 1) := by decide +kernel
theorem dL_law_643 : decode cL_law 643 = .ok (.iconst 1, 1) := by decide +kernel
theorem dL_law_644 : decode cL_law 644 = .ok (.iadd, 1) := by decide +kernel
theorem dL_law_645 : decode cL_law 645 = .ok (.iaload, 1) := by decide +kernel
theorem dL_law_646 : decode cL_law 646 = .ok (.aload_n 0, 1) := by decide +kernel
theorem dL_law_647 : decode cL_law 647 = .ok (.iload_n 3, 1) := by decide +kernel
theorem dL_law_648 : decode cL_law 648 = .ok (.iconst 2, 1) := by decide +kernel
theorem dL_law_649 : decode cL_law 649 = .ok (.iadd, 1) := by decide +kernel
theorem dL_law_650 : decode cL_law 650 = .ok (.iaload, 1) := by decide +kernel
theorem dL_law_651 : decode cL_law 651 = .ok (.invokevirtual 108, 3) := by decide +kernel
theorem dL_law_654 : decode cL_law 654 = .ok (.if_icmp .eq 61, 3) := by decide +kernel
theorem dL_law_657 : decode cL_law 657 = .ok (.iconst 0, 1) := by decide +kernel
theorem dL_law_658 : decode cL_law 658 = .ok (.ireturn, 1) := by decide +kernel
theorem dL_law_659 : decode cL_law 659 = .ok (.aload_n 1, 1) := by decide +kernel
theorem dL_law_660 : decode cL_law 660 = .ok (.aload_n 0, 1) := by decide +kernel
theorem dL_law_661 : decode cL_law 661 = .ok (.iload_n 3, 1) := by decide +kernel
theorem dL_law_662 : decode cL_law 662 = .ok (.iconst 1, 1) := by decide +kernel
theorem dL_law_663 : decode cL_law 663 = .ok (.iadd, 1) := by decide +kernel
theorem dL_law_664 : decode cL_law 664 = .ok (.iaload, 1) := by decide +kernel
theorem dL_law_665 : decode cL_law 665 = .ok (.aload_n 0, 1) := by decide +kernel
theorem dL_law_666 : decode cL_law 666 = .ok (.iload_n 3, 1) := by decide +kernel
theorem dL_law_667 : decode cL_law 667 = .ok (.iconst 2, 1) := by decide +kernel
theorem dL_law_668 : decode cL_law 668 = .ok (.iadd, 1) := by decide +kernel
theorem dL_law_669 : decode cL_law 669 = .ok (.iaload, 1) := by decide +kernel
theorem dL_law_670 : decode cL_law 670 = .ok (.invokevirtual 109, 3) := by decide +kernel
theorem dL_law_673 : decode cL_law 673 = .ok (.aload_n 2, 1) := by decide +kernel
theorem dL_law_674 : decode cL_law 674 = .ok (.aload_n 0, 1) := by decide +kernel
theorem dL_law_675 : decode cL_law 675 = .ok (.iload_n 3, 1) := by decide +kernel
theorem dL_law_676 : decode cL_law 676 = .ok (.iconst 1, 1) := by decide +kernel
theorem dL_law_677 : decode cL_law 677 = .ok (.iadd, 1) := by decide +kernel
theorem dL_law_678 : decode cL_law 678 = .ok (.iaload, 1) := by decide +kernel
theorem dL_law_679 : decode cL_law 679 = .ok (.aload_n 0, 1) := by decide +kernel
theorem dL_law_680 : decode cL_law 680 = .ok (.iload_n 3, 1) := by decide +kernel
theorem dL_law_681 : decode cL_law 681 = .ok (.iconst 2, 1) := by decide +kernel
theorem dL_law_682 : decode cL_law 682 = .ok (.iadd, 1) := by decide +kernel
theorem dL_law_683 : decode cL_law 683 = .ok (.iaload, 1) := by decide +kernel
theorem dL_law_684 : decode cL_law 684 = .ok (.invokevirtual 112, 3) := by decide +kernel
theorem dL_law_687 : decode cL_law 687 = .ok (.if_icmp .eq 28, 3) := by decide +kernel
theorem dL_law_690 : decode cL_law 690 = .ok (.iconst 0, 1) := by decide +kernel
theorem dL_law_691 : decode cL_law 691 = .ok (.ireturn, 1) := by decide +kernel
theorem dL_law_692 : decode cL_law 692 = .ok (.aload_n 1, 1) := by decide +kernel
theorem dL_law_693 : decode cL_law 693 = .ok (.aload_n 0, 1) := by decide +kernel
theorem dL_law_694 : decode cL_law 694 = .ok (.iload_n 3, 1) := by decide +kernel
theorem dL_law_695 : decode cL_law 695 = .ok (.iconst 1, 1) := by decide +kernel
theorem dL_law_696 : decode cL_law 696 = .ok (.iadd, 1) := by decide +kernel
theorem dL_law_697 : decode cL_law 697 = .ok (.iaload, 1) := by decide +kernel
theorem dL_law_698 : decode cL_law 698 = .ok (.invokevirtual 113, 3) := by decide +kernel
theorem dL_law_701 : decode cL_law 701 = .ok (.aload_n 2, 1) := by decide +kernel
theorem dL_law_702 : decode cL_law 702 = .ok (.aload_n 0, 1) := by decide +kernel
theorem dL_law_703 : decode cL_law 703 = .ok (.iload_n 3, 1) := by decide +kernel
theorem dL_law_704 : decode cL_law 704 = .ok (.iconst 1, 1) := by decide +kernel
theorem dL_law_705 : decode cL_law 705 = .ok (.iadd, 1) := by decide +kernel
theorem dL_law_706 : decode cL_law 706 = .ok (.iaload, 1) := by decide +kernel
theorem dL_law_707 : decode cL_law 707 = .ok (.invokevirtual 116, 3) := by decide +kernel
theorem dL_law_710 : decode cL_law 710 = .ok (.if_icmp .eq 5, 3) := by decide +kernel
theorem dL_law_713 : decode cL_law 713 = .ok (.iconst 0, 1) := by decide +kernel
theorem dL_law_714 : decode cL_law 714 = .ok (.ireturn, 1) := by decide +kernel
theorem dL_law_715 : decode cL_law 715 = .ok (.iinc 3 6, 3) := by decide +kernel
theorem dL_law_718 : decode cL_law 718 = .ok (.goto (-700), 3) := by decide +kernel
theorem dL_law_721 : decode cL_law 721 = .ok (.iconst 1, 1) := by decide +kernel
theorem dL_law_722 : decode cL_law 722 = .ok (.ireturn, 1) := by decide +kernel
set_option maxHeartbeats 4000000 in
set_option maxRecDepth 100000 in
theorem lc_feed {p : Program} {l : Launch} {e : Env} {s : State} {m : MethodId} {below : List Frame} {meth : Method} {c : Code} {ls : Array Slot} {E : cE} {H : Heap} {locs : List Loc} {b L : Nat} {xs : Nat → Int32} {xo : Nat} {ad : Nat → Nat} {gx : Nat → Int32} {gy : Nat → Int32} {gf : Nat → Int32} {v2 : Int32} {gt : Nat → Int32} {gh : Nat → Int32} {gc : Nat → Int32} {mo : Nat} {r : Nat → Nat} {g : Nat → Value} {kx : Nat → Int32} {ky : Nat → Int32} {kw : Nat → Int32} {kt : Nat → Int32} {fx : Nat → Int32} {fy : Nat → Int32} {fw : Nat → Int32} {bx : Nat → Int32} {by_ : Nat → Int32} {bw : Nat → Int32} (F : cX p s m meth c code 4 ret yL_law #[Value.ref b]) (hA : ∀ q : Nat, s.heap.size ≤ q → (fun q : Nat => s.heap.size ≤ q) q) (hS : va_S (fun q : Nat => s.heap.size ≤ q) s.heap H locs) (hP : va_P E.1 vwCl [(xo, ob 11 [.ref (ad 0), .ref (ad 7), .ref (ad 28), .ref (ad 30), .ref (ad 76), .ref (ad 46), .ref (ad 55), .ref (ad 57), .ref (ad 59), .ref (ad 61), .ref (ad 80), .int 0, .int 0, .int 0, .int (-1), .int (-1), .int (-1)]), ((ad 0), ob 10 [.ref (ad 1), .int 0, .ref (ad 2), .ref (ad 3), .ref (ad 4), .ref (ad 5), .ref (ad 6), .int 0]), ((ad 1), aB E 4096 (fun _ => 0)), (mo, ob 12 (mfs g)), ((r 0), aB E 4096 (fun _ => 0))] H) (hD : va_D (fun q : Nat => s.heap.size ≤ q) [(xo, ob 11 [.ref (ad 0), .ref (ad 7), .ref (ad 28), .ref (ad 30), .ref (ad 76), .ref (ad 46), .ref (ad 55), .ref (ad 57), .ref (ad 59), .ref (ad 61), .ref (ad 80), .int 0, .int 0, .int 0, .int (-1), .int (-1), .int (-1)]), ((ad 0), ob 10 [.ref (ad 1), .int 0, .ref (ad 2), .ref (ad 3), .ref (ad 4), .ref (ad 5), .ref (ad 6), .int 0]), ((ad 1), aB E 4096 (fun _ => 0)), (mo, ob 12 (mfs g)), ((r 0), aB E 4096 (fun _ => 0))]) (hK : va_K E.1 vwCl (cTY E.2.1) s) (hZ : cZ E.2.2 (fun q : Nat => s.heap.size ≤ q) s s.heap) (hX : va_X b L xs s s.heap) (hbl : b < s.heap.size) (hbA : ¬ (fun q : Nat => s.heap.size ≤ q) b) (hL6 : L = 6) (hw1 : flo (stC 0) (2 * 4) gx gy gf) (hw3 : ∀ d, d < 2 * 4 → gt d = 0) (hw4 : ∀ d, d < 2 * 4 → gh d = nI (stC 0 d)) (hw5 : ∀ d, d < 2 * 4 → gc d = nI (stC 0 d)) (hR : mOK r g) (hI : ∀ k, k < 116 → mRef k = false → g k = mI k) (hm1 : flo (stC 0) (2 * 4) kx ky kw) (hm2 : ∀ d, d < 2 * 4 → kt d = 0) (hm3 : ∀ d, d < 2 * 4 → fx d = kx d ∧ fy d = ky d ∧ fw d = kw d) (hm4 : ∀ d, d < 2 * 4 → bx d = kx d ∧ by_ d = ky d ∧ bw d = kw d) (hl : lv_has ls 4 [(0, .ref b), (1, .ref xo), (2, .ref mo), (3, .int (nI 0))]) : W p l e room_1 s m #[Value.ref b] below meth c H locs 146 989044 (lw_Z below #[Value.ref b] s) (F0 m 144 ls []) := by
  subst hL6
  obtain ⟨hx, hb, hr, hml, hown, hts, hlocks, hin⟩ := id F
  have hown : s.vm.findClass RL = some m.cls := hown
  refine lv_aload_n hx hb dL_law_144 rfl (lv_at hl 1 rfl) ?_
  refine lv_aload_n hx hb dL_law_145 rfl (lv_at hl 0 rfl) ?_
  refine lv_iload_n hx hb dL_law_146 rfl (lv_at hl 3 rfl) ?_
  refine lv_iconst (v := nI 1) hx hb dL_law_147 (by decide) ?_
  refine lv_iadd hx hb dL_law_148 ?_
  rw [show ((nI 0) + (nI 1) : Int32) = nI 1 from by decide]
  refine va_sld hx hb hX hbl hbA hS (i := nI 1) (vp_in_nI (by omega) (by omega)) dL_law_149 ?_
  rw [nI_clamp (n := 1) (by decide)]
  refine lv_aload_n hx hb dL_law_150 rfl (lv_at hl 0 rfl) ?_
  refine lv_iload_n hx hb dL_law_151 rfl (lv_at hl 3 rfl) ?_
  refine lv_iconst (v := nI 2) hx hb dL_law_152 (by decide) ?_
  refine lv_iadd hx hb dL_law_153 ?_
  rw [show ((nI 0) + (nI 2) : Int32) = nI 2 from by decide]
  refine va_sld hx hb hX hbl hbA hS (i := nI 2) (vp_in_nI (by omega) (by omega)) dL_law_154 ?_
  rw [nI_clamp (n := 2) (by decide)]
  refine lv_aload_n hx hb dL_law_155 rfl (lv_at hl 0 rfl) ?_
  refine lv_iload_n hx hb dL_law_156 rfl (lv_at hl 3 rfl) ?_
  refine lv_iconst (v := nI 3) hx hb dL_law_157 (by decide) ?_
  refine lv_iadd hx hb dL_law_158 ?_
  rw [show ((nI 0) + (nI 3) : Int32) = nI 3 from by decide]
  refine va_sld hx hb hX hbl hbA hS (i := nI 3) (vp_in_nI (by omega) (by omega)) dL_law_159 ?_
  rw [nI_clamp (n := 3) (by decide)]
  refine lv_aload_n hx hb dL_law_160 rfl (lv_at hl 0 rfl) ?_
  refine lv_iload_n hx hb dL_law_161 rfl (lv_at hl 3 rfl) ?_
  refine lv_iconst (v := nI 4) hx hb dL_law_162 (by decide) ?_
  refine lv_iadd hx hb dL_law_163 ?_
  rw [show ((nI 0) + (nI 4) : Int32) = nI 4 from by decide]
  refine va_sld hx hb hX hbl hbA hS (i := nI 4) (vp_in_nI (by omega) (by omega)) dL_law_164 ?_
  rw [nI_clamp (n := 4) (by decide)]
  refine lv_aload_n hx hb dL_law_165 rfl (lv_at hl 0 rfl) ?_
  refine lv_iload_n hx hb dL_law_166 rfl (lv_at hl 3 rfl) ?_
  refine lv_iconst (v := nI 5) hx hb dL_law_167 (by decide) ?_
  refine lv_iadd hx hb dL_law_168 ?_
  rw [show ((nI 0) + (nI 5) : Int32) = nI 5 from by decide]
  refine va_sld hx hb hX hbl hbA hS (i := nI 5) (vp_in_nI (by omega) (by omega)) dL_law_169 ?_
  rw [nI_clamp (n := 5) (by decide)]
  refine cI_go (wr := [(mo, ob 12 (mfs g)), ((r 0), aB E 4096 (fun _ => 0))]) (cM_runV (As := [.int (xs 1), .int (xs 2), .int (xs 3), .int (xs 4), .int (xs 5)]) (rest := []) F (p_X11_feed l E xo ad gx gy gf v2 gt gh gc (xs 1) (xs 2) (xs 3) (xs 4) (xs 5) hw1 hw3 hw4 hw5) yy_X11_feed yi_X11_feed wdM_RL_13 hP hD hS hK hZ hA [0, 1, 2] rfl rfl 0 11 rfl rfl rfl hl.1 rfl (Nat.le_of_ble_eq_true rfl) dL_law_170 ⟨by decide, by decide⟩ ⟨by decide, by decide⟩) hP hD hS hA [0, 1, 2] [3, 4] rfl rfl rfl (by decide) (fun r_1102 u_1101 H locs hw_1100 hP hD hS => ?_)
  try dsimp only at hw_1100
  have hP : va_P E.1 vwCl [(mo, ob 12 (mfs g)), ((r 0), aB E 4096 (fun _ => 0))] H := hP
  have hD : va_D (fun q : Nat => s.heap.size ≤ q) [(mo, ob 12 (mfs g)), ((r 0), aB E 4096 (fun _ => 0))] := hD
  refine lv_aload_n hx hb dL_law_173 rfl (lv_at hl 2 rfl) ?_
  refine lv_aload_n hx hb dL_law_174 rfl (lv_at hl 0 rfl) ?_
  refine lv_iload_n hx hb dL_law_175 rfl (lv_at hl 3 rfl) ?_
  refine lv_iconst (v := nI 1) hx hb dL_law_176 (by decide) ?_
  refine lv_iadd hx hb dL_law_177 ?_
  rw [show ((nI 0) + (nI 1) : Int32) = nI 1 from by decide]
  refine va_sld hx hb hX hbl hbA hS (i := nI 1) (vp_in_nI (by omega) (by omega)) dL_law_178 ?_
  rw [nI_clamp (n := 1) (by decide)]
  refine lv_aload_n hx hb dL_law_179 rfl (lv_at hl 0 rfl) ?_
  refine lv_iload_n hx hb dL_law_180 rfl (lv_at hl 3 rfl) ?_
  refine lv_iconst (v := nI 2) hx hb dL_law_181 (by decide) ?_
  refine lv_iadd hx hb dL_law_182 ?_
  rw [show ((nI 0) + (nI 2) : Int32) = nI 2 from by decide]
  refine va_sld hx hb hX hbl hbA hS (i := nI 2) (vp_in_nI (by omega) (by omega)) dL_law_183 ?_
  rw [nI_clamp (n := 2) (by decide)]
  refine lv_aload_n hx hb dL_law_184 rfl (lv_at hl 0 rfl) ?_
  refine lv_iload_n hx hb dL_law_185 rfl (lv_at hl 3 rfl) ?_
  refine lv_iconst (v := nI 3) hx hb dL_law_186 (by decide) ?_
  refine lv_iadd hx hb dL_law_187 ?_
  rw [show ((nI 0) + (nI 3) : Int32) = nI 3 from by decide]
  refine va_sld hx hb hX hbl hbA hS (i := nI 3) (vp_in_nI (by omega) (by omega)) dL_law_188 ?_
  rw [nI_clamp (n := 3) (by decide)]
  refine lv_aload_n hx hb dL_law_189 rfl (lv_at hl 0 rfl) ?_
  refine lv_iload_n hx hb dL_law_190 rfl (lv_at hl 3 rfl) ?_
  refine lv_iconst (v := nI 4) hx hb dL_law_191 (by decide) ?_
  refine lv_iadd hx hb dL_law_192 ?_
  rw [show ((nI 0) + (nI 4) : Int32) = nI 4 from by decide]
  refine va_sld hx hb hX hbl hbA hS (i := nI 4) (vp_in_nI (by omega) (by omega)) dL_law_193 ?_
  rw [nI_clamp (n := 4) (by decide)]
  refine lv_aload_n hx hb dL_law_194 rfl (lv_at hl 0 rfl) ?_
  refine lv_iload_n hx hb dL_law_195 rfl (lv_at hl 3 rfl) ?_
  refine lv_iconst (v := nI 5) hx hb dL_law_196 (by decide) ?_
  refine lv_iadd hx hb dL_law_197 ?_
  rw [show ((nI 0) + (nI 5) : Int32) = nI 5 from by decide]
  refine va_sld hx hb hX hbl hbA hS (i := nI 5) (vp_in_nI (by omega) (by omega)) dL_law_198 ?_
  rw [nI_clamp (n := 5) (by decide)]
  refine cI_go (wr := []) (cM_runV (As := [.int (xs 1), .int (xs 2), .int (xs 3), .int (xs 4), .int (xs 5)]) (rest := [.int r_1102]) F (p_X12_feed l E mo r g kx ky kw kt fx fy fw bx by_ bw (xs 1) (xs 2) (xs 3) (xs 4) (xs 5) hR hI hm1 hm2 hm3 hm4) yy_X12_feed yi_X12_feed wdM_RL_17 hP hD hS hK hZ hA [0, 1] rfl rfl 0 12 rfl rfl rfl hl.1 rfl (Nat.le_of_ble_eq_true rfl) dL_law_199 ⟨by decide, by decide⟩ ⟨by decide, by decide⟩) hP hD hS hA [0, 1] [] rfl rfl rfl (by decide) (fun r_1105 u_1104 H locs hw_1103 hP hD hS => ?_)
  try dsimp only at hw_1103
  have hP : va_P E.1 vwCl [] H := hP
  have hD : va_D (fun q : Nat => s.heap.size ≤ q) [] := hD
  refine lv_icmp_eq (tgt := 715) hx hb dL_law_202 (by decide) (fun c_1106 => ?_) (fun c_1106 => absurd (hw_1100.trans hw_1103.symm) c_1106)
  refine lv_iinc (v := nI 6) (lv' := [(3, .int (nI 6)), (0, .ref b), (1, .ref xo), (2, .ref mo)]) hx hb dL_law_715 hl (k := 3) rfl (by decide) (by decide) rfl (fun ls hl => ?_)
  refine lv_goto (tgt := 18) hx hb dL_law_718 (by decide) ?_
  refine lv_iload_n hx hb dL_law_18 rfl (lv_at hl 0 rfl) ?_
  refine lv_aload_n hx hb dL_law_19 rfl (lv_at hl 1 rfl) ?_
  refine va_slen hx hb hX hbl hbA hS dL_law_20 ?_
  refine W.eq (g2 := F0 m 21 ls [.int (nI 6), .int (nI 6)]) rfl ?_
  refine lv_bipush (v := nI 6) hx hb dL_law_21 (by decide) ?_
  refine lv_isub hx hb dL_law_23 ?_
  rw [show ((nI 6) - (nI 6) : Int32) = nI 0 from by decide]
  refine lv_icmp_gt (tgt := 721) hx hb dL_law_24 (by decide) (fun c_1107 => ?_) (fun c_1107 => absurd (by decide) c_1107)
  refine lv_iconst (v := nI 1) hx hb dL_law_721 (by decide) ?_
  refine va_forget (fun q hq => hS.2.2 q hq) ?_
  refine W.widen (k := 600000) (n := 7302250) (by decide) (by decide) ?_
  exact lw_ret hx hb hr hlocks dL_law_722
set_option maxHeartbeats 4000000 in
set_option maxRecDepth 100000 in
theorem lc_end {p : Program} {l : Launch} {e : Env} {s : State} {m : MethodId} {below : List Frame} {meth : Method} {c : Code} {ls : Array Slot} {E : cE} {H : Heap} {locs : List Loc} {b L : Nat} {xs : Nat → Int32} {xo : Nat} {ad : Nat → Nat} {gx : Nat → Int32} {gy : Nat → Int32} {gf : Nat → Int32} {v2 : Int32} {gt : Nat → Int32} {gh : Nat → Int32} {gc : Nat → Int32} {mo : Nat} {r : Nat → Nat} {g : Nat → Value} {kx : Nat → Int32} {ky : Nat → Int32} {kw : Nat → Int32} {kt : Nat → Int32} {fx : Nat → Int32} {fy : Nat → Int32} {fw : Nat → Int32} {bx : Nat → Int32} {by_ : Nat → Int32} {bw : Nat → Int32} (F : cX p s m meth c code 4 ret yL_law #[Value.ref b]) (hA : ∀ q : Nat, s.heap.size ≤ q → (fun q : Nat => s.heap.size ≤ q) q) (hS : va_S (fun q : Nat => s.heap.size ≤ q) s.heap H locs) (hP : va_P E.1 vwCl [(xo, ob 11 [.ref (ad 0), .ref (ad 7), .ref (ad 28), .ref (ad 30), .ref (ad 76), .ref (ad 46), .ref (ad 55), .ref (ad 57), .ref (ad 59), .ref (ad 61), .ref (ad 80), .int 0, .int 0, .int 0, .int (-1), .int (-1), .int (-1)]), ((ad 0), ob 10 [.ref (ad 1), .int 0, .ref (ad 2), .ref (ad 3), .ref (ad 4), .ref (ad 5), .ref (ad 6), .int 0]), (mo, ob 12 (mfs g))] H) (hD : va_D (fun q : Nat => s.heap.size ≤ q) [(xo, ob 11 [.ref (ad 0), .ref (ad 7), .ref (ad 28), .ref (ad 30), .ref (ad 76), .ref (ad 46), .ref (ad 55), .ref (ad 57), .ref (ad 59), .ref (ad 61), .ref (ad 80), .int 0, .int 0, .int 0, .int (-1), .int (-1), .int (-1)]), ((ad 0), ob 10 [.ref (ad 1), .int 0, .ref (ad 2), .ref (ad 3), .ref (ad 4), .ref (ad 5), .ref (ad 6), .int 0]), (mo, ob 12 (mfs g))]) (hK : va_K E.1 vwCl (cTY E.2.1) s) (hZ : cZ E.2.2 (fun q : Nat => s.heap.size ≤ q) s s.heap) (hX : va_X b L xs s s.heap) (hbl : b < s.heap.size) (hbA : ¬ (fun q : Nat => s.heap.size ≤ q) b) (hL6 : L = 6) (hw1 : flo (stC 0) (2 * 4) gx gy gf) (hw3 : ∀ d, d < 2 * 4 → gt d = 0) (hw4 : ∀ d, d < 2 * 4 → gh d = nI (stC 0 d)) (hw5 : ∀ d, d < 2 * 4 → gc d = nI (stC 0 d)) (hR : mOK r g) (hI : ∀ k, k < 116 → mRef k = false → g k = mI k) (hm1 : flo (stC 0) (2 * 4) kx ky kw) (hm2 : ∀ d, d < 2 * 4 → kt d = 0) (hm3 : ∀ d, d < 2 * 4 → fx d = kx d ∧ fy d = ky d ∧ fw d = kw d) (hm4 : ∀ d, d < 2 * 4 → bx d = kx d ∧ by_ d = ky d ∧ bw d = kw d) (hl : lv_has ls 4 [(0, .ref b), (1, .ref xo), (2, .ref mo), (3, .int (nI 0))]) : W p l e room_1 s m #[Value.ref b] below meth c H locs 146 989044 (lw_Z below #[Value.ref b] s) (F0 m 207 ls []) := by
  subst hL6
  obtain ⟨hx, hb, hr, hml, hown, hts, hlocks, hin⟩ := id F
  have hown : s.vm.findClass RL = some m.cls := hown
  refine lv_aload_n hx hb dL_law_207 rfl (lv_at hl 1 rfl) ?_
  refine lv_aload_n hx hb dL_law_208 rfl (lv_at hl 0 rfl) ?_
  refine lv_iload_n hx hb dL_law_209 rfl (lv_at hl 3 rfl) ?_
  refine lv_iconst (v := nI 1) hx hb dL_law_210 (by decide) ?_
  refine lv_iadd hx hb dL_law_211 ?_
  rw [show ((nI 0) + (nI 1) : Int32) = nI 1 from by decide]
  refine va_sld hx hb hX hbl hbA hS (i := nI 1) (vp_in_nI (by omega) (by omega)) dL_law_212 ?_
  rw [nI_clamp (n := 1) (by decide)]
  refine cI_go (wr := [(mo, ob 12 (mfs g))]) (cM_runV (As := [.int (xs 1)]) (rest := []) F (p_X11_end l E xo ad gx gy gf v2 gt gh gc (xs 1) hw1 hw3 hw4 hw5) yy_X11_end yi_X11_end wdM_RL_18 hP hD hS hK hZ hA [0, 1] rfl rfl 0 11 rfl rfl rfl hl.1 rfl (Nat.le_of_ble_eq_true rfl) dL_law_213 ⟨by decide, by decide⟩ ⟨by decide, by decide⟩) hP hD hS hA [0, 1] [2] rfl rfl rfl (by decide) (fun r_1110 u_1109 H locs hw_1108 hP hD hS => ?_)
  try dsimp only at hw_1108
  have hP : va_P E.1 vwCl [(mo, ob 12 (mfs g))] H := hP
  have hD : va_D (fun q : Nat => s.heap.size ≤ q) [(mo, ob 12 (mfs g))] := hD
  refine lv_aload_n hx hb dL_law_216 rfl (lv_at hl 2 rfl) ?_
  refine lv_aload_n hx hb dL_law_217 rfl (lv_at hl 0 rfl) ?_
  refine lv_iload_n hx hb dL_law_218 rfl (lv_at hl 3 rfl) ?_
  refine lv_iconst (v := nI 1) hx hb dL_law_219 (by decide) ?_
  refine lv_iadd hx hb dL_law_220 ?_
  rw [show ((nI 0) + (nI 1) : Int32) = nI 1 from by decide]
  refine va_sld hx hb hX hbl hbA hS (i := nI 1) (vp_in_nI (by omega) (by omega)) dL_law_221 ?_
  rw [nI_clamp (n := 1) (by decide)]
  refine cI_go (wr := []) (cM_runV (As := [.int (xs 1)]) (rest := [.int r_1110]) F (p_X12_end l E mo r g kx ky kw kt fx fy fw bx by_ bw (xs 1) hR hI hm1 hm2 hm3 hm4) yy_X12_end yi_X12_end wdM_RL_22 hP hD hS hK hZ hA [0] rfl rfl 0 12 rfl rfl rfl hl.1 rfl (Nat.le_of_ble_eq_true rfl) dL_law_222 ⟨by decide, by decide⟩ ⟨by decide, by decide⟩) hP hD hS hA [0] [] rfl rfl rfl (by decide) (fun r_1113 u_1112 H locs hw_1111 hP hD hS => ?_)
  try dsimp only at hw_1111
  have hP : va_P E.1 vwCl [] H := hP
  have hD : va_D (fun q : Nat => s.heap.size ≤ q) [] := hD
  refine lv_icmp_eq (tgt := 715) hx hb dL_law_225 (by decide) (fun c_1114 => ?_) (fun c_1114 => absurd (hw_1108.trans hw_1111.symm) c_1114)
  refine lv_iinc (v := nI 6) (lv' := [(3, .int (nI 6)), (0, .ref b), (1, .ref xo), (2, .ref mo)]) hx hb dL_law_715 hl (k := 3) rfl (by decide) (by decide) rfl (fun ls hl => ?_)
  refine lv_goto (tgt := 18) hx hb dL_law_718 (by decide) ?_
  refine lv_iload_n hx hb dL_law_18 rfl (lv_at hl 0 rfl) ?_
  refine lv_aload_n hx hb dL_law_19 rfl (lv_at hl 1 rfl) ?_
  refine va_slen hx hb hX hbl hbA hS dL_law_20 ?_
  refine W.eq (g2 := F0 m 21 ls [.int (nI 6), .int (nI 6)]) rfl ?_
  refine lv_bipush (v := nI 6) hx hb dL_law_21 (by decide) ?_
  refine lv_isub hx hb dL_law_23 ?_
  rw [show ((nI 6) - (nI 6) : Int32) = nI 0 from by decide]
  refine lv_icmp_gt (tgt := 721) hx hb dL_law_24 (by decide) (fun c_1115 => ?_) (fun c_1115 => absurd (by decide) c_1115)
  refine lv_iconst (v := nI 1) hx hb dL_law_721 (by decide) ?_
  refine va_forget (fun q hq => hS.2.2 q hq) ?_
  refine W.widen (k := 600000) (n := 7302250) (by decide) (by decide) ?_
  exact lw_ret hx hb hr hlocks dL_law_722
set_option maxHeartbeats 4000000 in
set_option maxRecDepth 100000 in
theorem lc_load {p : Program} {l : Launch} {e : Env} {s : State} {m : MethodId} {below : List Frame} {meth : Method} {c : Code} {ls : Array Slot} {E : cE} {H : Heap} {locs : List Loc} {b L : Nat} {xs : Nat → Int32} {xo : Nat} {ad : Nat → Nat} {gx : Nat → Int32} {gy : Nat → Int32} {gf : Nat → Int32} {v2 : Int32} {gt : Nat → Int32} {gh : Nat → Int32} {gc : Nat → Int32} {mo : Nat} {r : Nat → Nat} {g : Nat → Value} {kx : Nat → Int32} {ky : Nat → Int32} {kw : Nat → Int32} {kt : Nat → Int32} {fx : Nat → Int32} {fy : Nat → Int32} {fw : Nat → Int32} {bx : Nat → Int32} {by_ : Nat → Int32} {bw : Nat → Int32} (F : cX p s m meth c code 4 ret yL_law #[Value.ref b]) (hA : ∀ q : Nat, s.heap.size ≤ q → (fun q : Nat => s.heap.size ≤ q) q) (hS : va_S (fun q : Nat => s.heap.size ≤ q) s.heap H locs) (hP : va_P E.1 vwCl [(xo, ob 11 [.ref (ad 0), .ref (ad 7), .ref (ad 28), .ref (ad 30), .ref (ad 76), .ref (ad 46), .ref (ad 55), .ref (ad 57), .ref (ad 59), .ref (ad 61), .ref (ad 80), .int 0, .int 0, .int 0, .int (-1), .int (-1), .int (-1)]), ((ad 0), ob 10 [.ref (ad 1), .int 0, .ref (ad 2), .ref (ad 3), .ref (ad 4), .ref (ad 5), .ref (ad 6), .int 0]), ((ad 1), aB E 4096 (fun _ => 0)), ((ad 3), aI E 4098 (fun _ => 0)), ((ad 4), aI E 4098 (fun _ => 0)), ((ad 5), aI E 4098 (fun _ => 0)), ((ad 28), ob 7 [.ref (ad 0), .ref (ad 7), .int 0, .int 0, .int 0, .int 0, .int 0, .int 0, .int 0, .int 0, .int 0, .int 0, .ref (ad 29)]), ((ad 29), aI E 6 (fun _ => 0)), ((ad 7), ob 0 [.ref (ad 8), .ref (ad 10), .ref (ad 12), .ref (ad 14), .ref (ad 15), .ref (ad 16), .ref (ad 17), .ref (ad 18), .ref (ad 19), .ref (ad 20), .ref (ad 21), .ref (ad 22), .ref (ad 23), .ref (ad 24), .ref (ad 25), .ref (ad 26), .int 0, .ref (ad 27), .int 0, .int 0]), ((ad 8), ob 6 [.ref (ad 9), .int (nI 40), .int 0]), ((ad 10), ob 6 [.ref (ad 11), .int (nI 100), .int 0]), ((ad 12), ob 6 [.ref (ad 13), .int (nI 60), .int 0]), (mo, ob 12 (mfs g)), ((r 0), aB E 4096 (fun _ => 0))] H) (hD : va_D (fun q : Nat => s.heap.size ≤ q) [(xo, ob 11 [.ref (ad 0), .ref (ad 7), .ref (ad 28), .ref (ad 30), .ref (ad 76), .ref (ad 46), .ref (ad 55), .ref (ad 57), .ref (ad 59), .ref (ad 61), .ref (ad 80), .int 0, .int 0, .int 0, .int (-1), .int (-1), .int (-1)]), ((ad 0), ob 10 [.ref (ad 1), .int 0, .ref (ad 2), .ref (ad 3), .ref (ad 4), .ref (ad 5), .ref (ad 6), .int 0]), ((ad 1), aB E 4096 (fun _ => 0)), ((ad 3), aI E 4098 (fun _ => 0)), ((ad 4), aI E 4098 (fun _ => 0)), ((ad 5), aI E 4098 (fun _ => 0)), ((ad 28), ob 7 [.ref (ad 0), .ref (ad 7), .int 0, .int 0, .int 0, .int 0, .int 0, .int 0, .int 0, .int 0, .int 0, .int 0, .ref (ad 29)]), ((ad 29), aI E 6 (fun _ => 0)), ((ad 7), ob 0 [.ref (ad 8), .ref (ad 10), .ref (ad 12), .ref (ad 14), .ref (ad 15), .ref (ad 16), .ref (ad 17), .ref (ad 18), .ref (ad 19), .ref (ad 20), .ref (ad 21), .ref (ad 22), .ref (ad 23), .ref (ad 24), .ref (ad 25), .ref (ad 26), .int 0, .ref (ad 27), .int 0, .int 0]), ((ad 8), ob 6 [.ref (ad 9), .int (nI 40), .int 0]), ((ad 10), ob 6 [.ref (ad 11), .int (nI 100), .int 0]), ((ad 12), ob 6 [.ref (ad 13), .int (nI 60), .int 0]), (mo, ob 12 (mfs g)), ((r 0), aB E 4096 (fun _ => 0))]) (hK : va_K E.1 vwCl (cTY E.2.1) s) (hZ : cZ E.2.2 (fun q : Nat => s.heap.size ≤ q) s s.heap) (hX : va_X b L xs s s.heap) (hbl : b < s.heap.size) (hbA : ¬ (fun q : Nat => s.heap.size ≤ q) b) (hL6 : L = 6) (hw1 : flo (stC 0) (2 * 4) gx gy gf) (hw3 : ∀ d, d < 2 * 4 → gt d = 0) (hw4 : ∀ d, d < 2 * 4 → gh d = nI (stC 0 d)) (hw5 : ∀ d, d < 2 * 4 → gc d = nI (stC 0 d)) (hR : mOK r g) (hI : ∀ k, k < 116 → mRef k = false → g k = mI k) (hm1 : flo (stC 0) (2 * 4) kx ky kw) (hm2 : ∀ d, d < 2 * 4 → kt d = 0) (hm3 : ∀ d, d < 2 * 4 → fx d = kx d ∧ fy d = ky d ∧ fw d = kw d) (hm4 : ∀ d, d < 2 * 4 → bx d = kx d ∧ by_ d = ky d ∧ bw d = kw d) (hl : lv_has ls 4 [(0, .ref b), (1, .ref xo), (2, .ref mo), (3, .int (nI 0))]) : W p l e room_1 s m #[Value.ref b] below meth c H locs 146 989044 (lw_Z below #[Value.ref b] s) (F0 m 230 ls []) := by
  subst hL6
  obtain ⟨hx, hb, hr, hml, hown, hts, hlocks, hin⟩ := id F
  have hown : s.vm.findClass RL = some m.cls := hown
  refine lv_aload_n hx hb dL_law_230 rfl (lv_at hl 1 rfl) ?_
  refine cI_go (wr := [(mo, ob 12 (mfs g)), ((r 0), aB E 4096 (fun _ => 0))]) (cM_runV (As := []) (rest := []) F (p_X11_load l E xo ad gx gy gf v2 gt gh gc hw1 hw3 hw4 hw5) yy_X11_load yi_X11_load wdM_RL_23 hP hD hS hK hZ hA [0, 1, 2, 3, 4, 5, 6, 7, 8, 9, 10, 11] rfl rfl 0 11 rfl rfl rfl hl.1 rfl (Nat.le_of_ble_eq_true rfl) dL_law_231 ⟨by decide, by decide⟩ ⟨by decide, by decide⟩) hP hD hS hA [0, 1, 2, 3, 4, 5, 6, 7, 8, 9, 10, 11] [12, 13] rfl rfl rfl (by decide) (fun r_1118 u_1117 H locs hw_1116 hP hD hS => ?_)
  try dsimp only at hw_1116
  have hP : va_P E.1 vwCl [(mo, ob 12 (mfs g)), ((r 0), aB E 4096 (fun _ => 0))] H := hP
  have hD : va_D (fun q : Nat => s.heap.size ≤ q) [(mo, ob 12 (mfs g)), ((r 0), aB E 4096 (fun _ => 0))] := hD
  refine lv_aload_n hx hb dL_law_234 rfl (lv_at hl 2 rfl) ?_
  refine cI_go (wr := []) (cM_runV (As := []) (rest := [.int r_1118]) F (p_X12_load l E mo r g kx ky kw kt fx fy fw bx by_ bw hR hI hm1 hm2 hm3 hm4) yy_X12_load yi_X12_load wdM_RL_27 hP hD hS hK hZ hA [0, 1] rfl rfl 0 12 rfl rfl rfl hl.1 rfl (Nat.le_of_ble_eq_true rfl) dL_law_235 ⟨by decide, by decide⟩ ⟨by decide, by decide⟩) hP hD hS hA [0, 1] [] rfl rfl rfl (by decide) (fun r_1121 u_1120 H locs hw_1119 hP hD hS => ?_)
  try dsimp only at hw_1119
  have hP : va_P E.1 vwCl [] H := hP
  have hD : va_D (fun q : Nat => s.heap.size ≤ q) [] := hD
  refine lv_icmp_eq (tgt := 715) hx hb dL_law_238 (by decide) (fun c_1122 => ?_) (fun c_1122 => absurd (hw_1116.trans hw_1119.symm) c_1122)
  refine lv_iinc (v := nI 6) (lv' := [(3, .int (nI 6)), (0, .ref b), (1, .ref xo), (2, .ref mo)]) hx hb dL_law_715 hl (k := 3) rfl (by decide) (by decide) rfl (fun ls hl => ?_)
  refine lv_goto (tgt := 18) hx hb dL_law_718 (by decide) ?_
  refine lv_iload_n hx hb dL_law_18 rfl (lv_at hl 0 rfl) ?_
  refine lv_aload_n hx hb dL_law_19 rfl (lv_at hl 1 rfl) ?_
  refine va_slen hx hb hX hbl hbA hS dL_law_20 ?_
  refine W.eq (g2 := F0 m 21 ls [.int (nI 6), .int (nI 6)]) rfl ?_
  refine lv_bipush (v := nI 6) hx hb dL_law_21 (by decide) ?_
  refine lv_isub hx hb dL_law_23 ?_
  rw [show ((nI 6) - (nI 6) : Int32) = nI 0 from by decide]
  refine lv_icmp_gt (tgt := 721) hx hb dL_law_24 (by decide) (fun c_1123 => ?_) (fun c_1123 => absurd (by decide) c_1123)
  refine lv_iconst (v := nI 1) hx hb dL_law_721 (by decide) ?_
  refine va_forget (fun q hq => hS.2.2 q hq) ?_
  refine W.widen (k := 600000) (n := 7302250) (by decide) (by decide) ?_
  exact lw_ret hx hb hr hlocks dL_law_722
set_option maxHeartbeats 4000000 in
set_option maxRecDepth 100000 in
theorem lc_call {p : Program} {l : Launch} {e : Env} {s : State} {m : MethodId} {below : List Frame} {meth : Method} {c : Code} {ls : Array Slot} {E : cE} {H : Heap} {locs : List Loc} {b L : Nat} {xs : Nat → Int32} {xo : Nat} {ad : Nat → Nat} {gx : Nat → Int32} {gy : Nat → Int32} {gf : Nat → Int32} {v2 : Int32} {gt : Nat → Int32} {gh : Nat → Int32} {gc : Nat → Int32} {mo : Nat} {r : Nat → Nat} {g : Nat → Value} {kx : Nat → Int32} {ky : Nat → Int32} {kw : Nat → Int32} {kt : Nat → Int32} {fx : Nat → Int32} {fy : Nat → Int32} {fw : Nat → Int32} {bx : Nat → Int32} {by_ : Nat → Int32} {bw : Nat → Int32} (F : cX p s m meth c code 4 ret yL_law #[Value.ref b]) (hA : ∀ q : Nat, s.heap.size ≤ q → (fun q : Nat => s.heap.size ≤ q) q) (hS : va_S (fun q : Nat => s.heap.size ≤ q) s.heap H locs) (hP : va_P E.1 vwCl [(xo, ob 11 [.ref (ad 0), .ref (ad 7), .ref (ad 28), .ref (ad 30), .ref (ad 76), .ref (ad 46), .ref (ad 55), .ref (ad 57), .ref (ad 59), .ref (ad 61), .ref (ad 80), .int 0, .int 0, .int 0, .int (-1), .int (-1), .int (-1)]), ((ad 0), ob 10 [.ref (ad 1), .int 0, .ref (ad 2), .ref (ad 3), .ref (ad 4), .ref (ad 5), .ref (ad 6), .int 0]), ((ad 1), aB E 4096 (fun _ => 0)), ((ad 3), aI E 4098 (fun _ => 0)), ((ad 4), aI E 4098 (fun _ => 0)), ((ad 5), aI E 4098 (fun _ => 0)), ((ad 28), ob 7 [.ref (ad 0), .ref (ad 7), .int 0, .int 0, .int 0, .int 0, .int 0, .int 0, .int 0, .int 0, .int 0, .int 0, .ref (ad 29)]), ((ad 29), aI E 6 (fun _ => 0)), ((ad 7), ob 0 [.ref (ad 8), .ref (ad 10), .ref (ad 12), .ref (ad 14), .ref (ad 15), .ref (ad 16), .ref (ad 17), .ref (ad 18), .ref (ad 19), .ref (ad 20), .ref (ad 21), .ref (ad 22), .ref (ad 23), .ref (ad 24), .ref (ad 25), .ref (ad 26), .int 0, .ref (ad 27), .int 0, .int 0]), ((ad 8), ob 6 [.ref (ad 9), .int (nI 40), .int 0]), ((ad 10), ob 6 [.ref (ad 11), .int (nI 100), .int 0]), ((ad 12), ob 6 [.ref (ad 13), .int (nI 60), .int 0]), (mo, ob 12 (mfs g)), ((r 0), aB E 4096 (fun _ => 0)), ((r 31), aI E 10100 (fun _ => 0))] H) (hD : va_D (fun q : Nat => s.heap.size ≤ q) [(xo, ob 11 [.ref (ad 0), .ref (ad 7), .ref (ad 28), .ref (ad 30), .ref (ad 76), .ref (ad 46), .ref (ad 55), .ref (ad 57), .ref (ad 59), .ref (ad 61), .ref (ad 80), .int 0, .int 0, .int 0, .int (-1), .int (-1), .int (-1)]), ((ad 0), ob 10 [.ref (ad 1), .int 0, .ref (ad 2), .ref (ad 3), .ref (ad 4), .ref (ad 5), .ref (ad 6), .int 0]), ((ad 1), aB E 4096 (fun _ => 0)), ((ad 3), aI E 4098 (fun _ => 0)), ((ad 4), aI E 4098 (fun _ => 0)), ((ad 5), aI E 4098 (fun _ => 0)), ((ad 28), ob 7 [.ref (ad 0), .ref (ad 7), .int 0, .int 0, .int 0, .int 0, .int 0, .int 0, .int 0, .int 0, .int 0, .int 0, .ref (ad 29)]), ((ad 29), aI E 6 (fun _ => 0)), ((ad 7), ob 0 [.ref (ad 8), .ref (ad 10), .ref (ad 12), .ref (ad 14), .ref (ad 15), .ref (ad 16), .ref (ad 17), .ref (ad 18), .ref (ad 19), .ref (ad 20), .ref (ad 21), .ref (ad 22), .ref (ad 23), .ref (ad 24), .ref (ad 25), .ref (ad 26), .int 0, .ref (ad 27), .int 0, .int 0]), ((ad 8), ob 6 [.ref (ad 9), .int (nI 40), .int 0]), ((ad 10), ob 6 [.ref (ad 11), .int (nI 100), .int 0]), ((ad 12), ob 6 [.ref (ad 13), .int (nI 60), .int 0]), (mo, ob 12 (mfs g)), ((r 0), aB E 4096 (fun _ => 0)), ((r 31), aI E 10100 (fun _ => 0))]) (hK : va_K E.1 vwCl (cTY E.2.1) s) (hZ : cZ E.2.2 (fun q : Nat => s.heap.size ≤ q) s s.heap) (hX : va_X b L xs s s.heap) (hbl : b < s.heap.size) (hbA : ¬ (fun q : Nat => s.heap.size ≤ q) b) (hL6 : L = 6) (hw1 : flo (stC 0) (2 * 4) gx gy gf) (hw3 : ∀ d, d < 2 * 4 → gt d = 0) (hw4 : ∀ d, d < 2 * 4 → gh d = nI (stC 0 d)) (hw5 : ∀ d, d < 2 * 4 → gc d = nI (stC 0 d)) (hR : mOK r g) (hI : ∀ k, k < 116 → mRef k = false → g k = mI k) (hm1 : flo (stC 0) (2 * 4) kx ky kw) (hm2 : ∀ d, d < 2 * 4 → kt d = 0) (hm3 : ∀ d, d < 2 * 4 → fx d = kx d ∧ fy d = ky d ∧ fw d = kw d) (hm4 : ∀ d, d < 2 * 4 → bx d = kx d ∧ by_ d = ky d ∧ bw d = kw d) (hl : lv_has ls 4 [(0, .ref b), (1, .ref xo), (2, .ref mo), (3, .int (nI 0))]) : W p l e room_1 s m #[Value.ref b] below meth c H locs 146 989044 (lw_Z below #[Value.ref b] s) (F0 m 243 ls []) := by
  subst hL6
  obtain ⟨hx, hb, hr, hml, hown, hts, hlocks, hin⟩ := id F
  have hown : s.vm.findClass RL = some m.cls := hown
  refine lv_aload_n hx hb dL_law_243 rfl (lv_at hl 1 rfl) ?_
  refine cI_go (wr := [(mo, ob 12 (mfs g)), ((r 0), aB E 4096 (fun _ => 0)), ((r 31), aI E 10100 (fun _ => 0))]) (cM_runV (As := []) (rest := []) F (p_X11_call l E xo ad gx gy gf v2 gt gh gc hw1 hw3 hw4 hw5) yy_X11_call yi_X11_call wdM_RL_28 hP hD hS hK hZ hA [0, 1, 2, 3, 4, 5, 6, 7, 8, 9, 10, 11] rfl rfl 0 11 rfl rfl rfl hl.1 rfl (Nat.le_of_ble_eq_true rfl) dL_law_244 ⟨by decide, by decide⟩ ⟨by decide, by decide⟩) hP hD hS hA [0, 1, 2, 3, 4, 5, 6, 7, 8, 9, 10, 11] [12, 13, 14] rfl rfl rfl (by decide) (fun r_1126 u_1125 H locs hw_1124 hP hD hS => ?_)
  try dsimp only at hw_1124
  have hP : va_P E.1 vwCl [(mo, ob 12 (mfs g)), ((r 0), aB E 4096 (fun _ => 0)), ((r 31), aI E 10100 (fun _ => 0))] H := hP
  have hD : va_D (fun q : Nat => s.heap.size ≤ q) [(mo, ob 12 (mfs g)), ((r 0), aB E 4096 (fun _ => 0)), ((r 31), aI E 10100 (fun _ => 0))] := hD
  refine lv_aload_n hx hb dL_law_247 rfl (lv_at hl 2 rfl) ?_
  refine cI_go (wr := []) (cM_runV (As := []) (rest := [.int r_1126]) F (p_X12_call l E mo r g kx ky kw kt fx fy fw bx by_ bw hR hI hm1 hm2 hm3 hm4) yy_X12_call yi_X12_call wdM_RL_31 hP hD hS hK hZ hA [0, 1, 2] rfl rfl 0 12 rfl rfl rfl hl.1 rfl (Nat.le_of_ble_eq_true rfl) dL_law_248 ⟨by decide, by decide⟩ ⟨by decide, by decide⟩) hP hD hS hA [0, 1, 2] [] rfl rfl rfl (by decide) (fun r_1129 u_1128 H locs hw_1127 hP hD hS => ?_)
  try dsimp only at hw_1127
  have hP : va_P E.1 vwCl [] H := hP
  have hD : va_D (fun q : Nat => s.heap.size ≤ q) [] := hD
  refine lv_icmp_eq (tgt := 715) hx hb dL_law_251 (by decide) (fun c_1130 => ?_) (fun c_1130 => absurd (hw_1124.trans hw_1127.symm) c_1130)
  refine lv_iinc (v := nI 6) (lv' := [(3, .int (nI 6)), (0, .ref b), (1, .ref xo), (2, .ref mo)]) hx hb dL_law_715 hl (k := 3) rfl (by decide) (by decide) rfl (fun ls hl => ?_)
  refine lv_goto (tgt := 18) hx hb dL_law_718 (by decide) ?_
  refine lv_iload_n hx hb dL_law_18 rfl (lv_at hl 0 rfl) ?_
  refine lv_aload_n hx hb dL_law_19 rfl (lv_at hl 1 rfl) ?_
  refine va_slen hx hb hX hbl hbA hS dL_law_20 ?_
  refine W.eq (g2 := F0 m 21 ls [.int (nI 6), .int (nI 6)]) rfl ?_
  refine lv_bipush (v := nI 6) hx hb dL_law_21 (by decide) ?_
  refine lv_isub hx hb dL_law_23 ?_
  rw [show ((nI 6) - (nI 6) : Int32) = nI 0 from by decide]
  refine lv_icmp_gt (tgt := 721) hx hb dL_law_24 (by decide) (fun c_1131 => ?_) (fun c_1131 => absurd (by decide) c_1131)
  refine lv_iconst (v := nI 1) hx hb dL_law_721 (by decide) ?_
  refine va_forget (fun q hq => hS.2.2 q hq) ?_
  refine W.widen (k := 600000) (n := 7302250) (by decide) (by decide) ?_
  exact lw_ret hx hb hr hlocks dL_law_722
set_option maxHeartbeats 4000000 in
set_option maxRecDepth 100000 in
theorem lc_fault {p : Program} {l : Launch} {e : Env} {s : State} {m : MethodId} {below : List Frame} {meth : Method} {c : Code} {ls : Array Slot} {E : cE} {H : Heap} {locs : List Loc} {b L : Nat} {xs : Nat → Int32} {xo : Nat} {ad : Nat → Nat} {gx : Nat → Int32} {gy : Nat → Int32} {gf : Nat → Int32} {v2 : Int32} {gt : Nat → Int32} {gh : Nat → Int32} {gc : Nat → Int32} {mo : Nat} {r : Nat → Nat} {g : Nat → Value} {kx : Nat → Int32} {ky : Nat → Int32} {kw : Nat → Int32} {kt : Nat → Int32} {fx : Nat → Int32} {fy : Nat → Int32} {fw : Nat → Int32} {bx : Nat → Int32} {by_ : Nat → Int32} {bw : Nat → Int32} (F : cX p s m meth c code 4 ret yL_law #[Value.ref b]) (hA : ∀ q : Nat, s.heap.size ≤ q → (fun q : Nat => s.heap.size ≤ q) q) (hS : va_S (fun q : Nat => s.heap.size ≤ q) s.heap H locs) (hP : va_P E.1 vwCl [(xo, ob 11 [.ref (ad 0), .ref (ad 7), .ref (ad 28), .ref (ad 30), .ref (ad 76), .ref (ad 46), .ref (ad 55), .ref (ad 57), .ref (ad 59), .ref (ad 61), .ref (ad 80), .int 0, .int 0, .int 0, .int (-1), .int (-1), .int (-1)]), (mo, ob 12 (mfs g))] H) (hD : va_D (fun q : Nat => s.heap.size ≤ q) [(xo, ob 11 [.ref (ad 0), .ref (ad 7), .ref (ad 28), .ref (ad 30), .ref (ad 76), .ref (ad 46), .ref (ad 55), .ref (ad 57), .ref (ad 59), .ref (ad 61), .ref (ad 80), .int 0, .int 0, .int 0, .int (-1), .int (-1), .int (-1)]), (mo, ob 12 (mfs g))]) (hK : va_K E.1 vwCl (cTY E.2.1) s) (hZ : cZ E.2.2 (fun q : Nat => s.heap.size ≤ q) s s.heap) (hX : va_X b L xs s s.heap) (hbl : b < s.heap.size) (hbA : ¬ (fun q : Nat => s.heap.size ≤ q) b) (hL6 : L = 6) (hw1 : flo (stC 0) (2 * 4) gx gy gf) (hw3 : ∀ d, d < 2 * 4 → gt d = 0) (hw4 : ∀ d, d < 2 * 4 → gh d = nI (stC 0 d)) (hw5 : ∀ d, d < 2 * 4 → gc d = nI (stC 0 d)) (hR : mOK r g) (hI : ∀ k, k < 116 → mRef k = false → g k = mI k) (hm1 : flo (stC 0) (2 * 4) kx ky kw) (hm2 : ∀ d, d < 2 * 4 → kt d = 0) (hm3 : ∀ d, d < 2 * 4 → fx d = kx d ∧ fy d = ky d ∧ fw d = kw d) (hm4 : ∀ d, d < 2 * 4 → bx d = kx d ∧ by_ d = ky d ∧ bw d = kw d) (hl : lv_has ls 4 [(0, .ref b), (1, .ref xo), (2, .ref mo), (3, .int (nI 0))]) : W p l e room_1 s m #[Value.ref b] below meth c H locs 146 989044 (lw_Z below #[Value.ref b] s) (F0 m 256 ls []) := by
  subst hL6
  obtain ⟨hx, hb, hr, hml, hown, hts, hlocks, hin⟩ := id F
  have hown : s.vm.findClass RL = some m.cls := hown
  refine lv_aload_n hx hb dL_law_256 rfl (lv_at hl 1 rfl) ?_
  refine cI_go (wr := [(mo, ob 12 (mfs g))]) (cM_runV (As := []) (rest := []) F (p_X11_fault l E xo ad gx gy gf v2 gt gh gc hw1 hw3 hw4 hw5) yy_X11_fault yi_X11_fault wdM_RL_32 hP hD hS hK hZ hA [0] rfl rfl 0 11 rfl rfl rfl hl.1 rfl (Nat.le_of_ble_eq_true rfl) dL_law_257 ⟨by decide, by decide⟩ ⟨by decide, by decide⟩) hP hD hS hA [0] [1] rfl rfl rfl (by decide) (fun r_1134 u_1133 H locs hw_1132 hP hD hS => ?_)
  try dsimp only at hw_1132
  have hP : va_P E.1 vwCl [(mo, ob 12 (mfs g))] H := hP
  have hD : va_D (fun q : Nat => s.heap.size ≤ q) [(mo, ob 12 (mfs g))] := hD
  refine lv_aload_n hx hb dL_law_260 rfl (lv_at hl 2 rfl) ?_
  refine cI_go (wr := []) (cM_runV (As := []) (rest := [.int r_1134]) F (p_X12_fault l E mo r g kx ky kw kt fx fy fw bx by_ bw hR hI hm1 hm2 hm3 hm4) yy_X12_fault yi_X12_fault wdM_RL_35 hP hD hS hK hZ hA [0] rfl rfl 0 12 rfl rfl rfl hl.1 rfl (Nat.le_of_ble_eq_true rfl) dL_law_261 ⟨by decide, by decide⟩ ⟨by decide, by decide⟩) hP hD hS hA [0] [] rfl rfl rfl (by decide) (fun r_1137 u_1136 H locs hw_1135 hP hD hS => ?_)
  try dsimp only at hw_1135
  have hP : va_P E.1 vwCl [] H := hP
  have hD : va_D (fun q : Nat => s.heap.size ≤ q) [] := hD
  refine lv_icmp_eq (tgt := 715) hx hb dL_law_264 (by decide) (fun c_1138 => ?_) (fun c_1138 => absurd (hw_1132.trans hw_1135.symm) c_1138)
  refine lv_iinc (v := nI 6) (lv' := [(3, .int (nI 6)), (0, .ref b), (1, .ref xo), (2, .ref mo)]) hx hb dL_law_715 hl (k := 3) rfl (by decide) (by decide) rfl (fun ls hl => ?_)
  refine lv_goto (tgt := 18) hx hb dL_law_718 (by decide) ?_
  refine lv_iload_n hx hb dL_law_18 rfl (lv_at hl 0 rfl) ?_
  refine lv_aload_n hx hb dL_law_19 rfl (lv_at hl 1 rfl) ?_
  refine va_slen hx hb hX hbl hbA hS dL_law_20 ?_
  refine W.eq (g2 := F0 m 21 ls [.int (nI 6), .int (nI 6)]) rfl ?_
  refine lv_bipush (v := nI 6) hx hb dL_law_21 (by decide) ?_
  refine lv_isub hx hb dL_law_23 ?_
  rw [show ((nI 6) - (nI 6) : Int32) = nI 0 from by decide]
  refine lv_icmp_gt (tgt := 721) hx hb dL_law_24 (by decide) (fun c_1139 => ?_) (fun c_1139 => absurd (by decide) c_1139)
  refine lv_iconst (v := nI 1) hx hb dL_law_721 (by decide) ?_
  refine va_forget (fun q hq => hS.2.2 q hq) ?_
  refine W.widen (k := 600000) (n := 7302250) (by decide) (by decide) ?_
  exact lw_ret hx hb hr hlocks dL_law_722
set_option maxHeartbeats 4000000 in
set_option maxRecDepth 100000 in
theorem lc_named {p : Program} {l : Launch} {e : Env} {s : State} {m : MethodId} {below : List Frame} {meth : Method} {c : Code} {ls : Array Slot} {E : cE} {H : Heap} {locs : List Loc} {b L : Nat} {xs : Nat → Int32} {xo : Nat} {ad : Nat → Nat} {gx : Nat → Int32} {gy : Nat → Int32} {gf : Nat → Int32} {v2 : Int32} {gt : Nat → Int32} {gh : Nat → Int32} {gc : Nat → Int32} {mo : Nat} {r : Nat → Nat} {g : Nat → Value} {kx : Nat → Int32} {ky : Nat → Int32} {kw : Nat → Int32} {kt : Nat → Int32} {fx : Nat → Int32} {fy : Nat → Int32} {fw : Nat → Int32} {bx : Nat → Int32} {by_ : Nat → Int32} {bw : Nat → Int32} (F : cX p s m meth c code 4 ret yL_law #[Value.ref b]) (hA : ∀ q : Nat, s.heap.size ≤ q → (fun q : Nat => s.heap.size ≤ q) q) (hS : va_S (fun q : Nat => s.heap.size ≤ q) s.heap H locs) (hP : va_P E.1 vwCl [(xo, ob 11 [.ref (ad 0), .ref (ad 7), .ref (ad 28), .ref (ad 30), .ref (ad 76), .ref (ad 46), .ref (ad 55), .ref (ad 57), .ref (ad 59), .ref (ad 61), .ref (ad 80), .int 0, .int 0, .int 0, .int (-1), .int (-1), .int (-1)]), ((ad 0), ob 10 [.ref (ad 1), .int 0, .ref (ad 2), .ref (ad 3), .ref (ad 4), .ref (ad 5), .ref (ad 6), .int 0]), ((ad 1), aB E 4096 (fun _ => 0)), ((ad 3), aI E 4098 (fun _ => 0)), ((ad 4), aI E 4098 (fun _ => 0)), ((ad 5), aI E 4098 (fun _ => 0)), ((ad 28), ob 7 [.ref (ad 0), .ref (ad 7), .int 0, .int 0, .int 0, .int 0, .int 0, .int 0, .int 0, .int 0, .int 0, .int 0, .ref (ad 29)]), ((ad 29), aI E 6 (fun _ => 0)), ((ad 7), ob 0 [.ref (ad 8), .ref (ad 10), .ref (ad 12), .ref (ad 14), .ref (ad 15), .ref (ad 16), .ref (ad 17), .ref (ad 18), .ref (ad 19), .ref (ad 20), .ref (ad 21), .ref (ad 22), .ref (ad 23), .ref (ad 24), .ref (ad 25), .ref (ad 26), .int 0, .ref (ad 27), .int 0, .int 0]), ((ad 8), ob 6 [.ref (ad 9), .int (nI 40), .int 0]), ((ad 10), ob 6 [.ref (ad 11), .int (nI 100), .int 0]), ((ad 12), ob 6 [.ref (ad 13), .int (nI 60), .int 0]), (mo, ob 12 (mfs g)), ((r 0), aB E 4096 (fun _ => 0))] H) (hD : va_D (fun q : Nat => s.heap.size ≤ q) [(xo, ob 11 [.ref (ad 0), .ref (ad 7), .ref (ad 28), .ref (ad 30), .ref (ad 76), .ref (ad 46), .ref (ad 55), .ref (ad 57), .ref (ad 59), .ref (ad 61), .ref (ad 80), .int 0, .int 0, .int 0, .int (-1), .int (-1), .int (-1)]), ((ad 0), ob 10 [.ref (ad 1), .int 0, .ref (ad 2), .ref (ad 3), .ref (ad 4), .ref (ad 5), .ref (ad 6), .int 0]), ((ad 1), aB E 4096 (fun _ => 0)), ((ad 3), aI E 4098 (fun _ => 0)), ((ad 4), aI E 4098 (fun _ => 0)), ((ad 5), aI E 4098 (fun _ => 0)), ((ad 28), ob 7 [.ref (ad 0), .ref (ad 7), .int 0, .int 0, .int 0, .int 0, .int 0, .int 0, .int 0, .int 0, .int 0, .int 0, .ref (ad 29)]), ((ad 29), aI E 6 (fun _ => 0)), ((ad 7), ob 0 [.ref (ad 8), .ref (ad 10), .ref (ad 12), .ref (ad 14), .ref (ad 15), .ref (ad 16), .ref (ad 17), .ref (ad 18), .ref (ad 19), .ref (ad 20), .ref (ad 21), .ref (ad 22), .ref (ad 23), .ref (ad 24), .ref (ad 25), .ref (ad 26), .int 0, .ref (ad 27), .int 0, .int 0]), ((ad 8), ob 6 [.ref (ad 9), .int (nI 40), .int 0]), ((ad 10), ob 6 [.ref (ad 11), .int (nI 100), .int 0]), ((ad 12), ob 6 [.ref (ad 13), .int (nI 60), .int 0]), (mo, ob 12 (mfs g)), ((r 0), aB E 4096 (fun _ => 0))]) (hK : va_K E.1 vwCl (cTY E.2.1) s) (hZ : cZ E.2.2 (fun q : Nat => s.heap.size ≤ q) s s.heap) (hX : va_X b L xs s s.heap) (hbl : b < s.heap.size) (hbA : ¬ (fun q : Nat => s.heap.size ≤ q) b) (hL6 : L = 6) (hw1 : flo (stC 0) (2 * 4) gx gy gf) (hw3 : ∀ d, d < 2 * 4 → gt d = 0) (hw4 : ∀ d, d < 2 * 4 → gh d = nI (stC 0 d)) (hw5 : ∀ d, d < 2 * 4 → gc d = nI (stC 0 d)) (hR : mOK r g) (hI : ∀ k, k < 116 → mRef k = false → g k = mI k) (hm1 : flo (stC 0) (2 * 4) kx ky kw) (hm2 : ∀ d, d < 2 * 4 → kt d = 0) (hm3 : ∀ d, d < 2 * 4 → fx d = kx d ∧ fy d = ky d ∧ fw d = kw d) (hm4 : ∀ d, d < 2 * 4 → bx d = kx d ∧ by_ d = ky d ∧ bw d = kw d) (hl : lv_has ls 4 [(0, .ref b), (1, .ref xo), (2, .ref mo), (3, .int (nI 0))]) : W p l e room_1 s m #[Value.ref b] below meth c H locs 146 989044 (lw_Z below #[Value.ref b] s) (F0 m 269 ls []) := by
  subst hL6
  obtain ⟨hx, hb, hr, hml, hown, hts, hlocks, hin⟩ := id F
  have hown : s.vm.findClass RL = some m.cls := hown
  refine lv_aload_n hx hb dL_law_269 rfl (lv_at hl 1 rfl) ?_
  refine lv_aload_n hx hb dL_law_270 rfl (lv_at hl 0 rfl) ?_
  refine lv_iload_n hx hb dL_law_271 rfl (lv_at hl 3 rfl) ?_
  refine lv_iconst (v := nI 1) hx hb dL_law_272 (by decide) ?_
  refine lv_iadd hx hb dL_law_273 ?_
  rw [show ((nI 0) + (nI 1) : Int32) = nI 1 from by decide]
  refine va_sld hx hb hX hbl hbA hS (i := nI 1) (vp_in_nI (by omega) (by omega)) dL_law_274 ?_
  rw [nI_clamp (n := 1) (by decide)]
  refine cI_go (wr := [(mo, ob 12 (mfs g)), ((r 0), aB E 4096 (fun _ => 0))]) (cM_runV (As := [.int (xs 1)]) (rest := []) F (p_X11_named l E xo ad gx gy gf v2 gt gh gc (xs 1) hw1 hw3 hw4 hw5) yy_X11_named yi_X11_named wdM_RL_36 hP hD hS hK hZ hA [0, 1, 2, 3, 4, 5, 6, 7, 8, 9, 10, 11] rfl rfl 0 11 rfl rfl rfl hl.1 rfl (Nat.le_of_ble_eq_true rfl) dL_law_275 ⟨by decide, by decide⟩ ⟨by decide, by decide⟩) hP hD hS hA [0, 1, 2, 3, 4, 5, 6, 7, 8, 9, 10, 11] [12, 13] rfl rfl rfl (by decide) (fun r_1142 u_1141 H locs hw_1140 hP hD hS => ?_)
  try dsimp only at hw_1140
  have hP : va_P E.1 vwCl [(mo, ob 12 (mfs g)), ((r 0), aB E 4096 (fun _ => 0))] H := hP
  have hD : va_D (fun q : Nat => s.heap.size ≤ q) [(mo, ob 12 (mfs g)), ((r 0), aB E 4096 (fun _ => 0))] := hD
  refine lv_aload_n hx hb dL_law_278 rfl (lv_at hl 2 rfl) ?_
  refine lv_aload_n hx hb dL_law_279 rfl (lv_at hl 0 rfl) ?_
  refine lv_iload_n hx hb dL_law_280 rfl (lv_at hl 3 rfl) ?_
  refine lv_iconst (v := nI 1) hx hb dL_law_281 (by decide) ?_
  refine lv_iadd hx hb dL_law_282 ?_
  rw [show ((nI 0) + (nI 1) : Int32) = nI 1 from by decide]
  refine va_sld hx hb hX hbl hbA hS (i := nI 1) (vp_in_nI (by omega) (by omega)) dL_law_283 ?_
  rw [nI_clamp (n := 1) (by decide)]
  refine cI_go (wr := []) (cM_runV (As := [.int (xs 1)]) (rest := [.int r_1142]) F (p_X12_named l E mo r g kx ky kw kt fx fy fw bx by_ bw (xs 1) hR hI hm1 hm2 hm3 hm4) yy_X12_named yi_X12_named wdM_RL_40 hP hD hS hK hZ hA [0, 1] rfl rfl 0 12 rfl rfl rfl hl.1 rfl (Nat.le_of_ble_eq_true rfl) dL_law_284 ⟨by decide, by decide⟩ ⟨by decide, by decide⟩) hP hD hS hA [0, 1] [] rfl rfl rfl (by decide) (fun r_1145 u_1144 H locs hw_1143 hP hD hS => ?_)
  try dsimp only at hw_1143
  have hP : va_P E.1 vwCl [] H := hP
  have hD : va_D (fun q : Nat => s.heap.size ≤ q) [] := hD
  refine lv_icmp_eq (tgt := 715) hx hb dL_law_287 (by decide) (fun c_1146 => ?_) (fun c_1146 => absurd (hw_1140.trans hw_1143.symm) c_1146)
  refine lv_iinc (v := nI 6) (lv' := [(3, .int (nI 6)), (0, .ref b), (1, .ref xo), (2, .ref mo)]) hx hb dL_law_715 hl (k := 3) rfl (by decide) (by decide) rfl (fun ls hl => ?_)
  refine lv_goto (tgt := 18) hx hb dL_law_718 (by decide) ?_
  refine lv_iload_n hx hb dL_law_18 rfl (lv_at hl 0 rfl) ?_
  refine lv_aload_n hx hb dL_law_19 rfl (lv_at hl 1 rfl) ?_
  refine va_slen hx hb hX hbl hbA hS dL_law_20 ?_
  refine W.eq (g2 := F0 m 21 ls [.int (nI 6), .int (nI 6)]) rfl ?_
  refine lv_bipush (v := nI 6) hx hb dL_law_21 (by decide) ?_
  refine lv_isub hx hb dL_law_23 ?_
  rw [show ((nI 6) - (nI 6) : Int32) = nI 0 from by decide]
  refine lv_icmp_gt (tgt := 721) hx hb dL_law_24 (by decide) (fun c_1147 => ?_) (fun c_1147 => absurd (by decide) c_1147)
  refine lv_iconst (v := nI 1) hx hb dL_law_721 (by decide) ?_
  refine va_forget (fun q hq => hS.2.2 q hq) ?_
  refine W.widen (k := 600000) (n := 7302250) (by decide) (by decide) ?_
  exact lw_ret hx hb hr hlocks dL_law_722
set_option maxHeartbeats 4000000 in
set_option maxRecDepth 100000 in
theorem lc_set {p : Program} {l : Launch} {e : Env} {s : State} {m : MethodId} {below : List Frame} {meth : Method} {c : Code} {ls : Array Slot} {E : cE} {H : Heap} {locs : List Loc} {b L : Nat} {xs : Nat → Int32} {xo : Nat} {ad : Nat → Nat} {gx : Nat → Int32} {gy : Nat → Int32} {gf : Nat → Int32} {v2 : Int32} {gt : Nat → Int32} {gh : Nat → Int32} {gc : Nat → Int32} {mo : Nat} {r : Nat → Nat} {g : Nat → Value} {kx : Nat → Int32} {ky : Nat → Int32} {kw : Nat → Int32} {kt : Nat → Int32} {fx : Nat → Int32} {fy : Nat → Int32} {fw : Nat → Int32} {bx : Nat → Int32} {by_ : Nat → Int32} {bw : Nat → Int32} (F : cX p s m meth c code 4 ret yL_law #[Value.ref b]) (hA : ∀ q : Nat, s.heap.size ≤ q → (fun q : Nat => s.heap.size ≤ q) q) (hS : va_S (fun q : Nat => s.heap.size ≤ q) s.heap H locs) (hP : va_P E.1 vwCl [(xo, ob 11 [.ref (ad 0), .ref (ad 7), .ref (ad 28), .ref (ad 30), .ref (ad 76), .ref (ad 46), .ref (ad 55), .ref (ad 57), .ref (ad 59), .ref (ad 61), .ref (ad 80), .int 0, .int 0, .int 0, .int (-1), .int (-1), .int (-1)]), ((ad 76), ob 3 [.ref (ad 77), .ref (ad 78), .ref (ad 79), .ref (ad 71), .ref (ad 72), .ref (ad 73), .ref (ad 74), .ref (ad 75), .int (nI (2 * 4)), .int v2]), ((ad 77), aI E 64 gx), ((ad 78), aI E 64 gy), ((ad 79), aI E 64 gf), ((ad 71), aI E 64 gt), ((ad 72), aI E 64 gh), ((ad 73), aI E 64 (fun j => nI (srtO (cdLt (stC 0)) (fun _ => 0) (2 * 4) j))), ((ad 74), aJ E 4 (faOf (stC 0) (2 * 4))), ((ad 75), aB E 4096 (seatOf (stC 0) (2 * 4))), ((ad 80), aI E 64 gc), ((ad 59), ob 4 [.ref (ad 60), .int 0, .int 0]), ((ad 55), ob 8 [.ref (ad 7), .ref (ad 30), .int 0, .int 0, .long 0, .ref (ad 56), .int 0, .int 0, .int 0, .int 0, .int 0]), ((ad 61), ob 9 [.ref (ad 7), .ref (ad 30), .ref (ad 46), .ref (ad 62), .ref (ad 63), .ref (ad 64), .ref (ad 65), .ref (ad 66), .ref (ad 67), .ref (ad 68), .ref (ad 69), .int 0, .int 0, .int 0, .int (-1), .ref (ad 70), .int 0, .int 0]), (mo, ob 12 (mfs g)), ((r 38), aI E 64 kx), ((r 39), aI E 64 ky), ((r 40), aI E 64 kw), ((r 41), aI E 64 kt), ((r 44), aI E 64 fx), ((r 45), aI E 64 fy), ((r 46), aI E 64 fw), ((r 47), aI E 64 bx), ((r 48), aI E 64 by_), ((r 49), aI E 64 bw)] H) (hD : va_D (fun q : Nat => s.heap.size ≤ q) [(xo, ob 11 [.ref (ad 0), .ref (ad 7), .ref (ad 28), .ref (ad 30), .ref (ad 76), .ref (ad 46), .ref (ad 55), .ref (ad 57), .ref (ad 59), .ref (ad 61), .ref (ad 80), .int 0, .int 0, .int 0, .int (-1), .int (-1), .int (-1)]), ((ad 76), ob 3 [.ref (ad 77), .ref (ad 78), .ref (ad 79), .ref (ad 71), .ref (ad 72), .ref (ad 73), .ref (ad 74), .ref (ad 75), .int (nI (2 * 4)), .int v2]), ((ad 77), aI E 64 gx), ((ad 78), aI E 64 gy), ((ad 79), aI E 64 gf), ((ad 71), aI E 64 gt), ((ad 72), aI E 64 gh), ((ad 73), aI E 64 (fun j => nI (srtO (cdLt (stC 0)) (fun _ => 0) (2 * 4) j))), ((ad 74), aJ E 4 (faOf (stC 0) (2 * 4))), ((ad 75), aB E 4096 (seatOf (stC 0) (2 * 4))), ((ad 80), aI E 64 gc), ((ad 59), ob 4 [.ref (ad 60), .int 0, .int 0]), ((ad 55), ob 8 [.ref (ad 7), .ref (ad 30), .int 0, .int 0, .long 0, .ref (ad 56), .int 0, .int 0, .int 0, .int 0, .int 0]), ((ad 61), ob 9 [.ref (ad 7), .ref (ad 30), .ref (ad 46), .ref (ad 62), .ref (ad 63), .ref (ad 64), .ref (ad 65), .ref (ad 66), .ref (ad 67), .ref (ad 68), .ref (ad 69), .int 0, .int 0, .int 0, .int (-1), .ref (ad 70), .int 0, .int 0]), (mo, ob 12 (mfs g)), ((r 38), aI E 64 kx), ((r 39), aI E 64 ky), ((r 40), aI E 64 kw), ((r 41), aI E 64 kt), ((r 44), aI E 64 fx), ((r 45), aI E 64 fy), ((r 46), aI E 64 fw), ((r 47), aI E 64 bx), ((r 48), aI E 64 by_), ((r 49), aI E 64 bw)]) (hK : va_K E.1 vwCl (cTY E.2.1) s) (hZ : cZ E.2.2 (fun q : Nat => s.heap.size ≤ q) s s.heap) (hX : va_X b L xs s s.heap) (hbl : b < s.heap.size) (hbA : ¬ (fun q : Nat => s.heap.size ≤ q) b) (hL6 : L = 6) (hw1 : flo (stC 0) (2 * 4) gx gy gf) (hw3 : ∀ d, d < 2 * 4 → gt d = 0) (hw4 : ∀ d, d < 2 * 4 → gh d = nI (stC 0 d)) (hw5 : ∀ d, d < 2 * 4 → gc d = nI (stC 0 d)) (hR : mOK r g) (hI : ∀ k, k < 116 → mRef k = false → g k = mI k) (hm1 : flo (stC 0) (2 * 4) kx ky kw) (hm2 : ∀ d, d < 2 * 4 → kt d = 0) (hm3 : ∀ d, d < 2 * 4 → fx d = kx d ∧ fy d = ky d ∧ fw d = kw d) (hm4 : ∀ d, d < 2 * 4 → bx d = kx d ∧ by_ d = ky d ∧ bw d = kw d) (hl : lv_has ls 4 [(0, .ref b), (1, .ref xo), (2, .ref mo), (3, .int (nI 0))]) : W p l e room_1 s m #[Value.ref b] below meth c H locs 146 989044 (lw_Z below #[Value.ref b] s) (F0 m 292 ls []) := by
  subst hL6
  obtain ⟨hx, hb, hr, hml, hown, hts, hlocks, hin⟩ := id F
  have hown : s.vm.findClass RL = some m.cls := hown
  refine lv_aload_n hx hb dL_law_292 rfl (lv_at hl 1 rfl) ?_
  refine lv_aload_n hx hb dL_law_293 rfl (lv_at hl 0 rfl) ?_
  refine lv_iload_n hx hb dL_law_294 rfl (lv_at hl 3 rfl) ?_
  refine lv_iconst (v := nI 1) hx hb dL_law_295 (by decide) ?_
  refine lv_iadd hx hb dL_law_296 ?_
  rw [show ((nI 0) + (nI 1) : Int32) = nI 1 from by decide]
  refine va_sld hx hb hX hbl hbA hS (i := nI 1) (vp_in_nI (by omega) (by omega)) dL_law_297 ?_
  rw [nI_clamp (n := 1) (by decide)]
  refine lv_aload_n hx hb dL_law_298 rfl (lv_at hl 0 rfl) ?_
  refine lv_iload_n hx hb dL_law_299 rfl (lv_at hl 3 rfl) ?_
  refine lv_iconst (v := nI 2) hx hb dL_law_300 (by decide) ?_
  refine lv_iadd hx hb dL_law_301 ?_
  rw [show ((nI 0) + (nI 2) : Int32) = nI 2 from by decide]
  refine va_sld hx hb hX hbl hbA hS (i := nI 2) (vp_in_nI (by omega) (by omega)) dL_law_302 ?_
  rw [nI_clamp (n := 2) (by decide)]
  refine cI_go (wr := [(mo, ob 12 (mfs g)), ((r 38), aI E 64 kx), ((r 39), aI E 64 ky), ((r 40), aI E 64 kw), ((r 41), aI E 64 kt), ((r 44), aI E 64 fx), ((r 45), aI E 64 fy), ((r 46), aI E 64 fw), ((r 47), aI E 64 bx), ((r 48), aI E 64 by_), ((r 49), aI E 64 bw)]) (cM_runV (As := [.int (xs 1), .int (xs 2)]) (rest := []) F (p_X11_set l E xo ad gx gy gf v2 gt gh gc (xs 1) (xs 2) hw1 hw3 hw4 hw5) yy_X11_set yi_X11_set wdM_RL_41 hP hD hS hK hZ hA [0, 1, 2, 3, 4, 5, 6, 7, 8, 9, 10, 11, 12, 13] rfl rfl 0 11 rfl rfl rfl hl.1 rfl (Nat.le_of_ble_eq_true rfl) dL_law_303 ⟨by decide, by decide⟩ ⟨by decide, by decide⟩) hP hD hS hA [0, 1, 2, 3, 4, 5, 6, 7, 8, 9, 10, 11, 12, 13] [14, 15, 16, 17, 18, 19, 20, 21, 22, 23, 24] rfl rfl rfl (by decide) (fun r_1150 u_1149 H locs hw_1148 hP hD hS => ?_)
  try dsimp only at hw_1148
  have hP : va_P E.1 vwCl [(mo, ob 12 (mfs g)), ((r 38), aI E 64 kx), ((r 39), aI E 64 ky), ((r 40), aI E 64 kw), ((r 41), aI E 64 kt), ((r 44), aI E 64 fx), ((r 45), aI E 64 fy), ((r 46), aI E 64 fw), ((r 47), aI E 64 bx), ((r 48), aI E 64 by_), ((r 49), aI E 64 bw)] H := hP
  have hD : va_D (fun q : Nat => s.heap.size ≤ q) [(mo, ob 12 (mfs g)), ((r 38), aI E 64 kx), ((r 39), aI E 64 ky), ((r 40), aI E 64 kw), ((r 41), aI E 64 kt), ((r 44), aI E 64 fx), ((r 45), aI E 64 fy), ((r 46), aI E 64 fw), ((r 47), aI E 64 bx), ((r 48), aI E 64 by_), ((r 49), aI E 64 bw)] := hD
  refine lv_aload_n hx hb dL_law_306 rfl (lv_at hl 2 rfl) ?_
  refine lv_aload_n hx hb dL_law_307 rfl (lv_at hl 0 rfl) ?_
  refine lv_iload_n hx hb dL_law_308 rfl (lv_at hl 3 rfl) ?_
  refine lv_iconst (v := nI 1) hx hb dL_law_309 (by decide) ?_
  refine lv_iadd hx hb dL_law_310 ?_
  rw [show ((nI 0) + (nI 1) : Int32) = nI 1 from by decide]
  refine va_sld hx hb hX hbl hbA hS (i := nI 1) (vp_in_nI (by omega) (by omega)) dL_law_311 ?_
  rw [nI_clamp (n := 1) (by decide)]
  refine lv_aload_n hx hb dL_law_312 rfl (lv_at hl 0 rfl) ?_
  refine lv_iload_n hx hb dL_law_313 rfl (lv_at hl 3 rfl) ?_
  refine lv_iconst (v := nI 2) hx hb dL_law_314 (by decide) ?_
  refine lv_iadd hx hb dL_law_315 ?_
  rw [show ((nI 0) + (nI 2) : Int32) = nI 2 from by decide]
  refine va_sld hx hb hX hbl hbA hS (i := nI 2) (vp_in_nI (by omega) (by omega)) dL_law_316 ?_
  rw [nI_clamp (n := 2) (by decide)]
  refine cI_go (wr := []) (cM_runV (As := [.int (xs 1), .int (xs 2)]) (rest := [.int r_1150]) F (p_X12_set l E mo r g kx ky kw kt fx fy fw bx by_ bw (xs 1) (xs 2) hR hI hm1 hm2 hm3 hm4) yy_X12_set yi_X12_set wdM_RL_45 hP hD hS hK hZ hA [0, 1, 2, 3, 4, 5, 6, 7, 8, 9, 10] rfl rfl 0 12 rfl rfl rfl hl.1 rfl (Nat.le_of_ble_eq_true rfl) dL_law_317 ⟨by decide, by decide⟩ ⟨by decide, by decide⟩) hP hD hS hA [0, 1, 2, 3, 4, 5, 6, 7, 8, 9, 10] [] rfl rfl rfl (by decide) (fun r_1153 u_1152 H locs hw_1151 hP hD hS => ?_)
  try dsimp only at hw_1151
  have hP : va_P E.1 vwCl [] H := hP
  have hD : va_D (fun q : Nat => s.heap.size ≤ q) [] := hD
  refine lv_icmp_eq (tgt := 715) hx hb dL_law_320 (by decide) (fun c_1154 => ?_) (fun c_1154 => absurd (hw_1148.trans hw_1151.symm) c_1154)
  refine lv_iinc (v := nI 6) (lv' := [(3, .int (nI 6)), (0, .ref b), (1, .ref xo), (2, .ref mo)]) hx hb dL_law_715 hl (k := 3) rfl (by decide) (by decide) rfl (fun ls hl => ?_)
  refine lv_goto (tgt := 18) hx hb dL_law_718 (by decide) ?_
  refine lv_iload_n hx hb dL_law_18 rfl (lv_at hl 0 rfl) ?_
  refine lv_aload_n hx hb dL_law_19 rfl (lv_at hl 1 rfl) ?_
  refine va_slen hx hb hX hbl hbA hS dL_law_20 ?_
  refine W.eq (g2 := F0 m 21 ls [.int (nI 6), .int (nI 6)]) rfl ?_
  refine lv_bipush (v := nI 6) hx hb dL_law_21 (by decide) ?_
  refine lv_isub hx hb dL_law_23 ?_
  rw [show ((nI 6) - (nI 6) : Int32) = nI 0 from by decide]
  refine lv_icmp_gt (tgt := 721) hx hb dL_law_24 (by decide) (fun c_1155 => ?_) (fun c_1155 => absurd (by decide) c_1155)
  refine lv_iconst (v := nI 1) hx hb dL_law_721 (by decide) ?_
  refine va_forget (fun q hq => hS.2.2 q hq) ?_
  refine W.widen (k := 600000) (n := 7302250) (by decide) (by decide) ?_
  exact lw_ret hx hb hr hlocks dL_law_722
set_option maxHeartbeats 4000000 in
set_option maxRecDepth 100000 in
theorem lc_mark {p : Program} {l : Launch} {e : Env} {s : State} {m : MethodId} {below : List Frame} {meth : Method} {c : Code} {ls : Array Slot} {E : cE} {H : Heap} {locs : List Loc} {b L : Nat} {xs : Nat → Int32} {xo : Nat} {ad : Nat → Nat} {gx : Nat → Int32} {gy : Nat → Int32} {gf : Nat → Int32} {v2 : Int32} {gt : Nat → Int32} {gh : Nat → Int32} {gc : Nat → Int32} {mo : Nat} {r : Nat → Nat} {g : Nat → Value} {kx : Nat → Int32} {ky : Nat → Int32} {kw : Nat → Int32} {kt : Nat → Int32} {fx : Nat → Int32} {fy : Nat → Int32} {fw : Nat → Int32} {bx : Nat → Int32} {by_ : Nat → Int32} {bw : Nat → Int32} (F : cX p s m meth c code 4 ret yL_law #[Value.ref b]) (hA : ∀ q : Nat, s.heap.size ≤ q → (fun q : Nat => s.heap.size ≤ q) q) (hS : va_S (fun q : Nat => s.heap.size ≤ q) s.heap H locs) (hP : va_P E.1 vwCl [(xo, ob 11 [.ref (ad 0), .ref (ad 7), .ref (ad 28), .ref (ad 30), .ref (ad 76), .ref (ad 46), .ref (ad 55), .ref (ad 57), .ref (ad 59), .ref (ad 61), .ref (ad 80), .int 0, .int 0, .int 0, .int (-1), .int (-1), .int (-1)]), ((ad 76), ob 3 [.ref (ad 77), .ref (ad 78), .ref (ad 79), .ref (ad 71), .ref (ad 72), .ref (ad 73), .ref (ad 74), .ref (ad 75), .int (nI (2 * 4)), .int v2]), ((ad 77), aI E 64 gx), ((ad 78), aI E 64 gy), ((ad 79), aI E 64 gf), ((ad 80), aI E 64 gc), (mo, ob 12 (mfs g)), ((r 38), aI E 64 kx), ((r 39), aI E 64 ky), ((r 40), aI E 64 kw), ((r 47), aI E 64 bx), ((r 48), aI E 64 by_), ((r 49), aI E 64 bw)] H) (hD : va_D (fun q : Nat => s.heap.size ≤ q) [(xo, ob 11 [.ref (ad 0), .ref (ad 7), .ref (ad 28), .ref (ad 30), .ref (ad 76), .ref (ad 46), .ref (ad 55), .ref (ad 57), .ref (ad 59), .ref (ad 61), .ref (ad 80), .int 0, .int 0, .int 0, .int (-1), .int (-1), .int (-1)]), ((ad 76), ob 3 [.ref (ad 77), .ref (ad 78), .ref (ad 79), .ref (ad 71), .ref (ad 72), .ref (ad 73), .ref (ad 74), .ref (ad 75), .int (nI (2 * 4)), .int v2]), ((ad 77), aI E 64 gx), ((ad 78), aI E 64 gy), ((ad 79), aI E 64 gf), ((ad 80), aI E 64 gc), (mo, ob 12 (mfs g)), ((r 38), aI E 64 kx), ((r 39), aI E 64 ky), ((r 40), aI E 64 kw), ((r 47), aI E 64 bx), ((r 48), aI E 64 by_), ((r 49), aI E 64 bw)]) (hK : va_K E.1 vwCl (cTY E.2.1) s) (hZ : cZ E.2.2 (fun q : Nat => s.heap.size ≤ q) s s.heap) (hX : va_X b L xs s s.heap) (hbl : b < s.heap.size) (hbA : ¬ (fun q : Nat => s.heap.size ≤ q) b) (hL6 : L = 6) (hw1 : flo (stC 0) (2 * 4) gx gy gf) (hw3 : ∀ d, d < 2 * 4 → gt d = 0) (hw4 : ∀ d, d < 2 * 4 → gh d = nI (stC 0 d)) (hw5 : ∀ d, d < 2 * 4 → gc d = nI (stC 0 d)) (hR : mOK r g) (hI : ∀ k, k < 116 → mRef k = false → g k = mI k) (hm1 : flo (stC 0) (2 * 4) kx ky kw) (hm2 : ∀ d, d < 2 * 4 → kt d = 0) (hm3 : ∀ d, d < 2 * 4 → fx d = kx d ∧ fy d = ky d ∧ fw d = kw d) (hm4 : ∀ d, d < 2 * 4 → bx d = kx d ∧ by_ d = ky d ∧ bw d = kw d) (hl : lv_has ls 4 [(0, .ref b), (1, .ref xo), (2, .ref mo), (3, .int (nI 0))]) : W p l e room_1 s m #[Value.ref b] below meth c H locs 146 989044 (lw_Z below #[Value.ref b] s) (F0 m 325 ls []) := by
  subst hL6
  obtain ⟨hx, hb, hr, hml, hown, hts, hlocks, hin⟩ := id F
  have hown : s.vm.findClass RL = some m.cls := hown
  refine lv_aload_n hx hb dL_law_325 rfl (lv_at hl 1 rfl) ?_
  refine cV_go (wr := [(mo, ob 12 (mfs g)), ((r 38), aI E 64 kx), ((r 39), aI E 64 ky), ((r 40), aI E 64 kw), ((r 47), aI E 64 bx), ((r 48), aI E 64 by_), ((r 49), aI E 64 bw)]) (cM_runV (As := []) (rest := []) F (p_X11_mark l E xo ad gx gy gf v2 gt gh gc hw1 hw3 hw4 hw5) yy_X11_mark yi_X11_mark wdM_RL_46 hP hD hS hK hZ hA [0, 1, 2, 3, 4, 5] rfl rfl 0 11 rfl rfl rfl hl.1 rfl (Nat.le_of_ble_eq_true rfl) dL_law_326 ⟨by decide, by decide⟩ ⟨by decide, by decide⟩) hP hD hS hA [0, 1, 2, 3, 4, 5] [6, 7, 8, 9, 10, 11, 12] rfl rfl rfl (by decide) (fun u_1157 H locs hw_1156 hP hD hS => ?_)
  try dsimp only at hw_1156
  have hP : va_P E.1 vwCl [(mo, ob 12 (mfs g)), ((r 38), aI E 64 kx), ((r 39), aI E 64 ky), ((r 40), aI E 64 kw), ((r 47), aI E 64 bx), ((r 48), aI E 64 by_), ((r 49), aI E 64 bw)] H := hP
  have hD : va_D (fun q : Nat => s.heap.size ≤ q) [(mo, ob 12 (mfs g)), ((r 38), aI E 64 kx), ((r 39), aI E 64 ky), ((r 40), aI E 64 kw), ((r 47), aI E 64 bx), ((r 48), aI E 64 by_), ((r 49), aI E 64 bw)] := hD
  refine lv_aload_n hx hb dL_law_329 rfl (lv_at hl 2 rfl) ?_
  refine cV_go (wr := []) (cM_runV (As := []) (rest := []) F (p_X12_mark l E mo r g kx ky kw kt fx fy fw bx by_ bw hR hI hm1 hm2 hm3 hm4) yy_X12_mark yi_X12_mark wdM_RL_49 hP hD hS hK hZ hA [0, 1, 2, 3, 4, 5, 6] rfl rfl 0 12 rfl rfl rfl hl.1 rfl (Nat.le_of_ble_eq_true rfl) dL_law_330 ⟨by decide, by decide⟩ ⟨by decide, by decide⟩) hP hD hS hA [0, 1, 2, 3, 4, 5, 6] [] rfl rfl rfl (by decide) (fun u_1160 H locs hw_1159 hP hD hS => ?_)
  try dsimp only at hw_1159
  have hP : va_P E.1 vwCl [] H := hP
  have hD : va_D (fun q : Nat => s.heap.size ≤ q) [] := hD
  refine lv_goto (tgt := 715) hx hb dL_law_333 (by decide) ?_
  refine lv_iinc (v := nI 6) (lv' := [(3, .int (nI 6)), (0, .ref b), (1, .ref xo), (2, .ref mo)]) hx hb dL_law_715 hl (k := 3) rfl (by decide) (by decide) rfl (fun ls hl => ?_)
  refine lv_goto (tgt := 18) hx hb dL_law_718 (by decide) ?_
  refine lv_iload_n hx hb dL_law_18 rfl (lv_at hl 0 rfl) ?_
  refine lv_aload_n hx hb dL_law_19 rfl (lv_at hl 1 rfl) ?_
  refine va_slen hx hb hX hbl hbA hS dL_law_20 ?_
  refine W.eq (g2 := F0 m 21 ls [.int (nI 6), .int (nI 6)]) rfl ?_
  refine lv_bipush (v := nI 6) hx hb dL_law_21 (by decide) ?_
  refine lv_isub hx hb dL_law_23 ?_
  rw [show ((nI 6) - (nI 6) : Int32) = nI 0 from by decide]
  refine lv_icmp_gt (tgt := 721) hx hb dL_law_24 (by decide) (fun c_1162 => ?_) (fun c_1162 => absurd (by decide) c_1162)
  refine lv_iconst (v := nI 1) hx hb dL_law_721 (by decide) ?_
  refine va_forget (fun q hq => hS.2.2 q hq) ?_
  refine W.widen (k := 600000) (n := 7302250) (by decide) (by decide) ?_
  exact lw_ret hx hb hr hlocks dL_law_722
set_option maxHeartbeats 4000000 in
set_option maxRecDepth 100000 in
theorem lc_begin {p : Program} {l : Launch} {e : Env} {s : State} {m : MethodId} {below : List Frame} {meth : Method} {c : Code} {ls : Array Slot} {E : cE} {H : Heap} {locs : List Loc} {b L : Nat} {xs : Nat → Int32} {xo : Nat} {ad : Nat → Nat} {gx : Nat → Int32} {gy : Nat → Int32} {gf : Nat → Int32} {v2 : Int32} {gt : Nat → Int32} {gh : Nat → Int32} {gc : Nat → Int32} {mo : Nat} {r : Nat → Nat} {g : Nat → Value} {kx : Nat → Int32} {ky : Nat → Int32} {kw : Nat → Int32} {kt : Nat → Int32} {fx : Nat → Int32} {fy : Nat → Int32} {fw : Nat → Int32} {bx : Nat → Int32} {by_ : Nat → Int32} {bw : Nat → Int32} (F : cX p s m meth c code 4 ret yL_law #[Value.ref b]) (hA : ∀ q : Nat, s.heap.size ≤ q → (fun q : Nat => s.heap.size ≤ q) q) (hS : va_S (fun q : Nat => s.heap.size ≤ q) s.heap H locs) (hP : va_P E.1 vwCl [(xo, ob 11 [.ref (ad 0), .ref (ad 7), .ref (ad 28), .ref (ad 30), .ref (ad 76), .ref (ad 46), .ref (ad 55), .ref (ad 57), .ref (ad 59), .ref (ad 61), .ref (ad 80), .int 0, .int 0, .int 0, .int (-1), .int (-1), .int (-1)]), ((ad 7), ob 0 [.ref (ad 8), .ref (ad 10), .ref (ad 12), .ref (ad 14), .ref (ad 15), .ref (ad 16), .ref (ad 17), .ref (ad 18), .ref (ad 19), .ref (ad 20), .ref (ad 21), .ref (ad 22), .ref (ad 23), .ref (ad 24), .ref (ad 25), .ref (ad 26), .int 0, .ref (ad 27), .int 0, .int 0]), ((ad 12), ob 6 [.ref (ad 13), .int (nI 60), .int 0]), (mo, ob 12 (mfs g))] H) (hD : va_D (fun q : Nat => s.heap.size ≤ q) [(xo, ob 11 [.ref (ad 0), .ref (ad 7), .ref (ad 28), .ref (ad 30), .ref (ad 76), .ref (ad 46), .ref (ad 55), .ref (ad 57), .ref (ad 59), .ref (ad 61), .ref (ad 80), .int 0, .int 0, .int 0, .int (-1), .int (-1), .int (-1)]), ((ad 7), ob 0 [.ref (ad 8), .ref (ad 10), .ref (ad 12), .ref (ad 14), .ref (ad 15), .ref (ad 16), .ref (ad 17), .ref (ad 18), .ref (ad 19), .ref (ad 20), .ref (ad 21), .ref (ad 22), .ref (ad 23), .ref (ad 24), .ref (ad 25), .ref (ad 26), .int 0, .ref (ad 27), .int 0, .int 0]), ((ad 12), ob 6 [.ref (ad 13), .int (nI 60), .int 0]), (mo, ob 12 (mfs g))]) (hK : va_K E.1 vwCl (cTY E.2.1) s) (hZ : cZ E.2.2 (fun q : Nat => s.heap.size ≤ q) s s.heap) (hX : va_X b L xs s s.heap) (hbl : b < s.heap.size) (hbA : ¬ (fun q : Nat => s.heap.size ≤ q) b) (hL6 : L = 6) (hw1 : flo (stC 0) (2 * 4) gx gy gf) (hw3 : ∀ d, d < 2 * 4 → gt d = 0) (hw4 : ∀ d, d < 2 * 4 → gh d = nI (stC 0 d)) (hw5 : ∀ d, d < 2 * 4 → gc d = nI (stC 0 d)) (hR : mOK r g) (hI : ∀ k, k < 116 → mRef k = false → g k = mI k) (hm1 : flo (stC 0) (2 * 4) kx ky kw) (hm2 : ∀ d, d < 2 * 4 → kt d = 0) (hm3 : ∀ d, d < 2 * 4 → fx d = kx d ∧ fy d = ky d ∧ fw d = kw d) (hm4 : ∀ d, d < 2 * 4 → bx d = kx d ∧ by_ d = ky d ∧ bw d = kw d) (hl : lv_has ls 4 [(0, .ref b), (1, .ref xo), (2, .ref mo), (3, .int (nI 0))]) : W p l e room_1 s m #[Value.ref b] below meth c H locs 146 989044 (lw_Z below #[Value.ref b] s) (F0 m 336 ls []) := by
  subst hL6
  obtain ⟨hx, hb, hr, hml, hown, hts, hlocks, hin⟩ := id F
  have hown : s.vm.findClass RL = some m.cls := hown
  refine lv_aload_n hx hb dL_law_336 rfl (lv_at hl 1 rfl) ?_
  refine lv_aload_n hx hb dL_law_337 rfl (lv_at hl 0 rfl) ?_
  refine lv_iload_n hx hb dL_law_338 rfl (lv_at hl 3 rfl) ?_
  refine lv_iconst (v := nI 1) hx hb dL_law_339 (by decide) ?_
  refine lv_iadd hx hb dL_law_340 ?_
  rw [show ((nI 0) + (nI 1) : Int32) = nI 1 from by decide]
  refine va_sld hx hb hX hbl hbA hS (i := nI 1) (vp_in_nI (by omega) (by omega)) dL_law_341 ?_
  rw [nI_clamp (n := 1) (by decide)]
  refine cI_go (wr := [(mo, ob 12 (mfs g))]) (cM_runV (As := [.int (xs 1)]) (rest := []) F (p_X11_begin l E xo ad gx gy gf v2 gt gh gc (xs 1) hw1 hw3 hw4 hw5) yy_X11_begin yi_X11_begin wdM_RL_50 hP hD hS hK hZ hA [0, 1, 2] rfl rfl 0 11 rfl rfl rfl hl.1 rfl (Nat.le_of_ble_eq_true rfl) dL_law_342 ⟨by decide, by decide⟩ ⟨by decide, by decide⟩) hP hD hS hA [0, 1, 2] [3] rfl rfl rfl (by decide) (fun r_1165 u_1164 H locs hw_1163 hP hD hS => ?_)
  try dsimp only at hw_1163
  have hP : va_P E.1 vwCl [(mo, ob 12 (mfs g))] H := hP
  have hD : va_D (fun q : Nat => s.heap.size ≤ q) [(mo, ob 12 (mfs g))] := hD
  refine lv_aload_n hx hb dL_law_345 rfl (lv_at hl 2 rfl) ?_
  refine lv_aload_n hx hb dL_law_346 rfl (lv_at hl 0 rfl) ?_
  refine lv_iload_n hx hb dL_law_347 rfl (lv_at hl 3 rfl) ?_
  refine lv_iconst (v := nI 1) hx hb dL_law_348 (by decide) ?_
  refine lv_iadd hx hb dL_law_349 ?_
  rw [show ((nI 0) + (nI 1) : Int32) = nI 1 from by decide]
  refine va_sld hx hb hX hbl hbA hS (i := nI 1) (vp_in_nI (by omega) (by omega)) dL_law_350 ?_
  rw [nI_clamp (n := 1) (by decide)]
  refine cI_go (wr := []) (cM_runV (As := [.int (xs 1)]) (rest := [.int r_1165]) F (p_X12_begin l E mo r g kx ky kw kt fx fy fw bx by_ bw (xs 1) hR hI hm1 hm2 hm3 hm4) yy_X12_begin yi_X12_begin wdM_RL_53 hP hD hS hK hZ hA [0] rfl rfl 0 12 rfl rfl rfl hl.1 rfl (Nat.le_of_ble_eq_true rfl) dL_law_351 ⟨by decide, by decide⟩ ⟨by decide, by decide⟩) hP hD hS hA [0] [] rfl rfl rfl (by decide) (fun r_1168 u_1167 H locs hw_1166 hP hD hS => ?_)
  try dsimp only at hw_1166
  have hP : va_P E.1 vwCl [] H := hP
  have hD : va_D (fun q : Nat => s.heap.size ≤ q) [] := hD
  refine lv_icmp_eq (tgt := 715) hx hb dL_law_354 (by decide) (fun c_1169 => ?_) (fun c_1169 => absurd (hw_1163.trans hw_1166.symm) c_1169)
  refine lv_iinc (v := nI 6) (lv' := [(3, .int (nI 6)), (0, .ref b), (1, .ref xo), (2, .ref mo)]) hx hb dL_law_715 hl (k := 3) rfl (by decide) (by decide) rfl (fun ls hl => ?_)
  refine lv_goto (tgt := 18) hx hb dL_law_718 (by decide) ?_
  refine lv_iload_n hx hb dL_law_18 rfl (lv_at hl 0 rfl) ?_
  refine lv_aload_n hx hb dL_law_19 rfl (lv_at hl 1 rfl) ?_
  refine va_slen hx hb hX hbl hbA hS dL_law_20 ?_
  refine W.eq (g2 := F0 m 21 ls [.int (nI 6), .int (nI 6)]) rfl ?_
  refine lv_bipush (v := nI 6) hx hb dL_law_21 (by decide) ?_
  refine lv_isub hx hb dL_law_23 ?_
  rw [show ((nI 6) - (nI 6) : Int32) = nI 0 from by decide]
  refine lv_icmp_gt (tgt := 721) hx hb dL_law_24 (by decide) (fun c_1170 => ?_) (fun c_1170 => absurd (by decide) c_1170)
  refine lv_iconst (v := nI 1) hx hb dL_law_721 (by decide) ?_
  refine va_forget (fun q hq => hS.2.2 q hq) ?_
  refine W.widen (k := 600000) (n := 7302250) (by decide) (by decide) ?_
  exact lw_ret hx hb hr hlocks dL_law_722
set_option maxHeartbeats 4000000 in
set_option maxRecDepth 100000 in
theorem lc_step {p : Program} {l : Launch} {e : Env} {s : State} {m : MethodId} {below : List Frame} {meth : Method} {c : Code} {ls : Array Slot} {E : cE} {H : Heap} {locs : List Loc} {b L : Nat} {xs : Nat → Int32} {xo : Nat} {ad : Nat → Nat} {gx : Nat → Int32} {gy : Nat → Int32} {gf : Nat → Int32} {v2 : Int32} {gt : Nat → Int32} {gh : Nat → Int32} {gc : Nat → Int32} {mo : Nat} {r : Nat → Nat} {g : Nat → Value} {kx : Nat → Int32} {ky : Nat → Int32} {kw : Nat → Int32} {kt : Nat → Int32} {fx : Nat → Int32} {fy : Nat → Int32} {fw : Nat → Int32} {bx : Nat → Int32} {by_ : Nat → Int32} {bw : Nat → Int32} (F : cX p s m meth c code 4 ret yL_law #[Value.ref b]) (hA : ∀ q : Nat, s.heap.size ≤ q → (fun q : Nat => s.heap.size ≤ q) q) (hS : va_S (fun q : Nat => s.heap.size ≤ q) s.heap H locs) (hP : va_P E.1 vwCl [(xo, ob 11 [.ref (ad 0), .ref (ad 7), .ref (ad 28), .ref (ad 30), .ref (ad 76), .ref (ad 46), .ref (ad 55), .ref (ad 57), .ref (ad 59), .ref (ad 61), .ref (ad 80), .int 0, .int 0, .int 0, .int (-1), .int (-1), .int (-1)]), ((ad 55), ob 8 [.ref (ad 7), .ref (ad 30), .int 0, .int 0, .long 0, .ref (ad 56), .int 0, .int 0, .int 0, .int 0, .int 0]), (mo, ob 12 (mfs g))] H) (hD : va_D (fun q : Nat => s.heap.size ≤ q) [(xo, ob 11 [.ref (ad 0), .ref (ad 7), .ref (ad 28), .ref (ad 30), .ref (ad 76), .ref (ad 46), .ref (ad 55), .ref (ad 57), .ref (ad 59), .ref (ad 61), .ref (ad 80), .int 0, .int 0, .int 0, .int (-1), .int (-1), .int (-1)]), ((ad 55), ob 8 [.ref (ad 7), .ref (ad 30), .int 0, .int 0, .long 0, .ref (ad 56), .int 0, .int 0, .int 0, .int 0, .int 0]), (mo, ob 12 (mfs g))]) (hK : va_K E.1 vwCl (cTY E.2.1) s) (hZ : cZ E.2.2 (fun q : Nat => s.heap.size ≤ q) s s.heap) (hX : va_X b L xs s s.heap) (hbl : b < s.heap.size) (hbA : ¬ (fun q : Nat => s.heap.size ≤ q) b) (hL6 : L = 6) (hw1 : flo (stC 0) (2 * 4) gx gy gf) (hw3 : ∀ d, d < 2 * 4 → gt d = 0) (hw4 : ∀ d, d < 2 * 4 → gh d = nI (stC 0 d)) (hw5 : ∀ d, d < 2 * 4 → gc d = nI (stC 0 d)) (hR : mOK r g) (hI : ∀ k, k < 116 → mRef k = false → g k = mI k) (hm1 : flo (stC 0) (2 * 4) kx ky kw) (hm2 : ∀ d, d < 2 * 4 → kt d = 0) (hm3 : ∀ d, d < 2 * 4 → fx d = kx d ∧ fy d = ky d ∧ fw d = kw d) (hm4 : ∀ d, d < 2 * 4 → bx d = kx d ∧ by_ d = ky d ∧ bw d = kw d) (hl : lv_has ls 4 [(0, .ref b), (1, .ref xo), (2, .ref mo), (3, .int (nI 0))]) : W p l e room_1 s m #[Value.ref b] below meth c H locs 146 989044 (lw_Z below #[Value.ref b] s) (F0 m 359 ls []) := by
  subst hL6
  obtain ⟨hx, hb, hr, hml, hown, hts, hlocks, hin⟩ := id F
  have hown : s.vm.findClass RL = some m.cls := hown
  refine lv_aload_n hx hb dL_law_359 rfl (lv_at hl 1 rfl) ?_
  refine cI_go (wr := [(mo, ob 12 (mfs g))]) (cM_runV (As := []) (rest := []) F (p_X11_step l E xo ad gx gy gf v2 gt gh gc hw1 hw3 hw4 hw5) yy_X11_step yi_X11_step wdM_RL_54 hP hD hS hK hZ hA [0, 1] rfl rfl 0 11 rfl rfl rfl hl.1 rfl (Nat.le_of_ble_eq_true rfl) dL_law_360 ⟨by decide, by decide⟩ ⟨by decide, by decide⟩) hP hD hS hA [0, 1] [2] rfl rfl rfl (by decide) (fun r_1173 u_1172 H locs hw_1171 hP hD hS => ?_)
  try dsimp only at hw_1171
  have hP : va_P E.1 vwCl [(mo, ob 12 (mfs g))] H := hP
  have hD : va_D (fun q : Nat => s.heap.size ≤ q) [(mo, ob 12 (mfs g))] := hD
  refine lv_aload_n hx hb dL_law_363 rfl (lv_at hl 2 rfl) ?_
  refine cI_go (wr := []) (cM_runV (As := []) (rest := [.int r_1173]) F (p_X12_step l E mo r g kx ky kw kt fx fy fw bx by_ bw hR hI hm1 hm2 hm3 hm4) yy_X12_step yi_X12_step wdM_RL_57 hP hD hS hK hZ hA [0] rfl rfl 0 12 rfl rfl rfl hl.1 rfl (Nat.le_of_ble_eq_true rfl) dL_law_364 ⟨by decide, by decide⟩ ⟨by decide, by decide⟩) hP hD hS hA [0] [] rfl rfl rfl (by decide) (fun r_1176 u_1175 H locs hw_1174 hP hD hS => ?_)
  try dsimp only at hw_1174
  have hP : va_P E.1 vwCl [] H := hP
  have hD : va_D (fun q : Nat => s.heap.size ≤ q) [] := hD
  refine lv_icmp_eq (tgt := 715) hx hb dL_law_367 (by decide) (fun c_1177 => ?_) (fun c_1177 => absurd (hw_1171.trans hw_1174.symm) c_1177)
  refine lv_iinc (v := nI 6) (lv' := [(3, .int (nI 6)), (0, .ref b), (1, .ref xo), (2, .ref mo)]) hx hb dL_law_715 hl (k := 3) rfl (by decide) (by decide) rfl (fun ls hl => ?_)
  refine lv_goto (tgt := 18) hx hb dL_law_718 (by decide) ?_
  refine lv_iload_n hx hb dL_law_18 rfl (lv_at hl 0 rfl) ?_
  refine lv_aload_n hx hb dL_law_19 rfl (lv_at hl 1 rfl) ?_
  refine va_slen hx hb hX hbl hbA hS dL_law_20 ?_
  refine W.eq (g2 := F0 m 21 ls [.int (nI 6), .int (nI 6)]) rfl ?_
  refine lv_bipush (v := nI 6) hx hb dL_law_21 (by decide) ?_
  refine lv_isub hx hb dL_law_23 ?_
  rw [show ((nI 6) - (nI 6) : Int32) = nI 0 from by decide]
  refine lv_icmp_gt (tgt := 721) hx hb dL_law_24 (by decide) (fun c_1178 => ?_) (fun c_1178 => absurd (by decide) c_1178)
  refine lv_iconst (v := nI 1) hx hb dL_law_721 (by decide) ?_
  refine va_forget (fun q hq => hS.2.2 q hq) ?_
  refine W.widen (k := 600000) (n := 7302250) (by decide) (by decide) ?_
  exact lw_ret hx hb hr hlocks dL_law_722
set_option maxHeartbeats 4000000 in
set_option maxRecDepth 100000 in
theorem lc_back {p : Program} {l : Launch} {e : Env} {s : State} {m : MethodId} {below : List Frame} {meth : Method} {c : Code} {ls : Array Slot} {E : cE} {H : Heap} {locs : List Loc} {b L : Nat} {xs : Nat → Int32} {xo : Nat} {ad : Nat → Nat} {gx : Nat → Int32} {gy : Nat → Int32} {gf : Nat → Int32} {v2 : Int32} {gt : Nat → Int32} {gh : Nat → Int32} {gc : Nat → Int32} {mo : Nat} {r : Nat → Nat} {g : Nat → Value} {kx : Nat → Int32} {ky : Nat → Int32} {kw : Nat → Int32} {kt : Nat → Int32} {fx : Nat → Int32} {fy : Nat → Int32} {fw : Nat → Int32} {bx : Nat → Int32} {by_ : Nat → Int32} {bw : Nat → Int32} (F : cX p s m meth c code 4 ret yL_law #[Value.ref b]) (hA : ∀ q : Nat, s.heap.size ≤ q → (fun q : Nat => s.heap.size ≤ q) q) (hS : va_S (fun q : Nat => s.heap.size ≤ q) s.heap H locs) (hP : va_P E.1 vwCl [(xo, ob 11 [.ref (ad 0), .ref (ad 7), .ref (ad 28), .ref (ad 30), .ref (ad 76), .ref (ad 46), .ref (ad 55), .ref (ad 57), .ref (ad 59), .ref (ad 61), .ref (ad 80), .int 0, .int 0, .int 0, .int (-1), .int (-1), .int (-1)]), ((ad 59), ob 4 [.ref (ad 60), .int 0, .int 0]), ((ad 60), aQ E 201 (fun _ => none)), (mo, ob 12 (mfs g))] H) (hD : va_D (fun q : Nat => s.heap.size ≤ q) [(xo, ob 11 [.ref (ad 0), .ref (ad 7), .ref (ad 28), .ref (ad 30), .ref (ad 76), .ref (ad 46), .ref (ad 55), .ref (ad 57), .ref (ad 59), .ref (ad 61), .ref (ad 80), .int 0, .int 0, .int 0, .int (-1), .int (-1), .int (-1)]), ((ad 59), ob 4 [.ref (ad 60), .int 0, .int 0]), ((ad 60), aQ E 201 (fun _ => none)), (mo, ob 12 (mfs g))]) (hK : va_K E.1 vwCl (cTY E.2.1) s) (hZ : cZ E.2.2 (fun q : Nat => s.heap.size ≤ q) s s.heap) (hX : va_X b L xs s s.heap) (hbl : b < s.heap.size) (hbA : ¬ (fun q : Nat => s.heap.size ≤ q) b) (hL6 : L = 6) (hw1 : flo (stC 0) (2 * 4) gx gy gf) (hw3 : ∀ d, d < 2 * 4 → gt d = 0) (hw4 : ∀ d, d < 2 * 4 → gh d = nI (stC 0 d)) (hw5 : ∀ d, d < 2 * 4 → gc d = nI (stC 0 d)) (hR : mOK r g) (hI : ∀ k, k < 116 → mRef k = false → g k = mI k) (hm1 : flo (stC 0) (2 * 4) kx ky kw) (hm2 : ∀ d, d < 2 * 4 → kt d = 0) (hm3 : ∀ d, d < 2 * 4 → fx d = kx d ∧ fy d = ky d ∧ fw d = kw d) (hm4 : ∀ d, d < 2 * 4 → bx d = kx d ∧ by_ d = ky d ∧ bw d = kw d) (hl : lv_has ls 4 [(0, .ref b), (1, .ref xo), (2, .ref mo), (3, .int (nI 0))]) : W p l e room_1 s m #[Value.ref b] below meth c H locs 146 989044 (lw_Z below #[Value.ref b] s) (F0 m 372 ls []) := by
  subst hL6
  obtain ⟨hx, hb, hr, hml, hown, hts, hlocks, hin⟩ := id F
  have hown : s.vm.findClass RL = some m.cls := hown
  refine lv_aload_n hx hb dL_law_372 rfl (lv_at hl 1 rfl) ?_
  refine lv_aload_n hx hb dL_law_373 rfl (lv_at hl 0 rfl) ?_
  refine lv_iload_n hx hb dL_law_374 rfl (lv_at hl 3 rfl) ?_
  refine lv_iconst (v := nI 1) hx hb dL_law_375 (by decide) ?_
  refine lv_iadd hx hb dL_law_376 ?_
  rw [show ((nI 0) + (nI 1) : Int32) = nI 1 from by decide]
  refine va_sld hx hb hX hbl hbA hS (i := nI 1) (vp_in_nI (by omega) (by omega)) dL_law_377 ?_
  rw [nI_clamp (n := 1) (by decide)]
  refine cI_go (wr := [(mo, ob 12 (mfs g))]) (cM_runV (As := [.int (xs 1)]) (rest := []) F (p_X11_back l E xo ad gx gy gf v2 gt gh gc (xs 1) hw1 hw3 hw4 hw5) yy_X11_back yi_X11_back wdM_RL_58 hP hD hS hK hZ hA [0, 1, 2] rfl rfl 0 11 rfl rfl rfl hl.1 rfl (Nat.le_of_ble_eq_true rfl) dL_law_378 ⟨by decide, by decide⟩ ⟨by decide, by decide⟩) hP hD hS hA [0, 1, 2] [3] rfl rfl rfl (by decide) (fun r_1181 u_1180 H locs hw_1179 hP hD hS => ?_)
  try dsimp only at hw_1179
  have hP : va_P E.1 vwCl [(mo, ob 12 (mfs g))] H := hP
  have hD : va_D (fun q : Nat => s.heap.size ≤ q) [(mo, ob 12 (mfs g))] := hD
  refine lv_aload_n hx hb dL_law_381 rfl (lv_at hl 2 rfl) ?_
  refine lv_aload_n hx hb dL_law_382 rfl (lv_at hl 0 rfl) ?_
  refine lv_iload_n hx hb dL_law_383 rfl (lv_at hl 3 rfl) ?_
  refine lv_iconst (v := nI 1) hx hb dL_law_384 (by decide) ?_
  refine lv_iadd hx hb dL_law_385 ?_
  rw [show ((nI 0) + (nI 1) : Int32) = nI 1 from by decide]
  refine va_sld hx hb hX hbl hbA hS (i := nI 1) (vp_in_nI (by omega) (by omega)) dL_law_386 ?_
  rw [nI_clamp (n := 1) (by decide)]
  refine cI_go (wr := []) (cM_runV (As := [.int (xs 1)]) (rest := [.int r_1181]) F (p_X12_back l E mo r g kx ky kw kt fx fy fw bx by_ bw (xs 1) hR hI hm1 hm2 hm3 hm4) yy_X12_back yi_X12_back wdM_RL_61 hP hD hS hK hZ hA [0] rfl rfl 0 12 rfl rfl rfl hl.1 rfl (Nat.le_of_ble_eq_true rfl) dL_law_387 ⟨by decide, by decide⟩ ⟨by decide, by decide⟩) hP hD hS hA [0] [] rfl rfl rfl (by decide) (fun r_1184 u_1183 H locs hw_1182 hP hD hS => ?_)
  try dsimp only at hw_1182
  have hP : va_P E.1 vwCl [] H := hP
  have hD : va_D (fun q : Nat => s.heap.size ≤ q) [] := hD
  refine lv_icmp_eq (tgt := 715) hx hb dL_law_390 (by decide) (fun c_1185 => ?_) (fun c_1185 => absurd (hw_1179.trans hw_1182.symm) c_1185)
  refine lv_iinc (v := nI 6) (lv' := [(3, .int (nI 6)), (0, .ref b), (1, .ref xo), (2, .ref mo)]) hx hb dL_law_715 hl (k := 3) rfl (by decide) (by decide) rfl (fun ls hl => ?_)
  refine lv_goto (tgt := 18) hx hb dL_law_718 (by decide) ?_
  refine lv_iload_n hx hb dL_law_18 rfl (lv_at hl 0 rfl) ?_
  refine lv_aload_n hx hb dL_law_19 rfl (lv_at hl 1 rfl) ?_
  refine va_slen hx hb hX hbl hbA hS dL_law_20 ?_
  refine W.eq (g2 := F0 m 21 ls [.int (nI 6), .int (nI 6)]) rfl ?_
  refine lv_bipush (v := nI 6) hx hb dL_law_21 (by decide) ?_
  refine lv_isub hx hb dL_law_23 ?_
  rw [show ((nI 6) - (nI 6) : Int32) = nI 0 from by decide]
  refine lv_icmp_gt (tgt := 721) hx hb dL_law_24 (by decide) (fun c_1186 => ?_) (fun c_1186 => absurd (by decide) c_1186)
  refine lv_iconst (v := nI 1) hx hb dL_law_721 (by decide) ?_
  refine va_forget (fun q hq => hS.2.2 q hq) ?_
  refine W.widen (k := 600000) (n := 7302250) (by decide) (by decide) ?_
  exact lw_ret hx hb hr hlocks dL_law_722
set_option maxHeartbeats 4000000 in
set_option maxRecDepth 100000 in
theorem lc_failed {p : Program} {l : Launch} {e : Env} {s : State} {m : MethodId} {below : List Frame} {meth : Method} {c : Code} {ls : Array Slot} {E : cE} {H : Heap} {locs : List Loc} {b L : Nat} {xs : Nat → Int32} {xo : Nat} {ad : Nat → Nat} {gx : Nat → Int32} {gy : Nat → Int32} {gf : Nat → Int32} {v2 : Int32} {gt : Nat → Int32} {gh : Nat → Int32} {gc : Nat → Int32} {mo : Nat} {r : Nat → Nat} {g : Nat → Value} {kx : Nat → Int32} {ky : Nat → Int32} {kw : Nat → Int32} {kt : Nat → Int32} {fx : Nat → Int32} {fy : Nat → Int32} {fw : Nat → Int32} {bx : Nat → Int32} {by_ : Nat → Int32} {bw : Nat → Int32} (F : cX p s m meth c code 4 ret yL_law #[Value.ref b]) (hA : ∀ q : Nat, s.heap.size ≤ q → (fun q : Nat => s.heap.size ≤ q) q) (hS : va_S (fun q : Nat => s.heap.size ≤ q) s.heap H locs) (hP : va_P E.1 vwCl [(xo, ob 11 [.ref (ad 0), .ref (ad 7), .ref (ad 28), .ref (ad 30), .ref (ad 76), .ref (ad 46), .ref (ad 55), .ref (ad 57), .ref (ad 59), .ref (ad 61), .ref (ad 80), .int 0, .int 0, .int 0, .int (-1), .int (-1), .int (-1)]), (mo, ob 12 (mfs g))] H) (hD : va_D (fun q : Nat => s.heap.size ≤ q) [(xo, ob 11 [.ref (ad 0), .ref (ad 7), .ref (ad 28), .ref (ad 30), .ref (ad 76), .ref (ad 46), .ref (ad 55), .ref (ad 57), .ref (ad 59), .ref (ad 61), .ref (ad 80), .int 0, .int 0, .int 0, .int (-1), .int (-1), .int (-1)]), (mo, ob 12 (mfs g))]) (hK : va_K E.1 vwCl (cTY E.2.1) s) (hZ : cZ E.2.2 (fun q : Nat => s.heap.size ≤ q) s s.heap) (hX : va_X b L xs s s.heap) (hbl : b < s.heap.size) (hbA : ¬ (fun q : Nat => s.heap.size ≤ q) b) (hL6 : L = 6) (hw1 : flo (stC 0) (2 * 4) gx gy gf) (hw3 : ∀ d, d < 2 * 4 → gt d = 0) (hw4 : ∀ d, d < 2 * 4 → gh d = nI (stC 0 d)) (hw5 : ∀ d, d < 2 * 4 → gc d = nI (stC 0 d)) (hR : mOK r g) (hI : ∀ k, k < 116 → mRef k = false → g k = mI k) (hm1 : flo (stC 0) (2 * 4) kx ky kw) (hm2 : ∀ d, d < 2 * 4 → kt d = 0) (hm3 : ∀ d, d < 2 * 4 → fx d = kx d ∧ fy d = ky d ∧ fw d = kw d) (hm4 : ∀ d, d < 2 * 4 → bx d = kx d ∧ by_ d = ky d ∧ bw d = kw d) (hl : lv_has ls 4 [(0, .ref b), (1, .ref xo), (2, .ref mo), (3, .int (nI 0))]) : W p l e room_1 s m #[Value.ref b] below meth c H locs 146 989044 (lw_Z below #[Value.ref b] s) (F0 m 395 ls []) := by
  subst hL6
  obtain ⟨hx, hb, hr, hml, hown, hts, hlocks, hin⟩ := id F
  have hown : s.vm.findClass RL = some m.cls := hown
  refine lv_aload_n hx hb dL_law_395 rfl (lv_at hl 1 rfl) ?_
  refine lv_aload_n hx hb dL_law_396 rfl (lv_at hl 0 rfl) ?_
  refine lv_iload_n hx hb dL_law_397 rfl (lv_at hl 3 rfl) ?_
  refine lv_iconst (v := nI 1) hx hb dL_law_398 (by decide) ?_
  refine lv_iadd hx hb dL_law_399 ?_
  rw [show ((nI 0) + (nI 1) : Int32) = nI 1 from by decide]
  refine va_sld hx hb hX hbl hbA hS (i := nI 1) (vp_in_nI (by omega) (by omega)) dL_law_400 ?_
  rw [nI_clamp (n := 1) (by decide)]
  refine cI_go (wr := [(mo, ob 12 (mfs g))]) (cM_runV (As := [.int (xs 1)]) (rest := []) F (p_X11_failed l E xo ad gx gy gf v2 gt gh gc (xs 1) hw1 hw3 hw4 hw5) yy_X11_failed yi_X11_failed wdM_RL_62 hP hD hS hK hZ hA [0] rfl rfl 0 11 rfl rfl rfl hl.1 rfl (Nat.le_of_ble_eq_true rfl) dL_law_401 ⟨by decide, by decide⟩ ⟨by decide, by decide⟩) hP hD hS hA [0] [1] rfl rfl rfl (by decide) (fun r_1189 u_1188 H locs hw_1187 hP hD hS => ?_)
  try dsimp only at hw_1187
  have hP : va_P E.1 vwCl [(mo, ob 12 (mfs g))] H := hP
  have hD : va_D (fun q : Nat => s.heap.size ≤ q) [(mo, ob 12 (mfs g))] := hD
  refine lv_aload_n hx hb dL_law_404 rfl (lv_at hl 2 rfl) ?_
  refine lv_aload_n hx hb dL_law_405 rfl (lv_at hl 0 rfl) ?_
  refine lv_iload_n hx hb dL_law_406 rfl (lv_at hl 3 rfl) ?_
  refine lv_iconst (v := nI 1) hx hb dL_law_407 (by decide) ?_
  refine lv_iadd hx hb dL_law_408 ?_
  rw [show ((nI 0) + (nI 1) : Int32) = nI 1 from by decide]
  refine va_sld hx hb hX hbl hbA hS (i := nI 1) (vp_in_nI (by omega) (by omega)) dL_law_409 ?_
  rw [nI_clamp (n := 1) (by decide)]
  refine cI_go (wr := []) (cM_runV (As := [.int (xs 1)]) (rest := [.int r_1189]) F (p_X12_failed l E mo r g kx ky kw kt fx fy fw bx by_ bw (xs 1) hR hI hm1 hm2 hm3 hm4) yy_X12_failed yi_X12_failed wdM_RL_65 hP hD hS hK hZ hA [0] rfl rfl 0 12 rfl rfl rfl hl.1 rfl (Nat.le_of_ble_eq_true rfl) dL_law_410 ⟨by decide, by decide⟩ ⟨by decide, by decide⟩) hP hD hS hA [0] [] rfl rfl rfl (by decide) (fun r_1192 u_1191 H locs hw_1190 hP hD hS => ?_)
  try dsimp only at hw_1190
  have hP : va_P E.1 vwCl [] H := hP
  have hD : va_D (fun q : Nat => s.heap.size ≤ q) [] := hD
  refine lv_icmp_eq (tgt := 715) hx hb dL_law_413 (by decide) (fun c_1193 => ?_) (fun c_1193 => absurd (hw_1187.trans hw_1190.symm) c_1193)
  refine lv_iinc (v := nI 6) (lv' := [(3, .int (nI 6)), (0, .ref b), (1, .ref xo), (2, .ref mo)]) hx hb dL_law_715 hl (k := 3) rfl (by decide) (by decide) rfl (fun ls hl => ?_)
  refine lv_goto (tgt := 18) hx hb dL_law_718 (by decide) ?_
  refine lv_iload_n hx hb dL_law_18 rfl (lv_at hl 0 rfl) ?_
  refine lv_aload_n hx hb dL_law_19 rfl (lv_at hl 1 rfl) ?_
  refine va_slen hx hb hX hbl hbA hS dL_law_20 ?_
  refine W.eq (g2 := F0 m 21 ls [.int (nI 6), .int (nI 6)]) rfl ?_
  refine lv_bipush (v := nI 6) hx hb dL_law_21 (by decide) ?_
  refine lv_isub hx hb dL_law_23 ?_
  rw [show ((nI 6) - (nI 6) : Int32) = nI 0 from by decide]
  refine lv_icmp_gt (tgt := 721) hx hb dL_law_24 (by decide) (fun c_1194 => ?_) (fun c_1194 => absurd (by decide) c_1194)
  refine lv_iconst (v := nI 1) hx hb dL_law_721 (by decide) ?_
  refine va_forget (fun q hq => hS.2.2 q hq) ?_
  refine W.widen (k := 600000) (n := 7302250) (by decide) (by decide) ?_
  exact lw_ret hx hb hr hlocks dL_law_722
set_option maxHeartbeats 4000000 in
set_option maxRecDepth 100000 in
theorem lc_may {p : Program} {l : Launch} {e : Env} {s : State} {m : MethodId} {below : List Frame} {meth : Method} {c : Code} {ls : Array Slot} {E : cE} {H : Heap} {locs : List Loc} {b L : Nat} {xs : Nat → Int32} {xo : Nat} {ad : Nat → Nat} {gx : Nat → Int32} {gy : Nat → Int32} {gf : Nat → Int32} {v2 : Int32} {gt : Nat → Int32} {gh : Nat → Int32} {gc : Nat → Int32} {mo : Nat} {r : Nat → Nat} {g : Nat → Value} {kx : Nat → Int32} {ky : Nat → Int32} {kw : Nat → Int32} {kt : Nat → Int32} {fx : Nat → Int32} {fy : Nat → Int32} {fw : Nat → Int32} {bx : Nat → Int32} {by_ : Nat → Int32} {bw : Nat → Int32} (F : cX p s m meth c code 4 ret yL_law #[Value.ref b]) (hA : ∀ q : Nat, s.heap.size ≤ q → (fun q : Nat => s.heap.size ≤ q) q) (hS : va_S (fun q : Nat => s.heap.size ≤ q) s.heap H locs) (hP : va_P E.1 vwCl [(xo, ob 11 [.ref (ad 0), .ref (ad 7), .ref (ad 28), .ref (ad 30), .ref (ad 76), .ref (ad 46), .ref (ad 55), .ref (ad 57), .ref (ad 59), .ref (ad 61), .ref (ad 80), .int 0, .int 0, .int 0, .int (-1), .int (-1), .int (-1)]), ((ad 7), ob 0 [.ref (ad 8), .ref (ad 10), .ref (ad 12), .ref (ad 14), .ref (ad 15), .ref (ad 16), .ref (ad 17), .ref (ad 18), .ref (ad 19), .ref (ad 20), .ref (ad 21), .ref (ad 22), .ref (ad 23), .ref (ad 24), .ref (ad 25), .ref (ad 26), .int 0, .ref (ad 27), .int 0, .int 0]), (mo, ob 12 (mfs g))] H) (hD : va_D (fun q : Nat => s.heap.size ≤ q) [(xo, ob 11 [.ref (ad 0), .ref (ad 7), .ref (ad 28), .ref (ad 30), .ref (ad 76), .ref (ad 46), .ref (ad 55), .ref (ad 57), .ref (ad 59), .ref (ad 61), .ref (ad 80), .int 0, .int 0, .int 0, .int (-1), .int (-1), .int (-1)]), ((ad 7), ob 0 [.ref (ad 8), .ref (ad 10), .ref (ad 12), .ref (ad 14), .ref (ad 15), .ref (ad 16), .ref (ad 17), .ref (ad 18), .ref (ad 19), .ref (ad 20), .ref (ad 21), .ref (ad 22), .ref (ad 23), .ref (ad 24), .ref (ad 25), .ref (ad 26), .int 0, .ref (ad 27), .int 0, .int 0]), (mo, ob 12 (mfs g))]) (hK : va_K E.1 vwCl (cTY E.2.1) s) (hZ : cZ E.2.2 (fun q : Nat => s.heap.size ≤ q) s s.heap) (hX : va_X b L xs s s.heap) (hbl : b < s.heap.size) (hbA : ¬ (fun q : Nat => s.heap.size ≤ q) b) (hL6 : L = 6) (hw1 : flo (stC 0) (2 * 4) gx gy gf) (hw3 : ∀ d, d < 2 * 4 → gt d = 0) (hw4 : ∀ d, d < 2 * 4 → gh d = nI (stC 0 d)) (hw5 : ∀ d, d < 2 * 4 → gc d = nI (stC 0 d)) (hR : mOK r g) (hI : ∀ k, k < 116 → mRef k = false → g k = mI k) (hm1 : flo (stC 0) (2 * 4) kx ky kw) (hm2 : ∀ d, d < 2 * 4 → kt d = 0) (hm3 : ∀ d, d < 2 * 4 → fx d = kx d ∧ fy d = ky d ∧ fw d = kw d) (hm4 : ∀ d, d < 2 * 4 → bx d = kx d ∧ by_ d = ky d ∧ bw d = kw d) (hl : lv_has ls 4 [(0, .ref b), (1, .ref xo), (2, .ref mo), (3, .int (nI 0))]) : W p l e room_1 s m #[Value.ref b] below meth c H locs 146 989044 (lw_Z below #[Value.ref b] s) (F0 m 418 ls []) := by
  subst hL6
  obtain ⟨hx, hb, hr, hml, hown, hts, hlocks, hin⟩ := id F
  have hown : s.vm.findClass RL = some m.cls := hown
  refine lv_aload_n hx hb dL_law_418 rfl (lv_at hl 1 rfl) ?_
  refine lv_aload_n hx hb dL_law_419 rfl (lv_at hl 0 rfl) ?_
  refine lv_iload_n hx hb dL_law_420 rfl (lv_at hl 3 rfl) ?_
  refine lv_iconst (v := nI 1) hx hb dL_law_421 (by decide) ?_
  refine lv_iadd hx hb dL_law_422 ?_
  rw [show ((nI 0) + (nI 1) : Int32) = nI 1 from by decide]
  refine va_sld hx hb hX hbl hbA hS (i := nI 1) (vp_in_nI (by omega) (by omega)) dL_law_423 ?_
  rw [nI_clamp (n := 1) (by decide)]
  refine cI_go (wr := [(mo, ob 12 (mfs g))]) (cM_runV (As := [.int (xs 1)]) (rest := []) F (p_X11_may l E xo ad gx gy gf v2 gt gh gc (xs 1) hw1 hw3 hw4 hw5) yy_X11_may yi_X11_may wdM_RL_66 hP hD hS hK hZ hA [0, 1] rfl rfl 0 11 rfl rfl rfl hl.1 rfl (Nat.le_of_ble_eq_true rfl) dL_law_424 ⟨by decide, by decide⟩ ⟨by decide, by decide⟩) hP hD hS hA [0, 1] [2] rfl rfl rfl (by decide) (fun r_1197 u_1196 H locs hw_1195 hP hD hS => ?_)
  try dsimp only at hw_1195
  have hP : va_P E.1 vwCl [(mo, ob 12 (mfs g))] H := hP
  have hD : va_D (fun q : Nat => s.heap.size ≤ q) [(mo, ob 12 (mfs g))] := hD
  refine lv_aload_n hx hb dL_law_427 rfl (lv_at hl 2 rfl) ?_
  refine lv_aload_n hx hb dL_law_428 rfl (lv_at hl 0 rfl) ?_
  refine lv_iload_n hx hb dL_law_429 rfl (lv_at hl 3 rfl) ?_
  refine lv_iconst (v := nI 1) hx hb dL_law_430 (by decide) ?_
  refine lv_iadd hx hb dL_law_431 ?_
  rw [show ((nI 0) + (nI 1) : Int32) = nI 1 from by decide]
  refine va_sld hx hb hX hbl hbA hS (i := nI 1) (vp_in_nI (by omega) (by omega)) dL_law_432 ?_
  rw [nI_clamp (n := 1) (by decide)]
  refine cI_go (wr := []) (cM_runV (As := [.int (xs 1)]) (rest := [.int r_1197]) F (p_X12_may l E mo r g kx ky kw kt fx fy fw bx by_ bw (xs 1) hR hI hm1 hm2 hm3 hm4) yy_X12_may yi_X12_may wdM_RL_69 hP hD hS hK hZ hA [0] rfl rfl 0 12 rfl rfl rfl hl.1 rfl (Nat.le_of_ble_eq_true rfl) dL_law_433 ⟨by decide, by decide⟩ ⟨by decide, by decide⟩) hP hD hS hA [0] [] rfl rfl rfl (by decide) (fun r_1200 u_1199 H locs hw_1198 hP hD hS => ?_)
  try dsimp only at hw_1198
  have hP : va_P E.1 vwCl [] H := hP
  have hD : va_D (fun q : Nat => s.heap.size ≤ q) [] := hD
  refine lv_icmp_eq (tgt := 715) hx hb dL_law_436 (by decide) (fun c_1201 => ?_) (fun c_1201 => absurd (hw_1195.trans hw_1198.symm) c_1201)
  refine lv_iinc (v := nI 6) (lv' := [(3, .int (nI 6)), (0, .ref b), (1, .ref xo), (2, .ref mo)]) hx hb dL_law_715 hl (k := 3) rfl (by decide) (by decide) rfl (fun ls hl => ?_)
  refine lv_goto (tgt := 18) hx hb dL_law_718 (by decide) ?_
  refine lv_iload_n hx hb dL_law_18 rfl (lv_at hl 0 rfl) ?_
  refine lv_aload_n hx hb dL_law_19 rfl (lv_at hl 1 rfl) ?_
  refine va_slen hx hb hX hbl hbA hS dL_law_20 ?_
  refine W.eq (g2 := F0 m 21 ls [.int (nI 6), .int (nI 6)]) rfl ?_
  refine lv_bipush (v := nI 6) hx hb dL_law_21 (by decide) ?_
  refine lv_isub hx hb dL_law_23 ?_
  rw [show ((nI 6) - (nI 6) : Int32) = nI 0 from by decide]
  refine lv_icmp_gt (tgt := 721) hx hb dL_law_24 (by decide) (fun c_1202 => ?_) (fun c_1202 => absurd (by decide) c_1202)
  refine lv_iconst (v := nI 1) hx hb dL_law_721 (by decide) ?_
  refine va_forget (fun q hq => hS.2.2 q hq) ?_
  refine W.widen (k := 600000) (n := 7302250) (by decide) (by decide) ?_
  exact lw_ret hx hb hr hlocks dL_law_722
set_option maxHeartbeats 4000000 in
set_option maxRecDepth 100000 in
theorem lc_resolve {p : Program} {l : Launch} {e : Env} {s : State} {m : MethodId} {below : List Frame} {meth : Method} {c : Code} {ls : Array Slot} {E : cE} {H : Heap} {locs : List Loc} {b L : Nat} {xs : Nat → Int32} {xo : Nat} {ad : Nat → Nat} {gx : Nat → Int32} {gy : Nat → Int32} {gf : Nat → Int32} {v2 : Int32} {gt : Nat → Int32} {gh : Nat → Int32} {gc : Nat → Int32} {mo : Nat} {r : Nat → Nat} {g : Nat → Value} {kx : Nat → Int32} {ky : Nat → Int32} {kw : Nat → Int32} {kt : Nat → Int32} {fx : Nat → Int32} {fy : Nat → Int32} {fw : Nat → Int32} {bx : Nat → Int32} {by_ : Nat → Int32} {bw : Nat → Int32} (F : cX p s m meth c code 4 ret yL_law #[Value.ref b]) (hA : ∀ q : Nat, s.heap.size ≤ q → (fun q : Nat => s.heap.size ≤ q) q) (hS : va_S (fun q : Nat => s.heap.size ≤ q) s.heap H locs) (hP : va_P E.1 vwCl [(xo, ob 11 [.ref (ad 0), .ref (ad 7), .ref (ad 28), .ref (ad 30), .ref (ad 76), .ref (ad 46), .ref (ad 55), .ref (ad 57), .ref (ad 59), .ref (ad 61), .ref (ad 80), .int 0, .int 0, .int 0, .int (-1), .int (-1), .int (-1)]), ((ad 61), ob 9 [.ref (ad 7), .ref (ad 30), .ref (ad 46), .ref (ad 62), .ref (ad 63), .ref (ad 64), .ref (ad 65), .ref (ad 66), .ref (ad 67), .ref (ad 68), .ref (ad 69), .int 0, .int 0, .int 0, .int (-1), .ref (ad 70), .int 0, .int 0]), ((ad 63), aS E 4096 (fun _ => 0)), ((ad 65), aI E 15 (fun _ => 0)), ((ad 69), aI E 16 (fun _ => 0)), ((ad 68), aJ E 3 (fun _ => 0)), ((ad 62), aJ E 6000 (fun _ => 0)), ((ad 66), aJ E 2000 (fun _ => 0)), ((ad 67), aI E 2000 (fun _ => 0)), ((ad 7), ob 0 [.ref (ad 8), .ref (ad 10), .ref (ad 12), .ref (ad 14), .ref (ad 15), .ref (ad 16), .ref (ad 17), .ref (ad 18), .ref (ad 19), .ref (ad 20), .ref (ad 21), .ref (ad 22), .ref (ad 23), .ref (ad 24), .ref (ad 25), .ref (ad 26), .int 0, .ref (ad 27), .int 0, .int 0]), ((ad 76), ob 3 [.ref (ad 77), .ref (ad 78), .ref (ad 79), .ref (ad 71), .ref (ad 72), .ref (ad 73), .ref (ad 74), .ref (ad 75), .int (nI (2 * 4)), .int v2]), ((ad 77), aI E 64 gx), ((ad 78), aI E 64 gy), ((ad 79), aI E 64 gf), ((ad 80), aI E 64 gc), (mo, ob 12 (mfs g)), ((r 38), aI E 64 kx), ((r 39), aI E 64 ky), ((r 40), aI E 64 kw), ((r 41), aI E 64 kt), ((r 47), aI E 64 bx), ((r 48), aI E 64 by_), ((r 49), aI E 64 bw), ((r 104), aI E 256 (fun _ => 0)), ((r 92), aI E 32000 (fun _ => 0)), ((r 93), aI E 2000 (fun _ => 0)), ((r 95), aJ E 2000 (fun _ => 0)), ((r 96), aI E 2000 (fun _ => 0)), ((r 97), aI E 32 (fun _ => 0)), ((r 30), aI E 32 (fun _ => 0))] H) (hD : va_D (fun q : Nat => s.heap.size ≤ q) [(xo, ob 11 [.ref (ad 0), .ref (ad 7), .ref (ad 28), .ref (ad 30), .ref (ad 76), .ref (ad 46), .ref (ad 55), .ref (ad 57), .ref (ad 59), .ref (ad 61), .ref (ad 80), .int 0, .int 0, .int 0, .int (-1), .int (-1), .int (-1)]), ((ad 61), ob 9 [.ref (ad 7), .ref (ad 30), .ref (ad 46), .ref (ad 62), .ref (ad 63), .ref (ad 64), .ref (ad 65), .ref (ad 66), .ref (ad 67), .ref (ad 68), .ref (ad 69), .int 0, .int 0, .int 0, .int (-1), .ref (ad 70), .int 0, .int 0]), ((ad 63), aS E 4096 (fun _ => 0)), ((ad 65), aI E 15 (fun _ => 0)), ((ad 69), aI E 16 (fun _ => 0)), ((ad 68), aJ E 3 (fun _ => 0)), ((ad 62), aJ E 6000 (fun _ => 0)), ((ad 66), aJ E 2000 (fun _ => 0)), ((ad 67), aI E 2000 (fun _ => 0)), ((ad 7), ob 0 [.ref (ad 8), .ref (ad 10), .ref (ad 12), .ref (ad 14), .ref (ad 15), .ref (ad 16), .ref (ad 17), .ref (ad 18), .ref (ad 19), .ref (ad 20), .ref (ad 21), .ref (ad 22), .ref (ad 23), .ref (ad 24), .ref (ad 25), .ref (ad 26), .int 0, .ref (ad 27), .int 0, .int 0]), ((ad 76), ob 3 [.ref (ad 77), .ref (ad 78), .ref (ad 79), .ref (ad 71), .ref (ad 72), .ref (ad 73), .ref (ad 74), .ref (ad 75), .int (nI (2 * 4)), .int v2]), ((ad 77), aI E 64 gx), ((ad 78), aI E 64 gy), ((ad 79), aI E 64 gf), ((ad 80), aI E 64 gc), (mo, ob 12 (mfs g)), ((r 38), aI E 64 kx), ((r 39), aI E 64 ky), ((r 40), aI E 64 kw), ((r 41), aI E 64 kt), ((r 47), aI E 64 bx), ((r 48), aI E 64 by_), ((r 49), aI E 64 bw), ((r 104), aI E 256 (fun _ => 0)), ((r 92), aI E 32000 (fun _ => 0)), ((r 93), aI E 2000 (fun _ => 0)), ((r 95), aJ E 2000 (fun _ => 0)), ((r 96), aI E 2000 (fun _ => 0)), ((r 97), aI E 32 (fun _ => 0)), ((r 30), aI E 32 (fun _ => 0))]) (hK : va_K E.1 vwCl (cTY E.2.1) s) (hZ : cZ E.2.2 (fun q : Nat => s.heap.size ≤ q) s s.heap) (hX : va_X b L xs s s.heap) (hbl : b < s.heap.size) (hbA : ¬ (fun q : Nat => s.heap.size ≤ q) b) (hL6 : L = 6) (hw1 : flo (stC 0) (2 * 4) gx gy gf) (hw3 : ∀ d, d < 2 * 4 → gt d = 0) (hw4 : ∀ d, d < 2 * 4 → gh d = nI (stC 0 d)) (hw5 : ∀ d, d < 2 * 4 → gc d = nI (stC 0 d)) (hR : mOK r g) (hI : ∀ k, k < 116 → mRef k = false → g k = mI k) (hm1 : flo (stC 0) (2 * 4) kx ky kw) (hm2 : ∀ d, d < 2 * 4 → kt d = 0) (hm3 : ∀ d, d < 2 * 4 → fx d = kx d ∧ fy d = ky d ∧ fw d = kw d) (hm4 : ∀ d, d < 2 * 4 → bx d = kx d ∧ by_ d = ky d ∧ bw d = kw d) (hl : lv_has ls 4 [(0, .ref b), (1, .ref xo), (2, .ref mo), (3, .int (nI 0))]) : W p l e room_1 s m #[Value.ref b] below meth c H locs 146 989044 (lw_Z below #[Value.ref b] s) (F0 m 441 ls []) := by
  subst hL6
  obtain ⟨hx, hb, hr, hml, hown, hts, hlocks, hin⟩ := id F
  have hown : s.vm.findClass RL = some m.cls := hown
  refine lv_aload_n hx hb dL_law_441 rfl (lv_at hl 1 rfl) ?_
  refine lv_aload_n hx hb dL_law_442 rfl (lv_at hl 0 rfl) ?_
  refine lv_iload_n hx hb dL_law_443 rfl (lv_at hl 3 rfl) ?_
  refine lv_iconst (v := nI 1) hx hb dL_law_444 (by decide) ?_
  refine lv_iadd hx hb dL_law_445 ?_
  rw [show ((nI 0) + (nI 1) : Int32) = nI 1 from by decide]
  refine va_sld hx hb hX hbl hbA hS (i := nI 1) (vp_in_nI (by omega) (by omega)) dL_law_446 ?_
  rw [nI_clamp (n := 1) (by decide)]
  refine cI_go (wr := [(mo, ob 12 (mfs g)), ((r 38), aI E 64 kx), ((r 39), aI E 64 ky), ((r 40), aI E 64 kw), ((r 41), aI E 64 kt), ((r 47), aI E 64 bx), ((r 48), aI E 64 by_), ((r 49), aI E 64 bw), ((r 104), aI E 256 (fun _ => 0)), ((r 92), aI E 32000 (fun _ => 0)), ((r 93), aI E 2000 (fun _ => 0)), ((r 95), aJ E 2000 (fun _ => 0)), ((r 96), aI E 2000 (fun _ => 0)), ((r 97), aI E 32 (fun _ => 0)), ((r 30), aI E 32 (fun _ => 0))]) (cM_runV (As := [.int (xs 1)]) (rest := []) F (p_X11_resolve l E xo ad gx gy gf v2 gt gh gc (xs 1) hw1 hw3 hw4 hw5) yy_X11_resolve yi_X11_resolve wdM_RL_70 hP hD hS hK hZ hA [0, 1, 2, 3, 4, 5, 6, 7, 8, 9, 10, 11, 12, 13, 14] rfl rfl 0 11 rfl rfl rfl hl.1 rfl (Nat.le_of_ble_eq_true rfl) dL_law_447 ⟨by decide, by decide⟩ ⟨by decide, by decide⟩) hP hD hS hA [0, 1, 2, 3, 4, 5, 6, 7, 8, 9, 10, 11, 12, 13, 14] [15, 16, 17, 18, 19, 20, 21, 22, 23, 24, 25, 26, 27, 28, 29] rfl rfl rfl (by decide) (fun r_1205 u_1204 H locs hw_1203 hP hD hS => ?_)
  try dsimp only at hw_1203
  have hP : va_P E.1 vwCl [(mo, ob 12 (mfs g)), ((r 38), aI E 64 kx), ((r 39), aI E 64 ky), ((r 40), aI E 64 kw), ((r 41), aI E 64 kt), ((r 47), aI E 64 bx), ((r 48), aI E 64 by_), ((r 49), aI E 64 bw), ((r 104), aI E 256 (fun _ => 0)), ((r 92), aI E 32000 (fun _ => 0)), ((r 93), aI E 2000 (fun _ => 0)), ((r 95), aJ E 2000 (fun _ => 0)), ((r 96), aI E 2000 (fun _ => 0)), ((r 97), aI E 32 (fun _ => 0)), ((r 30), aI E 32 (fun _ => 0))] H := hP
  have hD : va_D (fun q : Nat => s.heap.size ≤ q) [(mo, ob 12 (mfs g)), ((r 38), aI E 64 kx), ((r 39), aI E 64 ky), ((r 40), aI E 64 kw), ((r 41), aI E 64 kt), ((r 47), aI E 64 bx), ((r 48), aI E 64 by_), ((r 49), aI E 64 bw), ((r 104), aI E 256 (fun _ => 0)), ((r 92), aI E 32000 (fun _ => 0)), ((r 93), aI E 2000 (fun _ => 0)), ((r 95), aJ E 2000 (fun _ => 0)), ((r 96), aI E 2000 (fun _ => 0)), ((r 97), aI E 32 (fun _ => 0)), ((r 30), aI E 32 (fun _ => 0))] := hD
  refine lv_aload_n hx hb dL_law_450 rfl (lv_at hl 2 rfl) ?_
  refine lv_aload_n hx hb dL_law_451 rfl (lv_at hl 0 rfl) ?_
  refine lv_iload_n hx hb dL_law_452 rfl (lv_at hl 3 rfl) ?_
  refine lv_iconst (v := nI 1) hx hb dL_law_453 (by decide) ?_
  refine lv_iadd hx hb dL_law_454 ?_
  rw [show ((nI 0) + (nI 1) : Int32) = nI 1 from by decide]
  refine va_sld hx hb hX hbl hbA hS (i := nI 1) (vp_in_nI (by omega) (by omega)) dL_law_455 ?_
  rw [nI_clamp (n := 1) (by decide)]
  refine cI_go (wr := []) (cM_runV (As := [.int (xs 1)]) (rest := [.int r_1205]) F (p_X12_resolve l E mo r g kx ky kw kt fx fy fw bx by_ bw (xs 1) hR hI hm1 hm2 hm3 hm4) yy_X12_resolve yi_X12_resolve wdM_RL_73 hP hD hS hK hZ hA [0, 1, 2, 3, 4, 5, 6, 7, 8, 9, 10, 11, 12, 13, 14] rfl rfl 0 12 rfl rfl rfl hl.1 rfl (Nat.le_of_ble_eq_true rfl) dL_law_456 ⟨by decide, by decide⟩ ⟨by decide, by decide⟩) hP hD hS hA [0, 1, 2, 3, 4, 5, 6, 7, 8, 9, 10, 11, 12, 13, 14] [] rfl rfl rfl (by decide) (fun r_1208 u_1207 H locs hw_1206 hP hD hS => ?_)
  try dsimp only at hw_1206
  have hP : va_P E.1 vwCl [] H := hP
  have hD : va_D (fun q : Nat => s.heap.size ≤ q) [] := hD
  refine lv_icmp_eq (tgt := 715) hx hb dL_law_459 (by decide) (fun c_1209 => ?_) (fun c_1209 => absurd (hw_1203.trans hw_1206.symm) c_1209)
  refine lv_iinc (v := nI 6) (lv' := [(3, .int (nI 6)), (0, .ref b), (1, .ref xo), (2, .ref mo)]) hx hb dL_law_715 hl (k := 3) rfl (by decide) (by decide) rfl (fun ls hl => ?_)
  refine lv_goto (tgt := 18) hx hb dL_law_718 (by decide) ?_
  refine lv_iload_n hx hb dL_law_18 rfl (lv_at hl 0 rfl) ?_
  refine lv_aload_n hx hb dL_law_19 rfl (lv_at hl 1 rfl) ?_
  refine va_slen hx hb hX hbl hbA hS dL_law_20 ?_
  refine W.eq (g2 := F0 m 21 ls [.int (nI 6), .int (nI 6)]) rfl ?_
  refine lv_bipush (v := nI 6) hx hb dL_law_21 (by decide) ?_
  refine lv_isub hx hb dL_law_23 ?_
  rw [show ((nI 6) - (nI 6) : Int32) = nI 0 from by decide]
  refine lv_icmp_gt (tgt := 721) hx hb dL_law_24 (by decide) (fun c_1210 => ?_) (fun c_1210 => absurd (by decide) c_1210)
  refine lv_iconst (v := nI 1) hx hb dL_law_721 (by decide) ?_
  refine va_forget (fun q hq => hS.2.2 q hq) ?_
  refine W.widen (k := 600000) (n := 7302250) (by decide) (by decide) ?_
  exact lw_ret hx hb hr hlocks dL_law_722
set_option maxHeartbeats 4000000 in
set_option maxRecDepth 100000 in
theorem lc_rows {p : Program} {l : Launch} {e : Env} {s : State} {m : MethodId} {below : List Frame} {meth : Method} {c : Code} {ls : Array Slot} {E : cE} {H : Heap} {locs : List Loc} {b L : Nat} {xs : Nat → Int32} {xo : Nat} {ad : Nat → Nat} {gx : Nat → Int32} {gy : Nat → Int32} {gf : Nat → Int32} {v2 : Int32} {gt : Nat → Int32} {gh : Nat → Int32} {gc : Nat → Int32} {mo : Nat} {r : Nat → Nat} {g : Nat → Value} {kx : Nat → Int32} {ky : Nat → Int32} {kw : Nat → Int32} {kt : Nat → Int32} {fx : Nat → Int32} {fy : Nat → Int32} {fw : Nat → Int32} {bx : Nat → Int32} {by_ : Nat → Int32} {bw : Nat → Int32} (F : cX p s m meth c code 4 ret yL_law #[Value.ref b]) (hA : ∀ q : Nat, s.heap.size ≤ q → (fun q : Nat => s.heap.size ≤ q) q) (hS : va_S (fun q : Nat => s.heap.size ≤ q) s.heap H locs) (hP : va_P E.1 vwCl [(xo, ob 11 [.ref (ad 0), .ref (ad 7), .ref (ad 28), .ref (ad 30), .ref (ad 76), .ref (ad 46), .ref (ad 55), .ref (ad 57), .ref (ad 59), .ref (ad 61), .ref (ad 80), .int 0, .int 0, .int 0, .int (-1), .int (-1), .int (-1)]), ((ad 61), ob 9 [.ref (ad 7), .ref (ad 30), .ref (ad 46), .ref (ad 62), .ref (ad 63), .ref (ad 64), .ref (ad 65), .ref (ad 66), .ref (ad 67), .ref (ad 68), .ref (ad 69), .int 0, .int 0, .int 0, .int (-1), .ref (ad 70), .int 0, .int 0]), (mo, ob 12 (mfs g))] H) (hD : va_D (fun q : Nat => s.heap.size ≤ q) [(xo, ob 11 [.ref (ad 0), .ref (ad 7), .ref (ad 28), .ref (ad 30), .ref (ad 76), .ref (ad 46), .ref (ad 55), .ref (ad 57), .ref (ad 59), .ref (ad 61), .ref (ad 80), .int 0, .int 0, .int 0, .int (-1), .int (-1), .int (-1)]), ((ad 61), ob 9 [.ref (ad 7), .ref (ad 30), .ref (ad 46), .ref (ad 62), .ref (ad 63), .ref (ad 64), .ref (ad 65), .ref (ad 66), .ref (ad 67), .ref (ad 68), .ref (ad 69), .int 0, .int 0, .int 0, .int (-1), .ref (ad 70), .int 0, .int 0]), (mo, ob 12 (mfs g))]) (hK : va_K E.1 vwCl (cTY E.2.1) s) (hZ : cZ E.2.2 (fun q : Nat => s.heap.size ≤ q) s s.heap) (hX : va_X b L xs s s.heap) (hbl : b < s.heap.size) (hbA : ¬ (fun q : Nat => s.heap.size ≤ q) b) (hL6 : L = 6) (hw1 : flo (stC 0) (2 * 4) gx gy gf) (hw3 : ∀ d, d < 2 * 4 → gt d = 0) (hw4 : ∀ d, d < 2 * 4 → gh d = nI (stC 0 d)) (hw5 : ∀ d, d < 2 * 4 → gc d = nI (stC 0 d)) (hR : mOK r g) (hI : ∀ k, k < 116 → mRef k = false → g k = mI k) (hm1 : flo (stC 0) (2 * 4) kx ky kw) (hm2 : ∀ d, d < 2 * 4 → kt d = 0) (hm3 : ∀ d, d < 2 * 4 → fx d = kx d ∧ fy d = ky d ∧ fw d = kw d) (hm4 : ∀ d, d < 2 * 4 → bx d = kx d ∧ by_ d = ky d ∧ bw d = kw d) (hl : lv_has ls 4 [(0, .ref b), (1, .ref xo), (2, .ref mo), (3, .int (nI 0))]) : W p l e room_1 s m #[Value.ref b] below meth c H locs 146 989044 (lw_Z below #[Value.ref b] s) (F0 m 464 ls []) := by
  subst hL6
  obtain ⟨hx, hb, hr, hml, hown, hts, hlocks, hin⟩ := id F
  have hown : s.vm.findClass RL = some m.cls := hown
  refine lv_aload_n hx hb dL_law_464 rfl (lv_at hl 1 rfl) ?_
  refine cL_go (wr := [(mo, ob 12 (mfs g))]) (cM_runV (As := []) (rest := []) F (p_X11_rows l E xo ad gx gy gf v2 gt gh gc hw1 hw3 hw4 hw5) yy_X11_rows yi_X11_rows wdM_RL_74 hP hD hS hK hZ hA [0, 1] rfl rfl 0 11 rfl rfl rfl hl.1 rfl (Nat.le_of_ble_eq_true rfl) dL_law_465 ⟨by decide, by decide⟩ ⟨by decide, by decide⟩) hP hD hS hA [0, 1] [2] rfl rfl rfl (by decide) (fun r_1213 u_1212 H locs hw_1211 hP hD hS => ?_)
  try dsimp only at hw_1211
  have hP : va_P E.1 vwCl [(mo, ob 12 (mfs g))] H := hP
  have hD : va_D (fun q : Nat => s.heap.size ≤ q) [(mo, ob 12 (mfs g))] := hD
  refine lv_aload_n hx hb dL_law_468 rfl (lv_at hl 2 rfl) ?_
  refine cL_go (wr := []) (cM_runV (As := []) (rest := [.long r_1213]) F (p_X12_rows l E mo r g kx ky kw kt fx fy fw bx by_ bw hR hI hm1 hm2 hm3 hm4) yy_X12_rows yi_X12_rows wdM_RL_78 hP hD hS hK hZ hA [0] rfl rfl 0 12 rfl rfl rfl hl.1 rfl (Nat.le_of_ble_eq_true rfl) dL_law_469 ⟨by decide, by decide⟩ ⟨by decide, by decide⟩) hP hD hS hA [0] [] rfl rfl rfl (by decide) (fun r_1216 u_1215 H locs hw_1214 hP hD hS => ?_)
  try dsimp only at hw_1214
  have hP : va_P E.1 vwCl [] H := hP
  have hD : va_D (fun q : Nat => s.heap.size ≤ q) [] := hD
  refine W.lcmp hx hb dL_law_472 ?_
  refine lv_if_eq (tgt := 715) hx hb dL_law_473 (by decide) (fun c_1217 => ?_) (fun c_1217 => absurd ((lg_cmp_eq _ _).mpr (hw_1211.trans hw_1214.symm)) c_1217)
  refine lv_iinc (v := nI 6) (lv' := [(3, .int (nI 6)), (0, .ref b), (1, .ref xo), (2, .ref mo)]) hx hb dL_law_715 hl (k := 3) rfl (by decide) (by decide) rfl (fun ls hl => ?_)
  refine lv_goto (tgt := 18) hx hb dL_law_718 (by decide) ?_
  refine lv_iload_n hx hb dL_law_18 rfl (lv_at hl 0 rfl) ?_
  refine lv_aload_n hx hb dL_law_19 rfl (lv_at hl 1 rfl) ?_
  refine va_slen hx hb hX hbl hbA hS dL_law_20 ?_
  refine W.eq (g2 := F0 m 21 ls [.int (nI 6), .int (nI 6)]) rfl ?_
  refine lv_bipush (v := nI 6) hx hb dL_law_21 (by decide) ?_
  refine lv_isub hx hb dL_law_23 ?_
  rw [show ((nI 6) - (nI 6) : Int32) = nI 0 from by decide]
  refine lv_icmp_gt (tgt := 721) hx hb dL_law_24 (by decide) (fun c_1218 => ?_) (fun c_1218 => absurd (by decide) c_1218)
  refine lv_iconst (v := nI 1) hx hb dL_law_721 (by decide) ?_
  refine va_forget (fun q hq => hS.2.2 q hq) ?_
  refine W.widen (k := 600000) (n := 7302250) (by decide) (by decide) ?_
  exact lw_ret hx hb hr hlocks dL_law_722
set_option maxHeartbeats 4000000 in
set_option maxRecDepth 100000 in
theorem lc_row {p : Program} {l : Launch} {e : Env} {s : State} {m : MethodId} {below : List Frame} {meth : Method} {c : Code} {ls : Array Slot} {E : cE} {H : Heap} {locs : List Loc} {b L : Nat} {xs : Nat → Int32} {xo : Nat} {ad : Nat → Nat} {gx : Nat → Int32} {gy : Nat → Int32} {gf : Nat → Int32} {v2 : Int32} {gt : Nat → Int32} {gh : Nat → Int32} {gc : Nat → Int32} {mo : Nat} {r : Nat → Nat} {g : Nat → Value} {kx : Nat → Int32} {ky : Nat → Int32} {kw : Nat → Int32} {kt : Nat → Int32} {fx : Nat → Int32} {fy : Nat → Int32} {fw : Nat → Int32} {bx : Nat → Int32} {by_ : Nat → Int32} {bw : Nat → Int32} (F : cX p s m meth c code 4 ret yL_law #[Value.ref b]) (hA : ∀ q : Nat, s.heap.size ≤ q → (fun q : Nat => s.heap.size ≤ q) q) (hS : va_S (fun q : Nat => s.heap.size ≤ q) s.heap H locs) (hP : va_P E.1 vwCl [(xo, ob 11 [.ref (ad 0), .ref (ad 7), .ref (ad 28), .ref (ad 30), .ref (ad 76), .ref (ad 46), .ref (ad 55), .ref (ad 57), .ref (ad 59), .ref (ad 61), .ref (ad 80), .int 0, .int 0, .int 0, .int (-1), .int (-1), .int (-1)]), ((ad 61), ob 9 [.ref (ad 7), .ref (ad 30), .ref (ad 46), .ref (ad 62), .ref (ad 63), .ref (ad 64), .ref (ad 65), .ref (ad 66), .ref (ad 67), .ref (ad 68), .ref (ad 69), .int 0, .int 0, .int 0, .int (-1), .ref (ad 70), .int 0, .int 0]), (mo, ob 12 (mfs g))] H) (hD : va_D (fun q : Nat => s.heap.size ≤ q) [(xo, ob 11 [.ref (ad 0), .ref (ad 7), .ref (ad 28), .ref (ad 30), .ref (ad 76), .ref (ad 46), .ref (ad 55), .ref (ad 57), .ref (ad 59), .ref (ad 61), .ref (ad 80), .int 0, .int 0, .int 0, .int (-1), .int (-1), .int (-1)]), ((ad 61), ob 9 [.ref (ad 7), .ref (ad 30), .ref (ad 46), .ref (ad 62), .ref (ad 63), .ref (ad 64), .ref (ad 65), .ref (ad 66), .ref (ad 67), .ref (ad 68), .ref (ad 69), .int 0, .int 0, .int 0, .int (-1), .ref (ad 70), .int 0, .int 0]), (mo, ob 12 (mfs g))]) (hK : va_K E.1 vwCl (cTY E.2.1) s) (hZ : cZ E.2.2 (fun q : Nat => s.heap.size ≤ q) s s.heap) (hX : va_X b L xs s s.heap) (hbl : b < s.heap.size) (hbA : ¬ (fun q : Nat => s.heap.size ≤ q) b) (hL6 : L = 6) (hw1 : flo (stC 0) (2 * 4) gx gy gf) (hw3 : ∀ d, d < 2 * 4 → gt d = 0) (hw4 : ∀ d, d < 2 * 4 → gh d = nI (stC 0 d)) (hw5 : ∀ d, d < 2 * 4 → gc d = nI (stC 0 d)) (hR : mOK r g) (hI : ∀ k, k < 116 → mRef k = false → g k = mI k) (hm1 : flo (stC 0) (2 * 4) kx ky kw) (hm2 : ∀ d, d < 2 * 4 → kt d = 0) (hm3 : ∀ d, d < 2 * 4 → fx d = kx d ∧ fy d = ky d ∧ fw d = kw d) (hm4 : ∀ d, d < 2 * 4 → bx d = kx d ∧ by_ d = ky d ∧ bw d = kw d) (hl : lv_has ls 4 [(0, .ref b), (1, .ref xo), (2, .ref mo), (3, .int (nI 0))]) : W p l e room_1 s m #[Value.ref b] below meth c H locs 146 989044 (lw_Z below #[Value.ref b] s) (F0 m 478 ls []) := by
  subst hL6
  obtain ⟨hx, hb, hr, hml, hown, hts, hlocks, hin⟩ := id F
  have hown : s.vm.findClass RL = some m.cls := hown
  refine lv_aload_n hx hb dL_law_478 rfl (lv_at hl 1 rfl) ?_
  refine lv_aload_n hx hb dL_law_479 rfl (lv_at hl 0 rfl) ?_
  refine lv_iload_n hx hb dL_law_480 rfl (lv_at hl 3 rfl) ?_
  refine lv_iconst (v := nI 1) hx hb dL_law_481 (by decide) ?_
  refine lv_iadd hx hb dL_law_482 ?_
  rw [show ((nI 0) + (nI 1) : Int32) = nI 1 from by decide]
  refine va_sld hx hb hX hbl hbA hS (i := nI 1) (vp_in_nI (by omega) (by omega)) dL_law_483 ?_
  rw [nI_clamp (n := 1) (by decide)]
  refine cI_go (wr := [(mo, ob 12 (mfs g))]) (cM_runV (As := [.int (xs 1)]) (rest := []) F (p_X11_row l E xo ad gx gy gf v2 gt gh gc (xs 1) hw1 hw3 hw4 hw5) yy_X11_row yi_X11_row wdM_RL_79 hP hD hS hK hZ hA [0, 1] rfl rfl 0 11 rfl rfl rfl hl.1 rfl (Nat.le_of_ble_eq_true rfl) dL_law_484 ⟨by decide, by decide⟩ ⟨by decide, by decide⟩) hP hD hS hA [0, 1] [2] rfl rfl rfl (by decide) (fun r_1221 u_1220 H locs hw_1219 hP hD hS => ?_)
  try dsimp only at hw_1219
  have hP : va_P E.1 vwCl [(mo, ob 12 (mfs g))] H := hP
  have hD : va_D (fun q : Nat => s.heap.size ≤ q) [(mo, ob 12 (mfs g))] := hD
  refine lv_aload_n hx hb dL_law_487 rfl (lv_at hl 2 rfl) ?_
  refine lv_aload_n hx hb dL_law_488 rfl (lv_at hl 0 rfl) ?_
  refine lv_iload_n hx hb dL_law_489 rfl (lv_at hl 3 rfl) ?_
  refine lv_iconst (v := nI 1) hx hb dL_law_490 (by decide) ?_
  refine lv_iadd hx hb dL_law_491 ?_
  rw [show ((nI 0) + (nI 1) : Int32) = nI 1 from by decide]
  refine va_sld hx hb hX hbl hbA hS (i := nI 1) (vp_in_nI (by omega) (by omega)) dL_law_492 ?_
  rw [nI_clamp (n := 1) (by decide)]
  refine cI_go (wr := []) (cM_runV (As := [.int (xs 1)]) (rest := [.int r_1221]) F (p_X12_row l E mo r g kx ky kw kt fx fy fw bx by_ bw (xs 1) hR hI hm1 hm2 hm3 hm4) yy_X12_row yi_X12_row wdM_RL_82 hP hD hS hK hZ hA [0] rfl rfl 0 12 rfl rfl rfl hl.1 rfl (Nat.le_of_ble_eq_true rfl) dL_law_493 ⟨by decide, by decide⟩ ⟨by decide, by decide⟩) hP hD hS hA [0] [] rfl rfl rfl (by decide) (fun r_1224 u_1223 H locs hw_1222 hP hD hS => ?_)
  try dsimp only at hw_1222
  have hP : va_P E.1 vwCl [] H := hP
  have hD : va_D (fun q : Nat => s.heap.size ≤ q) [] := hD
  refine lv_icmp_eq (tgt := 715) hx hb dL_law_496 (by decide) (fun c_1225 => ?_) (fun c_1225 => absurd (hw_1219.trans hw_1222.symm) c_1225)
  refine lv_iinc (v := nI 6) (lv' := [(3, .int (nI 6)), (0, .ref b), (1, .ref xo), (2, .ref mo)]) hx hb dL_law_715 hl (k := 3) rfl (by decide) (by decide) rfl (fun ls hl => ?_)
  refine lv_goto (tgt := 18) hx hb dL_law_718 (by decide) ?_
  refine lv_iload_n hx hb dL_law_18 rfl (lv_at hl 0 rfl) ?_
  refine lv_aload_n hx hb dL_law_19 rfl (lv_at hl 1 rfl) ?_
  refine va_slen hx hb hX hbl hbA hS dL_law_20 ?_
  refine W.eq (g2 := F0 m 21 ls [.int (nI 6), .int (nI 6)]) rfl ?_
  refine lv_bipush (v := nI 6) hx hb dL_law_21 (by decide) ?_
  refine lv_isub hx hb dL_law_23 ?_
  rw [show ((nI 6) - (nI 6) : Int32) = nI 0 from by decide]
  refine lv_icmp_gt (tgt := 721) hx hb dL_law_24 (by decide) (fun c_1226 => ?_) (fun c_1226 => absurd (by decide) c_1226)
  refine lv_iconst (v := nI 1) hx hb dL_law_721 (by decide) ?_
  refine va_forget (fun q hq => hS.2.2 q hq) ?_
  refine W.widen (k := 600000) (n := 7302250) (by decide) (by decide) ?_
  exact lw_ret hx hb hr hlocks dL_law_722
set_option maxHeartbeats 4000000 in
set_option maxRecDepth 100000 in
theorem lc_draw {p : Program} {l : Launch} {e : Env} {s : State} {m : MethodId} {below : List Frame} {meth : Method} {c : Code} {ls : Array Slot} {E : cE} {H : Heap} {locs : List Loc} {b L : Nat} {xs : Nat → Int32} {xo : Nat} {ad : Nat → Nat} {gx : Nat → Int32} {gy : Nat → Int32} {gf : Nat → Int32} {v2 : Int32} {gt : Nat → Int32} {gh : Nat → Int32} {gc : Nat → Int32} {mo : Nat} {r : Nat → Nat} {g : Nat → Value} {kx : Nat → Int32} {ky : Nat → Int32} {kw : Nat → Int32} {kt : Nat → Int32} {fx : Nat → Int32} {fy : Nat → Int32} {fw : Nat → Int32} {bx : Nat → Int32} {by_ : Nat → Int32} {bw : Nat → Int32} (F : cX p s m meth c code 4 ret yL_law #[Value.ref b]) (hA : ∀ q : Nat, s.heap.size ≤ q → (fun q : Nat => s.heap.size ≤ q) q) (hS : va_S (fun q : Nat => s.heap.size ≤ q) s.heap H locs) (hP : va_P E.1 vwCl [(xo, ob 11 [.ref (ad 0), .ref (ad 7), .ref (ad 28), .ref (ad 30), .ref (ad 76), .ref (ad 46), .ref (ad 55), .ref (ad 57), .ref (ad 59), .ref (ad 61), .ref (ad 80), .int 0, .int 0, .int 0, .int (-1), .int (-1), .int (-1)]), ((ad 61), ob 9 [.ref (ad 7), .ref (ad 30), .ref (ad 46), .ref (ad 62), .ref (ad 63), .ref (ad 64), .ref (ad 65), .ref (ad 66), .ref (ad 67), .ref (ad 68), .ref (ad 69), .int 0, .int 0, .int 0, .int (-1), .ref (ad 70), .int 0, .int 0]), (mo, ob 12 (mfs g))] H) (hD : va_D (fun q : Nat => s.heap.size ≤ q) [(xo, ob 11 [.ref (ad 0), .ref (ad 7), .ref (ad 28), .ref (ad 30), .ref (ad 76), .ref (ad 46), .ref (ad 55), .ref (ad 57), .ref (ad 59), .ref (ad 61), .ref (ad 80), .int 0, .int 0, .int 0, .int (-1), .int (-1), .int (-1)]), ((ad 61), ob 9 [.ref (ad 7), .ref (ad 30), .ref (ad 46), .ref (ad 62), .ref (ad 63), .ref (ad 64), .ref (ad 65), .ref (ad 66), .ref (ad 67), .ref (ad 68), .ref (ad 69), .int 0, .int 0, .int 0, .int (-1), .ref (ad 70), .int 0, .int 0]), (mo, ob 12 (mfs g))]) (hK : va_K E.1 vwCl (cTY E.2.1) s) (hZ : cZ E.2.2 (fun q : Nat => s.heap.size ≤ q) s s.heap) (hX : va_X b L xs s s.heap) (hbl : b < s.heap.size) (hbA : ¬ (fun q : Nat => s.heap.size ≤ q) b) (hL6 : L = 6) (hw1 : flo (stC 0) (2 * 4) gx gy gf) (hw3 : ∀ d, d < 2 * 4 → gt d = 0) (hw4 : ∀ d, d < 2 * 4 → gh d = nI (stC 0 d)) (hw5 : ∀ d, d < 2 * 4 → gc d = nI (stC 0 d)) (hR : mOK r g) (hI : ∀ k, k < 116 → mRef k = false → g k = mI k) (hm1 : flo (stC 0) (2 * 4) kx ky kw) (hm2 : ∀ d, d < 2 * 4 → kt d = 0) (hm3 : ∀ d, d < 2 * 4 → fx d = kx d ∧ fy d = ky d ∧ fw d = kw d) (hm4 : ∀ d, d < 2 * 4 → bx d = kx d ∧ by_ d = ky d ∧ bw d = kw d) (hl : lv_has ls 4 [(0, .ref b), (1, .ref xo), (2, .ref mo), (3, .int (nI 0))]) : W p l e room_1 s m #[Value.ref b] below meth c H locs 146 989044 (lw_Z below #[Value.ref b] s) (F0 m 501 ls []) := by
  subst hL6
  obtain ⟨hx, hb, hr, hml, hown, hts, hlocks, hin⟩ := id F
  have hown : s.vm.findClass RL = some m.cls := hown
  refine lv_aload_n hx hb dL_law_501 rfl (lv_at hl 1 rfl) ?_
  refine lv_aload_n hx hb dL_law_502 rfl (lv_at hl 0 rfl) ?_
  refine lv_iload_n hx hb dL_law_503 rfl (lv_at hl 3 rfl) ?_
  refine lv_iconst (v := nI 1) hx hb dL_law_504 (by decide) ?_
  refine lv_iadd hx hb dL_law_505 ?_
  rw [show ((nI 0) + (nI 1) : Int32) = nI 1 from by decide]
  refine va_sld hx hb hX hbl hbA hS (i := nI 1) (vp_in_nI (by omega) (by omega)) dL_law_506 ?_
  rw [nI_clamp (n := 1) (by decide)]
  refine lv_aload_n hx hb dL_law_507 rfl (lv_at hl 0 rfl) ?_
  refine lv_iload_n hx hb dL_law_508 rfl (lv_at hl 3 rfl) ?_
  refine lv_iconst (v := nI 2) hx hb dL_law_509 (by decide) ?_
  refine lv_iadd hx hb dL_law_510 ?_
  rw [show ((nI 0) + (nI 2) : Int32) = nI 2 from by decide]
  refine va_sld hx hb hX hbl hbA hS (i := nI 2) (vp_in_nI (by omega) (by omega)) dL_law_511 ?_
  rw [nI_clamp (n := 2) (by decide)]
  refine cI_go (wr := [(mo, ob 12 (mfs g))]) (cM_runV (As := [.int (xs 1), .int (xs 2)]) (rest := []) F (p_X11_draw l E xo ad gx gy gf v2 gt gh gc (xs 1) (xs 2) hw1 hw3 hw4 hw5) yy_X11_draw yi_X11_draw wdM_RL_83 hP hD hS hK hZ hA [0, 1] rfl rfl 0 11 rfl rfl rfl hl.1 rfl (Nat.le_of_ble_eq_true rfl) dL_law_512 ⟨by decide, by decide⟩ ⟨by decide, by decide⟩) hP hD hS hA [0, 1] [2] rfl rfl rfl (by decide) (fun r_1229 u_1228 H locs hw_1227 hP hD hS => ?_)
  try dsimp only at hw_1227
  have hP : va_P E.1 vwCl [(mo, ob 12 (mfs g))] H := hP
  have hD : va_D (fun q : Nat => s.heap.size ≤ q) [(mo, ob 12 (mfs g))] := hD
  refine lv_aload_n hx hb dL_law_515 rfl (lv_at hl 2 rfl) ?_
  refine lv_aload_n hx hb dL_law_516 rfl (lv_at hl 0 rfl) ?_
  refine lv_iload_n hx hb dL_law_517 rfl (lv_at hl 3 rfl) ?_
  refine lv_iconst (v := nI 1) hx hb dL_law_518 (by decide) ?_
  refine lv_iadd hx hb dL_law_519 ?_
  rw [show ((nI 0) + (nI 1) : Int32) = nI 1 from by decide]
  refine va_sld hx hb hX hbl hbA hS (i := nI 1) (vp_in_nI (by omega) (by omega)) dL_law_520 ?_
  rw [nI_clamp (n := 1) (by decide)]
  refine lv_aload_n hx hb dL_law_521 rfl (lv_at hl 0 rfl) ?_
  refine lv_iload_n hx hb dL_law_522 rfl (lv_at hl 3 rfl) ?_
  refine lv_iconst (v := nI 2) hx hb dL_law_523 (by decide) ?_
  refine lv_iadd hx hb dL_law_524 ?_
  rw [show ((nI 0) + (nI 2) : Int32) = nI 2 from by decide]
  refine va_sld hx hb hX hbl hbA hS (i := nI 2) (vp_in_nI (by omega) (by omega)) dL_law_525 ?_
  rw [nI_clamp (n := 2) (by decide)]
  refine cI_go (wr := []) (cM_runV (As := [.int (xs 1), .int (xs 2)]) (rest := [.int r_1229]) F (p_X12_draw l E mo r g kx ky kw kt fx fy fw bx by_ bw (xs 1) (xs 2) hR hI hm1 hm2 hm3 hm4) yy_X12_draw yi_X12_draw wdM_RL_86 hP hD hS hK hZ hA [0] rfl rfl 0 12 rfl rfl rfl hl.1 rfl (Nat.le_of_ble_eq_true rfl) dL_law_526 ⟨by decide, by decide⟩ ⟨by decide, by decide⟩) hP hD hS hA [0] [] rfl rfl rfl (by decide) (fun r_1232 u_1231 H locs hw_1230 hP hD hS => ?_)
  try dsimp only at hw_1230
  have hP : va_P E.1 vwCl [] H := hP
  have hD : va_D (fun q : Nat => s.heap.size ≤ q) [] := hD
  refine lv_icmp_eq (tgt := 715) hx hb dL_law_529 (by decide) (fun c_1233 => ?_) (fun c_1233 => absurd (hw_1227.trans hw_1230.symm) c_1233)
  refine lv_iinc (v := nI 6) (lv' := [(3, .int (nI 6)), (0, .ref b), (1, .ref xo), (2, .ref mo)]) hx hb dL_law_715 hl (k := 3) rfl (by decide) (by decide) rfl (fun ls hl => ?_)
  refine lv_goto (tgt := 18) hx hb dL_law_718 (by decide) ?_
  refine lv_iload_n hx hb dL_law_18 rfl (lv_at hl 0 rfl) ?_
  refine lv_aload_n hx hb dL_law_19 rfl (lv_at hl 1 rfl) ?_
  refine va_slen hx hb hX hbl hbA hS dL_law_20 ?_
  refine W.eq (g2 := F0 m 21 ls [.int (nI 6), .int (nI 6)]) rfl ?_
  refine lv_bipush (v := nI 6) hx hb dL_law_21 (by decide) ?_
  refine lv_isub hx hb dL_law_23 ?_
  rw [show ((nI 6) - (nI 6) : Int32) = nI 0 from by decide]
  refine lv_icmp_gt (tgt := 721) hx hb dL_law_24 (by decide) (fun c_1234 => ?_) (fun c_1234 => absurd (by decide) c_1234)
  refine lv_iconst (v := nI 1) hx hb dL_law_721 (by decide) ?_
  refine va_forget (fun q hq => hS.2.2 q hq) ?_
  refine W.widen (k := 600000) (n := 7302250) (by decide) (by decide) ?_
  exact lw_ret hx hb hr hlocks dL_law_722
set_option maxHeartbeats 4000000 in
set_option maxRecDepth 100000 in
theorem lc_cheapest {p : Program} {l : Launch} {e : Env} {s : State} {m : MethodId} {below : List Frame} {meth : Method} {c : Code} {ls : Array Slot} {E : cE} {H : Heap} {locs : List Loc} {b L : Nat} {xs : Nat → Int32} {xo : Nat} {ad : Nat → Nat} {gx : Nat → Int32} {gy : Nat → Int32} {gf : Nat → Int32} {v2 : Int32} {gt : Nat → Int32} {gh : Nat → Int32} {gc : Nat → Int32} {mo : Nat} {r : Nat → Nat} {g : Nat → Value} {kx : Nat → Int32} {ky : Nat → Int32} {kw : Nat → Int32} {kt : Nat → Int32} {fx : Nat → Int32} {fy : Nat → Int32} {fw : Nat → Int32} {bx : Nat → Int32} {by_ : Nat → Int32} {bw : Nat → Int32} (F : cX p s m meth c code 4 ret yL_law #[Value.ref b]) (hA : ∀ q : Nat, s.heap.size ≤ q → (fun q : Nat => s.heap.size ≤ q) q) (hS : va_S (fun q : Nat => s.heap.size ≤ q) s.heap H locs) (hP : va_P E.1 vwCl [(xo, ob 11 [.ref (ad 0), .ref (ad 7), .ref (ad 28), .ref (ad 30), .ref (ad 76), .ref (ad 46), .ref (ad 55), .ref (ad 57), .ref (ad 59), .ref (ad 61), .ref (ad 80), .int 0, .int 0, .int 0, .int (-1), .int (-1), .int (-1)]), ((ad 61), ob 9 [.ref (ad 7), .ref (ad 30), .ref (ad 46), .ref (ad 62), .ref (ad 63), .ref (ad 64), .ref (ad 65), .ref (ad 66), .ref (ad 67), .ref (ad 68), .ref (ad 69), .int 0, .int 0, .int 0, .int (-1), .ref (ad 70), .int 0, .int 0]), (mo, ob 12 (mfs g))] H) (hD : va_D (fun q : Nat => s.heap.size ≤ q) [(xo, ob 11 [.ref (ad 0), .ref (ad 7), .ref (ad 28), .ref (ad 30), .ref (ad 76), .ref (ad 46), .ref (ad 55), .ref (ad 57), .ref (ad 59), .ref (ad 61), .ref (ad 80), .int 0, .int 0, .int 0, .int (-1), .int (-1), .int (-1)]), ((ad 61), ob 9 [.ref (ad 7), .ref (ad 30), .ref (ad 46), .ref (ad 62), .ref (ad 63), .ref (ad 64), .ref (ad 65), .ref (ad 66), .ref (ad 67), .ref (ad 68), .ref (ad 69), .int 0, .int 0, .int 0, .int (-1), .ref (ad 70), .int 0, .int 0]), (mo, ob 12 (mfs g))]) (hK : va_K E.1 vwCl (cTY E.2.1) s) (hZ : cZ E.2.2 (fun q : Nat => s.heap.size ≤ q) s s.heap) (hX : va_X b L xs s s.heap) (hbl : b < s.heap.size) (hbA : ¬ (fun q : Nat => s.heap.size ≤ q) b) (hL6 : L = 6) (hw1 : flo (stC 0) (2 * 4) gx gy gf) (hw3 : ∀ d, d < 2 * 4 → gt d = 0) (hw4 : ∀ d, d < 2 * 4 → gh d = nI (stC 0 d)) (hw5 : ∀ d, d < 2 * 4 → gc d = nI (stC 0 d)) (hR : mOK r g) (hI : ∀ k, k < 116 → mRef k = false → g k = mI k) (hm1 : flo (stC 0) (2 * 4) kx ky kw) (hm2 : ∀ d, d < 2 * 4 → kt d = 0) (hm3 : ∀ d, d < 2 * 4 → fx d = kx d ∧ fy d = ky d ∧ fw d = kw d) (hm4 : ∀ d, d < 2 * 4 → bx d = kx d ∧ by_ d = ky d ∧ bw d = kw d) (hl : lv_has ls 4 [(0, .ref b), (1, .ref xo), (2, .ref mo), (3, .int (nI 0))]) : W p l e room_1 s m #[Value.ref b] below meth c H locs 146 989044 (lw_Z below #[Value.ref b] s) (F0 m 534 ls []) := by
  subst hL6
  obtain ⟨hx, hb, hr, hml, hown, hts, hlocks, hin⟩ := id F
  have hown : s.vm.findClass RL = some m.cls := hown
  refine lv_aload_n hx hb dL_law_534 rfl (lv_at hl 1 rfl) ?_
  refine cI_go (wr := [(mo, ob 12 (mfs g))]) (cM_runV (As := []) (rest := []) F (p_X11_cheapest l E xo ad gx gy gf v2 gt gh gc hw1 hw3 hw4 hw5) yy_X11_cheapest yi_X11_cheapest wdM_RL_87 hP hD hS hK hZ hA [0, 1] rfl rfl 0 11 rfl rfl rfl hl.1 rfl (Nat.le_of_ble_eq_true rfl) dL_law_535 ⟨by decide, by decide⟩ ⟨by decide, by decide⟩) hP hD hS hA [0, 1] [2] rfl rfl rfl (by decide) (fun r_1237 u_1236 H locs hw_1235 hP hD hS => ?_)
  try dsimp only at hw_1235
  have hP : va_P E.1 vwCl [(mo, ob 12 (mfs g))] H := hP
  have hD : va_D (fun q : Nat => s.heap.size ≤ q) [(mo, ob 12 (mfs g))] := hD
  refine lv_aload_n hx hb dL_law_538 rfl (lv_at hl 2 rfl) ?_
  refine cI_go (wr := []) (cM_runV (As := []) (rest := [.int r_1237]) F (p_X12_cheapest l E mo r g kx ky kw kt fx fy fw bx by_ bw hR hI hm1 hm2 hm3 hm4) yy_X12_cheapest yi_X12_cheapest wdM_RL_90 hP hD hS hK hZ hA [0] rfl rfl 0 12 rfl rfl rfl hl.1 rfl (Nat.le_of_ble_eq_true rfl) dL_law_539 ⟨by decide, by decide⟩ ⟨by decide, by decide⟩) hP hD hS hA [0] [] rfl rfl rfl (by decide) (fun r_1240 u_1239 H locs hw_1238 hP hD hS => ?_)
  try dsimp only at hw_1238
  have hP : va_P E.1 vwCl [] H := hP
  have hD : va_D (fun q : Nat => s.heap.size ≤ q) [] := hD
  refine lv_icmp_eq (tgt := 715) hx hb dL_law_542 (by decide) (fun c_1241 => ?_) (fun c_1241 => absurd (hw_1235.trans hw_1238.symm) c_1241)
  refine lv_iinc (v := nI 6) (lv' := [(3, .int (nI 6)), (0, .ref b), (1, .ref xo), (2, .ref mo)]) hx hb dL_law_715 hl (k := 3) rfl (by decide) (by decide) rfl (fun ls hl => ?_)
  refine lv_goto (tgt := 18) hx hb dL_law_718 (by decide) ?_
  refine lv_iload_n hx hb dL_law_18 rfl (lv_at hl 0 rfl) ?_
  refine lv_aload_n hx hb dL_law_19 rfl (lv_at hl 1 rfl) ?_
  refine va_slen hx hb hX hbl hbA hS dL_law_20 ?_
  refine W.eq (g2 := F0 m 21 ls [.int (nI 6), .int (nI 6)]) rfl ?_
  refine lv_bipush (v := nI 6) hx hb dL_law_21 (by decide) ?_
  refine lv_isub hx hb dL_law_23 ?_
  rw [show ((nI 6) - (nI 6) : Int32) = nI 0 from by decide]
  refine lv_icmp_gt (tgt := 721) hx hb dL_law_24 (by decide) (fun c_1242 => ?_) (fun c_1242 => absurd (by decide) c_1242)
  refine lv_iconst (v := nI 1) hx hb dL_law_721 (by decide) ?_
  refine va_forget (fun q hq => hS.2.2 q hq) ?_
  refine W.widen (k := 600000) (n := 7302250) (by decide) (by decide) ?_
  exact lw_ret hx hb hr hlocks dL_law_722
set_option maxHeartbeats 4000000 in
set_option maxRecDepth 100000 in
theorem lc_found {p : Program} {l : Launch} {e : Env} {s : State} {m : MethodId} {below : List Frame} {meth : Method} {c : Code} {ls : Array Slot} {E : cE} {H : Heap} {locs : List Loc} {b L : Nat} {xs : Nat → Int32} {xo : Nat} {ad : Nat → Nat} {gx : Nat → Int32} {gy : Nat → Int32} {gf : Nat → Int32} {v2 : Int32} {gt : Nat → Int32} {gh : Nat → Int32} {gc : Nat → Int32} {mo : Nat} {r : Nat → Nat} {g : Nat → Value} {kx : Nat → Int32} {ky : Nat → Int32} {kw : Nat → Int32} {kt : Nat → Int32} {fx : Nat → Int32} {fy : Nat → Int32} {fw : Nat → Int32} {bx : Nat → Int32} {by_ : Nat → Int32} {bw : Nat → Int32} (F : cX p s m meth c code 4 ret yL_law #[Value.ref b]) (hA : ∀ q : Nat, s.heap.size ≤ q → (fun q : Nat => s.heap.size ≤ q) q) (hS : va_S (fun q : Nat => s.heap.size ≤ q) s.heap H locs) (hP : va_P E.1 vwCl [(xo, ob 11 [.ref (ad 0), .ref (ad 7), .ref (ad 28), .ref (ad 30), .ref (ad 76), .ref (ad 46), .ref (ad 55), .ref (ad 57), .ref (ad 59), .ref (ad 61), .ref (ad 80), .int 0, .int 0, .int 0, .int (-1), .int (-1), .int (-1)]), ((ad 61), ob 9 [.ref (ad 7), .ref (ad 30), .ref (ad 46), .ref (ad 62), .ref (ad 63), .ref (ad 64), .ref (ad 65), .ref (ad 66), .ref (ad 67), .ref (ad 68), .ref (ad 69), .int 0, .int 0, .int 0, .int (-1), .ref (ad 70), .int 0, .int 0]), (mo, ob 12 (mfs g))] H) (hD : va_D (fun q : Nat => s.heap.size ≤ q) [(xo, ob 11 [.ref (ad 0), .ref (ad 7), .ref (ad 28), .ref (ad 30), .ref (ad 76), .ref (ad 46), .ref (ad 55), .ref (ad 57), .ref (ad 59), .ref (ad 61), .ref (ad 80), .int 0, .int 0, .int 0, .int (-1), .int (-1), .int (-1)]), ((ad 61), ob 9 [.ref (ad 7), .ref (ad 30), .ref (ad 46), .ref (ad 62), .ref (ad 63), .ref (ad 64), .ref (ad 65), .ref (ad 66), .ref (ad 67), .ref (ad 68), .ref (ad 69), .int 0, .int 0, .int 0, .int (-1), .ref (ad 70), .int 0, .int 0]), (mo, ob 12 (mfs g))]) (hK : va_K E.1 vwCl (cTY E.2.1) s) (hZ : cZ E.2.2 (fun q : Nat => s.heap.size ≤ q) s s.heap) (hX : va_X b L xs s s.heap) (hbl : b < s.heap.size) (hbA : ¬ (fun q : Nat => s.heap.size ≤ q) b) (hL6 : L = 6) (hw1 : flo (stC 0) (2 * 4) gx gy gf) (hw3 : ∀ d, d < 2 * 4 → gt d = 0) (hw4 : ∀ d, d < 2 * 4 → gh d = nI (stC 0 d)) (hw5 : ∀ d, d < 2 * 4 → gc d = nI (stC 0 d)) (hR : mOK r g) (hI : ∀ k, k < 116 → mRef k = false → g k = mI k) (hm1 : flo (stC 0) (2 * 4) kx ky kw) (hm2 : ∀ d, d < 2 * 4 → kt d = 0) (hm3 : ∀ d, d < 2 * 4 → fx d = kx d ∧ fy d = ky d ∧ fw d = kw d) (hm4 : ∀ d, d < 2 * 4 → bx d = kx d ∧ by_ d = ky d ∧ bw d = kw d) (hl : lv_has ls 4 [(0, .ref b), (1, .ref xo), (2, .ref mo), (3, .int (nI 0))]) : W p l e room_1 s m #[Value.ref b] below meth c H locs 146 989044 (lw_Z below #[Value.ref b] s) (F0 m 547 ls []) := by
  subst hL6
  obtain ⟨hx, hb, hr, hml, hown, hts, hlocks, hin⟩ := id F
  have hown : s.vm.findClass RL = some m.cls := hown
  refine lv_aload_n hx hb dL_law_547 rfl (lv_at hl 1 rfl) ?_
  refine lv_aload_n hx hb dL_law_548 rfl (lv_at hl 0 rfl) ?_
  refine lv_iload_n hx hb dL_law_549 rfl (lv_at hl 3 rfl) ?_
  refine lv_iconst (v := nI 1) hx hb dL_law_550 (by decide) ?_
  refine lv_iadd hx hb dL_law_551 ?_
  rw [show ((nI 0) + (nI 1) : Int32) = nI 1 from by decide]
  refine va_sld hx hb hX hbl hbA hS (i := nI 1) (vp_in_nI (by omega) (by omega)) dL_law_552 ?_
  rw [nI_clamp (n := 1) (by decide)]
  refine cI_go (wr := [(mo, ob 12 (mfs g))]) (cM_runV (As := [.int (xs 1)]) (rest := []) F (p_X11_found l E xo ad gx gy gf v2 gt gh gc (xs 1) hw1 hw3 hw4 hw5) yy_X11_found yi_X11_found wdM_RL_91 hP hD hS hK hZ hA [0, 1] rfl rfl 0 11 rfl rfl rfl hl.1 rfl (Nat.le_of_ble_eq_true rfl) dL_law_553 ⟨by decide, by decide⟩ ⟨by decide, by decide⟩) hP hD hS hA [0, 1] [2] rfl rfl rfl (by decide) (fun r_1245 u_1244 H locs hw_1243 hP hD hS => ?_)
  try dsimp only at hw_1243
  have hP : va_P E.1 vwCl [(mo, ob 12 (mfs g))] H := hP
  have hD : va_D (fun q : Nat => s.heap.size ≤ q) [(mo, ob 12 (mfs g))] := hD
  refine lv_aload_n hx hb dL_law_556 rfl (lv_at hl 2 rfl) ?_
  refine lv_aload_n hx hb dL_law_557 rfl (lv_at hl 0 rfl) ?_
  refine lv_iload_n hx hb dL_law_558 rfl (lv_at hl 3 rfl) ?_
  refine lv_iconst (v := nI 1) hx hb dL_law_559 (by decide) ?_
  refine lv_iadd hx hb dL_law_560 ?_
  rw [show ((nI 0) + (nI 1) : Int32) = nI 1 from by decide]
  refine va_sld hx hb hX hbl hbA hS (i := nI 1) (vp_in_nI (by omega) (by omega)) dL_law_561 ?_
  rw [nI_clamp (n := 1) (by decide)]
  refine cI_go (wr := []) (cM_runV (As := [.int (xs 1)]) (rest := [.int r_1245]) F (p_X12_found l E mo r g kx ky kw kt fx fy fw bx by_ bw (xs 1) hR hI hm1 hm2 hm3 hm4) yy_X12_found yi_X12_found wdM_RL_94 hP hD hS hK hZ hA [0] rfl rfl 0 12 rfl rfl rfl hl.1 rfl (Nat.le_of_ble_eq_true rfl) dL_law_562 ⟨by decide, by decide⟩ ⟨by decide, by decide⟩) hP hD hS hA [0] [] rfl rfl rfl (by decide) (fun r_1248 u_1247 H locs hw_1246 hP hD hS => ?_)
  try dsimp only at hw_1246
  have hP : va_P E.1 vwCl [] H := hP
  have hD : va_D (fun q : Nat => s.heap.size ≤ q) [] := hD
  refine lv_icmp_eq (tgt := 715) hx hb dL_law_565 (by decide) (fun c_1249 => ?_) (fun c_1249 => absurd (hw_1243.trans hw_1246.symm) c_1249)
  refine lv_iinc (v := nI 6) (lv' := [(3, .int (nI 6)), (0, .ref b), (1, .ref xo), (2, .ref mo)]) hx hb dL_law_715 hl (k := 3) rfl (by decide) (by decide) rfl (fun ls hl => ?_)
  refine lv_goto (tgt := 18) hx hb dL_law_718 (by decide) ?_
  refine lv_iload_n hx hb dL_law_18 rfl (lv_at hl 0 rfl) ?_
  refine lv_aload_n hx hb dL_law_19 rfl (lv_at hl 1 rfl) ?_
  refine va_slen hx hb hX hbl hbA hS dL_law_20 ?_
  refine W.eq (g2 := F0 m 21 ls [.int (nI 6), .int (nI 6)]) rfl ?_
  refine lv_bipush (v := nI 6) hx hb dL_law_21 (by decide) ?_
  refine lv_isub hx hb dL_law_23 ?_
  rw [show ((nI 6) - (nI 6) : Int32) = nI 0 from by decide]
  refine lv_icmp_gt (tgt := 721) hx hb dL_law_24 (by decide) (fun c_1250 => ?_) (fun c_1250 => absurd (by decide) c_1250)
  refine lv_iconst (v := nI 1) hx hb dL_law_721 (by decide) ?_
  refine va_forget (fun q hq => hS.2.2 q hq) ?_
  refine W.widen (k := 600000) (n := 7302250) (by decide) (by decide) ?_
  exact lw_ret hx hb hr hlocks dL_law_722
set_option maxHeartbeats 4000000 in
set_option maxRecDepth 100000 in
theorem lc_follow {p : Program} {l : Launch} {e : Env} {s : State} {m : MethodId} {below : List Frame} {meth : Method} {c : Code} {ls : Array Slot} {E : cE} {H : Heap} {locs : List Loc} {b L : Nat} {xs : Nat → Int32} {xo : Nat} {ad : Nat → Nat} {gx : Nat → Int32} {gy : Nat → Int32} {gf : Nat → Int32} {v2 : Int32} {gt : Nat → Int32} {gh : Nat → Int32} {gc : Nat → Int32} {mo : Nat} {r : Nat → Nat} {g : Nat → Value} {kx : Nat → Int32} {ky : Nat → Int32} {kw : Nat → Int32} {kt : Nat → Int32} {fx : Nat → Int32} {fy : Nat → Int32} {fw : Nat → Int32} {bx : Nat → Int32} {by_ : Nat → Int32} {bw : Nat → Int32} (F : cX p s m meth c code 4 ret yL_law #[Value.ref b]) (hA : ∀ q : Nat, s.heap.size ≤ q → (fun q : Nat => s.heap.size ≤ q) q) (hS : va_S (fun q : Nat => s.heap.size ≤ q) s.heap H locs) (hP : va_P E.1 vwCl [(xo, ob 11 [.ref (ad 0), .ref (ad 7), .ref (ad 28), .ref (ad 30), .ref (ad 76), .ref (ad 46), .ref (ad 55), .ref (ad 57), .ref (ad 59), .ref (ad 61), .ref (ad 80), .int 0, .int 0, .int 0, .int (-1), .int (-1), .int (-1)]), ((ad 61), ob 9 [.ref (ad 7), .ref (ad 30), .ref (ad 46), .ref (ad 62), .ref (ad 63), .ref (ad 64), .ref (ad 65), .ref (ad 66), .ref (ad 67), .ref (ad 68), .ref (ad 69), .int 0, .int 0, .int 0, .int (-1), .ref (ad 70), .int 0, .int 0]), (mo, ob 12 (mfs g))] H) (hD : va_D (fun q : Nat => s.heap.size ≤ q) [(xo, ob 11 [.ref (ad 0), .ref (ad 7), .ref (ad 28), .ref (ad 30), .ref (ad 76), .ref (ad 46), .ref (ad 55), .ref (ad 57), .ref (ad 59), .ref (ad 61), .ref (ad 80), .int 0, .int 0, .int 0, .int (-1), .int (-1), .int (-1)]), ((ad 61), ob 9 [.ref (ad 7), .ref (ad 30), .ref (ad 46), .ref (ad 62), .ref (ad 63), .ref (ad 64), .ref (ad 65), .ref (ad 66), .ref (ad 67), .ref (ad 68), .ref (ad 69), .int 0, .int 0, .int 0, .int (-1), .ref (ad 70), .int 0, .int 0]), (mo, ob 12 (mfs g))]) (hK : va_K E.1 vwCl (cTY E.2.1) s) (hZ : cZ E.2.2 (fun q : Nat => s.heap.size ≤ q) s s.heap) (hX : va_X b L xs s s.heap) (hbl : b < s.heap.size) (hbA : ¬ (fun q : Nat => s.heap.size ≤ q) b) (hL6 : L = 6) (hw1 : flo (stC 0) (2 * 4) gx gy gf) (hw3 : ∀ d, d < 2 * 4 → gt d = 0) (hw4 : ∀ d, d < 2 * 4 → gh d = nI (stC 0 d)) (hw5 : ∀ d, d < 2 * 4 → gc d = nI (stC 0 d)) (hR : mOK r g) (hI : ∀ k, k < 116 → mRef k = false → g k = mI k) (hm1 : flo (stC 0) (2 * 4) kx ky kw) (hm2 : ∀ d, d < 2 * 4 → kt d = 0) (hm3 : ∀ d, d < 2 * 4 → fx d = kx d ∧ fy d = ky d ∧ fw d = kw d) (hm4 : ∀ d, d < 2 * 4 → bx d = kx d ∧ by_ d = ky d ∧ bw d = kw d) (hl : lv_has ls 4 [(0, .ref b), (1, .ref xo), (2, .ref mo), (3, .int (nI 0))]) : W p l e room_1 s m #[Value.ref b] below meth c H locs 146 989044 (lw_Z below #[Value.ref b] s) (F0 m 570 ls []) := by
  subst hL6
  obtain ⟨hx, hb, hr, hml, hown, hts, hlocks, hin⟩ := id F
  have hown : s.vm.findClass RL = some m.cls := hown
  refine lv_aload_n hx hb dL_law_570 rfl (lv_at hl 1 rfl) ?_
  refine cI_go (wr := [(mo, ob 12 (mfs g))]) (cM_runV (As := []) (rest := []) F (p_X11_follow l E xo ad gx gy gf v2 gt gh gc hw1 hw3 hw4 hw5) yy_X11_follow yi_X11_follow wdM_RL_95 hP hD hS hK hZ hA [0, 1] rfl rfl 0 11 rfl rfl rfl hl.1 rfl (Nat.le_of_ble_eq_true rfl) dL_law_571 ⟨by decide, by decide⟩ ⟨by decide, by decide⟩) hP hD hS hA [0, 1] [2] rfl rfl rfl (by decide) (fun r_1253 u_1252 H locs hw_1251 hP hD hS => ?_)
  try dsimp only at hw_1251
  have hP : va_P E.1 vwCl [(mo, ob 12 (mfs g))] H := hP
  have hD : va_D (fun q : Nat => s.heap.size ≤ q) [(mo, ob 12 (mfs g))] := hD
  refine lv_aload_n hx hb dL_law_574 rfl (lv_at hl 2 rfl) ?_
  refine cI_go (wr := []) (cM_runV (As := []) (rest := [.int r_1253]) F (p_X12_follow l E mo r g kx ky kw kt fx fy fw bx by_ bw hR hI hm1 hm2 hm3 hm4) yy_X12_follow yi_X12_follow wdM_RL_98 hP hD hS hK hZ hA [0] rfl rfl 0 12 rfl rfl rfl hl.1 rfl (Nat.le_of_ble_eq_true rfl) dL_law_575 ⟨by decide, by decide⟩ ⟨by decide, by decide⟩) hP hD hS hA [0] [] rfl rfl rfl (by decide) (fun r_1256 u_1255 H locs hw_1254 hP hD hS => ?_)
  try dsimp only at hw_1254
  have hP : va_P E.1 vwCl [] H := hP
  have hD : va_D (fun q : Nat => s.heap.size ≤ q) [] := hD
  refine lv_icmp_eq (tgt := 715) hx hb dL_law_578 (by decide) (fun c_1257 => ?_) (fun c_1257 => absurd (hw_1251.trans hw_1254.symm) c_1257)
  refine lv_iinc (v := nI 6) (lv' := [(3, .int (nI 6)), (0, .ref b), (1, .ref xo), (2, .ref mo)]) hx hb dL_law_715 hl (k := 3) rfl (by decide) (by decide) rfl (fun ls hl => ?_)
  refine lv_goto (tgt := 18) hx hb dL_law_718 (by decide) ?_
  refine lv_iload_n hx hb dL_law_18 rfl (lv_at hl 0 rfl) ?_
  refine lv_aload_n hx hb dL_law_19 rfl (lv_at hl 1 rfl) ?_
  refine va_slen hx hb hX hbl hbA hS dL_law_20 ?_
  refine W.eq (g2 := F0 m 21 ls [.int (nI 6), .int (nI 6)]) rfl ?_
  refine lv_bipush (v := nI 6) hx hb dL_law_21 (by decide) ?_
  refine lv_isub hx hb dL_law_23 ?_
  rw [show ((nI 6) - (nI 6) : Int32) = nI 0 from by decide]
  refine lv_icmp_gt (tgt := 721) hx hb dL_law_24 (by decide) (fun c_1258 => ?_) (fun c_1258 => absurd (by decide) c_1258)
  refine lv_iconst (v := nI 1) hx hb dL_law_721 (by decide) ?_
  refine va_forget (fun q hq => hS.2.2 q hq) ?_
  refine W.widen (k := 600000) (n := 7302250) (by decide) (by decide) ?_
  exact lw_ret hx hb hr hlocks dL_law_722
set_option maxHeartbeats 4000000 in
set_option maxRecDepth 100000 in
theorem lc_times {p : Program} {l : Launch} {e : Env} {s : State} {m : MethodId} {below : List Frame} {meth : Method} {c : Code} {ls : Array Slot} {E : cE} {H : Heap} {locs : List Loc} {b L : Nat} {xs : Nat → Int32} {xo : Nat} {ad : Nat → Nat} {gx : Nat → Int32} {gy : Nat → Int32} {gf : Nat → Int32} {v2 : Int32} {gt : Nat → Int32} {gh : Nat → Int32} {gc : Nat → Int32} {mo : Nat} {r : Nat → Nat} {g : Nat → Value} {kx : Nat → Int32} {ky : Nat → Int32} {kw : Nat → Int32} {kt : Nat → Int32} {fx : Nat → Int32} {fy : Nat → Int32} {fw : Nat → Int32} {bx : Nat → Int32} {by_ : Nat → Int32} {bw : Nat → Int32} (F : cX p s m meth c code 4 ret yL_law #[Value.ref b]) (hA : ∀ q : Nat, s.heap.size ≤ q → (fun q : Nat => s.heap.size ≤ q) q) (hS : va_S (fun q : Nat => s.heap.size ≤ q) s.heap H locs) (hP : va_P E.1 vwCl [(xo, ob 11 [.ref (ad 0), .ref (ad 7), .ref (ad 28), .ref (ad 30), .ref (ad 76), .ref (ad 46), .ref (ad 55), .ref (ad 57), .ref (ad 59), .ref (ad 61), .ref (ad 80), .int 0, .int 0, .int 0, .int (-1), .int (-1), .int (-1)]), ((ad 7), ob 0 [.ref (ad 8), .ref (ad 10), .ref (ad 12), .ref (ad 14), .ref (ad 15), .ref (ad 16), .ref (ad 17), .ref (ad 18), .ref (ad 19), .ref (ad 20), .ref (ad 21), .ref (ad 22), .ref (ad 23), .ref (ad 24), .ref (ad 25), .ref (ad 26), .int 0, .ref (ad 27), .int 0, .int 0]), ((ad 12), ob 6 [.ref (ad 13), .int (nI 60), .int 0]), (mo, ob 12 (mfs g))] H) (hD : va_D (fun q : Nat => s.heap.size ≤ q) [(xo, ob 11 [.ref (ad 0), .ref (ad 7), .ref (ad 28), .ref (ad 30), .ref (ad 76), .ref (ad 46), .ref (ad 55), .ref (ad 57), .ref (ad 59), .ref (ad 61), .ref (ad 80), .int 0, .int 0, .int 0, .int (-1), .int (-1), .int (-1)]), ((ad 7), ob 0 [.ref (ad 8), .ref (ad 10), .ref (ad 12), .ref (ad 14), .ref (ad 15), .ref (ad 16), .ref (ad 17), .ref (ad 18), .ref (ad 19), .ref (ad 20), .ref (ad 21), .ref (ad 22), .ref (ad 23), .ref (ad 24), .ref (ad 25), .ref (ad 26), .int 0, .ref (ad 27), .int 0, .int 0]), ((ad 12), ob 6 [.ref (ad 13), .int (nI 60), .int 0]), (mo, ob 12 (mfs g))]) (hK : va_K E.1 vwCl (cTY E.2.1) s) (hZ : cZ E.2.2 (fun q : Nat => s.heap.size ≤ q) s s.heap) (hX : va_X b L xs s s.heap) (hbl : b < s.heap.size) (hbA : ¬ (fun q : Nat => s.heap.size ≤ q) b) (hL6 : L = 6) (hw1 : flo (stC 0) (2 * 4) gx gy gf) (hw3 : ∀ d, d < 2 * 4 → gt d = 0) (hw4 : ∀ d, d < 2 * 4 → gh d = nI (stC 0 d)) (hw5 : ∀ d, d < 2 * 4 → gc d = nI (stC 0 d)) (hR : mOK r g) (hI : ∀ k, k < 116 → mRef k = false → g k = mI k) (hm1 : flo (stC 0) (2 * 4) kx ky kw) (hm2 : ∀ d, d < 2 * 4 → kt d = 0) (hm3 : ∀ d, d < 2 * 4 → fx d = kx d ∧ fy d = ky d ∧ fw d = kw d) (hm4 : ∀ d, d < 2 * 4 → bx d = kx d ∧ by_ d = ky d ∧ bw d = kw d) (hl : lv_has ls 4 [(0, .ref b), (1, .ref xo), (2, .ref mo), (3, .int (nI 0))]) : W p l e room_1 s m #[Value.ref b] below meth c H locs 146 989044 (lw_Z below #[Value.ref b] s) (F0 m 583 ls []) := by
  subst hL6
  obtain ⟨hx, hb, hr, hml, hown, hts, hlocks, hin⟩ := id F
  have hown : s.vm.findClass RL = some m.cls := hown
  refine lv_aload_n hx hb dL_law_583 rfl (lv_at hl 1 rfl) ?_
  refine lv_aload_n hx hb dL_law_584 rfl (lv_at hl 0 rfl) ?_
  refine lv_iload_n hx hb dL_law_585 rfl (lv_at hl 3 rfl) ?_
  refine lv_iconst (v := nI 1) hx hb dL_law_586 (by decide) ?_
  refine lv_iadd hx hb dL_law_587 ?_
  rw [show ((nI 0) + (nI 1) : Int32) = nI 1 from by decide]
  refine va_sld hx hb hX hbl hbA hS (i := nI 1) (vp_in_nI (by omega) (by omega)) dL_law_588 ?_
  rw [nI_clamp (n := 1) (by decide)]
  refine lv_aload_n hx hb dL_law_589 rfl (lv_at hl 0 rfl) ?_
  refine lv_iload_n hx hb dL_law_590 rfl (lv_at hl 3 rfl) ?_
  refine lv_iconst (v := nI 2) hx hb dL_law_591 (by decide) ?_
  refine lv_iadd hx hb dL_law_592 ?_
  rw [show ((nI 0) + (nI 2) : Int32) = nI 2 from by decide]
  refine va_sld hx hb hX hbl hbA hS (i := nI 2) (vp_in_nI (by omega) (by omega)) dL_law_593 ?_
  rw [nI_clamp (n := 2) (by decide)]
  refine lv_aload_n hx hb dL_law_594 rfl (lv_at hl 0 rfl) ?_
  refine lv_iload_n hx hb dL_law_595 rfl (lv_at hl 3 rfl) ?_
  refine lv_iconst (v := nI 3) hx hb dL_law_596 (by decide) ?_
  refine lv_iadd hx hb dL_law_597 ?_
  rw [show ((nI 0) + (nI 3) : Int32) = nI 3 from by decide]
  refine va_sld hx hb hX hbl hbA hS (i := nI 3) (vp_in_nI (by omega) (by omega)) dL_law_598 ?_
  rw [nI_clamp (n := 3) (by decide)]
  refine cI_go (wr := [(mo, ob 12 (mfs g))]) (cM_runV (As := [.int (xs 1), .int (xs 2), .int (xs 3)]) (rest := []) F (p_X11_times l E xo ad gx gy gf v2 gt gh gc (xs 1) (xs 2) (xs 3) hw1 hw3 hw4 hw5) yy_X11_times yi_X11_times wdM_RL_99 hP hD hS hK hZ hA [0, 1, 2] rfl rfl 0 11 rfl rfl rfl hl.1 rfl (Nat.le_of_ble_eq_true rfl) dL_law_599 ⟨by decide, by decide⟩ ⟨by decide, by decide⟩) hP hD hS hA [0, 1, 2] [3] rfl rfl rfl (by decide) (fun r_1261 u_1260 H locs hw_1259 hP hD hS => ?_)
  try dsimp only at hw_1259
  have hP : va_P E.1 vwCl [(mo, ob 12 (mfs g))] H := hP
  have hD : va_D (fun q : Nat => s.heap.size ≤ q) [(mo, ob 12 (mfs g))] := hD
  refine lv_aload_n hx hb dL_law_602 rfl (lv_at hl 2 rfl) ?_
  refine lv_aload_n hx hb dL_law_603 rfl (lv_at hl 0 rfl) ?_
  refine lv_iload_n hx hb dL_law_604 rfl (lv_at hl 3 rfl) ?_
  refine lv_iconst (v := nI 1) hx hb dL_law_605 (by decide) ?_
  refine lv_iadd hx hb dL_law_606 ?_
  rw [show ((nI 0) + (nI 1) : Int32) = nI 1 from by decide]
  refine va_sld hx hb hX hbl hbA hS (i := nI 1) (vp_in_nI (by omega) (by omega)) dL_law_607 ?_
  rw [nI_clamp (n := 1) (by decide)]
  refine lv_aload_n hx hb dL_law_608 rfl (lv_at hl 0 rfl) ?_
  refine lv_iload_n hx hb dL_law_609 rfl (lv_at hl 3 rfl) ?_
  refine lv_iconst (v := nI 2) hx hb dL_law_610 (by decide) ?_
  refine lv_iadd hx hb dL_law_611 ?_
  rw [show ((nI 0) + (nI 2) : Int32) = nI 2 from by decide]
  refine va_sld hx hb hX hbl hbA hS (i := nI 2) (vp_in_nI (by omega) (by omega)) dL_law_612 ?_
  rw [nI_clamp (n := 2) (by decide)]
  refine lv_aload_n hx hb dL_law_613 rfl (lv_at hl 0 rfl) ?_
  refine lv_iload_n hx hb dL_law_614 rfl (lv_at hl 3 rfl) ?_
  refine lv_iconst (v := nI 3) hx hb dL_law_615 (by decide) ?_
  refine lv_iadd hx hb dL_law_616 ?_
  rw [show ((nI 0) + (nI 3) : Int32) = nI 3 from by decide]
  refine va_sld hx hb hX hbl hbA hS (i := nI 3) (vp_in_nI (by omega) (by omega)) dL_law_617 ?_
  rw [nI_clamp (n := 3) (by decide)]
  refine cI_go (wr := []) (cM_runV (As := [.int (xs 1), .int (xs 2), .int (xs 3)]) (rest := [.int r_1261]) F (p_X12_times l E mo r g kx ky kw kt fx fy fw bx by_ bw (xs 1) (xs 2) (xs 3) hR hI hm1 hm2 hm3 hm4) yy_X12_times yi_X12_times wdM_RL_103 hP hD hS hK hZ hA [0] rfl rfl 0 12 rfl rfl rfl hl.1 rfl (Nat.le_of_ble_eq_true rfl) dL_law_618 ⟨by decide, by decide⟩ ⟨by decide, by decide⟩) hP hD hS hA [0] [] rfl rfl rfl (by decide) (fun r_1264 u_1263 H locs hw_1262 hP hD hS => ?_)
  try dsimp only at hw_1262
  have hP : va_P E.1 vwCl [] H := hP
  have hD : va_D (fun q : Nat => s.heap.size ≤ q) [] := hD
  refine lv_icmp_eq (tgt := 715) hx hb dL_law_621 (by decide) (fun c_1265 => ?_) (fun c_1265 => absurd (hw_1259.trans hw_1262.symm) c_1265)
  refine lv_iinc (v := nI 6) (lv' := [(3, .int (nI 6)), (0, .ref b), (1, .ref xo), (2, .ref mo)]) hx hb dL_law_715 hl (k := 3) rfl (by decide) (by decide) rfl (fun ls hl => ?_)
  refine lv_goto (tgt := 18) hx hb dL_law_718 (by decide) ?_
  refine lv_iload_n hx hb dL_law_18 rfl (lv_at hl 0 rfl) ?_
  refine lv_aload_n hx hb dL_law_19 rfl (lv_at hl 1 rfl) ?_
  refine va_slen hx hb hX hbl hbA hS dL_law_20 ?_
  refine W.eq (g2 := F0 m 21 ls [.int (nI 6), .int (nI 6)]) rfl ?_
  refine lv_bipush (v := nI 6) hx hb dL_law_21 (by decide) ?_
  refine lv_isub hx hb dL_law_23 ?_
  rw [show ((nI 6) - (nI 6) : Int32) = nI 0 from by decide]
  refine lv_icmp_gt (tgt := 721) hx hb dL_law_24 (by decide) (fun c_1266 => ?_) (fun c_1266 => absurd (by decide) c_1266)
  refine lv_iconst (v := nI 1) hx hb dL_law_721 (by decide) ?_
  refine va_forget (fun q hq => hS.2.2 q hq) ?_
  refine W.widen (k := 600000) (n := 7302250) (by decide) (by decide) ?_
  exact lw_ret hx hb hr hlocks dL_law_722
set_option maxHeartbeats 4000000 in
set_option maxRecDepth 100000 in
theorem lc_dancer {p : Program} {l : Launch} {e : Env} {s : State} {m : MethodId} {below : List Frame} {meth : Method} {c : Code} {ls : Array Slot} {E : cE} {H : Heap} {locs : List Loc} {b L : Nat} {xs : Nat → Int32} {xo : Nat} {ad : Nat → Nat} {gx : Nat → Int32} {gy : Nat → Int32} {gf : Nat → Int32} {v2 : Int32} {gt : Nat → Int32} {gh : Nat → Int32} {gc : Nat → Int32} {mo : Nat} {r : Nat → Nat} {g : Nat → Value} {kx : Nat → Int32} {ky : Nat → Int32} {kw : Nat → Int32} {kt : Nat → Int32} {fx : Nat → Int32} {fy : Nat → Int32} {fw : Nat → Int32} {bx : Nat → Int32} {by_ : Nat → Int32} {bw : Nat → Int32} (F : cX p s m meth c code 4 ret yL_law #[Value.ref b]) (hA : ∀ q : Nat, s.heap.size ≤ q → (fun q : Nat => s.heap.size ≤ q) q) (hS : va_S (fun q : Nat => s.heap.size ≤ q) s.heap H locs) (hP : va_P E.1 vwCl [(xo, ob 11 [.ref (ad 0), .ref (ad 7), .ref (ad 28), .ref (ad 30), .ref (ad 76), .ref (ad 46), .ref (ad 55), .ref (ad 57), .ref (ad 59), .ref (ad 61), .ref (ad 80), .int 0, .int 0, .int 0, .int (-1), .int (-1), .int (-1)]), ((ad 76), ob 3 [.ref (ad 77), .ref (ad 78), .ref (ad 79), .ref (ad 71), .ref (ad 72), .ref (ad 73), .ref (ad 74), .ref (ad 75), .int (nI (2 * 4)), .int v2]), ((ad 77), aI E 64 gx), ((ad 78), aI E 64 gy), ((ad 79), aI E 64 gf), ((ad 71), aI E 64 gt), (mo, ob 12 (mfs g)), ((r 38), aI E 64 kx), ((r 39), aI E 64 ky), ((r 40), aI E 64 kw), ((r 41), aI E 64 kt)] H) (hD : va_D (fun q : Nat => s.heap.size ≤ q) [(xo, ob 11 [.ref (ad 0), .ref (ad 7), .ref (ad 28), .ref (ad 30), .ref (ad 76), .ref (ad 46), .ref (ad 55), .ref (ad 57), .ref (ad 59), .ref (ad 61), .ref (ad 80), .int 0, .int 0, .int 0, .int (-1), .int (-1), .int (-1)]), ((ad 76), ob 3 [.ref (ad 77), .ref (ad 78), .ref (ad 79), .ref (ad 71), .ref (ad 72), .ref (ad 73), .ref (ad 74), .ref (ad 75), .int (nI (2 * 4)), .int v2]), ((ad 77), aI E 64 gx), ((ad 78), aI E 64 gy), ((ad 79), aI E 64 gf), ((ad 71), aI E 64 gt), (mo, ob 12 (mfs g)), ((r 38), aI E 64 kx), ((r 39), aI E 64 ky), ((r 40), aI E 64 kw), ((r 41), aI E 64 kt)]) (hK : va_K E.1 vwCl (cTY E.2.1) s) (hZ : cZ E.2.2 (fun q : Nat => s.heap.size ≤ q) s s.heap) (hX : va_X b L xs s s.heap) (hbl : b < s.heap.size) (hbA : ¬ (fun q : Nat => s.heap.size ≤ q) b) (hL6 : L = 6) (hw1 : flo (stC 0) (2 * 4) gx gy gf) (hw3 : ∀ d, d < 2 * 4 → gt d = 0) (hw4 : ∀ d, d < 2 * 4 → gh d = nI (stC 0 d)) (hw5 : ∀ d, d < 2 * 4 → gc d = nI (stC 0 d)) (hR : mOK r g) (hI : ∀ k, k < 116 → mRef k = false → g k = mI k) (hm1 : flo (stC 0) (2 * 4) kx ky kw) (hm2 : ∀ d, d < 2 * 4 → kt d = 0) (hm3 : ∀ d, d < 2 * 4 → fx d = kx d ∧ fy d = ky d ∧ fw d = kw d) (hm4 : ∀ d, d < 2 * 4 → bx d = kx d ∧ by_ d = ky d ∧ bw d = kw d) (hl : lv_has ls 4 [(0, .ref b), (1, .ref xo), (2, .ref mo), (3, .int (nI 0))]) : W p l e room_1 s m #[Value.ref b] below meth c H locs 146 989044 (lw_Z below #[Value.ref b] s) (F0 m 626 ls []) := by
  subst hL6
  obtain ⟨hx, hb, hr, hml, hown, hts, hlocks, hin⟩ := id F
  have hown : s.vm.findClass RL = some m.cls := hown
  refine lv_aload_n hx hb dL_law_626 rfl (lv_at hl 1 rfl) ?_
  refine lv_aload_n hx hb dL_law_627 rfl (lv_at hl 0 rfl) ?_
  refine lv_iload_n hx hb dL_law_628 rfl (lv_at hl 3 rfl) ?_
  refine lv_iconst (v := nI 1) hx hb dL_law_629 (by decide) ?_
  refine lv_iadd hx hb dL_law_630 ?_
  rw [show ((nI 0) + (nI 1) : Int32) = nI 1 from by decide]
  refine va_sld hx hb hX hbl hbA hS (i := nI 1) (vp_in_nI (by omega) (by omega)) dL_law_631 ?_
  rw [nI_clamp (n := 1) (by decide)]
  refine lv_aload_n hx hb dL_law_632 rfl (lv_at hl 0 rfl) ?_
  refine lv_iload_n hx hb dL_law_633 rfl (lv_at hl 3 rfl) ?_
  refine lv_iconst (v := nI 2) hx hb dL_law_634 (by decide) ?_
  refine lv_iadd hx hb dL_law_635 ?_
  rw [show ((nI 0) + (nI 2) : Int32) = nI 2 from by decide]
  refine va_sld hx hb hX hbl hbA hS (i := nI 2) (vp_in_nI (by omega) (by omega)) dL_law_636 ?_
  rw [nI_clamp (n := 2) (by decide)]
  refine cI_go (wr := [(mo, ob 12 (mfs g)), ((r 38), aI E 64 kx), ((r 39), aI E 64 ky), ((r 40), aI E 64 kw), ((r 41), aI E 64 kt)]) (cM_runV (As := [.int (xs 1), .int (xs 2)]) (rest := []) F (p_X11_dancer l E xo ad gx gy gf v2 gt gh gc (xs 1) (xs 2) hw1 hw3 hw4 hw5) yy_X11_dancer yi_X11_dancer wdM_RL_104 hP hD hS hK hZ hA [0, 1, 2, 3, 4, 5] rfl rfl 0 11 rfl rfl rfl hl.1 rfl (Nat.le_of_ble_eq_true rfl) dL_law_637 ⟨by decide, by decide⟩ ⟨by decide, by decide⟩) hP hD hS hA [0, 1, 2, 3, 4, 5] [6, 7, 8, 9, 10] rfl rfl rfl (by decide) (fun r_1269 u_1268 H locs hw_1267 hP hD hS => ?_)
  try dsimp only at hw_1267
  have hP : va_P E.1 vwCl [(mo, ob 12 (mfs g)), ((r 38), aI E 64 kx), ((r 39), aI E 64 ky), ((r 40), aI E 64 kw), ((r 41), aI E 64 kt)] H := hP
  have hD : va_D (fun q : Nat => s.heap.size ≤ q) [(mo, ob 12 (mfs g)), ((r 38), aI E 64 kx), ((r 39), aI E 64 ky), ((r 40), aI E 64 kw), ((r 41), aI E 64 kt)] := hD
  refine lv_aload_n hx hb dL_law_640 rfl (lv_at hl 2 rfl) ?_
  refine lv_aload_n hx hb dL_law_641 rfl (lv_at hl 0 rfl) ?_
  refine lv_iload_n hx hb dL_law_642 rfl (lv_at hl 3 rfl) ?_
  refine lv_iconst (v := nI 1) hx hb dL_law_643 (by decide) ?_
  refine lv_iadd hx hb dL_law_644 ?_
  rw [show ((nI 0) + (nI 1) : Int32) = nI 1 from by decide]
  refine va_sld hx hb hX hbl hbA hS (i := nI 1) (vp_in_nI (by omega) (by omega)) dL_law_645 ?_
  rw [nI_clamp (n := 1) (by decide)]
  refine lv_aload_n hx hb dL_law_646 rfl (lv_at hl 0 rfl) ?_
  refine lv_iload_n hx hb dL_law_647 rfl (lv_at hl 3 rfl) ?_
  refine lv_iconst (v := nI 2) hx hb dL_law_648 (by decide) ?_
  refine lv_iadd hx hb dL_law_649 ?_
  rw [show ((nI 0) + (nI 2) : Int32) = nI 2 from by decide]
  refine va_sld hx hb hX hbl hbA hS (i := nI 2) (vp_in_nI (by omega) (by omega)) dL_law_650 ?_
  rw [nI_clamp (n := 2) (by decide)]
  refine cI_go (wr := []) (cM_runV (As := [.int (xs 1), .int (xs 2)]) (rest := [.int r_1269]) F (p_X12_dancer l E mo r g kx ky kw kt fx fy fw bx by_ bw (xs 1) (xs 2) hR hI hm1 hm2 hm3 hm4) yy_X12_dancer yi_X12_dancer wdM_RL_108 hP hD hS hK hZ hA [0, 1, 2, 3, 4] rfl rfl 0 12 rfl rfl rfl hl.1 rfl (Nat.le_of_ble_eq_true rfl) dL_law_651 ⟨by decide, by decide⟩ ⟨by decide, by decide⟩) hP hD hS hA [0, 1, 2, 3, 4] [] rfl rfl rfl (by decide) (fun r_1272 u_1271 H locs hw_1270 hP hD hS => ?_)
  try dsimp only at hw_1270
  have hP : va_P E.1 vwCl [] H := hP
  have hD : va_D (fun q : Nat => s.heap.size ≤ q) [] := hD
  refine lv_icmp_eq (tgt := 715) hx hb dL_law_654 (by decide) (fun c_1273 => ?_) (fun c_1273 => absurd (hw_1267.trans hw_1270.symm) c_1273)
  refine lv_iinc (v := nI 6) (lv' := [(3, .int (nI 6)), (0, .ref b), (1, .ref xo), (2, .ref mo)]) hx hb dL_law_715 hl (k := 3) rfl (by decide) (by decide) rfl (fun ls hl => ?_)
  refine lv_goto (tgt := 18) hx hb dL_law_718 (by decide) ?_
  refine lv_iload_n hx hb dL_law_18 rfl (lv_at hl 0 rfl) ?_
  refine lv_aload_n hx hb dL_law_19 rfl (lv_at hl 1 rfl) ?_
  refine va_slen hx hb hX hbl hbA hS dL_law_20 ?_
  refine W.eq (g2 := F0 m 21 ls [.int (nI 6), .int (nI 6)]) rfl ?_
  refine lv_bipush (v := nI 6) hx hb dL_law_21 (by decide) ?_
  refine lv_isub hx hb dL_law_23 ?_
  rw [show ((nI 6) - (nI 6) : Int32) = nI 0 from by decide]
  refine lv_icmp_gt (tgt := 721) hx hb dL_law_24 (by decide) (fun c_1274 => ?_) (fun c_1274 => absurd (by decide) c_1274)
  refine lv_iconst (v := nI 1) hx hb dL_law_721 (by decide) ?_
  refine va_forget (fun q hq => hS.2.2 q hq) ?_
  refine W.widen (k := 600000) (n := 7302250) (by decide) (by decide) ?_
  exact lw_ret hx hb hr hlocks dL_law_722
set_option maxHeartbeats 4000000 in
set_option maxRecDepth 100000 in
theorem lc_at {p : Program} {l : Launch} {e : Env} {s : State} {m : MethodId} {below : List Frame} {meth : Method} {c : Code} {ls : Array Slot} {E : cE} {H : Heap} {locs : List Loc} {b L : Nat} {xs : Nat → Int32} {xo : Nat} {ad : Nat → Nat} {gx : Nat → Int32} {gy : Nat → Int32} {gf : Nat → Int32} {v2 : Int32} {gt : Nat → Int32} {gh : Nat → Int32} {gc : Nat → Int32} {mo : Nat} {r : Nat → Nat} {g : Nat → Value} {kx : Nat → Int32} {ky : Nat → Int32} {kw : Nat → Int32} {kt : Nat → Int32} {fx : Nat → Int32} {fy : Nat → Int32} {fw : Nat → Int32} {bx : Nat → Int32} {by_ : Nat → Int32} {bw : Nat → Int32} (F : cX p s m meth c code 4 ret yL_law #[Value.ref b]) (hA : ∀ q : Nat, s.heap.size ≤ q → (fun q : Nat => s.heap.size ≤ q) q) (hS : va_S (fun q : Nat => s.heap.size ≤ q) s.heap H locs) (hP : va_P E.1 vwCl [(xo, ob 11 [.ref (ad 0), .ref (ad 7), .ref (ad 28), .ref (ad 30), .ref (ad 76), .ref (ad 46), .ref (ad 55), .ref (ad 57), .ref (ad 59), .ref (ad 61), .ref (ad 80), .int 0, .int 0, .int 0, .int (-1), .int (-1), .int (-1)]), ((ad 76), ob 3 [.ref (ad 77), .ref (ad 78), .ref (ad 79), .ref (ad 71), .ref (ad 72), .ref (ad 73), .ref (ad 74), .ref (ad 75), .int (nI (2 * 4)), .int v2]), ((ad 75), aB E 4096 (seatOf (stC 0) (2 * 4))), (mo, ob 12 (mfs g)), ((r 38), aI E 64 kx), ((r 39), aI E 64 ky)] H) (hD : va_D (fun q : Nat => s.heap.size ≤ q) [(xo, ob 11 [.ref (ad 0), .ref (ad 7), .ref (ad 28), .ref (ad 30), .ref (ad 76), .ref (ad 46), .ref (ad 55), .ref (ad 57), .ref (ad 59), .ref (ad 61), .ref (ad 80), .int 0, .int 0, .int 0, .int (-1), .int (-1), .int (-1)]), ((ad 76), ob 3 [.ref (ad 77), .ref (ad 78), .ref (ad 79), .ref (ad 71), .ref (ad 72), .ref (ad 73), .ref (ad 74), .ref (ad 75), .int (nI (2 * 4)), .int v2]), ((ad 75), aB E 4096 (seatOf (stC 0) (2 * 4))), (mo, ob 12 (mfs g)), ((r 38), aI E 64 kx), ((r 39), aI E 64 ky)]) (hK : va_K E.1 vwCl (cTY E.2.1) s) (hZ : cZ E.2.2 (fun q : Nat => s.heap.size ≤ q) s s.heap) (hX : va_X b L xs s s.heap) (hbl : b < s.heap.size) (hbA : ¬ (fun q : Nat => s.heap.size ≤ q) b) (hL6 : L = 6) (hw1 : flo (stC 0) (2 * 4) gx gy gf) (hw3 : ∀ d, d < 2 * 4 → gt d = 0) (hw4 : ∀ d, d < 2 * 4 → gh d = nI (stC 0 d)) (hw5 : ∀ d, d < 2 * 4 → gc d = nI (stC 0 d)) (hR : mOK r g) (hI : ∀ k, k < 116 → mRef k = false → g k = mI k) (hm1 : flo (stC 0) (2 * 4) kx ky kw) (hm2 : ∀ d, d < 2 * 4 → kt d = 0) (hm3 : ∀ d, d < 2 * 4 → fx d = kx d ∧ fy d = ky d ∧ fw d = kw d) (hm4 : ∀ d, d < 2 * 4 → bx d = kx d ∧ by_ d = ky d ∧ bw d = kw d) (hl : lv_has ls 4 [(0, .ref b), (1, .ref xo), (2, .ref mo), (3, .int (nI 0))]) : W p l e room_1 s m #[Value.ref b] below meth c H locs 146 989044 (lw_Z below #[Value.ref b] s) (F0 m 659 ls []) := by
  subst hL6
  obtain ⟨hx, hb, hr, hml, hown, hts, hlocks, hin⟩ := id F
  have hown : s.vm.findClass RL = some m.cls := hown
  refine lv_aload_n hx hb dL_law_659 rfl (lv_at hl 1 rfl) ?_
  refine lv_aload_n hx hb dL_law_660 rfl (lv_at hl 0 rfl) ?_
  refine lv_iload_n hx hb dL_law_661 rfl (lv_at hl 3 rfl) ?_
  refine lv_iconst (v := nI 1) hx hb dL_law_662 (by decide) ?_
  refine lv_iadd hx hb dL_law_663 ?_
  rw [show ((nI 0) + (nI 1) : Int32) = nI 1 from by decide]
  refine va_sld hx hb hX hbl hbA hS (i := nI 1) (vp_in_nI (by omega) (by omega)) dL_law_664 ?_
  rw [nI_clamp (n := 1) (by decide)]
  refine lv_aload_n hx hb dL_law_665 rfl (lv_at hl 0 rfl) ?_
  refine lv_iload_n hx hb dL_law_666 rfl (lv_at hl 3 rfl) ?_
  refine lv_iconst (v := nI 2) hx hb dL_law_667 (by decide) ?_
  refine lv_iadd hx hb dL_law_668 ?_
  rw [show ((nI 0) + (nI 2) : Int32) = nI 2 from by decide]
  refine va_sld hx hb hX hbl hbA hS (i := nI 2) (vp_in_nI (by omega) (by omega)) dL_law_669 ?_
  rw [nI_clamp (n := 2) (by decide)]
  refine cI_go (wr := [(mo, ob 12 (mfs g)), ((r 38), aI E 64 kx), ((r 39), aI E 64 ky)]) (cM_runV (As := [.int (xs 1), .int (xs 2)]) (rest := []) F (p_X11_at l E xo ad gx gy gf v2 gt gh gc (xs 1) (xs 2) hw1 hw3 hw4 hw5) yy_X11_at yi_X11_at wdM_RL_109 hP hD hS hK hZ hA [0, 1, 2] rfl rfl 0 11 rfl rfl rfl hl.1 rfl (Nat.le_of_ble_eq_true rfl) dL_law_670 ⟨by decide, by decide⟩ ⟨by decide, by decide⟩) hP hD hS hA [0, 1, 2] [3, 4, 5] rfl rfl rfl (by decide) (fun r_1277 u_1276 H locs hw_1275 hP hD hS => ?_)
  try dsimp only at hw_1275
  have hP : va_P E.1 vwCl [(mo, ob 12 (mfs g)), ((r 38), aI E 64 kx), ((r 39), aI E 64 ky)] H := hP
  have hD : va_D (fun q : Nat => s.heap.size ≤ q) [(mo, ob 12 (mfs g)), ((r 38), aI E 64 kx), ((r 39), aI E 64 ky)] := hD
  refine lv_aload_n hx hb dL_law_673 rfl (lv_at hl 2 rfl) ?_
  refine lv_aload_n hx hb dL_law_674 rfl (lv_at hl 0 rfl) ?_
  refine lv_iload_n hx hb dL_law_675 rfl (lv_at hl 3 rfl) ?_
  refine lv_iconst (v := nI 1) hx hb dL_law_676 (by decide) ?_
  refine lv_iadd hx hb dL_law_677 ?_
  rw [show ((nI 0) + (nI 1) : Int32) = nI 1 from by decide]
  refine va_sld hx hb hX hbl hbA hS (i := nI 1) (vp_in_nI (by omega) (by omega)) dL_law_678 ?_
  rw [nI_clamp (n := 1) (by decide)]
  refine lv_aload_n hx hb dL_law_679 rfl (lv_at hl 0 rfl) ?_
  refine lv_iload_n hx hb dL_law_680 rfl (lv_at hl 3 rfl) ?_
  refine lv_iconst (v := nI 2) hx hb dL_law_681 (by decide) ?_
  refine lv_iadd hx hb dL_law_682 ?_
  rw [show ((nI 0) + (nI 2) : Int32) = nI 2 from by decide]
  refine va_sld hx hb hX hbl hbA hS (i := nI 2) (vp_in_nI (by omega) (by omega)) dL_law_683 ?_
  rw [nI_clamp (n := 2) (by decide)]
  refine cI_go (wr := []) (cM_runV (As := [.int (xs 1), .int (xs 2)]) (rest := [.int r_1277]) F (p_X12_at l E mo r g kx ky kw kt fx fy fw bx by_ bw (xs 1) (xs 2) hR hI hm1 hm2 hm3 hm4) yy_X12_at yi_X12_at wdM_RL_112 hP hD hS hK hZ hA [0, 1, 2] rfl rfl 0 12 rfl rfl rfl hl.1 rfl (Nat.le_of_ble_eq_true rfl) dL_law_684 ⟨by decide, by decide⟩ ⟨by decide, by decide⟩) hP hD hS hA [0, 1, 2] [] rfl rfl rfl (by decide) (fun r_1280 u_1279 H locs hw_1278 hP hD hS => ?_)
  try dsimp only at hw_1278
  have hP : va_P E.1 vwCl [] H := hP
  have hD : va_D (fun q : Nat => s.heap.size ≤ q) [] := hD
  refine lv_icmp_eq (tgt := 715) hx hb dL_law_687 (by decide) (fun c_1281 => ?_) (fun c_1281 => absurd (hw_1275.trans hw_1278.symm) c_1281)
  refine lv_iinc (v := nI 6) (lv' := [(3, .int (nI 6)), (0, .ref b), (1, .ref xo), (2, .ref mo)]) hx hb dL_law_715 hl (k := 3) rfl (by decide) (by decide) rfl (fun ls hl => ?_)
  refine lv_goto (tgt := 18) hx hb dL_law_718 (by decide) ?_
  refine lv_iload_n hx hb dL_law_18 rfl (lv_at hl 0 rfl) ?_
  refine lv_aload_n hx hb dL_law_19 rfl (lv_at hl 1 rfl) ?_
  refine va_slen hx hb hX hbl hbA hS dL_law_20 ?_
  refine W.eq (g2 := F0 m 21 ls [.int (nI 6), .int (nI 6)]) rfl ?_
  refine lv_bipush (v := nI 6) hx hb dL_law_21 (by decide) ?_
  refine lv_isub hx hb dL_law_23 ?_
  rw [show ((nI 6) - (nI 6) : Int32) = nI 0 from by decide]
  refine lv_icmp_gt (tgt := 721) hx hb dL_law_24 (by decide) (fun c_1282 => ?_) (fun c_1282 => absurd (by decide) c_1282)
  refine lv_iconst (v := nI 1) hx hb dL_law_721 (by decide) ?_
  refine va_forget (fun q hq => hS.2.2 q hq) ?_
  refine W.widen (k := 600000) (n := 7302250) (by decide) (by decide) ?_
  exact lw_ret hx hb hr hlocks dL_law_722
set_option maxHeartbeats 4000000 in
set_option maxRecDepth 100000 in
theorem lc_about {p : Program} {l : Launch} {e : Env} {s : State} {m : MethodId} {below : List Frame} {meth : Method} {c : Code} {ls : Array Slot} {E : cE} {H : Heap} {locs : List Loc} {b L : Nat} {xs : Nat → Int32} {xo : Nat} {ad : Nat → Nat} {gx : Nat → Int32} {gy : Nat → Int32} {gf : Nat → Int32} {v2 : Int32} {gt : Nat → Int32} {gh : Nat → Int32} {gc : Nat → Int32} {mo : Nat} {r : Nat → Nat} {g : Nat → Value} {kx : Nat → Int32} {ky : Nat → Int32} {kw : Nat → Int32} {kt : Nat → Int32} {fx : Nat → Int32} {fy : Nat → Int32} {fw : Nat → Int32} {bx : Nat → Int32} {by_ : Nat → Int32} {bw : Nat → Int32} (F : cX p s m meth c code 4 ret yL_law #[Value.ref b]) (hA : ∀ q : Nat, s.heap.size ≤ q → (fun q : Nat => s.heap.size ≤ q) q) (hS : va_S (fun q : Nat => s.heap.size ≤ q) s.heap H locs) (hP : va_P E.1 vwCl [(xo, ob 11 [.ref (ad 0), .ref (ad 7), .ref (ad 28), .ref (ad 30), .ref (ad 76), .ref (ad 46), .ref (ad 55), .ref (ad 57), .ref (ad 59), .ref (ad 61), .ref (ad 80), .int 0, .int 0, .int 0, .int (-1), .int (-1), .int (-1)]), ((ad 76), ob 3 [.ref (ad 77), .ref (ad 78), .ref (ad 79), .ref (ad 71), .ref (ad 72), .ref (ad 73), .ref (ad 74), .ref (ad 75), .int (nI (2 * 4)), .int v2]), ((ad 77), aI E 64 gx), ((ad 78), aI E 64 gy), ((ad 79), aI E 64 gf), ((ad 72), aI E 64 gh), ((ad 80), aI E 64 gc), ((ad 59), ob 4 [.ref (ad 60), .int 0, .int 0]), ((ad 7), ob 0 [.ref (ad 8), .ref (ad 10), .ref (ad 12), .ref (ad 14), .ref (ad 15), .ref (ad 16), .ref (ad 17), .ref (ad 18), .ref (ad 19), .ref (ad 20), .ref (ad 21), .ref (ad 22), .ref (ad 23), .ref (ad 24), .ref (ad 25), .ref (ad 26), .int 0, .ref (ad 27), .int 0, .int 0]), ((ad 8), ob 6 [.ref (ad 9), .int (nI 40), .int 0]), ((ad 10), ob 6 [.ref (ad 11), .int (nI 100), .int 0]), ((ad 12), ob 6 [.ref (ad 13), .int (nI 60), .int 0]), ((ad 55), ob 8 [.ref (ad 7), .ref (ad 30), .int 0, .int 0, .long 0, .ref (ad 56), .int 0, .int 0, .int 0, .int 0, .int 0]), ((ad 61), ob 9 [.ref (ad 7), .ref (ad 30), .ref (ad 46), .ref (ad 62), .ref (ad 63), .ref (ad 64), .ref (ad 65), .ref (ad 66), .ref (ad 67), .ref (ad 68), .ref (ad 69), .int 0, .int 0, .int 0, .int (-1), .ref (ad 70), .int 0, .int 0]), ((ad 0), ob 10 [.ref (ad 1), .int 0, .ref (ad 2), .ref (ad 3), .ref (ad 4), .ref (ad 5), .ref (ad 6), .int 0]), (mo, ob 12 (mfs g)), ((r 38), aI E 64 kx), ((r 39), aI E 64 ky), ((r 40), aI E 64 kw), ((r 44), aI E 64 fx), ((r 45), aI E 64 fy), ((r 46), aI E 64 fw), ((r 47), aI E 64 bx), ((r 48), aI E 64 by_), ((r 49), aI E 64 bw)] H) (hD : va_D (fun q : Nat => s.heap.size ≤ q) [(xo, ob 11 [.ref (ad 0), .ref (ad 7), .ref (ad 28), .ref (ad 30), .ref (ad 76), .ref (ad 46), .ref (ad 55), .ref (ad 57), .ref (ad 59), .ref (ad 61), .ref (ad 80), .int 0, .int 0, .int 0, .int (-1), .int (-1), .int (-1)]), ((ad 76), ob 3 [.ref (ad 77), .ref (ad 78), .ref (ad 79), .ref (ad 71), .ref (ad 72), .ref (ad 73), .ref (ad 74), .ref (ad 75), .int (nI (2 * 4)), .int v2]), ((ad 77), aI E 64 gx), ((ad 78), aI E 64 gy), ((ad 79), aI E 64 gf), ((ad 72), aI E 64 gh), ((ad 80), aI E 64 gc), ((ad 59), ob 4 [.ref (ad 60), .int 0, .int 0]), ((ad 7), ob 0 [.ref (ad 8), .ref (ad 10), .ref (ad 12), .ref (ad 14), .ref (ad 15), .ref (ad 16), .ref (ad 17), .ref (ad 18), .ref (ad 19), .ref (ad 20), .ref (ad 21), .ref (ad 22), .ref (ad 23), .ref (ad 24), .ref (ad 25), .ref (ad 26), .int 0, .ref (ad 27), .int 0, .int 0]), ((ad 8), ob 6 [.ref (ad 9), .int (nI 40), .int 0]), ((ad 10), ob 6 [.ref (ad 11), .int (nI 100), .int 0]), ((ad 12), ob 6 [.ref (ad 13), .int (nI 60), .int 0]), ((ad 55), ob 8 [.ref (ad 7), .ref (ad 30), .int 0, .int 0, .long 0, .ref (ad 56), .int 0, .int 0, .int 0, .int 0, .int 0]), ((ad 61), ob 9 [.ref (ad 7), .ref (ad 30), .ref (ad 46), .ref (ad 62), .ref (ad 63), .ref (ad 64), .ref (ad 65), .ref (ad 66), .ref (ad 67), .ref (ad 68), .ref (ad 69), .int 0, .int 0, .int 0, .int (-1), .ref (ad 70), .int 0, .int 0]), ((ad 0), ob 10 [.ref (ad 1), .int 0, .ref (ad 2), .ref (ad 3), .ref (ad 4), .ref (ad 5), .ref (ad 6), .int 0]), (mo, ob 12 (mfs g)), ((r 38), aI E 64 kx), ((r 39), aI E 64 ky), ((r 40), aI E 64 kw), ((r 44), aI E 64 fx), ((r 45), aI E 64 fy), ((r 46), aI E 64 fw), ((r 47), aI E 64 bx), ((r 48), aI E 64 by_), ((r 49), aI E 64 bw)]) (hK : va_K E.1 vwCl (cTY E.2.1) s) (hZ : cZ E.2.2 (fun q : Nat => s.heap.size ≤ q) s s.heap) (hX : va_X b L xs s s.heap) (hbl : b < s.heap.size) (hbA : ¬ (fun q : Nat => s.heap.size ≤ q) b) (hL6 : L = 6) (hw1 : flo (stC 0) (2 * 4) gx gy gf) (hw3 : ∀ d, d < 2 * 4 → gt d = 0) (hw4 : ∀ d, d < 2 * 4 → gh d = nI (stC 0 d)) (hw5 : ∀ d, d < 2 * 4 → gc d = nI (stC 0 d)) (hR : mOK r g) (hI : ∀ k, k < 116 → mRef k = false → g k = mI k) (hm1 : flo (stC 0) (2 * 4) kx ky kw) (hm2 : ∀ d, d < 2 * 4 → kt d = 0) (hm3 : ∀ d, d < 2 * 4 → fx d = kx d ∧ fy d = ky d ∧ fw d = kw d) (hm4 : ∀ d, d < 2 * 4 → bx d = kx d ∧ by_ d = ky d ∧ bw d = kw d) (hl : lv_has ls 4 [(0, .ref b), (1, .ref xo), (2, .ref mo), (3, .int (nI 0))]) : W p l e room_1 s m #[Value.ref b] below meth c H locs 146 989044 (lw_Z below #[Value.ref b] s) (F0 m 692 ls []) := by
  subst hL6
  obtain ⟨hx, hb, hr, hml, hown, hts, hlocks, hin⟩ := id F
  have hown : s.vm.findClass RL = some m.cls := hown
  refine lv_aload_n hx hb dL_law_692 rfl (lv_at hl 1 rfl) ?_
  refine lv_aload_n hx hb dL_law_693 rfl (lv_at hl 0 rfl) ?_
  refine lv_iload_n hx hb dL_law_694 rfl (lv_at hl 3 rfl) ?_
  refine lv_iconst (v := nI 1) hx hb dL_law_695 (by decide) ?_
  refine lv_iadd hx hb dL_law_696 ?_
  rw [show ((nI 0) + (nI 1) : Int32) = nI 1 from by decide]
  refine va_sld hx hb hX hbl hbA hS (i := nI 1) (vp_in_nI (by omega) (by omega)) dL_law_697 ?_
  rw [nI_clamp (n := 1) (by decide)]
  refine cI_go (wr := [(mo, ob 12 (mfs g)), ((r 38), aI E 64 kx), ((r 39), aI E 64 ky), ((r 40), aI E 64 kw), ((r 44), aI E 64 fx), ((r 45), aI E 64 fy), ((r 46), aI E 64 fw), ((r 47), aI E 64 bx), ((r 48), aI E 64 by_), ((r 49), aI E 64 bw)]) (cM_runV (As := [.int (xs 1)]) (rest := []) F (p_X11_about l E xo ad gx gy gf v2 gt gh gc (xs 1) hw1 hw3 hw4 hw5) yy_X11_about yi_X11_about wdM_RL_113 hP hD hS hK hZ hA [0, 1, 2, 3, 4, 5, 6, 7, 8, 9, 10, 11, 12, 13, 14] rfl rfl 0 11 rfl rfl rfl hl.1 rfl (Nat.le_of_ble_eq_true rfl) dL_law_698 ⟨by decide, by decide⟩ ⟨by decide, by decide⟩) hP hD hS hA [0, 1, 2, 3, 4, 5, 6, 7, 8, 9, 10, 11, 12, 13, 14] [15, 16, 17, 18, 19, 20, 21, 22, 23, 24] rfl rfl rfl (by decide) (fun r_1285 u_1284 H locs hw_1283 hP hD hS => ?_)
  try dsimp only at hw_1283
  have hP : va_P E.1 vwCl [(mo, ob 12 (mfs g)), ((r 38), aI E 64 kx), ((r 39), aI E 64 ky), ((r 40), aI E 64 kw), ((r 44), aI E 64 fx), ((r 45), aI E 64 fy), ((r 46), aI E 64 fw), ((r 47), aI E 64 bx), ((r 48), aI E 64 by_), ((r 49), aI E 64 bw)] H := hP
  have hD : va_D (fun q : Nat => s.heap.size ≤ q) [(mo, ob 12 (mfs g)), ((r 38), aI E 64 kx), ((r 39), aI E 64 ky), ((r 40), aI E 64 kw), ((r 44), aI E 64 fx), ((r 45), aI E 64 fy), ((r 46), aI E 64 fw), ((r 47), aI E 64 bx), ((r 48), aI E 64 by_), ((r 49), aI E 64 bw)] := hD
  refine lv_aload_n hx hb dL_law_701 rfl (lv_at hl 2 rfl) ?_
  refine lv_aload_n hx hb dL_law_702 rfl (lv_at hl 0 rfl) ?_
  refine lv_iload_n hx hb dL_law_703 rfl (lv_at hl 3 rfl) ?_
  refine lv_iconst (v := nI 1) hx hb dL_law_704 (by decide) ?_
  refine lv_iadd hx hb dL_law_705 ?_
  rw [show ((nI 0) + (nI 1) : Int32) = nI 1 from by decide]
  refine va_sld hx hb hX hbl hbA hS (i := nI 1) (vp_in_nI (by omega) (by omega)) dL_law_706 ?_
  rw [nI_clamp (n := 1) (by decide)]
  refine cI_go (wr := []) (cM_runV (As := [.int (xs 1)]) (rest := [.int r_1285]) F (p_X12_about l E mo r g kx ky kw kt fx fy fw bx by_ bw (xs 1) hR hI hm1 hm2 hm3 hm4) yy_X12_about yi_X12_about wdM_RL_116 hP hD hS hK hZ hA [0, 1, 2, 3, 4, 5, 6, 7, 8, 9] rfl rfl 0 12 rfl rfl rfl hl.1 rfl (Nat.le_of_ble_eq_true rfl) dL_law_707 ⟨by decide, by decide⟩ ⟨by decide, by decide⟩) hP hD hS hA [0, 1, 2, 3, 4, 5, 6, 7, 8, 9] [] rfl rfl rfl (by decide) (fun r_1288 u_1287 H locs hw_1286 hP hD hS => ?_)
  try dsimp only at hw_1286
  have hP : va_P E.1 vwCl [] H := hP
  have hD : va_D (fun q : Nat => s.heap.size ≤ q) [] := hD
  refine lv_icmp_eq (tgt := 715) hx hb dL_law_710 (by decide) (fun c_1289 => ?_) (fun c_1289 => absurd (hw_1283.trans hw_1286.symm) c_1289)
  refine lv_iinc (v := nI 6) (lv' := [(3, .int (nI 6)), (0, .ref b), (1, .ref xo), (2, .ref mo)]) hx hb dL_law_715 hl (k := 3) rfl (by decide) (by decide) rfl (fun ls hl => ?_)
  refine lv_goto (tgt := 18) hx hb dL_law_718 (by decide) ?_
  refine lv_iload_n hx hb dL_law_18 rfl (lv_at hl 0 rfl) ?_
  refine lv_aload_n hx hb dL_law_19 rfl (lv_at hl 1 rfl) ?_
  refine va_slen hx hb hX hbl hbA hS dL_law_20 ?_
  refine W.eq (g2 := F0 m 21 ls [.int (nI 6), .int (nI 6)]) rfl ?_
  refine lv_bipush (v := nI 6) hx hb dL_law_21 (by decide) ?_
  refine lv_isub hx hb dL_law_23 ?_
  rw [show ((nI 6) - (nI 6) : Int32) = nI 0 from by decide]
  refine lv_icmp_gt (tgt := 721) hx hb dL_law_24 (by decide) (fun c_1290 => ?_) (fun c_1290 => absurd (by decide) c_1290)
  refine lv_iconst (v := nI 1) hx hb dL_law_721 (by decide) ?_
  refine va_forget (fun q hq => hS.2.2 q hq) ?_
  refine W.widen (k := 600000) (n := 7302250) (by decide) (by decide) ?_
  exact lw_ret hx hb hr hlocks dL_law_722
set_option maxHeartbeats 4000000 in
set_option maxRecDepth 100000 in
theorem law6 {p : Program} {e : Env} {s : State} {m : MethodId} {below : List Frame} {meth : Method} {c : Code} (l : Launch) {b L : Nat} {xs : Nat → Int32} (hL : L ≤ 6) (C0 : lw_At p s m meth c b L xs) : W p l e room_1 s m #[Value.ref b] below meth c s.heap [] 0 0 (lw_Z below #[Value.ref b] s) (entryFrame m ([Value.ref b] : List Value).toArray 4) := by
  obtain ⟨hx, hb, hr, hml, hown, hts0, hX, hbl, hlocks, hgv, hin⟩ := id C0
  have hts : ∀ w ∈ TB, w.before #[Value.ref b] s = true := fun w h => hts0 w (List.mem_filter.mp h).1
  have F : cX p s m meth c code 4 ret yL_law #[Value.ref b] := ⟨hx, hb, hr, hml, hown, hts, hlocks, hin⟩
  have hown : s.vm.findClass RL = some m.cls := hown
  have hA : ∀ q : Nat, s.heap.size ≤ q → (fun q : Nat => s.heap.size ≤ q) q := fun _ h => h
  have hbA : ¬ (fun q : Nat => s.heap.size ≤ q) b := Nat.not_le.mpr hbl
  obtain ⟨E, hK, hZ⟩ := law_env hts0 hgv
  have hS : va_S (fun q : Nat => s.heap.size ≤ q) s.heap s.heap [] := va_S.rf
  have hP : va_P E.1 vwCl [] s.heap := fun k q h => by simp at h
  have hD : va_D (fun q : Nat => s.heap.size ≤ q) [] := ⟨fun i j p q h => by simp at h, fun k q h => by simp at h⟩
  have hl := lv_entry ([.ref b]) (n := 4) (Nat.le_of_ble_eq_true rfl)
  rw [lg_entry_eq]
  generalize (lg_sl ([.ref b]) ++ List.replicate (4 - (lg_sl ([.ref b])).length) Slot.unset).toArray = ls at hl ⊢
  have hl : lv_has ls 4 [(0, .ref b)] := hl
  refine va_new (D := E.1) (cl := vwCl) (ci := 11) (fs := [.null, .null, .null, .null, .null, .null, .null, .null, .null, .null, .null, .int 0, .int 0, .int 0, .int 0, .int 0, .int 0]) (C := RX11) (T := TX11) (N := 17) hx hb hts iX11 tyX11 tyX11_ok hown (hts _ wdC_RL_7) (hts _ wdI_RX11) (hts _ wdZ_RX11) hK hP hD hS hA rfl zX11 (by decide) (by decide) dL_law_0 (fun q_1291 H hP hD hS => ?_)
  have hP : va_P E.1 vwCl [(q_1291, ob 11 [.null, .null, .null, .null, .null, .null, .null, .null, .null, .null, .null, .int 0, .int 0, .int 0, .int 0, .int 0, .int 0])] H := hP
  have hD : va_D (fun q : Nat => s.heap.size ≤ q) [(q_1291, ob 11 [.null, .null, .null, .null, .null, .null, .null, .null, .null, .null, .null, .int 0, .int 0, .int 0, .int 0, .int 0, .int 0])] := hD
  refine W.widen (k := 1) (n := 17) (by decide) (by decide) ?_
  refine lv_dup hx hb dL_law_3 rfl ?_
  refine cV_go (wr := []) (cM_runI (As := []) (rest := [.ref q_1291]) F (c_X11_init l E q_1291) yy_X11_init wdN_X11_init rfl wdM_RL_9 hP hD hS hK hZ hA [0] rfl rfl rfl hl.1 rfl (Nat.le_of_ble_eq_true rfl) dL_law_4 ⟨by decide, by decide⟩ ⟨by decide, by decide⟩) hP hD hS hA [0] [] rfl rfl rfl (by decide) (fun u_1292 H locs hwX hP hD hS => ?_)
  obtain ⟨ad, gx, gy, gf, v2, gt, gh, gc⟩ := u_1292
  try dsimp only at hwX
  have hP : va_P E.1 vwCl [(q_1291, ob 11 [.ref (ad 0), .ref (ad 7), .ref (ad 28), .ref (ad 30), .ref (ad 76), .ref (ad 46), .ref (ad 55), .ref (ad 57), .ref (ad 59), .ref (ad 61), .ref (ad 80), .int 0, .int 0, .int 0, .int (-1), .int (-1), .int (-1)]), ((ad 0), ob 10 [.ref (ad 1), .int 0, .ref (ad 2), .ref (ad 3), .ref (ad 4), .ref (ad 5), .ref (ad 6), .int 0]), ((ad 1), aB E 4096 (fun _ => 0)), ((ad 2), aJ E 38 (kwG 182)), ((ad 3), aI E 4098 (fun _ => 0)), ((ad 4), aI E 4098 (fun _ => 0)), ((ad 5), aI E 4098 (fun _ => 0)), ((ad 6), aJ E 12294 (fun _ => 0)), ((ad 7), ob 0 [.ref (ad 8), .ref (ad 10), .ref (ad 12), .ref (ad 14), .ref (ad 15), .ref (ad 16), .ref (ad 17), .ref (ad 18), .ref (ad 19), .ref (ad 20), .ref (ad 21), .ref (ad 22), .ref (ad 23), .ref (ad 24), .ref (ad 25), .ref (ad 26), .int 0, .ref (ad 27), .int 0, .int 0]), ((ad 8), ob 6 [.ref (ad 9), .int (nI 40), .int 0]), ((ad 9), aJ E 120 (fun _ => 0)), ((ad 10), ob 6 [.ref (ad 11), .int (nI 100), .int 0]), ((ad 11), aJ E 300 (fun _ => 0)), ((ad 12), ob 6 [.ref (ad 13), .int (nI 60), .int 0]), ((ad 13), aJ E 180 (fun _ => 0)), ((ad 14), aI E 40 (fun _ => 0)), ((ad 15), aI E 1280 (fun _ => 0)), ((ad 16), aI E 1280 (fun _ => 0)), ((ad 17), aI E 320 (fun _ => 0)), ((ad 18), aI E 100 (fun _ => 0)), ((ad 19), aI E 100 (fun _ => 0)), ((ad 20), aI E 100 (fun _ => 0)), ((ad 21), aI E 800 (fun _ => 0)), ((ad 22), aI E 800 (fun _ => 0)), ((ad 23), aI E 800 (fun _ => 0)), ((ad 24), aI E 60 (fun _ => 0)), ((ad 25), aI E 32 (fun _ => 0)), ((ad 26), aI E 32 (fun _ => 0)), ((ad 27), aI E 10098 (fun _ => 0)), ((ad 28), ob 7 [.ref (ad 0), .ref (ad 7), .int 0, .int 0, .int 0, .int 0, .int 0, .int 0, .int 0, .int 0, .int 0, .int 0, .ref (ad 29)]), ((ad 29), aI E 6 (fun _ => 0)), ((ad 30), ob 1 [.ref (ad 7), .ref (ad 40), .ref (ad 31), .ref (ad 32), .ref (ad 33), .ref (ad 34), .ref (ad 35), .ref (ad 36), .ref (ad 37), .ref (ad 38), .ref (ad 39), .int 0, .int 0, .int 0, .int 0, .int 0, .int 0]), ((ad 31), aJ E 96 (fun _ => 0)), ((ad 32), aJ E 4 (fun _ => 0)), ((ad 33), aI E 4 (fun _ => 0)), ((ad 34), aI E 64 (fun _ => 0)), ((ad 35), aI E 64 (fun _ => 0)), ((ad 36), aI E 64 (fun _ => 0)), ((ad 37), aI E 64 (fun _ => 0)), ((ad 38), aI E 512 (fun _ => 0)), ((ad 39), aI E 4096 (fun _ => 0)), ((ad 40), ob 2 [.ref (ad 7), .ref (ad 41), .ref (ad 42), .null, .int 0, .long 0, .ref (ad 43), .ref (ad 44), .ref (ad 45), .int 0]), ((ad 41), aB E 2560 (fun _ => 0)), ((ad 42), aB E 40 (fun _ => 0)), ((ad 43), aI E 65 (fun _ => 0)), ((ad 44), aI E 65 (fun _ => 0)), ((ad 45), aJ E 65 (fun _ => 0)), ((ad 46), ob 3 [.ref (ad 47), .ref (ad 48), .ref (ad 49), .ref (ad 50), .ref (ad 51), .ref (ad 52), .ref (ad 53), .ref (ad 54), .int 0, .int 0]), ((ad 47), aI E 64 (fun _ => 0)), ((ad 48), aI E 64 (fun _ => 0)), ((ad 49), aI E 64 (fun _ => 0)), ((ad 50), aI E 64 (fun _ => 0)), ((ad 51), aI E 64 (fun _ => 0)), ((ad 52), aI E 64 (fun _ => 0)), ((ad 53), aJ E 4 (fun _ => 0)), ((ad 54), aB E 4096 (fun _ => 0)), ((ad 55), ob 8 [.ref (ad 7), .ref (ad 30), .int 0, .int 0, .long 0, .ref (ad 56), .int 0, .int 0, .int 0, .int 0, .int 0]), ((ad 56), aJ E 1500 (fun _ => 0)), ((ad 57), ob 8 [.ref (ad 7), .ref (ad 30), .int 0, .int 0, .long 0, .ref (ad 58), .int 0, .int 0, .int 0, .int 0, .int 0]), ((ad 58), aJ E 1500 (fun _ => 0)), ((ad 59), ob 4 [.ref (ad 60), .int 0, .int 0]), ((ad 60), aQ E 201 (fun _ => none)), ((ad 61), ob 9 [.ref (ad 7), .ref (ad 30), .ref (ad 46), .ref (ad 62), .ref (ad 63), .ref (ad 64), .ref (ad 65), .ref (ad 66), .ref (ad 67), .ref (ad 68), .ref (ad 69), .int 0, .int 0, .int 0, .int (-1), .ref (ad 70), .int 0, .int 0]), ((ad 62), aJ E 6000 (fun _ => 0)), ((ad 63), aS E 4096 (fun _ => 0)), ((ad 64), aS E 64000 (fun _ => 0)), ((ad 65), aI E 15 (fun _ => 0)), ((ad 66), aJ E 2000 (fun _ => 0)), ((ad 67), aI E 2000 (fun _ => 0)), ((ad 68), aJ E 3 (fun _ => 0)), ((ad 69), aI E 16 (fun _ => 0)), ((ad 70), aI E 12 (fun _ => 0)), ((ad 71), aI E 64 gt), ((ad 72), aI E 64 gh), ((ad 73), aI E 64 (fun j => nI (srtO (cdLt (stC 0)) (fun _ => 0) (2 * 4) j))), ((ad 74), aJ E 4 (faOf (stC 0) (2 * 4))), ((ad 75), aB E 4096 (seatOf (stC 0) (2 * 4))), ((ad 76), ob 3 [.ref (ad 77), .ref (ad 78), .ref (ad 79), .ref (ad 71), .ref (ad 72), .ref (ad 73), .ref (ad 74), .ref (ad 75), .int (nI (2 * 4)), .int v2]), ((ad 77), aI E 64 gx), ((ad 78), aI E 64 gy), ((ad 79), aI E 64 gf), ((ad 80), aI E 64 gc)] H := hP
  have hD : va_D (fun q : Nat => s.heap.size ≤ q) [(q_1291, ob 11 [.ref (ad 0), .ref (ad 7), .ref (ad 28), .ref (ad 30), .ref (ad 76), .ref (ad 46), .ref (ad 55), .ref (ad 57), .ref (ad 59), .ref (ad 61), .ref (ad 80), .int 0, .int 0, .int 0, .int (-1), .int (-1), .int (-1)]), ((ad 0), ob 10 [.ref (ad 1), .int 0, .ref (ad 2), .ref (ad 3), .ref (ad 4), .ref (ad 5), .ref (ad 6), .int 0]), ((ad 1), aB E 4096 (fun _ => 0)), ((ad 2), aJ E 38 (kwG 182)), ((ad 3), aI E 4098 (fun _ => 0)), ((ad 4), aI E 4098 (fun _ => 0)), ((ad 5), aI E 4098 (fun _ => 0)), ((ad 6), aJ E 12294 (fun _ => 0)), ((ad 7), ob 0 [.ref (ad 8), .ref (ad 10), .ref (ad 12), .ref (ad 14), .ref (ad 15), .ref (ad 16), .ref (ad 17), .ref (ad 18), .ref (ad 19), .ref (ad 20), .ref (ad 21), .ref (ad 22), .ref (ad 23), .ref (ad 24), .ref (ad 25), .ref (ad 26), .int 0, .ref (ad 27), .int 0, .int 0]), ((ad 8), ob 6 [.ref (ad 9), .int (nI 40), .int 0]), ((ad 9), aJ E 120 (fun _ => 0)), ((ad 10), ob 6 [.ref (ad 11), .int (nI 100), .int 0]), ((ad 11), aJ E 300 (fun _ => 0)), ((ad 12), ob 6 [.ref (ad 13), .int (nI 60), .int 0]), ((ad 13), aJ E 180 (fun _ => 0)), ((ad 14), aI E 40 (fun _ => 0)), ((ad 15), aI E 1280 (fun _ => 0)), ((ad 16), aI E 1280 (fun _ => 0)), ((ad 17), aI E 320 (fun _ => 0)), ((ad 18), aI E 100 (fun _ => 0)), ((ad 19), aI E 100 (fun _ => 0)), ((ad 20), aI E 100 (fun _ => 0)), ((ad 21), aI E 800 (fun _ => 0)), ((ad 22), aI E 800 (fun _ => 0)), ((ad 23), aI E 800 (fun _ => 0)), ((ad 24), aI E 60 (fun _ => 0)), ((ad 25), aI E 32 (fun _ => 0)), ((ad 26), aI E 32 (fun _ => 0)), ((ad 27), aI E 10098 (fun _ => 0)), ((ad 28), ob 7 [.ref (ad 0), .ref (ad 7), .int 0, .int 0, .int 0, .int 0, .int 0, .int 0, .int 0, .int 0, .int 0, .int 0, .ref (ad 29)]), ((ad 29), aI E 6 (fun _ => 0)), ((ad 30), ob 1 [.ref (ad 7), .ref (ad 40), .ref (ad 31), .ref (ad 32), .ref (ad 33), .ref (ad 34), .ref (ad 35), .ref (ad 36), .ref (ad 37), .ref (ad 38), .ref (ad 39), .int 0, .int 0, .int 0, .int 0, .int 0, .int 0]), ((ad 31), aJ E 96 (fun _ => 0)), ((ad 32), aJ E 4 (fun _ => 0)), ((ad 33), aI E 4 (fun _ => 0)), ((ad 34), aI E 64 (fun _ => 0)), ((ad 35), aI E 64 (fun _ => 0)), ((ad 36), aI E 64 (fun _ => 0)), ((ad 37), aI E 64 (fun _ => 0)), ((ad 38), aI E 512 (fun _ => 0)), ((ad 39), aI E 4096 (fun _ => 0)), ((ad 40), ob 2 [.ref (ad 7), .ref (ad 41), .ref (ad 42), .null, .int 0, .long 0, .ref (ad 43), .ref (ad 44), .ref (ad 45), .int 0]), ((ad 41), aB E 2560 (fun _ => 0)), ((ad 42), aB E 40 (fun _ => 0)), ((ad 43), aI E 65 (fun _ => 0)), ((ad 44), aI E 65 (fun _ => 0)), ((ad 45), aJ E 65 (fun _ => 0)), ((ad 46), ob 3 [.ref (ad 47), .ref (ad 48), .ref (ad 49), .ref (ad 50), .ref (ad 51), .ref (ad 52), .ref (ad 53), .ref (ad 54), .int 0, .int 0]), ((ad 47), aI E 64 (fun _ => 0)), ((ad 48), aI E 64 (fun _ => 0)), ((ad 49), aI E 64 (fun _ => 0)), ((ad 50), aI E 64 (fun _ => 0)), ((ad 51), aI E 64 (fun _ => 0)), ((ad 52), aI E 64 (fun _ => 0)), ((ad 53), aJ E 4 (fun _ => 0)), ((ad 54), aB E 4096 (fun _ => 0)), ((ad 55), ob 8 [.ref (ad 7), .ref (ad 30), .int 0, .int 0, .long 0, .ref (ad 56), .int 0, .int 0, .int 0, .int 0, .int 0]), ((ad 56), aJ E 1500 (fun _ => 0)), ((ad 57), ob 8 [.ref (ad 7), .ref (ad 30), .int 0, .int 0, .long 0, .ref (ad 58), .int 0, .int 0, .int 0, .int 0, .int 0]), ((ad 58), aJ E 1500 (fun _ => 0)), ((ad 59), ob 4 [.ref (ad 60), .int 0, .int 0]), ((ad 60), aQ E 201 (fun _ => none)), ((ad 61), ob 9 [.ref (ad 7), .ref (ad 30), .ref (ad 46), .ref (ad 62), .ref (ad 63), .ref (ad 64), .ref (ad 65), .ref (ad 66), .ref (ad 67), .ref (ad 68), .ref (ad 69), .int 0, .int 0, .int 0, .int (-1), .ref (ad 70), .int 0, .int 0]), ((ad 62), aJ E 6000 (fun _ => 0)), ((ad 63), aS E 4096 (fun _ => 0)), ((ad 64), aS E 64000 (fun _ => 0)), ((ad 65), aI E 15 (fun _ => 0)), ((ad 66), aJ E 2000 (fun _ => 0)), ((ad 67), aI E 2000 (fun _ => 0)), ((ad 68), aJ E 3 (fun _ => 0)), ((ad 69), aI E 16 (fun _ => 0)), ((ad 70), aI E 12 (fun _ => 0)), ((ad 71), aI E 64 gt), ((ad 72), aI E 64 gh), ((ad 73), aI E 64 (fun j => nI (srtO (cdLt (stC 0)) (fun _ => 0) (2 * 4) j))), ((ad 74), aJ E 4 (faOf (stC 0) (2 * 4))), ((ad 75), aB E 4096 (seatOf (stC 0) (2 * 4))), ((ad 76), ob 3 [.ref (ad 77), .ref (ad 78), .ref (ad 79), .ref (ad 71), .ref (ad 72), .ref (ad 73), .ref (ad 74), .ref (ad 75), .int (nI (2 * 4)), .int v2]), ((ad 77), aI E 64 gx), ((ad 78), aI E 64 gy), ((ad 79), aI E 64 gf), ((ad 80), aI E 64 gc)] := hD
  refine W.widen (k := 82) (n := 143465) (by decide) (by decide) ?_
  refine lv_astore_n (lv' := [(1, .ref q_1291), (0, .ref b)]) hx hb dL_law_7 rfl hl (by decide) rfl (fun ls hl => ?_)
  refine va_new (D := E.1) (cl := vwCl) (ci := 12) (fs := [.null, .int 0, .int 0, .int 0, .int 0, .int 0, .int 0, .int 0, .int 0, .null, .null, .null, .null, .int 0, .int 0, .int 0, .int 0, .int 0, .null, .null, .null, .null, .null, .null, .null, .null, .null, .null, .null, .null, .null, .null, .null, .int 0, .int 0, .int 0, .int 0, .int 0, .null, .null, .null, .null, .int 0, .int 0, .null, .null, .null, .null, .null, .null, .int 0, .int 0, .int 0, .int 0, .int 0, .null, .null, .null, .null, .int 0, .int 0, .null, .null, .null, .null, .null, .null, .int 0, .int 0, .int 0, .int 0, .int 0, .int 0, .null, .null, .int 0, .null, .null, .null, .null, .null, .null, .int 0, .int 0, .int 0, .int 0, .null, .null, .int 0, .int 0, .int 0, .int 0, .null, .null, .null, .null, .null, .null, .int 0, .int 0, .long 0, .int 0, .int 0, .null, .null, .null, .null, .null, .null, .null, .int 0, .int 0, .int 0, .int 0, .int 0, .int 0]) (C := RX12) (T := TX12) (N := 116) hx hb hts iX12 tyX12 tyX12_ok hown (hts _ wdC_RL_10) (hts _ wdI_RX12) (hts _ wdZ_RX12) hK hP hD hS hA rfl zX12 (by decide) (by decide) dL_law_8 (fun q_1294 H hP hD hS => ?_)
  have hP : va_P E.1 vwCl [(q_1291, ob 11 [.ref (ad 0), .ref (ad 7), .ref (ad 28), .ref (ad 30), .ref (ad 76), .ref (ad 46), .ref (ad 55), .ref (ad 57), .ref (ad 59), .ref (ad 61), .ref (ad 80), .int 0, .int 0, .int 0, .int (-1), .int (-1), .int (-1)]), ((ad 0), ob 10 [.ref (ad 1), .int 0, .ref (ad 2), .ref (ad 3), .ref (ad 4), .ref (ad 5), .ref (ad 6), .int 0]), ((ad 1), aB E 4096 (fun _ => 0)), ((ad 2), aJ E 38 (kwG 182)), ((ad 3), aI E 4098 (fun _ => 0)), ((ad 4), aI E 4098 (fun _ => 0)), ((ad 5), aI E 4098 (fun _ => 0)), ((ad 6), aJ E 12294 (fun _ => 0)), ((ad 7), ob 0 [.ref (ad 8), .ref (ad 10), .ref (ad 12), .ref (ad 14), .ref (ad 15), .ref (ad 16), .ref (ad 17), .ref (ad 18), .ref (ad 19), .ref (ad 20), .ref (ad 21), .ref (ad 22), .ref (ad 23), .ref (ad 24), .ref (ad 25), .ref (ad 26), .int 0, .ref (ad 27), .int 0, .int 0]), ((ad 8), ob 6 [.ref (ad 9), .int (nI 40), .int 0]), ((ad 9), aJ E 120 (fun _ => 0)), ((ad 10), ob 6 [.ref (ad 11), .int (nI 100), .int 0]), ((ad 11), aJ E 300 (fun _ => 0)), ((ad 12), ob 6 [.ref (ad 13), .int (nI 60), .int 0]), ((ad 13), aJ E 180 (fun _ => 0)), ((ad 14), aI E 40 (fun _ => 0)), ((ad 15), aI E 1280 (fun _ => 0)), ((ad 16), aI E 1280 (fun _ => 0)), ((ad 17), aI E 320 (fun _ => 0)), ((ad 18), aI E 100 (fun _ => 0)), ((ad 19), aI E 100 (fun _ => 0)), ((ad 20), aI E 100 (fun _ => 0)), ((ad 21), aI E 800 (fun _ => 0)), ((ad 22), aI E 800 (fun _ => 0)), ((ad 23), aI E 800 (fun _ => 0)), ((ad 24), aI E 60 (fun _ => 0)), ((ad 25), aI E 32 (fun _ => 0)), ((ad 26), aI E 32 (fun _ => 0)), ((ad 27), aI E 10098 (fun _ => 0)), ((ad 28), ob 7 [.ref (ad 0), .ref (ad 7), .int 0, .int 0, .int 0, .int 0, .int 0, .int 0, .int 0, .int 0, .int 0, .int 0, .ref (ad 29)]), ((ad 29), aI E 6 (fun _ => 0)), ((ad 30), ob 1 [.ref (ad 7), .ref (ad 40), .ref (ad 31), .ref (ad 32), .ref (ad 33), .ref (ad 34), .ref (ad 35), .ref (ad 36), .ref (ad 37), .ref (ad 38), .ref (ad 39), .int 0, .int 0, .int 0, .int 0, .int 0, .int 0]), ((ad 31), aJ E 96 (fun _ => 0)), ((ad 32), aJ E 4 (fun _ => 0)), ((ad 33), aI E 4 (fun _ => 0)), ((ad 34), aI E 64 (fun _ => 0)), ((ad 35), aI E 64 (fun _ => 0)), ((ad 36), aI E 64 (fun _ => 0)), ((ad 37), aI E 64 (fun _ => 0)), ((ad 38), aI E 512 (fun _ => 0)), ((ad 39), aI E 4096 (fun _ => 0)), ((ad 40), ob 2 [.ref (ad 7), .ref (ad 41), .ref (ad 42), .null, .int 0, .long 0, .ref (ad 43), .ref (ad 44), .ref (ad 45), .int 0]), ((ad 41), aB E 2560 (fun _ => 0)), ((ad 42), aB E 40 (fun _ => 0)), ((ad 43), aI E 65 (fun _ => 0)), ((ad 44), aI E 65 (fun _ => 0)), ((ad 45), aJ E 65 (fun _ => 0)), ((ad 46), ob 3 [.ref (ad 47), .ref (ad 48), .ref (ad 49), .ref (ad 50), .ref (ad 51), .ref (ad 52), .ref (ad 53), .ref (ad 54), .int 0, .int 0]), ((ad 47), aI E 64 (fun _ => 0)), ((ad 48), aI E 64 (fun _ => 0)), ((ad 49), aI E 64 (fun _ => 0)), ((ad 50), aI E 64 (fun _ => 0)), ((ad 51), aI E 64 (fun _ => 0)), ((ad 52), aI E 64 (fun _ => 0)), ((ad 53), aJ E 4 (fun _ => 0)), ((ad 54), aB E 4096 (fun _ => 0)), ((ad 55), ob 8 [.ref (ad 7), .ref (ad 30), .int 0, .int 0, .long 0, .ref (ad 56), .int 0, .int 0, .int 0, .int 0, .int 0]), ((ad 56), aJ E 1500 (fun _ => 0)), ((ad 57), ob 8 [.ref (ad 7), .ref (ad 30), .int 0, .int 0, .long 0, .ref (ad 58), .int 0, .int 0, .int 0, .int 0, .int 0]), ((ad 58), aJ E 1500 (fun _ => 0)), ((ad 59), ob 4 [.ref (ad 60), .int 0, .int 0]), ((ad 60), aQ E 201 (fun _ => none)), ((ad 61), ob 9 [.ref (ad 7), .ref (ad 30), .ref (ad 46), .ref (ad 62), .ref (ad 63), .ref (ad 64), .ref (ad 65), .ref (ad 66), .ref (ad 67), .ref (ad 68), .ref (ad 69), .int 0, .int 0, .int 0, .int (-1), .ref (ad 70), .int 0, .int 0]), ((ad 62), aJ E 6000 (fun _ => 0)), ((ad 63), aS E 4096 (fun _ => 0)), ((ad 64), aS E 64000 (fun _ => 0)), ((ad 65), aI E 15 (fun _ => 0)), ((ad 66), aJ E 2000 (fun _ => 0)), ((ad 67), aI E 2000 (fun _ => 0)), ((ad 68), aJ E 3 (fun _ => 0)), ((ad 69), aI E 16 (fun _ => 0)), ((ad 70), aI E 12 (fun _ => 0)), ((ad 71), aI E 64 gt), ((ad 72), aI E 64 gh), ((ad 73), aI E 64 (fun j => nI (srtO (cdLt (stC 0)) (fun _ => 0) (2 * 4) j))), ((ad 74), aJ E 4 (faOf (stC 0) (2 * 4))), ((ad 75), aB E 4096 (seatOf (stC 0) (2 * 4))), ((ad 76), ob 3 [.ref (ad 77), .ref (ad 78), .ref (ad 79), .ref (ad 71), .ref (ad 72), .ref (ad 73), .ref (ad 74), .ref (ad 75), .int (nI (2 * 4)), .int v2]), ((ad 77), aI E 64 gx), ((ad 78), aI E 64 gy), ((ad 79), aI E 64 gf), ((ad 80), aI E 64 gc), (q_1294, ob 12 [.null, .int 0, .int 0, .int 0, .int 0, .int 0, .int 0, .int 0, .int 0, .null, .null, .null, .null, .int 0, .int 0, .int 0, .int 0, .int 0, .null, .null, .null, .null, .null, .null, .null, .null, .null, .null, .null, .null, .null, .null, .null, .int 0, .int 0, .int 0, .int 0, .int 0, .null, .null, .null, .null, .int 0, .int 0, .null, .null, .null, .null, .null, .null, .int 0, .int 0, .int 0, .int 0, .int 0, .null, .null, .null, .null, .int 0, .int 0, .null, .null, .null, .null, .null, .null, .int 0, .int 0, .int 0, .int 0, .int 0, .int 0, .null, .null, .int 0, .null, .null, .null, .null, .null, .null, .int 0, .int 0, .int 0, .int 0, .null, .null, .int 0, .int 0, .int 0, .int 0, .null, .null, .null, .null, .null, .null, .int 0, .int 0, .long 0, .int 0, .int 0, .null, .null, .null, .null, .null, .null, .null, .int 0, .int 0, .int 0, .int 0, .int 0, .int 0])] H := hP
  have hD : va_D (fun q : Nat => s.heap.size ≤ q) [(q_1291, ob 11 [.ref (ad 0), .ref (ad 7), .ref (ad 28), .ref (ad 30), .ref (ad 76), .ref (ad 46), .ref (ad 55), .ref (ad 57), .ref (ad 59), .ref (ad 61), .ref (ad 80), .int 0, .int 0, .int 0, .int (-1), .int (-1), .int (-1)]), ((ad 0), ob 10 [.ref (ad 1), .int 0, .ref (ad 2), .ref (ad 3), .ref (ad 4), .ref (ad 5), .ref (ad 6), .int 0]), ((ad 1), aB E 4096 (fun _ => 0)), ((ad 2), aJ E 38 (kwG 182)), ((ad 3), aI E 4098 (fun _ => 0)), ((ad 4), aI E 4098 (fun _ => 0)), ((ad 5), aI E 4098 (fun _ => 0)), ((ad 6), aJ E 12294 (fun _ => 0)), ((ad 7), ob 0 [.ref (ad 8), .ref (ad 10), .ref (ad 12), .ref (ad 14), .ref (ad 15), .ref (ad 16), .ref (ad 17), .ref (ad 18), .ref (ad 19), .ref (ad 20), .ref (ad 21), .ref (ad 22), .ref (ad 23), .ref (ad 24), .ref (ad 25), .ref (ad 26), .int 0, .ref (ad 27), .int 0, .int 0]), ((ad 8), ob 6 [.ref (ad 9), .int (nI 40), .int 0]), ((ad 9), aJ E 120 (fun _ => 0)), ((ad 10), ob 6 [.ref (ad 11), .int (nI 100), .int 0]), ((ad 11), aJ E 300 (fun _ => 0)), ((ad 12), ob 6 [.ref (ad 13), .int (nI 60), .int 0]), ((ad 13), aJ E 180 (fun _ => 0)), ((ad 14), aI E 40 (fun _ => 0)), ((ad 15), aI E 1280 (fun _ => 0)), ((ad 16), aI E 1280 (fun _ => 0)), ((ad 17), aI E 320 (fun _ => 0)), ((ad 18), aI E 100 (fun _ => 0)), ((ad 19), aI E 100 (fun _ => 0)), ((ad 20), aI E 100 (fun _ => 0)), ((ad 21), aI E 800 (fun _ => 0)), ((ad 22), aI E 800 (fun _ => 0)), ((ad 23), aI E 800 (fun _ => 0)), ((ad 24), aI E 60 (fun _ => 0)), ((ad 25), aI E 32 (fun _ => 0)), ((ad 26), aI E 32 (fun _ => 0)), ((ad 27), aI E 10098 (fun _ => 0)), ((ad 28), ob 7 [.ref (ad 0), .ref (ad 7), .int 0, .int 0, .int 0, .int 0, .int 0, .int 0, .int 0, .int 0, .int 0, .int 0, .ref (ad 29)]), ((ad 29), aI E 6 (fun _ => 0)), ((ad 30), ob 1 [.ref (ad 7), .ref (ad 40), .ref (ad 31), .ref (ad 32), .ref (ad 33), .ref (ad 34), .ref (ad 35), .ref (ad 36), .ref (ad 37), .ref (ad 38), .ref (ad 39), .int 0, .int 0, .int 0, .int 0, .int 0, .int 0]), ((ad 31), aJ E 96 (fun _ => 0)), ((ad 32), aJ E 4 (fun _ => 0)), ((ad 33), aI E 4 (fun _ => 0)), ((ad 34), aI E 64 (fun _ => 0)), ((ad 35), aI E 64 (fun _ => 0)), ((ad 36), aI E 64 (fun _ => 0)), ((ad 37), aI E 64 (fun _ => 0)), ((ad 38), aI E 512 (fun _ => 0)), ((ad 39), aI E 4096 (fun _ => 0)), ((ad 40), ob 2 [.ref (ad 7), .ref (ad 41), .ref (ad 42), .null, .int 0, .long 0, .ref (ad 43), .ref (ad 44), .ref (ad 45), .int 0]), ((ad 41), aB E 2560 (fun _ => 0)), ((ad 42), aB E 40 (fun _ => 0)), ((ad 43), aI E 65 (fun _ => 0)), ((ad 44), aI E 65 (fun _ => 0)), ((ad 45), aJ E 65 (fun _ => 0)), ((ad 46), ob 3 [.ref (ad 47), .ref (ad 48), .ref (ad 49), .ref (ad 50), .ref (ad 51), .ref (ad 52), .ref (ad 53), .ref (ad 54), .int 0, .int 0]), ((ad 47), aI E 64 (fun _ => 0)), ((ad 48), aI E 64 (fun _ => 0)), ((ad 49), aI E 64 (fun _ => 0)), ((ad 50), aI E 64 (fun _ => 0)), ((ad 51), aI E 64 (fun _ => 0)), ((ad 52), aI E 64 (fun _ => 0)), ((ad 53), aJ E 4 (fun _ => 0)), ((ad 54), aB E 4096 (fun _ => 0)), ((ad 55), ob 8 [.ref (ad 7), .ref (ad 30), .int 0, .int 0, .long 0, .ref (ad 56), .int 0, .int 0, .int 0, .int 0, .int 0]), ((ad 56), aJ E 1500 (fun _ => 0)), ((ad 57), ob 8 [.ref (ad 7), .ref (ad 30), .int 0, .int 0, .long 0, .ref (ad 58), .int 0, .int 0, .int 0, .int 0, .int 0]), ((ad 58), aJ E 1500 (fun _ => 0)), ((ad 59), ob 4 [.ref (ad 60), .int 0, .int 0]), ((ad 60), aQ E 201 (fun _ => none)), ((ad 61), ob 9 [.ref (ad 7), .ref (ad 30), .ref (ad 46), .ref (ad 62), .ref (ad 63), .ref (ad 64), .ref (ad 65), .ref (ad 66), .ref (ad 67), .ref (ad 68), .ref (ad 69), .int 0, .int 0, .int 0, .int (-1), .ref (ad 70), .int 0, .int 0]), ((ad 62), aJ E 6000 (fun _ => 0)), ((ad 63), aS E 4096 (fun _ => 0)), ((ad 64), aS E 64000 (fun _ => 0)), ((ad 65), aI E 15 (fun _ => 0)), ((ad 66), aJ E 2000 (fun _ => 0)), ((ad 67), aI E 2000 (fun _ => 0)), ((ad 68), aJ E 3 (fun _ => 0)), ((ad 69), aI E 16 (fun _ => 0)), ((ad 70), aI E 12 (fun _ => 0)), ((ad 71), aI E 64 gt), ((ad 72), aI E 64 gh), ((ad 73), aI E 64 (fun j => nI (srtO (cdLt (stC 0)) (fun _ => 0) (2 * 4) j))), ((ad 74), aJ E 4 (faOf (stC 0) (2 * 4))), ((ad 75), aB E 4096 (seatOf (stC 0) (2 * 4))), ((ad 76), ob 3 [.ref (ad 77), .ref (ad 78), .ref (ad 79), .ref (ad 71), .ref (ad 72), .ref (ad 73), .ref (ad 74), .ref (ad 75), .int (nI (2 * 4)), .int v2]), ((ad 77), aI E 64 gx), ((ad 78), aI E 64 gy), ((ad 79), aI E 64 gf), ((ad 80), aI E 64 gc), (q_1294, ob 12 [.null, .int 0, .int 0, .int 0, .int 0, .int 0, .int 0, .int 0, .int 0, .null, .null, .null, .null, .int 0, .int 0, .int 0, .int 0, .int 0, .null, .null, .null, .null, .null, .null, .null, .null, .null, .null, .null, .null, .null, .null, .null, .int 0, .int 0, .int 0, .int 0, .int 0, .null, .null, .null, .null, .int 0, .int 0, .null, .null, .null, .null, .null, .null, .int 0, .int 0, .int 0, .int 0, .int 0, .null, .null, .null, .null, .int 0, .int 0, .null, .null, .null, .null, .null, .null, .int 0, .int 0, .int 0, .int 0, .int 0, .int 0, .null, .null, .int 0, .null, .null, .null, .null, .null, .null, .int 0, .int 0, .int 0, .int 0, .null, .null, .int 0, .int 0, .int 0, .int 0, .null, .null, .null, .null, .null, .null, .int 0, .int 0, .long 0, .int 0, .int 0, .null, .null, .null, .null, .null, .null, .null, .int 0, .int 0, .int 0, .int 0, .int 0, .int 0])] := hD
  refine W.widen (k := 83) (n := 143581) (by decide) (by decide) ?_
  have hP : va_P E.1 vwCl [(q_1291, ob 11 [.ref (ad 0), .ref (ad 7), .ref (ad 28), .ref (ad 30), .ref (ad 76), .ref (ad 46), .ref (ad 55), .ref (ad 57), .ref (ad 59), .ref (ad 61), .ref (ad 80), .int 0, .int 0, .int 0, .int (-1), .int (-1), .int (-1)]), ((ad 0), ob 10 [.ref (ad 1), .int 0, .ref (ad 2), .ref (ad 3), .ref (ad 4), .ref (ad 5), .ref (ad 6), .int 0]), ((ad 1), aB E 4096 (fun _ => 0)), ((ad 2), aJ E 38 (kwG 182)), ((ad 3), aI E 4098 (fun _ => 0)), ((ad 4), aI E 4098 (fun _ => 0)), ((ad 5), aI E 4098 (fun _ => 0)), ((ad 6), aJ E 12294 (fun _ => 0)), ((ad 7), ob 0 [.ref (ad 8), .ref (ad 10), .ref (ad 12), .ref (ad 14), .ref (ad 15), .ref (ad 16), .ref (ad 17), .ref (ad 18), .ref (ad 19), .ref (ad 20), .ref (ad 21), .ref (ad 22), .ref (ad 23), .ref (ad 24), .ref (ad 25), .ref (ad 26), .int 0, .ref (ad 27), .int 0, .int 0]), ((ad 8), ob 6 [.ref (ad 9), .int (nI 40), .int 0]), ((ad 9), aJ E 120 (fun _ => 0)), ((ad 10), ob 6 [.ref (ad 11), .int (nI 100), .int 0]), ((ad 11), aJ E 300 (fun _ => 0)), ((ad 12), ob 6 [.ref (ad 13), .int (nI 60), .int 0]), ((ad 13), aJ E 180 (fun _ => 0)), ((ad 14), aI E 40 (fun _ => 0)), ((ad 15), aI E 1280 (fun _ => 0)), ((ad 16), aI E 1280 (fun _ => 0)), ((ad 17), aI E 320 (fun _ => 0)), ((ad 18), aI E 100 (fun _ => 0)), ((ad 19), aI E 100 (fun _ => 0)), ((ad 20), aI E 100 (fun _ => 0)), ((ad 21), aI E 800 (fun _ => 0)), ((ad 22), aI E 800 (fun _ => 0)), ((ad 23), aI E 800 (fun _ => 0)), ((ad 24), aI E 60 (fun _ => 0)), ((ad 25), aI E 32 (fun _ => 0)), ((ad 26), aI E 32 (fun _ => 0)), ((ad 27), aI E 10098 (fun _ => 0)), ((ad 28), ob 7 [.ref (ad 0), .ref (ad 7), .int 0, .int 0, .int 0, .int 0, .int 0, .int 0, .int 0, .int 0, .int 0, .int 0, .ref (ad 29)]), ((ad 29), aI E 6 (fun _ => 0)), ((ad 30), ob 1 [.ref (ad 7), .ref (ad 40), .ref (ad 31), .ref (ad 32), .ref (ad 33), .ref (ad 34), .ref (ad 35), .ref (ad 36), .ref (ad 37), .ref (ad 38), .ref (ad 39), .int 0, .int 0, .int 0, .int 0, .int 0, .int 0]), ((ad 31), aJ E 96 (fun _ => 0)), ((ad 32), aJ E 4 (fun _ => 0)), ((ad 33), aI E 4 (fun _ => 0)), ((ad 34), aI E 64 (fun _ => 0)), ((ad 35), aI E 64 (fun _ => 0)), ((ad 36), aI E 64 (fun _ => 0)), ((ad 37), aI E 64 (fun _ => 0)), ((ad 38), aI E 512 (fun _ => 0)), ((ad 39), aI E 4096 (fun _ => 0)), ((ad 40), ob 2 [.ref (ad 7), .ref (ad 41), .ref (ad 42), .null, .int 0, .long 0, .ref (ad 43), .ref (ad 44), .ref (ad 45), .int 0]), ((ad 41), aB E 2560 (fun _ => 0)), ((ad 42), aB E 40 (fun _ => 0)), ((ad 43), aI E 65 (fun _ => 0)), ((ad 44), aI E 65 (fun _ => 0)), ((ad 45), aJ E 65 (fun _ => 0)), ((ad 46), ob 3 [.ref (ad 47), .ref (ad 48), .ref (ad 49), .ref (ad 50), .ref (ad 51), .ref (ad 52), .ref (ad 53), .ref (ad 54), .int 0, .int 0]), ((ad 47), aI E 64 (fun _ => 0)), ((ad 48), aI E 64 (fun _ => 0)), ((ad 49), aI E 64 (fun _ => 0)), ((ad 50), aI E 64 (fun _ => 0)), ((ad 51), aI E 64 (fun _ => 0)), ((ad 52), aI E 64 (fun _ => 0)), ((ad 53), aJ E 4 (fun _ => 0)), ((ad 54), aB E 4096 (fun _ => 0)), ((ad 55), ob 8 [.ref (ad 7), .ref (ad 30), .int 0, .int 0, .long 0, .ref (ad 56), .int 0, .int 0, .int 0, .int 0, .int 0]), ((ad 56), aJ E 1500 (fun _ => 0)), ((ad 57), ob 8 [.ref (ad 7), .ref (ad 30), .int 0, .int 0, .long 0, .ref (ad 58), .int 0, .int 0, .int 0, .int 0, .int 0]), ((ad 58), aJ E 1500 (fun _ => 0)), ((ad 59), ob 4 [.ref (ad 60), .int 0, .int 0]), ((ad 60), aQ E 201 (fun _ => none)), ((ad 61), ob 9 [.ref (ad 7), .ref (ad 30), .ref (ad 46), .ref (ad 62), .ref (ad 63), .ref (ad 64), .ref (ad 65), .ref (ad 66), .ref (ad 67), .ref (ad 68), .ref (ad 69), .int 0, .int 0, .int 0, .int (-1), .ref (ad 70), .int 0, .int 0]), ((ad 62), aJ E 6000 (fun _ => 0)), ((ad 63), aS E 4096 (fun _ => 0)), ((ad 64), aS E 64000 (fun _ => 0)), ((ad 65), aI E 15 (fun _ => 0)), ((ad 66), aJ E 2000 (fun _ => 0)), ((ad 67), aI E 2000 (fun _ => 0)), ((ad 68), aJ E 3 (fun _ => 0)), ((ad 69), aI E 16 (fun _ => 0)), ((ad 70), aI E 12 (fun _ => 0)), ((ad 71), aI E 64 gt), ((ad 72), aI E 64 gh), ((ad 73), aI E 64 (fun j => nI (srtO (cdLt (stC 0)) (fun _ => 0) (2 * 4) j))), ((ad 74), aJ E 4 (faOf (stC 0) (2 * 4))), ((ad 75), aB E 4096 (seatOf (stC 0) (2 * 4))), ((ad 76), ob 3 [.ref (ad 77), .ref (ad 78), .ref (ad 79), .ref (ad 71), .ref (ad 72), .ref (ad 73), .ref (ad 74), .ref (ad 75), .int (nI (2 * 4)), .int v2]), ((ad 77), aI E 64 gx), ((ad 78), aI E 64 gy), ((ad 79), aI E 64 gf), ((ad 80), aI E 64 gc), (q_1294, ob 12 (mfs mD))] H := hP
  have hD : va_D (fun q : Nat => s.heap.size ≤ q) [(q_1291, ob 11 [.ref (ad 0), .ref (ad 7), .ref (ad 28), .ref (ad 30), .ref (ad 76), .ref (ad 46), .ref (ad 55), .ref (ad 57), .ref (ad 59), .ref (ad 61), .ref (ad 80), .int 0, .int 0, .int 0, .int (-1), .int (-1), .int (-1)]), ((ad 0), ob 10 [.ref (ad 1), .int 0, .ref (ad 2), .ref (ad 3), .ref (ad 4), .ref (ad 5), .ref (ad 6), .int 0]), ((ad 1), aB E 4096 (fun _ => 0)), ((ad 2), aJ E 38 (kwG 182)), ((ad 3), aI E 4098 (fun _ => 0)), ((ad 4), aI E 4098 (fun _ => 0)), ((ad 5), aI E 4098 (fun _ => 0)), ((ad 6), aJ E 12294 (fun _ => 0)), ((ad 7), ob 0 [.ref (ad 8), .ref (ad 10), .ref (ad 12), .ref (ad 14), .ref (ad 15), .ref (ad 16), .ref (ad 17), .ref (ad 18), .ref (ad 19), .ref (ad 20), .ref (ad 21), .ref (ad 22), .ref (ad 23), .ref (ad 24), .ref (ad 25), .ref (ad 26), .int 0, .ref (ad 27), .int 0, .int 0]), ((ad 8), ob 6 [.ref (ad 9), .int (nI 40), .int 0]), ((ad 9), aJ E 120 (fun _ => 0)), ((ad 10), ob 6 [.ref (ad 11), .int (nI 100), .int 0]), ((ad 11), aJ E 300 (fun _ => 0)), ((ad 12), ob 6 [.ref (ad 13), .int (nI 60), .int 0]), ((ad 13), aJ E 180 (fun _ => 0)), ((ad 14), aI E 40 (fun _ => 0)), ((ad 15), aI E 1280 (fun _ => 0)), ((ad 16), aI E 1280 (fun _ => 0)), ((ad 17), aI E 320 (fun _ => 0)), ((ad 18), aI E 100 (fun _ => 0)), ((ad 19), aI E 100 (fun _ => 0)), ((ad 20), aI E 100 (fun _ => 0)), ((ad 21), aI E 800 (fun _ => 0)), ((ad 22), aI E 800 (fun _ => 0)), ((ad 23), aI E 800 (fun _ => 0)), ((ad 24), aI E 60 (fun _ => 0)), ((ad 25), aI E 32 (fun _ => 0)), ((ad 26), aI E 32 (fun _ => 0)), ((ad 27), aI E 10098 (fun _ => 0)), ((ad 28), ob 7 [.ref (ad 0), .ref (ad 7), .int 0, .int 0, .int 0, .int 0, .int 0, .int 0, .int 0, .int 0, .int 0, .int 0, .ref (ad 29)]), ((ad 29), aI E 6 (fun _ => 0)), ((ad 30), ob 1 [.ref (ad 7), .ref (ad 40), .ref (ad 31), .ref (ad 32), .ref (ad 33), .ref (ad 34), .ref (ad 35), .ref (ad 36), .ref (ad 37), .ref (ad 38), .ref (ad 39), .int 0, .int 0, .int 0, .int 0, .int 0, .int 0]), ((ad 31), aJ E 96 (fun _ => 0)), ((ad 32), aJ E 4 (fun _ => 0)), ((ad 33), aI E 4 (fun _ => 0)), ((ad 34), aI E 64 (fun _ => 0)), ((ad 35), aI E 64 (fun _ => 0)), ((ad 36), aI E 64 (fun _ => 0)), ((ad 37), aI E 64 (fun _ => 0)), ((ad 38), aI E 512 (fun _ => 0)), ((ad 39), aI E 4096 (fun _ => 0)), ((ad 40), ob 2 [.ref (ad 7), .ref (ad 41), .ref (ad 42), .null, .int 0, .long 0, .ref (ad 43), .ref (ad 44), .ref (ad 45), .int 0]), ((ad 41), aB E 2560 (fun _ => 0)), ((ad 42), aB E 40 (fun _ => 0)), ((ad 43), aI E 65 (fun _ => 0)), ((ad 44), aI E 65 (fun _ => 0)), ((ad 45), aJ E 65 (fun _ => 0)), ((ad 46), ob 3 [.ref (ad 47), .ref (ad 48), .ref (ad 49), .ref (ad 50), .ref (ad 51), .ref (ad 52), .ref (ad 53), .ref (ad 54), .int 0, .int 0]), ((ad 47), aI E 64 (fun _ => 0)), ((ad 48), aI E 64 (fun _ => 0)), ((ad 49), aI E 64 (fun _ => 0)), ((ad 50), aI E 64 (fun _ => 0)), ((ad 51), aI E 64 (fun _ => 0)), ((ad 52), aI E 64 (fun _ => 0)), ((ad 53), aJ E 4 (fun _ => 0)), ((ad 54), aB E 4096 (fun _ => 0)), ((ad 55), ob 8 [.ref (ad 7), .ref (ad 30), .int 0, .int 0, .long 0, .ref (ad 56), .int 0, .int 0, .int 0, .int 0, .int 0]), ((ad 56), aJ E 1500 (fun _ => 0)), ((ad 57), ob 8 [.ref (ad 7), .ref (ad 30), .int 0, .int 0, .long 0, .ref (ad 58), .int 0, .int 0, .int 0, .int 0, .int 0]), ((ad 58), aJ E 1500 (fun _ => 0)), ((ad 59), ob 4 [.ref (ad 60), .int 0, .int 0]), ((ad 60), aQ E 201 (fun _ => none)), ((ad 61), ob 9 [.ref (ad 7), .ref (ad 30), .ref (ad 46), .ref (ad 62), .ref (ad 63), .ref (ad 64), .ref (ad 65), .ref (ad 66), .ref (ad 67), .ref (ad 68), .ref (ad 69), .int 0, .int 0, .int 0, .int (-1), .ref (ad 70), .int 0, .int 0]), ((ad 62), aJ E 6000 (fun _ => 0)), ((ad 63), aS E 4096 (fun _ => 0)), ((ad 64), aS E 64000 (fun _ => 0)), ((ad 65), aI E 15 (fun _ => 0)), ((ad 66), aJ E 2000 (fun _ => 0)), ((ad 67), aI E 2000 (fun _ => 0)), ((ad 68), aJ E 3 (fun _ => 0)), ((ad 69), aI E 16 (fun _ => 0)), ((ad 70), aI E 12 (fun _ => 0)), ((ad 71), aI E 64 gt), ((ad 72), aI E 64 gh), ((ad 73), aI E 64 (fun j => nI (srtO (cdLt (stC 0)) (fun _ => 0) (2 * 4) j))), ((ad 74), aJ E 4 (faOf (stC 0) (2 * 4))), ((ad 75), aB E 4096 (seatOf (stC 0) (2 * 4))), ((ad 76), ob 3 [.ref (ad 77), .ref (ad 78), .ref (ad 79), .ref (ad 71), .ref (ad 72), .ref (ad 73), .ref (ad 74), .ref (ad 75), .int (nI (2 * 4)), .int v2]), ((ad 77), aI E 64 gx), ((ad 78), aI E 64 gy), ((ad 79), aI E 64 gf), ((ad 80), aI E 64 gc), (q_1294, ob 12 (mfs mD))] := hD
  refine lv_dup hx hb dL_law_11 rfl ?_
  refine cV_go (wr := [(q_1291, ob 11 [.ref (ad 0), .ref (ad 7), .ref (ad 28), .ref (ad 30), .ref (ad 76), .ref (ad 46), .ref (ad 55), .ref (ad 57), .ref (ad 59), .ref (ad 61), .ref (ad 80), .int 0, .int 0, .int 0, .int (-1), .int (-1), .int (-1)]), ((ad 0), ob 10 [.ref (ad 1), .int 0, .ref (ad 2), .ref (ad 3), .ref (ad 4), .ref (ad 5), .ref (ad 6), .int 0]), ((ad 1), aB E 4096 (fun _ => 0)), ((ad 2), aJ E 38 (kwG 182)), ((ad 3), aI E 4098 (fun _ => 0)), ((ad 4), aI E 4098 (fun _ => 0)), ((ad 5), aI E 4098 (fun _ => 0)), ((ad 6), aJ E 12294 (fun _ => 0)), ((ad 7), ob 0 [.ref (ad 8), .ref (ad 10), .ref (ad 12), .ref (ad 14), .ref (ad 15), .ref (ad 16), .ref (ad 17), .ref (ad 18), .ref (ad 19), .ref (ad 20), .ref (ad 21), .ref (ad 22), .ref (ad 23), .ref (ad 24), .ref (ad 25), .ref (ad 26), .int 0, .ref (ad 27), .int 0, .int 0]), ((ad 8), ob 6 [.ref (ad 9), .int (nI 40), .int 0]), ((ad 9), aJ E 120 (fun _ => 0)), ((ad 10), ob 6 [.ref (ad 11), .int (nI 100), .int 0]), ((ad 11), aJ E 300 (fun _ => 0)), ((ad 12), ob 6 [.ref (ad 13), .int (nI 60), .int 0]), ((ad 13), aJ E 180 (fun _ => 0)), ((ad 14), aI E 40 (fun _ => 0)), ((ad 15), aI E 1280 (fun _ => 0)), ((ad 16), aI E 1280 (fun _ => 0)), ((ad 17), aI E 320 (fun _ => 0)), ((ad 18), aI E 100 (fun _ => 0)), ((ad 19), aI E 100 (fun _ => 0)), ((ad 20), aI E 100 (fun _ => 0)), ((ad 21), aI E 800 (fun _ => 0)), ((ad 22), aI E 800 (fun _ => 0)), ((ad 23), aI E 800 (fun _ => 0)), ((ad 24), aI E 60 (fun _ => 0)), ((ad 25), aI E 32 (fun _ => 0)), ((ad 26), aI E 32 (fun _ => 0)), ((ad 27), aI E 10098 (fun _ => 0)), ((ad 28), ob 7 [.ref (ad 0), .ref (ad 7), .int 0, .int 0, .int 0, .int 0, .int 0, .int 0, .int 0, .int 0, .int 0, .int 0, .ref (ad 29)]), ((ad 29), aI E 6 (fun _ => 0)), ((ad 30), ob 1 [.ref (ad 7), .ref (ad 40), .ref (ad 31), .ref (ad 32), .ref (ad 33), .ref (ad 34), .ref (ad 35), .ref (ad 36), .ref (ad 37), .ref (ad 38), .ref (ad 39), .int 0, .int 0, .int 0, .int 0, .int 0, .int 0]), ((ad 31), aJ E 96 (fun _ => 0)), ((ad 32), aJ E 4 (fun _ => 0)), ((ad 33), aI E 4 (fun _ => 0)), ((ad 34), aI E 64 (fun _ => 0)), ((ad 35), aI E 64 (fun _ => 0)), ((ad 36), aI E 64 (fun _ => 0)), ((ad 37), aI E 64 (fun _ => 0)), ((ad 38), aI E 512 (fun _ => 0)), ((ad 39), aI E 4096 (fun _ => 0)), ((ad 40), ob 2 [.ref (ad 7), .ref (ad 41), .ref (ad 42), .null, .int 0, .long 0, .ref (ad 43), .ref (ad 44), .ref (ad 45), .int 0]), ((ad 41), aB E 2560 (fun _ => 0)), ((ad 42), aB E 40 (fun _ => 0)), ((ad 43), aI E 65 (fun _ => 0)), ((ad 44), aI E 65 (fun _ => 0)), ((ad 45), aJ E 65 (fun _ => 0)), ((ad 46), ob 3 [.ref (ad 47), .ref (ad 48), .ref (ad 49), .ref (ad 50), .ref (ad 51), .ref (ad 52), .ref (ad 53), .ref (ad 54), .int 0, .int 0]), ((ad 47), aI E 64 (fun _ => 0)), ((ad 48), aI E 64 (fun _ => 0)), ((ad 49), aI E 64 (fun _ => 0)), ((ad 50), aI E 64 (fun _ => 0)), ((ad 51), aI E 64 (fun _ => 0)), ((ad 52), aI E 64 (fun _ => 0)), ((ad 53), aJ E 4 (fun _ => 0)), ((ad 54), aB E 4096 (fun _ => 0)), ((ad 55), ob 8 [.ref (ad 7), .ref (ad 30), .int 0, .int 0, .long 0, .ref (ad 56), .int 0, .int 0, .int 0, .int 0, .int 0]), ((ad 56), aJ E 1500 (fun _ => 0)), ((ad 57), ob 8 [.ref (ad 7), .ref (ad 30), .int 0, .int 0, .long 0, .ref (ad 58), .int 0, .int 0, .int 0, .int 0, .int 0]), ((ad 58), aJ E 1500 (fun _ => 0)), ((ad 59), ob 4 [.ref (ad 60), .int 0, .int 0]), ((ad 60), aQ E 201 (fun _ => none)), ((ad 61), ob 9 [.ref (ad 7), .ref (ad 30), .ref (ad 46), .ref (ad 62), .ref (ad 63), .ref (ad 64), .ref (ad 65), .ref (ad 66), .ref (ad 67), .ref (ad 68), .ref (ad 69), .int 0, .int 0, .int 0, .int (-1), .ref (ad 70), .int 0, .int 0]), ((ad 62), aJ E 6000 (fun _ => 0)), ((ad 63), aS E 4096 (fun _ => 0)), ((ad 64), aS E 64000 (fun _ => 0)), ((ad 65), aI E 15 (fun _ => 0)), ((ad 66), aJ E 2000 (fun _ => 0)), ((ad 67), aI E 2000 (fun _ => 0)), ((ad 68), aJ E 3 (fun _ => 0)), ((ad 69), aI E 16 (fun _ => 0)), ((ad 70), aI E 12 (fun _ => 0)), ((ad 71), aI E 64 gt), ((ad 72), aI E 64 gh), ((ad 73), aI E 64 (fun j => nI (srtO (cdLt (stC 0)) (fun _ => 0) (2 * 4) j))), ((ad 74), aJ E 4 (faOf (stC 0) (2 * 4))), ((ad 75), aB E 4096 (seatOf (stC 0) (2 * 4))), ((ad 76), ob 3 [.ref (ad 77), .ref (ad 78), .ref (ad 79), .ref (ad 71), .ref (ad 72), .ref (ad 73), .ref (ad 74), .ref (ad 75), .int (nI (2 * 4)), .int v2]), ((ad 77), aI E 64 gx), ((ad 78), aI E 64 gy), ((ad 79), aI E 64 gf), ((ad 80), aI E 64 gc)]) (cM_runI (As := []) (rest := [.ref q_1294]) F (c_X12_init l E q_1294) yy_X12_init wdN_X12_init rfl wdM_RL_12 hP hD hS hK hZ hA [82] rfl rfl rfl hl.1 rfl (Nat.le_of_ble_eq_true rfl) dL_law_12 ⟨by decide, by decide⟩ ⟨by decide, by decide⟩) hP hD hS hA [82] [0, 1, 2, 3, 4, 5, 6, 7, 8, 9, 10, 11, 12, 13, 14, 15, 16, 17, 18, 19, 20, 21, 22, 23, 24, 25, 26, 27, 28, 29, 30, 31, 32, 33, 34, 35, 36, 37, 38, 39, 40, 41, 42, 43, 44, 45, 46, 47, 48, 49, 50, 51, 52, 53, 54, 55, 56, 57, 58, 59, 60, 61, 62, 63, 64, 65, 66, 67, 68, 69, 70, 71, 72, 73, 74, 75, 76, 77, 78, 79, 80, 81] rfl rfl rfl (by decide) (fun u_1295 H locs hwM hP hD hS => ?_)
  obtain ⟨r, g, kx, ky, kw, kt, fx, fy, fw, bx, by_, bw⟩ := u_1295
  try dsimp only at hwM
  have hP : va_P E.1 vwCl [(q_1291, ob 11 [.ref (ad 0), .ref (ad 7), .ref (ad 28), .ref (ad 30), .ref (ad 76), .ref (ad 46), .ref (ad 55), .ref (ad 57), .ref (ad 59), .ref (ad 61), .ref (ad 80), .int 0, .int 0, .int 0, .int (-1), .int (-1), .int (-1)]), ((ad 0), ob 10 [.ref (ad 1), .int 0, .ref (ad 2), .ref (ad 3), .ref (ad 4), .ref (ad 5), .ref (ad 6), .int 0]), ((ad 1), aB E 4096 (fun _ => 0)), ((ad 2), aJ E 38 (kwG 182)), ((ad 3), aI E 4098 (fun _ => 0)), ((ad 4), aI E 4098 (fun _ => 0)), ((ad 5), aI E 4098 (fun _ => 0)), ((ad 6), aJ E 12294 (fun _ => 0)), ((ad 7), ob 0 [.ref (ad 8), .ref (ad 10), .ref (ad 12), .ref (ad 14), .ref (ad 15), .ref (ad 16), .ref (ad 17), .ref (ad 18), .ref (ad 19), .ref (ad 20), .ref (ad 21), .ref (ad 22), .ref (ad 23), .ref (ad 24), .ref (ad 25), .ref (ad 26), .int 0, .ref (ad 27), .int 0, .int 0]), ((ad 8), ob 6 [.ref (ad 9), .int (nI 40), .int 0]), ((ad 9), aJ E 120 (fun _ => 0)), ((ad 10), ob 6 [.ref (ad 11), .int (nI 100), .int 0]), ((ad 11), aJ E 300 (fun _ => 0)), ((ad 12), ob 6 [.ref (ad 13), .int (nI 60), .int 0]), ((ad 13), aJ E 180 (fun _ => 0)), ((ad 14), aI E 40 (fun _ => 0)), ((ad 15), aI E 1280 (fun _ => 0)), ((ad 16), aI E 1280 (fun _ => 0)), ((ad 17), aI E 320 (fun _ => 0)), ((ad 18), aI E 100 (fun _ => 0)), ((ad 19), aI E 100 (fun _ => 0)), ((ad 20), aI E 100 (fun _ => 0)), ((ad 21), aI E 800 (fun _ => 0)), ((ad 22), aI E 800 (fun _ => 0)), ((ad 23), aI E 800 (fun _ => 0)), ((ad 24), aI E 60 (fun _ => 0)), ((ad 25), aI E 32 (fun _ => 0)), ((ad 26), aI E 32 (fun _ => 0)), ((ad 27), aI E 10098 (fun _ => 0)), ((ad 28), ob 7 [.ref (ad 0), .ref (ad 7), .int 0, .int 0, .int 0, .int 0, .int 0, .int 0, .int 0, .int 0, .int 0, .int 0, .ref (ad 29)]), ((ad 29), aI E 6 (fun _ => 0)), ((ad 30), ob 1 [.ref (ad 7), .ref (ad 40), .ref (ad 31), .ref (ad 32), .ref (ad 33), .ref (ad 34), .ref (ad 35), .ref (ad 36), .ref (ad 37), .ref (ad 38), .ref (ad 39), .int 0, .int 0, .int 0, .int 0, .int 0, .int 0]), ((ad 31), aJ E 96 (fun _ => 0)), ((ad 32), aJ E 4 (fun _ => 0)), ((ad 33), aI E 4 (fun _ => 0)), ((ad 34), aI E 64 (fun _ => 0)), ((ad 35), aI E 64 (fun _ => 0)), ((ad 36), aI E 64 (fun _ => 0)), ((ad 37), aI E 64 (fun _ => 0)), ((ad 38), aI E 512 (fun _ => 0)), ((ad 39), aI E 4096 (fun _ => 0)), ((ad 40), ob 2 [.ref (ad 7), .ref (ad 41), .ref (ad 42), .null, .int 0, .long 0, .ref (ad 43), .ref (ad 44), .ref (ad 45), .int 0]), ((ad 41), aB E 2560 (fun _ => 0)), ((ad 42), aB E 40 (fun _ => 0)), ((ad 43), aI E 65 (fun _ => 0)), ((ad 44), aI E 65 (fun _ => 0)), ((ad 45), aJ E 65 (fun _ => 0)), ((ad 46), ob 3 [.ref (ad 47), .ref (ad 48), .ref (ad 49), .ref (ad 50), .ref (ad 51), .ref (ad 52), .ref (ad 53), .ref (ad 54), .int 0, .int 0]), ((ad 47), aI E 64 (fun _ => 0)), ((ad 48), aI E 64 (fun _ => 0)), ((ad 49), aI E 64 (fun _ => 0)), ((ad 50), aI E 64 (fun _ => 0)), ((ad 51), aI E 64 (fun _ => 0)), ((ad 52), aI E 64 (fun _ => 0)), ((ad 53), aJ E 4 (fun _ => 0)), ((ad 54), aB E 4096 (fun _ => 0)), ((ad 55), ob 8 [.ref (ad 7), .ref (ad 30), .int 0, .int 0, .long 0, .ref (ad 56), .int 0, .int 0, .int 0, .int 0, .int 0]), ((ad 56), aJ E 1500 (fun _ => 0)), ((ad 57), ob 8 [.ref (ad 7), .ref (ad 30), .int 0, .int 0, .long 0, .ref (ad 58), .int 0, .int 0, .int 0, .int 0, .int 0]), ((ad 58), aJ E 1500 (fun _ => 0)), ((ad 59), ob 4 [.ref (ad 60), .int 0, .int 0]), ((ad 60), aQ E 201 (fun _ => none)), ((ad 61), ob 9 [.ref (ad 7), .ref (ad 30), .ref (ad 46), .ref (ad 62), .ref (ad 63), .ref (ad 64), .ref (ad 65), .ref (ad 66), .ref (ad 67), .ref (ad 68), .ref (ad 69), .int 0, .int 0, .int 0, .int (-1), .ref (ad 70), .int 0, .int 0]), ((ad 62), aJ E 6000 (fun _ => 0)), ((ad 63), aS E 4096 (fun _ => 0)), ((ad 64), aS E 64000 (fun _ => 0)), ((ad 65), aI E 15 (fun _ => 0)), ((ad 66), aJ E 2000 (fun _ => 0)), ((ad 67), aI E 2000 (fun _ => 0)), ((ad 68), aJ E 3 (fun _ => 0)), ((ad 69), aI E 16 (fun _ => 0)), ((ad 70), aI E 12 (fun _ => 0)), ((ad 71), aI E 64 gt), ((ad 72), aI E 64 gh), ((ad 73), aI E 64 (fun j => nI (srtO (cdLt (stC 0)) (fun _ => 0) (2 * 4) j))), ((ad 74), aJ E 4 (faOf (stC 0) (2 * 4))), ((ad 75), aB E 4096 (seatOf (stC 0) (2 * 4))), ((ad 76), ob 3 [.ref (ad 77), .ref (ad 78), .ref (ad 79), .ref (ad 71), .ref (ad 72), .ref (ad 73), .ref (ad 74), .ref (ad 75), .int (nI (2 * 4)), .int v2]), ((ad 77), aI E 64 gx), ((ad 78), aI E 64 gy), ((ad 79), aI E 64 gf), ((ad 80), aI E 64 gc), ((r 0), aB E 4096 (fun _ => 0)), ((r 9), aB E 4800 (fun _ => 0)), ((r 10), aI E 200 (fun _ => 0)), ((r 11), aI E 200 (fun _ => 0)), ((r 12), aI E 200 (fun _ => 0)), ((r 18), aI E 40 (fun _ => 0)), ((r 19), aI E 320 (fun _ => 0)), ((r 20), aI E 320 (fun _ => 0)), ((r 21), aI E 320 (fun _ => 0)), ((r 22), aI E 320 (fun _ => 0)), ((r 23), aI E 100 (fun _ => 0)), ((r 24), aI E 100 (fun _ => 0)), ((r 25), aI E 100 (fun _ => 0)), ((r 26), aI E 800 (fun _ => 0)), ((r 27), aI E 800 (fun _ => 0)), ((r 28), aI E 800 (fun _ => 0)), ((r 29), aI E 60 (fun _ => 0)), ((r 30), aI E 32 (fun _ => 0)), ((r 31), aI E 10100 (fun _ => 0)), ((r 32), aI E 10100 (fun _ => 0)), ((r 55), aI E 1600 (fun _ => 0)), ((r 56), aI E 1600 (fun _ => 0)), ((r 57), aI E 1600 (fun _ => 0)), ((r 58), aJ E 1600 (fun _ => 0)), ((r 61), aI E 51456 (fun _ => 0)), ((r 62), aI E 201 (fun _ => 0)), ((r 63), aI E 201 (fun _ => 0)), ((r 64), aI E 201 (fun _ => 0)), ((r 65), aJ E 321600 (fun _ => 0)), ((r 66), aJ E 321600 (fun _ => 0)), ((r 73), aJ E 4 (fun _ => 0)), ((r 74), aI E 4 (fun _ => 0)), ((r 76), aI E 64 (fun _ => 0)), ((r 77), aI E 64 (fun _ => 0)), ((r 78), aI E 64 (fun _ => 0)), ((r 79), aI E 64 (fun _ => 0)), ((r 80), aI E 64 (fun _ => 0)), ((r 81), aI E 8 (fun _ => 0)), ((r 86), aI E 64 (fun _ => 0)), ((r 87), aI E 64 (fun _ => 0)), ((r 92), aI E 32000 (fun _ => 0)), ((r 93), aI E 2000 (fun _ => 0)), ((r 94), aI E 64000 (fun _ => 0)), ((r 95), aJ E 2000 (fun _ => 0)), ((r 96), aI E 2000 (fun _ => 0)), ((r 97), aI E 32 (fun _ => 0)), ((r 103), aI E 12 (fun _ => 0)), ((r 104), aI E 256 (fun _ => 0)), ((r 105), aI E 192 (fun _ => 0)), ((r 106), aI E 1600 (fun _ => 0)), ((r 107), aI E 1600 (fun _ => 0)), ((r 108), aI E 1600 (fun _ => 0)), ((r 109), aJ E 1600 (fun _ => 0)), ((r 41), aI E 64 kt), ((r 44), aI E 64 fx), ((r 45), aI E 64 fy), ((r 46), aI E 64 fw), (q_1294, ob 12 (mfs g)), ((r 38), aI E 64 kx), ((r 39), aI E 64 ky), ((r 40), aI E 64 kw), ((r 47), aI E 64 bx), ((r 48), aI E 64 by_), ((r 49), aI E 64 bw)] H := hP
  have hD : va_D (fun q : Nat => s.heap.size ≤ q) [(q_1291, ob 11 [.ref (ad 0), .ref (ad 7), .ref (ad 28), .ref (ad 30), .ref (ad 76), .ref (ad 46), .ref (ad 55), .ref (ad 57), .ref (ad 59), .ref (ad 61), .ref (ad 80), .int 0, .int 0, .int 0, .int (-1), .int (-1), .int (-1)]), ((ad 0), ob 10 [.ref (ad 1), .int 0, .ref (ad 2), .ref (ad 3), .ref (ad 4), .ref (ad 5), .ref (ad 6), .int 0]), ((ad 1), aB E 4096 (fun _ => 0)), ((ad 2), aJ E 38 (kwG 182)), ((ad 3), aI E 4098 (fun _ => 0)), ((ad 4), aI E 4098 (fun _ => 0)), ((ad 5), aI E 4098 (fun _ => 0)), ((ad 6), aJ E 12294 (fun _ => 0)), ((ad 7), ob 0 [.ref (ad 8), .ref (ad 10), .ref (ad 12), .ref (ad 14), .ref (ad 15), .ref (ad 16), .ref (ad 17), .ref (ad 18), .ref (ad 19), .ref (ad 20), .ref (ad 21), .ref (ad 22), .ref (ad 23), .ref (ad 24), .ref (ad 25), .ref (ad 26), .int 0, .ref (ad 27), .int 0, .int 0]), ((ad 8), ob 6 [.ref (ad 9), .int (nI 40), .int 0]), ((ad 9), aJ E 120 (fun _ => 0)), ((ad 10), ob 6 [.ref (ad 11), .int (nI 100), .int 0]), ((ad 11), aJ E 300 (fun _ => 0)), ((ad 12), ob 6 [.ref (ad 13), .int (nI 60), .int 0]), ((ad 13), aJ E 180 (fun _ => 0)), ((ad 14), aI E 40 (fun _ => 0)), ((ad 15), aI E 1280 (fun _ => 0)), ((ad 16), aI E 1280 (fun _ => 0)), ((ad 17), aI E 320 (fun _ => 0)), ((ad 18), aI E 100 (fun _ => 0)), ((ad 19), aI E 100 (fun _ => 0)), ((ad 20), aI E 100 (fun _ => 0)), ((ad 21), aI E 800 (fun _ => 0)), ((ad 22), aI E 800 (fun _ => 0)), ((ad 23), aI E 800 (fun _ => 0)), ((ad 24), aI E 60 (fun _ => 0)), ((ad 25), aI E 32 (fun _ => 0)), ((ad 26), aI E 32 (fun _ => 0)), ((ad 27), aI E 10098 (fun _ => 0)), ((ad 28), ob 7 [.ref (ad 0), .ref (ad 7), .int 0, .int 0, .int 0, .int 0, .int 0, .int 0, .int 0, .int 0, .int 0, .int 0, .ref (ad 29)]), ((ad 29), aI E 6 (fun _ => 0)), ((ad 30), ob 1 [.ref (ad 7), .ref (ad 40), .ref (ad 31), .ref (ad 32), .ref (ad 33), .ref (ad 34), .ref (ad 35), .ref (ad 36), .ref (ad 37), .ref (ad 38), .ref (ad 39), .int 0, .int 0, .int 0, .int 0, .int 0, .int 0]), ((ad 31), aJ E 96 (fun _ => 0)), ((ad 32), aJ E 4 (fun _ => 0)), ((ad 33), aI E 4 (fun _ => 0)), ((ad 34), aI E 64 (fun _ => 0)), ((ad 35), aI E 64 (fun _ => 0)), ((ad 36), aI E 64 (fun _ => 0)), ((ad 37), aI E 64 (fun _ => 0)), ((ad 38), aI E 512 (fun _ => 0)), ((ad 39), aI E 4096 (fun _ => 0)), ((ad 40), ob 2 [.ref (ad 7), .ref (ad 41), .ref (ad 42), .null, .int 0, .long 0, .ref (ad 43), .ref (ad 44), .ref (ad 45), .int 0]), ((ad 41), aB E 2560 (fun _ => 0)), ((ad 42), aB E 40 (fun _ => 0)), ((ad 43), aI E 65 (fun _ => 0)), ((ad 44), aI E 65 (fun _ => 0)), ((ad 45), aJ E 65 (fun _ => 0)), ((ad 46), ob 3 [.ref (ad 47), .ref (ad 48), .ref (ad 49), .ref (ad 50), .ref (ad 51), .ref (ad 52), .ref (ad 53), .ref (ad 54), .int 0, .int 0]), ((ad 47), aI E 64 (fun _ => 0)), ((ad 48), aI E 64 (fun _ => 0)), ((ad 49), aI E 64 (fun _ => 0)), ((ad 50), aI E 64 (fun _ => 0)), ((ad 51), aI E 64 (fun _ => 0)), ((ad 52), aI E 64 (fun _ => 0)), ((ad 53), aJ E 4 (fun _ => 0)), ((ad 54), aB E 4096 (fun _ => 0)), ((ad 55), ob 8 [.ref (ad 7), .ref (ad 30), .int 0, .int 0, .long 0, .ref (ad 56), .int 0, .int 0, .int 0, .int 0, .int 0]), ((ad 56), aJ E 1500 (fun _ => 0)), ((ad 57), ob 8 [.ref (ad 7), .ref (ad 30), .int 0, .int 0, .long 0, .ref (ad 58), .int 0, .int 0, .int 0, .int 0, .int 0]), ((ad 58), aJ E 1500 (fun _ => 0)), ((ad 59), ob 4 [.ref (ad 60), .int 0, .int 0]), ((ad 60), aQ E 201 (fun _ => none)), ((ad 61), ob 9 [.ref (ad 7), .ref (ad 30), .ref (ad 46), .ref (ad 62), .ref (ad 63), .ref (ad 64), .ref (ad 65), .ref (ad 66), .ref (ad 67), .ref (ad 68), .ref (ad 69), .int 0, .int 0, .int 0, .int (-1), .ref (ad 70), .int 0, .int 0]), ((ad 62), aJ E 6000 (fun _ => 0)), ((ad 63), aS E 4096 (fun _ => 0)), ((ad 64), aS E 64000 (fun _ => 0)), ((ad 65), aI E 15 (fun _ => 0)), ((ad 66), aJ E 2000 (fun _ => 0)), ((ad 67), aI E 2000 (fun _ => 0)), ((ad 68), aJ E 3 (fun _ => 0)), ((ad 69), aI E 16 (fun _ => 0)), ((ad 70), aI E 12 (fun _ => 0)), ((ad 71), aI E 64 gt), ((ad 72), aI E 64 gh), ((ad 73), aI E 64 (fun j => nI (srtO (cdLt (stC 0)) (fun _ => 0) (2 * 4) j))), ((ad 74), aJ E 4 (faOf (stC 0) (2 * 4))), ((ad 75), aB E 4096 (seatOf (stC 0) (2 * 4))), ((ad 76), ob 3 [.ref (ad 77), .ref (ad 78), .ref (ad 79), .ref (ad 71), .ref (ad 72), .ref (ad 73), .ref (ad 74), .ref (ad 75), .int (nI (2 * 4)), .int v2]), ((ad 77), aI E 64 gx), ((ad 78), aI E 64 gy), ((ad 79), aI E 64 gf), ((ad 80), aI E 64 gc), ((r 0), aB E 4096 (fun _ => 0)), ((r 9), aB E 4800 (fun _ => 0)), ((r 10), aI E 200 (fun _ => 0)), ((r 11), aI E 200 (fun _ => 0)), ((r 12), aI E 200 (fun _ => 0)), ((r 18), aI E 40 (fun _ => 0)), ((r 19), aI E 320 (fun _ => 0)), ((r 20), aI E 320 (fun _ => 0)), ((r 21), aI E 320 (fun _ => 0)), ((r 22), aI E 320 (fun _ => 0)), ((r 23), aI E 100 (fun _ => 0)), ((r 24), aI E 100 (fun _ => 0)), ((r 25), aI E 100 (fun _ => 0)), ((r 26), aI E 800 (fun _ => 0)), ((r 27), aI E 800 (fun _ => 0)), ((r 28), aI E 800 (fun _ => 0)), ((r 29), aI E 60 (fun _ => 0)), ((r 30), aI E 32 (fun _ => 0)), ((r 31), aI E 10100 (fun _ => 0)), ((r 32), aI E 10100 (fun _ => 0)), ((r 55), aI E 1600 (fun _ => 0)), ((r 56), aI E 1600 (fun _ => 0)), ((r 57), aI E 1600 (fun _ => 0)), ((r 58), aJ E 1600 (fun _ => 0)), ((r 61), aI E 51456 (fun _ => 0)), ((r 62), aI E 201 (fun _ => 0)), ((r 63), aI E 201 (fun _ => 0)), ((r 64), aI E 201 (fun _ => 0)), ((r 65), aJ E 321600 (fun _ => 0)), ((r 66), aJ E 321600 (fun _ => 0)), ((r 73), aJ E 4 (fun _ => 0)), ((r 74), aI E 4 (fun _ => 0)), ((r 76), aI E 64 (fun _ => 0)), ((r 77), aI E 64 (fun _ => 0)), ((r 78), aI E 64 (fun _ => 0)), ((r 79), aI E 64 (fun _ => 0)), ((r 80), aI E 64 (fun _ => 0)), ((r 81), aI E 8 (fun _ => 0)), ((r 86), aI E 64 (fun _ => 0)), ((r 87), aI E 64 (fun _ => 0)), ((r 92), aI E 32000 (fun _ => 0)), ((r 93), aI E 2000 (fun _ => 0)), ((r 94), aI E 64000 (fun _ => 0)), ((r 95), aJ E 2000 (fun _ => 0)), ((r 96), aI E 2000 (fun _ => 0)), ((r 97), aI E 32 (fun _ => 0)), ((r 103), aI E 12 (fun _ => 0)), ((r 104), aI E 256 (fun _ => 0)), ((r 105), aI E 192 (fun _ => 0)), ((r 106), aI E 1600 (fun _ => 0)), ((r 107), aI E 1600 (fun _ => 0)), ((r 108), aI E 1600 (fun _ => 0)), ((r 109), aJ E 1600 (fun _ => 0)), ((r 41), aI E 64 kt), ((r 44), aI E 64 fx), ((r 45), aI E 64 fy), ((r 46), aI E 64 fw), (q_1294, ob 12 (mfs g)), ((r 38), aI E 64 kx), ((r 39), aI E 64 ky), ((r 40), aI E 64 kw), ((r 47), aI E 64 bx), ((r 48), aI E 64 by_), ((r 49), aI E 64 bw)] := hD
  refine W.widen (k := 146) (n := 989044) (by decide) (by decide) ?_
  obtain ⟨hR, hI, hm1, hm2, hm3, hm4⟩ := hwM
  obtain ⟨hw1, hw2, hw3, hw4, hw5⟩ := hwX
  refine lv_astore_n (lv' := [(2, .ref q_1294), (1, .ref q_1291), (0, .ref b)]) hx hb dL_law_15 rfl hl (by decide) rfl (fun ls hl => ?_)
  refine lv_iconst (v := nI 0) hx hb dL_law_16 (by decide) ?_
  refine lv_istore_n (lv' := [(3, .int (nI 0)), (2, .ref q_1294), (1, .ref q_1291), (0, .ref b)]) hx hb dL_law_17 rfl hl (by decide) rfl (fun ls hl => ?_)
  refine lv_iload_n hx hb dL_law_18 rfl (lv_at hl 0 rfl) ?_
  refine lv_aload_n hx hb dL_law_19 rfl (lv_at hl 3 rfl) ?_
  refine va_slen hx hb hX hbl hbA hS dL_law_20 ?_
  refine W.eq (g2 := F0 m 21 ls [.int (nI L), .int (nI 0)]) rfl ?_
  refine lv_bipush (v := nI 6) hx hb dL_law_21 (by decide) ?_
  refine lv_isub hx hb dL_law_23 ?_
  refine lv_icmp_gt (tgt := 721) hx hb dL_law_24 (by decide) (fun c1 => ?_) (fun c1 => ?_)
  · refine lv_iconst (v := nI 1) hx hb dL_law_721 (by decide) ?_
    refine va_forget (fun q hq => hS.2.2 q hq) ?_
    refine W.widen (k := 600000) (n := 7302250) (by decide) (by decide) ?_
    exact lw_ret hx hb hr hlocks dL_law_722
  · have hL6 : L = 6 := by
      have h9 : ¬ L < 6 := fun h => c1 (pk_sneg (by decide) h)
      omega
    refine lv_aload_n hx hb dL_law_27 rfl (lv_at hl 3 rfl) ?_
    refine lv_iload_n hx hb dL_law_28 rfl (lv_at hl 0 rfl) ?_
    refine va_sld hx hb hX hbl hbA hS (i := nI 0) (vp_in_nI (by omega) (by omega)) dL_law_29 ?_
    rw [nI_clamp (n := 0) (by decide)]
    refine lv_bipush (v := nI 31) hx hb dL_law_30 (by decide) ?_
    refine lv_iand hx hb dL_law_32 ?_
    obtain ⟨j9, hj9, ej9⟩ := pk_andE (xs 0) (m := nI 31) 5 (by decide)
    rw [ej9]
    rcases (show j9 = 0 ∨ j9 = 1 ∨ j9 = 2 ∨ j9 = 3 ∨ j9 = 4 ∨ j9 = 5 ∨ j9 = 6 ∨ j9 = 7 ∨ j9 = 8 ∨ j9 = 9 ∨ j9 = 10 ∨ j9 = 11 ∨ j9 = 12 ∨ j9 = 13 ∨ j9 = 14 ∨ j9 = 15 ∨ j9 = 16 ∨ j9 = 17 ∨ j9 = 18 ∨ j9 = 19 ∨ j9 = 20 ∨ j9 = 21 ∨ j9 = 22 ∨ j9 = 23 ∨ 24 ≤ j9 by omega) with rfl | rfl | rfl | rfl | rfl | rfl | rfl | rfl | rfl | rfl | rfl | rfl | rfl | rfl | rfl | rfl | rfl | rfl | rfl | rfl | rfl | rfl | rfl | rfl | hj24
    · refine lv_tableIn (tgt := 144) hx hb dL_law_33 (by decide) (by decide) (off := 111) (by decide) (by decide) ?_
      exact lc_feed (v2 := v2) F hA hS (hP.sub [0, 1, 2, 139, 82] rfl) (hD.sub [0, 1, 2, 139, 82] rfl rfl) hK hZ hX hbl hbA hL6 hw1 hw3 hw4 hw5 hR hI hm1 hm2 hm3 hm4 (lv_sub hl [3, 2, 1, 0] rfl)
    · refine lv_tableIn (tgt := 207) hx hb dL_law_33 (by decide) (by decide) (off := 174) (by decide) (by decide) ?_
      exact lc_end (v2 := v2) F hA hS (hP.sub [0, 1, 139] rfl) (hD.sub [0, 1, 139] rfl rfl) hK hZ hX hbl hbA hL6 hw1 hw3 hw4 hw5 hR hI hm1 hm2 hm3 hm4 (lv_sub hl [3, 2, 1, 0] rfl)
    · refine lv_tableIn (tgt := 230) hx hb dL_law_33 (by decide) (by decide) (off := 197) (by decide) (by decide) ?_
      exact lc_load (v2 := v2) F hA hS (hP.sub [0, 1, 2, 4, 5, 6, 29, 30, 8, 9, 11, 13, 139, 82] rfl) (hD.sub [0, 1, 2, 4, 5, 6, 29, 30, 8, 9, 11, 13, 139, 82] rfl rfl) hK hZ hX hbl hbA hL6 hw1 hw3 hw4 hw5 hR hI hm1 hm2 hm3 hm4 (lv_sub hl [3, 2, 1, 0] rfl)
    · refine lv_tableIn (tgt := 243) hx hb dL_law_33 (by decide) (by decide) (off := 210) (by decide) (by decide) ?_
      exact lc_call (v2 := v2) F hA hS (hP.sub [0, 1, 2, 4, 5, 6, 29, 30, 8, 9, 11, 13, 139, 82, 100] rfl) (hD.sub [0, 1, 2, 4, 5, 6, 29, 30, 8, 9, 11, 13, 139, 82, 100] rfl rfl) hK hZ hX hbl hbA hL6 hw1 hw3 hw4 hw5 hR hI hm1 hm2 hm3 hm4 (lv_sub hl [3, 2, 1, 0] rfl)
    · refine lv_tableIn (tgt := 256) hx hb dL_law_33 (by decide) (by decide) (off := 223) (by decide) (by decide) ?_
      exact lc_fault (v2 := v2) F hA hS (hP.sub [0, 139] rfl) (hD.sub [0, 139] rfl rfl) hK hZ hX hbl hbA hL6 hw1 hw3 hw4 hw5 hR hI hm1 hm2 hm3 hm4 (lv_sub hl [3, 2, 1, 0] rfl)
    · refine lv_tableIn (tgt := 269) hx hb dL_law_33 (by decide) (by decide) (off := 236) (by decide) (by decide) ?_
      exact lc_named (v2 := v2) F hA hS (hP.sub [0, 1, 2, 4, 5, 6, 29, 30, 8, 9, 11, 13, 139, 82] rfl) (hD.sub [0, 1, 2, 4, 5, 6, 29, 30, 8, 9, 11, 13, 139, 82] rfl rfl) hK hZ hX hbl hbA hL6 hw1 hw3 hw4 hw5 hR hI hm1 hm2 hm3 hm4 (lv_sub hl [3, 2, 1, 0] rfl)
    · refine lv_tableIn (tgt := 292) hx hb dL_law_33 (by decide) (by decide) (off := 259) (by decide) (by decide) ?_
      exact lc_set (v2 := v2) F hA hS (hP.sub [0, 77, 78, 79, 80, 72, 73, 74, 75, 76, 81, 60, 56, 62, 139, 140, 141, 142, 135, 136, 137, 138, 143, 144, 145] rfl) (hD.sub [0, 77, 78, 79, 80, 72, 73, 74, 75, 76, 81, 60, 56, 62, 139, 140, 141, 142, 135, 136, 137, 138, 143, 144, 145] rfl rfl) hK hZ hX hbl hbA hL6 hw1 hw3 hw4 hw5 hR hI hm1 hm2 hm3 hm4 (lv_sub hl [3, 2, 1, 0] rfl)
    · refine lv_tableIn (tgt := 325) hx hb dL_law_33 (by decide) (by decide) (off := 292) (by decide) (by decide) ?_
      exact lc_mark (v2 := v2) F hA hS (hP.sub [0, 77, 78, 79, 80, 81, 139, 140, 141, 142, 143, 144, 145] rfl) (hD.sub [0, 77, 78, 79, 80, 81, 139, 140, 141, 142, 143, 144, 145] rfl rfl) hK hZ hX hbl hbA hL6 hw1 hw3 hw4 hw5 hR hI hm1 hm2 hm3 hm4 (lv_sub hl [3, 2, 1, 0] rfl)
    · refine lv_tableIn (tgt := 336) hx hb dL_law_33 (by decide) (by decide) (off := 303) (by decide) (by decide) ?_
      exact lc_begin (v2 := v2) F hA hS (hP.sub [0, 8, 13, 139] rfl) (hD.sub [0, 8, 13, 139] rfl rfl) hK hZ hX hbl hbA hL6 hw1 hw3 hw4 hw5 hR hI hm1 hm2 hm3 hm4 (lv_sub hl [3, 2, 1, 0] rfl)
    · refine lv_tableIn (tgt := 359) hx hb dL_law_33 (by decide) (by decide) (off := 326) (by decide) (by decide) ?_
      exact lc_step (v2 := v2) F hA hS (hP.sub [0, 56, 139] rfl) (hD.sub [0, 56, 139] rfl rfl) hK hZ hX hbl hbA hL6 hw1 hw3 hw4 hw5 hR hI hm1 hm2 hm3 hm4 (lv_sub hl [3, 2, 1, 0] rfl)
    · refine lv_tableIn (tgt := 372) hx hb dL_law_33 (by decide) (by decide) (off := 339) (by decide) (by decide) ?_
      exact lc_back (v2 := v2) F hA hS (hP.sub [0, 60, 61, 139] rfl) (hD.sub [0, 60, 61, 139] rfl rfl) hK hZ hX hbl hbA hL6 hw1 hw3 hw4 hw5 hR hI hm1 hm2 hm3 hm4 (lv_sub hl [3, 2, 1, 0] rfl)
    · refine lv_tableIn (tgt := 395) hx hb dL_law_33 (by decide) (by decide) (off := 362) (by decide) (by decide) ?_
      exact lc_failed (v2 := v2) F hA hS (hP.sub [0, 139] rfl) (hD.sub [0, 139] rfl rfl) hK hZ hX hbl hbA hL6 hw1 hw3 hw4 hw5 hR hI hm1 hm2 hm3 hm4 (lv_sub hl [3, 2, 1, 0] rfl)
    · refine lv_tableIn (tgt := 418) hx hb dL_law_33 (by decide) (by decide) (off := 385) (by decide) (by decide) ?_
      exact lc_may (v2 := v2) F hA hS (hP.sub [0, 8, 139] rfl) (hD.sub [0, 8, 139] rfl rfl) hK hZ hX hbl hbA hL6 hw1 hw3 hw4 hw5 hR hI hm1 hm2 hm3 hm4 (lv_sub hl [3, 2, 1, 0] rfl)
    · refine lv_tableIn (tgt := 441) hx hb dL_law_33 (by decide) (by decide) (off := 408) (by decide) (by decide) ?_
      exact lc_resolve (v2 := v2) F hA hS (hP.sub [0, 62, 64, 66, 70, 69, 63, 67, 68, 8, 77, 78, 79, 80, 81, 139, 140, 141, 142, 135, 143, 144, 145, 129, 122, 123, 125, 126, 127, 99] rfl) (hD.sub [0, 62, 64, 66, 70, 69, 63, 67, 68, 8, 77, 78, 79, 80, 81, 139, 140, 141, 142, 135, 143, 144, 145, 129, 122, 123, 125, 126, 127, 99] rfl rfl) hK hZ hX hbl hbA hL6 hw1 hw3 hw4 hw5 hR hI hm1 hm2 hm3 hm4 (lv_sub hl [3, 2, 1, 0] rfl)
    · refine lv_tableIn (tgt := 464) hx hb dL_law_33 (by decide) (by decide) (off := 431) (by decide) (by decide) ?_
      exact lc_rows (v2 := v2) F hA hS (hP.sub [0, 62, 139] rfl) (hD.sub [0, 62, 139] rfl rfl) hK hZ hX hbl hbA hL6 hw1 hw3 hw4 hw5 hR hI hm1 hm2 hm3 hm4 (lv_sub hl [3, 2, 1, 0] rfl)
    · refine lv_tableIn (tgt := 478) hx hb dL_law_33 (by decide) (by decide) (off := 445) (by decide) (by decide) ?_
      exact lc_row (v2 := v2) F hA hS (hP.sub [0, 62, 139] rfl) (hD.sub [0, 62, 139] rfl rfl) hK hZ hX hbl hbA hL6 hw1 hw3 hw4 hw5 hR hI hm1 hm2 hm3 hm4 (lv_sub hl [3, 2, 1, 0] rfl)
    · refine lv_tableIn (tgt := 501) hx hb dL_law_33 (by decide) (by decide) (off := 468) (by decide) (by decide) ?_
      exact lc_draw (v2 := v2) F hA hS (hP.sub [0, 62, 139] rfl) (hD.sub [0, 62, 139] rfl rfl) hK hZ hX hbl hbA hL6 hw1 hw3 hw4 hw5 hR hI hm1 hm2 hm3 hm4 (lv_sub hl [3, 2, 1, 0] rfl)
    · refine lv_tableIn (tgt := 534) hx hb dL_law_33 (by decide) (by decide) (off := 501) (by decide) (by decide) ?_
      exact lc_cheapest (v2 := v2) F hA hS (hP.sub [0, 62, 139] rfl) (hD.sub [0, 62, 139] rfl rfl) hK hZ hX hbl hbA hL6 hw1 hw3 hw4 hw5 hR hI hm1 hm2 hm3 hm4 (lv_sub hl [3, 2, 1, 0] rfl)
    · refine lv_tableIn (tgt := 547) hx hb dL_law_33 (by decide) (by decide) (off := 514) (by decide) (by decide) ?_
      exact lc_found (v2 := v2) F hA hS (hP.sub [0, 62, 139] rfl) (hD.sub [0, 62, 139] rfl rfl) hK hZ hX hbl hbA hL6 hw1 hw3 hw4 hw5 hR hI hm1 hm2 hm3 hm4 (lv_sub hl [3, 2, 1, 0] rfl)
    · refine lv_tableIn (tgt := 570) hx hb dL_law_33 (by decide) (by decide) (off := 537) (by decide) (by decide) ?_
      exact lc_follow (v2 := v2) F hA hS (hP.sub [0, 62, 139] rfl) (hD.sub [0, 62, 139] rfl rfl) hK hZ hX hbl hbA hL6 hw1 hw3 hw4 hw5 hR hI hm1 hm2 hm3 hm4 (lv_sub hl [3, 2, 1, 0] rfl)
    · refine lv_tableIn (tgt := 583) hx hb dL_law_33 (by decide) (by decide) (off := 550) (by decide) (by decide) ?_
      exact lc_times (v2 := v2) F hA hS (hP.sub [0, 8, 13, 139] rfl) (hD.sub [0, 8, 13, 139] rfl rfl) hK hZ hX hbl hbA hL6 hw1 hw3 hw4 hw5 hR hI hm1 hm2 hm3 hm4 (lv_sub hl [3, 2, 1, 0] rfl)
    · refine lv_tableIn (tgt := 626) hx hb dL_law_33 (by decide) (by decide) (off := 593) (by decide) (by decide) ?_
      exact lc_dancer (v2 := v2) F hA hS (hP.sub [0, 77, 78, 79, 80, 72, 139, 140, 141, 142, 135] rfl) (hD.sub [0, 77, 78, 79, 80, 72, 139, 140, 141, 142, 135] rfl rfl) hK hZ hX hbl hbA hL6 hw1 hw3 hw4 hw5 hR hI hm1 hm2 hm3 hm4 (lv_sub hl [3, 2, 1, 0] rfl)
    · refine lv_tableIn (tgt := 659) hx hb dL_law_33 (by decide) (by decide) (off := 626) (by decide) (by decide) ?_
      exact lc_at (v2 := v2) F hA hS (hP.sub [0, 77, 76, 139, 140, 141] rfl) (hD.sub [0, 77, 76, 139, 140, 141] rfl rfl) hK hZ hX hbl hbA hL6 hw1 hw3 hw4 hw5 hR hI hm1 hm2 hm3 hm4 (lv_sub hl [3, 2, 1, 0] rfl)
    · refine lv_tableIn (tgt := 692) hx hb dL_law_33 (by decide) (by decide) (off := 659) (by decide) (by decide) ?_
      exact lc_about (v2 := v2) F hA hS (hP.sub [0, 77, 78, 79, 80, 73, 81, 60, 8, 9, 11, 13, 56, 62, 1, 139, 140, 141, 142, 136, 137, 138, 143, 144, 145] rfl) (hD.sub [0, 77, 78, 79, 80, 73, 81, 60, 8, 9, 11, 13, 56, 62, 1, 139, 140, 141, 142, 136, 137, 138, 143, 144, 145] rfl rfl) hK hZ hX hbl hbA hL6 hw1 hw3 hw4 hw5 hR hI hm1 hm2 hm3 hm4 (lv_sub hl [3, 2, 1, 0] rfl)
    · refine lv_tableOut (tgt := 715) hx hb dL_law_33 (Or.inr (by rw [nI_toInt (by omega)]; omega)) (by decide) ?_
      subst hL6
      refine lv_iinc (v := nI 6) (lv' := [(3, .int (nI 6)), (2, .ref q_1294), (1, .ref q_1291), (0, .ref b)]) hx hb dL_law_715 hl (k := 0) rfl (by decide) (by decide) rfl (fun ls hl => ?_)
      refine lv_goto (tgt := 18) hx hb dL_law_718 (by decide) ?_
      refine lv_iload_n hx hb dL_law_18 rfl (lv_at hl 0 rfl) ?_
      refine lv_aload_n hx hb dL_law_19 rfl (lv_at hl 3 rfl) ?_
      refine va_slen hx hb hX hbl hbA hS dL_law_20 ?_
      refine W.eq (g2 := F0 m 21 ls [.int (nI 6), .int (nI 6)]) rfl ?_
      refine lv_bipush (v := nI 6) hx hb dL_law_21 (by decide) ?_
      refine lv_isub hx hb dL_law_23 ?_
      rw [show ((nI 6) - (nI 6) : Int32) = nI 0 from by decide]
      refine lv_icmp_gt (tgt := 721) hx hb dL_law_24 (by decide) (fun c_1297 => ?_) (fun c_1297 => absurd (by decide) c_1297)
      refine lv_iconst (v := nI 1) hx hb dL_law_721 (by decide) ?_
      refine va_forget (fun q hq => hS.2.2 q hq) ?_
      refine W.widen (k := 600000) (n := 7302250) (by decide) (by decide) ?_
      exact lw_ret hx hb hr hlocks dL_law_722
