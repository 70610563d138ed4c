/-! the hall's world as a table -/
def shF_300 : List (Nat × Nat) := [(1, 301), (1, 302), (1, 303), (1, 304), (1, 305), (1, 306), (1, 307), (1, 308), (1, 309), (1, 310), (1, 320), (0, 0), (0, 0), (0, 0), (0, 0), (0, 0), (0, 0)]
def shF_301 : List (Nat × Nat) := [(1, 330), (0, 0), (1, 331), (1, 332), (1, 333), (1, 334), (1, 335), (0, 0)]
def shF_302 : List (Nat × Nat) := [(1, 312), (1, 313), (1, 314), (1, 350), (1, 351), (1, 352), (1, 353), (1, 354), (1, 355), (1, 356), (1, 357), (1, 358), (1, 359), (1, 360), (1, 361), (1, 362), (0, 0), (1, 363), (0, 0), (0, 0)]
def shF_303 : List (Nat × Nat) := [(1, 301), (1, 302), (0, 0), (0, 0), (0, 0), (0, 0), (0, 0), (0, 0), (0, 0), (0, 0), (0, 0), (0, 0), (1, 365)]
def shF_304 : List (Nat × Nat) := [(1, 302), (1, 311), (1, 370), (1, 371), (1, 372), (1, 373), (1, 374), (1, 375), (1, 376), (1, 377), (1, 378), (0, 0), (0, 0), (0, 0), (0, 0), (0, 0), (0, 0)]
def shF_305 : List (Nat × Nat) := [(1, 390), (1, 391), (1, 392), (1, 393), (1, 394), (1, 395), (1, 396), (1, 397), (0, 0), (0, 0)]
def shF_306 : List (Nat × Nat) := [(1, 400), (1, 401), (1, 402), (1, 403), (1, 404), (1, 405), (1, 406), (1, 407), (0, 0), (0, 0)]
def shF_307 : List (Nat × Nat) := [(1, 302), (1, 304), (0, 0), (0, 0), (2, 0), (1, 410), (0, 0), (0, 0), (0, 0), (0, 0), (0, 0)]
def shF_308 : List (Nat × Nat) := [(1, 302), (1, 304), (0, 0), (0, 0), (2, 0), (1, 411), (0, 0), (0, 0), (0, 0), (0, 0), (0, 0)]
def shF_309 : List (Nat × Nat) := [(1, 420), (0, 0), (0, 0)]
def shF_310 : List (Nat × Nat) := [(1, 302), (1, 304), (1, 306), (1, 430), (1, 431), (1, 432), (1, 433), (1, 434), (1, 435), (1, 436), (1, 437), (0, 0), (0, 0), (0, 0), (0, 0), (1, 438), (0, 0), (0, 0)]
def shF_311 : List (Nat × Nat) := [(1, 302), (1, 380), (1, 381), (3, 0), (0, 0), (2, 0), (1, 382), (1, 383), (1, 384), (0, 0)]
def shF_312 : List (Nat × Nat) := [(1, 340), (0, 0), (0, 0)]
def shF_313 : List (Nat × Nat) := [(1, 341), (0, 0), (0, 0)]
def shF_314 : List (Nat × Nat) := [(1, 342), (0, 0), (0, 0)]
def shH : List gS := [(300, 9, 11, shF_300), (301, 9, 10, shF_301), (302, 9, 0, shF_302), (303, 9, 7, shF_303), (304, 9, 1, shF_304), (305, 9, 3, shF_305), (306, 9, 3, shF_306), (307, 9, 8, shF_307), (308, 9, 8, shF_308), (309, 9, 4, shF_309), (310, 9, 9, shF_310), (311, 9, 2, shF_311), (312, 9, 6, shF_312), (313, 9, 6, shF_313), (314, 9, 6, shF_314), (320, 1, 64, []), (330, 0, 4096, []), (331, 2, 38, []), (332, 1, 4098, []), (333, 1, 4098, []), (334, 1, 4098, []), (335, 2, 12294, []), (340, 2, 120, []), (341, 2, 300, []), (342, 2, 180, []), (350, 1, 40, []), (351, 1, 1280, []), (352, 1, 1280, []), (353, 1, 320, []), (354, 1, 100, []), (355, 1, 100, []), (356, 1, 100, []), (357, 1, 800, []), (358, 1, 800, []), (359, 1, 800, []), (360, 1, 60, []), (361, 1, 32, []), (362, 1, 32, []), (363, 1, 10098, []), (365, 1, 6, []), (370, 2, 96, []), (371, 2, 4, []), (372, 1, 4, []), (373, 1, 64, []), (374, 1, 64, []), (375, 1, 64, []), (376, 1, 64, []), (377, 1, 512, []), (378, 1, 4096, []), (380, 0, 2560, []), (381, 0, 40, []), (382, 1, 65, []), (383, 1, 65, []), (384, 2, 65, []), (390, 1, 64, []), (391, 1, 64, []), (392, 1, 64, []), (393, 1, 64, []), (394, 1, 64, []), (395, 1, 64, []), (396, 2, 4, []), (397, 0, 4096, []), (400, 1, 64, []), (401, 1, 64, []), (402, 1, 64, []), (403, 1, 64, []), (404, 1, 64, []), (405, 1, 64, []), (406, 2, 4, []), (407, 0, 4096, []), (410, 2, 1500, []), (411, 2, 1500, []), (430, 2, 6000, []), (431, 3, 4096, []), (432, 3, 64000, []), (433, 1, 15, []), (434, 2, 2000, []), (435, 1, 2000, []), (436, 2, 3, []), (437, 1, 16, []), (438, 1, 12, [])]
theorem shH_U : gU shH := gU_of (by decide)
theorem oH_300 : shH[0]? = some (300, 9, 11, shF_300) := rfl
theorem oH_301 : shH[1]? = some (301, 9, 10, shF_301) := rfl
theorem oH_302 : shH[2]? = some (302, 9, 0, shF_302) := rfl
theorem oH_303 : shH[3]? = some (303, 9, 7, shF_303) := rfl
theorem oH_304 : shH[4]? = some (304, 9, 1, shF_304) := rfl
theorem oH_305 : shH[5]? = some (305, 9, 3, shF_305) := rfl
theorem oH_306 : shH[6]? = some (306, 9, 3, shF_306) := rfl
theorem oH_307 : shH[7]? = some (307, 9, 8, shF_307) := rfl
theorem oH_308 : shH[8]? = some (308, 9, 8, shF_308) := rfl
theorem oH_309 : shH[9]? = some (309, 9, 4, shF_309) := rfl
theorem oH_310 : shH[10]? = some (310, 9, 9, shF_310) := rfl
theorem oH_311 : shH[11]? = some (311, 9, 2, shF_311) := rfl
theorem oH_312 : shH[12]? = some (312, 9, 6, shF_312) := rfl
theorem oH_313 : shH[13]? = some (313, 9, 6, shF_313) := rfl
theorem oH_314 : shH[14]? = some (314, 9, 6, shF_314) := rfl
theorem aH_320 : gA shH 320 1 64 := ⟨15, rfl, shH_U, by decide⟩
theorem aH_330 : gA shH 330 0 4096 := ⟨16, rfl, shH_U, by decide⟩
theorem aH_331 : gA shH 331 2 38 := ⟨17, rfl, shH_U, by decide⟩
theorem aH_332 : gA shH 332 1 4098 := ⟨18, rfl, shH_U, by decide⟩
theorem aH_333 : gA shH 333 1 4098 := ⟨19, rfl, shH_U, by decide⟩
theorem aH_334 : gA shH 334 1 4098 := ⟨20, rfl, shH_U, by decide⟩
theorem aH_335 : gA shH 335 2 12294 := ⟨21, rfl, shH_U, by decide⟩
theorem aH_340 : gA shH 340 2 120 := ⟨22, rfl, shH_U, by decide⟩
theorem aH_341 : gA shH 341 2 300 := ⟨23, rfl, shH_U, by decide⟩
theorem aH_342 : gA shH 342 2 180 := ⟨24, rfl, shH_U, by decide⟩
theorem aH_350 : gA shH 350 1 40 := ⟨25, rfl, shH_U, by decide⟩
theorem aH_351 : gA shH 351 1 1280 := ⟨26, rfl, shH_U, by decide⟩
theorem aH_352 : gA shH 352 1 1280 := ⟨27, rfl, shH_U, by decide⟩
theorem aH_353 : gA shH 353 1 320 := ⟨28, rfl, shH_U, by decide⟩
theorem aH_354 : gA shH 354 1 100 := ⟨29, rfl, shH_U, by decide⟩
theorem aH_355 : gA shH 355 1 100 := ⟨30, rfl, shH_U, by decide⟩
theorem aH_356 : gA shH 356 1 100 := ⟨31, rfl, shH_U, by decide⟩
theorem aH_357 : gA shH 357 1 800 := ⟨32, rfl, shH_U, by decide⟩
theorem aH_358 : gA shH 358 1 800 := ⟨33, rfl, shH_U, by decide⟩
theorem aH_359 : gA shH 359 1 800 := ⟨34, rfl, shH_U, by decide⟩
theorem aH_360 : gA shH 360 1 60 := ⟨35, rfl, shH_U, by decide⟩
theorem aH_361 : gA shH 361 1 32 := ⟨36, rfl, shH_U, by decide⟩
theorem aH_362 : gA shH 362 1 32 := ⟨37, rfl, shH_U, by decide⟩
theorem aH_363 : gA shH 363 1 10098 := ⟨38, rfl, shH_U, by decide⟩
theorem aH_365 : gA shH 365 1 6 := ⟨39, rfl, shH_U, by decide⟩
theorem aH_370 : gA shH 370 2 96 := ⟨40, rfl, shH_U, by decide⟩
theorem aH_371 : gA shH 371 2 4 := ⟨41, rfl, shH_U, by decide⟩
theorem aH_372 : gA shH 372 1 4 := ⟨42, rfl, shH_U, by decide⟩
theorem aH_373 : gA shH 373 1 64 := ⟨43, rfl, shH_U, by decide⟩
theorem aH_374 : gA shH 374 1 64 := ⟨44, rfl, shH_U, by decide⟩
theorem aH_375 : gA shH 375 1 64 := ⟨45, rfl, shH_U, by decide⟩
theorem aH_376 : gA shH 376 1 64 := ⟨46, rfl, shH_U, by decide⟩
theorem aH_377 : gA shH 377 1 512 := ⟨47, rfl, shH_U, by decide⟩
theorem aH_378 : gA shH 378 1 4096 := ⟨48, rfl, shH_U, by decide⟩
theorem aH_380 : gA shH 380 0 2560 := ⟨49, rfl, shH_U, by decide⟩
theorem aH_381 : gA shH 381 0 40 := ⟨50, rfl, shH_U, by decide⟩
theorem aH_382 : gA shH 382 1 65 := ⟨51, rfl, shH_U, by decide⟩
theorem aH_383 : gA shH 383 1 65 := ⟨52, rfl, shH_U, by decide⟩
theorem aH_384 : gA shH 384 2 65 := ⟨53, rfl, shH_U, by decide⟩
theorem aH_390 : gA shH 390 1 64 := ⟨54, rfl, shH_U, by decide⟩
theorem aH_391 : gA shH 391 1 64 := ⟨55, rfl, shH_U, by decide⟩
theorem aH_392 : gA shH 392 1 64 := ⟨56, rfl, shH_U, by decide⟩
theorem aH_393 : gA shH 393 1 64 := ⟨57, rfl, shH_U, by decide⟩
theorem aH_394 : gA shH 394 1 64 := ⟨58, rfl, shH_U, by decide⟩
theorem aH_395 : gA shH 395 1 64 := ⟨59, rfl, shH_U, by decide⟩
theorem aH_396 : gA shH 396 2 4 := ⟨60, rfl, shH_U, by decide⟩
theorem aH_397 : gA shH 397 0 4096 := ⟨61, rfl, shH_U, by decide⟩
theorem aH_400 : gA shH 400 1 64 := ⟨62, rfl, shH_U, by decide⟩
theorem aH_401 : gA shH 401 1 64 := ⟨63, rfl, shH_U, by decide⟩
theorem aH_402 : gA shH 402 1 64 := ⟨64, rfl, shH_U, by decide⟩
theorem aH_403 : gA shH 403 1 64 := ⟨65, rfl, shH_U, by decide⟩
theorem aH_404 : gA shH 404 1 64 := ⟨66, rfl, shH_U, by decide⟩
theorem aH_405 : gA shH 405 1 64 := ⟨67, rfl, shH_U, by decide⟩
theorem aH_406 : gA shH 406 2 4 := ⟨68, rfl, shH_U, by decide⟩
theorem aH_407 : gA shH 407 0 4096 := ⟨69, rfl, shH_U, by decide⟩
theorem aH_410 : gA shH 410 2 1500 := ⟨70, rfl, shH_U, by decide⟩
theorem aH_411 : gA shH 411 2 1500 := ⟨71, rfl, shH_U, by decide⟩
theorem aH_430 : gA shH 430 2 6000 := ⟨72, rfl, shH_U, by decide⟩
theorem aH_431 : gA shH 431 3 4096 := ⟨73, rfl, shH_U, by decide⟩
theorem aH_432 : gA shH 432 3 64000 := ⟨74, rfl, shH_U, by decide⟩
theorem aH_433 : gA shH 433 1 15 := ⟨75, rfl, shH_U, by decide⟩
theorem aH_434 : gA shH 434 2 2000 := ⟨76, rfl, shH_U, by decide⟩
theorem aH_435 : gA shH 435 1 2000 := ⟨77, rfl, shH_U, by decide⟩
theorem aH_436 : gA shH 436 2 3 := ⟨78, rfl, shH_U, by decide⟩
theorem aH_437 : gA shH 437 1 16 := ⟨79, rfl, shH_U, by decide⟩
theorem aH_438 : gA shH 438 1 12 := ⟨80, rfl, shH_U, by decide⟩
theorem fH_X10_9_301 : gF shH 301 0 1 330 RX10 9 := ⟨1, 10, 8, shF_301, RX10, RX10, TX10, oH_301, rfl, rfl, by decide, iX10, wdF_RX10_9, rfl⟩
theorem fH_X10_44_301 : gF shH 301 1 0 0 RX10 44 := ⟨1, 10, 8, shF_301, RX10, RX10, TX10, oH_301, rfl, rfl, by decide, iX10, wdF_RX10_44, rfl⟩
theorem fH_X10_44_301w : gFw shH 301 1 0 0 RX10 44 .int := ⟨1, 10, 8, shF_301, RX10, RX10, TX10, tyX10, oH_301, rfl, rfl, by decide, iX10, wdF_RX10_44, rfl, tyX10_ok, nmX10, rfl, by decide +kernel, shH_U⟩
theorem fH_X11_284_301 : gF shH 301 1 0 0 RX11 284 := ⟨1, 10, 8, shF_301, RX10, RX10, TX10, oH_301, rfl, rfl, by decide, iX10, wdF_RX11_284, rfl⟩
theorem fH_X11_284_301w : gFw shH 301 1 0 0 RX11 284 .int := ⟨1, 10, 8, shF_301, RX10, RX10, TX10, tyX10, oH_301, rfl, rfl, by decide, iX10, wdF_RX11_284, rfl, tyX10_ok, nmX10, rfl, by decide +kernel, shH_U⟩
theorem fH_X10_15_301 : gF shH 301 2 1 331 RX10 15 := ⟨1, 10, 8, shF_301, RX10, RX10, TX10, oH_301, rfl, rfl, by decide, iX10, wdF_RX10_15, rfl⟩
theorem fH_X10_19_301 : gF shH 301 3 1 332 RX10 19 := ⟨1, 10, 8, shF_301, RX10, RX10, TX10, oH_301, rfl, rfl, by decide, iX10, wdF_RX10_19, rfl⟩
theorem fH_X7_84_301 : gF shH 301 3 1 332 RX7 84 := ⟨1, 10, 8, shF_301, RX10, RX10, TX10, oH_301, rfl, rfl, by decide, iX10, wdF_RX7_84, rfl⟩
theorem fH_X10_23_301 : gF shH 301 4 1 333 RX10 23 := ⟨1, 10, 8, shF_301, RX10, RX10, TX10, oH_301, rfl, rfl, by decide, iX10, wdF_RX10_23, rfl⟩
theorem fH_X7_87_301 : gF shH 301 4 1 333 RX7 87 := ⟨1, 10, 8, shF_301, RX10, RX10, TX10, oH_301, rfl, rfl, by decide, iX10, wdF_RX7_87, rfl⟩
theorem fH_X10_26_301 : gF shH 301 5 1 334 RX10 26 := ⟨1, 10, 8, shF_301, RX10, RX10, TX10, oH_301, rfl, rfl, by decide, iX10, wdF_RX10_26, rfl⟩
theorem fH_X10_29_301 : gF shH 301 6 1 335 RX10 29 := ⟨1, 10, 8, shF_301, RX10, RX10, TX10, oH_301, rfl, rfl, by decide, iX10, wdF_RX10_29, rfl⟩
theorem fH_X7_67_301 : gF shH 301 6 1 335 RX7 67 := ⟨1, 10, 8, shF_301, RX10, RX10, TX10, oH_301, rfl, rfl, by decide, iX10, wdF_RX7_67, rfl⟩
theorem fH_X10_48_301 : gF shH 301 7 0 0 RX10 48 := ⟨1, 10, 8, shF_301, RX10, RX10, TX10, oH_301, rfl, rfl, by decide, iX10, wdF_RX10_48, rfl⟩
theorem fH_X10_48_301w : gFw shH 301 7 0 0 RX10 48 .int := ⟨1, 10, 8, shF_301, RX10, RX10, TX10, tyX10, oH_301, rfl, rfl, by decide, iX10, wdF_RX10_48, rfl, tyX10_ok, nmX10, rfl, by decide +kernel, shH_U⟩
theorem fH_X7_124_301 : gF shH 301 7 0 0 RX7 124 := ⟨1, 10, 8, shF_301, RX10, RX10, TX10, oH_301, rfl, rfl, by decide, iX10, wdF_RX7_124, rfl⟩
theorem fH_X7_124_301w : gFw shH 301 7 0 0 RX7 124 .int := ⟨1, 10, 8, shF_301, RX10, RX10, TX10, tyX10, oH_301, rfl, rfl, by decide, iX10, wdF_RX7_124, rfl, tyX10_ok, nmX10, rfl, by decide +kernel, shH_U⟩
theorem fH_X6_15_312 : gF shH 312 0 1 340 RX6 15 := ⟨12, 6, 3, shF_312, RX6, RX6, TX6, oH_312, rfl, rfl, by decide, iX6, wdF_RX6_15, rfl⟩
theorem fH_X6_15_313 : gF shH 313 0 1 341 RX6 15 := ⟨13, 6, 3, shF_313, RX6, RX6, TX6, oH_313, rfl, rfl, by decide, iX6, wdF_RX6_15, rfl⟩
theorem fH_X6_15_314 : gF shH 314 0 1 342 RX6 15 := ⟨14, 6, 3, shF_314, RX6, RX6, TX6, oH_314, rfl, rfl, by decide, iX6, wdF_RX6_15, rfl⟩
theorem fH_X6_15_o : ∀ {o : Nat}, o < 3 → gF shH (312 + o) 0 1 (340 + o) RX6 15
  | 0, _ => fH_X6_15_312
  | 1, _ => fH_X6_15_313
  | 2, _ => fH_X6_15_314
theorem fH_X6_9_312 : gF shH 312 1 0 0 RX6 9 := ⟨12, 6, 3, shF_312, RX6, RX6, TX6, oH_312, rfl, rfl, by decide, iX6, wdF_RX6_9, rfl⟩
theorem fH_X6_9_313 : gF shH 313 1 0 0 RX6 9 := ⟨13, 6, 3, shF_313, RX6, RX6, TX6, oH_313, rfl, rfl, by decide, iX6, wdF_RX6_9, rfl⟩
theorem fH_X6_9_314 : gF shH 314 1 0 0 RX6 9 := ⟨14, 6, 3, shF_314, RX6, RX6, TX6, oH_314, rfl, rfl, by decide, iX6, wdF_RX6_9, rfl⟩
theorem fH_X6_9_o : ∀ {o : Nat}, o < 3 → gF shH (312 + o) 1 0 0 RX6 9
  | 0, _ => fH_X6_9_312
  | 1, _ => fH_X6_9_313
  | 2, _ => fH_X6_9_314
theorem fH_X6_19_312 : gF shH 312 2 0 0 RX6 19 := ⟨12, 6, 3, shF_312, RX6, RX6, TX6, oH_312, rfl, rfl, by decide, iX6, wdF_RX6_19, rfl⟩
theorem fH_X6_19_312w : gFw shH 312 2 0 0 RX6 19 .int := ⟨12, 6, 3, shF_312, RX6, RX6, TX6, tyX6, oH_312, rfl, rfl, by decide, iX6, wdF_RX6_19, rfl, tyX6_ok, nmX6, rfl, by decide +kernel, shH_U⟩
theorem fH_X6_19_313 : gF shH 313 2 0 0 RX6 19 := ⟨13, 6, 3, shF_313, RX6, RX6, TX6, oH_313, rfl, rfl, by decide, iX6, wdF_RX6_19, rfl⟩
theorem fH_X6_19_313w : gFw shH 313 2 0 0 RX6 19 .int := ⟨13, 6, 3, shF_313, RX6, RX6, TX6, tyX6, oH_313, rfl, rfl, by decide, iX6, wdF_RX6_19, rfl, tyX6_ok, nmX6, rfl, by decide +kernel, shH_U⟩
theorem fH_X6_19_314 : gF shH 314 2 0 0 RX6 19 := ⟨14, 6, 3, shF_314, RX6, RX6, TX6, oH_314, rfl, rfl, by decide, iX6, wdF_RX6_19, rfl⟩
theorem fH_X6_19_314w : gFw shH 314 2 0 0 RX6 19 .int := ⟨14, 6, 3, shF_314, RX6, RX6, TX6, tyX6, oH_314, rfl, rfl, by decide, iX6, wdF_RX6_19, rfl, tyX6_ok, nmX6, rfl, by decide +kernel, shH_U⟩
theorem fH_X6_19_o : ∀ {o : Nat}, o < 3 → gF shH (312 + o) 2 0 0 RX6 19
  | 0, _ => fH_X6_19_312
  | 1, _ => fH_X6_19_313
  | 2, _ => fH_X6_19_314
theorem fH_X6_19_ow : ∀ {o : Nat}, o < 3 → gFw shH (312 + o) 2 0 0 RX6 19 .int
  | 0, _ => fH_X6_19_312w
  | 1, _ => fH_X6_19_313w
  | 2, _ => fH_X6_19_314w
theorem fH_X7_107_312 : gF shH 312 2 0 0 RX7 107 := ⟨12, 6, 3, shF_312, RX6, RX6, TX6, oH_312, rfl, rfl, by decide, iX6, wdF_RX7_107, rfl⟩
theorem fH_X7_107_312w : gFw shH 312 2 0 0 RX7 107 .int := ⟨12, 6, 3, shF_312, RX6, RX6, TX6, tyX6, oH_312, rfl, rfl, by decide, iX6, wdF_RX7_107, rfl, tyX6_ok, nmX6, rfl, by decide +kernel, shH_U⟩
theorem fH_X7_107_313 : gF shH 313 2 0 0 RX7 107 := ⟨13, 6, 3, shF_313, RX6, RX6, TX6, oH_313, rfl, rfl, by decide, iX6, wdF_RX7_107, rfl⟩
theorem fH_X7_107_313w : gFw shH 313 2 0 0 RX7 107 .int := ⟨13, 6, 3, shF_313, RX6, RX6, TX6, tyX6, oH_313, rfl, rfl, by decide, iX6, wdF_RX7_107, rfl, tyX6_ok, nmX6, rfl, by decide +kernel, shH_U⟩
theorem fH_X7_107_314 : gF shH 314 2 0 0 RX7 107 := ⟨14, 6, 3, shF_314, RX6, RX6, TX6, oH_314, rfl, rfl, by decide, iX6, wdF_RX7_107, rfl⟩
theorem fH_X7_107_314w : gFw shH 314 2 0 0 RX7 107 .int := ⟨14, 6, 3, shF_314, RX6, RX6, TX6, tyX6, oH_314, rfl, rfl, by decide, iX6, wdF_RX7_107, rfl, tyX6_ok, nmX6, rfl, by decide +kernel, shH_U⟩
theorem fH_X7_107_o : ∀ {o : Nat}, o < 3 → gF shH (312 + o) 2 0 0 RX7 107
  | 0, _ => fH_X7_107_312
  | 1, _ => fH_X7_107_313
  | 2, _ => fH_X7_107_314
theorem fH_X7_107_ow : ∀ {o : Nat}, o < 3 → gFw shH (312 + o) 2 0 0 RX7 107 .int
  | 0, _ => fH_X7_107_312w
  | 1, _ => fH_X7_107_313w
  | 2, _ => fH_X7_107_314w
theorem fH_X11_168_312 : gF shH 312 2 0 0 RX11 168 := ⟨12, 6, 3, shF_312, RX6, RX6, TX6, oH_312, rfl, rfl, by decide, iX6, wdF_RX11_168, rfl⟩
theorem fH_X11_168_312w : gFw shH 312 2 0 0 RX11 168 .int := ⟨12, 6, 3, shF_312, RX6, RX6, TX6, tyX6, oH_312, rfl, rfl, by decide, iX6, wdF_RX11_168, rfl, tyX6_ok, nmX6, rfl, by decide +kernel, shH_U⟩
theorem fH_X11_168_313 : gF shH 313 2 0 0 RX11 168 := ⟨13, 6, 3, shF_313, RX6, RX6, TX6, oH_313, rfl, rfl, by decide, iX6, wdF_RX11_168, rfl⟩
theorem fH_X11_168_313w : gFw shH 313 2 0 0 RX11 168 .int := ⟨13, 6, 3, shF_313, RX6, RX6, TX6, tyX6, oH_313, rfl, rfl, by decide, iX6, wdF_RX11_168, rfl, tyX6_ok, nmX6, rfl, by decide +kernel, shH_U⟩
theorem fH_X11_168_314 : gF shH 314 2 0 0 RX11 168 := ⟨14, 6, 3, shF_314, RX6, RX6, TX6, oH_314, rfl, rfl, by decide, iX6, wdF_RX11_168, rfl⟩
theorem fH_X11_168_314w : gFw shH 314 2 0 0 RX11 168 .int := ⟨14, 6, 3, shF_314, RX6, RX6, TX6, tyX6, oH_314, rfl, rfl, by decide, iX6, wdF_RX11_168, rfl, tyX6_ok, nmX6, rfl, by decide +kernel, shH_U⟩
theorem fH_X11_168_o : ∀ {o : Nat}, o < 3 → gF shH (312 + o) 2 0 0 RX11 168
  | 0, _ => fH_X11_168_312
  | 1, _ => fH_X11_168_313
  | 2, _ => fH_X11_168_314
theorem fH_X11_168_ow : ∀ {o : Nat}, o < 3 → gFw shH (312 + o) 2 0 0 RX11 168 .int
  | 0, _ => fH_X11_168_312w
  | 1, _ => fH_X11_168_313w
  | 2, _ => fH_X11_168_314w
theorem fH_X0_14_302 : gF shH 302 0 1 312 RX0 14 := ⟨2, 0, 20, shF_302, RX0, RX0, TX0, oH_302, rfl, rfl, by decide, iX0, wdF_RX0_14, rfl⟩
theorem fH_X7_103_302 : gF shH 302 0 1 312 RX7 103 := ⟨2, 0, 20, shF_302, RX0, RX0, TX0, oH_302, rfl, rfl, by decide, iX0, wdF_RX7_103, rfl⟩
theorem fH_X11_275_302 : gF shH 302 0 1 312 RX11 275 := ⟨2, 0, 20, shF_302, RX0, RX0, TX0, oH_302, rfl, rfl, by decide, iX0, wdF_RX11_275, rfl⟩
theorem fH_X0_20_302 : gF shH 302 1 1 313 RX0 20 := ⟨2, 0, 20, shF_302, RX0, RX0, TX0, oH_302, rfl, rfl, by decide, iX0, wdF_RX0_20, rfl⟩
theorem fH_X7_110_302 : gF shH 302 1 1 313 RX7 110 := ⟨2, 0, 20, shF_302, RX0, RX0, TX0, oH_302, rfl, rfl, by decide, iX0, wdF_RX7_110, rfl⟩
theorem fH_X11_278_302 : gF shH 302 1 1 313 RX11 278 := ⟨2, 0, 20, shF_302, RX0, RX0, TX0, oH_302, rfl, rfl, by decide, iX0, wdF_RX11_278, rfl⟩
theorem fH_X0_23_302 : gF shH 302 2 1 314 RX0 23 := ⟨2, 0, 20, shF_302, RX0, RX0, TX0, oH_302, rfl, rfl, by decide, iX0, wdF_RX0_23, rfl⟩
theorem fH_X7_113_302 : gF shH 302 2 1 314 RX7 113 := ⟨2, 0, 20, shF_302, RX0, RX0, TX0, oH_302, rfl, rfl, by decide, iX0, wdF_RX7_113, rfl⟩
theorem fH_X11_164_302 : gF shH 302 2 1 314 RX11 164 := ⟨2, 0, 20, shF_302, RX0, RX0, TX0, oH_302, rfl, rfl, by decide, iX0, wdF_RX11_164, rfl⟩
theorem fH_X0_26_302 : gF shH 302 3 1 350 RX0 26 := ⟨2, 0, 20, shF_302, RX0, RX0, TX0, oH_302, rfl, rfl, by decide, iX0, wdF_RX0_26, rfl⟩
theorem fH_X2_49_302 : gF shH 302 3 1 350 RX2 49 := ⟨2, 0, 20, shF_302, RX0, RX0, TX0, oH_302, rfl, rfl, by decide, iX0, wdF_RX2_49, rfl⟩
theorem fH_X1_209_302 : gF shH 302 3 1 350 RX1 209 := ⟨2, 0, 20, shF_302, RX0, RX0, TX0, oH_302, rfl, rfl, by decide, iX0, wdF_RX1_209, rfl⟩
theorem fH_X7_150_302 : gF shH 302 3 1 350 RX7 150 := ⟨2, 0, 20, shF_302, RX0, RX0, TX0, oH_302, rfl, rfl, by decide, iX0, wdF_RX7_150, rfl⟩
theorem fH_X0_30_302 : gF shH 302 4 1 351 RX0 30 := ⟨2, 0, 20, shF_302, RX0, RX0, TX0, oH_302, rfl, rfl, by decide, iX0, wdF_RX0_30, rfl⟩
theorem fH_X2_38_302 : gF shH 302 4 1 351 RX2 38 := ⟨2, 0, 20, shF_302, RX0, RX0, TX0, oH_302, rfl, rfl, by decide, iX0, wdF_RX2_38, rfl⟩
theorem fH_X1_203_302 : gF shH 302 4 1 351 RX1 203 := ⟨2, 0, 20, shF_302, RX0, RX0, TX0, oH_302, rfl, rfl, by decide, iX0, wdF_RX1_203, rfl⟩
theorem fH_X0_33_302 : gF shH 302 5 1 352 RX0 33 := ⟨2, 0, 20, shF_302, RX0, RX0, TX0, oH_302, rfl, rfl, by decide, iX0, wdF_RX0_33, rfl⟩
theorem fH_X2_46_302 : gF shH 302 5 1 352 RX2 46 := ⟨2, 0, 20, shF_302, RX0, RX0, TX0, oH_302, rfl, rfl, by decide, iX0, wdF_RX2_46, rfl⟩
theorem fH_X1_206_302 : gF shH 302 5 1 352 RX1 206 := ⟨2, 0, 20, shF_302, RX0, RX0, TX0, oH_302, rfl, rfl, by decide, iX0, wdF_RX1_206, rfl⟩
theorem fH_X0_36_302 : gF shH 302 6 1 353 RX0 36 := ⟨2, 0, 20, shF_302, RX0, RX0, TX0, oH_302, rfl, rfl, by decide, iX0, wdF_RX0_36, rfl⟩
theorem fH_X2_56_302 : gF shH 302 6 1 353 RX2 56 := ⟨2, 0, 20, shF_302, RX0, RX0, TX0, oH_302, rfl, rfl, by decide, iX0, wdF_RX2_56, rfl⟩
theorem fH_X0_39_302 : gF shH 302 7 1 354 RX0 39 := ⟨2, 0, 20, shF_302, RX0, RX0, TX0, oH_302, rfl, rfl, by decide, iX0, wdF_RX0_39, rfl⟩
theorem fH_X1_181_302 : gF shH 302 7 1 354 RX1 181 := ⟨2, 0, 20, shF_302, RX0, RX0, TX0, oH_302, rfl, rfl, by decide, iX0, wdF_RX1_181, rfl⟩
theorem fH_X7_168_302 : gF shH 302 7 1 354 RX7 168 := ⟨2, 0, 20, shF_302, RX0, RX0, TX0, oH_302, rfl, rfl, by decide, iX0, wdF_RX7_168, rfl⟩
theorem fH_X0_42_302 : gF shH 302 8 1 355 RX0 42 := ⟨2, 0, 20, shF_302, RX0, RX0, TX0, oH_302, rfl, rfl, by decide, iX0, wdF_RX0_42, rfl⟩
theorem fH_X1_146_302 : gF shH 302 8 1 355 RX1 146 := ⟨2, 0, 20, shF_302, RX0, RX0, TX0, oH_302, rfl, rfl, by decide, iX0, wdF_RX1_146, rfl⟩
theorem fH_X7_175_302 : gF shH 302 8 1 355 RX7 175 := ⟨2, 0, 20, shF_302, RX0, RX0, TX0, oH_302, rfl, rfl, by decide, iX0, wdF_RX7_175, rfl⟩
theorem fH_X0_45_302 : gF shH 302 9 1 356 RX0 45 := ⟨2, 0, 20, shF_302, RX0, RX0, TX0, oH_302, rfl, rfl, by decide, iX0, wdF_RX0_45, rfl⟩
theorem fH_X7_178_302 : gF shH 302 9 1 356 RX7 178 := ⟨2, 0, 20, shF_302, RX0, RX0, TX0, oH_302, rfl, rfl, by decide, iX0, wdF_RX7_178, rfl⟩
theorem fH_X0_48_302 : gF shH 302 10 1 357 RX0 48 := ⟨2, 0, 20, shF_302, RX0, RX0, TX0, oH_302, rfl, rfl, by decide, iX0, wdF_RX0_48, rfl⟩
theorem fH_X1_216_302 : gF shH 302 10 1 357 RX1 216 := ⟨2, 0, 20, shF_302, RX0, RX0, TX0, oH_302, rfl, rfl, by decide, iX0, wdF_RX1_216, rfl⟩
theorem fH_X7_187_302 : gF shH 302 10 1 357 RX7 187 := ⟨2, 0, 20, shF_302, RX0, RX0, TX0, oH_302, rfl, rfl, by decide, iX0, wdF_RX7_187, rfl⟩
theorem fH_X0_51_302 : gF shH 302 11 1 358 RX0 51 := ⟨2, 0, 20, shF_302, RX0, RX0, TX0, oH_302, rfl, rfl, by decide, iX0, wdF_RX0_51, rfl⟩
theorem fH_X1_219_302 : gF shH 302 11 1 358 RX1 219 := ⟨2, 0, 20, shF_302, RX0, RX0, TX0, oH_302, rfl, rfl, by decide, iX0, wdF_RX1_219, rfl⟩
theorem fH_X7_190_302 : gF shH 302 11 1 358 RX7 190 := ⟨2, 0, 20, shF_302, RX0, RX0, TX0, oH_302, rfl, rfl, by decide, iX0, wdF_RX7_190, rfl⟩
theorem fH_X0_54_302 : gF shH 302 12 1 359 RX0 54 := ⟨2, 0, 20, shF_302, RX0, RX0, TX0, oH_302, rfl, rfl, by decide, iX0, wdF_RX0_54, rfl⟩
theorem fH_X1_229_302 : gF shH 302 12 1 359 RX1 229 := ⟨2, 0, 20, shF_302, RX0, RX0, TX0, oH_302, rfl, rfl, by decide, iX0, wdF_RX1_229, rfl⟩
theorem fH_X7_193_302 : gF shH 302 12 1 359 RX7 193 := ⟨2, 0, 20, shF_302, RX0, RX0, TX0, oH_302, rfl, rfl, by decide, iX0, wdF_RX7_193, rfl⟩
theorem fH_X0_57_302 : gF shH 302 13 1 360 RX0 57 := ⟨2, 0, 20, shF_302, RX0, RX0, TX0, oH_302, rfl, rfl, by decide, iX0, wdF_RX0_57, rfl⟩
theorem fH_X8_37_302 : gF shH 302 13 1 360 RX8 37 := ⟨2, 0, 20, shF_302, RX0, RX0, TX0, oH_302, rfl, rfl, by decide, iX0, wdF_RX8_37, rfl⟩
theorem fH_X7_202_302 : gF shH 302 13 1 360 RX7 202 := ⟨2, 0, 20, shF_302, RX0, RX0, TX0, oH_302, rfl, rfl, by decide, iX0, wdF_RX7_202, rfl⟩
theorem fH_X0_60_302 : gF shH 302 14 1 361 RX0 60 := ⟨2, 0, 20, shF_302, RX0, RX0, TX0, oH_302, rfl, rfl, by decide, iX0, wdF_RX0_60, rfl⟩
theorem fH_X9_117_302 : gF shH 302 14 1 361 RX9 117 := ⟨2, 0, 20, shF_302, RX0, RX0, TX0, oH_302, rfl, rfl, by decide, iX0, wdF_RX9_117, rfl⟩
theorem fH_X11_214_302 : gF shH 302 14 1 361 RX11 214 := ⟨2, 0, 20, shF_302, RX0, RX0, TX0, oH_302, rfl, rfl, by decide, iX0, wdF_RX11_214, rfl⟩
theorem fH_X0_63_302 : gF shH 302 15 1 362 RX0 63 := ⟨2, 0, 20, shF_302, RX0, RX0, TX0, oH_302, rfl, rfl, by decide, iX0, wdF_RX0_63, rfl⟩
theorem fH_X9_154_302 : gF shH 302 15 1 362 RX9 154 := ⟨2, 0, 20, shF_302, RX0, RX0, TX0, oH_302, rfl, rfl, by decide, iX0, wdF_RX9_154, rfl⟩
theorem fH_X9_77_302 : gF shH 302 16 0 0 RX9 77 := ⟨2, 0, 20, shF_302, RX0, RX0, TX0, oH_302, rfl, rfl, by decide, iX0, wdF_RX9_77, rfl⟩
theorem fH_X9_77_302w : gFw shH 302 16 0 0 RX9 77 .int := ⟨2, 0, 20, shF_302, RX0, RX0, TX0, tyX0, oH_302, rfl, rfl, by decide, iX0, wdF_RX9_77, rfl, tyX0_ok, nmX0, rfl, by decide +kernel, shH_U⟩
theorem fH_X7_116_302 : gF shH 302 16 0 0 RX7 116 := ⟨2, 0, 20, shF_302, RX0, RX0, TX0, oH_302, rfl, rfl, by decide, iX0, wdF_RX7_116, rfl⟩
theorem fH_X7_116_302w : gFw shH 302 16 0 0 RX7 116 .int := ⟨2, 0, 20, shF_302, RX0, RX0, TX0, tyX0, oH_302, rfl, rfl, by decide, iX0, wdF_RX7_116, rfl, tyX0_ok, nmX0, rfl, by decide +kernel, shH_U⟩
theorem fH_X0_84_302 : gF shH 302 16 0 0 RX0 84 := ⟨2, 0, 20, shF_302, RX0, RX0, TX0, oH_302, rfl, rfl, by decide, iX0, wdF_RX0_84, rfl⟩
theorem fH_X0_84_302w : gFw shH 302 16 0 0 RX0 84 .int := ⟨2, 0, 20, shF_302, RX0, RX0, TX0, tyX0, oH_302, rfl, rfl, by decide, iX0, wdF_RX0_84, rfl, tyX0_ok, nmX0, rfl, by decide +kernel, shH_U⟩
theorem fH_X11_211_302 : gF shH 302 16 0 0 RX11 211 := ⟨2, 0, 20, shF_302, RX0, RX0, TX0, oH_302, rfl, rfl, by decide, iX0, wdF_RX11_211, rfl⟩
theorem fH_X11_211_302w : gFw shH 302 16 0 0 RX11 211 .int := ⟨2, 0, 20, shF_302, RX0, RX0, TX0, tyX0, oH_302, rfl, rfl, by decide, iX0, wdF_RX11_211, rfl, tyX0_ok, nmX0, rfl, by decide +kernel, shH_U⟩
theorem fH_X0_66_302 : gF shH 302 17 1 363 RX0 66 := ⟨2, 0, 20, shF_302, RX0, RX0, TX0, oH_302, rfl, rfl, by decide, iX0, wdF_RX0_66, rfl⟩
theorem fH_X0_69_302 : gF shH 302 18 0 0 RX0 69 := ⟨2, 0, 20, shF_302, RX0, RX0, TX0, oH_302, rfl, rfl, by decide, iX0, wdF_RX0_69, rfl⟩
theorem fH_X0_69_302w : gFw shH 302 18 0 0 RX0 69 .int := ⟨2, 0, 20, shF_302, RX0, RX0, TX0, tyX0, oH_302, rfl, rfl, by decide, iX0, wdF_RX0_69, rfl, tyX0_ok, nmX0, rfl, by decide +kernel, shH_U⟩
theorem fH_X1_53_302 : gF shH 302 18 0 0 RX1 53 := ⟨2, 0, 20, shF_302, RX0, RX0, TX0, oH_302, rfl, rfl, by decide, iX0, wdF_RX1_53, rfl⟩
theorem fH_X1_53_302w : gFw shH 302 18 0 0 RX1 53 .int := ⟨2, 0, 20, shF_302, RX0, RX0, TX0, tyX0, oH_302, rfl, rfl, by decide, iX0, wdF_RX1_53, rfl, tyX0_ok, nmX0, rfl, by decide +kernel, shH_U⟩
theorem fH_X11_128_302 : gF shH 302 18 0 0 RX11 128 := ⟨2, 0, 20, shF_302, RX0, RX0, TX0, oH_302, rfl, rfl, by decide, iX0, wdF_RX11_128, rfl⟩
theorem fH_X11_128_302w : gFw shH 302 18 0 0 RX11 128 .int := ⟨2, 0, 20, shF_302, RX0, RX0, TX0, tyX0, oH_302, rfl, rfl, by decide, iX0, wdF_RX11_128, rfl, tyX0_ok, nmX0, rfl, by decide +kernel, shH_U⟩
theorem fH_X7_119_302 : gF shH 302 18 0 0 RX7 119 := ⟨2, 0, 20, shF_302, RX0, RX0, TX0, oH_302, rfl, rfl, by decide, iX0, wdF_RX7_119, rfl⟩
theorem fH_X7_119_302w : gFw shH 302 18 0 0 RX7 119 .int := ⟨2, 0, 20, shF_302, RX0, RX0, TX0, tyX0, oH_302, rfl, rfl, by decide, iX0, wdF_RX7_119, rfl, tyX0_ok, nmX0, rfl, by decide +kernel, shH_U⟩
theorem fH_X7_122_302 : gF shH 302 19 0 0 RX7 122 := ⟨2, 0, 20, shF_302, RX0, RX0, TX0, oH_302, rfl, rfl, by decide, iX0, wdF_RX7_122, rfl⟩
theorem fH_X7_122_302w : gFw shH 302 19 0 0 RX7 122 .int := ⟨2, 0, 20, shF_302, RX0, RX0, TX0, tyX0, oH_302, rfl, rfl, by decide, iX0, wdF_RX7_122, rfl, tyX0_ok, nmX0, rfl, by decide +kernel, shH_U⟩
theorem fH_X11_287_302 : gF shH 302 19 0 0 RX11 287 := ⟨2, 0, 20, shF_302, RX0, RX0, TX0, oH_302, rfl, rfl, by decide, iX0, wdF_RX11_287, rfl⟩
theorem fH_X11_287_302w : gFw shH 302 19 0 0 RX11 287 .int := ⟨2, 0, 20, shF_302, RX0, RX0, TX0, tyX0, oH_302, rfl, rfl, by decide, iX0, wdF_RX11_287, rfl, tyX0_ok, nmX0, rfl, by decide +kernel, shH_U⟩
theorem fH_X7_15_303 : gF shH 303 0 1 301 RX7 15 := ⟨3, 7, 13, shF_303, RX7, RX7, TX7, oH_303, rfl, rfl, by decide, iX7, wdF_RX7_15, rfl⟩
theorem fH_X7_19_303 : gF shH 303 1 1 302 RX7 19 := ⟨3, 7, 13, shF_303, RX7, RX7, TX7, oH_303, rfl, rfl, by decide, iX7, wdF_RX7_19, rfl⟩
theorem fH_X7_77_303 : gF shH 303 2 0 0 RX7 77 := ⟨3, 7, 13, shF_303, RX7, RX7, TX7, oH_303, rfl, rfl, by decide, iX7, wdF_RX7_77, rfl⟩
theorem fH_X7_77_303w : gFw shH 303 2 0 0 RX7 77 .int := ⟨3, 7, 13, shF_303, RX7, RX7, TX7, tyX7, oH_303, rfl, rfl, by decide, iX7, wdF_RX7_77, rfl, tyX7_ok, nmX7, rfl, by decide +kernel, shH_U⟩
theorem fH_X7_29_303 : gF shH 303 3 0 0 RX7 29 := ⟨3, 7, 13, shF_303, RX7, RX7, TX7, oH_303, rfl, rfl, by decide, iX7, wdF_RX7_29, rfl⟩
theorem fH_X7_29_303w : gFw shH 303 3 0 0 RX7 29 .int := ⟨3, 7, 13, shF_303, RX7, RX7, TX7, tyX7, oH_303, rfl, rfl, by decide, iX7, wdF_RX7_29, rfl, tyX7_ok, nmX7, rfl, by decide +kernel, shH_U⟩
theorem fH_X7_90_303 : gF shH 303 4 0 0 RX7 90 := ⟨3, 7, 13, shF_303, RX7, RX7, TX7, oH_303, rfl, rfl, by decide, iX7, wdF_RX7_90, rfl⟩
theorem fH_X7_90_303w : gFw shH 303 4 0 0 RX7 90 .int := ⟨3, 7, 13, shF_303, RX7, RX7, TX7, tyX7, oH_303, rfl, rfl, by decide, iX7, wdF_RX7_90, rfl, tyX7_ok, nmX7, rfl, by decide +kernel, shH_U⟩
theorem fH_X11_118_303 : gF shH 303 5 0 0 RX11 118 := ⟨3, 7, 13, shF_303, RX7, RX7, TX7, oH_303, rfl, rfl, by decide, iX7, wdF_RX11_118, rfl⟩
theorem fH_X11_118_303w : gFw shH 303 5 0 0 RX11 118 .int := ⟨3, 7, 13, shF_303, RX7, RX7, TX7, tyX7, oH_303, rfl, rfl, by decide, iX7, wdF_RX11_118, rfl, tyX7_ok, nmX7, rfl, by decide +kernel, shH_U⟩
theorem fH_X7_93_303 : gF shH 303 5 0 0 RX7 93 := ⟨3, 7, 13, shF_303, RX7, RX7, TX7, oH_303, rfl, rfl, by decide, iX7, wdF_RX7_93, rfl⟩
theorem fH_X7_93_303w : gFw shH 303 5 0 0 RX7 93 .int := ⟨3, 7, 13, shF_303, RX7, RX7, TX7, tyX7, oH_303, rfl, rfl, by decide, iX7, wdF_RX7_93, rfl, tyX7_ok, nmX7, rfl, by decide +kernel, shH_U⟩
theorem fH_X7_96_303 : gF shH 303 6 0 0 RX7 96 := ⟨3, 7, 13, shF_303, RX7, RX7, TX7, oH_303, rfl, rfl, by decide, iX7, wdF_RX7_96, rfl⟩
theorem fH_X7_96_303w : gFw shH 303 6 0 0 RX7 96 .int := ⟨3, 7, 13, shF_303, RX7, RX7, TX7, tyX7, oH_303, rfl, rfl, by decide, iX7, wdF_RX7_96, rfl, tyX7_ok, nmX7, rfl, by decide +kernel, shH_U⟩
theorem fH_X7_99_303 : gF shH 303 7 0 0 RX7 99 := ⟨3, 7, 13, shF_303, RX7, RX7, TX7, oH_303, rfl, rfl, by decide, iX7, wdF_RX7_99, rfl⟩
theorem fH_X7_99_303w : gFw shH 303 7 0 0 RX7 99 .boolean := ⟨3, 7, 13, shF_303, RX7, RX7, TX7, tyX7, oH_303, rfl, rfl, by decide, iX7, wdF_RX7_99, rfl, tyX7_ok, nmX7, rfl, by decide +kernel, shH_U⟩
theorem fH_X7_130_303 : gF shH 303 8 0 0 RX7 130 := ⟨3, 7, 13, shF_303, RX7, RX7, TX7, oH_303, rfl, rfl, by decide, iX7, wdF_RX7_130, rfl⟩
theorem fH_X7_130_303w : gFw shH 303 8 0 0 RX7 130 .int := ⟨3, 7, 13, shF_303, RX7, RX7, TX7, tyX7, oH_303, rfl, rfl, by decide, iX7, wdF_RX7_130, rfl, tyX7_ok, nmX7, rfl, by decide +kernel, shH_U⟩
theorem fH_X7_137_303 : gF shH 303 9 0 0 RX7 137 := ⟨3, 7, 13, shF_303, RX7, RX7, TX7, oH_303, rfl, rfl, by decide, iX7, wdF_RX7_137, rfl⟩
theorem fH_X7_137_303w : gFw shH 303 9 0 0 RX7 137 .int := ⟨3, 7, 13, shF_303, RX7, RX7, TX7, tyX7, oH_303, rfl, rfl, by decide, iX7, wdF_RX7_137, rfl, tyX7_ok, nmX7, rfl, by decide +kernel, shH_U⟩
theorem fH_X7_244_303 : gF shH 303 10 0 0 RX7 244 := ⟨3, 7, 13, shF_303, RX7, RX7, TX7, oH_303, rfl, rfl, by decide, iX7, wdF_RX7_244, rfl⟩
theorem fH_X7_244_303w : gFw shH 303 10 0 0 RX7 244 .int := ⟨3, 7, 13, shF_303, RX7, RX7, TX7, tyX7, oH_303, rfl, rfl, by decide, iX7, wdF_RX7_244, rfl, tyX7_ok, nmX7, rfl, by decide +kernel, shH_U⟩
theorem fH_X7_205_303 : gF shH 303 11 0 0 RX7 205 := ⟨3, 7, 13, shF_303, RX7, RX7, TX7, oH_303, rfl, rfl, by decide, iX7, wdF_RX7_205, rfl⟩
theorem fH_X7_205_303w : gFw shH 303 11 0 0 RX7 205 .int := ⟨3, 7, 13, shF_303, RX7, RX7, TX7, tyX7, oH_303, rfl, rfl, by decide, iX7, wdF_RX7_205, rfl, tyX7_ok, nmX7, rfl, by decide +kernel, shH_U⟩
theorem fH_X7_9_303 : gF shH 303 12 1 365 RX7 9 := ⟨3, 7, 13, shF_303, RX7, RX7, TX7, oH_303, rfl, rfl, by decide, iX7, wdF_RX7_9, rfl⟩
theorem fH_X2_29_311 : gF shH 311 0 1 302 RX2 29 := ⟨11, 2, 10, shF_311, RX2, RX2, TX2, oH_311, rfl, rfl, by decide, iX2, wdF_RX2_29, rfl⟩
theorem fH_X2_9_311 : gF shH 311 1 1 380 RX2 9 := ⟨11, 2, 10, shF_311, RX2, RX2, TX2, oH_311, rfl, rfl, by decide, iX2, wdF_RX2_9, rfl⟩
theorem fH_X2_15_311 : gF shH 311 2 1 381 RX2 15 := ⟨11, 2, 10, shF_311, RX2, RX2, TX2, oH_311, rfl, rfl, by decide, iX2, wdF_RX2_15, rfl⟩
theorem fH_X2_62_311 : gF shH 311 3 3 0 RX2 62 := ⟨11, 2, 10, shF_311, RX2, RX2, TX2, oH_311, rfl, rfl, by decide, iX2, wdF_RX2_62, rfl⟩
theorem fH_X2_62_311w : gFw shH 311 3 3 0 RX2 62 (.object "CallerHall$Floor") := ⟨11, 2, 10, shF_311, RX2, RX2, TX2, tyX2, oH_311, rfl, rfl, by decide, iX2, wdF_RX2_62, rfl, tyX2_ok, nmX2, rfl, by decide +kernel, shH_U⟩
theorem fH_X2_70_311 : gF shH 311 4 0 0 RX2 70 := ⟨11, 2, 10, shF_311, RX2, RX2, TX2, oH_311, rfl, rfl, by decide, iX2, wdF_RX2_70, rfl⟩
theorem fH_X2_70_311w : gFw shH 311 4 0 0 RX2 70 .int := ⟨11, 2, 10, shF_311, RX2, RX2, TX2, tyX2, oH_311, rfl, rfl, by decide, iX2, wdF_RX2_70, rfl, tyX2_ok, nmX2, rfl, by decide +kernel, shH_U⟩
theorem fH_X2_73_311 : gF shH 311 5 2 0 RX2 73 := ⟨11, 2, 10, shF_311, RX2, RX2, TX2, oH_311, rfl, rfl, by decide, iX2, wdF_RX2_73, rfl⟩
theorem fH_X2_73_311w : gFw shH 311 5 2 0 RX2 73 .long := ⟨11, 2, 10, shF_311, RX2, RX2, TX2, tyX2, oH_311, rfl, rfl, by decide, iX2, wdF_RX2_73, rfl, tyX2_ok, nmX2, rfl, by decide +kernel, shH_U⟩
theorem fH_X2_18_311 : gF shH 311 6 1 382 RX2 18 := ⟨11, 2, 10, shF_311, RX2, RX2, TX2, oH_311, rfl, rfl, by decide, iX2, wdF_RX2_18, rfl⟩
theorem fH_X2_22_311 : gF shH 311 7 1 383 RX2 22 := ⟨11, 2, 10, shF_311, RX2, RX2, TX2, oH_311, rfl, rfl, by decide, iX2, wdF_RX2_22, rfl⟩
theorem fH_X2_25_311 : gF shH 311 8 1 384 RX2 25 := ⟨11, 2, 10, shF_311, RX2, RX2, TX2, oH_311, rfl, rfl, by decide, iX2, wdF_RX2_25, rfl⟩
theorem fH_X2_99_311 : gF shH 311 9 0 0 RX2 99 := ⟨11, 2, 10, shF_311, RX2, RX2, TX2, oH_311, rfl, rfl, by decide, iX2, wdF_RX2_99, rfl⟩
theorem fH_X2_99_311w : gFw shH 311 9 0 0 RX2 99 .int := ⟨11, 2, 10, shF_311, RX2, RX2, TX2, tyX2, oH_311, rfl, rfl, by decide, iX2, wdF_RX2_99, rfl, tyX2_ok, nmX2, rfl, by decide +kernel, shH_U⟩
theorem fH_X1_187_311 : gF shH 311 9 0 0 RX1 187 := ⟨11, 2, 10, shF_311, RX2, RX2, TX2, oH_311, rfl, rfl, by decide, iX2, wdF_RX1_187, rfl⟩
theorem fH_X1_187_311w : gFw shH 311 9 0 0 RX1 187 .int := ⟨11, 2, 10, shF_311, RX2, RX2, TX2, tyX2, oH_311, rfl, rfl, by decide, iX2, wdF_RX1_187, rfl, tyX2_ok, nmX2, rfl, by decide +kernel, shH_U⟩
theorem fH_X1_40_304 : gF shH 304 0 1 302 RX1 40 := ⟨4, 1, 17, shF_304, RX1, RX1, TX1, oH_304, rfl, rfl, by decide, iX1, wdF_RX1_40, rfl⟩
theorem fH_X1_49_304 : gF shH 304 1 1 311 RX1 49 := ⟨4, 1, 17, shF_304, RX1, RX1, TX1, oH_304, rfl, rfl, by decide, iX1, wdF_RX1_49, rfl⟩
theorem fH_X1_11_304 : gF shH 304 2 1 370 RX1 11 := ⟨4, 1, 17, shF_304, RX1, RX1, TX1, oH_304, rfl, rfl, by decide, iX1, wdF_RX1_11, rfl⟩
theorem fH_X1_15_304 : gF shH 304 3 1 371 RX1 15 := ⟨4, 1, 17, shF_304, RX1, RX1, TX1, oH_304, rfl, rfl, by decide, iX1, wdF_RX1_15, rfl⟩
theorem fH_X1_18_304 : gF shH 304 4 1 372 RX1 18 := ⟨4, 1, 17, shF_304, RX1, RX1, TX1, oH_304, rfl, rfl, by decide, iX1, wdF_RX1_18, rfl⟩
theorem fH_X1_22_304 : gF shH 304 5 1 373 RX1 22 := ⟨4, 1, 17, shF_304, RX1, RX1, TX1, oH_304, rfl, rfl, by decide, iX1, wdF_RX1_22, rfl⟩
theorem fH_X1_25_304 : gF shH 304 6 1 374 RX1 25 := ⟨4, 1, 17, shF_304, RX1, RX1, TX1, oH_304, rfl, rfl, by decide, iX1, wdF_RX1_25, rfl⟩
theorem fH_X1_28_304 : gF shH 304 7 1 375 RX1 28 := ⟨4, 1, 17, shF_304, RX1, RX1, TX1, oH_304, rfl, rfl, by decide, iX1, wdF_RX1_28, rfl⟩
theorem fH_X1_31_304 : gF shH 304 8 1 376 RX1 31 := ⟨4, 1, 17, shF_304, RX1, RX1, TX1, oH_304, rfl, rfl, by decide, iX1, wdF_RX1_31, rfl⟩
theorem fH_X9_130_304 : gF shH 304 8 1 376 RX9 130 := ⟨4, 1, 17, shF_304, RX1, RX1, TX1, oH_304, rfl, rfl, by decide, iX1, wdF_RX9_130, rfl⟩
theorem fH_X1_34_304 : gF shH 304 9 1 377 RX1 34 := ⟨4, 1, 17, shF_304, RX1, RX1, TX1, oH_304, rfl, rfl, by decide, iX1, wdF_RX1_34, rfl⟩
theorem fH_X1_37_304 : gF shH 304 10 1 378 RX1 37 := ⟨4, 1, 17, shF_304, RX1, RX1, TX1, oH_304, rfl, rfl, by decide, iX1, wdF_RX1_37, rfl⟩
theorem fH_X1_235_304 : gF shH 304 11 0 0 RX1 235 := ⟨4, 1, 17, shF_304, RX1, RX1, TX1, oH_304, rfl, rfl, by decide, iX1, wdF_RX1_235, rfl⟩
theorem fH_X1_235_304w : gFw shH 304 11 0 0 RX1 235 .int := ⟨4, 1, 17, shF_304, RX1, RX1, TX1, tyX1, oH_304, rfl, rfl, by decide, iX1, wdF_RX1_235, rfl, tyX1_ok, nmX1, rfl, by decide +kernel, shH_U⟩
theorem fH_X8_88_304 : gF shH 304 12 0 0 RX8 88 := ⟨4, 1, 17, shF_304, RX1, RX1, TX1, oH_304, rfl, rfl, by decide, iX1, wdF_RX8_88, rfl⟩
theorem fH_X8_88_304w : gFw shH 304 12 0 0 RX8 88 .int := ⟨4, 1, 17, shF_304, RX1, RX1, TX1, tyX1, oH_304, rfl, rfl, by decide, iX1, wdF_RX8_88, rfl, tyX1_ok, nmX1, rfl, by decide +kernel, shH_U⟩
theorem fH_X1_129_304 : gF shH 304 12 0 0 RX1 129 := ⟨4, 1, 17, shF_304, RX1, RX1, TX1, oH_304, rfl, rfl, by decide, iX1, wdF_RX1_129, rfl⟩
theorem fH_X1_129_304w : gFw shH 304 12 0 0 RX1 129 .int := ⟨4, 1, 17, shF_304, RX1, RX1, TX1, tyX1, oH_304, rfl, rfl, by decide, iX1, wdF_RX1_129, rfl, tyX1_ok, nmX1, rfl, by decide +kernel, shH_U⟩
theorem fH_X1_136_304 : gF shH 304 13 0 0 RX1 136 := ⟨4, 1, 17, shF_304, RX1, RX1, TX1, oH_304, rfl, rfl, by decide, iX1, wdF_RX1_136, rfl⟩
theorem fH_X1_136_304w : gFw shH 304 13 0 0 RX1 136 .int := ⟨4, 1, 17, shF_304, RX1, RX1, TX1, tyX1, oH_304, rfl, rfl, by decide, iX1, wdF_RX1_136, rfl, tyX1_ok, nmX1, rfl, by decide +kernel, shH_U⟩
theorem fH_X11_296_304 : gF shH 304 13 0 0 RX11 296 := ⟨4, 1, 17, shF_304, RX1, RX1, TX1, oH_304, rfl, rfl, by decide, iX1, wdF_RX11_296, rfl⟩
theorem fH_X11_296_304w : gFw shH 304 13 0 0 RX11 296 .int := ⟨4, 1, 17, shF_304, RX1, RX1, TX1, tyX1, oH_304, rfl, rfl, by decide, iX1, wdF_RX11_296, rfl, tyX1_ok, nmX1, rfl, by decide +kernel, shH_U⟩
theorem fH_X1_143_304 : gF shH 304 14 0 0 RX1 143 := ⟨4, 1, 17, shF_304, RX1, RX1, TX1, oH_304, rfl, rfl, by decide, iX1, wdF_RX1_143, rfl⟩
theorem fH_X1_143_304w : gFw shH 304 14 0 0 RX1 143 .int := ⟨4, 1, 17, shF_304, RX1, RX1, TX1, tyX1, oH_304, rfl, rfl, by decide, iX1, wdF_RX1_143, rfl, tyX1_ok, nmX1, rfl, by decide +kernel, shH_U⟩
theorem fH_X11_297_304 : gF shH 304 14 0 0 RX11 297 := ⟨4, 1, 17, shF_304, RX1, RX1, TX1, oH_304, rfl, rfl, by decide, iX1, wdF_RX11_297, rfl⟩
theorem fH_X11_297_304w : gFw shH 304 14 0 0 RX11 297 .int := ⟨4, 1, 17, shF_304, RX1, RX1, TX1, tyX1, oH_304, rfl, rfl, by decide, iX1, wdF_RX11_297, rfl, tyX1_ok, nmX1, rfl, by decide +kernel, shH_U⟩
theorem fH_X1_167_304 : gF shH 304 15 0 0 RX1 167 := ⟨4, 1, 17, shF_304, RX1, RX1, TX1, oH_304, rfl, rfl, by decide, iX1, wdF_RX1_167, rfl⟩
theorem fH_X1_167_304w : gFw shH 304 15 0 0 RX1 167 .int := ⟨4, 1, 17, shF_304, RX1, RX1, TX1, tyX1, oH_304, rfl, rfl, by decide, iX1, wdF_RX1_167, rfl, tyX1_ok, nmX1, rfl, by decide +kernel, shH_U⟩
theorem fH_X11_300_304 : gF shH 304 15 0 0 RX11 300 := ⟨4, 1, 17, shF_304, RX1, RX1, TX1, oH_304, rfl, rfl, by decide, iX1, wdF_RX11_300, rfl⟩
theorem fH_X11_300_304w : gFw shH 304 15 0 0 RX11 300 .int := ⟨4, 1, 17, shF_304, RX1, RX1, TX1, tyX1, oH_304, rfl, rfl, by decide, iX1, wdF_RX11_300, rfl, tyX1_ok, nmX1, rfl, by decide +kernel, shH_U⟩
theorem fH_X1_170_304 : gF shH 304 16 0 0 RX1 170 := ⟨4, 1, 17, shF_304, RX1, RX1, TX1, oH_304, rfl, rfl, by decide, iX1, wdF_RX1_170, rfl⟩
theorem fH_X1_170_304w : gFw shH 304 16 0 0 RX1 170 .int := ⟨4, 1, 17, shF_304, RX1, RX1, TX1, tyX1, oH_304, rfl, rfl, by decide, iX1, wdF_RX1_170, rfl, tyX1_ok, nmX1, rfl, by decide +kernel, shH_U⟩
theorem fH_X11_303_304 : gF shH 304 16 0 0 RX11 303 := ⟨4, 1, 17, shF_304, RX1, RX1, TX1, oH_304, rfl, rfl, by decide, iX1, wdF_RX11_303, rfl⟩
theorem fH_X11_303_304w : gFw shH 304 16 0 0 RX11 303 .int := ⟨4, 1, 17, shF_304, RX1, RX1, TX1, tyX1, oH_304, rfl, rfl, by decide, iX1, wdF_RX11_303, rfl, tyX1_ok, nmX1, rfl, by decide +kernel, shH_U⟩
theorem fH_X3_9_305 : gF shH 305 0 1 390 RX3 9 := ⟨5, 3, 10, shF_305, RX3, RX3, TX3, oH_305, rfl, rfl, by decide, iX3, wdF_RX3_9, rfl⟩
theorem fH_X3_9_306 : gF shH 306 0 1 400 RX3 9 := ⟨6, 3, 10, shF_306, RX3, RX3, TX3, oH_306, rfl, rfl, by decide, iX3, wdF_RX3_9, rfl⟩
theorem fH_X3_9_o : ∀ {o : Nat}, o < 2 → gF shH (305 + o) 0 1 (390 + 10 * o) RX3 9
  | 0, _ => fH_X3_9_305
  | 1, _ => fH_X3_9_306
theorem fH_X2_33_305 : gF shH 305 0 1 390 RX2 33 := ⟨5, 3, 10, shF_305, RX3, RX3, TX3, oH_305, rfl, rfl, by decide, iX3, wdF_RX2_33, rfl⟩
theorem fH_X2_33_306 : gF shH 306 0 1 400 RX2 33 := ⟨6, 3, 10, shF_306, RX3, RX3, TX3, oH_306, rfl, rfl, by decide, iX3, wdF_RX2_33, rfl⟩
theorem fH_X2_33_o : ∀ {o : Nat}, o < 2 → gF shH (305 + o) 0 1 (390 + 10 * o) RX2 33
  | 0, _ => fH_X2_33_305
  | 1, _ => fH_X2_33_306
theorem fH_X1_162_305 : gF shH 305 0 1 390 RX1 162 := ⟨5, 3, 10, shF_305, RX3, RX3, TX3, oH_305, rfl, rfl, by decide, iX3, wdF_RX1_162, rfl⟩
theorem fH_X1_162_306 : gF shH 306 0 1 400 RX1 162 := ⟨6, 3, 10, shF_306, RX3, RX3, TX3, oH_306, rfl, rfl, by decide, iX3, wdF_RX1_162, rfl⟩
theorem fH_X1_162_o : ∀ {o : Nat}, o < 2 → gF shH (305 + o) 0 1 (390 + 10 * o) RX1 162
  | 0, _ => fH_X1_162_305
  | 1, _ => fH_X1_162_306
theorem fH_X11_259_305 : gF shH 305 0 1 390 RX11 259 := ⟨5, 3, 10, shF_305, RX3, RX3, TX3, oH_305, rfl, rfl, by decide, iX3, wdF_RX11_259, rfl⟩
theorem fH_X11_259_306 : gF shH 306 0 1 400 RX11 259 := ⟨6, 3, 10, shF_306, RX3, RX3, TX3, oH_306, rfl, rfl, by decide, iX3, wdF_RX11_259, rfl⟩
theorem fH_X11_259_o : ∀ {o : Nat}, o < 2 → gF shH (305 + o) 0 1 (390 + 10 * o) RX11 259
  | 0, _ => fH_X11_259_305
  | 1, _ => fH_X11_259_306
theorem fH_X3_15_305 : gF shH 305 1 1 391 RX3 15 := ⟨5, 3, 10, shF_305, RX3, RX3, TX3, oH_305, rfl, rfl, by decide, iX3, wdF_RX3_15, rfl⟩
theorem fH_X3_15_306 : gF shH 306 1 1 401 RX3 15 := ⟨6, 3, 10, shF_306, RX3, RX3, TX3, oH_306, rfl, rfl, by decide, iX3, wdF_RX3_15, rfl⟩
theorem fH_X3_15_o : ∀ {o : Nat}, o < 2 → gF shH (305 + o) 1 1 (391 + 10 * o) RX3 15
  | 0, _ => fH_X3_15_305
  | 1, _ => fH_X3_15_306
theorem fH_X2_43_305 : gF shH 305 1 1 391 RX2 43 := ⟨5, 3, 10, shF_305, RX3, RX3, TX3, oH_305, rfl, rfl, by decide, iX3, wdF_RX2_43, rfl⟩
theorem fH_X2_43_306 : gF shH 306 1 1 401 RX2 43 := ⟨6, 3, 10, shF_306, RX3, RX3, TX3, oH_306, rfl, rfl, by decide, iX3, wdF_RX2_43, rfl⟩
theorem fH_X2_43_o : ∀ {o : Nat}, o < 2 → gF shH (305 + o) 1 1 (391 + 10 * o) RX2 43
  | 0, _ => fH_X2_43_305
  | 1, _ => fH_X2_43_306
theorem fH_X1_163_305 : gF shH 305 1 1 391 RX1 163 := ⟨5, 3, 10, shF_305, RX3, RX3, TX3, oH_305, rfl, rfl, by decide, iX3, wdF_RX1_163, rfl⟩
theorem fH_X1_163_306 : gF shH 306 1 1 401 RX1 163 := ⟨6, 3, 10, shF_306, RX3, RX3, TX3, oH_306, rfl, rfl, by decide, iX3, wdF_RX1_163, rfl⟩
theorem fH_X1_163_o : ∀ {o : Nat}, o < 2 → gF shH (305 + o) 1 1 (391 + 10 * o) RX1 163
  | 0, _ => fH_X1_163_305
  | 1, _ => fH_X1_163_306
theorem fH_X11_262_305 : gF shH 305 1 1 391 RX11 262 := ⟨5, 3, 10, shF_305, RX3, RX3, TX3, oH_305, rfl, rfl, by decide, iX3, wdF_RX11_262, rfl⟩
theorem fH_X11_262_306 : gF shH 306 1 1 401 RX11 262 := ⟨6, 3, 10, shF_306, RX3, RX3, TX3, oH_306, rfl, rfl, by decide, iX3, wdF_RX11_262, rfl⟩
theorem fH_X11_262_o : ∀ {o : Nat}, o < 2 → gF shH (305 + o) 1 1 (391 + 10 * o) RX11 262
  | 0, _ => fH_X11_262_305
  | 1, _ => fH_X11_262_306
theorem fH_X3_18_305 : gF shH 305 2 1 392 RX3 18 := ⟨5, 3, 10, shF_305, RX3, RX3, TX3, oH_305, rfl, rfl, by decide, iX3, wdF_RX3_18, rfl⟩
theorem fH_X3_18_306 : gF shH 306 2 1 402 RX3 18 := ⟨6, 3, 10, shF_306, RX3, RX3, TX3, oH_306, rfl, rfl, by decide, iX3, wdF_RX3_18, rfl⟩
theorem fH_X3_18_o : ∀ {o : Nat}, o < 2 → gF shH (305 + o) 2 1 (392 + 10 * o) RX3 18
  | 0, _ => fH_X3_18_305
  | 1, _ => fH_X3_18_306
theorem fH_X2_59_305 : gF shH 305 2 1 392 RX2 59 := ⟨5, 3, 10, shF_305, RX3, RX3, TX3, oH_305, rfl, rfl, by decide, iX3, wdF_RX2_59, rfl⟩
theorem fH_X2_59_306 : gF shH 306 2 1 402 RX2 59 := ⟨6, 3, 10, shF_306, RX3, RX3, TX3, oH_306, rfl, rfl, by decide, iX3, wdF_RX2_59, rfl⟩
theorem fH_X2_59_o : ∀ {o : Nat}, o < 2 → gF shH (305 + o) 2 1 (392 + 10 * o) RX2 59
  | 0, _ => fH_X2_59_305
  | 1, _ => fH_X2_59_306
theorem fH_X1_164_305 : gF shH 305 2 1 392 RX1 164 := ⟨5, 3, 10, shF_305, RX3, RX3, TX3, oH_305, rfl, rfl, by decide, iX3, wdF_RX1_164, rfl⟩
theorem fH_X1_164_306 : gF shH 306 2 1 402 RX1 164 := ⟨6, 3, 10, shF_306, RX3, RX3, TX3, oH_306, rfl, rfl, by decide, iX3, wdF_RX1_164, rfl⟩
theorem fH_X1_164_o : ∀ {o : Nat}, o < 2 → gF shH (305 + o) 2 1 (392 + 10 * o) RX1 164
  | 0, _ => fH_X1_164_305
  | 1, _ => fH_X1_164_306
theorem fH_X11_265_305 : gF shH 305 2 1 392 RX11 265 := ⟨5, 3, 10, shF_305, RX3, RX3, TX3, oH_305, rfl, rfl, by decide, iX3, wdF_RX11_265, rfl⟩
theorem fH_X11_265_306 : gF shH 306 2 1 402 RX11 265 := ⟨6, 3, 10, shF_306, RX3, RX3, TX3, oH_306, rfl, rfl, by decide, iX3, wdF_RX11_265, rfl⟩
theorem fH_X11_265_o : ∀ {o : Nat}, o < 2 → gF shH (305 + o) 2 1 (392 + 10 * o) RX11 265
  | 0, _ => fH_X11_265_305
  | 1, _ => fH_X11_265_306
theorem fH_X3_21_305 : gF shH 305 3 1 393 RX3 21 := ⟨5, 3, 10, shF_305, RX3, RX3, TX3, oH_305, rfl, rfl, by decide, iX3, wdF_RX3_21, rfl⟩
theorem fH_X3_21_306 : gF shH 306 3 1 403 RX3 21 := ⟨6, 3, 10, shF_306, RX3, RX3, TX3, oH_306, rfl, rfl, by decide, iX3, wdF_RX3_21, rfl⟩
theorem fH_X3_21_o : ∀ {o : Nat}, o < 2 → gF shH (305 + o) 3 1 (393 + 10 * o) RX3 21
  | 0, _ => fH_X3_21_305
  | 1, _ => fH_X3_21_306
theorem fH_X5_25_305 : gF shH 305 3 1 393 RX5 25 := ⟨5, 3, 10, shF_305, RX3, RX3, TX3, oH_305, rfl, rfl, by decide, iX3, wdF_RX5_25, rfl⟩
theorem fH_X5_25_306 : gF shH 306 3 1 403 RX5 25 := ⟨6, 3, 10, shF_306, RX3, RX3, TX3, oH_306, rfl, rfl, by decide, iX3, wdF_RX5_25, rfl⟩
theorem fH_X5_25_o : ∀ {o : Nat}, o < 2 → gF shH (305 + o) 3 1 (393 + 10 * o) RX5 25
  | 0, _ => fH_X5_25_305
  | 1, _ => fH_X5_25_306
theorem fH_X1_155_305 : gF shH 305 3 1 393 RX1 155 := ⟨5, 3, 10, shF_305, RX3, RX3, TX3, oH_305, rfl, rfl, by decide, iX3, wdF_RX1_155, rfl⟩
theorem fH_X1_155_306 : gF shH 306 3 1 403 RX1 155 := ⟨6, 3, 10, shF_306, RX3, RX3, TX3, oH_306, rfl, rfl, by decide, iX3, wdF_RX1_155, rfl⟩
theorem fH_X1_155_o : ∀ {o : Nat}, o < 2 → gF shH (305 + o) 3 1 (393 + 10 * o) RX1 155
  | 0, _ => fH_X1_155_305
  | 1, _ => fH_X1_155_306
theorem fH_X11_268_305 : gF shH 305 3 1 393 RX11 268 := ⟨5, 3, 10, shF_305, RX3, RX3, TX3, oH_305, rfl, rfl, by decide, iX3, wdF_RX11_268, rfl⟩
theorem fH_X11_268_306 : gF shH 306 3 1 403 RX11 268 := ⟨6, 3, 10, shF_306, RX3, RX3, TX3, oH_306, rfl, rfl, by decide, iX3, wdF_RX11_268, rfl⟩
theorem fH_X11_268_o : ∀ {o : Nat}, o < 2 → gF shH (305 + o) 3 1 (393 + 10 * o) RX11 268
  | 0, _ => fH_X11_268_305
  | 1, _ => fH_X11_268_306
theorem fH_X3_24_305 : gF shH 305 4 1 394 RX3 24 := ⟨5, 3, 10, shF_305, RX3, RX3, TX3, oH_305, rfl, rfl, by decide, iX3, wdF_RX3_24, rfl⟩
theorem fH_X3_24_306 : gF shH 306 4 1 404 RX3 24 := ⟨6, 3, 10, shF_306, RX3, RX3, TX3, oH_306, rfl, rfl, by decide, iX3, wdF_RX3_24, rfl⟩
theorem fH_X3_24_o : ∀ {o : Nat}, o < 2 → gF shH (305 + o) 4 1 (394 + 10 * o) RX3 24
  | 0, _ => fH_X3_24_305
  | 1, _ => fH_X3_24_306
theorem fH_X1_99_305 : gF shH 305 4 1 394 RX1 99 := ⟨5, 3, 10, shF_305, RX3, RX3, TX3, oH_305, rfl, rfl, by decide, iX3, wdF_RX1_99, rfl⟩
theorem fH_X1_99_306 : gF shH 306 4 1 404 RX1 99 := ⟨6, 3, 10, shF_306, RX3, RX3, TX3, oH_306, rfl, rfl, by decide, iX3, wdF_RX1_99, rfl⟩
theorem fH_X1_99_o : ∀ {o : Nat}, o < 2 → gF shH (305 + o) 4 1 (394 + 10 * o) RX1 99
  | 0, _ => fH_X1_99_305
  | 1, _ => fH_X1_99_306
theorem fH_X11_252_305 : gF shH 305 4 1 394 RX11 252 := ⟨5, 3, 10, shF_305, RX3, RX3, TX3, oH_305, rfl, rfl, by decide, iX3, wdF_RX11_252, rfl⟩
theorem fH_X11_252_306 : gF shH 306 4 1 404 RX11 252 := ⟨6, 3, 10, shF_306, RX3, RX3, TX3, oH_306, rfl, rfl, by decide, iX3, wdF_RX11_252, rfl⟩
theorem fH_X11_252_o : ∀ {o : Nat}, o < 2 → gF shH (305 + o) 4 1 (394 + 10 * o) RX11 252
  | 0, _ => fH_X11_252_305
  | 1, _ => fH_X11_252_306
theorem fH_X3_27_305 : gF shH 305 5 1 395 RX3 27 := ⟨5, 3, 10, shF_305, RX3, RX3, TX3, oH_305, rfl, rfl, by decide, iX3, wdF_RX3_27, rfl⟩
theorem fH_X3_27_306 : gF shH 306 5 1 405 RX3 27 := ⟨6, 3, 10, shF_306, RX3, RX3, TX3, oH_306, rfl, rfl, by decide, iX3, wdF_RX3_27, rfl⟩
theorem fH_X3_27_o : ∀ {o : Nat}, o < 2 → gF shH (305 + o) 5 1 (395 + 10 * o) RX3 27
  | 0, _ => fH_X3_27_305
  | 1, _ => fH_X3_27_306
theorem fH_X2_86_305 : gF shH 305 5 1 395 RX2 86 := ⟨5, 3, 10, shF_305, RX3, RX3, TX3, oH_305, rfl, rfl, by decide, iX3, wdF_RX2_86, rfl⟩
theorem fH_X2_86_306 : gF shH 306 5 1 405 RX2 86 := ⟨6, 3, 10, shF_306, RX3, RX3, TX3, oH_306, rfl, rfl, by decide, iX3, wdF_RX2_86, rfl⟩
theorem fH_X2_86_o : ∀ {o : Nat}, o < 2 → gF shH (305 + o) 5 1 (395 + 10 * o) RX2 86
  | 0, _ => fH_X2_86_305
  | 1, _ => fH_X2_86_306
theorem fH_X1_193_305 : gF shH 305 5 1 395 RX1 193 := ⟨5, 3, 10, shF_305, RX3, RX3, TX3, oH_305, rfl, rfl, by decide, iX3, wdF_RX1_193, rfl⟩
theorem fH_X1_193_306 : gF shH 306 5 1 405 RX1 193 := ⟨6, 3, 10, shF_306, RX3, RX3, TX3, oH_306, rfl, rfl, by decide, iX3, wdF_RX1_193, rfl⟩
theorem fH_X1_193_o : ∀ {o : Nat}, o < 2 → gF shH (305 + o) 5 1 (395 + 10 * o) RX1 193
  | 0, _ => fH_X1_193_305
  | 1, _ => fH_X1_193_306
theorem fH_X3_30_305 : gF shH 305 6 1 396 RX3 30 := ⟨5, 3, 10, shF_305, RX3, RX3, TX3, oH_305, rfl, rfl, by decide, iX3, wdF_RX3_30, rfl⟩
theorem fH_X3_30_306 : gF shH 306 6 1 406 RX3 30 := ⟨6, 3, 10, shF_306, RX3, RX3, TX3, oH_306, rfl, rfl, by decide, iX3, wdF_RX3_30, rfl⟩
theorem fH_X3_30_o : ∀ {o : Nat}, o < 2 → gF shH (305 + o) 6 1 (396 + 10 * o) RX3 30
  | 0, _ => fH_X3_30_305
  | 1, _ => fH_X3_30_306
theorem fH_X1_122_305 : gF shH 305 6 1 396 RX1 122 := ⟨5, 3, 10, shF_305, RX3, RX3, TX3, oH_305, rfl, rfl, by decide, iX3, wdF_RX1_122, rfl⟩
theorem fH_X1_122_306 : gF shH 306 6 1 406 RX1 122 := ⟨6, 3, 10, shF_306, RX3, RX3, TX3, oH_306, rfl, rfl, by decide, iX3, wdF_RX1_122, rfl⟩
theorem fH_X1_122_o : ∀ {o : Nat}, o < 2 → gF shH (305 + o) 6 1 (396 + 10 * o) RX1 122
  | 0, _ => fH_X1_122_305
  | 1, _ => fH_X1_122_306
theorem fH_X3_34_305 : gF shH 305 7 1 397 RX3 34 := ⟨5, 3, 10, shF_305, RX3, RX3, TX3, oH_305, rfl, rfl, by decide, iX3, wdF_RX3_34, rfl⟩
theorem fH_X3_34_306 : gF shH 306 7 1 407 RX3 34 := ⟨6, 3, 10, shF_306, RX3, RX3, TX3, oH_306, rfl, rfl, by decide, iX3, wdF_RX3_34, rfl⟩
theorem fH_X3_34_o : ∀ {o : Nat}, o < 2 → gF shH (305 + o) 7 1 (397 + 10 * o) RX3 34
  | 0, _ => fH_X3_34_305
  | 1, _ => fH_X3_34_306
theorem fH_X5_19_305 : gF shH 305 8 0 0 RX5 19 := ⟨5, 3, 10, shF_305, RX3, RX3, TX3, oH_305, rfl, rfl, by decide, iX3, wdF_RX5_19, rfl⟩
theorem fH_X5_19_305w : gFw shH 305 8 0 0 RX5 19 .int := ⟨5, 3, 10, shF_305, RX3, RX3, TX3, tyX3, oH_305, rfl, rfl, by decide, iX3, wdF_RX5_19, rfl, tyX3_ok, nmX3, rfl, by decide +kernel, shH_U⟩
theorem fH_X5_19_306 : gF shH 306 8 0 0 RX5 19 := ⟨6, 3, 10, shF_306, RX3, RX3, TX3, oH_306, rfl, rfl, by decide, iX3, wdF_RX5_19, rfl⟩
theorem fH_X5_19_306w : gFw shH 306 8 0 0 RX5 19 .int := ⟨6, 3, 10, shF_306, RX3, RX3, TX3, tyX3, oH_306, rfl, rfl, by decide, iX3, wdF_RX5_19, rfl, tyX3_ok, nmX3, rfl, by decide +kernel, shH_U⟩
theorem fH_X5_19_o : ∀ {o : Nat}, o < 2 → gF shH (305 + o) 8 0 0 RX5 19
  | 0, _ => fH_X5_19_305
  | 1, _ => fH_X5_19_306
theorem fH_X5_19_ow : ∀ {o : Nat}, o < 2 → gFw shH (305 + o) 8 0 0 RX5 19 .int
  | 0, _ => fH_X5_19_305w
  | 1, _ => fH_X5_19_306w
theorem fH_X9_91_305 : gF shH 305 8 0 0 RX9 91 := ⟨5, 3, 10, shF_305, RX3, RX3, TX3, oH_305, rfl, rfl, by decide, iX3, wdF_RX9_91, rfl⟩
theorem fH_X9_91_305w : gFw shH 305 8 0 0 RX9 91 .int := ⟨5, 3, 10, shF_305, RX3, RX3, TX3, tyX3, oH_305, rfl, rfl, by decide, iX3, wdF_RX9_91, rfl, tyX3_ok, nmX3, rfl, by decide +kernel, shH_U⟩
theorem fH_X9_91_306 : gF shH 306 8 0 0 RX9 91 := ⟨6, 3, 10, shF_306, RX3, RX3, TX3, oH_306, rfl, rfl, by decide, iX3, wdF_RX9_91, rfl⟩
theorem fH_X9_91_306w : gFw shH 306 8 0 0 RX9 91 .int := ⟨6, 3, 10, shF_306, RX3, RX3, TX3, tyX3, oH_306, rfl, rfl, by decide, iX3, wdF_RX9_91, rfl, tyX3_ok, nmX3, rfl, by decide +kernel, shH_U⟩
theorem fH_X9_91_o : ∀ {o : Nat}, o < 2 → gF shH (305 + o) 8 0 0 RX9 91
  | 0, _ => fH_X9_91_305
  | 1, _ => fH_X9_91_306
theorem fH_X9_91_ow : ∀ {o : Nat}, o < 2 → gFw shH (305 + o) 8 0 0 RX9 91 .int
  | 0, _ => fH_X9_91_305w
  | 1, _ => fH_X9_91_306w
theorem fH_X2_83_305 : gF shH 305 8 0 0 RX2 83 := ⟨5, 3, 10, shF_305, RX3, RX3, TX3, oH_305, rfl, rfl, by decide, iX3, wdF_RX2_83, rfl⟩
theorem fH_X2_83_305w : gFw shH 305 8 0 0 RX2 83 .int := ⟨5, 3, 10, shF_305, RX3, RX3, TX3, tyX3, oH_305, rfl, rfl, by decide, iX3, wdF_RX2_83, rfl, tyX3_ok, nmX3, rfl, by decide +kernel, shH_U⟩
theorem fH_X2_83_306 : gF shH 306 8 0 0 RX2 83 := ⟨6, 3, 10, shF_306, RX3, RX3, TX3, oH_306, rfl, rfl, by decide, iX3, wdF_RX2_83, rfl⟩
theorem fH_X2_83_306w : gFw shH 306 8 0 0 RX2 83 .int := ⟨6, 3, 10, shF_306, RX3, RX3, TX3, tyX3, oH_306, rfl, rfl, by decide, iX3, wdF_RX2_83, rfl, tyX3_ok, nmX3, rfl, by decide +kernel, shH_U⟩
theorem fH_X2_83_o : ∀ {o : Nat}, o < 2 → gF shH (305 + o) 8 0 0 RX2 83
  | 0, _ => fH_X2_83_305
  | 1, _ => fH_X2_83_306
theorem fH_X2_83_ow : ∀ {o : Nat}, o < 2 → gFw shH (305 + o) 8 0 0 RX2 83 .int
  | 0, _ => fH_X2_83_305w
  | 1, _ => fH_X2_83_306w
theorem fH_X3_61_305 : gF shH 305 8 0 0 RX3 61 := ⟨5, 3, 10, shF_305, RX3, RX3, TX3, oH_305, rfl, rfl, by decide, iX3, wdF_RX3_61, rfl⟩
theorem fH_X3_61_305w : gFw shH 305 8 0 0 RX3 61 .int := ⟨5, 3, 10, shF_305, RX3, RX3, TX3, tyX3, oH_305, rfl, rfl, by decide, iX3, wdF_RX3_61, rfl, tyX3_ok, nmX3, rfl, by decide +kernel, shH_U⟩
theorem fH_X3_61_306 : gF shH 306 8 0 0 RX3 61 := ⟨6, 3, 10, shF_306, RX3, RX3, TX3, oH_306, rfl, rfl, by decide, iX3, wdF_RX3_61, rfl⟩
theorem fH_X3_61_306w : gFw shH 306 8 0 0 RX3 61 .int := ⟨6, 3, 10, shF_306, RX3, RX3, TX3, tyX3, oH_306, rfl, rfl, by decide, iX3, wdF_RX3_61, rfl, tyX3_ok, nmX3, rfl, by decide +kernel, shH_U⟩
theorem fH_X3_61_o : ∀ {o : Nat}, o < 2 → gF shH (305 + o) 8 0 0 RX3 61
  | 0, _ => fH_X3_61_305
  | 1, _ => fH_X3_61_306
theorem fH_X3_61_ow : ∀ {o : Nat}, o < 2 → gFw shH (305 + o) 8 0 0 RX3 61 .int
  | 0, _ => fH_X3_61_305w
  | 1, _ => fH_X3_61_306w
theorem fH_X1_149_305 : gF shH 305 8 0 0 RX1 149 := ⟨5, 3, 10, shF_305, RX3, RX3, TX3, oH_305, rfl, rfl, by decide, iX3, wdF_RX1_149, rfl⟩
theorem fH_X1_149_305w : gFw shH 305 8 0 0 RX1 149 .int := ⟨5, 3, 10, shF_305, RX3, RX3, TX3, tyX3, oH_305, rfl, rfl, by decide, iX3, wdF_RX1_149, rfl, tyX3_ok, nmX3, rfl, by decide +kernel, shH_U⟩
theorem fH_X1_149_306 : gF shH 306 8 0 0 RX1 149 := ⟨6, 3, 10, shF_306, RX3, RX3, TX3, oH_306, rfl, rfl, by decide, iX3, wdF_RX1_149, rfl⟩
theorem fH_X1_149_306w : gFw shH 306 8 0 0 RX1 149 .int := ⟨6, 3, 10, shF_306, RX3, RX3, TX3, tyX3, oH_306, rfl, rfl, by decide, iX3, wdF_RX1_149, rfl, tyX3_ok, nmX3, rfl, by decide +kernel, shH_U⟩
theorem fH_X1_149_o : ∀ {o : Nat}, o < 2 → gF shH (305 + o) 8 0 0 RX1 149
  | 0, _ => fH_X1_149_305
  | 1, _ => fH_X1_149_306
theorem fH_X1_149_ow : ∀ {o : Nat}, o < 2 → gFw shH (305 + o) 8 0 0 RX1 149 .int
  | 0, _ => fH_X1_149_305w
  | 1, _ => fH_X1_149_306w
theorem fH_X11_221_305 : gF shH 305 8 0 0 RX11 221 := ⟨5, 3, 10, shF_305, RX3, RX3, TX3, oH_305, rfl, rfl, by decide, iX3, wdF_RX11_221, rfl⟩
theorem fH_X11_221_305w : gFw shH 305 8 0 0 RX11 221 .int := ⟨5, 3, 10, shF_305, RX3, RX3, TX3, tyX3, oH_305, rfl, rfl, by decide, iX3, wdF_RX11_221, rfl, tyX3_ok, nmX3, rfl, by decide +kernel, shH_U⟩
theorem fH_X11_221_306 : gF shH 306 8 0 0 RX11 221 := ⟨6, 3, 10, shF_306, RX3, RX3, TX3, oH_306, rfl, rfl, by decide, iX3, wdF_RX11_221, rfl⟩
theorem fH_X11_221_306w : gFw shH 306 8 0 0 RX11 221 .int := ⟨6, 3, 10, shF_306, RX3, RX3, TX3, tyX3, oH_306, rfl, rfl, by decide, iX3, wdF_RX11_221, rfl, tyX3_ok, nmX3, rfl, by decide +kernel, shH_U⟩
theorem fH_X11_221_o : ∀ {o : Nat}, o < 2 → gF shH (305 + o) 8 0 0 RX11 221
  | 0, _ => fH_X11_221_305
  | 1, _ => fH_X11_221_306
theorem fH_X11_221_ow : ∀ {o : Nat}, o < 2 → gFw shH (305 + o) 8 0 0 RX11 221 .int
  | 0, _ => fH_X11_221_305w
  | 1, _ => fH_X11_221_306w
theorem fH_X2_66_305 : gF shH 305 9 0 0 RX2 66 := ⟨5, 3, 10, shF_305, RX3, RX3, TX3, oH_305, rfl, rfl, by decide, iX3, wdF_RX2_66, rfl⟩
theorem fH_X2_66_305w : gFw shH 305 9 0 0 RX2 66 .int := ⟨5, 3, 10, shF_305, RX3, RX3, TX3, tyX3, oH_305, rfl, rfl, by decide, iX3, wdF_RX2_66, rfl, tyX3_ok, nmX3, rfl, by decide +kernel, shH_U⟩
theorem fH_X2_66_306 : gF shH 306 9 0 0 RX2 66 := ⟨6, 3, 10, shF_306, RX3, RX3, TX3, oH_306, rfl, rfl, by decide, iX3, wdF_RX2_66, rfl⟩
theorem fH_X2_66_306w : gFw shH 306 9 0 0 RX2 66 .int := ⟨6, 3, 10, shF_306, RX3, RX3, TX3, tyX3, oH_306, rfl, rfl, by decide, iX3, wdF_RX2_66, rfl, tyX3_ok, nmX3, rfl, by decide +kernel, shH_U⟩
theorem fH_X2_66_o : ∀ {o : Nat}, o < 2 → gF shH (305 + o) 9 0 0 RX2 66
  | 0, _ => fH_X2_66_305
  | 1, _ => fH_X2_66_306
theorem fH_X2_66_ow : ∀ {o : Nat}, o < 2 → gFw shH (305 + o) 9 0 0 RX2 66 .int
  | 0, _ => fH_X2_66_305w
  | 1, _ => fH_X2_66_306w
theorem fH_X3_78_305 : gF shH 305 9 0 0 RX3 78 := ⟨5, 3, 10, shF_305, RX3, RX3, TX3, oH_305, rfl, rfl, by decide, iX3, wdF_RX3_78, rfl⟩
theorem fH_X3_78_305w : gFw shH 305 9 0 0 RX3 78 .int := ⟨5, 3, 10, shF_305, RX3, RX3, TX3, tyX3, oH_305, rfl, rfl, by decide, iX3, wdF_RX3_78, rfl, tyX3_ok, nmX3, rfl, by decide +kernel, shH_U⟩
theorem fH_X3_78_306 : gF shH 306 9 0 0 RX3 78 := ⟨6, 3, 10, shF_306, RX3, RX3, TX3, oH_306, rfl, rfl, by decide, iX3, wdF_RX3_78, rfl⟩
theorem fH_X3_78_306w : gFw shH 306 9 0 0 RX3 78 .int := ⟨6, 3, 10, shF_306, RX3, RX3, TX3, tyX3, oH_306, rfl, rfl, by decide, iX3, wdF_RX3_78, rfl, tyX3_ok, nmX3, rfl, by decide +kernel, shH_U⟩
theorem fH_X3_78_o : ∀ {o : Nat}, o < 2 → gF shH (305 + o) 9 0 0 RX3 78
  | 0, _ => fH_X3_78_305
  | 1, _ => fH_X3_78_306
theorem fH_X3_78_ow : ∀ {o : Nat}, o < 2 → gFw shH (305 + o) 9 0 0 RX3 78 .int
  | 0, _ => fH_X3_78_305w
  | 1, _ => fH_X3_78_306w
theorem fH_X8_15_307 : gF shH 307 0 1 302 RX8 15 := ⟨7, 8, 11, shF_307, RX8, RX8, TX8, oH_307, rfl, rfl, by decide, iX8, wdF_RX8_15, rfl⟩
theorem fH_X8_15_308 : gF shH 308 0 1 302 RX8 15 := ⟨8, 8, 11, shF_308, RX8, RX8, TX8, oH_308, rfl, rfl, by decide, iX8, wdF_RX8_15, rfl⟩
theorem fH_X8_15_o : ∀ {o : Nat}, o < 2 → gF shH (307 + o) 0 1 302 RX8 15
  | 0, _ => fH_X8_15_307
  | 1, _ => fH_X8_15_308
theorem fH_X8_19_307 : gF shH 307 1 1 304 RX8 19 := ⟨7, 8, 11, shF_307, RX8, RX8, TX8, oH_307, rfl, rfl, by decide, iX8, wdF_RX8_19, rfl⟩
theorem fH_X8_19_308 : gF shH 308 1 1 304 RX8 19 := ⟨8, 8, 11, shF_308, RX8, RX8, TX8, oH_308, rfl, rfl, by decide, iX8, wdF_RX8_19, rfl⟩
theorem fH_X8_19_o : ∀ {o : Nat}, o < 2 → gF shH (307 + o) 1 1 304 RX8 19
  | 0, _ => fH_X8_19_307
  | 1, _ => fH_X8_19_308
theorem fH_X5_32_307 : gF shH 307 2 0 0 RX5 32 := ⟨7, 8, 11, shF_307, RX8, RX8, TX8, oH_307, rfl, rfl, by decide, iX8, wdF_RX5_32, rfl⟩
theorem fH_X5_32_307w : gFw shH 307 2 0 0 RX5 32 .boolean := ⟨7, 8, 11, shF_307, RX8, RX8, TX8, tyX8, oH_307, rfl, rfl, by decide, iX8, wdF_RX5_32, rfl, tyX8_ok, nmX8, rfl, by decide +kernel, shH_U⟩
theorem fH_X5_32_308 : gF shH 308 2 0 0 RX5 32 := ⟨8, 8, 11, shF_308, RX8, RX8, TX8, oH_308, rfl, rfl, by decide, iX8, wdF_RX5_32, rfl⟩
theorem fH_X5_32_308w : gFw shH 308 2 0 0 RX5 32 .boolean := ⟨8, 8, 11, shF_308, RX8, RX8, TX8, tyX8, oH_308, rfl, rfl, by decide, iX8, wdF_RX5_32, rfl, tyX8_ok, nmX8, rfl, by decide +kernel, shH_U⟩
theorem fH_X5_32_o : ∀ {o : Nat}, o < 2 → gF shH (307 + o) 2 0 0 RX5 32
  | 0, _ => fH_X5_32_307
  | 1, _ => fH_X5_32_308
theorem fH_X5_32_ow : ∀ {o : Nat}, o < 2 → gFw shH (307 + o) 2 0 0 RX5 32 .boolean
  | 0, _ => fH_X5_32_307w
  | 1, _ => fH_X5_32_308w
theorem fH_X8_34_307 : gF shH 307 2 0 0 RX8 34 := ⟨7, 8, 11, shF_307, RX8, RX8, TX8, oH_307, rfl, rfl, by decide, iX8, wdF_RX8_34, rfl⟩
theorem fH_X8_34_307w : gFw shH 307 2 0 0 RX8 34 .boolean := ⟨7, 8, 11, shF_307, RX8, RX8, TX8, tyX8, oH_307, rfl, rfl, by decide, iX8, wdF_RX8_34, rfl, tyX8_ok, nmX8, rfl, by decide +kernel, shH_U⟩
theorem fH_X8_34_308 : gF shH 308 2 0 0 RX8 34 := ⟨8, 8, 11, shF_308, RX8, RX8, TX8, oH_308, rfl, rfl, by decide, iX8, wdF_RX8_34, rfl⟩
theorem fH_X8_34_308w : gFw shH 308 2 0 0 RX8 34 .boolean := ⟨8, 8, 11, shF_308, RX8, RX8, TX8, tyX8, oH_308, rfl, rfl, by decide, iX8, wdF_RX8_34, rfl, tyX8_ok, nmX8, rfl, by decide +kernel, shH_U⟩
theorem fH_X8_34_o : ∀ {o : Nat}, o < 2 → gF shH (307 + o) 2 0 0 RX8 34
  | 0, _ => fH_X8_34_307
  | 1, _ => fH_X8_34_308
theorem fH_X8_34_ow : ∀ {o : Nat}, o < 2 → gFw shH (307 + o) 2 0 0 RX8 34 .boolean
  | 0, _ => fH_X8_34_307w
  | 1, _ => fH_X8_34_308w
theorem fH_X11_151_307 : gF shH 307 2 0 0 RX11 151 := ⟨7, 8, 11, shF_307, RX8, RX8, TX8, oH_307, rfl, rfl, by decide, iX8, wdF_RX11_151, rfl⟩
theorem fH_X11_151_307w : gFw shH 307 2 0 0 RX11 151 .boolean := ⟨7, 8, 11, shF_307, RX8, RX8, TX8, tyX8, oH_307, rfl, rfl, by decide, iX8, wdF_RX11_151, rfl, tyX8_ok, nmX8, rfl, by decide +kernel, shH_U⟩
theorem fH_X11_151_308 : gF shH 308 2 0 0 RX11 151 := ⟨8, 8, 11, shF_308, RX8, RX8, TX8, oH_308, rfl, rfl, by decide, iX8, wdF_RX11_151, rfl⟩
theorem fH_X11_151_308w : gFw shH 308 2 0 0 RX11 151 .boolean := ⟨8, 8, 11, shF_308, RX8, RX8, TX8, tyX8, oH_308, rfl, rfl, by decide, iX8, wdF_RX11_151, rfl, tyX8_ok, nmX8, rfl, by decide +kernel, shH_U⟩
theorem fH_X11_151_o : ∀ {o : Nat}, o < 2 → gF shH (307 + o) 2 0 0 RX11 151
  | 0, _ => fH_X11_151_307
  | 1, _ => fH_X11_151_308
theorem fH_X11_151_ow : ∀ {o : Nat}, o < 2 → gFw shH (307 + o) 2 0 0 RX11 151 .boolean
  | 0, _ => fH_X11_151_307w
  | 1, _ => fH_X11_151_308w
theorem fH_X5_39_307 : gF shH 307 3 0 0 RX5 39 := ⟨7, 8, 11, shF_307, RX8, RX8, TX8, oH_307, rfl, rfl, by decide, iX8, wdF_RX5_39, rfl⟩
theorem fH_X5_39_307w : gFw shH 307 3 0 0 RX5 39 .int := ⟨7, 8, 11, shF_307, RX8, RX8, TX8, tyX8, oH_307, rfl, rfl, by decide, iX8, wdF_RX5_39, rfl, tyX8_ok, nmX8, rfl, by decide +kernel, shH_U⟩
theorem fH_X5_39_308 : gF shH 308 3 0 0 RX5 39 := ⟨8, 8, 11, shF_308, RX8, RX8, TX8, oH_308, rfl, rfl, by decide, iX8, wdF_RX5_39, rfl⟩
theorem fH_X5_39_308w : gFw shH 308 3 0 0 RX5 39 .int := ⟨8, 8, 11, shF_308, RX8, RX8, TX8, tyX8, oH_308, rfl, rfl, by decide, iX8, wdF_RX5_39, rfl, tyX8_ok, nmX8, rfl, by decide +kernel, shH_U⟩
theorem fH_X5_39_o : ∀ {o : Nat}, o < 2 → gF shH (307 + o) 3 0 0 RX5 39
  | 0, _ => fH_X5_39_307
  | 1, _ => fH_X5_39_308
theorem fH_X5_39_ow : ∀ {o : Nat}, o < 2 → gFw shH (307 + o) 3 0 0 RX5 39 .int
  | 0, _ => fH_X5_39_307w
  | 1, _ => fH_X5_39_308w
theorem fH_X8_43_307 : gF shH 307 3 0 0 RX8 43 := ⟨7, 8, 11, shF_307, RX8, RX8, TX8, oH_307, rfl, rfl, by decide, iX8, wdF_RX8_43, rfl⟩
theorem fH_X8_43_307w : gFw shH 307 3 0 0 RX8 43 .int := ⟨7, 8, 11, shF_307, RX8, RX8, TX8, tyX8, oH_307, rfl, rfl, by decide, iX8, wdF_RX8_43, rfl, tyX8_ok, nmX8, rfl, by decide +kernel, shH_U⟩
theorem fH_X8_43_308 : gF shH 308 3 0 0 RX8 43 := ⟨8, 8, 11, shF_308, RX8, RX8, TX8, oH_308, rfl, rfl, by decide, iX8, wdF_RX8_43, rfl⟩
theorem fH_X8_43_308w : gFw shH 308 3 0 0 RX8 43 .int := ⟨8, 8, 11, shF_308, RX8, RX8, TX8, tyX8, oH_308, rfl, rfl, by decide, iX8, wdF_RX8_43, rfl, tyX8_ok, nmX8, rfl, by decide +kernel, shH_U⟩
theorem fH_X8_43_o : ∀ {o : Nat}, o < 2 → gF shH (307 + o) 3 0 0 RX8 43
  | 0, _ => fH_X8_43_307
  | 1, _ => fH_X8_43_308
theorem fH_X8_43_ow : ∀ {o : Nat}, o < 2 → gFw shH (307 + o) 3 0 0 RX8 43 .int
  | 0, _ => fH_X8_43_307w
  | 1, _ => fH_X8_43_308w
theorem fH_X5_43_307 : gF shH 307 4 2 0 RX5 43 := ⟨7, 8, 11, shF_307, RX8, RX8, TX8, oH_307, rfl, rfl, by decide, iX8, wdF_RX5_43, rfl⟩
theorem fH_X5_43_307w : gFw shH 307 4 2 0 RX5 43 .long := ⟨7, 8, 11, shF_307, RX8, RX8, TX8, tyX8, oH_307, rfl, rfl, by decide, iX8, wdF_RX5_43, rfl, tyX8_ok, nmX8, rfl, by decide +kernel, shH_U⟩
theorem fH_X5_43_308 : gF shH 308 4 2 0 RX5 43 := ⟨8, 8, 11, shF_308, RX8, RX8, TX8, oH_308, rfl, rfl, by decide, iX8, wdF_RX5_43, rfl⟩
theorem fH_X5_43_308w : gFw shH 308 4 2 0 RX5 43 .long := ⟨8, 8, 11, shF_308, RX8, RX8, TX8, tyX8, oH_308, rfl, rfl, by decide, iX8, wdF_RX5_43, rfl, tyX8_ok, nmX8, rfl, by decide +kernel, shH_U⟩
theorem fH_X5_43_o : ∀ {o : Nat}, o < 2 → gF shH (307 + o) 4 2 0 RX5 43
  | 0, _ => fH_X5_43_307
  | 1, _ => fH_X5_43_308
theorem fH_X5_43_ow : ∀ {o : Nat}, o < 2 → gFw shH (307 + o) 4 2 0 RX5 43 .long
  | 0, _ => fH_X5_43_307w
  | 1, _ => fH_X5_43_308w
theorem fH_X8_46_307 : gF shH 307 4 2 0 RX8 46 := ⟨7, 8, 11, shF_307, RX8, RX8, TX8, oH_307, rfl, rfl, by decide, iX8, wdF_RX8_46, rfl⟩
theorem fH_X8_46_307w : gFw shH 307 4 2 0 RX8 46 .long := ⟨7, 8, 11, shF_307, RX8, RX8, TX8, tyX8, oH_307, rfl, rfl, by decide, iX8, wdF_RX8_46, rfl, tyX8_ok, nmX8, rfl, by decide +kernel, shH_U⟩
theorem fH_X8_46_308 : gF shH 308 4 2 0 RX8 46 := ⟨8, 8, 11, shF_308, RX8, RX8, TX8, oH_308, rfl, rfl, by decide, iX8, wdF_RX8_46, rfl⟩
theorem fH_X8_46_308w : gFw shH 308 4 2 0 RX8 46 .long := ⟨8, 8, 11, shF_308, RX8, RX8, TX8, tyX8, oH_308, rfl, rfl, by decide, iX8, wdF_RX8_46, rfl, tyX8_ok, nmX8, rfl, by decide +kernel, shH_U⟩
theorem fH_X8_46_o : ∀ {o : Nat}, o < 2 → gF shH (307 + o) 4 2 0 RX8 46
  | 0, _ => fH_X8_46_307
  | 1, _ => fH_X8_46_308
theorem fH_X8_46_ow : ∀ {o : Nat}, o < 2 → gFw shH (307 + o) 4 2 0 RX8 46 .long
  | 0, _ => fH_X8_46_307w
  | 1, _ => fH_X8_46_308w
theorem fH_X8_11_307 : gF shH 307 5 1 410 RX8 11 := ⟨7, 8, 11, shF_307, RX8, RX8, TX8, oH_307, rfl, rfl, by decide, iX8, wdF_RX8_11, rfl⟩
theorem fH_X8_11_308 : gF shH 308 5 1 411 RX8 11 := ⟨8, 8, 11, shF_308, RX8, RX8, TX8, oH_308, rfl, rfl, by decide, iX8, wdF_RX8_11, rfl⟩
theorem fH_X8_11_o : ∀ {o : Nat}, o < 2 → gF shH (307 + o) 5 1 (410 + o) RX8 11
  | 0, _ => fH_X8_11_307
  | 1, _ => fH_X8_11_308
theorem fH_X5_52_307 : gF shH 307 5 1 410 RX5 52 := ⟨7, 8, 11, shF_307, RX8, RX8, TX8, oH_307, rfl, rfl, by decide, iX8, wdF_RX5_52, rfl⟩
theorem fH_X5_52_308 : gF shH 308 5 1 411 RX5 52 := ⟨8, 8, 11, shF_308, RX8, RX8, TX8, oH_308, rfl, rfl, by decide, iX8, wdF_RX5_52, rfl⟩
theorem fH_X5_52_o : ∀ {o : Nat}, o < 2 → gF shH (307 + o) 5 1 (410 + o) RX5 52
  | 0, _ => fH_X5_52_307
  | 1, _ => fH_X5_52_308
theorem fH_X5_48_307 : gF shH 307 6 0 0 RX5 48 := ⟨7, 8, 11, shF_307, RX8, RX8, TX8, oH_307, rfl, rfl, by decide, iX8, wdF_RX5_48, rfl⟩
theorem fH_X5_48_307w : gFw shH 307 6 0 0 RX5 48 .int := ⟨7, 8, 11, shF_307, RX8, RX8, TX8, tyX8, oH_307, rfl, rfl, by decide, iX8, wdF_RX5_48, rfl, tyX8_ok, nmX8, rfl, by decide +kernel, shH_U⟩
theorem fH_X5_48_308 : gF shH 308 6 0 0 RX5 48 := ⟨8, 8, 11, shF_308, RX8, RX8, TX8, oH_308, rfl, rfl, by decide, iX8, wdF_RX5_48, rfl⟩
theorem fH_X5_48_308w : gFw shH 308 6 0 0 RX5 48 .int := ⟨8, 8, 11, shF_308, RX8, RX8, TX8, tyX8, oH_308, rfl, rfl, by decide, iX8, wdF_RX5_48, rfl, tyX8_ok, nmX8, rfl, by decide +kernel, shH_U⟩
theorem fH_X5_48_o : ∀ {o : Nat}, o < 2 → gF shH (307 + o) 6 0 0 RX5 48
  | 0, _ => fH_X5_48_307
  | 1, _ => fH_X5_48_308
theorem fH_X5_48_ow : ∀ {o : Nat}, o < 2 → gFw shH (307 + o) 6 0 0 RX5 48 .int
  | 0, _ => fH_X5_48_307w
  | 1, _ => fH_X5_48_308w
theorem fH_X8_50_307 : gF shH 307 6 0 0 RX8 50 := ⟨7, 8, 11, shF_307, RX8, RX8, TX8, oH_307, rfl, rfl, by decide, iX8, wdF_RX8_50, rfl⟩
theorem fH_X8_50_307w : gFw shH 307 6 0 0 RX8 50 .int := ⟨7, 8, 11, shF_307, RX8, RX8, TX8, tyX8, oH_307, rfl, rfl, by decide, iX8, wdF_RX8_50, rfl, tyX8_ok, nmX8, rfl, by decide +kernel, shH_U⟩
theorem fH_X8_50_308 : gF shH 308 6 0 0 RX8 50 := ⟨8, 8, 11, shF_308, RX8, RX8, TX8, oH_308, rfl, rfl, by decide, iX8, wdF_RX8_50, rfl⟩
theorem fH_X8_50_308w : gFw shH 308 6 0 0 RX8 50 .int := ⟨8, 8, 11, shF_308, RX8, RX8, TX8, tyX8, oH_308, rfl, rfl, by decide, iX8, wdF_RX8_50, rfl, tyX8_ok, nmX8, rfl, by decide +kernel, shH_U⟩
theorem fH_X8_50_o : ∀ {o : Nat}, o < 2 → gF shH (307 + o) 6 0 0 RX8 50
  | 0, _ => fH_X8_50_307
  | 1, _ => fH_X8_50_308
theorem fH_X8_50_ow : ∀ {o : Nat}, o < 2 → gFw shH (307 + o) 6 0 0 RX8 50 .int
  | 0, _ => fH_X8_50_307w
  | 1, _ => fH_X8_50_308w
theorem fH_X8_53_307 : gF shH 307 7 0 0 RX8 53 := ⟨7, 8, 11, shF_307, RX8, RX8, TX8, oH_307, rfl, rfl, by decide, iX8, wdF_RX8_53, rfl⟩
theorem fH_X8_53_307w : gFw shH 307 7 0 0 RX8 53 .int := ⟨7, 8, 11, shF_307, RX8, RX8, TX8, tyX8, oH_307, rfl, rfl, by decide, iX8, wdF_RX8_53, rfl, tyX8_ok, nmX8, rfl, by decide +kernel, shH_U⟩
theorem fH_X8_53_308 : gF shH 308 7 0 0 RX8 53 := ⟨8, 8, 11, shF_308, RX8, RX8, TX8, oH_308, rfl, rfl, by decide, iX8, wdF_RX8_53, rfl⟩
theorem fH_X8_53_308w : gFw shH 308 7 0 0 RX8 53 .int := ⟨8, 8, 11, shF_308, RX8, RX8, TX8, tyX8, oH_308, rfl, rfl, by decide, iX8, wdF_RX8_53, rfl, tyX8_ok, nmX8, rfl, by decide +kernel, shH_U⟩
theorem fH_X8_53_o : ∀ {o : Nat}, o < 2 → gF shH (307 + o) 7 0 0 RX8 53
  | 0, _ => fH_X8_53_307
  | 1, _ => fH_X8_53_308
theorem fH_X8_53_ow : ∀ {o : Nat}, o < 2 → gFw shH (307 + o) 7 0 0 RX8 53 .int
  | 0, _ => fH_X8_53_307w
  | 1, _ => fH_X8_53_308w
theorem fH_X8_23_307 : gF shH 307 8 0 0 RX8 23 := ⟨7, 8, 11, shF_307, RX8, RX8, TX8, oH_307, rfl, rfl, by decide, iX8, wdF_RX8_23, rfl⟩
theorem fH_X8_23_307w : gFw shH 307 8 0 0 RX8 23 .boolean := ⟨7, 8, 11, shF_307, RX8, RX8, TX8, tyX8, oH_307, rfl, rfl, by decide, iX8, wdF_RX8_23, rfl, tyX8_ok, nmX8, rfl, by decide +kernel, shH_U⟩
theorem fH_X8_23_308 : gF shH 308 8 0 0 RX8 23 := ⟨8, 8, 11, shF_308, RX8, RX8, TX8, oH_308, rfl, rfl, by decide, iX8, wdF_RX8_23, rfl⟩
theorem fH_X8_23_308w : gFw shH 308 8 0 0 RX8 23 .boolean := ⟨8, 8, 11, shF_308, RX8, RX8, TX8, tyX8, oH_308, rfl, rfl, by decide, iX8, wdF_RX8_23, rfl, tyX8_ok, nmX8, rfl, by decide +kernel, shH_U⟩
theorem fH_X8_23_o : ∀ {o : Nat}, o < 2 → gF shH (307 + o) 8 0 0 RX8 23
  | 0, _ => fH_X8_23_307
  | 1, _ => fH_X8_23_308
theorem fH_X8_23_ow : ∀ {o : Nat}, o < 2 → gFw shH (307 + o) 8 0 0 RX8 23 .boolean
  | 0, _ => fH_X8_23_307w
  | 1, _ => fH_X8_23_308w
theorem fH_X8_27_307 : gF shH 307 9 0 0 RX8 27 := ⟨7, 8, 11, shF_307, RX8, RX8, TX8, oH_307, rfl, rfl, by decide, iX8, wdF_RX8_27, rfl⟩
theorem fH_X8_27_307w : gFw shH 307 9 0 0 RX8 27 .int := ⟨7, 8, 11, shF_307, RX8, RX8, TX8, tyX8, oH_307, rfl, rfl, by decide, iX8, wdF_RX8_27, rfl, tyX8_ok, nmX8, rfl, by decide +kernel, shH_U⟩
theorem fH_X8_27_308 : gF shH 308 9 0 0 RX8 27 := ⟨8, 8, 11, shF_308, RX8, RX8, TX8, oH_308, rfl, rfl, by decide, iX8, wdF_RX8_27, rfl⟩
theorem fH_X8_27_308w : gFw shH 308 9 0 0 RX8 27 .int := ⟨8, 8, 11, shF_308, RX8, RX8, TX8, tyX8, oH_308, rfl, rfl, by decide, iX8, wdF_RX8_27, rfl, tyX8_ok, nmX8, rfl, by decide +kernel, shH_U⟩
theorem fH_X8_27_o : ∀ {o : Nat}, o < 2 → gF shH (307 + o) 9 0 0 RX8 27
  | 0, _ => fH_X8_27_307
  | 1, _ => fH_X8_27_308
theorem fH_X8_27_ow : ∀ {o : Nat}, o < 2 → gFw shH (307 + o) 9 0 0 RX8 27 .int
  | 0, _ => fH_X8_27_307w
  | 1, _ => fH_X8_27_308w
theorem fH_X8_31_307 : gF shH 307 10 0 0 RX8 31 := ⟨7, 8, 11, shF_307, RX8, RX8, TX8, oH_307, rfl, rfl, by decide, iX8, wdF_RX8_31, rfl⟩
theorem fH_X8_31_307w : gFw shH 307 10 0 0 RX8 31 .int := ⟨7, 8, 11, shF_307, RX8, RX8, TX8, tyX8, oH_307, rfl, rfl, by decide, iX8, wdF_RX8_31, rfl, tyX8_ok, nmX8, rfl, by decide +kernel, shH_U⟩
theorem fH_X8_31_308 : gF shH 308 10 0 0 RX8 31 := ⟨8, 8, 11, shF_308, RX8, RX8, TX8, oH_308, rfl, rfl, by decide, iX8, wdF_RX8_31, rfl⟩
theorem fH_X8_31_308w : gFw shH 308 10 0 0 RX8 31 .int := ⟨8, 8, 11, shF_308, RX8, RX8, TX8, tyX8, oH_308, rfl, rfl, by decide, iX8, wdF_RX8_31, rfl, tyX8_ok, nmX8, rfl, by decide +kernel, shH_U⟩
theorem fH_X8_31_o : ∀ {o : Nat}, o < 2 → gF shH (307 + o) 10 0 0 RX8 31
  | 0, _ => fH_X8_31_307
  | 1, _ => fH_X8_31_308
theorem fH_X8_31_ow : ∀ {o : Nat}, o < 2 → gFw shH (307 + o) 10 0 0 RX8 31 .int
  | 0, _ => fH_X8_31_307w
  | 1, _ => fH_X8_31_308w
theorem fH_X4_11_309 : gF shH 309 0 1 420 RX4 11 := ⟨9, 4, 3, shF_309, RX4, RX4, TX4, oH_309, rfl, rfl, by decide, iX4, wdF_RX4_11, rfl⟩
theorem fH_X4_19_309 : gF shH 309 1 0 0 RX4 19 := ⟨9, 4, 3, shF_309, RX4, RX4, TX4, oH_309, rfl, rfl, by decide, iX4, wdF_RX4_19, rfl⟩
theorem fH_X4_19_309w : gFw shH 309 1 0 0 RX4 19 .int := ⟨9, 4, 3, shF_309, RX4, RX4, TX4, tyX4, oH_309, rfl, rfl, by decide, iX4, wdF_RX4_19, rfl, tyX4_ok, nmX4, rfl, by decide +kernel, shH_U⟩
theorem fH_X4_15_309 : gF shH 309 2 0 0 RX4 15 := ⟨9, 4, 3, shF_309, RX4, RX4, TX4, oH_309, rfl, rfl, by decide, iX4, wdF_RX4_15, rfl⟩
theorem fH_X4_15_309w : gFw shH 309 2 0 0 RX4 15 .int := ⟨9, 4, 3, shF_309, RX4, RX4, TX4, tyX4, oH_309, rfl, rfl, by decide, iX4, wdF_RX4_15, rfl, tyX4_ok, nmX4, rfl, by decide +kernel, shH_U⟩
theorem fH_X11_195_309 : gF shH 309 2 0 0 RX11 195 := ⟨9, 4, 3, shF_309, RX4, RX4, TX4, oH_309, rfl, rfl, by decide, iX4, wdF_RX11_195, rfl⟩
theorem fH_X11_195_309w : gFw shH 309 2 0 0 RX11 195 .int := ⟨9, 4, 3, shF_309, RX4, RX4, TX4, tyX4, oH_309, rfl, rfl, by decide, iX4, wdF_RX11_195, rfl, tyX4_ok, nmX4, rfl, by decide +kernel, shH_U⟩
theorem fH_X9_46_310 : gF shH 310 0 1 302 RX9 46 := ⟨10, 9, 18, shF_310, RX9, RX9, TX9, oH_310, rfl, rfl, by decide, iX9, wdF_RX9_46, rfl⟩
theorem fH_X9_50_310 : gF shH 310 1 1 304 RX9 50 := ⟨10, 9, 18, shF_310, RX9, RX9, TX9, oH_310, rfl, rfl, by decide, iX9, wdF_RX9_50, rfl⟩
theorem fH_X9_54_310 : gF shH 310 2 1 306 RX9 54 := ⟨10, 9, 18, shF_310, RX9, RX9, TX9, oH_310, rfl, rfl, by decide, iX9, wdF_RX9_54, rfl⟩
theorem fH_X9_11_310 : gF shH 310 3 1 430 RX9 11 := ⟨10, 9, 18, shF_310, RX9, RX9, TX9, oH_310, rfl, rfl, by decide, iX9, wdF_RX9_11, rfl⟩
theorem fH_X9_15_310 : gF shH 310 4 1 431 RX9 15 := ⟨10, 9, 18, shF_310, RX9, RX9, TX9, oH_310, rfl, rfl, by decide, iX9, wdF_RX9_15, rfl⟩
theorem fH_X9_20_310 : gF shH 310 5 1 432 RX9 20 := ⟨10, 9, 18, shF_310, RX9, RX9, TX9, oH_310, rfl, rfl, by decide, iX9, wdF_RX9_20, rfl⟩
theorem fH_X9_23_310 : gF shH 310 6 1 433 RX9 23 := ⟨10, 9, 18, shF_310, RX9, RX9, TX9, oH_310, rfl, rfl, by decide, iX9, wdF_RX9_23, rfl⟩
theorem fH_X9_27_310 : gF shH 310 7 1 434 RX9 27 := ⟨10, 9, 18, shF_310, RX9, RX9, TX9, oH_310, rfl, rfl, by decide, iX9, wdF_RX9_27, rfl⟩
theorem fH_X9_30_310 : gF shH 310 8 1 435 RX9 30 := ⟨10, 9, 18, shF_310, RX9, RX9, TX9, oH_310, rfl, rfl, by decide, iX9, wdF_RX9_30, rfl⟩
theorem fH_X9_33_310 : gF shH 310 9 1 436 RX9 33 := ⟨10, 9, 18, shF_310, RX9, RX9, TX9, oH_310, rfl, rfl, by decide, iX9, wdF_RX9_33, rfl⟩
theorem fH_X9_36_310 : gF shH 310 10 1 437 RX9 36 := ⟨10, 9, 18, shF_310, RX9, RX9, TX9, oH_310, rfl, rfl, by decide, iX9, wdF_RX9_36, rfl⟩
theorem fH_X9_74_310 : gF shH 310 11 0 0 RX9 74 := ⟨10, 9, 18, shF_310, RX9, RX9, TX9, oH_310, rfl, rfl, by decide, iX9, wdF_RX9_74, rfl⟩
theorem fH_X9_74_310w : gFw shH 310 11 0 0 RX9 74 .int := ⟨10, 9, 18, shF_310, RX9, RX9, TX9, tyX9, oH_310, rfl, rfl, by decide, iX9, wdF_RX9_74, rfl, tyX9_ok, nmX9, rfl, by decide +kernel, shH_U⟩
theorem fH_X9_82_310 : gF shH 310 12 0 0 RX9 82 := ⟨10, 9, 18, shF_310, RX9, RX9, TX9, oH_310, rfl, rfl, by decide, iX9, wdF_RX9_82, rfl⟩
theorem fH_X9_82_310w : gFw shH 310 12 0 0 RX9 82 .int := ⟨10, 9, 18, shF_310, RX9, RX9, TX9, tyX9, oH_310, rfl, rfl, by decide, iX9, wdF_RX9_82, rfl, tyX9_ok, nmX9, rfl, by decide +kernel, shH_U⟩
theorem fH_X9_138_310 : gF shH 310 13 0 0 RX9 138 := ⟨10, 9, 18, shF_310, RX9, RX9, TX9, oH_310, rfl, rfl, by decide, iX9, wdF_RX9_138, rfl⟩
theorem fH_X9_138_310w : gFw shH 310 13 0 0 RX9 138 .int := ⟨10, 9, 18, shF_310, RX9, RX9, TX9, tyX9, oH_310, rfl, rfl, by decide, iX9, wdF_RX9_138, rfl, tyX9_ok, nmX9, rfl, by decide +kernel, shH_U⟩
theorem fH_X11_281_310 : gF shH 310 13 0 0 RX11 281 := ⟨10, 9, 18, shF_310, RX9, RX9, TX9, oH_310, rfl, rfl, by decide, iX9, wdF_RX11_281, rfl⟩
theorem fH_X11_281_310w : gFw shH 310 13 0 0 RX11 281 .int := ⟨10, 9, 18, shF_310, RX9, RX9, TX9, tyX9, oH_310, rfl, rfl, by decide, iX9, wdF_RX11_281, rfl, tyX9_ok, nmX9, rfl, by decide +kernel, shH_U⟩
theorem fH_X9_39_310 : gF shH 310 14 0 0 RX9 39 := ⟨10, 9, 18, shF_310, RX9, RX9, TX9, oH_310, rfl, rfl, by decide, iX9, wdF_RX9_39, rfl⟩
theorem fH_X9_39_310w : gFw shH 310 14 0 0 RX9 39 .int := ⟨10, 9, 18, shF_310, RX9, RX9, TX9, tyX9, oH_310, rfl, rfl, by decide, iX9, wdF_RX9_39, rfl, tyX9_ok, nmX9, rfl, by decide +kernel, shH_U⟩
theorem fH_X9_43_310 : gF shH 310 15 1 438 RX9 43 := ⟨10, 9, 18, shF_310, RX9, RX9, TX9, oH_310, rfl, rfl, by decide, iX9, wdF_RX9_43, rfl⟩
theorem fH_X9_58_310 : gF shH 310 16 0 0 RX9 58 := ⟨10, 9, 18, shF_310, RX9, RX9, TX9, oH_310, rfl, rfl, by decide, iX9, wdF_RX9_58, rfl⟩
theorem fH_X9_58_310w : gFw shH 310 16 0 0 RX9 58 .boolean := ⟨10, 9, 18, shF_310, RX9, RX9, TX9, tyX9, oH_310, rfl, rfl, by decide, iX9, wdF_RX9_58, rfl, tyX9_ok, nmX9, rfl, by decide +kernel, shH_U⟩
theorem fH_X9_62_310 : gF shH 310 17 0 0 RX9 62 := ⟨10, 9, 18, shF_310, RX9, RX9, TX9, oH_310, rfl, rfl, by decide, iX9, wdF_RX9_62, rfl⟩
theorem fH_X9_62_310w : gFw shH 310 17 0 0 RX9 62 .int := ⟨10, 9, 18, shF_310, RX9, RX9, TX9, tyX9, oH_310, rfl, rfl, by decide, iX9, wdF_RX9_62, rfl, tyX9_ok, nmX9, rfl, by decide +kernel, shH_U⟩
theorem fH_X11_245_310 : gF shH 310 17 0 0 RX11 245 := ⟨10, 9, 18, shF_310, RX9, RX9, TX9, oH_310, rfl, rfl, by decide, iX9, wdF_RX11_245, rfl⟩
theorem fH_X11_245_310w : gFw shH 310 17 0 0 RX11 245 .int := ⟨10, 9, 18, shF_310, RX9, RX9, TX9, tyX9, oH_310, rfl, rfl, by decide, iX9, wdF_RX11_245, rfl, tyX9_ok, nmX9, rfl, by decide +kernel, shH_U⟩
theorem fH_X11_10_300 : gF shH 300 0 1 301 RX11 10 := ⟨0, 11, 17, shF_300, RX11, RX11, TX11, oH_300, rfl, rfl, by decide, iX11, wdF_RX11_10, rfl⟩
theorem fH_X11_19_300 : gF shH 300 1 1 302 RX11 19 := ⟨0, 11, 17, shF_300, RX11, RX11, TX11, oH_300, rfl, rfl, by decide, iX11, wdF_RX11_19, rfl⟩
theorem fH_X11_28_300 : gF shH 300 2 1 303 RX11 28 := ⟨0, 11, 17, shF_300, RX11, RX11, TX11, oH_300, rfl, rfl, by decide, iX11, wdF_RX11_28, rfl⟩
theorem fH_X11_37_300 : gF shH 300 3 1 304 RX11 37 := ⟨0, 11, 17, shF_300, RX11, RX11, TX11, oH_300, rfl, rfl, by decide, iX11, wdF_RX11_37, rfl⟩
theorem fH_X11_44_300 : gF shH 300 4 1 305 RX11 44 := ⟨0, 11, 17, shF_300, RX11, RX11, TX11, oH_300, rfl, rfl, by decide, iX11, wdF_RX11_44, rfl⟩
theorem fH_X11_48_300 : gF shH 300 5 1 306 RX11 48 := ⟨0, 11, 17, shF_300, RX11, RX11, TX11, oH_300, rfl, rfl, by decide, iX11, wdF_RX11_48, rfl⟩
theorem fH_X11_56_300 : gF shH 300 6 1 307 RX11 56 := ⟨0, 11, 17, shF_300, RX11, RX11, TX11, oH_300, rfl, rfl, by decide, iX11, wdF_RX11_56, rfl⟩
theorem fH_X11_60_300 : gF shH 300 7 1 308 RX11 60 := ⟨0, 11, 17, shF_300, RX11, RX11, TX11, oH_300, rfl, rfl, by decide, iX11, wdF_RX11_60, rfl⟩
theorem fH_X11_66_300 : gF shH 300 8 1 309 RX11 66 := ⟨0, 11, 17, shF_300, RX11, RX11, TX11, oH_300, rfl, rfl, by decide, iX11, wdF_RX11_66, rfl⟩
theorem fH_X11_75_300 : gF shH 300 9 1 310 RX11 75 := ⟨0, 11, 17, shF_300, RX11, RX11, TX11, oH_300, rfl, rfl, by decide, iX11, wdF_RX11_75, rfl⟩
theorem fH_X11_79_300 : gF shH 300 10 1 320 RX11 79 := ⟨0, 11, 17, shF_300, RX11, RX11, TX11, oH_300, rfl, rfl, by decide, iX11, wdF_RX11_79, rfl⟩
theorem fH_X11_158_300 : gF shH 300 11 0 0 RX11 158 := ⟨0, 11, 17, shF_300, RX11, RX11, TX11, oH_300, rfl, rfl, by decide, iX11, wdF_RX11_158, rfl⟩
theorem fH_X11_158_300w : gFw shH 300 11 0 0 RX11 158 .int := ⟨0, 11, 17, shF_300, RX11, RX11, TX11, tyX11, oH_300, rfl, rfl, by decide, iX11, wdF_RX11_158, rfl, tyX11_ok, nmX11, rfl, by decide +kernel, shH_U⟩
theorem fH_X11_161_300 : gF shH 300 12 0 0 RX11 161 := ⟨0, 11, 17, shF_300, RX11, RX11, TX11, oH_300, rfl, rfl, by decide, iX11, wdF_RX11_161, rfl⟩
theorem fH_X11_161_300w : gFw shH 300 12 0 0 RX11 161 .int := ⟨0, 11, 17, shF_300, RX11, RX11, TX11, tyX11, oH_300, rfl, rfl, by decide, iX11, wdF_RX11_161, rfl, tyX11_ok, nmX11, rfl, by decide +kernel, shH_U⟩
theorem fH_X11_121_300 : gF shH 300 13 0 0 RX11 121 := ⟨0, 11, 17, shF_300, RX11, RX11, TX11, oH_300, rfl, rfl, by decide, iX11, wdF_RX11_121, rfl⟩
theorem fH_X11_121_300w : gFw shH 300 13 0 0 RX11 121 .int := ⟨0, 11, 17, shF_300, RX11, RX11, TX11, tyX11, oH_300, rfl, rfl, by decide, iX11, wdF_RX11_121, rfl, tyX11_ok, nmX11, rfl, by decide +kernel, shH_U⟩
theorem fH_X11_83_300 : gF shH 300 14 0 0 RX11 83 := ⟨0, 11, 17, shF_300, RX11, RX11, TX11, oH_300, rfl, rfl, by decide, iX11, wdF_RX11_83, rfl⟩
theorem fH_X11_83_300w : gFw shH 300 14 0 0 RX11 83 .int := ⟨0, 11, 17, shF_300, RX11, RX11, TX11, tyX11, oH_300, rfl, rfl, by decide, iX11, wdF_RX11_83, rfl, tyX11_ok, nmX11, rfl, by decide +kernel, shH_U⟩
theorem fH_X11_87_300 : gF shH 300 15 0 0 RX11 87 := ⟨0, 11, 17, shF_300, RX11, RX11, TX11, oH_300, rfl, rfl, by decide, iX11, wdF_RX11_87, rfl⟩
theorem fH_X11_87_300w : gFw shH 300 15 0 0 RX11 87 .int := ⟨0, 11, 17, shF_300, RX11, RX11, TX11, tyX11, oH_300, rfl, rfl, by decide, iX11, wdF_RX11_87, rfl, tyX11_ok, nmX11, rfl, by decide +kernel, shH_U⟩
theorem fH_X11_90_300 : gF shH 300 16 0 0 RX11 90 := ⟨0, 11, 17, shF_300, RX11, RX11, TX11, oH_300, rfl, rfl, by decide, iX11, wdF_RX11_90, rfl⟩
theorem fH_X11_90_300w : gFw shH 300 16 0 0 RX11 90 .int := ⟨0, 11, 17, shF_300, RX11, RX11, TX11, tyX11, oH_300, rfl, rfl, by decide, iX11, wdF_RX11_90, rfl, tyX11_ok, nmX11, rfl, by decide +kernel, shH_U⟩
theorem aF_0 : ∀ {o : Nat}, o < 2 → gA shH (390 + 10 * o) 1 64
  | 0, _ => aH_390
  | 1, _ => aH_400
theorem aF_1 : ∀ {o : Nat}, o < 2 → gA shH (391 + 10 * o) 1 64
  | 0, _ => aH_391
  | 1, _ => aH_401
theorem aF_2 : ∀ {o : Nat}, o < 2 → gA shH (392 + 10 * o) 1 64
  | 0, _ => aH_392
  | 1, _ => aH_402
theorem aF_3 : ∀ {o : Nat}, o < 2 → gA shH (393 + 10 * o) 1 64
  | 0, _ => aH_393
  | 1, _ => aH_403
theorem aF_4 : ∀ {o : Nat}, o < 2 → gA shH (394 + 10 * o) 1 64
  | 0, _ => aH_394
  | 1, _ => aH_404
theorem aF_5 : ∀ {o : Nat}, o < 2 → gA shH (395 + 10 * o) 1 64
  | 0, _ => aH_395
  | 1, _ => aH_405
theorem aF_6 : ∀ {o : Nat}, o < 2 → gA shH (396 + 10 * o) 2 4
  | 0, _ => aH_396
  | 1, _ => aH_406
theorem aF_7 : ∀ {o : Nat}, o < 2 → gA shH (397 + 10 * o) 0 4096
  | 0, _ => aH_397
  | 1, _ => aH_407
theorem aR : ∀ {o : Nat}, o < 2 → gA shH (410 + o) 2 1500
  | 0, _ => aH_410
  | 1, _ => aH_411
def nmL (o : Nat) : Nat := match o with
  | 0 => 120
  | 1 => 300
  | _ => 180
theorem aN : ∀ {o : Nat}, o < 3 → gA shH (340 + o) 2 (nmL o)
  | 0, _ => aH_340
  | 1, _ => aH_341
  | 2, _ => aH_342
theorem oX3 : ∀ {o : Nat}, o < 2 → gO shH (305 + o) 3
  | 0, _ => ⟨_, _, oH_305⟩
  | 1, _ => ⟨_, _, oH_306⟩
theorem oX8 : ∀ {o : Nat}, o < 2 → gO shH (307 + o) 8
  | 0, _ => ⟨_, _, oH_307⟩
  | 1, _ => ⟨_, _, oH_308⟩
theorem oX6 : ∀ {o : Nat}, o < 3 → gO shH (312 + o) 6
  | 0, _ => ⟨_, _, oH_312⟩
  | 1, _ => ⟨_, _, oH_313⟩
  | 2, _ => ⟨_, _, oH_314⟩
