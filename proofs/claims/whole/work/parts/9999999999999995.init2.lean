/-! the worlds at the beginning -/
def r0H (xo : Nat) (ad : Nat → Nat) (id : Nat) : Nat := bif Nat.beq id 300 then xo else bif Nat.beq id 301 then ad 0 else bif Nat.beq id 302 then ad 7 else bif Nat.beq id 303 then ad 28 else bif Nat.beq id 304 then ad 30 else bif Nat.beq id 305 then ad 76 else bif Nat.beq id 306 then ad 46 else bif Nat.beq id 307 then ad 55 else bif Nat.beq id 308 then ad 57 else bif Nat.beq id 309 then ad 59 else bif Nat.beq id 310 then ad 61 else bif Nat.beq id 311 then ad 40 else bif Nat.beq id 312 then ad 8 else bif Nat.beq id 313 then ad 10 else bif Nat.beq id 314 then ad 12 else bif Nat.beq id 320 then ad 80 else bif Nat.beq id 330 then ad 1 else bif Nat.beq id 331 then ad 2 else bif Nat.beq id 332 then ad 3 else bif Nat.beq id 333 then ad 4 else bif Nat.beq id 334 then ad 5 else bif Nat.beq id 335 then ad 6 else bif Nat.beq id 340 then ad 9 else bif Nat.beq id 341 then ad 11 else bif Nat.beq id 342 then ad 13 else bif Nat.beq id 350 then ad 14 else bif Nat.beq id 351 then ad 15 else bif Nat.beq id 352 then ad 16 else bif Nat.beq id 353 then ad 17 else bif Nat.beq id 354 then ad 18 else bif Nat.beq id 355 then ad 19 else bif Nat.beq id 356 then ad 20 else bif Nat.beq id 357 then ad 21 else bif Nat.beq id 358 then ad 22 else bif Nat.beq id 359 then ad 23 else bif Nat.beq id 360 then ad 24 else bif Nat.beq id 361 then ad 25 else bif Nat.beq id 362 then ad 26 else bif Nat.beq id 363 then ad 27 else bif Nat.beq id 365 then ad 29 else bif Nat.beq id 370 then ad 31 else bif Nat.beq id 371 then ad 32 else bif Nat.beq id 372 then ad 33 else bif Nat.beq id 373 then ad 34 else bif Nat.beq id 374 then ad 35 else bif Nat.beq id 375 then ad 36 else bif Nat.beq id 376 then ad 37 else bif Nat.beq id 377 then ad 38 else bif Nat.beq id 378 then ad 39 else bif Nat.beq id 380 then ad 41 else bif Nat.beq id 381 then ad 42 else bif Nat.beq id 382 then ad 43 else bif Nat.beq id 383 then ad 44 else bif Nat.beq id 384 then ad 45 else bif Nat.beq id 390 then ad 77 else bif Nat.beq id 391 then ad 78 else bif Nat.beq id 392 then ad 79 else bif Nat.beq id 393 then ad 71 else bif Nat.beq id 394 then ad 72 else bif Nat.beq id 395 then ad 73 else bif Nat.beq id 396 then ad 74 else bif Nat.beq id 397 then ad 75 else bif Nat.beq id 400 then ad 47 else bif Nat.beq id 401 then ad 48 else bif Nat.beq id 402 then ad 49 else bif Nat.beq id 403 then ad 50 else bif Nat.beq id 404 then ad 51 else bif Nat.beq id 405 then ad 52 else bif Nat.beq id 406 then ad 53 else bif Nat.beq id 407 then ad 54 else bif Nat.beq id 410 then ad 56 else bif Nat.beq id 411 then ad 58 else bif Nat.beq id 430 then ad 62 else bif Nat.beq id 431 then ad 63 else bif Nat.beq id 432 then ad 64 else bif Nat.beq id 433 then ad 65 else bif Nat.beq id 434 then ad 66 else bif Nat.beq id 435 then ad 67 else bif Nat.beq id 436 then ad 68 else bif Nat.beq id 437 then ad 69 else bif Nat.beq id 438 then ad 70 else bif Nat.beq id 420 then ad 60 else 0
def q0M (mo : Nat) (r : Nat → Nat) (id : Nat) : Nat := bif Nat.beq id 200 then mo else r id
theorem c2 {α : Type} {a b : α} {as bs : List α} (h1 : a = b) (h2 : as = bs) : a :: as = b :: bs := by rw [h1, h2]
set_option maxRecDepth 100000 in
set_option maxHeartbeats 4000000 in
theorem w0H (E : cE) (xo : Nat) (ad : Nat → Nat) (gx gy gf gt gh gc : Nat → Int32) : gW E (r0H xo ad) shH (t0H gx gy gf gt gh gc) = [(xo, ob 11 [.ref (ad 0), .ref (ad 7), .ref (ad 28), .ref (ad 30), .ref (ad 76), .ref (ad 46), .ref (ad 55), .ref (ad 57), .ref (ad 59), .ref (ad 61), .ref (ad 80), .int 0, .int 0, .int 0, .int (-1), .int (-1), .int (-1)]), (ad 0, ob 10 [.ref (ad 1), .int 0, .ref (ad 2), .ref (ad 3), .ref (ad 4), .ref (ad 5), .ref (ad 6), .int 0]), (ad 7, ob 0 [.ref (ad 8), .ref (ad 10), .ref (ad 12), .ref (ad 14), .ref (ad 15), .ref (ad 16), .ref (ad 17), .ref (ad 18), .ref (ad 19), .ref (ad 20), .ref (ad 21), .ref (ad 22), .ref (ad 23), .ref (ad 24), .ref (ad 25), .ref (ad 26), .int 0, .ref (ad 27), .int 0, .int 0]), (ad 28, ob 7 [.ref (ad 0), .ref (ad 7), .int 0, .int 0, .int 0, .int 0, .int 0, .int 0, .int 0, .int 0, .int 0, .int 0, .ref (ad 29)]), (ad 30, ob 1 [.ref (ad 7), .ref (ad 40), .ref (ad 31), .ref (ad 32), .ref (ad 33), .ref (ad 34), .ref (ad 35), .ref (ad 36), .ref (ad 37), .ref (ad 38), .ref (ad 39), .int 0, .int 0, .int 0, .int 0, .int 0, .int 0]), (ad 76, ob 3 [.ref (ad 77), .ref (ad 78), .ref (ad 79), .ref (ad 71), .ref (ad 72), .ref (ad 73), .ref (ad 74), .ref (ad 75), .int (nI (2 * 4)), .int (0 + nI 1)]), (ad 46, ob 3 [.ref (ad 47), .ref (ad 48), .ref (ad 49), .ref (ad 50), .ref (ad 51), .ref (ad 52), .ref (ad 53), .ref (ad 54), .int 0, .int 0]), (ad 55, ob 8 [.ref (ad 7), .ref (ad 30), .int 0, .int 0, .long 0, .ref (ad 56), .int 0, .int 0, .int 0, .int 0, .int 0]), (ad 57, ob 8 [.ref (ad 7), .ref (ad 30), .int 0, .int 0, .long 0, .ref (ad 58), .int 0, .int 0, .int 0, .int 0, .int 0]), (ad 59, ob 4 [.ref (ad 60), .int 0, .int 0]), (ad 61, ob 9 [.ref (ad 7), .ref (ad 30), .ref (ad 46), .ref (ad 62), .ref (ad 63), .ref (ad 64), .ref (ad 65), .ref (ad 66), .ref (ad 67), .ref (ad 68), .ref (ad 69), .int 0, .int 0, .int 0, .int (-1), .ref (ad 70), .int 0, .int 0]), (ad 40, ob 2 [.ref (ad 7), .ref (ad 41), .ref (ad 42), .null, .int 0, .long 0, .ref (ad 43), .ref (ad 44), .ref (ad 45), .int 0]), (ad 8, ob 6 [.ref (ad 9), .int (nI 40), .int 0]), (ad 10, ob 6 [.ref (ad 11), .int (nI 100), .int 0]), (ad 12, ob 6 [.ref (ad 13), .int (nI 60), .int 0]), (ad 80, aI E 64 gc), (ad 1, aB E 4096 (fun _ => 0)), (ad 2, aJ E 38 (kwG 182)), (ad 3, aI E 4098 (fun _ => 0)), (ad 4, aI E 4098 (fun _ => 0)), (ad 5, aI E 4098 (fun _ => 0)), (ad 6, aJ E 12294 (fun _ => 0)), (ad 9, aJ E 120 (fun _ => 0)), (ad 11, aJ E 300 (fun _ => 0)), (ad 13, aJ E 180 (fun _ => 0)), (ad 14, aI E 40 (fun _ => 0)), (ad 15, aI E 1280 (fun _ => 0)), (ad 16, aI E 1280 (fun _ => 0)), (ad 17, aI E 320 (fun _ => 0)), (ad 18, aI E 100 (fun _ => 0)), (ad 19, aI E 100 (fun _ => 0)), (ad 20, aI E 100 (fun _ => 0)), (ad 21, aI E 800 (fun _ => 0)), (ad 22, aI E 800 (fun _ => 0)), (ad 23, aI E 800 (fun _ => 0)), (ad 24, aI E 60 (fun _ => 0)), (ad 25, aI E 32 (fun _ => 0)), (ad 26, aI E 32 (fun _ => 0)), (ad 27, aI E 10098 (fun _ => 0)), (ad 29, aI E 6 (fun _ => 0)), (ad 31, aJ E 96 (fun _ => 0)), (ad 32, aJ E 4 (fun _ => 0)), (ad 33, aI E 4 (fun _ => 0)), (ad 34, aI E 64 (fun _ => 0)), (ad 35, aI E 64 (fun _ => 0)), (ad 36, aI E 64 (fun _ => 0)), (ad 37, aI E 64 (fun _ => 0)), (ad 38, aI E 512 (fun _ => 0)), (ad 39, aI E 4096 (fun _ => 0)), (ad 41, aB E 2560 (fun _ => 0)), (ad 42, aB E 40 (fun _ => 0)), (ad 43, aI E 65 (fun _ => 0)), (ad 44, aI E 65 (fun _ => 0)), (ad 45, aJ E 65 (fun _ => 0)), (ad 77, aI E 64 gx), (ad 78, aI E 64 gy), (ad 79, aI E 64 gf), (ad 71, aI E 64 gt), (ad 72, aI E 64 gh), (ad 73, aI E 64 (fun j => nI (srtO (cdLt (stC 0)) (fun _ => 0) (2 * 4) j))), (ad 74, aJ E 4 (faOf (stC 0) (2 * 4))), (ad 75, aB E 4096 (seatOf (stC 0) (2 * 4))), (ad 47, aI E 64 (fun _ => 0)), (ad 48, aI E 64 (fun _ => 0)), (ad 49, aI E 64 (fun _ => 0)), (ad 50, aI E 64 (fun _ => 0)), (ad 51, aI E 64 (fun _ => 0)), (ad 52, aI E 64 (fun _ => 0)), (ad 53, aJ E 4 (fun _ => 0)), (ad 54, aB E 4096 (fun _ => 0)), (ad 56, aJ E 1500 (fun _ => 0)), (ad 58, aJ E 1500 (fun _ => 0)), (ad 62, aJ E 6000 (fun _ => 0)), (ad 63, aS E 4096 (fun _ => 0)), (ad 64, aS E 64000 (fun _ => 0)), (ad 65, aI E 15 (fun _ => 0)), (ad 66, aJ E 2000 (fun _ => 0)), (ad 67, aI E 2000 (fun _ => 0)), (ad 68, aJ E 3 (fun _ => 0)), (ad 69, aI E 16 (fun _ => 0)), (ad 70, aI E 12 (fun _ => 0))] :=
  (c2 rfl
  (c2 rfl
  (c2 rfl
  (c2 rfl
  (c2 rfl
  (c2 rfl
  (c2 rfl
  (c2 rfl
  (c2 rfl
  (c2 rfl
  (c2 rfl
  (c2 rfl
  (c2 rfl
  (c2 rfl
  (c2 rfl
  (c2 (congrArg (fun f : Nat → Int32 => ((ad 80 : Nat), aI E 64 f)) (funext fun i => Int32.ofInt_toInt _))
  (c2 rfl
  (c2 rfl
  (c2 rfl
  (c2 rfl
  (c2 rfl
  (c2 rfl
  (c2 rfl
  (c2 rfl
  (c2 rfl
  (c2 rfl
  (c2 rfl
  (c2 rfl
  (c2 rfl
  (c2 rfl
  (c2 rfl
  (c2 rfl
  (c2 rfl
  (c2 rfl
  (c2 rfl
  (c2 rfl
  (c2 rfl
  (c2 rfl
  (c2 rfl
  (c2 rfl
  (c2 rfl
  (c2 rfl
  (c2 rfl
  (c2 rfl
  (c2 rfl
  (c2 rfl
  (c2 rfl
  (c2 rfl
  (c2 rfl
  (c2 rfl
  (c2 rfl
  (c2 rfl
  (c2 rfl
  (c2 rfl
  (c2 (congrArg (fun f : Nat → Int32 => ((ad 77 : Nat), aI E 64 f)) (funext fun i => Int32.ofInt_toInt _))
  (c2 (congrArg (fun f : Nat → Int32 => ((ad 78 : Nat), aI E 64 f)) (funext fun i => Int32.ofInt_toInt _))
  (c2 (congrArg (fun f : Nat → Int32 => ((ad 79 : Nat), aI E 64 f)) (funext fun i => Int32.ofInt_toInt _))
  (c2 (congrArg (fun f : Nat → Int32 => ((ad 71 : Nat), aI E 64 f)) (funext fun i => Int32.ofInt_toInt _))
  (c2 (congrArg (fun f : Nat → Int32 => ((ad 72 : Nat), aI E 64 f)) (funext fun i => Int32.ofInt_toInt _))
  (c2 (congrArg (fun f : Nat → Int32 => ((ad 73 : Nat), aI E 64 f)) (funext fun i => Int32.ofInt_toInt _))
  (c2 rfl
  (c2 (congrArg (fun f : Nat → Int32 => ((ad 75 : Nat), aB E 4096 f)) (funext fun i => Int32.ofInt_toInt _))
  (c2 rfl
  (c2 rfl
  (c2 rfl
  (c2 rfl
  (c2 rfl
  (c2 rfl
  (c2 rfl
  (c2 rfl
  (c2 rfl
  (c2 rfl
  (c2 rfl
  (c2 rfl
  (c2 rfl
  (c2 rfl
  (c2 rfl
  (c2 rfl
  (c2 rfl
  (c2 rfl
  (c2 rfl rfl)))))))))))))))))))))))))))))))))))))))))))))))))))))))))))))))))))))))))))))))))
theorem w0X (E : cE) (xo : Nat) (ad : Nat → Nat) (len : Nat → Nat) (μ : St) : exL E (r0H xo ad) 0 len μ = [(ad 60, aQ E 201 (fun _ => none))] := rfl
set_option maxRecDepth 100000 in
set_option maxHeartbeats 4000000 in
theorem w0f {mo : Nat} {r : Nat → Nat} {g : Nat → Value} (kx ky kw kt fx fy fw bx by_ bw : Nat → Int32) (hR : mOK r g) (hI : ∀ k, k < 116 → mRef k = false → g k = mI k) : gfs (q0M mo r) (m0M kx ky kw kt fx fy fw bx by_ bw) 200 shMf = mfs g :=
  (c2 (hR 0 rfl).symm
  (c2 (hI 1 (by decide) rfl).symm
  (c2 (hI 2 (by decide) rfl).symm
  (c2 (hI 3 (by decide) rfl).symm
  (c2 (hI 4 (by decide) rfl).symm
  (c2 (hI 5 (by decide) rfl).symm
  (c2 (hI 6 (by decide) rfl).symm
  (c2 (hI 7 (by decide) rfl).symm
  (c2 (hI 8 (by decide) rfl).symm
  (c2 (hR 9 rfl).symm
  (c2 (hR 10 rfl).symm
  (c2 (hR 11 rfl).symm
  (c2 (hR 12 rfl).symm
  (c2 (hI 13 (by decide) rfl).symm
  (c2 (hI 14 (by decide) rfl).symm
  (c2 (hI 15 (by decide) rfl).symm
  (c2 (hI 16 (by decide) rfl).symm
  (c2 (hI 17 (by decide) rfl).symm
  (c2 (hR 18 rfl).symm
  (c2 (hR 19 rfl).symm
  (c2 (hR 20 rfl).symm
  (c2 (hR 21 rfl).symm
  (c2 (hR 22 rfl).symm
  (c2 (hR 23 rfl).symm
  (c2 (hR 24 rfl).symm
  (c2 (hR 25 rfl).symm
  (c2 (hR 26 rfl).symm
  (c2 (hR 27 rfl).symm
  (c2 (hR 28 rfl).symm
  (c2 (hR 29 rfl).symm
  (c2 (hR 30 rfl).symm
  (c2 (hR 31 rfl).symm
  (c2 (hR 32 rfl).symm
  (c2 (hI 33 (by decide) rfl).symm
  (c2 (hI 34 (by decide) rfl).symm
  (c2 (hI 35 (by decide) rfl).symm
  (c2 (hI 36 (by decide) rfl).symm
  (c2 (hI 37 (by decide) rfl).symm
  (c2 (hR 38 rfl).symm
  (c2 (hR 39 rfl).symm
  (c2 (hR 40 rfl).symm
  (c2 (hR 41 rfl).symm
  (c2 (hI 42 (by decide) rfl).symm
  (c2 (hI 43 (by decide) rfl).symm
  (c2 (hR 44 rfl).symm
  (c2 (hR 45 rfl).symm
  (c2 (hR 46 rfl).symm
  (c2 (hR 47 rfl).symm
  (c2 (hR 48 rfl).symm
  (c2 (hR 49 rfl).symm
  (c2 (hI 50 (by decide) rfl).symm
  (c2 (hI 51 (by decide) rfl).symm
  (c2 (hI 52 (by decide) rfl).symm
  (c2 (hI 53 (by decide) rfl).symm
  (c2 (hI 54 (by decide) rfl).symm
  (c2 (hR 55 rfl).symm
  (c2 (hR 56 rfl).symm
  (c2 (hR 57 rfl).symm
  (c2 (hR 58 rfl).symm
  (c2 (hI 59 (by decide) rfl).symm
  (c2 (hI 60 (by decide) rfl).symm
  (c2 (hR 61 rfl).symm
  (c2 (hR 62 rfl).symm
  (c2 (hR 63 rfl).symm
  (c2 (hR 64 rfl).symm
  (c2 (hR 65 rfl).symm
  (c2 (hR 66 rfl).symm
  (c2 (hI 67 (by decide) rfl).symm
  (c2 (hI 68 (by decide) rfl).symm
  (c2 (hI 69 (by decide) rfl).symm
  (c2 (hI 70 (by decide) rfl).symm
  (c2 (hI 71 (by decide) rfl).symm
  (c2 (hI 72 (by decide) rfl).symm
  (c2 (hR 73 rfl).symm
  (c2 (hR 74 rfl).symm
  (c2 (hI 75 (by decide) rfl).symm
  (c2 (hR 76 rfl).symm
  (c2 (hR 77 rfl).symm
  (c2 (hR 78 rfl).symm
  (c2 (hR 79 rfl).symm
  (c2 (hR 80 rfl).symm
  (c2 (hR 81 rfl).symm
  (c2 (hI 82 (by decide) rfl).symm
  (c2 (hI 83 (by decide) rfl).symm
  (c2 (hI 84 (by decide) rfl).symm
  (c2 (hI 85 (by decide) rfl).symm
  (c2 (hR 86 rfl).symm
  (c2 (hR 87 rfl).symm
  (c2 (hI 88 (by decide) rfl).symm
  (c2 (hI 89 (by decide) rfl).symm
  (c2 (hI 90 (by decide) rfl).symm
  (c2 (hI 91 (by decide) rfl).symm
  (c2 (hR 92 rfl).symm
  (c2 (hR 93 rfl).symm
  (c2 (hR 94 rfl).symm
  (c2 (hR 95 rfl).symm
  (c2 (hR 96 rfl).symm
  (c2 (hR 97 rfl).symm
  (c2 (hI 98 (by decide) rfl).symm
  (c2 (hI 99 (by decide) rfl).symm
  (c2 (hI 100 (by decide) rfl).symm
  (c2 (hI 101 (by decide) rfl).symm
  (c2 (hI 102 (by decide) rfl).symm
  (c2 (hR 103 rfl).symm
  (c2 (hR 104 rfl).symm
  (c2 (hR 105 rfl).symm
  (c2 (hR 106 rfl).symm
  (c2 (hR 107 rfl).symm
  (c2 (hR 108 rfl).symm
  (c2 (hR 109 rfl).symm
  (c2 (hI 110 (by decide) rfl).symm
  (c2 (hI 111 (by decide) rfl).symm
  (c2 (hI 112 (by decide) rfl).symm
  (c2 (hI 113 (by decide) rfl).symm
  (c2 (hI 114 (by decide) rfl).symm
  (c2 (hI 115 (by decide) rfl).symm rfl))))))))))))))))))))))))))))))))))))))))))))))))))))))))))))))))))))))))))))))))))))))))))))))))))))))))))))))))))))
set_option maxRecDepth 100000 in
set_option maxHeartbeats 4000000 in
theorem w0M (E : cE) (mo : Nat) (r : Nat → Nat) (g : Nat → Value) (kx ky kw kt fx fy fw bx by_ bw : Nat → Int32) (hR : mOK r g) (hI : ∀ k, k < 116 → mRef k = false → g k = mI k) : gW E (q0M mo r) shM (m0M kx ky kw kt fx fy fw bx by_ bw) = [(mo, ob 12 (mfs g)), (r 0, aB E 4096 (fun _ => 0)), (r 9, aB E 4800 (fun _ => 0)), (r 10, aI E 200 (fun _ => 0)), (r 11, aI E 200 (fun _ => 0)), (r 12, aI E 200 (fun _ => 0)), (r 18, aI E 40 (fun _ => 0)), (r 19, aI E 320 (fun _ => 0)), (r 20, aI E 320 (fun _ => 0)), (r 21, aI E 320 (fun _ => 0)), (r 22, aI E 320 (fun _ => 0)), (r 23, aI E 100 (fun _ => 0)), (r 24, aI E 100 (fun _ => 0)), (r 25, aI E 100 (fun _ => 0)), (r 26, aI E 800 (fun _ => 0)), (r 27, aI E 800 (fun _ => 0)), (r 28, aI E 800 (fun _ => 0)), (r 29, aI E 60 (fun _ => 0)), (r 30, aI E 32 (fun _ => 0)), (r 31, aI E 10100 (fun _ => 0)), (r 32, aI E 10100 (fun _ => 0)), (r 38, aI E 64 kx), (r 39, aI E 64 ky), (r 40, aI E 64 kw), (r 41, aI E 64 kt), (r 44, aI E 64 fx), (r 45, aI E 64 fy), (r 46, aI E 64 fw), (r 47, aI E 64 bx), (r 48, aI E 64 by_), (r 49, aI E 64 bw), (r 55, aI E 1600 (fun _ => 0)), (r 56, aI E 1600 (fun _ => 0)), (r 57, aI E 1600 (fun _ => 0)), (r 58, aJ E 1600 (fun _ => 0)), (r 61, aI E 51456 (fun _ => 0)), (r 62, aI E 201 (fun _ => 0)), (r 63, aI E 201 (fun _ => 0)), (r 64, aI E 201 (fun _ => 0)), (r 65, aJ E 321600 (fun _ => 0)), (r 66, aJ E 321600 (fun _ => 0)), (r 73, aJ E 4 (fun _ => 0)), (r 74, aI E 4 (fun _ => 0)), (r 76, aI E 64 (fun _ => 0)), (r 77, aI E 64 (fun _ => 0)), (r 78, aI E 64 (fun _ => 0)), (r 79, aI E 64 (fun _ => 0)), (r 80, aI E 64 (fun _ => 0)), (r 81, aI E 8 (fun _ => 0)), (r 86, aI E 64 (fun _ => 0)), (r 87, aI E 64 (fun _ => 0)), (r 92, aI E 32000 (fun _ => 0)), (r 93, aI E 2000 (fun _ => 0)), (r 94, aI E 64000 (fun _ => 0)), (r 95, aJ E 2000 (fun _ => 0)), (r 96, aI E 2000 (fun _ => 0)), (r 97, aI E 32 (fun _ => 0)), (r 103, aI E 12 (fun _ => 0)), (r 104, aI E 256 (fun _ => 0)), (r 105, aI E 192 (fun _ => 0)), (r 106, aI E 1600 (fun _ => 0)), (r 107, aI E 1600 (fun _ => 0)), (r 108, aI E 1600 (fun _ => 0)), (r 109, aJ E 1600 (fun _ => 0))] :=
  (c2 (congrArg (fun f : List Value => (mo, ob 12 f)) (w0f kx ky kw kt fx fy fw bx by_ bw hR hI))
  (c2 rfl
  (c2 rfl
  (c2 rfl
  (c2 rfl
  (c2 rfl
  (c2 rfl
  (c2 rfl
  (c2 rfl
  (c2 rfl
  (c2 rfl
  (c2 rfl
  (c2 rfl
  (c2 rfl
  (c2 rfl
  (c2 rfl
  (c2 rfl
  (c2 rfl
  (c2 rfl
  (c2 rfl
  (c2 rfl
  (c2 (congrArg (fun f : Nat → Int32 => (r 38, aI E 64 f)) (funext fun i => Int32.ofInt_toInt _))
  (c2 (congrArg (fun f : Nat → Int32 => (r 39, aI E 64 f)) (funext fun i => Int32.ofInt_toInt _))
  (c2 (congrArg (fun f : Nat → Int32 => (r 40, aI E 64 f)) (funext fun i => Int32.ofInt_toInt _))
  (c2 (congrArg (fun f : Nat → Int32 => (r 41, aI E 64 f)) (funext fun i => Int32.ofInt_toInt _))
  (c2 (congrArg (fun f : Nat → Int32 => (r 44, aI E 64 f)) (funext fun i => Int32.ofInt_toInt _))
  (c2 (congrArg (fun f : Nat → Int32 => (r 45, aI E 64 f)) (funext fun i => Int32.ofInt_toInt _))
  (c2 (congrArg (fun f : Nat → Int32 => (r 46, aI E 64 f)) (funext fun i => Int32.ofInt_toInt _))
  (c2 (congrArg (fun f : Nat → Int32 => (r 47, aI E 64 f)) (funext fun i => Int32.ofInt_toInt _))
  (c2 (congrArg (fun f : Nat → Int32 => (r 48, aI E 64 f)) (funext fun i => Int32.ofInt_toInt _))
  (c2 (congrArg (fun f : Nat → Int32 => (r 49, aI E 64 f)) (funext fun i => Int32.ofInt_toInt _))
  (c2 rfl
  (c2 rfl
  (c2 rfl
  (c2 rfl
  (c2 rfl
  (c2 rfl
  (c2 rfl
  (c2 rfl
  (c2 rfl
  (c2 rfl
  (c2 rfl
  (c2 rfl
  (c2 rfl
  (c2 rfl
  (c2 rfl
  (c2 rfl
  (c2 rfl
  (c2 rfl
  (c2 rfl
  (c2 rfl
  (c2 rfl
  (c2 rfl
  (c2 rfl
  (c2 rfl
  (c2 rfl
  (c2 rfl
  (c2 rfl
  (c2 rfl
  (c2 rfl
  (c2 rfl
  (c2 rfl
  (c2 rfl
  (c2 rfl rfl))))))))))))))))))))))))))))))))))))))))))))))))))))))))))))))))
