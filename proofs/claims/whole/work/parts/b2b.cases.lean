/-! the law's cases 4 to 7 (printed by gen/pb2.py) -/
theorem d_L_law_373 : decode (mB M_L_law) 373 = .ok (.aload_n 1, 1) := by decide +kernel
theorem d_L_law_374 : decode (mB M_L_law) 374 = .ok (.aload_n 0, 1) := by decide +kernel
theorem d_L_law_375 : decode (mB M_L_law) 375 = .ok (.iload 4, 2) := by decide +kernel
theorem d_L_law_377 : decode (mB M_L_law) 377 = .ok (.iconst 1, 1) := by decide +kernel
theorem d_L_law_378 : decode (mB M_L_law) 378 = .ok (.iadd, 1) := by decide +kernel
theorem d_L_law_379 : decode (mB M_L_law) 379 = .ok (.iaload, 1) := by decide +kernel
theorem d_L_law_380 : decode (mB M_L_law) 380 = .ok (.aload_n 3, 1) := by decide +kernel
theorem d_L_law_381 : decode (mB M_L_law) 381 = .ok (.invokestatic 128, 3) := by decide +kernel
theorem d_L_law_384 : decode (mB M_L_law) 384 = .ok (.istore 5, 2) := by decide +kernel
theorem d_L_law_386 : decode (mB M_L_law) 386 = .ok (.aload_n 2, 1) := by decide +kernel
theorem d_L_law_387 : decode (mB M_L_law) 387 = .ok (.aload_n 0, 1) := by decide +kernel
theorem d_L_law_388 : decode (mB M_L_law) 388 = .ok (.iload 4, 2) := by decide +kernel
theorem d_L_law_390 : decode (mB M_L_law) 390 = .ok (.iconst 1, 1) := by decide +kernel
theorem d_L_law_391 : decode (mB M_L_law) 391 = .ok (.iadd, 1) := by decide +kernel
theorem d_L_law_392 : decode (mB M_L_law) 392 = .ok (.iaload, 1) := by decide +kernel
theorem d_L_law_393 : decode (mB M_L_law) 393 = .ok (.invokevirtual 130, 3) := by decide +kernel
theorem d_L_law_396 : decode (mB M_L_law) 396 = .ok (.istore 6, 2) := by decide +kernel
theorem d_L_law_398 : decode (mB M_L_law) 398 = .ok (.aload_n 2, 1) := by decide +kernel
theorem d_L_law_399 : decode (mB M_L_law) 399 = .ok (.invokevirtual 113, 3) := by decide +kernel
theorem d_L_law_402 : decode (mB M_L_law) 402 = .ok (.iload 5, 2) := by decide +kernel
theorem d_L_law_404 : decode (mB M_L_law) 404 = .ok (.if_icmp .eq 5, 3) := by decide +kernel
theorem d_L_law_409 : decode (mB M_L_law) 409 = .ok (.iload 5, 2) := by decide +kernel
theorem d_L_law_411 : decode (mB M_L_law) 411 = .ok (.ifCond .ne 15, 3) := by decide +kernel
theorem d_L_law_414 : decode (mB M_L_law) 414 = .ok (.aload_n 3, 1) := by decide +kernel
theorem d_L_law_415 : decode (mB M_L_law) 415 = .ok (.iconst 0, 1) := by decide +kernel
theorem d_L_law_416 : decode (mB M_L_law) 416 = .ok (.laload, 1) := by decide +kernel
theorem d_L_law_417 : decode (mB M_L_law) 417 = .ok (.iload 6, 2) := by decide +kernel
theorem d_L_law_419 : decode (mB M_L_law) 419 = .ok (.i2l, 1) := by decide +kernel
theorem d_L_law_420 : decode (mB M_L_law) 420 = .ok (.lcmp, 1) := by decide +kernel
theorem d_L_law_421 : decode (mB M_L_law) 421 = .ok (.ifCond .eq 5, 3) := by decide +kernel
theorem d_L_law_426 : decode (mB M_L_law) 426 = .ok (.goto 1138, 3) := by decide +kernel
theorem k_count {E : mEnv} (hE : E.1.stackTraces = false) {b L k n0 : Nat} {xs : Nat → Int32} (hL : L ≤ 1536) (hk : k + 2 < L) {t u v : xT} {c c' : cT} {kk : Int32} {r : Int32} (h0 : Rh E M_L_count n0 [.ref 100, .int (xs (k + 1)), .ref 19] (mw t, cw c) (some (.int kk)) (mw v, cw c')) (h1 : Rt E M_X12_count 0 [.ref 0, .int (xs (k + 1))] (mw v, cw c') (some (.int r)) (mw u, cw c')) (h2 : rs u 9 = kk) (h3 : kk = 0 → ro u (Int32.toNatClampNeg 0) = r.toInt64) : GoL E b L xs M_L_law n0 (373, LL k, [], (mw t, cw c)) (.inl (1564, LL k, [], (mw u, cw c'))) := by
  refine l_go0 (g_aload_n d_L_law_373 rfl (g_end rfl)) ?_
  refine l_go0 (g_aload_n d_L_law_374 rfl (g_iload d_L_law_375 rfl (g_iconst (v := 1) d_L_law_377 (by decide) (g_iadd d_L_law_378 (g_end rfl))))) ?_
  refine l_sld (j := k + 1) d_L_law_379 (ix_1 k) (by omega) hL ?_
  refine l_go (g_aload_n d_L_law_380 rfl (g_callH (As := [.ref 100, .int (xs (k + 1)), .ref 19]) d_L_law_381 o_L_count l_L_128 ⟨Nat.le_of_ble_eq_true rfl, Nat.le_of_ble_eq_true rfl⟩ h0 rfl rfl (g_istore (L' := LL5 k kk) d_L_law_384 rfl rfl (g_end rfl)) (Nat.add_zero _))) ?_ (Nat.add_zero _)
  refine l_go0 (g_aload_n d_L_law_386 rfl (g_end rfl)) ?_
  refine l_go0 (g_aload_n d_L_law_387 rfl (g_iload d_L_law_388 rfl (g_iconst (v := 1) d_L_law_390 (by decide) (g_iadd d_L_law_391 (g_end rfl))))) ?_
  refine l_sld (j := k + 1) d_L_law_392 (ix_1 k) (by omega) hL ?_
  refine l_go0 (g_callV (As := [.int (xs (k + 1))]) d_L_law_393 o_X12_count l_L_130 ⟨Nat.le_of_ble_eq_true rfl, Nat.le_of_ble_eq_true rfl⟩ h1 rfl rfl rfl rfl rfl rfl (g_istore (L' := (LL6 k kk r)) d_L_law_396 rfl rfl (g_end rfl)) (Nat.zero_add _)) ?_
  refine l_go0 (g_aload_n d_L_law_398 rfl (g_callV (As := []) d_L_law_399 o_X12_thrown l_L_113 ⟨Nat.le_of_ble_eq_true rfl, Nat.le_of_ble_eq_true rfl⟩ (c_m_thrown hE _ u) rfl rfl rfl rfl rfl rfl (g_iload d_L_law_402 rfl (g_icmp_eq (tgt := 409) d_L_law_404 (by decide) (fun _ => g_end rfl) (fun z => absurd h2 z))) (Nat.zero_add _))) ?_
  refine GoL.of (g_iload d_L_law_409 rfl (g_if_ne (tgt := 426) d_L_law_411 (by decide) (fun _ => g_goto (tgt := 1564) d_L_law_426 (by decide) (g_drop [5, 6, 7] rfl (g_end rfl))) (fun z => g_aload_n d_L_law_414 rfl (g_iconst (v := 0) d_L_law_415 (by decide) (g_lald (f := ro u) d_L_law_416 rfl (show ¬ ((0 : Int32) < 0 ∨ 1 ≤ Int32.toNatClampNeg 0) by decide) (g_iload d_L_law_417 rfl (g_i2l d_L_law_419 (g_lcmp_eq (tgt := 426) d_L_law_420 d_L_law_421 (by decide) (fun _ => g_goto (tgt := 1564) d_L_law_426 (by decide) (g_drop [5, 6, 7] rfl (g_end rfl))) (fun y => absurd (h3 z) y)))))))))
theorem d_L_law_429 : decode (mB M_L_law) 429 = .ok (.aload_n 1, 1) := by decide +kernel
theorem d_L_law_430 : decode (mB M_L_law) 430 = .ok (.aload_n 0, 1) := by decide +kernel
theorem d_L_law_431 : decode (mB M_L_law) 431 = .ok (.iload 4, 2) := by decide +kernel
theorem d_L_law_433 : decode (mB M_L_law) 433 = .ok (.iconst 1, 1) := by decide +kernel
theorem d_L_law_434 : decode (mB M_L_law) 434 = .ok (.iadd, 1) := by decide +kernel
theorem d_L_law_435 : decode (mB M_L_law) 435 = .ok (.iaload, 1) := by decide +kernel
theorem d_L_law_436 : decode (mB M_L_law) 436 = .ok (.aload_n 0, 1) := by decide +kernel
theorem d_L_law_437 : decode (mB M_L_law) 437 = .ok (.iload 4, 2) := by decide +kernel
theorem d_L_law_439 : decode (mB M_L_law) 439 = .ok (.iconst 2, 1) := by decide +kernel
theorem d_L_law_440 : decode (mB M_L_law) 440 = .ok (.iadd, 1) := by decide +kernel
theorem d_L_law_441 : decode (mB M_L_law) 441 = .ok (.iaload, 1) := by decide +kernel
theorem d_L_law_442 : decode (mB M_L_law) 442 = .ok (.aload_n 3, 1) := by decide +kernel
theorem d_L_law_443 : decode (mB M_L_law) 443 = .ok (.invokestatic 131, 3) := by decide +kernel
theorem d_L_law_446 : decode (mB M_L_law) 446 = .ok (.istore 5, 2) := by decide +kernel
theorem d_L_law_448 : decode (mB M_L_law) 448 = .ok (.aload_n 2, 1) := by decide +kernel
theorem d_L_law_449 : decode (mB M_L_law) 449 = .ok (.aload_n 0, 1) := by decide +kernel
theorem d_L_law_450 : decode (mB M_L_law) 450 = .ok (.iload 4, 2) := by decide +kernel
theorem d_L_law_452 : decode (mB M_L_law) 452 = .ok (.iconst 1, 1) := by decide +kernel
theorem d_L_law_453 : decode (mB M_L_law) 453 = .ok (.iadd, 1) := by decide +kernel
theorem d_L_law_454 : decode (mB M_L_law) 454 = .ok (.iaload, 1) := by decide +kernel
theorem d_L_law_455 : decode (mB M_L_law) 455 = .ok (.aload_n 0, 1) := by decide +kernel
theorem d_L_law_456 : decode (mB M_L_law) 456 = .ok (.iload 4, 2) := by decide +kernel
theorem d_L_law_458 : decode (mB M_L_law) 458 = .ok (.iconst 2, 1) := by decide +kernel
theorem d_L_law_459 : decode (mB M_L_law) 459 = .ok (.iadd, 1) := by decide +kernel
theorem d_L_law_460 : decode (mB M_L_law) 460 = .ok (.iaload, 1) := by decide +kernel
theorem d_L_law_461 : decode (mB M_L_law) 461 = .ok (.invokevirtual 133, 3) := by decide +kernel
theorem d_L_law_464 : decode (mB M_L_law) 464 = .ok (.istore 6, 2) := by decide +kernel
theorem d_L_law_466 : decode (mB M_L_law) 466 = .ok (.aload_n 2, 1) := by decide +kernel
theorem d_L_law_467 : decode (mB M_L_law) 467 = .ok (.invokevirtual 113, 3) := by decide +kernel
theorem d_L_law_470 : decode (mB M_L_law) 470 = .ok (.iload 5, 2) := by decide +kernel
theorem d_L_law_472 : decode (mB M_L_law) 472 = .ok (.if_icmp .eq 5, 3) := by decide +kernel
theorem d_L_law_477 : decode (mB M_L_law) 477 = .ok (.iload 5, 2) := by decide +kernel
theorem d_L_law_479 : decode (mB M_L_law) 479 = .ok (.ifCond .ne 15, 3) := by decide +kernel
theorem d_L_law_482 : decode (mB M_L_law) 482 = .ok (.aload_n 3, 1) := by decide +kernel
theorem d_L_law_483 : decode (mB M_L_law) 483 = .ok (.iconst 0, 1) := by decide +kernel
theorem d_L_law_484 : decode (mB M_L_law) 484 = .ok (.laload, 1) := by decide +kernel
theorem d_L_law_485 : decode (mB M_L_law) 485 = .ok (.iload 6, 2) := by decide +kernel
theorem d_L_law_487 : decode (mB M_L_law) 487 = .ok (.i2l, 1) := by decide +kernel
theorem d_L_law_488 : decode (mB M_L_law) 488 = .ok (.lcmp, 1) := by decide +kernel
theorem d_L_law_489 : decode (mB M_L_law) 489 = .ok (.ifCond .eq 5, 3) := by decide +kernel
theorem d_L_law_494 : decode (mB M_L_law) 494 = .ok (.goto 1070, 3) := by decide +kernel
theorem k_distance {E : mEnv} (hE : E.1.stackTraces = false) {b L k n0 : Nat} {xs : Nat → Int32} (hL : L ≤ 1536) (hk : k + 2 < L) {t u v : xT} {c c' : cT} {kk : Int32} {r : Int32} (h0 : Rh E M_L_distance n0 [.ref 100, .int (xs (k + 1)), .int (xs (k + 2)), .ref 19] (mw t, cw c) (some (.int kk)) (mw v, cw c')) (h1 : Rt E M_X12_distance 0 [.ref 0, .int (xs (k + 1)), .int (xs (k + 2))] (mw v, cw c') (some (.int r)) (mw u, cw c')) (h2 : rs u 9 = kk) (h3 : kk = 0 → ro u (Int32.toNatClampNeg 0) = r.toInt64) : GoL E b L xs M_L_law n0 (429, LL k, [], (mw t, cw c)) (.inl (1564, LL k, [], (mw u, cw c'))) := by
  refine l_go0 (g_aload_n d_L_law_429 rfl (g_end rfl)) ?_
  refine l_go0 (g_aload_n d_L_law_430 rfl (g_iload d_L_law_431 rfl (g_iconst (v := 1) d_L_law_433 (by decide) (g_iadd d_L_law_434 (g_end rfl))))) ?_
  refine l_sld (j := k + 1) d_L_law_435 (ix_1 k) (by omega) hL ?_
  refine l_go0 (g_aload_n d_L_law_436 rfl (g_iload d_L_law_437 rfl (g_iconst (v := 2) d_L_law_439 (by decide) (g_iadd d_L_law_440 (g_end rfl))))) ?_
  refine l_sld (j := k + 2) d_L_law_441 (ix_2 k) (by omega) hL ?_
  refine l_go (g_aload_n d_L_law_442 rfl (g_callH (As := [.ref 100, .int (xs (k + 1)), .int (xs (k + 2)), .ref 19]) d_L_law_443 o_L_distance l_L_131 ⟨Nat.le_of_ble_eq_true rfl, Nat.le_of_ble_eq_true rfl⟩ h0 rfl rfl (g_istore (L' := LL5 k kk) d_L_law_446 rfl rfl (g_end rfl)) (Nat.add_zero _))) ?_ (Nat.add_zero _)
  refine l_go0 (g_aload_n d_L_law_448 rfl (g_end rfl)) ?_
  refine l_go0 (g_aload_n d_L_law_449 rfl (g_iload d_L_law_450 rfl (g_iconst (v := 1) d_L_law_452 (by decide) (g_iadd d_L_law_453 (g_end rfl))))) ?_
  refine l_sld (j := k + 1) d_L_law_454 (ix_1 k) (by omega) hL ?_
  refine l_go0 (g_aload_n d_L_law_455 rfl (g_iload d_L_law_456 rfl (g_iconst (v := 2) d_L_law_458 (by decide) (g_iadd d_L_law_459 (g_end rfl))))) ?_
  refine l_sld (j := k + 2) d_L_law_460 (ix_2 k) (by omega) hL ?_
  refine l_go0 (g_callV (As := [.int (xs (k + 1)), .int (xs (k + 2))]) d_L_law_461 o_X12_distance l_L_133 ⟨Nat.le_of_ble_eq_true rfl, Nat.le_of_ble_eq_true rfl⟩ h1 rfl rfl rfl rfl rfl rfl (g_istore (L' := (LL6 k kk r)) d_L_law_464 rfl rfl (g_end rfl)) (Nat.zero_add _)) ?_
  refine l_go0 (g_aload_n d_L_law_466 rfl (g_callV (As := []) d_L_law_467 o_X12_thrown l_L_113 ⟨Nat.le_of_ble_eq_true rfl, Nat.le_of_ble_eq_true rfl⟩ (c_m_thrown hE _ u) rfl rfl rfl rfl rfl rfl (g_iload d_L_law_470 rfl (g_icmp_eq (tgt := 477) d_L_law_472 (by decide) (fun _ => g_end rfl) (fun z => absurd h2 z))) (Nat.zero_add _))) ?_
  refine GoL.of (g_iload d_L_law_477 rfl (g_if_ne (tgt := 494) d_L_law_479 (by decide) (fun _ => g_goto (tgt := 1564) d_L_law_494 (by decide) (g_drop [5, 6, 7] rfl (g_end rfl))) (fun z => g_aload_n d_L_law_482 rfl (g_iconst (v := 0) d_L_law_483 (by decide) (g_lald (f := ro u) d_L_law_484 rfl (show ¬ ((0 : Int32) < 0 ∨ 1 ≤ Int32.toNatClampNeg 0) by decide) (g_iload d_L_law_485 rfl (g_i2l d_L_law_487 (g_lcmp_eq (tgt := 494) d_L_law_488 d_L_law_489 (by decide) (fun _ => g_goto (tgt := 1564) d_L_law_494 (by decide) (g_drop [5, 6, 7] rfl (g_end rfl))) (fun y => absurd (h3 z) y)))))))))
theorem d_L_law_497 : decode (mB M_L_law) 497 = .ok (.aload_n 1, 1) := by decide +kernel
theorem d_L_law_498 : decode (mB M_L_law) 498 = .ok (.aload_n 3, 1) := by decide +kernel
theorem d_L_law_499 : decode (mB M_L_law) 499 = .ok (.invokestatic 134, 3) := by decide +kernel
theorem d_L_law_502 : decode (mB M_L_law) 502 = .ok (.istore 5, 2) := by decide +kernel
theorem d_L_law_504 : decode (mB M_L_law) 504 = .ok (.aload_n 2, 1) := by decide +kernel
theorem d_L_law_505 : decode (mB M_L_law) 505 = .ok (.invokevirtual 136, 3) := by decide +kernel
theorem d_L_law_508 : decode (mB M_L_law) 508 = .ok (.istore 6, 2) := by decide +kernel
theorem d_L_law_510 : decode (mB M_L_law) 510 = .ok (.aload_n 2, 1) := by decide +kernel
theorem d_L_law_511 : decode (mB M_L_law) 511 = .ok (.invokevirtual 113, 3) := by decide +kernel
theorem d_L_law_514 : decode (mB M_L_law) 514 = .ok (.iload 5, 2) := by decide +kernel
theorem d_L_law_516 : decode (mB M_L_law) 516 = .ok (.if_icmp .eq 5, 3) := by decide +kernel
theorem d_L_law_521 : decode (mB M_L_law) 521 = .ok (.iload 5, 2) := by decide +kernel
theorem d_L_law_523 : decode (mB M_L_law) 523 = .ok (.ifCond .ne 15, 3) := by decide +kernel
theorem d_L_law_526 : decode (mB M_L_law) 526 = .ok (.aload_n 3, 1) := by decide +kernel
theorem d_L_law_527 : decode (mB M_L_law) 527 = .ok (.iconst 0, 1) := by decide +kernel
theorem d_L_law_528 : decode (mB M_L_law) 528 = .ok (.laload, 1) := by decide +kernel
theorem d_L_law_529 : decode (mB M_L_law) 529 = .ok (.iload 6, 2) := by decide +kernel
theorem d_L_law_531 : decode (mB M_L_law) 531 = .ok (.i2l, 1) := by decide +kernel
theorem d_L_law_532 : decode (mB M_L_law) 532 = .ok (.lcmp, 1) := by decide +kernel
theorem d_L_law_533 : decode (mB M_L_law) 533 = .ok (.ifCond .eq 5, 3) := by decide +kernel
theorem d_L_law_538 : decode (mB M_L_law) 538 = .ok (.goto 1026, 3) := by decide +kernel
theorem k_bound {E : mEnv} (hE : E.1.stackTraces = false) {b L k n0 : Nat} {xs : Nat → Int32} (hL : L ≤ 1536) (hk : k + 2 < L) {t u v : xT} {c c' : cT} {kk : Int32} {r : Int32} (h0 : Rh E M_L_bound n0 [.ref 100, .ref 19] (mw t, cw c) (some (.int kk)) (mw v, cw c')) (h1 : Rt E M_X12_bound 0 [.ref 0] (mw v, cw c') (some (.int r)) (mw u, cw c')) (h2 : rs u 9 = kk) (h3 : kk = 0 → ro u (Int32.toNatClampNeg 0) = r.toInt64) : GoL E b L xs M_L_law n0 (497, LL k, [], (mw t, cw c)) (.inl (1564, LL k, [], (mw u, cw c'))) := by
  refine l_go0 (g_aload_n d_L_law_497 rfl (g_end rfl)) ?_
  refine l_go (g_aload_n d_L_law_498 rfl (g_callH (As := [.ref 100, .ref 19]) d_L_law_499 o_L_bound l_L_134 ⟨Nat.le_of_ble_eq_true rfl, Nat.le_of_ble_eq_true rfl⟩ h0 rfl rfl (g_istore (L' := LL5 k kk) d_L_law_502 rfl rfl (g_end rfl)) (Nat.add_zero _))) ?_ (Nat.add_zero _)
  refine l_go0 (g_aload_n d_L_law_504 rfl (g_end rfl)) ?_
  refine l_go0 (g_callV (As := []) d_L_law_505 o_X12_bound l_L_136 ⟨Nat.le_of_ble_eq_true rfl, Nat.le_of_ble_eq_true rfl⟩ h1 rfl rfl rfl rfl rfl rfl (g_istore (L' := (LL6 k kk r)) d_L_law_508 rfl rfl (g_end rfl)) (Nat.zero_add _)) ?_
  refine l_go0 (g_aload_n d_L_law_510 rfl (g_callV (As := []) d_L_law_511 o_X12_thrown l_L_113 ⟨Nat.le_of_ble_eq_true rfl, Nat.le_of_ble_eq_true rfl⟩ (c_m_thrown hE _ u) rfl rfl rfl rfl rfl rfl (g_iload d_L_law_514 rfl (g_icmp_eq (tgt := 521) d_L_law_516 (by decide) (fun _ => g_end rfl) (fun z => absurd h2 z))) (Nat.zero_add _))) ?_
  refine GoL.of (g_iload d_L_law_521 rfl (g_if_ne (tgt := 538) d_L_law_523 (by decide) (fun _ => g_goto (tgt := 1564) d_L_law_538 (by decide) (g_drop [5, 6, 7] rfl (g_end rfl))) (fun z => g_aload_n d_L_law_526 rfl (g_iconst (v := 0) d_L_law_527 (by decide) (g_lald (f := ro u) d_L_law_528 rfl (show ¬ ((0 : Int32) < 0 ∨ 1 ≤ Int32.toNatClampNeg 0) by decide) (g_iload d_L_law_529 rfl (g_i2l d_L_law_531 (g_lcmp_eq (tgt := 538) d_L_law_532 d_L_law_533 (by decide) (fun _ => g_goto (tgt := 1564) d_L_law_538 (by decide) (g_drop [5, 6, 7] rfl (g_end rfl))) (fun y => absurd (h3 z) y)))))))))
theorem d_L_law_541 : decode (mB M_L_law) 541 = .ok (.aload_n 1, 1) := by decide +kernel
theorem d_L_law_542 : decode (mB M_L_law) 542 = .ok (.aload_n 0, 1) := by decide +kernel
theorem d_L_law_543 : decode (mB M_L_law) 543 = .ok (.iload 4, 2) := by decide +kernel
theorem d_L_law_545 : decode (mB M_L_law) 545 = .ok (.iconst 1, 1) := by decide +kernel
theorem d_L_law_546 : decode (mB M_L_law) 546 = .ok (.iadd, 1) := by decide +kernel
theorem d_L_law_547 : decode (mB M_L_law) 547 = .ok (.iaload, 1) := by decide +kernel
theorem d_L_law_548 : decode (mB M_L_law) 548 = .ok (.ifCond .eq 7, 3) := by decide +kernel
theorem d_L_law_551 : decode (mB M_L_law) 551 = .ok (.iconst 1, 1) := by decide +kernel
theorem d_L_law_552 : decode (mB M_L_law) 552 = .ok (.goto 4, 3) := by decide +kernel
theorem d_L_law_555 : decode (mB M_L_law) 555 = .ok (.iconst 0, 1) := by decide +kernel
theorem d_L_law_556 : decode (mB M_L_law) 556 = .ok (.aload_n 3, 1) := by decide +kernel
theorem d_L_law_557 : decode (mB M_L_law) 557 = .ok (.invokestatic 137, 3) := by decide +kernel
theorem d_L_law_560 : decode (mB M_L_law) 560 = .ok (.istore 5, 2) := by decide +kernel
theorem d_L_law_562 : decode (mB M_L_law) 562 = .ok (.aload_n 2, 1) := by decide +kernel
theorem d_L_law_563 : decode (mB M_L_law) 563 = .ok (.aload_n 0, 1) := by decide +kernel
theorem d_L_law_564 : decode (mB M_L_law) 564 = .ok (.iload 4, 2) := by decide +kernel
theorem d_L_law_566 : decode (mB M_L_law) 566 = .ok (.iconst 1, 1) := by decide +kernel
theorem d_L_law_567 : decode (mB M_L_law) 567 = .ok (.iadd, 1) := by decide +kernel
theorem d_L_law_568 : decode (mB M_L_law) 568 = .ok (.iaload, 1) := by decide +kernel
theorem d_L_law_569 : decode (mB M_L_law) 569 = .ok (.ifCond .eq 7, 3) := by decide +kernel
theorem d_L_law_572 : decode (mB M_L_law) 572 = .ok (.iconst 1, 1) := by decide +kernel
theorem d_L_law_573 : decode (mB M_L_law) 573 = .ok (.goto 4, 3) := by decide +kernel
theorem d_L_law_576 : decode (mB M_L_law) 576 = .ok (.iconst 0, 1) := by decide +kernel
theorem d_L_law_577 : decode (mB M_L_law) 577 = .ok (.invokevirtual 140, 3) := by decide +kernel
theorem d_L_law_580 : decode (mB M_L_law) 580 = .ok (.istore 6, 2) := by decide +kernel
theorem d_L_law_582 : decode (mB M_L_law) 582 = .ok (.aload_n 2, 1) := by decide +kernel
theorem d_L_law_583 : decode (mB M_L_law) 583 = .ok (.invokevirtual 113, 3) := by decide +kernel
theorem d_L_law_586 : decode (mB M_L_law) 586 = .ok (.iload 5, 2) := by decide +kernel
theorem d_L_law_588 : decode (mB M_L_law) 588 = .ok (.if_icmp .eq 5, 3) := by decide +kernel
theorem d_L_law_593 : decode (mB M_L_law) 593 = .ok (.iload 5, 2) := by decide +kernel
theorem d_L_law_595 : decode (mB M_L_law) 595 = .ok (.ifCond .ne 15, 3) := by decide +kernel
theorem d_L_law_598 : decode (mB M_L_law) 598 = .ok (.aload_n 3, 1) := by decide +kernel
theorem d_L_law_599 : decode (mB M_L_law) 599 = .ok (.iconst 0, 1) := by decide +kernel
theorem d_L_law_600 : decode (mB M_L_law) 600 = .ok (.laload, 1) := by decide +kernel
theorem d_L_law_601 : decode (mB M_L_law) 601 = .ok (.iload 6, 2) := by decide +kernel
theorem d_L_law_603 : decode (mB M_L_law) 603 = .ok (.i2l, 1) := by decide +kernel
theorem d_L_law_604 : decode (mB M_L_law) 604 = .ok (.lcmp, 1) := by decide +kernel
theorem d_L_law_605 : decode (mB M_L_law) 605 = .ok (.ifCond .eq 5, 3) := by decide +kernel
theorem d_L_law_610 : decode (mB M_L_law) 610 = .ok (.goto 954, 3) := by decide +kernel
theorem k_stuck {E : mEnv} (hE : E.1.stackTraces = false) {b L k n0 : Nat} {xs : Nat → Int32} (hL : L ≤ 1536) (hk : k + 2 < L) {t u v : xT} {c c' : cT} {kk : Int32} {r : Int32} (h0 : Rh E M_L_stuck n0 [.ref 100, .int (nzF (xs (k + 1))), .ref 19] (mw t, cw c) (some (.int kk)) (mw v, cw c')) (h1 : Rt E M_X12_stuck 0 [.ref 0, .int (nzF (xs (k + 1)))] (mw v, cw c') (some (.int r)) (mw u, cw c')) (h2 : rs u 9 = kk) (h3 : kk = 0 → ro u (Int32.toNatClampNeg 0) = r.toInt64) : GoL E b L xs M_L_law n0 (541, LL k, [], (mw t, cw c)) (.inl (1564, LL k, [], (mw u, cw c'))) := by
  refine l_go0 (g_aload_n d_L_law_541 rfl (g_end rfl)) ?_
  refine l_go0 (g_aload_n d_L_law_542 rfl (g_iload d_L_law_543 rfl (g_iconst (v := 1) d_L_law_545 (by decide) (g_iadd d_L_law_546 (g_end rfl))))) ?_
  refine l_sld (j := k + 1) d_L_law_547 (ix_1 k) (by omega) hL ?_
  refine l_go0 (l_nz d_L_law_548 (by decide) d_L_law_551 d_L_law_552 (by decide) d_L_law_555) ?_
  refine l_go (g_aload_n d_L_law_556 rfl (g_callH (As := [.ref 100, .int (nzF (xs (k + 1))), .ref 19]) d_L_law_557 o_L_stuck l_L_137 ⟨Nat.le_of_ble_eq_true rfl, Nat.le_of_ble_eq_true rfl⟩ h0 rfl rfl (g_istore (L' := LL5 k kk) d_L_law_560 rfl rfl (g_end rfl)) (Nat.add_zero _))) ?_ (Nat.add_zero _)
  refine l_go0 (g_aload_n d_L_law_562 rfl (g_end rfl)) ?_
  refine l_go0 (g_aload_n d_L_law_563 rfl (g_iload d_L_law_564 rfl (g_iconst (v := 1) d_L_law_566 (by decide) (g_iadd d_L_law_567 (g_end rfl))))) ?_
  refine l_sld (j := k + 1) d_L_law_568 (ix_1 k) (by omega) hL ?_
  refine l_go0 (l_nz d_L_law_569 (by decide) d_L_law_572 d_L_law_573 (by decide) d_L_law_576) ?_
  refine l_go0 (g_callV (As := [.int (nzF (xs (k + 1)))]) d_L_law_577 o_X12_stuck l_L_140 ⟨Nat.le_of_ble_eq_true rfl, Nat.le_of_ble_eq_true rfl⟩ h1 rfl rfl rfl rfl rfl rfl (g_istore (L' := (LL6 k kk r)) d_L_law_580 rfl rfl (g_end rfl)) (Nat.zero_add _)) ?_
  refine l_go0 (g_aload_n d_L_law_582 rfl (g_callV (As := []) d_L_law_583 o_X12_thrown l_L_113 ⟨Nat.le_of_ble_eq_true rfl, Nat.le_of_ble_eq_true rfl⟩ (c_m_thrown hE _ u) rfl rfl rfl rfl rfl rfl (g_iload d_L_law_586 rfl (g_icmp_eq (tgt := 593) d_L_law_588 (by decide) (fun _ => g_end rfl) (fun z => absurd h2 z))) (Nat.zero_add _))) ?_
  refine GoL.of (g_iload d_L_law_593 rfl (g_if_ne (tgt := 610) d_L_law_595 (by decide) (fun _ => g_goto (tgt := 1564) d_L_law_610 (by decide) (g_drop [5, 6, 7] rfl (g_end rfl))) (fun z => g_aload_n d_L_law_598 rfl (g_iconst (v := 0) d_L_law_599 (by decide) (g_lald (f := ro u) d_L_law_600 rfl (show ¬ ((0 : Int32) < 0 ∨ 1 ≤ Int32.toNatClampNeg 0) by decide) (g_iload d_L_law_601 rfl (g_i2l d_L_law_603 (g_lcmp_eq (tgt := 610) d_L_law_604 d_L_law_605 (by decide) (fun _ => g_goto (tgt := 1564) d_L_law_610 (by decide) (g_drop [5, 6, 7] rfl (g_end rfl))) (fun y => absurd (h3 z) y)))))))))
