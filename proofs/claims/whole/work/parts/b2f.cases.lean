/-! the law's cases 20 to 23 (printed by gen/pb2.py) -/
theorem d_L_law_1381 : decode (mB M_L_law) 1381 = .ok (.aload_n 1, 1) := by decide +kernel
theorem d_L_law_1382 : decode (mB M_L_law) 1382 = .ok (.aload_n 3, 1) := by decide +kernel
theorem d_L_law_1383 : decode (mB M_L_law) 1383 = .ok (.invokestatic 178, 3) := by decide +kernel
theorem d_L_law_1386 : decode (mB M_L_law) 1386 = .ok (.istore 5, 2) := by decide +kernel
theorem d_L_law_1388 : decode (mB M_L_law) 1388 = .ok (.aload_n 2, 1) := by decide +kernel
theorem d_L_law_1389 : decode (mB M_L_law) 1389 = .ok (.invokevirtual 180, 3) := by decide +kernel
theorem d_L_law_1392 : decode (mB M_L_law) 1392 = .ok (.istore 6, 2) := by decide +kernel
theorem d_L_law_1394 : decode (mB M_L_law) 1394 = .ok (.aload_n 2, 1) := by decide +kernel
theorem d_L_law_1395 : decode (mB M_L_law) 1395 = .ok (.invokevirtual 113, 3) := by decide +kernel
theorem d_L_law_1398 : decode (mB M_L_law) 1398 = .ok (.iload 5, 2) := by decide +kernel
theorem d_L_law_1400 : decode (mB M_L_law) 1400 = .ok (.if_icmp .eq 5, 3) := by decide +kernel
theorem d_L_law_1405 : decode (mB M_L_law) 1405 = .ok (.iload 5, 2) := by decide +kernel
theorem d_L_law_1407 : decode (mB M_L_law) 1407 = .ok (.ifCond .ne 22, 3) := by decide +kernel
theorem d_L_law_1410 : decode (mB M_L_law) 1410 = .ok (.aload_n 3, 1) := by decide +kernel
theorem d_L_law_1411 : decode (mB M_L_law) 1411 = .ok (.iconst 0, 1) := by decide +kernel
theorem d_L_law_1412 : decode (mB M_L_law) 1412 = .ok (.laload, 1) := by decide +kernel
theorem d_L_law_1413 : decode (mB M_L_law) 1413 = .ok (.iload 6, 2) := by decide +kernel
theorem d_L_law_1415 : decode (mB M_L_law) 1415 = .ok (.ifCond .eq 7, 3) := by decide +kernel
theorem d_L_law_1418 : decode (mB M_L_law) 1418 = .ok (.lconst 1, 1) := by decide +kernel
theorem d_L_law_1419 : decode (mB M_L_law) 1419 = .ok (.goto 4, 3) := by decide +kernel
theorem d_L_law_1422 : decode (mB M_L_law) 1422 = .ok (.lconst 0, 1) := by decide +kernel
theorem d_L_law_1423 : decode (mB M_L_law) 1423 = .ok (.lcmp, 1) := by decide +kernel
theorem d_L_law_1424 : decode (mB M_L_law) 1424 = .ok (.ifCond .eq 5, 3) := by decide +kernel
theorem d_L_law_1429 : decode (mB M_L_law) 1429 = .ok (.goto 135, 3) := by decide +kernel
theorem k_isReplayed {E : mEnv} (hE : E.1.stackTraces = false) {b L k n0 : Nat} {xs : Nat → Int32} (hL : L ≤ 1536) (hk : k + 2 < L) {t u v : xT} {c c' : cT} {kk : Int32} {r : Int32} (h0 : Rh E M_L_isReplayed n0 [.ref 100, .ref 19] (mw t, cw c) (some (.int kk)) (mw v, cw c')) (h1 : Rt E M_X12_isReplayed 0 [.ref 0] (mw v, cw c') (some (.int r)) (mw u, cw c')) (h2 : rs u 9 = kk) (h3 : kk = 0 → ro u (Int32.toNatClampNeg 0) = (if r = 0 then 0 else 1)) : GoL E b L xs M_L_law n0 (1381, LL k, [], (mw t, cw c)) (.inl (1564, LL k, [], (mw u, cw c'))) := by
  refine l_go0 (g_aload_n d_L_law_1381 rfl (g_end rfl)) ?_
  refine l_go (g_aload_n d_L_law_1382 rfl (g_callH (As := [.ref 100, .ref 19]) d_L_law_1383 o_L_isReplayed l_L_178 ⟨Nat.le_of_ble_eq_true rfl, Nat.le_of_ble_eq_true rfl⟩ h0 rfl rfl (g_istore (L' := LL5 k kk) d_L_law_1386 rfl rfl (g_end rfl)) (Nat.add_zero _))) ?_ (Nat.add_zero _)
  refine l_go0 (g_aload_n d_L_law_1388 rfl (g_end rfl)) ?_
  refine l_go0 (g_callV (As := []) d_L_law_1389 o_X12_isReplayed l_L_180 ⟨Nat.le_of_ble_eq_true rfl, Nat.le_of_ble_eq_true rfl⟩ h1 rfl rfl rfl rfl rfl rfl (g_istore (L' := (LL6 k kk r)) d_L_law_1392 rfl rfl (g_end rfl)) (Nat.zero_add _)) ?_
  refine l_go0 (g_aload_n d_L_law_1394 rfl (g_callV (As := []) d_L_law_1395 o_X12_thrown l_L_113 ⟨Nat.le_of_ble_eq_true rfl, Nat.le_of_ble_eq_true rfl⟩ (c_m_thrown hE _ u) rfl rfl rfl rfl rfl rfl (g_iload d_L_law_1398 rfl (g_icmp_eq (tgt := 1405) d_L_law_1400 (by decide) (fun _ => g_end rfl) (fun z => absurd h2 z))) (Nat.zero_add _))) ?_
  refine GoL.of (g_iload d_L_law_1405 rfl (g_if_ne (tgt := 1429) d_L_law_1407 (by decide) (fun _ => g_goto (tgt := 1564) d_L_law_1429 (by decide) (g_drop [5, 6, 7] rfl (g_end rfl))) (fun z => g_aload_n d_L_law_1410 rfl (g_iconst (v := 0) d_L_law_1411 (by decide) (g_lald (f := ro u) d_L_law_1412 rfl (show ¬ ((0 : Int32) < 0 ∨ 1 ≤ Int32.toNatClampNeg 0) by decide) (g_iload d_L_law_1413 rfl (g_if_eq (tgt := 1422) d_L_law_1415 (by decide) (fun w => g_lconst (v := 0) d_L_law_1422 (by decide) (g_lcmp_eq (tgt := 1429) d_L_law_1423 d_L_law_1424 (by decide) (fun _ => g_goto (tgt := 1564) d_L_law_1429 (by decide) (g_drop [5, 6, 7] rfl (g_end rfl))) (fun y => absurd (by rw [h3 z, if_pos w]) y))) (fun w => g_lconst (v := 1) d_L_law_1418 (by decide) (g_goto (tgt := 1423) d_L_law_1419 (by decide) (g_lcmp_eq (tgt := 1429) d_L_law_1423 d_L_law_1424 (by decide) (fun _ => g_goto (tgt := 1564) d_L_law_1429 (by decide) (g_drop [5, 6, 7] rfl (g_end rfl))) (fun y => absurd (by rw [h3 z, if_neg w]) y)))))))))))
theorem d_L_law_1432 : decode (mB M_L_law) 1432 = .ok (.aload_n 1, 1) := by decide +kernel
theorem d_L_law_1433 : decode (mB M_L_law) 1433 = .ok (.aload_n 3, 1) := by decide +kernel
theorem d_L_law_1434 : decode (mB M_L_law) 1434 = .ok (.invokestatic 181, 3) := by decide +kernel
theorem d_L_law_1437 : decode (mB M_L_law) 1437 = .ok (.istore 5, 2) := by decide +kernel
theorem d_L_law_1439 : decode (mB M_L_law) 1439 = .ok (.aload_n 2, 1) := by decide +kernel
theorem d_L_law_1440 : decode (mB M_L_law) 1440 = .ok (.invokevirtual 183, 3) := by decide +kernel
theorem d_L_law_1443 : decode (mB M_L_law) 1443 = .ok (.istore 6, 2) := by decide +kernel
theorem d_L_law_1445 : decode (mB M_L_law) 1445 = .ok (.aload_n 2, 1) := by decide +kernel
theorem d_L_law_1446 : decode (mB M_L_law) 1446 = .ok (.invokevirtual 113, 3) := by decide +kernel
theorem d_L_law_1449 : decode (mB M_L_law) 1449 = .ok (.iload 5, 2) := by decide +kernel
theorem d_L_law_1451 : decode (mB M_L_law) 1451 = .ok (.if_icmp .eq 5, 3) := by decide +kernel
theorem d_L_law_1456 : decode (mB M_L_law) 1456 = .ok (.iload 5, 2) := by decide +kernel
theorem d_L_law_1458 : decode (mB M_L_law) 1458 = .ok (.ifCond .ne 15, 3) := by decide +kernel
theorem d_L_law_1461 : decode (mB M_L_law) 1461 = .ok (.aload_n 3, 1) := by decide +kernel
theorem d_L_law_1462 : decode (mB M_L_law) 1462 = .ok (.iconst 0, 1) := by decide +kernel
theorem d_L_law_1463 : decode (mB M_L_law) 1463 = .ok (.laload, 1) := by decide +kernel
theorem d_L_law_1464 : decode (mB M_L_law) 1464 = .ok (.iload 6, 2) := by decide +kernel
theorem d_L_law_1466 : decode (mB M_L_law) 1466 = .ok (.i2l, 1) := by decide +kernel
theorem d_L_law_1467 : decode (mB M_L_law) 1467 = .ok (.lcmp, 1) := by decide +kernel
theorem d_L_law_1468 : decode (mB M_L_law) 1468 = .ok (.ifCond .eq 5, 3) := by decide +kernel
theorem d_L_law_1473 : decode (mB M_L_law) 1473 = .ok (.goto 91, 3) := by decide +kernel
theorem k_undo {E : mEnv} (hE : E.1.stackTraces = false) {b L k n0 : Nat} {xs : Nat → Int32} (hL : L ≤ 1536) (hk : k + 2 < L) {t u v : xT} {c c' : cT} {kk : Int32} {r : Int32} (h0 : Rh E M_L_undo n0 [.ref 100, .ref 19] (mw t, cw c) (some (.int kk)) (mw v, cw c')) (h1 : Rt E M_X12_undo 0 [.ref 0] (mw v, cw c') (some (.int r)) (mw u, cw c')) (h2 : rs u 9 = kk) (h3 : kk = 0 → ro u (Int32.toNatClampNeg 0) = r.toInt64) : GoL E b L xs M_L_law n0 (1432, LL k, [], (mw t, cw c)) (.inl (1564, LL k, [], (mw u, cw c'))) := by
  refine l_go0 (g_aload_n d_L_law_1432 rfl (g_end rfl)) ?_
  refine l_go (g_aload_n d_L_law_1433 rfl (g_callH (As := [.ref 100, .ref 19]) d_L_law_1434 o_L_undo l_L_181 ⟨Nat.le_of_ble_eq_true rfl, Nat.le_of_ble_eq_true rfl⟩ h0 rfl rfl (g_istore (L' := LL5 k kk) d_L_law_1437 rfl rfl (g_end rfl)) (Nat.add_zero _))) ?_ (Nat.add_zero _)
  refine l_go0 (g_aload_n d_L_law_1439 rfl (g_end rfl)) ?_
  refine l_go0 (g_callV (As := []) d_L_law_1440 o_X12_undo l_L_183 ⟨Nat.le_of_ble_eq_true rfl, Nat.le_of_ble_eq_true rfl⟩ h1 rfl rfl rfl rfl rfl rfl (g_istore (L' := (LL6 k kk r)) d_L_law_1443 rfl rfl (g_end rfl)) (Nat.zero_add _)) ?_
  refine l_go0 (g_aload_n d_L_law_1445 rfl (g_callV (As := []) d_L_law_1446 o_X12_thrown l_L_113 ⟨Nat.le_of_ble_eq_true rfl, Nat.le_of_ble_eq_true rfl⟩ (c_m_thrown hE _ u) rfl rfl rfl rfl rfl rfl (g_iload d_L_law_1449 rfl (g_icmp_eq (tgt := 1456) d_L_law_1451 (by decide) (fun _ => g_end rfl) (fun z => absurd h2 z))) (Nat.zero_add _))) ?_
  refine GoL.of (g_iload d_L_law_1456 rfl (g_if_ne (tgt := 1473) d_L_law_1458 (by decide) (fun _ => g_goto (tgt := 1564) d_L_law_1473 (by decide) (g_drop [5, 6, 7] rfl (g_end rfl))) (fun z => g_aload_n d_L_law_1461 rfl (g_iconst (v := 0) d_L_law_1462 (by decide) (g_lald (f := ro u) d_L_law_1463 rfl (show ¬ ((0 : Int32) < 0 ∨ 1 ≤ Int32.toNatClampNeg 0) by decide) (g_iload d_L_law_1464 rfl (g_i2l d_L_law_1466 (g_lcmp_eq (tgt := 1473) d_L_law_1467 d_L_law_1468 (by decide) (fun _ => g_goto (tgt := 1564) d_L_law_1473 (by decide) (g_drop [5, 6, 7] rfl (g_end rfl))) (fun y => absurd (h3 z) y)))))))))
theorem d_L_law_1476 : decode (mB M_L_law) 1476 = .ok (.aload_n 1, 1) := by decide +kernel
theorem d_L_law_1477 : decode (mB M_L_law) 1477 = .ok (.aload_n 3, 1) := by decide +kernel
theorem d_L_law_1478 : decode (mB M_L_law) 1478 = .ok (.invokestatic 184, 3) := by decide +kernel
theorem d_L_law_1481 : decode (mB M_L_law) 1481 = .ok (.istore 5, 2) := by decide +kernel
theorem d_L_law_1483 : decode (mB M_L_law) 1483 = .ok (.aload_n 2, 1) := by decide +kernel
theorem d_L_law_1484 : decode (mB M_L_law) 1484 = .ok (.invokevirtual 186, 3) := by decide +kernel
theorem d_L_law_1487 : decode (mB M_L_law) 1487 = .ok (.istore 6, 2) := by decide +kernel
theorem d_L_law_1489 : decode (mB M_L_law) 1489 = .ok (.aload_n 2, 1) := by decide +kernel
theorem d_L_law_1490 : decode (mB M_L_law) 1490 = .ok (.invokevirtual 113, 3) := by decide +kernel
theorem d_L_law_1493 : decode (mB M_L_law) 1493 = .ok (.iload 5, 2) := by decide +kernel
theorem d_L_law_1495 : decode (mB M_L_law) 1495 = .ok (.if_icmp .eq 5, 3) := by decide +kernel
theorem d_L_law_1500 : decode (mB M_L_law) 1500 = .ok (.iload 5, 2) := by decide +kernel
theorem d_L_law_1502 : decode (mB M_L_law) 1502 = .ok (.ifCond .ne 15, 3) := by decide +kernel
theorem d_L_law_1505 : decode (mB M_L_law) 1505 = .ok (.aload_n 3, 1) := by decide +kernel
theorem d_L_law_1506 : decode (mB M_L_law) 1506 = .ok (.iconst 0, 1) := by decide +kernel
theorem d_L_law_1507 : decode (mB M_L_law) 1507 = .ok (.laload, 1) := by decide +kernel
theorem d_L_law_1508 : decode (mB M_L_law) 1508 = .ok (.iload 6, 2) := by decide +kernel
theorem d_L_law_1510 : decode (mB M_L_law) 1510 = .ok (.i2l, 1) := by decide +kernel
theorem d_L_law_1511 : decode (mB M_L_law) 1511 = .ok (.lcmp, 1) := by decide +kernel
theorem d_L_law_1512 : decode (mB M_L_law) 1512 = .ok (.ifCond .eq 5, 3) := by decide +kernel
theorem d_L_law_1517 : decode (mB M_L_law) 1517 = .ok (.goto 47, 3) := by decide +kernel
theorem k_saveSnapshot {E : mEnv} (hE : E.1.stackTraces = false) {b L k n0 : Nat} {xs : Nat → Int32} (hL : L ≤ 1536) (hk : k + 2 < L) {t u v : xT} {c c' : cT} {kk : Int32} {r : Int32} (h0 : Rh E M_L_saveSnapshot n0 [.ref 100, .ref 19] (mw t, cw c) (some (.int kk)) (mw v, cw c')) (h1 : Rt E M_X12_saveSnapshot 0 [.ref 0] (mw v, cw c') (some (.int r)) (mw u, cw c')) (h2 : rs u 9 = kk) (h3 : kk = 0 → ro u (Int32.toNatClampNeg 0) = r.toInt64) : GoL E b L xs M_L_law n0 (1476, LL k, [], (mw t, cw c)) (.inl (1564, LL k, [], (mw u, cw c'))) := by
  refine l_go0 (g_aload_n d_L_law_1476 rfl (g_end rfl)) ?_
  refine l_go (g_aload_n d_L_law_1477 rfl (g_callH (As := [.ref 100, .ref 19]) d_L_law_1478 o_L_saveSnapshot l_L_184 ⟨Nat.le_of_ble_eq_true rfl, Nat.le_of_ble_eq_true rfl⟩ h0 rfl rfl (g_istore (L' := LL5 k kk) d_L_law_1481 rfl rfl (g_end rfl)) (Nat.add_zero _))) ?_ (Nat.add_zero _)
  refine l_go0 (g_aload_n d_L_law_1483 rfl (g_end rfl)) ?_
  refine l_go0 (g_callV (As := []) d_L_law_1484 o_X12_saveSnapshot l_L_186 ⟨Nat.le_of_ble_eq_true rfl, Nat.le_of_ble_eq_true rfl⟩ h1 rfl rfl rfl rfl rfl rfl (g_istore (L' := (LL6 k kk r)) d_L_law_1487 rfl rfl (g_end rfl)) (Nat.zero_add _)) ?_
  refine l_go0 (g_aload_n d_L_law_1489 rfl (g_callV (As := []) d_L_law_1490 o_X12_thrown l_L_113 ⟨Nat.le_of_ble_eq_true rfl, Nat.le_of_ble_eq_true rfl⟩ (c_m_thrown hE _ u) rfl rfl rfl rfl rfl rfl (g_iload d_L_law_1493 rfl (g_icmp_eq (tgt := 1500) d_L_law_1495 (by decide) (fun _ => g_end rfl) (fun z => absurd h2 z))) (Nat.zero_add _))) ?_
  refine GoL.of (g_iload d_L_law_1500 rfl (g_if_ne (tgt := 1517) d_L_law_1502 (by decide) (fun _ => g_goto (tgt := 1564) d_L_law_1517 (by decide) (g_drop [5, 6, 7] rfl (g_end rfl))) (fun z => g_aload_n d_L_law_1505 rfl (g_iconst (v := 0) d_L_law_1506 (by decide) (g_lald (f := ro u) d_L_law_1507 rfl (show ¬ ((0 : Int32) < 0 ∨ 1 ≤ Int32.toNatClampNeg 0) by decide) (g_iload d_L_law_1508 rfl (g_i2l d_L_law_1510 (g_lcmp_eq (tgt := 1517) d_L_law_1511 d_L_law_1512 (by decide) (fun _ => g_goto (tgt := 1564) d_L_law_1517 (by decide) (g_drop [5, 6, 7] rfl (g_end rfl))) (fun y => absurd (h3 z) y)))))))))
theorem d_L_law_1520 : decode (mB M_L_law) 1520 = .ok (.aload_n 1, 1) := by decide +kernel
theorem d_L_law_1521 : decode (mB M_L_law) 1521 = .ok (.aload_n 3, 1) := by decide +kernel
theorem d_L_law_1522 : decode (mB M_L_law) 1522 = .ok (.invokestatic 187, 3) := by decide +kernel
theorem d_L_law_1525 : decode (mB M_L_law) 1525 = .ok (.istore 5, 2) := by decide +kernel
theorem d_L_law_1527 : decode (mB M_L_law) 1527 = .ok (.aload_n 2, 1) := by decide +kernel
theorem d_L_law_1528 : decode (mB M_L_law) 1528 = .ok (.invokevirtual 189, 3) := by decide +kernel
theorem d_L_law_1531 : decode (mB M_L_law) 1531 = .ok (.istore 6, 2) := by decide +kernel
theorem d_L_law_1533 : decode (mB M_L_law) 1533 = .ok (.aload_n 2, 1) := by decide +kernel
theorem d_L_law_1534 : decode (mB M_L_law) 1534 = .ok (.invokevirtual 113, 3) := by decide +kernel
theorem d_L_law_1537 : decode (mB M_L_law) 1537 = .ok (.iload 5, 2) := by decide +kernel
theorem d_L_law_1539 : decode (mB M_L_law) 1539 = .ok (.if_icmp .eq 5, 3) := by decide +kernel
theorem d_L_law_1544 : decode (mB M_L_law) 1544 = .ok (.iload 5, 2) := by decide +kernel
theorem d_L_law_1546 : decode (mB M_L_law) 1546 = .ok (.ifCond .ne 15, 3) := by decide +kernel
theorem d_L_law_1549 : decode (mB M_L_law) 1549 = .ok (.aload_n 3, 1) := by decide +kernel
theorem d_L_law_1550 : decode (mB M_L_law) 1550 = .ok (.iconst 0, 1) := by decide +kernel
theorem d_L_law_1551 : decode (mB M_L_law) 1551 = .ok (.laload, 1) := by decide +kernel
theorem d_L_law_1552 : decode (mB M_L_law) 1552 = .ok (.iload 6, 2) := by decide +kernel
theorem d_L_law_1554 : decode (mB M_L_law) 1554 = .ok (.i2l, 1) := by decide +kernel
theorem d_L_law_1555 : decode (mB M_L_law) 1555 = .ok (.lcmp, 1) := by decide +kernel
theorem d_L_law_1556 : decode (mB M_L_law) 1556 = .ok (.ifCond .eq 5, 3) := by decide +kernel
theorem d_L_law_1561 : decode (mB M_L_law) 1561 = .ok (.goto 3, 3) := by decide +kernel
theorem k_restoreSnapshot {E : mEnv} (hE : E.1.stackTraces = false) {b L k n0 : Nat} {xs : Nat → Int32} (hL : L ≤ 1536) (hk : k + 2 < L) {t u v : xT} {c c' : cT} {kk : Int32} {r : Int32} (h0 : Rh E M_L_restoreSnapshot n0 [.ref 100, .ref 19] (mw t, cw c) (some (.int kk)) (mw v, cw c')) (h1 : Rt E M_X12_restoreSnapshot 0 [.ref 0] (mw v, cw c') (some (.int r)) (mw u, cw c')) (h2 : rs u 9 = kk) (h3 : kk = 0 → ro u (Int32.toNatClampNeg 0) = r.toInt64) : GoL E b L xs M_L_law n0 (1520, LL k, [], (mw t, cw c)) (.inl (1564, LL k, [], (mw u, cw c'))) := by
  refine l_go0 (g_aload_n d_L_law_1520 rfl (g_end rfl)) ?_
  refine l_go (g_aload_n d_L_law_1521 rfl (g_callH (As := [.ref 100, .ref 19]) d_L_law_1522 o_L_restoreSnapshot l_L_187 ⟨Nat.le_of_ble_eq_true rfl, Nat.le_of_ble_eq_true rfl⟩ h0 rfl rfl (g_istore (L' := LL5 k kk) d_L_law_1525 rfl rfl (g_end rfl)) (Nat.add_zero _))) ?_ (Nat.add_zero _)
  refine l_go0 (g_aload_n d_L_law_1527 rfl (g_end rfl)) ?_
  refine l_go0 (g_callV (As := []) d_L_law_1528 o_X12_restoreSnapshot l_L_189 ⟨Nat.le_of_ble_eq_true rfl, Nat.le_of_ble_eq_true rfl⟩ h1 rfl rfl rfl rfl rfl rfl (g_istore (L' := (LL6 k kk r)) d_L_law_1531 rfl rfl (g_end rfl)) (Nat.zero_add _)) ?_
  refine l_go0 (g_aload_n d_L_law_1533 rfl (g_callV (As := []) d_L_law_1534 o_X12_thrown l_L_113 ⟨Nat.le_of_ble_eq_true rfl, Nat.le_of_ble_eq_true rfl⟩ (c_m_thrown hE _ u) rfl rfl rfl rfl rfl rfl (g_iload d_L_law_1537 rfl (g_icmp_eq (tgt := 1544) d_L_law_1539 (by decide) (fun _ => g_end rfl) (fun z => absurd h2 z))) (Nat.zero_add _))) ?_
  refine GoL.of (g_iload d_L_law_1544 rfl (g_if_ne (tgt := 1561) d_L_law_1546 (by decide) (fun _ => g_goto (tgt := 1564) d_L_law_1561 (by decide) (g_drop [5, 6, 7] rfl (g_end rfl))) (fun z => g_aload_n d_L_law_1549 rfl (g_iconst (v := 0) d_L_law_1550 (by decide) (g_lald (f := ro u) d_L_law_1551 rfl (show ¬ ((0 : Int32) < 0 ∨ 1 ≤ Int32.toNatClampNeg 0) by decide) (g_iload d_L_law_1552 rfl (g_i2l d_L_law_1554 (g_lcmp_eq (tgt := 1561) d_L_law_1555 d_L_law_1556 (by decide) (fun _ => g_goto (tgt := 1564) d_L_law_1561 (by decide) (g_drop [5, 6, 7] rfl (g_end rfl))) (fun y => absurd (h3 z) y)))))))))
