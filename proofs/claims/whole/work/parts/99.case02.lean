theorem dL_law_1374 : decode cL_law 1374 = .ok (.aload_n 1, 1) := by decide +kernel
theorem dL_law_1375 : decode cL_law 1375 = .ok (.aload_n 0, 1) := by decide +kernel
theorem dL_law_1376 : decode cL_law 1376 = .ok (.iload 5, 2) := by decide +kernel
theorem dL_law_1378 : decode cL_law 1378 = .ok (.iconst 1, 1) := by decide +kernel
theorem dL_law_1379 : decode cL_law 1379 = .ok (.iadd, 1) := by decide +kernel
theorem dL_law_1380 : decode cL_law 1380 = .ok (.iaload, 1) := by decide +kernel
theorem dL_law_1381 : decode cL_law 1381 = .ok (.aload_n 0, 1) := by decide +kernel
theorem dL_law_1382 : decode cL_law 1382 = .ok (.iload 5, 2) := by decide +kernel
theorem dL_law_1384 : decode cL_law 1384 = .ok (.iconst 2, 1) := by decide +kernel
theorem dL_law_1385 : decode cL_law 1385 = .ok (.iadd, 1) := by decide +kernel
theorem dL_law_1386 : decode cL_law 1386 = .ok (.iaload, 1) := by decide +kernel
theorem dL_law_1387 : decode cL_law 1387 = .ok (.aload_n 3, 1) := by decide +kernel
theorem dL_law_1388 : decode cL_law 1388 = .ok (.invokestatic 244, 3) := by decide +kernel
theorem dL_law_1391 : decode cL_law 1391 = .ok (.istore 6, 2) := by decide +kernel
theorem dL_law_1393 : decode cL_law 1393 = .ok (.aload_n 2, 1) := by decide +kernel
theorem dL_law_1394 : decode cL_law 1394 = .ok (.aload_n 0, 1) := by decide +kernel
theorem dL_law_1395 : decode cL_law 1395 = .ok (.iload 5, 2) := by decide +kernel
theorem dL_law_1397 : decode cL_law 1397 = .ok (.iconst 1, 1) := by decide +kernel
theorem dL_law_1398 : decode cL_law 1398 = .ok (.iadd, 1) := by decide +kernel
theorem dL_law_1399 : decode cL_law 1399 = .ok (.iaload, 1) := by decide +kernel
theorem dL_law_1400 : decode cL_law 1400 = .ok (.aload_n 0, 1) := by decide +kernel
theorem dL_law_1401 : decode cL_law 1401 = .ok (.iload 5, 2) := by decide +kernel
theorem dL_law_1403 : decode cL_law 1403 = .ok (.iconst 2, 1) := by decide +kernel
theorem dL_law_1404 : decode cL_law 1404 = .ok (.iadd, 1) := by decide +kernel
theorem dL_law_1405 : decode cL_law 1405 = .ok (.iaload, 1) := by decide +kernel
theorem dL_law_1406 : decode cL_law 1406 = .ok (.invokevirtual 246, 3) := by decide +kernel
theorem dL_law_1409 : decode cL_law 1409 = .ok (.istore 7, 2) := by decide +kernel
theorem dL_law_1411 : decode cL_law 1411 = .ok (.aload_n 2, 1) := by decide +kernel
theorem dL_law_1412 : decode cL_law 1412 = .ok (.invokevirtual 186, 3) := by decide +kernel
theorem dL_law_1415 : decode cL_law 1415 = .ok (.iload 6, 2) := by decide +kernel
theorem dL_law_1417 : decode cL_law 1417 = .ok (.if_icmp .eq 5, 3) := by decide +kernel
theorem dL_law_1420 : decode cL_law 1420 = .ok (.iconst 0, 1) := by decide +kernel
theorem dL_law_1421 : decode cL_law 1421 = .ok (.ireturn, 1) := by decide +kernel
theorem dL_law_1422 : decode cL_law 1422 = .ok (.iload 6, 2) := by decide +kernel
theorem dL_law_1424 : decode cL_law 1424 = .ok (.ifCond .ne 15, 3) := by decide +kernel
theorem dL_law_1427 : decode cL_law 1427 = .ok (.aload_n 3, 1) := by decide +kernel
theorem dL_law_1428 : decode cL_law 1428 = .ok (.iconst 0, 1) := by decide +kernel
theorem dL_law_1429 : decode cL_law 1429 = .ok (.laload, 1) := by decide +kernel
theorem dL_law_1430 : decode cL_law 1430 = .ok (.iload 7, 2) := by decide +kernel
theorem dL_law_1432 : decode cL_law 1432 = .ok (.i2l, 1) := by decide +kernel
theorem dL_law_1433 : decode cL_law 1433 = .ok (.lcmp, 1) := by decide +kernel
theorem dL_law_1434 : decode cL_law 1434 = .ok (.ifCond .eq 5, 3) := by decide +kernel
theorem dL_law_1437 : decode cL_law 1437 = .ok (.iconst 0, 1) := by decide +kernel
theorem dL_law_1438 : decode cL_law 1438 = .ok (.ireturn, 1) := by decide +kernel
theorem dL_law_1439 : decode cL_law 1439 = .ok (.goto 2034, 3) := by decide +kernel
set_option maxRecDepth 100000 in
set_option maxHeartbeats 4000000 in
theorem lc18_ok {G : GT} {b L A B : Nat} {xs : Nat → Int32} {μ : Mem} {i : Int32} {N : Mem → Prop} (C : PCx G cL_law 9 RL) (hX : Scr G b L xs) (hHR : HR G 12) (hN : ∀ μ : Mem, N μ → PW G A B 3473 [some (pW (.ref b)), some (pR 40 0), some (pR 50 0), some (pR 80 0), some (pR 81 0), some (pI i), none, none, none] [] μ) (hk : lc18_wp xs L μ i N) : PW G (A + 2) (B + 12) 1374 [some (pW (.ref b)), some (pR 40 0), some (pR 50 0), some (pR 80 0), some (pR 81 0), some (pI i), none, none, none] [] μ := by
  unfold lc18_wp at hk
  refine px_aload_n (i := 1) C dL_law_1374 rfl rfl ?_
  refine px_aload_nw (i := 0) C dL_law_1375 rfl rfl ?_
  refine px_iload (i := 5) C dL_law_1376 rfl ?_
  refine px_iconst (v := (1 : Int32)) C dL_law_1378 rfl ?_
  refine px_iadd C dL_law_1379 ?_
  obtain ⟨o1, hk⟩ := hk
  refine px_sld C hX dL_law_1380 o1 ?_
  refine px_aload_nw (i := 0) C dL_law_1381 rfl rfl ?_
  refine px_iload (i := 5) C dL_law_1382 rfl ?_
  refine px_iconst (v := (2 : Int32)) C dL_law_1384 rfl ?_
  refine px_iadd C dL_law_1385 ?_
  obtain ⟨o2, hk⟩ := hk
  refine px_sld C hX dL_law_1386 o2 ?_
  refine px_aload_n (i := 3) C dL_law_1387 rfl rfl ?_
  refine px_callSH (h := 11) (rc' := A + 0) (rs' := B + 0) C (HR_le hHR (Nat.le_of_ble_eq_true rfl)) dL_law_1388 (gw4 167 rfl rfl) ms_L_childCount (L_childCount_ok (PCx_l C) (PCx_I C) hk) rfl rfl (Nat.le_of_ble_eq_true rfl) (Nat.le_of_ble_eq_true rfl) (by omega) (by omega) ?_
  intro r4 μ3 hk
  refine px_istore (i := 6) C dL_law_1391 (by decide) rfl ?_
  refine px_aload_n (i := 2) C dL_law_1393 rfl rfl ?_
  refine px_aload_nw (i := 0) C dL_law_1394 rfl rfl ?_
  refine px_iload (i := 5) C dL_law_1395 rfl ?_
  refine px_iconst (v := (1 : Int32)) C dL_law_1397 rfl ?_
  refine px_iadd C dL_law_1398 ?_
  obtain ⟨o5, hk⟩ := hk
  refine px_sld C hX dL_law_1399 o5 ?_
  refine px_aload_nw (i := 0) C dL_law_1400 rfl rfl ?_
  refine px_iload (i := 5) C dL_law_1401 rfl ?_
  refine px_iconst (v := (2 : Int32)) C dL_law_1403 rfl ?_
  refine px_iadd C dL_law_1404 ?_
  obtain ⟨o6, hk⟩ := hk
  refine px_sld C hX dL_law_1405 o6 ?_
  refine px_callVNi (h := 8) (rc' := A + 0) (rs' := B + 0) C (HR_le hHR (Nat.le_of_ble_eq_true rfl)) dL_law_1406 (gw9 74 rfl rfl) mv_X9_childCount (w9_childCount_ok (PCx_l C) (PCx_I C) hk) rfl rfl rfl rfl rfl (Nat.le_of_ble_eq_true rfl) (Nat.le_of_ble_eq_true rfl) (by omega) (by omega) ?_
  intro r8 μ7 hk
  refine px_istore (i := 7) C dL_law_1409 (by decide) rfl ?_
  refine px_aload_n (i := 2) C dL_law_1411 rfl rfl ?_
  refine px_callVNi (h := 0) (rc' := A + 0) (rs' := B + 0) C (HR_le hHR (Nat.le_of_ble_eq_true rfl)) dL_law_1412 (gw8 123 rfl rfl) mv_X9_thrown (w9_thrown_ok (PCx_l C) (PCx_I C) hk) rfl rfl rfl rfl rfl (Nat.le_of_ble_eq_true rfl) (Nat.le_of_ble_eq_true rfl) (by omega) (by omega) ?_
  intro r10 μ9 hk
  refine px_iload (i := 6) C dL_law_1415 rfl ?_
  refine px_icmp_eq (tgt := 1422) C dL_law_1417 (by decide) (fun c15 => ?_) (fun c15 => ?_)
  · replace hk := hk.1 c15
    refine px_iload (i := 6) C dL_law_1422 rfl ?_
    refine px_if_ne (tgt := 1439) C dL_law_1424 (by decide) (fun c14 => ?_) (fun c14 => ?_)
    · replace hk := hk.1 c14
      refine px_goto (tgt := 3473) C dL_law_1439 (by decide) ?_
      exact PW_at (hN _ hk) (And.intro rfl (And.intro rfl (And.intro rfl (And.intro rfl (And.intro rfl (And.intro rfl trivial)))))) (by omega) (by omega)
    · replace hk := hk.2 c14
      refine px_aload_n (i := 3) C dL_law_1427 rfl rfl ?_
      refine px_iconst (v := (0 : Int32)) C dL_law_1428 rfl ?_
      obtain ⟨o11, hk⟩ := hk
      refine px_lald 5120 C dL_law_1429 rfl rfl rfl rfl o11 ?_
      refine px_iload (i := 7) C dL_law_1430 rfl ?_
      refine px_i2l C dL_law_1432 ?_
      obtain ⟨o12, hk⟩ := hk
      refine px_lcmp C dL_law_1433 o12 ?_
      refine px_if_eq (tgt := 1439) C dL_law_1434 (by decide) (fun c13 => ?_) (fun c13 => ?_)
      · replace hk := hk.1 c13
        refine px_goto (tgt := 3473) C dL_law_1439 (by decide) ?_
        exact PW_at (hN _ hk) (And.intro rfl (And.intro rfl (And.intro rfl (And.intro rfl (And.intro rfl (And.intro rfl trivial)))))) (by omega) (by omega)
      · replace hk := hk.2 c13
        refine px_iconst (v := (0 : Int32)) C dL_law_1437 rfl ?_
        exact hk.elim
  · replace hk := hk.2 c15
    refine px_iconst (v := (0 : Int32)) C dL_law_1420 rfl ?_
    exact hk.elim
theorem dL_law_1442 : decode cL_law 1442 = .ok (.aload_n 1, 1) := by decide +kernel
theorem dL_law_1443 : decode cL_law 1443 = .ok (.aload_n 0, 1) := by decide +kernel
theorem dL_law_1444 : decode cL_law 1444 = .ok (.iload 5, 2) := by decide +kernel
theorem dL_law_1446 : decode cL_law 1446 = .ok (.iconst 1, 1) := by decide +kernel
theorem dL_law_1447 : decode cL_law 1447 = .ok (.iadd, 1) := by decide +kernel
theorem dL_law_1448 : decode cL_law 1448 = .ok (.iaload, 1) := by decide +kernel
theorem dL_law_1449 : decode cL_law 1449 = .ok (.aload_n 0, 1) := by decide +kernel
theorem dL_law_1450 : decode cL_law 1450 = .ok (.iload 5, 2) := by decide +kernel
theorem dL_law_1452 : decode cL_law 1452 = .ok (.iconst 2, 1) := by decide +kernel
theorem dL_law_1453 : decode cL_law 1453 = .ok (.iadd, 1) := by decide +kernel
theorem dL_law_1454 : decode cL_law 1454 = .ok (.iaload, 1) := by decide +kernel
theorem dL_law_1455 : decode cL_law 1455 = .ok (.aload_n 0, 1) := by decide +kernel
theorem dL_law_1456 : decode cL_law 1456 = .ok (.iload 5, 2) := by decide +kernel
theorem dL_law_1458 : decode cL_law 1458 = .ok (.iconst 3, 1) := by decide +kernel
theorem dL_law_1459 : decode cL_law 1459 = .ok (.iadd, 1) := by decide +kernel
theorem dL_law_1460 : decode cL_law 1460 = .ok (.iaload, 1) := by decide +kernel
theorem dL_law_1461 : decode cL_law 1461 = .ok (.aload_n 3, 1) := by decide +kernel
theorem dL_law_1462 : decode cL_law 1462 = .ok (.invokestatic 247, 3) := by decide +kernel
theorem dL_law_1465 : decode cL_law 1465 = .ok (.istore 6, 2) := by decide +kernel
theorem dL_law_1467 : decode cL_law 1467 = .ok (.aload_n 2, 1) := by decide +kernel
theorem dL_law_1468 : decode cL_law 1468 = .ok (.aload_n 0, 1) := by decide +kernel
theorem dL_law_1469 : decode cL_law 1469 = .ok (.iload 5, 2) := by decide +kernel
theorem dL_law_1471 : decode cL_law 1471 = .ok (.iconst 1, 1) := by decide +kernel
theorem dL_law_1472 : decode cL_law 1472 = .ok (.iadd, 1) := by decide +kernel
theorem dL_law_1473 : decode cL_law 1473 = .ok (.iaload, 1) := by decide +kernel
theorem dL_law_1474 : decode cL_law 1474 = .ok (.aload_n 0, 1) := by decide +kernel
theorem dL_law_1475 : decode cL_law 1475 = .ok (.iload 5, 2) := by decide +kernel
theorem dL_law_1477 : decode cL_law 1477 = .ok (.iconst 2, 1) := by decide +kernel
theorem dL_law_1478 : decode cL_law 1478 = .ok (.iadd, 1) := by decide +kernel
theorem dL_law_1479 : decode cL_law 1479 = .ok (.iaload, 1) := by decide +kernel
theorem dL_law_1480 : decode cL_law 1480 = .ok (.aload_n 0, 1) := by decide +kernel
theorem dL_law_1481 : decode cL_law 1481 = .ok (.iload 5, 2) := by decide +kernel
theorem dL_law_1483 : decode cL_law 1483 = .ok (.iconst 3, 1) := by decide +kernel
theorem dL_law_1484 : decode cL_law 1484 = .ok (.iadd, 1) := by decide +kernel
theorem dL_law_1485 : decode cL_law 1485 = .ok (.iaload, 1) := by decide +kernel
theorem dL_law_1486 : decode cL_law 1486 = .ok (.invokevirtual 249, 3) := by decide +kernel
theorem dL_law_1489 : decode cL_law 1489 = .ok (.istore 7, 2) := by decide +kernel
theorem dL_law_1491 : decode cL_law 1491 = .ok (.aload_n 2, 1) := by decide +kernel
theorem dL_law_1492 : decode cL_law 1492 = .ok (.invokevirtual 186, 3) := by decide +kernel
theorem dL_law_1495 : decode cL_law 1495 = .ok (.iload 6, 2) := by decide +kernel
theorem dL_law_1497 : decode cL_law 1497 = .ok (.if_icmp .eq 5, 3) := by decide +kernel
theorem dL_law_1500 : decode cL_law 1500 = .ok (.iconst 0, 1) := by decide +kernel
theorem dL_law_1501 : decode cL_law 1501 = .ok (.ireturn, 1) := by decide +kernel
theorem dL_law_1502 : decode cL_law 1502 = .ok (.iload 6, 2) := by decide +kernel
theorem dL_law_1504 : decode cL_law 1504 = .ok (.ifCond .ne 15, 3) := by decide +kernel
theorem dL_law_1507 : decode cL_law 1507 = .ok (.aload_n 3, 1) := by decide +kernel
theorem dL_law_1508 : decode cL_law 1508 = .ok (.iconst 0, 1) := by decide +kernel
theorem dL_law_1509 : decode cL_law 1509 = .ok (.laload, 1) := by decide +kernel
theorem dL_law_1510 : decode cL_law 1510 = .ok (.iload 7, 2) := by decide +kernel
theorem dL_law_1512 : decode cL_law 1512 = .ok (.i2l, 1) := by decide +kernel
theorem dL_law_1513 : decode cL_law 1513 = .ok (.lcmp, 1) := by decide +kernel
theorem dL_law_1514 : decode cL_law 1514 = .ok (.ifCond .eq 5, 3) := by decide +kernel
theorem dL_law_1517 : decode cL_law 1517 = .ok (.iconst 0, 1) := by decide +kernel
theorem dL_law_1518 : decode cL_law 1518 = .ok (.ireturn, 1) := by decide +kernel
theorem dL_law_1519 : decode cL_law 1519 = .ok (.goto 1954, 3) := by decide +kernel
set_option maxRecDepth 100000 in
set_option maxHeartbeats 4000000 in
theorem lc19_ok {G : GT} {b L A B : Nat} {xs : Nat → Int32} {μ : Mem} {i : Int32} {N : Mem → Prop} (C : PCx G cL_law 9 RL) (hX : Scr G b L xs) (hHR : HR G 12) (hN : ∀ μ : Mem, N μ → PW G A B 3473 [some (pW (.ref b)), some (pR 40 0), some (pR 50 0), some (pR 80 0), some (pR 81 0), some (pI i), none, none, none] [] μ) (hk : lc19_wp xs L μ i N) : PW G (A + 3) (B + 18) 1442 [some (pW (.ref b)), some (pR 40 0), some (pR 50 0), some (pR 80 0), some (pR 81 0), some (pI i), none, none, none] [] μ := by
  unfold lc19_wp at hk
  refine px_aload_n (i := 1) C dL_law_1442 rfl rfl ?_
  refine px_aload_nw (i := 0) C dL_law_1443 rfl rfl ?_
  refine px_iload (i := 5) C dL_law_1444 rfl ?_
  refine px_iconst (v := (1 : Int32)) C dL_law_1446 rfl ?_
  refine px_iadd C dL_law_1447 ?_
  obtain ⟨o1, hk⟩ := hk
  refine px_sld C hX dL_law_1448 o1 ?_
  refine px_aload_nw (i := 0) C dL_law_1449 rfl rfl ?_
  refine px_iload (i := 5) C dL_law_1450 rfl ?_
  refine px_iconst (v := (2 : Int32)) C dL_law_1452 rfl ?_
  refine px_iadd C dL_law_1453 ?_
  obtain ⟨o2, hk⟩ := hk
  refine px_sld C hX dL_law_1454 o2 ?_
  refine px_aload_nw (i := 0) C dL_law_1455 rfl rfl ?_
  refine px_iload (i := 5) C dL_law_1456 rfl ?_
  refine px_iconst (v := (3 : Int32)) C dL_law_1458 rfl ?_
  refine px_iadd C dL_law_1459 ?_
  obtain ⟨o3, hk⟩ := hk
  refine px_sld C hX dL_law_1460 o3 ?_
  refine px_aload_n (i := 3) C dL_law_1461 rfl rfl ?_
  refine px_callSH (h := 11) (rc' := A + 0) (rs' := B + 0) C (HR_le hHR (Nat.le_of_ble_eq_true rfl)) dL_law_1462 (gw4 175 rfl rfl) ms_L_child (L_child_ok (PCx_l C) (PCx_I C) hk) rfl rfl (Nat.le_of_ble_eq_true rfl) (Nat.le_of_ble_eq_true rfl) (by omega) (by omega) ?_
  intro r5 μ4 hk
  refine px_istore (i := 6) C dL_law_1465 (by decide) rfl ?_
  refine px_aload_n (i := 2) C dL_law_1467 rfl rfl ?_
  refine px_aload_nw (i := 0) C dL_law_1468 rfl rfl ?_
  refine px_iload (i := 5) C dL_law_1469 rfl ?_
  refine px_iconst (v := (1 : Int32)) C dL_law_1471 rfl ?_
  refine px_iadd C dL_law_1472 ?_
  obtain ⟨o6, hk⟩ := hk
  refine px_sld C hX dL_law_1473 o6 ?_
  refine px_aload_nw (i := 0) C dL_law_1474 rfl rfl ?_
  refine px_iload (i := 5) C dL_law_1475 rfl ?_
  refine px_iconst (v := (2 : Int32)) C dL_law_1477 rfl ?_
  refine px_iadd C dL_law_1478 ?_
  obtain ⟨o7, hk⟩ := hk
  refine px_sld C hX dL_law_1479 o7 ?_
  refine px_aload_nw (i := 0) C dL_law_1480 rfl rfl ?_
  refine px_iload (i := 5) C dL_law_1481 rfl ?_
  refine px_iconst (v := (3 : Int32)) C dL_law_1483 rfl ?_
  refine px_iadd C dL_law_1484 ?_
  obtain ⟨o8, hk⟩ := hk
  refine px_sld C hX dL_law_1485 o8 ?_
  refine px_callVNi (h := 8) (rc' := A + 0) (rs' := B + 0) C (HR_le hHR (Nat.le_of_ble_eq_true rfl)) dL_law_1486 (gw9 82 rfl rfl) mv_X9_child (w9_child_ok (PCx_l C) (PCx_I C) hk) rfl rfl rfl rfl rfl (Nat.le_of_ble_eq_true rfl) (Nat.le_of_ble_eq_true rfl) (by omega) (by omega) ?_
  intro r10 μ9 hk
  refine px_istore (i := 7) C dL_law_1489 (by decide) rfl ?_
  refine px_aload_n (i := 2) C dL_law_1491 rfl rfl ?_
  refine px_callVNi (h := 0) (rc' := A + 0) (rs' := B + 0) C (HR_le hHR (Nat.le_of_ble_eq_true rfl)) dL_law_1492 (gw8 123 rfl rfl) mv_X9_thrown (w9_thrown_ok (PCx_l C) (PCx_I C) hk) rfl rfl rfl rfl rfl (Nat.le_of_ble_eq_true rfl) (Nat.le_of_ble_eq_true rfl) (by omega) (by omega) ?_
  intro r12 μ11 hk
  refine px_iload (i := 6) C dL_law_1495 rfl ?_
  refine px_icmp_eq (tgt := 1502) C dL_law_1497 (by decide) (fun c17 => ?_) (fun c17 => ?_)
  · replace hk := hk.1 c17
    refine px_iload (i := 6) C dL_law_1502 rfl ?_
    refine px_if_ne (tgt := 1519) C dL_law_1504 (by decide) (fun c16 => ?_) (fun c16 => ?_)
    · replace hk := hk.1 c16
      refine px_goto (tgt := 3473) C dL_law_1519 (by decide) ?_
      exact PW_at (hN _ hk) (And.intro rfl (And.intro rfl (And.intro rfl (And.intro rfl (And.intro rfl (And.intro rfl trivial)))))) (by omega) (by omega)
    · replace hk := hk.2 c16
      refine px_aload_n (i := 3) C dL_law_1507 rfl rfl ?_
      refine px_iconst (v := (0 : Int32)) C dL_law_1508 rfl ?_
      obtain ⟨o13, hk⟩ := hk
      refine px_lald 5120 C dL_law_1509 rfl rfl rfl rfl o13 ?_
      refine px_iload (i := 7) C dL_law_1510 rfl ?_
      refine px_i2l C dL_law_1512 ?_
      obtain ⟨o14, hk⟩ := hk
      refine px_lcmp C dL_law_1513 o14 ?_
      refine px_if_eq (tgt := 1519) C dL_law_1514 (by decide) (fun c15 => ?_) (fun c15 => ?_)
      · replace hk := hk.1 c15
        refine px_goto (tgt := 3473) C dL_law_1519 (by decide) ?_
        exact PW_at (hN _ hk) (And.intro rfl (And.intro rfl (And.intro rfl (And.intro rfl (And.intro rfl (And.intro rfl trivial)))))) (by omega) (by omega)
      · replace hk := hk.2 c15
        refine px_iconst (v := (0 : Int32)) C dL_law_1517 rfl ?_
        exact hk.elim
  · replace hk := hk.2 c17
    refine px_iconst (v := (0 : Int32)) C dL_law_1500 rfl ?_
    exact hk.elim
theorem dL_law_1522 : decode cL_law 1522 = .ok (.aload_n 1, 1) := by decide +kernel
theorem dL_law_1523 : decode cL_law 1523 = .ok (.aload_n 0, 1) := by decide +kernel
theorem dL_law_1524 : decode cL_law 1524 = .ok (.iload 5, 2) := by decide +kernel
theorem dL_law_1526 : decode cL_law 1526 = .ok (.iconst 1, 1) := by decide +kernel
theorem dL_law_1527 : decode cL_law 1527 = .ok (.iadd, 1) := by decide +kernel
theorem dL_law_1528 : decode cL_law 1528 = .ok (.iaload, 1) := by decide +kernel
theorem dL_law_1529 : decode cL_law 1529 = .ok (.aload_n 0, 1) := by decide +kernel
theorem dL_law_1530 : decode cL_law 1530 = .ok (.iload 5, 2) := by decide +kernel
theorem dL_law_1532 : decode cL_law 1532 = .ok (.iconst 2, 1) := by decide +kernel
theorem dL_law_1533 : decode cL_law 1533 = .ok (.iadd, 1) := by decide +kernel
theorem dL_law_1534 : decode cL_law 1534 = .ok (.iaload, 1) := by decide +kernel
theorem dL_law_1535 : decode cL_law 1535 = .ok (.ifCond .eq 7, 3) := by decide +kernel
theorem dL_law_1538 : decode cL_law 1538 = .ok (.iconst 1, 1) := by decide +kernel
theorem dL_law_1539 : decode cL_law 1539 = .ok (.goto 4, 3) := by decide +kernel
theorem dL_law_1542 : decode cL_law 1542 = .ok (.iconst 0, 1) := by decide +kernel
theorem dL_law_1543 : decode cL_law 1543 = .ok (.aload_n 3, 1) := by decide +kernel
theorem dL_law_1544 : decode cL_law 1544 = .ok (.invokestatic 250, 3) := by decide +kernel
theorem dL_law_1547 : decode cL_law 1547 = .ok (.istore 6, 2) := by decide +kernel
theorem dL_law_1549 : decode cL_law 1549 = .ok (.aload_n 2, 1) := by decide +kernel
theorem dL_law_1550 : decode cL_law 1550 = .ok (.aload_n 0, 1) := by decide +kernel
theorem dL_law_1551 : decode cL_law 1551 = .ok (.iload 5, 2) := by decide +kernel
theorem dL_law_1553 : decode cL_law 1553 = .ok (.iconst 1, 1) := by decide +kernel
theorem dL_law_1554 : decode cL_law 1554 = .ok (.iadd, 1) := by decide +kernel
theorem dL_law_1555 : decode cL_law 1555 = .ok (.iaload, 1) := by decide +kernel
theorem dL_law_1556 : decode cL_law 1556 = .ok (.aload_n 0, 1) := by decide +kernel
theorem dL_law_1557 : decode cL_law 1557 = .ok (.iload 5, 2) := by decide +kernel
theorem dL_law_1559 : decode cL_law 1559 = .ok (.iconst 2, 1) := by decide +kernel
theorem dL_law_1560 : decode cL_law 1560 = .ok (.iadd, 1) := by decide +kernel
theorem dL_law_1561 : decode cL_law 1561 = .ok (.iaload, 1) := by decide +kernel
theorem dL_law_1562 : decode cL_law 1562 = .ok (.ifCond .eq 7, 3) := by decide +kernel
theorem dL_law_1565 : decode cL_law 1565 = .ok (.iconst 1, 1) := by decide +kernel
theorem dL_law_1566 : decode cL_law 1566 = .ok (.goto 4, 3) := by decide +kernel
theorem dL_law_1569 : decode cL_law 1569 = .ok (.iconst 0, 1) := by decide +kernel
theorem dL_law_1570 : decode cL_law 1570 = .ok (.invokevirtual 252, 3) := by decide +kernel
theorem dL_law_1573 : decode cL_law 1573 = .ok (.istore 7, 2) := by decide +kernel
theorem dL_law_1575 : decode cL_law 1575 = .ok (.aload_n 2, 1) := by decide +kernel
theorem dL_law_1576 : decode cL_law 1576 = .ok (.invokevirtual 186, 3) := by decide +kernel
theorem dL_law_1579 : decode cL_law 1579 = .ok (.iload 6, 2) := by decide +kernel
theorem dL_law_1581 : decode cL_law 1581 = .ok (.if_icmp .eq 5, 3) := by decide +kernel
theorem dL_law_1584 : decode cL_law 1584 = .ok (.iconst 0, 1) := by decide +kernel
theorem dL_law_1585 : decode cL_law 1585 = .ok (.ireturn, 1) := by decide +kernel
theorem dL_law_1586 : decode cL_law 1586 = .ok (.iload 6, 2) := by decide +kernel
theorem dL_law_1588 : decode cL_law 1588 = .ok (.ifCond .ne 15, 3) := by decide +kernel
theorem dL_law_1591 : decode cL_law 1591 = .ok (.aload_n 3, 1) := by decide +kernel
theorem dL_law_1592 : decode cL_law 1592 = .ok (.iconst 0, 1) := by decide +kernel
theorem dL_law_1593 : decode cL_law 1593 = .ok (.laload, 1) := by decide +kernel
theorem dL_law_1594 : decode cL_law 1594 = .ok (.iload 7, 2) := by decide +kernel
theorem dL_law_1596 : decode cL_law 1596 = .ok (.i2l, 1) := by decide +kernel
theorem dL_law_1597 : decode cL_law 1597 = .ok (.lcmp, 1) := by decide +kernel
theorem dL_law_1598 : decode cL_law 1598 = .ok (.ifCond .eq 5, 3) := by decide +kernel
theorem dL_law_1601 : decode cL_law 1601 = .ok (.iconst 0, 1) := by decide +kernel
theorem dL_law_1602 : decode cL_law 1602 = .ok (.ireturn, 1) := by decide +kernel
theorem dL_law_1603 : decode cL_law 1603 = .ok (.goto 1870, 3) := by decide +kernel
set_option maxRecDepth 100000 in
set_option maxHeartbeats 4000000 in
theorem lc20_ok {G : GT} {b L A B : Nat} {xs : Nat → Int32} {μ : Mem} {i : Int32} {N : Mem → Prop} (C : PCx G cL_law 9 RL) (hX : Scr G b L xs) (hHR : HR G 11) (hN : ∀ μ : Mem, N μ → PW G A B 3473 [some (pW (.ref b)), some (pR 40 0), some (pR 50 0), some (pR 80 0), some (pR 81 0), some (pI i), none, none, none] [] μ) (hk : lc20_wp xs L μ i N) : PW G (A + 1) (B + 6) 1522 [some (pW (.ref b)), some (pR 40 0), some (pR 50 0), some (pR 80 0), some (pR 81 0), some (pI i), none, none, none] [] μ := by
  unfold lc20_wp at hk
  refine px_aload_n (i := 1) C dL_law_1522 rfl rfl ?_
  refine px_aload_nw (i := 0) C dL_law_1523 rfl rfl ?_
  refine px_iload (i := 5) C dL_law_1524 rfl ?_
  refine px_iconst (v := (1 : Int32)) C dL_law_1526 rfl ?_
  refine px_iadd C dL_law_1527 ?_
  obtain ⟨o1, hk⟩ := hk
  refine px_sld C hX dL_law_1528 o1 ?_
  refine px_aload_nw (i := 0) C dL_law_1529 rfl rfl ?_
  refine px_iload (i := 5) C dL_law_1530 rfl ?_
  refine px_iconst (v := (2 : Int32)) C dL_law_1532 rfl ?_
  refine px_iadd C dL_law_1533 ?_
  obtain ⟨o2, hk⟩ := hk
  refine px_sld C hX dL_law_1534 o2 ?_
  refine px_if_eq (tgt := 1542) C dL_law_1535 (by decide) (fun c49 => ?_) (fun c49 => ?_)
  · replace hk := hk.1 c49
    refine px_iconst (v := (0 : Int32)) C dL_law_1542 rfl ?_
    refine px_aload_n (i := 3) C dL_law_1543 rfl rfl ?_
    refine px_callSH (h := 10) (rc' := A + 0) (rs' := B + 0) C (HR_le hHR (Nat.le_of_ble_eq_true rfl)) dL_law_1544 (gw4 187 rfl rfl) ms_L_roots (L_roots_ok (PCx_l C) (PCx_I C) hk) rfl rfl (Nat.le_of_ble_eq_true rfl) (Nat.le_of_ble_eq_true rfl) (by omega) (by omega) ?_
    intro r4 μ3 hk
    refine px_istore (i := 6) C dL_law_1547 (by decide) rfl ?_
    refine px_aload_n (i := 2) C dL_law_1549 rfl rfl ?_
    refine px_aload_nw (i := 0) C dL_law_1550 rfl rfl ?_
    refine px_iload (i := 5) C dL_law_1551 rfl ?_
    refine px_iconst (v := (1 : Int32)) C dL_law_1553 rfl ?_
    refine px_iadd C dL_law_1554 ?_
    obtain ⟨o5, hk⟩ := hk
    refine px_sld C hX dL_law_1555 o5 ?_
    refine px_aload_nw (i := 0) C dL_law_1556 rfl rfl ?_
    refine px_iload (i := 5) C dL_law_1557 rfl ?_
    refine px_iconst (v := (2 : Int32)) C dL_law_1559 rfl ?_
    refine px_iadd C dL_law_1560 ?_
    obtain ⟨o6, hk⟩ := hk
    refine px_sld C hX dL_law_1561 o6 ?_
    refine px_if_eq (tgt := 1569) C dL_law_1562 (by decide) (fun c25 => ?_) (fun c25 => ?_)
    · replace hk := hk.1 c25
      refine px_iconst (v := (0 : Int32)) C dL_law_1569 rfl ?_
      refine px_callVNi (h := 6) (rc' := A + 0) (rs' := B + 0) C (HR_le hHR (Nat.le_of_ble_eq_true rfl)) dL_law_1570 (gw9 94 rfl rfl) mv_X9_roots (w9_roots_ok (PCx_l C) (PCx_I C) hk) rfl rfl rfl rfl rfl (Nat.le_of_ble_eq_true rfl) (Nat.le_of_ble_eq_true rfl) (by omega) (by omega) ?_
      intro r8 μ7 hk
      refine px_istore (i := 7) C dL_law_1573 (by decide) rfl ?_
      refine px_aload_n (i := 2) C dL_law_1575 rfl rfl ?_
      refine px_callVNi (h := 0) (rc' := A + 0) (rs' := B + 0) C (HR_le hHR (Nat.le_of_ble_eq_true rfl)) dL_law_1576 (gw8 123 rfl rfl) mv_X9_thrown (w9_thrown_ok (PCx_l C) (PCx_I C) hk) rfl rfl rfl rfl rfl (Nat.le_of_ble_eq_true rfl) (Nat.le_of_ble_eq_true rfl) (by omega) (by omega) ?_
      intro r10 μ9 hk
      refine px_iload (i := 6) C dL_law_1579 rfl ?_
      refine px_icmp_eq (tgt := 1586) C dL_law_1581 (by decide) (fun c15 => ?_) (fun c15 => ?_)
      · replace hk := hk.1 c15
        refine px_iload (i := 6) C dL_law_1586 rfl ?_
        refine px_if_ne (tgt := 1603) C dL_law_1588 (by decide) (fun c14 => ?_) (fun c14 => ?_)
        · replace hk := hk.1 c14
          refine px_goto (tgt := 3473) C dL_law_1603 (by decide) ?_
          exact PW_at (hN _ hk) (And.intro rfl (And.intro rfl (And.intro rfl (And.intro rfl (And.intro rfl (And.intro rfl trivial)))))) (by omega) (by omega)
        · replace hk := hk.2 c14
          refine px_aload_n (i := 3) C dL_law_1591 rfl rfl ?_
          refine px_iconst (v := (0 : Int32)) C dL_law_1592 rfl ?_
          obtain ⟨o11, hk⟩ := hk
          refine px_lald 5120 C dL_law_1593 rfl rfl rfl rfl o11 ?_
          refine px_iload (i := 7) C dL_law_1594 rfl ?_
          refine px_i2l C dL_law_1596 ?_
          obtain ⟨o12, hk⟩ := hk
          refine px_lcmp C dL_law_1597 o12 ?_
          refine px_if_eq (tgt := 1603) C dL_law_1598 (by decide) (fun c13 => ?_) (fun c13 => ?_)
          · replace hk := hk.1 c13
            refine px_goto (tgt := 3473) C dL_law_1603 (by decide) ?_
            exact PW_at (hN _ hk) (And.intro rfl (And.intro rfl (And.intro rfl (And.intro rfl (And.intro rfl (And.intro rfl trivial)))))) (by omega) (by omega)
          · replace hk := hk.2 c13
            refine px_iconst (v := (0 : Int32)) C dL_law_1601 rfl ?_
            exact hk.elim
      · replace hk := hk.2 c15
        refine px_iconst (v := (0 : Int32)) C dL_law_1584 rfl ?_
        exact hk.elim
    · replace hk := hk.2 c25
      refine px_iconst (v := (1 : Int32)) C dL_law_1565 rfl ?_
      refine px_goto (tgt := 1570) C dL_law_1566 (by decide) ?_
      refine px_callVNi (h := 6) (rc' := A + 0) (rs' := B + 0) C (HR_le hHR (Nat.le_of_ble_eq_true rfl)) dL_law_1570 (gw9 94 rfl rfl) mv_X9_roots (w9_roots_ok (PCx_l C) (PCx_I C) hk) rfl rfl rfl rfl rfl (Nat.le_of_ble_eq_true rfl) (Nat.le_of_ble_eq_true rfl) (by omega) (by omega) ?_
      intro r17 μ16 hk
      refine px_istore (i := 7) C dL_law_1573 (by decide) rfl ?_
      refine px_aload_n (i := 2) C dL_law_1575 rfl rfl ?_
      refine px_callVNi (h := 0) (rc' := A + 0) (rs' := B + 0) C (HR_le hHR (Nat.le_of_ble_eq_true rfl)) dL_law_1576 (gw8 123 rfl rfl) mv_X9_thrown (w9_thrown_ok (PCx_l C) (PCx_I C) hk) rfl rfl rfl rfl rfl (Nat.le_of_ble_eq_true rfl) (Nat.le_of_ble_eq_true rfl) (by omega) (by omega) ?_
      intro r19 μ18 hk
      refine px_iload (i := 6) C dL_law_1579 rfl ?_
      refine px_icmp_eq (tgt := 1586) C dL_law_1581 (by decide) (fun c24 => ?_) (fun c24 => ?_)
      · replace hk := hk.1 c24
        refine px_iload (i := 6) C dL_law_1586 rfl ?_
        refine px_if_ne (tgt := 1603) C dL_law_1588 (by decide) (fun c23 => ?_) (fun c23 => ?_)
        · replace hk := hk.1 c23
          refine px_goto (tgt := 3473) C dL_law_1603 (by decide) ?_
          exact PW_at (hN _ hk) (And.intro rfl (And.intro rfl (And.intro rfl (And.intro rfl (And.intro rfl (And.intro rfl trivial)))))) (by omega) (by omega)
        · replace hk := hk.2 c23
          refine px_aload_n (i := 3) C dL_law_1591 rfl rfl ?_
          refine px_iconst (v := (0 : Int32)) C dL_law_1592 rfl ?_
          obtain ⟨o20, hk⟩ := hk
          refine px_lald 5120 C dL_law_1593 rfl rfl rfl rfl o20 ?_
          refine px_iload (i := 7) C dL_law_1594 rfl ?_
          refine px_i2l C dL_law_1596 ?_
          obtain ⟨o21, hk⟩ := hk
          refine px_lcmp C dL_law_1597 o21 ?_
          refine px_if_eq (tgt := 1603) C dL_law_1598 (by decide) (fun c22 => ?_) (fun c22 => ?_)
          · replace hk := hk.1 c22
            refine px_goto (tgt := 3473) C dL_law_1603 (by decide) ?_
            exact PW_at (hN _ hk) (And.intro rfl (And.intro rfl (And.intro rfl (And.intro rfl (And.intro rfl (And.intro rfl trivial)))))) (by omega) (by omega)
          · replace hk := hk.2 c22
            refine px_iconst (v := (0 : Int32)) C dL_law_1601 rfl ?_
            exact hk.elim
      · replace hk := hk.2 c24
        refine px_iconst (v := (0 : Int32)) C dL_law_1584 rfl ?_
        exact hk.elim
  · replace hk := hk.2 c49
    refine px_iconst (v := (1 : Int32)) C dL_law_1538 rfl ?_
    refine px_goto (tgt := 1543) C dL_law_1539 (by decide) ?_
    refine px_aload_n (i := 3) C dL_law_1543 rfl rfl ?_
    refine px_callSH (h := 10) (rc' := A + 0) (rs' := B + 0) C (HR_le hHR (Nat.le_of_ble_eq_true rfl)) dL_law_1544 (gw4 187 rfl rfl) ms_L_roots (L_roots_ok (PCx_l C) (PCx_I C) hk) rfl rfl (Nat.le_of_ble_eq_true rfl) (Nat.le_of_ble_eq_true rfl) (by omega) (by omega) ?_
    intro r27 μ26 hk
    refine px_istore (i := 6) C dL_law_1547 (by decide) rfl ?_
    refine px_aload_n (i := 2) C dL_law_1549 rfl rfl ?_
    refine px_aload_nw (i := 0) C dL_law_1550 rfl rfl ?_
    refine px_iload (i := 5) C dL_law_1551 rfl ?_
    refine px_iconst (v := (1 : Int32)) C dL_law_1553 rfl ?_
    refine px_iadd C dL_law_1554 ?_
    obtain ⟨o28, hk⟩ := hk
    refine px_sld C hX dL_law_1555 o28 ?_
    refine px_aload_nw (i := 0) C dL_law_1556 rfl rfl ?_
    refine px_iload (i := 5) C dL_law_1557 rfl ?_
    refine px_iconst (v := (2 : Int32)) C dL_law_1559 rfl ?_
    refine px_iadd C dL_law_1560 ?_
    obtain ⟨o29, hk⟩ := hk
    refine px_sld C hX dL_law_1561 o29 ?_
    refine px_if_eq (tgt := 1569) C dL_law_1562 (by decide) (fun c48 => ?_) (fun c48 => ?_)
    · replace hk := hk.1 c48
      refine px_iconst (v := (0 : Int32)) C dL_law_1569 rfl ?_
      refine px_callVNi (h := 6) (rc' := A + 0) (rs' := B + 0) C (HR_le hHR (Nat.le_of_ble_eq_true rfl)) dL_law_1570 (gw9 94 rfl rfl) mv_X9_roots (w9_roots_ok (PCx_l C) (PCx_I C) hk) rfl rfl rfl rfl rfl (Nat.le_of_ble_eq_true rfl) (Nat.le_of_ble_eq_true rfl) (by omega) (by omega) ?_
      intro r31 μ30 hk
      refine px_istore (i := 7) C dL_law_1573 (by decide) rfl ?_
      refine px_aload_n (i := 2) C dL_law_1575 rfl rfl ?_
      refine px_callVNi (h := 0) (rc' := A + 0) (rs' := B + 0) C (HR_le hHR (Nat.le_of_ble_eq_true rfl)) dL_law_1576 (gw8 123 rfl rfl) mv_X9_thrown (w9_thrown_ok (PCx_l C) (PCx_I C) hk) rfl rfl rfl rfl rfl (Nat.le_of_ble_eq_true rfl) (Nat.le_of_ble_eq_true rfl) (by omega) (by omega) ?_
      intro r33 μ32 hk
      refine px_iload (i := 6) C dL_law_1579 rfl ?_
      refine px_icmp_eq (tgt := 1586) C dL_law_1581 (by decide) (fun c38 => ?_) (fun c38 => ?_)
      · replace hk := hk.1 c38
        refine px_iload (i := 6) C dL_law_1586 rfl ?_
        refine px_if_ne (tgt := 1603) C dL_law_1588 (by decide) (fun c37 => ?_) (fun c37 => ?_)
        · replace hk := hk.1 c37
          refine px_goto (tgt := 3473) C dL_law_1603 (by decide) ?_
          exact PW_at (hN _ hk) (And.intro rfl (And.intro rfl (And.intro rfl (And.intro rfl (And.intro rfl (And.intro rfl trivial)))))) (by omega) (by omega)
        · replace hk := hk.2 c37
          refine px_aload_n (i := 3) C dL_law_1591 rfl rfl ?_
          refine px_iconst (v := (0 : Int32)) C dL_law_1592 rfl ?_
          obtain ⟨o34, hk⟩ := hk
          refine px_lald 5120 C dL_law_1593 rfl rfl rfl rfl o34 ?_
          refine px_iload (i := 7) C dL_law_1594 rfl ?_
          refine px_i2l C dL_law_1596 ?_
          obtain ⟨o35, hk⟩ := hk
          refine px_lcmp C dL_law_1597 o35 ?_
          refine px_if_eq (tgt := 1603) C dL_law_1598 (by decide) (fun c36 => ?_) (fun c36 => ?_)
          · replace hk := hk.1 c36
            refine px_goto (tgt := 3473) C dL_law_1603 (by decide) ?_
            exact PW_at (hN _ hk) (And.intro rfl (And.intro rfl (And.intro rfl (And.intro rfl (And.intro rfl (And.intro rfl trivial)))))) (by omega) (by omega)
          · replace hk := hk.2 c36
            refine px_iconst (v := (0 : Int32)) C dL_law_1601 rfl ?_
            exact hk.elim
      · replace hk := hk.2 c38
        refine px_iconst (v := (0 : Int32)) C dL_law_1584 rfl ?_
        exact hk.elim
    · replace hk := hk.2 c48
      refine px_iconst (v := (1 : Int32)) C dL_law_1565 rfl ?_
      refine px_goto (tgt := 1570) C dL_law_1566 (by decide) ?_
      refine px_callVNi (h := 6) (rc' := A + 0) (rs' := B + 0) C (HR_le hHR (Nat.le_of_ble_eq_true rfl)) dL_law_1570 (gw9 94 rfl rfl) mv_X9_roots (w9_roots_ok (PCx_l C) (PCx_I C) hk) rfl rfl rfl rfl rfl (Nat.le_of_ble_eq_true rfl) (Nat.le_of_ble_eq_true rfl) (by omega) (by omega) ?_
      intro r40 μ39 hk
      refine px_istore (i := 7) C dL_law_1573 (by decide) rfl ?_
      refine px_aload_n (i := 2) C dL_law_1575 rfl rfl ?_
      refine px_callVNi (h := 0) (rc' := A + 0) (rs' := B + 0) C (HR_le hHR (Nat.le_of_ble_eq_true rfl)) dL_law_1576 (gw8 123 rfl rfl) mv_X9_thrown (w9_thrown_ok (PCx_l C) (PCx_I C) hk) rfl rfl rfl rfl rfl (Nat.le_of_ble_eq_true rfl) (Nat.le_of_ble_eq_true rfl) (by omega) (by omega) ?_
      intro r42 μ41 hk
      refine px_iload (i := 6) C dL_law_1579 rfl ?_
      refine px_icmp_eq (tgt := 1586) C dL_law_1581 (by decide) (fun c47 => ?_) (fun c47 => ?_)
      · replace hk := hk.1 c47
        refine px_iload (i := 6) C dL_law_1586 rfl ?_
        refine px_if_ne (tgt := 1603) C dL_law_1588 (by decide) (fun c46 => ?_) (fun c46 => ?_)
        · replace hk := hk.1 c46
          refine px_goto (tgt := 3473) C dL_law_1603 (by decide) ?_
          exact PW_at (hN _ hk) (And.intro rfl (And.intro rfl (And.intro rfl (And.intro rfl (And.intro rfl (And.intro rfl trivial)))))) (by omega) (by omega)
        · replace hk := hk.2 c46
          refine px_aload_n (i := 3) C dL_law_1591 rfl rfl ?_
          refine px_iconst (v := (0 : Int32)) C dL_law_1592 rfl ?_
          obtain ⟨o43, hk⟩ := hk
          refine px_lald 5120 C dL_law_1593 rfl rfl rfl rfl o43 ?_
          refine px_iload (i := 7) C dL_law_1594 rfl ?_
          refine px_i2l C dL_law_1596 ?_
          obtain ⟨o44, hk⟩ := hk
          refine px_lcmp C dL_law_1597 o44 ?_
          refine px_if_eq (tgt := 1603) C dL_law_1598 (by decide) (fun c45 => ?_) (fun c45 => ?_)
          · replace hk := hk.1 c45
            refine px_goto (tgt := 3473) C dL_law_1603 (by decide) ?_
            exact PW_at (hN _ hk) (And.intro rfl (And.intro rfl (And.intro rfl (And.intro rfl (And.intro rfl (And.intro rfl trivial)))))) (by omega) (by omega)
          · replace hk := hk.2 c45
            refine px_iconst (v := (0 : Int32)) C dL_law_1601 rfl ?_
            exact hk.elim
      · replace hk := hk.2 c47
        refine px_iconst (v := (0 : Int32)) C dL_law_1584 rfl ?_
        exact hk.elim
theorem dL_law_1606 : decode cL_law 1606 = .ok (.aload_n 1, 1) := by decide +kernel
theorem dL_law_1607 : decode cL_law 1607 = .ok (.aload_n 0, 1) := by decide +kernel
theorem dL_law_1608 : decode cL_law 1608 = .ok (.iload 5, 2) := by decide +kernel
theorem dL_law_1610 : decode cL_law 1610 = .ok (.iconst 1, 1) := by decide +kernel
theorem dL_law_1611 : decode cL_law 1611 = .ok (.iadd, 1) := by decide +kernel
theorem dL_law_1612 : decode cL_law 1612 = .ok (.iaload, 1) := by decide +kernel
theorem dL_law_1613 : decode cL_law 1613 = .ok (.aload_n 0, 1) := by decide +kernel
theorem dL_law_1614 : decode cL_law 1614 = .ok (.iload 5, 2) := by decide +kernel
theorem dL_law_1616 : decode cL_law 1616 = .ok (.iconst 2, 1) := by decide +kernel
theorem dL_law_1617 : decode cL_law 1617 = .ok (.iadd, 1) := by decide +kernel
theorem dL_law_1618 : decode cL_law 1618 = .ok (.iaload, 1) := by decide +kernel
theorem dL_law_1619 : decode cL_law 1619 = .ok (.aload_n 3, 1) := by decide +kernel
theorem dL_law_1620 : decode cL_law 1620 = .ok (.invokestatic 253, 3) := by decide +kernel
theorem dL_law_1623 : decode cL_law 1623 = .ok (.istore 6, 2) := by decide +kernel
theorem dL_law_1625 : decode cL_law 1625 = .ok (.aload_n 2, 1) := by decide +kernel
theorem dL_law_1626 : decode cL_law 1626 = .ok (.aload_n 0, 1) := by decide +kernel
theorem dL_law_1627 : decode cL_law 1627 = .ok (.iload 5, 2) := by decide +kernel
theorem dL_law_1629 : decode cL_law 1629 = .ok (.iconst 1, 1) := by decide +kernel
theorem dL_law_1630 : decode cL_law 1630 = .ok (.iadd, 1) := by decide +kernel
theorem dL_law_1631 : decode cL_law 1631 = .ok (.iaload, 1) := by decide +kernel
theorem dL_law_1632 : decode cL_law 1632 = .ok (.aload_n 0, 1) := by decide +kernel
theorem dL_law_1633 : decode cL_law 1633 = .ok (.iload 5, 2) := by decide +kernel
theorem dL_law_1635 : decode cL_law 1635 = .ok (.iconst 2, 1) := by decide +kernel
theorem dL_law_1636 : decode cL_law 1636 = .ok (.iadd, 1) := by decide +kernel
theorem dL_law_1637 : decode cL_law 1637 = .ok (.iaload, 1) := by decide +kernel
theorem dL_law_1638 : decode cL_law 1638 = .ok (.invokevirtual 255, 3) := by decide +kernel
theorem dL_law_1641 : decode cL_law 1641 = .ok (.istore 7, 2) := by decide +kernel
theorem dL_law_1643 : decode cL_law 1643 = .ok (.aload_n 2, 1) := by decide +kernel
theorem dL_law_1644 : decode cL_law 1644 = .ok (.invokevirtual 186, 3) := by decide +kernel
theorem dL_law_1647 : decode cL_law 1647 = .ok (.iload 6, 2) := by decide +kernel
theorem dL_law_1649 : decode cL_law 1649 = .ok (.if_icmp .eq 5, 3) := by decide +kernel
theorem dL_law_1652 : decode cL_law 1652 = .ok (.iconst 0, 1) := by decide +kernel
theorem dL_law_1653 : decode cL_law 1653 = .ok (.ireturn, 1) := by decide +kernel
theorem dL_law_1654 : decode cL_law 1654 = .ok (.iload 6, 2) := by decide +kernel
theorem dL_law_1656 : decode cL_law 1656 = .ok (.ifCond .ne 15, 3) := by decide +kernel
theorem dL_law_1659 : decode cL_law 1659 = .ok (.aload_n 3, 1) := by decide +kernel
theorem dL_law_1660 : decode cL_law 1660 = .ok (.iconst 0, 1) := by decide +kernel
theorem dL_law_1661 : decode cL_law 1661 = .ok (.laload, 1) := by decide +kernel
theorem dL_law_1662 : decode cL_law 1662 = .ok (.iload 7, 2) := by decide +kernel
theorem dL_law_1664 : decode cL_law 1664 = .ok (.i2l, 1) := by decide +kernel
theorem dL_law_1665 : decode cL_law 1665 = .ok (.lcmp, 1) := by decide +kernel
theorem dL_law_1666 : decode cL_law 1666 = .ok (.ifCond .eq 5, 3) := by decide +kernel
theorem dL_law_1669 : decode cL_law 1669 = .ok (.iconst 0, 1) := by decide +kernel
theorem dL_law_1670 : decode cL_law 1670 = .ok (.ireturn, 1) := by decide +kernel
theorem dL_law_1671 : decode cL_law 1671 = .ok (.goto 1802, 3) := by decide +kernel
set_option maxRecDepth 100000 in
set_option maxHeartbeats 4000000 in
theorem lc21_ok {G : GT} {b L A B : Nat} {xs : Nat → Int32} {μ : Mem} {i : Int32} {N : Mem → Prop} (C : PCx G cL_law 9 RL) (hX : Scr G b L xs) (hHR : HR G 11) (hN : ∀ μ : Mem, N μ → PW G A B 3473 [some (pW (.ref b)), some (pR 40 0), some (pR 50 0), some (pR 80 0), some (pR 81 0), some (pI i), none, none, none] [] μ) (hk : lc21_wp xs L μ i N) : PW G (A + 2) (B + 12) 1606 [some (pW (.ref b)), some (pR 40 0), some (pR 50 0), some (pR 80 0), some (pR 81 0), some (pI i), none, none, none] [] μ := by
  unfold lc21_wp at hk
  refine px_aload_n (i := 1) C dL_law_1606 rfl rfl ?_
  refine px_aload_nw (i := 0) C dL_law_1607 rfl rfl ?_
  refine px_iload (i := 5) C dL_law_1608 rfl ?_
  refine px_iconst (v := (1 : Int32)) C dL_law_1610 rfl ?_
  refine px_iadd C dL_law_1611 ?_
  obtain ⟨o1, hk⟩ := hk
  refine px_sld C hX dL_law_1612 o1 ?_
  refine px_aload_nw (i := 0) C dL_law_1613 rfl rfl ?_
  refine px_iload (i := 5) C dL_law_1614 rfl ?_
  refine px_iconst (v := (2 : Int32)) C dL_law_1616 rfl ?_
  refine px_iadd C dL_law_1617 ?_
  obtain ⟨o2, hk⟩ := hk
  refine px_sld C hX dL_law_1618 o2 ?_
  refine px_aload_n (i := 3) C dL_law_1619 rfl rfl ?_
  refine px_callSH (h := 10) (rc' := A + 0) (rs' := B + 0) C (HR_le hHR (Nat.le_of_ble_eq_true rfl)) dL_law_1620 (gw4 203 rfl rfl) ms_L_rootAt (L_rootAt_ok (PCx_l C) (PCx_I C) hk) rfl rfl (Nat.le_of_ble_eq_true rfl) (Nat.le_of_ble_eq_true rfl) (by omega) (by omega) ?_
  intro r4 μ3 hk
  refine px_istore (i := 6) C dL_law_1623 (by decide) rfl ?_
  refine px_aload_n (i := 2) C dL_law_1625 rfl rfl ?_
  refine px_aload_nw (i := 0) C dL_law_1626 rfl rfl ?_
  refine px_iload (i := 5) C dL_law_1627 rfl ?_
  refine px_iconst (v := (1 : Int32)) C dL_law_1629 rfl ?_
  refine px_iadd C dL_law_1630 ?_
  obtain ⟨o5, hk⟩ := hk
  refine px_sld C hX dL_law_1631 o5 ?_
  refine px_aload_nw (i := 0) C dL_law_1632 rfl rfl ?_
  refine px_iload (i := 5) C dL_law_1633 rfl ?_
  refine px_iconst (v := (2 : Int32)) C dL_law_1635 rfl ?_
  refine px_iadd C dL_law_1636 ?_
  obtain ⟨o6, hk⟩ := hk
  refine px_sld C hX dL_law_1637 o6 ?_
  refine px_callVNi (h := 7) (rc' := A + 0) (rs' := B + 0) C (HR_le hHR (Nat.le_of_ble_eq_true rfl)) dL_law_1638 (gw9 106 rfl rfl) mv_X9_rootAt (w9_rootAt_ok (PCx_l C) (PCx_I C) hk) rfl rfl rfl rfl rfl (Nat.le_of_ble_eq_true rfl) (Nat.le_of_ble_eq_true rfl) (by omega) (by omega) ?_
  intro r8 μ7 hk
  refine px_istore (i := 7) C dL_law_1641 (by decide) rfl ?_
  refine px_aload_n (i := 2) C dL_law_1643 rfl rfl ?_
  refine px_callVNi (h := 0) (rc' := A + 0) (rs' := B + 0) C (HR_le hHR (Nat.le_of_ble_eq_true rfl)) dL_law_1644 (gw8 123 rfl rfl) mv_X9_thrown (w9_thrown_ok (PCx_l C) (PCx_I C) hk) rfl rfl rfl rfl rfl (Nat.le_of_ble_eq_true rfl) (Nat.le_of_ble_eq_true rfl) (by omega) (by omega) ?_
  intro r10 μ9 hk
  refine px_iload (i := 6) C dL_law_1647 rfl ?_
  refine px_icmp_eq (tgt := 1654) C dL_law_1649 (by decide) (fun c15 => ?_) (fun c15 => ?_)
  · replace hk := hk.1 c15
    refine px_iload (i := 6) C dL_law_1654 rfl ?_
    refine px_if_ne (tgt := 1671) C dL_law_1656 (by decide) (fun c14 => ?_) (fun c14 => ?_)
    · replace hk := hk.1 c14
      refine px_goto (tgt := 3473) C dL_law_1671 (by decide) ?_
      exact PW_at (hN _ hk) (And.intro rfl (And.intro rfl (And.intro rfl (And.intro rfl (And.intro rfl (And.intro rfl trivial)))))) (by omega) (by omega)
    · replace hk := hk.2 c14
      refine px_aload_n (i := 3) C dL_law_1659 rfl rfl ?_
      refine px_iconst (v := (0 : Int32)) C dL_law_1660 rfl ?_
      obtain ⟨o11, hk⟩ := hk
      refine px_lald 5120 C dL_law_1661 rfl rfl rfl rfl o11 ?_
      refine px_iload (i := 7) C dL_law_1662 rfl ?_
      refine px_i2l C dL_law_1664 ?_
      obtain ⟨o12, hk⟩ := hk
      refine px_lcmp C dL_law_1665 o12 ?_
      refine px_if_eq (tgt := 1671) C dL_law_1666 (by decide) (fun c13 => ?_) (fun c13 => ?_)
      · replace hk := hk.1 c13
        refine px_goto (tgt := 3473) C dL_law_1671 (by decide) ?_
        exact PW_at (hN _ hk) (And.intro rfl (And.intro rfl (And.intro rfl (And.intro rfl (And.intro rfl (And.intro rfl trivial)))))) (by omega) (by omega)
      · replace hk := hk.2 c13
        refine px_iconst (v := (0 : Int32)) C dL_law_1669 rfl ?_
        exact hk.elim
  · replace hk := hk.2 c15
    refine px_iconst (v := (0 : Int32)) C dL_law_1652 rfl ?_
    exact hk.elim
theorem dL_law_1674 : decode cL_law 1674 = .ok (.aload_n 1, 1) := by decide +kernel
theorem dL_law_1675 : decode cL_law 1675 = .ok (.aload_n 0, 1) := by decide +kernel
theorem dL_law_1676 : decode cL_law 1676 = .ok (.iload 5, 2) := by decide +kernel
theorem dL_law_1678 : decode cL_law 1678 = .ok (.iconst 1, 1) := by decide +kernel
theorem dL_law_1679 : decode cL_law 1679 = .ok (.iadd, 1) := by decide +kernel
theorem dL_law_1680 : decode cL_law 1680 = .ok (.iaload, 1) := by decide +kernel
theorem dL_law_1681 : decode cL_law 1681 = .ok (.aload_n 0, 1) := by decide +kernel
theorem dL_law_1682 : decode cL_law 1682 = .ok (.iload 5, 2) := by decide +kernel
theorem dL_law_1684 : decode cL_law 1684 = .ok (.iconst 2, 1) := by decide +kernel
theorem dL_law_1685 : decode cL_law 1685 = .ok (.iadd, 1) := by decide +kernel
theorem dL_law_1686 : decode cL_law 1686 = .ok (.iaload, 1) := by decide +kernel
theorem dL_law_1687 : decode cL_law 1687 = .ok (.aload_n 0, 1) := by decide +kernel
theorem dL_law_1688 : decode cL_law 1688 = .ok (.iload 5, 2) := by decide +kernel
theorem dL_law_1690 : decode cL_law 1690 = .ok (.iconst 3, 1) := by decide +kernel
theorem dL_law_1691 : decode cL_law 1691 = .ok (.iadd, 1) := by decide +kernel
theorem dL_law_1692 : decode cL_law 1692 = .ok (.iaload, 1) := by decide +kernel
theorem dL_law_1693 : decode cL_law 1693 = .ok (.ifCond .eq 7, 3) := by decide +kernel
theorem dL_law_1696 : decode cL_law 1696 = .ok (.iconst 1, 1) := by decide +kernel
theorem dL_law_1697 : decode cL_law 1697 = .ok (.goto 4, 3) := by decide +kernel
theorem dL_law_1700 : decode cL_law 1700 = .ok (.iconst 0, 1) := by decide +kernel
theorem dL_law_1701 : decode cL_law 1701 = .ok (.aload_n 3, 1) := by decide +kernel
theorem dL_law_1702 : decode cL_law 1702 = .ok (.invokestatic 256, 3) := by decide +kernel
theorem dL_law_1705 : decode cL_law 1705 = .ok (.istore 6, 2) := by decide +kernel
theorem dL_law_1707 : decode cL_law 1707 = .ok (.aload_n 2, 1) := by decide +kernel
theorem dL_law_1708 : decode cL_law 1708 = .ok (.aload_n 0, 1) := by decide +kernel
theorem dL_law_1709 : decode cL_law 1709 = .ok (.iload 5, 2) := by decide +kernel
theorem dL_law_1711 : decode cL_law 1711 = .ok (.iconst 1, 1) := by decide +kernel
theorem dL_law_1712 : decode cL_law 1712 = .ok (.iadd, 1) := by decide +kernel
theorem dL_law_1713 : decode cL_law 1713 = .ok (.iaload, 1) := by decide +kernel
theorem dL_law_1714 : decode cL_law 1714 = .ok (.aload_n 0, 1) := by decide +kernel
theorem dL_law_1715 : decode cL_law 1715 = .ok (.iload 5, 2) := by decide +kernel
theorem dL_law_1717 : decode cL_law 1717 = .ok (.iconst 2, 1) := by decide +kernel
theorem dL_law_1718 : decode cL_law 1718 = .ok (.iadd, 1) := by decide +kernel
theorem dL_law_1719 : decode cL_law 1719 = .ok (.iaload, 1) := by decide +kernel
theorem dL_law_1720 : decode cL_law 1720 = .ok (.aload_n 0, 1) := by decide +kernel
theorem dL_law_1721 : decode cL_law 1721 = .ok (.iload 5, 2) := by decide +kernel
theorem dL_law_1723 : decode cL_law 1723 = .ok (.iconst 3, 1) := by decide +kernel
theorem dL_law_1724 : decode cL_law 1724 = .ok (.iadd, 1) := by decide +kernel
theorem dL_law_1725 : decode cL_law 1725 = .ok (.iaload, 1) := by decide +kernel
theorem dL_law_1726 : decode cL_law 1726 = .ok (.ifCond .eq 7, 3) := by decide +kernel
theorem dL_law_1729 : decode cL_law 1729 = .ok (.iconst 1, 1) := by decide +kernel
theorem dL_law_1730 : decode cL_law 1730 = .ok (.goto 4, 3) := by decide +kernel
theorem dL_law_1733 : decode cL_law 1733 = .ok (.iconst 0, 1) := by decide +kernel
theorem dL_law_1734 : decode cL_law 1734 = .ok (.invokevirtual 259, 3) := by decide +kernel
theorem dL_law_1737 : decode cL_law 1737 = .ok (.istore 7, 2) := by decide +kernel
theorem dL_law_1739 : decode cL_law 1739 = .ok (.aload_n 2, 1) := by decide +kernel
theorem dL_law_1740 : decode cL_law 1740 = .ok (.invokevirtual 186, 3) := by decide +kernel
theorem dL_law_1743 : decode cL_law 1743 = .ok (.iload 6, 2) := by decide +kernel
theorem dL_law_1745 : decode cL_law 1745 = .ok (.if_icmp .eq 5, 3) := by decide +kernel
theorem dL_law_1748 : decode cL_law 1748 = .ok (.iconst 0, 1) := by decide +kernel
theorem dL_law_1749 : decode cL_law 1749 = .ok (.ireturn, 1) := by decide +kernel
theorem dL_law_1750 : decode cL_law 1750 = .ok (.iload 6, 2) := by decide +kernel
theorem dL_law_1752 : decode cL_law 1752 = .ok (.ifCond .ne 15, 3) := by decide +kernel
theorem dL_law_1755 : decode cL_law 1755 = .ok (.aload_n 3, 1) := by decide +kernel
theorem dL_law_1756 : decode cL_law 1756 = .ok (.iconst 0, 1) := by decide +kernel
theorem dL_law_1757 : decode cL_law 1757 = .ok (.laload, 1) := by decide +kernel
theorem dL_law_1758 : decode cL_law 1758 = .ok (.iload 7, 2) := by decide +kernel
theorem dL_law_1760 : decode cL_law 1760 = .ok (.i2l, 1) := by decide +kernel
theorem dL_law_1761 : decode cL_law 1761 = .ok (.lcmp, 1) := by decide +kernel
theorem dL_law_1762 : decode cL_law 1762 = .ok (.ifCond .eq 5, 3) := by decide +kernel
theorem dL_law_1765 : decode cL_law 1765 = .ok (.iconst 0, 1) := by decide +kernel
theorem dL_law_1766 : decode cL_law 1766 = .ok (.ireturn, 1) := by decide +kernel
theorem dL_law_1767 : decode cL_law 1767 = .ok (.goto 1706, 3) := by decide +kernel
set_option maxRecDepth 100000 in
set_option maxHeartbeats 4000000 in
theorem lc22_ok {G : GT} {b L A B : Nat} {xs : Nat → Int32} {μ : Mem} {i : Int32} {N : Mem → Prop} (C : PCx G cL_law 9 RL) (hX : Scr G b L xs) (hHR : HR G 11) (hN : ∀ μ : Mem, N μ → PW G A B 3473 [some (pW (.ref b)), some (pR 40 0), some (pR 50 0), some (pR 80 0), some (pR 81 0), some (pI i), none, none, none] [] μ) (hk : lc22_wp xs L μ i N) : PW G (A + 2) (B + 12) 1674 [some (pW (.ref b)), some (pR 40 0), some (pR 50 0), some (pR 80 0), some (pR 81 0), some (pI i), none, none, none] [] μ := by
  unfold lc22_wp at hk
  refine px_aload_n (i := 1) C dL_law_1674 rfl rfl ?_
  refine px_aload_nw (i := 0) C dL_law_1675 rfl rfl ?_
  refine px_iload (i := 5) C dL_law_1676 rfl ?_
  refine px_iconst (v := (1 : Int32)) C dL_law_1678 rfl ?_
  refine px_iadd C dL_law_1679 ?_
  obtain ⟨o1, hk⟩ := hk
  refine px_sld C hX dL_law_1680 o1 ?_
  refine px_aload_nw (i := 0) C dL_law_1681 rfl rfl ?_
  refine px_iload (i := 5) C dL_law_1682 rfl ?_
  refine px_iconst (v := (2 : Int32)) C dL_law_1684 rfl ?_
  refine px_iadd C dL_law_1685 ?_
  obtain ⟨o2, hk⟩ := hk
  refine px_sld C hX dL_law_1686 o2 ?_
  refine px_aload_nw (i := 0) C dL_law_1687 rfl rfl ?_
  refine px_iload (i := 5) C dL_law_1688 rfl ?_
  refine px_iconst (v := (3 : Int32)) C dL_law_1690 rfl ?_
  refine px_iadd C dL_law_1691 ?_
  obtain ⟨o3, hk⟩ := hk
  refine px_sld C hX dL_law_1692 o3 ?_
  refine px_if_eq (tgt := 1700) C dL_law_1693 (by decide) (fun c52 => ?_) (fun c52 => ?_)
  · replace hk := hk.1 c52
    refine px_iconst (v := (0 : Int32)) C dL_law_1700 rfl ?_
    refine px_aload_n (i := 3) C dL_law_1701 rfl rfl ?_
    refine px_callSH (h := 10) (rc' := A + 0) (rs' := B + 0) C (HR_le hHR (Nat.le_of_ble_eq_true rfl)) dL_law_1702 (gw4 215 rfl rfl) ms_L_missing (L_missing_ok (PCx_l C) (PCx_I C) hk) rfl rfl (Nat.le_of_ble_eq_true rfl) (Nat.le_of_ble_eq_true rfl) (by omega) (by omega) ?_
    intro r5 μ4 hk
    refine px_istore (i := 6) C dL_law_1705 (by decide) rfl ?_
    refine px_aload_n (i := 2) C dL_law_1707 rfl rfl ?_
    refine px_aload_nw (i := 0) C dL_law_1708 rfl rfl ?_
    refine px_iload (i := 5) C dL_law_1709 rfl ?_
    refine px_iconst (v := (1 : Int32)) C dL_law_1711 rfl ?_
    refine px_iadd C dL_law_1712 ?_
    obtain ⟨o6, hk⟩ := hk
    refine px_sld C hX dL_law_1713 o6 ?_
    refine px_aload_nw (i := 0) C dL_law_1714 rfl rfl ?_
    refine px_iload (i := 5) C dL_law_1715 rfl ?_
    refine px_iconst (v := (2 : Int32)) C dL_law_1717 rfl ?_
    refine px_iadd C dL_law_1718 ?_
    obtain ⟨o7, hk⟩ := hk
    refine px_sld C hX dL_law_1719 o7 ?_
    refine px_aload_nw (i := 0) C dL_law_1720 rfl rfl ?_
    refine px_iload (i := 5) C dL_law_1721 rfl ?_
    refine px_iconst (v := (3 : Int32)) C dL_law_1723 rfl ?_
    refine px_iadd C dL_law_1724 ?_
    obtain ⟨o8, hk⟩ := hk
    refine px_sld C hX dL_law_1725 o8 ?_
    refine px_if_eq (tgt := 1733) C dL_law_1726 (by decide) (fun c27 => ?_) (fun c27 => ?_)
    · replace hk := hk.1 c27
      refine px_iconst (v := (0 : Int32)) C dL_law_1733 rfl ?_
      refine px_callVNi (h := 8) (rc' := A + 0) (rs' := B + 0) C (HR_le hHR (Nat.le_of_ble_eq_true rfl)) dL_law_1734 (gw9 110 rfl rfl) mv_X9_missing (w9_missing_ok (PCx_l C) (PCx_I C) hk) rfl rfl rfl rfl rfl (Nat.le_of_ble_eq_true rfl) (Nat.le_of_ble_eq_true rfl) (by omega) (by omega) ?_
      intro r10 μ9 hk
      refine px_istore (i := 7) C dL_law_1737 (by decide) rfl ?_
      refine px_aload_n (i := 2) C dL_law_1739 rfl rfl ?_
      refine px_callVNi (h := 0) (rc' := A + 0) (rs' := B + 0) C (HR_le hHR (Nat.le_of_ble_eq_true rfl)) dL_law_1740 (gw8 123 rfl rfl) mv_X9_thrown (w9_thrown_ok (PCx_l C) (PCx_I C) hk) rfl rfl rfl rfl rfl (Nat.le_of_ble_eq_true rfl) (Nat.le_of_ble_eq_true rfl) (by omega) (by omega) ?_
      intro r12 μ11 hk
      refine px_iload (i := 6) C dL_law_1743 rfl ?_
      refine px_icmp_eq (tgt := 1750) C dL_law_1745 (by decide) (fun c17 => ?_) (fun c17 => ?_)
      · replace hk := hk.1 c17
        refine px_iload (i := 6) C dL_law_1750 rfl ?_
        refine px_if_ne (tgt := 1767) C dL_law_1752 (by decide) (fun c16 => ?_) (fun c16 => ?_)
        · replace hk := hk.1 c16
          refine px_goto (tgt := 3473) C dL_law_1767 (by decide) ?_
          exact PW_at (hN _ hk) (And.intro rfl (And.intro rfl (And.intro rfl (And.intro rfl (And.intro rfl (And.intro rfl trivial)))))) (by omega) (by omega)
        · replace hk := hk.2 c16
          refine px_aload_n (i := 3) C dL_law_1755 rfl rfl ?_
          refine px_iconst (v := (0 : Int32)) C dL_law_1756 rfl ?_
          obtain ⟨o13, hk⟩ := hk
          refine px_lald 5120 C dL_law_1757 rfl rfl rfl rfl o13 ?_
          refine px_iload (i := 7) C dL_law_1758 rfl ?_
          refine px_i2l C dL_law_1760 ?_
          obtain ⟨o14, hk⟩ := hk
          refine px_lcmp C dL_law_1761 o14 ?_
          refine px_if_eq (tgt := 1767) C dL_law_1762 (by decide) (fun c15 => ?_) (fun c15 => ?_)
          · replace hk := hk.1 c15
            refine px_goto (tgt := 3473) C dL_law_1767 (by decide) ?_
            exact PW_at (hN _ hk) (And.intro rfl (And.intro rfl (And.intro rfl (And.intro rfl (And.intro rfl (And.intro rfl trivial)))))) (by omega) (by omega)
          · replace hk := hk.2 c15
            refine px_iconst (v := (0 : Int32)) C dL_law_1765 rfl ?_
            exact hk.elim
      · replace hk := hk.2 c17
        refine px_iconst (v := (0 : Int32)) C dL_law_1748 rfl ?_
        exact hk.elim
    · replace hk := hk.2 c27
      refine px_iconst (v := (1 : Int32)) C dL_law_1729 rfl ?_
      refine px_goto (tgt := 1734) C dL_law_1730 (by decide) ?_
      refine px_callVNi (h := 8) (rc' := A + 0) (rs' := B + 0) C (HR_le hHR (Nat.le_of_ble_eq_true rfl)) dL_law_1734 (gw9 110 rfl rfl) mv_X9_missing (w9_missing_ok (PCx_l C) (PCx_I C) hk) rfl rfl rfl rfl rfl (Nat.le_of_ble_eq_true rfl) (Nat.le_of_ble_eq_true rfl) (by omega) (by omega) ?_
      intro r19 μ18 hk
      refine px_istore (i := 7) C dL_law_1737 (by decide) rfl ?_
      refine px_aload_n (i := 2) C dL_law_1739 rfl rfl ?_
      refine px_callVNi (h := 0) (rc' := A + 0) (rs' := B + 0) C (HR_le hHR (Nat.le_of_ble_eq_true rfl)) dL_law_1740 (gw8 123 rfl rfl) mv_X9_thrown (w9_thrown_ok (PCx_l C) (PCx_I C) hk) rfl rfl rfl rfl rfl (Nat.le_of_ble_eq_true rfl) (Nat.le_of_ble_eq_true rfl) (by omega) (by omega) ?_
      intro r21 μ20 hk
      refine px_iload (i := 6) C dL_law_1743 rfl ?_
      refine px_icmp_eq (tgt := 1750) C dL_law_1745 (by decide) (fun c26 => ?_) (fun c26 => ?_)
      · replace hk := hk.1 c26
        refine px_iload (i := 6) C dL_law_1750 rfl ?_
        refine px_if_ne (tgt := 1767) C dL_law_1752 (by decide) (fun c25 => ?_) (fun c25 => ?_)
        · replace hk := hk.1 c25
          refine px_goto (tgt := 3473) C dL_law_1767 (by decide) ?_
          exact PW_at (hN _ hk) (And.intro rfl (And.intro rfl (And.intro rfl (And.intro rfl (And.intro rfl (And.intro rfl trivial)))))) (by omega) (by omega)
        · replace hk := hk.2 c25
          refine px_aload_n (i := 3) C dL_law_1755 rfl rfl ?_
          refine px_iconst (v := (0 : Int32)) C dL_law_1756 rfl ?_
          obtain ⟨o22, hk⟩ := hk
          refine px_lald 5120 C dL_law_1757 rfl rfl rfl rfl o22 ?_
          refine px_iload (i := 7) C dL_law_1758 rfl ?_
          refine px_i2l C dL_law_1760 ?_
          obtain ⟨o23, hk⟩ := hk
          refine px_lcmp C dL_law_1761 o23 ?_
          refine px_if_eq (tgt := 1767) C dL_law_1762 (by decide) (fun c24 => ?_) (fun c24 => ?_)
          · replace hk := hk.1 c24
            refine px_goto (tgt := 3473) C dL_law_1767 (by decide) ?_
            exact PW_at (hN _ hk) (And.intro rfl (And.intro rfl (And.intro rfl (And.intro rfl (And.intro rfl (And.intro rfl trivial)))))) (by omega) (by omega)
          · replace hk := hk.2 c24
            refine px_iconst (v := (0 : Int32)) C dL_law_1765 rfl ?_
            exact hk.elim
      · replace hk := hk.2 c26
        refine px_iconst (v := (0 : Int32)) C dL_law_1748 rfl ?_
        exact hk.elim
  · replace hk := hk.2 c52
    refine px_iconst (v := (1 : Int32)) C dL_law_1696 rfl ?_
    refine px_goto (tgt := 1701) C dL_law_1697 (by decide) ?_
    refine px_aload_n (i := 3) C dL_law_1701 rfl rfl ?_
    refine px_callSH (h := 10) (rc' := A + 0) (rs' := B + 0) C (HR_le hHR (Nat.le_of_ble_eq_true rfl)) dL_law_1702 (gw4 215 rfl rfl) ms_L_missing (L_missing_ok (PCx_l C) (PCx_I C) hk) rfl rfl (Nat.le_of_ble_eq_true rfl) (Nat.le_of_ble_eq_true rfl) (by omega) (by omega) ?_
    intro r29 μ28 hk
    refine px_istore (i := 6) C dL_law_1705 (by decide) rfl ?_
    refine px_aload_n (i := 2) C dL_law_1707 rfl rfl ?_
    refine px_aload_nw (i := 0) C dL_law_1708 rfl rfl ?_
    refine px_iload (i := 5) C dL_law_1709 rfl ?_
    refine px_iconst (v := (1 : Int32)) C dL_law_1711 rfl ?_
    refine px_iadd C dL_law_1712 ?_
    obtain ⟨o30, hk⟩ := hk
    refine px_sld C hX dL_law_1713 o30 ?_
    refine px_aload_nw (i := 0) C dL_law_1714 rfl rfl ?_
    refine px_iload (i := 5) C dL_law_1715 rfl ?_
    refine px_iconst (v := (2 : Int32)) C dL_law_1717 rfl ?_
    refine px_iadd C dL_law_1718 ?_
    obtain ⟨o31, hk⟩ := hk
    refine px_sld C hX dL_law_1719 o31 ?_
    refine px_aload_nw (i := 0) C dL_law_1720 rfl rfl ?_
    refine px_iload (i := 5) C dL_law_1721 rfl ?_
    refine px_iconst (v := (3 : Int32)) C dL_law_1723 rfl ?_
    refine px_iadd C dL_law_1724 ?_
    obtain ⟨o32, hk⟩ := hk
    refine px_sld C hX dL_law_1725 o32 ?_
    refine px_if_eq (tgt := 1733) C dL_law_1726 (by decide) (fun c51 => ?_) (fun c51 => ?_)
    · replace hk := hk.1 c51
      refine px_iconst (v := (0 : Int32)) C dL_law_1733 rfl ?_
      refine px_callVNi (h := 8) (rc' := A + 0) (rs' := B + 0) C (HR_le hHR (Nat.le_of_ble_eq_true rfl)) dL_law_1734 (gw9 110 rfl rfl) mv_X9_missing (w9_missing_ok (PCx_l C) (PCx_I C) hk) rfl rfl rfl rfl rfl (Nat.le_of_ble_eq_true rfl) (Nat.le_of_ble_eq_true rfl) (by omega) (by omega) ?_
      intro r34 μ33 hk
      refine px_istore (i := 7) C dL_law_1737 (by decide) rfl ?_
      refine px_aload_n (i := 2) C dL_law_1739 rfl rfl ?_
      refine px_callVNi (h := 0) (rc' := A + 0) (rs' := B + 0) C (HR_le hHR (Nat.le_of_ble_eq_true rfl)) dL_law_1740 (gw8 123 rfl rfl) mv_X9_thrown (w9_thrown_ok (PCx_l C) (PCx_I C) hk) rfl rfl rfl rfl rfl (Nat.le_of_ble_eq_true rfl) (Nat.le_of_ble_eq_true rfl) (by omega) (by omega) ?_
      intro r36 μ35 hk
      refine px_iload (i := 6) C dL_law_1743 rfl ?_
      refine px_icmp_eq (tgt := 1750) C dL_law_1745 (by decide) (fun c41 => ?_) (fun c41 => ?_)
      · replace hk := hk.1 c41
        refine px_iload (i := 6) C dL_law_1750 rfl ?_
        refine px_if_ne (tgt := 1767) C dL_law_1752 (by decide) (fun c40 => ?_) (fun c40 => ?_)
        · replace hk := hk.1 c40
          refine px_goto (tgt := 3473) C dL_law_1767 (by decide) ?_
          exact PW_at (hN _ hk) (And.intro rfl (And.intro rfl (And.intro rfl (And.intro rfl (And.intro rfl (And.intro rfl trivial)))))) (by omega) (by omega)
        · replace hk := hk.2 c40
          refine px_aload_n (i := 3) C dL_law_1755 rfl rfl ?_
          refine px_iconst (v := (0 : Int32)) C dL_law_1756 rfl ?_
          obtain ⟨o37, hk⟩ := hk
          refine px_lald 5120 C dL_law_1757 rfl rfl rfl rfl o37 ?_
          refine px_iload (i := 7) C dL_law_1758 rfl ?_
          refine px_i2l C dL_law_1760 ?_
          obtain ⟨o38, hk⟩ := hk
          refine px_lcmp C dL_law_1761 o38 ?_
          refine px_if_eq (tgt := 1767) C dL_law_1762 (by decide) (fun c39 => ?_) (fun c39 => ?_)
          · replace hk := hk.1 c39
            refine px_goto (tgt := 3473) C dL_law_1767 (by decide) ?_
            exact PW_at (hN _ hk) (And.intro rfl (And.intro rfl (And.intro rfl (And.intro rfl (And.intro rfl (And.intro rfl trivial)))))) (by omega) (by omega)
          · replace hk := hk.2 c39
            refine px_iconst (v := (0 : Int32)) C dL_law_1765 rfl ?_
            exact hk.elim
      · replace hk := hk.2 c41
        refine px_iconst (v := (0 : Int32)) C dL_law_1748 rfl ?_
        exact hk.elim
    · replace hk := hk.2 c51
      refine px_iconst (v := (1 : Int32)) C dL_law_1729 rfl ?_
      refine px_goto (tgt := 1734) C dL_law_1730 (by decide) ?_
      refine px_callVNi (h := 8) (rc' := A + 0) (rs' := B + 0) C (HR_le hHR (Nat.le_of_ble_eq_true rfl)) dL_law_1734 (gw9 110 rfl rfl) mv_X9_missing (w9_missing_ok (PCx_l C) (PCx_I C) hk) rfl rfl rfl rfl rfl (Nat.le_of_ble_eq_true rfl) (Nat.le_of_ble_eq_true rfl) (by omega) (by omega) ?_
      intro r43 μ42 hk
      refine px_istore (i := 7) C dL_law_1737 (by decide) rfl ?_
      refine px_aload_n (i := 2) C dL_law_1739 rfl rfl ?_
      refine px_callVNi (h := 0) (rc' := A + 0) (rs' := B + 0) C (HR_le hHR (Nat.le_of_ble_eq_true rfl)) dL_law_1740 (gw8 123 rfl rfl) mv_X9_thrown (w9_thrown_ok (PCx_l C) (PCx_I C) hk) rfl rfl rfl rfl rfl (Nat.le_of_ble_eq_true rfl) (Nat.le_of_ble_eq_true rfl) (by omega) (by omega) ?_
      intro r45 μ44 hk
      refine px_iload (i := 6) C dL_law_1743 rfl ?_
      refine px_icmp_eq (tgt := 1750) C dL_law_1745 (by decide) (fun c50 => ?_) (fun c50 => ?_)
      · replace hk := hk.1 c50
        refine px_iload (i := 6) C dL_law_1750 rfl ?_
        refine px_if_ne (tgt := 1767) C dL_law_1752 (by decide) (fun c49 => ?_) (fun c49 => ?_)
        · replace hk := hk.1 c49
          refine px_goto (tgt := 3473) C dL_law_1767 (by decide) ?_
          exact PW_at (hN _ hk) (And.intro rfl (And.intro rfl (And.intro rfl (And.intro rfl (And.intro rfl (And.intro rfl trivial)))))) (by omega) (by omega)
        · replace hk := hk.2 c49
          refine px_aload_n (i := 3) C dL_law_1755 rfl rfl ?_
          refine px_iconst (v := (0 : Int32)) C dL_law_1756 rfl ?_
          obtain ⟨o46, hk⟩ := hk
          refine px_lald 5120 C dL_law_1757 rfl rfl rfl rfl o46 ?_
          refine px_iload (i := 7) C dL_law_1758 rfl ?_
          refine px_i2l C dL_law_1760 ?_
          obtain ⟨o47, hk⟩ := hk
          refine px_lcmp C dL_law_1761 o47 ?_
          refine px_if_eq (tgt := 1767) C dL_law_1762 (by decide) (fun c48 => ?_) (fun c48 => ?_)
          · replace hk := hk.1 c48
            refine px_goto (tgt := 3473) C dL_law_1767 (by decide) ?_
            exact PW_at (hN _ hk) (And.intro rfl (And.intro rfl (And.intro rfl (And.intro rfl (And.intro rfl (And.intro rfl trivial)))))) (by omega) (by omega)
          · replace hk := hk.2 c48
            refine px_iconst (v := (0 : Int32)) C dL_law_1765 rfl ?_
            exact hk.elim
      · replace hk := hk.2 c50
        refine px_iconst (v := (0 : Int32)) C dL_law_1748 rfl ?_
        exact hk.elim
theorem dL_law_1770 : decode cL_law 1770 = .ok (.aload_n 1, 1) := by decide +kernel
theorem dL_law_1771 : decode cL_law 1771 = .ok (.invokevirtual 260, 3) := by decide +kernel
theorem dL_law_1774 : decode cL_law 1774 = .ok (.aload_n 2, 1) := by decide +kernel
theorem dL_law_1775 : decode cL_law 1775 = .ok (.invokevirtual 263, 3) := by decide +kernel
theorem dL_law_1778 : decode cL_law 1778 = .ok (.if_icmp .eq 1695, 3) := by decide +kernel
theorem dL_law_1781 : decode cL_law 1781 = .ok (.iconst 0, 1) := by decide +kernel
theorem dL_law_1782 : decode cL_law 1782 = .ok (.ireturn, 1) := by decide +kernel
set_option maxRecDepth 100000 in
set_option maxHeartbeats 4000000 in
theorem lc23_ok {G : GT} {b L A B : Nat} {xs : Nat → Int32} {μ : Mem} {i : Int32} {N : Mem → Prop} (C : PCx G cL_law 9 RL) (hX : Scr G b L xs) (hHR : HR G 7) (hN : ∀ μ : Mem, N μ → PW G A B 3473 [some (pW (.ref b)), some (pR 40 0), some (pR 50 0), some (pR 80 0), some (pR 81 0), some (pI i), none, none, none] [] μ) (hk : lc23_wp xs L μ i N) : PW G (A + 0) (B + 0) 1770 [some (pW (.ref b)), some (pR 40 0), some (pR 50 0), some (pR 80 0), some (pR 81 0), some (pI i), none, none, none] [] μ := by
  unfold lc23_wp at hk
  refine px_aload_n (i := 1) C dL_law_1770 rfl rfl ?_
  refine px_callVNi (h := 5) (rc' := A + 0) (rs' := B + 0) C (HR_le hHR (Nat.le_of_ble_eq_true rfl)) dL_law_1771 (gw3 20 rfl rfl) mv_X8_cutCount (w8_cutCount_ok (PCx_l C) (PCx_I C) hk) rfl rfl rfl rfl rfl (Nat.le_of_ble_eq_true rfl) (Nat.le_of_ble_eq_true rfl) (by omega) (by omega) ?_
  intro r2 μ1 hk
  refine px_aload_n (i := 2) C dL_law_1774 rfl rfl ?_
  refine px_callVNi (h := 6) (rc' := A + 0) (rs' := B + 0) C (HR_le hHR (Nat.le_of_ble_eq_true rfl)) dL_law_1775 (gw9 122 rfl rfl) mv_X9_cutCount (w9_cutCount_ok (PCx_l C) (PCx_I C) hk) rfl rfl rfl rfl rfl (Nat.le_of_ble_eq_true rfl) (Nat.le_of_ble_eq_true rfl) (by omega) (by omega) ?_
  intro r4 μ3 hk
  refine px_icmp_eq (tgt := 3473) C dL_law_1778 (by decide) (fun c5 => ?_) (fun c5 => ?_)
  · replace hk := hk.1 c5
    exact PW_at (hN _ hk) (And.intro rfl (And.intro rfl (And.intro rfl (And.intro rfl (And.intro rfl (And.intro rfl trivial)))))) (by omega) (by omega)
  · replace hk := hk.2 c5
    refine px_iconst (v := (0 : Int32)) C dL_law_1781 rfl ?_
    exact hk.elim
theorem dL_law_1783 : decode cL_law 1783 = .ok (.aload_n 1, 1) := by decide +kernel
theorem dL_law_1784 : decode cL_law 1784 = .ok (.aload_n 0, 1) := by decide +kernel
theorem dL_law_1785 : decode cL_law 1785 = .ok (.iload 5, 2) := by decide +kernel
theorem dL_law_1787 : decode cL_law 1787 = .ok (.iconst 1, 1) := by decide +kernel
theorem dL_law_1788 : decode cL_law 1788 = .ok (.iadd, 1) := by decide +kernel
theorem dL_law_1789 : decode cL_law 1789 = .ok (.iaload, 1) := by decide +kernel
theorem dL_law_1790 : decode cL_law 1790 = .ok (.aload_n 0, 1) := by decide +kernel
theorem dL_law_1791 : decode cL_law 1791 = .ok (.iload 5, 2) := by decide +kernel
theorem dL_law_1793 : decode cL_law 1793 = .ok (.iconst 2, 1) := by decide +kernel
theorem dL_law_1794 : decode cL_law 1794 = .ok (.iadd, 1) := by decide +kernel
theorem dL_law_1795 : decode cL_law 1795 = .ok (.iaload, 1) := by decide +kernel
theorem dL_law_1796 : decode cL_law 1796 = .ok (.aload_n 3, 1) := by decide +kernel
theorem dL_law_1797 : decode cL_law 1797 = .ok (.invokestatic 264, 3) := by decide +kernel
theorem dL_law_1800 : decode cL_law 1800 = .ok (.istore 6, 2) := by decide +kernel
theorem dL_law_1802 : decode cL_law 1802 = .ok (.aload_n 2, 1) := by decide +kernel
theorem dL_law_1803 : decode cL_law 1803 = .ok (.aload_n 0, 1) := by decide +kernel
theorem dL_law_1804 : decode cL_law 1804 = .ok (.iload 5, 2) := by decide +kernel
theorem dL_law_1806 : decode cL_law 1806 = .ok (.iconst 1, 1) := by decide +kernel
theorem dL_law_1807 : decode cL_law 1807 = .ok (.iadd, 1) := by decide +kernel
theorem dL_law_1808 : decode cL_law 1808 = .ok (.iaload, 1) := by decide +kernel
theorem dL_law_1809 : decode cL_law 1809 = .ok (.aload_n 0, 1) := by decide +kernel
theorem dL_law_1810 : decode cL_law 1810 = .ok (.iload 5, 2) := by decide +kernel
theorem dL_law_1812 : decode cL_law 1812 = .ok (.iconst 2, 1) := by decide +kernel
theorem dL_law_1813 : decode cL_law 1813 = .ok (.iadd, 1) := by decide +kernel
theorem dL_law_1814 : decode cL_law 1814 = .ok (.iaload, 1) := by decide +kernel
theorem dL_law_1815 : decode cL_law 1815 = .ok (.invokevirtual 266, 3) := by decide +kernel
theorem dL_law_1818 : decode cL_law 1818 = .ok (.istore 7, 2) := by decide +kernel
theorem dL_law_1820 : decode cL_law 1820 = .ok (.aload_n 2, 1) := by decide +kernel
theorem dL_law_1821 : decode cL_law 1821 = .ok (.invokevirtual 186, 3) := by decide +kernel
theorem dL_law_1824 : decode cL_law 1824 = .ok (.iload 6, 2) := by decide +kernel
theorem dL_law_1826 : decode cL_law 1826 = .ok (.if_icmp .eq 5, 3) := by decide +kernel
theorem dL_law_1829 : decode cL_law 1829 = .ok (.iconst 0, 1) := by decide +kernel
theorem dL_law_1830 : decode cL_law 1830 = .ok (.ireturn, 1) := by decide +kernel
theorem dL_law_1831 : decode cL_law 1831 = .ok (.iload 6, 2) := by decide +kernel
theorem dL_law_1833 : decode cL_law 1833 = .ok (.ifCond .ne 15, 3) := by decide +kernel
theorem dL_law_1836 : decode cL_law 1836 = .ok (.aload_n 3, 1) := by decide +kernel
theorem dL_law_1837 : decode cL_law 1837 = .ok (.iconst 0, 1) := by decide +kernel
theorem dL_law_1838 : decode cL_law 1838 = .ok (.laload, 1) := by decide +kernel
theorem dL_law_1839 : decode cL_law 1839 = .ok (.iload 7, 2) := by decide +kernel
theorem dL_law_1841 : decode cL_law 1841 = .ok (.i2l, 1) := by decide +kernel
theorem dL_law_1842 : decode cL_law 1842 = .ok (.lcmp, 1) := by decide +kernel
theorem dL_law_1843 : decode cL_law 1843 = .ok (.ifCond .eq 5, 3) := by decide +kernel
theorem dL_law_1846 : decode cL_law 1846 = .ok (.iconst 0, 1) := by decide +kernel
theorem dL_law_1847 : decode cL_law 1847 = .ok (.ireturn, 1) := by decide +kernel
theorem dL_law_1848 : decode cL_law 1848 = .ok (.goto 1625, 3) := by decide +kernel
set_option maxRecDepth 100000 in
set_option maxHeartbeats 4000000 in
theorem lc24_ok {G : GT} {b L A B : Nat} {xs : Nat → Int32} {μ : Mem} {i : Int32} {N : Mem → Prop} (C : PCx G cL_law 9 RL) (hX : Scr G b L xs) (hHR : HR G 66) (hN : ∀ μ : Mem, N μ → PW G A B 3473 [some (pW (.ref b)), some (pR 40 0), some (pR 50 0), some (pR 80 0), some (pR 81 0), some (pI i), none, none, none] [] μ) (hk : lc24_wp xs L μ i N) : PW G (A + 2) (B + 12) 1783 [some (pW (.ref b)), some (pR 40 0), some (pR 50 0), some (pR 80 0), some (pR 81 0), some (pI i), none, none, none] [] μ := by
  unfold lc24_wp at hk
  refine px_aload_n (i := 1) C dL_law_1783 rfl rfl ?_
  refine px_aload_nw (i := 0) C dL_law_1784 rfl rfl ?_
  refine px_iload (i := 5) C dL_law_1785 rfl ?_
  refine px_iconst (v := (1 : Int32)) C dL_law_1787 rfl ?_
  refine px_iadd C dL_law_1788 ?_
  obtain ⟨o1, hk⟩ := hk
  refine px_sld C hX dL_law_1789 o1 ?_
  refine px_aload_nw (i := 0) C dL_law_1790 rfl rfl ?_
  refine px_iload (i := 5) C dL_law_1791 rfl ?_
  refine px_iconst (v := (2 : Int32)) C dL_law_1793 rfl ?_
  refine px_iadd C dL_law_1794 ?_
  obtain ⟨o2, hk⟩ := hk
  refine px_sld C hX dL_law_1795 o2 ?_
  refine px_aload_n (i := 3) C dL_law_1796 rfl rfl ?_
  refine px_callSH (h := 11) (rc' := A + 0) (rs' := B + 0) C (HR_le hHR (Nat.le_of_ble_eq_true rfl)) dL_law_1797 (gw4 236 rfl rfl) ms_L_segments (L_segments_ok (PCx_l C) (PCx_I C) hk) rfl rfl (Nat.le_of_ble_eq_true rfl) (Nat.le_of_ble_eq_true rfl) (by omega) (by omega) ?_
  intro r4 μ3 hk
  refine px_istore (i := 6) C dL_law_1800 (by decide) rfl ?_
  refine px_aload_n (i := 2) C dL_law_1802 rfl rfl ?_
  refine px_aload_nw (i := 0) C dL_law_1803 rfl rfl ?_
  refine px_iload (i := 5) C dL_law_1804 rfl ?_
  refine px_iconst (v := (1 : Int32)) C dL_law_1806 rfl ?_
  refine px_iadd C dL_law_1807 ?_
  obtain ⟨o5, hk⟩ := hk
  refine px_sld C hX dL_law_1808 o5 ?_
  refine px_aload_nw (i := 0) C dL_law_1809 rfl rfl ?_
  refine px_iload (i := 5) C dL_law_1810 rfl ?_
  refine px_iconst (v := (2 : Int32)) C dL_law_1812 rfl ?_
  refine px_iadd C dL_law_1813 ?_
  obtain ⟨o6, hk⟩ := hk
  refine px_sld C hX dL_law_1814 o6 ?_
  refine px_callVNi (h := 65) (rc' := A + 0) (rs' := B + 0) C (HR_le hHR (Nat.le_of_ble_eq_true rfl)) dL_law_1815 (gw9 126 rfl rfl) mv_X9_segments (w9_segments_ok (PCx_l C) (PCx_I C) hk) rfl rfl rfl rfl rfl (Nat.le_of_ble_eq_true rfl) (Nat.le_of_ble_eq_true rfl) (by omega) (by omega) ?_
  intro r8 μ7 hk
  refine px_istore (i := 7) C dL_law_1818 (by decide) rfl ?_
  refine px_aload_n (i := 2) C dL_law_1820 rfl rfl ?_
  refine px_callVNi (h := 0) (rc' := A + 0) (rs' := B + 0) C (HR_le hHR (Nat.le_of_ble_eq_true rfl)) dL_law_1821 (gw8 123 rfl rfl) mv_X9_thrown (w9_thrown_ok (PCx_l C) (PCx_I C) hk) rfl rfl rfl rfl rfl (Nat.le_of_ble_eq_true rfl) (Nat.le_of_ble_eq_true rfl) (by omega) (by omega) ?_
  intro r10 μ9 hk
  refine px_iload (i := 6) C dL_law_1824 rfl ?_
  refine px_icmp_eq (tgt := 1831) C dL_law_1826 (by decide) (fun c15 => ?_) (fun c15 => ?_)
  · replace hk := hk.1 c15
    refine px_iload (i := 6) C dL_law_1831 rfl ?_
    refine px_if_ne (tgt := 1848) C dL_law_1833 (by decide) (fun c14 => ?_) (fun c14 => ?_)
    · replace hk := hk.1 c14
      refine px_goto (tgt := 3473) C dL_law_1848 (by decide) ?_
      exact PW_at (hN _ hk) (And.intro rfl (And.intro rfl (And.intro rfl (And.intro rfl (And.intro rfl (And.intro rfl trivial)))))) (by omega) (by omega)
    · replace hk := hk.2 c14
      refine px_aload_n (i := 3) C dL_law_1836 rfl rfl ?_
      refine px_iconst (v := (0 : Int32)) C dL_law_1837 rfl ?_
      obtain ⟨o11, hk⟩ := hk
      refine px_lald 5120 C dL_law_1838 rfl rfl rfl rfl o11 ?_
      refine px_iload (i := 7) C dL_law_1839 rfl ?_
      refine px_i2l C dL_law_1841 ?_
      obtain ⟨o12, hk⟩ := hk
      refine px_lcmp C dL_law_1842 o12 ?_
      refine px_if_eq (tgt := 1848) C dL_law_1843 (by decide) (fun c13 => ?_) (fun c13 => ?_)
      · replace hk := hk.1 c13
        refine px_goto (tgt := 3473) C dL_law_1848 (by decide) ?_
        exact PW_at (hN _ hk) (And.intro rfl (And.intro rfl (And.intro rfl (And.intro rfl (And.intro rfl (And.intro rfl trivial)))))) (by omega) (by omega)
      · replace hk := hk.2 c13
        refine px_iconst (v := (0 : Int32)) C dL_law_1846 rfl ?_
        exact hk.elim
  · replace hk := hk.2 c15
    refine px_iconst (v := (0 : Int32)) C dL_law_1829 rfl ?_
    exact hk.elim
theorem dL_law_1851 : decode cL_law 1851 = .ok (.aload_n 1, 1) := by decide +kernel
theorem dL_law_1852 : decode cL_law 1852 = .ok (.aload_n 0, 1) := by decide +kernel
theorem dL_law_1853 : decode cL_law 1853 = .ok (.iload 5, 2) := by decide +kernel
theorem dL_law_1855 : decode cL_law 1855 = .ok (.iconst 1, 1) := by decide +kernel
theorem dL_law_1856 : decode cL_law 1856 = .ok (.iadd, 1) := by decide +kernel
theorem dL_law_1857 : decode cL_law 1857 = .ok (.iaload, 1) := by decide +kernel
theorem dL_law_1858 : decode cL_law 1858 = .ok (.aload_n 0, 1) := by decide +kernel
theorem dL_law_1859 : decode cL_law 1859 = .ok (.iload 5, 2) := by decide +kernel
theorem dL_law_1861 : decode cL_law 1861 = .ok (.iconst 2, 1) := by decide +kernel
theorem dL_law_1862 : decode cL_law 1862 = .ok (.iadd, 1) := by decide +kernel
theorem dL_law_1863 : decode cL_law 1863 = .ok (.iaload, 1) := by decide +kernel
theorem dL_law_1864 : decode cL_law 1864 = .ok (.aload_n 0, 1) := by decide +kernel
theorem dL_law_1865 : decode cL_law 1865 = .ok (.iload 5, 2) := by decide +kernel
theorem dL_law_1867 : decode cL_law 1867 = .ok (.iconst 3, 1) := by decide +kernel
theorem dL_law_1868 : decode cL_law 1868 = .ok (.iadd, 1) := by decide +kernel
theorem dL_law_1869 : decode cL_law 1869 = .ok (.iaload, 1) := by decide +kernel
theorem dL_law_1870 : decode cL_law 1870 = .ok (.aload_n 0, 1) := by decide +kernel
theorem dL_law_1871 : decode cL_law 1871 = .ok (.iload 5, 2) := by decide +kernel
theorem dL_law_1873 : decode cL_law 1873 = .ok (.iconst 4, 1) := by decide +kernel
theorem dL_law_1874 : decode cL_law 1874 = .ok (.iadd, 1) := by decide +kernel
theorem dL_law_1875 : decode cL_law 1875 = .ok (.iaload, 1) := by decide +kernel
theorem dL_law_1876 : decode cL_law 1876 = .ok (.aload_n 3, 1) := by decide +kernel
theorem dL_law_1877 : decode cL_law 1877 = .ok (.invokestatic 267, 3) := by decide +kernel
theorem dL_law_1880 : decode cL_law 1880 = .ok (.istore 6, 2) := by decide +kernel
theorem dL_law_1882 : decode cL_law 1882 = .ok (.aload_n 2, 1) := by decide +kernel
theorem dL_law_1883 : decode cL_law 1883 = .ok (.aload_n 0, 1) := by decide +kernel
theorem dL_law_1884 : decode cL_law 1884 = .ok (.iload 5, 2) := by decide +kernel
theorem dL_law_1886 : decode cL_law 1886 = .ok (.iconst 1, 1) := by decide +kernel
theorem dL_law_1887 : decode cL_law 1887 = .ok (.iadd, 1) := by decide +kernel
theorem dL_law_1888 : decode cL_law 1888 = .ok (.iaload, 1) := by decide +kernel
theorem dL_law_1889 : decode cL_law 1889 = .ok (.aload_n 0, 1) := by decide +kernel
theorem dL_law_1890 : decode cL_law 1890 = .ok (.iload 5, 2) := by decide +kernel
theorem dL_law_1892 : decode cL_law 1892 = .ok (.iconst 2, 1) := by decide +kernel
theorem dL_law_1893 : decode cL_law 1893 = .ok (.iadd, 1) := by decide +kernel
theorem dL_law_1894 : decode cL_law 1894 = .ok (.iaload, 1) := by decide +kernel
theorem dL_law_1895 : decode cL_law 1895 = .ok (.aload_n 0, 1) := by decide +kernel
theorem dL_law_1896 : decode cL_law 1896 = .ok (.iload 5, 2) := by decide +kernel
theorem dL_law_1898 : decode cL_law 1898 = .ok (.iconst 3, 1) := by decide +kernel
theorem dL_law_1899 : decode cL_law 1899 = .ok (.iadd, 1) := by decide +kernel
theorem dL_law_1900 : decode cL_law 1900 = .ok (.iaload, 1) := by decide +kernel
theorem dL_law_1901 : decode cL_law 1901 = .ok (.aload_n 0, 1) := by decide +kernel
theorem dL_law_1902 : decode cL_law 1902 = .ok (.iload 5, 2) := by decide +kernel
theorem dL_law_1904 : decode cL_law 1904 = .ok (.iconst 4, 1) := by decide +kernel
theorem dL_law_1905 : decode cL_law 1905 = .ok (.iadd, 1) := by decide +kernel
theorem dL_law_1906 : decode cL_law 1906 = .ok (.iaload, 1) := by decide +kernel
theorem dL_law_1907 : decode cL_law 1907 = .ok (.invokevirtual 270, 3) := by decide +kernel
theorem dL_law_1910 : decode cL_law 1910 = .ok (.istore 7, 2) := by decide +kernel
theorem dL_law_1912 : decode cL_law 1912 = .ok (.aload_n 2, 1) := by decide +kernel
theorem dL_law_1913 : decode cL_law 1913 = .ok (.invokevirtual 186, 3) := by decide +kernel
theorem dL_law_1916 : decode cL_law 1916 = .ok (.iload 6, 2) := by decide +kernel
theorem dL_law_1918 : decode cL_law 1918 = .ok (.if_icmp .eq 5, 3) := by decide +kernel
theorem dL_law_1921 : decode cL_law 1921 = .ok (.iconst 0, 1) := by decide +kernel
theorem dL_law_1922 : decode cL_law 1922 = .ok (.ireturn, 1) := by decide +kernel
theorem dL_law_1923 : decode cL_law 1923 = .ok (.iload 6, 2) := by decide +kernel
theorem dL_law_1925 : decode cL_law 1925 = .ok (.ifCond .ne 15, 3) := by decide +kernel
theorem dL_law_1928 : decode cL_law 1928 = .ok (.aload_n 3, 1) := by decide +kernel
theorem dL_law_1929 : decode cL_law 1929 = .ok (.iconst 0, 1) := by decide +kernel
theorem dL_law_1930 : decode cL_law 1930 = .ok (.laload, 1) := by decide +kernel
theorem dL_law_1931 : decode cL_law 1931 = .ok (.iload 7, 2) := by decide +kernel
theorem dL_law_1933 : decode cL_law 1933 = .ok (.i2l, 1) := by decide +kernel
theorem dL_law_1934 : decode cL_law 1934 = .ok (.lcmp, 1) := by decide +kernel
theorem dL_law_1935 : decode cL_law 1935 = .ok (.ifCond .eq 5, 3) := by decide +kernel
theorem dL_law_1938 : decode cL_law 1938 = .ok (.iconst 0, 1) := by decide +kernel
theorem dL_law_1939 : decode cL_law 1939 = .ok (.ireturn, 1) := by decide +kernel
theorem dL_law_1940 : decode cL_law 1940 = .ok (.goto 1533, 3) := by decide +kernel
set_option maxRecDepth 100000 in
set_option maxHeartbeats 4000000 in
theorem lc25_ok {G : GT} {b L A B : Nat} {xs : Nat → Int32} {μ : Mem} {i : Int32} {N : Mem → Prop} (C : PCx G cL_law 9 RL) (hX : Scr G b L xs) (hHR : HR G 66) (hN : ∀ μ : Mem, N μ → PW G A B 3473 [some (pW (.ref b)), some (pR 40 0), some (pR 50 0), some (pR 80 0), some (pR 81 0), some (pI i), none, none, none] [] μ) (hk : lc25_wp xs L μ i N) : PW G (A + 4) (B + 24) 1851 [some (pW (.ref b)), some (pR 40 0), some (pR 50 0), some (pR 80 0), some (pR 81 0), some (pI i), none, none, none] [] μ := by
  unfold lc25_wp at hk
  refine px_aload_n (i := 1) C dL_law_1851 rfl rfl ?_
  refine px_aload_nw (i := 0) C dL_law_1852 rfl rfl ?_
  refine px_iload (i := 5) C dL_law_1853 rfl ?_
  refine px_iconst (v := (1 : Int32)) C dL_law_1855 rfl ?_
  refine px_iadd C dL_law_1856 ?_
  obtain ⟨o1, hk⟩ := hk
  refine px_sld C hX dL_law_1857 o1 ?_
  refine px_aload_nw (i := 0) C dL_law_1858 rfl rfl ?_
  refine px_iload (i := 5) C dL_law_1859 rfl ?_
  refine px_iconst (v := (2 : Int32)) C dL_law_1861 rfl ?_
  refine px_iadd C dL_law_1862 ?_
  obtain ⟨o2, hk⟩ := hk
  refine px_sld C hX dL_law_1863 o2 ?_
  refine px_aload_nw (i := 0) C dL_law_1864 rfl rfl ?_
  refine px_iload (i := 5) C dL_law_1865 rfl ?_
  refine px_iconst (v := (3 : Int32)) C dL_law_1867 rfl ?_
  refine px_iadd C dL_law_1868 ?_
  obtain ⟨o3, hk⟩ := hk
  refine px_sld C hX dL_law_1869 o3 ?_
  refine px_aload_nw (i := 0) C dL_law_1870 rfl rfl ?_
  refine px_iload (i := 5) C dL_law_1871 rfl ?_
  refine px_iconst (v := (4 : Int32)) C dL_law_1873 rfl ?_
  refine px_iadd C dL_law_1874 ?_
  obtain ⟨o4, hk⟩ := hk
  refine px_sld C hX dL_law_1875 o4 ?_
  refine px_aload_n (i := 3) C dL_law_1876 rfl rfl ?_
  refine px_callSH (h := 11) (rc' := A + 0) (rs' := B + 0) C (HR_le hHR (Nat.le_of_ble_eq_true rfl)) dL_law_1877 (gw5 31 rfl rfl) ms_L_segment (L_segment_ok (PCx_l C) (PCx_I C) hk) rfl rfl (Nat.le_of_ble_eq_true rfl) (Nat.le_of_ble_eq_true rfl) (by omega) (by omega) ?_
  intro r6 μ5 hk
  refine px_istore (i := 6) C dL_law_1880 (by decide) rfl ?_
  refine px_aload_n (i := 2) C dL_law_1882 rfl rfl ?_
  refine px_aload_nw (i := 0) C dL_law_1883 rfl rfl ?_
  refine px_iload (i := 5) C dL_law_1884 rfl ?_
  refine px_iconst (v := (1 : Int32)) C dL_law_1886 rfl ?_
  refine px_iadd C dL_law_1887 ?_
  obtain ⟨o7, hk⟩ := hk
  refine px_sld C hX dL_law_1888 o7 ?_
  refine px_aload_nw (i := 0) C dL_law_1889 rfl rfl ?_
  refine px_iload (i := 5) C dL_law_1890 rfl ?_
  refine px_iconst (v := (2 : Int32)) C dL_law_1892 rfl ?_
  refine px_iadd C dL_law_1893 ?_
  obtain ⟨o8, hk⟩ := hk
  refine px_sld C hX dL_law_1894 o8 ?_
  refine px_aload_nw (i := 0) C dL_law_1895 rfl rfl ?_
  refine px_iload (i := 5) C dL_law_1896 rfl ?_
  refine px_iconst (v := (3 : Int32)) C dL_law_1898 rfl ?_
  refine px_iadd C dL_law_1899 ?_
  obtain ⟨o9, hk⟩ := hk
  refine px_sld C hX dL_law_1900 o9 ?_
  refine px_aload_nw (i := 0) C dL_law_1901 rfl rfl ?_
  refine px_iload (i := 5) C dL_law_1902 rfl ?_
  refine px_iconst (v := (4 : Int32)) C dL_law_1904 rfl ?_
  refine px_iadd C dL_law_1905 ?_
  obtain ⟨o10, hk⟩ := hk
  refine px_sld C hX dL_law_1906 o10 ?_
  refine px_callVNi (h := 65) (rc' := A + 0) (rs' := B + 0) C (HR_le hHR (Nat.le_of_ble_eq_true rfl)) dL_law_1907 (gw9 148 rfl rfl) mv_X9_segment (w9_segment_ok (PCx_l C) (PCx_I C) hk) rfl rfl rfl rfl rfl (Nat.le_of_ble_eq_true rfl) (Nat.le_of_ble_eq_true rfl) (by omega) (by omega) ?_
  intro r12 μ11 hk
  refine px_istore (i := 7) C dL_law_1910 (by decide) rfl ?_
  refine px_aload_n (i := 2) C dL_law_1912 rfl rfl ?_
  refine px_callVNi (h := 0) (rc' := A + 0) (rs' := B + 0) C (HR_le hHR (Nat.le_of_ble_eq_true rfl)) dL_law_1913 (gw8 123 rfl rfl) mv_X9_thrown (w9_thrown_ok (PCx_l C) (PCx_I C) hk) rfl rfl rfl rfl rfl (Nat.le_of_ble_eq_true rfl) (Nat.le_of_ble_eq_true rfl) (by omega) (by omega) ?_
  intro r14 μ13 hk
  refine px_iload (i := 6) C dL_law_1916 rfl ?_
  refine px_icmp_eq (tgt := 1923) C dL_law_1918 (by decide) (fun c19 => ?_) (fun c19 => ?_)
  · replace hk := hk.1 c19
    refine px_iload (i := 6) C dL_law_1923 rfl ?_
    refine px_if_ne (tgt := 1940) C dL_law_1925 (by decide) (fun c18 => ?_) (fun c18 => ?_)
    · replace hk := hk.1 c18
      refine px_goto (tgt := 3473) C dL_law_1940 (by decide) ?_
      exact PW_at (hN _ hk) (And.intro rfl (And.intro rfl (And.intro rfl (And.intro rfl (And.intro rfl (And.intro rfl trivial)))))) (by omega) (by omega)
    · replace hk := hk.2 c18
      refine px_aload_n (i := 3) C dL_law_1928 rfl rfl ?_
      refine px_iconst (v := (0 : Int32)) C dL_law_1929 rfl ?_
      obtain ⟨o15, hk⟩ := hk
      refine px_lald 5120 C dL_law_1930 rfl rfl rfl rfl o15 ?_
      refine px_iload (i := 7) C dL_law_1931 rfl ?_
      refine px_i2l C dL_law_1933 ?_
      obtain ⟨o16, hk⟩ := hk
      refine px_lcmp C dL_law_1934 o16 ?_
      refine px_if_eq (tgt := 1940) C dL_law_1935 (by decide) (fun c17 => ?_) (fun c17 => ?_)
      · replace hk := hk.1 c17
        refine px_goto (tgt := 3473) C dL_law_1940 (by decide) ?_
        exact PW_at (hN _ hk) (And.intro rfl (And.intro rfl (And.intro rfl (And.intro rfl (And.intro rfl (And.intro rfl trivial)))))) (by omega) (by omega)
      · replace hk := hk.2 c17
        refine px_iconst (v := (0 : Int32)) C dL_law_1938 rfl ?_
        exact hk.elim
  · replace hk := hk.2 c19
    refine px_iconst (v := (0 : Int32)) C dL_law_1921 rfl ?_
    exact hk.elim
theorem dL_law_1943 : decode cL_law 1943 = .ok (.aload_n 1, 1) := by decide +kernel
theorem dL_law_1944 : decode cL_law 1944 = .ok (.aload_n 0, 1) := by decide +kernel
theorem dL_law_1945 : decode cL_law 1945 = .ok (.iload 5, 2) := by decide +kernel
theorem dL_law_1947 : decode cL_law 1947 = .ok (.iconst 1, 1) := by decide +kernel
theorem dL_law_1948 : decode cL_law 1948 = .ok (.iadd, 1) := by decide +kernel
theorem dL_law_1949 : decode cL_law 1949 = .ok (.iaload, 1) := by decide +kernel
theorem dL_law_1950 : decode cL_law 1950 = .ok (.aload_n 3, 1) := by decide +kernel
theorem dL_law_1951 : decode cL_law 1951 = .ok (.invokestatic 271, 3) := by decide +kernel
theorem dL_law_1954 : decode cL_law 1954 = .ok (.istore 6, 2) := by decide +kernel
theorem dL_law_1956 : decode cL_law 1956 = .ok (.aload_n 2, 1) := by decide +kernel
theorem dL_law_1957 : decode cL_law 1957 = .ok (.aload_n 0, 1) := by decide +kernel
theorem dL_law_1958 : decode cL_law 1958 = .ok (.iload 5, 2) := by decide +kernel
theorem dL_law_1960 : decode cL_law 1960 = .ok (.iconst 1, 1) := by decide +kernel
theorem dL_law_1961 : decode cL_law 1961 = .ok (.iadd, 1) := by decide +kernel
theorem dL_law_1962 : decode cL_law 1962 = .ok (.iaload, 1) := by decide +kernel
theorem dL_law_1963 : decode cL_law 1963 = .ok (.invokevirtual 273, 3) := by decide +kernel
theorem dL_law_1966 : decode cL_law 1966 = .ok (.istore 7, 2) := by decide +kernel
theorem dL_law_1968 : decode cL_law 1968 = .ok (.aload_n 2, 1) := by decide +kernel
theorem dL_law_1969 : decode cL_law 1969 = .ok (.invokevirtual 186, 3) := by decide +kernel
theorem dL_law_1972 : decode cL_law 1972 = .ok (.iload 6, 2) := by decide +kernel
theorem dL_law_1974 : decode cL_law 1974 = .ok (.if_icmp .eq 5, 3) := by decide +kernel
theorem dL_law_1977 : decode cL_law 1977 = .ok (.iconst 0, 1) := by decide +kernel
theorem dL_law_1978 : decode cL_law 1978 = .ok (.ireturn, 1) := by decide +kernel
theorem dL_law_1979 : decode cL_law 1979 = .ok (.iload 6, 2) := by decide +kernel
theorem dL_law_1981 : decode cL_law 1981 = .ok (.ifCond .ne 15, 3) := by decide +kernel
theorem dL_law_1984 : decode cL_law 1984 = .ok (.aload_n 3, 1) := by decide +kernel
theorem dL_law_1985 : decode cL_law 1985 = .ok (.iconst 0, 1) := by decide +kernel
theorem dL_law_1986 : decode cL_law 1986 = .ok (.laload, 1) := by decide +kernel
theorem dL_law_1987 : decode cL_law 1987 = .ok (.iload 7, 2) := by decide +kernel
theorem dL_law_1989 : decode cL_law 1989 = .ok (.i2l, 1) := by decide +kernel
theorem dL_law_1990 : decode cL_law 1990 = .ok (.lcmp, 1) := by decide +kernel
theorem dL_law_1991 : decode cL_law 1991 = .ok (.ifCond .eq 5, 3) := by decide +kernel
theorem dL_law_1994 : decode cL_law 1994 = .ok (.iconst 0, 1) := by decide +kernel
theorem dL_law_1995 : decode cL_law 1995 = .ok (.ireturn, 1) := by decide +kernel
theorem dL_law_1996 : decode cL_law 1996 = .ok (.goto 1477, 3) := by decide +kernel
set_option maxRecDepth 100000 in
set_option maxHeartbeats 4000000 in
theorem lc26_ok {G : GT} {b L A B : Nat} {xs : Nat → Int32} {μ : Mem} {i : Int32} {N : Mem → Prop} (C : PCx G cL_law 9 RL) (hX : Scr G b L xs) (hHR : HR G 67) (hN : ∀ μ : Mem, N μ → PW G A B 3473 [some (pW (.ref b)), some (pR 40 0), some (pR 50 0), some (pR 80 0), some (pR 81 0), some (pI i), none, none, none] [] μ) (hk : lc26_wp xs L μ i N) : PW G (A + 1) (B + 6) 1943 [some (pW (.ref b)), some (pR 40 0), some (pR 50 0), some (pR 80 0), some (pR 81 0), some (pI i), none, none, none] [] μ := by
  unfold lc26_wp at hk
  refine px_aload_n (i := 1) C dL_law_1943 rfl rfl ?_
  refine px_aload_nw (i := 0) C dL_law_1944 rfl rfl ?_
  refine px_iload (i := 5) C dL_law_1945 rfl ?_
  refine px_iconst (v := (1 : Int32)) C dL_law_1947 rfl ?_
  refine px_iadd C dL_law_1948 ?_
  obtain ⟨o1, hk⟩ := hk
  refine px_sld C hX dL_law_1949 o1 ?_
  refine px_aload_n (i := 3) C dL_law_1950 rfl rfl ?_
  refine px_callSH (h := 10) (rc' := A + 0) (rs' := B + 0) C (HR_le hHR (Nat.le_of_ble_eq_true rfl)) dL_law_1951 (gw5 44 rfl rfl) ms_L_criticalTime (L_criticalTime_ok (PCx_l C) (PCx_I C) hk) rfl rfl (Nat.le_of_ble_eq_true rfl) (Nat.le_of_ble_eq_true rfl) (by omega) (by omega) ?_
  intro r3 μ2 hk
  refine px_istore (i := 6) C dL_law_1954 (by decide) rfl ?_
  refine px_aload_n (i := 2) C dL_law_1956 rfl rfl ?_
  refine px_aload_nw (i := 0) C dL_law_1957 rfl rfl ?_
  refine px_iload (i := 5) C dL_law_1958 rfl ?_
  refine px_iconst (v := (1 : Int32)) C dL_law_1960 rfl ?_
  refine px_iadd C dL_law_1961 ?_
  obtain ⟨o4, hk⟩ := hk
  refine px_sld C hX dL_law_1962 o4 ?_
  refine px_callVNi (h := 66) (rc' := A + 0) (rs' := B + 0) C (HR_le hHR (Nat.le_of_ble_eq_true rfl)) dL_law_1963 (gw9 152 rfl rfl) mv_X9_criticalTime (w9_criticalTime_ok (PCx_l C) (PCx_I C) hk) rfl rfl rfl rfl rfl (Nat.le_of_ble_eq_true rfl) (Nat.le_of_ble_eq_true rfl) (by omega) (by omega) ?_
  intro r6 μ5 hk
  refine px_istore (i := 7) C dL_law_1966 (by decide) rfl ?_
  refine px_aload_n (i := 2) C dL_law_1968 rfl rfl ?_
  refine px_callVNi (h := 0) (rc' := A + 0) (rs' := B + 0) C (HR_le hHR (Nat.le_of_ble_eq_true rfl)) dL_law_1969 (gw8 123 rfl rfl) mv_X9_thrown (w9_thrown_ok (PCx_l C) (PCx_I C) hk) rfl rfl rfl rfl rfl (Nat.le_of_ble_eq_true rfl) (Nat.le_of_ble_eq_true rfl) (by omega) (by omega) ?_
  intro r8 μ7 hk
  refine px_iload (i := 6) C dL_law_1972 rfl ?_
  refine px_icmp_eq (tgt := 1979) C dL_law_1974 (by decide) (fun c13 => ?_) (fun c13 => ?_)
  · replace hk := hk.1 c13
    refine px_iload (i := 6) C dL_law_1979 rfl ?_
    refine px_if_ne (tgt := 1996) C dL_law_1981 (by decide) (fun c12 => ?_) (fun c12 => ?_)
    · replace hk := hk.1 c12
      refine px_goto (tgt := 3473) C dL_law_1996 (by decide) ?_
      exact PW_at (hN _ hk) (And.intro rfl (And.intro rfl (And.intro rfl (And.intro rfl (And.intro rfl (And.intro rfl trivial)))))) (by omega) (by omega)
    · replace hk := hk.2 c12
      refine px_aload_n (i := 3) C dL_law_1984 rfl rfl ?_
      refine px_iconst (v := (0 : Int32)) C dL_law_1985 rfl ?_
      obtain ⟨o9, hk⟩ := hk
      refine px_lald 5120 C dL_law_1986 rfl rfl rfl rfl o9 ?_
      refine px_iload (i := 7) C dL_law_1987 rfl ?_
      refine px_i2l C dL_law_1989 ?_
      obtain ⟨o10, hk⟩ := hk
      refine px_lcmp C dL_law_1990 o10 ?_
      refine px_if_eq (tgt := 1996) C dL_law_1991 (by decide) (fun c11 => ?_) (fun c11 => ?_)
      · replace hk := hk.1 c11
        refine px_goto (tgt := 3473) C dL_law_1996 (by decide) ?_
        exact PW_at (hN _ hk) (And.intro rfl (And.intro rfl (And.intro rfl (And.intro rfl (And.intro rfl (And.intro rfl trivial)))))) (by omega) (by omega)
      · replace hk := hk.2 c11
        refine px_iconst (v := (0 : Int32)) C dL_law_1994 rfl ?_
        exact hk.elim
  · replace hk := hk.2 c13
    refine px_iconst (v := (0 : Int32)) C dL_law_1977 rfl ?_
    exact hk.elim
