theorem dL_law_1285 : decode code 1285 = .ok (.aload_n 1, 1) := by decide +kernel
theorem dL_law_1286 : decode code 1286 = .ok (.aload_n 0, 1) := by decide +kernel
theorem dL_law_1287 : decode code 1287 = .ok (.iload_n 3, 1) := by decide +kernel
theorem dL_law_1288 : decode code 1288 = .ok (.iconst 1, 1) := by decide +kernel
theorem dL_law_1289 : decode code 1289 = .ok (.iadd, 1) := by decide +kernel
theorem dL_law_1290 : decode code 1290 = .ok (.iaload, 1) := by decide +kernel
theorem dL_law_1291 : decode code 1291 = .ok (.invokevirtual 158, 3) := by decide +kernel
theorem dL_law_1294 : decode code 1294 = .ok (.aload_n 2, 1) := by decide +kernel
theorem dL_law_1295 : decode code 1295 = .ok (.aload_n 0, 1) := by decide +kernel
theorem dL_law_1296 : decode code 1296 = .ok (.iload_n 3, 1) := by decide +kernel
theorem dL_law_1297 : decode code 1297 = .ok (.iconst 1, 1) := by decide +kernel
theorem dL_law_1298 : decode code 1298 = .ok (.iadd, 1) := by decide +kernel
theorem dL_law_1299 : decode code 1299 = .ok (.iaload, 1) := by decide +kernel
theorem dL_law_1300 : decode code 1300 = .ok (.invokevirtual 161, 3) := by decide +kernel
theorem dL_law_1303 : decode code 1303 = .ok (.if_icmp .eq 923, 3) := by decide +kernel
theorem dL_law_1308 : decode code 1308 = .ok (.aload_n 1, 1) := by decide +kernel
theorem dL_law_1309 : decode code 1309 = .ok (.aload_n 0, 1) := by decide +kernel
theorem dL_law_1310 : decode code 1310 = .ok (.iload_n 3, 1) := by decide +kernel
theorem dL_law_1311 : decode code 1311 = .ok (.iconst 1, 1) := by decide +kernel
theorem dL_law_1312 : decode code 1312 = .ok (.iadd, 1) := by decide +kernel
theorem dL_law_1313 : decode code 1313 = .ok (.iaload, 1) := by decide +kernel
theorem dL_law_1314 : decode code 1314 = .ok (.invokevirtual 162, 3) := by decide +kernel
theorem dL_law_1317 : decode code 1317 = .ok (.aload_n 2, 1) := by decide +kernel
theorem dL_law_1318 : decode code 1318 = .ok (.aload_n 0, 1) := by decide +kernel
theorem dL_law_1319 : decode code 1319 = .ok (.iload_n 3, 1) := by decide +kernel
theorem dL_law_1320 : decode code 1320 = .ok (.iconst 1, 1) := by decide +kernel
theorem dL_law_1321 : decode code 1321 = .ok (.iadd, 1) := by decide +kernel
theorem dL_law_1322 : decode code 1322 = .ok (.iaload, 1) := by decide +kernel
theorem dL_law_1323 : decode code 1323 = .ok (.invokevirtual 165, 3) := by decide +kernel
theorem dL_law_1326 : decode code 1326 = .ok (.if_icmp .eq 900, 3) := by decide +kernel
theorem dL_law_1331 : decode code 1331 = .ok (.aload_n 1, 1) := by decide +kernel
theorem dL_law_1332 : decode code 1332 = .ok (.aload_n 0, 1) := by decide +kernel
theorem dL_law_1333 : decode code 1333 = .ok (.iload_n 3, 1) := by decide +kernel
theorem dL_law_1334 : decode code 1334 = .ok (.iconst 1, 1) := by decide +kernel
theorem dL_law_1335 : decode code 1335 = .ok (.iadd, 1) := by decide +kernel
theorem dL_law_1336 : decode code 1336 = .ok (.iaload, 1) := by decide +kernel
theorem dL_law_1337 : decode code 1337 = .ok (.invokevirtual 166, 3) := by decide +kernel
theorem dL_law_1340 : decode code 1340 = .ok (.aload_n 2, 1) := by decide +kernel
theorem dL_law_1341 : decode code 1341 = .ok (.aload_n 0, 1) := by decide +kernel
theorem dL_law_1342 : decode code 1342 = .ok (.iload_n 3, 1) := by decide +kernel
theorem dL_law_1343 : decode code 1343 = .ok (.iconst 1, 1) := by decide +kernel
theorem dL_law_1344 : decode code 1344 = .ok (.iadd, 1) := by decide +kernel
theorem dL_law_1345 : decode code 1345 = .ok (.iaload, 1) := by decide +kernel
theorem dL_law_1346 : decode code 1346 = .ok (.invokevirtual 169, 3) := by decide +kernel
theorem dL_law_1349 : decode code 1349 = .ok (.if_icmp .eq 877, 3) := by decide +kernel
theorem dL_law_1354 : decode code 1354 = .ok (.aload_n 1, 1) := by decide +kernel
theorem dL_law_1355 : decode code 1355 = .ok (.invokevirtual 170, 3) := by decide +kernel
theorem dL_law_1358 : decode code 1358 = .ok (.aload_n 2, 1) := by decide +kernel
theorem dL_law_1359 : decode code 1359 = .ok (.invokevirtual 173, 3) := by decide +kernel
theorem dL_law_1362 : decode code 1362 = .ok (.if_icmp .eq 864, 3) := by decide +kernel
theorem dL_law_1367 : decode code 1367 = .ok (.aload_n 1, 1) := by decide +kernel
theorem dL_law_1368 : decode code 1368 = .ok (.invokevirtual 174, 3) := by decide +kernel
theorem dL_law_1371 : decode code 1371 = .ok (.aload_n 2, 1) := by decide +kernel
theorem dL_law_1372 : decode code 1372 = .ok (.invokevirtual 177, 3) := by decide +kernel
theorem dL_law_1375 : decode code 1375 = .ok (.if_icmp .eq 851, 3) := by decide +kernel
theorem dL_law_1380 : decode code 1380 = .ok (.aload_n 1, 1) := by decide +kernel
theorem dL_law_1381 : decode code 1381 = .ok (.invokevirtual 178, 3) := by decide +kernel
theorem dL_law_1384 : decode code 1384 = .ok (.aload_n 2, 1) := by decide +kernel
theorem dL_law_1385 : decode code 1385 = .ok (.invokevirtual 181, 3) := by decide +kernel
theorem dL_law_1388 : decode code 1388 = .ok (.if_icmp .eq 838, 3) := by decide +kernel
theorem dL_law_1393 : decode code 1393 = .ok (.aload_n 1, 1) := by decide +kernel
theorem dL_law_1394 : decode code 1394 = .ok (.invokevirtual 182, 3) := by decide +kernel
theorem dL_law_1397 : decode code 1397 = .ok (.aload_n 2, 1) := by decide +kernel
theorem dL_law_1398 : decode code 1398 = .ok (.invokevirtual 185, 3) := by decide +kernel
theorem dL_law_1401 : decode code 1401 = .ok (.if_icmp .eq 825, 3) := by decide +kernel
theorem dL_law_1406 : decode code 1406 = .ok (.aload_n 1, 1) := by decide +kernel
theorem dL_law_1407 : decode code 1407 = .ok (.aload_n 0, 1) := by decide +kernel
theorem dL_law_1408 : decode code 1408 = .ok (.iload_n 3, 1) := by decide +kernel
theorem dL_law_1409 : decode code 1409 = .ok (.iconst 1, 1) := by decide +kernel
theorem dL_law_1410 : decode code 1410 = .ok (.iadd, 1) := by decide +kernel
theorem dL_law_1411 : decode code 1411 = .ok (.iaload, 1) := by decide +kernel
theorem dL_law_1412 : decode code 1412 = .ok (.aload_n 0, 1) := by decide +kernel
theorem dL_law_1413 : decode code 1413 = .ok (.iload_n 3, 1) := by decide +kernel
theorem dL_law_1414 : decode code 1414 = .ok (.iconst 2, 1) := by decide +kernel
theorem dL_law_1415 : decode code 1415 = .ok (.iadd, 1) := by decide +kernel
theorem dL_law_1416 : decode code 1416 = .ok (.iaload, 1) := by decide +kernel
theorem dL_law_1417 : decode code 1417 = .ok (.invokevirtual 186, 3) := by decide +kernel
theorem dL_law_1420 : decode code 1420 = .ok (.aload_n 2, 1) := by decide +kernel
theorem dL_law_1421 : decode code 1421 = .ok (.aload_n 0, 1) := by decide +kernel
theorem dL_law_1422 : decode code 1422 = .ok (.iload_n 3, 1) := by decide +kernel
theorem dL_law_1423 : decode code 1423 = .ok (.iconst 1, 1) := by decide +kernel
theorem dL_law_1424 : decode code 1424 = .ok (.iadd, 1) := by decide +kernel
theorem dL_law_1425 : decode code 1425 = .ok (.iaload, 1) := by decide +kernel
theorem dL_law_1426 : decode code 1426 = .ok (.aload_n 0, 1) := by decide +kernel
theorem dL_law_1427 : decode code 1427 = .ok (.iload_n 3, 1) := by decide +kernel
theorem dL_law_1428 : decode code 1428 = .ok (.iconst 2, 1) := by decide +kernel
theorem dL_law_1429 : decode code 1429 = .ok (.iadd, 1) := by decide +kernel
theorem dL_law_1430 : decode code 1430 = .ok (.iaload, 1) := by decide +kernel
theorem dL_law_1431 : decode code 1431 = .ok (.invokevirtual 189, 3) := by decide +kernel
theorem dL_law_1434 : decode code 1434 = .ok (.if_icmp .eq 792, 3) := by decide +kernel
theorem dL_law_1439 : decode code 1439 = .ok (.aload_n 1, 1) := by decide +kernel
theorem dL_law_1440 : decode code 1440 = .ok (.aload_n 0, 1) := by decide +kernel
theorem dL_law_1441 : decode code 1441 = .ok (.iload_n 3, 1) := by decide +kernel
theorem dL_law_1442 : decode code 1442 = .ok (.iconst 1, 1) := by decide +kernel
theorem dL_law_1443 : decode code 1443 = .ok (.iadd, 1) := by decide +kernel
theorem dL_law_1444 : decode code 1444 = .ok (.iaload, 1) := by decide +kernel
theorem dL_law_1445 : decode code 1445 = .ok (.aload_n 0, 1) := by decide +kernel
theorem dL_law_1446 : decode code 1446 = .ok (.iload_n 3, 1) := by decide +kernel
theorem dL_law_1447 : decode code 1447 = .ok (.iconst 2, 1) := by decide +kernel
theorem dL_law_1448 : decode code 1448 = .ok (.iadd, 1) := by decide +kernel
theorem dL_law_1449 : decode code 1449 = .ok (.iaload, 1) := by decide +kernel
theorem dL_law_1450 : decode code 1450 = .ok (.invokevirtual 190, 3) := by decide +kernel
theorem dL_law_1453 : decode code 1453 = .ok (.aload_n 2, 1) := by decide +kernel
theorem dL_law_1454 : decode code 1454 = .ok (.aload_n 0, 1) := by decide +kernel
theorem dL_law_1455 : decode code 1455 = .ok (.iload_n 3, 1) := by decide +kernel
theorem dL_law_1456 : decode code 1456 = .ok (.iconst 1, 1) := by decide +kernel
theorem dL_law_1457 : decode code 1457 = .ok (.iadd, 1) := by decide +kernel
theorem dL_law_1458 : decode code 1458 = .ok (.iaload, 1) := by decide +kernel
theorem dL_law_1459 : decode code 1459 = .ok (.aload_n 0, 1) := by decide +kernel
theorem dL_law_1460 : decode code 1460 = .ok (.iload_n 3, 1) := by decide +kernel
theorem dL_law_1461 : decode code 1461 = .ok (.iconst 2, 1) := by decide +kernel
theorem dL_law_1462 : decode code 1462 = .ok (.iadd, 1) := by decide +kernel
theorem dL_law_1463 : decode code 1463 = .ok (.iaload, 1) := by decide +kernel
theorem dL_law_1464 : decode code 1464 = .ok (.invokevirtual 193, 3) := by decide +kernel
theorem dL_law_1467 : decode code 1467 = .ok (.if_icmp .eq 759, 3) := by decide +kernel
theorem dL_law_1472 : decode code 1472 = .ok (.aload_n 1, 1) := by decide +kernel
theorem dL_law_1473 : decode code 1473 = .ok (.aload_n 0, 1) := by decide +kernel
theorem dL_law_1474 : decode code 1474 = .ok (.iload_n 3, 1) := by decide +kernel
theorem dL_law_1475 : decode code 1475 = .ok (.iconst 1, 1) := by decide +kernel
theorem dL_law_1476 : decode code 1476 = .ok (.iadd, 1) := by decide +kernel
theorem dL_law_1477 : decode code 1477 = .ok (.iaload, 1) := by decide +kernel
theorem dL_law_1478 : decode code 1478 = .ok (.aload_n 0, 1) := by decide +kernel
theorem dL_law_1479 : decode code 1479 = .ok (.iload_n 3, 1) := by decide +kernel
theorem dL_law_1480 : decode code 1480 = .ok (.iconst 2, 1) := by decide +kernel
theorem dL_law_1481 : decode code 1481 = .ok (.iadd, 1) := by decide +kernel
theorem dL_law_1482 : decode code 1482 = .ok (.iaload, 1) := by decide +kernel
theorem dL_law_1483 : decode code 1483 = .ok (.invokevirtual 194, 3) := by decide +kernel
theorem dL_law_1486 : decode code 1486 = .ok (.aload_n 2, 1) := by decide +kernel
theorem dL_law_1487 : decode code 1487 = .ok (.aload_n 0, 1) := by decide +kernel
theorem dL_law_1488 : decode code 1488 = .ok (.iload_n 3, 1) := by decide +kernel
theorem dL_law_1489 : decode code 1489 = .ok (.iconst 1, 1) := by decide +kernel
theorem dL_law_1490 : decode code 1490 = .ok (.iadd, 1) := by decide +kernel
theorem dL_law_1491 : decode code 1491 = .ok (.iaload, 1) := by decide +kernel
theorem dL_law_1492 : decode code 1492 = .ok (.aload_n 0, 1) := by decide +kernel
theorem dL_law_1493 : decode code 1493 = .ok (.iload_n 3, 1) := by decide +kernel
theorem dL_law_1494 : decode code 1494 = .ok (.iconst 2, 1) := by decide +kernel
theorem dL_law_1495 : decode code 1495 = .ok (.iadd, 1) := by decide +kernel
theorem dL_law_1496 : decode code 1496 = .ok (.iaload, 1) := by decide +kernel
theorem dL_law_1497 : decode code 1497 = .ok (.invokevirtual 197, 3) := by decide +kernel
theorem dL_law_1500 : decode code 1500 = .ok (.if_icmp .eq 726, 3) := by decide +kernel
theorem dL_law_1505 : decode code 1505 = .ok (.aload_n 1, 1) := by decide +kernel
theorem dL_law_1506 : decode code 1506 = .ok (.aload_n 0, 1) := by decide +kernel
theorem dL_law_1507 : decode code 1507 = .ok (.iload_n 3, 1) := by decide +kernel
theorem dL_law_1508 : decode code 1508 = .ok (.iconst 1, 1) := by decide +kernel
theorem dL_law_1509 : decode code 1509 = .ok (.iadd, 1) := by decide +kernel
theorem dL_law_1510 : decode code 1510 = .ok (.iaload, 1) := by decide +kernel
theorem dL_law_1511 : decode code 1511 = .ok (.aload_n 0, 1) := by decide +kernel
theorem dL_law_1512 : decode code 1512 = .ok (.iload_n 3, 1) := by decide +kernel
theorem dL_law_1513 : decode code 1513 = .ok (.iconst 2, 1) := by decide +kernel
theorem dL_law_1514 : decode code 1514 = .ok (.iadd, 1) := by decide +kernel
theorem dL_law_1515 : decode code 1515 = .ok (.iaload, 1) := by decide +kernel
theorem dL_law_1516 : decode code 1516 = .ok (.invokevirtual 198, 3) := by decide +kernel
theorem dL_law_1519 : decode code 1519 = .ok (.aload_n 2, 1) := by decide +kernel
theorem dL_law_1520 : decode code 1520 = .ok (.aload_n 0, 1) := by decide +kernel
theorem dL_law_1521 : decode code 1521 = .ok (.iload_n 3, 1) := by decide +kernel
theorem dL_law_1522 : decode code 1522 = .ok (.iconst 1, 1) := by decide +kernel
theorem dL_law_1523 : decode code 1523 = .ok (.iadd, 1) := by decide +kernel
theorem dL_law_1524 : decode code 1524 = .ok (.iaload, 1) := by decide +kernel
theorem dL_law_1525 : decode code 1525 = .ok (.aload_n 0, 1) := by decide +kernel
theorem dL_law_1526 : decode code 1526 = .ok (.iload_n 3, 1) := by decide +kernel
theorem dL_law_1527 : decode code 1527 = .ok (.iconst 2, 1) := by decide +kernel
theorem dL_law_1528 : decode code 1528 = .ok (.iadd, 1) := by decide +kernel
theorem dL_law_1529 : decode code 1529 = .ok (.iaload, 1) := by decide +kernel
theorem dL_law_1530 : decode code 1530 = .ok (.invokevirtual 201, 3) := by decide +kernel
theorem dL_law_1533 : decode code 1533 = .ok (.if_icmp .eq 693, 3) := by decide +kernel
theorem dL_law_1538 : decode code 1538 = .ok (.aload_n 1, 1) := by decide +kernel
theorem dL_law_1539 : decode code 1539 = .ok (.aload_n 0, 1) := by decide +kernel
theorem dL_law_1540 : decode code 1540 = .ok (.iload_n 3, 1) := by decide +kernel
theorem dL_law_1541 : decode code 1541 = .ok (.iconst 1, 1) := by decide +kernel
theorem dL_law_1542 : decode code 1542 = .ok (.iadd, 1) := by decide +kernel
theorem dL_law_1543 : decode code 1543 = .ok (.iaload, 1) := by decide +kernel
theorem dL_law_1544 : decode code 1544 = .ok (.invokevirtual 202, 3) := by decide +kernel
theorem dL_law_1547 : decode code 1547 = .ok (.aload_n 2, 1) := by decide +kernel
theorem dL_law_1548 : decode code 1548 = .ok (.aload_n 0, 1) := by decide +kernel
theorem dL_law_1549 : decode code 1549 = .ok (.iload_n 3, 1) := by decide +kernel
theorem dL_law_1550 : decode code 1550 = .ok (.iconst 1, 1) := by decide +kernel
theorem dL_law_1551 : decode code 1551 = .ok (.iadd, 1) := by decide +kernel
theorem dL_law_1552 : decode code 1552 = .ok (.iaload, 1) := by decide +kernel
theorem dL_law_1553 : decode code 1553 = .ok (.invokevirtual 205, 3) := by decide +kernel
theorem dL_law_1556 : decode code 1556 = .ok (.if_icmp .eq 670, 3) := by decide +kernel
set_option maxHeartbeats 4000000 in
set_option maxRecDepth 100000 in
theorem law_35 {p : Program} {e : Env} {s : State} {m : MethodId} {below : List Frame} {meth : Method} {c : Code} {l : Launch} {sb L : Nat} {xs : Nat → Int32} {A : Nat → Prop} {G : va_G} {cI cJ cZ cB cQ : ClassId} (h0 : Nat) (b : Nat → Nat) (br : Nat → Nat) (bt : Nat → Nat) (bi : Nat → Nat) (bc : Nat → Nat) (bn : Nat → Nat) (bs : Nat → Nat) (be : Nat → Nat) (bw : Nat → Nat) (h1 : Nat) (bm : Nat → Nat) {H : Heap} {locs : List Loc} (hL : L = 6) (C0 : lw_At p s m meth c sb L xs) (hAe : A = fun q => s.heap.size ≤ q) (hK : va_K G vwCl (TY cI cJ cZ cB cQ) s) (hZ : nz s) (hP : va_P G vwCl (wX cI cJ cZ cB cQ h0 b br bt bi bc bn bs be bw ++ wM cI cJ cZ cB cQ h1 bm) H) (hD : va_D A (wX cI cJ cZ cB cQ h0 b br bt bi bc bn bs be bw ++ wM cI cJ cZ cB cQ h1 bm)) (hS : va_S A s.heap H locs) (ls : Array Slot) (hl : lv_has ls 4 [(3, .int 0), (2, .ref h1), (1, .ref h0), (0, .ref sb)]) (v : Int32) (hv : v.toInt = 35) : W p l e room_1 s m #[Value.ref sb] below meth c H locs 88 8166 (lw_Z below #[Value.ref sb] s) (F0 m 33 ls [.int v]) := by
  have hL6 : L ≤ 6 := by omega
  obtain ⟨hx, hb, hr, hml, hown, hts0, hX, hbl, hlocks, hgv⟩ := id C0
  have hown : s.vm.findClass RL = some m.cls := hown
  have hts : ∀ q ∈ GW, q.before #[Value.ref sb] s = true := fun q h => hts0 q (List.mem_filter.mp h).1
  have hA : ∀ q : Nat, s.heap.size ≤ q → A q := fun q h => by rw [hAe]; exact h
  have hbA : ¬ A sb := by rw [hAe]; exact Nat.not_le.mpr hbl
  have hLT : (Int32.ofNat L).toInt = (L : Int) := nI_toInt (by omega)
  have hLi : (L : Int) = 6 := by omega
  refine lv_tableIn (off := 1252) (tgt := 1285) hx hb dL_law_33 (by rw [hv]; decide) (by rw [hv]; decide) (by rw [hv]; rfl) (by decide) ?_
  have hP : va_P G vwCl [(h0, oX9 b), (b 1, oX0 bc 0 0 0 0 0 0 0 0 0 0), (h1, oX10 bm 0 0 0 0 0 0 0 0 (-1) 0 0 0 0 0 0 0 0 0), (bm 1, .inl (cI, 149, .inl (fun _ => 0))), (bm 15, .inl (cZ, 80, .inl (fun _ => 0))), (bm 16, .inl (cI, 7, .inl (fun _ => 0))), (bm 21, .inl (cZ, 80, .inl (fun _ => 0))), (bm 24, .inl (cI, 80, .inl (fun _ => 0))), (bm 25, .inl (cI, 6, .inl (fun _ => 0))), (bm 29, .inl (cI, 6, .inl (fun _ => 0))), (bm 30, .inl (cZ, 1040, .inl (fun _ => 0))), (bm 31, .inl (cI, 1040, .inl (fun _ => 0))), (bm 32, .inl (cI, 78, .inl (fun _ => 0))), (bm 27, .inl (cI, 7, .inl (fun _ => 0)))] H := hP.sub [0, 14, 59, 60, 66, 67, 68, 71, 72, 76, 77, 78, 79, 74] rfl
  have hD : va_D A [(h0, oX9 b), (b 1, oX0 bc 0 0 0 0 0 0 0 0 0 0), (h1, oX10 bm 0 0 0 0 0 0 0 0 (-1) 0 0 0 0 0 0 0 0 0), (bm 1, .inl (cI, 149, .inl (fun _ => 0))), (bm 15, .inl (cZ, 80, .inl (fun _ => 0))), (bm 16, .inl (cI, 7, .inl (fun _ => 0))), (bm 21, .inl (cZ, 80, .inl (fun _ => 0))), (bm 24, .inl (cI, 80, .inl (fun _ => 0))), (bm 25, .inl (cI, 6, .inl (fun _ => 0))), (bm 29, .inl (cI, 6, .inl (fun _ => 0))), (bm 30, .inl (cZ, 1040, .inl (fun _ => 0))), (bm 31, .inl (cI, 1040, .inl (fun _ => 0))), (bm 32, .inl (cI, 78, .inl (fun _ => 0))), (bm 27, .inl (cI, 7, .inl (fun _ => 0)))] := hD.sub [0, 14, 59, 60, 66, 67, 68, 71, 72, 76, 77, 78, 79, 74] rfl rfl
  refine lv_aload_n hx hb dL_law_1285 rfl (lv_at hl 2 rfl) ?_
  refine lv_aload_n hx hb dL_law_1286 rfl (lv_at hl 3 rfl) ?_
  refine lv_iload_n hx hb dL_law_1287 rfl (lv_at hl 0 rfl) ?_
  refine lv_iconst (v := 1) hx hb dL_law_1288 (by decide) ?_
  refine lv_iadd hx hb dL_law_1289 ?_
  refine lv_topi (fun v1 ev1 => ?_)
  obtain rfl : v1 = 1 := ev1.trans (by decide)
  refine va_sld hx hb hX hbl hbA hS (ix_in ki_1 (by omega) (by omega)) dL_law_1290 ?_
  refine W.eq (g2 := F0 m 1291 ls [.int (xs 1), .ref h0]) rfl ?_
  refine k_i (wc := [(h0, oX9 b), (b 1, oX0 bc 0 0 0 0 0 0 0 0 0 0)]) (wr := [(h1, oX10 bm 0 0 0 0 0 0 0 0 (-1) 0 0 0 0 0 0 0 0 0), (bm 1, .inl (cI, 149, .inl (fun _ => 0))), (bm 15, .inl (cZ, 80, .inl (fun _ => 0))), (bm 16, .inl (cI, 7, .inl (fun _ => 0))), (bm 21, .inl (cZ, 80, .inl (fun _ => 0))), (bm 24, .inl (cI, 80, .inl (fun _ => 0))), (bm 25, .inl (cI, 6, .inl (fun _ => 0))), (bm 29, .inl (cI, 6, .inl (fun _ => 0))), (bm 30, .inl (cZ, 1040, .inl (fun _ => 0))), (bm 31, .inl (cI, 1040, .inl (fun _ => 0))), (bm 32, .inl (cI, 78, .inl (fun _ => 0))), (bm 27, .inl (cI, 7, .inl (fun _ => 0)))]) hP hD hS hA [0, 1] [2, 3, 4, 5, 6, 7, 8, 9, 10, 11, 12, 13] rfl rfl rfl (by decide) (va_runV (As := [.int (xs 1)]) (rest := []) ⟨hx, hb, hml, hown, hts⟩ (f_X9_moved l G cI cJ cZ cB cQ _ h0 b bc (xs 1)) (cwV 1 hts (gV w_894 w_895 w_896 w_1 w_897) rfl rfl rfl ⟨rfl, hd_X9_moved⟩ ⟨Nat.le_of_ble_eq_true rfl, Nat.le_of_ble_eq_true rfl⟩) (mV hK hZ hP hD [0, 1] rfl rfl [.int (xs 1)] 0 9 rfl rfl) rfl rfl hl.1 rfl (lv_room (Nat.le_of_ble_eq_true rfl)) dL_law_1291 ⟨Nat.le_of_ble_eq_true rfl, Nat.le_of_ble_eq_true rfl⟩) (fun r2 u3 H locs hw4 hP hD hS => ?_)
  try dsimp only at hw4
  have hP : va_P G vwCl [(h1, oX10 bm 0 0 0 0 0 0 0 0 (-1) 0 0 0 0 0 0 0 0 0), (bm 1, .inl (cI, 149, .inl (fun _ => 0))), (bm 15, .inl (cZ, 80, .inl (fun _ => 0))), (bm 16, .inl (cI, 7, .inl (fun _ => 0))), (bm 21, .inl (cZ, 80, .inl (fun _ => 0))), (bm 24, .inl (cI, 80, .inl (fun _ => 0))), (bm 25, .inl (cI, 6, .inl (fun _ => 0))), (bm 29, .inl (cI, 6, .inl (fun _ => 0))), (bm 30, .inl (cZ, 1040, .inl (fun _ => 0))), (bm 31, .inl (cI, 1040, .inl (fun _ => 0))), (bm 32, .inl (cI, 78, .inl (fun _ => 0))), (bm 27, .inl (cI, 7, .inl (fun _ => 0))), (h0, oX9 b), (b 1, oX0 bc 0 0 0 0 0 0 0 0 0 0)] H := hP
  have hD : va_D A [(h1, oX10 bm 0 0 0 0 0 0 0 0 (-1) 0 0 0 0 0 0 0 0 0), (bm 1, .inl (cI, 149, .inl (fun _ => 0))), (bm 15, .inl (cZ, 80, .inl (fun _ => 0))), (bm 16, .inl (cI, 7, .inl (fun _ => 0))), (bm 21, .inl (cZ, 80, .inl (fun _ => 0))), (bm 24, .inl (cI, 80, .inl (fun _ => 0))), (bm 25, .inl (cI, 6, .inl (fun _ => 0))), (bm 29, .inl (cI, 6, .inl (fun _ => 0))), (bm 30, .inl (cZ, 1040, .inl (fun _ => 0))), (bm 31, .inl (cI, 1040, .inl (fun _ => 0))), (bm 32, .inl (cI, 78, .inl (fun _ => 0))), (bm 27, .inl (cI, 7, .inl (fun _ => 0))), (h0, oX9 b), (b 1, oX0 bc 0 0 0 0 0 0 0 0 0 0)] := hD
  obtain rfl : r2 = (-2) := hw4
  refine lv_aload_n hx hb dL_law_1294 rfl (lv_at hl 1 rfl) ?_
  refine lv_aload_n hx hb dL_law_1295 rfl (lv_at hl 3 rfl) ?_
  refine lv_iload_n hx hb dL_law_1296 rfl (lv_at hl 0 rfl) ?_
  refine lv_iconst (v := 1) hx hb dL_law_1297 (by decide) ?_
  refine lv_iadd hx hb dL_law_1298 ?_
  refine lv_topi (fun v5 ev5 => ?_)
  obtain rfl : v5 = 1 := ev5.trans (by decide)
  refine va_sld hx hb hX hbl hbA hS (ix_in ki_1 (by omega) (by omega)) dL_law_1299 ?_
  refine W.eq (g2 := F0 m 1300 ls [.int (xs 1), .ref h1, .int (-2)]) rfl ?_
  refine k_i (wc := [(h1, oX10 bm 0 0 0 0 0 0 0 0 (-1) 0 0 0 0 0 0 0 0 0), (bm 1, .inl (cI, 149, .inl (fun _ => 0))), (bm 15, .inl (cZ, 80, .inl (fun _ => 0))), (bm 16, .inl (cI, 7, .inl (fun _ => 0))), (bm 21, .inl (cZ, 80, .inl (fun _ => 0))), (bm 24, .inl (cI, 80, .inl (fun _ => 0))), (bm 25, .inl (cI, 6, .inl (fun _ => 0))), (bm 29, .inl (cI, 6, .inl (fun _ => 0))), (bm 30, .inl (cZ, 1040, .inl (fun _ => 0))), (bm 31, .inl (cI, 1040, .inl (fun _ => 0))), (bm 32, .inl (cI, 78, .inl (fun _ => 0))), (bm 27, .inl (cI, 7, .inl (fun _ => 0)))]) (wr := [(h0, oX9 b), (b 1, oX0 bc 0 0 0 0 0 0 0 0 0 0)]) hP hD hS hA [0, 1, 2, 3, 4, 5, 6, 7, 8, 9, 10, 11] [12, 13] rfl rfl rfl (by decide) (va_runV (As := [.int (xs 1)]) (rest := [.int (-2)]) ⟨hx, hb, hml, hown, hts⟩ (f_X10_moved l G cI cJ cZ cB cQ _ h1 bm (xs 1)) (cwV 1 hts (gV w_1772 w_1773 w_1774 w_11 w_1775) rfl rfl rfl ⟨rfl, hd_X10_moved⟩ ⟨Nat.le_of_ble_eq_true rfl, Nat.le_of_ble_eq_true rfl⟩) (mV hK hZ hP hD [0, 1, 2, 3, 4, 5, 6, 7, 8, 9, 10, 11] rfl rfl [.int (xs 1)] 0 10 rfl rfl) rfl rfl hl.1 rfl (lv_room (Nat.le_of_ble_eq_true rfl)) dL_law_1300 ⟨Nat.le_of_ble_eq_true rfl, Nat.le_of_ble_eq_true rfl⟩) (fun r6 u7 H locs hw8 hP hD hS => ?_)
  obtain ⟨f09, rfl⟩ : ∃ z, z = u7 := ⟨_, rfl⟩
  try dsimp only at hw8
  have hP : va_P G vwCl [(h0, oX9 b), (b 1, oX0 bc 0 0 0 0 0 0 0 0 0 0), (h1, oX10 bm 0 0 0 0 0 0 0 0 (-1) 0 0 (-1) 0 0 0 0 0 0), (bm 1, .inl (cI, 149, .inl (fun _ => 0))), (bm 15, .inl (cZ, 80, .inl (fun _ => 0))), (bm 16, .inl (cI, 7, .inl (fun _ => 0))), (bm 21, .inl (cZ, 80, .inl (fun _ => 0))), (bm 24, .inl (cI, 80, .inl (fun _ => 0))), (bm 25, .inl (cI, 6, .inl (fun _ => 0))), (bm 29, .inl (cI, 6, .inl (fun _ => 0))), (bm 30, .inl (cZ, 1040, .inl (fun _ => 0))), (bm 31, .inl (cI, 1040, .inl (fun _ => 0))), (bm 32, .inl (cI, 78, .inl (fun _ => 0))), (bm 27, .inl (cI, 7, .inl f09))] H := hP
  have hD : va_D A [(h0, oX9 b), (b 1, oX0 bc 0 0 0 0 0 0 0 0 0 0), (h1, oX10 bm 0 0 0 0 0 0 0 0 (-1) 0 0 (-1) 0 0 0 0 0 0), (bm 1, .inl (cI, 149, .inl (fun _ => 0))), (bm 15, .inl (cZ, 80, .inl (fun _ => 0))), (bm 16, .inl (cI, 7, .inl (fun _ => 0))), (bm 21, .inl (cZ, 80, .inl (fun _ => 0))), (bm 24, .inl (cI, 80, .inl (fun _ => 0))), (bm 25, .inl (cI, 6, .inl (fun _ => 0))), (bm 29, .inl (cI, 6, .inl (fun _ => 0))), (bm 30, .inl (cZ, 1040, .inl (fun _ => 0))), (bm 31, .inl (cI, 1040, .inl (fun _ => 0))), (bm 32, .inl (cI, 78, .inl (fun _ => 0))), (bm 27, .inl (cI, 7, .inl f09))] := hD
  obtain rfl : r6 = (-2) := hw8
  refine lv_icmp_eq (tgt := 2226) hx hb dL_law_1303 (by decide) (fun c10 => ?_) (fun c10 => absurd (by decide) c10)
  refine lv_iinc (v := 6) (lv' := [(3, .int 6), (2, .ref h1), (1, .ref h0), (0, .ref sb)]) hx hb dL_law_2226 hl (k := 0) rfl (by decide) (by decide) rfl (fun ls hl => ?_)
  refine lv_goto (tgt := 18) hx hb dL_law_2229 (by decide) ?_
  exact law_exit hL6 C0 hAe hS ls (lv_sub hl [3, 0] rfl) (by decide) (by decide)
set_option maxHeartbeats 4000000 in
set_option maxRecDepth 100000 in
theorem law_36 {p : Program} {e : Env} {s : State} {m : MethodId} {below : List Frame} {meth : Method} {c : Code} {l : Launch} {sb L : Nat} {xs : Nat → Int32} {A : Nat → Prop} {G : va_G} {cI cJ cZ cB cQ : ClassId} (h0 : Nat) (b : Nat → Nat) (br : Nat → Nat) (bt : Nat → Nat) (bi : Nat → Nat) (bc : Nat → Nat) (bn : Nat → Nat) (bs : Nat → Nat) (be : Nat → Nat) (bw : Nat → Nat) (h1 : Nat) (bm : Nat → Nat) {H : Heap} {locs : List Loc} (hL : L = 6) (C0 : lw_At p s m meth c sb L xs) (hAe : A = fun q => s.heap.size ≤ q) (hK : va_K G vwCl (TY cI cJ cZ cB cQ) s) (hZ : nz s) (hP : va_P G vwCl (wX cI cJ cZ cB cQ h0 b br bt bi bc bn bs be bw ++ wM cI cJ cZ cB cQ h1 bm) H) (hD : va_D A (wX cI cJ cZ cB cQ h0 b br bt bi bc bn bs be bw ++ wM cI cJ cZ cB cQ h1 bm)) (hS : va_S A s.heap H locs) (ls : Array Slot) (hl : lv_has ls 4 [(3, .int 0), (2, .ref h1), (1, .ref h0), (0, .ref sb)]) (v : Int32) (hv : v.toInt = 36) : W p l e room_1 s m #[Value.ref sb] below meth c H locs 88 8166 (lw_Z below #[Value.ref sb] s) (F0 m 33 ls [.int v]) := by
  have hL6 : L ≤ 6 := by omega
  obtain ⟨hx, hb, hr, hml, hown, hts0, hX, hbl, hlocks, hgv⟩ := id C0
  have hown : s.vm.findClass RL = some m.cls := hown
  have hts : ∀ q ∈ GW, q.before #[Value.ref sb] s = true := fun q h => hts0 q (List.mem_filter.mp h).1
  have hA : ∀ q : Nat, s.heap.size ≤ q → A q := fun q h => by rw [hAe]; exact h
  have hbA : ¬ A sb := by rw [hAe]; exact Nat.not_le.mpr hbl
  have hLT : (Int32.ofNat L).toInt = (L : Int) := nI_toInt (by omega)
  have hLi : (L : Int) = 6 := by omega
  refine lv_tableIn (off := 1275) (tgt := 1308) hx hb dL_law_33 (by rw [hv]; decide) (by rw [hv]; decide) (by rw [hv]; rfl) (by decide) ?_
  have hP : va_P G vwCl [(h0, oX9 b), (b 1, oX0 bc 0 0 0 0 0 0 0 0 0 0), (h1, oX10 bm 0 0 0 0 0 0 0 0 (-1) 0 0 0 0 0 0 0 0 0), (bm 1, .inl (cI, 149, .inl (fun _ => 0))), (bm 15, .inl (cZ, 80, .inl (fun _ => 0))), (bm 16, .inl (cI, 7, .inl (fun _ => 0))), (bm 21, .inl (cZ, 80, .inl (fun _ => 0))), (bm 24, .inl (cI, 80, .inl (fun _ => 0))), (bm 25, .inl (cI, 6, .inl (fun _ => 0))), (bm 29, .inl (cI, 6, .inl (fun _ => 0))), (bm 30, .inl (cZ, 1040, .inl (fun _ => 0))), (bm 31, .inl (cI, 1040, .inl (fun _ => 0))), (bm 32, .inl (cI, 78, .inl (fun _ => 0))), (bm 27, .inl (cI, 7, .inl (fun _ => 0)))] H := hP.sub [0, 14, 59, 60, 66, 67, 68, 71, 72, 76, 77, 78, 79, 74] rfl
  have hD : va_D A [(h0, oX9 b), (b 1, oX0 bc 0 0 0 0 0 0 0 0 0 0), (h1, oX10 bm 0 0 0 0 0 0 0 0 (-1) 0 0 0 0 0 0 0 0 0), (bm 1, .inl (cI, 149, .inl (fun _ => 0))), (bm 15, .inl (cZ, 80, .inl (fun _ => 0))), (bm 16, .inl (cI, 7, .inl (fun _ => 0))), (bm 21, .inl (cZ, 80, .inl (fun _ => 0))), (bm 24, .inl (cI, 80, .inl (fun _ => 0))), (bm 25, .inl (cI, 6, .inl (fun _ => 0))), (bm 29, .inl (cI, 6, .inl (fun _ => 0))), (bm 30, .inl (cZ, 1040, .inl (fun _ => 0))), (bm 31, .inl (cI, 1040, .inl (fun _ => 0))), (bm 32, .inl (cI, 78, .inl (fun _ => 0))), (bm 27, .inl (cI, 7, .inl (fun _ => 0)))] := hD.sub [0, 14, 59, 60, 66, 67, 68, 71, 72, 76, 77, 78, 79, 74] rfl rfl
  refine lv_aload_n hx hb dL_law_1308 rfl (lv_at hl 2 rfl) ?_
  refine lv_aload_n hx hb dL_law_1309 rfl (lv_at hl 3 rfl) ?_
  refine lv_iload_n hx hb dL_law_1310 rfl (lv_at hl 0 rfl) ?_
  refine lv_iconst (v := 1) hx hb dL_law_1311 (by decide) ?_
  refine lv_iadd hx hb dL_law_1312 ?_
  refine lv_topi (fun v1 ev1 => ?_)
  obtain rfl : v1 = 1 := ev1.trans (by decide)
  refine va_sld hx hb hX hbl hbA hS (ix_in ki_1 (by omega) (by omega)) dL_law_1313 ?_
  refine W.eq (g2 := F0 m 1314 ls [.int (xs 1), .ref h0]) rfl ?_
  refine k_i (wc := [(h0, oX9 b), (b 1, oX0 bc 0 0 0 0 0 0 0 0 0 0)]) (wr := [(h1, oX10 bm 0 0 0 0 0 0 0 0 (-1) 0 0 0 0 0 0 0 0 0), (bm 1, .inl (cI, 149, .inl (fun _ => 0))), (bm 15, .inl (cZ, 80, .inl (fun _ => 0))), (bm 16, .inl (cI, 7, .inl (fun _ => 0))), (bm 21, .inl (cZ, 80, .inl (fun _ => 0))), (bm 24, .inl (cI, 80, .inl (fun _ => 0))), (bm 25, .inl (cI, 6, .inl (fun _ => 0))), (bm 29, .inl (cI, 6, .inl (fun _ => 0))), (bm 30, .inl (cZ, 1040, .inl (fun _ => 0))), (bm 31, .inl (cI, 1040, .inl (fun _ => 0))), (bm 32, .inl (cI, 78, .inl (fun _ => 0))), (bm 27, .inl (cI, 7, .inl (fun _ => 0)))]) hP hD hS hA [0, 1] [2, 3, 4, 5, 6, 7, 8, 9, 10, 11, 12, 13] rfl rfl rfl (by decide) (va_runV (As := [.int (xs 1)]) (rest := []) ⟨hx, hb, hml, hown, hts⟩ (f_X9_moves l G cI cJ cZ cB cQ _ h0 b bc (xs 1)) (cwV 1 hts (gV w_898 w_899 w_900 w_1 w_901) rfl rfl rfl ⟨rfl, hd_X9_moves⟩ ⟨Nat.le_of_ble_eq_true rfl, Nat.le_of_ble_eq_true rfl⟩) (mV hK hZ hP hD [0, 1] rfl rfl [.int (xs 1)] 0 9 rfl rfl) rfl rfl hl.1 rfl (lv_room (Nat.le_of_ble_eq_true rfl)) dL_law_1314 ⟨Nat.le_of_ble_eq_true rfl, Nat.le_of_ble_eq_true rfl⟩) (fun r2 u3 H locs hw4 hP hD hS => ?_)
  try dsimp only at hw4
  have hP : va_P G vwCl [(h1, oX10 bm 0 0 0 0 0 0 0 0 (-1) 0 0 0 0 0 0 0 0 0), (bm 1, .inl (cI, 149, .inl (fun _ => 0))), (bm 15, .inl (cZ, 80, .inl (fun _ => 0))), (bm 16, .inl (cI, 7, .inl (fun _ => 0))), (bm 21, .inl (cZ, 80, .inl (fun _ => 0))), (bm 24, .inl (cI, 80, .inl (fun _ => 0))), (bm 25, .inl (cI, 6, .inl (fun _ => 0))), (bm 29, .inl (cI, 6, .inl (fun _ => 0))), (bm 30, .inl (cZ, 1040, .inl (fun _ => 0))), (bm 31, .inl (cI, 1040, .inl (fun _ => 0))), (bm 32, .inl (cI, 78, .inl (fun _ => 0))), (bm 27, .inl (cI, 7, .inl (fun _ => 0))), (h0, oX9 b), (b 1, oX0 bc 0 0 0 0 0 0 0 0 0 0)] H := hP
  have hD : va_D A [(h1, oX10 bm 0 0 0 0 0 0 0 0 (-1) 0 0 0 0 0 0 0 0 0), (bm 1, .inl (cI, 149, .inl (fun _ => 0))), (bm 15, .inl (cZ, 80, .inl (fun _ => 0))), (bm 16, .inl (cI, 7, .inl (fun _ => 0))), (bm 21, .inl (cZ, 80, .inl (fun _ => 0))), (bm 24, .inl (cI, 80, .inl (fun _ => 0))), (bm 25, .inl (cI, 6, .inl (fun _ => 0))), (bm 29, .inl (cI, 6, .inl (fun _ => 0))), (bm 30, .inl (cZ, 1040, .inl (fun _ => 0))), (bm 31, .inl (cI, 1040, .inl (fun _ => 0))), (bm 32, .inl (cI, 78, .inl (fun _ => 0))), (bm 27, .inl (cI, 7, .inl (fun _ => 0))), (h0, oX9 b), (b 1, oX0 bc 0 0 0 0 0 0 0 0 0 0)] := hD
  obtain rfl : r2 = (-2) := hw4
  refine lv_aload_n hx hb dL_law_1317 rfl (lv_at hl 1 rfl) ?_
  refine lv_aload_n hx hb dL_law_1318 rfl (lv_at hl 3 rfl) ?_
  refine lv_iload_n hx hb dL_law_1319 rfl (lv_at hl 0 rfl) ?_
  refine lv_iconst (v := 1) hx hb dL_law_1320 (by decide) ?_
  refine lv_iadd hx hb dL_law_1321 ?_
  refine lv_topi (fun v5 ev5 => ?_)
  obtain rfl : v5 = 1 := ev5.trans (by decide)
  refine va_sld hx hb hX hbl hbA hS (ix_in ki_1 (by omega) (by omega)) dL_law_1322 ?_
  refine W.eq (g2 := F0 m 1323 ls [.int (xs 1), .ref h1, .int (-2)]) rfl ?_
  refine k_i (wc := [(h1, oX10 bm 0 0 0 0 0 0 0 0 (-1) 0 0 0 0 0 0 0 0 0), (bm 1, .inl (cI, 149, .inl (fun _ => 0))), (bm 15, .inl (cZ, 80, .inl (fun _ => 0))), (bm 16, .inl (cI, 7, .inl (fun _ => 0))), (bm 21, .inl (cZ, 80, .inl (fun _ => 0))), (bm 24, .inl (cI, 80, .inl (fun _ => 0))), (bm 25, .inl (cI, 6, .inl (fun _ => 0))), (bm 29, .inl (cI, 6, .inl (fun _ => 0))), (bm 30, .inl (cZ, 1040, .inl (fun _ => 0))), (bm 31, .inl (cI, 1040, .inl (fun _ => 0))), (bm 32, .inl (cI, 78, .inl (fun _ => 0))), (bm 27, .inl (cI, 7, .inl (fun _ => 0)))]) (wr := [(h0, oX9 b), (b 1, oX0 bc 0 0 0 0 0 0 0 0 0 0)]) hP hD hS hA [0, 1, 2, 3, 4, 5, 6, 7, 8, 9, 10, 11] [12, 13] rfl rfl rfl (by decide) (va_runV (As := [.int (xs 1)]) (rest := [.int (-2)]) ⟨hx, hb, hml, hown, hts⟩ (f_X10_moves l G cI cJ cZ cB cQ _ h1 bm (xs 1)) (cwV 1 hts (gV w_1776 w_1777 w_1778 w_11 w_1779) rfl rfl rfl ⟨rfl, hd_X10_moves⟩ ⟨Nat.le_of_ble_eq_true rfl, Nat.le_of_ble_eq_true rfl⟩) (mV hK hZ hP hD [0, 1, 2, 3, 4, 5, 6, 7, 8, 9, 10, 11] rfl rfl [.int (xs 1)] 0 10 rfl rfl) rfl rfl hl.1 rfl (lv_room (Nat.le_of_ble_eq_true rfl)) dL_law_1323 ⟨Nat.le_of_ble_eq_true rfl, Nat.le_of_ble_eq_true rfl⟩) (fun r6 u7 H locs hw8 hP hD hS => ?_)
  obtain ⟨f09, rfl⟩ : ∃ z, z = u7 := ⟨_, rfl⟩
  try dsimp only at hw8
  have hP : va_P G vwCl [(h0, oX9 b), (b 1, oX0 bc 0 0 0 0 0 0 0 0 0 0), (h1, oX10 bm 0 0 0 0 0 0 0 0 (-1) 0 0 (-1) 0 0 0 0 0 0), (bm 1, .inl (cI, 149, .inl (fun _ => 0))), (bm 15, .inl (cZ, 80, .inl (fun _ => 0))), (bm 16, .inl (cI, 7, .inl (fun _ => 0))), (bm 21, .inl (cZ, 80, .inl (fun _ => 0))), (bm 24, .inl (cI, 80, .inl (fun _ => 0))), (bm 25, .inl (cI, 6, .inl (fun _ => 0))), (bm 29, .inl (cI, 6, .inl (fun _ => 0))), (bm 30, .inl (cZ, 1040, .inl (fun _ => 0))), (bm 31, .inl (cI, 1040, .inl (fun _ => 0))), (bm 32, .inl (cI, 78, .inl (fun _ => 0))), (bm 27, .inl (cI, 7, .inl f09))] H := hP
  have hD : va_D A [(h0, oX9 b), (b 1, oX0 bc 0 0 0 0 0 0 0 0 0 0), (h1, oX10 bm 0 0 0 0 0 0 0 0 (-1) 0 0 (-1) 0 0 0 0 0 0), (bm 1, .inl (cI, 149, .inl (fun _ => 0))), (bm 15, .inl (cZ, 80, .inl (fun _ => 0))), (bm 16, .inl (cI, 7, .inl (fun _ => 0))), (bm 21, .inl (cZ, 80, .inl (fun _ => 0))), (bm 24, .inl (cI, 80, .inl (fun _ => 0))), (bm 25, .inl (cI, 6, .inl (fun _ => 0))), (bm 29, .inl (cI, 6, .inl (fun _ => 0))), (bm 30, .inl (cZ, 1040, .inl (fun _ => 0))), (bm 31, .inl (cI, 1040, .inl (fun _ => 0))), (bm 32, .inl (cI, 78, .inl (fun _ => 0))), (bm 27, .inl (cI, 7, .inl f09))] := hD
  obtain rfl : r6 = (-2) := hw8
  refine lv_icmp_eq (tgt := 2226) hx hb dL_law_1326 (by decide) (fun c10 => ?_) (fun c10 => absurd (by decide) c10)
  refine lv_iinc (v := 6) (lv' := [(3, .int 6), (2, .ref h1), (1, .ref h0), (0, .ref sb)]) hx hb dL_law_2226 hl (k := 0) rfl (by decide) (by decide) rfl (fun ls hl => ?_)
  refine lv_goto (tgt := 18) hx hb dL_law_2229 (by decide) ?_
  exact law_exit hL6 C0 hAe hS ls (lv_sub hl [3, 0] rfl) (by decide) (by decide)
set_option maxHeartbeats 4000000 in
set_option maxRecDepth 100000 in
theorem law_37 {p : Program} {e : Env} {s : State} {m : MethodId} {below : List Frame} {meth : Method} {c : Code} {l : Launch} {sb L : Nat} {xs : Nat → Int32} {A : Nat → Prop} {G : va_G} {cI cJ cZ cB cQ : ClassId} (h0 : Nat) (b : Nat → Nat) (br : Nat → Nat) (bt : Nat → Nat) (bi : Nat → Nat) (bc : Nat → Nat) (bn : Nat → Nat) (bs : Nat → Nat) (be : Nat → Nat) (bw : Nat → Nat) (h1 : Nat) (bm : Nat → Nat) {H : Heap} {locs : List Loc} (hL : L = 6) (C0 : lw_At p s m meth c sb L xs) (hAe : A = fun q => s.heap.size ≤ q) (hK : va_K G vwCl (TY cI cJ cZ cB cQ) s) (hZ : nz s) (hP : va_P G vwCl (wX cI cJ cZ cB cQ h0 b br bt bi bc bn bs be bw ++ wM cI cJ cZ cB cQ h1 bm) H) (hD : va_D A (wX cI cJ cZ cB cQ h0 b br bt bi bc bn bs be bw ++ wM cI cJ cZ cB cQ h1 bm)) (hS : va_S A s.heap H locs) (ls : Array Slot) (hl : lv_has ls 4 [(3, .int 0), (2, .ref h1), (1, .ref h0), (0, .ref sb)]) (v : Int32) (hv : v.toInt = 37) : W p l e room_1 s m #[Value.ref sb] below meth c H locs 88 8166 (lw_Z below #[Value.ref sb] s) (F0 m 33 ls [.int v]) := by
  have hL6 : L ≤ 6 := by omega
  obtain ⟨hx, hb, hr, hml, hown, hts0, hX, hbl, hlocks, hgv⟩ := id C0
  have hown : s.vm.findClass RL = some m.cls := hown
  have hts : ∀ q ∈ GW, q.before #[Value.ref sb] s = true := fun q h => hts0 q (List.mem_filter.mp h).1
  have hA : ∀ q : Nat, s.heap.size ≤ q → A q := fun q h => by rw [hAe]; exact h
  have hbA : ¬ A sb := by rw [hAe]; exact Nat.not_le.mpr hbl
  have hLT : (Int32.ofNat L).toInt = (L : Int) := nI_toInt (by omega)
  have hLi : (L : Int) = 6 := by omega
  refine lv_tableIn (off := 1298) (tgt := 1331) hx hb dL_law_33 (by rw [hv]; decide) (by rw [hv]; decide) (by rw [hv]; rfl) (by decide) ?_
  have hP : va_P G vwCl [(h0, oX9 b), (b 1, oX0 bc 0 0 0 0 0 0 0 0 0 0), (h1, oX10 bm 0 0 0 0 0 0 0 0 (-1) 0 0 0 0 0 0 0 0 0), (bm 1, .inl (cI, 149, .inl (fun _ => 0))), (bm 15, .inl (cZ, 80, .inl (fun _ => 0))), (bm 16, .inl (cI, 7, .inl (fun _ => 0))), (bm 21, .inl (cZ, 80, .inl (fun _ => 0))), (bm 24, .inl (cI, 80, .inl (fun _ => 0))), (bm 25, .inl (cI, 6, .inl (fun _ => 0))), (bm 29, .inl (cI, 6, .inl (fun _ => 0))), (bm 30, .inl (cZ, 1040, .inl (fun _ => 0))), (bm 31, .inl (cI, 1040, .inl (fun _ => 0))), (bm 32, .inl (cI, 78, .inl (fun _ => 0))), (bm 27, .inl (cI, 7, .inl (fun _ => 0)))] H := hP.sub [0, 14, 59, 60, 66, 67, 68, 71, 72, 76, 77, 78, 79, 74] rfl
  have hD : va_D A [(h0, oX9 b), (b 1, oX0 bc 0 0 0 0 0 0 0 0 0 0), (h1, oX10 bm 0 0 0 0 0 0 0 0 (-1) 0 0 0 0 0 0 0 0 0), (bm 1, .inl (cI, 149, .inl (fun _ => 0))), (bm 15, .inl (cZ, 80, .inl (fun _ => 0))), (bm 16, .inl (cI, 7, .inl (fun _ => 0))), (bm 21, .inl (cZ, 80, .inl (fun _ => 0))), (bm 24, .inl (cI, 80, .inl (fun _ => 0))), (bm 25, .inl (cI, 6, .inl (fun _ => 0))), (bm 29, .inl (cI, 6, .inl (fun _ => 0))), (bm 30, .inl (cZ, 1040, .inl (fun _ => 0))), (bm 31, .inl (cI, 1040, .inl (fun _ => 0))), (bm 32, .inl (cI, 78, .inl (fun _ => 0))), (bm 27, .inl (cI, 7, .inl (fun _ => 0)))] := hD.sub [0, 14, 59, 60, 66, 67, 68, 71, 72, 76, 77, 78, 79, 74] rfl rfl
  refine lv_aload_n hx hb dL_law_1331 rfl (lv_at hl 2 rfl) ?_
  refine lv_aload_n hx hb dL_law_1332 rfl (lv_at hl 3 rfl) ?_
  refine lv_iload_n hx hb dL_law_1333 rfl (lv_at hl 0 rfl) ?_
  refine lv_iconst (v := 1) hx hb dL_law_1334 (by decide) ?_
  refine lv_iadd hx hb dL_law_1335 ?_
  refine lv_topi (fun v1 ev1 => ?_)
  obtain rfl : v1 = 1 := ev1.trans (by decide)
  refine va_sld hx hb hX hbl hbA hS (ix_in ki_1 (by omega) (by omega)) dL_law_1336 ?_
  refine W.eq (g2 := F0 m 1337 ls [.int (xs 1), .ref h0]) rfl ?_
  refine k_i (wc := [(h0, oX9 b), (b 1, oX0 bc 0 0 0 0 0 0 0 0 0 0)]) (wr := [(h1, oX10 bm 0 0 0 0 0 0 0 0 (-1) 0 0 0 0 0 0 0 0 0), (bm 1, .inl (cI, 149, .inl (fun _ => 0))), (bm 15, .inl (cZ, 80, .inl (fun _ => 0))), (bm 16, .inl (cI, 7, .inl (fun _ => 0))), (bm 21, .inl (cZ, 80, .inl (fun _ => 0))), (bm 24, .inl (cI, 80, .inl (fun _ => 0))), (bm 25, .inl (cI, 6, .inl (fun _ => 0))), (bm 29, .inl (cI, 6, .inl (fun _ => 0))), (bm 30, .inl (cZ, 1040, .inl (fun _ => 0))), (bm 31, .inl (cI, 1040, .inl (fun _ => 0))), (bm 32, .inl (cI, 78, .inl (fun _ => 0))), (bm 27, .inl (cI, 7, .inl (fun _ => 0)))]) hP hD hS hA [0, 1] [2, 3, 4, 5, 6, 7, 8, 9, 10, 11, 12, 13] rfl rfl rfl (by decide) (va_runV (As := [.int (xs 1)]) (rest := []) ⟨hx, hb, hml, hown, hts⟩ (f_X9_served l G cI cJ cZ cB cQ _ h0 b bc (xs 1)) (cwV 1 hts (gV w_902 w_903 w_904 w_1 w_905) rfl rfl rfl ⟨rfl, hd_X9_served⟩ ⟨Nat.le_of_ble_eq_true rfl, Nat.le_of_ble_eq_true rfl⟩) (mV hK hZ hP hD [0, 1] rfl rfl [.int (xs 1)] 0 9 rfl rfl) rfl rfl hl.1 rfl (lv_room (Nat.le_of_ble_eq_true rfl)) dL_law_1337 ⟨Nat.le_of_ble_eq_true rfl, Nat.le_of_ble_eq_true rfl⟩) (fun r2 u3 H locs hw4 hP hD hS => ?_)
  try dsimp only at hw4
  have hP : va_P G vwCl [(h1, oX10 bm 0 0 0 0 0 0 0 0 (-1) 0 0 0 0 0 0 0 0 0), (bm 1, .inl (cI, 149, .inl (fun _ => 0))), (bm 15, .inl (cZ, 80, .inl (fun _ => 0))), (bm 16, .inl (cI, 7, .inl (fun _ => 0))), (bm 21, .inl (cZ, 80, .inl (fun _ => 0))), (bm 24, .inl (cI, 80, .inl (fun _ => 0))), (bm 25, .inl (cI, 6, .inl (fun _ => 0))), (bm 29, .inl (cI, 6, .inl (fun _ => 0))), (bm 30, .inl (cZ, 1040, .inl (fun _ => 0))), (bm 31, .inl (cI, 1040, .inl (fun _ => 0))), (bm 32, .inl (cI, 78, .inl (fun _ => 0))), (bm 27, .inl (cI, 7, .inl (fun _ => 0))), (h0, oX9 b), (b 1, oX0 bc 0 0 0 0 0 0 0 0 0 0)] H := hP
  have hD : va_D A [(h1, oX10 bm 0 0 0 0 0 0 0 0 (-1) 0 0 0 0 0 0 0 0 0), (bm 1, .inl (cI, 149, .inl (fun _ => 0))), (bm 15, .inl (cZ, 80, .inl (fun _ => 0))), (bm 16, .inl (cI, 7, .inl (fun _ => 0))), (bm 21, .inl (cZ, 80, .inl (fun _ => 0))), (bm 24, .inl (cI, 80, .inl (fun _ => 0))), (bm 25, .inl (cI, 6, .inl (fun _ => 0))), (bm 29, .inl (cI, 6, .inl (fun _ => 0))), (bm 30, .inl (cZ, 1040, .inl (fun _ => 0))), (bm 31, .inl (cI, 1040, .inl (fun _ => 0))), (bm 32, .inl (cI, 78, .inl (fun _ => 0))), (bm 27, .inl (cI, 7, .inl (fun _ => 0))), (h0, oX9 b), (b 1, oX0 bc 0 0 0 0 0 0 0 0 0 0)] := hD
  obtain rfl : r2 = (-2) := hw4
  refine lv_aload_n hx hb dL_law_1340 rfl (lv_at hl 1 rfl) ?_
  refine lv_aload_n hx hb dL_law_1341 rfl (lv_at hl 3 rfl) ?_
  refine lv_iload_n hx hb dL_law_1342 rfl (lv_at hl 0 rfl) ?_
  refine lv_iconst (v := 1) hx hb dL_law_1343 (by decide) ?_
  refine lv_iadd hx hb dL_law_1344 ?_
  refine lv_topi (fun v5 ev5 => ?_)
  obtain rfl : v5 = 1 := ev5.trans (by decide)
  refine va_sld hx hb hX hbl hbA hS (ix_in ki_1 (by omega) (by omega)) dL_law_1345 ?_
  refine W.eq (g2 := F0 m 1346 ls [.int (xs 1), .ref h1, .int (-2)]) rfl ?_
  refine k_i (wc := [(h1, oX10 bm 0 0 0 0 0 0 0 0 (-1) 0 0 0 0 0 0 0 0 0), (bm 1, .inl (cI, 149, .inl (fun _ => 0))), (bm 15, .inl (cZ, 80, .inl (fun _ => 0))), (bm 16, .inl (cI, 7, .inl (fun _ => 0))), (bm 21, .inl (cZ, 80, .inl (fun _ => 0))), (bm 24, .inl (cI, 80, .inl (fun _ => 0))), (bm 25, .inl (cI, 6, .inl (fun _ => 0))), (bm 29, .inl (cI, 6, .inl (fun _ => 0))), (bm 30, .inl (cZ, 1040, .inl (fun _ => 0))), (bm 31, .inl (cI, 1040, .inl (fun _ => 0))), (bm 32, .inl (cI, 78, .inl (fun _ => 0))), (bm 27, .inl (cI, 7, .inl (fun _ => 0)))]) (wr := [(h0, oX9 b), (b 1, oX0 bc 0 0 0 0 0 0 0 0 0 0)]) hP hD hS hA [0, 1, 2, 3, 4, 5, 6, 7, 8, 9, 10, 11] [12, 13] rfl rfl rfl (by decide) (va_runV (As := [.int (xs 1)]) (rest := [.int (-2)]) ⟨hx, hb, hml, hown, hts⟩ (f_X10_served l G cI cJ cZ cB cQ _ h1 bm (xs 1)) (cwV 1 hts (gV w_1780 w_1781 w_1782 w_11 w_1783) rfl rfl rfl ⟨rfl, hd_X10_served⟩ ⟨Nat.le_of_ble_eq_true rfl, Nat.le_of_ble_eq_true rfl⟩) (mV hK hZ hP hD [0, 1, 2, 3, 4, 5, 6, 7, 8, 9, 10, 11] rfl rfl [.int (xs 1)] 0 10 rfl rfl) rfl rfl hl.1 rfl (lv_room (Nat.le_of_ble_eq_true rfl)) dL_law_1346 ⟨Nat.le_of_ble_eq_true rfl, Nat.le_of_ble_eq_true rfl⟩) (fun r6 u7 H locs hw8 hP hD hS => ?_)
  obtain ⟨f09, rfl⟩ : ∃ z, z = u7 := ⟨_, rfl⟩
  try dsimp only at hw8
  have hP : va_P G vwCl [(h0, oX9 b), (b 1, oX0 bc 0 0 0 0 0 0 0 0 0 0), (h1, oX10 bm 0 0 0 0 0 0 0 0 (-1) 0 0 (-1) 0 0 0 0 0 0), (bm 1, .inl (cI, 149, .inl (fun _ => 0))), (bm 15, .inl (cZ, 80, .inl (fun _ => 0))), (bm 16, .inl (cI, 7, .inl (fun _ => 0))), (bm 21, .inl (cZ, 80, .inl (fun _ => 0))), (bm 24, .inl (cI, 80, .inl (fun _ => 0))), (bm 25, .inl (cI, 6, .inl (fun _ => 0))), (bm 29, .inl (cI, 6, .inl (fun _ => 0))), (bm 30, .inl (cZ, 1040, .inl (fun _ => 0))), (bm 31, .inl (cI, 1040, .inl (fun _ => 0))), (bm 32, .inl (cI, 78, .inl (fun _ => 0))), (bm 27, .inl (cI, 7, .inl f09))] H := hP
  have hD : va_D A [(h0, oX9 b), (b 1, oX0 bc 0 0 0 0 0 0 0 0 0 0), (h1, oX10 bm 0 0 0 0 0 0 0 0 (-1) 0 0 (-1) 0 0 0 0 0 0), (bm 1, .inl (cI, 149, .inl (fun _ => 0))), (bm 15, .inl (cZ, 80, .inl (fun _ => 0))), (bm 16, .inl (cI, 7, .inl (fun _ => 0))), (bm 21, .inl (cZ, 80, .inl (fun _ => 0))), (bm 24, .inl (cI, 80, .inl (fun _ => 0))), (bm 25, .inl (cI, 6, .inl (fun _ => 0))), (bm 29, .inl (cI, 6, .inl (fun _ => 0))), (bm 30, .inl (cZ, 1040, .inl (fun _ => 0))), (bm 31, .inl (cI, 1040, .inl (fun _ => 0))), (bm 32, .inl (cI, 78, .inl (fun _ => 0))), (bm 27, .inl (cI, 7, .inl f09))] := hD
  obtain rfl : r6 = (-2) := hw8
  refine lv_icmp_eq (tgt := 2226) hx hb dL_law_1349 (by decide) (fun c10 => ?_) (fun c10 => absurd (by decide) c10)
  refine lv_iinc (v := 6) (lv' := [(3, .int 6), (2, .ref h1), (1, .ref h0), (0, .ref sb)]) hx hb dL_law_2226 hl (k := 0) rfl (by decide) (by decide) rfl (fun ls hl => ?_)
  refine lv_goto (tgt := 18) hx hb dL_law_2229 (by decide) ?_
  exact law_exit hL6 C0 hAe hS ls (lv_sub hl [3, 0] rfl) (by decide) (by decide)
set_option maxHeartbeats 4000000 in
set_option maxRecDepth 100000 in
theorem law_38 {p : Program} {e : Env} {s : State} {m : MethodId} {below : List Frame} {meth : Method} {c : Code} {l : Launch} {sb L : Nat} {xs : Nat → Int32} {A : Nat → Prop} {G : va_G} {cI cJ cZ cB cQ : ClassId} (h0 : Nat) (b : Nat → Nat) (br : Nat → Nat) (bt : Nat → Nat) (bi : Nat → Nat) (bc : Nat → Nat) (bn : Nat → Nat) (bs : Nat → Nat) (be : Nat → Nat) (bw : Nat → Nat) (h1 : Nat) (bm : Nat → Nat) {H : Heap} {locs : List Loc} (hL : L = 6) (C0 : lw_At p s m meth c sb L xs) (hAe : A = fun q => s.heap.size ≤ q) (hK : va_K G vwCl (TY cI cJ cZ cB cQ) s) (hZ : nz s) (hP : va_P G vwCl (wX cI cJ cZ cB cQ h0 b br bt bi bc bn bs be bw ++ wM cI cJ cZ cB cQ h1 bm) H) (hD : va_D A (wX cI cJ cZ cB cQ h0 b br bt bi bc bn bs be bw ++ wM cI cJ cZ cB cQ h1 bm)) (hS : va_S A s.heap H locs) (ls : Array Slot) (hl : lv_has ls 4 [(3, .int 0), (2, .ref h1), (1, .ref h0), (0, .ref sb)]) (v : Int32) (hv : v.toInt = 38) : W p l e room_1 s m #[Value.ref sb] below meth c H locs 88 8166 (lw_Z below #[Value.ref sb] s) (F0 m 33 ls [.int v]) := by
  have hL6 : L ≤ 6 := by omega
  obtain ⟨hx, hb, hr, hml, hown, hts0, hX, hbl, hlocks, hgv⟩ := id C0
  have hown : s.vm.findClass RL = some m.cls := hown
  have hts : ∀ q ∈ GW, q.before #[Value.ref sb] s = true := fun q h => hts0 q (List.mem_filter.mp h).1
  have hA : ∀ q : Nat, s.heap.size ≤ q → A q := fun q h => by rw [hAe]; exact h
  have hbA : ¬ A sb := by rw [hAe]; exact Nat.not_le.mpr hbl
  have hLT : (Int32.ofNat L).toInt = (L : Int) := nI_toInt (by omega)
  have hLi : (L : Int) = 6 := by omega
  refine lv_tableIn (off := 1321) (tgt := 1354) hx hb dL_law_33 (by rw [hv]; decide) (by rw [hv]; decide) (by rw [hv]; rfl) (by decide) ?_
  have hP : va_P G vwCl [(h0, oX9 b), (b 1, oX0 bc 0 0 0 0 0 0 0 0 0 0), (h1, oX10 bm 0 0 0 0 0 0 0 0 (-1) 0 0 0 0 0 0 0 0 0), (bm 1, .inl (cI, 149, .inl (fun _ => 0))), (bm 15, .inl (cZ, 80, .inl (fun _ => 0))), (bm 16, .inl (cI, 7, .inl (fun _ => 0))), (bm 21, .inl (cZ, 80, .inl (fun _ => 0))), (bm 24, .inl (cI, 80, .inl (fun _ => 0))), (bm 25, .inl (cI, 6, .inl (fun _ => 0))), (bm 29, .inl (cI, 6, .inl (fun _ => 0))), (bm 30, .inl (cZ, 1040, .inl (fun _ => 0))), (bm 31, .inl (cI, 1040, .inl (fun _ => 0))), (bm 32, .inl (cI, 78, .inl (fun _ => 0))), (bm 27, .inl (cI, 7, .inl (fun _ => 0)))] H := hP.sub [0, 14, 59, 60, 66, 67, 68, 71, 72, 76, 77, 78, 79, 74] rfl
  have hD : va_D A [(h0, oX9 b), (b 1, oX0 bc 0 0 0 0 0 0 0 0 0 0), (h1, oX10 bm 0 0 0 0 0 0 0 0 (-1) 0 0 0 0 0 0 0 0 0), (bm 1, .inl (cI, 149, .inl (fun _ => 0))), (bm 15, .inl (cZ, 80, .inl (fun _ => 0))), (bm 16, .inl (cI, 7, .inl (fun _ => 0))), (bm 21, .inl (cZ, 80, .inl (fun _ => 0))), (bm 24, .inl (cI, 80, .inl (fun _ => 0))), (bm 25, .inl (cI, 6, .inl (fun _ => 0))), (bm 29, .inl (cI, 6, .inl (fun _ => 0))), (bm 30, .inl (cZ, 1040, .inl (fun _ => 0))), (bm 31, .inl (cI, 1040, .inl (fun _ => 0))), (bm 32, .inl (cI, 78, .inl (fun _ => 0))), (bm 27, .inl (cI, 7, .inl (fun _ => 0)))] := hD.sub [0, 14, 59, 60, 66, 67, 68, 71, 72, 76, 77, 78, 79, 74] rfl rfl
  refine lv_aload_n hx hb dL_law_1354 rfl (lv_at hl 2 rfl) ?_
  refine k_i (wc := [(h0, oX9 b), (b 1, oX0 bc 0 0 0 0 0 0 0 0 0 0)]) (wr := [(h1, oX10 bm 0 0 0 0 0 0 0 0 (-1) 0 0 0 0 0 0 0 0 0), (bm 1, .inl (cI, 149, .inl (fun _ => 0))), (bm 15, .inl (cZ, 80, .inl (fun _ => 0))), (bm 16, .inl (cI, 7, .inl (fun _ => 0))), (bm 21, .inl (cZ, 80, .inl (fun _ => 0))), (bm 24, .inl (cI, 80, .inl (fun _ => 0))), (bm 25, .inl (cI, 6, .inl (fun _ => 0))), (bm 29, .inl (cI, 6, .inl (fun _ => 0))), (bm 30, .inl (cZ, 1040, .inl (fun _ => 0))), (bm 31, .inl (cI, 1040, .inl (fun _ => 0))), (bm 32, .inl (cI, 78, .inl (fun _ => 0))), (bm 27, .inl (cI, 7, .inl (fun _ => 0)))]) hP hD hS hA [0, 1] [2, 3, 4, 5, 6, 7, 8, 9, 10, 11, 12, 13] rfl rfl rfl (by decide) (va_runV (As := []) (rest := []) ⟨hx, hb, hml, hown, hts⟩ (f_X9_cover l G cI cJ cZ cB cQ _ h0 b bc) (cwV 0 hts (gV w_911 w_912 w_913 w_1 w_914) rfl rfl rfl ⟨rfl, hd_X9_cover⟩ ⟨Nat.le_of_ble_eq_true rfl, Nat.le_of_ble_eq_true rfl⟩) (mV hK hZ hP hD [0, 1] rfl rfl [] 0 9 rfl rfl) rfl rfl hl.1 rfl (lv_room (Nat.le_of_ble_eq_true rfl)) dL_law_1355 ⟨Nat.le_of_ble_eq_true rfl, Nat.le_of_ble_eq_true rfl⟩) (fun r1 u2 H locs hw3 hP hD hS => ?_)
  try dsimp only at hw3
  have hP : va_P G vwCl [(h1, oX10 bm 0 0 0 0 0 0 0 0 (-1) 0 0 0 0 0 0 0 0 0), (bm 1, .inl (cI, 149, .inl (fun _ => 0))), (bm 15, .inl (cZ, 80, .inl (fun _ => 0))), (bm 16, .inl (cI, 7, .inl (fun _ => 0))), (bm 21, .inl (cZ, 80, .inl (fun _ => 0))), (bm 24, .inl (cI, 80, .inl (fun _ => 0))), (bm 25, .inl (cI, 6, .inl (fun _ => 0))), (bm 29, .inl (cI, 6, .inl (fun _ => 0))), (bm 30, .inl (cZ, 1040, .inl (fun _ => 0))), (bm 31, .inl (cI, 1040, .inl (fun _ => 0))), (bm 32, .inl (cI, 78, .inl (fun _ => 0))), (bm 27, .inl (cI, 7, .inl (fun _ => 0))), (h0, oX9 b), (b 1, oX0 bc 0 0 0 0 0 0 0 0 0 0)] H := hP
  have hD : va_D A [(h1, oX10 bm 0 0 0 0 0 0 0 0 (-1) 0 0 0 0 0 0 0 0 0), (bm 1, .inl (cI, 149, .inl (fun _ => 0))), (bm 15, .inl (cZ, 80, .inl (fun _ => 0))), (bm 16, .inl (cI, 7, .inl (fun _ => 0))), (bm 21, .inl (cZ, 80, .inl (fun _ => 0))), (bm 24, .inl (cI, 80, .inl (fun _ => 0))), (bm 25, .inl (cI, 6, .inl (fun _ => 0))), (bm 29, .inl (cI, 6, .inl (fun _ => 0))), (bm 30, .inl (cZ, 1040, .inl (fun _ => 0))), (bm 31, .inl (cI, 1040, .inl (fun _ => 0))), (bm 32, .inl (cI, 78, .inl (fun _ => 0))), (bm 27, .inl (cI, 7, .inl (fun _ => 0))), (h0, oX9 b), (b 1, oX0 bc 0 0 0 0 0 0 0 0 0 0)] := hD
  obtain rfl : r1 = (-2) := hw3
  refine lv_aload_n hx hb dL_law_1358 rfl (lv_at hl 1 rfl) ?_
  refine k_i (wc := [(h1, oX10 bm 0 0 0 0 0 0 0 0 (-1) 0 0 0 0 0 0 0 0 0), (bm 1, .inl (cI, 149, .inl (fun _ => 0))), (bm 15, .inl (cZ, 80, .inl (fun _ => 0))), (bm 16, .inl (cI, 7, .inl (fun _ => 0))), (bm 21, .inl (cZ, 80, .inl (fun _ => 0))), (bm 24, .inl (cI, 80, .inl (fun _ => 0))), (bm 25, .inl (cI, 6, .inl (fun _ => 0))), (bm 29, .inl (cI, 6, .inl (fun _ => 0))), (bm 30, .inl (cZ, 1040, .inl (fun _ => 0))), (bm 31, .inl (cI, 1040, .inl (fun _ => 0))), (bm 32, .inl (cI, 78, .inl (fun _ => 0))), (bm 27, .inl (cI, 7, .inl (fun _ => 0)))]) (wr := [(h0, oX9 b), (b 1, oX0 bc 0 0 0 0 0 0 0 0 0 0)]) hP hD hS hA [0, 1, 2, 3, 4, 5, 6, 7, 8, 9, 10, 11] [12, 13] rfl rfl rfl (by decide) (va_runV (As := []) (rest := [.int (-2)]) ⟨hx, hb, hml, hown, hts⟩ (f_X10_cover l G cI cJ cZ cB cQ _ h1 bm) (cwV 0 hts (gV w_1752 w_1753 w_1754 w_11 w_1755) rfl rfl rfl ⟨rfl, hd_X10_cover⟩ ⟨Nat.le_of_ble_eq_true rfl, Nat.le_of_ble_eq_true rfl⟩) (mV hK hZ hP hD [0, 1, 2, 3, 4, 5, 6, 7, 8, 9, 10, 11] rfl rfl [] 0 10 rfl rfl) rfl rfl hl.1 rfl (lv_room (Nat.le_of_ble_eq_true rfl)) dL_law_1359 ⟨Nat.le_of_ble_eq_true rfl, Nat.le_of_ble_eq_true rfl⟩) (fun r4 u5 H locs hw6 hP hD hS => ?_)
  obtain ⟨f07, rfl⟩ : ∃ z, z = u5 := ⟨_, rfl⟩
  try dsimp only at hw6
  have hP : va_P G vwCl [(h0, oX9 b), (b 1, oX0 bc 0 0 0 0 0 0 0 0 0 0), (h1, oX10 bm 0 0 0 0 0 0 0 0 (-1) 0 0 (-1) 0 0 0 0 0 0), (bm 1, .inl (cI, 149, .inl (fun _ => 0))), (bm 15, .inl (cZ, 80, .inl (fun _ => 0))), (bm 16, .inl (cI, 7, .inl (fun _ => 0))), (bm 21, .inl (cZ, 80, .inl (fun _ => 0))), (bm 24, .inl (cI, 80, .inl (fun _ => 0))), (bm 25, .inl (cI, 6, .inl (fun _ => 0))), (bm 29, .inl (cI, 6, .inl (fun _ => 0))), (bm 30, .inl (cZ, 1040, .inl (fun _ => 0))), (bm 31, .inl (cI, 1040, .inl (fun _ => 0))), (bm 32, .inl (cI, 78, .inl (fun _ => 0))), (bm 27, .inl (cI, 7, .inl f07))] H := hP
  have hD : va_D A [(h0, oX9 b), (b 1, oX0 bc 0 0 0 0 0 0 0 0 0 0), (h1, oX10 bm 0 0 0 0 0 0 0 0 (-1) 0 0 (-1) 0 0 0 0 0 0), (bm 1, .inl (cI, 149, .inl (fun _ => 0))), (bm 15, .inl (cZ, 80, .inl (fun _ => 0))), (bm 16, .inl (cI, 7, .inl (fun _ => 0))), (bm 21, .inl (cZ, 80, .inl (fun _ => 0))), (bm 24, .inl (cI, 80, .inl (fun _ => 0))), (bm 25, .inl (cI, 6, .inl (fun _ => 0))), (bm 29, .inl (cI, 6, .inl (fun _ => 0))), (bm 30, .inl (cZ, 1040, .inl (fun _ => 0))), (bm 31, .inl (cI, 1040, .inl (fun _ => 0))), (bm 32, .inl (cI, 78, .inl (fun _ => 0))), (bm 27, .inl (cI, 7, .inl f07))] := hD
  obtain rfl : r4 = (-2) := hw6
  refine lv_icmp_eq (tgt := 2226) hx hb dL_law_1362 (by decide) (fun c8 => ?_) (fun c8 => absurd (by decide) c8)
  refine lv_iinc (v := 6) (lv' := [(3, .int 6), (2, .ref h1), (1, .ref h0), (0, .ref sb)]) hx hb dL_law_2226 hl (k := 0) rfl (by decide) (by decide) rfl (fun ls hl => ?_)
  refine lv_goto (tgt := 18) hx hb dL_law_2229 (by decide) ?_
  exact law_exit hL6 C0 hAe hS ls (lv_sub hl [3, 0] rfl) (by decide) (by decide)
set_option maxHeartbeats 4000000 in
set_option maxRecDepth 100000 in
theorem law_39 {p : Program} {e : Env} {s : State} {m : MethodId} {below : List Frame} {meth : Method} {c : Code} {l : Launch} {sb L : Nat} {xs : Nat → Int32} {A : Nat → Prop} {G : va_G} {cI cJ cZ cB cQ : ClassId} (h0 : Nat) (b : Nat → Nat) (br : Nat → Nat) (bt : Nat → Nat) (bi : Nat → Nat) (bc : Nat → Nat) (bn : Nat → Nat) (bs : Nat → Nat) (be : Nat → Nat) (bw : Nat → Nat) (h1 : Nat) (bm : Nat → Nat) {H : Heap} {locs : List Loc} (hL : L = 6) (C0 : lw_At p s m meth c sb L xs) (hAe : A = fun q => s.heap.size ≤ q) (hK : va_K G vwCl (TY cI cJ cZ cB cQ) s) (hZ : nz s) (hP : va_P G vwCl (wX cI cJ cZ cB cQ h0 b br bt bi bc bn bs be bw ++ wM cI cJ cZ cB cQ h1 bm) H) (hD : va_D A (wX cI cJ cZ cB cQ h0 b br bt bi bc bn bs be bw ++ wM cI cJ cZ cB cQ h1 bm)) (hS : va_S A s.heap H locs) (ls : Array Slot) (hl : lv_has ls 4 [(3, .int 0), (2, .ref h1), (1, .ref h0), (0, .ref sb)]) (v : Int32) (hv : v.toInt = 39) : W p l e room_1 s m #[Value.ref sb] below meth c H locs 88 8166 (lw_Z below #[Value.ref sb] s) (F0 m 33 ls [.int v]) := by
  have hL6 : L ≤ 6 := by omega
  obtain ⟨hx, hb, hr, hml, hown, hts0, hX, hbl, hlocks, hgv⟩ := id C0
  have hown : s.vm.findClass RL = some m.cls := hown
  have hts : ∀ q ∈ GW, q.before #[Value.ref sb] s = true := fun q h => hts0 q (List.mem_filter.mp h).1
  have hA : ∀ q : Nat, s.heap.size ≤ q → A q := fun q h => by rw [hAe]; exact h
  have hbA : ¬ A sb := by rw [hAe]; exact Nat.not_le.mpr hbl
  have hLT : (Int32.ofNat L).toInt = (L : Int) := nI_toInt (by omega)
  have hLi : (L : Int) = 6 := by omega
  refine lv_tableIn (off := 1334) (tgt := 1367) hx hb dL_law_33 (by rw [hv]; decide) (by rw [hv]; decide) (by rw [hv]; rfl) (by decide) ?_
  have hP : va_P G vwCl [(h0, oX9 b), (b 1, oX0 bc 0 0 0 0 0 0 0 0 0 0), (h1, oX10 bm 0 0 0 0 0 0 0 0 (-1) 0 0 0 0 0 0 0 0 0), (bm 1, .inl (cI, 149, .inl (fun _ => 0))), (bm 15, .inl (cZ, 80, .inl (fun _ => 0))), (bm 16, .inl (cI, 7, .inl (fun _ => 0))), (bm 21, .inl (cZ, 80, .inl (fun _ => 0))), (bm 24, .inl (cI, 80, .inl (fun _ => 0))), (bm 25, .inl (cI, 6, .inl (fun _ => 0))), (bm 29, .inl (cI, 6, .inl (fun _ => 0))), (bm 30, .inl (cZ, 1040, .inl (fun _ => 0))), (bm 31, .inl (cI, 1040, .inl (fun _ => 0))), (bm 32, .inl (cI, 78, .inl (fun _ => 0))), (bm 27, .inl (cI, 7, .inl (fun _ => 0)))] H := hP.sub [0, 14, 59, 60, 66, 67, 68, 71, 72, 76, 77, 78, 79, 74] rfl
  have hD : va_D A [(h0, oX9 b), (b 1, oX0 bc 0 0 0 0 0 0 0 0 0 0), (h1, oX10 bm 0 0 0 0 0 0 0 0 (-1) 0 0 0 0 0 0 0 0 0), (bm 1, .inl (cI, 149, .inl (fun _ => 0))), (bm 15, .inl (cZ, 80, .inl (fun _ => 0))), (bm 16, .inl (cI, 7, .inl (fun _ => 0))), (bm 21, .inl (cZ, 80, .inl (fun _ => 0))), (bm 24, .inl (cI, 80, .inl (fun _ => 0))), (bm 25, .inl (cI, 6, .inl (fun _ => 0))), (bm 29, .inl (cI, 6, .inl (fun _ => 0))), (bm 30, .inl (cZ, 1040, .inl (fun _ => 0))), (bm 31, .inl (cI, 1040, .inl (fun _ => 0))), (bm 32, .inl (cI, 78, .inl (fun _ => 0))), (bm 27, .inl (cI, 7, .inl (fun _ => 0)))] := hD.sub [0, 14, 59, 60, 66, 67, 68, 71, 72, 76, 77, 78, 79, 74] rfl rfl
  refine lv_aload_n hx hb dL_law_1367 rfl (lv_at hl 2 rfl) ?_
  refine k_i (wc := [(h0, oX9 b), (b 1, oX0 bc 0 0 0 0 0 0 0 0 0 0)]) (wr := [(h1, oX10 bm 0 0 0 0 0 0 0 0 (-1) 0 0 0 0 0 0 0 0 0), (bm 1, .inl (cI, 149, .inl (fun _ => 0))), (bm 15, .inl (cZ, 80, .inl (fun _ => 0))), (bm 16, .inl (cI, 7, .inl (fun _ => 0))), (bm 21, .inl (cZ, 80, .inl (fun _ => 0))), (bm 24, .inl (cI, 80, .inl (fun _ => 0))), (bm 25, .inl (cI, 6, .inl (fun _ => 0))), (bm 29, .inl (cI, 6, .inl (fun _ => 0))), (bm 30, .inl (cZ, 1040, .inl (fun _ => 0))), (bm 31, .inl (cI, 1040, .inl (fun _ => 0))), (bm 32, .inl (cI, 78, .inl (fun _ => 0))), (bm 27, .inl (cI, 7, .inl (fun _ => 0)))]) hP hD hS hA [0, 1] [2, 3, 4, 5, 6, 7, 8, 9, 10, 11, 12, 13] rfl rfl rfl (by decide) (va_runV (As := []) (rest := []) ⟨hx, hb, hml, hown, hts⟩ (f_X9_covers l G cI cJ cZ cB cQ _ h0 b bc) (cwV 0 hts (gV w_923 w_924 w_925 w_1 w_926) rfl rfl rfl ⟨rfl, hd_X9_covers⟩ ⟨Nat.le_of_ble_eq_true rfl, Nat.le_of_ble_eq_true rfl⟩) (mV hK hZ hP hD [0, 1] rfl rfl [] 0 9 rfl rfl) rfl rfl hl.1 rfl (lv_room (Nat.le_of_ble_eq_true rfl)) dL_law_1368 ⟨Nat.le_of_ble_eq_true rfl, Nat.le_of_ble_eq_true rfl⟩) (fun r1 u2 H locs hw3 hP hD hS => ?_)
  try dsimp only at hw3
  have hP : va_P G vwCl [(h1, oX10 bm 0 0 0 0 0 0 0 0 (-1) 0 0 0 0 0 0 0 0 0), (bm 1, .inl (cI, 149, .inl (fun _ => 0))), (bm 15, .inl (cZ, 80, .inl (fun _ => 0))), (bm 16, .inl (cI, 7, .inl (fun _ => 0))), (bm 21, .inl (cZ, 80, .inl (fun _ => 0))), (bm 24, .inl (cI, 80, .inl (fun _ => 0))), (bm 25, .inl (cI, 6, .inl (fun _ => 0))), (bm 29, .inl (cI, 6, .inl (fun _ => 0))), (bm 30, .inl (cZ, 1040, .inl (fun _ => 0))), (bm 31, .inl (cI, 1040, .inl (fun _ => 0))), (bm 32, .inl (cI, 78, .inl (fun _ => 0))), (bm 27, .inl (cI, 7, .inl (fun _ => 0))), (h0, oX9 b), (b 1, oX0 bc 0 0 0 0 0 0 0 0 0 0)] H := hP
  have hD : va_D A [(h1, oX10 bm 0 0 0 0 0 0 0 0 (-1) 0 0 0 0 0 0 0 0 0), (bm 1, .inl (cI, 149, .inl (fun _ => 0))), (bm 15, .inl (cZ, 80, .inl (fun _ => 0))), (bm 16, .inl (cI, 7, .inl (fun _ => 0))), (bm 21, .inl (cZ, 80, .inl (fun _ => 0))), (bm 24, .inl (cI, 80, .inl (fun _ => 0))), (bm 25, .inl (cI, 6, .inl (fun _ => 0))), (bm 29, .inl (cI, 6, .inl (fun _ => 0))), (bm 30, .inl (cZ, 1040, .inl (fun _ => 0))), (bm 31, .inl (cI, 1040, .inl (fun _ => 0))), (bm 32, .inl (cI, 78, .inl (fun _ => 0))), (bm 27, .inl (cI, 7, .inl (fun _ => 0))), (h0, oX9 b), (b 1, oX0 bc 0 0 0 0 0 0 0 0 0 0)] := hD
  obtain rfl : r1 = (-2) := hw3
  refine lv_aload_n hx hb dL_law_1371 rfl (lv_at hl 1 rfl) ?_
  refine k_i (wc := [(h1, oX10 bm 0 0 0 0 0 0 0 0 (-1) 0 0 0 0 0 0 0 0 0), (bm 1, .inl (cI, 149, .inl (fun _ => 0))), (bm 15, .inl (cZ, 80, .inl (fun _ => 0))), (bm 16, .inl (cI, 7, .inl (fun _ => 0))), (bm 21, .inl (cZ, 80, .inl (fun _ => 0))), (bm 24, .inl (cI, 80, .inl (fun _ => 0))), (bm 25, .inl (cI, 6, .inl (fun _ => 0))), (bm 29, .inl (cI, 6, .inl (fun _ => 0))), (bm 30, .inl (cZ, 1040, .inl (fun _ => 0))), (bm 31, .inl (cI, 1040, .inl (fun _ => 0))), (bm 32, .inl (cI, 78, .inl (fun _ => 0))), (bm 27, .inl (cI, 7, .inl (fun _ => 0)))]) (wr := [(h0, oX9 b), (b 1, oX0 bc 0 0 0 0 0 0 0 0 0 0)]) hP hD hS hA [0, 1, 2, 3, 4, 5, 6, 7, 8, 9, 10, 11] [12, 13] rfl rfl rfl (by decide) (va_runV (As := []) (rest := [.int (-2)]) ⟨hx, hb, hml, hown, hts⟩ (f_X10_covers l G cI cJ cZ cB cQ _ h1 bm) (cwV 0 hts (gV w_1760 w_1761 w_1762 w_11 w_1763) rfl rfl rfl ⟨rfl, hd_X10_covers⟩ ⟨Nat.le_of_ble_eq_true rfl, Nat.le_of_ble_eq_true rfl⟩) (mV hK hZ hP hD [0, 1, 2, 3, 4, 5, 6, 7, 8, 9, 10, 11] rfl rfl [] 0 10 rfl rfl) rfl rfl hl.1 rfl (lv_room (Nat.le_of_ble_eq_true rfl)) dL_law_1372 ⟨Nat.le_of_ble_eq_true rfl, Nat.le_of_ble_eq_true rfl⟩) (fun r4 u5 H locs hw6 hP hD hS => ?_)
  obtain ⟨f07, rfl⟩ : ∃ z, z = u5 := ⟨_, rfl⟩
  try dsimp only at hw6
  have hP : va_P G vwCl [(h0, oX9 b), (b 1, oX0 bc 0 0 0 0 0 0 0 0 0 0), (h1, oX10 bm 0 0 0 0 0 0 0 0 (-1) 0 0 (-1) 0 0 0 0 0 0), (bm 1, .inl (cI, 149, .inl (fun _ => 0))), (bm 15, .inl (cZ, 80, .inl (fun _ => 0))), (bm 16, .inl (cI, 7, .inl (fun _ => 0))), (bm 21, .inl (cZ, 80, .inl (fun _ => 0))), (bm 24, .inl (cI, 80, .inl (fun _ => 0))), (bm 25, .inl (cI, 6, .inl (fun _ => 0))), (bm 29, .inl (cI, 6, .inl (fun _ => 0))), (bm 30, .inl (cZ, 1040, .inl (fun _ => 0))), (bm 31, .inl (cI, 1040, .inl (fun _ => 0))), (bm 32, .inl (cI, 78, .inl (fun _ => 0))), (bm 27, .inl (cI, 7, .inl f07))] H := hP
  have hD : va_D A [(h0, oX9 b), (b 1, oX0 bc 0 0 0 0 0 0 0 0 0 0), (h1, oX10 bm 0 0 0 0 0 0 0 0 (-1) 0 0 (-1) 0 0 0 0 0 0), (bm 1, .inl (cI, 149, .inl (fun _ => 0))), (bm 15, .inl (cZ, 80, .inl (fun _ => 0))), (bm 16, .inl (cI, 7, .inl (fun _ => 0))), (bm 21, .inl (cZ, 80, .inl (fun _ => 0))), (bm 24, .inl (cI, 80, .inl (fun _ => 0))), (bm 25, .inl (cI, 6, .inl (fun _ => 0))), (bm 29, .inl (cI, 6, .inl (fun _ => 0))), (bm 30, .inl (cZ, 1040, .inl (fun _ => 0))), (bm 31, .inl (cI, 1040, .inl (fun _ => 0))), (bm 32, .inl (cI, 78, .inl (fun _ => 0))), (bm 27, .inl (cI, 7, .inl f07))] := hD
  obtain rfl : r4 = (-2) := hw6
  refine lv_icmp_eq (tgt := 2226) hx hb dL_law_1375 (by decide) (fun c8 => ?_) (fun c8 => absurd (by decide) c8)
  refine lv_iinc (v := 6) (lv' := [(3, .int 6), (2, .ref h1), (1, .ref h0), (0, .ref sb)]) hx hb dL_law_2226 hl (k := 0) rfl (by decide) (by decide) rfl (fun ls hl => ?_)
  refine lv_goto (tgt := 18) hx hb dL_law_2229 (by decide) ?_
  exact law_exit hL6 C0 hAe hS ls (lv_sub hl [3, 0] rfl) (by decide) (by decide)
set_option maxHeartbeats 4000000 in
set_option maxRecDepth 100000 in
theorem law_40 {p : Program} {e : Env} {s : State} {m : MethodId} {below : List Frame} {meth : Method} {c : Code} {l : Launch} {sb L : Nat} {xs : Nat → Int32} {A : Nat → Prop} {G : va_G} {cI cJ cZ cB cQ : ClassId} (h0 : Nat) (b : Nat → Nat) (br : Nat → Nat) (bt : Nat → Nat) (bi : Nat → Nat) (bc : Nat → Nat) (bn : Nat → Nat) (bs : Nat → Nat) (be : Nat → Nat) (bw : Nat → Nat) (h1 : Nat) (bm : Nat → Nat) {H : Heap} {locs : List Loc} (hL : L = 6) (C0 : lw_At p s m meth c sb L xs) (hAe : A = fun q => s.heap.size ≤ q) (hK : va_K G vwCl (TY cI cJ cZ cB cQ) s) (hZ : nz s) (hP : va_P G vwCl (wX cI cJ cZ cB cQ h0 b br bt bi bc bn bs be bw ++ wM cI cJ cZ cB cQ h1 bm) H) (hD : va_D A (wX cI cJ cZ cB cQ h0 b br bt bi bc bn bs be bw ++ wM cI cJ cZ cB cQ h1 bm)) (hS : va_S A s.heap H locs) (ls : Array Slot) (hl : lv_has ls 4 [(3, .int 0), (2, .ref h1), (1, .ref h0), (0, .ref sb)]) (v : Int32) (hv : v.toInt = 40) : W p l e room_1 s m #[Value.ref sb] below meth c H locs 88 8166 (lw_Z below #[Value.ref sb] s) (F0 m 33 ls [.int v]) := by
  have hL6 : L ≤ 6 := by omega
  obtain ⟨hx, hb, hr, hml, hown, hts0, hX, hbl, hlocks, hgv⟩ := id C0
  have hown : s.vm.findClass RL = some m.cls := hown
  have hts : ∀ q ∈ GW, q.before #[Value.ref sb] s = true := fun q h => hts0 q (List.mem_filter.mp h).1
  have hA : ∀ q : Nat, s.heap.size ≤ q → A q := fun q h => by rw [hAe]; exact h
  have hbA : ¬ A sb := by rw [hAe]; exact Nat.not_le.mpr hbl
  have hLT : (Int32.ofNat L).toInt = (L : Int) := nI_toInt (by omega)
  have hLi : (L : Int) = 6 := by omega
  refine lv_tableIn (off := 1347) (tgt := 1380) hx hb dL_law_33 (by rw [hv]; decide) (by rw [hv]; decide) (by rw [hv]; rfl) (by decide) ?_
  have hP : va_P G vwCl [(h0, oX9 b), (b 1, oX0 bc 0 0 0 0 0 0 0 0 0 0), (h1, oX10 bm 0 0 0 0 0 0 0 0 (-1) 0 0 0 0 0 0 0 0 0), (bm 1, .inl (cI, 149, .inl (fun _ => 0))), (bm 15, .inl (cZ, 80, .inl (fun _ => 0))), (bm 16, .inl (cI, 7, .inl (fun _ => 0))), (bm 21, .inl (cZ, 80, .inl (fun _ => 0))), (bm 24, .inl (cI, 80, .inl (fun _ => 0))), (bm 25, .inl (cI, 6, .inl (fun _ => 0))), (bm 29, .inl (cI, 6, .inl (fun _ => 0))), (bm 30, .inl (cZ, 1040, .inl (fun _ => 0))), (bm 31, .inl (cI, 1040, .inl (fun _ => 0))), (bm 32, .inl (cI, 78, .inl (fun _ => 0))), (bm 27, .inl (cI, 7, .inl (fun _ => 0)))] H := hP.sub [0, 14, 59, 60, 66, 67, 68, 71, 72, 76, 77, 78, 79, 74] rfl
  have hD : va_D A [(h0, oX9 b), (b 1, oX0 bc 0 0 0 0 0 0 0 0 0 0), (h1, oX10 bm 0 0 0 0 0 0 0 0 (-1) 0 0 0 0 0 0 0 0 0), (bm 1, .inl (cI, 149, .inl (fun _ => 0))), (bm 15, .inl (cZ, 80, .inl (fun _ => 0))), (bm 16, .inl (cI, 7, .inl (fun _ => 0))), (bm 21, .inl (cZ, 80, .inl (fun _ => 0))), (bm 24, .inl (cI, 80, .inl (fun _ => 0))), (bm 25, .inl (cI, 6, .inl (fun _ => 0))), (bm 29, .inl (cI, 6, .inl (fun _ => 0))), (bm 30, .inl (cZ, 1040, .inl (fun _ => 0))), (bm 31, .inl (cI, 1040, .inl (fun _ => 0))), (bm 32, .inl (cI, 78, .inl (fun _ => 0))), (bm 27, .inl (cI, 7, .inl (fun _ => 0)))] := hD.sub [0, 14, 59, 60, 66, 67, 68, 71, 72, 76, 77, 78, 79, 74] rfl rfl
  refine lv_aload_n hx hb dL_law_1380 rfl (lv_at hl 2 rfl) ?_
  refine k_i (wc := [(h0, oX9 b), (b 1, oX0 bc 0 0 0 0 0 0 0 0 0 0)]) (wr := [(h1, oX10 bm 0 0 0 0 0 0 0 0 (-1) 0 0 0 0 0 0 0 0 0), (bm 1, .inl (cI, 149, .inl (fun _ => 0))), (bm 15, .inl (cZ, 80, .inl (fun _ => 0))), (bm 16, .inl (cI, 7, .inl (fun _ => 0))), (bm 21, .inl (cZ, 80, .inl (fun _ => 0))), (bm 24, .inl (cI, 80, .inl (fun _ => 0))), (bm 25, .inl (cI, 6, .inl (fun _ => 0))), (bm 29, .inl (cI, 6, .inl (fun _ => 0))), (bm 30, .inl (cZ, 1040, .inl (fun _ => 0))), (bm 31, .inl (cI, 1040, .inl (fun _ => 0))), (bm 32, .inl (cI, 78, .inl (fun _ => 0))), (bm 27, .inl (cI, 7, .inl (fun _ => 0)))]) hP hD hS hA [0, 1] [2, 3, 4, 5, 6, 7, 8, 9, 10, 11, 12, 13] rfl rfl rfl (by decide) (va_runV (As := []) (rest := []) ⟨hx, hb, hml, hown, hts⟩ (f_X9_blame l G cI cJ cZ cB cQ _ h0 b bc) (cwV 0 hts (gV w_927 w_928 w_929 w_1 w_930) rfl rfl rfl ⟨rfl, hd_X9_blame⟩ ⟨Nat.le_of_ble_eq_true rfl, Nat.le_of_ble_eq_true rfl⟩) (mV hK hZ hP hD [0, 1] rfl rfl [] 0 9 rfl rfl) rfl rfl hl.1 rfl (lv_room (Nat.le_of_ble_eq_true rfl)) dL_law_1381 ⟨Nat.le_of_ble_eq_true rfl, Nat.le_of_ble_eq_true rfl⟩) (fun r1 u2 H locs hw3 hP hD hS => ?_)
  try dsimp only at hw3
  have hP : va_P G vwCl [(h1, oX10 bm 0 0 0 0 0 0 0 0 (-1) 0 0 0 0 0 0 0 0 0), (bm 1, .inl (cI, 149, .inl (fun _ => 0))), (bm 15, .inl (cZ, 80, .inl (fun _ => 0))), (bm 16, .inl (cI, 7, .inl (fun _ => 0))), (bm 21, .inl (cZ, 80, .inl (fun _ => 0))), (bm 24, .inl (cI, 80, .inl (fun _ => 0))), (bm 25, .inl (cI, 6, .inl (fun _ => 0))), (bm 29, .inl (cI, 6, .inl (fun _ => 0))), (bm 30, .inl (cZ, 1040, .inl (fun _ => 0))), (bm 31, .inl (cI, 1040, .inl (fun _ => 0))), (bm 32, .inl (cI, 78, .inl (fun _ => 0))), (bm 27, .inl (cI, 7, .inl (fun _ => 0))), (h0, oX9 b), (b 1, oX0 bc 0 0 0 0 0 0 0 0 0 0)] H := hP
  have hD : va_D A [(h1, oX10 bm 0 0 0 0 0 0 0 0 (-1) 0 0 0 0 0 0 0 0 0), (bm 1, .inl (cI, 149, .inl (fun _ => 0))), (bm 15, .inl (cZ, 80, .inl (fun _ => 0))), (bm 16, .inl (cI, 7, .inl (fun _ => 0))), (bm 21, .inl (cZ, 80, .inl (fun _ => 0))), (bm 24, .inl (cI, 80, .inl (fun _ => 0))), (bm 25, .inl (cI, 6, .inl (fun _ => 0))), (bm 29, .inl (cI, 6, .inl (fun _ => 0))), (bm 30, .inl (cZ, 1040, .inl (fun _ => 0))), (bm 31, .inl (cI, 1040, .inl (fun _ => 0))), (bm 32, .inl (cI, 78, .inl (fun _ => 0))), (bm 27, .inl (cI, 7, .inl (fun _ => 0))), (h0, oX9 b), (b 1, oX0 bc 0 0 0 0 0 0 0 0 0 0)] := hD
  obtain rfl : r1 = (-2) := hw3
  refine lv_aload_n hx hb dL_law_1384 rfl (lv_at hl 1 rfl) ?_
  refine k_i (wc := [(h1, oX10 bm 0 0 0 0 0 0 0 0 (-1) 0 0 0 0 0 0 0 0 0), (bm 1, .inl (cI, 149, .inl (fun _ => 0))), (bm 15, .inl (cZ, 80, .inl (fun _ => 0))), (bm 16, .inl (cI, 7, .inl (fun _ => 0))), (bm 21, .inl (cZ, 80, .inl (fun _ => 0))), (bm 24, .inl (cI, 80, .inl (fun _ => 0))), (bm 25, .inl (cI, 6, .inl (fun _ => 0))), (bm 29, .inl (cI, 6, .inl (fun _ => 0))), (bm 30, .inl (cZ, 1040, .inl (fun _ => 0))), (bm 31, .inl (cI, 1040, .inl (fun _ => 0))), (bm 32, .inl (cI, 78, .inl (fun _ => 0))), (bm 27, .inl (cI, 7, .inl (fun _ => 0)))]) (wr := [(h0, oX9 b), (b 1, oX0 bc 0 0 0 0 0 0 0 0 0 0)]) hP hD hS hA [0, 1, 2, 3, 4, 5, 6, 7, 8, 9, 10, 11] [12, 13] rfl rfl rfl (by decide) (va_runV (As := []) (rest := [.int (-2)]) ⟨hx, hb, hml, hown, hts⟩ (f_X10_blame l G cI cJ cZ cB cQ _ h1 bm) (cwV 0 hts (gV w_1788 w_1789 w_1790 w_11 w_1791) rfl rfl rfl ⟨rfl, hd_X10_blame⟩ ⟨Nat.le_of_ble_eq_true rfl, Nat.le_of_ble_eq_true rfl⟩) (mV hK hZ hP hD [0, 1, 2, 3, 4, 5, 6, 7, 8, 9, 10, 11] rfl rfl [] 0 10 rfl rfl) rfl rfl hl.1 rfl (lv_room (Nat.le_of_ble_eq_true rfl)) dL_law_1385 ⟨Nat.le_of_ble_eq_true rfl, Nat.le_of_ble_eq_true rfl⟩) (fun r4 u5 H locs hw6 hP hD hS => ?_)
  obtain ⟨f07, rfl⟩ : ∃ z, z = u5 := ⟨_, rfl⟩
  try dsimp only at hw6
  have hP : va_P G vwCl [(h0, oX9 b), (b 1, oX0 bc 0 0 0 0 0 0 0 0 0 0), (h1, oX10 bm 0 0 0 0 0 0 0 0 (-1) 0 0 (-1) 0 0 0 0 0 0), (bm 1, .inl (cI, 149, .inl (fun _ => 0))), (bm 15, .inl (cZ, 80, .inl (fun _ => 0))), (bm 16, .inl (cI, 7, .inl (fun _ => 0))), (bm 21, .inl (cZ, 80, .inl (fun _ => 0))), (bm 24, .inl (cI, 80, .inl (fun _ => 0))), (bm 25, .inl (cI, 6, .inl (fun _ => 0))), (bm 29, .inl (cI, 6, .inl (fun _ => 0))), (bm 30, .inl (cZ, 1040, .inl (fun _ => 0))), (bm 31, .inl (cI, 1040, .inl (fun _ => 0))), (bm 32, .inl (cI, 78, .inl (fun _ => 0))), (bm 27, .inl (cI, 7, .inl f07))] H := hP
  have hD : va_D A [(h0, oX9 b), (b 1, oX0 bc 0 0 0 0 0 0 0 0 0 0), (h1, oX10 bm 0 0 0 0 0 0 0 0 (-1) 0 0 (-1) 0 0 0 0 0 0), (bm 1, .inl (cI, 149, .inl (fun _ => 0))), (bm 15, .inl (cZ, 80, .inl (fun _ => 0))), (bm 16, .inl (cI, 7, .inl (fun _ => 0))), (bm 21, .inl (cZ, 80, .inl (fun _ => 0))), (bm 24, .inl (cI, 80, .inl (fun _ => 0))), (bm 25, .inl (cI, 6, .inl (fun _ => 0))), (bm 29, .inl (cI, 6, .inl (fun _ => 0))), (bm 30, .inl (cZ, 1040, .inl (fun _ => 0))), (bm 31, .inl (cI, 1040, .inl (fun _ => 0))), (bm 32, .inl (cI, 78, .inl (fun _ => 0))), (bm 27, .inl (cI, 7, .inl f07))] := hD
  obtain rfl : r4 = (-2) := hw6
  refine lv_icmp_eq (tgt := 2226) hx hb dL_law_1388 (by decide) (fun c8 => ?_) (fun c8 => absurd (by decide) c8)
  refine lv_iinc (v := 6) (lv' := [(3, .int 6), (2, .ref h1), (1, .ref h0), (0, .ref sb)]) hx hb dL_law_2226 hl (k := 0) rfl (by decide) (by decide) rfl (fun ls hl => ?_)
  refine lv_goto (tgt := 18) hx hb dL_law_2229 (by decide) ?_
  exact law_exit hL6 C0 hAe hS ls (lv_sub hl [3, 0] rfl) (by decide) (by decide)
set_option maxHeartbeats 4000000 in
set_option maxRecDepth 100000 in
theorem law_41 {p : Program} {e : Env} {s : State} {m : MethodId} {below : List Frame} {meth : Method} {c : Code} {l : Launch} {sb L : Nat} {xs : Nat → Int32} {A : Nat → Prop} {G : va_G} {cI cJ cZ cB cQ : ClassId} (h0 : Nat) (b : Nat → Nat) (br : Nat → Nat) (bt : Nat → Nat) (bi : Nat → Nat) (bc : Nat → Nat) (bn : Nat → Nat) (bs : Nat → Nat) (be : Nat → Nat) (bw : Nat → Nat) (h1 : Nat) (bm : Nat → Nat) {H : Heap} {locs : List Loc} (hL : L = 6) (C0 : lw_At p s m meth c sb L xs) (hAe : A = fun q => s.heap.size ≤ q) (hK : va_K G vwCl (TY cI cJ cZ cB cQ) s) (hZ : nz s) (hP : va_P G vwCl (wX cI cJ cZ cB cQ h0 b br bt bi bc bn bs be bw ++ wM cI cJ cZ cB cQ h1 bm) H) (hD : va_D A (wX cI cJ cZ cB cQ h0 b br bt bi bc bn bs be bw ++ wM cI cJ cZ cB cQ h1 bm)) (hS : va_S A s.heap H locs) (ls : Array Slot) (hl : lv_has ls 4 [(3, .int 0), (2, .ref h1), (1, .ref h0), (0, .ref sb)]) (v : Int32) (hv : v.toInt = 41) : W p l e room_1 s m #[Value.ref sb] below meth c H locs 88 8166 (lw_Z below #[Value.ref sb] s) (F0 m 33 ls [.int v]) := by
  have hL6 : L ≤ 6 := by omega
  obtain ⟨hx, hb, hr, hml, hown, hts0, hX, hbl, hlocks, hgv⟩ := id C0
  have hown : s.vm.findClass RL = some m.cls := hown
  have hts : ∀ q ∈ GW, q.before #[Value.ref sb] s = true := fun q h => hts0 q (List.mem_filter.mp h).1
  have hA : ∀ q : Nat, s.heap.size ≤ q → A q := fun q h => by rw [hAe]; exact h
  have hbA : ¬ A sb := by rw [hAe]; exact Nat.not_le.mpr hbl
  have hLT : (Int32.ofNat L).toInt = (L : Int) := nI_toInt (by omega)
  have hLi : (L : Int) = 6 := by omega
  refine lv_tableIn (off := 1360) (tgt := 1393) hx hb dL_law_33 (by rw [hv]; decide) (by rw [hv]; decide) (by rw [hv]; rfl) (by decide) ?_
  have hP : va_P G vwCl [(h0, oX9 b), (b 1, oX0 bc 0 0 0 0 0 0 0 0 0 0), (h1, oX10 bm 0 0 0 0 0 0 0 0 (-1) 0 0 0 0 0 0 0 0 0), (bm 1, .inl (cI, 149, .inl (fun _ => 0))), (bm 15, .inl (cZ, 80, .inl (fun _ => 0))), (bm 16, .inl (cI, 7, .inl (fun _ => 0))), (bm 21, .inl (cZ, 80, .inl (fun _ => 0))), (bm 24, .inl (cI, 80, .inl (fun _ => 0))), (bm 25, .inl (cI, 6, .inl (fun _ => 0))), (bm 29, .inl (cI, 6, .inl (fun _ => 0))), (bm 30, .inl (cZ, 1040, .inl (fun _ => 0))), (bm 31, .inl (cI, 1040, .inl (fun _ => 0))), (bm 32, .inl (cI, 78, .inl (fun _ => 0))), (bm 27, .inl (cI, 7, .inl (fun _ => 0)))] H := hP.sub [0, 14, 59, 60, 66, 67, 68, 71, 72, 76, 77, 78, 79, 74] rfl
  have hD : va_D A [(h0, oX9 b), (b 1, oX0 bc 0 0 0 0 0 0 0 0 0 0), (h1, oX10 bm 0 0 0 0 0 0 0 0 (-1) 0 0 0 0 0 0 0 0 0), (bm 1, .inl (cI, 149, .inl (fun _ => 0))), (bm 15, .inl (cZ, 80, .inl (fun _ => 0))), (bm 16, .inl (cI, 7, .inl (fun _ => 0))), (bm 21, .inl (cZ, 80, .inl (fun _ => 0))), (bm 24, .inl (cI, 80, .inl (fun _ => 0))), (bm 25, .inl (cI, 6, .inl (fun _ => 0))), (bm 29, .inl (cI, 6, .inl (fun _ => 0))), (bm 30, .inl (cZ, 1040, .inl (fun _ => 0))), (bm 31, .inl (cI, 1040, .inl (fun _ => 0))), (bm 32, .inl (cI, 78, .inl (fun _ => 0))), (bm 27, .inl (cI, 7, .inl (fun _ => 0)))] := hD.sub [0, 14, 59, 60, 66, 67, 68, 71, 72, 76, 77, 78, 79, 74] rfl rfl
  refine lv_aload_n hx hb dL_law_1393 rfl (lv_at hl 2 rfl) ?_
  refine k_i (wc := [(h0, oX9 b), (b 1, oX0 bc 0 0 0 0 0 0 0 0 0 0)]) (wr := [(h1, oX10 bm 0 0 0 0 0 0 0 0 (-1) 0 0 0 0 0 0 0 0 0), (bm 1, .inl (cI, 149, .inl (fun _ => 0))), (bm 15, .inl (cZ, 80, .inl (fun _ => 0))), (bm 16, .inl (cI, 7, .inl (fun _ => 0))), (bm 21, .inl (cZ, 80, .inl (fun _ => 0))), (bm 24, .inl (cI, 80, .inl (fun _ => 0))), (bm 25, .inl (cI, 6, .inl (fun _ => 0))), (bm 29, .inl (cI, 6, .inl (fun _ => 0))), (bm 30, .inl (cZ, 1040, .inl (fun _ => 0))), (bm 31, .inl (cI, 1040, .inl (fun _ => 0))), (bm 32, .inl (cI, 78, .inl (fun _ => 0))), (bm 27, .inl (cI, 7, .inl (fun _ => 0)))]) hP hD hS hA [0, 1] [2, 3, 4, 5, 6, 7, 8, 9, 10, 11, 12, 13] rfl rfl rfl (by decide) (va_runV (As := []) (rest := []) ⟨hx, hb, hml, hown, hts⟩ (f_X9_ford l G cI cJ cZ cB cQ _ h0 b bc) (cwV 0 hts (gV w_935 w_936 w_937 w_1 w_938) rfl rfl rfl ⟨rfl, hd_X9_ford⟩ ⟨Nat.le_of_ble_eq_true rfl, Nat.le_of_ble_eq_true rfl⟩) (mV hK hZ hP hD [0, 1] rfl rfl [] 0 9 rfl rfl) rfl rfl hl.1 rfl (lv_room (Nat.le_of_ble_eq_true rfl)) dL_law_1394 ⟨Nat.le_of_ble_eq_true rfl, Nat.le_of_ble_eq_true rfl⟩) (fun r1 u2 H locs hw3 hP hD hS => ?_)
  try dsimp only at hw3
  have hP : va_P G vwCl [(h1, oX10 bm 0 0 0 0 0 0 0 0 (-1) 0 0 0 0 0 0 0 0 0), (bm 1, .inl (cI, 149, .inl (fun _ => 0))), (bm 15, .inl (cZ, 80, .inl (fun _ => 0))), (bm 16, .inl (cI, 7, .inl (fun _ => 0))), (bm 21, .inl (cZ, 80, .inl (fun _ => 0))), (bm 24, .inl (cI, 80, .inl (fun _ => 0))), (bm 25, .inl (cI, 6, .inl (fun _ => 0))), (bm 29, .inl (cI, 6, .inl (fun _ => 0))), (bm 30, .inl (cZ, 1040, .inl (fun _ => 0))), (bm 31, .inl (cI, 1040, .inl (fun _ => 0))), (bm 32, .inl (cI, 78, .inl (fun _ => 0))), (bm 27, .inl (cI, 7, .inl (fun _ => 0))), (h0, oX9 b), (b 1, oX0 bc 0 0 0 0 0 0 0 0 0 0)] H := hP
  have hD : va_D A [(h1, oX10 bm 0 0 0 0 0 0 0 0 (-1) 0 0 0 0 0 0 0 0 0), (bm 1, .inl (cI, 149, .inl (fun _ => 0))), (bm 15, .inl (cZ, 80, .inl (fun _ => 0))), (bm 16, .inl (cI, 7, .inl (fun _ => 0))), (bm 21, .inl (cZ, 80, .inl (fun _ => 0))), (bm 24, .inl (cI, 80, .inl (fun _ => 0))), (bm 25, .inl (cI, 6, .inl (fun _ => 0))), (bm 29, .inl (cI, 6, .inl (fun _ => 0))), (bm 30, .inl (cZ, 1040, .inl (fun _ => 0))), (bm 31, .inl (cI, 1040, .inl (fun _ => 0))), (bm 32, .inl (cI, 78, .inl (fun _ => 0))), (bm 27, .inl (cI, 7, .inl (fun _ => 0))), (h0, oX9 b), (b 1, oX0 bc 0 0 0 0 0 0 0 0 0 0)] := hD
  obtain rfl : r1 = (-2) := hw3
  refine lv_aload_n hx hb dL_law_1397 rfl (lv_at hl 1 rfl) ?_
  refine k_i (wc := [(h1, oX10 bm 0 0 0 0 0 0 0 0 (-1) 0 0 0 0 0 0 0 0 0), (bm 1, .inl (cI, 149, .inl (fun _ => 0))), (bm 15, .inl (cZ, 80, .inl (fun _ => 0))), (bm 16, .inl (cI, 7, .inl (fun _ => 0))), (bm 21, .inl (cZ, 80, .inl (fun _ => 0))), (bm 24, .inl (cI, 80, .inl (fun _ => 0))), (bm 25, .inl (cI, 6, .inl (fun _ => 0))), (bm 29, .inl (cI, 6, .inl (fun _ => 0))), (bm 30, .inl (cZ, 1040, .inl (fun _ => 0))), (bm 31, .inl (cI, 1040, .inl (fun _ => 0))), (bm 32, .inl (cI, 78, .inl (fun _ => 0))), (bm 27, .inl (cI, 7, .inl (fun _ => 0)))]) (wr := [(h0, oX9 b), (b 1, oX0 bc 0 0 0 0 0 0 0 0 0 0)]) hP hD hS hA [0, 1, 2, 3, 4, 5, 6, 7, 8, 9, 10, 11] [12, 13] rfl rfl rfl (by decide) (va_runV (As := []) (rest := [.int (-2)]) ⟨hx, hb, hml, hown, hts⟩ (f_X10_ford l G cI cJ cZ cB cQ _ h1 bm) (cwV 0 hts (gV w_1796 w_1797 w_1798 w_11 w_1799) rfl rfl rfl ⟨rfl, hd_X10_ford⟩ ⟨Nat.le_of_ble_eq_true rfl, Nat.le_of_ble_eq_true rfl⟩) (mV hK hZ hP hD [0, 1, 2, 3, 4, 5, 6, 7, 8, 9, 10, 11] rfl rfl [] 0 10 rfl rfl) rfl rfl hl.1 rfl (lv_room (Nat.le_of_ble_eq_true rfl)) dL_law_1398 ⟨Nat.le_of_ble_eq_true rfl, Nat.le_of_ble_eq_true rfl⟩) (fun r4 u5 H locs hw6 hP hD hS => ?_)
  obtain ⟨f07, rfl⟩ : ∃ z, z = u5 := ⟨_, rfl⟩
  try dsimp only at hw6
  have hP : va_P G vwCl [(h0, oX9 b), (b 1, oX0 bc 0 0 0 0 0 0 0 0 0 0), (h1, oX10 bm 0 0 0 0 0 0 0 0 (-1) 0 0 (-1) 0 0 0 0 0 0), (bm 1, .inl (cI, 149, .inl (fun _ => 0))), (bm 15, .inl (cZ, 80, .inl (fun _ => 0))), (bm 16, .inl (cI, 7, .inl (fun _ => 0))), (bm 21, .inl (cZ, 80, .inl (fun _ => 0))), (bm 24, .inl (cI, 80, .inl (fun _ => 0))), (bm 25, .inl (cI, 6, .inl (fun _ => 0))), (bm 29, .inl (cI, 6, .inl (fun _ => 0))), (bm 30, .inl (cZ, 1040, .inl (fun _ => 0))), (bm 31, .inl (cI, 1040, .inl (fun _ => 0))), (bm 32, .inl (cI, 78, .inl (fun _ => 0))), (bm 27, .inl (cI, 7, .inl f07))] H := hP
  have hD : va_D A [(h0, oX9 b), (b 1, oX0 bc 0 0 0 0 0 0 0 0 0 0), (h1, oX10 bm 0 0 0 0 0 0 0 0 (-1) 0 0 (-1) 0 0 0 0 0 0), (bm 1, .inl (cI, 149, .inl (fun _ => 0))), (bm 15, .inl (cZ, 80, .inl (fun _ => 0))), (bm 16, .inl (cI, 7, .inl (fun _ => 0))), (bm 21, .inl (cZ, 80, .inl (fun _ => 0))), (bm 24, .inl (cI, 80, .inl (fun _ => 0))), (bm 25, .inl (cI, 6, .inl (fun _ => 0))), (bm 29, .inl (cI, 6, .inl (fun _ => 0))), (bm 30, .inl (cZ, 1040, .inl (fun _ => 0))), (bm 31, .inl (cI, 1040, .inl (fun _ => 0))), (bm 32, .inl (cI, 78, .inl (fun _ => 0))), (bm 27, .inl (cI, 7, .inl f07))] := hD
  obtain rfl : r4 = (-2) := hw6
  refine lv_icmp_eq (tgt := 2226) hx hb dL_law_1401 (by decide) (fun c8 => ?_) (fun c8 => absurd (by decide) c8)
  refine lv_iinc (v := 6) (lv' := [(3, .int 6), (2, .ref h1), (1, .ref h0), (0, .ref sb)]) hx hb dL_law_2226 hl (k := 0) rfl (by decide) (by decide) rfl (fun ls hl => ?_)
  refine lv_goto (tgt := 18) hx hb dL_law_2229 (by decide) ?_
  exact law_exit hL6 C0 hAe hS ls (lv_sub hl [3, 0] rfl) (by decide) (by decide)
set_option maxHeartbeats 4000000 in
set_option maxRecDepth 100000 in
theorem law_42 {p : Program} {e : Env} {s : State} {m : MethodId} {below : List Frame} {meth : Method} {c : Code} {l : Launch} {sb L : Nat} {xs : Nat → Int32} {A : Nat → Prop} {G : va_G} {cI cJ cZ cB cQ : ClassId} (h0 : Nat) (b : Nat → Nat) (br : Nat → Nat) (bt : Nat → Nat) (bi : Nat → Nat) (bc : Nat → Nat) (bn : Nat → Nat) (bs : Nat → Nat) (be : Nat → Nat) (bw : Nat → Nat) (h1 : Nat) (bm : Nat → Nat) {H : Heap} {locs : List Loc} (hL : L = 6) (C0 : lw_At p s m meth c sb L xs) (hAe : A = fun q => s.heap.size ≤ q) (hK : va_K G vwCl (TY cI cJ cZ cB cQ) s) (hZ : nz s) (hP : va_P G vwCl (wX cI cJ cZ cB cQ h0 b br bt bi bc bn bs be bw ++ wM cI cJ cZ cB cQ h1 bm) H) (hD : va_D A (wX cI cJ cZ cB cQ h0 b br bt bi bc bn bs be bw ++ wM cI cJ cZ cB cQ h1 bm)) (hS : va_S A s.heap H locs) (ls : Array Slot) (hl : lv_has ls 4 [(3, .int 0), (2, .ref h1), (1, .ref h0), (0, .ref sb)]) (v : Int32) (hv : v.toInt = 42) : W p l e room_1 s m #[Value.ref sb] below meth c H locs 88 8166 (lw_Z below #[Value.ref sb] s) (F0 m 33 ls [.int v]) := by
  have hL6 : L ≤ 6 := by omega
  obtain ⟨hx, hb, hr, hml, hown, hts0, hX, hbl, hlocks, hgv⟩ := id C0
  have hown : s.vm.findClass RL = some m.cls := hown
  have hts : ∀ q ∈ GW, q.before #[Value.ref sb] s = true := fun q h => hts0 q (List.mem_filter.mp h).1
  have hA : ∀ q : Nat, s.heap.size ≤ q → A q := fun q h => by rw [hAe]; exact h
  have hbA : ¬ A sb := by rw [hAe]; exact Nat.not_le.mpr hbl
  have hLT : (Int32.ofNat L).toInt = (L : Int) := nI_toInt (by omega)
  have hLi : (L : Int) = 6 := by omega
  refine lv_tableIn (off := 1373) (tgt := 1406) hx hb dL_law_33 (by rw [hv]; decide) (by rw [hv]; decide) (by rw [hv]; rfl) (by decide) ?_
  have hP : va_P G vwCl [(h0, oX9 b), (b 1, oX0 bc 0 0 0 0 0 0 0 0 0 0), (h1, oX10 bm 0 0 0 0 0 0 0 0 (-1) 0 0 0 0 0 0 0 0 0), (bm 1, .inl (cI, 149, .inl (fun _ => 0)))] H := hP.sub [0, 14, 59, 60] rfl
  have hD : va_D A [(h0, oX9 b), (b 1, oX0 bc 0 0 0 0 0 0 0 0 0 0), (h1, oX10 bm 0 0 0 0 0 0 0 0 (-1) 0 0 0 0 0 0 0 0 0), (bm 1, .inl (cI, 149, .inl (fun _ => 0)))] := hD.sub [0, 14, 59, 60] rfl rfl
  refine lv_aload_n hx hb dL_law_1406 rfl (lv_at hl 2 rfl) ?_
  refine lv_aload_n hx hb dL_law_1407 rfl (lv_at hl 3 rfl) ?_
  refine lv_iload_n hx hb dL_law_1408 rfl (lv_at hl 0 rfl) ?_
  refine lv_iconst (v := 1) hx hb dL_law_1409 (by decide) ?_
  refine lv_iadd hx hb dL_law_1410 ?_
  refine lv_topi (fun v1 ev1 => ?_)
  obtain rfl : v1 = 1 := ev1.trans (by decide)
  refine va_sld hx hb hX hbl hbA hS (ix_in ki_1 (by omega) (by omega)) dL_law_1411 ?_
  refine W.eq (g2 := F0 m 1412 ls [.int (xs 1), .ref h0]) rfl ?_
  refine lv_aload_n hx hb dL_law_1412 rfl (lv_at hl 3 rfl) ?_
  refine lv_iload_n hx hb dL_law_1413 rfl (lv_at hl 0 rfl) ?_
  refine lv_iconst (v := 2) hx hb dL_law_1414 (by decide) ?_
  refine lv_iadd hx hb dL_law_1415 ?_
  refine lv_topi (fun v2 ev2 => ?_)
  obtain rfl : v2 = 2 := ev2.trans (by decide)
  refine va_sld hx hb hX hbl hbA hS (ix_in ki_2 (by omega) (by omega)) dL_law_1416 ?_
  refine W.eq (g2 := F0 m 1417 ls [.int (xs 2), .int (xs 1), .ref h0]) rfl ?_
  refine k_i (wc := [(h0, oX9 b), (b 1, oX0 bc 0 0 0 0 0 0 0 0 0 0)]) (wr := [(h1, oX10 bm 0 0 0 0 0 0 0 0 (-1) 0 0 0 0 0 0 0 0 0), (bm 1, .inl (cI, 149, .inl (fun _ => 0)))]) hP hD hS hA [0, 1] [2, 3] rfl rfl rfl (by decide) (va_runV (As := [.int (xs 1), .int (xs 2)]) (rest := []) ⟨hx, hb, hml, hown, hts⟩ (f_X9_faced l G cI cJ cZ cB cQ _ h0 b bc (xs 1) (xs 2)) (cwV 2 hts (gV w_939 w_940 w_941 w_1 w_942) rfl rfl rfl ⟨rfl, hd_X9_faced⟩ ⟨Nat.le_of_ble_eq_true rfl, Nat.le_of_ble_eq_true rfl⟩) (mV hK hZ hP hD [0, 1] rfl rfl [.int (xs 1), .int (xs 2)] 0 9 rfl rfl) rfl rfl hl.1 rfl (lv_room (Nat.le_of_ble_eq_true rfl)) dL_law_1417 ⟨Nat.le_of_ble_eq_true rfl, Nat.le_of_ble_eq_true rfl⟩) (fun r3 u4 H locs hw5 hP hD hS => ?_)
  try dsimp only at hw5
  have hP : va_P G vwCl [(h1, oX10 bm 0 0 0 0 0 0 0 0 (-1) 0 0 0 0 0 0 0 0 0), (bm 1, .inl (cI, 149, .inl (fun _ => 0))), (h0, oX9 b), (b 1, oX0 bc 0 0 0 0 0 0 0 0 0 0)] H := hP
  have hD : va_D A [(h1, oX10 bm 0 0 0 0 0 0 0 0 (-1) 0 0 0 0 0 0 0 0 0), (bm 1, .inl (cI, 149, .inl (fun _ => 0))), (h0, oX9 b), (b 1, oX0 bc 0 0 0 0 0 0 0 0 0 0)] := hD
  obtain rfl : r3 = (-2) := hw5
  refine lv_aload_n hx hb dL_law_1420 rfl (lv_at hl 1 rfl) ?_
  refine lv_aload_n hx hb dL_law_1421 rfl (lv_at hl 3 rfl) ?_
  refine lv_iload_n hx hb dL_law_1422 rfl (lv_at hl 0 rfl) ?_
  refine lv_iconst (v := 1) hx hb dL_law_1423 (by decide) ?_
  refine lv_iadd hx hb dL_law_1424 ?_
  refine lv_topi (fun v6 ev6 => ?_)
  obtain rfl : v6 = 1 := ev6.trans (by decide)
  refine va_sld hx hb hX hbl hbA hS (ix_in ki_1 (by omega) (by omega)) dL_law_1425 ?_
  refine W.eq (g2 := F0 m 1426 ls [.int (xs 1), .ref h1, .int (-2)]) rfl ?_
  refine lv_aload_n hx hb dL_law_1426 rfl (lv_at hl 3 rfl) ?_
  refine lv_iload_n hx hb dL_law_1427 rfl (lv_at hl 0 rfl) ?_
  refine lv_iconst (v := 2) hx hb dL_law_1428 (by decide) ?_
  refine lv_iadd hx hb dL_law_1429 ?_
  refine lv_topi (fun v7 ev7 => ?_)
  obtain rfl : v7 = 2 := ev7.trans (by decide)
  refine va_sld hx hb hX hbl hbA hS (ix_in ki_2 (by omega) (by omega)) dL_law_1430 ?_
  refine W.eq (g2 := F0 m 1431 ls [.int (xs 2), .int (xs 1), .ref h1, .int (-2)]) rfl ?_
  refine k_i (wc := [(h1, oX10 bm 0 0 0 0 0 0 0 0 (-1) 0 0 0 0 0 0 0 0 0), (bm 1, .inl (cI, 149, .inl (fun _ => 0)))]) (wr := [(h0, oX9 b), (b 1, oX0 bc 0 0 0 0 0 0 0 0 0 0)]) hP hD hS hA [0, 1] [2, 3] rfl rfl rfl (by decide) (va_runV (As := [.int (xs 1), .int (xs 2)]) (rest := [.int (-2)]) ⟨hx, hb, hml, hown, hts⟩ (f_X10_faced l G cI cJ cZ cB cQ _ h1 bm (xs 1) (xs 2)) (cwV 2 hts (gV w_1804 w_1805 w_1806 w_11 w_1807) rfl rfl rfl ⟨rfl, hd_X10_faced⟩ ⟨Nat.le_of_ble_eq_true rfl, Nat.le_of_ble_eq_true rfl⟩) (mV hK hZ hP hD [0, 1] rfl rfl [.int (xs 1), .int (xs 2)] 0 10 rfl rfl) rfl rfl hl.1 rfl (lv_room (Nat.le_of_ble_eq_true rfl)) dL_law_1431 ⟨Nat.le_of_ble_eq_true rfl, Nat.le_of_ble_eq_true rfl⟩) (fun r8 u9 H locs hw10 hP hD hS => ?_)
  try dsimp only at hw10
  have hP : va_P G vwCl [(h0, oX9 b), (b 1, oX0 bc 0 0 0 0 0 0 0 0 0 0), (h1, oX10 bm 0 0 0 0 0 0 0 0 (-1) 0 0 0 0 0 0 0 0 0), (bm 1, .inl (cI, 149, .inl (fun _ => 0)))] H := hP
  have hD : va_D A [(h0, oX9 b), (b 1, oX0 bc 0 0 0 0 0 0 0 0 0 0), (h1, oX10 bm 0 0 0 0 0 0 0 0 (-1) 0 0 0 0 0 0 0 0 0), (bm 1, .inl (cI, 149, .inl (fun _ => 0)))] := hD
  obtain rfl : r8 = (-2) := hw10
  refine lv_icmp_eq (tgt := 2226) hx hb dL_law_1434 (by decide) (fun c11 => ?_) (fun c11 => absurd (by decide) c11)
  refine lv_iinc (v := 6) (lv' := [(3, .int 6), (2, .ref h1), (1, .ref h0), (0, .ref sb)]) hx hb dL_law_2226 hl (k := 0) rfl (by decide) (by decide) rfl (fun ls hl => ?_)
  refine lv_goto (tgt := 18) hx hb dL_law_2229 (by decide) ?_
  exact law_exit hL6 C0 hAe hS ls (lv_sub hl [3, 0] rfl) (by decide) (by decide)
set_option maxHeartbeats 4000000 in
set_option maxRecDepth 100000 in
theorem law_43 {p : Program} {e : Env} {s : State} {m : MethodId} {below : List Frame} {meth : Method} {c : Code} {l : Launch} {sb L : Nat} {xs : Nat → Int32} {A : Nat → Prop} {G : va_G} {cI cJ cZ cB cQ : ClassId} (h0 : Nat) (b : Nat → Nat) (br : Nat → Nat) (bt : Nat → Nat) (bi : Nat → Nat) (bc : Nat → Nat) (bn : Nat → Nat) (bs : Nat → Nat) (be : Nat → Nat) (bw : Nat → Nat) (h1 : Nat) (bm : Nat → Nat) {H : Heap} {locs : List Loc} (hL : L = 6) (C0 : lw_At p s m meth c sb L xs) (hAe : A = fun q => s.heap.size ≤ q) (hK : va_K G vwCl (TY cI cJ cZ cB cQ) s) (hZ : nz s) (hP : va_P G vwCl (wX cI cJ cZ cB cQ h0 b br bt bi bc bn bs be bw ++ wM cI cJ cZ cB cQ h1 bm) H) (hD : va_D A (wX cI cJ cZ cB cQ h0 b br bt bi bc bn bs be bw ++ wM cI cJ cZ cB cQ h1 bm)) (hS : va_S A s.heap H locs) (ls : Array Slot) (hl : lv_has ls 4 [(3, .int 0), (2, .ref h1), (1, .ref h0), (0, .ref sb)]) (v : Int32) (hv : v.toInt = 43) : W p l e room_1 s m #[Value.ref sb] below meth c H locs 88 8166 (lw_Z below #[Value.ref sb] s) (F0 m 33 ls [.int v]) := by
  have hL6 : L ≤ 6 := by omega
  obtain ⟨hx, hb, hr, hml, hown, hts0, hX, hbl, hlocks, hgv⟩ := id C0
  have hown : s.vm.findClass RL = some m.cls := hown
  have hts : ∀ q ∈ GW, q.before #[Value.ref sb] s = true := fun q h => hts0 q (List.mem_filter.mp h).1
  have hA : ∀ q : Nat, s.heap.size ≤ q → A q := fun q h => by rw [hAe]; exact h
  have hbA : ¬ A sb := by rw [hAe]; exact Nat.not_le.mpr hbl
  have hLT : (Int32.ofNat L).toInt = (L : Int) := nI_toInt (by omega)
  have hLi : (L : Int) = 6 := by omega
  refine lv_tableIn (off := 1406) (tgt := 1439) hx hb dL_law_33 (by rw [hv]; decide) (by rw [hv]; decide) (by rw [hv]; rfl) (by decide) ?_
  have hP : va_P G vwCl [(h0, oX9 b), (b 1, oX0 bc 0 0 0 0 0 0 0 0 0 0), (h1, oX10 bm 0 0 0 0 0 0 0 0 (-1) 0 0 0 0 0 0 0 0 0), (bm 1, .inl (cI, 149, .inl (fun _ => 0)))] H := hP.sub [0, 14, 59, 60] rfl
  have hD : va_D A [(h0, oX9 b), (b 1, oX0 bc 0 0 0 0 0 0 0 0 0 0), (h1, oX10 bm 0 0 0 0 0 0 0 0 (-1) 0 0 0 0 0 0 0 0 0), (bm 1, .inl (cI, 149, .inl (fun _ => 0)))] := hD.sub [0, 14, 59, 60] rfl rfl
  refine lv_aload_n hx hb dL_law_1439 rfl (lv_at hl 2 rfl) ?_
  refine lv_aload_n hx hb dL_law_1440 rfl (lv_at hl 3 rfl) ?_
  refine lv_iload_n hx hb dL_law_1441 rfl (lv_at hl 0 rfl) ?_
  refine lv_iconst (v := 1) hx hb dL_law_1442 (by decide) ?_
  refine lv_iadd hx hb dL_law_1443 ?_
  refine lv_topi (fun v1 ev1 => ?_)
  obtain rfl : v1 = 1 := ev1.trans (by decide)
  refine va_sld hx hb hX hbl hbA hS (ix_in ki_1 (by omega) (by omega)) dL_law_1444 ?_
  refine W.eq (g2 := F0 m 1445 ls [.int (xs 1), .ref h0]) rfl ?_
  refine lv_aload_n hx hb dL_law_1445 rfl (lv_at hl 3 rfl) ?_
  refine lv_iload_n hx hb dL_law_1446 rfl (lv_at hl 0 rfl) ?_
  refine lv_iconst (v := 2) hx hb dL_law_1447 (by decide) ?_
  refine lv_iadd hx hb dL_law_1448 ?_
  refine lv_topi (fun v2 ev2 => ?_)
  obtain rfl : v2 = 2 := ev2.trans (by decide)
  refine va_sld hx hb hX hbl hbA hS (ix_in ki_2 (by omega) (by omega)) dL_law_1449 ?_
  refine W.eq (g2 := F0 m 1450 ls [.int (xs 2), .int (xs 1), .ref h0]) rfl ?_
  refine k_i (wc := [(h0, oX9 b), (b 1, oX0 bc 0 0 0 0 0 0 0 0 0 0)]) (wr := [(h1, oX10 bm 0 0 0 0 0 0 0 0 (-1) 0 0 0 0 0 0 0 0 0), (bm 1, .inl (cI, 149, .inl (fun _ => 0)))]) hP hD hS hA [0, 1] [2, 3] rfl rfl rfl (by decide) (va_runV (As := [.int (xs 1), .int (xs 2)]) (rest := []) ⟨hx, hb, hml, hown, hts⟩ (f_X9_griefs l G cI cJ cZ cB cQ _ h0 b bc (xs 1) (xs 2)) (cwV 2 hts (gV w_974 w_975 w_976 w_1 w_977) rfl rfl rfl ⟨rfl, hd_X9_griefs⟩ ⟨Nat.le_of_ble_eq_true rfl, Nat.le_of_ble_eq_true rfl⟩) (mV hK hZ hP hD [0, 1] rfl rfl [.int (xs 1), .int (xs 2)] 0 9 rfl rfl) rfl rfl hl.1 rfl (lv_room (Nat.le_of_ble_eq_true rfl)) dL_law_1450 ⟨Nat.le_of_ble_eq_true rfl, Nat.le_of_ble_eq_true rfl⟩) (fun r3 u4 H locs hw5 hP hD hS => ?_)
  try dsimp only at hw5
  have hP : va_P G vwCl [(h1, oX10 bm 0 0 0 0 0 0 0 0 (-1) 0 0 0 0 0 0 0 0 0), (bm 1, .inl (cI, 149, .inl (fun _ => 0))), (h0, oX9 b), (b 1, oX0 bc 0 0 0 0 0 0 0 0 0 0)] H := hP
  have hD : va_D A [(h1, oX10 bm 0 0 0 0 0 0 0 0 (-1) 0 0 0 0 0 0 0 0 0), (bm 1, .inl (cI, 149, .inl (fun _ => 0))), (h0, oX9 b), (b 1, oX0 bc 0 0 0 0 0 0 0 0 0 0)] := hD
  obtain rfl : r3 = (-2) := hw5
  refine lv_aload_n hx hb dL_law_1453 rfl (lv_at hl 1 rfl) ?_
  refine lv_aload_n hx hb dL_law_1454 rfl (lv_at hl 3 rfl) ?_
  refine lv_iload_n hx hb dL_law_1455 rfl (lv_at hl 0 rfl) ?_
  refine lv_iconst (v := 1) hx hb dL_law_1456 (by decide) ?_
  refine lv_iadd hx hb dL_law_1457 ?_
  refine lv_topi (fun v6 ev6 => ?_)
  obtain rfl : v6 = 1 := ev6.trans (by decide)
  refine va_sld hx hb hX hbl hbA hS (ix_in ki_1 (by omega) (by omega)) dL_law_1458 ?_
  refine W.eq (g2 := F0 m 1459 ls [.int (xs 1), .ref h1, .int (-2)]) rfl ?_
  refine lv_aload_n hx hb dL_law_1459 rfl (lv_at hl 3 rfl) ?_
  refine lv_iload_n hx hb dL_law_1460 rfl (lv_at hl 0 rfl) ?_
  refine lv_iconst (v := 2) hx hb dL_law_1461 (by decide) ?_
  refine lv_iadd hx hb dL_law_1462 ?_
  refine lv_topi (fun v7 ev7 => ?_)
  obtain rfl : v7 = 2 := ev7.trans (by decide)
  refine va_sld hx hb hX hbl hbA hS (ix_in ki_2 (by omega) (by omega)) dL_law_1463 ?_
  refine W.eq (g2 := F0 m 1464 ls [.int (xs 2), .int (xs 1), .ref h1, .int (-2)]) rfl ?_
  refine k_i (wc := [(h1, oX10 bm 0 0 0 0 0 0 0 0 (-1) 0 0 0 0 0 0 0 0 0), (bm 1, .inl (cI, 149, .inl (fun _ => 0)))]) (wr := [(h0, oX9 b), (b 1, oX0 bc 0 0 0 0 0 0 0 0 0 0)]) hP hD hS hA [0, 1] [2, 3] rfl rfl rfl (by decide) (va_runV (As := [.int (xs 1), .int (xs 2)]) (rest := [.int (-2)]) ⟨hx, hb, hml, hown, hts⟩ (f_X10_griefs l G cI cJ cZ cB cQ _ h1 bm (xs 1) (xs 2)) (cwV 2 hts (gV w_1832 w_1833 w_1834 w_11 w_1835) rfl rfl rfl ⟨rfl, hd_X10_griefs⟩ ⟨Nat.le_of_ble_eq_true rfl, Nat.le_of_ble_eq_true rfl⟩) (mV hK hZ hP hD [0, 1] rfl rfl [.int (xs 1), .int (xs 2)] 0 10 rfl rfl) rfl rfl hl.1 rfl (lv_room (Nat.le_of_ble_eq_true rfl)) dL_law_1464 ⟨Nat.le_of_ble_eq_true rfl, Nat.le_of_ble_eq_true rfl⟩) (fun r8 u9 H locs hw10 hP hD hS => ?_)
  try dsimp only at hw10
  have hP : va_P G vwCl [(h0, oX9 b), (b 1, oX0 bc 0 0 0 0 0 0 0 0 0 0), (h1, oX10 bm 0 0 0 0 0 0 0 0 (-1) 0 0 0 0 0 0 0 0 0), (bm 1, .inl (cI, 149, .inl (fun _ => 0)))] H := hP
  have hD : va_D A [(h0, oX9 b), (b 1, oX0 bc 0 0 0 0 0 0 0 0 0 0), (h1, oX10 bm 0 0 0 0 0 0 0 0 (-1) 0 0 0 0 0 0 0 0 0), (bm 1, .inl (cI, 149, .inl (fun _ => 0)))] := hD
  obtain rfl : r8 = (-2) := hw10
  refine lv_icmp_eq (tgt := 2226) hx hb dL_law_1467 (by decide) (fun c11 => ?_) (fun c11 => absurd (by decide) c11)
  refine lv_iinc (v := 6) (lv' := [(3, .int 6), (2, .ref h1), (1, .ref h0), (0, .ref sb)]) hx hb dL_law_2226 hl (k := 0) rfl (by decide) (by decide) rfl (fun ls hl => ?_)
  refine lv_goto (tgt := 18) hx hb dL_law_2229 (by decide) ?_
  exact law_exit hL6 C0 hAe hS ls (lv_sub hl [3, 0] rfl) (by decide) (by decide)
set_option maxHeartbeats 4000000 in
set_option maxRecDepth 100000 in
theorem law_44 {p : Program} {e : Env} {s : State} {m : MethodId} {below : List Frame} {meth : Method} {c : Code} {l : Launch} {sb L : Nat} {xs : Nat → Int32} {A : Nat → Prop} {G : va_G} {cI cJ cZ cB cQ : ClassId} (h0 : Nat) (b : Nat → Nat) (br : Nat → Nat) (bt : Nat → Nat) (bi : Nat → Nat) (bc : Nat → Nat) (bn : Nat → Nat) (bs : Nat → Nat) (be : Nat → Nat) (bw : Nat → Nat) (h1 : Nat) (bm : Nat → Nat) {H : Heap} {locs : List Loc} (hL : L = 6) (C0 : lw_At p s m meth c sb L xs) (hAe : A = fun q => s.heap.size ≤ q) (hK : va_K G vwCl (TY cI cJ cZ cB cQ) s) (hZ : nz s) (hP : va_P G vwCl (wX cI cJ cZ cB cQ h0 b br bt bi bc bn bs be bw ++ wM cI cJ cZ cB cQ h1 bm) H) (hD : va_D A (wX cI cJ cZ cB cQ h0 b br bt bi bc bn bs be bw ++ wM cI cJ cZ cB cQ h1 bm)) (hS : va_S A s.heap H locs) (ls : Array Slot) (hl : lv_has ls 4 [(3, .int 0), (2, .ref h1), (1, .ref h0), (0, .ref sb)]) (v : Int32) (hv : v.toInt = 44) : W p l e room_1 s m #[Value.ref sb] below meth c H locs 88 8166 (lw_Z below #[Value.ref sb] s) (F0 m 33 ls [.int v]) := by
  have hL6 : L ≤ 6 := by omega
  obtain ⟨hx, hb, hr, hml, hown, hts0, hX, hbl, hlocks, hgv⟩ := id C0
  have hown : s.vm.findClass RL = some m.cls := hown
  have hts : ∀ q ∈ GW, q.before #[Value.ref sb] s = true := fun q h => hts0 q (List.mem_filter.mp h).1
  have hA : ∀ q : Nat, s.heap.size ≤ q → A q := fun q h => by rw [hAe]; exact h
  have hbA : ¬ A sb := by rw [hAe]; exact Nat.not_le.mpr hbl
  have hLT : (Int32.ofNat L).toInt = (L : Int) := nI_toInt (by omega)
  have hLi : (L : Int) = 6 := by omega
  refine lv_tableIn (off := 1439) (tgt := 1472) hx hb dL_law_33 (by rw [hv]; decide) (by rw [hv]; decide) (by rw [hv]; rfl) (by decide) ?_
  have hP : va_P G vwCl [(h0, oX9 b), (b 1, oX0 bc 0 0 0 0 0 0 0 0 0 0), (h1, oX10 bm 0 0 0 0 0 0 0 0 (-1) 0 0 0 0 0 0 0 0 0), (bm 1, .inl (cI, 149, .inl (fun _ => 0)))] H := hP.sub [0, 14, 59, 60] rfl
  have hD : va_D A [(h0, oX9 b), (b 1, oX0 bc 0 0 0 0 0 0 0 0 0 0), (h1, oX10 bm 0 0 0 0 0 0 0 0 (-1) 0 0 0 0 0 0 0 0 0), (bm 1, .inl (cI, 149, .inl (fun _ => 0)))] := hD.sub [0, 14, 59, 60] rfl rfl
  refine lv_aload_n hx hb dL_law_1472 rfl (lv_at hl 2 rfl) ?_
  refine lv_aload_n hx hb dL_law_1473 rfl (lv_at hl 3 rfl) ?_
  refine lv_iload_n hx hb dL_law_1474 rfl (lv_at hl 0 rfl) ?_
  refine lv_iconst (v := 1) hx hb dL_law_1475 (by decide) ?_
  refine lv_iadd hx hb dL_law_1476 ?_
  refine lv_topi (fun v1 ev1 => ?_)
  obtain rfl : v1 = 1 := ev1.trans (by decide)
  refine va_sld hx hb hX hbl hbA hS (ix_in ki_1 (by omega) (by omega)) dL_law_1477 ?_
  refine W.eq (g2 := F0 m 1478 ls [.int (xs 1), .ref h0]) rfl ?_
  refine lv_aload_n hx hb dL_law_1478 rfl (lv_at hl 3 rfl) ?_
  refine lv_iload_n hx hb dL_law_1479 rfl (lv_at hl 0 rfl) ?_
  refine lv_iconst (v := 2) hx hb dL_law_1480 (by decide) ?_
  refine lv_iadd hx hb dL_law_1481 ?_
  refine lv_topi (fun v2 ev2 => ?_)
  obtain rfl : v2 = 2 := ev2.trans (by decide)
  refine va_sld hx hb hX hbl hbA hS (ix_in ki_2 (by omega) (by omega)) dL_law_1482 ?_
  refine W.eq (g2 := F0 m 1483 ls [.int (xs 2), .int (xs 1), .ref h0]) rfl ?_
  refine k_i (wc := [(h0, oX9 b), (b 1, oX0 bc 0 0 0 0 0 0 0 0 0 0)]) (wr := [(h1, oX10 bm 0 0 0 0 0 0 0 0 (-1) 0 0 0 0 0 0 0 0 0), (bm 1, .inl (cI, 149, .inl (fun _ => 0)))]) hP hD hS hA [0, 1] [2, 3] rfl rfl rfl (by decide) (va_runV (As := [.int (xs 1), .int (xs 2)]) (rest := []) ⟨hx, hb, hml, hown, hts⟩ (f_X9_ask l G cI cJ cZ cB cQ _ h0 b bc (xs 1) (xs 2)) (cwV 2 hts (gV w_978 w_979 w_980 w_1 w_981) rfl rfl rfl ⟨rfl, hd_X9_ask⟩ ⟨Nat.le_of_ble_eq_true rfl, Nat.le_of_ble_eq_true rfl⟩) (mV hK hZ hP hD [0, 1] rfl rfl [.int (xs 1), .int (xs 2)] 0 9 rfl rfl) rfl rfl hl.1 rfl (lv_room (Nat.le_of_ble_eq_true rfl)) dL_law_1483 ⟨Nat.le_of_ble_eq_true rfl, Nat.le_of_ble_eq_true rfl⟩) (fun r3 u4 H locs hw5 hP hD hS => ?_)
  try dsimp only at hw5
  have hP : va_P G vwCl [(h1, oX10 bm 0 0 0 0 0 0 0 0 (-1) 0 0 0 0 0 0 0 0 0), (bm 1, .inl (cI, 149, .inl (fun _ => 0))), (h0, oX9 b), (b 1, oX0 bc 0 0 0 0 0 0 0 0 0 0)] H := hP
  have hD : va_D A [(h1, oX10 bm 0 0 0 0 0 0 0 0 (-1) 0 0 0 0 0 0 0 0 0), (bm 1, .inl (cI, 149, .inl (fun _ => 0))), (h0, oX9 b), (b 1, oX0 bc 0 0 0 0 0 0 0 0 0 0)] := hD
  obtain rfl : r3 = (-2) := hw5
  refine lv_aload_n hx hb dL_law_1486 rfl (lv_at hl 1 rfl) ?_
  refine lv_aload_n hx hb dL_law_1487 rfl (lv_at hl 3 rfl) ?_
  refine lv_iload_n hx hb dL_law_1488 rfl (lv_at hl 0 rfl) ?_
  refine lv_iconst (v := 1) hx hb dL_law_1489 (by decide) ?_
  refine lv_iadd hx hb dL_law_1490 ?_
  refine lv_topi (fun v6 ev6 => ?_)
  obtain rfl : v6 = 1 := ev6.trans (by decide)
  refine va_sld hx hb hX hbl hbA hS (ix_in ki_1 (by omega) (by omega)) dL_law_1491 ?_
  refine W.eq (g2 := F0 m 1492 ls [.int (xs 1), .ref h1, .int (-2)]) rfl ?_
  refine lv_aload_n hx hb dL_law_1492 rfl (lv_at hl 3 rfl) ?_
  refine lv_iload_n hx hb dL_law_1493 rfl (lv_at hl 0 rfl) ?_
  refine lv_iconst (v := 2) hx hb dL_law_1494 (by decide) ?_
  refine lv_iadd hx hb dL_law_1495 ?_
  refine lv_topi (fun v7 ev7 => ?_)
  obtain rfl : v7 = 2 := ev7.trans (by decide)
  refine va_sld hx hb hX hbl hbA hS (ix_in ki_2 (by omega) (by omega)) dL_law_1496 ?_
  refine W.eq (g2 := F0 m 1497 ls [.int (xs 2), .int (xs 1), .ref h1, .int (-2)]) rfl ?_
  refine k_i (wc := [(h1, oX10 bm 0 0 0 0 0 0 0 0 (-1) 0 0 0 0 0 0 0 0 0), (bm 1, .inl (cI, 149, .inl (fun _ => 0)))]) (wr := [(h0, oX9 b), (b 1, oX0 bc 0 0 0 0 0 0 0 0 0 0)]) hP hD hS hA [0, 1] [2, 3] rfl rfl rfl (by decide) (va_runV (As := [.int (xs 1), .int (xs 2)]) (rest := [.int (-2)]) ⟨hx, hb, hml, hown, hts⟩ (f_X10_ask l G cI cJ cZ cB cQ _ h1 bm (xs 1) (xs 2)) (cwV 2 hts (gV w_1836 w_1837 w_1838 w_11 w_1839) rfl rfl rfl ⟨rfl, hd_X10_ask⟩ ⟨Nat.le_of_ble_eq_true rfl, Nat.le_of_ble_eq_true rfl⟩) (mV hK hZ hP hD [0, 1] rfl rfl [.int (xs 1), .int (xs 2)] 0 10 rfl rfl) rfl rfl hl.1 rfl (lv_room (Nat.le_of_ble_eq_true rfl)) dL_law_1497 ⟨Nat.le_of_ble_eq_true rfl, Nat.le_of_ble_eq_true rfl⟩) (fun r8 u9 H locs hw10 hP hD hS => ?_)
  try dsimp only at hw10
  have hP : va_P G vwCl [(h0, oX9 b), (b 1, oX0 bc 0 0 0 0 0 0 0 0 0 0), (h1, oX10 bm 0 0 0 0 0 0 0 0 (-1) 0 0 0 0 0 0 0 0 0), (bm 1, .inl (cI, 149, .inl (fun _ => 0)))] H := hP
  have hD : va_D A [(h0, oX9 b), (b 1, oX0 bc 0 0 0 0 0 0 0 0 0 0), (h1, oX10 bm 0 0 0 0 0 0 0 0 (-1) 0 0 0 0 0 0 0 0 0), (bm 1, .inl (cI, 149, .inl (fun _ => 0)))] := hD
  obtain rfl : r8 = (-2) := hw10
  refine lv_icmp_eq (tgt := 2226) hx hb dL_law_1500 (by decide) (fun c11 => ?_) (fun c11 => absurd (by decide) c11)
  refine lv_iinc (v := 6) (lv' := [(3, .int 6), (2, .ref h1), (1, .ref h0), (0, .ref sb)]) hx hb dL_law_2226 hl (k := 0) rfl (by decide) (by decide) rfl (fun ls hl => ?_)
  refine lv_goto (tgt := 18) hx hb dL_law_2229 (by decide) ?_
  exact law_exit hL6 C0 hAe hS ls (lv_sub hl [3, 0] rfl) (by decide) (by decide)
set_option maxHeartbeats 4000000 in
set_option maxRecDepth 100000 in
theorem law_45 {p : Program} {e : Env} {s : State} {m : MethodId} {below : List Frame} {meth : Method} {c : Code} {l : Launch} {sb L : Nat} {xs : Nat → Int32} {A : Nat → Prop} {G : va_G} {cI cJ cZ cB cQ : ClassId} (h0 : Nat) (b : Nat → Nat) (br : Nat → Nat) (bt : Nat → Nat) (bi : Nat → Nat) (bc : Nat → Nat) (bn : Nat → Nat) (bs : Nat → Nat) (be : Nat → Nat) (bw : Nat → Nat) (h1 : Nat) (bm : Nat → Nat) {H : Heap} {locs : List Loc} (hL : L = 6) (C0 : lw_At p s m meth c sb L xs) (hAe : A = fun q => s.heap.size ≤ q) (hK : va_K G vwCl (TY cI cJ cZ cB cQ) s) (hZ : nz s) (hP : va_P G vwCl (wX cI cJ cZ cB cQ h0 b br bt bi bc bn bs be bw ++ wM cI cJ cZ cB cQ h1 bm) H) (hD : va_D A (wX cI cJ cZ cB cQ h0 b br bt bi bc bn bs be bw ++ wM cI cJ cZ cB cQ h1 bm)) (hS : va_S A s.heap H locs) (ls : Array Slot) (hl : lv_has ls 4 [(3, .int 0), (2, .ref h1), (1, .ref h0), (0, .ref sb)]) (v : Int32) (hv : v.toInt = 45) : W p l e room_1 s m #[Value.ref sb] below meth c H locs 88 8166 (lw_Z below #[Value.ref sb] s) (F0 m 33 ls [.int v]) := by
  have hL6 : L ≤ 6 := by omega
  obtain ⟨hx, hb, hr, hml, hown, hts0, hX, hbl, hlocks, hgv⟩ := id C0
  have hown : s.vm.findClass RL = some m.cls := hown
  have hts : ∀ q ∈ GW, q.before #[Value.ref sb] s = true := fun q h => hts0 q (List.mem_filter.mp h).1
  have hA : ∀ q : Nat, s.heap.size ≤ q → A q := fun q h => by rw [hAe]; exact h
  have hbA : ¬ A sb := by rw [hAe]; exact Nat.not_le.mpr hbl
  have hLT : (Int32.ofNat L).toInt = (L : Int) := nI_toInt (by omega)
  have hLi : (L : Int) = 6 := by omega
  refine lv_tableIn (off := 1472) (tgt := 1505) hx hb dL_law_33 (by rw [hv]; decide) (by rw [hv]; decide) (by rw [hv]; rfl) (by decide) ?_
  have hP : va_P G vwCl [(h0, oX9 b), (b 1, oX0 bc 0 0 0 0 0 0 0 0 0 0), (h1, oX10 bm 0 0 0 0 0 0 0 0 (-1) 0 0 0 0 0 0 0 0 0), (bm 1, .inl (cI, 149, .inl (fun _ => 0)))] H := hP.sub [0, 14, 59, 60] rfl
  have hD : va_D A [(h0, oX9 b), (b 1, oX0 bc 0 0 0 0 0 0 0 0 0 0), (h1, oX10 bm 0 0 0 0 0 0 0 0 (-1) 0 0 0 0 0 0 0 0 0), (bm 1, .inl (cI, 149, .inl (fun _ => 0)))] := hD.sub [0, 14, 59, 60] rfl rfl
  refine lv_aload_n hx hb dL_law_1505 rfl (lv_at hl 2 rfl) ?_
  refine lv_aload_n hx hb dL_law_1506 rfl (lv_at hl 3 rfl) ?_
  refine lv_iload_n hx hb dL_law_1507 rfl (lv_at hl 0 rfl) ?_
  refine lv_iconst (v := 1) hx hb dL_law_1508 (by decide) ?_
  refine lv_iadd hx hb dL_law_1509 ?_
  refine lv_topi (fun v1 ev1 => ?_)
  obtain rfl : v1 = 1 := ev1.trans (by decide)
  refine va_sld hx hb hX hbl hbA hS (ix_in ki_1 (by omega) (by omega)) dL_law_1510 ?_
  refine W.eq (g2 := F0 m 1511 ls [.int (xs 1), .ref h0]) rfl ?_
  refine lv_aload_n hx hb dL_law_1511 rfl (lv_at hl 3 rfl) ?_
  refine lv_iload_n hx hb dL_law_1512 rfl (lv_at hl 0 rfl) ?_
  refine lv_iconst (v := 2) hx hb dL_law_1513 (by decide) ?_
  refine lv_iadd hx hb dL_law_1514 ?_
  refine lv_topi (fun v2 ev2 => ?_)
  obtain rfl : v2 = 2 := ev2.trans (by decide)
  refine va_sld hx hb hX hbl hbA hS (ix_in ki_2 (by omega) (by omega)) dL_law_1515 ?_
  refine W.eq (g2 := F0 m 1516 ls [.int (xs 2), .int (xs 1), .ref h0]) rfl ?_
  refine k_i (wc := [(h0, oX9 b), (b 1, oX0 bc 0 0 0 0 0 0 0 0 0 0)]) (wr := [(h1, oX10 bm 0 0 0 0 0 0 0 0 (-1) 0 0 0 0 0 0 0 0 0), (bm 1, .inl (cI, 149, .inl (fun _ => 0)))]) hP hD hS hA [0, 1] [2, 3] rfl rfl rfl (by decide) (va_runV (As := [.int (xs 1), .int (xs 2)]) (rest := []) ⟨hx, hb, hml, hown, hts⟩ (f_X9_leaves l G cI cJ cZ cB cQ _ h0 b bc (xs 1) (xs 2)) (cwV 2 hts (gV w_986 w_987 w_988 w_1 w_989) rfl rfl rfl ⟨rfl, hd_X9_leaves⟩ ⟨Nat.le_of_ble_eq_true rfl, Nat.le_of_ble_eq_true rfl⟩) (mV hK hZ hP hD [0, 1] rfl rfl [.int (xs 1), .int (xs 2)] 0 9 rfl rfl) rfl rfl hl.1 rfl (lv_room (Nat.le_of_ble_eq_true rfl)) dL_law_1516 ⟨Nat.le_of_ble_eq_true rfl, Nat.le_of_ble_eq_true rfl⟩) (fun r3 u4 H locs hw5 hP hD hS => ?_)
  try dsimp only at hw5
  have hP : va_P G vwCl [(h1, oX10 bm 0 0 0 0 0 0 0 0 (-1) 0 0 0 0 0 0 0 0 0), (bm 1, .inl (cI, 149, .inl (fun _ => 0))), (h0, oX9 b), (b 1, oX0 bc 0 0 0 0 0 0 0 0 0 0)] H := hP
  have hD : va_D A [(h1, oX10 bm 0 0 0 0 0 0 0 0 (-1) 0 0 0 0 0 0 0 0 0), (bm 1, .inl (cI, 149, .inl (fun _ => 0))), (h0, oX9 b), (b 1, oX0 bc 0 0 0 0 0 0 0 0 0 0)] := hD
  obtain rfl : r3 = (-2) := hw5
  refine lv_aload_n hx hb dL_law_1519 rfl (lv_at hl 1 rfl) ?_
  refine lv_aload_n hx hb dL_law_1520 rfl (lv_at hl 3 rfl) ?_
  refine lv_iload_n hx hb dL_law_1521 rfl (lv_at hl 0 rfl) ?_
  refine lv_iconst (v := 1) hx hb dL_law_1522 (by decide) ?_
  refine lv_iadd hx hb dL_law_1523 ?_
  refine lv_topi (fun v6 ev6 => ?_)
  obtain rfl : v6 = 1 := ev6.trans (by decide)
  refine va_sld hx hb hX hbl hbA hS (ix_in ki_1 (by omega) (by omega)) dL_law_1524 ?_
  refine W.eq (g2 := F0 m 1525 ls [.int (xs 1), .ref h1, .int (-2)]) rfl ?_
  refine lv_aload_n hx hb dL_law_1525 rfl (lv_at hl 3 rfl) ?_
  refine lv_iload_n hx hb dL_law_1526 rfl (lv_at hl 0 rfl) ?_
  refine lv_iconst (v := 2) hx hb dL_law_1527 (by decide) ?_
  refine lv_iadd hx hb dL_law_1528 ?_
  refine lv_topi (fun v7 ev7 => ?_)
  obtain rfl : v7 = 2 := ev7.trans (by decide)
  refine va_sld hx hb hX hbl hbA hS (ix_in ki_2 (by omega) (by omega)) dL_law_1529 ?_
  refine W.eq (g2 := F0 m 1530 ls [.int (xs 2), .int (xs 1), .ref h1, .int (-2)]) rfl ?_
  refine k_i (wc := [(h1, oX10 bm 0 0 0 0 0 0 0 0 (-1) 0 0 0 0 0 0 0 0 0), (bm 1, .inl (cI, 149, .inl (fun _ => 0)))]) (wr := [(h0, oX9 b), (b 1, oX0 bc 0 0 0 0 0 0 0 0 0 0)]) hP hD hS hA [0, 1] [2, 3] rfl rfl rfl (by decide) (va_runV (As := [.int (xs 1), .int (xs 2)]) (rest := [.int (-2)]) ⟨hx, hb, hml, hown, hts⟩ (f_X10_leaves l G cI cJ cZ cB cQ _ h1 bm (xs 1) (xs 2)) (cwV 2 hts (gV w_1848 w_1849 w_1850 w_11 w_1851) rfl rfl rfl ⟨rfl, hd_X10_leaves⟩ ⟨Nat.le_of_ble_eq_true rfl, Nat.le_of_ble_eq_true rfl⟩) (mV hK hZ hP hD [0, 1] rfl rfl [.int (xs 1), .int (xs 2)] 0 10 rfl rfl) rfl rfl hl.1 rfl (lv_room (Nat.le_of_ble_eq_true rfl)) dL_law_1530 ⟨Nat.le_of_ble_eq_true rfl, Nat.le_of_ble_eq_true rfl⟩) (fun r8 u9 H locs hw10 hP hD hS => ?_)
  try dsimp only at hw10
  have hP : va_P G vwCl [(h0, oX9 b), (b 1, oX0 bc 0 0 0 0 0 0 0 0 0 0), (h1, oX10 bm 0 0 0 0 0 0 0 0 (-1) 0 0 0 0 0 0 0 0 0), (bm 1, .inl (cI, 149, .inl (fun _ => 0)))] H := hP
  have hD : va_D A [(h0, oX9 b), (b 1, oX0 bc 0 0 0 0 0 0 0 0 0 0), (h1, oX10 bm 0 0 0 0 0 0 0 0 (-1) 0 0 0 0 0 0 0 0 0), (bm 1, .inl (cI, 149, .inl (fun _ => 0)))] := hD
  obtain rfl : r8 = (-2) := hw10
  refine lv_icmp_eq (tgt := 2226) hx hb dL_law_1533 (by decide) (fun c11 => ?_) (fun c11 => absurd (by decide) c11)
  refine lv_iinc (v := 6) (lv' := [(3, .int 6), (2, .ref h1), (1, .ref h0), (0, .ref sb)]) hx hb dL_law_2226 hl (k := 0) rfl (by decide) (by decide) rfl (fun ls hl => ?_)
  refine lv_goto (tgt := 18) hx hb dL_law_2229 (by decide) ?_
  exact law_exit hL6 C0 hAe hS ls (lv_sub hl [3, 0] rfl) (by decide) (by decide)
set_option maxHeartbeats 4000000 in
set_option maxRecDepth 100000 in
theorem law_46 {p : Program} {e : Env} {s : State} {m : MethodId} {below : List Frame} {meth : Method} {c : Code} {l : Launch} {sb L : Nat} {xs : Nat → Int32} {A : Nat → Prop} {G : va_G} {cI cJ cZ cB cQ : ClassId} (h0 : Nat) (b : Nat → Nat) (br : Nat → Nat) (bt : Nat → Nat) (bi : Nat → Nat) (bc : Nat → Nat) (bn : Nat → Nat) (bs : Nat → Nat) (be : Nat → Nat) (bw : Nat → Nat) (h1 : Nat) (bm : Nat → Nat) {H : Heap} {locs : List Loc} (hL : L = 6) (C0 : lw_At p s m meth c sb L xs) (hAe : A = fun q => s.heap.size ≤ q) (hK : va_K G vwCl (TY cI cJ cZ cB cQ) s) (hZ : nz s) (hP : va_P G vwCl (wX cI cJ cZ cB cQ h0 b br bt bi bc bn bs be bw ++ wM cI cJ cZ cB cQ h1 bm) H) (hD : va_D A (wX cI cJ cZ cB cQ h0 b br bt bi bc bn bs be bw ++ wM cI cJ cZ cB cQ h1 bm)) (hS : va_S A s.heap H locs) (ls : Array Slot) (hl : lv_has ls 4 [(3, .int 0), (2, .ref h1), (1, .ref h0), (0, .ref sb)]) (v : Int32) (hv : v.toInt = 46) : W p l e room_1 s m #[Value.ref sb] below meth c H locs 88 8166 (lw_Z below #[Value.ref sb] s) (F0 m 33 ls [.int v]) := by
  have hL6 : L ≤ 6 := by omega
  obtain ⟨hx, hb, hr, hml, hown, hts0, hX, hbl, hlocks, hgv⟩ := id C0
  have hown : s.vm.findClass RL = some m.cls := hown
  have hts : ∀ q ∈ GW, q.before #[Value.ref sb] s = true := fun q h => hts0 q (List.mem_filter.mp h).1
  have hA : ∀ q : Nat, s.heap.size ≤ q → A q := fun q h => by rw [hAe]; exact h
  have hbA : ¬ A sb := by rw [hAe]; exact Nat.not_le.mpr hbl
  have hLT : (Int32.ofNat L).toInt = (L : Int) := nI_toInt (by omega)
  have hLi : (L : Int) = 6 := by omega
  refine lv_tableIn (off := 1505) (tgt := 1538) hx hb dL_law_33 (by rw [hv]; decide) (by rw [hv]; decide) (by rw [hv]; rfl) (by decide) ?_
  have hP : va_P G vwCl [(h0, oX9 b), (b 1, oX0 bc 0 0 0 0 0 0 0 0 0 0), (h1, oX10 bm 0 0 0 0 0 0 0 0 (-1) 0 0 0 0 0 0 0 0 0), (bm 1, .inl (cI, 149, .inl (fun _ => 0)))] H := hP.sub [0, 14, 59, 60] rfl
  have hD : va_D A [(h0, oX9 b), (b 1, oX0 bc 0 0 0 0 0 0 0 0 0 0), (h1, oX10 bm 0 0 0 0 0 0 0 0 (-1) 0 0 0 0 0 0 0 0 0), (bm 1, .inl (cI, 149, .inl (fun _ => 0)))] := hD.sub [0, 14, 59, 60] rfl rfl
  refine lv_aload_n hx hb dL_law_1538 rfl (lv_at hl 2 rfl) ?_
  refine lv_aload_n hx hb dL_law_1539 rfl (lv_at hl 3 rfl) ?_
  refine lv_iload_n hx hb dL_law_1540 rfl (lv_at hl 0 rfl) ?_
  refine lv_iconst (v := 1) hx hb dL_law_1541 (by decide) ?_
  refine lv_iadd hx hb dL_law_1542 ?_
  refine lv_topi (fun v1 ev1 => ?_)
  obtain rfl : v1 = 1 := ev1.trans (by decide)
  refine va_sld hx hb hX hbl hbA hS (ix_in ki_1 (by omega) (by omega)) dL_law_1543 ?_
  refine W.eq (g2 := F0 m 1544 ls [.int (xs 1), .ref h0]) rfl ?_
  refine k_i (wc := [(h0, oX9 b), (b 1, oX0 bc 0 0 0 0 0 0 0 0 0 0)]) (wr := [(h1, oX10 bm 0 0 0 0 0 0 0 0 (-1) 0 0 0 0 0 0 0 0 0), (bm 1, .inl (cI, 149, .inl (fun _ => 0)))]) hP hD hS hA [0, 1] [2, 3] rfl rfl rfl (by decide) (va_runV (As := [.int (xs 1)]) (rest := []) ⟨hx, hb, hml, hown, hts⟩ (f_X9_laws l G cI cJ cZ cB cQ _ h0 b bc (xs 1)) (cwV 1 hts (gV w_991 w_992 w_993 w_1 w_994) rfl rfl rfl ⟨rfl, hd_X9_laws⟩ ⟨Nat.le_of_ble_eq_true rfl, Nat.le_of_ble_eq_true rfl⟩) (mV hK hZ hP hD [0, 1] rfl rfl [.int (xs 1)] 0 9 rfl rfl) rfl rfl hl.1 rfl (lv_room (Nat.le_of_ble_eq_true rfl)) dL_law_1544 ⟨Nat.le_of_ble_eq_true rfl, Nat.le_of_ble_eq_true rfl⟩) (fun r2 u3 H locs hw4 hP hD hS => ?_)
  try dsimp only at hw4
  have hP : va_P G vwCl [(h1, oX10 bm 0 0 0 0 0 0 0 0 (-1) 0 0 0 0 0 0 0 0 0), (bm 1, .inl (cI, 149, .inl (fun _ => 0))), (h0, oX9 b), (b 1, oX0 bc 0 0 0 0 0 0 0 0 0 0)] H := hP
  have hD : va_D A [(h1, oX10 bm 0 0 0 0 0 0 0 0 (-1) 0 0 0 0 0 0 0 0 0), (bm 1, .inl (cI, 149, .inl (fun _ => 0))), (h0, oX9 b), (b 1, oX0 bc 0 0 0 0 0 0 0 0 0 0)] := hD
  obtain rfl : r2 = (-2) := hw4
  refine lv_aload_n hx hb dL_law_1547 rfl (lv_at hl 1 rfl) ?_
  refine lv_aload_n hx hb dL_law_1548 rfl (lv_at hl 3 rfl) ?_
  refine lv_iload_n hx hb dL_law_1549 rfl (lv_at hl 0 rfl) ?_
  refine lv_iconst (v := 1) hx hb dL_law_1550 (by decide) ?_
  refine lv_iadd hx hb dL_law_1551 ?_
  refine lv_topi (fun v5 ev5 => ?_)
  obtain rfl : v5 = 1 := ev5.trans (by decide)
  refine va_sld hx hb hX hbl hbA hS (ix_in ki_1 (by omega) (by omega)) dL_law_1552 ?_
  refine W.eq (g2 := F0 m 1553 ls [.int (xs 1), .ref h1, .int (-2)]) rfl ?_
  refine k_i (wc := [(h1, oX10 bm 0 0 0 0 0 0 0 0 (-1) 0 0 0 0 0 0 0 0 0), (bm 1, .inl (cI, 149, .inl (fun _ => 0)))]) (wr := [(h0, oX9 b), (b 1, oX0 bc 0 0 0 0 0 0 0 0 0 0)]) hP hD hS hA [0, 1] [2, 3] rfl rfl rfl (by decide) (va_runV (As := [.int (xs 1)]) (rest := [.int (-2)]) ⟨hx, hb, hml, hown, hts⟩ (f_X10_laws l G cI cJ cZ cB cQ _ h1 bm (xs 1)) (cwV 1 hts (gV w_1852 w_1853 w_1854 w_11 w_1855) rfl rfl rfl ⟨rfl, hd_X10_laws⟩ ⟨Nat.le_of_ble_eq_true rfl, Nat.le_of_ble_eq_true rfl⟩) (mV hK hZ hP hD [0, 1] rfl rfl [.int (xs 1)] 0 10 rfl rfl) rfl rfl hl.1 rfl (lv_room (Nat.le_of_ble_eq_true rfl)) dL_law_1553 ⟨Nat.le_of_ble_eq_true rfl, Nat.le_of_ble_eq_true rfl⟩) (fun r6 u7 H locs hw8 hP hD hS => ?_)
  try dsimp only at hw8
  have hP : va_P G vwCl [(h0, oX9 b), (b 1, oX0 bc 0 0 0 0 0 0 0 0 0 0), (h1, oX10 bm 0 0 0 0 0 0 0 0 (-1) 0 0 0 0 0 0 0 0 0), (bm 1, .inl (cI, 149, .inl (fun _ => 0)))] H := hP
  have hD : va_D A [(h0, oX9 b), (b 1, oX0 bc 0 0 0 0 0 0 0 0 0 0), (h1, oX10 bm 0 0 0 0 0 0 0 0 (-1) 0 0 0 0 0 0 0 0 0), (bm 1, .inl (cI, 149, .inl (fun _ => 0)))] := hD
  obtain rfl : r6 = (-2) := hw8
  refine lv_icmp_eq (tgt := 2226) hx hb dL_law_1556 (by decide) (fun c9 => ?_) (fun c9 => absurd (by decide) c9)
  refine lv_iinc (v := 6) (lv' := [(3, .int 6), (2, .ref h1), (1, .ref h0), (0, .ref sb)]) hx hb dL_law_2226 hl (k := 0) rfl (by decide) (by decide) rfl (fun ls hl => ?_)
  refine lv_goto (tgt := 18) hx hb dL_law_2229 (by decide) ?_
  exact law_exit hL6 C0 hAe hS ls (lv_sub hl [3, 0] rfl) (by decide) (by decide)
