/-! the law: its cases, 4 -/
set_option maxRecDepth 4000 in
theorem lc_knots {sb L0 : Nat} {xs : Nat → Int32} {nm : String} {o i m : Nat} {Φ : Option Value → HP → Prop} {h : HP} {cap : Nat → Nat} {A : Nat → Int} {ia : Nat → Nat → Int} {la : Nat → Nat → BitVec 64} {fi : Nat → Int} {fl : Nat → BitVec 64} {L R C rc rs : Nat} (hL : L0 ≤ 3072) (hi : i + 6 ≤ L0) (N : NX sb L0 xs nm o i m Φ) (I : LI o h cap A ia la fi fl L R C) (r1 : 200 * (m + 1) + (426168 - smC cap) ≤ rc) (r2 : 8300 * (m + 1) + 2 * (426168 - smC cap) ≤ rs) : wl sb L0 xs (mLaw nm) 1363 [.ref sb, .ref o, .ref (o + 60), .int (zI (i : Int))] [] h rc rs Φ := by
  obtain ⟨H, hr⟩ := I
  have hT := cls_top H
  obtain ⟨c, sa, si, sl, hX⟩ := H.vx
  have hcp := cls_cap H
  obtain ⟨cap', ⟨hcm, hcb⟩, hx0⟩ := x_knots H (ok32_of (xs (i + 1)))
  have hx := ad_xp hx0
  refine vw_aload_n dL_law_1363 rfl rfl ?_
  refine vw_aload_n dL_law_1364 rfl rfl ?_
  refine vw_iload_n dL_law_1365 rfl rfl ?_
  refine vw_iconst dL_law_1366 ?_
  refine vw_iadd dL_law_1367 ?_
  refine v_sld (i + 1) (by omega) (by omega) hL dL_law_1368 ?_
  refine vw_callV (Z := mX9_knots) (As := [_]) hx (cls_o H) rfl kX9_knots lL_184 iX9_knots vX9_knots dL_law_1369 rfl rfl rfl (Nat.le_of_ble_eq_true rfl) ⟨Nat.le_of_ble_eq_true rfl, Nat.le_of_ble_eq_true rfl⟩ (by omega) (by omega) (fun v h1 q => ?_)
  obtain ⟨rfl, hF, L1, R1, C1, H1⟩ := q
  have hc1 := cls_cap H1
  have hr1 := li_frm hr hF
  have hz := ad_pr (c_knots (r := o + 60) (A := A) (ia := ia) (la := la) (fi := fi) (fl := fl) (h0 := h1) hT (ok32_of (xs (i + 1))))
  refine vw_aload_n dL_law_1372 rfl rfl ?_
  refine vw_aload_n dL_law_1373 rfl rfl ?_
  refine vw_iload_n dL_law_1374 rfl rfl ?_
  refine vw_iconst dL_law_1375 ?_
  refine vw_iadd dL_law_1376 ?_
  refine v_sld (i + 1) (by omega) (by omega) hL dL_law_1377 ?_
  refine v_cast (h' := RH (o + 60) A ia la fi fl h1) rfl rfl (RHP.self hr1).symm ?_
  refine vw_callV (Z := mX10_knots) (As := [_]) hz RH0 rfl kX10_knots lL_187 iX10_knots vX10_knots dL_law_1378 rfl rfl rfl (Nat.le_of_ble_eq_true rfl) ⟨Nat.le_of_ble_eq_true rfl, Nat.le_of_ble_eq_true rfl⟩ (Nat.zero_le _) (Nat.zero_le _) (fun v h2 q => ?_)
  obtain ⟨rfl, ia', la', fi', fl', e⟩ := q
  refine v_sameI 2113 dL_law_1381 (by decide) ?_
  exact nx_go N H1 e (by omega) (by omega)
set_option maxRecDepth 4000 in
theorem lc_least {sb L0 : Nat} {xs : Nat → Int32} {nm : String} {o i m : Nat} {Φ : Option Value → HP → Prop} {h : HP} {cap : Nat → Nat} {A : Nat → Int} {ia : Nat → Nat → Int} {la : Nat → Nat → BitVec 64} {fi : Nat → Int} {fl : Nat → BitVec 64} {L R C rc rs : Nat} (hL : L0 ≤ 3072) (hi : i + 6 ≤ L0) (N : NX sb L0 xs nm o i m Φ) (I : LI o h cap A ia la fi fl L R C) (r1 : 200 * (m + 1) + (426168 - smC cap) ≤ rc) (r2 : 8300 * (m + 1) + 2 * (426168 - smC cap) ≤ rs) : wl sb L0 xs (mLaw nm) 1386 [.ref sb, .ref o, .ref (o + 60), .int (zI (i : Int))] [] h rc rs Φ := by
  obtain ⟨H, hr⟩ := I
  have hT := cls_top H
  obtain ⟨c, sa, si, sl, hX⟩ := H.vx
  have hcp := cls_cap H
  obtain ⟨cap', ⟨hcm, hcb⟩, hx0⟩ := x_least H (ok32_of (xs (i + 1))) (ok32_of (xs (i + 2)))
  have hx := ad_xp hx0
  refine vw_aload_n dL_law_1386 rfl rfl ?_
  refine vw_aload_n dL_law_1387 rfl rfl ?_
  refine vw_iload_n dL_law_1388 rfl rfl ?_
  refine vw_iconst dL_law_1389 ?_
  refine vw_iadd dL_law_1390 ?_
  refine v_sld (i + 1) (by omega) (by omega) hL dL_law_1391 ?_
  refine vw_aload_n dL_law_1392 rfl rfl ?_
  refine vw_iload_n dL_law_1393 rfl rfl ?_
  refine vw_iconst dL_law_1394 ?_
  refine vw_iadd dL_law_1395 ?_
  refine v_sld (i + 2) (by omega) (by omega) hL dL_law_1396 ?_
  refine vw_callV (Z := mX9_least) (As := [_, _]) hx (cls_o H) rfl kX9_least lL_188 iX9_least vX9_least dL_law_1397 rfl rfl rfl (Nat.le_of_ble_eq_true rfl) ⟨Nat.le_of_ble_eq_true rfl, Nat.le_of_ble_eq_true rfl⟩ (by omega) (by omega) (fun v h1 q => ?_)
  obtain ⟨rfl, hF, L1, R1, C1, H1⟩ := q
  have hc1 := cls_cap H1
  have hr1 := li_frm hr hF
  have hz := ad_pr (c_least (r := o + 60) (A := A) (ia := ia) (la := la) (fi := fi) (fl := fl) (h0 := h1) hT (ok32_of (xs (i + 1))) (ok32_of (xs (i + 2))))
  refine vw_aload_n dL_law_1400 rfl rfl ?_
  refine vw_aload_n dL_law_1401 rfl rfl ?_
  refine vw_iload_n dL_law_1402 rfl rfl ?_
  refine vw_iconst dL_law_1403 ?_
  refine vw_iadd dL_law_1404 ?_
  refine v_sld (i + 1) (by omega) (by omega) hL dL_law_1405 ?_
  refine vw_aload_n dL_law_1406 rfl rfl ?_
  refine vw_iload_n dL_law_1407 rfl rfl ?_
  refine vw_iconst dL_law_1408 ?_
  refine vw_iadd dL_law_1409 ?_
  refine v_sld (i + 2) (by omega) (by omega) hL dL_law_1410 ?_
  refine v_cast (h' := RH (o + 60) A ia la fi fl h1) rfl rfl (RHP.self hr1).symm ?_
  refine vw_callV (Z := mX10_least) (As := [_, _]) hz RH0 rfl kX10_least lL_192 iX10_least vX10_least dL_law_1411 rfl rfl rfl (Nat.le_of_ble_eq_true rfl) ⟨Nat.le_of_ble_eq_true rfl, Nat.le_of_ble_eq_true rfl⟩ (Nat.zero_le _) (Nat.zero_le _) (fun v h2 q => ?_)
  obtain ⟨rfl, ia', la', fi', fl', e⟩ := q
  refine v_sameL 2113 dL_law_1414 dL_law_1415 (by decide) ?_
  exact nx_go N H1 e (by omega) (by omega)
set_option maxRecDepth 4000 in
theorem lc_stoppers {sb L0 : Nat} {xs : Nat → Int32} {nm : String} {o i m : Nat} {Φ : Option Value → HP → Prop} {h : HP} {cap : Nat → Nat} {A : Nat → Int} {ia : Nat → Nat → Int} {la : Nat → Nat → BitVec 64} {fi : Nat → Int} {fl : Nat → BitVec 64} {L R C rc rs : Nat} (hL : L0 ≤ 3072) (hi : i + 6 ≤ L0) (N : NX sb L0 xs nm o i m Φ) (I : LI o h cap A ia la fi fl L R C) (r1 : 200 * (m + 1) + (426168 - smC cap) ≤ rc) (r2 : 8300 * (m + 1) + 2 * (426168 - smC cap) ≤ rs) : wl sb L0 xs (mLaw nm) 1420 [.ref sb, .ref o, .ref (o + 60), .int (zI (i : Int))] [] h rc rs Φ := by
  obtain ⟨H, hr⟩ := I
  have hT := cls_top H
  obtain ⟨c, sa, si, sl, hX⟩ := H.vx
  have hcp := cls_cap H
  obtain ⟨cap', ⟨hcm, hcb⟩, hx0⟩ := x_stoppers H (ok32_of (xs (i + 1)))
  have hx := ad_xp hx0
  refine vw_aload_n dL_law_1420 rfl rfl ?_
  refine vw_aload_n dL_law_1421 rfl rfl ?_
  refine vw_iload_n dL_law_1422 rfl rfl ?_
  refine vw_iconst dL_law_1423 ?_
  refine vw_iadd dL_law_1424 ?_
  refine v_sld (i + 1) (by omega) (by omega) hL dL_law_1425 ?_
  refine vw_callV (Z := mX9_stoppers) (As := [_]) hx (cls_o H) rfl kX9_stoppers lL_193 iX9_stoppers vX9_stoppers dL_law_1426 rfl rfl rfl (Nat.le_of_ble_eq_true rfl) ⟨Nat.le_of_ble_eq_true rfl, Nat.le_of_ble_eq_true rfl⟩ (by omega) (by omega) (fun v h1 q => ?_)
  obtain ⟨rfl, hF, L1, R1, C1, H1⟩ := q
  have hc1 := cls_cap H1
  have hr1 := li_frm hr hF
  have hz := ad_pr (c_stoppers (r := o + 60) (A := A) (ia := ia) (la := la) (fi := fi) (fl := fl) (h0 := h1) hT (ok32_of (xs (i + 1))))
  refine vw_aload_n dL_law_1429 rfl rfl ?_
  refine vw_aload_n dL_law_1430 rfl rfl ?_
  refine vw_iload_n dL_law_1431 rfl rfl ?_
  refine vw_iconst dL_law_1432 ?_
  refine vw_iadd dL_law_1433 ?_
  refine v_sld (i + 1) (by omega) (by omega) hL dL_law_1434 ?_
  refine v_cast (h' := RH (o + 60) A ia la fi fl h1) rfl rfl (RHP.self hr1).symm ?_
  refine vw_callV (Z := mX10_stoppers) (As := [_]) hz RH0 rfl kX10_stoppers lL_196 iX10_stoppers vX10_stoppers dL_law_1435 rfl rfl rfl (Nat.le_of_ble_eq_true rfl) ⟨Nat.le_of_ble_eq_true rfl, Nat.le_of_ble_eq_true rfl⟩ (Nat.zero_le _) (Nat.zero_le _) (fun v h2 q => ?_)
  obtain ⟨rfl, ia', la', fi', fl', e⟩ := q
  refine v_sameI 2113 dL_law_1438 (by decide) ?_
  exact nx_go N H1 e (by omega) (by omega)
set_option maxRecDepth 4000 in
theorem lc_words {sb L0 : Nat} {xs : Nat → Int32} {nm : String} {o i m : Nat} {Φ : Option Value → HP → Prop} {h : HP} {cap : Nat → Nat} {A : Nat → Int} {ia : Nat → Nat → Int} {la : Nat → Nat → BitVec 64} {fi : Nat → Int} {fl : Nat → BitVec 64} {L R C rc rs : Nat} (hL : L0 ≤ 3072) (hi : i + 6 ≤ L0) (N : NX sb L0 xs nm o i m Φ) (I : LI o h cap A ia la fi fl L R C) (r1 : 200 * (m + 1) + (426168 - smC cap) ≤ rc) (r2 : 8300 * (m + 1) + 2 * (426168 - smC cap) ≤ rs) : wl sb L0 xs (mLaw nm) 1443 [.ref sb, .ref o, .ref (o + 60), .int (zI (i : Int))] [] h rc rs Φ := by
  obtain ⟨H, hr⟩ := I
  have hT := cls_top H
  obtain ⟨c, sa, si, sl, hX⟩ := H.vx
  have hcp := cls_cap H
  obtain ⟨cap', ⟨hcm, hcb⟩, hx0⟩ := x_words H (ok32_of (xs (i + 1)))
  have hx := ad_xp hx0
  refine vw_aload_n dL_law_1443 rfl rfl ?_
  refine vw_aload_n dL_law_1444 rfl rfl ?_
  refine vw_iload_n dL_law_1445 rfl rfl ?_
  refine vw_iconst dL_law_1446 ?_
  refine vw_iadd dL_law_1447 ?_
  refine v_sld (i + 1) (by omega) (by omega) hL dL_law_1448 ?_
  refine vw_callV (Z := mX9_words) (As := [_]) hx (cls_o H) rfl kX9_words lL_197 iX9_words vX9_words dL_law_1449 rfl rfl rfl (Nat.le_of_ble_eq_true rfl) ⟨Nat.le_of_ble_eq_true rfl, Nat.le_of_ble_eq_true rfl⟩ (by omega) (by omega) (fun v h1 q => ?_)
  obtain ⟨rfl, hF, L1, R1, C1, H1⟩ := q
  have hc1 := cls_cap H1
  have hr1 := li_frm hr hF
  have hz := ad_pr (c_words (r := o + 60) (A := A) (ia := ia) (la := la) (fi := fi) (fl := fl) (h0 := h1) hT (ok32_of (xs (i + 1))))
  refine vw_aload_n dL_law_1452 rfl rfl ?_
  refine vw_aload_n dL_law_1453 rfl rfl ?_
  refine vw_iload_n dL_law_1454 rfl rfl ?_
  refine vw_iconst dL_law_1455 ?_
  refine vw_iadd dL_law_1456 ?_
  refine v_sld (i + 1) (by omega) (by omega) hL dL_law_1457 ?_
  refine v_cast (h' := RH (o + 60) A ia la fi fl h1) rfl rfl (RHP.self hr1).symm ?_
  refine vw_callV (Z := mX10_words) (As := [_]) hz RH0 rfl kX10_words lL_200 iX10_words vX10_words dL_law_1458 rfl rfl rfl (Nat.le_of_ble_eq_true rfl) ⟨Nat.le_of_ble_eq_true rfl, Nat.le_of_ble_eq_true rfl⟩ (Nat.zero_le _) (Nat.zero_le _) (fun v h2 q => ?_)
  obtain ⟨rfl, ia', la', fi', fl', e⟩ := q
  refine v_sameI 2113 dL_law_1461 (by decide) ?_
  exact nx_go N H1 e (by omega) (by omega)
set_option maxRecDepth 4000 in
theorem lc_trapped {sb L0 : Nat} {xs : Nat → Int32} {nm : String} {o i m : Nat} {Φ : Option Value → HP → Prop} {h : HP} {cap : Nat → Nat} {A : Nat → Int} {ia : Nat → Nat → Int} {la : Nat → Nat → BitVec 64} {fi : Nat → Int} {fl : Nat → BitVec 64} {L R C rc rs : Nat} (hL : L0 ≤ 3072) (hi : i + 6 ≤ L0) (N : NX sb L0 xs nm o i m Φ) (I : LI o h cap A ia la fi fl L R C) (r1 : 200 * (m + 1) + (426168 - smC cap) ≤ rc) (r2 : 8300 * (m + 1) + 2 * (426168 - smC cap) ≤ rs) : wl sb L0 xs (mLaw nm) 1466 [.ref sb, .ref o, .ref (o + 60), .int (zI (i : Int))] [] h rc rs Φ := by
  obtain ⟨H, hr⟩ := I
  have hT := cls_top H
  obtain ⟨c, sa, si, sl, hX⟩ := H.vx
  have hcp := cls_cap H
  obtain ⟨cap', ⟨hcm, hcb⟩, hx0⟩ := x_trapped H (ok32_of (xs (i + 1))) (ok32_of (xs (i + 2))) (ok32_of (xs (i + 3)))
  have hx := ad_xp hx0
  refine vw_aload_n dL_law_1466 rfl rfl ?_
  refine vw_aload_n dL_law_1467 rfl rfl ?_
  refine vw_iload_n dL_law_1468 rfl rfl ?_
  refine vw_iconst dL_law_1469 ?_
  refine vw_iadd dL_law_1470 ?_
  refine v_sld (i + 1) (by omega) (by omega) hL dL_law_1471 ?_
  refine vw_aload_n dL_law_1472 rfl rfl ?_
  refine vw_iload_n dL_law_1473 rfl rfl ?_
  refine vw_iconst dL_law_1474 ?_
  refine vw_iadd dL_law_1475 ?_
  refine v_sld (i + 2) (by omega) (by omega) hL dL_law_1476 ?_
  refine vw_aload_n dL_law_1477 rfl rfl ?_
  refine vw_iload_n dL_law_1478 rfl rfl ?_
  refine vw_iconst dL_law_1479 ?_
  refine vw_iadd dL_law_1480 ?_
  refine v_sld (i + 3) (by omega) (by omega) hL dL_law_1481 ?_
  refine vw_callV (Z := mX9_trapped) (As := [_, _, _]) hx (cls_o H) rfl kX9_trapped lL_201 iX9_trapped vX9_trapped dL_law_1482 rfl rfl rfl (Nat.le_of_ble_eq_true rfl) ⟨Nat.le_of_ble_eq_true rfl, Nat.le_of_ble_eq_true rfl⟩ (by omega) (by omega) (fun v h1 q => ?_)
  obtain ⟨rfl, hF, L1, R1, C1, H1⟩ := q
  have hc1 := cls_cap H1
  have hr1 := li_frm hr hF
  have hz := ad_pr (c_trapped (r := o + 60) (A := A) (ia := ia) (la := la) (fi := fi) (fl := fl) (h0 := h1) hT (ok32_of (xs (i + 1))) (ok32_of (xs (i + 2))) (ok32_of (xs (i + 3))))
  refine vw_aload_n dL_law_1485 rfl rfl ?_
  refine vw_aload_n dL_law_1486 rfl rfl ?_
  refine vw_iload_n dL_law_1487 rfl rfl ?_
  refine vw_iconst dL_law_1488 ?_
  refine vw_iadd dL_law_1489 ?_
  refine v_sld (i + 1) (by omega) (by omega) hL dL_law_1490 ?_
  refine vw_aload_n dL_law_1491 rfl rfl ?_
  refine vw_iload_n dL_law_1492 rfl rfl ?_
  refine vw_iconst dL_law_1493 ?_
  refine vw_iadd dL_law_1494 ?_
  refine v_sld (i + 2) (by omega) (by omega) hL dL_law_1495 ?_
  refine vw_aload_n dL_law_1496 rfl rfl ?_
  refine vw_iload_n dL_law_1497 rfl rfl ?_
  refine vw_iconst dL_law_1498 ?_
  refine vw_iadd dL_law_1499 ?_
  refine v_sld (i + 3) (by omega) (by omega) hL dL_law_1500 ?_
  refine v_cast (h' := RH (o + 60) A ia la fi fl h1) rfl rfl (RHP.self hr1).symm ?_
  refine vw_callV (Z := mX10_trapped) (As := [_, _, _]) hz RH0 rfl kX10_trapped lL_205 iX10_trapped vX10_trapped dL_law_1501 rfl rfl rfl (Nat.le_of_ble_eq_true rfl) ⟨Nat.le_of_ble_eq_true rfl, Nat.le_of_ble_eq_true rfl⟩ (Nat.zero_le _) (Nat.zero_le _) (fun v h2 q => ?_)
  obtain ⟨rfl, ia', la', fi', fl', e⟩ := q
  refine v_sameI 2113 dL_law_1504 (by decide) ?_
  exact nx_go N H1 e (by omega) (by omega)
set_option maxRecDepth 4000 in
theorem lc_traps {sb L0 : Nat} {xs : Nat → Int32} {nm : String} {o i m : Nat} {Φ : Option Value → HP → Prop} {h : HP} {cap : Nat → Nat} {A : Nat → Int} {ia : Nat → Nat → Int} {la : Nat → Nat → BitVec 64} {fi : Nat → Int} {fl : Nat → BitVec 64} {L R C rc rs : Nat} (hL : L0 ≤ 3072) (hi : i + 6 ≤ L0) (N : NX sb L0 xs nm o i m Φ) (I : LI o h cap A ia la fi fl L R C) (r1 : 200 * (m + 1) + (426168 - smC cap) ≤ rc) (r2 : 8300 * (m + 1) + 2 * (426168 - smC cap) ≤ rs) : wl sb L0 xs (mLaw nm) 1509 [.ref sb, .ref o, .ref (o + 60), .int (zI (i : Int))] [] h rc rs Φ := by
  obtain ⟨H, hr⟩ := I
  have hT := cls_top H
  obtain ⟨c, sa, si, sl, hX⟩ := H.vx
  have hcp := cls_cap H
  obtain ⟨cap', ⟨hcm, hcb⟩, hx0⟩ := x_traps H (ok32_of (xs (i + 1))) (ok32_of (xs (i + 2)))
  have hx := ad_xp hx0
  refine vw_aload_n dL_law_1509 rfl rfl ?_
  refine vw_aload_n dL_law_1510 rfl rfl ?_
  refine vw_iload_n dL_law_1511 rfl rfl ?_
  refine vw_iconst dL_law_1512 ?_
  refine vw_iadd dL_law_1513 ?_
  refine v_sld (i + 1) (by omega) (by omega) hL dL_law_1514 ?_
  refine vw_aload_n dL_law_1515 rfl rfl ?_
  refine vw_iload_n dL_law_1516 rfl rfl ?_
  refine vw_iconst dL_law_1517 ?_
  refine vw_iadd dL_law_1518 ?_
  refine v_sld (i + 2) (by omega) (by omega) hL dL_law_1519 ?_
  refine vw_callV (Z := mX9_traps) (As := [_, _]) hx (cls_o H) rfl kX9_traps lL_206 iX9_traps vX9_traps dL_law_1520 rfl rfl rfl (Nat.le_of_ble_eq_true rfl) ⟨Nat.le_of_ble_eq_true rfl, Nat.le_of_ble_eq_true rfl⟩ (by omega) (by omega) (fun v h1 q => ?_)
  obtain ⟨rfl, hF, L1, R1, C1, H1⟩ := q
  have hc1 := cls_cap H1
  have hr1 := li_frm hr hF
  have hz := ad_pr (c_traps (r := o + 60) (A := A) (ia := ia) (la := la) (fi := fi) (fl := fl) (h0 := h1) hT (ok32_of (xs (i + 1))) (ok32_of (xs (i + 2))))
  refine vw_aload_n dL_law_1523 rfl rfl ?_
  refine vw_aload_n dL_law_1524 rfl rfl ?_
  refine vw_iload_n dL_law_1525 rfl rfl ?_
  refine vw_iconst dL_law_1526 ?_
  refine vw_iadd dL_law_1527 ?_
  refine v_sld (i + 1) (by omega) (by omega) hL dL_law_1528 ?_
  refine vw_aload_n dL_law_1529 rfl rfl ?_
  refine vw_iload_n dL_law_1530 rfl rfl ?_
  refine vw_iconst dL_law_1531 ?_
  refine vw_iadd dL_law_1532 ?_
  refine v_sld (i + 2) (by omega) (by omega) hL dL_law_1533 ?_
  refine v_cast (h' := RH (o + 60) A ia la fi fl h1) rfl rfl (RHP.self hr1).symm ?_
  refine vw_callV (Z := mX10_traps) (As := [_, _]) hz RH0 rfl kX10_traps lL_209 iX10_traps vX10_traps dL_law_1534 rfl rfl rfl (Nat.le_of_ble_eq_true rfl) ⟨Nat.le_of_ble_eq_true rfl, Nat.le_of_ble_eq_true rfl⟩ (Nat.zero_le _) (Nat.zero_le _) (fun v h2 q => ?_)
  obtain ⟨rfl, ia', la', fi', fl', e⟩ := q
  refine v_sameI 2113 dL_law_1537 (by decide) ?_
  exact nx_go N H1 e (by omega) (by omega)
set_option maxRecDepth 4000 in
theorem lc_weakest {sb L0 : Nat} {xs : Nat → Int32} {nm : String} {o i m : Nat} {Φ : Option Value → HP → Prop} {h : HP} {cap : Nat → Nat} {A : Nat → Int} {ia : Nat → Nat → Int} {la : Nat → Nat → BitVec 64} {fi : Nat → Int} {fl : Nat → BitVec 64} {L R C rc rs : Nat} (hL : L0 ≤ 3072) (hi : i + 6 ≤ L0) (N : NX sb L0 xs nm o i m Φ) (I : LI o h cap A ia la fi fl L R C) (r1 : 200 * (m + 1) + (426168 - smC cap) ≤ rc) (r2 : 8300 * (m + 1) + 2 * (426168 - smC cap) ≤ rs) : wl sb L0 xs (mLaw nm) 1542 [.ref sb, .ref o, .ref (o + 60), .int (zI (i : Int))] [] h rc rs Φ := by
  obtain ⟨H, hr⟩ := I
  have hT := cls_top H
  obtain ⟨c, sa, si, sl, hX⟩ := H.vx
  have hcp := cls_cap H
  obtain ⟨cap', ⟨hcm, hcb⟩, hx0⟩ := x_weakest H (ok32_of (xs (i + 1)))
  have hx := ad_xp hx0
  refine vw_aload_n dL_law_1542 rfl rfl ?_
  refine vw_aload_n dL_law_1543 rfl rfl ?_
  refine vw_iload_n dL_law_1544 rfl rfl ?_
  refine vw_iconst dL_law_1545 ?_
  refine vw_iadd dL_law_1546 ?_
  refine v_sld (i + 1) (by omega) (by omega) hL dL_law_1547 ?_
  refine vw_callV (Z := mX9_weakest) (As := [_]) hx (cls_o H) rfl kX9_weakest lL_210 iX9_weakest vX9_weakest dL_law_1548 rfl rfl rfl (Nat.le_of_ble_eq_true rfl) ⟨Nat.le_of_ble_eq_true rfl, Nat.le_of_ble_eq_true rfl⟩ (by omega) (by omega) (fun v h1 q => ?_)
  obtain ⟨rfl, hF, L1, R1, C1, H1⟩ := q
  have hc1 := cls_cap H1
  have hr1 := li_frm hr hF
  have hz := ad_pr (c_weakest (r := o + 60) (A := A) (ia := ia) (la := la) (fi := fi) (fl := fl) (h0 := h1) hT (ok32_of (xs (i + 1))))
  refine vw_aload_n dL_law_1551 rfl rfl ?_
  refine vw_aload_n dL_law_1552 rfl rfl ?_
  refine vw_iload_n dL_law_1553 rfl rfl ?_
  refine vw_iconst dL_law_1554 ?_
  refine vw_iadd dL_law_1555 ?_
  refine v_sld (i + 1) (by omega) (by omega) hL dL_law_1556 ?_
  refine v_cast (h' := RH (o + 60) A ia la fi fl h1) rfl rfl (RHP.self hr1).symm ?_
  refine vw_callV (Z := mX10_weakest) (As := [_]) hz RH0 rfl kX10_weakest lL_214 iX10_weakest vX10_weakest dL_law_1557 rfl rfl rfl (Nat.le_of_ble_eq_true rfl) ⟨Nat.le_of_ble_eq_true rfl, Nat.le_of_ble_eq_true rfl⟩ (Nat.zero_le _) (Nat.zero_le _) (fun v h2 q => ?_)
  obtain ⟨rfl, ia', la', fi', fl', e⟩ := q
  refine v_sameL 2113 dL_law_1560 dL_law_1561 (by decide) ?_
  exact nx_go N H1 e (by omega) (by omega)
set_option maxRecDepth 4000 in
theorem lc_peeled {sb L0 : Nat} {xs : Nat → Int32} {nm : String} {o i m : Nat} {Φ : Option Value → HP → Prop} {h : HP} {cap : Nat → Nat} {A : Nat → Int} {ia : Nat → Nat → Int} {la : Nat → Nat → BitVec 64} {fi : Nat → Int} {fl : Nat → BitVec 64} {L R C rc rs : Nat} (hL : L0 ≤ 3072) (hi : i + 6 ≤ L0) (N : NX sb L0 xs nm o i m Φ) (I : LI o h cap A ia la fi fl L R C) (r1 : 200 * (m + 1) + (426168 - smC cap) ≤ rc) (r2 : 8300 * (m + 1) + 2 * (426168 - smC cap) ≤ rs) : wl sb L0 xs (mLaw nm) 1566 [.ref sb, .ref o, .ref (o + 60), .int (zI (i : Int))] [] h rc rs Φ := by
  obtain ⟨H, hr⟩ := I
  have hT := cls_top H
  obtain ⟨c, sa, si, sl, hX⟩ := H.vx
  have hcp := cls_cap H
  have hx := ad_pd H (x_peeled (x := ((BitVec.ofInt 64 (xs (i + 1)).toInt) <<< 32 ||| (BitVec.ofInt 64 (xs (i + 2)).toInt) &&& 4294967295#64)) hX.vw )
  refine vw_aload_n dL_law_1566 rfl rfl ?_
  refine vw_aload_n dL_law_1567 rfl rfl ?_
  refine vw_iload_n dL_law_1568 rfl rfl ?_
  refine vw_iconst dL_law_1569 ?_
  refine vw_iadd dL_law_1570 ?_
  refine v_sld (i + 1) (by omega) (by omega) hL dL_law_1571 ?_
  refine vw_i2l (ok32_of _) dL_law_1572 ?_
  refine vw_bipush dL_law_1573 (by decide) ?_
  refine vw_lshl 32 rfl (by omega) dL_law_1575 ?_
  refine vw_aload_n dL_law_1576 rfl rfl ?_
  refine vw_iload_n dL_law_1577 rfl rfl ?_
  refine vw_iconst dL_law_1578 ?_
  refine vw_iadd dL_law_1579 ?_
  refine v_sld (i + 2) (by omega) (by omega) hL dL_law_1580 ?_
  refine vw_i2l (ok32_of _) dL_law_1581 ?_
  refine vw_ldc2B (4294967295#64) qL_36 rfl dL_law_1582 ?_
  refine vw_land dL_law_1585 ?_
  refine vw_lor dL_law_1586 ?_
  refine vw_callV (Z := mX9_peeled) (As := [_]) hx (cls_o H) rfl kX9_peeled lL_215 iX9_peeled vX9_peeled dL_law_1587 rfl rfl rfl (Nat.le_of_ble_eq_true rfl) ⟨Nat.le_of_ble_eq_true rfl, Nat.le_of_ble_eq_true rfl⟩ (by omega) (by omega) (fun v h1 q => ?_)
  obtain ⟨rfl, hF, L1, R1, C1, H1⟩ := q
  have hc1 := cls_cap H1
  have hr1 := li_frm hr hF
  have hz := ad_pr (c_peeled (r := o + 60) (A := A) (ia := ia) (la := la) (fi := fi) (fl := fl) (h0 := h1) (x := ((BitVec.ofInt 64 (xs (i + 1)).toInt) <<< 32 ||| (BitVec.ofInt 64 (xs (i + 2)).toInt) &&& 4294967295#64)) hT )
  refine vw_aload_n dL_law_1590 rfl rfl ?_
  refine vw_aload_n dL_law_1591 rfl rfl ?_
  refine vw_iload_n dL_law_1592 rfl rfl ?_
  refine vw_iconst dL_law_1593 ?_
  refine vw_iadd dL_law_1594 ?_
  refine v_sld (i + 1) (by omega) (by omega) hL dL_law_1595 ?_
  refine vw_i2l (ok32_of _) dL_law_1596 ?_
  refine vw_bipush dL_law_1597 (by decide) ?_
  refine vw_lshl 32 rfl (by omega) dL_law_1599 ?_
  refine vw_aload_n dL_law_1600 rfl rfl ?_
  refine vw_iload_n dL_law_1601 rfl rfl ?_
  refine vw_iconst dL_law_1602 ?_
  refine vw_iadd dL_law_1603 ?_
  refine v_sld (i + 2) (by omega) (by omega) hL dL_law_1604 ?_
  refine vw_i2l (ok32_of _) dL_law_1605 ?_
  refine vw_ldc2B (4294967295#64) qL_36 rfl dL_law_1606 ?_
  refine vw_land dL_law_1609 ?_
  refine vw_lor dL_law_1610 ?_
  refine v_cast (h' := RH (o + 60) A ia la fi fl h1) rfl rfl (RHP.self hr1).symm ?_
  refine vw_callV (Z := mX10_peeled) (As := [_]) hz RH0 rfl kX10_peeled lL_219 iX10_peeled vX10_peeled dL_law_1611 rfl rfl rfl (Nat.le_of_ble_eq_true rfl) ⟨Nat.le_of_ble_eq_true rfl, Nat.le_of_ble_eq_true rfl⟩ (Nat.zero_le _) (Nat.zero_le _) (fun v h2 q => ?_)
  obtain ⟨rfl, ia', la', fi', fl', e⟩ := q
  refine v_sameL 2113 dL_law_1614 dL_law_1615 (by decide) ?_
  exact nx_go N H1 e (by omega) (by omega)
set_option maxRecDepth 4000 in
theorem lc_known {sb L0 : Nat} {xs : Nat → Int32} {nm : String} {o i m : Nat} {Φ : Option Value → HP → Prop} {h : HP} {cap : Nat → Nat} {A : Nat → Int} {ia : Nat → Nat → Int} {la : Nat → Nat → BitVec 64} {fi : Nat → Int} {fl : Nat → BitVec 64} {L R C rc rs : Nat} (hL : L0 ≤ 3072) (hi : i + 6 ≤ L0) (N : NX sb L0 xs nm o i m Φ) (I : LI o h cap A ia la fi fl L R C) (r1 : 200 * (m + 1) + (426168 - smC cap) ≤ rc) (r2 : 8300 * (m + 1) + 2 * (426168 - smC cap) ≤ rs) : wl sb L0 xs (mLaw nm) 1620 [.ref sb, .ref o, .ref (o + 60), .int (zI (i : Int))] [] h rc rs Φ := by
  obtain ⟨H, hr⟩ := I
  have hT := cls_top H
  obtain ⟨c, sa, si, sl, hX⟩ := H.vx
  have hcp := cls_cap H
  have hx := ad_pd H (x_known (x := ((BitVec.ofInt 64 (xs (i + 1)).toInt) <<< 32 ||| (BitVec.ofInt 64 (xs (i + 2)).toInt) &&& 4294967295#64)) hX.vw )
  refine vw_aload_n dL_law_1620 rfl rfl ?_
  refine vw_aload_n dL_law_1621 rfl rfl ?_
  refine vw_iload_n dL_law_1622 rfl rfl ?_
  refine vw_iconst dL_law_1623 ?_
  refine vw_iadd dL_law_1624 ?_
  refine v_sld (i + 1) (by omega) (by omega) hL dL_law_1625 ?_
  refine vw_i2l (ok32_of _) dL_law_1626 ?_
  refine vw_bipush dL_law_1627 (by decide) ?_
  refine vw_lshl 32 rfl (by omega) dL_law_1629 ?_
  refine vw_aload_n dL_law_1630 rfl rfl ?_
  refine vw_iload_n dL_law_1631 rfl rfl ?_
  refine vw_iconst dL_law_1632 ?_
  refine vw_iadd dL_law_1633 ?_
  refine v_sld (i + 2) (by omega) (by omega) hL dL_law_1634 ?_
  refine vw_i2l (ok32_of _) dL_law_1635 ?_
  refine vw_ldc2B (4294967295#64) qL_36 rfl dL_law_1636 ?_
  refine vw_land dL_law_1639 ?_
  refine vw_lor dL_law_1640 ?_
  refine vw_callV (Z := mX9_known) (As := [_]) hx (cls_o H) rfl kX9_known lL_220 iX9_known vX9_known dL_law_1641 rfl rfl rfl (Nat.le_of_ble_eq_true rfl) ⟨Nat.le_of_ble_eq_true rfl, Nat.le_of_ble_eq_true rfl⟩ (by omega) (by omega) (fun v h1 q => ?_)
  obtain ⟨rfl, hF, L1, R1, C1, H1⟩ := q
  have hc1 := cls_cap H1
  have hr1 := li_frm hr hF
  have hz := ad_pr (c_known (r := o + 60) (A := A) (ia := ia) (la := la) (fi := fi) (fl := fl) (h0 := h1) (x := ((BitVec.ofInt 64 (xs (i + 1)).toInt) <<< 32 ||| (BitVec.ofInt 64 (xs (i + 2)).toInt) &&& 4294967295#64)) hT )
  refine vw_aload_n dL_law_1644 rfl rfl ?_
  refine vw_aload_n dL_law_1645 rfl rfl ?_
  refine vw_iload_n dL_law_1646 rfl rfl ?_
  refine vw_iconst dL_law_1647 ?_
  refine vw_iadd dL_law_1648 ?_
  refine v_sld (i + 1) (by omega) (by omega) hL dL_law_1649 ?_
  refine vw_i2l (ok32_of _) dL_law_1650 ?_
  refine vw_bipush dL_law_1651 (by decide) ?_
  refine vw_lshl 32 rfl (by omega) dL_law_1653 ?_
  refine vw_aload_n dL_law_1654 rfl rfl ?_
  refine vw_iload_n dL_law_1655 rfl rfl ?_
  refine vw_iconst dL_law_1656 ?_
  refine vw_iadd dL_law_1657 ?_
  refine v_sld (i + 2) (by omega) (by omega) hL dL_law_1658 ?_
  refine vw_i2l (ok32_of _) dL_law_1659 ?_
  refine vw_ldc2B (4294967295#64) qL_36 rfl dL_law_1660 ?_
  refine vw_land dL_law_1663 ?_
  refine vw_lor dL_law_1664 ?_
  refine v_cast (h' := RH (o + 60) A ia la fi fl h1) rfl rfl (RHP.self hr1).symm ?_
  refine vw_callV (Z := mX10_known) (As := [_]) hz RH0 rfl kX10_known lL_223 iX10_known vX10_known dL_law_1665 rfl rfl rfl (Nat.le_of_ble_eq_true rfl) ⟨Nat.le_of_ble_eq_true rfl, Nat.le_of_ble_eq_true rfl⟩ (Nat.zero_le _) (Nat.zero_le _) (fun v h2 q => ?_)
  obtain ⟨rfl, ia', la', fi', fl', e⟩ := q
  refine v_sameI 2113 dL_law_1668 (by decide) ?_
  exact nx_go N H1 e (by omega) (by omega)
set_option maxRecDepth 4000 in
theorem lc_erasable {sb L0 : Nat} {xs : Nat → Int32} {nm : String} {o i m : Nat} {Φ : Option Value → HP → Prop} {h : HP} {cap : Nat → Nat} {A : Nat → Int} {ia : Nat → Nat → Int} {la : Nat → Nat → BitVec 64} {fi : Nat → Int} {fl : Nat → BitVec 64} {L R C rc rs : Nat} (hL : L0 ≤ 3072) (hi : i + 6 ≤ L0) (N : NX sb L0 xs nm o i m Φ) (I : LI o h cap A ia la fi fl L R C) (r1 : 200 * (m + 1) + (426168 - smC cap) ≤ rc) (r2 : 8300 * (m + 1) + 2 * (426168 - smC cap) ≤ rs) : wl sb L0 xs (mLaw nm) 1673 [.ref sb, .ref o, .ref (o + 60), .int (zI (i : Int))] [] h rc rs Φ := by
  obtain ⟨H, hr⟩ := I
  have hT := cls_top H
  obtain ⟨c, sa, si, sl, hX⟩ := H.vx
  have hcp := cls_cap H
  obtain ⟨cap', ⟨hcm, hcb⟩, hx0⟩ := x_erasable H (ok32_of (xs (i + 1)))
  have hx := ad_xp hx0
  refine vw_aload_n dL_law_1673 rfl rfl ?_
  refine vw_aload_n dL_law_1674 rfl rfl ?_
  refine vw_iload_n dL_law_1675 rfl rfl ?_
  refine vw_iconst dL_law_1676 ?_
  refine vw_iadd dL_law_1677 ?_
  refine v_sld (i + 1) (by omega) (by omega) hL dL_law_1678 ?_
  refine vw_callV (Z := mX9_erasable) (As := [_]) hx (cls_o H) rfl kX9_erasable lL_224 iX9_erasable vX9_erasable dL_law_1679 rfl rfl rfl (Nat.le_of_ble_eq_true rfl) ⟨Nat.le_of_ble_eq_true rfl, Nat.le_of_ble_eq_true rfl⟩ (by omega) (by omega) (fun v h1 q => ?_)
  obtain ⟨rfl, hF, L1, R1, C1, H1⟩ := q
  have hc1 := cls_cap H1
  have hr1 := li_frm hr hF
  have hz := ad_pr (c_erasable (r := o + 60) (A := A) (ia := ia) (la := la) (fi := fi) (fl := fl) (h0 := h1) hT (ok32_of (xs (i + 1))))
  refine vw_aload_n dL_law_1682 rfl rfl ?_
  refine vw_aload_n dL_law_1683 rfl rfl ?_
  refine vw_iload_n dL_law_1684 rfl rfl ?_
  refine vw_iconst dL_law_1685 ?_
  refine vw_iadd dL_law_1686 ?_
  refine v_sld (i + 1) (by omega) (by omega) hL dL_law_1687 ?_
  refine v_cast (h' := RH (o + 60) A ia la fi fl h1) rfl rfl (RHP.self hr1).symm ?_
  refine vw_callV (Z := mX10_erasable) (As := [_]) hz RH0 rfl kX10_erasable lL_227 iX10_erasable vX10_erasable dL_law_1688 rfl rfl rfl (Nat.le_of_ble_eq_true rfl) ⟨Nat.le_of_ble_eq_true rfl, Nat.le_of_ble_eq_true rfl⟩ (Nat.zero_le _) (Nat.zero_le _) (fun v h2 q => ?_)
  obtain ⟨rfl, ia', la', fi', fl', e⟩ := q
  refine v_sameI 2113 dL_law_1691 (by decide) ?_
  exact nx_go N H1 e (by omega) (by omega)
set_option maxRecDepth 4000 in
theorem lc_cost {sb L0 : Nat} {xs : Nat → Int32} {nm : String} {o i m : Nat} {Φ : Option Value → HP → Prop} {h : HP} {cap : Nat → Nat} {A : Nat → Int} {ia : Nat → Nat → Int} {la : Nat → Nat → BitVec 64} {fi : Nat → Int} {fl : Nat → BitVec 64} {L R C rc rs : Nat} (hL : L0 ≤ 3072) (hi : i + 6 ≤ L0) (N : NX sb L0 xs nm o i m Φ) (I : LI o h cap A ia la fi fl L R C) (r1 : 200 * (m + 1) + (426168 - smC cap) ≤ rc) (r2 : 8300 * (m + 1) + 2 * (426168 - smC cap) ≤ rs) : wl sb L0 xs (mLaw nm) 1696 [.ref sb, .ref o, .ref (o + 60), .int (zI (i : Int))] [] h rc rs Φ := by
  obtain ⟨H, hr⟩ := I
  have hT := cls_top H
  obtain ⟨c, sa, si, sl, hX⟩ := H.vx
  have hcp := cls_cap H
  have hx := ad_pd H (x_cost (x := ((BitVec.ofInt 64 (xs (i + 1)).toInt) <<< 32 ||| (BitVec.ofInt 64 (xs (i + 2)).toInt) &&& 4294967295#64)) hX)
  refine vw_aload_n dL_law_1696 rfl rfl ?_
  refine vw_aload_n dL_law_1697 rfl rfl ?_
  refine vw_iload_n dL_law_1698 rfl rfl ?_
  refine vw_iconst dL_law_1699 ?_
  refine vw_iadd dL_law_1700 ?_
  refine v_sld (i + 1) (by omega) (by omega) hL dL_law_1701 ?_
  refine vw_i2l (ok32_of _) dL_law_1702 ?_
  refine vw_bipush dL_law_1703 (by decide) ?_
  refine vw_lshl 32 rfl (by omega) dL_law_1705 ?_
  refine vw_aload_n dL_law_1706 rfl rfl ?_
  refine vw_iload_n dL_law_1707 rfl rfl ?_
  refine vw_iconst dL_law_1708 ?_
  refine vw_iadd dL_law_1709 ?_
  refine v_sld (i + 2) (by omega) (by omega) hL dL_law_1710 ?_
  refine vw_i2l (ok32_of _) dL_law_1711 ?_
  refine vw_ldc2B (4294967295#64) qL_36 rfl dL_law_1712 ?_
  refine vw_land dL_law_1715 ?_
  refine vw_lor dL_law_1716 ?_
  refine vw_callV (Z := mX9_cost) (As := [_]) hx (cls_o H) rfl kX9_cost lL_228 iX9_cost vX9_cost dL_law_1717 rfl rfl rfl (Nat.le_of_ble_eq_true rfl) ⟨Nat.le_of_ble_eq_true rfl, Nat.le_of_ble_eq_true rfl⟩ (by omega) (by omega) (fun v h1 q => ?_)
  obtain ⟨rfl, hF, L1, R1, C1, H1⟩ := q
  have hc1 := cls_cap H1
  have hr1 := li_frm hr hF
  have hz := ad_pr (c_cost (r := o + 60) (A := A) (ia := ia) (la := la) (fi := fi) (fl := fl) (h0 := h1) (x := ((BitVec.ofInt 64 (xs (i + 1)).toInt) <<< 32 ||| (BitVec.ofInt 64 (xs (i + 2)).toInt) &&& 4294967295#64)) hT )
  refine vw_aload_n dL_law_1720 rfl rfl ?_
  refine vw_aload_n dL_law_1721 rfl rfl ?_
  refine vw_iload_n dL_law_1722 rfl rfl ?_
  refine vw_iconst dL_law_1723 ?_
  refine vw_iadd dL_law_1724 ?_
  refine v_sld (i + 1) (by omega) (by omega) hL dL_law_1725 ?_
  refine vw_i2l (ok32_of _) dL_law_1726 ?_
  refine vw_bipush dL_law_1727 (by decide) ?_
  refine vw_lshl 32 rfl (by omega) dL_law_1729 ?_
  refine vw_aload_n dL_law_1730 rfl rfl ?_
  refine vw_iload_n dL_law_1731 rfl rfl ?_
  refine vw_iconst dL_law_1732 ?_
  refine vw_iadd dL_law_1733 ?_
  refine v_sld (i + 2) (by omega) (by omega) hL dL_law_1734 ?_
  refine vw_i2l (ok32_of _) dL_law_1735 ?_
  refine vw_ldc2B (4294967295#64) qL_36 rfl dL_law_1736 ?_
  refine vw_land dL_law_1739 ?_
  refine vw_lor dL_law_1740 ?_
  refine v_cast (h' := RH (o + 60) A ia la fi fl h1) rfl rfl (RHP.self hr1).symm ?_
  refine vw_callV (Z := mX10_cost) (As := [_]) hz RH0 rfl kX10_cost lL_231 iX10_cost vX10_cost dL_law_1741 rfl rfl rfl (Nat.le_of_ble_eq_true rfl) ⟨Nat.le_of_ble_eq_true rfl, Nat.le_of_ble_eq_true rfl⟩ (Nat.zero_le _) (Nat.zero_le _) (fun v h2 q => ?_)
  obtain ⟨rfl, ia', la', fi', fl', e⟩ := q
  refine v_sameI 2113 dL_law_1744 (by decide) ?_
  exact nx_go N H1 e (by omega) (by omega)
set_option maxRecDepth 4000 in
theorem lc_likeliest {sb L0 : Nat} {xs : Nat → Int32} {nm : String} {o i m : Nat} {Φ : Option Value → HP → Prop} {h : HP} {cap : Nat → Nat} {A : Nat → Int} {ia : Nat → Nat → Int} {la : Nat → Nat → BitVec 64} {fi : Nat → Int} {fl : Nat → BitVec 64} {L R C rc rs : Nat} (hL : L0 ≤ 3072) (hi : i + 6 ≤ L0) (N : NX sb L0 xs nm o i m Φ) (I : LI o h cap A ia la fi fl L R C) (r1 : 200 * (m + 1) + (426168 - smC cap) ≤ rc) (r2 : 8300 * (m + 1) + 2 * (426168 - smC cap) ≤ rs) : wl sb L0 xs (mLaw nm) 1749 [.ref sb, .ref o, .ref (o + 60), .int (zI (i : Int))] [] h rc rs Φ := by
  obtain ⟨H, hr⟩ := I
  have hT := cls_top H
  obtain ⟨c, sa, si, sl, hX⟩ := H.vx
  have hcp := cls_cap H
  have hx := ad_aw H (fun bl bi bq => x_likeliest (bl := bl) (bi := bi) (bq := bq) (q0 := la 6) hX )
  refine vw_aload_n dL_law_1749 rfl rfl ?_
  refine vw_callV (Z := mX9_likeliest) (As := []) hx (cls_o H) rfl kX9_likeliest lL_232 iX9_likeliest vX9_likeliest dL_law_1750 rfl rfl rfl (Nat.le_of_ble_eq_true rfl) ⟨Nat.le_of_ble_eq_true rfl, Nat.le_of_ble_eq_true rfl⟩ (by omega) (by omega) (fun v h1 q => ?_)
  obtain ⟨rfl, hF, L1, R1, C1, H1⟩ := q
  have hc1 := cls_cap H1
  have hr1 := li_frm hr hF
  have hz := ad_pr (c_likeliest (r := o + 60) (A := A) (ia := ia) (la := la) (fi := fi) (fl := fl) (h0 := h1) hT )
  refine vw_aload_n dL_law_1753 rfl rfl ?_
  refine v_cast (h' := RH (o + 60) A ia la fi fl h1) rfl rfl (RHP.self hr1).symm ?_
  refine vw_callV (Z := mX10_likeliest) (As := []) hz RH0 rfl kX10_likeliest lL_235 iX10_likeliest vX10_likeliest dL_law_1754 rfl rfl rfl (Nat.le_of_ble_eq_true rfl) ⟨Nat.le_of_ble_eq_true rfl, Nat.le_of_ble_eq_true rfl⟩ (Nat.zero_le _) (Nat.zero_le _) (fun v h2 q => ?_)
  obtain ⟨rfl, ia', la', fi', fl', e⟩ := q
  refine v_sameL 2113 dL_law_1757 dL_law_1758 (by decide) ?_
  exact nx_go N H1 e (by omega) (by omega)
set_option maxRecDepth 4000 in
theorem lc_lightest {sb L0 : Nat} {xs : Nat → Int32} {nm : String} {o i m : Nat} {Φ : Option Value → HP → Prop} {h : HP} {cap : Nat → Nat} {A : Nat → Int} {ia : Nat → Nat → Int} {la : Nat → Nat → BitVec 64} {fi : Nat → Int} {fl : Nat → BitVec 64} {L R C rc rs : Nat} (hL : L0 ≤ 3072) (hi : i + 6 ≤ L0) (N : NX sb L0 xs nm o i m Φ) (I : LI o h cap A ia la fi fl L R C) (r1 : 200 * (m + 1) + (426168 - smC cap) ≤ rc) (r2 : 8300 * (m + 1) + 2 * (426168 - smC cap) ≤ rs) : wl sb L0 xs (mLaw nm) 1763 [.ref sb, .ref o, .ref (o + 60), .int (zI (i : Int))] [] h rc rs Φ := by
  obtain ⟨H, hr⟩ := I
  have hT := cls_top H
  obtain ⟨c, sa, si, sl, hX⟩ := H.vx
  have hcp := cls_cap H
  have hx := ad_aw H (fun bl bi bq => x_lightest (bl := bl) (bi := bi) (bq := bq) (q0 := la 6) hX )
  refine vw_aload_n dL_law_1763 rfl rfl ?_
  refine vw_callV (Z := mX9_lightest) (As := []) hx (cls_o H) rfl kX9_lightest lL_236 iX9_lightest vX9_lightest dL_law_1764 rfl rfl rfl (Nat.le_of_ble_eq_true rfl) ⟨Nat.le_of_ble_eq_true rfl, Nat.le_of_ble_eq_true rfl⟩ (by omega) (by omega) (fun v h1 q => ?_)
  obtain ⟨rfl, hF, L1, R1, C1, H1⟩ := q
  have hc1 := cls_cap H1
  have hr1 := li_frm hr hF
  have hz := ad_pr (c_lightest (r := o + 60) (A := A) (ia := ia) (la := la) (fi := fi) (fl := fl) (h0 := h1) hT )
  refine vw_aload_n dL_law_1767 rfl rfl ?_
  refine v_cast (h' := RH (o + 60) A ia la fi fl h1) rfl rfl (RHP.self hr1).symm ?_
  refine vw_callV (Z := mX10_lightest) (As := []) hz RH0 rfl kX10_lightest lL_239 iX10_lightest vX10_lightest dL_law_1768 rfl rfl rfl (Nat.le_of_ble_eq_true rfl) ⟨Nat.le_of_ble_eq_true rfl, Nat.le_of_ble_eq_true rfl⟩ (Nat.zero_le _) (Nat.zero_le _) (fun v h2 q => ?_)
  obtain ⟨rfl, ia', la', fi', fl', e⟩ := q
  refine v_sameI 2113 dL_law_1771 (by decide) ?_
  exact nx_go N H1 e (by omega) (by omega)
set_option maxRecDepth 4000 in
theorem lc_spectrum {sb L0 : Nat} {xs : Nat → Int32} {nm : String} {o i m : Nat} {Φ : Option Value → HP → Prop} {h : HP} {cap : Nat → Nat} {A : Nat → Int} {ia : Nat → Nat → Int} {la : Nat → Nat → BitVec 64} {fi : Nat → Int} {fl : Nat → BitVec 64} {L R C rc rs : Nat} (hL : L0 ≤ 3072) (hi : i + 6 ≤ L0) (N : NX sb L0 xs nm o i m Φ) (I : LI o h cap A ia la fi fl L R C) (r1 : 200 * (m + 1) + (426168 - smC cap) ≤ rc) (r2 : 8300 * (m + 1) + 2 * (426168 - smC cap) ≤ rs) : wl sb L0 xs (mLaw nm) 1776 [.ref sb, .ref o, .ref (o + 60), .int (zI (i : Int))] [] h rc rs Φ := by
  obtain ⟨H, hr⟩ := I
  have hT := cls_top H
  obtain ⟨c, sa, si, sl, hX⟩ := H.vx
  have hcp := cls_cap H
  have hx := ad_aw H (fun bl bi bq => x_spectrum (bl := bl) (bi := bi) (bq := bq) (q0 := la 6) hX (ok32_of (xs (i + 1))))
  refine vw_aload_n dL_law_1776 rfl rfl ?_
  refine vw_aload_n dL_law_1777 rfl rfl ?_
  refine vw_iload_n dL_law_1778 rfl rfl ?_
  refine vw_iconst dL_law_1779 ?_
  refine vw_iadd dL_law_1780 ?_
  refine v_sld (i + 1) (by omega) (by omega) hL dL_law_1781 ?_
  refine vw_callV (Z := mX9_spectrum) (As := [_]) hx (cls_o H) rfl kX9_spectrum lL_240 iX9_spectrum vX9_spectrum dL_law_1782 rfl rfl rfl (Nat.le_of_ble_eq_true rfl) ⟨Nat.le_of_ble_eq_true rfl, Nat.le_of_ble_eq_true rfl⟩ (by omega) (by omega) (fun v h1 q => ?_)
  obtain ⟨rfl, hF, L1, R1, C1, H1⟩ := q
  have hc1 := cls_cap H1
  have hr1 := li_frm hr hF
  have hz := ad_pr (c_spectrum (r := o + 60) (A := A) (ia := ia) (la := la) (fi := fi) (fl := fl) (h0 := h1) hT (ok32_of (xs (i + 1))))
  refine vw_aload_n dL_law_1785 rfl rfl ?_
  refine vw_aload_n dL_law_1786 rfl rfl ?_
  refine vw_iload_n dL_law_1787 rfl rfl ?_
  refine vw_iconst dL_law_1788 ?_
  refine vw_iadd dL_law_1789 ?_
  refine v_sld (i + 1) (by omega) (by omega) hL dL_law_1790 ?_
  refine v_cast (h' := RH (o + 60) A ia la fi fl h1) rfl rfl (RHP.self hr1).symm ?_
  refine vw_callV (Z := mX10_spectrum) (As := [_]) hz RH0 rfl kX10_spectrum lL_243 iX10_spectrum vX10_spectrum dL_law_1791 rfl rfl rfl (Nat.le_of_ble_eq_true rfl) ⟨Nat.le_of_ble_eq_true rfl, Nat.le_of_ble_eq_true rfl⟩ (Nat.zero_le _) (Nat.zero_le _) (fun v h2 q => ?_)
  obtain ⟨rfl, ia', la', fi', fl', e⟩ := q
  refine v_sameI 2113 dL_law_1794 (by decide) ?_
  exact nx_go N H1 e (by omega) (by omega)
