set_option maxRecDepth 100000 in
set_option maxHeartbeats 4000000 in
theorem w_L_law_1487 (o : zW) (x5 : Int32) (S : zS) (Q : Option Value → zS → Prop) (h : zGi o 970 mdX4_told [.ref (z_adr o (0, 0, 0)), .int 6] S (fun r2 S3 => zGi o 970 mdX4_clear [.ref (z_adr o (0, 0, 0))] S3 (fun r5 S6 => zG o 970 mdL_law 1509 [(0, .ref o.2.2.2.2.1), (1, .ref (z_adr o (0, 0, 0))), (2, .ref (z_adr o (23, 0, 0))), (4, .int 1), (5, .int x5), (10, .int 0), (11, .int 0), (12, .int r2), (13, .int 0)] [] S6 Q))) : zG o 970 mdL_law 1487 [(0, .ref o.2.2.2.2.1), (1, .ref (z_adr o (0, 0, 0))), (2, .ref (z_adr o (23, 0, 0))), (4, .int 1), (5, .int x5)] [] S Q := by
  show zJ o mdL_law 1487 _ [] (970, z_enc o S) 0 0 _
  refine zJ.iconst (pc := 1487) (v := 0) dL_law_1487 (by decide) ?_
  refine zJ.istore (pc := 1488) (lv' := [(10, .int 0), (0, .ref o.2.2.2.2.1), (1, .ref (z_adr o (0, 0, 0))), (2, .ref (z_adr o (23, 0, 0))), (4, .int 1), (5, .int x5)]) dL_law_1488 (Nat.le_of_ble_eq_true rfl) rfl ?_
  refine zJ.iconst (pc := 1490) (v := 0) dL_law_1490 (by decide) ?_
  refine zJ.istore (pc := 1491) (lv' := [(11, .int 0), (10, .int 0), (0, .ref o.2.2.2.2.1), (1, .ref (z_adr o (0, 0, 0))), (2, .ref (z_adr o (23, 0, 0))), (4, .int 1), (5, .int x5)]) dL_law_1491 (Nat.le_of_ble_eq_true rfl) rfl ?_
  refine zJ.aload_n (pc := 1493) 3 dL_law_1493 rfl rfl ?_
  refine zJ.bipush (pc := 1494) (v := 6) dL_law_1494 (by decide) ?_
  refine zG.callVi (d := mdL_law) (pc := 1496) [.int 6] [] (ob_0 o) ok_0 rfl dL_law_1496 ⟨(cb_X4_told).1, (cb_X4_told).2, (Nat.le_of_ble_eq_true rfl), (Nat.le_of_ble_eq_true rfl)⟩ ml_L_80 ci_X4_told cv_X4_told rfl (Nat.le_of_ble_eq_true rfl) (Nat.le_of_ble_eq_true rfl) rfl h (fun r2 S3 h2 => ?_)
  replace h := h2
  clear h2
  refine zJ.istore (pc := 1499) (lv' := [(12, .int r2), (11, .int 0), (10, .int 0), (0, .ref o.2.2.2.2.1), (1, .ref (z_adr o (0, 0, 0))), (2, .ref (z_adr o (23, 0, 0))), (4, .int 1), (5, .int x5)]) dL_law_1499 (Nat.le_of_ble_eq_true rfl) rfl ?_
  refine zJ.aload_n (pc := 1501) 4 dL_law_1501 rfl rfl ?_
  refine zG.callVi (d := mdL_law) (pc := 1502) [] [] (ob_0 o) ok_0 rfl dL_law_1502 ⟨(cb_X4_clear).1, (cb_X4_clear).2, (Nat.le_of_ble_eq_true rfl), (Nat.le_of_ble_eq_true rfl)⟩ ml_L_138 ci_X4_clear cv_X4_clear rfl (Nat.le_of_ble_eq_true rfl) (Nat.le_of_ble_eq_true rfl) rfl h (fun r5 S6 h2 => ?_)
  replace h := h2
  clear h2
  refine zJ.pop (pc := 1505) dL_law_1505 rfl ?_
  refine zJ.iconst (pc := 1506) (v := 0) dL_law_1506 (by decide) ?_
  refine zJ.istore (pc := 1507) (lv' := [(13, .int 0), (12, .int r2), (11, .int 0), (10, .int 0), (0, .ref o.2.2.2.2.1), (1, .ref (z_adr o (0, 0, 0))), (2, .ref (z_adr o (23, 0, 0))), (4, .int 1), (5, .int x5)]) dL_law_1507 (Nat.le_of_ble_eq_true rfl) rfl ?_
  exact zJ.sub [4, 5, 6, 7, 8, 3, 2, 1, 0] rfl h
set_option maxRecDepth 100000 in
set_option maxHeartbeats 4000000 in
theorem w_L_law_1509 (o : zW) (x5 : Int32) (x10 : Int32) (x11 : Int32) (x12 : Int32) (x13 : Int32) (S : zS) (Q : Option Value → zS → Prop) (h : (8 ≤ x13 → (zGi o 970 mdX4_best [.ref (z_adr o (0, 0, 0)), .int 0] S (fun r3 S4 => zGi o 970 mdX4_best [.ref (z_adr o (0, 0, 0)), .int 1] S4 (fun r6 S7 => (¬ (r3 ≤ 0)) ∧ ((¬ (5 ≤ r3)) ∧ (zGi o 970 mdX4_told [.ref (z_adr o (0, 0, 0)), .int 6] S7 (fun r12 S13 => (¬ (¬ r12 = x12)) ∧ (zGi o 970 mdX4_item [.ref (z_adr o (0, 0, 0)), .int 3, .int 1, .int 1] S13 (fun r16 S17 => (¬ (¬ r16 = (S17.1 (23, 0, 0) 13))) ∧ (zG o 970 mdL_law 1636 [(1, .ref (z_adr o (0, 0, 0))), (4, .int 1), (10, .int x10), (11, .int x11), (13, .int r3), (14, .int r6)] [] S17 Q)))))))))) ∧ (¬ 8 ≤ x13 → (zGi o 970 mdL_cell [.ref o.2.2.2.2.1, .int (6 + x13)] S (fun r20 S21 => zGi o 970 mdL_low [.int (r20 >>> ((4 : Int32) &&& 31)), .int x5] S21 (fun r23 S24 => zGi o 970 mdX4_type [.ref (z_adr o (0, 0, 0)), .int (97 + r23)] S24 (fun r26 S27 => zGi o 970 mdL_low [.int (r20 >>> ((8 : Int32) &&& 31)), .int 4] S27 (fun r29 S30 => zGi o 970 mdX4_type [.ref (z_adr o (0, 0, 0)), .int (48 + r29)] S30 (fun r32 S33 => zGi o 970 mdX4_type [.ref (z_adr o (0, 0, 0)), .int 59] S33 (fun r35 S36 => zG o 970 mdL_law 1509 [(0, .ref o.2.2.2.2.1), (1, .ref (z_adr o (0, 0, 0))), (2, .ref (z_adr o (23, 0, 0))), (4, .int 1), (5, .int x5), (10, .int x10), (11, .int x11), (12, .int x12), (13, .int (x13 + 1))] [] S36 Q))))))))) : zG o 970 mdL_law 1509 [(0, .ref o.2.2.2.2.1), (1, .ref (z_adr o (0, 0, 0))), (2, .ref (z_adr o (23, 0, 0))), (4, .int 1), (5, .int x5), (10, .int x10), (11, .int x11), (12, .int x12), (13, .int x13)] [] S Q := by
  show zJ o mdL_law 1509 _ [] (970, z_enc o S) 0 0 _
  refine zJ.iload (pc := 1509) 8 dL_law_1509 rfl ?_
  refine zJ.bipush (pc := 1511) (v := 8) dL_law_1511 (by decide) ?_
  refine zJ.icmp_ge (pc := 1513) (tgt := 1574) dL_law_1513 (by decide) (fun c1 => ?_) (fun c1 => ?_)
  · replace h := h.1 c1
    refine zJ.aload_n (pc := 1574) 1 dL_law_1574 rfl rfl ?_
    refine zJ.iconst (pc := 1575) (v := 0) dL_law_1575 (by decide) ?_
    refine zG.callVi (d := mdL_law) (pc := 1576) [.int 0] [] (ob_0 o) ok_0 rfl dL_law_1576 ⟨(cb_X4_best).1, (cb_X4_best).2, (Nat.le_of_ble_eq_true rfl), (Nat.le_of_ble_eq_true rfl)⟩ ml_L_144 ci_X4_best cv_X4_best rfl (Nat.le_of_ble_eq_true rfl) (Nat.le_of_ble_eq_true rfl) rfl h (fun r3 S4 h2 => ?_)
    replace h := h2
    clear h2
    refine zJ.istore (pc := 1579) (lv' := [(13, .int r3), (0, .ref o.2.2.2.2.1), (1, .ref (z_adr o (0, 0, 0))), (2, .ref (z_adr o (23, 0, 0))), (4, .int 1), (5, .int x5), (10, .int x10), (11, .int x11), (12, .int x12)]) dL_law_1579 (Nat.le_of_ble_eq_true rfl) rfl ?_
    refine zJ.aload_n (pc := 1581) 2 dL_law_1581 rfl rfl ?_
    refine zJ.iconst (pc := 1582) (v := 1) dL_law_1582 (by decide) ?_
    refine zG.callVi (d := mdL_law) (pc := 1583) [.int 1] [] (ob_0 o) ok_0 rfl dL_law_1583 ⟨(cb_X4_best).1, (cb_X4_best).2, (Nat.le_of_ble_eq_true rfl), (Nat.le_of_ble_eq_true rfl)⟩ ml_L_144 ci_X4_best cv_X4_best rfl (Nat.le_of_ble_eq_true rfl) (Nat.le_of_ble_eq_true rfl) rfl h (fun r6 S7 h2 => ?_)
    replace h := h2
    clear h2
    refine zJ.istore (pc := 1586) (lv' := [(14, .int r6), (13, .int r3), (0, .ref o.2.2.2.2.1), (1, .ref (z_adr o (0, 0, 0))), (2, .ref (z_adr o (23, 0, 0))), (4, .int 1), (5, .int x5), (10, .int x10), (11, .int x11), (12, .int x12)]) dL_law_1586 (Nat.le_of_ble_eq_true rfl) rfl ?_
    refine zJ.iload (pc := 1588) 5 dL_law_1588 rfl ?_
    refine zJ.if_eq (pc := 1590) (tgt := 1633) dL_law_1590 (by decide) (fun c8 => absurd c8 (by decide)) (fun c8 => ?_)
    refine zJ.iload (pc := 1593) 1 dL_law_1593 rfl ?_
    obtain ⟨cN, h⟩ := h
    refine zJ.if_le (pc := 1595) (tgt := 1633) dL_law_1595 (by decide) (fun c9 => absurd c9 cN) (fun _ => ?_)
    clear cN
    refine zJ.iload (pc := 1598) 1 dL_law_1598 rfl ?_
    refine zJ.iconst (pc := 1600) (v := 5) dL_law_1600 (by decide) ?_
    obtain ⟨cN, h⟩ := h
    refine zJ.icmp_ge (pc := 1601) (tgt := 1633) dL_law_1601 (by decide) (fun c10 => absurd c10 cN) (fun _ => ?_)
    clear cN
    refine zJ.aload_n (pc := 1604) 3 dL_law_1604 rfl rfl ?_
    refine zJ.bipush (pc := 1605) (v := 6) dL_law_1605 (by decide) ?_
    refine zG.callVi (d := mdL_law) (pc := 1607) [.int 6] [] (ob_0 o) ok_0 rfl dL_law_1607 ⟨(cb_X4_told).1, (cb_X4_told).2, (Nat.le_of_ble_eq_true rfl), (Nat.le_of_ble_eq_true rfl)⟩ ml_L_80 ci_X4_told cv_X4_told rfl (Nat.le_of_ble_eq_true rfl) (Nat.le_of_ble_eq_true rfl) rfl h (fun r12 S13 h2 => ?_)
    replace h := h2
    clear h2
    refine zJ.iload (pc := 1610) 9 dL_law_1610 rfl ?_
    obtain ⟨cN, h⟩ := h
    refine zJ.icmp_ne (pc := 1612) (tgt := 1633) dL_law_1612 (by decide) (fun c14 => absurd c14 cN) (fun _ => ?_)
    clear cN
    refine zJ.aload_n (pc := 1615) 3 dL_law_1615 rfl rfl ?_
    refine zJ.iconst (pc := 1616) (v := 3) dL_law_1616 (by decide) ?_
    refine zJ.iconst (pc := 1617) (v := 1) dL_law_1617 (by decide) ?_
    refine zJ.iconst (pc := 1618) (v := 1) dL_law_1618 (by decide) ?_
    refine zG.callVi (d := mdL_law) (pc := 1619) [.int 3, .int 1, .int 1] [] (ob_0 o) ok_0 rfl dL_law_1619 ⟨(cb_X4_item).1, (cb_X4_item).2, (Nat.le_of_ble_eq_true rfl), (Nat.le_of_ble_eq_true rfl)⟩ ml_L_89 ci_X4_item cv_X4_item rfl (Nat.le_of_ble_eq_true rfl) (Nat.le_of_ble_eq_true rfl) rfl h (fun r16 S17 h2 => ?_)
    replace h := h2
    clear h2
    refine zJ.aload_n (pc := 1622) 4 dL_law_1622 rfl rfl ?_
    refine zJ.bipush (pc := 1623) (v := 13) dL_law_1623 (by decide) ?_
    refine zE.aldI (pc := 1625) (ia_23 o) ok_23 (by unfold vp_in; decide) dL_law_1625 ?_
    obtain ⟨cN, h⟩ := h
    refine zJ.icmp_ne (pc := 1626) (tgt := 1633) dL_law_1626 (by decide) (fun c18 => absurd c18 cN) (fun _ => ?_)
    clear cN
    refine zJ.iconst (pc := 1629) (v := 1) dL_law_1629 (by decide) ?_
    refine zJ.goto (pc := 1630) (tgt := 1634) dL_law_1630 (by decide) ?_
    refine zJ.istore (pc := 1634) (lv' := [(4, .int 1), (14, .int r6), (13, .int r3), (0, .ref o.2.2.2.2.1), (1, .ref (z_adr o (0, 0, 0))), (2, .ref (z_adr o (23, 0, 0))), (5, .int x5), (10, .int x10), (11, .int x11), (12, .int x12)]) dL_law_1634 (Nat.le_of_ble_eq_true rfl) rfl ?_
    exact zJ.sub [4, 0, 7, 8, 2, 1] rfl h
  · replace h := h.2 c1
    refine zJ.aload_n (pc := 1516) 0 dL_law_1516 rfl rfl ?_
    refine zJ.bipush (pc := 1517) (v := 6) dL_law_1517 (by decide) ?_
    refine zJ.iload (pc := 1519) 8 dL_law_1519 rfl ?_
    refine zJ.iadd (pc := 1521) dL_law_1521 ?_
    refine zG.callSi (d := mdL_law) (pc := 1522) [.ref o.2.2.2.2.1, .int (6 + x13)] [] dL_law_1522 ⟨(cb_L_cell).1, (cb_L_cell).2, (Nat.le_of_ble_eq_true rfl), (Nat.le_of_ble_eq_true rfl)⟩ ml_L_114 cs_L_cell rfl (Nat.le_of_ble_eq_true rfl) (Nat.le_of_ble_eq_true rfl) rfl h (fun r20 S21 h2 => ?_)
    replace h := h2
    clear h2
    refine zJ.istore (pc := 1525) (lv' := [(14, .int r20), (0, .ref o.2.2.2.2.1), (1, .ref (z_adr o (0, 0, 0))), (2, .ref (z_adr o (23, 0, 0))), (4, .int 1), (5, .int x5), (10, .int x10), (11, .int x11), (12, .int x12), (13, .int x13)]) dL_law_1525 (Nat.le_of_ble_eq_true rfl) rfl ?_
    refine zJ.aload_n (pc := 1527) 2 dL_law_1527 rfl rfl ?_
    refine zJ.bipush (pc := 1528) (v := 97) dL_law_1528 (by decide) ?_
    refine zJ.iload (pc := 1530) 0 dL_law_1530 rfl ?_
    refine zJ.iconst (pc := 1532) (v := 4) dL_law_1532 (by decide) ?_
    refine zJ.ishr (pc := 1533) dL_law_1533 ?_
    refine zJ.iload (pc := 1534) 5 dL_law_1534 rfl ?_
    refine zG.callSi (d := mdL_law) (pc := 1536) [.int (r20 >>> ((4 : Int32) &&& 31)), .int x5] [.int 97, .ref (z_adr o (0, 0, 0))] dL_law_1536 ⟨(cb_L_low).1, (cb_L_low).2, (Nat.le_of_ble_eq_true rfl), (Nat.le_of_ble_eq_true rfl)⟩ ml_L_117 cs_L_low rfl (Nat.le_of_ble_eq_true rfl) (Nat.le_of_ble_eq_true rfl) rfl h (fun r23 S24 h2 => ?_)
    replace h := h2
    clear h2
    refine zJ.iadd (pc := 1539) dL_law_1539 ?_
    refine zG.callVi (d := mdL_law) (pc := 1540) [.int (97 + r23)] [] (ob_0 o) ok_0 rfl dL_law_1540 ⟨(cb_X4_type).1, (cb_X4_type).2, (Nat.le_of_ble_eq_true rfl), (Nat.le_of_ble_eq_true rfl)⟩ ml_L_141 ci_X4_type cv_X4_type rfl (Nat.le_of_ble_eq_true rfl) (Nat.le_of_ble_eq_true rfl) rfl h (fun r26 S27 h2 => ?_)
    replace h := h2
    clear h2
    refine zJ.pop (pc := 1543) dL_law_1543 rfl ?_
    refine zJ.aload_n (pc := 1544) 2 dL_law_1544 rfl rfl ?_
    refine zJ.bipush (pc := 1545) (v := 48) dL_law_1545 (by decide) ?_
    refine zJ.iload (pc := 1547) 0 dL_law_1547 rfl ?_
    refine zJ.bipush (pc := 1549) (v := 8) dL_law_1549 (by decide) ?_
    refine zJ.ishr (pc := 1551) dL_law_1551 ?_
    refine zJ.iconst (pc := 1552) (v := 4) dL_law_1552 (by decide) ?_
    refine zG.callSi (d := mdL_law) (pc := 1553) [.int (r20 >>> ((8 : Int32) &&& 31)), .int 4] [.int 48, .ref (z_adr o (0, 0, 0))] dL_law_1553 ⟨(cb_L_low).1, (cb_L_low).2, (Nat.le_of_ble_eq_true rfl), (Nat.le_of_ble_eq_true rfl)⟩ ml_L_117 cs_L_low rfl (Nat.le_of_ble_eq_true rfl) (Nat.le_of_ble_eq_true rfl) rfl h (fun r29 S30 h2 => ?_)
    replace h := h2
    clear h2
    refine zJ.iadd (pc := 1556) dL_law_1556 ?_
    refine zG.callVi (d := mdL_law) (pc := 1557) [.int (48 + r29)] [] (ob_0 o) ok_0 rfl dL_law_1557 ⟨(cb_X4_type).1, (cb_X4_type).2, (Nat.le_of_ble_eq_true rfl), (Nat.le_of_ble_eq_true rfl)⟩ ml_L_141 ci_X4_type cv_X4_type rfl (Nat.le_of_ble_eq_true rfl) (Nat.le_of_ble_eq_true rfl) rfl h (fun r32 S33 h2 => ?_)
    replace h := h2
    clear h2
    refine zJ.pop (pc := 1560) dL_law_1560 rfl ?_
    refine zJ.aload_n (pc := 1561) 2 dL_law_1561 rfl rfl ?_
    refine zJ.bipush (pc := 1562) (v := 59) dL_law_1562 (by decide) ?_
    refine zG.callVi (d := mdL_law) (pc := 1564) [.int 59] [] (ob_0 o) ok_0 rfl dL_law_1564 ⟨(cb_X4_type).1, (cb_X4_type).2, (Nat.le_of_ble_eq_true rfl), (Nat.le_of_ble_eq_true rfl)⟩ ml_L_141 ci_X4_type cv_X4_type rfl (Nat.le_of_ble_eq_true rfl) (Nat.le_of_ble_eq_true rfl) rfl h (fun r35 S36 h2 => ?_)
    replace h := h2
    clear h2
    refine zJ.pop (pc := 1567) dL_law_1567 rfl ?_
    refine zJ.iinc (pc := 1568) (k := 9) (lv' := [(13, .int (x13 + 1)), (14, .int r20), (0, .ref o.2.2.2.2.1), (1, .ref (z_adr o (0, 0, 0))), (2, .ref (z_adr o (23, 0, 0))), (4, .int 1), (5, .int x5), (10, .int x10), (11, .int x11), (12, .int x12)]) dL_law_1568 rfl rfl (Nat.le_of_ble_eq_true rfl) rfl ?_
    refine zJ.goto (pc := 1571) (tgt := 1509) dL_law_1571 (by decide) ?_
    exact zJ.sub [2, 3, 4, 5, 6, 7, 8, 9, 0] rfl h
set_option maxRecDepth 100000 in
set_option maxHeartbeats 4000000 in
theorem w_L_law_1636 (o : zW) (x10 : Int32) (x11 : Int32) (x13 : Int32) (x14 : Int32) (S : zS) (Q : Option Value → zS → Prop) (h : zG o 970 mdL_law 1639 [(1, .ref (z_adr o (0, 0, 0))), (4, .int 1), (10, .int x10), (11, .int x11), (13, .int x13), (14, .int x14), (15, .int 1)] [] S Q) : zG o 970 mdL_law 1636 [(1, .ref (z_adr o (0, 0, 0))), (4, .int 1), (10, .int x10), (11, .int x11), (13, .int x13), (14, .int x14)] [] S Q := by
  show zJ o mdL_law 1636 _ [] (970, z_enc o S) 0 0 _
  refine zJ.iconst (pc := 1636) (v := 1) dL_law_1636 (by decide) ?_
  refine zJ.istore (pc := 1637) (lv' := [(15, .int 1), (1, .ref (z_adr o (0, 0, 0))), (4, .int 1), (10, .int x10), (11, .int x11), (13, .int x13), (14, .int x14)]) dL_law_1637 (Nat.le_of_ble_eq_true rfl) rfl ?_
  exact zJ.sub [1, 2, 3, 4, 5, 6, 0] rfl h
set_option maxRecDepth 100000 in
set_option maxHeartbeats 4000000 in
theorem w_L_law_1639 (o : zW) (x10 : Int32) (x11 : Int32) (x13 : Int32) (x14 : Int32) (x15 : Int32) (S : zS) (Q : Option Value → zS → Prop) (h : (5 ≤ x15 → ((¬ (¬ x11 = x13)) ∧ ((¬ (¬ x10 = x14)) ∧ (zGi o 970 mdX4_clear [.ref (z_adr o (0, 0, 0))] S (fun r6 S7 => (¬ (¬ r6 = 24)) ∧ (zG o 970 mdL_law 1809 [(1, .ref (z_adr o (0, 0, 0))), (4, .int 1)] [] S7 Q)))))) ∧ (¬ 5 ≤ x15 → (zGi o 970 mdX4_sets [.ref (z_adr o (0, 0, 0)), .int 2, .int x15] S (fun r11 S12 => (¬ (r11 < 1)) ∧ (zGi o 970 mdX4_runs [.ref (z_adr o (0, 0, 0))] S12 (fun r15 S16 => zG o 970 mdL_law 1680 [(1, .ref (z_adr o (0, 0, 0))), (4, .int 1), (10, .int x10), (11, .int x11), (13, .int x13), (14, .int x14), (15, .int x15), (16, .int r15), (17, .int 0), (18, .int 0)] [] S16 Q)))))) : zG o 970 mdL_law 1639 [(1, .ref (z_adr o (0, 0, 0))), (4, .int 1), (10, .int x10), (11, .int x11), (13, .int x13), (14, .int x14), (15, .int x15)] [] S Q := by
  show zJ o mdL_law 1639 _ [] (970, z_enc o S) 0 0 _
  refine zJ.iload (pc := 1639) 6 dL_law_1639 rfl ?_
  refine zJ.iconst (pc := 1641) (v := 5) dL_law_1641 (by decide) ?_
  refine zJ.icmp_ge (pc := 1642) (tgt := 1774) dL_law_1642 (by decide) (fun c1 => ?_) (fun c1 => ?_)
  · replace h := h.1 c1
    refine zJ.iload (pc := 1774) 1 dL_law_1774 rfl ?_
    refine zJ.if_eq (pc := 1776) (tgt := 1806) dL_law_1776 (by decide) (fun c2 => absurd c2 (by decide)) (fun c2 => ?_)
    refine zJ.iload (pc := 1779) 3 dL_law_1779 rfl ?_
    refine zJ.iload (pc := 1781) 4 dL_law_1781 rfl ?_
    obtain ⟨cN, h⟩ := h
    refine zJ.icmp_ne (pc := 1783) (tgt := 1806) dL_law_1783 (by decide) (fun c3 => absurd c3 cN) (fun _ => ?_)
    clear cN
    refine zJ.iload (pc := 1786) 2 dL_law_1786 rfl ?_
    refine zJ.iload (pc := 1788) 5 dL_law_1788 rfl ?_
    obtain ⟨cN, h⟩ := h
    refine zJ.icmp_ne (pc := 1790) (tgt := 1806) dL_law_1790 (by decide) (fun c4 => absurd c4 cN) (fun _ => ?_)
    clear cN
    refine zJ.aload_n (pc := 1793) 0 dL_law_1793 rfl rfl ?_
    refine zG.callVi (d := mdL_law) (pc := 1794) [] [] (ob_0 o) ok_0 rfl dL_law_1794 ⟨(cb_X4_clear).1, (cb_X4_clear).2, (Nat.le_of_ble_eq_true rfl), (Nat.le_of_ble_eq_true rfl)⟩ ml_L_138 ci_X4_clear cv_X4_clear rfl (Nat.le_of_ble_eq_true rfl) (Nat.le_of_ble_eq_true rfl) rfl h (fun r6 S7 h2 => ?_)
    replace h := h2
    clear h2
    refine zJ.bipush (pc := 1797) (v := 24) dL_law_1797 (by decide) ?_
    obtain ⟨cN, h⟩ := h
    refine zJ.icmp_ne (pc := 1799) (tgt := 1806) dL_law_1799 (by decide) (fun c8 => absurd c8 cN) (fun _ => ?_)
    clear cN
    refine zJ.iconst (pc := 1802) (v := 1) dL_law_1802 (by decide) ?_
    refine zJ.goto (pc := 1803) (tgt := 1807) dL_law_1803 (by decide) ?_
    refine zJ.istore (pc := 1807) (lv' := [(4, .int 1), (1, .ref (z_adr o (0, 0, 0))), (10, .int x10), (11, .int x11), (13, .int x13), (14, .int x14), (15, .int x15)]) dL_law_1807 (Nat.le_of_ble_eq_true rfl) rfl ?_
    exact zJ.sub [1, 0] rfl h
  · replace h := h.2 c1
    refine zJ.iload (pc := 1645) 1 dL_law_1645 rfl ?_
    refine zJ.if_eq (pc := 1647) (tgt := 1774) dL_law_1647 (by decide) (fun c9 => absurd c9 (by decide)) (fun c9 => ?_)
    refine zJ.aload_n (pc := 1650) 0 dL_law_1650 rfl rfl ?_
    refine zJ.iconst (pc := 1651) (v := 2) dL_law_1651 (by decide) ?_
    refine zJ.iload (pc := 1652) 6 dL_law_1652 rfl ?_
    refine zG.callVi (d := mdL_law) (pc := 1654) [.int 2, .int x15] [] (ob_0 o) ok_0 rfl dL_law_1654 ⟨(cb_X4_sets).1, (cb_X4_sets).2, (Nat.le_of_ble_eq_true rfl), (Nat.le_of_ble_eq_true rfl)⟩ ml_L_120 ci_X4_sets cv_X4_sets rfl (Nat.le_of_ble_eq_true rfl) (Nat.le_of_ble_eq_true rfl) rfl h (fun r11 S12 h2 => ?_)
    replace h := h2
    clear h2
    refine zJ.iconst (pc := 1657) (v := 1) dL_law_1657 (by decide) ?_
    obtain ⟨cN, h⟩ := h
    refine zJ.icmp_lt (pc := 1658) (tgt := 1665) dL_law_1658 (by decide) (fun c13 => absurd c13 cN) (fun _ => ?_)
    clear cN
    refine zJ.iconst (pc := 1661) (v := 1) dL_law_1661 (by decide) ?_
    refine zJ.goto (pc := 1662) (tgt := 1666) dL_law_1662 (by decide) ?_
    refine zJ.istore (pc := 1666) (lv' := [(4, .int 1), (1, .ref (z_adr o (0, 0, 0))), (10, .int x10), (11, .int x11), (13, .int x13), (14, .int x14), (15, .int x15)]) dL_law_1666 (Nat.le_of_ble_eq_true rfl) rfl ?_
    refine zJ.aload_n (pc := 1668) 1 dL_law_1668 rfl rfl ?_
    refine zG.callVi (d := mdL_law) (pc := 1669) [] [] (ob_0 o) ok_0 rfl dL_law_1669 ⟨(cb_X4_runs).1, (cb_X4_runs).2, (Nat.le_of_ble_eq_true rfl), (Nat.le_of_ble_eq_true rfl)⟩ ml_L_147 ci_X4_runs cv_X4_runs rfl (Nat.le_of_ble_eq_true rfl) (Nat.le_of_ble_eq_true rfl) rfl h (fun r15 S16 h2 => ?_)
    replace h := h2
    clear h2
    refine zJ.istore (pc := 1672) (lv' := [(16, .int r15), (4, .int 1), (1, .ref (z_adr o (0, 0, 0))), (10, .int x10), (11, .int x11), (13, .int x13), (14, .int x14), (15, .int x15)]) dL_law_1672 (Nat.le_of_ble_eq_true rfl) rfl ?_
    refine zJ.iconst (pc := 1674) (v := 0) dL_law_1674 (by decide) ?_
    refine zJ.istore (pc := 1675) (lv' := [(17, .int 0), (16, .int r15), (4, .int 1), (1, .ref (z_adr o (0, 0, 0))), (10, .int x10), (11, .int x11), (13, .int x13), (14, .int x14), (15, .int x15)]) dL_law_1675 (Nat.le_of_ble_eq_true rfl) rfl ?_
    refine zJ.iconst (pc := 1677) (v := 0) dL_law_1677 (by decide) ?_
    refine zJ.istore (pc := 1678) (lv' := [(18, .int 0), (17, .int 0), (16, .int r15), (4, .int 1), (1, .ref (z_adr o (0, 0, 0))), (10, .int x10), (11, .int x11), (13, .int x13), (14, .int x14), (15, .int x15)]) dL_law_1678 (Nat.le_of_ble_eq_true rfl) rfl ?_
    exact zJ.sub [4, 3, 5, 6, 7, 8, 9, 2, 1, 0] rfl h
set_option maxRecDepth 100000 in
set_option maxHeartbeats 4000000 in
theorem w_L_law_1680 (o : zW) (x10 : Int32) (x11 : Int32) (x13 : Int32) (x14 : Int32) (x15 : Int32) (x16 : Int32) (x17 : Int32) (x18 : Int32) (S : zS) (Q : Option Value → zS → Prop) (h : (4 ≤ x18 → ((x15 = 1 → (zG o 970 mdL_law 1746 [(1, .ref (z_adr o (0, 0, 0))), (4, .int 1), (10, .int x10), (11, .int x15), (13, .int x13), (14, .int x14), (15, .int x15), (16, .int (x16 + x17))] [] S Q)) ∧ (¬ x15 = 1 → ((x10 ≤ (x16 + x17) → (zG o 970 mdL_law 1746 [(1, .ref (z_adr o (0, 0, 0))), (4, .int 1), (10, .int x10), (11, .int x11), (13, .int x13), (14, .int x14), (15, .int x15), (16, .int (x16 + x17))] [] S Q)) ∧ (¬ x10 ≤ (x16 + x17) → (zG o 970 mdL_law 1746 [(1, .ref (z_adr o (0, 0, 0))), (4, .int 1), (10, .int x10), (11, .int x15), (13, .int x13), (14, .int x14), (15, .int x15), (16, .int (x16 + x17))] [] S Q)))))) ∧ (¬ 4 ≤ x18 → (zGi o 970 mdX4_fetch [.ref (z_adr o (0, 0, 0)), .int x18, .int 1] S (fun r5 S6 => (r5 ≤ x17 → (zG o 970 mdL_law 1711 [(1, .ref (z_adr o (0, 0, 0))), (4, .int 1), (10, .int x10), (11, .int x11), (13, .int x13), (14, .int x14), (15, .int x15), (16, .int x16), (17, .int x17), (18, .int x18)] [] S6 Q)) ∧ (¬ r5 ≤ x17 → (zG o 970 mdL_law 1711 [(1, .ref (z_adr o (0, 0, 0))), (4, .int 1), (10, .int x10), (11, .int x11), (13, .int x13), (14, .int x14), (15, .int x15), (16, .int x16), (17, .int r5), (18, .int x18)] [] S6 Q)))))) : zG o 970 mdL_law 1680 [(1, .ref (z_adr o (0, 0, 0))), (4, .int 1), (10, .int x10), (11, .int x11), (13, .int x13), (14, .int x14), (15, .int x15), (16, .int x16), (17, .int x17), (18, .int x18)] [] S Q := by
  show zJ o mdL_law 1680 _ [] (970, z_enc o S) 0 0 _
  refine zJ.iload (pc := 1680) 9 dL_law_1680 rfl ?_
  refine zJ.iconst (pc := 1682) (v := 4) dL_law_1682 (by decide) ?_
  refine zJ.icmp_ge (pc := 1683) (tgt := 1717) dL_law_1683 (by decide) (fun c1 => ?_) (fun c1 => ?_)
  · replace h := h.1 c1
    refine zJ.iload (pc := 1717) 7 dL_law_1717 rfl ?_
    refine zJ.iload (pc := 1719) 8 dL_law_1719 rfl ?_
    refine zJ.iadd (pc := 1721) dL_law_1721 ?_
    refine zJ.istore (pc := 1722) (lv' := [(16, .int (x16 + x17)), (1, .ref (z_adr o (0, 0, 0))), (4, .int 1), (10, .int x10), (11, .int x11), (13, .int x13), (14, .int x14), (15, .int x15), (17, .int x17), (18, .int x18)]) dL_law_1722 (Nat.le_of_ble_eq_true rfl) rfl ?_
    refine zJ.iload (pc := 1724) 7 dL_law_1724 rfl ?_
    refine zJ.iconst (pc := 1726) (v := 1) dL_law_1726 (by decide) ?_
    refine zJ.icmp_eq (pc := 1727) (tgt := 1737) dL_law_1727 (by decide) (fun c2 => ?_) (fun c2 => ?_)
    · replace h := h.1 c2
      refine zJ.iload (pc := 1737) 7 dL_law_1737 rfl ?_
      refine zJ.goto (pc := 1739) (tgt := 1744) dL_law_1739 (by decide) ?_
      refine zJ.istore (pc := 1744) (lv' := [(11, .int x15), (16, .int (x16 + x17)), (1, .ref (z_adr o (0, 0, 0))), (4, .int 1), (10, .int x10), (13, .int x13), (14, .int x14), (15, .int x15), (17, .int x17), (18, .int x18)]) dL_law_1744 (Nat.le_of_ble_eq_true rfl) rfl ?_
      exact zJ.sub [2, 3, 4, 0, 5, 6, 7, 1] rfl h
    · replace h := h.2 c2
      refine zJ.iload (pc := 1730) 0 dL_law_1730 rfl ?_
      refine zJ.iload (pc := 1732) 3 dL_law_1732 rfl ?_
      refine zJ.icmp_ge (pc := 1734) (tgt := 1742) dL_law_1734 (by decide) (fun c3 => ?_) (fun c3 => ?_)
      · replace h := h.1 c3
        refine zJ.iload (pc := 1742) 4 dL_law_1742 rfl ?_
        refine zJ.istore (pc := 1744) (lv' := [(11, .int x11), (16, .int (x16 + x17)), (1, .ref (z_adr o (0, 0, 0))), (4, .int 1), (10, .int x10), (13, .int x13), (14, .int x14), (15, .int x15), (17, .int x17), (18, .int x18)]) dL_law_1744 (Nat.le_of_ble_eq_true rfl) rfl ?_
        exact zJ.sub [2, 3, 4, 0, 5, 6, 7, 1] rfl h
      · replace h := h.2 c3
        refine zJ.iload (pc := 1737) 7 dL_law_1737 rfl ?_
        refine zJ.goto (pc := 1739) (tgt := 1744) dL_law_1739 (by decide) ?_
        refine zJ.istore (pc := 1744) (lv' := [(11, .int x15), (16, .int (x16 + x17)), (1, .ref (z_adr o (0, 0, 0))), (4, .int 1), (10, .int x10), (13, .int x13), (14, .int x14), (15, .int x15), (17, .int x17), (18, .int x18)]) dL_law_1744 (Nat.le_of_ble_eq_true rfl) rfl ?_
        exact zJ.sub [2, 3, 4, 0, 5, 6, 7, 1] rfl h
  · replace h := h.2 c1
    refine zJ.aload_n (pc := 1686) 0 dL_law_1686 rfl rfl ?_
    refine zJ.iload (pc := 1687) 9 dL_law_1687 rfl ?_
    refine zJ.iconst (pc := 1689) (v := 1) dL_law_1689 (by decide) ?_
    refine zG.callVi (d := mdL_law) (pc := 1690) [.int x18, .int 1] [] (ob_0 o) ok_0 rfl dL_law_1690 ⟨(cb_X4_fetch).1, (cb_X4_fetch).2, (Nat.le_of_ble_eq_true rfl), (Nat.le_of_ble_eq_true rfl)⟩ ml_L_83 ci_X4_fetch cv_X4_fetch rfl (Nat.le_of_ble_eq_true rfl) (Nat.le_of_ble_eq_true rfl) rfl h (fun r5 S6 h2 => ?_)
    replace h := h2
    clear h2
    refine zJ.istore (pc := 1693) (lv' := [(19, .int r5), (1, .ref (z_adr o (0, 0, 0))), (4, .int 1), (10, .int x10), (11, .int x11), (13, .int x13), (14, .int x14), (15, .int x15), (16, .int x16), (17, .int x17), (18, .int x18)]) dL_law_1693 (Nat.le_of_ble_eq_true rfl) rfl ?_
    refine zJ.iload (pc := 1695) 0 dL_law_1695 rfl ?_
    refine zJ.iload (pc := 1697) 9 dL_law_1697 rfl ?_
    refine zJ.icmp_le (pc := 1699) (tgt := 1707) dL_law_1699 (by decide) (fun c7 => ?_) (fun c7 => ?_)
    · replace h := h.1 c7
      refine zJ.iload (pc := 1707) 9 dL_law_1707 rfl ?_
      refine zJ.istore (pc := 1709) (lv' := [(17, .int x17), (19, .int r5), (1, .ref (z_adr o (0, 0, 0))), (4, .int 1), (10, .int x10), (11, .int x11), (13, .int x13), (14, .int x14), (15, .int x15), (16, .int x16), (18, .int x18)]) dL_law_1709 (Nat.le_of_ble_eq_true rfl) rfl ?_
      exact zJ.sub [2, 3, 4, 5, 6, 7, 8, 9, 0, 10] rfl h
    · replace h := h.2 c7
      refine zJ.iload (pc := 1702) 0 dL_law_1702 rfl ?_
      refine zJ.goto (pc := 1704) (tgt := 1709) dL_law_1704 (by decide) ?_
      refine zJ.istore (pc := 1709) (lv' := [(17, .int r5), (19, .int r5), (1, .ref (z_adr o (0, 0, 0))), (4, .int 1), (10, .int x10), (11, .int x11), (13, .int x13), (14, .int x14), (15, .int x15), (16, .int x16), (18, .int x18)]) dL_law_1709 (Nat.le_of_ble_eq_true rfl) rfl ?_
      exact zJ.sub [2, 3, 4, 5, 6, 7, 8, 9, 0, 10] rfl h
set_option maxRecDepth 100000 in
set_option maxHeartbeats 4000000 in
theorem w_L_law_1711 (o : zW) (x10 : Int32) (x11 : Int32) (x13 : Int32) (x14 : Int32) (x15 : Int32) (x16 : Int32) (x17 : Int32) (x18 : Int32) (S : zS) (Q : Option Value → zS → Prop) (h : zG o 970 mdL_law 1680 [(1, .ref (z_adr o (0, 0, 0))), (4, .int 1), (10, .int x10), (11, .int x11), (13, .int x13), (14, .int x14), (15, .int x15), (16, .int x16), (17, .int x17), (18, .int (x18 + 1))] [] S Q) : zG o 970 mdL_law 1711 [(1, .ref (z_adr o (0, 0, 0))), (4, .int 1), (10, .int x10), (11, .int x11), (13, .int x13), (14, .int x14), (15, .int x15), (16, .int x16), (17, .int x17), (18, .int x18)] [] S Q := by
  show zJ o mdL_law 1711 _ [] (970, z_enc o S) 0 0 _
  refine zJ.iinc (pc := 1711) (k := 9) (lv' := [(18, .int (x18 + 1)), (1, .ref (z_adr o (0, 0, 0))), (4, .int 1), (10, .int x10), (11, .int x11), (13, .int x13), (14, .int x14), (15, .int x15), (16, .int x16), (17, .int x17)]) dL_law_1711 rfl rfl (Nat.le_of_ble_eq_true rfl) rfl ?_
  refine zJ.goto (pc := 1714) (tgt := 1680) dL_law_1714 (by decide) ?_
  exact zJ.sub [1, 2, 3, 4, 5, 6, 7, 8, 9, 0] rfl h
set_option maxRecDepth 100000 in
set_option maxHeartbeats 4000000 in
theorem w_L_law_1746 (o : zW) (x10 : Int32) (x11 : Int32) (x13 : Int32) (x14 : Int32) (x15 : Int32) (x16 : Int32) (S : zS) (Q : Option Value → zS → Prop) (h : (x15 = 1 → (zG o 970 mdL_law 1768 [(1, .ref (z_adr o (0, 0, 0))), (4, .int 1), (10, .int x16), (11, .int x11), (13, .int x13), (14, .int x14), (15, .int x15)] [] S Q)) ∧ (¬ x15 = 1 → ((x10 ≤ x16 → (zG o 970 mdL_law 1768 [(1, .ref (z_adr o (0, 0, 0))), (4, .int 1), (10, .int x10), (11, .int x11), (13, .int x13), (14, .int x14), (15, .int x15)] [] S Q)) ∧ (¬ x10 ≤ x16 → (zG o 970 mdL_law 1768 [(1, .ref (z_adr o (0, 0, 0))), (4, .int 1), (10, .int x16), (11, .int x11), (13, .int x13), (14, .int x14), (15, .int x15)] [] S Q))))) : zG o 970 mdL_law 1746 [(1, .ref (z_adr o (0, 0, 0))), (4, .int 1), (10, .int x10), (11, .int x11), (13, .int x13), (14, .int x14), (15, .int x15), (16, .int x16)] [] S Q := by
  show zJ o mdL_law 1746 _ [] (970, z_enc o S) 0 0 _
  refine zJ.iload (pc := 1746) 6 dL_law_1746 rfl ?_
  refine zJ.iconst (pc := 1748) (v := 1) dL_law_1748 (by decide) ?_
  refine zJ.icmp_eq (pc := 1749) (tgt := 1759) dL_law_1749 (by decide) (fun c1 => ?_) (fun c1 => ?_)
  · replace h := h.1 c1
    refine zJ.iload (pc := 1759) 7 dL_law_1759 rfl ?_
    refine zJ.goto (pc := 1761) (tgt := 1766) dL_law_1761 (by decide) ?_
    refine zJ.istore (pc := 1766) (lv' := [(10, .int x16), (1, .ref (z_adr o (0, 0, 0))), (4, .int 1), (11, .int x11), (13, .int x13), (14, .int x14), (15, .int x15), (16, .int x16)]) dL_law_1766 (Nat.le_of_ble_eq_true rfl) rfl ?_
    exact zJ.sub [1, 2, 0, 3, 4, 5, 6] rfl h
  · replace h := h.2 c1
    refine zJ.iload (pc := 1752) 7 dL_law_1752 rfl ?_
    refine zJ.iload (pc := 1754) 2 dL_law_1754 rfl ?_
    refine zJ.icmp_ge (pc := 1756) (tgt := 1764) dL_law_1756 (by decide) (fun c2 => ?_) (fun c2 => ?_)
    · replace h := h.1 c2
      refine zJ.iload (pc := 1764) 2 dL_law_1764 rfl ?_
      refine zJ.istore (pc := 1766) (lv' := [(10, .int x10), (1, .ref (z_adr o (0, 0, 0))), (4, .int 1), (11, .int x11), (13, .int x13), (14, .int x14), (15, .int x15), (16, .int x16)]) dL_law_1766 (Nat.le_of_ble_eq_true rfl) rfl ?_
      exact zJ.sub [1, 2, 0, 3, 4, 5, 6] rfl h
    · replace h := h.2 c2
      refine zJ.iload (pc := 1759) 7 dL_law_1759 rfl ?_
      refine zJ.goto (pc := 1761) (tgt := 1766) dL_law_1761 (by decide) ?_
      refine zJ.istore (pc := 1766) (lv' := [(10, .int x16), (1, .ref (z_adr o (0, 0, 0))), (4, .int 1), (11, .int x11), (13, .int x13), (14, .int x14), (15, .int x15), (16, .int x16)]) dL_law_1766 (Nat.le_of_ble_eq_true rfl) rfl ?_
      exact zJ.sub [1, 2, 0, 3, 4, 5, 6] rfl h
set_option maxRecDepth 100000 in
set_option maxHeartbeats 4000000 in
theorem w_L_law_1768 (o : zW) (x10 : Int32) (x11 : Int32) (x13 : Int32) (x14 : Int32) (x15 : Int32) (S : zS) (Q : Option Value → zS → Prop) (h : zG o 970 mdL_law 1639 [(1, .ref (z_adr o (0, 0, 0))), (4, .int 1), (10, .int x10), (11, .int x11), (13, .int x13), (14, .int x14), (15, .int (x15 + 1))] [] S Q) : zG o 970 mdL_law 1768 [(1, .ref (z_adr o (0, 0, 0))), (4, .int 1), (10, .int x10), (11, .int x11), (13, .int x13), (14, .int x14), (15, .int x15)] [] S Q := by
  show zJ o mdL_law 1768 _ [] (970, z_enc o S) 0 0 _
  refine zJ.iinc (pc := 1768) (k := 6) (lv' := [(15, .int (x15 + 1)), (1, .ref (z_adr o (0, 0, 0))), (4, .int 1), (10, .int x10), (11, .int x11), (13, .int x13), (14, .int x14)]) dL_law_1768 rfl rfl (Nat.le_of_ble_eq_true rfl) rfl ?_
  refine zJ.goto (pc := 1771) (tgt := 1639) dL_law_1771 (by decide) ?_
  exact zJ.sub [1, 2, 3, 4, 5, 6, 0] rfl h
