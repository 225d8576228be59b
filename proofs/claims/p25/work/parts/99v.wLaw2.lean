set_option maxRecDepth 100000 in
set_option maxHeartbeats 4000000 in
theorem w_L_law_499 (o : zW) (x5 : Int32) (x6 : Int32) (x7 : Int32) (x8 : Int32) (x9 : Int32) (x17 : Int32) (S : zS) (Q : Option Value → zS → Prop) (h : (16 ≤ x17 → (zG o 970 mdL_law 581 [(0, .ref o.2.2.2.2.1), (1, .ref (z_adr o (0, 0, 0))), (2, .ref (z_adr o (23, 0, 0))), (3, .ref (z_adr o (24, 0, 0))), (4, .int 1), (5, .int x5), (6, .int x6), (7, .int x7), (8, .int x8), (9, .int x9)] [] S Q)) ∧ (¬ 16 ≤ x17 → (zGi o 970 mdX4_where [.ref (z_adr o (0, 0, 0)), .int x17] S (fun r4 S5 => (¬ (2 ≤ r4)) ∧ (zG o 970 mdL_law 499 [(0, .ref o.2.2.2.2.1), (1, .ref (z_adr o (0, 0, 0))), (2, .ref (z_adr o (23, 0, 0))), (3, .ref (z_adr o (24, 0, 0))), (4, .int 1), (5, .int x5), (6, .int x6), (7, .int x7), (8, .int x8), (9, .int x9), (17, .int (x17 + 1))] [] S5 Q))))) : zG o 970 mdL_law 499 [(0, .ref o.2.2.2.2.1), (1, .ref (z_adr o (0, 0, 0))), (2, .ref (z_adr o (23, 0, 0))), (3, .ref (z_adr o (24, 0, 0))), (4, .int 1), (5, .int x5), (6, .int x6), (7, .int x7), (8, .int x8), (9, .int x9), (17, .int x17)] [] S Q := by
  show zJ o mdL_law 499 _ [] (970, z_enc o S) 0 0 _
  refine zJ.iload (pc := 499) 10 dL_law_499 rfl ?_
  refine zJ.bipush (pc := 501) (v := 16) dL_law_501 (by decide) ?_
  refine zJ.icmp_ge (pc := 503) (tgt := 534) dL_law_503 (by decide) (fun c1 => ?_) (fun c1 => ?_)
  · replace h := h.1 c1
    refine zJ.goto (pc := 534) (tgt := 581) dL_law_534 (by decide) ?_
    exact zJ.sub [0, 1, 2, 3, 4, 5, 6, 7, 8, 9] rfl h
  · replace h := h.2 c1
    refine zJ.iload (pc := 506) 4 dL_law_506 rfl ?_
    refine zJ.if_eq (pc := 508) (tgt := 525) dL_law_508 (by decide) (fun c2 => absurd c2 (by decide)) (fun c2 => ?_)
    refine zJ.aload_n (pc := 511) 1 dL_law_511 rfl rfl ?_
    refine zJ.iload (pc := 512) 10 dL_law_512 rfl ?_
    refine zG.callVi (d := mdL_law) (pc := 514) [.int x17] [] (ob_0 o) ok_0 rfl dL_law_514 ⟨(cb_X4_where).1, (cb_X4_where).2, (Nat.le_of_ble_eq_true rfl), (Nat.le_of_ble_eq_true rfl)⟩ ml_L_86 ci_X4_where cv_X4_where rfl (Nat.le_of_ble_eq_true rfl) (Nat.le_of_ble_eq_true rfl) rfl h (fun r4 S5 h2 => ?_)
    replace h := h2
    clear h2
    refine zJ.iconst (pc := 517) (v := 2) dL_law_517 (by decide) ?_
    obtain ⟨cN, h⟩ := h
    refine zJ.icmp_ge (pc := 518) (tgt := 525) dL_law_518 (by decide) (fun c6 => absurd c6 cN) (fun _ => ?_)
    clear cN
    refine zJ.iconst (pc := 521) (v := 1) dL_law_521 (by decide) ?_
    refine zJ.goto (pc := 522) (tgt := 526) dL_law_522 (by decide) ?_
    refine zJ.istore (pc := 526) (lv' := [(4, .int 1), (0, .ref o.2.2.2.2.1), (1, .ref (z_adr o (0, 0, 0))), (2, .ref (z_adr o (23, 0, 0))), (3, .ref (z_adr o (24, 0, 0))), (5, .int x5), (6, .int x6), (7, .int x7), (8, .int x8), (9, .int x9), (17, .int x17)]) dL_law_526 (Nat.le_of_ble_eq_true rfl) rfl ?_
    refine zJ.iinc (pc := 528) (k := 10) (lv' := [(17, .int (x17 + 1)), (4, .int 1), (0, .ref o.2.2.2.2.1), (1, .ref (z_adr o (0, 0, 0))), (2, .ref (z_adr o (23, 0, 0))), (3, .ref (z_adr o (24, 0, 0))), (5, .int x5), (6, .int x6), (7, .int x7), (8, .int x8), (9, .int x9)]) dL_law_528 rfl rfl (Nat.le_of_ble_eq_true rfl) rfl ?_
    refine zJ.goto (pc := 531) (tgt := 499) dL_law_531 (by decide) ?_
    exact zJ.sub [2, 3, 4, 5, 1, 6, 7, 8, 9, 10, 0] rfl h
set_option maxRecDepth 100000 in
set_option maxHeartbeats 4000000 in
theorem w_L_law_581 (o : zW) (x5 : Int32) (x6 : Int32) (x7 : Int32) (x8 : Int32) (x9 : Int32) (S : zS) (Q : Option Value → zS → Prop) (h : zG o 970 mdL_law 590 [(0, .ref o.2.2.2.2.1), (1, .ref (z_adr o (0, 0, 0))), (2, .ref (z_adr o (23, 0, 0))), (3, .ref (z_adr o (24, 0, 0))), (4, .int 1), (5, .int x5), (6, .int x6), (7, .int x7), (8, .int x8), (9, .int x9), (16, .int 0), (17, .int 0), (18, .int 0)] [] S Q) : zG o 970 mdL_law 581 [(0, .ref o.2.2.2.2.1), (1, .ref (z_adr o (0, 0, 0))), (2, .ref (z_adr o (23, 0, 0))), (3, .ref (z_adr o (24, 0, 0))), (4, .int 1), (5, .int x5), (6, .int x6), (7, .int x7), (8, .int x8), (9, .int x9)] [] S Q := by
  show zJ o mdL_law 581 _ [] (970, z_enc o S) 0 0 _
  refine zJ.iconst (pc := 581) (v := 0) dL_law_581 (by decide) ?_
  refine zJ.istore (pc := 582) (lv' := [(16, .int 0), (0, .ref o.2.2.2.2.1), (1, .ref (z_adr o (0, 0, 0))), (2, .ref (z_adr o (23, 0, 0))), (3, .ref (z_adr o (24, 0, 0))), (4, .int 1), (5, .int x5), (6, .int x6), (7, .int x7), (8, .int x8), (9, .int x9)]) dL_law_582 (Nat.le_of_ble_eq_true rfl) rfl ?_
  refine zJ.iconst (pc := 584) (v := 0) dL_law_584 (by decide) ?_
  refine zJ.istore (pc := 585) (lv' := [(17, .int 0), (16, .int 0), (0, .ref o.2.2.2.2.1), (1, .ref (z_adr o (0, 0, 0))), (2, .ref (z_adr o (23, 0, 0))), (3, .ref (z_adr o (24, 0, 0))), (4, .int 1), (5, .int x5), (6, .int x6), (7, .int x7), (8, .int x8), (9, .int x9)]) dL_law_585 (Nat.le_of_ble_eq_true rfl) rfl ?_
  refine zJ.iconst (pc := 587) (v := 0) dL_law_587 (by decide) ?_
  refine zJ.istore (pc := 588) (lv' := [(18, .int 0), (17, .int 0), (16, .int 0), (0, .ref o.2.2.2.2.1), (1, .ref (z_adr o (0, 0, 0))), (2, .ref (z_adr o (23, 0, 0))), (3, .ref (z_adr o (24, 0, 0))), (4, .int 1), (5, .int x5), (6, .int x6), (7, .int x7), (8, .int x8), (9, .int x9)]) dL_law_588 (Nat.le_of_ble_eq_true rfl) rfl ?_
  exact zJ.sub [3, 4, 5, 6, 7, 8, 9, 10, 11, 12, 2, 1, 0] rfl h
set_option maxRecDepth 100000 in
set_option maxHeartbeats 4000000 in
theorem w_L_law_590 (o : zW) (x5 : Int32) (x6 : Int32) (x7 : Int32) (x8 : Int32) (x9 : Int32) (x16 : Int32) (x17 : Int32) (x18 : Int32) (S : zS) (Q : Option Value → zS → Prop) (h : (16 ≤ x18 → (zG o 970 mdL_law 852 [(0, .ref o.2.2.2.2.1), (1, .ref (z_adr o (0, 0, 0))), (2, .ref (z_adr o (23, 0, 0))), (3, .ref (z_adr o (24, 0, 0))), (4, .int 1), (5, .int x5), (6, .int x6), (7, .int x7), (8, .int x8), (9, .int x9), (16, .int x16), (17, .int x17), (18, .int 0)] [] S Q)) ∧ (¬ 16 ≤ x18 → (zGi o 970 mdX4_where [.ref (z_adr o (0, 0, 0)), .int x18] S (fun r4 S5 => zG o 970 mdL_law 616 [(0, .ref o.2.2.2.2.1), (1, .ref (z_adr o (0, 0, 0))), (2, .ref (z_adr o (23, 0, 0))), (3, .ref (z_adr o (24, 0, 0))), (5, .int x5), (6, .int x6), (7, .int x7), (8, .int x8), (9, .int x9), (16, .int x16), (17, .int x17), (18, .int x18), (19, .int r4), (20, .int 0), (21, .int 0)] [] S5 Q)))) : zG o 970 mdL_law 590 [(0, .ref o.2.2.2.2.1), (1, .ref (z_adr o (0, 0, 0))), (2, .ref (z_adr o (23, 0, 0))), (3, .ref (z_adr o (24, 0, 0))), (4, .int 1), (5, .int x5), (6, .int x6), (7, .int x7), (8, .int x8), (9, .int x9), (16, .int x16), (17, .int x17), (18, .int x18)] [] S Q := by
  show zJ o mdL_law 590 _ [] (970, z_enc o S) 0 0 _
  refine zJ.iload (pc := 590) 12 dL_law_590 rfl ?_
  refine zJ.bipush (pc := 592) (v := 16) dL_law_592 (by decide) ?_
  refine zJ.icmp_ge (pc := 594) (tgt := 849) dL_law_594 (by decide) (fun c1 => ?_) (fun c1 => ?_)
  · replace h := h.1 c1
    refine zJ.iconst (pc := 849) (v := 0) dL_law_849 (by decide) ?_
    refine zJ.istore (pc := 850) (lv' := [(18, .int 0), (0, .ref o.2.2.2.2.1), (1, .ref (z_adr o (0, 0, 0))), (2, .ref (z_adr o (23, 0, 0))), (3, .ref (z_adr o (24, 0, 0))), (4, .int 1), (5, .int x5), (6, .int x6), (7, .int x7), (8, .int x8), (9, .int x9), (16, .int x16), (17, .int x17)]) dL_law_850 (Nat.le_of_ble_eq_true rfl) rfl ?_
    exact zJ.sub [1, 2, 3, 4, 5, 6, 7, 8, 9, 10, 11, 12, 0] rfl h
  · replace h := h.2 c1
    refine zJ.iload (pc := 597) 4 dL_law_597 rfl ?_
    refine zJ.if_eq (pc := 599) (tgt := 849) dL_law_599 (by decide) (fun c2 => absurd c2 (by decide)) (fun c2 => ?_)
    refine zJ.aload_n (pc := 602) 1 dL_law_602 rfl rfl ?_
    refine zJ.iload (pc := 603) 12 dL_law_603 rfl ?_
    refine zG.callVi (d := mdL_law) (pc := 605) [.int x18] [] (ob_0 o) ok_0 rfl dL_law_605 ⟨(cb_X4_where).1, (cb_X4_where).2, (Nat.le_of_ble_eq_true rfl), (Nat.le_of_ble_eq_true rfl)⟩ ml_L_86 ci_X4_where cv_X4_where rfl (Nat.le_of_ble_eq_true rfl) (Nat.le_of_ble_eq_true rfl) rfl h (fun r4 S5 h2 => ?_)
    replace h := h2
    clear h2
    refine zJ.istore (pc := 608) (lv' := [(19, .int r4), (0, .ref o.2.2.2.2.1), (1, .ref (z_adr o (0, 0, 0))), (2, .ref (z_adr o (23, 0, 0))), (3, .ref (z_adr o (24, 0, 0))), (4, .int 1), (5, .int x5), (6, .int x6), (7, .int x7), (8, .int x8), (9, .int x9), (16, .int x16), (17, .int x17), (18, .int x18)]) dL_law_608 (Nat.le_of_ble_eq_true rfl) rfl ?_
    refine zJ.iconst (pc := 610) (v := 0) dL_law_610 (by decide) ?_
    refine zJ.istore (pc := 611) (lv' := [(20, .int 0), (19, .int r4), (0, .ref o.2.2.2.2.1), (1, .ref (z_adr o (0, 0, 0))), (2, .ref (z_adr o (23, 0, 0))), (3, .ref (z_adr o (24, 0, 0))), (4, .int 1), (5, .int x5), (6, .int x6), (7, .int x7), (8, .int x8), (9, .int x9), (16, .int x16), (17, .int x17), (18, .int x18)]) dL_law_611 (Nat.le_of_ble_eq_true rfl) rfl ?_
    refine zJ.iconst (pc := 613) (v := 0) dL_law_613 (by decide) ?_
    refine zJ.istore (pc := 614) (lv' := [(21, .int 0), (20, .int 0), (19, .int r4), (0, .ref o.2.2.2.2.1), (1, .ref (z_adr o (0, 0, 0))), (2, .ref (z_adr o (23, 0, 0))), (3, .ref (z_adr o (24, 0, 0))), (4, .int 1), (5, .int x5), (6, .int x6), (7, .int x7), (8, .int x8), (9, .int x9), (16, .int x16), (17, .int x17), (18, .int x18)]) dL_law_614 (Nat.le_of_ble_eq_true rfl) rfl ?_
    exact zJ.sub [3, 4, 5, 6, 8, 9, 10, 11, 12, 13, 14, 15, 2, 1, 0] rfl h
set_option maxRecDepth 100000 in
set_option maxHeartbeats 4000000 in
theorem w_L_law_616 (o : zW) (x5 : Int32) (x6 : Int32) (x7 : Int32) (x8 : Int32) (x9 : Int32) (x16 : Int32) (x17 : Int32) (x18 : Int32) (x19 : Int32) (x20 : Int32) (x21 : Int32) (S : zS) (Q : Option Value → zS → Prop) (h : (3 ≤ x21 → ((¬ x19 = 2 → (zG o 970 mdL_law 669 [(0, .ref o.2.2.2.2.1), (1, .ref (z_adr o (0, 0, 0))), (2, .ref (z_adr o (23, 0, 0))), (3, .ref (z_adr o (24, 0, 0))), (5, .int x5), (6, .int x6), (7, .int x7), (8, .int x8), (9, .int x9), (16, .int (x16 + 0)), (17, .int x17), (18, .int x18), (19, .int x19), (20, .int x20)] [] S Q)) ∧ (x19 = 2 → (zG o 970 mdL_law 669 [(0, .ref o.2.2.2.2.1), (1, .ref (z_adr o (0, 0, 0))), (2, .ref (z_adr o (23, 0, 0))), (3, .ref (z_adr o (24, 0, 0))), (5, .int x5), (6, .int x6), (7, .int x7), (8, .int x8), (9, .int x9), (16, .int (x16 + 1)), (17, .int x17), (18, .int x18), (19, .int x19), (20, .int x20)] [] S Q)))) ∧ (¬ 3 ≤ x21 → (zGi o 970 mdX4_place [.ref (z_adr o (0, 0, 0)), .int (x18 &&& 3), .int x21] S (fun r4 S5 => (¬ r4 = x18 → (zG o 970 mdL_law 647 [(0, .ref o.2.2.2.2.1), (1, .ref (z_adr o (0, 0, 0))), (2, .ref (z_adr o (23, 0, 0))), (3, .ref (z_adr o (24, 0, 0))), (5, .int x5), (6, .int x6), (7, .int x7), (8, .int x8), (9, .int x9), (16, .int x16), (17, .int x17), (18, .int x18), (19, .int x19), (20, .int (x20 + 0)), (21, .int x21)] [] S5 Q)) ∧ (r4 = x18 → (zG o 970 mdL_law 647 [(0, .ref o.2.2.2.2.1), (1, .ref (z_adr o (0, 0, 0))), (2, .ref (z_adr o (23, 0, 0))), (3, .ref (z_adr o (24, 0, 0))), (5, .int x5), (6, .int x6), (7, .int x7), (8, .int x8), (9, .int x9), (16, .int x16), (17, .int x17), (18, .int x18), (19, .int x19), (20, .int (x20 + 1)), (21, .int x21)] [] S5 Q)))))) : zG o 970 mdL_law 616 [(0, .ref o.2.2.2.2.1), (1, .ref (z_adr o (0, 0, 0))), (2, .ref (z_adr o (23, 0, 0))), (3, .ref (z_adr o (24, 0, 0))), (5, .int x5), (6, .int x6), (7, .int x7), (8, .int x8), (9, .int x9), (16, .int x16), (17, .int x17), (18, .int x18), (19, .int x19), (20, .int x20), (21, .int x21)] [] S Q := by
  show zJ o mdL_law 616 _ [] (970, z_enc o S) 0 0 _
  refine zJ.iload (pc := 616) 14 dL_law_616 rfl ?_
  refine zJ.iconst (pc := 618) (v := 3) dL_law_618 (by decide) ?_
  refine zJ.icmp_ge (pc := 619) (tgt := 653) dL_law_619 (by decide) (fun c1 => ?_) (fun c1 => ?_)
  · replace h := h.1 c1
    refine zJ.iload (pc := 653) 9 dL_law_653 rfl ?_
    refine zJ.iload (pc := 655) 12 dL_law_655 rfl ?_
    refine zJ.iconst (pc := 657) (v := 2) dL_law_657 (by decide) ?_
    refine zJ.icmp_ne (pc := 658) (tgt := 665) dL_law_658 (by decide) (fun c2 => ?_) (fun c2 => ?_)
    · replace h := h.1 c2
      refine zJ.iconst (pc := 665) (v := 0) dL_law_665 (by decide) ?_
      refine zJ.iadd (pc := 666) dL_law_666 ?_
      refine zJ.istore (pc := 667) (lv' := [(16, .int (x16 + 0)), (0, .ref o.2.2.2.2.1), (1, .ref (z_adr o (0, 0, 0))), (2, .ref (z_adr o (23, 0, 0))), (3, .ref (z_adr o (24, 0, 0))), (5, .int x5), (6, .int x6), (7, .int x7), (8, .int x8), (9, .int x9), (17, .int x17), (18, .int x18), (19, .int x19), (20, .int x20), (21, .int x21)]) dL_law_667 (Nat.le_of_ble_eq_true rfl) rfl ?_
      exact zJ.sub [1, 2, 3, 4, 5, 6, 7, 8, 9, 0, 10, 11, 12, 13] rfl h
    · replace h := h.2 c2
      refine zJ.iconst (pc := 661) (v := 1) dL_law_661 (by decide) ?_
      refine zJ.goto (pc := 662) (tgt := 666) dL_law_662 (by decide) ?_
      refine zJ.iadd (pc := 666) dL_law_666 ?_
      refine zJ.istore (pc := 667) (lv' := [(16, .int (x16 + 1)), (0, .ref o.2.2.2.2.1), (1, .ref (z_adr o (0, 0, 0))), (2, .ref (z_adr o (23, 0, 0))), (3, .ref (z_adr o (24, 0, 0))), (5, .int x5), (6, .int x6), (7, .int x7), (8, .int x8), (9, .int x9), (17, .int x17), (18, .int x18), (19, .int x19), (20, .int x20), (21, .int x21)]) dL_law_667 (Nat.le_of_ble_eq_true rfl) rfl ?_
      exact zJ.sub [1, 2, 3, 4, 5, 6, 7, 8, 9, 0, 10, 11, 12, 13] rfl h
  · replace h := h.2 c1
    refine zJ.iload (pc := 622) 13 dL_law_622 rfl ?_
    refine zJ.aload_n (pc := 624) 1 dL_law_624 rfl rfl ?_
    refine zJ.iload (pc := 625) 11 dL_law_625 rfl ?_
    refine zJ.iconst (pc := 627) (v := 3) dL_law_627 (by decide) ?_
    refine zJ.iand (pc := 628) dL_law_628 ?_
    refine zJ.iload (pc := 629) 14 dL_law_629 rfl ?_
    refine zG.callVi (d := mdL_law) (pc := 631) [.int (x18 &&& 3), .int x21] [.int x20] (ob_0 o) ok_0 rfl dL_law_631 ⟨(cb_X4_place).1, (cb_X4_place).2, (Nat.le_of_ble_eq_true rfl), (Nat.le_of_ble_eq_true rfl)⟩ ml_L_93 ci_X4_place cv_X4_place rfl (Nat.le_of_ble_eq_true rfl) (Nat.le_of_ble_eq_true rfl) rfl h (fun r4 S5 h2 => ?_)
    replace h := h2
    clear h2
    refine zJ.iload (pc := 634) 11 dL_law_634 rfl ?_
    refine zJ.icmp_ne (pc := 636) (tgt := 643) dL_law_636 (by decide) (fun c6 => ?_) (fun c6 => ?_)
    · replace h := h.1 c6
      refine zJ.iconst (pc := 643) (v := 0) dL_law_643 (by decide) ?_
      refine zJ.iadd (pc := 644) dL_law_644 ?_
      refine zJ.istore (pc := 645) (lv' := [(20, .int (x20 + 0)), (0, .ref o.2.2.2.2.1), (1, .ref (z_adr o (0, 0, 0))), (2, .ref (z_adr o (23, 0, 0))), (3, .ref (z_adr o (24, 0, 0))), (5, .int x5), (6, .int x6), (7, .int x7), (8, .int x8), (9, .int x9), (16, .int x16), (17, .int x17), (18, .int x18), (19, .int x19), (21, .int x21)]) dL_law_645 (Nat.le_of_ble_eq_true rfl) rfl ?_
      exact zJ.sub [1, 2, 3, 4, 5, 6, 7, 8, 9, 10, 11, 12, 13, 0, 14] rfl h
    · replace h := h.2 c6
      refine zJ.iconst (pc := 639) (v := 1) dL_law_639 (by decide) ?_
      refine zJ.goto (pc := 640) (tgt := 644) dL_law_640 (by decide) ?_
      refine zJ.iadd (pc := 644) dL_law_644 ?_
      refine zJ.istore (pc := 645) (lv' := [(20, .int (x20 + 1)), (0, .ref o.2.2.2.2.1), (1, .ref (z_adr o (0, 0, 0))), (2, .ref (z_adr o (23, 0, 0))), (3, .ref (z_adr o (24, 0, 0))), (5, .int x5), (6, .int x6), (7, .int x7), (8, .int x8), (9, .int x9), (16, .int x16), (17, .int x17), (18, .int x18), (19, .int x19), (21, .int x21)]) dL_law_645 (Nat.le_of_ble_eq_true rfl) rfl ?_
      exact zJ.sub [1, 2, 3, 4, 5, 6, 7, 8, 9, 10, 11, 12, 13, 0, 14] rfl h
set_option maxRecDepth 100000 in
set_option maxHeartbeats 4000000 in
theorem w_L_law_647 (o : zW) (x5 : Int32) (x6 : Int32) (x7 : Int32) (x8 : Int32) (x9 : Int32) (x16 : Int32) (x17 : Int32) (x18 : Int32) (x19 : Int32) (x20 : Int32) (x21 : Int32) (S : zS) (Q : Option Value → zS → Prop) (h : zG o 970 mdL_law 616 [(0, .ref o.2.2.2.2.1), (1, .ref (z_adr o (0, 0, 0))), (2, .ref (z_adr o (23, 0, 0))), (3, .ref (z_adr o (24, 0, 0))), (5, .int x5), (6, .int x6), (7, .int x7), (8, .int x8), (9, .int x9), (16, .int x16), (17, .int x17), (18, .int x18), (19, .int x19), (20, .int x20), (21, .int (x21 + 1))] [] S Q) : zG o 970 mdL_law 647 [(0, .ref o.2.2.2.2.1), (1, .ref (z_adr o (0, 0, 0))), (2, .ref (z_adr o (23, 0, 0))), (3, .ref (z_adr o (24, 0, 0))), (5, .int x5), (6, .int x6), (7, .int x7), (8, .int x8), (9, .int x9), (16, .int x16), (17, .int x17), (18, .int x18), (19, .int x19), (20, .int x20), (21, .int x21)] [] S Q := by
  show zJ o mdL_law 647 _ [] (970, z_enc o S) 0 0 _
  refine zJ.iinc (pc := 647) (k := 14) (lv' := [(21, .int (x21 + 1)), (0, .ref o.2.2.2.2.1), (1, .ref (z_adr o (0, 0, 0))), (2, .ref (z_adr o (23, 0, 0))), (3, .ref (z_adr o (24, 0, 0))), (5, .int x5), (6, .int x6), (7, .int x7), (8, .int x8), (9, .int x9), (16, .int x16), (17, .int x17), (18, .int x18), (19, .int x19), (20, .int x20)]) dL_law_647 rfl rfl (Nat.le_of_ble_eq_true rfl) rfl ?_
  refine zJ.goto (pc := 650) (tgt := 616) dL_law_650 (by decide) ?_
  exact zJ.sub [1, 2, 3, 4, 5, 6, 7, 8, 9, 10, 11, 12, 13, 14, 0] rfl h
set_option maxRecDepth 100000 in
set_option maxHeartbeats 4000000 in
theorem w_L_law_669 (o : zW) (x5 : Int32) (x6 : Int32) (x7 : Int32) (x8 : Int32) (x9 : Int32) (x16 : Int32) (x17 : Int32) (x18 : Int32) (x19 : Int32) (x20 : Int32) (S : zS) (Q : Option Value → zS → Prop) (h : (¬ x19 = 3 → (zG o 970 mdL_law 685 [(0, .ref o.2.2.2.2.1), (1, .ref (z_adr o (0, 0, 0))), (2, .ref (z_adr o (23, 0, 0))), (3, .ref (z_adr o (24, 0, 0))), (5, .int x5), (6, .int x6), (7, .int x7), (8, .int x8), (9, .int x9), (16, .int x16), (17, .int (x17 + 0)), (18, .int x18), (19, .int x19), (20, .int x20)] [] S Q)) ∧ (x19 = 3 → (zG o 970 mdL_law 685 [(0, .ref o.2.2.2.2.1), (1, .ref (z_adr o (0, 0, 0))), (2, .ref (z_adr o (23, 0, 0))), (3, .ref (z_adr o (24, 0, 0))), (5, .int x5), (6, .int x6), (7, .int x7), (8, .int x8), (9, .int x9), (16, .int x16), (17, .int (x17 + 1)), (18, .int x18), (19, .int x19), (20, .int x20)] [] S Q))) : zG o 970 mdL_law 669 [(0, .ref o.2.2.2.2.1), (1, .ref (z_adr o (0, 0, 0))), (2, .ref (z_adr o (23, 0, 0))), (3, .ref (z_adr o (24, 0, 0))), (5, .int x5), (6, .int x6), (7, .int x7), (8, .int x8), (9, .int x9), (16, .int x16), (17, .int x17), (18, .int x18), (19, .int x19), (20, .int x20)] [] S Q := by
  show zJ o mdL_law 669 _ [] (970, z_enc o S) 0 0 _
  refine zJ.iload (pc := 669) 10 dL_law_669 rfl ?_
  refine zJ.iload (pc := 671) 12 dL_law_671 rfl ?_
  refine zJ.iconst (pc := 673) (v := 3) dL_law_673 (by decide) ?_
  refine zJ.icmp_ne (pc := 674) (tgt := 681) dL_law_674 (by decide) (fun c1 => ?_) (fun c1 => ?_)
  · replace h := h.1 c1
    refine zJ.iconst (pc := 681) (v := 0) dL_law_681 (by decide) ?_
    refine zJ.iadd (pc := 682) dL_law_682 ?_
    refine zJ.istore (pc := 683) (lv' := [(17, .int (x17 + 0)), (0, .ref o.2.2.2.2.1), (1, .ref (z_adr o (0, 0, 0))), (2, .ref (z_adr o (23, 0, 0))), (3, .ref (z_adr o (24, 0, 0))), (5, .int x5), (6, .int x6), (7, .int x7), (8, .int x8), (9, .int x9), (16, .int x16), (18, .int x18), (19, .int x19), (20, .int x20)]) dL_law_683 (Nat.le_of_ble_eq_true rfl) rfl ?_
    exact zJ.sub [1, 2, 3, 4, 5, 6, 7, 8, 9, 10, 0, 11, 12, 13] rfl h
  · replace h := h.2 c1
    refine zJ.iconst (pc := 677) (v := 1) dL_law_677 (by decide) ?_
    refine zJ.goto (pc := 678) (tgt := 682) dL_law_678 (by decide) ?_
    refine zJ.iadd (pc := 682) dL_law_682 ?_
    refine zJ.istore (pc := 683) (lv' := [(17, .int (x17 + 1)), (0, .ref o.2.2.2.2.1), (1, .ref (z_adr o (0, 0, 0))), (2, .ref (z_adr o (23, 0, 0))), (3, .ref (z_adr o (24, 0, 0))), (5, .int x5), (6, .int x6), (7, .int x7), (8, .int x8), (9, .int x9), (16, .int x16), (18, .int x18), (19, .int x19), (20, .int x20)]) dL_law_683 (Nat.le_of_ble_eq_true rfl) rfl ?_
    exact zJ.sub [1, 2, 3, 4, 5, 6, 7, 8, 9, 10, 0, 11, 12, 13] rfl h
set_option maxRecDepth 100000 in
set_option maxHeartbeats 4000000 in
theorem w_L_law_685 (o : zW) (x5 : Int32) (x6 : Int32) (x7 : Int32) (x8 : Int32) (x9 : Int32) (x16 : Int32) (x17 : Int32) (x18 : Int32) (x19 : Int32) (x20 : Int32) (S : zS) (Q : Option Value → zS → Prop) (h : (¬ x19 = 1 → ((¬ (¬ x20 = 0)) ∧ (zG o 970 mdL_law 708 [(0, .ref o.2.2.2.2.1), (1, .ref (z_adr o (0, 0, 0))), (2, .ref (z_adr o (23, 0, 0))), (3, .ref (z_adr o (24, 0, 0))), (4, .int 1), (5, .int x5), (6, .int x6), (7, .int x7), (8, .int x8), (9, .int x9), (16, .int x16), (17, .int x17), (18, .int x18), (19, .int x19)] [] S Q))) ∧ (x19 = 1 → ((¬ (¬ x20 = 1)) ∧ (zG o 970 mdL_law 708 [(0, .ref o.2.2.2.2.1), (1, .ref (z_adr o (0, 0, 0))), (2, .ref (z_adr o (23, 0, 0))), (3, .ref (z_adr o (24, 0, 0))), (4, .int 1), (5, .int x5), (6, .int x6), (7, .int x7), (8, .int x8), (9, .int x9), (16, .int x16), (17, .int x17), (18, .int x18), (19, .int x19)] [] S Q)))) : zG o 970 mdL_law 685 [(0, .ref o.2.2.2.2.1), (1, .ref (z_adr o (0, 0, 0))), (2, .ref (z_adr o (23, 0, 0))), (3, .ref (z_adr o (24, 0, 0))), (5, .int x5), (6, .int x6), (7, .int x7), (8, .int x8), (9, .int x9), (16, .int x16), (17, .int x17), (18, .int x18), (19, .int x19), (20, .int x20)] [] S Q := by
  show zJ o mdL_law 685 _ [] (970, z_enc o S) 0 0 _
  refine zJ.iload (pc := 685) 13 dL_law_685 rfl ?_
  refine zJ.iload (pc := 687) 12 dL_law_687 rfl ?_
  refine zJ.iconst (pc := 689) (v := 1) dL_law_689 (by decide) ?_
  refine zJ.icmp_ne (pc := 690) (tgt := 697) dL_law_690 (by decide) (fun c1 => ?_) (fun c1 => ?_)
  · replace h := h.1 c1
    refine zJ.iconst (pc := 697) (v := 0) dL_law_697 (by decide) ?_
    obtain ⟨cN, h⟩ := h
    refine zJ.icmp_ne (pc := 698) (tgt := 705) dL_law_698 (by decide) (fun c2 => absurd c2 cN) (fun _ => ?_)
    clear cN
    refine zJ.iconst (pc := 701) (v := 1) dL_law_701 (by decide) ?_
    refine zJ.goto (pc := 702) (tgt := 706) dL_law_702 (by decide) ?_
    refine zJ.istore (pc := 706) (lv' := [(4, .int 1), (0, .ref o.2.2.2.2.1), (1, .ref (z_adr o (0, 0, 0))), (2, .ref (z_adr o (23, 0, 0))), (3, .ref (z_adr o (24, 0, 0))), (5, .int x5), (6, .int x6), (7, .int x7), (8, .int x8), (9, .int x9), (16, .int x16), (17, .int x17), (18, .int x18), (19, .int x19), (20, .int x20)]) dL_law_706 (Nat.le_of_ble_eq_true rfl) rfl ?_
    exact zJ.sub [1, 2, 3, 4, 0, 5, 6, 7, 8, 9, 10, 11, 12, 13] rfl h
  · replace h := h.2 c1
    refine zJ.iconst (pc := 693) (v := 1) dL_law_693 (by decide) ?_
    refine zJ.goto (pc := 694) (tgt := 698) dL_law_694 (by decide) ?_
    obtain ⟨cN, h⟩ := h
    refine zJ.icmp_ne (pc := 698) (tgt := 705) dL_law_698 (by decide) (fun c3 => absurd c3 cN) (fun _ => ?_)
    clear cN
    refine zJ.iconst (pc := 701) (v := 1) dL_law_701 (by decide) ?_
    refine zJ.goto (pc := 702) (tgt := 706) dL_law_702 (by decide) ?_
    refine zJ.istore (pc := 706) (lv' := [(4, .int 1), (0, .ref o.2.2.2.2.1), (1, .ref (z_adr o (0, 0, 0))), (2, .ref (z_adr o (23, 0, 0))), (3, .ref (z_adr o (24, 0, 0))), (5, .int x5), (6, .int x6), (7, .int x7), (8, .int x8), (9, .int x9), (16, .int x16), (17, .int x17), (18, .int x18), (19, .int x19), (20, .int x20)]) dL_law_706 (Nat.le_of_ble_eq_true rfl) rfl ?_
    exact zJ.sub [1, 2, 3, 4, 0, 5, 6, 7, 8, 9, 10, 11, 12, 13] rfl h
set_option maxRecDepth 100000 in
set_option maxHeartbeats 4000000 in
theorem w_L_law_708 (o : zW) (x5 : Int32) (x6 : Int32) (x7 : Int32) (x8 : Int32) (x9 : Int32) (x16 : Int32) (x17 : Int32) (x18 : Int32) (x19 : Int32) (S : zS) (Q : Option Value → zS → Prop) (h : zG o 970 mdL_law 711 [(0, .ref o.2.2.2.2.1), (1, .ref (z_adr o (0, 0, 0))), (2, .ref (z_adr o (23, 0, 0))), (3, .ref (z_adr o (24, 0, 0))), (4, .int 1), (5, .int x5), (6, .int x6), (7, .int x7), (8, .int x8), (9, .int x9), (16, .int x16), (17, .int x17), (18, .int x18), (19, .int x19), (21, .int 0)] [] S Q) : zG o 970 mdL_law 708 [(0, .ref o.2.2.2.2.1), (1, .ref (z_adr o (0, 0, 0))), (2, .ref (z_adr o (23, 0, 0))), (3, .ref (z_adr o (24, 0, 0))), (4, .int 1), (5, .int x5), (6, .int x6), (7, .int x7), (8, .int x8), (9, .int x9), (16, .int x16), (17, .int x17), (18, .int x18), (19, .int x19)] [] S Q := by
  show zJ o mdL_law 708 _ [] (970, z_enc o S) 0 0 _
  refine zJ.iconst (pc := 708) (v := 0) dL_law_708 (by decide) ?_
  refine zJ.istore (pc := 709) (lv' := [(21, .int 0), (0, .ref o.2.2.2.2.1), (1, .ref (z_adr o (0, 0, 0))), (2, .ref (z_adr o (23, 0, 0))), (3, .ref (z_adr o (24, 0, 0))), (4, .int 1), (5, .int x5), (6, .int x6), (7, .int x7), (8, .int x8), (9, .int x9), (16, .int x16), (17, .int x17), (18, .int x18), (19, .int x19)]) dL_law_709 (Nat.le_of_ble_eq_true rfl) rfl ?_
  exact zJ.sub [1, 2, 3, 4, 5, 6, 7, 8, 9, 10, 11, 12, 13, 14, 0] rfl h
set_option maxRecDepth 100000 in
set_option maxHeartbeats 4000000 in
theorem w_L_law_711 (o : zW) (x5 : Int32) (x6 : Int32) (x7 : Int32) (x8 : Int32) (x9 : Int32) (x16 : Int32) (x17 : Int32) (x18 : Int32) (x19 : Int32) (x21 : Int32) (S : zS) (Q : Option Value → zS → Prop) (h : (4 ≤ x21 → (zG o 970 mdL_law 590 [(0, .ref o.2.2.2.2.1), (1, .ref (z_adr o (0, 0, 0))), (2, .ref (z_adr o (23, 0, 0))), (3, .ref (z_adr o (24, 0, 0))), (4, .int 1), (5, .int x5), (6, .int x6), (7, .int x7), (8, .int x8), (9, .int x9), (16, .int x16), (17, .int x17), (18, .int (x18 + 1))] [] S Q)) ∧ (¬ 4 ≤ x21 → (zGi o 970 mdX4_item [.ref (z_adr o (0, 0, 0)), .int x18, .int x21, .int 1] S (fun r4 S5 => vp_in ((4 * x18) + x21) 64 ∧ ((¬ (¬ r4 = (S5.1 (23, 0, 0) (((4 * x18) + x21).toNatClampNeg)))) ∧ ((x19 = 1 → (zGi o 970 mdX4_item [.ref (z_adr o (0, 0, 0)), .int x18, .int x21, .int 2] S5 (fun r9 S10 => (r9 = 1 → ((¬ x19 = 0 → (zG o 970 mdL_law 837 [(0, .ref o.2.2.2.2.1), (1, .ref (z_adr o (0, 0, 0))), (2, .ref (z_adr o (23, 0, 0))), (3, .ref (z_adr o (24, 0, 0))), (4, .int 1), (5, .int x5), (6, .int x6), (7, .int x7), (8, .int x8), (9, .int x9), (16, .int x16), (17, .int x17), (18, .int x18), (19, .int x19), (21, .int x21)] [] S10 Q)) ∧ (x19 = 0 → (zGi o 970 mdX4_item [.ref (z_adr o (0, 0, 0)), .int x18, .int x21, .int 0] S10 (fun r14 S15 => vp_in ((4 * x18) + x21) 64 ∧ ((¬ (¬ r14 = (S15.1 (23, 0, 0) (((4 * x18) + x21).toNatClampNeg)))) ∧ (zG o 970 mdL_law 837 [(0, .ref o.2.2.2.2.1), (1, .ref (z_adr o (0, 0, 0))), (2, .ref (z_adr o (23, 0, 0))), (3, .ref (z_adr o (24, 0, 0))), (4, .int 1), (5, .int x5), (6, .int x6), (7, .int x7), (8, .int x8), (9, .int x9), (16, .int x16), (17, .int x17), (18, .int x18), (19, .int x19), (21, .int x21)] [] S15 Q))))))) ∧ (¬ r9 = 1 → (zGi o 970 mdX4_item [.ref (z_adr o (0, 0, 0)), .int x18, .int x21, .int 0] S10 (fun r18 S19 => zGi o 970 mdX4_item [.ref (z_adr o (0, 0, 0)), .int x18, .int x21, .int 1] S19 (fun r21 S22 => (¬ (¬ r18 = r21)) ∧ ((¬ x19 = 0 → (zG o 970 mdL_law 837 [(0, .ref o.2.2.2.2.1), (1, .ref (z_adr o (0, 0, 0))), (2, .ref (z_adr o (23, 0, 0))), (3, .ref (z_adr o (24, 0, 0))), (4, .int 1), (5, .int x5), (6, .int x6), (7, .int x7), (8, .int x8), (9, .int x9), (16, .int x16), (17, .int x17), (18, .int x18), (19, .int x19), (21, .int x21)] [] S22 Q)) ∧ (x19 = 0 → (zGi o 970 mdX4_item [.ref (z_adr o (0, 0, 0)), .int x18, .int x21, .int 0] S22 (fun r26 S27 => vp_in ((4 * x18) + x21) 64 ∧ ((¬ (¬ r26 = (S27.1 (23, 0, 0) (((4 * x18) + x21).toNatClampNeg)))) ∧ (zG o 970 mdL_law 837 [(0, .ref o.2.2.2.2.1), (1, .ref (z_adr o (0, 0, 0))), (2, .ref (z_adr o (23, 0, 0))), (3, .ref (z_adr o (24, 0, 0))), (4, .int 1), (5, .int x5), (6, .int x6), (7, .int x7), (8, .int x8), (9, .int x9), (16, .int x16), (17, .int x17), (18, .int x18), (19, .int x19), (21, .int x21)] [] S27 Q))))))))))))) ∧ (¬ x19 = 1 → ((¬ x19 = 2 → (zGi o 970 mdX4_item [.ref (z_adr o (0, 0, 0)), .int x18, .int x21, .int 2] S5 (fun r31 S32 => (¬ (¬ r31 = 0)) ∧ ((¬ x19 = 0 → (zG o 970 mdL_law 837 [(0, .ref o.2.2.2.2.1), (1, .ref (z_adr o (0, 0, 0))), (2, .ref (z_adr o (23, 0, 0))), (3, .ref (z_adr o (24, 0, 0))), (4, .int 1), (5, .int x5), (6, .int x6), (7, .int x7), (8, .int x8), (9, .int x9), (16, .int x16), (17, .int x17), (18, .int x18), (19, .int x19), (21, .int x21)] [] S32 Q)) ∧ (x19 = 0 → (zGi o 970 mdX4_item [.ref (z_adr o (0, 0, 0)), .int x18, .int x21, .int 0] S32 (fun r36 S37 => vp_in ((4 * x18) + x21) 64 ∧ ((¬ (¬ r36 = (S37.1 (23, 0, 0) (((4 * x18) + x21).toNatClampNeg)))) ∧ (zG o 970 mdL_law 837 [(0, .ref o.2.2.2.2.1), (1, .ref (z_adr o (0, 0, 0))), (2, .ref (z_adr o (23, 0, 0))), (3, .ref (z_adr o (24, 0, 0))), (4, .int 1), (5, .int x5), (6, .int x6), (7, .int x7), (8, .int x8), (9, .int x9), (16, .int x16), (17, .int x17), (18, .int x18), (19, .int x19), (21, .int x21)] [] S37 Q))))))))) ∧ (x19 = 2 → (zGi o 970 mdX4_item [.ref (z_adr o (0, 0, 0)), .int x18, .int x21, .int 2] S5 (fun r40 S41 => (r40 = 1 → ((¬ x19 = 0 → (zG o 970 mdL_law 837 [(0, .ref o.2.2.2.2.1), (1, .ref (z_adr o (0, 0, 0))), (2, .ref (z_adr o (23, 0, 0))), (3, .ref (z_adr o (24, 0, 0))), (4, .int 1), (5, .int x5), (6, .int x6), (7, .int x7), (8, .int x8), (9, .int x9), (16, .int x16), (17, .int x17), (18, .int x18), (19, .int x19), (21, .int x21)] [] S41 Q)) ∧ (x19 = 0 → (zGi o 970 mdX4_item [.ref (z_adr o (0, 0, 0)), .int x18, .int x21, .int 0] S41 (fun r45 S46 => vp_in ((4 * x18) + x21) 64 ∧ ((¬ (¬ r45 = (S46.1 (23, 0, 0) (((4 * x18) + x21).toNatClampNeg)))) ∧ (zG o 970 mdL_law 837 [(0, .ref o.2.2.2.2.1), (1, .ref (z_adr o (0, 0, 0))), (2, .ref (z_adr o (23, 0, 0))), (3, .ref (z_adr o (24, 0, 0))), (4, .int 1), (5, .int x5), (6, .int x6), (7, .int x7), (8, .int x8), (9, .int x9), (16, .int x16), (17, .int x17), (18, .int x18), (19, .int x19), (21, .int x21)] [] S46 Q))))))) ∧ (¬ r40 = 1 → (zGi o 970 mdX4_item [.ref (z_adr o (0, 0, 0)), .int x18, .int x21, .int 0] S41 (fun r49 S50 => zGi o 970 mdX4_item [.ref (z_adr o (0, 0, 0)), .int x18, .int x21, .int 1] S50 (fun r52 S53 => (¬ (¬ r49 = r52)) ∧ ((¬ x19 = 0 → (zG o 970 mdL_law 837 [(0, .ref o.2.2.2.2.1), (1, .ref (z_adr o (0, 0, 0))), (2, .ref (z_adr o (23, 0, 0))), (3, .ref (z_adr o (24, 0, 0))), (4, .int 1), (5, .int x5), (6, .int x6), (7, .int x7), (8, .int x8), (9, .int x9), (16, .int x16), (17, .int x17), (18, .int x18), (19, .int x19), (21, .int x21)] [] S53 Q)) ∧ (x19 = 0 → (zGi o 970 mdX4_item [.ref (z_adr o (0, 0, 0)), .int x18, .int x21, .int 0] S53 (fun r57 S58 => vp_in ((4 * x18) + x21) 64 ∧ ((¬ (¬ r57 = (S58.1 (23, 0, 0) (((4 * x18) + x21).toNatClampNeg)))) ∧ (zG o 970 mdL_law 837 [(0, .ref o.2.2.2.2.1), (1, .ref (z_adr o (0, 0, 0))), (2, .ref (z_adr o (23, 0, 0))), (3, .ref (z_adr o (24, 0, 0))), (4, .int 1), (5, .int x5), (6, .int x6), (7, .int x7), (8, .int x8), (9, .int x9), (16, .int x16), (17, .int x17), (18, .int x18), (19, .int x19), (21, .int x21)] [] S58 Q))))))))))))))))))))) : zG o 970 mdL_law 711 [(0, .ref o.2.2.2.2.1), (1, .ref (z_adr o (0, 0, 0))), (2, .ref (z_adr o (23, 0, 0))), (3, .ref (z_adr o (24, 0, 0))), (4, .int 1), (5, .int x5), (6, .int x6), (7, .int x7), (8, .int x8), (9, .int x9), (16, .int x16), (17, .int x17), (18, .int x18), (19, .int x19), (21, .int x21)] [] S Q := by
  show zJ o mdL_law 711 _ [] (970, z_enc o S) 0 0 _
  refine zJ.iload (pc := 711) 14 dL_law_711 rfl ?_
  refine zJ.iconst (pc := 713) (v := 4) dL_law_713 (by decide) ?_
  refine zJ.icmp_ge (pc := 714) (tgt := 843) dL_law_714 (by decide) (fun c1 => ?_) (fun c1 => ?_)
  · replace h := h.1 c1
    refine zJ.iinc (pc := 843) (k := 12) (lv' := [(18, .int (x18 + 1)), (0, .ref o.2.2.2.2.1), (1, .ref (z_adr o (0, 0, 0))), (2, .ref (z_adr o (23, 0, 0))), (3, .ref (z_adr o (24, 0, 0))), (4, .int 1), (5, .int x5), (6, .int x6), (7, .int x7), (8, .int x8), (9, .int x9), (16, .int x16), (17, .int x17), (19, .int x19), (21, .int x21)]) dL_law_843 rfl rfl (Nat.le_of_ble_eq_true rfl) rfl ?_
    refine zJ.goto (pc := 846) (tgt := 590) dL_law_846 (by decide) ?_
    exact zJ.sub [1, 2, 3, 4, 5, 6, 7, 8, 9, 10, 11, 12, 0] rfl h
  · replace h := h.2 c1
    refine zJ.iload (pc := 717) 4 dL_law_717 rfl ?_
    refine zJ.if_eq (pc := 719) (tgt := 834) dL_law_719 (by decide) (fun c2 => absurd c2 (by decide)) (fun c2 => ?_)
    refine zJ.aload_n (pc := 722) 1 dL_law_722 rfl rfl ?_
    refine zJ.iload (pc := 723) 12 dL_law_723 rfl ?_
    refine zJ.iload (pc := 725) 14 dL_law_725 rfl ?_
    refine zJ.iconst (pc := 727) (v := 1) dL_law_727 (by decide) ?_
    refine zG.callVi (d := mdL_law) (pc := 728) [.int x18, .int x21, .int 1] [] (ob_0 o) ok_0 rfl dL_law_728 ⟨(cb_X4_item).1, (cb_X4_item).2, (Nat.le_of_ble_eq_true rfl), (Nat.le_of_ble_eq_true rfl)⟩ ml_L_89 ci_X4_item cv_X4_item rfl (Nat.le_of_ble_eq_true rfl) (Nat.le_of_ble_eq_true rfl) rfl h (fun r4 S5 h2 => ?_)
    replace h := h2
    clear h2
    refine zJ.aload_n (pc := 731) 2 dL_law_731 rfl rfl ?_
    refine zJ.iconst (pc := 732) (v := 4) dL_law_732 (by decide) ?_
    refine zJ.iload (pc := 733) 12 dL_law_733 rfl ?_
    refine zJ.imul (pc := 735) dL_law_735 ?_
    refine zJ.iload (pc := 736) 14 dL_law_736 rfl ?_
    refine zJ.iadd (pc := 738) dL_law_738 ?_
    obtain ⟨hq, h⟩ := h
    refine zE.aldI (pc := 739) (ia_23 o) ok_23 hq dL_law_739 ?_
    obtain ⟨cN, h⟩ := h
    refine zJ.icmp_ne (pc := 740) (tgt := 834) dL_law_740 (by decide) (fun c6 => absurd c6 cN) (fun _ => ?_)
    clear cN
    refine zJ.iload (pc := 743) 13 dL_law_743 rfl ?_
    refine zJ.iconst (pc := 745) (v := 1) dL_law_745 (by decide) ?_
    refine zJ.icmp_eq (pc := 746) (tgt := 755) dL_law_746 (by decide) (fun c7 => ?_) (fun c7 => ?_)
    · replace h := h.1 c7
      refine zJ.aload_n (pc := 755) 1 dL_law_755 rfl rfl ?_
      refine zJ.iload (pc := 756) 12 dL_law_756 rfl ?_
      refine zJ.iload (pc := 758) 14 dL_law_758 rfl ?_
      refine zJ.iconst (pc := 760) (v := 2) dL_law_760 (by decide) ?_
      refine zG.callVi (d := mdL_law) (pc := 761) [.int x18, .int x21, .int 2] [] (ob_0 o) ok_0 rfl dL_law_761 ⟨(cb_X4_item).1, (cb_X4_item).2, (Nat.le_of_ble_eq_true rfl), (Nat.le_of_ble_eq_true rfl)⟩ ml_L_89 ci_X4_item cv_X4_item rfl (Nat.le_of_ble_eq_true rfl) (Nat.le_of_ble_eq_true rfl) rfl h (fun r9 S10 h2 => ?_)
      replace h := h2
      clear h2
      refine zJ.iconst (pc := 764) (v := 1) dL_law_764 (by decide) ?_
      refine zJ.icmp_eq (pc := 765) (tgt := 804) dL_law_765 (by decide) (fun c11 => ?_) (fun c11 => ?_)
      · replace h := h.1 c11
        refine zJ.iload (pc := 804) 13 dL_law_804 rfl ?_
        refine zJ.if_ne (pc := 806) (tgt := 830) dL_law_806 (by decide) (fun c12 => ?_) (fun c12 => ?_)
        · replace h := h.1 c12
          refine zJ.iconst (pc := 830) (v := 1) dL_law_830 (by decide) ?_
          refine zJ.goto (pc := 831) (tgt := 835) dL_law_831 (by decide) ?_
          refine zJ.istore (pc := 835) (lv' := [(4, .int 1), (0, .ref o.2.2.2.2.1), (1, .ref (z_adr o (0, 0, 0))), (2, .ref (z_adr o (23, 0, 0))), (3, .ref (z_adr o (24, 0, 0))), (5, .int x5), (6, .int x6), (7, .int x7), (8, .int x8), (9, .int x9), (16, .int x16), (17, .int x17), (18, .int x18), (19, .int x19), (21, .int x21)]) dL_law_835 (Nat.le_of_ble_eq_true rfl) rfl ?_
          exact zJ.sub [1, 2, 3, 4, 0, 5, 6, 7, 8, 9, 10, 11, 12, 13, 14] rfl h
        · replace h := h.2 c12
          refine zJ.aload_n (pc := 809) 1 dL_law_809 rfl rfl ?_
          refine zJ.iload (pc := 810) 12 dL_law_810 rfl ?_
          refine zJ.iload (pc := 812) 14 dL_law_812 rfl ?_
          refine zJ.iconst (pc := 814) (v := 0) dL_law_814 (by decide) ?_
          refine zG.callVi (d := mdL_law) (pc := 815) [.int x18, .int x21, .int 0] [] (ob_0 o) ok_0 rfl dL_law_815 ⟨(cb_X4_item).1, (cb_X4_item).2, (Nat.le_of_ble_eq_true rfl), (Nat.le_of_ble_eq_true rfl)⟩ ml_L_89 ci_X4_item cv_X4_item rfl (Nat.le_of_ble_eq_true rfl) (Nat.le_of_ble_eq_true rfl) rfl h (fun r14 S15 h2 => ?_)
          replace h := h2
          clear h2
          refine zJ.aload_n (pc := 818) 2 dL_law_818 rfl rfl ?_
          refine zJ.iconst (pc := 819) (v := 4) dL_law_819 (by decide) ?_
          refine zJ.iload (pc := 820) 12 dL_law_820 rfl ?_
          refine zJ.imul (pc := 822) dL_law_822 ?_
          refine zJ.iload (pc := 823) 14 dL_law_823 rfl ?_
          refine zJ.iadd (pc := 825) dL_law_825 ?_
          obtain ⟨hq, h⟩ := h
          refine zE.aldI (pc := 826) (ia_23 o) ok_23 hq dL_law_826 ?_
          obtain ⟨cN, h⟩ := h
          refine zJ.icmp_ne (pc := 827) (tgt := 834) dL_law_827 (by decide) (fun c16 => absurd c16 cN) (fun _ => ?_)
          clear cN
          refine zJ.iconst (pc := 830) (v := 1) dL_law_830 (by decide) ?_
          refine zJ.goto (pc := 831) (tgt := 835) dL_law_831 (by decide) ?_
          refine zJ.istore (pc := 835) (lv' := [(4, .int 1), (0, .ref o.2.2.2.2.1), (1, .ref (z_adr o (0, 0, 0))), (2, .ref (z_adr o (23, 0, 0))), (3, .ref (z_adr o (24, 0, 0))), (5, .int x5), (6, .int x6), (7, .int x7), (8, .int x8), (9, .int x9), (16, .int x16), (17, .int x17), (18, .int x18), (19, .int x19), (21, .int x21)]) dL_law_835 (Nat.le_of_ble_eq_true rfl) rfl ?_
          exact zJ.sub [1, 2, 3, 4, 0, 5, 6, 7, 8, 9, 10, 11, 12, 13, 14] rfl h
      · replace h := h.2 c11
        refine zJ.aload_n (pc := 768) 1 dL_law_768 rfl rfl ?_
        refine zJ.iload (pc := 769) 12 dL_law_769 rfl ?_
        refine zJ.iload (pc := 771) 14 dL_law_771 rfl ?_
        refine zJ.iconst (pc := 773) (v := 0) dL_law_773 (by decide) ?_
        refine zG.callVi (d := mdL_law) (pc := 774) [.int x18, .int x21, .int 0] [] (ob_0 o) ok_0 rfl dL_law_774 ⟨(cb_X4_item).1, (cb_X4_item).2, (Nat.le_of_ble_eq_true rfl), (Nat.le_of_ble_eq_true rfl)⟩ ml_L_89 ci_X4_item cv_X4_item rfl (Nat.le_of_ble_eq_true rfl) (Nat.le_of_ble_eq_true rfl) rfl h (fun r18 S19 h2 => ?_)
        replace h := h2
        clear h2
        refine zJ.aload_n (pc := 777) 1 dL_law_777 rfl rfl ?_
        refine zJ.iload (pc := 778) 12 dL_law_778 rfl ?_
        refine zJ.iload (pc := 780) 14 dL_law_780 rfl ?_
        refine zJ.iconst (pc := 782) (v := 1) dL_law_782 (by decide) ?_
        refine zG.callVi (d := mdL_law) (pc := 783) [.int x18, .int x21, .int 1] [.int r18] (ob_0 o) ok_0 rfl dL_law_783 ⟨(cb_X4_item).1, (cb_X4_item).2, (Nat.le_of_ble_eq_true rfl), (Nat.le_of_ble_eq_true rfl)⟩ ml_L_89 ci_X4_item cv_X4_item rfl (Nat.le_of_ble_eq_true rfl) (Nat.le_of_ble_eq_true rfl) rfl h (fun r21 S22 h2 => ?_)
        replace h := h2
        clear h2
        obtain ⟨cN, h⟩ := h
        refine zJ.icmp_ne (pc := 786) (tgt := 834) dL_law_786 (by decide) (fun c23 => absurd c23 cN) (fun _ => ?_)
        clear cN
        refine zJ.goto (pc := 789) (tgt := 804) dL_law_789 (by decide) ?_
        refine zJ.iload (pc := 804) 13 dL_law_804 rfl ?_
        refine zJ.if_ne (pc := 806) (tgt := 830) dL_law_806 (by decide) (fun c24 => ?_) (fun c24 => ?_)
        · replace h := h.1 c24
          refine zJ.iconst (pc := 830) (v := 1) dL_law_830 (by decide) ?_
          refine zJ.goto (pc := 831) (tgt := 835) dL_law_831 (by decide) ?_
          refine zJ.istore (pc := 835) (lv' := [(4, .int 1), (0, .ref o.2.2.2.2.1), (1, .ref (z_adr o (0, 0, 0))), (2, .ref (z_adr o (23, 0, 0))), (3, .ref (z_adr o (24, 0, 0))), (5, .int x5), (6, .int x6), (7, .int x7), (8, .int x8), (9, .int x9), (16, .int x16), (17, .int x17), (18, .int x18), (19, .int x19), (21, .int x21)]) dL_law_835 (Nat.le_of_ble_eq_true rfl) rfl ?_
          exact zJ.sub [1, 2, 3, 4, 0, 5, 6, 7, 8, 9, 10, 11, 12, 13, 14] rfl h
        · replace h := h.2 c24
          refine zJ.aload_n (pc := 809) 1 dL_law_809 rfl rfl ?_
          refine zJ.iload (pc := 810) 12 dL_law_810 rfl ?_
          refine zJ.iload (pc := 812) 14 dL_law_812 rfl ?_
          refine zJ.iconst (pc := 814) (v := 0) dL_law_814 (by decide) ?_
          refine zG.callVi (d := mdL_law) (pc := 815) [.int x18, .int x21, .int 0] [] (ob_0 o) ok_0 rfl dL_law_815 ⟨(cb_X4_item).1, (cb_X4_item).2, (Nat.le_of_ble_eq_true rfl), (Nat.le_of_ble_eq_true rfl)⟩ ml_L_89 ci_X4_item cv_X4_item rfl (Nat.le_of_ble_eq_true rfl) (Nat.le_of_ble_eq_true rfl) rfl h (fun r26 S27 h2 => ?_)
          replace h := h2
          clear h2
          refine zJ.aload_n (pc := 818) 2 dL_law_818 rfl rfl ?_
          refine zJ.iconst (pc := 819) (v := 4) dL_law_819 (by decide) ?_
          refine zJ.iload (pc := 820) 12 dL_law_820 rfl ?_
          refine zJ.imul (pc := 822) dL_law_822 ?_
          refine zJ.iload (pc := 823) 14 dL_law_823 rfl ?_
          refine zJ.iadd (pc := 825) dL_law_825 ?_
          obtain ⟨hq, h⟩ := h
          refine zE.aldI (pc := 826) (ia_23 o) ok_23 hq dL_law_826 ?_
          obtain ⟨cN, h⟩ := h
          refine zJ.icmp_ne (pc := 827) (tgt := 834) dL_law_827 (by decide) (fun c28 => absurd c28 cN) (fun _ => ?_)
          clear cN
          refine zJ.iconst (pc := 830) (v := 1) dL_law_830 (by decide) ?_
          refine zJ.goto (pc := 831) (tgt := 835) dL_law_831 (by decide) ?_
          refine zJ.istore (pc := 835) (lv' := [(4, .int 1), (0, .ref o.2.2.2.2.1), (1, .ref (z_adr o (0, 0, 0))), (2, .ref (z_adr o (23, 0, 0))), (3, .ref (z_adr o (24, 0, 0))), (5, .int x5), (6, .int x6), (7, .int x7), (8, .int x8), (9, .int x9), (16, .int x16), (17, .int x17), (18, .int x18), (19, .int x19), (21, .int x21)]) dL_law_835 (Nat.le_of_ble_eq_true rfl) rfl ?_
          exact zJ.sub [1, 2, 3, 4, 0, 5, 6, 7, 8, 9, 10, 11, 12, 13, 14] rfl h
    · replace h := h.2 c7
      refine zJ.iload (pc := 749) 13 dL_law_749 rfl ?_
      refine zJ.iconst (pc := 751) (v := 2) dL_law_751 (by decide) ?_
      refine zJ.icmp_ne (pc := 752) (tgt := 792) dL_law_752 (by decide) (fun c29 => ?_) (fun c29 => ?_)
      · replace h := h.1 c29
        refine zJ.aload_n (pc := 792) 1 dL_law_792 rfl rfl ?_
        refine zJ.iload (pc := 793) 12 dL_law_793 rfl ?_
        refine zJ.iload (pc := 795) 14 dL_law_795 rfl ?_
        refine zJ.iconst (pc := 797) (v := 2) dL_law_797 (by decide) ?_
        refine zG.callVi (d := mdL_law) (pc := 798) [.int x18, .int x21, .int 2] [] (ob_0 o) ok_0 rfl dL_law_798 ⟨(cb_X4_item).1, (cb_X4_item).2, (Nat.le_of_ble_eq_true rfl), (Nat.le_of_ble_eq_true rfl)⟩ ml_L_89 ci_X4_item cv_X4_item rfl (Nat.le_of_ble_eq_true rfl) (Nat.le_of_ble_eq_true rfl) rfl h (fun r31 S32 h2 => ?_)
        replace h := h2
        clear h2
        obtain ⟨cN, h⟩ := h
        refine zJ.if_ne (pc := 801) (tgt := 834) dL_law_801 (by decide) (fun c33 => absurd c33 cN) (fun _ => ?_)
        clear cN
        refine zJ.iload (pc := 804) 13 dL_law_804 rfl ?_
        refine zJ.if_ne (pc := 806) (tgt := 830) dL_law_806 (by decide) (fun c34 => ?_) (fun c34 => ?_)
        · replace h := h.1 c34
          refine zJ.iconst (pc := 830) (v := 1) dL_law_830 (by decide) ?_
          refine zJ.goto (pc := 831) (tgt := 835) dL_law_831 (by decide) ?_
          refine zJ.istore (pc := 835) (lv' := [(4, .int 1), (0, .ref o.2.2.2.2.1), (1, .ref (z_adr o (0, 0, 0))), (2, .ref (z_adr o (23, 0, 0))), (3, .ref (z_adr o (24, 0, 0))), (5, .int x5), (6, .int x6), (7, .int x7), (8, .int x8), (9, .int x9), (16, .int x16), (17, .int x17), (18, .int x18), (19, .int x19), (21, .int x21)]) dL_law_835 (Nat.le_of_ble_eq_true rfl) rfl ?_
          exact zJ.sub [1, 2, 3, 4, 0, 5, 6, 7, 8, 9, 10, 11, 12, 13, 14] rfl h
        · replace h := h.2 c34
          refine zJ.aload_n (pc := 809) 1 dL_law_809 rfl rfl ?_
          refine zJ.iload (pc := 810) 12 dL_law_810 rfl ?_
          refine zJ.iload (pc := 812) 14 dL_law_812 rfl ?_
          refine zJ.iconst (pc := 814) (v := 0) dL_law_814 (by decide) ?_
          refine zG.callVi (d := mdL_law) (pc := 815) [.int x18, .int x21, .int 0] [] (ob_0 o) ok_0 rfl dL_law_815 ⟨(cb_X4_item).1, (cb_X4_item).2, (Nat.le_of_ble_eq_true rfl), (Nat.le_of_ble_eq_true rfl)⟩ ml_L_89 ci_X4_item cv_X4_item rfl (Nat.le_of_ble_eq_true rfl) (Nat.le_of_ble_eq_true rfl) rfl h (fun r36 S37 h2 => ?_)
          replace h := h2
          clear h2
          refine zJ.aload_n (pc := 818) 2 dL_law_818 rfl rfl ?_
          refine zJ.iconst (pc := 819) (v := 4) dL_law_819 (by decide) ?_
          refine zJ.iload (pc := 820) 12 dL_law_820 rfl ?_
          refine zJ.imul (pc := 822) dL_law_822 ?_
          refine zJ.iload (pc := 823) 14 dL_law_823 rfl ?_
          refine zJ.iadd (pc := 825) dL_law_825 ?_
          obtain ⟨hq, h⟩ := h
          refine zE.aldI (pc := 826) (ia_23 o) ok_23 hq dL_law_826 ?_
          obtain ⟨cN, h⟩ := h
          refine zJ.icmp_ne (pc := 827) (tgt := 834) dL_law_827 (by decide) (fun c38 => absurd c38 cN) (fun _ => ?_)
          clear cN
          refine zJ.iconst (pc := 830) (v := 1) dL_law_830 (by decide) ?_
          refine zJ.goto (pc := 831) (tgt := 835) dL_law_831 (by decide) ?_
          refine zJ.istore (pc := 835) (lv' := [(4, .int 1), (0, .ref o.2.2.2.2.1), (1, .ref (z_adr o (0, 0, 0))), (2, .ref (z_adr o (23, 0, 0))), (3, .ref (z_adr o (24, 0, 0))), (5, .int x5), (6, .int x6), (7, .int x7), (8, .int x8), (9, .int x9), (16, .int x16), (17, .int x17), (18, .int x18), (19, .int x19), (21, .int x21)]) dL_law_835 (Nat.le_of_ble_eq_true rfl) rfl ?_
          exact zJ.sub [1, 2, 3, 4, 0, 5, 6, 7, 8, 9, 10, 11, 12, 13, 14] rfl h
      · replace h := h.2 c29
        refine zJ.aload_n (pc := 755) 1 dL_law_755 rfl rfl ?_
        refine zJ.iload (pc := 756) 12 dL_law_756 rfl ?_
        refine zJ.iload (pc := 758) 14 dL_law_758 rfl ?_
        refine zJ.iconst (pc := 760) (v := 2) dL_law_760 (by decide) ?_
        refine zG.callVi (d := mdL_law) (pc := 761) [.int x18, .int x21, .int 2] [] (ob_0 o) ok_0 rfl dL_law_761 ⟨(cb_X4_item).1, (cb_X4_item).2, (Nat.le_of_ble_eq_true rfl), (Nat.le_of_ble_eq_true rfl)⟩ ml_L_89 ci_X4_item cv_X4_item rfl (Nat.le_of_ble_eq_true rfl) (Nat.le_of_ble_eq_true rfl) rfl h (fun r40 S41 h2 => ?_)
        replace h := h2
        clear h2
        refine zJ.iconst (pc := 764) (v := 1) dL_law_764 (by decide) ?_
        refine zJ.icmp_eq (pc := 765) (tgt := 804) dL_law_765 (by decide) (fun c42 => ?_) (fun c42 => ?_)
        · replace h := h.1 c42
          refine zJ.iload (pc := 804) 13 dL_law_804 rfl ?_
          refine zJ.if_ne (pc := 806) (tgt := 830) dL_law_806 (by decide) (fun c43 => ?_) (fun c43 => ?_)
          · replace h := h.1 c43
            refine zJ.iconst (pc := 830) (v := 1) dL_law_830 (by decide) ?_
            refine zJ.goto (pc := 831) (tgt := 835) dL_law_831 (by decide) ?_
            refine zJ.istore (pc := 835) (lv' := [(4, .int 1), (0, .ref o.2.2.2.2.1), (1, .ref (z_adr o (0, 0, 0))), (2, .ref (z_adr o (23, 0, 0))), (3, .ref (z_adr o (24, 0, 0))), (5, .int x5), (6, .int x6), (7, .int x7), (8, .int x8), (9, .int x9), (16, .int x16), (17, .int x17), (18, .int x18), (19, .int x19), (21, .int x21)]) dL_law_835 (Nat.le_of_ble_eq_true rfl) rfl ?_
            exact zJ.sub [1, 2, 3, 4, 0, 5, 6, 7, 8, 9, 10, 11, 12, 13, 14] rfl h
          · replace h := h.2 c43
            refine zJ.aload_n (pc := 809) 1 dL_law_809 rfl rfl ?_
            refine zJ.iload (pc := 810) 12 dL_law_810 rfl ?_
            refine zJ.iload (pc := 812) 14 dL_law_812 rfl ?_
            refine zJ.iconst (pc := 814) (v := 0) dL_law_814 (by decide) ?_
            refine zG.callVi (d := mdL_law) (pc := 815) [.int x18, .int x21, .int 0] [] (ob_0 o) ok_0 rfl dL_law_815 ⟨(cb_X4_item).1, (cb_X4_item).2, (Nat.le_of_ble_eq_true rfl), (Nat.le_of_ble_eq_true rfl)⟩ ml_L_89 ci_X4_item cv_X4_item rfl (Nat.le_of_ble_eq_true rfl) (Nat.le_of_ble_eq_true rfl) rfl h (fun r45 S46 h2 => ?_)
            replace h := h2
            clear h2
            refine zJ.aload_n (pc := 818) 2 dL_law_818 rfl rfl ?_
            refine zJ.iconst (pc := 819) (v := 4) dL_law_819 (by decide) ?_
            refine zJ.iload (pc := 820) 12 dL_law_820 rfl ?_
            refine zJ.imul (pc := 822) dL_law_822 ?_
            refine zJ.iload (pc := 823) 14 dL_law_823 rfl ?_
            refine zJ.iadd (pc := 825) dL_law_825 ?_
            obtain ⟨hq, h⟩ := h
            refine zE.aldI (pc := 826) (ia_23 o) ok_23 hq dL_law_826 ?_
            obtain ⟨cN, h⟩ := h
            refine zJ.icmp_ne (pc := 827) (tgt := 834) dL_law_827 (by decide) (fun c47 => absurd c47 cN) (fun _ => ?_)
            clear cN
            refine zJ.iconst (pc := 830) (v := 1) dL_law_830 (by decide) ?_
            refine zJ.goto (pc := 831) (tgt := 835) dL_law_831 (by decide) ?_
            refine zJ.istore (pc := 835) (lv' := [(4, .int 1), (0, .ref o.2.2.2.2.1), (1, .ref (z_adr o (0, 0, 0))), (2, .ref (z_adr o (23, 0, 0))), (3, .ref (z_adr o (24, 0, 0))), (5, .int x5), (6, .int x6), (7, .int x7), (8, .int x8), (9, .int x9), (16, .int x16), (17, .int x17), (18, .int x18), (19, .int x19), (21, .int x21)]) dL_law_835 (Nat.le_of_ble_eq_true rfl) rfl ?_
            exact zJ.sub [1, 2, 3, 4, 0, 5, 6, 7, 8, 9, 10, 11, 12, 13, 14] rfl h
        · replace h := h.2 c42
          refine zJ.aload_n (pc := 768) 1 dL_law_768 rfl rfl ?_
          refine zJ.iload (pc := 769) 12 dL_law_769 rfl ?_
          refine zJ.iload (pc := 771) 14 dL_law_771 rfl ?_
          refine zJ.iconst (pc := 773) (v := 0) dL_law_773 (by decide) ?_
          refine zG.callVi (d := mdL_law) (pc := 774) [.int x18, .int x21, .int 0] [] (ob_0 o) ok_0 rfl dL_law_774 ⟨(cb_X4_item).1, (cb_X4_item).2, (Nat.le_of_ble_eq_true rfl), (Nat.le_of_ble_eq_true rfl)⟩ ml_L_89 ci_X4_item cv_X4_item rfl (Nat.le_of_ble_eq_true rfl) (Nat.le_of_ble_eq_true rfl) rfl h (fun r49 S50 h2 => ?_)
          replace h := h2
          clear h2
          refine zJ.aload_n (pc := 777) 1 dL_law_777 rfl rfl ?_
          refine zJ.iload (pc := 778) 12 dL_law_778 rfl ?_
          refine zJ.iload (pc := 780) 14 dL_law_780 rfl ?_
          refine zJ.iconst (pc := 782) (v := 1) dL_law_782 (by decide) ?_
          refine zG.callVi (d := mdL_law) (pc := 783) [.int x18, .int x21, .int 1] [.int r49] (ob_0 o) ok_0 rfl dL_law_783 ⟨(cb_X4_item).1, (cb_X4_item).2, (Nat.le_of_ble_eq_true rfl), (Nat.le_of_ble_eq_true rfl)⟩ ml_L_89 ci_X4_item cv_X4_item rfl (Nat.le_of_ble_eq_true rfl) (Nat.le_of_ble_eq_true rfl) rfl h (fun r52 S53 h2 => ?_)
          replace h := h2
          clear h2
          obtain ⟨cN, h⟩ := h
          refine zJ.icmp_ne (pc := 786) (tgt := 834) dL_law_786 (by decide) (fun c54 => absurd c54 cN) (fun _ => ?_)
          clear cN
          refine zJ.goto (pc := 789) (tgt := 804) dL_law_789 (by decide) ?_
          refine zJ.iload (pc := 804) 13 dL_law_804 rfl ?_
          refine zJ.if_ne (pc := 806) (tgt := 830) dL_law_806 (by decide) (fun c55 => ?_) (fun c55 => ?_)
          · replace h := h.1 c55
            refine zJ.iconst (pc := 830) (v := 1) dL_law_830 (by decide) ?_
            refine zJ.goto (pc := 831) (tgt := 835) dL_law_831 (by decide) ?_
            refine zJ.istore (pc := 835) (lv' := [(4, .int 1), (0, .ref o.2.2.2.2.1), (1, .ref (z_adr o (0, 0, 0))), (2, .ref (z_adr o (23, 0, 0))), (3, .ref (z_adr o (24, 0, 0))), (5, .int x5), (6, .int x6), (7, .int x7), (8, .int x8), (9, .int x9), (16, .int x16), (17, .int x17), (18, .int x18), (19, .int x19), (21, .int x21)]) dL_law_835 (Nat.le_of_ble_eq_true rfl) rfl ?_
            exact zJ.sub [1, 2, 3, 4, 0, 5, 6, 7, 8, 9, 10, 11, 12, 13, 14] rfl h
          · replace h := h.2 c55
            refine zJ.aload_n (pc := 809) 1 dL_law_809 rfl rfl ?_
            refine zJ.iload (pc := 810) 12 dL_law_810 rfl ?_
            refine zJ.iload (pc := 812) 14 dL_law_812 rfl ?_
            refine zJ.iconst (pc := 814) (v := 0) dL_law_814 (by decide) ?_
            refine zG.callVi (d := mdL_law) (pc := 815) [.int x18, .int x21, .int 0] [] (ob_0 o) ok_0 rfl dL_law_815 ⟨(cb_X4_item).1, (cb_X4_item).2, (Nat.le_of_ble_eq_true rfl), (Nat.le_of_ble_eq_true rfl)⟩ ml_L_89 ci_X4_item cv_X4_item rfl (Nat.le_of_ble_eq_true rfl) (Nat.le_of_ble_eq_true rfl) rfl h (fun r57 S58 h2 => ?_)
            replace h := h2
            clear h2
            refine zJ.aload_n (pc := 818) 2 dL_law_818 rfl rfl ?_
            refine zJ.iconst (pc := 819) (v := 4) dL_law_819 (by decide) ?_
            refine zJ.iload (pc := 820) 12 dL_law_820 rfl ?_
            refine zJ.imul (pc := 822) dL_law_822 ?_
            refine zJ.iload (pc := 823) 14 dL_law_823 rfl ?_
            refine zJ.iadd (pc := 825) dL_law_825 ?_
            obtain ⟨hq, h⟩ := h
            refine zE.aldI (pc := 826) (ia_23 o) ok_23 hq dL_law_826 ?_
            obtain ⟨cN, h⟩ := h
            refine zJ.icmp_ne (pc := 827) (tgt := 834) dL_law_827 (by decide) (fun c59 => absurd c59 cN) (fun _ => ?_)
            clear cN
            refine zJ.iconst (pc := 830) (v := 1) dL_law_830 (by decide) ?_
            refine zJ.goto (pc := 831) (tgt := 835) dL_law_831 (by decide) ?_
            refine zJ.istore (pc := 835) (lv' := [(4, .int 1), (0, .ref o.2.2.2.2.1), (1, .ref (z_adr o (0, 0, 0))), (2, .ref (z_adr o (23, 0, 0))), (3, .ref (z_adr o (24, 0, 0))), (5, .int x5), (6, .int x6), (7, .int x7), (8, .int x8), (9, .int x9), (16, .int x16), (17, .int x17), (18, .int x18), (19, .int x19), (21, .int x21)]) dL_law_835 (Nat.le_of_ble_eq_true rfl) rfl ?_
            exact zJ.sub [1, 2, 3, 4, 0, 5, 6, 7, 8, 9, 10, 11, 12, 13, 14] rfl h
