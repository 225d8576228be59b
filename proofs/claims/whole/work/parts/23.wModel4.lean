set_option maxRecDepth 100000 in
set_option maxHeartbeats 4000000 in
theorem w_X5_often_0 (o : zW) (x1 : Int32) (S : zS) (Q : Option Value → zS → Prop) (h : zGi o 994 mdX5_in [.int x1, .int 0, .int 9] S (fun r2 S3 => (r2 = 0 → (zGi o 994 mdX5_bad [.ref (z_adr o (23, 0, 0))] S3 (fun r6 S7 => Q (some (.int r6)) S7))) ∧ (¬ r2 = 0 → (vp_in x1 10 ∧ (Q (some (.int (S3.1 (40, 0, 0) x1.toNatClampNeg))) S3))))) : zG o 994 mdX5_often 0 [(0, .ref (z_adr o (23, 0, 0))), (1, .int x1)] [] S Q := by
  show zJ o mdX5_often 0 _ [] (994, z_enc o S) 0 0 _
  refine zJ.iload_n (pc := 0) 1 dX5_often_0 rfl rfl ?_
  refine zJ.iconst (pc := 1) (v := 0) dX5_often_1 (by decide) ?_
  refine zJ.bipush (pc := 2) (v := 9) dX5_often_2 (by decide) ?_
  refine zG.callSi (d := mdX5_often) (pc := 4) [.int x1, .int 0, .int 9] [] dX5_often_4 ⟨(cb_X5_in).1, (cb_X5_in).2, (Nat.le_of_ble_eq_true rfl), (Nat.le_of_ble_eq_true rfl)⟩ ml_X5_101 cs_X5_in rfl (Nat.le_of_ble_eq_true rfl) (Nat.le_of_ble_eq_true rfl) rfl h (fun r2 S3 h2 => ?_)
  replace h := h2
  clear h2
  refine zJ.if_eq (pc := 7) (tgt := 19) dX5_often_7 (by decide) (fun c4 => ?_) (fun c4 => ?_)
  · replace h := h.1 c4
    refine zJ.aload_n (pc := 19) 0 dX5_often_19 rfl rfl ?_
    refine zG.callVi (d := mdX5_often) (pc := 20) [] [] (ob_23 o) ok_23 rfl dX5_often_20 ⟨(cb_X5_bad).1, (cb_X5_bad).2, (Nat.le_of_ble_eq_true rfl), (Nat.le_of_ble_eq_true rfl)⟩ ml_X5_130 ci_X5_bad cv_X5_bad rfl (Nat.le_of_ble_eq_true rfl) (Nat.le_of_ble_eq_true rfl) rfl h (fun r6 S7 h2 => ?_)
    replace h := h2
    clear h2
    exact zG.ret (pc := 23) (r := some (.int r6)) ⟨dX5_often_23, _, rfl, rfl⟩ h
  · replace h := h.2 c4
    refine zJ.aload_n (pc := 10) 0 dX5_often_10 rfl rfl ?_
    refine zE.getV (pc := 11) (fd_23_16 o) ok_23 kiX5 (Nat.le_of_ble_eq_true rfl) fl_X5_58 dX5_often_11 ?_
    refine zJ.iload_n (pc := 14) 1 dX5_often_14 rfl rfl ?_
    obtain ⟨hq, h⟩ := h
    refine zE.aldI (pc := 15) (ia_40 o) ok_40 hq dX5_often_15 ?_
    refine zJ.goto (pc := 16) (tgt := 23) dX5_often_16 (by decide) ?_
    exact zG.ret (pc := 23) (r := some (.int (S3.1 (40, 0, 0) x1.toNatClampNeg))) ⟨dX5_often_23, _, rfl, rfl⟩ h
set_option maxRecDepth 100000 in
set_option maxHeartbeats 4000000 in
theorem w_X5_where_0 (o : zW) (x1 : Int32) (S : zS) (Q : Option Value → zS → Prop) (h : zGi o 994 mdX5_isBox [.int x1] S (fun r2 S3 => (r2 = 0 → (zGi o 994 mdX5_bad [.ref (z_adr o (23, 0, 0))] S3 (fun r6 S7 => Q (some (.int r6)) S7))) ∧ (¬ r2 = 0 → (vp_in x1 16 ∧ (Q (some (.int (S3.1 (29, 0, 0) x1.toNatClampNeg))) S3))))) : zG o 994 mdX5_where 0 [(0, .ref (z_adr o (23, 0, 0))), (1, .int x1)] [] S Q := by
  show zJ o mdX5_where 0 _ [] (994, z_enc o S) 0 0 _
  refine zJ.iload_n (pc := 0) 1 dX5_where_0 rfl rfl ?_
  refine zG.callSi (d := mdX5_where) (pc := 1) [.int x1] [] dX5_where_1 ⟨(cb_X5_isBox).1, (cb_X5_isBox).2, (Nat.le_of_ble_eq_true rfl), (Nat.le_of_ble_eq_true rfl)⟩ ml_X5_196 cs_X5_isBox rfl (Nat.le_of_ble_eq_true rfl) (Nat.le_of_ble_eq_true rfl) rfl h (fun r2 S3 h2 => ?_)
  replace h := h2
  clear h2
  refine zJ.if_eq (pc := 4) (tgt := 16) dX5_where_4 (by decide) (fun c4 => ?_) (fun c4 => ?_)
  · replace h := h.1 c4
    refine zJ.aload_n (pc := 16) 0 dX5_where_16 rfl rfl ?_
    refine zG.callVi (d := mdX5_where) (pc := 17) [] [] (ob_23 o) ok_23 rfl dX5_where_17 ⟨(cb_X5_bad).1, (cb_X5_bad).2, (Nat.le_of_ble_eq_true rfl), (Nat.le_of_ble_eq_true rfl)⟩ ml_X5_130 ci_X5_bad cv_X5_bad rfl (Nat.le_of_ble_eq_true rfl) (Nat.le_of_ble_eq_true rfl) rfl h (fun r6 S7 h2 => ?_)
    replace h := h2
    clear h2
    exact zG.ret (pc := 20) (r := some (.int r6)) ⟨dX5_where_20, _, rfl, rfl⟩ h
  · replace h := h.2 c4
    refine zJ.aload_n (pc := 7) 0 dX5_where_7 rfl rfl ?_
    refine zE.getV (pc := 8) (fd_23_5 o) ok_23 kiX5 (Nat.le_of_ble_eq_true rfl) fl_X5_25 dX5_where_8 ?_
    refine zJ.iload_n (pc := 11) 1 dX5_where_11 rfl rfl ?_
    obtain ⟨hq, h⟩ := h
    refine zE.aldI (pc := 12) (ia_29 o) ok_29 hq dX5_where_12 ?_
    refine zJ.goto (pc := 13) (tgt := 20) dX5_where_13 (by decide) ?_
    exact zG.ret (pc := 20) (r := some (.int (S3.1 (29, 0, 0) x1.toNatClampNeg))) ⟨dX5_where_20, _, rfl, rfl⟩ h
set_option maxRecDepth 100000 in
set_option maxHeartbeats 4000000 in
theorem w_X5_atLast_0 (o : zW) (x1 : Int32) (x2 : Int32) (S : zS) (Q : Option Value → zS → Prop) (h : vp_in x1 16 ∧ (((S.1 (29, 0, 0) x1.toNatClampNeg) = 1 → (vp_in ((4 * x1) + x2) 64 ∧ (Q (some (.int (S.1 (27, 0, 0) (((4 * x1) + x2).toNatClampNeg)))) S))) ∧ (¬ (S.1 (29, 0, 0) x1.toNatClampNeg) = 1 → (vp_in x1 16 ∧ ((¬ (S.1 (29, 0, 0) x1.toNatClampNeg) = 2 → (vp_in ((4 * x1) + x2) 64 ∧ (zG o 994 mdX5_atLast 45 [(0, .ref (z_adr o (23, 0, 0))), (1, .int x1), (2, .int x2), (3, .int (S.1 (26, 0, 0) (((4 * x1) + x2).toNatClampNeg))), (4, .int 0)] [] S Q))) ∧ ((S.1 (29, 0, 0) x1.toNatClampNeg) = 2 → (vp_in ((4 * x1) + x2) 64 ∧ (Q (some (.int (S.1 (27, 0, 0) (((4 * x1) + x2).toNatClampNeg)))) S)))))))) : zG o 994 mdX5_atLast 0 [(0, .ref (z_adr o (23, 0, 0))), (1, .int x1), (2, .int x2)] [] S Q := by
  show zJ o mdX5_atLast 0 _ [] (994, z_enc o S) 0 0 _
  refine zJ.aload_n (pc := 0) 0 dX5_atLast_0 rfl rfl ?_
  refine zE.getV (pc := 1) (fd_23_5 o) ok_23 kiX5 (Nat.le_of_ble_eq_true rfl) fl_X5_25 dX5_atLast_1 ?_
  refine zJ.iload_n (pc := 4) 1 dX5_atLast_4 rfl rfl ?_
  obtain ⟨hq, h⟩ := h
  refine zE.aldI (pc := 5) (ia_29 o) ok_29 hq dX5_atLast_5 ?_
  refine zJ.iconst (pc := 6) (v := 1) dX5_atLast_6 (by decide) ?_
  refine zJ.icmp_eq (pc := 7) (tgt := 20) dX5_atLast_7 (by decide) (fun c1 => ?_) (fun c1 => ?_)
  · replace h := h.1 c1
    refine zJ.aload_n (pc := 20) 0 dX5_atLast_20 rfl rfl ?_
    refine zE.getV (pc := 21) (fd_23_3 o) ok_23 kiX5 (Nat.le_of_ble_eq_true rfl) fl_X5_19 dX5_atLast_21 ?_
    refine zJ.iconst (pc := 24) (v := 4) dX5_atLast_24 (by decide) ?_
    refine zJ.iload_n (pc := 25) 1 dX5_atLast_25 rfl rfl ?_
    refine zJ.imul (pc := 26) dX5_atLast_26 ?_
    refine zJ.iload_n (pc := 27) 2 dX5_atLast_27 rfl rfl ?_
    refine zJ.iadd (pc := 28) dX5_atLast_28 ?_
    obtain ⟨hq, h⟩ := h
    refine zE.aldI (pc := 29) (ia_27 o) ok_27 hq dX5_atLast_29 ?_
    exact zG.ret (pc := 30) (r := some (.int (S.1 (27, 0, 0) (((4 * x1) + x2).toNatClampNeg)))) ⟨dX5_atLast_30, _, rfl, rfl⟩ h
  · replace h := h.2 c1
    refine zJ.aload_n (pc := 10) 0 dX5_atLast_10 rfl rfl ?_
    refine zE.getV (pc := 11) (fd_23_5 o) ok_23 kiX5 (Nat.le_of_ble_eq_true rfl) fl_X5_25 dX5_atLast_11 ?_
    refine zJ.iload_n (pc := 14) 1 dX5_atLast_14 rfl rfl ?_
    obtain ⟨hq, h⟩ := h
    refine zE.aldI (pc := 15) (ia_29 o) ok_29 hq dX5_atLast_15 ?_
    refine zJ.iconst (pc := 16) (v := 2) dX5_atLast_16 (by decide) ?_
    refine zJ.icmp_ne (pc := 17) (tgt := 31) dX5_atLast_17 (by decide) (fun c2 => ?_) (fun c2 => ?_)
    · replace h := h.1 c2
      refine zJ.aload_n (pc := 31) 0 dX5_atLast_31 rfl rfl ?_
      refine zE.getV (pc := 32) (fd_23_2 o) ok_23 kiX5 (Nat.le_of_ble_eq_true rfl) fl_X5_16 dX5_atLast_32 ?_
      refine zJ.iconst (pc := 35) (v := 4) dX5_atLast_35 (by decide) ?_
      refine zJ.iload_n (pc := 36) 1 dX5_atLast_36 rfl rfl ?_
      refine zJ.imul (pc := 37) dX5_atLast_37 ?_
      refine zJ.iload_n (pc := 38) 2 dX5_atLast_38 rfl rfl ?_
      refine zJ.iadd (pc := 39) dX5_atLast_39 ?_
      obtain ⟨hq, h⟩ := h
      refine zE.aldI (pc := 40) (ia_26 o) ok_26 hq dX5_atLast_40 ?_
      refine zJ.istore_n (pc := 41) (lv' := [(3, .int (S.1 (26, 0, 0) (((4 * x1) + x2).toNatClampNeg))), (0, .ref (z_adr o (23, 0, 0))), (1, .int x1), (2, .int x2)]) dX5_atLast_41 rfl (Nat.le_of_ble_eq_true rfl) rfl ?_
      refine zJ.iconst (pc := 42) (v := 0) dX5_atLast_42 (by decide) ?_
      refine zJ.istore (pc := 43) (lv' := [(4, .int 0), (3, .int (S.1 (26, 0, 0) (((4 * x1) + x2).toNatClampNeg))), (0, .ref (z_adr o (23, 0, 0))), (1, .int x1), (2, .int x2)]) dX5_atLast_43 (Nat.le_of_ble_eq_true rfl) rfl ?_
      exact zJ.sub [2, 3, 4, 1, 0] rfl h
    · replace h := h.2 c2
      refine zJ.aload_n (pc := 20) 0 dX5_atLast_20 rfl rfl ?_
      refine zE.getV (pc := 21) (fd_23_3 o) ok_23 kiX5 (Nat.le_of_ble_eq_true rfl) fl_X5_19 dX5_atLast_21 ?_
      refine zJ.iconst (pc := 24) (v := 4) dX5_atLast_24 (by decide) ?_
      refine zJ.iload_n (pc := 25) 1 dX5_atLast_25 rfl rfl ?_
      refine zJ.imul (pc := 26) dX5_atLast_26 ?_
      refine zJ.iload_n (pc := 27) 2 dX5_atLast_27 rfl rfl ?_
      refine zJ.iadd (pc := 28) dX5_atLast_28 ?_
      obtain ⟨hq, h⟩ := h
      refine zE.aldI (pc := 29) (ia_27 o) ok_27 hq dX5_atLast_29 ?_
      exact zG.ret (pc := 30) (r := some (.int (S.1 (27, 0, 0) (((4 * x1) + x2).toNatClampNeg)))) ⟨dX5_atLast_30, _, rfl, rfl⟩ h
set_option maxRecDepth 100000 in
set_option maxHeartbeats 4000000 in
theorem w_X5_atLast_45 (o : zW) (x1 : Int32) (x2 : Int32) (x3 : Int32) (x4 : Int32) (S : zS) (Q : Option Value → zS → Prop) (h : vp_in x1 16 ∧ (((S.1 (34, 0, 0) x1.toNatClampNeg) ≤ x4 → (Q (some (.int x3)) S)) ∧ (¬ (S.1 (34, 0, 0) x1.toNatClampNeg) ≤ x4 → (vp_in ((4 * x1) + x4) 64 ∧ ((¬ (S.1 (38, 0, 0) (((4 * x1) + x4).toNatClampNeg)) = (-1) → (zG o 994 mdX5_atLast 45 [(0, .ref (z_adr o (23, 0, 0))), (1, .int x1), (2, .int x2), (3, .int x3), (4, .int (x4 + 1))] [] S Q)) ∧ ((S.1 (38, 0, 0) (((4 * x1) + x4).toNatClampNeg)) = (-1) → (vp_in ((4 * x1) + x4) 64 ∧ ((¬ (S.1 (35, 0, 0) (((4 * x1) + x4).toNatClampNeg)) = x2 → (zG o 994 mdX5_atLast 45 [(0, .ref (z_adr o (23, 0, 0))), (1, .int x1), (2, .int x2), (3, .int x3), (4, .int (x4 + 1))] [] S Q)) ∧ ((S.1 (35, 0, 0) (((4 * x1) + x4).toNatClampNeg)) = x2 → (vp_in ((4 * x1) + x4) 64 ∧ (zG o 994 mdX5_atLast 45 [(0, .ref (z_adr o (23, 0, 0))), (1, .int x1), (2, .int x2), (3, .int (S.1 (36, 0, 0) (((4 * x1) + x4).toNatClampNeg))), (4, .int (x4 + 1))] [] S Q))))))))))) : zG o 994 mdX5_atLast 45 [(0, .ref (z_adr o (23, 0, 0))), (1, .int x1), (2, .int x2), (3, .int x3), (4, .int x4)] [] S Q := by
  show zJ o mdX5_atLast 45 _ [] (994, z_enc o S) 0 0 _
  refine zJ.iload (pc := 45) 4 dX5_atLast_45 rfl ?_
  refine zJ.aload_n (pc := 47) 0 dX5_atLast_47 rfl rfl ?_
  refine zE.getV (pc := 48) (fd_23_10 o) ok_23 kiX5 (Nat.le_of_ble_eq_true rfl) fl_X5_40 dX5_atLast_48 ?_
  refine zJ.iload_n (pc := 51) 1 dX5_atLast_51 rfl rfl ?_
  obtain ⟨hq, h⟩ := h
  refine zE.aldI (pc := 52) (ia_34 o) ok_34 hq dX5_atLast_52 ?_
  refine zJ.icmp_ge (pc := 53) (tgt := 104) dX5_atLast_53 (by decide) (fun c1 => ?_) (fun c1 => ?_)
  · replace h := h.1 c1
    refine zJ.iload_n (pc := 104) 3 dX5_atLast_104 rfl rfl ?_
    exact zG.ret (pc := 105) (r := some (.int x3)) ⟨dX5_atLast_105, _, rfl, rfl⟩ h
  · replace h := h.2 c1
    refine zJ.iconst (pc := 56) (v := 4) dX5_atLast_56 (by decide) ?_
    refine zJ.iload_n (pc := 57) 1 dX5_atLast_57 rfl rfl ?_
    refine zJ.imul (pc := 58) dX5_atLast_58 ?_
    refine zJ.iload (pc := 59) 4 dX5_atLast_59 rfl ?_
    refine zJ.iadd (pc := 61) dX5_atLast_61 ?_
    refine zJ.istore (pc := 62) (lv' := [(5, .int ((4 * x1) + x4)), (0, .ref (z_adr o (23, 0, 0))), (1, .int x1), (2, .int x2), (3, .int x3), (4, .int x4)]) dX5_atLast_62 (Nat.le_of_ble_eq_true rfl) rfl ?_
    refine zJ.aload_n (pc := 64) 1 dX5_atLast_64 rfl rfl ?_
    refine zE.getV (pc := 65) (fd_23_14 o) ok_23 kiX5 (Nat.le_of_ble_eq_true rfl) fl_X5_52 dX5_atLast_65 ?_
    refine zJ.iload (pc := 68) 0 dX5_atLast_68 rfl ?_
    obtain ⟨hq, h⟩ := h
    refine zE.aldI (pc := 70) (ia_38 o) ok_38 hq dX5_atLast_70 ?_
    refine zJ.iconst (pc := 71) (v := (-1)) dX5_atLast_71 (by decide) ?_
    refine zJ.icmp_ne (pc := 72) (tgt := 96) dX5_atLast_72 (by decide) (fun c2 => ?_) (fun c2 => ?_)
    · replace h := h.1 c2
      refine zJ.iload_n (pc := 96) 4 dX5_atLast_96 rfl rfl ?_
      refine zJ.istore_n (pc := 97) (lv' := [(3, .int x3), (5, .int ((4 * x1) + x4)), (0, .ref (z_adr o (23, 0, 0))), (1, .int x1), (2, .int x2), (4, .int x4)]) dX5_atLast_97 rfl (Nat.le_of_ble_eq_true rfl) rfl ?_
      refine zJ.iinc (pc := 98) (k := 5) (lv' := [(4, .int (x4 + 1)), (3, .int x3), (5, .int ((4 * x1) + x4)), (0, .ref (z_adr o (23, 0, 0))), (1, .int x1), (2, .int x2)]) dX5_atLast_98 rfl rfl (Nat.le_of_ble_eq_true rfl) rfl ?_
      refine zJ.goto (pc := 101) (tgt := 45) dX5_atLast_101 (by decide) ?_
      exact zJ.sub [3, 4, 5, 1, 0] rfl h
    · replace h := h.2 c2
      refine zJ.aload_n (pc := 75) 1 dX5_atLast_75 rfl rfl ?_
      refine zE.getV (pc := 76) (fd_23_11 o) ok_23 kiX5 (Nat.le_of_ble_eq_true rfl) fl_X5_43 dX5_atLast_76 ?_
      refine zJ.iload (pc := 79) 0 dX5_atLast_79 rfl ?_
      obtain ⟨hq, h⟩ := h
      refine zE.aldI (pc := 81) (ia_35 o) ok_35 hq dX5_atLast_81 ?_
      refine zJ.iload_n (pc := 82) 3 dX5_atLast_82 rfl rfl ?_
      refine zJ.icmp_ne (pc := 83) (tgt := 96) dX5_atLast_83 (by decide) (fun c3 => ?_) (fun c3 => ?_)
      · replace h := h.1 c3
        refine zJ.iload_n (pc := 96) 4 dX5_atLast_96 rfl rfl ?_
        refine zJ.istore_n (pc := 97) (lv' := [(3, .int x3), (5, .int ((4 * x1) + x4)), (0, .ref (z_adr o (23, 0, 0))), (1, .int x1), (2, .int x2), (4, .int x4)]) dX5_atLast_97 rfl (Nat.le_of_ble_eq_true rfl) rfl ?_
        refine zJ.iinc (pc := 98) (k := 5) (lv' := [(4, .int (x4 + 1)), (3, .int x3), (5, .int ((4 * x1) + x4)), (0, .ref (z_adr o (23, 0, 0))), (1, .int x1), (2, .int x2)]) dX5_atLast_98 rfl rfl (Nat.le_of_ble_eq_true rfl) rfl ?_
        refine zJ.goto (pc := 101) (tgt := 45) dX5_atLast_101 (by decide) ?_
        exact zJ.sub [3, 4, 5, 1, 0] rfl h
      · replace h := h.2 c3
        refine zJ.aload_n (pc := 86) 1 dX5_atLast_86 rfl rfl ?_
        refine zE.getV (pc := 87) (fd_23_12 o) ok_23 kiX5 (Nat.le_of_ble_eq_true rfl) fl_X5_46 dX5_atLast_87 ?_
        refine zJ.iload (pc := 90) 0 dX5_atLast_90 rfl ?_
        obtain ⟨hq, h⟩ := h
        refine zE.aldI (pc := 92) (ia_36 o) ok_36 hq dX5_atLast_92 ?_
        refine zJ.goto (pc := 93) (tgt := 97) dX5_atLast_93 (by decide) ?_
        refine zJ.istore_n (pc := 97) (lv' := [(3, .int (S.1 (36, 0, 0) (((4 * x1) + x4).toNatClampNeg))), (5, .int ((4 * x1) + x4)), (0, .ref (z_adr o (23, 0, 0))), (1, .int x1), (2, .int x2), (4, .int x4)]) dX5_atLast_97 rfl (Nat.le_of_ble_eq_true rfl) rfl ?_
        refine zJ.iinc (pc := 98) (k := 5) (lv' := [(4, .int (x4 + 1)), (3, .int (S.1 (36, 0, 0) (((4 * x1) + x4).toNatClampNeg))), (5, .int ((4 * x1) + x4)), (0, .ref (z_adr o (23, 0, 0))), (1, .int x1), (2, .int x2)]) dX5_atLast_98 rfl rfl (Nat.le_of_ble_eq_true rfl) rfl ?_
        refine zJ.goto (pc := 101) (tgt := 45) dX5_atLast_101 (by decide) ?_
        exact zJ.sub [3, 4, 5, 1, 0] rfl h
set_option maxRecDepth 100000 in
set_option maxHeartbeats 4000000 in
theorem w_X5_item_0 (o : zW) (x1 : Int32) (x2 : Int32) (x3 : Int32) (S : zS) (Q : Option Value → zS → Prop) (h : zGi o 994 mdX5_isBox [.int x1] S (fun r2 S3 => (r2 = 0 → (zGi o 994 mdX5_bad [.ref (z_adr o (23, 0, 0))] S3 (fun r6 S7 => Q (some (.int r6)) S7))) ∧ (¬ r2 = 0 → (zGi o 994 mdX5_isItem [.int x2] S3 (fun r9 S10 => (r9 = 0 → (zGi o 994 mdX5_bad [.ref (z_adr o (23, 0, 0))] S10 (fun r13 S14 => Q (some (.int r13)) S14))) ∧ (¬ r9 = 0 → (zGi o 994 mdX5_in [.int x3, .int 0, .int 2] S10 (fun r16 S17 => (¬ r16 = 0 → (vp_in x1 16 ∧ (((S17.1 (29, 0, 0) x1.toNatClampNeg) = 1 → ((¬ x3 = 0 → ((¬ x3 = 1 → (vp_in x1 16 ∧ (Q (some (.int (((S17.1 (28, 0, 0) x1.toNatClampNeg) >>> (x2 &&& 31)) &&& 1))) S17))) ∧ (x3 = 1 → (zGi o 994 mdX5_atLast [.ref (z_adr o (23, 0, 0)), .int x1, .int x2] S17 (fun r24 S25 => Q (some (.int r24)) S25))))) ∧ (x3 = 0 → (vp_in ((4 * x1) + x2) 64 ∧ (Q (some (.int (S17.1 (26, 0, 0) (((4 * x1) + x2).toNatClampNeg)))) S17))))) ∧ (¬ (S17.1 (29, 0, 0) x1.toNatClampNeg) = 1 → (vp_in x1 16 ∧ ((¬ (S17.1 (29, 0, 0) x1.toNatClampNeg) = 2 → ((¬ x3 = 0 → ((¬ x3 = 1 → (Q (some (.int 0)) S17)) ∧ (x3 = 1 → (zGi o 994 mdX5_atLast [.ref (z_adr o (23, 0, 0)), .int x1, .int x2] S17 (fun r31 S32 => Q (some (.int r31)) S32))))) ∧ (x3 = 0 → (vp_in ((4 * x1) + x2) 64 ∧ (Q (some (.int (S17.1 (26, 0, 0) (((4 * x1) + x2).toNatClampNeg)))) S17))))) ∧ ((S17.1 (29, 0, 0) x1.toNatClampNeg) = 2 → ((¬ x3 = 0 → ((¬ x3 = 1 → (vp_in x1 16 ∧ (Q (some (.int (((S17.1 (28, 0, 0) x1.toNatClampNeg) >>> (x2 &&& 31)) &&& 1))) S17))) ∧ (x3 = 1 → (zGi o 994 mdX5_atLast [.ref (z_adr o (23, 0, 0)), .int x1, .int x2] S17 (fun r37 S38 => Q (some (.int r37)) S38))))) ∧ (x3 = 0 → (vp_in ((4 * x1) + x2) 64 ∧ (Q (some (.int (S17.1 (26, 0, 0) (((4 * x1) + x2).toNatClampNeg)))) S17))))))))))) ∧ (r16 = 0 → (zGi o 994 mdX5_bad [.ref (z_adr o (23, 0, 0))] S17 (fun r40 S41 => Q (some (.int r40)) S41))))))))))) : zG o 994 mdX5_item 0 [(0, .ref (z_adr o (23, 0, 0))), (1, .int x1), (2, .int x2), (3, .int x3)] [] S Q := by
  show zJ o mdX5_item 0 _ [] (994, z_enc o S) 0 0 _
  refine zJ.iload_n (pc := 0) 1 dX5_item_0 rfl rfl ?_
  refine zG.callSi (d := mdX5_item) (pc := 1) [.int x1] [] dX5_item_1 ⟨(cb_X5_isBox).1, (cb_X5_isBox).2, (Nat.le_of_ble_eq_true rfl), (Nat.le_of_ble_eq_true rfl)⟩ ml_X5_196 cs_X5_isBox rfl (Nat.le_of_ble_eq_true rfl) (Nat.le_of_ble_eq_true rfl) rfl h (fun r2 S3 h2 => ?_)
  replace h := h2
  clear h2
  refine zJ.if_eq (pc := 4) (tgt := 23) dX5_item_4 (by decide) (fun c4 => ?_) (fun c4 => ?_)
  · replace h := h.1 c4
    refine zJ.aload_n (pc := 23) 0 dX5_item_23 rfl rfl ?_
    refine zG.callVi (d := mdX5_item) (pc := 24) [] [] (ob_23 o) ok_23 rfl dX5_item_24 ⟨(cb_X5_bad).1, (cb_X5_bad).2, (Nat.le_of_ble_eq_true rfl), (Nat.le_of_ble_eq_true rfl)⟩ ml_X5_130 ci_X5_bad cv_X5_bad rfl (Nat.le_of_ble_eq_true rfl) (Nat.le_of_ble_eq_true rfl) rfl h (fun r6 S7 h2 => ?_)
    replace h := h2
    clear h2
    exact zG.ret (pc := 27) (r := some (.int r6)) ⟨dX5_item_27, _, rfl, rfl⟩ h
  · replace h := h.2 c4
    refine zJ.iload_n (pc := 7) 2 dX5_item_7 rfl rfl ?_
    refine zG.callSi (d := mdX5_item) (pc := 8) [.int x2] [] dX5_item_8 ⟨(cb_X5_isItem).1, (cb_X5_isItem).2, (Nat.le_of_ble_eq_true rfl), (Nat.le_of_ble_eq_true rfl)⟩ ml_X5_200 cs_X5_isItem rfl (Nat.le_of_ble_eq_true rfl) (Nat.le_of_ble_eq_true rfl) rfl h (fun r9 S10 h2 => ?_)
    replace h := h2
    clear h2
    refine zJ.if_eq (pc := 11) (tgt := 23) dX5_item_11 (by decide) (fun c11 => ?_) (fun c11 => ?_)
    · replace h := h.1 c11
      refine zJ.aload_n (pc := 23) 0 dX5_item_23 rfl rfl ?_
      refine zG.callVi (d := mdX5_item) (pc := 24) [] [] (ob_23 o) ok_23 rfl dX5_item_24 ⟨(cb_X5_bad).1, (cb_X5_bad).2, (Nat.le_of_ble_eq_true rfl), (Nat.le_of_ble_eq_true rfl)⟩ ml_X5_130 ci_X5_bad cv_X5_bad rfl (Nat.le_of_ble_eq_true rfl) (Nat.le_of_ble_eq_true rfl) rfl h (fun r13 S14 h2 => ?_)
      replace h := h2
      clear h2
      exact zG.ret (pc := 27) (r := some (.int r13)) ⟨dX5_item_27, _, rfl, rfl⟩ h
    · replace h := h.2 c11
      refine zJ.iload_n (pc := 14) 3 dX5_item_14 rfl rfl ?_
      refine zJ.iconst (pc := 15) (v := 0) dX5_item_15 (by decide) ?_
      refine zJ.iconst (pc := 16) (v := 2) dX5_item_16 (by decide) ?_
      refine zG.callSi (d := mdX5_item) (pc := 17) [.int x3, .int 0, .int 2] [] dX5_item_17 ⟨(cb_X5_in).1, (cb_X5_in).2, (Nat.le_of_ble_eq_true rfl), (Nat.le_of_ble_eq_true rfl)⟩ ml_X5_101 cs_X5_in rfl (Nat.le_of_ble_eq_true rfl) (Nat.le_of_ble_eq_true rfl) rfl h (fun r16 S17 h2 => ?_)
      replace h := h2
      clear h2
      refine zJ.if_ne (pc := 20) (tgt := 28) dX5_item_20 (by decide) (fun c18 => ?_) (fun c18 => ?_)
      · replace h := h.1 c18
        refine zJ.aload_n (pc := 28) 0 dX5_item_28 rfl rfl ?_
        refine zE.getV (pc := 29) (fd_23_5 o) ok_23 kiX5 (Nat.le_of_ble_eq_true rfl) fl_X5_25 dX5_item_29 ?_
        refine zJ.iload_n (pc := 32) 1 dX5_item_32 rfl rfl ?_
        obtain ⟨hq, h⟩ := h
        refine zE.aldI (pc := 33) (ia_29 o) ok_29 hq dX5_item_33 ?_
        refine zJ.iconst (pc := 34) (v := 1) dX5_item_34 (by decide) ?_
        refine zJ.icmp_eq (pc := 35) (tgt := 48) dX5_item_35 (by decide) (fun c19 => ?_) (fun c19 => ?_)
        · replace h := h.1 c19
          refine zJ.iconst (pc := 48) (v := 1) dX5_item_48 (by decide) ?_
          refine zJ.goto (pc := 49) (tgt := 53) dX5_item_49 (by decide) ?_
          refine zJ.istore (pc := 53) (lv' := [(4, .int 1), (0, .ref (z_adr o (23, 0, 0))), (1, .int x1), (2, .int x2), (3, .int x3)]) dX5_item_53 (Nat.le_of_ble_eq_true rfl) rfl ?_
          refine zJ.iload_n (pc := 55) 4 dX5_item_55 rfl rfl ?_
          refine zJ.if_ne (pc := 56) (tgt := 72) dX5_item_56 (by decide) (fun c20 => ?_) (fun c20 => ?_)
          · replace h := h.1 c20
            refine zJ.iload_n (pc := 72) 4 dX5_item_72 rfl rfl ?_
            refine zJ.iconst (pc := 73) (v := 1) dX5_item_73 (by decide) ?_
            refine zJ.icmp_ne (pc := 74) (tgt := 86) dX5_item_74 (by decide) (fun c21 => ?_) (fun c21 => ?_)
            · replace h := h.1 c21
              refine zJ.iload (pc := 86) 0 dX5_item_86 rfl ?_
              refine zJ.if_eq (pc := 88) (tgt := 104) dX5_item_88 (by decide) (fun c22 => absurd c22 (by decide)) (fun c22 => ?_)
              refine zJ.aload_n (pc := 91) 1 dX5_item_91 rfl rfl ?_
              refine zE.getV (pc := 92) (fd_23_4 o) ok_23 kiX5 (Nat.le_of_ble_eq_true rfl) fl_X5_22 dX5_item_92 ?_
              refine zJ.iload_n (pc := 95) 2 dX5_item_95 rfl rfl ?_
              obtain ⟨hq, h⟩ := h
              refine zE.aldI (pc := 96) (ia_28 o) ok_28 hq dX5_item_96 ?_
              refine zJ.iload_n (pc := 97) 3 dX5_item_97 rfl rfl ?_
              refine zJ.ishr (pc := 98) dX5_item_98 ?_
              refine zJ.iconst (pc := 99) (v := 1) dX5_item_99 (by decide) ?_
              refine zJ.iand (pc := 100) dX5_item_100 ?_
              refine zJ.goto (pc := 101) (tgt := 105) dX5_item_101 (by decide) ?_
              exact zG.ret (pc := 105) (r := some (.int (((S17.1 (28, 0, 0) x1.toNatClampNeg) >>> (x2 &&& 31)) &&& 1))) ⟨dX5_item_105, _, rfl, rfl⟩ h
            · replace h := h.2 c21
              refine zJ.aload_n (pc := 77) 1 dX5_item_77 rfl rfl ?_
              refine zJ.iload_n (pc := 78) 2 dX5_item_78 rfl rfl ?_
              refine zJ.iload_n (pc := 79) 3 dX5_item_79 rfl rfl ?_
              refine zG.callVi (d := mdX5_item) (pc := 80) [.int x1, .int x2] [] (ob_23 o) ok_23 rfl dX5_item_80 ⟨(cb_X5_atLast).1, (cb_X5_atLast).2, (Nat.le_of_ble_eq_true rfl), (Nat.le_of_ble_eq_true rfl)⟩ ml_X5_230 ci_X5_atLast cv_X5_atLast rfl (Nat.le_of_ble_eq_true rfl) (Nat.le_of_ble_eq_true rfl) rfl h (fun r24 S25 h2 => ?_)
              replace h := h2
              clear h2
              refine zJ.goto (pc := 83) (tgt := 105) dX5_item_83 (by decide) ?_
              exact zG.ret (pc := 105) (r := some (.int r24)) ⟨dX5_item_105, _, rfl, rfl⟩ h
          · replace h := h.2 c20
            refine zJ.aload_n (pc := 59) 1 dX5_item_59 rfl rfl ?_
            refine zE.getV (pc := 60) (fd_23_2 o) ok_23 kiX5 (Nat.le_of_ble_eq_true rfl) fl_X5_16 dX5_item_60 ?_
            refine zJ.iconst (pc := 63) (v := 4) dX5_item_63 (by decide) ?_
            refine zJ.iload_n (pc := 64) 2 dX5_item_64 rfl rfl ?_
            refine zJ.imul (pc := 65) dX5_item_65 ?_
            refine zJ.iload_n (pc := 66) 3 dX5_item_66 rfl rfl ?_
            refine zJ.iadd (pc := 67) dX5_item_67 ?_
            obtain ⟨hq, h⟩ := h
            refine zE.aldI (pc := 68) (ia_26 o) ok_26 hq dX5_item_68 ?_
            refine zJ.goto (pc := 69) (tgt := 105) dX5_item_69 (by decide) ?_
            exact zG.ret (pc := 105) (r := some (.int (S17.1 (26, 0, 0) (((4 * x1) + x2).toNatClampNeg)))) ⟨dX5_item_105, _, rfl, rfl⟩ h
        · replace h := h.2 c19
          refine zJ.aload_n (pc := 38) 0 dX5_item_38 rfl rfl ?_
          refine zE.getV (pc := 39) (fd_23_5 o) ok_23 kiX5 (Nat.le_of_ble_eq_true rfl) fl_X5_25 dX5_item_39 ?_
          refine zJ.iload_n (pc := 42) 1 dX5_item_42 rfl rfl ?_
          obtain ⟨hq, h⟩ := h
          refine zE.aldI (pc := 43) (ia_29 o) ok_29 hq dX5_item_43 ?_
          refine zJ.iconst (pc := 44) (v := 2) dX5_item_44 (by decide) ?_
          refine zJ.icmp_ne (pc := 45) (tgt := 52) dX5_item_45 (by decide) (fun c26 => ?_) (fun c26 => ?_)
          · replace h := h.1 c26
            refine zJ.iconst (pc := 52) (v := 0) dX5_item_52 (by decide) ?_
            refine zJ.istore (pc := 53) (lv' := [(4, .int 0), (0, .ref (z_adr o (23, 0, 0))), (1, .int x1), (2, .int x2), (3, .int x3)]) dX5_item_53 (Nat.le_of_ble_eq_true rfl) rfl ?_
            refine zJ.iload_n (pc := 55) 4 dX5_item_55 rfl rfl ?_
            refine zJ.if_ne (pc := 56) (tgt := 72) dX5_item_56 (by decide) (fun c27 => ?_) (fun c27 => ?_)
            · replace h := h.1 c27
              refine zJ.iload_n (pc := 72) 4 dX5_item_72 rfl rfl ?_
              refine zJ.iconst (pc := 73) (v := 1) dX5_item_73 (by decide) ?_
              refine zJ.icmp_ne (pc := 74) (tgt := 86) dX5_item_74 (by decide) (fun c28 => ?_) (fun c28 => ?_)
              · replace h := h.1 c28
                refine zJ.iload (pc := 86) 0 dX5_item_86 rfl ?_
                refine zJ.if_eq (pc := 88) (tgt := 104) dX5_item_88 (by decide) (fun c29 => ?_) (fun c29 => absurd c29 (by decide))
                refine zJ.iconst (pc := 104) (v := 0) dX5_item_104 (by decide) ?_
                exact zG.ret (pc := 105) (r := some (.int 0)) ⟨dX5_item_105, _, rfl, rfl⟩ h
              · replace h := h.2 c28
                refine zJ.aload_n (pc := 77) 1 dX5_item_77 rfl rfl ?_
                refine zJ.iload_n (pc := 78) 2 dX5_item_78 rfl rfl ?_
                refine zJ.iload_n (pc := 79) 3 dX5_item_79 rfl rfl ?_
                refine zG.callVi (d := mdX5_item) (pc := 80) [.int x1, .int x2] [] (ob_23 o) ok_23 rfl dX5_item_80 ⟨(cb_X5_atLast).1, (cb_X5_atLast).2, (Nat.le_of_ble_eq_true rfl), (Nat.le_of_ble_eq_true rfl)⟩ ml_X5_230 ci_X5_atLast cv_X5_atLast rfl (Nat.le_of_ble_eq_true rfl) (Nat.le_of_ble_eq_true rfl) rfl h (fun r31 S32 h2 => ?_)
                replace h := h2
                clear h2
                refine zJ.goto (pc := 83) (tgt := 105) dX5_item_83 (by decide) ?_
                exact zG.ret (pc := 105) (r := some (.int r31)) ⟨dX5_item_105, _, rfl, rfl⟩ h
            · replace h := h.2 c27
              refine zJ.aload_n (pc := 59) 1 dX5_item_59 rfl rfl ?_
              refine zE.getV (pc := 60) (fd_23_2 o) ok_23 kiX5 (Nat.le_of_ble_eq_true rfl) fl_X5_16 dX5_item_60 ?_
              refine zJ.iconst (pc := 63) (v := 4) dX5_item_63 (by decide) ?_
              refine zJ.iload_n (pc := 64) 2 dX5_item_64 rfl rfl ?_
              refine zJ.imul (pc := 65) dX5_item_65 ?_
              refine zJ.iload_n (pc := 66) 3 dX5_item_66 rfl rfl ?_
              refine zJ.iadd (pc := 67) dX5_item_67 ?_
              obtain ⟨hq, h⟩ := h
              refine zE.aldI (pc := 68) (ia_26 o) ok_26 hq dX5_item_68 ?_
              refine zJ.goto (pc := 69) (tgt := 105) dX5_item_69 (by decide) ?_
              exact zG.ret (pc := 105) (r := some (.int (S17.1 (26, 0, 0) (((4 * x1) + x2).toNatClampNeg)))) ⟨dX5_item_105, _, rfl, rfl⟩ h
          · replace h := h.2 c26
            refine zJ.iconst (pc := 48) (v := 1) dX5_item_48 (by decide) ?_
            refine zJ.goto (pc := 49) (tgt := 53) dX5_item_49 (by decide) ?_
            refine zJ.istore (pc := 53) (lv' := [(4, .int 1), (0, .ref (z_adr o (23, 0, 0))), (1, .int x1), (2, .int x2), (3, .int x3)]) dX5_item_53 (Nat.le_of_ble_eq_true rfl) rfl ?_
            refine zJ.iload_n (pc := 55) 4 dX5_item_55 rfl rfl ?_
            refine zJ.if_ne (pc := 56) (tgt := 72) dX5_item_56 (by decide) (fun c33 => ?_) (fun c33 => ?_)
            · replace h := h.1 c33
              refine zJ.iload_n (pc := 72) 4 dX5_item_72 rfl rfl ?_
              refine zJ.iconst (pc := 73) (v := 1) dX5_item_73 (by decide) ?_
              refine zJ.icmp_ne (pc := 74) (tgt := 86) dX5_item_74 (by decide) (fun c34 => ?_) (fun c34 => ?_)
              · replace h := h.1 c34
                refine zJ.iload (pc := 86) 0 dX5_item_86 rfl ?_
                refine zJ.if_eq (pc := 88) (tgt := 104) dX5_item_88 (by decide) (fun c35 => absurd c35 (by decide)) (fun c35 => ?_)
                refine zJ.aload_n (pc := 91) 1 dX5_item_91 rfl rfl ?_
                refine zE.getV (pc := 92) (fd_23_4 o) ok_23 kiX5 (Nat.le_of_ble_eq_true rfl) fl_X5_22 dX5_item_92 ?_
                refine zJ.iload_n (pc := 95) 2 dX5_item_95 rfl rfl ?_
                obtain ⟨hq, h⟩ := h
                refine zE.aldI (pc := 96) (ia_28 o) ok_28 hq dX5_item_96 ?_
                refine zJ.iload_n (pc := 97) 3 dX5_item_97 rfl rfl ?_
                refine zJ.ishr (pc := 98) dX5_item_98 ?_
                refine zJ.iconst (pc := 99) (v := 1) dX5_item_99 (by decide) ?_
                refine zJ.iand (pc := 100) dX5_item_100 ?_
                refine zJ.goto (pc := 101) (tgt := 105) dX5_item_101 (by decide) ?_
                exact zG.ret (pc := 105) (r := some (.int (((S17.1 (28, 0, 0) x1.toNatClampNeg) >>> (x2 &&& 31)) &&& 1))) ⟨dX5_item_105, _, rfl, rfl⟩ h
              · replace h := h.2 c34
                refine zJ.aload_n (pc := 77) 1 dX5_item_77 rfl rfl ?_
                refine zJ.iload_n (pc := 78) 2 dX5_item_78 rfl rfl ?_
                refine zJ.iload_n (pc := 79) 3 dX5_item_79 rfl rfl ?_
                refine zG.callVi (d := mdX5_item) (pc := 80) [.int x1, .int x2] [] (ob_23 o) ok_23 rfl dX5_item_80 ⟨(cb_X5_atLast).1, (cb_X5_atLast).2, (Nat.le_of_ble_eq_true rfl), (Nat.le_of_ble_eq_true rfl)⟩ ml_X5_230 ci_X5_atLast cv_X5_atLast rfl (Nat.le_of_ble_eq_true rfl) (Nat.le_of_ble_eq_true rfl) rfl h (fun r37 S38 h2 => ?_)
                replace h := h2
                clear h2
                refine zJ.goto (pc := 83) (tgt := 105) dX5_item_83 (by decide) ?_
                exact zG.ret (pc := 105) (r := some (.int r37)) ⟨dX5_item_105, _, rfl, rfl⟩ h
            · replace h := h.2 c33
              refine zJ.aload_n (pc := 59) 1 dX5_item_59 rfl rfl ?_
              refine zE.getV (pc := 60) (fd_23_2 o) ok_23 kiX5 (Nat.le_of_ble_eq_true rfl) fl_X5_16 dX5_item_60 ?_
              refine zJ.iconst (pc := 63) (v := 4) dX5_item_63 (by decide) ?_
              refine zJ.iload_n (pc := 64) 2 dX5_item_64 rfl rfl ?_
              refine zJ.imul (pc := 65) dX5_item_65 ?_
              refine zJ.iload_n (pc := 66) 3 dX5_item_66 rfl rfl ?_
              refine zJ.iadd (pc := 67) dX5_item_67 ?_
              obtain ⟨hq, h⟩ := h
              refine zE.aldI (pc := 68) (ia_26 o) ok_26 hq dX5_item_68 ?_
              refine zJ.goto (pc := 69) (tgt := 105) dX5_item_69 (by decide) ?_
              exact zG.ret (pc := 105) (r := some (.int (S17.1 (26, 0, 0) (((4 * x1) + x2).toNatClampNeg)))) ⟨dX5_item_105, _, rfl, rfl⟩ h
      · replace h := h.2 c18
        refine zJ.aload_n (pc := 23) 0 dX5_item_23 rfl rfl ?_
        refine zG.callVi (d := mdX5_item) (pc := 24) [] [] (ob_23 o) ok_23 rfl dX5_item_24 ⟨(cb_X5_bad).1, (cb_X5_bad).2, (Nat.le_of_ble_eq_true rfl), (Nat.le_of_ble_eq_true rfl)⟩ ml_X5_130 ci_X5_bad cv_X5_bad rfl (Nat.le_of_ble_eq_true rfl) (Nat.le_of_ble_eq_true rfl) rfl h (fun r40 S41 h2 => ?_)
        replace h := h2
        clear h2
        exact zG.ret (pc := 27) (r := some (.int r40)) ⟨dX5_item_27, _, rfl, rfl⟩ h
set_option maxRecDepth 100000 in
set_option maxHeartbeats 4000000 in
theorem w_X5_place_0 (o : zW) (x1 : Int32) (x2 : Int32) (S : zS) (Q : Option Value → zS → Prop) (h : zGi o 994 mdX5_in [.int x1, .int 0, .int 3] S (fun r2 S3 => (r2 = 0 → (zGi o 994 mdX5_bad [.ref (z_adr o (23, 0, 0))] S3 (fun r6 S7 => Q (some (.int r6)) S7))) ∧ (¬ r2 = 0 → (zGi o 994 mdX5_in [.int x2, .int 0, .int 2] S3 (fun r9 S10 => (¬ r9 = 0 → (vp_in x1 4 ∧ (((S10.1 (31, 0, 0) x1.toNatClampNeg) ≤ x2 → (Q (some (.int (-1))) S10)) ∧ (¬ (S10.1 (31, 0, 0) x1.toNatClampNeg) ≤ x2 → (vp_in ((3 * x1) + x2) 12 ∧ (Q (some (.int (S10.1 (32, 0, 0) (((3 * x1) + x2).toNatClampNeg)))) S10)))))) ∧ (r9 = 0 → (zGi o 994 mdX5_bad [.ref (z_adr o (23, 0, 0))] S10 (fun r14 S15 => Q (some (.int r14)) S15)))))))) : zG o 994 mdX5_place 0 [(0, .ref (z_adr o (23, 0, 0))), (1, .int x1), (2, .int x2)] [] S Q := by
  show zJ o mdX5_place 0 _ [] (994, z_enc o S) 0 0 _
  refine zJ.iload_n (pc := 0) 1 dX5_place_0 rfl rfl ?_
  refine zJ.iconst (pc := 1) (v := 0) dX5_place_1 (by decide) ?_
  refine zJ.iconst (pc := 2) (v := 3) dX5_place_2 (by decide) ?_
  refine zG.callSi (d := mdX5_place) (pc := 3) [.int x1, .int 0, .int 3] [] dX5_place_3 ⟨(cb_X5_in).1, (cb_X5_in).2, (Nat.le_of_ble_eq_true rfl), (Nat.le_of_ble_eq_true rfl)⟩ ml_X5_101 cs_X5_in rfl (Nat.le_of_ble_eq_true rfl) (Nat.le_of_ble_eq_true rfl) rfl h (fun r2 S3 h2 => ?_)
  replace h := h2
  clear h2
  refine zJ.if_eq (pc := 6) (tgt := 18) dX5_place_6 (by decide) (fun c4 => ?_) (fun c4 => ?_)
  · replace h := h.1 c4
    refine zJ.aload_n (pc := 18) 0 dX5_place_18 rfl rfl ?_
    refine zG.callVi (d := mdX5_place) (pc := 19) [] [] (ob_23 o) ok_23 rfl dX5_place_19 ⟨(cb_X5_bad).1, (cb_X5_bad).2, (Nat.le_of_ble_eq_true rfl), (Nat.le_of_ble_eq_true rfl)⟩ ml_X5_130 ci_X5_bad cv_X5_bad rfl (Nat.le_of_ble_eq_true rfl) (Nat.le_of_ble_eq_true rfl) rfl h (fun r6 S7 h2 => ?_)
    replace h := h2
    clear h2
    exact zG.ret (pc := 22) (r := some (.int r6)) ⟨dX5_place_22, _, rfl, rfl⟩ h
  · replace h := h.2 c4
    refine zJ.iload_n (pc := 9) 2 dX5_place_9 rfl rfl ?_
    refine zJ.iconst (pc := 10) (v := 0) dX5_place_10 (by decide) ?_
    refine zJ.iconst (pc := 11) (v := 2) dX5_place_11 (by decide) ?_
    refine zG.callSi (d := mdX5_place) (pc := 12) [.int x2, .int 0, .int 2] [] dX5_place_12 ⟨(cb_X5_in).1, (cb_X5_in).2, (Nat.le_of_ble_eq_true rfl), (Nat.le_of_ble_eq_true rfl)⟩ ml_X5_101 cs_X5_in rfl (Nat.le_of_ble_eq_true rfl) (Nat.le_of_ble_eq_true rfl) rfl h (fun r9 S10 h2 => ?_)
    replace h := h2
    clear h2
    refine zJ.if_ne (pc := 15) (tgt := 23) dX5_place_15 (by decide) (fun c11 => ?_) (fun c11 => ?_)
    · replace h := h.1 c11
      refine zJ.iload_n (pc := 23) 2 dX5_place_23 rfl rfl ?_
      refine zJ.aload_n (pc := 24) 0 dX5_place_24 rfl rfl ?_
      refine zE.getV (pc := 25) (fd_23_7 o) ok_23 kiX5 (Nat.le_of_ble_eq_true rfl) fl_X5_31 dX5_place_25 ?_
      refine zJ.iload_n (pc := 28) 1 dX5_place_28 rfl rfl ?_
      obtain ⟨hq, h⟩ := h
      refine zE.aldI (pc := 29) (ia_31 o) ok_31 hq dX5_place_29 ?_
      refine zJ.icmp_ge (pc := 30) (tgt := 46) dX5_place_30 (by decide) (fun c12 => ?_) (fun c12 => ?_)
      · replace h := h.1 c12
        refine zJ.iconst (pc := 46) (v := (-1)) dX5_place_46 (by decide) ?_
        exact zG.ret (pc := 47) (r := some (.int (-1))) ⟨dX5_place_47, _, rfl, rfl⟩ h
      · replace h := h.2 c12
        refine zJ.aload_n (pc := 33) 0 dX5_place_33 rfl rfl ?_
        refine zE.getV (pc := 34) (fd_23_8 o) ok_23 kiX5 (Nat.le_of_ble_eq_true rfl) fl_X5_34 dX5_place_34 ?_
        refine zJ.iconst (pc := 37) (v := 3) dX5_place_37 (by decide) ?_
        refine zJ.iload_n (pc := 38) 1 dX5_place_38 rfl rfl ?_
        refine zJ.imul (pc := 39) dX5_place_39 ?_
        refine zJ.iload_n (pc := 40) 2 dX5_place_40 rfl rfl ?_
        refine zJ.iadd (pc := 41) dX5_place_41 ?_
        obtain ⟨hq, h⟩ := h
        refine zE.aldI (pc := 42) (ia_32 o) ok_32 hq dX5_place_42 ?_
        refine zJ.goto (pc := 43) (tgt := 47) dX5_place_43 (by decide) ?_
        exact zG.ret (pc := 47) (r := some (.int (S10.1 (32, 0, 0) (((3 * x1) + x2).toNatClampNeg)))) ⟨dX5_place_47, _, rfl, rfl⟩ h
    · replace h := h.2 c11
      refine zJ.aload_n (pc := 18) 0 dX5_place_18 rfl rfl ?_
      refine zG.callVi (d := mdX5_place) (pc := 19) [] [] (ob_23 o) ok_23 rfl dX5_place_19 ⟨(cb_X5_bad).1, (cb_X5_bad).2, (Nat.le_of_ble_eq_true rfl), (Nat.le_of_ble_eq_true rfl)⟩ ml_X5_130 ci_X5_bad cv_X5_bad rfl (Nat.le_of_ble_eq_true rfl) (Nat.le_of_ble_eq_true rfl) rfl h (fun r14 S15 h2 => ?_)
      replace h := h2
      clear h2
      exact zG.ret (pc := 22) (r := some (.int r14)) ⟨dX5_place_22, _, rfl, rfl⟩ h
set_option maxRecDepth 100000 in
set_option maxHeartbeats 4000000 in
theorem w_X5_fetch_0 (o : zW) (x1 : Int32) (x2 : Int32) (S : zS) (Q : Option Value → zS → Prop) (h : (x1 < 0 → (zGi o 994 mdX5_bad [.ref (z_adr o (23, 0, 0))] S (fun r3 S4 => Q (some (.int r3)) S4))) ∧ (¬ x1 < 0 → (zGi o 994 mdX5_in [.int x2, .int 0, .int 2] S (fun r6 S7 => (¬ r6 = 0 → ((x1 < (S7.1 (39, 0, 0) 0) → (vp_in x1 4 ∧ ((¬ x2 = 0 → ((¬ x2 = 1 → (vp_in (S7.1 (33, 0, 0) x1.toNatClampNeg) 16 ∧ (∀ y12 : Int32, y12 = (S7.1 (34, 0, 0) ((S7.1 (33, 0, 0) x1.toNatClampNeg).toNatClampNeg)) → (Q (some (.int y12)) S7)))) ∧ (x2 = 1 → (vp_in (S7.1 (33, 0, 0) x1.toNatClampNeg) 16 ∧ (∀ y13 : Int32, y13 = (S7.1 (30, 0, 0) ((S7.1 (33, 0, 0) x1.toNatClampNeg).toNatClampNeg)) → (Q (some (.int (y13 - (S7.1 (40, 0, 0) 9)))) S7)))))) ∧ (x2 = 0 → (Q (some (.int (S7.1 (33, 0, 0) x1.toNatClampNeg))) S7))))) ∧ (¬ x1 < (S7.1 (39, 0, 0) 0) → (Q (some (.int (-1))) S7)))) ∧ (r6 = 0 → (zGi o 994 mdX5_bad [.ref (z_adr o (23, 0, 0))] S7 (fun r15 S16 => Q (some (.int r15)) S16))))))) : zG o 994 mdX5_fetch 0 [(0, .ref (z_adr o (23, 0, 0))), (1, .int x1), (2, .int x2)] [] S Q := by
  show zJ o mdX5_fetch 0 _ [] (994, z_enc o S) 0 0 _
  refine zJ.iload_n (pc := 0) 1 dX5_fetch_0 rfl rfl ?_
  refine zJ.if_lt (pc := 1) (tgt := 13) dX5_fetch_1 (by decide) (fun c1 => ?_) (fun c1 => ?_)
  · replace h := h.1 c1
    refine zJ.aload_n (pc := 13) 0 dX5_fetch_13 rfl rfl ?_
    refine zG.callVi (d := mdX5_fetch) (pc := 14) [] [] (ob_23 o) ok_23 rfl dX5_fetch_14 ⟨(cb_X5_bad).1, (cb_X5_bad).2, (Nat.le_of_ble_eq_true rfl), (Nat.le_of_ble_eq_true rfl)⟩ ml_X5_130 ci_X5_bad cv_X5_bad rfl (Nat.le_of_ble_eq_true rfl) (Nat.le_of_ble_eq_true rfl) rfl h (fun r3 S4 h2 => ?_)
    replace h := h2
    clear h2
    exact zG.ret (pc := 17) (r := some (.int r3)) ⟨dX5_fetch_17, _, rfl, rfl⟩ h
  · replace h := h.2 c1
    refine zJ.iload_n (pc := 4) 2 dX5_fetch_4 rfl rfl ?_
    refine zJ.iconst (pc := 5) (v := 0) dX5_fetch_5 (by decide) ?_
    refine zJ.iconst (pc := 6) (v := 2) dX5_fetch_6 (by decide) ?_
    refine zG.callSi (d := mdX5_fetch) (pc := 7) [.int x2, .int 0, .int 2] [] dX5_fetch_7 ⟨(cb_X5_in).1, (cb_X5_in).2, (Nat.le_of_ble_eq_true rfl), (Nat.le_of_ble_eq_true rfl)⟩ ml_X5_101 cs_X5_in rfl (Nat.le_of_ble_eq_true rfl) (Nat.le_of_ble_eq_true rfl) rfl h (fun r6 S7 h2 => ?_)
    replace h := h2
    clear h2
    refine zJ.if_ne (pc := 10) (tgt := 18) dX5_fetch_10 (by decide) (fun c8 => ?_) (fun c8 => ?_)
    · replace h := h.1 c8
      refine zJ.iload_n (pc := 18) 1 dX5_fetch_18 rfl rfl ?_
      refine zJ.aload_n (pc := 19) 0 dX5_fetch_19 rfl rfl ?_
      refine zE.getV (pc := 20) (fd_23_15 o) ok_23 kiX5 (Nat.le_of_ble_eq_true rfl) fl_X5_55 dX5_fetch_20 ?_
      refine zJ.iconst (pc := 23) (v := 0) dX5_fetch_23 (by decide) ?_
      refine zE.aldI (pc := 24) (ia_39 o) ok_39 (by unfold vp_in; decide) dX5_fetch_24 ?_
      refine zJ.icmp_lt (pc := 25) (tgt := 30) dX5_fetch_25 (by decide) (fun c9 => ?_) (fun c9 => ?_)
      · replace h := h.1 c9
        refine zJ.aload_n (pc := 30) 0 dX5_fetch_30 rfl rfl ?_
        refine zE.getV (pc := 31) (fd_23_9 o) ok_23 kiX5 (Nat.le_of_ble_eq_true rfl) fl_X5_37 dX5_fetch_31 ?_
        refine zJ.iload_n (pc := 34) 1 dX5_fetch_34 rfl rfl ?_
        obtain ⟨hq, h⟩ := h
        refine zE.aldI (pc := 35) (ia_33 o) ok_33 hq dX5_fetch_35 ?_
        refine zJ.istore_n (pc := 36) (lv' := [(3, .int (S7.1 (33, 0, 0) x1.toNatClampNeg)), (0, .ref (z_adr o (23, 0, 0))), (1, .int x1), (2, .int x2)]) dX5_fetch_36 rfl (Nat.le_of_ble_eq_true rfl) rfl ?_
        refine zJ.iload_n (pc := 37) 3 dX5_fetch_37 rfl rfl ?_
        refine zJ.if_ne (pc := 38) (tgt := 45) dX5_fetch_38 (by decide) (fun c10 => ?_) (fun c10 => ?_)
        · replace h := h.1 c10
          refine zJ.iload_n (pc := 45) 3 dX5_fetch_45 rfl rfl ?_
          refine zJ.iconst (pc := 46) (v := 1) dX5_fetch_46 (by decide) ?_
          refine zJ.icmp_ne (pc := 47) (tgt := 67) dX5_fetch_47 (by decide) (fun c11 => ?_) (fun c11 => ?_)
          · replace h := h.1 c11
            refine zJ.aload_n (pc := 67) 1 dX5_fetch_67 rfl rfl ?_
            refine zE.getV (pc := 68) (fd_23_10 o) ok_23 kiX5 (Nat.le_of_ble_eq_true rfl) fl_X5_40 dX5_fetch_68 ?_
            refine zJ.iload_n (pc := 71) 0 dX5_fetch_71 rfl rfl ?_
            obtain ⟨hq, h⟩ := h
            refine zE.aldI (pc := 72) (ia_34 o) ok_34 hq dX5_fetch_72 ?_
            refine zJ.topi (fun y12 hyy12 => ?_)
            replace h := h y12 hyy12
            exact zG.ret (pc := 73) (r := some (.int y12)) ⟨dX5_fetch_73, _, rfl, rfl⟩ h
          · replace h := h.2 c11
            refine zJ.aload_n (pc := 50) 1 dX5_fetch_50 rfl rfl ?_
            refine zE.getV (pc := 51) (fd_23_6 o) ok_23 kiX5 (Nat.le_of_ble_eq_true rfl) fl_X5_28 dX5_fetch_51 ?_
            refine zJ.iload_n (pc := 54) 0 dX5_fetch_54 rfl rfl ?_
            obtain ⟨hq, h⟩ := h
            refine zE.aldI (pc := 55) (ia_30 o) ok_30 hq dX5_fetch_55 ?_
            refine zJ.topi (fun y13 hyy13 => ?_)
            replace h := h y13 hyy13
            refine zJ.aload_n (pc := 56) 1 dX5_fetch_56 rfl rfl ?_
            refine zE.getV (pc := 57) (fd_23_16 o) ok_23 kiX5 (Nat.le_of_ble_eq_true rfl) fl_X5_58 dX5_fetch_57 ?_
            refine zJ.bipush (pc := 60) (v := 9) dX5_fetch_60 (by decide) ?_
            refine zE.aldI (pc := 62) (ia_40 o) ok_40 (by unfold vp_in; decide) dX5_fetch_62 ?_
            refine zJ.isub (pc := 63) dX5_fetch_63 ?_
            refine zJ.goto (pc := 64) (tgt := 73) dX5_fetch_64 (by decide) ?_
            exact zG.ret (pc := 73) (r := some (.int (y13 - (S7.1 (40, 0, 0) 9)))) ⟨dX5_fetch_73, _, rfl, rfl⟩ h
        · replace h := h.2 c10
          refine zJ.iload_n (pc := 41) 0 dX5_fetch_41 rfl rfl ?_
          refine zJ.goto (pc := 42) (tgt := 73) dX5_fetch_42 (by decide) ?_
          exact zG.ret (pc := 73) (r := some (.int (S7.1 (33, 0, 0) x1.toNatClampNeg))) ⟨dX5_fetch_73, _, rfl, rfl⟩ h
      · replace h := h.2 c9
        refine zJ.iconst (pc := 28) (v := (-1)) dX5_fetch_28 (by decide) ?_
        exact zG.ret (pc := 29) (r := some (.int (-1))) ⟨dX5_fetch_29, _, rfl, rfl⟩ h
    · replace h := h.2 c8
      refine zJ.aload_n (pc := 13) 0 dX5_fetch_13 rfl rfl ?_
      refine zG.callVi (d := mdX5_fetch) (pc := 14) [] [] (ob_23 o) ok_23 rfl dX5_fetch_14 ⟨(cb_X5_bad).1, (cb_X5_bad).2, (Nat.le_of_ble_eq_true rfl), (Nat.le_of_ble_eq_true rfl)⟩ ml_X5_130 ci_X5_bad cv_X5_bad rfl (Nat.le_of_ble_eq_true rfl) (Nat.le_of_ble_eq_true rfl) rfl h (fun r15 S16 h2 => ?_)
      replace h := h2
      clear h2
      exact zG.ret (pc := 17) (r := some (.int r15)) ⟨dX5_fetch_17, _, rfl, rfl⟩ h
set_option maxRecDepth 100000 in
set_option maxHeartbeats 4000000 in
theorem w_X5_costBy_0 (o : zW) (x1 : Int32) (S : zS) (Q : Option Value → zS → Prop) (h : (¬ x1 = 0 → ((¬ x1 = 2 → ((¬ (S.1 (40, 0, 0) 8) = 0 → (vf_n32 (FP.fdiv (FP.l2f (S.2.1 (23, 0, 0) 21)) (FP.i2f (S.1 (40, 0, 0) 8))) ∧ (Q (some (.float (FP.fdiv (FP.l2f (S.2.1 (23, 0, 0) 21)) (FP.i2f (S.1 (40, 0, 0) 8))))) S))) ∧ ((S.1 (40, 0, 0) 8) = 0 → (Q (some (.float FP.fconst0)) S)))) ∧ (x1 = 2 → (Q (some (.float (FP.i2f (S.1 (39, 0, 0) 2)))) S)))) ∧ (x1 = 0 → (Q (some (.float (S.2.2 (23, 0, 0) 20))) S))) : zG o 994 mdX5_costBy 0 [(0, .ref (z_adr o (23, 0, 0))), (1, .int x1)] [] S Q := by
  show zJ o mdX5_costBy 0 _ [] (994, z_enc o S) 0 0 _
  refine zJ.iload_n (pc := 0) 1 dX5_costBy_0 rfl rfl ?_
  refine zJ.if_ne (pc := 1) (tgt := 9) dX5_costBy_1 (by decide) (fun c1 => ?_) (fun c1 => ?_)
  · replace h := h.1 c1
    refine zJ.iload_n (pc := 9) 1 dX5_costBy_9 rfl rfl ?_
    refine zJ.iconst (pc := 10) (v := 2) dX5_costBy_10 (by decide) ?_
    refine zJ.icmp_ne (pc := 11) (tgt := 22) dX5_costBy_11 (by decide) (fun c2 => ?_) (fun c2 => ?_)
    · replace h := h.1 c2
      refine zJ.aload_n (pc := 22) 0 dX5_costBy_22 rfl rfl ?_
      refine zE.getV (pc := 23) (fd_23_16 o) ok_23 kiX5 (Nat.le_of_ble_eq_true rfl) fl_X5_58 dX5_costBy_23 ?_
      refine zJ.bipush (pc := 26) (v := 8) dX5_costBy_26 (by decide) ?_
      refine zE.aldI (pc := 28) (ia_40 o) ok_40 (by unfold vp_in; decide) dX5_costBy_28 ?_
      refine zJ.if_ne (pc := 29) (tgt := 36) dX5_costBy_29 (by decide) (fun c3 => ?_) (fun c3 => ?_)
      · replace h := h.1 c3
        refine zJ.aload_n (pc := 36) 0 dX5_costBy_36 rfl rfl ?_
        refine zE.getL (pc := 37) (fd_23_21 o) ok_23 kiX5 (Nat.le_of_ble_eq_true rfl) fl_X5_94 dX5_costBy_37 ?_
        refine zJ.l2f (pc := 40) dX5_costBy_40 ?_
        refine zJ.aload_n (pc := 41) 0 dX5_costBy_41 rfl rfl ?_
        refine zE.getV (pc := 42) (fd_23_16 o) ok_23 kiX5 (Nat.le_of_ble_eq_true rfl) fl_X5_58 dX5_costBy_42 ?_
        refine zJ.bipush (pc := 45) (v := 8) dX5_costBy_45 (by decide) ?_
        refine zE.aldI (pc := 47) (ia_40 o) ok_40 (by unfold vp_in; decide) dX5_costBy_47 ?_
        refine zJ.i2f (pc := 48) dX5_costBy_48 ?_
        obtain ⟨hq, h⟩ := h
        refine zJ.fdiv (pc := 49) dX5_costBy_49 hq ?_
        exact zG.ret (pc := 50) (r := some (.float (FP.fdiv (FP.l2f (S.2.1 (23, 0, 0) 21)) (FP.i2f (S.1 (40, 0, 0) 8))))) ⟨dX5_costBy_50, rfl⟩ h
      · replace h := h.2 c3
        refine zJ.fconst0 (pc := 32) dX5_costBy_32 ?_
        refine zJ.goto (pc := 33) (tgt := 50) dX5_costBy_33 (by decide) ?_
        exact zG.ret (pc := 50) (r := some (.float FP.fconst0)) ⟨dX5_costBy_50, rfl⟩ h
    · replace h := h.2 c2
      refine zJ.aload_n (pc := 14) 0 dX5_costBy_14 rfl rfl ?_
      refine zE.getV (pc := 15) (fd_23_15 o) ok_23 kiX5 (Nat.le_of_ble_eq_true rfl) fl_X5_55 dX5_costBy_15 ?_
      refine zJ.iconst (pc := 18) (v := 2) dX5_costBy_18 (by decide) ?_
      refine zE.aldI (pc := 19) (ia_39 o) ok_39 (by unfold vp_in; decide) dX5_costBy_19 ?_
      refine zJ.i2f (pc := 20) dX5_costBy_20 ?_
      exact zG.ret (pc := 21) (r := some (.float (FP.i2f (S.1 (39, 0, 0) 2)))) ⟨dX5_costBy_21, rfl⟩ h
  · replace h := h.2 c1
    refine zJ.aload_n (pc := 4) 0 dX5_costBy_4 rfl rfl ?_
    refine zE.getF (pc := 5) (fd_23_20 o) ok_23 kiX5 (Nat.le_of_ble_eq_true rfl) fl_X5_90 dX5_costBy_5 ?_
    exact zG.ret (pc := 8) (r := some (.float (S.2.2 (23, 0, 0) 20))) ⟨dX5_costBy_8, rfl⟩ h
set_option maxRecDepth 100000 in
set_option maxHeartbeats 4000000 in
theorem w_X5_cost_0 (o : zW) (x1 : Int32) (S : zS) (Q : Option Value → zS → Prop) (h : zGi o 994 mdX5_in [.int x1, .int 0, .int 2] S (fun r2 S3 => (r2 = 0 → (zGi o 994 mdX5_bad [.ref (z_adr o (23, 0, 0))] S3 (fun r6 S7 => Q (some (.int r6)) S7))) ∧ (¬ r2 = 0 → (zGf o 994 mdX5_costBy [.ref (z_adr o (23, 0, 0)), .int x1] S3 (fun r9 S10 => zGi o 994 mdJxf58ca_floatToIntBits_5c35a [.float r9] S10 (fun r12 S13 => Q (some (.int r12)) S13)))))) : zG o 994 mdX5_cost 0 [(0, .ref (z_adr o (23, 0, 0))), (1, .int x1)] [] S Q := by
  show zJ o mdX5_cost 0 _ [] (994, z_enc o S) 0 0 _
  refine zJ.iload_n (pc := 0) 1 dX5_cost_0 rfl rfl ?_
  refine zJ.iconst (pc := 1) (v := 0) dX5_cost_1 (by decide) ?_
  refine zJ.iconst (pc := 2) (v := 2) dX5_cost_2 (by decide) ?_
  refine zG.callSi (d := mdX5_cost) (pc := 3) [.int x1, .int 0, .int 2] [] dX5_cost_3 ⟨(cb_X5_in).1, (cb_X5_in).2, (Nat.le_of_ble_eq_true rfl), (Nat.le_of_ble_eq_true rfl)⟩ ml_X5_101 cs_X5_in rfl (Nat.le_of_ble_eq_true rfl) (Nat.le_of_ble_eq_true rfl) rfl h (fun r2 S3 h2 => ?_)
  replace h := h2
  clear h2
  refine zJ.if_eq (pc := 6) (tgt := 20) dX5_cost_6 (by decide) (fun c4 => ?_) (fun c4 => ?_)
  · replace h := h.1 c4
    refine zJ.aload_n (pc := 20) 0 dX5_cost_20 rfl rfl ?_
    refine zG.callVi (d := mdX5_cost) (pc := 21) [] [] (ob_23 o) ok_23 rfl dX5_cost_21 ⟨(cb_X5_bad).1, (cb_X5_bad).2, (Nat.le_of_ble_eq_true rfl), (Nat.le_of_ble_eq_true rfl)⟩ ml_X5_130 ci_X5_bad cv_X5_bad rfl (Nat.le_of_ble_eq_true rfl) (Nat.le_of_ble_eq_true rfl) rfl h (fun r6 S7 h2 => ?_)
    replace h := h2
    clear h2
    exact zG.ret (pc := 24) (r := some (.int r6)) ⟨dX5_cost_24, _, rfl, rfl⟩ h
  · replace h := h.2 c4
    refine zJ.aload_n (pc := 9) 0 dX5_cost_9 rfl rfl ?_
    refine zJ.iload_n (pc := 10) 1 dX5_cost_10 rfl rfl ?_
    refine zG.callVf (d := mdX5_cost) (pc := 11) [.int x1] [] (ob_23 o) ok_23 rfl dX5_cost_11 ⟨(cb_X5_costBy).1, (cb_X5_costBy).2, (Nat.le_of_ble_eq_true rfl), (Nat.le_of_ble_eq_true rfl)⟩ ml_X5_234 ci_X5_costBy cv_X5_costBy rfl (Nat.le_of_ble_eq_true rfl) (Nat.le_of_ble_eq_true rfl) rfl h (fun r9 S10 h2 => ?_)
    replace h := h2
    clear h2
    refine zG.callSi (d := mdX5_cost) (pc := 14) [.float r9] [] dX5_cost_14 ⟨(cb_Jxf58ca_floatToIntBits_5c35a).1, (cb_Jxf58ca_floatToIntBits_5c35a).2, (Nat.le_of_ble_eq_true rfl), (Nat.le_of_ble_eq_true rfl)⟩ ml_X5_238 cs_Jxf58ca_floatToIntBits_5c35a rfl (Nat.le_of_ble_eq_true rfl) (Nat.le_of_ble_eq_true rfl) rfl h (fun r12 S13 h2 => ?_)
    replace h := h2
    clear h2
    refine zJ.goto (pc := 17) (tgt := 24) dX5_cost_17 (by decide) ?_
    exact zG.ret (pc := 24) (r := some (.int r12)) ⟨dX5_cost_24, _, rfl, rfl⟩ h
set_option maxRecDepth 100000 in
set_option maxHeartbeats 4000000 in
theorem w_X5_even_0 (o : zW)  (S : zS) (Q : Option Value → zS → Prop) (h : (¬ (S.1 (40, 0, 0) 8) = 0 → (vf_n64 (FP.ddiv (FP.l2d (S.2.1 (23, 0, 0) 21)) (FP.i2d (S.1 (40, 0, 0) 8))) ∧ (vf_n64 (FP.ddiv (FP.l2d (S.2.1 (23, 0, 0) 22)) (FP.i2d (S.1 (40, 0, 0) 8))) ∧ (vf_n64 (FP.dmul (FP.ddiv (FP.l2d (S.2.1 (23, 0, 0) 21)) (FP.i2d (S.1 (40, 0, 0) 8))) (FP.ddiv (FP.l2d (S.2.1 (23, 0, 0) 21)) (FP.i2d (S.1 (40, 0, 0) 8)))) ∧ (vf_n64 (FP.dsub (FP.ddiv (FP.l2d (S.2.1 (23, 0, 0) 22)) (FP.i2d (S.1 (40, 0, 0) 8))) (FP.dmul (FP.ddiv (FP.l2d (S.2.1 (23, 0, 0) 21)) (FP.i2d (S.1 (40, 0, 0) 8))) (FP.ddiv (FP.l2d (S.2.1 (23, 0, 0) 21)) (FP.i2d (S.1 (40, 0, 0) 8))))) ∧ (zGl o 994 mdJxe99ae_doubleToLongBits_ccdee [.double (FP.dsub (FP.ddiv (FP.l2d (S.2.1 (23, 0, 0) 22)) (FP.i2d (S.1 (40, 0, 0) 8))) (FP.dmul (FP.ddiv (FP.l2d (S.2.1 (23, 0, 0) 21)) (FP.i2d (S.1 (40, 0, 0) 8))) (FP.ddiv (FP.l2d (S.2.1 (23, 0, 0) 21)) (FP.i2d (S.1 (40, 0, 0) 8)))))] S (fun r3 S4 => Q (some (.long r3)) S4))))))) ∧ ((S.1 (40, 0, 0) 8) = 0 → (zGl o 994 mdJxe99ae_doubleToLongBits_ccdee [.double FP.dconst0] S (fun r6 S7 => Q (some (.long r6)) S7)))) : zG o 994 mdX5_even 0 [(0, .ref (z_adr o (23, 0, 0)))] [] S Q := by
  show zJ o mdX5_even 0 _ [] (994, z_enc o S) 0 0 _
  refine zJ.aload_n (pc := 0) 0 dX5_even_0 rfl rfl ?_
  refine zE.getV (pc := 1) (fd_23_16 o) ok_23 kiX5 (Nat.le_of_ble_eq_true rfl) fl_X5_58 dX5_even_1 ?_
  refine zJ.bipush (pc := 4) (v := 8) dX5_even_4 (by decide) ?_
  refine zE.aldI (pc := 6) (ia_40 o) ok_40 (by unfold vp_in; decide) dX5_even_6 ?_
  refine zJ.if_ne (pc := 7) (tgt := 15) dX5_even_7 (by decide) (fun c1 => ?_) (fun c1 => ?_)
  · replace h := h.1 c1
    refine zJ.aload_n (pc := 15) 0 dX5_even_15 rfl rfl ?_
    refine zE.getV (pc := 16) (fd_23_16 o) ok_23 kiX5 (Nat.le_of_ble_eq_true rfl) fl_X5_58 dX5_even_16 ?_
    refine zJ.bipush (pc := 19) (v := 8) dX5_even_19 (by decide) ?_
    refine zE.aldI (pc := 21) (ia_40 o) ok_40 (by unfold vp_in; decide) dX5_even_21 ?_
    refine zJ.i2d (pc := 22) dX5_even_22 ?_
    refine zJ.dstore_n (pc := 23) (lv' := [(1, .double (FP.i2d (S.1 (40, 0, 0) 8))), (0, .ref (z_adr o (23, 0, 0)))]) dX5_even_23 rfl (Nat.le_of_ble_eq_true rfl) rfl ?_
    refine zJ.aload_n (pc := 24) 1 dX5_even_24 rfl rfl ?_
    refine zE.getL (pc := 25) (fd_23_21 o) ok_23 kiX5 (Nat.le_of_ble_eq_true rfl) fl_X5_94 dX5_even_25 ?_
    refine zJ.l2d (pc := 28) dX5_even_28 ?_
    refine zJ.dload_n (pc := 29) 0 dX5_even_29 rfl rfl ?_
    obtain ⟨hq, h⟩ := h
    refine zJ.ddiv (pc := 30) dX5_even_30 hq ?_
    refine zJ.dstore_n (pc := 31) (lv' := [(3, .double (FP.ddiv (FP.l2d (S.2.1 (23, 0, 0) 21)) (FP.i2d (S.1 (40, 0, 0) 8)))), (1, .double (FP.i2d (S.1 (40, 0, 0) 8))), (0, .ref (z_adr o (23, 0, 0)))]) dX5_even_31 rfl (Nat.le_of_ble_eq_true rfl) rfl ?_
    refine zJ.aload_n (pc := 32) 2 dX5_even_32 rfl rfl ?_
    refine zE.getL (pc := 33) (fd_23_22 o) ok_23 kiX5 (Nat.le_of_ble_eq_true rfl) fl_X5_98 dX5_even_33 ?_
    refine zJ.l2d (pc := 36) dX5_even_36 ?_
    refine zJ.dload_n (pc := 37) 1 dX5_even_37 rfl rfl ?_
    obtain ⟨hq, h⟩ := h
    refine zJ.ddiv (pc := 38) dX5_even_38 hq ?_
    refine zJ.dload_n (pc := 39) 0 dX5_even_39 rfl rfl ?_
    refine zJ.dload_n (pc := 40) 0 dX5_even_40 rfl rfl ?_
    obtain ⟨hq, h⟩ := h
    refine zJ.dmul (pc := 41) dX5_even_41 hq ?_
    obtain ⟨hq, h⟩ := h
    refine zJ.dsub (pc := 42) dX5_even_42 hq ?_
    refine zG.callSl (d := mdX5_even) (pc := 43) [.double (FP.dsub (FP.ddiv (FP.l2d (S.2.1 (23, 0, 0) 22)) (FP.i2d (S.1 (40, 0, 0) 8))) (FP.dmul (FP.ddiv (FP.l2d (S.2.1 (23, 0, 0) 21)) (FP.i2d (S.1 (40, 0, 0) 8))) (FP.ddiv (FP.l2d (S.2.1 (23, 0, 0) 21)) (FP.i2d (S.1 (40, 0, 0) 8)))))] [] dX5_even_43 ⟨(cb_Jxe99ae_doubleToLongBits_ccdee).1, (cb_Jxe99ae_doubleToLongBits_ccdee).2, (Nat.le_of_ble_eq_true rfl), (Nat.le_of_ble_eq_true rfl)⟩ ml_X5_244 cs_Jxe99ae_doubleToLongBits_ccdee rfl (Nat.le_of_ble_eq_true rfl) (Nat.le_of_ble_eq_true rfl) rfl h (fun r3 S4 h2 => ?_)
    replace h := h2
    clear h2
    exact zG.ret (pc := 46) (r := some (.long r3)) ⟨dX5_even_46, rfl⟩ h
  · replace h := h.2 c1
    refine zJ.dconst0 (pc := 10) dX5_even_10 ?_
    refine zG.callSl (d := mdX5_even) (pc := 11) [.double FP.dconst0] [] dX5_even_11 ⟨(cb_Jxe99ae_doubleToLongBits_ccdee).1, (cb_Jxe99ae_doubleToLongBits_ccdee).2, (Nat.le_of_ble_eq_true rfl), (Nat.le_of_ble_eq_true rfl)⟩ ml_X5_244 cs_Jxe99ae_doubleToLongBits_ccdee rfl (Nat.le_of_ble_eq_true rfl) (Nat.le_of_ble_eq_true rfl) rfl h (fun r6 S7 h2 => ?_)
    replace h := h2
    clear h2
    exact zG.ret (pc := 14) (r := some (.long r6)) ⟨dX5_even_14, rfl⟩ h
set_option maxRecDepth 100000 in
set_option maxHeartbeats 4000000 in
theorem w_X5_type_0 (o : zW) (x1 : Int32) (S : zS) (Q : Option Value → zS → Prop) (h : zGi o 994 mdX5_in [.int x1, .int 0, .int 127] S (fun r2 S3 => (¬ r2 = 0 → ((¬ (S3.1 (23, 0, 0) 30) = 120 → (vp_in (S3.1 (23, 0, 0) 30) 120 ∧ (∀ y6 : Int32, y6 = ((sI S3 (48, 0, 0) ((S3.1 (23, 0, 0) 30).toNatClampNeg) x1).1 (23, 0, 0) 30) → (∀ S7 : zS, S7 = (sI (sI S3 (48, 0, 0) ((S3.1 (23, 0, 0) 30).toNatClampNeg) x1) (23, 0, 0) 30 (y6 + 1)) → (Q (some (.int (S7.1 (23, 0, 0) 30))) S7))))) ∧ ((S3.1 (23, 0, 0) 30) = 120 → (Q (some (.int (-4))) (sI S3 (24, 0, 0) 2 ((S3.1 (24, 0, 0) 2) + 1)))))) ∧ (r2 = 0 → (zGi o 994 mdX5_bad [.ref (z_adr o (23, 0, 0))] S3 (fun r9 S10 => Q (some (.int r9)) S10))))) : zG o 994 mdX5_type 0 [(0, .ref (z_adr o (23, 0, 0))), (1, .int x1)] [] S Q := by
  show zJ o mdX5_type 0 _ [] (994, z_enc o S) 0 0 _
  refine zJ.iload_n (pc := 0) 1 dX5_type_0 rfl rfl ?_
  refine zJ.iconst (pc := 1) (v := 0) dX5_type_1 (by decide) ?_
  refine zJ.bipush (pc := 2) (v := 127) dX5_type_2 (by decide) ?_
  refine zG.callSi (d := mdX5_type) (pc := 4) [.int x1, .int 0, .int 127] [] dX5_type_4 ⟨(cb_X5_in).1, (cb_X5_in).2, (Nat.le_of_ble_eq_true rfl), (Nat.le_of_ble_eq_true rfl)⟩ ml_X5_101 cs_X5_in rfl (Nat.le_of_ble_eq_true rfl) (Nat.le_of_ble_eq_true rfl) rfl h (fun r2 S3 h2 => ?_)
  replace h := h2
  clear h2
  refine zJ.if_ne (pc := 7) (tgt := 15) dX5_type_7 (by decide) (fun c4 => ?_) (fun c4 => ?_)
  · replace h := h.1 c4
    refine zJ.aload_n (pc := 15) 0 dX5_type_15 rfl rfl ?_
    refine zE.getI (pc := 16) (fd_23_30 o) ok_23 kiX5 (Nat.le_of_ble_eq_true rfl) fl_X5_250 dX5_type_16 ?_
    refine zJ.bipush (pc := 19) (v := 120) dX5_type_19 (by decide) ?_
    refine zJ.icmp_ne (pc := 21) (tgt := 37) dX5_type_21 (by decide) (fun c5 => ?_) (fun c5 => ?_)
    · replace h := h.1 c5
      refine zJ.aload_n (pc := 37) 0 dX5_type_37 rfl rfl ?_
      refine zE.getV (pc := 38) (fd_23_29 o) ok_23 kiX5 (Nat.le_of_ble_eq_true rfl) fl_X5_84 dX5_type_38 ?_
      refine zJ.aload_n (pc := 41) 0 dX5_type_41 rfl rfl ?_
      refine zE.getI (pc := 42) (fd_23_30 o) ok_23 kiX5 (Nat.le_of_ble_eq_true rfl) fl_X5_250 dX5_type_42 ?_
      refine zJ.iload_n (pc := 45) 1 dX5_type_45 rfl rfl ?_
      obtain ⟨hq, h⟩ := h
      refine zE.astI (pc := 46) (ia_48 o) ok_48 hq dX5_type_46 ?_
      refine zJ.aload_n (pc := 47) 0 dX5_type_47 rfl rfl ?_
      refine zJ.dup (pc := 48) dX5_type_48 rfl ?_
      refine zE.getI (pc := 49) (fd_23_30 o) ok_23 kiX5 (Nat.le_of_ble_eq_true rfl) fl_X5_250 dX5_type_49 ?_
      refine zJ.topi (fun y6 hyy6 => ?_)
      replace h := h y6 hyy6
      refine zJ.iconst (pc := 52) (v := 1) dX5_type_52 (by decide) ?_
      refine zJ.iadd (pc := 53) dX5_type_53 ?_
      refine zE.putI (pc := 54) (fd_23_30 o) ok_23 kiX5 (Nat.le_of_ble_eq_true rfl) fl_X5_250 rfl rfl dX5_type_54 ?_
      refine zJ.nameS (fun S7 hyS7 => ?_)
      replace h := h S7 hyS7
      refine zJ.aload_n (pc := 57) 0 dX5_type_57 rfl rfl ?_
      refine zE.getI (pc := 58) (fd_23_30 o) ok_23 kiX5 (Nat.le_of_ble_eq_true rfl) fl_X5_250 dX5_type_58 ?_
      exact zG.ret (pc := 61) (r := some (.int (S7.1 (23, 0, 0) 30))) ⟨dX5_type_61, _, rfl, rfl⟩ h
    · replace h := h.2 c5
      refine zJ.aload_n (pc := 24) 0 dX5_type_24 rfl rfl ?_
      refine zE.getV (pc := 25) (fd_23_0 o) ok_23 kiX5 (Nat.le_of_ble_eq_true rfl) fl_X5_1 dX5_type_25 ?_
      refine zJ.iconst (pc := 28) (v := 2) dX5_type_28 (by decide) ?_
      refine zJ.dup2_11 (pc := 29) dX5_type_29 rfl rfl ?_
      refine zE.aldI (pc := 30) (ia_24 o) ok_24 (by unfold vp_in; decide) dX5_type_30 ?_
      refine zJ.iconst (pc := 31) (v := 1) dX5_type_31 (by decide) ?_
      refine zJ.iadd (pc := 32) dX5_type_32 ?_
      refine zE.astI (pc := 33) (ia_24 o) ok_24 (by unfold vp_in; decide) dX5_type_33 ?_
      refine zJ.bipush (pc := 34) (v := (-4)) dX5_type_34 (by decide) ?_
      exact zG.ret (pc := 36) (r := some (.int (-4))) ⟨dX5_type_36, _, rfl, rfl⟩ h
  · replace h := h.2 c4
    refine zJ.aload_n (pc := 10) 0 dX5_type_10 rfl rfl ?_
    refine zG.callVi (d := mdX5_type) (pc := 11) [] [] (ob_23 o) ok_23 rfl dX5_type_11 ⟨(cb_X5_bad).1, (cb_X5_bad).2, (Nat.le_of_ble_eq_true rfl), (Nat.le_of_ble_eq_true rfl)⟩ ml_X5_130 ci_X5_bad cv_X5_bad rfl (Nat.le_of_ble_eq_true rfl) (Nat.le_of_ble_eq_true rfl) rfl h (fun r9 S10 h2 => ?_)
    replace h := h2
    clear h2
    exact zG.ret (pc := 14) (r := some (.int r9)) ⟨dX5_type_14, _, rfl, rfl⟩ h
set_option maxRecDepth 100000 in
set_option maxHeartbeats 4000000 in
theorem w_X5_clear_0 (o : zW)  (S : zS) (Q : Option Value → zS → Prop) (h : Q (some (.int (S.1 (23, 0, 0) 30))) (sI S (23, 0, 0) 30 0)) : zG o 994 mdX5_clear 0 [(0, .ref (z_adr o (23, 0, 0)))] [] S Q := by
  show zJ o mdX5_clear 0 _ [] (994, z_enc o S) 0 0 _
  refine zJ.aload_n (pc := 0) 0 dX5_clear_0 rfl rfl ?_
  refine zE.getI (pc := 1) (fd_23_30 o) ok_23 kiX5 (Nat.le_of_ble_eq_true rfl) fl_X5_250 dX5_clear_1 ?_
  refine zJ.istore_n (pc := 4) (lv' := [(1, .int (S.1 (23, 0, 0) 30)), (0, .ref (z_adr o (23, 0, 0)))]) dX5_clear_4 rfl (Nat.le_of_ble_eq_true rfl) rfl ?_
  refine zJ.aload_n (pc := 5) 1 dX5_clear_5 rfl rfl ?_
  refine zJ.iconst (pc := 6) (v := 0) dX5_clear_6 (by decide) ?_
  refine zE.putI (pc := 7) (fd_23_30 o) ok_23 kiX5 (Nat.le_of_ble_eq_true rfl) fl_X5_250 rfl rfl dX5_clear_7 ?_
  refine zJ.iload_n (pc := 10) 0 dX5_clear_10 rfl rfl ?_
  exact zG.ret (pc := 11) (r := some (.int (S.1 (23, 0, 0) 30))) ⟨dX5_clear_11, _, rfl, rfl⟩ h
set_option maxRecDepth 100000 in
set_option maxHeartbeats 4000000 in
theorem w_X5_here_0 (o : zW)  (S : zS) (Q : Option Value → zS → Prop) (h : ((S.1 (23, 0, 0) 30) ≤ (S.1 (23, 0, 0) 31) → (Q (some (.int (-1))) S)) ∧ (¬ (S.1 (23, 0, 0) 30) ≤ (S.1 (23, 0, 0) 31) → (vp_in (S.1 (23, 0, 0) 31) 120 ∧ (Q (some (.int (S.1 (48, 0, 0) ((S.1 (23, 0, 0) 31).toNatClampNeg)))) S)))) : zG o 994 mdX5_here 0 [(0, .ref (z_adr o (23, 0, 0)))] [] S Q := by
  show zJ o mdX5_here 0 _ [] (994, z_enc o S) 0 0 _
  refine zJ.aload_n (pc := 0) 0 dX5_here_0 rfl rfl ?_
  refine zE.getI (pc := 1) (fd_23_31 o) ok_23 kiX5 (Nat.le_of_ble_eq_true rfl) fl_X5_253 dX5_here_1 ?_
  refine zJ.aload_n (pc := 4) 0 dX5_here_4 rfl rfl ?_
  refine zE.getI (pc := 5) (fd_23_30 o) ok_23 kiX5 (Nat.le_of_ble_eq_true rfl) fl_X5_250 dX5_here_5 ?_
  refine zJ.icmp_ge (pc := 8) (tgt := 23) dX5_here_8 (by decide) (fun c1 => ?_) (fun c1 => ?_)
  · replace h := h.1 c1
    refine zJ.iconst (pc := 23) (v := (-1)) dX5_here_23 (by decide) ?_
    exact zG.ret (pc := 24) (r := some (.int (-1))) ⟨dX5_here_24, _, rfl, rfl⟩ h
  · replace h := h.2 c1
    refine zJ.aload_n (pc := 11) 0 dX5_here_11 rfl rfl ?_
    refine zE.getV (pc := 12) (fd_23_29 o) ok_23 kiX5 (Nat.le_of_ble_eq_true rfl) fl_X5_84 dX5_here_12 ?_
    refine zJ.aload_n (pc := 15) 0 dX5_here_15 rfl rfl ?_
    refine zE.getI (pc := 16) (fd_23_31 o) ok_23 kiX5 (Nat.le_of_ble_eq_true rfl) fl_X5_253 dX5_here_16 ?_
    obtain ⟨hq, h⟩ := h
    refine zE.aldI (pc := 19) (ia_48 o) ok_48 hq dX5_here_19 ?_
    refine zJ.goto (pc := 20) (tgt := 24) dX5_here_20 (by decide) ?_
    exact zG.ret (pc := 24) (r := some (.int (S.1 (48, 0, 0) ((S.1 (23, 0, 0) 31).toNatClampNeg)))) ⟨dX5_here_24, _, rfl, rfl⟩ h
set_option maxRecDepth 100000 in
set_option maxHeartbeats 4000000 in
theorem w_X5_skips_0 (o : zW)  (S : zS) (Q : Option Value → zS → Prop) (h : zGi o 994 mdX5_here [.ref (z_adr o (23, 0, 0))] S (fun r2 S3 => (¬ r2 = 32 → (Q none (sI S3 (23, 0, 0) 32 (S3.1 (23, 0, 0) 31)))) ∧ (r2 = 32 → (zG o 994 mdX5_skips 0 [(0, .ref (z_adr o (23, 0, 0)))] [] (sI S3 (23, 0, 0) 31 ((S3.1 (23, 0, 0) 31) + 1)) Q)))) : zG o 994 mdX5_skips 0 [(0, .ref (z_adr o (23, 0, 0)))] [] S Q := by
  show zJ o mdX5_skips 0 _ [] (994, z_enc o S) 0 0 _
  refine zJ.aload_n (pc := 0) 0 dX5_skips_0 rfl rfl ?_
  refine zG.callVi (d := mdX5_skips) (pc := 1) [] [] (ob_23 o) ok_23 rfl dX5_skips_1 ⟨(cb_X5_here).1, (cb_X5_here).2, (Nat.le_of_ble_eq_true rfl), (Nat.le_of_ble_eq_true rfl)⟩ ml_X5_256 ci_X5_here cv_X5_here rfl (Nat.le_of_ble_eq_true rfl) (Nat.le_of_ble_eq_true rfl) rfl h (fun r2 S3 h2 => ?_)
  replace h := h2
  clear h2
  refine zJ.bipush (pc := 4) (v := 32) dX5_skips_4 (by decide) ?_
  refine zJ.icmp_ne (pc := 6) (tgt := 22) dX5_skips_6 (by decide) (fun c4 => ?_) (fun c4 => ?_)
  · replace h := h.1 c4
    refine zJ.aload_n (pc := 22) 0 dX5_skips_22 rfl rfl ?_
    refine zJ.aload_n (pc := 23) 0 dX5_skips_23 rfl rfl ?_
    refine zE.getI (pc := 24) (fd_23_31 o) ok_23 kiX5 (Nat.le_of_ble_eq_true rfl) fl_X5_253 dX5_skips_24 ?_
    refine zE.putI (pc := 27) (fd_23_32 o) ok_23 kiX5 (Nat.le_of_ble_eq_true rfl) fl_X5_259 rfl rfl dX5_skips_27 ?_
    exact zG.ret (pc := 30) (r := none) ⟨dX5_skips_30, rfl⟩ h
  · replace h := h.2 c4
    refine zJ.aload_n (pc := 9) 0 dX5_skips_9 rfl rfl ?_
    refine zJ.dup (pc := 10) dX5_skips_10 rfl ?_
    refine zE.getI (pc := 11) (fd_23_31 o) ok_23 kiX5 (Nat.le_of_ble_eq_true rfl) fl_X5_253 dX5_skips_11 ?_
    refine zJ.iconst (pc := 14) (v := 1) dX5_skips_14 (by decide) ?_
    refine zJ.iadd (pc := 15) dX5_skips_15 ?_
    refine zE.putI (pc := 16) (fd_23_31 o) ok_23 kiX5 (Nat.le_of_ble_eq_true rfl) fl_X5_253 rfl rfl dX5_skips_16 ?_
    refine zJ.goto (pc := 19) (tgt := 0) dX5_skips_19 (by decide) ?_
    exact h
set_option maxRecDepth 100000 in
set_option maxHeartbeats 4000000 in
theorem w_X5_number_0 (o : zW)  (S : zS) (Q : Option Value → zS → Prop) (h : zGv o 994 mdX5_skips [.ref (z_adr o (23, 0, 0))] S (fun S3 => zG o 994 mdX5_number 8 [(0, .ref (z_adr o (23, 0, 0))), (1, .int 0), (2, .int 0)] [] S3 Q)) : zG o 994 mdX5_number 0 [(0, .ref (z_adr o (23, 0, 0)))] [] S Q := by
  show zJ o mdX5_number 0 _ [] (994, z_enc o S) 0 0 _
  refine zJ.aload_n (pc := 0) 0 dX5_number_0 rfl rfl ?_
  refine zG.callVv (d := mdX5_number) (pc := 1) [] [] (ob_23 o) ok_23 rfl dX5_number_1 ⟨(cb_X5_skips).1, (cb_X5_skips).2, (Nat.le_of_ble_eq_true rfl), (Nat.le_of_ble_eq_true rfl)⟩ ml_X5_262 ci_X5_skips cv_X5_skips rfl (Nat.le_of_ble_eq_true rfl) (Nat.le_of_ble_eq_true rfl) rfl h (fun S3 h2 => ?_)
  replace h := h2
  clear h2
  refine zJ.iconst (pc := 4) (v := 0) dX5_number_4 (by decide) ?_
  refine zJ.istore_n (pc := 5) (lv' := [(1, .int 0), (0, .ref (z_adr o (23, 0, 0)))]) dX5_number_5 rfl (Nat.le_of_ble_eq_true rfl) rfl ?_
  refine zJ.iconst (pc := 6) (v := 0) dX5_number_6 (by decide) ?_
  refine zJ.istore_n (pc := 7) (lv' := [(2, .int 0), (1, .int 0), (0, .ref (z_adr o (23, 0, 0)))]) dX5_number_7 rfl (Nat.le_of_ble_eq_true rfl) rfl ?_
  exact zJ.sub [2, 1, 0] rfl h
set_option maxRecDepth 100000 in
set_option maxHeartbeats 4000000 in
theorem w_X5_number_8 (o : zW) (x1 : Int32) (x2 : Int32) (S : zS) (Q : Option Value → zS → Prop) (h : zGi o 994 mdX5_here [.ref (z_adr o (23, 0, 0))] S (fun r2 S3 => zGi o 994 mdX5_in [.int r2, .int 48, .int 57] S3 (fun r5 S6 => (r5 = 0 → (zGi o 994 mdX5_in [.int x1, .int 1, .int 2] (sI S6 (23, 0, 0) 33 x2) (fun r9 S10 => narrow .boolean (.int r9) = .int r9 ∧ Q (some (.int r9)) S10))) ∧ (¬ r5 = 0 → ((2 ≤ x1 → (zG o 994 mdX5_number 8 [(0, .ref (z_adr o (23, 0, 0))), (1, .int (x1 + 1)), (2, .int x2)] [] (sI S6 (23, 0, 0) 31 ((S6.1 (23, 0, 0) 31) + 1)) Q)) ∧ (¬ 2 ≤ x1 → (zGi o 994 mdX5_here [.ref (z_adr o (23, 0, 0))] S6 (fun r13 S14 => zG o 994 mdX5_number 8 [(0, .ref (z_adr o (23, 0, 0))), (1, .int (x1 + 1)), (2, .int (((10 * x2) + r13) - 48))] [] (sI S14 (23, 0, 0) 31 ((S14.1 (23, 0, 0) 31) + 1)) Q)))))))) : zG o 994 mdX5_number 8 [(0, .ref (z_adr o (23, 0, 0))), (1, .int x1), (2, .int x2)] [] S Q := by
  show zJ o mdX5_number 8 _ [] (994, z_enc o S) 0 0 _
  refine zJ.aload_n (pc := 8) 0 dX5_number_8 rfl rfl ?_
  refine zG.callVi (d := mdX5_number) (pc := 9) [] [] (ob_23 o) ok_23 rfl dX5_number_9 ⟨(cb_X5_here).1, (cb_X5_here).2, (Nat.le_of_ble_eq_true rfl), (Nat.le_of_ble_eq_true rfl)⟩ ml_X5_256 ci_X5_here cv_X5_here rfl (Nat.le_of_ble_eq_true rfl) (Nat.le_of_ble_eq_true rfl) rfl h (fun r2 S3 h2 => ?_)
  replace h := h2
  clear h2
  refine zJ.bipush (pc := 12) (v := 48) dX5_number_12 (by decide) ?_
  refine zJ.bipush (pc := 14) (v := 57) dX5_number_14 (by decide) ?_
  refine zG.callSi (d := mdX5_number) (pc := 16) [.int r2, .int 48, .int 57] [] dX5_number_16 ⟨(cb_X5_in).1, (cb_X5_in).2, (Nat.le_of_ble_eq_true rfl), (Nat.le_of_ble_eq_true rfl)⟩ ml_X5_101 cs_X5_in rfl (Nat.le_of_ble_eq_true rfl) (Nat.le_of_ble_eq_true rfl) rfl h (fun r5 S6 h2 => ?_)
  replace h := h2
  clear h2
  refine zJ.if_eq (pc := 19) (tgt := 60) dX5_number_19 (by decide) (fun c7 => ?_) (fun c7 => ?_)
  · replace h := h.1 c7
    refine zJ.aload_n (pc := 60) 0 dX5_number_60 rfl rfl ?_
    refine zJ.iload_n (pc := 61) 2 dX5_number_61 rfl rfl ?_
    refine zE.putI (pc := 62) (fd_23_33 o) ok_23 kiX5 (Nat.le_of_ble_eq_true rfl) fl_X5_265 rfl rfl dX5_number_62 ?_
    refine zJ.iload_n (pc := 65) 1 dX5_number_65 rfl rfl ?_
    refine zJ.iconst (pc := 66) (v := 1) dX5_number_66 (by decide) ?_
    refine zJ.iconst (pc := 67) (v := 2) dX5_number_67 (by decide) ?_
    refine zG.callSi (d := mdX5_number) (pc := 68) [.int x1, .int 1, .int 2] [] dX5_number_68 ⟨(cb_X5_in).1, (cb_X5_in).2, (Nat.le_of_ble_eq_true rfl), (Nat.le_of_ble_eq_true rfl)⟩ ml_X5_101 cs_X5_in rfl (Nat.le_of_ble_eq_true rfl) (Nat.le_of_ble_eq_true rfl) rfl h (fun r9 S10 h2 => ?_)
    replace h := h2
    clear h2
    exact zG.ret (pc := 71) (r := some (.int r9)) ⟨dX5_number_71, _, rfl, h.1⟩ h.2
  · replace h := h.2 c7
    refine zJ.iload_n (pc := 22) 1 dX5_number_22 rfl rfl ?_
    refine zJ.iconst (pc := 23) (v := 2) dX5_number_23 (by decide) ?_
    refine zJ.icmp_ge (pc := 24) (tgt := 42) dX5_number_24 (by decide) (fun c11 => ?_) (fun c11 => ?_)
    · replace h := h.1 c11
      refine zJ.iload_n (pc := 42) 2 dX5_number_42 rfl rfl ?_
      refine zJ.istore_n (pc := 43) (lv' := [(2, .int x2), (0, .ref (z_adr o (23, 0, 0))), (1, .int x1)]) dX5_number_43 rfl (Nat.le_of_ble_eq_true rfl) rfl ?_
      refine zJ.iinc (pc := 44) (k := 2) (lv' := [(1, .int (x1 + 1)), (2, .int x2), (0, .ref (z_adr o (23, 0, 0)))]) dX5_number_44 rfl rfl (Nat.le_of_ble_eq_true rfl) rfl ?_
      refine zJ.aload_n (pc := 47) 2 dX5_number_47 rfl rfl ?_
      refine zJ.dup (pc := 48) dX5_number_48 rfl ?_
      refine zE.getI (pc := 49) (fd_23_31 o) ok_23 kiX5 (Nat.le_of_ble_eq_true rfl) fl_X5_253 dX5_number_49 ?_
      refine zJ.iconst (pc := 52) (v := 1) dX5_number_52 (by decide) ?_
      refine zJ.iadd (pc := 53) dX5_number_53 ?_
      refine zE.putI (pc := 54) (fd_23_31 o) ok_23 kiX5 (Nat.le_of_ble_eq_true rfl) fl_X5_253 rfl rfl dX5_number_54 ?_
      refine zJ.goto (pc := 57) (tgt := 8) dX5_number_57 (by decide) ?_
      exact zJ.sub [2, 0, 1] rfl h
    · replace h := h.2 c11
      refine zJ.bipush (pc := 27) (v := 10) dX5_number_27 (by decide) ?_
      refine zJ.iload_n (pc := 29) 2 dX5_number_29 rfl rfl ?_
      refine zJ.imul (pc := 30) dX5_number_30 ?_
      refine zJ.aload_n (pc := 31) 0 dX5_number_31 rfl rfl ?_
      refine zG.callVi (d := mdX5_number) (pc := 32) [] [.int (10 * x2)] (ob_23 o) ok_23 rfl dX5_number_32 ⟨(cb_X5_here).1, (cb_X5_here).2, (Nat.le_of_ble_eq_true rfl), (Nat.le_of_ble_eq_true rfl)⟩ ml_X5_256 ci_X5_here cv_X5_here rfl (Nat.le_of_ble_eq_true rfl) (Nat.le_of_ble_eq_true rfl) rfl h (fun r13 S14 h2 => ?_)
      replace h := h2
      clear h2
      refine zJ.iadd (pc := 35) dX5_number_35 ?_
      refine zJ.bipush (pc := 36) (v := 48) dX5_number_36 (by decide) ?_
      refine zJ.isub (pc := 38) dX5_number_38 ?_
      refine zJ.goto (pc := 39) (tgt := 43) dX5_number_39 (by decide) ?_
      refine zJ.istore_n (pc := 43) (lv' := [(2, .int (((10 * x2) + r13) - 48)), (0, .ref (z_adr o (23, 0, 0))), (1, .int x1)]) dX5_number_43 rfl (Nat.le_of_ble_eq_true rfl) rfl ?_
      refine zJ.iinc (pc := 44) (k := 2) (lv' := [(1, .int (x1 + 1)), (2, .int (((10 * x2) + r13) - 48)), (0, .ref (z_adr o (23, 0, 0)))]) dX5_number_44 rfl rfl (Nat.le_of_ble_eq_true rfl) rfl ?_
      refine zJ.aload_n (pc := 47) 2 dX5_number_47 rfl rfl ?_
      refine zJ.dup (pc := 48) dX5_number_48 rfl ?_
      refine zE.getI (pc := 49) (fd_23_31 o) ok_23 kiX5 (Nat.le_of_ble_eq_true rfl) fl_X5_253 dX5_number_49 ?_
      refine zJ.iconst (pc := 52) (v := 1) dX5_number_52 (by decide) ?_
      refine zJ.iadd (pc := 53) dX5_number_53 ?_
      refine zE.putI (pc := 54) (fd_23_31 o) ok_23 kiX5 (Nat.le_of_ble_eq_true rfl) fl_X5_253 rfl rfl dX5_number_54 ?_
      refine zJ.goto (pc := 57) (tgt := 8) dX5_number_57 (by decide) ?_
      exact zJ.sub [2, 0, 1] rfl h
set_option maxRecDepth 100000 in
set_option maxHeartbeats 4000000 in
theorem w_X5_ends_0 (o : zW)  (S : zS) (Q : Option Value → zS → Prop) (h : zGv o 994 mdX5_skips [.ref (z_adr o (23, 0, 0))] S (fun S3 => zGi o 994 mdX5_here [.ref (z_adr o (23, 0, 0))] S3 (fun r5 S6 => (r5 = 59 → (Q (some (.int 1)) (sI S6 (23, 0, 0) 31 ((S6.1 (23, 0, 0) 31) + 1)))) ∧ (¬ r5 = 59 → (Q (some (.int 0)) S6))))) : zG o 994 mdX5_ends 0 [(0, .ref (z_adr o (23, 0, 0)))] [] S Q := by
  show zJ o mdX5_ends 0 _ [] (994, z_enc o S) 0 0 _
  refine zJ.aload_n (pc := 0) 0 dX5_ends_0 rfl rfl ?_
  refine zG.callVv (d := mdX5_ends) (pc := 1) [] [] (ob_23 o) ok_23 rfl dX5_ends_1 ⟨(cb_X5_skips).1, (cb_X5_skips).2, (Nat.le_of_ble_eq_true rfl), (Nat.le_of_ble_eq_true rfl)⟩ ml_X5_262 ci_X5_skips cv_X5_skips rfl (Nat.le_of_ble_eq_true rfl) (Nat.le_of_ble_eq_true rfl) rfl h (fun S3 h2 => ?_)
  replace h := h2
  clear h2
  refine zJ.aload_n (pc := 4) 0 dX5_ends_4 rfl rfl ?_
  refine zG.callVi (d := mdX5_ends) (pc := 5) [] [] (ob_23 o) ok_23 rfl dX5_ends_5 ⟨(cb_X5_here).1, (cb_X5_here).2, (Nat.le_of_ble_eq_true rfl), (Nat.le_of_ble_eq_true rfl)⟩ ml_X5_256 ci_X5_here cv_X5_here rfl (Nat.le_of_ble_eq_true rfl) (Nat.le_of_ble_eq_true rfl) rfl h (fun r5 S6 h2 => ?_)
  replace h := h2
  clear h2
  refine zJ.bipush (pc := 8) (v := 59) dX5_ends_8 (by decide) ?_
  refine zJ.icmp_eq (pc := 10) (tgt := 15) dX5_ends_10 (by decide) (fun c7 => ?_) (fun c7 => ?_)
  · replace h := h.1 c7
    refine zJ.aload_n (pc := 15) 0 dX5_ends_15 rfl rfl ?_
    refine zJ.dup (pc := 16) dX5_ends_16 rfl ?_
    refine zE.getI (pc := 17) (fd_23_31 o) ok_23 kiX5 (Nat.le_of_ble_eq_true rfl) fl_X5_253 dX5_ends_17 ?_
    refine zJ.iconst (pc := 20) (v := 1) dX5_ends_20 (by decide) ?_
    refine zJ.iadd (pc := 21) dX5_ends_21 ?_
    refine zE.putI (pc := 22) (fd_23_31 o) ok_23 kiX5 (Nat.le_of_ble_eq_true rfl) fl_X5_253 rfl rfl dX5_ends_22 ?_
    refine zJ.iconst (pc := 25) (v := 1) dX5_ends_25 (by decide) ?_
    exact zG.ret (pc := 26) (r := some (.int 1)) ⟨dX5_ends_26, _, rfl, rfl⟩ h
  · replace h := h.2 c7
    refine zJ.iconst (pc := 13) (v := 0) dX5_ends_13 (by decide) ?_
    exact zG.ret (pc := 14) (r := some (.int 0)) ⟨dX5_ends_14, _, rfl, rfl⟩ h
set_option maxRecDepth 100000 in
set_option maxHeartbeats 4000000 in
theorem w_X5_readsBox_0 (o : zW) (x1 : Int32) (S : zS) (Q : Option Value → zS → Prop) (h : zGi o 994 mdX5_here [.ref (z_adr o (23, 0, 0))] S (fun r2 S3 => zGv o 994 mdX5_skips [.ref (z_adr o (23, 0, 0))] (sI S3 (23, 0, 0) 31 ((S3.1 (23, 0, 0) 31) + 1)) (fun S6 => zGi o 994 mdX5_here [.ref (z_adr o (23, 0, 0))] S6 (fun r8 S9 => zGi o 994 mdX5_in [.int r8, .int 48, .int 51] S9 (fun r11 S12 => (¬ r11 = 0 → (zGi o 994 mdX5_here [.ref (z_adr o (23, 0, 0))] S12 (fun r15 S16 => zGv o 994 mdX5_skips [.ref (z_adr o (23, 0, 0))] (sI S16 (23, 0, 0) 31 ((S16.1 (23, 0, 0) 31) + 1)) (fun S19 => zGi o 994 mdX5_here [.ref (z_adr o (23, 0, 0))] S19 (fun r21 S22 => (¬ r21 = 61 → (zGi o 994 mdX5_ends [.ref (z_adr o (23, 0, 0))] S22 (fun r27 S28 => (¬ r27 = 0 → ((x1 = 0 → (Q (some (.int 1)) S28)) ∧ (¬ x1 = 0 → (zGi o 994 mdX5_done [.ref (z_adr o (23, 0, 0)), .int 0, .int (r2 - 97), .int (r15 - 48), .int 0] S28 (fun r33 S34 => Q (some (.int 1)) S34))))) ∧ (r27 = 0 → (Q (some (.int 0)) S28))))) ∧ (r21 = 61 → (zGi o 994 mdX5_number [.ref (z_adr o (23, 0, 0))] (sI S22 (23, 0, 0) 31 ((S22.1 (23, 0, 0) 31) + 1)) (fun r37 S38 => (¬ r37 = 0 → (zGi o 994 mdX5_ends [.ref (z_adr o (23, 0, 0))] S38 (fun r42 S43 => (¬ r42 = 0 → ((x1 = 0 → (Q (some (.int 1)) S43)) ∧ (¬ x1 = 0 → (zGi o 994 mdX5_done [.ref (z_adr o (23, 0, 0)), .int 1, .int (r2 - 97), .int (r15 - 48), .int (S38.1 (23, 0, 0) 33)] S43 (fun r48 S49 => Q (some (.int 1)) S49))))) ∧ (r42 = 0 → (Q (some (.int 0)) S43))))) ∧ (r37 = 0 → (Q (some (.int 0)) S38)))))))))) ∧ (r11 = 0 → (Q (some (.int 0)) S12))))))) : zG o 994 mdX5_readsBox 0 [(0, .ref (z_adr o (23, 0, 0))), (1, .int x1)] [] S Q := by
  show zJ o mdX5_readsBox 0 _ [] (994, z_enc o S) 0 0 _
  refine zJ.aload_n (pc := 0) 0 dX5_readsBox_0 rfl rfl ?_
  refine zG.callVi (d := mdX5_readsBox) (pc := 1) [] [] (ob_23 o) ok_23 rfl dX5_readsBox_1 ⟨(cb_X5_here).1, (cb_X5_here).2, (Nat.le_of_ble_eq_true rfl), (Nat.le_of_ble_eq_true rfl)⟩ ml_X5_256 ci_X5_here cv_X5_here rfl (Nat.le_of_ble_eq_true rfl) (Nat.le_of_ble_eq_true rfl) rfl h (fun r2 S3 h2 => ?_)
  replace h := h2
  clear h2
  refine zJ.bipush (pc := 4) (v := 97) dX5_readsBox_4 (by decide) ?_
  refine zJ.isub (pc := 6) dX5_readsBox_6 ?_
  refine zJ.istore_n (pc := 7) (lv' := [(2, .int (r2 - 97)), (0, .ref (z_adr o (23, 0, 0))), (1, .int x1)]) dX5_readsBox_7 rfl (Nat.le_of_ble_eq_true rfl) rfl ?_
  refine zJ.aload_n (pc := 8) 1 dX5_readsBox_8 rfl rfl ?_
  refine zJ.dup (pc := 9) dX5_readsBox_9 rfl ?_
  refine zE.getI (pc := 10) (fd_23_31 o) ok_23 kiX5 (Nat.le_of_ble_eq_true rfl) fl_X5_253 dX5_readsBox_10 ?_
  refine zJ.iconst (pc := 13) (v := 1) dX5_readsBox_13 (by decide) ?_
  refine zJ.iadd (pc := 14) dX5_readsBox_14 ?_
  refine zE.putI (pc := 15) (fd_23_31 o) ok_23 kiX5 (Nat.le_of_ble_eq_true rfl) fl_X5_253 rfl rfl dX5_readsBox_15 ?_
  refine zJ.aload_n (pc := 18) 1 dX5_readsBox_18 rfl rfl ?_
  refine zG.callVv (d := mdX5_readsBox) (pc := 19) [] [] (ob_23 o) ok_23 rfl dX5_readsBox_19 ⟨(cb_X5_skips).1, (cb_X5_skips).2, (Nat.le_of_ble_eq_true rfl), (Nat.le_of_ble_eq_true rfl)⟩ ml_X5_262 ci_X5_skips cv_X5_skips rfl (Nat.le_of_ble_eq_true rfl) (Nat.le_of_ble_eq_true rfl) rfl h (fun S6 h2 => ?_)
  replace h := h2
  clear h2
  refine zJ.aload_n (pc := 22) 1 dX5_readsBox_22 rfl rfl ?_
  refine zG.callVi (d := mdX5_readsBox) (pc := 23) [] [] (ob_23 o) ok_23 rfl dX5_readsBox_23 ⟨(cb_X5_here).1, (cb_X5_here).2, (Nat.le_of_ble_eq_true rfl), (Nat.le_of_ble_eq_true rfl)⟩ ml_X5_256 ci_X5_here cv_X5_here rfl (Nat.le_of_ble_eq_true rfl) (Nat.le_of_ble_eq_true rfl) rfl h (fun r8 S9 h2 => ?_)
  replace h := h2
  clear h2
  refine zJ.bipush (pc := 26) (v := 48) dX5_readsBox_26 (by decide) ?_
  refine zJ.bipush (pc := 28) (v := 51) dX5_readsBox_28 (by decide) ?_
  refine zG.callSi (d := mdX5_readsBox) (pc := 30) [.int r8, .int 48, .int 51] [] dX5_readsBox_30 ⟨(cb_X5_in).1, (cb_X5_in).2, (Nat.le_of_ble_eq_true rfl), (Nat.le_of_ble_eq_true rfl)⟩ ml_X5_101 cs_X5_in rfl (Nat.le_of_ble_eq_true rfl) (Nat.le_of_ble_eq_true rfl) rfl h (fun r11 S12 h2 => ?_)
  replace h := h2
  clear h2
  refine zJ.if_ne (pc := 33) (tgt := 38) dX5_readsBox_33 (by decide) (fun c13 => ?_) (fun c13 => ?_)
  · replace h := h.1 c13
    refine zJ.aload_n (pc := 38) 1 dX5_readsBox_38 rfl rfl ?_
    refine zG.callVi (d := mdX5_readsBox) (pc := 39) [] [] (ob_23 o) ok_23 rfl dX5_readsBox_39 ⟨(cb_X5_here).1, (cb_X5_here).2, (Nat.le_of_ble_eq_true rfl), (Nat.le_of_ble_eq_true rfl)⟩ ml_X5_256 ci_X5_here cv_X5_here rfl (Nat.le_of_ble_eq_true rfl) (Nat.le_of_ble_eq_true rfl) rfl h (fun r15 S16 h2 => ?_)
    replace h := h2
    clear h2
    refine zJ.bipush (pc := 42) (v := 48) dX5_readsBox_42 (by decide) ?_
    refine zJ.isub (pc := 44) dX5_readsBox_44 ?_
    refine zJ.istore_n (pc := 45) (lv' := [(3, .int (r15 - 48)), (2, .int (r2 - 97)), (0, .ref (z_adr o (23, 0, 0))), (1, .int x1)]) dX5_readsBox_45 rfl (Nat.le_of_ble_eq_true rfl) rfl ?_
    refine zJ.aload_n (pc := 46) 2 dX5_readsBox_46 rfl rfl ?_
    refine zJ.dup (pc := 47) dX5_readsBox_47 rfl ?_
    refine zE.getI (pc := 48) (fd_23_31 o) ok_23 kiX5 (Nat.le_of_ble_eq_true rfl) fl_X5_253 dX5_readsBox_48 ?_
    refine zJ.iconst (pc := 51) (v := 1) dX5_readsBox_51 (by decide) ?_
    refine zJ.iadd (pc := 52) dX5_readsBox_52 ?_
    refine zE.putI (pc := 53) (fd_23_31 o) ok_23 kiX5 (Nat.le_of_ble_eq_true rfl) fl_X5_253 rfl rfl dX5_readsBox_53 ?_
    refine zJ.aload_n (pc := 56) 2 dX5_readsBox_56 rfl rfl ?_
    refine zG.callVv (d := mdX5_readsBox) (pc := 57) [] [] (ob_23 o) ok_23 rfl dX5_readsBox_57 ⟨(cb_X5_skips).1, (cb_X5_skips).2, (Nat.le_of_ble_eq_true rfl), (Nat.le_of_ble_eq_true rfl)⟩ ml_X5_262 ci_X5_skips cv_X5_skips rfl (Nat.le_of_ble_eq_true rfl) (Nat.le_of_ble_eq_true rfl) rfl h (fun S19 h2 => ?_)
    replace h := h2
    clear h2
    refine zJ.aload_n (pc := 60) 2 dX5_readsBox_60 rfl rfl ?_
    refine zG.callVi (d := mdX5_readsBox) (pc := 61) [] [] (ob_23 o) ok_23 rfl dX5_readsBox_61 ⟨(cb_X5_here).1, (cb_X5_here).2, (Nat.le_of_ble_eq_true rfl), (Nat.le_of_ble_eq_true rfl)⟩ ml_X5_256 ci_X5_here cv_X5_here rfl (Nat.le_of_ble_eq_true rfl) (Nat.le_of_ble_eq_true rfl) rfl h (fun r21 S22 h2 => ?_)
    replace h := h2
    clear h2
    refine zJ.bipush (pc := 64) (v := 61) dX5_readsBox_64 (by decide) ?_
    refine zJ.icmp_ne (pc := 66) (tgt := 73) dX5_readsBox_66 (by decide) (fun c23 => ?_) (fun c23 => ?_)
    · replace h := h.1 c23
      refine zJ.iconst (pc := 73) (v := 0) dX5_readsBox_73 (by decide) ?_
      refine zJ.istore (pc := 74) (lv' := [(4, .int 0), (3, .int (r15 - 48)), (2, .int (r2 - 97)), (0, .ref (z_adr o (23, 0, 0))), (1, .int x1)]) dX5_readsBox_74 (Nat.le_of_ble_eq_true rfl) rfl ?_
      refine zJ.iload (pc := 76) 0 dX5_readsBox_76 rfl ?_
      refine zJ.if_eq (pc := 78) (tgt := 100) dX5_readsBox_78 (by decide) (fun c24 => ?_) (fun c24 => absurd c24 (by decide))
      refine zJ.iload (pc := 100) 0 dX5_readsBox_100 rfl ?_
      refine zJ.if_eq (pc := 102) (tgt := 112) dX5_readsBox_102 (by decide) (fun c25 => ?_) (fun c25 => absurd c25 (by decide))
      refine zJ.iconst (pc := 112) (v := 0) dX5_readsBox_112 (by decide) ?_
      refine zJ.istore (pc := 113) (lv' := [(5, .int 0), (4, .int 0), (3, .int (r15 - 48)), (2, .int (r2 - 97)), (0, .ref (z_adr o (23, 0, 0))), (1, .int x1)]) dX5_readsBox_113 (Nat.le_of_ble_eq_true rfl) rfl ?_
      refine zJ.aload_n (pc := 115) 4 dX5_readsBox_115 rfl rfl ?_
      refine zG.callVi (d := mdX5_readsBox) (pc := 116) [] [] (ob_23 o) ok_23 rfl dX5_readsBox_116 ⟨(cb_X5_ends).1, (cb_X5_ends).2, (Nat.le_of_ble_eq_true rfl), (Nat.le_of_ble_eq_true rfl)⟩ ml_X5_272 ci_X5_ends cv_X5_ends rfl (Nat.le_of_ble_eq_true rfl) (Nat.le_of_ble_eq_true rfl) rfl h (fun r27 S28 h2 => ?_)
      replace h := h2
      clear h2
      refine zJ.if_ne (pc := 119) (tgt := 124) dX5_readsBox_119 (by decide) (fun c29 => ?_) (fun c29 => ?_)
      · replace h := h.1 c29
        refine zJ.iload_n (pc := 124) 5 dX5_readsBox_124 rfl rfl ?_
        refine zJ.if_eq (pc := 125) (tgt := 147) dX5_readsBox_125 (by decide) (fun c30 => ?_) (fun c30 => ?_)
        · replace h := h.1 c30
          refine zJ.iconst (pc := 147) (v := 1) dX5_readsBox_147 (by decide) ?_
          exact zG.ret (pc := 148) (r := some (.int 1)) ⟨dX5_readsBox_148, _, rfl, rfl⟩ h
        · replace h := h.2 c30
          refine zJ.aload_n (pc := 128) 4 dX5_readsBox_128 rfl rfl ?_
          refine zJ.iload (pc := 129) 1 dX5_readsBox_129 rfl ?_
          refine zJ.if_eq (pc := 131) (tgt := 138) dX5_readsBox_131 (by decide) (fun c31 => ?_) (fun c31 => absurd c31 (by decide))
          refine zJ.iconst (pc := 138) (v := 0) dX5_readsBox_138 (by decide) ?_
          refine zJ.iload_n (pc := 139) 3 dX5_readsBox_139 rfl rfl ?_
          refine zJ.iload_n (pc := 140) 2 dX5_readsBox_140 rfl rfl ?_
          refine zJ.iload (pc := 141) 0 dX5_readsBox_141 rfl ?_
          refine zG.callVi (d := mdX5_readsBox) (pc := 143) [.int 0, .int (r2 - 97), .int (r15 - 48), .int 0] [] (ob_23 o) ok_23 rfl dX5_readsBox_143 ⟨(cb_X5_done).1, (cb_X5_done).2, (Nat.le_of_ble_eq_true rfl), (Nat.le_of_ble_eq_true rfl)⟩ ml_X5_203 ci_X5_done cv_X5_done rfl (Nat.le_of_ble_eq_true rfl) (Nat.le_of_ble_eq_true rfl) rfl h (fun r33 S34 h2 => ?_)
          replace h := h2
          clear h2
          refine zJ.pop (pc := 146) dX5_readsBox_146 rfl ?_
          refine zJ.iconst (pc := 147) (v := 1) dX5_readsBox_147 (by decide) ?_
          exact zG.ret (pc := 148) (r := some (.int 1)) ⟨dX5_readsBox_148, _, rfl, rfl⟩ h
      · replace h := h.2 c29
        refine zJ.iconst (pc := 122) (v := 0) dX5_readsBox_122 (by decide) ?_
        exact zG.ret (pc := 123) (r := some (.int 0)) ⟨dX5_readsBox_123, _, rfl, rfl⟩ h
    · replace h := h.2 c23
      refine zJ.iconst (pc := 69) (v := 1) dX5_readsBox_69 (by decide) ?_
      refine zJ.goto (pc := 70) (tgt := 74) dX5_readsBox_70 (by decide) ?_
      refine zJ.istore (pc := 74) (lv' := [(4, .int 1), (3, .int (r15 - 48)), (2, .int (r2 - 97)), (0, .ref (z_adr o (23, 0, 0))), (1, .int x1)]) dX5_readsBox_74 (Nat.le_of_ble_eq_true rfl) rfl ?_
      refine zJ.iload (pc := 76) 0 dX5_readsBox_76 rfl ?_
      refine zJ.if_eq (pc := 78) (tgt := 100) dX5_readsBox_78 (by decide) (fun c35 => absurd c35 (by decide)) (fun c35 => ?_)
      refine zJ.aload_n (pc := 81) 3 dX5_readsBox_81 rfl rfl ?_
      refine zJ.dup (pc := 82) dX5_readsBox_82 rfl ?_
      refine zE.getI (pc := 83) (fd_23_31 o) ok_23 kiX5 (Nat.le_of_ble_eq_true rfl) fl_X5_253 dX5_readsBox_83 ?_
      refine zJ.iconst (pc := 86) (v := 1) dX5_readsBox_86 (by decide) ?_
      refine zJ.iadd (pc := 87) dX5_readsBox_87 ?_
      refine zE.putI (pc := 88) (fd_23_31 o) ok_23 kiX5 (Nat.le_of_ble_eq_true rfl) fl_X5_253 rfl rfl dX5_readsBox_88 ?_
      refine zJ.aload_n (pc := 91) 3 dX5_readsBox_91 rfl rfl ?_
      refine zG.callVi (d := mdX5_readsBox) (pc := 92) [] [] (ob_23 o) ok_23 rfl dX5_readsBox_92 ⟨(cb_X5_number).1, (cb_X5_number).2, (Nat.le_of_ble_eq_true rfl), (Nat.le_of_ble_eq_true rfl)⟩ ml_X5_268 ci_X5_number cv_X5_number rfl (Nat.le_of_ble_eq_true rfl) (Nat.le_of_ble_eq_true rfl) rfl h (fun r37 S38 h2 => ?_)
      replace h := h2
      clear h2
      refine zJ.if_ne (pc := 95) (tgt := 100) dX5_readsBox_95 (by decide) (fun c39 => ?_) (fun c39 => ?_)
      · replace h := h.1 c39
        refine zJ.iload (pc := 100) 0 dX5_readsBox_100 rfl ?_
        refine zJ.if_eq (pc := 102) (tgt := 112) dX5_readsBox_102 (by decide) (fun c40 => absurd c40 (by decide)) (fun c40 => ?_)
        refine zJ.aload_n (pc := 105) 3 dX5_readsBox_105 rfl rfl ?_
        refine zE.getI (pc := 106) (fd_23_33 o) ok_23 kiX5 (Nat.le_of_ble_eq_true rfl) fl_X5_265 dX5_readsBox_106 ?_
        refine zJ.goto (pc := 109) (tgt := 113) dX5_readsBox_109 (by decide) ?_
        refine zJ.istore (pc := 113) (lv' := [(5, .int (S38.1 (23, 0, 0) 33)), (4, .int 1), (3, .int (r15 - 48)), (2, .int (r2 - 97)), (0, .ref (z_adr o (23, 0, 0))), (1, .int x1)]) dX5_readsBox_113 (Nat.le_of_ble_eq_true rfl) rfl ?_
        refine zJ.aload_n (pc := 115) 4 dX5_readsBox_115 rfl rfl ?_
        refine zG.callVi (d := mdX5_readsBox) (pc := 116) [] [] (ob_23 o) ok_23 rfl dX5_readsBox_116 ⟨(cb_X5_ends).1, (cb_X5_ends).2, (Nat.le_of_ble_eq_true rfl), (Nat.le_of_ble_eq_true rfl)⟩ ml_X5_272 ci_X5_ends cv_X5_ends rfl (Nat.le_of_ble_eq_true rfl) (Nat.le_of_ble_eq_true rfl) rfl h (fun r42 S43 h2 => ?_)
        replace h := h2
        clear h2
        refine zJ.if_ne (pc := 119) (tgt := 124) dX5_readsBox_119 (by decide) (fun c44 => ?_) (fun c44 => ?_)
        · replace h := h.1 c44
          refine zJ.iload_n (pc := 124) 5 dX5_readsBox_124 rfl rfl ?_
          refine zJ.if_eq (pc := 125) (tgt := 147) dX5_readsBox_125 (by decide) (fun c45 => ?_) (fun c45 => ?_)
          · replace h := h.1 c45
            refine zJ.iconst (pc := 147) (v := 1) dX5_readsBox_147 (by decide) ?_
            exact zG.ret (pc := 148) (r := some (.int 1)) ⟨dX5_readsBox_148, _, rfl, rfl⟩ h
          · replace h := h.2 c45
            refine zJ.aload_n (pc := 128) 4 dX5_readsBox_128 rfl rfl ?_
            refine zJ.iload (pc := 129) 1 dX5_readsBox_129 rfl ?_
            refine zJ.if_eq (pc := 131) (tgt := 138) dX5_readsBox_131 (by decide) (fun c46 => absurd c46 (by decide)) (fun c46 => ?_)
            refine zJ.iconst (pc := 134) (v := 1) dX5_readsBox_134 (by decide) ?_
            refine zJ.goto (pc := 135) (tgt := 139) dX5_readsBox_135 (by decide) ?_
            refine zJ.iload_n (pc := 139) 3 dX5_readsBox_139 rfl rfl ?_
            refine zJ.iload_n (pc := 140) 2 dX5_readsBox_140 rfl rfl ?_
            refine zJ.iload (pc := 141) 0 dX5_readsBox_141 rfl ?_
            refine zG.callVi (d := mdX5_readsBox) (pc := 143) [.int 1, .int (r2 - 97), .int (r15 - 48), .int (S38.1 (23, 0, 0) 33)] [] (ob_23 o) ok_23 rfl dX5_readsBox_143 ⟨(cb_X5_done).1, (cb_X5_done).2, (Nat.le_of_ble_eq_true rfl), (Nat.le_of_ble_eq_true rfl)⟩ ml_X5_203 ci_X5_done cv_X5_done rfl (Nat.le_of_ble_eq_true rfl) (Nat.le_of_ble_eq_true rfl) rfl h (fun r48 S49 h2 => ?_)
            replace h := h2
            clear h2
            refine zJ.pop (pc := 146) dX5_readsBox_146 rfl ?_
            refine zJ.iconst (pc := 147) (v := 1) dX5_readsBox_147 (by decide) ?_
            exact zG.ret (pc := 148) (r := some (.int 1)) ⟨dX5_readsBox_148, _, rfl, rfl⟩ h
        · replace h := h.2 c44
          refine zJ.iconst (pc := 122) (v := 0) dX5_readsBox_122 (by decide) ?_
          exact zG.ret (pc := 123) (r := some (.int 0)) ⟨dX5_readsBox_123, _, rfl, rfl⟩ h
      · replace h := h.2 c39
        refine zJ.iconst (pc := 98) (v := 0) dX5_readsBox_98 (by decide) ?_
        exact zG.ret (pc := 99) (r := some (.int 0)) ⟨dX5_readsBox_99, _, rfl, rfl⟩ h
  · replace h := h.2 c13
    refine zJ.iconst (pc := 36) (v := 0) dX5_readsBox_36 (by decide) ?_
    exact zG.ret (pc := 37) (r := some (.int 0)) ⟨dX5_readsBox_37, _, rfl, rfl⟩ h
