set_option maxRecDepth 100000 in
set_option maxHeartbeats 4000000 in
theorem w_X5_sets_0 (o : zW) (x1 : Int32) (x2 : Int32) (S : zS) (Q : Option Value → zS → Prop) (h : zGi o 994 mdX5_may [.int x1, .int x2] S (fun r2 S3 => (¬ r2 = 0 → (zGv o 994 mdX5_leavesState [.ref (z_adr o (23, 0, 0))] S3 (fun S7 => vp_in x1 5 ∧ (vp_in x1 5 ∧ (zGv o 994 mdX5_begins [.ref (z_adr o (23, 0, 0))] (sI S7 (25, 0, 0) (x1.toNatClampNeg) x2) (fun S10 => Q (some (.int (S7.1 (25, 0, 0) x1.toNatClampNeg))) S10)))))) ∧ (r2 = 0 → (zGi o 994 mdX5_bad [.ref (z_adr o (23, 0, 0))] S3 (fun r12 S13 => Q (some (.int r12)) S13))))) : zG o 994 mdX5_sets 0 [(0, .ref (z_adr o (23, 0, 0))), (1, .int x1), (2, .int x2)] [] S Q := by
  show zJ o mdX5_sets 0 _ [] (994, z_enc o S) 0 0 _
  refine zJ.iload_n (pc := 0) 1 dX5_sets_0 rfl rfl ?_
  refine zJ.iload_n (pc := 1) 2 dX5_sets_1 rfl rfl ?_
  refine zG.callSi (d := mdX5_sets) (pc := 2) [.int x1, .int x2] [] dX5_sets_2 ⟨(cb_X5_may).1, (cb_X5_may).2, (Nat.le_of_ble_eq_true rfl), (Nat.le_of_ble_eq_true rfl)⟩ ml_X5_126 cs_X5_may rfl (Nat.le_of_ble_eq_true rfl) (Nat.le_of_ble_eq_true rfl) rfl h (fun r2 S3 h2 => ?_)
  replace h := h2
  clear h2
  refine zJ.if_ne (pc := 5) (tgt := 13) dX5_sets_5 (by decide) (fun c4 => ?_) (fun c4 => ?_)
  · replace h := h.1 c4
    refine zJ.aload_n (pc := 13) 0 dX5_sets_13 rfl rfl ?_
    refine zG.callVv (d := mdX5_sets) (pc := 14) [] [] (ob_23 o) ok_23 rfl dX5_sets_14 ⟨(cb_X5_leavesState).1, (cb_X5_leavesState).2, (Nat.le_of_ble_eq_true rfl), (Nat.le_of_ble_eq_true rfl)⟩ ml_X5_134 ci_X5_leavesState cv_X5_leavesState rfl (Nat.le_of_ble_eq_true rfl) (Nat.le_of_ble_eq_true rfl) rfl h (fun S7 h2 => ?_)
    replace h := h2
    clear h2
    refine zJ.aload_n (pc := 17) 0 dX5_sets_17 rfl rfl ?_
    refine zE.getV (pc := 18) (fd_23_1 o) ok_23 kiX5 (Nat.le_of_ble_eq_true rfl) fl_X5_13 dX5_sets_18 ?_
    refine zJ.iload_n (pc := 21) 1 dX5_sets_21 rfl rfl ?_
    obtain ⟨hq, h⟩ := h
    refine zE.aldI (pc := 22) (ia_25 o) ok_25 hq dX5_sets_22 ?_
    refine zJ.istore_n (pc := 23) (lv' := [(3, .int (S7.1 (25, 0, 0) x1.toNatClampNeg)), (0, .ref (z_adr o (23, 0, 0))), (1, .int x1), (2, .int x2)]) dX5_sets_23 rfl (Nat.le_of_ble_eq_true rfl) rfl ?_
    refine zJ.aload_n (pc := 24) 1 dX5_sets_24 rfl rfl ?_
    refine zE.getV (pc := 25) (fd_23_1 o) ok_23 kiX5 (Nat.le_of_ble_eq_true rfl) fl_X5_13 dX5_sets_25 ?_
    refine zJ.iload_n (pc := 28) 2 dX5_sets_28 rfl rfl ?_
    refine zJ.iload_n (pc := 29) 3 dX5_sets_29 rfl rfl ?_
    obtain ⟨hq, h⟩ := h
    refine zE.astI (pc := 30) (ia_25 o) ok_25 hq dX5_sets_30 ?_
    refine zJ.aload_n (pc := 31) 1 dX5_sets_31 rfl rfl ?_
    refine zG.callVv (d := mdX5_sets) (pc := 32) [] [] (ob_23 o) ok_23 rfl dX5_sets_32 ⟨(cb_X5_begins).1, (cb_X5_begins).2, (Nat.le_of_ble_eq_true rfl), (Nat.le_of_ble_eq_true rfl)⟩ ml_X5_87 ci_X5_begins cv_X5_begins rfl (Nat.le_of_ble_eq_true rfl) (Nat.le_of_ble_eq_true rfl) rfl h (fun S10 h2 => ?_)
    replace h := h2
    clear h2
    refine zJ.iload_n (pc := 35) 0 dX5_sets_35 rfl rfl ?_
    exact zG.ret (pc := 36) (r := some (.int (S7.1 (25, 0, 0) x1.toNatClampNeg))) ⟨dX5_sets_36, _, rfl, rfl⟩ h
  · replace h := h.2 c4
    refine zJ.aload_n (pc := 8) 0 dX5_sets_8 rfl rfl ?_
    refine zG.callVi (d := mdX5_sets) (pc := 9) [] [] (ob_23 o) ok_23 rfl dX5_sets_9 ⟨(cb_X5_bad).1, (cb_X5_bad).2, (Nat.le_of_ble_eq_true rfl), (Nat.le_of_ble_eq_true rfl)⟩ ml_X5_130 ci_X5_bad cv_X5_bad rfl (Nat.le_of_ble_eq_true rfl) (Nat.le_of_ble_eq_true rfl) rfl h (fun r12 S13 h2 => ?_)
    replace h := h2
    clear h2
    exact zG.ret (pc := 12) (r := some (.int r12)) ⟨dX5_sets_12, _, rfl, rfl⟩ h
set_option maxRecDepth 100000 in
set_option maxHeartbeats 4000000 in
theorem w_X5_anew_0 (o : zW)  (S : zS) (Q : Option Value → zS → Prop) (h : zGv o 994 mdX5_leavesState [.ref (z_adr o (23, 0, 0))] S (fun S3 => zGv o 994 mdX5_begins [.ref (z_adr o (23, 0, 0))] S3 (fun S6 => Q (some (.int (S3.1 (40, 0, 0) 9))) S6))) : zG o 994 mdX5_anew 0 [(0, .ref (z_adr o (23, 0, 0)))] [] S Q := by
  show zJ o mdX5_anew 0 _ [] (994, z_enc o S) 0 0 _
  refine zJ.aload_n (pc := 0) 0 dX5_anew_0 rfl rfl ?_
  refine zG.callVv (d := mdX5_anew) (pc := 1) [] [] (ob_23 o) ok_23 rfl dX5_anew_1 ⟨(cb_X5_leavesState).1, (cb_X5_leavesState).2, (Nat.le_of_ble_eq_true rfl), (Nat.le_of_ble_eq_true rfl)⟩ ml_X5_134 ci_X5_leavesState cv_X5_leavesState rfl (Nat.le_of_ble_eq_true rfl) (Nat.le_of_ble_eq_true rfl) rfl h (fun S3 h2 => ?_)
  replace h := h2
  clear h2
  refine zJ.aload_n (pc := 4) 0 dX5_anew_4 rfl rfl ?_
  refine zE.getV (pc := 5) (fd_23_16 o) ok_23 kiX5 (Nat.le_of_ble_eq_true rfl) fl_X5_58 dX5_anew_5 ?_
  refine zJ.bipush (pc := 8) (v := 9) dX5_anew_8 (by decide) ?_
  refine zE.aldI (pc := 10) (ia_40 o) ok_40 (by unfold vp_in; decide) dX5_anew_10 ?_
  refine zJ.istore_n (pc := 11) (lv' := [(1, .int (S3.1 (40, 0, 0) 9)), (0, .ref (z_adr o (23, 0, 0)))]) dX5_anew_11 rfl (Nat.le_of_ble_eq_true rfl) rfl ?_
  refine zJ.aload_n (pc := 12) 1 dX5_anew_12 rfl rfl ?_
  refine zG.callVv (d := mdX5_anew) (pc := 13) [] [] (ob_23 o) ok_23 rfl dX5_anew_13 ⟨(cb_X5_begins).1, (cb_X5_begins).2, (Nat.le_of_ble_eq_true rfl), (Nat.le_of_ble_eq_true rfl)⟩ ml_X5_87 ci_X5_begins cv_X5_begins rfl (Nat.le_of_ble_eq_true rfl) (Nat.le_of_ble_eq_true rfl) rfl h (fun S6 h2 => ?_)
  replace h := h2
  clear h2
  refine zJ.iload_n (pc := 16) 0 dX5_anew_16 rfl rfl ?_
  exact zG.ret (pc := 17) (r := some (.int (S3.1 (40, 0, 0) 9))) ⟨dX5_anew_17, _, rfl, rfl⟩ h
set_option maxRecDepth 100000 in
set_option maxHeartbeats 4000000 in
theorem w_X5_rowOf_0 (o : zW) (x0 : Int32) (S : zS) (Q : Option Value → zS → Prop) (h : Q (some (.int (x0 - x0 / 4 * 4))) S) : zG o 994 mdX5_rowOf 0 [(0, .int x0)] [] S Q := by
  show zJ o mdX5_rowOf 0 _ [] (994, z_enc o S) 0 0 _
  refine zJ.iload_n (pc := 0) 0 dX5_rowOf_0 rfl rfl ?_
  refine zJ.iconst (pc := 1) (v := 4) dX5_rowOf_1 (by decide) ?_
  refine zJ.irem (pc := 2) dX5_rowOf_2 (by decide) ?_
  exact zG.ret (pc := 3) (r := some (.int (x0 - x0 / 4 * 4))) ⟨dX5_rowOf_3, _, rfl, rfl⟩ h
set_option maxRecDepth 100000 in
set_option maxHeartbeats 4000000 in
theorem w_X5_counts_0 (o : zW) (x1 : Int32) (S : zS) (Q : Option Value → zS → Prop) (h : zGi o 994 mdX5_rowOf [.int x1] S (fun r2 S3 => zG o 994 mdX5_counts 7 [(0, .ref (z_adr o (23, 0, 0))), (1, .int x1), (2, .int r2), (3, .int 0)] [] S3 Q)) : zG o 994 mdX5_counts 0 [(0, .ref (z_adr o (23, 0, 0))), (1, .int x1)] [] S Q := by
  show zJ o mdX5_counts 0 _ [] (994, z_enc o S) 0 0 _
  refine zJ.iload_n (pc := 0) 1 dX5_counts_0 rfl rfl ?_
  refine zG.callSi (d := mdX5_counts) (pc := 1) [.int x1] [] dX5_counts_1 ⟨(cb_X5_rowOf).1, (cb_X5_rowOf).2, (Nat.le_of_ble_eq_true rfl), (Nat.le_of_ble_eq_true rfl)⟩ ml_X5_137 cs_X5_rowOf rfl (Nat.le_of_ble_eq_true rfl) (Nat.le_of_ble_eq_true rfl) rfl h (fun r2 S3 h2 => ?_)
  replace h := h2
  clear h2
  refine zJ.istore_n (pc := 4) (lv' := [(2, .int r2), (0, .ref (z_adr o (23, 0, 0))), (1, .int x1)]) dX5_counts_4 rfl (Nat.le_of_ble_eq_true rfl) rfl ?_
  refine zJ.iconst (pc := 5) (v := 0) dX5_counts_5 (by decide) ?_
  refine zJ.istore_n (pc := 6) (lv' := [(3, .int 0), (2, .int r2), (0, .ref (z_adr o (23, 0, 0))), (1, .int x1)]) dX5_counts_6 rfl (Nat.le_of_ble_eq_true rfl) rfl ?_
  exact zJ.sub [2, 3, 1, 0] rfl h
set_option maxRecDepth 100000 in
set_option maxHeartbeats 4000000 in
theorem w_X5_counts_7 (o : zW) (x1 : Int32) (x2 : Int32) (x3 : Int32) (S : zS) (Q : Option Value → zS → Prop) (h : vp_in ((3 * x2) + x3) 12 ∧ (((S.1 (32, 0, 0) (((3 * x2) + x3).toNatClampNeg)) = x1 → (zG o 994 mdX5_counts 30 [(0, .ref (z_adr o (23, 0, 0))), (1, .int x1), (2, .int x2), (4, .int x3)] [] S Q)) ∧ (¬ (S.1 (32, 0, 0) (((3 * x2) + x3).toNatClampNeg)) = x1 → (zG o 994 mdX5_counts 7 [(0, .ref (z_adr o (23, 0, 0))), (1, .int x1), (2, .int x2), (3, .int (x3 + 1))] [] S Q)))) : zG o 994 mdX5_counts 7 [(0, .ref (z_adr o (23, 0, 0))), (1, .int x1), (2, .int x2), (3, .int x3)] [] S Q := by
  show zJ o mdX5_counts 7 _ [] (994, z_enc o S) 0 0 _
  refine zJ.aload_n (pc := 7) 0 dX5_counts_7 rfl rfl ?_
  refine zE.getV (pc := 8) (fd_23_8 o) ok_23 kiX5 (Nat.le_of_ble_eq_true rfl) fl_X5_34 dX5_counts_8 ?_
  refine zJ.iconst (pc := 11) (v := 3) dX5_counts_11 (by decide) ?_
  refine zJ.iload_n (pc := 12) 2 dX5_counts_12 rfl rfl ?_
  refine zJ.imul (pc := 13) dX5_counts_13 ?_
  refine zJ.iload_n (pc := 14) 3 dX5_counts_14 rfl rfl ?_
  refine zJ.iadd (pc := 15) dX5_counts_15 ?_
  obtain ⟨hq, h⟩ := h
  refine zE.aldI (pc := 16) (ia_32 o) ok_32 hq dX5_counts_16 ?_
  refine zJ.iload_n (pc := 17) 1 dX5_counts_17 rfl rfl ?_
  refine zJ.icmp_eq (pc := 18) (tgt := 27) dX5_counts_18 (by decide) (fun c1 => ?_) (fun c1 => ?_)
  · replace h := h.1 c1
    refine zJ.iload_n (pc := 27) 3 dX5_counts_27 rfl rfl ?_
    refine zJ.istore (pc := 28) (lv' := [(4, .int x3), (0, .ref (z_adr o (23, 0, 0))), (1, .int x1), (2, .int x2), (3, .int x3)]) dX5_counts_28 (Nat.le_of_ble_eq_true rfl) rfl ?_
    exact zJ.sub [1, 2, 3, 0] rfl h
  · replace h := h.2 c1
    refine zJ.iinc (pc := 21) (k := 3) (lv' := [(3, .int (x3 + 1)), (0, .ref (z_adr o (23, 0, 0))), (1, .int x1), (2, .int x2)]) dX5_counts_21 rfl rfl (Nat.le_of_ble_eq_true rfl) rfl ?_
    refine zJ.goto (pc := 24) (tgt := 7) dX5_counts_24 (by decide) ?_
    exact zJ.sub [1, 2, 3, 0] rfl h
set_option maxRecDepth 100000 in
set_option maxHeartbeats 4000000 in
theorem w_X5_counts_30 (o : zW) (x1 : Int32) (x2 : Int32) (x4 : Int32) (S : zS) (Q : Option Value → zS → Prop) (h : (x4 ≤ 0 → (vp_in (3 * x2) 12 ∧ (Q none (sI S (32, 0, 0) ((3 * x2).toNatClampNeg) x1)))) ∧ (¬ x4 ≤ 0 → (vp_in (((3 * x2) + x4) - 1) 12 ∧ (vp_in ((3 * x2) + x4) 12 ∧ (∀ S2 : zS, S2 = (sI S (32, 0, 0) (((3 * x2) + x4).toNatClampNeg) (S.1 (32, 0, 0) ((((3 * x2) + x4) - 1).toNatClampNeg))) → (zG o 994 mdX5_counts 30 [(0, .ref (z_adr o (23, 0, 0))), (1, .int x1), (2, .int x2), (4, .int (x4 + (-1)))] [] S2 Q)))))) : zG o 994 mdX5_counts 30 [(0, .ref (z_adr o (23, 0, 0))), (1, .int x1), (2, .int x2), (4, .int x4)] [] S Q := by
  show zJ o mdX5_counts 30 _ [] (994, z_enc o S) 0 0 _
  refine zJ.iload (pc := 30) 3 dX5_counts_30 rfl ?_
  refine zJ.if_le (pc := 32) (tgt := 65) dX5_counts_32 (by decide) (fun c1 => ?_) (fun c1 => ?_)
  · replace h := h.1 c1
    refine zJ.aload_n (pc := 65) 0 dX5_counts_65 rfl rfl ?_
    refine zE.getV (pc := 66) (fd_23_8 o) ok_23 kiX5 (Nat.le_of_ble_eq_true rfl) fl_X5_34 dX5_counts_66 ?_
    refine zJ.iconst (pc := 69) (v := 3) dX5_counts_69 (by decide) ?_
    refine zJ.iload_n (pc := 70) 2 dX5_counts_70 rfl rfl ?_
    refine zJ.imul (pc := 71) dX5_counts_71 ?_
    refine zJ.iload_n (pc := 72) 1 dX5_counts_72 rfl rfl ?_
    obtain ⟨hq, h⟩ := h
    refine zE.astI (pc := 73) (ia_32 o) ok_32 hq dX5_counts_73 ?_
    exact zG.ret (pc := 74) (r := none) ⟨dX5_counts_74, rfl⟩ h
  · replace h := h.2 c1
    refine zJ.aload_n (pc := 35) 0 dX5_counts_35 rfl rfl ?_
    refine zE.getV (pc := 36) (fd_23_8 o) ok_23 kiX5 (Nat.le_of_ble_eq_true rfl) fl_X5_34 dX5_counts_36 ?_
    refine zJ.iconst (pc := 39) (v := 3) dX5_counts_39 (by decide) ?_
    refine zJ.iload_n (pc := 40) 2 dX5_counts_40 rfl rfl ?_
    refine zJ.imul (pc := 41) dX5_counts_41 ?_
    refine zJ.iload (pc := 42) 3 dX5_counts_42 rfl ?_
    refine zJ.iadd (pc := 44) dX5_counts_44 ?_
    refine zJ.aload_n (pc := 45) 0 dX5_counts_45 rfl rfl ?_
    refine zE.getV (pc := 46) (fd_23_8 o) ok_23 kiX5 (Nat.le_of_ble_eq_true rfl) fl_X5_34 dX5_counts_46 ?_
    refine zJ.iconst (pc := 49) (v := 3) dX5_counts_49 (by decide) ?_
    refine zJ.iload_n (pc := 50) 2 dX5_counts_50 rfl rfl ?_
    refine zJ.imul (pc := 51) dX5_counts_51 ?_
    refine zJ.iload (pc := 52) 3 dX5_counts_52 rfl ?_
    refine zJ.iadd (pc := 54) dX5_counts_54 ?_
    refine zJ.iconst (pc := 55) (v := 1) dX5_counts_55 (by decide) ?_
    refine zJ.isub (pc := 56) dX5_counts_56 ?_
    obtain ⟨hq, h⟩ := h
    refine zE.aldI (pc := 57) (ia_32 o) ok_32 hq dX5_counts_57 ?_
    obtain ⟨hq, h⟩ := h
    refine zE.astI (pc := 58) (ia_32 o) ok_32 hq dX5_counts_58 ?_
    refine zJ.nameS (fun S2 hyS2 => ?_)
    replace h := h S2 hyS2
    refine zJ.iinc (pc := 59) (k := 3) (lv' := [(4, .int (x4 + (-1))), (0, .ref (z_adr o (23, 0, 0))), (1, .int x1), (2, .int x2)]) dX5_counts_59 rfl rfl (Nat.le_of_ble_eq_true rfl) rfl ?_
    refine zJ.goto (pc := 62) (tgt := 30) dX5_counts_62 (by decide) ?_
    exact zJ.sub [1, 2, 3, 0] rfl h
set_option maxRecDepth 100000 in
set_option maxHeartbeats 4000000 in
theorem w_X5_goesFar_0 (o : zW) (x1 : Int32) (S : zS) (Q : Option Value → zS → Prop) (h : zG o 994 mdX5_goesFar 2 [(0, .ref (z_adr o (23, 0, 0))), (1, .int x1), (2, .int 0)] [] S Q) : zG o 994 mdX5_goesFar 0 [(0, .ref (z_adr o (23, 0, 0))), (1, .int x1)] [] S Q := by
  show zJ o mdX5_goesFar 0 _ [] (994, z_enc o S) 0 0 _
  refine zJ.iconst (pc := 0) (v := 0) dX5_goesFar_0 (by decide) ?_
  refine zJ.istore_n (pc := 1) (lv' := [(2, .int 0), (0, .ref (z_adr o (23, 0, 0))), (1, .int x1)]) dX5_goesFar_1 rfl (Nat.le_of_ble_eq_true rfl) rfl ?_
  exact zJ.sub [1, 2, 0] rfl h
set_option maxRecDepth 100000 in
set_option maxHeartbeats 4000000 in
theorem w_X5_goesFar_2 (o : zW) (x1 : Int32) (x2 : Int32) (S : zS) (Q : Option Value → zS → Prop) (h : (4 ≤ x2 → (vp_in x1 16 ∧ (vp_in x1 16 ∧ (∀ S2 : zS, S2 = (sI (sI S (28, 0, 0) (x1.toNatClampNeg) 0) (29, 0, 0) (x1.toNatClampNeg) 0) → (vf_n32 (FP.fadd ((sI S2 (40, 0, 0) 6 ((S2.1 (40, 0, 0) 6) + 1)).2.2 (23, 0, 0) 20) (1079194419 : UInt32)) ∧ (∀ S3 : zS, S3 = (sF (sI S2 (40, 0, 0) 6 ((S2.1 (40, 0, 0) 6) + 1)) (23, 0, 0) 20 (FP.fadd ((sI S2 (40, 0, 0) 6 ((S2.1 (40, 0, 0) 6) + 1)).2.2 (23, 0, 0) 20) (1079194419 : UInt32))) → (Q none S3))))))) ∧ (¬ 4 ≤ x2 → (vp_in x1 16 ∧ ((¬ (((S.1 (28, 0, 0) x1.toNatClampNeg) >>> (x2 &&& 31)) &&& 1) = 1 → (vp_in ((4 * x1) + x2) 64 ∧ (vp_in ((4 * x1) + x2) 64 ∧ (∀ S5 : zS, S5 = (sI S (26, 0, 0) (((4 * x1) + x2).toNatClampNeg) (S.1 (26, 0, 0) (((4 * x1) + x2).toNatClampNeg))) → (zG o 994 mdX5_goesFar 2 [(0, .ref (z_adr o (23, 0, 0))), (1, .int x1), (2, .int (x2 + 1))] [] S5 Q))))) ∧ ((((S.1 (28, 0, 0) x1.toNatClampNeg) >>> (x2 &&& 31)) &&& 1) = 1 → (vp_in ((4 * x1) + x2) 64 ∧ (vp_in ((4 * x1) + x2) 64 ∧ (∀ S6 : zS, S6 = (sI S (26, 0, 0) (((4 * x1) + x2).toNatClampNeg) (S.1 (27, 0, 0) (((4 * x1) + x2).toNatClampNeg))) → (zG o 994 mdX5_goesFar 2 [(0, .ref (z_adr o (23, 0, 0))), (1, .int x1), (2, .int (x2 + 1))] [] S6 Q))))))))) : zG o 994 mdX5_goesFar 2 [(0, .ref (z_adr o (23, 0, 0))), (1, .int x1), (2, .int x2)] [] S Q := by
  show zJ o mdX5_goesFar 2 _ [] (994, z_enc o S) 0 0 _
  refine zJ.iload_n (pc := 2) 2 dX5_goesFar_2 rfl rfl ?_
  refine zJ.iconst (pc := 3) (v := 4) dX5_goesFar_3 (by decide) ?_
  refine zJ.icmp_ge (pc := 4) (tgt := 60) dX5_goesFar_4 (by decide) (fun c1 => ?_) (fun c1 => ?_)
  · replace h := h.1 c1
    refine zJ.aload_n (pc := 60) 0 dX5_goesFar_60 rfl rfl ?_
    refine zE.getV (pc := 61) (fd_23_4 o) ok_23 kiX5 (Nat.le_of_ble_eq_true rfl) fl_X5_22 dX5_goesFar_61 ?_
    refine zJ.iload_n (pc := 64) 1 dX5_goesFar_64 rfl rfl ?_
    refine zJ.iconst (pc := 65) (v := 0) dX5_goesFar_65 (by decide) ?_
    obtain ⟨hq, h⟩ := h
    refine zE.astI (pc := 66) (ia_28 o) ok_28 hq dX5_goesFar_66 ?_
    refine zJ.aload_n (pc := 67) 0 dX5_goesFar_67 rfl rfl ?_
    refine zE.getV (pc := 68) (fd_23_5 o) ok_23 kiX5 (Nat.le_of_ble_eq_true rfl) fl_X5_25 dX5_goesFar_68 ?_
    refine zJ.iload_n (pc := 71) 1 dX5_goesFar_71 rfl rfl ?_
    refine zJ.iconst (pc := 72) (v := 0) dX5_goesFar_72 (by decide) ?_
    obtain ⟨hq, h⟩ := h
    refine zE.astI (pc := 73) (ia_29 o) ok_29 hq dX5_goesFar_73 ?_
    refine zJ.nameS (fun S2 hyS2 => ?_)
    replace h := h S2 hyS2
    refine zJ.aload_n (pc := 74) 0 dX5_goesFar_74 rfl rfl ?_
    refine zE.getV (pc := 75) (fd_23_16 o) ok_23 kiX5 (Nat.le_of_ble_eq_true rfl) fl_X5_58 dX5_goesFar_75 ?_
    refine zJ.bipush (pc := 78) (v := 6) dX5_goesFar_78 (by decide) ?_
    refine zJ.dup2_11 (pc := 80) dX5_goesFar_80 rfl rfl ?_
    refine zE.aldI (pc := 81) (ia_40 o) ok_40 (by unfold vp_in; decide) dX5_goesFar_81 ?_
    refine zJ.iconst (pc := 82) (v := 1) dX5_goesFar_82 (by decide) ?_
    refine zJ.iadd (pc := 83) dX5_goesFar_83 ?_
    refine zE.astI (pc := 84) (ia_40 o) ok_40 (by unfold vp_in; decide) dX5_goesFar_84 ?_
    refine zJ.aload_n (pc := 85) 0 dX5_goesFar_85 rfl rfl ?_
    refine zJ.dup (pc := 86) dX5_goesFar_86 rfl ?_
    refine zE.getF (pc := 87) (fd_23_20 o) ok_23 kiX5 (Nat.le_of_ble_eq_true rfl) fl_X5_90 dX5_goesFar_87 ?_
    refine zJ.ldcf (pc := 90) lc_X5_141 dX5_goesFar_90 ?_
    obtain ⟨hq, h⟩ := h
    refine zJ.fadd (pc := 92) dX5_goesFar_92 hq ?_
    refine zE.putF (pc := 93) (fd_23_20 o) ok_23 kiX5 (Nat.le_of_ble_eq_true rfl) fl_X5_90 rfl rfl dX5_goesFar_93 ?_
    refine zJ.nameS (fun S3 hyS3 => ?_)
    replace h := h S3 hyS3
    exact zG.ret (pc := 96) (r := none) ⟨dX5_goesFar_96, rfl⟩ h
  · replace h := h.2 c1
    refine zJ.aload_n (pc := 7) 0 dX5_goesFar_7 rfl rfl ?_
    refine zE.getV (pc := 8) (fd_23_2 o) ok_23 kiX5 (Nat.le_of_ble_eq_true rfl) fl_X5_16 dX5_goesFar_8 ?_
    refine zJ.iconst (pc := 11) (v := 4) dX5_goesFar_11 (by decide) ?_
    refine zJ.iload_n (pc := 12) 1 dX5_goesFar_12 rfl rfl ?_
    refine zJ.imul (pc := 13) dX5_goesFar_13 ?_
    refine zJ.iload_n (pc := 14) 2 dX5_goesFar_14 rfl rfl ?_
    refine zJ.iadd (pc := 15) dX5_goesFar_15 ?_
    refine zJ.aload_n (pc := 16) 0 dX5_goesFar_16 rfl rfl ?_
    refine zE.getV (pc := 17) (fd_23_4 o) ok_23 kiX5 (Nat.le_of_ble_eq_true rfl) fl_X5_22 dX5_goesFar_17 ?_
    refine zJ.iload_n (pc := 20) 1 dX5_goesFar_20 rfl rfl ?_
    obtain ⟨hq, h⟩ := h
    refine zE.aldI (pc := 21) (ia_28 o) ok_28 hq dX5_goesFar_21 ?_
    refine zJ.iload_n (pc := 22) 2 dX5_goesFar_22 rfl rfl ?_
    refine zJ.ishr (pc := 23) dX5_goesFar_23 ?_
    refine zJ.iconst (pc := 24) (v := 1) dX5_goesFar_24 (by decide) ?_
    refine zJ.iand (pc := 25) dX5_goesFar_25 ?_
    refine zJ.iconst (pc := 26) (v := 1) dX5_goesFar_26 (by decide) ?_
    refine zJ.icmp_ne (pc := 27) (tgt := 43) dX5_goesFar_27 (by decide) (fun c4 => ?_) (fun c4 => ?_)
    · replace h := h.1 c4
      refine zJ.aload_n (pc := 43) 0 dX5_goesFar_43 rfl rfl ?_
      refine zE.getV (pc := 44) (fd_23_2 o) ok_23 kiX5 (Nat.le_of_ble_eq_true rfl) fl_X5_16 dX5_goesFar_44 ?_
      refine zJ.iconst (pc := 47) (v := 4) dX5_goesFar_47 (by decide) ?_
      refine zJ.iload_n (pc := 48) 1 dX5_goesFar_48 rfl rfl ?_
      refine zJ.imul (pc := 49) dX5_goesFar_49 ?_
      refine zJ.iload_n (pc := 50) 2 dX5_goesFar_50 rfl rfl ?_
      refine zJ.iadd (pc := 51) dX5_goesFar_51 ?_
      obtain ⟨hq, h⟩ := h
      refine zE.aldI (pc := 52) (ia_26 o) ok_26 hq dX5_goesFar_52 ?_
      obtain ⟨hq, h⟩ := h
      refine zE.astI (pc := 53) (ia_26 o) ok_26 hq dX5_goesFar_53 ?_
      refine zJ.nameS (fun S5 hyS5 => ?_)
      replace h := h S5 hyS5
      refine zJ.iinc (pc := 54) (k := 2) (lv' := [(2, .int (x2 + 1)), (0, .ref (z_adr o (23, 0, 0))), (1, .int x1)]) dX5_goesFar_54 rfl rfl (Nat.le_of_ble_eq_true rfl) rfl ?_
      refine zJ.goto (pc := 57) (tgt := 2) dX5_goesFar_57 (by decide) ?_
      exact zJ.sub [1, 2, 0] rfl h
    · replace h := h.2 c4
      refine zJ.aload_n (pc := 30) 0 dX5_goesFar_30 rfl rfl ?_
      refine zE.getV (pc := 31) (fd_23_3 o) ok_23 kiX5 (Nat.le_of_ble_eq_true rfl) fl_X5_19 dX5_goesFar_31 ?_
      refine zJ.iconst (pc := 34) (v := 4) dX5_goesFar_34 (by decide) ?_
      refine zJ.iload_n (pc := 35) 1 dX5_goesFar_35 rfl rfl ?_
      refine zJ.imul (pc := 36) dX5_goesFar_36 ?_
      refine zJ.iload_n (pc := 37) 2 dX5_goesFar_37 rfl rfl ?_
      refine zJ.iadd (pc := 38) dX5_goesFar_38 ?_
      obtain ⟨hq, h⟩ := h
      refine zE.aldI (pc := 39) (ia_27 o) ok_27 hq dX5_goesFar_39 ?_
      refine zJ.goto (pc := 40) (tgt := 53) dX5_goesFar_40 (by decide) ?_
      obtain ⟨hq, h⟩ := h
      refine zE.astI (pc := 53) (ia_26 o) ok_26 hq dX5_goesFar_53 ?_
      refine zJ.nameS (fun S6 hyS6 => ?_)
      replace h := h S6 hyS6
      refine zJ.iinc (pc := 54) (k := 2) (lv' := [(2, .int (x2 + 1)), (0, .ref (z_adr o (23, 0, 0))), (1, .int x1)]) dX5_goesFar_54 rfl rfl (Nat.le_of_ble_eq_true rfl) rfl ?_
      refine zJ.goto (pc := 57) (tgt := 2) dX5_goesFar_57 (by decide) ?_
      exact zJ.sub [1, 2, 0] rfl h
set_option maxRecDepth 100000 in
set_option maxHeartbeats 4000000 in
theorem w_X5_halfLong_0 (o : zW)  (S : zS) (Q : Option Value → zS → Prop) (h : ((S.1 (25, 0, 0) 4) ≤ 1 → (Q (some (.int 1)) S)) ∧ (¬ (S.1 (25, 0, 0) 4) ≤ 1 → (Q (some (.int ((S.1 (25, 0, 0) 4) / 2))) S))) : zG o 994 mdX5_halfLong 0 [(0, .ref (z_adr o (23, 0, 0)))] [] S Q := by
  show zJ o mdX5_halfLong 0 _ [] (994, z_enc o S) 0 0 _
  refine zJ.aload_n (pc := 0) 0 dX5_halfLong_0 rfl rfl ?_
  refine zE.getV (pc := 1) (fd_23_1 o) ok_23 kiX5 (Nat.le_of_ble_eq_true rfl) fl_X5_13 dX5_halfLong_1 ?_
  refine zJ.iconst (pc := 4) (v := 4) dX5_halfLong_4 (by decide) ?_
  refine zE.aldI (pc := 5) (ia_25 o) ok_25 (by unfold vp_in; decide) dX5_halfLong_5 ?_
  refine zJ.iconst (pc := 6) (v := 1) dX5_halfLong_6 (by decide) ?_
  refine zJ.icmp_le (pc := 7) (tgt := 21) dX5_halfLong_7 (by decide) (fun c1 => ?_) (fun c1 => ?_)
  · replace h := h.1 c1
    refine zJ.iconst (pc := 21) (v := 1) dX5_halfLong_21 (by decide) ?_
    exact zG.ret (pc := 22) (r := some (.int 1)) ⟨dX5_halfLong_22, _, rfl, rfl⟩ h
  · replace h := h.2 c1
    refine zJ.aload_n (pc := 10) 0 dX5_halfLong_10 rfl rfl ?_
    refine zE.getV (pc := 11) (fd_23_1 o) ok_23 kiX5 (Nat.le_of_ble_eq_true rfl) fl_X5_13 dX5_halfLong_11 ?_
    refine zJ.iconst (pc := 14) (v := 4) dX5_halfLong_14 (by decide) ?_
    refine zE.aldI (pc := 15) (ia_25 o) ok_25 (by unfold vp_in; decide) dX5_halfLong_15 ?_
    refine zJ.iconst (pc := 16) (v := 2) dX5_halfLong_16 (by decide) ?_
    refine zJ.idiv (pc := 17) dX5_halfLong_17 (by decide) ?_
    refine zJ.goto (pc := 18) (tgt := 22) dX5_halfLong_18 (by decide) ?_
    exact zG.ret (pc := 22) (r := some (.int ((S.1 (25, 0, 0) 4) / 2))) ⟨dX5_halfLong_22, _, rfl, rfl⟩ h
set_option maxRecDepth 100000 in
set_option maxHeartbeats 4000000 in
theorem w_X5_makesRoom_0 (o : zW) (x1 : Int32) (S : zS) (Q : Option Value → zS → Prop) (h : vp_in x1 4 ∧ (((S.1 (25, 0, 0) 0) ≤ (S.1 (31, 0, 0) x1.toNatClampNeg) → (vp_in x1 4 ∧ (vp_in x1 4 ∧ (∀ S2 : zS, S2 = (sI S (31, 0, 0) (x1.toNatClampNeg) ((S.1 (31, 0, 0) x1.toNatClampNeg) - 1)) → (vp_in x1 4 ∧ (vp_in ((3 * x1) + (S2.1 (31, 0, 0) x1.toNatClampNeg)) 12 ∧ (∀ y3 : Int32, y3 = (S2.1 (32, 0, 0) (((3 * x1) + (S2.1 (31, 0, 0) x1.toNatClampNeg)).toNatClampNeg)) → (vp_in y3 16 ∧ ((¬ (S2.1 (28, 0, 0) y3.toNatClampNeg) = 0 → (((S2.1 (25, 0, 0) 1) ≤ (S2.1 (39, 0, 0) 1) → (zGv o 994 mdX5_goesFar [.ref (z_adr o (23, 0, 0)), .int y3] (sI S2 (40, 0, 0) 5 ((S2.1 (40, 0, 0) 5) + 1)) (fun S8 => Q none S8))) ∧ (¬ (S2.1 (25, 0, 0) 1) ≤ (S2.1 (39, 0, 0) 1) → (vp_in y3 16 ∧ (zGi o 994 mdX5_halfLong [.ref (z_adr o (23, 0, 0))] (sI S2 (29, 0, 0) (y3.toNatClampNeg) 2) (fun r10 S11 => ∀ y12 : Int32, y12 = (((sI S2 (29, 0, 0) (y3.toNatClampNeg) 2).1 (40, 0, 0) 9) + r10) → (vp_in y3 16 ∧ (∀ y13 : Int32, y13 = (((sI S11 (30, 0, 0) (y3.toNatClampNeg) y12).1 (39, 0, 0) 1) + 1) → (Q none (sI (sI S11 (30, 0, 0) (y3.toNatClampNeg) y12) (39, 0, 0) 1 y13)))))))))) ∧ ((S2.1 (28, 0, 0) y3.toNatClampNeg) = 0 → (vp_in y3 16 ∧ (Q none (sI S2 (29, 0, 0) (y3.toNatClampNeg) 0))))))))))))) ∧ (¬ (S.1 (25, 0, 0) 0) ≤ (S.1 (31, 0, 0) x1.toNatClampNeg) → (Q none S)))) : zG o 994 mdX5_makesRoom 0 [(0, .ref (z_adr o (23, 0, 0))), (1, .int x1)] [] S Q := by
  show zJ o mdX5_makesRoom 0 _ [] (994, z_enc o S) 0 0 _
  refine zJ.aload_n (pc := 0) 0 dX5_makesRoom_0 rfl rfl ?_
  refine zE.getV (pc := 1) (fd_23_7 o) ok_23 kiX5 (Nat.le_of_ble_eq_true rfl) fl_X5_31 dX5_makesRoom_1 ?_
  refine zJ.iload_n (pc := 4) 1 dX5_makesRoom_4 rfl rfl ?_
  obtain ⟨hq, h⟩ := h
  refine zE.aldI (pc := 5) (ia_31 o) ok_31 hq dX5_makesRoom_5 ?_
  refine zJ.aload_n (pc := 6) 0 dX5_makesRoom_6 rfl rfl ?_
  refine zE.getV (pc := 7) (fd_23_1 o) ok_23 kiX5 (Nat.le_of_ble_eq_true rfl) fl_X5_13 dX5_makesRoom_7 ?_
  refine zJ.iconst (pc := 10) (v := 0) dX5_makesRoom_10 (by decide) ?_
  refine zE.aldI (pc := 11) (ia_25 o) ok_25 (by unfold vp_in; decide) dX5_makesRoom_11 ?_
  refine zJ.icmp_ge (pc := 12) (tgt := 16) dX5_makesRoom_12 (by decide) (fun c1 => ?_) (fun c1 => ?_)
  · replace h := h.1 c1
    refine zJ.aload_n (pc := 16) 0 dX5_makesRoom_16 rfl rfl ?_
    refine zE.getV (pc := 17) (fd_23_7 o) ok_23 kiX5 (Nat.le_of_ble_eq_true rfl) fl_X5_31 dX5_makesRoom_17 ?_
    refine zJ.iload_n (pc := 20) 1 dX5_makesRoom_20 rfl rfl ?_
    refine zJ.dup2_11 (pc := 21) dX5_makesRoom_21 rfl rfl ?_
    obtain ⟨hq, h⟩ := h
    refine zE.aldI (pc := 22) (ia_31 o) ok_31 hq dX5_makesRoom_22 ?_
    refine zJ.iconst (pc := 23) (v := 1) dX5_makesRoom_23 (by decide) ?_
    refine zJ.isub (pc := 24) dX5_makesRoom_24 ?_
    obtain ⟨hq, h⟩ := h
    refine zE.astI (pc := 25) (ia_31 o) ok_31 hq dX5_makesRoom_25 ?_
    refine zJ.nameS (fun S2 hyS2 => ?_)
    replace h := h S2 hyS2
    refine zJ.aload_n (pc := 26) 0 dX5_makesRoom_26 rfl rfl ?_
    refine zE.getV (pc := 27) (fd_23_8 o) ok_23 kiX5 (Nat.le_of_ble_eq_true rfl) fl_X5_34 dX5_makesRoom_27 ?_
    refine zJ.iconst (pc := 30) (v := 3) dX5_makesRoom_30 (by decide) ?_
    refine zJ.iload_n (pc := 31) 1 dX5_makesRoom_31 rfl rfl ?_
    refine zJ.imul (pc := 32) dX5_makesRoom_32 ?_
    refine zJ.aload_n (pc := 33) 0 dX5_makesRoom_33 rfl rfl ?_
    refine zE.getV (pc := 34) (fd_23_7 o) ok_23 kiX5 (Nat.le_of_ble_eq_true rfl) fl_X5_31 dX5_makesRoom_34 ?_
    refine zJ.iload_n (pc := 37) 1 dX5_makesRoom_37 rfl rfl ?_
    obtain ⟨hq, h⟩ := h
    refine zE.aldI (pc := 38) (ia_31 o) ok_31 hq dX5_makesRoom_38 ?_
    refine zJ.iadd (pc := 39) dX5_makesRoom_39 ?_
    obtain ⟨hq, h⟩ := h
    refine zE.aldI (pc := 40) (ia_32 o) ok_32 hq dX5_makesRoom_40 ?_
    refine zJ.topi (fun y3 hyy3 => ?_)
    replace h := h y3 hyy3
    refine zJ.istore_n (pc := 41) (lv' := [(2, .int y3), (0, .ref (z_adr o (23, 0, 0))), (1, .int x1)]) dX5_makesRoom_41 rfl (Nat.le_of_ble_eq_true rfl) rfl ?_
    refine zJ.aload_n (pc := 42) 1 dX5_makesRoom_42 rfl rfl ?_
    refine zE.getV (pc := 43) (fd_23_4 o) ok_23 kiX5 (Nat.le_of_ble_eq_true rfl) fl_X5_22 dX5_makesRoom_43 ?_
    refine zJ.iload_n (pc := 46) 0 dX5_makesRoom_46 rfl rfl ?_
    obtain ⟨hq, h⟩ := h
    refine zE.aldI (pc := 47) (ia_28 o) ok_28 hq dX5_makesRoom_47 ?_
    refine zJ.if_ne (pc := 48) (tgt := 61) dX5_makesRoom_48 (by decide) (fun c4 => ?_) (fun c4 => ?_)
    · replace h := h.1 c4
      refine zJ.aload_n (pc := 61) 1 dX5_makesRoom_61 rfl rfl ?_
      refine zE.getV (pc := 62) (fd_23_15 o) ok_23 kiX5 (Nat.le_of_ble_eq_true rfl) fl_X5_55 dX5_makesRoom_62 ?_
      refine zJ.iconst (pc := 65) (v := 1) dX5_makesRoom_65 (by decide) ?_
      refine zE.aldI (pc := 66) (ia_39 o) ok_39 (by unfold vp_in; decide) dX5_makesRoom_66 ?_
      refine zJ.aload_n (pc := 67) 1 dX5_makesRoom_67 rfl rfl ?_
      refine zE.getV (pc := 68) (fd_23_1 o) ok_23 kiX5 (Nat.le_of_ble_eq_true rfl) fl_X5_13 dX5_makesRoom_68 ?_
      refine zJ.iconst (pc := 71) (v := 1) dX5_makesRoom_71 (by decide) ?_
      refine zE.aldI (pc := 72) (ia_25 o) ok_25 (by unfold vp_in; decide) dX5_makesRoom_72 ?_
      refine zJ.icmp_ge (pc := 73) (tgt := 114) dX5_makesRoom_73 (by decide) (fun c5 => ?_) (fun c5 => ?_)
      · replace h := h.1 c5
        refine zJ.aload_n (pc := 114) 1 dX5_makesRoom_114 rfl rfl ?_
        refine zE.getV (pc := 115) (fd_23_16 o) ok_23 kiX5 (Nat.le_of_ble_eq_true rfl) fl_X5_58 dX5_makesRoom_115 ?_
        refine zJ.iconst (pc := 118) (v := 5) dX5_makesRoom_118 (by decide) ?_
        refine zJ.dup2_11 (pc := 119) dX5_makesRoom_119 rfl rfl ?_
        refine zE.aldI (pc := 120) (ia_40 o) ok_40 (by unfold vp_in; decide) dX5_makesRoom_120 ?_
        refine zJ.iconst (pc := 121) (v := 1) dX5_makesRoom_121 (by decide) ?_
        refine zJ.iadd (pc := 122) dX5_makesRoom_122 ?_
        refine zE.astI (pc := 123) (ia_40 o) ok_40 (by unfold vp_in; decide) dX5_makesRoom_123 ?_
        refine zJ.aload_n (pc := 124) 1 dX5_makesRoom_124 rfl rfl ?_
        refine zJ.iload_n (pc := 125) 0 dX5_makesRoom_125 rfl rfl ?_
        refine zG.callVv (d := mdX5_makesRoom) (pc := 126) [.int y3] [] (ob_23 o) ok_23 rfl dX5_makesRoom_126 ⟨(cb_X5_goesFar).1, (cb_X5_goesFar).2, (Nat.le_of_ble_eq_true rfl), (Nat.le_of_ble_eq_true rfl)⟩ ml_X5_145 ci_X5_goesFar cv_X5_goesFar rfl (Nat.le_of_ble_eq_true rfl) (Nat.le_of_ble_eq_true rfl) rfl h (fun S8 h2 => ?_)
        replace h := h2
        clear h2
        exact zG.ret (pc := 129) (r := none) ⟨dX5_makesRoom_129, rfl⟩ h
      · replace h := h.2 c5
        refine zJ.aload_n (pc := 76) 1 dX5_makesRoom_76 rfl rfl ?_
        refine zE.getV (pc := 77) (fd_23_5 o) ok_23 kiX5 (Nat.le_of_ble_eq_true rfl) fl_X5_25 dX5_makesRoom_77 ?_
        refine zJ.iload_n (pc := 80) 0 dX5_makesRoom_80 rfl rfl ?_
        refine zJ.iconst (pc := 81) (v := 2) dX5_makesRoom_81 (by decide) ?_
        obtain ⟨hq, h⟩ := h
        refine zE.astI (pc := 82) (ia_29 o) ok_29 hq dX5_makesRoom_82 ?_
        refine zJ.aload_n (pc := 83) 1 dX5_makesRoom_83 rfl rfl ?_
        refine zE.getV (pc := 84) (fd_23_6 o) ok_23 kiX5 (Nat.le_of_ble_eq_true rfl) fl_X5_28 dX5_makesRoom_84 ?_
        refine zJ.iload_n (pc := 87) 0 dX5_makesRoom_87 rfl rfl ?_
        refine zJ.aload_n (pc := 88) 1 dX5_makesRoom_88 rfl rfl ?_
        refine zE.getV (pc := 89) (fd_23_16 o) ok_23 kiX5 (Nat.le_of_ble_eq_true rfl) fl_X5_58 dX5_makesRoom_89 ?_
        refine zJ.bipush (pc := 92) (v := 9) dX5_makesRoom_92 (by decide) ?_
        refine zE.aldI (pc := 94) (ia_40 o) ok_40 (by unfold vp_in; decide) dX5_makesRoom_94 ?_
        refine zJ.aload_n (pc := 95) 1 dX5_makesRoom_95 rfl rfl ?_
        refine zG.callVi (d := mdX5_makesRoom) (pc := 96) [] [.int ((sI S2 (29, 0, 0) (y3.toNatClampNeg) 2).1 (40, 0, 0) 9), .int y3, .ref (z_adr o (30, 0, 0))] (ob_23 o) ok_23 rfl dX5_makesRoom_96 ⟨(cb_X5_halfLong).1, (cb_X5_halfLong).2, (Nat.le_of_ble_eq_true rfl), (Nat.le_of_ble_eq_true rfl)⟩ ml_X5_142 ci_X5_halfLong cv_X5_halfLong rfl (Nat.le_of_ble_eq_true rfl) (Nat.le_of_ble_eq_true rfl) rfl h (fun r10 S11 h2 => ?_)
        replace h := h2
        clear h2
        refine zJ.iadd (pc := 99) dX5_makesRoom_99 ?_
        refine zJ.topi (fun y12 hyy12 => ?_)
        replace h := h y12 hyy12
        obtain ⟨hq, h⟩ := h
        refine zE.astI (pc := 100) (ia_30 o) ok_30 hq dX5_makesRoom_100 ?_
        refine zJ.aload_n (pc := 101) 1 dX5_makesRoom_101 rfl rfl ?_
        refine zE.getV (pc := 102) (fd_23_15 o) ok_23 kiX5 (Nat.le_of_ble_eq_true rfl) fl_X5_55 dX5_makesRoom_102 ?_
        refine zJ.iconst (pc := 105) (v := 1) dX5_makesRoom_105 (by decide) ?_
        refine zJ.dup2_11 (pc := 106) dX5_makesRoom_106 rfl rfl ?_
        refine zE.aldI (pc := 107) (ia_39 o) ok_39 (by unfold vp_in; decide) dX5_makesRoom_107 ?_
        refine zJ.iconst (pc := 108) (v := 1) dX5_makesRoom_108 (by decide) ?_
        refine zJ.iadd (pc := 109) dX5_makesRoom_109 ?_
        refine zJ.topi (fun y13 hyy13 => ?_)
        replace h := h y13 hyy13
        refine zE.astI (pc := 110) (ia_39 o) ok_39 (by unfold vp_in; decide) dX5_makesRoom_110 ?_
        refine zJ.goto (pc := 111) (tgt := 129) dX5_makesRoom_111 (by decide) ?_
        exact zG.ret (pc := 129) (r := none) ⟨dX5_makesRoom_129, rfl⟩ h
    · replace h := h.2 c4
      refine zJ.aload_n (pc := 51) 1 dX5_makesRoom_51 rfl rfl ?_
      refine zE.getV (pc := 52) (fd_23_5 o) ok_23 kiX5 (Nat.le_of_ble_eq_true rfl) fl_X5_25 dX5_makesRoom_52 ?_
      refine zJ.iload_n (pc := 55) 0 dX5_makesRoom_55 rfl rfl ?_
      refine zJ.iconst (pc := 56) (v := 0) dX5_makesRoom_56 (by decide) ?_
      obtain ⟨hq, h⟩ := h
      refine zE.astI (pc := 57) (ia_29 o) ok_29 hq dX5_makesRoom_57 ?_
      refine zJ.goto (pc := 58) (tgt := 129) dX5_makesRoom_58 (by decide) ?_
      exact zG.ret (pc := 129) (r := none) ⟨dX5_makesRoom_129, rfl⟩ h
  · replace h := h.2 c1
    exact zG.ret (pc := 15) (r := none) ⟨dX5_makesRoom_15, rfl⟩ h
set_option maxRecDepth 100000 in
set_option maxHeartbeats 4000000 in
theorem w_X5_comesNear_0 (o : zW) (x1 : Int32) (S : zS) (Q : Option Value → zS → Prop) (h : zGi o 994 mdX5_rowOf [.int x1] S (fun r2 S3 => zGv o 994 mdX5_makesRoom [.ref (z_adr o (23, 0, 0)), .int r2] S3 (fun S6 => vp_in r2 4 ∧ (zG o 994 mdX5_comesNear 17 [(0, .ref (z_adr o (23, 0, 0))), (1, .int x1), (2, .int r2), (3, .int (S6.1 (31, 0, 0) r2.toNatClampNeg))] [] S6 Q)))) : zG o 994 mdX5_comesNear 0 [(0, .ref (z_adr o (23, 0, 0))), (1, .int x1)] [] S Q := by
  show zJ o mdX5_comesNear 0 _ [] (994, z_enc o S) 0 0 _
  refine zJ.iload_n (pc := 0) 1 dX5_comesNear_0 rfl rfl ?_
  refine zG.callSi (d := mdX5_comesNear) (pc := 1) [.int x1] [] dX5_comesNear_1 ⟨(cb_X5_rowOf).1, (cb_X5_rowOf).2, (Nat.le_of_ble_eq_true rfl), (Nat.le_of_ble_eq_true rfl)⟩ ml_X5_137 cs_X5_rowOf rfl (Nat.le_of_ble_eq_true rfl) (Nat.le_of_ble_eq_true rfl) rfl h (fun r2 S3 h2 => ?_)
  replace h := h2
  clear h2
  refine zJ.istore_n (pc := 4) (lv' := [(2, .int r2), (0, .ref (z_adr o (23, 0, 0))), (1, .int x1)]) dX5_comesNear_4 rfl (Nat.le_of_ble_eq_true rfl) rfl ?_
  refine zJ.aload_n (pc := 5) 1 dX5_comesNear_5 rfl rfl ?_
  refine zJ.iload_n (pc := 6) 0 dX5_comesNear_6 rfl rfl ?_
  refine zG.callVv (d := mdX5_comesNear) (pc := 7) [.int r2] [] (ob_23 o) ok_23 rfl dX5_comesNear_7 ⟨(cb_X5_makesRoom).1, (cb_X5_makesRoom).2, (Nat.le_of_ble_eq_true rfl), (Nat.le_of_ble_eq_true rfl)⟩ ml_X5_148 ci_X5_makesRoom cv_X5_makesRoom rfl (Nat.le_of_ble_eq_true rfl) (Nat.le_of_ble_eq_true rfl) rfl h (fun S6 h2 => ?_)
  replace h := h2
  clear h2
  refine zJ.aload_n (pc := 10) 1 dX5_comesNear_10 rfl rfl ?_
  refine zE.getV (pc := 11) (fd_23_7 o) ok_23 kiX5 (Nat.le_of_ble_eq_true rfl) fl_X5_31 dX5_comesNear_11 ?_
  refine zJ.iload_n (pc := 14) 0 dX5_comesNear_14 rfl rfl ?_
  obtain ⟨hq, h⟩ := h
  refine zE.aldI (pc := 15) (ia_31 o) ok_31 hq dX5_comesNear_15 ?_
  refine zJ.istore_n (pc := 16) (lv' := [(3, .int (S6.1 (31, 0, 0) r2.toNatClampNeg)), (2, .int r2), (0, .ref (z_adr o (23, 0, 0))), (1, .int x1)]) dX5_comesNear_16 rfl (Nat.le_of_ble_eq_true rfl) rfl ?_
  exact zJ.sub [2, 3, 1, 0] rfl h
set_option maxRecDepth 100000 in
set_option maxHeartbeats 4000000 in
theorem w_X5_comesNear_17 (o : zW) (x1 : Int32) (x2 : Int32) (x3 : Int32) (S : zS) (Q : Option Value → zS → Prop) (h : (x3 ≤ 0 → (vp_in (3 * x2) 12 ∧ (vp_in x2 4 ∧ (∀ y2 : Int32, y2 = ((sI S (32, 0, 0) ((3 * x2).toNatClampNeg) x1).1 (31, 0, 0) x2.toNatClampNeg) → (vp_in x2 4 ∧ (∀ S3 : zS, S3 = (sI (sI S (32, 0, 0) ((3 * x2).toNatClampNeg) x1) (31, 0, 0) (x2.toNatClampNeg) (y2 + 1)) → (vp_in x1 16 ∧ (Q none (sI S3 (29, 0, 0) (x1.toNatClampNeg) 1))))))))) ∧ (¬ x3 ≤ 0 → (vp_in (((3 * x2) + x3) - 1) 12 ∧ (vp_in ((3 * x2) + x3) 12 ∧ (∀ S4 : zS, S4 = (sI S (32, 0, 0) (((3 * x2) + x3).toNatClampNeg) (S.1 (32, 0, 0) ((((3 * x2) + x3) - 1).toNatClampNeg))) → (zG o 994 mdX5_comesNear 17 [(0, .ref (z_adr o (23, 0, 0))), (1, .int x1), (2, .int x2), (3, .int (x3 + (-1)))] [] S4 Q)))))) : zG o 994 mdX5_comesNear 17 [(0, .ref (z_adr o (23, 0, 0))), (1, .int x1), (2, .int x2), (3, .int x3)] [] S Q := by
  show zJ o mdX5_comesNear 17 _ [] (994, z_enc o S) 0 0 _
  refine zJ.iload_n (pc := 17) 3 dX5_comesNear_17 rfl rfl ?_
  refine zJ.if_le (pc := 18) (tgt := 49) dX5_comesNear_18 (by decide) (fun c1 => ?_) (fun c1 => ?_)
  · replace h := h.1 c1
    refine zJ.aload_n (pc := 49) 0 dX5_comesNear_49 rfl rfl ?_
    refine zE.getV (pc := 50) (fd_23_8 o) ok_23 kiX5 (Nat.le_of_ble_eq_true rfl) fl_X5_34 dX5_comesNear_50 ?_
    refine zJ.iconst (pc := 53) (v := 3) dX5_comesNear_53 (by decide) ?_
    refine zJ.iload_n (pc := 54) 2 dX5_comesNear_54 rfl rfl ?_
    refine zJ.imul (pc := 55) dX5_comesNear_55 ?_
    refine zJ.iload_n (pc := 56) 1 dX5_comesNear_56 rfl rfl ?_
    obtain ⟨hq, h⟩ := h
    refine zE.astI (pc := 57) (ia_32 o) ok_32 hq dX5_comesNear_57 ?_
    refine zJ.aload_n (pc := 58) 0 dX5_comesNear_58 rfl rfl ?_
    refine zE.getV (pc := 59) (fd_23_7 o) ok_23 kiX5 (Nat.le_of_ble_eq_true rfl) fl_X5_31 dX5_comesNear_59 ?_
    refine zJ.iload_n (pc := 62) 2 dX5_comesNear_62 rfl rfl ?_
    refine zJ.dup2_11 (pc := 63) dX5_comesNear_63 rfl rfl ?_
    obtain ⟨hq, h⟩ := h
    refine zE.aldI (pc := 64) (ia_31 o) ok_31 hq dX5_comesNear_64 ?_
    refine zJ.topi (fun y2 hyy2 => ?_)
    replace h := h y2 hyy2
    refine zJ.iconst (pc := 65) (v := 1) dX5_comesNear_65 (by decide) ?_
    refine zJ.iadd (pc := 66) dX5_comesNear_66 ?_
    obtain ⟨hq, h⟩ := h
    refine zE.astI (pc := 67) (ia_31 o) ok_31 hq dX5_comesNear_67 ?_
    refine zJ.nameS (fun S3 hyS3 => ?_)
    replace h := h S3 hyS3
    refine zJ.aload_n (pc := 68) 0 dX5_comesNear_68 rfl rfl ?_
    refine zE.getV (pc := 69) (fd_23_5 o) ok_23 kiX5 (Nat.le_of_ble_eq_true rfl) fl_X5_25 dX5_comesNear_69 ?_
    refine zJ.iload_n (pc := 72) 1 dX5_comesNear_72 rfl rfl ?_
    refine zJ.iconst (pc := 73) (v := 1) dX5_comesNear_73 (by decide) ?_
    obtain ⟨hq, h⟩ := h
    refine zE.astI (pc := 74) (ia_29 o) ok_29 hq dX5_comesNear_74 ?_
    exact zG.ret (pc := 75) (r := none) ⟨dX5_comesNear_75, rfl⟩ h
  · replace h := h.2 c1
    refine zJ.aload_n (pc := 21) 0 dX5_comesNear_21 rfl rfl ?_
    refine zE.getV (pc := 22) (fd_23_8 o) ok_23 kiX5 (Nat.le_of_ble_eq_true rfl) fl_X5_34 dX5_comesNear_22 ?_
    refine zJ.iconst (pc := 25) (v := 3) dX5_comesNear_25 (by decide) ?_
    refine zJ.iload_n (pc := 26) 2 dX5_comesNear_26 rfl rfl ?_
    refine zJ.imul (pc := 27) dX5_comesNear_27 ?_
    refine zJ.iload_n (pc := 28) 3 dX5_comesNear_28 rfl rfl ?_
    refine zJ.iadd (pc := 29) dX5_comesNear_29 ?_
    refine zJ.aload_n (pc := 30) 0 dX5_comesNear_30 rfl rfl ?_
    refine zE.getV (pc := 31) (fd_23_8 o) ok_23 kiX5 (Nat.le_of_ble_eq_true rfl) fl_X5_34 dX5_comesNear_31 ?_
    refine zJ.iconst (pc := 34) (v := 3) dX5_comesNear_34 (by decide) ?_
    refine zJ.iload_n (pc := 35) 2 dX5_comesNear_35 rfl rfl ?_
    refine zJ.imul (pc := 36) dX5_comesNear_36 ?_
    refine zJ.iload_n (pc := 37) 3 dX5_comesNear_37 rfl rfl ?_
    refine zJ.iadd (pc := 38) dX5_comesNear_38 ?_
    refine zJ.iconst (pc := 39) (v := 1) dX5_comesNear_39 (by decide) ?_
    refine zJ.isub (pc := 40) dX5_comesNear_40 ?_
    obtain ⟨hq, h⟩ := h
    refine zE.aldI (pc := 41) (ia_32 o) ok_32 hq dX5_comesNear_41 ?_
    obtain ⟨hq, h⟩ := h
    refine zE.astI (pc := 42) (ia_32 o) ok_32 hq dX5_comesNear_42 ?_
    refine zJ.nameS (fun S4 hyS4 => ?_)
    replace h := h S4 hyS4
    refine zJ.iinc (pc := 43) (k := 3) (lv' := [(3, .int (x3 + (-1))), (0, .ref (z_adr o (23, 0, 0))), (1, .int x1), (2, .int x2)]) dX5_comesNear_43 rfl rfl (Nat.le_of_ble_eq_true rfl) rfl ?_
    refine zJ.goto (pc := 46) (tgt := 17) dX5_comesNear_46 (by decide) ?_
    exact zJ.sub [1, 2, 3, 0] rfl h
set_option maxRecDepth 100000 in
set_option maxHeartbeats 4000000 in
theorem w_X5_getsItem_0 (o : zW) (x1 : Int32) (x2 : Int32) (x3 : Int32) (x4 : Int32) (S : zS) (Q : Option Value → zS → Prop) (h : ∀ S1 : zS, S1 = (sL (sI S (40, 0, 0) 8 ((S.1 (40, 0, 0) 8) + 1)) (23, 0, 0) 21 (((sI S (40, 0, 0) 8 ((S.1 (40, 0, 0) 8) + 1)).2.1 (23, 0, 0) 21) + (((S.1 (40, 0, 0) 9) - x4).toInt64))) → (∀ S2 : zS, S2 = (sL S1 (23, 0, 0) 22 ((S1.2.1 (23, 0, 0) 22) + ((((S.1 (40, 0, 0) 9) - x4).toInt64) * (((S.1 (40, 0, 0) 9) - x4).toInt64)))) → ((((S.1 (40, 0, 0) 9) - x4) ≤ (S2.1 (39, 0, 0) 2) → ((200 ≤ x1 → (Q none (sI S2 (39, 0, 0) 2 (S2.1 (39, 0, 0) 2)))) ∧ (¬ 200 ≤ x1 → (vp_in ((4 * x2) + x3) 64 ∧ (∀ y5 : Int32, y5 = ((sI S2 (39, 0, 0) 2 (S2.1 (39, 0, 0) 2)).1 (27, 0, 0) (((4 * x2) + x3).toNatClampNeg)) → (vp_in x1 200 ∧ (∀ S6 : zS, S6 = (sI (sI S2 (39, 0, 0) 2 (S2.1 (39, 0, 0) 2)) (41, 0, 0) (x1.toNatClampNeg) y5) → (vp_in x1 200 ∧ (Q none (sI S6 (42, 0, 0) (x1.toNatClampNeg) ((S.1 (40, 0, 0) 9) - x4))))))))))) ∧ (¬ ((S.1 (40, 0, 0) 9) - x4) ≤ (S2.1 (39, 0, 0) 2) → ((200 ≤ x1 → (Q none (sI S2 (39, 0, 0) 2 ((S.1 (40, 0, 0) 9) - x4)))) ∧ (¬ 200 ≤ x1 → (vp_in ((4 * x2) + x3) 64 ∧ (∀ y8 : Int32, y8 = ((sI S2 (39, 0, 0) 2 ((S.1 (40, 0, 0) 9) - x4)).1 (27, 0, 0) (((4 * x2) + x3).toNatClampNeg)) → (vp_in x1 200 ∧ (∀ S9 : zS, S9 = (sI (sI S2 (39, 0, 0) 2 ((S.1 (40, 0, 0) 9) - x4)) (41, 0, 0) (x1.toNatClampNeg) y8) → (vp_in x1 200 ∧ (Q none (sI S9 (42, 0, 0) (x1.toNatClampNeg) ((S.1 (40, 0, 0) 9) - x4)))))))))))))) : zG o 994 mdX5_getsItem 0 [(0, .ref (z_adr o (23, 0, 0))), (1, .int x1), (2, .int x2), (3, .int x3), (4, .int x4)] [] S Q := by
  show zJ o mdX5_getsItem 0 _ [] (994, z_enc o S) 0 0 _
  refine zJ.aload_n (pc := 0) 0 dX5_getsItem_0 rfl rfl ?_
  refine zE.getV (pc := 1) (fd_23_16 o) ok_23 kiX5 (Nat.le_of_ble_eq_true rfl) fl_X5_58 dX5_getsItem_1 ?_
  refine zJ.bipush (pc := 4) (v := 9) dX5_getsItem_4 (by decide) ?_
  refine zE.aldI (pc := 6) (ia_40 o) ok_40 (by unfold vp_in; decide) dX5_getsItem_6 ?_
  refine zJ.iload (pc := 7) 4 dX5_getsItem_7 rfl ?_
  refine zJ.isub (pc := 9) dX5_getsItem_9 ?_
  refine zJ.istore (pc := 10) (lv' := [(5, .int ((S.1 (40, 0, 0) 9) - x4)), (0, .ref (z_adr o (23, 0, 0))), (1, .int x1), (2, .int x2), (3, .int x3), (4, .int x4)]) dX5_getsItem_10 (Nat.le_of_ble_eq_true rfl) rfl ?_
  refine zJ.aload_n (pc := 12) 1 dX5_getsItem_12 rfl rfl ?_
  refine zE.getV (pc := 13) (fd_23_16 o) ok_23 kiX5 (Nat.le_of_ble_eq_true rfl) fl_X5_58 dX5_getsItem_13 ?_
  refine zJ.bipush (pc := 16) (v := 8) dX5_getsItem_16 (by decide) ?_
  refine zJ.dup2_11 (pc := 18) dX5_getsItem_18 rfl rfl ?_
  refine zE.aldI (pc := 19) (ia_40 o) ok_40 (by unfold vp_in; decide) dX5_getsItem_19 ?_
  refine zJ.iconst (pc := 20) (v := 1) dX5_getsItem_20 (by decide) ?_
  refine zJ.iadd (pc := 21) dX5_getsItem_21 ?_
  refine zE.astI (pc := 22) (ia_40 o) ok_40 (by unfold vp_in; decide) dX5_getsItem_22 ?_
  refine zJ.aload_n (pc := 23) 1 dX5_getsItem_23 rfl rfl ?_
  refine zJ.dup (pc := 24) dX5_getsItem_24 rfl ?_
  refine zE.getL (pc := 25) (fd_23_21 o) ok_23 kiX5 (Nat.le_of_ble_eq_true rfl) fl_X5_94 dX5_getsItem_25 ?_
  refine zJ.iload (pc := 28) 0 dX5_getsItem_28 rfl ?_
  refine zJ.i2l (pc := 30) dX5_getsItem_30 ?_
  refine zJ.ladd (pc := 31) dX5_getsItem_31 ?_
  refine zE.putL (pc := 32) (fd_23_21 o) ok_23 kiX5 (Nat.le_of_ble_eq_true rfl) fl_X5_94 rfl rfl dX5_getsItem_32 ?_
  refine zJ.nameS (fun S1 hyS1 => ?_)
  replace h := h S1 hyS1
  refine zJ.aload_n (pc := 35) 1 dX5_getsItem_35 rfl rfl ?_
  refine zJ.dup (pc := 36) dX5_getsItem_36 rfl ?_
  refine zE.getL (pc := 37) (fd_23_22 o) ok_23 kiX5 (Nat.le_of_ble_eq_true rfl) fl_X5_98 dX5_getsItem_37 ?_
  refine zJ.iload (pc := 40) 0 dX5_getsItem_40 rfl ?_
  refine zJ.i2l (pc := 42) dX5_getsItem_42 ?_
  refine zJ.iload (pc := 43) 0 dX5_getsItem_43 rfl ?_
  refine zJ.i2l (pc := 45) dX5_getsItem_45 ?_
  refine zJ.lmul (pc := 46) dX5_getsItem_46 ?_
  refine zJ.ladd (pc := 47) dX5_getsItem_47 ?_
  refine zE.putL (pc := 48) (fd_23_22 o) ok_23 kiX5 (Nat.le_of_ble_eq_true rfl) fl_X5_98 rfl rfl dX5_getsItem_48 ?_
  refine zJ.nameS (fun S2 hyS2 => ?_)
  replace h := h S2 hyS2
  refine zJ.aload_n (pc := 51) 1 dX5_getsItem_51 rfl rfl ?_
  refine zE.getV (pc := 52) (fd_23_15 o) ok_23 kiX5 (Nat.le_of_ble_eq_true rfl) fl_X5_55 dX5_getsItem_52 ?_
  refine zJ.iconst (pc := 55) (v := 2) dX5_getsItem_55 (by decide) ?_
  refine zJ.iload (pc := 56) 0 dX5_getsItem_56 rfl ?_
  refine zJ.aload_n (pc := 58) 1 dX5_getsItem_58 rfl rfl ?_
  refine zE.getV (pc := 59) (fd_23_15 o) ok_23 kiX5 (Nat.le_of_ble_eq_true rfl) fl_X5_55 dX5_getsItem_59 ?_
  refine zJ.iconst (pc := 62) (v := 2) dX5_getsItem_62 (by decide) ?_
  refine zE.aldI (pc := 63) (ia_39 o) ok_39 (by unfold vp_in; decide) dX5_getsItem_63 ?_
  refine zJ.icmp_le (pc := 64) (tgt := 72) dX5_getsItem_64 (by decide) (fun c3 => ?_) (fun c3 => ?_)
  · replace h := h.1 c3
    refine zJ.aload_n (pc := 72) 1 dX5_getsItem_72 rfl rfl ?_
    refine zE.getV (pc := 73) (fd_23_15 o) ok_23 kiX5 (Nat.le_of_ble_eq_true rfl) fl_X5_55 dX5_getsItem_73 ?_
    refine zJ.iconst (pc := 76) (v := 2) dX5_getsItem_76 (by decide) ?_
    refine zE.aldI (pc := 77) (ia_39 o) ok_39 (by unfold vp_in; decide) dX5_getsItem_77 ?_
    refine zE.astI (pc := 78) (ia_39 o) ok_39 (by unfold vp_in; decide) dX5_getsItem_78 ?_
    refine zJ.iload_n (pc := 79) 2 dX5_getsItem_79 rfl rfl ?_
    refine zJ.sipush (pc := 80) (v := 200) dX5_getsItem_80 (by decide) ?_
    refine zJ.icmp_ge (pc := 83) (tgt := 110) dX5_getsItem_83 (by decide) (fun c4 => ?_) (fun c4 => ?_)
    · replace h := h.1 c4
      exact zG.ret (pc := 110) (r := none) ⟨dX5_getsItem_110, rfl⟩ h
    · replace h := h.2 c4
      refine zJ.aload_n (pc := 86) 1 dX5_getsItem_86 rfl rfl ?_
      refine zE.getV (pc := 87) (fd_23_17 o) ok_23 kiX5 (Nat.le_of_ble_eq_true rfl) fl_X5_61 dX5_getsItem_87 ?_
      refine zJ.iload_n (pc := 90) 2 dX5_getsItem_90 rfl rfl ?_
      refine zJ.aload_n (pc := 91) 1 dX5_getsItem_91 rfl rfl ?_
      refine zE.getV (pc := 92) (fd_23_3 o) ok_23 kiX5 (Nat.le_of_ble_eq_true rfl) fl_X5_19 dX5_getsItem_92 ?_
      refine zJ.iconst (pc := 95) (v := 4) dX5_getsItem_95 (by decide) ?_
      refine zJ.iload_n (pc := 96) 3 dX5_getsItem_96 rfl rfl ?_
      refine zJ.imul (pc := 97) dX5_getsItem_97 ?_
      refine zJ.iload_n (pc := 98) 4 dX5_getsItem_98 rfl rfl ?_
      refine zJ.iadd (pc := 99) dX5_getsItem_99 ?_
      obtain ⟨hq, h⟩ := h
      refine zE.aldI (pc := 100) (ia_27 o) ok_27 hq dX5_getsItem_100 ?_
      refine zJ.topi (fun y5 hyy5 => ?_)
      replace h := h y5 hyy5
      obtain ⟨hq, h⟩ := h
      refine zE.astI (pc := 101) (ia_41 o) ok_41 hq dX5_getsItem_101 ?_
      refine zJ.nameS (fun S6 hyS6 => ?_)
      replace h := h S6 hyS6
      refine zJ.aload_n (pc := 102) 1 dX5_getsItem_102 rfl rfl ?_
      refine zE.getV (pc := 103) (fd_23_18 o) ok_23 kiX5 (Nat.le_of_ble_eq_true rfl) fl_X5_64 dX5_getsItem_103 ?_
      refine zJ.iload_n (pc := 106) 2 dX5_getsItem_106 rfl rfl ?_
      refine zJ.iload (pc := 107) 0 dX5_getsItem_107 rfl ?_
      obtain ⟨hq, h⟩ := h
      refine zE.astI (pc := 109) (ia_42 o) ok_42 hq dX5_getsItem_109 ?_
      exact zG.ret (pc := 110) (r := none) ⟨dX5_getsItem_110, rfl⟩ h
  · replace h := h.2 c3
    refine zJ.iload (pc := 67) 0 dX5_getsItem_67 rfl ?_
    refine zJ.goto (pc := 69) (tgt := 78) dX5_getsItem_69 (by decide) ?_
    refine zE.astI (pc := 78) (ia_39 o) ok_39 (by unfold vp_in; decide) dX5_getsItem_78 ?_
    refine zJ.iload_n (pc := 79) 2 dX5_getsItem_79 rfl rfl ?_
    refine zJ.sipush (pc := 80) (v := 200) dX5_getsItem_80 (by decide) ?_
    refine zJ.icmp_ge (pc := 83) (tgt := 110) dX5_getsItem_83 (by decide) (fun c7 => ?_) (fun c7 => ?_)
    · replace h := h.1 c7
      exact zG.ret (pc := 110) (r := none) ⟨dX5_getsItem_110, rfl⟩ h
    · replace h := h.2 c7
      refine zJ.aload_n (pc := 86) 1 dX5_getsItem_86 rfl rfl ?_
      refine zE.getV (pc := 87) (fd_23_17 o) ok_23 kiX5 (Nat.le_of_ble_eq_true rfl) fl_X5_61 dX5_getsItem_87 ?_
      refine zJ.iload_n (pc := 90) 2 dX5_getsItem_90 rfl rfl ?_
      refine zJ.aload_n (pc := 91) 1 dX5_getsItem_91 rfl rfl ?_
      refine zE.getV (pc := 92) (fd_23_3 o) ok_23 kiX5 (Nat.le_of_ble_eq_true rfl) fl_X5_19 dX5_getsItem_92 ?_
      refine zJ.iconst (pc := 95) (v := 4) dX5_getsItem_95 (by decide) ?_
      refine zJ.iload_n (pc := 96) 3 dX5_getsItem_96 rfl rfl ?_
      refine zJ.imul (pc := 97) dX5_getsItem_97 ?_
      refine zJ.iload_n (pc := 98) 4 dX5_getsItem_98 rfl rfl ?_
      refine zJ.iadd (pc := 99) dX5_getsItem_99 ?_
      obtain ⟨hq, h⟩ := h
      refine zE.aldI (pc := 100) (ia_27 o) ok_27 hq dX5_getsItem_100 ?_
      refine zJ.topi (fun y8 hyy8 => ?_)
      replace h := h y8 hyy8
      obtain ⟨hq, h⟩ := h
      refine zE.astI (pc := 101) (ia_41 o) ok_41 hq dX5_getsItem_101 ?_
      refine zJ.nameS (fun S9 hyS9 => ?_)
      replace h := h S9 hyS9
      refine zJ.aload_n (pc := 102) 1 dX5_getsItem_102 rfl rfl ?_
      refine zE.getV (pc := 103) (fd_23_18 o) ok_23 kiX5 (Nat.le_of_ble_eq_true rfl) fl_X5_64 dX5_getsItem_103 ?_
      refine zJ.iload_n (pc := 106) 2 dX5_getsItem_106 rfl rfl ?_
      refine zJ.iload (pc := 107) 0 dX5_getsItem_107 rfl ?_
      obtain ⟨hq, h⟩ := h
      refine zE.astI (pc := 109) (ia_42 o) ok_42 hq dX5_getsItem_109 ?_
      exact zG.ret (pc := 110) (r := none) ⟨dX5_getsItem_110, rfl⟩ h
set_option maxRecDepth 100000 in
set_option maxHeartbeats 4000000 in
theorem w_X5_laysIn_0 (o : zW) (x1 : Int32) (x2 : Int32) (x3 : Int32) (S : zS) (Q : Option Value → zS → Prop) (h : vp_in ((4 * x1) + x2) 64 ∧ (vp_in x1 16 ∧ (∀ y1 : Int32, y1 = ((sI S (27, 0, 0) (((4 * x1) + x2).toNatClampNeg) x3).1 (28, 0, 0) x1.toNatClampNeg) → (vp_in x1 16 ∧ (∀ S2 : zS, S2 = (sI (sI S (27, 0, 0) (((4 * x1) + x2).toNatClampNeg) x3) (28, 0, 0) (x1.toNatClampNeg) (y1 ||| (1 <<< (x2 &&& 31)))) → (Q none S2)))))) : zG o 994 mdX5_laysIn 0 [(0, .ref (z_adr o (23, 0, 0))), (1, .int x1), (2, .int x2), (3, .int x3)] [] S Q := by
  show zJ o mdX5_laysIn 0 _ [] (994, z_enc o S) 0 0 _
  refine zJ.aload_n (pc := 0) 0 dX5_laysIn_0 rfl rfl ?_
  refine zE.getV (pc := 1) (fd_23_3 o) ok_23 kiX5 (Nat.le_of_ble_eq_true rfl) fl_X5_19 dX5_laysIn_1 ?_
  refine zJ.iconst (pc := 4) (v := 4) dX5_laysIn_4 (by decide) ?_
  refine zJ.iload_n (pc := 5) 1 dX5_laysIn_5 rfl rfl ?_
  refine zJ.imul (pc := 6) dX5_laysIn_6 ?_
  refine zJ.iload_n (pc := 7) 2 dX5_laysIn_7 rfl rfl ?_
  refine zJ.iadd (pc := 8) dX5_laysIn_8 ?_
  refine zJ.iload_n (pc := 9) 3 dX5_laysIn_9 rfl rfl ?_
  obtain ⟨hq, h⟩ := h
  refine zE.astI (pc := 10) (ia_27 o) ok_27 hq dX5_laysIn_10 ?_
  refine zJ.aload_n (pc := 11) 0 dX5_laysIn_11 rfl rfl ?_
  refine zE.getV (pc := 12) (fd_23_4 o) ok_23 kiX5 (Nat.le_of_ble_eq_true rfl) fl_X5_22 dX5_laysIn_12 ?_
  refine zJ.iload_n (pc := 15) 1 dX5_laysIn_15 rfl rfl ?_
  refine zJ.dup2_11 (pc := 16) dX5_laysIn_16 rfl rfl ?_
  obtain ⟨hq, h⟩ := h
  refine zE.aldI (pc := 17) (ia_28 o) ok_28 hq dX5_laysIn_17 ?_
  refine zJ.topi (fun y1 hyy1 => ?_)
  replace h := h y1 hyy1
  refine zJ.iconst (pc := 18) (v := 1) dX5_laysIn_18 (by decide) ?_
  refine zJ.iload_n (pc := 19) 2 dX5_laysIn_19 rfl rfl ?_
  refine zJ.ishl (pc := 20) dX5_laysIn_20 ?_
  refine zJ.ior (pc := 21) dX5_laysIn_21 ?_
  obtain ⟨hq, h⟩ := h
  refine zE.astI (pc := 22) (ia_28 o) ok_28 hq dX5_laysIn_22 ?_
  refine zJ.nameS (fun S2 hyS2 => ?_)
  replace h := h S2 hyS2
  exact zG.ret (pc := 23) (r := none) ⟨dX5_laysIn_23, rfl⟩ h
set_option maxRecDepth 100000 in
set_option maxHeartbeats 4000000 in
theorem w_X5_comesFetched_0 (o : zW) (x1 : Int32) (S : zS) (Q : Option Value → zS → Prop) (h : zG o 994 mdX5_comesFetched 2 [(0, .ref (z_adr o (23, 0, 0))), (1, .int x1), (2, .int 0)] [] S Q) : zG o 994 mdX5_comesFetched 0 [(0, .ref (z_adr o (23, 0, 0))), (1, .int x1)] [] S Q := by
  show zJ o mdX5_comesFetched 0 _ [] (994, z_enc o S) 0 0 _
  refine zJ.iconst (pc := 0) (v := 0) dX5_comesFetched_0 (by decide) ?_
  refine zJ.istore_n (pc := 1) (lv' := [(2, .int 0), (0, .ref (z_adr o (23, 0, 0))), (1, .int x1)]) dX5_comesFetched_1 rfl (Nat.le_of_ble_eq_true rfl) rfl ?_
  exact zJ.sub [1, 2, 0] rfl h
set_option maxRecDepth 100000 in
set_option maxHeartbeats 4000000 in
theorem w_X5_comesFetched_2 (o : zW) (x1 : Int32) (x2 : Int32) (S : zS) (Q : Option Value → zS → Prop) (h : vp_in x2 4 ∧ (((S.1 (33, 0, 0) x2.toNatClampNeg) = x1 → (zG o 994 mdX5_comesFetched 30 [(0, .ref (z_adr o (23, 0, 0))), (1, .int x1), (3, .int x2)] [] (sI S (39, 0, 0) 0 ((S.1 (39, 0, 0) 0) - 1)) Q)) ∧ (¬ (S.1 (33, 0, 0) x2.toNatClampNeg) = x1 → (zG o 994 mdX5_comesFetched 2 [(0, .ref (z_adr o (23, 0, 0))), (1, .int x1), (2, .int (x2 + 1))] [] S Q)))) : zG o 994 mdX5_comesFetched 2 [(0, .ref (z_adr o (23, 0, 0))), (1, .int x1), (2, .int x2)] [] S Q := by
  show zJ o mdX5_comesFetched 2 _ [] (994, z_enc o S) 0 0 _
  refine zJ.aload_n (pc := 2) 0 dX5_comesFetched_2 rfl rfl ?_
  refine zE.getV (pc := 3) (fd_23_9 o) ok_23 kiX5 (Nat.le_of_ble_eq_true rfl) fl_X5_37 dX5_comesFetched_3 ?_
  refine zJ.iload_n (pc := 6) 2 dX5_comesFetched_6 rfl rfl ?_
  obtain ⟨hq, h⟩ := h
  refine zE.aldI (pc := 7) (ia_33 o) ok_33 hq dX5_comesFetched_7 ?_
  refine zJ.iload_n (pc := 8) 1 dX5_comesFetched_8 rfl rfl ?_
  refine zJ.icmp_eq (pc := 9) (tgt := 18) dX5_comesFetched_9 (by decide) (fun c1 => ?_) (fun c1 => ?_)
  · replace h := h.1 c1
    refine zJ.aload_n (pc := 18) 0 dX5_comesFetched_18 rfl rfl ?_
    refine zE.getV (pc := 19) (fd_23_15 o) ok_23 kiX5 (Nat.le_of_ble_eq_true rfl) fl_X5_55 dX5_comesFetched_19 ?_
    refine zJ.iconst (pc := 22) (v := 0) dX5_comesFetched_22 (by decide) ?_
    refine zJ.dup2_11 (pc := 23) dX5_comesFetched_23 rfl rfl ?_
    refine zE.aldI (pc := 24) (ia_39 o) ok_39 (by unfold vp_in; decide) dX5_comesFetched_24 ?_
    refine zJ.iconst (pc := 25) (v := 1) dX5_comesFetched_25 (by decide) ?_
    refine zJ.isub (pc := 26) dX5_comesFetched_26 ?_
    refine zE.astI (pc := 27) (ia_39 o) ok_39 (by unfold vp_in; decide) dX5_comesFetched_27 ?_
    refine zJ.iload_n (pc := 28) 2 dX5_comesFetched_28 rfl rfl ?_
    refine zJ.istore_n (pc := 29) (lv' := [(3, .int x2), (0, .ref (z_adr o (23, 0, 0))), (1, .int x1), (2, .int x2)]) dX5_comesFetched_29 rfl (Nat.le_of_ble_eq_true rfl) rfl ?_
    exact zJ.sub [1, 2, 0] rfl h
  · replace h := h.2 c1
    refine zJ.iinc (pc := 12) (k := 2) (lv' := [(2, .int (x2 + 1)), (0, .ref (z_adr o (23, 0, 0))), (1, .int x1)]) dX5_comesFetched_12 rfl rfl (Nat.le_of_ble_eq_true rfl) rfl ?_
    refine zJ.goto (pc := 15) (tgt := 2) dX5_comesFetched_15 (by decide) ?_
    exact zJ.sub [1, 2, 0] rfl h
set_option maxRecDepth 100000 in
set_option maxHeartbeats 4000000 in
theorem w_X5_comesFetched_30 (o : zW) (x1 : Int32) (x3 : Int32) (S : zS) (Q : Option Value → zS → Prop) (h : ((S.1 (39, 0, 0) 0) ≤ x3 → (zG o 994 mdX5_comesFetched 62 [(0, .ref (z_adr o (23, 0, 0))), (1, .int x1), (3, .int 0)] [] S Q)) ∧ (¬ (S.1 (39, 0, 0) 0) ≤ x3 → (vp_in (x3 + 1) 4 ∧ (vp_in x3 4 ∧ (∀ S2 : zS, S2 = (sI S (33, 0, 0) (x3.toNatClampNeg) (S.1 (33, 0, 0) ((x3 + 1).toNatClampNeg))) → (zG o 994 mdX5_comesFetched 30 [(0, .ref (z_adr o (23, 0, 0))), (1, .int x1), (3, .int (x3 + 1))] [] S2 Q)))))) : zG o 994 mdX5_comesFetched 30 [(0, .ref (z_adr o (23, 0, 0))), (1, .int x1), (3, .int x3)] [] S Q := by
  show zJ o mdX5_comesFetched 30 _ [] (994, z_enc o S) 0 0 _
  refine zJ.iload_n (pc := 30) 2 dX5_comesFetched_30 rfl rfl ?_
  refine zJ.aload_n (pc := 31) 0 dX5_comesFetched_31 rfl rfl ?_
  refine zE.getV (pc := 32) (fd_23_15 o) ok_23 kiX5 (Nat.le_of_ble_eq_true rfl) fl_X5_55 dX5_comesFetched_32 ?_
  refine zJ.iconst (pc := 35) (v := 0) dX5_comesFetched_35 (by decide) ?_
  refine zE.aldI (pc := 36) (ia_39 o) ok_39 (by unfold vp_in; decide) dX5_comesFetched_36 ?_
  refine zJ.icmp_ge (pc := 37) (tgt := 60) dX5_comesFetched_37 (by decide) (fun c1 => ?_) (fun c1 => ?_)
  · replace h := h.1 c1
    refine zJ.iconst (pc := 60) (v := 0) dX5_comesFetched_60 (by decide) ?_
    refine zJ.istore_n (pc := 61) (lv' := [(3, .int 0), (0, .ref (z_adr o (23, 0, 0))), (1, .int x1)]) dX5_comesFetched_61 rfl (Nat.le_of_ble_eq_true rfl) rfl ?_
    exact zJ.sub [1, 2, 0] rfl h
  · replace h := h.2 c1
    refine zJ.aload_n (pc := 40) 0 dX5_comesFetched_40 rfl rfl ?_
    refine zE.getV (pc := 41) (fd_23_9 o) ok_23 kiX5 (Nat.le_of_ble_eq_true rfl) fl_X5_37 dX5_comesFetched_41 ?_
    refine zJ.iload_n (pc := 44) 2 dX5_comesFetched_44 rfl rfl ?_
    refine zJ.aload_n (pc := 45) 0 dX5_comesFetched_45 rfl rfl ?_
    refine zE.getV (pc := 46) (fd_23_9 o) ok_23 kiX5 (Nat.le_of_ble_eq_true rfl) fl_X5_37 dX5_comesFetched_46 ?_
    refine zJ.iload_n (pc := 49) 2 dX5_comesFetched_49 rfl rfl ?_
    refine zJ.iconst (pc := 50) (v := 1) dX5_comesFetched_50 (by decide) ?_
    refine zJ.iadd (pc := 51) dX5_comesFetched_51 ?_
    obtain ⟨hq, h⟩ := h
    refine zE.aldI (pc := 52) (ia_33 o) ok_33 hq dX5_comesFetched_52 ?_
    obtain ⟨hq, h⟩ := h
    refine zE.astI (pc := 53) (ia_33 o) ok_33 hq dX5_comesFetched_53 ?_
    refine zJ.nameS (fun S2 hyS2 => ?_)
    replace h := h S2 hyS2
    refine zJ.iinc (pc := 54) (k := 2) (lv' := [(3, .int (x3 + 1)), (0, .ref (z_adr o (23, 0, 0))), (1, .int x1)]) dX5_comesFetched_54 rfl rfl (Nat.le_of_ble_eq_true rfl) rfl ?_
    refine zJ.goto (pc := 57) (tgt := 30) dX5_comesFetched_57 (by decide) ?_
    exact zJ.sub [1, 2, 0] rfl h
set_option maxRecDepth 100000 in
set_option maxHeartbeats 4000000 in
theorem w_X5_comesFetched_62 (o : zW) (x1 : Int32) (x3 : Int32) (S : zS) (Q : Option Value → zS → Prop) (h : (4 ≤ x3 → (vp_in x1 16 ∧ (zGv o 994 mdX5_comesNear [.ref (z_adr o (23, 0, 0)), .int x1] (sI S (28, 0, 0) (x1.toNatClampNeg) 0) (fun S4 => zG o 994 mdX5_comesFetched 107 [(0, .ref (z_adr o (23, 0, 0))), (1, .int x1), (3, .int 0)] [] S4 Q)))) ∧ (¬ 4 ≤ x3 → (vp_in ((4 * x1) + x3) 64 ∧ (vp_in ((4 * x1) + x3) 64 ∧ (∀ S5 : zS, S5 = (sI S (27, 0, 0) (((4 * x1) + x3).toNatClampNeg) (S.1 (26, 0, 0) (((4 * x1) + x3).toNatClampNeg))) → (zG o 994 mdX5_comesFetched 62 [(0, .ref (z_adr o (23, 0, 0))), (1, .int x1), (3, .int (x3 + 1))] [] S5 Q)))))) : zG o 994 mdX5_comesFetched 62 [(0, .ref (z_adr o (23, 0, 0))), (1, .int x1), (3, .int x3)] [] S Q := by
  show zJ o mdX5_comesFetched 62 _ [] (994, z_enc o S) 0 0 _
  refine zJ.iload_n (pc := 62) 2 dX5_comesFetched_62 rfl rfl ?_
  refine zJ.iconst (pc := 63) (v := 4) dX5_comesFetched_63 (by decide) ?_
  refine zJ.icmp_ge (pc := 64) (tgt := 93) dX5_comesFetched_64 (by decide) (fun c1 => ?_) (fun c1 => ?_)
  · replace h := h.1 c1
    refine zJ.aload_n (pc := 93) 0 dX5_comesFetched_93 rfl rfl ?_
    refine zE.getV (pc := 94) (fd_23_4 o) ok_23 kiX5 (Nat.le_of_ble_eq_true rfl) fl_X5_22 dX5_comesFetched_94 ?_
    refine zJ.iload_n (pc := 97) 1 dX5_comesFetched_97 rfl rfl ?_
    refine zJ.iconst (pc := 98) (v := 0) dX5_comesFetched_98 (by decide) ?_
    obtain ⟨hq, h⟩ := h
    refine zE.astI (pc := 99) (ia_28 o) ok_28 hq dX5_comesFetched_99 ?_
    refine zJ.aload_n (pc := 100) 0 dX5_comesFetched_100 rfl rfl ?_
    refine zJ.iload_n (pc := 101) 1 dX5_comesFetched_101 rfl rfl ?_
    refine zG.callVv (d := mdX5_comesFetched) (pc := 102) [.int x1] [] (ob_23 o) ok_23 rfl dX5_comesFetched_102 ⟨(cb_X5_comesNear).1, (cb_X5_comesNear).2, (Nat.le_of_ble_eq_true rfl), (Nat.le_of_ble_eq_true rfl)⟩ ml_X5_151 ci_X5_comesNear cv_X5_comesNear rfl (Nat.le_of_ble_eq_true rfl) (Nat.le_of_ble_eq_true rfl) rfl h (fun S4 h2 => ?_)
    replace h := h2
    clear h2
    refine zJ.iconst (pc := 105) (v := 0) dX5_comesFetched_105 (by decide) ?_
    refine zJ.istore_n (pc := 106) (lv' := [(3, .int 0), (0, .ref (z_adr o (23, 0, 0))), (1, .int x1)]) dX5_comesFetched_106 rfl (Nat.le_of_ble_eq_true rfl) rfl ?_
    exact zJ.sub [1, 2, 0] rfl h
  · replace h := h.2 c1
    refine zJ.aload_n (pc := 67) 0 dX5_comesFetched_67 rfl rfl ?_
    refine zE.getV (pc := 68) (fd_23_3 o) ok_23 kiX5 (Nat.le_of_ble_eq_true rfl) fl_X5_19 dX5_comesFetched_68 ?_
    refine zJ.iconst (pc := 71) (v := 4) dX5_comesFetched_71 (by decide) ?_
    refine zJ.iload_n (pc := 72) 1 dX5_comesFetched_72 rfl rfl ?_
    refine zJ.imul (pc := 73) dX5_comesFetched_73 ?_
    refine zJ.iload_n (pc := 74) 2 dX5_comesFetched_74 rfl rfl ?_
    refine zJ.iadd (pc := 75) dX5_comesFetched_75 ?_
    refine zJ.aload_n (pc := 76) 0 dX5_comesFetched_76 rfl rfl ?_
    refine zE.getV (pc := 77) (fd_23_2 o) ok_23 kiX5 (Nat.le_of_ble_eq_true rfl) fl_X5_16 dX5_comesFetched_77 ?_
    refine zJ.iconst (pc := 80) (v := 4) dX5_comesFetched_80 (by decide) ?_
    refine zJ.iload_n (pc := 81) 1 dX5_comesFetched_81 rfl rfl ?_
    refine zJ.imul (pc := 82) dX5_comesFetched_82 ?_
    refine zJ.iload_n (pc := 83) 2 dX5_comesFetched_83 rfl rfl ?_
    refine zJ.iadd (pc := 84) dX5_comesFetched_84 ?_
    obtain ⟨hq, h⟩ := h
    refine zE.aldI (pc := 85) (ia_26 o) ok_26 hq dX5_comesFetched_85 ?_
    obtain ⟨hq, h⟩ := h
    refine zE.astI (pc := 86) (ia_27 o) ok_27 hq dX5_comesFetched_86 ?_
    refine zJ.nameS (fun S5 hyS5 => ?_)
    replace h := h S5 hyS5
    refine zJ.iinc (pc := 87) (k := 2) (lv' := [(3, .int (x3 + 1)), (0, .ref (z_adr o (23, 0, 0))), (1, .int x1)]) dX5_comesFetched_87 rfl rfl (Nat.le_of_ble_eq_true rfl) rfl ?_
    refine zJ.goto (pc := 90) (tgt := 62) dX5_comesFetched_90 (by decide) ?_
    exact zJ.sub [1, 2, 0] rfl h
set_option maxRecDepth 100000 in
set_option maxHeartbeats 4000000 in
theorem w_X5_comesFetched_107 (o : zW) (x1 : Int32) (x3 : Int32) (S : zS) (Q : Option Value → zS → Prop) (h : vp_in x1 16 ∧ (((S.1 (34, 0, 0) x1.toNatClampNeg) ≤ x3 → (vp_in x1 16 ∧ (Q none (sI S (34, 0, 0) (x1.toNatClampNeg) 0)))) ∧ (¬ (S.1 (34, 0, 0) x1.toNatClampNeg) ≤ x3 → (vp_in ((4 * x1) + x3) 64 ∧ ((¬ (S.1 (38, 0, 0) (((4 * x1) + x3).toNatClampNeg)) = (-1) → (vp_in ((4 * x1) + x3) 64 ∧ (vp_in ((4 * x1) + x3) 64 ∧ (vp_in ((4 * x1) + x3) 64 ∧ (zGv o 994 mdX5_getsItem [.ref (z_adr o (23, 0, 0)), .int (S.1 (38, 0, 0) (((4 * x1) + x3).toNatClampNeg)), .int x1, .int (S.1 (35, 0, 0) (((4 * x1) + x3).toNatClampNeg)), .int (S.1 (37, 0, 0) (((4 * x1) + x3).toNatClampNeg))] S (fun S5 => zG o 994 mdX5_comesFetched 107 [(0, .ref (z_adr o (23, 0, 0))), (1, .int x1), (3, .int (x3 + 1))] [] S5 Q)))))) ∧ ((S.1 (38, 0, 0) (((4 * x1) + x3).toNatClampNeg)) = (-1) → (vp_in ((4 * x1) + x3) 64 ∧ (vp_in ((4 * x1) + x3) 64 ∧ (zGv o 994 mdX5_laysIn [.ref (z_adr o (23, 0, 0)), .int x1, .int (S.1 (35, 0, 0) (((4 * x1) + x3).toNatClampNeg)), .int (S.1 (36, 0, 0) (((4 * x1) + x3).toNatClampNeg))] S (fun S8 => zG o 994 mdX5_comesFetched 107 [(0, .ref (z_adr o (23, 0, 0))), (1, .int x1), (3, .int (x3 + 1))] [] S8 Q)))))))))) : zG o 994 mdX5_comesFetched 107 [(0, .ref (z_adr o (23, 0, 0))), (1, .int x1), (3, .int x3)] [] S Q := by
  show zJ o mdX5_comesFetched 107 _ [] (994, z_enc o S) 0 0 _
  refine zJ.iload_n (pc := 107) 2 dX5_comesFetched_107 rfl rfl ?_
  refine zJ.aload_n (pc := 108) 0 dX5_comesFetched_108 rfl rfl ?_
  refine zE.getV (pc := 109) (fd_23_10 o) ok_23 kiX5 (Nat.le_of_ble_eq_true rfl) fl_X5_40 dX5_comesFetched_109 ?_
  refine zJ.iload_n (pc := 112) 1 dX5_comesFetched_112 rfl rfl ?_
  obtain ⟨hq, h⟩ := h
  refine zE.aldI (pc := 113) (ia_34 o) ok_34 hq dX5_comesFetched_113 ?_
  refine zJ.icmp_ge (pc := 114) (tgt := 189) dX5_comesFetched_114 (by decide) (fun c1 => ?_) (fun c1 => ?_)
  · replace h := h.1 c1
    refine zJ.aload_n (pc := 189) 0 dX5_comesFetched_189 rfl rfl ?_
    refine zE.getV (pc := 190) (fd_23_10 o) ok_23 kiX5 (Nat.le_of_ble_eq_true rfl) fl_X5_40 dX5_comesFetched_190 ?_
    refine zJ.iload_n (pc := 193) 1 dX5_comesFetched_193 rfl rfl ?_
    refine zJ.iconst (pc := 194) (v := 0) dX5_comesFetched_194 (by decide) ?_
    obtain ⟨hq, h⟩ := h
    refine zE.astI (pc := 195) (ia_34 o) ok_34 hq dX5_comesFetched_195 ?_
    exact zG.ret (pc := 196) (r := none) ⟨dX5_comesFetched_196, rfl⟩ h
  · replace h := h.2 c1
    refine zJ.iconst (pc := 117) (v := 4) dX5_comesFetched_117 (by decide) ?_
    refine zJ.iload_n (pc := 118) 1 dX5_comesFetched_118 rfl rfl ?_
    refine zJ.imul (pc := 119) dX5_comesFetched_119 ?_
    refine zJ.iload_n (pc := 120) 2 dX5_comesFetched_120 rfl rfl ?_
    refine zJ.iadd (pc := 121) dX5_comesFetched_121 ?_
    refine zJ.istore (pc := 122) (lv' := [(4, .int ((4 * x1) + x3)), (0, .ref (z_adr o (23, 0, 0))), (1, .int x1), (3, .int x3)]) dX5_comesFetched_122 (Nat.le_of_ble_eq_true rfl) rfl ?_
    refine zJ.aload_n (pc := 124) 1 dX5_comesFetched_124 rfl rfl ?_
    refine zE.getV (pc := 125) (fd_23_14 o) ok_23 kiX5 (Nat.le_of_ble_eq_true rfl) fl_X5_52 dX5_comesFetched_125 ?_
    refine zJ.iload (pc := 128) 0 dX5_comesFetched_128 rfl ?_
    obtain ⟨hq, h⟩ := h
    refine zE.aldI (pc := 130) (ia_38 o) ok_38 hq dX5_comesFetched_130 ?_
    refine zJ.iconst (pc := 131) (v := (-1)) dX5_comesFetched_131 (by decide) ?_
    refine zJ.icmp_ne (pc := 132) (tgt := 157) dX5_comesFetched_132 (by decide) (fun c2 => ?_) (fun c2 => ?_)
    · replace h := h.1 c2
      refine zJ.aload_n (pc := 157) 1 dX5_comesFetched_157 rfl rfl ?_
      refine zJ.aload_n (pc := 158) 1 dX5_comesFetched_158 rfl rfl ?_
      refine zE.getV (pc := 159) (fd_23_14 o) ok_23 kiX5 (Nat.le_of_ble_eq_true rfl) fl_X5_52 dX5_comesFetched_159 ?_
      refine zJ.iload (pc := 162) 0 dX5_comesFetched_162 rfl ?_
      obtain ⟨hq, h⟩ := h
      refine zE.aldI (pc := 164) (ia_38 o) ok_38 hq dX5_comesFetched_164 ?_
      refine zJ.iload_n (pc := 165) 2 dX5_comesFetched_165 rfl rfl ?_
      refine zJ.aload_n (pc := 166) 1 dX5_comesFetched_166 rfl rfl ?_
      refine zE.getV (pc := 167) (fd_23_11 o) ok_23 kiX5 (Nat.le_of_ble_eq_true rfl) fl_X5_43 dX5_comesFetched_167 ?_
      refine zJ.iload (pc := 170) 0 dX5_comesFetched_170 rfl ?_
      obtain ⟨hq, h⟩ := h
      refine zE.aldI (pc := 172) (ia_35 o) ok_35 hq dX5_comesFetched_172 ?_
      refine zJ.aload_n (pc := 173) 1 dX5_comesFetched_173 rfl rfl ?_
      refine zE.getV (pc := 174) (fd_23_13 o) ok_23 kiX5 (Nat.le_of_ble_eq_true rfl) fl_X5_49 dX5_comesFetched_174 ?_
      refine zJ.iload (pc := 177) 0 dX5_comesFetched_177 rfl ?_
      obtain ⟨hq, h⟩ := h
      refine zE.aldI (pc := 179) (ia_37 o) ok_37 hq dX5_comesFetched_179 ?_
      refine zG.callVv (d := mdX5_comesFetched) (pc := 180) [.int (S.1 (38, 0, 0) (((4 * x1) + x3).toNatClampNeg)), .int x1, .int (S.1 (35, 0, 0) (((4 * x1) + x3).toNatClampNeg)), .int (S.1 (37, 0, 0) (((4 * x1) + x3).toNatClampNeg))] [] (ob_23 o) ok_23 rfl dX5_comesFetched_180 ⟨(cb_X5_getsItem).1, (cb_X5_getsItem).2, (Nat.le_of_ble_eq_true rfl), (Nat.le_of_ble_eq_true rfl)⟩ ml_X5_158 ci_X5_getsItem cv_X5_getsItem rfl (Nat.le_of_ble_eq_true rfl) (Nat.le_of_ble_eq_true rfl) rfl h (fun S5 h2 => ?_)
      replace h := h2
      clear h2
      refine zJ.iinc (pc := 183) (k := 3) (lv' := [(3, .int (x3 + 1)), (4, .int ((4 * x1) + x3)), (0, .ref (z_adr o (23, 0, 0))), (1, .int x1)]) dX5_comesFetched_183 rfl rfl (Nat.le_of_ble_eq_true rfl) rfl ?_
      refine zJ.goto (pc := 186) (tgt := 107) dX5_comesFetched_186 (by decide) ?_
      exact zJ.sub [2, 3, 0] rfl h
    · replace h := h.2 c2
      refine zJ.aload_n (pc := 135) 1 dX5_comesFetched_135 rfl rfl ?_
      refine zJ.iload_n (pc := 136) 2 dX5_comesFetched_136 rfl rfl ?_
      refine zJ.aload_n (pc := 137) 1 dX5_comesFetched_137 rfl rfl ?_
      refine zE.getV (pc := 138) (fd_23_11 o) ok_23 kiX5 (Nat.le_of_ble_eq_true rfl) fl_X5_43 dX5_comesFetched_138 ?_
      refine zJ.iload (pc := 141) 0 dX5_comesFetched_141 rfl ?_
      obtain ⟨hq, h⟩ := h
      refine zE.aldI (pc := 143) (ia_35 o) ok_35 hq dX5_comesFetched_143 ?_
      refine zJ.aload_n (pc := 144) 1 dX5_comesFetched_144 rfl rfl ?_
      refine zE.getV (pc := 145) (fd_23_12 o) ok_23 kiX5 (Nat.le_of_ble_eq_true rfl) fl_X5_46 dX5_comesFetched_145 ?_
      refine zJ.iload (pc := 148) 0 dX5_comesFetched_148 rfl ?_
      obtain ⟨hq, h⟩ := h
      refine zE.aldI (pc := 150) (ia_36 o) ok_36 hq dX5_comesFetched_150 ?_
      refine zG.callVv (d := mdX5_comesFetched) (pc := 151) [.int x1, .int (S.1 (35, 0, 0) (((4 * x1) + x3).toNatClampNeg)), .int (S.1 (36, 0, 0) (((4 * x1) + x3).toNatClampNeg))] [] (ob_23 o) ok_23 rfl dX5_comesFetched_151 ⟨(cb_X5_laysIn).1, (cb_X5_laysIn).2, (Nat.le_of_ble_eq_true rfl), (Nat.le_of_ble_eq_true rfl)⟩ ml_X5_154 ci_X5_laysIn cv_X5_laysIn rfl (Nat.le_of_ble_eq_true rfl) (Nat.le_of_ble_eq_true rfl) rfl h (fun S8 h2 => ?_)
      replace h := h2
      clear h2
      refine zJ.goto (pc := 154) (tgt := 183) dX5_comesFetched_154 (by decide) ?_
      refine zJ.iinc (pc := 183) (k := 3) (lv' := [(3, .int (x3 + 1)), (4, .int ((4 * x1) + x3)), (0, .ref (z_adr o (23, 0, 0))), (1, .int x1)]) dX5_comesFetched_183 rfl rfl (Nat.le_of_ble_eq_true rfl) rfl ?_
      refine zJ.goto (pc := 186) (tgt := 107) dX5_comesFetched_186 (by decide) ?_
      exact zJ.sub [2, 3, 0] rfl h
set_option maxRecDepth 100000 in
set_option maxHeartbeats 4000000 in
theorem w_X5_comesTime_0 (o : zW)  (S : zS) (Q : Option Value → zS → Prop) (h : zG o 994 mdX5_comesTime 10 [(0, .ref (z_adr o (23, 0, 0))), (1, .int (S.1 (40, 0, 0) 9)), (2, .int 0)] [] S Q) : zG o 994 mdX5_comesTime 0 [(0, .ref (z_adr o (23, 0, 0)))] [] S Q := by
  show zJ o mdX5_comesTime 0 _ [] (994, z_enc o S) 0 0 _
  refine zJ.aload_n (pc := 0) 0 dX5_comesTime_0 rfl rfl ?_
  refine zE.getV (pc := 1) (fd_23_16 o) ok_23 kiX5 (Nat.le_of_ble_eq_true rfl) fl_X5_58 dX5_comesTime_1 ?_
  refine zJ.bipush (pc := 4) (v := 9) dX5_comesTime_4 (by decide) ?_
  refine zE.aldI (pc := 6) (ia_40 o) ok_40 (by unfold vp_in; decide) dX5_comesTime_6 ?_
  refine zJ.istore_n (pc := 7) (lv' := [(1, .int (S.1 (40, 0, 0) 9)), (0, .ref (z_adr o (23, 0, 0)))]) dX5_comesTime_7 rfl (Nat.le_of_ble_eq_true rfl) rfl ?_
  refine zJ.iconst (pc := 8) (v := 0) dX5_comesTime_8 (by decide) ?_
  refine zJ.istore_n (pc := 9) (lv' := [(2, .int 0), (1, .int (S.1 (40, 0, 0) 9)), (0, .ref (z_adr o (23, 0, 0)))]) dX5_comesTime_9 rfl (Nat.le_of_ble_eq_true rfl) rfl ?_
  exact zJ.sub [2, 1, 0] rfl h
set_option maxRecDepth 100000 in
set_option maxHeartbeats 4000000 in
theorem w_X5_comesTime_10 (o : zW) (x1 : Int32) (x2 : Int32) (S : zS) (Q : Option Value → zS → Prop) (h : (16 ≤ x2 → (zG o 994 mdX5_comesTime 59 [(0, .ref (z_adr o (23, 0, 0))), (1, .int x1), (2, .int 0)] [] S Q)) ∧ (¬ 16 ≤ x2 → (vp_in x2 16 ∧ ((¬ (S.1 (29, 0, 0) x2.toNatClampNeg) = 2 → (zG o 994 mdX5_comesTime 10 [(0, .ref (z_adr o (23, 0, 0))), (1, .int x1), (2, .int (x2 + 1))] [] S Q)) ∧ ((S.1 (29, 0, 0) x2.toNatClampNeg) = 2 → (vp_in x2 16 ∧ ((¬ (S.1 (30, 0, 0) x2.toNatClampNeg) = x1 → (zG o 994 mdX5_comesTime 10 [(0, .ref (z_adr o (23, 0, 0))), (1, .int x1), (2, .int (x2 + 1))] [] S Q)) ∧ ((S.1 (30, 0, 0) x2.toNatClampNeg) = x1 → (zGv o 994 mdX5_goesFar [.ref (z_adr o (23, 0, 0)), .int x2] (sI S (39, 0, 0) 1 ((S.1 (39, 0, 0) 1) - 1)) (fun S6 => zG o 994 mdX5_comesTime 10 [(0, .ref (z_adr o (23, 0, 0))), (1, .int x1), (2, .int (x2 + 1))] [] S6 Q)))))))))) : zG o 994 mdX5_comesTime 10 [(0, .ref (z_adr o (23, 0, 0))), (1, .int x1), (2, .int x2)] [] S Q := by
  show zJ o mdX5_comesTime 10 _ [] (994, z_enc o S) 0 0 _
  refine zJ.iload_n (pc := 10) 2 dX5_comesTime_10 rfl rfl ?_
  refine zJ.bipush (pc := 11) (v := 16) dX5_comesTime_11 (by decide) ?_
  refine zJ.icmp_ge (pc := 13) (tgt := 57) dX5_comesTime_13 (by decide) (fun c1 => ?_) (fun c1 => ?_)
  · replace h := h.1 c1
    refine zJ.iconst (pc := 57) (v := 0) dX5_comesTime_57 (by decide) ?_
    refine zJ.istore_n (pc := 58) (lv' := [(2, .int 0), (0, .ref (z_adr o (23, 0, 0))), (1, .int x1)]) dX5_comesTime_58 rfl (Nat.le_of_ble_eq_true rfl) rfl ?_
    exact zJ.sub [1, 2, 0] rfl h
  · replace h := h.2 c1
    refine zJ.aload_n (pc := 16) 0 dX5_comesTime_16 rfl rfl ?_
    refine zE.getV (pc := 17) (fd_23_5 o) ok_23 kiX5 (Nat.le_of_ble_eq_true rfl) fl_X5_25 dX5_comesTime_17 ?_
    refine zJ.iload_n (pc := 20) 2 dX5_comesTime_20 rfl rfl ?_
    obtain ⟨hq, h⟩ := h
    refine zE.aldI (pc := 21) (ia_29 o) ok_29 hq dX5_comesTime_21 ?_
    refine zJ.iconst (pc := 22) (v := 2) dX5_comesTime_22 (by decide) ?_
    refine zJ.icmp_ne (pc := 23) (tgt := 51) dX5_comesTime_23 (by decide) (fun c2 => ?_) (fun c2 => ?_)
    · replace h := h.1 c2
      refine zJ.iinc (pc := 51) (k := 2) (lv' := [(2, .int (x2 + 1)), (0, .ref (z_adr o (23, 0, 0))), (1, .int x1)]) dX5_comesTime_51 rfl rfl (Nat.le_of_ble_eq_true rfl) rfl ?_
      refine zJ.goto (pc := 54) (tgt := 10) dX5_comesTime_54 (by decide) ?_
      exact zJ.sub [1, 2, 0] rfl h
    · replace h := h.2 c2
      refine zJ.aload_n (pc := 26) 0 dX5_comesTime_26 rfl rfl ?_
      refine zE.getV (pc := 27) (fd_23_6 o) ok_23 kiX5 (Nat.le_of_ble_eq_true rfl) fl_X5_28 dX5_comesTime_27 ?_
      refine zJ.iload_n (pc := 30) 2 dX5_comesTime_30 rfl rfl ?_
      obtain ⟨hq, h⟩ := h
      refine zE.aldI (pc := 31) (ia_30 o) ok_30 hq dX5_comesTime_31 ?_
      refine zJ.iload_n (pc := 32) 1 dX5_comesTime_32 rfl rfl ?_
      refine zJ.icmp_ne (pc := 33) (tgt := 51) dX5_comesTime_33 (by decide) (fun c3 => ?_) (fun c3 => ?_)
      · replace h := h.1 c3
        refine zJ.iinc (pc := 51) (k := 2) (lv' := [(2, .int (x2 + 1)), (0, .ref (z_adr o (23, 0, 0))), (1, .int x1)]) dX5_comesTime_51 rfl rfl (Nat.le_of_ble_eq_true rfl) rfl ?_
        refine zJ.goto (pc := 54) (tgt := 10) dX5_comesTime_54 (by decide) ?_
        exact zJ.sub [1, 2, 0] rfl h
      · replace h := h.2 c3
        refine zJ.aload_n (pc := 36) 0 dX5_comesTime_36 rfl rfl ?_
        refine zE.getV (pc := 37) (fd_23_15 o) ok_23 kiX5 (Nat.le_of_ble_eq_true rfl) fl_X5_55 dX5_comesTime_37 ?_
        refine zJ.iconst (pc := 40) (v := 1) dX5_comesTime_40 (by decide) ?_
        refine zJ.dup2_11 (pc := 41) dX5_comesTime_41 rfl rfl ?_
        refine zE.aldI (pc := 42) (ia_39 o) ok_39 (by unfold vp_in; decide) dX5_comesTime_42 ?_
        refine zJ.iconst (pc := 43) (v := 1) dX5_comesTime_43 (by decide) ?_
        refine zJ.isub (pc := 44) dX5_comesTime_44 ?_
        refine zE.astI (pc := 45) (ia_39 o) ok_39 (by unfold vp_in; decide) dX5_comesTime_45 ?_
        refine zJ.aload_n (pc := 46) 0 dX5_comesTime_46 rfl rfl ?_
        refine zJ.iload_n (pc := 47) 2 dX5_comesTime_47 rfl rfl ?_
        refine zG.callVv (d := mdX5_comesTime) (pc := 48) [.int x2] [] (ob_23 o) ok_23 rfl dX5_comesTime_48 ⟨(cb_X5_goesFar).1, (cb_X5_goesFar).2, (Nat.le_of_ble_eq_true rfl), (Nat.le_of_ble_eq_true rfl)⟩ ml_X5_145 ci_X5_goesFar cv_X5_goesFar rfl (Nat.le_of_ble_eq_true rfl) (Nat.le_of_ble_eq_true rfl) rfl h (fun S6 h2 => ?_)
        replace h := h2
        clear h2
        refine zJ.iinc (pc := 51) (k := 2) (lv' := [(2, .int (x2 + 1)), (0, .ref (z_adr o (23, 0, 0))), (1, .int x1)]) dX5_comesTime_51 rfl rfl (Nat.le_of_ble_eq_true rfl) rfl ?_
        refine zJ.goto (pc := 54) (tgt := 10) dX5_comesTime_54 (by decide) ?_
        exact zJ.sub [1, 2, 0] rfl h
set_option maxRecDepth 100000 in
set_option maxHeartbeats 4000000 in
theorem w_X5_comesTime_59 (o : zW) (x1 : Int32) (x2 : Int32) (S : zS) (Q : Option Value → zS → Prop) (h : (16 ≤ x2 → (Q none S)) ∧ (¬ 16 ≤ x2 → (vp_in x2 16 ∧ ((¬ (S.1 (29, 0, 0) x2.toNatClampNeg) = 3 → (zG o 994 mdX5_comesTime 59 [(0, .ref (z_adr o (23, 0, 0))), (1, .int x1), (2, .int (x2 + 1))] [] S Q)) ∧ ((S.1 (29, 0, 0) x2.toNatClampNeg) = 3 → (vp_in x2 16 ∧ ((¬ (S.1 (30, 0, 0) x2.toNatClampNeg) = x1 → (zG o 994 mdX5_comesTime 59 [(0, .ref (z_adr o (23, 0, 0))), (1, .int x1), (2, .int (x2 + 1))] [] S Q)) ∧ ((S.1 (30, 0, 0) x2.toNatClampNeg) = x1 → (zGv o 994 mdX5_comesFetched [.ref (z_adr o (23, 0, 0)), .int x2] S (fun S6 => zG o 994 mdX5_comesTime 59 [(0, .ref (z_adr o (23, 0, 0))), (1, .int x1), (2, .int (x2 + 1))] [] S6 Q)))))))))) : zG o 994 mdX5_comesTime 59 [(0, .ref (z_adr o (23, 0, 0))), (1, .int x1), (2, .int x2)] [] S Q := by
  show zJ o mdX5_comesTime 59 _ [] (994, z_enc o S) 0 0 _
  refine zJ.iload_n (pc := 59) 2 dX5_comesTime_59 rfl rfl ?_
  refine zJ.bipush (pc := 60) (v := 16) dX5_comesTime_60 (by decide) ?_
  refine zJ.icmp_ge (pc := 62) (tgt := 96) dX5_comesTime_62 (by decide) (fun c1 => ?_) (fun c1 => ?_)
  · replace h := h.1 c1
    exact zG.ret (pc := 96) (r := none) ⟨dX5_comesTime_96, rfl⟩ h
  · replace h := h.2 c1
    refine zJ.aload_n (pc := 65) 0 dX5_comesTime_65 rfl rfl ?_
    refine zE.getV (pc := 66) (fd_23_5 o) ok_23 kiX5 (Nat.le_of_ble_eq_true rfl) fl_X5_25 dX5_comesTime_66 ?_
    refine zJ.iload_n (pc := 69) 2 dX5_comesTime_69 rfl rfl ?_
    obtain ⟨hq, h⟩ := h
    refine zE.aldI (pc := 70) (ia_29 o) ok_29 hq dX5_comesTime_70 ?_
    refine zJ.iconst (pc := 71) (v := 3) dX5_comesTime_71 (by decide) ?_
    refine zJ.icmp_ne (pc := 72) (tgt := 90) dX5_comesTime_72 (by decide) (fun c2 => ?_) (fun c2 => ?_)
    · replace h := h.1 c2
      refine zJ.iinc (pc := 90) (k := 2) (lv' := [(2, .int (x2 + 1)), (0, .ref (z_adr o (23, 0, 0))), (1, .int x1)]) dX5_comesTime_90 rfl rfl (Nat.le_of_ble_eq_true rfl) rfl ?_
      refine zJ.goto (pc := 93) (tgt := 59) dX5_comesTime_93 (by decide) ?_
      exact zJ.sub [1, 2, 0] rfl h
    · replace h := h.2 c2
      refine zJ.aload_n (pc := 75) 0 dX5_comesTime_75 rfl rfl ?_
      refine zE.getV (pc := 76) (fd_23_6 o) ok_23 kiX5 (Nat.le_of_ble_eq_true rfl) fl_X5_28 dX5_comesTime_76 ?_
      refine zJ.iload_n (pc := 79) 2 dX5_comesTime_79 rfl rfl ?_
      obtain ⟨hq, h⟩ := h
      refine zE.aldI (pc := 80) (ia_30 o) ok_30 hq dX5_comesTime_80 ?_
      refine zJ.iload_n (pc := 81) 1 dX5_comesTime_81 rfl rfl ?_
      refine zJ.icmp_ne (pc := 82) (tgt := 90) dX5_comesTime_82 (by decide) (fun c3 => ?_) (fun c3 => ?_)
      · replace h := h.1 c3
        refine zJ.iinc (pc := 90) (k := 2) (lv' := [(2, .int (x2 + 1)), (0, .ref (z_adr o (23, 0, 0))), (1, .int x1)]) dX5_comesTime_90 rfl rfl (Nat.le_of_ble_eq_true rfl) rfl ?_
        refine zJ.goto (pc := 93) (tgt := 59) dX5_comesTime_93 (by decide) ?_
        exact zJ.sub [1, 2, 0] rfl h
      · replace h := h.2 c3
        refine zJ.aload_n (pc := 85) 0 dX5_comesTime_85 rfl rfl ?_
        refine zJ.iload_n (pc := 86) 2 dX5_comesTime_86 rfl rfl ?_
        refine zG.callVv (d := mdX5_comesTime) (pc := 87) [.int x2] [] (ob_23 o) ok_23 rfl dX5_comesTime_87 ⟨(cb_X5_comesFetched).1, (cb_X5_comesFetched).2, (Nat.le_of_ble_eq_true rfl), (Nat.le_of_ble_eq_true rfl)⟩ ml_X5_162 ci_X5_comesFetched cv_X5_comesFetched rfl (Nat.le_of_ble_eq_true rfl) (Nat.le_of_ble_eq_true rfl) rfl h (fun S6 h2 => ?_)
        replace h := h2
        clear h2
        refine zJ.iinc (pc := 90) (k := 2) (lv' := [(2, .int (x2 + 1)), (0, .ref (z_adr o (23, 0, 0))), (1, .int x1)]) dX5_comesTime_90 rfl rfl (Nat.le_of_ble_eq_true rfl) rfl ?_
        refine zJ.goto (pc := 93) (tgt := 59) dX5_comesTime_93 (by decide) ?_
        exact zJ.sub [1, 2, 0] rfl h
