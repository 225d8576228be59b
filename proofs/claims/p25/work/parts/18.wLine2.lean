set_option maxRecDepth 100000 in
set_option maxHeartbeats 4000000 in
theorem w_X4_type_0 (o : zW) (x1 : Int32) (S : zS) (Q : Option Value → zS → Prop) (h : (x1 < 0 → (zGi o 970 mdX4_refuse [.ref (z_adr o (0, 0, 0)), .int (-2)] S (fun r3 S4 => Q (some (.int r3)) S4))) ∧ (¬ x1 < 0 → ((x1 ≤ 127 → (((S.1 (16, 0, 0) 4) < 0 → (zGi o 970 mdX4_refuse [.ref (z_adr o (0, 0, 0)), .int (-4)] S (fun r8 S9 => Q (some (.int r8)) S9))) ∧ (¬ (S.1 (16, 0, 0) 4) < 0 → (((S.1 (16, 0, 0) 4) < 120 → (vp_in (S.1 (16, 0, 0) 4) 120 ∧ (∀ y11 : Int32, y11 = ((sI S (17, 0, 0) ((S.1 (16, 0, 0) 4).toNatClampNeg) x1).1 (16, 0, 0) 4) → (∀ S12 : zS, S12 = (sI (sI S (17, 0, 0) ((S.1 (16, 0, 0) 4).toNatClampNeg) x1) (16, 0, 0) 4 (y11 + 1)) → (Q (some (.int (S12.1 (16, 0, 0) 4))) S12))))) ∧ (¬ (S.1 (16, 0, 0) 4) < 120 → (zGi o 970 mdX4_refuse [.ref (z_adr o (0, 0, 0)), .int (-4)] S (fun r14 S15 => Q (some (.int r14)) S15))))))) ∧ (¬ x1 ≤ 127 → (zGi o 970 mdX4_refuse [.ref (z_adr o (0, 0, 0)), .int (-2)] S (fun r17 S18 => Q (some (.int r17)) S18)))))) : zG o 970 mdX4_type 0 [(0, .ref (z_adr o (0, 0, 0))), (1, .int x1)] [] S Q := by
  show zJ o mdX4_type 0 _ [] (970, z_enc o S) 0 0 _
  refine zJ.iload_n (pc := 0) 1 dX4_type_0 rfl rfl ?_
  refine zJ.if_lt (pc := 1) (tgt := 10) dX4_type_1 (by decide) (fun c1 => ?_) (fun c1 => ?_)
  · replace h := h.1 c1
    refine zJ.aload_n (pc := 10) 0 dX4_type_10 rfl rfl ?_
    refine zJ.bipush (pc := 11) (v := (-2)) dX4_type_11 (by decide) ?_
    refine zG.callVi (d := mdX4_type) (pc := 13) [.int (-2)] [] (ob_0 o) ok_0 rfl dX4_type_13 ⟨(cb_X4_refuse).1, (cb_X4_refuse).2, (Nat.le_of_ble_eq_true rfl), (Nat.le_of_ble_eq_true rfl)⟩ ml_X4_47 ci_X4_refuse cv_X4_refuse rfl (Nat.le_of_ble_eq_true rfl) (Nat.le_of_ble_eq_true rfl) rfl h (fun r3 S4 h2 => ?_)
    replace h := h2
    clear h2
    exact zG.ret (pc := 16) (r := some (.int r3)) ⟨dX4_type_16, _, rfl, rfl⟩ h
  · replace h := h.2 c1
    refine zJ.iload_n (pc := 4) 1 dX4_type_4 rfl rfl ?_
    refine zJ.bipush (pc := 5) (v := 127) dX4_type_5 (by decide) ?_
    refine zJ.icmp_le (pc := 7) (tgt := 17) dX4_type_7 (by decide) (fun c5 => ?_) (fun c5 => ?_)
    · replace h := h.1 c5
      refine zJ.aload_n (pc := 17) 0 dX4_type_17 rfl rfl ?_
      refine zE.getV (pc := 18) (fd_0_3 o) ok_0 kiX4 (Nat.le_of_ble_eq_true rfl) fl_X4_26 dX4_type_18 ?_
      refine zE.getI (pc := 21) (fd_16_4 o) ok_16 kiX3 (Nat.le_of_ble_eq_true rfl) fl_X4_193 dX4_type_21 ?_
      refine zJ.if_lt (pc := 24) (tgt := 39) dX4_type_24 (by decide) (fun c6 => ?_) (fun c6 => ?_)
      · replace h := h.1 c6
        refine zJ.aload_n (pc := 39) 0 dX4_type_39 rfl rfl ?_
        refine zJ.bipush (pc := 40) (v := (-4)) dX4_type_40 (by decide) ?_
        refine zG.callVi (d := mdX4_type) (pc := 42) [.int (-4)] [] (ob_0 o) ok_0 rfl dX4_type_42 ⟨(cb_X4_refuse).1, (cb_X4_refuse).2, (Nat.le_of_ble_eq_true rfl), (Nat.le_of_ble_eq_true rfl)⟩ ml_X4_47 ci_X4_refuse cv_X4_refuse rfl (Nat.le_of_ble_eq_true rfl) (Nat.le_of_ble_eq_true rfl) rfl h (fun r8 S9 h2 => ?_)
        replace h := h2
        clear h2
        exact zG.ret (pc := 45) (r := some (.int r8)) ⟨dX4_type_45, _, rfl, rfl⟩ h
      · replace h := h.2 c6
        refine zJ.aload_n (pc := 27) 0 dX4_type_27 rfl rfl ?_
        refine zE.getV (pc := 28) (fd_0_3 o) ok_0 kiX4 (Nat.le_of_ble_eq_true rfl) fl_X4_26 dX4_type_28 ?_
        refine zE.getI (pc := 31) (fd_16_4 o) ok_16 kiX3 (Nat.le_of_ble_eq_true rfl) fl_X4_193 dX4_type_31 ?_
        refine zJ.bipush (pc := 34) (v := 120) dX4_type_34 (by decide) ?_
        refine zJ.icmp_lt (pc := 36) (tgt := 46) dX4_type_36 (by decide) (fun c10 => ?_) (fun c10 => ?_)
        · replace h := h.1 c10
          refine zJ.aload_n (pc := 46) 0 dX4_type_46 rfl rfl ?_
          refine zE.getV (pc := 47) (fd_0_3 o) ok_0 kiX4 (Nat.le_of_ble_eq_true rfl) fl_X4_26 dX4_type_47 ?_
          refine zE.getV (pc := 50) (fd_16_0 o) ok_16 kiX3 (Nat.le_of_ble_eq_true rfl) fl_X4_196 dX4_type_50 ?_
          refine zJ.aload_n (pc := 53) 0 dX4_type_53 rfl rfl ?_
          refine zE.getV (pc := 54) (fd_0_3 o) ok_0 kiX4 (Nat.le_of_ble_eq_true rfl) fl_X4_26 dX4_type_54 ?_
          refine zE.getI (pc := 57) (fd_16_4 o) ok_16 kiX3 (Nat.le_of_ble_eq_true rfl) fl_X4_193 dX4_type_57 ?_
          refine zJ.iload_n (pc := 60) 1 dX4_type_60 rfl rfl ?_
          obtain ⟨hq, h⟩ := h
          refine zE.astI (pc := 61) (ia_17 o) ok_17 hq dX4_type_61 ?_
          refine zJ.aload_n (pc := 62) 0 dX4_type_62 rfl rfl ?_
          refine zE.getV (pc := 63) (fd_0_3 o) ok_0 kiX4 (Nat.le_of_ble_eq_true rfl) fl_X4_26 dX4_type_63 ?_
          refine zJ.dup (pc := 66) dX4_type_66 rfl ?_
          refine zE.getI (pc := 67) (fd_16_4 o) ok_16 kiX3 (Nat.le_of_ble_eq_true rfl) fl_X4_193 dX4_type_67 ?_
          refine zJ.topi (fun y11 hyy11 => ?_)
          replace h := h y11 hyy11
          refine zJ.iconst (pc := 70) (v := 1) dX4_type_70 (by decide) ?_
          refine zJ.iadd (pc := 71) dX4_type_71 ?_
          refine zE.putI (pc := 72) (fd_16_4 o) ok_16 kiX3 (Nat.le_of_ble_eq_true rfl) fl_X4_193 rfl rfl dX4_type_72 ?_
          refine zJ.nameS (fun S12 hyS12 => ?_)
          replace h := h S12 hyS12
          refine zJ.aload_n (pc := 75) 0 dX4_type_75 rfl rfl ?_
          refine zE.getV (pc := 76) (fd_0_3 o) ok_0 kiX4 (Nat.le_of_ble_eq_true rfl) fl_X4_26 dX4_type_76 ?_
          refine zE.getI (pc := 79) (fd_16_4 o) ok_16 kiX3 (Nat.le_of_ble_eq_true rfl) fl_X4_193 dX4_type_79 ?_
          exact zG.ret (pc := 82) (r := some (.int (S12.1 (16, 0, 0) 4))) ⟨dX4_type_82, _, rfl, rfl⟩ h
        · replace h := h.2 c10
          refine zJ.aload_n (pc := 39) 0 dX4_type_39 rfl rfl ?_
          refine zJ.bipush (pc := 40) (v := (-4)) dX4_type_40 (by decide) ?_
          refine zG.callVi (d := mdX4_type) (pc := 42) [.int (-4)] [] (ob_0 o) ok_0 rfl dX4_type_42 ⟨(cb_X4_refuse).1, (cb_X4_refuse).2, (Nat.le_of_ble_eq_true rfl), (Nat.le_of_ble_eq_true rfl)⟩ ml_X4_47 ci_X4_refuse cv_X4_refuse rfl (Nat.le_of_ble_eq_true rfl) (Nat.le_of_ble_eq_true rfl) rfl h (fun r14 S15 h2 => ?_)
          replace h := h2
          clear h2
          exact zG.ret (pc := 45) (r := some (.int r14)) ⟨dX4_type_45, _, rfl, rfl⟩ h
    · replace h := h.2 c5
      refine zJ.aload_n (pc := 10) 0 dX4_type_10 rfl rfl ?_
      refine zJ.bipush (pc := 11) (v := (-2)) dX4_type_11 (by decide) ?_
      refine zG.callVi (d := mdX4_type) (pc := 13) [.int (-2)] [] (ob_0 o) ok_0 rfl dX4_type_13 ⟨(cb_X4_refuse).1, (cb_X4_refuse).2, (Nat.le_of_ble_eq_true rfl), (Nat.le_of_ble_eq_true rfl)⟩ ml_X4_47 ci_X4_refuse cv_X4_refuse rfl (Nat.le_of_ble_eq_true rfl) (Nat.le_of_ble_eq_true rfl) rfl h (fun r17 S18 h2 => ?_)
      replace h := h2
      clear h2
      exact zG.ret (pc := 16) (r := some (.int r17)) ⟨dX4_type_16, _, rfl, rfl⟩ h
set_option maxRecDepth 100000 in
set_option maxHeartbeats 4000000 in
theorem w_X4_clear_0 (o : zW)  (S : zS) (Q : Option Value → zS → Prop) (h : Q (some (.int (S.1 (16, 0, 0) 4))) (sI S (16, 0, 0) 4 0)) : zG o 970 mdX4_clear 0 [(0, .ref (z_adr o (0, 0, 0)))] [] S Q := by
  show zJ o mdX4_clear 0 _ [] (970, z_enc o S) 0 0 _
  refine zJ.aload_n (pc := 0) 0 dX4_clear_0 rfl rfl ?_
  refine zE.getV (pc := 1) (fd_0_3 o) ok_0 kiX4 (Nat.le_of_ble_eq_true rfl) fl_X4_26 dX4_clear_1 ?_
  refine zE.getI (pc := 4) (fd_16_4 o) ok_16 kiX3 (Nat.le_of_ble_eq_true rfl) fl_X4_193 dX4_clear_4 ?_
  refine zJ.istore_n (pc := 7) (lv' := [(1, .int (S.1 (16, 0, 0) 4)), (0, .ref (z_adr o (0, 0, 0)))]) dX4_clear_7 rfl (Nat.le_of_ble_eq_true rfl) rfl ?_
  refine zJ.aload_n (pc := 8) 1 dX4_clear_8 rfl rfl ?_
  refine zE.getV (pc := 9) (fd_0_3 o) ok_0 kiX4 (Nat.le_of_ble_eq_true rfl) fl_X4_26 dX4_clear_9 ?_
  refine zJ.iconst (pc := 12) (v := 0) dX4_clear_12 (by decide) ?_
  refine zE.putI (pc := 13) (fd_16_4 o) ok_16 kiX3 (Nat.le_of_ble_eq_true rfl) fl_X4_193 rfl rfl dX4_clear_13 ?_
  refine zJ.iload_n (pc := 16) 0 dX4_clear_16 rfl rfl ?_
  exact zG.ret (pc := 17) (r := some (.int (S.1 (16, 0, 0) 4))) ⟨dX4_clear_17, _, rfl, rfl⟩ h
set_option maxRecDepth 100000 in
set_option maxHeartbeats 4000000 in
theorem w_X4_runs_0 (o : zW)  (S : zS) (Q : Option Value → zS → Prop) (h : zGi o 970 mdX3_readOrders [.ref (z_adr o (16, 0, 0))] S (fun r2 S3 => (r2 = (-1) → (zGv o 970 mdX4_keep [.ref (z_adr o (0, 0, 0))] S3 (fun S7 => zGv o 970 mdX2_carryOut [.ref (z_adr o (1, 0, 0)), .ref (z_adr o (16, 0, 0))] S7 (fun S10 => Q (some (.int ((S10.1 (3, 0, 0) 9) - (S7.1 (3, 0, 0) 9)))) S10)))) ∧ (¬ r2 = (-1) → (Q (some (.int ((-10) - r2))) S3)))) : zG o 970 mdX4_runs 0 [(0, .ref (z_adr o (0, 0, 0)))] [] S Q := by
  show zJ o mdX4_runs 0 _ [] (970, z_enc o S) 0 0 _
  refine zJ.aload_n (pc := 0) 0 dX4_runs_0 rfl rfl ?_
  refine zE.getV (pc := 1) (fd_0_3 o) ok_0 kiX4 (Nat.le_of_ble_eq_true rfl) fl_X4_26 dX4_runs_1 ?_
  refine zG.callVi (d := mdX4_runs) (pc := 4) [] [] (ob_16 o) ok_16 rfl dX4_runs_4 ⟨(cb_X3_readOrders).1, (cb_X3_readOrders).2, (Nat.le_of_ble_eq_true rfl), (Nat.le_of_ble_eq_true rfl)⟩ ml_X4_177 ci_X3_readOrders cv_X3_readOrders rfl (Nat.le_of_ble_eq_true rfl) (Nat.le_of_ble_eq_true rfl) rfl h (fun r2 S3 h2 => ?_)
  replace h := h2
  clear h2
  refine zJ.istore_n (pc := 7) (lv' := [(1, .int r2), (0, .ref (z_adr o (0, 0, 0)))]) dX4_runs_7 rfl (Nat.le_of_ble_eq_true rfl) rfl ?_
  refine zJ.iload_n (pc := 8) 0 dX4_runs_8 rfl rfl ?_
  refine zJ.iconst (pc := 9) (v := (-1)) dX4_runs_9 (by decide) ?_
  refine zJ.icmp_eq (pc := 10) (tgt := 18) dX4_runs_10 (by decide) (fun c4 => ?_) (fun c4 => ?_)
  · replace h := h.1 c4
    refine zJ.aload_n (pc := 18) 1 dX4_runs_18 rfl rfl ?_
    refine zG.callVv (d := mdX4_runs) (pc := 19) [] [] (ob_0 o) ok_0 rfl dX4_runs_19 ⟨(cb_X4_keep).1, (cb_X4_keep).2, (Nat.le_of_ble_eq_true rfl), (Nat.le_of_ble_eq_true rfl)⟩ ml_X4_51 ci_X4_keep cv_X4_keep rfl (Nat.le_of_ble_eq_true rfl) (Nat.le_of_ble_eq_true rfl) rfl h (fun S7 h2 => ?_)
    replace h := h2
    clear h2
    refine zJ.aload_n (pc := 22) 1 dX4_runs_22 rfl rfl ?_
    refine zE.getV (pc := 23) (fd_0_0 o) ok_0 kiX4 (Nat.le_of_ble_eq_true rfl) fl_X4_10 dX4_runs_23 ?_
    refine zE.getV (pc := 26) (fd_1_1 o 0) (ok_1 (show 0 < 8 by decide) (z_sb_le (show 0 < 8 by decide))) kiX2 (Nat.le_of_ble_eq_true rfl) fl_X4_60 dX4_runs_26 ?_
    refine zJ.bipush (pc := 29) (v := 9) dX4_runs_29 (by decide) ?_
    refine zE.aldI (pc := 31) (ia_3 o 0) (ok_3 (show 0 < 8 by decide) (z_sb_le (show 0 < 8 by decide))) (by unfold vp_in; decide) dX4_runs_31 ?_
    refine zJ.istore_n (pc := 32) (lv' := [(2, .int (S7.1 (3, 0, 0) 9)), (1, .int r2), (0, .ref (z_adr o (0, 0, 0)))]) dX4_runs_32 rfl (Nat.le_of_ble_eq_true rfl) rfl ?_
    refine zJ.aload_n (pc := 33) 2 dX4_runs_33 rfl rfl ?_
    refine zE.getV (pc := 34) (fd_0_0 o) ok_0 kiX4 (Nat.le_of_ble_eq_true rfl) fl_X4_10 dX4_runs_34 ?_
    refine zJ.aload_n (pc := 37) 2 dX4_runs_37 rfl rfl ?_
    refine zE.getV (pc := 38) (fd_0_3 o) ok_0 kiX4 (Nat.le_of_ble_eq_true rfl) fl_X4_26 dX4_runs_38 ?_
    refine zG.callVv (d := mdX4_runs) (pc := 41) [.ref (z_adr o (16, 0, 0))] [] (ob_1 o 0) (ok_1 (show 0 < 8 by decide) (z_sb_le (show 0 < 8 by decide))) rfl dX4_runs_41 ⟨(cb_X2_carryOut).1, (cb_X2_carryOut).2, (Nat.le_of_ble_eq_true rfl), (Nat.le_of_ble_eq_true rfl)⟩ ml_X4_186 ci_X2_carryOut cv_X2_carryOut rfl (Nat.le_of_ble_eq_true rfl) (Nat.le_of_ble_eq_true rfl) rfl h (fun S10 h2 => ?_)
    replace h := h2
    clear h2
    refine zJ.aload_n (pc := 44) 2 dX4_runs_44 rfl rfl ?_
    refine zE.getV (pc := 45) (fd_0_0 o) ok_0 kiX4 (Nat.le_of_ble_eq_true rfl) fl_X4_10 dX4_runs_45 ?_
    refine zE.getV (pc := 48) (fd_1_1 o 0) (ok_1 (show 0 < 8 by decide) (z_sb_le (show 0 < 8 by decide))) kiX2 (Nat.le_of_ble_eq_true rfl) fl_X4_60 dX4_runs_48 ?_
    refine zJ.bipush (pc := 51) (v := 9) dX4_runs_51 (by decide) ?_
    refine zE.aldI (pc := 53) (ia_3 o 0) (ok_3 (show 0 < 8 by decide) (z_sb_le (show 0 < 8 by decide))) (by unfold vp_in; decide) dX4_runs_53 ?_
    refine zJ.iload_n (pc := 54) 0 dX4_runs_54 rfl rfl ?_
    refine zJ.isub (pc := 55) dX4_runs_55 ?_
    exact zG.ret (pc := 56) (r := some (.int ((S10.1 (3, 0, 0) 9) - (S7.1 (3, 0, 0) 9)))) ⟨dX4_runs_56, _, rfl, rfl⟩ h
  · replace h := h.2 c4
    refine zJ.bipush (pc := 13) (v := (-10)) dX4_runs_13 (by decide) ?_
    refine zJ.iload_n (pc := 15) 0 dX4_runs_15 rfl rfl ?_
    refine zJ.isub (pc := 16) dX4_runs_16 ?_
    exact zG.ret (pc := 17) (r := some (.int ((-10) - r2))) ⟨dX4_runs_17, _, rfl, rfl⟩ h
set_option maxRecDepth 100000 in
set_option maxHeartbeats 4000000 in
theorem w_X4_back_0 (o : zW)  (S : zS) (Q : Option Value → zS → Prop) (h : ((S.1 (0, 0, 0) 6) ≤ 0 → (zGi o 970 mdX4_refuse [.ref (z_adr o (0, 0, 0)), .int (-3)] S (fun r3 S4 => Q (some (.int r3)) S4))) ∧ (¬ (S.1 (0, 0, 0) 6) ≤ 0 → (((S.1 (0, 0, 0) 5) < 0 → (zGi o 970 mdX4_refuse [.ref (z_adr o (0, 0, 0)), .int (-3)] S (fun r7 S8 => Q (some (.int r7)) S8))) ∧ (¬ (S.1 (0, 0, 0) 5) < 0 → (((S.1 (0, 0, 0) 5) < 6 → (vp_in (S.1 (0, 0, 0) 5) 6 ∧ (zGv o 970 mdX2_become [.ref (z_adr o (1, 0, 0)), .ref (z_adr o (1, (S.1 (0, 0, 0) 5).toNatClampNeg + 2, 0))] S (fun S13 => ∀ y14 : Int32, y14 = ((((S13.1 (0, 0, 0) 5) + 6) - 1) - (((S13.1 (0, 0, 0) 5) + 6) - 1) / 6 * 6) → (∀ S15 : zS, S15 = (sI (sI S13 (0, 0, 0) 5 y14) (0, 0, 0) 6 (((sI S13 (0, 0, 0) 5 y14).1 (0, 0, 0) 6) - 1)) → (Q (some (.int (S15.1 (0, 0, 0) 6))) S15)))))) ∧ (¬ (S.1 (0, 0, 0) 5) < 6 → (zGi o 970 mdX4_refuse [.ref (z_adr o (0, 0, 0)), .int (-3)] S (fun r17 S18 => Q (some (.int r17)) S18)))))))) : zG o 970 mdX4_back 0 [(0, .ref (z_adr o (0, 0, 0)))] [] S Q := by
  show zJ o mdX4_back 0 _ [] (970, z_enc o S) 0 0 _
  refine zJ.aload_n (pc := 0) 0 dX4_back_0 rfl rfl ?_
  refine zE.getI (pc := 1) (fd_0_6 o) ok_0 kiX4 (Nat.le_of_ble_eq_true rfl) fl_X4_38 dX4_back_1 ?_
  refine zJ.if_le (pc := 4) (tgt := 23) dX4_back_4 (by decide) (fun c1 => ?_) (fun c1 => ?_)
  · replace h := h.1 c1
    refine zJ.aload_n (pc := 23) 0 dX4_back_23 rfl rfl ?_
    refine zJ.bipush (pc := 24) (v := (-3)) dX4_back_24 (by decide) ?_
    refine zG.callVi (d := mdX4_back) (pc := 26) [.int (-3)] [] (ob_0 o) ok_0 rfl dX4_back_26 ⟨(cb_X4_refuse).1, (cb_X4_refuse).2, (Nat.le_of_ble_eq_true rfl), (Nat.le_of_ble_eq_true rfl)⟩ ml_X4_47 ci_X4_refuse cv_X4_refuse rfl (Nat.le_of_ble_eq_true rfl) (Nat.le_of_ble_eq_true rfl) rfl h (fun r3 S4 h2 => ?_)
    replace h := h2
    clear h2
    exact zG.ret (pc := 29) (r := some (.int r3)) ⟨dX4_back_29, _, rfl, rfl⟩ h
  · replace h := h.2 c1
    refine zJ.aload_n (pc := 7) 0 dX4_back_7 rfl rfl ?_
    refine zE.getI (pc := 8) (fd_0_5 o) ok_0 kiX4 (Nat.le_of_ble_eq_true rfl) fl_X4_34 dX4_back_8 ?_
    refine zJ.if_lt (pc := 11) (tgt := 23) dX4_back_11 (by decide) (fun c5 => ?_) (fun c5 => ?_)
    · replace h := h.1 c5
      refine zJ.aload_n (pc := 23) 0 dX4_back_23 rfl rfl ?_
      refine zJ.bipush (pc := 24) (v := (-3)) dX4_back_24 (by decide) ?_
      refine zG.callVi (d := mdX4_back) (pc := 26) [.int (-3)] [] (ob_0 o) ok_0 rfl dX4_back_26 ⟨(cb_X4_refuse).1, (cb_X4_refuse).2, (Nat.le_of_ble_eq_true rfl), (Nat.le_of_ble_eq_true rfl)⟩ ml_X4_47 ci_X4_refuse cv_X4_refuse rfl (Nat.le_of_ble_eq_true rfl) (Nat.le_of_ble_eq_true rfl) rfl h (fun r7 S8 h2 => ?_)
      replace h := h2
      clear h2
      exact zG.ret (pc := 29) (r := some (.int r7)) ⟨dX4_back_29, _, rfl, rfl⟩ h
    · replace h := h.2 c5
      refine zJ.aload_n (pc := 14) 0 dX4_back_14 rfl rfl ?_
      refine zE.getI (pc := 15) (fd_0_5 o) ok_0 kiX4 (Nat.le_of_ble_eq_true rfl) fl_X4_34 dX4_back_15 ?_
      refine zJ.bipush (pc := 18) (v := 6) dX4_back_18 (by decide) ?_
      refine zJ.icmp_lt (pc := 20) (tgt := 30) dX4_back_20 (by decide) (fun c9 => ?_) (fun c9 => ?_)
      · replace h := h.1 c9
        refine zJ.aload_n (pc := 30) 0 dX4_back_30 rfl rfl ?_
        refine zE.getV (pc := 31) (fd_0_0 o) ok_0 kiX4 (Nat.le_of_ble_eq_true rfl) fl_X4_10 dX4_back_31 ?_
        refine zJ.aload_n (pc := 34) 0 dX4_back_34 rfl rfl ?_
        refine zE.getV (pc := 35) (fd_0_2 o) ok_0 kiX4 (Nat.le_of_ble_eq_true rfl) fl_X4_19 dX4_back_35 ?_
        refine zJ.aload_n (pc := 38) 0 dX4_back_38 rfl rfl ?_
        refine zE.getI (pc := 39) (fd_0_5 o) ok_0 kiX4 (Nat.le_of_ble_eq_true rfl) fl_X4_34 dX4_back_39 ?_
        obtain ⟨hq10, h⟩ := h
        refine zE.aldK (pc := 42) ok_22 hq10 dX4_back_42 ?_
        refine zG.callVv (d := mdX4_back) (pc := 43) [.ref (z_adr o (1, (S.1 (0, 0, 0) 5).toNatClampNeg + 2, 0))] [] (ob_1 o 0) (ok_1 (show 0 < 8 by decide) (z_sb_le (show 0 < 8 by decide))) rfl dX4_back_43 ⟨(cb_X2_become).1, (cb_X2_become).2, (Nat.le_of_ble_eq_true rfl), (Nat.le_of_ble_eq_true rfl)⟩ ml_X4_199 ci_X2_become cv_X2_become rfl (Nat.le_of_ble_eq_true rfl) (Nat.le_of_ble_eq_true rfl) rfl h (fun S13 h2 => ?_)
        replace h := h2
        clear h2
        refine zJ.aload_n (pc := 46) 0 dX4_back_46 rfl rfl ?_
        refine zJ.aload_n (pc := 47) 0 dX4_back_47 rfl rfl ?_
        refine zE.getI (pc := 48) (fd_0_5 o) ok_0 kiX4 (Nat.le_of_ble_eq_true rfl) fl_X4_34 dX4_back_48 ?_
        refine zJ.bipush (pc := 51) (v := 6) dX4_back_51 (by decide) ?_
        refine zJ.iadd (pc := 53) dX4_back_53 ?_
        refine zJ.iconst (pc := 54) (v := 1) dX4_back_54 (by decide) ?_
        refine zJ.isub (pc := 55) dX4_back_55 ?_
        refine zJ.bipush (pc := 56) (v := 6) dX4_back_56 (by decide) ?_
        refine zJ.irem (pc := 58) dX4_back_58 (by decide) ?_
        refine zJ.topi (fun y14 hyy14 => ?_)
        replace h := h y14 hyy14
        refine zE.putI (pc := 59) (fd_0_5 o) ok_0 kiX4 (Nat.le_of_ble_eq_true rfl) fl_X4_34 rfl rfl dX4_back_59 ?_
        refine zJ.aload_n (pc := 62) 0 dX4_back_62 rfl rfl ?_
        refine zJ.dup (pc := 63) dX4_back_63 rfl ?_
        refine zE.getI (pc := 64) (fd_0_6 o) ok_0 kiX4 (Nat.le_of_ble_eq_true rfl) fl_X4_38 dX4_back_64 ?_
        refine zJ.iconst (pc := 67) (v := 1) dX4_back_67 (by decide) ?_
        refine zJ.isub (pc := 68) dX4_back_68 ?_
        refine zE.putI (pc := 69) (fd_0_6 o) ok_0 kiX4 (Nat.le_of_ble_eq_true rfl) fl_X4_38 rfl rfl dX4_back_69 ?_
        refine zJ.nameS (fun S15 hyS15 => ?_)
        replace h := h S15 hyS15
        refine zJ.aload_n (pc := 72) 0 dX4_back_72 rfl rfl ?_
        refine zE.getI (pc := 73) (fd_0_6 o) ok_0 kiX4 (Nat.le_of_ble_eq_true rfl) fl_X4_38 dX4_back_73 ?_
        exact zG.ret (pc := 76) (r := some (.int (S15.1 (0, 0, 0) 6))) ⟨dX4_back_76, _, rfl, rfl⟩ h
      · replace h := h.2 c9
        refine zJ.aload_n (pc := 23) 0 dX4_back_23 rfl rfl ?_
        refine zJ.bipush (pc := 24) (v := (-3)) dX4_back_24 (by decide) ?_
        refine zG.callVi (d := mdX4_back) (pc := 26) [.int (-3)] [] (ob_0 o) ok_0 rfl dX4_back_26 ⟨(cb_X4_refuse).1, (cb_X4_refuse).2, (Nat.le_of_ble_eq_true rfl), (Nat.le_of_ble_eq_true rfl)⟩ ml_X4_47 ci_X4_refuse cv_X4_refuse rfl (Nat.le_of_ble_eq_true rfl) (Nat.le_of_ble_eq_true rfl) rfl h (fun r17 S18 h2 => ?_)
        replace h := h2
        clear h2
        exact zG.ret (pc := 29) (r := some (.int r17)) ⟨dX4_back_29, _, rfl, rfl⟩ h
set_option maxRecDepth 100000 in
set_option maxHeartbeats 4000000 in
theorem w_X4_told_0 (o : zW) (x1 : Int32) (S : zS) (Q : Option Value → zS → Prop) (h : (x1 < 0 → (zGi o 970 mdX4_refuse [.ref (z_adr o (0, 0, 0)), .int (-2)] S (fun r3 S4 => Q (some (.int r3)) S4))) ∧ (¬ x1 < 0 → ((x1 ≤ 9 → ((3 ≤ x1 → ((¬ x1 = 3 → ((¬ x1 = 9 → (vp_in (x1 - 4) 5 ∧ (Q (some (.int (S.1 (2, 0, 0) ((x1 - 4).toNatClampNeg)))) S))) ∧ (x1 = 9 → (Q (some (.int (S.1 (0, 0, 0) 6))) S)))) ∧ (x1 = 3 → (Q (some (.int (S.1 (16, 0, 0) 4))) S)))) ∧ (¬ 3 ≤ x1 → (vp_in x1 3 ∧ (Q (some (.int (S.1 (21, 0, 0) x1.toNatClampNeg))) S))))) ∧ (¬ x1 ≤ 9 → (zGi o 970 mdX4_refuse [.ref (z_adr o (0, 0, 0)), .int (-2)] S (fun r10 S11 => Q (some (.int r10)) S11)))))) : zG o 970 mdX4_told 0 [(0, .ref (z_adr o (0, 0, 0))), (1, .int x1)] [] S Q := by
  show zJ o mdX4_told 0 _ [] (970, z_enc o S) 0 0 _
  refine zJ.iload_n (pc := 0) 1 dX4_told_0 rfl rfl ?_
  refine zJ.if_lt (pc := 1) (tgt := 10) dX4_told_1 (by decide) (fun c1 => ?_) (fun c1 => ?_)
  · replace h := h.1 c1
    refine zJ.aload_n (pc := 10) 0 dX4_told_10 rfl rfl ?_
    refine zJ.bipush (pc := 11) (v := (-2)) dX4_told_11 (by decide) ?_
    refine zG.callVi (d := mdX4_told) (pc := 13) [.int (-2)] [] (ob_0 o) ok_0 rfl dX4_told_13 ⟨(cb_X4_refuse).1, (cb_X4_refuse).2, (Nat.le_of_ble_eq_true rfl), (Nat.le_of_ble_eq_true rfl)⟩ ml_X4_47 ci_X4_refuse cv_X4_refuse rfl (Nat.le_of_ble_eq_true rfl) (Nat.le_of_ble_eq_true rfl) rfl h (fun r3 S4 h2 => ?_)
    replace h := h2
    clear h2
    exact zG.ret (pc := 16) (r := some (.int r3)) ⟨dX4_told_16, _, rfl, rfl⟩ h
  · replace h := h.2 c1
    refine zJ.iload_n (pc := 4) 1 dX4_told_4 rfl rfl ?_
    refine zJ.bipush (pc := 5) (v := 9) dX4_told_5 (by decide) ?_
    refine zJ.icmp_le (pc := 7) (tgt := 17) dX4_told_7 (by decide) (fun c5 => ?_) (fun c5 => ?_)
    · replace h := h.1 c5
      refine zJ.iload_n (pc := 17) 1 dX4_told_17 rfl rfl ?_
      refine zJ.iconst (pc := 18) (v := 3) dX4_told_18 (by decide) ?_
      refine zJ.icmp_ge (pc := 19) (tgt := 29) dX4_told_19 (by decide) (fun c6 => ?_) (fun c6 => ?_)
      · replace h := h.1 c6
        refine zJ.iload_n (pc := 29) 1 dX4_told_29 rfl rfl ?_
        refine zJ.iconst (pc := 30) (v := 3) dX4_told_30 (by decide) ?_
        refine zJ.icmp_ne (pc := 31) (tgt := 42) dX4_told_31 (by decide) (fun c7 => ?_) (fun c7 => ?_)
        · replace h := h.1 c7
          refine zJ.iload_n (pc := 42) 1 dX4_told_42 rfl rfl ?_
          refine zJ.bipush (pc := 43) (v := 9) dX4_told_43 (by decide) ?_
          refine zJ.icmp_ne (pc := 45) (tgt := 55) dX4_told_45 (by decide) (fun c8 => ?_) (fun c8 => ?_)
          · replace h := h.1 c8
            refine zJ.aload_n (pc := 55) 0 dX4_told_55 rfl rfl ?_
            refine zE.getV (pc := 56) (fd_0_0 o) ok_0 kiX4 (Nat.le_of_ble_eq_true rfl) fl_X4_10 dX4_told_56 ?_
            refine zE.getV (pc := 59) (fd_1_0 o 0) (ok_1 (show 0 < 8 by decide) (z_sb_le (show 0 < 8 by decide))) kiX2 (Nat.le_of_ble_eq_true rfl) fl_X4_54 dX4_told_59 ?_
            refine zJ.iload_n (pc := 62) 1 dX4_told_62 rfl rfl ?_
            refine zJ.iconst (pc := 63) (v := 4) dX4_told_63 (by decide) ?_
            refine zJ.isub (pc := 64) dX4_told_64 ?_
            obtain ⟨hq, h⟩ := h
            refine zE.aldI (pc := 65) (ia_2 o 0) (ok_2 (show 0 < 8 by decide) (z_sb_le (show 0 < 8 by decide))) hq dX4_told_65 ?_
            exact zG.ret (pc := 66) (r := some (.int (S.1 (2, 0, 0) ((x1 - 4).toNatClampNeg)))) ⟨dX4_told_66, _, rfl, rfl⟩ h
          · replace h := h.2 c8
            refine zJ.aload_n (pc := 48) 0 dX4_told_48 rfl rfl ?_
            refine zE.getI (pc := 49) (fd_0_6 o) ok_0 kiX4 (Nat.le_of_ble_eq_true rfl) fl_X4_38 dX4_told_49 ?_
            refine zJ.goto (pc := 52) (tgt := 66) dX4_told_52 (by decide) ?_
            exact zG.ret (pc := 66) (r := some (.int (S.1 (0, 0, 0) 6))) ⟨dX4_told_66, _, rfl, rfl⟩ h
        · replace h := h.2 c7
          refine zJ.aload_n (pc := 34) 0 dX4_told_34 rfl rfl ?_
          refine zE.getV (pc := 35) (fd_0_3 o) ok_0 kiX4 (Nat.le_of_ble_eq_true rfl) fl_X4_26 dX4_told_35 ?_
          refine zE.getI (pc := 38) (fd_16_4 o) ok_16 kiX3 (Nat.le_of_ble_eq_true rfl) fl_X4_193 dX4_told_38 ?_
          exact zG.ret (pc := 41) (r := some (.int (S.1 (16, 0, 0) 4))) ⟨dX4_told_41, _, rfl, rfl⟩ h
      · replace h := h.2 c6
        refine zJ.aload_n (pc := 22) 0 dX4_told_22 rfl rfl ?_
        refine zE.getV (pc := 23) (fd_0_4 o) ok_0 kiX4 (Nat.le_of_ble_eq_true rfl) fl_X4_30 dX4_told_23 ?_
        refine zJ.iload_n (pc := 26) 1 dX4_told_26 rfl rfl ?_
        obtain ⟨hq, h⟩ := h
        refine zE.aldI (pc := 27) (ia_21 o) ok_21 hq dX4_told_27 ?_
        exact zG.ret (pc := 28) (r := some (.int (S.1 (21, 0, 0) x1.toNatClampNeg))) ⟨dX4_told_28, _, rfl, rfl⟩ h
    · replace h := h.2 c5
      refine zJ.aload_n (pc := 10) 0 dX4_told_10 rfl rfl ?_
      refine zJ.bipush (pc := 11) (v := (-2)) dX4_told_11 (by decide) ?_
      refine zG.callVi (d := mdX4_told) (pc := 13) [.int (-2)] [] (ob_0 o) ok_0 rfl dX4_told_13 ⟨(cb_X4_refuse).1, (cb_X4_refuse).2, (Nat.le_of_ble_eq_true rfl), (Nat.le_of_ble_eq_true rfl)⟩ ml_X4_47 ci_X4_refuse cv_X4_refuse rfl (Nat.le_of_ble_eq_true rfl) (Nat.le_of_ble_eq_true rfl) rfl h (fun r10 S11 h2 => ?_)
      replace h := h2
      clear h2
      exact zG.ret (pc := 16) (r := some (.int r10)) ⟨dX4_told_16, _, rfl, rfl⟩ h
set_option maxRecDepth 100000 in
set_option maxHeartbeats 4000000 in
theorem w_X4_isBox_0 (o : zW) (x0 : Int32) (S : zS) (Q : Option Value → zS → Prop) (h : (x0 < 0 → (Q (some (.int 0)) S)) ∧ (¬ x0 < 0 → ((16 ≤ x0 → (Q (some (.int 0)) S)) ∧ (¬ 16 ≤ x0 → (Q (some (.int 1)) S))))) : zG o 970 mdX4_isBox 0 [(0, .int x0)] [] S Q := by
  show zJ o mdX4_isBox 0 _ [] (970, z_enc o S) 0 0 _
  refine zJ.iload_n (pc := 0) 0 dX4_isBox_0 rfl rfl ?_
  refine zJ.if_lt (pc := 1) (tgt := 14) dX4_isBox_1 (by decide) (fun c1 => ?_) (fun c1 => ?_)
  · replace h := h.1 c1
    refine zJ.iconst (pc := 14) (v := 0) dX4_isBox_14 (by decide) ?_
    exact zG.ret (pc := 15) (r := some (.int 0)) ⟨dX4_isBox_15, _, rfl, rfl⟩ h
  · replace h := h.2 c1
    refine zJ.iload_n (pc := 4) 0 dX4_isBox_4 rfl rfl ?_
    refine zJ.bipush (pc := 5) (v := 16) dX4_isBox_5 (by decide) ?_
    refine zJ.icmp_ge (pc := 7) (tgt := 14) dX4_isBox_7 (by decide) (fun c2 => ?_) (fun c2 => ?_)
    · replace h := h.1 c2
      refine zJ.iconst (pc := 14) (v := 0) dX4_isBox_14 (by decide) ?_
      exact zG.ret (pc := 15) (r := some (.int 0)) ⟨dX4_isBox_15, _, rfl, rfl⟩ h
    · replace h := h.2 c2
      refine zJ.iconst (pc := 10) (v := 1) dX4_isBox_10 (by decide) ?_
      refine zJ.goto (pc := 11) (tgt := 15) dX4_isBox_11 (by decide) ?_
      exact zG.ret (pc := 15) (r := some (.int 1)) ⟨dX4_isBox_15, _, rfl, rfl⟩ h
set_option maxRecDepth 100000 in
set_option maxHeartbeats 4000000 in
theorem w_X4_isItem_0 (o : zW) (x0 : Int32) (S : zS) (Q : Option Value → zS → Prop) (h : (x0 < 0 → (Q (some (.int 0)) S)) ∧ (¬ x0 < 0 → ((4 ≤ x0 → (Q (some (.int 0)) S)) ∧ (¬ 4 ≤ x0 → (Q (some (.int 1)) S))))) : zG o 970 mdX4_isItem 0 [(0, .int x0)] [] S Q := by
  show zJ o mdX4_isItem 0 _ [] (970, z_enc o S) 0 0 _
  refine zJ.iload_n (pc := 0) 0 dX4_isItem_0 rfl rfl ?_
  refine zJ.if_lt (pc := 1) (tgt := 13) dX4_isItem_1 (by decide) (fun c1 => ?_) (fun c1 => ?_)
  · replace h := h.1 c1
    refine zJ.iconst (pc := 13) (v := 0) dX4_isItem_13 (by decide) ?_
    exact zG.ret (pc := 14) (r := some (.int 0)) ⟨dX4_isItem_14, _, rfl, rfl⟩ h
  · replace h := h.2 c1
    refine zJ.iload_n (pc := 4) 0 dX4_isItem_4 rfl rfl ?_
    refine zJ.iconst (pc := 5) (v := 4) dX4_isItem_5 (by decide) ?_
    refine zJ.icmp_ge (pc := 6) (tgt := 13) dX4_isItem_6 (by decide) (fun c2 => ?_) (fun c2 => ?_)
    · replace h := h.1 c2
      refine zJ.iconst (pc := 13) (v := 0) dX4_isItem_13 (by decide) ?_
      exact zG.ret (pc := 14) (r := some (.int 0)) ⟨dX4_isItem_14, _, rfl, rfl⟩ h
    · replace h := h.2 c2
      refine zJ.iconst (pc := 9) (v := 1) dX4_isItem_9 (by decide) ?_
      refine zJ.goto (pc := 10) (tgt := 14) dX4_isItem_10 (by decide) ?_
      exact zG.ret (pc := 14) (r := some (.int 1)) ⟨dX4_isItem_14, _, rfl, rfl⟩ h
set_option maxRecDepth 100000 in
set_option maxHeartbeats 4000000 in
theorem w_X4_refuse_0 (o : zW) (x1 : Int32) (S : zS) (Q : Option Value → zS → Prop) (h : (((-2) - x1) < 0 → (Q (some (.int x1)) S)) ∧ (¬ ((-2) - x1) < 0 → ((3 ≤ ((-2) - x1) → (Q (some (.int x1)) S)) ∧ (¬ 3 ≤ ((-2) - x1) → (vp_in ((-2) - x1) 3 ∧ (vp_in ((-2) - x1) 3 ∧ (∀ S3 : zS, S3 = (sI S (21, 0, 0) (((-2) - x1).toNatClampNeg) ((S.1 (21, 0, 0) (((-2) - x1).toNatClampNeg)) + 1)) → (Q (some (.int x1)) S3)))))))) : zG o 970 mdX4_refuse 0 [(0, .ref (z_adr o (0, 0, 0))), (1, .int x1)] [] S Q := by
  show zJ o mdX4_refuse 0 _ [] (970, z_enc o S) 0 0 _
  refine zJ.bipush (pc := 0) (v := (-2)) dX4_refuse_0 (by decide) ?_
  refine zJ.iload_n (pc := 2) 1 dX4_refuse_2 rfl rfl ?_
  refine zJ.isub (pc := 3) dX4_refuse_3 ?_
  refine zJ.istore_n (pc := 4) (lv' := [(2, .int ((-2) - x1)), (0, .ref (z_adr o (0, 0, 0))), (1, .int x1)]) dX4_refuse_4 rfl (Nat.le_of_ble_eq_true rfl) rfl ?_
  refine zJ.iload_n (pc := 5) 0 dX4_refuse_5 rfl rfl ?_
  refine zJ.if_lt (pc := 6) (tgt := 28) dX4_refuse_6 (by decide) (fun c1 => ?_) (fun c1 => ?_)
  · replace h := h.1 c1
    refine zJ.iload_n (pc := 28) 2 dX4_refuse_28 rfl rfl ?_
    exact zG.ret (pc := 29) (r := some (.int x1)) ⟨dX4_refuse_29, _, rfl, rfl⟩ h
  · replace h := h.2 c1
    refine zJ.iload_n (pc := 9) 0 dX4_refuse_9 rfl rfl ?_
    refine zJ.aload_n (pc := 10) 1 dX4_refuse_10 rfl rfl ?_
    refine zE.getV (pc := 11) (fd_0_4 o) ok_0 kiX4 (Nat.le_of_ble_eq_true rfl) fl_X4_30 dX4_refuse_11 ?_
    refine zE.lenI (pc := 14) (v := 3) (ia_21 o) ok_21 (by decide) dX4_refuse_14 ?_
    refine zJ.icmp_ge (pc := 15) (tgt := 28) dX4_refuse_15 (by decide) (fun c2 => ?_) (fun c2 => ?_)
    · replace h := h.1 c2
      refine zJ.iload_n (pc := 28) 2 dX4_refuse_28 rfl rfl ?_
      exact zG.ret (pc := 29) (r := some (.int x1)) ⟨dX4_refuse_29, _, rfl, rfl⟩ h
    · replace h := h.2 c2
      refine zJ.aload_n (pc := 18) 1 dX4_refuse_18 rfl rfl ?_
      refine zE.getV (pc := 19) (fd_0_4 o) ok_0 kiX4 (Nat.le_of_ble_eq_true rfl) fl_X4_30 dX4_refuse_19 ?_
      refine zJ.iload_n (pc := 22) 0 dX4_refuse_22 rfl rfl ?_
      refine zJ.dup2_11 (pc := 23) dX4_refuse_23 rfl rfl ?_
      obtain ⟨hq, h⟩ := h
      refine zE.aldI (pc := 24) (ia_21 o) ok_21 hq dX4_refuse_24 ?_
      refine zJ.iconst (pc := 25) (v := 1) dX4_refuse_25 (by decide) ?_
      refine zJ.iadd (pc := 26) dX4_refuse_26 ?_
      obtain ⟨hq, h⟩ := h
      refine zE.astI (pc := 27) (ia_21 o) ok_21 hq dX4_refuse_27 ?_
      refine zJ.nameS (fun S3 hyS3 => ?_)
      replace h := h S3 hyS3
      refine zJ.iload_n (pc := 28) 2 dX4_refuse_28 rfl rfl ?_
      exact zG.ret (pc := 29) (r := some (.int x1)) ⟨dX4_refuse_29, _, rfl, rfl⟩ h
set_option maxRecDepth 100000 in
set_option maxHeartbeats 4000000 in
theorem w_X4_keep_0 (o : zW)  (S : zS) (Q : Option Value → zS → Prop) (h : ∀ S1 : zS, S1 = (sI S (0, 0, 0) 5 (((S.1 (0, 0, 0) 5) + 1) - ((S.1 (0, 0, 0) 5) + 1) / 6 * 6)) → (((S1.1 (0, 0, 0) 5) < 0 → ((6 ≤ (S1.1 (0, 0, 0) 6) → (Q none S1)) ∧ (¬ 6 ≤ (S1.1 (0, 0, 0) 6) → (Q none (sI S1 (0, 0, 0) 6 ((S1.1 (0, 0, 0) 6) + 1)))))) ∧ (¬ (S1.1 (0, 0, 0) 5) < 0 → (vp_in (S1.1 (0, 0, 0) 5) 6 ∧ (zGv o 970 mdX2_become [.ref (z_adr o (1, (S1.1 (0, 0, 0) 5).toNatClampNeg + 2, 0)), .ref (z_adr o (1, 0, 0))] S1 (fun S7 => (6 ≤ (S7.1 (0, 0, 0) 6) → (Q none S7)) ∧ (¬ 6 ≤ (S7.1 (0, 0, 0) 6) → (Q none (sI S7 (0, 0, 0) 6 ((S7.1 (0, 0, 0) 6) + 1)))))))))) : zG o 970 mdX4_keep 0 [(0, .ref (z_adr o (0, 0, 0)))] [] S Q := by
  show zJ o mdX4_keep 0 _ [] (970, z_enc o S) 0 0 _
  refine zJ.aload_n (pc := 0) 0 dX4_keep_0 rfl rfl ?_
  refine zJ.aload_n (pc := 1) 0 dX4_keep_1 rfl rfl ?_
  refine zE.getI (pc := 2) (fd_0_5 o) ok_0 kiX4 (Nat.le_of_ble_eq_true rfl) fl_X4_34 dX4_keep_2 ?_
  refine zJ.iconst (pc := 5) (v := 1) dX4_keep_5 (by decide) ?_
  refine zJ.iadd (pc := 6) dX4_keep_6 ?_
  refine zJ.bipush (pc := 7) (v := 6) dX4_keep_7 (by decide) ?_
  refine zJ.irem (pc := 9) dX4_keep_9 (by decide) ?_
  refine zE.putI (pc := 10) (fd_0_5 o) ok_0 kiX4 (Nat.le_of_ble_eq_true rfl) fl_X4_34 rfl rfl dX4_keep_10 ?_
  refine zJ.nameS (fun S1 hyS1 => ?_)
  replace h := h S1 hyS1
  refine zJ.aload_n (pc := 13) 0 dX4_keep_13 rfl rfl ?_
  refine zE.getI (pc := 14) (fd_0_5 o) ok_0 kiX4 (Nat.le_of_ble_eq_true rfl) fl_X4_34 dX4_keep_14 ?_
  refine zJ.if_lt (pc := 17) (tgt := 36) dX4_keep_17 (by decide) (fun c2 => ?_) (fun c2 => ?_)
  · replace h := h.1 c2
    refine zJ.aload_n (pc := 36) 0 dX4_keep_36 rfl rfl ?_
    refine zE.getI (pc := 37) (fd_0_6 o) ok_0 kiX4 (Nat.le_of_ble_eq_true rfl) fl_X4_38 dX4_keep_37 ?_
    refine zJ.bipush (pc := 40) (v := 6) dX4_keep_40 (by decide) ?_
    refine zJ.icmp_ge (pc := 42) (tgt := 55) dX4_keep_42 (by decide) (fun c3 => ?_) (fun c3 => ?_)
    · replace h := h.1 c3
      exact zG.ret (pc := 55) (r := none) ⟨dX4_keep_55, rfl⟩ h
    · replace h := h.2 c3
      refine zJ.aload_n (pc := 45) 0 dX4_keep_45 rfl rfl ?_
      refine zJ.dup (pc := 46) dX4_keep_46 rfl ?_
      refine zE.getI (pc := 47) (fd_0_6 o) ok_0 kiX4 (Nat.le_of_ble_eq_true rfl) fl_X4_38 dX4_keep_47 ?_
      refine zJ.iconst (pc := 50) (v := 1) dX4_keep_50 (by decide) ?_
      refine zJ.iadd (pc := 51) dX4_keep_51 ?_
      refine zE.putI (pc := 52) (fd_0_6 o) ok_0 kiX4 (Nat.le_of_ble_eq_true rfl) fl_X4_38 rfl rfl dX4_keep_52 ?_
      exact zG.ret (pc := 55) (r := none) ⟨dX4_keep_55, rfl⟩ h
  · replace h := h.2 c2
    refine zJ.aload_n (pc := 20) 0 dX4_keep_20 rfl rfl ?_
    refine zE.getV (pc := 21) (fd_0_2 o) ok_0 kiX4 (Nat.le_of_ble_eq_true rfl) fl_X4_19 dX4_keep_21 ?_
    refine zJ.aload_n (pc := 24) 0 dX4_keep_24 rfl rfl ?_
    refine zE.getI (pc := 25) (fd_0_5 o) ok_0 kiX4 (Nat.le_of_ble_eq_true rfl) fl_X4_34 dX4_keep_25 ?_
    obtain ⟨hq4, h⟩ := h
    refine zE.aldK (pc := 28) ok_22 hq4 dX4_keep_28 ?_
    refine zJ.aload_n (pc := 29) 0 dX4_keep_29 rfl rfl ?_
    refine zE.getV (pc := 30) (fd_0_0 o) ok_0 kiX4 (Nat.le_of_ble_eq_true rfl) fl_X4_10 dX4_keep_30 ?_
    refine zG.callVv (d := mdX4_keep) (pc := 33) [.ref (z_adr o (1, 0, 0))] [] (ob_1 o ((S1.1 (0, 0, 0) 5).toNatClampNeg + 2)) (ok_1 (Nat.add_lt_add_right (z_vlt hq4) 2) (z_sb_le (Nat.add_lt_add_right (z_vlt hq4) 2))) rfl dX4_keep_33 ⟨(cb_X2_become).1, (cb_X2_become).2, (Nat.le_of_ble_eq_true rfl), (Nat.le_of_ble_eq_true rfl)⟩ ml_X4_199 ci_X2_become cv_X2_become rfl (Nat.le_of_ble_eq_true rfl) (Nat.le_of_ble_eq_true rfl) rfl h (fun S7 h2 => ?_)
    replace h := h2
    clear h2
    refine zJ.aload_n (pc := 36) 0 dX4_keep_36 rfl rfl ?_
    refine zE.getI (pc := 37) (fd_0_6 o) ok_0 kiX4 (Nat.le_of_ble_eq_true rfl) fl_X4_38 dX4_keep_37 ?_
    refine zJ.bipush (pc := 40) (v := 6) dX4_keep_40 (by decide) ?_
    refine zJ.icmp_ge (pc := 42) (tgt := 55) dX4_keep_42 (by decide) (fun c8 => ?_) (fun c8 => ?_)
    · replace h := h.1 c8
      exact zG.ret (pc := 55) (r := none) ⟨dX4_keep_55, rfl⟩ h
    · replace h := h.2 c8
      refine zJ.aload_n (pc := 45) 0 dX4_keep_45 rfl rfl ?_
      refine zJ.dup (pc := 46) dX4_keep_46 rfl ?_
      refine zE.getI (pc := 47) (fd_0_6 o) ok_0 kiX4 (Nat.le_of_ble_eq_true rfl) fl_X4_38 dX4_keep_47 ?_
      refine zJ.iconst (pc := 50) (v := 1) dX4_keep_50 (by decide) ?_
      refine zJ.iadd (pc := 51) dX4_keep_51 ?_
      refine zE.putI (pc := 52) (fd_0_6 o) ok_0 kiX4 (Nat.le_of_ble_eq_true rfl) fl_X4_38 rfl rfl dX4_keep_52 ?_
      exact zG.ret (pc := 55) (r := none) ⟨dX4_keep_55, rfl⟩ h
set_option maxRecDepth 100000 in
set_option maxHeartbeats 4000000 in
theorem w_X4_floatBits_0 (o : zW) (x0 : UInt32) (S : zS) (Q : Option Value → zS → Prop) (h : (0 ≤ (Op.cmpValue (FP.fcmp x0 FP.fconst0) CmpOp.g) → (zG o 970 mdX4_floatBits 18 [(0, .float x0), (1, .float x0), (2, .int 127), (3, .int 0)] [] S Q)) ∧ (¬ 0 ≤ (Op.cmpValue (FP.fcmp x0 FP.fconst0) CmpOp.g) → (zG o 970 mdX4_floatBits 18 [(0, .float x0), (1, .float (FP.fneg x0)), (2, .int 127), (3, .int 0)] [] S Q))) : zG o 970 mdX4_floatBits 0 [(0, .float x0)] [] S Q := by
  show zJ o mdX4_floatBits 0 _ [] (970, z_enc o S) 0 0 _
  refine zJ.fload_n (pc := 0) 0 dX4_floatBits_0 rfl rfl ?_
  refine zJ.fconst0 (pc := 1) dX4_floatBits_1 ?_
  refine zJ.fcmp (pc := 2) dX4_floatBits_2 ?_
  refine zJ.if_ge (pc := 3) (tgt := 11) dX4_floatBits_3 (by decide) (fun c1 => ?_) (fun c1 => ?_)
  · replace h := h.1 c1
    refine zJ.fload_n (pc := 11) 0 dX4_floatBits_11 rfl rfl ?_
    refine zJ.fstore_n (pc := 12) (lv' := [(1, .float x0), (0, .float x0)]) dX4_floatBits_12 rfl (Nat.le_of_ble_eq_true rfl) rfl ?_
    refine zJ.bipush (pc := 13) (v := 127) dX4_floatBits_13 (by decide) ?_
    refine zJ.istore_n (pc := 15) (lv' := [(2, .int 127), (1, .float x0), (0, .float x0)]) dX4_floatBits_15 rfl (Nat.le_of_ble_eq_true rfl) rfl ?_
    refine zJ.iconst (pc := 16) (v := 0) dX4_floatBits_16 (by decide) ?_
    refine zJ.istore_n (pc := 17) (lv' := [(3, .int 0), (2, .int 127), (1, .float x0), (0, .float x0)]) dX4_floatBits_17 rfl (Nat.le_of_ble_eq_true rfl) rfl ?_
    exact zJ.sub [3, 2, 1, 0] rfl h
  · replace h := h.2 c1
    refine zJ.fload_n (pc := 6) 0 dX4_floatBits_6 rfl rfl ?_
    refine zJ.fneg (pc := 7) dX4_floatBits_7 ?_
    refine zJ.goto (pc := 8) (tgt := 12) dX4_floatBits_8 (by decide) ?_
    refine zJ.fstore_n (pc := 12) (lv' := [(1, .float (FP.fneg x0)), (0, .float x0)]) dX4_floatBits_12 rfl (Nat.le_of_ble_eq_true rfl) rfl ?_
    refine zJ.bipush (pc := 13) (v := 127) dX4_floatBits_13 (by decide) ?_
    refine zJ.istore_n (pc := 15) (lv' := [(2, .int 127), (1, .float (FP.fneg x0)), (0, .float x0)]) dX4_floatBits_15 rfl (Nat.le_of_ble_eq_true rfl) rfl ?_
    refine zJ.iconst (pc := 16) (v := 0) dX4_floatBits_16 (by decide) ?_
    refine zJ.istore_n (pc := 17) (lv' := [(3, .int 0), (2, .int 127), (1, .float (FP.fneg x0)), (0, .float x0)]) dX4_floatBits_17 rfl (Nat.le_of_ble_eq_true rfl) rfl ?_
    exact zJ.sub [3, 2, 1, 0] rfl h
set_option maxRecDepth 100000 in
set_option maxHeartbeats 4000000 in
theorem w_X4_floatBits_18 (o : zW) (x0 : UInt32) (x1 : UInt32) (x2 : Int32) (x3 : Int32) (S : zS) (Q : Option Value → zS → Prop) (h : (300 ≤ x3 → (zG o 970 mdX4_floatBits 47 [(0, .float x0), (1, .float x1), (2, .int x2), (3, .int 0)] [] S Q)) ∧ (¬ 300 ≤ x3 → (((Op.cmpValue (FP.fcmp x1 FP.fconst2) CmpOp.l) < 0 → (zG o 970 mdX4_floatBits 47 [(0, .float x0), (1, .float x1), (2, .int x2), (3, .int 0)] [] S Q)) ∧ (¬ (Op.cmpValue (FP.fcmp x1 FP.fconst2) CmpOp.l) < 0 → (vf_n32 (FP.fmul x1 (1056964608 : UInt32)) ∧ (zG o 970 mdX4_floatBits 18 [(0, .float x0), (1, .float (FP.fmul x1 (1056964608 : UInt32))), (2, .int (x2 + 1)), (3, .int (x3 + 1))] [] S Q)))))) : zG o 970 mdX4_floatBits 18 [(0, .float x0), (1, .float x1), (2, .int x2), (3, .int x3)] [] S Q := by
  show zJ o mdX4_floatBits 18 _ [] (970, z_enc o S) 0 0 _
  refine zJ.iload_n (pc := 18) 3 dX4_floatBits_18 rfl rfl ?_
  refine zJ.sipush (pc := 19) (v := 300) dX4_floatBits_19 (by decide) ?_
  refine zJ.icmp_ge (pc := 22) (tgt := 45) dX4_floatBits_22 (by decide) (fun c1 => ?_) (fun c1 => ?_)
  · replace h := h.1 c1
    refine zJ.iconst (pc := 45) (v := 0) dX4_floatBits_45 (by decide) ?_
    refine zJ.istore_n (pc := 46) (lv' := [(3, .int 0), (0, .float x0), (1, .float x1), (2, .int x2)]) dX4_floatBits_46 rfl (Nat.le_of_ble_eq_true rfl) rfl ?_
    exact zJ.sub [1, 2, 3, 0] rfl h
  · replace h := h.2 c1
    refine zJ.fload_n (pc := 25) 1 dX4_floatBits_25 rfl rfl ?_
    refine zJ.fconst2 (pc := 26) dX4_floatBits_26 ?_
    refine zJ.fcmp (pc := 27) dX4_floatBits_27 ?_
    refine zJ.if_lt (pc := 28) (tgt := 45) dX4_floatBits_28 (by decide) (fun c2 => ?_) (fun c2 => ?_)
    · replace h := h.1 c2
      refine zJ.iconst (pc := 45) (v := 0) dX4_floatBits_45 (by decide) ?_
      refine zJ.istore_n (pc := 46) (lv' := [(3, .int 0), (0, .float x0), (1, .float x1), (2, .int x2)]) dX4_floatBits_46 rfl (Nat.le_of_ble_eq_true rfl) rfl ?_
      exact zJ.sub [1, 2, 3, 0] rfl h
    · replace h := h.2 c2
      refine zJ.fload_n (pc := 31) 1 dX4_floatBits_31 rfl rfl ?_
      refine zJ.ldcf (pc := 32) lc_X4_226 dX4_floatBits_32 ?_
      obtain ⟨hq, h⟩ := h
      refine zJ.fmul (pc := 34) dX4_floatBits_34 hq ?_
      refine zJ.fstore_n (pc := 35) (lv' := [(1, .float (FP.fmul x1 (1056964608 : UInt32))), (0, .float x0), (2, .int x2), (3, .int x3)]) dX4_floatBits_35 rfl (Nat.le_of_ble_eq_true rfl) rfl ?_
      refine zJ.iinc (pc := 36) (k := 2) (lv' := [(2, .int (x2 + 1)), (1, .float (FP.fmul x1 (1056964608 : UInt32))), (0, .float x0), (3, .int x3)]) dX4_floatBits_36 rfl rfl (Nat.le_of_ble_eq_true rfl) rfl ?_
      refine zJ.iinc (pc := 39) (k := 3) (lv' := [(3, .int (x3 + 1)), (2, .int (x2 + 1)), (1, .float (FP.fmul x1 (1056964608 : UInt32))), (0, .float x0)]) dX4_floatBits_39 rfl rfl (Nat.le_of_ble_eq_true rfl) rfl ?_
      refine zJ.goto (pc := 42) (tgt := 18) dX4_floatBits_42 (by decide) ?_
      exact zJ.sub [3, 2, 1, 0] rfl h
set_option maxRecDepth 100000 in
set_option maxHeartbeats 4000000 in
theorem w_X4_floatBits_47 (o : zW) (x0 : UInt32) (x1 : UInt32) (x2 : Int32) (x3 : Int32) (S : zS) (Q : Option Value → zS → Prop) (h : (300 ≤ x3 → ((0 ≤ (Op.cmpValue (FP.fcmp x1 FP.fconst1) CmpOp.g) → (vf_n32 (FP.fsub x1 FP.fconst1) ∧ (vf_n32 (FP.fmul (FP.fsub x1 FP.fconst1) (1258291200 : UInt32)) ∧ (∀ y3 : Int32, y3 = (FP.f2i (FP.fmul (FP.fsub x1 FP.fconst1) (1258291200 : UInt32))) → ((0 ≤ (Op.cmpValue (FP.fcmp x0 FP.fconst0) CmpOp.g) → (Q (some (.int ((x2 <<< (23 &&& 31)) ||| y3))) S)) ∧ (¬ 0 ≤ (Op.cmpValue (FP.fcmp x0 FP.fconst0) CmpOp.g) → (Q (some (.int (((x2 <<< (23 &&& 31)) ||| y3) ||| (-2147483648 : Int32)))) S))))))) ∧ (¬ 0 ≤ (Op.cmpValue (FP.fcmp x1 FP.fconst1) CmpOp.g) → (vf_n32 (FP.fmul x1 (1258291200 : UInt32)) ∧ ((0 ≤ (Op.cmpValue (FP.fcmp x0 FP.fconst0) CmpOp.g) → (Q (some (.int (FP.f2i (FP.fmul x1 (1258291200 : UInt32))))) S)) ∧ (¬ 0 ≤ (Op.cmpValue (FP.fcmp x0 FP.fconst0) CmpOp.g) → (∀ y6 : Int32, y6 = ((FP.f2i (FP.fmul x1 (1258291200 : UInt32))) ||| (-2147483648 : Int32)) → (Q (some (.int y6)) S)))))))) ∧ (¬ 300 ≤ x3 → (((Op.cmpValue (FP.fcmp x1 FP.fconst0) CmpOp.l) ≤ 0 → ((0 ≤ (Op.cmpValue (FP.fcmp x1 FP.fconst1) CmpOp.g) → (vf_n32 (FP.fsub x1 FP.fconst1) ∧ (vf_n32 (FP.fmul (FP.fsub x1 FP.fconst1) (1258291200 : UInt32)) ∧ (∀ y9 : Int32, y9 = (FP.f2i (FP.fmul (FP.fsub x1 FP.fconst1) (1258291200 : UInt32))) → ((0 ≤ (Op.cmpValue (FP.fcmp x0 FP.fconst0) CmpOp.g) → (Q (some (.int ((x2 <<< (23 &&& 31)) ||| y9))) S)) ∧ (¬ 0 ≤ (Op.cmpValue (FP.fcmp x0 FP.fconst0) CmpOp.g) → (Q (some (.int (((x2 <<< (23 &&& 31)) ||| y9) ||| (-2147483648 : Int32)))) S))))))) ∧ (¬ 0 ≤ (Op.cmpValue (FP.fcmp x1 FP.fconst1) CmpOp.g) → (vf_n32 (FP.fmul x1 (1258291200 : UInt32)) ∧ ((0 ≤ (Op.cmpValue (FP.fcmp x0 FP.fconst0) CmpOp.g) → (Q (some (.int (FP.f2i (FP.fmul x1 (1258291200 : UInt32))))) S)) ∧ (¬ 0 ≤ (Op.cmpValue (FP.fcmp x0 FP.fconst0) CmpOp.g) → (∀ y12 : Int32, y12 = ((FP.f2i (FP.fmul x1 (1258291200 : UInt32))) ||| (-2147483648 : Int32)) → (Q (some (.int y12)) S)))))))) ∧ (¬ (Op.cmpValue (FP.fcmp x1 FP.fconst0) CmpOp.l) ≤ 0 → ((0 ≤ (Op.cmpValue (FP.fcmp x1 FP.fconst1) CmpOp.g) → ((0 ≤ (Op.cmpValue (FP.fcmp x1 FP.fconst1) CmpOp.g) → (vf_n32 (FP.fsub x1 FP.fconst1) ∧ (vf_n32 (FP.fmul (FP.fsub x1 FP.fconst1) (1258291200 : UInt32)) ∧ (∀ y15 : Int32, y15 = (FP.f2i (FP.fmul (FP.fsub x1 FP.fconst1) (1258291200 : UInt32))) → ((0 ≤ (Op.cmpValue (FP.fcmp x0 FP.fconst0) CmpOp.g) → (Q (some (.int ((x2 <<< (23 &&& 31)) ||| y15))) S)) ∧ (¬ 0 ≤ (Op.cmpValue (FP.fcmp x0 FP.fconst0) CmpOp.g) → (Q (some (.int (((x2 <<< (23 &&& 31)) ||| y15) ||| (-2147483648 : Int32)))) S))))))) ∧ (¬ 0 ≤ (Op.cmpValue (FP.fcmp x1 FP.fconst1) CmpOp.g) → (vf_n32 (FP.fmul x1 (1258291200 : UInt32)) ∧ ((0 ≤ (Op.cmpValue (FP.fcmp x0 FP.fconst0) CmpOp.g) → (Q (some (.int (FP.f2i (FP.fmul x1 (1258291200 : UInt32))))) S)) ∧ (¬ 0 ≤ (Op.cmpValue (FP.fcmp x0 FP.fconst0) CmpOp.g) → (∀ y18 : Int32, y18 = ((FP.f2i (FP.fmul x1 (1258291200 : UInt32))) ||| (-2147483648 : Int32)) → (Q (some (.int y18)) S)))))))) ∧ (¬ 0 ≤ (Op.cmpValue (FP.fcmp x1 FP.fconst1) CmpOp.g) → ((x2 ≤ 1 → ((0 ≤ (Op.cmpValue (FP.fcmp x1 FP.fconst1) CmpOp.g) → (vf_n32 (FP.fsub x1 FP.fconst1) ∧ (vf_n32 (FP.fmul (FP.fsub x1 FP.fconst1) (1258291200 : UInt32)) ∧ (∀ y21 : Int32, y21 = (FP.f2i (FP.fmul (FP.fsub x1 FP.fconst1) (1258291200 : UInt32))) → ((0 ≤ (Op.cmpValue (FP.fcmp x0 FP.fconst0) CmpOp.g) → (Q (some (.int ((x2 <<< (23 &&& 31)) ||| y21))) S)) ∧ (¬ 0 ≤ (Op.cmpValue (FP.fcmp x0 FP.fconst0) CmpOp.g) → (Q (some (.int (((x2 <<< (23 &&& 31)) ||| y21) ||| (-2147483648 : Int32)))) S))))))) ∧ (¬ 0 ≤ (Op.cmpValue (FP.fcmp x1 FP.fconst1) CmpOp.g) → (vf_n32 (FP.fmul x1 (1258291200 : UInt32)) ∧ ((0 ≤ (Op.cmpValue (FP.fcmp x0 FP.fconst0) CmpOp.g) → (Q (some (.int (FP.f2i (FP.fmul x1 (1258291200 : UInt32))))) S)) ∧ (¬ 0 ≤ (Op.cmpValue (FP.fcmp x0 FP.fconst0) CmpOp.g) → (∀ y24 : Int32, y24 = ((FP.f2i (FP.fmul x1 (1258291200 : UInt32))) ||| (-2147483648 : Int32)) → (Q (some (.int y24)) S)))))))) ∧ (¬ x2 ≤ 1 → (vf_n32 (FP.fmul x1 FP.fconst2) ∧ (zG o 970 mdX4_floatBits 47 [(0, .float x0), (1, .float (FP.fmul x1 FP.fconst2)), (2, .int (x2 + (-1))), (3, .int (x3 + 1))] [] S Q)))))))))) : zG o 970 mdX4_floatBits 47 [(0, .float x0), (1, .float x1), (2, .int x2), (3, .int x3)] [] S Q := by
  show zJ o mdX4_floatBits 47 _ [] (970, z_enc o S) 0 0 _
  refine zJ.iload_n (pc := 47) 3 dX4_floatBits_47 rfl rfl ?_
  refine zJ.sipush (pc := 48) (v := 300) dX4_floatBits_48 (by decide) ?_
  refine zJ.icmp_ge (pc := 51) (tgt := 84) dX4_floatBits_51 (by decide) (fun c1 => ?_) (fun c1 => ?_)
  · replace h := h.1 c1
    refine zJ.fload_n (pc := 84) 1 dX4_floatBits_84 rfl rfl ?_
    refine zJ.fconst1 (pc := 85) dX4_floatBits_85 ?_
    refine zJ.fcmp (pc := 86) dX4_floatBits_86 ?_
    refine zJ.if_ge (pc := 87) (tgt := 98) dX4_floatBits_87 (by decide) (fun c2 => ?_) (fun c2 => ?_)
    · replace h := h.1 c2
      refine zJ.iload_n (pc := 98) 2 dX4_floatBits_98 rfl rfl ?_
      refine zJ.bipush (pc := 99) (v := 23) dX4_floatBits_99 (by decide) ?_
      refine zJ.ishl (pc := 101) dX4_floatBits_101 ?_
      refine zJ.fload_n (pc := 102) 1 dX4_floatBits_102 rfl rfl ?_
      refine zJ.fconst1 (pc := 103) dX4_floatBits_103 ?_
      obtain ⟨hq, h⟩ := h
      refine zJ.fsub (pc := 104) dX4_floatBits_104 hq ?_
      refine zJ.ldcf (pc := 105) lc_X4_227 dX4_floatBits_105 ?_
      obtain ⟨hq, h⟩ := h
      refine zJ.fmul (pc := 107) dX4_floatBits_107 hq ?_
      refine zJ.f2i (pc := 108) dX4_floatBits_108 ?_
      refine zJ.topi (fun y3 hyy3 => ?_)
      replace h := h y3 hyy3
      refine zJ.ior (pc := 109) dX4_floatBits_109 ?_
      refine zJ.istore_n (pc := 110) (lv' := [(3, .int ((x2 <<< (23 &&& 31)) ||| y3)), (0, .float x0), (1, .float x1), (2, .int x2)]) dX4_floatBits_110 rfl (Nat.le_of_ble_eq_true rfl) rfl ?_
      refine zJ.fload_n (pc := 111) 1 dX4_floatBits_111 rfl rfl ?_
      refine zJ.fconst0 (pc := 112) dX4_floatBits_112 ?_
      refine zJ.fcmp (pc := 113) dX4_floatBits_113 ?_
      refine zJ.if_ge (pc := 114) (tgt := 124) dX4_floatBits_114 (by decide) (fun c4 => ?_) (fun c4 => ?_)
      · replace h := h.1 c4
        refine zJ.iload_n (pc := 124) 0 dX4_floatBits_124 rfl rfl ?_
        exact zG.ret (pc := 125) (r := some (.int ((x2 <<< (23 &&& 31)) ||| y3))) ⟨dX4_floatBits_125, _, rfl, rfl⟩ h
      · replace h := h.2 c4
        refine zJ.iload_n (pc := 117) 0 dX4_floatBits_117 rfl rfl ?_
        refine zJ.ldc (pc := 118) lc_X4_228 dX4_floatBits_118 ?_
        refine zJ.ior (pc := 120) dX4_floatBits_120 ?_
        refine zJ.goto (pc := 121) (tgt := 125) dX4_floatBits_121 (by decide) ?_
        exact zG.ret (pc := 125) (r := some (.int (((x2 <<< (23 &&& 31)) ||| y3) ||| (-2147483648 : Int32)))) ⟨dX4_floatBits_125, _, rfl, rfl⟩ h
    · replace h := h.2 c2
      refine zJ.fload_n (pc := 90) 1 dX4_floatBits_90 rfl rfl ?_
      refine zJ.ldcf (pc := 91) lc_X4_227 dX4_floatBits_91 ?_
      obtain ⟨hq, h⟩ := h
      refine zJ.fmul (pc := 93) dX4_floatBits_93 hq ?_
      refine zJ.f2i (pc := 94) dX4_floatBits_94 ?_
      refine zJ.goto (pc := 95) (tgt := 110) dX4_floatBits_95 (by decide) ?_
      refine zJ.istore_n (pc := 110) (lv' := [(3, .int (FP.f2i (FP.fmul x1 (1258291200 : UInt32)))), (0, .float x0), (1, .float x1), (2, .int x2)]) dX4_floatBits_110 rfl (Nat.le_of_ble_eq_true rfl) rfl ?_
      refine zJ.fload_n (pc := 111) 1 dX4_floatBits_111 rfl rfl ?_
      refine zJ.fconst0 (pc := 112) dX4_floatBits_112 ?_
      refine zJ.fcmp (pc := 113) dX4_floatBits_113 ?_
      refine zJ.if_ge (pc := 114) (tgt := 124) dX4_floatBits_114 (by decide) (fun c5 => ?_) (fun c5 => ?_)
      · replace h := h.1 c5
        refine zJ.iload_n (pc := 124) 0 dX4_floatBits_124 rfl rfl ?_
        exact zG.ret (pc := 125) (r := some (.int (FP.f2i (FP.fmul x1 (1258291200 : UInt32))))) ⟨dX4_floatBits_125, _, rfl, rfl⟩ h
      · replace h := h.2 c5
        refine zJ.iload_n (pc := 117) 0 dX4_floatBits_117 rfl rfl ?_
        refine zJ.ldc (pc := 118) lc_X4_228 dX4_floatBits_118 ?_
        refine zJ.ior (pc := 120) dX4_floatBits_120 ?_
        refine zJ.topi (fun y6 hyy6 => ?_)
        replace h := h y6 hyy6
        refine zJ.goto (pc := 121) (tgt := 125) dX4_floatBits_121 (by decide) ?_
        exact zG.ret (pc := 125) (r := some (.int y6)) ⟨dX4_floatBits_125, _, rfl, rfl⟩ h
  · replace h := h.2 c1
    refine zJ.fload_n (pc := 54) 1 dX4_floatBits_54 rfl rfl ?_
    refine zJ.fconst0 (pc := 55) dX4_floatBits_55 ?_
    refine zJ.fcmp (pc := 56) dX4_floatBits_56 ?_
    refine zJ.if_le (pc := 57) (tgt := 84) dX4_floatBits_57 (by decide) (fun c7 => ?_) (fun c7 => ?_)
    · replace h := h.1 c7
      refine zJ.fload_n (pc := 84) 1 dX4_floatBits_84 rfl rfl ?_
      refine zJ.fconst1 (pc := 85) dX4_floatBits_85 ?_
      refine zJ.fcmp (pc := 86) dX4_floatBits_86 ?_
      refine zJ.if_ge (pc := 87) (tgt := 98) dX4_floatBits_87 (by decide) (fun c8 => ?_) (fun c8 => ?_)
      · replace h := h.1 c8
        refine zJ.iload_n (pc := 98) 2 dX4_floatBits_98 rfl rfl ?_
        refine zJ.bipush (pc := 99) (v := 23) dX4_floatBits_99 (by decide) ?_
        refine zJ.ishl (pc := 101) dX4_floatBits_101 ?_
        refine zJ.fload_n (pc := 102) 1 dX4_floatBits_102 rfl rfl ?_
        refine zJ.fconst1 (pc := 103) dX4_floatBits_103 ?_
        obtain ⟨hq, h⟩ := h
        refine zJ.fsub (pc := 104) dX4_floatBits_104 hq ?_
        refine zJ.ldcf (pc := 105) lc_X4_227 dX4_floatBits_105 ?_
        obtain ⟨hq, h⟩ := h
        refine zJ.fmul (pc := 107) dX4_floatBits_107 hq ?_
        refine zJ.f2i (pc := 108) dX4_floatBits_108 ?_
        refine zJ.topi (fun y9 hyy9 => ?_)
        replace h := h y9 hyy9
        refine zJ.ior (pc := 109) dX4_floatBits_109 ?_
        refine zJ.istore_n (pc := 110) (lv' := [(3, .int ((x2 <<< (23 &&& 31)) ||| y9)), (0, .float x0), (1, .float x1), (2, .int x2)]) dX4_floatBits_110 rfl (Nat.le_of_ble_eq_true rfl) rfl ?_
        refine zJ.fload_n (pc := 111) 1 dX4_floatBits_111 rfl rfl ?_
        refine zJ.fconst0 (pc := 112) dX4_floatBits_112 ?_
        refine zJ.fcmp (pc := 113) dX4_floatBits_113 ?_
        refine zJ.if_ge (pc := 114) (tgt := 124) dX4_floatBits_114 (by decide) (fun c10 => ?_) (fun c10 => ?_)
        · replace h := h.1 c10
          refine zJ.iload_n (pc := 124) 0 dX4_floatBits_124 rfl rfl ?_
          exact zG.ret (pc := 125) (r := some (.int ((x2 <<< (23 &&& 31)) ||| y9))) ⟨dX4_floatBits_125, _, rfl, rfl⟩ h
        · replace h := h.2 c10
          refine zJ.iload_n (pc := 117) 0 dX4_floatBits_117 rfl rfl ?_
          refine zJ.ldc (pc := 118) lc_X4_228 dX4_floatBits_118 ?_
          refine zJ.ior (pc := 120) dX4_floatBits_120 ?_
          refine zJ.goto (pc := 121) (tgt := 125) dX4_floatBits_121 (by decide) ?_
          exact zG.ret (pc := 125) (r := some (.int (((x2 <<< (23 &&& 31)) ||| y9) ||| (-2147483648 : Int32)))) ⟨dX4_floatBits_125, _, rfl, rfl⟩ h
      · replace h := h.2 c8
        refine zJ.fload_n (pc := 90) 1 dX4_floatBits_90 rfl rfl ?_
        refine zJ.ldcf (pc := 91) lc_X4_227 dX4_floatBits_91 ?_
        obtain ⟨hq, h⟩ := h
        refine zJ.fmul (pc := 93) dX4_floatBits_93 hq ?_
        refine zJ.f2i (pc := 94) dX4_floatBits_94 ?_
        refine zJ.goto (pc := 95) (tgt := 110) dX4_floatBits_95 (by decide) ?_
        refine zJ.istore_n (pc := 110) (lv' := [(3, .int (FP.f2i (FP.fmul x1 (1258291200 : UInt32)))), (0, .float x0), (1, .float x1), (2, .int x2)]) dX4_floatBits_110 rfl (Nat.le_of_ble_eq_true rfl) rfl ?_
        refine zJ.fload_n (pc := 111) 1 dX4_floatBits_111 rfl rfl ?_
        refine zJ.fconst0 (pc := 112) dX4_floatBits_112 ?_
        refine zJ.fcmp (pc := 113) dX4_floatBits_113 ?_
        refine zJ.if_ge (pc := 114) (tgt := 124) dX4_floatBits_114 (by decide) (fun c11 => ?_) (fun c11 => ?_)
        · replace h := h.1 c11
          refine zJ.iload_n (pc := 124) 0 dX4_floatBits_124 rfl rfl ?_
          exact zG.ret (pc := 125) (r := some (.int (FP.f2i (FP.fmul x1 (1258291200 : UInt32))))) ⟨dX4_floatBits_125, _, rfl, rfl⟩ h
        · replace h := h.2 c11
          refine zJ.iload_n (pc := 117) 0 dX4_floatBits_117 rfl rfl ?_
          refine zJ.ldc (pc := 118) lc_X4_228 dX4_floatBits_118 ?_
          refine zJ.ior (pc := 120) dX4_floatBits_120 ?_
          refine zJ.topi (fun y12 hyy12 => ?_)
          replace h := h y12 hyy12
          refine zJ.goto (pc := 121) (tgt := 125) dX4_floatBits_121 (by decide) ?_
          exact zG.ret (pc := 125) (r := some (.int y12)) ⟨dX4_floatBits_125, _, rfl, rfl⟩ h
    · replace h := h.2 c7
      refine zJ.fload_n (pc := 60) 1 dX4_floatBits_60 rfl rfl ?_
      refine zJ.fconst1 (pc := 61) dX4_floatBits_61 ?_
      refine zJ.fcmp (pc := 62) dX4_floatBits_62 ?_
      refine zJ.if_ge (pc := 63) (tgt := 84) dX4_floatBits_63 (by decide) (fun c13 => ?_) (fun c13 => ?_)
      · replace h := h.1 c13
        refine zJ.fload_n (pc := 84) 1 dX4_floatBits_84 rfl rfl ?_
        refine zJ.fconst1 (pc := 85) dX4_floatBits_85 ?_
        refine zJ.fcmp (pc := 86) dX4_floatBits_86 ?_
        refine zJ.if_ge (pc := 87) (tgt := 98) dX4_floatBits_87 (by decide) (fun c14 => ?_) (fun c14 => ?_)
        · replace h := h.1 c14
          refine zJ.iload_n (pc := 98) 2 dX4_floatBits_98 rfl rfl ?_
          refine zJ.bipush (pc := 99) (v := 23) dX4_floatBits_99 (by decide) ?_
          refine zJ.ishl (pc := 101) dX4_floatBits_101 ?_
          refine zJ.fload_n (pc := 102) 1 dX4_floatBits_102 rfl rfl ?_
          refine zJ.fconst1 (pc := 103) dX4_floatBits_103 ?_
          obtain ⟨hq, h⟩ := h
          refine zJ.fsub (pc := 104) dX4_floatBits_104 hq ?_
          refine zJ.ldcf (pc := 105) lc_X4_227 dX4_floatBits_105 ?_
          obtain ⟨hq, h⟩ := h
          refine zJ.fmul (pc := 107) dX4_floatBits_107 hq ?_
          refine zJ.f2i (pc := 108) dX4_floatBits_108 ?_
          refine zJ.topi (fun y15 hyy15 => ?_)
          replace h := h y15 hyy15
          refine zJ.ior (pc := 109) dX4_floatBits_109 ?_
          refine zJ.istore_n (pc := 110) (lv' := [(3, .int ((x2 <<< (23 &&& 31)) ||| y15)), (0, .float x0), (1, .float x1), (2, .int x2)]) dX4_floatBits_110 rfl (Nat.le_of_ble_eq_true rfl) rfl ?_
          refine zJ.fload_n (pc := 111) 1 dX4_floatBits_111 rfl rfl ?_
          refine zJ.fconst0 (pc := 112) dX4_floatBits_112 ?_
          refine zJ.fcmp (pc := 113) dX4_floatBits_113 ?_
          refine zJ.if_ge (pc := 114) (tgt := 124) dX4_floatBits_114 (by decide) (fun c16 => ?_) (fun c16 => ?_)
          · replace h := h.1 c16
            refine zJ.iload_n (pc := 124) 0 dX4_floatBits_124 rfl rfl ?_
            exact zG.ret (pc := 125) (r := some (.int ((x2 <<< (23 &&& 31)) ||| y15))) ⟨dX4_floatBits_125, _, rfl, rfl⟩ h
          · replace h := h.2 c16
            refine zJ.iload_n (pc := 117) 0 dX4_floatBits_117 rfl rfl ?_
            refine zJ.ldc (pc := 118) lc_X4_228 dX4_floatBits_118 ?_
            refine zJ.ior (pc := 120) dX4_floatBits_120 ?_
            refine zJ.goto (pc := 121) (tgt := 125) dX4_floatBits_121 (by decide) ?_
            exact zG.ret (pc := 125) (r := some (.int (((x2 <<< (23 &&& 31)) ||| y15) ||| (-2147483648 : Int32)))) ⟨dX4_floatBits_125, _, rfl, rfl⟩ h
        · replace h := h.2 c14
          refine zJ.fload_n (pc := 90) 1 dX4_floatBits_90 rfl rfl ?_
          refine zJ.ldcf (pc := 91) lc_X4_227 dX4_floatBits_91 ?_
          obtain ⟨hq, h⟩ := h
          refine zJ.fmul (pc := 93) dX4_floatBits_93 hq ?_
          refine zJ.f2i (pc := 94) dX4_floatBits_94 ?_
          refine zJ.goto (pc := 95) (tgt := 110) dX4_floatBits_95 (by decide) ?_
          refine zJ.istore_n (pc := 110) (lv' := [(3, .int (FP.f2i (FP.fmul x1 (1258291200 : UInt32)))), (0, .float x0), (1, .float x1), (2, .int x2)]) dX4_floatBits_110 rfl (Nat.le_of_ble_eq_true rfl) rfl ?_
          refine zJ.fload_n (pc := 111) 1 dX4_floatBits_111 rfl rfl ?_
          refine zJ.fconst0 (pc := 112) dX4_floatBits_112 ?_
          refine zJ.fcmp (pc := 113) dX4_floatBits_113 ?_
          refine zJ.if_ge (pc := 114) (tgt := 124) dX4_floatBits_114 (by decide) (fun c17 => ?_) (fun c17 => ?_)
          · replace h := h.1 c17
            refine zJ.iload_n (pc := 124) 0 dX4_floatBits_124 rfl rfl ?_
            exact zG.ret (pc := 125) (r := some (.int (FP.f2i (FP.fmul x1 (1258291200 : UInt32))))) ⟨dX4_floatBits_125, _, rfl, rfl⟩ h
          · replace h := h.2 c17
            refine zJ.iload_n (pc := 117) 0 dX4_floatBits_117 rfl rfl ?_
            refine zJ.ldc (pc := 118) lc_X4_228 dX4_floatBits_118 ?_
            refine zJ.ior (pc := 120) dX4_floatBits_120 ?_
            refine zJ.topi (fun y18 hyy18 => ?_)
            replace h := h y18 hyy18
            refine zJ.goto (pc := 121) (tgt := 125) dX4_floatBits_121 (by decide) ?_
            exact zG.ret (pc := 125) (r := some (.int y18)) ⟨dX4_floatBits_125, _, rfl, rfl⟩ h
      · replace h := h.2 c13
        refine zJ.iload_n (pc := 66) 2 dX4_floatBits_66 rfl rfl ?_
        refine zJ.iconst (pc := 67) (v := 1) dX4_floatBits_67 (by decide) ?_
        refine zJ.icmp_le (pc := 68) (tgt := 84) dX4_floatBits_68 (by decide) (fun c19 => ?_) (fun c19 => ?_)
        · replace h := h.1 c19
          refine zJ.fload_n (pc := 84) 1 dX4_floatBits_84 rfl rfl ?_
          refine zJ.fconst1 (pc := 85) dX4_floatBits_85 ?_
          refine zJ.fcmp (pc := 86) dX4_floatBits_86 ?_
          refine zJ.if_ge (pc := 87) (tgt := 98) dX4_floatBits_87 (by decide) (fun c20 => ?_) (fun c20 => ?_)
          · replace h := h.1 c20
            refine zJ.iload_n (pc := 98) 2 dX4_floatBits_98 rfl rfl ?_
            refine zJ.bipush (pc := 99) (v := 23) dX4_floatBits_99 (by decide) ?_
            refine zJ.ishl (pc := 101) dX4_floatBits_101 ?_
            refine zJ.fload_n (pc := 102) 1 dX4_floatBits_102 rfl rfl ?_
            refine zJ.fconst1 (pc := 103) dX4_floatBits_103 ?_
            obtain ⟨hq, h⟩ := h
            refine zJ.fsub (pc := 104) dX4_floatBits_104 hq ?_
            refine zJ.ldcf (pc := 105) lc_X4_227 dX4_floatBits_105 ?_
            obtain ⟨hq, h⟩ := h
            refine zJ.fmul (pc := 107) dX4_floatBits_107 hq ?_
            refine zJ.f2i (pc := 108) dX4_floatBits_108 ?_
            refine zJ.topi (fun y21 hyy21 => ?_)
            replace h := h y21 hyy21
            refine zJ.ior (pc := 109) dX4_floatBits_109 ?_
            refine zJ.istore_n (pc := 110) (lv' := [(3, .int ((x2 <<< (23 &&& 31)) ||| y21)), (0, .float x0), (1, .float x1), (2, .int x2)]) dX4_floatBits_110 rfl (Nat.le_of_ble_eq_true rfl) rfl ?_
            refine zJ.fload_n (pc := 111) 1 dX4_floatBits_111 rfl rfl ?_
            refine zJ.fconst0 (pc := 112) dX4_floatBits_112 ?_
            refine zJ.fcmp (pc := 113) dX4_floatBits_113 ?_
            refine zJ.if_ge (pc := 114) (tgt := 124) dX4_floatBits_114 (by decide) (fun c22 => ?_) (fun c22 => ?_)
            · replace h := h.1 c22
              refine zJ.iload_n (pc := 124) 0 dX4_floatBits_124 rfl rfl ?_
              exact zG.ret (pc := 125) (r := some (.int ((x2 <<< (23 &&& 31)) ||| y21))) ⟨dX4_floatBits_125, _, rfl, rfl⟩ h
            · replace h := h.2 c22
              refine zJ.iload_n (pc := 117) 0 dX4_floatBits_117 rfl rfl ?_
              refine zJ.ldc (pc := 118) lc_X4_228 dX4_floatBits_118 ?_
              refine zJ.ior (pc := 120) dX4_floatBits_120 ?_
              refine zJ.goto (pc := 121) (tgt := 125) dX4_floatBits_121 (by decide) ?_
              exact zG.ret (pc := 125) (r := some (.int (((x2 <<< (23 &&& 31)) ||| y21) ||| (-2147483648 : Int32)))) ⟨dX4_floatBits_125, _, rfl, rfl⟩ h
          · replace h := h.2 c20
            refine zJ.fload_n (pc := 90) 1 dX4_floatBits_90 rfl rfl ?_
            refine zJ.ldcf (pc := 91) lc_X4_227 dX4_floatBits_91 ?_
            obtain ⟨hq, h⟩ := h
            refine zJ.fmul (pc := 93) dX4_floatBits_93 hq ?_
            refine zJ.f2i (pc := 94) dX4_floatBits_94 ?_
            refine zJ.goto (pc := 95) (tgt := 110) dX4_floatBits_95 (by decide) ?_
            refine zJ.istore_n (pc := 110) (lv' := [(3, .int (FP.f2i (FP.fmul x1 (1258291200 : UInt32)))), (0, .float x0), (1, .float x1), (2, .int x2)]) dX4_floatBits_110 rfl (Nat.le_of_ble_eq_true rfl) rfl ?_
            refine zJ.fload_n (pc := 111) 1 dX4_floatBits_111 rfl rfl ?_
            refine zJ.fconst0 (pc := 112) dX4_floatBits_112 ?_
            refine zJ.fcmp (pc := 113) dX4_floatBits_113 ?_
            refine zJ.if_ge (pc := 114) (tgt := 124) dX4_floatBits_114 (by decide) (fun c23 => ?_) (fun c23 => ?_)
            · replace h := h.1 c23
              refine zJ.iload_n (pc := 124) 0 dX4_floatBits_124 rfl rfl ?_
              exact zG.ret (pc := 125) (r := some (.int (FP.f2i (FP.fmul x1 (1258291200 : UInt32))))) ⟨dX4_floatBits_125, _, rfl, rfl⟩ h
            · replace h := h.2 c23
              refine zJ.iload_n (pc := 117) 0 dX4_floatBits_117 rfl rfl ?_
              refine zJ.ldc (pc := 118) lc_X4_228 dX4_floatBits_118 ?_
              refine zJ.ior (pc := 120) dX4_floatBits_120 ?_
              refine zJ.topi (fun y24 hyy24 => ?_)
              replace h := h y24 hyy24
              refine zJ.goto (pc := 121) (tgt := 125) dX4_floatBits_121 (by decide) ?_
              exact zG.ret (pc := 125) (r := some (.int y24)) ⟨dX4_floatBits_125, _, rfl, rfl⟩ h
        · replace h := h.2 c19
          refine zJ.fload_n (pc := 71) 1 dX4_floatBits_71 rfl rfl ?_
          refine zJ.fconst2 (pc := 72) dX4_floatBits_72 ?_
          obtain ⟨hq, h⟩ := h
          refine zJ.fmul (pc := 73) dX4_floatBits_73 hq ?_
          refine zJ.fstore_n (pc := 74) (lv' := [(1, .float (FP.fmul x1 FP.fconst2)), (0, .float x0), (2, .int x2), (3, .int x3)]) dX4_floatBits_74 rfl (Nat.le_of_ble_eq_true rfl) rfl ?_
          refine zJ.iinc (pc := 75) (k := 2) (lv' := [(2, .int (x2 + (-1))), (1, .float (FP.fmul x1 FP.fconst2)), (0, .float x0), (3, .int x3)]) dX4_floatBits_75 rfl rfl (Nat.le_of_ble_eq_true rfl) rfl ?_
          refine zJ.iinc (pc := 78) (k := 3) (lv' := [(3, .int (x3 + 1)), (2, .int (x2 + (-1))), (1, .float (FP.fmul x1 FP.fconst2)), (0, .float x0)]) dX4_floatBits_78 rfl rfl (Nat.le_of_ble_eq_true rfl) rfl ?_
          refine zJ.goto (pc := 81) (tgt := 47) dX4_floatBits_81 (by decide) ?_
          exact zJ.sub [3, 2, 1, 0] rfl h
set_option maxRecDepth 100000 in
set_option maxHeartbeats 4000000 in
theorem w_X4_doubleBits_0 (o : zW) (x0 : UInt64) (S : zS) (Q : Option Value → zS → Prop) (h : (0 ≤ (Op.cmpValue (FP.dcmp x0 FP.dconst0) CmpOp.g) → (zG o 970 mdX4_doubleBits 21 [(0, .double x0), (2, .double x0), (4, .long (1023 : Int64)), (6, .int 0)] [] S Q)) ∧ (¬ 0 ≤ (Op.cmpValue (FP.dcmp x0 FP.dconst0) CmpOp.g) → (zG o 970 mdX4_doubleBits 21 [(0, .double x0), (2, .double (FP.dneg x0)), (4, .long (1023 : Int64)), (6, .int 0)] [] S Q))) : zG o 970 mdX4_doubleBits 0 [(0, .double x0)] [] S Q := by
  show zJ o mdX4_doubleBits 0 _ [] (970, z_enc o S) 0 0 _
  refine zJ.dload_n (pc := 0) 0 dX4_doubleBits_0 rfl rfl ?_
  refine zJ.dconst0 (pc := 1) dX4_doubleBits_1 ?_
  refine zJ.dcmp (pc := 2) dX4_doubleBits_2 ?_
  refine zJ.if_ge (pc := 3) (tgt := 11) dX4_doubleBits_3 (by decide) (fun c1 => ?_) (fun c1 => ?_)
  · replace h := h.1 c1
    refine zJ.dload_n (pc := 11) 0 dX4_doubleBits_11 rfl rfl ?_
    refine zJ.dstore_n (pc := 12) (lv' := [(2, .double x0), (0, .double x0)]) dX4_doubleBits_12 rfl (Nat.le_of_ble_eq_true rfl) rfl ?_
    refine zJ.ldc2 (pc := 13) lc_X4_229 dX4_doubleBits_13 ?_
    refine zJ.lstore (pc := 16) (lv' := [(4, .long (1023 : Int64)), (2, .double x0), (0, .double x0)]) dX4_doubleBits_16 (Nat.le_of_ble_eq_true rfl) rfl ?_
    refine zJ.iconst (pc := 18) (v := 0) dX4_doubleBits_18 (by decide) ?_
    refine zJ.istore (pc := 19) (lv' := [(6, .int 0), (4, .long (1023 : Int64)), (2, .double x0), (0, .double x0)]) dX4_doubleBits_19 (Nat.le_of_ble_eq_true rfl) rfl ?_
    exact zJ.sub [3, 2, 1, 0] rfl h
  · replace h := h.2 c1
    refine zJ.dload_n (pc := 6) 0 dX4_doubleBits_6 rfl rfl ?_
    refine zJ.dneg (pc := 7) dX4_doubleBits_7 ?_
    refine zJ.goto (pc := 8) (tgt := 12) dX4_doubleBits_8 (by decide) ?_
    refine zJ.dstore_n (pc := 12) (lv' := [(2, .double (FP.dneg x0)), (0, .double x0)]) dX4_doubleBits_12 rfl (Nat.le_of_ble_eq_true rfl) rfl ?_
    refine zJ.ldc2 (pc := 13) lc_X4_229 dX4_doubleBits_13 ?_
    refine zJ.lstore (pc := 16) (lv' := [(4, .long (1023 : Int64)), (2, .double (FP.dneg x0)), (0, .double x0)]) dX4_doubleBits_16 (Nat.le_of_ble_eq_true rfl) rfl ?_
    refine zJ.iconst (pc := 18) (v := 0) dX4_doubleBits_18 (by decide) ?_
    refine zJ.istore (pc := 19) (lv' := [(6, .int 0), (4, .long (1023 : Int64)), (2, .double (FP.dneg x0)), (0, .double x0)]) dX4_doubleBits_19 (Nat.le_of_ble_eq_true rfl) rfl ?_
    exact zJ.sub [3, 2, 1, 0] rfl h
set_option maxRecDepth 100000 in
set_option maxHeartbeats 4000000 in
theorem w_X4_doubleBits_21 (o : zW) (x0 : UInt64) (x2 : UInt64) (x4 : Int64) (x6 : Int32) (S : zS) (Q : Option Value → zS → Prop) (h : (1100 ≤ x6 → (zG o 970 mdX4_doubleBits 58 [(0, .double x0), (2, .double x2), (4, .long x4), (6, .int 0)] [] S Q)) ∧ (¬ 1100 ≤ x6 → (∀ y2 : Int32, y2 = (Op.cmpValue (FP.dcmp x2 (4611686018427387904 : UInt64)) CmpOp.l) → ((y2 < 0 → (zG o 970 mdX4_doubleBits 58 [(0, .double x0), (2, .double x2), (4, .long x4), (6, .int 0)] [] S Q)) ∧ (¬ y2 < 0 → (vf_n64 (FP.dmul x2 (4602678819172646912 : UInt64)) ∧ (zG o 970 mdX4_doubleBits 21 [(0, .double x0), (2, .double (FP.dmul x2 (4602678819172646912 : UInt64))), (4, .long (x4 + 1)), (6, .int (x6 + 1))] [] S Q))))))) : zG o 970 mdX4_doubleBits 21 [(0, .double x0), (2, .double x2), (4, .long x4), (6, .int x6)] [] S Q := by
  show zJ o mdX4_doubleBits 21 _ [] (970, z_enc o S) 0 0 _
  refine zJ.iload (pc := 21) 3 dX4_doubleBits_21 rfl ?_
  refine zJ.sipush (pc := 23) (v := 1100) dX4_doubleBits_23 (by decide) ?_
  refine zJ.icmp_ge (pc := 26) (tgt := 55) dX4_doubleBits_26 (by decide) (fun c1 => ?_) (fun c1 => ?_)
  · replace h := h.1 c1
    refine zJ.iconst (pc := 55) (v := 0) dX4_doubleBits_55 (by decide) ?_
    refine zJ.istore (pc := 56) (lv' := [(6, .int 0), (0, .double x0), (2, .double x2), (4, .long x4)]) dX4_doubleBits_56 (Nat.le_of_ble_eq_true rfl) rfl ?_
    exact zJ.sub [1, 2, 3, 0] rfl h
  · replace h := h.2 c1
    refine zJ.dload_n (pc := 29) 1 dX4_doubleBits_29 rfl rfl ?_
    refine zJ.ldc2d (pc := 30) lc_X4_231 dX4_doubleBits_30 ?_
    refine zJ.dcmp (pc := 33) dX4_doubleBits_33 ?_
    refine zJ.topi (fun y2 hyy2 => ?_)
    replace h := h y2 hyy2
    refine zJ.if_lt (pc := 34) (tgt := 55) dX4_doubleBits_34 (by decide) (fun c3 => ?_) (fun c3 => ?_)
    · replace h := h.1 c3
      refine zJ.iconst (pc := 55) (v := 0) dX4_doubleBits_55 (by decide) ?_
      refine zJ.istore (pc := 56) (lv' := [(6, .int 0), (0, .double x0), (2, .double x2), (4, .long x4)]) dX4_doubleBits_56 (Nat.le_of_ble_eq_true rfl) rfl ?_
      exact zJ.sub [1, 2, 3, 0] rfl h
    · replace h := h.2 c3
      refine zJ.dload_n (pc := 37) 1 dX4_doubleBits_37 rfl rfl ?_
      refine zJ.ldc2d (pc := 38) lc_X4_233 dX4_doubleBits_38 ?_
      obtain ⟨hq, h⟩ := h
      refine zJ.dmul (pc := 41) dX4_doubleBits_41 hq ?_
      refine zJ.dstore_n (pc := 42) (lv' := [(2, .double (FP.dmul x2 (4602678819172646912 : UInt64))), (0, .double x0), (4, .long x4), (6, .int x6)]) dX4_doubleBits_42 rfl (Nat.le_of_ble_eq_true rfl) rfl ?_
      refine zJ.lload (pc := 43) 2 dX4_doubleBits_43 rfl ?_
      refine zJ.lconst (pc := 45) (v := 1) dX4_doubleBits_45 (by decide) ?_
      refine zJ.ladd (pc := 46) dX4_doubleBits_46 ?_
      refine zJ.lstore (pc := 47) (lv' := [(4, .long (x4 + 1)), (2, .double (FP.dmul x2 (4602678819172646912 : UInt64))), (0, .double x0), (6, .int x6)]) dX4_doubleBits_47 (Nat.le_of_ble_eq_true rfl) rfl ?_
      refine zJ.iinc (pc := 49) (k := 3) (lv' := [(6, .int (x6 + 1)), (4, .long (x4 + 1)), (2, .double (FP.dmul x2 (4602678819172646912 : UInt64))), (0, .double x0)]) dX4_doubleBits_49 rfl rfl (Nat.le_of_ble_eq_true rfl) rfl ?_
      refine zJ.goto (pc := 52) (tgt := 21) dX4_doubleBits_52 (by decide) ?_
      exact zJ.sub [3, 2, 1, 0] rfl h
set_option maxRecDepth 100000 in
set_option maxHeartbeats 4000000 in
theorem w_X4_doubleBits_58 (o : zW) (x0 : UInt64) (x2 : UInt64) (x4 : Int64) (x6 : Int32) (S : zS) (Q : Option Value → zS → Prop) (h : (1100 ≤ x6 → ((0 ≤ (Op.cmpValue (FP.dcmp x2 FP.dconst1) CmpOp.g) → (vf_n64 (FP.dsub x2 FP.dconst1) ∧ (vf_n64 (FP.dmul (FP.dsub x2 FP.dconst1) (4841369599423283200 : UInt64)) ∧ ((0 ≤ (Op.cmpValue (FP.dcmp x0 FP.dconst0) CmpOp.g) → (Q (some (.long ((x4 <<< ((52 : Int32).toInt64 &&& 63)) ||| (FP.d2l (FP.dmul (FP.dsub x2 FP.dconst1) (4841369599423283200 : UInt64)))))) S)) ∧ (¬ 0 ≤ (Op.cmpValue (FP.dcmp x0 FP.dconst0) CmpOp.g) → (Q (some (.long (((x4 <<< ((52 : Int32).toInt64 &&& 63)) ||| (FP.d2l (FP.dmul (FP.dsub x2 FP.dconst1) (4841369599423283200 : UInt64)))) ||| (-9223372036854775808 : Int64)))) S)))))) ∧ (¬ 0 ≤ (Op.cmpValue (FP.dcmp x2 FP.dconst1) CmpOp.g) → (vf_n64 (FP.dmul x2 (4841369599423283200 : UInt64)) ∧ ((0 ≤ (Op.cmpValue (FP.dcmp x0 FP.dconst0) CmpOp.g) → (Q (some (.long (FP.d2l (FP.dmul x2 (4841369599423283200 : UInt64))))) S)) ∧ (¬ 0 ≤ (Op.cmpValue (FP.dcmp x0 FP.dconst0) CmpOp.g) → (Q (some (.long ((FP.d2l (FP.dmul x2 (4841369599423283200 : UInt64))) ||| (-9223372036854775808 : Int64)))) S))))))) ∧ (¬ 1100 ≤ x6 → (((Op.cmpValue (FP.dcmp x2 FP.dconst0) CmpOp.l) ≤ 0 → ((0 ≤ (Op.cmpValue (FP.dcmp x2 FP.dconst1) CmpOp.g) → (vf_n64 (FP.dsub x2 FP.dconst1) ∧ (vf_n64 (FP.dmul (FP.dsub x2 FP.dconst1) (4841369599423283200 : UInt64)) ∧ ((0 ≤ (Op.cmpValue (FP.dcmp x0 FP.dconst0) CmpOp.g) → (Q (some (.long ((x4 <<< ((52 : Int32).toInt64 &&& 63)) ||| (FP.d2l (FP.dmul (FP.dsub x2 FP.dconst1) (4841369599423283200 : UInt64)))))) S)) ∧ (¬ 0 ≤ (Op.cmpValue (FP.dcmp x0 FP.dconst0) CmpOp.g) → (Q (some (.long (((x4 <<< ((52 : Int32).toInt64 &&& 63)) ||| (FP.d2l (FP.dmul (FP.dsub x2 FP.dconst1) (4841369599423283200 : UInt64)))) ||| (-9223372036854775808 : Int64)))) S)))))) ∧ (¬ 0 ≤ (Op.cmpValue (FP.dcmp x2 FP.dconst1) CmpOp.g) → (vf_n64 (FP.dmul x2 (4841369599423283200 : UInt64)) ∧ ((0 ≤ (Op.cmpValue (FP.dcmp x0 FP.dconst0) CmpOp.g) → (Q (some (.long (FP.d2l (FP.dmul x2 (4841369599423283200 : UInt64))))) S)) ∧ (¬ 0 ≤ (Op.cmpValue (FP.dcmp x0 FP.dconst0) CmpOp.g) → (Q (some (.long ((FP.d2l (FP.dmul x2 (4841369599423283200 : UInt64))) ||| (-9223372036854775808 : Int64)))) S))))))) ∧ (¬ (Op.cmpValue (FP.dcmp x2 FP.dconst0) CmpOp.l) ≤ 0 → ((0 ≤ (Op.cmpValue (FP.dcmp x2 FP.dconst1) CmpOp.g) → ((0 ≤ (Op.cmpValue (FP.dcmp x2 FP.dconst1) CmpOp.g) → (vf_n64 (FP.dsub x2 FP.dconst1) ∧ (vf_n64 (FP.dmul (FP.dsub x2 FP.dconst1) (4841369599423283200 : UInt64)) ∧ ((0 ≤ (Op.cmpValue (FP.dcmp x0 FP.dconst0) CmpOp.g) → (Q (some (.long ((x4 <<< ((52 : Int32).toInt64 &&& 63)) ||| (FP.d2l (FP.dmul (FP.dsub x2 FP.dconst1) (4841369599423283200 : UInt64)))))) S)) ∧ (¬ 0 ≤ (Op.cmpValue (FP.dcmp x0 FP.dconst0) CmpOp.g) → (Q (some (.long (((x4 <<< ((52 : Int32).toInt64 &&& 63)) ||| (FP.d2l (FP.dmul (FP.dsub x2 FP.dconst1) (4841369599423283200 : UInt64)))) ||| (-9223372036854775808 : Int64)))) S)))))) ∧ (¬ 0 ≤ (Op.cmpValue (FP.dcmp x2 FP.dconst1) CmpOp.g) → (vf_n64 (FP.dmul x2 (4841369599423283200 : UInt64)) ∧ ((0 ≤ (Op.cmpValue (FP.dcmp x0 FP.dconst0) CmpOp.g) → (Q (some (.long (FP.d2l (FP.dmul x2 (4841369599423283200 : UInt64))))) S)) ∧ (¬ 0 ≤ (Op.cmpValue (FP.dcmp x0 FP.dconst0) CmpOp.g) → (Q (some (.long ((FP.d2l (FP.dmul x2 (4841369599423283200 : UInt64))) ||| (-9223372036854775808 : Int64)))) S))))))) ∧ (¬ 0 ≤ (Op.cmpValue (FP.dcmp x2 FP.dconst1) CmpOp.g) → (((z_lcmp x4 1) ≤ 0 → ((0 ≤ (Op.cmpValue (FP.dcmp x2 FP.dconst1) CmpOp.g) → (vf_n64 (FP.dsub x2 FP.dconst1) ∧ (vf_n64 (FP.dmul (FP.dsub x2 FP.dconst1) (4841369599423283200 : UInt64)) ∧ ((0 ≤ (Op.cmpValue (FP.dcmp x0 FP.dconst0) CmpOp.g) → (Q (some (.long ((x4 <<< ((52 : Int32).toInt64 &&& 63)) ||| (FP.d2l (FP.dmul (FP.dsub x2 FP.dconst1) (4841369599423283200 : UInt64)))))) S)) ∧ (¬ 0 ≤ (Op.cmpValue (FP.dcmp x0 FP.dconst0) CmpOp.g) → (Q (some (.long (((x4 <<< ((52 : Int32).toInt64 &&& 63)) ||| (FP.d2l (FP.dmul (FP.dsub x2 FP.dconst1) (4841369599423283200 : UInt64)))) ||| (-9223372036854775808 : Int64)))) S)))))) ∧ (¬ 0 ≤ (Op.cmpValue (FP.dcmp x2 FP.dconst1) CmpOp.g) → (vf_n64 (FP.dmul x2 (4841369599423283200 : UInt64)) ∧ ((0 ≤ (Op.cmpValue (FP.dcmp x0 FP.dconst0) CmpOp.g) → (Q (some (.long (FP.d2l (FP.dmul x2 (4841369599423283200 : UInt64))))) S)) ∧ (¬ 0 ≤ (Op.cmpValue (FP.dcmp x0 FP.dconst0) CmpOp.g) → (Q (some (.long ((FP.d2l (FP.dmul x2 (4841369599423283200 : UInt64))) ||| (-9223372036854775808 : Int64)))) S))))))) ∧ (¬ (z_lcmp x4 1) ≤ 0 → (vf_n64 (FP.dmul x2 (4611686018427387904 : UInt64)) ∧ (zG o 970 mdX4_doubleBits 58 [(0, .double x0), (2, .double (FP.dmul x2 (4611686018427387904 : UInt64))), (4, .long (x4 - 1)), (6, .int (x6 + 1))] [] S Q)))))))))) : zG o 970 mdX4_doubleBits 58 [(0, .double x0), (2, .double x2), (4, .long x4), (6, .int x6)] [] S Q := by
  show zJ o mdX4_doubleBits 58 _ [] (970, z_enc o S) 0 0 _
  refine zJ.iload (pc := 58) 3 dX4_doubleBits_58 rfl ?_
  refine zJ.sipush (pc := 60) (v := 1100) dX4_doubleBits_60 (by decide) ?_
  refine zJ.icmp_ge (pc := 63) (tgt := 103) dX4_doubleBits_63 (by decide) (fun c1 => ?_) (fun c1 => ?_)
  · replace h := h.1 c1
    refine zJ.dload_n (pc := 103) 1 dX4_doubleBits_103 rfl rfl ?_
    refine zJ.dconst1 (pc := 104) dX4_doubleBits_104 ?_
    refine zJ.dcmp (pc := 105) dX4_doubleBits_105 ?_
    refine zJ.if_ge (pc := 106) (tgt := 118) dX4_doubleBits_106 (by decide) (fun c2 => ?_) (fun c2 => ?_)
    · replace h := h.1 c2
      refine zJ.lload (pc := 118) 2 dX4_doubleBits_118 rfl ?_
      refine zJ.bipush (pc := 120) (v := 52) dX4_doubleBits_120 (by decide) ?_
      refine zJ.lshl (pc := 122) dX4_doubleBits_122 ?_
      refine zJ.dload_n (pc := 123) 1 dX4_doubleBits_123 rfl rfl ?_
      refine zJ.dconst1 (pc := 124) dX4_doubleBits_124 ?_
      obtain ⟨hq, h⟩ := h
      refine zJ.dsub (pc := 125) dX4_doubleBits_125 hq ?_
      refine zJ.ldc2d (pc := 126) lc_X4_235 dX4_doubleBits_126 ?_
      obtain ⟨hq, h⟩ := h
      refine zJ.dmul (pc := 129) dX4_doubleBits_129 hq ?_
      refine zJ.d2l (pc := 130) dX4_doubleBits_130 ?_
      refine zJ.lor (pc := 131) dX4_doubleBits_131 ?_
      refine zJ.lstore (pc := 132) (lv' := [(6, .long ((x4 <<< ((52 : Int32).toInt64 &&& 63)) ||| (FP.d2l (FP.dmul (FP.dsub x2 FP.dconst1) (4841369599423283200 : UInt64))))), (0, .double x0), (2, .double x2), (4, .long x4)]) dX4_doubleBits_132 (Nat.le_of_ble_eq_true rfl) rfl ?_
      refine zJ.dload_n (pc := 134) 1 dX4_doubleBits_134 rfl rfl ?_
      refine zJ.dconst0 (pc := 135) dX4_doubleBits_135 ?_
      refine zJ.dcmp (pc := 136) dX4_doubleBits_136 ?_
      refine zJ.if_ge (pc := 137) (tgt := 149) dX4_doubleBits_137 (by decide) (fun c3 => ?_) (fun c3 => ?_)
      · replace h := h.1 c3
        refine zJ.lload (pc := 149) 0 dX4_doubleBits_149 rfl ?_
        exact zG.ret (pc := 151) (r := some (.long ((x4 <<< ((52 : Int32).toInt64 &&& 63)) ||| (FP.d2l (FP.dmul (FP.dsub x2 FP.dconst1) (4841369599423283200 : UInt64)))))) ⟨dX4_doubleBits_151, rfl⟩ h
      · replace h := h.2 c3
        refine zJ.lload (pc := 140) 0 dX4_doubleBits_140 rfl ?_
        refine zJ.ldc2 (pc := 142) lc_X4_237 dX4_doubleBits_142 ?_
        refine zJ.lor (pc := 145) dX4_doubleBits_145 ?_
        refine zJ.goto (pc := 146) (tgt := 151) dX4_doubleBits_146 (by decide) ?_
        exact zG.ret (pc := 151) (r := some (.long (((x4 <<< ((52 : Int32).toInt64 &&& 63)) ||| (FP.d2l (FP.dmul (FP.dsub x2 FP.dconst1) (4841369599423283200 : UInt64)))) ||| (-9223372036854775808 : Int64)))) ⟨dX4_doubleBits_151, rfl⟩ h
    · replace h := h.2 c2
      refine zJ.dload_n (pc := 109) 1 dX4_doubleBits_109 rfl rfl ?_
      refine zJ.ldc2d (pc := 110) lc_X4_235 dX4_doubleBits_110 ?_
      obtain ⟨hq, h⟩ := h
      refine zJ.dmul (pc := 113) dX4_doubleBits_113 hq ?_
      refine zJ.d2l (pc := 114) dX4_doubleBits_114 ?_
      refine zJ.goto (pc := 115) (tgt := 132) dX4_doubleBits_115 (by decide) ?_
      refine zJ.lstore (pc := 132) (lv' := [(6, .long (FP.d2l (FP.dmul x2 (4841369599423283200 : UInt64)))), (0, .double x0), (2, .double x2), (4, .long x4)]) dX4_doubleBits_132 (Nat.le_of_ble_eq_true rfl) rfl ?_
      refine zJ.dload_n (pc := 134) 1 dX4_doubleBits_134 rfl rfl ?_
      refine zJ.dconst0 (pc := 135) dX4_doubleBits_135 ?_
      refine zJ.dcmp (pc := 136) dX4_doubleBits_136 ?_
      refine zJ.if_ge (pc := 137) (tgt := 149) dX4_doubleBits_137 (by decide) (fun c4 => ?_) (fun c4 => ?_)
      · replace h := h.1 c4
        refine zJ.lload (pc := 149) 0 dX4_doubleBits_149 rfl ?_
        exact zG.ret (pc := 151) (r := some (.long (FP.d2l (FP.dmul x2 (4841369599423283200 : UInt64))))) ⟨dX4_doubleBits_151, rfl⟩ h
      · replace h := h.2 c4
        refine zJ.lload (pc := 140) 0 dX4_doubleBits_140 rfl ?_
        refine zJ.ldc2 (pc := 142) lc_X4_237 dX4_doubleBits_142 ?_
        refine zJ.lor (pc := 145) dX4_doubleBits_145 ?_
        refine zJ.goto (pc := 146) (tgt := 151) dX4_doubleBits_146 (by decide) ?_
        exact zG.ret (pc := 151) (r := some (.long ((FP.d2l (FP.dmul x2 (4841369599423283200 : UInt64))) ||| (-9223372036854775808 : Int64)))) ⟨dX4_doubleBits_151, rfl⟩ h
  · replace h := h.2 c1
    refine zJ.dload_n (pc := 66) 1 dX4_doubleBits_66 rfl rfl ?_
    refine zJ.dconst0 (pc := 67) dX4_doubleBits_67 ?_
    refine zJ.dcmp (pc := 68) dX4_doubleBits_68 ?_
    refine zJ.if_le (pc := 69) (tgt := 103) dX4_doubleBits_69 (by decide) (fun c5 => ?_) (fun c5 => ?_)
    · replace h := h.1 c5
      refine zJ.dload_n (pc := 103) 1 dX4_doubleBits_103 rfl rfl ?_
      refine zJ.dconst1 (pc := 104) dX4_doubleBits_104 ?_
      refine zJ.dcmp (pc := 105) dX4_doubleBits_105 ?_
      refine zJ.if_ge (pc := 106) (tgt := 118) dX4_doubleBits_106 (by decide) (fun c6 => ?_) (fun c6 => ?_)
      · replace h := h.1 c6
        refine zJ.lload (pc := 118) 2 dX4_doubleBits_118 rfl ?_
        refine zJ.bipush (pc := 120) (v := 52) dX4_doubleBits_120 (by decide) ?_
        refine zJ.lshl (pc := 122) dX4_doubleBits_122 ?_
        refine zJ.dload_n (pc := 123) 1 dX4_doubleBits_123 rfl rfl ?_
        refine zJ.dconst1 (pc := 124) dX4_doubleBits_124 ?_
        obtain ⟨hq, h⟩ := h
        refine zJ.dsub (pc := 125) dX4_doubleBits_125 hq ?_
        refine zJ.ldc2d (pc := 126) lc_X4_235 dX4_doubleBits_126 ?_
        obtain ⟨hq, h⟩ := h
        refine zJ.dmul (pc := 129) dX4_doubleBits_129 hq ?_
        refine zJ.d2l (pc := 130) dX4_doubleBits_130 ?_
        refine zJ.lor (pc := 131) dX4_doubleBits_131 ?_
        refine zJ.lstore (pc := 132) (lv' := [(6, .long ((x4 <<< ((52 : Int32).toInt64 &&& 63)) ||| (FP.d2l (FP.dmul (FP.dsub x2 FP.dconst1) (4841369599423283200 : UInt64))))), (0, .double x0), (2, .double x2), (4, .long x4)]) dX4_doubleBits_132 (Nat.le_of_ble_eq_true rfl) rfl ?_
        refine zJ.dload_n (pc := 134) 1 dX4_doubleBits_134 rfl rfl ?_
        refine zJ.dconst0 (pc := 135) dX4_doubleBits_135 ?_
        refine zJ.dcmp (pc := 136) dX4_doubleBits_136 ?_
        refine zJ.if_ge (pc := 137) (tgt := 149) dX4_doubleBits_137 (by decide) (fun c7 => ?_) (fun c7 => ?_)
        · replace h := h.1 c7
          refine zJ.lload (pc := 149) 0 dX4_doubleBits_149 rfl ?_
          exact zG.ret (pc := 151) (r := some (.long ((x4 <<< ((52 : Int32).toInt64 &&& 63)) ||| (FP.d2l (FP.dmul (FP.dsub x2 FP.dconst1) (4841369599423283200 : UInt64)))))) ⟨dX4_doubleBits_151, rfl⟩ h
        · replace h := h.2 c7
          refine zJ.lload (pc := 140) 0 dX4_doubleBits_140 rfl ?_
          refine zJ.ldc2 (pc := 142) lc_X4_237 dX4_doubleBits_142 ?_
          refine zJ.lor (pc := 145) dX4_doubleBits_145 ?_
          refine zJ.goto (pc := 146) (tgt := 151) dX4_doubleBits_146 (by decide) ?_
          exact zG.ret (pc := 151) (r := some (.long (((x4 <<< ((52 : Int32).toInt64 &&& 63)) ||| (FP.d2l (FP.dmul (FP.dsub x2 FP.dconst1) (4841369599423283200 : UInt64)))) ||| (-9223372036854775808 : Int64)))) ⟨dX4_doubleBits_151, rfl⟩ h
      · replace h := h.2 c6
        refine zJ.dload_n (pc := 109) 1 dX4_doubleBits_109 rfl rfl ?_
        refine zJ.ldc2d (pc := 110) lc_X4_235 dX4_doubleBits_110 ?_
        obtain ⟨hq, h⟩ := h
        refine zJ.dmul (pc := 113) dX4_doubleBits_113 hq ?_
        refine zJ.d2l (pc := 114) dX4_doubleBits_114 ?_
        refine zJ.goto (pc := 115) (tgt := 132) dX4_doubleBits_115 (by decide) ?_
        refine zJ.lstore (pc := 132) (lv' := [(6, .long (FP.d2l (FP.dmul x2 (4841369599423283200 : UInt64)))), (0, .double x0), (2, .double x2), (4, .long x4)]) dX4_doubleBits_132 (Nat.le_of_ble_eq_true rfl) rfl ?_
        refine zJ.dload_n (pc := 134) 1 dX4_doubleBits_134 rfl rfl ?_
        refine zJ.dconst0 (pc := 135) dX4_doubleBits_135 ?_
        refine zJ.dcmp (pc := 136) dX4_doubleBits_136 ?_
        refine zJ.if_ge (pc := 137) (tgt := 149) dX4_doubleBits_137 (by decide) (fun c8 => ?_) (fun c8 => ?_)
        · replace h := h.1 c8
          refine zJ.lload (pc := 149) 0 dX4_doubleBits_149 rfl ?_
          exact zG.ret (pc := 151) (r := some (.long (FP.d2l (FP.dmul x2 (4841369599423283200 : UInt64))))) ⟨dX4_doubleBits_151, rfl⟩ h
        · replace h := h.2 c8
          refine zJ.lload (pc := 140) 0 dX4_doubleBits_140 rfl ?_
          refine zJ.ldc2 (pc := 142) lc_X4_237 dX4_doubleBits_142 ?_
          refine zJ.lor (pc := 145) dX4_doubleBits_145 ?_
          refine zJ.goto (pc := 146) (tgt := 151) dX4_doubleBits_146 (by decide) ?_
          exact zG.ret (pc := 151) (r := some (.long ((FP.d2l (FP.dmul x2 (4841369599423283200 : UInt64))) ||| (-9223372036854775808 : Int64)))) ⟨dX4_doubleBits_151, rfl⟩ h
    · replace h := h.2 c5
      refine zJ.dload_n (pc := 72) 1 dX4_doubleBits_72 rfl rfl ?_
      refine zJ.dconst1 (pc := 73) dX4_doubleBits_73 ?_
      refine zJ.dcmp (pc := 74) dX4_doubleBits_74 ?_
      refine zJ.if_ge (pc := 75) (tgt := 103) dX4_doubleBits_75 (by decide) (fun c9 => ?_) (fun c9 => ?_)
      · replace h := h.1 c9
        refine zJ.dload_n (pc := 103) 1 dX4_doubleBits_103 rfl rfl ?_
        refine zJ.dconst1 (pc := 104) dX4_doubleBits_104 ?_
        refine zJ.dcmp (pc := 105) dX4_doubleBits_105 ?_
        refine zJ.if_ge (pc := 106) (tgt := 118) dX4_doubleBits_106 (by decide) (fun c10 => ?_) (fun c10 => ?_)
        · replace h := h.1 c10
          refine zJ.lload (pc := 118) 2 dX4_doubleBits_118 rfl ?_
          refine zJ.bipush (pc := 120) (v := 52) dX4_doubleBits_120 (by decide) ?_
          refine zJ.lshl (pc := 122) dX4_doubleBits_122 ?_
          refine zJ.dload_n (pc := 123) 1 dX4_doubleBits_123 rfl rfl ?_
          refine zJ.dconst1 (pc := 124) dX4_doubleBits_124 ?_
          obtain ⟨hq, h⟩ := h
          refine zJ.dsub (pc := 125) dX4_doubleBits_125 hq ?_
          refine zJ.ldc2d (pc := 126) lc_X4_235 dX4_doubleBits_126 ?_
          obtain ⟨hq, h⟩ := h
          refine zJ.dmul (pc := 129) dX4_doubleBits_129 hq ?_
          refine zJ.d2l (pc := 130) dX4_doubleBits_130 ?_
          refine zJ.lor (pc := 131) dX4_doubleBits_131 ?_
          refine zJ.lstore (pc := 132) (lv' := [(6, .long ((x4 <<< ((52 : Int32).toInt64 &&& 63)) ||| (FP.d2l (FP.dmul (FP.dsub x2 FP.dconst1) (4841369599423283200 : UInt64))))), (0, .double x0), (2, .double x2), (4, .long x4)]) dX4_doubleBits_132 (Nat.le_of_ble_eq_true rfl) rfl ?_
          refine zJ.dload_n (pc := 134) 1 dX4_doubleBits_134 rfl rfl ?_
          refine zJ.dconst0 (pc := 135) dX4_doubleBits_135 ?_
          refine zJ.dcmp (pc := 136) dX4_doubleBits_136 ?_
          refine zJ.if_ge (pc := 137) (tgt := 149) dX4_doubleBits_137 (by decide) (fun c11 => ?_) (fun c11 => ?_)
          · replace h := h.1 c11
            refine zJ.lload (pc := 149) 0 dX4_doubleBits_149 rfl ?_
            exact zG.ret (pc := 151) (r := some (.long ((x4 <<< ((52 : Int32).toInt64 &&& 63)) ||| (FP.d2l (FP.dmul (FP.dsub x2 FP.dconst1) (4841369599423283200 : UInt64)))))) ⟨dX4_doubleBits_151, rfl⟩ h
          · replace h := h.2 c11
            refine zJ.lload (pc := 140) 0 dX4_doubleBits_140 rfl ?_
            refine zJ.ldc2 (pc := 142) lc_X4_237 dX4_doubleBits_142 ?_
            refine zJ.lor (pc := 145) dX4_doubleBits_145 ?_
            refine zJ.goto (pc := 146) (tgt := 151) dX4_doubleBits_146 (by decide) ?_
            exact zG.ret (pc := 151) (r := some (.long (((x4 <<< ((52 : Int32).toInt64 &&& 63)) ||| (FP.d2l (FP.dmul (FP.dsub x2 FP.dconst1) (4841369599423283200 : UInt64)))) ||| (-9223372036854775808 : Int64)))) ⟨dX4_doubleBits_151, rfl⟩ h
        · replace h := h.2 c10
          refine zJ.dload_n (pc := 109) 1 dX4_doubleBits_109 rfl rfl ?_
          refine zJ.ldc2d (pc := 110) lc_X4_235 dX4_doubleBits_110 ?_
          obtain ⟨hq, h⟩ := h
          refine zJ.dmul (pc := 113) dX4_doubleBits_113 hq ?_
          refine zJ.d2l (pc := 114) dX4_doubleBits_114 ?_
          refine zJ.goto (pc := 115) (tgt := 132) dX4_doubleBits_115 (by decide) ?_
          refine zJ.lstore (pc := 132) (lv' := [(6, .long (FP.d2l (FP.dmul x2 (4841369599423283200 : UInt64)))), (0, .double x0), (2, .double x2), (4, .long x4)]) dX4_doubleBits_132 (Nat.le_of_ble_eq_true rfl) rfl ?_
          refine zJ.dload_n (pc := 134) 1 dX4_doubleBits_134 rfl rfl ?_
          refine zJ.dconst0 (pc := 135) dX4_doubleBits_135 ?_
          refine zJ.dcmp (pc := 136) dX4_doubleBits_136 ?_
          refine zJ.if_ge (pc := 137) (tgt := 149) dX4_doubleBits_137 (by decide) (fun c12 => ?_) (fun c12 => ?_)
          · replace h := h.1 c12
            refine zJ.lload (pc := 149) 0 dX4_doubleBits_149 rfl ?_
            exact zG.ret (pc := 151) (r := some (.long (FP.d2l (FP.dmul x2 (4841369599423283200 : UInt64))))) ⟨dX4_doubleBits_151, rfl⟩ h
          · replace h := h.2 c12
            refine zJ.lload (pc := 140) 0 dX4_doubleBits_140 rfl ?_
            refine zJ.ldc2 (pc := 142) lc_X4_237 dX4_doubleBits_142 ?_
            refine zJ.lor (pc := 145) dX4_doubleBits_145 ?_
            refine zJ.goto (pc := 146) (tgt := 151) dX4_doubleBits_146 (by decide) ?_
            exact zG.ret (pc := 151) (r := some (.long ((FP.d2l (FP.dmul x2 (4841369599423283200 : UInt64))) ||| (-9223372036854775808 : Int64)))) ⟨dX4_doubleBits_151, rfl⟩ h
      · replace h := h.2 c9
        refine zJ.lload (pc := 78) 2 dX4_doubleBits_78 rfl ?_
        refine zJ.lconst (pc := 80) (v := 1) dX4_doubleBits_80 (by decide) ?_
        refine zJ.lcmp (pc := 81) dX4_doubleBits_81 ?_
        refine zJ.if_le (pc := 82) (tgt := 103) dX4_doubleBits_82 (by decide) (fun c13 => ?_) (fun c13 => ?_)
        · replace h := h.1 c13
          refine zJ.dload_n (pc := 103) 1 dX4_doubleBits_103 rfl rfl ?_
          refine zJ.dconst1 (pc := 104) dX4_doubleBits_104 ?_
          refine zJ.dcmp (pc := 105) dX4_doubleBits_105 ?_
          refine zJ.if_ge (pc := 106) (tgt := 118) dX4_doubleBits_106 (by decide) (fun c14 => ?_) (fun c14 => ?_)
          · replace h := h.1 c14
            refine zJ.lload (pc := 118) 2 dX4_doubleBits_118 rfl ?_
            refine zJ.bipush (pc := 120) (v := 52) dX4_doubleBits_120 (by decide) ?_
            refine zJ.lshl (pc := 122) dX4_doubleBits_122 ?_
            refine zJ.dload_n (pc := 123) 1 dX4_doubleBits_123 rfl rfl ?_
            refine zJ.dconst1 (pc := 124) dX4_doubleBits_124 ?_
            obtain ⟨hq, h⟩ := h
            refine zJ.dsub (pc := 125) dX4_doubleBits_125 hq ?_
            refine zJ.ldc2d (pc := 126) lc_X4_235 dX4_doubleBits_126 ?_
            obtain ⟨hq, h⟩ := h
            refine zJ.dmul (pc := 129) dX4_doubleBits_129 hq ?_
            refine zJ.d2l (pc := 130) dX4_doubleBits_130 ?_
            refine zJ.lor (pc := 131) dX4_doubleBits_131 ?_
            refine zJ.lstore (pc := 132) (lv' := [(6, .long ((x4 <<< ((52 : Int32).toInt64 &&& 63)) ||| (FP.d2l (FP.dmul (FP.dsub x2 FP.dconst1) (4841369599423283200 : UInt64))))), (0, .double x0), (2, .double x2), (4, .long x4)]) dX4_doubleBits_132 (Nat.le_of_ble_eq_true rfl) rfl ?_
            refine zJ.dload_n (pc := 134) 1 dX4_doubleBits_134 rfl rfl ?_
            refine zJ.dconst0 (pc := 135) dX4_doubleBits_135 ?_
            refine zJ.dcmp (pc := 136) dX4_doubleBits_136 ?_
            refine zJ.if_ge (pc := 137) (tgt := 149) dX4_doubleBits_137 (by decide) (fun c15 => ?_) (fun c15 => ?_)
            · replace h := h.1 c15
              refine zJ.lload (pc := 149) 0 dX4_doubleBits_149 rfl ?_
              exact zG.ret (pc := 151) (r := some (.long ((x4 <<< ((52 : Int32).toInt64 &&& 63)) ||| (FP.d2l (FP.dmul (FP.dsub x2 FP.dconst1) (4841369599423283200 : UInt64)))))) ⟨dX4_doubleBits_151, rfl⟩ h
            · replace h := h.2 c15
              refine zJ.lload (pc := 140) 0 dX4_doubleBits_140 rfl ?_
              refine zJ.ldc2 (pc := 142) lc_X4_237 dX4_doubleBits_142 ?_
              refine zJ.lor (pc := 145) dX4_doubleBits_145 ?_
              refine zJ.goto (pc := 146) (tgt := 151) dX4_doubleBits_146 (by decide) ?_
              exact zG.ret (pc := 151) (r := some (.long (((x4 <<< ((52 : Int32).toInt64 &&& 63)) ||| (FP.d2l (FP.dmul (FP.dsub x2 FP.dconst1) (4841369599423283200 : UInt64)))) ||| (-9223372036854775808 : Int64)))) ⟨dX4_doubleBits_151, rfl⟩ h
          · replace h := h.2 c14
            refine zJ.dload_n (pc := 109) 1 dX4_doubleBits_109 rfl rfl ?_
            refine zJ.ldc2d (pc := 110) lc_X4_235 dX4_doubleBits_110 ?_
            obtain ⟨hq, h⟩ := h
            refine zJ.dmul (pc := 113) dX4_doubleBits_113 hq ?_
            refine zJ.d2l (pc := 114) dX4_doubleBits_114 ?_
            refine zJ.goto (pc := 115) (tgt := 132) dX4_doubleBits_115 (by decide) ?_
            refine zJ.lstore (pc := 132) (lv' := [(6, .long (FP.d2l (FP.dmul x2 (4841369599423283200 : UInt64)))), (0, .double x0), (2, .double x2), (4, .long x4)]) dX4_doubleBits_132 (Nat.le_of_ble_eq_true rfl) rfl ?_
            refine zJ.dload_n (pc := 134) 1 dX4_doubleBits_134 rfl rfl ?_
            refine zJ.dconst0 (pc := 135) dX4_doubleBits_135 ?_
            refine zJ.dcmp (pc := 136) dX4_doubleBits_136 ?_
            refine zJ.if_ge (pc := 137) (tgt := 149) dX4_doubleBits_137 (by decide) (fun c16 => ?_) (fun c16 => ?_)
            · replace h := h.1 c16
              refine zJ.lload (pc := 149) 0 dX4_doubleBits_149 rfl ?_
              exact zG.ret (pc := 151) (r := some (.long (FP.d2l (FP.dmul x2 (4841369599423283200 : UInt64))))) ⟨dX4_doubleBits_151, rfl⟩ h
            · replace h := h.2 c16
              refine zJ.lload (pc := 140) 0 dX4_doubleBits_140 rfl ?_
              refine zJ.ldc2 (pc := 142) lc_X4_237 dX4_doubleBits_142 ?_
              refine zJ.lor (pc := 145) dX4_doubleBits_145 ?_
              refine zJ.goto (pc := 146) (tgt := 151) dX4_doubleBits_146 (by decide) ?_
              exact zG.ret (pc := 151) (r := some (.long ((FP.d2l (FP.dmul x2 (4841369599423283200 : UInt64))) ||| (-9223372036854775808 : Int64)))) ⟨dX4_doubleBits_151, rfl⟩ h
        · replace h := h.2 c13
          refine zJ.dload_n (pc := 85) 1 dX4_doubleBits_85 rfl rfl ?_
          refine zJ.ldc2d (pc := 86) lc_X4_231 dX4_doubleBits_86 ?_
          obtain ⟨hq, h⟩ := h
          refine zJ.dmul (pc := 89) dX4_doubleBits_89 hq ?_
          refine zJ.dstore_n (pc := 90) (lv' := [(2, .double (FP.dmul x2 (4611686018427387904 : UInt64))), (0, .double x0), (4, .long x4), (6, .int x6)]) dX4_doubleBits_90 rfl (Nat.le_of_ble_eq_true rfl) rfl ?_
          refine zJ.lload (pc := 91) 2 dX4_doubleBits_91 rfl ?_
          refine zJ.lconst (pc := 93) (v := 1) dX4_doubleBits_93 (by decide) ?_
          refine zJ.lsub (pc := 94) dX4_doubleBits_94 ?_
          refine zJ.lstore (pc := 95) (lv' := [(4, .long (x4 - 1)), (2, .double (FP.dmul x2 (4611686018427387904 : UInt64))), (0, .double x0), (6, .int x6)]) dX4_doubleBits_95 (Nat.le_of_ble_eq_true rfl) rfl ?_
          refine zJ.iinc (pc := 97) (k := 3) (lv' := [(6, .int (x6 + 1)), (4, .long (x4 - 1)), (2, .double (FP.dmul x2 (4611686018427387904 : UInt64))), (0, .double x0)]) dX4_doubleBits_97 rfl rfl (Nat.le_of_ble_eq_true rfl) rfl ?_
          refine zJ.goto (pc := 100) (tgt := 58) dX4_doubleBits_100 (by decide) ?_
          exact zJ.sub [3, 2, 1, 0] rfl h
