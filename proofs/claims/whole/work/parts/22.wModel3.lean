set_option maxRecDepth 100000 in
set_option maxHeartbeats 4000000 in
theorem w_X5_numberOf_0 (o : zW) (x1 : Int32) (S : zS) (Q : Option Value → zS → Prop) (h : (¬ x1 = 1 → ((200 ≤ (S.1 (40, 0, 0) 7) → (Q (some (.int (S.1 (40, 0, 0) 7))) (sI S (40, 0, 0) 7 ((S.1 (40, 0, 0) 7) + 1)))) ∧ (¬ 200 ≤ (S.1 (40, 0, 0) 7) → (vp_in (S.1 (40, 0, 0) 7) 200 ∧ (∀ S3 : zS, S3 = (sI (sI S (40, 0, 0) 7 ((S.1 (40, 0, 0) 7) + 1)) (41, 0, 0) ((S.1 (40, 0, 0) 7).toNatClampNeg) (-1)) → (vp_in (S.1 (40, 0, 0) 7) 200 ∧ (∀ y4 : Int32, y4 = ((sI S3 (42, 0, 0) ((S.1 (40, 0, 0) 7).toNatClampNeg) (-1)).1 (40, 0, 0) 9) → (vp_in (S.1 (40, 0, 0) 7) 200 ∧ (∀ S5 : zS, S5 = (sI (sI S3 (42, 0, 0) ((S.1 (40, 0, 0) 7).toNatClampNeg) (-1)) (43, 0, 0) ((S.1 (40, 0, 0) 7).toNatClampNeg) y4) → (Q (some (.int (S.1 (40, 0, 0) 7))) S5)))))))))) ∧ (x1 = 1 → (Q (some (.int (-1))) S))) : zG o 994 mdX5_numberOf 0 [(0, .ref (z_adr o (23, 0, 0))), (1, .int x1)] [] S Q := by
  show zJ o mdX5_numberOf 0 _ [] (994, z_enc o S) 0 0 _
  refine zJ.iload_n (pc := 0) 1 dX5_numberOf_0 rfl rfl ?_
  refine zJ.iconst (pc := 1) (v := 1) dX5_numberOf_1 (by decide) ?_
  refine zJ.icmp_ne (pc := 2) (tgt := 7) dX5_numberOf_2 (by decide) (fun c1 => ?_) (fun c1 => ?_)
  · replace h := h.1 c1
    refine zJ.aload_n (pc := 7) 0 dX5_numberOf_7 rfl rfl ?_
    refine zE.getV (pc := 8) (fd_23_16 o) ok_23 kiX5 (Nat.le_of_ble_eq_true rfl) fl_X5_58 dX5_numberOf_8 ?_
    refine zJ.bipush (pc := 11) (v := 7) dX5_numberOf_11 (by decide) ?_
    refine zE.aldI (pc := 13) (ia_40 o) ok_40 (by unfold vp_in; decide) dX5_numberOf_13 ?_
    refine zJ.istore_n (pc := 14) (lv' := [(2, .int (S.1 (40, 0, 0) 7)), (0, .ref (z_adr o (23, 0, 0))), (1, .int x1)]) dX5_numberOf_14 rfl (Nat.le_of_ble_eq_true rfl) rfl ?_
    refine zJ.aload_n (pc := 15) 1 dX5_numberOf_15 rfl rfl ?_
    refine zE.getV (pc := 16) (fd_23_16 o) ok_23 kiX5 (Nat.le_of_ble_eq_true rfl) fl_X5_58 dX5_numberOf_16 ?_
    refine zJ.bipush (pc := 19) (v := 7) dX5_numberOf_19 (by decide) ?_
    refine zJ.dup2_11 (pc := 21) dX5_numberOf_21 rfl rfl ?_
    refine zE.aldI (pc := 22) (ia_40 o) ok_40 (by unfold vp_in; decide) dX5_numberOf_22 ?_
    refine zJ.iconst (pc := 23) (v := 1) dX5_numberOf_23 (by decide) ?_
    refine zJ.iadd (pc := 24) dX5_numberOf_24 ?_
    refine zE.astI (pc := 25) (ia_40 o) ok_40 (by unfold vp_in; decide) dX5_numberOf_25 ?_
    refine zJ.iload_n (pc := 26) 0 dX5_numberOf_26 rfl rfl ?_
    refine zJ.sipush (pc := 27) (v := 200) dX5_numberOf_27 (by decide) ?_
    refine zJ.icmp_ge (pc := 30) (tgt := 60) dX5_numberOf_30 (by decide) (fun c2 => ?_) (fun c2 => ?_)
    · replace h := h.1 c2
      refine zJ.iload_n (pc := 60) 0 dX5_numberOf_60 rfl rfl ?_
      exact zG.ret (pc := 61) (r := some (.int (S.1 (40, 0, 0) 7))) ⟨dX5_numberOf_61, _, rfl, rfl⟩ h
    · replace h := h.2 c2
      refine zJ.aload_n (pc := 33) 1 dX5_numberOf_33 rfl rfl ?_
      refine zE.getV (pc := 34) (fd_23_17 o) ok_23 kiX5 (Nat.le_of_ble_eq_true rfl) fl_X5_61 dX5_numberOf_34 ?_
      refine zJ.iload_n (pc := 37) 0 dX5_numberOf_37 rfl rfl ?_
      refine zJ.iconst (pc := 38) (v := (-1)) dX5_numberOf_38 (by decide) ?_
      obtain ⟨hq, h⟩ := h
      refine zE.astI (pc := 39) (ia_41 o) ok_41 hq dX5_numberOf_39 ?_
      refine zJ.nameS (fun S3 hyS3 => ?_)
      replace h := h S3 hyS3
      refine zJ.aload_n (pc := 40) 1 dX5_numberOf_40 rfl rfl ?_
      refine zE.getV (pc := 41) (fd_23_18 o) ok_23 kiX5 (Nat.le_of_ble_eq_true rfl) fl_X5_64 dX5_numberOf_41 ?_
      refine zJ.iload_n (pc := 44) 0 dX5_numberOf_44 rfl rfl ?_
      refine zJ.iconst (pc := 45) (v := (-1)) dX5_numberOf_45 (by decide) ?_
      obtain ⟨hq, h⟩ := h
      refine zE.astI (pc := 46) (ia_42 o) ok_42 hq dX5_numberOf_46 ?_
      refine zJ.aload_n (pc := 47) 1 dX5_numberOf_47 rfl rfl ?_
      refine zE.getV (pc := 48) (fd_23_19 o) ok_23 kiX5 (Nat.le_of_ble_eq_true rfl) fl_X5_67 dX5_numberOf_48 ?_
      refine zJ.iload_n (pc := 51) 0 dX5_numberOf_51 rfl rfl ?_
      refine zJ.aload_n (pc := 52) 1 dX5_numberOf_52 rfl rfl ?_
      refine zE.getV (pc := 53) (fd_23_16 o) ok_23 kiX5 (Nat.le_of_ble_eq_true rfl) fl_X5_58 dX5_numberOf_53 ?_
      refine zJ.bipush (pc := 56) (v := 9) dX5_numberOf_56 (by decide) ?_
      refine zE.aldI (pc := 58) (ia_40 o) ok_40 (by unfold vp_in; decide) dX5_numberOf_58 ?_
      refine zJ.topi (fun y4 hyy4 => ?_)
      replace h := h y4 hyy4
      obtain ⟨hq, h⟩ := h
      refine zE.astI (pc := 59) (ia_43 o) ok_43 hq dX5_numberOf_59 ?_
      refine zJ.nameS (fun S5 hyS5 => ?_)
      replace h := h S5 hyS5
      refine zJ.iload_n (pc := 60) 0 dX5_numberOf_60 rfl rfl ?_
      exact zG.ret (pc := 61) (r := some (.int (S.1 (40, 0, 0) 7))) ⟨dX5_numberOf_61, _, rfl, rfl⟩ h
  · replace h := h.2 c1
    refine zJ.iconst (pc := 5) (v := (-1)) dX5_numberOf_5 (by decide) ?_
    exact zG.ret (pc := 6) (r := some (.int (-1))) ⟨dX5_numberOf_6, _, rfl, rfl⟩ h
set_option maxRecDepth 100000 in
set_option maxHeartbeats 4000000 in
theorem w_X5_asks_0 (o : zW) (x1 : Int32) (x2 : Int32) (x3 : Int32) (x4 : Int32) (S : zS) (Q : Option Value → zS → Prop) (h : vp_in x1 16 ∧ (vp_in ((4 * x1) + (S.1 (34, 0, 0) x1.toNatClampNeg)) 64 ∧ (∀ S1 : zS, S1 = (sI S (35, 0, 0) (((4 * x1) + (S.1 (34, 0, 0) x1.toNatClampNeg)).toNatClampNeg) x3) → (vp_in ((4 * x1) + (S.1 (34, 0, 0) x1.toNatClampNeg)) 64 ∧ (∀ S2 : zS, S2 = (sI S1 (36, 0, 0) (((4 * x1) + (S.1 (34, 0, 0) x1.toNatClampNeg)).toNatClampNeg) x4) → (vp_in ((4 * x1) + (S.1 (34, 0, 0) x1.toNatClampNeg)) 64 ∧ (∀ S3 : zS, S3 = (sI S2 (37, 0, 0) (((4 * x1) + (S.1 (34, 0, 0) x1.toNatClampNeg)).toNatClampNeg) (S2.1 (40, 0, 0) 9)) → (zGi o 994 mdX5_numberOf [.ref (z_adr o (23, 0, 0)), .int x2] S3 (fun r5 S6 => vp_in ((4 * x1) + (S.1 (34, 0, 0) x1.toNatClampNeg)) 64 ∧ (∀ S7 : zS, S7 = (sI S6 (38, 0, 0) (((4 * x1) + (S.1 (34, 0, 0) x1.toNatClampNeg)).toNatClampNeg) r5) → (vp_in x1 16 ∧ (vp_in x1 16 ∧ (∀ S8 : zS, S8 = (sI S7 (34, 0, 0) (x1.toNatClampNeg) ((S7.1 (34, 0, 0) x1.toNatClampNeg) + 1)) → (Q none S8)))))))))))))) : zG o 994 mdX5_asks 0 [(0, .ref (z_adr o (23, 0, 0))), (1, .int x1), (2, .int x2), (3, .int x3), (4, .int x4)] [] S Q := by
  show zJ o mdX5_asks 0 _ [] (994, z_enc o S) 0 0 _
  refine zJ.iconst (pc := 0) (v := 4) dX5_asks_0 (by decide) ?_
  refine zJ.iload_n (pc := 1) 1 dX5_asks_1 rfl rfl ?_
  refine zJ.imul (pc := 2) dX5_asks_2 ?_
  refine zJ.aload_n (pc := 3) 0 dX5_asks_3 rfl rfl ?_
  refine zE.getV (pc := 4) (fd_23_10 o) ok_23 kiX5 (Nat.le_of_ble_eq_true rfl) fl_X5_40 dX5_asks_4 ?_
  refine zJ.iload_n (pc := 7) 1 dX5_asks_7 rfl rfl ?_
  obtain ⟨hq, h⟩ := h
  refine zE.aldI (pc := 8) (ia_34 o) ok_34 hq dX5_asks_8 ?_
  refine zJ.iadd (pc := 9) dX5_asks_9 ?_
  refine zJ.istore (pc := 10) (lv' := [(5, .int ((4 * x1) + (S.1 (34, 0, 0) x1.toNatClampNeg))), (0, .ref (z_adr o (23, 0, 0))), (1, .int x1), (2, .int x2), (3, .int x3), (4, .int x4)]) dX5_asks_10 (Nat.le_of_ble_eq_true rfl) rfl ?_
  refine zJ.aload_n (pc := 12) 1 dX5_asks_12 rfl rfl ?_
  refine zE.getV (pc := 13) (fd_23_11 o) ok_23 kiX5 (Nat.le_of_ble_eq_true rfl) fl_X5_43 dX5_asks_13 ?_
  refine zJ.iload (pc := 16) 0 dX5_asks_16 rfl ?_
  refine zJ.iload_n (pc := 18) 4 dX5_asks_18 rfl rfl ?_
  obtain ⟨hq, h⟩ := h
  refine zE.astI (pc := 19) (ia_35 o) ok_35 hq dX5_asks_19 ?_
  refine zJ.nameS (fun S1 hyS1 => ?_)
  replace h := h S1 hyS1
  refine zJ.aload_n (pc := 20) 1 dX5_asks_20 rfl rfl ?_
  refine zE.getV (pc := 21) (fd_23_12 o) ok_23 kiX5 (Nat.le_of_ble_eq_true rfl) fl_X5_46 dX5_asks_21 ?_
  refine zJ.iload (pc := 24) 0 dX5_asks_24 rfl ?_
  refine zJ.iload (pc := 26) 5 dX5_asks_26 rfl ?_
  obtain ⟨hq, h⟩ := h
  refine zE.astI (pc := 28) (ia_36 o) ok_36 hq dX5_asks_28 ?_
  refine zJ.nameS (fun S2 hyS2 => ?_)
  replace h := h S2 hyS2
  refine zJ.aload_n (pc := 29) 1 dX5_asks_29 rfl rfl ?_
  refine zE.getV (pc := 30) (fd_23_13 o) ok_23 kiX5 (Nat.le_of_ble_eq_true rfl) fl_X5_49 dX5_asks_30 ?_
  refine zJ.iload (pc := 33) 0 dX5_asks_33 rfl ?_
  refine zJ.aload_n (pc := 35) 1 dX5_asks_35 rfl rfl ?_
  refine zE.getV (pc := 36) (fd_23_16 o) ok_23 kiX5 (Nat.le_of_ble_eq_true rfl) fl_X5_58 dX5_asks_36 ?_
  refine zJ.bipush (pc := 39) (v := 9) dX5_asks_39 (by decide) ?_
  refine zE.aldI (pc := 41) (ia_40 o) ok_40 (by unfold vp_in; decide) dX5_asks_41 ?_
  obtain ⟨hq, h⟩ := h
  refine zE.astI (pc := 42) (ia_37 o) ok_37 hq dX5_asks_42 ?_
  refine zJ.nameS (fun S3 hyS3 => ?_)
  replace h := h S3 hyS3
  refine zJ.aload_n (pc := 43) 1 dX5_asks_43 rfl rfl ?_
  refine zE.getV (pc := 44) (fd_23_14 o) ok_23 kiX5 (Nat.le_of_ble_eq_true rfl) fl_X5_52 dX5_asks_44 ?_
  refine zJ.iload (pc := 47) 0 dX5_asks_47 rfl ?_
  refine zJ.aload_n (pc := 49) 1 dX5_asks_49 rfl rfl ?_
  refine zJ.iload_n (pc := 50) 3 dX5_asks_50 rfl rfl ?_
  refine zG.callVi (d := mdX5_asks) (pc := 51) [.int x2] [.int ((4 * x1) + (S.1 (34, 0, 0) x1.toNatClampNeg)), .ref (z_adr o (38, 0, 0))] (ob_23 o) ok_23 rfl dX5_asks_51 ⟨(cb_X5_numberOf).1, (cb_X5_numberOf).2, (Nat.le_of_ble_eq_true rfl), (Nat.le_of_ble_eq_true rfl)⟩ ml_X5_165 ci_X5_numberOf cv_X5_numberOf rfl (Nat.le_of_ble_eq_true rfl) (Nat.le_of_ble_eq_true rfl) rfl h (fun r5 S6 h2 => ?_)
  replace h := h2
  clear h2
  obtain ⟨hq, h⟩ := h
  refine zE.astI (pc := 54) (ia_38 o) ok_38 hq dX5_asks_54 ?_
  refine zJ.nameS (fun S7 hyS7 => ?_)
  replace h := h S7 hyS7
  refine zJ.aload_n (pc := 55) 1 dX5_asks_55 rfl rfl ?_
  refine zE.getV (pc := 56) (fd_23_10 o) ok_23 kiX5 (Nat.le_of_ble_eq_true rfl) fl_X5_40 dX5_asks_56 ?_
  refine zJ.iload_n (pc := 59) 2 dX5_asks_59 rfl rfl ?_
  refine zJ.dup2_11 (pc := 60) dX5_asks_60 rfl rfl ?_
  obtain ⟨hq, h⟩ := h
  refine zE.aldI (pc := 61) (ia_34 o) ok_34 hq dX5_asks_61 ?_
  refine zJ.iconst (pc := 62) (v := 1) dX5_asks_62 (by decide) ?_
  refine zJ.iadd (pc := 63) dX5_asks_63 ?_
  obtain ⟨hq, h⟩ := h
  refine zE.astI (pc := 64) (ia_34 o) ok_34 hq dX5_asks_64 ?_
  refine zJ.nameS (fun S8 hyS8 => ?_)
  replace h := h S8 hyS8
  exact zG.ret (pc := 65) (r := none) ⟨dX5_asks_65, rfl⟩ h
set_option maxRecDepth 100000 in
set_option maxHeartbeats 4000000 in
theorem w_X5_does_0 (o : zW) (x1 : Int32) (x2 : Int32) (x3 : Int32) (x4 : Int32) (S : zS) (Q : Option Value → zS → Prop) (h : zGi o 994 mdX5_numberOf [.ref (z_adr o (23, 0, 0)), .int x2] S (fun r2 S3 => (¬ x2 = 1 → (zGv o 994 mdX5_getsItem [.ref (z_adr o (23, 0, 0)), .int r2, .int x1, .int x3, .int (S3.1 (40, 0, 0) 9)] S3 (fun S7 => Q none S7))) ∧ (x2 = 1 → (zGv o 994 mdX5_laysIn [.ref (z_adr o (23, 0, 0)), .int x1, .int x3, .int x4] S3 (fun S10 => Q none S10))))) : zG o 994 mdX5_does 0 [(0, .ref (z_adr o (23, 0, 0))), (1, .int x1), (2, .int x2), (3, .int x3), (4, .int x4)] [] S Q := by
  show zJ o mdX5_does 0 _ [] (994, z_enc o S) 0 0 _
  refine zJ.aload_n (pc := 0) 0 dX5_does_0 rfl rfl ?_
  refine zJ.iload_n (pc := 1) 2 dX5_does_1 rfl rfl ?_
  refine zG.callVi (d := mdX5_does) (pc := 2) [.int x2] [] (ob_23 o) ok_23 rfl dX5_does_2 ⟨(cb_X5_numberOf).1, (cb_X5_numberOf).2, (Nat.le_of_ble_eq_true rfl), (Nat.le_of_ble_eq_true rfl)⟩ ml_X5_165 ci_X5_numberOf cv_X5_numberOf rfl (Nat.le_of_ble_eq_true rfl) (Nat.le_of_ble_eq_true rfl) rfl h (fun r2 S3 h2 => ?_)
  replace h := h2
  clear h2
  refine zJ.istore (pc := 5) (lv' := [(5, .int r2), (0, .ref (z_adr o (23, 0, 0))), (1, .int x1), (2, .int x2), (3, .int x3), (4, .int x4)]) dX5_does_5 (Nat.le_of_ble_eq_true rfl) rfl ?_
  refine zJ.iload_n (pc := 7) 3 dX5_does_7 rfl rfl ?_
  refine zJ.iconst (pc := 8) (v := 1) dX5_does_8 (by decide) ?_
  refine zJ.icmp_ne (pc := 9) (tgt := 23) dX5_does_9 (by decide) (fun c4 => ?_) (fun c4 => ?_)
  · replace h := h.1 c4
    refine zJ.aload_n (pc := 23) 1 dX5_does_23 rfl rfl ?_
    refine zJ.iload (pc := 24) 0 dX5_does_24 rfl ?_
    refine zJ.iload_n (pc := 26) 2 dX5_does_26 rfl rfl ?_
    refine zJ.iload_n (pc := 27) 4 dX5_does_27 rfl rfl ?_
    refine zJ.aload_n (pc := 28) 1 dX5_does_28 rfl rfl ?_
    refine zE.getV (pc := 29) (fd_23_16 o) ok_23 kiX5 (Nat.le_of_ble_eq_true rfl) fl_X5_58 dX5_does_29 ?_
    refine zJ.bipush (pc := 32) (v := 9) dX5_does_32 (by decide) ?_
    refine zE.aldI (pc := 34) (ia_40 o) ok_40 (by unfold vp_in; decide) dX5_does_34 ?_
    refine zG.callVv (d := mdX5_does) (pc := 35) [.int r2, .int x1, .int x3, .int (S3.1 (40, 0, 0) 9)] [] (ob_23 o) ok_23 rfl dX5_does_35 ⟨(cb_X5_getsItem).1, (cb_X5_getsItem).2, (Nat.le_of_ble_eq_true rfl), (Nat.le_of_ble_eq_true rfl)⟩ ml_X5_158 ci_X5_getsItem cv_X5_getsItem rfl (Nat.le_of_ble_eq_true rfl) (Nat.le_of_ble_eq_true rfl) rfl h (fun S7 h2 => ?_)
    replace h := h2
    clear h2
    exact zG.ret (pc := 38) (r := none) ⟨dX5_does_38, rfl⟩ h
  · replace h := h.2 c4
    refine zJ.aload_n (pc := 12) 1 dX5_does_12 rfl rfl ?_
    refine zJ.iload_n (pc := 13) 2 dX5_does_13 rfl rfl ?_
    refine zJ.iload_n (pc := 14) 4 dX5_does_14 rfl rfl ?_
    refine zJ.iload (pc := 15) 5 dX5_does_15 rfl ?_
    refine zG.callVv (d := mdX5_does) (pc := 17) [.int x1, .int x3, .int x4] [] (ob_23 o) ok_23 rfl dX5_does_17 ⟨(cb_X5_laysIn).1, (cb_X5_laysIn).2, (Nat.le_of_ble_eq_true rfl), (Nat.le_of_ble_eq_true rfl)⟩ ml_X5_154 ci_X5_laysIn cv_X5_laysIn rfl (Nat.le_of_ble_eq_true rfl) (Nat.le_of_ble_eq_true rfl) rfl h (fun S10 h2 => ?_)
    replace h := h2
    clear h2
    refine zJ.goto (pc := 20) (tgt := 38) dX5_does_20 (by decide) ?_
    exact zG.ret (pc := 38) (r := none) ⟨dX5_does_38, rfl⟩ h
set_option maxRecDepth 100000 in
set_option maxHeartbeats 4000000 in
theorem w_X5_counted_0 (o : zW) (x1 : Int32) (x2 : UInt32) (S : zS) (Q : Option Value → zS → Prop) (h : vp_in x1 10 ∧ (vp_in x1 10 ∧ (∀ S1 : zS, S1 = (sI S (40, 0, 0) (x1.toNatClampNeg) ((S.1 (40, 0, 0) x1.toNatClampNeg) + 1)) → (vf_n32 (FP.fadd (S1.2.2 (23, 0, 0) 20) x2) ∧ (Q none (sF S1 (23, 0, 0) 20 (FP.fadd (S1.2.2 (23, 0, 0) 20) x2))))))) : zG o 994 mdX5_counted 0 [(0, .ref (z_adr o (23, 0, 0))), (1, .int x1), (2, .float x2)] [] S Q := by
  show zJ o mdX5_counted 0 _ [] (994, z_enc o S) 0 0 _
  refine zJ.aload_n (pc := 0) 0 dX5_counted_0 rfl rfl ?_
  refine zE.getV (pc := 1) (fd_23_16 o) ok_23 kiX5 (Nat.le_of_ble_eq_true rfl) fl_X5_58 dX5_counted_1 ?_
  refine zJ.iload_n (pc := 4) 1 dX5_counted_4 rfl rfl ?_
  refine zJ.dup2_11 (pc := 5) dX5_counted_5 rfl rfl ?_
  obtain ⟨hq, h⟩ := h
  refine zE.aldI (pc := 6) (ia_40 o) ok_40 hq dX5_counted_6 ?_
  refine zJ.iconst (pc := 7) (v := 1) dX5_counted_7 (by decide) ?_
  refine zJ.iadd (pc := 8) dX5_counted_8 ?_
  obtain ⟨hq, h⟩ := h
  refine zE.astI (pc := 9) (ia_40 o) ok_40 hq dX5_counted_9 ?_
  refine zJ.nameS (fun S1 hyS1 => ?_)
  replace h := h S1 hyS1
  refine zJ.aload_n (pc := 10) 0 dX5_counted_10 rfl rfl ?_
  refine zJ.dup (pc := 11) dX5_counted_11 rfl ?_
  refine zE.getF (pc := 12) (fd_23_20 o) ok_23 kiX5 (Nat.le_of_ble_eq_true rfl) fl_X5_90 dX5_counted_12 ?_
  refine zJ.fload_n (pc := 15) 2 dX5_counted_15 rfl rfl ?_
  obtain ⟨hq, h⟩ := h
  refine zJ.fadd (pc := 16) dX5_counted_16 hq ?_
  refine zE.putF (pc := 17) (fd_23_20 o) ok_23 kiX5 (Nat.le_of_ble_eq_true rfl) fl_X5_90 rfl rfl dX5_counted_17 ?_
  exact zG.ret (pc := 20) (r := none) ⟨dX5_counted_20, rfl⟩ h
set_option maxRecDepth 100000 in
set_option maxHeartbeats 4000000 in
theorem w_X5_beginsNow_0 (o : zW) (x1 : Int32) (x2 : Int32) (x3 : Int32) (x4 : Int32) (S : zS) (Q : Option Value → zS → Prop) (h : (¬ x1 = 2 → (vp_in x2 16 ∧ (((S.1 (29, 0, 0) x2.toNatClampNeg) = 1 → (zGv o 994 mdX5_counts [.ref (z_adr o (23, 0, 0)), .int x2] S (fun S4 => zGv o 994 mdX5_does [.ref (z_adr o (23, 0, 0)), .int x2, .int x1, .int x3, .int x4] S4 (fun S7 => zGv o 994 mdX5_counted [.ref (z_adr o (23, 0, 0)), .int 0, .float (1069547520 : UInt32)] S7 (fun S10 => Q (some (.int 1)) S10))))) ∧ ((S.1 (29, 0, 0) x2.toNatClampNeg) = 2 → (zGv o 994 mdX5_comesNear [.ref (z_adr o (23, 0, 0)), .int x2] (sI S (39, 0, 0) 1 ((S.1 (39, 0, 0) 1) - 1)) (fun S13 => zGv o 994 mdX5_does [.ref (z_adr o (23, 0, 0)), .int x2, .int x1, .int x3, .int x4] S13 (fun S16 => zGv o 994 mdX5_counted [.ref (z_adr o (23, 0, 0)), .int 3, .float (1074266112 : UInt32)] S16 (fun S19 => Q (some (.int 1)) S19))))) ∧ ((S.1 (29, 0, 0) x2.toNatClampNeg) = 3 → (vp_in x2 16 ∧ ((¬ (S.1 (34, 0, 0) x2.toNatClampNeg) = (S.1 (25, 0, 0) 3) → (zGv o 994 mdX5_asks [.ref (z_adr o (23, 0, 0)), .int x2, .int x1, .int x3, .int x4] S (fun S23 => zGv o 994 mdX5_counted [.ref (z_adr o (23, 0, 0)), .int 1, .float (1048576000 : UInt32)] S23 (fun S26 => Q (some (.int 1)) S26)))) ∧ ((S.1 (34, 0, 0) x2.toNatClampNeg) = (S.1 (25, 0, 0) 3) → (Q (some (.int 0)) S))))) ∧ (¬ (S.1 (29, 0, 0) x2.toNatClampNeg) = 1 → ¬ (S.1 (29, 0, 0) x2.toNatClampNeg) = 2 → ¬ (S.1 (29, 0, 0) x2.toNatClampNeg) = 3 → ((¬ (S.1 (39, 0, 0) 0) = (S.1 (25, 0, 0) 2) → (vp_in x2 16 ∧ (∀ y28 : Int32, y28 = (((sI S (29, 0, 0) (x2.toNatClampNeg) 3).1 (40, 0, 0) 9) + ((sI S (29, 0, 0) (x2.toNatClampNeg) 3).1 (25, 0, 0) 4)) → (vp_in x2 16 ∧ (∀ S29 : zS, S29 = (sI (sI S (29, 0, 0) (x2.toNatClampNeg) 3) (30, 0, 0) (x2.toNatClampNeg) y28) → (vp_in (S29.1 (39, 0, 0) 0) 4 ∧ (∀ y30 : Int32, y30 = ((sI S29 (33, 0, 0) ((S29.1 (39, 0, 0) 0).toNatClampNeg) x2).1 (39, 0, 0) 0) → (∀ S31 : zS, S31 = (sI (sI S29 (33, 0, 0) ((S29.1 (39, 0, 0) 0).toNatClampNeg) x2) (39, 0, 0) 0 (y30 + 1)) → (zGv o 994 mdX5_asks [.ref (z_adr o (23, 0, 0)), .int x2, .int x1, .int x3, .int x4] S31 (fun S34 => zGv o 994 mdX5_counted [.ref (z_adr o (23, 0, 0)), .int 2, .float (1083703296 : UInt32)] S34 (fun S37 => Q (some (.int 1)) S37))))))))))) ∧ ((S.1 (39, 0, 0) 0) = (S.1 (25, 0, 0) 2) → (Q (some (.int 0)) S))))))) ∧ (x1 = 2 → ((¬ (S.1 (39, 0, 0) 0) = 0 → (Q (some (.int 0)) S)) ∧ ((S.1 (39, 0, 0) 0) = 0 → ((¬ (S.1 (39, 0, 0) 1) = 0 → (Q (some (.int 0)) S)) ∧ ((S.1 (39, 0, 0) 1) = 0 → (Q (some (.int 1)) S))))))) : zG o 994 mdX5_beginsNow 0 [(0, .ref (z_adr o (23, 0, 0))), (1, .int x1), (2, .int x2), (3, .int x3), (4, .int x4)] [] S Q := by
  show zJ o mdX5_beginsNow 0 _ [] (994, z_enc o S) 0 0 _
  refine zJ.iload_n (pc := 0) 1 dX5_beginsNow_0 rfl rfl ?_
  refine zJ.iconst (pc := 1) (v := 2) dX5_beginsNow_1 (by decide) ?_
  refine zJ.icmp_ne (pc := 2) (tgt := 29) dX5_beginsNow_2 (by decide) (fun c1 => ?_) (fun c1 => ?_)
  · replace h := h.1 c1
    refine zJ.aload_n (pc := 29) 0 dX5_beginsNow_29 rfl rfl ?_
    refine zE.getV (pc := 30) (fd_23_5 o) ok_23 kiX5 (Nat.le_of_ble_eq_true rfl) fl_X5_25 dX5_beginsNow_30 ?_
    refine zJ.iload_n (pc := 33) 2 dX5_beginsNow_33 rfl rfl ?_
    obtain ⟨hq, h⟩ := h
    refine zE.aldI (pc := 34) (ia_29 o) ok_29 hq dX5_beginsNow_34 ?_
    by_cases q1 : (S.1 (29, 0, 0) x2.toNatClampNeg) = 1
    · replace h := h.1 q1
      refine zJ.tableIn (pc := 35) (tgt := 60) dX5_beginsNow_35 (by rw [q1]; decide) (by rw [q1]; decide) (by rw [q1]; rfl) (by decide) ?_
      refine zJ.aload_n (pc := 60) 0 dX5_beginsNow_60 rfl rfl ?_
      refine zJ.iload_n (pc := 61) 2 dX5_beginsNow_61 rfl rfl ?_
      refine zG.callVv (d := mdX5_beginsNow) (pc := 62) [.int x2] [] (ob_23 o) ok_23 rfl dX5_beginsNow_62 ⟨(cb_X5_counts).1, (cb_X5_counts).2, (Nat.le_of_ble_eq_true rfl), (Nat.le_of_ble_eq_true rfl)⟩ ml_X5_168 ci_X5_counts cv_X5_counts rfl (Nat.le_of_ble_eq_true rfl) (Nat.le_of_ble_eq_true rfl) rfl h (fun S4 h2 => ?_)
      replace h := h2
      clear h2
      refine zJ.aload_n (pc := 65) 0 dX5_beginsNow_65 rfl rfl ?_
      refine zJ.iload_n (pc := 66) 2 dX5_beginsNow_66 rfl rfl ?_
      refine zJ.iload_n (pc := 67) 1 dX5_beginsNow_67 rfl rfl ?_
      refine zJ.iload_n (pc := 68) 3 dX5_beginsNow_68 rfl rfl ?_
      refine zJ.iload (pc := 69) 4 dX5_beginsNow_69 rfl ?_
      refine zG.callVv (d := mdX5_beginsNow) (pc := 71) [.int x2, .int x1, .int x3, .int x4] [] (ob_23 o) ok_23 rfl dX5_beginsNow_71 ⟨(cb_X5_does).1, (cb_X5_does).2, (Nat.le_of_ble_eq_true rfl), (Nat.le_of_ble_eq_true rfl)⟩ ml_X5_171 ci_X5_does cv_X5_does rfl (Nat.le_of_ble_eq_true rfl) (Nat.le_of_ble_eq_true rfl) rfl h (fun S7 h2 => ?_)
      replace h := h2
      clear h2
      refine zJ.aload_n (pc := 74) 0 dX5_beginsNow_74 rfl rfl ?_
      refine zJ.iconst (pc := 75) (v := 0) dX5_beginsNow_75 (by decide) ?_
      refine zJ.ldcf (pc := 76) lc_X5_174 dX5_beginsNow_76 ?_
      refine zG.callVv (d := mdX5_beginsNow) (pc := 78) [.int 0, .float (1069547520 : UInt32)] [] (ob_23 o) ok_23 rfl dX5_beginsNow_78 ⟨(cb_X5_counted).1, (cb_X5_counted).2, (Nat.le_of_ble_eq_true rfl), (Nat.le_of_ble_eq_true rfl)⟩ ml_X5_175 ci_X5_counted cv_X5_counted rfl (Nat.le_of_ble_eq_true rfl) (Nat.le_of_ble_eq_true rfl) rfl h (fun S10 h2 => ?_)
      replace h := h2
      clear h2
      refine zJ.iconst (pc := 81) (v := 1) dX5_beginsNow_81 (by decide) ?_
      exact zG.ret (pc := 82) (r := some (.int 1)) ⟨dX5_beginsNow_82, _, rfl, rfl⟩ h
    by_cases q2 : (S.1 (29, 0, 0) x2.toNatClampNeg) = 2
    · replace h := h.2.1 q2
      refine zJ.tableIn (pc := 35) (tgt := 83) dX5_beginsNow_35 (by rw [q2]; decide) (by rw [q2]; decide) (by rw [q2]; rfl) (by decide) ?_
      refine zJ.aload_n (pc := 83) 0 dX5_beginsNow_83 rfl rfl ?_
      refine zE.getV (pc := 84) (fd_23_15 o) ok_23 kiX5 (Nat.le_of_ble_eq_true rfl) fl_X5_55 dX5_beginsNow_84 ?_
      refine zJ.iconst (pc := 87) (v := 1) dX5_beginsNow_87 (by decide) ?_
      refine zJ.dup2_11 (pc := 88) dX5_beginsNow_88 rfl rfl ?_
      refine zE.aldI (pc := 89) (ia_39 o) ok_39 (by unfold vp_in; decide) dX5_beginsNow_89 ?_
      refine zJ.iconst (pc := 90) (v := 1) dX5_beginsNow_90 (by decide) ?_
      refine zJ.isub (pc := 91) dX5_beginsNow_91 ?_
      refine zE.astI (pc := 92) (ia_39 o) ok_39 (by unfold vp_in; decide) dX5_beginsNow_92 ?_
      refine zJ.aload_n (pc := 93) 0 dX5_beginsNow_93 rfl rfl ?_
      refine zJ.iload_n (pc := 94) 2 dX5_beginsNow_94 rfl rfl ?_
      refine zG.callVv (d := mdX5_beginsNow) (pc := 95) [.int x2] [] (ob_23 o) ok_23 rfl dX5_beginsNow_95 ⟨(cb_X5_comesNear).1, (cb_X5_comesNear).2, (Nat.le_of_ble_eq_true rfl), (Nat.le_of_ble_eq_true rfl)⟩ ml_X5_151 ci_X5_comesNear cv_X5_comesNear rfl (Nat.le_of_ble_eq_true rfl) (Nat.le_of_ble_eq_true rfl) rfl h (fun S13 h2 => ?_)
      replace h := h2
      clear h2
      refine zJ.aload_n (pc := 98) 0 dX5_beginsNow_98 rfl rfl ?_
      refine zJ.iload_n (pc := 99) 2 dX5_beginsNow_99 rfl rfl ?_
      refine zJ.iload_n (pc := 100) 1 dX5_beginsNow_100 rfl rfl ?_
      refine zJ.iload_n (pc := 101) 3 dX5_beginsNow_101 rfl rfl ?_
      refine zJ.iload (pc := 102) 4 dX5_beginsNow_102 rfl ?_
      refine zG.callVv (d := mdX5_beginsNow) (pc := 104) [.int x2, .int x1, .int x3, .int x4] [] (ob_23 o) ok_23 rfl dX5_beginsNow_104 ⟨(cb_X5_does).1, (cb_X5_does).2, (Nat.le_of_ble_eq_true rfl), (Nat.le_of_ble_eq_true rfl)⟩ ml_X5_171 ci_X5_does cv_X5_does rfl (Nat.le_of_ble_eq_true rfl) (Nat.le_of_ble_eq_true rfl) rfl h (fun S16 h2 => ?_)
      replace h := h2
      clear h2
      refine zJ.aload_n (pc := 107) 0 dX5_beginsNow_107 rfl rfl ?_
      refine zJ.iconst (pc := 108) (v := 3) dX5_beginsNow_108 (by decide) ?_
      refine zJ.ldcf (pc := 109) lc_X5_179 dX5_beginsNow_109 ?_
      refine zG.callVv (d := mdX5_beginsNow) (pc := 111) [.int 3, .float (1074266112 : UInt32)] [] (ob_23 o) ok_23 rfl dX5_beginsNow_111 ⟨(cb_X5_counted).1, (cb_X5_counted).2, (Nat.le_of_ble_eq_true rfl), (Nat.le_of_ble_eq_true rfl)⟩ ml_X5_175 ci_X5_counted cv_X5_counted rfl (Nat.le_of_ble_eq_true rfl) (Nat.le_of_ble_eq_true rfl) rfl h (fun S19 h2 => ?_)
      replace h := h2
      clear h2
      refine zJ.iconst (pc := 114) (v := 1) dX5_beginsNow_114 (by decide) ?_
      exact zG.ret (pc := 115) (r := some (.int 1)) ⟨dX5_beginsNow_115, _, rfl, rfl⟩ h
    by_cases q3 : (S.1 (29, 0, 0) x2.toNatClampNeg) = 3
    · replace h := h.2.2.1 q3
      refine zJ.tableIn (pc := 35) (tgt := 116) dX5_beginsNow_35 (by rw [q3]; decide) (by rw [q3]; decide) (by rw [q3]; rfl) (by decide) ?_
      refine zJ.aload_n (pc := 116) 0 dX5_beginsNow_116 rfl rfl ?_
      refine zE.getV (pc := 117) (fd_23_10 o) ok_23 kiX5 (Nat.le_of_ble_eq_true rfl) fl_X5_40 dX5_beginsNow_117 ?_
      refine zJ.iload_n (pc := 120) 2 dX5_beginsNow_120 rfl rfl ?_
      obtain ⟨hq, h⟩ := h
      refine zE.aldI (pc := 121) (ia_34 o) ok_34 hq dX5_beginsNow_121 ?_
      refine zJ.aload_n (pc := 122) 0 dX5_beginsNow_122 rfl rfl ?_
      refine zE.getV (pc := 123) (fd_23_1 o) ok_23 kiX5 (Nat.le_of_ble_eq_true rfl) fl_X5_13 dX5_beginsNow_123 ?_
      refine zJ.iconst (pc := 126) (v := 3) dX5_beginsNow_126 (by decide) ?_
      refine zE.aldI (pc := 127) (ia_25 o) ok_25 (by unfold vp_in; decide) dX5_beginsNow_127 ?_
      refine zJ.icmp_ne (pc := 128) (tgt := 133) dX5_beginsNow_128 (by decide) (fun c20 => ?_) (fun c20 => ?_)
      · replace h := h.1 c20
        refine zJ.aload_n (pc := 133) 0 dX5_beginsNow_133 rfl rfl ?_
        refine zJ.iload_n (pc := 134) 2 dX5_beginsNow_134 rfl rfl ?_
        refine zJ.iload_n (pc := 135) 1 dX5_beginsNow_135 rfl rfl ?_
        refine zJ.iload_n (pc := 136) 3 dX5_beginsNow_136 rfl rfl ?_
        refine zJ.iload (pc := 137) 4 dX5_beginsNow_137 rfl ?_
        refine zG.callVv (d := mdX5_beginsNow) (pc := 139) [.int x2, .int x1, .int x3, .int x4] [] (ob_23 o) ok_23 rfl dX5_beginsNow_139 ⟨(cb_X5_asks).1, (cb_X5_asks).2, (Nat.le_of_ble_eq_true rfl), (Nat.le_of_ble_eq_true rfl)⟩ ml_X5_180 ci_X5_asks cv_X5_asks rfl (Nat.le_of_ble_eq_true rfl) (Nat.le_of_ble_eq_true rfl) rfl h (fun S23 h2 => ?_)
        replace h := h2
        clear h2
        refine zJ.aload_n (pc := 142) 0 dX5_beginsNow_142 rfl rfl ?_
        refine zJ.iconst (pc := 143) (v := 1) dX5_beginsNow_143 (by decide) ?_
        refine zJ.ldcf (pc := 144) lc_X5_183 dX5_beginsNow_144 ?_
        refine zG.callVv (d := mdX5_beginsNow) (pc := 146) [.int 1, .float (1048576000 : UInt32)] [] (ob_23 o) ok_23 rfl dX5_beginsNow_146 ⟨(cb_X5_counted).1, (cb_X5_counted).2, (Nat.le_of_ble_eq_true rfl), (Nat.le_of_ble_eq_true rfl)⟩ ml_X5_175 ci_X5_counted cv_X5_counted rfl (Nat.le_of_ble_eq_true rfl) (Nat.le_of_ble_eq_true rfl) rfl h (fun S26 h2 => ?_)
        replace h := h2
        clear h2
        refine zJ.iconst (pc := 149) (v := 1) dX5_beginsNow_149 (by decide) ?_
        exact zG.ret (pc := 150) (r := some (.int 1)) ⟨dX5_beginsNow_150, _, rfl, rfl⟩ h
      · replace h := h.2 c20
        refine zJ.iconst (pc := 131) (v := 0) dX5_beginsNow_131 (by decide) ?_
        exact zG.ret (pc := 132) (r := some (.int 0)) ⟨dX5_beginsNow_132, _, rfl, rfl⟩ h
    replace h := h.2.2.2 q1 q2 q3
    refine zJ.tableOut (pc := 35) (tgt := 151) dX5_beginsNow_35 (z_swe (lo := 1) (k := 3) (by decide) (fun j hl hj => ?_)) (by decide) ?_
    · rcases (show j = 1 ∨ j = 2 ∨ j = 3 by omega) with rfl | rfl | rfl
      · exact q1
      · exact q2
      · exact q3
    · refine zJ.aload_n (pc := 151) 0 dX5_beginsNow_151 rfl rfl ?_
      refine zE.getV (pc := 152) (fd_23_15 o) ok_23 kiX5 (Nat.le_of_ble_eq_true rfl) fl_X5_55 dX5_beginsNow_152 ?_
      refine zJ.iconst (pc := 155) (v := 0) dX5_beginsNow_155 (by decide) ?_
      refine zE.aldI (pc := 156) (ia_39 o) ok_39 (by unfold vp_in; decide) dX5_beginsNow_156 ?_
      refine zJ.aload_n (pc := 157) 0 dX5_beginsNow_157 rfl rfl ?_
      refine zE.getV (pc := 158) (fd_23_1 o) ok_23 kiX5 (Nat.le_of_ble_eq_true rfl) fl_X5_13 dX5_beginsNow_158 ?_
      refine zJ.iconst (pc := 161) (v := 2) dX5_beginsNow_161 (by decide) ?_
      refine zE.aldI (pc := 162) (ia_25 o) ok_25 (by unfold vp_in; decide) dX5_beginsNow_162 ?_
      refine zJ.icmp_ne (pc := 163) (tgt := 168) dX5_beginsNow_163 (by decide) (fun c27 => ?_) (fun c27 => ?_)
      · replace h := h.1 c27
        refine zJ.aload_n (pc := 168) 0 dX5_beginsNow_168 rfl rfl ?_
        refine zE.getV (pc := 169) (fd_23_5 o) ok_23 kiX5 (Nat.le_of_ble_eq_true rfl) fl_X5_25 dX5_beginsNow_169 ?_
        refine zJ.iload_n (pc := 172) 2 dX5_beginsNow_172 rfl rfl ?_
        refine zJ.iconst (pc := 173) (v := 3) dX5_beginsNow_173 (by decide) ?_
        obtain ⟨hq, h⟩ := h
        refine zE.astI (pc := 174) (ia_29 o) ok_29 hq dX5_beginsNow_174 ?_
        refine zJ.aload_n (pc := 175) 0 dX5_beginsNow_175 rfl rfl ?_
        refine zE.getV (pc := 176) (fd_23_6 o) ok_23 kiX5 (Nat.le_of_ble_eq_true rfl) fl_X5_28 dX5_beginsNow_176 ?_
        refine zJ.iload_n (pc := 179) 2 dX5_beginsNow_179 rfl rfl ?_
        refine zJ.aload_n (pc := 180) 0 dX5_beginsNow_180 rfl rfl ?_
        refine zE.getV (pc := 181) (fd_23_16 o) ok_23 kiX5 (Nat.le_of_ble_eq_true rfl) fl_X5_58 dX5_beginsNow_181 ?_
        refine zJ.bipush (pc := 184) (v := 9) dX5_beginsNow_184 (by decide) ?_
        refine zE.aldI (pc := 186) (ia_40 o) ok_40 (by unfold vp_in; decide) dX5_beginsNow_186 ?_
        refine zJ.aload_n (pc := 187) 0 dX5_beginsNow_187 rfl rfl ?_
        refine zE.getV (pc := 188) (fd_23_1 o) ok_23 kiX5 (Nat.le_of_ble_eq_true rfl) fl_X5_13 dX5_beginsNow_188 ?_
        refine zJ.iconst (pc := 191) (v := 4) dX5_beginsNow_191 (by decide) ?_
        refine zE.aldI (pc := 192) (ia_25 o) ok_25 (by unfold vp_in; decide) dX5_beginsNow_192 ?_
        refine zJ.iadd (pc := 193) dX5_beginsNow_193 ?_
        refine zJ.topi (fun y28 hyy28 => ?_)
        replace h := h y28 hyy28
        obtain ⟨hq, h⟩ := h
        refine zE.astI (pc := 194) (ia_30 o) ok_30 hq dX5_beginsNow_194 ?_
        refine zJ.nameS (fun S29 hyS29 => ?_)
        replace h := h S29 hyS29
        refine zJ.aload_n (pc := 195) 0 dX5_beginsNow_195 rfl rfl ?_
        refine zE.getV (pc := 196) (fd_23_9 o) ok_23 kiX5 (Nat.le_of_ble_eq_true rfl) fl_X5_37 dX5_beginsNow_196 ?_
        refine zJ.aload_n (pc := 199) 0 dX5_beginsNow_199 rfl rfl ?_
        refine zE.getV (pc := 200) (fd_23_15 o) ok_23 kiX5 (Nat.le_of_ble_eq_true rfl) fl_X5_55 dX5_beginsNow_200 ?_
        refine zJ.iconst (pc := 203) (v := 0) dX5_beginsNow_203 (by decide) ?_
        refine zE.aldI (pc := 204) (ia_39 o) ok_39 (by unfold vp_in; decide) dX5_beginsNow_204 ?_
        refine zJ.iload_n (pc := 205) 2 dX5_beginsNow_205 rfl rfl ?_
        obtain ⟨hq, h⟩ := h
        refine zE.astI (pc := 206) (ia_33 o) ok_33 hq dX5_beginsNow_206 ?_
        refine zJ.aload_n (pc := 207) 0 dX5_beginsNow_207 rfl rfl ?_
        refine zE.getV (pc := 208) (fd_23_15 o) ok_23 kiX5 (Nat.le_of_ble_eq_true rfl) fl_X5_55 dX5_beginsNow_208 ?_
        refine zJ.iconst (pc := 211) (v := 0) dX5_beginsNow_211 (by decide) ?_
        refine zJ.dup2_11 (pc := 212) dX5_beginsNow_212 rfl rfl ?_
        refine zE.aldI (pc := 213) (ia_39 o) ok_39 (by unfold vp_in; decide) dX5_beginsNow_213 ?_
        refine zJ.topi (fun y30 hyy30 => ?_)
        replace h := h y30 hyy30
        refine zJ.iconst (pc := 214) (v := 1) dX5_beginsNow_214 (by decide) ?_
        refine zJ.iadd (pc := 215) dX5_beginsNow_215 ?_
        refine zE.astI (pc := 216) (ia_39 o) ok_39 (by unfold vp_in; decide) dX5_beginsNow_216 ?_
        refine zJ.nameS (fun S31 hyS31 => ?_)
        replace h := h S31 hyS31
        refine zJ.aload_n (pc := 217) 0 dX5_beginsNow_217 rfl rfl ?_
        refine zJ.iload_n (pc := 218) 2 dX5_beginsNow_218 rfl rfl ?_
        refine zJ.iload_n (pc := 219) 1 dX5_beginsNow_219 rfl rfl ?_
        refine zJ.iload_n (pc := 220) 3 dX5_beginsNow_220 rfl rfl ?_
        refine zJ.iload (pc := 221) 4 dX5_beginsNow_221 rfl ?_
        refine zG.callVv (d := mdX5_beginsNow) (pc := 223) [.int x2, .int x1, .int x3, .int x4] [] (ob_23 o) ok_23 rfl dX5_beginsNow_223 ⟨(cb_X5_asks).1, (cb_X5_asks).2, (Nat.le_of_ble_eq_true rfl), (Nat.le_of_ble_eq_true rfl)⟩ ml_X5_180 ci_X5_asks cv_X5_asks rfl (Nat.le_of_ble_eq_true rfl) (Nat.le_of_ble_eq_true rfl) rfl h (fun S34 h2 => ?_)
        replace h := h2
        clear h2
        refine zJ.aload_n (pc := 226) 0 dX5_beginsNow_226 rfl rfl ?_
        refine zJ.iconst (pc := 227) (v := 2) dX5_beginsNow_227 (by decide) ?_
        refine zJ.ldcf (pc := 228) lc_X5_184 dX5_beginsNow_228 ?_
        refine zG.callVv (d := mdX5_beginsNow) (pc := 230) [.int 2, .float (1083703296 : UInt32)] [] (ob_23 o) ok_23 rfl dX5_beginsNow_230 ⟨(cb_X5_counted).1, (cb_X5_counted).2, (Nat.le_of_ble_eq_true rfl), (Nat.le_of_ble_eq_true rfl)⟩ ml_X5_175 ci_X5_counted cv_X5_counted rfl (Nat.le_of_ble_eq_true rfl) (Nat.le_of_ble_eq_true rfl) rfl h (fun S37 h2 => ?_)
        replace h := h2
        clear h2
        refine zJ.iconst (pc := 233) (v := 1) dX5_beginsNow_233 (by decide) ?_
        exact zG.ret (pc := 234) (r := some (.int 1)) ⟨dX5_beginsNow_234, _, rfl, rfl⟩ h
      · replace h := h.2 c27
        refine zJ.iconst (pc := 166) (v := 0) dX5_beginsNow_166 (by decide) ?_
        exact zG.ret (pc := 167) (r := some (.int 0)) ⟨dX5_beginsNow_167, _, rfl, rfl⟩ h
  · replace h := h.2 c1
    refine zJ.aload_n (pc := 5) 0 dX5_beginsNow_5 rfl rfl ?_
    refine zE.getV (pc := 6) (fd_23_15 o) ok_23 kiX5 (Nat.le_of_ble_eq_true rfl) fl_X5_55 dX5_beginsNow_6 ?_
    refine zJ.iconst (pc := 9) (v := 0) dX5_beginsNow_9 (by decide) ?_
    refine zE.aldI (pc := 10) (ia_39 o) ok_39 (by unfold vp_in; decide) dX5_beginsNow_10 ?_
    refine zJ.if_ne (pc := 11) (tgt := 27) dX5_beginsNow_11 (by decide) (fun c38 => ?_) (fun c38 => ?_)
    · replace h := h.1 c38
      refine zJ.iconst (pc := 27) (v := 0) dX5_beginsNow_27 (by decide) ?_
      exact zG.ret (pc := 28) (r := some (.int 0)) ⟨dX5_beginsNow_28, _, rfl, rfl⟩ h
    · replace h := h.2 c38
      refine zJ.aload_n (pc := 14) 0 dX5_beginsNow_14 rfl rfl ?_
      refine zE.getV (pc := 15) (fd_23_15 o) ok_23 kiX5 (Nat.le_of_ble_eq_true rfl) fl_X5_55 dX5_beginsNow_15 ?_
      refine zJ.iconst (pc := 18) (v := 1) dX5_beginsNow_18 (by decide) ?_
      refine zE.aldI (pc := 19) (ia_39 o) ok_39 (by unfold vp_in; decide) dX5_beginsNow_19 ?_
      refine zJ.if_ne (pc := 20) (tgt := 27) dX5_beginsNow_20 (by decide) (fun c39 => ?_) (fun c39 => ?_)
      · replace h := h.1 c39
        refine zJ.iconst (pc := 27) (v := 0) dX5_beginsNow_27 (by decide) ?_
        exact zG.ret (pc := 28) (r := some (.int 0)) ⟨dX5_beginsNow_28, _, rfl, rfl⟩ h
      · replace h := h.2 c39
        refine zJ.iconst (pc := 23) (v := 1) dX5_beginsNow_23 (by decide) ?_
        refine zJ.goto (pc := 24) (tgt := 28) dX5_beginsNow_24 (by decide) ?_
        exact zG.ret (pc := 28) (r := some (.int 1)) ⟨dX5_beginsNow_28, _, rfl, rfl⟩ h
set_option maxRecDepth 100000 in
set_option maxHeartbeats 4000000 in
theorem w_X5_goesBy_0 (o : zW)  (S : zS) (Q : Option Value → zS → Prop) (h : zGv o 994 mdX5_comesTime [.ref (z_adr o (23, 0, 0))] (sI S (40, 0, 0) 9 ((S.1 (40, 0, 0) 9) + 1)) (fun S3 => Q none S3)) : zG o 994 mdX5_goesBy 0 [(0, .ref (z_adr o (23, 0, 0)))] [] S Q := by
  show zJ o mdX5_goesBy 0 _ [] (994, z_enc o S) 0 0 _
  refine zJ.aload_n (pc := 0) 0 dX5_goesBy_0 rfl rfl ?_
  refine zE.getV (pc := 1) (fd_23_16 o) ok_23 kiX5 (Nat.le_of_ble_eq_true rfl) fl_X5_58 dX5_goesBy_1 ?_
  refine zJ.bipush (pc := 4) (v := 9) dX5_goesBy_4 (by decide) ?_
  refine zJ.dup2_11 (pc := 6) dX5_goesBy_6 rfl rfl ?_
  refine zE.aldI (pc := 7) (ia_40 o) ok_40 (by unfold vp_in; decide) dX5_goesBy_7 ?_
  refine zJ.iconst (pc := 8) (v := 1) dX5_goesBy_8 (by decide) ?_
  refine zJ.iadd (pc := 9) dX5_goesBy_9 ?_
  refine zE.astI (pc := 10) (ia_40 o) ok_40 (by unfold vp_in; decide) dX5_goesBy_10 ?_
  refine zJ.aload_n (pc := 11) 0 dX5_goesBy_11 rfl rfl ?_
  refine zG.callVv (d := mdX5_goesBy) (pc := 12) [] [] (ob_23 o) ok_23 rfl dX5_goesBy_12 ⟨(cb_X5_comesTime).1, (cb_X5_comesTime).2, (Nat.le_of_ble_eq_true rfl), (Nat.le_of_ble_eq_true rfl)⟩ ml_X5_185 ci_X5_comesTime cv_X5_comesTime rfl (Nat.le_of_ble_eq_true rfl) (Nat.le_of_ble_eq_true rfl) rfl h (fun S3 h2 => ?_)
  replace h := h2
  clear h2
  exact zG.ret (pc := 15) (r := none) ⟨dX5_goesBy_15, rfl⟩ h
set_option maxRecDepth 100000 in
set_option maxHeartbeats 4000000 in
theorem w_X5_done_0 (o : zW) (x1 : Int32) (x2 : Int32) (x3 : Int32) (x4 : Int32) (S : zS) (Q : Option Value → zS → Prop) (h : zGv o 994 mdX5_goesBy [.ref (z_adr o (23, 0, 0))] S (fun S3 => zG o 994 mdX5_done 4 [(0, .ref (z_adr o (23, 0, 0))), (1, .int x1), (2, .int x2), (3, .int x3), (4, .int x4)] [] S3 Q)) : zG o 994 mdX5_done 0 [(0, .ref (z_adr o (23, 0, 0))), (1, .int x1), (2, .int x2), (3, .int x3), (4, .int x4)] [] S Q := by
  show zJ o mdX5_done 0 _ [] (994, z_enc o S) 0 0 _
  refine zJ.aload_n (pc := 0) 0 dX5_done_0 rfl rfl ?_
  refine zG.callVv (d := mdX5_done) (pc := 1) [] [] (ob_23 o) ok_23 rfl dX5_done_1 ⟨(cb_X5_goesBy).1, (cb_X5_goesBy).2, (Nat.le_of_ble_eq_true rfl), (Nat.le_of_ble_eq_true rfl)⟩ ml_X5_188 ci_X5_goesBy cv_X5_goesBy rfl (Nat.le_of_ble_eq_true rfl) (Nat.le_of_ble_eq_true rfl) rfl h (fun S3 h2 => ?_)
  replace h := h2
  clear h2
  exact h
set_option maxRecDepth 100000 in
set_option maxHeartbeats 4000000 in
theorem w_X5_done_4 (o : zW) (x1 : Int32) (x2 : Int32) (x3 : Int32) (x4 : Int32) (S : zS) (Q : Option Value → zS → Prop) (h : zGi o 994 mdX5_beginsNow [.ref (z_adr o (23, 0, 0)), .int x1, .int x2, .int x3, .int x4] S (fun r2 S3 => (¬ r2 = 0 → (Q (some (.int (S3.1 (40, 0, 0) 9))) S3)) ∧ (r2 = 0 → (zGv o 994 mdX5_counted [.ref (z_adr o (23, 0, 0)), .int 4, .float (1036831949 : UInt32)] S3 (fun S7 => zGv o 994 mdX5_goesBy [.ref (z_adr o (23, 0, 0))] S7 (fun S10 => zG o 994 mdX5_done 4 [(0, .ref (z_adr o (23, 0, 0))), (1, .int x1), (2, .int x2), (3, .int x3), (4, .int x4)] [] S10 Q)))))) : zG o 994 mdX5_done 4 [(0, .ref (z_adr o (23, 0, 0))), (1, .int x1), (2, .int x2), (3, .int x3), (4, .int x4)] [] S Q := by
  show zJ o mdX5_done 4 _ [] (994, z_enc o S) 0 0 _
  refine zJ.aload_n (pc := 4) 0 dX5_done_4 rfl rfl ?_
  refine zJ.iload_n (pc := 5) 1 dX5_done_5 rfl rfl ?_
  refine zJ.iload_n (pc := 6) 2 dX5_done_6 rfl rfl ?_
  refine zJ.iload_n (pc := 7) 3 dX5_done_7 rfl rfl ?_
  refine zJ.iload (pc := 8) 4 dX5_done_8 rfl ?_
  refine zG.callVi (d := mdX5_done) (pc := 10) [.int x1, .int x2, .int x3, .int x4] [] (ob_23 o) ok_23 rfl dX5_done_10 ⟨(cb_X5_beginsNow).1, (cb_X5_beginsNow).2, (Nat.le_of_ble_eq_true rfl), (Nat.le_of_ble_eq_true rfl)⟩ ml_X5_191 ci_X5_beginsNow cv_X5_beginsNow rfl (Nat.le_of_ble_eq_true rfl) (Nat.le_of_ble_eq_true rfl) rfl h (fun r2 S3 h2 => ?_)
  replace h := h2
  clear h2
  refine zJ.if_ne (pc := 13) (tgt := 30) dX5_done_13 (by decide) (fun c4 => ?_) (fun c4 => ?_)
  · replace h := h.1 c4
    refine zJ.aload_n (pc := 30) 0 dX5_done_30 rfl rfl ?_
    refine zE.getV (pc := 31) (fd_23_16 o) ok_23 kiX5 (Nat.le_of_ble_eq_true rfl) fl_X5_58 dX5_done_31 ?_
    refine zJ.bipush (pc := 34) (v := 9) dX5_done_34 (by decide) ?_
    refine zE.aldI (pc := 36) (ia_40 o) ok_40 (by unfold vp_in; decide) dX5_done_36 ?_
    exact zG.ret (pc := 37) (r := some (.int (S3.1 (40, 0, 0) 9))) ⟨dX5_done_37, _, rfl, rfl⟩ h
  · replace h := h.2 c4
    refine zJ.aload_n (pc := 16) 0 dX5_done_16 rfl rfl ?_
    refine zJ.iconst (pc := 17) (v := 4) dX5_done_17 (by decide) ?_
    refine zJ.ldcf (pc := 18) lc_X5_195 dX5_done_18 ?_
    refine zG.callVv (d := mdX5_done) (pc := 20) [.int 4, .float (1036831949 : UInt32)] [] (ob_23 o) ok_23 rfl dX5_done_20 ⟨(cb_X5_counted).1, (cb_X5_counted).2, (Nat.le_of_ble_eq_true rfl), (Nat.le_of_ble_eq_true rfl)⟩ ml_X5_175 ci_X5_counted cv_X5_counted rfl (Nat.le_of_ble_eq_true rfl) (Nat.le_of_ble_eq_true rfl) rfl h (fun S7 h2 => ?_)
    replace h := h2
    clear h2
    refine zJ.aload_n (pc := 23) 0 dX5_done_23 rfl rfl ?_
    refine zG.callVv (d := mdX5_done) (pc := 24) [] [] (ob_23 o) ok_23 rfl dX5_done_24 ⟨(cb_X5_goesBy).1, (cb_X5_goesBy).2, (Nat.le_of_ble_eq_true rfl), (Nat.le_of_ble_eq_true rfl)⟩ ml_X5_188 ci_X5_goesBy cv_X5_goesBy rfl (Nat.le_of_ble_eq_true rfl) (Nat.le_of_ble_eq_true rfl) rfl h (fun S10 h2 => ?_)
    replace h := h2
    clear h2
    refine zJ.goto (pc := 27) (tgt := 4) dX5_done_27 (by decide) ?_
    exact h
set_option maxRecDepth 100000 in
set_option maxHeartbeats 4000000 in
theorem w_X5_isItem_0 (o : zW) (x0 : Int32) (S : zS) (Q : Option Value → zS → Prop) (h : zGi o 994 mdX5_in [.int x0, .int 0, .int 3] S (fun r2 S3 => narrow .boolean (.int r2) = .int r2 ∧ Q (some (.int r2)) S3)) : zG o 994 mdX5_isItem 0 [(0, .int x0)] [] S Q := by
  show zJ o mdX5_isItem 0 _ [] (994, z_enc o S) 0 0 _
  refine zJ.iload_n (pc := 0) 0 dX5_isItem_0 rfl rfl ?_
  refine zJ.iconst (pc := 1) (v := 0) dX5_isItem_1 (by decide) ?_
  refine zJ.iconst (pc := 2) (v := 3) dX5_isItem_2 (by decide) ?_
  refine zG.callSi (d := mdX5_isItem) (pc := 3) [.int x0, .int 0, .int 3] [] dX5_isItem_3 ⟨(cb_X5_in).1, (cb_X5_in).2, (Nat.le_of_ble_eq_true rfl), (Nat.le_of_ble_eq_true rfl)⟩ ml_X5_101 cs_X5_in rfl (Nat.le_of_ble_eq_true rfl) (Nat.le_of_ble_eq_true rfl) rfl h (fun r2 S3 h2 => ?_)
  replace h := h2
  clear h2
  exact zG.ret (pc := 6) (r := some (.int r2)) ⟨dX5_isItem_6, _, rfl, h.1⟩ h.2
set_option maxRecDepth 100000 in
set_option maxHeartbeats 4000000 in
theorem w_X5_load_0 (o : zW) (x1 : Int32) (x2 : Int32) (S : zS) (Q : Option Value → zS → Prop) (h : zGi o 994 mdX5_isBox [.int x1] S (fun r2 S3 => (r2 = 0 → (zGi o 994 mdX5_bad [.ref (z_adr o (23, 0, 0))] S3 (fun r6 S7 => Q (some (.int r6)) S7))) ∧ (¬ r2 = 0 → (zGi o 994 mdX5_isItem [.int x2] S3 (fun r9 S10 => (¬ r9 = 0 → (zGv o 994 mdX5_leavesState [.ref (z_adr o (23, 0, 0))] S10 (fun S14 => zGi o 994 mdX5_done [.ref (z_adr o (23, 0, 0)), .int 0, .int x1, .int x2, .int 0] S14 (fun r16 S17 => Q (some (.int r16)) S17)))) ∧ (r9 = 0 → (zGi o 994 mdX5_bad [.ref (z_adr o (23, 0, 0))] S10 (fun r19 S20 => Q (some (.int r19)) S20)))))))) : zG o 994 mdX5_load 0 [(0, .ref (z_adr o (23, 0, 0))), (1, .int x1), (2, .int x2)] [] S Q := by
  show zJ o mdX5_load 0 _ [] (994, z_enc o S) 0 0 _
  refine zJ.iload_n (pc := 0) 1 dX5_load_0 rfl rfl ?_
  refine zG.callSi (d := mdX5_load) (pc := 1) [.int x1] [] dX5_load_1 ⟨(cb_X5_isBox).1, (cb_X5_isBox).2, (Nat.le_of_ble_eq_true rfl), (Nat.le_of_ble_eq_true rfl)⟩ ml_X5_196 cs_X5_isBox rfl (Nat.le_of_ble_eq_true rfl) (Nat.le_of_ble_eq_true rfl) rfl h (fun r2 S3 h2 => ?_)
  replace h := h2
  clear h2
  refine zJ.if_eq (pc := 4) (tgt := 14) dX5_load_4 (by decide) (fun c4 => ?_) (fun c4 => ?_)
  · replace h := h.1 c4
    refine zJ.aload_n (pc := 14) 0 dX5_load_14 rfl rfl ?_
    refine zG.callVi (d := mdX5_load) (pc := 15) [] [] (ob_23 o) ok_23 rfl dX5_load_15 ⟨(cb_X5_bad).1, (cb_X5_bad).2, (Nat.le_of_ble_eq_true rfl), (Nat.le_of_ble_eq_true rfl)⟩ ml_X5_130 ci_X5_bad cv_X5_bad rfl (Nat.le_of_ble_eq_true rfl) (Nat.le_of_ble_eq_true rfl) rfl h (fun r6 S7 h2 => ?_)
    replace h := h2
    clear h2
    exact zG.ret (pc := 18) (r := some (.int r6)) ⟨dX5_load_18, _, rfl, rfl⟩ h
  · replace h := h.2 c4
    refine zJ.iload_n (pc := 7) 2 dX5_load_7 rfl rfl ?_
    refine zG.callSi (d := mdX5_load) (pc := 8) [.int x2] [] dX5_load_8 ⟨(cb_X5_isItem).1, (cb_X5_isItem).2, (Nat.le_of_ble_eq_true rfl), (Nat.le_of_ble_eq_true rfl)⟩ ml_X5_200 cs_X5_isItem rfl (Nat.le_of_ble_eq_true rfl) (Nat.le_of_ble_eq_true rfl) rfl h (fun r9 S10 h2 => ?_)
    replace h := h2
    clear h2
    refine zJ.if_ne (pc := 11) (tgt := 19) dX5_load_11 (by decide) (fun c11 => ?_) (fun c11 => ?_)
    · replace h := h.1 c11
      refine zJ.aload_n (pc := 19) 0 dX5_load_19 rfl rfl ?_
      refine zG.callVv (d := mdX5_load) (pc := 20) [] [] (ob_23 o) ok_23 rfl dX5_load_20 ⟨(cb_X5_leavesState).1, (cb_X5_leavesState).2, (Nat.le_of_ble_eq_true rfl), (Nat.le_of_ble_eq_true rfl)⟩ ml_X5_134 ci_X5_leavesState cv_X5_leavesState rfl (Nat.le_of_ble_eq_true rfl) (Nat.le_of_ble_eq_true rfl) rfl h (fun S14 h2 => ?_)
      replace h := h2
      clear h2
      refine zJ.aload_n (pc := 23) 0 dX5_load_23 rfl rfl ?_
      refine zJ.iconst (pc := 24) (v := 0) dX5_load_24 (by decide) ?_
      refine zJ.iload_n (pc := 25) 1 dX5_load_25 rfl rfl ?_
      refine zJ.iload_n (pc := 26) 2 dX5_load_26 rfl rfl ?_
      refine zJ.iconst (pc := 27) (v := 0) dX5_load_27 (by decide) ?_
      refine zG.callVi (d := mdX5_load) (pc := 28) [.int 0, .int x1, .int x2, .int 0] [] (ob_23 o) ok_23 rfl dX5_load_28 ⟨(cb_X5_done).1, (cb_X5_done).2, (Nat.le_of_ble_eq_true rfl), (Nat.le_of_ble_eq_true rfl)⟩ ml_X5_203 ci_X5_done cv_X5_done rfl (Nat.le_of_ble_eq_true rfl) (Nat.le_of_ble_eq_true rfl) rfl h (fun r16 S17 h2 => ?_)
      replace h := h2
      clear h2
      exact zG.ret (pc := 31) (r := some (.int r16)) ⟨dX5_load_31, _, rfl, rfl⟩ h
    · replace h := h.2 c11
      refine zJ.aload_n (pc := 14) 0 dX5_load_14 rfl rfl ?_
      refine zG.callVi (d := mdX5_load) (pc := 15) [] [] (ob_23 o) ok_23 rfl dX5_load_15 ⟨(cb_X5_bad).1, (cb_X5_bad).2, (Nat.le_of_ble_eq_true rfl), (Nat.le_of_ble_eq_true rfl)⟩ ml_X5_130 ci_X5_bad cv_X5_bad rfl (Nat.le_of_ble_eq_true rfl) (Nat.le_of_ble_eq_true rfl) rfl h (fun r19 S20 h2 => ?_)
      replace h := h2
      clear h2
      exact zG.ret (pc := 18) (r := some (.int r19)) ⟨dX5_load_18, _, rfl, rfl⟩ h
set_option maxRecDepth 100000 in
set_option maxHeartbeats 4000000 in
theorem w_X5_store_0 (o : zW) (x1 : Int32) (x2 : Int32) (x3 : Int32) (S : zS) (Q : Option Value → zS → Prop) (h : zGi o 994 mdX5_isBox [.int x1] S (fun r2 S3 => (r2 = 0 → (zGi o 994 mdX5_bad [.ref (z_adr o (23, 0, 0))] S3 (fun r6 S7 => Q (some (.int r6)) S7))) ∧ (¬ r2 = 0 → (zGi o 994 mdX5_isItem [.int x2] S3 (fun r9 S10 => (r9 = 0 → (zGi o 994 mdX5_bad [.ref (z_adr o (23, 0, 0))] S10 (fun r13 S14 => Q (some (.int r13)) S14))) ∧ (¬ r9 = 0 → (zGi o 994 mdX5_in [.int x3, .int 0, .int 99] S10 (fun r16 S17 => (¬ r16 = 0 → (zGv o 994 mdX5_leavesState [.ref (z_adr o (23, 0, 0))] S17 (fun S21 => zGi o 994 mdX5_done [.ref (z_adr o (23, 0, 0)), .int 1, .int x1, .int x2, .int x3] S21 (fun r23 S24 => Q (some (.int r23)) S24)))) ∧ (r16 = 0 → (zGi o 994 mdX5_bad [.ref (z_adr o (23, 0, 0))] S17 (fun r26 S27 => Q (some (.int r26)) S27))))))))))) : zG o 994 mdX5_store 0 [(0, .ref (z_adr o (23, 0, 0))), (1, .int x1), (2, .int x2), (3, .int x3)] [] S Q := by
  show zJ o mdX5_store 0 _ [] (994, z_enc o S) 0 0 _
  refine zJ.iload_n (pc := 0) 1 dX5_store_0 rfl rfl ?_
  refine zG.callSi (d := mdX5_store) (pc := 1) [.int x1] [] dX5_store_1 ⟨(cb_X5_isBox).1, (cb_X5_isBox).2, (Nat.le_of_ble_eq_true rfl), (Nat.le_of_ble_eq_true rfl)⟩ ml_X5_196 cs_X5_isBox rfl (Nat.le_of_ble_eq_true rfl) (Nat.le_of_ble_eq_true rfl) rfl h (fun r2 S3 h2 => ?_)
  replace h := h2
  clear h2
  refine zJ.if_eq (pc := 4) (tgt := 24) dX5_store_4 (by decide) (fun c4 => ?_) (fun c4 => ?_)
  · replace h := h.1 c4
    refine zJ.aload_n (pc := 24) 0 dX5_store_24 rfl rfl ?_
    refine zG.callVi (d := mdX5_store) (pc := 25) [] [] (ob_23 o) ok_23 rfl dX5_store_25 ⟨(cb_X5_bad).1, (cb_X5_bad).2, (Nat.le_of_ble_eq_true rfl), (Nat.le_of_ble_eq_true rfl)⟩ ml_X5_130 ci_X5_bad cv_X5_bad rfl (Nat.le_of_ble_eq_true rfl) (Nat.le_of_ble_eq_true rfl) rfl h (fun r6 S7 h2 => ?_)
    replace h := h2
    clear h2
    exact zG.ret (pc := 28) (r := some (.int r6)) ⟨dX5_store_28, _, rfl, rfl⟩ h
  · replace h := h.2 c4
    refine zJ.iload_n (pc := 7) 2 dX5_store_7 rfl rfl ?_
    refine zG.callSi (d := mdX5_store) (pc := 8) [.int x2] [] dX5_store_8 ⟨(cb_X5_isItem).1, (cb_X5_isItem).2, (Nat.le_of_ble_eq_true rfl), (Nat.le_of_ble_eq_true rfl)⟩ ml_X5_200 cs_X5_isItem rfl (Nat.le_of_ble_eq_true rfl) (Nat.le_of_ble_eq_true rfl) rfl h (fun r9 S10 h2 => ?_)
    replace h := h2
    clear h2
    refine zJ.if_eq (pc := 11) (tgt := 24) dX5_store_11 (by decide) (fun c11 => ?_) (fun c11 => ?_)
    · replace h := h.1 c11
      refine zJ.aload_n (pc := 24) 0 dX5_store_24 rfl rfl ?_
      refine zG.callVi (d := mdX5_store) (pc := 25) [] [] (ob_23 o) ok_23 rfl dX5_store_25 ⟨(cb_X5_bad).1, (cb_X5_bad).2, (Nat.le_of_ble_eq_true rfl), (Nat.le_of_ble_eq_true rfl)⟩ ml_X5_130 ci_X5_bad cv_X5_bad rfl (Nat.le_of_ble_eq_true rfl) (Nat.le_of_ble_eq_true rfl) rfl h (fun r13 S14 h2 => ?_)
      replace h := h2
      clear h2
      exact zG.ret (pc := 28) (r := some (.int r13)) ⟨dX5_store_28, _, rfl, rfl⟩ h
    · replace h := h.2 c11
      refine zJ.iload_n (pc := 14) 3 dX5_store_14 rfl rfl ?_
      refine zJ.iconst (pc := 15) (v := 0) dX5_store_15 (by decide) ?_
      refine zJ.bipush (pc := 16) (v := 99) dX5_store_16 (by decide) ?_
      refine zG.callSi (d := mdX5_store) (pc := 18) [.int x3, .int 0, .int 99] [] dX5_store_18 ⟨(cb_X5_in).1, (cb_X5_in).2, (Nat.le_of_ble_eq_true rfl), (Nat.le_of_ble_eq_true rfl)⟩ ml_X5_101 cs_X5_in rfl (Nat.le_of_ble_eq_true rfl) (Nat.le_of_ble_eq_true rfl) rfl h (fun r16 S17 h2 => ?_)
      replace h := h2
      clear h2
      refine zJ.if_ne (pc := 21) (tgt := 29) dX5_store_21 (by decide) (fun c18 => ?_) (fun c18 => ?_)
      · replace h := h.1 c18
        refine zJ.aload_n (pc := 29) 0 dX5_store_29 rfl rfl ?_
        refine zG.callVv (d := mdX5_store) (pc := 30) [] [] (ob_23 o) ok_23 rfl dX5_store_30 ⟨(cb_X5_leavesState).1, (cb_X5_leavesState).2, (Nat.le_of_ble_eq_true rfl), (Nat.le_of_ble_eq_true rfl)⟩ ml_X5_134 ci_X5_leavesState cv_X5_leavesState rfl (Nat.le_of_ble_eq_true rfl) (Nat.le_of_ble_eq_true rfl) rfl h (fun S21 h2 => ?_)
        replace h := h2
        clear h2
        refine zJ.aload_n (pc := 33) 0 dX5_store_33 rfl rfl ?_
        refine zJ.iconst (pc := 34) (v := 1) dX5_store_34 (by decide) ?_
        refine zJ.iload_n (pc := 35) 1 dX5_store_35 rfl rfl ?_
        refine zJ.iload_n (pc := 36) 2 dX5_store_36 rfl rfl ?_
        refine zJ.iload_n (pc := 37) 3 dX5_store_37 rfl rfl ?_
        refine zG.callVi (d := mdX5_store) (pc := 38) [.int 1, .int x1, .int x2, .int x3] [] (ob_23 o) ok_23 rfl dX5_store_38 ⟨(cb_X5_done).1, (cb_X5_done).2, (Nat.le_of_ble_eq_true rfl), (Nat.le_of_ble_eq_true rfl)⟩ ml_X5_203 ci_X5_done cv_X5_done rfl (Nat.le_of_ble_eq_true rfl) (Nat.le_of_ble_eq_true rfl) rfl h (fun r23 S24 h2 => ?_)
        replace h := h2
        clear h2
        exact zG.ret (pc := 41) (r := some (.int r23)) ⟨dX5_store_41, _, rfl, rfl⟩ h
      · replace h := h.2 c18
        refine zJ.aload_n (pc := 24) 0 dX5_store_24 rfl rfl ?_
        refine zG.callVi (d := mdX5_store) (pc := 25) [] [] (ob_23 o) ok_23 rfl dX5_store_25 ⟨(cb_X5_bad).1, (cb_X5_bad).2, (Nat.le_of_ble_eq_true rfl), (Nat.le_of_ble_eq_true rfl)⟩ ml_X5_130 ci_X5_bad cv_X5_bad rfl (Nat.le_of_ble_eq_true rfl) (Nat.le_of_ble_eq_true rfl) rfl h (fun r26 S27 h2 => ?_)
        replace h := h2
        clear h2
        exact zG.ret (pc := 28) (r := some (.int r26)) ⟨dX5_store_28, _, rfl, rfl⟩ h
set_option maxRecDepth 100000 in
set_option maxHeartbeats 4000000 in
theorem w_X5_fence_0 (o : zW)  (S : zS) (Q : Option Value → zS → Prop) (h : zGv o 994 mdX5_leavesState [.ref (z_adr o (23, 0, 0))] S (fun S3 => zGi o 994 mdX5_done [.ref (z_adr o (23, 0, 0)), .int 2, .int 0, .int 0, .int 0] S3 (fun r5 S6 => Q (some (.int r5)) S6))) : zG o 994 mdX5_fence 0 [(0, .ref (z_adr o (23, 0, 0)))] [] S Q := by
  show zJ o mdX5_fence 0 _ [] (994, z_enc o S) 0 0 _
  refine zJ.aload_n (pc := 0) 0 dX5_fence_0 rfl rfl ?_
  refine zG.callVv (d := mdX5_fence) (pc := 1) [] [] (ob_23 o) ok_23 rfl dX5_fence_1 ⟨(cb_X5_leavesState).1, (cb_X5_leavesState).2, (Nat.le_of_ble_eq_true rfl), (Nat.le_of_ble_eq_true rfl)⟩ ml_X5_134 ci_X5_leavesState cv_X5_leavesState rfl (Nat.le_of_ble_eq_true rfl) (Nat.le_of_ble_eq_true rfl) rfl h (fun S3 h2 => ?_)
  replace h := h2
  clear h2
  refine zJ.aload_n (pc := 4) 0 dX5_fence_4 rfl rfl ?_
  refine zJ.iconst (pc := 5) (v := 2) dX5_fence_5 (by decide) ?_
  refine zJ.iconst (pc := 6) (v := 0) dX5_fence_6 (by decide) ?_
  refine zJ.iconst (pc := 7) (v := 0) dX5_fence_7 (by decide) ?_
  refine zJ.iconst (pc := 8) (v := 0) dX5_fence_8 (by decide) ?_
  refine zG.callVi (d := mdX5_fence) (pc := 9) [.int 2, .int 0, .int 0, .int 0] [] (ob_23 o) ok_23 rfl dX5_fence_9 ⟨(cb_X5_done).1, (cb_X5_done).2, (Nat.le_of_ble_eq_true rfl), (Nat.le_of_ble_eq_true rfl)⟩ ml_X5_203 ci_X5_done cv_X5_done rfl (Nat.le_of_ble_eq_true rfl) (Nat.le_of_ble_eq_true rfl) rfl h (fun r5 S6 h2 => ?_)
  replace h := h2
  clear h2
  exact zG.ret (pc := 12) (r := some (.int r5)) ⟨dX5_fence_12, _, rfl, rfl⟩ h
set_option maxRecDepth 100000 in
set_option maxHeartbeats 4000000 in
theorem w_X5_ticks_0 (o : zW) (x1 : Int32) (S : zS) (Q : Option Value → zS → Prop) (h : zGi o 994 mdX5_in [.int x1, .int 0, .int 99] S (fun r2 S3 => (¬ r2 = 0 → (zGv o 994 mdX5_leavesState [.ref (z_adr o (23, 0, 0))] S3 (fun S7 => zG o 994 mdX5_ticks 29 [(0, .ref (z_adr o (23, 0, 0))), (1, .int x1), (2, .int (S7.1 (40, 0, 0) 8)), (3, .int 0)] [] S7 Q))) ∧ (r2 = 0 → (zGi o 994 mdX5_bad [.ref (z_adr o (23, 0, 0))] S3 (fun r9 S10 => Q (some (.int r9)) S10))))) : zG o 994 mdX5_ticks 0 [(0, .ref (z_adr o (23, 0, 0))), (1, .int x1)] [] S Q := by
  show zJ o mdX5_ticks 0 _ [] (994, z_enc o S) 0 0 _
  refine zJ.iload_n (pc := 0) 1 dX5_ticks_0 rfl rfl ?_
  refine zJ.iconst (pc := 1) (v := 0) dX5_ticks_1 (by decide) ?_
  refine zJ.bipush (pc := 2) (v := 99) dX5_ticks_2 (by decide) ?_
  refine zG.callSi (d := mdX5_ticks) (pc := 4) [.int x1, .int 0, .int 99] [] dX5_ticks_4 ⟨(cb_X5_in).1, (cb_X5_in).2, (Nat.le_of_ble_eq_true rfl), (Nat.le_of_ble_eq_true rfl)⟩ ml_X5_101 cs_X5_in rfl (Nat.le_of_ble_eq_true rfl) (Nat.le_of_ble_eq_true rfl) rfl h (fun r2 S3 h2 => ?_)
  replace h := h2
  clear h2
  refine zJ.if_ne (pc := 7) (tgt := 15) dX5_ticks_7 (by decide) (fun c4 => ?_) (fun c4 => ?_)
  · replace h := h.1 c4
    refine zJ.aload_n (pc := 15) 0 dX5_ticks_15 rfl rfl ?_
    refine zG.callVv (d := mdX5_ticks) (pc := 16) [] [] (ob_23 o) ok_23 rfl dX5_ticks_16 ⟨(cb_X5_leavesState).1, (cb_X5_leavesState).2, (Nat.le_of_ble_eq_true rfl), (Nat.le_of_ble_eq_true rfl)⟩ ml_X5_134 ci_X5_leavesState cv_X5_leavesState rfl (Nat.le_of_ble_eq_true rfl) (Nat.le_of_ble_eq_true rfl) rfl h (fun S7 h2 => ?_)
    replace h := h2
    clear h2
    refine zJ.aload_n (pc := 19) 0 dX5_ticks_19 rfl rfl ?_
    refine zE.getV (pc := 20) (fd_23_16 o) ok_23 kiX5 (Nat.le_of_ble_eq_true rfl) fl_X5_58 dX5_ticks_20 ?_
    refine zJ.bipush (pc := 23) (v := 8) dX5_ticks_23 (by decide) ?_
    refine zE.aldI (pc := 25) (ia_40 o) ok_40 (by unfold vp_in; decide) dX5_ticks_25 ?_
    refine zJ.istore_n (pc := 26) (lv' := [(2, .int (S7.1 (40, 0, 0) 8)), (0, .ref (z_adr o (23, 0, 0))), (1, .int x1)]) dX5_ticks_26 rfl (Nat.le_of_ble_eq_true rfl) rfl ?_
    refine zJ.iconst (pc := 27) (v := 0) dX5_ticks_27 (by decide) ?_
    refine zJ.istore_n (pc := 28) (lv' := [(3, .int 0), (2, .int (S7.1 (40, 0, 0) 8)), (0, .ref (z_adr o (23, 0, 0))), (1, .int x1)]) dX5_ticks_28 rfl (Nat.le_of_ble_eq_true rfl) rfl ?_
    exact zJ.sub [2, 3, 1, 0] rfl h
  · replace h := h.2 c4
    refine zJ.aload_n (pc := 10) 0 dX5_ticks_10 rfl rfl ?_
    refine zG.callVi (d := mdX5_ticks) (pc := 11) [] [] (ob_23 o) ok_23 rfl dX5_ticks_11 ⟨(cb_X5_bad).1, (cb_X5_bad).2, (Nat.le_of_ble_eq_true rfl), (Nat.le_of_ble_eq_true rfl)⟩ ml_X5_130 ci_X5_bad cv_X5_bad rfl (Nat.le_of_ble_eq_true rfl) (Nat.le_of_ble_eq_true rfl) rfl h (fun r9 S10 h2 => ?_)
    replace h := h2
    clear h2
    exact zG.ret (pc := 14) (r := some (.int r9)) ⟨dX5_ticks_14, _, rfl, rfl⟩ h
set_option maxRecDepth 100000 in
set_option maxHeartbeats 4000000 in
theorem w_X5_ticks_29 (o : zW) (x1 : Int32) (x2 : Int32) (x3 : Int32) (S : zS) (Q : Option Value → zS → Prop) (h : (x1 ≤ x3 → (Q (some (.int ((S.1 (40, 0, 0) 8) - x2))) S)) ∧ (¬ x1 ≤ x3 → (zGv o 994 mdX5_goesBy [.ref (z_adr o (23, 0, 0))] S (fun S4 => zG o 994 mdX5_ticks 29 [(0, .ref (z_adr o (23, 0, 0))), (1, .int x1), (2, .int x2), (3, .int (x3 + 1))] [] S4 Q)))) : zG o 994 mdX5_ticks 29 [(0, .ref (z_adr o (23, 0, 0))), (1, .int x1), (2, .int x2), (3, .int x3)] [] S Q := by
  show zJ o mdX5_ticks 29 _ [] (994, z_enc o S) 0 0 _
  refine zJ.iload_n (pc := 29) 3 dX5_ticks_29 rfl rfl ?_
  refine zJ.iload_n (pc := 30) 1 dX5_ticks_30 rfl rfl ?_
  refine zJ.icmp_ge (pc := 31) (tgt := 44) dX5_ticks_31 (by decide) (fun c1 => ?_) (fun c1 => ?_)
  · replace h := h.1 c1
    refine zJ.aload_n (pc := 44) 0 dX5_ticks_44 rfl rfl ?_
    refine zE.getV (pc := 45) (fd_23_16 o) ok_23 kiX5 (Nat.le_of_ble_eq_true rfl) fl_X5_58 dX5_ticks_45 ?_
    refine zJ.bipush (pc := 48) (v := 8) dX5_ticks_48 (by decide) ?_
    refine zE.aldI (pc := 50) (ia_40 o) ok_40 (by unfold vp_in; decide) dX5_ticks_50 ?_
    refine zJ.iload_n (pc := 51) 2 dX5_ticks_51 rfl rfl ?_
    refine zJ.isub (pc := 52) dX5_ticks_52 ?_
    exact zG.ret (pc := 53) (r := some (.int ((S.1 (40, 0, 0) 8) - x2))) ⟨dX5_ticks_53, _, rfl, rfl⟩ h
  · replace h := h.2 c1
    refine zJ.aload_n (pc := 34) 0 dX5_ticks_34 rfl rfl ?_
    refine zG.callVv (d := mdX5_ticks) (pc := 35) [] [] (ob_23 o) ok_23 rfl dX5_ticks_35 ⟨(cb_X5_goesBy).1, (cb_X5_goesBy).2, (Nat.le_of_ble_eq_true rfl), (Nat.le_of_ble_eq_true rfl)⟩ ml_X5_188 ci_X5_goesBy cv_X5_goesBy rfl (Nat.le_of_ble_eq_true rfl) (Nat.le_of_ble_eq_true rfl) rfl h (fun S4 h2 => ?_)
    replace h := h2
    clear h2
    refine zJ.iinc (pc := 38) (k := 3) (lv' := [(3, .int (x3 + 1)), (0, .ref (z_adr o (23, 0, 0))), (1, .int x1), (2, .int x2)]) dX5_ticks_38 rfl rfl (Nat.le_of_ble_eq_true rfl) rfl ?_
    refine zJ.goto (pc := 41) (tgt := 29) dX5_ticks_41 (by decide) ?_
    exact zJ.sub [1, 2, 3, 0] rfl h
set_option maxRecDepth 100000 in
set_option maxHeartbeats 4000000 in
theorem w_X5_draw_0 (o : zW) (x1 : Int32) (x2 : Int32) (S : zS) (Q : Option Value → zS → Prop) (h : zGi o 994 mdX5_in [.int x1, .int 0, .int (999999 : Int32)] S (fun r2 S3 => (r2 = 0 → (zGi o 994 mdX5_bad [.ref (z_adr o (23, 0, 0))] S3 (fun r6 S7 => Q (some (.int r6)) S7))) ∧ (¬ r2 = 0 → (zGi o 994 mdX5_in [.int x2, .int 1, .int 40] S3 (fun r9 S10 => (¬ r9 = 0 → (zGv o 994 mdX5_leavesState [.ref (z_adr o (23, 0, 0))] S10 (fun S14 => zG o 994 mdX5_draw 44 [(0, .ref (z_adr o (23, 0, 0))), (2, .int x2), (3, .int (S14.1 (40, 0, 0) 9)), (4, .long x1.toInt64), (6, .int 0)] [] S14 Q))) ∧ (r9 = 0 → (zGi o 994 mdX5_bad [.ref (z_adr o (23, 0, 0))] S10 (fun r16 S17 => Q (some (.int r16)) S17)))))))) : zG o 994 mdX5_draw 0 [(0, .ref (z_adr o (23, 0, 0))), (1, .int x1), (2, .int x2)] [] S Q := by
  show zJ o mdX5_draw 0 _ [] (994, z_enc o S) 0 0 _
  refine zJ.iload_n (pc := 0) 1 dX5_draw_0 rfl rfl ?_
  refine zJ.iconst (pc := 1) (v := 0) dX5_draw_1 (by decide) ?_
  refine zJ.ldc (pc := 2) lc_X5_207 dX5_draw_2 ?_
  refine zG.callSi (d := mdX5_draw) (pc := 4) [.int x1, .int 0, .int (999999 : Int32)] [] dX5_draw_4 ⟨(cb_X5_in).1, (cb_X5_in).2, (Nat.le_of_ble_eq_true rfl), (Nat.le_of_ble_eq_true rfl)⟩ ml_X5_101 cs_X5_in rfl (Nat.le_of_ble_eq_true rfl) (Nat.le_of_ble_eq_true rfl) rfl h (fun r2 S3 h2 => ?_)
  replace h := h2
  clear h2
  refine zJ.if_eq (pc := 7) (tgt := 20) dX5_draw_7 (by decide) (fun c4 => ?_) (fun c4 => ?_)
  · replace h := h.1 c4
    refine zJ.aload_n (pc := 20) 0 dX5_draw_20 rfl rfl ?_
    refine zG.callVi (d := mdX5_draw) (pc := 21) [] [] (ob_23 o) ok_23 rfl dX5_draw_21 ⟨(cb_X5_bad).1, (cb_X5_bad).2, (Nat.le_of_ble_eq_true rfl), (Nat.le_of_ble_eq_true rfl)⟩ ml_X5_130 ci_X5_bad cv_X5_bad rfl (Nat.le_of_ble_eq_true rfl) (Nat.le_of_ble_eq_true rfl) rfl h (fun r6 S7 h2 => ?_)
    replace h := h2
    clear h2
    exact zG.ret (pc := 24) (r := some (.int r6)) ⟨dX5_draw_24, _, rfl, rfl⟩ h
  · replace h := h.2 c4
    refine zJ.iload_n (pc := 10) 2 dX5_draw_10 rfl rfl ?_
    refine zJ.iconst (pc := 11) (v := 1) dX5_draw_11 (by decide) ?_
    refine zJ.bipush (pc := 12) (v := 40) dX5_draw_12 (by decide) ?_
    refine zG.callSi (d := mdX5_draw) (pc := 14) [.int x2, .int 1, .int 40] [] dX5_draw_14 ⟨(cb_X5_in).1, (cb_X5_in).2, (Nat.le_of_ble_eq_true rfl), (Nat.le_of_ble_eq_true rfl)⟩ ml_X5_101 cs_X5_in rfl (Nat.le_of_ble_eq_true rfl) (Nat.le_of_ble_eq_true rfl) rfl h (fun r9 S10 h2 => ?_)
    replace h := h2
    clear h2
    refine zJ.if_ne (pc := 17) (tgt := 25) dX5_draw_17 (by decide) (fun c11 => ?_) (fun c11 => ?_)
    · replace h := h.1 c11
      refine zJ.aload_n (pc := 25) 0 dX5_draw_25 rfl rfl ?_
      refine zG.callVv (d := mdX5_draw) (pc := 26) [] [] (ob_23 o) ok_23 rfl dX5_draw_26 ⟨(cb_X5_leavesState).1, (cb_X5_leavesState).2, (Nat.le_of_ble_eq_true rfl), (Nat.le_of_ble_eq_true rfl)⟩ ml_X5_134 ci_X5_leavesState cv_X5_leavesState rfl (Nat.le_of_ble_eq_true rfl) (Nat.le_of_ble_eq_true rfl) rfl h (fun S14 h2 => ?_)
      replace h := h2
      clear h2
      refine zJ.aload_n (pc := 29) 0 dX5_draw_29 rfl rfl ?_
      refine zE.getV (pc := 30) (fd_23_16 o) ok_23 kiX5 (Nat.le_of_ble_eq_true rfl) fl_X5_58 dX5_draw_30 ?_
      refine zJ.bipush (pc := 33) (v := 9) dX5_draw_33 (by decide) ?_
      refine zE.aldI (pc := 35) (ia_40 o) ok_40 (by unfold vp_in; decide) dX5_draw_35 ?_
      refine zJ.istore_n (pc := 36) (lv' := [(3, .int (S14.1 (40, 0, 0) 9)), (0, .ref (z_adr o (23, 0, 0))), (1, .int x1), (2, .int x2)]) dX5_draw_36 rfl (Nat.le_of_ble_eq_true rfl) rfl ?_
      refine zJ.iload_n (pc := 37) 2 dX5_draw_37 rfl rfl ?_
      refine zJ.i2l (pc := 38) dX5_draw_38 ?_
      refine zJ.lstore (pc := 39) (lv' := [(4, .long x1.toInt64), (3, .int (S14.1 (40, 0, 0) 9)), (0, .ref (z_adr o (23, 0, 0))), (1, .int x1), (2, .int x2)]) dX5_draw_39 (Nat.le_of_ble_eq_true rfl) rfl ?_
      refine zJ.iconst (pc := 41) (v := 0) dX5_draw_41 (by decide) ?_
      refine zJ.istore (pc := 42) (lv' := [(6, .int 0), (4, .long x1.toInt64), (3, .int (S14.1 (40, 0, 0) 9)), (0, .ref (z_adr o (23, 0, 0))), (1, .int x1), (2, .int x2)]) dX5_draw_42 (Nat.le_of_ble_eq_true rfl) rfl ?_
      exact zJ.sub [3, 5, 2, 1, 0] rfl h
    · replace h := h.2 c11
      refine zJ.aload_n (pc := 20) 0 dX5_draw_20 rfl rfl ?_
      refine zG.callVi (d := mdX5_draw) (pc := 21) [] [] (ob_23 o) ok_23 rfl dX5_draw_21 ⟨(cb_X5_bad).1, (cb_X5_bad).2, (Nat.le_of_ble_eq_true rfl), (Nat.le_of_ble_eq_true rfl)⟩ ml_X5_130 ci_X5_bad cv_X5_bad rfl (Nat.le_of_ble_eq_true rfl) (Nat.le_of_ble_eq_true rfl) rfl h (fun r16 S17 h2 => ?_)
      replace h := h2
      clear h2
      exact zG.ret (pc := 24) (r := some (.int r16)) ⟨dX5_draw_24, _, rfl, rfl⟩ h
set_option maxRecDepth 100000 in
set_option maxHeartbeats 4000000 in
theorem w_X5_draw_44 (o : zW) (x2 : Int32) (x3 : Int32) (x4 : Int64) (x6 : Int32) (S : zS) (Q : Option Value → zS → Prop) (h : (x2 ≤ x6 → (Q (some (.int ((S.1 (40, 0, 0) 9) - x3))) S)) ∧ (¬ x2 ≤ x6 → (∀ y2 : Int32, y2 = (z_lcmp (((((x4 * (1103515245 : Int64)) + (12345 : Int64)) - ((x4 * (1103515245 : Int64)) + (12345 : Int64)) / (2147483648 : Int64) * (2147483648 : Int64)) / (32768 : Int64)) - ((((x4 * (1103515245 : Int64)) + (12345 : Int64)) - ((x4 * (1103515245 : Int64)) + (12345 : Int64)) / (2147483648 : Int64) * (2147483648 : Int64)) / (32768 : Int64)) / (3 : Int64) * (3 : Int64)) 0) → ((¬ y2 = 0 → (∀ y4 : Int32, y4 = ((((((x4 * (1103515245 : Int64)) + (12345 : Int64)) - ((x4 * (1103515245 : Int64)) + (12345 : Int64)) / (2147483648 : Int64) * (2147483648 : Int64)) / (65536 : Int64)) - ((((x4 * (1103515245 : Int64)) + (12345 : Int64)) - ((x4 * (1103515245 : Int64)) + (12345 : Int64)) / (2147483648 : Int64) * (2147483648 : Int64)) / (65536 : Int64)) / (16 : Int64) * (16 : Int64)).toInt32) → (∀ y5 : Int32, y5 = ((((((x4 * (1103515245 : Int64)) + (12345 : Int64)) - ((x4 * (1103515245 : Int64)) + (12345 : Int64)) / (2147483648 : Int64) * (2147483648 : Int64)) / (1024 : Int64)) - ((((x4 * (1103515245 : Int64)) + (12345 : Int64)) - ((x4 * (1103515245 : Int64)) + (12345 : Int64)) / (2147483648 : Int64) * (2147483648 : Int64)) / (1024 : Int64)) / (4 : Int64) * (4 : Int64)).toInt32) → (∀ y6 : Int32, y6 = ((((((x4 * (1103515245 : Int64)) + (12345 : Int64)) - ((x4 * (1103515245 : Int64)) + (12345 : Int64)) / (2147483648 : Int64) * (2147483648 : Int64)) / (2048 : Int64)) - ((((x4 * (1103515245 : Int64)) + (12345 : Int64)) - ((x4 * (1103515245 : Int64)) + (12345 : Int64)) / (2147483648 : Int64) * (2147483648 : Int64)) / (2048 : Int64)) / (100 : Int64) * (100 : Int64)).toInt32) → (zGi o 994 mdX5_done [.ref (z_adr o (23, 0, 0)), .int 0, .int y4, .int y5, .int y6] S (fun r8 S9 => zG o 994 mdX5_draw 44 [(0, .ref (z_adr o (23, 0, 0))), (2, .int x2), (3, .int x3), (4, .long (((x4 * (1103515245 : Int64)) + (12345 : Int64)) - ((x4 * (1103515245 : Int64)) + (12345 : Int64)) / (2147483648 : Int64) * (2147483648 : Int64))), (6, .int (x6 + 1))] [] S9 Q)))))) ∧ (y2 = 0 → (∀ y10 : Int32, y10 = ((((((x4 * (1103515245 : Int64)) + (12345 : Int64)) - ((x4 * (1103515245 : Int64)) + (12345 : Int64)) / (2147483648 : Int64) * (2147483648 : Int64)) / (65536 : Int64)) - ((((x4 * (1103515245 : Int64)) + (12345 : Int64)) - ((x4 * (1103515245 : Int64)) + (12345 : Int64)) / (2147483648 : Int64) * (2147483648 : Int64)) / (65536 : Int64)) / (16 : Int64) * (16 : Int64)).toInt32) → (∀ y11 : Int32, y11 = ((((((x4 * (1103515245 : Int64)) + (12345 : Int64)) - ((x4 * (1103515245 : Int64)) + (12345 : Int64)) / (2147483648 : Int64) * (2147483648 : Int64)) / (1024 : Int64)) - ((((x4 * (1103515245 : Int64)) + (12345 : Int64)) - ((x4 * (1103515245 : Int64)) + (12345 : Int64)) / (2147483648 : Int64) * (2147483648 : Int64)) / (1024 : Int64)) / (4 : Int64) * (4 : Int64)).toInt32) → (∀ y12 : Int32, y12 = ((((((x4 * (1103515245 : Int64)) + (12345 : Int64)) - ((x4 * (1103515245 : Int64)) + (12345 : Int64)) / (2147483648 : Int64) * (2147483648 : Int64)) / (2048 : Int64)) - ((((x4 * (1103515245 : Int64)) + (12345 : Int64)) - ((x4 * (1103515245 : Int64)) + (12345 : Int64)) / (2147483648 : Int64) * (2147483648 : Int64)) / (2048 : Int64)) / (100 : Int64) * (100 : Int64)).toInt32) → (zGi o 994 mdX5_done [.ref (z_adr o (23, 0, 0)), .int 1, .int y10, .int y11, .int y12] S (fun r14 S15 => zG o 994 mdX5_draw 44 [(0, .ref (z_adr o (23, 0, 0))), (2, .int x2), (3, .int x3), (4, .long (((x4 * (1103515245 : Int64)) + (12345 : Int64)) - ((x4 * (1103515245 : Int64)) + (12345 : Int64)) / (2147483648 : Int64) * (2147483648 : Int64))), (6, .int (x6 + 1))] [] S15 Q)))))))))) : zG o 994 mdX5_draw 44 [(0, .ref (z_adr o (23, 0, 0))), (2, .int x2), (3, .int x3), (4, .long x4), (6, .int x6)] [] S Q := by
  show zJ o mdX5_draw 44 _ [] (994, z_enc o S) 0 0 _
  refine zJ.iload (pc := 44) 4 dX5_draw_44 rfl ?_
  refine zJ.iload_n (pc := 46) 1 dX5_draw_46 rfl rfl ?_
  refine zJ.icmp_ge (pc := 47) (tgt := 134) dX5_draw_47 (by decide) (fun c1 => ?_) (fun c1 => ?_)
  · replace h := h.1 c1
    refine zJ.aload_n (pc := 134) 0 dX5_draw_134 rfl rfl ?_
    refine zE.getV (pc := 135) (fd_23_16 o) ok_23 kiX5 (Nat.le_of_ble_eq_true rfl) fl_X5_58 dX5_draw_135 ?_
    refine zJ.bipush (pc := 138) (v := 9) dX5_draw_138 (by decide) ?_
    refine zE.aldI (pc := 140) (ia_40 o) ok_40 (by unfold vp_in; decide) dX5_draw_140 ?_
    refine zJ.iload_n (pc := 141) 2 dX5_draw_141 rfl rfl ?_
    refine zJ.isub (pc := 142) dX5_draw_142 ?_
    exact zG.ret (pc := 143) (r := some (.int ((S.1 (40, 0, 0) 9) - x3))) ⟨dX5_draw_143, _, rfl, rfl⟩ h
  · replace h := h.2 c1
    refine zJ.lload (pc := 50) 3 dX5_draw_50 rfl ?_
    refine zJ.ldc2 (pc := 52) lc_X5_208 dX5_draw_52 ?_
    refine zJ.lmul (pc := 55) dX5_draw_55 ?_
    refine zJ.ldc2 (pc := 56) lc_X5_210 dX5_draw_56 ?_
    refine zJ.ladd (pc := 59) dX5_draw_59 ?_
    refine zJ.ldc2 (pc := 60) lc_X5_212 dX5_draw_60 ?_
    refine zJ.lrem (pc := 63) dX5_draw_63 (by decide) ?_
    refine zJ.lstore (pc := 64) (lv' := [(4, .long (((x4 * (1103515245 : Int64)) + (12345 : Int64)) - ((x4 * (1103515245 : Int64)) + (12345 : Int64)) / (2147483648 : Int64) * (2147483648 : Int64))), (0, .ref (z_adr o (23, 0, 0))), (2, .int x2), (3, .int x3), (6, .int x6)]) dX5_draw_64 (Nat.le_of_ble_eq_true rfl) rfl ?_
    refine zJ.lload (pc := 66) 0 dX5_draw_66 rfl ?_
    refine zJ.ldc2 (pc := 68) lc_X5_214 dX5_draw_68 ?_
    refine zJ.ldiv (pc := 71) dX5_draw_71 (by decide) ?_
    refine zJ.ldc2 (pc := 72) lc_X5_216 dX5_draw_72 ?_
    refine zJ.lrem (pc := 75) dX5_draw_75 (by decide) ?_
    refine zJ.lconst (pc := 76) (v := 0) dX5_draw_76 (by decide) ?_
    refine zJ.lcmp (pc := 77) dX5_draw_77 ?_
    refine zJ.topi (fun y2 hyy2 => ?_)
    replace h := h y2 hyy2
    refine zJ.if_ne (pc := 78) (tgt := 85) dX5_draw_78 (by decide) (fun c3 => ?_) (fun c3 => ?_)
    · replace h := h.1 c3
      refine zJ.iconst (pc := 85) (v := 0) dX5_draw_85 (by decide) ?_
      refine zJ.istore (pc := 86) (lv' := [(7, .int 0), (4, .long (((x4 * (1103515245 : Int64)) + (12345 : Int64)) - ((x4 * (1103515245 : Int64)) + (12345 : Int64)) / (2147483648 : Int64) * (2147483648 : Int64))), (0, .ref (z_adr o (23, 0, 0))), (2, .int x2), (3, .int x3), (6, .int x6)]) dX5_draw_86 (Nat.le_of_ble_eq_true rfl) rfl ?_
      refine zJ.aload_n (pc := 88) 2 dX5_draw_88 rfl rfl ?_
      refine zJ.iload (pc := 89) 0 dX5_draw_89 rfl ?_
      refine zJ.lload (pc := 91) 1 dX5_draw_91 rfl ?_
      refine zJ.ldc2 (pc := 93) lc_X5_218 dX5_draw_93 ?_
      refine zJ.ldiv (pc := 96) dX5_draw_96 (by decide) ?_
      refine zJ.ldc2 (pc := 97) lc_X5_220 dX5_draw_97 ?_
      refine zJ.lrem (pc := 100) dX5_draw_100 (by decide) ?_
      refine zJ.l2i (pc := 101) dX5_draw_101 ?_
      refine zJ.topi (fun y4 hyy4 => ?_)
      replace h := h y4 hyy4
      refine zJ.lload (pc := 102) 1 dX5_draw_102 rfl ?_
      refine zJ.ldc2 (pc := 104) lc_X5_222 dX5_draw_104 ?_
      refine zJ.ldiv (pc := 107) dX5_draw_107 (by decide) ?_
      refine zJ.ldc2 (pc := 108) lc_X5_224 dX5_draw_108 ?_
      refine zJ.lrem (pc := 111) dX5_draw_111 (by decide) ?_
      refine zJ.l2i (pc := 112) dX5_draw_112 ?_
      refine zJ.topi (fun y5 hyy5 => ?_)
      replace h := h y5 hyy5
      refine zJ.lload (pc := 113) 1 dX5_draw_113 rfl ?_
      refine zJ.ldc2 (pc := 115) lc_X5_226 dX5_draw_115 ?_
      refine zJ.ldiv (pc := 118) dX5_draw_118 (by decide) ?_
      refine zJ.ldc2 (pc := 119) lc_X5_228 dX5_draw_119 ?_
      refine zJ.lrem (pc := 122) dX5_draw_122 (by decide) ?_
      refine zJ.l2i (pc := 123) dX5_draw_123 ?_
      refine zJ.topi (fun y6 hyy6 => ?_)
      replace h := h y6 hyy6
      refine zG.callVi (d := mdX5_draw) (pc := 124) [.int 0, .int y4, .int y5, .int y6] [] (ob_23 o) ok_23 rfl dX5_draw_124 ⟨(cb_X5_done).1, (cb_X5_done).2, (Nat.le_of_ble_eq_true rfl), (Nat.le_of_ble_eq_true rfl)⟩ ml_X5_203 ci_X5_done cv_X5_done rfl (Nat.le_of_ble_eq_true rfl) (Nat.le_of_ble_eq_true rfl) rfl h (fun r8 S9 h2 => ?_)
      replace h := h2
      clear h2
      refine zJ.pop (pc := 127) dX5_draw_127 rfl ?_
      refine zJ.iinc (pc := 128) (k := 5) (lv' := [(6, .int (x6 + 1)), (7, .int 0), (4, .long (((x4 * (1103515245 : Int64)) + (12345 : Int64)) - ((x4 * (1103515245 : Int64)) + (12345 : Int64)) / (2147483648 : Int64) * (2147483648 : Int64))), (0, .ref (z_adr o (23, 0, 0))), (2, .int x2), (3, .int x3)]) dX5_draw_128 rfl rfl (Nat.le_of_ble_eq_true rfl) rfl ?_
      refine zJ.goto (pc := 131) (tgt := 44) dX5_draw_131 (by decide) ?_
      exact zJ.sub [3, 4, 5, 2, 0] rfl h
    · replace h := h.2 c3
      refine zJ.iconst (pc := 81) (v := 1) dX5_draw_81 (by decide) ?_
      refine zJ.goto (pc := 82) (tgt := 86) dX5_draw_82 (by decide) ?_
      refine zJ.istore (pc := 86) (lv' := [(7, .int 1), (4, .long (((x4 * (1103515245 : Int64)) + (12345 : Int64)) - ((x4 * (1103515245 : Int64)) + (12345 : Int64)) / (2147483648 : Int64) * (2147483648 : Int64))), (0, .ref (z_adr o (23, 0, 0))), (2, .int x2), (3, .int x3), (6, .int x6)]) dX5_draw_86 (Nat.le_of_ble_eq_true rfl) rfl ?_
      refine zJ.aload_n (pc := 88) 2 dX5_draw_88 rfl rfl ?_
      refine zJ.iload (pc := 89) 0 dX5_draw_89 rfl ?_
      refine zJ.lload (pc := 91) 1 dX5_draw_91 rfl ?_
      refine zJ.ldc2 (pc := 93) lc_X5_218 dX5_draw_93 ?_
      refine zJ.ldiv (pc := 96) dX5_draw_96 (by decide) ?_
      refine zJ.ldc2 (pc := 97) lc_X5_220 dX5_draw_97 ?_
      refine zJ.lrem (pc := 100) dX5_draw_100 (by decide) ?_
      refine zJ.l2i (pc := 101) dX5_draw_101 ?_
      refine zJ.topi (fun y10 hyy10 => ?_)
      replace h := h y10 hyy10
      refine zJ.lload (pc := 102) 1 dX5_draw_102 rfl ?_
      refine zJ.ldc2 (pc := 104) lc_X5_222 dX5_draw_104 ?_
      refine zJ.ldiv (pc := 107) dX5_draw_107 (by decide) ?_
      refine zJ.ldc2 (pc := 108) lc_X5_224 dX5_draw_108 ?_
      refine zJ.lrem (pc := 111) dX5_draw_111 (by decide) ?_
      refine zJ.l2i (pc := 112) dX5_draw_112 ?_
      refine zJ.topi (fun y11 hyy11 => ?_)
      replace h := h y11 hyy11
      refine zJ.lload (pc := 113) 1 dX5_draw_113 rfl ?_
      refine zJ.ldc2 (pc := 115) lc_X5_226 dX5_draw_115 ?_
      refine zJ.ldiv (pc := 118) dX5_draw_118 (by decide) ?_
      refine zJ.ldc2 (pc := 119) lc_X5_228 dX5_draw_119 ?_
      refine zJ.lrem (pc := 122) dX5_draw_122 (by decide) ?_
      refine zJ.l2i (pc := 123) dX5_draw_123 ?_
      refine zJ.topi (fun y12 hyy12 => ?_)
      replace h := h y12 hyy12
      refine zG.callVi (d := mdX5_draw) (pc := 124) [.int 1, .int y10, .int y11, .int y12] [] (ob_23 o) ok_23 rfl dX5_draw_124 ⟨(cb_X5_done).1, (cb_X5_done).2, (Nat.le_of_ble_eq_true rfl), (Nat.le_of_ble_eq_true rfl)⟩ ml_X5_203 ci_X5_done cv_X5_done rfl (Nat.le_of_ble_eq_true rfl) (Nat.le_of_ble_eq_true rfl) rfl h (fun r14 S15 h2 => ?_)
      replace h := h2
      clear h2
      refine zJ.pop (pc := 127) dX5_draw_127 rfl ?_
      refine zJ.iinc (pc := 128) (k := 5) (lv' := [(6, .int (x6 + 1)), (7, .int 1), (4, .long (((x4 * (1103515245 : Int64)) + (12345 : Int64)) - ((x4 * (1103515245 : Int64)) + (12345 : Int64)) / (2147483648 : Int64) * (2147483648 : Int64))), (0, .ref (z_adr o (23, 0, 0))), (2, .int x2), (3, .int x3)]) dX5_draw_128 rfl rfl (Nat.le_of_ble_eq_true rfl) rfl ?_
      refine zJ.goto (pc := 131) (tgt := 44) dX5_draw_131 (by decide) ?_
      exact zJ.sub [3, 4, 5, 2, 0] rfl h
set_option maxRecDepth 100000 in
set_option maxHeartbeats 4000000 in
theorem w_X5_got_0 (o : zW) (x1 : Int32) (x2 : Int32) (S : zS) (Q : Option Value → zS → Prop) (h : (x1 < 0 → (zGi o 994 mdX5_bad [.ref (z_adr o (23, 0, 0))] S (fun r3 S4 => Q (some (.int r3)) S4))) ∧ (¬ x1 < 0 → (zGi o 994 mdX5_in [.int x2, .int 0, .int 2] S (fun r6 S7 => (¬ r6 = 0 → (((S7.1 (40, 0, 0) 7) ≤ x1 → (Q (some (.int (-1))) S7)) ∧ (¬ (S7.1 (40, 0, 0) 7) ≤ x1 → ((x1 < 200 → ((¬ x2 = 0 → ((¬ x2 = 1 → (vp_in x1 200 ∧ (Q (some (.int (S7.1 (43, 0, 0) x1.toNatClampNeg))) S7))) ∧ (x2 = 1 → (vp_in x1 200 ∧ (Q (some (.int (S7.1 (42, 0, 0) x1.toNatClampNeg))) S7))))) ∧ (x2 = 0 → (vp_in x1 200 ∧ (Q (some (.int (S7.1 (41, 0, 0) x1.toNatClampNeg))) S7))))) ∧ (¬ x1 < 200 → (Q (some (.int (-1))) S7)))))) ∧ (r6 = 0 → (zGi o 994 mdX5_bad [.ref (z_adr o (23, 0, 0))] S7 (fun r14 S15 => Q (some (.int r14)) S15))))))) : zG o 994 mdX5_got 0 [(0, .ref (z_adr o (23, 0, 0))), (1, .int x1), (2, .int x2)] [] S Q := by
  show zJ o mdX5_got 0 _ [] (994, z_enc o S) 0 0 _
  refine zJ.iload_n (pc := 0) 1 dX5_got_0 rfl rfl ?_
  refine zJ.if_lt (pc := 1) (tgt := 13) dX5_got_1 (by decide) (fun c1 => ?_) (fun c1 => ?_)
  · replace h := h.1 c1
    refine zJ.aload_n (pc := 13) 0 dX5_got_13 rfl rfl ?_
    refine zG.callVi (d := mdX5_got) (pc := 14) [] [] (ob_23 o) ok_23 rfl dX5_got_14 ⟨(cb_X5_bad).1, (cb_X5_bad).2, (Nat.le_of_ble_eq_true rfl), (Nat.le_of_ble_eq_true rfl)⟩ ml_X5_130 ci_X5_bad cv_X5_bad rfl (Nat.le_of_ble_eq_true rfl) (Nat.le_of_ble_eq_true rfl) rfl h (fun r3 S4 h2 => ?_)
    replace h := h2
    clear h2
    exact zG.ret (pc := 17) (r := some (.int r3)) ⟨dX5_got_17, _, rfl, rfl⟩ h
  · replace h := h.2 c1
    refine zJ.iload_n (pc := 4) 2 dX5_got_4 rfl rfl ?_
    refine zJ.iconst (pc := 5) (v := 0) dX5_got_5 (by decide) ?_
    refine zJ.iconst (pc := 6) (v := 2) dX5_got_6 (by decide) ?_
    refine zG.callSi (d := mdX5_got) (pc := 7) [.int x2, .int 0, .int 2] [] dX5_got_7 ⟨(cb_X5_in).1, (cb_X5_in).2, (Nat.le_of_ble_eq_true rfl), (Nat.le_of_ble_eq_true rfl)⟩ ml_X5_101 cs_X5_in rfl (Nat.le_of_ble_eq_true rfl) (Nat.le_of_ble_eq_true rfl) rfl h (fun r6 S7 h2 => ?_)
    replace h := h2
    clear h2
    refine zJ.if_ne (pc := 10) (tgt := 18) dX5_got_10 (by decide) (fun c8 => ?_) (fun c8 => ?_)
    · replace h := h.1 c8
      refine zJ.iload_n (pc := 18) 1 dX5_got_18 rfl rfl ?_
      refine zJ.aload_n (pc := 19) 0 dX5_got_19 rfl rfl ?_
      refine zE.getV (pc := 20) (fd_23_16 o) ok_23 kiX5 (Nat.le_of_ble_eq_true rfl) fl_X5_58 dX5_got_20 ?_
      refine zJ.bipush (pc := 23) (v := 7) dX5_got_23 (by decide) ?_
      refine zE.aldI (pc := 25) (ia_40 o) ok_40 (by unfold vp_in; decide) dX5_got_25 ?_
      refine zJ.icmp_ge (pc := 26) (tgt := 36) dX5_got_26 (by decide) (fun c9 => ?_) (fun c9 => ?_)
      · replace h := h.1 c9
        refine zJ.iconst (pc := 36) (v := (-1)) dX5_got_36 (by decide) ?_
        exact zG.ret (pc := 37) (r := some (.int (-1))) ⟨dX5_got_37, _, rfl, rfl⟩ h
      · replace h := h.2 c9
        refine zJ.iload_n (pc := 29) 1 dX5_got_29 rfl rfl ?_
        refine zJ.sipush (pc := 30) (v := 200) dX5_got_30 (by decide) ?_
        refine zJ.icmp_lt (pc := 33) (tgt := 38) dX5_got_33 (by decide) (fun c10 => ?_) (fun c10 => ?_)
        · replace h := h.1 c10
          refine zJ.iload_n (pc := 38) 2 dX5_got_38 rfl rfl ?_
          refine zJ.if_ne (pc := 39) (tgt := 51) dX5_got_39 (by decide) (fun c11 => ?_) (fun c11 => ?_)
          · replace h := h.1 c11
            refine zJ.iload_n (pc := 51) 2 dX5_got_51 rfl rfl ?_
            refine zJ.iconst (pc := 52) (v := 1) dX5_got_52 (by decide) ?_
            refine zJ.icmp_ne (pc := 53) (tgt := 65) dX5_got_53 (by decide) (fun c12 => ?_) (fun c12 => ?_)
            · replace h := h.1 c12
              refine zJ.aload_n (pc := 65) 0 dX5_got_65 rfl rfl ?_
              refine zE.getV (pc := 66) (fd_23_19 o) ok_23 kiX5 (Nat.le_of_ble_eq_true rfl) fl_X5_67 dX5_got_66 ?_
              refine zJ.iload_n (pc := 69) 1 dX5_got_69 rfl rfl ?_
              obtain ⟨hq, h⟩ := h
              refine zE.aldI (pc := 70) (ia_43 o) ok_43 hq dX5_got_70 ?_
              exact zG.ret (pc := 71) (r := some (.int (S7.1 (43, 0, 0) x1.toNatClampNeg))) ⟨dX5_got_71, _, rfl, rfl⟩ h
            · replace h := h.2 c12
              refine zJ.aload_n (pc := 56) 0 dX5_got_56 rfl rfl ?_
              refine zE.getV (pc := 57) (fd_23_18 o) ok_23 kiX5 (Nat.le_of_ble_eq_true rfl) fl_X5_64 dX5_got_57 ?_
              refine zJ.iload_n (pc := 60) 1 dX5_got_60 rfl rfl ?_
              obtain ⟨hq, h⟩ := h
              refine zE.aldI (pc := 61) (ia_42 o) ok_42 hq dX5_got_61 ?_
              refine zJ.goto (pc := 62) (tgt := 71) dX5_got_62 (by decide) ?_
              exact zG.ret (pc := 71) (r := some (.int (S7.1 (42, 0, 0) x1.toNatClampNeg))) ⟨dX5_got_71, _, rfl, rfl⟩ h
          · replace h := h.2 c11
            refine zJ.aload_n (pc := 42) 0 dX5_got_42 rfl rfl ?_
            refine zE.getV (pc := 43) (fd_23_17 o) ok_23 kiX5 (Nat.le_of_ble_eq_true rfl) fl_X5_61 dX5_got_43 ?_
            refine zJ.iload_n (pc := 46) 1 dX5_got_46 rfl rfl ?_
            obtain ⟨hq, h⟩ := h
            refine zE.aldI (pc := 47) (ia_41 o) ok_41 hq dX5_got_47 ?_
            refine zJ.goto (pc := 48) (tgt := 71) dX5_got_48 (by decide) ?_
            exact zG.ret (pc := 71) (r := some (.int (S7.1 (41, 0, 0) x1.toNatClampNeg))) ⟨dX5_got_71, _, rfl, rfl⟩ h
        · replace h := h.2 c10
          refine zJ.iconst (pc := 36) (v := (-1)) dX5_got_36 (by decide) ?_
          exact zG.ret (pc := 37) (r := some (.int (-1))) ⟨dX5_got_37, _, rfl, rfl⟩ h
    · replace h := h.2 c8
      refine zJ.aload_n (pc := 13) 0 dX5_got_13 rfl rfl ?_
      refine zG.callVi (d := mdX5_got) (pc := 14) [] [] (ob_23 o) ok_23 rfl dX5_got_14 ⟨(cb_X5_bad).1, (cb_X5_bad).2, (Nat.le_of_ble_eq_true rfl), (Nat.le_of_ble_eq_true rfl)⟩ ml_X5_130 ci_X5_bad cv_X5_bad rfl (Nat.le_of_ble_eq_true rfl) (Nat.le_of_ble_eq_true rfl) rfl h (fun r14 S15 h2 => ?_)
      replace h := h2
      clear h2
      exact zG.ret (pc := 17) (r := some (.int r14)) ⟨dX5_got_17, _, rfl, rfl⟩ h
