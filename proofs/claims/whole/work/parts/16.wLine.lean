set_option maxRecDepth 100000 in
set_option maxHeartbeats 4000000 in
theorem w_X4_sets_0 (o : zW) (x1 : Int32) (x2 : Int32) (S : zS) (Q : Option Value → zS → Prop) (h : (x1 < 0 → (zGi o 994 mdX4_refuse [.ref (z_adr o (0, 0, 0)), .int (-2)] S (fun r3 S4 => Q (some (.int r3)) S4))) ∧ (¬ x1 < 0 → ((5 ≤ x1 → (zGi o 994 mdX4_refuse [.ref (z_adr o (0, 0, 0)), .int (-2)] S (fun r7 S8 => Q (some (.int r7)) S8))) ∧ (¬ 5 ≤ x1 → (vp_in x1 5 ∧ ((x2 < (z_st 1 x1.toNatClampNeg) → (zGi o 994 mdX4_refuse [.ref (z_adr o (0, 0, 0)), .int (-2)] S (fun r11 S12 => Q (some (.int r11)) S12))) ∧ (¬ x2 < (z_st 1 x1.toNatClampNeg) → (vp_in x1 5 ∧ ((x2 ≤ (z_st 2 x1.toNatClampNeg) → (zGv o 994 mdX4_keep [.ref (z_adr o (0, 0, 0))] S (fun S16 => vp_in x1 5 ∧ (vp_in x1 5 ∧ (zGv o 994 mdX2_renew [.ref (z_adr o (1, 0, 0))] (sI S16 (2, 0, 0) (x1.toNatClampNeg) x2) (fun S19 => Q (some (.int (S16.1 (2, 0, 0) x1.toNatClampNeg))) S19)))))) ∧ (¬ x2 ≤ (z_st 2 x1.toNatClampNeg) → (zGi o 994 mdX4_refuse [.ref (z_adr o (0, 0, 0)), .int (-2)] S (fun r21 S22 => Q (some (.int r21)) S22)))))))))))) : zG o 994 mdX4_sets 0 [(0, .ref (z_adr o (0, 0, 0))), (1, .int x1), (2, .int x2)] [] S Q := by
  show zJ o mdX4_sets 0 _ [] (994, z_enc o S) 0 0 _
  refine zJ.iload_n 1 dX4_sets_0 rfl rfl ?_
  refine zJ.if_lt (tgt := 30) dX4_sets_1 (by decide) (fun c1 => ?_) (fun c1 => ?_)
  · replace h := h.1 c1
    refine zJ.aload_n 0 dX4_sets_30 rfl rfl ?_
    refine zJ.bipush (v := (-2)) dX4_sets_31 (by decide) ?_
    refine zG.callVi [.int (-2)] [] (ob_0 o) ok_0 rfl dX4_sets_33 ⟨(cb_X4_refuse).1, (cb_X4_refuse).2, (Nat.le_of_ble_eq_true rfl), (Nat.le_of_ble_eq_true rfl)⟩ ml_X4_47 ci_X4_refuse cv_X4_refuse rfl (Nat.le_of_ble_eq_true rfl) (Nat.le_of_ble_eq_true rfl) rfl h (fun r3 S4 h2 => ?_)
    replace h := h2
    clear h2
    exact zG.ret (r := some (.int r3)) ⟨dX4_sets_36, _, rfl, rfl⟩ h
  · replace h := h.2 c1
    refine zJ.iload_n 1 dX4_sets_4 rfl rfl ?_
    refine zJ.gets (i := 1) (by decide) fl_X4_41 dX4_sets_5 ?_
    refine zJ.slen (i := 1) (by decide) dX4_sets_8 ?_
    refine zJ.icmp_ge (tgt := 30) dX4_sets_9 (by decide) (fun c5 => ?_) (fun c5 => ?_)
    · replace h := h.1 c5
      refine zJ.aload_n 0 dX4_sets_30 rfl rfl ?_
      refine zJ.bipush (v := (-2)) dX4_sets_31 (by decide) ?_
      refine zG.callVi [.int (-2)] [] (ob_0 o) ok_0 rfl dX4_sets_33 ⟨(cb_X4_refuse).1, (cb_X4_refuse).2, (Nat.le_of_ble_eq_true rfl), (Nat.le_of_ble_eq_true rfl)⟩ ml_X4_47 ci_X4_refuse cv_X4_refuse rfl (Nat.le_of_ble_eq_true rfl) (Nat.le_of_ble_eq_true rfl) rfl h (fun r7 S8 h2 => ?_)
      replace h := h2
      clear h2
      exact zG.ret (r := some (.int r7)) ⟨dX4_sets_36, _, rfl, rfl⟩ h
    · replace h := h.2 c5
      refine zJ.iload_n 2 dX4_sets_12 rfl rfl ?_
      refine zJ.gets (i := 1) (by decide) fl_X4_41 dX4_sets_13 ?_
      refine zJ.iload_n 1 dX4_sets_16 rfl rfl ?_
      obtain ⟨hq, h⟩ := h
      refine zJ.sald (i := 1) (by decide) dX4_sets_17 hq ?_
      refine zJ.icmp_lt (tgt := 30) dX4_sets_18 (by decide) (fun c9 => ?_) (fun c9 => ?_)
      · replace h := h.1 c9
        refine zJ.aload_n 0 dX4_sets_30 rfl rfl ?_
        refine zJ.bipush (v := (-2)) dX4_sets_31 (by decide) ?_
        refine zG.callVi [.int (-2)] [] (ob_0 o) ok_0 rfl dX4_sets_33 ⟨(cb_X4_refuse).1, (cb_X4_refuse).2, (Nat.le_of_ble_eq_true rfl), (Nat.le_of_ble_eq_true rfl)⟩ ml_X4_47 ci_X4_refuse cv_X4_refuse rfl (Nat.le_of_ble_eq_true rfl) (Nat.le_of_ble_eq_true rfl) rfl h (fun r11 S12 h2 => ?_)
        replace h := h2
        clear h2
        exact zG.ret (r := some (.int r11)) ⟨dX4_sets_36, _, rfl, rfl⟩ h
      · replace h := h.2 c9
        refine zJ.iload_n 2 dX4_sets_21 rfl rfl ?_
        refine zJ.gets (i := 2) (by decide) fl_X4_44 dX4_sets_22 ?_
        refine zJ.iload_n 1 dX4_sets_25 rfl rfl ?_
        obtain ⟨hq, h⟩ := h
        refine zJ.sald (i := 2) (by decide) dX4_sets_26 hq ?_
        refine zJ.icmp_le (tgt := 37) dX4_sets_27 (by decide) (fun c13 => ?_) (fun c13 => ?_)
        · replace h := h.1 c13
          refine zJ.aload_n 0 dX4_sets_37 rfl rfl ?_
          refine zG.callVv [] [] (ob_0 o) ok_0 rfl dX4_sets_38 ⟨(cb_X4_keep).1, (cb_X4_keep).2, (Nat.le_of_ble_eq_true rfl), (Nat.le_of_ble_eq_true rfl)⟩ ml_X4_51 ci_X4_keep cv_X4_keep rfl (Nat.le_of_ble_eq_true rfl) (Nat.le_of_ble_eq_true rfl) rfl h (fun S16 h2 => ?_)
          replace h := h2
          clear h2
          refine zJ.aload_n 0 dX4_sets_41 rfl rfl ?_
          refine zE.getV (fd_0_0 o) ok_0 kiX4 (Nat.le_of_ble_eq_true rfl) fl_X4_10 dX4_sets_42 ?_
          refine zE.getV (fd_1_0 o 0) (ok_1 (show 0 < 8 by decide) (z_sb_le (show 0 < 8 by decide))) kiX2 (Nat.le_of_ble_eq_true rfl) fl_X4_54 dX4_sets_45 ?_
          refine zJ.iload_n 1 dX4_sets_48 rfl rfl ?_
          obtain ⟨hq, h⟩ := h
          refine zE.aldI (ia_2 o 0) (ok_2 (show 0 < 8 by decide) (z_sb_le (show 0 < 8 by decide))) hq dX4_sets_49 ?_
          refine zJ.istore_n (lv' := [(3, .int (S16.1 (2, 0, 0) x1.toNatClampNeg)), (0, .ref (z_adr o (0, 0, 0))), (1, .int x1), (2, .int x2)]) dX4_sets_50 rfl (Nat.le_of_ble_eq_true rfl) rfl ?_
          refine zJ.aload_n 1 dX4_sets_51 rfl rfl ?_
          refine zE.getV (fd_0_0 o) ok_0 kiX4 (Nat.le_of_ble_eq_true rfl) fl_X4_10 dX4_sets_52 ?_
          refine zE.getV (fd_1_0 o 0) (ok_1 (show 0 < 8 by decide) (z_sb_le (show 0 < 8 by decide))) kiX2 (Nat.le_of_ble_eq_true rfl) fl_X4_54 dX4_sets_55 ?_
          refine zJ.iload_n 2 dX4_sets_58 rfl rfl ?_
          refine zJ.iload_n 3 dX4_sets_59 rfl rfl ?_
          obtain ⟨hq, h⟩ := h
          refine zE.astI (ia_2 o 0) (ok_2 (show 0 < 8 by decide) (z_sb_le (show 0 < 8 by decide))) hq dX4_sets_60 ?_
          refine zJ.aload_n 1 dX4_sets_61 rfl rfl ?_
          refine zE.getV (fd_0_0 o) ok_0 kiX4 (Nat.le_of_ble_eq_true rfl) fl_X4_10 dX4_sets_62 ?_
          refine zG.callVv [] [] (ob_1 o 0) (ok_1 (show 0 < 8 by decide) (z_sb_le (show 0 < 8 by decide))) rfl dX4_sets_65 ⟨(cb_X2_renew).1, (cb_X2_renew).2, (Nat.le_of_ble_eq_true rfl), (Nat.le_of_ble_eq_true rfl)⟩ ml_X4_57 ci_X2_renew cv_X2_renew rfl (Nat.le_of_ble_eq_true rfl) (Nat.le_of_ble_eq_true rfl) rfl h (fun S19 h2 => ?_)
          replace h := h2
          clear h2
          refine zJ.iload_n 0 dX4_sets_68 rfl rfl ?_
          exact zG.ret (r := some (.int (S16.1 (2, 0, 0) x1.toNatClampNeg))) ⟨dX4_sets_69, _, rfl, rfl⟩ h
        · replace h := h.2 c13
          refine zJ.aload_n 0 dX4_sets_30 rfl rfl ?_
          refine zJ.bipush (v := (-2)) dX4_sets_31 (by decide) ?_
          refine zG.callVi [.int (-2)] [] (ob_0 o) ok_0 rfl dX4_sets_33 ⟨(cb_X4_refuse).1, (cb_X4_refuse).2, (Nat.le_of_ble_eq_true rfl), (Nat.le_of_ble_eq_true rfl)⟩ ml_X4_47 ci_X4_refuse cv_X4_refuse rfl (Nat.le_of_ble_eq_true rfl) (Nat.le_of_ble_eq_true rfl) rfl h (fun r21 S22 h2 => ?_)
          replace h := h2
          clear h2
          exact zG.ret (r := some (.int r21)) ⟨dX4_sets_36, _, rfl, rfl⟩ h
set_option maxRecDepth 100000 in
set_option maxHeartbeats 4000000 in
theorem w_X4_anew_0 (o : zW)  (S : zS) (Q : Option Value → zS → Prop) (h : zGv o 994 mdX4_keep [.ref (z_adr o (0, 0, 0))] S (fun S3 => zGv o 994 mdX2_renew [.ref (z_adr o (1, 0, 0))] S3 (fun S6 => Q (some (.int (S3.1 (3, 0, 0) 9))) S6))) : zG o 994 mdX4_anew 0 [(0, .ref (z_adr o (0, 0, 0)))] [] S Q := by
  show zJ o mdX4_anew 0 _ [] (994, z_enc o S) 0 0 _
  refine zJ.aload_n 0 dX4_anew_0 rfl rfl ?_
  refine zG.callVv [] [] (ob_0 o) ok_0 rfl dX4_anew_1 ⟨(cb_X4_keep).1, (cb_X4_keep).2, (Nat.le_of_ble_eq_true rfl), (Nat.le_of_ble_eq_true rfl)⟩ ml_X4_51 ci_X4_keep cv_X4_keep rfl (Nat.le_of_ble_eq_true rfl) (Nat.le_of_ble_eq_true rfl) rfl h (fun S3 h2 => ?_)
  replace h := h2
  clear h2
  refine zJ.aload_n 0 dX4_anew_4 rfl rfl ?_
  refine zE.getV (fd_0_0 o) ok_0 kiX4 (Nat.le_of_ble_eq_true rfl) fl_X4_10 dX4_anew_5 ?_
  refine zE.getV (fd_1_1 o 0) (ok_1 (show 0 < 8 by decide) (z_sb_le (show 0 < 8 by decide))) kiX2 (Nat.le_of_ble_eq_true rfl) fl_X4_60 dX4_anew_8 ?_
  refine zJ.bipush (v := 9) dX4_anew_11 (by decide) ?_
  refine zE.aldI (ia_3 o 0) (ok_3 (show 0 < 8 by decide) (z_sb_le (show 0 < 8 by decide))) (by unfold vp_in; decide) dX4_anew_13 ?_
  refine zJ.istore_n (lv' := [(1, .int (S3.1 (3, 0, 0) 9)), (0, .ref (z_adr o (0, 0, 0)))]) dX4_anew_14 rfl (Nat.le_of_ble_eq_true rfl) rfl ?_
  refine zJ.aload_n 1 dX4_anew_15 rfl rfl ?_
  refine zE.getV (fd_0_0 o) ok_0 kiX4 (Nat.le_of_ble_eq_true rfl) fl_X4_10 dX4_anew_16 ?_
  refine zG.callVv [] [] (ob_1 o 0) (ok_1 (show 0 < 8 by decide) (z_sb_le (show 0 < 8 by decide))) rfl dX4_anew_19 ⟨(cb_X2_renew).1, (cb_X2_renew).2, (Nat.le_of_ble_eq_true rfl), (Nat.le_of_ble_eq_true rfl)⟩ ml_X4_57 ci_X2_renew cv_X2_renew rfl (Nat.le_of_ble_eq_true rfl) (Nat.le_of_ble_eq_true rfl) rfl h (fun S6 h2 => ?_)
  replace h := h2
  clear h2
  refine zJ.iload_n 0 dX4_anew_22 rfl rfl ?_
  exact zG.ret (r := some (.int (S3.1 (3, 0, 0) 9))) ⟨dX4_anew_23, _, rfl, rfl⟩ h
set_option maxRecDepth 100000 in
set_option maxHeartbeats 4000000 in
theorem w_X4_load_0 (o : zW) (x1 : Int32) (x2 : Int32) (S : zS) (Q : Option Value → zS → Prop) (h : zGi o 994 mdX4_isBox [.int x1] S (fun r2 S3 => (r2 = 0 → (zGi o 994 mdX4_refuse [.ref (z_adr o (0, 0, 0)), .int (-2)] S3 (fun r6 S7 => Q (some (.int r6)) S7))) ∧ (¬ r2 = 0 → (zGi o 994 mdX4_isItem [.int x2] S3 (fun r9 S10 => (¬ r9 = 0 → (zGv o 994 mdX4_keep [.ref (z_adr o (0, 0, 0))] S10 (fun S14 => vp_in x1 16 ∧ (zGi o 994 mdX2_begin [.ref (z_adr o (1, 0, 0)), .ref (z_adr o (5, 0, x1.toNatClampNeg)), .int x2, .int (-1)] S14 (fun r17 S18 => Q (some (.int r17)) S18))))) ∧ (r9 = 0 → (zGi o 994 mdX4_refuse [.ref (z_adr o (0, 0, 0)), .int (-2)] S10 (fun r20 S21 => Q (some (.int r20)) S21)))))))) : zG o 994 mdX4_load 0 [(0, .ref (z_adr o (0, 0, 0))), (1, .int x1), (2, .int x2)] [] S Q := by
  show zJ o mdX4_load 0 _ [] (994, z_enc o S) 0 0 _
  refine zJ.iload_n 1 dX4_load_0 rfl rfl ?_
  refine zG.callSi [.int x1] [] dX4_load_1 ⟨(cb_X4_isBox).1, (cb_X4_isBox).2, (Nat.le_of_ble_eq_true rfl), (Nat.le_of_ble_eq_true rfl)⟩ ml_X4_63 cs_X4_isBox rfl (Nat.le_of_ble_eq_true rfl) (Nat.le_of_ble_eq_true rfl) rfl h (fun r2 S3 h2 => ?_)
  replace h := h2
  clear h2
  refine zJ.if_eq (tgt := 14) dX4_load_4 (by decide) (fun c4 => ?_) (fun c4 => ?_)
  · replace h := h.1 c4
    refine zJ.aload_n 0 dX4_load_14 rfl rfl ?_
    refine zJ.bipush (v := (-2)) dX4_load_15 (by decide) ?_
    refine zG.callVi [.int (-2)] [] (ob_0 o) ok_0 rfl dX4_load_17 ⟨(cb_X4_refuse).1, (cb_X4_refuse).2, (Nat.le_of_ble_eq_true rfl), (Nat.le_of_ble_eq_true rfl)⟩ ml_X4_47 ci_X4_refuse cv_X4_refuse rfl (Nat.le_of_ble_eq_true rfl) (Nat.le_of_ble_eq_true rfl) rfl h (fun r6 S7 h2 => ?_)
    replace h := h2
    clear h2
    exact zG.ret (r := some (.int r6)) ⟨dX4_load_20, _, rfl, rfl⟩ h
  · replace h := h.2 c4
    refine zJ.iload_n 2 dX4_load_7 rfl rfl ?_
    refine zG.callSi [.int x2] [] dX4_load_8 ⟨(cb_X4_isItem).1, (cb_X4_isItem).2, (Nat.le_of_ble_eq_true rfl), (Nat.le_of_ble_eq_true rfl)⟩ ml_X4_67 cs_X4_isItem rfl (Nat.le_of_ble_eq_true rfl) (Nat.le_of_ble_eq_true rfl) rfl h (fun r9 S10 h2 => ?_)
    replace h := h2
    clear h2
    refine zJ.if_ne (tgt := 21) dX4_load_11 (by decide) (fun c11 => ?_) (fun c11 => ?_)
    · replace h := h.1 c11
      refine zJ.aload_n 0 dX4_load_21 rfl rfl ?_
      refine zG.callVv [] [] (ob_0 o) ok_0 rfl dX4_load_22 ⟨(cb_X4_keep).1, (cb_X4_keep).2, (Nat.le_of_ble_eq_true rfl), (Nat.le_of_ble_eq_true rfl)⟩ ml_X4_51 ci_X4_keep cv_X4_keep rfl (Nat.le_of_ble_eq_true rfl) (Nat.le_of_ble_eq_true rfl) rfl h (fun S14 h2 => ?_)
      replace h := h2
      clear h2
      refine zJ.aload_n 0 dX4_load_25 rfl rfl ?_
      refine zE.getV (fd_0_0 o) ok_0 kiX4 (Nat.le_of_ble_eq_true rfl) fl_X4_10 dX4_load_26 ?_
      refine zJ.aload_n 0 dX4_load_29 rfl rfl ?_
      refine zE.getV (fd_0_0 o) ok_0 kiX4 (Nat.le_of_ble_eq_true rfl) fl_X4_10 dX4_load_30 ?_
      refine zE.getV (fd_1_2 o 0) (ok_1 (show 0 < 8 by decide) (z_sb_le (show 0 < 8 by decide))) kiX2 (Nat.le_of_ble_eq_true rfl) fl_X4_70 dX4_load_33 ?_
      refine zJ.iload_n 1 dX4_load_36 rfl rfl ?_
      obtain ⟨hq15, h⟩ := h
      refine zE.aldB (ok_4 (show 0 < 8 by decide) (z_sb_le (show 0 < 8 by decide))) hq15 dX4_load_37 ?_
      refine zJ.iload_n 2 dX4_load_38 rfl rfl ?_
      refine zJ.iconst (v := (-1)) dX4_load_39 (by decide) ?_
      refine zG.callVi [.ref (z_adr o (5, 0, x1.toNatClampNeg)), .int x2, .int (-1)] [] (ob_1 o 0) (ok_1 (show 0 < 8 by decide) (z_sb_le (show 0 < 8 by decide))) rfl dX4_load_40 ⟨(cb_X2_begin).1, (cb_X2_begin).2, (Nat.le_of_ble_eq_true rfl), (Nat.le_of_ble_eq_true rfl)⟩ ml_X4_74 ci_X2_begin cv_X2_begin rfl (Nat.le_of_ble_eq_true rfl) (Nat.le_of_ble_eq_true rfl) rfl h (fun r17 S18 h2 => ?_)
      replace h := h2
      clear h2
      exact zG.ret (r := some (.int r17)) ⟨dX4_load_43, _, rfl, rfl⟩ h
    · replace h := h.2 c11
      refine zJ.aload_n 0 dX4_load_14 rfl rfl ?_
      refine zJ.bipush (v := (-2)) dX4_load_15 (by decide) ?_
      refine zG.callVi [.int (-2)] [] (ob_0 o) ok_0 rfl dX4_load_17 ⟨(cb_X4_refuse).1, (cb_X4_refuse).2, (Nat.le_of_ble_eq_true rfl), (Nat.le_of_ble_eq_true rfl)⟩ ml_X4_47 ci_X4_refuse cv_X4_refuse rfl (Nat.le_of_ble_eq_true rfl) (Nat.le_of_ble_eq_true rfl) rfl h (fun r20 S21 h2 => ?_)
      replace h := h2
      clear h2
      exact zG.ret (r := some (.int r20)) ⟨dX4_load_20, _, rfl, rfl⟩ h
set_option maxRecDepth 100000 in
set_option maxHeartbeats 4000000 in
theorem w_X4_store_0 (o : zW) (x1 : Int32) (x2 : Int32) (x3 : Int32) (S : zS) (Q : Option Value → zS → Prop) (h : zGi o 994 mdX4_isBox [.int x1] S (fun r2 S3 => (r2 = 0 → (zGi o 994 mdX4_refuse [.ref (z_adr o (0, 0, 0)), .int (-2)] S3 (fun r6 S7 => Q (some (.int r6)) S7))) ∧ (¬ r2 = 0 → (zGi o 994 mdX4_isItem [.int x2] S3 (fun r9 S10 => (r9 = 0 → (zGi o 994 mdX4_refuse [.ref (z_adr o (0, 0, 0)), .int (-2)] S10 (fun r13 S14 => Q (some (.int r13)) S14))) ∧ (¬ r9 = 0 → ((x3 < 0 → (zGi o 994 mdX4_refuse [.ref (z_adr o (0, 0, 0)), .int (-2)] S10 (fun r17 S18 => Q (some (.int r17)) S18))) ∧ (¬ x3 < 0 → ((x3 ≤ 99 → (zGv o 994 mdX4_keep [.ref (z_adr o (0, 0, 0))] S10 (fun S22 => vp_in x1 16 ∧ (zGi o 994 mdX2_begin [.ref (z_adr o (1, 0, 0)), .ref (z_adr o (5, 0, x1.toNatClampNeg)), .int x2, .int x3] S22 (fun r25 S26 => Q (some (.int r25)) S26))))) ∧ (¬ x3 ≤ 99 → (zGi o 994 mdX4_refuse [.ref (z_adr o (0, 0, 0)), .int (-2)] S10 (fun r28 S29 => Q (some (.int r28)) S29)))))))))))) : zG o 994 mdX4_store 0 [(0, .ref (z_adr o (0, 0, 0))), (1, .int x1), (2, .int x2), (3, .int x3)] [] S Q := by
  show zJ o mdX4_store 0 _ [] (994, z_enc o S) 0 0 _
  refine zJ.iload_n 1 dX4_store_0 rfl rfl ?_
  refine zG.callSi [.int x1] [] dX4_store_1 ⟨(cb_X4_isBox).1, (cb_X4_isBox).2, (Nat.le_of_ble_eq_true rfl), (Nat.le_of_ble_eq_true rfl)⟩ ml_X4_63 cs_X4_isBox rfl (Nat.le_of_ble_eq_true rfl) (Nat.le_of_ble_eq_true rfl) rfl h (fun r2 S3 h2 => ?_)
  replace h := h2
  clear h2
  refine zJ.if_eq (tgt := 24) dX4_store_4 (by decide) (fun c4 => ?_) (fun c4 => ?_)
  · replace h := h.1 c4
    refine zJ.aload_n 0 dX4_store_24 rfl rfl ?_
    refine zJ.bipush (v := (-2)) dX4_store_25 (by decide) ?_
    refine zG.callVi [.int (-2)] [] (ob_0 o) ok_0 rfl dX4_store_27 ⟨(cb_X4_refuse).1, (cb_X4_refuse).2, (Nat.le_of_ble_eq_true rfl), (Nat.le_of_ble_eq_true rfl)⟩ ml_X4_47 ci_X4_refuse cv_X4_refuse rfl (Nat.le_of_ble_eq_true rfl) (Nat.le_of_ble_eq_true rfl) rfl h (fun r6 S7 h2 => ?_)
    replace h := h2
    clear h2
    exact zG.ret (r := some (.int r6)) ⟨dX4_store_30, _, rfl, rfl⟩ h
  · replace h := h.2 c4
    refine zJ.iload_n 2 dX4_store_7 rfl rfl ?_
    refine zG.callSi [.int x2] [] dX4_store_8 ⟨(cb_X4_isItem).1, (cb_X4_isItem).2, (Nat.le_of_ble_eq_true rfl), (Nat.le_of_ble_eq_true rfl)⟩ ml_X4_67 cs_X4_isItem rfl (Nat.le_of_ble_eq_true rfl) (Nat.le_of_ble_eq_true rfl) rfl h (fun r9 S10 h2 => ?_)
    replace h := h2
    clear h2
    refine zJ.if_eq (tgt := 24) dX4_store_11 (by decide) (fun c11 => ?_) (fun c11 => ?_)
    · replace h := h.1 c11
      refine zJ.aload_n 0 dX4_store_24 rfl rfl ?_
      refine zJ.bipush (v := (-2)) dX4_store_25 (by decide) ?_
      refine zG.callVi [.int (-2)] [] (ob_0 o) ok_0 rfl dX4_store_27 ⟨(cb_X4_refuse).1, (cb_X4_refuse).2, (Nat.le_of_ble_eq_true rfl), (Nat.le_of_ble_eq_true rfl)⟩ ml_X4_47 ci_X4_refuse cv_X4_refuse rfl (Nat.le_of_ble_eq_true rfl) (Nat.le_of_ble_eq_true rfl) rfl h (fun r13 S14 h2 => ?_)
      replace h := h2
      clear h2
      exact zG.ret (r := some (.int r13)) ⟨dX4_store_30, _, rfl, rfl⟩ h
    · replace h := h.2 c11
      refine zJ.iload_n 3 dX4_store_14 rfl rfl ?_
      refine zJ.if_lt (tgt := 24) dX4_store_15 (by decide) (fun c15 => ?_) (fun c15 => ?_)
      · replace h := h.1 c15
        refine zJ.aload_n 0 dX4_store_24 rfl rfl ?_
        refine zJ.bipush (v := (-2)) dX4_store_25 (by decide) ?_
        refine zG.callVi [.int (-2)] [] (ob_0 o) ok_0 rfl dX4_store_27 ⟨(cb_X4_refuse).1, (cb_X4_refuse).2, (Nat.le_of_ble_eq_true rfl), (Nat.le_of_ble_eq_true rfl)⟩ ml_X4_47 ci_X4_refuse cv_X4_refuse rfl (Nat.le_of_ble_eq_true rfl) (Nat.le_of_ble_eq_true rfl) rfl h (fun r17 S18 h2 => ?_)
        replace h := h2
        clear h2
        exact zG.ret (r := some (.int r17)) ⟨dX4_store_30, _, rfl, rfl⟩ h
      · replace h := h.2 c15
        refine zJ.iload_n 3 dX4_store_18 rfl rfl ?_
        refine zJ.bipush (v := 99) dX4_store_19 (by decide) ?_
        refine zJ.icmp_le (tgt := 31) dX4_store_21 (by decide) (fun c19 => ?_) (fun c19 => ?_)
        · replace h := h.1 c19
          refine zJ.aload_n 0 dX4_store_31 rfl rfl ?_
          refine zG.callVv [] [] (ob_0 o) ok_0 rfl dX4_store_32 ⟨(cb_X4_keep).1, (cb_X4_keep).2, (Nat.le_of_ble_eq_true rfl), (Nat.le_of_ble_eq_true rfl)⟩ ml_X4_51 ci_X4_keep cv_X4_keep rfl (Nat.le_of_ble_eq_true rfl) (Nat.le_of_ble_eq_true rfl) rfl h (fun S22 h2 => ?_)
          replace h := h2
          clear h2
          refine zJ.aload_n 0 dX4_store_35 rfl rfl ?_
          refine zE.getV (fd_0_0 o) ok_0 kiX4 (Nat.le_of_ble_eq_true rfl) fl_X4_10 dX4_store_36 ?_
          refine zJ.aload_n 0 dX4_store_39 rfl rfl ?_
          refine zE.getV (fd_0_0 o) ok_0 kiX4 (Nat.le_of_ble_eq_true rfl) fl_X4_10 dX4_store_40 ?_
          refine zE.getV (fd_1_2 o 0) (ok_1 (show 0 < 8 by decide) (z_sb_le (show 0 < 8 by decide))) kiX2 (Nat.le_of_ble_eq_true rfl) fl_X4_70 dX4_store_43 ?_
          refine zJ.iload_n 1 dX4_store_46 rfl rfl ?_
          obtain ⟨hq23, h⟩ := h
          refine zE.aldB (ok_4 (show 0 < 8 by decide) (z_sb_le (show 0 < 8 by decide))) hq23 dX4_store_47 ?_
          refine zJ.iload_n 2 dX4_store_48 rfl rfl ?_
          refine zJ.iload_n 3 dX4_store_49 rfl rfl ?_
          refine zG.callVi [.ref (z_adr o (5, 0, x1.toNatClampNeg)), .int x2, .int x3] [] (ob_1 o 0) (ok_1 (show 0 < 8 by decide) (z_sb_le (show 0 < 8 by decide))) rfl dX4_store_50 ⟨(cb_X2_begin).1, (cb_X2_begin).2, (Nat.le_of_ble_eq_true rfl), (Nat.le_of_ble_eq_true rfl)⟩ ml_X4_74 ci_X2_begin cv_X2_begin rfl (Nat.le_of_ble_eq_true rfl) (Nat.le_of_ble_eq_true rfl) rfl h (fun r25 S26 h2 => ?_)
          replace h := h2
          clear h2
          exact zG.ret (r := some (.int r25)) ⟨dX4_store_53, _, rfl, rfl⟩ h
        · replace h := h.2 c19
          refine zJ.aload_n 0 dX4_store_24 rfl rfl ?_
          refine zJ.bipush (v := (-2)) dX4_store_25 (by decide) ?_
          refine zG.callVi [.int (-2)] [] (ob_0 o) ok_0 rfl dX4_store_27 ⟨(cb_X4_refuse).1, (cb_X4_refuse).2, (Nat.le_of_ble_eq_true rfl), (Nat.le_of_ble_eq_true rfl)⟩ ml_X4_47 ci_X4_refuse cv_X4_refuse rfl (Nat.le_of_ble_eq_true rfl) (Nat.le_of_ble_eq_true rfl) rfl h (fun r28 S29 h2 => ?_)
          replace h := h2
          clear h2
          exact zG.ret (r := some (.int r28)) ⟨dX4_store_30, _, rfl, rfl⟩ h
set_option maxRecDepth 100000 in
set_option maxHeartbeats 4000000 in
theorem w_X4_fence_0 (o : zW)  (S : zS) (Q : Option Value → zS → Prop) (h : zGv o 994 mdX4_keep [.ref (z_adr o (0, 0, 0))] S (fun S3 => zGi o 994 mdX2_begin [.ref (z_adr o (1, 0, 0)), .null, .int 0, .int (-1)] S3 (fun r5 S6 => Q (some (.int r5)) S6))) : zG o 994 mdX4_fence 0 [(0, .ref (z_adr o (0, 0, 0)))] [] S Q := by
  show zJ o mdX4_fence 0 _ [] (994, z_enc o S) 0 0 _
  refine zJ.aload_n 0 dX4_fence_0 rfl rfl ?_
  refine zG.callVv [] [] (ob_0 o) ok_0 rfl dX4_fence_1 ⟨(cb_X4_keep).1, (cb_X4_keep).2, (Nat.le_of_ble_eq_true rfl), (Nat.le_of_ble_eq_true rfl)⟩ ml_X4_51 ci_X4_keep cv_X4_keep rfl (Nat.le_of_ble_eq_true rfl) (Nat.le_of_ble_eq_true rfl) rfl h (fun S3 h2 => ?_)
  replace h := h2
  clear h2
  refine zJ.aload_n 0 dX4_fence_4 rfl rfl ?_
  refine zE.getV (fd_0_0 o) ok_0 kiX4 (Nat.le_of_ble_eq_true rfl) fl_X4_10 dX4_fence_5 ?_
  refine zJ.null dX4_fence_8 ?_
  refine zJ.iconst (v := 0) dX4_fence_9 (by decide) ?_
  refine zJ.iconst (v := (-1)) dX4_fence_10 (by decide) ?_
  refine zG.callVi [.null, .int 0, .int (-1)] [] (ob_1 o 0) (ok_1 (show 0 < 8 by decide) (z_sb_le (show 0 < 8 by decide))) rfl dX4_fence_11 ⟨(cb_X2_begin).1, (cb_X2_begin).2, (Nat.le_of_ble_eq_true rfl), (Nat.le_of_ble_eq_true rfl)⟩ ml_X4_74 ci_X2_begin cv_X2_begin rfl (Nat.le_of_ble_eq_true rfl) (Nat.le_of_ble_eq_true rfl) rfl h (fun r5 S6 h2 => ?_)
  replace h := h2
  clear h2
  exact zG.ret (r := some (.int r5)) ⟨dX4_fence_14, _, rfl, rfl⟩ h
set_option maxRecDepth 100000 in
set_option maxHeartbeats 4000000 in
theorem w_X4_ticks_0 (o : zW) (x1 : Int32) (S : zS) (Q : Option Value → zS → Prop) (h : (x1 < 0 → (zGi o 994 mdX4_refuse [.ref (z_adr o (0, 0, 0)), .int (-2)] S (fun r3 S4 => Q (some (.int r3)) S4))) ∧ (¬ x1 < 0 → ((x1 ≤ 99 → (zGv o 994 mdX4_keep [.ref (z_adr o (0, 0, 0))] S (fun S8 => zGv o 994 mdX2_pause [.ref (z_adr o (1, 0, 0)), .int x1] S8 (fun S11 => Q (some (.int ((S11.1 (3, 0, 0) 8) - (S8.1 (3, 0, 0) 8)))) S11)))) ∧ (¬ x1 ≤ 99 → (zGi o 994 mdX4_refuse [.ref (z_adr o (0, 0, 0)), .int (-2)] S (fun r13 S14 => Q (some (.int r13)) S14)))))) : zG o 994 mdX4_ticks 0 [(0, .ref (z_adr o (0, 0, 0))), (1, .int x1)] [] S Q := by
  show zJ o mdX4_ticks 0 _ [] (994, z_enc o S) 0 0 _
  refine zJ.iload_n 1 dX4_ticks_0 rfl rfl ?_
  refine zJ.if_lt (tgt := 10) dX4_ticks_1 (by decide) (fun c1 => ?_) (fun c1 => ?_)
  · replace h := h.1 c1
    refine zJ.aload_n 0 dX4_ticks_10 rfl rfl ?_
    refine zJ.bipush (v := (-2)) dX4_ticks_11 (by decide) ?_
    refine zG.callVi [.int (-2)] [] (ob_0 o) ok_0 rfl dX4_ticks_13 ⟨(cb_X4_refuse).1, (cb_X4_refuse).2, (Nat.le_of_ble_eq_true rfl), (Nat.le_of_ble_eq_true rfl)⟩ ml_X4_47 ci_X4_refuse cv_X4_refuse rfl (Nat.le_of_ble_eq_true rfl) (Nat.le_of_ble_eq_true rfl) rfl h (fun r3 S4 h2 => ?_)
    replace h := h2
    clear h2
    exact zG.ret (r := some (.int r3)) ⟨dX4_ticks_16, _, rfl, rfl⟩ h
  · replace h := h.2 c1
    refine zJ.iload_n 1 dX4_ticks_4 rfl rfl ?_
    refine zJ.bipush (v := 99) dX4_ticks_5 (by decide) ?_
    refine zJ.icmp_le (tgt := 17) dX4_ticks_7 (by decide) (fun c5 => ?_) (fun c5 => ?_)
    · replace h := h.1 c5
      refine zJ.aload_n 0 dX4_ticks_17 rfl rfl ?_
      refine zG.callVv [] [] (ob_0 o) ok_0 rfl dX4_ticks_18 ⟨(cb_X4_keep).1, (cb_X4_keep).2, (Nat.le_of_ble_eq_true rfl), (Nat.le_of_ble_eq_true rfl)⟩ ml_X4_51 ci_X4_keep cv_X4_keep rfl (Nat.le_of_ble_eq_true rfl) (Nat.le_of_ble_eq_true rfl) rfl h (fun S8 h2 => ?_)
      replace h := h2
      clear h2
      refine zJ.aload_n 0 dX4_ticks_21 rfl rfl ?_
      refine zE.getV (fd_0_0 o) ok_0 kiX4 (Nat.le_of_ble_eq_true rfl) fl_X4_10 dX4_ticks_22 ?_
      refine zE.getV (fd_1_1 o 0) (ok_1 (show 0 < 8 by decide) (z_sb_le (show 0 < 8 by decide))) kiX2 (Nat.le_of_ble_eq_true rfl) fl_X4_60 dX4_ticks_25 ?_
      refine zJ.bipush (v := 8) dX4_ticks_28 (by decide) ?_
      refine zE.aldI (ia_3 o 0) (ok_3 (show 0 < 8 by decide) (z_sb_le (show 0 < 8 by decide))) (by unfold vp_in; decide) dX4_ticks_30 ?_
      refine zJ.istore_n (lv' := [(2, .int (S8.1 (3, 0, 0) 8)), (0, .ref (z_adr o (0, 0, 0))), (1, .int x1)]) dX4_ticks_31 rfl (Nat.le_of_ble_eq_true rfl) rfl ?_
      refine zJ.aload_n 1 dX4_ticks_32 rfl rfl ?_
      refine zE.getV (fd_0_0 o) ok_0 kiX4 (Nat.le_of_ble_eq_true rfl) fl_X4_10 dX4_ticks_33 ?_
      refine zJ.iload_n 2 dX4_ticks_36 rfl rfl ?_
      refine zG.callVv [.int x1] [] (ob_1 o 0) (ok_1 (show 0 < 8 by decide) (z_sb_le (show 0 < 8 by decide))) rfl dX4_ticks_37 ⟨(cb_X2_pause).1, (cb_X2_pause).2, (Nat.le_of_ble_eq_true rfl), (Nat.le_of_ble_eq_true rfl)⟩ ml_X4_78 ci_X2_pause cv_X2_pause rfl (Nat.le_of_ble_eq_true rfl) (Nat.le_of_ble_eq_true rfl) rfl h (fun S11 h2 => ?_)
      replace h := h2
      clear h2
      refine zJ.aload_n 1 dX4_ticks_40 rfl rfl ?_
      refine zE.getV (fd_0_0 o) ok_0 kiX4 (Nat.le_of_ble_eq_true rfl) fl_X4_10 dX4_ticks_41 ?_
      refine zE.getV (fd_1_1 o 0) (ok_1 (show 0 < 8 by decide) (z_sb_le (show 0 < 8 by decide))) kiX2 (Nat.le_of_ble_eq_true rfl) fl_X4_60 dX4_ticks_44 ?_
      refine zJ.bipush (v := 8) dX4_ticks_47 (by decide) ?_
      refine zE.aldI (ia_3 o 0) (ok_3 (show 0 < 8 by decide) (z_sb_le (show 0 < 8 by decide))) (by unfold vp_in; decide) dX4_ticks_49 ?_
      refine zJ.iload_n 0 dX4_ticks_50 rfl rfl ?_
      refine zJ.isub dX4_ticks_51 ?_
      exact zG.ret (r := some (.int ((S11.1 (3, 0, 0) 8) - (S8.1 (3, 0, 0) 8)))) ⟨dX4_ticks_52, _, rfl, rfl⟩ h
    · replace h := h.2 c5
      refine zJ.aload_n 0 dX4_ticks_10 rfl rfl ?_
      refine zJ.bipush (v := (-2)) dX4_ticks_11 (by decide) ?_
      refine zG.callVi [.int (-2)] [] (ob_0 o) ok_0 rfl dX4_ticks_13 ⟨(cb_X4_refuse).1, (cb_X4_refuse).2, (Nat.le_of_ble_eq_true rfl), (Nat.le_of_ble_eq_true rfl)⟩ ml_X4_47 ci_X4_refuse cv_X4_refuse rfl (Nat.le_of_ble_eq_true rfl) (Nat.le_of_ble_eq_true rfl) rfl h (fun r13 S14 h2 => ?_)
      replace h := h2
      clear h2
      exact zG.ret (r := some (.int r13)) ⟨dX4_ticks_16, _, rfl, rfl⟩ h
set_option maxRecDepth 100000 in
set_option maxHeartbeats 4000000 in
theorem w_X4_draw_0 (o : zW) (x1 : Int32) (x2 : Int32) (S : zS) (Q : Option Value → zS → Prop) (h : (x1 < 0 → (zGi o 994 mdX4_refuse [.ref (z_adr o (0, 0, 0)), .int (-2)] S (fun r3 S4 => Q (some (.int r3)) S4))) ∧ (¬ x1 < 0 → (((999999 : Int32) < x1 → (zGi o 994 mdX4_refuse [.ref (z_adr o (0, 0, 0)), .int (-2)] S (fun r7 S8 => Q (some (.int r7)) S8))) ∧ (¬ (999999 : Int32) < x1 → ((x2 < 1 → (zGi o 994 mdX4_refuse [.ref (z_adr o (0, 0, 0)), .int (-2)] S (fun r11 S12 => Q (some (.int r11)) S12))) ∧ (¬ x2 < 1 → ((x2 ≤ 40 → (zGv o 994 mdX4_keep [.ref (z_adr o (0, 0, 0))] S (fun S16 => zG o 994 mdX4_draw 50 [(0, .ref (z_adr o (0, 0, 0))), (2, .int x2), (3, .int (S16.1 (3, 0, 0) 9)), (4, .long x1.toInt64), (6, .int 0)] [] S16 Q))) ∧ (¬ x2 ≤ 40 → (zGi o 994 mdX4_refuse [.ref (z_adr o (0, 0, 0)), .int (-2)] S (fun r18 S19 => Q (some (.int r18)) S19)))))))))) : zG o 994 mdX4_draw 0 [(0, .ref (z_adr o (0, 0, 0))), (1, .int x1), (2, .int x2)] [] S Q := by
  show zJ o mdX4_draw 0 _ [] (994, z_enc o S) 0 0 _
  refine zJ.iload_n 1 dX4_draw_0 rfl rfl ?_
  refine zJ.if_lt (tgt := 21) dX4_draw_1 (by decide) (fun c1 => ?_) (fun c1 => ?_)
  · replace h := h.1 c1
    refine zJ.aload_n 0 dX4_draw_21 rfl rfl ?_
    refine zJ.bipush (v := (-2)) dX4_draw_22 (by decide) ?_
    refine zG.callVi [.int (-2)] [] (ob_0 o) ok_0 rfl dX4_draw_24 ⟨(cb_X4_refuse).1, (cb_X4_refuse).2, (Nat.le_of_ble_eq_true rfl), (Nat.le_of_ble_eq_true rfl)⟩ ml_X4_47 ci_X4_refuse cv_X4_refuse rfl (Nat.le_of_ble_eq_true rfl) (Nat.le_of_ble_eq_true rfl) rfl h (fun r3 S4 h2 => ?_)
    replace h := h2
    clear h2
    exact zG.ret (r := some (.int r3)) ⟨dX4_draw_27, _, rfl, rfl⟩ h
  · replace h := h.2 c1
    refine zJ.iload_n 1 dX4_draw_4 rfl rfl ?_
    refine zJ.ldc lc_X4_82 dX4_draw_5 ?_
    refine zJ.icmp_gt (tgt := 21) dX4_draw_7 (by decide) (fun c5 => ?_) (fun c5 => ?_)
    · replace h := h.1 c5
      refine zJ.aload_n 0 dX4_draw_21 rfl rfl ?_
      refine zJ.bipush (v := (-2)) dX4_draw_22 (by decide) ?_
      refine zG.callVi [.int (-2)] [] (ob_0 o) ok_0 rfl dX4_draw_24 ⟨(cb_X4_refuse).1, (cb_X4_refuse).2, (Nat.le_of_ble_eq_true rfl), (Nat.le_of_ble_eq_true rfl)⟩ ml_X4_47 ci_X4_refuse cv_X4_refuse rfl (Nat.le_of_ble_eq_true rfl) (Nat.le_of_ble_eq_true rfl) rfl h (fun r7 S8 h2 => ?_)
      replace h := h2
      clear h2
      exact zG.ret (r := some (.int r7)) ⟨dX4_draw_27, _, rfl, rfl⟩ h
    · replace h := h.2 c5
      refine zJ.iload_n 2 dX4_draw_10 rfl rfl ?_
      refine zJ.iconst (v := 1) dX4_draw_11 (by decide) ?_
      refine zJ.icmp_lt (tgt := 21) dX4_draw_12 (by decide) (fun c9 => ?_) (fun c9 => ?_)
      · replace h := h.1 c9
        refine zJ.aload_n 0 dX4_draw_21 rfl rfl ?_
        refine zJ.bipush (v := (-2)) dX4_draw_22 (by decide) ?_
        refine zG.callVi [.int (-2)] [] (ob_0 o) ok_0 rfl dX4_draw_24 ⟨(cb_X4_refuse).1, (cb_X4_refuse).2, (Nat.le_of_ble_eq_true rfl), (Nat.le_of_ble_eq_true rfl)⟩ ml_X4_47 ci_X4_refuse cv_X4_refuse rfl (Nat.le_of_ble_eq_true rfl) (Nat.le_of_ble_eq_true rfl) rfl h (fun r11 S12 h2 => ?_)
        replace h := h2
        clear h2
        exact zG.ret (r := some (.int r11)) ⟨dX4_draw_27, _, rfl, rfl⟩ h
      · replace h := h.2 c9
        refine zJ.iload_n 2 dX4_draw_15 rfl rfl ?_
        refine zJ.bipush (v := 40) dX4_draw_16 (by decide) ?_
        refine zJ.icmp_le (tgt := 28) dX4_draw_18 (by decide) (fun c13 => ?_) (fun c13 => ?_)
        · replace h := h.1 c13
          refine zJ.aload_n 0 dX4_draw_28 rfl rfl ?_
          refine zG.callVv [] [] (ob_0 o) ok_0 rfl dX4_draw_29 ⟨(cb_X4_keep).1, (cb_X4_keep).2, (Nat.le_of_ble_eq_true rfl), (Nat.le_of_ble_eq_true rfl)⟩ ml_X4_51 ci_X4_keep cv_X4_keep rfl (Nat.le_of_ble_eq_true rfl) (Nat.le_of_ble_eq_true rfl) rfl h (fun S16 h2 => ?_)
          replace h := h2
          clear h2
          refine zJ.aload_n 0 dX4_draw_32 rfl rfl ?_
          refine zE.getV (fd_0_0 o) ok_0 kiX4 (Nat.le_of_ble_eq_true rfl) fl_X4_10 dX4_draw_33 ?_
          refine zE.getV (fd_1_1 o 0) (ok_1 (show 0 < 8 by decide) (z_sb_le (show 0 < 8 by decide))) kiX2 (Nat.le_of_ble_eq_true rfl) fl_X4_60 dX4_draw_36 ?_
          refine zJ.bipush (v := 9) dX4_draw_39 (by decide) ?_
          refine zE.aldI (ia_3 o 0) (ok_3 (show 0 < 8 by decide) (z_sb_le (show 0 < 8 by decide))) (by unfold vp_in; decide) dX4_draw_41 ?_
          refine zJ.istore_n (lv' := [(3, .int (S16.1 (3, 0, 0) 9)), (0, .ref (z_adr o (0, 0, 0))), (1, .int x1), (2, .int x2)]) dX4_draw_42 rfl (Nat.le_of_ble_eq_true rfl) rfl ?_
          refine zJ.iload_n 2 dX4_draw_43 rfl rfl ?_
          refine zJ.i2l dX4_draw_44 ?_
          refine zJ.lstore (lv' := [(4, .long x1.toInt64), (3, .int (S16.1 (3, 0, 0) 9)), (0, .ref (z_adr o (0, 0, 0))), (1, .int x1), (2, .int x2)]) dX4_draw_45 (Nat.le_of_ble_eq_true rfl) rfl ?_
          refine zJ.iconst (v := 0) dX4_draw_47 (by decide) ?_
          refine zJ.istore (lv' := [(6, .int 0), (4, .long x1.toInt64), (3, .int (S16.1 (3, 0, 0) 9)), (0, .ref (z_adr o (0, 0, 0))), (1, .int x1), (2, .int x2)]) dX4_draw_48 (Nat.le_of_ble_eq_true rfl) rfl ?_
          exact zJ.sub [3, 5, 2, 1, 0] rfl h
        · replace h := h.2 c13
          refine zJ.aload_n 0 dX4_draw_21 rfl rfl ?_
          refine zJ.bipush (v := (-2)) dX4_draw_22 (by decide) ?_
          refine zG.callVi [.int (-2)] [] (ob_0 o) ok_0 rfl dX4_draw_24 ⟨(cb_X4_refuse).1, (cb_X4_refuse).2, (Nat.le_of_ble_eq_true rfl), (Nat.le_of_ble_eq_true rfl)⟩ ml_X4_47 ci_X4_refuse cv_X4_refuse rfl (Nat.le_of_ble_eq_true rfl) (Nat.le_of_ble_eq_true rfl) rfl h (fun r18 S19 h2 => ?_)
          replace h := h2
          clear h2
          exact zG.ret (r := some (.int r18)) ⟨dX4_draw_27, _, rfl, rfl⟩ h
set_option maxRecDepth 100000 in
set_option maxHeartbeats 4000000 in
theorem w_X4_draw_50 (o : zW) (x2 : Int32) (x3 : Int32) (x4 : Int64) (x6 : Int32) (S : zS) (Q : Option Value → zS → Prop) (h : (x2 ≤ x6 → (Q (some (.int ((S.1 (3, 0, 0) 9) - x3))) S)) ∧ (¬ x2 ≤ x6 → (∀ y2 : Int32, y2 = ((((((x4 * (1103515245 : Int64)) + (12345 : Int64)) - ((x4 * (1103515245 : Int64)) + (12345 : Int64)) / (2147483648 : Int64) * (2147483648 : Int64)) / (65536 : Int64)) - ((((x4 * (1103515245 : Int64)) + (12345 : Int64)) - ((x4 * (1103515245 : Int64)) + (12345 : Int64)) / (2147483648 : Int64) * (2147483648 : Int64)) / (65536 : Int64)) / (16 : Int64) * (16 : Int64)).toInt32) → (∀ y3 : Int32, y3 = ((((((x4 * (1103515245 : Int64)) + (12345 : Int64)) - ((x4 * (1103515245 : Int64)) + (12345 : Int64)) / (2147483648 : Int64) * (2147483648 : Int64)) / (1024 : Int64)) - ((((x4 * (1103515245 : Int64)) + (12345 : Int64)) - ((x4 * (1103515245 : Int64)) + (12345 : Int64)) / (2147483648 : Int64) * (2147483648 : Int64)) / (1024 : Int64)) / (4 : Int64) * (4 : Int64)).toInt32) → (∀ y4 : Int32, y4 = (z_lcmp (((((x4 * (1103515245 : Int64)) + (12345 : Int64)) - ((x4 * (1103515245 : Int64)) + (12345 : Int64)) / (2147483648 : Int64) * (2147483648 : Int64)) / (32768 : Int64)) - ((((x4 * (1103515245 : Int64)) + (12345 : Int64)) - ((x4 * (1103515245 : Int64)) + (12345 : Int64)) / (2147483648 : Int64) * (2147483648 : Int64)) / (32768 : Int64)) / (3 : Int64) * (3 : Int64)) 0) → ((¬ y4 = 0 → (zGi o 994 mdX4_isBox [.int y2] S (fun r7 S8 => (r7 = 0 → (zG o 994 mdX4_draw 50 [(0, .ref (z_adr o (0, 0, 0))), (2, .int x2), (3, .int x3), (4, .long (((x4 * (1103515245 : Int64)) + (12345 : Int64)) - ((x4 * (1103515245 : Int64)) + (12345 : Int64)) / (2147483648 : Int64) * (2147483648 : Int64))), (6, .int (x6 + 1))] [] S8 Q)) ∧ (¬ r7 = 0 → (vp_in y2 16 ∧ (zGi o 994 mdX2_begin [.ref (z_adr o (1, 0, 0)), .ref (z_adr o (5, 0, y2.toNatClampNeg)), .int y3, .int (-1)] S8 (fun r12 S13 => zG o 994 mdX4_draw 50 [(0, .ref (z_adr o (0, 0, 0))), (2, .int x2), (3, .int x3), (4, .long (((x4 * (1103515245 : Int64)) + (12345 : Int64)) - ((x4 * (1103515245 : Int64)) + (12345 : Int64)) / (2147483648 : Int64) * (2147483648 : Int64))), (6, .int (x6 + 1))] [] S13 Q))))))) ∧ (y4 = 0 → (∀ y14 : Int32, y14 = ((((((x4 * (1103515245 : Int64)) + (12345 : Int64)) - ((x4 * (1103515245 : Int64)) + (12345 : Int64)) / (2147483648 : Int64) * (2147483648 : Int64)) / (2048 : Int64)) - ((((x4 * (1103515245 : Int64)) + (12345 : Int64)) - ((x4 * (1103515245 : Int64)) + (12345 : Int64)) / (2147483648 : Int64) * (2147483648 : Int64)) / (2048 : Int64)) / (100 : Int64) * (100 : Int64)).toInt32) → (zGi o 994 mdX4_isBox [.int y2] S (fun r16 S17 => (r16 = 0 → (zG o 994 mdX4_draw 50 [(0, .ref (z_adr o (0, 0, 0))), (2, .int x2), (3, .int x3), (4, .long (((x4 * (1103515245 : Int64)) + (12345 : Int64)) - ((x4 * (1103515245 : Int64)) + (12345 : Int64)) / (2147483648 : Int64) * (2147483648 : Int64))), (6, .int (x6 + 1))] [] S17 Q)) ∧ (¬ r16 = 0 → (vp_in y2 16 ∧ (zGi o 994 mdX2_begin [.ref (z_adr o (1, 0, 0)), .ref (z_adr o (5, 0, y2.toNatClampNeg)), .int y3, .int y14] S17 (fun r21 S22 => zG o 994 mdX4_draw 50 [(0, .ref (z_adr o (0, 0, 0))), (2, .int x2), (3, .int x3), (4, .long (((x4 * (1103515245 : Int64)) + (12345 : Int64)) - ((x4 * (1103515245 : Int64)) + (12345 : Int64)) / (2147483648 : Int64) * (2147483648 : Int64))), (6, .int (x6 + 1))] [] S22 Q)))))))))))))) : zG o 994 mdX4_draw 50 [(0, .ref (z_adr o (0, 0, 0))), (2, .int x2), (3, .int x3), (4, .long x4), (6, .int x6)] [] S Q := by
  show zJ o mdX4_draw 50 _ [] (994, z_enc o S) 0 0 _
  refine zJ.iload 4 dX4_draw_50 rfl ?_
  refine zJ.iload_n 1 dX4_draw_52 rfl rfl ?_
  refine zJ.icmp_ge (tgt := 166) dX4_draw_53 (by decide) (fun c1 => ?_) (fun c1 => ?_)
  · replace h := h.1 c1
    refine zJ.aload_n 0 dX4_draw_166 rfl rfl ?_
    refine zE.getV (fd_0_0 o) ok_0 kiX4 (Nat.le_of_ble_eq_true rfl) fl_X4_10 dX4_draw_167 ?_
    refine zE.getV (fd_1_1 o 0) (ok_1 (show 0 < 8 by decide) (z_sb_le (show 0 < 8 by decide))) kiX2 (Nat.le_of_ble_eq_true rfl) fl_X4_60 dX4_draw_170 ?_
    refine zJ.bipush (v := 9) dX4_draw_173 (by decide) ?_
    refine zE.aldI (ia_3 o 0) (ok_3 (show 0 < 8 by decide) (z_sb_le (show 0 < 8 by decide))) (by unfold vp_in; decide) dX4_draw_175 ?_
    refine zJ.iload_n 2 dX4_draw_176 rfl rfl ?_
    refine zJ.isub dX4_draw_177 ?_
    exact zG.ret (r := some (.int ((S.1 (3, 0, 0) 9) - x3))) ⟨dX4_draw_178, _, rfl, rfl⟩ h
  · replace h := h.2 c1
    refine zJ.lload 3 dX4_draw_56 rfl ?_
    refine zJ.ldc2 lc_X4_83 dX4_draw_58 ?_
    refine zJ.lmul dX4_draw_61 ?_
    refine zJ.ldc2 lc_X4_85 dX4_draw_62 ?_
    refine zJ.ladd dX4_draw_65 ?_
    refine zJ.ldc2 lc_X4_87 dX4_draw_66 ?_
    refine zJ.lrem dX4_draw_69 (by decide) ?_
    refine zJ.lstore (lv' := [(4, .long (((x4 * (1103515245 : Int64)) + (12345 : Int64)) - ((x4 * (1103515245 : Int64)) + (12345 : Int64)) / (2147483648 : Int64) * (2147483648 : Int64))), (0, .ref (z_adr o (0, 0, 0))), (2, .int x2), (3, .int x3), (6, .int x6)]) dX4_draw_70 (Nat.le_of_ble_eq_true rfl) rfl ?_
    refine zJ.lload 0 dX4_draw_72 rfl ?_
    refine zJ.ldc2 lc_X4_89 dX4_draw_74 ?_
    refine zJ.ldiv dX4_draw_77 (by decide) ?_
    refine zJ.ldc2 lc_X4_91 dX4_draw_78 ?_
    refine zJ.lrem dX4_draw_81 (by decide) ?_
    refine zJ.l2i dX4_draw_82 ?_
    refine zJ.topi (fun y2 hyy2 => ?_)
    replace h := h y2 hyy2
    refine zJ.istore (lv' := [(7, .int y2), (4, .long (((x4 * (1103515245 : Int64)) + (12345 : Int64)) - ((x4 * (1103515245 : Int64)) + (12345 : Int64)) / (2147483648 : Int64) * (2147483648 : Int64))), (0, .ref (z_adr o (0, 0, 0))), (2, .int x2), (3, .int x3), (6, .int x6)]) dX4_draw_83 (Nat.le_of_ble_eq_true rfl) rfl ?_
    refine zJ.lload 1 dX4_draw_85 rfl ?_
    refine zJ.ldc2 lc_X4_93 dX4_draw_87 ?_
    refine zJ.ldiv dX4_draw_90 (by decide) ?_
    refine zJ.ldc2 lc_X4_95 dX4_draw_91 ?_
    refine zJ.lrem dX4_draw_94 (by decide) ?_
    refine zJ.l2i dX4_draw_95 ?_
    refine zJ.topi (fun y3 hyy3 => ?_)
    replace h := h y3 hyy3
    refine zJ.istore (lv' := [(8, .int y3), (7, .int y2), (4, .long (((x4 * (1103515245 : Int64)) + (12345 : Int64)) - ((x4 * (1103515245 : Int64)) + (12345 : Int64)) / (2147483648 : Int64) * (2147483648 : Int64))), (0, .ref (z_adr o (0, 0, 0))), (2, .int x2), (3, .int x3), (6, .int x6)]) dX4_draw_96 (Nat.le_of_ble_eq_true rfl) rfl ?_
    refine zJ.lload 2 dX4_draw_98 rfl ?_
    refine zJ.ldc2 lc_X4_97 dX4_draw_100 ?_
    refine zJ.ldiv dX4_draw_103 (by decide) ?_
    refine zJ.ldc2 lc_X4_99 dX4_draw_104 ?_
    refine zJ.lrem dX4_draw_107 (by decide) ?_
    refine zJ.lconst (v := 0) dX4_draw_108 (by decide) ?_
    refine zJ.lcmp dX4_draw_109 ?_
    refine zJ.topi (fun y4 hyy4 => ?_)
    replace h := h y4 hyy4
    refine zJ.if_ne (tgt := 127) dX4_draw_110 (by decide) (fun c5 => ?_) (fun c5 => ?_)
    · replace h := h.1 c5
      refine zJ.iconst (v := (-1)) dX4_draw_127 (by decide) ?_
      refine zJ.istore (lv' := [(9, .int (-1)), (8, .int y3), (7, .int y2), (4, .long (((x4 * (1103515245 : Int64)) + (12345 : Int64)) - ((x4 * (1103515245 : Int64)) + (12345 : Int64)) / (2147483648 : Int64) * (2147483648 : Int64))), (0, .ref (z_adr o (0, 0, 0))), (2, .int x2), (3, .int x3), (6, .int x6)]) dX4_draw_128 (Nat.le_of_ble_eq_true rfl) rfl ?_
      refine zJ.iload 2 dX4_draw_130 rfl ?_
      refine zG.callSi [.int y2] [] dX4_draw_132 ⟨(cb_X4_isBox).1, (cb_X4_isBox).2, (Nat.le_of_ble_eq_true rfl), (Nat.le_of_ble_eq_true rfl)⟩ ml_X4_63 cs_X4_isBox rfl (Nat.le_of_ble_eq_true rfl) (Nat.le_of_ble_eq_true rfl) rfl h (fun r7 S8 h2 => ?_)
      replace h := h2
      clear h2
      refine zJ.if_eq (tgt := 160) dX4_draw_135 (by decide) (fun c9 => ?_) (fun c9 => ?_)
      · replace h := h.1 c9
        refine zJ.iinc (k := 7) (lv' := [(6, .int (x6 + 1)), (9, .int (-1)), (8, .int y3), (7, .int y2), (4, .long (((x4 * (1103515245 : Int64)) + (12345 : Int64)) - ((x4 * (1103515245 : Int64)) + (12345 : Int64)) / (2147483648 : Int64) * (2147483648 : Int64))), (0, .ref (z_adr o (0, 0, 0))), (2, .int x2), (3, .int x3)]) dX4_draw_160 rfl rfl (Nat.le_of_ble_eq_true rfl) rfl ?_
        refine zJ.goto (tgt := 50) dX4_draw_163 (by decide) ?_
        exact zJ.sub [5, 6, 7, 4, 0] rfl h
      · replace h := h.2 c9
        refine zJ.aload_n 4 dX4_draw_138 rfl rfl ?_
        refine zE.getV (fd_0_0 o) ok_0 kiX4 (Nat.le_of_ble_eq_true rfl) fl_X4_10 dX4_draw_139 ?_
        refine zJ.aload_n 4 dX4_draw_142 rfl rfl ?_
        refine zE.getV (fd_0_0 o) ok_0 kiX4 (Nat.le_of_ble_eq_true rfl) fl_X4_10 dX4_draw_143 ?_
        refine zE.getV (fd_1_2 o 0) (ok_1 (show 0 < 8 by decide) (z_sb_le (show 0 < 8 by decide))) kiX2 (Nat.le_of_ble_eq_true rfl) fl_X4_70 dX4_draw_146 ?_
        refine zJ.iload 2 dX4_draw_149 rfl ?_
        obtain ⟨hq10, h⟩ := h
        refine zE.aldB (ok_4 (show 0 < 8 by decide) (z_sb_le (show 0 < 8 by decide))) hq10 dX4_draw_151 ?_
        refine zJ.iload 1 dX4_draw_152 rfl ?_
        refine zJ.iload 0 dX4_draw_154 rfl ?_
        refine zG.callVi [.ref (z_adr o (5, 0, y2.toNatClampNeg)), .int y3, .int (-1)] [] (ob_1 o 0) (ok_1 (show 0 < 8 by decide) (z_sb_le (show 0 < 8 by decide))) rfl dX4_draw_156 ⟨(cb_X2_begin).1, (cb_X2_begin).2, (Nat.le_of_ble_eq_true rfl), (Nat.le_of_ble_eq_true rfl)⟩ ml_X4_74 ci_X2_begin cv_X2_begin rfl (Nat.le_of_ble_eq_true rfl) (Nat.le_of_ble_eq_true rfl) rfl h (fun r12 S13 h2 => ?_)
        replace h := h2
        clear h2
        refine zJ.pop dX4_draw_159 rfl ?_
        refine zJ.iinc (k := 7) (lv' := [(6, .int (x6 + 1)), (9, .int (-1)), (8, .int y3), (7, .int y2), (4, .long (((x4 * (1103515245 : Int64)) + (12345 : Int64)) - ((x4 * (1103515245 : Int64)) + (12345 : Int64)) / (2147483648 : Int64) * (2147483648 : Int64))), (0, .ref (z_adr o (0, 0, 0))), (2, .int x2), (3, .int x3)]) dX4_draw_160 rfl rfl (Nat.le_of_ble_eq_true rfl) rfl ?_
        refine zJ.goto (tgt := 50) dX4_draw_163 (by decide) ?_
        exact zJ.sub [5, 6, 7, 4, 0] rfl h
    · replace h := h.2 c5
      refine zJ.lload 2 dX4_draw_113 rfl ?_
      refine zJ.ldc2 lc_X4_101 dX4_draw_115 ?_
      refine zJ.ldiv dX4_draw_118 (by decide) ?_
      refine zJ.ldc2 lc_X4_103 dX4_draw_119 ?_
      refine zJ.lrem dX4_draw_122 (by decide) ?_
      refine zJ.l2i dX4_draw_123 ?_
      refine zJ.topi (fun y14 hyy14 => ?_)
      replace h := h y14 hyy14
      refine zJ.goto (tgt := 128) dX4_draw_124 (by decide) ?_
      refine zJ.istore (lv' := [(9, .int y14), (8, .int y3), (7, .int y2), (4, .long (((x4 * (1103515245 : Int64)) + (12345 : Int64)) - ((x4 * (1103515245 : Int64)) + (12345 : Int64)) / (2147483648 : Int64) * (2147483648 : Int64))), (0, .ref (z_adr o (0, 0, 0))), (2, .int x2), (3, .int x3), (6, .int x6)]) dX4_draw_128 (Nat.le_of_ble_eq_true rfl) rfl ?_
      refine zJ.iload 2 dX4_draw_130 rfl ?_
      refine zG.callSi [.int y2] [] dX4_draw_132 ⟨(cb_X4_isBox).1, (cb_X4_isBox).2, (Nat.le_of_ble_eq_true rfl), (Nat.le_of_ble_eq_true rfl)⟩ ml_X4_63 cs_X4_isBox rfl (Nat.le_of_ble_eq_true rfl) (Nat.le_of_ble_eq_true rfl) rfl h (fun r16 S17 h2 => ?_)
      replace h := h2
      clear h2
      refine zJ.if_eq (tgt := 160) dX4_draw_135 (by decide) (fun c18 => ?_) (fun c18 => ?_)
      · replace h := h.1 c18
        refine zJ.iinc (k := 7) (lv' := [(6, .int (x6 + 1)), (9, .int y14), (8, .int y3), (7, .int y2), (4, .long (((x4 * (1103515245 : Int64)) + (12345 : Int64)) - ((x4 * (1103515245 : Int64)) + (12345 : Int64)) / (2147483648 : Int64) * (2147483648 : Int64))), (0, .ref (z_adr o (0, 0, 0))), (2, .int x2), (3, .int x3)]) dX4_draw_160 rfl rfl (Nat.le_of_ble_eq_true rfl) rfl ?_
        refine zJ.goto (tgt := 50) dX4_draw_163 (by decide) ?_
        exact zJ.sub [5, 6, 7, 4, 0] rfl h
      · replace h := h.2 c18
        refine zJ.aload_n 4 dX4_draw_138 rfl rfl ?_
        refine zE.getV (fd_0_0 o) ok_0 kiX4 (Nat.le_of_ble_eq_true rfl) fl_X4_10 dX4_draw_139 ?_
        refine zJ.aload_n 4 dX4_draw_142 rfl rfl ?_
        refine zE.getV (fd_0_0 o) ok_0 kiX4 (Nat.le_of_ble_eq_true rfl) fl_X4_10 dX4_draw_143 ?_
        refine zE.getV (fd_1_2 o 0) (ok_1 (show 0 < 8 by decide) (z_sb_le (show 0 < 8 by decide))) kiX2 (Nat.le_of_ble_eq_true rfl) fl_X4_70 dX4_draw_146 ?_
        refine zJ.iload 2 dX4_draw_149 rfl ?_
        obtain ⟨hq19, h⟩ := h
        refine zE.aldB (ok_4 (show 0 < 8 by decide) (z_sb_le (show 0 < 8 by decide))) hq19 dX4_draw_151 ?_
        refine zJ.iload 1 dX4_draw_152 rfl ?_
        refine zJ.iload 0 dX4_draw_154 rfl ?_
        refine zG.callVi [.ref (z_adr o (5, 0, y2.toNatClampNeg)), .int y3, .int y14] [] (ob_1 o 0) (ok_1 (show 0 < 8 by decide) (z_sb_le (show 0 < 8 by decide))) rfl dX4_draw_156 ⟨(cb_X2_begin).1, (cb_X2_begin).2, (Nat.le_of_ble_eq_true rfl), (Nat.le_of_ble_eq_true rfl)⟩ ml_X4_74 ci_X2_begin cv_X2_begin rfl (Nat.le_of_ble_eq_true rfl) (Nat.le_of_ble_eq_true rfl) rfl h (fun r21 S22 h2 => ?_)
        replace h := h2
        clear h2
        refine zJ.pop dX4_draw_159 rfl ?_
        refine zJ.iinc (k := 7) (lv' := [(6, .int (x6 + 1)), (9, .int y14), (8, .int y3), (7, .int y2), (4, .long (((x4 * (1103515245 : Int64)) + (12345 : Int64)) - ((x4 * (1103515245 : Int64)) + (12345 : Int64)) / (2147483648 : Int64) * (2147483648 : Int64))), (0, .ref (z_adr o (0, 0, 0))), (2, .int x2), (3, .int x3)]) dX4_draw_160 rfl rfl (Nat.le_of_ble_eq_true rfl) rfl ?_
        refine zJ.goto (tgt := 50) dX4_draw_163 (by decide) ?_
        exact zJ.sub [5, 6, 7, 4, 0] rfl h
set_option maxRecDepth 100000 in
set_option maxHeartbeats 4000000 in
theorem w_X4_got_0 (o : zW) (x1 : Int32) (x2 : Int32) (S : zS) (Q : Option Value → zS → Prop) (h : (x1 < 0 → (zGi o 994 mdX4_refuse [.ref (z_adr o (0, 0, 0)), .int (-2)] S (fun r3 S4 => Q (some (.int r3)) S4))) ∧ (¬ x1 < 0 → ((x2 < 0 → (zGi o 994 mdX4_refuse [.ref (z_adr o (0, 0, 0)), .int (-2)] S (fun r7 S8 => Q (some (.int r7)) S8))) ∧ (¬ x2 < 0 → ((x2 ≤ 2 → (((S.1 (12, 0, 0) 3) ≤ x1 → (Q (some (.int (-1))) S)) ∧ (¬ (S.1 (12, 0, 0) 3) ≤ x1 → ((x1 < 200 → ((¬ x2 = 0 → ((¬ x2 = 1 → (vp_in x1 200 ∧ (Q (some (.int (S.1 (15, 0, 0) x1.toNatClampNeg))) S))) ∧ (x2 = 1 → (vp_in x1 200 ∧ (Q (some (.int (S.1 (14, 0, 0) x1.toNatClampNeg))) S))))) ∧ (x2 = 0 → (vp_in x1 200 ∧ (Q (some (.int (S.1 (13, 0, 0) x1.toNatClampNeg))) S))))) ∧ (¬ x1 < 200 → (Q (some (.int (-1))) S)))))) ∧ (¬ x2 ≤ 2 → (zGi o 994 mdX4_refuse [.ref (z_adr o (0, 0, 0)), .int (-2)] S (fun r15 S16 => Q (some (.int r15)) S16)))))))) : zG o 994 mdX4_got 0 [(0, .ref (z_adr o (0, 0, 0))), (1, .int x1), (2, .int x2)] [] S Q := by
  show zJ o mdX4_got 0 _ [] (994, z_enc o S) 0 0 _
  refine zJ.iload_n 1 dX4_got_0 rfl rfl ?_
  refine zJ.if_lt (tgt := 13) dX4_got_1 (by decide) (fun c1 => ?_) (fun c1 => ?_)
  · replace h := h.1 c1
    refine zJ.aload_n 0 dX4_got_13 rfl rfl ?_
    refine zJ.bipush (v := (-2)) dX4_got_14 (by decide) ?_
    refine zG.callVi [.int (-2)] [] (ob_0 o) ok_0 rfl dX4_got_16 ⟨(cb_X4_refuse).1, (cb_X4_refuse).2, (Nat.le_of_ble_eq_true rfl), (Nat.le_of_ble_eq_true rfl)⟩ ml_X4_47 ci_X4_refuse cv_X4_refuse rfl (Nat.le_of_ble_eq_true rfl) (Nat.le_of_ble_eq_true rfl) rfl h (fun r3 S4 h2 => ?_)
    replace h := h2
    clear h2
    exact zG.ret (r := some (.int r3)) ⟨dX4_got_19, _, rfl, rfl⟩ h
  · replace h := h.2 c1
    refine zJ.iload_n 2 dX4_got_4 rfl rfl ?_
    refine zJ.if_lt (tgt := 13) dX4_got_5 (by decide) (fun c5 => ?_) (fun c5 => ?_)
    · replace h := h.1 c5
      refine zJ.aload_n 0 dX4_got_13 rfl rfl ?_
      refine zJ.bipush (v := (-2)) dX4_got_14 (by decide) ?_
      refine zG.callVi [.int (-2)] [] (ob_0 o) ok_0 rfl dX4_got_16 ⟨(cb_X4_refuse).1, (cb_X4_refuse).2, (Nat.le_of_ble_eq_true rfl), (Nat.le_of_ble_eq_true rfl)⟩ ml_X4_47 ci_X4_refuse cv_X4_refuse rfl (Nat.le_of_ble_eq_true rfl) (Nat.le_of_ble_eq_true rfl) rfl h (fun r7 S8 h2 => ?_)
      replace h := h2
      clear h2
      exact zG.ret (r := some (.int r7)) ⟨dX4_got_19, _, rfl, rfl⟩ h
    · replace h := h.2 c5
      refine zJ.iload_n 2 dX4_got_8 rfl rfl ?_
      refine zJ.iconst (v := 2) dX4_got_9 (by decide) ?_
      refine zJ.icmp_le (tgt := 20) dX4_got_10 (by decide) (fun c9 => ?_) (fun c9 => ?_)
      · replace h := h.1 c9
        refine zJ.aload_n 0 dX4_got_20 rfl rfl ?_
        refine zE.getV (fd_0_0 o) ok_0 kiX4 (Nat.le_of_ble_eq_true rfl) fl_X4_10 dX4_got_21 ?_
        refine zE.getV (fd_1_3 o 0) (ok_1 (show 0 < 8 by decide) (z_sb_le (show 0 < 8 by decide))) kiX2 (Nat.le_of_ble_eq_true rfl) fl_X4_105 dX4_got_24 ?_
        refine zJ.astore_n (lv' := [(3, .ref (z_adr o (12, 0, 0))), (0, .ref (z_adr o (0, 0, 0))), (1, .int x1), (2, .int x2)]) dX4_got_27 rfl (Nat.le_of_ble_eq_true rfl) rfl ?_
        refine zJ.iload_n 2 dX4_got_28 rfl rfl ?_
        refine zJ.aload_n 0 dX4_got_29 rfl rfl ?_
        refine zE.getI (fd_12_3 o 0) (ok_12 (show 0 < 8 by decide) (z_sb_le (show 0 < 8 by decide))) kiX1 (Nat.le_of_ble_eq_true rfl) fl_X4_109 dX4_got_30 ?_
        refine zJ.icmp_ge (tgt := 43) dX4_got_33 (by decide) (fun c10 => ?_) (fun c10 => ?_)
        · replace h := h.1 c10
          refine zJ.iconst (v := (-1)) dX4_got_43 (by decide) ?_
          exact zG.ret (r := some (.int (-1))) ⟨dX4_got_44, _, rfl, rfl⟩ h
        · replace h := h.2 c10
          refine zJ.iload_n 2 dX4_got_36 rfl rfl ?_
          refine zJ.sipush (v := 200) dX4_got_37 (by decide) ?_
          refine zJ.icmp_lt (tgt := 45) dX4_got_40 (by decide) (fun c11 => ?_) (fun c11 => ?_)
          · replace h := h.1 c11
            refine zJ.iload_n 3 dX4_got_45 rfl rfl ?_
            refine zJ.if_ne (tgt := 58) dX4_got_46 (by decide) (fun c12 => ?_) (fun c12 => ?_)
            · replace h := h.1 c12
              refine zJ.iload_n 3 dX4_got_58 rfl rfl ?_
              refine zJ.iconst (v := 1) dX4_got_59 (by decide) ?_
              refine zJ.icmp_ne (tgt := 72) dX4_got_60 (by decide) (fun c13 => ?_) (fun c13 => ?_)
              · replace h := h.1 c13
                refine zJ.aload_n 0 dX4_got_72 rfl rfl ?_
                refine zE.getV (fd_12_2 o 0) (ok_12 (show 0 < 8 by decide) (z_sb_le (show 0 < 8 by decide))) kiX1 (Nat.le_of_ble_eq_true rfl) fl_X4_120 dX4_got_73 ?_
                refine zJ.iload_n 2 dX4_got_76 rfl rfl ?_
                obtain ⟨hq, h⟩ := h
                refine zE.aldI (ia_15 o 0) (ok_15 (show 0 < 8 by decide) (z_sb_le (show 0 < 8 by decide))) hq dX4_got_77 ?_
                exact zG.ret (r := some (.int (S.1 (15, 0, 0) x1.toNatClampNeg))) ⟨dX4_got_78, _, rfl, rfl⟩ h
              · replace h := h.2 c13
                refine zJ.aload_n 0 dX4_got_63 rfl rfl ?_
                refine zE.getV (fd_12_1 o 0) (ok_12 (show 0 < 8 by decide) (z_sb_le (show 0 < 8 by decide))) kiX1 (Nat.le_of_ble_eq_true rfl) fl_X4_117 dX4_got_64 ?_
                refine zJ.iload_n 2 dX4_got_67 rfl rfl ?_
                obtain ⟨hq, h⟩ := h
                refine zE.aldI (ia_14 o 0) (ok_14 (show 0 < 8 by decide) (z_sb_le (show 0 < 8 by decide))) hq dX4_got_68 ?_
                refine zJ.goto (tgt := 78) dX4_got_69 (by decide) ?_
                exact zG.ret (r := some (.int (S.1 (14, 0, 0) x1.toNatClampNeg))) ⟨dX4_got_78, _, rfl, rfl⟩ h
            · replace h := h.2 c12
              refine zJ.aload_n 0 dX4_got_49 rfl rfl ?_
              refine zE.getV (fd_12_0 o 0) (ok_12 (show 0 < 8 by decide) (z_sb_le (show 0 < 8 by decide))) kiX1 (Nat.le_of_ble_eq_true rfl) fl_X4_114 dX4_got_50 ?_
              refine zJ.iload_n 2 dX4_got_53 rfl rfl ?_
              obtain ⟨hq, h⟩ := h
              refine zE.aldI (ia_13 o 0) (ok_13 (show 0 < 8 by decide) (z_sb_le (show 0 < 8 by decide))) hq dX4_got_54 ?_
              refine zJ.goto (tgt := 78) dX4_got_55 (by decide) ?_
              exact zG.ret (r := some (.int (S.1 (13, 0, 0) x1.toNatClampNeg))) ⟨dX4_got_78, _, rfl, rfl⟩ h
          · replace h := h.2 c11
            refine zJ.iconst (v := (-1)) dX4_got_43 (by decide) ?_
            exact zG.ret (r := some (.int (-1))) ⟨dX4_got_44, _, rfl, rfl⟩ h
      · replace h := h.2 c9
        refine zJ.aload_n 0 dX4_got_13 rfl rfl ?_
        refine zJ.bipush (v := (-2)) dX4_got_14 (by decide) ?_
        refine zG.callVi [.int (-2)] [] (ob_0 o) ok_0 rfl dX4_got_16 ⟨(cb_X4_refuse).1, (cb_X4_refuse).2, (Nat.le_of_ble_eq_true rfl), (Nat.le_of_ble_eq_true rfl)⟩ ml_X4_47 ci_X4_refuse cv_X4_refuse rfl (Nat.le_of_ble_eq_true rfl) (Nat.le_of_ble_eq_true rfl) rfl h (fun r15 S16 h2 => ?_)
        replace h := h2
        clear h2
        exact zG.ret (r := some (.int r15)) ⟨dX4_got_19, _, rfl, rfl⟩ h
set_option maxRecDepth 100000 in
set_option maxHeartbeats 4000000 in
theorem w_X4_often_0 (o : zW) (x1 : Int32) (S : zS) (Q : Option Value → zS → Prop) (h : (x1 < 0 → (zGi o 994 mdX4_refuse [.ref (z_adr o (0, 0, 0)), .int (-2)] S (fun r3 S4 => Q (some (.int r3)) S4))) ∧ (¬ x1 < 0 → ((x1 < 10 → (vp_in x1 10 ∧ (Q (some (.int (S.1 (3, 0, 0) x1.toNatClampNeg))) S))) ∧ (¬ x1 < 10 → (zGi o 994 mdX4_refuse [.ref (z_adr o (0, 0, 0)), .int (-2)] S (fun r7 S8 => Q (some (.int r7)) S8)))))) : zG o 994 mdX4_often 0 [(0, .ref (z_adr o (0, 0, 0))), (1, .int x1)] [] S Q := by
  show zJ o mdX4_often 0 _ [] (994, z_enc o S) 0 0 _
  refine zJ.iload_n 1 dX4_often_0 rfl rfl ?_
  refine zJ.if_lt (tgt := 10) dX4_often_1 (by decide) (fun c1 => ?_) (fun c1 => ?_)
  · replace h := h.1 c1
    refine zJ.aload_n 0 dX4_often_10 rfl rfl ?_
    refine zJ.bipush (v := (-2)) dX4_often_11 (by decide) ?_
    refine zG.callVi [.int (-2)] [] (ob_0 o) ok_0 rfl dX4_often_13 ⟨(cb_X4_refuse).1, (cb_X4_refuse).2, (Nat.le_of_ble_eq_true rfl), (Nat.le_of_ble_eq_true rfl)⟩ ml_X4_47 ci_X4_refuse cv_X4_refuse rfl (Nat.le_of_ble_eq_true rfl) (Nat.le_of_ble_eq_true rfl) rfl h (fun r3 S4 h2 => ?_)
    replace h := h2
    clear h2
    exact zG.ret (r := some (.int r3)) ⟨dX4_often_16, _, rfl, rfl⟩ h
  · replace h := h.2 c1
    refine zJ.iload_n 1 dX4_often_4 rfl rfl ?_
    refine zJ.bipush (v := 10) dX4_often_5 (by decide) ?_
    refine zJ.icmp_lt (tgt := 17) dX4_often_7 (by decide) (fun c5 => ?_) (fun c5 => ?_)
    · replace h := h.1 c5
      refine zJ.aload_n 0 dX4_often_17 rfl rfl ?_
      refine zE.getV (fd_0_0 o) ok_0 kiX4 (Nat.le_of_ble_eq_true rfl) fl_X4_10 dX4_often_18 ?_
      refine zE.getV (fd_1_1 o 0) (ok_1 (show 0 < 8 by decide) (z_sb_le (show 0 < 8 by decide))) kiX2 (Nat.le_of_ble_eq_true rfl) fl_X4_60 dX4_often_21 ?_
      refine zJ.iload_n 1 dX4_often_24 rfl rfl ?_
      obtain ⟨hq, h⟩ := h
      refine zE.aldI (ia_3 o 0) (ok_3 (show 0 < 8 by decide) (z_sb_le (show 0 < 8 by decide))) hq dX4_often_25 ?_
      exact zG.ret (r := some (.int (S.1 (3, 0, 0) x1.toNatClampNeg))) ⟨dX4_often_26, _, rfl, rfl⟩ h
    · replace h := h.2 c5
      refine zJ.aload_n 0 dX4_often_10 rfl rfl ?_
      refine zJ.bipush (v := (-2)) dX4_often_11 (by decide) ?_
      refine zG.callVi [.int (-2)] [] (ob_0 o) ok_0 rfl dX4_often_13 ⟨(cb_X4_refuse).1, (cb_X4_refuse).2, (Nat.le_of_ble_eq_true rfl), (Nat.le_of_ble_eq_true rfl)⟩ ml_X4_47 ci_X4_refuse cv_X4_refuse rfl (Nat.le_of_ble_eq_true rfl) (Nat.le_of_ble_eq_true rfl) rfl h (fun r7 S8 h2 => ?_)
      replace h := h2
      clear h2
      exact zG.ret (r := some (.int r7)) ⟨dX4_often_16, _, rfl, rfl⟩ h
set_option maxRecDepth 100000 in
set_option maxHeartbeats 4000000 in
theorem w_X4_where_0 (o : zW) (x1 : Int32) (S : zS) (Q : Option Value → zS → Prop) (h : zGi o 994 mdX4_isBox [.int x1] S (fun r2 S3 => (¬ r2 = 0 → (vp_in x1 16 ∧ (Q (some (.int (S3.1 (5, 0, x1.toNatClampNeg) 8))) S3))) ∧ (r2 = 0 → (zGi o 994 mdX4_refuse [.ref (z_adr o (0, 0, 0)), .int (-2)] S3 (fun r7 S8 => Q (some (.int r7)) S8))))) : zG o 994 mdX4_where 0 [(0, .ref (z_adr o (0, 0, 0))), (1, .int x1)] [] S Q := by
  show zJ o mdX4_where 0 _ [] (994, z_enc o S) 0 0 _
  refine zJ.iload_n 1 dX4_where_0 rfl rfl ?_
  refine zG.callSi [.int x1] [] dX4_where_1 ⟨(cb_X4_isBox).1, (cb_X4_isBox).2, (Nat.le_of_ble_eq_true rfl), (Nat.le_of_ble_eq_true rfl)⟩ ml_X4_63 cs_X4_isBox rfl (Nat.le_of_ble_eq_true rfl) (Nat.le_of_ble_eq_true rfl) rfl h (fun r2 S3 h2 => ?_)
  replace h := h2
  clear h2
  refine zJ.if_ne (tgt := 14) dX4_where_4 (by decide) (fun c4 => ?_) (fun c4 => ?_)
  · replace h := h.1 c4
    refine zJ.aload_n 0 dX4_where_14 rfl rfl ?_
    refine zE.getV (fd_0_0 o) ok_0 kiX4 (Nat.le_of_ble_eq_true rfl) fl_X4_10 dX4_where_15 ?_
    refine zE.getV (fd_1_2 o 0) (ok_1 (show 0 < 8 by decide) (z_sb_le (show 0 < 8 by decide))) kiX2 (Nat.le_of_ble_eq_true rfl) fl_X4_70 dX4_where_18 ?_
    refine zJ.iload_n 1 dX4_where_21 rfl rfl ?_
    obtain ⟨hq5, h⟩ := h
    refine zE.aldB (ok_4 (show 0 < 8 by decide) (z_sb_le (show 0 < 8 by decide))) hq5 dX4_where_22 ?_
    refine zE.getI (fd_5_8 o 0 x1.toNatClampNeg) (ok_5 (show 0 < 8 by decide) (z_vlt hq5) (z_sb_le (show 0 < 8 by decide))) kiX0 (Nat.le_of_ble_eq_true rfl) fl_X4_123 dX4_where_23 ?_
    exact zG.ret (r := some (.int (S3.1 (5, 0, x1.toNatClampNeg) 8))) ⟨dX4_where_26, _, rfl, rfl⟩ h
  · replace h := h.2 c4
    refine zJ.aload_n 0 dX4_where_7 rfl rfl ?_
    refine zJ.bipush (v := (-2)) dX4_where_8 (by decide) ?_
    refine zG.callVi [.int (-2)] [] (ob_0 o) ok_0 rfl dX4_where_10 ⟨(cb_X4_refuse).1, (cb_X4_refuse).2, (Nat.le_of_ble_eq_true rfl), (Nat.le_of_ble_eq_true rfl)⟩ ml_X4_47 ci_X4_refuse cv_X4_refuse rfl (Nat.le_of_ble_eq_true rfl) (Nat.le_of_ble_eq_true rfl) rfl h (fun r7 S8 h2 => ?_)
    replace h := h2
    clear h2
    exact zG.ret (r := some (.int r7)) ⟨dX4_where_13, _, rfl, rfl⟩ h
set_option maxRecDepth 100000 in
set_option maxHeartbeats 4000000 in
theorem w_X4_item_0 (o : zW) (x1 : Int32) (x2 : Int32) (x3 : Int32) (S : zS) (Q : Option Value → zS → Prop) (h : zGi o 994 mdX4_isBox [.int x1] S (fun r2 S3 => (r2 = 0 → (zGi o 994 mdX4_refuse [.ref (z_adr o (0, 0, 0)), .int (-2)] S3 (fun r6 S7 => Q (some (.int r6)) S7))) ∧ (¬ r2 = 0 → (zGi o 994 mdX4_isItem [.int x2] S3 (fun r9 S10 => (r9 = 0 → (zGi o 994 mdX4_refuse [.ref (z_adr o (0, 0, 0)), .int (-2)] S10 (fun r13 S14 => Q (some (.int r13)) S14))) ∧ (¬ r9 = 0 → ((x3 < 0 → (zGi o 994 mdX4_refuse [.ref (z_adr o (0, 0, 0)), .int (-2)] S10 (fun r17 S18 => Q (some (.int r17)) S18))) ∧ (¬ x3 < 0 → ((x3 ≤ 2 → (vp_in x1 16 ∧ ((¬ x3 = 0 → ((¬ x3 = 1 → (zGi o 994 mdX0_changedBit [.ref (z_adr o (5, 0, x1.toNatClampNeg)), .int x2] S10 (fun r24 S25 => Q (some (.int r24)) S25))) ∧ (x3 = 1 → (zGi o 994 mdX0_valueAtLast [.ref (z_adr o (5, 0, x1.toNatClampNeg)), .int x2] S10 (fun r27 S28 => Q (some (.int r27)) S28))))) ∧ (x3 = 0 → (vp_in x2 4 ∧ (Q (some (.int (S10.1 (6, 0, x1.toNatClampNeg) x2.toNatClampNeg))) S10)))))) ∧ (¬ x3 ≤ 2 → (zGi o 994 mdX4_refuse [.ref (z_adr o (0, 0, 0)), .int (-2)] S10 (fun r30 S31 => Q (some (.int r30)) S31)))))))))))) : zG o 994 mdX4_item 0 [(0, .ref (z_adr o (0, 0, 0))), (1, .int x1), (2, .int x2), (3, .int x3)] [] S Q := by
  show zJ o mdX4_item 0 _ [] (994, z_enc o S) 0 0 _
  refine zJ.iload_n 1 dX4_item_0 rfl rfl ?_
  refine zG.callSi [.int x1] [] dX4_item_1 ⟨(cb_X4_isBox).1, (cb_X4_isBox).2, (Nat.le_of_ble_eq_true rfl), (Nat.le_of_ble_eq_true rfl)⟩ ml_X4_63 cs_X4_isBox rfl (Nat.le_of_ble_eq_true rfl) (Nat.le_of_ble_eq_true rfl) rfl h (fun r2 S3 h2 => ?_)
  replace h := h2
  clear h2
  refine zJ.if_eq (tgt := 23) dX4_item_4 (by decide) (fun c4 => ?_) (fun c4 => ?_)
  · replace h := h.1 c4
    refine zJ.aload_n 0 dX4_item_23 rfl rfl ?_
    refine zJ.bipush (v := (-2)) dX4_item_24 (by decide) ?_
    refine zG.callVi [.int (-2)] [] (ob_0 o) ok_0 rfl dX4_item_26 ⟨(cb_X4_refuse).1, (cb_X4_refuse).2, (Nat.le_of_ble_eq_true rfl), (Nat.le_of_ble_eq_true rfl)⟩ ml_X4_47 ci_X4_refuse cv_X4_refuse rfl (Nat.le_of_ble_eq_true rfl) (Nat.le_of_ble_eq_true rfl) rfl h (fun r6 S7 h2 => ?_)
    replace h := h2
    clear h2
    exact zG.ret (r := some (.int r6)) ⟨dX4_item_29, _, rfl, rfl⟩ h
  · replace h := h.2 c4
    refine zJ.iload_n 2 dX4_item_7 rfl rfl ?_
    refine zG.callSi [.int x2] [] dX4_item_8 ⟨(cb_X4_isItem).1, (cb_X4_isItem).2, (Nat.le_of_ble_eq_true rfl), (Nat.le_of_ble_eq_true rfl)⟩ ml_X4_67 cs_X4_isItem rfl (Nat.le_of_ble_eq_true rfl) (Nat.le_of_ble_eq_true rfl) rfl h (fun r9 S10 h2 => ?_)
    replace h := h2
    clear h2
    refine zJ.if_eq (tgt := 23) dX4_item_11 (by decide) (fun c11 => ?_) (fun c11 => ?_)
    · replace h := h.1 c11
      refine zJ.aload_n 0 dX4_item_23 rfl rfl ?_
      refine zJ.bipush (v := (-2)) dX4_item_24 (by decide) ?_
      refine zG.callVi [.int (-2)] [] (ob_0 o) ok_0 rfl dX4_item_26 ⟨(cb_X4_refuse).1, (cb_X4_refuse).2, (Nat.le_of_ble_eq_true rfl), (Nat.le_of_ble_eq_true rfl)⟩ ml_X4_47 ci_X4_refuse cv_X4_refuse rfl (Nat.le_of_ble_eq_true rfl) (Nat.le_of_ble_eq_true rfl) rfl h (fun r13 S14 h2 => ?_)
      replace h := h2
      clear h2
      exact zG.ret (r := some (.int r13)) ⟨dX4_item_29, _, rfl, rfl⟩ h
    · replace h := h.2 c11
      refine zJ.iload_n 3 dX4_item_14 rfl rfl ?_
      refine zJ.if_lt (tgt := 23) dX4_item_15 (by decide) (fun c15 => ?_) (fun c15 => ?_)
      · replace h := h.1 c15
        refine zJ.aload_n 0 dX4_item_23 rfl rfl ?_
        refine zJ.bipush (v := (-2)) dX4_item_24 (by decide) ?_
        refine zG.callVi [.int (-2)] [] (ob_0 o) ok_0 rfl dX4_item_26 ⟨(cb_X4_refuse).1, (cb_X4_refuse).2, (Nat.le_of_ble_eq_true rfl), (Nat.le_of_ble_eq_true rfl)⟩ ml_X4_47 ci_X4_refuse cv_X4_refuse rfl (Nat.le_of_ble_eq_true rfl) (Nat.le_of_ble_eq_true rfl) rfl h (fun r17 S18 h2 => ?_)
        replace h := h2
        clear h2
        exact zG.ret (r := some (.int r17)) ⟨dX4_item_29, _, rfl, rfl⟩ h
      · replace h := h.2 c15
        refine zJ.iload_n 3 dX4_item_18 rfl rfl ?_
        refine zJ.iconst (v := 2) dX4_item_19 (by decide) ?_
        refine zJ.icmp_le (tgt := 30) dX4_item_20 (by decide) (fun c19 => ?_) (fun c19 => ?_)
        · replace h := h.1 c19
          refine zJ.aload_n 0 dX4_item_30 rfl rfl ?_
          refine zE.getV (fd_0_0 o) ok_0 kiX4 (Nat.le_of_ble_eq_true rfl) fl_X4_10 dX4_item_31 ?_
          refine zE.getV (fd_1_2 o 0) (ok_1 (show 0 < 8 by decide) (z_sb_le (show 0 < 8 by decide))) kiX2 (Nat.le_of_ble_eq_true rfl) fl_X4_70 dX4_item_34 ?_
          refine zJ.iload_n 1 dX4_item_37 rfl rfl ?_
          obtain ⟨hq20, h⟩ := h
          refine zE.aldB (ok_4 (show 0 < 8 by decide) (z_sb_le (show 0 < 8 by decide))) hq20 dX4_item_38 ?_
          refine zJ.astore (lv' := [(4, .ref (z_adr o (5, 0, x1.toNatClampNeg))), (0, .ref (z_adr o (0, 0, 0))), (1, .int x1), (2, .int x2), (3, .int x3)]) dX4_item_39 (Nat.le_of_ble_eq_true rfl) rfl ?_
          refine zJ.iload_n 4 dX4_item_41 rfl rfl ?_
          refine zJ.if_ne (tgt := 53) dX4_item_42 (by decide) (fun c21 => ?_) (fun c21 => ?_)
          · replace h := h.1 c21
            refine zJ.iload_n 4 dX4_item_53 rfl rfl ?_
            refine zJ.iconst (v := 1) dX4_item_54 (by decide) ?_
            refine zJ.icmp_ne (tgt := 67) dX4_item_55 (by decide) (fun c22 => ?_) (fun c22 => ?_)
            · replace h := h.1 c22
              refine zJ.aload 0 dX4_item_67 rfl ?_
              refine zJ.iload_n 3 dX4_item_69 rfl rfl ?_
              refine zG.callVi [.int x2] [] (ob_5 o 0 x1.toNatClampNeg) (ok_5 (show 0 < 8 by decide) (z_vlt hq20) (z_sb_le (show 0 < 8 by decide))) rfl dX4_item_70 ⟨(cb_X0_changedBit).1, (cb_X0_changedBit).2, (Nat.le_of_ble_eq_true rfl), (Nat.le_of_ble_eq_true rfl)⟩ ml_X4_134 ci_X0_changedBit cv_X0_changedBit rfl (Nat.le_of_ble_eq_true rfl) (Nat.le_of_ble_eq_true rfl) rfl h (fun r24 S25 h2 => ?_)
              replace h := h2
              clear h2
              exact zG.ret (r := some (.int r24)) ⟨dX4_item_73, _, rfl, rfl⟩ h
            · replace h := h.2 c22
              refine zJ.aload 0 dX4_item_58 rfl ?_
              refine zJ.iload_n 3 dX4_item_60 rfl rfl ?_
              refine zG.callVi [.int x2] [] (ob_5 o 0 x1.toNatClampNeg) (ok_5 (show 0 < 8 by decide) (z_vlt hq20) (z_sb_le (show 0 < 8 by decide))) rfl dX4_item_61 ⟨(cb_X0_valueAtLast).1, (cb_X0_valueAtLast).2, (Nat.le_of_ble_eq_true rfl), (Nat.le_of_ble_eq_true rfl)⟩ ml_X4_131 ci_X0_valueAtLast cv_X0_valueAtLast rfl (Nat.le_of_ble_eq_true rfl) (Nat.le_of_ble_eq_true rfl) rfl h (fun r27 S28 h2 => ?_)
              replace h := h2
              clear h2
              refine zJ.goto (tgt := 73) dX4_item_64 (by decide) ?_
              exact zG.ret (r := some (.int r27)) ⟨dX4_item_73, _, rfl, rfl⟩ h
          · replace h := h.2 c21
            refine zJ.aload 0 dX4_item_45 rfl ?_
            refine zE.getV (fd_5_1 o 0 x1.toNatClampNeg) (ok_5 (show 0 < 8 by decide) (z_vlt hq20) (z_sb_le (show 0 < 8 by decide))) kiX0 (Nat.le_of_ble_eq_true rfl) fl_X4_128 dX4_item_47 ?_
            refine zJ.iload_n 3 dX4_item_50 rfl rfl ?_
            obtain ⟨hq, h⟩ := h
            refine zE.aldI (ia_6 o 0 x1.toNatClampNeg) (ok_6 (show 0 < 8 by decide) (z_vlt hq20) (z_sb_le (show 0 < 8 by decide))) hq dX4_item_51 ?_
            exact zG.ret (r := some (.int (S10.1 (6, 0, x1.toNatClampNeg) x2.toNatClampNeg))) ⟨dX4_item_52, _, rfl, rfl⟩ h
        · replace h := h.2 c19
          refine zJ.aload_n 0 dX4_item_23 rfl rfl ?_
          refine zJ.bipush (v := (-2)) dX4_item_24 (by decide) ?_
          refine zG.callVi [.int (-2)] [] (ob_0 o) ok_0 rfl dX4_item_26 ⟨(cb_X4_refuse).1, (cb_X4_refuse).2, (Nat.le_of_ble_eq_true rfl), (Nat.le_of_ble_eq_true rfl)⟩ ml_X4_47 ci_X4_refuse cv_X4_refuse rfl (Nat.le_of_ble_eq_true rfl) (Nat.le_of_ble_eq_true rfl) rfl h (fun r30 S31 h2 => ?_)
          replace h := h2
          clear h2
          exact zG.ret (r := some (.int r30)) ⟨dX4_item_29, _, rfl, rfl⟩ h
set_option maxRecDepth 100000 in
set_option maxHeartbeats 4000000 in
theorem w_X4_place_0 (o : zW) (x1 : Int32) (x2 : Int32) (S : zS) (Q : Option Value → zS → Prop) (h : (x1 < 0 → (zGi o 994 mdX4_refuse [.ref (z_adr o (0, 0, 0)), .int (-2)] S (fun r3 S4 => Q (some (.int r3)) S4))) ∧ (¬ x1 < 0 → ((4 ≤ x1 → (zGi o 994 mdX4_refuse [.ref (z_adr o (0, 0, 0)), .int (-2)] S (fun r7 S8 => Q (some (.int r7)) S8))) ∧ (¬ 4 ≤ x1 → ((x2 < 0 → (zGi o 994 mdX4_refuse [.ref (z_adr o (0, 0, 0)), .int (-2)] S (fun r11 S12 => Q (some (.int r11)) S12))) ∧ (¬ x2 < 0 → ((x2 < 3 → (zGi o 994 mdX2_boxInPlace [.ref (z_adr o (1, 0, 0)), .int x1, .int x2] S (fun r15 S16 => Q (some (.int r15)) S16))) ∧ (¬ x2 < 3 → (zGi o 994 mdX4_refuse [.ref (z_adr o (0, 0, 0)), .int (-2)] S (fun r18 S19 => Q (some (.int r18)) S19)))))))))) : zG o 994 mdX4_place 0 [(0, .ref (z_adr o (0, 0, 0))), (1, .int x1), (2, .int x2)] [] S Q := by
  show zJ o mdX4_place 0 _ [] (994, z_enc o S) 0 0 _
  refine zJ.iload_n 1 dX4_place_0 rfl rfl ?_
  refine zJ.if_lt (tgt := 18) dX4_place_1 (by decide) (fun c1 => ?_) (fun c1 => ?_)
  · replace h := h.1 c1
    refine zJ.aload_n 0 dX4_place_18 rfl rfl ?_
    refine zJ.bipush (v := (-2)) dX4_place_19 (by decide) ?_
    refine zG.callVi [.int (-2)] [] (ob_0 o) ok_0 rfl dX4_place_21 ⟨(cb_X4_refuse).1, (cb_X4_refuse).2, (Nat.le_of_ble_eq_true rfl), (Nat.le_of_ble_eq_true rfl)⟩ ml_X4_47 ci_X4_refuse cv_X4_refuse rfl (Nat.le_of_ble_eq_true rfl) (Nat.le_of_ble_eq_true rfl) rfl h (fun r3 S4 h2 => ?_)
    replace h := h2
    clear h2
    exact zG.ret (r := some (.int r3)) ⟨dX4_place_24, _, rfl, rfl⟩ h
  · replace h := h.2 c1
    refine zJ.iload_n 1 dX4_place_4 rfl rfl ?_
    refine zJ.iconst (v := 4) dX4_place_5 (by decide) ?_
    refine zJ.icmp_ge (tgt := 18) dX4_place_6 (by decide) (fun c5 => ?_) (fun c5 => ?_)
    · replace h := h.1 c5
      refine zJ.aload_n 0 dX4_place_18 rfl rfl ?_
      refine zJ.bipush (v := (-2)) dX4_place_19 (by decide) ?_
      refine zG.callVi [.int (-2)] [] (ob_0 o) ok_0 rfl dX4_place_21 ⟨(cb_X4_refuse).1, (cb_X4_refuse).2, (Nat.le_of_ble_eq_true rfl), (Nat.le_of_ble_eq_true rfl)⟩ ml_X4_47 ci_X4_refuse cv_X4_refuse rfl (Nat.le_of_ble_eq_true rfl) (Nat.le_of_ble_eq_true rfl) rfl h (fun r7 S8 h2 => ?_)
      replace h := h2
      clear h2
      exact zG.ret (r := some (.int r7)) ⟨dX4_place_24, _, rfl, rfl⟩ h
    · replace h := h.2 c5
      refine zJ.iload_n 2 dX4_place_9 rfl rfl ?_
      refine zJ.if_lt (tgt := 18) dX4_place_10 (by decide) (fun c9 => ?_) (fun c9 => ?_)
      · replace h := h.1 c9
        refine zJ.aload_n 0 dX4_place_18 rfl rfl ?_
        refine zJ.bipush (v := (-2)) dX4_place_19 (by decide) ?_
        refine zG.callVi [.int (-2)] [] (ob_0 o) ok_0 rfl dX4_place_21 ⟨(cb_X4_refuse).1, (cb_X4_refuse).2, (Nat.le_of_ble_eq_true rfl), (Nat.le_of_ble_eq_true rfl)⟩ ml_X4_47 ci_X4_refuse cv_X4_refuse rfl (Nat.le_of_ble_eq_true rfl) (Nat.le_of_ble_eq_true rfl) rfl h (fun r11 S12 h2 => ?_)
        replace h := h2
        clear h2
        exact zG.ret (r := some (.int r11)) ⟨dX4_place_24, _, rfl, rfl⟩ h
      · replace h := h.2 c9
        refine zJ.iload_n 2 dX4_place_13 rfl rfl ?_
        refine zJ.iconst (v := 3) dX4_place_14 (by decide) ?_
        refine zJ.icmp_lt (tgt := 25) dX4_place_15 (by decide) (fun c13 => ?_) (fun c13 => ?_)
        · replace h := h.1 c13
          refine zJ.aload_n 0 dX4_place_25 rfl rfl ?_
          refine zE.getV (fd_0_0 o) ok_0 kiX4 (Nat.le_of_ble_eq_true rfl) fl_X4_10 dX4_place_26 ?_
          refine zJ.iload_n 1 dX4_place_29 rfl rfl ?_
          refine zJ.iload_n 2 dX4_place_30 rfl rfl ?_
          refine zG.callVi [.int x1, .int x2] [] (ob_1 o 0) (ok_1 (show 0 < 8 by decide) (z_sb_le (show 0 < 8 by decide))) rfl dX4_place_31 ⟨(cb_X2_boxInPlace).1, (cb_X2_boxInPlace).2, (Nat.le_of_ble_eq_true rfl), (Nat.le_of_ble_eq_true rfl)⟩ ml_X4_137 ci_X2_boxInPlace cv_X2_boxInPlace rfl (Nat.le_of_ble_eq_true rfl) (Nat.le_of_ble_eq_true rfl) rfl h (fun r15 S16 h2 => ?_)
          replace h := h2
          clear h2
          exact zG.ret (r := some (.int r15)) ⟨dX4_place_34, _, rfl, rfl⟩ h
        · replace h := h.2 c13
          refine zJ.aload_n 0 dX4_place_18 rfl rfl ?_
          refine zJ.bipush (v := (-2)) dX4_place_19 (by decide) ?_
          refine zG.callVi [.int (-2)] [] (ob_0 o) ok_0 rfl dX4_place_21 ⟨(cb_X4_refuse).1, (cb_X4_refuse).2, (Nat.le_of_ble_eq_true rfl), (Nat.le_of_ble_eq_true rfl)⟩ ml_X4_47 ci_X4_refuse cv_X4_refuse rfl (Nat.le_of_ble_eq_true rfl) (Nat.le_of_ble_eq_true rfl) rfl h (fun r18 S19 h2 => ?_)
          replace h := h2
          clear h2
          exact zG.ret (r := some (.int r18)) ⟨dX4_place_24, _, rfl, rfl⟩ h
set_option maxRecDepth 100000 in
set_option maxHeartbeats 4000000 in
theorem w_X4_fetch_0 (o : zW) (x1 : Int32) (x2 : Int32) (S : zS) (Q : Option Value → zS → Prop) (h : (x1 < 0 → (zGi o 994 mdX4_refuse [.ref (z_adr o (0, 0, 0)), .int (-2)] S (fun r3 S4 => Q (some (.int r3)) S4))) ∧ (¬ x1 < 0 → ((x2 < 0 → (zGi o 994 mdX4_refuse [.ref (z_adr o (0, 0, 0)), .int (-2)] S (fun r7 S8 => Q (some (.int r7)) S8))) ∧ (¬ x2 < 0 → ((x2 ≤ 2 → (zGq o 994 mdX2_boxOfFetch 0 [.ref (z_adr o (1, 0, 0)), .int x1] S (fun r11 S12 => (r11 = none → (Q (some (.int (-1))) S12)) ∧ (∀ b14, r11 = some b14 → ((¬ x2 = 0 → ((¬ x2 = 1 → (Q (some (.int (S12.1 (5, 0, b14) 7))) S12)) ∧ (x2 = 1 → (Q (some (.int ((S12.1 (5, 0, b14) 10) - (S12.1 (3, 0, 0) 9)))) S12)))) ∧ (x2 = 0 → (Q (some (.int (nI b14))) S12))))))) ∧ (¬ x2 ≤ 2 → (zGi o 994 mdX4_refuse [.ref (z_adr o (0, 0, 0)), .int (-2)] S (fun r18 S19 => Q (some (.int r18)) S19)))))))) : zG o 994 mdX4_fetch 0 [(0, .ref (z_adr o (0, 0, 0))), (1, .int x1), (2, .int x2)] [] S Q := by
  show zJ o mdX4_fetch 0 _ [] (994, z_enc o S) 0 0 _
  refine zJ.iload_n 1 dX4_fetch_0 rfl rfl ?_
  refine zJ.if_lt (tgt := 13) dX4_fetch_1 (by decide) (fun c1 => ?_) (fun c1 => ?_)
  · replace h := h.1 c1
    refine zJ.aload_n 0 dX4_fetch_13 rfl rfl ?_
    refine zJ.bipush (v := (-2)) dX4_fetch_14 (by decide) ?_
    refine zG.callVi [.int (-2)] [] (ob_0 o) ok_0 rfl dX4_fetch_16 ⟨(cb_X4_refuse).1, (cb_X4_refuse).2, (Nat.le_of_ble_eq_true rfl), (Nat.le_of_ble_eq_true rfl)⟩ ml_X4_47 ci_X4_refuse cv_X4_refuse rfl (Nat.le_of_ble_eq_true rfl) (Nat.le_of_ble_eq_true rfl) rfl h (fun r3 S4 h2 => ?_)
    replace h := h2
    clear h2
    exact zG.ret (r := some (.int r3)) ⟨dX4_fetch_19, _, rfl, rfl⟩ h
  · replace h := h.2 c1
    refine zJ.iload_n 2 dX4_fetch_4 rfl rfl ?_
    refine zJ.if_lt (tgt := 13) dX4_fetch_5 (by decide) (fun c5 => ?_) (fun c5 => ?_)
    · replace h := h.1 c5
      refine zJ.aload_n 0 dX4_fetch_13 rfl rfl ?_
      refine zJ.bipush (v := (-2)) dX4_fetch_14 (by decide) ?_
      refine zG.callVi [.int (-2)] [] (ob_0 o) ok_0 rfl dX4_fetch_16 ⟨(cb_X4_refuse).1, (cb_X4_refuse).2, (Nat.le_of_ble_eq_true rfl), (Nat.le_of_ble_eq_true rfl)⟩ ml_X4_47 ci_X4_refuse cv_X4_refuse rfl (Nat.le_of_ble_eq_true rfl) (Nat.le_of_ble_eq_true rfl) rfl h (fun r7 S8 h2 => ?_)
      replace h := h2
      clear h2
      exact zG.ret (r := some (.int r7)) ⟨dX4_fetch_19, _, rfl, rfl⟩ h
    · replace h := h.2 c5
      refine zJ.iload_n 2 dX4_fetch_8 rfl rfl ?_
      refine zJ.iconst (v := 2) dX4_fetch_9 (by decide) ?_
      refine zJ.icmp_le (tgt := 20) dX4_fetch_10 (by decide) (fun c9 => ?_) (fun c9 => ?_)
      · replace h := h.1 c9
        refine zJ.aload_n 0 dX4_fetch_20 rfl rfl ?_
        refine zE.getV (fd_0_0 o) ok_0 kiX4 (Nat.le_of_ble_eq_true rfl) fl_X4_10 dX4_fetch_21 ?_
        refine zJ.iload_n 1 dX4_fetch_24 rfl rfl ?_
        refine zG.callVq 0 [.int x1] [] (ob_1 o 0) (ok_1 (show 0 < 8 by decide) (z_sb_le (show 0 < 8 by decide))) rfl dX4_fetch_25 ⟨(cb_X2_boxOfFetch).1, (cb_X2_boxOfFetch).2, (Nat.le_of_ble_eq_true rfl), (Nat.le_of_ble_eq_true rfl)⟩ ml_X4_141 ci_X2_boxOfFetch cv_X2_boxOfFetch rfl (Nat.le_of_ble_eq_true rfl) (Nat.le_of_ble_eq_true rfl) rfl h (fun r11 S12 hx13 h2 => ?_)
        replace h := h2
        clear h2
        refine zJ.astoreq_n (x := z_bo o 0 r11) (lv' := [(3, va_rf (z_bo o 0 r11)), (0, .ref (z_adr o (0, 0, 0))), (1, .int x1), (2, .int x2)]) dX4_fetch_28 rfl (Nat.le_of_ble_eq_true rfl) rfl ?_
        refine zJ.aloadq_n (x := z_bo o 0 r11) 0 dX4_fetch_29 rfl rfl ?_
        refine zE.ifnonnull (tgt := 35) dX4_fetch_30 (by decide) ?_ ?_
        · intro b14 hz
          replace h := h.2 b14 hz
          subst hz
          refine zJ.iload_n 3 dX4_fetch_35 rfl rfl ?_
          refine zJ.if_ne (tgt := 46) dX4_fetch_36 (by decide) (fun c15 => ?_) (fun c15 => ?_)
          · replace h := h.1 c15
            refine zJ.iload_n 3 dX4_fetch_46 rfl rfl ?_
            refine zJ.iconst (v := 1) dX4_fetch_47 (by decide) ?_
            refine zJ.icmp_ne (tgt := 69) dX4_fetch_48 (by decide) (fun c16 => ?_) (fun c16 => ?_)
            · replace h := h.1 c16
              refine zJ.aload_n 0 dX4_fetch_69 rfl rfl ?_
              refine zE.getI (fd_5_7 o 0 b14) (ok_5 hi (hx13 b14 rfl) (z_sb_le (show 0 < 8 by decide))) kiX0 (Nat.le_of_ble_eq_true rfl) fl_X4_151 dX4_fetch_70 ?_
              exact zG.ret (r := some (.int (S12.1 (5, 0, b14) 7))) ⟨dX4_fetch_73, _, rfl, rfl⟩ h
            · replace h := h.2 c16
              refine zJ.aload_n 0 dX4_fetch_51 rfl rfl ?_
              refine zE.getI (fd_5_10 o 0 b14) (ok_5 hi (hx13 b14 rfl) (z_sb_le (show 0 < 8 by decide))) kiX0 (Nat.le_of_ble_eq_true rfl) fl_X4_148 dX4_fetch_52 ?_
              refine zJ.aload_n 1 dX4_fetch_55 rfl rfl ?_
              refine zE.getV (fd_0_0 o) ok_0 kiX4 (Nat.le_of_ble_eq_true rfl) fl_X4_10 dX4_fetch_56 ?_
              refine zE.getV (fd_1_1 o 0) (ok_1 (show 0 < 8 by decide) (z_sb_le (show 0 < 8 by decide))) kiX2 (Nat.le_of_ble_eq_true rfl) fl_X4_60 dX4_fetch_59 ?_
              refine zJ.bipush (v := 9) dX4_fetch_62 (by decide) ?_
              refine zE.aldI (ia_3 o 0) (ok_3 (show 0 < 8 by decide) (z_sb_le (show 0 < 8 by decide))) (by unfold vp_in; decide) dX4_fetch_64 ?_
              refine zJ.isub dX4_fetch_65 ?_
              refine zJ.goto (tgt := 73) dX4_fetch_66 (by decide) ?_
              exact zG.ret (r := some (.int ((S12.1 (5, 0, b14) 10) - (S12.1 (3, 0, 0) 9)))) ⟨dX4_fetch_73, _, rfl, rfl⟩ h
          · replace h := h.2 c15
            refine zJ.aload_n 0 dX4_fetch_39 rfl rfl ?_
            refine zE.getV (fd_5_0 o 0 b14) (ok_5 hi (hx13 b14 rfl) (z_sb_le (show 0 < 8 by decide))) kiX0 (Nat.le_of_ble_eq_true rfl) fl_X4_145 dX4_fetch_40 ?_
            refine zJ.goto (tgt := 73) dX4_fetch_43 (by decide) ?_
            exact zG.ret (r := some (.int (nI b14))) ⟨dX4_fetch_73, _, rfl, rfl⟩ h
        · intro hz
          replace h := h.1 hz
          subst hz
          refine zJ.iconst (v := (-1)) dX4_fetch_33 (by decide) ?_
          exact zG.ret (r := some (.int (-1))) ⟨dX4_fetch_34, _, rfl, rfl⟩ h
      · replace h := h.2 c9
        refine zJ.aload_n 0 dX4_fetch_13 rfl rfl ?_
        refine zJ.bipush (v := (-2)) dX4_fetch_14 (by decide) ?_
        refine zG.callVi [.int (-2)] [] (ob_0 o) ok_0 rfl dX4_fetch_16 ⟨(cb_X4_refuse).1, (cb_X4_refuse).2, (Nat.le_of_ble_eq_true rfl), (Nat.le_of_ble_eq_true rfl)⟩ ml_X4_47 ci_X4_refuse cv_X4_refuse rfl (Nat.le_of_ble_eq_true rfl) (Nat.le_of_ble_eq_true rfl) rfl h (fun r18 S19 h2 => ?_)
        replace h := h2
        clear h2
        exact zG.ret (r := some (.int r18)) ⟨dX4_fetch_19, _, rfl, rfl⟩ h
set_option maxRecDepth 100000 in
set_option maxHeartbeats 4000000 in
theorem w_X4_cost_0 (o : zW) (x1 : Int32) (S : zS) (Q : Option Value → zS → Prop) (h : (x1 < 0 → (zGi o 994 mdX4_refuse [.ref (z_adr o (0, 0, 0)), .int (-2)] S (fun r3 S4 => Q (some (.int r3)) S4))) ∧ (¬ x1 < 0 → ((x1 ≤ 2 → ((¬ x1 = 0 → ((¬ x1 = 1 → (zGi o 994 mdX4_floatBits [.float (FP.i2f (S.1 (12, 0, 0) 5))] S (fun r9 S10 => Q (some (.int r9)) S10))) ∧ (x1 = 1 → (zGf o 994 mdX1_meanWait [.ref (z_adr o (12, 0, 0))] S (fun r12 S13 => zGi o 994 mdX4_floatBits [.float r12] S13 (fun r15 S16 => Q (some (.int r15)) S16)))))) ∧ (x1 = 0 → (zGi o 994 mdX4_floatBits [.float (S.2.2 (1, 0, 0) 4)] S (fun r18 S19 => Q (some (.int r18)) S19))))) ∧ (¬ x1 ≤ 2 → (zGi o 994 mdX4_refuse [.ref (z_adr o (0, 0, 0)), .int (-2)] S (fun r21 S22 => Q (some (.int r21)) S22)))))) : zG o 994 mdX4_cost 0 [(0, .ref (z_adr o (0, 0, 0))), (1, .int x1)] [] S Q := by
  show zJ o mdX4_cost 0 _ [] (994, z_enc o S) 0 0 _
  refine zJ.iload_n 1 dX4_cost_0 rfl rfl ?_
  refine zJ.if_lt (tgt := 9) dX4_cost_1 (by decide) (fun c1 => ?_) (fun c1 => ?_)
  · replace h := h.1 c1
    refine zJ.aload_n 0 dX4_cost_9 rfl rfl ?_
    refine zJ.bipush (v := (-2)) dX4_cost_10 (by decide) ?_
    refine zG.callVi [.int (-2)] [] (ob_0 o) ok_0 rfl dX4_cost_12 ⟨(cb_X4_refuse).1, (cb_X4_refuse).2, (Nat.le_of_ble_eq_true rfl), (Nat.le_of_ble_eq_true rfl)⟩ ml_X4_47 ci_X4_refuse cv_X4_refuse rfl (Nat.le_of_ble_eq_true rfl) (Nat.le_of_ble_eq_true rfl) rfl h (fun r3 S4 h2 => ?_)
    replace h := h2
    clear h2
    exact zG.ret (r := some (.int r3)) ⟨dX4_cost_15, _, rfl, rfl⟩ h
  · replace h := h.2 c1
    refine zJ.iload_n 1 dX4_cost_4 rfl rfl ?_
    refine zJ.iconst (v := 2) dX4_cost_5 (by decide) ?_
    refine zJ.icmp_le (tgt := 16) dX4_cost_6 (by decide) (fun c5 => ?_) (fun c5 => ?_)
    · replace h := h.1 c5
      refine zJ.aload_n 0 dX4_cost_16 rfl rfl ?_
      refine zE.getV (fd_0_0 o) ok_0 kiX4 (Nat.le_of_ble_eq_true rfl) fl_X4_10 dX4_cost_17 ?_
      refine zE.getV (fd_1_3 o 0) (ok_1 (show 0 < 8 by decide) (z_sb_le (show 0 < 8 by decide))) kiX2 (Nat.le_of_ble_eq_true rfl) fl_X4_105 dX4_cost_20 ?_
      refine zJ.astore_n (lv' := [(2, .ref (z_adr o (12, 0, 0))), (0, .ref (z_adr o (0, 0, 0))), (1, .int x1)]) dX4_cost_23 rfl (Nat.le_of_ble_eq_true rfl) rfl ?_
      refine zJ.iload_n 2 dX4_cost_24 rfl rfl ?_
      refine zJ.if_ne (tgt := 38) dX4_cost_25 (by decide) (fun c6 => ?_) (fun c6 => ?_)
      · replace h := h.1 c6
        refine zJ.iload_n 2 dX4_cost_38 rfl rfl ?_
        refine zJ.iconst (v := 1) dX4_cost_39 (by decide) ?_
        refine zJ.icmp_ne (tgt := 50) dX4_cost_40 (by decide) (fun c7 => ?_) (fun c7 => ?_)
        · replace h := h.1 c7
          refine zJ.aload_n 0 dX4_cost_50 rfl rfl ?_
          refine zE.getI (fd_12_5 o 0) (ok_12 (show 0 < 8 by decide) (z_sb_le (show 0 < 8 by decide))) kiX1 (Nat.le_of_ble_eq_true rfl) fl_X4_162 dX4_cost_51 ?_
          refine zJ.i2f dX4_cost_54 ?_
          refine zG.callSi [.float (FP.i2f (S.1 (12, 0, 0) 5))] [] dX4_cost_55 ⟨(cb_X4_floatBits).1, (cb_X4_floatBits).2, (Nat.le_of_ble_eq_true rfl), (Nat.le_of_ble_eq_true rfl)⟩ ml_X4_165 cs_X4_floatBits rfl (Nat.le_of_ble_eq_true rfl) (Nat.le_of_ble_eq_true rfl) rfl h (fun r9 S10 h2 => ?_)
          replace h := h2
          clear h2
          exact zG.ret (r := some (.int r9)) ⟨dX4_cost_58, _, rfl, rfl⟩ h
        · replace h := h.2 c7
          refine zJ.aload_n 0 dX4_cost_43 rfl rfl ?_
          refine zG.callVf [] [] (ob_12 o 0) (ok_12 (show 0 < 8 by decide) (z_sb_le (show 0 < 8 by decide))) rfl dX4_cost_44 ⟨(cb_X1_meanWait).1, (cb_X1_meanWait).2, (Nat.le_of_ble_eq_true rfl), (Nat.le_of_ble_eq_true rfl)⟩ ml_X4_158 ci_X1_meanWait cv_X1_meanWait rfl (Nat.le_of_ble_eq_true rfl) (Nat.le_of_ble_eq_true rfl) rfl h (fun r12 S13 h2 => ?_)
          replace h := h2
          clear h2
          refine zJ.goto (tgt := 55) dX4_cost_47 (by decide) ?_
          refine zG.callSi [.float r12] [] dX4_cost_55 ⟨(cb_X4_floatBits).1, (cb_X4_floatBits).2, (Nat.le_of_ble_eq_true rfl), (Nat.le_of_ble_eq_true rfl)⟩ ml_X4_165 cs_X4_floatBits rfl (Nat.le_of_ble_eq_true rfl) (Nat.le_of_ble_eq_true rfl) rfl h (fun r15 S16 h2 => ?_)
          replace h := h2
          clear h2
          exact zG.ret (r := some (.int r15)) ⟨dX4_cost_58, _, rfl, rfl⟩ h
      · replace h := h.2 c6
        refine zJ.aload_n 1 dX4_cost_28 rfl rfl ?_
        refine zE.getV (fd_0_0 o) ok_0 kiX4 (Nat.le_of_ble_eq_true rfl) fl_X4_10 dX4_cost_29 ?_
        refine zE.getF (fd_1_4 o 0) (ok_1 (show 0 < 8 by decide) (z_sb_le (show 0 < 8 by decide))) kiX2 (Nat.le_of_ble_eq_true rfl) fl_X4_154 dX4_cost_32 ?_
        refine zJ.goto (tgt := 55) dX4_cost_35 (by decide) ?_
        refine zG.callSi [.float (S.2.2 (1, 0, 0) 4)] [] dX4_cost_55 ⟨(cb_X4_floatBits).1, (cb_X4_floatBits).2, (Nat.le_of_ble_eq_true rfl), (Nat.le_of_ble_eq_true rfl)⟩ ml_X4_165 cs_X4_floatBits rfl (Nat.le_of_ble_eq_true rfl) (Nat.le_of_ble_eq_true rfl) rfl h (fun r18 S19 h2 => ?_)
        replace h := h2
        clear h2
        exact zG.ret (r := some (.int r18)) ⟨dX4_cost_58, _, rfl, rfl⟩ h
    · replace h := h.2 c5
      refine zJ.aload_n 0 dX4_cost_9 rfl rfl ?_
      refine zJ.bipush (v := (-2)) dX4_cost_10 (by decide) ?_
      refine zG.callVi [.int (-2)] [] (ob_0 o) ok_0 rfl dX4_cost_12 ⟨(cb_X4_refuse).1, (cb_X4_refuse).2, (Nat.le_of_ble_eq_true rfl), (Nat.le_of_ble_eq_true rfl)⟩ ml_X4_47 ci_X4_refuse cv_X4_refuse rfl (Nat.le_of_ble_eq_true rfl) (Nat.le_of_ble_eq_true rfl) rfl h (fun r21 S22 h2 => ?_)
      replace h := h2
      clear h2
      exact zG.ret (r := some (.int r21)) ⟨dX4_cost_15, _, rfl, rfl⟩ h
set_option maxRecDepth 100000 in
set_option maxHeartbeats 4000000 in
theorem w_X4_even_0 (o : zW)  (S : zS) (Q : Option Value → zS → Prop) (h : zGd o 994 mdX1_spread [.ref (z_adr o (12, 0, 0))] S (fun r2 S3 => zGl o 994 mdX4_doubleBits [.double r2] S3 (fun r5 S6 => Q (some (.long r5)) S6))) : zG o 994 mdX4_even 0 [(0, .ref (z_adr o (0, 0, 0)))] [] S Q := by
  show zJ o mdX4_even 0 _ [] (994, z_enc o S) 0 0 _
  refine zJ.aload_n 0 dX4_even_0 rfl rfl ?_
  refine zE.getV (fd_0_0 o) ok_0 kiX4 (Nat.le_of_ble_eq_true rfl) fl_X4_10 dX4_even_1 ?_
  refine zE.getV (fd_1_3 o 0) (ok_1 (show 0 < 8 by decide) (z_sb_le (show 0 < 8 by decide))) kiX2 (Nat.le_of_ble_eq_true rfl) fl_X4_105 dX4_even_4 ?_
  refine zG.callVd [] [] (ob_12 o 0) (ok_12 (show 0 < 8 by decide) (z_sb_le (show 0 < 8 by decide))) rfl dX4_even_7 ⟨(cb_X1_spread).1, (cb_X1_spread).2, (Nat.le_of_ble_eq_true rfl), (Nat.le_of_ble_eq_true rfl)⟩ ml_X4_169 ci_X1_spread cv_X1_spread rfl (Nat.le_of_ble_eq_true rfl) (Nat.le_of_ble_eq_true rfl) rfl h (fun r2 S3 h2 => ?_)
  replace h := h2
  clear h2
  refine zG.callSl [.double r2] [] dX4_even_10 ⟨(cb_X4_doubleBits).1, (cb_X4_doubleBits).2, (Nat.le_of_ble_eq_true rfl), (Nat.le_of_ble_eq_true rfl)⟩ ml_X4_173 cs_X4_doubleBits rfl (Nat.le_of_ble_eq_true rfl) (Nat.le_of_ble_eq_true rfl) rfl h (fun r5 S6 h2 => ?_)
  replace h := h2
  clear h2
  exact zG.ret (r := some (.long r5)) ⟨dX4_even_13, rfl⟩ h
set_option maxRecDepth 100000 in
set_option maxHeartbeats 4000000 in
theorem w_X4_best_0 (o : zW) (x1 : Int32) (S : zS) (Q : Option Value → zS → Prop) (h : (x1 < 0 → (zGi o 994 mdX4_refuse [.ref (z_adr o (0, 0, 0)), .int (-2)] S (fun r3 S4 => Q (some (.int r3)) S4))) ∧ (¬ x1 < 0 → ((x1 ≤ 1 → (zGi o 994 mdX3_readOrders [.ref (z_adr o (16, 0, 0))] S (fun r7 S8 => (r7 = (-1) → (zG o 994 mdX4_best 43 [(0, .ref (z_adr o (0, 0, 0))), (1, .int x1), (3, .int 0), (4, .int (2000000000 : Int32)), (5, .int 1)] [] S8 Q)) ∧ (¬ r7 = (-1) → (Q (some (.int ((-10) - r7))) S8))))) ∧ (¬ x1 ≤ 1 → (zGi o 994 mdX4_refuse [.ref (z_adr o (0, 0, 0)), .int (-2)] S (fun r11 S12 => Q (some (.int r11)) S12)))))) : zG o 994 mdX4_best 0 [(0, .ref (z_adr o (0, 0, 0))), (1, .int x1)] [] S Q := by
  show zJ o mdX4_best 0 _ [] (994, z_enc o S) 0 0 _
  refine zJ.iload_n 1 dX4_best_0 rfl rfl ?_
  refine zJ.if_lt (tgt := 9) dX4_best_1 (by decide) (fun c1 => ?_) (fun c1 => ?_)
  · replace h := h.1 c1
    refine zJ.aload_n 0 dX4_best_9 rfl rfl ?_
    refine zJ.bipush (v := (-2)) dX4_best_10 (by decide) ?_
    refine zG.callVi [.int (-2)] [] (ob_0 o) ok_0 rfl dX4_best_12 ⟨(cb_X4_refuse).1, (cb_X4_refuse).2, (Nat.le_of_ble_eq_true rfl), (Nat.le_of_ble_eq_true rfl)⟩ ml_X4_47 ci_X4_refuse cv_X4_refuse rfl (Nat.le_of_ble_eq_true rfl) (Nat.le_of_ble_eq_true rfl) rfl h (fun r3 S4 h2 => ?_)
    replace h := h2
    clear h2
    exact zG.ret (r := some (.int r3)) ⟨dX4_best_15, _, rfl, rfl⟩ h
  · replace h := h.2 c1
    refine zJ.iload_n 1 dX4_best_4 rfl rfl ?_
    refine zJ.iconst (v := 1) dX4_best_5 (by decide) ?_
    refine zJ.icmp_le (tgt := 16) dX4_best_6 (by decide) (fun c5 => ?_) (fun c5 => ?_)
    · replace h := h.1 c5
      refine zJ.aload_n 0 dX4_best_16 rfl rfl ?_
      refine zE.getV (fd_0_3 o) ok_0 kiX4 (Nat.le_of_ble_eq_true rfl) fl_X4_26 dX4_best_17 ?_
      refine zG.callVi [] [] (ob_16 o) ok_16 rfl dX4_best_20 ⟨(cb_X3_readOrders).1, (cb_X3_readOrders).2, (Nat.le_of_ble_eq_true rfl), (Nat.le_of_ble_eq_true rfl)⟩ ml_X4_177 ci_X3_readOrders cv_X3_readOrders rfl (Nat.le_of_ble_eq_true rfl) (Nat.le_of_ble_eq_true rfl) rfl h (fun r7 S8 h2 => ?_)
      replace h := h2
      clear h2
      refine zJ.istore_n (lv' := [(2, .int r7), (0, .ref (z_adr o (0, 0, 0))), (1, .int x1)]) dX4_best_23 rfl (Nat.le_of_ble_eq_true rfl) rfl ?_
      refine zJ.iload_n 0 dX4_best_24 rfl rfl ?_
      refine zJ.iconst (v := (-1)) dX4_best_25 (by decide) ?_
      refine zJ.icmp_eq (tgt := 34) dX4_best_26 (by decide) (fun c9 => ?_) (fun c9 => ?_)
      · replace h := h.1 c9
        refine zJ.iconst (v := 0) dX4_best_34 (by decide) ?_
        refine zJ.istore_n (lv' := [(3, .int 0), (2, .int r7), (0, .ref (z_adr o (0, 0, 0))), (1, .int x1)]) dX4_best_35 rfl (Nat.le_of_ble_eq_true rfl) rfl ?_
        refine zJ.ldc lc_X4_181 dX4_best_36 ?_
        refine zJ.istore (lv' := [(4, .int (2000000000 : Int32)), (3, .int 0), (2, .int r7), (0, .ref (z_adr o (0, 0, 0))), (1, .int x1)]) dX4_best_38 (Nat.le_of_ble_eq_true rfl) rfl ?_
        refine zJ.iconst (v := 1) dX4_best_40 (by decide) ?_
        refine zJ.istore (lv' := [(5, .int 1), (4, .int (2000000000 : Int32)), (3, .int 0), (2, .int r7), (0, .ref (z_adr o (0, 0, 0))), (1, .int x1)]) dX4_best_41 (Nat.le_of_ble_eq_true rfl) rfl ?_
        exact zJ.sub [4, 5, 2, 1, 0] rfl h
      · replace h := h.2 c9
        refine zJ.bipush (v := (-10)) dX4_best_29 (by decide) ?_
        refine zJ.iload_n 0 dX4_best_31 rfl rfl ?_
        refine zJ.isub dX4_best_32 ?_
        exact zG.ret (r := some (.int ((-10) - r7))) ⟨dX4_best_33, _, rfl, rfl⟩ h
    · replace h := h.2 c5
      refine zJ.aload_n 0 dX4_best_9 rfl rfl ?_
      refine zJ.bipush (v := (-2)) dX4_best_10 (by decide) ?_
      refine zG.callVi [.int (-2)] [] (ob_0 o) ok_0 rfl dX4_best_12 ⟨(cb_X4_refuse).1, (cb_X4_refuse).2, (Nat.le_of_ble_eq_true rfl), (Nat.le_of_ble_eq_true rfl)⟩ ml_X4_47 ci_X4_refuse cv_X4_refuse rfl (Nat.le_of_ble_eq_true rfl) (Nat.le_of_ble_eq_true rfl) rfl h (fun r11 S12 h2 => ?_)
      replace h := h2
      clear h2
      exact zG.ret (r := some (.int r11)) ⟨dX4_best_15, _, rfl, rfl⟩ h
set_option maxRecDepth 100000 in
set_option maxHeartbeats 4000000 in
theorem w_X4_best_43 (o : zW) (x1 : Int32) (x3 : Int32) (x4 : Int32) (x5 : Int32) (S : zS) (Q : Option Value → zS → Prop) (h : (4 < x5 → ((¬ x1 = 0 → (Q (some (.int x4)) S)) ∧ (x1 = 0 → (Q (some (.int x3)) S)))) ∧ (¬ 4 < x5 → (zGv o 994 mdX2_startTrial [.ref (z_adr o (1, 1, 0)), .ref (z_adr o (2, 0, 0)), .int x5] S (fun S5 => zGv o 994 mdX2_carryOut [.ref (z_adr o (1, 1, 0)), .ref (z_adr o (16, 0, 0))] S5 (fun S8 => zGv o 994 mdX2_awaitFetches [.ref (z_adr o (1, 1, 0))] S8 (fun S11 => (x4 ≤ (S11.1 (3, 1, 0) 9) → (zG o 994 mdX4_best 43 [(0, .ref (z_adr o (0, 0, 0))), (1, .int x1), (3, .int x3), (4, .int x4), (5, .int (x5 + 1))] [] S11 Q)) ∧ (¬ x4 ≤ (S11.1 (3, 1, 0) 9) → (zG o 994 mdX4_best 43 [(0, .ref (z_adr o (0, 0, 0))), (1, .int x1), (3, .int x5), (4, .int (S11.1 (3, 1, 0) 9)), (5, .int (x5 + 1))] [] S11 Q)))))))) : zG o 994 mdX4_best 43 [(0, .ref (z_adr o (0, 0, 0))), (1, .int x1), (3, .int x3), (4, .int x4), (5, .int x5)] [] S Q := by
  show zJ o mdX4_best 43 _ [] (994, z_enc o S) 0 0 _
  refine zJ.iload 4 dX4_best_43 rfl ?_
  refine zJ.iconst (v := 4) dX4_best_45 (by decide) ?_
  refine zJ.icmp_gt (tgt := 119) dX4_best_46 (by decide) (fun c1 => ?_) (fun c1 => ?_)
  · replace h := h.1 c1
    refine zJ.iload_n 1 dX4_best_119 rfl rfl ?_
    refine zJ.if_ne (tgt := 127) dX4_best_120 (by decide) (fun c2 => ?_) (fun c2 => ?_)
    · replace h := h.1 c2
      refine zJ.iload 3 dX4_best_127 rfl ?_
      exact zG.ret (r := some (.int x4)) ⟨dX4_best_129, _, rfl, rfl⟩ h
    · replace h := h.2 c2
      refine zJ.iload_n 2 dX4_best_123 rfl rfl ?_
      refine zJ.goto (tgt := 129) dX4_best_124 (by decide) ?_
      exact zG.ret (r := some (.int x3)) ⟨dX4_best_129, _, rfl, rfl⟩ h
  · replace h := h.2 c1
    refine zJ.aload_n 0 dX4_best_49 rfl rfl ?_
    refine zE.getV (fd_0_1 o) ok_0 kiX4 (Nat.le_of_ble_eq_true rfl) fl_X4_16 dX4_best_50 ?_
    refine zJ.aload_n 0 dX4_best_53 rfl rfl ?_
    refine zE.getV (fd_0_0 o) ok_0 kiX4 (Nat.le_of_ble_eq_true rfl) fl_X4_10 dX4_best_54 ?_
    refine zE.getV (fd_1_0 o 0) (ok_1 (show 0 < 8 by decide) (z_sb_le (show 0 < 8 by decide))) kiX2 (Nat.le_of_ble_eq_true rfl) fl_X4_54 dX4_best_57 ?_
    refine zJ.iload 4 dX4_best_60 rfl ?_
    refine zG.callVv [.ref (z_adr o (2, 0, 0)), .int x5] [] (ob_1 o 1) (ok_1 (show 1 < 8 by decide) (z_sb_le (show 1 < 8 by decide))) rfl dX4_best_62 ⟨(cb_X2_startTrial).1, (cb_X2_startTrial).2, (Nat.le_of_ble_eq_true rfl), (Nat.le_of_ble_eq_true rfl)⟩ ml_X4_182 ci_X2_startTrial cv_X2_startTrial rfl (Nat.le_of_ble_eq_true rfl) (Nat.le_of_ble_eq_true rfl) rfl h (fun S5 h2 => ?_)
    replace h := h2
    clear h2
    refine zJ.aload_n 0 dX4_best_65 rfl rfl ?_
    refine zE.getV (fd_0_1 o) ok_0 kiX4 (Nat.le_of_ble_eq_true rfl) fl_X4_16 dX4_best_66 ?_
    refine zJ.aload_n 0 dX4_best_69 rfl rfl ?_
    refine zE.getV (fd_0_3 o) ok_0 kiX4 (Nat.le_of_ble_eq_true rfl) fl_X4_26 dX4_best_70 ?_
    refine zG.callVv [.ref (z_adr o (16, 0, 0))] [] (ob_1 o 1) (ok_1 (show 1 < 8 by decide) (z_sb_le (show 1 < 8 by decide))) rfl dX4_best_73 ⟨(cb_X2_carryOut).1, (cb_X2_carryOut).2, (Nat.le_of_ble_eq_true rfl), (Nat.le_of_ble_eq_true rfl)⟩ ml_X4_186 ci_X2_carryOut cv_X2_carryOut rfl (Nat.le_of_ble_eq_true rfl) (Nat.le_of_ble_eq_true rfl) rfl h (fun S8 h2 => ?_)
    replace h := h2
    clear h2
    refine zJ.aload_n 0 dX4_best_76 rfl rfl ?_
    refine zE.getV (fd_0_1 o) ok_0 kiX4 (Nat.le_of_ble_eq_true rfl) fl_X4_16 dX4_best_77 ?_
    refine zG.callVv [] [] (ob_1 o 1) (ok_1 (show 1 < 8 by decide) (z_sb_le (show 1 < 8 by decide))) rfl dX4_best_80 ⟨(cb_X2_awaitFetches).1, (cb_X2_awaitFetches).2, (Nat.le_of_ble_eq_true rfl), (Nat.le_of_ble_eq_true rfl)⟩ ml_X4_190 ci_X2_awaitFetches cv_X2_awaitFetches rfl (Nat.le_of_ble_eq_true rfl) (Nat.le_of_ble_eq_true rfl) rfl h (fun S11 h2 => ?_)
    replace h := h2
    clear h2
    refine zJ.aload_n 0 dX4_best_83 rfl rfl ?_
    refine zE.getV (fd_0_1 o) ok_0 kiX4 (Nat.le_of_ble_eq_true rfl) fl_X4_16 dX4_best_84 ?_
    refine zE.getV (fd_1_1 o 1) (ok_1 (show 1 < 8 by decide) (z_sb_le (show 1 < 8 by decide))) kiX2 (Nat.le_of_ble_eq_true rfl) fl_X4_60 dX4_best_87 ?_
    refine zJ.bipush (v := 9) dX4_best_90 (by decide) ?_
    refine zE.aldI (ia_3 o 1) (ok_3 (show 1 < 8 by decide) (z_sb_le (show 1 < 8 by decide))) (by unfold vp_in; decide) dX4_best_92 ?_
    refine zJ.iload 3 dX4_best_93 rfl ?_
    refine zJ.icmp_ge (tgt := 113) dX4_best_95 (by decide) (fun c12 => ?_) (fun c12 => ?_)
    · replace h := h.1 c12
      refine zJ.iinc (k := 4) (lv' := [(5, .int (x5 + 1)), (0, .ref (z_adr o (0, 0, 0))), (1, .int x1), (3, .int x3), (4, .int x4)]) dX4_best_113 rfl rfl (Nat.le_of_ble_eq_true rfl) rfl ?_
      refine zJ.goto (tgt := 43) dX4_best_116 (by decide) ?_
      exact zJ.sub [1, 2, 3, 4, 0] rfl h
    · replace h := h.2 c12
      refine zJ.iload 4 dX4_best_98 rfl ?_
      refine zJ.istore_n (lv' := [(3, .int x5), (0, .ref (z_adr o (0, 0, 0))), (1, .int x1), (4, .int x4), (5, .int x5)]) dX4_best_100 rfl (Nat.le_of_ble_eq_true rfl) rfl ?_
      refine zJ.aload_n 1 dX4_best_101 rfl rfl ?_
      refine zE.getV (fd_0_1 o) ok_0 kiX4 (Nat.le_of_ble_eq_true rfl) fl_X4_16 dX4_best_102 ?_
      refine zE.getV (fd_1_1 o 1) (ok_1 (show 1 < 8 by decide) (z_sb_le (show 1 < 8 by decide))) kiX2 (Nat.le_of_ble_eq_true rfl) fl_X4_60 dX4_best_105 ?_
      refine zJ.bipush (v := 9) dX4_best_108 (by decide) ?_
      refine zE.aldI (ia_3 o 1) (ok_3 (show 1 < 8 by decide) (z_sb_le (show 1 < 8 by decide))) (by unfold vp_in; decide) dX4_best_110 ?_
      refine zJ.istore (lv' := [(4, .int (S11.1 (3, 1, 0) 9)), (3, .int x5), (0, .ref (z_adr o (0, 0, 0))), (1, .int x1), (5, .int x5)]) dX4_best_111 (Nat.le_of_ble_eq_true rfl) rfl ?_
      refine zJ.iinc (k := 4) (lv' := [(5, .int (x5 + 1)), (4, .int (S11.1 (3, 1, 0) 9)), (3, .int x5), (0, .ref (z_adr o (0, 0, 0))), (1, .int x1)]) dX4_best_113 rfl rfl (Nat.le_of_ble_eq_true rfl) rfl ?_
      refine zJ.goto (tgt := 43) dX4_best_116 (by decide) ?_
      exact zJ.sub [3, 4, 2, 1, 0] rfl h
set_option maxRecDepth 100000 in
set_option maxHeartbeats 4000000 in
theorem w_X4_type_0 (o : zW) (x1 : Int32) (S : zS) (Q : Option Value → zS → Prop) (h : (x1 < 0 → (zGi o 994 mdX4_refuse [.ref (z_adr o (0, 0, 0)), .int (-2)] S (fun r3 S4 => Q (some (.int r3)) S4))) ∧ (¬ x1 < 0 → ((x1 ≤ 127 → (((S.1 (16, 0, 0) 4) < 0 → (zGi o 994 mdX4_refuse [.ref (z_adr o (0, 0, 0)), .int (-4)] S (fun r8 S9 => Q (some (.int r8)) S9))) ∧ (¬ (S.1 (16, 0, 0) 4) < 0 → (((S.1 (16, 0, 0) 4) < 120 → (vp_in (S.1 (16, 0, 0) 4) 120 ∧ (∀ y11 : Int32, y11 = ((sI S (17, 0, 0) ((S.1 (16, 0, 0) 4).toNatClampNeg) x1).1 (16, 0, 0) 4) → (∀ S12 : zS, S12 = (sI (sI S (17, 0, 0) ((S.1 (16, 0, 0) 4).toNatClampNeg) x1) (16, 0, 0) 4 (y11 + 1)) → (Q (some (.int (S12.1 (16, 0, 0) 4))) S12))))) ∧ (¬ (S.1 (16, 0, 0) 4) < 120 → (zGi o 994 mdX4_refuse [.ref (z_adr o (0, 0, 0)), .int (-4)] S (fun r14 S15 => Q (some (.int r14)) S15))))))) ∧ (¬ x1 ≤ 127 → (zGi o 994 mdX4_refuse [.ref (z_adr o (0, 0, 0)), .int (-2)] S (fun r17 S18 => Q (some (.int r17)) S18)))))) : zG o 994 mdX4_type 0 [(0, .ref (z_adr o (0, 0, 0))), (1, .int x1)] [] S Q := by
  show zJ o mdX4_type 0 _ [] (994, z_enc o S) 0 0 _
  refine zJ.iload_n 1 dX4_type_0 rfl rfl ?_
  refine zJ.if_lt (tgt := 10) dX4_type_1 (by decide) (fun c1 => ?_) (fun c1 => ?_)
  · replace h := h.1 c1
    refine zJ.aload_n 0 dX4_type_10 rfl rfl ?_
    refine zJ.bipush (v := (-2)) dX4_type_11 (by decide) ?_
    refine zG.callVi [.int (-2)] [] (ob_0 o) ok_0 rfl dX4_type_13 ⟨(cb_X4_refuse).1, (cb_X4_refuse).2, (Nat.le_of_ble_eq_true rfl), (Nat.le_of_ble_eq_true rfl)⟩ ml_X4_47 ci_X4_refuse cv_X4_refuse rfl (Nat.le_of_ble_eq_true rfl) (Nat.le_of_ble_eq_true rfl) rfl h (fun r3 S4 h2 => ?_)
    replace h := h2
    clear h2
    exact zG.ret (r := some (.int r3)) ⟨dX4_type_16, _, rfl, rfl⟩ h
  · replace h := h.2 c1
    refine zJ.iload_n 1 dX4_type_4 rfl rfl ?_
    refine zJ.bipush (v := 127) dX4_type_5 (by decide) ?_
    refine zJ.icmp_le (tgt := 17) dX4_type_7 (by decide) (fun c5 => ?_) (fun c5 => ?_)
    · replace h := h.1 c5
      refine zJ.aload_n 0 dX4_type_17 rfl rfl ?_
      refine zE.getV (fd_0_3 o) ok_0 kiX4 (Nat.le_of_ble_eq_true rfl) fl_X4_26 dX4_type_18 ?_
      refine zE.getI (fd_16_4 o) ok_16 kiX3 (Nat.le_of_ble_eq_true rfl) fl_X4_193 dX4_type_21 ?_
      refine zJ.if_lt (tgt := 39) dX4_type_24 (by decide) (fun c6 => ?_) (fun c6 => ?_)
      · replace h := h.1 c6
        refine zJ.aload_n 0 dX4_type_39 rfl rfl ?_
        refine zJ.bipush (v := (-4)) dX4_type_40 (by decide) ?_
        refine zG.callVi [.int (-4)] [] (ob_0 o) ok_0 rfl dX4_type_42 ⟨(cb_X4_refuse).1, (cb_X4_refuse).2, (Nat.le_of_ble_eq_true rfl), (Nat.le_of_ble_eq_true rfl)⟩ ml_X4_47 ci_X4_refuse cv_X4_refuse rfl (Nat.le_of_ble_eq_true rfl) (Nat.le_of_ble_eq_true rfl) rfl h (fun r8 S9 h2 => ?_)
        replace h := h2
        clear h2
        exact zG.ret (r := some (.int r8)) ⟨dX4_type_45, _, rfl, rfl⟩ h
      · replace h := h.2 c6
        refine zJ.aload_n 0 dX4_type_27 rfl rfl ?_
        refine zE.getV (fd_0_3 o) ok_0 kiX4 (Nat.le_of_ble_eq_true rfl) fl_X4_26 dX4_type_28 ?_
        refine zE.getI (fd_16_4 o) ok_16 kiX3 (Nat.le_of_ble_eq_true rfl) fl_X4_193 dX4_type_31 ?_
        refine zJ.bipush (v := 120) dX4_type_34 (by decide) ?_
        refine zJ.icmp_lt (tgt := 46) dX4_type_36 (by decide) (fun c10 => ?_) (fun c10 => ?_)
        · replace h := h.1 c10
          refine zJ.aload_n 0 dX4_type_46 rfl rfl ?_
          refine zE.getV (fd_0_3 o) ok_0 kiX4 (Nat.le_of_ble_eq_true rfl) fl_X4_26 dX4_type_47 ?_
          refine zE.getV (fd_16_0 o) ok_16 kiX3 (Nat.le_of_ble_eq_true rfl) fl_X4_196 dX4_type_50 ?_
          refine zJ.aload_n 0 dX4_type_53 rfl rfl ?_
          refine zE.getV (fd_0_3 o) ok_0 kiX4 (Nat.le_of_ble_eq_true rfl) fl_X4_26 dX4_type_54 ?_
          refine zE.getI (fd_16_4 o) ok_16 kiX3 (Nat.le_of_ble_eq_true rfl) fl_X4_193 dX4_type_57 ?_
          refine zJ.iload_n 1 dX4_type_60 rfl rfl ?_
          obtain ⟨hq, h⟩ := h
          refine zE.astI (ia_17 o) ok_17 hq dX4_type_61 ?_
          refine zJ.aload_n 0 dX4_type_62 rfl rfl ?_
          refine zE.getV (fd_0_3 o) ok_0 kiX4 (Nat.le_of_ble_eq_true rfl) fl_X4_26 dX4_type_63 ?_
          refine zJ.dup dX4_type_66 rfl ?_
          refine zE.getI (fd_16_4 o) ok_16 kiX3 (Nat.le_of_ble_eq_true rfl) fl_X4_193 dX4_type_67 ?_
          refine zJ.topi (fun y11 hyy11 => ?_)
          replace h := h y11 hyy11
          refine zJ.iconst (v := 1) dX4_type_70 (by decide) ?_
          refine zJ.iadd dX4_type_71 ?_
          refine zE.putI (fd_16_4 o) ok_16 kiX3 (Nat.le_of_ble_eq_true rfl) fl_X4_193 rfl rfl dX4_type_72 ?_
          refine zJ.nameS (fun S12 hyS12 => ?_)
          replace h := h S12 hyS12
          refine zJ.aload_n 0 dX4_type_75 rfl rfl ?_
          refine zE.getV (fd_0_3 o) ok_0 kiX4 (Nat.le_of_ble_eq_true rfl) fl_X4_26 dX4_type_76 ?_
          refine zE.getI (fd_16_4 o) ok_16 kiX3 (Nat.le_of_ble_eq_true rfl) fl_X4_193 dX4_type_79 ?_
          exact zG.ret (r := some (.int (S12.1 (16, 0, 0) 4))) ⟨dX4_type_82, _, rfl, rfl⟩ h
        · replace h := h.2 c10
          refine zJ.aload_n 0 dX4_type_39 rfl rfl ?_
          refine zJ.bipush (v := (-4)) dX4_type_40 (by decide) ?_
          refine zG.callVi [.int (-4)] [] (ob_0 o) ok_0 rfl dX4_type_42 ⟨(cb_X4_refuse).1, (cb_X4_refuse).2, (Nat.le_of_ble_eq_true rfl), (Nat.le_of_ble_eq_true rfl)⟩ ml_X4_47 ci_X4_refuse cv_X4_refuse rfl (Nat.le_of_ble_eq_true rfl) (Nat.le_of_ble_eq_true rfl) rfl h (fun r14 S15 h2 => ?_)
          replace h := h2
          clear h2
          exact zG.ret (r := some (.int r14)) ⟨dX4_type_45, _, rfl, rfl⟩ h
    · replace h := h.2 c5
      refine zJ.aload_n 0 dX4_type_10 rfl rfl ?_
      refine zJ.bipush (v := (-2)) dX4_type_11 (by decide) ?_
      refine zG.callVi [.int (-2)] [] (ob_0 o) ok_0 rfl dX4_type_13 ⟨(cb_X4_refuse).1, (cb_X4_refuse).2, (Nat.le_of_ble_eq_true rfl), (Nat.le_of_ble_eq_true rfl)⟩ ml_X4_47 ci_X4_refuse cv_X4_refuse rfl (Nat.le_of_ble_eq_true rfl) (Nat.le_of_ble_eq_true rfl) rfl h (fun r17 S18 h2 => ?_)
      replace h := h2
      clear h2
      exact zG.ret (r := some (.int r17)) ⟨dX4_type_16, _, rfl, rfl⟩ h
set_option maxRecDepth 100000 in
set_option maxHeartbeats 4000000 in
theorem w_X4_clear_0 (o : zW)  (S : zS) (Q : Option Value → zS → Prop) (h : Q (some (.int (S.1 (16, 0, 0) 4))) (sI S (16, 0, 0) 4 0)) : zG o 994 mdX4_clear 0 [(0, .ref (z_adr o (0, 0, 0)))] [] S Q := by
  show zJ o mdX4_clear 0 _ [] (994, z_enc o S) 0 0 _
  refine zJ.aload_n 0 dX4_clear_0 rfl rfl ?_
  refine zE.getV (fd_0_3 o) ok_0 kiX4 (Nat.le_of_ble_eq_true rfl) fl_X4_26 dX4_clear_1 ?_
  refine zE.getI (fd_16_4 o) ok_16 kiX3 (Nat.le_of_ble_eq_true rfl) fl_X4_193 dX4_clear_4 ?_
  refine zJ.istore_n (lv' := [(1, .int (S.1 (16, 0, 0) 4)), (0, .ref (z_adr o (0, 0, 0)))]) dX4_clear_7 rfl (Nat.le_of_ble_eq_true rfl) rfl ?_
  refine zJ.aload_n 1 dX4_clear_8 rfl rfl ?_
  refine zE.getV (fd_0_3 o) ok_0 kiX4 (Nat.le_of_ble_eq_true rfl) fl_X4_26 dX4_clear_9 ?_
  refine zJ.iconst (v := 0) dX4_clear_12 (by decide) ?_
  refine zE.putI (fd_16_4 o) ok_16 kiX3 (Nat.le_of_ble_eq_true rfl) fl_X4_193 rfl rfl dX4_clear_13 ?_
  refine zJ.iload_n 0 dX4_clear_16 rfl rfl ?_
  exact zG.ret (r := some (.int (S.1 (16, 0, 0) 4))) ⟨dX4_clear_17, _, rfl, rfl⟩ h
set_option maxRecDepth 100000 in
set_option maxHeartbeats 4000000 in
theorem w_X4_runs_0 (o : zW)  (S : zS) (Q : Option Value → zS → Prop) (h : zGi o 994 mdX3_readOrders [.ref (z_adr o (16, 0, 0))] S (fun r2 S3 => (r2 = (-1) → (zGv o 994 mdX4_keep [.ref (z_adr o (0, 0, 0))] S3 (fun S7 => zGv o 994 mdX2_carryOut [.ref (z_adr o (1, 0, 0)), .ref (z_adr o (16, 0, 0))] S7 (fun S10 => Q (some (.int ((S10.1 (3, 0, 0) 9) - (S7.1 (3, 0, 0) 9)))) S10)))) ∧ (¬ r2 = (-1) → (Q (some (.int ((-10) - r2))) S3)))) : zG o 994 mdX4_runs 0 [(0, .ref (z_adr o (0, 0, 0)))] [] S Q := by
  show zJ o mdX4_runs 0 _ [] (994, z_enc o S) 0 0 _
  refine zJ.aload_n 0 dX4_runs_0 rfl rfl ?_
  refine zE.getV (fd_0_3 o) ok_0 kiX4 (Nat.le_of_ble_eq_true rfl) fl_X4_26 dX4_runs_1 ?_
  refine zG.callVi [] [] (ob_16 o) ok_16 rfl dX4_runs_4 ⟨(cb_X3_readOrders).1, (cb_X3_readOrders).2, (Nat.le_of_ble_eq_true rfl), (Nat.le_of_ble_eq_true rfl)⟩ ml_X4_177 ci_X3_readOrders cv_X3_readOrders rfl (Nat.le_of_ble_eq_true rfl) (Nat.le_of_ble_eq_true rfl) rfl h (fun r2 S3 h2 => ?_)
  replace h := h2
  clear h2
  refine zJ.istore_n (lv' := [(1, .int r2), (0, .ref (z_adr o (0, 0, 0)))]) dX4_runs_7 rfl (Nat.le_of_ble_eq_true rfl) rfl ?_
  refine zJ.iload_n 0 dX4_runs_8 rfl rfl ?_
  refine zJ.iconst (v := (-1)) dX4_runs_9 (by decide) ?_
  refine zJ.icmp_eq (tgt := 18) dX4_runs_10 (by decide) (fun c4 => ?_) (fun c4 => ?_)
  · replace h := h.1 c4
    refine zJ.aload_n 1 dX4_runs_18 rfl rfl ?_
    refine zG.callVv [] [] (ob_0 o) ok_0 rfl dX4_runs_19 ⟨(cb_X4_keep).1, (cb_X4_keep).2, (Nat.le_of_ble_eq_true rfl), (Nat.le_of_ble_eq_true rfl)⟩ ml_X4_51 ci_X4_keep cv_X4_keep rfl (Nat.le_of_ble_eq_true rfl) (Nat.le_of_ble_eq_true rfl) rfl h (fun S7 h2 => ?_)
    replace h := h2
    clear h2
    refine zJ.aload_n 1 dX4_runs_22 rfl rfl ?_
    refine zE.getV (fd_0_0 o) ok_0 kiX4 (Nat.le_of_ble_eq_true rfl) fl_X4_10 dX4_runs_23 ?_
    refine zE.getV (fd_1_1 o 0) (ok_1 (show 0 < 8 by decide) (z_sb_le (show 0 < 8 by decide))) kiX2 (Nat.le_of_ble_eq_true rfl) fl_X4_60 dX4_runs_26 ?_
    refine zJ.bipush (v := 9) dX4_runs_29 (by decide) ?_
    refine zE.aldI (ia_3 o 0) (ok_3 (show 0 < 8 by decide) (z_sb_le (show 0 < 8 by decide))) (by unfold vp_in; decide) dX4_runs_31 ?_
    refine zJ.istore_n (lv' := [(2, .int (S7.1 (3, 0, 0) 9)), (1, .int r2), (0, .ref (z_adr o (0, 0, 0)))]) dX4_runs_32 rfl (Nat.le_of_ble_eq_true rfl) rfl ?_
    refine zJ.aload_n 2 dX4_runs_33 rfl rfl ?_
    refine zE.getV (fd_0_0 o) ok_0 kiX4 (Nat.le_of_ble_eq_true rfl) fl_X4_10 dX4_runs_34 ?_
    refine zJ.aload_n 2 dX4_runs_37 rfl rfl ?_
    refine zE.getV (fd_0_3 o) ok_0 kiX4 (Nat.le_of_ble_eq_true rfl) fl_X4_26 dX4_runs_38 ?_
    refine zG.callVv [.ref (z_adr o (16, 0, 0))] [] (ob_1 o 0) (ok_1 (show 0 < 8 by decide) (z_sb_le (show 0 < 8 by decide))) rfl dX4_runs_41 ⟨(cb_X2_carryOut).1, (cb_X2_carryOut).2, (Nat.le_of_ble_eq_true rfl), (Nat.le_of_ble_eq_true rfl)⟩ ml_X4_186 ci_X2_carryOut cv_X2_carryOut rfl (Nat.le_of_ble_eq_true rfl) (Nat.le_of_ble_eq_true rfl) rfl h (fun S10 h2 => ?_)
    replace h := h2
    clear h2
    refine zJ.aload_n 2 dX4_runs_44 rfl rfl ?_
    refine zE.getV (fd_0_0 o) ok_0 kiX4 (Nat.le_of_ble_eq_true rfl) fl_X4_10 dX4_runs_45 ?_
    refine zE.getV (fd_1_1 o 0) (ok_1 (show 0 < 8 by decide) (z_sb_le (show 0 < 8 by decide))) kiX2 (Nat.le_of_ble_eq_true rfl) fl_X4_60 dX4_runs_48 ?_
    refine zJ.bipush (v := 9) dX4_runs_51 (by decide) ?_
    refine zE.aldI (ia_3 o 0) (ok_3 (show 0 < 8 by decide) (z_sb_le (show 0 < 8 by decide))) (by unfold vp_in; decide) dX4_runs_53 ?_
    refine zJ.iload_n 0 dX4_runs_54 rfl rfl ?_
    refine zJ.isub dX4_runs_55 ?_
    exact zG.ret (r := some (.int ((S10.1 (3, 0, 0) 9) - (S7.1 (3, 0, 0) 9)))) ⟨dX4_runs_56, _, rfl, rfl⟩ h
  · replace h := h.2 c4
    refine zJ.bipush (v := (-10)) dX4_runs_13 (by decide) ?_
    refine zJ.iload_n 0 dX4_runs_15 rfl rfl ?_
    refine zJ.isub dX4_runs_16 ?_
    exact zG.ret (r := some (.int ((-10) - r2))) ⟨dX4_runs_17, _, rfl, rfl⟩ h
set_option maxRecDepth 100000 in
set_option maxHeartbeats 4000000 in
theorem w_X4_back_0 (o : zW)  (S : zS) (Q : Option Value → zS → Prop) (h : ((S.1 (0, 0, 0) 6) ≤ 0 → (zGi o 994 mdX4_refuse [.ref (z_adr o (0, 0, 0)), .int (-3)] S (fun r3 S4 => Q (some (.int r3)) S4))) ∧ (¬ (S.1 (0, 0, 0) 6) ≤ 0 → (((S.1 (0, 0, 0) 5) < 0 → (zGi o 994 mdX4_refuse [.ref (z_adr o (0, 0, 0)), .int (-3)] S (fun r7 S8 => Q (some (.int r7)) S8))) ∧ (¬ (S.1 (0, 0, 0) 5) < 0 → (((S.1 (0, 0, 0) 5) < 6 → (vp_in (S.1 (0, 0, 0) 5) 6 ∧ (zGv o 994 mdX2_become [.ref (z_adr o (1, 0, 0)), .ref (z_adr o (1, (S.1 (0, 0, 0) 5).toNatClampNeg + 2, 0))] S (fun S13 => ∀ y14 : Int32, y14 = ((((S13.1 (0, 0, 0) 5) + 6) - 1) - (((S13.1 (0, 0, 0) 5) + 6) - 1) / 6 * 6) → (∀ S15 : zS, S15 = (sI (sI S13 (0, 0, 0) 5 y14) (0, 0, 0) 6 (((sI S13 (0, 0, 0) 5 y14).1 (0, 0, 0) 6) - 1)) → (Q (some (.int (S15.1 (0, 0, 0) 6))) S15)))))) ∧ (¬ (S.1 (0, 0, 0) 5) < 6 → (zGi o 994 mdX4_refuse [.ref (z_adr o (0, 0, 0)), .int (-3)] S (fun r17 S18 => Q (some (.int r17)) S18)))))))) : zG o 994 mdX4_back 0 [(0, .ref (z_adr o (0, 0, 0)))] [] S Q := by
  show zJ o mdX4_back 0 _ [] (994, z_enc o S) 0 0 _
  refine zJ.aload_n 0 dX4_back_0 rfl rfl ?_
  refine zE.getI (fd_0_6 o) ok_0 kiX4 (Nat.le_of_ble_eq_true rfl) fl_X4_38 dX4_back_1 ?_
  refine zJ.if_le (tgt := 23) dX4_back_4 (by decide) (fun c1 => ?_) (fun c1 => ?_)
  · replace h := h.1 c1
    refine zJ.aload_n 0 dX4_back_23 rfl rfl ?_
    refine zJ.bipush (v := (-3)) dX4_back_24 (by decide) ?_
    refine zG.callVi [.int (-3)] [] (ob_0 o) ok_0 rfl dX4_back_26 ⟨(cb_X4_refuse).1, (cb_X4_refuse).2, (Nat.le_of_ble_eq_true rfl), (Nat.le_of_ble_eq_true rfl)⟩ ml_X4_47 ci_X4_refuse cv_X4_refuse rfl (Nat.le_of_ble_eq_true rfl) (Nat.le_of_ble_eq_true rfl) rfl h (fun r3 S4 h2 => ?_)
    replace h := h2
    clear h2
    exact zG.ret (r := some (.int r3)) ⟨dX4_back_29, _, rfl, rfl⟩ h
  · replace h := h.2 c1
    refine zJ.aload_n 0 dX4_back_7 rfl rfl ?_
    refine zE.getI (fd_0_5 o) ok_0 kiX4 (Nat.le_of_ble_eq_true rfl) fl_X4_34 dX4_back_8 ?_
    refine zJ.if_lt (tgt := 23) dX4_back_11 (by decide) (fun c5 => ?_) (fun c5 => ?_)
    · replace h := h.1 c5
      refine zJ.aload_n 0 dX4_back_23 rfl rfl ?_
      refine zJ.bipush (v := (-3)) dX4_back_24 (by decide) ?_
      refine zG.callVi [.int (-3)] [] (ob_0 o) ok_0 rfl dX4_back_26 ⟨(cb_X4_refuse).1, (cb_X4_refuse).2, (Nat.le_of_ble_eq_true rfl), (Nat.le_of_ble_eq_true rfl)⟩ ml_X4_47 ci_X4_refuse cv_X4_refuse rfl (Nat.le_of_ble_eq_true rfl) (Nat.le_of_ble_eq_true rfl) rfl h (fun r7 S8 h2 => ?_)
      replace h := h2
      clear h2
      exact zG.ret (r := some (.int r7)) ⟨dX4_back_29, _, rfl, rfl⟩ h
    · replace h := h.2 c5
      refine zJ.aload_n 0 dX4_back_14 rfl rfl ?_
      refine zE.getI (fd_0_5 o) ok_0 kiX4 (Nat.le_of_ble_eq_true rfl) fl_X4_34 dX4_back_15 ?_
      refine zJ.bipush (v := 6) dX4_back_18 (by decide) ?_
      refine zJ.icmp_lt (tgt := 30) dX4_back_20 (by decide) (fun c9 => ?_) (fun c9 => ?_)
      · replace h := h.1 c9
        refine zJ.aload_n 0 dX4_back_30 rfl rfl ?_
        refine zE.getV (fd_0_0 o) ok_0 kiX4 (Nat.le_of_ble_eq_true rfl) fl_X4_10 dX4_back_31 ?_
        refine zJ.aload_n 0 dX4_back_34 rfl rfl ?_
        refine zE.getV (fd_0_2 o) ok_0 kiX4 (Nat.le_of_ble_eq_true rfl) fl_X4_19 dX4_back_35 ?_
        refine zJ.aload_n 0 dX4_back_38 rfl rfl ?_
        refine zE.getI (fd_0_5 o) ok_0 kiX4 (Nat.le_of_ble_eq_true rfl) fl_X4_34 dX4_back_39 ?_
        obtain ⟨hq10, h⟩ := h
        refine zE.aldK ok_22 hq10 dX4_back_42 ?_
        refine zG.callVv [.ref (z_adr o (1, (S.1 (0, 0, 0) 5).toNatClampNeg + 2, 0))] [] (ob_1 o 0) (ok_1 (show 0 < 8 by decide) (z_sb_le (show 0 < 8 by decide))) rfl dX4_back_43 ⟨(cb_X2_become).1, (cb_X2_become).2, (Nat.le_of_ble_eq_true rfl), (Nat.le_of_ble_eq_true rfl)⟩ ml_X4_199 ci_X2_become cv_X2_become rfl (Nat.le_of_ble_eq_true rfl) (Nat.le_of_ble_eq_true rfl) rfl h (fun S13 h2 => ?_)
        replace h := h2
        clear h2
        refine zJ.aload_n 0 dX4_back_46 rfl rfl ?_
        refine zJ.aload_n 0 dX4_back_47 rfl rfl ?_
        refine zE.getI (fd_0_5 o) ok_0 kiX4 (Nat.le_of_ble_eq_true rfl) fl_X4_34 dX4_back_48 ?_
        refine zJ.bipush (v := 6) dX4_back_51 (by decide) ?_
        refine zJ.iadd dX4_back_53 ?_
        refine zJ.iconst (v := 1) dX4_back_54 (by decide) ?_
        refine zJ.isub dX4_back_55 ?_
        refine zJ.bipush (v := 6) dX4_back_56 (by decide) ?_
        refine zJ.irem dX4_back_58 (by decide) ?_
        refine zJ.topi (fun y14 hyy14 => ?_)
        replace h := h y14 hyy14
        refine zE.putI (fd_0_5 o) ok_0 kiX4 (Nat.le_of_ble_eq_true rfl) fl_X4_34 rfl rfl dX4_back_59 ?_
        refine zJ.aload_n 0 dX4_back_62 rfl rfl ?_
        refine zJ.dup dX4_back_63 rfl ?_
        refine zE.getI (fd_0_6 o) ok_0 kiX4 (Nat.le_of_ble_eq_true rfl) fl_X4_38 dX4_back_64 ?_
        refine zJ.iconst (v := 1) dX4_back_67 (by decide) ?_
        refine zJ.isub dX4_back_68 ?_
        refine zE.putI (fd_0_6 o) ok_0 kiX4 (Nat.le_of_ble_eq_true rfl) fl_X4_38 rfl rfl dX4_back_69 ?_
        refine zJ.nameS (fun S15 hyS15 => ?_)
        replace h := h S15 hyS15
        refine zJ.aload_n 0 dX4_back_72 rfl rfl ?_
        refine zE.getI (fd_0_6 o) ok_0 kiX4 (Nat.le_of_ble_eq_true rfl) fl_X4_38 dX4_back_73 ?_
        exact zG.ret (r := some (.int (S15.1 (0, 0, 0) 6))) ⟨dX4_back_76, _, rfl, rfl⟩ h
      · replace h := h.2 c9
        refine zJ.aload_n 0 dX4_back_23 rfl rfl ?_
        refine zJ.bipush (v := (-3)) dX4_back_24 (by decide) ?_
        refine zG.callVi [.int (-3)] [] (ob_0 o) ok_0 rfl dX4_back_26 ⟨(cb_X4_refuse).1, (cb_X4_refuse).2, (Nat.le_of_ble_eq_true rfl), (Nat.le_of_ble_eq_true rfl)⟩ ml_X4_47 ci_X4_refuse cv_X4_refuse rfl (Nat.le_of_ble_eq_true rfl) (Nat.le_of_ble_eq_true rfl) rfl h (fun r17 S18 h2 => ?_)
        replace h := h2
        clear h2
        exact zG.ret (r := some (.int r17)) ⟨dX4_back_29, _, rfl, rfl⟩ h
set_option maxRecDepth 100000 in
set_option maxHeartbeats 4000000 in
theorem w_X4_told_0 (o : zW) (x1 : Int32) (S : zS) (Q : Option Value → zS → Prop) (h : (x1 < 0 → (zGi o 994 mdX4_refuse [.ref (z_adr o (0, 0, 0)), .int (-2)] S (fun r3 S4 => Q (some (.int r3)) S4))) ∧ (¬ x1 < 0 → ((x1 ≤ 9 → ((3 ≤ x1 → ((¬ x1 = 3 → ((¬ x1 = 9 → (vp_in (x1 - 4) 5 ∧ (Q (some (.int (S.1 (2, 0, 0) ((x1 - 4).toNatClampNeg)))) S))) ∧ (x1 = 9 → (Q (some (.int (S.1 (0, 0, 0) 6))) S)))) ∧ (x1 = 3 → (Q (some (.int (S.1 (16, 0, 0) 4))) S)))) ∧ (¬ 3 ≤ x1 → (vp_in x1 3 ∧ (Q (some (.int (S.1 (21, 0, 0) x1.toNatClampNeg))) S))))) ∧ (¬ x1 ≤ 9 → (zGi o 994 mdX4_refuse [.ref (z_adr o (0, 0, 0)), .int (-2)] S (fun r10 S11 => Q (some (.int r10)) S11)))))) : zG o 994 mdX4_told 0 [(0, .ref (z_adr o (0, 0, 0))), (1, .int x1)] [] S Q := by
  show zJ o mdX4_told 0 _ [] (994, z_enc o S) 0 0 _
  refine zJ.iload_n 1 dX4_told_0 rfl rfl ?_
  refine zJ.if_lt (tgt := 10) dX4_told_1 (by decide) (fun c1 => ?_) (fun c1 => ?_)
  · replace h := h.1 c1
    refine zJ.aload_n 0 dX4_told_10 rfl rfl ?_
    refine zJ.bipush (v := (-2)) dX4_told_11 (by decide) ?_
    refine zG.callVi [.int (-2)] [] (ob_0 o) ok_0 rfl dX4_told_13 ⟨(cb_X4_refuse).1, (cb_X4_refuse).2, (Nat.le_of_ble_eq_true rfl), (Nat.le_of_ble_eq_true rfl)⟩ ml_X4_47 ci_X4_refuse cv_X4_refuse rfl (Nat.le_of_ble_eq_true rfl) (Nat.le_of_ble_eq_true rfl) rfl h (fun r3 S4 h2 => ?_)
    replace h := h2
    clear h2
    exact zG.ret (r := some (.int r3)) ⟨dX4_told_16, _, rfl, rfl⟩ h
  · replace h := h.2 c1
    refine zJ.iload_n 1 dX4_told_4 rfl rfl ?_
    refine zJ.bipush (v := 9) dX4_told_5 (by decide) ?_
    refine zJ.icmp_le (tgt := 17) dX4_told_7 (by decide) (fun c5 => ?_) (fun c5 => ?_)
    · replace h := h.1 c5
      refine zJ.iload_n 1 dX4_told_17 rfl rfl ?_
      refine zJ.iconst (v := 3) dX4_told_18 (by decide) ?_
      refine zJ.icmp_ge (tgt := 29) dX4_told_19 (by decide) (fun c6 => ?_) (fun c6 => ?_)
      · replace h := h.1 c6
        refine zJ.iload_n 1 dX4_told_29 rfl rfl ?_
        refine zJ.iconst (v := 3) dX4_told_30 (by decide) ?_
        refine zJ.icmp_ne (tgt := 42) dX4_told_31 (by decide) (fun c7 => ?_) (fun c7 => ?_)
        · replace h := h.1 c7
          refine zJ.iload_n 1 dX4_told_42 rfl rfl ?_
          refine zJ.bipush (v := 9) dX4_told_43 (by decide) ?_
          refine zJ.icmp_ne (tgt := 55) dX4_told_45 (by decide) (fun c8 => ?_) (fun c8 => ?_)
          · replace h := h.1 c8
            refine zJ.aload_n 0 dX4_told_55 rfl rfl ?_
            refine zE.getV (fd_0_0 o) ok_0 kiX4 (Nat.le_of_ble_eq_true rfl) fl_X4_10 dX4_told_56 ?_
            refine zE.getV (fd_1_0 o 0) (ok_1 (show 0 < 8 by decide) (z_sb_le (show 0 < 8 by decide))) kiX2 (Nat.le_of_ble_eq_true rfl) fl_X4_54 dX4_told_59 ?_
            refine zJ.iload_n 1 dX4_told_62 rfl rfl ?_
            refine zJ.iconst (v := 4) dX4_told_63 (by decide) ?_
            refine zJ.isub dX4_told_64 ?_
            obtain ⟨hq, h⟩ := h
            refine zE.aldI (ia_2 o 0) (ok_2 (show 0 < 8 by decide) (z_sb_le (show 0 < 8 by decide))) hq dX4_told_65 ?_
            exact zG.ret (r := some (.int (S.1 (2, 0, 0) ((x1 - 4).toNatClampNeg)))) ⟨dX4_told_66, _, rfl, rfl⟩ h
          · replace h := h.2 c8
            refine zJ.aload_n 0 dX4_told_48 rfl rfl ?_
            refine zE.getI (fd_0_6 o) ok_0 kiX4 (Nat.le_of_ble_eq_true rfl) fl_X4_38 dX4_told_49 ?_
            refine zJ.goto (tgt := 66) dX4_told_52 (by decide) ?_
            exact zG.ret (r := some (.int (S.1 (0, 0, 0) 6))) ⟨dX4_told_66, _, rfl, rfl⟩ h
        · replace h := h.2 c7
          refine zJ.aload_n 0 dX4_told_34 rfl rfl ?_
          refine zE.getV (fd_0_3 o) ok_0 kiX4 (Nat.le_of_ble_eq_true rfl) fl_X4_26 dX4_told_35 ?_
          refine zE.getI (fd_16_4 o) ok_16 kiX3 (Nat.le_of_ble_eq_true rfl) fl_X4_193 dX4_told_38 ?_
          exact zG.ret (r := some (.int (S.1 (16, 0, 0) 4))) ⟨dX4_told_41, _, rfl, rfl⟩ h
      · replace h := h.2 c6
        refine zJ.aload_n 0 dX4_told_22 rfl rfl ?_
        refine zE.getV (fd_0_4 o) ok_0 kiX4 (Nat.le_of_ble_eq_true rfl) fl_X4_30 dX4_told_23 ?_
        refine zJ.iload_n 1 dX4_told_26 rfl rfl ?_
        obtain ⟨hq, h⟩ := h
        refine zE.aldI (ia_21 o) ok_21 hq dX4_told_27 ?_
        exact zG.ret (r := some (.int (S.1 (21, 0, 0) x1.toNatClampNeg))) ⟨dX4_told_28, _, rfl, rfl⟩ h
    · replace h := h.2 c5
      refine zJ.aload_n 0 dX4_told_10 rfl rfl ?_
      refine zJ.bipush (v := (-2)) dX4_told_11 (by decide) ?_
      refine zG.callVi [.int (-2)] [] (ob_0 o) ok_0 rfl dX4_told_13 ⟨(cb_X4_refuse).1, (cb_X4_refuse).2, (Nat.le_of_ble_eq_true rfl), (Nat.le_of_ble_eq_true rfl)⟩ ml_X4_47 ci_X4_refuse cv_X4_refuse rfl (Nat.le_of_ble_eq_true rfl) (Nat.le_of_ble_eq_true rfl) rfl h (fun r10 S11 h2 => ?_)
      replace h := h2
      clear h2
      exact zG.ret (r := some (.int r10)) ⟨dX4_told_16, _, rfl, rfl⟩ h
set_option maxRecDepth 100000 in
set_option maxHeartbeats 4000000 in
theorem w_X4_digest_0 (o : zW)  (S : zS) (Q : Option Value → zS → Prop) (h : zG o 994 mdX4_digest 6 [(0, .ref (z_adr o (0, 0, 0))), (1, .long (2087 : Int64)), (3, .int 0)] [] S Q) : zG o 994 mdX4_digest 0 [(0, .ref (z_adr o (0, 0, 0)))] [] S Q := by
  show zJ o mdX4_digest 0 _ [] (994, z_enc o S) 0 0 _
  refine zJ.ldc2 lc_X4_203 dX4_digest_0 ?_
  refine zJ.lstore_n (lv' := [(1, .long (2087 : Int64)), (0, .ref (z_adr o (0, 0, 0)))]) dX4_digest_3 rfl (Nat.le_of_ble_eq_true rfl) rfl ?_
  refine zJ.iconst (v := 0) dX4_digest_4 (by decide) ?_
  refine zJ.istore_n (lv' := [(3, .int 0), (1, .long (2087 : Int64)), (0, .ref (z_adr o (0, 0, 0)))]) dX4_digest_5 rfl (Nat.le_of_ble_eq_true rfl) rfl ?_
  exact zJ.sub [2, 1, 0] rfl h
set_option maxRecDepth 100000 in
set_option maxHeartbeats 4000000 in
theorem w_X4_digest_6 (o : zW) (x1 : Int64) (x3 : Int32) (S : zS) (Q : Option Value → zS → Prop) (h : (9 < x3 → (zG o 994 mdX4_digest 33 [(0, .ref (z_adr o (0, 0, 0))), (1, .long x1), (3, .int 0)] [] S Q)) ∧ (¬ 9 < x3 → (zGi o 994 mdX4_told [.ref (z_adr o (0, 0, 0)), .int x3] S (fun r3 S4 => zG o 994 mdX4_digest 6 [(0, .ref (z_adr o (0, 0, 0))), (1, .long (((31 : Int64) * x1) + r3.toInt64)), (3, .int (x3 + 1))] [] S4 Q)))) : zG o 994 mdX4_digest 6 [(0, .ref (z_adr o (0, 0, 0))), (1, .long x1), (3, .int x3)] [] S Q := by
  show zJ o mdX4_digest 6 _ [] (994, z_enc o S) 0 0 _
  refine zJ.iload_n 2 dX4_digest_6 rfl rfl ?_
  refine zJ.bipush (v := 9) dX4_digest_7 (by decide) ?_
  refine zJ.icmp_gt (tgt := 31) dX4_digest_9 (by decide) (fun c1 => ?_) (fun c1 => ?_)
  · replace h := h.1 c1
    refine zJ.iconst (v := 0) dX4_digest_31 (by decide) ?_
    refine zJ.istore_n (lv' := [(3, .int 0), (0, .ref (z_adr o (0, 0, 0))), (1, .long x1)]) dX4_digest_32 rfl (Nat.le_of_ble_eq_true rfl) rfl ?_
    exact zJ.sub [1, 2, 0] rfl h
  · replace h := h.2 c1
    refine zJ.ldc2 lc_X4_205 dX4_digest_12 ?_
    refine zJ.lload_n 1 dX4_digest_15 rfl rfl ?_
    refine zJ.lmul dX4_digest_16 ?_
    refine zJ.aload_n 0 dX4_digest_17 rfl rfl ?_
    refine zJ.iload_n 2 dX4_digest_18 rfl rfl ?_
    refine zG.callVi [.int x3] [.long ((31 : Int64) * x1)] (ob_0 o) ok_0 rfl dX4_digest_19 ⟨(cb_X4_told).1, (cb_X4_told).2, (Nat.le_of_ble_eq_true rfl), (Nat.le_of_ble_eq_true rfl)⟩ ml_X4_207 ci_X4_told cv_X4_told rfl (Nat.le_of_ble_eq_true rfl) (Nat.le_of_ble_eq_true rfl) rfl h (fun r3 S4 h2 => ?_)
    replace h := h2
    clear h2
    refine zJ.i2l dX4_digest_22 ?_
    refine zJ.ladd dX4_digest_23 ?_
    refine zJ.lstore_n (lv' := [(1, .long (((31 : Int64) * x1) + r3.toInt64)), (0, .ref (z_adr o (0, 0, 0))), (3, .int x3)]) dX4_digest_24 rfl (Nat.le_of_ble_eq_true rfl) rfl ?_
    refine zJ.iinc (k := 2) (lv' := [(3, .int (x3 + 1)), (1, .long (((31 : Int64) * x1) + r3.toInt64)), (0, .ref (z_adr o (0, 0, 0)))]) dX4_digest_25 rfl rfl (Nat.le_of_ble_eq_true rfl) rfl ?_
    refine zJ.goto (tgt := 6) dX4_digest_28 (by decide) ?_
    exact zJ.sub [2, 1, 0] rfl h
set_option maxRecDepth 100000 in
set_option maxHeartbeats 4000000 in
theorem w_X4_digest_33 (o : zW) (x1 : Int64) (x3 : Int32) (S : zS) (Q : Option Value → zS → Prop) (h : (10 ≤ x3 → (zG o 994 mdX4_digest 60 [(0, .ref (z_adr o (0, 0, 0))), (1, .long x1), (3, .int 0)] [] S Q)) ∧ (¬ 10 ≤ x3 → (zGi o 994 mdX4_often [.ref (z_adr o (0, 0, 0)), .int x3] S (fun r3 S4 => zG o 994 mdX4_digest 33 [(0, .ref (z_adr o (0, 0, 0))), (1, .long (((31 : Int64) * x1) + r3.toInt64)), (3, .int (x3 + 1))] [] S4 Q)))) : zG o 994 mdX4_digest 33 [(0, .ref (z_adr o (0, 0, 0))), (1, .long x1), (3, .int x3)] [] S Q := by
  show zJ o mdX4_digest 33 _ [] (994, z_enc o S) 0 0 _
  refine zJ.iload_n 2 dX4_digest_33 rfl rfl ?_
  refine zJ.bipush (v := 10) dX4_digest_34 (by decide) ?_
  refine zJ.icmp_ge (tgt := 58) dX4_digest_36 (by decide) (fun c1 => ?_) (fun c1 => ?_)
  · replace h := h.1 c1
    refine zJ.iconst (v := 0) dX4_digest_58 (by decide) ?_
    refine zJ.istore_n (lv' := [(3, .int 0), (0, .ref (z_adr o (0, 0, 0))), (1, .long x1)]) dX4_digest_59 rfl (Nat.le_of_ble_eq_true rfl) rfl ?_
    exact zJ.sub [1, 2, 0] rfl h
  · replace h := h.2 c1
    refine zJ.ldc2 lc_X4_205 dX4_digest_39 ?_
    refine zJ.lload_n 1 dX4_digest_42 rfl rfl ?_
    refine zJ.lmul dX4_digest_43 ?_
    refine zJ.aload_n 0 dX4_digest_44 rfl rfl ?_
    refine zJ.iload_n 2 dX4_digest_45 rfl rfl ?_
    refine zG.callVi [.int x3] [.long ((31 : Int64) * x1)] (ob_0 o) ok_0 rfl dX4_digest_46 ⟨(cb_X4_often).1, (cb_X4_often).2, (Nat.le_of_ble_eq_true rfl), (Nat.le_of_ble_eq_true rfl)⟩ ml_X4_210 ci_X4_often cv_X4_often rfl (Nat.le_of_ble_eq_true rfl) (Nat.le_of_ble_eq_true rfl) rfl h (fun r3 S4 h2 => ?_)
    replace h := h2
    clear h2
    refine zJ.i2l dX4_digest_49 ?_
    refine zJ.ladd dX4_digest_50 ?_
    refine zJ.lstore_n (lv' := [(1, .long (((31 : Int64) * x1) + r3.toInt64)), (0, .ref (z_adr o (0, 0, 0))), (3, .int x3)]) dX4_digest_51 rfl (Nat.le_of_ble_eq_true rfl) rfl ?_
    refine zJ.iinc (k := 2) (lv' := [(3, .int (x3 + 1)), (1, .long (((31 : Int64) * x1) + r3.toInt64)), (0, .ref (z_adr o (0, 0, 0)))]) dX4_digest_52 rfl rfl (Nat.le_of_ble_eq_true rfl) rfl ?_
    refine zJ.goto (tgt := 33) dX4_digest_55 (by decide) ?_
    exact zJ.sub [2, 1, 0] rfl h
set_option maxRecDepth 100000 in
set_option maxHeartbeats 4000000 in
theorem w_X4_digest_60 (o : zW) (x1 : Int64) (x3 : Int32) (S : zS) (Q : Option Value → zS → Prop) (h : (16 ≤ x3 → (zG o 994 mdX4_digest 105 [(0, .ref (z_adr o (0, 0, 0))), (1, .long x1), (3, .int 0)] [] S Q)) ∧ (¬ 16 ≤ x3 → (zG o 994 mdX4_digest 69 [(0, .ref (z_adr o (0, 0, 0))), (1, .long x1), (3, .int x3), (4, .int 0)] [] S Q))) : zG o 994 mdX4_digest 60 [(0, .ref (z_adr o (0, 0, 0))), (1, .long x1), (3, .int x3)] [] S Q := by
  show zJ o mdX4_digest 60 _ [] (994, z_enc o S) 0 0 _
  refine zJ.iload_n 2 dX4_digest_60 rfl rfl ?_
  refine zJ.bipush (v := 16) dX4_digest_61 (by decide) ?_
  refine zJ.icmp_ge (tgt := 103) dX4_digest_63 (by decide) (fun c1 => ?_) (fun c1 => ?_)
  · replace h := h.1 c1
    refine zJ.iconst (v := 0) dX4_digest_103 (by decide) ?_
    refine zJ.istore_n (lv' := [(3, .int 0), (0, .ref (z_adr o (0, 0, 0))), (1, .long x1)]) dX4_digest_104 rfl (Nat.le_of_ble_eq_true rfl) rfl ?_
    exact zJ.sub [1, 2, 0] rfl h
  · replace h := h.2 c1
    refine zJ.iconst (v := 0) dX4_digest_66 (by decide) ?_
    refine zJ.istore (lv' := [(4, .int 0), (0, .ref (z_adr o (0, 0, 0))), (1, .long x1), (3, .int x3)]) dX4_digest_67 (Nat.le_of_ble_eq_true rfl) rfl ?_
    exact zJ.sub [1, 2, 3, 0] rfl h
set_option maxRecDepth 100000 in
set_option maxHeartbeats 4000000 in
theorem w_X4_digest_69 (o : zW) (x1 : Int64) (x3 : Int32) (x4 : Int32) (S : zS) (Q : Option Value → zS → Prop) (h : (4 ≤ x4 → (zG o 994 mdX4_digest 60 [(0, .ref (z_adr o (0, 0, 0))), (1, .long x1), (3, .int (x3 + 1))] [] S Q)) ∧ (¬ 4 ≤ x4 → (zGi o 994 mdX4_item [.ref (z_adr o (0, 0, 0)), .int x3, .int x4, .int 0] S (fun r3 S4 => zG o 994 mdX4_digest 69 [(0, .ref (z_adr o (0, 0, 0))), (1, .long (((31 : Int64) * x1) + r3.toInt64)), (3, .int x3), (4, .int (x4 + 1))] [] S4 Q)))) : zG o 994 mdX4_digest 69 [(0, .ref (z_adr o (0, 0, 0))), (1, .long x1), (3, .int x3), (4, .int x4)] [] S Q := by
  show zJ o mdX4_digest 69 _ [] (994, z_enc o S) 0 0 _
  refine zJ.iload 3 dX4_digest_69 rfl ?_
  refine zJ.iconst (v := 4) dX4_digest_71 (by decide) ?_
  refine zJ.icmp_ge (tgt := 97) dX4_digest_72 (by decide) (fun c1 => ?_) (fun c1 => ?_)
  · replace h := h.1 c1
    refine zJ.iinc (k := 2) (lv' := [(3, .int (x3 + 1)), (0, .ref (z_adr o (0, 0, 0))), (1, .long x1), (4, .int x4)]) dX4_digest_97 rfl rfl (Nat.le_of_ble_eq_true rfl) rfl ?_
    refine zJ.goto (tgt := 60) dX4_digest_100 (by decide) ?_
    exact zJ.sub [1, 2, 0] rfl h
  · replace h := h.2 c1
    refine zJ.ldc2 lc_X4_205 dX4_digest_75 ?_
    refine zJ.lload_n 1 dX4_digest_78 rfl rfl ?_
    refine zJ.lmul dX4_digest_79 ?_
    refine zJ.aload_n 0 dX4_digest_80 rfl rfl ?_
    refine zJ.iload_n 2 dX4_digest_81 rfl rfl ?_
    refine zJ.iload 3 dX4_digest_82 rfl ?_
    refine zJ.iconst (v := 0) dX4_digest_84 (by decide) ?_
    refine zG.callVi [.int x3, .int x4, .int 0] [.long ((31 : Int64) * x1)] (ob_0 o) ok_0 rfl dX4_digest_85 ⟨(cb_X4_item).1, (cb_X4_item).2, (Nat.le_of_ble_eq_true rfl), (Nat.le_of_ble_eq_true rfl)⟩ ml_X4_213 ci_X4_item cv_X4_item rfl (Nat.le_of_ble_eq_true rfl) (Nat.le_of_ble_eq_true rfl) rfl h (fun r3 S4 h2 => ?_)
    replace h := h2
    clear h2
    refine zJ.i2l dX4_digest_88 ?_
    refine zJ.ladd dX4_digest_89 ?_
    refine zJ.lstore_n (lv' := [(1, .long (((31 : Int64) * x1) + r3.toInt64)), (0, .ref (z_adr o (0, 0, 0))), (3, .int x3), (4, .int x4)]) dX4_digest_90 rfl (Nat.le_of_ble_eq_true rfl) rfl ?_
    refine zJ.iinc (k := 3) (lv' := [(4, .int (x4 + 1)), (1, .long (((31 : Int64) * x1) + r3.toInt64)), (0, .ref (z_adr o (0, 0, 0))), (3, .int x3)]) dX4_digest_91 rfl rfl (Nat.le_of_ble_eq_true rfl) rfl ?_
    refine zJ.goto (tgt := 69) dX4_digest_94 (by decide) ?_
    exact zJ.sub [2, 1, 3, 0] rfl h
set_option maxRecDepth 100000 in
set_option maxHeartbeats 4000000 in
theorem w_X4_digest_105 (o : zW) (x1 : Int64) (x3 : Int32) (S : zS) (Q : Option Value → zS → Prop) (h : (16 ≤ x3 → (zGi o 994 mdX4_cost [.ref (z_adr o (0, 0, 0)), .int 0] S (fun r3 S4 => zGi o 994 mdX4_cost [.ref (z_adr o (0, 0, 0)), .int 1] S4 (fun r6 S7 => zGl o 994 mdX4_even [.ref (z_adr o (0, 0, 0))] S7 (fun r9 S10 => Q (some (.long (((31 : Int64) * (((31 : Int64) * (((31 : Int64) * x1) + r3.toInt64)) + r6.toInt64)) + r9))) S10))))) ∧ (¬ 16 ≤ x3 → (zGi o 994 mdX4_where [.ref (z_adr o (0, 0, 0)), .int x3] S (fun r12 S13 => zG o 994 mdX4_digest 105 [(0, .ref (z_adr o (0, 0, 0))), (1, .long (((31 : Int64) * x1) + r12.toInt64)), (3, .int (x3 + 1))] [] S13 Q)))) : zG o 994 mdX4_digest 105 [(0, .ref (z_adr o (0, 0, 0))), (1, .long x1), (3, .int x3)] [] S Q := by
  show zJ o mdX4_digest 105 _ [] (994, z_enc o S) 0 0 _
  refine zJ.iload_n 2 dX4_digest_105 rfl rfl ?_
  refine zJ.bipush (v := 16) dX4_digest_106 (by decide) ?_
  refine zJ.icmp_ge (tgt := 130) dX4_digest_108 (by decide) (fun c1 => ?_) (fun c1 => ?_)
  · replace h := h.1 c1
    refine zJ.ldc2 lc_X4_205 dX4_digest_130 ?_
    refine zJ.lload_n 1 dX4_digest_133 rfl rfl ?_
    refine zJ.lmul dX4_digest_134 ?_
    refine zJ.aload_n 0 dX4_digest_135 rfl rfl ?_
    refine zJ.iconst (v := 0) dX4_digest_136 (by decide) ?_
    refine zG.callVi [.int 0] [.long ((31 : Int64) * x1)] (ob_0 o) ok_0 rfl dX4_digest_137 ⟨(cb_X4_cost).1, (cb_X4_cost).2, (Nat.le_of_ble_eq_true rfl), (Nat.le_of_ble_eq_true rfl)⟩ ml_X4_220 ci_X4_cost cv_X4_cost rfl (Nat.le_of_ble_eq_true rfl) (Nat.le_of_ble_eq_true rfl) rfl h (fun r3 S4 h2 => ?_)
    replace h := h2
    clear h2
    refine zJ.i2l dX4_digest_140 ?_
    refine zJ.ladd dX4_digest_141 ?_
    refine zJ.lstore_n (lv' := [(1, .long (((31 : Int64) * x1) + r3.toInt64)), (0, .ref (z_adr o (0, 0, 0))), (3, .int x3)]) dX4_digest_142 rfl (Nat.le_of_ble_eq_true rfl) rfl ?_
    refine zJ.ldc2 lc_X4_205 dX4_digest_143 ?_
    refine zJ.lload_n 0 dX4_digest_146 rfl rfl ?_
    refine zJ.lmul dX4_digest_147 ?_
    refine zJ.aload_n 1 dX4_digest_148 rfl rfl ?_
    refine zJ.iconst (v := 1) dX4_digest_149 (by decide) ?_
    refine zG.callVi [.int 1] [.long ((31 : Int64) * (((31 : Int64) * x1) + r3.toInt64))] (ob_0 o) ok_0 rfl dX4_digest_150 ⟨(cb_X4_cost).1, (cb_X4_cost).2, (Nat.le_of_ble_eq_true rfl), (Nat.le_of_ble_eq_true rfl)⟩ ml_X4_220 ci_X4_cost cv_X4_cost rfl (Nat.le_of_ble_eq_true rfl) (Nat.le_of_ble_eq_true rfl) rfl h (fun r6 S7 h2 => ?_)
    replace h := h2
    clear h2
    refine zJ.i2l dX4_digest_153 ?_
    refine zJ.ladd dX4_digest_154 ?_
    refine zJ.lstore_n (lv' := [(1, .long (((31 : Int64) * (((31 : Int64) * x1) + r3.toInt64)) + r6.toInt64)), (0, .ref (z_adr o (0, 0, 0))), (3, .int x3)]) dX4_digest_155 rfl (Nat.le_of_ble_eq_true rfl) rfl ?_
    refine zJ.ldc2 lc_X4_205 dX4_digest_156 ?_
    refine zJ.lload_n 0 dX4_digest_159 rfl rfl ?_
    refine zJ.lmul dX4_digest_160 ?_
    refine zJ.aload_n 1 dX4_digest_161 rfl rfl ?_
    refine zG.callVl [] [.long ((31 : Int64) * (((31 : Int64) * (((31 : Int64) * x1) + r3.toInt64)) + r6.toInt64))] (ob_0 o) ok_0 rfl dX4_digest_162 ⟨(cb_X4_even).1, (cb_X4_even).2, (Nat.le_of_ble_eq_true rfl), (Nat.le_of_ble_eq_true rfl)⟩ ml_X4_222 ci_X4_even cv_X4_even rfl (Nat.le_of_ble_eq_true rfl) (Nat.le_of_ble_eq_true rfl) rfl h (fun r9 S10 h2 => ?_)
    replace h := h2
    clear h2
    refine zJ.ladd dX4_digest_165 ?_
    exact zG.ret (r := some (.long (((31 : Int64) * (((31 : Int64) * (((31 : Int64) * x1) + r3.toInt64)) + r6.toInt64)) + r9))) ⟨dX4_digest_166, rfl⟩ h
  · replace h := h.2 c1
    refine zJ.ldc2 lc_X4_205 dX4_digest_111 ?_
    refine zJ.lload_n 1 dX4_digest_114 rfl rfl ?_
    refine zJ.lmul dX4_digest_115 ?_
    refine zJ.aload_n 0 dX4_digest_116 rfl rfl ?_
    refine zJ.iload_n 2 dX4_digest_117 rfl rfl ?_
    refine zG.callVi [.int x3] [.long ((31 : Int64) * x1)] (ob_0 o) ok_0 rfl dX4_digest_118 ⟨(cb_X4_where).1, (cb_X4_where).2, (Nat.le_of_ble_eq_true rfl), (Nat.le_of_ble_eq_true rfl)⟩ ml_X4_217 ci_X4_where cv_X4_where rfl (Nat.le_of_ble_eq_true rfl) (Nat.le_of_ble_eq_true rfl) rfl h (fun r12 S13 h2 => ?_)
    replace h := h2
    clear h2
    refine zJ.i2l dX4_digest_121 ?_
    refine zJ.ladd dX4_digest_122 ?_
    refine zJ.lstore_n (lv' := [(1, .long (((31 : Int64) * x1) + r12.toInt64)), (0, .ref (z_adr o (0, 0, 0))), (3, .int x3)]) dX4_digest_123 rfl (Nat.le_of_ble_eq_true rfl) rfl ?_
    refine zJ.iinc (k := 2) (lv' := [(3, .int (x3 + 1)), (1, .long (((31 : Int64) * x1) + r12.toInt64)), (0, .ref (z_adr o (0, 0, 0)))]) dX4_digest_124 rfl rfl (Nat.le_of_ble_eq_true rfl) rfl ?_
    refine zJ.goto (tgt := 105) dX4_digest_127 (by decide) ?_
    exact zJ.sub [2, 1, 0] rfl h
set_option maxRecDepth 100000 in
set_option maxHeartbeats 4000000 in
theorem w_X4_isBox_0 (o : zW) (x0 : Int32) (S : zS) (Q : Option Value → zS → Prop) (h : (x0 < 0 → (Q (some (.int 0)) S)) ∧ (¬ x0 < 0 → ((16 ≤ x0 → (Q (some (.int 0)) S)) ∧ (¬ 16 ≤ x0 → (Q (some (.int 1)) S))))) : zG o 994 mdX4_isBox 0 [(0, .int x0)] [] S Q := by
  show zJ o mdX4_isBox 0 _ [] (994, z_enc o S) 0 0 _
  refine zJ.iload_n 0 dX4_isBox_0 rfl rfl ?_
  refine zJ.if_lt (tgt := 14) dX4_isBox_1 (by decide) (fun c1 => ?_) (fun c1 => ?_)
  · replace h := h.1 c1
    refine zJ.iconst (v := 0) dX4_isBox_14 (by decide) ?_
    exact zG.ret (r := some (.int 0)) ⟨dX4_isBox_15, _, rfl, rfl⟩ h
  · replace h := h.2 c1
    refine zJ.iload_n 0 dX4_isBox_4 rfl rfl ?_
    refine zJ.bipush (v := 16) dX4_isBox_5 (by decide) ?_
    refine zJ.icmp_ge (tgt := 14) dX4_isBox_7 (by decide) (fun c2 => ?_) (fun c2 => ?_)
    · replace h := h.1 c2
      refine zJ.iconst (v := 0) dX4_isBox_14 (by decide) ?_
      exact zG.ret (r := some (.int 0)) ⟨dX4_isBox_15, _, rfl, rfl⟩ h
    · replace h := h.2 c2
      refine zJ.iconst (v := 1) dX4_isBox_10 (by decide) ?_
      refine zJ.goto (tgt := 15) dX4_isBox_11 (by decide) ?_
      exact zG.ret (r := some (.int 1)) ⟨dX4_isBox_15, _, rfl, rfl⟩ h
set_option maxRecDepth 100000 in
set_option maxHeartbeats 4000000 in
theorem w_X4_isItem_0 (o : zW) (x0 : Int32) (S : zS) (Q : Option Value → zS → Prop) (h : (x0 < 0 → (Q (some (.int 0)) S)) ∧ (¬ x0 < 0 → ((4 ≤ x0 → (Q (some (.int 0)) S)) ∧ (¬ 4 ≤ x0 → (Q (some (.int 1)) S))))) : zG o 994 mdX4_isItem 0 [(0, .int x0)] [] S Q := by
  show zJ o mdX4_isItem 0 _ [] (994, z_enc o S) 0 0 _
  refine zJ.iload_n 0 dX4_isItem_0 rfl rfl ?_
  refine zJ.if_lt (tgt := 13) dX4_isItem_1 (by decide) (fun c1 => ?_) (fun c1 => ?_)
  · replace h := h.1 c1
    refine zJ.iconst (v := 0) dX4_isItem_13 (by decide) ?_
    exact zG.ret (r := some (.int 0)) ⟨dX4_isItem_14, _, rfl, rfl⟩ h
  · replace h := h.2 c1
    refine zJ.iload_n 0 dX4_isItem_4 rfl rfl ?_
    refine zJ.iconst (v := 4) dX4_isItem_5 (by decide) ?_
    refine zJ.icmp_ge (tgt := 13) dX4_isItem_6 (by decide) (fun c2 => ?_) (fun c2 => ?_)
    · replace h := h.1 c2
      refine zJ.iconst (v := 0) dX4_isItem_13 (by decide) ?_
      exact zG.ret (r := some (.int 0)) ⟨dX4_isItem_14, _, rfl, rfl⟩ h
    · replace h := h.2 c2
      refine zJ.iconst (v := 1) dX4_isItem_9 (by decide) ?_
      refine zJ.goto (tgt := 14) dX4_isItem_10 (by decide) ?_
      exact zG.ret (r := some (.int 1)) ⟨dX4_isItem_14, _, rfl, rfl⟩ h
set_option maxRecDepth 100000 in
set_option maxHeartbeats 4000000 in
theorem w_X4_refuse_0 (o : zW) (x1 : Int32) (S : zS) (Q : Option Value → zS → Prop) (h : (((-2) - x1) < 0 → (Q (some (.int x1)) S)) ∧ (¬ ((-2) - x1) < 0 → ((3 ≤ ((-2) - x1) → (Q (some (.int x1)) S)) ∧ (¬ 3 ≤ ((-2) - x1) → (vp_in ((-2) - x1) 3 ∧ (vp_in ((-2) - x1) 3 ∧ (∀ S3 : zS, S3 = (sI S (21, 0, 0) (((-2) - x1).toNatClampNeg) ((S.1 (21, 0, 0) (((-2) - x1).toNatClampNeg)) + 1)) → (Q (some (.int x1)) S3)))))))) : zG o 994 mdX4_refuse 0 [(0, .ref (z_adr o (0, 0, 0))), (1, .int x1)] [] S Q := by
  show zJ o mdX4_refuse 0 _ [] (994, z_enc o S) 0 0 _
  refine zJ.bipush (v := (-2)) dX4_refuse_0 (by decide) ?_
  refine zJ.iload_n 1 dX4_refuse_2 rfl rfl ?_
  refine zJ.isub dX4_refuse_3 ?_
  refine zJ.istore_n (lv' := [(2, .int ((-2) - x1)), (0, .ref (z_adr o (0, 0, 0))), (1, .int x1)]) dX4_refuse_4 rfl (Nat.le_of_ble_eq_true rfl) rfl ?_
  refine zJ.iload_n 0 dX4_refuse_5 rfl rfl ?_
  refine zJ.if_lt (tgt := 28) dX4_refuse_6 (by decide) (fun c1 => ?_) (fun c1 => ?_)
  · replace h := h.1 c1
    refine zJ.iload_n 2 dX4_refuse_28 rfl rfl ?_
    exact zG.ret (r := some (.int x1)) ⟨dX4_refuse_29, _, rfl, rfl⟩ h
  · replace h := h.2 c1
    refine zJ.iload_n 0 dX4_refuse_9 rfl rfl ?_
    refine zJ.aload_n 1 dX4_refuse_10 rfl rfl ?_
    refine zE.getV (fd_0_4 o) ok_0 kiX4 (Nat.le_of_ble_eq_true rfl) fl_X4_30 dX4_refuse_11 ?_
    refine zE.lenI (v := 3) (ia_21 o) ok_21 (by decide) dX4_refuse_14 ?_
    refine zJ.icmp_ge (tgt := 28) dX4_refuse_15 (by decide) (fun c2 => ?_) (fun c2 => ?_)
    · replace h := h.1 c2
      refine zJ.iload_n 2 dX4_refuse_28 rfl rfl ?_
      exact zG.ret (r := some (.int x1)) ⟨dX4_refuse_29, _, rfl, rfl⟩ h
    · replace h := h.2 c2
      refine zJ.aload_n 1 dX4_refuse_18 rfl rfl ?_
      refine zE.getV (fd_0_4 o) ok_0 kiX4 (Nat.le_of_ble_eq_true rfl) fl_X4_30 dX4_refuse_19 ?_
      refine zJ.iload_n 0 dX4_refuse_22 rfl rfl ?_
      refine zJ.dup2_11 dX4_refuse_23 rfl rfl ?_
      obtain ⟨hq, h⟩ := h
      refine zE.aldI (ia_21 o) ok_21 hq dX4_refuse_24 ?_
      refine zJ.iconst (v := 1) dX4_refuse_25 (by decide) ?_
      refine zJ.iadd dX4_refuse_26 ?_
      obtain ⟨hq, h⟩ := h
      refine zE.astI (ia_21 o) ok_21 hq dX4_refuse_27 ?_
      refine zJ.nameS (fun S3 hyS3 => ?_)
      replace h := h S3 hyS3
      refine zJ.iload_n 2 dX4_refuse_28 rfl rfl ?_
      exact zG.ret (r := some (.int x1)) ⟨dX4_refuse_29, _, rfl, rfl⟩ h
set_option maxRecDepth 100000 in
set_option maxHeartbeats 4000000 in
theorem w_X4_keep_0 (o : zW)  (S : zS) (Q : Option Value → zS → Prop) (h : ∀ S1 : zS, S1 = (sI S (0, 0, 0) 5 (((S.1 (0, 0, 0) 5) + 1) - ((S.1 (0, 0, 0) 5) + 1) / 6 * 6)) → (((S1.1 (0, 0, 0) 5) < 0 → ((6 ≤ (S1.1 (0, 0, 0) 6) → (Q none S1)) ∧ (¬ 6 ≤ (S1.1 (0, 0, 0) 6) → (Q none (sI S1 (0, 0, 0) 6 ((S1.1 (0, 0, 0) 6) + 1)))))) ∧ (¬ (S1.1 (0, 0, 0) 5) < 0 → (vp_in (S1.1 (0, 0, 0) 5) 6 ∧ (zGv o 994 mdX2_become [.ref (z_adr o (1, (S1.1 (0, 0, 0) 5).toNatClampNeg + 2, 0)), .ref (z_adr o (1, 0, 0))] S1 (fun S7 => (6 ≤ (S7.1 (0, 0, 0) 6) → (Q none S7)) ∧ (¬ 6 ≤ (S7.1 (0, 0, 0) 6) → (Q none (sI S7 (0, 0, 0) 6 ((S7.1 (0, 0, 0) 6) + 1)))))))))) : zG o 994 mdX4_keep 0 [(0, .ref (z_adr o (0, 0, 0)))] [] S Q := by
  show zJ o mdX4_keep 0 _ [] (994, z_enc o S) 0 0 _
  refine zJ.aload_n 0 dX4_keep_0 rfl rfl ?_
  refine zJ.aload_n 0 dX4_keep_1 rfl rfl ?_
  refine zE.getI (fd_0_5 o) ok_0 kiX4 (Nat.le_of_ble_eq_true rfl) fl_X4_34 dX4_keep_2 ?_
  refine zJ.iconst (v := 1) dX4_keep_5 (by decide) ?_
  refine zJ.iadd dX4_keep_6 ?_
  refine zJ.bipush (v := 6) dX4_keep_7 (by decide) ?_
  refine zJ.irem dX4_keep_9 (by decide) ?_
  refine zE.putI (fd_0_5 o) ok_0 kiX4 (Nat.le_of_ble_eq_true rfl) fl_X4_34 rfl rfl dX4_keep_10 ?_
  refine zJ.nameS (fun S1 hyS1 => ?_)
  replace h := h S1 hyS1
  refine zJ.aload_n 0 dX4_keep_13 rfl rfl ?_
  refine zE.getI (fd_0_5 o) ok_0 kiX4 (Nat.le_of_ble_eq_true rfl) fl_X4_34 dX4_keep_14 ?_
  refine zJ.if_lt (tgt := 36) dX4_keep_17 (by decide) (fun c2 => ?_) (fun c2 => ?_)
  · replace h := h.1 c2
    refine zJ.aload_n 0 dX4_keep_36 rfl rfl ?_
    refine zE.getI (fd_0_6 o) ok_0 kiX4 (Nat.le_of_ble_eq_true rfl) fl_X4_38 dX4_keep_37 ?_
    refine zJ.bipush (v := 6) dX4_keep_40 (by decide) ?_
    refine zJ.icmp_ge (tgt := 55) dX4_keep_42 (by decide) (fun c3 => ?_) (fun c3 => ?_)
    · replace h := h.1 c3
      exact zG.ret (r := none) ⟨dX4_keep_55, rfl⟩ h
    · replace h := h.2 c3
      refine zJ.aload_n 0 dX4_keep_45 rfl rfl ?_
      refine zJ.dup dX4_keep_46 rfl ?_
      refine zE.getI (fd_0_6 o) ok_0 kiX4 (Nat.le_of_ble_eq_true rfl) fl_X4_38 dX4_keep_47 ?_
      refine zJ.iconst (v := 1) dX4_keep_50 (by decide) ?_
      refine zJ.iadd dX4_keep_51 ?_
      refine zE.putI (fd_0_6 o) ok_0 kiX4 (Nat.le_of_ble_eq_true rfl) fl_X4_38 rfl rfl dX4_keep_52 ?_
      exact zG.ret (r := none) ⟨dX4_keep_55, rfl⟩ h
  · replace h := h.2 c2
    refine zJ.aload_n 0 dX4_keep_20 rfl rfl ?_
    refine zE.getV (fd_0_2 o) ok_0 kiX4 (Nat.le_of_ble_eq_true rfl) fl_X4_19 dX4_keep_21 ?_
    refine zJ.aload_n 0 dX4_keep_24 rfl rfl ?_
    refine zE.getI (fd_0_5 o) ok_0 kiX4 (Nat.le_of_ble_eq_true rfl) fl_X4_34 dX4_keep_25 ?_
    obtain ⟨hq4, h⟩ := h
    refine zE.aldK ok_22 hq4 dX4_keep_28 ?_
    refine zJ.aload_n 0 dX4_keep_29 rfl rfl ?_
    refine zE.getV (fd_0_0 o) ok_0 kiX4 (Nat.le_of_ble_eq_true rfl) fl_X4_10 dX4_keep_30 ?_
    refine zG.callVv [.ref (z_adr o (1, 0, 0))] [] (ob_1 o ((S1.1 (0, 0, 0) 5).toNatClampNeg + 2)) (ok_1 (Nat.add_lt_add_right (z_vlt hq4) 2) (z_sb_le (Nat.add_lt_add_right (z_vlt hq4) 2))) rfl dX4_keep_33 ⟨(cb_X2_become).1, (cb_X2_become).2, (Nat.le_of_ble_eq_true rfl), (Nat.le_of_ble_eq_true rfl)⟩ ml_X4_199 ci_X2_become cv_X2_become rfl (Nat.le_of_ble_eq_true rfl) (Nat.le_of_ble_eq_true rfl) rfl h (fun S7 h2 => ?_)
    replace h := h2
    clear h2
    refine zJ.aload_n 0 dX4_keep_36 rfl rfl ?_
    refine zE.getI (fd_0_6 o) ok_0 kiX4 (Nat.le_of_ble_eq_true rfl) fl_X4_38 dX4_keep_37 ?_
    refine zJ.bipush (v := 6) dX4_keep_40 (by decide) ?_
    refine zJ.icmp_ge (tgt := 55) dX4_keep_42 (by decide) (fun c8 => ?_) (fun c8 => ?_)
    · replace h := h.1 c8
      exact zG.ret (r := none) ⟨dX4_keep_55, rfl⟩ h
    · replace h := h.2 c8
      refine zJ.aload_n 0 dX4_keep_45 rfl rfl ?_
      refine zJ.dup dX4_keep_46 rfl ?_
      refine zE.getI (fd_0_6 o) ok_0 kiX4 (Nat.le_of_ble_eq_true rfl) fl_X4_38 dX4_keep_47 ?_
      refine zJ.iconst (v := 1) dX4_keep_50 (by decide) ?_
      refine zJ.iadd dX4_keep_51 ?_
      refine zE.putI (fd_0_6 o) ok_0 kiX4 (Nat.le_of_ble_eq_true rfl) fl_X4_38 rfl rfl dX4_keep_52 ?_
      exact zG.ret (r := none) ⟨dX4_keep_55, rfl⟩ h
set_option maxRecDepth 100000 in
set_option maxHeartbeats 4000000 in
theorem w_X4_floatBits_0 (o : zW) (x0 : UInt32) (S : zS) (Q : Option Value → zS → Prop) (h : (0 ≤ (Op.cmpValue (FP.fcmp x0 FP.fconst0) CmpOp.g) → (zG o 994 mdX4_floatBits 18 [(0, .float x0), (1, .float x0), (2, .int 127), (3, .int 0)] [] S Q)) ∧ (¬ 0 ≤ (Op.cmpValue (FP.fcmp x0 FP.fconst0) CmpOp.g) → (zG o 994 mdX4_floatBits 18 [(0, .float x0), (1, .float (FP.fneg x0)), (2, .int 127), (3, .int 0)] [] S Q))) : zG o 994 mdX4_floatBits 0 [(0, .float x0)] [] S Q := by
  show zJ o mdX4_floatBits 0 _ [] (994, z_enc o S) 0 0 _
  refine zJ.fload_n 0 dX4_floatBits_0 rfl rfl ?_
  refine zJ.fconst0 dX4_floatBits_1 ?_
  refine zJ.fcmp dX4_floatBits_2 ?_
  refine zJ.if_ge (tgt := 11) dX4_floatBits_3 (by decide) (fun c1 => ?_) (fun c1 => ?_)
  · replace h := h.1 c1
    refine zJ.fload_n 0 dX4_floatBits_11 rfl rfl ?_
    refine zJ.fstore_n (lv' := [(1, .float x0), (0, .float x0)]) dX4_floatBits_12 rfl (Nat.le_of_ble_eq_true rfl) rfl ?_
    refine zJ.bipush (v := 127) dX4_floatBits_13 (by decide) ?_
    refine zJ.istore_n (lv' := [(2, .int 127), (1, .float x0), (0, .float x0)]) dX4_floatBits_15 rfl (Nat.le_of_ble_eq_true rfl) rfl ?_
    refine zJ.iconst (v := 0) dX4_floatBits_16 (by decide) ?_
    refine zJ.istore_n (lv' := [(3, .int 0), (2, .int 127), (1, .float x0), (0, .float x0)]) dX4_floatBits_17 rfl (Nat.le_of_ble_eq_true rfl) rfl ?_
    exact zJ.sub [3, 2, 1, 0] rfl h
  · replace h := h.2 c1
    refine zJ.fload_n 0 dX4_floatBits_6 rfl rfl ?_
    refine zJ.fneg dX4_floatBits_7 ?_
    refine zJ.goto (tgt := 12) dX4_floatBits_8 (by decide) ?_
    refine zJ.fstore_n (lv' := [(1, .float (FP.fneg x0)), (0, .float x0)]) dX4_floatBits_12 rfl (Nat.le_of_ble_eq_true rfl) rfl ?_
    refine zJ.bipush (v := 127) dX4_floatBits_13 (by decide) ?_
    refine zJ.istore_n (lv' := [(2, .int 127), (1, .float (FP.fneg x0)), (0, .float x0)]) dX4_floatBits_15 rfl (Nat.le_of_ble_eq_true rfl) rfl ?_
    refine zJ.iconst (v := 0) dX4_floatBits_16 (by decide) ?_
    refine zJ.istore_n (lv' := [(3, .int 0), (2, .int 127), (1, .float (FP.fneg x0)), (0, .float x0)]) dX4_floatBits_17 rfl (Nat.le_of_ble_eq_true rfl) rfl ?_
    exact zJ.sub [3, 2, 1, 0] rfl h
set_option maxRecDepth 100000 in
set_option maxHeartbeats 4000000 in
theorem w_X4_floatBits_18 (o : zW) (x0 : UInt32) (x1 : UInt32) (x2 : Int32) (x3 : Int32) (S : zS) (Q : Option Value → zS → Prop) (h : (300 ≤ x3 → (zG o 994 mdX4_floatBits 47 [(0, .float x0), (1, .float x1), (2, .int x2), (3, .int 0)] [] S Q)) ∧ (¬ 300 ≤ x3 → (((Op.cmpValue (FP.fcmp x1 FP.fconst2) CmpOp.l) < 0 → (zG o 994 mdX4_floatBits 47 [(0, .float x0), (1, .float x1), (2, .int x2), (3, .int 0)] [] S Q)) ∧ (¬ (Op.cmpValue (FP.fcmp x1 FP.fconst2) CmpOp.l) < 0 → (vf_n32 (FP.fmul x1 (1056964608 : UInt32)) ∧ (zG o 994 mdX4_floatBits 18 [(0, .float x0), (1, .float (FP.fmul x1 (1056964608 : UInt32))), (2, .int (x2 + 1)), (3, .int (x3 + 1))] [] S Q)))))) : zG o 994 mdX4_floatBits 18 [(0, .float x0), (1, .float x1), (2, .int x2), (3, .int x3)] [] S Q := by
  show zJ o mdX4_floatBits 18 _ [] (994, z_enc o S) 0 0 _
  refine zJ.iload_n 3 dX4_floatBits_18 rfl rfl ?_
  refine zJ.sipush (v := 300) dX4_floatBits_19 (by decide) ?_
  refine zJ.icmp_ge (tgt := 45) dX4_floatBits_22 (by decide) (fun c1 => ?_) (fun c1 => ?_)
  · replace h := h.1 c1
    refine zJ.iconst (v := 0) dX4_floatBits_45 (by decide) ?_
    refine zJ.istore_n (lv' := [(3, .int 0), (0, .float x0), (1, .float x1), (2, .int x2)]) dX4_floatBits_46 rfl (Nat.le_of_ble_eq_true rfl) rfl ?_
    exact zJ.sub [1, 2, 3, 0] rfl h
  · replace h := h.2 c1
    refine zJ.fload_n 1 dX4_floatBits_25 rfl rfl ?_
    refine zJ.fconst2 dX4_floatBits_26 ?_
    refine zJ.fcmp dX4_floatBits_27 ?_
    refine zJ.if_lt (tgt := 45) dX4_floatBits_28 (by decide) (fun c2 => ?_) (fun c2 => ?_)
    · replace h := h.1 c2
      refine zJ.iconst (v := 0) dX4_floatBits_45 (by decide) ?_
      refine zJ.istore_n (lv' := [(3, .int 0), (0, .float x0), (1, .float x1), (2, .int x2)]) dX4_floatBits_46 rfl (Nat.le_of_ble_eq_true rfl) rfl ?_
      exact zJ.sub [1, 2, 3, 0] rfl h
    · replace h := h.2 c2
      refine zJ.fload_n 1 dX4_floatBits_31 rfl rfl ?_
      refine zJ.ldcf lc_X4_226 dX4_floatBits_32 ?_
      obtain ⟨hq, h⟩ := h
      refine zJ.fmul dX4_floatBits_34 hq ?_
      refine zJ.fstore_n (lv' := [(1, .float (FP.fmul x1 (1056964608 : UInt32))), (0, .float x0), (2, .int x2), (3, .int x3)]) dX4_floatBits_35 rfl (Nat.le_of_ble_eq_true rfl) rfl ?_
      refine zJ.iinc (k := 2) (lv' := [(2, .int (x2 + 1)), (1, .float (FP.fmul x1 (1056964608 : UInt32))), (0, .float x0), (3, .int x3)]) dX4_floatBits_36 rfl rfl (Nat.le_of_ble_eq_true rfl) rfl ?_
      refine zJ.iinc (k := 3) (lv' := [(3, .int (x3 + 1)), (2, .int (x2 + 1)), (1, .float (FP.fmul x1 (1056964608 : UInt32))), (0, .float x0)]) dX4_floatBits_39 rfl rfl (Nat.le_of_ble_eq_true rfl) rfl ?_
      refine zJ.goto (tgt := 18) dX4_floatBits_42 (by decide) ?_
      exact zJ.sub [3, 2, 1, 0] rfl h
set_option maxRecDepth 100000 in
set_option maxHeartbeats 4000000 in
theorem w_X4_floatBits_47 (o : zW) (x0 : UInt32) (x1 : UInt32) (x2 : Int32) (x3 : Int32) (S : zS) (Q : Option Value → zS → Prop) (h : (300 ≤ x3 → ((0 ≤ (Op.cmpValue (FP.fcmp x1 FP.fconst1) CmpOp.g) → (vf_n32 (FP.fsub x1 FP.fconst1) ∧ (vf_n32 (FP.fmul (FP.fsub x1 FP.fconst1) (1258291200 : UInt32)) ∧ (∀ y3 : Int32, y3 = (FP.f2i (FP.fmul (FP.fsub x1 FP.fconst1) (1258291200 : UInt32))) → ((0 ≤ (Op.cmpValue (FP.fcmp x0 FP.fconst0) CmpOp.g) → (Q (some (.int ((x2 <<< (23 &&& 31)) ||| y3))) S)) ∧ (¬ 0 ≤ (Op.cmpValue (FP.fcmp x0 FP.fconst0) CmpOp.g) → (Q (some (.int (((x2 <<< (23 &&& 31)) ||| y3) ||| (-2147483648 : Int32)))) S))))))) ∧ (¬ 0 ≤ (Op.cmpValue (FP.fcmp x1 FP.fconst1) CmpOp.g) → (vf_n32 (FP.fmul x1 (1258291200 : UInt32)) ∧ ((0 ≤ (Op.cmpValue (FP.fcmp x0 FP.fconst0) CmpOp.g) → (Q (some (.int (FP.f2i (FP.fmul x1 (1258291200 : UInt32))))) S)) ∧ (¬ 0 ≤ (Op.cmpValue (FP.fcmp x0 FP.fconst0) CmpOp.g) → (∀ y6 : Int32, y6 = ((FP.f2i (FP.fmul x1 (1258291200 : UInt32))) ||| (-2147483648 : Int32)) → (Q (some (.int y6)) S)))))))) ∧ (¬ 300 ≤ x3 → (((Op.cmpValue (FP.fcmp x1 FP.fconst0) CmpOp.l) ≤ 0 → ((0 ≤ (Op.cmpValue (FP.fcmp x1 FP.fconst1) CmpOp.g) → (vf_n32 (FP.fsub x1 FP.fconst1) ∧ (vf_n32 (FP.fmul (FP.fsub x1 FP.fconst1) (1258291200 : UInt32)) ∧ (∀ y9 : Int32, y9 = (FP.f2i (FP.fmul (FP.fsub x1 FP.fconst1) (1258291200 : UInt32))) → ((0 ≤ (Op.cmpValue (FP.fcmp x0 FP.fconst0) CmpOp.g) → (Q (some (.int ((x2 <<< (23 &&& 31)) ||| y9))) S)) ∧ (¬ 0 ≤ (Op.cmpValue (FP.fcmp x0 FP.fconst0) CmpOp.g) → (Q (some (.int (((x2 <<< (23 &&& 31)) ||| y9) ||| (-2147483648 : Int32)))) S))))))) ∧ (¬ 0 ≤ (Op.cmpValue (FP.fcmp x1 FP.fconst1) CmpOp.g) → (vf_n32 (FP.fmul x1 (1258291200 : UInt32)) ∧ ((0 ≤ (Op.cmpValue (FP.fcmp x0 FP.fconst0) CmpOp.g) → (Q (some (.int (FP.f2i (FP.fmul x1 (1258291200 : UInt32))))) S)) ∧ (¬ 0 ≤ (Op.cmpValue (FP.fcmp x0 FP.fconst0) CmpOp.g) → (∀ y12 : Int32, y12 = ((FP.f2i (FP.fmul x1 (1258291200 : UInt32))) ||| (-2147483648 : Int32)) → (Q (some (.int y12)) S)))))))) ∧ (¬ (Op.cmpValue (FP.fcmp x1 FP.fconst0) CmpOp.l) ≤ 0 → ((0 ≤ (Op.cmpValue (FP.fcmp x1 FP.fconst1) CmpOp.g) → ((0 ≤ (Op.cmpValue (FP.fcmp x1 FP.fconst1) CmpOp.g) → (vf_n32 (FP.fsub x1 FP.fconst1) ∧ (vf_n32 (FP.fmul (FP.fsub x1 FP.fconst1) (1258291200 : UInt32)) ∧ (∀ y15 : Int32, y15 = (FP.f2i (FP.fmul (FP.fsub x1 FP.fconst1) (1258291200 : UInt32))) → ((0 ≤ (Op.cmpValue (FP.fcmp x0 FP.fconst0) CmpOp.g) → (Q (some (.int ((x2 <<< (23 &&& 31)) ||| y15))) S)) ∧ (¬ 0 ≤ (Op.cmpValue (FP.fcmp x0 FP.fconst0) CmpOp.g) → (Q (some (.int (((x2 <<< (23 &&& 31)) ||| y15) ||| (-2147483648 : Int32)))) S))))))) ∧ (¬ 0 ≤ (Op.cmpValue (FP.fcmp x1 FP.fconst1) CmpOp.g) → (vf_n32 (FP.fmul x1 (1258291200 : UInt32)) ∧ ((0 ≤ (Op.cmpValue (FP.fcmp x0 FP.fconst0) CmpOp.g) → (Q (some (.int (FP.f2i (FP.fmul x1 (1258291200 : UInt32))))) S)) ∧ (¬ 0 ≤ (Op.cmpValue (FP.fcmp x0 FP.fconst0) CmpOp.g) → (∀ y18 : Int32, y18 = ((FP.f2i (FP.fmul x1 (1258291200 : UInt32))) ||| (-2147483648 : Int32)) → (Q (some (.int y18)) S)))))))) ∧ (¬ 0 ≤ (Op.cmpValue (FP.fcmp x1 FP.fconst1) CmpOp.g) → ((x2 ≤ 1 → ((0 ≤ (Op.cmpValue (FP.fcmp x1 FP.fconst1) CmpOp.g) → (vf_n32 (FP.fsub x1 FP.fconst1) ∧ (vf_n32 (FP.fmul (FP.fsub x1 FP.fconst1) (1258291200 : UInt32)) ∧ (∀ y21 : Int32, y21 = (FP.f2i (FP.fmul (FP.fsub x1 FP.fconst1) (1258291200 : UInt32))) → ((0 ≤ (Op.cmpValue (FP.fcmp x0 FP.fconst0) CmpOp.g) → (Q (some (.int ((x2 <<< (23 &&& 31)) ||| y21))) S)) ∧ (¬ 0 ≤ (Op.cmpValue (FP.fcmp x0 FP.fconst0) CmpOp.g) → (Q (some (.int (((x2 <<< (23 &&& 31)) ||| y21) ||| (-2147483648 : Int32)))) S))))))) ∧ (¬ 0 ≤ (Op.cmpValue (FP.fcmp x1 FP.fconst1) CmpOp.g) → (vf_n32 (FP.fmul x1 (1258291200 : UInt32)) ∧ ((0 ≤ (Op.cmpValue (FP.fcmp x0 FP.fconst0) CmpOp.g) → (Q (some (.int (FP.f2i (FP.fmul x1 (1258291200 : UInt32))))) S)) ∧ (¬ 0 ≤ (Op.cmpValue (FP.fcmp x0 FP.fconst0) CmpOp.g) → (∀ y24 : Int32, y24 = ((FP.f2i (FP.fmul x1 (1258291200 : UInt32))) ||| (-2147483648 : Int32)) → (Q (some (.int y24)) S)))))))) ∧ (¬ x2 ≤ 1 → (vf_n32 (FP.fmul x1 FP.fconst2) ∧ (zG o 994 mdX4_floatBits 47 [(0, .float x0), (1, .float (FP.fmul x1 FP.fconst2)), (2, .int (x2 + (-1))), (3, .int (x3 + 1))] [] S Q)))))))))) : zG o 994 mdX4_floatBits 47 [(0, .float x0), (1, .float x1), (2, .int x2), (3, .int x3)] [] S Q := by
  show zJ o mdX4_floatBits 47 _ [] (994, z_enc o S) 0 0 _
  refine zJ.iload_n 3 dX4_floatBits_47 rfl rfl ?_
  refine zJ.sipush (v := 300) dX4_floatBits_48 (by decide) ?_
  refine zJ.icmp_ge (tgt := 84) dX4_floatBits_51 (by decide) (fun c1 => ?_) (fun c1 => ?_)
  · replace h := h.1 c1
    refine zJ.fload_n 1 dX4_floatBits_84 rfl rfl ?_
    refine zJ.fconst1 dX4_floatBits_85 ?_
    refine zJ.fcmp dX4_floatBits_86 ?_
    refine zJ.if_ge (tgt := 98) dX4_floatBits_87 (by decide) (fun c2 => ?_) (fun c2 => ?_)
    · replace h := h.1 c2
      refine zJ.iload_n 2 dX4_floatBits_98 rfl rfl ?_
      refine zJ.bipush (v := 23) dX4_floatBits_99 (by decide) ?_
      refine zJ.ishl dX4_floatBits_101 ?_
      refine zJ.fload_n 1 dX4_floatBits_102 rfl rfl ?_
      refine zJ.fconst1 dX4_floatBits_103 ?_
      obtain ⟨hq, h⟩ := h
      refine zJ.fsub dX4_floatBits_104 hq ?_
      refine zJ.ldcf lc_X4_227 dX4_floatBits_105 ?_
      obtain ⟨hq, h⟩ := h
      refine zJ.fmul dX4_floatBits_107 hq ?_
      refine zJ.f2i dX4_floatBits_108 ?_
      refine zJ.topi (fun y3 hyy3 => ?_)
      replace h := h y3 hyy3
      refine zJ.ior dX4_floatBits_109 ?_
      refine zJ.istore_n (lv' := [(3, .int ((x2 <<< (23 &&& 31)) ||| y3)), (0, .float x0), (1, .float x1), (2, .int x2)]) dX4_floatBits_110 rfl (Nat.le_of_ble_eq_true rfl) rfl ?_
      refine zJ.fload_n 1 dX4_floatBits_111 rfl rfl ?_
      refine zJ.fconst0 dX4_floatBits_112 ?_
      refine zJ.fcmp dX4_floatBits_113 ?_
      refine zJ.if_ge (tgt := 124) dX4_floatBits_114 (by decide) (fun c4 => ?_) (fun c4 => ?_)
      · replace h := h.1 c4
        refine zJ.iload_n 0 dX4_floatBits_124 rfl rfl ?_
        exact zG.ret (r := some (.int ((x2 <<< (23 &&& 31)) ||| y3))) ⟨dX4_floatBits_125, _, rfl, rfl⟩ h
      · replace h := h.2 c4
        refine zJ.iload_n 0 dX4_floatBits_117 rfl rfl ?_
        refine zJ.ldc lc_X4_228 dX4_floatBits_118 ?_
        refine zJ.ior dX4_floatBits_120 ?_
        refine zJ.goto (tgt := 125) dX4_floatBits_121 (by decide) ?_
        exact zG.ret (r := some (.int (((x2 <<< (23 &&& 31)) ||| y3) ||| (-2147483648 : Int32)))) ⟨dX4_floatBits_125, _, rfl, rfl⟩ h
    · replace h := h.2 c2
      refine zJ.fload_n 1 dX4_floatBits_90 rfl rfl ?_
      refine zJ.ldcf lc_X4_227 dX4_floatBits_91 ?_
      obtain ⟨hq, h⟩ := h
      refine zJ.fmul dX4_floatBits_93 hq ?_
      refine zJ.f2i dX4_floatBits_94 ?_
      refine zJ.goto (tgt := 110) dX4_floatBits_95 (by decide) ?_
      refine zJ.istore_n (lv' := [(3, .int (FP.f2i (FP.fmul x1 (1258291200 : UInt32)))), (0, .float x0), (1, .float x1), (2, .int x2)]) dX4_floatBits_110 rfl (Nat.le_of_ble_eq_true rfl) rfl ?_
      refine zJ.fload_n 1 dX4_floatBits_111 rfl rfl ?_
      refine zJ.fconst0 dX4_floatBits_112 ?_
      refine zJ.fcmp dX4_floatBits_113 ?_
      refine zJ.if_ge (tgt := 124) dX4_floatBits_114 (by decide) (fun c5 => ?_) (fun c5 => ?_)
      · replace h := h.1 c5
        refine zJ.iload_n 0 dX4_floatBits_124 rfl rfl ?_
        exact zG.ret (r := some (.int (FP.f2i (FP.fmul x1 (1258291200 : UInt32))))) ⟨dX4_floatBits_125, _, rfl, rfl⟩ h
      · replace h := h.2 c5
        refine zJ.iload_n 0 dX4_floatBits_117 rfl rfl ?_
        refine zJ.ldc lc_X4_228 dX4_floatBits_118 ?_
        refine zJ.ior dX4_floatBits_120 ?_
        refine zJ.topi (fun y6 hyy6 => ?_)
        replace h := h y6 hyy6
        refine zJ.goto (tgt := 125) dX4_floatBits_121 (by decide) ?_
        exact zG.ret (r := some (.int y6)) ⟨dX4_floatBits_125, _, rfl, rfl⟩ h
  · replace h := h.2 c1
    refine zJ.fload_n 1 dX4_floatBits_54 rfl rfl ?_
    refine zJ.fconst0 dX4_floatBits_55 ?_
    refine zJ.fcmp dX4_floatBits_56 ?_
    refine zJ.if_le (tgt := 84) dX4_floatBits_57 (by decide) (fun c7 => ?_) (fun c7 => ?_)
    · replace h := h.1 c7
      refine zJ.fload_n 1 dX4_floatBits_84 rfl rfl ?_
      refine zJ.fconst1 dX4_floatBits_85 ?_
      refine zJ.fcmp dX4_floatBits_86 ?_
      refine zJ.if_ge (tgt := 98) dX4_floatBits_87 (by decide) (fun c8 => ?_) (fun c8 => ?_)
      · replace h := h.1 c8
        refine zJ.iload_n 2 dX4_floatBits_98 rfl rfl ?_
        refine zJ.bipush (v := 23) dX4_floatBits_99 (by decide) ?_
        refine zJ.ishl dX4_floatBits_101 ?_
        refine zJ.fload_n 1 dX4_floatBits_102 rfl rfl ?_
        refine zJ.fconst1 dX4_floatBits_103 ?_
        obtain ⟨hq, h⟩ := h
        refine zJ.fsub dX4_floatBits_104 hq ?_
        refine zJ.ldcf lc_X4_227 dX4_floatBits_105 ?_
        obtain ⟨hq, h⟩ := h
        refine zJ.fmul dX4_floatBits_107 hq ?_
        refine zJ.f2i dX4_floatBits_108 ?_
        refine zJ.topi (fun y9 hyy9 => ?_)
        replace h := h y9 hyy9
        refine zJ.ior dX4_floatBits_109 ?_
        refine zJ.istore_n (lv' := [(3, .int ((x2 <<< (23 &&& 31)) ||| y9)), (0, .float x0), (1, .float x1), (2, .int x2)]) dX4_floatBits_110 rfl (Nat.le_of_ble_eq_true rfl) rfl ?_
        refine zJ.fload_n 1 dX4_floatBits_111 rfl rfl ?_
        refine zJ.fconst0 dX4_floatBits_112 ?_
        refine zJ.fcmp dX4_floatBits_113 ?_
        refine zJ.if_ge (tgt := 124) dX4_floatBits_114 (by decide) (fun c10 => ?_) (fun c10 => ?_)
        · replace h := h.1 c10
          refine zJ.iload_n 0 dX4_floatBits_124 rfl rfl ?_
          exact zG.ret (r := some (.int ((x2 <<< (23 &&& 31)) ||| y9))) ⟨dX4_floatBits_125, _, rfl, rfl⟩ h
        · replace h := h.2 c10
          refine zJ.iload_n 0 dX4_floatBits_117 rfl rfl ?_
          refine zJ.ldc lc_X4_228 dX4_floatBits_118 ?_
          refine zJ.ior dX4_floatBits_120 ?_
          refine zJ.goto (tgt := 125) dX4_floatBits_121 (by decide) ?_
          exact zG.ret (r := some (.int (((x2 <<< (23 &&& 31)) ||| y9) ||| (-2147483648 : Int32)))) ⟨dX4_floatBits_125, _, rfl, rfl⟩ h
      · replace h := h.2 c8
        refine zJ.fload_n 1 dX4_floatBits_90 rfl rfl ?_
        refine zJ.ldcf lc_X4_227 dX4_floatBits_91 ?_
        obtain ⟨hq, h⟩ := h
        refine zJ.fmul dX4_floatBits_93 hq ?_
        refine zJ.f2i dX4_floatBits_94 ?_
        refine zJ.goto (tgt := 110) dX4_floatBits_95 (by decide) ?_
        refine zJ.istore_n (lv' := [(3, .int (FP.f2i (FP.fmul x1 (1258291200 : UInt32)))), (0, .float x0), (1, .float x1), (2, .int x2)]) dX4_floatBits_110 rfl (Nat.le_of_ble_eq_true rfl) rfl ?_
        refine zJ.fload_n 1 dX4_floatBits_111 rfl rfl ?_
        refine zJ.fconst0 dX4_floatBits_112 ?_
        refine zJ.fcmp dX4_floatBits_113 ?_
        refine zJ.if_ge (tgt := 124) dX4_floatBits_114 (by decide) (fun c11 => ?_) (fun c11 => ?_)
        · replace h := h.1 c11
          refine zJ.iload_n 0 dX4_floatBits_124 rfl rfl ?_
          exact zG.ret (r := some (.int (FP.f2i (FP.fmul x1 (1258291200 : UInt32))))) ⟨dX4_floatBits_125, _, rfl, rfl⟩ h
        · replace h := h.2 c11
          refine zJ.iload_n 0 dX4_floatBits_117 rfl rfl ?_
          refine zJ.ldc lc_X4_228 dX4_floatBits_118 ?_
          refine zJ.ior dX4_floatBits_120 ?_
          refine zJ.topi (fun y12 hyy12 => ?_)
          replace h := h y12 hyy12
          refine zJ.goto (tgt := 125) dX4_floatBits_121 (by decide) ?_
          exact zG.ret (r := some (.int y12)) ⟨dX4_floatBits_125, _, rfl, rfl⟩ h
    · replace h := h.2 c7
      refine zJ.fload_n 1 dX4_floatBits_60 rfl rfl ?_
      refine zJ.fconst1 dX4_floatBits_61 ?_
      refine zJ.fcmp dX4_floatBits_62 ?_
      refine zJ.if_ge (tgt := 84) dX4_floatBits_63 (by decide) (fun c13 => ?_) (fun c13 => ?_)
      · replace h := h.1 c13
        refine zJ.fload_n 1 dX4_floatBits_84 rfl rfl ?_
        refine zJ.fconst1 dX4_floatBits_85 ?_
        refine zJ.fcmp dX4_floatBits_86 ?_
        refine zJ.if_ge (tgt := 98) dX4_floatBits_87 (by decide) (fun c14 => ?_) (fun c14 => ?_)
        · replace h := h.1 c14
          refine zJ.iload_n 2 dX4_floatBits_98 rfl rfl ?_
          refine zJ.bipush (v := 23) dX4_floatBits_99 (by decide) ?_
          refine zJ.ishl dX4_floatBits_101 ?_
          refine zJ.fload_n 1 dX4_floatBits_102 rfl rfl ?_
          refine zJ.fconst1 dX4_floatBits_103 ?_
          obtain ⟨hq, h⟩ := h
          refine zJ.fsub dX4_floatBits_104 hq ?_
          refine zJ.ldcf lc_X4_227 dX4_floatBits_105 ?_
          obtain ⟨hq, h⟩ := h
          refine zJ.fmul dX4_floatBits_107 hq ?_
          refine zJ.f2i dX4_floatBits_108 ?_
          refine zJ.topi (fun y15 hyy15 => ?_)
          replace h := h y15 hyy15
          refine zJ.ior dX4_floatBits_109 ?_
          refine zJ.istore_n (lv' := [(3, .int ((x2 <<< (23 &&& 31)) ||| y15)), (0, .float x0), (1, .float x1), (2, .int x2)]) dX4_floatBits_110 rfl (Nat.le_of_ble_eq_true rfl) rfl ?_
          refine zJ.fload_n 1 dX4_floatBits_111 rfl rfl ?_
          refine zJ.fconst0 dX4_floatBits_112 ?_
          refine zJ.fcmp dX4_floatBits_113 ?_
          refine zJ.if_ge (tgt := 124) dX4_floatBits_114 (by decide) (fun c16 => ?_) (fun c16 => ?_)
          · replace h := h.1 c16
            refine zJ.iload_n 0 dX4_floatBits_124 rfl rfl ?_
            exact zG.ret (r := some (.int ((x2 <<< (23 &&& 31)) ||| y15))) ⟨dX4_floatBits_125, _, rfl, rfl⟩ h
          · replace h := h.2 c16
            refine zJ.iload_n 0 dX4_floatBits_117 rfl rfl ?_
            refine zJ.ldc lc_X4_228 dX4_floatBits_118 ?_
            refine zJ.ior dX4_floatBits_120 ?_
            refine zJ.goto (tgt := 125) dX4_floatBits_121 (by decide) ?_
            exact zG.ret (r := some (.int (((x2 <<< (23 &&& 31)) ||| y15) ||| (-2147483648 : Int32)))) ⟨dX4_floatBits_125, _, rfl, rfl⟩ h
        · replace h := h.2 c14
          refine zJ.fload_n 1 dX4_floatBits_90 rfl rfl ?_
          refine zJ.ldcf lc_X4_227 dX4_floatBits_91 ?_
          obtain ⟨hq, h⟩ := h
          refine zJ.fmul dX4_floatBits_93 hq ?_
          refine zJ.f2i dX4_floatBits_94 ?_
          refine zJ.goto (tgt := 110) dX4_floatBits_95 (by decide) ?_
          refine zJ.istore_n (lv' := [(3, .int (FP.f2i (FP.fmul x1 (1258291200 : UInt32)))), (0, .float x0), (1, .float x1), (2, .int x2)]) dX4_floatBits_110 rfl (Nat.le_of_ble_eq_true rfl) rfl ?_
          refine zJ.fload_n 1 dX4_floatBits_111 rfl rfl ?_
          refine zJ.fconst0 dX4_floatBits_112 ?_
          refine zJ.fcmp dX4_floatBits_113 ?_
          refine zJ.if_ge (tgt := 124) dX4_floatBits_114 (by decide) (fun c17 => ?_) (fun c17 => ?_)
          · replace h := h.1 c17
            refine zJ.iload_n 0 dX4_floatBits_124 rfl rfl ?_
            exact zG.ret (r := some (.int (FP.f2i (FP.fmul x1 (1258291200 : UInt32))))) ⟨dX4_floatBits_125, _, rfl, rfl⟩ h
          · replace h := h.2 c17
            refine zJ.iload_n 0 dX4_floatBits_117 rfl rfl ?_
            refine zJ.ldc lc_X4_228 dX4_floatBits_118 ?_
            refine zJ.ior dX4_floatBits_120 ?_
            refine zJ.topi (fun y18 hyy18 => ?_)
            replace h := h y18 hyy18
            refine zJ.goto (tgt := 125) dX4_floatBits_121 (by decide) ?_
            exact zG.ret (r := some (.int y18)) ⟨dX4_floatBits_125, _, rfl, rfl⟩ h
      · replace h := h.2 c13
        refine zJ.iload_n 2 dX4_floatBits_66 rfl rfl ?_
        refine zJ.iconst (v := 1) dX4_floatBits_67 (by decide) ?_
        refine zJ.icmp_le (tgt := 84) dX4_floatBits_68 (by decide) (fun c19 => ?_) (fun c19 => ?_)
        · replace h := h.1 c19
          refine zJ.fload_n 1 dX4_floatBits_84 rfl rfl ?_
          refine zJ.fconst1 dX4_floatBits_85 ?_
          refine zJ.fcmp dX4_floatBits_86 ?_
          refine zJ.if_ge (tgt := 98) dX4_floatBits_87 (by decide) (fun c20 => ?_) (fun c20 => ?_)
          · replace h := h.1 c20
            refine zJ.iload_n 2 dX4_floatBits_98 rfl rfl ?_
            refine zJ.bipush (v := 23) dX4_floatBits_99 (by decide) ?_
            refine zJ.ishl dX4_floatBits_101 ?_
            refine zJ.fload_n 1 dX4_floatBits_102 rfl rfl ?_
            refine zJ.fconst1 dX4_floatBits_103 ?_
            obtain ⟨hq, h⟩ := h
            refine zJ.fsub dX4_floatBits_104 hq ?_
            refine zJ.ldcf lc_X4_227 dX4_floatBits_105 ?_
            obtain ⟨hq, h⟩ := h
            refine zJ.fmul dX4_floatBits_107 hq ?_
            refine zJ.f2i dX4_floatBits_108 ?_
            refine zJ.topi (fun y21 hyy21 => ?_)
            replace h := h y21 hyy21
            refine zJ.ior dX4_floatBits_109 ?_
            refine zJ.istore_n (lv' := [(3, .int ((x2 <<< (23 &&& 31)) ||| y21)), (0, .float x0), (1, .float x1), (2, .int x2)]) dX4_floatBits_110 rfl (Nat.le_of_ble_eq_true rfl) rfl ?_
            refine zJ.fload_n 1 dX4_floatBits_111 rfl rfl ?_
            refine zJ.fconst0 dX4_floatBits_112 ?_
            refine zJ.fcmp dX4_floatBits_113 ?_
            refine zJ.if_ge (tgt := 124) dX4_floatBits_114 (by decide) (fun c22 => ?_) (fun c22 => ?_)
            · replace h := h.1 c22
              refine zJ.iload_n 0 dX4_floatBits_124 rfl rfl ?_
              exact zG.ret (r := some (.int ((x2 <<< (23 &&& 31)) ||| y21))) ⟨dX4_floatBits_125, _, rfl, rfl⟩ h
            · replace h := h.2 c22
              refine zJ.iload_n 0 dX4_floatBits_117 rfl rfl ?_
              refine zJ.ldc lc_X4_228 dX4_floatBits_118 ?_
              refine zJ.ior dX4_floatBits_120 ?_
              refine zJ.goto (tgt := 125) dX4_floatBits_121 (by decide) ?_
              exact zG.ret (r := some (.int (((x2 <<< (23 &&& 31)) ||| y21) ||| (-2147483648 : Int32)))) ⟨dX4_floatBits_125, _, rfl, rfl⟩ h
          · replace h := h.2 c20
            refine zJ.fload_n 1 dX4_floatBits_90 rfl rfl ?_
            refine zJ.ldcf lc_X4_227 dX4_floatBits_91 ?_
            obtain ⟨hq, h⟩ := h
            refine zJ.fmul dX4_floatBits_93 hq ?_
            refine zJ.f2i dX4_floatBits_94 ?_
            refine zJ.goto (tgt := 110) dX4_floatBits_95 (by decide) ?_
            refine zJ.istore_n (lv' := [(3, .int (FP.f2i (FP.fmul x1 (1258291200 : UInt32)))), (0, .float x0), (1, .float x1), (2, .int x2)]) dX4_floatBits_110 rfl (Nat.le_of_ble_eq_true rfl) rfl ?_
            refine zJ.fload_n 1 dX4_floatBits_111 rfl rfl ?_
            refine zJ.fconst0 dX4_floatBits_112 ?_
            refine zJ.fcmp dX4_floatBits_113 ?_
            refine zJ.if_ge (tgt := 124) dX4_floatBits_114 (by decide) (fun c23 => ?_) (fun c23 => ?_)
            · replace h := h.1 c23
              refine zJ.iload_n 0 dX4_floatBits_124 rfl rfl ?_
              exact zG.ret (r := some (.int (FP.f2i (FP.fmul x1 (1258291200 : UInt32))))) ⟨dX4_floatBits_125, _, rfl, rfl⟩ h
            · replace h := h.2 c23
              refine zJ.iload_n 0 dX4_floatBits_117 rfl rfl ?_
              refine zJ.ldc lc_X4_228 dX4_floatBits_118 ?_
              refine zJ.ior dX4_floatBits_120 ?_
              refine zJ.topi (fun y24 hyy24 => ?_)
              replace h := h y24 hyy24
              refine zJ.goto (tgt := 125) dX4_floatBits_121 (by decide) ?_
              exact zG.ret (r := some (.int y24)) ⟨dX4_floatBits_125, _, rfl, rfl⟩ h
        · replace h := h.2 c19
          refine zJ.fload_n 1 dX4_floatBits_71 rfl rfl ?_
          refine zJ.fconst2 dX4_floatBits_72 ?_
          obtain ⟨hq, h⟩ := h
          refine zJ.fmul dX4_floatBits_73 hq ?_
          refine zJ.fstore_n (lv' := [(1, .float (FP.fmul x1 FP.fconst2)), (0, .float x0), (2, .int x2), (3, .int x3)]) dX4_floatBits_74 rfl (Nat.le_of_ble_eq_true rfl) rfl ?_
          refine zJ.iinc (k := 2) (lv' := [(2, .int (x2 + (-1))), (1, .float (FP.fmul x1 FP.fconst2)), (0, .float x0), (3, .int x3)]) dX4_floatBits_75 rfl rfl (Nat.le_of_ble_eq_true rfl) rfl ?_
          refine zJ.iinc (k := 3) (lv' := [(3, .int (x3 + 1)), (2, .int (x2 + (-1))), (1, .float (FP.fmul x1 FP.fconst2)), (0, .float x0)]) dX4_floatBits_78 rfl rfl (Nat.le_of_ble_eq_true rfl) rfl ?_
          refine zJ.goto (tgt := 47) dX4_floatBits_81 (by decide) ?_
          exact zJ.sub [3, 2, 1, 0] rfl h
set_option maxRecDepth 100000 in
set_option maxHeartbeats 4000000 in
theorem w_X4_doubleBits_0 (o : zW) (x0 : UInt64) (S : zS) (Q : Option Value → zS → Prop) (h : (0 ≤ (Op.cmpValue (FP.dcmp x0 FP.dconst0) CmpOp.g) → (zG o 994 mdX4_doubleBits 21 [(0, .double x0), (2, .double x0), (4, .long (1023 : Int64)), (6, .int 0)] [] S Q)) ∧ (¬ 0 ≤ (Op.cmpValue (FP.dcmp x0 FP.dconst0) CmpOp.g) → (zG o 994 mdX4_doubleBits 21 [(0, .double x0), (2, .double (FP.dneg x0)), (4, .long (1023 : Int64)), (6, .int 0)] [] S Q))) : zG o 994 mdX4_doubleBits 0 [(0, .double x0)] [] S Q := by
  show zJ o mdX4_doubleBits 0 _ [] (994, z_enc o S) 0 0 _
  refine zJ.dload_n 0 dX4_doubleBits_0 rfl rfl ?_
  refine zJ.dconst0 dX4_doubleBits_1 ?_
  refine zJ.dcmp dX4_doubleBits_2 ?_
  refine zJ.if_ge (tgt := 11) dX4_doubleBits_3 (by decide) (fun c1 => ?_) (fun c1 => ?_)
  · replace h := h.1 c1
    refine zJ.dload_n 0 dX4_doubleBits_11 rfl rfl ?_
    refine zJ.dstore_n (lv' := [(2, .double x0), (0, .double x0)]) dX4_doubleBits_12 rfl (Nat.le_of_ble_eq_true rfl) rfl ?_
    refine zJ.ldc2 lc_X4_229 dX4_doubleBits_13 ?_
    refine zJ.lstore (lv' := [(4, .long (1023 : Int64)), (2, .double x0), (0, .double x0)]) dX4_doubleBits_16 (Nat.le_of_ble_eq_true rfl) rfl ?_
    refine zJ.iconst (v := 0) dX4_doubleBits_18 (by decide) ?_
    refine zJ.istore (lv' := [(6, .int 0), (4, .long (1023 : Int64)), (2, .double x0), (0, .double x0)]) dX4_doubleBits_19 (Nat.le_of_ble_eq_true rfl) rfl ?_
    exact zJ.sub [3, 2, 1, 0] rfl h
  · replace h := h.2 c1
    refine zJ.dload_n 0 dX4_doubleBits_6 rfl rfl ?_
    refine zJ.dneg dX4_doubleBits_7 ?_
    refine zJ.goto (tgt := 12) dX4_doubleBits_8 (by decide) ?_
    refine zJ.dstore_n (lv' := [(2, .double (FP.dneg x0)), (0, .double x0)]) dX4_doubleBits_12 rfl (Nat.le_of_ble_eq_true rfl) rfl ?_
    refine zJ.ldc2 lc_X4_229 dX4_doubleBits_13 ?_
    refine zJ.lstore (lv' := [(4, .long (1023 : Int64)), (2, .double (FP.dneg x0)), (0, .double x0)]) dX4_doubleBits_16 (Nat.le_of_ble_eq_true rfl) rfl ?_
    refine zJ.iconst (v := 0) dX4_doubleBits_18 (by decide) ?_
    refine zJ.istore (lv' := [(6, .int 0), (4, .long (1023 : Int64)), (2, .double (FP.dneg x0)), (0, .double x0)]) dX4_doubleBits_19 (Nat.le_of_ble_eq_true rfl) rfl ?_
    exact zJ.sub [3, 2, 1, 0] rfl h
set_option maxRecDepth 100000 in
set_option maxHeartbeats 4000000 in
theorem w_X4_doubleBits_21 (o : zW) (x0 : UInt64) (x2 : UInt64) (x4 : Int64) (x6 : Int32) (S : zS) (Q : Option Value → zS → Prop) (h : (1100 ≤ x6 → (zG o 994 mdX4_doubleBits 58 [(0, .double x0), (2, .double x2), (4, .long x4), (6, .int 0)] [] S Q)) ∧ (¬ 1100 ≤ x6 → (∀ y2 : Int32, y2 = (Op.cmpValue (FP.dcmp x2 (4611686018427387904 : UInt64)) CmpOp.l) → ((y2 < 0 → (zG o 994 mdX4_doubleBits 58 [(0, .double x0), (2, .double x2), (4, .long x4), (6, .int 0)] [] S Q)) ∧ (¬ y2 < 0 → (vf_n64 (FP.dmul x2 (4602678819172646912 : UInt64)) ∧ (zG o 994 mdX4_doubleBits 21 [(0, .double x0), (2, .double (FP.dmul x2 (4602678819172646912 : UInt64))), (4, .long (x4 + 1)), (6, .int (x6 + 1))] [] S Q))))))) : zG o 994 mdX4_doubleBits 21 [(0, .double x0), (2, .double x2), (4, .long x4), (6, .int x6)] [] S Q := by
  show zJ o mdX4_doubleBits 21 _ [] (994, z_enc o S) 0 0 _
  refine zJ.iload 3 dX4_doubleBits_21 rfl ?_
  refine zJ.sipush (v := 1100) dX4_doubleBits_23 (by decide) ?_
  refine zJ.icmp_ge (tgt := 55) dX4_doubleBits_26 (by decide) (fun c1 => ?_) (fun c1 => ?_)
  · replace h := h.1 c1
    refine zJ.iconst (v := 0) dX4_doubleBits_55 (by decide) ?_
    refine zJ.istore (lv' := [(6, .int 0), (0, .double x0), (2, .double x2), (4, .long x4)]) dX4_doubleBits_56 (Nat.le_of_ble_eq_true rfl) rfl ?_
    exact zJ.sub [1, 2, 3, 0] rfl h
  · replace h := h.2 c1
    refine zJ.dload_n 1 dX4_doubleBits_29 rfl rfl ?_
    refine zJ.ldc2d lc_X4_231 dX4_doubleBits_30 ?_
    refine zJ.dcmp dX4_doubleBits_33 ?_
    refine zJ.topi (fun y2 hyy2 => ?_)
    replace h := h y2 hyy2
    refine zJ.if_lt (tgt := 55) dX4_doubleBits_34 (by decide) (fun c3 => ?_) (fun c3 => ?_)
    · replace h := h.1 c3
      refine zJ.iconst (v := 0) dX4_doubleBits_55 (by decide) ?_
      refine zJ.istore (lv' := [(6, .int 0), (0, .double x0), (2, .double x2), (4, .long x4)]) dX4_doubleBits_56 (Nat.le_of_ble_eq_true rfl) rfl ?_
      exact zJ.sub [1, 2, 3, 0] rfl h
    · replace h := h.2 c3
      refine zJ.dload_n 1 dX4_doubleBits_37 rfl rfl ?_
      refine zJ.ldc2d lc_X4_233 dX4_doubleBits_38 ?_
      obtain ⟨hq, h⟩ := h
      refine zJ.dmul dX4_doubleBits_41 hq ?_
      refine zJ.dstore_n (lv' := [(2, .double (FP.dmul x2 (4602678819172646912 : UInt64))), (0, .double x0), (4, .long x4), (6, .int x6)]) dX4_doubleBits_42 rfl (Nat.le_of_ble_eq_true rfl) rfl ?_
      refine zJ.lload 2 dX4_doubleBits_43 rfl ?_
      refine zJ.lconst (v := 1) dX4_doubleBits_45 (by decide) ?_
      refine zJ.ladd dX4_doubleBits_46 ?_
      refine zJ.lstore (lv' := [(4, .long (x4 + 1)), (2, .double (FP.dmul x2 (4602678819172646912 : UInt64))), (0, .double x0), (6, .int x6)]) dX4_doubleBits_47 (Nat.le_of_ble_eq_true rfl) rfl ?_
      refine zJ.iinc (k := 3) (lv' := [(6, .int (x6 + 1)), (4, .long (x4 + 1)), (2, .double (FP.dmul x2 (4602678819172646912 : UInt64))), (0, .double x0)]) dX4_doubleBits_49 rfl rfl (Nat.le_of_ble_eq_true rfl) rfl ?_
      refine zJ.goto (tgt := 21) dX4_doubleBits_52 (by decide) ?_
      exact zJ.sub [3, 2, 1, 0] rfl h
set_option maxRecDepth 100000 in
set_option maxHeartbeats 4000000 in
theorem w_X4_doubleBits_58 (o : zW) (x0 : UInt64) (x2 : UInt64) (x4 : Int64) (x6 : Int32) (S : zS) (Q : Option Value → zS → Prop) (h : (1100 ≤ x6 → ((0 ≤ (Op.cmpValue (FP.dcmp x2 FP.dconst1) CmpOp.g) → (vf_n64 (FP.dsub x2 FP.dconst1) ∧ (vf_n64 (FP.dmul (FP.dsub x2 FP.dconst1) (4841369599423283200 : UInt64)) ∧ ((0 ≤ (Op.cmpValue (FP.dcmp x0 FP.dconst0) CmpOp.g) → (Q (some (.long ((x4 <<< (52.toInt64 &&& 63)) ||| (FP.d2l (FP.dmul (FP.dsub x2 FP.dconst1) (4841369599423283200 : UInt64)))))) S)) ∧ (¬ 0 ≤ (Op.cmpValue (FP.dcmp x0 FP.dconst0) CmpOp.g) → (Q (some (.long (((x4 <<< (52.toInt64 &&& 63)) ||| (FP.d2l (FP.dmul (FP.dsub x2 FP.dconst1) (4841369599423283200 : UInt64)))) ||| (-9223372036854775808 : Int64)))) S)))))) ∧ (¬ 0 ≤ (Op.cmpValue (FP.dcmp x2 FP.dconst1) CmpOp.g) → (vf_n64 (FP.dmul x2 (4841369599423283200 : UInt64)) ∧ ((0 ≤ (Op.cmpValue (FP.dcmp x0 FP.dconst0) CmpOp.g) → (Q (some (.long (FP.d2l (FP.dmul x2 (4841369599423283200 : UInt64))))) S)) ∧ (¬ 0 ≤ (Op.cmpValue (FP.dcmp x0 FP.dconst0) CmpOp.g) → (Q (some (.long ((FP.d2l (FP.dmul x2 (4841369599423283200 : UInt64))) ||| (-9223372036854775808 : Int64)))) S))))))) ∧ (¬ 1100 ≤ x6 → (((Op.cmpValue (FP.dcmp x2 FP.dconst0) CmpOp.l) ≤ 0 → ((0 ≤ (Op.cmpValue (FP.dcmp x2 FP.dconst1) CmpOp.g) → (vf_n64 (FP.dsub x2 FP.dconst1) ∧ (vf_n64 (FP.dmul (FP.dsub x2 FP.dconst1) (4841369599423283200 : UInt64)) ∧ ((0 ≤ (Op.cmpValue (FP.dcmp x0 FP.dconst0) CmpOp.g) → (Q (some (.long ((x4 <<< (52.toInt64 &&& 63)) ||| (FP.d2l (FP.dmul (FP.dsub x2 FP.dconst1) (4841369599423283200 : UInt64)))))) S)) ∧ (¬ 0 ≤ (Op.cmpValue (FP.dcmp x0 FP.dconst0) CmpOp.g) → (Q (some (.long (((x4 <<< (52.toInt64 &&& 63)) ||| (FP.d2l (FP.dmul (FP.dsub x2 FP.dconst1) (4841369599423283200 : UInt64)))) ||| (-9223372036854775808 : Int64)))) S)))))) ∧ (¬ 0 ≤ (Op.cmpValue (FP.dcmp x2 FP.dconst1) CmpOp.g) → (vf_n64 (FP.dmul x2 (4841369599423283200 : UInt64)) ∧ ((0 ≤ (Op.cmpValue (FP.dcmp x0 FP.dconst0) CmpOp.g) → (Q (some (.long (FP.d2l (FP.dmul x2 (4841369599423283200 : UInt64))))) S)) ∧ (¬ 0 ≤ (Op.cmpValue (FP.dcmp x0 FP.dconst0) CmpOp.g) → (Q (some (.long ((FP.d2l (FP.dmul x2 (4841369599423283200 : UInt64))) ||| (-9223372036854775808 : Int64)))) S))))))) ∧ (¬ (Op.cmpValue (FP.dcmp x2 FP.dconst0) CmpOp.l) ≤ 0 → ((0 ≤ (Op.cmpValue (FP.dcmp x2 FP.dconst1) CmpOp.g) → ((0 ≤ (Op.cmpValue (FP.dcmp x2 FP.dconst1) CmpOp.g) → (vf_n64 (FP.dsub x2 FP.dconst1) ∧ (vf_n64 (FP.dmul (FP.dsub x2 FP.dconst1) (4841369599423283200 : UInt64)) ∧ ((0 ≤ (Op.cmpValue (FP.dcmp x0 FP.dconst0) CmpOp.g) → (Q (some (.long ((x4 <<< (52.toInt64 &&& 63)) ||| (FP.d2l (FP.dmul (FP.dsub x2 FP.dconst1) (4841369599423283200 : UInt64)))))) S)) ∧ (¬ 0 ≤ (Op.cmpValue (FP.dcmp x0 FP.dconst0) CmpOp.g) → (Q (some (.long (((x4 <<< (52.toInt64 &&& 63)) ||| (FP.d2l (FP.dmul (FP.dsub x2 FP.dconst1) (4841369599423283200 : UInt64)))) ||| (-9223372036854775808 : Int64)))) S)))))) ∧ (¬ 0 ≤ (Op.cmpValue (FP.dcmp x2 FP.dconst1) CmpOp.g) → (vf_n64 (FP.dmul x2 (4841369599423283200 : UInt64)) ∧ ((0 ≤ (Op.cmpValue (FP.dcmp x0 FP.dconst0) CmpOp.g) → (Q (some (.long (FP.d2l (FP.dmul x2 (4841369599423283200 : UInt64))))) S)) ∧ (¬ 0 ≤ (Op.cmpValue (FP.dcmp x0 FP.dconst0) CmpOp.g) → (Q (some (.long ((FP.d2l (FP.dmul x2 (4841369599423283200 : UInt64))) ||| (-9223372036854775808 : Int64)))) S))))))) ∧ (¬ 0 ≤ (Op.cmpValue (FP.dcmp x2 FP.dconst1) CmpOp.g) → (((z_lcmp x4 1) ≤ 0 → ((0 ≤ (Op.cmpValue (FP.dcmp x2 FP.dconst1) CmpOp.g) → (vf_n64 (FP.dsub x2 FP.dconst1) ∧ (vf_n64 (FP.dmul (FP.dsub x2 FP.dconst1) (4841369599423283200 : UInt64)) ∧ ((0 ≤ (Op.cmpValue (FP.dcmp x0 FP.dconst0) CmpOp.g) → (Q (some (.long ((x4 <<< (52.toInt64 &&& 63)) ||| (FP.d2l (FP.dmul (FP.dsub x2 FP.dconst1) (4841369599423283200 : UInt64)))))) S)) ∧ (¬ 0 ≤ (Op.cmpValue (FP.dcmp x0 FP.dconst0) CmpOp.g) → (Q (some (.long (((x4 <<< (52.toInt64 &&& 63)) ||| (FP.d2l (FP.dmul (FP.dsub x2 FP.dconst1) (4841369599423283200 : UInt64)))) ||| (-9223372036854775808 : Int64)))) S)))))) ∧ (¬ 0 ≤ (Op.cmpValue (FP.dcmp x2 FP.dconst1) CmpOp.g) → (vf_n64 (FP.dmul x2 (4841369599423283200 : UInt64)) ∧ ((0 ≤ (Op.cmpValue (FP.dcmp x0 FP.dconst0) CmpOp.g) → (Q (some (.long (FP.d2l (FP.dmul x2 (4841369599423283200 : UInt64))))) S)) ∧ (¬ 0 ≤ (Op.cmpValue (FP.dcmp x0 FP.dconst0) CmpOp.g) → (Q (some (.long ((FP.d2l (FP.dmul x2 (4841369599423283200 : UInt64))) ||| (-9223372036854775808 : Int64)))) S))))))) ∧ (¬ (z_lcmp x4 1) ≤ 0 → (vf_n64 (FP.dmul x2 (4611686018427387904 : UInt64)) ∧ (zG o 994 mdX4_doubleBits 58 [(0, .double x0), (2, .double (FP.dmul x2 (4611686018427387904 : UInt64))), (4, .long (x4 - 1)), (6, .int (x6 + 1))] [] S Q)))))))))) : zG o 994 mdX4_doubleBits 58 [(0, .double x0), (2, .double x2), (4, .long x4), (6, .int x6)] [] S Q := by
  show zJ o mdX4_doubleBits 58 _ [] (994, z_enc o S) 0 0 _
  refine zJ.iload 3 dX4_doubleBits_58 rfl ?_
  refine zJ.sipush (v := 1100) dX4_doubleBits_60 (by decide) ?_
  refine zJ.icmp_ge (tgt := 103) dX4_doubleBits_63 (by decide) (fun c1 => ?_) (fun c1 => ?_)
  · replace h := h.1 c1
    refine zJ.dload_n 1 dX4_doubleBits_103 rfl rfl ?_
    refine zJ.dconst1 dX4_doubleBits_104 ?_
    refine zJ.dcmp dX4_doubleBits_105 ?_
    refine zJ.if_ge (tgt := 118) dX4_doubleBits_106 (by decide) (fun c2 => ?_) (fun c2 => ?_)
    · replace h := h.1 c2
      refine zJ.lload 2 dX4_doubleBits_118 rfl ?_
      refine zJ.bipush (v := 52) dX4_doubleBits_120 (by decide) ?_
      refine zJ.lshl dX4_doubleBits_122 ?_
      refine zJ.dload_n 1 dX4_doubleBits_123 rfl rfl ?_
      refine zJ.dconst1 dX4_doubleBits_124 ?_
      obtain ⟨hq, h⟩ := h
      refine zJ.dsub dX4_doubleBits_125 hq ?_
      refine zJ.ldc2d lc_X4_235 dX4_doubleBits_126 ?_
      obtain ⟨hq, h⟩ := h
      refine zJ.dmul dX4_doubleBits_129 hq ?_
      refine zJ.d2l dX4_doubleBits_130 ?_
      refine zJ.lor dX4_doubleBits_131 ?_
      refine zJ.lstore (lv' := [(6, .long ((x4 <<< (52.toInt64 &&& 63)) ||| (FP.d2l (FP.dmul (FP.dsub x2 FP.dconst1) (4841369599423283200 : UInt64))))), (0, .double x0), (2, .double x2), (4, .long x4)]) dX4_doubleBits_132 (Nat.le_of_ble_eq_true rfl) rfl ?_
      refine zJ.dload_n 1 dX4_doubleBits_134 rfl rfl ?_
      refine zJ.dconst0 dX4_doubleBits_135 ?_
      refine zJ.dcmp dX4_doubleBits_136 ?_
      refine zJ.if_ge (tgt := 149) dX4_doubleBits_137 (by decide) (fun c3 => ?_) (fun c3 => ?_)
      · replace h := h.1 c3
        refine zJ.lload 0 dX4_doubleBits_149 rfl ?_
        exact zG.ret (r := some (.long ((x4 <<< (52.toInt64 &&& 63)) ||| (FP.d2l (FP.dmul (FP.dsub x2 FP.dconst1) (4841369599423283200 : UInt64)))))) ⟨dX4_doubleBits_151, rfl⟩ h
      · replace h := h.2 c3
        refine zJ.lload 0 dX4_doubleBits_140 rfl ?_
        refine zJ.ldc2 lc_X4_237 dX4_doubleBits_142 ?_
        refine zJ.lor dX4_doubleBits_145 ?_
        refine zJ.goto (tgt := 151) dX4_doubleBits_146 (by decide) ?_
        exact zG.ret (r := some (.long (((x4 <<< (52.toInt64 &&& 63)) ||| (FP.d2l (FP.dmul (FP.dsub x2 FP.dconst1) (4841369599423283200 : UInt64)))) ||| (-9223372036854775808 : Int64)))) ⟨dX4_doubleBits_151, rfl⟩ h
    · replace h := h.2 c2
      refine zJ.dload_n 1 dX4_doubleBits_109 rfl rfl ?_
      refine zJ.ldc2d lc_X4_235 dX4_doubleBits_110 ?_
      obtain ⟨hq, h⟩ := h
      refine zJ.dmul dX4_doubleBits_113 hq ?_
      refine zJ.d2l dX4_doubleBits_114 ?_
      refine zJ.goto (tgt := 132) dX4_doubleBits_115 (by decide) ?_
      refine zJ.lstore (lv' := [(6, .long (FP.d2l (FP.dmul x2 (4841369599423283200 : UInt64)))), (0, .double x0), (2, .double x2), (4, .long x4)]) dX4_doubleBits_132 (Nat.le_of_ble_eq_true rfl) rfl ?_
      refine zJ.dload_n 1 dX4_doubleBits_134 rfl rfl ?_
      refine zJ.dconst0 dX4_doubleBits_135 ?_
      refine zJ.dcmp dX4_doubleBits_136 ?_
      refine zJ.if_ge (tgt := 149) dX4_doubleBits_137 (by decide) (fun c4 => ?_) (fun c4 => ?_)
      · replace h := h.1 c4
        refine zJ.lload 0 dX4_doubleBits_149 rfl ?_
        exact zG.ret (r := some (.long (FP.d2l (FP.dmul x2 (4841369599423283200 : UInt64))))) ⟨dX4_doubleBits_151, rfl⟩ h
      · replace h := h.2 c4
        refine zJ.lload 0 dX4_doubleBits_140 rfl ?_
        refine zJ.ldc2 lc_X4_237 dX4_doubleBits_142 ?_
        refine zJ.lor dX4_doubleBits_145 ?_
        refine zJ.goto (tgt := 151) dX4_doubleBits_146 (by decide) ?_
        exact zG.ret (r := some (.long ((FP.d2l (FP.dmul x2 (4841369599423283200 : UInt64))) ||| (-9223372036854775808 : Int64)))) ⟨dX4_doubleBits_151, rfl⟩ h
  · replace h := h.2 c1
    refine zJ.dload_n 1 dX4_doubleBits_66 rfl rfl ?_
    refine zJ.dconst0 dX4_doubleBits_67 ?_
    refine zJ.dcmp dX4_doubleBits_68 ?_
    refine zJ.if_le (tgt := 103) dX4_doubleBits_69 (by decide) (fun c5 => ?_) (fun c5 => ?_)
    · replace h := h.1 c5
      refine zJ.dload_n 1 dX4_doubleBits_103 rfl rfl ?_
      refine zJ.dconst1 dX4_doubleBits_104 ?_
      refine zJ.dcmp dX4_doubleBits_105 ?_
      refine zJ.if_ge (tgt := 118) dX4_doubleBits_106 (by decide) (fun c6 => ?_) (fun c6 => ?_)
      · replace h := h.1 c6
        refine zJ.lload 2 dX4_doubleBits_118 rfl ?_
        refine zJ.bipush (v := 52) dX4_doubleBits_120 (by decide) ?_
        refine zJ.lshl dX4_doubleBits_122 ?_
        refine zJ.dload_n 1 dX4_doubleBits_123 rfl rfl ?_
        refine zJ.dconst1 dX4_doubleBits_124 ?_
        obtain ⟨hq, h⟩ := h
        refine zJ.dsub dX4_doubleBits_125 hq ?_
        refine zJ.ldc2d lc_X4_235 dX4_doubleBits_126 ?_
        obtain ⟨hq, h⟩ := h
        refine zJ.dmul dX4_doubleBits_129 hq ?_
        refine zJ.d2l dX4_doubleBits_130 ?_
        refine zJ.lor dX4_doubleBits_131 ?_
        refine zJ.lstore (lv' := [(6, .long ((x4 <<< (52.toInt64 &&& 63)) ||| (FP.d2l (FP.dmul (FP.dsub x2 FP.dconst1) (4841369599423283200 : UInt64))))), (0, .double x0), (2, .double x2), (4, .long x4)]) dX4_doubleBits_132 (Nat.le_of_ble_eq_true rfl) rfl ?_
        refine zJ.dload_n 1 dX4_doubleBits_134 rfl rfl ?_
        refine zJ.dconst0 dX4_doubleBits_135 ?_
        refine zJ.dcmp dX4_doubleBits_136 ?_
        refine zJ.if_ge (tgt := 149) dX4_doubleBits_137 (by decide) (fun c7 => ?_) (fun c7 => ?_)
        · replace h := h.1 c7
          refine zJ.lload 0 dX4_doubleBits_149 rfl ?_
          exact zG.ret (r := some (.long ((x4 <<< (52.toInt64 &&& 63)) ||| (FP.d2l (FP.dmul (FP.dsub x2 FP.dconst1) (4841369599423283200 : UInt64)))))) ⟨dX4_doubleBits_151, rfl⟩ h
        · replace h := h.2 c7
          refine zJ.lload 0 dX4_doubleBits_140 rfl ?_
          refine zJ.ldc2 lc_X4_237 dX4_doubleBits_142 ?_
          refine zJ.lor dX4_doubleBits_145 ?_
          refine zJ.goto (tgt := 151) dX4_doubleBits_146 (by decide) ?_
          exact zG.ret (r := some (.long (((x4 <<< (52.toInt64 &&& 63)) ||| (FP.d2l (FP.dmul (FP.dsub x2 FP.dconst1) (4841369599423283200 : UInt64)))) ||| (-9223372036854775808 : Int64)))) ⟨dX4_doubleBits_151, rfl⟩ h
      · replace h := h.2 c6
        refine zJ.dload_n 1 dX4_doubleBits_109 rfl rfl ?_
        refine zJ.ldc2d lc_X4_235 dX4_doubleBits_110 ?_
        obtain ⟨hq, h⟩ := h
        refine zJ.dmul dX4_doubleBits_113 hq ?_
        refine zJ.d2l dX4_doubleBits_114 ?_
        refine zJ.goto (tgt := 132) dX4_doubleBits_115 (by decide) ?_
        refine zJ.lstore (lv' := [(6, .long (FP.d2l (FP.dmul x2 (4841369599423283200 : UInt64)))), (0, .double x0), (2, .double x2), (4, .long x4)]) dX4_doubleBits_132 (Nat.le_of_ble_eq_true rfl) rfl ?_
        refine zJ.dload_n 1 dX4_doubleBits_134 rfl rfl ?_
        refine zJ.dconst0 dX4_doubleBits_135 ?_
        refine zJ.dcmp dX4_doubleBits_136 ?_
        refine zJ.if_ge (tgt := 149) dX4_doubleBits_137 (by decide) (fun c8 => ?_) (fun c8 => ?_)
        · replace h := h.1 c8
          refine zJ.lload 0 dX4_doubleBits_149 rfl ?_
          exact zG.ret (r := some (.long (FP.d2l (FP.dmul x2 (4841369599423283200 : UInt64))))) ⟨dX4_doubleBits_151, rfl⟩ h
        · replace h := h.2 c8
          refine zJ.lload 0 dX4_doubleBits_140 rfl ?_
          refine zJ.ldc2 lc_X4_237 dX4_doubleBits_142 ?_
          refine zJ.lor dX4_doubleBits_145 ?_
          refine zJ.goto (tgt := 151) dX4_doubleBits_146 (by decide) ?_
          exact zG.ret (r := some (.long ((FP.d2l (FP.dmul x2 (4841369599423283200 : UInt64))) ||| (-9223372036854775808 : Int64)))) ⟨dX4_doubleBits_151, rfl⟩ h
    · replace h := h.2 c5
      refine zJ.dload_n 1 dX4_doubleBits_72 rfl rfl ?_
      refine zJ.dconst1 dX4_doubleBits_73 ?_
      refine zJ.dcmp dX4_doubleBits_74 ?_
      refine zJ.if_ge (tgt := 103) dX4_doubleBits_75 (by decide) (fun c9 => ?_) (fun c9 => ?_)
      · replace h := h.1 c9
        refine zJ.dload_n 1 dX4_doubleBits_103 rfl rfl ?_
        refine zJ.dconst1 dX4_doubleBits_104 ?_
        refine zJ.dcmp dX4_doubleBits_105 ?_
        refine zJ.if_ge (tgt := 118) dX4_doubleBits_106 (by decide) (fun c10 => ?_) (fun c10 => ?_)
        · replace h := h.1 c10
          refine zJ.lload 2 dX4_doubleBits_118 rfl ?_
          refine zJ.bipush (v := 52) dX4_doubleBits_120 (by decide) ?_
          refine zJ.lshl dX4_doubleBits_122 ?_
          refine zJ.dload_n 1 dX4_doubleBits_123 rfl rfl ?_
          refine zJ.dconst1 dX4_doubleBits_124 ?_
          obtain ⟨hq, h⟩ := h
          refine zJ.dsub dX4_doubleBits_125 hq ?_
          refine zJ.ldc2d lc_X4_235 dX4_doubleBits_126 ?_
          obtain ⟨hq, h⟩ := h
          refine zJ.dmul dX4_doubleBits_129 hq ?_
          refine zJ.d2l dX4_doubleBits_130 ?_
          refine zJ.lor dX4_doubleBits_131 ?_
          refine zJ.lstore (lv' := [(6, .long ((x4 <<< (52.toInt64 &&& 63)) ||| (FP.d2l (FP.dmul (FP.dsub x2 FP.dconst1) (4841369599423283200 : UInt64))))), (0, .double x0), (2, .double x2), (4, .long x4)]) dX4_doubleBits_132 (Nat.le_of_ble_eq_true rfl) rfl ?_
          refine zJ.dload_n 1 dX4_doubleBits_134 rfl rfl ?_
          refine zJ.dconst0 dX4_doubleBits_135 ?_
          refine zJ.dcmp dX4_doubleBits_136 ?_
          refine zJ.if_ge (tgt := 149) dX4_doubleBits_137 (by decide) (fun c11 => ?_) (fun c11 => ?_)
          · replace h := h.1 c11
            refine zJ.lload 0 dX4_doubleBits_149 rfl ?_
            exact zG.ret (r := some (.long ((x4 <<< (52.toInt64 &&& 63)) ||| (FP.d2l (FP.dmul (FP.dsub x2 FP.dconst1) (4841369599423283200 : UInt64)))))) ⟨dX4_doubleBits_151, rfl⟩ h
          · replace h := h.2 c11
            refine zJ.lload 0 dX4_doubleBits_140 rfl ?_
            refine zJ.ldc2 lc_X4_237 dX4_doubleBits_142 ?_
            refine zJ.lor dX4_doubleBits_145 ?_
            refine zJ.goto (tgt := 151) dX4_doubleBits_146 (by decide) ?_
            exact zG.ret (r := some (.long (((x4 <<< (52.toInt64 &&& 63)) ||| (FP.d2l (FP.dmul (FP.dsub x2 FP.dconst1) (4841369599423283200 : UInt64)))) ||| (-9223372036854775808 : Int64)))) ⟨dX4_doubleBits_151, rfl⟩ h
        · replace h := h.2 c10
          refine zJ.dload_n 1 dX4_doubleBits_109 rfl rfl ?_
          refine zJ.ldc2d lc_X4_235 dX4_doubleBits_110 ?_
          obtain ⟨hq, h⟩ := h
          refine zJ.dmul dX4_doubleBits_113 hq ?_
          refine zJ.d2l dX4_doubleBits_114 ?_
          refine zJ.goto (tgt := 132) dX4_doubleBits_115 (by decide) ?_
          refine zJ.lstore (lv' := [(6, .long (FP.d2l (FP.dmul x2 (4841369599423283200 : UInt64)))), (0, .double x0), (2, .double x2), (4, .long x4)]) dX4_doubleBits_132 (Nat.le_of_ble_eq_true rfl) rfl ?_
          refine zJ.dload_n 1 dX4_doubleBits_134 rfl rfl ?_
          refine zJ.dconst0 dX4_doubleBits_135 ?_
          refine zJ.dcmp dX4_doubleBits_136 ?_
          refine zJ.if_ge (tgt := 149) dX4_doubleBits_137 (by decide) (fun c12 => ?_) (fun c12 => ?_)
          · replace h := h.1 c12
            refine zJ.lload 0 dX4_doubleBits_149 rfl ?_
            exact zG.ret (r := some (.long (FP.d2l (FP.dmul x2 (4841369599423283200 : UInt64))))) ⟨dX4_doubleBits_151, rfl⟩ h
          · replace h := h.2 c12
            refine zJ.lload 0 dX4_doubleBits_140 rfl ?_
            refine zJ.ldc2 lc_X4_237 dX4_doubleBits_142 ?_
            refine zJ.lor dX4_doubleBits_145 ?_
            refine zJ.goto (tgt := 151) dX4_doubleBits_146 (by decide) ?_
            exact zG.ret (r := some (.long ((FP.d2l (FP.dmul x2 (4841369599423283200 : UInt64))) ||| (-9223372036854775808 : Int64)))) ⟨dX4_doubleBits_151, rfl⟩ h
      · replace h := h.2 c9
        refine zJ.lload 2 dX4_doubleBits_78 rfl ?_
        refine zJ.lconst (v := 1) dX4_doubleBits_80 (by decide) ?_
        refine zJ.lcmp dX4_doubleBits_81 ?_
        refine zJ.if_le (tgt := 103) dX4_doubleBits_82 (by decide) (fun c13 => ?_) (fun c13 => ?_)
        · replace h := h.1 c13
          refine zJ.dload_n 1 dX4_doubleBits_103 rfl rfl ?_
          refine zJ.dconst1 dX4_doubleBits_104 ?_
          refine zJ.dcmp dX4_doubleBits_105 ?_
          refine zJ.if_ge (tgt := 118) dX4_doubleBits_106 (by decide) (fun c14 => ?_) (fun c14 => ?_)
          · replace h := h.1 c14
            refine zJ.lload 2 dX4_doubleBits_118 rfl ?_
            refine zJ.bipush (v := 52) dX4_doubleBits_120 (by decide) ?_
            refine zJ.lshl dX4_doubleBits_122 ?_
            refine zJ.dload_n 1 dX4_doubleBits_123 rfl rfl ?_
            refine zJ.dconst1 dX4_doubleBits_124 ?_
            obtain ⟨hq, h⟩ := h
            refine zJ.dsub dX4_doubleBits_125 hq ?_
            refine zJ.ldc2d lc_X4_235 dX4_doubleBits_126 ?_
            obtain ⟨hq, h⟩ := h
            refine zJ.dmul dX4_doubleBits_129 hq ?_
            refine zJ.d2l dX4_doubleBits_130 ?_
            refine zJ.lor dX4_doubleBits_131 ?_
            refine zJ.lstore (lv' := [(6, .long ((x4 <<< (52.toInt64 &&& 63)) ||| (FP.d2l (FP.dmul (FP.dsub x2 FP.dconst1) (4841369599423283200 : UInt64))))), (0, .double x0), (2, .double x2), (4, .long x4)]) dX4_doubleBits_132 (Nat.le_of_ble_eq_true rfl) rfl ?_
            refine zJ.dload_n 1 dX4_doubleBits_134 rfl rfl ?_
            refine zJ.dconst0 dX4_doubleBits_135 ?_
            refine zJ.dcmp dX4_doubleBits_136 ?_
            refine zJ.if_ge (tgt := 149) dX4_doubleBits_137 (by decide) (fun c15 => ?_) (fun c15 => ?_)
            · replace h := h.1 c15
              refine zJ.lload 0 dX4_doubleBits_149 rfl ?_
              exact zG.ret (r := some (.long ((x4 <<< (52.toInt64 &&& 63)) ||| (FP.d2l (FP.dmul (FP.dsub x2 FP.dconst1) (4841369599423283200 : UInt64)))))) ⟨dX4_doubleBits_151, rfl⟩ h
            · replace h := h.2 c15
              refine zJ.lload 0 dX4_doubleBits_140 rfl ?_
              refine zJ.ldc2 lc_X4_237 dX4_doubleBits_142 ?_
              refine zJ.lor dX4_doubleBits_145 ?_
              refine zJ.goto (tgt := 151) dX4_doubleBits_146 (by decide) ?_
              exact zG.ret (r := some (.long (((x4 <<< (52.toInt64 &&& 63)) ||| (FP.d2l (FP.dmul (FP.dsub x2 FP.dconst1) (4841369599423283200 : UInt64)))) ||| (-9223372036854775808 : Int64)))) ⟨dX4_doubleBits_151, rfl⟩ h
          · replace h := h.2 c14
            refine zJ.dload_n 1 dX4_doubleBits_109 rfl rfl ?_
            refine zJ.ldc2d lc_X4_235 dX4_doubleBits_110 ?_
            obtain ⟨hq, h⟩ := h
            refine zJ.dmul dX4_doubleBits_113 hq ?_
            refine zJ.d2l dX4_doubleBits_114 ?_
            refine zJ.goto (tgt := 132) dX4_doubleBits_115 (by decide) ?_
            refine zJ.lstore (lv' := [(6, .long (FP.d2l (FP.dmul x2 (4841369599423283200 : UInt64)))), (0, .double x0), (2, .double x2), (4, .long x4)]) dX4_doubleBits_132 (Nat.le_of_ble_eq_true rfl) rfl ?_
            refine zJ.dload_n 1 dX4_doubleBits_134 rfl rfl ?_
            refine zJ.dconst0 dX4_doubleBits_135 ?_
            refine zJ.dcmp dX4_doubleBits_136 ?_
            refine zJ.if_ge (tgt := 149) dX4_doubleBits_137 (by decide) (fun c16 => ?_) (fun c16 => ?_)
            · replace h := h.1 c16
              refine zJ.lload 0 dX4_doubleBits_149 rfl ?_
              exact zG.ret (r := some (.long (FP.d2l (FP.dmul x2 (4841369599423283200 : UInt64))))) ⟨dX4_doubleBits_151, rfl⟩ h
            · replace h := h.2 c16
              refine zJ.lload 0 dX4_doubleBits_140 rfl ?_
              refine zJ.ldc2 lc_X4_237 dX4_doubleBits_142 ?_
              refine zJ.lor dX4_doubleBits_145 ?_
              refine zJ.goto (tgt := 151) dX4_doubleBits_146 (by decide) ?_
              exact zG.ret (r := some (.long ((FP.d2l (FP.dmul x2 (4841369599423283200 : UInt64))) ||| (-9223372036854775808 : Int64)))) ⟨dX4_doubleBits_151, rfl⟩ h
        · replace h := h.2 c13
          refine zJ.dload_n 1 dX4_doubleBits_85 rfl rfl ?_
          refine zJ.ldc2d lc_X4_231 dX4_doubleBits_86 ?_
          obtain ⟨hq, h⟩ := h
          refine zJ.dmul dX4_doubleBits_89 hq ?_
          refine zJ.dstore_n (lv' := [(2, .double (FP.dmul x2 (4611686018427387904 : UInt64))), (0, .double x0), (4, .long x4), (6, .int x6)]) dX4_doubleBits_90 rfl (Nat.le_of_ble_eq_true rfl) rfl ?_
          refine zJ.lload 2 dX4_doubleBits_91 rfl ?_
          refine zJ.lconst (v := 1) dX4_doubleBits_93 (by decide) ?_
          refine zJ.lsub dX4_doubleBits_94 ?_
          refine zJ.lstore (lv' := [(4, .long (x4 - 1)), (2, .double (FP.dmul x2 (4611686018427387904 : UInt64))), (0, .double x0), (6, .int x6)]) dX4_doubleBits_95 (Nat.le_of_ble_eq_true rfl) rfl ?_
          refine zJ.iinc (k := 3) (lv' := [(6, .int (x6 + 1)), (4, .long (x4 - 1)), (2, .double (FP.dmul x2 (4611686018427387904 : UInt64))), (0, .double x0)]) dX4_doubleBits_97 rfl rfl (Nat.le_of_ble_eq_true rfl) rfl ?_
          refine zJ.goto (tgt := 58) dX4_doubleBits_100 (by decide) ?_
          exact zJ.sub [3, 2, 1, 0] rfl h
