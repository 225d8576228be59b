set_option maxRecDepth 100000 in
set_option maxHeartbeats 4000000 in
theorem w_X4_sets_0 (o : zW) (x1 : Int32) (x2 : Int32) (S : zS) (Q : Option Value → zS → Prop) (h : (x1 < 0 → (zGi o 994 mdX4_refuse [.ref (z_adr o (0, 0, 0)), .int (-2)] S (fun r3 S4 => Q (some (.int r3)) S4))) ∧ (¬ x1 < 0 → ((5 ≤ x1 → (zGi o 994 mdX4_refuse [.ref (z_adr o (0, 0, 0)), .int (-2)] S (fun r7 S8 => Q (some (.int r7)) S8))) ∧ (¬ 5 ≤ x1 → (vp_in x1 5 ∧ ((x2 < (z_st 1 x1.toNatClampNeg) → (zGi o 994 mdX4_refuse [.ref (z_adr o (0, 0, 0)), .int (-2)] S (fun r11 S12 => Q (some (.int r11)) S12))) ∧ (¬ x2 < (z_st 1 x1.toNatClampNeg) → (vp_in x1 5 ∧ ((x2 ≤ (z_st 2 x1.toNatClampNeg) → (zGv o 994 mdX4_keep [.ref (z_adr o (0, 0, 0))] S (fun S16 => vp_in x1 5 ∧ (vp_in x1 5 ∧ (zGv o 994 mdX2_renew [.ref (z_adr o (1, 0, 0))] (sI S16 (2, 0, 0) (x1.toNatClampNeg) x2) (fun S19 => Q (some (.int (S16.1 (2, 0, 0) x1.toNatClampNeg))) S19)))))) ∧ (¬ x2 ≤ (z_st 2 x1.toNatClampNeg) → (zGi o 994 mdX4_refuse [.ref (z_adr o (0, 0, 0)), .int (-2)] S (fun r21 S22 => Q (some (.int r21)) S22)))))))))))) : zG o 994 mdX4_sets 0 [(0, .ref (z_adr o (0, 0, 0))), (1, .int x1), (2, .int x2)] [] S Q := by
  show zJ o mdX4_sets 0 _ [] (994, z_enc o S) 0 0 _
  refine zJ.iload_n (pc := 0) 1 dX4_sets_0 rfl rfl ?_
  refine zJ.if_lt (pc := 1) (tgt := 30) dX4_sets_1 (by decide) (fun c1 => ?_) (fun c1 => ?_)
  · replace h := h.1 c1
    refine zJ.aload_n (pc := 30) 0 dX4_sets_30 rfl rfl ?_
    refine zJ.bipush (pc := 31) (v := (-2)) dX4_sets_31 (by decide) ?_
    refine zG.callVi (d := mdX4_sets) (pc := 33) [.int (-2)] [] (ob_0 o) ok_0 rfl dX4_sets_33 ⟨(cb_X4_refuse).1, (cb_X4_refuse).2, (Nat.le_of_ble_eq_true rfl), (Nat.le_of_ble_eq_true rfl)⟩ ml_X4_47 ci_X4_refuse cv_X4_refuse rfl (Nat.le_of_ble_eq_true rfl) (Nat.le_of_ble_eq_true rfl) rfl h (fun r3 S4 h2 => ?_)
    replace h := h2
    clear h2
    exact zG.ret (pc := 36) (r := some (.int r3)) ⟨dX4_sets_36, _, rfl, rfl⟩ h
  · replace h := h.2 c1
    refine zJ.iload_n (pc := 4) 1 dX4_sets_4 rfl rfl ?_
    refine zJ.gets (pc := 5) (i := 1) (by decide) fl_X4_41 dX4_sets_5 ?_
    refine zJ.slen (pc := 8) (i := 1) (by decide) dX4_sets_8 ?_
    refine zJ.icmp_ge (pc := 9) (tgt := 30) dX4_sets_9 (by decide) (fun c5 => ?_) (fun c5 => ?_)
    · replace h := h.1 c5
      refine zJ.aload_n (pc := 30) 0 dX4_sets_30 rfl rfl ?_
      refine zJ.bipush (pc := 31) (v := (-2)) dX4_sets_31 (by decide) ?_
      refine zG.callVi (d := mdX4_sets) (pc := 33) [.int (-2)] [] (ob_0 o) ok_0 rfl dX4_sets_33 ⟨(cb_X4_refuse).1, (cb_X4_refuse).2, (Nat.le_of_ble_eq_true rfl), (Nat.le_of_ble_eq_true rfl)⟩ ml_X4_47 ci_X4_refuse cv_X4_refuse rfl (Nat.le_of_ble_eq_true rfl) (Nat.le_of_ble_eq_true rfl) rfl h (fun r7 S8 h2 => ?_)
      replace h := h2
      clear h2
      exact zG.ret (pc := 36) (r := some (.int r7)) ⟨dX4_sets_36, _, rfl, rfl⟩ h
    · replace h := h.2 c5
      refine zJ.iload_n (pc := 12) 2 dX4_sets_12 rfl rfl ?_
      refine zJ.gets (pc := 13) (i := 1) (by decide) fl_X4_41 dX4_sets_13 ?_
      refine zJ.iload_n (pc := 16) 1 dX4_sets_16 rfl rfl ?_
      obtain ⟨hq, h⟩ := h
      refine zJ.sald (pc := 17) (i := 1) (by decide) dX4_sets_17 hq ?_
      refine zJ.icmp_lt (pc := 18) (tgt := 30) dX4_sets_18 (by decide) (fun c9 => ?_) (fun c9 => ?_)
      · replace h := h.1 c9
        refine zJ.aload_n (pc := 30) 0 dX4_sets_30 rfl rfl ?_
        refine zJ.bipush (pc := 31) (v := (-2)) dX4_sets_31 (by decide) ?_
        refine zG.callVi (d := mdX4_sets) (pc := 33) [.int (-2)] [] (ob_0 o) ok_0 rfl dX4_sets_33 ⟨(cb_X4_refuse).1, (cb_X4_refuse).2, (Nat.le_of_ble_eq_true rfl), (Nat.le_of_ble_eq_true rfl)⟩ ml_X4_47 ci_X4_refuse cv_X4_refuse rfl (Nat.le_of_ble_eq_true rfl) (Nat.le_of_ble_eq_true rfl) rfl h (fun r11 S12 h2 => ?_)
        replace h := h2
        clear h2
        exact zG.ret (pc := 36) (r := some (.int r11)) ⟨dX4_sets_36, _, rfl, rfl⟩ h
      · replace h := h.2 c9
        refine zJ.iload_n (pc := 21) 2 dX4_sets_21 rfl rfl ?_
        refine zJ.gets (pc := 22) (i := 2) (by decide) fl_X4_44 dX4_sets_22 ?_
        refine zJ.iload_n (pc := 25) 1 dX4_sets_25 rfl rfl ?_
        obtain ⟨hq, h⟩ := h
        refine zJ.sald (pc := 26) (i := 2) (by decide) dX4_sets_26 hq ?_
        refine zJ.icmp_le (pc := 27) (tgt := 37) dX4_sets_27 (by decide) (fun c13 => ?_) (fun c13 => ?_)
        · replace h := h.1 c13
          refine zJ.aload_n (pc := 37) 0 dX4_sets_37 rfl rfl ?_
          refine zG.callVv (d := mdX4_sets) (pc := 38) [] [] (ob_0 o) ok_0 rfl dX4_sets_38 ⟨(cb_X4_keep).1, (cb_X4_keep).2, (Nat.le_of_ble_eq_true rfl), (Nat.le_of_ble_eq_true rfl)⟩ ml_X4_51 ci_X4_keep cv_X4_keep rfl (Nat.le_of_ble_eq_true rfl) (Nat.le_of_ble_eq_true rfl) rfl h (fun S16 h2 => ?_)
          replace h := h2
          clear h2
          refine zJ.aload_n (pc := 41) 0 dX4_sets_41 rfl rfl ?_
          refine zE.getV (pc := 42) (fd_0_0 o) ok_0 kiX4 (Nat.le_of_ble_eq_true rfl) fl_X4_10 dX4_sets_42 ?_
          refine zE.getV (pc := 45) (fd_1_0 o 0) (ok_1 (show 0 < 8 by decide) (z_sb_le (show 0 < 8 by decide))) kiX2 (Nat.le_of_ble_eq_true rfl) fl_X4_54 dX4_sets_45 ?_
          refine zJ.iload_n (pc := 48) 1 dX4_sets_48 rfl rfl ?_
          obtain ⟨hq, h⟩ := h
          refine zE.aldI (pc := 49) (ia_2 o 0) (ok_2 (show 0 < 8 by decide) (z_sb_le (show 0 < 8 by decide))) hq dX4_sets_49 ?_
          refine zJ.istore_n (pc := 50) (lv' := [(3, .int (S16.1 (2, 0, 0) x1.toNatClampNeg)), (0, .ref (z_adr o (0, 0, 0))), (1, .int x1), (2, .int x2)]) dX4_sets_50 rfl (Nat.le_of_ble_eq_true rfl) rfl ?_
          refine zJ.aload_n (pc := 51) 1 dX4_sets_51 rfl rfl ?_
          refine zE.getV (pc := 52) (fd_0_0 o) ok_0 kiX4 (Nat.le_of_ble_eq_true rfl) fl_X4_10 dX4_sets_52 ?_
          refine zE.getV (pc := 55) (fd_1_0 o 0) (ok_1 (show 0 < 8 by decide) (z_sb_le (show 0 < 8 by decide))) kiX2 (Nat.le_of_ble_eq_true rfl) fl_X4_54 dX4_sets_55 ?_
          refine zJ.iload_n (pc := 58) 2 dX4_sets_58 rfl rfl ?_
          refine zJ.iload_n (pc := 59) 3 dX4_sets_59 rfl rfl ?_
          obtain ⟨hq, h⟩ := h
          refine zE.astI (pc := 60) (ia_2 o 0) (ok_2 (show 0 < 8 by decide) (z_sb_le (show 0 < 8 by decide))) hq dX4_sets_60 ?_
          refine zJ.aload_n (pc := 61) 1 dX4_sets_61 rfl rfl ?_
          refine zE.getV (pc := 62) (fd_0_0 o) ok_0 kiX4 (Nat.le_of_ble_eq_true rfl) fl_X4_10 dX4_sets_62 ?_
          refine zG.callVv (d := mdX4_sets) (pc := 65) [] [] (ob_1 o 0) (ok_1 (show 0 < 8 by decide) (z_sb_le (show 0 < 8 by decide))) rfl dX4_sets_65 ⟨(cb_X2_renew).1, (cb_X2_renew).2, (Nat.le_of_ble_eq_true rfl), (Nat.le_of_ble_eq_true rfl)⟩ ml_X4_57 ci_X2_renew cv_X2_renew rfl (Nat.le_of_ble_eq_true rfl) (Nat.le_of_ble_eq_true rfl) rfl h (fun S19 h2 => ?_)
          replace h := h2
          clear h2
          refine zJ.iload_n (pc := 68) 0 dX4_sets_68 rfl rfl ?_
          exact zG.ret (pc := 69) (r := some (.int (S16.1 (2, 0, 0) x1.toNatClampNeg))) ⟨dX4_sets_69, _, rfl, rfl⟩ h
        · replace h := h.2 c13
          refine zJ.aload_n (pc := 30) 0 dX4_sets_30 rfl rfl ?_
          refine zJ.bipush (pc := 31) (v := (-2)) dX4_sets_31 (by decide) ?_
          refine zG.callVi (d := mdX4_sets) (pc := 33) [.int (-2)] [] (ob_0 o) ok_0 rfl dX4_sets_33 ⟨(cb_X4_refuse).1, (cb_X4_refuse).2, (Nat.le_of_ble_eq_true rfl), (Nat.le_of_ble_eq_true rfl)⟩ ml_X4_47 ci_X4_refuse cv_X4_refuse rfl (Nat.le_of_ble_eq_true rfl) (Nat.le_of_ble_eq_true rfl) rfl h (fun r21 S22 h2 => ?_)
          replace h := h2
          clear h2
          exact zG.ret (pc := 36) (r := some (.int r21)) ⟨dX4_sets_36, _, rfl, rfl⟩ h
set_option maxRecDepth 100000 in
set_option maxHeartbeats 4000000 in
theorem w_X4_anew_0 (o : zW)  (S : zS) (Q : Option Value → zS → Prop) (h : zGv o 994 mdX4_keep [.ref (z_adr o (0, 0, 0))] S (fun S3 => zGv o 994 mdX2_renew [.ref (z_adr o (1, 0, 0))] S3 (fun S6 => Q (some (.int (S3.1 (3, 0, 0) 9))) S6))) : zG o 994 mdX4_anew 0 [(0, .ref (z_adr o (0, 0, 0)))] [] S Q := by
  show zJ o mdX4_anew 0 _ [] (994, z_enc o S) 0 0 _
  refine zJ.aload_n (pc := 0) 0 dX4_anew_0 rfl rfl ?_
  refine zG.callVv (d := mdX4_anew) (pc := 1) [] [] (ob_0 o) ok_0 rfl dX4_anew_1 ⟨(cb_X4_keep).1, (cb_X4_keep).2, (Nat.le_of_ble_eq_true rfl), (Nat.le_of_ble_eq_true rfl)⟩ ml_X4_51 ci_X4_keep cv_X4_keep rfl (Nat.le_of_ble_eq_true rfl) (Nat.le_of_ble_eq_true rfl) rfl h (fun S3 h2 => ?_)
  replace h := h2
  clear h2
  refine zJ.aload_n (pc := 4) 0 dX4_anew_4 rfl rfl ?_
  refine zE.getV (pc := 5) (fd_0_0 o) ok_0 kiX4 (Nat.le_of_ble_eq_true rfl) fl_X4_10 dX4_anew_5 ?_
  refine zE.getV (pc := 8) (fd_1_1 o 0) (ok_1 (show 0 < 8 by decide) (z_sb_le (show 0 < 8 by decide))) kiX2 (Nat.le_of_ble_eq_true rfl) fl_X4_60 dX4_anew_8 ?_
  refine zJ.bipush (pc := 11) (v := 9) dX4_anew_11 (by decide) ?_
  refine zE.aldI (pc := 13) (ia_3 o 0) (ok_3 (show 0 < 8 by decide) (z_sb_le (show 0 < 8 by decide))) (by unfold vp_in; decide) dX4_anew_13 ?_
  refine zJ.istore_n (pc := 14) (lv' := [(1, .int (S3.1 (3, 0, 0) 9)), (0, .ref (z_adr o (0, 0, 0)))]) dX4_anew_14 rfl (Nat.le_of_ble_eq_true rfl) rfl ?_
  refine zJ.aload_n (pc := 15) 1 dX4_anew_15 rfl rfl ?_
  refine zE.getV (pc := 16) (fd_0_0 o) ok_0 kiX4 (Nat.le_of_ble_eq_true rfl) fl_X4_10 dX4_anew_16 ?_
  refine zG.callVv (d := mdX4_anew) (pc := 19) [] [] (ob_1 o 0) (ok_1 (show 0 < 8 by decide) (z_sb_le (show 0 < 8 by decide))) rfl dX4_anew_19 ⟨(cb_X2_renew).1, (cb_X2_renew).2, (Nat.le_of_ble_eq_true rfl), (Nat.le_of_ble_eq_true rfl)⟩ ml_X4_57 ci_X2_renew cv_X2_renew rfl (Nat.le_of_ble_eq_true rfl) (Nat.le_of_ble_eq_true rfl) rfl h (fun S6 h2 => ?_)
  replace h := h2
  clear h2
  refine zJ.iload_n (pc := 22) 0 dX4_anew_22 rfl rfl ?_
  exact zG.ret (pc := 23) (r := some (.int (S3.1 (3, 0, 0) 9))) ⟨dX4_anew_23, _, rfl, rfl⟩ h
set_option maxRecDepth 100000 in
set_option maxHeartbeats 4000000 in
theorem w_X4_load_0 (o : zW) (x1 : Int32) (x2 : Int32) (S : zS) (Q : Option Value → zS → Prop) (h : zGi o 994 mdX4_isBox [.int x1] S (fun r2 S3 => (r2 = 0 → (zGi o 994 mdX4_refuse [.ref (z_adr o (0, 0, 0)), .int (-2)] S3 (fun r6 S7 => Q (some (.int r6)) S7))) ∧ (¬ r2 = 0 → (zGi o 994 mdX4_isItem [.int x2] S3 (fun r9 S10 => (¬ r9 = 0 → (zGv o 994 mdX4_keep [.ref (z_adr o (0, 0, 0))] S10 (fun S14 => vp_in x1 16 ∧ (zGi o 994 mdX2_begin [.ref (z_adr o (1, 0, 0)), .ref (z_adr o (5, 0, x1.toNatClampNeg)), .int x2, .int (-1)] S14 (fun r17 S18 => Q (some (.int r17)) S18))))) ∧ (r9 = 0 → (zGi o 994 mdX4_refuse [.ref (z_adr o (0, 0, 0)), .int (-2)] S10 (fun r20 S21 => Q (some (.int r20)) S21)))))))) : zG o 994 mdX4_load 0 [(0, .ref (z_adr o (0, 0, 0))), (1, .int x1), (2, .int x2)] [] S Q := by
  show zJ o mdX4_load 0 _ [] (994, z_enc o S) 0 0 _
  refine zJ.iload_n (pc := 0) 1 dX4_load_0 rfl rfl ?_
  refine zG.callSi (d := mdX4_load) (pc := 1) [.int x1] [] dX4_load_1 ⟨(cb_X4_isBox).1, (cb_X4_isBox).2, (Nat.le_of_ble_eq_true rfl), (Nat.le_of_ble_eq_true rfl)⟩ ml_X4_63 cs_X4_isBox rfl (Nat.le_of_ble_eq_true rfl) (Nat.le_of_ble_eq_true rfl) rfl h (fun r2 S3 h2 => ?_)
  replace h := h2
  clear h2
  refine zJ.if_eq (pc := 4) (tgt := 14) dX4_load_4 (by decide) (fun c4 => ?_) (fun c4 => ?_)
  · replace h := h.1 c4
    refine zJ.aload_n (pc := 14) 0 dX4_load_14 rfl rfl ?_
    refine zJ.bipush (pc := 15) (v := (-2)) dX4_load_15 (by decide) ?_
    refine zG.callVi (d := mdX4_load) (pc := 17) [.int (-2)] [] (ob_0 o) ok_0 rfl dX4_load_17 ⟨(cb_X4_refuse).1, (cb_X4_refuse).2, (Nat.le_of_ble_eq_true rfl), (Nat.le_of_ble_eq_true rfl)⟩ ml_X4_47 ci_X4_refuse cv_X4_refuse rfl (Nat.le_of_ble_eq_true rfl) (Nat.le_of_ble_eq_true rfl) rfl h (fun r6 S7 h2 => ?_)
    replace h := h2
    clear h2
    exact zG.ret (pc := 20) (r := some (.int r6)) ⟨dX4_load_20, _, rfl, rfl⟩ h
  · replace h := h.2 c4
    refine zJ.iload_n (pc := 7) 2 dX4_load_7 rfl rfl ?_
    refine zG.callSi (d := mdX4_load) (pc := 8) [.int x2] [] dX4_load_8 ⟨(cb_X4_isItem).1, (cb_X4_isItem).2, (Nat.le_of_ble_eq_true rfl), (Nat.le_of_ble_eq_true rfl)⟩ ml_X4_67 cs_X4_isItem rfl (Nat.le_of_ble_eq_true rfl) (Nat.le_of_ble_eq_true rfl) rfl h (fun r9 S10 h2 => ?_)
    replace h := h2
    clear h2
    refine zJ.if_ne (pc := 11) (tgt := 21) dX4_load_11 (by decide) (fun c11 => ?_) (fun c11 => ?_)
    · replace h := h.1 c11
      refine zJ.aload_n (pc := 21) 0 dX4_load_21 rfl rfl ?_
      refine zG.callVv (d := mdX4_load) (pc := 22) [] [] (ob_0 o) ok_0 rfl dX4_load_22 ⟨(cb_X4_keep).1, (cb_X4_keep).2, (Nat.le_of_ble_eq_true rfl), (Nat.le_of_ble_eq_true rfl)⟩ ml_X4_51 ci_X4_keep cv_X4_keep rfl (Nat.le_of_ble_eq_true rfl) (Nat.le_of_ble_eq_true rfl) rfl h (fun S14 h2 => ?_)
      replace h := h2
      clear h2
      refine zJ.aload_n (pc := 25) 0 dX4_load_25 rfl rfl ?_
      refine zE.getV (pc := 26) (fd_0_0 o) ok_0 kiX4 (Nat.le_of_ble_eq_true rfl) fl_X4_10 dX4_load_26 ?_
      refine zJ.aload_n (pc := 29) 0 dX4_load_29 rfl rfl ?_
      refine zE.getV (pc := 30) (fd_0_0 o) ok_0 kiX4 (Nat.le_of_ble_eq_true rfl) fl_X4_10 dX4_load_30 ?_
      refine zE.getV (pc := 33) (fd_1_2 o 0) (ok_1 (show 0 < 8 by decide) (z_sb_le (show 0 < 8 by decide))) kiX2 (Nat.le_of_ble_eq_true rfl) fl_X4_70 dX4_load_33 ?_
      refine zJ.iload_n (pc := 36) 1 dX4_load_36 rfl rfl ?_
      obtain ⟨hq15, h⟩ := h
      refine zE.aldB (pc := 37) (ok_4 (show 0 < 8 by decide) (z_sb_le (show 0 < 8 by decide))) hq15 dX4_load_37 ?_
      refine zJ.iload_n (pc := 38) 2 dX4_load_38 rfl rfl ?_
      refine zJ.iconst (pc := 39) (v := (-1)) dX4_load_39 (by decide) ?_
      refine zG.callVi (d := mdX4_load) (pc := 40) [.ref (z_adr o (5, 0, x1.toNatClampNeg)), .int x2, .int (-1)] [] (ob_1 o 0) (ok_1 (show 0 < 8 by decide) (z_sb_le (show 0 < 8 by decide))) rfl dX4_load_40 ⟨(cb_X2_begin).1, (cb_X2_begin).2, (Nat.le_of_ble_eq_true rfl), (Nat.le_of_ble_eq_true rfl)⟩ ml_X4_74 ci_X2_begin cv_X2_begin rfl (Nat.le_of_ble_eq_true rfl) (Nat.le_of_ble_eq_true rfl) rfl h (fun r17 S18 h2 => ?_)
      replace h := h2
      clear h2
      exact zG.ret (pc := 43) (r := some (.int r17)) ⟨dX4_load_43, _, rfl, rfl⟩ h
    · replace h := h.2 c11
      refine zJ.aload_n (pc := 14) 0 dX4_load_14 rfl rfl ?_
      refine zJ.bipush (pc := 15) (v := (-2)) dX4_load_15 (by decide) ?_
      refine zG.callVi (d := mdX4_load) (pc := 17) [.int (-2)] [] (ob_0 o) ok_0 rfl dX4_load_17 ⟨(cb_X4_refuse).1, (cb_X4_refuse).2, (Nat.le_of_ble_eq_true rfl), (Nat.le_of_ble_eq_true rfl)⟩ ml_X4_47 ci_X4_refuse cv_X4_refuse rfl (Nat.le_of_ble_eq_true rfl) (Nat.le_of_ble_eq_true rfl) rfl h (fun r20 S21 h2 => ?_)
      replace h := h2
      clear h2
      exact zG.ret (pc := 20) (r := some (.int r20)) ⟨dX4_load_20, _, rfl, rfl⟩ h
set_option maxRecDepth 100000 in
set_option maxHeartbeats 4000000 in
theorem w_X4_store_0 (o : zW) (x1 : Int32) (x2 : Int32) (x3 : Int32) (S : zS) (Q : Option Value → zS → Prop) (h : zGi o 994 mdX4_isBox [.int x1] S (fun r2 S3 => (r2 = 0 → (zGi o 994 mdX4_refuse [.ref (z_adr o (0, 0, 0)), .int (-2)] S3 (fun r6 S7 => Q (some (.int r6)) S7))) ∧ (¬ r2 = 0 → (zGi o 994 mdX4_isItem [.int x2] S3 (fun r9 S10 => (r9 = 0 → (zGi o 994 mdX4_refuse [.ref (z_adr o (0, 0, 0)), .int (-2)] S10 (fun r13 S14 => Q (some (.int r13)) S14))) ∧ (¬ r9 = 0 → ((x3 < 0 → (zGi o 994 mdX4_refuse [.ref (z_adr o (0, 0, 0)), .int (-2)] S10 (fun r17 S18 => Q (some (.int r17)) S18))) ∧ (¬ x3 < 0 → ((x3 ≤ 99 → (zGv o 994 mdX4_keep [.ref (z_adr o (0, 0, 0))] S10 (fun S22 => vp_in x1 16 ∧ (zGi o 994 mdX2_begin [.ref (z_adr o (1, 0, 0)), .ref (z_adr o (5, 0, x1.toNatClampNeg)), .int x2, .int x3] S22 (fun r25 S26 => Q (some (.int r25)) S26))))) ∧ (¬ x3 ≤ 99 → (zGi o 994 mdX4_refuse [.ref (z_adr o (0, 0, 0)), .int (-2)] S10 (fun r28 S29 => Q (some (.int r28)) S29)))))))))))) : zG o 994 mdX4_store 0 [(0, .ref (z_adr o (0, 0, 0))), (1, .int x1), (2, .int x2), (3, .int x3)] [] S Q := by
  show zJ o mdX4_store 0 _ [] (994, z_enc o S) 0 0 _
  refine zJ.iload_n (pc := 0) 1 dX4_store_0 rfl rfl ?_
  refine zG.callSi (d := mdX4_store) (pc := 1) [.int x1] [] dX4_store_1 ⟨(cb_X4_isBox).1, (cb_X4_isBox).2, (Nat.le_of_ble_eq_true rfl), (Nat.le_of_ble_eq_true rfl)⟩ ml_X4_63 cs_X4_isBox rfl (Nat.le_of_ble_eq_true rfl) (Nat.le_of_ble_eq_true rfl) rfl h (fun r2 S3 h2 => ?_)
  replace h := h2
  clear h2
  refine zJ.if_eq (pc := 4) (tgt := 24) dX4_store_4 (by decide) (fun c4 => ?_) (fun c4 => ?_)
  · replace h := h.1 c4
    refine zJ.aload_n (pc := 24) 0 dX4_store_24 rfl rfl ?_
    refine zJ.bipush (pc := 25) (v := (-2)) dX4_store_25 (by decide) ?_
    refine zG.callVi (d := mdX4_store) (pc := 27) [.int (-2)] [] (ob_0 o) ok_0 rfl dX4_store_27 ⟨(cb_X4_refuse).1, (cb_X4_refuse).2, (Nat.le_of_ble_eq_true rfl), (Nat.le_of_ble_eq_true rfl)⟩ ml_X4_47 ci_X4_refuse cv_X4_refuse rfl (Nat.le_of_ble_eq_true rfl) (Nat.le_of_ble_eq_true rfl) rfl h (fun r6 S7 h2 => ?_)
    replace h := h2
    clear h2
    exact zG.ret (pc := 30) (r := some (.int r6)) ⟨dX4_store_30, _, rfl, rfl⟩ h
  · replace h := h.2 c4
    refine zJ.iload_n (pc := 7) 2 dX4_store_7 rfl rfl ?_
    refine zG.callSi (d := mdX4_store) (pc := 8) [.int x2] [] dX4_store_8 ⟨(cb_X4_isItem).1, (cb_X4_isItem).2, (Nat.le_of_ble_eq_true rfl), (Nat.le_of_ble_eq_true rfl)⟩ ml_X4_67 cs_X4_isItem rfl (Nat.le_of_ble_eq_true rfl) (Nat.le_of_ble_eq_true rfl) rfl h (fun r9 S10 h2 => ?_)
    replace h := h2
    clear h2
    refine zJ.if_eq (pc := 11) (tgt := 24) dX4_store_11 (by decide) (fun c11 => ?_) (fun c11 => ?_)
    · replace h := h.1 c11
      refine zJ.aload_n (pc := 24) 0 dX4_store_24 rfl rfl ?_
      refine zJ.bipush (pc := 25) (v := (-2)) dX4_store_25 (by decide) ?_
      refine zG.callVi (d := mdX4_store) (pc := 27) [.int (-2)] [] (ob_0 o) ok_0 rfl dX4_store_27 ⟨(cb_X4_refuse).1, (cb_X4_refuse).2, (Nat.le_of_ble_eq_true rfl), (Nat.le_of_ble_eq_true rfl)⟩ ml_X4_47 ci_X4_refuse cv_X4_refuse rfl (Nat.le_of_ble_eq_true rfl) (Nat.le_of_ble_eq_true rfl) rfl h (fun r13 S14 h2 => ?_)
      replace h := h2
      clear h2
      exact zG.ret (pc := 30) (r := some (.int r13)) ⟨dX4_store_30, _, rfl, rfl⟩ h
    · replace h := h.2 c11
      refine zJ.iload_n (pc := 14) 3 dX4_store_14 rfl rfl ?_
      refine zJ.if_lt (pc := 15) (tgt := 24) dX4_store_15 (by decide) (fun c15 => ?_) (fun c15 => ?_)
      · replace h := h.1 c15
        refine zJ.aload_n (pc := 24) 0 dX4_store_24 rfl rfl ?_
        refine zJ.bipush (pc := 25) (v := (-2)) dX4_store_25 (by decide) ?_
        refine zG.callVi (d := mdX4_store) (pc := 27) [.int (-2)] [] (ob_0 o) ok_0 rfl dX4_store_27 ⟨(cb_X4_refuse).1, (cb_X4_refuse).2, (Nat.le_of_ble_eq_true rfl), (Nat.le_of_ble_eq_true rfl)⟩ ml_X4_47 ci_X4_refuse cv_X4_refuse rfl (Nat.le_of_ble_eq_true rfl) (Nat.le_of_ble_eq_true rfl) rfl h (fun r17 S18 h2 => ?_)
        replace h := h2
        clear h2
        exact zG.ret (pc := 30) (r := some (.int r17)) ⟨dX4_store_30, _, rfl, rfl⟩ h
      · replace h := h.2 c15
        refine zJ.iload_n (pc := 18) 3 dX4_store_18 rfl rfl ?_
        refine zJ.bipush (pc := 19) (v := 99) dX4_store_19 (by decide) ?_
        refine zJ.icmp_le (pc := 21) (tgt := 31) dX4_store_21 (by decide) (fun c19 => ?_) (fun c19 => ?_)
        · replace h := h.1 c19
          refine zJ.aload_n (pc := 31) 0 dX4_store_31 rfl rfl ?_
          refine zG.callVv (d := mdX4_store) (pc := 32) [] [] (ob_0 o) ok_0 rfl dX4_store_32 ⟨(cb_X4_keep).1, (cb_X4_keep).2, (Nat.le_of_ble_eq_true rfl), (Nat.le_of_ble_eq_true rfl)⟩ ml_X4_51 ci_X4_keep cv_X4_keep rfl (Nat.le_of_ble_eq_true rfl) (Nat.le_of_ble_eq_true rfl) rfl h (fun S22 h2 => ?_)
          replace h := h2
          clear h2
          refine zJ.aload_n (pc := 35) 0 dX4_store_35 rfl rfl ?_
          refine zE.getV (pc := 36) (fd_0_0 o) ok_0 kiX4 (Nat.le_of_ble_eq_true rfl) fl_X4_10 dX4_store_36 ?_
          refine zJ.aload_n (pc := 39) 0 dX4_store_39 rfl rfl ?_
          refine zE.getV (pc := 40) (fd_0_0 o) ok_0 kiX4 (Nat.le_of_ble_eq_true rfl) fl_X4_10 dX4_store_40 ?_
          refine zE.getV (pc := 43) (fd_1_2 o 0) (ok_1 (show 0 < 8 by decide) (z_sb_le (show 0 < 8 by decide))) kiX2 (Nat.le_of_ble_eq_true rfl) fl_X4_70 dX4_store_43 ?_
          refine zJ.iload_n (pc := 46) 1 dX4_store_46 rfl rfl ?_
          obtain ⟨hq23, h⟩ := h
          refine zE.aldB (pc := 47) (ok_4 (show 0 < 8 by decide) (z_sb_le (show 0 < 8 by decide))) hq23 dX4_store_47 ?_
          refine zJ.iload_n (pc := 48) 2 dX4_store_48 rfl rfl ?_
          refine zJ.iload_n (pc := 49) 3 dX4_store_49 rfl rfl ?_
          refine zG.callVi (d := mdX4_store) (pc := 50) [.ref (z_adr o (5, 0, x1.toNatClampNeg)), .int x2, .int x3] [] (ob_1 o 0) (ok_1 (show 0 < 8 by decide) (z_sb_le (show 0 < 8 by decide))) rfl dX4_store_50 ⟨(cb_X2_begin).1, (cb_X2_begin).2, (Nat.le_of_ble_eq_true rfl), (Nat.le_of_ble_eq_true rfl)⟩ ml_X4_74 ci_X2_begin cv_X2_begin rfl (Nat.le_of_ble_eq_true rfl) (Nat.le_of_ble_eq_true rfl) rfl h (fun r25 S26 h2 => ?_)
          replace h := h2
          clear h2
          exact zG.ret (pc := 53) (r := some (.int r25)) ⟨dX4_store_53, _, rfl, rfl⟩ h
        · replace h := h.2 c19
          refine zJ.aload_n (pc := 24) 0 dX4_store_24 rfl rfl ?_
          refine zJ.bipush (pc := 25) (v := (-2)) dX4_store_25 (by decide) ?_
          refine zG.callVi (d := mdX4_store) (pc := 27) [.int (-2)] [] (ob_0 o) ok_0 rfl dX4_store_27 ⟨(cb_X4_refuse).1, (cb_X4_refuse).2, (Nat.le_of_ble_eq_true rfl), (Nat.le_of_ble_eq_true rfl)⟩ ml_X4_47 ci_X4_refuse cv_X4_refuse rfl (Nat.le_of_ble_eq_true rfl) (Nat.le_of_ble_eq_true rfl) rfl h (fun r28 S29 h2 => ?_)
          replace h := h2
          clear h2
          exact zG.ret (pc := 30) (r := some (.int r28)) ⟨dX4_store_30, _, rfl, rfl⟩ h
set_option maxRecDepth 100000 in
set_option maxHeartbeats 4000000 in
theorem w_X4_fence_0 (o : zW)  (S : zS) (Q : Option Value → zS → Prop) (h : zGv o 994 mdX4_keep [.ref (z_adr o (0, 0, 0))] S (fun S3 => zGi o 994 mdX2_begin [.ref (z_adr o (1, 0, 0)), .null, .int 0, .int (-1)] S3 (fun r5 S6 => Q (some (.int r5)) S6))) : zG o 994 mdX4_fence 0 [(0, .ref (z_adr o (0, 0, 0)))] [] S Q := by
  show zJ o mdX4_fence 0 _ [] (994, z_enc o S) 0 0 _
  refine zJ.aload_n (pc := 0) 0 dX4_fence_0 rfl rfl ?_
  refine zG.callVv (d := mdX4_fence) (pc := 1) [] [] (ob_0 o) ok_0 rfl dX4_fence_1 ⟨(cb_X4_keep).1, (cb_X4_keep).2, (Nat.le_of_ble_eq_true rfl), (Nat.le_of_ble_eq_true rfl)⟩ ml_X4_51 ci_X4_keep cv_X4_keep rfl (Nat.le_of_ble_eq_true rfl) (Nat.le_of_ble_eq_true rfl) rfl h (fun S3 h2 => ?_)
  replace h := h2
  clear h2
  refine zJ.aload_n (pc := 4) 0 dX4_fence_4 rfl rfl ?_
  refine zE.getV (pc := 5) (fd_0_0 o) ok_0 kiX4 (Nat.le_of_ble_eq_true rfl) fl_X4_10 dX4_fence_5 ?_
  refine zJ.null (pc := 8) dX4_fence_8 ?_
  refine zJ.iconst (pc := 9) (v := 0) dX4_fence_9 (by decide) ?_
  refine zJ.iconst (pc := 10) (v := (-1)) dX4_fence_10 (by decide) ?_
  refine zG.callVi (d := mdX4_fence) (pc := 11) [.null, .int 0, .int (-1)] [] (ob_1 o 0) (ok_1 (show 0 < 8 by decide) (z_sb_le (show 0 < 8 by decide))) rfl dX4_fence_11 ⟨(cb_X2_begin).1, (cb_X2_begin).2, (Nat.le_of_ble_eq_true rfl), (Nat.le_of_ble_eq_true rfl)⟩ ml_X4_74 ci_X2_begin cv_X2_begin rfl (Nat.le_of_ble_eq_true rfl) (Nat.le_of_ble_eq_true rfl) rfl h (fun r5 S6 h2 => ?_)
  replace h := h2
  clear h2
  exact zG.ret (pc := 14) (r := some (.int r5)) ⟨dX4_fence_14, _, rfl, rfl⟩ h
set_option maxRecDepth 100000 in
set_option maxHeartbeats 4000000 in
theorem w_X4_ticks_0 (o : zW) (x1 : Int32) (S : zS) (Q : Option Value → zS → Prop) (h : (x1 < 0 → (zGi o 994 mdX4_refuse [.ref (z_adr o (0, 0, 0)), .int (-2)] S (fun r3 S4 => Q (some (.int r3)) S4))) ∧ (¬ x1 < 0 → ((x1 ≤ 99 → (zGv o 994 mdX4_keep [.ref (z_adr o (0, 0, 0))] S (fun S8 => zGv o 994 mdX2_pause [.ref (z_adr o (1, 0, 0)), .int x1] S8 (fun S11 => Q (some (.int ((S11.1 (3, 0, 0) 8) - (S8.1 (3, 0, 0) 8)))) S11)))) ∧ (¬ x1 ≤ 99 → (zGi o 994 mdX4_refuse [.ref (z_adr o (0, 0, 0)), .int (-2)] S (fun r13 S14 => Q (some (.int r13)) S14)))))) : zG o 994 mdX4_ticks 0 [(0, .ref (z_adr o (0, 0, 0))), (1, .int x1)] [] S Q := by
  show zJ o mdX4_ticks 0 _ [] (994, z_enc o S) 0 0 _
  refine zJ.iload_n (pc := 0) 1 dX4_ticks_0 rfl rfl ?_
  refine zJ.if_lt (pc := 1) (tgt := 10) dX4_ticks_1 (by decide) (fun c1 => ?_) (fun c1 => ?_)
  · replace h := h.1 c1
    refine zJ.aload_n (pc := 10) 0 dX4_ticks_10 rfl rfl ?_
    refine zJ.bipush (pc := 11) (v := (-2)) dX4_ticks_11 (by decide) ?_
    refine zG.callVi (d := mdX4_ticks) (pc := 13) [.int (-2)] [] (ob_0 o) ok_0 rfl dX4_ticks_13 ⟨(cb_X4_refuse).1, (cb_X4_refuse).2, (Nat.le_of_ble_eq_true rfl), (Nat.le_of_ble_eq_true rfl)⟩ ml_X4_47 ci_X4_refuse cv_X4_refuse rfl (Nat.le_of_ble_eq_true rfl) (Nat.le_of_ble_eq_true rfl) rfl h (fun r3 S4 h2 => ?_)
    replace h := h2
    clear h2
    exact zG.ret (pc := 16) (r := some (.int r3)) ⟨dX4_ticks_16, _, rfl, rfl⟩ h
  · replace h := h.2 c1
    refine zJ.iload_n (pc := 4) 1 dX4_ticks_4 rfl rfl ?_
    refine zJ.bipush (pc := 5) (v := 99) dX4_ticks_5 (by decide) ?_
    refine zJ.icmp_le (pc := 7) (tgt := 17) dX4_ticks_7 (by decide) (fun c5 => ?_) (fun c5 => ?_)
    · replace h := h.1 c5
      refine zJ.aload_n (pc := 17) 0 dX4_ticks_17 rfl rfl ?_
      refine zG.callVv (d := mdX4_ticks) (pc := 18) [] [] (ob_0 o) ok_0 rfl dX4_ticks_18 ⟨(cb_X4_keep).1, (cb_X4_keep).2, (Nat.le_of_ble_eq_true rfl), (Nat.le_of_ble_eq_true rfl)⟩ ml_X4_51 ci_X4_keep cv_X4_keep rfl (Nat.le_of_ble_eq_true rfl) (Nat.le_of_ble_eq_true rfl) rfl h (fun S8 h2 => ?_)
      replace h := h2
      clear h2
      refine zJ.aload_n (pc := 21) 0 dX4_ticks_21 rfl rfl ?_
      refine zE.getV (pc := 22) (fd_0_0 o) ok_0 kiX4 (Nat.le_of_ble_eq_true rfl) fl_X4_10 dX4_ticks_22 ?_
      refine zE.getV (pc := 25) (fd_1_1 o 0) (ok_1 (show 0 < 8 by decide) (z_sb_le (show 0 < 8 by decide))) kiX2 (Nat.le_of_ble_eq_true rfl) fl_X4_60 dX4_ticks_25 ?_
      refine zJ.bipush (pc := 28) (v := 8) dX4_ticks_28 (by decide) ?_
      refine zE.aldI (pc := 30) (ia_3 o 0) (ok_3 (show 0 < 8 by decide) (z_sb_le (show 0 < 8 by decide))) (by unfold vp_in; decide) dX4_ticks_30 ?_
      refine zJ.istore_n (pc := 31) (lv' := [(2, .int (S8.1 (3, 0, 0) 8)), (0, .ref (z_adr o (0, 0, 0))), (1, .int x1)]) dX4_ticks_31 rfl (Nat.le_of_ble_eq_true rfl) rfl ?_
      refine zJ.aload_n (pc := 32) 1 dX4_ticks_32 rfl rfl ?_
      refine zE.getV (pc := 33) (fd_0_0 o) ok_0 kiX4 (Nat.le_of_ble_eq_true rfl) fl_X4_10 dX4_ticks_33 ?_
      refine zJ.iload_n (pc := 36) 2 dX4_ticks_36 rfl rfl ?_
      refine zG.callVv (d := mdX4_ticks) (pc := 37) [.int x1] [] (ob_1 o 0) (ok_1 (show 0 < 8 by decide) (z_sb_le (show 0 < 8 by decide))) rfl dX4_ticks_37 ⟨(cb_X2_pause).1, (cb_X2_pause).2, (Nat.le_of_ble_eq_true rfl), (Nat.le_of_ble_eq_true rfl)⟩ ml_X4_78 ci_X2_pause cv_X2_pause rfl (Nat.le_of_ble_eq_true rfl) (Nat.le_of_ble_eq_true rfl) rfl h (fun S11 h2 => ?_)
      replace h := h2
      clear h2
      refine zJ.aload_n (pc := 40) 1 dX4_ticks_40 rfl rfl ?_
      refine zE.getV (pc := 41) (fd_0_0 o) ok_0 kiX4 (Nat.le_of_ble_eq_true rfl) fl_X4_10 dX4_ticks_41 ?_
      refine zE.getV (pc := 44) (fd_1_1 o 0) (ok_1 (show 0 < 8 by decide) (z_sb_le (show 0 < 8 by decide))) kiX2 (Nat.le_of_ble_eq_true rfl) fl_X4_60 dX4_ticks_44 ?_
      refine zJ.bipush (pc := 47) (v := 8) dX4_ticks_47 (by decide) ?_
      refine zE.aldI (pc := 49) (ia_3 o 0) (ok_3 (show 0 < 8 by decide) (z_sb_le (show 0 < 8 by decide))) (by unfold vp_in; decide) dX4_ticks_49 ?_
      refine zJ.iload_n (pc := 50) 0 dX4_ticks_50 rfl rfl ?_
      refine zJ.isub (pc := 51) dX4_ticks_51 ?_
      exact zG.ret (pc := 52) (r := some (.int ((S11.1 (3, 0, 0) 8) - (S8.1 (3, 0, 0) 8)))) ⟨dX4_ticks_52, _, rfl, rfl⟩ h
    · replace h := h.2 c5
      refine zJ.aload_n (pc := 10) 0 dX4_ticks_10 rfl rfl ?_
      refine zJ.bipush (pc := 11) (v := (-2)) dX4_ticks_11 (by decide) ?_
      refine zG.callVi (d := mdX4_ticks) (pc := 13) [.int (-2)] [] (ob_0 o) ok_0 rfl dX4_ticks_13 ⟨(cb_X4_refuse).1, (cb_X4_refuse).2, (Nat.le_of_ble_eq_true rfl), (Nat.le_of_ble_eq_true rfl)⟩ ml_X4_47 ci_X4_refuse cv_X4_refuse rfl (Nat.le_of_ble_eq_true rfl) (Nat.le_of_ble_eq_true rfl) rfl h (fun r13 S14 h2 => ?_)
      replace h := h2
      clear h2
      exact zG.ret (pc := 16) (r := some (.int r13)) ⟨dX4_ticks_16, _, rfl, rfl⟩ h
set_option maxRecDepth 100000 in
set_option maxHeartbeats 4000000 in
theorem w_X4_draw_0 (o : zW) (x1 : Int32) (x2 : Int32) (S : zS) (Q : Option Value → zS → Prop) (h : (x1 < 0 → (zGi o 994 mdX4_refuse [.ref (z_adr o (0, 0, 0)), .int (-2)] S (fun r3 S4 => Q (some (.int r3)) S4))) ∧ (¬ x1 < 0 → (((999999 : Int32) < x1 → (zGi o 994 mdX4_refuse [.ref (z_adr o (0, 0, 0)), .int (-2)] S (fun r7 S8 => Q (some (.int r7)) S8))) ∧ (¬ (999999 : Int32) < x1 → ((x2 < 1 → (zGi o 994 mdX4_refuse [.ref (z_adr o (0, 0, 0)), .int (-2)] S (fun r11 S12 => Q (some (.int r11)) S12))) ∧ (¬ x2 < 1 → ((x2 ≤ 40 → (zGv o 994 mdX4_keep [.ref (z_adr o (0, 0, 0))] S (fun S16 => zG o 994 mdX4_draw 50 [(0, .ref (z_adr o (0, 0, 0))), (2, .int x2), (3, .int (S16.1 (3, 0, 0) 9)), (4, .long x1.toInt64), (6, .int 0)] [] S16 Q))) ∧ (¬ x2 ≤ 40 → (zGi o 994 mdX4_refuse [.ref (z_adr o (0, 0, 0)), .int (-2)] S (fun r18 S19 => Q (some (.int r18)) S19)))))))))) : zG o 994 mdX4_draw 0 [(0, .ref (z_adr o (0, 0, 0))), (1, .int x1), (2, .int x2)] [] S Q := by
  show zJ o mdX4_draw 0 _ [] (994, z_enc o S) 0 0 _
  refine zJ.iload_n (pc := 0) 1 dX4_draw_0 rfl rfl ?_
  refine zJ.if_lt (pc := 1) (tgt := 21) dX4_draw_1 (by decide) (fun c1 => ?_) (fun c1 => ?_)
  · replace h := h.1 c1
    refine zJ.aload_n (pc := 21) 0 dX4_draw_21 rfl rfl ?_
    refine zJ.bipush (pc := 22) (v := (-2)) dX4_draw_22 (by decide) ?_
    refine zG.callVi (d := mdX4_draw) (pc := 24) [.int (-2)] [] (ob_0 o) ok_0 rfl dX4_draw_24 ⟨(cb_X4_refuse).1, (cb_X4_refuse).2, (Nat.le_of_ble_eq_true rfl), (Nat.le_of_ble_eq_true rfl)⟩ ml_X4_47 ci_X4_refuse cv_X4_refuse rfl (Nat.le_of_ble_eq_true rfl) (Nat.le_of_ble_eq_true rfl) rfl h (fun r3 S4 h2 => ?_)
    replace h := h2
    clear h2
    exact zG.ret (pc := 27) (r := some (.int r3)) ⟨dX4_draw_27, _, rfl, rfl⟩ h
  · replace h := h.2 c1
    refine zJ.iload_n (pc := 4) 1 dX4_draw_4 rfl rfl ?_
    refine zJ.ldc (pc := 5) lc_X4_82 dX4_draw_5 ?_
    refine zJ.icmp_gt (pc := 7) (tgt := 21) dX4_draw_7 (by decide) (fun c5 => ?_) (fun c5 => ?_)
    · replace h := h.1 c5
      refine zJ.aload_n (pc := 21) 0 dX4_draw_21 rfl rfl ?_
      refine zJ.bipush (pc := 22) (v := (-2)) dX4_draw_22 (by decide) ?_
      refine zG.callVi (d := mdX4_draw) (pc := 24) [.int (-2)] [] (ob_0 o) ok_0 rfl dX4_draw_24 ⟨(cb_X4_refuse).1, (cb_X4_refuse).2, (Nat.le_of_ble_eq_true rfl), (Nat.le_of_ble_eq_true rfl)⟩ ml_X4_47 ci_X4_refuse cv_X4_refuse rfl (Nat.le_of_ble_eq_true rfl) (Nat.le_of_ble_eq_true rfl) rfl h (fun r7 S8 h2 => ?_)
      replace h := h2
      clear h2
      exact zG.ret (pc := 27) (r := some (.int r7)) ⟨dX4_draw_27, _, rfl, rfl⟩ h
    · replace h := h.2 c5
      refine zJ.iload_n (pc := 10) 2 dX4_draw_10 rfl rfl ?_
      refine zJ.iconst (pc := 11) (v := 1) dX4_draw_11 (by decide) ?_
      refine zJ.icmp_lt (pc := 12) (tgt := 21) dX4_draw_12 (by decide) (fun c9 => ?_) (fun c9 => ?_)
      · replace h := h.1 c9
        refine zJ.aload_n (pc := 21) 0 dX4_draw_21 rfl rfl ?_
        refine zJ.bipush (pc := 22) (v := (-2)) dX4_draw_22 (by decide) ?_
        refine zG.callVi (d := mdX4_draw) (pc := 24) [.int (-2)] [] (ob_0 o) ok_0 rfl dX4_draw_24 ⟨(cb_X4_refuse).1, (cb_X4_refuse).2, (Nat.le_of_ble_eq_true rfl), (Nat.le_of_ble_eq_true rfl)⟩ ml_X4_47 ci_X4_refuse cv_X4_refuse rfl (Nat.le_of_ble_eq_true rfl) (Nat.le_of_ble_eq_true rfl) rfl h (fun r11 S12 h2 => ?_)
        replace h := h2
        clear h2
        exact zG.ret (pc := 27) (r := some (.int r11)) ⟨dX4_draw_27, _, rfl, rfl⟩ h
      · replace h := h.2 c9
        refine zJ.iload_n (pc := 15) 2 dX4_draw_15 rfl rfl ?_
        refine zJ.bipush (pc := 16) (v := 40) dX4_draw_16 (by decide) ?_
        refine zJ.icmp_le (pc := 18) (tgt := 28) dX4_draw_18 (by decide) (fun c13 => ?_) (fun c13 => ?_)
        · replace h := h.1 c13
          refine zJ.aload_n (pc := 28) 0 dX4_draw_28 rfl rfl ?_
          refine zG.callVv (d := mdX4_draw) (pc := 29) [] [] (ob_0 o) ok_0 rfl dX4_draw_29 ⟨(cb_X4_keep).1, (cb_X4_keep).2, (Nat.le_of_ble_eq_true rfl), (Nat.le_of_ble_eq_true rfl)⟩ ml_X4_51 ci_X4_keep cv_X4_keep rfl (Nat.le_of_ble_eq_true rfl) (Nat.le_of_ble_eq_true rfl) rfl h (fun S16 h2 => ?_)
          replace h := h2
          clear h2
          refine zJ.aload_n (pc := 32) 0 dX4_draw_32 rfl rfl ?_
          refine zE.getV (pc := 33) (fd_0_0 o) ok_0 kiX4 (Nat.le_of_ble_eq_true rfl) fl_X4_10 dX4_draw_33 ?_
          refine zE.getV (pc := 36) (fd_1_1 o 0) (ok_1 (show 0 < 8 by decide) (z_sb_le (show 0 < 8 by decide))) kiX2 (Nat.le_of_ble_eq_true rfl) fl_X4_60 dX4_draw_36 ?_
          refine zJ.bipush (pc := 39) (v := 9) dX4_draw_39 (by decide) ?_
          refine zE.aldI (pc := 41) (ia_3 o 0) (ok_3 (show 0 < 8 by decide) (z_sb_le (show 0 < 8 by decide))) (by unfold vp_in; decide) dX4_draw_41 ?_
          refine zJ.istore_n (pc := 42) (lv' := [(3, .int (S16.1 (3, 0, 0) 9)), (0, .ref (z_adr o (0, 0, 0))), (1, .int x1), (2, .int x2)]) dX4_draw_42 rfl (Nat.le_of_ble_eq_true rfl) rfl ?_
          refine zJ.iload_n (pc := 43) 2 dX4_draw_43 rfl rfl ?_
          refine zJ.i2l (pc := 44) dX4_draw_44 ?_
          refine zJ.lstore (pc := 45) (lv' := [(4, .long x1.toInt64), (3, .int (S16.1 (3, 0, 0) 9)), (0, .ref (z_adr o (0, 0, 0))), (1, .int x1), (2, .int x2)]) dX4_draw_45 (Nat.le_of_ble_eq_true rfl) rfl ?_
          refine zJ.iconst (pc := 47) (v := 0) dX4_draw_47 (by decide) ?_
          refine zJ.istore (pc := 48) (lv' := [(6, .int 0), (4, .long x1.toInt64), (3, .int (S16.1 (3, 0, 0) 9)), (0, .ref (z_adr o (0, 0, 0))), (1, .int x1), (2, .int x2)]) dX4_draw_48 (Nat.le_of_ble_eq_true rfl) rfl ?_
          exact zJ.sub [3, 5, 2, 1, 0] rfl h
        · replace h := h.2 c13
          refine zJ.aload_n (pc := 21) 0 dX4_draw_21 rfl rfl ?_
          refine zJ.bipush (pc := 22) (v := (-2)) dX4_draw_22 (by decide) ?_
          refine zG.callVi (d := mdX4_draw) (pc := 24) [.int (-2)] [] (ob_0 o) ok_0 rfl dX4_draw_24 ⟨(cb_X4_refuse).1, (cb_X4_refuse).2, (Nat.le_of_ble_eq_true rfl), (Nat.le_of_ble_eq_true rfl)⟩ ml_X4_47 ci_X4_refuse cv_X4_refuse rfl (Nat.le_of_ble_eq_true rfl) (Nat.le_of_ble_eq_true rfl) rfl h (fun r18 S19 h2 => ?_)
          replace h := h2
          clear h2
          exact zG.ret (pc := 27) (r := some (.int r18)) ⟨dX4_draw_27, _, rfl, rfl⟩ h
set_option maxRecDepth 100000 in
set_option maxHeartbeats 4000000 in
theorem w_X4_draw_50 (o : zW) (x2 : Int32) (x3 : Int32) (x4 : Int64) (x6 : Int32) (S : zS) (Q : Option Value → zS → Prop) (h : (x2 ≤ x6 → (Q (some (.int ((S.1 (3, 0, 0) 9) - x3))) S)) ∧ (¬ x2 ≤ x6 → (∀ y2 : Int32, y2 = ((((((x4 * (1103515245 : Int64)) + (12345 : Int64)) - ((x4 * (1103515245 : Int64)) + (12345 : Int64)) / (2147483648 : Int64) * (2147483648 : Int64)) / (65536 : Int64)) - ((((x4 * (1103515245 : Int64)) + (12345 : Int64)) - ((x4 * (1103515245 : Int64)) + (12345 : Int64)) / (2147483648 : Int64) * (2147483648 : Int64)) / (65536 : Int64)) / (16 : Int64) * (16 : Int64)).toInt32) → (∀ y3 : Int32, y3 = ((((((x4 * (1103515245 : Int64)) + (12345 : Int64)) - ((x4 * (1103515245 : Int64)) + (12345 : Int64)) / (2147483648 : Int64) * (2147483648 : Int64)) / (1024 : Int64)) - ((((x4 * (1103515245 : Int64)) + (12345 : Int64)) - ((x4 * (1103515245 : Int64)) + (12345 : Int64)) / (2147483648 : Int64) * (2147483648 : Int64)) / (1024 : Int64)) / (4 : Int64) * (4 : Int64)).toInt32) → (∀ y4 : Int32, y4 = (z_lcmp (((((x4 * (1103515245 : Int64)) + (12345 : Int64)) - ((x4 * (1103515245 : Int64)) + (12345 : Int64)) / (2147483648 : Int64) * (2147483648 : Int64)) / (32768 : Int64)) - ((((x4 * (1103515245 : Int64)) + (12345 : Int64)) - ((x4 * (1103515245 : Int64)) + (12345 : Int64)) / (2147483648 : Int64) * (2147483648 : Int64)) / (32768 : Int64)) / (3 : Int64) * (3 : Int64)) 0) → ((¬ y4 = 0 → (zGi o 994 mdX4_isBox [.int y2] S (fun r7 S8 => (r7 = 0 → (zG o 994 mdX4_draw 50 [(0, .ref (z_adr o (0, 0, 0))), (2, .int x2), (3, .int x3), (4, .long (((x4 * (1103515245 : Int64)) + (12345 : Int64)) - ((x4 * (1103515245 : Int64)) + (12345 : Int64)) / (2147483648 : Int64) * (2147483648 : Int64))), (6, .int (x6 + 1))] [] S8 Q)) ∧ (¬ r7 = 0 → (vp_in y2 16 ∧ (zGi o 994 mdX2_begin [.ref (z_adr o (1, 0, 0)), .ref (z_adr o (5, 0, y2.toNatClampNeg)), .int y3, .int (-1)] S8 (fun r12 S13 => zG o 994 mdX4_draw 50 [(0, .ref (z_adr o (0, 0, 0))), (2, .int x2), (3, .int x3), (4, .long (((x4 * (1103515245 : Int64)) + (12345 : Int64)) - ((x4 * (1103515245 : Int64)) + (12345 : Int64)) / (2147483648 : Int64) * (2147483648 : Int64))), (6, .int (x6 + 1))] [] S13 Q))))))) ∧ (y4 = 0 → (∀ y14 : Int32, y14 = ((((((x4 * (1103515245 : Int64)) + (12345 : Int64)) - ((x4 * (1103515245 : Int64)) + (12345 : Int64)) / (2147483648 : Int64) * (2147483648 : Int64)) / (2048 : Int64)) - ((((x4 * (1103515245 : Int64)) + (12345 : Int64)) - ((x4 * (1103515245 : Int64)) + (12345 : Int64)) / (2147483648 : Int64) * (2147483648 : Int64)) / (2048 : Int64)) / (100 : Int64) * (100 : Int64)).toInt32) → (zGi o 994 mdX4_isBox [.int y2] S (fun r16 S17 => (r16 = 0 → (zG o 994 mdX4_draw 50 [(0, .ref (z_adr o (0, 0, 0))), (2, .int x2), (3, .int x3), (4, .long (((x4 * (1103515245 : Int64)) + (12345 : Int64)) - ((x4 * (1103515245 : Int64)) + (12345 : Int64)) / (2147483648 : Int64) * (2147483648 : Int64))), (6, .int (x6 + 1))] [] S17 Q)) ∧ (¬ r16 = 0 → (vp_in y2 16 ∧ (zGi o 994 mdX2_begin [.ref (z_adr o (1, 0, 0)), .ref (z_adr o (5, 0, y2.toNatClampNeg)), .int y3, .int y14] S17 (fun r21 S22 => zG o 994 mdX4_draw 50 [(0, .ref (z_adr o (0, 0, 0))), (2, .int x2), (3, .int x3), (4, .long (((x4 * (1103515245 : Int64)) + (12345 : Int64)) - ((x4 * (1103515245 : Int64)) + (12345 : Int64)) / (2147483648 : Int64) * (2147483648 : Int64))), (6, .int (x6 + 1))] [] S22 Q)))))))))))))) : zG o 994 mdX4_draw 50 [(0, .ref (z_adr o (0, 0, 0))), (2, .int x2), (3, .int x3), (4, .long x4), (6, .int x6)] [] S Q := by
  show zJ o mdX4_draw 50 _ [] (994, z_enc o S) 0 0 _
  refine zJ.iload (pc := 50) 4 dX4_draw_50 rfl ?_
  refine zJ.iload_n (pc := 52) 1 dX4_draw_52 rfl rfl ?_
  refine zJ.icmp_ge (pc := 53) (tgt := 166) dX4_draw_53 (by decide) (fun c1 => ?_) (fun c1 => ?_)
  · replace h := h.1 c1
    refine zJ.aload_n (pc := 166) 0 dX4_draw_166 rfl rfl ?_
    refine zE.getV (pc := 167) (fd_0_0 o) ok_0 kiX4 (Nat.le_of_ble_eq_true rfl) fl_X4_10 dX4_draw_167 ?_
    refine zE.getV (pc := 170) (fd_1_1 o 0) (ok_1 (show 0 < 8 by decide) (z_sb_le (show 0 < 8 by decide))) kiX2 (Nat.le_of_ble_eq_true rfl) fl_X4_60 dX4_draw_170 ?_
    refine zJ.bipush (pc := 173) (v := 9) dX4_draw_173 (by decide) ?_
    refine zE.aldI (pc := 175) (ia_3 o 0) (ok_3 (show 0 < 8 by decide) (z_sb_le (show 0 < 8 by decide))) (by unfold vp_in; decide) dX4_draw_175 ?_
    refine zJ.iload_n (pc := 176) 2 dX4_draw_176 rfl rfl ?_
    refine zJ.isub (pc := 177) dX4_draw_177 ?_
    exact zG.ret (pc := 178) (r := some (.int ((S.1 (3, 0, 0) 9) - x3))) ⟨dX4_draw_178, _, rfl, rfl⟩ h
  · replace h := h.2 c1
    refine zJ.lload (pc := 56) 3 dX4_draw_56 rfl ?_
    refine zJ.ldc2 (pc := 58) lc_X4_83 dX4_draw_58 ?_
    refine zJ.lmul (pc := 61) dX4_draw_61 ?_
    refine zJ.ldc2 (pc := 62) lc_X4_85 dX4_draw_62 ?_
    refine zJ.ladd (pc := 65) dX4_draw_65 ?_
    refine zJ.ldc2 (pc := 66) lc_X4_87 dX4_draw_66 ?_
    refine zJ.lrem (pc := 69) dX4_draw_69 (by decide) ?_
    refine zJ.lstore (pc := 70) (lv' := [(4, .long (((x4 * (1103515245 : Int64)) + (12345 : Int64)) - ((x4 * (1103515245 : Int64)) + (12345 : Int64)) / (2147483648 : Int64) * (2147483648 : Int64))), (0, .ref (z_adr o (0, 0, 0))), (2, .int x2), (3, .int x3), (6, .int x6)]) dX4_draw_70 (Nat.le_of_ble_eq_true rfl) rfl ?_
    refine zJ.lload (pc := 72) 0 dX4_draw_72 rfl ?_
    refine zJ.ldc2 (pc := 74) lc_X4_89 dX4_draw_74 ?_
    refine zJ.ldiv (pc := 77) dX4_draw_77 (by decide) ?_
    refine zJ.ldc2 (pc := 78) lc_X4_91 dX4_draw_78 ?_
    refine zJ.lrem (pc := 81) dX4_draw_81 (by decide) ?_
    refine zJ.l2i (pc := 82) dX4_draw_82 ?_
    refine zJ.topi (fun y2 hyy2 => ?_)
    replace h := h y2 hyy2
    refine zJ.istore (pc := 83) (lv' := [(7, .int y2), (4, .long (((x4 * (1103515245 : Int64)) + (12345 : Int64)) - ((x4 * (1103515245 : Int64)) + (12345 : Int64)) / (2147483648 : Int64) * (2147483648 : Int64))), (0, .ref (z_adr o (0, 0, 0))), (2, .int x2), (3, .int x3), (6, .int x6)]) dX4_draw_83 (Nat.le_of_ble_eq_true rfl) rfl ?_
    refine zJ.lload (pc := 85) 1 dX4_draw_85 rfl ?_
    refine zJ.ldc2 (pc := 87) lc_X4_93 dX4_draw_87 ?_
    refine zJ.ldiv (pc := 90) dX4_draw_90 (by decide) ?_
    refine zJ.ldc2 (pc := 91) lc_X4_95 dX4_draw_91 ?_
    refine zJ.lrem (pc := 94) dX4_draw_94 (by decide) ?_
    refine zJ.l2i (pc := 95) dX4_draw_95 ?_
    refine zJ.topi (fun y3 hyy3 => ?_)
    replace h := h y3 hyy3
    refine zJ.istore (pc := 96) (lv' := [(8, .int y3), (7, .int y2), (4, .long (((x4 * (1103515245 : Int64)) + (12345 : Int64)) - ((x4 * (1103515245 : Int64)) + (12345 : Int64)) / (2147483648 : Int64) * (2147483648 : Int64))), (0, .ref (z_adr o (0, 0, 0))), (2, .int x2), (3, .int x3), (6, .int x6)]) dX4_draw_96 (Nat.le_of_ble_eq_true rfl) rfl ?_
    refine zJ.lload (pc := 98) 2 dX4_draw_98 rfl ?_
    refine zJ.ldc2 (pc := 100) lc_X4_97 dX4_draw_100 ?_
    refine zJ.ldiv (pc := 103) dX4_draw_103 (by decide) ?_
    refine zJ.ldc2 (pc := 104) lc_X4_99 dX4_draw_104 ?_
    refine zJ.lrem (pc := 107) dX4_draw_107 (by decide) ?_
    refine zJ.lconst (pc := 108) (v := 0) dX4_draw_108 (by decide) ?_
    refine zJ.lcmp (pc := 109) dX4_draw_109 ?_
    refine zJ.topi (fun y4 hyy4 => ?_)
    replace h := h y4 hyy4
    refine zJ.if_ne (pc := 110) (tgt := 127) dX4_draw_110 (by decide) (fun c5 => ?_) (fun c5 => ?_)
    · replace h := h.1 c5
      refine zJ.iconst (pc := 127) (v := (-1)) dX4_draw_127 (by decide) ?_
      refine zJ.istore (pc := 128) (lv' := [(9, .int (-1)), (8, .int y3), (7, .int y2), (4, .long (((x4 * (1103515245 : Int64)) + (12345 : Int64)) - ((x4 * (1103515245 : Int64)) + (12345 : Int64)) / (2147483648 : Int64) * (2147483648 : Int64))), (0, .ref (z_adr o (0, 0, 0))), (2, .int x2), (3, .int x3), (6, .int x6)]) dX4_draw_128 (Nat.le_of_ble_eq_true rfl) rfl ?_
      refine zJ.iload (pc := 130) 2 dX4_draw_130 rfl ?_
      refine zG.callSi (d := mdX4_draw) (pc := 132) [.int y2] [] dX4_draw_132 ⟨(cb_X4_isBox).1, (cb_X4_isBox).2, (Nat.le_of_ble_eq_true rfl), (Nat.le_of_ble_eq_true rfl)⟩ ml_X4_63 cs_X4_isBox rfl (Nat.le_of_ble_eq_true rfl) (Nat.le_of_ble_eq_true rfl) rfl h (fun r7 S8 h2 => ?_)
      replace h := h2
      clear h2
      refine zJ.if_eq (pc := 135) (tgt := 160) dX4_draw_135 (by decide) (fun c9 => ?_) (fun c9 => ?_)
      · replace h := h.1 c9
        refine zJ.iinc (pc := 160) (k := 7) (lv' := [(6, .int (x6 + 1)), (9, .int (-1)), (8, .int y3), (7, .int y2), (4, .long (((x4 * (1103515245 : Int64)) + (12345 : Int64)) - ((x4 * (1103515245 : Int64)) + (12345 : Int64)) / (2147483648 : Int64) * (2147483648 : Int64))), (0, .ref (z_adr o (0, 0, 0))), (2, .int x2), (3, .int x3)]) dX4_draw_160 rfl rfl (Nat.le_of_ble_eq_true rfl) rfl ?_
        refine zJ.goto (pc := 163) (tgt := 50) dX4_draw_163 (by decide) ?_
        exact zJ.sub [5, 6, 7, 4, 0] rfl h
      · replace h := h.2 c9
        refine zJ.aload_n (pc := 138) 4 dX4_draw_138 rfl rfl ?_
        refine zE.getV (pc := 139) (fd_0_0 o) ok_0 kiX4 (Nat.le_of_ble_eq_true rfl) fl_X4_10 dX4_draw_139 ?_
        refine zJ.aload_n (pc := 142) 4 dX4_draw_142 rfl rfl ?_
        refine zE.getV (pc := 143) (fd_0_0 o) ok_0 kiX4 (Nat.le_of_ble_eq_true rfl) fl_X4_10 dX4_draw_143 ?_
        refine zE.getV (pc := 146) (fd_1_2 o 0) (ok_1 (show 0 < 8 by decide) (z_sb_le (show 0 < 8 by decide))) kiX2 (Nat.le_of_ble_eq_true rfl) fl_X4_70 dX4_draw_146 ?_
        refine zJ.iload (pc := 149) 2 dX4_draw_149 rfl ?_
        obtain ⟨hq10, h⟩ := h
        refine zE.aldB (pc := 151) (ok_4 (show 0 < 8 by decide) (z_sb_le (show 0 < 8 by decide))) hq10 dX4_draw_151 ?_
        refine zJ.iload (pc := 152) 1 dX4_draw_152 rfl ?_
        refine zJ.iload (pc := 154) 0 dX4_draw_154 rfl ?_
        refine zG.callVi (d := mdX4_draw) (pc := 156) [.ref (z_adr o (5, 0, y2.toNatClampNeg)), .int y3, .int (-1)] [] (ob_1 o 0) (ok_1 (show 0 < 8 by decide) (z_sb_le (show 0 < 8 by decide))) rfl dX4_draw_156 ⟨(cb_X2_begin).1, (cb_X2_begin).2, (Nat.le_of_ble_eq_true rfl), (Nat.le_of_ble_eq_true rfl)⟩ ml_X4_74 ci_X2_begin cv_X2_begin rfl (Nat.le_of_ble_eq_true rfl) (Nat.le_of_ble_eq_true rfl) rfl h (fun r12 S13 h2 => ?_)
        replace h := h2
        clear h2
        refine zJ.pop (pc := 159) dX4_draw_159 rfl ?_
        refine zJ.iinc (pc := 160) (k := 7) (lv' := [(6, .int (x6 + 1)), (9, .int (-1)), (8, .int y3), (7, .int y2), (4, .long (((x4 * (1103515245 : Int64)) + (12345 : Int64)) - ((x4 * (1103515245 : Int64)) + (12345 : Int64)) / (2147483648 : Int64) * (2147483648 : Int64))), (0, .ref (z_adr o (0, 0, 0))), (2, .int x2), (3, .int x3)]) dX4_draw_160 rfl rfl (Nat.le_of_ble_eq_true rfl) rfl ?_
        refine zJ.goto (pc := 163) (tgt := 50) dX4_draw_163 (by decide) ?_
        exact zJ.sub [5, 6, 7, 4, 0] rfl h
    · replace h := h.2 c5
      refine zJ.lload (pc := 113) 2 dX4_draw_113 rfl ?_
      refine zJ.ldc2 (pc := 115) lc_X4_101 dX4_draw_115 ?_
      refine zJ.ldiv (pc := 118) dX4_draw_118 (by decide) ?_
      refine zJ.ldc2 (pc := 119) lc_X4_103 dX4_draw_119 ?_
      refine zJ.lrem (pc := 122) dX4_draw_122 (by decide) ?_
      refine zJ.l2i (pc := 123) dX4_draw_123 ?_
      refine zJ.topi (fun y14 hyy14 => ?_)
      replace h := h y14 hyy14
      refine zJ.goto (pc := 124) (tgt := 128) dX4_draw_124 (by decide) ?_
      refine zJ.istore (pc := 128) (lv' := [(9, .int y14), (8, .int y3), (7, .int y2), (4, .long (((x4 * (1103515245 : Int64)) + (12345 : Int64)) - ((x4 * (1103515245 : Int64)) + (12345 : Int64)) / (2147483648 : Int64) * (2147483648 : Int64))), (0, .ref (z_adr o (0, 0, 0))), (2, .int x2), (3, .int x3), (6, .int x6)]) dX4_draw_128 (Nat.le_of_ble_eq_true rfl) rfl ?_
      refine zJ.iload (pc := 130) 2 dX4_draw_130 rfl ?_
      refine zG.callSi (d := mdX4_draw) (pc := 132) [.int y2] [] dX4_draw_132 ⟨(cb_X4_isBox).1, (cb_X4_isBox).2, (Nat.le_of_ble_eq_true rfl), (Nat.le_of_ble_eq_true rfl)⟩ ml_X4_63 cs_X4_isBox rfl (Nat.le_of_ble_eq_true rfl) (Nat.le_of_ble_eq_true rfl) rfl h (fun r16 S17 h2 => ?_)
      replace h := h2
      clear h2
      refine zJ.if_eq (pc := 135) (tgt := 160) dX4_draw_135 (by decide) (fun c18 => ?_) (fun c18 => ?_)
      · replace h := h.1 c18
        refine zJ.iinc (pc := 160) (k := 7) (lv' := [(6, .int (x6 + 1)), (9, .int y14), (8, .int y3), (7, .int y2), (4, .long (((x4 * (1103515245 : Int64)) + (12345 : Int64)) - ((x4 * (1103515245 : Int64)) + (12345 : Int64)) / (2147483648 : Int64) * (2147483648 : Int64))), (0, .ref (z_adr o (0, 0, 0))), (2, .int x2), (3, .int x3)]) dX4_draw_160 rfl rfl (Nat.le_of_ble_eq_true rfl) rfl ?_
        refine zJ.goto (pc := 163) (tgt := 50) dX4_draw_163 (by decide) ?_
        exact zJ.sub [5, 6, 7, 4, 0] rfl h
      · replace h := h.2 c18
        refine zJ.aload_n (pc := 138) 4 dX4_draw_138 rfl rfl ?_
        refine zE.getV (pc := 139) (fd_0_0 o) ok_0 kiX4 (Nat.le_of_ble_eq_true rfl) fl_X4_10 dX4_draw_139 ?_
        refine zJ.aload_n (pc := 142) 4 dX4_draw_142 rfl rfl ?_
        refine zE.getV (pc := 143) (fd_0_0 o) ok_0 kiX4 (Nat.le_of_ble_eq_true rfl) fl_X4_10 dX4_draw_143 ?_
        refine zE.getV (pc := 146) (fd_1_2 o 0) (ok_1 (show 0 < 8 by decide) (z_sb_le (show 0 < 8 by decide))) kiX2 (Nat.le_of_ble_eq_true rfl) fl_X4_70 dX4_draw_146 ?_
        refine zJ.iload (pc := 149) 2 dX4_draw_149 rfl ?_
        obtain ⟨hq19, h⟩ := h
        refine zE.aldB (pc := 151) (ok_4 (show 0 < 8 by decide) (z_sb_le (show 0 < 8 by decide))) hq19 dX4_draw_151 ?_
        refine zJ.iload (pc := 152) 1 dX4_draw_152 rfl ?_
        refine zJ.iload (pc := 154) 0 dX4_draw_154 rfl ?_
        refine zG.callVi (d := mdX4_draw) (pc := 156) [.ref (z_adr o (5, 0, y2.toNatClampNeg)), .int y3, .int y14] [] (ob_1 o 0) (ok_1 (show 0 < 8 by decide) (z_sb_le (show 0 < 8 by decide))) rfl dX4_draw_156 ⟨(cb_X2_begin).1, (cb_X2_begin).2, (Nat.le_of_ble_eq_true rfl), (Nat.le_of_ble_eq_true rfl)⟩ ml_X4_74 ci_X2_begin cv_X2_begin rfl (Nat.le_of_ble_eq_true rfl) (Nat.le_of_ble_eq_true rfl) rfl h (fun r21 S22 h2 => ?_)
        replace h := h2
        clear h2
        refine zJ.pop (pc := 159) dX4_draw_159 rfl ?_
        refine zJ.iinc (pc := 160) (k := 7) (lv' := [(6, .int (x6 + 1)), (9, .int y14), (8, .int y3), (7, .int y2), (4, .long (((x4 * (1103515245 : Int64)) + (12345 : Int64)) - ((x4 * (1103515245 : Int64)) + (12345 : Int64)) / (2147483648 : Int64) * (2147483648 : Int64))), (0, .ref (z_adr o (0, 0, 0))), (2, .int x2), (3, .int x3)]) dX4_draw_160 rfl rfl (Nat.le_of_ble_eq_true rfl) rfl ?_
        refine zJ.goto (pc := 163) (tgt := 50) dX4_draw_163 (by decide) ?_
        exact zJ.sub [5, 6, 7, 4, 0] rfl h
set_option maxRecDepth 100000 in
set_option maxHeartbeats 4000000 in
theorem w_X4_got_0 (o : zW) (x1 : Int32) (x2 : Int32) (S : zS) (Q : Option Value → zS → Prop) (h : (x1 < 0 → (zGi o 994 mdX4_refuse [.ref (z_adr o (0, 0, 0)), .int (-2)] S (fun r3 S4 => Q (some (.int r3)) S4))) ∧ (¬ x1 < 0 → ((x2 < 0 → (zGi o 994 mdX4_refuse [.ref (z_adr o (0, 0, 0)), .int (-2)] S (fun r7 S8 => Q (some (.int r7)) S8))) ∧ (¬ x2 < 0 → ((x2 ≤ 2 → (((S.1 (12, 0, 0) 3) ≤ x1 → (Q (some (.int (-1))) S)) ∧ (¬ (S.1 (12, 0, 0) 3) ≤ x1 → ((x1 < 200 → ((¬ x2 = 0 → ((¬ x2 = 1 → (vp_in x1 200 ∧ (Q (some (.int (S.1 (15, 0, 0) x1.toNatClampNeg))) S))) ∧ (x2 = 1 → (vp_in x1 200 ∧ (Q (some (.int (S.1 (14, 0, 0) x1.toNatClampNeg))) S))))) ∧ (x2 = 0 → (vp_in x1 200 ∧ (Q (some (.int (S.1 (13, 0, 0) x1.toNatClampNeg))) S))))) ∧ (¬ x1 < 200 → (Q (some (.int (-1))) S)))))) ∧ (¬ x2 ≤ 2 → (zGi o 994 mdX4_refuse [.ref (z_adr o (0, 0, 0)), .int (-2)] S (fun r15 S16 => Q (some (.int r15)) S16)))))))) : zG o 994 mdX4_got 0 [(0, .ref (z_adr o (0, 0, 0))), (1, .int x1), (2, .int x2)] [] S Q := by
  show zJ o mdX4_got 0 _ [] (994, z_enc o S) 0 0 _
  refine zJ.iload_n (pc := 0) 1 dX4_got_0 rfl rfl ?_
  refine zJ.if_lt (pc := 1) (tgt := 13) dX4_got_1 (by decide) (fun c1 => ?_) (fun c1 => ?_)
  · replace h := h.1 c1
    refine zJ.aload_n (pc := 13) 0 dX4_got_13 rfl rfl ?_
    refine zJ.bipush (pc := 14) (v := (-2)) dX4_got_14 (by decide) ?_
    refine zG.callVi (d := mdX4_got) (pc := 16) [.int (-2)] [] (ob_0 o) ok_0 rfl dX4_got_16 ⟨(cb_X4_refuse).1, (cb_X4_refuse).2, (Nat.le_of_ble_eq_true rfl), (Nat.le_of_ble_eq_true rfl)⟩ ml_X4_47 ci_X4_refuse cv_X4_refuse rfl (Nat.le_of_ble_eq_true rfl) (Nat.le_of_ble_eq_true rfl) rfl h (fun r3 S4 h2 => ?_)
    replace h := h2
    clear h2
    exact zG.ret (pc := 19) (r := some (.int r3)) ⟨dX4_got_19, _, rfl, rfl⟩ h
  · replace h := h.2 c1
    refine zJ.iload_n (pc := 4) 2 dX4_got_4 rfl rfl ?_
    refine zJ.if_lt (pc := 5) (tgt := 13) dX4_got_5 (by decide) (fun c5 => ?_) (fun c5 => ?_)
    · replace h := h.1 c5
      refine zJ.aload_n (pc := 13) 0 dX4_got_13 rfl rfl ?_
      refine zJ.bipush (pc := 14) (v := (-2)) dX4_got_14 (by decide) ?_
      refine zG.callVi (d := mdX4_got) (pc := 16) [.int (-2)] [] (ob_0 o) ok_0 rfl dX4_got_16 ⟨(cb_X4_refuse).1, (cb_X4_refuse).2, (Nat.le_of_ble_eq_true rfl), (Nat.le_of_ble_eq_true rfl)⟩ ml_X4_47 ci_X4_refuse cv_X4_refuse rfl (Nat.le_of_ble_eq_true rfl) (Nat.le_of_ble_eq_true rfl) rfl h (fun r7 S8 h2 => ?_)
      replace h := h2
      clear h2
      exact zG.ret (pc := 19) (r := some (.int r7)) ⟨dX4_got_19, _, rfl, rfl⟩ h
    · replace h := h.2 c5
      refine zJ.iload_n (pc := 8) 2 dX4_got_8 rfl rfl ?_
      refine zJ.iconst (pc := 9) (v := 2) dX4_got_9 (by decide) ?_
      refine zJ.icmp_le (pc := 10) (tgt := 20) dX4_got_10 (by decide) (fun c9 => ?_) (fun c9 => ?_)
      · replace h := h.1 c9
        refine zJ.aload_n (pc := 20) 0 dX4_got_20 rfl rfl ?_
        refine zE.getV (pc := 21) (fd_0_0 o) ok_0 kiX4 (Nat.le_of_ble_eq_true rfl) fl_X4_10 dX4_got_21 ?_
        refine zE.getV (pc := 24) (fd_1_3 o 0) (ok_1 (show 0 < 8 by decide) (z_sb_le (show 0 < 8 by decide))) kiX2 (Nat.le_of_ble_eq_true rfl) fl_X4_105 dX4_got_24 ?_
        refine zJ.astore_n (pc := 27) (lv' := [(3, .ref (z_adr o (12, 0, 0))), (0, .ref (z_adr o (0, 0, 0))), (1, .int x1), (2, .int x2)]) dX4_got_27 rfl (Nat.le_of_ble_eq_true rfl) rfl ?_
        refine zJ.iload_n (pc := 28) 2 dX4_got_28 rfl rfl ?_
        refine zJ.aload_n (pc := 29) 0 dX4_got_29 rfl rfl ?_
        refine zE.getI (pc := 30) (fd_12_3 o 0) (ok_12 (show 0 < 8 by decide) (z_sb_le (show 0 < 8 by decide))) kiX1 (Nat.le_of_ble_eq_true rfl) fl_X4_109 dX4_got_30 ?_
        refine zJ.icmp_ge (pc := 33) (tgt := 43) dX4_got_33 (by decide) (fun c10 => ?_) (fun c10 => ?_)
        · replace h := h.1 c10
          refine zJ.iconst (pc := 43) (v := (-1)) dX4_got_43 (by decide) ?_
          exact zG.ret (pc := 44) (r := some (.int (-1))) ⟨dX4_got_44, _, rfl, rfl⟩ h
        · replace h := h.2 c10
          refine zJ.iload_n (pc := 36) 2 dX4_got_36 rfl rfl ?_
          refine zJ.sipush (pc := 37) (v := 200) dX4_got_37 (by decide) ?_
          refine zJ.icmp_lt (pc := 40) (tgt := 45) dX4_got_40 (by decide) (fun c11 => ?_) (fun c11 => ?_)
          · replace h := h.1 c11
            refine zJ.iload_n (pc := 45) 3 dX4_got_45 rfl rfl ?_
            refine zJ.if_ne (pc := 46) (tgt := 58) dX4_got_46 (by decide) (fun c12 => ?_) (fun c12 => ?_)
            · replace h := h.1 c12
              refine zJ.iload_n (pc := 58) 3 dX4_got_58 rfl rfl ?_
              refine zJ.iconst (pc := 59) (v := 1) dX4_got_59 (by decide) ?_
              refine zJ.icmp_ne (pc := 60) (tgt := 72) dX4_got_60 (by decide) (fun c13 => ?_) (fun c13 => ?_)
              · replace h := h.1 c13
                refine zJ.aload_n (pc := 72) 0 dX4_got_72 rfl rfl ?_
                refine zE.getV (pc := 73) (fd_12_2 o 0) (ok_12 (show 0 < 8 by decide) (z_sb_le (show 0 < 8 by decide))) kiX1 (Nat.le_of_ble_eq_true rfl) fl_X4_120 dX4_got_73 ?_
                refine zJ.iload_n (pc := 76) 2 dX4_got_76 rfl rfl ?_
                obtain ⟨hq, h⟩ := h
                refine zE.aldI (pc := 77) (ia_15 o 0) (ok_15 (show 0 < 8 by decide) (z_sb_le (show 0 < 8 by decide))) hq dX4_got_77 ?_
                exact zG.ret (pc := 78) (r := some (.int (S.1 (15, 0, 0) x1.toNatClampNeg))) ⟨dX4_got_78, _, rfl, rfl⟩ h
              · replace h := h.2 c13
                refine zJ.aload_n (pc := 63) 0 dX4_got_63 rfl rfl ?_
                refine zE.getV (pc := 64) (fd_12_1 o 0) (ok_12 (show 0 < 8 by decide) (z_sb_le (show 0 < 8 by decide))) kiX1 (Nat.le_of_ble_eq_true rfl) fl_X4_117 dX4_got_64 ?_
                refine zJ.iload_n (pc := 67) 2 dX4_got_67 rfl rfl ?_
                obtain ⟨hq, h⟩ := h
                refine zE.aldI (pc := 68) (ia_14 o 0) (ok_14 (show 0 < 8 by decide) (z_sb_le (show 0 < 8 by decide))) hq dX4_got_68 ?_
                refine zJ.goto (pc := 69) (tgt := 78) dX4_got_69 (by decide) ?_
                exact zG.ret (pc := 78) (r := some (.int (S.1 (14, 0, 0) x1.toNatClampNeg))) ⟨dX4_got_78, _, rfl, rfl⟩ h
            · replace h := h.2 c12
              refine zJ.aload_n (pc := 49) 0 dX4_got_49 rfl rfl ?_
              refine zE.getV (pc := 50) (fd_12_0 o 0) (ok_12 (show 0 < 8 by decide) (z_sb_le (show 0 < 8 by decide))) kiX1 (Nat.le_of_ble_eq_true rfl) fl_X4_114 dX4_got_50 ?_
              refine zJ.iload_n (pc := 53) 2 dX4_got_53 rfl rfl ?_
              obtain ⟨hq, h⟩ := h
              refine zE.aldI (pc := 54) (ia_13 o 0) (ok_13 (show 0 < 8 by decide) (z_sb_le (show 0 < 8 by decide))) hq dX4_got_54 ?_
              refine zJ.goto (pc := 55) (tgt := 78) dX4_got_55 (by decide) ?_
              exact zG.ret (pc := 78) (r := some (.int (S.1 (13, 0, 0) x1.toNatClampNeg))) ⟨dX4_got_78, _, rfl, rfl⟩ h
          · replace h := h.2 c11
            refine zJ.iconst (pc := 43) (v := (-1)) dX4_got_43 (by decide) ?_
            exact zG.ret (pc := 44) (r := some (.int (-1))) ⟨dX4_got_44, _, rfl, rfl⟩ h
      · replace h := h.2 c9
        refine zJ.aload_n (pc := 13) 0 dX4_got_13 rfl rfl ?_
        refine zJ.bipush (pc := 14) (v := (-2)) dX4_got_14 (by decide) ?_
        refine zG.callVi (d := mdX4_got) (pc := 16) [.int (-2)] [] (ob_0 o) ok_0 rfl dX4_got_16 ⟨(cb_X4_refuse).1, (cb_X4_refuse).2, (Nat.le_of_ble_eq_true rfl), (Nat.le_of_ble_eq_true rfl)⟩ ml_X4_47 ci_X4_refuse cv_X4_refuse rfl (Nat.le_of_ble_eq_true rfl) (Nat.le_of_ble_eq_true rfl) rfl h (fun r15 S16 h2 => ?_)
        replace h := h2
        clear h2
        exact zG.ret (pc := 19) (r := some (.int r15)) ⟨dX4_got_19, _, rfl, rfl⟩ h
set_option maxRecDepth 100000 in
set_option maxHeartbeats 4000000 in
theorem w_X4_often_0 (o : zW) (x1 : Int32) (S : zS) (Q : Option Value → zS → Prop) (h : (x1 < 0 → (zGi o 994 mdX4_refuse [.ref (z_adr o (0, 0, 0)), .int (-2)] S (fun r3 S4 => Q (some (.int r3)) S4))) ∧ (¬ x1 < 0 → ((x1 < 10 → (vp_in x1 10 ∧ (Q (some (.int (S.1 (3, 0, 0) x1.toNatClampNeg))) S))) ∧ (¬ x1 < 10 → (zGi o 994 mdX4_refuse [.ref (z_adr o (0, 0, 0)), .int (-2)] S (fun r7 S8 => Q (some (.int r7)) S8)))))) : zG o 994 mdX4_often 0 [(0, .ref (z_adr o (0, 0, 0))), (1, .int x1)] [] S Q := by
  show zJ o mdX4_often 0 _ [] (994, z_enc o S) 0 0 _
  refine zJ.iload_n (pc := 0) 1 dX4_often_0 rfl rfl ?_
  refine zJ.if_lt (pc := 1) (tgt := 10) dX4_often_1 (by decide) (fun c1 => ?_) (fun c1 => ?_)
  · replace h := h.1 c1
    refine zJ.aload_n (pc := 10) 0 dX4_often_10 rfl rfl ?_
    refine zJ.bipush (pc := 11) (v := (-2)) dX4_often_11 (by decide) ?_
    refine zG.callVi (d := mdX4_often) (pc := 13) [.int (-2)] [] (ob_0 o) ok_0 rfl dX4_often_13 ⟨(cb_X4_refuse).1, (cb_X4_refuse).2, (Nat.le_of_ble_eq_true rfl), (Nat.le_of_ble_eq_true rfl)⟩ ml_X4_47 ci_X4_refuse cv_X4_refuse rfl (Nat.le_of_ble_eq_true rfl) (Nat.le_of_ble_eq_true rfl) rfl h (fun r3 S4 h2 => ?_)
    replace h := h2
    clear h2
    exact zG.ret (pc := 16) (r := some (.int r3)) ⟨dX4_often_16, _, rfl, rfl⟩ h
  · replace h := h.2 c1
    refine zJ.iload_n (pc := 4) 1 dX4_often_4 rfl rfl ?_
    refine zJ.bipush (pc := 5) (v := 10) dX4_often_5 (by decide) ?_
    refine zJ.icmp_lt (pc := 7) (tgt := 17) dX4_often_7 (by decide) (fun c5 => ?_) (fun c5 => ?_)
    · replace h := h.1 c5
      refine zJ.aload_n (pc := 17) 0 dX4_often_17 rfl rfl ?_
      refine zE.getV (pc := 18) (fd_0_0 o) ok_0 kiX4 (Nat.le_of_ble_eq_true rfl) fl_X4_10 dX4_often_18 ?_
      refine zE.getV (pc := 21) (fd_1_1 o 0) (ok_1 (show 0 < 8 by decide) (z_sb_le (show 0 < 8 by decide))) kiX2 (Nat.le_of_ble_eq_true rfl) fl_X4_60 dX4_often_21 ?_
      refine zJ.iload_n (pc := 24) 1 dX4_often_24 rfl rfl ?_
      obtain ⟨hq, h⟩ := h
      refine zE.aldI (pc := 25) (ia_3 o 0) (ok_3 (show 0 < 8 by decide) (z_sb_le (show 0 < 8 by decide))) hq dX4_often_25 ?_
      exact zG.ret (pc := 26) (r := some (.int (S.1 (3, 0, 0) x1.toNatClampNeg))) ⟨dX4_often_26, _, rfl, rfl⟩ h
    · replace h := h.2 c5
      refine zJ.aload_n (pc := 10) 0 dX4_often_10 rfl rfl ?_
      refine zJ.bipush (pc := 11) (v := (-2)) dX4_often_11 (by decide) ?_
      refine zG.callVi (d := mdX4_often) (pc := 13) [.int (-2)] [] (ob_0 o) ok_0 rfl dX4_often_13 ⟨(cb_X4_refuse).1, (cb_X4_refuse).2, (Nat.le_of_ble_eq_true rfl), (Nat.le_of_ble_eq_true rfl)⟩ ml_X4_47 ci_X4_refuse cv_X4_refuse rfl (Nat.le_of_ble_eq_true rfl) (Nat.le_of_ble_eq_true rfl) rfl h (fun r7 S8 h2 => ?_)
      replace h := h2
      clear h2
      exact zG.ret (pc := 16) (r := some (.int r7)) ⟨dX4_often_16, _, rfl, rfl⟩ h
set_option maxRecDepth 100000 in
set_option maxHeartbeats 4000000 in
theorem w_X4_where_0 (o : zW) (x1 : Int32) (S : zS) (Q : Option Value → zS → Prop) (h : zGi o 994 mdX4_isBox [.int x1] S (fun r2 S3 => (¬ r2 = 0 → (vp_in x1 16 ∧ (Q (some (.int (S3.1 (5, 0, x1.toNatClampNeg) 8))) S3))) ∧ (r2 = 0 → (zGi o 994 mdX4_refuse [.ref (z_adr o (0, 0, 0)), .int (-2)] S3 (fun r7 S8 => Q (some (.int r7)) S8))))) : zG o 994 mdX4_where 0 [(0, .ref (z_adr o (0, 0, 0))), (1, .int x1)] [] S Q := by
  show zJ o mdX4_where 0 _ [] (994, z_enc o S) 0 0 _
  refine zJ.iload_n (pc := 0) 1 dX4_where_0 rfl rfl ?_
  refine zG.callSi (d := mdX4_where) (pc := 1) [.int x1] [] dX4_where_1 ⟨(cb_X4_isBox).1, (cb_X4_isBox).2, (Nat.le_of_ble_eq_true rfl), (Nat.le_of_ble_eq_true rfl)⟩ ml_X4_63 cs_X4_isBox rfl (Nat.le_of_ble_eq_true rfl) (Nat.le_of_ble_eq_true rfl) rfl h (fun r2 S3 h2 => ?_)
  replace h := h2
  clear h2
  refine zJ.if_ne (pc := 4) (tgt := 14) dX4_where_4 (by decide) (fun c4 => ?_) (fun c4 => ?_)
  · replace h := h.1 c4
    refine zJ.aload_n (pc := 14) 0 dX4_where_14 rfl rfl ?_
    refine zE.getV (pc := 15) (fd_0_0 o) ok_0 kiX4 (Nat.le_of_ble_eq_true rfl) fl_X4_10 dX4_where_15 ?_
    refine zE.getV (pc := 18) (fd_1_2 o 0) (ok_1 (show 0 < 8 by decide) (z_sb_le (show 0 < 8 by decide))) kiX2 (Nat.le_of_ble_eq_true rfl) fl_X4_70 dX4_where_18 ?_
    refine zJ.iload_n (pc := 21) 1 dX4_where_21 rfl rfl ?_
    obtain ⟨hq5, h⟩ := h
    refine zE.aldB (pc := 22) (ok_4 (show 0 < 8 by decide) (z_sb_le (show 0 < 8 by decide))) hq5 dX4_where_22 ?_
    refine zE.getI (pc := 23) (fd_5_8 o 0 x1.toNatClampNeg) (ok_5 (show 0 < 8 by decide) (z_vlt hq5) (z_sb_le (show 0 < 8 by decide))) kiX0 (Nat.le_of_ble_eq_true rfl) fl_X4_123 dX4_where_23 ?_
    exact zG.ret (pc := 26) (r := some (.int (S3.1 (5, 0, x1.toNatClampNeg) 8))) ⟨dX4_where_26, _, rfl, rfl⟩ h
  · replace h := h.2 c4
    refine zJ.aload_n (pc := 7) 0 dX4_where_7 rfl rfl ?_
    refine zJ.bipush (pc := 8) (v := (-2)) dX4_where_8 (by decide) ?_
    refine zG.callVi (d := mdX4_where) (pc := 10) [.int (-2)] [] (ob_0 o) ok_0 rfl dX4_where_10 ⟨(cb_X4_refuse).1, (cb_X4_refuse).2, (Nat.le_of_ble_eq_true rfl), (Nat.le_of_ble_eq_true rfl)⟩ ml_X4_47 ci_X4_refuse cv_X4_refuse rfl (Nat.le_of_ble_eq_true rfl) (Nat.le_of_ble_eq_true rfl) rfl h (fun r7 S8 h2 => ?_)
    replace h := h2
    clear h2
    exact zG.ret (pc := 13) (r := some (.int r7)) ⟨dX4_where_13, _, rfl, rfl⟩ h
set_option maxRecDepth 100000 in
set_option maxHeartbeats 4000000 in
theorem w_X4_item_0 (o : zW) (x1 : Int32) (x2 : Int32) (x3 : Int32) (S : zS) (Q : Option Value → zS → Prop) (h : zGi o 994 mdX4_isBox [.int x1] S (fun r2 S3 => (r2 = 0 → (zGi o 994 mdX4_refuse [.ref (z_adr o (0, 0, 0)), .int (-2)] S3 (fun r6 S7 => Q (some (.int r6)) S7))) ∧ (¬ r2 = 0 → (zGi o 994 mdX4_isItem [.int x2] S3 (fun r9 S10 => (r9 = 0 → (zGi o 994 mdX4_refuse [.ref (z_adr o (0, 0, 0)), .int (-2)] S10 (fun r13 S14 => Q (some (.int r13)) S14))) ∧ (¬ r9 = 0 → ((x3 < 0 → (zGi o 994 mdX4_refuse [.ref (z_adr o (0, 0, 0)), .int (-2)] S10 (fun r17 S18 => Q (some (.int r17)) S18))) ∧ (¬ x3 < 0 → ((x3 ≤ 2 → (vp_in x1 16 ∧ ((¬ x3 = 0 → ((¬ x3 = 1 → (zGi o 994 mdX0_changedBit [.ref (z_adr o (5, 0, x1.toNatClampNeg)), .int x2] S10 (fun r24 S25 => Q (some (.int r24)) S25))) ∧ (x3 = 1 → (zGi o 994 mdX0_valueAtLast [.ref (z_adr o (5, 0, x1.toNatClampNeg)), .int x2] S10 (fun r27 S28 => Q (some (.int r27)) S28))))) ∧ (x3 = 0 → (vp_in x2 4 ∧ (Q (some (.int (S10.1 (6, 0, x1.toNatClampNeg) x2.toNatClampNeg))) S10)))))) ∧ (¬ x3 ≤ 2 → (zGi o 994 mdX4_refuse [.ref (z_adr o (0, 0, 0)), .int (-2)] S10 (fun r30 S31 => Q (some (.int r30)) S31)))))))))))) : zG o 994 mdX4_item 0 [(0, .ref (z_adr o (0, 0, 0))), (1, .int x1), (2, .int x2), (3, .int x3)] [] S Q := by
  show zJ o mdX4_item 0 _ [] (994, z_enc o S) 0 0 _
  refine zJ.iload_n (pc := 0) 1 dX4_item_0 rfl rfl ?_
  refine zG.callSi (d := mdX4_item) (pc := 1) [.int x1] [] dX4_item_1 ⟨(cb_X4_isBox).1, (cb_X4_isBox).2, (Nat.le_of_ble_eq_true rfl), (Nat.le_of_ble_eq_true rfl)⟩ ml_X4_63 cs_X4_isBox rfl (Nat.le_of_ble_eq_true rfl) (Nat.le_of_ble_eq_true rfl) rfl h (fun r2 S3 h2 => ?_)
  replace h := h2
  clear h2
  refine zJ.if_eq (pc := 4) (tgt := 23) dX4_item_4 (by decide) (fun c4 => ?_) (fun c4 => ?_)
  · replace h := h.1 c4
    refine zJ.aload_n (pc := 23) 0 dX4_item_23 rfl rfl ?_
    refine zJ.bipush (pc := 24) (v := (-2)) dX4_item_24 (by decide) ?_
    refine zG.callVi (d := mdX4_item) (pc := 26) [.int (-2)] [] (ob_0 o) ok_0 rfl dX4_item_26 ⟨(cb_X4_refuse).1, (cb_X4_refuse).2, (Nat.le_of_ble_eq_true rfl), (Nat.le_of_ble_eq_true rfl)⟩ ml_X4_47 ci_X4_refuse cv_X4_refuse rfl (Nat.le_of_ble_eq_true rfl) (Nat.le_of_ble_eq_true rfl) rfl h (fun r6 S7 h2 => ?_)
    replace h := h2
    clear h2
    exact zG.ret (pc := 29) (r := some (.int r6)) ⟨dX4_item_29, _, rfl, rfl⟩ h
  · replace h := h.2 c4
    refine zJ.iload_n (pc := 7) 2 dX4_item_7 rfl rfl ?_
    refine zG.callSi (d := mdX4_item) (pc := 8) [.int x2] [] dX4_item_8 ⟨(cb_X4_isItem).1, (cb_X4_isItem).2, (Nat.le_of_ble_eq_true rfl), (Nat.le_of_ble_eq_true rfl)⟩ ml_X4_67 cs_X4_isItem rfl (Nat.le_of_ble_eq_true rfl) (Nat.le_of_ble_eq_true rfl) rfl h (fun r9 S10 h2 => ?_)
    replace h := h2
    clear h2
    refine zJ.if_eq (pc := 11) (tgt := 23) dX4_item_11 (by decide) (fun c11 => ?_) (fun c11 => ?_)
    · replace h := h.1 c11
      refine zJ.aload_n (pc := 23) 0 dX4_item_23 rfl rfl ?_
      refine zJ.bipush (pc := 24) (v := (-2)) dX4_item_24 (by decide) ?_
      refine zG.callVi (d := mdX4_item) (pc := 26) [.int (-2)] [] (ob_0 o) ok_0 rfl dX4_item_26 ⟨(cb_X4_refuse).1, (cb_X4_refuse).2, (Nat.le_of_ble_eq_true rfl), (Nat.le_of_ble_eq_true rfl)⟩ ml_X4_47 ci_X4_refuse cv_X4_refuse rfl (Nat.le_of_ble_eq_true rfl) (Nat.le_of_ble_eq_true rfl) rfl h (fun r13 S14 h2 => ?_)
      replace h := h2
      clear h2
      exact zG.ret (pc := 29) (r := some (.int r13)) ⟨dX4_item_29, _, rfl, rfl⟩ h
    · replace h := h.2 c11
      refine zJ.iload_n (pc := 14) 3 dX4_item_14 rfl rfl ?_
      refine zJ.if_lt (pc := 15) (tgt := 23) dX4_item_15 (by decide) (fun c15 => ?_) (fun c15 => ?_)
      · replace h := h.1 c15
        refine zJ.aload_n (pc := 23) 0 dX4_item_23 rfl rfl ?_
        refine zJ.bipush (pc := 24) (v := (-2)) dX4_item_24 (by decide) ?_
        refine zG.callVi (d := mdX4_item) (pc := 26) [.int (-2)] [] (ob_0 o) ok_0 rfl dX4_item_26 ⟨(cb_X4_refuse).1, (cb_X4_refuse).2, (Nat.le_of_ble_eq_true rfl), (Nat.le_of_ble_eq_true rfl)⟩ ml_X4_47 ci_X4_refuse cv_X4_refuse rfl (Nat.le_of_ble_eq_true rfl) (Nat.le_of_ble_eq_true rfl) rfl h (fun r17 S18 h2 => ?_)
        replace h := h2
        clear h2
        exact zG.ret (pc := 29) (r := some (.int r17)) ⟨dX4_item_29, _, rfl, rfl⟩ h
      · replace h := h.2 c15
        refine zJ.iload_n (pc := 18) 3 dX4_item_18 rfl rfl ?_
        refine zJ.iconst (pc := 19) (v := 2) dX4_item_19 (by decide) ?_
        refine zJ.icmp_le (pc := 20) (tgt := 30) dX4_item_20 (by decide) (fun c19 => ?_) (fun c19 => ?_)
        · replace h := h.1 c19
          refine zJ.aload_n (pc := 30) 0 dX4_item_30 rfl rfl ?_
          refine zE.getV (pc := 31) (fd_0_0 o) ok_0 kiX4 (Nat.le_of_ble_eq_true rfl) fl_X4_10 dX4_item_31 ?_
          refine zE.getV (pc := 34) (fd_1_2 o 0) (ok_1 (show 0 < 8 by decide) (z_sb_le (show 0 < 8 by decide))) kiX2 (Nat.le_of_ble_eq_true rfl) fl_X4_70 dX4_item_34 ?_
          refine zJ.iload_n (pc := 37) 1 dX4_item_37 rfl rfl ?_
          obtain ⟨hq20, h⟩ := h
          refine zE.aldB (pc := 38) (ok_4 (show 0 < 8 by decide) (z_sb_le (show 0 < 8 by decide))) hq20 dX4_item_38 ?_
          refine zJ.astore (pc := 39) (lv' := [(4, .ref (z_adr o (5, 0, x1.toNatClampNeg))), (0, .ref (z_adr o (0, 0, 0))), (1, .int x1), (2, .int x2), (3, .int x3)]) dX4_item_39 (Nat.le_of_ble_eq_true rfl) rfl ?_
          refine zJ.iload_n (pc := 41) 4 dX4_item_41 rfl rfl ?_
          refine zJ.if_ne (pc := 42) (tgt := 53) dX4_item_42 (by decide) (fun c21 => ?_) (fun c21 => ?_)
          · replace h := h.1 c21
            refine zJ.iload_n (pc := 53) 4 dX4_item_53 rfl rfl ?_
            refine zJ.iconst (pc := 54) (v := 1) dX4_item_54 (by decide) ?_
            refine zJ.icmp_ne (pc := 55) (tgt := 67) dX4_item_55 (by decide) (fun c22 => ?_) (fun c22 => ?_)
            · replace h := h.1 c22
              refine zJ.aload (pc := 67) 0 dX4_item_67 rfl ?_
              refine zJ.iload_n (pc := 69) 3 dX4_item_69 rfl rfl ?_
              refine zG.callVi (d := mdX4_item) (pc := 70) [.int x2] [] (ob_5 o 0 x1.toNatClampNeg) (ok_5 (show 0 < 8 by decide) (z_vlt hq20) (z_sb_le (show 0 < 8 by decide))) rfl dX4_item_70 ⟨(cb_X0_changedBit).1, (cb_X0_changedBit).2, (Nat.le_of_ble_eq_true rfl), (Nat.le_of_ble_eq_true rfl)⟩ ml_X4_134 ci_X0_changedBit cv_X0_changedBit rfl (Nat.le_of_ble_eq_true rfl) (Nat.le_of_ble_eq_true rfl) rfl h (fun r24 S25 h2 => ?_)
              replace h := h2
              clear h2
              exact zG.ret (pc := 73) (r := some (.int r24)) ⟨dX4_item_73, _, rfl, rfl⟩ h
            · replace h := h.2 c22
              refine zJ.aload (pc := 58) 0 dX4_item_58 rfl ?_
              refine zJ.iload_n (pc := 60) 3 dX4_item_60 rfl rfl ?_
              refine zG.callVi (d := mdX4_item) (pc := 61) [.int x2] [] (ob_5 o 0 x1.toNatClampNeg) (ok_5 (show 0 < 8 by decide) (z_vlt hq20) (z_sb_le (show 0 < 8 by decide))) rfl dX4_item_61 ⟨(cb_X0_valueAtLast).1, (cb_X0_valueAtLast).2, (Nat.le_of_ble_eq_true rfl), (Nat.le_of_ble_eq_true rfl)⟩ ml_X4_131 ci_X0_valueAtLast cv_X0_valueAtLast rfl (Nat.le_of_ble_eq_true rfl) (Nat.le_of_ble_eq_true rfl) rfl h (fun r27 S28 h2 => ?_)
              replace h := h2
              clear h2
              refine zJ.goto (pc := 64) (tgt := 73) dX4_item_64 (by decide) ?_
              exact zG.ret (pc := 73) (r := some (.int r27)) ⟨dX4_item_73, _, rfl, rfl⟩ h
          · replace h := h.2 c21
            refine zJ.aload (pc := 45) 0 dX4_item_45 rfl ?_
            refine zE.getV (pc := 47) (fd_5_1 o 0 x1.toNatClampNeg) (ok_5 (show 0 < 8 by decide) (z_vlt hq20) (z_sb_le (show 0 < 8 by decide))) kiX0 (Nat.le_of_ble_eq_true rfl) fl_X4_128 dX4_item_47 ?_
            refine zJ.iload_n (pc := 50) 3 dX4_item_50 rfl rfl ?_
            obtain ⟨hq, h⟩ := h
            refine zE.aldI (pc := 51) (ia_6 o 0 x1.toNatClampNeg) (ok_6 (show 0 < 8 by decide) (z_vlt hq20) (z_sb_le (show 0 < 8 by decide))) hq dX4_item_51 ?_
            exact zG.ret (pc := 52) (r := some (.int (S10.1 (6, 0, x1.toNatClampNeg) x2.toNatClampNeg))) ⟨dX4_item_52, _, rfl, rfl⟩ h
        · replace h := h.2 c19
          refine zJ.aload_n (pc := 23) 0 dX4_item_23 rfl rfl ?_
          refine zJ.bipush (pc := 24) (v := (-2)) dX4_item_24 (by decide) ?_
          refine zG.callVi (d := mdX4_item) (pc := 26) [.int (-2)] [] (ob_0 o) ok_0 rfl dX4_item_26 ⟨(cb_X4_refuse).1, (cb_X4_refuse).2, (Nat.le_of_ble_eq_true rfl), (Nat.le_of_ble_eq_true rfl)⟩ ml_X4_47 ci_X4_refuse cv_X4_refuse rfl (Nat.le_of_ble_eq_true rfl) (Nat.le_of_ble_eq_true rfl) rfl h (fun r30 S31 h2 => ?_)
          replace h := h2
          clear h2
          exact zG.ret (pc := 29) (r := some (.int r30)) ⟨dX4_item_29, _, rfl, rfl⟩ h
set_option maxRecDepth 100000 in
set_option maxHeartbeats 4000000 in
theorem w_X4_place_0 (o : zW) (x1 : Int32) (x2 : Int32) (S : zS) (Q : Option Value → zS → Prop) (h : (x1 < 0 → (zGi o 994 mdX4_refuse [.ref (z_adr o (0, 0, 0)), .int (-2)] S (fun r3 S4 => Q (some (.int r3)) S4))) ∧ (¬ x1 < 0 → ((4 ≤ x1 → (zGi o 994 mdX4_refuse [.ref (z_adr o (0, 0, 0)), .int (-2)] S (fun r7 S8 => Q (some (.int r7)) S8))) ∧ (¬ 4 ≤ x1 → ((x2 < 0 → (zGi o 994 mdX4_refuse [.ref (z_adr o (0, 0, 0)), .int (-2)] S (fun r11 S12 => Q (some (.int r11)) S12))) ∧ (¬ x2 < 0 → ((x2 < 3 → (zGi o 994 mdX2_boxInPlace [.ref (z_adr o (1, 0, 0)), .int x1, .int x2] S (fun r15 S16 => Q (some (.int r15)) S16))) ∧ (¬ x2 < 3 → (zGi o 994 mdX4_refuse [.ref (z_adr o (0, 0, 0)), .int (-2)] S (fun r18 S19 => Q (some (.int r18)) S19)))))))))) : zG o 994 mdX4_place 0 [(0, .ref (z_adr o (0, 0, 0))), (1, .int x1), (2, .int x2)] [] S Q := by
  show zJ o mdX4_place 0 _ [] (994, z_enc o S) 0 0 _
  refine zJ.iload_n (pc := 0) 1 dX4_place_0 rfl rfl ?_
  refine zJ.if_lt (pc := 1) (tgt := 18) dX4_place_1 (by decide) (fun c1 => ?_) (fun c1 => ?_)
  · replace h := h.1 c1
    refine zJ.aload_n (pc := 18) 0 dX4_place_18 rfl rfl ?_
    refine zJ.bipush (pc := 19) (v := (-2)) dX4_place_19 (by decide) ?_
    refine zG.callVi (d := mdX4_place) (pc := 21) [.int (-2)] [] (ob_0 o) ok_0 rfl dX4_place_21 ⟨(cb_X4_refuse).1, (cb_X4_refuse).2, (Nat.le_of_ble_eq_true rfl), (Nat.le_of_ble_eq_true rfl)⟩ ml_X4_47 ci_X4_refuse cv_X4_refuse rfl (Nat.le_of_ble_eq_true rfl) (Nat.le_of_ble_eq_true rfl) rfl h (fun r3 S4 h2 => ?_)
    replace h := h2
    clear h2
    exact zG.ret (pc := 24) (r := some (.int r3)) ⟨dX4_place_24, _, rfl, rfl⟩ h
  · replace h := h.2 c1
    refine zJ.iload_n (pc := 4) 1 dX4_place_4 rfl rfl ?_
    refine zJ.iconst (pc := 5) (v := 4) dX4_place_5 (by decide) ?_
    refine zJ.icmp_ge (pc := 6) (tgt := 18) dX4_place_6 (by decide) (fun c5 => ?_) (fun c5 => ?_)
    · replace h := h.1 c5
      refine zJ.aload_n (pc := 18) 0 dX4_place_18 rfl rfl ?_
      refine zJ.bipush (pc := 19) (v := (-2)) dX4_place_19 (by decide) ?_
      refine zG.callVi (d := mdX4_place) (pc := 21) [.int (-2)] [] (ob_0 o) ok_0 rfl dX4_place_21 ⟨(cb_X4_refuse).1, (cb_X4_refuse).2, (Nat.le_of_ble_eq_true rfl), (Nat.le_of_ble_eq_true rfl)⟩ ml_X4_47 ci_X4_refuse cv_X4_refuse rfl (Nat.le_of_ble_eq_true rfl) (Nat.le_of_ble_eq_true rfl) rfl h (fun r7 S8 h2 => ?_)
      replace h := h2
      clear h2
      exact zG.ret (pc := 24) (r := some (.int r7)) ⟨dX4_place_24, _, rfl, rfl⟩ h
    · replace h := h.2 c5
      refine zJ.iload_n (pc := 9) 2 dX4_place_9 rfl rfl ?_
      refine zJ.if_lt (pc := 10) (tgt := 18) dX4_place_10 (by decide) (fun c9 => ?_) (fun c9 => ?_)
      · replace h := h.1 c9
        refine zJ.aload_n (pc := 18) 0 dX4_place_18 rfl rfl ?_
        refine zJ.bipush (pc := 19) (v := (-2)) dX4_place_19 (by decide) ?_
        refine zG.callVi (d := mdX4_place) (pc := 21) [.int (-2)] [] (ob_0 o) ok_0 rfl dX4_place_21 ⟨(cb_X4_refuse).1, (cb_X4_refuse).2, (Nat.le_of_ble_eq_true rfl), (Nat.le_of_ble_eq_true rfl)⟩ ml_X4_47 ci_X4_refuse cv_X4_refuse rfl (Nat.le_of_ble_eq_true rfl) (Nat.le_of_ble_eq_true rfl) rfl h (fun r11 S12 h2 => ?_)
        replace h := h2
        clear h2
        exact zG.ret (pc := 24) (r := some (.int r11)) ⟨dX4_place_24, _, rfl, rfl⟩ h
      · replace h := h.2 c9
        refine zJ.iload_n (pc := 13) 2 dX4_place_13 rfl rfl ?_
        refine zJ.iconst (pc := 14) (v := 3) dX4_place_14 (by decide) ?_
        refine zJ.icmp_lt (pc := 15) (tgt := 25) dX4_place_15 (by decide) (fun c13 => ?_) (fun c13 => ?_)
        · replace h := h.1 c13
          refine zJ.aload_n (pc := 25) 0 dX4_place_25 rfl rfl ?_
          refine zE.getV (pc := 26) (fd_0_0 o) ok_0 kiX4 (Nat.le_of_ble_eq_true rfl) fl_X4_10 dX4_place_26 ?_
          refine zJ.iload_n (pc := 29) 1 dX4_place_29 rfl rfl ?_
          refine zJ.iload_n (pc := 30) 2 dX4_place_30 rfl rfl ?_
          refine zG.callVi (d := mdX4_place) (pc := 31) [.int x1, .int x2] [] (ob_1 o 0) (ok_1 (show 0 < 8 by decide) (z_sb_le (show 0 < 8 by decide))) rfl dX4_place_31 ⟨(cb_X2_boxInPlace).1, (cb_X2_boxInPlace).2, (Nat.le_of_ble_eq_true rfl), (Nat.le_of_ble_eq_true rfl)⟩ ml_X4_137 ci_X2_boxInPlace cv_X2_boxInPlace rfl (Nat.le_of_ble_eq_true rfl) (Nat.le_of_ble_eq_true rfl) rfl h (fun r15 S16 h2 => ?_)
          replace h := h2
          clear h2
          exact zG.ret (pc := 34) (r := some (.int r15)) ⟨dX4_place_34, _, rfl, rfl⟩ h
        · replace h := h.2 c13
          refine zJ.aload_n (pc := 18) 0 dX4_place_18 rfl rfl ?_
          refine zJ.bipush (pc := 19) (v := (-2)) dX4_place_19 (by decide) ?_
          refine zG.callVi (d := mdX4_place) (pc := 21) [.int (-2)] [] (ob_0 o) ok_0 rfl dX4_place_21 ⟨(cb_X4_refuse).1, (cb_X4_refuse).2, (Nat.le_of_ble_eq_true rfl), (Nat.le_of_ble_eq_true rfl)⟩ ml_X4_47 ci_X4_refuse cv_X4_refuse rfl (Nat.le_of_ble_eq_true rfl) (Nat.le_of_ble_eq_true rfl) rfl h (fun r18 S19 h2 => ?_)
          replace h := h2
          clear h2
          exact zG.ret (pc := 24) (r := some (.int r18)) ⟨dX4_place_24, _, rfl, rfl⟩ h
