set_option maxRecDepth 100000 in
set_option maxHeartbeats 4000000 in
theorem w_X4_sets_0 (o : zW) (x1 : Int32) (x2 : Int32) (S : zS) (Q : Option Value → zS → Prop) (h : (x1 < 0 → (zGi o 970 mdX4_refuse [.ref (z_adr o (0, 0, 0)), .int (-2)] S (fun r3 S4 => Q (some (.int r3)) S4))) ∧ (¬ x1 < 0 → ((5 ≤ x1 → (zGi o 970 mdX4_refuse [.ref (z_adr o (0, 0, 0)), .int (-2)] S (fun r7 S8 => Q (some (.int r7)) S8))) ∧ (¬ 5 ≤ x1 → (vp_in x1 5 ∧ ((x2 < (z_st 1 x1.toNatClampNeg) → (zGi o 970 mdX4_refuse [.ref (z_adr o (0, 0, 0)), .int (-2)] S (fun r11 S12 => Q (some (.int r11)) S12))) ∧ (¬ x2 < (z_st 1 x1.toNatClampNeg) → (vp_in x1 5 ∧ ((x2 ≤ (z_st 2 x1.toNatClampNeg) → (zGv o 970 mdX4_keep [.ref (z_adr o (0, 0, 0))] S (fun S16 => vp_in x1 5 ∧ (vp_in x1 5 ∧ (zGv o 970 mdX2_renew [.ref (z_adr o (1, 0, 0))] (sI S16 (2, 0, 0) (x1.toNatClampNeg) x2) (fun S19 => Q (some (.int (S16.1 (2, 0, 0) x1.toNatClampNeg))) S19)))))) ∧ (¬ x2 ≤ (z_st 2 x1.toNatClampNeg) → (zGi o 970 mdX4_refuse [.ref (z_adr o (0, 0, 0)), .int (-2)] S (fun r21 S22 => Q (some (.int r21)) S22)))))))))))) : zG o 970 mdX4_sets 0 [(0, .ref (z_adr o (0, 0, 0))), (1, .int x1), (2, .int x2)] [] S Q := by
  show zJ o mdX4_sets 0 _ [] (970, z_enc o S) 0 0 _
  refine zJ.iload_n (pc := 0) 1 dX4_sets_0 rfl rfl ?_
  refine zJ.if_lt (pc := 1) (tgt := 30) dX4_sets_1 (by decide) (fun c1 => ?_) (fun c1 => ?_)
  · replace h := h.1 c1
    refine zJ.aload_n (pc := 30) 0 dX4_sets_30 rfl rfl ?_
    refine zJ.bipush (pc := 31) (v := (-2)) dX4_sets_31 (by decide) ?_
    refine zG.callVi (d := mdX4_sets) (pc := 33) [.int (-2)] [] (ob_0 o) ok_0 rfl dX4_sets_33 ⟨(cb_X4_refuse).1, (cb_X4_refuse).2, (Nat.le_of_ble_eq_true rfl), (Nat.le_of_ble_eq_true rfl)⟩ ml_X4_47 ci_X4_refuse cv_X4_refuse rfl (Nat.le_of_ble_eq_true rfl) (Nat.le_of_ble_eq_true rfl) rfl h (fun r3 S4 h2 => ?_)
    replace h := h2
    clear h2
    exact zG.ret (pc := 36) (r := some (.int r3)) ⟨dX4_sets_36, _, rfl, rfl⟩ h
  · replace h := h.2 c1
    refine zJ.iload_n (pc := 4) 1 dX4_sets_4 rfl rfl ?_
    refine zJ.gets (pc := 5) (i := 1) (by decide) fl_X4_41 dX4_sets_5 ?_
    refine zJ.slen (pc := 8) (i := 1) (by decide) dX4_sets_8 ?_
    refine zJ.icmp_ge (pc := 9) (tgt := 30) dX4_sets_9 (by decide) (fun c5 => ?_) (fun c5 => ?_)
    · replace h := h.1 c5
      refine zJ.aload_n (pc := 30) 0 dX4_sets_30 rfl rfl ?_
      refine zJ.bipush (pc := 31) (v := (-2)) dX4_sets_31 (by decide) ?_
      refine zG.callVi (d := mdX4_sets) (pc := 33) [.int (-2)] [] (ob_0 o) ok_0 rfl dX4_sets_33 ⟨(cb_X4_refuse).1, (cb_X4_refuse).2, (Nat.le_of_ble_eq_true rfl), (Nat.le_of_ble_eq_true rfl)⟩ ml_X4_47 ci_X4_refuse cv_X4_refuse rfl (Nat.le_of_ble_eq_true rfl) (Nat.le_of_ble_eq_true rfl) rfl h (fun r7 S8 h2 => ?_)
      replace h := h2
      clear h2
      exact zG.ret (pc := 36) (r := some (.int r7)) ⟨dX4_sets_36, _, rfl, rfl⟩ h
    · replace h := h.2 c5
      refine zJ.iload_n (pc := 12) 2 dX4_sets_12 rfl rfl ?_
      refine zJ.gets (pc := 13) (i := 1) (by decide) fl_X4_41 dX4_sets_13 ?_
      refine zJ.iload_n (pc := 16) 1 dX4_sets_16 rfl rfl ?_
      obtain ⟨hq, h⟩ := h
      refine zJ.sald (pc := 17) (i := 1) (by decide) dX4_sets_17 hq ?_
      refine zJ.icmp_lt (pc := 18) (tgt := 30) dX4_sets_18 (by decide) (fun c9 => ?_) (fun c9 => ?_)
      · replace h := h.1 c9
        refine zJ.aload_n (pc := 30) 0 dX4_sets_30 rfl rfl ?_
        refine zJ.bipush (pc := 31) (v := (-2)) dX4_sets_31 (by decide) ?_
        refine zG.callVi (d := mdX4_sets) (pc := 33) [.int (-2)] [] (ob_0 o) ok_0 rfl dX4_sets_33 ⟨(cb_X4_refuse).1, (cb_X4_refuse).2, (Nat.le_of_ble_eq_true rfl), (Nat.le_of_ble_eq_true rfl)⟩ ml_X4_47 ci_X4_refuse cv_X4_refuse rfl (Nat.le_of_ble_eq_true rfl) (Nat.le_of_ble_eq_true rfl) rfl h (fun r11 S12 h2 => ?_)
        replace h := h2
        clear h2
        exact zG.ret (pc := 36) (r := some (.int r11)) ⟨dX4_sets_36, _, rfl, rfl⟩ h
      · replace h := h.2 c9
        refine zJ.iload_n (pc := 21) 2 dX4_sets_21 rfl rfl ?_
        refine zJ.gets (pc := 22) (i := 2) (by decide) fl_X4_44 dX4_sets_22 ?_
        refine zJ.iload_n (pc := 25) 1 dX4_sets_25 rfl rfl ?_
        obtain ⟨hq, h⟩ := h
        refine zJ.sald (pc := 26) (i := 2) (by decide) dX4_sets_26 hq ?_
        refine zJ.icmp_le (pc := 27) (tgt := 37) dX4_sets_27 (by decide) (fun c13 => ?_) (fun c13 => ?_)
        · replace h := h.1 c13
          refine zJ.aload_n (pc := 37) 0 dX4_sets_37 rfl rfl ?_
          refine zG.callVv (d := mdX4_sets) (pc := 38) [] [] (ob_0 o) ok_0 rfl dX4_sets_38 ⟨(cb_X4_keep).1, (cb_X4_keep).2, (Nat.le_of_ble_eq_true rfl), (Nat.le_of_ble_eq_true rfl)⟩ ml_X4_51 ci_X4_keep cv_X4_keep rfl (Nat.le_of_ble_eq_true rfl) (Nat.le_of_ble_eq_true rfl) rfl h (fun S16 h2 => ?_)
          replace h := h2
          clear h2
          refine zJ.aload_n (pc := 41) 0 dX4_sets_41 rfl rfl ?_
          refine zE.getV (pc := 42) (fd_0_0 o) ok_0 kiX4 (Nat.le_of_ble_eq_true rfl) fl_X4_10 dX4_sets_42 ?_
          refine zE.getV (pc := 45) (fd_1_0 o 0) (ok_1 (show 0 < 8 by decide) (z_sb_le (show 0 < 8 by decide))) kiX2 (Nat.le_of_ble_eq_true rfl) fl_X4_54 dX4_sets_45 ?_
          refine zJ.iload_n (pc := 48) 1 dX4_sets_48 rfl rfl ?_
          obtain ⟨hq, h⟩ := h
          refine zE.aldI (pc := 49) (ia_2 o 0) (ok_2 (show 0 < 8 by decide) (z_sb_le (show 0 < 8 by decide))) hq dX4_sets_49 ?_
          refine zJ.istore_n (pc := 50) (lv' := [(3, .int (S16.1 (2, 0, 0) x1.toNatClampNeg)), (0, .ref (z_adr o (0, 0, 0))), (1, .int x1), (2, .int x2)]) dX4_sets_50 rfl (Nat.le_of_ble_eq_true rfl) rfl ?_
          refine zJ.aload_n (pc := 51) 1 dX4_sets_51 rfl rfl ?_
          refine zE.getV (pc := 52) (fd_0_0 o) ok_0 kiX4 (Nat.le_of_ble_eq_true rfl) fl_X4_10 dX4_sets_52 ?_
          refine zE.getV (pc := 55) (fd_1_0 o 0) (ok_1 (show 0 < 8 by decide) (z_sb_le (show 0 < 8 by decide))) kiX2 (Nat.le_of_ble_eq_true rfl) fl_X4_54 dX4_sets_55 ?_
          refine zJ.iload_n (pc := 58) 2 dX4_sets_58 rfl rfl ?_
          refine zJ.iload_n (pc := 59) 3 dX4_sets_59 rfl rfl ?_
          obtain ⟨hq, h⟩ := h
          refine zE.astI (pc := 60) (ia_2 o 0) (ok_2 (show 0 < 8 by decide) (z_sb_le (show 0 < 8 by decide))) hq dX4_sets_60 ?_
          refine zJ.aload_n (pc := 61) 1 dX4_sets_61 rfl rfl ?_
          refine zE.getV (pc := 62) (fd_0_0 o) ok_0 kiX4 (Nat.le_of_ble_eq_true rfl) fl_X4_10 dX4_sets_62 ?_
          refine zG.callVv (d := mdX4_sets) (pc := 65) [] [] (ob_1 o 0) (ok_1 (show 0 < 8 by decide) (z_sb_le (show 0 < 8 by decide))) rfl dX4_sets_65 ⟨(cb_X2_renew).1, (cb_X2_renew).2, (Nat.le_of_ble_eq_true rfl), (Nat.le_of_ble_eq_true rfl)⟩ ml_X4_57 ci_X2_renew cv_X2_renew rfl (Nat.le_of_ble_eq_true rfl) (Nat.le_of_ble_eq_true rfl) rfl h (fun S19 h2 => ?_)
          replace h := h2
          clear h2
          refine zJ.iload_n (pc := 68) 0 dX4_sets_68 rfl rfl ?_
          exact zG.ret (pc := 69) (r := some (.int (S16.1 (2, 0, 0) x1.toNatClampNeg))) ⟨dX4_sets_69, _, rfl, rfl⟩ h
        · replace h := h.2 c13
          refine zJ.aload_n (pc := 30) 0 dX4_sets_30 rfl rfl ?_
          refine zJ.bipush (pc := 31) (v := (-2)) dX4_sets_31 (by decide) ?_
          refine zG.callVi (d := mdX4_sets) (pc := 33) [.int (-2)] [] (ob_0 o) ok_0 rfl dX4_sets_33 ⟨(cb_X4_refuse).1, (cb_X4_refuse).2, (Nat.le_of_ble_eq_true rfl), (Nat.le_of_ble_eq_true rfl)⟩ ml_X4_47 ci_X4_refuse cv_X4_refuse rfl (Nat.le_of_ble_eq_true rfl) (Nat.le_of_ble_eq_true rfl) rfl h (fun r21 S22 h2 => ?_)
          replace h := h2
          clear h2
          exact zG.ret (pc := 36) (r := some (.int r21)) ⟨dX4_sets_36, _, rfl, rfl⟩ h
set_option maxRecDepth 100000 in
set_option maxHeartbeats 4000000 in
theorem w_X4_anew_0 (o : zW)  (S : zS) (Q : Option Value → zS → Prop) (h : zGv o 970 mdX4_keep [.ref (z_adr o (0, 0, 0))] S (fun S3 => zGv o 970 mdX2_renew [.ref (z_adr o (1, 0, 0))] S3 (fun S6 => Q (some (.int (S3.1 (3, 0, 0) 9))) S6))) : zG o 970 mdX4_anew 0 [(0, .ref (z_adr o (0, 0, 0)))] [] S Q := by
  show zJ o mdX4_anew 0 _ [] (970, z_enc o S) 0 0 _
  refine zJ.aload_n (pc := 0) 0 dX4_anew_0 rfl rfl ?_
  refine zG.callVv (d := mdX4_anew) (pc := 1) [] [] (ob_0 o) ok_0 rfl dX4_anew_1 ⟨(cb_X4_keep).1, (cb_X4_keep).2, (Nat.le_of_ble_eq_true rfl), (Nat.le_of_ble_eq_true rfl)⟩ ml_X4_51 ci_X4_keep cv_X4_keep rfl (Nat.le_of_ble_eq_true rfl) (Nat.le_of_ble_eq_true rfl) rfl h (fun S3 h2 => ?_)
  replace h := h2
  clear h2
  refine zJ.aload_n (pc := 4) 0 dX4_anew_4 rfl rfl ?_
  refine zE.getV (pc := 5) (fd_0_0 o) ok_0 kiX4 (Nat.le_of_ble_eq_true rfl) fl_X4_10 dX4_anew_5 ?_
  refine zE.getV (pc := 8) (fd_1_1 o 0) (ok_1 (show 0 < 8 by decide) (z_sb_le (show 0 < 8 by decide))) kiX2 (Nat.le_of_ble_eq_true rfl) fl_X4_60 dX4_anew_8 ?_
  refine zJ.bipush (pc := 11) (v := 9) dX4_anew_11 (by decide) ?_
  refine zE.aldI (pc := 13) (ia_3 o 0) (ok_3 (show 0 < 8 by decide) (z_sb_le (show 0 < 8 by decide))) (by unfold vp_in; decide) dX4_anew_13 ?_
  refine zJ.istore_n (pc := 14) (lv' := [(1, .int (S3.1 (3, 0, 0) 9)), (0, .ref (z_adr o (0, 0, 0)))]) dX4_anew_14 rfl (Nat.le_of_ble_eq_true rfl) rfl ?_
  refine zJ.aload_n (pc := 15) 1 dX4_anew_15 rfl rfl ?_
  refine zE.getV (pc := 16) (fd_0_0 o) ok_0 kiX4 (Nat.le_of_ble_eq_true rfl) fl_X4_10 dX4_anew_16 ?_
  refine zG.callVv (d := mdX4_anew) (pc := 19) [] [] (ob_1 o 0) (ok_1 (show 0 < 8 by decide) (z_sb_le (show 0 < 8 by decide))) rfl dX4_anew_19 ⟨(cb_X2_renew).1, (cb_X2_renew).2, (Nat.le_of_ble_eq_true rfl), (Nat.le_of_ble_eq_true rfl)⟩ ml_X4_57 ci_X2_renew cv_X2_renew rfl (Nat.le_of_ble_eq_true rfl) (Nat.le_of_ble_eq_true rfl) rfl h (fun S6 h2 => ?_)
  replace h := h2
  clear h2
  refine zJ.iload_n (pc := 22) 0 dX4_anew_22 rfl rfl ?_
  exact zG.ret (pc := 23) (r := some (.int (S3.1 (3, 0, 0) 9))) ⟨dX4_anew_23, _, rfl, rfl⟩ h
set_option maxRecDepth 100000 in
set_option maxHeartbeats 4000000 in
theorem w_X4_load_0 (o : zW) (x1 : Int32) (x2 : Int32) (S : zS) (Q : Option Value → zS → Prop) (h : zGi o 970 mdX4_isBox [.int x1] S (fun r2 S3 => (r2 = 0 → (zGi o 970 mdX4_refuse [.ref (z_adr o (0, 0, 0)), .int (-2)] S3 (fun r6 S7 => Q (some (.int r6)) S7))) ∧ (¬ r2 = 0 → (zGi o 970 mdX4_isItem [.int x2] S3 (fun r9 S10 => (¬ r9 = 0 → (zGv o 970 mdX4_keep [.ref (z_adr o (0, 0, 0))] S10 (fun S14 => vp_in x1 16 ∧ (zGi o 970 mdX2_begin [.ref (z_adr o (1, 0, 0)), .ref (z_adr o (5, 0, x1.toNatClampNeg)), .int x2, .int (-1)] S14 (fun r17 S18 => Q (some (.int r17)) S18))))) ∧ (r9 = 0 → (zGi o 970 mdX4_refuse [.ref (z_adr o (0, 0, 0)), .int (-2)] S10 (fun r20 S21 => Q (some (.int r20)) S21)))))))) : zG o 970 mdX4_load 0 [(0, .ref (z_adr o (0, 0, 0))), (1, .int x1), (2, .int x2)] [] S Q := by
  show zJ o mdX4_load 0 _ [] (970, z_enc o S) 0 0 _
  refine zJ.iload_n (pc := 0) 1 dX4_load_0 rfl rfl ?_
  refine zG.callSi (d := mdX4_load) (pc := 1) [.int x1] [] dX4_load_1 ⟨(cb_X4_isBox).1, (cb_X4_isBox).2, (Nat.le_of_ble_eq_true rfl), (Nat.le_of_ble_eq_true rfl)⟩ ml_X4_63 cs_X4_isBox rfl (Nat.le_of_ble_eq_true rfl) (Nat.le_of_ble_eq_true rfl) rfl h (fun r2 S3 h2 => ?_)
  replace h := h2
  clear h2
  refine zJ.if_eq (pc := 4) (tgt := 14) dX4_load_4 (by decide) (fun c4 => ?_) (fun c4 => ?_)
  · replace h := h.1 c4
    refine zJ.aload_n (pc := 14) 0 dX4_load_14 rfl rfl ?_
    refine zJ.bipush (pc := 15) (v := (-2)) dX4_load_15 (by decide) ?_
    refine zG.callVi (d := mdX4_load) (pc := 17) [.int (-2)] [] (ob_0 o) ok_0 rfl dX4_load_17 ⟨(cb_X4_refuse).1, (cb_X4_refuse).2, (Nat.le_of_ble_eq_true rfl), (Nat.le_of_ble_eq_true rfl)⟩ ml_X4_47 ci_X4_refuse cv_X4_refuse rfl (Nat.le_of_ble_eq_true rfl) (Nat.le_of_ble_eq_true rfl) rfl h (fun r6 S7 h2 => ?_)
    replace h := h2
    clear h2
    exact zG.ret (pc := 20) (r := some (.int r6)) ⟨dX4_load_20, _, rfl, rfl⟩ h
  · replace h := h.2 c4
    refine zJ.iload_n (pc := 7) 2 dX4_load_7 rfl rfl ?_
    refine zG.callSi (d := mdX4_load) (pc := 8) [.int x2] [] dX4_load_8 ⟨(cb_X4_isItem).1, (cb_X4_isItem).2, (Nat.le_of_ble_eq_true rfl), (Nat.le_of_ble_eq_true rfl)⟩ ml_X4_67 cs_X4_isItem rfl (Nat.le_of_ble_eq_true rfl) (Nat.le_of_ble_eq_true rfl) rfl h (fun r9 S10 h2 => ?_)
    replace h := h2
    clear h2
    refine zJ.if_ne (pc := 11) (tgt := 21) dX4_load_11 (by decide) (fun c11 => ?_) (fun c11 => ?_)
    · replace h := h.1 c11
      refine zJ.aload_n (pc := 21) 0 dX4_load_21 rfl rfl ?_
      refine zG.callVv (d := mdX4_load) (pc := 22) [] [] (ob_0 o) ok_0 rfl dX4_load_22 ⟨(cb_X4_keep).1, (cb_X4_keep).2, (Nat.le_of_ble_eq_true rfl), (Nat.le_of_ble_eq_true rfl)⟩ ml_X4_51 ci_X4_keep cv_X4_keep rfl (Nat.le_of_ble_eq_true rfl) (Nat.le_of_ble_eq_true rfl) rfl h (fun S14 h2 => ?_)
      replace h := h2
      clear h2
      refine zJ.aload_n (pc := 25) 0 dX4_load_25 rfl rfl ?_
      refine zE.getV (pc := 26) (fd_0_0 o) ok_0 kiX4 (Nat.le_of_ble_eq_true rfl) fl_X4_10 dX4_load_26 ?_
      refine zJ.aload_n (pc := 29) 0 dX4_load_29 rfl rfl ?_
      refine zE.getV (pc := 30) (fd_0_0 o) ok_0 kiX4 (Nat.le_of_ble_eq_true rfl) fl_X4_10 dX4_load_30 ?_
      refine zE.getV (pc := 33) (fd_1_2 o 0) (ok_1 (show 0 < 8 by decide) (z_sb_le (show 0 < 8 by decide))) kiX2 (Nat.le_of_ble_eq_true rfl) fl_X4_70 dX4_load_33 ?_
      refine zJ.iload_n (pc := 36) 1 dX4_load_36 rfl rfl ?_
      obtain ⟨hq15, h⟩ := h
      refine zE.aldB (pc := 37) (ok_4 (show 0 < 8 by decide) (z_sb_le (show 0 < 8 by decide))) hq15 dX4_load_37 ?_
      refine zJ.iload_n (pc := 38) 2 dX4_load_38 rfl rfl ?_
      refine zJ.iconst (pc := 39) (v := (-1)) dX4_load_39 (by decide) ?_
      refine zG.callVi (d := mdX4_load) (pc := 40) [.ref (z_adr o (5, 0, x1.toNatClampNeg)), .int x2, .int (-1)] [] (ob_1 o 0) (ok_1 (show 0 < 8 by decide) (z_sb_le (show 0 < 8 by decide))) rfl dX4_load_40 ⟨(cb_X2_begin).1, (cb_X2_begin).2, (Nat.le_of_ble_eq_true rfl), (Nat.le_of_ble_eq_true rfl)⟩ ml_X4_74 ci_X2_begin cv_X2_begin rfl (Nat.le_of_ble_eq_true rfl) (Nat.le_of_ble_eq_true rfl) rfl h (fun r17 S18 h2 => ?_)
      replace h := h2
      clear h2
      exact zG.ret (pc := 43) (r := some (.int r17)) ⟨dX4_load_43, _, rfl, rfl⟩ h
    · replace h := h.2 c11
      refine zJ.aload_n (pc := 14) 0 dX4_load_14 rfl rfl ?_
      refine zJ.bipush (pc := 15) (v := (-2)) dX4_load_15 (by decide) ?_
      refine zG.callVi (d := mdX4_load) (pc := 17) [.int (-2)] [] (ob_0 o) ok_0 rfl dX4_load_17 ⟨(cb_X4_refuse).1, (cb_X4_refuse).2, (Nat.le_of_ble_eq_true rfl), (Nat.le_of_ble_eq_true rfl)⟩ ml_X4_47 ci_X4_refuse cv_X4_refuse rfl (Nat.le_of_ble_eq_true rfl) (Nat.le_of_ble_eq_true rfl) rfl h (fun r20 S21 h2 => ?_)
      replace h := h2
      clear h2
      exact zG.ret (pc := 20) (r := some (.int r20)) ⟨dX4_load_20, _, rfl, rfl⟩ h
set_option maxRecDepth 100000 in
set_option maxHeartbeats 4000000 in
theorem w_X4_store_0 (o : zW) (x1 : Int32) (x2 : Int32) (x3 : Int32) (S : zS) (Q : Option Value → zS → Prop) (h : zGi o 970 mdX4_isBox [.int x1] S (fun r2 S3 => (r2 = 0 → (zGi o 970 mdX4_refuse [.ref (z_adr o (0, 0, 0)), .int (-2)] S3 (fun r6 S7 => Q (some (.int r6)) S7))) ∧ (¬ r2 = 0 → (zGi o 970 mdX4_isItem [.int x2] S3 (fun r9 S10 => (r9 = 0 → (zGi o 970 mdX4_refuse [.ref (z_adr o (0, 0, 0)), .int (-2)] S10 (fun r13 S14 => Q (some (.int r13)) S14))) ∧ (¬ r9 = 0 → ((x3 < 0 → (zGi o 970 mdX4_refuse [.ref (z_adr o (0, 0, 0)), .int (-2)] S10 (fun r17 S18 => Q (some (.int r17)) S18))) ∧ (¬ x3 < 0 → ((x3 ≤ 99 → (zGv o 970 mdX4_keep [.ref (z_adr o (0, 0, 0))] S10 (fun S22 => vp_in x1 16 ∧ (zGi o 970 mdX2_begin [.ref (z_adr o (1, 0, 0)), .ref (z_adr o (5, 0, x1.toNatClampNeg)), .int x2, .int x3] S22 (fun r25 S26 => Q (some (.int r25)) S26))))) ∧ (¬ x3 ≤ 99 → (zGi o 970 mdX4_refuse [.ref (z_adr o (0, 0, 0)), .int (-2)] S10 (fun r28 S29 => Q (some (.int r28)) S29)))))))))))) : zG o 970 mdX4_store 0 [(0, .ref (z_adr o (0, 0, 0))), (1, .int x1), (2, .int x2), (3, .int x3)] [] S Q := by
  show zJ o mdX4_store 0 _ [] (970, z_enc o S) 0 0 _
  refine zJ.iload_n (pc := 0) 1 dX4_store_0 rfl rfl ?_
  refine zG.callSi (d := mdX4_store) (pc := 1) [.int x1] [] dX4_store_1 ⟨(cb_X4_isBox).1, (cb_X4_isBox).2, (Nat.le_of_ble_eq_true rfl), (Nat.le_of_ble_eq_true rfl)⟩ ml_X4_63 cs_X4_isBox rfl (Nat.le_of_ble_eq_true rfl) (Nat.le_of_ble_eq_true rfl) rfl h (fun r2 S3 h2 => ?_)
  replace h := h2
  clear h2
  refine zJ.if_eq (pc := 4) (tgt := 24) dX4_store_4 (by decide) (fun c4 => ?_) (fun c4 => ?_)
  · replace h := h.1 c4
    refine zJ.aload_n (pc := 24) 0 dX4_store_24 rfl rfl ?_
    refine zJ.bipush (pc := 25) (v := (-2)) dX4_store_25 (by decide) ?_
    refine zG.callVi (d := mdX4_store) (pc := 27) [.int (-2)] [] (ob_0 o) ok_0 rfl dX4_store_27 ⟨(cb_X4_refuse).1, (cb_X4_refuse).2, (Nat.le_of_ble_eq_true rfl), (Nat.le_of_ble_eq_true rfl)⟩ ml_X4_47 ci_X4_refuse cv_X4_refuse rfl (Nat.le_of_ble_eq_true rfl) (Nat.le_of_ble_eq_true rfl) rfl h (fun r6 S7 h2 => ?_)
    replace h := h2
    clear h2
    exact zG.ret (pc := 30) (r := some (.int r6)) ⟨dX4_store_30, _, rfl, rfl⟩ h
  · replace h := h.2 c4
    refine zJ.iload_n (pc := 7) 2 dX4_store_7 rfl rfl ?_
    refine zG.callSi (d := mdX4_store) (pc := 8) [.int x2] [] dX4_store_8 ⟨(cb_X4_isItem).1, (cb_X4_isItem).2, (Nat.le_of_ble_eq_true rfl), (Nat.le_of_ble_eq_true rfl)⟩ ml_X4_67 cs_X4_isItem rfl (Nat.le_of_ble_eq_true rfl) (Nat.le_of_ble_eq_true rfl) rfl h (fun r9 S10 h2 => ?_)
    replace h := h2
    clear h2
    refine zJ.if_eq (pc := 11) (tgt := 24) dX4_store_11 (by decide) (fun c11 => ?_) (fun c11 => ?_)
    · replace h := h.1 c11
      refine zJ.aload_n (pc := 24) 0 dX4_store_24 rfl rfl ?_
      refine zJ.bipush (pc := 25) (v := (-2)) dX4_store_25 (by decide) ?_
      refine zG.callVi (d := mdX4_store) (pc := 27) [.int (-2)] [] (ob_0 o) ok_0 rfl dX4_store_27 ⟨(cb_X4_refuse).1, (cb_X4_refuse).2, (Nat.le_of_ble_eq_true rfl), (Nat.le_of_ble_eq_true rfl)⟩ ml_X4_47 ci_X4_refuse cv_X4_refuse rfl (Nat.le_of_ble_eq_true rfl) (Nat.le_of_ble_eq_true rfl) rfl h (fun r13 S14 h2 => ?_)
      replace h := h2
      clear h2
      exact zG.ret (pc := 30) (r := some (.int r13)) ⟨dX4_store_30, _, rfl, rfl⟩ h
    · replace h := h.2 c11
      refine zJ.iload_n (pc := 14) 3 dX4_store_14 rfl rfl ?_
      refine zJ.if_lt (pc := 15) (tgt := 24) dX4_store_15 (by decide) (fun c15 => ?_) (fun c15 => ?_)
      · replace h := h.1 c15
        refine zJ.aload_n (pc := 24) 0 dX4_store_24 rfl rfl ?_
        refine zJ.bipush (pc := 25) (v := (-2)) dX4_store_25 (by decide) ?_
        refine zG.callVi (d := mdX4_store) (pc := 27) [.int (-2)] [] (ob_0 o) ok_0 rfl dX4_store_27 ⟨(cb_X4_refuse).1, (cb_X4_refuse).2, (Nat.le_of_ble_eq_true rfl), (Nat.le_of_ble_eq_true rfl)⟩ ml_X4_47 ci_X4_refuse cv_X4_refuse rfl (Nat.le_of_ble_eq_true rfl) (Nat.le_of_ble_eq_true rfl) rfl h (fun r17 S18 h2 => ?_)
        replace h := h2
        clear h2
        exact zG.ret (pc := 30) (r := some (.int r17)) ⟨dX4_store_30, _, rfl, rfl⟩ h
      · replace h := h.2 c15
        refine zJ.iload_n (pc := 18) 3 dX4_store_18 rfl rfl ?_
        refine zJ.bipush (pc := 19) (v := 99) dX4_store_19 (by decide) ?_
        refine zJ.icmp_le (pc := 21) (tgt := 31) dX4_store_21 (by decide) (fun c19 => ?_) (fun c19 => ?_)
        · replace h := h.1 c19
          refine zJ.aload_n (pc := 31) 0 dX4_store_31 rfl rfl ?_
          refine zG.callVv (d := mdX4_store) (pc := 32) [] [] (ob_0 o) ok_0 rfl dX4_store_32 ⟨(cb_X4_keep).1, (cb_X4_keep).2, (Nat.le_of_ble_eq_true rfl), (Nat.le_of_ble_eq_true rfl)⟩ ml_X4_51 ci_X4_keep cv_X4_keep rfl (Nat.le_of_ble_eq_true rfl) (Nat.le_of_ble_eq_true rfl) rfl h (fun S22 h2 => ?_)
          replace h := h2
          clear h2
          refine zJ.aload_n (pc := 35) 0 dX4_store_35 rfl rfl ?_
          refine zE.getV (pc := 36) (fd_0_0 o) ok_0 kiX4 (Nat.le_of_ble_eq_true rfl) fl_X4_10 dX4_store_36 ?_
          refine zJ.aload_n (pc := 39) 0 dX4_store_39 rfl rfl ?_
          refine zE.getV (pc := 40) (fd_0_0 o) ok_0 kiX4 (Nat.le_of_ble_eq_true rfl) fl_X4_10 dX4_store_40 ?_
          refine zE.getV (pc := 43) (fd_1_2 o 0) (ok_1 (show 0 < 8 by decide) (z_sb_le (show 0 < 8 by decide))) kiX2 (Nat.le_of_ble_eq_true rfl) fl_X4_70 dX4_store_43 ?_
          refine zJ.iload_n (pc := 46) 1 dX4_store_46 rfl rfl ?_
          obtain ⟨hq23, h⟩ := h
          refine zE.aldB (pc := 47) (ok_4 (show 0 < 8 by decide) (z_sb_le (show 0 < 8 by decide))) hq23 dX4_store_47 ?_
          refine zJ.iload_n (pc := 48) 2 dX4_store_48 rfl rfl ?_
          refine zJ.iload_n (pc := 49) 3 dX4_store_49 rfl rfl ?_
          refine zG.callVi (d := mdX4_store) (pc := 50) [.ref (z_adr o (5, 0, x1.toNatClampNeg)), .int x2, .int x3] [] (ob_1 o 0) (ok_1 (show 0 < 8 by decide) (z_sb_le (show 0 < 8 by decide))) rfl dX4_store_50 ⟨(cb_X2_begin).1, (cb_X2_begin).2, (Nat.le_of_ble_eq_true rfl), (Nat.le_of_ble_eq_true rfl)⟩ ml_X4_74 ci_X2_begin cv_X2_begin rfl (Nat.le_of_ble_eq_true rfl) (Nat.le_of_ble_eq_true rfl) rfl h (fun r25 S26 h2 => ?_)
          replace h := h2
          clear h2
          exact zG.ret (pc := 53) (r := some (.int r25)) ⟨dX4_store_53, _, rfl, rfl⟩ h
        · replace h := h.2 c19
          refine zJ.aload_n (pc := 24) 0 dX4_store_24 rfl rfl ?_
          refine zJ.bipush (pc := 25) (v := (-2)) dX4_store_25 (by decide) ?_
          refine zG.callVi (d := mdX4_store) (pc := 27) [.int (-2)] [] (ob_0 o) ok_0 rfl dX4_store_27 ⟨(cb_X4_refuse).1, (cb_X4_refuse).2, (Nat.le_of_ble_eq_true rfl), (Nat.le_of_ble_eq_true rfl)⟩ ml_X4_47 ci_X4_refuse cv_X4_refuse rfl (Nat.le_of_ble_eq_true rfl) (Nat.le_of_ble_eq_true rfl) rfl h (fun r28 S29 h2 => ?_)
          replace h := h2
          clear h2
          exact zG.ret (pc := 30) (r := some (.int r28)) ⟨dX4_store_30, _, rfl, rfl⟩ h
set_option maxRecDepth 100000 in
set_option maxHeartbeats 4000000 in
theorem w_X4_fence_0 (o : zW)  (S : zS) (Q : Option Value → zS → Prop) (h : zGv o 970 mdX4_keep [.ref (z_adr o (0, 0, 0))] S (fun S3 => zGi o 970 mdX2_begin [.ref (z_adr o (1, 0, 0)), .null, .int 0, .int (-1)] S3 (fun r5 S6 => Q (some (.int r5)) S6))) : zG o 970 mdX4_fence 0 [(0, .ref (z_adr o (0, 0, 0)))] [] S Q := by
  show zJ o mdX4_fence 0 _ [] (970, z_enc o S) 0 0 _
  refine zJ.aload_n (pc := 0) 0 dX4_fence_0 rfl rfl ?_
  refine zG.callVv (d := mdX4_fence) (pc := 1) [] [] (ob_0 o) ok_0 rfl dX4_fence_1 ⟨(cb_X4_keep).1, (cb_X4_keep).2, (Nat.le_of_ble_eq_true rfl), (Nat.le_of_ble_eq_true rfl)⟩ ml_X4_51 ci_X4_keep cv_X4_keep rfl (Nat.le_of_ble_eq_true rfl) (Nat.le_of_ble_eq_true rfl) rfl h (fun S3 h2 => ?_)
  replace h := h2
  clear h2
  refine zJ.aload_n (pc := 4) 0 dX4_fence_4 rfl rfl ?_
  refine zE.getV (pc := 5) (fd_0_0 o) ok_0 kiX4 (Nat.le_of_ble_eq_true rfl) fl_X4_10 dX4_fence_5 ?_
  refine zJ.null (pc := 8) dX4_fence_8 ?_
  refine zJ.iconst (pc := 9) (v := 0) dX4_fence_9 (by decide) ?_
  refine zJ.iconst (pc := 10) (v := (-1)) dX4_fence_10 (by decide) ?_
  refine zG.callVi (d := mdX4_fence) (pc := 11) [.null, .int 0, .int (-1)] [] (ob_1 o 0) (ok_1 (show 0 < 8 by decide) (z_sb_le (show 0 < 8 by decide))) rfl dX4_fence_11 ⟨(cb_X2_begin).1, (cb_X2_begin).2, (Nat.le_of_ble_eq_true rfl), (Nat.le_of_ble_eq_true rfl)⟩ ml_X4_74 ci_X2_begin cv_X2_begin rfl (Nat.le_of_ble_eq_true rfl) (Nat.le_of_ble_eq_true rfl) rfl h (fun r5 S6 h2 => ?_)
  replace h := h2
  clear h2
  exact zG.ret (pc := 14) (r := some (.int r5)) ⟨dX4_fence_14, _, rfl, rfl⟩ h
set_option maxRecDepth 100000 in
set_option maxHeartbeats 4000000 in
theorem w_X4_ticks_0 (o : zW) (x1 : Int32) (S : zS) (Q : Option Value → zS → Prop) (h : (x1 < 0 → (zGi o 970 mdX4_refuse [.ref (z_adr o (0, 0, 0)), .int (-2)] S (fun r3 S4 => Q (some (.int r3)) S4))) ∧ (¬ x1 < 0 → ((x1 ≤ 99 → (zGv o 970 mdX4_keep [.ref (z_adr o (0, 0, 0))] S (fun S8 => zGv o 970 mdX2_pause [.ref (z_adr o (1, 0, 0)), .int x1] S8 (fun S11 => Q (some (.int ((S11.1 (3, 0, 0) 8) - (S8.1 (3, 0, 0) 8)))) S11)))) ∧ (¬ x1 ≤ 99 → (zGi o 970 mdX4_refuse [.ref (z_adr o (0, 0, 0)), .int (-2)] S (fun r13 S14 => Q (some (.int r13)) S14)))))) : zG o 970 mdX4_ticks 0 [(0, .ref (z_adr o (0, 0, 0))), (1, .int x1)] [] S Q := by
  show zJ o mdX4_ticks 0 _ [] (970, z_enc o S) 0 0 _
  refine zJ.iload_n (pc := 0) 1 dX4_ticks_0 rfl rfl ?_
  refine zJ.if_lt (pc := 1) (tgt := 10) dX4_ticks_1 (by decide) (fun c1 => ?_) (fun c1 => ?_)
  · replace h := h.1 c1
    refine zJ.aload_n (pc := 10) 0 dX4_ticks_10 rfl rfl ?_
    refine zJ.bipush (pc := 11) (v := (-2)) dX4_ticks_11 (by decide) ?_
    refine zG.callVi (d := mdX4_ticks) (pc := 13) [.int (-2)] [] (ob_0 o) ok_0 rfl dX4_ticks_13 ⟨(cb_X4_refuse).1, (cb_X4_refuse).2, (Nat.le_of_ble_eq_true rfl), (Nat.le_of_ble_eq_true rfl)⟩ ml_X4_47 ci_X4_refuse cv_X4_refuse rfl (Nat.le_of_ble_eq_true rfl) (Nat.le_of_ble_eq_true rfl) rfl h (fun r3 S4 h2 => ?_)
    replace h := h2
    clear h2
    exact zG.ret (pc := 16) (r := some (.int r3)) ⟨dX4_ticks_16, _, rfl, rfl⟩ h
  · replace h := h.2 c1
    refine zJ.iload_n (pc := 4) 1 dX4_ticks_4 rfl rfl ?_
    refine zJ.bipush (pc := 5) (v := 99) dX4_ticks_5 (by decide) ?_
    refine zJ.icmp_le (pc := 7) (tgt := 17) dX4_ticks_7 (by decide) (fun c5 => ?_) (fun c5 => ?_)
    · replace h := h.1 c5
      refine zJ.aload_n (pc := 17) 0 dX4_ticks_17 rfl rfl ?_
      refine zG.callVv (d := mdX4_ticks) (pc := 18) [] [] (ob_0 o) ok_0 rfl dX4_ticks_18 ⟨(cb_X4_keep).1, (cb_X4_keep).2, (Nat.le_of_ble_eq_true rfl), (Nat.le_of_ble_eq_true rfl)⟩ ml_X4_51 ci_X4_keep cv_X4_keep rfl (Nat.le_of_ble_eq_true rfl) (Nat.le_of_ble_eq_true rfl) rfl h (fun S8 h2 => ?_)
      replace h := h2
      clear h2
      refine zJ.aload_n (pc := 21) 0 dX4_ticks_21 rfl rfl ?_
      refine zE.getV (pc := 22) (fd_0_0 o) ok_0 kiX4 (Nat.le_of_ble_eq_true rfl) fl_X4_10 dX4_ticks_22 ?_
      refine zE.getV (pc := 25) (fd_1_1 o 0) (ok_1 (show 0 < 8 by decide) (z_sb_le (show 0 < 8 by decide))) kiX2 (Nat.le_of_ble_eq_true rfl) fl_X4_60 dX4_ticks_25 ?_
      refine zJ.bipush (pc := 28) (v := 8) dX4_ticks_28 (by decide) ?_
      refine zE.aldI (pc := 30) (ia_3 o 0) (ok_3 (show 0 < 8 by decide) (z_sb_le (show 0 < 8 by decide))) (by unfold vp_in; decide) dX4_ticks_30 ?_
      refine zJ.istore_n (pc := 31) (lv' := [(2, .int (S8.1 (3, 0, 0) 8)), (0, .ref (z_adr o (0, 0, 0))), (1, .int x1)]) dX4_ticks_31 rfl (Nat.le_of_ble_eq_true rfl) rfl ?_
      refine zJ.aload_n (pc := 32) 1 dX4_ticks_32 rfl rfl ?_
      refine zE.getV (pc := 33) (fd_0_0 o) ok_0 kiX4 (Nat.le_of_ble_eq_true rfl) fl_X4_10 dX4_ticks_33 ?_
      refine zJ.iload_n (pc := 36) 2 dX4_ticks_36 rfl rfl ?_
      refine zG.callVv (d := mdX4_ticks) (pc := 37) [.int x1] [] (ob_1 o 0) (ok_1 (show 0 < 8 by decide) (z_sb_le (show 0 < 8 by decide))) rfl dX4_ticks_37 ⟨(cb_X2_pause).1, (cb_X2_pause).2, (Nat.le_of_ble_eq_true rfl), (Nat.le_of_ble_eq_true rfl)⟩ ml_X4_78 ci_X2_pause cv_X2_pause rfl (Nat.le_of_ble_eq_true rfl) (Nat.le_of_ble_eq_true rfl) rfl h (fun S11 h2 => ?_)
      replace h := h2
      clear h2
      refine zJ.aload_n (pc := 40) 1 dX4_ticks_40 rfl rfl ?_
      refine zE.getV (pc := 41) (fd_0_0 o) ok_0 kiX4 (Nat.le_of_ble_eq_true rfl) fl_X4_10 dX4_ticks_41 ?_
      refine zE.getV (pc := 44) (fd_1_1 o 0) (ok_1 (show 0 < 8 by decide) (z_sb_le (show 0 < 8 by decide))) kiX2 (Nat.le_of_ble_eq_true rfl) fl_X4_60 dX4_ticks_44 ?_
      refine zJ.bipush (pc := 47) (v := 8) dX4_ticks_47 (by decide) ?_
      refine zE.aldI (pc := 49) (ia_3 o 0) (ok_3 (show 0 < 8 by decide) (z_sb_le (show 0 < 8 by decide))) (by unfold vp_in; decide) dX4_ticks_49 ?_
      refine zJ.iload_n (pc := 50) 0 dX4_ticks_50 rfl rfl ?_
      refine zJ.isub (pc := 51) dX4_ticks_51 ?_
      exact zG.ret (pc := 52) (r := some (.int ((S11.1 (3, 0, 0) 8) - (S8.1 (3, 0, 0) 8)))) ⟨dX4_ticks_52, _, rfl, rfl⟩ h
    · replace h := h.2 c5
      refine zJ.aload_n (pc := 10) 0 dX4_ticks_10 rfl rfl ?_
      refine zJ.bipush (pc := 11) (v := (-2)) dX4_ticks_11 (by decide) ?_
      refine zG.callVi (d := mdX4_ticks) (pc := 13) [.int (-2)] [] (ob_0 o) ok_0 rfl dX4_ticks_13 ⟨(cb_X4_refuse).1, (cb_X4_refuse).2, (Nat.le_of_ble_eq_true rfl), (Nat.le_of_ble_eq_true rfl)⟩ ml_X4_47 ci_X4_refuse cv_X4_refuse rfl (Nat.le_of_ble_eq_true rfl) (Nat.le_of_ble_eq_true rfl) rfl h (fun r13 S14 h2 => ?_)
      replace h := h2
      clear h2
      exact zG.ret (pc := 16) (r := some (.int r13)) ⟨dX4_ticks_16, _, rfl, rfl⟩ h
set_option maxRecDepth 100000 in
set_option maxHeartbeats 4000000 in
theorem w_X4_got_0 (o : zW) (x1 : Int32) (x2 : Int32) (S : zS) (Q : Option Value → zS → Prop) (h : (x1 < 0 → (zGi o 970 mdX4_refuse [.ref (z_adr o (0, 0, 0)), .int (-2)] S (fun r3 S4 => Q (some (.int r3)) S4))) ∧ (¬ x1 < 0 → ((x2 < 0 → (zGi o 970 mdX4_refuse [.ref (z_adr o (0, 0, 0)), .int (-2)] S (fun r7 S8 => Q (some (.int r7)) S8))) ∧ (¬ x2 < 0 → ((x2 ≤ 2 → (((S.1 (12, 0, 0) 3) ≤ x1 → (Q (some (.int (-1))) S)) ∧ (¬ (S.1 (12, 0, 0) 3) ≤ x1 → ((x1 < 200 → ((¬ x2 = 0 → ((¬ x2 = 1 → (vp_in x1 200 ∧ (Q (some (.int (S.1 (15, 0, 0) x1.toNatClampNeg))) S))) ∧ (x2 = 1 → (vp_in x1 200 ∧ (Q (some (.int (S.1 (14, 0, 0) x1.toNatClampNeg))) S))))) ∧ (x2 = 0 → (vp_in x1 200 ∧ (Q (some (.int (S.1 (13, 0, 0) x1.toNatClampNeg))) S))))) ∧ (¬ x1 < 200 → (Q (some (.int (-1))) S)))))) ∧ (¬ x2 ≤ 2 → (zGi o 970 mdX4_refuse [.ref (z_adr o (0, 0, 0)), .int (-2)] S (fun r15 S16 => Q (some (.int r15)) S16)))))))) : zG o 970 mdX4_got 0 [(0, .ref (z_adr o (0, 0, 0))), (1, .int x1), (2, .int x2)] [] S Q := by
  show zJ o mdX4_got 0 _ [] (970, z_enc o S) 0 0 _
  refine zJ.iload_n (pc := 0) 1 dX4_got_0 rfl rfl ?_
  refine zJ.if_lt (pc := 1) (tgt := 13) dX4_got_1 (by decide) (fun c1 => ?_) (fun c1 => ?_)
  · replace h := h.1 c1
    refine zJ.aload_n (pc := 13) 0 dX4_got_13 rfl rfl ?_
    refine zJ.bipush (pc := 14) (v := (-2)) dX4_got_14 (by decide) ?_
    refine zG.callVi (d := mdX4_got) (pc := 16) [.int (-2)] [] (ob_0 o) ok_0 rfl dX4_got_16 ⟨(cb_X4_refuse).1, (cb_X4_refuse).2, (Nat.le_of_ble_eq_true rfl), (Nat.le_of_ble_eq_true rfl)⟩ ml_X4_47 ci_X4_refuse cv_X4_refuse rfl (Nat.le_of_ble_eq_true rfl) (Nat.le_of_ble_eq_true rfl) rfl h (fun r3 S4 h2 => ?_)
    replace h := h2
    clear h2
    exact zG.ret (pc := 19) (r := some (.int r3)) ⟨dX4_got_19, _, rfl, rfl⟩ h
  · replace h := h.2 c1
    refine zJ.iload_n (pc := 4) 2 dX4_got_4 rfl rfl ?_
    refine zJ.if_lt (pc := 5) (tgt := 13) dX4_got_5 (by decide) (fun c5 => ?_) (fun c5 => ?_)
    · replace h := h.1 c5
      refine zJ.aload_n (pc := 13) 0 dX4_got_13 rfl rfl ?_
      refine zJ.bipush (pc := 14) (v := (-2)) dX4_got_14 (by decide) ?_
      refine zG.callVi (d := mdX4_got) (pc := 16) [.int (-2)] [] (ob_0 o) ok_0 rfl dX4_got_16 ⟨(cb_X4_refuse).1, (cb_X4_refuse).2, (Nat.le_of_ble_eq_true rfl), (Nat.le_of_ble_eq_true rfl)⟩ ml_X4_47 ci_X4_refuse cv_X4_refuse rfl (Nat.le_of_ble_eq_true rfl) (Nat.le_of_ble_eq_true rfl) rfl h (fun r7 S8 h2 => ?_)
      replace h := h2
      clear h2
      exact zG.ret (pc := 19) (r := some (.int r7)) ⟨dX4_got_19, _, rfl, rfl⟩ h
    · replace h := h.2 c5
      refine zJ.iload_n (pc := 8) 2 dX4_got_8 rfl rfl ?_
      refine zJ.iconst (pc := 9) (v := 2) dX4_got_9 (by decide) ?_
      refine zJ.icmp_le (pc := 10) (tgt := 20) dX4_got_10 (by decide) (fun c9 => ?_) (fun c9 => ?_)
      · replace h := h.1 c9
        refine zJ.aload_n (pc := 20) 0 dX4_got_20 rfl rfl ?_
        refine zE.getV (pc := 21) (fd_0_0 o) ok_0 kiX4 (Nat.le_of_ble_eq_true rfl) fl_X4_10 dX4_got_21 ?_
        refine zE.getV (pc := 24) (fd_1_3 o 0) (ok_1 (show 0 < 8 by decide) (z_sb_le (show 0 < 8 by decide))) kiX2 (Nat.le_of_ble_eq_true rfl) fl_X4_105 dX4_got_24 ?_
        refine zJ.astore_n (pc := 27) (lv' := [(3, .ref (z_adr o (12, 0, 0))), (0, .ref (z_adr o (0, 0, 0))), (1, .int x1), (2, .int x2)]) dX4_got_27 rfl (Nat.le_of_ble_eq_true rfl) rfl ?_
        refine zJ.iload_n (pc := 28) 2 dX4_got_28 rfl rfl ?_
        refine zJ.aload_n (pc := 29) 0 dX4_got_29 rfl rfl ?_
        refine zE.getI (pc := 30) (fd_12_3 o 0) (ok_12 (show 0 < 8 by decide) (z_sb_le (show 0 < 8 by decide))) kiX1 (Nat.le_of_ble_eq_true rfl) fl_X4_109 dX4_got_30 ?_
        refine zJ.icmp_ge (pc := 33) (tgt := 43) dX4_got_33 (by decide) (fun c10 => ?_) (fun c10 => ?_)
        · replace h := h.1 c10
          refine zJ.iconst (pc := 43) (v := (-1)) dX4_got_43 (by decide) ?_
          exact zG.ret (pc := 44) (r := some (.int (-1))) ⟨dX4_got_44, _, rfl, rfl⟩ h
        · replace h := h.2 c10
          refine zJ.iload_n (pc := 36) 2 dX4_got_36 rfl rfl ?_
          refine zJ.sipush (pc := 37) (v := 200) dX4_got_37 (by decide) ?_
          refine zJ.icmp_lt (pc := 40) (tgt := 45) dX4_got_40 (by decide) (fun c11 => ?_) (fun c11 => ?_)
          · replace h := h.1 c11
            refine zJ.iload_n (pc := 45) 3 dX4_got_45 rfl rfl ?_
            refine zJ.if_ne (pc := 46) (tgt := 58) dX4_got_46 (by decide) (fun c12 => ?_) (fun c12 => ?_)
            · replace h := h.1 c12
              refine zJ.iload_n (pc := 58) 3 dX4_got_58 rfl rfl ?_
              refine zJ.iconst (pc := 59) (v := 1) dX4_got_59 (by decide) ?_
              refine zJ.icmp_ne (pc := 60) (tgt := 72) dX4_got_60 (by decide) (fun c13 => ?_) (fun c13 => ?_)
              · replace h := h.1 c13
                refine zJ.aload_n (pc := 72) 0 dX4_got_72 rfl rfl ?_
                refine zE.getV (pc := 73) (fd_12_2 o 0) (ok_12 (show 0 < 8 by decide) (z_sb_le (show 0 < 8 by decide))) kiX1 (Nat.le_of_ble_eq_true rfl) fl_X4_120 dX4_got_73 ?_
                refine zJ.iload_n (pc := 76) 2 dX4_got_76 rfl rfl ?_
                obtain ⟨hq, h⟩ := h
                refine zE.aldI (pc := 77) (ia_15 o 0) (ok_15 (show 0 < 8 by decide) (z_sb_le (show 0 < 8 by decide))) hq dX4_got_77 ?_
                exact zG.ret (pc := 78) (r := some (.int (S.1 (15, 0, 0) x1.toNatClampNeg))) ⟨dX4_got_78, _, rfl, rfl⟩ h
              · replace h := h.2 c13
                refine zJ.aload_n (pc := 63) 0 dX4_got_63 rfl rfl ?_
                refine zE.getV (pc := 64) (fd_12_1 o 0) (ok_12 (show 0 < 8 by decide) (z_sb_le (show 0 < 8 by decide))) kiX1 (Nat.le_of_ble_eq_true rfl) fl_X4_117 dX4_got_64 ?_
                refine zJ.iload_n (pc := 67) 2 dX4_got_67 rfl rfl ?_
                obtain ⟨hq, h⟩ := h
                refine zE.aldI (pc := 68) (ia_14 o 0) (ok_14 (show 0 < 8 by decide) (z_sb_le (show 0 < 8 by decide))) hq dX4_got_68 ?_
                refine zJ.goto (pc := 69) (tgt := 78) dX4_got_69 (by decide) ?_
                exact zG.ret (pc := 78) (r := some (.int (S.1 (14, 0, 0) x1.toNatClampNeg))) ⟨dX4_got_78, _, rfl, rfl⟩ h
            · replace h := h.2 c12
              refine zJ.aload_n (pc := 49) 0 dX4_got_49 rfl rfl ?_
              refine zE.getV (pc := 50) (fd_12_0 o 0) (ok_12 (show 0 < 8 by decide) (z_sb_le (show 0 < 8 by decide))) kiX1 (Nat.le_of_ble_eq_true rfl) fl_X4_114 dX4_got_50 ?_
              refine zJ.iload_n (pc := 53) 2 dX4_got_53 rfl rfl ?_
              obtain ⟨hq, h⟩ := h
              refine zE.aldI (pc := 54) (ia_13 o 0) (ok_13 (show 0 < 8 by decide) (z_sb_le (show 0 < 8 by decide))) hq dX4_got_54 ?_
              refine zJ.goto (pc := 55) (tgt := 78) dX4_got_55 (by decide) ?_
              exact zG.ret (pc := 78) (r := some (.int (S.1 (13, 0, 0) x1.toNatClampNeg))) ⟨dX4_got_78, _, rfl, rfl⟩ h
          · replace h := h.2 c11
            refine zJ.iconst (pc := 43) (v := (-1)) dX4_got_43 (by decide) ?_
            exact zG.ret (pc := 44) (r := some (.int (-1))) ⟨dX4_got_44, _, rfl, rfl⟩ h
      · replace h := h.2 c9
        refine zJ.aload_n (pc := 13) 0 dX4_got_13 rfl rfl ?_
        refine zJ.bipush (pc := 14) (v := (-2)) dX4_got_14 (by decide) ?_
        refine zG.callVi (d := mdX4_got) (pc := 16) [.int (-2)] [] (ob_0 o) ok_0 rfl dX4_got_16 ⟨(cb_X4_refuse).1, (cb_X4_refuse).2, (Nat.le_of_ble_eq_true rfl), (Nat.le_of_ble_eq_true rfl)⟩ ml_X4_47 ci_X4_refuse cv_X4_refuse rfl (Nat.le_of_ble_eq_true rfl) (Nat.le_of_ble_eq_true rfl) rfl h (fun r15 S16 h2 => ?_)
        replace h := h2
        clear h2
        exact zG.ret (pc := 19) (r := some (.int r15)) ⟨dX4_got_19, _, rfl, rfl⟩ h
set_option maxRecDepth 100000 in
set_option maxHeartbeats 4000000 in
theorem w_X4_often_0 (o : zW) (x1 : Int32) (S : zS) (Q : Option Value → zS → Prop) (h : (x1 < 0 → (zGi o 970 mdX4_refuse [.ref (z_adr o (0, 0, 0)), .int (-2)] S (fun r3 S4 => Q (some (.int r3)) S4))) ∧ (¬ x1 < 0 → ((x1 < 10 → (vp_in x1 10 ∧ (Q (some (.int (S.1 (3, 0, 0) x1.toNatClampNeg))) S))) ∧ (¬ x1 < 10 → (zGi o 970 mdX4_refuse [.ref (z_adr o (0, 0, 0)), .int (-2)] S (fun r7 S8 => Q (some (.int r7)) S8)))))) : zG o 970 mdX4_often 0 [(0, .ref (z_adr o (0, 0, 0))), (1, .int x1)] [] S Q := by
  show zJ o mdX4_often 0 _ [] (970, z_enc o S) 0 0 _
  refine zJ.iload_n (pc := 0) 1 dX4_often_0 rfl rfl ?_
  refine zJ.if_lt (pc := 1) (tgt := 10) dX4_often_1 (by decide) (fun c1 => ?_) (fun c1 => ?_)
  · replace h := h.1 c1
    refine zJ.aload_n (pc := 10) 0 dX4_often_10 rfl rfl ?_
    refine zJ.bipush (pc := 11) (v := (-2)) dX4_often_11 (by decide) ?_
    refine zG.callVi (d := mdX4_often) (pc := 13) [.int (-2)] [] (ob_0 o) ok_0 rfl dX4_often_13 ⟨(cb_X4_refuse).1, (cb_X4_refuse).2, (Nat.le_of_ble_eq_true rfl), (Nat.le_of_ble_eq_true rfl)⟩ ml_X4_47 ci_X4_refuse cv_X4_refuse rfl (Nat.le_of_ble_eq_true rfl) (Nat.le_of_ble_eq_true rfl) rfl h (fun r3 S4 h2 => ?_)
    replace h := h2
    clear h2
    exact zG.ret (pc := 16) (r := some (.int r3)) ⟨dX4_often_16, _, rfl, rfl⟩ h
  · replace h := h.2 c1
    refine zJ.iload_n (pc := 4) 1 dX4_often_4 rfl rfl ?_
    refine zJ.bipush (pc := 5) (v := 10) dX4_often_5 (by decide) ?_
    refine zJ.icmp_lt (pc := 7) (tgt := 17) dX4_often_7 (by decide) (fun c5 => ?_) (fun c5 => ?_)
    · replace h := h.1 c5
      refine zJ.aload_n (pc := 17) 0 dX4_often_17 rfl rfl ?_
      refine zE.getV (pc := 18) (fd_0_0 o) ok_0 kiX4 (Nat.le_of_ble_eq_true rfl) fl_X4_10 dX4_often_18 ?_
      refine zE.getV (pc := 21) (fd_1_1 o 0) (ok_1 (show 0 < 8 by decide) (z_sb_le (show 0 < 8 by decide))) kiX2 (Nat.le_of_ble_eq_true rfl) fl_X4_60 dX4_often_21 ?_
      refine zJ.iload_n (pc := 24) 1 dX4_often_24 rfl rfl ?_
      obtain ⟨hq, h⟩ := h
      refine zE.aldI (pc := 25) (ia_3 o 0) (ok_3 (show 0 < 8 by decide) (z_sb_le (show 0 < 8 by decide))) hq dX4_often_25 ?_
      exact zG.ret (pc := 26) (r := some (.int (S.1 (3, 0, 0) x1.toNatClampNeg))) ⟨dX4_often_26, _, rfl, rfl⟩ h
    · replace h := h.2 c5
      refine zJ.aload_n (pc := 10) 0 dX4_often_10 rfl rfl ?_
      refine zJ.bipush (pc := 11) (v := (-2)) dX4_often_11 (by decide) ?_
      refine zG.callVi (d := mdX4_often) (pc := 13) [.int (-2)] [] (ob_0 o) ok_0 rfl dX4_often_13 ⟨(cb_X4_refuse).1, (cb_X4_refuse).2, (Nat.le_of_ble_eq_true rfl), (Nat.le_of_ble_eq_true rfl)⟩ ml_X4_47 ci_X4_refuse cv_X4_refuse rfl (Nat.le_of_ble_eq_true rfl) (Nat.le_of_ble_eq_true rfl) rfl h (fun r7 S8 h2 => ?_)
      replace h := h2
      clear h2
      exact zG.ret (pc := 16) (r := some (.int r7)) ⟨dX4_often_16, _, rfl, rfl⟩ h
set_option maxRecDepth 100000 in
set_option maxHeartbeats 4000000 in
theorem w_X4_where_0 (o : zW) (x1 : Int32) (S : zS) (Q : Option Value → zS → Prop) (h : zGi o 970 mdX4_isBox [.int x1] S (fun r2 S3 => (¬ r2 = 0 → (vp_in x1 16 ∧ (Q (some (.int (S3.1 (5, 0, x1.toNatClampNeg) 8))) S3))) ∧ (r2 = 0 → (zGi o 970 mdX4_refuse [.ref (z_adr o (0, 0, 0)), .int (-2)] S3 (fun r7 S8 => Q (some (.int r7)) S8))))) : zG o 970 mdX4_where 0 [(0, .ref (z_adr o (0, 0, 0))), (1, .int x1)] [] S Q := by
  show zJ o mdX4_where 0 _ [] (970, z_enc o S) 0 0 _
  refine zJ.iload_n (pc := 0) 1 dX4_where_0 rfl rfl ?_
  refine zG.callSi (d := mdX4_where) (pc := 1) [.int x1] [] dX4_where_1 ⟨(cb_X4_isBox).1, (cb_X4_isBox).2, (Nat.le_of_ble_eq_true rfl), (Nat.le_of_ble_eq_true rfl)⟩ ml_X4_63 cs_X4_isBox rfl (Nat.le_of_ble_eq_true rfl) (Nat.le_of_ble_eq_true rfl) rfl h (fun r2 S3 h2 => ?_)
  replace h := h2
  clear h2
  refine zJ.if_ne (pc := 4) (tgt := 14) dX4_where_4 (by decide) (fun c4 => ?_) (fun c4 => ?_)
  · replace h := h.1 c4
    refine zJ.aload_n (pc := 14) 0 dX4_where_14 rfl rfl ?_
    refine zE.getV (pc := 15) (fd_0_0 o) ok_0 kiX4 (Nat.le_of_ble_eq_true rfl) fl_X4_10 dX4_where_15 ?_
    refine zE.getV (pc := 18) (fd_1_2 o 0) (ok_1 (show 0 < 8 by decide) (z_sb_le (show 0 < 8 by decide))) kiX2 (Nat.le_of_ble_eq_true rfl) fl_X4_70 dX4_where_18 ?_
    refine zJ.iload_n (pc := 21) 1 dX4_where_21 rfl rfl ?_
    obtain ⟨hq5, h⟩ := h
    refine zE.aldB (pc := 22) (ok_4 (show 0 < 8 by decide) (z_sb_le (show 0 < 8 by decide))) hq5 dX4_where_22 ?_
    refine zE.getI (pc := 23) (fd_5_8 o 0 x1.toNatClampNeg) (ok_5 (show 0 < 8 by decide) (z_vlt hq5) (z_sb_le (show 0 < 8 by decide))) kiX0 (Nat.le_of_ble_eq_true rfl) fl_X4_123 dX4_where_23 ?_
    exact zG.ret (pc := 26) (r := some (.int (S3.1 (5, 0, x1.toNatClampNeg) 8))) ⟨dX4_where_26, _, rfl, rfl⟩ h
  · replace h := h.2 c4
    refine zJ.aload_n (pc := 7) 0 dX4_where_7 rfl rfl ?_
    refine zJ.bipush (pc := 8) (v := (-2)) dX4_where_8 (by decide) ?_
    refine zG.callVi (d := mdX4_where) (pc := 10) [.int (-2)] [] (ob_0 o) ok_0 rfl dX4_where_10 ⟨(cb_X4_refuse).1, (cb_X4_refuse).2, (Nat.le_of_ble_eq_true rfl), (Nat.le_of_ble_eq_true rfl)⟩ ml_X4_47 ci_X4_refuse cv_X4_refuse rfl (Nat.le_of_ble_eq_true rfl) (Nat.le_of_ble_eq_true rfl) rfl h (fun r7 S8 h2 => ?_)
    replace h := h2
    clear h2
    exact zG.ret (pc := 13) (r := some (.int r7)) ⟨dX4_where_13, _, rfl, rfl⟩ h
set_option maxRecDepth 100000 in
set_option maxHeartbeats 4000000 in
theorem w_X4_item_0 (o : zW) (x1 : Int32) (x2 : Int32) (x3 : Int32) (S : zS) (Q : Option Value → zS → Prop) (h : zGi o 970 mdX4_isBox [.int x1] S (fun r2 S3 => (r2 = 0 → (zGi o 970 mdX4_refuse [.ref (z_adr o (0, 0, 0)), .int (-2)] S3 (fun r6 S7 => Q (some (.int r6)) S7))) ∧ (¬ r2 = 0 → (zGi o 970 mdX4_isItem [.int x2] S3 (fun r9 S10 => (r9 = 0 → (zGi o 970 mdX4_refuse [.ref (z_adr o (0, 0, 0)), .int (-2)] S10 (fun r13 S14 => Q (some (.int r13)) S14))) ∧ (¬ r9 = 0 → ((x3 < 0 → (zGi o 970 mdX4_refuse [.ref (z_adr o (0, 0, 0)), .int (-2)] S10 (fun r17 S18 => Q (some (.int r17)) S18))) ∧ (¬ x3 < 0 → ((x3 ≤ 2 → (vp_in x1 16 ∧ ((¬ x3 = 0 → ((¬ x3 = 1 → (zGi o 970 mdX0_changedBit [.ref (z_adr o (5, 0, x1.toNatClampNeg)), .int x2] S10 (fun r24 S25 => Q (some (.int r24)) S25))) ∧ (x3 = 1 → (zGi o 970 mdX0_valueAtLast [.ref (z_adr o (5, 0, x1.toNatClampNeg)), .int x2] S10 (fun r27 S28 => Q (some (.int r27)) S28))))) ∧ (x3 = 0 → (vp_in x2 4 ∧ (Q (some (.int (S10.1 (6, 0, x1.toNatClampNeg) x2.toNatClampNeg))) S10)))))) ∧ (¬ x3 ≤ 2 → (zGi o 970 mdX4_refuse [.ref (z_adr o (0, 0, 0)), .int (-2)] S10 (fun r30 S31 => Q (some (.int r30)) S31)))))))))))) : zG o 970 mdX4_item 0 [(0, .ref (z_adr o (0, 0, 0))), (1, .int x1), (2, .int x2), (3, .int x3)] [] S Q := by
  show zJ o mdX4_item 0 _ [] (970, z_enc o S) 0 0 _
  refine zJ.iload_n (pc := 0) 1 dX4_item_0 rfl rfl ?_
  refine zG.callSi (d := mdX4_item) (pc := 1) [.int x1] [] dX4_item_1 ⟨(cb_X4_isBox).1, (cb_X4_isBox).2, (Nat.le_of_ble_eq_true rfl), (Nat.le_of_ble_eq_true rfl)⟩ ml_X4_63 cs_X4_isBox rfl (Nat.le_of_ble_eq_true rfl) (Nat.le_of_ble_eq_true rfl) rfl h (fun r2 S3 h2 => ?_)
  replace h := h2
  clear h2
  refine zJ.if_eq (pc := 4) (tgt := 23) dX4_item_4 (by decide) (fun c4 => ?_) (fun c4 => ?_)
  · replace h := h.1 c4
    refine zJ.aload_n (pc := 23) 0 dX4_item_23 rfl rfl ?_
    refine zJ.bipush (pc := 24) (v := (-2)) dX4_item_24 (by decide) ?_
    refine zG.callVi (d := mdX4_item) (pc := 26) [.int (-2)] [] (ob_0 o) ok_0 rfl dX4_item_26 ⟨(cb_X4_refuse).1, (cb_X4_refuse).2, (Nat.le_of_ble_eq_true rfl), (Nat.le_of_ble_eq_true rfl)⟩ ml_X4_47 ci_X4_refuse cv_X4_refuse rfl (Nat.le_of_ble_eq_true rfl) (Nat.le_of_ble_eq_true rfl) rfl h (fun r6 S7 h2 => ?_)
    replace h := h2
    clear h2
    exact zG.ret (pc := 29) (r := some (.int r6)) ⟨dX4_item_29, _, rfl, rfl⟩ h
  · replace h := h.2 c4
    refine zJ.iload_n (pc := 7) 2 dX4_item_7 rfl rfl ?_
    refine zG.callSi (d := mdX4_item) (pc := 8) [.int x2] [] dX4_item_8 ⟨(cb_X4_isItem).1, (cb_X4_isItem).2, (Nat.le_of_ble_eq_true rfl), (Nat.le_of_ble_eq_true rfl)⟩ ml_X4_67 cs_X4_isItem rfl (Nat.le_of_ble_eq_true rfl) (Nat.le_of_ble_eq_true rfl) rfl h (fun r9 S10 h2 => ?_)
    replace h := h2
    clear h2
    refine zJ.if_eq (pc := 11) (tgt := 23) dX4_item_11 (by decide) (fun c11 => ?_) (fun c11 => ?_)
    · replace h := h.1 c11
      refine zJ.aload_n (pc := 23) 0 dX4_item_23 rfl rfl ?_
      refine zJ.bipush (pc := 24) (v := (-2)) dX4_item_24 (by decide) ?_
      refine zG.callVi (d := mdX4_item) (pc := 26) [.int (-2)] [] (ob_0 o) ok_0 rfl dX4_item_26 ⟨(cb_X4_refuse).1, (cb_X4_refuse).2, (Nat.le_of_ble_eq_true rfl), (Nat.le_of_ble_eq_true rfl)⟩ ml_X4_47 ci_X4_refuse cv_X4_refuse rfl (Nat.le_of_ble_eq_true rfl) (Nat.le_of_ble_eq_true rfl) rfl h (fun r13 S14 h2 => ?_)
      replace h := h2
      clear h2
      exact zG.ret (pc := 29) (r := some (.int r13)) ⟨dX4_item_29, _, rfl, rfl⟩ h
    · replace h := h.2 c11
      refine zJ.iload_n (pc := 14) 3 dX4_item_14 rfl rfl ?_
      refine zJ.if_lt (pc := 15) (tgt := 23) dX4_item_15 (by decide) (fun c15 => ?_) (fun c15 => ?_)
      · replace h := h.1 c15
        refine zJ.aload_n (pc := 23) 0 dX4_item_23 rfl rfl ?_
        refine zJ.bipush (pc := 24) (v := (-2)) dX4_item_24 (by decide) ?_
        refine zG.callVi (d := mdX4_item) (pc := 26) [.int (-2)] [] (ob_0 o) ok_0 rfl dX4_item_26 ⟨(cb_X4_refuse).1, (cb_X4_refuse).2, (Nat.le_of_ble_eq_true rfl), (Nat.le_of_ble_eq_true rfl)⟩ ml_X4_47 ci_X4_refuse cv_X4_refuse rfl (Nat.le_of_ble_eq_true rfl) (Nat.le_of_ble_eq_true rfl) rfl h (fun r17 S18 h2 => ?_)
        replace h := h2
        clear h2
        exact zG.ret (pc := 29) (r := some (.int r17)) ⟨dX4_item_29, _, rfl, rfl⟩ h
      · replace h := h.2 c15
        refine zJ.iload_n (pc := 18) 3 dX4_item_18 rfl rfl ?_
        refine zJ.iconst (pc := 19) (v := 2) dX4_item_19 (by decide) ?_
        refine zJ.icmp_le (pc := 20) (tgt := 30) dX4_item_20 (by decide) (fun c19 => ?_) (fun c19 => ?_)
        · replace h := h.1 c19
          refine zJ.aload_n (pc := 30) 0 dX4_item_30 rfl rfl ?_
          refine zE.getV (pc := 31) (fd_0_0 o) ok_0 kiX4 (Nat.le_of_ble_eq_true rfl) fl_X4_10 dX4_item_31 ?_
          refine zE.getV (pc := 34) (fd_1_2 o 0) (ok_1 (show 0 < 8 by decide) (z_sb_le (show 0 < 8 by decide))) kiX2 (Nat.le_of_ble_eq_true rfl) fl_X4_70 dX4_item_34 ?_
          refine zJ.iload_n (pc := 37) 1 dX4_item_37 rfl rfl ?_
          obtain ⟨hq20, h⟩ := h
          refine zE.aldB (pc := 38) (ok_4 (show 0 < 8 by decide) (z_sb_le (show 0 < 8 by decide))) hq20 dX4_item_38 ?_
          refine zJ.astore (pc := 39) (lv' := [(4, .ref (z_adr o (5, 0, x1.toNatClampNeg))), (0, .ref (z_adr o (0, 0, 0))), (1, .int x1), (2, .int x2), (3, .int x3)]) dX4_item_39 (Nat.le_of_ble_eq_true rfl) rfl ?_
          refine zJ.iload_n (pc := 41) 4 dX4_item_41 rfl rfl ?_
          refine zJ.if_ne (pc := 42) (tgt := 53) dX4_item_42 (by decide) (fun c21 => ?_) (fun c21 => ?_)
          · replace h := h.1 c21
            refine zJ.iload_n (pc := 53) 4 dX4_item_53 rfl rfl ?_
            refine zJ.iconst (pc := 54) (v := 1) dX4_item_54 (by decide) ?_
            refine zJ.icmp_ne (pc := 55) (tgt := 67) dX4_item_55 (by decide) (fun c22 => ?_) (fun c22 => ?_)
            · replace h := h.1 c22
              refine zJ.aload (pc := 67) 0 dX4_item_67 rfl ?_
              refine zJ.iload_n (pc := 69) 3 dX4_item_69 rfl rfl ?_
              refine zG.callVi (d := mdX4_item) (pc := 70) [.int x2] [] (ob_5 o 0 x1.toNatClampNeg) (ok_5 (show 0 < 8 by decide) (z_vlt hq20) (z_sb_le (show 0 < 8 by decide))) rfl dX4_item_70 ⟨(cb_X0_changedBit).1, (cb_X0_changedBit).2, (Nat.le_of_ble_eq_true rfl), (Nat.le_of_ble_eq_true rfl)⟩ ml_X4_134 ci_X0_changedBit cv_X0_changedBit rfl (Nat.le_of_ble_eq_true rfl) (Nat.le_of_ble_eq_true rfl) rfl h (fun r24 S25 h2 => ?_)
              replace h := h2
              clear h2
              exact zG.ret (pc := 73) (r := some (.int r24)) ⟨dX4_item_73, _, rfl, rfl⟩ h
            · replace h := h.2 c22
              refine zJ.aload (pc := 58) 0 dX4_item_58 rfl ?_
              refine zJ.iload_n (pc := 60) 3 dX4_item_60 rfl rfl ?_
              refine zG.callVi (d := mdX4_item) (pc := 61) [.int x2] [] (ob_5 o 0 x1.toNatClampNeg) (ok_5 (show 0 < 8 by decide) (z_vlt hq20) (z_sb_le (show 0 < 8 by decide))) rfl dX4_item_61 ⟨(cb_X0_valueAtLast).1, (cb_X0_valueAtLast).2, (Nat.le_of_ble_eq_true rfl), (Nat.le_of_ble_eq_true rfl)⟩ ml_X4_131 ci_X0_valueAtLast cv_X0_valueAtLast rfl (Nat.le_of_ble_eq_true rfl) (Nat.le_of_ble_eq_true rfl) rfl h (fun r27 S28 h2 => ?_)
              replace h := h2
              clear h2
              refine zJ.goto (pc := 64) (tgt := 73) dX4_item_64 (by decide) ?_
              exact zG.ret (pc := 73) (r := some (.int r27)) ⟨dX4_item_73, _, rfl, rfl⟩ h
          · replace h := h.2 c21
            refine zJ.aload (pc := 45) 0 dX4_item_45 rfl ?_
            refine zE.getV (pc := 47) (fd_5_1 o 0 x1.toNatClampNeg) (ok_5 (show 0 < 8 by decide) (z_vlt hq20) (z_sb_le (show 0 < 8 by decide))) kiX0 (Nat.le_of_ble_eq_true rfl) fl_X4_128 dX4_item_47 ?_
            refine zJ.iload_n (pc := 50) 3 dX4_item_50 rfl rfl ?_
            obtain ⟨hq, h⟩ := h
            refine zE.aldI (pc := 51) (ia_6 o 0 x1.toNatClampNeg) (ok_6 (show 0 < 8 by decide) (z_vlt hq20) (z_sb_le (show 0 < 8 by decide))) hq dX4_item_51 ?_
            exact zG.ret (pc := 52) (r := some (.int (S10.1 (6, 0, x1.toNatClampNeg) x2.toNatClampNeg))) ⟨dX4_item_52, _, rfl, rfl⟩ h
        · replace h := h.2 c19
          refine zJ.aload_n (pc := 23) 0 dX4_item_23 rfl rfl ?_
          refine zJ.bipush (pc := 24) (v := (-2)) dX4_item_24 (by decide) ?_
          refine zG.callVi (d := mdX4_item) (pc := 26) [.int (-2)] [] (ob_0 o) ok_0 rfl dX4_item_26 ⟨(cb_X4_refuse).1, (cb_X4_refuse).2, (Nat.le_of_ble_eq_true rfl), (Nat.le_of_ble_eq_true rfl)⟩ ml_X4_47 ci_X4_refuse cv_X4_refuse rfl (Nat.le_of_ble_eq_true rfl) (Nat.le_of_ble_eq_true rfl) rfl h (fun r30 S31 h2 => ?_)
          replace h := h2
          clear h2
          exact zG.ret (pc := 29) (r := some (.int r30)) ⟨dX4_item_29, _, rfl, rfl⟩ h
set_option maxRecDepth 100000 in
set_option maxHeartbeats 4000000 in
theorem w_X4_place_0 (o : zW) (x1 : Int32) (x2 : Int32) (S : zS) (Q : Option Value → zS → Prop) (h : (x1 < 0 → (zGi o 970 mdX4_refuse [.ref (z_adr o (0, 0, 0)), .int (-2)] S (fun r3 S4 => Q (some (.int r3)) S4))) ∧ (¬ x1 < 0 → ((4 ≤ x1 → (zGi o 970 mdX4_refuse [.ref (z_adr o (0, 0, 0)), .int (-2)] S (fun r7 S8 => Q (some (.int r7)) S8))) ∧ (¬ 4 ≤ x1 → ((x2 < 0 → (zGi o 970 mdX4_refuse [.ref (z_adr o (0, 0, 0)), .int (-2)] S (fun r11 S12 => Q (some (.int r11)) S12))) ∧ (¬ x2 < 0 → ((x2 < 3 → (zGi o 970 mdX2_boxInPlace [.ref (z_adr o (1, 0, 0)), .int x1, .int x2] S (fun r15 S16 => Q (some (.int r15)) S16))) ∧ (¬ x2 < 3 → (zGi o 970 mdX4_refuse [.ref (z_adr o (0, 0, 0)), .int (-2)] S (fun r18 S19 => Q (some (.int r18)) S19)))))))))) : zG o 970 mdX4_place 0 [(0, .ref (z_adr o (0, 0, 0))), (1, .int x1), (2, .int x2)] [] S Q := by
  show zJ o mdX4_place 0 _ [] (970, z_enc o S) 0 0 _
  refine zJ.iload_n (pc := 0) 1 dX4_place_0 rfl rfl ?_
  refine zJ.if_lt (pc := 1) (tgt := 18) dX4_place_1 (by decide) (fun c1 => ?_) (fun c1 => ?_)
  · replace h := h.1 c1
    refine zJ.aload_n (pc := 18) 0 dX4_place_18 rfl rfl ?_
    refine zJ.bipush (pc := 19) (v := (-2)) dX4_place_19 (by decide) ?_
    refine zG.callVi (d := mdX4_place) (pc := 21) [.int (-2)] [] (ob_0 o) ok_0 rfl dX4_place_21 ⟨(cb_X4_refuse).1, (cb_X4_refuse).2, (Nat.le_of_ble_eq_true rfl), (Nat.le_of_ble_eq_true rfl)⟩ ml_X4_47 ci_X4_refuse cv_X4_refuse rfl (Nat.le_of_ble_eq_true rfl) (Nat.le_of_ble_eq_true rfl) rfl h (fun r3 S4 h2 => ?_)
    replace h := h2
    clear h2
    exact zG.ret (pc := 24) (r := some (.int r3)) ⟨dX4_place_24, _, rfl, rfl⟩ h
  · replace h := h.2 c1
    refine zJ.iload_n (pc := 4) 1 dX4_place_4 rfl rfl ?_
    refine zJ.iconst (pc := 5) (v := 4) dX4_place_5 (by decide) ?_
    refine zJ.icmp_ge (pc := 6) (tgt := 18) dX4_place_6 (by decide) (fun c5 => ?_) (fun c5 => ?_)
    · replace h := h.1 c5
      refine zJ.aload_n (pc := 18) 0 dX4_place_18 rfl rfl ?_
      refine zJ.bipush (pc := 19) (v := (-2)) dX4_place_19 (by decide) ?_
      refine zG.callVi (d := mdX4_place) (pc := 21) [.int (-2)] [] (ob_0 o) ok_0 rfl dX4_place_21 ⟨(cb_X4_refuse).1, (cb_X4_refuse).2, (Nat.le_of_ble_eq_true rfl), (Nat.le_of_ble_eq_true rfl)⟩ ml_X4_47 ci_X4_refuse cv_X4_refuse rfl (Nat.le_of_ble_eq_true rfl) (Nat.le_of_ble_eq_true rfl) rfl h (fun r7 S8 h2 => ?_)
      replace h := h2
      clear h2
      exact zG.ret (pc := 24) (r := some (.int r7)) ⟨dX4_place_24, _, rfl, rfl⟩ h
    · replace h := h.2 c5
      refine zJ.iload_n (pc := 9) 2 dX4_place_9 rfl rfl ?_
      refine zJ.if_lt (pc := 10) (tgt := 18) dX4_place_10 (by decide) (fun c9 => ?_) (fun c9 => ?_)
      · replace h := h.1 c9
        refine zJ.aload_n (pc := 18) 0 dX4_place_18 rfl rfl ?_
        refine zJ.bipush (pc := 19) (v := (-2)) dX4_place_19 (by decide) ?_
        refine zG.callVi (d := mdX4_place) (pc := 21) [.int (-2)] [] (ob_0 o) ok_0 rfl dX4_place_21 ⟨(cb_X4_refuse).1, (cb_X4_refuse).2, (Nat.le_of_ble_eq_true rfl), (Nat.le_of_ble_eq_true rfl)⟩ ml_X4_47 ci_X4_refuse cv_X4_refuse rfl (Nat.le_of_ble_eq_true rfl) (Nat.le_of_ble_eq_true rfl) rfl h (fun r11 S12 h2 => ?_)
        replace h := h2
        clear h2
        exact zG.ret (pc := 24) (r := some (.int r11)) ⟨dX4_place_24, _, rfl, rfl⟩ h
      · replace h := h.2 c9
        refine zJ.iload_n (pc := 13) 2 dX4_place_13 rfl rfl ?_
        refine zJ.iconst (pc := 14) (v := 3) dX4_place_14 (by decide) ?_
        refine zJ.icmp_lt (pc := 15) (tgt := 25) dX4_place_15 (by decide) (fun c13 => ?_) (fun c13 => ?_)
        · replace h := h.1 c13
          refine zJ.aload_n (pc := 25) 0 dX4_place_25 rfl rfl ?_
          refine zE.getV (pc := 26) (fd_0_0 o) ok_0 kiX4 (Nat.le_of_ble_eq_true rfl) fl_X4_10 dX4_place_26 ?_
          refine zJ.iload_n (pc := 29) 1 dX4_place_29 rfl rfl ?_
          refine zJ.iload_n (pc := 30) 2 dX4_place_30 rfl rfl ?_
          refine zG.callVi (d := mdX4_place) (pc := 31) [.int x1, .int x2] [] (ob_1 o 0) (ok_1 (show 0 < 8 by decide) (z_sb_le (show 0 < 8 by decide))) rfl dX4_place_31 ⟨(cb_X2_boxInPlace).1, (cb_X2_boxInPlace).2, (Nat.le_of_ble_eq_true rfl), (Nat.le_of_ble_eq_true rfl)⟩ ml_X4_137 ci_X2_boxInPlace cv_X2_boxInPlace rfl (Nat.le_of_ble_eq_true rfl) (Nat.le_of_ble_eq_true rfl) rfl h (fun r15 S16 h2 => ?_)
          replace h := h2
          clear h2
          exact zG.ret (pc := 34) (r := some (.int r15)) ⟨dX4_place_34, _, rfl, rfl⟩ h
        · replace h := h.2 c13
          refine zJ.aload_n (pc := 18) 0 dX4_place_18 rfl rfl ?_
          refine zJ.bipush (pc := 19) (v := (-2)) dX4_place_19 (by decide) ?_
          refine zG.callVi (d := mdX4_place) (pc := 21) [.int (-2)] [] (ob_0 o) ok_0 rfl dX4_place_21 ⟨(cb_X4_refuse).1, (cb_X4_refuse).2, (Nat.le_of_ble_eq_true rfl), (Nat.le_of_ble_eq_true rfl)⟩ ml_X4_47 ci_X4_refuse cv_X4_refuse rfl (Nat.le_of_ble_eq_true rfl) (Nat.le_of_ble_eq_true rfl) rfl h (fun r18 S19 h2 => ?_)
          replace h := h2
          clear h2
          exact zG.ret (pc := 24) (r := some (.int r18)) ⟨dX4_place_24, _, rfl, rfl⟩ h
set_option maxRecDepth 100000 in
set_option maxHeartbeats 4000000 in
theorem w_X4_fetch_0 (o : zW) (x1 : Int32) (x2 : Int32) (S : zS) (Q : Option Value → zS → Prop) (h : (x1 < 0 → (zGi o 970 mdX4_refuse [.ref (z_adr o (0, 0, 0)), .int (-2)] S (fun r3 S4 => Q (some (.int r3)) S4))) ∧ (¬ x1 < 0 → ((x2 < 0 → (zGi o 970 mdX4_refuse [.ref (z_adr o (0, 0, 0)), .int (-2)] S (fun r7 S8 => Q (some (.int r7)) S8))) ∧ (¬ x2 < 0 → ((x2 ≤ 2 → (zGq o 970 mdX2_boxOfFetch 0 [.ref (z_adr o (1, 0, 0)), .int x1] S (fun r11 S12 => (r11 = none → (Q (some (.int (-1))) S12)) ∧ (∀ b14, r11 = some b14 → ((¬ x2 = 0 → ((¬ x2 = 1 → (Q (some (.int (S12.1 (5, 0, b14) 7))) S12)) ∧ (x2 = 1 → (Q (some (.int ((S12.1 (5, 0, b14) 10) - (S12.1 (3, 0, 0) 9)))) S12)))) ∧ (x2 = 0 → (Q (some (.int (nI b14))) S12))))))) ∧ (¬ x2 ≤ 2 → (zGi o 970 mdX4_refuse [.ref (z_adr o (0, 0, 0)), .int (-2)] S (fun r18 S19 => Q (some (.int r18)) S19)))))))) : zG o 970 mdX4_fetch 0 [(0, .ref (z_adr o (0, 0, 0))), (1, .int x1), (2, .int x2)] [] S Q := by
  show zJ o mdX4_fetch 0 _ [] (970, z_enc o S) 0 0 _
  refine zJ.iload_n (pc := 0) 1 dX4_fetch_0 rfl rfl ?_
  refine zJ.if_lt (pc := 1) (tgt := 13) dX4_fetch_1 (by decide) (fun c1 => ?_) (fun c1 => ?_)
  · replace h := h.1 c1
    refine zJ.aload_n (pc := 13) 0 dX4_fetch_13 rfl rfl ?_
    refine zJ.bipush (pc := 14) (v := (-2)) dX4_fetch_14 (by decide) ?_
    refine zG.callVi (d := mdX4_fetch) (pc := 16) [.int (-2)] [] (ob_0 o) ok_0 rfl dX4_fetch_16 ⟨(cb_X4_refuse).1, (cb_X4_refuse).2, (Nat.le_of_ble_eq_true rfl), (Nat.le_of_ble_eq_true rfl)⟩ ml_X4_47 ci_X4_refuse cv_X4_refuse rfl (Nat.le_of_ble_eq_true rfl) (Nat.le_of_ble_eq_true rfl) rfl h (fun r3 S4 h2 => ?_)
    replace h := h2
    clear h2
    exact zG.ret (pc := 19) (r := some (.int r3)) ⟨dX4_fetch_19, _, rfl, rfl⟩ h
  · replace h := h.2 c1
    refine zJ.iload_n (pc := 4) 2 dX4_fetch_4 rfl rfl ?_
    refine zJ.if_lt (pc := 5) (tgt := 13) dX4_fetch_5 (by decide) (fun c5 => ?_) (fun c5 => ?_)
    · replace h := h.1 c5
      refine zJ.aload_n (pc := 13) 0 dX4_fetch_13 rfl rfl ?_
      refine zJ.bipush (pc := 14) (v := (-2)) dX4_fetch_14 (by decide) ?_
      refine zG.callVi (d := mdX4_fetch) (pc := 16) [.int (-2)] [] (ob_0 o) ok_0 rfl dX4_fetch_16 ⟨(cb_X4_refuse).1, (cb_X4_refuse).2, (Nat.le_of_ble_eq_true rfl), (Nat.le_of_ble_eq_true rfl)⟩ ml_X4_47 ci_X4_refuse cv_X4_refuse rfl (Nat.le_of_ble_eq_true rfl) (Nat.le_of_ble_eq_true rfl) rfl h (fun r7 S8 h2 => ?_)
      replace h := h2
      clear h2
      exact zG.ret (pc := 19) (r := some (.int r7)) ⟨dX4_fetch_19, _, rfl, rfl⟩ h
    · replace h := h.2 c5
      refine zJ.iload_n (pc := 8) 2 dX4_fetch_8 rfl rfl ?_
      refine zJ.iconst (pc := 9) (v := 2) dX4_fetch_9 (by decide) ?_
      refine zJ.icmp_le (pc := 10) (tgt := 20) dX4_fetch_10 (by decide) (fun c9 => ?_) (fun c9 => ?_)
      · replace h := h.1 c9
        refine zJ.aload_n (pc := 20) 0 dX4_fetch_20 rfl rfl ?_
        refine zE.getV (pc := 21) (fd_0_0 o) ok_0 kiX4 (Nat.le_of_ble_eq_true rfl) fl_X4_10 dX4_fetch_21 ?_
        refine zJ.iload_n (pc := 24) 1 dX4_fetch_24 rfl rfl ?_
        refine zG.callVq (d := mdX4_fetch) (pc := 25) 0 [.int x1] [] (ob_1 o 0) (ok_1 (show 0 < 8 by decide) (z_sb_le (show 0 < 8 by decide))) rfl dX4_fetch_25 ⟨(cb_X2_boxOfFetch).1, (cb_X2_boxOfFetch).2, (Nat.le_of_ble_eq_true rfl), (Nat.le_of_ble_eq_true rfl)⟩ ml_X4_141 ci_X2_boxOfFetch cv_X2_boxOfFetch rfl (Nat.le_of_ble_eq_true rfl) (Nat.le_of_ble_eq_true rfl) rfl h (fun r11 S12 hx13 h2 => ?_)
        replace h := h2
        clear h2
        refine zJ.astoreq_n (pc := 28) (x := z_bo o 0 r11) (lv' := [(3, va_rf (z_bo o 0 r11)), (0, .ref (z_adr o (0, 0, 0))), (1, .int x1), (2, .int x2)]) dX4_fetch_28 rfl (Nat.le_of_ble_eq_true rfl) rfl ?_
        refine zJ.aloadq_n (pc := 29) (x := z_bo o 0 r11) 0 dX4_fetch_29 rfl rfl ?_
        refine zE.ifnonnull (pc := 30) (tgt := 35) dX4_fetch_30 (by decide) ?_ ?_
        · intro b14 hz
          replace h := h.2 b14 hz
          subst hz
          refine zJ.iload_n (pc := 35) 3 dX4_fetch_35 rfl rfl ?_
          refine zJ.if_ne (pc := 36) (tgt := 46) dX4_fetch_36 (by decide) (fun c15 => ?_) (fun c15 => ?_)
          · replace h := h.1 c15
            refine zJ.iload_n (pc := 46) 3 dX4_fetch_46 rfl rfl ?_
            refine zJ.iconst (pc := 47) (v := 1) dX4_fetch_47 (by decide) ?_
            refine zJ.icmp_ne (pc := 48) (tgt := 69) dX4_fetch_48 (by decide) (fun c16 => ?_) (fun c16 => ?_)
            · replace h := h.1 c16
              refine zJ.aload_n (pc := 69) 0 dX4_fetch_69 rfl rfl ?_
              refine zE.getI (pc := 70) (fd_5_7 o 0 b14) (ok_5 (show 0 < 8 by decide) (hx13 b14 rfl) (z_sb_le (show 0 < 8 by decide))) kiX0 (Nat.le_of_ble_eq_true rfl) fl_X4_151 dX4_fetch_70 ?_
              exact zG.ret (pc := 73) (r := some (.int (S12.1 (5, 0, b14) 7))) ⟨dX4_fetch_73, _, rfl, rfl⟩ h
            · replace h := h.2 c16
              refine zJ.aload_n (pc := 51) 0 dX4_fetch_51 rfl rfl ?_
              refine zE.getI (pc := 52) (fd_5_10 o 0 b14) (ok_5 (show 0 < 8 by decide) (hx13 b14 rfl) (z_sb_le (show 0 < 8 by decide))) kiX0 (Nat.le_of_ble_eq_true rfl) fl_X4_148 dX4_fetch_52 ?_
              refine zJ.aload_n (pc := 55) 1 dX4_fetch_55 rfl rfl ?_
              refine zE.getV (pc := 56) (fd_0_0 o) ok_0 kiX4 (Nat.le_of_ble_eq_true rfl) fl_X4_10 dX4_fetch_56 ?_
              refine zE.getV (pc := 59) (fd_1_1 o 0) (ok_1 (show 0 < 8 by decide) (z_sb_le (show 0 < 8 by decide))) kiX2 (Nat.le_of_ble_eq_true rfl) fl_X4_60 dX4_fetch_59 ?_
              refine zJ.bipush (pc := 62) (v := 9) dX4_fetch_62 (by decide) ?_
              refine zE.aldI (pc := 64) (ia_3 o 0) (ok_3 (show 0 < 8 by decide) (z_sb_le (show 0 < 8 by decide))) (by unfold vp_in; decide) dX4_fetch_64 ?_
              refine zJ.isub (pc := 65) dX4_fetch_65 ?_
              refine zJ.goto (pc := 66) (tgt := 73) dX4_fetch_66 (by decide) ?_
              exact zG.ret (pc := 73) (r := some (.int ((S12.1 (5, 0, b14) 10) - (S12.1 (3, 0, 0) 9)))) ⟨dX4_fetch_73, _, rfl, rfl⟩ h
          · replace h := h.2 c15
            refine zJ.aload_n (pc := 39) 0 dX4_fetch_39 rfl rfl ?_
            refine zE.getV (pc := 40) (fd_5_0 o 0 b14) (ok_5 (show 0 < 8 by decide) (hx13 b14 rfl) (z_sb_le (show 0 < 8 by decide))) kiX0 (Nat.le_of_ble_eq_true rfl) fl_X4_145 dX4_fetch_40 ?_
            refine zJ.goto (pc := 43) (tgt := 73) dX4_fetch_43 (by decide) ?_
            exact zG.ret (pc := 73) (r := some (.int (nI b14))) ⟨dX4_fetch_73, _, rfl, rfl⟩ h
        · intro hz
          replace h := h.1 hz
          subst hz
          refine zJ.iconst (pc := 33) (v := (-1)) dX4_fetch_33 (by decide) ?_
          exact zG.ret (pc := 34) (r := some (.int (-1))) ⟨dX4_fetch_34, _, rfl, rfl⟩ h
      · replace h := h.2 c9
        refine zJ.aload_n (pc := 13) 0 dX4_fetch_13 rfl rfl ?_
        refine zJ.bipush (pc := 14) (v := (-2)) dX4_fetch_14 (by decide) ?_
        refine zG.callVi (d := mdX4_fetch) (pc := 16) [.int (-2)] [] (ob_0 o) ok_0 rfl dX4_fetch_16 ⟨(cb_X4_refuse).1, (cb_X4_refuse).2, (Nat.le_of_ble_eq_true rfl), (Nat.le_of_ble_eq_true rfl)⟩ ml_X4_47 ci_X4_refuse cv_X4_refuse rfl (Nat.le_of_ble_eq_true rfl) (Nat.le_of_ble_eq_true rfl) rfl h (fun r18 S19 h2 => ?_)
        replace h := h2
        clear h2
        exact zG.ret (pc := 19) (r := some (.int r18)) ⟨dX4_fetch_19, _, rfl, rfl⟩ h
set_option maxRecDepth 100000 in
set_option maxHeartbeats 4000000 in
theorem w_X4_cost_0 (o : zW) (x1 : Int32) (S : zS) (Q : Option Value → zS → Prop) (h : (x1 < 0 → (zGi o 970 mdX4_refuse [.ref (z_adr o (0, 0, 0)), .int (-2)] S (fun r3 S4 => Q (some (.int r3)) S4))) ∧ (¬ x1 < 0 → ((x1 ≤ 2 → ((¬ x1 = 0 → ((¬ x1 = 1 → (zGi o 970 mdX4_floatBits [.float (FP.i2f (S.1 (12, 0, 0) 5))] S (fun r9 S10 => Q (some (.int r9)) S10))) ∧ (x1 = 1 → (zGf o 970 mdX1_meanWait [.ref (z_adr o (12, 0, 0))] S (fun r12 S13 => zGi o 970 mdX4_floatBits [.float r12] S13 (fun r15 S16 => Q (some (.int r15)) S16)))))) ∧ (x1 = 0 → (zGi o 970 mdX4_floatBits [.float (S.2.2 (1, 0, 0) 4)] S (fun r18 S19 => Q (some (.int r18)) S19))))) ∧ (¬ x1 ≤ 2 → (zGi o 970 mdX4_refuse [.ref (z_adr o (0, 0, 0)), .int (-2)] S (fun r21 S22 => Q (some (.int r21)) S22)))))) : zG o 970 mdX4_cost 0 [(0, .ref (z_adr o (0, 0, 0))), (1, .int x1)] [] S Q := by
  show zJ o mdX4_cost 0 _ [] (970, z_enc o S) 0 0 _
  refine zJ.iload_n (pc := 0) 1 dX4_cost_0 rfl rfl ?_
  refine zJ.if_lt (pc := 1) (tgt := 9) dX4_cost_1 (by decide) (fun c1 => ?_) (fun c1 => ?_)
  · replace h := h.1 c1
    refine zJ.aload_n (pc := 9) 0 dX4_cost_9 rfl rfl ?_
    refine zJ.bipush (pc := 10) (v := (-2)) dX4_cost_10 (by decide) ?_
    refine zG.callVi (d := mdX4_cost) (pc := 12) [.int (-2)] [] (ob_0 o) ok_0 rfl dX4_cost_12 ⟨(cb_X4_refuse).1, (cb_X4_refuse).2, (Nat.le_of_ble_eq_true rfl), (Nat.le_of_ble_eq_true rfl)⟩ ml_X4_47 ci_X4_refuse cv_X4_refuse rfl (Nat.le_of_ble_eq_true rfl) (Nat.le_of_ble_eq_true rfl) rfl h (fun r3 S4 h2 => ?_)
    replace h := h2
    clear h2
    exact zG.ret (pc := 15) (r := some (.int r3)) ⟨dX4_cost_15, _, rfl, rfl⟩ h
  · replace h := h.2 c1
    refine zJ.iload_n (pc := 4) 1 dX4_cost_4 rfl rfl ?_
    refine zJ.iconst (pc := 5) (v := 2) dX4_cost_5 (by decide) ?_
    refine zJ.icmp_le (pc := 6) (tgt := 16) dX4_cost_6 (by decide) (fun c5 => ?_) (fun c5 => ?_)
    · replace h := h.1 c5
      refine zJ.aload_n (pc := 16) 0 dX4_cost_16 rfl rfl ?_
      refine zE.getV (pc := 17) (fd_0_0 o) ok_0 kiX4 (Nat.le_of_ble_eq_true rfl) fl_X4_10 dX4_cost_17 ?_
      refine zE.getV (pc := 20) (fd_1_3 o 0) (ok_1 (show 0 < 8 by decide) (z_sb_le (show 0 < 8 by decide))) kiX2 (Nat.le_of_ble_eq_true rfl) fl_X4_105 dX4_cost_20 ?_
      refine zJ.astore_n (pc := 23) (lv' := [(2, .ref (z_adr o (12, 0, 0))), (0, .ref (z_adr o (0, 0, 0))), (1, .int x1)]) dX4_cost_23 rfl (Nat.le_of_ble_eq_true rfl) rfl ?_
      refine zJ.iload_n (pc := 24) 2 dX4_cost_24 rfl rfl ?_
      refine zJ.if_ne (pc := 25) (tgt := 38) dX4_cost_25 (by decide) (fun c6 => ?_) (fun c6 => ?_)
      · replace h := h.1 c6
        refine zJ.iload_n (pc := 38) 2 dX4_cost_38 rfl rfl ?_
        refine zJ.iconst (pc := 39) (v := 1) dX4_cost_39 (by decide) ?_
        refine zJ.icmp_ne (pc := 40) (tgt := 50) dX4_cost_40 (by decide) (fun c7 => ?_) (fun c7 => ?_)
        · replace h := h.1 c7
          refine zJ.aload_n (pc := 50) 0 dX4_cost_50 rfl rfl ?_
          refine zE.getI (pc := 51) (fd_12_5 o 0) (ok_12 (show 0 < 8 by decide) (z_sb_le (show 0 < 8 by decide))) kiX1 (Nat.le_of_ble_eq_true rfl) fl_X4_162 dX4_cost_51 ?_
          refine zJ.i2f (pc := 54) dX4_cost_54 ?_
          refine zG.callSi (d := mdX4_cost) (pc := 55) [.float (FP.i2f (S.1 (12, 0, 0) 5))] [] dX4_cost_55 ⟨(cb_X4_floatBits).1, (cb_X4_floatBits).2, (Nat.le_of_ble_eq_true rfl), (Nat.le_of_ble_eq_true rfl)⟩ ml_X4_165 cs_X4_floatBits rfl (Nat.le_of_ble_eq_true rfl) (Nat.le_of_ble_eq_true rfl) rfl h (fun r9 S10 h2 => ?_)
          replace h := h2
          clear h2
          exact zG.ret (pc := 58) (r := some (.int r9)) ⟨dX4_cost_58, _, rfl, rfl⟩ h
        · replace h := h.2 c7
          refine zJ.aload_n (pc := 43) 0 dX4_cost_43 rfl rfl ?_
          refine zG.callVf (d := mdX4_cost) (pc := 44) [] [] (ob_12 o 0) (ok_12 (show 0 < 8 by decide) (z_sb_le (show 0 < 8 by decide))) rfl dX4_cost_44 ⟨(cb_X1_meanWait).1, (cb_X1_meanWait).2, (Nat.le_of_ble_eq_true rfl), (Nat.le_of_ble_eq_true rfl)⟩ ml_X4_158 ci_X1_meanWait cv_X1_meanWait rfl (Nat.le_of_ble_eq_true rfl) (Nat.le_of_ble_eq_true rfl) rfl h (fun r12 S13 h2 => ?_)
          replace h := h2
          clear h2
          refine zJ.goto (pc := 47) (tgt := 55) dX4_cost_47 (by decide) ?_
          refine zG.callSi (d := mdX4_cost) (pc := 55) [.float r12] [] dX4_cost_55 ⟨(cb_X4_floatBits).1, (cb_X4_floatBits).2, (Nat.le_of_ble_eq_true rfl), (Nat.le_of_ble_eq_true rfl)⟩ ml_X4_165 cs_X4_floatBits rfl (Nat.le_of_ble_eq_true rfl) (Nat.le_of_ble_eq_true rfl) rfl h (fun r15 S16 h2 => ?_)
          replace h := h2
          clear h2
          exact zG.ret (pc := 58) (r := some (.int r15)) ⟨dX4_cost_58, _, rfl, rfl⟩ h
      · replace h := h.2 c6
        refine zJ.aload_n (pc := 28) 1 dX4_cost_28 rfl rfl ?_
        refine zE.getV (pc := 29) (fd_0_0 o) ok_0 kiX4 (Nat.le_of_ble_eq_true rfl) fl_X4_10 dX4_cost_29 ?_
        refine zE.getF (pc := 32) (fd_1_4 o 0) (ok_1 (show 0 < 8 by decide) (z_sb_le (show 0 < 8 by decide))) kiX2 (Nat.le_of_ble_eq_true rfl) fl_X4_154 dX4_cost_32 ?_
        refine zJ.goto (pc := 35) (tgt := 55) dX4_cost_35 (by decide) ?_
        refine zG.callSi (d := mdX4_cost) (pc := 55) [.float (S.2.2 (1, 0, 0) 4)] [] dX4_cost_55 ⟨(cb_X4_floatBits).1, (cb_X4_floatBits).2, (Nat.le_of_ble_eq_true rfl), (Nat.le_of_ble_eq_true rfl)⟩ ml_X4_165 cs_X4_floatBits rfl (Nat.le_of_ble_eq_true rfl) (Nat.le_of_ble_eq_true rfl) rfl h (fun r18 S19 h2 => ?_)
        replace h := h2
        clear h2
        exact zG.ret (pc := 58) (r := some (.int r18)) ⟨dX4_cost_58, _, rfl, rfl⟩ h
    · replace h := h.2 c5
      refine zJ.aload_n (pc := 9) 0 dX4_cost_9 rfl rfl ?_
      refine zJ.bipush (pc := 10) (v := (-2)) dX4_cost_10 (by decide) ?_
      refine zG.callVi (d := mdX4_cost) (pc := 12) [.int (-2)] [] (ob_0 o) ok_0 rfl dX4_cost_12 ⟨(cb_X4_refuse).1, (cb_X4_refuse).2, (Nat.le_of_ble_eq_true rfl), (Nat.le_of_ble_eq_true rfl)⟩ ml_X4_47 ci_X4_refuse cv_X4_refuse rfl (Nat.le_of_ble_eq_true rfl) (Nat.le_of_ble_eq_true rfl) rfl h (fun r21 S22 h2 => ?_)
      replace h := h2
      clear h2
      exact zG.ret (pc := 15) (r := some (.int r21)) ⟨dX4_cost_15, _, rfl, rfl⟩ h
set_option maxRecDepth 100000 in
set_option maxHeartbeats 4000000 in
theorem w_X4_even_0 (o : zW)  (S : zS) (Q : Option Value → zS → Prop) (h : zGd o 970 mdX1_spread [.ref (z_adr o (12, 0, 0))] S (fun r2 S3 => zGl o 970 mdX4_doubleBits [.double r2] S3 (fun r5 S6 => Q (some (.long r5)) S6))) : zG o 970 mdX4_even 0 [(0, .ref (z_adr o (0, 0, 0)))] [] S Q := by
  show zJ o mdX4_even 0 _ [] (970, z_enc o S) 0 0 _
  refine zJ.aload_n (pc := 0) 0 dX4_even_0 rfl rfl ?_
  refine zE.getV (pc := 1) (fd_0_0 o) ok_0 kiX4 (Nat.le_of_ble_eq_true rfl) fl_X4_10 dX4_even_1 ?_
  refine zE.getV (pc := 4) (fd_1_3 o 0) (ok_1 (show 0 < 8 by decide) (z_sb_le (show 0 < 8 by decide))) kiX2 (Nat.le_of_ble_eq_true rfl) fl_X4_105 dX4_even_4 ?_
  refine zG.callVd (d := mdX4_even) (pc := 7) [] [] (ob_12 o 0) (ok_12 (show 0 < 8 by decide) (z_sb_le (show 0 < 8 by decide))) rfl dX4_even_7 ⟨(cb_X1_spread).1, (cb_X1_spread).2, (Nat.le_of_ble_eq_true rfl), (Nat.le_of_ble_eq_true rfl)⟩ ml_X4_169 ci_X1_spread cv_X1_spread rfl (Nat.le_of_ble_eq_true rfl) (Nat.le_of_ble_eq_true rfl) rfl h (fun r2 S3 h2 => ?_)
  replace h := h2
  clear h2
  refine zG.callSl (d := mdX4_even) (pc := 10) [.double r2] [] dX4_even_10 ⟨(cb_X4_doubleBits).1, (cb_X4_doubleBits).2, (Nat.le_of_ble_eq_true rfl), (Nat.le_of_ble_eq_true rfl)⟩ ml_X4_173 cs_X4_doubleBits rfl (Nat.le_of_ble_eq_true rfl) (Nat.le_of_ble_eq_true rfl) rfl h (fun r5 S6 h2 => ?_)
  replace h := h2
  clear h2
  exact zG.ret (pc := 13) (r := some (.long r5)) ⟨dX4_even_13, rfl⟩ h
set_option maxRecDepth 100000 in
set_option maxHeartbeats 4000000 in
theorem w_X4_best_0 (o : zW) (x1 : Int32) (S : zS) (Q : Option Value → zS → Prop) (h : (x1 < 0 → (zGi o 970 mdX4_refuse [.ref (z_adr o (0, 0, 0)), .int (-2)] S (fun r3 S4 => Q (some (.int r3)) S4))) ∧ (¬ x1 < 0 → ((x1 ≤ 1 → (zGi o 970 mdX3_readOrders [.ref (z_adr o (16, 0, 0))] S (fun r7 S8 => (r7 = (-1) → (zG o 970 mdX4_best 43 [(0, .ref (z_adr o (0, 0, 0))), (1, .int x1), (3, .int 0), (4, .int (2000000000 : Int32)), (5, .int 1)] [] S8 Q)) ∧ (¬ r7 = (-1) → (Q (some (.int ((-10) - r7))) S8))))) ∧ (¬ x1 ≤ 1 → (zGi o 970 mdX4_refuse [.ref (z_adr o (0, 0, 0)), .int (-2)] S (fun r11 S12 => Q (some (.int r11)) S12)))))) : zG o 970 mdX4_best 0 [(0, .ref (z_adr o (0, 0, 0))), (1, .int x1)] [] S Q := by
  show zJ o mdX4_best 0 _ [] (970, z_enc o S) 0 0 _
  refine zJ.iload_n (pc := 0) 1 dX4_best_0 rfl rfl ?_
  refine zJ.if_lt (pc := 1) (tgt := 9) dX4_best_1 (by decide) (fun c1 => ?_) (fun c1 => ?_)
  · replace h := h.1 c1
    refine zJ.aload_n (pc := 9) 0 dX4_best_9 rfl rfl ?_
    refine zJ.bipush (pc := 10) (v := (-2)) dX4_best_10 (by decide) ?_
    refine zG.callVi (d := mdX4_best) (pc := 12) [.int (-2)] [] (ob_0 o) ok_0 rfl dX4_best_12 ⟨(cb_X4_refuse).1, (cb_X4_refuse).2, (Nat.le_of_ble_eq_true rfl), (Nat.le_of_ble_eq_true rfl)⟩ ml_X4_47 ci_X4_refuse cv_X4_refuse rfl (Nat.le_of_ble_eq_true rfl) (Nat.le_of_ble_eq_true rfl) rfl h (fun r3 S4 h2 => ?_)
    replace h := h2
    clear h2
    exact zG.ret (pc := 15) (r := some (.int r3)) ⟨dX4_best_15, _, rfl, rfl⟩ h
  · replace h := h.2 c1
    refine zJ.iload_n (pc := 4) 1 dX4_best_4 rfl rfl ?_
    refine zJ.iconst (pc := 5) (v := 1) dX4_best_5 (by decide) ?_
    refine zJ.icmp_le (pc := 6) (tgt := 16) dX4_best_6 (by decide) (fun c5 => ?_) (fun c5 => ?_)
    · replace h := h.1 c5
      refine zJ.aload_n (pc := 16) 0 dX4_best_16 rfl rfl ?_
      refine zE.getV (pc := 17) (fd_0_3 o) ok_0 kiX4 (Nat.le_of_ble_eq_true rfl) fl_X4_26 dX4_best_17 ?_
      refine zG.callVi (d := mdX4_best) (pc := 20) [] [] (ob_16 o) ok_16 rfl dX4_best_20 ⟨(cb_X3_readOrders).1, (cb_X3_readOrders).2, (Nat.le_of_ble_eq_true rfl), (Nat.le_of_ble_eq_true rfl)⟩ ml_X4_177 ci_X3_readOrders cv_X3_readOrders rfl (Nat.le_of_ble_eq_true rfl) (Nat.le_of_ble_eq_true rfl) rfl h (fun r7 S8 h2 => ?_)
      replace h := h2
      clear h2
      refine zJ.istore_n (pc := 23) (lv' := [(2, .int r7), (0, .ref (z_adr o (0, 0, 0))), (1, .int x1)]) dX4_best_23 rfl (Nat.le_of_ble_eq_true rfl) rfl ?_
      refine zJ.iload_n (pc := 24) 0 dX4_best_24 rfl rfl ?_
      refine zJ.iconst (pc := 25) (v := (-1)) dX4_best_25 (by decide) ?_
      refine zJ.icmp_eq (pc := 26) (tgt := 34) dX4_best_26 (by decide) (fun c9 => ?_) (fun c9 => ?_)
      · replace h := h.1 c9
        refine zJ.iconst (pc := 34) (v := 0) dX4_best_34 (by decide) ?_
        refine zJ.istore_n (pc := 35) (lv' := [(3, .int 0), (2, .int r7), (0, .ref (z_adr o (0, 0, 0))), (1, .int x1)]) dX4_best_35 rfl (Nat.le_of_ble_eq_true rfl) rfl ?_
        refine zJ.ldc (pc := 36) lc_X4_181 dX4_best_36 ?_
        refine zJ.istore (pc := 38) (lv' := [(4, .int (2000000000 : Int32)), (3, .int 0), (2, .int r7), (0, .ref (z_adr o (0, 0, 0))), (1, .int x1)]) dX4_best_38 (Nat.le_of_ble_eq_true rfl) rfl ?_
        refine zJ.iconst (pc := 40) (v := 1) dX4_best_40 (by decide) ?_
        refine zJ.istore (pc := 41) (lv' := [(5, .int 1), (4, .int (2000000000 : Int32)), (3, .int 0), (2, .int r7), (0, .ref (z_adr o (0, 0, 0))), (1, .int x1)]) dX4_best_41 (Nat.le_of_ble_eq_true rfl) rfl ?_
        exact zJ.sub [4, 5, 2, 1, 0] rfl h
      · replace h := h.2 c9
        refine zJ.bipush (pc := 29) (v := (-10)) dX4_best_29 (by decide) ?_
        refine zJ.iload_n (pc := 31) 0 dX4_best_31 rfl rfl ?_
        refine zJ.isub (pc := 32) dX4_best_32 ?_
        exact zG.ret (pc := 33) (r := some (.int ((-10) - r7))) ⟨dX4_best_33, _, rfl, rfl⟩ h
    · replace h := h.2 c5
      refine zJ.aload_n (pc := 9) 0 dX4_best_9 rfl rfl ?_
      refine zJ.bipush (pc := 10) (v := (-2)) dX4_best_10 (by decide) ?_
      refine zG.callVi (d := mdX4_best) (pc := 12) [.int (-2)] [] (ob_0 o) ok_0 rfl dX4_best_12 ⟨(cb_X4_refuse).1, (cb_X4_refuse).2, (Nat.le_of_ble_eq_true rfl), (Nat.le_of_ble_eq_true rfl)⟩ ml_X4_47 ci_X4_refuse cv_X4_refuse rfl (Nat.le_of_ble_eq_true rfl) (Nat.le_of_ble_eq_true rfl) rfl h (fun r11 S12 h2 => ?_)
      replace h := h2
      clear h2
      exact zG.ret (pc := 15) (r := some (.int r11)) ⟨dX4_best_15, _, rfl, rfl⟩ h
set_option maxRecDepth 100000 in
set_option maxHeartbeats 4000000 in
theorem w_X4_best_43 (o : zW) (x1 : Int32) (x3 : Int32) (x4 : Int32) (x5 : Int32) (S : zS) (Q : Option Value → zS → Prop) (h : (4 < x5 → ((¬ x1 = 0 → (Q (some (.int x4)) S)) ∧ (x1 = 0 → (Q (some (.int x3)) S)))) ∧ (¬ 4 < x5 → (zGv o 970 mdX2_startTrial [.ref (z_adr o (1, 1, 0)), .ref (z_adr o (2, 0, 0)), .int x5] S (fun S5 => zGv o 970 mdX2_carryOut [.ref (z_adr o (1, 1, 0)), .ref (z_adr o (16, 0, 0))] S5 (fun S8 => zGv o 970 mdX2_awaitFetches [.ref (z_adr o (1, 1, 0))] S8 (fun S11 => (x4 ≤ (S11.1 (3, 1, 0) 9) → (zG o 970 mdX4_best 43 [(0, .ref (z_adr o (0, 0, 0))), (1, .int x1), (3, .int x3), (4, .int x4), (5, .int (x5 + 1))] [] S11 Q)) ∧ (¬ x4 ≤ (S11.1 (3, 1, 0) 9) → (zG o 970 mdX4_best 43 [(0, .ref (z_adr o (0, 0, 0))), (1, .int x1), (3, .int x5), (4, .int (S11.1 (3, 1, 0) 9)), (5, .int (x5 + 1))] [] S11 Q)))))))) : zG o 970 mdX4_best 43 [(0, .ref (z_adr o (0, 0, 0))), (1, .int x1), (3, .int x3), (4, .int x4), (5, .int x5)] [] S Q := by
  show zJ o mdX4_best 43 _ [] (970, z_enc o S) 0 0 _
  refine zJ.iload (pc := 43) 4 dX4_best_43 rfl ?_
  refine zJ.iconst (pc := 45) (v := 4) dX4_best_45 (by decide) ?_
  refine zJ.icmp_gt (pc := 46) (tgt := 119) dX4_best_46 (by decide) (fun c1 => ?_) (fun c1 => ?_)
  · replace h := h.1 c1
    refine zJ.iload_n (pc := 119) 1 dX4_best_119 rfl rfl ?_
    refine zJ.if_ne (pc := 120) (tgt := 127) dX4_best_120 (by decide) (fun c2 => ?_) (fun c2 => ?_)
    · replace h := h.1 c2
      refine zJ.iload (pc := 127) 3 dX4_best_127 rfl ?_
      exact zG.ret (pc := 129) (r := some (.int x4)) ⟨dX4_best_129, _, rfl, rfl⟩ h
    · replace h := h.2 c2
      refine zJ.iload_n (pc := 123) 2 dX4_best_123 rfl rfl ?_
      refine zJ.goto (pc := 124) (tgt := 129) dX4_best_124 (by decide) ?_
      exact zG.ret (pc := 129) (r := some (.int x3)) ⟨dX4_best_129, _, rfl, rfl⟩ h
  · replace h := h.2 c1
    refine zJ.aload_n (pc := 49) 0 dX4_best_49 rfl rfl ?_
    refine zE.getV (pc := 50) (fd_0_1 o) ok_0 kiX4 (Nat.le_of_ble_eq_true rfl) fl_X4_16 dX4_best_50 ?_
    refine zJ.aload_n (pc := 53) 0 dX4_best_53 rfl rfl ?_
    refine zE.getV (pc := 54) (fd_0_0 o) ok_0 kiX4 (Nat.le_of_ble_eq_true rfl) fl_X4_10 dX4_best_54 ?_
    refine zE.getV (pc := 57) (fd_1_0 o 0) (ok_1 (show 0 < 8 by decide) (z_sb_le (show 0 < 8 by decide))) kiX2 (Nat.le_of_ble_eq_true rfl) fl_X4_54 dX4_best_57 ?_
    refine zJ.iload (pc := 60) 4 dX4_best_60 rfl ?_
    refine zG.callVv (d := mdX4_best) (pc := 62) [.ref (z_adr o (2, 0, 0)), .int x5] [] (ob_1 o 1) (ok_1 (show 1 < 8 by decide) (z_sb_le (show 1 < 8 by decide))) rfl dX4_best_62 ⟨(cb_X2_startTrial).1, (cb_X2_startTrial).2, (Nat.le_of_ble_eq_true rfl), (Nat.le_of_ble_eq_true rfl)⟩ ml_X4_182 ci_X2_startTrial cv_X2_startTrial rfl (Nat.le_of_ble_eq_true rfl) (Nat.le_of_ble_eq_true rfl) rfl h (fun S5 h2 => ?_)
    replace h := h2
    clear h2
    refine zJ.aload_n (pc := 65) 0 dX4_best_65 rfl rfl ?_
    refine zE.getV (pc := 66) (fd_0_1 o) ok_0 kiX4 (Nat.le_of_ble_eq_true rfl) fl_X4_16 dX4_best_66 ?_
    refine zJ.aload_n (pc := 69) 0 dX4_best_69 rfl rfl ?_
    refine zE.getV (pc := 70) (fd_0_3 o) ok_0 kiX4 (Nat.le_of_ble_eq_true rfl) fl_X4_26 dX4_best_70 ?_
    refine zG.callVv (d := mdX4_best) (pc := 73) [.ref (z_adr o (16, 0, 0))] [] (ob_1 o 1) (ok_1 (show 1 < 8 by decide) (z_sb_le (show 1 < 8 by decide))) rfl dX4_best_73 ⟨(cb_X2_carryOut).1, (cb_X2_carryOut).2, (Nat.le_of_ble_eq_true rfl), (Nat.le_of_ble_eq_true rfl)⟩ ml_X4_186 ci_X2_carryOut cv_X2_carryOut rfl (Nat.le_of_ble_eq_true rfl) (Nat.le_of_ble_eq_true rfl) rfl h (fun S8 h2 => ?_)
    replace h := h2
    clear h2
    refine zJ.aload_n (pc := 76) 0 dX4_best_76 rfl rfl ?_
    refine zE.getV (pc := 77) (fd_0_1 o) ok_0 kiX4 (Nat.le_of_ble_eq_true rfl) fl_X4_16 dX4_best_77 ?_
    refine zG.callVv (d := mdX4_best) (pc := 80) [] [] (ob_1 o 1) (ok_1 (show 1 < 8 by decide) (z_sb_le (show 1 < 8 by decide))) rfl dX4_best_80 ⟨(cb_X2_awaitFetches).1, (cb_X2_awaitFetches).2, (Nat.le_of_ble_eq_true rfl), (Nat.le_of_ble_eq_true rfl)⟩ ml_X4_190 ci_X2_awaitFetches cv_X2_awaitFetches rfl (Nat.le_of_ble_eq_true rfl) (Nat.le_of_ble_eq_true rfl) rfl h (fun S11 h2 => ?_)
    replace h := h2
    clear h2
    refine zJ.aload_n (pc := 83) 0 dX4_best_83 rfl rfl ?_
    refine zE.getV (pc := 84) (fd_0_1 o) ok_0 kiX4 (Nat.le_of_ble_eq_true rfl) fl_X4_16 dX4_best_84 ?_
    refine zE.getV (pc := 87) (fd_1_1 o 1) (ok_1 (show 1 < 8 by decide) (z_sb_le (show 1 < 8 by decide))) kiX2 (Nat.le_of_ble_eq_true rfl) fl_X4_60 dX4_best_87 ?_
    refine zJ.bipush (pc := 90) (v := 9) dX4_best_90 (by decide) ?_
    refine zE.aldI (pc := 92) (ia_3 o 1) (ok_3 (show 1 < 8 by decide) (z_sb_le (show 1 < 8 by decide))) (by unfold vp_in; decide) dX4_best_92 ?_
    refine zJ.iload (pc := 93) 3 dX4_best_93 rfl ?_
    refine zJ.icmp_ge (pc := 95) (tgt := 113) dX4_best_95 (by decide) (fun c12 => ?_) (fun c12 => ?_)
    · replace h := h.1 c12
      refine zJ.iinc (pc := 113) (k := 4) (lv' := [(5, .int (x5 + 1)), (0, .ref (z_adr o (0, 0, 0))), (1, .int x1), (3, .int x3), (4, .int x4)]) dX4_best_113 rfl rfl (Nat.le_of_ble_eq_true rfl) rfl ?_
      refine zJ.goto (pc := 116) (tgt := 43) dX4_best_116 (by decide) ?_
      exact zJ.sub [1, 2, 3, 4, 0] rfl h
    · replace h := h.2 c12
      refine zJ.iload (pc := 98) 4 dX4_best_98 rfl ?_
      refine zJ.istore_n (pc := 100) (lv' := [(3, .int x5), (0, .ref (z_adr o (0, 0, 0))), (1, .int x1), (4, .int x4), (5, .int x5)]) dX4_best_100 rfl (Nat.le_of_ble_eq_true rfl) rfl ?_
      refine zJ.aload_n (pc := 101) 1 dX4_best_101 rfl rfl ?_
      refine zE.getV (pc := 102) (fd_0_1 o) ok_0 kiX4 (Nat.le_of_ble_eq_true rfl) fl_X4_16 dX4_best_102 ?_
      refine zE.getV (pc := 105) (fd_1_1 o 1) (ok_1 (show 1 < 8 by decide) (z_sb_le (show 1 < 8 by decide))) kiX2 (Nat.le_of_ble_eq_true rfl) fl_X4_60 dX4_best_105 ?_
      refine zJ.bipush (pc := 108) (v := 9) dX4_best_108 (by decide) ?_
      refine zE.aldI (pc := 110) (ia_3 o 1) (ok_3 (show 1 < 8 by decide) (z_sb_le (show 1 < 8 by decide))) (by unfold vp_in; decide) dX4_best_110 ?_
      refine zJ.istore (pc := 111) (lv' := [(4, .int (S11.1 (3, 1, 0) 9)), (3, .int x5), (0, .ref (z_adr o (0, 0, 0))), (1, .int x1), (5, .int x5)]) dX4_best_111 (Nat.le_of_ble_eq_true rfl) rfl ?_
      refine zJ.iinc (pc := 113) (k := 4) (lv' := [(5, .int (x5 + 1)), (4, .int (S11.1 (3, 1, 0) 9)), (3, .int x5), (0, .ref (z_adr o (0, 0, 0))), (1, .int x1)]) dX4_best_113 rfl rfl (Nat.le_of_ble_eq_true rfl) rfl ?_
      refine zJ.goto (pc := 116) (tgt := 43) dX4_best_116 (by decide) ?_
      exact zJ.sub [3, 4, 2, 1, 0] rfl h
