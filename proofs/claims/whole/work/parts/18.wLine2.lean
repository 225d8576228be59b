set_option maxRecDepth 100000 in
set_option maxHeartbeats 4000000 in
theorem w_X4_fetch_0 (o : zW) (x1 : Int32) (x2 : Int32) (S : zS) (Q : Option Value → zS → Prop) (h : (x1 < 0 → (zGi o 994 mdX4_refuse [.ref (z_adr o (0, 0, 0)), .int (-2)] S (fun r3 S4 => Q (some (.int r3)) S4))) ∧ (¬ x1 < 0 → ((x2 < 0 → (zGi o 994 mdX4_refuse [.ref (z_adr o (0, 0, 0)), .int (-2)] S (fun r7 S8 => Q (some (.int r7)) S8))) ∧ (¬ x2 < 0 → ((x2 ≤ 2 → (zGq o 994 mdX2_boxOfFetch 0 [.ref (z_adr o (1, 0, 0)), .int x1] S (fun r11 S12 => (r11 = none → (Q (some (.int (-1))) S12)) ∧ (∀ b14, r11 = some b14 → ((¬ x2 = 0 → ((¬ x2 = 1 → (Q (some (.int (S12.1 (5, 0, b14) 7))) S12)) ∧ (x2 = 1 → (Q (some (.int ((S12.1 (5, 0, b14) 10) - (S12.1 (3, 0, 0) 9)))) S12)))) ∧ (x2 = 0 → (Q (some (.int (nI b14))) S12))))))) ∧ (¬ x2 ≤ 2 → (zGi o 994 mdX4_refuse [.ref (z_adr o (0, 0, 0)), .int (-2)] S (fun r18 S19 => Q (some (.int r18)) S19)))))))) : zG o 994 mdX4_fetch 0 [(0, .ref (z_adr o (0, 0, 0))), (1, .int x1), (2, .int x2)] [] S Q := by
  show zJ o mdX4_fetch 0 _ [] (994, z_enc o S) 0 0 _
  refine zJ.iload_n (pc := 0) 1 dX4_fetch_0 rfl rfl ?_
  refine zJ.if_lt (pc := 1) (tgt := 13) dX4_fetch_1 (by decide) (fun c1 => ?_) (fun c1 => ?_)
  · replace h := h.1 c1
    refine zJ.aload_n (pc := 13) 0 dX4_fetch_13 rfl rfl ?_
    refine zJ.bipush (pc := 14) (v := (-2)) dX4_fetch_14 (by decide) ?_
    refine zG.callVi (d := mdX4_fetch) (pc := 16) [.int (-2)] [] (ob_0 o) ok_0 rfl dX4_fetch_16 ⟨(cb_X4_refuse).1, (cb_X4_refuse).2, (Nat.le_of_ble_eq_true rfl), (Nat.le_of_ble_eq_true rfl)⟩ ml_X4_47 ci_X4_refuse cv_X4_refuse rfl (Nat.le_of_ble_eq_true rfl) (Nat.le_of_ble_eq_true rfl) rfl h (fun r3 S4 h2 => ?_)
    replace h := h2
    clear h2
    exact zG.ret (pc := 19) (r := some (.int r3)) ⟨dX4_fetch_19, _, rfl, rfl⟩ h
  · replace h := h.2 c1
    refine zJ.iload_n (pc := 4) 2 dX4_fetch_4 rfl rfl ?_
    refine zJ.if_lt (pc := 5) (tgt := 13) dX4_fetch_5 (by decide) (fun c5 => ?_) (fun c5 => ?_)
    · replace h := h.1 c5
      refine zJ.aload_n (pc := 13) 0 dX4_fetch_13 rfl rfl ?_
      refine zJ.bipush (pc := 14) (v := (-2)) dX4_fetch_14 (by decide) ?_
      refine zG.callVi (d := mdX4_fetch) (pc := 16) [.int (-2)] [] (ob_0 o) ok_0 rfl dX4_fetch_16 ⟨(cb_X4_refuse).1, (cb_X4_refuse).2, (Nat.le_of_ble_eq_true rfl), (Nat.le_of_ble_eq_true rfl)⟩ ml_X4_47 ci_X4_refuse cv_X4_refuse rfl (Nat.le_of_ble_eq_true rfl) (Nat.le_of_ble_eq_true rfl) rfl h (fun r7 S8 h2 => ?_)
      replace h := h2
      clear h2
      exact zG.ret (pc := 19) (r := some (.int r7)) ⟨dX4_fetch_19, _, rfl, rfl⟩ h
    · replace h := h.2 c5
      refine zJ.iload_n (pc := 8) 2 dX4_fetch_8 rfl rfl ?_
      refine zJ.iconst (pc := 9) (v := 2) dX4_fetch_9 (by decide) ?_
      refine zJ.icmp_le (pc := 10) (tgt := 20) dX4_fetch_10 (by decide) (fun c9 => ?_) (fun c9 => ?_)
      · replace h := h.1 c9
        refine zJ.aload_n (pc := 20) 0 dX4_fetch_20 rfl rfl ?_
        refine zE.getV (pc := 21) (fd_0_0 o) ok_0 kiX4 (Nat.le_of_ble_eq_true rfl) fl_X4_10 dX4_fetch_21 ?_
        refine zJ.iload_n (pc := 24) 1 dX4_fetch_24 rfl rfl ?_
        refine zG.callVq (d := mdX4_fetch) (pc := 25) 0 [.int x1] [] (ob_1 o 0) (ok_1 (show 0 < 8 by decide) (z_sb_le (show 0 < 8 by decide))) rfl dX4_fetch_25 ⟨(cb_X2_boxOfFetch).1, (cb_X2_boxOfFetch).2, (Nat.le_of_ble_eq_true rfl), (Nat.le_of_ble_eq_true rfl)⟩ ml_X4_141 ci_X2_boxOfFetch cv_X2_boxOfFetch rfl (Nat.le_of_ble_eq_true rfl) (Nat.le_of_ble_eq_true rfl) rfl h (fun r11 S12 hx13 h2 => ?_)
        replace h := h2
        clear h2
        refine zJ.astoreq_n (pc := 28) (x := z_bo o 0 r11) (lv' := [(3, va_rf (z_bo o 0 r11)), (0, .ref (z_adr o (0, 0, 0))), (1, .int x1), (2, .int x2)]) dX4_fetch_28 rfl (Nat.le_of_ble_eq_true rfl) rfl ?_
        refine zJ.aloadq_n (pc := 29) (x := z_bo o 0 r11) 0 dX4_fetch_29 rfl rfl ?_
        refine zE.ifnonnull (pc := 30) (tgt := 35) dX4_fetch_30 (by decide) ?_ ?_
        · intro b14 hz
          replace h := h.2 b14 hz
          subst hz
          refine zJ.iload_n (pc := 35) 3 dX4_fetch_35 rfl rfl ?_
          refine zJ.if_ne (pc := 36) (tgt := 46) dX4_fetch_36 (by decide) (fun c15 => ?_) (fun c15 => ?_)
          · replace h := h.1 c15
            refine zJ.iload_n (pc := 46) 3 dX4_fetch_46 rfl rfl ?_
            refine zJ.iconst (pc := 47) (v := 1) dX4_fetch_47 (by decide) ?_
            refine zJ.icmp_ne (pc := 48) (tgt := 69) dX4_fetch_48 (by decide) (fun c16 => ?_) (fun c16 => ?_)
            · replace h := h.1 c16
              refine zJ.aload_n (pc := 69) 0 dX4_fetch_69 rfl rfl ?_
              refine zE.getI (pc := 70) (fd_5_7 o 0 b14) (ok_5 (show 0 < 8 by decide) (hx13 b14 rfl) (z_sb_le (show 0 < 8 by decide))) kiX0 (Nat.le_of_ble_eq_true rfl) fl_X4_151 dX4_fetch_70 ?_
              exact zG.ret (pc := 73) (r := some (.int (S12.1 (5, 0, b14) 7))) ⟨dX4_fetch_73, _, rfl, rfl⟩ h
            · replace h := h.2 c16
              refine zJ.aload_n (pc := 51) 0 dX4_fetch_51 rfl rfl ?_
              refine zE.getI (pc := 52) (fd_5_10 o 0 b14) (ok_5 (show 0 < 8 by decide) (hx13 b14 rfl) (z_sb_le (show 0 < 8 by decide))) kiX0 (Nat.le_of_ble_eq_true rfl) fl_X4_148 dX4_fetch_52 ?_
              refine zJ.aload_n (pc := 55) 1 dX4_fetch_55 rfl rfl ?_
              refine zE.getV (pc := 56) (fd_0_0 o) ok_0 kiX4 (Nat.le_of_ble_eq_true rfl) fl_X4_10 dX4_fetch_56 ?_
              refine zE.getV (pc := 59) (fd_1_1 o 0) (ok_1 (show 0 < 8 by decide) (z_sb_le (show 0 < 8 by decide))) kiX2 (Nat.le_of_ble_eq_true rfl) fl_X4_60 dX4_fetch_59 ?_
              refine zJ.bipush (pc := 62) (v := 9) dX4_fetch_62 (by decide) ?_
              refine zE.aldI (pc := 64) (ia_3 o 0) (ok_3 (show 0 < 8 by decide) (z_sb_le (show 0 < 8 by decide))) (by unfold vp_in; decide) dX4_fetch_64 ?_
              refine zJ.isub (pc := 65) dX4_fetch_65 ?_
              refine zJ.goto (pc := 66) (tgt := 73) dX4_fetch_66 (by decide) ?_
              exact zG.ret (pc := 73) (r := some (.int ((S12.1 (5, 0, b14) 10) - (S12.1 (3, 0, 0) 9)))) ⟨dX4_fetch_73, _, rfl, rfl⟩ h
          · replace h := h.2 c15
            refine zJ.aload_n (pc := 39) 0 dX4_fetch_39 rfl rfl ?_
            refine zE.getV (pc := 40) (fd_5_0 o 0 b14) (ok_5 (show 0 < 8 by decide) (hx13 b14 rfl) (z_sb_le (show 0 < 8 by decide))) kiX0 (Nat.le_of_ble_eq_true rfl) fl_X4_145 dX4_fetch_40 ?_
            refine zJ.goto (pc := 43) (tgt := 73) dX4_fetch_43 (by decide) ?_
            exact zG.ret (pc := 73) (r := some (.int (nI b14))) ⟨dX4_fetch_73, _, rfl, rfl⟩ h
        · intro hz
          replace h := h.1 hz
          subst hz
          refine zJ.iconst (pc := 33) (v := (-1)) dX4_fetch_33 (by decide) ?_
          exact zG.ret (pc := 34) (r := some (.int (-1))) ⟨dX4_fetch_34, _, rfl, rfl⟩ h
      · replace h := h.2 c9
        refine zJ.aload_n (pc := 13) 0 dX4_fetch_13 rfl rfl ?_
        refine zJ.bipush (pc := 14) (v := (-2)) dX4_fetch_14 (by decide) ?_
        refine zG.callVi (d := mdX4_fetch) (pc := 16) [.int (-2)] [] (ob_0 o) ok_0 rfl dX4_fetch_16 ⟨(cb_X4_refuse).1, (cb_X4_refuse).2, (Nat.le_of_ble_eq_true rfl), (Nat.le_of_ble_eq_true rfl)⟩ ml_X4_47 ci_X4_refuse cv_X4_refuse rfl (Nat.le_of_ble_eq_true rfl) (Nat.le_of_ble_eq_true rfl) rfl h (fun r18 S19 h2 => ?_)
        replace h := h2
        clear h2
        exact zG.ret (pc := 19) (r := some (.int r18)) ⟨dX4_fetch_19, _, rfl, rfl⟩ h
set_option maxRecDepth 100000 in
set_option maxHeartbeats 4000000 in
theorem w_X4_cost_0 (o : zW) (x1 : Int32) (S : zS) (Q : Option Value → zS → Prop) (h : (x1 < 0 → (zGi o 994 mdX4_refuse [.ref (z_adr o (0, 0, 0)), .int (-2)] S (fun r3 S4 => Q (some (.int r3)) S4))) ∧ (¬ x1 < 0 → ((x1 ≤ 2 → ((¬ x1 = 0 → ((¬ x1 = 1 → (zGi o 994 mdX4_floatBits [.float (FP.i2f (S.1 (12, 0, 0) 5))] S (fun r9 S10 => Q (some (.int r9)) S10))) ∧ (x1 = 1 → (zGf o 994 mdX1_meanWait [.ref (z_adr o (12, 0, 0))] S (fun r12 S13 => zGi o 994 mdX4_floatBits [.float r12] S13 (fun r15 S16 => Q (some (.int r15)) S16)))))) ∧ (x1 = 0 → (zGi o 994 mdX4_floatBits [.float (S.2.2 (1, 0, 0) 4)] S (fun r18 S19 => Q (some (.int r18)) S19))))) ∧ (¬ x1 ≤ 2 → (zGi o 994 mdX4_refuse [.ref (z_adr o (0, 0, 0)), .int (-2)] S (fun r21 S22 => Q (some (.int r21)) S22)))))) : zG o 994 mdX4_cost 0 [(0, .ref (z_adr o (0, 0, 0))), (1, .int x1)] [] S Q := by
  show zJ o mdX4_cost 0 _ [] (994, z_enc o S) 0 0 _
  refine zJ.iload_n (pc := 0) 1 dX4_cost_0 rfl rfl ?_
  refine zJ.if_lt (pc := 1) (tgt := 9) dX4_cost_1 (by decide) (fun c1 => ?_) (fun c1 => ?_)
  · replace h := h.1 c1
    refine zJ.aload_n (pc := 9) 0 dX4_cost_9 rfl rfl ?_
    refine zJ.bipush (pc := 10) (v := (-2)) dX4_cost_10 (by decide) ?_
    refine zG.callVi (d := mdX4_cost) (pc := 12) [.int (-2)] [] (ob_0 o) ok_0 rfl dX4_cost_12 ⟨(cb_X4_refuse).1, (cb_X4_refuse).2, (Nat.le_of_ble_eq_true rfl), (Nat.le_of_ble_eq_true rfl)⟩ ml_X4_47 ci_X4_refuse cv_X4_refuse rfl (Nat.le_of_ble_eq_true rfl) (Nat.le_of_ble_eq_true rfl) rfl h (fun r3 S4 h2 => ?_)
    replace h := h2
    clear h2
    exact zG.ret (pc := 15) (r := some (.int r3)) ⟨dX4_cost_15, _, rfl, rfl⟩ h
  · replace h := h.2 c1
    refine zJ.iload_n (pc := 4) 1 dX4_cost_4 rfl rfl ?_
    refine zJ.iconst (pc := 5) (v := 2) dX4_cost_5 (by decide) ?_
    refine zJ.icmp_le (pc := 6) (tgt := 16) dX4_cost_6 (by decide) (fun c5 => ?_) (fun c5 => ?_)
    · replace h := h.1 c5
      refine zJ.aload_n (pc := 16) 0 dX4_cost_16 rfl rfl ?_
      refine zE.getV (pc := 17) (fd_0_0 o) ok_0 kiX4 (Nat.le_of_ble_eq_true rfl) fl_X4_10 dX4_cost_17 ?_
      refine zE.getV (pc := 20) (fd_1_3 o 0) (ok_1 (show 0 < 8 by decide) (z_sb_le (show 0 < 8 by decide))) kiX2 (Nat.le_of_ble_eq_true rfl) fl_X4_105 dX4_cost_20 ?_
      refine zJ.astore_n (pc := 23) (lv' := [(2, .ref (z_adr o (12, 0, 0))), (0, .ref (z_adr o (0, 0, 0))), (1, .int x1)]) dX4_cost_23 rfl (Nat.le_of_ble_eq_true rfl) rfl ?_
      refine zJ.iload_n (pc := 24) 2 dX4_cost_24 rfl rfl ?_
      refine zJ.if_ne (pc := 25) (tgt := 38) dX4_cost_25 (by decide) (fun c6 => ?_) (fun c6 => ?_)
      · replace h := h.1 c6
        refine zJ.iload_n (pc := 38) 2 dX4_cost_38 rfl rfl ?_
        refine zJ.iconst (pc := 39) (v := 1) dX4_cost_39 (by decide) ?_
        refine zJ.icmp_ne (pc := 40) (tgt := 50) dX4_cost_40 (by decide) (fun c7 => ?_) (fun c7 => ?_)
        · replace h := h.1 c7
          refine zJ.aload_n (pc := 50) 0 dX4_cost_50 rfl rfl ?_
          refine zE.getI (pc := 51) (fd_12_5 o 0) (ok_12 (show 0 < 8 by decide) (z_sb_le (show 0 < 8 by decide))) kiX1 (Nat.le_of_ble_eq_true rfl) fl_X4_162 dX4_cost_51 ?_
          refine zJ.i2f (pc := 54) dX4_cost_54 ?_
          refine zG.callSi (d := mdX4_cost) (pc := 55) [.float (FP.i2f (S.1 (12, 0, 0) 5))] [] dX4_cost_55 ⟨(cb_X4_floatBits).1, (cb_X4_floatBits).2, (Nat.le_of_ble_eq_true rfl), (Nat.le_of_ble_eq_true rfl)⟩ ml_X4_165 cs_X4_floatBits rfl (Nat.le_of_ble_eq_true rfl) (Nat.le_of_ble_eq_true rfl) rfl h (fun r9 S10 h2 => ?_)
          replace h := h2
          clear h2
          exact zG.ret (pc := 58) (r := some (.int r9)) ⟨dX4_cost_58, _, rfl, rfl⟩ h
        · replace h := h.2 c7
          refine zJ.aload_n (pc := 43) 0 dX4_cost_43 rfl rfl ?_
          refine zG.callVf (d := mdX4_cost) (pc := 44) [] [] (ob_12 o 0) (ok_12 (show 0 < 8 by decide) (z_sb_le (show 0 < 8 by decide))) rfl dX4_cost_44 ⟨(cb_X1_meanWait).1, (cb_X1_meanWait).2, (Nat.le_of_ble_eq_true rfl), (Nat.le_of_ble_eq_true rfl)⟩ ml_X4_158 ci_X1_meanWait cv_X1_meanWait rfl (Nat.le_of_ble_eq_true rfl) (Nat.le_of_ble_eq_true rfl) rfl h (fun r12 S13 h2 => ?_)
          replace h := h2
          clear h2
          refine zJ.goto (pc := 47) (tgt := 55) dX4_cost_47 (by decide) ?_
          refine zG.callSi (d := mdX4_cost) (pc := 55) [.float r12] [] dX4_cost_55 ⟨(cb_X4_floatBits).1, (cb_X4_floatBits).2, (Nat.le_of_ble_eq_true rfl), (Nat.le_of_ble_eq_true rfl)⟩ ml_X4_165 cs_X4_floatBits rfl (Nat.le_of_ble_eq_true rfl) (Nat.le_of_ble_eq_true rfl) rfl h (fun r15 S16 h2 => ?_)
          replace h := h2
          clear h2
          exact zG.ret (pc := 58) (r := some (.int r15)) ⟨dX4_cost_58, _, rfl, rfl⟩ h
      · replace h := h.2 c6
        refine zJ.aload_n (pc := 28) 1 dX4_cost_28 rfl rfl ?_
        refine zE.getV (pc := 29) (fd_0_0 o) ok_0 kiX4 (Nat.le_of_ble_eq_true rfl) fl_X4_10 dX4_cost_29 ?_
        refine zE.getF (pc := 32) (fd_1_4 o 0) (ok_1 (show 0 < 8 by decide) (z_sb_le (show 0 < 8 by decide))) kiX2 (Nat.le_of_ble_eq_true rfl) fl_X4_154 dX4_cost_32 ?_
        refine zJ.goto (pc := 35) (tgt := 55) dX4_cost_35 (by decide) ?_
        refine zG.callSi (d := mdX4_cost) (pc := 55) [.float (S.2.2 (1, 0, 0) 4)] [] dX4_cost_55 ⟨(cb_X4_floatBits).1, (cb_X4_floatBits).2, (Nat.le_of_ble_eq_true rfl), (Nat.le_of_ble_eq_true rfl)⟩ ml_X4_165 cs_X4_floatBits rfl (Nat.le_of_ble_eq_true rfl) (Nat.le_of_ble_eq_true rfl) rfl h (fun r18 S19 h2 => ?_)
        replace h := h2
        clear h2
        exact zG.ret (pc := 58) (r := some (.int r18)) ⟨dX4_cost_58, _, rfl, rfl⟩ h
    · replace h := h.2 c5
      refine zJ.aload_n (pc := 9) 0 dX4_cost_9 rfl rfl ?_
      refine zJ.bipush (pc := 10) (v := (-2)) dX4_cost_10 (by decide) ?_
      refine zG.callVi (d := mdX4_cost) (pc := 12) [.int (-2)] [] (ob_0 o) ok_0 rfl dX4_cost_12 ⟨(cb_X4_refuse).1, (cb_X4_refuse).2, (Nat.le_of_ble_eq_true rfl), (Nat.le_of_ble_eq_true rfl)⟩ ml_X4_47 ci_X4_refuse cv_X4_refuse rfl (Nat.le_of_ble_eq_true rfl) (Nat.le_of_ble_eq_true rfl) rfl h (fun r21 S22 h2 => ?_)
      replace h := h2
      clear h2
      exact zG.ret (pc := 15) (r := some (.int r21)) ⟨dX4_cost_15, _, rfl, rfl⟩ h
set_option maxRecDepth 100000 in
set_option maxHeartbeats 4000000 in
theorem w_X4_even_0 (o : zW)  (S : zS) (Q : Option Value → zS → Prop) (h : zGd o 994 mdX1_spread [.ref (z_adr o (12, 0, 0))] S (fun r2 S3 => zGl o 994 mdX4_doubleBits [.double r2] S3 (fun r5 S6 => Q (some (.long r5)) S6))) : zG o 994 mdX4_even 0 [(0, .ref (z_adr o (0, 0, 0)))] [] S Q := by
  show zJ o mdX4_even 0 _ [] (994, z_enc o S) 0 0 _
  refine zJ.aload_n (pc := 0) 0 dX4_even_0 rfl rfl ?_
  refine zE.getV (pc := 1) (fd_0_0 o) ok_0 kiX4 (Nat.le_of_ble_eq_true rfl) fl_X4_10 dX4_even_1 ?_
  refine zE.getV (pc := 4) (fd_1_3 o 0) (ok_1 (show 0 < 8 by decide) (z_sb_le (show 0 < 8 by decide))) kiX2 (Nat.le_of_ble_eq_true rfl) fl_X4_105 dX4_even_4 ?_
  refine zG.callVd (d := mdX4_even) (pc := 7) [] [] (ob_12 o 0) (ok_12 (show 0 < 8 by decide) (z_sb_le (show 0 < 8 by decide))) rfl dX4_even_7 ⟨(cb_X1_spread).1, (cb_X1_spread).2, (Nat.le_of_ble_eq_true rfl), (Nat.le_of_ble_eq_true rfl)⟩ ml_X4_169 ci_X1_spread cv_X1_spread rfl (Nat.le_of_ble_eq_true rfl) (Nat.le_of_ble_eq_true rfl) rfl h (fun r2 S3 h2 => ?_)
  replace h := h2
  clear h2
  refine zG.callSl (d := mdX4_even) (pc := 10) [.double r2] [] dX4_even_10 ⟨(cb_X4_doubleBits).1, (cb_X4_doubleBits).2, (Nat.le_of_ble_eq_true rfl), (Nat.le_of_ble_eq_true rfl)⟩ ml_X4_173 cs_X4_doubleBits rfl (Nat.le_of_ble_eq_true rfl) (Nat.le_of_ble_eq_true rfl) rfl h (fun r5 S6 h2 => ?_)
  replace h := h2
  clear h2
  exact zG.ret (pc := 13) (r := some (.long r5)) ⟨dX4_even_13, rfl⟩ h
set_option maxRecDepth 100000 in
set_option maxHeartbeats 4000000 in
theorem w_X4_best_0 (o : zW) (x1 : Int32) (S : zS) (Q : Option Value → zS → Prop) (h : (x1 < 0 → (zGi o 994 mdX4_refuse [.ref (z_adr o (0, 0, 0)), .int (-2)] S (fun r3 S4 => Q (some (.int r3)) S4))) ∧ (¬ x1 < 0 → ((x1 ≤ 1 → (zGi o 994 mdX3_readOrders [.ref (z_adr o (16, 0, 0))] S (fun r7 S8 => (r7 = (-1) → (zG o 994 mdX4_best 43 [(0, .ref (z_adr o (0, 0, 0))), (1, .int x1), (3, .int 0), (4, .int (2000000000 : Int32)), (5, .int 1)] [] S8 Q)) ∧ (¬ r7 = (-1) → (Q (some (.int ((-10) - r7))) S8))))) ∧ (¬ x1 ≤ 1 → (zGi o 994 mdX4_refuse [.ref (z_adr o (0, 0, 0)), .int (-2)] S (fun r11 S12 => Q (some (.int r11)) S12)))))) : zG o 994 mdX4_best 0 [(0, .ref (z_adr o (0, 0, 0))), (1, .int x1)] [] S Q := by
  show zJ o mdX4_best 0 _ [] (994, z_enc o S) 0 0 _
  refine zJ.iload_n (pc := 0) 1 dX4_best_0 rfl rfl ?_
  refine zJ.if_lt (pc := 1) (tgt := 9) dX4_best_1 (by decide) (fun c1 => ?_) (fun c1 => ?_)
  · replace h := h.1 c1
    refine zJ.aload_n (pc := 9) 0 dX4_best_9 rfl rfl ?_
    refine zJ.bipush (pc := 10) (v := (-2)) dX4_best_10 (by decide) ?_
    refine zG.callVi (d := mdX4_best) (pc := 12) [.int (-2)] [] (ob_0 o) ok_0 rfl dX4_best_12 ⟨(cb_X4_refuse).1, (cb_X4_refuse).2, (Nat.le_of_ble_eq_true rfl), (Nat.le_of_ble_eq_true rfl)⟩ ml_X4_47 ci_X4_refuse cv_X4_refuse rfl (Nat.le_of_ble_eq_true rfl) (Nat.le_of_ble_eq_true rfl) rfl h (fun r3 S4 h2 => ?_)
    replace h := h2
    clear h2
    exact zG.ret (pc := 15) (r := some (.int r3)) ⟨dX4_best_15, _, rfl, rfl⟩ h
  · replace h := h.2 c1
    refine zJ.iload_n (pc := 4) 1 dX4_best_4 rfl rfl ?_
    refine zJ.iconst (pc := 5) (v := 1) dX4_best_5 (by decide) ?_
    refine zJ.icmp_le (pc := 6) (tgt := 16) dX4_best_6 (by decide) (fun c5 => ?_) (fun c5 => ?_)
    · replace h := h.1 c5
      refine zJ.aload_n (pc := 16) 0 dX4_best_16 rfl rfl ?_
      refine zE.getV (pc := 17) (fd_0_3 o) ok_0 kiX4 (Nat.le_of_ble_eq_true rfl) fl_X4_26 dX4_best_17 ?_
      refine zG.callVi (d := mdX4_best) (pc := 20) [] [] (ob_16 o) ok_16 rfl dX4_best_20 ⟨(cb_X3_readOrders).1, (cb_X3_readOrders).2, (Nat.le_of_ble_eq_true rfl), (Nat.le_of_ble_eq_true rfl)⟩ ml_X4_177 ci_X3_readOrders cv_X3_readOrders rfl (Nat.le_of_ble_eq_true rfl) (Nat.le_of_ble_eq_true rfl) rfl h (fun r7 S8 h2 => ?_)
      replace h := h2
      clear h2
      refine zJ.istore_n (pc := 23) (lv' := [(2, .int r7), (0, .ref (z_adr o (0, 0, 0))), (1, .int x1)]) dX4_best_23 rfl (Nat.le_of_ble_eq_true rfl) rfl ?_
      refine zJ.iload_n (pc := 24) 0 dX4_best_24 rfl rfl ?_
      refine zJ.iconst (pc := 25) (v := (-1)) dX4_best_25 (by decide) ?_
      refine zJ.icmp_eq (pc := 26) (tgt := 34) dX4_best_26 (by decide) (fun c9 => ?_) (fun c9 => ?_)
      · replace h := h.1 c9
        refine zJ.iconst (pc := 34) (v := 0) dX4_best_34 (by decide) ?_
        refine zJ.istore_n (pc := 35) (lv' := [(3, .int 0), (2, .int r7), (0, .ref (z_adr o (0, 0, 0))), (1, .int x1)]) dX4_best_35 rfl (Nat.le_of_ble_eq_true rfl) rfl ?_
        refine zJ.ldc (pc := 36) lc_X4_181 dX4_best_36 ?_
        refine zJ.istore (pc := 38) (lv' := [(4, .int (2000000000 : Int32)), (3, .int 0), (2, .int r7), (0, .ref (z_adr o (0, 0, 0))), (1, .int x1)]) dX4_best_38 (Nat.le_of_ble_eq_true rfl) rfl ?_
        refine zJ.iconst (pc := 40) (v := 1) dX4_best_40 (by decide) ?_
        refine zJ.istore (pc := 41) (lv' := [(5, .int 1), (4, .int (2000000000 : Int32)), (3, .int 0), (2, .int r7), (0, .ref (z_adr o (0, 0, 0))), (1, .int x1)]) dX4_best_41 (Nat.le_of_ble_eq_true rfl) rfl ?_
        exact zJ.sub [4, 5, 2, 1, 0] rfl h
      · replace h := h.2 c9
        refine zJ.bipush (pc := 29) (v := (-10)) dX4_best_29 (by decide) ?_
        refine zJ.iload_n (pc := 31) 0 dX4_best_31 rfl rfl ?_
        refine zJ.isub (pc := 32) dX4_best_32 ?_
        exact zG.ret (pc := 33) (r := some (.int ((-10) - r7))) ⟨dX4_best_33, _, rfl, rfl⟩ h
    · replace h := h.2 c5
      refine zJ.aload_n (pc := 9) 0 dX4_best_9 rfl rfl ?_
      refine zJ.bipush (pc := 10) (v := (-2)) dX4_best_10 (by decide) ?_
      refine zG.callVi (d := mdX4_best) (pc := 12) [.int (-2)] [] (ob_0 o) ok_0 rfl dX4_best_12 ⟨(cb_X4_refuse).1, (cb_X4_refuse).2, (Nat.le_of_ble_eq_true rfl), (Nat.le_of_ble_eq_true rfl)⟩ ml_X4_47 ci_X4_refuse cv_X4_refuse rfl (Nat.le_of_ble_eq_true rfl) (Nat.le_of_ble_eq_true rfl) rfl h (fun r11 S12 h2 => ?_)
      replace h := h2
      clear h2
      exact zG.ret (pc := 15) (r := some (.int r11)) ⟨dX4_best_15, _, rfl, rfl⟩ h
set_option maxRecDepth 100000 in
set_option maxHeartbeats 4000000 in
theorem w_X4_best_43 (o : zW) (x1 : Int32) (x3 : Int32) (x4 : Int32) (x5 : Int32) (S : zS) (Q : Option Value → zS → Prop) (h : (4 < x5 → ((¬ x1 = 0 → (Q (some (.int x4)) S)) ∧ (x1 = 0 → (Q (some (.int x3)) S)))) ∧ (¬ 4 < x5 → (zGv o 994 mdX2_startTrial [.ref (z_adr o (1, 1, 0)), .ref (z_adr o (2, 0, 0)), .int x5] S (fun S5 => zGv o 994 mdX2_carryOut [.ref (z_adr o (1, 1, 0)), .ref (z_adr o (16, 0, 0))] S5 (fun S8 => zGv o 994 mdX2_awaitFetches [.ref (z_adr o (1, 1, 0))] S8 (fun S11 => (x4 ≤ (S11.1 (3, 1, 0) 9) → (zG o 994 mdX4_best 43 [(0, .ref (z_adr o (0, 0, 0))), (1, .int x1), (3, .int x3), (4, .int x4), (5, .int (x5 + 1))] [] S11 Q)) ∧ (¬ x4 ≤ (S11.1 (3, 1, 0) 9) → (zG o 994 mdX4_best 43 [(0, .ref (z_adr o (0, 0, 0))), (1, .int x1), (3, .int x5), (4, .int (S11.1 (3, 1, 0) 9)), (5, .int (x5 + 1))] [] S11 Q)))))))) : zG o 994 mdX4_best 43 [(0, .ref (z_adr o (0, 0, 0))), (1, .int x1), (3, .int x3), (4, .int x4), (5, .int x5)] [] S Q := by
  show zJ o mdX4_best 43 _ [] (994, z_enc o S) 0 0 _
  refine zJ.iload (pc := 43) 4 dX4_best_43 rfl ?_
  refine zJ.iconst (pc := 45) (v := 4) dX4_best_45 (by decide) ?_
  refine zJ.icmp_gt (pc := 46) (tgt := 119) dX4_best_46 (by decide) (fun c1 => ?_) (fun c1 => ?_)
  · replace h := h.1 c1
    refine zJ.iload_n (pc := 119) 1 dX4_best_119 rfl rfl ?_
    refine zJ.if_ne (pc := 120) (tgt := 127) dX4_best_120 (by decide) (fun c2 => ?_) (fun c2 => ?_)
    · replace h := h.1 c2
      refine zJ.iload (pc := 127) 3 dX4_best_127 rfl ?_
      exact zG.ret (pc := 129) (r := some (.int x4)) ⟨dX4_best_129, _, rfl, rfl⟩ h
    · replace h := h.2 c2
      refine zJ.iload_n (pc := 123) 2 dX4_best_123 rfl rfl ?_
      refine zJ.goto (pc := 124) (tgt := 129) dX4_best_124 (by decide) ?_
      exact zG.ret (pc := 129) (r := some (.int x3)) ⟨dX4_best_129, _, rfl, rfl⟩ h
  · replace h := h.2 c1
    refine zJ.aload_n (pc := 49) 0 dX4_best_49 rfl rfl ?_
    refine zE.getV (pc := 50) (fd_0_1 o) ok_0 kiX4 (Nat.le_of_ble_eq_true rfl) fl_X4_16 dX4_best_50 ?_
    refine zJ.aload_n (pc := 53) 0 dX4_best_53 rfl rfl ?_
    refine zE.getV (pc := 54) (fd_0_0 o) ok_0 kiX4 (Nat.le_of_ble_eq_true rfl) fl_X4_10 dX4_best_54 ?_
    refine zE.getV (pc := 57) (fd_1_0 o 0) (ok_1 (show 0 < 8 by decide) (z_sb_le (show 0 < 8 by decide))) kiX2 (Nat.le_of_ble_eq_true rfl) fl_X4_54 dX4_best_57 ?_
    refine zJ.iload (pc := 60) 4 dX4_best_60 rfl ?_
    refine zG.callVv (d := mdX4_best) (pc := 62) [.ref (z_adr o (2, 0, 0)), .int x5] [] (ob_1 o 1) (ok_1 (show 1 < 8 by decide) (z_sb_le (show 1 < 8 by decide))) rfl dX4_best_62 ⟨(cb_X2_startTrial).1, (cb_X2_startTrial).2, (Nat.le_of_ble_eq_true rfl), (Nat.le_of_ble_eq_true rfl)⟩ ml_X4_182 ci_X2_startTrial cv_X2_startTrial rfl (Nat.le_of_ble_eq_true rfl) (Nat.le_of_ble_eq_true rfl) rfl h (fun S5 h2 => ?_)
    replace h := h2
    clear h2
    refine zJ.aload_n (pc := 65) 0 dX4_best_65 rfl rfl ?_
    refine zE.getV (pc := 66) (fd_0_1 o) ok_0 kiX4 (Nat.le_of_ble_eq_true rfl) fl_X4_16 dX4_best_66 ?_
    refine zJ.aload_n (pc := 69) 0 dX4_best_69 rfl rfl ?_
    refine zE.getV (pc := 70) (fd_0_3 o) ok_0 kiX4 (Nat.le_of_ble_eq_true rfl) fl_X4_26 dX4_best_70 ?_
    refine zG.callVv (d := mdX4_best) (pc := 73) [.ref (z_adr o (16, 0, 0))] [] (ob_1 o 1) (ok_1 (show 1 < 8 by decide) (z_sb_le (show 1 < 8 by decide))) rfl dX4_best_73 ⟨(cb_X2_carryOut).1, (cb_X2_carryOut).2, (Nat.le_of_ble_eq_true rfl), (Nat.le_of_ble_eq_true rfl)⟩ ml_X4_186 ci_X2_carryOut cv_X2_carryOut rfl (Nat.le_of_ble_eq_true rfl) (Nat.le_of_ble_eq_true rfl) rfl h (fun S8 h2 => ?_)
    replace h := h2
    clear h2
    refine zJ.aload_n (pc := 76) 0 dX4_best_76 rfl rfl ?_
    refine zE.getV (pc := 77) (fd_0_1 o) ok_0 kiX4 (Nat.le_of_ble_eq_true rfl) fl_X4_16 dX4_best_77 ?_
    refine zG.callVv (d := mdX4_best) (pc := 80) [] [] (ob_1 o 1) (ok_1 (show 1 < 8 by decide) (z_sb_le (show 1 < 8 by decide))) rfl dX4_best_80 ⟨(cb_X2_awaitFetches).1, (cb_X2_awaitFetches).2, (Nat.le_of_ble_eq_true rfl), (Nat.le_of_ble_eq_true rfl)⟩ ml_X4_190 ci_X2_awaitFetches cv_X2_awaitFetches rfl (Nat.le_of_ble_eq_true rfl) (Nat.le_of_ble_eq_true rfl) rfl h (fun S11 h2 => ?_)
    replace h := h2
    clear h2
    refine zJ.aload_n (pc := 83) 0 dX4_best_83 rfl rfl ?_
    refine zE.getV (pc := 84) (fd_0_1 o) ok_0 kiX4 (Nat.le_of_ble_eq_true rfl) fl_X4_16 dX4_best_84 ?_
    refine zE.getV (pc := 87) (fd_1_1 o 1) (ok_1 (show 1 < 8 by decide) (z_sb_le (show 1 < 8 by decide))) kiX2 (Nat.le_of_ble_eq_true rfl) fl_X4_60 dX4_best_87 ?_
    refine zJ.bipush (pc := 90) (v := 9) dX4_best_90 (by decide) ?_
    refine zE.aldI (pc := 92) (ia_3 o 1) (ok_3 (show 1 < 8 by decide) (z_sb_le (show 1 < 8 by decide))) (by unfold vp_in; decide) dX4_best_92 ?_
    refine zJ.iload (pc := 93) 3 dX4_best_93 rfl ?_
    refine zJ.icmp_ge (pc := 95) (tgt := 113) dX4_best_95 (by decide) (fun c12 => ?_) (fun c12 => ?_)
    · replace h := h.1 c12
      refine zJ.iinc (pc := 113) (k := 4) (lv' := [(5, .int (x5 + 1)), (0, .ref (z_adr o (0, 0, 0))), (1, .int x1), (3, .int x3), (4, .int x4)]) dX4_best_113 rfl rfl (Nat.le_of_ble_eq_true rfl) rfl ?_
      refine zJ.goto (pc := 116) (tgt := 43) dX4_best_116 (by decide) ?_
      exact zJ.sub [1, 2, 3, 4, 0] rfl h
    · replace h := h.2 c12
      refine zJ.iload (pc := 98) 4 dX4_best_98 rfl ?_
      refine zJ.istore_n (pc := 100) (lv' := [(3, .int x5), (0, .ref (z_adr o (0, 0, 0))), (1, .int x1), (4, .int x4), (5, .int x5)]) dX4_best_100 rfl (Nat.le_of_ble_eq_true rfl) rfl ?_
      refine zJ.aload_n (pc := 101) 1 dX4_best_101 rfl rfl ?_
      refine zE.getV (pc := 102) (fd_0_1 o) ok_0 kiX4 (Nat.le_of_ble_eq_true rfl) fl_X4_16 dX4_best_102 ?_
      refine zE.getV (pc := 105) (fd_1_1 o 1) (ok_1 (show 1 < 8 by decide) (z_sb_le (show 1 < 8 by decide))) kiX2 (Nat.le_of_ble_eq_true rfl) fl_X4_60 dX4_best_105 ?_
      refine zJ.bipush (pc := 108) (v := 9) dX4_best_108 (by decide) ?_
      refine zE.aldI (pc := 110) (ia_3 o 1) (ok_3 (show 1 < 8 by decide) (z_sb_le (show 1 < 8 by decide))) (by unfold vp_in; decide) dX4_best_110 ?_
      refine zJ.istore (pc := 111) (lv' := [(4, .int (S11.1 (3, 1, 0) 9)), (3, .int x5), (0, .ref (z_adr o (0, 0, 0))), (1, .int x1), (5, .int x5)]) dX4_best_111 (Nat.le_of_ble_eq_true rfl) rfl ?_
      refine zJ.iinc (pc := 113) (k := 4) (lv' := [(5, .int (x5 + 1)), (4, .int (S11.1 (3, 1, 0) 9)), (3, .int x5), (0, .ref (z_adr o (0, 0, 0))), (1, .int x1)]) dX4_best_113 rfl rfl (Nat.le_of_ble_eq_true rfl) rfl ?_
      refine zJ.goto (pc := 116) (tgt := 43) dX4_best_116 (by decide) ?_
      exact zJ.sub [3, 4, 2, 1, 0] rfl h
set_option maxRecDepth 100000 in
set_option maxHeartbeats 4000000 in
theorem w_X4_type_0 (o : zW) (x1 : Int32) (S : zS) (Q : Option Value → zS → Prop) (h : (x1 < 0 → (zGi o 994 mdX4_refuse [.ref (z_adr o (0, 0, 0)), .int (-2)] S (fun r3 S4 => Q (some (.int r3)) S4))) ∧ (¬ x1 < 0 → ((x1 ≤ 127 → (((S.1 (16, 0, 0) 4) < 0 → (zGi o 994 mdX4_refuse [.ref (z_adr o (0, 0, 0)), .int (-4)] S (fun r8 S9 => Q (some (.int r8)) S9))) ∧ (¬ (S.1 (16, 0, 0) 4) < 0 → (((S.1 (16, 0, 0) 4) < 120 → (vp_in (S.1 (16, 0, 0) 4) 120 ∧ (∀ y11 : Int32, y11 = ((sI S (17, 0, 0) ((S.1 (16, 0, 0) 4).toNatClampNeg) x1).1 (16, 0, 0) 4) → (∀ S12 : zS, S12 = (sI (sI S (17, 0, 0) ((S.1 (16, 0, 0) 4).toNatClampNeg) x1) (16, 0, 0) 4 (y11 + 1)) → (Q (some (.int (S12.1 (16, 0, 0) 4))) S12))))) ∧ (¬ (S.1 (16, 0, 0) 4) < 120 → (zGi o 994 mdX4_refuse [.ref (z_adr o (0, 0, 0)), .int (-4)] S (fun r14 S15 => Q (some (.int r14)) S15))))))) ∧ (¬ x1 ≤ 127 → (zGi o 994 mdX4_refuse [.ref (z_adr o (0, 0, 0)), .int (-2)] S (fun r17 S18 => Q (some (.int r17)) S18)))))) : zG o 994 mdX4_type 0 [(0, .ref (z_adr o (0, 0, 0))), (1, .int x1)] [] S Q := by
  show zJ o mdX4_type 0 _ [] (994, z_enc o S) 0 0 _
  refine zJ.iload_n (pc := 0) 1 dX4_type_0 rfl rfl ?_
  refine zJ.if_lt (pc := 1) (tgt := 10) dX4_type_1 (by decide) (fun c1 => ?_) (fun c1 => ?_)
  · replace h := h.1 c1
    refine zJ.aload_n (pc := 10) 0 dX4_type_10 rfl rfl ?_
    refine zJ.bipush (pc := 11) (v := (-2)) dX4_type_11 (by decide) ?_
    refine zG.callVi (d := mdX4_type) (pc := 13) [.int (-2)] [] (ob_0 o) ok_0 rfl dX4_type_13 ⟨(cb_X4_refuse).1, (cb_X4_refuse).2, (Nat.le_of_ble_eq_true rfl), (Nat.le_of_ble_eq_true rfl)⟩ ml_X4_47 ci_X4_refuse cv_X4_refuse rfl (Nat.le_of_ble_eq_true rfl) (Nat.le_of_ble_eq_true rfl) rfl h (fun r3 S4 h2 => ?_)
    replace h := h2
    clear h2
    exact zG.ret (pc := 16) (r := some (.int r3)) ⟨dX4_type_16, _, rfl, rfl⟩ h
  · replace h := h.2 c1
    refine zJ.iload_n (pc := 4) 1 dX4_type_4 rfl rfl ?_
    refine zJ.bipush (pc := 5) (v := 127) dX4_type_5 (by decide) ?_
    refine zJ.icmp_le (pc := 7) (tgt := 17) dX4_type_7 (by decide) (fun c5 => ?_) (fun c5 => ?_)
    · replace h := h.1 c5
      refine zJ.aload_n (pc := 17) 0 dX4_type_17 rfl rfl ?_
      refine zE.getV (pc := 18) (fd_0_3 o) ok_0 kiX4 (Nat.le_of_ble_eq_true rfl) fl_X4_26 dX4_type_18 ?_
      refine zE.getI (pc := 21) (fd_16_4 o) ok_16 kiX3 (Nat.le_of_ble_eq_true rfl) fl_X4_193 dX4_type_21 ?_
      refine zJ.if_lt (pc := 24) (tgt := 39) dX4_type_24 (by decide) (fun c6 => ?_) (fun c6 => ?_)
      · replace h := h.1 c6
        refine zJ.aload_n (pc := 39) 0 dX4_type_39 rfl rfl ?_
        refine zJ.bipush (pc := 40) (v := (-4)) dX4_type_40 (by decide) ?_
        refine zG.callVi (d := mdX4_type) (pc := 42) [.int (-4)] [] (ob_0 o) ok_0 rfl dX4_type_42 ⟨(cb_X4_refuse).1, (cb_X4_refuse).2, (Nat.le_of_ble_eq_true rfl), (Nat.le_of_ble_eq_true rfl)⟩ ml_X4_47 ci_X4_refuse cv_X4_refuse rfl (Nat.le_of_ble_eq_true rfl) (Nat.le_of_ble_eq_true rfl) rfl h (fun r8 S9 h2 => ?_)
        replace h := h2
        clear h2
        exact zG.ret (pc := 45) (r := some (.int r8)) ⟨dX4_type_45, _, rfl, rfl⟩ h
      · replace h := h.2 c6
        refine zJ.aload_n (pc := 27) 0 dX4_type_27 rfl rfl ?_
        refine zE.getV (pc := 28) (fd_0_3 o) ok_0 kiX4 (Nat.le_of_ble_eq_true rfl) fl_X4_26 dX4_type_28 ?_
        refine zE.getI (pc := 31) (fd_16_4 o) ok_16 kiX3 (Nat.le_of_ble_eq_true rfl) fl_X4_193 dX4_type_31 ?_
        refine zJ.bipush (pc := 34) (v := 120) dX4_type_34 (by decide) ?_
        refine zJ.icmp_lt (pc := 36) (tgt := 46) dX4_type_36 (by decide) (fun c10 => ?_) (fun c10 => ?_)
        · replace h := h.1 c10
          refine zJ.aload_n (pc := 46) 0 dX4_type_46 rfl rfl ?_
          refine zE.getV (pc := 47) (fd_0_3 o) ok_0 kiX4 (Nat.le_of_ble_eq_true rfl) fl_X4_26 dX4_type_47 ?_
          refine zE.getV (pc := 50) (fd_16_0 o) ok_16 kiX3 (Nat.le_of_ble_eq_true rfl) fl_X4_196 dX4_type_50 ?_
          refine zJ.aload_n (pc := 53) 0 dX4_type_53 rfl rfl ?_
          refine zE.getV (pc := 54) (fd_0_3 o) ok_0 kiX4 (Nat.le_of_ble_eq_true rfl) fl_X4_26 dX4_type_54 ?_
          refine zE.getI (pc := 57) (fd_16_4 o) ok_16 kiX3 (Nat.le_of_ble_eq_true rfl) fl_X4_193 dX4_type_57 ?_
          refine zJ.iload_n (pc := 60) 1 dX4_type_60 rfl rfl ?_
          obtain ⟨hq, h⟩ := h
          refine zE.astI (pc := 61) (ia_17 o) ok_17 hq dX4_type_61 ?_
          refine zJ.aload_n (pc := 62) 0 dX4_type_62 rfl rfl ?_
          refine zE.getV (pc := 63) (fd_0_3 o) ok_0 kiX4 (Nat.le_of_ble_eq_true rfl) fl_X4_26 dX4_type_63 ?_
          refine zJ.dup (pc := 66) dX4_type_66 rfl ?_
          refine zE.getI (pc := 67) (fd_16_4 o) ok_16 kiX3 (Nat.le_of_ble_eq_true rfl) fl_X4_193 dX4_type_67 ?_
          refine zJ.topi (fun y11 hyy11 => ?_)
          replace h := h y11 hyy11
          refine zJ.iconst (pc := 70) (v := 1) dX4_type_70 (by decide) ?_
          refine zJ.iadd (pc := 71) dX4_type_71 ?_
          refine zE.putI (pc := 72) (fd_16_4 o) ok_16 kiX3 (Nat.le_of_ble_eq_true rfl) fl_X4_193 rfl rfl dX4_type_72 ?_
          refine zJ.nameS (fun S12 hyS12 => ?_)
          replace h := h S12 hyS12
          refine zJ.aload_n (pc := 75) 0 dX4_type_75 rfl rfl ?_
          refine zE.getV (pc := 76) (fd_0_3 o) ok_0 kiX4 (Nat.le_of_ble_eq_true rfl) fl_X4_26 dX4_type_76 ?_
          refine zE.getI (pc := 79) (fd_16_4 o) ok_16 kiX3 (Nat.le_of_ble_eq_true rfl) fl_X4_193 dX4_type_79 ?_
          exact zG.ret (pc := 82) (r := some (.int (S12.1 (16, 0, 0) 4))) ⟨dX4_type_82, _, rfl, rfl⟩ h
        · replace h := h.2 c10
          refine zJ.aload_n (pc := 39) 0 dX4_type_39 rfl rfl ?_
          refine zJ.bipush (pc := 40) (v := (-4)) dX4_type_40 (by decide) ?_
          refine zG.callVi (d := mdX4_type) (pc := 42) [.int (-4)] [] (ob_0 o) ok_0 rfl dX4_type_42 ⟨(cb_X4_refuse).1, (cb_X4_refuse).2, (Nat.le_of_ble_eq_true rfl), (Nat.le_of_ble_eq_true rfl)⟩ ml_X4_47 ci_X4_refuse cv_X4_refuse rfl (Nat.le_of_ble_eq_true rfl) (Nat.le_of_ble_eq_true rfl) rfl h (fun r14 S15 h2 => ?_)
          replace h := h2
          clear h2
          exact zG.ret (pc := 45) (r := some (.int r14)) ⟨dX4_type_45, _, rfl, rfl⟩ h
    · replace h := h.2 c5
      refine zJ.aload_n (pc := 10) 0 dX4_type_10 rfl rfl ?_
      refine zJ.bipush (pc := 11) (v := (-2)) dX4_type_11 (by decide) ?_
      refine zG.callVi (d := mdX4_type) (pc := 13) [.int (-2)] [] (ob_0 o) ok_0 rfl dX4_type_13 ⟨(cb_X4_refuse).1, (cb_X4_refuse).2, (Nat.le_of_ble_eq_true rfl), (Nat.le_of_ble_eq_true rfl)⟩ ml_X4_47 ci_X4_refuse cv_X4_refuse rfl (Nat.le_of_ble_eq_true rfl) (Nat.le_of_ble_eq_true rfl) rfl h (fun r17 S18 h2 => ?_)
      replace h := h2
      clear h2
      exact zG.ret (pc := 16) (r := some (.int r17)) ⟨dX4_type_16, _, rfl, rfl⟩ h
set_option maxRecDepth 100000 in
set_option maxHeartbeats 4000000 in
theorem w_X4_clear_0 (o : zW)  (S : zS) (Q : Option Value → zS → Prop) (h : Q (some (.int (S.1 (16, 0, 0) 4))) (sI S (16, 0, 0) 4 0)) : zG o 994 mdX4_clear 0 [(0, .ref (z_adr o (0, 0, 0)))] [] S Q := by
  show zJ o mdX4_clear 0 _ [] (994, z_enc o S) 0 0 _
  refine zJ.aload_n (pc := 0) 0 dX4_clear_0 rfl rfl ?_
  refine zE.getV (pc := 1) (fd_0_3 o) ok_0 kiX4 (Nat.le_of_ble_eq_true rfl) fl_X4_26 dX4_clear_1 ?_
  refine zE.getI (pc := 4) (fd_16_4 o) ok_16 kiX3 (Nat.le_of_ble_eq_true rfl) fl_X4_193 dX4_clear_4 ?_
  refine zJ.istore_n (pc := 7) (lv' := [(1, .int (S.1 (16, 0, 0) 4)), (0, .ref (z_adr o (0, 0, 0)))]) dX4_clear_7 rfl (Nat.le_of_ble_eq_true rfl) rfl ?_
  refine zJ.aload_n (pc := 8) 1 dX4_clear_8 rfl rfl ?_
  refine zE.getV (pc := 9) (fd_0_3 o) ok_0 kiX4 (Nat.le_of_ble_eq_true rfl) fl_X4_26 dX4_clear_9 ?_
  refine zJ.iconst (pc := 12) (v := 0) dX4_clear_12 (by decide) ?_
  refine zE.putI (pc := 13) (fd_16_4 o) ok_16 kiX3 (Nat.le_of_ble_eq_true rfl) fl_X4_193 rfl rfl dX4_clear_13 ?_
  refine zJ.iload_n (pc := 16) 0 dX4_clear_16 rfl rfl ?_
  exact zG.ret (pc := 17) (r := some (.int (S.1 (16, 0, 0) 4))) ⟨dX4_clear_17, _, rfl, rfl⟩ h
set_option maxRecDepth 100000 in
set_option maxHeartbeats 4000000 in
theorem w_X4_runs_0 (o : zW)  (S : zS) (Q : Option Value → zS → Prop) (h : zGi o 994 mdX3_readOrders [.ref (z_adr o (16, 0, 0))] S (fun r2 S3 => (r2 = (-1) → (zGv o 994 mdX4_keep [.ref (z_adr o (0, 0, 0))] S3 (fun S7 => zGv o 994 mdX2_carryOut [.ref (z_adr o (1, 0, 0)), .ref (z_adr o (16, 0, 0))] S7 (fun S10 => Q (some (.int ((S10.1 (3, 0, 0) 9) - (S7.1 (3, 0, 0) 9)))) S10)))) ∧ (¬ r2 = (-1) → (Q (some (.int ((-10) - r2))) S3)))) : zG o 994 mdX4_runs 0 [(0, .ref (z_adr o (0, 0, 0)))] [] S Q := by
  show zJ o mdX4_runs 0 _ [] (994, z_enc o S) 0 0 _
  refine zJ.aload_n (pc := 0) 0 dX4_runs_0 rfl rfl ?_
  refine zE.getV (pc := 1) (fd_0_3 o) ok_0 kiX4 (Nat.le_of_ble_eq_true rfl) fl_X4_26 dX4_runs_1 ?_
  refine zG.callVi (d := mdX4_runs) (pc := 4) [] [] (ob_16 o) ok_16 rfl dX4_runs_4 ⟨(cb_X3_readOrders).1, (cb_X3_readOrders).2, (Nat.le_of_ble_eq_true rfl), (Nat.le_of_ble_eq_true rfl)⟩ ml_X4_177 ci_X3_readOrders cv_X3_readOrders rfl (Nat.le_of_ble_eq_true rfl) (Nat.le_of_ble_eq_true rfl) rfl h (fun r2 S3 h2 => ?_)
  replace h := h2
  clear h2
  refine zJ.istore_n (pc := 7) (lv' := [(1, .int r2), (0, .ref (z_adr o (0, 0, 0)))]) dX4_runs_7 rfl (Nat.le_of_ble_eq_true rfl) rfl ?_
  refine zJ.iload_n (pc := 8) 0 dX4_runs_8 rfl rfl ?_
  refine zJ.iconst (pc := 9) (v := (-1)) dX4_runs_9 (by decide) ?_
  refine zJ.icmp_eq (pc := 10) (tgt := 18) dX4_runs_10 (by decide) (fun c4 => ?_) (fun c4 => ?_)
  · replace h := h.1 c4
    refine zJ.aload_n (pc := 18) 1 dX4_runs_18 rfl rfl ?_
    refine zG.callVv (d := mdX4_runs) (pc := 19) [] [] (ob_0 o) ok_0 rfl dX4_runs_19 ⟨(cb_X4_keep).1, (cb_X4_keep).2, (Nat.le_of_ble_eq_true rfl), (Nat.le_of_ble_eq_true rfl)⟩ ml_X4_51 ci_X4_keep cv_X4_keep rfl (Nat.le_of_ble_eq_true rfl) (Nat.le_of_ble_eq_true rfl) rfl h (fun S7 h2 => ?_)
    replace h := h2
    clear h2
    refine zJ.aload_n (pc := 22) 1 dX4_runs_22 rfl rfl ?_
    refine zE.getV (pc := 23) (fd_0_0 o) ok_0 kiX4 (Nat.le_of_ble_eq_true rfl) fl_X4_10 dX4_runs_23 ?_
    refine zE.getV (pc := 26) (fd_1_1 o 0) (ok_1 (show 0 < 8 by decide) (z_sb_le (show 0 < 8 by decide))) kiX2 (Nat.le_of_ble_eq_true rfl) fl_X4_60 dX4_runs_26 ?_
    refine zJ.bipush (pc := 29) (v := 9) dX4_runs_29 (by decide) ?_
    refine zE.aldI (pc := 31) (ia_3 o 0) (ok_3 (show 0 < 8 by decide) (z_sb_le (show 0 < 8 by decide))) (by unfold vp_in; decide) dX4_runs_31 ?_
    refine zJ.istore_n (pc := 32) (lv' := [(2, .int (S7.1 (3, 0, 0) 9)), (1, .int r2), (0, .ref (z_adr o (0, 0, 0)))]) dX4_runs_32 rfl (Nat.le_of_ble_eq_true rfl) rfl ?_
    refine zJ.aload_n (pc := 33) 2 dX4_runs_33 rfl rfl ?_
    refine zE.getV (pc := 34) (fd_0_0 o) ok_0 kiX4 (Nat.le_of_ble_eq_true rfl) fl_X4_10 dX4_runs_34 ?_
    refine zJ.aload_n (pc := 37) 2 dX4_runs_37 rfl rfl ?_
    refine zE.getV (pc := 38) (fd_0_3 o) ok_0 kiX4 (Nat.le_of_ble_eq_true rfl) fl_X4_26 dX4_runs_38 ?_
    refine zG.callVv (d := mdX4_runs) (pc := 41) [.ref (z_adr o (16, 0, 0))] [] (ob_1 o 0) (ok_1 (show 0 < 8 by decide) (z_sb_le (show 0 < 8 by decide))) rfl dX4_runs_41 ⟨(cb_X2_carryOut).1, (cb_X2_carryOut).2, (Nat.le_of_ble_eq_true rfl), (Nat.le_of_ble_eq_true rfl)⟩ ml_X4_186 ci_X2_carryOut cv_X2_carryOut rfl (Nat.le_of_ble_eq_true rfl) (Nat.le_of_ble_eq_true rfl) rfl h (fun S10 h2 => ?_)
    replace h := h2
    clear h2
    refine zJ.aload_n (pc := 44) 2 dX4_runs_44 rfl rfl ?_
    refine zE.getV (pc := 45) (fd_0_0 o) ok_0 kiX4 (Nat.le_of_ble_eq_true rfl) fl_X4_10 dX4_runs_45 ?_
    refine zE.getV (pc := 48) (fd_1_1 o 0) (ok_1 (show 0 < 8 by decide) (z_sb_le (show 0 < 8 by decide))) kiX2 (Nat.le_of_ble_eq_true rfl) fl_X4_60 dX4_runs_48 ?_
    refine zJ.bipush (pc := 51) (v := 9) dX4_runs_51 (by decide) ?_
    refine zE.aldI (pc := 53) (ia_3 o 0) (ok_3 (show 0 < 8 by decide) (z_sb_le (show 0 < 8 by decide))) (by unfold vp_in; decide) dX4_runs_53 ?_
    refine zJ.iload_n (pc := 54) 0 dX4_runs_54 rfl rfl ?_
    refine zJ.isub (pc := 55) dX4_runs_55 ?_
    exact zG.ret (pc := 56) (r := some (.int ((S10.1 (3, 0, 0) 9) - (S7.1 (3, 0, 0) 9)))) ⟨dX4_runs_56, _, rfl, rfl⟩ h
  · replace h := h.2 c4
    refine zJ.bipush (pc := 13) (v := (-10)) dX4_runs_13 (by decide) ?_
    refine zJ.iload_n (pc := 15) 0 dX4_runs_15 rfl rfl ?_
    refine zJ.isub (pc := 16) dX4_runs_16 ?_
    exact zG.ret (pc := 17) (r := some (.int ((-10) - r2))) ⟨dX4_runs_17, _, rfl, rfl⟩ h
set_option maxRecDepth 100000 in
set_option maxHeartbeats 4000000 in
theorem w_X4_back_0 (o : zW)  (S : zS) (Q : Option Value → zS → Prop) (h : ((S.1 (0, 0, 0) 6) ≤ 0 → (zGi o 994 mdX4_refuse [.ref (z_adr o (0, 0, 0)), .int (-3)] S (fun r3 S4 => Q (some (.int r3)) S4))) ∧ (¬ (S.1 (0, 0, 0) 6) ≤ 0 → (((S.1 (0, 0, 0) 5) < 0 → (zGi o 994 mdX4_refuse [.ref (z_adr o (0, 0, 0)), .int (-3)] S (fun r7 S8 => Q (some (.int r7)) S8))) ∧ (¬ (S.1 (0, 0, 0) 5) < 0 → (((S.1 (0, 0, 0) 5) < 6 → (vp_in (S.1 (0, 0, 0) 5) 6 ∧ (zGv o 994 mdX2_become [.ref (z_adr o (1, 0, 0)), .ref (z_adr o (1, (S.1 (0, 0, 0) 5).toNatClampNeg + 2, 0))] S (fun S13 => ∀ y14 : Int32, y14 = ((((S13.1 (0, 0, 0) 5) + 6) - 1) - (((S13.1 (0, 0, 0) 5) + 6) - 1) / 6 * 6) → (∀ S15 : zS, S15 = (sI (sI S13 (0, 0, 0) 5 y14) (0, 0, 0) 6 (((sI S13 (0, 0, 0) 5 y14).1 (0, 0, 0) 6) - 1)) → (Q (some (.int (S15.1 (0, 0, 0) 6))) S15)))))) ∧ (¬ (S.1 (0, 0, 0) 5) < 6 → (zGi o 994 mdX4_refuse [.ref (z_adr o (0, 0, 0)), .int (-3)] S (fun r17 S18 => Q (some (.int r17)) S18)))))))) : zG o 994 mdX4_back 0 [(0, .ref (z_adr o (0, 0, 0)))] [] S Q := by
  show zJ o mdX4_back 0 _ [] (994, z_enc o S) 0 0 _
  refine zJ.aload_n (pc := 0) 0 dX4_back_0 rfl rfl ?_
  refine zE.getI (pc := 1) (fd_0_6 o) ok_0 kiX4 (Nat.le_of_ble_eq_true rfl) fl_X4_38 dX4_back_1 ?_
  refine zJ.if_le (pc := 4) (tgt := 23) dX4_back_4 (by decide) (fun c1 => ?_) (fun c1 => ?_)
  · replace h := h.1 c1
    refine zJ.aload_n (pc := 23) 0 dX4_back_23 rfl rfl ?_
    refine zJ.bipush (pc := 24) (v := (-3)) dX4_back_24 (by decide) ?_
    refine zG.callVi (d := mdX4_back) (pc := 26) [.int (-3)] [] (ob_0 o) ok_0 rfl dX4_back_26 ⟨(cb_X4_refuse).1, (cb_X4_refuse).2, (Nat.le_of_ble_eq_true rfl), (Nat.le_of_ble_eq_true rfl)⟩ ml_X4_47 ci_X4_refuse cv_X4_refuse rfl (Nat.le_of_ble_eq_true rfl) (Nat.le_of_ble_eq_true rfl) rfl h (fun r3 S4 h2 => ?_)
    replace h := h2
    clear h2
    exact zG.ret (pc := 29) (r := some (.int r3)) ⟨dX4_back_29, _, rfl, rfl⟩ h
  · replace h := h.2 c1
    refine zJ.aload_n (pc := 7) 0 dX4_back_7 rfl rfl ?_
    refine zE.getI (pc := 8) (fd_0_5 o) ok_0 kiX4 (Nat.le_of_ble_eq_true rfl) fl_X4_34 dX4_back_8 ?_
    refine zJ.if_lt (pc := 11) (tgt := 23) dX4_back_11 (by decide) (fun c5 => ?_) (fun c5 => ?_)
    · replace h := h.1 c5
      refine zJ.aload_n (pc := 23) 0 dX4_back_23 rfl rfl ?_
      refine zJ.bipush (pc := 24) (v := (-3)) dX4_back_24 (by decide) ?_
      refine zG.callVi (d := mdX4_back) (pc := 26) [.int (-3)] [] (ob_0 o) ok_0 rfl dX4_back_26 ⟨(cb_X4_refuse).1, (cb_X4_refuse).2, (Nat.le_of_ble_eq_true rfl), (Nat.le_of_ble_eq_true rfl)⟩ ml_X4_47 ci_X4_refuse cv_X4_refuse rfl (Nat.le_of_ble_eq_true rfl) (Nat.le_of_ble_eq_true rfl) rfl h (fun r7 S8 h2 => ?_)
      replace h := h2
      clear h2
      exact zG.ret (pc := 29) (r := some (.int r7)) ⟨dX4_back_29, _, rfl, rfl⟩ h
    · replace h := h.2 c5
      refine zJ.aload_n (pc := 14) 0 dX4_back_14 rfl rfl ?_
      refine zE.getI (pc := 15) (fd_0_5 o) ok_0 kiX4 (Nat.le_of_ble_eq_true rfl) fl_X4_34 dX4_back_15 ?_
      refine zJ.bipush (pc := 18) (v := 6) dX4_back_18 (by decide) ?_
      refine zJ.icmp_lt (pc := 20) (tgt := 30) dX4_back_20 (by decide) (fun c9 => ?_) (fun c9 => ?_)
      · replace h := h.1 c9
        refine zJ.aload_n (pc := 30) 0 dX4_back_30 rfl rfl ?_
        refine zE.getV (pc := 31) (fd_0_0 o) ok_0 kiX4 (Nat.le_of_ble_eq_true rfl) fl_X4_10 dX4_back_31 ?_
        refine zJ.aload_n (pc := 34) 0 dX4_back_34 rfl rfl ?_
        refine zE.getV (pc := 35) (fd_0_2 o) ok_0 kiX4 (Nat.le_of_ble_eq_true rfl) fl_X4_19 dX4_back_35 ?_
        refine zJ.aload_n (pc := 38) 0 dX4_back_38 rfl rfl ?_
        refine zE.getI (pc := 39) (fd_0_5 o) ok_0 kiX4 (Nat.le_of_ble_eq_true rfl) fl_X4_34 dX4_back_39 ?_
        obtain ⟨hq10, h⟩ := h
        refine zE.aldK (pc := 42) ok_22 hq10 dX4_back_42 ?_
        refine zG.callVv (d := mdX4_back) (pc := 43) [.ref (z_adr o (1, (S.1 (0, 0, 0) 5).toNatClampNeg + 2, 0))] [] (ob_1 o 0) (ok_1 (show 0 < 8 by decide) (z_sb_le (show 0 < 8 by decide))) rfl dX4_back_43 ⟨(cb_X2_become).1, (cb_X2_become).2, (Nat.le_of_ble_eq_true rfl), (Nat.le_of_ble_eq_true rfl)⟩ ml_X4_199 ci_X2_become cv_X2_become rfl (Nat.le_of_ble_eq_true rfl) (Nat.le_of_ble_eq_true rfl) rfl h (fun S13 h2 => ?_)
        replace h := h2
        clear h2
        refine zJ.aload_n (pc := 46) 0 dX4_back_46 rfl rfl ?_
        refine zJ.aload_n (pc := 47) 0 dX4_back_47 rfl rfl ?_
        refine zE.getI (pc := 48) (fd_0_5 o) ok_0 kiX4 (Nat.le_of_ble_eq_true rfl) fl_X4_34 dX4_back_48 ?_
        refine zJ.bipush (pc := 51) (v := 6) dX4_back_51 (by decide) ?_
        refine zJ.iadd (pc := 53) dX4_back_53 ?_
        refine zJ.iconst (pc := 54) (v := 1) dX4_back_54 (by decide) ?_
        refine zJ.isub (pc := 55) dX4_back_55 ?_
        refine zJ.bipush (pc := 56) (v := 6) dX4_back_56 (by decide) ?_
        refine zJ.irem (pc := 58) dX4_back_58 (by decide) ?_
        refine zJ.topi (fun y14 hyy14 => ?_)
        replace h := h y14 hyy14
        refine zE.putI (pc := 59) (fd_0_5 o) ok_0 kiX4 (Nat.le_of_ble_eq_true rfl) fl_X4_34 rfl rfl dX4_back_59 ?_
        refine zJ.aload_n (pc := 62) 0 dX4_back_62 rfl rfl ?_
        refine zJ.dup (pc := 63) dX4_back_63 rfl ?_
        refine zE.getI (pc := 64) (fd_0_6 o) ok_0 kiX4 (Nat.le_of_ble_eq_true rfl) fl_X4_38 dX4_back_64 ?_
        refine zJ.iconst (pc := 67) (v := 1) dX4_back_67 (by decide) ?_
        refine zJ.isub (pc := 68) dX4_back_68 ?_
        refine zE.putI (pc := 69) (fd_0_6 o) ok_0 kiX4 (Nat.le_of_ble_eq_true rfl) fl_X4_38 rfl rfl dX4_back_69 ?_
        refine zJ.nameS (fun S15 hyS15 => ?_)
        replace h := h S15 hyS15
        refine zJ.aload_n (pc := 72) 0 dX4_back_72 rfl rfl ?_
        refine zE.getI (pc := 73) (fd_0_6 o) ok_0 kiX4 (Nat.le_of_ble_eq_true rfl) fl_X4_38 dX4_back_73 ?_
        exact zG.ret (pc := 76) (r := some (.int (S15.1 (0, 0, 0) 6))) ⟨dX4_back_76, _, rfl, rfl⟩ h
      · replace h := h.2 c9
        refine zJ.aload_n (pc := 23) 0 dX4_back_23 rfl rfl ?_
        refine zJ.bipush (pc := 24) (v := (-3)) dX4_back_24 (by decide) ?_
        refine zG.callVi (d := mdX4_back) (pc := 26) [.int (-3)] [] (ob_0 o) ok_0 rfl dX4_back_26 ⟨(cb_X4_refuse).1, (cb_X4_refuse).2, (Nat.le_of_ble_eq_true rfl), (Nat.le_of_ble_eq_true rfl)⟩ ml_X4_47 ci_X4_refuse cv_X4_refuse rfl (Nat.le_of_ble_eq_true rfl) (Nat.le_of_ble_eq_true rfl) rfl h (fun r17 S18 h2 => ?_)
        replace h := h2
        clear h2
        exact zG.ret (pc := 29) (r := some (.int r17)) ⟨dX4_back_29, _, rfl, rfl⟩ h
set_option maxRecDepth 100000 in
set_option maxHeartbeats 4000000 in
theorem w_X4_told_0 (o : zW) (x1 : Int32) (S : zS) (Q : Option Value → zS → Prop) (h : (x1 < 0 → (zGi o 994 mdX4_refuse [.ref (z_adr o (0, 0, 0)), .int (-2)] S (fun r3 S4 => Q (some (.int r3)) S4))) ∧ (¬ x1 < 0 → ((x1 ≤ 9 → ((3 ≤ x1 → ((¬ x1 = 3 → ((¬ x1 = 9 → (vp_in (x1 - 4) 5 ∧ (Q (some (.int (S.1 (2, 0, 0) ((x1 - 4).toNatClampNeg)))) S))) ∧ (x1 = 9 → (Q (some (.int (S.1 (0, 0, 0) 6))) S)))) ∧ (x1 = 3 → (Q (some (.int (S.1 (16, 0, 0) 4))) S)))) ∧ (¬ 3 ≤ x1 → (vp_in x1 3 ∧ (Q (some (.int (S.1 (21, 0, 0) x1.toNatClampNeg))) S))))) ∧ (¬ x1 ≤ 9 → (zGi o 994 mdX4_refuse [.ref (z_adr o (0, 0, 0)), .int (-2)] S (fun r10 S11 => Q (some (.int r10)) S11)))))) : zG o 994 mdX4_told 0 [(0, .ref (z_adr o (0, 0, 0))), (1, .int x1)] [] S Q := by
  show zJ o mdX4_told 0 _ [] (994, z_enc o S) 0 0 _
  refine zJ.iload_n (pc := 0) 1 dX4_told_0 rfl rfl ?_
  refine zJ.if_lt (pc := 1) (tgt := 10) dX4_told_1 (by decide) (fun c1 => ?_) (fun c1 => ?_)
  · replace h := h.1 c1
    refine zJ.aload_n (pc := 10) 0 dX4_told_10 rfl rfl ?_
    refine zJ.bipush (pc := 11) (v := (-2)) dX4_told_11 (by decide) ?_
    refine zG.callVi (d := mdX4_told) (pc := 13) [.int (-2)] [] (ob_0 o) ok_0 rfl dX4_told_13 ⟨(cb_X4_refuse).1, (cb_X4_refuse).2, (Nat.le_of_ble_eq_true rfl), (Nat.le_of_ble_eq_true rfl)⟩ ml_X4_47 ci_X4_refuse cv_X4_refuse rfl (Nat.le_of_ble_eq_true rfl) (Nat.le_of_ble_eq_true rfl) rfl h (fun r3 S4 h2 => ?_)
    replace h := h2
    clear h2
    exact zG.ret (pc := 16) (r := some (.int r3)) ⟨dX4_told_16, _, rfl, rfl⟩ h
  · replace h := h.2 c1
    refine zJ.iload_n (pc := 4) 1 dX4_told_4 rfl rfl ?_
    refine zJ.bipush (pc := 5) (v := 9) dX4_told_5 (by decide) ?_
    refine zJ.icmp_le (pc := 7) (tgt := 17) dX4_told_7 (by decide) (fun c5 => ?_) (fun c5 => ?_)
    · replace h := h.1 c5
      refine zJ.iload_n (pc := 17) 1 dX4_told_17 rfl rfl ?_
      refine zJ.iconst (pc := 18) (v := 3) dX4_told_18 (by decide) ?_
      refine zJ.icmp_ge (pc := 19) (tgt := 29) dX4_told_19 (by decide) (fun c6 => ?_) (fun c6 => ?_)
      · replace h := h.1 c6
        refine zJ.iload_n (pc := 29) 1 dX4_told_29 rfl rfl ?_
        refine zJ.iconst (pc := 30) (v := 3) dX4_told_30 (by decide) ?_
        refine zJ.icmp_ne (pc := 31) (tgt := 42) dX4_told_31 (by decide) (fun c7 => ?_) (fun c7 => ?_)
        · replace h := h.1 c7
          refine zJ.iload_n (pc := 42) 1 dX4_told_42 rfl rfl ?_
          refine zJ.bipush (pc := 43) (v := 9) dX4_told_43 (by decide) ?_
          refine zJ.icmp_ne (pc := 45) (tgt := 55) dX4_told_45 (by decide) (fun c8 => ?_) (fun c8 => ?_)
          · replace h := h.1 c8
            refine zJ.aload_n (pc := 55) 0 dX4_told_55 rfl rfl ?_
            refine zE.getV (pc := 56) (fd_0_0 o) ok_0 kiX4 (Nat.le_of_ble_eq_true rfl) fl_X4_10 dX4_told_56 ?_
            refine zE.getV (pc := 59) (fd_1_0 o 0) (ok_1 (show 0 < 8 by decide) (z_sb_le (show 0 < 8 by decide))) kiX2 (Nat.le_of_ble_eq_true rfl) fl_X4_54 dX4_told_59 ?_
            refine zJ.iload_n (pc := 62) 1 dX4_told_62 rfl rfl ?_
            refine zJ.iconst (pc := 63) (v := 4) dX4_told_63 (by decide) ?_
            refine zJ.isub (pc := 64) dX4_told_64 ?_
            obtain ⟨hq, h⟩ := h
            refine zE.aldI (pc := 65) (ia_2 o 0) (ok_2 (show 0 < 8 by decide) (z_sb_le (show 0 < 8 by decide))) hq dX4_told_65 ?_
            exact zG.ret (pc := 66) (r := some (.int (S.1 (2, 0, 0) ((x1 - 4).toNatClampNeg)))) ⟨dX4_told_66, _, rfl, rfl⟩ h
          · replace h := h.2 c8
            refine zJ.aload_n (pc := 48) 0 dX4_told_48 rfl rfl ?_
            refine zE.getI (pc := 49) (fd_0_6 o) ok_0 kiX4 (Nat.le_of_ble_eq_true rfl) fl_X4_38 dX4_told_49 ?_
            refine zJ.goto (pc := 52) (tgt := 66) dX4_told_52 (by decide) ?_
            exact zG.ret (pc := 66) (r := some (.int (S.1 (0, 0, 0) 6))) ⟨dX4_told_66, _, rfl, rfl⟩ h
        · replace h := h.2 c7
          refine zJ.aload_n (pc := 34) 0 dX4_told_34 rfl rfl ?_
          refine zE.getV (pc := 35) (fd_0_3 o) ok_0 kiX4 (Nat.le_of_ble_eq_true rfl) fl_X4_26 dX4_told_35 ?_
          refine zE.getI (pc := 38) (fd_16_4 o) ok_16 kiX3 (Nat.le_of_ble_eq_true rfl) fl_X4_193 dX4_told_38 ?_
          exact zG.ret (pc := 41) (r := some (.int (S.1 (16, 0, 0) 4))) ⟨dX4_told_41, _, rfl, rfl⟩ h
      · replace h := h.2 c6
        refine zJ.aload_n (pc := 22) 0 dX4_told_22 rfl rfl ?_
        refine zE.getV (pc := 23) (fd_0_4 o) ok_0 kiX4 (Nat.le_of_ble_eq_true rfl) fl_X4_30 dX4_told_23 ?_
        refine zJ.iload_n (pc := 26) 1 dX4_told_26 rfl rfl ?_
        obtain ⟨hq, h⟩ := h
        refine zE.aldI (pc := 27) (ia_21 o) ok_21 hq dX4_told_27 ?_
        exact zG.ret (pc := 28) (r := some (.int (S.1 (21, 0, 0) x1.toNatClampNeg))) ⟨dX4_told_28, _, rfl, rfl⟩ h
    · replace h := h.2 c5
      refine zJ.aload_n (pc := 10) 0 dX4_told_10 rfl rfl ?_
      refine zJ.bipush (pc := 11) (v := (-2)) dX4_told_11 (by decide) ?_
      refine zG.callVi (d := mdX4_told) (pc := 13) [.int (-2)] [] (ob_0 o) ok_0 rfl dX4_told_13 ⟨(cb_X4_refuse).1, (cb_X4_refuse).2, (Nat.le_of_ble_eq_true rfl), (Nat.le_of_ble_eq_true rfl)⟩ ml_X4_47 ci_X4_refuse cv_X4_refuse rfl (Nat.le_of_ble_eq_true rfl) (Nat.le_of_ble_eq_true rfl) rfl h (fun r10 S11 h2 => ?_)
      replace h := h2
      clear h2
      exact zG.ret (pc := 16) (r := some (.int r10)) ⟨dX4_told_16, _, rfl, rfl⟩ h
set_option maxRecDepth 100000 in
set_option maxHeartbeats 4000000 in
theorem w_X4_digest_0 (o : zW)  (S : zS) (Q : Option Value → zS → Prop) (h : zG o 994 mdX4_digest 6 [(0, .ref (z_adr o (0, 0, 0))), (1, .long (2087 : Int64)), (3, .int 0)] [] S Q) : zG o 994 mdX4_digest 0 [(0, .ref (z_adr o (0, 0, 0)))] [] S Q := by
  show zJ o mdX4_digest 0 _ [] (994, z_enc o S) 0 0 _
  refine zJ.ldc2 (pc := 0) lc_X4_203 dX4_digest_0 ?_
  refine zJ.lstore_n (pc := 3) (lv' := [(1, .long (2087 : Int64)), (0, .ref (z_adr o (0, 0, 0)))]) dX4_digest_3 rfl (Nat.le_of_ble_eq_true rfl) rfl ?_
  refine zJ.iconst (pc := 4) (v := 0) dX4_digest_4 (by decide) ?_
  refine zJ.istore_n (pc := 5) (lv' := [(3, .int 0), (1, .long (2087 : Int64)), (0, .ref (z_adr o (0, 0, 0)))]) dX4_digest_5 rfl (Nat.le_of_ble_eq_true rfl) rfl ?_
  exact zJ.sub [2, 1, 0] rfl h
set_option maxRecDepth 100000 in
set_option maxHeartbeats 4000000 in
theorem w_X4_digest_6 (o : zW) (x1 : Int64) (x3 : Int32) (S : zS) (Q : Option Value → zS → Prop) (h : (9 < x3 → (zG o 994 mdX4_digest 33 [(0, .ref (z_adr o (0, 0, 0))), (1, .long x1), (3, .int 0)] [] S Q)) ∧ (¬ 9 < x3 → (zGi o 994 mdX4_told [.ref (z_adr o (0, 0, 0)), .int x3] S (fun r3 S4 => zG o 994 mdX4_digest 6 [(0, .ref (z_adr o (0, 0, 0))), (1, .long (((31 : Int64) * x1) + r3.toInt64)), (3, .int (x3 + 1))] [] S4 Q)))) : zG o 994 mdX4_digest 6 [(0, .ref (z_adr o (0, 0, 0))), (1, .long x1), (3, .int x3)] [] S Q := by
  show zJ o mdX4_digest 6 _ [] (994, z_enc o S) 0 0 _
  refine zJ.iload_n (pc := 6) 2 dX4_digest_6 rfl rfl ?_
  refine zJ.bipush (pc := 7) (v := 9) dX4_digest_7 (by decide) ?_
  refine zJ.icmp_gt (pc := 9) (tgt := 31) dX4_digest_9 (by decide) (fun c1 => ?_) (fun c1 => ?_)
  · replace h := h.1 c1
    refine zJ.iconst (pc := 31) (v := 0) dX4_digest_31 (by decide) ?_
    refine zJ.istore_n (pc := 32) (lv' := [(3, .int 0), (0, .ref (z_adr o (0, 0, 0))), (1, .long x1)]) dX4_digest_32 rfl (Nat.le_of_ble_eq_true rfl) rfl ?_
    exact zJ.sub [1, 2, 0] rfl h
  · replace h := h.2 c1
    refine zJ.ldc2 (pc := 12) lc_X4_205 dX4_digest_12 ?_
    refine zJ.lload_n (pc := 15) 1 dX4_digest_15 rfl rfl ?_
    refine zJ.lmul (pc := 16) dX4_digest_16 ?_
    refine zJ.aload_n (pc := 17) 0 dX4_digest_17 rfl rfl ?_
    refine zJ.iload_n (pc := 18) 2 dX4_digest_18 rfl rfl ?_
    refine zG.callVi (d := mdX4_digest) (pc := 19) [.int x3] [.long ((31 : Int64) * x1)] (ob_0 o) ok_0 rfl dX4_digest_19 ⟨(cb_X4_told).1, (cb_X4_told).2, (Nat.le_of_ble_eq_true rfl), (Nat.le_of_ble_eq_true rfl)⟩ ml_X4_207 ci_X4_told cv_X4_told rfl (Nat.le_of_ble_eq_true rfl) (Nat.le_of_ble_eq_true rfl) rfl h (fun r3 S4 h2 => ?_)
    replace h := h2
    clear h2
    refine zJ.i2l (pc := 22) dX4_digest_22 ?_
    refine zJ.ladd (pc := 23) dX4_digest_23 ?_
    refine zJ.lstore_n (pc := 24) (lv' := [(1, .long (((31 : Int64) * x1) + r3.toInt64)), (0, .ref (z_adr o (0, 0, 0))), (3, .int x3)]) dX4_digest_24 rfl (Nat.le_of_ble_eq_true rfl) rfl ?_
    refine zJ.iinc (pc := 25) (k := 2) (lv' := [(3, .int (x3 + 1)), (1, .long (((31 : Int64) * x1) + r3.toInt64)), (0, .ref (z_adr o (0, 0, 0)))]) dX4_digest_25 rfl rfl (Nat.le_of_ble_eq_true rfl) rfl ?_
    refine zJ.goto (pc := 28) (tgt := 6) dX4_digest_28 (by decide) ?_
    exact zJ.sub [2, 1, 0] rfl h
set_option maxRecDepth 100000 in
set_option maxHeartbeats 4000000 in
theorem w_X4_digest_33 (o : zW) (x1 : Int64) (x3 : Int32) (S : zS) (Q : Option Value → zS → Prop) (h : (10 ≤ x3 → (zG o 994 mdX4_digest 60 [(0, .ref (z_adr o (0, 0, 0))), (1, .long x1), (3, .int 0)] [] S Q)) ∧ (¬ 10 ≤ x3 → (zGi o 994 mdX4_often [.ref (z_adr o (0, 0, 0)), .int x3] S (fun r3 S4 => zG o 994 mdX4_digest 33 [(0, .ref (z_adr o (0, 0, 0))), (1, .long (((31 : Int64) * x1) + r3.toInt64)), (3, .int (x3 + 1))] [] S4 Q)))) : zG o 994 mdX4_digest 33 [(0, .ref (z_adr o (0, 0, 0))), (1, .long x1), (3, .int x3)] [] S Q := by
  show zJ o mdX4_digest 33 _ [] (994, z_enc o S) 0 0 _
  refine zJ.iload_n (pc := 33) 2 dX4_digest_33 rfl rfl ?_
  refine zJ.bipush (pc := 34) (v := 10) dX4_digest_34 (by decide) ?_
  refine zJ.icmp_ge (pc := 36) (tgt := 58) dX4_digest_36 (by decide) (fun c1 => ?_) (fun c1 => ?_)
  · replace h := h.1 c1
    refine zJ.iconst (pc := 58) (v := 0) dX4_digest_58 (by decide) ?_
    refine zJ.istore_n (pc := 59) (lv' := [(3, .int 0), (0, .ref (z_adr o (0, 0, 0))), (1, .long x1)]) dX4_digest_59 rfl (Nat.le_of_ble_eq_true rfl) rfl ?_
    exact zJ.sub [1, 2, 0] rfl h
  · replace h := h.2 c1
    refine zJ.ldc2 (pc := 39) lc_X4_205 dX4_digest_39 ?_
    refine zJ.lload_n (pc := 42) 1 dX4_digest_42 rfl rfl ?_
    refine zJ.lmul (pc := 43) dX4_digest_43 ?_
    refine zJ.aload_n (pc := 44) 0 dX4_digest_44 rfl rfl ?_
    refine zJ.iload_n (pc := 45) 2 dX4_digest_45 rfl rfl ?_
    refine zG.callVi (d := mdX4_digest) (pc := 46) [.int x3] [.long ((31 : Int64) * x1)] (ob_0 o) ok_0 rfl dX4_digest_46 ⟨(cb_X4_often).1, (cb_X4_often).2, (Nat.le_of_ble_eq_true rfl), (Nat.le_of_ble_eq_true rfl)⟩ ml_X4_210 ci_X4_often cv_X4_often rfl (Nat.le_of_ble_eq_true rfl) (Nat.le_of_ble_eq_true rfl) rfl h (fun r3 S4 h2 => ?_)
    replace h := h2
    clear h2
    refine zJ.i2l (pc := 49) dX4_digest_49 ?_
    refine zJ.ladd (pc := 50) dX4_digest_50 ?_
    refine zJ.lstore_n (pc := 51) (lv' := [(1, .long (((31 : Int64) * x1) + r3.toInt64)), (0, .ref (z_adr o (0, 0, 0))), (3, .int x3)]) dX4_digest_51 rfl (Nat.le_of_ble_eq_true rfl) rfl ?_
    refine zJ.iinc (pc := 52) (k := 2) (lv' := [(3, .int (x3 + 1)), (1, .long (((31 : Int64) * x1) + r3.toInt64)), (0, .ref (z_adr o (0, 0, 0)))]) dX4_digest_52 rfl rfl (Nat.le_of_ble_eq_true rfl) rfl ?_
    refine zJ.goto (pc := 55) (tgt := 33) dX4_digest_55 (by decide) ?_
    exact zJ.sub [2, 1, 0] rfl h
set_option maxRecDepth 100000 in
set_option maxHeartbeats 4000000 in
theorem w_X4_digest_60 (o : zW) (x1 : Int64) (x3 : Int32) (S : zS) (Q : Option Value → zS → Prop) (h : (16 ≤ x3 → (zG o 994 mdX4_digest 105 [(0, .ref (z_adr o (0, 0, 0))), (1, .long x1), (3, .int 0)] [] S Q)) ∧ (¬ 16 ≤ x3 → (zG o 994 mdX4_digest 69 [(0, .ref (z_adr o (0, 0, 0))), (1, .long x1), (3, .int x3), (4, .int 0)] [] S Q))) : zG o 994 mdX4_digest 60 [(0, .ref (z_adr o (0, 0, 0))), (1, .long x1), (3, .int x3)] [] S Q := by
  show zJ o mdX4_digest 60 _ [] (994, z_enc o S) 0 0 _
  refine zJ.iload_n (pc := 60) 2 dX4_digest_60 rfl rfl ?_
  refine zJ.bipush (pc := 61) (v := 16) dX4_digest_61 (by decide) ?_
  refine zJ.icmp_ge (pc := 63) (tgt := 103) dX4_digest_63 (by decide) (fun c1 => ?_) (fun c1 => ?_)
  · replace h := h.1 c1
    refine zJ.iconst (pc := 103) (v := 0) dX4_digest_103 (by decide) ?_
    refine zJ.istore_n (pc := 104) (lv' := [(3, .int 0), (0, .ref (z_adr o (0, 0, 0))), (1, .long x1)]) dX4_digest_104 rfl (Nat.le_of_ble_eq_true rfl) rfl ?_
    exact zJ.sub [1, 2, 0] rfl h
  · replace h := h.2 c1
    refine zJ.iconst (pc := 66) (v := 0) dX4_digest_66 (by decide) ?_
    refine zJ.istore (pc := 67) (lv' := [(4, .int 0), (0, .ref (z_adr o (0, 0, 0))), (1, .long x1), (3, .int x3)]) dX4_digest_67 (Nat.le_of_ble_eq_true rfl) rfl ?_
    exact zJ.sub [1, 2, 3, 0] rfl h
set_option maxRecDepth 100000 in
set_option maxHeartbeats 4000000 in
theorem w_X4_digest_69 (o : zW) (x1 : Int64) (x3 : Int32) (x4 : Int32) (S : zS) (Q : Option Value → zS → Prop) (h : (4 ≤ x4 → (zG o 994 mdX4_digest 60 [(0, .ref (z_adr o (0, 0, 0))), (1, .long x1), (3, .int (x3 + 1))] [] S Q)) ∧ (¬ 4 ≤ x4 → (zGi o 994 mdX4_item [.ref (z_adr o (0, 0, 0)), .int x3, .int x4, .int 0] S (fun r3 S4 => zG o 994 mdX4_digest 69 [(0, .ref (z_adr o (0, 0, 0))), (1, .long (((31 : Int64) * x1) + r3.toInt64)), (3, .int x3), (4, .int (x4 + 1))] [] S4 Q)))) : zG o 994 mdX4_digest 69 [(0, .ref (z_adr o (0, 0, 0))), (1, .long x1), (3, .int x3), (4, .int x4)] [] S Q := by
  show zJ o mdX4_digest 69 _ [] (994, z_enc o S) 0 0 _
  refine zJ.iload (pc := 69) 3 dX4_digest_69 rfl ?_
  refine zJ.iconst (pc := 71) (v := 4) dX4_digest_71 (by decide) ?_
  refine zJ.icmp_ge (pc := 72) (tgt := 97) dX4_digest_72 (by decide) (fun c1 => ?_) (fun c1 => ?_)
  · replace h := h.1 c1
    refine zJ.iinc (pc := 97) (k := 2) (lv' := [(3, .int (x3 + 1)), (0, .ref (z_adr o (0, 0, 0))), (1, .long x1), (4, .int x4)]) dX4_digest_97 rfl rfl (Nat.le_of_ble_eq_true rfl) rfl ?_
    refine zJ.goto (pc := 100) (tgt := 60) dX4_digest_100 (by decide) ?_
    exact zJ.sub [1, 2, 0] rfl h
  · replace h := h.2 c1
    refine zJ.ldc2 (pc := 75) lc_X4_205 dX4_digest_75 ?_
    refine zJ.lload_n (pc := 78) 1 dX4_digest_78 rfl rfl ?_
    refine zJ.lmul (pc := 79) dX4_digest_79 ?_
    refine zJ.aload_n (pc := 80) 0 dX4_digest_80 rfl rfl ?_
    refine zJ.iload_n (pc := 81) 2 dX4_digest_81 rfl rfl ?_
    refine zJ.iload (pc := 82) 3 dX4_digest_82 rfl ?_
    refine zJ.iconst (pc := 84) (v := 0) dX4_digest_84 (by decide) ?_
    refine zG.callVi (d := mdX4_digest) (pc := 85) [.int x3, .int x4, .int 0] [.long ((31 : Int64) * x1)] (ob_0 o) ok_0 rfl dX4_digest_85 ⟨(cb_X4_item).1, (cb_X4_item).2, (Nat.le_of_ble_eq_true rfl), (Nat.le_of_ble_eq_true rfl)⟩ ml_X4_213 ci_X4_item cv_X4_item rfl (Nat.le_of_ble_eq_true rfl) (Nat.le_of_ble_eq_true rfl) rfl h (fun r3 S4 h2 => ?_)
    replace h := h2
    clear h2
    refine zJ.i2l (pc := 88) dX4_digest_88 ?_
    refine zJ.ladd (pc := 89) dX4_digest_89 ?_
    refine zJ.lstore_n (pc := 90) (lv' := [(1, .long (((31 : Int64) * x1) + r3.toInt64)), (0, .ref (z_adr o (0, 0, 0))), (3, .int x3), (4, .int x4)]) dX4_digest_90 rfl (Nat.le_of_ble_eq_true rfl) rfl ?_
    refine zJ.iinc (pc := 91) (k := 3) (lv' := [(4, .int (x4 + 1)), (1, .long (((31 : Int64) * x1) + r3.toInt64)), (0, .ref (z_adr o (0, 0, 0))), (3, .int x3)]) dX4_digest_91 rfl rfl (Nat.le_of_ble_eq_true rfl) rfl ?_
    refine zJ.goto (pc := 94) (tgt := 69) dX4_digest_94 (by decide) ?_
    exact zJ.sub [2, 1, 3, 0] rfl h
set_option maxRecDepth 100000 in
set_option maxHeartbeats 4000000 in
theorem w_X4_digest_105 (o : zW) (x1 : Int64) (x3 : Int32) (S : zS) (Q : Option Value → zS → Prop) (h : (16 ≤ x3 → (zGi o 994 mdX4_cost [.ref (z_adr o (0, 0, 0)), .int 0] S (fun r3 S4 => zGi o 994 mdX4_cost [.ref (z_adr o (0, 0, 0)), .int 1] S4 (fun r6 S7 => zGl o 994 mdX4_even [.ref (z_adr o (0, 0, 0))] S7 (fun r9 S10 => Q (some (.long (((31 : Int64) * (((31 : Int64) * (((31 : Int64) * x1) + r3.toInt64)) + r6.toInt64)) + r9))) S10))))) ∧ (¬ 16 ≤ x3 → (zGi o 994 mdX4_where [.ref (z_adr o (0, 0, 0)), .int x3] S (fun r12 S13 => zG o 994 mdX4_digest 105 [(0, .ref (z_adr o (0, 0, 0))), (1, .long (((31 : Int64) * x1) + r12.toInt64)), (3, .int (x3 + 1))] [] S13 Q)))) : zG o 994 mdX4_digest 105 [(0, .ref (z_adr o (0, 0, 0))), (1, .long x1), (3, .int x3)] [] S Q := by
  show zJ o mdX4_digest 105 _ [] (994, z_enc o S) 0 0 _
  refine zJ.iload_n (pc := 105) 2 dX4_digest_105 rfl rfl ?_
  refine zJ.bipush (pc := 106) (v := 16) dX4_digest_106 (by decide) ?_
  refine zJ.icmp_ge (pc := 108) (tgt := 130) dX4_digest_108 (by decide) (fun c1 => ?_) (fun c1 => ?_)
  · replace h := h.1 c1
    refine zJ.ldc2 (pc := 130) lc_X4_205 dX4_digest_130 ?_
    refine zJ.lload_n (pc := 133) 1 dX4_digest_133 rfl rfl ?_
    refine zJ.lmul (pc := 134) dX4_digest_134 ?_
    refine zJ.aload_n (pc := 135) 0 dX4_digest_135 rfl rfl ?_
    refine zJ.iconst (pc := 136) (v := 0) dX4_digest_136 (by decide) ?_
    refine zG.callVi (d := mdX4_digest) (pc := 137) [.int 0] [.long ((31 : Int64) * x1)] (ob_0 o) ok_0 rfl dX4_digest_137 ⟨(cb_X4_cost).1, (cb_X4_cost).2, (Nat.le_of_ble_eq_true rfl), (Nat.le_of_ble_eq_true rfl)⟩ ml_X4_220 ci_X4_cost cv_X4_cost rfl (Nat.le_of_ble_eq_true rfl) (Nat.le_of_ble_eq_true rfl) rfl h (fun r3 S4 h2 => ?_)
    replace h := h2
    clear h2
    refine zJ.i2l (pc := 140) dX4_digest_140 ?_
    refine zJ.ladd (pc := 141) dX4_digest_141 ?_
    refine zJ.lstore_n (pc := 142) (lv' := [(1, .long (((31 : Int64) * x1) + r3.toInt64)), (0, .ref (z_adr o (0, 0, 0))), (3, .int x3)]) dX4_digest_142 rfl (Nat.le_of_ble_eq_true rfl) rfl ?_
    refine zJ.ldc2 (pc := 143) lc_X4_205 dX4_digest_143 ?_
    refine zJ.lload_n (pc := 146) 0 dX4_digest_146 rfl rfl ?_
    refine zJ.lmul (pc := 147) dX4_digest_147 ?_
    refine zJ.aload_n (pc := 148) 1 dX4_digest_148 rfl rfl ?_
    refine zJ.iconst (pc := 149) (v := 1) dX4_digest_149 (by decide) ?_
    refine zG.callVi (d := mdX4_digest) (pc := 150) [.int 1] [.long ((31 : Int64) * (((31 : Int64) * x1) + r3.toInt64))] (ob_0 o) ok_0 rfl dX4_digest_150 ⟨(cb_X4_cost).1, (cb_X4_cost).2, (Nat.le_of_ble_eq_true rfl), (Nat.le_of_ble_eq_true rfl)⟩ ml_X4_220 ci_X4_cost cv_X4_cost rfl (Nat.le_of_ble_eq_true rfl) (Nat.le_of_ble_eq_true rfl) rfl h (fun r6 S7 h2 => ?_)
    replace h := h2
    clear h2
    refine zJ.i2l (pc := 153) dX4_digest_153 ?_
    refine zJ.ladd (pc := 154) dX4_digest_154 ?_
    refine zJ.lstore_n (pc := 155) (lv' := [(1, .long (((31 : Int64) * (((31 : Int64) * x1) + r3.toInt64)) + r6.toInt64)), (0, .ref (z_adr o (0, 0, 0))), (3, .int x3)]) dX4_digest_155 rfl (Nat.le_of_ble_eq_true rfl) rfl ?_
    refine zJ.ldc2 (pc := 156) lc_X4_205 dX4_digest_156 ?_
    refine zJ.lload_n (pc := 159) 0 dX4_digest_159 rfl rfl ?_
    refine zJ.lmul (pc := 160) dX4_digest_160 ?_
    refine zJ.aload_n (pc := 161) 1 dX4_digest_161 rfl rfl ?_
    refine zG.callVl (d := mdX4_digest) (pc := 162) [] [.long ((31 : Int64) * (((31 : Int64) * (((31 : Int64) * x1) + r3.toInt64)) + r6.toInt64))] (ob_0 o) ok_0 rfl dX4_digest_162 ⟨(cb_X4_even).1, (cb_X4_even).2, (Nat.le_of_ble_eq_true rfl), (Nat.le_of_ble_eq_true rfl)⟩ ml_X4_222 ci_X4_even cv_X4_even rfl (Nat.le_of_ble_eq_true rfl) (Nat.le_of_ble_eq_true rfl) rfl h (fun r9 S10 h2 => ?_)
    replace h := h2
    clear h2
    refine zJ.ladd (pc := 165) dX4_digest_165 ?_
    exact zG.ret (pc := 166) (r := some (.long (((31 : Int64) * (((31 : Int64) * (((31 : Int64) * x1) + r3.toInt64)) + r6.toInt64)) + r9))) ⟨dX4_digest_166, rfl⟩ h
  · replace h := h.2 c1
    refine zJ.ldc2 (pc := 111) lc_X4_205 dX4_digest_111 ?_
    refine zJ.lload_n (pc := 114) 1 dX4_digest_114 rfl rfl ?_
    refine zJ.lmul (pc := 115) dX4_digest_115 ?_
    refine zJ.aload_n (pc := 116) 0 dX4_digest_116 rfl rfl ?_
    refine zJ.iload_n (pc := 117) 2 dX4_digest_117 rfl rfl ?_
    refine zG.callVi (d := mdX4_digest) (pc := 118) [.int x3] [.long ((31 : Int64) * x1)] (ob_0 o) ok_0 rfl dX4_digest_118 ⟨(cb_X4_where).1, (cb_X4_where).2, (Nat.le_of_ble_eq_true rfl), (Nat.le_of_ble_eq_true rfl)⟩ ml_X4_217 ci_X4_where cv_X4_where rfl (Nat.le_of_ble_eq_true rfl) (Nat.le_of_ble_eq_true rfl) rfl h (fun r12 S13 h2 => ?_)
    replace h := h2
    clear h2
    refine zJ.i2l (pc := 121) dX4_digest_121 ?_
    refine zJ.ladd (pc := 122) dX4_digest_122 ?_
    refine zJ.lstore_n (pc := 123) (lv' := [(1, .long (((31 : Int64) * x1) + r12.toInt64)), (0, .ref (z_adr o (0, 0, 0))), (3, .int x3)]) dX4_digest_123 rfl (Nat.le_of_ble_eq_true rfl) rfl ?_
    refine zJ.iinc (pc := 124) (k := 2) (lv' := [(3, .int (x3 + 1)), (1, .long (((31 : Int64) * x1) + r12.toInt64)), (0, .ref (z_adr o (0, 0, 0)))]) dX4_digest_124 rfl rfl (Nat.le_of_ble_eq_true rfl) rfl ?_
    refine zJ.goto (pc := 127) (tgt := 105) dX4_digest_127 (by decide) ?_
    exact zJ.sub [2, 1, 0] rfl h
set_option maxRecDepth 100000 in
set_option maxHeartbeats 4000000 in
theorem w_X4_isBox_0 (o : zW) (x0 : Int32) (S : zS) (Q : Option Value → zS → Prop) (h : (x0 < 0 → (Q (some (.int 0)) S)) ∧ (¬ x0 < 0 → ((16 ≤ x0 → (Q (some (.int 0)) S)) ∧ (¬ 16 ≤ x0 → (Q (some (.int 1)) S))))) : zG o 994 mdX4_isBox 0 [(0, .int x0)] [] S Q := by
  show zJ o mdX4_isBox 0 _ [] (994, z_enc o S) 0 0 _
  refine zJ.iload_n (pc := 0) 0 dX4_isBox_0 rfl rfl ?_
  refine zJ.if_lt (pc := 1) (tgt := 14) dX4_isBox_1 (by decide) (fun c1 => ?_) (fun c1 => ?_)
  · replace h := h.1 c1
    refine zJ.iconst (pc := 14) (v := 0) dX4_isBox_14 (by decide) ?_
    exact zG.ret (pc := 15) (r := some (.int 0)) ⟨dX4_isBox_15, _, rfl, rfl⟩ h
  · replace h := h.2 c1
    refine zJ.iload_n (pc := 4) 0 dX4_isBox_4 rfl rfl ?_
    refine zJ.bipush (pc := 5) (v := 16) dX4_isBox_5 (by decide) ?_
    refine zJ.icmp_ge (pc := 7) (tgt := 14) dX4_isBox_7 (by decide) (fun c2 => ?_) (fun c2 => ?_)
    · replace h := h.1 c2
      refine zJ.iconst (pc := 14) (v := 0) dX4_isBox_14 (by decide) ?_
      exact zG.ret (pc := 15) (r := some (.int 0)) ⟨dX4_isBox_15, _, rfl, rfl⟩ h
    · replace h := h.2 c2
      refine zJ.iconst (pc := 10) (v := 1) dX4_isBox_10 (by decide) ?_
      refine zJ.goto (pc := 11) (tgt := 15) dX4_isBox_11 (by decide) ?_
      exact zG.ret (pc := 15) (r := some (.int 1)) ⟨dX4_isBox_15, _, rfl, rfl⟩ h
set_option maxRecDepth 100000 in
set_option maxHeartbeats 4000000 in
theorem w_X4_isItem_0 (o : zW) (x0 : Int32) (S : zS) (Q : Option Value → zS → Prop) (h : (x0 < 0 → (Q (some (.int 0)) S)) ∧ (¬ x0 < 0 → ((4 ≤ x0 → (Q (some (.int 0)) S)) ∧ (¬ 4 ≤ x0 → (Q (some (.int 1)) S))))) : zG o 994 mdX4_isItem 0 [(0, .int x0)] [] S Q := by
  show zJ o mdX4_isItem 0 _ [] (994, z_enc o S) 0 0 _
  refine zJ.iload_n (pc := 0) 0 dX4_isItem_0 rfl rfl ?_
  refine zJ.if_lt (pc := 1) (tgt := 13) dX4_isItem_1 (by decide) (fun c1 => ?_) (fun c1 => ?_)
  · replace h := h.1 c1
    refine zJ.iconst (pc := 13) (v := 0) dX4_isItem_13 (by decide) ?_
    exact zG.ret (pc := 14) (r := some (.int 0)) ⟨dX4_isItem_14, _, rfl, rfl⟩ h
  · replace h := h.2 c1
    refine zJ.iload_n (pc := 4) 0 dX4_isItem_4 rfl rfl ?_
    refine zJ.iconst (pc := 5) (v := 4) dX4_isItem_5 (by decide) ?_
    refine zJ.icmp_ge (pc := 6) (tgt := 13) dX4_isItem_6 (by decide) (fun c2 => ?_) (fun c2 => ?_)
    · replace h := h.1 c2
      refine zJ.iconst (pc := 13) (v := 0) dX4_isItem_13 (by decide) ?_
      exact zG.ret (pc := 14) (r := some (.int 0)) ⟨dX4_isItem_14, _, rfl, rfl⟩ h
    · replace h := h.2 c2
      refine zJ.iconst (pc := 9) (v := 1) dX4_isItem_9 (by decide) ?_
      refine zJ.goto (pc := 10) (tgt := 14) dX4_isItem_10 (by decide) ?_
      exact zG.ret (pc := 14) (r := some (.int 1)) ⟨dX4_isItem_14, _, rfl, rfl⟩ h
set_option maxRecDepth 100000 in
set_option maxHeartbeats 4000000 in
theorem w_X4_refuse_0 (o : zW) (x1 : Int32) (S : zS) (Q : Option Value → zS → Prop) (h : (((-2) - x1) < 0 → (Q (some (.int x1)) S)) ∧ (¬ ((-2) - x1) < 0 → ((3 ≤ ((-2) - x1) → (Q (some (.int x1)) S)) ∧ (¬ 3 ≤ ((-2) - x1) → (vp_in ((-2) - x1) 3 ∧ (vp_in ((-2) - x1) 3 ∧ (∀ S3 : zS, S3 = (sI S (21, 0, 0) (((-2) - x1).toNatClampNeg) ((S.1 (21, 0, 0) (((-2) - x1).toNatClampNeg)) + 1)) → (Q (some (.int x1)) S3)))))))) : zG o 994 mdX4_refuse 0 [(0, .ref (z_adr o (0, 0, 0))), (1, .int x1)] [] S Q := by
  show zJ o mdX4_refuse 0 _ [] (994, z_enc o S) 0 0 _
  refine zJ.bipush (pc := 0) (v := (-2)) dX4_refuse_0 (by decide) ?_
  refine zJ.iload_n (pc := 2) 1 dX4_refuse_2 rfl rfl ?_
  refine zJ.isub (pc := 3) dX4_refuse_3 ?_
  refine zJ.istore_n (pc := 4) (lv' := [(2, .int ((-2) - x1)), (0, .ref (z_adr o (0, 0, 0))), (1, .int x1)]) dX4_refuse_4 rfl (Nat.le_of_ble_eq_true rfl) rfl ?_
  refine zJ.iload_n (pc := 5) 0 dX4_refuse_5 rfl rfl ?_
  refine zJ.if_lt (pc := 6) (tgt := 28) dX4_refuse_6 (by decide) (fun c1 => ?_) (fun c1 => ?_)
  · replace h := h.1 c1
    refine zJ.iload_n (pc := 28) 2 dX4_refuse_28 rfl rfl ?_
    exact zG.ret (pc := 29) (r := some (.int x1)) ⟨dX4_refuse_29, _, rfl, rfl⟩ h
  · replace h := h.2 c1
    refine zJ.iload_n (pc := 9) 0 dX4_refuse_9 rfl rfl ?_
    refine zJ.aload_n (pc := 10) 1 dX4_refuse_10 rfl rfl ?_
    refine zE.getV (pc := 11) (fd_0_4 o) ok_0 kiX4 (Nat.le_of_ble_eq_true rfl) fl_X4_30 dX4_refuse_11 ?_
    refine zE.lenI (pc := 14) (v := 3) (ia_21 o) ok_21 (by decide) dX4_refuse_14 ?_
    refine zJ.icmp_ge (pc := 15) (tgt := 28) dX4_refuse_15 (by decide) (fun c2 => ?_) (fun c2 => ?_)
    · replace h := h.1 c2
      refine zJ.iload_n (pc := 28) 2 dX4_refuse_28 rfl rfl ?_
      exact zG.ret (pc := 29) (r := some (.int x1)) ⟨dX4_refuse_29, _, rfl, rfl⟩ h
    · replace h := h.2 c2
      refine zJ.aload_n (pc := 18) 1 dX4_refuse_18 rfl rfl ?_
      refine zE.getV (pc := 19) (fd_0_4 o) ok_0 kiX4 (Nat.le_of_ble_eq_true rfl) fl_X4_30 dX4_refuse_19 ?_
      refine zJ.iload_n (pc := 22) 0 dX4_refuse_22 rfl rfl ?_
      refine zJ.dup2_11 (pc := 23) dX4_refuse_23 rfl rfl ?_
      obtain ⟨hq, h⟩ := h
      refine zE.aldI (pc := 24) (ia_21 o) ok_21 hq dX4_refuse_24 ?_
      refine zJ.iconst (pc := 25) (v := 1) dX4_refuse_25 (by decide) ?_
      refine zJ.iadd (pc := 26) dX4_refuse_26 ?_
      obtain ⟨hq, h⟩ := h
      refine zE.astI (pc := 27) (ia_21 o) ok_21 hq dX4_refuse_27 ?_
      refine zJ.nameS (fun S3 hyS3 => ?_)
      replace h := h S3 hyS3
      refine zJ.iload_n (pc := 28) 2 dX4_refuse_28 rfl rfl ?_
      exact zG.ret (pc := 29) (r := some (.int x1)) ⟨dX4_refuse_29, _, rfl, rfl⟩ h
set_option maxRecDepth 100000 in
set_option maxHeartbeats 4000000 in
theorem w_X4_keep_0 (o : zW)  (S : zS) (Q : Option Value → zS → Prop) (h : ∀ S1 : zS, S1 = (sI S (0, 0, 0) 5 (((S.1 (0, 0, 0) 5) + 1) - ((S.1 (0, 0, 0) 5) + 1) / 6 * 6)) → (((S1.1 (0, 0, 0) 5) < 0 → ((6 ≤ (S1.1 (0, 0, 0) 6) → (Q none S1)) ∧ (¬ 6 ≤ (S1.1 (0, 0, 0) 6) → (Q none (sI S1 (0, 0, 0) 6 ((S1.1 (0, 0, 0) 6) + 1)))))) ∧ (¬ (S1.1 (0, 0, 0) 5) < 0 → (vp_in (S1.1 (0, 0, 0) 5) 6 ∧ (zGv o 994 mdX2_become [.ref (z_adr o (1, (S1.1 (0, 0, 0) 5).toNatClampNeg + 2, 0)), .ref (z_adr o (1, 0, 0))] S1 (fun S7 => (6 ≤ (S7.1 (0, 0, 0) 6) → (Q none S7)) ∧ (¬ 6 ≤ (S7.1 (0, 0, 0) 6) → (Q none (sI S7 (0, 0, 0) 6 ((S7.1 (0, 0, 0) 6) + 1)))))))))) : zG o 994 mdX4_keep 0 [(0, .ref (z_adr o (0, 0, 0)))] [] S Q := by
  show zJ o mdX4_keep 0 _ [] (994, z_enc o S) 0 0 _
  refine zJ.aload_n (pc := 0) 0 dX4_keep_0 rfl rfl ?_
  refine zJ.aload_n (pc := 1) 0 dX4_keep_1 rfl rfl ?_
  refine zE.getI (pc := 2) (fd_0_5 o) ok_0 kiX4 (Nat.le_of_ble_eq_true rfl) fl_X4_34 dX4_keep_2 ?_
  refine zJ.iconst (pc := 5) (v := 1) dX4_keep_5 (by decide) ?_
  refine zJ.iadd (pc := 6) dX4_keep_6 ?_
  refine zJ.bipush (pc := 7) (v := 6) dX4_keep_7 (by decide) ?_
  refine zJ.irem (pc := 9) dX4_keep_9 (by decide) ?_
  refine zE.putI (pc := 10) (fd_0_5 o) ok_0 kiX4 (Nat.le_of_ble_eq_true rfl) fl_X4_34 rfl rfl dX4_keep_10 ?_
  refine zJ.nameS (fun S1 hyS1 => ?_)
  replace h := h S1 hyS1
  refine zJ.aload_n (pc := 13) 0 dX4_keep_13 rfl rfl ?_
  refine zE.getI (pc := 14) (fd_0_5 o) ok_0 kiX4 (Nat.le_of_ble_eq_true rfl) fl_X4_34 dX4_keep_14 ?_
  refine zJ.if_lt (pc := 17) (tgt := 36) dX4_keep_17 (by decide) (fun c2 => ?_) (fun c2 => ?_)
  · replace h := h.1 c2
    refine zJ.aload_n (pc := 36) 0 dX4_keep_36 rfl rfl ?_
    refine zE.getI (pc := 37) (fd_0_6 o) ok_0 kiX4 (Nat.le_of_ble_eq_true rfl) fl_X4_38 dX4_keep_37 ?_
    refine zJ.bipush (pc := 40) (v := 6) dX4_keep_40 (by decide) ?_
    refine zJ.icmp_ge (pc := 42) (tgt := 55) dX4_keep_42 (by decide) (fun c3 => ?_) (fun c3 => ?_)
    · replace h := h.1 c3
      exact zG.ret (pc := 55) (r := none) ⟨dX4_keep_55, rfl⟩ h
    · replace h := h.2 c3
      refine zJ.aload_n (pc := 45) 0 dX4_keep_45 rfl rfl ?_
      refine zJ.dup (pc := 46) dX4_keep_46 rfl ?_
      refine zE.getI (pc := 47) (fd_0_6 o) ok_0 kiX4 (Nat.le_of_ble_eq_true rfl) fl_X4_38 dX4_keep_47 ?_
      refine zJ.iconst (pc := 50) (v := 1) dX4_keep_50 (by decide) ?_
      refine zJ.iadd (pc := 51) dX4_keep_51 ?_
      refine zE.putI (pc := 52) (fd_0_6 o) ok_0 kiX4 (Nat.le_of_ble_eq_true rfl) fl_X4_38 rfl rfl dX4_keep_52 ?_
      exact zG.ret (pc := 55) (r := none) ⟨dX4_keep_55, rfl⟩ h
  · replace h := h.2 c2
    refine zJ.aload_n (pc := 20) 0 dX4_keep_20 rfl rfl ?_
    refine zE.getV (pc := 21) (fd_0_2 o) ok_0 kiX4 (Nat.le_of_ble_eq_true rfl) fl_X4_19 dX4_keep_21 ?_
    refine zJ.aload_n (pc := 24) 0 dX4_keep_24 rfl rfl ?_
    refine zE.getI (pc := 25) (fd_0_5 o) ok_0 kiX4 (Nat.le_of_ble_eq_true rfl) fl_X4_34 dX4_keep_25 ?_
    obtain ⟨hq4, h⟩ := h
    refine zE.aldK (pc := 28) ok_22 hq4 dX4_keep_28 ?_
    refine zJ.aload_n (pc := 29) 0 dX4_keep_29 rfl rfl ?_
    refine zE.getV (pc := 30) (fd_0_0 o) ok_0 kiX4 (Nat.le_of_ble_eq_true rfl) fl_X4_10 dX4_keep_30 ?_
    refine zG.callVv (d := mdX4_keep) (pc := 33) [.ref (z_adr o (1, 0, 0))] [] (ob_1 o ((S1.1 (0, 0, 0) 5).toNatClampNeg + 2)) (ok_1 (Nat.add_lt_add_right (z_vlt hq4) 2) (z_sb_le (Nat.add_lt_add_right (z_vlt hq4) 2))) rfl dX4_keep_33 ⟨(cb_X2_become).1, (cb_X2_become).2, (Nat.le_of_ble_eq_true rfl), (Nat.le_of_ble_eq_true rfl)⟩ ml_X4_199 ci_X2_become cv_X2_become rfl (Nat.le_of_ble_eq_true rfl) (Nat.le_of_ble_eq_true rfl) rfl h (fun S7 h2 => ?_)
    replace h := h2
    clear h2
    refine zJ.aload_n (pc := 36) 0 dX4_keep_36 rfl rfl ?_
    refine zE.getI (pc := 37) (fd_0_6 o) ok_0 kiX4 (Nat.le_of_ble_eq_true rfl) fl_X4_38 dX4_keep_37 ?_
    refine zJ.bipush (pc := 40) (v := 6) dX4_keep_40 (by decide) ?_
    refine zJ.icmp_ge (pc := 42) (tgt := 55) dX4_keep_42 (by decide) (fun c8 => ?_) (fun c8 => ?_)
    · replace h := h.1 c8
      exact zG.ret (pc := 55) (r := none) ⟨dX4_keep_55, rfl⟩ h
    · replace h := h.2 c8
      refine zJ.aload_n (pc := 45) 0 dX4_keep_45 rfl rfl ?_
      refine zJ.dup (pc := 46) dX4_keep_46 rfl ?_
      refine zE.getI (pc := 47) (fd_0_6 o) ok_0 kiX4 (Nat.le_of_ble_eq_true rfl) fl_X4_38 dX4_keep_47 ?_
      refine zJ.iconst (pc := 50) (v := 1) dX4_keep_50 (by decide) ?_
      refine zJ.iadd (pc := 51) dX4_keep_51 ?_
      refine zE.putI (pc := 52) (fd_0_6 o) ok_0 kiX4 (Nat.le_of_ble_eq_true rfl) fl_X4_38 rfl rfl dX4_keep_52 ?_
      exact zG.ret (pc := 55) (r := none) ⟨dX4_keep_55, rfl⟩ h
