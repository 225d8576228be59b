set_option maxRecDepth 100000 in
set_option maxHeartbeats 4000000 in
theorem w_X5_readsOrder_0 (o : zW) (x1 : Int32) (S : zS) (Q : Option Value → zS → Prop) (h : zGv o 994 mdX5_skips [.ref (z_adr o (23, 0, 0))] S (fun S3 => zGi o 994 mdX5_here [.ref (z_adr o (23, 0, 0))] S3 (fun r5 S6 => zGi o 994 mdX5_in [.int r5, .int 97, .int 112] S6 (fun r8 S9 => (r8 = 0 → ((¬ r5 = 33 → ((r5 = 35 → (zGi o 994 mdX5_number [.ref (z_adr o (23, 0, 0))] (sI S9 (23, 0, 0) 31 ((S9.1 (23, 0, 0) 31) + 1)) (fun r14 S15 => (¬ r14 = 0 → (zGi o 994 mdX5_ends [.ref (z_adr o (23, 0, 0))] S15 (fun r18 S19 => (¬ r18 = 0 → (zG o 994 mdX5_readsOrder 110 [(0, .ref (z_adr o (23, 0, 0))), (1, .int x1), (3, .int (S15.1 (23, 0, 0) 33)), (4, .int 0)] [] S19 Q)) ∧ (r18 = 0 → (Q (some (.int 0)) S19))))) ∧ (r14 = 0 → (Q (some (.int 0)) S15))))) ∧ (¬ r5 = 35 → (Q (some (.int 0)) S9)))) ∧ (r5 = 33 → (zGi o 994 mdX5_ends [.ref (z_adr o (23, 0, 0))] (sI S9 (23, 0, 0) 31 ((S9.1 (23, 0, 0) 31) + 1)) (fun r22 S23 => (¬ r22 = 0 → ((x1 = 0 → (Q (some (.int 1)) S23)) ∧ (¬ x1 = 0 → (zGi o 994 mdX5_done [.ref (z_adr o (23, 0, 0)), .int 2, .int 0, .int 0, .int 0] S23 (fun r27 S28 => Q (some (.int 1)) S28))))) ∧ (r22 = 0 → (Q (some (.int 0)) S23))))))) ∧ (¬ r8 = 0 → (zGi o 994 mdX5_readsBox [.ref (z_adr o (23, 0, 0)), .int x1] S9 (fun r30 S31 => narrow .boolean (.int r30) = .int r30 ∧ Q (some (.int r30)) S31))))))) : zG o 994 mdX5_readsOrder 0 [(0, .ref (z_adr o (23, 0, 0))), (1, .int x1)] [] S Q := by
  show zJ o mdX5_readsOrder 0 _ [] (994, z_enc o S) 0 0 _
  refine zJ.aload_n (pc := 0) 0 dX5_readsOrder_0 rfl rfl ?_
  refine zG.callVv (d := mdX5_readsOrder) (pc := 1) [] [] (ob_23 o) ok_23 rfl dX5_readsOrder_1 ⟨(cb_X5_skips).1, (cb_X5_skips).2, (Nat.le_of_ble_eq_true rfl), (Nat.le_of_ble_eq_true rfl)⟩ ml_X5_262 ci_X5_skips cv_X5_skips rfl (Nat.le_of_ble_eq_true rfl) (Nat.le_of_ble_eq_true rfl) rfl h (fun S3 h2 => ?_)
  replace h := h2
  clear h2
  refine zJ.aload_n (pc := 4) 0 dX5_readsOrder_4 rfl rfl ?_
  refine zG.callVi (d := mdX5_readsOrder) (pc := 5) [] [] (ob_23 o) ok_23 rfl dX5_readsOrder_5 ⟨(cb_X5_here).1, (cb_X5_here).2, (Nat.le_of_ble_eq_true rfl), (Nat.le_of_ble_eq_true rfl)⟩ ml_X5_256 ci_X5_here cv_X5_here rfl (Nat.le_of_ble_eq_true rfl) (Nat.le_of_ble_eq_true rfl) rfl h (fun r5 S6 h2 => ?_)
  replace h := h2
  clear h2
  refine zJ.istore_n (pc := 8) (lv' := [(2, .int r5), (0, .ref (z_adr o (23, 0, 0))), (1, .int x1)]) dX5_readsOrder_8 rfl (Nat.le_of_ble_eq_true rfl) rfl ?_
  refine zJ.iload_n (pc := 9) 0 dX5_readsOrder_9 rfl rfl ?_
  refine zJ.bipush (pc := 10) (v := 97) dX5_readsOrder_10 (by decide) ?_
  refine zJ.bipush (pc := 12) (v := 112) dX5_readsOrder_12 (by decide) ?_
  refine zG.callSi (d := mdX5_readsOrder) (pc := 14) [.int r5, .int 97, .int 112] [] dX5_readsOrder_14 ⟨(cb_X5_in).1, (cb_X5_in).2, (Nat.le_of_ble_eq_true rfl), (Nat.le_of_ble_eq_true rfl)⟩ ml_X5_101 cs_X5_in rfl (Nat.le_of_ble_eq_true rfl) (Nat.le_of_ble_eq_true rfl) rfl h (fun r8 S9 h2 => ?_)
  replace h := h2
  clear h2
  refine zJ.if_eq (pc := 17) (tgt := 26) dX5_readsOrder_17 (by decide) (fun c10 => ?_) (fun c10 => ?_)
  · replace h := h.1 c10
    refine zJ.iload_n (pc := 26) 0 dX5_readsOrder_26 rfl rfl ?_
    refine zJ.bipush (pc := 27) (v := 33) dX5_readsOrder_27 (by decide) ?_
    refine zJ.icmp_ne (pc := 29) (tgt := 66) dX5_readsOrder_29 (by decide) (fun c11 => ?_) (fun c11 => ?_)
    · replace h := h.1 c11
      refine zJ.iload_n (pc := 66) 0 dX5_readsOrder_66 rfl rfl ?_
      refine zJ.bipush (pc := 67) (v := 35) dX5_readsOrder_67 (by decide) ?_
      refine zJ.icmp_eq (pc := 69) (tgt := 74) dX5_readsOrder_69 (by decide) (fun c12 => ?_) (fun c12 => ?_)
      · replace h := h.1 c12
        refine zJ.aload_n (pc := 74) 1 dX5_readsOrder_74 rfl rfl ?_
        refine zJ.dup (pc := 75) dX5_readsOrder_75 rfl ?_
        refine zE.getI (pc := 76) (fd_23_31 o) ok_23 kiX5 (Nat.le_of_ble_eq_true rfl) fl_X5_253 dX5_readsOrder_76 ?_
        refine zJ.iconst (pc := 79) (v := 1) dX5_readsOrder_79 (by decide) ?_
        refine zJ.iadd (pc := 80) dX5_readsOrder_80 ?_
        refine zE.putI (pc := 81) (fd_23_31 o) ok_23 kiX5 (Nat.le_of_ble_eq_true rfl) fl_X5_253 rfl rfl dX5_readsOrder_81 ?_
        refine zJ.aload_n (pc := 84) 1 dX5_readsOrder_84 rfl rfl ?_
        refine zG.callVi (d := mdX5_readsOrder) (pc := 85) [] [] (ob_23 o) ok_23 rfl dX5_readsOrder_85 ⟨(cb_X5_number).1, (cb_X5_number).2, (Nat.le_of_ble_eq_true rfl), (Nat.le_of_ble_eq_true rfl)⟩ ml_X5_268 ci_X5_number cv_X5_number rfl (Nat.le_of_ble_eq_true rfl) (Nat.le_of_ble_eq_true rfl) rfl h (fun r14 S15 h2 => ?_)
        replace h := h2
        clear h2
        refine zJ.if_ne (pc := 88) (tgt := 93) dX5_readsOrder_88 (by decide) (fun c16 => ?_) (fun c16 => ?_)
        · replace h := h.1 c16
          refine zJ.aload_n (pc := 93) 1 dX5_readsOrder_93 rfl rfl ?_
          refine zE.getI (pc := 94) (fd_23_33 o) ok_23 kiX5 (Nat.le_of_ble_eq_true rfl) fl_X5_265 dX5_readsOrder_94 ?_
          refine zJ.istore_n (pc := 97) (lv' := [(3, .int (S15.1 (23, 0, 0) 33)), (2, .int r5), (0, .ref (z_adr o (23, 0, 0))), (1, .int x1)]) dX5_readsOrder_97 rfl (Nat.le_of_ble_eq_true rfl) rfl ?_
          refine zJ.aload_n (pc := 98) 2 dX5_readsOrder_98 rfl rfl ?_
          refine zG.callVi (d := mdX5_readsOrder) (pc := 99) [] [] (ob_23 o) ok_23 rfl dX5_readsOrder_99 ⟨(cb_X5_ends).1, (cb_X5_ends).2, (Nat.le_of_ble_eq_true rfl), (Nat.le_of_ble_eq_true rfl)⟩ ml_X5_272 ci_X5_ends cv_X5_ends rfl (Nat.le_of_ble_eq_true rfl) (Nat.le_of_ble_eq_true rfl) rfl h (fun r18 S19 h2 => ?_)
          replace h := h2
          clear h2
          refine zJ.if_ne (pc := 102) (tgt := 107) dX5_readsOrder_102 (by decide) (fun c20 => ?_) (fun c20 => ?_)
          · replace h := h.1 c20
            refine zJ.iconst (pc := 107) (v := 0) dX5_readsOrder_107 (by decide) ?_
            refine zJ.istore (pc := 108) (lv' := [(4, .int 0), (3, .int (S15.1 (23, 0, 0) 33)), (2, .int r5), (0, .ref (z_adr o (23, 0, 0))), (1, .int x1)]) dX5_readsOrder_108 (Nat.le_of_ble_eq_true rfl) rfl ?_
            exact zJ.sub [3, 4, 1, 0] rfl h
          · replace h := h.2 c20
            refine zJ.iconst (pc := 105) (v := 0) dX5_readsOrder_105 (by decide) ?_
            exact zG.ret (pc := 106) (r := some (.int 0)) ⟨dX5_readsOrder_106, _, rfl, rfl⟩ h
        · replace h := h.2 c16
          refine zJ.iconst (pc := 91) (v := 0) dX5_readsOrder_91 (by decide) ?_
          exact zG.ret (pc := 92) (r := some (.int 0)) ⟨dX5_readsOrder_92, _, rfl, rfl⟩ h
      · replace h := h.2 c12
        refine zJ.iconst (pc := 72) (v := 0) dX5_readsOrder_72 (by decide) ?_
        exact zG.ret (pc := 73) (r := some (.int 0)) ⟨dX5_readsOrder_73, _, rfl, rfl⟩ h
    · replace h := h.2 c11
      refine zJ.aload_n (pc := 32) 1 dX5_readsOrder_32 rfl rfl ?_
      refine zJ.dup (pc := 33) dX5_readsOrder_33 rfl ?_
      refine zE.getI (pc := 34) (fd_23_31 o) ok_23 kiX5 (Nat.le_of_ble_eq_true rfl) fl_X5_253 dX5_readsOrder_34 ?_
      refine zJ.iconst (pc := 37) (v := 1) dX5_readsOrder_37 (by decide) ?_
      refine zJ.iadd (pc := 38) dX5_readsOrder_38 ?_
      refine zE.putI (pc := 39) (fd_23_31 o) ok_23 kiX5 (Nat.le_of_ble_eq_true rfl) fl_X5_253 rfl rfl dX5_readsOrder_39 ?_
      refine zJ.aload_n (pc := 42) 1 dX5_readsOrder_42 rfl rfl ?_
      refine zG.callVi (d := mdX5_readsOrder) (pc := 43) [] [] (ob_23 o) ok_23 rfl dX5_readsOrder_43 ⟨(cb_X5_ends).1, (cb_X5_ends).2, (Nat.le_of_ble_eq_true rfl), (Nat.le_of_ble_eq_true rfl)⟩ ml_X5_272 ci_X5_ends cv_X5_ends rfl (Nat.le_of_ble_eq_true rfl) (Nat.le_of_ble_eq_true rfl) rfl h (fun r22 S23 h2 => ?_)
      replace h := h2
      clear h2
      refine zJ.if_ne (pc := 46) (tgt := 51) dX5_readsOrder_46 (by decide) (fun c24 => ?_) (fun c24 => ?_)
      · replace h := h.1 c24
        refine zJ.iload_n (pc := 51) 2 dX5_readsOrder_51 rfl rfl ?_
        refine zJ.if_eq (pc := 52) (tgt := 64) dX5_readsOrder_52 (by decide) (fun c25 => ?_) (fun c25 => ?_)
        · replace h := h.1 c25
          refine zJ.iconst (pc := 64) (v := 1) dX5_readsOrder_64 (by decide) ?_
          exact zG.ret (pc := 65) (r := some (.int 1)) ⟨dX5_readsOrder_65, _, rfl, rfl⟩ h
        · replace h := h.2 c25
          refine zJ.aload_n (pc := 55) 1 dX5_readsOrder_55 rfl rfl ?_
          refine zJ.iconst (pc := 56) (v := 2) dX5_readsOrder_56 (by decide) ?_
          refine zJ.iconst (pc := 57) (v := 0) dX5_readsOrder_57 (by decide) ?_
          refine zJ.iconst (pc := 58) (v := 0) dX5_readsOrder_58 (by decide) ?_
          refine zJ.iconst (pc := 59) (v := 0) dX5_readsOrder_59 (by decide) ?_
          refine zG.callVi (d := mdX5_readsOrder) (pc := 60) [.int 2, .int 0, .int 0, .int 0] [] (ob_23 o) ok_23 rfl dX5_readsOrder_60 ⟨(cb_X5_done).1, (cb_X5_done).2, (Nat.le_of_ble_eq_true rfl), (Nat.le_of_ble_eq_true rfl)⟩ ml_X5_203 ci_X5_done cv_X5_done rfl (Nat.le_of_ble_eq_true rfl) (Nat.le_of_ble_eq_true rfl) rfl h (fun r27 S28 h2 => ?_)
          replace h := h2
          clear h2
          refine zJ.pop (pc := 63) dX5_readsOrder_63 rfl ?_
          refine zJ.iconst (pc := 64) (v := 1) dX5_readsOrder_64 (by decide) ?_
          exact zG.ret (pc := 65) (r := some (.int 1)) ⟨dX5_readsOrder_65, _, rfl, rfl⟩ h
      · replace h := h.2 c24
        refine zJ.iconst (pc := 49) (v := 0) dX5_readsOrder_49 (by decide) ?_
        exact zG.ret (pc := 50) (r := some (.int 0)) ⟨dX5_readsOrder_50, _, rfl, rfl⟩ h
  · replace h := h.2 c10
    refine zJ.aload_n (pc := 20) 1 dX5_readsOrder_20 rfl rfl ?_
    refine zJ.iload_n (pc := 21) 2 dX5_readsOrder_21 rfl rfl ?_
    refine zG.callVi (d := mdX5_readsOrder) (pc := 22) [.int x1] [] (ob_23 o) ok_23 rfl dX5_readsOrder_22 ⟨(cb_X5_readsBox).1, (cb_X5_readsBox).2, (Nat.le_of_ble_eq_true rfl), (Nat.le_of_ble_eq_true rfl)⟩ ml_X5_275 ci_X5_readsBox cv_X5_readsBox rfl (Nat.le_of_ble_eq_true rfl) (Nat.le_of_ble_eq_true rfl) rfl h (fun r30 S31 h2 => ?_)
    replace h := h2
    clear h2
    exact zG.ret (pc := 25) (r := some (.int r30)) ⟨dX5_readsOrder_25, _, rfl, h.1⟩ h.2
set_option maxRecDepth 100000 in
set_option maxHeartbeats 4000000 in
theorem w_X5_readsOrder_110 (o : zW) (x1 : Int32) (x3 : Int32) (x4 : Int32) (S : zS) (Q : Option Value → zS → Prop) (h : (x3 ≤ x4 → (Q (some (.int 1)) S)) ∧ (¬ x3 ≤ x4 → ((x1 = 0 → (Q (some (.int 1)) S)) ∧ (¬ x1 = 0 → (zGv o 994 mdX5_goesBy [.ref (z_adr o (23, 0, 0))] S (fun S5 => zG o 994 mdX5_readsOrder 110 [(0, .ref (z_adr o (23, 0, 0))), (1, .int x1), (3, .int x3), (4, .int (x4 + 1))] [] S5 Q)))))) : zG o 994 mdX5_readsOrder 110 [(0, .ref (z_adr o (23, 0, 0))), (1, .int x1), (3, .int x3), (4, .int x4)] [] S Q := by
  show zJ o mdX5_readsOrder 110 _ [] (994, z_enc o S) 0 0 _
  refine zJ.iload (pc := 110) 3 dX5_readsOrder_110 rfl ?_
  refine zJ.iload_n (pc := 112) 2 dX5_readsOrder_112 rfl rfl ?_
  refine zJ.icmp_ge (pc := 113) (tgt := 130) dX5_readsOrder_113 (by decide) (fun c1 => ?_) (fun c1 => ?_)
  · replace h := h.1 c1
    refine zJ.iconst (pc := 130) (v := 1) dX5_readsOrder_130 (by decide) ?_
    exact zG.ret (pc := 131) (r := some (.int 1)) ⟨dX5_readsOrder_131, _, rfl, rfl⟩ h
  · replace h := h.2 c1
    refine zJ.iload_n (pc := 116) 1 dX5_readsOrder_116 rfl rfl ?_
    refine zJ.if_eq (pc := 117) (tgt := 130) dX5_readsOrder_117 (by decide) (fun c2 => ?_) (fun c2 => ?_)
    · replace h := h.1 c2
      refine zJ.iconst (pc := 130) (v := 1) dX5_readsOrder_130 (by decide) ?_
      exact zG.ret (pc := 131) (r := some (.int 1)) ⟨dX5_readsOrder_131, _, rfl, rfl⟩ h
    · replace h := h.2 c2
      refine zJ.aload_n (pc := 120) 0 dX5_readsOrder_120 rfl rfl ?_
      refine zG.callVv (d := mdX5_readsOrder) (pc := 121) [] [] (ob_23 o) ok_23 rfl dX5_readsOrder_121 ⟨(cb_X5_goesBy).1, (cb_X5_goesBy).2, (Nat.le_of_ble_eq_true rfl), (Nat.le_of_ble_eq_true rfl)⟩ ml_X5_188 ci_X5_goesBy cv_X5_goesBy rfl (Nat.le_of_ble_eq_true rfl) (Nat.le_of_ble_eq_true rfl) rfl h (fun S5 h2 => ?_)
      replace h := h2
      clear h2
      refine zJ.iinc (pc := 124) (k := 3) (lv' := [(4, .int (x4 + 1)), (0, .ref (z_adr o (23, 0, 0))), (1, .int x1), (3, .int x3)]) dX5_readsOrder_124 rfl rfl (Nat.le_of_ble_eq_true rfl) rfl ?_
      refine zJ.goto (pc := 127) (tgt := 110) dX5_readsOrder_127 (by decide) ?_
      exact zJ.sub [1, 2, 3, 0] rfl h
set_option maxRecDepth 100000 in
set_option maxHeartbeats 4000000 in
theorem w_X5_goesThrough_0 (o : zW) (x1 : Int32) (S : zS) (Q : Option Value → zS → Prop) (h : zGv o 994 mdX5_skips [.ref (z_adr o (23, 0, 0))] (sI S (23, 0, 0) 31 0) (fun S3 => (¬ (S3.1 (23, 0, 0) 31) = (S3.1 (23, 0, 0) 30) → (zG o 994 mdX5_goesThrough 28 [(0, .ref (z_adr o (23, 0, 0))), (1, .int x1)] [] S3 Q)) ∧ ((S3.1 (23, 0, 0) 31) = (S3.1 (23, 0, 0) 30) → (Q (some (.int ((-10) - (S3.1 (23, 0, 0) 30)))) S3)))) : zG o 994 mdX5_goesThrough 0 [(0, .ref (z_adr o (23, 0, 0))), (1, .int x1)] [] S Q := by
  show zJ o mdX5_goesThrough 0 _ [] (994, z_enc o S) 0 0 _
  refine zJ.aload_n (pc := 0) 0 dX5_goesThrough_0 rfl rfl ?_
  refine zJ.iconst (pc := 1) (v := 0) dX5_goesThrough_1 (by decide) ?_
  refine zE.putI (pc := 2) (fd_23_31 o) ok_23 kiX5 (Nat.le_of_ble_eq_true rfl) fl_X5_253 rfl rfl dX5_goesThrough_2 ?_
  refine zJ.aload_n (pc := 5) 0 dX5_goesThrough_5 rfl rfl ?_
  refine zG.callVv (d := mdX5_goesThrough) (pc := 6) [] [] (ob_23 o) ok_23 rfl dX5_goesThrough_6 ⟨(cb_X5_skips).1, (cb_X5_skips).2, (Nat.le_of_ble_eq_true rfl), (Nat.le_of_ble_eq_true rfl)⟩ ml_X5_262 ci_X5_skips cv_X5_skips rfl (Nat.le_of_ble_eq_true rfl) (Nat.le_of_ble_eq_true rfl) rfl h (fun S3 h2 => ?_)
  replace h := h2
  clear h2
  refine zJ.aload_n (pc := 9) 0 dX5_goesThrough_9 rfl rfl ?_
  refine zE.getI (pc := 10) (fd_23_31 o) ok_23 kiX5 (Nat.le_of_ble_eq_true rfl) fl_X5_253 dX5_goesThrough_10 ?_
  refine zJ.aload_n (pc := 13) 0 dX5_goesThrough_13 rfl rfl ?_
  refine zE.getI (pc := 14) (fd_23_30 o) ok_23 kiX5 (Nat.le_of_ble_eq_true rfl) fl_X5_250 dX5_goesThrough_14 ?_
  refine zJ.icmp_ne (pc := 17) (tgt := 28) dX5_goesThrough_17 (by decide) (fun c4 => ?_) (fun c4 => ?_)
  · replace h := h.1 c4
    exact h
  · replace h := h.2 c4
    refine zJ.bipush (pc := 20) (v := (-10)) dX5_goesThrough_20 (by decide) ?_
    refine zJ.aload_n (pc := 22) 0 dX5_goesThrough_22 rfl rfl ?_
    refine zE.getI (pc := 23) (fd_23_30 o) ok_23 kiX5 (Nat.le_of_ble_eq_true rfl) fl_X5_250 dX5_goesThrough_23 ?_
    refine zJ.isub (pc := 26) dX5_goesThrough_26 ?_
    exact zG.ret (pc := 27) (r := some (.int ((-10) - (S3.1 (23, 0, 0) 30)))) ⟨dX5_goesThrough_27, _, rfl, rfl⟩ h
set_option maxRecDepth 100000 in
set_option maxHeartbeats 4000000 in
theorem w_X5_goesThrough_28 (o : zW) (x1 : Int32) (S : zS) (Q : Option Value → zS → Prop) (h : ((S.1 (23, 0, 0) 30) ≤ (S.1 (23, 0, 0) 31) → (Q (some (.int 0)) S)) ∧ (¬ (S.1 (23, 0, 0) 30) ≤ (S.1 (23, 0, 0) 31) → (zGi o 994 mdX5_readsOrder [.ref (z_adr o (23, 0, 0)), .int x1] S (fun r3 S4 => (¬ r3 = 0 → (zGv o 994 mdX5_skips [.ref (z_adr o (23, 0, 0))] S4 (fun S8 => zG o 994 mdX5_goesThrough 28 [(0, .ref (z_adr o (23, 0, 0))), (1, .int x1)] [] S8 Q))) ∧ (r3 = 0 → (Q (some (.int ((-10) - (S4.1 (23, 0, 0) 32)))) S4)))))) : zG o 994 mdX5_goesThrough 28 [(0, .ref (z_adr o (23, 0, 0))), (1, .int x1)] [] S Q := by
  show zJ o mdX5_goesThrough 28 _ [] (994, z_enc o S) 0 0 _
  refine zJ.aload_n (pc := 28) 0 dX5_goesThrough_28 rfl rfl ?_
  refine zE.getI (pc := 29) (fd_23_31 o) ok_23 kiX5 (Nat.le_of_ble_eq_true rfl) fl_X5_253 dX5_goesThrough_29 ?_
  refine zJ.aload_n (pc := 32) 0 dX5_goesThrough_32 rfl rfl ?_
  refine zE.getI (pc := 33) (fd_23_30 o) ok_23 kiX5 (Nat.le_of_ble_eq_true rfl) fl_X5_250 dX5_goesThrough_33 ?_
  refine zJ.icmp_ge (pc := 36) (tgt := 62) dX5_goesThrough_36 (by decide) (fun c1 => ?_) (fun c1 => ?_)
  · replace h := h.1 c1
    refine zJ.iconst (pc := 62) (v := 0) dX5_goesThrough_62 (by decide) ?_
    exact zG.ret (pc := 63) (r := some (.int 0)) ⟨dX5_goesThrough_63, _, rfl, rfl⟩ h
  · replace h := h.2 c1
    refine zJ.aload_n (pc := 39) 0 dX5_goesThrough_39 rfl rfl ?_
    refine zJ.iload_n (pc := 40) 1 dX5_goesThrough_40 rfl rfl ?_
    refine zG.callVi (d := mdX5_goesThrough) (pc := 41) [.int x1] [] (ob_23 o) ok_23 rfl dX5_goesThrough_41 ⟨(cb_X5_readsOrder).1, (cb_X5_readsOrder).2, (Nat.le_of_ble_eq_true rfl), (Nat.le_of_ble_eq_true rfl)⟩ ml_X5_279 ci_X5_readsOrder cv_X5_readsOrder rfl (Nat.le_of_ble_eq_true rfl) (Nat.le_of_ble_eq_true rfl) rfl h (fun r3 S4 h2 => ?_)
    replace h := h2
    clear h2
    refine zJ.if_ne (pc := 44) (tgt := 55) dX5_goesThrough_44 (by decide) (fun c5 => ?_) (fun c5 => ?_)
    · replace h := h.1 c5
      refine zJ.aload_n (pc := 55) 0 dX5_goesThrough_55 rfl rfl ?_
      refine zG.callVv (d := mdX5_goesThrough) (pc := 56) [] [] (ob_23 o) ok_23 rfl dX5_goesThrough_56 ⟨(cb_X5_skips).1, (cb_X5_skips).2, (Nat.le_of_ble_eq_true rfl), (Nat.le_of_ble_eq_true rfl)⟩ ml_X5_262 ci_X5_skips cv_X5_skips rfl (Nat.le_of_ble_eq_true rfl) (Nat.le_of_ble_eq_true rfl) rfl h (fun S8 h2 => ?_)
      replace h := h2
      clear h2
      refine zJ.goto (pc := 59) (tgt := 28) dX5_goesThrough_59 (by decide) ?_
      exact h
    · replace h := h.2 c5
      refine zJ.bipush (pc := 47) (v := (-10)) dX5_goesThrough_47 (by decide) ?_
      refine zJ.aload_n (pc := 49) 0 dX5_goesThrough_49 rfl rfl ?_
      refine zE.getI (pc := 50) (fd_23_32 o) ok_23 kiX5 (Nat.le_of_ble_eq_true rfl) fl_X5_259 dX5_goesThrough_50 ?_
      refine zJ.isub (pc := 53) dX5_goesThrough_53 ?_
      exact zG.ret (pc := 54) (r := some (.int ((-10) - (S4.1 (23, 0, 0) 32)))) ⟨dX5_goesThrough_54, _, rfl, rfl⟩ h
set_option maxRecDepth 100000 in
set_option maxHeartbeats 4000000 in
theorem w_X5_runs_0 (o : zW)  (S : zS) (Q : Option Value → zS → Prop) (h : zGi o 994 mdX5_goesThrough [.ref (z_adr o (23, 0, 0)), .int 0] S (fun r2 S3 => (0 ≤ r2 → (zGv o 994 mdX5_leavesState [.ref (z_adr o (23, 0, 0))] S3 (fun S7 => zGi o 994 mdX5_goesThrough [.ref (z_adr o (23, 0, 0)), .int 1] S7 (fun r9 S10 => Q (some (.int ((S10.1 (40, 0, 0) 9) - (S7.1 (40, 0, 0) 9)))) S10)))) ∧ (¬ 0 ≤ r2 → (Q (some (.int r2)) S3)))) : zG o 994 mdX5_runs 0 [(0, .ref (z_adr o (23, 0, 0)))] [] S Q := by
  show zJ o mdX5_runs 0 _ [] (994, z_enc o S) 0 0 _
  refine zJ.aload_n (pc := 0) 0 dX5_runs_0 rfl rfl ?_
  refine zJ.iconst (pc := 1) (v := 0) dX5_runs_1 (by decide) ?_
  refine zG.callVi (d := mdX5_runs) (pc := 2) [.int 0] [] (ob_23 o) ok_23 rfl dX5_runs_2 ⟨(cb_X5_goesThrough).1, (cb_X5_goesThrough).2, (Nat.le_of_ble_eq_true rfl), (Nat.le_of_ble_eq_true rfl)⟩ ml_X5_282 ci_X5_goesThrough cv_X5_goesThrough rfl (Nat.le_of_ble_eq_true rfl) (Nat.le_of_ble_eq_true rfl) rfl h (fun r2 S3 h2 => ?_)
  replace h := h2
  clear h2
  refine zJ.istore_n (pc := 5) (lv' := [(1, .int r2), (0, .ref (z_adr o (23, 0, 0)))]) dX5_runs_5 rfl (Nat.le_of_ble_eq_true rfl) rfl ?_
  refine zJ.iload_n (pc := 6) 0 dX5_runs_6 rfl rfl ?_
  refine zJ.if_ge (pc := 7) (tgt := 12) dX5_runs_7 (by decide) (fun c4 => ?_) (fun c4 => ?_)
  · replace h := h.1 c4
    refine zJ.aload_n (pc := 12) 1 dX5_runs_12 rfl rfl ?_
    refine zG.callVv (d := mdX5_runs) (pc := 13) [] [] (ob_23 o) ok_23 rfl dX5_runs_13 ⟨(cb_X5_leavesState).1, (cb_X5_leavesState).2, (Nat.le_of_ble_eq_true rfl), (Nat.le_of_ble_eq_true rfl)⟩ ml_X5_134 ci_X5_leavesState cv_X5_leavesState rfl (Nat.le_of_ble_eq_true rfl) (Nat.le_of_ble_eq_true rfl) rfl h (fun S7 h2 => ?_)
    replace h := h2
    clear h2
    refine zJ.aload_n (pc := 16) 1 dX5_runs_16 rfl rfl ?_
    refine zE.getV (pc := 17) (fd_23_16 o) ok_23 kiX5 (Nat.le_of_ble_eq_true rfl) fl_X5_58 dX5_runs_17 ?_
    refine zJ.bipush (pc := 20) (v := 9) dX5_runs_20 (by decide) ?_
    refine zE.aldI (pc := 22) (ia_40 o) ok_40 (by unfold vp_in; decide) dX5_runs_22 ?_
    refine zJ.istore_n (pc := 23) (lv' := [(2, .int (S7.1 (40, 0, 0) 9)), (1, .int r2), (0, .ref (z_adr o (23, 0, 0)))]) dX5_runs_23 rfl (Nat.le_of_ble_eq_true rfl) rfl ?_
    refine zJ.aload_n (pc := 24) 2 dX5_runs_24 rfl rfl ?_
    refine zJ.iconst (pc := 25) (v := 1) dX5_runs_25 (by decide) ?_
    refine zG.callVi (d := mdX5_runs) (pc := 26) [.int 1] [] (ob_23 o) ok_23 rfl dX5_runs_26 ⟨(cb_X5_goesThrough).1, (cb_X5_goesThrough).2, (Nat.le_of_ble_eq_true rfl), (Nat.le_of_ble_eq_true rfl)⟩ ml_X5_282 ci_X5_goesThrough cv_X5_goesThrough rfl (Nat.le_of_ble_eq_true rfl) (Nat.le_of_ble_eq_true rfl) rfl h (fun r9 S10 h2 => ?_)
    replace h := h2
    clear h2
    refine zJ.pop (pc := 29) dX5_runs_29 rfl ?_
    refine zJ.aload_n (pc := 30) 2 dX5_runs_30 rfl rfl ?_
    refine zE.getV (pc := 31) (fd_23_16 o) ok_23 kiX5 (Nat.le_of_ble_eq_true rfl) fl_X5_58 dX5_runs_31 ?_
    refine zJ.bipush (pc := 34) (v := 9) dX5_runs_34 (by decide) ?_
    refine zE.aldI (pc := 36) (ia_40 o) ok_40 (by unfold vp_in; decide) dX5_runs_36 ?_
    refine zJ.iload_n (pc := 37) 0 dX5_runs_37 rfl rfl ?_
    refine zJ.isub (pc := 38) dX5_runs_38 ?_
    exact zG.ret (pc := 39) (r := some (.int ((S10.1 (40, 0, 0) 9) - (S7.1 (40, 0, 0) 9)))) ⟨dX5_runs_39, _, rfl, rfl⟩ h
  · replace h := h.2 c4
    refine zJ.iload_n (pc := 10) 0 dX5_runs_10 rfl rfl ?_
    exact zG.ret (pc := 11) (r := some (.int r2)) ⟨dX5_runs_11, _, rfl, rfl⟩ h
set_option maxRecDepth 100000 in
set_option maxHeartbeats 4000000 in
theorem w_X5_ticksBy_0 (o : zW) (x1 : Int32) (S : zS) (Q : Option Value → zS → Prop) (h : zGv o 994 mdX5_begins [.ref (z_adr o (23, 0, 0))] (sI S (25, 0, 0) 2 x1) (fun S3 => zGi o 994 mdX5_goesThrough [.ref (z_adr o (23, 0, 0)), .int 1] S3 (fun r5 S6 => zG o 994 mdX5_ticksBy 17 [(0, .ref (z_adr o (23, 0, 0)))] [] S6 Q))) : zG o 994 mdX5_ticksBy 0 [(0, .ref (z_adr o (23, 0, 0))), (1, .int x1)] [] S Q := by
  show zJ o mdX5_ticksBy 0 _ [] (994, z_enc o S) 0 0 _
  refine zJ.aload_n (pc := 0) 0 dX5_ticksBy_0 rfl rfl ?_
  refine zE.getV (pc := 1) (fd_23_1 o) ok_23 kiX5 (Nat.le_of_ble_eq_true rfl) fl_X5_13 dX5_ticksBy_1 ?_
  refine zJ.iconst (pc := 4) (v := 2) dX5_ticksBy_4 (by decide) ?_
  refine zJ.iload_n (pc := 5) 1 dX5_ticksBy_5 rfl rfl ?_
  refine zE.astI (pc := 6) (ia_25 o) ok_25 (by unfold vp_in; decide) dX5_ticksBy_6 ?_
  refine zJ.aload_n (pc := 7) 0 dX5_ticksBy_7 rfl rfl ?_
  refine zG.callVv (d := mdX5_ticksBy) (pc := 8) [] [] (ob_23 o) ok_23 rfl dX5_ticksBy_8 ⟨(cb_X5_begins).1, (cb_X5_begins).2, (Nat.le_of_ble_eq_true rfl), (Nat.le_of_ble_eq_true rfl)⟩ ml_X5_87 ci_X5_begins cv_X5_begins rfl (Nat.le_of_ble_eq_true rfl) (Nat.le_of_ble_eq_true rfl) rfl h (fun S3 h2 => ?_)
  replace h := h2
  clear h2
  refine zJ.aload_n (pc := 11) 0 dX5_ticksBy_11 rfl rfl ?_
  refine zJ.iconst (pc := 12) (v := 1) dX5_ticksBy_12 (by decide) ?_
  refine zG.callVi (d := mdX5_ticksBy) (pc := 13) [.int 1] [] (ob_23 o) ok_23 rfl dX5_ticksBy_13 ⟨(cb_X5_goesThrough).1, (cb_X5_goesThrough).2, (Nat.le_of_ble_eq_true rfl), (Nat.le_of_ble_eq_true rfl)⟩ ml_X5_282 ci_X5_goesThrough cv_X5_goesThrough rfl (Nat.le_of_ble_eq_true rfl) (Nat.le_of_ble_eq_true rfl) rfl h (fun r5 S6 h2 => ?_)
  replace h := h2
  clear h2
  refine zJ.pop (pc := 16) dX5_ticksBy_16 rfl ?_
  exact zJ.sub [0] rfl h
set_option maxRecDepth 100000 in
set_option maxHeartbeats 4000000 in
theorem w_X5_ticksBy_17 (o : zW)  (S : zS) (Q : Option Value → zS → Prop) (h : ((S.1 (39, 0, 0) 0) ≤ 0 → (Q (some (.int (S.1 (40, 0, 0) 9))) S)) ∧ (¬ (S.1 (39, 0, 0) 0) ≤ 0 → (zGv o 994 mdX5_goesBy [.ref (z_adr o (23, 0, 0))] S (fun S4 => zG o 994 mdX5_ticksBy 17 [(0, .ref (z_adr o (23, 0, 0)))] [] S4 Q)))) : zG o 994 mdX5_ticksBy 17 [(0, .ref (z_adr o (23, 0, 0)))] [] S Q := by
  show zJ o mdX5_ticksBy 17 _ [] (994, z_enc o S) 0 0 _
  refine zJ.aload_n (pc := 17) 0 dX5_ticksBy_17 rfl rfl ?_
  refine zE.getV (pc := 18) (fd_23_15 o) ok_23 kiX5 (Nat.le_of_ble_eq_true rfl) fl_X5_55 dX5_ticksBy_18 ?_
  refine zJ.iconst (pc := 21) (v := 0) dX5_ticksBy_21 (by decide) ?_
  refine zE.aldI (pc := 22) (ia_39 o) ok_39 (by unfold vp_in; decide) dX5_ticksBy_22 ?_
  refine zJ.if_le (pc := 23) (tgt := 33) dX5_ticksBy_23 (by decide) (fun c1 => ?_) (fun c1 => ?_)
  · replace h := h.1 c1
    refine zJ.aload_n (pc := 33) 0 dX5_ticksBy_33 rfl rfl ?_
    refine zE.getV (pc := 34) (fd_23_16 o) ok_23 kiX5 (Nat.le_of_ble_eq_true rfl) fl_X5_58 dX5_ticksBy_34 ?_
    refine zJ.bipush (pc := 37) (v := 9) dX5_ticksBy_37 (by decide) ?_
    refine zE.aldI (pc := 39) (ia_40 o) ok_40 (by unfold vp_in; decide) dX5_ticksBy_39 ?_
    exact zG.ret (pc := 40) (r := some (.int (S.1 (40, 0, 0) 9))) ⟨dX5_ticksBy_40, _, rfl, rfl⟩ h
  · replace h := h.2 c1
    refine zJ.aload_n (pc := 26) 0 dX5_ticksBy_26 rfl rfl ?_
    refine zG.callVv (d := mdX5_ticksBy) (pc := 27) [] [] (ob_23 o) ok_23 rfl dX5_ticksBy_27 ⟨(cb_X5_goesBy).1, (cb_X5_goesBy).2, (Nat.le_of_ble_eq_true rfl), (Nat.le_of_ble_eq_true rfl)⟩ ml_X5_188 ci_X5_goesBy cv_X5_goesBy rfl (Nat.le_of_ble_eq_true rfl) (Nat.le_of_ble_eq_true rfl) rfl h (fun S4 h2 => ?_)
    replace h := h2
    clear h2
    refine zJ.goto (pc := 30) (tgt := 17) dX5_ticksBy_30 (by decide) ?_
    exact h
set_option maxRecDepth 100000 in
set_option maxHeartbeats 4000000 in
theorem w_X5_best_0 (o : zW) (x1 : Int32) (S : zS) (Q : Option Value → zS → Prop) (h : zGi o 994 mdX5_in [.int x1, .int 0, .int 1] S (fun r2 S3 => (¬ r2 = 0 → (zGi o 994 mdX5_goesThrough [.ref (z_adr o (23, 0, 0)), .int 0] S3 (fun r6 S7 => (0 ≤ r6 → (zGv o 994 mdX5_keeps [.ref (z_adr o (23, 0, 0)), .int 6] S7 (fun S11 => zGi o 994 mdX5_ticksBy [.ref (z_adr o (23, 0, 0)), .int 1] S11 (fun r13 S14 => zG o 994 mdX5_best 44 [(0, .ref (z_adr o (23, 0, 0))), (1, .int x1), (3, .int 1), (4, .int r13), (5, .int 2)] [] S14 Q)))) ∧ (¬ 0 ≤ r6 → (Q (some (.int r6)) S7))))) ∧ (r2 = 0 → (zGi o 994 mdX5_bad [.ref (z_adr o (23, 0, 0))] S3 (fun r16 S17 => Q (some (.int r16)) S17))))) : zG o 994 mdX5_best 0 [(0, .ref (z_adr o (23, 0, 0))), (1, .int x1)] [] S Q := by
  show zJ o mdX5_best 0 _ [] (994, z_enc o S) 0 0 _
  refine zJ.iload_n (pc := 0) 1 dX5_best_0 rfl rfl ?_
  refine zJ.iconst (pc := 1) (v := 0) dX5_best_1 (by decide) ?_
  refine zJ.iconst (pc := 2) (v := 1) dX5_best_2 (by decide) ?_
  refine zG.callSi (d := mdX5_best) (pc := 3) [.int x1, .int 0, .int 1] [] dX5_best_3 ⟨(cb_X5_in).1, (cb_X5_in).2, (Nat.le_of_ble_eq_true rfl), (Nat.le_of_ble_eq_true rfl)⟩ ml_X5_101 cs_X5_in rfl (Nat.le_of_ble_eq_true rfl) (Nat.le_of_ble_eq_true rfl) rfl h (fun r2 S3 h2 => ?_)
  replace h := h2
  clear h2
  refine zJ.if_ne (pc := 6) (tgt := 14) dX5_best_6 (by decide) (fun c4 => ?_) (fun c4 => ?_)
  · replace h := h.1 c4
    refine zJ.aload_n (pc := 14) 0 dX5_best_14 rfl rfl ?_
    refine zJ.iconst (pc := 15) (v := 0) dX5_best_15 (by decide) ?_
    refine zG.callVi (d := mdX5_best) (pc := 16) [.int 0] [] (ob_23 o) ok_23 rfl dX5_best_16 ⟨(cb_X5_goesThrough).1, (cb_X5_goesThrough).2, (Nat.le_of_ble_eq_true rfl), (Nat.le_of_ble_eq_true rfl)⟩ ml_X5_282 ci_X5_goesThrough cv_X5_goesThrough rfl (Nat.le_of_ble_eq_true rfl) (Nat.le_of_ble_eq_true rfl) rfl h (fun r6 S7 h2 => ?_)
    replace h := h2
    clear h2
    refine zJ.istore_n (pc := 19) (lv' := [(2, .int r6), (0, .ref (z_adr o (23, 0, 0))), (1, .int x1)]) dX5_best_19 rfl (Nat.le_of_ble_eq_true rfl) rfl ?_
    refine zJ.iload_n (pc := 20) 0 dX5_best_20 rfl rfl ?_
    refine zJ.if_ge (pc := 21) (tgt := 26) dX5_best_21 (by decide) (fun c8 => ?_) (fun c8 => ?_)
    · replace h := h.1 c8
      refine zJ.aload_n (pc := 26) 1 dX5_best_26 rfl rfl ?_
      refine zJ.bipush (pc := 27) (v := 6) dX5_best_27 (by decide) ?_
      refine zG.callVv (d := mdX5_best) (pc := 29) [.int 6] [] (ob_23 o) ok_23 rfl dX5_best_29 ⟨(cb_X5_keeps).1, (cb_X5_keeps).2, (Nat.le_of_ble_eq_true rfl), (Nat.le_of_ble_eq_true rfl)⟩ ml_X5_119 ci_X5_keeps cv_X5_keeps rfl (Nat.le_of_ble_eq_true rfl) (Nat.le_of_ble_eq_true rfl) rfl h (fun S11 h2 => ?_)
      replace h := h2
      clear h2
      refine zJ.iconst (pc := 32) (v := 1) dX5_best_32 (by decide) ?_
      refine zJ.istore_n (pc := 33) (lv' := [(3, .int 1), (2, .int r6), (0, .ref (z_adr o (23, 0, 0))), (1, .int x1)]) dX5_best_33 rfl (Nat.le_of_ble_eq_true rfl) rfl ?_
      refine zJ.aload_n (pc := 34) 2 dX5_best_34 rfl rfl ?_
      refine zJ.iconst (pc := 35) (v := 1) dX5_best_35 (by decide) ?_
      refine zG.callVi (d := mdX5_best) (pc := 36) [.int 1] [] (ob_23 o) ok_23 rfl dX5_best_36 ⟨(cb_X5_ticksBy).1, (cb_X5_ticksBy).2, (Nat.le_of_ble_eq_true rfl), (Nat.le_of_ble_eq_true rfl)⟩ ml_X5_286 ci_X5_ticksBy cv_X5_ticksBy rfl (Nat.le_of_ble_eq_true rfl) (Nat.le_of_ble_eq_true rfl) rfl h (fun r13 S14 h2 => ?_)
      replace h := h2
      clear h2
      refine zJ.istore (pc := 39) (lv' := [(4, .int r13), (3, .int 1), (2, .int r6), (0, .ref (z_adr o (23, 0, 0))), (1, .int x1)]) dX5_best_39 (Nat.le_of_ble_eq_true rfl) rfl ?_
      refine zJ.iconst (pc := 41) (v := 2) dX5_best_41 (by decide) ?_
      refine zJ.istore (pc := 42) (lv' := [(5, .int 2), (4, .int r13), (3, .int 1), (2, .int r6), (0, .ref (z_adr o (23, 0, 0))), (1, .int x1)]) dX5_best_42 (Nat.le_of_ble_eq_true rfl) rfl ?_
      exact zJ.sub [4, 5, 2, 1, 0] rfl h
    · replace h := h.2 c8
      refine zJ.iload_n (pc := 24) 0 dX5_best_24 rfl rfl ?_
      exact zG.ret (pc := 25) (r := some (.int r6)) ⟨dX5_best_25, _, rfl, rfl⟩ h
  · replace h := h.2 c4
    refine zJ.aload_n (pc := 9) 0 dX5_best_9 rfl rfl ?_
    refine zG.callVi (d := mdX5_best) (pc := 10) [] [] (ob_23 o) ok_23 rfl dX5_best_10 ⟨(cb_X5_bad).1, (cb_X5_bad).2, (Nat.le_of_ble_eq_true rfl), (Nat.le_of_ble_eq_true rfl)⟩ ml_X5_130 ci_X5_bad cv_X5_bad rfl (Nat.le_of_ble_eq_true rfl) (Nat.le_of_ble_eq_true rfl) rfl h (fun r16 S17 h2 => ?_)
    replace h := h2
    clear h2
    exact zG.ret (pc := 13) (r := some (.int r16)) ⟨dX5_best_13, _, rfl, rfl⟩ h
set_option maxRecDepth 100000 in
set_option maxHeartbeats 4000000 in
theorem w_X5_best_44 (o : zW) (x1 : Int32) (x3 : Int32) (x4 : Int32) (x5 : Int32) (S : zS) (Q : Option Value → zS → Prop) (h : (4 < x5 → (zGv o 994 mdX5_comesBack [.ref (z_adr o (23, 0, 0)), .int 6] S (fun S4 => (¬ x1 = 0 → (Q (some (.int x4)) S4)) ∧ (x1 = 0 → (Q (some (.int x3)) S4))))) ∧ (¬ 4 < x5 → (zGi o 994 mdX5_ticksBy [.ref (z_adr o (23, 0, 0)), .int x5] S (fun r7 S8 => (x4 ≤ r7 → ((x4 ≤ r7 → (zG o 994 mdX5_best 44 [(0, .ref (z_adr o (23, 0, 0))), (1, .int x1), (3, .int x3), (4, .int x4), (5, .int (x5 + 1))] [] S8 Q)) ∧ (¬ x4 ≤ r7 → (zG o 994 mdX5_best 44 [(0, .ref (z_adr o (23, 0, 0))), (1, .int x1), (3, .int x3), (4, .int r7), (5, .int (x5 + 1))] [] S8 Q)))) ∧ (¬ x4 ≤ r7 → ((x4 ≤ r7 → (zG o 994 mdX5_best 44 [(0, .ref (z_adr o (23, 0, 0))), (1, .int x1), (3, .int x5), (4, .int x4), (5, .int (x5 + 1))] [] S8 Q)) ∧ (¬ x4 ≤ r7 → (zG o 994 mdX5_best 44 [(0, .ref (z_adr o (23, 0, 0))), (1, .int x1), (3, .int x5), (4, .int r7), (5, .int (x5 + 1))] [] S8 Q)))))))) : zG o 994 mdX5_best 44 [(0, .ref (z_adr o (23, 0, 0))), (1, .int x1), (3, .int x3), (4, .int x4), (5, .int x5)] [] S Q := by
  show zJ o mdX5_best 44 _ [] (994, z_enc o S) 0 0 _
  refine zJ.iload (pc := 44) 4 dX5_best_44 rfl ?_
  refine zJ.iconst (pc := 46) (v := 4) dX5_best_46 (by decide) ?_
  refine zJ.icmp_gt (pc := 47) (tgt := 94) dX5_best_47 (by decide) (fun c1 => ?_) (fun c1 => ?_)
  · replace h := h.1 c1
    refine zJ.aload_n (pc := 94) 0 dX5_best_94 rfl rfl ?_
    refine zJ.bipush (pc := 95) (v := 6) dX5_best_95 (by decide) ?_
    refine zG.callVv (d := mdX5_best) (pc := 97) [.int 6] [] (ob_23 o) ok_23 rfl dX5_best_97 ⟨(cb_X5_comesBack).1, (cb_X5_comesBack).2, (Nat.le_of_ble_eq_true rfl), (Nat.le_of_ble_eq_true rfl)⟩ ml_X5_123 ci_X5_comesBack cv_X5_comesBack rfl (Nat.le_of_ble_eq_true rfl) (Nat.le_of_ble_eq_true rfl) rfl h (fun S4 h2 => ?_)
    replace h := h2
    clear h2
    refine zJ.iload_n (pc := 100) 1 dX5_best_100 rfl rfl ?_
    refine zJ.if_ne (pc := 101) (tgt := 108) dX5_best_101 (by decide) (fun c5 => ?_) (fun c5 => ?_)
    · replace h := h.1 c5
      refine zJ.iload (pc := 108) 3 dX5_best_108 rfl ?_
      exact zG.ret (pc := 110) (r := some (.int x4)) ⟨dX5_best_110, _, rfl, rfl⟩ h
    · replace h := h.2 c5
      refine zJ.iload_n (pc := 104) 2 dX5_best_104 rfl rfl ?_
      refine zJ.goto (pc := 105) (tgt := 110) dX5_best_105 (by decide) ?_
      exact zG.ret (pc := 110) (r := some (.int x3)) ⟨dX5_best_110, _, rfl, rfl⟩ h
  · replace h := h.2 c1
    refine zJ.aload_n (pc := 50) 0 dX5_best_50 rfl rfl ?_
    refine zJ.iload (pc := 51) 4 dX5_best_51 rfl ?_
    refine zG.callVi (d := mdX5_best) (pc := 53) [.int x5] [] (ob_23 o) ok_23 rfl dX5_best_53 ⟨(cb_X5_ticksBy).1, (cb_X5_ticksBy).2, (Nat.le_of_ble_eq_true rfl), (Nat.le_of_ble_eq_true rfl)⟩ ml_X5_286 ci_X5_ticksBy cv_X5_ticksBy rfl (Nat.le_of_ble_eq_true rfl) (Nat.le_of_ble_eq_true rfl) rfl h (fun r7 S8 h2 => ?_)
    replace h := h2
    clear h2
    refine zJ.istore (pc := 56) (lv' := [(6, .int r7), (0, .ref (z_adr o (23, 0, 0))), (1, .int x1), (3, .int x3), (4, .int x4), (5, .int x5)]) dX5_best_56 (Nat.le_of_ble_eq_true rfl) rfl ?_
    refine zJ.iload (pc := 58) 0 dX5_best_58 rfl ?_
    refine zJ.iload (pc := 60) 4 dX5_best_60 rfl ?_
    refine zJ.icmp_ge (pc := 62) (tgt := 70) dX5_best_62 (by decide) (fun c9 => ?_) (fun c9 => ?_)
    · replace h := h.1 c9
      refine zJ.iload_n (pc := 70) 3 dX5_best_70 rfl rfl ?_
      refine zJ.istore_n (pc := 71) (lv' := [(3, .int x3), (6, .int r7), (0, .ref (z_adr o (23, 0, 0))), (1, .int x1), (4, .int x4), (5, .int x5)]) dX5_best_71 rfl (Nat.le_of_ble_eq_true rfl) rfl ?_
      refine zJ.iload (pc := 72) 1 dX5_best_72 rfl ?_
      refine zJ.iload (pc := 74) 4 dX5_best_74 rfl ?_
      refine zJ.icmp_ge (pc := 76) (tgt := 84) dX5_best_76 (by decide) (fun c10 => ?_) (fun c10 => ?_)
      · replace h := h.1 c10
        refine zJ.iload (pc := 84) 4 dX5_best_84 rfl ?_
        refine zJ.istore (pc := 86) (lv' := [(4, .int x4), (3, .int x3), (6, .int r7), (0, .ref (z_adr o (23, 0, 0))), (1, .int x1), (5, .int x5)]) dX5_best_86 (Nat.le_of_ble_eq_true rfl) rfl ?_
        refine zJ.iinc (pc := 88) (k := 5) (lv' := [(5, .int (x5 + 1)), (4, .int x4), (3, .int x3), (6, .int r7), (0, .ref (z_adr o (23, 0, 0))), (1, .int x1)]) dX5_best_88 rfl rfl (Nat.le_of_ble_eq_true rfl) rfl ?_
        refine zJ.goto (pc := 91) (tgt := 44) dX5_best_91 (by decide) ?_
        exact zJ.sub [4, 5, 2, 1, 0] rfl h
      · replace h := h.2 c10
        refine zJ.iload (pc := 79) 1 dX5_best_79 rfl ?_
        refine zJ.goto (pc := 81) (tgt := 86) dX5_best_81 (by decide) ?_
        refine zJ.istore (pc := 86) (lv' := [(4, .int r7), (3, .int x3), (6, .int r7), (0, .ref (z_adr o (23, 0, 0))), (1, .int x1), (5, .int x5)]) dX5_best_86 (Nat.le_of_ble_eq_true rfl) rfl ?_
        refine zJ.iinc (pc := 88) (k := 5) (lv' := [(5, .int (x5 + 1)), (4, .int r7), (3, .int x3), (6, .int r7), (0, .ref (z_adr o (23, 0, 0))), (1, .int x1)]) dX5_best_88 rfl rfl (Nat.le_of_ble_eq_true rfl) rfl ?_
        refine zJ.goto (pc := 91) (tgt := 44) dX5_best_91 (by decide) ?_
        exact zJ.sub [4, 5, 2, 1, 0] rfl h
    · replace h := h.2 c9
      refine zJ.iload (pc := 65) 5 dX5_best_65 rfl ?_
      refine zJ.goto (pc := 67) (tgt := 71) dX5_best_67 (by decide) ?_
      refine zJ.istore_n (pc := 71) (lv' := [(3, .int x5), (6, .int r7), (0, .ref (z_adr o (23, 0, 0))), (1, .int x1), (4, .int x4), (5, .int x5)]) dX5_best_71 rfl (Nat.le_of_ble_eq_true rfl) rfl ?_
      refine zJ.iload (pc := 72) 1 dX5_best_72 rfl ?_
      refine zJ.iload (pc := 74) 4 dX5_best_74 rfl ?_
      refine zJ.icmp_ge (pc := 76) (tgt := 84) dX5_best_76 (by decide) (fun c11 => ?_) (fun c11 => ?_)
      · replace h := h.1 c11
        refine zJ.iload (pc := 84) 4 dX5_best_84 rfl ?_
        refine zJ.istore (pc := 86) (lv' := [(4, .int x4), (3, .int x5), (6, .int r7), (0, .ref (z_adr o (23, 0, 0))), (1, .int x1), (5, .int x5)]) dX5_best_86 (Nat.le_of_ble_eq_true rfl) rfl ?_
        refine zJ.iinc (pc := 88) (k := 5) (lv' := [(5, .int (x5 + 1)), (4, .int x4), (3, .int x5), (6, .int r7), (0, .ref (z_adr o (23, 0, 0))), (1, .int x1)]) dX5_best_88 rfl rfl (Nat.le_of_ble_eq_true rfl) rfl ?_
        refine zJ.goto (pc := 91) (tgt := 44) dX5_best_91 (by decide) ?_
        exact zJ.sub [4, 5, 2, 1, 0] rfl h
      · replace h := h.2 c11
        refine zJ.iload (pc := 79) 1 dX5_best_79 rfl ?_
        refine zJ.goto (pc := 81) (tgt := 86) dX5_best_81 (by decide) ?_
        refine zJ.istore (pc := 86) (lv' := [(4, .int r7), (3, .int x5), (6, .int r7), (0, .ref (z_adr o (23, 0, 0))), (1, .int x1), (5, .int x5)]) dX5_best_86 (Nat.le_of_ble_eq_true rfl) rfl ?_
        refine zJ.iinc (pc := 88) (k := 5) (lv' := [(5, .int (x5 + 1)), (4, .int r7), (3, .int x5), (6, .int r7), (0, .ref (z_adr o (23, 0, 0))), (1, .int x1)]) dX5_best_88 rfl rfl (Nat.le_of_ble_eq_true rfl) rfl ?_
        refine zJ.goto (pc := 91) (tgt := 44) dX5_best_91 (by decide) ?_
        exact zJ.sub [4, 5, 2, 1, 0] rfl h
set_option maxRecDepth 100000 in
set_option maxHeartbeats 4000000 in
theorem w_X5_toldBy_0 (o : zW) (x1 : Int32) (S : zS) (Q : Option Value → zS → Prop) (h : (3 ≤ x1 → ((¬ x1 = 3 → ((¬ x1 = 9 → (vp_in (x1 - 4) 5 ∧ (Q (some (.int (S.1 (25, 0, 0) ((x1 - 4).toNatClampNeg)))) S))) ∧ (x1 = 9 → (Q (some (.int (S.1 (23, 0, 0) 23))) S)))) ∧ (x1 = 3 → (Q (some (.int (S.1 (23, 0, 0) 30))) S)))) ∧ (¬ 3 ≤ x1 → (vp_in x1 3 ∧ (Q (some (.int (S.1 (24, 0, 0) x1.toNatClampNeg))) S)))) : zG o 994 mdX5_toldBy 0 [(0, .ref (z_adr o (23, 0, 0))), (1, .int x1)] [] S Q := by
  show zJ o mdX5_toldBy 0 _ [] (994, z_enc o S) 0 0 _
  refine zJ.iload_n (pc := 0) 1 dX5_toldBy_0 rfl rfl ?_
  refine zJ.iconst (pc := 1) (v := 3) dX5_toldBy_1 (by decide) ?_
  refine zJ.icmp_ge (pc := 2) (tgt := 14) dX5_toldBy_2 (by decide) (fun c1 => ?_) (fun c1 => ?_)
  · replace h := h.1 c1
    refine zJ.iload_n (pc := 14) 1 dX5_toldBy_14 rfl rfl ?_
    refine zJ.iconst (pc := 15) (v := 3) dX5_toldBy_15 (by decide) ?_
    refine zJ.icmp_ne (pc := 16) (tgt := 26) dX5_toldBy_16 (by decide) (fun c2 => ?_) (fun c2 => ?_)
    · replace h := h.1 c2
      refine zJ.iload_n (pc := 26) 1 dX5_toldBy_26 rfl rfl ?_
      refine zJ.bipush (pc := 27) (v := 9) dX5_toldBy_27 (by decide) ?_
      refine zJ.icmp_ne (pc := 29) (tgt := 39) dX5_toldBy_29 (by decide) (fun c3 => ?_) (fun c3 => ?_)
      · replace h := h.1 c3
        refine zJ.aload_n (pc := 39) 0 dX5_toldBy_39 rfl rfl ?_
        refine zE.getV (pc := 40) (fd_23_1 o) ok_23 kiX5 (Nat.le_of_ble_eq_true rfl) fl_X5_13 dX5_toldBy_40 ?_
        refine zJ.iload_n (pc := 43) 1 dX5_toldBy_43 rfl rfl ?_
        refine zJ.iconst (pc := 44) (v := 4) dX5_toldBy_44 (by decide) ?_
        refine zJ.isub (pc := 45) dX5_toldBy_45 ?_
        obtain ⟨hq, h⟩ := h
        refine zE.aldI (pc := 46) (ia_25 o) ok_25 hq dX5_toldBy_46 ?_
        exact zG.ret (pc := 47) (r := some (.int (S.1 (25, 0, 0) ((x1 - 4).toNatClampNeg)))) ⟨dX5_toldBy_47, _, rfl, rfl⟩ h
      · replace h := h.2 c3
        refine zJ.aload_n (pc := 32) 0 dX5_toldBy_32 rfl rfl ?_
        refine zE.getI (pc := 33) (fd_23_23 o) ok_23 kiX5 (Nat.le_of_ble_eq_true rfl) fl_X5_116 dX5_toldBy_33 ?_
        refine zJ.goto (pc := 36) (tgt := 47) dX5_toldBy_36 (by decide) ?_
        exact zG.ret (pc := 47) (r := some (.int (S.1 (23, 0, 0) 23))) ⟨dX5_toldBy_47, _, rfl, rfl⟩ h
    · replace h := h.2 c2
      refine zJ.aload_n (pc := 19) 0 dX5_toldBy_19 rfl rfl ?_
      refine zE.getI (pc := 20) (fd_23_30 o) ok_23 kiX5 (Nat.le_of_ble_eq_true rfl) fl_X5_250 dX5_toldBy_20 ?_
      refine zJ.goto (pc := 23) (tgt := 47) dX5_toldBy_23 (by decide) ?_
      exact zG.ret (pc := 47) (r := some (.int (S.1 (23, 0, 0) 30))) ⟨dX5_toldBy_47, _, rfl, rfl⟩ h
  · replace h := h.2 c1
    refine zJ.aload_n (pc := 5) 0 dX5_toldBy_5 rfl rfl ?_
    refine zE.getV (pc := 6) (fd_23_0 o) ok_23 kiX5 (Nat.le_of_ble_eq_true rfl) fl_X5_1 dX5_toldBy_6 ?_
    refine zJ.iload_n (pc := 9) 1 dX5_toldBy_9 rfl rfl ?_
    obtain ⟨hq, h⟩ := h
    refine zE.aldI (pc := 10) (ia_24 o) ok_24 hq dX5_toldBy_10 ?_
    refine zJ.goto (pc := 11) (tgt := 47) dX5_toldBy_11 (by decide) ?_
    exact zG.ret (pc := 47) (r := some (.int (S.1 (24, 0, 0) x1.toNatClampNeg))) ⟨dX5_toldBy_47, _, rfl, rfl⟩ h
set_option maxRecDepth 100000 in
set_option maxHeartbeats 4000000 in
theorem w_X5_told_0 (o : zW) (x1 : Int32) (S : zS) (Q : Option Value → zS → Prop) (h : zGi o 994 mdX5_in [.int x1, .int 0, .int 9] S (fun r2 S3 => (r2 = 0 → (zGi o 994 mdX5_bad [.ref (z_adr o (23, 0, 0))] S3 (fun r6 S7 => Q (some (.int r6)) S7))) ∧ (¬ r2 = 0 → (zGi o 994 mdX5_toldBy [.ref (z_adr o (23, 0, 0)), .int x1] S3 (fun r9 S10 => Q (some (.int r9)) S10))))) : zG o 994 mdX5_told 0 [(0, .ref (z_adr o (23, 0, 0))), (1, .int x1)] [] S Q := by
  show zJ o mdX5_told 0 _ [] (994, z_enc o S) 0 0 _
  refine zJ.iload_n (pc := 0) 1 dX5_told_0 rfl rfl ?_
  refine zJ.iconst (pc := 1) (v := 0) dX5_told_1 (by decide) ?_
  refine zJ.bipush (pc := 2) (v := 9) dX5_told_2 (by decide) ?_
  refine zG.callSi (d := mdX5_told) (pc := 4) [.int x1, .int 0, .int 9] [] dX5_told_4 ⟨(cb_X5_in).1, (cb_X5_in).2, (Nat.le_of_ble_eq_true rfl), (Nat.le_of_ble_eq_true rfl)⟩ ml_X5_101 cs_X5_in rfl (Nat.le_of_ble_eq_true rfl) (Nat.le_of_ble_eq_true rfl) rfl h (fun r2 S3 h2 => ?_)
  replace h := h2
  clear h2
  refine zJ.if_eq (pc := 7) (tgt := 18) dX5_told_7 (by decide) (fun c4 => ?_) (fun c4 => ?_)
  · replace h := h.1 c4
    refine zJ.aload_n (pc := 18) 0 dX5_told_18 rfl rfl ?_
    refine zG.callVi (d := mdX5_told) (pc := 19) [] [] (ob_23 o) ok_23 rfl dX5_told_19 ⟨(cb_X5_bad).1, (cb_X5_bad).2, (Nat.le_of_ble_eq_true rfl), (Nat.le_of_ble_eq_true rfl)⟩ ml_X5_130 ci_X5_bad cv_X5_bad rfl (Nat.le_of_ble_eq_true rfl) (Nat.le_of_ble_eq_true rfl) rfl h (fun r6 S7 h2 => ?_)
    replace h := h2
    clear h2
    exact zG.ret (pc := 22) (r := some (.int r6)) ⟨dX5_told_22, _, rfl, rfl⟩ h
  · replace h := h.2 c4
    refine zJ.aload_n (pc := 10) 0 dX5_told_10 rfl rfl ?_
    refine zJ.iload_n (pc := 11) 1 dX5_told_11 rfl rfl ?_
    refine zG.callVi (d := mdX5_told) (pc := 12) [.int x1] [] (ob_23 o) ok_23 rfl dX5_told_12 ⟨(cb_X5_toldBy).1, (cb_X5_toldBy).2, (Nat.le_of_ble_eq_true rfl), (Nat.le_of_ble_eq_true rfl)⟩ ml_X5_289 ci_X5_toldBy cv_X5_toldBy rfl (Nat.le_of_ble_eq_true rfl) (Nat.le_of_ble_eq_true rfl) rfl h (fun r9 S10 h2 => ?_)
    replace h := h2
    clear h2
    refine zJ.goto (pc := 15) (tgt := 22) dX5_told_15 (by decide) ?_
    exact zG.ret (pc := 22) (r := some (.int r9)) ⟨dX5_told_22, _, rfl, rfl⟩ h
set_option maxRecDepth 100000 in
set_option maxHeartbeats 4000000 in
theorem w_X5_digest_0 (o : zW)  (S : zS) (Q : Option Value → zS → Prop) (h : zG o 994 mdX5_digest 6 [(0, .ref (z_adr o (23, 0, 0))), (1, .long (2087 : Int64)), (3, .int 0)] [] S Q) : zG o 994 mdX5_digest 0 [(0, .ref (z_adr o (23, 0, 0)))] [] S Q := by
  show zJ o mdX5_digest 0 _ [] (994, z_enc o S) 0 0 _
  refine zJ.ldc2 (pc := 0) lc_X5_292 dX5_digest_0 ?_
  refine zJ.lstore_n (pc := 3) (lv' := [(1, .long (2087 : Int64)), (0, .ref (z_adr o (23, 0, 0)))]) dX5_digest_3 rfl (Nat.le_of_ble_eq_true rfl) rfl ?_
  refine zJ.iconst (pc := 4) (v := 0) dX5_digest_4 (by decide) ?_
  refine zJ.istore_n (pc := 5) (lv' := [(3, .int 0), (1, .long (2087 : Int64)), (0, .ref (z_adr o (23, 0, 0)))]) dX5_digest_5 rfl (Nat.le_of_ble_eq_true rfl) rfl ?_
  exact zJ.sub [2, 1, 0] rfl h
set_option maxRecDepth 100000 in
set_option maxHeartbeats 4000000 in
theorem w_X5_digest_6 (o : zW) (x1 : Int64) (x3 : Int32) (S : zS) (Q : Option Value → zS → Prop) (h : (10 ≤ x3 → (zG o 994 mdX5_digest 33 [(0, .ref (z_adr o (23, 0, 0))), (1, .long x1), (3, .int 0)] [] S Q)) ∧ (¬ 10 ≤ x3 → (zGi o 994 mdX5_toldBy [.ref (z_adr o (23, 0, 0)), .int x3] S (fun r3 S4 => zG o 994 mdX5_digest 6 [(0, .ref (z_adr o (23, 0, 0))), (1, .long (((31 : Int64) * x1) + r3.toInt64)), (3, .int (x3 + 1))] [] S4 Q)))) : zG o 994 mdX5_digest 6 [(0, .ref (z_adr o (23, 0, 0))), (1, .long x1), (3, .int x3)] [] S Q := by
  show zJ o mdX5_digest 6 _ [] (994, z_enc o S) 0 0 _
  refine zJ.iload_n (pc := 6) 2 dX5_digest_6 rfl rfl ?_
  refine zJ.bipush (pc := 7) (v := 10) dX5_digest_7 (by decide) ?_
  refine zJ.icmp_ge (pc := 9) (tgt := 31) dX5_digest_9 (by decide) (fun c1 => ?_) (fun c1 => ?_)
  · replace h := h.1 c1
    refine zJ.iconst (pc := 31) (v := 0) dX5_digest_31 (by decide) ?_
    refine zJ.istore_n (pc := 32) (lv' := [(3, .int 0), (0, .ref (z_adr o (23, 0, 0))), (1, .long x1)]) dX5_digest_32 rfl (Nat.le_of_ble_eq_true rfl) rfl ?_
    exact zJ.sub [1, 2, 0] rfl h
  · replace h := h.2 c1
    refine zJ.ldc2 (pc := 12) lc_X5_294 dX5_digest_12 ?_
    refine zJ.lload_n (pc := 15) 1 dX5_digest_15 rfl rfl ?_
    refine zJ.lmul (pc := 16) dX5_digest_16 ?_
    refine zJ.aload_n (pc := 17) 0 dX5_digest_17 rfl rfl ?_
    refine zJ.iload_n (pc := 18) 2 dX5_digest_18 rfl rfl ?_
    refine zG.callVi (d := mdX5_digest) (pc := 19) [.int x3] [.long ((31 : Int64) * x1)] (ob_23 o) ok_23 rfl dX5_digest_19 ⟨(cb_X5_toldBy).1, (cb_X5_toldBy).2, (Nat.le_of_ble_eq_true rfl), (Nat.le_of_ble_eq_true rfl)⟩ ml_X5_289 ci_X5_toldBy cv_X5_toldBy rfl (Nat.le_of_ble_eq_true rfl) (Nat.le_of_ble_eq_true rfl) rfl h (fun r3 S4 h2 => ?_)
    replace h := h2
    clear h2
    refine zJ.i2l (pc := 22) dX5_digest_22 ?_
    refine zJ.ladd (pc := 23) dX5_digest_23 ?_
    refine zJ.lstore_n (pc := 24) (lv' := [(1, .long (((31 : Int64) * x1) + r3.toInt64)), (0, .ref (z_adr o (23, 0, 0))), (3, .int x3)]) dX5_digest_24 rfl (Nat.le_of_ble_eq_true rfl) rfl ?_
    refine zJ.iinc (pc := 25) (k := 2) (lv' := [(3, .int (x3 + 1)), (1, .long (((31 : Int64) * x1) + r3.toInt64)), (0, .ref (z_adr o (23, 0, 0)))]) dX5_digest_25 rfl rfl (Nat.le_of_ble_eq_true rfl) rfl ?_
    refine zJ.goto (pc := 28) (tgt := 6) dX5_digest_28 (by decide) ?_
    exact zJ.sub [2, 1, 0] rfl h
set_option maxRecDepth 100000 in
set_option maxHeartbeats 4000000 in
theorem w_X5_digest_33 (o : zW) (x1 : Int64) (x3 : Int32) (S : zS) (Q : Option Value → zS → Prop) (h : (10 ≤ x3 → (zG o 994 mdX5_digest 61 [(0, .ref (z_adr o (23, 0, 0))), (1, .long x1), (3, .int 0)] [] S Q)) ∧ (¬ 10 ≤ x3 → (vp_in x3 10 ∧ (zG o 994 mdX5_digest 33 [(0, .ref (z_adr o (23, 0, 0))), (1, .long (((31 : Int64) * x1) + ((S.1 (40, 0, 0) x3.toNatClampNeg).toInt64))), (3, .int (x3 + 1))] [] S Q)))) : zG o 994 mdX5_digest 33 [(0, .ref (z_adr o (23, 0, 0))), (1, .long x1), (3, .int x3)] [] S Q := by
  show zJ o mdX5_digest 33 _ [] (994, z_enc o S) 0 0 _
  refine zJ.iload_n (pc := 33) 2 dX5_digest_33 rfl rfl ?_
  refine zJ.bipush (pc := 34) (v := 10) dX5_digest_34 (by decide) ?_
  refine zJ.icmp_ge (pc := 36) (tgt := 59) dX5_digest_36 (by decide) (fun c1 => ?_) (fun c1 => ?_)
  · replace h := h.1 c1
    refine zJ.iconst (pc := 59) (v := 0) dX5_digest_59 (by decide) ?_
    refine zJ.istore_n (pc := 60) (lv' := [(3, .int 0), (0, .ref (z_adr o (23, 0, 0))), (1, .long x1)]) dX5_digest_60 rfl (Nat.le_of_ble_eq_true rfl) rfl ?_
    exact zJ.sub [1, 2, 0] rfl h
  · replace h := h.2 c1
    refine zJ.ldc2 (pc := 39) lc_X5_294 dX5_digest_39 ?_
    refine zJ.lload_n (pc := 42) 1 dX5_digest_42 rfl rfl ?_
    refine zJ.lmul (pc := 43) dX5_digest_43 ?_
    refine zJ.aload_n (pc := 44) 0 dX5_digest_44 rfl rfl ?_
    refine zE.getV (pc := 45) (fd_23_16 o) ok_23 kiX5 (Nat.le_of_ble_eq_true rfl) fl_X5_58 dX5_digest_45 ?_
    refine zJ.iload_n (pc := 48) 2 dX5_digest_48 rfl rfl ?_
    obtain ⟨hq, h⟩ := h
    refine zE.aldI (pc := 49) (ia_40 o) ok_40 hq dX5_digest_49 ?_
    refine zJ.i2l (pc := 50) dX5_digest_50 ?_
    refine zJ.ladd (pc := 51) dX5_digest_51 ?_
    refine zJ.lstore_n (pc := 52) (lv' := [(1, .long (((31 : Int64) * x1) + ((S.1 (40, 0, 0) x3.toNatClampNeg).toInt64))), (0, .ref (z_adr o (23, 0, 0))), (3, .int x3)]) dX5_digest_52 rfl (Nat.le_of_ble_eq_true rfl) rfl ?_
    refine zJ.iinc (pc := 53) (k := 2) (lv' := [(3, .int (x3 + 1)), (1, .long (((31 : Int64) * x1) + ((S.1 (40, 0, 0) x3.toNatClampNeg).toInt64))), (0, .ref (z_adr o (23, 0, 0)))]) dX5_digest_53 rfl rfl (Nat.le_of_ble_eq_true rfl) rfl ?_
    refine zJ.goto (pc := 56) (tgt := 33) dX5_digest_56 (by decide) ?_
    exact zJ.sub [2, 1, 0] rfl h
set_option maxRecDepth 100000 in
set_option maxHeartbeats 4000000 in
theorem w_X5_digest_61 (o : zW) (x1 : Int64) (x3 : Int32) (S : zS) (Q : Option Value → zS → Prop) (h : (64 ≤ x3 → (zG o 994 mdX5_digest 89 [(0, .ref (z_adr o (23, 0, 0))), (1, .long x1), (3, .int 0)] [] S Q)) ∧ (¬ 64 ≤ x3 → (vp_in x3 64 ∧ (zG o 994 mdX5_digest 61 [(0, .ref (z_adr o (23, 0, 0))), (1, .long (((31 : Int64) * x1) + ((S.1 (26, 0, 0) x3.toNatClampNeg).toInt64))), (3, .int (x3 + 1))] [] S Q)))) : zG o 994 mdX5_digest 61 [(0, .ref (z_adr o (23, 0, 0))), (1, .long x1), (3, .int x3)] [] S Q := by
  show zJ o mdX5_digest 61 _ [] (994, z_enc o S) 0 0 _
  refine zJ.iload_n (pc := 61) 2 dX5_digest_61 rfl rfl ?_
  refine zJ.bipush (pc := 62) (v := 64) dX5_digest_62 (by decide) ?_
  refine zJ.icmp_ge (pc := 64) (tgt := 87) dX5_digest_64 (by decide) (fun c1 => ?_) (fun c1 => ?_)
  · replace h := h.1 c1
    refine zJ.iconst (pc := 87) (v := 0) dX5_digest_87 (by decide) ?_
    refine zJ.istore_n (pc := 88) (lv' := [(3, .int 0), (0, .ref (z_adr o (23, 0, 0))), (1, .long x1)]) dX5_digest_88 rfl (Nat.le_of_ble_eq_true rfl) rfl ?_
    exact zJ.sub [1, 2, 0] rfl h
  · replace h := h.2 c1
    refine zJ.ldc2 (pc := 67) lc_X5_294 dX5_digest_67 ?_
    refine zJ.lload_n (pc := 70) 1 dX5_digest_70 rfl rfl ?_
    refine zJ.lmul (pc := 71) dX5_digest_71 ?_
    refine zJ.aload_n (pc := 72) 0 dX5_digest_72 rfl rfl ?_
    refine zE.getV (pc := 73) (fd_23_2 o) ok_23 kiX5 (Nat.le_of_ble_eq_true rfl) fl_X5_16 dX5_digest_73 ?_
    refine zJ.iload_n (pc := 76) 2 dX5_digest_76 rfl rfl ?_
    obtain ⟨hq, h⟩ := h
    refine zE.aldI (pc := 77) (ia_26 o) ok_26 hq dX5_digest_77 ?_
    refine zJ.i2l (pc := 78) dX5_digest_78 ?_
    refine zJ.ladd (pc := 79) dX5_digest_79 ?_
    refine zJ.lstore_n (pc := 80) (lv' := [(1, .long (((31 : Int64) * x1) + ((S.1 (26, 0, 0) x3.toNatClampNeg).toInt64))), (0, .ref (z_adr o (23, 0, 0))), (3, .int x3)]) dX5_digest_80 rfl (Nat.le_of_ble_eq_true rfl) rfl ?_
    refine zJ.iinc (pc := 81) (k := 2) (lv' := [(3, .int (x3 + 1)), (1, .long (((31 : Int64) * x1) + ((S.1 (26, 0, 0) x3.toNatClampNeg).toInt64))), (0, .ref (z_adr o (23, 0, 0)))]) dX5_digest_81 rfl rfl (Nat.le_of_ble_eq_true rfl) rfl ?_
    refine zJ.goto (pc := 84) (tgt := 61) dX5_digest_84 (by decide) ?_
    exact zJ.sub [2, 1, 0] rfl h
set_option maxRecDepth 100000 in
set_option maxHeartbeats 4000000 in
theorem w_X5_digest_89 (o : zW) (x1 : Int64) (x3 : Int32) (S : zS) (Q : Option Value → zS → Prop) (h : (16 ≤ x3 → (zGi o 994 mdX5_cost [.ref (z_adr o (23, 0, 0)), .int 0] S (fun r3 S4 => zGi o 994 mdX5_cost [.ref (z_adr o (23, 0, 0)), .int 1] S4 (fun r6 S7 => zGl o 994 mdX5_even [.ref (z_adr o (23, 0, 0))] S7 (fun r9 S10 => Q (some (.long (((31 : Int64) * (((31 : Int64) * (((31 : Int64) * x1) + r3.toInt64)) + r6.toInt64)) + r9))) S10))))) ∧ (¬ 16 ≤ x3 → (vp_in x3 16 ∧ (zG o 994 mdX5_digest 89 [(0, .ref (z_adr o (23, 0, 0))), (1, .long (((31 : Int64) * x1) + ((S.1 (29, 0, 0) x3.toNatClampNeg).toInt64))), (3, .int (x3 + 1))] [] S Q)))) : zG o 994 mdX5_digest 89 [(0, .ref (z_adr o (23, 0, 0))), (1, .long x1), (3, .int x3)] [] S Q := by
  show zJ o mdX5_digest 89 _ [] (994, z_enc o S) 0 0 _
  refine zJ.iload_n (pc := 89) 2 dX5_digest_89 rfl rfl ?_
  refine zJ.bipush (pc := 90) (v := 16) dX5_digest_90 (by decide) ?_
  refine zJ.icmp_ge (pc := 92) (tgt := 115) dX5_digest_92 (by decide) (fun c1 => ?_) (fun c1 => ?_)
  · replace h := h.1 c1
    refine zJ.ldc2 (pc := 115) lc_X5_294 dX5_digest_115 ?_
    refine zJ.lload_n (pc := 118) 1 dX5_digest_118 rfl rfl ?_
    refine zJ.lmul (pc := 119) dX5_digest_119 ?_
    refine zJ.aload_n (pc := 120) 0 dX5_digest_120 rfl rfl ?_
    refine zJ.iconst (pc := 121) (v := 0) dX5_digest_121 (by decide) ?_
    refine zG.callVi (d := mdX5_digest) (pc := 122) [.int 0] [.long ((31 : Int64) * x1)] (ob_23 o) ok_23 rfl dX5_digest_122 ⟨(cb_X5_cost).1, (cb_X5_cost).2, (Nat.le_of_ble_eq_true rfl), (Nat.le_of_ble_eq_true rfl)⟩ ml_X5_296 ci_X5_cost cv_X5_cost rfl (Nat.le_of_ble_eq_true rfl) (Nat.le_of_ble_eq_true rfl) rfl h (fun r3 S4 h2 => ?_)
    replace h := h2
    clear h2
    refine zJ.i2l (pc := 125) dX5_digest_125 ?_
    refine zJ.ladd (pc := 126) dX5_digest_126 ?_
    refine zJ.lstore_n (pc := 127) (lv' := [(1, .long (((31 : Int64) * x1) + r3.toInt64)), (0, .ref (z_adr o (23, 0, 0))), (3, .int x3)]) dX5_digest_127 rfl (Nat.le_of_ble_eq_true rfl) rfl ?_
    refine zJ.ldc2 (pc := 128) lc_X5_294 dX5_digest_128 ?_
    refine zJ.lload_n (pc := 131) 0 dX5_digest_131 rfl rfl ?_
    refine zJ.lmul (pc := 132) dX5_digest_132 ?_
    refine zJ.aload_n (pc := 133) 1 dX5_digest_133 rfl rfl ?_
    refine zJ.iconst (pc := 134) (v := 1) dX5_digest_134 (by decide) ?_
    refine zG.callVi (d := mdX5_digest) (pc := 135) [.int 1] [.long ((31 : Int64) * (((31 : Int64) * x1) + r3.toInt64))] (ob_23 o) ok_23 rfl dX5_digest_135 ⟨(cb_X5_cost).1, (cb_X5_cost).2, (Nat.le_of_ble_eq_true rfl), (Nat.le_of_ble_eq_true rfl)⟩ ml_X5_296 ci_X5_cost cv_X5_cost rfl (Nat.le_of_ble_eq_true rfl) (Nat.le_of_ble_eq_true rfl) rfl h (fun r6 S7 h2 => ?_)
    replace h := h2
    clear h2
    refine zJ.i2l (pc := 138) dX5_digest_138 ?_
    refine zJ.ladd (pc := 139) dX5_digest_139 ?_
    refine zJ.lstore_n (pc := 140) (lv' := [(1, .long (((31 : Int64) * (((31 : Int64) * x1) + r3.toInt64)) + r6.toInt64)), (0, .ref (z_adr o (23, 0, 0))), (3, .int x3)]) dX5_digest_140 rfl (Nat.le_of_ble_eq_true rfl) rfl ?_
    refine zJ.ldc2 (pc := 141) lc_X5_294 dX5_digest_141 ?_
    refine zJ.lload_n (pc := 144) 0 dX5_digest_144 rfl rfl ?_
    refine zJ.lmul (pc := 145) dX5_digest_145 ?_
    refine zJ.aload_n (pc := 146) 1 dX5_digest_146 rfl rfl ?_
    refine zG.callVl (d := mdX5_digest) (pc := 147) [] [.long ((31 : Int64) * (((31 : Int64) * (((31 : Int64) * x1) + r3.toInt64)) + r6.toInt64))] (ob_23 o) ok_23 rfl dX5_digest_147 ⟨(cb_X5_even).1, (cb_X5_even).2, (Nat.le_of_ble_eq_true rfl), (Nat.le_of_ble_eq_true rfl)⟩ ml_X5_298 ci_X5_even cv_X5_even rfl (Nat.le_of_ble_eq_true rfl) (Nat.le_of_ble_eq_true rfl) rfl h (fun r9 S10 h2 => ?_)
    replace h := h2
    clear h2
    refine zJ.ladd (pc := 150) dX5_digest_150 ?_
    exact zG.ret (pc := 151) (r := some (.long (((31 : Int64) * (((31 : Int64) * (((31 : Int64) * x1) + r3.toInt64)) + r6.toInt64)) + r9))) ⟨dX5_digest_151, rfl⟩ h
  · replace h := h.2 c1
    refine zJ.ldc2 (pc := 95) lc_X5_294 dX5_digest_95 ?_
    refine zJ.lload_n (pc := 98) 1 dX5_digest_98 rfl rfl ?_
    refine zJ.lmul (pc := 99) dX5_digest_99 ?_
    refine zJ.aload_n (pc := 100) 0 dX5_digest_100 rfl rfl ?_
    refine zE.getV (pc := 101) (fd_23_5 o) ok_23 kiX5 (Nat.le_of_ble_eq_true rfl) fl_X5_25 dX5_digest_101 ?_
    refine zJ.iload_n (pc := 104) 2 dX5_digest_104 rfl rfl ?_
    obtain ⟨hq, h⟩ := h
    refine zE.aldI (pc := 105) (ia_29 o) ok_29 hq dX5_digest_105 ?_
    refine zJ.i2l (pc := 106) dX5_digest_106 ?_
    refine zJ.ladd (pc := 107) dX5_digest_107 ?_
    refine zJ.lstore_n (pc := 108) (lv' := [(1, .long (((31 : Int64) * x1) + ((S.1 (29, 0, 0) x3.toNatClampNeg).toInt64))), (0, .ref (z_adr o (23, 0, 0))), (3, .int x3)]) dX5_digest_108 rfl (Nat.le_of_ble_eq_true rfl) rfl ?_
    refine zJ.iinc (pc := 109) (k := 2) (lv' := [(3, .int (x3 + 1)), (1, .long (((31 : Int64) * x1) + ((S.1 (29, 0, 0) x3.toNatClampNeg).toInt64))), (0, .ref (z_adr o (23, 0, 0)))]) dX5_digest_109 rfl rfl (Nat.le_of_ble_eq_true rfl) rfl ?_
    refine zJ.goto (pc := 112) (tgt := 89) dX5_digest_112 (by decide) ?_
    exact zJ.sub [2, 1, 0] rfl h
