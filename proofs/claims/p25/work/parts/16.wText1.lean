set_option maxRecDepth 100000 in
set_option maxHeartbeats 4000000 in
theorem w_X3_readOrders_0 (o : zW)  (S : zS) (Q : Option Value → zS → Prop) (h : zGi o 970 mdX3_peek [.ref (z_adr o (16, 0, 0))] (sI (sI (sI S (16, 0, 0) 5 0) (16, 0, 0) 6 0) (16, 0, 0) 7 (-1)) (fun r2 S3 => (0 ≤ r2 → (zG o 970 mdX3_readOrders 32 [(0, .ref (z_adr o (16, 0, 0))), (1, .int 0)] [] S3 Q)) ∧ (¬ 0 ≤ r2 → (zG o 970 mdX3_readOrders 32 [(0, .ref (z_adr o (16, 0, 0))), (1, .int 0)] [] (sI S3 (16, 0, 0) 7 (S3.1 (16, 0, 0) 6)) Q)))) : zG o 970 mdX3_readOrders 0 [(0, .ref (z_adr o (16, 0, 0)))] [] S Q := by
  show zJ o mdX3_readOrders 0 _ [] (970, z_enc o S) 0 0 _
  refine zJ.aload_n (pc := 0) 0 dX3_readOrders_0 rfl rfl ?_
  refine zJ.iconst (pc := 1) (v := 0) dX3_readOrders_1 (by decide) ?_
  refine zE.putI (pc := 2) (fd_16_5 o) ok_16 kiX3 (Nat.le_of_ble_eq_true rfl) fl_X3_24 rfl rfl dX3_readOrders_2 ?_
  refine zJ.aload_n (pc := 5) 0 dX3_readOrders_5 rfl rfl ?_
  refine zJ.iconst (pc := 6) (v := 0) dX3_readOrders_6 (by decide) ?_
  refine zE.putI (pc := 7) (fd_16_6 o) ok_16 kiX3 (Nat.le_of_ble_eq_true rfl) fl_X3_28 rfl rfl dX3_readOrders_7 ?_
  refine zJ.aload_n (pc := 10) 0 dX3_readOrders_10 rfl rfl ?_
  refine zJ.iconst (pc := 11) (v := (-1)) dX3_readOrders_11 (by decide) ?_
  refine zE.putI (pc := 12) (fd_16_7 o) ok_16 kiX3 (Nat.le_of_ble_eq_true rfl) fl_X3_31 rfl rfl dX3_readOrders_12 ?_
  refine zJ.aload_n (pc := 15) 0 dX3_readOrders_15 rfl rfl ?_
  refine zG.callVi (d := mdX3_readOrders) (pc := 16) [] [] (ob_16 o) ok_16 rfl dX3_readOrders_16 ⟨(cb_X3_peek).1, (cb_X3_peek).2, (Nat.le_of_ble_eq_true rfl), (Nat.le_of_ble_eq_true rfl)⟩ ml_X3_34 ci_X3_peek cv_X3_peek rfl (Nat.le_of_ble_eq_true rfl) (Nat.le_of_ble_eq_true rfl) rfl h (fun r2 S3 h2 => ?_)
  replace h := h2
  clear h2
  refine zJ.if_ge (pc := 19) (tgt := 30) dX3_readOrders_19 (by decide) (fun c4 => ?_) (fun c4 => ?_)
  · replace h := h.1 c4
    refine zJ.iconst (pc := 30) (v := 0) dX3_readOrders_30 (by decide) ?_
    refine zJ.istore_n (pc := 31) (lv' := [(1, .int 0), (0, .ref (z_adr o (16, 0, 0)))]) dX3_readOrders_31 rfl (Nat.le_of_ble_eq_true rfl) rfl ?_
    exact zJ.sub [1, 0] rfl h
  · replace h := h.2 c4
    refine zJ.aload_n (pc := 22) 0 dX3_readOrders_22 rfl rfl ?_
    refine zJ.aload_n (pc := 23) 0 dX3_readOrders_23 rfl rfl ?_
    refine zE.getI (pc := 24) (fd_16_6 o) ok_16 kiX3 (Nat.le_of_ble_eq_true rfl) fl_X3_28 dX3_readOrders_24 ?_
    refine zE.putI (pc := 27) (fd_16_7 o) ok_16 kiX3 (Nat.le_of_ble_eq_true rfl) fl_X3_31 rfl rfl dX3_readOrders_27 ?_
    refine zJ.iconst (pc := 30) (v := 0) dX3_readOrders_30 (by decide) ?_
    refine zJ.istore_n (pc := 31) (lv' := [(1, .int 0), (0, .ref (z_adr o (16, 0, 0)))]) dX3_readOrders_31 rfl (Nat.le_of_ble_eq_true rfl) rfl ?_
    exact zJ.sub [1, 0] rfl h
set_option maxRecDepth 100000 in
set_option maxHeartbeats 4000000 in
theorem w_X3_readOrders_32 (o : zW) (x1 : Int32) (S : zS) (Q : Option Value → zS → Prop) (h : (120 ≤ x1 → (Q (some (.int (S.1 (16, 0, 0) 7))) S)) ∧ (¬ 120 ≤ x1 → ((¬ (S.1 (16, 0, 0) 7) = (-1) → (Q (some (.int (S.1 (16, 0, 0) 7))) S)) ∧ ((S.1 (16, 0, 0) 7) = (-1) → (zGi o 970 mdX3_peek [.ref (z_adr o (16, 0, 0))] S (fun r4 S5 => (r4 < 0 → (Q (some (.int (S5.1 (16, 0, 0) 7))) S5)) ∧ (¬ r4 < 0 → (zGv o 970 mdX3_readOrder [.ref (z_adr o (16, 0, 0))] S5 (fun S9 => zG o 970 mdX3_readOrders 32 [(0, .ref (z_adr o (16, 0, 0))), (1, .int (x1 + 1))] [] S9 Q))))))))) : zG o 970 mdX3_readOrders 32 [(0, .ref (z_adr o (16, 0, 0))), (1, .int x1)] [] S Q := by
  show zJ o mdX3_readOrders 32 _ [] (970, z_enc o S) 0 0 _
  refine zJ.iload_n (pc := 32) 1 dX3_readOrders_32 rfl rfl ?_
  refine zJ.bipush (pc := 33) (v := 120) dX3_readOrders_33 (by decide) ?_
  refine zJ.icmp_ge (pc := 35) (tgt := 63) dX3_readOrders_35 (by decide) (fun c1 => ?_) (fun c1 => ?_)
  · replace h := h.1 c1
    refine zJ.aload_n (pc := 63) 0 dX3_readOrders_63 rfl rfl ?_
    refine zE.getI (pc := 64) (fd_16_7 o) ok_16 kiX3 (Nat.le_of_ble_eq_true rfl) fl_X3_31 dX3_readOrders_64 ?_
    exact zG.ret (pc := 67) (r := some (.int (S.1 (16, 0, 0) 7))) ⟨dX3_readOrders_67, _, rfl, rfl⟩ h
  · replace h := h.2 c1
    refine zJ.aload_n (pc := 38) 0 dX3_readOrders_38 rfl rfl ?_
    refine zE.getI (pc := 39) (fd_16_7 o) ok_16 kiX3 (Nat.le_of_ble_eq_true rfl) fl_X3_31 dX3_readOrders_39 ?_
    refine zJ.iconst (pc := 42) (v := (-1)) dX3_readOrders_42 (by decide) ?_
    refine zJ.icmp_ne (pc := 43) (tgt := 63) dX3_readOrders_43 (by decide) (fun c2 => ?_) (fun c2 => ?_)
    · replace h := h.1 c2
      refine zJ.aload_n (pc := 63) 0 dX3_readOrders_63 rfl rfl ?_
      refine zE.getI (pc := 64) (fd_16_7 o) ok_16 kiX3 (Nat.le_of_ble_eq_true rfl) fl_X3_31 dX3_readOrders_64 ?_
      exact zG.ret (pc := 67) (r := some (.int (S.1 (16, 0, 0) 7))) ⟨dX3_readOrders_67, _, rfl, rfl⟩ h
    · replace h := h.2 c2
      refine zJ.aload_n (pc := 46) 0 dX3_readOrders_46 rfl rfl ?_
      refine zG.callVi (d := mdX3_readOrders) (pc := 47) [] [] (ob_16 o) ok_16 rfl dX3_readOrders_47 ⟨(cb_X3_peek).1, (cb_X3_peek).2, (Nat.le_of_ble_eq_true rfl), (Nat.le_of_ble_eq_true rfl)⟩ ml_X3_34 ci_X3_peek cv_X3_peek rfl (Nat.le_of_ble_eq_true rfl) (Nat.le_of_ble_eq_true rfl) rfl h (fun r4 S5 h2 => ?_)
      replace h := h2
      clear h2
      refine zJ.if_lt (pc := 50) (tgt := 63) dX3_readOrders_50 (by decide) (fun c6 => ?_) (fun c6 => ?_)
      · replace h := h.1 c6
        refine zJ.aload_n (pc := 63) 0 dX3_readOrders_63 rfl rfl ?_
        refine zE.getI (pc := 64) (fd_16_7 o) ok_16 kiX3 (Nat.le_of_ble_eq_true rfl) fl_X3_31 dX3_readOrders_64 ?_
        exact zG.ret (pc := 67) (r := some (.int (S5.1 (16, 0, 0) 7))) ⟨dX3_readOrders_67, _, rfl, rfl⟩ h
      · replace h := h.2 c6
        refine zJ.aload_n (pc := 53) 0 dX3_readOrders_53 rfl rfl ?_
        refine zG.callVv (d := mdX3_readOrders) (pc := 54) [] [] (ob_16 o) ok_16 rfl dX3_readOrders_54 ⟨(cb_X3_readOrder).1, (cb_X3_readOrder).2, (Nat.le_of_ble_eq_true rfl), (Nat.le_of_ble_eq_true rfl)⟩ ml_X3_38 ci_X3_readOrder cv_X3_readOrder rfl (Nat.le_of_ble_eq_true rfl) (Nat.le_of_ble_eq_true rfl) rfl h (fun S9 h2 => ?_)
        replace h := h2
        clear h2
        refine zJ.iinc (pc := 57) (k := 1) (lv' := [(1, .int (x1 + 1)), (0, .ref (z_adr o (16, 0, 0)))]) dX3_readOrders_57 rfl rfl (Nat.le_of_ble_eq_true rfl) rfl ?_
        refine zJ.goto (pc := 60) (tgt := 32) dX3_readOrders_60 (by decide) ?_
        exact zJ.sub [1, 0] rfl h
set_option maxRecDepth 100000 in
set_option maxHeartbeats 4000000 in
theorem w_X3_peek_0 (o : zW)  (S : zS) (Q : Option Value → zS → Prop) (h : zG o 970 mdX3_peek 2 [(0, .ref (z_adr o (16, 0, 0))), (1, .int 0)] [] S Q) : zG o 970 mdX3_peek 0 [(0, .ref (z_adr o (16, 0, 0)))] [] S Q := by
  show zJ o mdX3_peek 0 _ [] (970, z_enc o S) 0 0 _
  refine zJ.iconst (pc := 0) (v := 0) dX3_peek_0 (by decide) ?_
  refine zJ.istore_n (pc := 1) (lv' := [(1, .int 0), (0, .ref (z_adr o (16, 0, 0)))]) dX3_peek_1 rfl (Nat.le_of_ble_eq_true rfl) rfl ?_
  exact zJ.sub [1, 0] rfl h
set_option maxRecDepth 100000 in
set_option maxHeartbeats 4000000 in
theorem w_X3_peek_2 (o : zW) (x1 : Int32) (S : zS) (Q : Option Value → zS → Prop) (h : (120 ≤ x1 → (zGi o 970 mdX3_byteAt [.ref (z_adr o (16, 0, 0)), .int (S.1 (16, 0, 0) 6)] S (fun r3 S4 => Q (some (.int r3)) S4))) ∧ (¬ 120 ≤ x1 → (zGi o 970 mdX3_byteAt [.ref (z_adr o (16, 0, 0)), .int (S.1 (16, 0, 0) 6)] S (fun r6 S7 => (¬ r6 = 32 → (zGi o 970 mdX3_byteAt [.ref (z_adr o (16, 0, 0)), .int (S7.1 (16, 0, 0) 6)] S7 (fun r10 S11 => Q (some (.int r10)) S11))) ∧ (r6 = 32 → (zG o 970 mdX3_peek 2 [(0, .ref (z_adr o (16, 0, 0))), (1, .int (x1 + 1))] [] (sI S7 (16, 0, 0) 6 ((S7.1 (16, 0, 0) 6) + 1)) Q)))))) : zG o 970 mdX3_peek 2 [(0, .ref (z_adr o (16, 0, 0))), (1, .int x1)] [] S Q := by
  show zJ o mdX3_peek 2 _ [] (970, z_enc o S) 0 0 _
  refine zJ.iload_n (pc := 2) 1 dX3_peek_2 rfl rfl ?_
  refine zJ.bipush (pc := 3) (v := 120) dX3_peek_3 (by decide) ?_
  refine zJ.icmp_ge (pc := 5) (tgt := 37) dX3_peek_5 (by decide) (fun c1 => ?_) (fun c1 => ?_)
  · replace h := h.1 c1
    refine zJ.aload_n (pc := 37) 0 dX3_peek_37 rfl rfl ?_
    refine zJ.aload_n (pc := 38) 0 dX3_peek_38 rfl rfl ?_
    refine zE.getI (pc := 39) (fd_16_6 o) ok_16 kiX3 (Nat.le_of_ble_eq_true rfl) fl_X3_28 dX3_peek_39 ?_
    refine zG.callVi (d := mdX3_peek) (pc := 42) [.int (S.1 (16, 0, 0) 6)] [] (ob_16 o) ok_16 rfl dX3_peek_42 ⟨(cb_X3_byteAt).1, (cb_X3_byteAt).2, (Nat.le_of_ble_eq_true rfl), (Nat.le_of_ble_eq_true rfl)⟩ ml_X3_41 ci_X3_byteAt cv_X3_byteAt rfl (Nat.le_of_ble_eq_true rfl) (Nat.le_of_ble_eq_true rfl) rfl h (fun r3 S4 h2 => ?_)
    replace h := h2
    clear h2
    exact zG.ret (pc := 45) (r := some (.int r3)) ⟨dX3_peek_45, _, rfl, rfl⟩ h
  · replace h := h.2 c1
    refine zJ.aload_n (pc := 8) 0 dX3_peek_8 rfl rfl ?_
    refine zJ.aload_n (pc := 9) 0 dX3_peek_9 rfl rfl ?_
    refine zE.getI (pc := 10) (fd_16_6 o) ok_16 kiX3 (Nat.le_of_ble_eq_true rfl) fl_X3_28 dX3_peek_10 ?_
    refine zG.callVi (d := mdX3_peek) (pc := 13) [.int (S.1 (16, 0, 0) 6)] [] (ob_16 o) ok_16 rfl dX3_peek_13 ⟨(cb_X3_byteAt).1, (cb_X3_byteAt).2, (Nat.le_of_ble_eq_true rfl), (Nat.le_of_ble_eq_true rfl)⟩ ml_X3_41 ci_X3_byteAt cv_X3_byteAt rfl (Nat.le_of_ble_eq_true rfl) (Nat.le_of_ble_eq_true rfl) rfl h (fun r6 S7 h2 => ?_)
    replace h := h2
    clear h2
    refine zJ.bipush (pc := 16) (v := 32) dX3_peek_16 (by decide) ?_
    refine zJ.icmp_ne (pc := 18) (tgt := 37) dX3_peek_18 (by decide) (fun c8 => ?_) (fun c8 => ?_)
    · replace h := h.1 c8
      refine zJ.aload_n (pc := 37) 0 dX3_peek_37 rfl rfl ?_
      refine zJ.aload_n (pc := 38) 0 dX3_peek_38 rfl rfl ?_
      refine zE.getI (pc := 39) (fd_16_6 o) ok_16 kiX3 (Nat.le_of_ble_eq_true rfl) fl_X3_28 dX3_peek_39 ?_
      refine zG.callVi (d := mdX3_peek) (pc := 42) [.int (S7.1 (16, 0, 0) 6)] [] (ob_16 o) ok_16 rfl dX3_peek_42 ⟨(cb_X3_byteAt).1, (cb_X3_byteAt).2, (Nat.le_of_ble_eq_true rfl), (Nat.le_of_ble_eq_true rfl)⟩ ml_X3_41 ci_X3_byteAt cv_X3_byteAt rfl (Nat.le_of_ble_eq_true rfl) (Nat.le_of_ble_eq_true rfl) rfl h (fun r10 S11 h2 => ?_)
      replace h := h2
      clear h2
      exact zG.ret (pc := 45) (r := some (.int r10)) ⟨dX3_peek_45, _, rfl, rfl⟩ h
    · replace h := h.2 c8
      refine zJ.aload_n (pc := 21) 0 dX3_peek_21 rfl rfl ?_
      refine zJ.dup (pc := 22) dX3_peek_22 rfl ?_
      refine zE.getI (pc := 23) (fd_16_6 o) ok_16 kiX3 (Nat.le_of_ble_eq_true rfl) fl_X3_28 dX3_peek_23 ?_
      refine zJ.iconst (pc := 26) (v := 1) dX3_peek_26 (by decide) ?_
      refine zJ.iadd (pc := 27) dX3_peek_27 ?_
      refine zE.putI (pc := 28) (fd_16_6 o) ok_16 kiX3 (Nat.le_of_ble_eq_true rfl) fl_X3_28 rfl rfl dX3_peek_28 ?_
      refine zJ.iinc (pc := 31) (k := 1) (lv' := [(1, .int (x1 + 1)), (0, .ref (z_adr o (16, 0, 0)))]) dX3_peek_31 rfl rfl (Nat.le_of_ble_eq_true rfl) rfl ?_
      refine zJ.goto (pc := 34) (tgt := 2) dX3_peek_34 (by decide) ?_
      exact zJ.sub [1, 0] rfl h
set_option maxRecDepth 100000 in
set_option maxHeartbeats 4000000 in
theorem w_X3_byteAt_0 (o : zW) (x1 : Int32) (S : zS) (Q : Option Value → zS → Prop) (h : (x1 < 0 → (Q (some (.int (-1))) S)) ∧ (¬ x1 < 0 → (((S.1 (16, 0, 0) 4) ≤ x1 → (Q (some (.int (-1))) S)) ∧ (¬ (S.1 (16, 0, 0) 4) ≤ x1 → ((120 ≤ x1 → (Q (some (.int (-1))) S)) ∧ (¬ 120 ≤ x1 → (vp_in x1 120 ∧ (Q (some (.int (S.1 (17, 0, 0) x1.toNatClampNeg))) S)))))))) : zG o 970 mdX3_byteAt 0 [(0, .ref (z_adr o (16, 0, 0))), (1, .int x1)] [] S Q := by
  show zJ o mdX3_byteAt 0 _ [] (970, z_enc o S) 0 0 _
  refine zJ.iload_n (pc := 0) 1 dX3_byteAt_0 rfl rfl ?_
  refine zJ.if_lt (pc := 1) (tgt := 27) dX3_byteAt_1 (by decide) (fun c1 => ?_) (fun c1 => ?_)
  · replace h := h.1 c1
    refine zJ.iconst (pc := 27) (v := (-1)) dX3_byteAt_27 (by decide) ?_
    exact zG.ret (pc := 28) (r := some (.int (-1))) ⟨dX3_byteAt_28, _, rfl, rfl⟩ h
  · replace h := h.2 c1
    refine zJ.iload_n (pc := 4) 1 dX3_byteAt_4 rfl rfl ?_
    refine zJ.aload_n (pc := 5) 0 dX3_byteAt_5 rfl rfl ?_
    refine zE.getI (pc := 6) (fd_16_4 o) ok_16 kiX3 (Nat.le_of_ble_eq_true rfl) fl_X3_45 dX3_byteAt_6 ?_
    refine zJ.icmp_ge (pc := 9) (tgt := 27) dX3_byteAt_9 (by decide) (fun c2 => ?_) (fun c2 => ?_)
    · replace h := h.1 c2
      refine zJ.iconst (pc := 27) (v := (-1)) dX3_byteAt_27 (by decide) ?_
      exact zG.ret (pc := 28) (r := some (.int (-1))) ⟨dX3_byteAt_28, _, rfl, rfl⟩ h
    · replace h := h.2 c2
      refine zJ.iload_n (pc := 12) 1 dX3_byteAt_12 rfl rfl ?_
      refine zJ.bipush (pc := 13) (v := 120) dX3_byteAt_13 (by decide) ?_
      refine zJ.icmp_ge (pc := 15) (tgt := 27) dX3_byteAt_15 (by decide) (fun c3 => ?_) (fun c3 => ?_)
      · replace h := h.1 c3
        refine zJ.iconst (pc := 27) (v := (-1)) dX3_byteAt_27 (by decide) ?_
        exact zG.ret (pc := 28) (r := some (.int (-1))) ⟨dX3_byteAt_28, _, rfl, rfl⟩ h
      · replace h := h.2 c3
        refine zJ.aload_n (pc := 18) 0 dX3_byteAt_18 rfl rfl ?_
        refine zE.getV (pc := 19) (fd_16_0 o) ok_16 kiX3 (Nat.le_of_ble_eq_true rfl) fl_X3_9 dX3_byteAt_19 ?_
        refine zJ.iload_n (pc := 22) 1 dX3_byteAt_22 rfl rfl ?_
        obtain ⟨hq, h⟩ := h
        refine zE.aldI (pc := 23) (ia_17 o) ok_17 hq dX3_byteAt_23 ?_
        refine zJ.goto (pc := 24) (tgt := 28) dX3_byteAt_24 (by decide) ?_
        exact zG.ret (pc := 28) (r := some (.int (S.1 (17, 0, 0) x1.toNatClampNeg))) ⟨dX3_byteAt_28, _, rfl, rfl⟩ h
set_option maxRecDepth 100000 in
set_option maxHeartbeats 4000000 in
theorem w_X3_readOrder_0 (o : zW)  (S : zS) (Q : Option Value → zS → Prop) (h : zGi o 970 mdX3_peek [.ref (z_adr o (16, 0, 0))] S (fun r2 S3 => (r2 < 97 → ((¬ r2 = 33 → ((¬ r2 = 35 → ((¬ ((sI S3 (16, 0, 0) 7 (S3.1 (16, 0, 0) 6)).1 (16, 0, 0) 7) = (-1) → (∀ y8 : Int32, y8 = (((sI S3 (16, 0, 0) 7 (S3.1 (16, 0, 0) 6)).1 (16, 0, 0) 6) + 1) → (Q none (sI (sI S3 (16, 0, 0) 7 (S3.1 (16, 0, 0) 6)) (16, 0, 0) 6 y8)))) ∧ (((sI S3 (16, 0, 0) 7 (S3.1 (16, 0, 0) 6)).1 (16, 0, 0) 7) = (-1) → (zGi o 970 mdX3_peek [.ref (z_adr o (16, 0, 0))] (sI S3 (16, 0, 0) 7 (S3.1 (16, 0, 0) 6)) (fun r10 S11 => (r10 = 59 → (Q none (sI S11 (16, 0, 0) 6 ((S11.1 (16, 0, 0) 6) + 1)))) ∧ (¬ r10 = 59 → (∀ y13 : Int32, y13 = (((sI S11 (16, 0, 0) 7 (S11.1 (16, 0, 0) 6)).1 (16, 0, 0) 6) + 1) → (Q none (sI (sI S11 (16, 0, 0) 7 (S11.1 (16, 0, 0) 6)) (16, 0, 0) 6 y13))))))))) ∧ (r2 = 35 → (zGi o 970 mdX3_readNumber [.ref (z_adr o (16, 0, 0))] (sI S3 (16, 0, 0) 6 ((S3.1 (16, 0, 0) 6) + 1)) (fun r15 S16 => zGv o 970 mdX3_addOrder [.ref (z_adr o (16, 0, 0)), .int (-2), .int 0, .int r15] S16 (fun S19 => (¬ (S19.1 (16, 0, 0) 7) = (-1) → (Q none (sI S19 (16, 0, 0) 6 ((S19.1 (16, 0, 0) 6) + 1)))) ∧ ((S19.1 (16, 0, 0) 7) = (-1) → (zGi o 970 mdX3_peek [.ref (z_adr o (16, 0, 0))] S19 (fun r22 S23 => (r22 = 59 → (Q none (sI S23 (16, 0, 0) 6 ((S23.1 (16, 0, 0) 6) + 1)))) ∧ (¬ r22 = 59 → (∀ y25 : Int32, y25 = (((sI S23 (16, 0, 0) 7 (S23.1 (16, 0, 0) 6)).1 (16, 0, 0) 6) + 1) → (Q none (sI (sI S23 (16, 0, 0) 7 (S23.1 (16, 0, 0) 6)) (16, 0, 0) 6 y25))))))))))))) ∧ (r2 = 33 → (zGv o 970 mdX3_addOrder [.ref (z_adr o (16, 0, 0)), .int (-1), .int 0, .int 0] (sI S3 (16, 0, 0) 6 ((S3.1 (16, 0, 0) 6) + 1)) (fun S28 => (¬ (S28.1 (16, 0, 0) 7) = (-1) → (Q none (sI S28 (16, 0, 0) 6 ((S28.1 (16, 0, 0) 6) + 1)))) ∧ ((S28.1 (16, 0, 0) 7) = (-1) → (zGi o 970 mdX3_peek [.ref (z_adr o (16, 0, 0))] S28 (fun r31 S32 => (r31 = 59 → (Q none (sI S32 (16, 0, 0) 6 ((S32.1 (16, 0, 0) 6) + 1)))) ∧ (¬ r31 = 59 → (∀ y34 : Int32, y34 = (((sI S32 (16, 0, 0) 7 (S32.1 (16, 0, 0) 6)).1 (16, 0, 0) 6) + 1) → (Q none (sI (sI S32 (16, 0, 0) 7 (S32.1 (16, 0, 0) 6)) (16, 0, 0) 6 y34)))))))))))) ∧ (¬ r2 < 97 → ((112 < r2 → ((¬ r2 = 33 → ((¬ r2 = 35 → ((¬ ((sI S3 (16, 0, 0) 7 (S3.1 (16, 0, 0) 6)).1 (16, 0, 0) 7) = (-1) → (∀ y39 : Int32, y39 = (((sI S3 (16, 0, 0) 7 (S3.1 (16, 0, 0) 6)).1 (16, 0, 0) 6) + 1) → (Q none (sI (sI S3 (16, 0, 0) 7 (S3.1 (16, 0, 0) 6)) (16, 0, 0) 6 y39)))) ∧ (((sI S3 (16, 0, 0) 7 (S3.1 (16, 0, 0) 6)).1 (16, 0, 0) 7) = (-1) → (zGi o 970 mdX3_peek [.ref (z_adr o (16, 0, 0))] (sI S3 (16, 0, 0) 7 (S3.1 (16, 0, 0) 6)) (fun r41 S42 => (r41 = 59 → (Q none (sI S42 (16, 0, 0) 6 ((S42.1 (16, 0, 0) 6) + 1)))) ∧ (¬ r41 = 59 → (∀ y44 : Int32, y44 = (((sI S42 (16, 0, 0) 7 (S42.1 (16, 0, 0) 6)).1 (16, 0, 0) 6) + 1) → (Q none (sI (sI S42 (16, 0, 0) 7 (S42.1 (16, 0, 0) 6)) (16, 0, 0) 6 y44))))))))) ∧ (r2 = 35 → (zGi o 970 mdX3_readNumber [.ref (z_adr o (16, 0, 0))] (sI S3 (16, 0, 0) 6 ((S3.1 (16, 0, 0) 6) + 1)) (fun r46 S47 => zGv o 970 mdX3_addOrder [.ref (z_adr o (16, 0, 0)), .int (-2), .int 0, .int r46] S47 (fun S50 => (¬ (S50.1 (16, 0, 0) 7) = (-1) → (Q none (sI S50 (16, 0, 0) 6 ((S50.1 (16, 0, 0) 6) + 1)))) ∧ ((S50.1 (16, 0, 0) 7) = (-1) → (zGi o 970 mdX3_peek [.ref (z_adr o (16, 0, 0))] S50 (fun r53 S54 => (r53 = 59 → (Q none (sI S54 (16, 0, 0) 6 ((S54.1 (16, 0, 0) 6) + 1)))) ∧ (¬ r53 = 59 → (∀ y56 : Int32, y56 = (((sI S54 (16, 0, 0) 7 (S54.1 (16, 0, 0) 6)).1 (16, 0, 0) 6) + 1) → (Q none (sI (sI S54 (16, 0, 0) 7 (S54.1 (16, 0, 0) 6)) (16, 0, 0) 6 y56))))))))))))) ∧ (r2 = 33 → (zGv o 970 mdX3_addOrder [.ref (z_adr o (16, 0, 0)), .int (-1), .int 0, .int 0] (sI S3 (16, 0, 0) 6 ((S3.1 (16, 0, 0) 6) + 1)) (fun S59 => (¬ (S59.1 (16, 0, 0) 7) = (-1) → (Q none (sI S59 (16, 0, 0) 6 ((S59.1 (16, 0, 0) 6) + 1)))) ∧ ((S59.1 (16, 0, 0) 7) = (-1) → (zGi o 970 mdX3_peek [.ref (z_adr o (16, 0, 0))] S59 (fun r62 S63 => (r62 = 59 → (Q none (sI S63 (16, 0, 0) 6 ((S63.1 (16, 0, 0) 6) + 1)))) ∧ (¬ r62 = 59 → (∀ y65 : Int32, y65 = (((sI S63 (16, 0, 0) 7 (S63.1 (16, 0, 0) 6)).1 (16, 0, 0) 6) + 1) → (Q none (sI (sI S63 (16, 0, 0) 7 (S63.1 (16, 0, 0) 6)) (16, 0, 0) 6 y65)))))))))))) ∧ (¬ 112 < r2 → (zGv o 970 mdX3_readAsking [.ref (z_adr o (16, 0, 0)), .int (r2 - 97)] (sI S3 (16, 0, 0) 6 ((S3.1 (16, 0, 0) 6) + 1)) (fun S68 => (¬ (S68.1 (16, 0, 0) 7) = (-1) → (Q none (sI S68 (16, 0, 0) 6 ((S68.1 (16, 0, 0) 6) + 1)))) ∧ ((S68.1 (16, 0, 0) 7) = (-1) → (zGi o 970 mdX3_peek [.ref (z_adr o (16, 0, 0))] S68 (fun r71 S72 => (r71 = 59 → (Q none (sI S72 (16, 0, 0) 6 ((S72.1 (16, 0, 0) 6) + 1)))) ∧ (¬ r71 = 59 → (∀ y74 : Int32, y74 = (((sI S72 (16, 0, 0) 7 (S72.1 (16, 0, 0) 6)).1 (16, 0, 0) 6) + 1) → (Q none (sI (sI S72 (16, 0, 0) 7 (S72.1 (16, 0, 0) 6)) (16, 0, 0) 6 y74)))))))))))))) : zG o 970 mdX3_readOrder 0 [(0, .ref (z_adr o (16, 0, 0)))] [] S Q := by
  show zJ o mdX3_readOrder 0 _ [] (970, z_enc o S) 0 0 _
  refine zJ.aload_n (pc := 0) 0 dX3_readOrder_0 rfl rfl ?_
  refine zG.callVi (d := mdX3_readOrder) (pc := 1) [] [] (ob_16 o) ok_16 rfl dX3_readOrder_1 ⟨(cb_X3_peek).1, (cb_X3_peek).2, (Nat.le_of_ble_eq_true rfl), (Nat.le_of_ble_eq_true rfl)⟩ ml_X3_34 ci_X3_peek cv_X3_peek rfl (Nat.le_of_ble_eq_true rfl) (Nat.le_of_ble_eq_true rfl) rfl h (fun r2 S3 h2 => ?_)
  replace h := h2
  clear h2
  refine zJ.istore_n (pc := 4) (lv' := [(1, .int r2), (0, .ref (z_adr o (16, 0, 0)))]) dX3_readOrder_4 rfl (Nat.le_of_ble_eq_true rfl) rfl ?_
  refine zJ.iload_n (pc := 5) 0 dX3_readOrder_5 rfl rfl ?_
  refine zJ.bipush (pc := 6) (v := 97) dX3_readOrder_6 (by decide) ?_
  refine zJ.icmp_lt (pc := 8) (tgt := 38) dX3_readOrder_8 (by decide) (fun c4 => ?_) (fun c4 => ?_)
  · replace h := h.1 c4
    refine zJ.iload_n (pc := 38) 0 dX3_readOrder_38 rfl rfl ?_
    refine zJ.bipush (pc := 39) (v := 33) dX3_readOrder_39 (by decide) ?_
    refine zJ.icmp_ne (pc := 41) (tgt := 64) dX3_readOrder_41 (by decide) (fun c5 => ?_) (fun c5 => ?_)
    · replace h := h.1 c5
      refine zJ.iload_n (pc := 64) 0 dX3_readOrder_64 rfl rfl ?_
      refine zJ.bipush (pc := 65) (v := 35) dX3_readOrder_65 (by decide) ?_
      refine zJ.icmp_ne (pc := 67) (tgt := 94) dX3_readOrder_67 (by decide) (fun c6 => ?_) (fun c6 => ?_)
      · replace h := h.1 c6
        refine zJ.aload_n (pc := 94) 1 dX3_readOrder_94 rfl rfl ?_
        refine zJ.aload_n (pc := 95) 1 dX3_readOrder_95 rfl rfl ?_
        refine zE.getI (pc := 96) (fd_16_6 o) ok_16 kiX3 (Nat.le_of_ble_eq_true rfl) fl_X3_28 dX3_readOrder_96 ?_
        refine zE.putI (pc := 99) (fd_16_7 o) ok_16 kiX3 (Nat.le_of_ble_eq_true rfl) fl_X3_31 rfl rfl dX3_readOrder_99 ?_
        refine zJ.aload_n (pc := 102) 1 dX3_readOrder_102 rfl rfl ?_
        refine zE.getI (pc := 103) (fd_16_7 o) ok_16 kiX3 (Nat.le_of_ble_eq_true rfl) fl_X3_31 dX3_readOrder_103 ?_
        refine zJ.iconst (pc := 106) (v := (-1)) dX3_readOrder_106 (by decide) ?_
        refine zJ.icmp_ne (pc := 107) (tgt := 127) dX3_readOrder_107 (by decide) (fun c7 => ?_) (fun c7 => ?_)
        · replace h := h.1 c7
          refine zJ.aload_n (pc := 127) 1 dX3_readOrder_127 rfl rfl ?_
          refine zJ.dup (pc := 128) dX3_readOrder_128 rfl ?_
          refine zE.getI (pc := 129) (fd_16_6 o) ok_16 kiX3 (Nat.le_of_ble_eq_true rfl) fl_X3_28 dX3_readOrder_129 ?_
          refine zJ.iconst (pc := 132) (v := 1) dX3_readOrder_132 (by decide) ?_
          refine zJ.iadd (pc := 133) dX3_readOrder_133 ?_
          refine zJ.topi (fun y8 hyy8 => ?_)
          replace h := h y8 hyy8
          refine zE.putI (pc := 134) (fd_16_6 o) ok_16 kiX3 (Nat.le_of_ble_eq_true rfl) fl_X3_28 rfl rfl dX3_readOrder_134 ?_
          exact zG.ret (pc := 137) (r := none) ⟨dX3_readOrder_137, rfl⟩ h
        · replace h := h.2 c7
          refine zJ.aload_n (pc := 110) 1 dX3_readOrder_110 rfl rfl ?_
          refine zG.callVi (d := mdX3_readOrder) (pc := 111) [] [] (ob_16 o) ok_16 rfl dX3_readOrder_111 ⟨(cb_X3_peek).1, (cb_X3_peek).2, (Nat.le_of_ble_eq_true rfl), (Nat.le_of_ble_eq_true rfl)⟩ ml_X3_34 ci_X3_peek cv_X3_peek rfl (Nat.le_of_ble_eq_true rfl) (Nat.le_of_ble_eq_true rfl) rfl h (fun r10 S11 h2 => ?_)
          replace h := h2
          clear h2
          refine zJ.bipush (pc := 114) (v := 59) dX3_readOrder_114 (by decide) ?_
          refine zJ.icmp_eq (pc := 116) (tgt := 127) dX3_readOrder_116 (by decide) (fun c12 => ?_) (fun c12 => ?_)
          · replace h := h.1 c12
            refine zJ.aload_n (pc := 127) 1 dX3_readOrder_127 rfl rfl ?_
            refine zJ.dup (pc := 128) dX3_readOrder_128 rfl ?_
            refine zE.getI (pc := 129) (fd_16_6 o) ok_16 kiX3 (Nat.le_of_ble_eq_true rfl) fl_X3_28 dX3_readOrder_129 ?_
            refine zJ.iconst (pc := 132) (v := 1) dX3_readOrder_132 (by decide) ?_
            refine zJ.iadd (pc := 133) dX3_readOrder_133 ?_
            refine zE.putI (pc := 134) (fd_16_6 o) ok_16 kiX3 (Nat.le_of_ble_eq_true rfl) fl_X3_28 rfl rfl dX3_readOrder_134 ?_
            exact zG.ret (pc := 137) (r := none) ⟨dX3_readOrder_137, rfl⟩ h
          · replace h := h.2 c12
            refine zJ.aload_n (pc := 119) 1 dX3_readOrder_119 rfl rfl ?_
            refine zJ.aload_n (pc := 120) 1 dX3_readOrder_120 rfl rfl ?_
            refine zE.getI (pc := 121) (fd_16_6 o) ok_16 kiX3 (Nat.le_of_ble_eq_true rfl) fl_X3_28 dX3_readOrder_121 ?_
            refine zE.putI (pc := 124) (fd_16_7 o) ok_16 kiX3 (Nat.le_of_ble_eq_true rfl) fl_X3_31 rfl rfl dX3_readOrder_124 ?_
            refine zJ.aload_n (pc := 127) 1 dX3_readOrder_127 rfl rfl ?_
            refine zJ.dup (pc := 128) dX3_readOrder_128 rfl ?_
            refine zE.getI (pc := 129) (fd_16_6 o) ok_16 kiX3 (Nat.le_of_ble_eq_true rfl) fl_X3_28 dX3_readOrder_129 ?_
            refine zJ.iconst (pc := 132) (v := 1) dX3_readOrder_132 (by decide) ?_
            refine zJ.iadd (pc := 133) dX3_readOrder_133 ?_
            refine zJ.topi (fun y13 hyy13 => ?_)
            replace h := h y13 hyy13
            refine zE.putI (pc := 134) (fd_16_6 o) ok_16 kiX3 (Nat.le_of_ble_eq_true rfl) fl_X3_28 rfl rfl dX3_readOrder_134 ?_
            exact zG.ret (pc := 137) (r := none) ⟨dX3_readOrder_137, rfl⟩ h
      · replace h := h.2 c6
        refine zJ.aload_n (pc := 70) 1 dX3_readOrder_70 rfl rfl ?_
        refine zJ.dup (pc := 71) dX3_readOrder_71 rfl ?_
        refine zE.getI (pc := 72) (fd_16_6 o) ok_16 kiX3 (Nat.le_of_ble_eq_true rfl) fl_X3_28 dX3_readOrder_72 ?_
        refine zJ.iconst (pc := 75) (v := 1) dX3_readOrder_75 (by decide) ?_
        refine zJ.iadd (pc := 76) dX3_readOrder_76 ?_
        refine zE.putI (pc := 77) (fd_16_6 o) ok_16 kiX3 (Nat.le_of_ble_eq_true rfl) fl_X3_28 rfl rfl dX3_readOrder_77 ?_
        refine zJ.aload_n (pc := 80) 1 dX3_readOrder_80 rfl rfl ?_
        refine zJ.bipush (pc := 81) (v := (-2)) dX3_readOrder_81 (by decide) ?_
        refine zJ.iconst (pc := 83) (v := 0) dX3_readOrder_83 (by decide) ?_
        refine zJ.aload_n (pc := 84) 1 dX3_readOrder_84 rfl rfl ?_
        refine zG.callVi (d := mdX3_readOrder) (pc := 85) [] [.int 0, .int (-2), .ref (z_adr o (16, 0, 0))] (ob_16 o) ok_16 rfl dX3_readOrder_85 ⟨(cb_X3_readNumber).1, (cb_X3_readNumber).2, (Nat.le_of_ble_eq_true rfl), (Nat.le_of_ble_eq_true rfl)⟩ ml_X3_56 ci_X3_readNumber cv_X3_readNumber rfl (Nat.le_of_ble_eq_true rfl) (Nat.le_of_ble_eq_true rfl) rfl h (fun r15 S16 h2 => ?_)
        replace h := h2
        clear h2
        refine zG.callVv (d := mdX3_readOrder) (pc := 88) [.int (-2), .int 0, .int r15] [] (ob_16 o) ok_16 rfl dX3_readOrder_88 ⟨(cb_X3_addOrder).1, (cb_X3_addOrder).2, (Nat.le_of_ble_eq_true rfl), (Nat.le_of_ble_eq_true rfl)⟩ ml_X3_52 ci_X3_addOrder cv_X3_addOrder rfl (Nat.le_of_ble_eq_true rfl) (Nat.le_of_ble_eq_true rfl) rfl h (fun S19 h2 => ?_)
        replace h := h2
        clear h2
        refine zJ.goto (pc := 91) (tgt := 102) dX3_readOrder_91 (by decide) ?_
        refine zJ.aload_n (pc := 102) 1 dX3_readOrder_102 rfl rfl ?_
        refine zE.getI (pc := 103) (fd_16_7 o) ok_16 kiX3 (Nat.le_of_ble_eq_true rfl) fl_X3_31 dX3_readOrder_103 ?_
        refine zJ.iconst (pc := 106) (v := (-1)) dX3_readOrder_106 (by decide) ?_
        refine zJ.icmp_ne (pc := 107) (tgt := 127) dX3_readOrder_107 (by decide) (fun c20 => ?_) (fun c20 => ?_)
        · replace h := h.1 c20
          refine zJ.aload_n (pc := 127) 1 dX3_readOrder_127 rfl rfl ?_
          refine zJ.dup (pc := 128) dX3_readOrder_128 rfl ?_
          refine zE.getI (pc := 129) (fd_16_6 o) ok_16 kiX3 (Nat.le_of_ble_eq_true rfl) fl_X3_28 dX3_readOrder_129 ?_
          refine zJ.iconst (pc := 132) (v := 1) dX3_readOrder_132 (by decide) ?_
          refine zJ.iadd (pc := 133) dX3_readOrder_133 ?_
          refine zE.putI (pc := 134) (fd_16_6 o) ok_16 kiX3 (Nat.le_of_ble_eq_true rfl) fl_X3_28 rfl rfl dX3_readOrder_134 ?_
          exact zG.ret (pc := 137) (r := none) ⟨dX3_readOrder_137, rfl⟩ h
        · replace h := h.2 c20
          refine zJ.aload_n (pc := 110) 1 dX3_readOrder_110 rfl rfl ?_
          refine zG.callVi (d := mdX3_readOrder) (pc := 111) [] [] (ob_16 o) ok_16 rfl dX3_readOrder_111 ⟨(cb_X3_peek).1, (cb_X3_peek).2, (Nat.le_of_ble_eq_true rfl), (Nat.le_of_ble_eq_true rfl)⟩ ml_X3_34 ci_X3_peek cv_X3_peek rfl (Nat.le_of_ble_eq_true rfl) (Nat.le_of_ble_eq_true rfl) rfl h (fun r22 S23 h2 => ?_)
          replace h := h2
          clear h2
          refine zJ.bipush (pc := 114) (v := 59) dX3_readOrder_114 (by decide) ?_
          refine zJ.icmp_eq (pc := 116) (tgt := 127) dX3_readOrder_116 (by decide) (fun c24 => ?_) (fun c24 => ?_)
          · replace h := h.1 c24
            refine zJ.aload_n (pc := 127) 1 dX3_readOrder_127 rfl rfl ?_
            refine zJ.dup (pc := 128) dX3_readOrder_128 rfl ?_
            refine zE.getI (pc := 129) (fd_16_6 o) ok_16 kiX3 (Nat.le_of_ble_eq_true rfl) fl_X3_28 dX3_readOrder_129 ?_
            refine zJ.iconst (pc := 132) (v := 1) dX3_readOrder_132 (by decide) ?_
            refine zJ.iadd (pc := 133) dX3_readOrder_133 ?_
            refine zE.putI (pc := 134) (fd_16_6 o) ok_16 kiX3 (Nat.le_of_ble_eq_true rfl) fl_X3_28 rfl rfl dX3_readOrder_134 ?_
            exact zG.ret (pc := 137) (r := none) ⟨dX3_readOrder_137, rfl⟩ h
          · replace h := h.2 c24
            refine zJ.aload_n (pc := 119) 1 dX3_readOrder_119 rfl rfl ?_
            refine zJ.aload_n (pc := 120) 1 dX3_readOrder_120 rfl rfl ?_
            refine zE.getI (pc := 121) (fd_16_6 o) ok_16 kiX3 (Nat.le_of_ble_eq_true rfl) fl_X3_28 dX3_readOrder_121 ?_
            refine zE.putI (pc := 124) (fd_16_7 o) ok_16 kiX3 (Nat.le_of_ble_eq_true rfl) fl_X3_31 rfl rfl dX3_readOrder_124 ?_
            refine zJ.aload_n (pc := 127) 1 dX3_readOrder_127 rfl rfl ?_
            refine zJ.dup (pc := 128) dX3_readOrder_128 rfl ?_
            refine zE.getI (pc := 129) (fd_16_6 o) ok_16 kiX3 (Nat.le_of_ble_eq_true rfl) fl_X3_28 dX3_readOrder_129 ?_
            refine zJ.iconst (pc := 132) (v := 1) dX3_readOrder_132 (by decide) ?_
            refine zJ.iadd (pc := 133) dX3_readOrder_133 ?_
            refine zJ.topi (fun y25 hyy25 => ?_)
            replace h := h y25 hyy25
            refine zE.putI (pc := 134) (fd_16_6 o) ok_16 kiX3 (Nat.le_of_ble_eq_true rfl) fl_X3_28 rfl rfl dX3_readOrder_134 ?_
            exact zG.ret (pc := 137) (r := none) ⟨dX3_readOrder_137, rfl⟩ h
    · replace h := h.2 c5
      refine zJ.aload_n (pc := 44) 1 dX3_readOrder_44 rfl rfl ?_
      refine zJ.dup (pc := 45) dX3_readOrder_45 rfl ?_
      refine zE.getI (pc := 46) (fd_16_6 o) ok_16 kiX3 (Nat.le_of_ble_eq_true rfl) fl_X3_28 dX3_readOrder_46 ?_
      refine zJ.iconst (pc := 49) (v := 1) dX3_readOrder_49 (by decide) ?_
      refine zJ.iadd (pc := 50) dX3_readOrder_50 ?_
      refine zE.putI (pc := 51) (fd_16_6 o) ok_16 kiX3 (Nat.le_of_ble_eq_true rfl) fl_X3_28 rfl rfl dX3_readOrder_51 ?_
      refine zJ.aload_n (pc := 54) 1 dX3_readOrder_54 rfl rfl ?_
      refine zJ.iconst (pc := 55) (v := (-1)) dX3_readOrder_55 (by decide) ?_
      refine zJ.iconst (pc := 56) (v := 0) dX3_readOrder_56 (by decide) ?_
      refine zJ.iconst (pc := 57) (v := 0) dX3_readOrder_57 (by decide) ?_
      refine zG.callVv (d := mdX3_readOrder) (pc := 58) [.int (-1), .int 0, .int 0] [] (ob_16 o) ok_16 rfl dX3_readOrder_58 ⟨(cb_X3_addOrder).1, (cb_X3_addOrder).2, (Nat.le_of_ble_eq_true rfl), (Nat.le_of_ble_eq_true rfl)⟩ ml_X3_52 ci_X3_addOrder cv_X3_addOrder rfl (Nat.le_of_ble_eq_true rfl) (Nat.le_of_ble_eq_true rfl) rfl h (fun S28 h2 => ?_)
      replace h := h2
      clear h2
      refine zJ.goto (pc := 61) (tgt := 102) dX3_readOrder_61 (by decide) ?_
      refine zJ.aload_n (pc := 102) 1 dX3_readOrder_102 rfl rfl ?_
      refine zE.getI (pc := 103) (fd_16_7 o) ok_16 kiX3 (Nat.le_of_ble_eq_true rfl) fl_X3_31 dX3_readOrder_103 ?_
      refine zJ.iconst (pc := 106) (v := (-1)) dX3_readOrder_106 (by decide) ?_
      refine zJ.icmp_ne (pc := 107) (tgt := 127) dX3_readOrder_107 (by decide) (fun c29 => ?_) (fun c29 => ?_)
      · replace h := h.1 c29
        refine zJ.aload_n (pc := 127) 1 dX3_readOrder_127 rfl rfl ?_
        refine zJ.dup (pc := 128) dX3_readOrder_128 rfl ?_
        refine zE.getI (pc := 129) (fd_16_6 o) ok_16 kiX3 (Nat.le_of_ble_eq_true rfl) fl_X3_28 dX3_readOrder_129 ?_
        refine zJ.iconst (pc := 132) (v := 1) dX3_readOrder_132 (by decide) ?_
        refine zJ.iadd (pc := 133) dX3_readOrder_133 ?_
        refine zE.putI (pc := 134) (fd_16_6 o) ok_16 kiX3 (Nat.le_of_ble_eq_true rfl) fl_X3_28 rfl rfl dX3_readOrder_134 ?_
        exact zG.ret (pc := 137) (r := none) ⟨dX3_readOrder_137, rfl⟩ h
      · replace h := h.2 c29
        refine zJ.aload_n (pc := 110) 1 dX3_readOrder_110 rfl rfl ?_
        refine zG.callVi (d := mdX3_readOrder) (pc := 111) [] [] (ob_16 o) ok_16 rfl dX3_readOrder_111 ⟨(cb_X3_peek).1, (cb_X3_peek).2, (Nat.le_of_ble_eq_true rfl), (Nat.le_of_ble_eq_true rfl)⟩ ml_X3_34 ci_X3_peek cv_X3_peek rfl (Nat.le_of_ble_eq_true rfl) (Nat.le_of_ble_eq_true rfl) rfl h (fun r31 S32 h2 => ?_)
        replace h := h2
        clear h2
        refine zJ.bipush (pc := 114) (v := 59) dX3_readOrder_114 (by decide) ?_
        refine zJ.icmp_eq (pc := 116) (tgt := 127) dX3_readOrder_116 (by decide) (fun c33 => ?_) (fun c33 => ?_)
        · replace h := h.1 c33
          refine zJ.aload_n (pc := 127) 1 dX3_readOrder_127 rfl rfl ?_
          refine zJ.dup (pc := 128) dX3_readOrder_128 rfl ?_
          refine zE.getI (pc := 129) (fd_16_6 o) ok_16 kiX3 (Nat.le_of_ble_eq_true rfl) fl_X3_28 dX3_readOrder_129 ?_
          refine zJ.iconst (pc := 132) (v := 1) dX3_readOrder_132 (by decide) ?_
          refine zJ.iadd (pc := 133) dX3_readOrder_133 ?_
          refine zE.putI (pc := 134) (fd_16_6 o) ok_16 kiX3 (Nat.le_of_ble_eq_true rfl) fl_X3_28 rfl rfl dX3_readOrder_134 ?_
          exact zG.ret (pc := 137) (r := none) ⟨dX3_readOrder_137, rfl⟩ h
        · replace h := h.2 c33
          refine zJ.aload_n (pc := 119) 1 dX3_readOrder_119 rfl rfl ?_
          refine zJ.aload_n (pc := 120) 1 dX3_readOrder_120 rfl rfl ?_
          refine zE.getI (pc := 121) (fd_16_6 o) ok_16 kiX3 (Nat.le_of_ble_eq_true rfl) fl_X3_28 dX3_readOrder_121 ?_
          refine zE.putI (pc := 124) (fd_16_7 o) ok_16 kiX3 (Nat.le_of_ble_eq_true rfl) fl_X3_31 rfl rfl dX3_readOrder_124 ?_
          refine zJ.aload_n (pc := 127) 1 dX3_readOrder_127 rfl rfl ?_
          refine zJ.dup (pc := 128) dX3_readOrder_128 rfl ?_
          refine zE.getI (pc := 129) (fd_16_6 o) ok_16 kiX3 (Nat.le_of_ble_eq_true rfl) fl_X3_28 dX3_readOrder_129 ?_
          refine zJ.iconst (pc := 132) (v := 1) dX3_readOrder_132 (by decide) ?_
          refine zJ.iadd (pc := 133) dX3_readOrder_133 ?_
          refine zJ.topi (fun y34 hyy34 => ?_)
          replace h := h y34 hyy34
          refine zE.putI (pc := 134) (fd_16_6 o) ok_16 kiX3 (Nat.le_of_ble_eq_true rfl) fl_X3_28 rfl rfl dX3_readOrder_134 ?_
          exact zG.ret (pc := 137) (r := none) ⟨dX3_readOrder_137, rfl⟩ h
  · replace h := h.2 c4
    refine zJ.iload_n (pc := 11) 0 dX3_readOrder_11 rfl rfl ?_
    refine zJ.bipush (pc := 12) (v := 112) dX3_readOrder_12 (by decide) ?_
    refine zJ.icmp_gt (pc := 14) (tgt := 38) dX3_readOrder_14 (by decide) (fun c35 => ?_) (fun c35 => ?_)
    · replace h := h.1 c35
      refine zJ.iload_n (pc := 38) 0 dX3_readOrder_38 rfl rfl ?_
      refine zJ.bipush (pc := 39) (v := 33) dX3_readOrder_39 (by decide) ?_
      refine zJ.icmp_ne (pc := 41) (tgt := 64) dX3_readOrder_41 (by decide) (fun c36 => ?_) (fun c36 => ?_)
      · replace h := h.1 c36
        refine zJ.iload_n (pc := 64) 0 dX3_readOrder_64 rfl rfl ?_
        refine zJ.bipush (pc := 65) (v := 35) dX3_readOrder_65 (by decide) ?_
        refine zJ.icmp_ne (pc := 67) (tgt := 94) dX3_readOrder_67 (by decide) (fun c37 => ?_) (fun c37 => ?_)
        · replace h := h.1 c37
          refine zJ.aload_n (pc := 94) 1 dX3_readOrder_94 rfl rfl ?_
          refine zJ.aload_n (pc := 95) 1 dX3_readOrder_95 rfl rfl ?_
          refine zE.getI (pc := 96) (fd_16_6 o) ok_16 kiX3 (Nat.le_of_ble_eq_true rfl) fl_X3_28 dX3_readOrder_96 ?_
          refine zE.putI (pc := 99) (fd_16_7 o) ok_16 kiX3 (Nat.le_of_ble_eq_true rfl) fl_X3_31 rfl rfl dX3_readOrder_99 ?_
          refine zJ.aload_n (pc := 102) 1 dX3_readOrder_102 rfl rfl ?_
          refine zE.getI (pc := 103) (fd_16_7 o) ok_16 kiX3 (Nat.le_of_ble_eq_true rfl) fl_X3_31 dX3_readOrder_103 ?_
          refine zJ.iconst (pc := 106) (v := (-1)) dX3_readOrder_106 (by decide) ?_
          refine zJ.icmp_ne (pc := 107) (tgt := 127) dX3_readOrder_107 (by decide) (fun c38 => ?_) (fun c38 => ?_)
          · replace h := h.1 c38
            refine zJ.aload_n (pc := 127) 1 dX3_readOrder_127 rfl rfl ?_
            refine zJ.dup (pc := 128) dX3_readOrder_128 rfl ?_
            refine zE.getI (pc := 129) (fd_16_6 o) ok_16 kiX3 (Nat.le_of_ble_eq_true rfl) fl_X3_28 dX3_readOrder_129 ?_
            refine zJ.iconst (pc := 132) (v := 1) dX3_readOrder_132 (by decide) ?_
            refine zJ.iadd (pc := 133) dX3_readOrder_133 ?_
            refine zJ.topi (fun y39 hyy39 => ?_)
            replace h := h y39 hyy39
            refine zE.putI (pc := 134) (fd_16_6 o) ok_16 kiX3 (Nat.le_of_ble_eq_true rfl) fl_X3_28 rfl rfl dX3_readOrder_134 ?_
            exact zG.ret (pc := 137) (r := none) ⟨dX3_readOrder_137, rfl⟩ h
          · replace h := h.2 c38
            refine zJ.aload_n (pc := 110) 1 dX3_readOrder_110 rfl rfl ?_
            refine zG.callVi (d := mdX3_readOrder) (pc := 111) [] [] (ob_16 o) ok_16 rfl dX3_readOrder_111 ⟨(cb_X3_peek).1, (cb_X3_peek).2, (Nat.le_of_ble_eq_true rfl), (Nat.le_of_ble_eq_true rfl)⟩ ml_X3_34 ci_X3_peek cv_X3_peek rfl (Nat.le_of_ble_eq_true rfl) (Nat.le_of_ble_eq_true rfl) rfl h (fun r41 S42 h2 => ?_)
            replace h := h2
            clear h2
            refine zJ.bipush (pc := 114) (v := 59) dX3_readOrder_114 (by decide) ?_
            refine zJ.icmp_eq (pc := 116) (tgt := 127) dX3_readOrder_116 (by decide) (fun c43 => ?_) (fun c43 => ?_)
            · replace h := h.1 c43
              refine zJ.aload_n (pc := 127) 1 dX3_readOrder_127 rfl rfl ?_
              refine zJ.dup (pc := 128) dX3_readOrder_128 rfl ?_
              refine zE.getI (pc := 129) (fd_16_6 o) ok_16 kiX3 (Nat.le_of_ble_eq_true rfl) fl_X3_28 dX3_readOrder_129 ?_
              refine zJ.iconst (pc := 132) (v := 1) dX3_readOrder_132 (by decide) ?_
              refine zJ.iadd (pc := 133) dX3_readOrder_133 ?_
              refine zE.putI (pc := 134) (fd_16_6 o) ok_16 kiX3 (Nat.le_of_ble_eq_true rfl) fl_X3_28 rfl rfl dX3_readOrder_134 ?_
              exact zG.ret (pc := 137) (r := none) ⟨dX3_readOrder_137, rfl⟩ h
            · replace h := h.2 c43
              refine zJ.aload_n (pc := 119) 1 dX3_readOrder_119 rfl rfl ?_
              refine zJ.aload_n (pc := 120) 1 dX3_readOrder_120 rfl rfl ?_
              refine zE.getI (pc := 121) (fd_16_6 o) ok_16 kiX3 (Nat.le_of_ble_eq_true rfl) fl_X3_28 dX3_readOrder_121 ?_
              refine zE.putI (pc := 124) (fd_16_7 o) ok_16 kiX3 (Nat.le_of_ble_eq_true rfl) fl_X3_31 rfl rfl dX3_readOrder_124 ?_
              refine zJ.aload_n (pc := 127) 1 dX3_readOrder_127 rfl rfl ?_
              refine zJ.dup (pc := 128) dX3_readOrder_128 rfl ?_
              refine zE.getI (pc := 129) (fd_16_6 o) ok_16 kiX3 (Nat.le_of_ble_eq_true rfl) fl_X3_28 dX3_readOrder_129 ?_
              refine zJ.iconst (pc := 132) (v := 1) dX3_readOrder_132 (by decide) ?_
              refine zJ.iadd (pc := 133) dX3_readOrder_133 ?_
              refine zJ.topi (fun y44 hyy44 => ?_)
              replace h := h y44 hyy44
              refine zE.putI (pc := 134) (fd_16_6 o) ok_16 kiX3 (Nat.le_of_ble_eq_true rfl) fl_X3_28 rfl rfl dX3_readOrder_134 ?_
              exact zG.ret (pc := 137) (r := none) ⟨dX3_readOrder_137, rfl⟩ h
        · replace h := h.2 c37
          refine zJ.aload_n (pc := 70) 1 dX3_readOrder_70 rfl rfl ?_
          refine zJ.dup (pc := 71) dX3_readOrder_71 rfl ?_
          refine zE.getI (pc := 72) (fd_16_6 o) ok_16 kiX3 (Nat.le_of_ble_eq_true rfl) fl_X3_28 dX3_readOrder_72 ?_
          refine zJ.iconst (pc := 75) (v := 1) dX3_readOrder_75 (by decide) ?_
          refine zJ.iadd (pc := 76) dX3_readOrder_76 ?_
          refine zE.putI (pc := 77) (fd_16_6 o) ok_16 kiX3 (Nat.le_of_ble_eq_true rfl) fl_X3_28 rfl rfl dX3_readOrder_77 ?_
          refine zJ.aload_n (pc := 80) 1 dX3_readOrder_80 rfl rfl ?_
          refine zJ.bipush (pc := 81) (v := (-2)) dX3_readOrder_81 (by decide) ?_
          refine zJ.iconst (pc := 83) (v := 0) dX3_readOrder_83 (by decide) ?_
          refine zJ.aload_n (pc := 84) 1 dX3_readOrder_84 rfl rfl ?_
          refine zG.callVi (d := mdX3_readOrder) (pc := 85) [] [.int 0, .int (-2), .ref (z_adr o (16, 0, 0))] (ob_16 o) ok_16 rfl dX3_readOrder_85 ⟨(cb_X3_readNumber).1, (cb_X3_readNumber).2, (Nat.le_of_ble_eq_true rfl), (Nat.le_of_ble_eq_true rfl)⟩ ml_X3_56 ci_X3_readNumber cv_X3_readNumber rfl (Nat.le_of_ble_eq_true rfl) (Nat.le_of_ble_eq_true rfl) rfl h (fun r46 S47 h2 => ?_)
          replace h := h2
          clear h2
          refine zG.callVv (d := mdX3_readOrder) (pc := 88) [.int (-2), .int 0, .int r46] [] (ob_16 o) ok_16 rfl dX3_readOrder_88 ⟨(cb_X3_addOrder).1, (cb_X3_addOrder).2, (Nat.le_of_ble_eq_true rfl), (Nat.le_of_ble_eq_true rfl)⟩ ml_X3_52 ci_X3_addOrder cv_X3_addOrder rfl (Nat.le_of_ble_eq_true rfl) (Nat.le_of_ble_eq_true rfl) rfl h (fun S50 h2 => ?_)
          replace h := h2
          clear h2
          refine zJ.goto (pc := 91) (tgt := 102) dX3_readOrder_91 (by decide) ?_
          refine zJ.aload_n (pc := 102) 1 dX3_readOrder_102 rfl rfl ?_
          refine zE.getI (pc := 103) (fd_16_7 o) ok_16 kiX3 (Nat.le_of_ble_eq_true rfl) fl_X3_31 dX3_readOrder_103 ?_
          refine zJ.iconst (pc := 106) (v := (-1)) dX3_readOrder_106 (by decide) ?_
          refine zJ.icmp_ne (pc := 107) (tgt := 127) dX3_readOrder_107 (by decide) (fun c51 => ?_) (fun c51 => ?_)
          · replace h := h.1 c51
            refine zJ.aload_n (pc := 127) 1 dX3_readOrder_127 rfl rfl ?_
            refine zJ.dup (pc := 128) dX3_readOrder_128 rfl ?_
            refine zE.getI (pc := 129) (fd_16_6 o) ok_16 kiX3 (Nat.le_of_ble_eq_true rfl) fl_X3_28 dX3_readOrder_129 ?_
            refine zJ.iconst (pc := 132) (v := 1) dX3_readOrder_132 (by decide) ?_
            refine zJ.iadd (pc := 133) dX3_readOrder_133 ?_
            refine zE.putI (pc := 134) (fd_16_6 o) ok_16 kiX3 (Nat.le_of_ble_eq_true rfl) fl_X3_28 rfl rfl dX3_readOrder_134 ?_
            exact zG.ret (pc := 137) (r := none) ⟨dX3_readOrder_137, rfl⟩ h
          · replace h := h.2 c51
            refine zJ.aload_n (pc := 110) 1 dX3_readOrder_110 rfl rfl ?_
            refine zG.callVi (d := mdX3_readOrder) (pc := 111) [] [] (ob_16 o) ok_16 rfl dX3_readOrder_111 ⟨(cb_X3_peek).1, (cb_X3_peek).2, (Nat.le_of_ble_eq_true rfl), (Nat.le_of_ble_eq_true rfl)⟩ ml_X3_34 ci_X3_peek cv_X3_peek rfl (Nat.le_of_ble_eq_true rfl) (Nat.le_of_ble_eq_true rfl) rfl h (fun r53 S54 h2 => ?_)
            replace h := h2
            clear h2
            refine zJ.bipush (pc := 114) (v := 59) dX3_readOrder_114 (by decide) ?_
            refine zJ.icmp_eq (pc := 116) (tgt := 127) dX3_readOrder_116 (by decide) (fun c55 => ?_) (fun c55 => ?_)
            · replace h := h.1 c55
              refine zJ.aload_n (pc := 127) 1 dX3_readOrder_127 rfl rfl ?_
              refine zJ.dup (pc := 128) dX3_readOrder_128 rfl ?_
              refine zE.getI (pc := 129) (fd_16_6 o) ok_16 kiX3 (Nat.le_of_ble_eq_true rfl) fl_X3_28 dX3_readOrder_129 ?_
              refine zJ.iconst (pc := 132) (v := 1) dX3_readOrder_132 (by decide) ?_
              refine zJ.iadd (pc := 133) dX3_readOrder_133 ?_
              refine zE.putI (pc := 134) (fd_16_6 o) ok_16 kiX3 (Nat.le_of_ble_eq_true rfl) fl_X3_28 rfl rfl dX3_readOrder_134 ?_
              exact zG.ret (pc := 137) (r := none) ⟨dX3_readOrder_137, rfl⟩ h
            · replace h := h.2 c55
              refine zJ.aload_n (pc := 119) 1 dX3_readOrder_119 rfl rfl ?_
              refine zJ.aload_n (pc := 120) 1 dX3_readOrder_120 rfl rfl ?_
              refine zE.getI (pc := 121) (fd_16_6 o) ok_16 kiX3 (Nat.le_of_ble_eq_true rfl) fl_X3_28 dX3_readOrder_121 ?_
              refine zE.putI (pc := 124) (fd_16_7 o) ok_16 kiX3 (Nat.le_of_ble_eq_true rfl) fl_X3_31 rfl rfl dX3_readOrder_124 ?_
              refine zJ.aload_n (pc := 127) 1 dX3_readOrder_127 rfl rfl ?_
              refine zJ.dup (pc := 128) dX3_readOrder_128 rfl ?_
              refine zE.getI (pc := 129) (fd_16_6 o) ok_16 kiX3 (Nat.le_of_ble_eq_true rfl) fl_X3_28 dX3_readOrder_129 ?_
              refine zJ.iconst (pc := 132) (v := 1) dX3_readOrder_132 (by decide) ?_
              refine zJ.iadd (pc := 133) dX3_readOrder_133 ?_
              refine zJ.topi (fun y56 hyy56 => ?_)
              replace h := h y56 hyy56
              refine zE.putI (pc := 134) (fd_16_6 o) ok_16 kiX3 (Nat.le_of_ble_eq_true rfl) fl_X3_28 rfl rfl dX3_readOrder_134 ?_
              exact zG.ret (pc := 137) (r := none) ⟨dX3_readOrder_137, rfl⟩ h
      · replace h := h.2 c36
        refine zJ.aload_n (pc := 44) 1 dX3_readOrder_44 rfl rfl ?_
        refine zJ.dup (pc := 45) dX3_readOrder_45 rfl ?_
        refine zE.getI (pc := 46) (fd_16_6 o) ok_16 kiX3 (Nat.le_of_ble_eq_true rfl) fl_X3_28 dX3_readOrder_46 ?_
        refine zJ.iconst (pc := 49) (v := 1) dX3_readOrder_49 (by decide) ?_
        refine zJ.iadd (pc := 50) dX3_readOrder_50 ?_
        refine zE.putI (pc := 51) (fd_16_6 o) ok_16 kiX3 (Nat.le_of_ble_eq_true rfl) fl_X3_28 rfl rfl dX3_readOrder_51 ?_
        refine zJ.aload_n (pc := 54) 1 dX3_readOrder_54 rfl rfl ?_
        refine zJ.iconst (pc := 55) (v := (-1)) dX3_readOrder_55 (by decide) ?_
        refine zJ.iconst (pc := 56) (v := 0) dX3_readOrder_56 (by decide) ?_
        refine zJ.iconst (pc := 57) (v := 0) dX3_readOrder_57 (by decide) ?_
        refine zG.callVv (d := mdX3_readOrder) (pc := 58) [.int (-1), .int 0, .int 0] [] (ob_16 o) ok_16 rfl dX3_readOrder_58 ⟨(cb_X3_addOrder).1, (cb_X3_addOrder).2, (Nat.le_of_ble_eq_true rfl), (Nat.le_of_ble_eq_true rfl)⟩ ml_X3_52 ci_X3_addOrder cv_X3_addOrder rfl (Nat.le_of_ble_eq_true rfl) (Nat.le_of_ble_eq_true rfl) rfl h (fun S59 h2 => ?_)
        replace h := h2
        clear h2
        refine zJ.goto (pc := 61) (tgt := 102) dX3_readOrder_61 (by decide) ?_
        refine zJ.aload_n (pc := 102) 1 dX3_readOrder_102 rfl rfl ?_
        refine zE.getI (pc := 103) (fd_16_7 o) ok_16 kiX3 (Nat.le_of_ble_eq_true rfl) fl_X3_31 dX3_readOrder_103 ?_
        refine zJ.iconst (pc := 106) (v := (-1)) dX3_readOrder_106 (by decide) ?_
        refine zJ.icmp_ne (pc := 107) (tgt := 127) dX3_readOrder_107 (by decide) (fun c60 => ?_) (fun c60 => ?_)
        · replace h := h.1 c60
          refine zJ.aload_n (pc := 127) 1 dX3_readOrder_127 rfl rfl ?_
          refine zJ.dup (pc := 128) dX3_readOrder_128 rfl ?_
          refine zE.getI (pc := 129) (fd_16_6 o) ok_16 kiX3 (Nat.le_of_ble_eq_true rfl) fl_X3_28 dX3_readOrder_129 ?_
          refine zJ.iconst (pc := 132) (v := 1) dX3_readOrder_132 (by decide) ?_
          refine zJ.iadd (pc := 133) dX3_readOrder_133 ?_
          refine zE.putI (pc := 134) (fd_16_6 o) ok_16 kiX3 (Nat.le_of_ble_eq_true rfl) fl_X3_28 rfl rfl dX3_readOrder_134 ?_
          exact zG.ret (pc := 137) (r := none) ⟨dX3_readOrder_137, rfl⟩ h
        · replace h := h.2 c60
          refine zJ.aload_n (pc := 110) 1 dX3_readOrder_110 rfl rfl ?_
          refine zG.callVi (d := mdX3_readOrder) (pc := 111) [] [] (ob_16 o) ok_16 rfl dX3_readOrder_111 ⟨(cb_X3_peek).1, (cb_X3_peek).2, (Nat.le_of_ble_eq_true rfl), (Nat.le_of_ble_eq_true rfl)⟩ ml_X3_34 ci_X3_peek cv_X3_peek rfl (Nat.le_of_ble_eq_true rfl) (Nat.le_of_ble_eq_true rfl) rfl h (fun r62 S63 h2 => ?_)
          replace h := h2
          clear h2
          refine zJ.bipush (pc := 114) (v := 59) dX3_readOrder_114 (by decide) ?_
          refine zJ.icmp_eq (pc := 116) (tgt := 127) dX3_readOrder_116 (by decide) (fun c64 => ?_) (fun c64 => ?_)
          · replace h := h.1 c64
            refine zJ.aload_n (pc := 127) 1 dX3_readOrder_127 rfl rfl ?_
            refine zJ.dup (pc := 128) dX3_readOrder_128 rfl ?_
            refine zE.getI (pc := 129) (fd_16_6 o) ok_16 kiX3 (Nat.le_of_ble_eq_true rfl) fl_X3_28 dX3_readOrder_129 ?_
            refine zJ.iconst (pc := 132) (v := 1) dX3_readOrder_132 (by decide) ?_
            refine zJ.iadd (pc := 133) dX3_readOrder_133 ?_
            refine zE.putI (pc := 134) (fd_16_6 o) ok_16 kiX3 (Nat.le_of_ble_eq_true rfl) fl_X3_28 rfl rfl dX3_readOrder_134 ?_
            exact zG.ret (pc := 137) (r := none) ⟨dX3_readOrder_137, rfl⟩ h
          · replace h := h.2 c64
            refine zJ.aload_n (pc := 119) 1 dX3_readOrder_119 rfl rfl ?_
            refine zJ.aload_n (pc := 120) 1 dX3_readOrder_120 rfl rfl ?_
            refine zE.getI (pc := 121) (fd_16_6 o) ok_16 kiX3 (Nat.le_of_ble_eq_true rfl) fl_X3_28 dX3_readOrder_121 ?_
            refine zE.putI (pc := 124) (fd_16_7 o) ok_16 kiX3 (Nat.le_of_ble_eq_true rfl) fl_X3_31 rfl rfl dX3_readOrder_124 ?_
            refine zJ.aload_n (pc := 127) 1 dX3_readOrder_127 rfl rfl ?_
            refine zJ.dup (pc := 128) dX3_readOrder_128 rfl ?_
            refine zE.getI (pc := 129) (fd_16_6 o) ok_16 kiX3 (Nat.le_of_ble_eq_true rfl) fl_X3_28 dX3_readOrder_129 ?_
            refine zJ.iconst (pc := 132) (v := 1) dX3_readOrder_132 (by decide) ?_
            refine zJ.iadd (pc := 133) dX3_readOrder_133 ?_
            refine zJ.topi (fun y65 hyy65 => ?_)
            replace h := h y65 hyy65
            refine zE.putI (pc := 134) (fd_16_6 o) ok_16 kiX3 (Nat.le_of_ble_eq_true rfl) fl_X3_28 rfl rfl dX3_readOrder_134 ?_
            exact zG.ret (pc := 137) (r := none) ⟨dX3_readOrder_137, rfl⟩ h
    · replace h := h.2 c35
      refine zJ.aload_n (pc := 17) 1 dX3_readOrder_17 rfl rfl ?_
      refine zJ.dup (pc := 18) dX3_readOrder_18 rfl ?_
      refine zE.getI (pc := 19) (fd_16_6 o) ok_16 kiX3 (Nat.le_of_ble_eq_true rfl) fl_X3_28 dX3_readOrder_19 ?_
      refine zJ.iconst (pc := 22) (v := 1) dX3_readOrder_22 (by decide) ?_
      refine zJ.iadd (pc := 23) dX3_readOrder_23 ?_
      refine zE.putI (pc := 24) (fd_16_6 o) ok_16 kiX3 (Nat.le_of_ble_eq_true rfl) fl_X3_28 rfl rfl dX3_readOrder_24 ?_
      refine zJ.aload_n (pc := 27) 1 dX3_readOrder_27 rfl rfl ?_
      refine zJ.iload_n (pc := 28) 0 dX3_readOrder_28 rfl rfl ?_
      refine zJ.bipush (pc := 29) (v := 97) dX3_readOrder_29 (by decide) ?_
      refine zJ.isub (pc := 31) dX3_readOrder_31 ?_
      refine zG.callVv (d := mdX3_readOrder) (pc := 32) [.int (r2 - 97)] [] (ob_16 o) ok_16 rfl dX3_readOrder_32 ⟨(cb_X3_readAsking).1, (cb_X3_readAsking).2, (Nat.le_of_ble_eq_true rfl), (Nat.le_of_ble_eq_true rfl)⟩ ml_X3_48 ci_X3_readAsking cv_X3_readAsking rfl (Nat.le_of_ble_eq_true rfl) (Nat.le_of_ble_eq_true rfl) rfl h (fun S68 h2 => ?_)
      replace h := h2
      clear h2
      refine zJ.goto (pc := 35) (tgt := 102) dX3_readOrder_35 (by decide) ?_
      refine zJ.aload_n (pc := 102) 1 dX3_readOrder_102 rfl rfl ?_
      refine zE.getI (pc := 103) (fd_16_7 o) ok_16 kiX3 (Nat.le_of_ble_eq_true rfl) fl_X3_31 dX3_readOrder_103 ?_
      refine zJ.iconst (pc := 106) (v := (-1)) dX3_readOrder_106 (by decide) ?_
      refine zJ.icmp_ne (pc := 107) (tgt := 127) dX3_readOrder_107 (by decide) (fun c69 => ?_) (fun c69 => ?_)
      · replace h := h.1 c69
        refine zJ.aload_n (pc := 127) 1 dX3_readOrder_127 rfl rfl ?_
        refine zJ.dup (pc := 128) dX3_readOrder_128 rfl ?_
        refine zE.getI (pc := 129) (fd_16_6 o) ok_16 kiX3 (Nat.le_of_ble_eq_true rfl) fl_X3_28 dX3_readOrder_129 ?_
        refine zJ.iconst (pc := 132) (v := 1) dX3_readOrder_132 (by decide) ?_
        refine zJ.iadd (pc := 133) dX3_readOrder_133 ?_
        refine zE.putI (pc := 134) (fd_16_6 o) ok_16 kiX3 (Nat.le_of_ble_eq_true rfl) fl_X3_28 rfl rfl dX3_readOrder_134 ?_
        exact zG.ret (pc := 137) (r := none) ⟨dX3_readOrder_137, rfl⟩ h
      · replace h := h.2 c69
        refine zJ.aload_n (pc := 110) 1 dX3_readOrder_110 rfl rfl ?_
        refine zG.callVi (d := mdX3_readOrder) (pc := 111) [] [] (ob_16 o) ok_16 rfl dX3_readOrder_111 ⟨(cb_X3_peek).1, (cb_X3_peek).2, (Nat.le_of_ble_eq_true rfl), (Nat.le_of_ble_eq_true rfl)⟩ ml_X3_34 ci_X3_peek cv_X3_peek rfl (Nat.le_of_ble_eq_true rfl) (Nat.le_of_ble_eq_true rfl) rfl h (fun r71 S72 h2 => ?_)
        replace h := h2
        clear h2
        refine zJ.bipush (pc := 114) (v := 59) dX3_readOrder_114 (by decide) ?_
        refine zJ.icmp_eq (pc := 116) (tgt := 127) dX3_readOrder_116 (by decide) (fun c73 => ?_) (fun c73 => ?_)
        · replace h := h.1 c73
          refine zJ.aload_n (pc := 127) 1 dX3_readOrder_127 rfl rfl ?_
          refine zJ.dup (pc := 128) dX3_readOrder_128 rfl ?_
          refine zE.getI (pc := 129) (fd_16_6 o) ok_16 kiX3 (Nat.le_of_ble_eq_true rfl) fl_X3_28 dX3_readOrder_129 ?_
          refine zJ.iconst (pc := 132) (v := 1) dX3_readOrder_132 (by decide) ?_
          refine zJ.iadd (pc := 133) dX3_readOrder_133 ?_
          refine zE.putI (pc := 134) (fd_16_6 o) ok_16 kiX3 (Nat.le_of_ble_eq_true rfl) fl_X3_28 rfl rfl dX3_readOrder_134 ?_
          exact zG.ret (pc := 137) (r := none) ⟨dX3_readOrder_137, rfl⟩ h
        · replace h := h.2 c73
          refine zJ.aload_n (pc := 119) 1 dX3_readOrder_119 rfl rfl ?_
          refine zJ.aload_n (pc := 120) 1 dX3_readOrder_120 rfl rfl ?_
          refine zE.getI (pc := 121) (fd_16_6 o) ok_16 kiX3 (Nat.le_of_ble_eq_true rfl) fl_X3_28 dX3_readOrder_121 ?_
          refine zE.putI (pc := 124) (fd_16_7 o) ok_16 kiX3 (Nat.le_of_ble_eq_true rfl) fl_X3_31 rfl rfl dX3_readOrder_124 ?_
          refine zJ.aload_n (pc := 127) 1 dX3_readOrder_127 rfl rfl ?_
          refine zJ.dup (pc := 128) dX3_readOrder_128 rfl ?_
          refine zE.getI (pc := 129) (fd_16_6 o) ok_16 kiX3 (Nat.le_of_ble_eq_true rfl) fl_X3_28 dX3_readOrder_129 ?_
          refine zJ.iconst (pc := 132) (v := 1) dX3_readOrder_132 (by decide) ?_
          refine zJ.iadd (pc := 133) dX3_readOrder_133 ?_
          refine zJ.topi (fun y74 hyy74 => ?_)
          replace h := h y74 hyy74
          refine zE.putI (pc := 134) (fd_16_6 o) ok_16 kiX3 (Nat.le_of_ble_eq_true rfl) fl_X3_28 rfl rfl dX3_readOrder_134 ?_
          exact zG.ret (pc := 137) (r := none) ⟨dX3_readOrder_137, rfl⟩ h
set_option maxRecDepth 100000 in
set_option maxHeartbeats 4000000 in
theorem w_X3_readAsking_0 (o : zW) (x1 : Int32) (S : zS) (Q : Option Value → zS → Prop) (h : zGi o 970 mdX3_peek [.ref (z_adr o (16, 0, 0))] S (fun r2 S3 => zGi o 970 mdX4_isItem [.int (r2 - 48)] S3 (fun r5 S6 => (¬ r5 = 0 → (zGi o 970 mdX3_peek [.ref (z_adr o (16, 0, 0))] (sI S6 (16, 0, 0) 6 ((S6.1 (16, 0, 0) 6) + 1)) (fun r9 S10 => (¬ r9 = 61 → (zGv o 970 mdX3_addOrder [.ref (z_adr o (16, 0, 0)), .int x1, .int (r2 - 48), .int (-1)] S10 (fun S14 => Q none S14))) ∧ (r9 = 61 → (zGi o 970 mdX3_readNumber [.ref (z_adr o (16, 0, 0))] (sI S10 (16, 0, 0) 6 ((S10.1 (16, 0, 0) 6) + 1)) (fun r16 S17 => zGv o 970 mdX3_addOrder [.ref (z_adr o (16, 0, 0)), .int x1, .int (r2 - 48), .int r16] S17 (fun S20 => Q none S20))))))) ∧ (r5 = 0 → (Q none (sI S6 (16, 0, 0) 7 (S6.1 (16, 0, 0) 6))))))) : zG o 970 mdX3_readAsking 0 [(0, .ref (z_adr o (16, 0, 0))), (1, .int x1)] [] S Q := by
  show zJ o mdX3_readAsking 0 _ [] (970, z_enc o S) 0 0 _
  refine zJ.aload_n (pc := 0) 0 dX3_readAsking_0 rfl rfl ?_
  refine zG.callVi (d := mdX3_readAsking) (pc := 1) [] [] (ob_16 o) ok_16 rfl dX3_readAsking_1 ⟨(cb_X3_peek).1, (cb_X3_peek).2, (Nat.le_of_ble_eq_true rfl), (Nat.le_of_ble_eq_true rfl)⟩ ml_X3_34 ci_X3_peek cv_X3_peek rfl (Nat.le_of_ble_eq_true rfl) (Nat.le_of_ble_eq_true rfl) rfl h (fun r2 S3 h2 => ?_)
  replace h := h2
  clear h2
  refine zJ.bipush (pc := 4) (v := 48) dX3_readAsking_4 (by decide) ?_
  refine zJ.isub (pc := 6) dX3_readAsking_6 ?_
  refine zJ.istore_n (pc := 7) (lv' := [(2, .int (r2 - 48)), (0, .ref (z_adr o (16, 0, 0))), (1, .int x1)]) dX3_readAsking_7 rfl (Nat.le_of_ble_eq_true rfl) rfl ?_
  refine zJ.iload_n (pc := 8) 0 dX3_readAsking_8 rfl rfl ?_
  refine zG.callSi (d := mdX3_readAsking) (pc := 9) [.int (r2 - 48)] [] dX3_readAsking_9 ⟨(cb_X4_isItem).1, (cb_X4_isItem).2, (Nat.le_of_ble_eq_true rfl), (Nat.le_of_ble_eq_true rfl)⟩ ml_X3_59 cs_X4_isItem rfl (Nat.le_of_ble_eq_true rfl) (Nat.le_of_ble_eq_true rfl) rfl h (fun r5 S6 h2 => ?_)
  replace h := h2
  clear h2
  refine zJ.if_ne (pc := 12) (tgt := 24) dX3_readAsking_12 (by decide) (fun c7 => ?_) (fun c7 => ?_)
  · replace h := h.1 c7
    refine zJ.aload_n (pc := 24) 1 dX3_readAsking_24 rfl rfl ?_
    refine zJ.dup (pc := 25) dX3_readAsking_25 rfl ?_
    refine zE.getI (pc := 26) (fd_16_6 o) ok_16 kiX3 (Nat.le_of_ble_eq_true rfl) fl_X3_28 dX3_readAsking_26 ?_
    refine zJ.iconst (pc := 29) (v := 1) dX3_readAsking_29 (by decide) ?_
    refine zJ.iadd (pc := 30) dX3_readAsking_30 ?_
    refine zE.putI (pc := 31) (fd_16_6 o) ok_16 kiX3 (Nat.le_of_ble_eq_true rfl) fl_X3_28 rfl rfl dX3_readAsking_31 ?_
    refine zJ.iconst (pc := 34) (v := (-1)) dX3_readAsking_34 (by decide) ?_
    refine zJ.istore_n (pc := 35) (lv' := [(3, .int (-1)), (2, .int (r2 - 48)), (0, .ref (z_adr o (16, 0, 0))), (1, .int x1)]) dX3_readAsking_35 rfl (Nat.le_of_ble_eq_true rfl) rfl ?_
    refine zJ.aload_n (pc := 36) 2 dX3_readAsking_36 rfl rfl ?_
    refine zG.callVi (d := mdX3_readAsking) (pc := 37) [] [] (ob_16 o) ok_16 rfl dX3_readAsking_37 ⟨(cb_X3_peek).1, (cb_X3_peek).2, (Nat.le_of_ble_eq_true rfl), (Nat.le_of_ble_eq_true rfl)⟩ ml_X3_34 ci_X3_peek cv_X3_peek rfl (Nat.le_of_ble_eq_true rfl) (Nat.le_of_ble_eq_true rfl) rfl h (fun r9 S10 h2 => ?_)
    replace h := h2
    clear h2
    refine zJ.bipush (pc := 40) (v := 61) dX3_readAsking_40 (by decide) ?_
    refine zJ.icmp_ne (pc := 42) (tgt := 60) dX3_readAsking_42 (by decide) (fun c11 => ?_) (fun c11 => ?_)
    · replace h := h.1 c11
      refine zJ.aload_n (pc := 60) 2 dX3_readAsking_60 rfl rfl ?_
      refine zJ.iload_n (pc := 61) 3 dX3_readAsking_61 rfl rfl ?_
      refine zJ.iload_n (pc := 62) 1 dX3_readAsking_62 rfl rfl ?_
      refine zJ.iload_n (pc := 63) 0 dX3_readAsking_63 rfl rfl ?_
      refine zG.callVv (d := mdX3_readAsking) (pc := 64) [.int x1, .int (r2 - 48), .int (-1)] [] (ob_16 o) ok_16 rfl dX3_readAsking_64 ⟨(cb_X3_addOrder).1, (cb_X3_addOrder).2, (Nat.le_of_ble_eq_true rfl), (Nat.le_of_ble_eq_true rfl)⟩ ml_X3_52 ci_X3_addOrder cv_X3_addOrder rfl (Nat.le_of_ble_eq_true rfl) (Nat.le_of_ble_eq_true rfl) rfl h (fun S14 h2 => ?_)
      replace h := h2
      clear h2
      exact zG.ret (pc := 67) (r := none) ⟨dX3_readAsking_67, rfl⟩ h
    · replace h := h.2 c11
      refine zJ.aload_n (pc := 45) 2 dX3_readAsking_45 rfl rfl ?_
      refine zJ.dup (pc := 46) dX3_readAsking_46 rfl ?_
      refine zE.getI (pc := 47) (fd_16_6 o) ok_16 kiX3 (Nat.le_of_ble_eq_true rfl) fl_X3_28 dX3_readAsking_47 ?_
      refine zJ.iconst (pc := 50) (v := 1) dX3_readAsking_50 (by decide) ?_
      refine zJ.iadd (pc := 51) dX3_readAsking_51 ?_
      refine zE.putI (pc := 52) (fd_16_6 o) ok_16 kiX3 (Nat.le_of_ble_eq_true rfl) fl_X3_28 rfl rfl dX3_readAsking_52 ?_
      refine zJ.aload_n (pc := 55) 2 dX3_readAsking_55 rfl rfl ?_
      refine zG.callVi (d := mdX3_readAsking) (pc := 56) [] [] (ob_16 o) ok_16 rfl dX3_readAsking_56 ⟨(cb_X3_readNumber).1, (cb_X3_readNumber).2, (Nat.le_of_ble_eq_true rfl), (Nat.le_of_ble_eq_true rfl)⟩ ml_X3_56 ci_X3_readNumber cv_X3_readNumber rfl (Nat.le_of_ble_eq_true rfl) (Nat.le_of_ble_eq_true rfl) rfl h (fun r16 S17 h2 => ?_)
      replace h := h2
      clear h2
      refine zJ.istore_n (pc := 59) (lv' := [(3, .int r16), (2, .int (r2 - 48)), (0, .ref (z_adr o (16, 0, 0))), (1, .int x1)]) dX3_readAsking_59 rfl (Nat.le_of_ble_eq_true rfl) rfl ?_
      refine zJ.aload_n (pc := 60) 2 dX3_readAsking_60 rfl rfl ?_
      refine zJ.iload_n (pc := 61) 3 dX3_readAsking_61 rfl rfl ?_
      refine zJ.iload_n (pc := 62) 1 dX3_readAsking_62 rfl rfl ?_
      refine zJ.iload_n (pc := 63) 0 dX3_readAsking_63 rfl rfl ?_
      refine zG.callVv (d := mdX3_readAsking) (pc := 64) [.int x1, .int (r2 - 48), .int r16] [] (ob_16 o) ok_16 rfl dX3_readAsking_64 ⟨(cb_X3_addOrder).1, (cb_X3_addOrder).2, (Nat.le_of_ble_eq_true rfl), (Nat.le_of_ble_eq_true rfl)⟩ ml_X3_52 ci_X3_addOrder cv_X3_addOrder rfl (Nat.le_of_ble_eq_true rfl) (Nat.le_of_ble_eq_true rfl) rfl h (fun S20 h2 => ?_)
      replace h := h2
      clear h2
      exact zG.ret (pc := 67) (r := none) ⟨dX3_readAsking_67, rfl⟩ h
  · replace h := h.2 c7
    refine zJ.aload_n (pc := 15) 1 dX3_readAsking_15 rfl rfl ?_
    refine zJ.aload_n (pc := 16) 1 dX3_readAsking_16 rfl rfl ?_
    refine zE.getI (pc := 17) (fd_16_6 o) ok_16 kiX3 (Nat.le_of_ble_eq_true rfl) fl_X3_28 dX3_readAsking_17 ?_
    refine zE.putI (pc := 20) (fd_16_7 o) ok_16 kiX3 (Nat.le_of_ble_eq_true rfl) fl_X3_31 rfl rfl dX3_readAsking_20 ?_
    exact zG.ret (pc := 23) (r := none) ⟨dX3_readAsking_23, rfl⟩ h
set_option maxRecDepth 100000 in
set_option maxHeartbeats 4000000 in
theorem w_X3_readNumber_0 (o : zW)  (S : zS) (Q : Option Value → zS → Prop) (h : zGi o 970 mdX3_peek [.ref (z_adr o (16, 0, 0))] S (fun r2 S3 => zG o 970 mdX3_readNumber 14 [(0, .ref (z_adr o (16, 0, 0))), (1, .int (S3.1 (16, 0, 0) 6)), (2, .int 0), (3, .int 0)] [] S3 Q)) : zG o 970 mdX3_readNumber 0 [(0, .ref (z_adr o (16, 0, 0)))] [] S Q := by
  show zJ o mdX3_readNumber 0 _ [] (970, z_enc o S) 0 0 _
  refine zJ.aload_n (pc := 0) 0 dX3_readNumber_0 rfl rfl ?_
  refine zG.callVi (d := mdX3_readNumber) (pc := 1) [] [] (ob_16 o) ok_16 rfl dX3_readNumber_1 ⟨(cb_X3_peek).1, (cb_X3_peek).2, (Nat.le_of_ble_eq_true rfl), (Nat.le_of_ble_eq_true rfl)⟩ ml_X3_34 ci_X3_peek cv_X3_peek rfl (Nat.le_of_ble_eq_true rfl) (Nat.le_of_ble_eq_true rfl) rfl h (fun r2 S3 h2 => ?_)
  replace h := h2
  clear h2
  refine zJ.pop (pc := 4) dX3_readNumber_4 rfl ?_
  refine zJ.aload_n (pc := 5) 0 dX3_readNumber_5 rfl rfl ?_
  refine zE.getI (pc := 6) (fd_16_6 o) ok_16 kiX3 (Nat.le_of_ble_eq_true rfl) fl_X3_28 dX3_readNumber_6 ?_
  refine zJ.istore_n (pc := 9) (lv' := [(1, .int (S3.1 (16, 0, 0) 6)), (0, .ref (z_adr o (16, 0, 0)))]) dX3_readNumber_9 rfl (Nat.le_of_ble_eq_true rfl) rfl ?_
  refine zJ.iconst (pc := 10) (v := 0) dX3_readNumber_10 (by decide) ?_
  refine zJ.istore_n (pc := 11) (lv' := [(2, .int 0), (1, .int (S3.1 (16, 0, 0) 6)), (0, .ref (z_adr o (16, 0, 0)))]) dX3_readNumber_11 rfl (Nat.le_of_ble_eq_true rfl) rfl ?_
  refine zJ.iconst (pc := 12) (v := 0) dX3_readNumber_12 (by decide) ?_
  refine zJ.istore_n (pc := 13) (lv' := [(3, .int 0), (2, .int 0), (1, .int (S3.1 (16, 0, 0) 6)), (0, .ref (z_adr o (16, 0, 0)))]) dX3_readNumber_13 rfl (Nat.le_of_ble_eq_true rfl) rfl ?_
  exact zJ.sub [3, 2, 1, 0] rfl h
set_option maxRecDepth 100000 in
set_option maxHeartbeats 4000000 in
theorem w_X3_readNumber_14 (o : zW) (x1 : Int32) (x2 : Int32) (x3 : Int32) (S : zS) (Q : Option Value → zS → Prop) (h : (120 ≤ x3 → (((S.1 (16, 0, 0) 6) = x1 → (Q (some (.int x2)) (sI S (16, 0, 0) 7 x1))) ∧ (¬ (S.1 (16, 0, 0) 6) = x1 → (((S.1 (16, 0, 0) 6) ≤ (x1 + 2) → (Q (some (.int x2)) S)) ∧ (¬ (S.1 (16, 0, 0) 6) ≤ (x1 + 2) → (Q (some (.int x2)) (sI S (16, 0, 0) 7 x1))))))) ∧ (¬ 120 ≤ x3 → (zGi o 970 mdX3_byteAt [.ref (z_adr o (16, 0, 0)), .int (S.1 (16, 0, 0) 6)] S (fun r5 S6 => zGi o 970 mdX3_isFigure [.int r5] S6 (fun r8 S9 => (r8 = 0 → (((S9.1 (16, 0, 0) 6) = x1 → (Q (some (.int x2)) (sI S9 (16, 0, 0) 7 x1))) ∧ (¬ (S9.1 (16, 0, 0) 6) = x1 → (((S9.1 (16, 0, 0) 6) ≤ (x1 + 2) → (Q (some (.int x2)) S9)) ∧ (¬ (S9.1 (16, 0, 0) 6) ≤ (x1 + 2) → (Q (some (.int x2)) (sI S9 (16, 0, 0) 7 x1))))))) ∧ (¬ r8 = 0 → ((2 ≤ x3 → (zG o 970 mdX3_readNumber 14 [(0, .ref (z_adr o (16, 0, 0))), (1, .int x1), (2, .int x2), (3, .int (x3 + 1))] [] (sI S9 (16, 0, 0) 6 ((S9.1 (16, 0, 0) 6) + 1)) Q)) ∧ (¬ 2 ≤ x3 → (zGi o 970 mdX3_byteAt [.ref (z_adr o (16, 0, 0)), .int (S9.1 (16, 0, 0) 6)] S9 (fun r15 S16 => zG o 970 mdX3_readNumber 14 [(0, .ref (z_adr o (16, 0, 0))), (1, .int x1), (2, .int (((10 * x2) + r15) - 48)), (3, .int (x3 + 1))] [] (sI S16 (16, 0, 0) 6 ((S16.1 (16, 0, 0) 6) + 1)) Q)))))))))) : zG o 970 mdX3_readNumber 14 [(0, .ref (z_adr o (16, 0, 0))), (1, .int x1), (2, .int x2), (3, .int x3)] [] S Q := by
  show zJ o mdX3_readNumber 14 _ [] (970, z_enc o S) 0 0 _
  refine zJ.iload_n (pc := 14) 3 dX3_readNumber_14 rfl rfl ?_
  refine zJ.bipush (pc := 15) (v := 120) dX3_readNumber_15 (by decide) ?_
  refine zJ.icmp_ge (pc := 17) (tgt := 76) dX3_readNumber_17 (by decide) (fun c1 => ?_) (fun c1 => ?_)
  · replace h := h.1 c1
    refine zJ.aload_n (pc := 76) 0 dX3_readNumber_76 rfl rfl ?_
    refine zE.getI (pc := 77) (fd_16_6 o) ok_16 kiX3 (Nat.le_of_ble_eq_true rfl) fl_X3_28 dX3_readNumber_77 ?_
    refine zJ.iload_n (pc := 80) 1 dX3_readNumber_80 rfl rfl ?_
    refine zJ.icmp_eq (pc := 81) (tgt := 94) dX3_readNumber_81 (by decide) (fun c2 => ?_) (fun c2 => ?_)
    · replace h := h.1 c2
      refine zJ.aload_n (pc := 94) 0 dX3_readNumber_94 rfl rfl ?_
      refine zJ.iload_n (pc := 95) 1 dX3_readNumber_95 rfl rfl ?_
      refine zE.putI (pc := 96) (fd_16_7 o) ok_16 kiX3 (Nat.le_of_ble_eq_true rfl) fl_X3_31 rfl rfl dX3_readNumber_96 ?_
      refine zJ.iload_n (pc := 99) 2 dX3_readNumber_99 rfl rfl ?_
      exact zG.ret (pc := 100) (r := some (.int x2)) ⟨dX3_readNumber_100, _, rfl, rfl⟩ h
    · replace h := h.2 c2
      refine zJ.aload_n (pc := 84) 0 dX3_readNumber_84 rfl rfl ?_
      refine zE.getI (pc := 85) (fd_16_6 o) ok_16 kiX3 (Nat.le_of_ble_eq_true rfl) fl_X3_28 dX3_readNumber_85 ?_
      refine zJ.iload_n (pc := 88) 1 dX3_readNumber_88 rfl rfl ?_
      refine zJ.iconst (pc := 89) (v := 2) dX3_readNumber_89 (by decide) ?_
      refine zJ.iadd (pc := 90) dX3_readNumber_90 ?_
      refine zJ.icmp_le (pc := 91) (tgt := 99) dX3_readNumber_91 (by decide) (fun c3 => ?_) (fun c3 => ?_)
      · replace h := h.1 c3
        refine zJ.iload_n (pc := 99) 2 dX3_readNumber_99 rfl rfl ?_
        exact zG.ret (pc := 100) (r := some (.int x2)) ⟨dX3_readNumber_100, _, rfl, rfl⟩ h
      · replace h := h.2 c3
        refine zJ.aload_n (pc := 94) 0 dX3_readNumber_94 rfl rfl ?_
        refine zJ.iload_n (pc := 95) 1 dX3_readNumber_95 rfl rfl ?_
        refine zE.putI (pc := 96) (fd_16_7 o) ok_16 kiX3 (Nat.le_of_ble_eq_true rfl) fl_X3_31 rfl rfl dX3_readNumber_96 ?_
        refine zJ.iload_n (pc := 99) 2 dX3_readNumber_99 rfl rfl ?_
        exact zG.ret (pc := 100) (r := some (.int x2)) ⟨dX3_readNumber_100, _, rfl, rfl⟩ h
  · replace h := h.2 c1
    refine zJ.aload_n (pc := 20) 0 dX3_readNumber_20 rfl rfl ?_
    refine zJ.aload_n (pc := 21) 0 dX3_readNumber_21 rfl rfl ?_
    refine zE.getI (pc := 22) (fd_16_6 o) ok_16 kiX3 (Nat.le_of_ble_eq_true rfl) fl_X3_28 dX3_readNumber_22 ?_
    refine zG.callVi (d := mdX3_readNumber) (pc := 25) [.int (S.1 (16, 0, 0) 6)] [] (ob_16 o) ok_16 rfl dX3_readNumber_25 ⟨(cb_X3_byteAt).1, (cb_X3_byteAt).2, (Nat.le_of_ble_eq_true rfl), (Nat.le_of_ble_eq_true rfl)⟩ ml_X3_41 ci_X3_byteAt cv_X3_byteAt rfl (Nat.le_of_ble_eq_true rfl) (Nat.le_of_ble_eq_true rfl) rfl h (fun r5 S6 h2 => ?_)
    replace h := h2
    clear h2
    refine zG.callSi (d := mdX3_readNumber) (pc := 28) [.int r5] [] dX3_readNumber_28 ⟨(cb_X3_isFigure).1, (cb_X3_isFigure).2, (Nat.le_of_ble_eq_true rfl), (Nat.le_of_ble_eq_true rfl)⟩ ml_X3_63 cs_X3_isFigure rfl (Nat.le_of_ble_eq_true rfl) (Nat.le_of_ble_eq_true rfl) rfl h (fun r8 S9 h2 => ?_)
    replace h := h2
    clear h2
    refine zJ.if_eq (pc := 31) (tgt := 76) dX3_readNumber_31 (by decide) (fun c10 => ?_) (fun c10 => ?_)
    · replace h := h.1 c10
      refine zJ.aload_n (pc := 76) 0 dX3_readNumber_76 rfl rfl ?_
      refine zE.getI (pc := 77) (fd_16_6 o) ok_16 kiX3 (Nat.le_of_ble_eq_true rfl) fl_X3_28 dX3_readNumber_77 ?_
      refine zJ.iload_n (pc := 80) 1 dX3_readNumber_80 rfl rfl ?_
      refine zJ.icmp_eq (pc := 81) (tgt := 94) dX3_readNumber_81 (by decide) (fun c11 => ?_) (fun c11 => ?_)
      · replace h := h.1 c11
        refine zJ.aload_n (pc := 94) 0 dX3_readNumber_94 rfl rfl ?_
        refine zJ.iload_n (pc := 95) 1 dX3_readNumber_95 rfl rfl ?_
        refine zE.putI (pc := 96) (fd_16_7 o) ok_16 kiX3 (Nat.le_of_ble_eq_true rfl) fl_X3_31 rfl rfl dX3_readNumber_96 ?_
        refine zJ.iload_n (pc := 99) 2 dX3_readNumber_99 rfl rfl ?_
        exact zG.ret (pc := 100) (r := some (.int x2)) ⟨dX3_readNumber_100, _, rfl, rfl⟩ h
      · replace h := h.2 c11
        refine zJ.aload_n (pc := 84) 0 dX3_readNumber_84 rfl rfl ?_
        refine zE.getI (pc := 85) (fd_16_6 o) ok_16 kiX3 (Nat.le_of_ble_eq_true rfl) fl_X3_28 dX3_readNumber_85 ?_
        refine zJ.iload_n (pc := 88) 1 dX3_readNumber_88 rfl rfl ?_
        refine zJ.iconst (pc := 89) (v := 2) dX3_readNumber_89 (by decide) ?_
        refine zJ.iadd (pc := 90) dX3_readNumber_90 ?_
        refine zJ.icmp_le (pc := 91) (tgt := 99) dX3_readNumber_91 (by decide) (fun c12 => ?_) (fun c12 => ?_)
        · replace h := h.1 c12
          refine zJ.iload_n (pc := 99) 2 dX3_readNumber_99 rfl rfl ?_
          exact zG.ret (pc := 100) (r := some (.int x2)) ⟨dX3_readNumber_100, _, rfl, rfl⟩ h
        · replace h := h.2 c12
          refine zJ.aload_n (pc := 94) 0 dX3_readNumber_94 rfl rfl ?_
          refine zJ.iload_n (pc := 95) 1 dX3_readNumber_95 rfl rfl ?_
          refine zE.putI (pc := 96) (fd_16_7 o) ok_16 kiX3 (Nat.le_of_ble_eq_true rfl) fl_X3_31 rfl rfl dX3_readNumber_96 ?_
          refine zJ.iload_n (pc := 99) 2 dX3_readNumber_99 rfl rfl ?_
          exact zG.ret (pc := 100) (r := some (.int x2)) ⟨dX3_readNumber_100, _, rfl, rfl⟩ h
    · replace h := h.2 c10
      refine zJ.iload_n (pc := 34) 3 dX3_readNumber_34 rfl rfl ?_
      refine zJ.iconst (pc := 35) (v := 2) dX3_readNumber_35 (by decide) ?_
      refine zJ.icmp_ge (pc := 36) (tgt := 58) dX3_readNumber_36 (by decide) (fun c13 => ?_) (fun c13 => ?_)
      · replace h := h.1 c13
        refine zJ.iload_n (pc := 58) 2 dX3_readNumber_58 rfl rfl ?_
        refine zJ.istore_n (pc := 59) (lv' := [(2, .int x2), (0, .ref (z_adr o (16, 0, 0))), (1, .int x1), (3, .int x3)]) dX3_readNumber_59 rfl (Nat.le_of_ble_eq_true rfl) rfl ?_
        refine zJ.aload_n (pc := 60) 1 dX3_readNumber_60 rfl rfl ?_
        refine zJ.dup (pc := 61) dX3_readNumber_61 rfl ?_
        refine zE.getI (pc := 62) (fd_16_6 o) ok_16 kiX3 (Nat.le_of_ble_eq_true rfl) fl_X3_28 dX3_readNumber_62 ?_
        refine zJ.iconst (pc := 65) (v := 1) dX3_readNumber_65 (by decide) ?_
        refine zJ.iadd (pc := 66) dX3_readNumber_66 ?_
        refine zE.putI (pc := 67) (fd_16_6 o) ok_16 kiX3 (Nat.le_of_ble_eq_true rfl) fl_X3_28 rfl rfl dX3_readNumber_67 ?_
        refine zJ.iinc (pc := 70) (k := 3) (lv' := [(3, .int (x3 + 1)), (2, .int x2), (0, .ref (z_adr o (16, 0, 0))), (1, .int x1)]) dX3_readNumber_70 rfl rfl (Nat.le_of_ble_eq_true rfl) rfl ?_
        refine zJ.goto (pc := 73) (tgt := 14) dX3_readNumber_73 (by decide) ?_
        exact zJ.sub [2, 3, 1, 0] rfl h
      · replace h := h.2 c13
        refine zJ.bipush (pc := 39) (v := 10) dX3_readNumber_39 (by decide) ?_
        refine zJ.iload_n (pc := 41) 2 dX3_readNumber_41 rfl rfl ?_
        refine zJ.imul (pc := 42) dX3_readNumber_42 ?_
        refine zJ.aload_n (pc := 43) 0 dX3_readNumber_43 rfl rfl ?_
        refine zJ.aload_n (pc := 44) 0 dX3_readNumber_44 rfl rfl ?_
        refine zE.getI (pc := 45) (fd_16_6 o) ok_16 kiX3 (Nat.le_of_ble_eq_true rfl) fl_X3_28 dX3_readNumber_45 ?_
        refine zG.callVi (d := mdX3_readNumber) (pc := 48) [.int (S9.1 (16, 0, 0) 6)] [.int (10 * x2)] (ob_16 o) ok_16 rfl dX3_readNumber_48 ⟨(cb_X3_byteAt).1, (cb_X3_byteAt).2, (Nat.le_of_ble_eq_true rfl), (Nat.le_of_ble_eq_true rfl)⟩ ml_X3_41 ci_X3_byteAt cv_X3_byteAt rfl (Nat.le_of_ble_eq_true rfl) (Nat.le_of_ble_eq_true rfl) rfl h (fun r15 S16 h2 => ?_)
        replace h := h2
        clear h2
        refine zJ.iadd (pc := 51) dX3_readNumber_51 ?_
        refine zJ.bipush (pc := 52) (v := 48) dX3_readNumber_52 (by decide) ?_
        refine zJ.isub (pc := 54) dX3_readNumber_54 ?_
        refine zJ.goto (pc := 55) (tgt := 59) dX3_readNumber_55 (by decide) ?_
        refine zJ.istore_n (pc := 59) (lv' := [(2, .int (((10 * x2) + r15) - 48)), (0, .ref (z_adr o (16, 0, 0))), (1, .int x1), (3, .int x3)]) dX3_readNumber_59 rfl (Nat.le_of_ble_eq_true rfl) rfl ?_
        refine zJ.aload_n (pc := 60) 1 dX3_readNumber_60 rfl rfl ?_
        refine zJ.dup (pc := 61) dX3_readNumber_61 rfl ?_
        refine zE.getI (pc := 62) (fd_16_6 o) ok_16 kiX3 (Nat.le_of_ble_eq_true rfl) fl_X3_28 dX3_readNumber_62 ?_
        refine zJ.iconst (pc := 65) (v := 1) dX3_readNumber_65 (by decide) ?_
        refine zJ.iadd (pc := 66) dX3_readNumber_66 ?_
        refine zE.putI (pc := 67) (fd_16_6 o) ok_16 kiX3 (Nat.le_of_ble_eq_true rfl) fl_X3_28 rfl rfl dX3_readNumber_67 ?_
        refine zJ.iinc (pc := 70) (k := 3) (lv' := [(3, .int (x3 + 1)), (2, .int (((10 * x2) + r15) - 48)), (0, .ref (z_adr o (16, 0, 0))), (1, .int x1)]) dX3_readNumber_70 rfl rfl (Nat.le_of_ble_eq_true rfl) rfl ?_
        refine zJ.goto (pc := 73) (tgt := 14) dX3_readNumber_73 (by decide) ?_
        exact zJ.sub [2, 3, 1, 0] rfl h
set_option maxRecDepth 100000 in
set_option maxHeartbeats 4000000 in
theorem w_X3_isFigure_0 (o : zW) (x0 : Int32) (S : zS) (Q : Option Value → zS → Prop) (h : (x0 < 48 → (Q (some (.int 0)) S)) ∧ (¬ x0 < 48 → ((57 < x0 → (Q (some (.int 0)) S)) ∧ (¬ 57 < x0 → (Q (some (.int 1)) S))))) : zG o 970 mdX3_isFigure 0 [(0, .int x0)] [] S Q := by
  show zJ o mdX3_isFigure 0 _ [] (970, z_enc o S) 0 0 _
  refine zJ.iload_n (pc := 0) 0 dX3_isFigure_0 rfl rfl ?_
  refine zJ.bipush (pc := 1) (v := 48) dX3_isFigure_1 (by decide) ?_
  refine zJ.icmp_lt (pc := 3) (tgt := 16) dX3_isFigure_3 (by decide) (fun c1 => ?_) (fun c1 => ?_)
  · replace h := h.1 c1
    refine zJ.iconst (pc := 16) (v := 0) dX3_isFigure_16 (by decide) ?_
    exact zG.ret (pc := 17) (r := some (.int 0)) ⟨dX3_isFigure_17, _, rfl, rfl⟩ h
  · replace h := h.2 c1
    refine zJ.iload_n (pc := 6) 0 dX3_isFigure_6 rfl rfl ?_
    refine zJ.bipush (pc := 7) (v := 57) dX3_isFigure_7 (by decide) ?_
    refine zJ.icmp_gt (pc := 9) (tgt := 16) dX3_isFigure_9 (by decide) (fun c2 => ?_) (fun c2 => ?_)
    · replace h := h.1 c2
      refine zJ.iconst (pc := 16) (v := 0) dX3_isFigure_16 (by decide) ?_
      exact zG.ret (pc := 17) (r := some (.int 0)) ⟨dX3_isFigure_17, _, rfl, rfl⟩ h
    · replace h := h.2 c2
      refine zJ.iconst (pc := 12) (v := 1) dX3_isFigure_12 (by decide) ?_
      refine zJ.goto (pc := 13) (tgt := 17) dX3_isFigure_13 (by decide) ?_
      exact zG.ret (pc := 17) (r := some (.int 1)) ⟨dX3_isFigure_17, _, rfl, rfl⟩ h
set_option maxRecDepth 100000 in
set_option maxHeartbeats 4000000 in
theorem w_X3_addOrder_0 (o : zW) (x1 : Int32) (x2 : Int32) (x3 : Int32) (S : zS) (Q : Option Value → zS → Prop) (h : ((S.1 (16, 0, 0) 5) < 0 → (Q none S)) ∧ (¬ (S.1 (16, 0, 0) 5) < 0 → ((60 ≤ (S.1 (16, 0, 0) 5) → (Q none S)) ∧ (¬ 60 ≤ (S.1 (16, 0, 0) 5) → (vp_in (S.1 (16, 0, 0) 5) 60 ∧ (∀ y3 : Int32, y3 = ((sI S (18, 0, 0) ((S.1 (16, 0, 0) 5).toNatClampNeg) x1).1 (16, 0, 0) 5) → (vp_in y3 60 ∧ (∀ S4 : zS, S4 = (sI (sI S (18, 0, 0) ((S.1 (16, 0, 0) 5).toNatClampNeg) x1) (19, 0, 0) (y3.toNatClampNeg) x2) → (vp_in (S4.1 (16, 0, 0) 5) 60 ∧ (∀ y5 : Int32, y5 = ((sI S4 (20, 0, 0) ((S4.1 (16, 0, 0) 5).toNatClampNeg) x3).1 (16, 0, 0) 5) → (∀ S6 : zS, S6 = (sI (sI S4 (20, 0, 0) ((S4.1 (16, 0, 0) 5).toNatClampNeg) x3) (16, 0, 0) 5 (y5 + 1)) → (Q none S6)))))))))))) : zG o 970 mdX3_addOrder 0 [(0, .ref (z_adr o (16, 0, 0))), (1, .int x1), (2, .int x2), (3, .int x3)] [] S Q := by
  show zJ o mdX3_addOrder 0 _ [] (970, z_enc o S) 0 0 _
  refine zJ.aload_n (pc := 0) 0 dX3_addOrder_0 rfl rfl ?_
  refine zE.getI (pc := 1) (fd_16_5 o) ok_16 kiX3 (Nat.le_of_ble_eq_true rfl) fl_X3_24 dX3_addOrder_1 ?_
  refine zJ.if_lt (pc := 4) (tgt := 56) dX3_addOrder_4 (by decide) (fun c1 => ?_) (fun c1 => ?_)
  · replace h := h.1 c1
    exact zG.ret (pc := 56) (r := none) ⟨dX3_addOrder_56, rfl⟩ h
  · replace h := h.2 c1
    refine zJ.aload_n (pc := 7) 0 dX3_addOrder_7 rfl rfl ?_
    refine zE.getI (pc := 8) (fd_16_5 o) ok_16 kiX3 (Nat.le_of_ble_eq_true rfl) fl_X3_24 dX3_addOrder_8 ?_
    refine zJ.bipush (pc := 11) (v := 60) dX3_addOrder_11 (by decide) ?_
    refine zJ.icmp_ge (pc := 13) (tgt := 56) dX3_addOrder_13 (by decide) (fun c2 => ?_) (fun c2 => ?_)
    · replace h := h.1 c2
      exact zG.ret (pc := 56) (r := none) ⟨dX3_addOrder_56, rfl⟩ h
    · replace h := h.2 c2
      refine zJ.aload_n (pc := 16) 0 dX3_addOrder_16 rfl rfl ?_
      refine zE.getV (pc := 17) (fd_16_1 o) ok_16 kiX3 (Nat.le_of_ble_eq_true rfl) fl_X3_15 dX3_addOrder_17 ?_
      refine zJ.aload_n (pc := 20) 0 dX3_addOrder_20 rfl rfl ?_
      refine zE.getI (pc := 21) (fd_16_5 o) ok_16 kiX3 (Nat.le_of_ble_eq_true rfl) fl_X3_24 dX3_addOrder_21 ?_
      refine zJ.iload_n (pc := 24) 1 dX3_addOrder_24 rfl rfl ?_
      obtain ⟨hq, h⟩ := h
      refine zE.astI (pc := 25) (ia_18 o) ok_18 hq dX3_addOrder_25 ?_
      refine zJ.aload_n (pc := 26) 0 dX3_addOrder_26 rfl rfl ?_
      refine zE.getV (pc := 27) (fd_16_2 o) ok_16 kiX3 (Nat.le_of_ble_eq_true rfl) fl_X3_18 dX3_addOrder_27 ?_
      refine zJ.aload_n (pc := 30) 0 dX3_addOrder_30 rfl rfl ?_
      refine zE.getI (pc := 31) (fd_16_5 o) ok_16 kiX3 (Nat.le_of_ble_eq_true rfl) fl_X3_24 dX3_addOrder_31 ?_
      refine zJ.topi (fun y3 hyy3 => ?_)
      replace h := h y3 hyy3
      refine zJ.iload_n (pc := 34) 2 dX3_addOrder_34 rfl rfl ?_
      obtain ⟨hq, h⟩ := h
      refine zE.astI (pc := 35) (ia_19 o) ok_19 hq dX3_addOrder_35 ?_
      refine zJ.nameS (fun S4 hyS4 => ?_)
      replace h := h S4 hyS4
      refine zJ.aload_n (pc := 36) 0 dX3_addOrder_36 rfl rfl ?_
      refine zE.getV (pc := 37) (fd_16_3 o) ok_16 kiX3 (Nat.le_of_ble_eq_true rfl) fl_X3_21 dX3_addOrder_37 ?_
      refine zJ.aload_n (pc := 40) 0 dX3_addOrder_40 rfl rfl ?_
      refine zE.getI (pc := 41) (fd_16_5 o) ok_16 kiX3 (Nat.le_of_ble_eq_true rfl) fl_X3_24 dX3_addOrder_41 ?_
      refine zJ.iload_n (pc := 44) 3 dX3_addOrder_44 rfl rfl ?_
      obtain ⟨hq, h⟩ := h
      refine zE.astI (pc := 45) (ia_20 o) ok_20 hq dX3_addOrder_45 ?_
      refine zJ.aload_n (pc := 46) 0 dX3_addOrder_46 rfl rfl ?_
      refine zJ.dup (pc := 47) dX3_addOrder_47 rfl ?_
      refine zE.getI (pc := 48) (fd_16_5 o) ok_16 kiX3 (Nat.le_of_ble_eq_true rfl) fl_X3_24 dX3_addOrder_48 ?_
      refine zJ.topi (fun y5 hyy5 => ?_)
      replace h := h y5 hyy5
      refine zJ.iconst (pc := 51) (v := 1) dX3_addOrder_51 (by decide) ?_
      refine zJ.iadd (pc := 52) dX3_addOrder_52 ?_
      refine zE.putI (pc := 53) (fd_16_5 o) ok_16 kiX3 (Nat.le_of_ble_eq_true rfl) fl_X3_24 rfl rfl dX3_addOrder_53 ?_
      refine zJ.nameS (fun S6 hyS6 => ?_)
      replace h := h S6 hyS6
      exact zG.ret (pc := 56) (r := none) ⟨dX3_addOrder_56, rfl⟩ h
