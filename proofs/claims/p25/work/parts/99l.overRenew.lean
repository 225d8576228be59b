/-! renewing, while the memory is being made -/
set_option maxRecDepth 100000 in
set_option maxHeartbeats 4000000 in
theorem v_X0_renew_0 (o : zW) {X : zK → Option va_E} (n : Nat) (i : Nat) (hX : ∀ k b, 1 ≤ k → k ≤ 15 → X (k, i, b) = none) (hi : i < 8) (hn : z_sb i + 120 ≤ n) (b : Nat) (hb : b < 16) (S : zS) (Q : Option Value → zS → Prop) (h : zGO o X n mdX0_renew 2 [(0, .ref (z_adr o (5, i, b))), (1, .int 0)] [] S Q) : zGO o X n mdX0_renew 0 [(0, .ref (z_adr o (5, i, b)))] [] S Q := by
  show zJ o mdX0_renew 0 _ [] (n, zP o X S) 0 0 _
  refine zJ.iconst (pc := 0) (v := 0) dX0_renew_0 (by decide) ?_
  refine zJ.istore_n (pc := 1) (lv' := [(1, .int 0), (0, .ref (z_adr o (5, i, b)))]) dX0_renew_1 rfl (Nat.le_of_ble_eq_true rfl) rfl ?_
  exact zJ.sub [1, 0] rfl h
set_option maxRecDepth 100000 in
set_option maxHeartbeats 4000000 in
theorem v_X0_renew_2 (o : zW) {X : zK → Option va_E} (n : Nat) (i : Nat) (hX : ∀ k b, 1 ≤ k → k ≤ 15 → X (k, i, b) = none) (hi : i < 8) (hn : z_sb i + 120 ≤ n) (b : Nat) (hb : b < 16) (x1 : Int32) (S : zS) (Q : Option Value → zS → Prop) (h : (4 ≤ x1 → (∀ S2 : zS, S2 = (sI (sI (sI (sI S (5, i, b) 7 0) (5, i, b) 8 0) (5, i, b) 9 0) (5, i, b) 10 (2000000000 : Int32)) → (Q none (sI S2 (5, i, b) 11 0)))) ∧ (¬ 4 ≤ x1 → (vp_in x1 4 ∧ (zGO o X n mdX0_renew 2 [(0, .ref (z_adr o (5, i, b))), (1, .int (x1 + 1))] [] (sI S (6, i, b) (x1.toNatClampNeg) ((5 * (nI b)) + x1)) Q)))) : zGO o X n mdX0_renew 2 [(0, .ref (z_adr o (5, i, b))), (1, .int x1)] [] S Q := by
  show zJ o mdX0_renew 2 _ [] (n, zP o X S) 0 0 _
  refine zJ.iload_n (pc := 2) 1 dX0_renew_2 rfl rfl ?_
  refine zJ.iconst (pc := 3) (v := 4) dX0_renew_3 (by decide) ?_
  refine zJ.icmp_ge (pc := 4) (tgt := 27) dX0_renew_4 (by decide) (fun c1 => ?_) (fun c1 => ?_)
  · replace h := h.1 c1
    refine zJ.aload_n (pc := 27) 0 dX0_renew_27 rfl rfl ?_
    refine zJ.iconst (pc := 28) (v := 0) dX0_renew_28 (by decide) ?_
    refine zO.putI (pc := 29) (fd_5_7 o i b) (ok_5 hi hb hn) (hX _ _ (by decide) (by decide)) kiX0 (Nat.le_of_ble_eq_true rfl) fl_X0_34 rfl rfl dX0_renew_29 ?_
    refine zJ.aload_n (pc := 32) 0 dX0_renew_32 rfl rfl ?_
    refine zJ.iconst (pc := 33) (v := 0) dX0_renew_33 (by decide) ?_
    refine zO.putI (pc := 34) (fd_5_8 o i b) (ok_5 hi hb hn) (hX _ _ (by decide) (by decide)) kiX0 (Nat.le_of_ble_eq_true rfl) fl_X0_37 rfl rfl dX0_renew_34 ?_
    refine zJ.aload_n (pc := 37) 0 dX0_renew_37 rfl rfl ?_
    refine zJ.iconst (pc := 38) (v := 0) dX0_renew_38 (by decide) ?_
    refine zO.putI (pc := 39) (fd_5_9 o i b) (ok_5 hi hb hn) (hX _ _ (by decide) (by decide)) kiX0 (Nat.le_of_ble_eq_true rfl) fl_X0_40 rfl rfl dX0_renew_39 ?_
    refine zJ.aload_n (pc := 42) 0 dX0_renew_42 rfl rfl ?_
    refine zJ.ldc (pc := 43) lc_X0_43 dX0_renew_43 ?_
    refine zO.putI (pc := 45) (fd_5_10 o i b) (ok_5 hi hb hn) (hX _ _ (by decide) (by decide)) kiX0 (Nat.le_of_ble_eq_true rfl) fl_X0_44 rfl rfl dX0_renew_45 ?_
    refine zO.nameS (fun S2 hyS2 => ?_)
    replace h := h S2 hyS2
    refine zJ.aload_n (pc := 48) 0 dX0_renew_48 rfl rfl ?_
    refine zJ.iconst (pc := 49) (v := 0) dX0_renew_49 (by decide) ?_
    refine zO.putI (pc := 50) (fd_5_11 o i b) (ok_5 hi hb hn) (hX _ _ (by decide) (by decide)) kiX0 (Nat.le_of_ble_eq_true rfl) fl_X0_47 rfl rfl dX0_renew_50 ?_
    exact zGO.ret (pc := 53) (r := none) ⟨dX0_renew_53, rfl⟩ h
  · replace h := h.2 c1
    refine zJ.aload_n (pc := 7) 0 dX0_renew_7 rfl rfl ?_
    refine zO.getV (pc := 8) (fd_5_1 o i b) (ok_5 hi hb hn) (hX _ _ (by decide) (by decide)) kiX0 (Nat.le_of_ble_eq_true rfl) fl_X0_15 dX0_renew_8 ?_
    refine zJ.iload_n (pc := 11) 1 dX0_renew_11 rfl rfl ?_
    refine zJ.iconst (pc := 12) (v := 5) dX0_renew_12 (by decide) ?_
    refine zJ.aload_n (pc := 13) 0 dX0_renew_13 rfl rfl ?_
    refine zO.getV (pc := 14) (fd_5_0 o i b) (ok_5 hi hb hn) (hX _ _ (by decide) (by decide)) kiX0 (Nat.le_of_ble_eq_true rfl) fl_X0_9 dX0_renew_14 ?_
    refine zJ.imul (pc := 17) dX0_renew_17 ?_
    refine zJ.iload_n (pc := 18) 1 dX0_renew_18 rfl rfl ?_
    refine zJ.iadd (pc := 19) dX0_renew_19 ?_
    obtain ⟨hq, h⟩ := h
    refine zO.astI (pc := 20) (ia_6 o i b) (ok_6 hi hb hn) (hX _ _ (by decide) (by decide)) hq dX0_renew_20 ?_
    refine zJ.iinc (pc := 21) (k := 1) (lv' := [(1, .int (x1 + 1)), (0, .ref (z_adr o (5, i, b)))]) dX0_renew_21 rfl rfl (Nat.le_of_ble_eq_true rfl) rfl ?_
    refine zJ.goto (pc := 24) (tgt := 2) dX0_renew_24 (by decide) ?_
    exact zJ.sub [1, 0] rfl h
set_option maxRecDepth 100000 in
set_option maxHeartbeats 4000000 in
theorem v_X1_renew_0 (o : zW) {X : zK → Option va_E} (n : Nat) (i : Nat) (hX : ∀ k b, 1 ≤ k → k ≤ 15 → X (k, i, b) = none) (hi : i < 8) (hn : z_sb i + 120 ≤ n) (S : zS) (Q : Option Value → zS → Prop) (h : ∀ S1 : zS, S1 = (sL (sI (sI (sI S (12, i, 0) 3 0) (12, i, 0) 4 0) (12, i, 0) 5 0) (12, i, 0) 6 0) → (Q none (sL S1 (12, i, 0) 7 0))) : zGO o X n mdX1_renew 0 [(0, .ref (z_adr o (12, i, 0)))] [] S Q := by
  show zJ o mdX1_renew 0 _ [] (n, zP o X S) 0 0 _
  refine zJ.aload_n (pc := 0) 0 dX1_renew_0 rfl rfl ?_
  refine zJ.iconst (pc := 1) (v := 0) dX1_renew_1 (by decide) ?_
  refine zO.putI (pc := 2) (fd_12_3 o i) (ok_12 hi hn) (hX _ _ (by decide) (by decide)) kiX1 (Nat.le_of_ble_eq_true rfl) fl_X1_21 rfl rfl dX1_renew_2 ?_
  refine zJ.aload_n (pc := 5) 0 dX1_renew_5 rfl rfl ?_
  refine zJ.iconst (pc := 6) (v := 0) dX1_renew_6 (by decide) ?_
  refine zO.putI (pc := 7) (fd_12_4 o i) (ok_12 hi hn) (hX _ _ (by decide) (by decide)) kiX1 (Nat.le_of_ble_eq_true rfl) fl_X1_25 rfl rfl dX1_renew_7 ?_
  refine zJ.aload_n (pc := 10) 0 dX1_renew_10 rfl rfl ?_
  refine zJ.iconst (pc := 11) (v := 0) dX1_renew_11 (by decide) ?_
  refine zO.putI (pc := 12) (fd_12_5 o i) (ok_12 hi hn) (hX _ _ (by decide) (by decide)) kiX1 (Nat.le_of_ble_eq_true rfl) fl_X1_28 rfl rfl dX1_renew_12 ?_
  refine zJ.aload_n (pc := 15) 0 dX1_renew_15 rfl rfl ?_
  refine zJ.lconst (pc := 16) (v := 0) dX1_renew_16 (by decide) ?_
  refine zO.putL (pc := 17) (fd_12_6 o i) (ok_12 hi hn) (hX _ _ (by decide) (by decide)) kiX1 (Nat.le_of_ble_eq_true rfl) fl_X1_31 rfl rfl dX1_renew_17 ?_
  refine zO.nameS (fun S1 hyS1 => ?_)
  replace h := h S1 hyS1
  refine zJ.aload_n (pc := 20) 0 dX1_renew_20 rfl rfl ?_
  refine zJ.lconst (pc := 21) (v := 0) dX1_renew_21 (by decide) ?_
  refine zO.putL (pc := 22) (fd_12_7 o i) (ok_12 hi hn) (hX _ _ (by decide) (by decide)) kiX1 (Nat.le_of_ble_eq_true rfl) fl_X1_35 rfl rfl dX1_renew_22 ?_
  exact zGO.ret (pc := 25) (r := none) ⟨dX1_renew_25, rfl⟩ h
set_option maxRecDepth 100000 in
set_option maxHeartbeats 4000000 in
theorem v_X2_renew_0 (o : zW) {X : zK → Option va_E} (n : Nat) (i : Nat) (hX : ∀ k b, 1 ≤ k → k ≤ 15 → X (k, i, b) = none) (hi : i < 8) (hn : z_sb i + 120 ≤ n) (S : zS) (Q : Option Value → zS → Prop) (h : zGO o X n mdX2_renew 2 [(0, .ref (z_adr o (1, i, 0))), (1, .int 0)] [] S Q) : zGO o X n mdX2_renew 0 [(0, .ref (z_adr o (1, i, 0)))] [] S Q := by
  show zJ o mdX2_renew 0 _ [] (n, zP o X S) 0 0 _
  refine zJ.iconst (pc := 0) (v := 0) dX2_renew_0 (by decide) ?_
  refine zJ.istore_n (pc := 1) (lv' := [(1, .int 0), (0, .ref (z_adr o (1, i, 0)))]) dX2_renew_1 rfl (Nat.le_of_ble_eq_true rfl) rfl ?_
  exact zJ.sub [1, 0] rfl h
set_option maxRecDepth 100000 in
set_option maxHeartbeats 4000000 in
theorem v_X2_renew_2 (o : zW) {X : zK → Option va_E} (n : Nat) (i : Nat) (hX : ∀ k b, 1 ≤ k → k ≤ 15 → X (k, i, b) = none) (hi : i < 8) (hn : z_sb i + 120 ≤ n) (x1 : Int32) (S : zS) (Q : Option Value → zS → Prop) (h : (10 ≤ x1 → (zGO o X n mdX2_renew 31 [(0, .ref (z_adr o (1, i, 0))), (1, .ref (z_adr o (4, i, 0))), (2, .int 16), (3, .int 0)] [] S Q)) ∧ (¬ 10 ≤ x1 → (vp_in x1 10 ∧ (zGO o X n mdX2_renew 2 [(0, .ref (z_adr o (1, i, 0))), (1, .int (x1 + 1))] [] (sI S (3, i, 0) (x1.toNatClampNeg) 0) Q)))) : zGO o X n mdX2_renew 2 [(0, .ref (z_adr o (1, i, 0))), (1, .int x1)] [] S Q := by
  show zJ o mdX2_renew 2 _ [] (n, zP o X S) 0 0 _
  refine zJ.iload_n (pc := 2) 1 dX2_renew_2 rfl rfl ?_
  refine zJ.bipush (pc := 3) (v := 10) dX2_renew_3 (by decide) ?_
  refine zJ.icmp_ge (pc := 5) (tgt := 21) dX2_renew_5 (by decide) (fun c1 => ?_) (fun c1 => ?_)
  · replace h := h.1 c1
    refine zJ.aload_n (pc := 21) 0 dX2_renew_21 rfl rfl ?_
    refine zO.getV (pc := 22) (fd_1_2 o i) (ok_1 hi hn) (hX _ _ (by decide) (by decide)) kiX2 (Nat.le_of_ble_eq_true rfl) fl_X2_29 dX2_renew_22 ?_
    refine zJ.astore_n (pc := 25) (lv' := [(1, .ref (z_adr o (4, i, 0))), (0, .ref (z_adr o (1, i, 0)))]) dX2_renew_25 rfl (Nat.le_of_ble_eq_true rfl) rfl ?_
    refine zJ.aload_n (pc := 26) 0 dX2_renew_26 rfl rfl ?_
    refine zO.lenB (pc := 27) (v := 16) (ok_4 hi hn) (hX _ _ (by decide) (by decide)) (by decide) dX2_renew_27 ?_
    refine zJ.istore_n (pc := 28) (lv' := [(2, .int 16), (1, .ref (z_adr o (4, i, 0))), (0, .ref (z_adr o (1, i, 0)))]) dX2_renew_28 rfl (Nat.le_of_ble_eq_true rfl) rfl ?_
    refine zJ.iconst (pc := 29) (v := 0) dX2_renew_29 (by decide) ?_
    refine zJ.istore_n (pc := 30) (lv' := [(3, .int 0), (2, .int 16), (1, .ref (z_adr o (4, i, 0))), (0, .ref (z_adr o (1, i, 0)))]) dX2_renew_30 rfl (Nat.le_of_ble_eq_true rfl) rfl ?_
    exact zJ.sub [3, 2, 1, 0] rfl h
  · replace h := h.2 c1
    refine zJ.aload_n (pc := 8) 0 dX2_renew_8 rfl rfl ?_
    refine zO.getV (pc := 9) (fd_1_1 o i) (ok_1 hi hn) (hX _ _ (by decide) (by decide)) kiX2 (Nat.le_of_ble_eq_true rfl) fl_X2_24 dX2_renew_9 ?_
    refine zJ.iload_n (pc := 12) 1 dX2_renew_12 rfl rfl ?_
    refine zJ.iconst (pc := 13) (v := 0) dX2_renew_13 (by decide) ?_
    obtain ⟨hq, h⟩ := h
    refine zO.astI (pc := 14) (ia_3 o i) (ok_3 hi hn) (hX _ _ (by decide) (by decide)) hq dX2_renew_14 ?_
    refine zJ.iinc (pc := 15) (k := 1) (lv' := [(1, .int (x1 + 1)), (0, .ref (z_adr o (1, i, 0)))]) dX2_renew_15 rfl rfl (Nat.le_of_ble_eq_true rfl) rfl ?_
    refine zJ.goto (pc := 18) (tgt := 2) dX2_renew_18 (by decide) ?_
    exact zJ.sub [1, 0] rfl h
set_option maxRecDepth 100000 in
set_option maxHeartbeats 4000000 in
theorem v_X2_renew_31 (o : zW) {X : zK → Option va_E} (n : Nat) (i : Nat) (hX : ∀ k b, 1 ≤ k → k ≤ 15 → X (k, i, b) = none) (hi : i < 8) (hn : z_sb i + 120 ≤ n) (x2 : Int32) (x3 : Int32) (S : zS) (Q : Option Value → zS → Prop) (h : (x2 ≤ x3 → (zGOv o X n mdX1_renew [.ref (z_adr o (12, i, 0))] S (fun S4 => ∀ S5 : zS, S5 = (sI (sI (sI (sF S4 (1, i, 0) 4 FP.fconst0) (1, i, 0) 5 0) (1, i, 0) 6 0) (1, i, 0) 7 0) → (Q none (sI S5 (1, i, 0) 8 (2000000000 : Int32)))))) ∧ (¬ x2 ≤ x3 → (vp_in x3 16 ∧ (zGOv o X n mdX0_renew [.ref (z_adr o (5, i, x3.toNatClampNeg))] S (fun S9 => zGO o X n mdX2_renew 31 [(0, .ref (z_adr o (1, i, 0))), (1, .ref (z_adr o (4, i, 0))), (2, .int x2), (3, .int (x3 + 1))] [] S9 Q))))) : zGO o X n mdX2_renew 31 [(0, .ref (z_adr o (1, i, 0))), (1, .ref (z_adr o (4, i, 0))), (2, .int x2), (3, .int x3)] [] S Q := by
  show zJ o mdX2_renew 31 _ [] (n, zP o X S) 0 0 _
  refine zJ.iload_n (pc := 31) 3 dX2_renew_31 rfl rfl ?_
  refine zJ.iload_n (pc := 32) 2 dX2_renew_32 rfl rfl ?_
  refine zJ.icmp_ge (pc := 33) (tgt := 52) dX2_renew_33 (by decide) (fun c1 => ?_) (fun c1 => ?_)
  · replace h := h.1 c1
    refine zJ.aload_n (pc := 52) 0 dX2_renew_52 rfl rfl ?_
    refine zO.getV (pc := 53) (fd_1_3 o i) (ok_1 hi hn) (hX _ _ (by decide) (by decide)) kiX2 (Nat.le_of_ble_eq_true rfl) fl_X2_39 dX2_renew_53 ?_
    refine zGO.callVv (d := mdX2_renew) (pc := 56) [] [] (ob_12 o i) (ok_12 hi hn) (hX _ _ (by decide) (by decide)) rfl dX2_renew_56 ⟨(cb_X1_renew).1, (cb_X1_renew).2, (Nat.le_of_ble_eq_true rfl), (Nat.le_of_ble_eq_true rfl)⟩ ml_X2_47 ci_X1_renew cv_X1_renew rfl (Nat.le_of_ble_eq_true rfl) (Nat.le_of_ble_eq_true rfl) rfl h (fun S4 h2 => ?_)
    replace h := h2
    clear h2
    refine zJ.aload_n (pc := 59) 0 dX2_renew_59 rfl rfl ?_
    refine zJ.fconst0 (pc := 60) dX2_renew_60 ?_
    refine zO.putF (pc := 61) (fd_1_4 o i) (ok_1 hi hn) (hX _ _ (by decide) (by decide)) kiX2 (Nat.le_of_ble_eq_true rfl) fl_X2_48 rfl rfl dX2_renew_61 ?_
    refine zJ.aload_n (pc := 64) 0 dX2_renew_64 rfl rfl ?_
    refine zJ.iconst (pc := 65) (v := 0) dX2_renew_65 (by decide) ?_
    refine zO.putI (pc := 66) (fd_1_5 o i) (ok_1 hi hn) (hX _ _ (by decide) (by decide)) kiX2 (Nat.le_of_ble_eq_true rfl) fl_X2_52 rfl rfl dX2_renew_66 ?_
    refine zJ.aload_n (pc := 69) 0 dX2_renew_69 rfl rfl ?_
    refine zJ.iconst (pc := 70) (v := 0) dX2_renew_70 (by decide) ?_
    refine zO.putI (pc := 71) (fd_1_6 o i) (ok_1 hi hn) (hX _ _ (by decide) (by decide)) kiX2 (Nat.le_of_ble_eq_true rfl) fl_X2_56 rfl rfl dX2_renew_71 ?_
    refine zJ.aload_n (pc := 74) 0 dX2_renew_74 rfl rfl ?_
    refine zJ.iconst (pc := 75) (v := 0) dX2_renew_75 (by decide) ?_
    refine zO.putI (pc := 76) (fd_1_7 o i) (ok_1 hi hn) (hX _ _ (by decide) (by decide)) kiX2 (Nat.le_of_ble_eq_true rfl) fl_X2_59 rfl rfl dX2_renew_76 ?_
    refine zO.nameS (fun S5 hyS5 => ?_)
    replace h := h S5 hyS5
    refine zJ.aload_n (pc := 79) 0 dX2_renew_79 rfl rfl ?_
    refine zJ.ldc (pc := 80) lc_X2_62 dX2_renew_80 ?_
    refine zO.putI (pc := 82) (fd_1_8 o i) (ok_1 hi hn) (hX _ _ (by decide) (by decide)) kiX2 (Nat.le_of_ble_eq_true rfl) fl_X2_63 rfl rfl dX2_renew_82 ?_
    exact zGO.ret (pc := 85) (r := none) ⟨dX2_renew_85, rfl⟩ h
  · replace h := h.2 c1
    refine zJ.aload_n (pc := 36) 1 dX2_renew_36 rfl rfl ?_
    refine zJ.iload_n (pc := 37) 3 dX2_renew_37 rfl rfl ?_
    obtain ⟨hq6, h⟩ := h
    refine zO.aldB (pc := 38) (ok_4 hi hn) (hX _ _ (by decide) (by decide)) hq6 dX2_renew_38 ?_
    refine zJ.astore (pc := 39) (lv' := [(4, .ref (z_adr o (5, i, x3.toNatClampNeg))), (0, .ref (z_adr o (1, i, 0))), (1, .ref (z_adr o (4, i, 0))), (2, .int x2), (3, .int x3)]) dX2_renew_39 (Nat.le_of_ble_eq_true rfl) rfl ?_
    refine zJ.aload (pc := 41) 0 dX2_renew_41 rfl ?_
    refine zGO.callVv (d := mdX2_renew) (pc := 43) [] [] (ob_5 o i x3.toNatClampNeg) (ok_5 hi (z_vlt hq6) hn) (hX _ _ (by decide) (by decide)) rfl dX2_renew_43 ⟨(cb_X0_renew).1, (cb_X0_renew).2, (Nat.le_of_ble_eq_true rfl), (Nat.le_of_ble_eq_true rfl)⟩ ml_X2_46 ci_X0_renew cv_X0_renew rfl (Nat.le_of_ble_eq_true rfl) (Nat.le_of_ble_eq_true rfl) rfl h (fun S9 h2 => ?_)
    replace h := h2
    clear h2
    refine zJ.iinc (pc := 46) (k := 4) (lv' := [(3, .int (x3 + 1)), (4, .ref (z_adr o (5, i, x3.toNatClampNeg))), (0, .ref (z_adr o (1, i, 0))), (1, .ref (z_adr o (4, i, 0))), (2, .int x2)]) dX2_renew_46 rfl rfl (Nat.le_of_ble_eq_true rfl) rfl ?_
    refine zJ.goto (pc := 49) (tgt := 31) dX2_renew_49 (by decide) ?_
    exact zJ.sub [2, 3, 4, 0] rfl h
section SPO
variable {o : zW} {X : zK → Option va_E} {n i b : Nat}
theorem so_sp_renewB (hX : ∀ k b, 1 ≤ k → k ≤ 15 → X (k, i, b) = none) (hi : i < 8) (hn : z_sb i + 120 ≤ n) (hb : b < 16) (S : zS) (K : zS → Prop) (hK : K (c_renewB S i b)) : zGOv o X n mdX0_renew [.ref (z_adr o (5, i, b))] S K := by
  refine v_X0_renew_0 o n i hX hi hn b hb S _ ?_
  have key := z_down 4 (fun k => zGO o X n mdX0_renew 2 [(0, .ref (z_adr o (5, i, b))), (1, .int (nI k))] [] (fun q t => if q = (6, i, b) ∧ t < k then nI (5 * b + t) else S.1 q t, S.2) (fun r S' => r = none ∧ K S')) ?_ ?_ 0 (by omega)
  · have e : ((fun q t => if q = (6, i, b) ∧ t < 0 then nI (5 * b + t) else S.1 q t, S.2) : zS) = S := by refine z_ext (fun q t => ?_) (fun _ _ => rfl) (fun _ _ => rfl); simp
    rw [e] at key
    exact key
  · refine v_X0_renew_2 o n i hX hi hn b hb _ _ _ ⟨fun _ S2 e => ?_, fun h => absurd (by decide) h⟩
    subst e
    exact ⟨rfl, hK⟩
  · intro k hk ih
    refine v_X0_renew_2 o n i hX hi hn b hb _ _ _ ⟨fun h => absurd h (z_ge hk (by decide)), fun _ => ⟨z_in hk (by omega), ?_⟩⟩
    rw [z_cl (by omega)]
    have e5 : (5 : Int32) * nI b + nI k = nI (5 * b + k) := by
      rw [show (5 : Int32) = nI 5 from rfl, pk_mul, nI_add]
    rw [e5, ← nI_succ]
    have e : sI ((fun q t => if q = (6, i, b) ∧ t < k then nI (5 * b + t) else S.1 q t, S.2) : zS) (6, i, b) k (nI (5 * b + k)) = (fun q t => if q = (6, i, b) ∧ t < k + 1 then nI (5 * b + t) else S.1 q t, S.2) := by
      refine z_ext (fun q t => ?_) (fun _ _ => rfl) (fun _ _ => rfl)
      simp only [sI]
      by_cases ht : t = k
      · subst ht
        by_cases hq : q = (6, i, b)
        · simp [hq]
        · simp [hq]
      · have : t < k + 1 ↔ t < k := by omega
        simp [this, ht]
    rw [e]
    exact ih
theorem so_sp_renewL (hX : ∀ k b, 1 ≤ k → k ≤ 15 → X (k, i, b) = none) (hi : i < 8) (hn : z_sb i + 120 ≤ n) (S : zS) (K : zS → Prop) (hK : K (c_renewL S i)) : zGOv o X n mdX1_renew [.ref (z_adr o (12, i, 0))] S K :=
  v_X1_renew_0 o n i hX hi hn S _ (fun S1 e => ⟨rfl, by subst e; exact hK⟩)
theorem so_sp_renew (hX : ∀ k b, 1 ≤ k → k ≤ 15 → X (k, i, b) = none) (hi : i < 8) (hn : z_sb i + 120 ≤ n) (S : zS) (K : zS → Prop) (hK : K (c_renew S i)) : zGOv o X n mdX2_renew [.ref (z_adr o (1, i, 0))] S K := by
  refine v_X2_renew_0 o n i hX hi hn S _ ?_
  have key2 := z_down 16 (fun k => zGO o X n mdX2_renew 31 [(0, .ref (z_adr o (1, i, 0))), (1, .ref (z_adr o (4, i, 0))), (2, .int 16), (3, .int (nI k))] [] (c_ren S i 10 k) (fun r S' => r = none ∧ K S')) ?_ ?_ 0 (by omega)
  · have key := z_down 10 (fun k => zGO o X n mdX2_renew 2 [(0, .ref (z_adr o (1, i, 0))), (1, .int (nI k))] [] (c_ren S i k 0) (fun r S' => r = none ∧ K S')) ?_ ?_ 0 (by omega)
    · have e : c_ren S i 0 0 = S := by refine z_ext (fun q t => ?_) (fun _ _ => rfl) (fun _ _ => rfl); simp [c_ren]
      rw [e] at key
      exact key
    · exact v_X2_renew_2 o n i hX hi hn _ _ _ ⟨fun _ => key2, fun h => absurd (by decide) h⟩
    · intro k hk ih
      refine v_X2_renew_2 o n i hX hi hn _ _ _ ⟨fun h => absurd h (z_ge (a := k) (b := 10) hk (by decide)), fun _ => ⟨z_in hk (by omega), ?_⟩⟩
      rw [z_cl (by omega), ren_count, ← nI_succ]
      exact ih
  · refine v_X2_renew_31 o n i hX hi hn _ _ _ _ ⟨fun _ => ?_, fun h => absurd (by decide) h⟩
    exact so_sp_renewL hX hi hn _ _ (fun S5 e5 => ⟨rfl, by subst e5; exact hK⟩)
  · intro k hk ih
    refine v_X2_renew_31 o n i hX hi hn _ _ _ _ ⟨fun h => absurd h (z_ge (a := k) (b := 16) hk (by decide)), fun _ => ⟨z_in hk (by omega), ?_⟩⟩
    rw [z_cl (by omega)]
    refine so_sp_renewB hX hi hn hk _ _ ?_
    rw [ren_box, ← nI_succ]
    exact ih
end SPO
