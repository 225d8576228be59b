set_option maxRecDepth 100000 in
set_option maxHeartbeats 4000000 in
theorem w_X2_renew_0 (o : zW) (n : Nat) (i : Nat) (hi : i < 8) (hn : z_sb i + 120 ≤ n) (S : zS) (Q : Option Value → zS → Prop) (h : zG o n mdX2_renew 2 [(0, .ref (z_adr o (1, i, 0))), (1, .int 0)] [] S Q) : zG o n mdX2_renew 0 [(0, .ref (z_adr o (1, i, 0)))] [] S Q := by
  show zJ o mdX2_renew 0 _ [] (n, z_enc o S) 0 0 _
  refine zJ.iconst (v := 0) dX2_renew_0 (by decide) ?_
  refine zJ.istore_n (lv' := [(1, .int 0), (0, .ref (z_adr o (1, i, 0)))]) dX2_renew_1 rfl (Nat.le_of_ble_eq_true rfl) rfl ?_
  exact zJ.sub [1, 0] rfl h
set_option maxRecDepth 100000 in
set_option maxHeartbeats 4000000 in
theorem w_X2_renew_2 (o : zW) (n : Nat) (i : Nat) (hi : i < 8) (hn : z_sb i + 120 ≤ n) (x1 : Int32) (S : zS) (Q : Option Value → zS → Prop) (h : (10 ≤ x1 → (zG o n mdX2_renew 31 [(0, .ref (z_adr o (1, i, 0))), (1, .ref (z_adr o (4, i, 0))), (2, .int 16), (3, .int 0)] [] S Q)) ∧ (¬ 10 ≤ x1 → (vp_in x1 10 ∧ (zG o n mdX2_renew 2 [(0, .ref (z_adr o (1, i, 0))), (1, .int (x1 + 1))] [] (sI S (3, i, 0) (x1.toNatClampNeg) 0) Q)))) : zG o n mdX2_renew 2 [(0, .ref (z_adr o (1, i, 0))), (1, .int x1)] [] S Q := by
  show zJ o mdX2_renew 2 _ [] (n, z_enc o S) 0 0 _
  refine zJ.iload_n 1 dX2_renew_2 rfl rfl ?_
  refine zJ.bipush (v := 10) dX2_renew_3 (by decide) ?_
  refine zJ.icmp_ge (tgt := 21) dX2_renew_5 (by decide) (fun c1 => ?_) (fun c1 => ?_)
  · replace h := h.1 c1
    refine zJ.aload_n 0 dX2_renew_21 rfl rfl ?_
    refine zE.getV (fd_1_2 o i) (ok_1 hi hn) kiX2 (Nat.le_of_ble_eq_true rfl) fl_X2_29 dX2_renew_22 ?_
    refine zJ.astore_n (lv' := [(1, .ref (z_adr o (4, i, 0))), (0, .ref (z_adr o (1, i, 0)))]) dX2_renew_25 rfl (Nat.le_of_ble_eq_true rfl) rfl ?_
    refine zJ.aload_n 0 dX2_renew_26 rfl rfl ?_
    refine zE.lenB (v := 16) (ok_4 hi hn) (by decide) dX2_renew_27 ?_
    refine zJ.istore_n (lv' := [(2, .int 16), (1, .ref (z_adr o (4, i, 0))), (0, .ref (z_adr o (1, i, 0)))]) dX2_renew_28 rfl (Nat.le_of_ble_eq_true rfl) rfl ?_
    refine zJ.iconst (v := 0) dX2_renew_29 (by decide) ?_
    refine zJ.istore_n (lv' := [(3, .int 0), (2, .int 16), (1, .ref (z_adr o (4, i, 0))), (0, .ref (z_adr o (1, i, 0)))]) dX2_renew_30 rfl (Nat.le_of_ble_eq_true rfl) rfl ?_
    exact zJ.sub [3, 2, 1, 0] rfl h
  · replace h := h.2 c1
    refine zJ.aload_n 0 dX2_renew_8 rfl rfl ?_
    refine zE.getV (fd_1_1 o i) (ok_1 hi hn) kiX2 (Nat.le_of_ble_eq_true rfl) fl_X2_24 dX2_renew_9 ?_
    refine zJ.iload_n 1 dX2_renew_12 rfl rfl ?_
    refine zJ.iconst (v := 0) dX2_renew_13 (by decide) ?_
    obtain ⟨hq, h⟩ := h
    refine zE.astI (ia_3 o i) (ok_3 hi hn) hq dX2_renew_14 ?_
    refine zJ.iinc (k := 1) (lv' := [(1, .int (x1 + 1)), (0, .ref (z_adr o (1, i, 0)))]) dX2_renew_15 rfl rfl (Nat.le_of_ble_eq_true rfl) rfl ?_
    refine zJ.goto (tgt := 2) dX2_renew_18 (by decide) ?_
    exact zJ.sub [1, 0] rfl h
set_option maxRecDepth 100000 in
set_option maxHeartbeats 4000000 in
theorem w_X2_renew_31 (o : zW) (n : Nat) (i : Nat) (hi : i < 8) (hn : z_sb i + 120 ≤ n) (x2 : Int32) (x3 : Int32) (S : zS) (Q : Option Value → zS → Prop) (h : (x2 ≤ x3 → (zGv o n mdX1_renew [.ref (z_adr o (12, i, 0))] S (fun S4 => ∀ S5 : zS, S5 = (sI (sI (sI (sF S4 (1, i, 0) 4 FP.fconst0) (1, i, 0) 5 0) (1, i, 0) 6 0) (1, i, 0) 7 0) → (Q none (sI S5 (1, i, 0) 8 (2000000000 : Int32)))))) ∧ (¬ x2 ≤ x3 → (vp_in x3 16 ∧ (zGv o n mdX0_renew [.ref (z_adr o (5, i, x3.toNatClampNeg))] S (fun S9 => zG o n mdX2_renew 31 [(0, .ref (z_adr o (1, i, 0))), (1, .ref (z_adr o (4, i, 0))), (2, .int x2), (3, .int (x3 + 1))] [] S9 Q))))) : zG o n mdX2_renew 31 [(0, .ref (z_adr o (1, i, 0))), (1, .ref (z_adr o (4, i, 0))), (2, .int x2), (3, .int x3)] [] S Q := by
  show zJ o mdX2_renew 31 _ [] (n, z_enc o S) 0 0 _
  refine zJ.iload_n 3 dX2_renew_31 rfl rfl ?_
  refine zJ.iload_n 2 dX2_renew_32 rfl rfl ?_
  refine zJ.icmp_ge (tgt := 52) dX2_renew_33 (by decide) (fun c1 => ?_) (fun c1 => ?_)
  · replace h := h.1 c1
    refine zJ.aload_n 0 dX2_renew_52 rfl rfl ?_
    refine zE.getV (fd_1_3 o i) (ok_1 hi hn) kiX2 (Nat.le_of_ble_eq_true rfl) fl_X2_39 dX2_renew_53 ?_
    refine zG.callVv [] [] (ob_12 o i) (ok_12 hi hn) rfl dX2_renew_56 ⟨(cb_X1_renew).1, (cb_X1_renew).2, (Nat.le_of_ble_eq_true rfl), (Nat.le_of_ble_eq_true rfl)⟩ ml_X2_47 ci_X1_renew cv_X1_renew rfl (Nat.le_of_ble_eq_true rfl) (Nat.le_of_ble_eq_true rfl) rfl h (fun S4 h2 => ?_)
    replace h := h2
    clear h2
    refine zJ.aload_n 0 dX2_renew_59 rfl rfl ?_
    refine zJ.fconst0 dX2_renew_60 ?_
    refine zE.putF (fd_1_4 o i) (ok_1 hi hn) kiX2 (Nat.le_of_ble_eq_true rfl) fl_X2_48 rfl rfl dX2_renew_61 ?_
    refine zJ.aload_n 0 dX2_renew_64 rfl rfl ?_
    refine zJ.iconst (v := 0) dX2_renew_65 (by decide) ?_
    refine zE.putI (fd_1_5 o i) (ok_1 hi hn) kiX2 (Nat.le_of_ble_eq_true rfl) fl_X2_52 rfl rfl dX2_renew_66 ?_
    refine zJ.aload_n 0 dX2_renew_69 rfl rfl ?_
    refine zJ.iconst (v := 0) dX2_renew_70 (by decide) ?_
    refine zE.putI (fd_1_6 o i) (ok_1 hi hn) kiX2 (Nat.le_of_ble_eq_true rfl) fl_X2_56 rfl rfl dX2_renew_71 ?_
    refine zJ.aload_n 0 dX2_renew_74 rfl rfl ?_
    refine zJ.iconst (v := 0) dX2_renew_75 (by decide) ?_
    refine zE.putI (fd_1_7 o i) (ok_1 hi hn) kiX2 (Nat.le_of_ble_eq_true rfl) fl_X2_59 rfl rfl dX2_renew_76 ?_
    refine zJ.nameS (fun S5 hyS5 => ?_)
    replace h := h S5 hyS5
    refine zJ.aload_n 0 dX2_renew_79 rfl rfl ?_
    refine zJ.ldc lc_X2_62 dX2_renew_80 ?_
    refine zE.putI (fd_1_8 o i) (ok_1 hi hn) kiX2 (Nat.le_of_ble_eq_true rfl) fl_X2_63 rfl rfl dX2_renew_82 ?_
    exact zG.ret (r := none) ⟨dX2_renew_85, rfl⟩ h
  · replace h := h.2 c1
    refine zJ.aload_n 1 dX2_renew_36 rfl rfl ?_
    refine zJ.iload_n 3 dX2_renew_37 rfl rfl ?_
    obtain ⟨hq6, h⟩ := h
    refine zE.aldB (ok_4 hi hn) hq6 dX2_renew_38 ?_
    refine zJ.astore (lv' := [(4, .ref (z_adr o (5, i, x3.toNatClampNeg))), (0, .ref (z_adr o (1, i, 0))), (1, .ref (z_adr o (4, i, 0))), (2, .int x2), (3, .int x3)]) dX2_renew_39 (Nat.le_of_ble_eq_true rfl) rfl ?_
    refine zJ.aload 0 dX2_renew_41 rfl ?_
    refine zG.callVv [] [] (ob_5 o i x3.toNatClampNeg) (ok_5 hi (z_vlt hq6) hn) rfl dX2_renew_43 ⟨(cb_X0_renew).1, (cb_X0_renew).2, (Nat.le_of_ble_eq_true rfl), (Nat.le_of_ble_eq_true rfl)⟩ ml_X2_46 ci_X0_renew cv_X0_renew rfl (Nat.le_of_ble_eq_true rfl) (Nat.le_of_ble_eq_true rfl) rfl h (fun S9 h2 => ?_)
    replace h := h2
    clear h2
    refine zJ.iinc (k := 4) (lv' := [(3, .int (x3 + 1)), (4, .ref (z_adr o (5, i, x3.toNatClampNeg))), (0, .ref (z_adr o (1, i, 0))), (1, .ref (z_adr o (4, i, 0))), (2, .int x2)]) dX2_renew_46 rfl rfl (Nat.le_of_ble_eq_true rfl) rfl ?_
    refine zJ.goto (tgt := 31) dX2_renew_49 (by decide) ?_
    exact zJ.sub [2, 3, 4, 0] rfl h
set_option maxRecDepth 100000 in
set_option maxHeartbeats 4000000 in
theorem w_X2_become_0 (o : zW) (n : Nat) (i : Nat) (hi : i < 8) (hn : z_sb i + 120 ≤ n) (i2 : Nat) (hi2 : i2 < 8) (hn2 : z_sb i2 + 120 ≤ n) (S : zS) (Q : Option Value → zS → Prop) (h : zG o n mdX2_become 34 [(0, .ref (z_adr o (1, i, 0))), (1, .ref (z_adr o (1, i2, 0))), (2, .int 0)] [] (sC (sC S (2, i2, 0) (2, i, 0) 0 0 5) (3, i2, 0) (3, i, 0) 0 0 10) Q) : zG o n mdX2_become 0 [(0, .ref (z_adr o (1, i, 0))), (1, .ref (z_adr o (1, i2, 0)))] [] S Q := by
  show zJ o mdX2_become 0 _ [] (n, z_enc o S) 0 0 _
  refine zJ.aload_n 1 dX2_become_0 rfl rfl ?_
  refine zE.getV (fd_1_0 o i2) (ok_1 hi2 hn2) kiX2 (Nat.le_of_ble_eq_true rfl) fl_X2_13 dX2_become_1 ?_
  refine zJ.iconst (v := 0) dX2_become_4 (by decide) ?_
  refine zJ.aload_n 0 dX2_become_5 rfl rfl ?_
  refine zE.getV (fd_1_0 o i) (ok_1 hi hn) kiX2 (Nat.le_of_ble_eq_true rfl) fl_X2_13 dX2_become_6 ?_
  refine zJ.iconst (v := 0) dX2_become_9 (by decide) ?_
  refine zJ.gets (i := 0) (by decide) fl_X2_9 dX2_become_10 ?_
  refine zJ.slen (i := 0) (by decide) dX2_become_13 ?_
  refine zE.copy ⟨ml_X2_18, ac_n, ac_s, ac_i⟩ (ia_2 o i2) (ia_2 o i) (ok_2 hi2 hn2) (ok_2 hi hn) (by decide) (by decide) (by decide) (by decide) (by decide) (Nat.le_of_ble_eq_true rfl) (by decide) dX2_become_14 ?_
  refine zJ.aload_n 1 dX2_become_17 rfl rfl ?_
  refine zE.getV (fd_1_1 o i2) (ok_1 hi2 hn2) kiX2 (Nat.le_of_ble_eq_true rfl) fl_X2_24 dX2_become_18 ?_
  refine zJ.iconst (v := 0) dX2_become_21 (by decide) ?_
  refine zJ.aload_n 0 dX2_become_22 rfl rfl ?_
  refine zE.getV (fd_1_1 o i) (ok_1 hi hn) kiX2 (Nat.le_of_ble_eq_true rfl) fl_X2_24 dX2_become_23 ?_
  refine zJ.iconst (v := 0) dX2_become_26 (by decide) ?_
  refine zJ.bipush (v := 10) dX2_become_27 (by decide) ?_
  refine zE.copy ⟨ml_X2_18, ac_n, ac_s, ac_i⟩ (ia_3 o i2) (ia_3 o i) (ok_3 hi2 hn2) (ok_3 hi hn) (by decide) (by decide) (by decide) (by decide) (by decide) (Nat.le_of_ble_eq_true rfl) (by decide) dX2_become_29 ?_
  refine zJ.iconst (v := 0) dX2_become_32 (by decide) ?_
  refine zJ.istore_n (lv' := [(2, .int 0), (0, .ref (z_adr o (1, i, 0))), (1, .ref (z_adr o (1, i2, 0)))]) dX2_become_33 rfl (Nat.le_of_ble_eq_true rfl) rfl ?_
  exact zJ.sub [1, 2, 0] rfl h
set_option maxRecDepth 100000 in
set_option maxHeartbeats 4000000 in
theorem w_X2_become_34 (o : zW) (n : Nat) (i : Nat) (hi : i < 8) (hn : z_sb i + 120 ≤ n) (i2 : Nat) (hi2 : i2 < 8) (hn2 : z_sb i2 + 120 ≤ n) (x2 : Int32) (S : zS) (Q : Option Value → zS → Prop) (h : (16 ≤ x2 → (zGv o n mdX1_become [.ref (z_adr o (12, i, 0)), .ref (z_adr o (12, i2, 0))] S (fun S4 => ∀ S5 : zS, S5 = (sI (sF S4 (1, i, 0) 4 (S4.2.2 (1, i2, 0) 4)) (1, i, 0) 5 ((sF S4 (1, i, 0) 4 (S4.2.2 (1, i2, 0) 4)).1 (1, i2, 0) 5)) → (∀ S6 : zS, S6 = (sI (sI S5 (1, i, 0) 6 (S5.1 (1, i2, 0) 6)) (1, i, 0) 7 ((sI S5 (1, i, 0) 6 (S5.1 (1, i2, 0) 6)).1 (1, i2, 0) 7)) → (Q none (sI S6 (1, i, 0) 8 (S6.1 (1, i2, 0) 8))))))) ∧ (¬ 16 ≤ x2 → (vp_in x2 16 ∧ (vp_in x2 16 ∧ (zGv o n mdX0_become [.ref (z_adr o (5, i, x2.toNatClampNeg)), .ref (z_adr o (5, i2, x2.toNatClampNeg))] S (fun S11 => zG o n mdX2_become 34 [(0, .ref (z_adr o (1, i, 0))), (1, .ref (z_adr o (1, i2, 0))), (2, .int (x2 + 1))] [] S11 Q)))))) : zG o n mdX2_become 34 [(0, .ref (z_adr o (1, i, 0))), (1, .ref (z_adr o (1, i2, 0))), (2, .int x2)] [] S Q := by
  show zJ o mdX2_become 34 _ [] (n, z_enc o S) 0 0 _
  refine zJ.iload_n 2 dX2_become_34 rfl rfl ?_
  refine zJ.bipush (v := 16) dX2_become_35 (by decide) ?_
  refine zJ.icmp_ge (tgt := 61) dX2_become_37 (by decide) (fun c1 => ?_) (fun c1 => ?_)
  · replace h := h.1 c1
    refine zJ.aload_n 0 dX2_become_61 rfl rfl ?_
    refine zE.getV (fd_1_3 o i) (ok_1 hi hn) kiX2 (Nat.le_of_ble_eq_true rfl) fl_X2_39 dX2_become_62 ?_
    refine zJ.aload_n 1 dX2_become_65 rfl rfl ?_
    refine zE.getV (fd_1_3 o i2) (ok_1 hi2 hn2) kiX2 (Nat.le_of_ble_eq_true rfl) fl_X2_39 dX2_become_66 ?_
    refine zG.callVv [.ref (z_adr o (12, i2, 0))] [] (ob_12 o i) (ok_12 hi hn) rfl dX2_become_69 ⟨(cb_X1_become).1, (cb_X1_become).2, (Nat.le_of_ble_eq_true rfl), (Nat.le_of_ble_eq_true rfl)⟩ ml_X2_70 ci_X1_become cv_X1_become rfl (Nat.le_of_ble_eq_true rfl) (Nat.le_of_ble_eq_true rfl) rfl h (fun S4 h2 => ?_)
    replace h := h2
    clear h2
    refine zJ.aload_n 0 dX2_become_72 rfl rfl ?_
    refine zJ.aload_n 1 dX2_become_73 rfl rfl ?_
    refine zE.getF (fd_1_4 o i2) (ok_1 hi2 hn2) kiX2 (Nat.le_of_ble_eq_true rfl) fl_X2_48 dX2_become_74 ?_
    refine zE.putF (fd_1_4 o i) (ok_1 hi hn) kiX2 (Nat.le_of_ble_eq_true rfl) fl_X2_48 rfl rfl dX2_become_77 ?_
    refine zJ.aload_n 0 dX2_become_80 rfl rfl ?_
    refine zJ.aload_n 1 dX2_become_81 rfl rfl ?_
    refine zE.getI (fd_1_5 o i2) (ok_1 hi2 hn2) kiX2 (Nat.le_of_ble_eq_true rfl) fl_X2_52 dX2_become_82 ?_
    refine zE.putI (fd_1_5 o i) (ok_1 hi hn) kiX2 (Nat.le_of_ble_eq_true rfl) fl_X2_52 rfl rfl dX2_become_85 ?_
    refine zJ.nameS (fun S5 hyS5 => ?_)
    replace h := h S5 hyS5
    refine zJ.aload_n 0 dX2_become_88 rfl rfl ?_
    refine zJ.aload_n 1 dX2_become_89 rfl rfl ?_
    refine zE.getI (fd_1_6 o i2) (ok_1 hi2 hn2) kiX2 (Nat.le_of_ble_eq_true rfl) fl_X2_56 dX2_become_90 ?_
    refine zE.putI (fd_1_6 o i) (ok_1 hi hn) kiX2 (Nat.le_of_ble_eq_true rfl) fl_X2_56 rfl rfl dX2_become_93 ?_
    refine zJ.aload_n 0 dX2_become_96 rfl rfl ?_
    refine zJ.aload_n 1 dX2_become_97 rfl rfl ?_
    refine zE.getI (fd_1_7 o i2) (ok_1 hi2 hn2) kiX2 (Nat.le_of_ble_eq_true rfl) fl_X2_59 dX2_become_98 ?_
    refine zE.putI (fd_1_7 o i) (ok_1 hi hn) kiX2 (Nat.le_of_ble_eq_true rfl) fl_X2_59 rfl rfl dX2_become_101 ?_
    refine zJ.nameS (fun S6 hyS6 => ?_)
    replace h := h S6 hyS6
    refine zJ.aload_n 0 dX2_become_104 rfl rfl ?_
    refine zJ.aload_n 1 dX2_become_105 rfl rfl ?_
    refine zE.getI (fd_1_8 o i2) (ok_1 hi2 hn2) kiX2 (Nat.le_of_ble_eq_true rfl) fl_X2_63 dX2_become_106 ?_
    refine zE.putI (fd_1_8 o i) (ok_1 hi hn) kiX2 (Nat.le_of_ble_eq_true rfl) fl_X2_63 rfl rfl dX2_become_109 ?_
    exact zG.ret (r := none) ⟨dX2_become_112, rfl⟩ h
  · replace h := h.2 c1
    refine zJ.aload_n 0 dX2_become_40 rfl rfl ?_
    refine zE.getV (fd_1_2 o i) (ok_1 hi hn) kiX2 (Nat.le_of_ble_eq_true rfl) fl_X2_29 dX2_become_41 ?_
    refine zJ.iload_n 2 dX2_become_44 rfl rfl ?_
    obtain ⟨hq7, h⟩ := h
    refine zE.aldB (ok_4 hi hn) hq7 dX2_become_45 ?_
    refine zJ.aload_n 1 dX2_become_46 rfl rfl ?_
    refine zE.getV (fd_1_2 o i2) (ok_1 hi2 hn2) kiX2 (Nat.le_of_ble_eq_true rfl) fl_X2_29 dX2_become_47 ?_
    refine zJ.iload_n 2 dX2_become_50 rfl rfl ?_
    obtain ⟨hq8, h⟩ := h
    refine zE.aldB (ok_4 hi2 hn2) hq8 dX2_become_51 ?_
    refine zG.callVv [.ref (z_adr o (5, i2, x2.toNatClampNeg))] [] (ob_5 o i x2.toNatClampNeg) (ok_5 hi (z_vlt hq7) hn) rfl dX2_become_52 ⟨(cb_X0_become).1, (cb_X0_become).2, (Nat.le_of_ble_eq_true rfl), (Nat.le_of_ble_eq_true rfl)⟩ ml_X2_66 ci_X0_become cv_X0_become rfl (Nat.le_of_ble_eq_true rfl) (Nat.le_of_ble_eq_true rfl) rfl h (fun S11 h2 => ?_)
    replace h := h2
    clear h2
    refine zJ.iinc (k := 2) (lv' := [(2, .int (x2 + 1)), (0, .ref (z_adr o (1, i, 0))), (1, .ref (z_adr o (1, i2, 0)))]) dX2_become_55 rfl rfl (Nat.le_of_ble_eq_true rfl) rfl ?_
    refine zJ.goto (tgt := 34) dX2_become_58 (by decide) ?_
    exact zJ.sub [1, 2, 0] rfl h
set_option maxRecDepth 100000 in
set_option maxHeartbeats 4000000 in
theorem w_X2_begin_0 (o : zW) (n : Nat) (i : Nat) (hi : i < 8) (hn : z_sb i + 120 ≤ n) (x1 : Option Nat) (hx1 : ∀ b, x1 = some b → b < 16) (x2 : Int32) (x3 : Int32) (S : zS) (Q : Option Value → zS → Prop) (h : zG o n mdX2_begin 3 [(0, .ref (z_adr o (1, i, 0))), (1, va_rf (z_bo o i x1)), (2, .int x2), (3, .int x3), (4, .int 0)] [] S Q) : zG o n mdX2_begin 0 [(0, .ref (z_adr o (1, i, 0))), (1, va_rf (z_bo o i x1)), (2, .int x2), (3, .int x3)] [] S Q := by
  show zJ o mdX2_begin 0 _ [] (n, z_enc o S) 0 0 _
  refine zJ.iconst (v := 0) dX2_begin_0 (by decide) ?_
  refine zJ.istore (lv' := [(4, .int 0), (0, .ref (z_adr o (1, i, 0))), (1, va_rf (z_bo o i x1)), (2, .int x2), (3, .int x3)]) dX2_begin_1 (Nat.le_of_ble_eq_true rfl) rfl ?_
  exact zJ.sub [1, 2, 3, 4, 0] rfl h
set_option maxRecDepth 100000 in
set_option maxHeartbeats 4000000 in
theorem w_X2_begin_3 (o : zW) (n : Nat) (i : Nat) (hi : i < 8) (hn : z_sb i + 120 ≤ n) (x1 : Option Nat) (hx1 : ∀ b, x1 = some b → b < 16) (x2 : Int32) (x3 : Int32) (x4 : Int32) (S : zS) (Q : Option Value → zS → Prop) (h : (1000 ≤ x4 → (Q (some (.int (S.1 (3, i, 0) 9))) S)) ∧ (¬ 1000 ≤ x4 → (zGv o n mdX2_pass [.ref (z_adr o (1, i, 0))] S (fun S4 => (x1 = none → ((¬ (S4.1 (1, i, 0) 5) = 0 → (zGv o n mdX2_tally [.ref (z_adr o (1, i, 0)), .int 4, .float (1036831949 : UInt32)] S4 (fun S10 => zG o n mdX2_begin 3 [(0, .ref (z_adr o (1, i, 0))), (1, .null), (2, .int x2), (3, .int x3), (4, .int (x4 + 1))] [] S10 Q))) ∧ ((S4.1 (1, i, 0) 5) = 0 → ((¬ (S4.1 (1, i, 0) 6) = 0 → (zGv o n mdX2_tally [.ref (z_adr o (1, i, 0)), .int 4, .float (1036831949 : UInt32)] S4 (fun S15 => zG o n mdX2_begin 3 [(0, .ref (z_adr o (1, i, 0))), (1, .null), (2, .int x2), (3, .int x3), (4, .int (x4 + 1))] [] S15 Q))) ∧ ((S4.1 (1, i, 0) 6) = 0 → (Q (some (.int (S4.1 (3, i, 0) 9))) S4)))))) ∧ (∀ b5, x1 = some b5 → (zGi o n mdX2_ask [.ref (z_adr o (1, i, 0)), .ref (z_adr o (5, i, b5)), .int x2, .int x3] S4 (fun r18 S19 => (r18 = 0 → (zGv o n mdX2_tally [.ref (z_adr o (1, i, 0)), .int 4, .float (1036831949 : UInt32)] S19 (fun S23 => zG o n mdX2_begin 3 [(0, .ref (z_adr o (1, i, 0))), (1, .ref (z_adr o (5, i, b5))), (2, .int x2), (3, .int x3), (4, .int (x4 + 1))] [] S23 Q))) ∧ (¬ r18 = 0 → (Q (some (.int (S19.1 (3, i, 0) 9))) S19))))))))) : zG o n mdX2_begin 3 [(0, .ref (z_adr o (1, i, 0))), (1, va_rf (z_bo o i x1)), (2, .int x2), (3, .int x3), (4, .int x4)] [] S Q := by
  show zJ o mdX2_begin 3 _ [] (n, z_enc o S) 0 0 _
  refine zJ.iload 4 dX2_begin_3 rfl ?_
  refine zJ.sipush (v := 1000) dX2_begin_5 (by decide) ?_
  refine zJ.icmp_ge (tgt := 76) dX2_begin_8 (by decide) (fun c1 => ?_) (fun c1 => ?_)
  · replace h := h.1 c1
    refine zJ.aload_n 0 dX2_begin_76 rfl rfl ?_
    refine zE.getV (fd_1_1 o i) (ok_1 hi hn) kiX2 (Nat.le_of_ble_eq_true rfl) fl_X2_24 dX2_begin_77 ?_
    refine zJ.bipush (v := 9) dX2_begin_80 (by decide) ?_
    refine zE.aldI (ia_3 o i) (ok_3 hi hn) (by unfold vp_in; decide) dX2_begin_82 ?_
    exact zG.ret (r := some (.int (S.1 (3, i, 0) 9))) ⟨dX2_begin_83, _, rfl, rfl⟩ h
  · replace h := h.2 c1
    refine zJ.aload_n 0 dX2_begin_11 rfl rfl ?_
    refine zG.callVv [] [] (ob_1 o i) (ok_1 hi hn) rfl dX2_begin_12 ⟨(cb_X2_pass).1, (cb_X2_pass).2, (Nat.le_of_ble_eq_true rfl), (Nat.le_of_ble_eq_true rfl)⟩ ml_X2_73 ci_X2_pass cv_X2_pass rfl (Nat.le_of_ble_eq_true rfl) (Nat.le_of_ble_eq_true rfl) rfl h (fun S4 h2 => ?_)
    replace h := h2
    clear h2
    refine zJ.aloadq_n (x := z_bo o i x1) 1 dX2_begin_15 rfl rfl ?_
    refine zE.ifnonnull (tgt := 41) dX2_begin_16 (by decide) ?_ ?_
    · intro b5 hz
      replace h := h.2 b5 hz
      subst hz
      refine zJ.aload_n 0 dX2_begin_41 rfl rfl ?_
      refine zJ.aload_n 1 dX2_begin_42 rfl rfl ?_
      refine zJ.iload_n 2 dX2_begin_43 rfl rfl ?_
      refine zJ.iload_n 3 dX2_begin_44 rfl rfl ?_
      refine zG.callVi [.ref (z_adr o (5, i, b5)), .int x2, .int x3] [] (ob_1 o i) (ok_1 hi hn) rfl dX2_begin_45 ⟨(cb_X2_ask).1, (cb_X2_ask).2, (Nat.le_of_ble_eq_true rfl), (Nat.le_of_ble_eq_true rfl)⟩ ml_X2_76 ci_X2_ask cv_X2_ask rfl (Nat.le_of_ble_eq_true rfl) (Nat.le_of_ble_eq_true rfl) rfl h (fun r18 S19 h2 => ?_)
      replace h := h2
      clear h2
      refine zJ.istore (lv' := [(5, .int r18), (0, .ref (z_adr o (1, i, 0))), (1, .ref (z_adr o (5, i, b5))), (2, .int x2), (3, .int x3), (4, .int x4)]) dX2_begin_48 (Nat.le_of_ble_eq_true rfl) rfl ?_
      refine zJ.iload 0 dX2_begin_50 rfl ?_
      refine zJ.if_eq (tgt := 63) dX2_begin_52 (by decide) (fun c20 => ?_) (fun c20 => ?_)
      · replace h := h.1 c20
        refine zJ.aload_n 1 dX2_begin_63 rfl rfl ?_
        refine zJ.iconst (v := 4) dX2_begin_64 (by decide) ?_
        refine zJ.ldcf lc_X2_80 dX2_begin_65 ?_
        refine zG.callVv [.int 4, .float (1036831949 : UInt32)] [] (ob_1 o i) (ok_1 hi hn) rfl dX2_begin_67 ⟨(cb_X2_tally).1, (cb_X2_tally).2, (Nat.le_of_ble_eq_true rfl), (Nat.le_of_ble_eq_true rfl)⟩ ml_X2_81 ci_X2_tally cv_X2_tally rfl (Nat.le_of_ble_eq_true rfl) (Nat.le_of_ble_eq_true rfl) rfl h (fun S23 h2 => ?_)
        replace h := h2
        clear h2
        refine zJ.iinc (k := 5) (lv' := [(4, .int (x4 + 1)), (5, .int r18), (0, .ref (z_adr o (1, i, 0))), (1, .ref (z_adr o (5, i, b5))), (2, .int x2), (3, .int x3)]) dX2_begin_70 rfl rfl (Nat.le_of_ble_eq_true rfl) rfl ?_
        refine zJ.goto (tgt := 3) dX2_begin_73 (by decide) ?_
        exact zJ.sub [2, 3, 4, 5, 0] rfl h
      · replace h := h.2 c20
        refine zJ.aload_n 1 dX2_begin_55 rfl rfl ?_
        refine zE.getV (fd_1_1 o i) (ok_1 hi hn) kiX2 (Nat.le_of_ble_eq_true rfl) fl_X2_24 dX2_begin_56 ?_
        refine zJ.bipush (v := 9) dX2_begin_59 (by decide) ?_
        refine zE.aldI (ia_3 o i) (ok_3 hi hn) (by unfold vp_in; decide) dX2_begin_61 ?_
        exact zG.ret (r := some (.int (S19.1 (3, i, 0) 9))) ⟨dX2_begin_62, _, rfl, rfl⟩ h
    · intro hz
      replace h := h.1 hz
      subst hz
      refine zJ.aload_n 0 dX2_begin_19 rfl rfl ?_
      refine zE.getI (fd_1_5 o i) (ok_1 hi hn) kiX2 (Nat.le_of_ble_eq_true rfl) fl_X2_52 dX2_begin_20 ?_
      refine zJ.if_ne (tgt := 37) dX2_begin_23 (by decide) (fun c6 => ?_) (fun c6 => ?_)
      · replace h := h.1 c6
        refine zJ.iconst (v := 0) dX2_begin_37 (by decide) ?_
        refine zJ.goto (tgt := 48) dX2_begin_38 (by decide) ?_
        refine zJ.istore (lv' := [(5, .int 0), (0, .ref (z_adr o (1, i, 0))), (1, .null), (2, .int x2), (3, .int x3), (4, .int x4)]) dX2_begin_48 (Nat.le_of_ble_eq_true rfl) rfl ?_
        refine zJ.iload 0 dX2_begin_50 rfl ?_
        refine zJ.if_eq (tgt := 63) dX2_begin_52 (by decide) (fun c7 => ?_) (fun c7 => absurd c7 (by decide))
        refine zJ.aload_n 1 dX2_begin_63 rfl rfl ?_
        refine zJ.iconst (v := 4) dX2_begin_64 (by decide) ?_
        refine zJ.ldcf lc_X2_80 dX2_begin_65 ?_
        refine zG.callVv [.int 4, .float (1036831949 : UInt32)] [] (ob_1 o i) (ok_1 hi hn) rfl dX2_begin_67 ⟨(cb_X2_tally).1, (cb_X2_tally).2, (Nat.le_of_ble_eq_true rfl), (Nat.le_of_ble_eq_true rfl)⟩ ml_X2_81 ci_X2_tally cv_X2_tally rfl (Nat.le_of_ble_eq_true rfl) (Nat.le_of_ble_eq_true rfl) rfl h (fun S10 h2 => ?_)
        replace h := h2
        clear h2
        refine zJ.iinc (k := 5) (lv' := [(4, .int (x4 + 1)), (5, .int 0), (0, .ref (z_adr o (1, i, 0))), (1, .null), (2, .int x2), (3, .int x3)]) dX2_begin_70 rfl rfl (Nat.le_of_ble_eq_true rfl) rfl ?_
        refine zJ.goto (tgt := 3) dX2_begin_73 (by decide) ?_
        exact zJ.sub [2, 3, 4, 5, 0] rfl h
      · replace h := h.2 c6
        refine zJ.aload_n 0 dX2_begin_26 rfl rfl ?_
        refine zE.getI (fd_1_6 o i) (ok_1 hi hn) kiX2 (Nat.le_of_ble_eq_true rfl) fl_X2_56 dX2_begin_27 ?_
        refine zJ.if_ne (tgt := 37) dX2_begin_30 (by decide) (fun c11 => ?_) (fun c11 => ?_)
        · replace h := h.1 c11
          refine zJ.iconst (v := 0) dX2_begin_37 (by decide) ?_
          refine zJ.goto (tgt := 48) dX2_begin_38 (by decide) ?_
          refine zJ.istore (lv' := [(5, .int 0), (0, .ref (z_adr o (1, i, 0))), (1, .null), (2, .int x2), (3, .int x3), (4, .int x4)]) dX2_begin_48 (Nat.le_of_ble_eq_true rfl) rfl ?_
          refine zJ.iload 0 dX2_begin_50 rfl ?_
          refine zJ.if_eq (tgt := 63) dX2_begin_52 (by decide) (fun c12 => ?_) (fun c12 => absurd c12 (by decide))
          refine zJ.aload_n 1 dX2_begin_63 rfl rfl ?_
          refine zJ.iconst (v := 4) dX2_begin_64 (by decide) ?_
          refine zJ.ldcf lc_X2_80 dX2_begin_65 ?_
          refine zG.callVv [.int 4, .float (1036831949 : UInt32)] [] (ob_1 o i) (ok_1 hi hn) rfl dX2_begin_67 ⟨(cb_X2_tally).1, (cb_X2_tally).2, (Nat.le_of_ble_eq_true rfl), (Nat.le_of_ble_eq_true rfl)⟩ ml_X2_81 ci_X2_tally cv_X2_tally rfl (Nat.le_of_ble_eq_true rfl) (Nat.le_of_ble_eq_true rfl) rfl h (fun S15 h2 => ?_)
          replace h := h2
          clear h2
          refine zJ.iinc (k := 5) (lv' := [(4, .int (x4 + 1)), (5, .int 0), (0, .ref (z_adr o (1, i, 0))), (1, .null), (2, .int x2), (3, .int x3)]) dX2_begin_70 rfl rfl (Nat.le_of_ble_eq_true rfl) rfl ?_
          refine zJ.goto (tgt := 3) dX2_begin_73 (by decide) ?_
          exact zJ.sub [2, 3, 4, 5, 0] rfl h
        · replace h := h.2 c11
          refine zJ.iconst (v := 1) dX2_begin_33 (by decide) ?_
          refine zJ.goto (tgt := 48) dX2_begin_34 (by decide) ?_
          refine zJ.istore (lv' := [(5, .int 1), (0, .ref (z_adr o (1, i, 0))), (1, .null), (2, .int x2), (3, .int x3), (4, .int x4)]) dX2_begin_48 (Nat.le_of_ble_eq_true rfl) rfl ?_
          refine zJ.iload 0 dX2_begin_50 rfl ?_
          refine zJ.if_eq (tgt := 63) dX2_begin_52 (by decide) (fun c16 => absurd c16 (by decide)) (fun c16 => ?_)
          refine zJ.aload_n 1 dX2_begin_55 rfl rfl ?_
          refine zE.getV (fd_1_1 o i) (ok_1 hi hn) kiX2 (Nat.le_of_ble_eq_true rfl) fl_X2_24 dX2_begin_56 ?_
          refine zJ.bipush (v := 9) dX2_begin_59 (by decide) ?_
          refine zE.aldI (ia_3 o i) (ok_3 hi hn) (by unfold vp_in; decide) dX2_begin_61 ?_
          exact zG.ret (r := some (.int (S4.1 (3, i, 0) 9))) ⟨dX2_begin_62, _, rfl, rfl⟩ h
set_option maxRecDepth 100000 in
set_option maxHeartbeats 4000000 in
theorem w_X2_pause_0 (o : zW) (n : Nat) (i : Nat) (hi : i < 8) (hn : z_sb i + 120 ≤ n) (x1 : Int32) (S : zS) (Q : Option Value → zS → Prop) (h : zG o n mdX2_pause 2 [(0, .ref (z_adr o (1, i, 0))), (1, .int x1), (2, .int 0)] [] S Q) : zG o n mdX2_pause 0 [(0, .ref (z_adr o (1, i, 0))), (1, .int x1)] [] S Q := by
  show zJ o mdX2_pause 0 _ [] (n, z_enc o S) 0 0 _
  refine zJ.iconst (v := 0) dX2_pause_0 (by decide) ?_
  refine zJ.istore_n (lv' := [(2, .int 0), (0, .ref (z_adr o (1, i, 0))), (1, .int x1)]) dX2_pause_1 rfl (Nat.le_of_ble_eq_true rfl) rfl ?_
  exact zJ.sub [1, 2, 0] rfl h
set_option maxRecDepth 100000 in
set_option maxHeartbeats 4000000 in
theorem w_X2_pause_2 (o : zW) (n : Nat) (i : Nat) (hi : i < 8) (hn : z_sb i + 120 ≤ n) (x1 : Int32) (x2 : Int32) (S : zS) (Q : Option Value → zS → Prop) (h : (x1 ≤ x2 → (Q none S)) ∧ (¬ x1 ≤ x2 → ((99 ≤ x2 → (Q none S)) ∧ (¬ 99 ≤ x2 → (zGv o n mdX2_pass [.ref (z_adr o (1, i, 0))] S (fun S5 => zG o n mdX2_pause 2 [(0, .ref (z_adr o (1, i, 0))), (1, .int x1), (2, .int (x2 + 1))] [] S5 Q)))))) : zG o n mdX2_pause 2 [(0, .ref (z_adr o (1, i, 0))), (1, .int x1), (2, .int x2)] [] S Q := by
  show zJ o mdX2_pause 2 _ [] (n, z_enc o S) 0 0 _
  refine zJ.iload_n 2 dX2_pause_2 rfl rfl ?_
  refine zJ.iload_n 1 dX2_pause_3 rfl rfl ?_
  refine zJ.icmp_ge (tgt := 23) dX2_pause_4 (by decide) (fun c1 => ?_) (fun c1 => ?_)
  · replace h := h.1 c1
    exact zG.ret (r := none) ⟨dX2_pause_23, rfl⟩ h
  · replace h := h.2 c1
    refine zJ.iload_n 2 dX2_pause_7 rfl rfl ?_
    refine zJ.bipush (v := 99) dX2_pause_8 (by decide) ?_
    refine zJ.icmp_ge (tgt := 23) dX2_pause_10 (by decide) (fun c2 => ?_) (fun c2 => ?_)
    · replace h := h.1 c2
      exact zG.ret (r := none) ⟨dX2_pause_23, rfl⟩ h
    · replace h := h.2 c2
      refine zJ.aload_n 0 dX2_pause_13 rfl rfl ?_
      refine zG.callVv [] [] (ob_1 o i) (ok_1 hi hn) rfl dX2_pause_14 ⟨(cb_X2_pass).1, (cb_X2_pass).2, (Nat.le_of_ble_eq_true rfl), (Nat.le_of_ble_eq_true rfl)⟩ ml_X2_73 ci_X2_pass cv_X2_pass rfl (Nat.le_of_ble_eq_true rfl) (Nat.le_of_ble_eq_true rfl) rfl h (fun S5 h2 => ?_)
      replace h := h2
      clear h2
      refine zJ.iinc (k := 2) (lv' := [(2, .int (x2 + 1)), (0, .ref (z_adr o (1, i, 0))), (1, .int x1)]) dX2_pause_17 rfl rfl (Nat.le_of_ble_eq_true rfl) rfl ?_
      refine zJ.goto (tgt := 2) dX2_pause_20 (by decide) ?_
      exact zJ.sub [1, 2, 0] rfl h
set_option maxRecDepth 100000 in
set_option maxHeartbeats 4000000 in
theorem w_X2_carryOut_0 (o : zW) (i : Nat) (hi : i < 8) (S : zS) (Q : Option Value → zS → Prop) (h : zG o 994 mdX2_carryOut 2 [(0, .ref (z_adr o (1, i, 0))), (1, .ref (z_adr o (16, 0, 0))), (2, .int 0)] [] S Q) : zG o 994 mdX2_carryOut 0 [(0, .ref (z_adr o (1, i, 0))), (1, .ref (z_adr o (16, 0, 0)))] [] S Q := by
  show zJ o mdX2_carryOut 0 _ [] (994, z_enc o S) 0 0 _
  refine zJ.iconst (v := 0) dX2_carryOut_0 (by decide) ?_
  refine zJ.istore_n (lv' := [(2, .int 0), (0, .ref (z_adr o (1, i, 0))), (1, .ref (z_adr o (16, 0, 0)))]) dX2_carryOut_1 rfl (Nat.le_of_ble_eq_true rfl) rfl ?_
  exact zJ.sub [1, 2, 0] rfl h
set_option maxRecDepth 100000 in
set_option maxHeartbeats 4000000 in
theorem w_X2_carryOut_2 (o : zW) (i : Nat) (hi : i < 8) (x2 : Int32) (S : zS) (Q : Option Value → zS → Prop) (h : ((S.1 (16, 0, 0) 5) ≤ x2 → (Q none S)) ∧ (¬ (S.1 (16, 0, 0) 5) ≤ x2 → ((60 ≤ x2 → (Q none S)) ∧ (¬ 60 ≤ x2 → (vp_in x2 60 ∧ ((¬ (S.1 (18, 0, 0) x2.toNatClampNeg) = (-2) → (zGi o 994 mdX4_isBox [.int (S.1 (18, 0, 0) x2.toNatClampNeg)] S (fun r5 S6 => (r5 = 0 → (vp_in x2 60 ∧ (vp_in x2 60 ∧ (zGi o 994 mdX2_begin [.ref (z_adr o (1, i, 0)), .null, .int (S6.1 (19, 0, 0) x2.toNatClampNeg), .int (S6.1 (20, 0, 0) x2.toNatClampNeg)] S6 (fun r9 S10 => zG o 994 mdX2_carryOut 2 [(0, .ref (z_adr o (1, i, 0))), (1, .ref (z_adr o (16, 0, 0))), (2, .int (x2 + 1))] [] S10 Q))))) ∧ (¬ r5 = 0 → (vp_in (S.1 (18, 0, 0) x2.toNatClampNeg) 16 ∧ (vp_in x2 60 ∧ (vp_in x2 60 ∧ (zGi o 994 mdX2_begin [.ref (z_adr o (1, i, 0)), .ref (z_adr o (5, i, (S.1 (18, 0, 0) x2.toNatClampNeg).toNatClampNeg)), .int (S6.1 (19, 0, 0) x2.toNatClampNeg), .int (S6.1 (20, 0, 0) x2.toNatClampNeg)] S6 (fun r13 S14 => zG o 994 mdX2_carryOut 2 [(0, .ref (z_adr o (1, i, 0))), (1, .ref (z_adr o (16, 0, 0))), (2, .int (x2 + 1))] [] S14 Q))))))))) ∧ ((S.1 (18, 0, 0) x2.toNatClampNeg) = (-2) → (vp_in x2 60 ∧ (zGv o 994 mdX2_pause [.ref (z_adr o (1, i, 0)), .int (S.1 (20, 0, 0) x2.toNatClampNeg)] S (fun S17 => zG o 994 mdX2_carryOut 2 [(0, .ref (z_adr o (1, i, 0))), (1, .ref (z_adr o (16, 0, 0))), (2, .int (x2 + 1))] [] S17 Q)))))))))) : zG o 994 mdX2_carryOut 2 [(0, .ref (z_adr o (1, i, 0))), (1, .ref (z_adr o (16, 0, 0))), (2, .int x2)] [] S Q := by
  show zJ o mdX2_carryOut 2 _ [] (994, z_enc o S) 0 0 _
  refine zJ.iload_n 2 dX2_carryOut_2 rfl rfl ?_
  refine zJ.aload_n 1 dX2_carryOut_3 rfl rfl ?_
  refine zE.getI (fd_16_5 o) ok_16 kiX3 (Nat.le_of_ble_eq_true rfl) fl_X2_85 dX2_carryOut_4 ?_
  refine zJ.icmp_ge (tgt := 82) dX2_carryOut_7 (by decide) (fun c1 => ?_) (fun c1 => ?_)
  · replace h := h.1 c1
    exact zG.ret (r := none) ⟨dX2_carryOut_82, rfl⟩ h
  · replace h := h.2 c1
    refine zJ.iload_n 2 dX2_carryOut_10 rfl rfl ?_
    refine zJ.bipush (v := 60) dX2_carryOut_11 (by decide) ?_
    refine zJ.icmp_ge (tgt := 82) dX2_carryOut_13 (by decide) (fun c2 => ?_) (fun c2 => ?_)
    · replace h := h.1 c2
      exact zG.ret (r := none) ⟨dX2_carryOut_82, rfl⟩ h
    · replace h := h.2 c2
      refine zJ.aload_n 1 dX2_carryOut_16 rfl rfl ?_
      refine zE.getV (fd_16_1 o) ok_16 kiX3 (Nat.le_of_ble_eq_true rfl) fl_X2_90 dX2_carryOut_17 ?_
      refine zJ.iload_n 2 dX2_carryOut_20 rfl rfl ?_
      obtain ⟨hq, h⟩ := h
      refine zE.aldI (ia_18 o) ok_18 hq dX2_carryOut_21 ?_
      refine zJ.istore_n (lv' := [(3, .int (S.1 (18, 0, 0) x2.toNatClampNeg)), (0, .ref (z_adr o (1, i, 0))), (1, .ref (z_adr o (16, 0, 0))), (2, .int x2)]) dX2_carryOut_22 rfl (Nat.le_of_ble_eq_true rfl) rfl ?_
      refine zJ.iload_n 0 dX2_carryOut_23 rfl rfl ?_
      refine zJ.bipush (v := (-2)) dX2_carryOut_24 (by decide) ?_
      refine zJ.icmp_ne (tgt := 42) dX2_carryOut_26 (by decide) (fun c3 => ?_) (fun c3 => ?_)
      · replace h := h.1 c3
        refine zJ.aload_n 1 dX2_carryOut_42 rfl rfl ?_
        refine zJ.iload_n 0 dX2_carryOut_43 rfl rfl ?_
        refine zG.callSi [.int (S.1 (18, 0, 0) x2.toNatClampNeg)] [.ref (z_adr o (1, i, 0))] dX2_carryOut_44 ⟨(cb_X4_isBox).1, (cb_X4_isBox).2, (Nat.le_of_ble_eq_true rfl), (Nat.le_of_ble_eq_true rfl)⟩ ml_X2_99 cs_X4_isBox rfl (Nat.le_of_ble_eq_true rfl) (Nat.le_of_ble_eq_true rfl) rfl h (fun r5 S6 h2 => ?_)
        replace h := h2
        clear h2
        refine zJ.if_eq (tgt := 59) dX2_carryOut_47 (by decide) (fun c7 => ?_) (fun c7 => ?_)
        · replace h := h.1 c7
          refine zJ.null dX2_carryOut_59 ?_
          refine zJ.aload_n 2 dX2_carryOut_60 rfl rfl ?_
          refine zE.getV (fd_16_2 o) ok_16 kiX3 (Nat.le_of_ble_eq_true rfl) fl_X2_103 dX2_carryOut_61 ?_
          refine zJ.iload_n 3 dX2_carryOut_64 rfl rfl ?_
          obtain ⟨hq, h⟩ := h
          refine zE.aldI (ia_19 o) ok_19 hq dX2_carryOut_65 ?_
          refine zJ.aload_n 2 dX2_carryOut_66 rfl rfl ?_
          refine zE.getV (fd_16_3 o) ok_16 kiX3 (Nat.le_of_ble_eq_true rfl) fl_X2_93 dX2_carryOut_67 ?_
          refine zJ.iload_n 3 dX2_carryOut_70 rfl rfl ?_
          obtain ⟨hq, h⟩ := h
          refine zE.aldI (ia_20 o) ok_20 hq dX2_carryOut_71 ?_
          refine zG.callVi [.null, .int (S6.1 (19, 0, 0) x2.toNatClampNeg), .int (S6.1 (20, 0, 0) x2.toNatClampNeg)] [] (ob_1 o i) (ok_1 hi (z_sb_le hi)) rfl dX2_carryOut_72 ⟨(cb_X2_begin).1, (cb_X2_begin).2, (Nat.le_of_ble_eq_true rfl), (Nat.le_of_ble_eq_true rfl)⟩ ml_X2_106 ci_X2_begin cv_X2_begin rfl (Nat.le_of_ble_eq_true rfl) (Nat.le_of_ble_eq_true rfl) rfl h (fun r9 S10 h2 => ?_)
          replace h := h2
          clear h2
          refine zJ.pop dX2_carryOut_75 rfl ?_
          refine zJ.iinc (k := 3) (lv' := [(2, .int (x2 + 1)), (3, .int (S.1 (18, 0, 0) x2.toNatClampNeg)), (0, .ref (z_adr o (1, i, 0))), (1, .ref (z_adr o (16, 0, 0)))]) dX2_carryOut_76 rfl rfl (Nat.le_of_ble_eq_true rfl) rfl ?_
          refine zJ.goto (tgt := 2) dX2_carryOut_79 (by decide) ?_
          exact zJ.sub [2, 3, 0] rfl h
        · replace h := h.2 c7
          refine zJ.aload_n 1 dX2_carryOut_50 rfl rfl ?_
          refine zE.getV (fd_1_2 o i) (ok_1 hi (z_sb_le hi)) kiX2 (Nat.le_of_ble_eq_true rfl) fl_X2_29 dX2_carryOut_51 ?_
          refine zJ.iload_n 0 dX2_carryOut_54 rfl rfl ?_
          obtain ⟨hq11, h⟩ := h
          refine zE.aldB (ok_4 hi (z_sb_le hi)) hq11 dX2_carryOut_55 ?_
          refine zJ.goto (tgt := 60) dX2_carryOut_56 (by decide) ?_
          refine zJ.aload_n 2 dX2_carryOut_60 rfl rfl ?_
          refine zE.getV (fd_16_2 o) ok_16 kiX3 (Nat.le_of_ble_eq_true rfl) fl_X2_103 dX2_carryOut_61 ?_
          refine zJ.iload_n 3 dX2_carryOut_64 rfl rfl ?_
          obtain ⟨hq, h⟩ := h
          refine zE.aldI (ia_19 o) ok_19 hq dX2_carryOut_65 ?_
          refine zJ.aload_n 2 dX2_carryOut_66 rfl rfl ?_
          refine zE.getV (fd_16_3 o) ok_16 kiX3 (Nat.le_of_ble_eq_true rfl) fl_X2_93 dX2_carryOut_67 ?_
          refine zJ.iload_n 3 dX2_carryOut_70 rfl rfl ?_
          obtain ⟨hq, h⟩ := h
          refine zE.aldI (ia_20 o) ok_20 hq dX2_carryOut_71 ?_
          refine zG.callVi [.ref (z_adr o (5, i, (S.1 (18, 0, 0) x2.toNatClampNeg).toNatClampNeg)), .int (S6.1 (19, 0, 0) x2.toNatClampNeg), .int (S6.1 (20, 0, 0) x2.toNatClampNeg)] [] (ob_1 o i) (ok_1 hi (z_sb_le hi)) rfl dX2_carryOut_72 ⟨(cb_X2_begin).1, (cb_X2_begin).2, (Nat.le_of_ble_eq_true rfl), (Nat.le_of_ble_eq_true rfl)⟩ ml_X2_106 ci_X2_begin cv_X2_begin rfl (Nat.le_of_ble_eq_true rfl) (Nat.le_of_ble_eq_true rfl) rfl h (fun r13 S14 h2 => ?_)
          replace h := h2
          clear h2
          refine zJ.pop dX2_carryOut_75 rfl ?_
          refine zJ.iinc (k := 3) (lv' := [(2, .int (x2 + 1)), (3, .int (S.1 (18, 0, 0) x2.toNatClampNeg)), (0, .ref (z_adr o (1, i, 0))), (1, .ref (z_adr o (16, 0, 0)))]) dX2_carryOut_76 rfl rfl (Nat.le_of_ble_eq_true rfl) rfl ?_
          refine zJ.goto (tgt := 2) dX2_carryOut_79 (by decide) ?_
          exact zJ.sub [2, 3, 0] rfl h
      · replace h := h.2 c3
        refine zJ.aload_n 1 dX2_carryOut_29 rfl rfl ?_
        refine zJ.aload_n 2 dX2_carryOut_30 rfl rfl ?_
        refine zE.getV (fd_16_3 o) ok_16 kiX3 (Nat.le_of_ble_eq_true rfl) fl_X2_93 dX2_carryOut_31 ?_
        refine zJ.iload_n 3 dX2_carryOut_34 rfl rfl ?_
        obtain ⟨hq, h⟩ := h
        refine zE.aldI (ia_20 o) ok_20 hq dX2_carryOut_35 ?_
        refine zG.callVv [.int (S.1 (20, 0, 0) x2.toNatClampNeg)] [] (ob_1 o i) (ok_1 hi (z_sb_le hi)) rfl dX2_carryOut_36 ⟨(cb_X2_pause).1, (cb_X2_pause).2, (Nat.le_of_ble_eq_true rfl), (Nat.le_of_ble_eq_true rfl)⟩ ml_X2_96 ci_X2_pause cv_X2_pause rfl (Nat.le_of_ble_eq_true rfl) (Nat.le_of_ble_eq_true rfl) rfl h (fun S17 h2 => ?_)
        replace h := h2
        clear h2
        refine zJ.goto (tgt := 76) dX2_carryOut_39 (by decide) ?_
        refine zJ.iinc (k := 3) (lv' := [(2, .int (x2 + 1)), (3, .int (S.1 (18, 0, 0) x2.toNatClampNeg)), (0, .ref (z_adr o (1, i, 0))), (1, .ref (z_adr o (16, 0, 0)))]) dX2_carryOut_76 rfl rfl (Nat.le_of_ble_eq_true rfl) rfl ?_
        refine zJ.goto (tgt := 2) dX2_carryOut_79 (by decide) ?_
        exact zJ.sub [2, 3, 0] rfl h
set_option maxRecDepth 100000 in
set_option maxHeartbeats 4000000 in
theorem w_X2_startTrial_0 (o : zW) (n : Nat) (i : Nat) (hi : i < 8) (hn : z_sb i + 120 ≤ n) (i2 : Nat) (hi2 : i2 < 8) (hn2 : z_sb i2 + 120 ≤ n) (x2 : Int32) (S : zS) (Q : Option Value → zS → Prop) (h : zGv o n mdX2_renew [.ref (z_adr o (1, i, 0))] (sI (sC S (2, i2, 0) (2, i, 0) 0 0 5) (2, i, 0) 2 x2) (fun S4 => Q none S4)) : zG o n mdX2_startTrial 0 [(0, .ref (z_adr o (1, i, 0))), (1, .ref (z_adr o (2, i2, 0))), (2, .int x2)] [] S Q := by
  show zJ o mdX2_startTrial 0 _ [] (n, z_enc o S) 0 0 _
  refine zJ.aload_n 1 dX2_startTrial_0 rfl rfl ?_
  refine zJ.iconst (v := 0) dX2_startTrial_1 (by decide) ?_
  refine zJ.aload_n 0 dX2_startTrial_2 rfl rfl ?_
  refine zE.getV (fd_1_0 o i) (ok_1 hi hn) kiX2 (Nat.le_of_ble_eq_true rfl) fl_X2_13 dX2_startTrial_3 ?_
  refine zJ.iconst (v := 0) dX2_startTrial_6 (by decide) ?_
  refine zJ.gets (i := 0) (by decide) fl_X2_9 dX2_startTrial_7 ?_
  refine zJ.slen (i := 0) (by decide) dX2_startTrial_10 ?_
  refine zE.copy ⟨ml_X2_18, ac_n, ac_s, ac_i⟩ (ia_2 o i2) (ia_2 o i) (ok_2 hi2 hn2) (ok_2 hi hn) (by decide) (by decide) (by decide) (by decide) (by decide) (Nat.le_of_ble_eq_true rfl) (by decide) dX2_startTrial_11 ?_
  refine zJ.aload_n 0 dX2_startTrial_14 rfl rfl ?_
  refine zE.getV (fd_1_0 o i) (ok_1 hi hn) kiX2 (Nat.le_of_ble_eq_true rfl) fl_X2_13 dX2_startTrial_15 ?_
  refine zJ.iconst (v := 2) dX2_startTrial_18 (by decide) ?_
  refine zJ.iload_n 2 dX2_startTrial_19 rfl rfl ?_
  refine zE.astI (ia_2 o i) (ok_2 hi hn) (by unfold vp_in; decide) dX2_startTrial_20 ?_
  refine zJ.aload_n 0 dX2_startTrial_21 rfl rfl ?_
  refine zG.callVv [] [] (ob_1 o i) (ok_1 hi hn) rfl dX2_startTrial_22 ⟨(cb_X2_renew).1, (cb_X2_renew).2, (Nat.le_of_ble_eq_true rfl), (Nat.le_of_ble_eq_true rfl)⟩ ml_X2_43 ci_X2_renew cv_X2_renew rfl (Nat.le_of_ble_eq_true rfl) (Nat.le_of_ble_eq_true rfl) rfl h (fun S4 h2 => ?_)
  replace h := h2
  clear h2
  exact zG.ret (r := none) ⟨dX2_startTrial_25, rfl⟩ h
set_option maxRecDepth 100000 in
set_option maxHeartbeats 4000000 in
theorem w_X2_awaitFetches_0 (o : zW) (n : Nat) (i : Nat) (hi : i < 8) (hn : z_sb i + 120 ≤ n) (S : zS) (Q : Option Value → zS → Prop) (h : zG o n mdX2_awaitFetches 2 [(0, .ref (z_adr o (1, i, 0))), (1, .int 0)] [] S Q) : zG o n mdX2_awaitFetches 0 [(0, .ref (z_adr o (1, i, 0)))] [] S Q := by
  show zJ o mdX2_awaitFetches 0 _ [] (n, z_enc o S) 0 0 _
  refine zJ.iconst (v := 0) dX2_awaitFetches_0 (by decide) ?_
  refine zJ.istore_n (lv' := [(1, .int 0), (0, .ref (z_adr o (1, i, 0)))]) dX2_awaitFetches_1 rfl (Nat.le_of_ble_eq_true rfl) rfl ?_
  exact zJ.sub [1, 0] rfl h
set_option maxRecDepth 100000 in
set_option maxHeartbeats 4000000 in
theorem w_X2_awaitFetches_2 (o : zW) (n : Nat) (i : Nat) (hi : i < 8) (hn : z_sb i + 120 ≤ n) (x1 : Int32) (S : zS) (Q : Option Value → zS → Prop) (h : (1000 ≤ x1 → (Q none S)) ∧ (¬ 1000 ≤ x1 → (((S.1 (1, i, 0) 5) ≤ 0 → (Q none S)) ∧ (¬ (S.1 (1, i, 0) 5) ≤ 0 → (zGv o n mdX2_pass [.ref (z_adr o (1, i, 0))] S (fun S5 => zG o n mdX2_awaitFetches 2 [(0, .ref (z_adr o (1, i, 0))), (1, .int (x1 + 1))] [] S5 Q)))))) : zG o n mdX2_awaitFetches 2 [(0, .ref (z_adr o (1, i, 0))), (1, .int x1)] [] S Q := by
  show zJ o mdX2_awaitFetches 2 _ [] (n, z_enc o S) 0 0 _
  refine zJ.iload_n 1 dX2_awaitFetches_2 rfl rfl ?_
  refine zJ.sipush (v := 1000) dX2_awaitFetches_3 (by decide) ?_
  refine zJ.icmp_ge (tgt := 26) dX2_awaitFetches_6 (by decide) (fun c1 => ?_) (fun c1 => ?_)
  · replace h := h.1 c1
    exact zG.ret (r := none) ⟨dX2_awaitFetches_26, rfl⟩ h
  · replace h := h.2 c1
    refine zJ.aload_n 0 dX2_awaitFetches_9 rfl rfl ?_
    refine zE.getI (fd_1_5 o i) (ok_1 hi hn) kiX2 (Nat.le_of_ble_eq_true rfl) fl_X2_52 dX2_awaitFetches_10 ?_
    refine zJ.if_le (tgt := 26) dX2_awaitFetches_13 (by decide) (fun c2 => ?_) (fun c2 => ?_)
    · replace h := h.1 c2
      exact zG.ret (r := none) ⟨dX2_awaitFetches_26, rfl⟩ h
    · replace h := h.2 c2
      refine zJ.aload_n 0 dX2_awaitFetches_16 rfl rfl ?_
      refine zG.callVv [] [] (ob_1 o i) (ok_1 hi hn) rfl dX2_awaitFetches_17 ⟨(cb_X2_pass).1, (cb_X2_pass).2, (Nat.le_of_ble_eq_true rfl), (Nat.le_of_ble_eq_true rfl)⟩ ml_X2_73 ci_X2_pass cv_X2_pass rfl (Nat.le_of_ble_eq_true rfl) (Nat.le_of_ble_eq_true rfl) rfl h (fun S5 h2 => ?_)
      replace h := h2
      clear h2
      refine zJ.iinc (k := 1) (lv' := [(1, .int (x1 + 1)), (0, .ref (z_adr o (1, i, 0)))]) dX2_awaitFetches_20 rfl rfl (Nat.le_of_ble_eq_true rfl) rfl ?_
      refine zJ.goto (tgt := 2) dX2_awaitFetches_23 (by decide) ?_
      exact zJ.sub [1, 0] rfl h
set_option maxRecDepth 100000 in
set_option maxHeartbeats 4000000 in
theorem w_X2_tally_0 (o : zW) (n : Nat) (i : Nat) (hi : i < 8) (hn : z_sb i + 120 ≤ n) (x1 : Int32) (x2 : UInt32) (S : zS) (Q : Option Value → zS → Prop) (h : (x1 < 0 → (vf_n32 (FP.fadd (S.2.2 (1, i, 0) 4) x2) ∧ (Q none (sF S (1, i, 0) 4 (FP.fadd (S.2.2 (1, i, 0) 4) x2))))) ∧ (¬ x1 < 0 → ((10 ≤ x1 → (vf_n32 (FP.fadd (S.2.2 (1, i, 0) 4) x2) ∧ (Q none (sF S (1, i, 0) 4 (FP.fadd (S.2.2 (1, i, 0) 4) x2))))) ∧ (¬ 10 ≤ x1 → (vp_in x1 10 ∧ (vp_in x1 10 ∧ (∀ S3 : zS, S3 = (sI S (3, i, 0) (x1.toNatClampNeg) ((S.1 (3, i, 0) x1.toNatClampNeg) + 1)) → (vf_n32 (FP.fadd (S3.2.2 (1, i, 0) 4) x2) ∧ (Q none (sF S3 (1, i, 0) 4 (FP.fadd (S3.2.2 (1, i, 0) 4) x2))))))))))) : zG o n mdX2_tally 0 [(0, .ref (z_adr o (1, i, 0))), (1, .int x1), (2, .float x2)] [] S Q := by
  show zJ o mdX2_tally 0 _ [] (n, z_enc o S) 0 0 _
  refine zJ.iload_n 1 dX2_tally_0 rfl rfl ?_
  refine zJ.if_lt (tgt := 20) dX2_tally_1 (by decide) (fun c1 => ?_) (fun c1 => ?_)
  · replace h := h.1 c1
    refine zJ.aload_n 0 dX2_tally_20 rfl rfl ?_
    refine zJ.dup dX2_tally_21 rfl ?_
    refine zE.getF (fd_1_4 o i) (ok_1 hi hn) kiX2 (Nat.le_of_ble_eq_true rfl) fl_X2_48 dX2_tally_22 ?_
    refine zJ.fload_n 2 dX2_tally_25 rfl rfl ?_
    obtain ⟨hq, h⟩ := h
    refine zJ.fadd dX2_tally_26 hq ?_
    refine zE.putF (fd_1_4 o i) (ok_1 hi hn) kiX2 (Nat.le_of_ble_eq_true rfl) fl_X2_48 rfl rfl dX2_tally_27 ?_
    exact zG.ret (r := none) ⟨dX2_tally_30, rfl⟩ h
  · replace h := h.2 c1
    refine zJ.iload_n 1 dX2_tally_4 rfl rfl ?_
    refine zJ.bipush (v := 10) dX2_tally_5 (by decide) ?_
    refine zJ.icmp_ge (tgt := 20) dX2_tally_7 (by decide) (fun c2 => ?_) (fun c2 => ?_)
    · replace h := h.1 c2
      refine zJ.aload_n 0 dX2_tally_20 rfl rfl ?_
      refine zJ.dup dX2_tally_21 rfl ?_
      refine zE.getF (fd_1_4 o i) (ok_1 hi hn) kiX2 (Nat.le_of_ble_eq_true rfl) fl_X2_48 dX2_tally_22 ?_
      refine zJ.fload_n 2 dX2_tally_25 rfl rfl ?_
      obtain ⟨hq, h⟩ := h
      refine zJ.fadd dX2_tally_26 hq ?_
      refine zE.putF (fd_1_4 o i) (ok_1 hi hn) kiX2 (Nat.le_of_ble_eq_true rfl) fl_X2_48 rfl rfl dX2_tally_27 ?_
      exact zG.ret (r := none) ⟨dX2_tally_30, rfl⟩ h
    · replace h := h.2 c2
      refine zJ.aload_n 0 dX2_tally_10 rfl rfl ?_
      refine zE.getV (fd_1_1 o i) (ok_1 hi hn) kiX2 (Nat.le_of_ble_eq_true rfl) fl_X2_24 dX2_tally_11 ?_
      refine zJ.iload_n 1 dX2_tally_14 rfl rfl ?_
      refine zJ.dup2_11 dX2_tally_15 rfl rfl ?_
      obtain ⟨hq, h⟩ := h
      refine zE.aldI (ia_3 o i) (ok_3 hi hn) hq dX2_tally_16 ?_
      refine zJ.iconst (v := 1) dX2_tally_17 (by decide) ?_
      refine zJ.iadd dX2_tally_18 ?_
      obtain ⟨hq, h⟩ := h
      refine zE.astI (ia_3 o i) (ok_3 hi hn) hq dX2_tally_19 ?_
      refine zJ.nameS (fun S3 hyS3 => ?_)
      replace h := h S3 hyS3
      refine zJ.aload_n 0 dX2_tally_20 rfl rfl ?_
      refine zJ.dup dX2_tally_21 rfl ?_
      refine zE.getF (fd_1_4 o i) (ok_1 hi hn) kiX2 (Nat.le_of_ble_eq_true rfl) fl_X2_48 dX2_tally_22 ?_
      refine zJ.fload_n 2 dX2_tally_25 rfl rfl ?_
      obtain ⟨hq, h⟩ := h
      refine zJ.fadd dX2_tally_26 hq ?_
      refine zE.putF (fd_1_4 o i) (ok_1 hi hn) kiX2 (Nat.le_of_ble_eq_true rfl) fl_X2_48 rfl rfl dX2_tally_27 ?_
      exact zG.ret (r := none) ⟨dX2_tally_30, rfl⟩ h
set_option maxRecDepth 100000 in
set_option maxHeartbeats 4000000 in
theorem w_X2_pass_0 (o : zW) (n : Nat) (i : Nat) (hi : i < 8) (hn : z_sb i + 120 ≤ n) (S : zS) (Q : Option Value → zS → Prop) (h : (((sI S (3, i, 0) 9 ((S.1 (3, i, 0) 9) + 1)).1 (1, i, 0) 8) ≤ ((sI S (3, i, 0) 9 ((S.1 (3, i, 0) 9) + 1)).1 (3, i, 0) 9) → (zG o n mdX2_pass 39 [(0, .ref (z_adr o (1, i, 0))), (1, .int ((sI S (3, i, 0) 9 ((S.1 (3, i, 0) 9) + 1)).1 (3, i, 0) 9)), (2, .ref (z_adr o (4, i, 0))), (3, .int 16), (4, .int 0)] [] (sI S (3, i, 0) 9 ((S.1 (3, i, 0) 9) + 1)) Q)) ∧ (¬ ((sI S (3, i, 0) 9 ((S.1 (3, i, 0) 9) + 1)).1 (1, i, 0) 8) ≤ ((sI S (3, i, 0) 9 ((S.1 (3, i, 0) 9) + 1)).1 (3, i, 0) 9) → (Q none (sI S (3, i, 0) 9 ((S.1 (3, i, 0) 9) + 1))))) : zG o n mdX2_pass 0 [(0, .ref (z_adr o (1, i, 0)))] [] S Q := by
  show zJ o mdX2_pass 0 _ [] (n, z_enc o S) 0 0 _
  refine zJ.aload_n 0 dX2_pass_0 rfl rfl ?_
  refine zE.getV (fd_1_1 o i) (ok_1 hi hn) kiX2 (Nat.le_of_ble_eq_true rfl) fl_X2_24 dX2_pass_1 ?_
  refine zJ.bipush (v := 9) dX2_pass_4 (by decide) ?_
  refine zJ.dup2_11 dX2_pass_6 rfl rfl ?_
  refine zE.aldI (ia_3 o i) (ok_3 hi hn) (by unfold vp_in; decide) dX2_pass_7 ?_
  refine zJ.iconst (v := 1) dX2_pass_8 (by decide) ?_
  refine zJ.iadd dX2_pass_9 ?_
  refine zE.astI (ia_3 o i) (ok_3 hi hn) (by unfold vp_in; decide) dX2_pass_10 ?_
  refine zJ.aload_n 0 dX2_pass_11 rfl rfl ?_
  refine zE.getV (fd_1_1 o i) (ok_1 hi hn) kiX2 (Nat.le_of_ble_eq_true rfl) fl_X2_24 dX2_pass_12 ?_
  refine zJ.bipush (v := 9) dX2_pass_15 (by decide) ?_
  refine zE.aldI (ia_3 o i) (ok_3 hi hn) (by unfold vp_in; decide) dX2_pass_17 ?_
  refine zJ.istore_n (lv' := [(1, .int ((sI S (3, i, 0) 9 ((S.1 (3, i, 0) 9) + 1)).1 (3, i, 0) 9)), (0, .ref (z_adr o (1, i, 0)))]) dX2_pass_18 rfl (Nat.le_of_ble_eq_true rfl) rfl ?_
  refine zJ.iload_n 0 dX2_pass_19 rfl rfl ?_
  refine zJ.aload_n 1 dX2_pass_20 rfl rfl ?_
  refine zE.getI (fd_1_8 o i) (ok_1 hi hn) kiX2 (Nat.le_of_ble_eq_true rfl) fl_X2_63 dX2_pass_21 ?_
  refine zJ.icmp_ge (tgt := 28) dX2_pass_24 (by decide) (fun c1 => ?_) (fun c1 => ?_)
  · replace h := h.1 c1
    refine zJ.aload_n 1 dX2_pass_28 rfl rfl ?_
    refine zE.getV (fd_1_2 o i) (ok_1 hi hn) kiX2 (Nat.le_of_ble_eq_true rfl) fl_X2_29 dX2_pass_29 ?_
    refine zJ.astore_n (lv' := [(2, .ref (z_adr o (4, i, 0))), (1, .int ((sI S (3, i, 0) 9 ((S.1 (3, i, 0) 9) + 1)).1 (3, i, 0) 9)), (0, .ref (z_adr o (1, i, 0)))]) dX2_pass_32 rfl (Nat.le_of_ble_eq_true rfl) rfl ?_
    refine zJ.aload_n 0 dX2_pass_33 rfl rfl ?_
    refine zE.lenB (v := 16) (ok_4 hi hn) (by decide) dX2_pass_34 ?_
    refine zJ.istore_n (lv' := [(3, .int 16), (2, .ref (z_adr o (4, i, 0))), (1, .int ((sI S (3, i, 0) 9 ((S.1 (3, i, 0) 9) + 1)).1 (3, i, 0) 9)), (0, .ref (z_adr o (1, i, 0)))]) dX2_pass_35 rfl (Nat.le_of_ble_eq_true rfl) rfl ?_
    refine zJ.iconst (v := 0) dX2_pass_36 (by decide) ?_
    refine zJ.istore (lv' := [(4, .int 0), (3, .int 16), (2, .ref (z_adr o (4, i, 0))), (1, .int ((sI S (3, i, 0) 9 ((S.1 (3, i, 0) 9) + 1)).1 (3, i, 0) 9)), (0, .ref (z_adr o (1, i, 0)))]) dX2_pass_37 (Nat.le_of_ble_eq_true rfl) rfl ?_
    exact zJ.sub [4, 3, 2, 1, 0] rfl h
  · replace h := h.2 c1
    exact zG.ret (r := none) ⟨dX2_pass_27, rfl⟩ h
set_option maxRecDepth 100000 in
set_option maxHeartbeats 4000000 in
theorem w_X2_pass_39 (o : zW) (n : Nat) (i : Nat) (hi : i < 8) (hn : z_sb i + 120 ≤ n) (x1 : Int32) (x3 : Int32) (x4 : Int32) (S : zS) (Q : Option Value → zS → Prop) (h : (x3 ≤ x4 → (zG o n mdX2_pass 109 [(0, .ref (z_adr o (1, i, 0))), (1, .int x1), (2, .ref (z_adr o (4, i, 0))), (3, .int 16), (4, .int 0)] [] S Q)) ∧ (¬ x3 ≤ x4 → (vp_in x4 16 ∧ ((¬ (S.1 (5, i, x4.toNatClampNeg) 8) = 2 → (zG o n mdX2_pass 39 [(0, .ref (z_adr o (1, i, 0))), (1, .int x1), (2, .ref (z_adr o (4, i, 0))), (3, .int x3), (4, .int (x4 + 1))] [] S Q)) ∧ ((S.1 (5, i, x4.toNatClampNeg) 8) = 2 → ((x1 < (S.1 (5, i, x4.toNatClampNeg) 10) → (zG o n mdX2_pass 39 [(0, .ref (z_adr o (1, i, 0))), (1, .int x1), (2, .ref (z_adr o (4, i, 0))), (3, .int x3), (4, .int (x4 + 1))] [] S Q)) ∧ (¬ x1 < (S.1 (5, i, x4.toNatClampNeg) 10) → (zGv o n mdX0_goFar [.ref (z_adr o (5, i, x4.toNatClampNeg))] (sI S (1, i, 0) 6 ((S.1 (1, i, 0) 6) - 1)) (fun S7 => zGv o n mdX2_tally [.ref (z_adr o (1, i, 0)), .int 6, .float (1079194419 : UInt32)] S7 (fun S10 => zG o n mdX2_pass 39 [(0, .ref (z_adr o (1, i, 0))), (1, .int x1), (2, .ref (z_adr o (4, i, 0))), (3, .int x3), (4, .int (x4 + 1))] [] S10 Q)))))))))) : zG o n mdX2_pass 39 [(0, .ref (z_adr o (1, i, 0))), (1, .int x1), (2, .ref (z_adr o (4, i, 0))), (3, .int x3), (4, .int x4)] [] S Q := by
  show zJ o mdX2_pass 39 _ [] (n, z_enc o S) 0 0 _
  refine zJ.iload 4 dX2_pass_39 rfl ?_
  refine zJ.iload_n 3 dX2_pass_41 rfl rfl ?_
  refine zJ.icmp_ge (tgt := 98) dX2_pass_42 (by decide) (fun c1 => ?_) (fun c1 => ?_)
  · replace h := h.1 c1
    refine zJ.aload_n 0 dX2_pass_98 rfl rfl ?_
    refine zE.getV (fd_1_2 o i) (ok_1 hi hn) kiX2 (Nat.le_of_ble_eq_true rfl) fl_X2_29 dX2_pass_99 ?_
    refine zJ.astore_n (lv' := [(2, .ref (z_adr o (4, i, 0))), (0, .ref (z_adr o (1, i, 0))), (1, .int x1), (3, .int x3), (4, .int x4)]) dX2_pass_102 rfl (Nat.le_of_ble_eq_true rfl) rfl ?_
    refine zJ.aload_n 0 dX2_pass_103 rfl rfl ?_
    refine zE.lenB (v := 16) (ok_4 hi hn) (by decide) dX2_pass_104 ?_
    refine zJ.istore_n (lv' := [(3, .int 16), (2, .ref (z_adr o (4, i, 0))), (0, .ref (z_adr o (1, i, 0))), (1, .int x1), (4, .int x4)]) dX2_pass_105 rfl (Nat.le_of_ble_eq_true rfl) rfl ?_
    refine zJ.iconst (v := 0) dX2_pass_106 (by decide) ?_
    refine zJ.istore (lv' := [(4, .int 0), (3, .int 16), (2, .ref (z_adr o (4, i, 0))), (0, .ref (z_adr o (1, i, 0))), (1, .int x1)]) dX2_pass_107 (Nat.le_of_ble_eq_true rfl) rfl ?_
    exact zJ.sub [3, 4, 2, 1, 0] rfl h
  · replace h := h.2 c1
    refine zJ.aload_n 2 dX2_pass_45 rfl rfl ?_
    refine zJ.iload 4 dX2_pass_46 rfl ?_
    obtain ⟨hq2, h⟩ := h
    refine zE.aldB (ok_4 hi hn) hq2 dX2_pass_48 ?_
    refine zJ.astore (lv' := [(5, .ref (z_adr o (5, i, x4.toNatClampNeg))), (0, .ref (z_adr o (1, i, 0))), (1, .int x1), (2, .ref (z_adr o (4, i, 0))), (3, .int x3), (4, .int x4)]) dX2_pass_49 (Nat.le_of_ble_eq_true rfl) rfl ?_
    refine zJ.aload 0 dX2_pass_51 rfl ?_
    refine zE.getI (fd_5_8 o i x4.toNatClampNeg) (ok_5 hi (z_vlt hq2) hn) kiX0 (Nat.le_of_ble_eq_true rfl) fl_X2_110 dX2_pass_53 ?_
    refine zJ.iconst (v := 2) dX2_pass_56 (by decide) ?_
    refine zJ.icmp_ne (tgt := 92) dX2_pass_57 (by decide) (fun c3 => ?_) (fun c3 => ?_)
    · replace h := h.1 c3
      refine zJ.iinc (k := 5) (lv' := [(4, .int (x4 + 1)), (5, .ref (z_adr o (5, i, x4.toNatClampNeg))), (0, .ref (z_adr o (1, i, 0))), (1, .int x1), (2, .ref (z_adr o (4, i, 0))), (3, .int x3)]) dX2_pass_92 rfl rfl (Nat.le_of_ble_eq_true rfl) rfl ?_
      refine zJ.goto (tgt := 39) dX2_pass_95 (by decide) ?_
      exact zJ.sub [2, 3, 4, 5, 0] rfl h
    · replace h := h.2 c3
      refine zJ.aload 0 dX2_pass_60 rfl ?_
      refine zE.getI (fd_5_10 o i x4.toNatClampNeg) (ok_5 hi (z_vlt hq2) hn) kiX0 (Nat.le_of_ble_eq_true rfl) fl_X2_113 dX2_pass_62 ?_
      refine zJ.iload_n 2 dX2_pass_65 rfl rfl ?_
      refine zJ.icmp_gt (tgt := 92) dX2_pass_66 (by decide) (fun c4 => ?_) (fun c4 => ?_)
      · replace h := h.1 c4
        refine zJ.iinc (k := 5) (lv' := [(4, .int (x4 + 1)), (5, .ref (z_adr o (5, i, x4.toNatClampNeg))), (0, .ref (z_adr o (1, i, 0))), (1, .int x1), (2, .ref (z_adr o (4, i, 0))), (3, .int x3)]) dX2_pass_92 rfl rfl (Nat.le_of_ble_eq_true rfl) rfl ?_
        refine zJ.goto (tgt := 39) dX2_pass_95 (by decide) ?_
        exact zJ.sub [2, 3, 4, 5, 0] rfl h
      · replace h := h.2 c4
        refine zJ.aload_n 1 dX2_pass_69 rfl rfl ?_
        refine zJ.dup dX2_pass_70 rfl ?_
        refine zE.getI (fd_1_6 o i) (ok_1 hi hn) kiX2 (Nat.le_of_ble_eq_true rfl) fl_X2_56 dX2_pass_71 ?_
        refine zJ.iconst (v := 1) dX2_pass_74 (by decide) ?_
        refine zJ.isub dX2_pass_75 ?_
        refine zE.putI (fd_1_6 o i) (ok_1 hi hn) kiX2 (Nat.le_of_ble_eq_true rfl) fl_X2_56 rfl rfl dX2_pass_76 ?_
        refine zJ.aload 0 dX2_pass_79 rfl ?_
        refine zG.callVv [] [] (ob_5 o i x4.toNatClampNeg) (ok_5 hi (z_vlt hq2) hn) rfl dX2_pass_81 ⟨(cb_X0_goFar).1, (cb_X0_goFar).2, (Nat.le_of_ble_eq_true rfl), (Nat.le_of_ble_eq_true rfl)⟩ ml_X2_116 ci_X0_goFar cv_X0_goFar rfl (Nat.le_of_ble_eq_true rfl) (Nat.le_of_ble_eq_true rfl) rfl h (fun S7 h2 => ?_)
        replace h := h2
        clear h2
        refine zJ.aload_n 1 dX2_pass_84 rfl rfl ?_
        refine zJ.bipush (v := 6) dX2_pass_85 (by decide) ?_
        refine zJ.ldcf lc_X2_119 dX2_pass_87 ?_
        refine zG.callVv [.int 6, .float (1079194419 : UInt32)] [] (ob_1 o i) (ok_1 hi hn) rfl dX2_pass_89 ⟨(cb_X2_tally).1, (cb_X2_tally).2, (Nat.le_of_ble_eq_true rfl), (Nat.le_of_ble_eq_true rfl)⟩ ml_X2_81 ci_X2_tally cv_X2_tally rfl (Nat.le_of_ble_eq_true rfl) (Nat.le_of_ble_eq_true rfl) rfl h (fun S10 h2 => ?_)
        replace h := h2
        clear h2
        refine zJ.iinc (k := 5) (lv' := [(4, .int (x4 + 1)), (5, .ref (z_adr o (5, i, x4.toNatClampNeg))), (0, .ref (z_adr o (1, i, 0))), (1, .int x1), (2, .ref (z_adr o (4, i, 0))), (3, .int x3)]) dX2_pass_92 rfl rfl (Nat.le_of_ble_eq_true rfl) rfl ?_
        refine zJ.goto (tgt := 39) dX2_pass_95 (by decide) ?_
        exact zJ.sub [2, 3, 4, 5, 0] rfl h
set_option maxRecDepth 100000 in
set_option maxHeartbeats 4000000 in
theorem w_X2_pass_109 (o : zW) (n : Nat) (i : Nat) (hi : i < 8) (hn : z_sb i + 120 ≤ n) (x1 : Int32) (x3 : Int32) (x4 : Int32) (S : zS) (Q : Option Value → zS → Prop) (h : (x3 ≤ x4 → (zG o n mdX2_pass 168 [(0, .ref (z_adr o (1, i, 0))), (2, .ref (z_adr o (4, i, 0))), (3, .int 16), (4, .int 0)] [] (sI S (1, i, 0) 8 (2000000000 : Int32)) Q)) ∧ (¬ x3 ≤ x4 → (vp_in x4 16 ∧ ((¬ (S.1 (5, i, x4.toNatClampNeg) 8) = 3 → (zG o n mdX2_pass 109 [(0, .ref (z_adr o (1, i, 0))), (1, .int x1), (2, .ref (z_adr o (4, i, 0))), (3, .int x3), (4, .int (x4 + 1))] [] S Q)) ∧ ((S.1 (5, i, x4.toNatClampNeg) 8) = 3 → ((x1 < (S.1 (5, i, x4.toNatClampNeg) 10) → (zG o n mdX2_pass 109 [(0, .ref (z_adr o (1, i, 0))), (1, .int x1), (2, .ref (z_adr o (4, i, 0))), (3, .int x3), (4, .int (x4 + 1))] [] S Q)) ∧ (¬ x1 < (S.1 (5, i, x4.toNatClampNeg) 10) → (zGv o n mdX2_come [.ref (z_adr o (1, i, 0)), .ref (z_adr o (5, i, x4.toNatClampNeg))] S (fun S7 => zG o n mdX2_pass 109 [(0, .ref (z_adr o (1, i, 0))), (1, .int x1), (2, .ref (z_adr o (4, i, 0))), (3, .int x3), (4, .int (x4 + 1))] [] S7 Q))))))))) : zG o n mdX2_pass 109 [(0, .ref (z_adr o (1, i, 0))), (1, .int x1), (2, .ref (z_adr o (4, i, 0))), (3, .int x3), (4, .int x4)] [] S Q := by
  show zJ o mdX2_pass 109 _ [] (n, z_enc o S) 0 0 _
  refine zJ.iload 4 dX2_pass_109 rfl ?_
  refine zJ.iload_n 3 dX2_pass_111 rfl rfl ?_
  refine zJ.icmp_ge (tgt := 151) dX2_pass_112 (by decide) (fun c1 => ?_) (fun c1 => ?_)
  · replace h := h.1 c1
    refine zJ.aload_n 0 dX2_pass_151 rfl rfl ?_
    refine zJ.ldc lc_X2_62 dX2_pass_152 ?_
    refine zE.putI (fd_1_8 o i) (ok_1 hi hn) kiX2 (Nat.le_of_ble_eq_true rfl) fl_X2_63 rfl rfl dX2_pass_154 ?_
    refine zJ.aload_n 0 dX2_pass_157 rfl rfl ?_
    refine zE.getV (fd_1_2 o i) (ok_1 hi hn) kiX2 (Nat.le_of_ble_eq_true rfl) fl_X2_29 dX2_pass_158 ?_
    refine zJ.astore_n (lv' := [(2, .ref (z_adr o (4, i, 0))), (0, .ref (z_adr o (1, i, 0))), (1, .int x1), (3, .int x3), (4, .int x4)]) dX2_pass_161 rfl (Nat.le_of_ble_eq_true rfl) rfl ?_
    refine zJ.aload_n 0 dX2_pass_162 rfl rfl ?_
    refine zE.lenB (v := 16) (ok_4 hi hn) (by decide) dX2_pass_163 ?_
    refine zJ.istore_n (lv' := [(3, .int 16), (2, .ref (z_adr o (4, i, 0))), (0, .ref (z_adr o (1, i, 0))), (1, .int x1), (4, .int x4)]) dX2_pass_164 rfl (Nat.le_of_ble_eq_true rfl) rfl ?_
    refine zJ.iconst (v := 0) dX2_pass_165 (by decide) ?_
    refine zJ.istore (lv' := [(4, .int 0), (3, .int 16), (2, .ref (z_adr o (4, i, 0))), (0, .ref (z_adr o (1, i, 0))), (1, .int x1)]) dX2_pass_166 (Nat.le_of_ble_eq_true rfl) rfl ?_
    exact zJ.sub [3, 2, 1, 0] rfl h
  · replace h := h.2 c1
    refine zJ.aload_n 2 dX2_pass_115 rfl rfl ?_
    refine zJ.iload 4 dX2_pass_116 rfl ?_
    obtain ⟨hq2, h⟩ := h
    refine zE.aldB (ok_4 hi hn) hq2 dX2_pass_118 ?_
    refine zJ.astore (lv' := [(5, .ref (z_adr o (5, i, x4.toNatClampNeg))), (0, .ref (z_adr o (1, i, 0))), (1, .int x1), (2, .ref (z_adr o (4, i, 0))), (3, .int x3), (4, .int x4)]) dX2_pass_119 (Nat.le_of_ble_eq_true rfl) rfl ?_
    refine zJ.aload 0 dX2_pass_121 rfl ?_
    refine zE.getI (fd_5_8 o i x4.toNatClampNeg) (ok_5 hi (z_vlt hq2) hn) kiX0 (Nat.le_of_ble_eq_true rfl) fl_X2_110 dX2_pass_123 ?_
    refine zJ.iconst (v := 3) dX2_pass_126 (by decide) ?_
    refine zJ.icmp_ne (tgt := 145) dX2_pass_127 (by decide) (fun c3 => ?_) (fun c3 => ?_)
    · replace h := h.1 c3
      refine zJ.iinc (k := 5) (lv' := [(4, .int (x4 + 1)), (5, .ref (z_adr o (5, i, x4.toNatClampNeg))), (0, .ref (z_adr o (1, i, 0))), (1, .int x1), (2, .ref (z_adr o (4, i, 0))), (3, .int x3)]) dX2_pass_145 rfl rfl (Nat.le_of_ble_eq_true rfl) rfl ?_
      refine zJ.goto (tgt := 109) dX2_pass_148 (by decide) ?_
      exact zJ.sub [2, 3, 4, 5, 0] rfl h
    · replace h := h.2 c3
      refine zJ.aload 0 dX2_pass_130 rfl ?_
      refine zE.getI (fd_5_10 o i x4.toNatClampNeg) (ok_5 hi (z_vlt hq2) hn) kiX0 (Nat.le_of_ble_eq_true rfl) fl_X2_113 dX2_pass_132 ?_
      refine zJ.iload_n 2 dX2_pass_135 rfl rfl ?_
      refine zJ.icmp_gt (tgt := 145) dX2_pass_136 (by decide) (fun c4 => ?_) (fun c4 => ?_)
      · replace h := h.1 c4
        refine zJ.iinc (k := 5) (lv' := [(4, .int (x4 + 1)), (5, .ref (z_adr o (5, i, x4.toNatClampNeg))), (0, .ref (z_adr o (1, i, 0))), (1, .int x1), (2, .ref (z_adr o (4, i, 0))), (3, .int x3)]) dX2_pass_145 rfl rfl (Nat.le_of_ble_eq_true rfl) rfl ?_
        refine zJ.goto (tgt := 109) dX2_pass_148 (by decide) ?_
        exact zJ.sub [2, 3, 4, 5, 0] rfl h
      · replace h := h.2 c4
        refine zJ.aload_n 1 dX2_pass_139 rfl rfl ?_
        refine zJ.aload 0 dX2_pass_140 rfl ?_
        refine zG.callVv [.ref (z_adr o (5, i, x4.toNatClampNeg))] [] (ob_1 o i) (ok_1 hi hn) rfl dX2_pass_142 ⟨(cb_X2_come).1, (cb_X2_come).2, (Nat.le_of_ble_eq_true rfl), (Nat.le_of_ble_eq_true rfl)⟩ ml_X2_120 ci_X2_come cv_X2_come rfl (Nat.le_of_ble_eq_true rfl) (Nat.le_of_ble_eq_true rfl) rfl h (fun S7 h2 => ?_)
        replace h := h2
        clear h2
        refine zJ.iinc (k := 5) (lv' := [(4, .int (x4 + 1)), (5, .ref (z_adr o (5, i, x4.toNatClampNeg))), (0, .ref (z_adr o (1, i, 0))), (1, .int x1), (2, .ref (z_adr o (4, i, 0))), (3, .int x3)]) dX2_pass_145 rfl rfl (Nat.le_of_ble_eq_true rfl) rfl ?_
        refine zJ.goto (tgt := 109) dX2_pass_148 (by decide) ?_
        exact zJ.sub [2, 3, 4, 5, 0] rfl h
set_option maxRecDepth 100000 in
set_option maxHeartbeats 4000000 in
theorem w_X2_pass_168 (o : zW) (n : Nat) (i : Nat) (hi : i < 8) (hn : z_sb i + 120 ≤ n) (x3 : Int32) (x4 : Int32) (S : zS) (Q : Option Value → zS → Prop) (h : (x3 ≤ x4 → (Q none S)) ∧ (¬ x3 ≤ x4 → (vp_in x4 16 ∧ (∀ y4 : Int32, y4 = (if (S.1 (5, i, x4.toNatClampNeg) 10) < (S.1 (1, i, 0) 8) then (S.1 (5, i, x4.toNatClampNeg) 10) else (S.1 (1, i, 0) 8)) → (zG o n mdX2_pass 168 [(0, .ref (z_adr o (1, i, 0))), (2, .ref (z_adr o (4, i, 0))), (3, .int x3), (4, .int (x4 + 1))] [] (sI S (1, i, 0) 8 y4) Q))))) : zG o n mdX2_pass 168 [(0, .ref (z_adr o (1, i, 0))), (2, .ref (z_adr o (4, i, 0))), (3, .int x3), (4, .int x4)] [] S Q := by
  show zJ o mdX2_pass 168 _ [] (n, z_enc o S) 0 0 _
  refine zJ.iload 3 dX2_pass_168 rfl ?_
  refine zJ.iload_n 2 dX2_pass_170 rfl rfl ?_
  refine zJ.icmp_ge (tgt := 202) dX2_pass_171 (by decide) (fun c1 => ?_) (fun c1 => ?_)
  · replace h := h.1 c1
    exact zG.ret (r := none) ⟨dX2_pass_202, rfl⟩ h
  · replace h := h.2 c1
    refine zJ.aload_n 1 dX2_pass_174 rfl rfl ?_
    refine zJ.iload 3 dX2_pass_175 rfl ?_
    obtain ⟨hq2, h⟩ := h
    refine zE.aldB (ok_4 hi hn) hq2 dX2_pass_177 ?_
    refine zJ.astore (lv' := [(5, .ref (z_adr o (5, i, x4.toNatClampNeg))), (0, .ref (z_adr o (1, i, 0))), (2, .ref (z_adr o (4, i, 0))), (3, .int x3), (4, .int x4)]) dX2_pass_178 (Nat.le_of_ble_eq_true rfl) rfl ?_
    refine zJ.aload_n 1 dX2_pass_180 rfl rfl ?_
    refine zJ.aload_n 1 dX2_pass_181 rfl rfl ?_
    refine zE.getI (fd_1_8 o i) (ok_1 hi hn) kiX2 (Nat.le_of_ble_eq_true rfl) fl_X2_63 dX2_pass_182 ?_
    refine zJ.aload 0 dX2_pass_185 rfl ?_
    refine zE.getI (fd_5_10 o i x4.toNatClampNeg) (ok_5 hi (z_vlt hq2) hn) kiX0 (Nat.le_of_ble_eq_true rfl) fl_X2_113 dX2_pass_187 ?_
    refine zJ.mmin ml_X2_123 mt_s_min mt_i mt_c_min (Nat.le_of_ble_eq_true rfl) (Nat.le_of_ble_eq_true rfl) dX2_pass_190 ?_
    refine zJ.topi (fun y4 hyy4 => ?_)
    replace h := h y4 hyy4
    refine zE.putI (fd_1_8 o i) (ok_1 hi hn) kiX2 (Nat.le_of_ble_eq_true rfl) fl_X2_63 rfl rfl dX2_pass_193 ?_
    refine zJ.iinc (k := 4) (lv' := [(4, .int (x4 + 1)), (5, .ref (z_adr o (5, i, x4.toNatClampNeg))), (0, .ref (z_adr o (1, i, 0))), (2, .ref (z_adr o (4, i, 0))), (3, .int x3)]) dX2_pass_196 rfl rfl (Nat.le_of_ble_eq_true rfl) rfl ?_
    refine zJ.goto (tgt := 168) dX2_pass_199 (by decide) ?_
    exact zJ.sub [2, 3, 4, 0] rfl h
set_option maxRecDepth 100000 in
set_option maxHeartbeats 4000000 in
theorem w_X2_come_0 (o : zW) (n : Nat) (i : Nat) (hi : i < 8) (hn : z_sb i + 120 ≤ n) (b : Nat) (hb : b < 16) (S : zS) (Q : Option Value → zS → Prop) (h : zGv o n mdX0_takeFromFar [.ref (z_adr o (5, i, b))] (sI S (1, i, 0) 5 ((S.1 (1, i, 0) 5) - 1)) (fun S3 => zGv o n mdX2_settle [.ref (z_adr o (1, i, 0)), .ref (z_adr o (5, i, b))] S3 (fun S6 => zG o n mdX2_come 21 [(0, .ref (z_adr o (1, i, 0))), (1, .ref (z_adr o (5, i, b))), (2, .int 0)] [] S6 Q))) : zG o n mdX2_come 0 [(0, .ref (z_adr o (1, i, 0))), (1, .ref (z_adr o (5, i, b)))] [] S Q := by
  show zJ o mdX2_come 0 _ [] (n, z_enc o S) 0 0 _
  refine zJ.aload_n 0 dX2_come_0 rfl rfl ?_
  refine zJ.dup dX2_come_1 rfl ?_
  refine zE.getI (fd_1_5 o i) (ok_1 hi hn) kiX2 (Nat.le_of_ble_eq_true rfl) fl_X2_52 dX2_come_2 ?_
  refine zJ.iconst (v := 1) dX2_come_5 (by decide) ?_
  refine zJ.isub dX2_come_6 ?_
  refine zE.putI (fd_1_5 o i) (ok_1 hi hn) kiX2 (Nat.le_of_ble_eq_true rfl) fl_X2_52 rfl rfl dX2_come_7 ?_
  refine zJ.aload_n 1 dX2_come_10 rfl rfl ?_
  refine zG.callVv [] [] (ob_5 o i b) (ok_5 hi hb hn) rfl dX2_come_11 ⟨(cb_X0_takeFromFar).1, (cb_X0_takeFromFar).2, (Nat.le_of_ble_eq_true rfl), (Nat.le_of_ble_eq_true rfl)⟩ ml_X2_129 ci_X0_takeFromFar cv_X0_takeFromFar rfl (Nat.le_of_ble_eq_true rfl) (Nat.le_of_ble_eq_true rfl) rfl h (fun S3 h2 => ?_)
  replace h := h2
  clear h2
  refine zJ.aload_n 0 dX2_come_14 rfl rfl ?_
  refine zJ.aload_n 1 dX2_come_15 rfl rfl ?_
  refine zG.callVv [.ref (z_adr o (5, i, b))] [] (ob_1 o i) (ok_1 hi hn) rfl dX2_come_16 ⟨(cb_X2_settle).1, (cb_X2_settle).2, (Nat.le_of_ble_eq_true rfl), (Nat.le_of_ble_eq_true rfl)⟩ ml_X2_132 ci_X2_settle cv_X2_settle rfl (Nat.le_of_ble_eq_true rfl) (Nat.le_of_ble_eq_true rfl) rfl h (fun S6 h2 => ?_)
  replace h := h2
  clear h2
  refine zJ.iconst (v := 0) dX2_come_19 (by decide) ?_
  refine zJ.istore_n (lv' := [(2, .int 0), (0, .ref (z_adr o (1, i, 0))), (1, .ref (z_adr o (5, i, b)))]) dX2_come_20 rfl (Nat.le_of_ble_eq_true rfl) rfl ?_
  exact zJ.sub [1, 2, 0] rfl h
set_option maxRecDepth 100000 in
set_option maxHeartbeats 4000000 in
theorem w_X2_come_21 (o : zW) (n : Nat) (i : Nat) (hi : i < 8) (hn : z_sb i + 120 ≤ n) (b : Nat) (hb : b < 16) (x2 : Int32) (S : zS) (Q : Option Value → zS → Prop) (h : ((S.1 (5, i, b) 7) ≤ x2 → (Q none (sI S (5, i, b) 7 0))) ∧ (¬ (S.1 (5, i, b) 7) ≤ x2 → ((4 ≤ x2 → (Q none (sI S (5, i, b) 7 0))) ∧ (¬ 4 ≤ x2 → (vp_in x2 4 ∧ (vp_in x2 4 ∧ (vp_in x2 4 ∧ (vp_in x2 4 ∧ (zGv o n mdX2_serve [.ref (z_adr o (1, i, 0)), .ref (z_adr o (5, i, b)), .int (S.1 (8, i, b) x2.toNatClampNeg), .int (S.1 (9, i, b) x2.toNatClampNeg), .int (S.1 (10, i, b) x2.toNatClampNeg), .int (S.1 (11, i, b) x2.toNatClampNeg)] S (fun S5 => zG o n mdX2_come 21 [(0, .ref (z_adr o (1, i, 0))), (1, .ref (z_adr o (5, i, b))), (2, .int (x2 + 1))] [] S5 Q)))))))))) : zG o n mdX2_come 21 [(0, .ref (z_adr o (1, i, 0))), (1, .ref (z_adr o (5, i, b))), (2, .int x2)] [] S Q := by
  show zJ o mdX2_come 21 _ [] (n, z_enc o S) 0 0 _
  refine zJ.iload_n 2 dX2_come_21 rfl rfl ?_
  refine zJ.aload_n 1 dX2_come_22 rfl rfl ?_
  refine zE.getI (fd_5_7 o i b) (ok_5 hi hb hn) kiX0 (Nat.le_of_ble_eq_true rfl) fl_X2_135 dX2_come_23 ?_
  refine zJ.icmp_ge (tgt := 69) dX2_come_26 (by decide) (fun c1 => ?_) (fun c1 => ?_)
  · replace h := h.1 c1
    refine zJ.aload_n 1 dX2_come_69 rfl rfl ?_
    refine zJ.iconst (v := 0) dX2_come_70 (by decide) ?_
    refine zE.putI (fd_5_7 o i b) (ok_5 hi hb hn) kiX0 (Nat.le_of_ble_eq_true rfl) fl_X2_135 rfl rfl dX2_come_71 ?_
    exact zG.ret (r := none) ⟨dX2_come_74, rfl⟩ h
  · replace h := h.2 c1
    refine zJ.iload_n 2 dX2_come_29 rfl rfl ?_
    refine zJ.iconst (v := 4) dX2_come_30 (by decide) ?_
    refine zJ.icmp_ge (tgt := 69) dX2_come_31 (by decide) (fun c2 => ?_) (fun c2 => ?_)
    · replace h := h.1 c2
      refine zJ.aload_n 1 dX2_come_69 rfl rfl ?_
      refine zJ.iconst (v := 0) dX2_come_70 (by decide) ?_
      refine zE.putI (fd_5_7 o i b) (ok_5 hi hb hn) kiX0 (Nat.le_of_ble_eq_true rfl) fl_X2_135 rfl rfl dX2_come_71 ?_
      exact zG.ret (r := none) ⟨dX2_come_74, rfl⟩ h
    · replace h := h.2 c2
      refine zJ.aload_n 0 dX2_come_34 rfl rfl ?_
      refine zJ.aload_n 1 dX2_come_35 rfl rfl ?_
      refine zJ.aload_n 1 dX2_come_36 rfl rfl ?_
      refine zE.getV (fd_5_3 o i b) (ok_5 hi hb hn) kiX0 (Nat.le_of_ble_eq_true rfl) fl_X2_138 dX2_come_37 ?_
      refine zJ.iload_n 2 dX2_come_40 rfl rfl ?_
      obtain ⟨hq, h⟩ := h
      refine zE.aldI (ia_8 o i b) (ok_8 hi hb hn) hq dX2_come_41 ?_
      refine zJ.aload_n 1 dX2_come_42 rfl rfl ?_
      refine zE.getV (fd_5_4 o i b) (ok_5 hi hb hn) kiX0 (Nat.le_of_ble_eq_true rfl) fl_X2_141 dX2_come_43 ?_
      refine zJ.iload_n 2 dX2_come_46 rfl rfl ?_
      obtain ⟨hq, h⟩ := h
      refine zE.aldI (ia_9 o i b) (ok_9 hi hb hn) hq dX2_come_47 ?_
      refine zJ.aload_n 1 dX2_come_48 rfl rfl ?_
      refine zE.getV (fd_5_5 o i b) (ok_5 hi hb hn) kiX0 (Nat.le_of_ble_eq_true rfl) fl_X2_144 dX2_come_49 ?_
      refine zJ.iload_n 2 dX2_come_52 rfl rfl ?_
      obtain ⟨hq, h⟩ := h
      refine zE.aldI (ia_10 o i b) (ok_10 hi hb hn) hq dX2_come_53 ?_
      refine zJ.aload_n 1 dX2_come_54 rfl rfl ?_
      refine zE.getV (fd_5_6 o i b) (ok_5 hi hb hn) kiX0 (Nat.le_of_ble_eq_true rfl) fl_X2_147 dX2_come_55 ?_
      refine zJ.iload_n 2 dX2_come_58 rfl rfl ?_
      obtain ⟨hq, h⟩ := h
      refine zE.aldI (ia_11 o i b) (ok_11 hi hb hn) hq dX2_come_59 ?_
      refine zG.callVv [.ref (z_adr o (5, i, b)), .int (S.1 (8, i, b) x2.toNatClampNeg), .int (S.1 (9, i, b) x2.toNatClampNeg), .int (S.1 (10, i, b) x2.toNatClampNeg), .int (S.1 (11, i, b) x2.toNatClampNeg)] [] (ob_1 o i) (ok_1 hi hn) rfl dX2_come_60 ⟨(cb_X2_serve).1, (cb_X2_serve).2, (Nat.le_of_ble_eq_true rfl), (Nat.le_of_ble_eq_true rfl)⟩ ml_X2_150 ci_X2_serve cv_X2_serve rfl (Nat.le_of_ble_eq_true rfl) (Nat.le_of_ble_eq_true rfl) rfl h (fun S5 h2 => ?_)
      replace h := h2
      clear h2
      refine zJ.iinc (k := 2) (lv' := [(2, .int (x2 + 1)), (0, .ref (z_adr o (1, i, 0))), (1, .ref (z_adr o (5, i, b)))]) dX2_come_63 rfl rfl (Nat.le_of_ble_eq_true rfl) rfl ?_
      refine zJ.goto (tgt := 21) dX2_come_66 (by decide) ?_
      exact zJ.sub [1, 2, 0] rfl h
set_option maxRecDepth 100000 in
set_option maxHeartbeats 4000000 in
theorem w_X2_settle_0 (o : zW) (n : Nat) (i : Nat) (hi : i < 8) (hn : z_sb i + 120 ≤ n) (b : Nat) (hb : b < 16) (S : zS) (Q : Option Value → zS → Prop) (h : zGq o n mdX2_whoMustGo i [.ref (z_adr o (1, i, 0)), .int ((nI b) - (nI b) / 4 * 4)] S (fun r2 S3 => (r2 = none → (zGv o n mdX2_use [.ref (z_adr o (1, i, 0)), .ref (z_adr o (5, i, b))] (sI (sI S3 (5, i, b) 8 1) (5, i, b) 10 (2000000000 : Int32)) (fun S8 => Q none S8))) ∧ (∀ b5, r2 = some b5 → ((¬ (S3.1 (5, i, b5) 9) = 0 → (((S3.1 (2, i, 0) 1) ≤ (S3.1 (1, i, 0) 6) → (zGv o n mdX0_goFar [.ref (z_adr o (5, i, b5))] (sI S3 (3, i, 0) 5 ((S3.1 (3, i, 0) 5) + 1)) (fun S13 => zGv o n mdX2_tally [.ref (z_adr o (1, i, 0)), .int 6, .float (1079194419 : UInt32)] S13 (fun S16 => zGv o n mdX2_use [.ref (z_adr o (1, i, 0)), .ref (z_adr o (5, i, b))] (sI (sI S16 (5, i, b) 8 1) (5, i, b) 10 (2000000000 : Int32)) (fun S19 => Q none S19))))) ∧ (¬ (S3.1 (2, i, 0) 1) ≤ (S3.1 (1, i, 0) 6) → (∀ y20 : Int32, y20 = ((sI (sI S3 (1, i, 0) 6 ((S3.1 (1, i, 0) 6) + 1)) (5, i, b5) 8 2).1 (2, i, 0) 4) → (zGv o n mdX2_setDue [.ref (z_adr o (1, i, 0)), .ref (z_adr o (5, i, b5)), .int (if 1 < (y20 / 2) then (y20 / 2) else 1)] (sI (sI S3 (1, i, 0) 6 ((S3.1 (1, i, 0) 6) + 1)) (5, i, b5) 8 2) (fun S24 => zGv o n mdX2_use [.ref (z_adr o (1, i, 0)), .ref (z_adr o (5, i, b))] (sI (sI S24 (5, i, b) 8 1) (5, i, b) 10 (2000000000 : Int32)) (fun S27 => Q none S27))))))) ∧ ((S3.1 (5, i, b5) 9) = 0 → (zGv o n mdX0_goFar [.ref (z_adr o (5, i, b5))] S3 (fun S30 => zGv o n mdX2_use [.ref (z_adr o (1, i, 0)), .ref (z_adr o (5, i, b))] (sI (sI S30 (5, i, b) 8 1) (5, i, b) 10 (2000000000 : Int32)) (fun S33 => Q none S33)))))))) : zG o n mdX2_settle 0 [(0, .ref (z_adr o (1, i, 0))), (1, .ref (z_adr o (5, i, b)))] [] S Q := by
  show zJ o mdX2_settle 0 _ [] (n, z_enc o S) 0 0 _
  refine zJ.aload_n 0 dX2_settle_0 rfl rfl ?_
  refine zJ.aload_n 1 dX2_settle_1 rfl rfl ?_
  refine zE.getV (fd_5_0 o i b) (ok_5 hi hb hn) kiX0 (Nat.le_of_ble_eq_true rfl) fl_X2_154 dX2_settle_2 ?_
  refine zJ.iconst (v := 4) dX2_settle_5 (by decide) ?_
  refine zJ.irem dX2_settle_6 (by decide) ?_
  refine zG.callVq i [.int ((nI b) - (nI b) / 4 * 4)] [] (ob_1 o i) (ok_1 hi hn) rfl dX2_settle_7 ⟨(cb_X2_whoMustGo).1, (cb_X2_whoMustGo).2, (Nat.le_of_ble_eq_true rfl), (Nat.le_of_ble_eq_true rfl)⟩ ml_X2_157 ci_X2_whoMustGo cv_X2_whoMustGo rfl (Nat.le_of_ble_eq_true rfl) (Nat.le_of_ble_eq_true rfl) rfl h (fun r2 S3 hx4 h2 => ?_)
  replace h := h2
  clear h2
  refine zJ.astoreq_n (x := z_bo o i r2) (lv' := [(2, va_rf (z_bo o i r2)), (0, .ref (z_adr o (1, i, 0))), (1, .ref (z_adr o (5, i, b)))]) dX2_settle_10 rfl (Nat.le_of_ble_eq_true rfl) rfl ?_
  refine zJ.aloadq_n (x := z_bo o i r2) 0 dX2_settle_11 rfl rfl ?_
  refine zE.ifnull (tgt := 29) dX2_settle_12 (by decide) ?_ ?_
  · intro hz
    replace h := h.1 hz
    subst hz
    refine zJ.aloadq_n (x := none) 0 dX2_settle_29 rfl rfl ?_
    refine zJ.ifnull (x := none) (tgt := 81) dX2_settle_30 (by decide) (fun _ => ?_) (fun _ hz => absurd hz (by simp))
    refine zJ.aloadq_n (x := none) 0 dX2_settle_81 rfl rfl ?_
    refine zJ.ifnull (x := none) (tgt := 107) dX2_settle_82 (by decide) (fun _ => ?_) (fun _ hz => absurd hz (by simp))
    refine zJ.aload_n 2 dX2_settle_107 rfl rfl ?_
    refine zJ.iconst (v := 1) dX2_settle_108 (by decide) ?_
    refine zE.putI (fd_5_8 o i b) (ok_5 hi hb hn) kiX0 (Nat.le_of_ble_eq_true rfl) fl_X2_110 rfl rfl dX2_settle_109 ?_
    refine zJ.aload_n 2 dX2_settle_112 rfl rfl ?_
    refine zJ.ldc lc_X2_62 dX2_settle_113 ?_
    refine zE.putI (fd_5_10 o i b) (ok_5 hi hb hn) kiX0 (Nat.le_of_ble_eq_true rfl) fl_X2_113 rfl rfl dX2_settle_115 ?_
    refine zJ.aload_n 1 dX2_settle_118 rfl rfl ?_
    refine zJ.aload_n 2 dX2_settle_119 rfl rfl ?_
    refine zG.callVv [.ref (z_adr o (5, i, b))] [] (ob_1 o i) (ok_1 hi hn) rfl dX2_settle_120 ⟨(cb_X2_use).1, (cb_X2_use).2, (Nat.le_of_ble_eq_true rfl), (Nat.le_of_ble_eq_true rfl)⟩ ml_X2_171 ci_X2_use cv_X2_use rfl (Nat.le_of_ble_eq_true rfl) (Nat.le_of_ble_eq_true rfl) rfl h (fun S8 h2 => ?_)
    replace h := h2
    clear h2
    exact zG.ret (r := none) ⟨dX2_settle_123, rfl⟩ h
  · intro b5 hz
    replace h := h.2 b5 hz
    subst hz
    refine zJ.aload_n 0 dX2_settle_15 rfl rfl ?_
    refine zE.getI (fd_5_9 o i b5) (ok_5 hi (hx4 b5 rfl) hn) kiX0 (Nat.le_of_ble_eq_true rfl) fl_X2_161 dX2_settle_16 ?_
    refine zJ.if_ne (tgt := 29) dX2_settle_19 (by decide) (fun c9 => ?_) (fun c9 => ?_)
    · replace h := h.1 c9
      refine zJ.aload_n 0 dX2_settle_29 rfl rfl ?_
      refine zJ.ifnull (x := some (z_adr o (5, i, b5))) (tgt := 81) dX2_settle_30 (by decide) (fun hz => absurd hz (by simp)) (fun _ _ => ?_)
      refine zJ.aload_n 1 dX2_settle_33 rfl rfl ?_
      refine zE.getI (fd_1_6 o i) (ok_1 hi hn) kiX2 (Nat.le_of_ble_eq_true rfl) fl_X2_56 dX2_settle_34 ?_
      refine zJ.aload_n 1 dX2_settle_37 rfl rfl ?_
      refine zE.getV (fd_1_0 o i) (ok_1 hi hn) kiX2 (Nat.le_of_ble_eq_true rfl) fl_X2_13 dX2_settle_38 ?_
      refine zJ.iconst (v := 1) dX2_settle_41 (by decide) ?_
      refine zE.aldI (ia_2 o i) (ok_2 hi hn) (by unfold vp_in; decide) dX2_settle_42 ?_
      refine zJ.icmp_ge (tgt := 81) dX2_settle_43 (by decide) (fun c10 => ?_) (fun c10 => ?_)
      · replace h := h.1 c10
        refine zJ.aload_n 0 dX2_settle_81 rfl rfl ?_
        refine zJ.ifnull (x := some (z_adr o (5, i, b5))) (tgt := 107) dX2_settle_82 (by decide) (fun hz => absurd hz (by simp)) (fun _ _ => ?_)
        refine zJ.aload_n 1 dX2_settle_85 rfl rfl ?_
        refine zE.getV (fd_1_1 o i) (ok_1 hi hn) kiX2 (Nat.le_of_ble_eq_true rfl) fl_X2_24 dX2_settle_86 ?_
        refine zJ.iconst (v := 5) dX2_settle_89 (by decide) ?_
        refine zJ.dup2_11 dX2_settle_90 rfl rfl ?_
        refine zE.aldI (ia_3 o i) (ok_3 hi hn) (by unfold vp_in; decide) dX2_settle_91 ?_
        refine zJ.iconst (v := 1) dX2_settle_92 (by decide) ?_
        refine zJ.iadd dX2_settle_93 ?_
        refine zE.astI (ia_3 o i) (ok_3 hi hn) (by unfold vp_in; decide) dX2_settle_94 ?_
        refine zJ.aload_n 0 dX2_settle_95 rfl rfl ?_
        refine zG.callVv [] [] (ob_5 o i b5) (ok_5 hi (hx4 b5 rfl) hn) rfl dX2_settle_96 ⟨(cb_X0_goFar).1, (cb_X0_goFar).2, (Nat.le_of_ble_eq_true rfl), (Nat.le_of_ble_eq_true rfl)⟩ ml_X2_116 ci_X0_goFar cv_X0_goFar rfl (Nat.le_of_ble_eq_true rfl) (Nat.le_of_ble_eq_true rfl) rfl h (fun S13 h2 => ?_)
        replace h := h2
        clear h2
        refine zJ.aload_n 1 dX2_settle_99 rfl rfl ?_
        refine zJ.bipush (v := 6) dX2_settle_100 (by decide) ?_
        refine zJ.ldcf lc_X2_119 dX2_settle_102 ?_
        refine zG.callVv [.int 6, .float (1079194419 : UInt32)] [] (ob_1 o i) (ok_1 hi hn) rfl dX2_settle_104 ⟨(cb_X2_tally).1, (cb_X2_tally).2, (Nat.le_of_ble_eq_true rfl), (Nat.le_of_ble_eq_true rfl)⟩ ml_X2_81 ci_X2_tally cv_X2_tally rfl (Nat.le_of_ble_eq_true rfl) (Nat.le_of_ble_eq_true rfl) rfl h (fun S16 h2 => ?_)
        replace h := h2
        clear h2
        refine zJ.aload_n 2 dX2_settle_107 rfl rfl ?_
        refine zJ.iconst (v := 1) dX2_settle_108 (by decide) ?_
        refine zE.putI (fd_5_8 o i b) (ok_5 hi hb hn) kiX0 (Nat.le_of_ble_eq_true rfl) fl_X2_110 rfl rfl dX2_settle_109 ?_
        refine zJ.aload_n 2 dX2_settle_112 rfl rfl ?_
        refine zJ.ldc lc_X2_62 dX2_settle_113 ?_
        refine zE.putI (fd_5_10 o i b) (ok_5 hi hb hn) kiX0 (Nat.le_of_ble_eq_true rfl) fl_X2_113 rfl rfl dX2_settle_115 ?_
        refine zJ.aload_n 1 dX2_settle_118 rfl rfl ?_
        refine zJ.aload_n 2 dX2_settle_119 rfl rfl ?_
        refine zG.callVv [.ref (z_adr o (5, i, b))] [] (ob_1 o i) (ok_1 hi hn) rfl dX2_settle_120 ⟨(cb_X2_use).1, (cb_X2_use).2, (Nat.le_of_ble_eq_true rfl), (Nat.le_of_ble_eq_true rfl)⟩ ml_X2_171 ci_X2_use cv_X2_use rfl (Nat.le_of_ble_eq_true rfl) (Nat.le_of_ble_eq_true rfl) rfl h (fun S19 h2 => ?_)
        replace h := h2
        clear h2
        exact zG.ret (r := none) ⟨dX2_settle_123, rfl⟩ h
      · replace h := h.2 c10
        refine zJ.aload_n 1 dX2_settle_46 rfl rfl ?_
        refine zJ.dup dX2_settle_47 rfl ?_
        refine zE.getI (fd_1_6 o i) (ok_1 hi hn) kiX2 (Nat.le_of_ble_eq_true rfl) fl_X2_56 dX2_settle_48 ?_
        refine zJ.iconst (v := 1) dX2_settle_51 (by decide) ?_
        refine zJ.iadd dX2_settle_52 ?_
        refine zE.putI (fd_1_6 o i) (ok_1 hi hn) kiX2 (Nat.le_of_ble_eq_true rfl) fl_X2_56 rfl rfl dX2_settle_53 ?_
        refine zJ.aload_n 0 dX2_settle_56 rfl rfl ?_
        refine zJ.iconst (v := 2) dX2_settle_57 (by decide) ?_
        refine zE.putI (fd_5_8 o i b5) (ok_5 hi (hx4 b5 rfl) hn) kiX0 (Nat.le_of_ble_eq_true rfl) fl_X2_110 rfl rfl dX2_settle_58 ?_
        refine zJ.aload_n 1 dX2_settle_61 rfl rfl ?_
        refine zJ.aload_n 0 dX2_settle_62 rfl rfl ?_
        refine zJ.iconst (v := 1) dX2_settle_63 (by decide) ?_
        refine zJ.aload_n 1 dX2_settle_64 rfl rfl ?_
        refine zE.getV (fd_1_0 o i) (ok_1 hi hn) kiX2 (Nat.le_of_ble_eq_true rfl) fl_X2_13 dX2_settle_65 ?_
        refine zJ.iconst (v := 4) dX2_settle_68 (by decide) ?_
        refine zE.aldI (ia_2 o i) (ok_2 hi hn) (by unfold vp_in; decide) dX2_settle_69 ?_
        refine zJ.topi (fun y20 hyy20 => ?_)
        replace h := h y20 hyy20
        refine zJ.iconst (v := 2) dX2_settle_70 (by decide) ?_
        refine zJ.idiv dX2_settle_71 (by decide) ?_
        refine zJ.mmax ml_X2_164 mt_s_max mt_i mt_c_max (Nat.le_of_ble_eq_true rfl) (Nat.le_of_ble_eq_true rfl) dX2_settle_72 ?_
        refine zG.callVv [.ref (z_adr o (5, i, b5)), .int (if 1 < (y20 / 2) then (y20 / 2) else 1)] [] (ob_1 o i) (ok_1 hi hn) rfl dX2_settle_75 ⟨(cb_X2_setDue).1, (cb_X2_setDue).2, (Nat.le_of_ble_eq_true rfl), (Nat.le_of_ble_eq_true rfl)⟩ ml_X2_167 ci_X2_setDue cv_X2_setDue rfl (Nat.le_of_ble_eq_true rfl) (Nat.le_of_ble_eq_true rfl) rfl h (fun S24 h2 => ?_)
        replace h := h2
        clear h2
        refine zJ.goto (tgt := 107) dX2_settle_78 (by decide) ?_
        refine zJ.aload_n 2 dX2_settle_107 rfl rfl ?_
        refine zJ.iconst (v := 1) dX2_settle_108 (by decide) ?_
        refine zE.putI (fd_5_8 o i b) (ok_5 hi hb hn) kiX0 (Nat.le_of_ble_eq_true rfl) fl_X2_110 rfl rfl dX2_settle_109 ?_
        refine zJ.aload_n 2 dX2_settle_112 rfl rfl ?_
        refine zJ.ldc lc_X2_62 dX2_settle_113 ?_
        refine zE.putI (fd_5_10 o i b) (ok_5 hi hb hn) kiX0 (Nat.le_of_ble_eq_true rfl) fl_X2_113 rfl rfl dX2_settle_115 ?_
        refine zJ.aload_n 1 dX2_settle_118 rfl rfl ?_
        refine zJ.aload_n 2 dX2_settle_119 rfl rfl ?_
        refine zG.callVv [.ref (z_adr o (5, i, b))] [] (ob_1 o i) (ok_1 hi hn) rfl dX2_settle_120 ⟨(cb_X2_use).1, (cb_X2_use).2, (Nat.le_of_ble_eq_true rfl), (Nat.le_of_ble_eq_true rfl)⟩ ml_X2_171 ci_X2_use cv_X2_use rfl (Nat.le_of_ble_eq_true rfl) (Nat.le_of_ble_eq_true rfl) rfl h (fun S27 h2 => ?_)
        replace h := h2
        clear h2
        exact zG.ret (r := none) ⟨dX2_settle_123, rfl⟩ h
    · replace h := h.2 c9
      refine zJ.aload_n 0 dX2_settle_22 rfl rfl ?_
      refine zG.callVv [] [] (ob_5 o i b5) (ok_5 hi (hx4 b5 rfl) hn) rfl dX2_settle_23 ⟨(cb_X0_goFar).1, (cb_X0_goFar).2, (Nat.le_of_ble_eq_true rfl), (Nat.le_of_ble_eq_true rfl)⟩ ml_X2_116 ci_X0_goFar cv_X0_goFar rfl (Nat.le_of_ble_eq_true rfl) (Nat.le_of_ble_eq_true rfl) rfl h (fun S30 h2 => ?_)
      replace h := h2
      clear h2
      refine zJ.goto (tgt := 107) dX2_settle_26 (by decide) ?_
      refine zJ.aload_n 2 dX2_settle_107 rfl rfl ?_
      refine zJ.iconst (v := 1) dX2_settle_108 (by decide) ?_
      refine zE.putI (fd_5_8 o i b) (ok_5 hi hb hn) kiX0 (Nat.le_of_ble_eq_true rfl) fl_X2_110 rfl rfl dX2_settle_109 ?_
      refine zJ.aload_n 2 dX2_settle_112 rfl rfl ?_
      refine zJ.ldc lc_X2_62 dX2_settle_113 ?_
      refine zE.putI (fd_5_10 o i b) (ok_5 hi hb hn) kiX0 (Nat.le_of_ble_eq_true rfl) fl_X2_113 rfl rfl dX2_settle_115 ?_
      refine zJ.aload_n 1 dX2_settle_118 rfl rfl ?_
      refine zJ.aload_n 2 dX2_settle_119 rfl rfl ?_
      refine zG.callVv [.ref (z_adr o (5, i, b))] [] (ob_1 o i) (ok_1 hi hn) rfl dX2_settle_120 ⟨(cb_X2_use).1, (cb_X2_use).2, (Nat.le_of_ble_eq_true rfl), (Nat.le_of_ble_eq_true rfl)⟩ ml_X2_171 ci_X2_use cv_X2_use rfl (Nat.le_of_ble_eq_true rfl) (Nat.le_of_ble_eq_true rfl) rfl h (fun S33 h2 => ?_)
      replace h := h2
      clear h2
      exact zG.ret (r := none) ⟨dX2_settle_123, rfl⟩ h
set_option maxRecDepth 100000 in
set_option maxHeartbeats 4000000 in
theorem w_X2_whoMustGo_0 (o : zW) (n : Nat) (i : Nat) (hi : i < 8) (hn : z_sb i + 120 ≤ n) (x1 : Int32) (S : zS) (Q : Option Value → zS → Prop) (h : (0 ≤ x1 → (zG o n mdX2_whoMustGo 13 [(0, .ref (z_adr o (1, i, 0))), (2, .null), (3, .int 0), (4, .int x1)] [] S Q)) ∧ (¬ 0 ≤ x1 → (Q (some (va_rf (z_bo o i none))) S))) : zG o n mdX2_whoMustGo 0 [(0, .ref (z_adr o (1, i, 0))), (1, .int x1)] [] S Q := by
  show zJ o mdX2_whoMustGo 0 _ [] (n, z_enc o S) 0 0 _
  refine zJ.iload_n 1 dX2_whoMustGo_0 rfl rfl ?_
  refine zJ.if_ge (tgt := 6) dX2_whoMustGo_1 (by decide) (fun c1 => ?_) (fun c1 => ?_)
  · replace h := h.1 c1
    refine zJ.null dX2_whoMustGo_6 ?_
    refine zJ.astoreq_n (x := none) (lv' := [(2, .null), (0, .ref (z_adr o (1, i, 0))), (1, .int x1)]) dX2_whoMustGo_7 rfl (Nat.le_of_ble_eq_true rfl) rfl ?_
    refine zJ.iconst (v := 0) dX2_whoMustGo_8 (by decide) ?_
    refine zJ.istore_n (lv' := [(3, .int 0), (2, .null), (0, .ref (z_adr o (1, i, 0))), (1, .int x1)]) dX2_whoMustGo_9 rfl (Nat.le_of_ble_eq_true rfl) rfl ?_
    refine zJ.iload_n 3 dX2_whoMustGo_10 rfl rfl ?_
    refine zJ.istore (lv' := [(4, .int x1), (3, .int 0), (2, .null), (0, .ref (z_adr o (1, i, 0))), (1, .int x1)]) dX2_whoMustGo_11 (Nat.le_of_ble_eq_true rfl) rfl ?_
    exact zJ.sub [3, 2, 1, 0] rfl h
  · replace h := h.2 c1
    refine zJ.null dX2_whoMustGo_4 ?_
    exact zG.ret (r := some (.null)) ⟨dX2_whoMustGo_5, _, rfl⟩ h
set_option maxRecDepth 100000 in
set_option maxHeartbeats 4000000 in
theorem w_X2_whoMustGo_13 (o : zW) (n : Nat) (i : Nat) (hi : i < 8) (hn : z_sb i + 120 ≤ n) (x2 : Option Nat) (hx2 : ∀ b, x2 = some b → b < 16) (x3 : Int32) (x4 : Int32) (S : zS) (Q : Option Value → zS → Prop) (h : (16 ≤ x4 → (((S.1 (2, i, 0) 0) ≤ x3 → (Q (some (va_rf (z_bo o i x2))) S)) ∧ (¬ (S.1 (2, i, 0) 0) ≤ x3 → (Q (some (va_rf (z_bo o i none))) S)))) ∧ (¬ 16 ≤ x4 → (vp_in x4 16 ∧ ((¬ (S.1 (5, i, x4.toNatClampNeg) 8) = 1 → (zG o n mdX2_whoMustGo 13 [(0, .ref (z_adr o (1, i, 0))), (2, va_rf (z_bo o i x2)), (3, .int x3), (4, .int (x4 + 4))] [] S Q)) ∧ ((S.1 (5, i, x4.toNatClampNeg) 8) = 1 → ((x2 = none → (zG o n mdX2_whoMustGo 13 [(0, .ref (z_adr o (1, i, 0))), (2, .ref (z_adr o (5, i, x4.toNatClampNeg))), (3, .int (x3 + 1)), (4, .int (x4 + 4))] [] S Q)) ∧ (∀ b5, x2 = some b5 → (((S.1 (5, i, b5) 11) ≤ (S.1 (5, i, x4.toNatClampNeg) 11) → (zG o n mdX2_whoMustGo 13 [(0, .ref (z_adr o (1, i, 0))), (2, .ref (z_adr o (5, i, b5))), (3, .int (x3 + 1)), (4, .int (x4 + 4))] [] S Q)) ∧ (¬ (S.1 (5, i, b5) 11) ≤ (S.1 (5, i, x4.toNatClampNeg) 11) → (zG o n mdX2_whoMustGo 13 [(0, .ref (z_adr o (1, i, 0))), (2, .ref (z_adr o (5, i, x4.toNatClampNeg))), (3, .int (x3 + 1)), (4, .int (x4 + 4))] [] S Q)))))))))) : zG o n mdX2_whoMustGo 13 [(0, .ref (z_adr o (1, i, 0))), (2, va_rf (z_bo o i x2)), (3, .int x3), (4, .int x4)] [] S Q := by
  show zJ o mdX2_whoMustGo 13 _ [] (n, z_enc o S) 0 0 _
  refine zJ.iload 3 dX2_whoMustGo_13 rfl ?_
  refine zJ.bipush (v := 16) dX2_whoMustGo_15 (by decide) ?_
  refine zJ.icmp_ge (tgt := 70) dX2_whoMustGo_17 (by decide) (fun c1 => ?_) (fun c1 => ?_)
  · replace h := h.1 c1
    refine zJ.iload_n 2 dX2_whoMustGo_70 rfl rfl ?_
    refine zJ.aload_n 0 dX2_whoMustGo_71 rfl rfl ?_
    refine zE.getV (fd_1_0 o i) (ok_1 hi hn) kiX2 (Nat.le_of_ble_eq_true rfl) fl_X2_13 dX2_whoMustGo_72 ?_
    refine zJ.iconst (v := 0) dX2_whoMustGo_75 (by decide) ?_
    refine zE.aldI (ia_2 o i) (ok_2 hi hn) (by unfold vp_in; decide) dX2_whoMustGo_76 ?_
    refine zJ.icmp_ge (tgt := 84) dX2_whoMustGo_77 (by decide) (fun c2 => ?_) (fun c2 => ?_)
    · replace h := h.1 c2
      refine zJ.aloadq_n (x := z_bo o i x2) 1 dX2_whoMustGo_84 rfl rfl ?_
      cases x2 with
      | none => exact zG.ret (r := some .null) ⟨dX2_whoMustGo_85, _, rfl⟩ h
      | some b => exact zG.ret (r := some (.ref (z_adr o (5, i, b)))) ⟨dX2_whoMustGo_85, _, rfl⟩ h
    · replace h := h.2 c2
      refine zJ.null dX2_whoMustGo_80 ?_
      refine zJ.goto (tgt := 85) dX2_whoMustGo_81 (by decide) ?_
      exact zG.ret (r := some (.null)) ⟨dX2_whoMustGo_85, _, rfl⟩ h
  · replace h := h.2 c1
    refine zJ.aload_n 0 dX2_whoMustGo_20 rfl rfl ?_
    refine zE.getV (fd_1_2 o i) (ok_1 hi hn) kiX2 (Nat.le_of_ble_eq_true rfl) fl_X2_29 dX2_whoMustGo_21 ?_
    refine zJ.iload 3 dX2_whoMustGo_24 rfl ?_
    obtain ⟨hq3, h⟩ := h
    refine zE.aldB (ok_4 hi hn) hq3 dX2_whoMustGo_26 ?_
    refine zJ.astore (lv' := [(5, .ref (z_adr o (5, i, x4.toNatClampNeg))), (0, .ref (z_adr o (1, i, 0))), (2, va_rf (z_bo o i x2)), (3, .int x3), (4, .int x4)]) dX2_whoMustGo_27 (Nat.le_of_ble_eq_true rfl) rfl ?_
    refine zJ.aload 0 dX2_whoMustGo_29 rfl ?_
    refine zE.getI (fd_5_8 o i x4.toNatClampNeg) (ok_5 hi (z_vlt hq3) hn) kiX0 (Nat.le_of_ble_eq_true rfl) fl_X2_110 dX2_whoMustGo_31 ?_
    refine zJ.iconst (v := 1) dX2_whoMustGo_34 (by decide) ?_
    refine zJ.icmp_ne (tgt := 64) dX2_whoMustGo_35 (by decide) (fun c4 => ?_) (fun c4 => ?_)
    · replace h := h.1 c4
      refine zJ.iinc (k := 4) (lv' := [(4, .int (x4 + 4)), (5, .ref (z_adr o (5, i, x4.toNatClampNeg))), (0, .ref (z_adr o (1, i, 0))), (2, va_rf (z_bo o i x2)), (3, .int x3)]) dX2_whoMustGo_64 rfl rfl (Nat.le_of_ble_eq_true rfl) rfl ?_
      refine zJ.goto (tgt := 13) dX2_whoMustGo_67 (by decide) ?_
      exact zJ.sub [2, 3, 4, 0] rfl h
    · replace h := h.2 c4
      refine zJ.iinc (k := 3) (lv' := [(3, .int (x3 + 1)), (5, .ref (z_adr o (5, i, x4.toNatClampNeg))), (0, .ref (z_adr o (1, i, 0))), (2, va_rf (z_bo o i x2)), (4, .int x4)]) dX2_whoMustGo_38 rfl rfl (Nat.le_of_ble_eq_true rfl) (by first | (simp only [List.filter, z_catrf]; done) | (simp only [List.filter, z_catrf]; rfl) | simp [List.filter, z_catrf]) ?_
      refine zJ.aloadq_n (x := z_bo o i x2) 3 dX2_whoMustGo_41 rfl rfl ?_
      refine zE.ifnull (tgt := 57) dX2_whoMustGo_42 (by decide) ?_ ?_
      · intro hz
        replace h := h.1 hz
        subst hz
        refine zJ.aload 1 dX2_whoMustGo_57 rfl ?_
        refine zJ.goto (tgt := 63) dX2_whoMustGo_59 (by decide) ?_
        refine zJ.astore_n (lv' := [(2, .ref (z_adr o (5, i, x4.toNatClampNeg))), (3, .int (x3 + 1)), (5, .ref (z_adr o (5, i, x4.toNatClampNeg))), (0, .ref (z_adr o (1, i, 0))), (4, .int x4)]) dX2_whoMustGo_63 rfl (Nat.le_of_ble_eq_true rfl) rfl ?_
        refine zJ.iinc (k := 4) (lv' := [(4, .int (x4 + 4)), (2, .ref (z_adr o (5, i, x4.toNatClampNeg))), (3, .int (x3 + 1)), (5, .ref (z_adr o (5, i, x4.toNatClampNeg))), (0, .ref (z_adr o (1, i, 0)))]) dX2_whoMustGo_64 rfl rfl (Nat.le_of_ble_eq_true rfl) rfl ?_
        refine zJ.goto (tgt := 13) dX2_whoMustGo_67 (by decide) ?_
        exact zJ.sub [4, 1, 2, 0] rfl h
      · intro b5 hz
        replace h := h.2 b5 hz
        subst hz
        refine zJ.aload 1 dX2_whoMustGo_45 rfl ?_
        refine zE.getI (fd_5_11 o i x4.toNatClampNeg) (ok_5 hi (z_vlt hq3) hn) kiX0 (Nat.le_of_ble_eq_true rfl) fl_X2_174 dX2_whoMustGo_47 ?_
        refine zJ.aload_n 3 dX2_whoMustGo_50 rfl rfl ?_
        refine zE.getI (fd_5_11 o i b5) (ok_5 hi (hx2 b5 rfl) hn) kiX0 (Nat.le_of_ble_eq_true rfl) fl_X2_174 dX2_whoMustGo_51 ?_
        refine zJ.icmp_ge (tgt := 62) dX2_whoMustGo_54 (by decide) (fun c6 => ?_) (fun c6 => ?_)
        · replace h := h.1 c6
          refine zJ.aload_n 3 dX2_whoMustGo_62 rfl rfl ?_
          refine zJ.astore_n (lv' := [(2, .ref (z_adr o (5, i, b5))), (3, .int (x3 + 1)), (5, .ref (z_adr o (5, i, x4.toNatClampNeg))), (0, .ref (z_adr o (1, i, 0))), (4, .int x4)]) dX2_whoMustGo_63 rfl (Nat.le_of_ble_eq_true rfl) rfl ?_
          refine zJ.iinc (k := 4) (lv' := [(4, .int (x4 + 4)), (2, .ref (z_adr o (5, i, b5))), (3, .int (x3 + 1)), (5, .ref (z_adr o (5, i, x4.toNatClampNeg))), (0, .ref (z_adr o (1, i, 0)))]) dX2_whoMustGo_64 rfl rfl (Nat.le_of_ble_eq_true rfl) rfl ?_
          refine zJ.goto (tgt := 13) dX2_whoMustGo_67 (by decide) ?_
          exact zJ.sub [4, 1, 2, 0] rfl h
        · replace h := h.2 c6
          refine zJ.aload 1 dX2_whoMustGo_57 rfl ?_
          refine zJ.goto (tgt := 63) dX2_whoMustGo_59 (by decide) ?_
          refine zJ.astore_n (lv' := [(2, .ref (z_adr o (5, i, x4.toNatClampNeg))), (3, .int (x3 + 1)), (5, .ref (z_adr o (5, i, x4.toNatClampNeg))), (0, .ref (z_adr o (1, i, 0))), (4, .int x4)]) dX2_whoMustGo_63 rfl (Nat.le_of_ble_eq_true rfl) rfl ?_
          refine zJ.iinc (k := 4) (lv' := [(4, .int (x4 + 4)), (2, .ref (z_adr o (5, i, x4.toNatClampNeg))), (3, .int (x3 + 1)), (5, .ref (z_adr o (5, i, x4.toNatClampNeg))), (0, .ref (z_adr o (1, i, 0)))]) dX2_whoMustGo_64 rfl rfl (Nat.le_of_ble_eq_true rfl) rfl ?_
          refine zJ.goto (tgt := 13) dX2_whoMustGo_67 (by decide) ?_
          exact zJ.sub [4, 1, 2, 0] rfl h
set_option maxRecDepth 100000 in
set_option maxHeartbeats 4000000 in
theorem w_X2_use_0 (o : zW) (n : Nat) (i : Nat) (hi : i < 8) (hn : z_sb i + 120 ≤ n) (b : Nat) (hb : b < 16) (S : zS) (Q : Option Value → zS → Prop) (h : ∀ S1 : zS, S1 = (sI (sI S (1, i, 0) 7 ((S.1 (1, i, 0) 7) + 1)) (5, i, b) 11 ((sI S (1, i, 0) 7 ((S.1 (1, i, 0) 7) + 1)).1 (1, i, 0) 7)) → (Q none S1)) : zG o n mdX2_use 0 [(0, .ref (z_adr o (1, i, 0))), (1, .ref (z_adr o (5, i, b)))] [] S Q := by
  show zJ o mdX2_use 0 _ [] (n, z_enc o S) 0 0 _
  refine zJ.aload_n 0 dX2_use_0 rfl rfl ?_
  refine zJ.dup dX2_use_1 rfl ?_
  refine zE.getI (fd_1_7 o i) (ok_1 hi hn) kiX2 (Nat.le_of_ble_eq_true rfl) fl_X2_59 dX2_use_2 ?_
  refine zJ.iconst (v := 1) dX2_use_5 (by decide) ?_
  refine zJ.iadd dX2_use_6 ?_
  refine zE.putI (fd_1_7 o i) (ok_1 hi hn) kiX2 (Nat.le_of_ble_eq_true rfl) fl_X2_59 rfl rfl dX2_use_7 ?_
  refine zJ.aload_n 1 dX2_use_10 rfl rfl ?_
  refine zJ.aload_n 0 dX2_use_11 rfl rfl ?_
  refine zE.getI (fd_1_7 o i) (ok_1 hi hn) kiX2 (Nat.le_of_ble_eq_true rfl) fl_X2_59 dX2_use_12 ?_
  refine zE.putI (fd_5_11 o i b) (ok_5 hi hb hn) kiX0 (Nat.le_of_ble_eq_true rfl) fl_X2_174 rfl rfl dX2_use_15 ?_
  refine zJ.nameS (fun S1 hyS1 => ?_)
  replace h := h S1 hyS1
  exact zG.ret (r := none) ⟨dX2_use_18, rfl⟩ h
set_option maxRecDepth 100000 in
set_option maxHeartbeats 4000000 in
theorem w_X2_setDue_0 (o : zW) (n : Nat) (i : Nat) (hi : i < 8) (hn : z_sb i + 120 ≤ n) (b : Nat) (hb : b < 16) (x2 : Int32) (S : zS) (Q : Option Value → zS → Prop) (h : (((sI S (5, i, b) 10 ((S.1 (3, i, 0) 9) + x2)).1 (1, i, 0) 8) ≤ ((sI S (5, i, b) 10 ((S.1 (3, i, 0) 9) + x2)).1 (5, i, b) 10) → (∀ S2 : zS, S2 = (sI (sI S (5, i, b) 10 ((S.1 (3, i, 0) 9) + x2)) (1, i, 0) 8 ((sI S (5, i, b) 10 ((S.1 (3, i, 0) 9) + x2)).1 (1, i, 0) 8)) → (Q none S2))) ∧ (¬ ((sI S (5, i, b) 10 ((S.1 (3, i, 0) 9) + x2)).1 (1, i, 0) 8) ≤ ((sI S (5, i, b) 10 ((S.1 (3, i, 0) 9) + x2)).1 (5, i, b) 10) → (∀ S3 : zS, S3 = (sI (sI S (5, i, b) 10 ((S.1 (3, i, 0) 9) + x2)) (1, i, 0) 8 ((sI S (5, i, b) 10 ((S.1 (3, i, 0) 9) + x2)).1 (5, i, b) 10)) → (Q none S3)))) : zG o n mdX2_setDue 0 [(0, .ref (z_adr o (1, i, 0))), (1, .ref (z_adr o (5, i, b))), (2, .int x2)] [] S Q := by
  show zJ o mdX2_setDue 0 _ [] (n, z_enc o S) 0 0 _
  refine zJ.aload_n 1 dX2_setDue_0 rfl rfl ?_
  refine zJ.aload_n 0 dX2_setDue_1 rfl rfl ?_
  refine zE.getV (fd_1_1 o i) (ok_1 hi hn) kiX2 (Nat.le_of_ble_eq_true rfl) fl_X2_24 dX2_setDue_2 ?_
  refine zJ.bipush (v := 9) dX2_setDue_5 (by decide) ?_
  refine zE.aldI (ia_3 o i) (ok_3 hi hn) (by unfold vp_in; decide) dX2_setDue_7 ?_
  refine zJ.iload_n 2 dX2_setDue_8 rfl rfl ?_
  refine zJ.iadd dX2_setDue_9 ?_
  refine zE.putI (fd_5_10 o i b) (ok_5 hi hb hn) kiX0 (Nat.le_of_ble_eq_true rfl) fl_X2_113 rfl rfl dX2_setDue_10 ?_
  refine zJ.aload_n 0 dX2_setDue_13 rfl rfl ?_
  refine zJ.aload_n 1 dX2_setDue_14 rfl rfl ?_
  refine zE.getI (fd_5_10 o i b) (ok_5 hi hb hn) kiX0 (Nat.le_of_ble_eq_true rfl) fl_X2_113 dX2_setDue_15 ?_
  refine zJ.aload_n 0 dX2_setDue_18 rfl rfl ?_
  refine zE.getI (fd_1_8 o i) (ok_1 hi hn) kiX2 (Nat.le_of_ble_eq_true rfl) fl_X2_63 dX2_setDue_19 ?_
  refine zJ.icmp_ge (tgt := 32) dX2_setDue_22 (by decide) (fun c1 => ?_) (fun c1 => ?_)
  · replace h := h.1 c1
    refine zJ.aload_n 0 dX2_setDue_32 rfl rfl ?_
    refine zE.getI (fd_1_8 o i) (ok_1 hi hn) kiX2 (Nat.le_of_ble_eq_true rfl) fl_X2_63 dX2_setDue_33 ?_
    refine zE.putI (fd_1_8 o i) (ok_1 hi hn) kiX2 (Nat.le_of_ble_eq_true rfl) fl_X2_63 rfl rfl dX2_setDue_36 ?_
    refine zJ.nameS (fun S2 hyS2 => ?_)
    replace h := h S2 hyS2
    exact zG.ret (r := none) ⟨dX2_setDue_39, rfl⟩ h
  · replace h := h.2 c1
    refine zJ.aload_n 1 dX2_setDue_25 rfl rfl ?_
    refine zE.getI (fd_5_10 o i b) (ok_5 hi hb hn) kiX0 (Nat.le_of_ble_eq_true rfl) fl_X2_113 dX2_setDue_26 ?_
    refine zJ.goto (tgt := 36) dX2_setDue_29 (by decide) ?_
    refine zE.putI (fd_1_8 o i) (ok_1 hi hn) kiX2 (Nat.le_of_ble_eq_true rfl) fl_X2_63 rfl rfl dX2_setDue_36 ?_
    refine zJ.nameS (fun S3 hyS3 => ?_)
    replace h := h S3 hyS3
    exact zG.ret (r := none) ⟨dX2_setDue_39, rfl⟩ h
set_option maxRecDepth 100000 in
set_option maxHeartbeats 4000000 in
theorem w_X2_ask_0 (o : zW) (n : Nat) (i : Nat) (hi : i < 8) (hn : z_sb i + 120 ≤ n) (b : Nat) (hb : b < 16) (x2 : Int32) (x3 : Int32) (S : zS) (Q : Option Value → zS → Prop) (h : (¬ (S.1 (5, i, b) 8) = 1 → ((¬ (S.1 (5, i, b) 8) = 2 → ((¬ (S.1 (5, i, b) 8) = 3 → (((S.1 (1, i, 0) 5) < (S.1 (2, i, 0) 2) → (∀ y5 : Int32, y5 = ((sI (sI S (1, i, 0) 5 ((S.1 (1, i, 0) 5) + 1)) (5, i, b) 8 3).1 (2, i, 0) 4) → (zGv o n mdX2_setDue [.ref (z_adr o (1, i, 0)), .ref (z_adr o (5, i, b)), .int y5] (sI (sI S (1, i, 0) 5 ((S.1 (1, i, 0) 5) + 1)) (5, i, b) 8 3) (fun S8 => zGv o n mdX2_tally [.ref (z_adr o (1, i, 0)), .int 2, .float (1083703296 : UInt32)] S8 (fun S11 => zGv o n mdX2_takeAsker [.ref (z_adr o (1, i, 0)), .ref (z_adr o (5, i, b)), .int x2, .int x3] S11 (fun S14 => Q (some (.int 1)) S14)))))) ∧ (¬ (S.1 (1, i, 0) 5) < (S.1 (2, i, 0) 2) → (Q (some (.int 0)) S)))) ∧ ((S.1 (5, i, b) 8) = 3 → (((S.1 (5, i, b) 7) < (S.1 (2, i, 0) 3) → (zGv o n mdX2_tally [.ref (z_adr o (1, i, 0)), .int 1, .float (1048576000 : UInt32)] S (fun S18 => zGv o n mdX2_takeAsker [.ref (z_adr o (1, i, 0)), .ref (z_adr o (5, i, b)), .int x2, .int x3] S18 (fun S21 => Q (some (.int 1)) S21)))) ∧ (¬ (S.1 (5, i, b) 7) < (S.1 (2, i, 0) 3) → (Q (some (.int 0)) S)))))) ∧ ((S.1 (5, i, b) 8) = 2 → (zGv o n mdX2_settle [.ref (z_adr o (1, i, 0)), .ref (z_adr o (5, i, b))] (sI S (1, i, 0) 6 ((S.1 (1, i, 0) 6) - 1)) (fun S24 => zGv o n mdX2_tally [.ref (z_adr o (1, i, 0)), .int 3, .float (1074266112 : UInt32)] S24 (fun S27 => zGv o n mdX2_takeAsker [.ref (z_adr o (1, i, 0)), .ref (z_adr o (5, i, b)), .int x2, .int x3] S27 (fun S30 => Q (some (.int 1)) S30))))))) ∧ ((S.1 (5, i, b) 8) = 1 → (zGv o n mdX2_use [.ref (z_adr o (1, i, 0)), .ref (z_adr o (5, i, b))] S (fun S33 => zGv o n mdX2_tally [.ref (z_adr o (1, i, 0)), .int 0, .float (1069547520 : UInt32)] S33 (fun S36 => zGv o n mdX2_takeAsker [.ref (z_adr o (1, i, 0)), .ref (z_adr o (5, i, b)), .int x2, .int x3] S36 (fun S39 => Q (some (.int 1)) S39)))))) : zG o n mdX2_ask 0 [(0, .ref (z_adr o (1, i, 0))), (1, .ref (z_adr o (5, i, b))), (2, .int x2), (3, .int x3)] [] S Q := by
  show zJ o mdX2_ask 0 _ [] (n, z_enc o S) 0 0 _
  refine zJ.aload_n 1 dX2_ask_0 rfl rfl ?_
  refine zE.getI (fd_5_8 o i b) (ok_5 hi hb hn) kiX0 (Nat.le_of_ble_eq_true rfl) fl_X2_110 dX2_ask_1 ?_
  refine zJ.iconst (v := 1) dX2_ask_4 (by decide) ?_
  refine zJ.icmp_ne (tgt := 23) dX2_ask_5 (by decide) (fun c1 => ?_) (fun c1 => ?_)
  · replace h := h.1 c1
    refine zJ.aload_n 1 dX2_ask_23 rfl rfl ?_
    refine zE.getI (fd_5_8 o i b) (ok_5 hi hb hn) kiX0 (Nat.le_of_ble_eq_true rfl) fl_X2_110 dX2_ask_24 ?_
    refine zJ.iconst (v := 2) dX2_ask_27 (by decide) ?_
    refine zJ.icmp_ne (tgt := 56) dX2_ask_28 (by decide) (fun c2 => ?_) (fun c2 => ?_)
    · replace h := h.1 c2
      refine zJ.aload_n 1 dX2_ask_56 rfl rfl ?_
      refine zE.getI (fd_5_8 o i b) (ok_5 hi hb hn) kiX0 (Nat.le_of_ble_eq_true rfl) fl_X2_110 dX2_ask_57 ?_
      refine zJ.iconst (v := 3) dX2_ask_60 (by decide) ?_
      refine zJ.icmp_ne (tgt := 89) dX2_ask_61 (by decide) (fun c3 => ?_) (fun c3 => ?_)
      · replace h := h.1 c3
        refine zJ.aload_n 0 dX2_ask_89 rfl rfl ?_
        refine zE.getI (fd_1_5 o i) (ok_1 hi hn) kiX2 (Nat.le_of_ble_eq_true rfl) fl_X2_52 dX2_ask_90 ?_
        refine zJ.aload_n 0 dX2_ask_93 rfl rfl ?_
        refine zE.getV (fd_1_0 o i) (ok_1 hi hn) kiX2 (Nat.le_of_ble_eq_true rfl) fl_X2_13 dX2_ask_94 ?_
        refine zJ.iconst (v := 2) dX2_ask_97 (by decide) ?_
        refine zE.aldI (ia_2 o i) (ok_2 hi hn) (by unfold vp_in; decide) dX2_ask_98 ?_
        refine zJ.icmp_lt (tgt := 104) dX2_ask_99 (by decide) (fun c4 => ?_) (fun c4 => ?_)
        · replace h := h.1 c4
          refine zJ.aload_n 0 dX2_ask_104 rfl rfl ?_
          refine zJ.dup dX2_ask_105 rfl ?_
          refine zE.getI (fd_1_5 o i) (ok_1 hi hn) kiX2 (Nat.le_of_ble_eq_true rfl) fl_X2_52 dX2_ask_106 ?_
          refine zJ.iconst (v := 1) dX2_ask_109 (by decide) ?_
          refine zJ.iadd dX2_ask_110 ?_
          refine zE.putI (fd_1_5 o i) (ok_1 hi hn) kiX2 (Nat.le_of_ble_eq_true rfl) fl_X2_52 rfl rfl dX2_ask_111 ?_
          refine zJ.aload_n 1 dX2_ask_114 rfl rfl ?_
          refine zJ.iconst (v := 3) dX2_ask_115 (by decide) ?_
          refine zE.putI (fd_5_8 o i b) (ok_5 hi hb hn) kiX0 (Nat.le_of_ble_eq_true rfl) fl_X2_110 rfl rfl dX2_ask_116 ?_
          refine zJ.aload_n 0 dX2_ask_119 rfl rfl ?_
          refine zJ.aload_n 1 dX2_ask_120 rfl rfl ?_
          refine zJ.aload_n 0 dX2_ask_121 rfl rfl ?_
          refine zE.getV (fd_1_0 o i) (ok_1 hi hn) kiX2 (Nat.le_of_ble_eq_true rfl) fl_X2_13 dX2_ask_122 ?_
          refine zJ.iconst (v := 4) dX2_ask_125 (by decide) ?_
          refine zE.aldI (ia_2 o i) (ok_2 hi hn) (by unfold vp_in; decide) dX2_ask_126 ?_
          refine zJ.topi (fun y5 hyy5 => ?_)
          replace h := h y5 hyy5
          refine zG.callVv [.ref (z_adr o (5, i, b)), .int y5] [] (ob_1 o i) (ok_1 hi hn) rfl dX2_ask_127 ⟨(cb_X2_setDue).1, (cb_X2_setDue).2, (Nat.le_of_ble_eq_true rfl), (Nat.le_of_ble_eq_true rfl)⟩ ml_X2_167 ci_X2_setDue cv_X2_setDue rfl (Nat.le_of_ble_eq_true rfl) (Nat.le_of_ble_eq_true rfl) rfl h (fun S8 h2 => ?_)
          replace h := h2
          clear h2
          refine zJ.aload_n 0 dX2_ask_130 rfl rfl ?_
          refine zJ.iconst (v := 2) dX2_ask_131 (by decide) ?_
          refine zJ.ldcf lc_X2_180 dX2_ask_132 ?_
          refine zG.callVv [.int 2, .float (1083703296 : UInt32)] [] (ob_1 o i) (ok_1 hi hn) rfl dX2_ask_134 ⟨(cb_X2_tally).1, (cb_X2_tally).2, (Nat.le_of_ble_eq_true rfl), (Nat.le_of_ble_eq_true rfl)⟩ ml_X2_81 ci_X2_tally cv_X2_tally rfl (Nat.le_of_ble_eq_true rfl) (Nat.le_of_ble_eq_true rfl) rfl h (fun S11 h2 => ?_)
          replace h := h2
          clear h2
          refine zJ.aload_n 0 dX2_ask_137 rfl rfl ?_
          refine zJ.aload_n 1 dX2_ask_138 rfl rfl ?_
          refine zJ.iload_n 2 dX2_ask_139 rfl rfl ?_
          refine zJ.iload_n 3 dX2_ask_140 rfl rfl ?_
          refine zG.callVv [.ref (z_adr o (5, i, b)), .int x2, .int x3] [] (ob_1 o i) (ok_1 hi hn) rfl dX2_ask_141 ⟨(cb_X2_takeAsker).1, (cb_X2_takeAsker).2, (Nat.le_of_ble_eq_true rfl), (Nat.le_of_ble_eq_true rfl)⟩ ml_X2_181 ci_X2_takeAsker cv_X2_takeAsker rfl (Nat.le_of_ble_eq_true rfl) (Nat.le_of_ble_eq_true rfl) rfl h (fun S14 h2 => ?_)
          replace h := h2
          clear h2
          refine zJ.iconst (v := 1) dX2_ask_144 (by decide) ?_
          exact zG.ret (r := some (.int 1)) ⟨dX2_ask_145, _, rfl, rfl⟩ h
        · replace h := h.2 c4
          refine zJ.iconst (v := 0) dX2_ask_102 (by decide) ?_
          exact zG.ret (r := some (.int 0)) ⟨dX2_ask_103, _, rfl, rfl⟩ h
      · replace h := h.2 c3
        refine zJ.aload_n 1 dX2_ask_64 rfl rfl ?_
        refine zE.getI (fd_5_7 o i b) (ok_5 hi hb hn) kiX0 (Nat.le_of_ble_eq_true rfl) fl_X2_135 dX2_ask_65 ?_
        refine zJ.aload_n 0 dX2_ask_68 rfl rfl ?_
        refine zE.getV (fd_1_0 o i) (ok_1 hi hn) kiX2 (Nat.le_of_ble_eq_true rfl) fl_X2_13 dX2_ask_69 ?_
        refine zJ.iconst (v := 3) dX2_ask_72 (by decide) ?_
        refine zE.aldI (ia_2 o i) (ok_2 hi hn) (by unfold vp_in; decide) dX2_ask_73 ?_
        refine zJ.icmp_lt (tgt := 79) dX2_ask_74 (by decide) (fun c15 => ?_) (fun c15 => ?_)
        · replace h := h.1 c15
          refine zJ.aload_n 0 dX2_ask_79 rfl rfl ?_
          refine zJ.iconst (v := 1) dX2_ask_80 (by decide) ?_
          refine zJ.ldcf lc_X2_179 dX2_ask_81 ?_
          refine zG.callVv [.int 1, .float (1048576000 : UInt32)] [] (ob_1 o i) (ok_1 hi hn) rfl dX2_ask_83 ⟨(cb_X2_tally).1, (cb_X2_tally).2, (Nat.le_of_ble_eq_true rfl), (Nat.le_of_ble_eq_true rfl)⟩ ml_X2_81 ci_X2_tally cv_X2_tally rfl (Nat.le_of_ble_eq_true rfl) (Nat.le_of_ble_eq_true rfl) rfl h (fun S18 h2 => ?_)
          replace h := h2
          clear h2
          refine zJ.goto (tgt := 137) dX2_ask_86 (by decide) ?_
          refine zJ.aload_n 0 dX2_ask_137 rfl rfl ?_
          refine zJ.aload_n 1 dX2_ask_138 rfl rfl ?_
          refine zJ.iload_n 2 dX2_ask_139 rfl rfl ?_
          refine zJ.iload_n 3 dX2_ask_140 rfl rfl ?_
          refine zG.callVv [.ref (z_adr o (5, i, b)), .int x2, .int x3] [] (ob_1 o i) (ok_1 hi hn) rfl dX2_ask_141 ⟨(cb_X2_takeAsker).1, (cb_X2_takeAsker).2, (Nat.le_of_ble_eq_true rfl), (Nat.le_of_ble_eq_true rfl)⟩ ml_X2_181 ci_X2_takeAsker cv_X2_takeAsker rfl (Nat.le_of_ble_eq_true rfl) (Nat.le_of_ble_eq_true rfl) rfl h (fun S21 h2 => ?_)
          replace h := h2
          clear h2
          refine zJ.iconst (v := 1) dX2_ask_144 (by decide) ?_
          exact zG.ret (r := some (.int 1)) ⟨dX2_ask_145, _, rfl, rfl⟩ h
        · replace h := h.2 c15
          refine zJ.iconst (v := 0) dX2_ask_77 (by decide) ?_
          exact zG.ret (r := some (.int 0)) ⟨dX2_ask_78, _, rfl, rfl⟩ h
    · replace h := h.2 c2
      refine zJ.aload_n 0 dX2_ask_31 rfl rfl ?_
      refine zJ.dup dX2_ask_32 rfl ?_
      refine zE.getI (fd_1_6 o i) (ok_1 hi hn) kiX2 (Nat.le_of_ble_eq_true rfl) fl_X2_56 dX2_ask_33 ?_
      refine zJ.iconst (v := 1) dX2_ask_36 (by decide) ?_
      refine zJ.isub dX2_ask_37 ?_
      refine zE.putI (fd_1_6 o i) (ok_1 hi hn) kiX2 (Nat.le_of_ble_eq_true rfl) fl_X2_56 rfl rfl dX2_ask_38 ?_
      refine zJ.aload_n 0 dX2_ask_41 rfl rfl ?_
      refine zJ.aload_n 1 dX2_ask_42 rfl rfl ?_
      refine zG.callVv [.ref (z_adr o (5, i, b))] [] (ob_1 o i) (ok_1 hi hn) rfl dX2_ask_43 ⟨(cb_X2_settle).1, (cb_X2_settle).2, (Nat.le_of_ble_eq_true rfl), (Nat.le_of_ble_eq_true rfl)⟩ ml_X2_132 ci_X2_settle cv_X2_settle rfl (Nat.le_of_ble_eq_true rfl) (Nat.le_of_ble_eq_true rfl) rfl h (fun S24 h2 => ?_)
      replace h := h2
      clear h2
      refine zJ.aload_n 0 dX2_ask_46 rfl rfl ?_
      refine zJ.iconst (v := 3) dX2_ask_47 (by decide) ?_
      refine zJ.ldcf lc_X2_178 dX2_ask_48 ?_
      refine zG.callVv [.int 3, .float (1074266112 : UInt32)] [] (ob_1 o i) (ok_1 hi hn) rfl dX2_ask_50 ⟨(cb_X2_tally).1, (cb_X2_tally).2, (Nat.le_of_ble_eq_true rfl), (Nat.le_of_ble_eq_true rfl)⟩ ml_X2_81 ci_X2_tally cv_X2_tally rfl (Nat.le_of_ble_eq_true rfl) (Nat.le_of_ble_eq_true rfl) rfl h (fun S27 h2 => ?_)
      replace h := h2
      clear h2
      refine zJ.goto (tgt := 137) dX2_ask_53 (by decide) ?_
      refine zJ.aload_n 0 dX2_ask_137 rfl rfl ?_
      refine zJ.aload_n 1 dX2_ask_138 rfl rfl ?_
      refine zJ.iload_n 2 dX2_ask_139 rfl rfl ?_
      refine zJ.iload_n 3 dX2_ask_140 rfl rfl ?_
      refine zG.callVv [.ref (z_adr o (5, i, b)), .int x2, .int x3] [] (ob_1 o i) (ok_1 hi hn) rfl dX2_ask_141 ⟨(cb_X2_takeAsker).1, (cb_X2_takeAsker).2, (Nat.le_of_ble_eq_true rfl), (Nat.le_of_ble_eq_true rfl)⟩ ml_X2_181 ci_X2_takeAsker cv_X2_takeAsker rfl (Nat.le_of_ble_eq_true rfl) (Nat.le_of_ble_eq_true rfl) rfl h (fun S30 h2 => ?_)
      replace h := h2
      clear h2
      refine zJ.iconst (v := 1) dX2_ask_144 (by decide) ?_
      exact zG.ret (r := some (.int 1)) ⟨dX2_ask_145, _, rfl, rfl⟩ h
  · replace h := h.2 c1
    refine zJ.aload_n 0 dX2_ask_8 rfl rfl ?_
    refine zJ.aload_n 1 dX2_ask_9 rfl rfl ?_
    refine zG.callVv [.ref (z_adr o (5, i, b))] [] (ob_1 o i) (ok_1 hi hn) rfl dX2_ask_10 ⟨(cb_X2_use).1, (cb_X2_use).2, (Nat.le_of_ble_eq_true rfl), (Nat.le_of_ble_eq_true rfl)⟩ ml_X2_171 ci_X2_use cv_X2_use rfl (Nat.le_of_ble_eq_true rfl) (Nat.le_of_ble_eq_true rfl) rfl h (fun S33 h2 => ?_)
    replace h := h2
    clear h2
    refine zJ.aload_n 0 dX2_ask_13 rfl rfl ?_
    refine zJ.iconst (v := 0) dX2_ask_14 (by decide) ?_
    refine zJ.ldcf lc_X2_177 dX2_ask_15 ?_
    refine zG.callVv [.int 0, .float (1069547520 : UInt32)] [] (ob_1 o i) (ok_1 hi hn) rfl dX2_ask_17 ⟨(cb_X2_tally).1, (cb_X2_tally).2, (Nat.le_of_ble_eq_true rfl), (Nat.le_of_ble_eq_true rfl)⟩ ml_X2_81 ci_X2_tally cv_X2_tally rfl (Nat.le_of_ble_eq_true rfl) (Nat.le_of_ble_eq_true rfl) rfl h (fun S36 h2 => ?_)
    replace h := h2
    clear h2
    refine zJ.goto (tgt := 137) dX2_ask_20 (by decide) ?_
    refine zJ.aload_n 0 dX2_ask_137 rfl rfl ?_
    refine zJ.aload_n 1 dX2_ask_138 rfl rfl ?_
    refine zJ.iload_n 2 dX2_ask_139 rfl rfl ?_
    refine zJ.iload_n 3 dX2_ask_140 rfl rfl ?_
    refine zG.callVv [.ref (z_adr o (5, i, b)), .int x2, .int x3] [] (ob_1 o i) (ok_1 hi hn) rfl dX2_ask_141 ⟨(cb_X2_takeAsker).1, (cb_X2_takeAsker).2, (Nat.le_of_ble_eq_true rfl), (Nat.le_of_ble_eq_true rfl)⟩ ml_X2_181 ci_X2_takeAsker cv_X2_takeAsker rfl (Nat.le_of_ble_eq_true rfl) (Nat.le_of_ble_eq_true rfl) rfl h (fun S39 h2 => ?_)
    replace h := h2
    clear h2
    refine zJ.iconst (v := 1) dX2_ask_144 (by decide) ?_
    exact zG.ret (r := some (.int 1)) ⟨dX2_ask_145, _, rfl, rfl⟩ h
set_option maxRecDepth 100000 in
set_option maxHeartbeats 4000000 in
theorem w_X2_takeAsker_0 (o : zW) (n : Nat) (i : Nat) (hi : i < 8) (hn : z_sb i + 120 ≤ n) (b : Nat) (hb : b < 16) (x2 : Int32) (x3 : Int32) (S : zS) (Q : Option Value → zS → Prop) (h : (¬ x3 = (-1) → ((¬ (S.1 (5, i, b) 8) = 1 → (zGv o n mdX0_addAsker [.ref (z_adr o (5, i, b)), .int x2, .int x3, .int (-1), .int (S.1 (3, i, 0) 9)] S (fun S5 => Q none S5))) ∧ ((S.1 (5, i, b) 8) = 1 → (zGv o n mdX2_serve [.ref (z_adr o (1, i, 0)), .ref (z_adr o (5, i, b)), .int x2, .int x3, .int (-1), .int (S.1 (3, i, 0) 9)] S (fun S8 => Q none S8))))) ∧ (x3 = (-1) → (zGi o n mdX1_add [.ref (z_adr o (12, i, 0)), .int ((sI S (3, i, 0) 7 ((S.1 (3, i, 0) 7) + 1)).1 (3, i, 0) 9)] (sI S (3, i, 0) 7 ((S.1 (3, i, 0) 7) + 1)) (fun r10 S11 => (¬ (S11.1 (5, i, b) 8) = 1 → (zGv o n mdX0_addAsker [.ref (z_adr o (5, i, b)), .int x2, .int x3, .int r10, .int (S11.1 (3, i, 0) 9)] S11 (fun S15 => Q none S15))) ∧ ((S11.1 (5, i, b) 8) = 1 → (zGv o n mdX2_serve [.ref (z_adr o (1, i, 0)), .ref (z_adr o (5, i, b)), .int x2, .int x3, .int r10, .int (S11.1 (3, i, 0) 9)] S11 (fun S18 => Q none S18))))))) : zG o n mdX2_takeAsker 0 [(0, .ref (z_adr o (1, i, 0))), (1, .ref (z_adr o (5, i, b))), (2, .int x2), (3, .int x3)] [] S Q := by
  show zJ o mdX2_takeAsker 0 _ [] (n, z_enc o S) 0 0 _
  refine zJ.iconst (v := (-1)) dX2_takeAsker_0 (by decide) ?_
  refine zJ.istore (lv' := [(4, .int (-1)), (0, .ref (z_adr o (1, i, 0))), (1, .ref (z_adr o (5, i, b))), (2, .int x2), (3, .int x3)]) dX2_takeAsker_1 (Nat.le_of_ble_eq_true rfl) rfl ?_
  refine zJ.iload_n 4 dX2_takeAsker_3 rfl rfl ?_
  refine zJ.iconst (v := (-1)) dX2_takeAsker_4 (by decide) ?_
  refine zJ.icmp_ne (tgt := 35) dX2_takeAsker_5 (by decide) (fun c1 => ?_) (fun c1 => ?_)
  · replace h := h.1 c1
    refine zJ.aload_n 2 dX2_takeAsker_35 rfl rfl ?_
    refine zE.getI (fd_5_8 o i b) (ok_5 hi hb hn) kiX0 (Nat.le_of_ble_eq_true rfl) fl_X2_110 dX2_takeAsker_36 ?_
    refine zJ.iconst (v := 1) dX2_takeAsker_39 (by decide) ?_
    refine zJ.icmp_ne (tgt := 62) dX2_takeAsker_40 (by decide) (fun c2 => ?_) (fun c2 => ?_)
    · replace h := h.1 c2
      refine zJ.aload_n 2 dX2_takeAsker_62 rfl rfl ?_
      refine zJ.iload_n 3 dX2_takeAsker_63 rfl rfl ?_
      refine zJ.iload_n 4 dX2_takeAsker_64 rfl rfl ?_
      refine zJ.iload 0 dX2_takeAsker_65 rfl ?_
      refine zJ.aload_n 1 dX2_takeAsker_67 rfl rfl ?_
      refine zE.getV (fd_1_1 o i) (ok_1 hi hn) kiX2 (Nat.le_of_ble_eq_true rfl) fl_X2_24 dX2_takeAsker_68 ?_
      refine zJ.bipush (v := 9) dX2_takeAsker_71 (by decide) ?_
      refine zE.aldI (ia_3 o i) (ok_3 hi hn) (by unfold vp_in; decide) dX2_takeAsker_73 ?_
      refine zG.callVv [.int x2, .int x3, .int (-1), .int (S.1 (3, i, 0) 9)] [] (ob_5 o i b) (ok_5 hi hb hn) rfl dX2_takeAsker_74 ⟨(cb_X0_addAsker).1, (cb_X0_addAsker).2, (Nat.le_of_ble_eq_true rfl), (Nat.le_of_ble_eq_true rfl)⟩ ml_X2_189 ci_X0_addAsker cv_X0_addAsker rfl (Nat.le_of_ble_eq_true rfl) (Nat.le_of_ble_eq_true rfl) rfl h (fun S5 h2 => ?_)
      replace h := h2
      clear h2
      exact zG.ret (r := none) ⟨dX2_takeAsker_77, rfl⟩ h
    · replace h := h.2 c2
      refine zJ.aload_n 1 dX2_takeAsker_43 rfl rfl ?_
      refine zJ.aload_n 2 dX2_takeAsker_44 rfl rfl ?_
      refine zJ.iload_n 3 dX2_takeAsker_45 rfl rfl ?_
      refine zJ.iload_n 4 dX2_takeAsker_46 rfl rfl ?_
      refine zJ.iload 0 dX2_takeAsker_47 rfl ?_
      refine zJ.aload_n 1 dX2_takeAsker_49 rfl rfl ?_
      refine zE.getV (fd_1_1 o i) (ok_1 hi hn) kiX2 (Nat.le_of_ble_eq_true rfl) fl_X2_24 dX2_takeAsker_50 ?_
      refine zJ.bipush (v := 9) dX2_takeAsker_53 (by decide) ?_
      refine zE.aldI (ia_3 o i) (ok_3 hi hn) (by unfold vp_in; decide) dX2_takeAsker_55 ?_
      refine zG.callVv [.ref (z_adr o (5, i, b)), .int x2, .int x3, .int (-1), .int (S.1 (3, i, 0) 9)] [] (ob_1 o i) (ok_1 hi hn) rfl dX2_takeAsker_56 ⟨(cb_X2_serve).1, (cb_X2_serve).2, (Nat.le_of_ble_eq_true rfl), (Nat.le_of_ble_eq_true rfl)⟩ ml_X2_150 ci_X2_serve cv_X2_serve rfl (Nat.le_of_ble_eq_true rfl) (Nat.le_of_ble_eq_true rfl) rfl h (fun S8 h2 => ?_)
      replace h := h2
      clear h2
      refine zJ.goto (tgt := 77) dX2_takeAsker_59 (by decide) ?_
      exact zG.ret (r := none) ⟨dX2_takeAsker_77, rfl⟩ h
  · replace h := h.2 c1
    refine zJ.aload_n 1 dX2_takeAsker_8 rfl rfl ?_
    refine zE.getV (fd_1_1 o i) (ok_1 hi hn) kiX2 (Nat.le_of_ble_eq_true rfl) fl_X2_24 dX2_takeAsker_9 ?_
    refine zJ.bipush (v := 7) dX2_takeAsker_12 (by decide) ?_
    refine zJ.dup2_11 dX2_takeAsker_14 rfl rfl ?_
    refine zE.aldI (ia_3 o i) (ok_3 hi hn) (by unfold vp_in; decide) dX2_takeAsker_15 ?_
    refine zJ.iconst (v := 1) dX2_takeAsker_16 (by decide) ?_
    refine zJ.iadd dX2_takeAsker_17 ?_
    refine zE.astI (ia_3 o i) (ok_3 hi hn) (by unfold vp_in; decide) dX2_takeAsker_18 ?_
    refine zJ.aload_n 1 dX2_takeAsker_19 rfl rfl ?_
    refine zE.getV (fd_1_3 o i) (ok_1 hi hn) kiX2 (Nat.le_of_ble_eq_true rfl) fl_X2_39 dX2_takeAsker_20 ?_
    refine zJ.aload_n 1 dX2_takeAsker_23 rfl rfl ?_
    refine zE.getV (fd_1_1 o i) (ok_1 hi hn) kiX2 (Nat.le_of_ble_eq_true rfl) fl_X2_24 dX2_takeAsker_24 ?_
    refine zJ.bipush (v := 9) dX2_takeAsker_27 (by decide) ?_
    refine zE.aldI (ia_3 o i) (ok_3 hi hn) (by unfold vp_in; decide) dX2_takeAsker_29 ?_
    refine zG.callVi [.int ((sI S (3, i, 0) 7 ((S.1 (3, i, 0) 7) + 1)).1 (3, i, 0) 9)] [] (ob_12 o i) (ok_12 hi hn) rfl dX2_takeAsker_30 ⟨(cb_X1_add).1, (cb_X1_add).2, (Nat.le_of_ble_eq_true rfl), (Nat.le_of_ble_eq_true rfl)⟩ ml_X2_185 ci_X1_add cv_X1_add rfl (Nat.le_of_ble_eq_true rfl) (Nat.le_of_ble_eq_true rfl) rfl h (fun r10 S11 h2 => ?_)
    replace h := h2
    clear h2
    refine zJ.istore (lv' := [(4, .int r10), (0, .ref (z_adr o (1, i, 0))), (1, .ref (z_adr o (5, i, b))), (2, .int x2), (3, .int x3)]) dX2_takeAsker_33 (Nat.le_of_ble_eq_true rfl) rfl ?_
    refine zJ.aload_n 2 dX2_takeAsker_35 rfl rfl ?_
    refine zE.getI (fd_5_8 o i b) (ok_5 hi hb hn) kiX0 (Nat.le_of_ble_eq_true rfl) fl_X2_110 dX2_takeAsker_36 ?_
    refine zJ.iconst (v := 1) dX2_takeAsker_39 (by decide) ?_
    refine zJ.icmp_ne (tgt := 62) dX2_takeAsker_40 (by decide) (fun c12 => ?_) (fun c12 => ?_)
    · replace h := h.1 c12
      refine zJ.aload_n 2 dX2_takeAsker_62 rfl rfl ?_
      refine zJ.iload_n 3 dX2_takeAsker_63 rfl rfl ?_
      refine zJ.iload_n 4 dX2_takeAsker_64 rfl rfl ?_
      refine zJ.iload 0 dX2_takeAsker_65 rfl ?_
      refine zJ.aload_n 1 dX2_takeAsker_67 rfl rfl ?_
      refine zE.getV (fd_1_1 o i) (ok_1 hi hn) kiX2 (Nat.le_of_ble_eq_true rfl) fl_X2_24 dX2_takeAsker_68 ?_
      refine zJ.bipush (v := 9) dX2_takeAsker_71 (by decide) ?_
      refine zE.aldI (ia_3 o i) (ok_3 hi hn) (by unfold vp_in; decide) dX2_takeAsker_73 ?_
      refine zG.callVv [.int x2, .int x3, .int r10, .int (S11.1 (3, i, 0) 9)] [] (ob_5 o i b) (ok_5 hi hb hn) rfl dX2_takeAsker_74 ⟨(cb_X0_addAsker).1, (cb_X0_addAsker).2, (Nat.le_of_ble_eq_true rfl), (Nat.le_of_ble_eq_true rfl)⟩ ml_X2_189 ci_X0_addAsker cv_X0_addAsker rfl (Nat.le_of_ble_eq_true rfl) (Nat.le_of_ble_eq_true rfl) rfl h (fun S15 h2 => ?_)
      replace h := h2
      clear h2
      exact zG.ret (r := none) ⟨dX2_takeAsker_77, rfl⟩ h
    · replace h := h.2 c12
      refine zJ.aload_n 1 dX2_takeAsker_43 rfl rfl ?_
      refine zJ.aload_n 2 dX2_takeAsker_44 rfl rfl ?_
      refine zJ.iload_n 3 dX2_takeAsker_45 rfl rfl ?_
      refine zJ.iload_n 4 dX2_takeAsker_46 rfl rfl ?_
      refine zJ.iload 0 dX2_takeAsker_47 rfl ?_
      refine zJ.aload_n 1 dX2_takeAsker_49 rfl rfl ?_
      refine zE.getV (fd_1_1 o i) (ok_1 hi hn) kiX2 (Nat.le_of_ble_eq_true rfl) fl_X2_24 dX2_takeAsker_50 ?_
      refine zJ.bipush (v := 9) dX2_takeAsker_53 (by decide) ?_
      refine zE.aldI (ia_3 o i) (ok_3 hi hn) (by unfold vp_in; decide) dX2_takeAsker_55 ?_
      refine zG.callVv [.ref (z_adr o (5, i, b)), .int x2, .int x3, .int r10, .int (S11.1 (3, i, 0) 9)] [] (ob_1 o i) (ok_1 hi hn) rfl dX2_takeAsker_56 ⟨(cb_X2_serve).1, (cb_X2_serve).2, (Nat.le_of_ble_eq_true rfl), (Nat.le_of_ble_eq_true rfl)⟩ ml_X2_150 ci_X2_serve cv_X2_serve rfl (Nat.le_of_ble_eq_true rfl) (Nat.le_of_ble_eq_true rfl) rfl h (fun S18 h2 => ?_)
      replace h := h2
      clear h2
      refine zJ.goto (tgt := 77) dX2_takeAsker_59 (by decide) ?_
      exact zG.ret (r := none) ⟨dX2_takeAsker_77, rfl⟩ h
set_option maxRecDepth 100000 in
set_option maxHeartbeats 4000000 in
theorem w_X2_serve_0 (o : zW) (n : Nat) (i : Nat) (hi : i < 8) (hn : z_sb i + 120 ≤ n) (b : Nat) (hb : b < 16) (x2 : Int32) (x3 : Int32) (x4 : Int32) (x5 : Int32) (S : zS) (Q : Option Value → zS → Prop) (h : (¬ x3 = (-1) → (zGv o n mdX0_layIn [.ref (z_adr o (5, i, b)), .int x2, .int x3] S (fun S4 => Q none S4))) ∧ (x3 = (-1) → (zGi o n mdX0_valueAtLast [.ref (z_adr o (5, i, b)), .int x2] (sI S (3, i, 0) 8 ((S.1 (3, i, 0) 8) + 1)) (fun r6 S7 => zGv o n mdX1_answer [.ref (z_adr o (12, i, 0)), .int x4, .int r6, .int ((S7.1 (3, i, 0) 9) - x5)] S7 (fun S10 => Q none S10))))) : zG o n mdX2_serve 0 [(0, .ref (z_adr o (1, i, 0))), (1, .ref (z_adr o (5, i, b))), (2, .int x2), (3, .int x3), (4, .int x4), (5, .int x5)] [] S Q := by
  show zJ o mdX2_serve 0 _ [] (n, z_enc o S) 0 0 _
  refine zJ.iload_n 3 dX2_serve_0 rfl rfl ?_
  refine zJ.iconst (v := (-1)) dX2_serve_1 (by decide) ?_
  refine zJ.icmp_ne (tgt := 43) dX2_serve_2 (by decide) (fun c1 => ?_) (fun c1 => ?_)
  · replace h := h.1 c1
    refine zJ.aload_n 1 dX2_serve_43 rfl rfl ?_
    refine zJ.iload_n 2 dX2_serve_44 rfl rfl ?_
    refine zJ.iload_n 3 dX2_serve_45 rfl rfl ?_
    refine zG.callVv [.int x2, .int x3] [] (ob_5 o i b) (ok_5 hi hb hn) rfl dX2_serve_46 ⟨(cb_X0_layIn).1, (cb_X0_layIn).2, (Nat.le_of_ble_eq_true rfl), (Nat.le_of_ble_eq_true rfl)⟩ ml_X2_200 ci_X0_layIn cv_X0_layIn rfl (Nat.le_of_ble_eq_true rfl) (Nat.le_of_ble_eq_true rfl) rfl h (fun S4 h2 => ?_)
    replace h := h2
    clear h2
    exact zG.ret (r := none) ⟨dX2_serve_49, rfl⟩ h
  · replace h := h.2 c1
    refine zJ.aload_n 0 dX2_serve_5 rfl rfl ?_
    refine zE.getV (fd_1_1 o i) (ok_1 hi hn) kiX2 (Nat.le_of_ble_eq_true rfl) fl_X2_24 dX2_serve_6 ?_
    refine zJ.bipush (v := 8) dX2_serve_9 (by decide) ?_
    refine zJ.dup2_11 dX2_serve_11 rfl rfl ?_
    refine zE.aldI (ia_3 o i) (ok_3 hi hn) (by unfold vp_in; decide) dX2_serve_12 ?_
    refine zJ.iconst (v := 1) dX2_serve_13 (by decide) ?_
    refine zJ.iadd dX2_serve_14 ?_
    refine zE.astI (ia_3 o i) (ok_3 hi hn) (by unfold vp_in; decide) dX2_serve_15 ?_
    refine zJ.aload_n 0 dX2_serve_16 rfl rfl ?_
    refine zE.getV (fd_1_3 o i) (ok_1 hi hn) kiX2 (Nat.le_of_ble_eq_true rfl) fl_X2_39 dX2_serve_17 ?_
    refine zJ.iload 4 dX2_serve_20 rfl ?_
    refine zJ.aload_n 1 dX2_serve_22 rfl rfl ?_
    refine zJ.iload_n 2 dX2_serve_23 rfl rfl ?_
    refine zG.callVi [.int x2] [.int x4, .ref (z_adr o (12, i, 0))] (ob_5 o i b) (ok_5 hi hb hn) rfl dX2_serve_24 ⟨(cb_X0_valueAtLast).1, (cb_X0_valueAtLast).2, (Nat.le_of_ble_eq_true rfl), (Nat.le_of_ble_eq_true rfl)⟩ ml_X2_193 ci_X0_valueAtLast cv_X0_valueAtLast rfl (Nat.le_of_ble_eq_true rfl) (Nat.le_of_ble_eq_true rfl) rfl h (fun r6 S7 h2 => ?_)
    replace h := h2
    clear h2
    refine zJ.aload_n 0 dX2_serve_27 rfl rfl ?_
    refine zE.getV (fd_1_1 o i) (ok_1 hi hn) kiX2 (Nat.le_of_ble_eq_true rfl) fl_X2_24 dX2_serve_28 ?_
    refine zJ.bipush (v := 9) dX2_serve_31 (by decide) ?_
    refine zE.aldI (ia_3 o i) (ok_3 hi hn) (by unfold vp_in; decide) dX2_serve_33 ?_
    refine zJ.iload 5 dX2_serve_34 rfl ?_
    refine zJ.isub dX2_serve_36 ?_
    refine zG.callVv [.int x4, .int r6, .int ((S7.1 (3, i, 0) 9) - x5)] [] (ob_12 o i) (ok_12 hi hn) rfl dX2_serve_37 ⟨(cb_X1_answer).1, (cb_X1_answer).2, (Nat.le_of_ble_eq_true rfl), (Nat.le_of_ble_eq_true rfl)⟩ ml_X2_196 ci_X1_answer cv_X1_answer rfl (Nat.le_of_ble_eq_true rfl) (Nat.le_of_ble_eq_true rfl) rfl h (fun S10 h2 => ?_)
    replace h := h2
    clear h2
    refine zJ.goto (tgt := 49) dX2_serve_40 (by decide) ?_
    exact zG.ret (r := none) ⟨dX2_serve_49, rfl⟩ h
set_option maxRecDepth 100000 in
set_option maxHeartbeats 4000000 in
theorem w_X2_boxInPlace_0 (o : zW) (n : Nat) (i : Nat) (hi : i < 8) (hn : z_sb i + 120 ≤ n) (x1 : Int32) (x2 : Int32) (S : zS) (Q : Option Value → zS → Prop) (h : (0 ≤ x1 → (zG o n mdX2_boxInPlace 8 [(0, .ref (z_adr o (1, i, 0))), (1, .int x1), (2, .int x2), (3, .int x1)] [] S Q)) ∧ (¬ 0 ≤ x1 → (Q (some (.int (-1))) S))) : zG o n mdX2_boxInPlace 0 [(0, .ref (z_adr o (1, i, 0))), (1, .int x1), (2, .int x2)] [] S Q := by
  show zJ o mdX2_boxInPlace 0 _ [] (n, z_enc o S) 0 0 _
  refine zJ.iload_n 1 dX2_boxInPlace_0 rfl rfl ?_
  refine zJ.if_ge (tgt := 6) dX2_boxInPlace_1 (by decide) (fun c1 => ?_) (fun c1 => ?_)
  · replace h := h.1 c1
    refine zJ.iload_n 1 dX2_boxInPlace_6 rfl rfl ?_
    refine zJ.istore_n (lv' := [(3, .int x1), (0, .ref (z_adr o (1, i, 0))), (1, .int x1), (2, .int x2)]) dX2_boxInPlace_7 rfl (Nat.le_of_ble_eq_true rfl) rfl ?_
    exact zJ.sub [1, 2, 3, 0] rfl h
  · replace h := h.2 c1
    refine zJ.iconst (v := (-1)) dX2_boxInPlace_4 (by decide) ?_
    exact zG.ret (r := some (.int (-1))) ⟨dX2_boxInPlace_5, _, rfl, rfl⟩ h
set_option maxRecDepth 100000 in
set_option maxHeartbeats 4000000 in
theorem w_X2_boxInPlace_8 (o : zW) (n : Nat) (i : Nat) (hi : i < 8) (hn : z_sb i + 120 ≤ n) (x1 : Int32) (x2 : Int32) (x3 : Int32) (S : zS) (Q : Option Value → zS → Prop) (h : (16 ≤ x3 → (Q (some (.int (-1))) S)) ∧ (¬ 16 ≤ x3 → (zG o n mdX2_boxInPlace 20 [(0, .ref (z_adr o (1, i, 0))), (1, .int x1), (2, .int x2), (3, .int x3), (4, .int 0), (5, .int x1)] [] S Q))) : zG o n mdX2_boxInPlace 8 [(0, .ref (z_adr o (1, i, 0))), (1, .int x1), (2, .int x2), (3, .int x3)] [] S Q := by
  show zJ o mdX2_boxInPlace 8 _ [] (n, z_enc o S) 0 0 _
  refine zJ.iload_n 3 dX2_boxInPlace_8 rfl rfl ?_
  refine zJ.bipush (v := 16) dX2_boxInPlace_9 (by decide) ?_
  refine zJ.icmp_ge (tgt := 106) dX2_boxInPlace_11 (by decide) (fun c1 => ?_) (fun c1 => ?_)
  · replace h := h.1 c1
    refine zJ.iconst (v := (-1)) dX2_boxInPlace_106 (by decide) ?_
    exact zG.ret (r := some (.int (-1))) ⟨dX2_boxInPlace_107, _, rfl, rfl⟩ h
  · replace h := h.2 c1
    refine zJ.iconst (v := 0) dX2_boxInPlace_14 (by decide) ?_
    refine zJ.istore (lv' := [(4, .int 0), (0, .ref (z_adr o (1, i, 0))), (1, .int x1), (2, .int x2), (3, .int x3)]) dX2_boxInPlace_15 (Nat.le_of_ble_eq_true rfl) rfl ?_
    refine zJ.iload_n 2 dX2_boxInPlace_17 rfl rfl ?_
    refine zJ.istore (lv' := [(5, .int x1), (4, .int 0), (0, .ref (z_adr o (1, i, 0))), (1, .int x1), (2, .int x2), (3, .int x3)]) dX2_boxInPlace_18 (Nat.le_of_ble_eq_true rfl) rfl ?_
    exact zJ.sub [2, 3, 4, 5, 1, 0] rfl h
set_option maxRecDepth 100000 in
set_option maxHeartbeats 4000000 in
theorem w_X2_boxInPlace_20 (o : zW) (n : Nat) (i : Nat) (hi : i < 8) (hn : z_sb i + 120 ≤ n) (x1 : Int32) (x2 : Int32) (x3 : Int32) (x4 : Int32) (x5 : Int32) (S : zS) (Q : Option Value → zS → Prop) (h : (16 ≤ x5 → (vp_in x3 16 ∧ ((¬ (S.1 (5, i, x3.toNatClampNeg) 8) = 1 → (zG o n mdX2_boxInPlace 8 [(0, .ref (z_adr o (1, i, 0))), (1, .int x1), (2, .int x2), (3, .int (x3 + 4))] [] S Q)) ∧ ((S.1 (5, i, x3.toNatClampNeg) 8) = 1 → ((¬ x4 = x2 → (zG o n mdX2_boxInPlace 8 [(0, .ref (z_adr o (1, i, 0))), (1, .int x1), (2, .int x2), (3, .int (x3 + 4))] [] S Q)) ∧ (x4 = x2 → (Q (some (.int x3)) S))))))) ∧ (¬ 16 ≤ x5 → (vp_in x5 16 ∧ ((¬ (S.1 (5, i, x5.toNatClampNeg) 8) = 1 → (zG o n mdX2_boxInPlace 20 [(0, .ref (z_adr o (1, i, 0))), (1, .int x1), (2, .int x2), (3, .int x3), (4, .int (x4 + 0)), (5, .int (x5 + 4))] [] S Q)) ∧ ((S.1 (5, i, x5.toNatClampNeg) 8) = 1 → (vp_in x5 16 ∧ (vp_in x3 16 ∧ (((S.1 (5, i, x5.toNatClampNeg) 11) ≤ (S.1 (5, i, x3.toNatClampNeg) 11) → (zG o n mdX2_boxInPlace 20 [(0, .ref (z_adr o (1, i, 0))), (1, .int x1), (2, .int x2), (3, .int x3), (4, .int (x4 + 0)), (5, .int (x5 + 4))] [] S Q)) ∧ (¬ (S.1 (5, i, x5.toNatClampNeg) 11) ≤ (S.1 (5, i, x3.toNatClampNeg) 11) → (zG o n mdX2_boxInPlace 20 [(0, .ref (z_adr o (1, i, 0))), (1, .int x1), (2, .int x2), (3, .int x3), (4, .int (x4 + 1)), (5, .int (x5 + 4))] [] S Q)))))))))) : zG o n mdX2_boxInPlace 20 [(0, .ref (z_adr o (1, i, 0))), (1, .int x1), (2, .int x2), (3, .int x3), (4, .int x4), (5, .int x5)] [] S Q := by
  show zJ o mdX2_boxInPlace 20 _ [] (n, z_enc o S) 0 0 _
  refine zJ.iload 5 dX2_boxInPlace_20 rfl ?_
  refine zJ.bipush (v := 16) dX2_boxInPlace_22 (by decide) ?_
  refine zJ.icmp_ge (tgt := 79) dX2_boxInPlace_24 (by decide) (fun c1 => ?_) (fun c1 => ?_)
  · replace h := h.1 c1
    refine zJ.aload_n 0 dX2_boxInPlace_79 rfl rfl ?_
    refine zE.getV (fd_1_2 o i) (ok_1 hi hn) kiX2 (Nat.le_of_ble_eq_true rfl) fl_X2_29 dX2_boxInPlace_80 ?_
    refine zJ.iload_n 3 dX2_boxInPlace_83 rfl rfl ?_
    obtain ⟨hq2, h⟩ := h
    refine zE.aldB (ok_4 hi hn) hq2 dX2_boxInPlace_84 ?_
    refine zE.getI (fd_5_8 o i x3.toNatClampNeg) (ok_5 hi (z_vlt hq2) hn) kiX0 (Nat.le_of_ble_eq_true rfl) fl_X2_110 dX2_boxInPlace_85 ?_
    refine zJ.iconst (v := 1) dX2_boxInPlace_88 (by decide) ?_
    refine zJ.icmp_ne (tgt := 100) dX2_boxInPlace_89 (by decide) (fun c3 => ?_) (fun c3 => ?_)
    · replace h := h.1 c3
      refine zJ.iinc (k := 3) (lv' := [(3, .int (x3 + 4)), (0, .ref (z_adr o (1, i, 0))), (1, .int x1), (2, .int x2), (4, .int x4), (5, .int x5)]) dX2_boxInPlace_100 rfl rfl (Nat.le_of_ble_eq_true rfl) rfl ?_
      refine zJ.goto (tgt := 8) dX2_boxInPlace_103 (by decide) ?_
      exact zJ.sub [1, 2, 3, 0] rfl h
    · replace h := h.2 c3
      refine zJ.iload 4 dX2_boxInPlace_92 rfl ?_
      refine zJ.iload_n 2 dX2_boxInPlace_94 rfl rfl ?_
      refine zJ.icmp_ne (tgt := 100) dX2_boxInPlace_95 (by decide) (fun c4 => ?_) (fun c4 => ?_)
      · replace h := h.1 c4
        refine zJ.iinc (k := 3) (lv' := [(3, .int (x3 + 4)), (0, .ref (z_adr o (1, i, 0))), (1, .int x1), (2, .int x2), (4, .int x4), (5, .int x5)]) dX2_boxInPlace_100 rfl rfl (Nat.le_of_ble_eq_true rfl) rfl ?_
        refine zJ.goto (tgt := 8) dX2_boxInPlace_103 (by decide) ?_
        exact zJ.sub [1, 2, 3, 0] rfl h
      · replace h := h.2 c4
        refine zJ.iload_n 3 dX2_boxInPlace_98 rfl rfl ?_
        exact zG.ret (r := some (.int x3)) ⟨dX2_boxInPlace_99, _, rfl, rfl⟩ h
  · replace h := h.2 c1
    refine zJ.iload 4 dX2_boxInPlace_27 rfl ?_
    refine zJ.aload_n 0 dX2_boxInPlace_29 rfl rfl ?_
    refine zE.getV (fd_1_2 o i) (ok_1 hi hn) kiX2 (Nat.le_of_ble_eq_true rfl) fl_X2_29 dX2_boxInPlace_30 ?_
    refine zJ.iload 5 dX2_boxInPlace_33 rfl ?_
    obtain ⟨hq5, h⟩ := h
    refine zE.aldB (ok_4 hi hn) hq5 dX2_boxInPlace_35 ?_
    refine zE.getI (fd_5_8 o i x5.toNatClampNeg) (ok_5 hi (z_vlt hq5) hn) kiX0 (Nat.le_of_ble_eq_true rfl) fl_X2_110 dX2_boxInPlace_36 ?_
    refine zJ.iconst (v := 1) dX2_boxInPlace_39 (by decide) ?_
    refine zJ.icmp_ne (tgt := 69) dX2_boxInPlace_40 (by decide) (fun c6 => ?_) (fun c6 => ?_)
    · replace h := h.1 c6
      refine zJ.iconst (v := 0) dX2_boxInPlace_69 (by decide) ?_
      refine zJ.iadd dX2_boxInPlace_70 ?_
      refine zJ.istore (lv' := [(4, .int (x4 + 0)), (0, .ref (z_adr o (1, i, 0))), (1, .int x1), (2, .int x2), (3, .int x3), (5, .int x5)]) dX2_boxInPlace_71 (Nat.le_of_ble_eq_true rfl) rfl ?_
      refine zJ.iinc (k := 5) (lv' := [(5, .int (x5 + 4)), (4, .int (x4 + 0)), (0, .ref (z_adr o (1, i, 0))), (1, .int x1), (2, .int x2), (3, .int x3)]) dX2_boxInPlace_73 rfl rfl (Nat.le_of_ble_eq_true rfl) rfl ?_
      refine zJ.goto (tgt := 20) dX2_boxInPlace_76 (by decide) ?_
      exact zJ.sub [2, 3, 4, 5, 1, 0] rfl h
    · replace h := h.2 c6
      refine zJ.aload_n 0 dX2_boxInPlace_43 rfl rfl ?_
      refine zE.getV (fd_1_2 o i) (ok_1 hi hn) kiX2 (Nat.le_of_ble_eq_true rfl) fl_X2_29 dX2_boxInPlace_44 ?_
      refine zJ.iload 5 dX2_boxInPlace_47 rfl ?_
      obtain ⟨hq7, h⟩ := h
      refine zE.aldB (ok_4 hi hn) hq7 dX2_boxInPlace_49 ?_
      refine zE.getI (fd_5_11 o i x5.toNatClampNeg) (ok_5 hi (z_vlt hq7) hn) kiX0 (Nat.le_of_ble_eq_true rfl) fl_X2_174 dX2_boxInPlace_50 ?_
      refine zJ.aload_n 0 dX2_boxInPlace_53 rfl rfl ?_
      refine zE.getV (fd_1_2 o i) (ok_1 hi hn) kiX2 (Nat.le_of_ble_eq_true rfl) fl_X2_29 dX2_boxInPlace_54 ?_
      refine zJ.iload_n 3 dX2_boxInPlace_57 rfl rfl ?_
      obtain ⟨hq8, h⟩ := h
      refine zE.aldB (ok_4 hi hn) hq8 dX2_boxInPlace_58 ?_
      refine zE.getI (fd_5_11 o i x3.toNatClampNeg) (ok_5 hi (z_vlt hq8) hn) kiX0 (Nat.le_of_ble_eq_true rfl) fl_X2_174 dX2_boxInPlace_59 ?_
      refine zJ.icmp_le (tgt := 69) dX2_boxInPlace_62 (by decide) (fun c9 => ?_) (fun c9 => ?_)
      · replace h := h.1 c9
        refine zJ.iconst (v := 0) dX2_boxInPlace_69 (by decide) ?_
        refine zJ.iadd dX2_boxInPlace_70 ?_
        refine zJ.istore (lv' := [(4, .int (x4 + 0)), (0, .ref (z_adr o (1, i, 0))), (1, .int x1), (2, .int x2), (3, .int x3), (5, .int x5)]) dX2_boxInPlace_71 (Nat.le_of_ble_eq_true rfl) rfl ?_
        refine zJ.iinc (k := 5) (lv' := [(5, .int (x5 + 4)), (4, .int (x4 + 0)), (0, .ref (z_adr o (1, i, 0))), (1, .int x1), (2, .int x2), (3, .int x3)]) dX2_boxInPlace_73 rfl rfl (Nat.le_of_ble_eq_true rfl) rfl ?_
        refine zJ.goto (tgt := 20) dX2_boxInPlace_76 (by decide) ?_
        exact zJ.sub [2, 3, 4, 5, 1, 0] rfl h
      · replace h := h.2 c9
        refine zJ.iconst (v := 1) dX2_boxInPlace_65 (by decide) ?_
        refine zJ.goto (tgt := 70) dX2_boxInPlace_66 (by decide) ?_
        refine zJ.iadd dX2_boxInPlace_70 ?_
        refine zJ.istore (lv' := [(4, .int (x4 + 1)), (0, .ref (z_adr o (1, i, 0))), (1, .int x1), (2, .int x2), (3, .int x3), (5, .int x5)]) dX2_boxInPlace_71 (Nat.le_of_ble_eq_true rfl) rfl ?_
        refine zJ.iinc (k := 5) (lv' := [(5, .int (x5 + 4)), (4, .int (x4 + 1)), (0, .ref (z_adr o (1, i, 0))), (1, .int x1), (2, .int x2), (3, .int x3)]) dX2_boxInPlace_73 rfl rfl (Nat.le_of_ble_eq_true rfl) rfl ?_
        refine zJ.goto (tgt := 20) dX2_boxInPlace_76 (by decide) ?_
        exact zJ.sub [2, 3, 4, 5, 1, 0] rfl h
set_option maxRecDepth 100000 in
set_option maxHeartbeats 4000000 in
theorem w_X2_boxOfFetch_0 (o : zW) (n : Nat) (i : Nat) (hi : i < 8) (hn : z_sb i + 120 ≤ n) (x1 : Int32) (S : zS) (Q : Option Value → zS → Prop) (h : zG o n mdX2_boxOfFetch 11 [(0, .ref (z_adr o (1, i, 0))), (1, .int x1), (2, .ref (z_adr o (4, i, 0))), (3, .int 16), (4, .int 0)] [] S Q) : zG o n mdX2_boxOfFetch 0 [(0, .ref (z_adr o (1, i, 0))), (1, .int x1)] [] S Q := by
  show zJ o mdX2_boxOfFetch 0 _ [] (n, z_enc o S) 0 0 _
  refine zJ.aload_n 0 dX2_boxOfFetch_0 rfl rfl ?_
  refine zE.getV (fd_1_2 o i) (ok_1 hi hn) kiX2 (Nat.le_of_ble_eq_true rfl) fl_X2_29 dX2_boxOfFetch_1 ?_
  refine zJ.astore_n (lv' := [(2, .ref (z_adr o (4, i, 0))), (0, .ref (z_adr o (1, i, 0))), (1, .int x1)]) dX2_boxOfFetch_4 rfl (Nat.le_of_ble_eq_true rfl) rfl ?_
  refine zJ.aload_n 0 dX2_boxOfFetch_5 rfl rfl ?_
  refine zE.lenB (v := 16) (ok_4 hi hn) (by decide) dX2_boxOfFetch_6 ?_
  refine zJ.istore_n (lv' := [(3, .int 16), (2, .ref (z_adr o (4, i, 0))), (0, .ref (z_adr o (1, i, 0))), (1, .int x1)]) dX2_boxOfFetch_7 rfl (Nat.le_of_ble_eq_true rfl) rfl ?_
  refine zJ.iconst (v := 0) dX2_boxOfFetch_8 (by decide) ?_
  refine zJ.istore (lv' := [(4, .int 0), (3, .int 16), (2, .ref (z_adr o (4, i, 0))), (0, .ref (z_adr o (1, i, 0))), (1, .int x1)]) dX2_boxOfFetch_9 (Nat.le_of_ble_eq_true rfl) rfl ?_
  exact zJ.sub [3, 4, 2, 1, 0] rfl h
set_option maxRecDepth 100000 in
set_option maxHeartbeats 4000000 in
theorem w_X2_boxOfFetch_11 (o : zW) (n : Nat) (i : Nat) (hi : i < 8) (hn : z_sb i + 120 ≤ n) (x1 : Int32) (x3 : Int32) (x4 : Int32) (S : zS) (Q : Option Value → zS → Prop) (h : (x3 ≤ x4 → (Q (some (va_rf (z_bo o i none))) S)) ∧ (¬ x3 ≤ x4 → (vp_in x4 16 ∧ (zG o n mdX2_boxOfFetch 40 [(0, .ref (z_adr o (1, i, 0))), (1, .int x1), (2, .ref (z_adr o (4, i, 0))), (3, .int x3), (4, .int x4), (5, .ref (z_adr o (5, i, x4.toNatClampNeg))), (6, .int 0), (7, .ref (z_adr o (4, i, 0))), (8, .int 16), (9, .int 0)] [] S Q)))) : zG o n mdX2_boxOfFetch 11 [(0, .ref (z_adr o (1, i, 0))), (1, .int x1), (2, .ref (z_adr o (4, i, 0))), (3, .int x3), (4, .int x4)] [] S Q := by
  show zJ o mdX2_boxOfFetch 11 _ [] (n, z_enc o S) 0 0 _
  refine zJ.iload 4 dX2_boxOfFetch_11 rfl ?_
  refine zJ.iload_n 3 dX2_boxOfFetch_13 rfl rfl ?_
  refine zJ.icmp_ge (tgt := 116) dX2_boxOfFetch_14 (by decide) (fun c1 => ?_) (fun c1 => ?_)
  · replace h := h.1 c1
    refine zJ.null dX2_boxOfFetch_116 ?_
    exact zG.ret (r := some (.null)) ⟨dX2_boxOfFetch_117, _, rfl⟩ h
  · replace h := h.2 c1
    refine zJ.aload_n 2 dX2_boxOfFetch_17 rfl rfl ?_
    refine zJ.iload 4 dX2_boxOfFetch_18 rfl ?_
    obtain ⟨hq2, h⟩ := h
    refine zE.aldB (ok_4 hi hn) hq2 dX2_boxOfFetch_20 ?_
    refine zJ.astore (lv' := [(5, .ref (z_adr o (5, i, x4.toNatClampNeg))), (0, .ref (z_adr o (1, i, 0))), (1, .int x1), (2, .ref (z_adr o (4, i, 0))), (3, .int x3), (4, .int x4)]) dX2_boxOfFetch_21 (Nat.le_of_ble_eq_true rfl) rfl ?_
    refine zJ.iconst (v := 0) dX2_boxOfFetch_23 (by decide) ?_
    refine zJ.istore (lv' := [(6, .int 0), (5, .ref (z_adr o (5, i, x4.toNatClampNeg))), (0, .ref (z_adr o (1, i, 0))), (1, .int x1), (2, .ref (z_adr o (4, i, 0))), (3, .int x3), (4, .int x4)]) dX2_boxOfFetch_24 (Nat.le_of_ble_eq_true rfl) rfl ?_
    refine zJ.aload_n 2 dX2_boxOfFetch_26 rfl rfl ?_
    refine zE.getV (fd_1_2 o i) (ok_1 hi hn) kiX2 (Nat.le_of_ble_eq_true rfl) fl_X2_29 dX2_boxOfFetch_27 ?_
    refine zJ.astore (lv' := [(7, .ref (z_adr o (4, i, 0))), (6, .int 0), (5, .ref (z_adr o (5, i, x4.toNatClampNeg))), (0, .ref (z_adr o (1, i, 0))), (1, .int x1), (2, .ref (z_adr o (4, i, 0))), (3, .int x3), (4, .int x4)]) dX2_boxOfFetch_30 (Nat.le_of_ble_eq_true rfl) rfl ?_
    refine zJ.aload 0 dX2_boxOfFetch_32 rfl ?_
    refine zE.lenB (v := 16) (ok_4 hi hn) (by decide) dX2_boxOfFetch_34 ?_
    refine zJ.istore (lv' := [(8, .int 16), (7, .ref (z_adr o (4, i, 0))), (6, .int 0), (5, .ref (z_adr o (5, i, x4.toNatClampNeg))), (0, .ref (z_adr o (1, i, 0))), (1, .int x1), (2, .ref (z_adr o (4, i, 0))), (3, .int x3), (4, .int x4)]) dX2_boxOfFetch_35 (Nat.le_of_ble_eq_true rfl) rfl ?_
    refine zJ.iconst (v := 0) dX2_boxOfFetch_37 (by decide) ?_
    refine zJ.istore (lv' := [(9, .int 0), (8, .int 16), (7, .ref (z_adr o (4, i, 0))), (6, .int 0), (5, .ref (z_adr o (5, i, x4.toNatClampNeg))), (0, .ref (z_adr o (1, i, 0))), (1, .int x1), (2, .ref (z_adr o (4, i, 0))), (3, .int x3), (4, .int x4)]) dX2_boxOfFetch_38 (Nat.le_of_ble_eq_true rfl) rfl ?_
    exact zJ.sub [5, 6, 7, 8, 9, 4, 3, 2, 1, 0] rfl h
set_option maxRecDepth 100000 in
set_option maxHeartbeats 4000000 in
theorem w_X2_boxOfFetch_40 (o : zW) (n : Nat) (i : Nat) (hi : i < 8) (hn : z_sb i + 120 ≤ n) (x1 : Int32) (x3 : Int32) (x4 : Int32) (b5 : Nat) (hb5 : b5 < 16) (x6 : Int32) (x8 : Int32) (x9 : Int32) (S : zS) (Q : Option Value → zS → Prop) (h : (x8 ≤ x9 → ((¬ (S.1 (5, i, b5) 8) = 3 → (zG o n mdX2_boxOfFetch 11 [(0, .ref (z_adr o (1, i, 0))), (1, .int x1), (2, .ref (z_adr o (4, i, 0))), (3, .int x3), (4, .int (x4 + 1))] [] S Q)) ∧ ((S.1 (5, i, b5) 8) = 3 → ((¬ x6 = x1 → (zG o n mdX2_boxOfFetch 11 [(0, .ref (z_adr o (1, i, 0))), (1, .int x1), (2, .ref (z_adr o (4, i, 0))), (3, .int x3), (4, .int (x4 + 1))] [] S Q)) ∧ (x6 = x1 → (Q (some (va_rf (z_bo o i (some b5)))) S)))))) ∧ (¬ x8 ≤ x9 → (vp_in x9 16 ∧ ((¬ (S.1 (5, i, x9.toNatClampNeg) 8) = 3 → (zG o n mdX2_boxOfFetch 40 [(0, .ref (z_adr o (1, i, 0))), (1, .int x1), (2, .ref (z_adr o (4, i, 0))), (3, .int x3), (4, .int x4), (5, .ref (z_adr o (5, i, b5))), (6, .int (x6 + 0)), (7, .ref (z_adr o (4, i, 0))), (8, .int x8), (9, .int (x9 + 1))] [] S Q)) ∧ ((S.1 (5, i, x9.toNatClampNeg) 8) = 3 → (((S.1 (5, i, b5) 10) ≤ (S.1 (5, i, x9.toNatClampNeg) 10) → (zG o n mdX2_boxOfFetch 40 [(0, .ref (z_adr o (1, i, 0))), (1, .int x1), (2, .ref (z_adr o (4, i, 0))), (3, .int x3), (4, .int x4), (5, .ref (z_adr o (5, i, b5))), (6, .int (x6 + 0)), (7, .ref (z_adr o (4, i, 0))), (8, .int x8), (9, .int (x9 + 1))] [] S Q)) ∧ (¬ (S.1 (5, i, b5) 10) ≤ (S.1 (5, i, x9.toNatClampNeg) 10) → (zG o n mdX2_boxOfFetch 40 [(0, .ref (z_adr o (1, i, 0))), (1, .int x1), (2, .ref (z_adr o (4, i, 0))), (3, .int x3), (4, .int x4), (5, .ref (z_adr o (5, i, b5))), (6, .int (x6 + 1)), (7, .ref (z_adr o (4, i, 0))), (8, .int x8), (9, .int (x9 + 1))] [] S Q)))))))) : zG o n mdX2_boxOfFetch 40 [(0, .ref (z_adr o (1, i, 0))), (1, .int x1), (2, .ref (z_adr o (4, i, 0))), (3, .int x3), (4, .int x4), (5, .ref (z_adr o (5, i, b5))), (6, .int x6), (7, .ref (z_adr o (4, i, 0))), (8, .int x8), (9, .int x9)] [] S Q := by
  show zJ o mdX2_boxOfFetch 40 _ [] (n, z_enc o S) 0 0 _
  refine zJ.iload 9 dX2_boxOfFetch_40 rfl ?_
  refine zJ.iload 8 dX2_boxOfFetch_42 rfl ?_
  refine zJ.icmp_ge (tgt := 92) dX2_boxOfFetch_44 (by decide) (fun c1 => ?_) (fun c1 => ?_)
  · replace h := h.1 c1
    refine zJ.aload 5 dX2_boxOfFetch_92 rfl ?_
    refine zE.getI (fd_5_8 o i b5) (ok_5 hi hb5 hn) kiX0 (Nat.le_of_ble_eq_true rfl) fl_X2_110 dX2_boxOfFetch_94 ?_
    refine zJ.iconst (v := 3) dX2_boxOfFetch_97 (by decide) ?_
    refine zJ.icmp_ne (tgt := 110) dX2_boxOfFetch_98 (by decide) (fun c2 => ?_) (fun c2 => ?_)
    · replace h := h.1 c2
      refine zJ.iinc (k := 4) (lv' := [(4, .int (x4 + 1)), (0, .ref (z_adr o (1, i, 0))), (1, .int x1), (2, .ref (z_adr o (4, i, 0))), (3, .int x3), (5, .ref (z_adr o (5, i, b5))), (6, .int x6), (7, .ref (z_adr o (4, i, 0))), (8, .int x8), (9, .int x9)]) dX2_boxOfFetch_110 rfl rfl (Nat.le_of_ble_eq_true rfl) rfl ?_
      refine zJ.goto (tgt := 11) dX2_boxOfFetch_113 (by decide) ?_
      exact zJ.sub [1, 2, 3, 4, 0] rfl h
    · replace h := h.2 c2
      refine zJ.iload 6 dX2_boxOfFetch_101 rfl ?_
      refine zJ.iload_n 1 dX2_boxOfFetch_103 rfl rfl ?_
      refine zJ.icmp_ne (tgt := 110) dX2_boxOfFetch_104 (by decide) (fun c3 => ?_) (fun c3 => ?_)
      · replace h := h.1 c3
        refine zJ.iinc (k := 4) (lv' := [(4, .int (x4 + 1)), (0, .ref (z_adr o (1, i, 0))), (1, .int x1), (2, .ref (z_adr o (4, i, 0))), (3, .int x3), (5, .ref (z_adr o (5, i, b5))), (6, .int x6), (7, .ref (z_adr o (4, i, 0))), (8, .int x8), (9, .int x9)]) dX2_boxOfFetch_110 rfl rfl (Nat.le_of_ble_eq_true rfl) rfl ?_
        refine zJ.goto (tgt := 11) dX2_boxOfFetch_113 (by decide) ?_
        exact zJ.sub [1, 2, 3, 4, 0] rfl h
      · replace h := h.2 c3
        refine zJ.aload 5 dX2_boxOfFetch_107 rfl ?_
        exact zG.ret (r := some (.ref (z_adr o (5, i, b5)))) ⟨dX2_boxOfFetch_109, _, rfl⟩ h
  · replace h := h.2 c1
    refine zJ.aload 7 dX2_boxOfFetch_47 rfl ?_
    refine zJ.iload 9 dX2_boxOfFetch_49 rfl ?_
    obtain ⟨hq4, h⟩ := h
    refine zE.aldB (ok_4 hi hn) hq4 dX2_boxOfFetch_51 ?_
    refine zJ.astore (lv' := [(10, .ref (z_adr o (5, i, x9.toNatClampNeg))), (0, .ref (z_adr o (1, i, 0))), (1, .int x1), (2, .ref (z_adr o (4, i, 0))), (3, .int x3), (4, .int x4), (5, .ref (z_adr o (5, i, b5))), (6, .int x6), (7, .ref (z_adr o (4, i, 0))), (8, .int x8), (9, .int x9)]) dX2_boxOfFetch_52 (Nat.le_of_ble_eq_true rfl) rfl ?_
    refine zJ.iload 7 dX2_boxOfFetch_54 rfl ?_
    refine zJ.aload 0 dX2_boxOfFetch_56 rfl ?_
    refine zE.getI (fd_5_8 o i x9.toNatClampNeg) (ok_5 hi (z_vlt hq4) hn) kiX0 (Nat.le_of_ble_eq_true rfl) fl_X2_110 dX2_boxOfFetch_58 ?_
    refine zJ.iconst (v := 3) dX2_boxOfFetch_61 (by decide) ?_
    refine zJ.icmp_ne (tgt := 82) dX2_boxOfFetch_62 (by decide) (fun c5 => ?_) (fun c5 => ?_)
    · replace h := h.1 c5
      refine zJ.iconst (v := 0) dX2_boxOfFetch_82 (by decide) ?_
      refine zJ.iadd dX2_boxOfFetch_83 ?_
      refine zJ.istore (lv' := [(6, .int (x6 + 0)), (10, .ref (z_adr o (5, i, x9.toNatClampNeg))), (0, .ref (z_adr o (1, i, 0))), (1, .int x1), (2, .ref (z_adr o (4, i, 0))), (3, .int x3), (4, .int x4), (5, .ref (z_adr o (5, i, b5))), (7, .ref (z_adr o (4, i, 0))), (8, .int x8), (9, .int x9)]) dX2_boxOfFetch_84 (Nat.le_of_ble_eq_true rfl) rfl ?_
      refine zJ.iinc (k := 10) (lv' := [(9, .int (x9 + 1)), (6, .int (x6 + 0)), (10, .ref (z_adr o (5, i, x9.toNatClampNeg))), (0, .ref (z_adr o (1, i, 0))), (1, .int x1), (2, .ref (z_adr o (4, i, 0))), (3, .int x3), (4, .int x4), (5, .ref (z_adr o (5, i, b5))), (7, .ref (z_adr o (4, i, 0))), (8, .int x8)]) dX2_boxOfFetch_86 rfl rfl (Nat.le_of_ble_eq_true rfl) rfl ?_
      refine zJ.goto (tgt := 40) dX2_boxOfFetch_89 (by decide) ?_
      exact zJ.sub [3, 4, 5, 6, 7, 8, 1, 9, 10, 0] rfl h
    · replace h := h.2 c5
      refine zJ.aload 0 dX2_boxOfFetch_65 rfl ?_
      refine zE.getI (fd_5_10 o i x9.toNatClampNeg) (ok_5 hi (z_vlt hq4) hn) kiX0 (Nat.le_of_ble_eq_true rfl) fl_X2_113 dX2_boxOfFetch_67 ?_
      refine zJ.aload 6 dX2_boxOfFetch_70 rfl ?_
      refine zE.getI (fd_5_10 o i b5) (ok_5 hi hb5 hn) kiX0 (Nat.le_of_ble_eq_true rfl) fl_X2_113 dX2_boxOfFetch_72 ?_
      refine zJ.icmp_ge (tgt := 82) dX2_boxOfFetch_75 (by decide) (fun c6 => ?_) (fun c6 => ?_)
      · replace h := h.1 c6
        refine zJ.iconst (v := 0) dX2_boxOfFetch_82 (by decide) ?_
        refine zJ.iadd dX2_boxOfFetch_83 ?_
        refine zJ.istore (lv' := [(6, .int (x6 + 0)), (10, .ref (z_adr o (5, i, x9.toNatClampNeg))), (0, .ref (z_adr o (1, i, 0))), (1, .int x1), (2, .ref (z_adr o (4, i, 0))), (3, .int x3), (4, .int x4), (5, .ref (z_adr o (5, i, b5))), (7, .ref (z_adr o (4, i, 0))), (8, .int x8), (9, .int x9)]) dX2_boxOfFetch_84 (Nat.le_of_ble_eq_true rfl) rfl ?_
        refine zJ.iinc (k := 10) (lv' := [(9, .int (x9 + 1)), (6, .int (x6 + 0)), (10, .ref (z_adr o (5, i, x9.toNatClampNeg))), (0, .ref (z_adr o (1, i, 0))), (1, .int x1), (2, .ref (z_adr o (4, i, 0))), (3, .int x3), (4, .int x4), (5, .ref (z_adr o (5, i, b5))), (7, .ref (z_adr o (4, i, 0))), (8, .int x8)]) dX2_boxOfFetch_86 rfl rfl (Nat.le_of_ble_eq_true rfl) rfl ?_
        refine zJ.goto (tgt := 40) dX2_boxOfFetch_89 (by decide) ?_
        exact zJ.sub [3, 4, 5, 6, 7, 8, 1, 9, 10, 0] rfl h
      · replace h := h.2 c6
        refine zJ.iconst (v := 1) dX2_boxOfFetch_78 (by decide) ?_
        refine zJ.goto (tgt := 83) dX2_boxOfFetch_79 (by decide) ?_
        refine zJ.iadd dX2_boxOfFetch_83 ?_
        refine zJ.istore (lv' := [(6, .int (x6 + 1)), (10, .ref (z_adr o (5, i, x9.toNatClampNeg))), (0, .ref (z_adr o (1, i, 0))), (1, .int x1), (2, .ref (z_adr o (4, i, 0))), (3, .int x3), (4, .int x4), (5, .ref (z_adr o (5, i, b5))), (7, .ref (z_adr o (4, i, 0))), (8, .int x8), (9, .int x9)]) dX2_boxOfFetch_84 (Nat.le_of_ble_eq_true rfl) rfl ?_
        refine zJ.iinc (k := 10) (lv' := [(9, .int (x9 + 1)), (6, .int (x6 + 1)), (10, .ref (z_adr o (5, i, x9.toNatClampNeg))), (0, .ref (z_adr o (1, i, 0))), (1, .int x1), (2, .ref (z_adr o (4, i, 0))), (3, .int x3), (4, .int x4), (5, .ref (z_adr o (5, i, b5))), (7, .ref (z_adr o (4, i, 0))), (8, .int x8)]) dX2_boxOfFetch_86 rfl rfl (Nat.le_of_ble_eq_true rfl) rfl ?_
        refine zJ.goto (tgt := 40) dX2_boxOfFetch_89 (by decide) ?_
        exact zJ.sub [3, 4, 5, 6, 7, 8, 1, 9, 10, 0] rfl h
