set_option maxRecDepth 100000 in
set_option maxHeartbeats 4000000 in
theorem w_X2_renew_0 (o : zW) (n : Nat) (i : Nat) (hi : i < 8) (hn : z_sb i + 120 ≤ n) (S : zS) (Q : Option Value → zS → Prop) (h : zG o n mdX2_renew 2 [(0, .ref (z_adr o (1, i, 0))), (1, .int 0)] [] S Q) : zG o n mdX2_renew 0 [(0, .ref (z_adr o (1, i, 0)))] [] S Q := by
  show zJ o mdX2_renew 0 _ [] (n, z_enc o S) 0 0 _
  refine zJ.iconst (pc := 0) (v := 0) dX2_renew_0 (by decide) ?_
  refine zJ.istore_n (pc := 1) (lv' := [(1, .int 0), (0, .ref (z_adr o (1, i, 0)))]) dX2_renew_1 rfl (Nat.le_of_ble_eq_true rfl) rfl ?_
  exact zJ.sub [1, 0] rfl h
set_option maxRecDepth 100000 in
set_option maxHeartbeats 4000000 in
theorem w_X2_renew_2 (o : zW) (n : Nat) (i : Nat) (hi : i < 8) (hn : z_sb i + 120 ≤ n) (x1 : Int32) (S : zS) (Q : Option Value → zS → Prop) (h : (10 ≤ x1 → (zG o n mdX2_renew 31 [(0, .ref (z_adr o (1, i, 0))), (1, .ref (z_adr o (4, i, 0))), (2, .int 16), (3, .int 0)] [] S Q)) ∧ (¬ 10 ≤ x1 → (vp_in x1 10 ∧ (zG o n mdX2_renew 2 [(0, .ref (z_adr o (1, i, 0))), (1, .int (x1 + 1))] [] (sI S (3, i, 0) (x1.toNatClampNeg) 0) Q)))) : zG o n mdX2_renew 2 [(0, .ref (z_adr o (1, i, 0))), (1, .int x1)] [] S Q := by
  show zJ o mdX2_renew 2 _ [] (n, z_enc o S) 0 0 _
  refine zJ.iload_n (pc := 2) 1 dX2_renew_2 rfl rfl ?_
  refine zJ.bipush (pc := 3) (v := 10) dX2_renew_3 (by decide) ?_
  refine zJ.icmp_ge (pc := 5) (tgt := 21) dX2_renew_5 (by decide) (fun c1 => ?_) (fun c1 => ?_)
  · replace h := h.1 c1
    refine zJ.aload_n (pc := 21) 0 dX2_renew_21 rfl rfl ?_
    refine zE.getV (pc := 22) (fd_1_2 o i) (ok_1 hi hn) kiX2 (Nat.le_of_ble_eq_true rfl) fl_X2_29 dX2_renew_22 ?_
    refine zJ.astore_n (pc := 25) (lv' := [(1, .ref (z_adr o (4, i, 0))), (0, .ref (z_adr o (1, i, 0)))]) dX2_renew_25 rfl (Nat.le_of_ble_eq_true rfl) rfl ?_
    refine zJ.aload_n (pc := 26) 0 dX2_renew_26 rfl rfl ?_
    refine zE.lenB (pc := 27) (v := 16) (ok_4 hi hn) (by decide) dX2_renew_27 ?_
    refine zJ.istore_n (pc := 28) (lv' := [(2, .int 16), (1, .ref (z_adr o (4, i, 0))), (0, .ref (z_adr o (1, i, 0)))]) dX2_renew_28 rfl (Nat.le_of_ble_eq_true rfl) rfl ?_
    refine zJ.iconst (pc := 29) (v := 0) dX2_renew_29 (by decide) ?_
    refine zJ.istore_n (pc := 30) (lv' := [(3, .int 0), (2, .int 16), (1, .ref (z_adr o (4, i, 0))), (0, .ref (z_adr o (1, i, 0)))]) dX2_renew_30 rfl (Nat.le_of_ble_eq_true rfl) rfl ?_
    exact zJ.sub [3, 2, 1, 0] rfl h
  · replace h := h.2 c1
    refine zJ.aload_n (pc := 8) 0 dX2_renew_8 rfl rfl ?_
    refine zE.getV (pc := 9) (fd_1_1 o i) (ok_1 hi hn) kiX2 (Nat.le_of_ble_eq_true rfl) fl_X2_24 dX2_renew_9 ?_
    refine zJ.iload_n (pc := 12) 1 dX2_renew_12 rfl rfl ?_
    refine zJ.iconst (pc := 13) (v := 0) dX2_renew_13 (by decide) ?_
    obtain ⟨hq, h⟩ := h
    refine zE.astI (pc := 14) (ia_3 o i) (ok_3 hi hn) hq dX2_renew_14 ?_
    refine zJ.iinc (pc := 15) (k := 1) (lv' := [(1, .int (x1 + 1)), (0, .ref (z_adr o (1, i, 0)))]) dX2_renew_15 rfl rfl (Nat.le_of_ble_eq_true rfl) rfl ?_
    refine zJ.goto (pc := 18) (tgt := 2) dX2_renew_18 (by decide) ?_
    exact zJ.sub [1, 0] rfl h
set_option maxRecDepth 100000 in
set_option maxHeartbeats 4000000 in
theorem w_X2_renew_31 (o : zW) (n : Nat) (i : Nat) (hi : i < 8) (hn : z_sb i + 120 ≤ n) (x2 : Int32) (x3 : Int32) (S : zS) (Q : Option Value → zS → Prop) (h : (x2 ≤ x3 → (zGv o n mdX1_renew [.ref (z_adr o (12, i, 0))] S (fun S4 => ∀ S5 : zS, S5 = (sI (sI (sI (sF S4 (1, i, 0) 4 FP.fconst0) (1, i, 0) 5 0) (1, i, 0) 6 0) (1, i, 0) 7 0) → (Q none (sI S5 (1, i, 0) 8 (2000000000 : Int32)))))) ∧ (¬ x2 ≤ x3 → (vp_in x3 16 ∧ (zGv o n mdX0_renew [.ref (z_adr o (5, i, x3.toNatClampNeg))] S (fun S9 => zG o n mdX2_renew 31 [(0, .ref (z_adr o (1, i, 0))), (1, .ref (z_adr o (4, i, 0))), (2, .int x2), (3, .int (x3 + 1))] [] S9 Q))))) : zG o n mdX2_renew 31 [(0, .ref (z_adr o (1, i, 0))), (1, .ref (z_adr o (4, i, 0))), (2, .int x2), (3, .int x3)] [] S Q := by
  show zJ o mdX2_renew 31 _ [] (n, z_enc o S) 0 0 _
  refine zJ.iload_n (pc := 31) 3 dX2_renew_31 rfl rfl ?_
  refine zJ.iload_n (pc := 32) 2 dX2_renew_32 rfl rfl ?_
  refine zJ.icmp_ge (pc := 33) (tgt := 52) dX2_renew_33 (by decide) (fun c1 => ?_) (fun c1 => ?_)
  · replace h := h.1 c1
    refine zJ.aload_n (pc := 52) 0 dX2_renew_52 rfl rfl ?_
    refine zE.getV (pc := 53) (fd_1_3 o i) (ok_1 hi hn) kiX2 (Nat.le_of_ble_eq_true rfl) fl_X2_39 dX2_renew_53 ?_
    refine zG.callVv (d := mdX2_renew) (pc := 56) [] [] (ob_12 o i) (ok_12 hi hn) rfl dX2_renew_56 ⟨(cb_X1_renew).1, (cb_X1_renew).2, (Nat.le_of_ble_eq_true rfl), (Nat.le_of_ble_eq_true rfl)⟩ ml_X2_47 ci_X1_renew cv_X1_renew rfl (Nat.le_of_ble_eq_true rfl) (Nat.le_of_ble_eq_true rfl) rfl h (fun S4 h2 => ?_)
    replace h := h2
    clear h2
    refine zJ.aload_n (pc := 59) 0 dX2_renew_59 rfl rfl ?_
    refine zJ.fconst0 (pc := 60) dX2_renew_60 ?_
    refine zE.putF (pc := 61) (fd_1_4 o i) (ok_1 hi hn) kiX2 (Nat.le_of_ble_eq_true rfl) fl_X2_48 rfl rfl dX2_renew_61 ?_
    refine zJ.aload_n (pc := 64) 0 dX2_renew_64 rfl rfl ?_
    refine zJ.iconst (pc := 65) (v := 0) dX2_renew_65 (by decide) ?_
    refine zE.putI (pc := 66) (fd_1_5 o i) (ok_1 hi hn) kiX2 (Nat.le_of_ble_eq_true rfl) fl_X2_52 rfl rfl dX2_renew_66 ?_
    refine zJ.aload_n (pc := 69) 0 dX2_renew_69 rfl rfl ?_
    refine zJ.iconst (pc := 70) (v := 0) dX2_renew_70 (by decide) ?_
    refine zE.putI (pc := 71) (fd_1_6 o i) (ok_1 hi hn) kiX2 (Nat.le_of_ble_eq_true rfl) fl_X2_56 rfl rfl dX2_renew_71 ?_
    refine zJ.aload_n (pc := 74) 0 dX2_renew_74 rfl rfl ?_
    refine zJ.iconst (pc := 75) (v := 0) dX2_renew_75 (by decide) ?_
    refine zE.putI (pc := 76) (fd_1_7 o i) (ok_1 hi hn) kiX2 (Nat.le_of_ble_eq_true rfl) fl_X2_59 rfl rfl dX2_renew_76 ?_
    refine zJ.nameS (fun S5 hyS5 => ?_)
    replace h := h S5 hyS5
    refine zJ.aload_n (pc := 79) 0 dX2_renew_79 rfl rfl ?_
    refine zJ.ldc (pc := 80) lc_X2_62 dX2_renew_80 ?_
    refine zE.putI (pc := 82) (fd_1_8 o i) (ok_1 hi hn) kiX2 (Nat.le_of_ble_eq_true rfl) fl_X2_63 rfl rfl dX2_renew_82 ?_
    exact zG.ret (pc := 85) (r := none) ⟨dX2_renew_85, rfl⟩ h
  · replace h := h.2 c1
    refine zJ.aload_n (pc := 36) 1 dX2_renew_36 rfl rfl ?_
    refine zJ.iload_n (pc := 37) 3 dX2_renew_37 rfl rfl ?_
    obtain ⟨hq6, h⟩ := h
    refine zE.aldB (pc := 38) (ok_4 hi hn) hq6 dX2_renew_38 ?_
    refine zJ.astore (pc := 39) (lv' := [(4, .ref (z_adr o (5, i, x3.toNatClampNeg))), (0, .ref (z_adr o (1, i, 0))), (1, .ref (z_adr o (4, i, 0))), (2, .int x2), (3, .int x3)]) dX2_renew_39 (Nat.le_of_ble_eq_true rfl) rfl ?_
    refine zJ.aload (pc := 41) 0 dX2_renew_41 rfl ?_
    refine zG.callVv (d := mdX2_renew) (pc := 43) [] [] (ob_5 o i x3.toNatClampNeg) (ok_5 hi (z_vlt hq6) hn) rfl dX2_renew_43 ⟨(cb_X0_renew).1, (cb_X0_renew).2, (Nat.le_of_ble_eq_true rfl), (Nat.le_of_ble_eq_true rfl)⟩ ml_X2_46 ci_X0_renew cv_X0_renew rfl (Nat.le_of_ble_eq_true rfl) (Nat.le_of_ble_eq_true rfl) rfl h (fun S9 h2 => ?_)
    replace h := h2
    clear h2
    refine zJ.iinc (pc := 46) (k := 4) (lv' := [(3, .int (x3 + 1)), (4, .ref (z_adr o (5, i, x3.toNatClampNeg))), (0, .ref (z_adr o (1, i, 0))), (1, .ref (z_adr o (4, i, 0))), (2, .int x2)]) dX2_renew_46 rfl rfl (Nat.le_of_ble_eq_true rfl) rfl ?_
    refine zJ.goto (pc := 49) (tgt := 31) dX2_renew_49 (by decide) ?_
    exact zJ.sub [2, 3, 4, 0] rfl h
set_option maxRecDepth 100000 in
set_option maxHeartbeats 4000000 in
theorem w_X2_become_0 (o : zW) (n : Nat) (i : Nat) (hi : i < 8) (hn : z_sb i + 120 ≤ n) (i2 : Nat) (hi2 : i2 < 8) (hn2 : z_sb i2 + 120 ≤ n) (S : zS) (Q : Option Value → zS → Prop) (h : zG o n mdX2_become 34 [(0, .ref (z_adr o (1, i, 0))), (1, .ref (z_adr o (1, i2, 0))), (2, .int 0)] [] (sC (sC S (2, i2, 0) (2, i, 0) 0 0 5) (3, i2, 0) (3, i, 0) 0 0 10) Q) : zG o n mdX2_become 0 [(0, .ref (z_adr o (1, i, 0))), (1, .ref (z_adr o (1, i2, 0)))] [] S Q := by
  show zJ o mdX2_become 0 _ [] (n, z_enc o S) 0 0 _
  refine zJ.aload_n (pc := 0) 1 dX2_become_0 rfl rfl ?_
  refine zE.getV (pc := 1) (fd_1_0 o i2) (ok_1 hi2 hn2) kiX2 (Nat.le_of_ble_eq_true rfl) fl_X2_13 dX2_become_1 ?_
  refine zJ.iconst (pc := 4) (v := 0) dX2_become_4 (by decide) ?_
  refine zJ.aload_n (pc := 5) 0 dX2_become_5 rfl rfl ?_
  refine zE.getV (pc := 6) (fd_1_0 o i) (ok_1 hi hn) kiX2 (Nat.le_of_ble_eq_true rfl) fl_X2_13 dX2_become_6 ?_
  refine zJ.iconst (pc := 9) (v := 0) dX2_become_9 (by decide) ?_
  refine zJ.gets (pc := 10) (i := 0) (by decide) fl_X2_9 dX2_become_10 ?_
  refine zJ.slen (pc := 13) (i := 0) (by decide) dX2_become_13 ?_
  refine zE.copy (pc := 14) ⟨ml_X2_18, ac_n, ac_s, ac_i⟩ (ia_2 o i2) (ia_2 o i) (ok_2 hi2 hn2) (ok_2 hi hn) (by decide) (by decide) (by decide) (by decide) (by decide) (Nat.le_of_ble_eq_true rfl) (by decide) dX2_become_14 ?_
  refine zJ.aload_n (pc := 17) 1 dX2_become_17 rfl rfl ?_
  refine zE.getV (pc := 18) (fd_1_1 o i2) (ok_1 hi2 hn2) kiX2 (Nat.le_of_ble_eq_true rfl) fl_X2_24 dX2_become_18 ?_
  refine zJ.iconst (pc := 21) (v := 0) dX2_become_21 (by decide) ?_
  refine zJ.aload_n (pc := 22) 0 dX2_become_22 rfl rfl ?_
  refine zE.getV (pc := 23) (fd_1_1 o i) (ok_1 hi hn) kiX2 (Nat.le_of_ble_eq_true rfl) fl_X2_24 dX2_become_23 ?_
  refine zJ.iconst (pc := 26) (v := 0) dX2_become_26 (by decide) ?_
  refine zJ.bipush (pc := 27) (v := 10) dX2_become_27 (by decide) ?_
  refine zE.copy (pc := 29) ⟨ml_X2_18, ac_n, ac_s, ac_i⟩ (ia_3 o i2) (ia_3 o i) (ok_3 hi2 hn2) (ok_3 hi hn) (by decide) (by decide) (by decide) (by decide) (by decide) (Nat.le_of_ble_eq_true rfl) (by decide) dX2_become_29 ?_
  refine zJ.iconst (pc := 32) (v := 0) dX2_become_32 (by decide) ?_
  refine zJ.istore_n (pc := 33) (lv' := [(2, .int 0), (0, .ref (z_adr o (1, i, 0))), (1, .ref (z_adr o (1, i2, 0)))]) dX2_become_33 rfl (Nat.le_of_ble_eq_true rfl) rfl ?_
  exact zJ.sub [1, 2, 0] rfl h
set_option maxRecDepth 100000 in
set_option maxHeartbeats 4000000 in
theorem w_X2_become_34 (o : zW) (n : Nat) (i : Nat) (hi : i < 8) (hn : z_sb i + 120 ≤ n) (i2 : Nat) (hi2 : i2 < 8) (hn2 : z_sb i2 + 120 ≤ n) (x2 : Int32) (S : zS) (Q : Option Value → zS → Prop) (h : (16 ≤ x2 → (zGv o n mdX1_become [.ref (z_adr o (12, i, 0)), .ref (z_adr o (12, i2, 0))] S (fun S4 => ∀ S5 : zS, S5 = (sI (sF S4 (1, i, 0) 4 (S4.2.2 (1, i2, 0) 4)) (1, i, 0) 5 ((sF S4 (1, i, 0) 4 (S4.2.2 (1, i2, 0) 4)).1 (1, i2, 0) 5)) → (∀ S6 : zS, S6 = (sI (sI S5 (1, i, 0) 6 (S5.1 (1, i2, 0) 6)) (1, i, 0) 7 ((sI S5 (1, i, 0) 6 (S5.1 (1, i2, 0) 6)).1 (1, i2, 0) 7)) → (Q none (sI S6 (1, i, 0) 8 (S6.1 (1, i2, 0) 8))))))) ∧ (¬ 16 ≤ x2 → (vp_in x2 16 ∧ (vp_in x2 16 ∧ (zGv o n mdX0_become [.ref (z_adr o (5, i, x2.toNatClampNeg)), .ref (z_adr o (5, i2, x2.toNatClampNeg))] S (fun S11 => zG o n mdX2_become 34 [(0, .ref (z_adr o (1, i, 0))), (1, .ref (z_adr o (1, i2, 0))), (2, .int (x2 + 1))] [] S11 Q)))))) : zG o n mdX2_become 34 [(0, .ref (z_adr o (1, i, 0))), (1, .ref (z_adr o (1, i2, 0))), (2, .int x2)] [] S Q := by
  show zJ o mdX2_become 34 _ [] (n, z_enc o S) 0 0 _
  refine zJ.iload_n (pc := 34) 2 dX2_become_34 rfl rfl ?_
  refine zJ.bipush (pc := 35) (v := 16) dX2_become_35 (by decide) ?_
  refine zJ.icmp_ge (pc := 37) (tgt := 61) dX2_become_37 (by decide) (fun c1 => ?_) (fun c1 => ?_)
  · replace h := h.1 c1
    refine zJ.aload_n (pc := 61) 0 dX2_become_61 rfl rfl ?_
    refine zE.getV (pc := 62) (fd_1_3 o i) (ok_1 hi hn) kiX2 (Nat.le_of_ble_eq_true rfl) fl_X2_39 dX2_become_62 ?_
    refine zJ.aload_n (pc := 65) 1 dX2_become_65 rfl rfl ?_
    refine zE.getV (pc := 66) (fd_1_3 o i2) (ok_1 hi2 hn2) kiX2 (Nat.le_of_ble_eq_true rfl) fl_X2_39 dX2_become_66 ?_
    refine zG.callVv (d := mdX2_become) (pc := 69) [.ref (z_adr o (12, i2, 0))] [] (ob_12 o i) (ok_12 hi hn) rfl dX2_become_69 ⟨(cb_X1_become).1, (cb_X1_become).2, (Nat.le_of_ble_eq_true rfl), (Nat.le_of_ble_eq_true rfl)⟩ ml_X2_70 ci_X1_become cv_X1_become rfl (Nat.le_of_ble_eq_true rfl) (Nat.le_of_ble_eq_true rfl) rfl h (fun S4 h2 => ?_)
    replace h := h2
    clear h2
    refine zJ.aload_n (pc := 72) 0 dX2_become_72 rfl rfl ?_
    refine zJ.aload_n (pc := 73) 1 dX2_become_73 rfl rfl ?_
    refine zE.getF (pc := 74) (fd_1_4 o i2) (ok_1 hi2 hn2) kiX2 (Nat.le_of_ble_eq_true rfl) fl_X2_48 dX2_become_74 ?_
    refine zE.putF (pc := 77) (fd_1_4 o i) (ok_1 hi hn) kiX2 (Nat.le_of_ble_eq_true rfl) fl_X2_48 rfl rfl dX2_become_77 ?_
    refine zJ.aload_n (pc := 80) 0 dX2_become_80 rfl rfl ?_
    refine zJ.aload_n (pc := 81) 1 dX2_become_81 rfl rfl ?_
    refine zE.getI (pc := 82) (fd_1_5 o i2) (ok_1 hi2 hn2) kiX2 (Nat.le_of_ble_eq_true rfl) fl_X2_52 dX2_become_82 ?_
    refine zE.putI (pc := 85) (fd_1_5 o i) (ok_1 hi hn) kiX2 (Nat.le_of_ble_eq_true rfl) fl_X2_52 rfl rfl dX2_become_85 ?_
    refine zJ.nameS (fun S5 hyS5 => ?_)
    replace h := h S5 hyS5
    refine zJ.aload_n (pc := 88) 0 dX2_become_88 rfl rfl ?_
    refine zJ.aload_n (pc := 89) 1 dX2_become_89 rfl rfl ?_
    refine zE.getI (pc := 90) (fd_1_6 o i2) (ok_1 hi2 hn2) kiX2 (Nat.le_of_ble_eq_true rfl) fl_X2_56 dX2_become_90 ?_
    refine zE.putI (pc := 93) (fd_1_6 o i) (ok_1 hi hn) kiX2 (Nat.le_of_ble_eq_true rfl) fl_X2_56 rfl rfl dX2_become_93 ?_
    refine zJ.aload_n (pc := 96) 0 dX2_become_96 rfl rfl ?_
    refine zJ.aload_n (pc := 97) 1 dX2_become_97 rfl rfl ?_
    refine zE.getI (pc := 98) (fd_1_7 o i2) (ok_1 hi2 hn2) kiX2 (Nat.le_of_ble_eq_true rfl) fl_X2_59 dX2_become_98 ?_
    refine zE.putI (pc := 101) (fd_1_7 o i) (ok_1 hi hn) kiX2 (Nat.le_of_ble_eq_true rfl) fl_X2_59 rfl rfl dX2_become_101 ?_
    refine zJ.nameS (fun S6 hyS6 => ?_)
    replace h := h S6 hyS6
    refine zJ.aload_n (pc := 104) 0 dX2_become_104 rfl rfl ?_
    refine zJ.aload_n (pc := 105) 1 dX2_become_105 rfl rfl ?_
    refine zE.getI (pc := 106) (fd_1_8 o i2) (ok_1 hi2 hn2) kiX2 (Nat.le_of_ble_eq_true rfl) fl_X2_63 dX2_become_106 ?_
    refine zE.putI (pc := 109) (fd_1_8 o i) (ok_1 hi hn) kiX2 (Nat.le_of_ble_eq_true rfl) fl_X2_63 rfl rfl dX2_become_109 ?_
    exact zG.ret (pc := 112) (r := none) ⟨dX2_become_112, rfl⟩ h
  · replace h := h.2 c1
    refine zJ.aload_n (pc := 40) 0 dX2_become_40 rfl rfl ?_
    refine zE.getV (pc := 41) (fd_1_2 o i) (ok_1 hi hn) kiX2 (Nat.le_of_ble_eq_true rfl) fl_X2_29 dX2_become_41 ?_
    refine zJ.iload_n (pc := 44) 2 dX2_become_44 rfl rfl ?_
    obtain ⟨hq7, h⟩ := h
    refine zE.aldB (pc := 45) (ok_4 hi hn) hq7 dX2_become_45 ?_
    refine zJ.aload_n (pc := 46) 1 dX2_become_46 rfl rfl ?_
    refine zE.getV (pc := 47) (fd_1_2 o i2) (ok_1 hi2 hn2) kiX2 (Nat.le_of_ble_eq_true rfl) fl_X2_29 dX2_become_47 ?_
    refine zJ.iload_n (pc := 50) 2 dX2_become_50 rfl rfl ?_
    obtain ⟨hq8, h⟩ := h
    refine zE.aldB (pc := 51) (ok_4 hi2 hn2) hq8 dX2_become_51 ?_
    refine zG.callVv (d := mdX2_become) (pc := 52) [.ref (z_adr o (5, i2, x2.toNatClampNeg))] [] (ob_5 o i x2.toNatClampNeg) (ok_5 hi (z_vlt hq7) hn) rfl dX2_become_52 ⟨(cb_X0_become).1, (cb_X0_become).2, (Nat.le_of_ble_eq_true rfl), (Nat.le_of_ble_eq_true rfl)⟩ ml_X2_66 ci_X0_become cv_X0_become rfl (Nat.le_of_ble_eq_true rfl) (Nat.le_of_ble_eq_true rfl) rfl h (fun S11 h2 => ?_)
    replace h := h2
    clear h2
    refine zJ.iinc (pc := 55) (k := 2) (lv' := [(2, .int (x2 + 1)), (0, .ref (z_adr o (1, i, 0))), (1, .ref (z_adr o (1, i2, 0)))]) dX2_become_55 rfl rfl (Nat.le_of_ble_eq_true rfl) rfl ?_
    refine zJ.goto (pc := 58) (tgt := 34) dX2_become_58 (by decide) ?_
    exact zJ.sub [1, 2, 0] rfl h
set_option maxRecDepth 100000 in
set_option maxHeartbeats 4000000 in
theorem w_X2_begin_0 (o : zW) (n : Nat) (i : Nat) (hi : i < 8) (hn : z_sb i + 120 ≤ n) (x1 : Option Nat) (hx1 : ∀ b, x1 = some b → b < 16) (x2 : Int32) (x3 : Int32) (S : zS) (Q : Option Value → zS → Prop) (h : zG o n mdX2_begin 3 [(0, .ref (z_adr o (1, i, 0))), (1, va_rf (z_bo o i x1)), (2, .int x2), (3, .int x3), (4, .int 0)] [] S Q) : zG o n mdX2_begin 0 [(0, .ref (z_adr o (1, i, 0))), (1, va_rf (z_bo o i x1)), (2, .int x2), (3, .int x3)] [] S Q := by
  show zJ o mdX2_begin 0 _ [] (n, z_enc o S) 0 0 _
  refine zJ.iconst (pc := 0) (v := 0) dX2_begin_0 (by decide) ?_
  refine zJ.istore (pc := 1) (lv' := [(4, .int 0), (0, .ref (z_adr o (1, i, 0))), (1, va_rf (z_bo o i x1)), (2, .int x2), (3, .int x3)]) dX2_begin_1 (Nat.le_of_ble_eq_true rfl) rfl ?_
  exact zJ.sub [1, 2, 3, 4, 0] rfl h
set_option maxRecDepth 100000 in
set_option maxHeartbeats 4000000 in
theorem w_X2_begin_3 (o : zW) (n : Nat) (i : Nat) (hi : i < 8) (hn : z_sb i + 120 ≤ n) (x1 : Option Nat) (hx1 : ∀ b, x1 = some b → b < 16) (x2 : Int32) (x3 : Int32) (x4 : Int32) (S : zS) (Q : Option Value → zS → Prop) (h : (1000 ≤ x4 → (Q (some (.int (S.1 (3, i, 0) 9))) S)) ∧ (¬ 1000 ≤ x4 → (zGv o n mdX2_pass [.ref (z_adr o (1, i, 0))] S (fun S4 => (x1 = none → ((¬ (S4.1 (1, i, 0) 5) = 0 → (zGv o n mdX2_tally [.ref (z_adr o (1, i, 0)), .int 4, .float (1036831949 : UInt32)] S4 (fun S10 => zG o n mdX2_begin 3 [(0, .ref (z_adr o (1, i, 0))), (1, .null), (2, .int x2), (3, .int x3), (4, .int (x4 + 1))] [] S10 Q))) ∧ ((S4.1 (1, i, 0) 5) = 0 → ((¬ (S4.1 (1, i, 0) 6) = 0 → (zGv o n mdX2_tally [.ref (z_adr o (1, i, 0)), .int 4, .float (1036831949 : UInt32)] S4 (fun S15 => zG o n mdX2_begin 3 [(0, .ref (z_adr o (1, i, 0))), (1, .null), (2, .int x2), (3, .int x3), (4, .int (x4 + 1))] [] S15 Q))) ∧ ((S4.1 (1, i, 0) 6) = 0 → (Q (some (.int (S4.1 (3, i, 0) 9))) S4)))))) ∧ (∀ b5, x1 = some b5 → (zGi o n mdX2_ask [.ref (z_adr o (1, i, 0)), .ref (z_adr o (5, i, b5)), .int x2, .int x3] S4 (fun r18 S19 => (r18 = 0 → (zGv o n mdX2_tally [.ref (z_adr o (1, i, 0)), .int 4, .float (1036831949 : UInt32)] S19 (fun S23 => zG o n mdX2_begin 3 [(0, .ref (z_adr o (1, i, 0))), (1, .ref (z_adr o (5, i, b5))), (2, .int x2), (3, .int x3), (4, .int (x4 + 1))] [] S23 Q))) ∧ (¬ r18 = 0 → (Q (some (.int (S19.1 (3, i, 0) 9))) S19))))))))) : zG o n mdX2_begin 3 [(0, .ref (z_adr o (1, i, 0))), (1, va_rf (z_bo o i x1)), (2, .int x2), (3, .int x3), (4, .int x4)] [] S Q := by
  show zJ o mdX2_begin 3 _ [] (n, z_enc o S) 0 0 _
  refine zJ.iload (pc := 3) 4 dX2_begin_3 rfl ?_
  refine zJ.sipush (pc := 5) (v := 1000) dX2_begin_5 (by decide) ?_
  refine zJ.icmp_ge (pc := 8) (tgt := 76) dX2_begin_8 (by decide) (fun c1 => ?_) (fun c1 => ?_)
  · replace h := h.1 c1
    refine zJ.aload_n (pc := 76) 0 dX2_begin_76 rfl rfl ?_
    refine zE.getV (pc := 77) (fd_1_1 o i) (ok_1 hi hn) kiX2 (Nat.le_of_ble_eq_true rfl) fl_X2_24 dX2_begin_77 ?_
    refine zJ.bipush (pc := 80) (v := 9) dX2_begin_80 (by decide) ?_
    refine zE.aldI (pc := 82) (ia_3 o i) (ok_3 hi hn) (by unfold vp_in; decide) dX2_begin_82 ?_
    exact zG.ret (pc := 83) (r := some (.int (S.1 (3, i, 0) 9))) ⟨dX2_begin_83, _, rfl, rfl⟩ h
  · replace h := h.2 c1
    refine zJ.aload_n (pc := 11) 0 dX2_begin_11 rfl rfl ?_
    refine zG.callVv (d := mdX2_begin) (pc := 12) [] [] (ob_1 o i) (ok_1 hi hn) rfl dX2_begin_12 ⟨(cb_X2_pass).1, (cb_X2_pass).2, (Nat.le_of_ble_eq_true rfl), (Nat.le_of_ble_eq_true rfl)⟩ ml_X2_73 ci_X2_pass cv_X2_pass rfl (Nat.le_of_ble_eq_true rfl) (Nat.le_of_ble_eq_true rfl) rfl h (fun S4 h2 => ?_)
    replace h := h2
    clear h2
    refine zJ.aloadq_n (pc := 15) (x := z_bo o i x1) 1 dX2_begin_15 rfl rfl ?_
    refine zE.ifnonnull (pc := 16) (tgt := 41) dX2_begin_16 (by decide) ?_ ?_
    · intro b5 hz
      replace h := h.2 b5 hz
      subst hz
      refine zJ.aload_n (pc := 41) 0 dX2_begin_41 rfl rfl ?_
      refine zJ.aload_n (pc := 42) 1 dX2_begin_42 rfl rfl ?_
      refine zJ.iload_n (pc := 43) 2 dX2_begin_43 rfl rfl ?_
      refine zJ.iload_n (pc := 44) 3 dX2_begin_44 rfl rfl ?_
      refine zG.callVi (d := mdX2_begin) (pc := 45) [.ref (z_adr o (5, i, b5)), .int x2, .int x3] [] (ob_1 o i) (ok_1 hi hn) rfl dX2_begin_45 ⟨(cb_X2_ask).1, (cb_X2_ask).2, (Nat.le_of_ble_eq_true rfl), (Nat.le_of_ble_eq_true rfl)⟩ ml_X2_76 ci_X2_ask cv_X2_ask rfl (Nat.le_of_ble_eq_true rfl) (Nat.le_of_ble_eq_true rfl) rfl h (fun r18 S19 h2 => ?_)
      replace h := h2
      clear h2
      refine zJ.istore (pc := 48) (lv' := [(5, .int r18), (0, .ref (z_adr o (1, i, 0))), (1, .ref (z_adr o (5, i, b5))), (2, .int x2), (3, .int x3), (4, .int x4)]) dX2_begin_48 (Nat.le_of_ble_eq_true rfl) rfl ?_
      refine zJ.iload (pc := 50) 0 dX2_begin_50 rfl ?_
      refine zJ.if_eq (pc := 52) (tgt := 63) dX2_begin_52 (by decide) (fun c20 => ?_) (fun c20 => ?_)
      · replace h := h.1 c20
        refine zJ.aload_n (pc := 63) 1 dX2_begin_63 rfl rfl ?_
        refine zJ.iconst (pc := 64) (v := 4) dX2_begin_64 (by decide) ?_
        refine zJ.ldcf (pc := 65) lc_X2_80 dX2_begin_65 ?_
        refine zG.callVv (d := mdX2_begin) (pc := 67) [.int 4, .float (1036831949 : UInt32)] [] (ob_1 o i) (ok_1 hi hn) rfl dX2_begin_67 ⟨(cb_X2_tally).1, (cb_X2_tally).2, (Nat.le_of_ble_eq_true rfl), (Nat.le_of_ble_eq_true rfl)⟩ ml_X2_81 ci_X2_tally cv_X2_tally rfl (Nat.le_of_ble_eq_true rfl) (Nat.le_of_ble_eq_true rfl) rfl h (fun S23 h2 => ?_)
        replace h := h2
        clear h2
        refine zJ.iinc (pc := 70) (k := 5) (lv' := [(4, .int (x4 + 1)), (5, .int r18), (0, .ref (z_adr o (1, i, 0))), (1, .ref (z_adr o (5, i, b5))), (2, .int x2), (3, .int x3)]) dX2_begin_70 rfl rfl (Nat.le_of_ble_eq_true rfl) rfl ?_
        refine zJ.goto (pc := 73) (tgt := 3) dX2_begin_73 (by decide) ?_
        exact zJ.sub [2, 3, 4, 5, 0] rfl h
      · replace h := h.2 c20
        refine zJ.aload_n (pc := 55) 1 dX2_begin_55 rfl rfl ?_
        refine zE.getV (pc := 56) (fd_1_1 o i) (ok_1 hi hn) kiX2 (Nat.le_of_ble_eq_true rfl) fl_X2_24 dX2_begin_56 ?_
        refine zJ.bipush (pc := 59) (v := 9) dX2_begin_59 (by decide) ?_
        refine zE.aldI (pc := 61) (ia_3 o i) (ok_3 hi hn) (by unfold vp_in; decide) dX2_begin_61 ?_
        exact zG.ret (pc := 62) (r := some (.int (S19.1 (3, i, 0) 9))) ⟨dX2_begin_62, _, rfl, rfl⟩ h
    · intro hz
      replace h := h.1 hz
      subst hz
      refine zJ.aload_n (pc := 19) 0 dX2_begin_19 rfl rfl ?_
      refine zE.getI (pc := 20) (fd_1_5 o i) (ok_1 hi hn) kiX2 (Nat.le_of_ble_eq_true rfl) fl_X2_52 dX2_begin_20 ?_
      refine zJ.if_ne (pc := 23) (tgt := 37) dX2_begin_23 (by decide) (fun c6 => ?_) (fun c6 => ?_)
      · replace h := h.1 c6
        refine zJ.iconst (pc := 37) (v := 0) dX2_begin_37 (by decide) ?_
        refine zJ.goto (pc := 38) (tgt := 48) dX2_begin_38 (by decide) ?_
        refine zJ.istore (pc := 48) (lv' := [(5, .int 0), (0, .ref (z_adr o (1, i, 0))), (1, .null), (2, .int x2), (3, .int x3), (4, .int x4)]) dX2_begin_48 (Nat.le_of_ble_eq_true rfl) rfl ?_
        refine zJ.iload (pc := 50) 0 dX2_begin_50 rfl ?_
        refine zJ.if_eq (pc := 52) (tgt := 63) dX2_begin_52 (by decide) (fun c7 => ?_) (fun c7 => absurd c7 (by decide))
        refine zJ.aload_n (pc := 63) 1 dX2_begin_63 rfl rfl ?_
        refine zJ.iconst (pc := 64) (v := 4) dX2_begin_64 (by decide) ?_
        refine zJ.ldcf (pc := 65) lc_X2_80 dX2_begin_65 ?_
        refine zG.callVv (d := mdX2_begin) (pc := 67) [.int 4, .float (1036831949 : UInt32)] [] (ob_1 o i) (ok_1 hi hn) rfl dX2_begin_67 ⟨(cb_X2_tally).1, (cb_X2_tally).2, (Nat.le_of_ble_eq_true rfl), (Nat.le_of_ble_eq_true rfl)⟩ ml_X2_81 ci_X2_tally cv_X2_tally rfl (Nat.le_of_ble_eq_true rfl) (Nat.le_of_ble_eq_true rfl) rfl h (fun S10 h2 => ?_)
        replace h := h2
        clear h2
        refine zJ.iinc (pc := 70) (k := 5) (lv' := [(4, .int (x4 + 1)), (5, .int 0), (0, .ref (z_adr o (1, i, 0))), (1, .null), (2, .int x2), (3, .int x3)]) dX2_begin_70 rfl rfl (Nat.le_of_ble_eq_true rfl) rfl ?_
        refine zJ.goto (pc := 73) (tgt := 3) dX2_begin_73 (by decide) ?_
        exact zJ.sub [2, 3, 4, 5, 0] rfl h
      · replace h := h.2 c6
        refine zJ.aload_n (pc := 26) 0 dX2_begin_26 rfl rfl ?_
        refine zE.getI (pc := 27) (fd_1_6 o i) (ok_1 hi hn) kiX2 (Nat.le_of_ble_eq_true rfl) fl_X2_56 dX2_begin_27 ?_
        refine zJ.if_ne (pc := 30) (tgt := 37) dX2_begin_30 (by decide) (fun c11 => ?_) (fun c11 => ?_)
        · replace h := h.1 c11
          refine zJ.iconst (pc := 37) (v := 0) dX2_begin_37 (by decide) ?_
          refine zJ.goto (pc := 38) (tgt := 48) dX2_begin_38 (by decide) ?_
          refine zJ.istore (pc := 48) (lv' := [(5, .int 0), (0, .ref (z_adr o (1, i, 0))), (1, .null), (2, .int x2), (3, .int x3), (4, .int x4)]) dX2_begin_48 (Nat.le_of_ble_eq_true rfl) rfl ?_
          refine zJ.iload (pc := 50) 0 dX2_begin_50 rfl ?_
          refine zJ.if_eq (pc := 52) (tgt := 63) dX2_begin_52 (by decide) (fun c12 => ?_) (fun c12 => absurd c12 (by decide))
          refine zJ.aload_n (pc := 63) 1 dX2_begin_63 rfl rfl ?_
          refine zJ.iconst (pc := 64) (v := 4) dX2_begin_64 (by decide) ?_
          refine zJ.ldcf (pc := 65) lc_X2_80 dX2_begin_65 ?_
          refine zG.callVv (d := mdX2_begin) (pc := 67) [.int 4, .float (1036831949 : UInt32)] [] (ob_1 o i) (ok_1 hi hn) rfl dX2_begin_67 ⟨(cb_X2_tally).1, (cb_X2_tally).2, (Nat.le_of_ble_eq_true rfl), (Nat.le_of_ble_eq_true rfl)⟩ ml_X2_81 ci_X2_tally cv_X2_tally rfl (Nat.le_of_ble_eq_true rfl) (Nat.le_of_ble_eq_true rfl) rfl h (fun S15 h2 => ?_)
          replace h := h2
          clear h2
          refine zJ.iinc (pc := 70) (k := 5) (lv' := [(4, .int (x4 + 1)), (5, .int 0), (0, .ref (z_adr o (1, i, 0))), (1, .null), (2, .int x2), (3, .int x3)]) dX2_begin_70 rfl rfl (Nat.le_of_ble_eq_true rfl) rfl ?_
          refine zJ.goto (pc := 73) (tgt := 3) dX2_begin_73 (by decide) ?_
          exact zJ.sub [2, 3, 4, 5, 0] rfl h
        · replace h := h.2 c11
          refine zJ.iconst (pc := 33) (v := 1) dX2_begin_33 (by decide) ?_
          refine zJ.goto (pc := 34) (tgt := 48) dX2_begin_34 (by decide) ?_
          refine zJ.istore (pc := 48) (lv' := [(5, .int 1), (0, .ref (z_adr o (1, i, 0))), (1, .null), (2, .int x2), (3, .int x3), (4, .int x4)]) dX2_begin_48 (Nat.le_of_ble_eq_true rfl) rfl ?_
          refine zJ.iload (pc := 50) 0 dX2_begin_50 rfl ?_
          refine zJ.if_eq (pc := 52) (tgt := 63) dX2_begin_52 (by decide) (fun c16 => absurd c16 (by decide)) (fun c16 => ?_)
          refine zJ.aload_n (pc := 55) 1 dX2_begin_55 rfl rfl ?_
          refine zE.getV (pc := 56) (fd_1_1 o i) (ok_1 hi hn) kiX2 (Nat.le_of_ble_eq_true rfl) fl_X2_24 dX2_begin_56 ?_
          refine zJ.bipush (pc := 59) (v := 9) dX2_begin_59 (by decide) ?_
          refine zE.aldI (pc := 61) (ia_3 o i) (ok_3 hi hn) (by unfold vp_in; decide) dX2_begin_61 ?_
          exact zG.ret (pc := 62) (r := some (.int (S4.1 (3, i, 0) 9))) ⟨dX2_begin_62, _, rfl, rfl⟩ h
set_option maxRecDepth 100000 in
set_option maxHeartbeats 4000000 in
theorem w_X2_pause_0 (o : zW) (n : Nat) (i : Nat) (hi : i < 8) (hn : z_sb i + 120 ≤ n) (x1 : Int32) (S : zS) (Q : Option Value → zS → Prop) (h : zG o n mdX2_pause 2 [(0, .ref (z_adr o (1, i, 0))), (1, .int x1), (2, .int 0)] [] S Q) : zG o n mdX2_pause 0 [(0, .ref (z_adr o (1, i, 0))), (1, .int x1)] [] S Q := by
  show zJ o mdX2_pause 0 _ [] (n, z_enc o S) 0 0 _
  refine zJ.iconst (pc := 0) (v := 0) dX2_pause_0 (by decide) ?_
  refine zJ.istore_n (pc := 1) (lv' := [(2, .int 0), (0, .ref (z_adr o (1, i, 0))), (1, .int x1)]) dX2_pause_1 rfl (Nat.le_of_ble_eq_true rfl) rfl ?_
  exact zJ.sub [1, 2, 0] rfl h
set_option maxRecDepth 100000 in
set_option maxHeartbeats 4000000 in
theorem w_X2_pause_2 (o : zW) (n : Nat) (i : Nat) (hi : i < 8) (hn : z_sb i + 120 ≤ n) (x1 : Int32) (x2 : Int32) (S : zS) (Q : Option Value → zS → Prop) (h : (x1 ≤ x2 → (Q none S)) ∧ (¬ x1 ≤ x2 → ((99 ≤ x2 → (Q none S)) ∧ (¬ 99 ≤ x2 → (zGv o n mdX2_pass [.ref (z_adr o (1, i, 0))] S (fun S5 => zG o n mdX2_pause 2 [(0, .ref (z_adr o (1, i, 0))), (1, .int x1), (2, .int (x2 + 1))] [] S5 Q)))))) : zG o n mdX2_pause 2 [(0, .ref (z_adr o (1, i, 0))), (1, .int x1), (2, .int x2)] [] S Q := by
  show zJ o mdX2_pause 2 _ [] (n, z_enc o S) 0 0 _
  refine zJ.iload_n (pc := 2) 2 dX2_pause_2 rfl rfl ?_
  refine zJ.iload_n (pc := 3) 1 dX2_pause_3 rfl rfl ?_
  refine zJ.icmp_ge (pc := 4) (tgt := 23) dX2_pause_4 (by decide) (fun c1 => ?_) (fun c1 => ?_)
  · replace h := h.1 c1
    exact zG.ret (pc := 23) (r := none) ⟨dX2_pause_23, rfl⟩ h
  · replace h := h.2 c1
    refine zJ.iload_n (pc := 7) 2 dX2_pause_7 rfl rfl ?_
    refine zJ.bipush (pc := 8) (v := 99) dX2_pause_8 (by decide) ?_
    refine zJ.icmp_ge (pc := 10) (tgt := 23) dX2_pause_10 (by decide) (fun c2 => ?_) (fun c2 => ?_)
    · replace h := h.1 c2
      exact zG.ret (pc := 23) (r := none) ⟨dX2_pause_23, rfl⟩ h
    · replace h := h.2 c2
      refine zJ.aload_n (pc := 13) 0 dX2_pause_13 rfl rfl ?_
      refine zG.callVv (d := mdX2_pause) (pc := 14) [] [] (ob_1 o i) (ok_1 hi hn) rfl dX2_pause_14 ⟨(cb_X2_pass).1, (cb_X2_pass).2, (Nat.le_of_ble_eq_true rfl), (Nat.le_of_ble_eq_true rfl)⟩ ml_X2_73 ci_X2_pass cv_X2_pass rfl (Nat.le_of_ble_eq_true rfl) (Nat.le_of_ble_eq_true rfl) rfl h (fun S5 h2 => ?_)
      replace h := h2
      clear h2
      refine zJ.iinc (pc := 17) (k := 2) (lv' := [(2, .int (x2 + 1)), (0, .ref (z_adr o (1, i, 0))), (1, .int x1)]) dX2_pause_17 rfl rfl (Nat.le_of_ble_eq_true rfl) rfl ?_
      refine zJ.goto (pc := 20) (tgt := 2) dX2_pause_20 (by decide) ?_
      exact zJ.sub [1, 2, 0] rfl h
set_option maxRecDepth 100000 in
set_option maxHeartbeats 4000000 in
theorem w_X2_carryOut_0 (o : zW) (i : Nat) (hi : i < 8) (S : zS) (Q : Option Value → zS → Prop) (h : zG o 970 mdX2_carryOut 2 [(0, .ref (z_adr o (1, i, 0))), (1, .ref (z_adr o (16, 0, 0))), (2, .int 0)] [] S Q) : zG o 970 mdX2_carryOut 0 [(0, .ref (z_adr o (1, i, 0))), (1, .ref (z_adr o (16, 0, 0)))] [] S Q := by
  show zJ o mdX2_carryOut 0 _ [] (970, z_enc o S) 0 0 _
  refine zJ.iconst (pc := 0) (v := 0) dX2_carryOut_0 (by decide) ?_
  refine zJ.istore_n (pc := 1) (lv' := [(2, .int 0), (0, .ref (z_adr o (1, i, 0))), (1, .ref (z_adr o (16, 0, 0)))]) dX2_carryOut_1 rfl (Nat.le_of_ble_eq_true rfl) rfl ?_
  exact zJ.sub [1, 2, 0] rfl h
set_option maxRecDepth 100000 in
set_option maxHeartbeats 4000000 in
theorem w_X2_carryOut_2 (o : zW) (i : Nat) (hi : i < 8) (x2 : Int32) (S : zS) (Q : Option Value → zS → Prop) (h : ((S.1 (16, 0, 0) 5) ≤ x2 → (Q none S)) ∧ (¬ (S.1 (16, 0, 0) 5) ≤ x2 → ((60 ≤ x2 → (Q none S)) ∧ (¬ 60 ≤ x2 → (vp_in x2 60 ∧ ((¬ (S.1 (18, 0, 0) x2.toNatClampNeg) = (-2) → (zGi o 970 mdX4_isBox [.int (S.1 (18, 0, 0) x2.toNatClampNeg)] S (fun r5 S6 => (r5 = 0 → (vp_in x2 60 ∧ (vp_in x2 60 ∧ (zGi o 970 mdX2_begin [.ref (z_adr o (1, i, 0)), .null, .int (S6.1 (19, 0, 0) x2.toNatClampNeg), .int (S6.1 (20, 0, 0) x2.toNatClampNeg)] S6 (fun r9 S10 => zG o 970 mdX2_carryOut 2 [(0, .ref (z_adr o (1, i, 0))), (1, .ref (z_adr o (16, 0, 0))), (2, .int (x2 + 1))] [] S10 Q))))) ∧ (¬ r5 = 0 → (vp_in (S.1 (18, 0, 0) x2.toNatClampNeg) 16 ∧ (vp_in x2 60 ∧ (vp_in x2 60 ∧ (zGi o 970 mdX2_begin [.ref (z_adr o (1, i, 0)), .ref (z_adr o (5, i, (S.1 (18, 0, 0) x2.toNatClampNeg).toNatClampNeg)), .int (S6.1 (19, 0, 0) x2.toNatClampNeg), .int (S6.1 (20, 0, 0) x2.toNatClampNeg)] S6 (fun r13 S14 => zG o 970 mdX2_carryOut 2 [(0, .ref (z_adr o (1, i, 0))), (1, .ref (z_adr o (16, 0, 0))), (2, .int (x2 + 1))] [] S14 Q))))))))) ∧ ((S.1 (18, 0, 0) x2.toNatClampNeg) = (-2) → (vp_in x2 60 ∧ (zGv o 970 mdX2_pause [.ref (z_adr o (1, i, 0)), .int (S.1 (20, 0, 0) x2.toNatClampNeg)] S (fun S17 => zG o 970 mdX2_carryOut 2 [(0, .ref (z_adr o (1, i, 0))), (1, .ref (z_adr o (16, 0, 0))), (2, .int (x2 + 1))] [] S17 Q)))))))))) : zG o 970 mdX2_carryOut 2 [(0, .ref (z_adr o (1, i, 0))), (1, .ref (z_adr o (16, 0, 0))), (2, .int x2)] [] S Q := by
  show zJ o mdX2_carryOut 2 _ [] (970, z_enc o S) 0 0 _
  refine zJ.iload_n (pc := 2) 2 dX2_carryOut_2 rfl rfl ?_
  refine zJ.aload_n (pc := 3) 1 dX2_carryOut_3 rfl rfl ?_
  refine zE.getI (pc := 4) (fd_16_5 o) ok_16 kiX3 (Nat.le_of_ble_eq_true rfl) fl_X2_85 dX2_carryOut_4 ?_
  refine zJ.icmp_ge (pc := 7) (tgt := 82) dX2_carryOut_7 (by decide) (fun c1 => ?_) (fun c1 => ?_)
  · replace h := h.1 c1
    exact zG.ret (pc := 82) (r := none) ⟨dX2_carryOut_82, rfl⟩ h
  · replace h := h.2 c1
    refine zJ.iload_n (pc := 10) 2 dX2_carryOut_10 rfl rfl ?_
    refine zJ.bipush (pc := 11) (v := 60) dX2_carryOut_11 (by decide) ?_
    refine zJ.icmp_ge (pc := 13) (tgt := 82) dX2_carryOut_13 (by decide) (fun c2 => ?_) (fun c2 => ?_)
    · replace h := h.1 c2
      exact zG.ret (pc := 82) (r := none) ⟨dX2_carryOut_82, rfl⟩ h
    · replace h := h.2 c2
      refine zJ.aload_n (pc := 16) 1 dX2_carryOut_16 rfl rfl ?_
      refine zE.getV (pc := 17) (fd_16_1 o) ok_16 kiX3 (Nat.le_of_ble_eq_true rfl) fl_X2_90 dX2_carryOut_17 ?_
      refine zJ.iload_n (pc := 20) 2 dX2_carryOut_20 rfl rfl ?_
      obtain ⟨hq, h⟩ := h
      refine zE.aldI (pc := 21) (ia_18 o) ok_18 hq dX2_carryOut_21 ?_
      refine zJ.istore_n (pc := 22) (lv' := [(3, .int (S.1 (18, 0, 0) x2.toNatClampNeg)), (0, .ref (z_adr o (1, i, 0))), (1, .ref (z_adr o (16, 0, 0))), (2, .int x2)]) dX2_carryOut_22 rfl (Nat.le_of_ble_eq_true rfl) rfl ?_
      refine zJ.iload_n (pc := 23) 0 dX2_carryOut_23 rfl rfl ?_
      refine zJ.bipush (pc := 24) (v := (-2)) dX2_carryOut_24 (by decide) ?_
      refine zJ.icmp_ne (pc := 26) (tgt := 42) dX2_carryOut_26 (by decide) (fun c3 => ?_) (fun c3 => ?_)
      · replace h := h.1 c3
        refine zJ.aload_n (pc := 42) 1 dX2_carryOut_42 rfl rfl ?_
        refine zJ.iload_n (pc := 43) 0 dX2_carryOut_43 rfl rfl ?_
        refine zG.callSi (d := mdX2_carryOut) (pc := 44) [.int (S.1 (18, 0, 0) x2.toNatClampNeg)] [.ref (z_adr o (1, i, 0))] dX2_carryOut_44 ⟨(cb_X4_isBox).1, (cb_X4_isBox).2, (Nat.le_of_ble_eq_true rfl), (Nat.le_of_ble_eq_true rfl)⟩ ml_X2_99 cs_X4_isBox rfl (Nat.le_of_ble_eq_true rfl) (Nat.le_of_ble_eq_true rfl) rfl h (fun r5 S6 h2 => ?_)
        replace h := h2
        clear h2
        refine zJ.if_eq (pc := 47) (tgt := 59) dX2_carryOut_47 (by decide) (fun c7 => ?_) (fun c7 => ?_)
        · replace h := h.1 c7
          refine zJ.null (pc := 59) dX2_carryOut_59 ?_
          refine zJ.aload_n (pc := 60) 2 dX2_carryOut_60 rfl rfl ?_
          refine zE.getV (pc := 61) (fd_16_2 o) ok_16 kiX3 (Nat.le_of_ble_eq_true rfl) fl_X2_103 dX2_carryOut_61 ?_
          refine zJ.iload_n (pc := 64) 3 dX2_carryOut_64 rfl rfl ?_
          obtain ⟨hq, h⟩ := h
          refine zE.aldI (pc := 65) (ia_19 o) ok_19 hq dX2_carryOut_65 ?_
          refine zJ.aload_n (pc := 66) 2 dX2_carryOut_66 rfl rfl ?_
          refine zE.getV (pc := 67) (fd_16_3 o) ok_16 kiX3 (Nat.le_of_ble_eq_true rfl) fl_X2_93 dX2_carryOut_67 ?_
          refine zJ.iload_n (pc := 70) 3 dX2_carryOut_70 rfl rfl ?_
          obtain ⟨hq, h⟩ := h
          refine zE.aldI (pc := 71) (ia_20 o) ok_20 hq dX2_carryOut_71 ?_
          refine zG.callVi (d := mdX2_carryOut) (pc := 72) [.null, .int (S6.1 (19, 0, 0) x2.toNatClampNeg), .int (S6.1 (20, 0, 0) x2.toNatClampNeg)] [] (ob_1 o i) (ok_1 hi (z_sb_le hi)) rfl dX2_carryOut_72 ⟨(cb_X2_begin).1, (cb_X2_begin).2, (Nat.le_of_ble_eq_true rfl), (Nat.le_of_ble_eq_true rfl)⟩ ml_X2_106 ci_X2_begin cv_X2_begin rfl (Nat.le_of_ble_eq_true rfl) (Nat.le_of_ble_eq_true rfl) rfl h (fun r9 S10 h2 => ?_)
          replace h := h2
          clear h2
          refine zJ.pop (pc := 75) dX2_carryOut_75 rfl ?_
          refine zJ.iinc (pc := 76) (k := 3) (lv' := [(2, .int (x2 + 1)), (3, .int (S.1 (18, 0, 0) x2.toNatClampNeg)), (0, .ref (z_adr o (1, i, 0))), (1, .ref (z_adr o (16, 0, 0)))]) dX2_carryOut_76 rfl rfl (Nat.le_of_ble_eq_true rfl) rfl ?_
          refine zJ.goto (pc := 79) (tgt := 2) dX2_carryOut_79 (by decide) ?_
          exact zJ.sub [2, 3, 0] rfl h
        · replace h := h.2 c7
          refine zJ.aload_n (pc := 50) 1 dX2_carryOut_50 rfl rfl ?_
          refine zE.getV (pc := 51) (fd_1_2 o i) (ok_1 hi (z_sb_le hi)) kiX2 (Nat.le_of_ble_eq_true rfl) fl_X2_29 dX2_carryOut_51 ?_
          refine zJ.iload_n (pc := 54) 0 dX2_carryOut_54 rfl rfl ?_
          obtain ⟨hq11, h⟩ := h
          refine zE.aldB (pc := 55) (ok_4 hi (z_sb_le hi)) hq11 dX2_carryOut_55 ?_
          refine zJ.goto (pc := 56) (tgt := 60) dX2_carryOut_56 (by decide) ?_
          refine zJ.aload_n (pc := 60) 2 dX2_carryOut_60 rfl rfl ?_
          refine zE.getV (pc := 61) (fd_16_2 o) ok_16 kiX3 (Nat.le_of_ble_eq_true rfl) fl_X2_103 dX2_carryOut_61 ?_
          refine zJ.iload_n (pc := 64) 3 dX2_carryOut_64 rfl rfl ?_
          obtain ⟨hq, h⟩ := h
          refine zE.aldI (pc := 65) (ia_19 o) ok_19 hq dX2_carryOut_65 ?_
          refine zJ.aload_n (pc := 66) 2 dX2_carryOut_66 rfl rfl ?_
          refine zE.getV (pc := 67) (fd_16_3 o) ok_16 kiX3 (Nat.le_of_ble_eq_true rfl) fl_X2_93 dX2_carryOut_67 ?_
          refine zJ.iload_n (pc := 70) 3 dX2_carryOut_70 rfl rfl ?_
          obtain ⟨hq, h⟩ := h
          refine zE.aldI (pc := 71) (ia_20 o) ok_20 hq dX2_carryOut_71 ?_
          refine zG.callVi (d := mdX2_carryOut) (pc := 72) [.ref (z_adr o (5, i, (S.1 (18, 0, 0) x2.toNatClampNeg).toNatClampNeg)), .int (S6.1 (19, 0, 0) x2.toNatClampNeg), .int (S6.1 (20, 0, 0) x2.toNatClampNeg)] [] (ob_1 o i) (ok_1 hi (z_sb_le hi)) rfl dX2_carryOut_72 ⟨(cb_X2_begin).1, (cb_X2_begin).2, (Nat.le_of_ble_eq_true rfl), (Nat.le_of_ble_eq_true rfl)⟩ ml_X2_106 ci_X2_begin cv_X2_begin rfl (Nat.le_of_ble_eq_true rfl) (Nat.le_of_ble_eq_true rfl) rfl h (fun r13 S14 h2 => ?_)
          replace h := h2
          clear h2
          refine zJ.pop (pc := 75) dX2_carryOut_75 rfl ?_
          refine zJ.iinc (pc := 76) (k := 3) (lv' := [(2, .int (x2 + 1)), (3, .int (S.1 (18, 0, 0) x2.toNatClampNeg)), (0, .ref (z_adr o (1, i, 0))), (1, .ref (z_adr o (16, 0, 0)))]) dX2_carryOut_76 rfl rfl (Nat.le_of_ble_eq_true rfl) rfl ?_
          refine zJ.goto (pc := 79) (tgt := 2) dX2_carryOut_79 (by decide) ?_
          exact zJ.sub [2, 3, 0] rfl h
      · replace h := h.2 c3
        refine zJ.aload_n (pc := 29) 1 dX2_carryOut_29 rfl rfl ?_
        refine zJ.aload_n (pc := 30) 2 dX2_carryOut_30 rfl rfl ?_
        refine zE.getV (pc := 31) (fd_16_3 o) ok_16 kiX3 (Nat.le_of_ble_eq_true rfl) fl_X2_93 dX2_carryOut_31 ?_
        refine zJ.iload_n (pc := 34) 3 dX2_carryOut_34 rfl rfl ?_
        obtain ⟨hq, h⟩ := h
        refine zE.aldI (pc := 35) (ia_20 o) ok_20 hq dX2_carryOut_35 ?_
        refine zG.callVv (d := mdX2_carryOut) (pc := 36) [.int (S.1 (20, 0, 0) x2.toNatClampNeg)] [] (ob_1 o i) (ok_1 hi (z_sb_le hi)) rfl dX2_carryOut_36 ⟨(cb_X2_pause).1, (cb_X2_pause).2, (Nat.le_of_ble_eq_true rfl), (Nat.le_of_ble_eq_true rfl)⟩ ml_X2_96 ci_X2_pause cv_X2_pause rfl (Nat.le_of_ble_eq_true rfl) (Nat.le_of_ble_eq_true rfl) rfl h (fun S17 h2 => ?_)
        replace h := h2
        clear h2
        refine zJ.goto (pc := 39) (tgt := 76) dX2_carryOut_39 (by decide) ?_
        refine zJ.iinc (pc := 76) (k := 3) (lv' := [(2, .int (x2 + 1)), (3, .int (S.1 (18, 0, 0) x2.toNatClampNeg)), (0, .ref (z_adr o (1, i, 0))), (1, .ref (z_adr o (16, 0, 0)))]) dX2_carryOut_76 rfl rfl (Nat.le_of_ble_eq_true rfl) rfl ?_
        refine zJ.goto (pc := 79) (tgt := 2) dX2_carryOut_79 (by decide) ?_
        exact zJ.sub [2, 3, 0] rfl h
set_option maxRecDepth 100000 in
set_option maxHeartbeats 4000000 in
theorem w_X2_startTrial_0 (o : zW) (n : Nat) (i : Nat) (hi : i < 8) (hn : z_sb i + 120 ≤ n) (i2 : Nat) (hi2 : i2 < 8) (hn2 : z_sb i2 + 120 ≤ n) (x2 : Int32) (S : zS) (Q : Option Value → zS → Prop) (h : zGv o n mdX2_renew [.ref (z_adr o (1, i, 0))] (sI (sC S (2, i2, 0) (2, i, 0) 0 0 5) (2, i, 0) 2 x2) (fun S4 => Q none S4)) : zG o n mdX2_startTrial 0 [(0, .ref (z_adr o (1, i, 0))), (1, .ref (z_adr o (2, i2, 0))), (2, .int x2)] [] S Q := by
  show zJ o mdX2_startTrial 0 _ [] (n, z_enc o S) 0 0 _
  refine zJ.aload_n (pc := 0) 1 dX2_startTrial_0 rfl rfl ?_
  refine zJ.iconst (pc := 1) (v := 0) dX2_startTrial_1 (by decide) ?_
  refine zJ.aload_n (pc := 2) 0 dX2_startTrial_2 rfl rfl ?_
  refine zE.getV (pc := 3) (fd_1_0 o i) (ok_1 hi hn) kiX2 (Nat.le_of_ble_eq_true rfl) fl_X2_13 dX2_startTrial_3 ?_
  refine zJ.iconst (pc := 6) (v := 0) dX2_startTrial_6 (by decide) ?_
  refine zJ.gets (pc := 7) (i := 0) (by decide) fl_X2_9 dX2_startTrial_7 ?_
  refine zJ.slen (pc := 10) (i := 0) (by decide) dX2_startTrial_10 ?_
  refine zE.copy (pc := 11) ⟨ml_X2_18, ac_n, ac_s, ac_i⟩ (ia_2 o i2) (ia_2 o i) (ok_2 hi2 hn2) (ok_2 hi hn) (by decide) (by decide) (by decide) (by decide) (by decide) (Nat.le_of_ble_eq_true rfl) (by decide) dX2_startTrial_11 ?_
  refine zJ.aload_n (pc := 14) 0 dX2_startTrial_14 rfl rfl ?_
  refine zE.getV (pc := 15) (fd_1_0 o i) (ok_1 hi hn) kiX2 (Nat.le_of_ble_eq_true rfl) fl_X2_13 dX2_startTrial_15 ?_
  refine zJ.iconst (pc := 18) (v := 2) dX2_startTrial_18 (by decide) ?_
  refine zJ.iload_n (pc := 19) 2 dX2_startTrial_19 rfl rfl ?_
  refine zE.astI (pc := 20) (ia_2 o i) (ok_2 hi hn) (by unfold vp_in; decide) dX2_startTrial_20 ?_
  refine zJ.aload_n (pc := 21) 0 dX2_startTrial_21 rfl rfl ?_
  refine zG.callVv (d := mdX2_startTrial) (pc := 22) [] [] (ob_1 o i) (ok_1 hi hn) rfl dX2_startTrial_22 ⟨(cb_X2_renew).1, (cb_X2_renew).2, (Nat.le_of_ble_eq_true rfl), (Nat.le_of_ble_eq_true rfl)⟩ ml_X2_43 ci_X2_renew cv_X2_renew rfl (Nat.le_of_ble_eq_true rfl) (Nat.le_of_ble_eq_true rfl) rfl h (fun S4 h2 => ?_)
  replace h := h2
  clear h2
  exact zG.ret (pc := 25) (r := none) ⟨dX2_startTrial_25, rfl⟩ h
set_option maxRecDepth 100000 in
set_option maxHeartbeats 4000000 in
theorem w_X2_awaitFetches_0 (o : zW) (n : Nat) (i : Nat) (hi : i < 8) (hn : z_sb i + 120 ≤ n) (S : zS) (Q : Option Value → zS → Prop) (h : zG o n mdX2_awaitFetches 2 [(0, .ref (z_adr o (1, i, 0))), (1, .int 0)] [] S Q) : zG o n mdX2_awaitFetches 0 [(0, .ref (z_adr o (1, i, 0)))] [] S Q := by
  show zJ o mdX2_awaitFetches 0 _ [] (n, z_enc o S) 0 0 _
  refine zJ.iconst (pc := 0) (v := 0) dX2_awaitFetches_0 (by decide) ?_
  refine zJ.istore_n (pc := 1) (lv' := [(1, .int 0), (0, .ref (z_adr o (1, i, 0)))]) dX2_awaitFetches_1 rfl (Nat.le_of_ble_eq_true rfl) rfl ?_
  exact zJ.sub [1, 0] rfl h
set_option maxRecDepth 100000 in
set_option maxHeartbeats 4000000 in
theorem w_X2_awaitFetches_2 (o : zW) (n : Nat) (i : Nat) (hi : i < 8) (hn : z_sb i + 120 ≤ n) (x1 : Int32) (S : zS) (Q : Option Value → zS → Prop) (h : (1000 ≤ x1 → (Q none S)) ∧ (¬ 1000 ≤ x1 → (((S.1 (1, i, 0) 5) ≤ 0 → (Q none S)) ∧ (¬ (S.1 (1, i, 0) 5) ≤ 0 → (zGv o n mdX2_pass [.ref (z_adr o (1, i, 0))] S (fun S5 => zG o n mdX2_awaitFetches 2 [(0, .ref (z_adr o (1, i, 0))), (1, .int (x1 + 1))] [] S5 Q)))))) : zG o n mdX2_awaitFetches 2 [(0, .ref (z_adr o (1, i, 0))), (1, .int x1)] [] S Q := by
  show zJ o mdX2_awaitFetches 2 _ [] (n, z_enc o S) 0 0 _
  refine zJ.iload_n (pc := 2) 1 dX2_awaitFetches_2 rfl rfl ?_
  refine zJ.sipush (pc := 3) (v := 1000) dX2_awaitFetches_3 (by decide) ?_
  refine zJ.icmp_ge (pc := 6) (tgt := 26) dX2_awaitFetches_6 (by decide) (fun c1 => ?_) (fun c1 => ?_)
  · replace h := h.1 c1
    exact zG.ret (pc := 26) (r := none) ⟨dX2_awaitFetches_26, rfl⟩ h
  · replace h := h.2 c1
    refine zJ.aload_n (pc := 9) 0 dX2_awaitFetches_9 rfl rfl ?_
    refine zE.getI (pc := 10) (fd_1_5 o i) (ok_1 hi hn) kiX2 (Nat.le_of_ble_eq_true rfl) fl_X2_52 dX2_awaitFetches_10 ?_
    refine zJ.if_le (pc := 13) (tgt := 26) dX2_awaitFetches_13 (by decide) (fun c2 => ?_) (fun c2 => ?_)
    · replace h := h.1 c2
      exact zG.ret (pc := 26) (r := none) ⟨dX2_awaitFetches_26, rfl⟩ h
    · replace h := h.2 c2
      refine zJ.aload_n (pc := 16) 0 dX2_awaitFetches_16 rfl rfl ?_
      refine zG.callVv (d := mdX2_awaitFetches) (pc := 17) [] [] (ob_1 o i) (ok_1 hi hn) rfl dX2_awaitFetches_17 ⟨(cb_X2_pass).1, (cb_X2_pass).2, (Nat.le_of_ble_eq_true rfl), (Nat.le_of_ble_eq_true rfl)⟩ ml_X2_73 ci_X2_pass cv_X2_pass rfl (Nat.le_of_ble_eq_true rfl) (Nat.le_of_ble_eq_true rfl) rfl h (fun S5 h2 => ?_)
      replace h := h2
      clear h2
      refine zJ.iinc (pc := 20) (k := 1) (lv' := [(1, .int (x1 + 1)), (0, .ref (z_adr o (1, i, 0)))]) dX2_awaitFetches_20 rfl rfl (Nat.le_of_ble_eq_true rfl) rfl ?_
      refine zJ.goto (pc := 23) (tgt := 2) dX2_awaitFetches_23 (by decide) ?_
      exact zJ.sub [1, 0] rfl h
set_option maxRecDepth 100000 in
set_option maxHeartbeats 4000000 in
theorem w_X2_tally_0 (o : zW) (n : Nat) (i : Nat) (hi : i < 8) (hn : z_sb i + 120 ≤ n) (x1 : Int32) (x2 : UInt32) (S : zS) (Q : Option Value → zS → Prop) (h : (x1 < 0 → (vf_n32 (FP.fadd (S.2.2 (1, i, 0) 4) x2) ∧ (Q none (sF S (1, i, 0) 4 (FP.fadd (S.2.2 (1, i, 0) 4) x2))))) ∧ (¬ x1 < 0 → ((10 ≤ x1 → (vf_n32 (FP.fadd (S.2.2 (1, i, 0) 4) x2) ∧ (Q none (sF S (1, i, 0) 4 (FP.fadd (S.2.2 (1, i, 0) 4) x2))))) ∧ (¬ 10 ≤ x1 → (vp_in x1 10 ∧ (vp_in x1 10 ∧ (∀ S3 : zS, S3 = (sI S (3, i, 0) (x1.toNatClampNeg) ((S.1 (3, i, 0) x1.toNatClampNeg) + 1)) → (vf_n32 (FP.fadd (S3.2.2 (1, i, 0) 4) x2) ∧ (Q none (sF S3 (1, i, 0) 4 (FP.fadd (S3.2.2 (1, i, 0) 4) x2))))))))))) : zG o n mdX2_tally 0 [(0, .ref (z_adr o (1, i, 0))), (1, .int x1), (2, .float x2)] [] S Q := by
  show zJ o mdX2_tally 0 _ [] (n, z_enc o S) 0 0 _
  refine zJ.iload_n (pc := 0) 1 dX2_tally_0 rfl rfl ?_
  refine zJ.if_lt (pc := 1) (tgt := 20) dX2_tally_1 (by decide) (fun c1 => ?_) (fun c1 => ?_)
  · replace h := h.1 c1
    refine zJ.aload_n (pc := 20) 0 dX2_tally_20 rfl rfl ?_
    refine zJ.dup (pc := 21) dX2_tally_21 rfl ?_
    refine zE.getF (pc := 22) (fd_1_4 o i) (ok_1 hi hn) kiX2 (Nat.le_of_ble_eq_true rfl) fl_X2_48 dX2_tally_22 ?_
    refine zJ.fload_n (pc := 25) 2 dX2_tally_25 rfl rfl ?_
    obtain ⟨hq, h⟩ := h
    refine zJ.fadd (pc := 26) dX2_tally_26 hq ?_
    refine zE.putF (pc := 27) (fd_1_4 o i) (ok_1 hi hn) kiX2 (Nat.le_of_ble_eq_true rfl) fl_X2_48 rfl rfl dX2_tally_27 ?_
    exact zG.ret (pc := 30) (r := none) ⟨dX2_tally_30, rfl⟩ h
  · replace h := h.2 c1
    refine zJ.iload_n (pc := 4) 1 dX2_tally_4 rfl rfl ?_
    refine zJ.bipush (pc := 5) (v := 10) dX2_tally_5 (by decide) ?_
    refine zJ.icmp_ge (pc := 7) (tgt := 20) dX2_tally_7 (by decide) (fun c2 => ?_) (fun c2 => ?_)
    · replace h := h.1 c2
      refine zJ.aload_n (pc := 20) 0 dX2_tally_20 rfl rfl ?_
      refine zJ.dup (pc := 21) dX2_tally_21 rfl ?_
      refine zE.getF (pc := 22) (fd_1_4 o i) (ok_1 hi hn) kiX2 (Nat.le_of_ble_eq_true rfl) fl_X2_48 dX2_tally_22 ?_
      refine zJ.fload_n (pc := 25) 2 dX2_tally_25 rfl rfl ?_
      obtain ⟨hq, h⟩ := h
      refine zJ.fadd (pc := 26) dX2_tally_26 hq ?_
      refine zE.putF (pc := 27) (fd_1_4 o i) (ok_1 hi hn) kiX2 (Nat.le_of_ble_eq_true rfl) fl_X2_48 rfl rfl dX2_tally_27 ?_
      exact zG.ret (pc := 30) (r := none) ⟨dX2_tally_30, rfl⟩ h
    · replace h := h.2 c2
      refine zJ.aload_n (pc := 10) 0 dX2_tally_10 rfl rfl ?_
      refine zE.getV (pc := 11) (fd_1_1 o i) (ok_1 hi hn) kiX2 (Nat.le_of_ble_eq_true rfl) fl_X2_24 dX2_tally_11 ?_
      refine zJ.iload_n (pc := 14) 1 dX2_tally_14 rfl rfl ?_
      refine zJ.dup2_11 (pc := 15) dX2_tally_15 rfl rfl ?_
      obtain ⟨hq, h⟩ := h
      refine zE.aldI (pc := 16) (ia_3 o i) (ok_3 hi hn) hq dX2_tally_16 ?_
      refine zJ.iconst (pc := 17) (v := 1) dX2_tally_17 (by decide) ?_
      refine zJ.iadd (pc := 18) dX2_tally_18 ?_
      obtain ⟨hq, h⟩ := h
      refine zE.astI (pc := 19) (ia_3 o i) (ok_3 hi hn) hq dX2_tally_19 ?_
      refine zJ.nameS (fun S3 hyS3 => ?_)
      replace h := h S3 hyS3
      refine zJ.aload_n (pc := 20) 0 dX2_tally_20 rfl rfl ?_
      refine zJ.dup (pc := 21) dX2_tally_21 rfl ?_
      refine zE.getF (pc := 22) (fd_1_4 o i) (ok_1 hi hn) kiX2 (Nat.le_of_ble_eq_true rfl) fl_X2_48 dX2_tally_22 ?_
      refine zJ.fload_n (pc := 25) 2 dX2_tally_25 rfl rfl ?_
      obtain ⟨hq, h⟩ := h
      refine zJ.fadd (pc := 26) dX2_tally_26 hq ?_
      refine zE.putF (pc := 27) (fd_1_4 o i) (ok_1 hi hn) kiX2 (Nat.le_of_ble_eq_true rfl) fl_X2_48 rfl rfl dX2_tally_27 ?_
      exact zG.ret (pc := 30) (r := none) ⟨dX2_tally_30, rfl⟩ h
set_option maxRecDepth 100000 in
set_option maxHeartbeats 4000000 in
theorem w_X2_pass_0 (o : zW) (n : Nat) (i : Nat) (hi : i < 8) (hn : z_sb i + 120 ≤ n) (S : zS) (Q : Option Value → zS → Prop) (h : (((sI S (3, i, 0) 9 ((S.1 (3, i, 0) 9) + 1)).1 (1, i, 0) 8) ≤ ((sI S (3, i, 0) 9 ((S.1 (3, i, 0) 9) + 1)).1 (3, i, 0) 9) → (zG o n mdX2_pass 39 [(0, .ref (z_adr o (1, i, 0))), (1, .int ((sI S (3, i, 0) 9 ((S.1 (3, i, 0) 9) + 1)).1 (3, i, 0) 9)), (2, .ref (z_adr o (4, i, 0))), (3, .int 16), (4, .int 0)] [] (sI S (3, i, 0) 9 ((S.1 (3, i, 0) 9) + 1)) Q)) ∧ (¬ ((sI S (3, i, 0) 9 ((S.1 (3, i, 0) 9) + 1)).1 (1, i, 0) 8) ≤ ((sI S (3, i, 0) 9 ((S.1 (3, i, 0) 9) + 1)).1 (3, i, 0) 9) → (Q none (sI S (3, i, 0) 9 ((S.1 (3, i, 0) 9) + 1))))) : zG o n mdX2_pass 0 [(0, .ref (z_adr o (1, i, 0)))] [] S Q := by
  show zJ o mdX2_pass 0 _ [] (n, z_enc o S) 0 0 _
  refine zJ.aload_n (pc := 0) 0 dX2_pass_0 rfl rfl ?_
  refine zE.getV (pc := 1) (fd_1_1 o i) (ok_1 hi hn) kiX2 (Nat.le_of_ble_eq_true rfl) fl_X2_24 dX2_pass_1 ?_
  refine zJ.bipush (pc := 4) (v := 9) dX2_pass_4 (by decide) ?_
  refine zJ.dup2_11 (pc := 6) dX2_pass_6 rfl rfl ?_
  refine zE.aldI (pc := 7) (ia_3 o i) (ok_3 hi hn) (by unfold vp_in; decide) dX2_pass_7 ?_
  refine zJ.iconst (pc := 8) (v := 1) dX2_pass_8 (by decide) ?_
  refine zJ.iadd (pc := 9) dX2_pass_9 ?_
  refine zE.astI (pc := 10) (ia_3 o i) (ok_3 hi hn) (by unfold vp_in; decide) dX2_pass_10 ?_
  refine zJ.aload_n (pc := 11) 0 dX2_pass_11 rfl rfl ?_
  refine zE.getV (pc := 12) (fd_1_1 o i) (ok_1 hi hn) kiX2 (Nat.le_of_ble_eq_true rfl) fl_X2_24 dX2_pass_12 ?_
  refine zJ.bipush (pc := 15) (v := 9) dX2_pass_15 (by decide) ?_
  refine zE.aldI (pc := 17) (ia_3 o i) (ok_3 hi hn) (by unfold vp_in; decide) dX2_pass_17 ?_
  refine zJ.istore_n (pc := 18) (lv' := [(1, .int ((sI S (3, i, 0) 9 ((S.1 (3, i, 0) 9) + 1)).1 (3, i, 0) 9)), (0, .ref (z_adr o (1, i, 0)))]) dX2_pass_18 rfl (Nat.le_of_ble_eq_true rfl) rfl ?_
  refine zJ.iload_n (pc := 19) 0 dX2_pass_19 rfl rfl ?_
  refine zJ.aload_n (pc := 20) 1 dX2_pass_20 rfl rfl ?_
  refine zE.getI (pc := 21) (fd_1_8 o i) (ok_1 hi hn) kiX2 (Nat.le_of_ble_eq_true rfl) fl_X2_63 dX2_pass_21 ?_
  refine zJ.icmp_ge (pc := 24) (tgt := 28) dX2_pass_24 (by decide) (fun c1 => ?_) (fun c1 => ?_)
  · replace h := h.1 c1
    refine zJ.aload_n (pc := 28) 1 dX2_pass_28 rfl rfl ?_
    refine zE.getV (pc := 29) (fd_1_2 o i) (ok_1 hi hn) kiX2 (Nat.le_of_ble_eq_true rfl) fl_X2_29 dX2_pass_29 ?_
    refine zJ.astore_n (pc := 32) (lv' := [(2, .ref (z_adr o (4, i, 0))), (1, .int ((sI S (3, i, 0) 9 ((S.1 (3, i, 0) 9) + 1)).1 (3, i, 0) 9)), (0, .ref (z_adr o (1, i, 0)))]) dX2_pass_32 rfl (Nat.le_of_ble_eq_true rfl) rfl ?_
    refine zJ.aload_n (pc := 33) 0 dX2_pass_33 rfl rfl ?_
    refine zE.lenB (pc := 34) (v := 16) (ok_4 hi hn) (by decide) dX2_pass_34 ?_
    refine zJ.istore_n (pc := 35) (lv' := [(3, .int 16), (2, .ref (z_adr o (4, i, 0))), (1, .int ((sI S (3, i, 0) 9 ((S.1 (3, i, 0) 9) + 1)).1 (3, i, 0) 9)), (0, .ref (z_adr o (1, i, 0)))]) dX2_pass_35 rfl (Nat.le_of_ble_eq_true rfl) rfl ?_
    refine zJ.iconst (pc := 36) (v := 0) dX2_pass_36 (by decide) ?_
    refine zJ.istore (pc := 37) (lv' := [(4, .int 0), (3, .int 16), (2, .ref (z_adr o (4, i, 0))), (1, .int ((sI S (3, i, 0) 9 ((S.1 (3, i, 0) 9) + 1)).1 (3, i, 0) 9)), (0, .ref (z_adr o (1, i, 0)))]) dX2_pass_37 (Nat.le_of_ble_eq_true rfl) rfl ?_
    exact zJ.sub [4, 3, 2, 1, 0] rfl h
  · replace h := h.2 c1
    exact zG.ret (pc := 27) (r := none) ⟨dX2_pass_27, rfl⟩ h
set_option maxRecDepth 100000 in
set_option maxHeartbeats 4000000 in
theorem w_X2_pass_39 (o : zW) (n : Nat) (i : Nat) (hi : i < 8) (hn : z_sb i + 120 ≤ n) (x1 : Int32) (x3 : Int32) (x4 : Int32) (S : zS) (Q : Option Value → zS → Prop) (h : (x3 ≤ x4 → (zG o n mdX2_pass 109 [(0, .ref (z_adr o (1, i, 0))), (1, .int x1), (2, .ref (z_adr o (4, i, 0))), (3, .int 16), (4, .int 0)] [] S Q)) ∧ (¬ x3 ≤ x4 → (vp_in x4 16 ∧ ((¬ (S.1 (5, i, x4.toNatClampNeg) 8) = 2 → (zG o n mdX2_pass 39 [(0, .ref (z_adr o (1, i, 0))), (1, .int x1), (2, .ref (z_adr o (4, i, 0))), (3, .int x3), (4, .int (x4 + 1))] [] S Q)) ∧ ((S.1 (5, i, x4.toNatClampNeg) 8) = 2 → ((x1 < (S.1 (5, i, x4.toNatClampNeg) 10) → (zG o n mdX2_pass 39 [(0, .ref (z_adr o (1, i, 0))), (1, .int x1), (2, .ref (z_adr o (4, i, 0))), (3, .int x3), (4, .int (x4 + 1))] [] S Q)) ∧ (¬ x1 < (S.1 (5, i, x4.toNatClampNeg) 10) → (zGv o n mdX0_goFar [.ref (z_adr o (5, i, x4.toNatClampNeg))] (sI S (1, i, 0) 6 ((S.1 (1, i, 0) 6) - 1)) (fun S7 => zGv o n mdX2_tally [.ref (z_adr o (1, i, 0)), .int 6, .float (1079194419 : UInt32)] S7 (fun S10 => zG o n mdX2_pass 39 [(0, .ref (z_adr o (1, i, 0))), (1, .int x1), (2, .ref (z_adr o (4, i, 0))), (3, .int x3), (4, .int (x4 + 1))] [] S10 Q)))))))))) : zG o n mdX2_pass 39 [(0, .ref (z_adr o (1, i, 0))), (1, .int x1), (2, .ref (z_adr o (4, i, 0))), (3, .int x3), (4, .int x4)] [] S Q := by
  show zJ o mdX2_pass 39 _ [] (n, z_enc o S) 0 0 _
  refine zJ.iload (pc := 39) 4 dX2_pass_39 rfl ?_
  refine zJ.iload_n (pc := 41) 3 dX2_pass_41 rfl rfl ?_
  refine zJ.icmp_ge (pc := 42) (tgt := 98) dX2_pass_42 (by decide) (fun c1 => ?_) (fun c1 => ?_)
  · replace h := h.1 c1
    refine zJ.aload_n (pc := 98) 0 dX2_pass_98 rfl rfl ?_
    refine zE.getV (pc := 99) (fd_1_2 o i) (ok_1 hi hn) kiX2 (Nat.le_of_ble_eq_true rfl) fl_X2_29 dX2_pass_99 ?_
    refine zJ.astore_n (pc := 102) (lv' := [(2, .ref (z_adr o (4, i, 0))), (0, .ref (z_adr o (1, i, 0))), (1, .int x1), (3, .int x3), (4, .int x4)]) dX2_pass_102 rfl (Nat.le_of_ble_eq_true rfl) rfl ?_
    refine zJ.aload_n (pc := 103) 0 dX2_pass_103 rfl rfl ?_
    refine zE.lenB (pc := 104) (v := 16) (ok_4 hi hn) (by decide) dX2_pass_104 ?_
    refine zJ.istore_n (pc := 105) (lv' := [(3, .int 16), (2, .ref (z_adr o (4, i, 0))), (0, .ref (z_adr o (1, i, 0))), (1, .int x1), (4, .int x4)]) dX2_pass_105 rfl (Nat.le_of_ble_eq_true rfl) rfl ?_
    refine zJ.iconst (pc := 106) (v := 0) dX2_pass_106 (by decide) ?_
    refine zJ.istore (pc := 107) (lv' := [(4, .int 0), (3, .int 16), (2, .ref (z_adr o (4, i, 0))), (0, .ref (z_adr o (1, i, 0))), (1, .int x1)]) dX2_pass_107 (Nat.le_of_ble_eq_true rfl) rfl ?_
    exact zJ.sub [3, 4, 2, 1, 0] rfl h
  · replace h := h.2 c1
    refine zJ.aload_n (pc := 45) 2 dX2_pass_45 rfl rfl ?_
    refine zJ.iload (pc := 46) 4 dX2_pass_46 rfl ?_
    obtain ⟨hq2, h⟩ := h
    refine zE.aldB (pc := 48) (ok_4 hi hn) hq2 dX2_pass_48 ?_
    refine zJ.astore (pc := 49) (lv' := [(5, .ref (z_adr o (5, i, x4.toNatClampNeg))), (0, .ref (z_adr o (1, i, 0))), (1, .int x1), (2, .ref (z_adr o (4, i, 0))), (3, .int x3), (4, .int x4)]) dX2_pass_49 (Nat.le_of_ble_eq_true rfl) rfl ?_
    refine zJ.aload (pc := 51) 0 dX2_pass_51 rfl ?_
    refine zE.getI (pc := 53) (fd_5_8 o i x4.toNatClampNeg) (ok_5 hi (z_vlt hq2) hn) kiX0 (Nat.le_of_ble_eq_true rfl) fl_X2_110 dX2_pass_53 ?_
    refine zJ.iconst (pc := 56) (v := 2) dX2_pass_56 (by decide) ?_
    refine zJ.icmp_ne (pc := 57) (tgt := 92) dX2_pass_57 (by decide) (fun c3 => ?_) (fun c3 => ?_)
    · replace h := h.1 c3
      refine zJ.iinc (pc := 92) (k := 5) (lv' := [(4, .int (x4 + 1)), (5, .ref (z_adr o (5, i, x4.toNatClampNeg))), (0, .ref (z_adr o (1, i, 0))), (1, .int x1), (2, .ref (z_adr o (4, i, 0))), (3, .int x3)]) dX2_pass_92 rfl rfl (Nat.le_of_ble_eq_true rfl) rfl ?_
      refine zJ.goto (pc := 95) (tgt := 39) dX2_pass_95 (by decide) ?_
      exact zJ.sub [2, 3, 4, 5, 0] rfl h
    · replace h := h.2 c3
      refine zJ.aload (pc := 60) 0 dX2_pass_60 rfl ?_
      refine zE.getI (pc := 62) (fd_5_10 o i x4.toNatClampNeg) (ok_5 hi (z_vlt hq2) hn) kiX0 (Nat.le_of_ble_eq_true rfl) fl_X2_113 dX2_pass_62 ?_
      refine zJ.iload_n (pc := 65) 2 dX2_pass_65 rfl rfl ?_
      refine zJ.icmp_gt (pc := 66) (tgt := 92) dX2_pass_66 (by decide) (fun c4 => ?_) (fun c4 => ?_)
      · replace h := h.1 c4
        refine zJ.iinc (pc := 92) (k := 5) (lv' := [(4, .int (x4 + 1)), (5, .ref (z_adr o (5, i, x4.toNatClampNeg))), (0, .ref (z_adr o (1, i, 0))), (1, .int x1), (2, .ref (z_adr o (4, i, 0))), (3, .int x3)]) dX2_pass_92 rfl rfl (Nat.le_of_ble_eq_true rfl) rfl ?_
        refine zJ.goto (pc := 95) (tgt := 39) dX2_pass_95 (by decide) ?_
        exact zJ.sub [2, 3, 4, 5, 0] rfl h
      · replace h := h.2 c4
        refine zJ.aload_n (pc := 69) 1 dX2_pass_69 rfl rfl ?_
        refine zJ.dup (pc := 70) dX2_pass_70 rfl ?_
        refine zE.getI (pc := 71) (fd_1_6 o i) (ok_1 hi hn) kiX2 (Nat.le_of_ble_eq_true rfl) fl_X2_56 dX2_pass_71 ?_
        refine zJ.iconst (pc := 74) (v := 1) dX2_pass_74 (by decide) ?_
        refine zJ.isub (pc := 75) dX2_pass_75 ?_
        refine zE.putI (pc := 76) (fd_1_6 o i) (ok_1 hi hn) kiX2 (Nat.le_of_ble_eq_true rfl) fl_X2_56 rfl rfl dX2_pass_76 ?_
        refine zJ.aload (pc := 79) 0 dX2_pass_79 rfl ?_
        refine zG.callVv (d := mdX2_pass) (pc := 81) [] [] (ob_5 o i x4.toNatClampNeg) (ok_5 hi (z_vlt hq2) hn) rfl dX2_pass_81 ⟨(cb_X0_goFar).1, (cb_X0_goFar).2, (Nat.le_of_ble_eq_true rfl), (Nat.le_of_ble_eq_true rfl)⟩ ml_X2_116 ci_X0_goFar cv_X0_goFar rfl (Nat.le_of_ble_eq_true rfl) (Nat.le_of_ble_eq_true rfl) rfl h (fun S7 h2 => ?_)
        replace h := h2
        clear h2
        refine zJ.aload_n (pc := 84) 1 dX2_pass_84 rfl rfl ?_
        refine zJ.bipush (pc := 85) (v := 6) dX2_pass_85 (by decide) ?_
        refine zJ.ldcf (pc := 87) lc_X2_119 dX2_pass_87 ?_
        refine zG.callVv (d := mdX2_pass) (pc := 89) [.int 6, .float (1079194419 : UInt32)] [] (ob_1 o i) (ok_1 hi hn) rfl dX2_pass_89 ⟨(cb_X2_tally).1, (cb_X2_tally).2, (Nat.le_of_ble_eq_true rfl), (Nat.le_of_ble_eq_true rfl)⟩ ml_X2_81 ci_X2_tally cv_X2_tally rfl (Nat.le_of_ble_eq_true rfl) (Nat.le_of_ble_eq_true rfl) rfl h (fun S10 h2 => ?_)
        replace h := h2
        clear h2
        refine zJ.iinc (pc := 92) (k := 5) (lv' := [(4, .int (x4 + 1)), (5, .ref (z_adr o (5, i, x4.toNatClampNeg))), (0, .ref (z_adr o (1, i, 0))), (1, .int x1), (2, .ref (z_adr o (4, i, 0))), (3, .int x3)]) dX2_pass_92 rfl rfl (Nat.le_of_ble_eq_true rfl) rfl ?_
        refine zJ.goto (pc := 95) (tgt := 39) dX2_pass_95 (by decide) ?_
        exact zJ.sub [2, 3, 4, 5, 0] rfl h
set_option maxRecDepth 100000 in
set_option maxHeartbeats 4000000 in
theorem w_X2_pass_109 (o : zW) (n : Nat) (i : Nat) (hi : i < 8) (hn : z_sb i + 120 ≤ n) (x1 : Int32) (x3 : Int32) (x4 : Int32) (S : zS) (Q : Option Value → zS → Prop) (h : (x3 ≤ x4 → (zG o n mdX2_pass 168 [(0, .ref (z_adr o (1, i, 0))), (2, .ref (z_adr o (4, i, 0))), (3, .int 16), (4, .int 0)] [] (sI S (1, i, 0) 8 (2000000000 : Int32)) Q)) ∧ (¬ x3 ≤ x4 → (vp_in x4 16 ∧ ((¬ (S.1 (5, i, x4.toNatClampNeg) 8) = 3 → (zG o n mdX2_pass 109 [(0, .ref (z_adr o (1, i, 0))), (1, .int x1), (2, .ref (z_adr o (4, i, 0))), (3, .int x3), (4, .int (x4 + 1))] [] S Q)) ∧ ((S.1 (5, i, x4.toNatClampNeg) 8) = 3 → ((x1 < (S.1 (5, i, x4.toNatClampNeg) 10) → (zG o n mdX2_pass 109 [(0, .ref (z_adr o (1, i, 0))), (1, .int x1), (2, .ref (z_adr o (4, i, 0))), (3, .int x3), (4, .int (x4 + 1))] [] S Q)) ∧ (¬ x1 < (S.1 (5, i, x4.toNatClampNeg) 10) → (zGv o n mdX2_come [.ref (z_adr o (1, i, 0)), .ref (z_adr o (5, i, x4.toNatClampNeg))] S (fun S7 => zG o n mdX2_pass 109 [(0, .ref (z_adr o (1, i, 0))), (1, .int x1), (2, .ref (z_adr o (4, i, 0))), (3, .int x3), (4, .int (x4 + 1))] [] S7 Q))))))))) : zG o n mdX2_pass 109 [(0, .ref (z_adr o (1, i, 0))), (1, .int x1), (2, .ref (z_adr o (4, i, 0))), (3, .int x3), (4, .int x4)] [] S Q := by
  show zJ o mdX2_pass 109 _ [] (n, z_enc o S) 0 0 _
  refine zJ.iload (pc := 109) 4 dX2_pass_109 rfl ?_
  refine zJ.iload_n (pc := 111) 3 dX2_pass_111 rfl rfl ?_
  refine zJ.icmp_ge (pc := 112) (tgt := 151) dX2_pass_112 (by decide) (fun c1 => ?_) (fun c1 => ?_)
  · replace h := h.1 c1
    refine zJ.aload_n (pc := 151) 0 dX2_pass_151 rfl rfl ?_
    refine zJ.ldc (pc := 152) lc_X2_62 dX2_pass_152 ?_
    refine zE.putI (pc := 154) (fd_1_8 o i) (ok_1 hi hn) kiX2 (Nat.le_of_ble_eq_true rfl) fl_X2_63 rfl rfl dX2_pass_154 ?_
    refine zJ.aload_n (pc := 157) 0 dX2_pass_157 rfl rfl ?_
    refine zE.getV (pc := 158) (fd_1_2 o i) (ok_1 hi hn) kiX2 (Nat.le_of_ble_eq_true rfl) fl_X2_29 dX2_pass_158 ?_
    refine zJ.astore_n (pc := 161) (lv' := [(2, .ref (z_adr o (4, i, 0))), (0, .ref (z_adr o (1, i, 0))), (1, .int x1), (3, .int x3), (4, .int x4)]) dX2_pass_161 rfl (Nat.le_of_ble_eq_true rfl) rfl ?_
    refine zJ.aload_n (pc := 162) 0 dX2_pass_162 rfl rfl ?_
    refine zE.lenB (pc := 163) (v := 16) (ok_4 hi hn) (by decide) dX2_pass_163 ?_
    refine zJ.istore_n (pc := 164) (lv' := [(3, .int 16), (2, .ref (z_adr o (4, i, 0))), (0, .ref (z_adr o (1, i, 0))), (1, .int x1), (4, .int x4)]) dX2_pass_164 rfl (Nat.le_of_ble_eq_true rfl) rfl ?_
    refine zJ.iconst (pc := 165) (v := 0) dX2_pass_165 (by decide) ?_
    refine zJ.istore (pc := 166) (lv' := [(4, .int 0), (3, .int 16), (2, .ref (z_adr o (4, i, 0))), (0, .ref (z_adr o (1, i, 0))), (1, .int x1)]) dX2_pass_166 (Nat.le_of_ble_eq_true rfl) rfl ?_
    exact zJ.sub [3, 2, 1, 0] rfl h
  · replace h := h.2 c1
    refine zJ.aload_n (pc := 115) 2 dX2_pass_115 rfl rfl ?_
    refine zJ.iload (pc := 116) 4 dX2_pass_116 rfl ?_
    obtain ⟨hq2, h⟩ := h
    refine zE.aldB (pc := 118) (ok_4 hi hn) hq2 dX2_pass_118 ?_
    refine zJ.astore (pc := 119) (lv' := [(5, .ref (z_adr o (5, i, x4.toNatClampNeg))), (0, .ref (z_adr o (1, i, 0))), (1, .int x1), (2, .ref (z_adr o (4, i, 0))), (3, .int x3), (4, .int x4)]) dX2_pass_119 (Nat.le_of_ble_eq_true rfl) rfl ?_
    refine zJ.aload (pc := 121) 0 dX2_pass_121 rfl ?_
    refine zE.getI (pc := 123) (fd_5_8 o i x4.toNatClampNeg) (ok_5 hi (z_vlt hq2) hn) kiX0 (Nat.le_of_ble_eq_true rfl) fl_X2_110 dX2_pass_123 ?_
    refine zJ.iconst (pc := 126) (v := 3) dX2_pass_126 (by decide) ?_
    refine zJ.icmp_ne (pc := 127) (tgt := 145) dX2_pass_127 (by decide) (fun c3 => ?_) (fun c3 => ?_)
    · replace h := h.1 c3
      refine zJ.iinc (pc := 145) (k := 5) (lv' := [(4, .int (x4 + 1)), (5, .ref (z_adr o (5, i, x4.toNatClampNeg))), (0, .ref (z_adr o (1, i, 0))), (1, .int x1), (2, .ref (z_adr o (4, i, 0))), (3, .int x3)]) dX2_pass_145 rfl rfl (Nat.le_of_ble_eq_true rfl) rfl ?_
      refine zJ.goto (pc := 148) (tgt := 109) dX2_pass_148 (by decide) ?_
      exact zJ.sub [2, 3, 4, 5, 0] rfl h
    · replace h := h.2 c3
      refine zJ.aload (pc := 130) 0 dX2_pass_130 rfl ?_
      refine zE.getI (pc := 132) (fd_5_10 o i x4.toNatClampNeg) (ok_5 hi (z_vlt hq2) hn) kiX0 (Nat.le_of_ble_eq_true rfl) fl_X2_113 dX2_pass_132 ?_
      refine zJ.iload_n (pc := 135) 2 dX2_pass_135 rfl rfl ?_
      refine zJ.icmp_gt (pc := 136) (tgt := 145) dX2_pass_136 (by decide) (fun c4 => ?_) (fun c4 => ?_)
      · replace h := h.1 c4
        refine zJ.iinc (pc := 145) (k := 5) (lv' := [(4, .int (x4 + 1)), (5, .ref (z_adr o (5, i, x4.toNatClampNeg))), (0, .ref (z_adr o (1, i, 0))), (1, .int x1), (2, .ref (z_adr o (4, i, 0))), (3, .int x3)]) dX2_pass_145 rfl rfl (Nat.le_of_ble_eq_true rfl) rfl ?_
        refine zJ.goto (pc := 148) (tgt := 109) dX2_pass_148 (by decide) ?_
        exact zJ.sub [2, 3, 4, 5, 0] rfl h
      · replace h := h.2 c4
        refine zJ.aload_n (pc := 139) 1 dX2_pass_139 rfl rfl ?_
        refine zJ.aload (pc := 140) 0 dX2_pass_140 rfl ?_
        refine zG.callVv (d := mdX2_pass) (pc := 142) [.ref (z_adr o (5, i, x4.toNatClampNeg))] [] (ob_1 o i) (ok_1 hi hn) rfl dX2_pass_142 ⟨(cb_X2_come).1, (cb_X2_come).2, (Nat.le_of_ble_eq_true rfl), (Nat.le_of_ble_eq_true rfl)⟩ ml_X2_120 ci_X2_come cv_X2_come rfl (Nat.le_of_ble_eq_true rfl) (Nat.le_of_ble_eq_true rfl) rfl h (fun S7 h2 => ?_)
        replace h := h2
        clear h2
        refine zJ.iinc (pc := 145) (k := 5) (lv' := [(4, .int (x4 + 1)), (5, .ref (z_adr o (5, i, x4.toNatClampNeg))), (0, .ref (z_adr o (1, i, 0))), (1, .int x1), (2, .ref (z_adr o (4, i, 0))), (3, .int x3)]) dX2_pass_145 rfl rfl (Nat.le_of_ble_eq_true rfl) rfl ?_
        refine zJ.goto (pc := 148) (tgt := 109) dX2_pass_148 (by decide) ?_
        exact zJ.sub [2, 3, 4, 5, 0] rfl h
set_option maxRecDepth 100000 in
set_option maxHeartbeats 4000000 in
theorem w_X2_pass_168 (o : zW) (n : Nat) (i : Nat) (hi : i < 8) (hn : z_sb i + 120 ≤ n) (x3 : Int32) (x4 : Int32) (S : zS) (Q : Option Value → zS → Prop) (h : (x3 ≤ x4 → (Q none S)) ∧ (¬ x3 ≤ x4 → (vp_in x4 16 ∧ (∀ y4 : Int32, y4 = (if (S.1 (5, i, x4.toNatClampNeg) 10) < (S.1 (1, i, 0) 8) then (S.1 (5, i, x4.toNatClampNeg) 10) else (S.1 (1, i, 0) 8)) → (zG o n mdX2_pass 168 [(0, .ref (z_adr o (1, i, 0))), (2, .ref (z_adr o (4, i, 0))), (3, .int x3), (4, .int (x4 + 1))] [] (sI S (1, i, 0) 8 y4) Q))))) : zG o n mdX2_pass 168 [(0, .ref (z_adr o (1, i, 0))), (2, .ref (z_adr o (4, i, 0))), (3, .int x3), (4, .int x4)] [] S Q := by
  show zJ o mdX2_pass 168 _ [] (n, z_enc o S) 0 0 _
  refine zJ.iload (pc := 168) 3 dX2_pass_168 rfl ?_
  refine zJ.iload_n (pc := 170) 2 dX2_pass_170 rfl rfl ?_
  refine zJ.icmp_ge (pc := 171) (tgt := 202) dX2_pass_171 (by decide) (fun c1 => ?_) (fun c1 => ?_)
  · replace h := h.1 c1
    exact zG.ret (pc := 202) (r := none) ⟨dX2_pass_202, rfl⟩ h
  · replace h := h.2 c1
    refine zJ.aload_n (pc := 174) 1 dX2_pass_174 rfl rfl ?_
    refine zJ.iload (pc := 175) 3 dX2_pass_175 rfl ?_
    obtain ⟨hq2, h⟩ := h
    refine zE.aldB (pc := 177) (ok_4 hi hn) hq2 dX2_pass_177 ?_
    refine zJ.astore (pc := 178) (lv' := [(5, .ref (z_adr o (5, i, x4.toNatClampNeg))), (0, .ref (z_adr o (1, i, 0))), (2, .ref (z_adr o (4, i, 0))), (3, .int x3), (4, .int x4)]) dX2_pass_178 (Nat.le_of_ble_eq_true rfl) rfl ?_
    refine zJ.aload_n (pc := 180) 1 dX2_pass_180 rfl rfl ?_
    refine zJ.aload_n (pc := 181) 1 dX2_pass_181 rfl rfl ?_
    refine zE.getI (pc := 182) (fd_1_8 o i) (ok_1 hi hn) kiX2 (Nat.le_of_ble_eq_true rfl) fl_X2_63 dX2_pass_182 ?_
    refine zJ.aload (pc := 185) 0 dX2_pass_185 rfl ?_
    refine zE.getI (pc := 187) (fd_5_10 o i x4.toNatClampNeg) (ok_5 hi (z_vlt hq2) hn) kiX0 (Nat.le_of_ble_eq_true rfl) fl_X2_113 dX2_pass_187 ?_
    refine zJ.mmin (pc := 190) ml_X2_123 mt_s_min mt_i mt_c_min (Nat.le_of_ble_eq_true rfl) (Nat.le_of_ble_eq_true rfl) dX2_pass_190 ?_
    refine zJ.topi (fun y4 hyy4 => ?_)
    replace h := h y4 hyy4
    refine zE.putI (pc := 193) (fd_1_8 o i) (ok_1 hi hn) kiX2 (Nat.le_of_ble_eq_true rfl) fl_X2_63 rfl rfl dX2_pass_193 ?_
    refine zJ.iinc (pc := 196) (k := 4) (lv' := [(4, .int (x4 + 1)), (5, .ref (z_adr o (5, i, x4.toNatClampNeg))), (0, .ref (z_adr o (1, i, 0))), (2, .ref (z_adr o (4, i, 0))), (3, .int x3)]) dX2_pass_196 rfl rfl (Nat.le_of_ble_eq_true rfl) rfl ?_
    refine zJ.goto (pc := 199) (tgt := 168) dX2_pass_199 (by decide) ?_
    exact zJ.sub [2, 3, 4, 0] rfl h
set_option maxRecDepth 100000 in
set_option maxHeartbeats 4000000 in
theorem w_X2_come_0 (o : zW) (n : Nat) (i : Nat) (hi : i < 8) (hn : z_sb i + 120 ≤ n) (b : Nat) (hb : b < 16) (S : zS) (Q : Option Value → zS → Prop) (h : zGv o n mdX0_takeFromFar [.ref (z_adr o (5, i, b))] (sI S (1, i, 0) 5 ((S.1 (1, i, 0) 5) - 1)) (fun S3 => zGv o n mdX2_settle [.ref (z_adr o (1, i, 0)), .ref (z_adr o (5, i, b))] S3 (fun S6 => zG o n mdX2_come 21 [(0, .ref (z_adr o (1, i, 0))), (1, .ref (z_adr o (5, i, b))), (2, .int 0)] [] S6 Q))) : zG o n mdX2_come 0 [(0, .ref (z_adr o (1, i, 0))), (1, .ref (z_adr o (5, i, b)))] [] S Q := by
  show zJ o mdX2_come 0 _ [] (n, z_enc o S) 0 0 _
  refine zJ.aload_n (pc := 0) 0 dX2_come_0 rfl rfl ?_
  refine zJ.dup (pc := 1) dX2_come_1 rfl ?_
  refine zE.getI (pc := 2) (fd_1_5 o i) (ok_1 hi hn) kiX2 (Nat.le_of_ble_eq_true rfl) fl_X2_52 dX2_come_2 ?_
  refine zJ.iconst (pc := 5) (v := 1) dX2_come_5 (by decide) ?_
  refine zJ.isub (pc := 6) dX2_come_6 ?_
  refine zE.putI (pc := 7) (fd_1_5 o i) (ok_1 hi hn) kiX2 (Nat.le_of_ble_eq_true rfl) fl_X2_52 rfl rfl dX2_come_7 ?_
  refine zJ.aload_n (pc := 10) 1 dX2_come_10 rfl rfl ?_
  refine zG.callVv (d := mdX2_come) (pc := 11) [] [] (ob_5 o i b) (ok_5 hi hb hn) rfl dX2_come_11 ⟨(cb_X0_takeFromFar).1, (cb_X0_takeFromFar).2, (Nat.le_of_ble_eq_true rfl), (Nat.le_of_ble_eq_true rfl)⟩ ml_X2_129 ci_X0_takeFromFar cv_X0_takeFromFar rfl (Nat.le_of_ble_eq_true rfl) (Nat.le_of_ble_eq_true rfl) rfl h (fun S3 h2 => ?_)
  replace h := h2
  clear h2
  refine zJ.aload_n (pc := 14) 0 dX2_come_14 rfl rfl ?_
  refine zJ.aload_n (pc := 15) 1 dX2_come_15 rfl rfl ?_
  refine zG.callVv (d := mdX2_come) (pc := 16) [.ref (z_adr o (5, i, b))] [] (ob_1 o i) (ok_1 hi hn) rfl dX2_come_16 ⟨(cb_X2_settle).1, (cb_X2_settle).2, (Nat.le_of_ble_eq_true rfl), (Nat.le_of_ble_eq_true rfl)⟩ ml_X2_132 ci_X2_settle cv_X2_settle rfl (Nat.le_of_ble_eq_true rfl) (Nat.le_of_ble_eq_true rfl) rfl h (fun S6 h2 => ?_)
  replace h := h2
  clear h2
  refine zJ.iconst (pc := 19) (v := 0) dX2_come_19 (by decide) ?_
  refine zJ.istore_n (pc := 20) (lv' := [(2, .int 0), (0, .ref (z_adr o (1, i, 0))), (1, .ref (z_adr o (5, i, b)))]) dX2_come_20 rfl (Nat.le_of_ble_eq_true rfl) rfl ?_
  exact zJ.sub [1, 2, 0] rfl h
set_option maxRecDepth 100000 in
set_option maxHeartbeats 4000000 in
theorem w_X2_come_21 (o : zW) (n : Nat) (i : Nat) (hi : i < 8) (hn : z_sb i + 120 ≤ n) (b : Nat) (hb : b < 16) (x2 : Int32) (S : zS) (Q : Option Value → zS → Prop) (h : ((S.1 (5, i, b) 7) ≤ x2 → (Q none (sI S (5, i, b) 7 0))) ∧ (¬ (S.1 (5, i, b) 7) ≤ x2 → ((4 ≤ x2 → (Q none (sI S (5, i, b) 7 0))) ∧ (¬ 4 ≤ x2 → (vp_in x2 4 ∧ (vp_in x2 4 ∧ (vp_in x2 4 ∧ (vp_in x2 4 ∧ (zGv o n mdX2_serve [.ref (z_adr o (1, i, 0)), .ref (z_adr o (5, i, b)), .int (S.1 (8, i, b) x2.toNatClampNeg), .int (S.1 (9, i, b) x2.toNatClampNeg), .int (S.1 (10, i, b) x2.toNatClampNeg), .int (S.1 (11, i, b) x2.toNatClampNeg)] S (fun S5 => zG o n mdX2_come 21 [(0, .ref (z_adr o (1, i, 0))), (1, .ref (z_adr o (5, i, b))), (2, .int (x2 + 1))] [] S5 Q)))))))))) : zG o n mdX2_come 21 [(0, .ref (z_adr o (1, i, 0))), (1, .ref (z_adr o (5, i, b))), (2, .int x2)] [] S Q := by
  show zJ o mdX2_come 21 _ [] (n, z_enc o S) 0 0 _
  refine zJ.iload_n (pc := 21) 2 dX2_come_21 rfl rfl ?_
  refine zJ.aload_n (pc := 22) 1 dX2_come_22 rfl rfl ?_
  refine zE.getI (pc := 23) (fd_5_7 o i b) (ok_5 hi hb hn) kiX0 (Nat.le_of_ble_eq_true rfl) fl_X2_135 dX2_come_23 ?_
  refine zJ.icmp_ge (pc := 26) (tgt := 69) dX2_come_26 (by decide) (fun c1 => ?_) (fun c1 => ?_)
  · replace h := h.1 c1
    refine zJ.aload_n (pc := 69) 1 dX2_come_69 rfl rfl ?_
    refine zJ.iconst (pc := 70) (v := 0) dX2_come_70 (by decide) ?_
    refine zE.putI (pc := 71) (fd_5_7 o i b) (ok_5 hi hb hn) kiX0 (Nat.le_of_ble_eq_true rfl) fl_X2_135 rfl rfl dX2_come_71 ?_
    exact zG.ret (pc := 74) (r := none) ⟨dX2_come_74, rfl⟩ h
  · replace h := h.2 c1
    refine zJ.iload_n (pc := 29) 2 dX2_come_29 rfl rfl ?_
    refine zJ.iconst (pc := 30) (v := 4) dX2_come_30 (by decide) ?_
    refine zJ.icmp_ge (pc := 31) (tgt := 69) dX2_come_31 (by decide) (fun c2 => ?_) (fun c2 => ?_)
    · replace h := h.1 c2
      refine zJ.aload_n (pc := 69) 1 dX2_come_69 rfl rfl ?_
      refine zJ.iconst (pc := 70) (v := 0) dX2_come_70 (by decide) ?_
      refine zE.putI (pc := 71) (fd_5_7 o i b) (ok_5 hi hb hn) kiX0 (Nat.le_of_ble_eq_true rfl) fl_X2_135 rfl rfl dX2_come_71 ?_
      exact zG.ret (pc := 74) (r := none) ⟨dX2_come_74, rfl⟩ h
    · replace h := h.2 c2
      refine zJ.aload_n (pc := 34) 0 dX2_come_34 rfl rfl ?_
      refine zJ.aload_n (pc := 35) 1 dX2_come_35 rfl rfl ?_
      refine zJ.aload_n (pc := 36) 1 dX2_come_36 rfl rfl ?_
      refine zE.getV (pc := 37) (fd_5_3 o i b) (ok_5 hi hb hn) kiX0 (Nat.le_of_ble_eq_true rfl) fl_X2_138 dX2_come_37 ?_
      refine zJ.iload_n (pc := 40) 2 dX2_come_40 rfl rfl ?_
      obtain ⟨hq, h⟩ := h
      refine zE.aldI (pc := 41) (ia_8 o i b) (ok_8 hi hb hn) hq dX2_come_41 ?_
      refine zJ.aload_n (pc := 42) 1 dX2_come_42 rfl rfl ?_
      refine zE.getV (pc := 43) (fd_5_4 o i b) (ok_5 hi hb hn) kiX0 (Nat.le_of_ble_eq_true rfl) fl_X2_141 dX2_come_43 ?_
      refine zJ.iload_n (pc := 46) 2 dX2_come_46 rfl rfl ?_
      obtain ⟨hq, h⟩ := h
      refine zE.aldI (pc := 47) (ia_9 o i b) (ok_9 hi hb hn) hq dX2_come_47 ?_
      refine zJ.aload_n (pc := 48) 1 dX2_come_48 rfl rfl ?_
      refine zE.getV (pc := 49) (fd_5_5 o i b) (ok_5 hi hb hn) kiX0 (Nat.le_of_ble_eq_true rfl) fl_X2_144 dX2_come_49 ?_
      refine zJ.iload_n (pc := 52) 2 dX2_come_52 rfl rfl ?_
      obtain ⟨hq, h⟩ := h
      refine zE.aldI (pc := 53) (ia_10 o i b) (ok_10 hi hb hn) hq dX2_come_53 ?_
      refine zJ.aload_n (pc := 54) 1 dX2_come_54 rfl rfl ?_
      refine zE.getV (pc := 55) (fd_5_6 o i b) (ok_5 hi hb hn) kiX0 (Nat.le_of_ble_eq_true rfl) fl_X2_147 dX2_come_55 ?_
      refine zJ.iload_n (pc := 58) 2 dX2_come_58 rfl rfl ?_
      obtain ⟨hq, h⟩ := h
      refine zE.aldI (pc := 59) (ia_11 o i b) (ok_11 hi hb hn) hq dX2_come_59 ?_
      refine zG.callVv (d := mdX2_come) (pc := 60) [.ref (z_adr o (5, i, b)), .int (S.1 (8, i, b) x2.toNatClampNeg), .int (S.1 (9, i, b) x2.toNatClampNeg), .int (S.1 (10, i, b) x2.toNatClampNeg), .int (S.1 (11, i, b) x2.toNatClampNeg)] [] (ob_1 o i) (ok_1 hi hn) rfl dX2_come_60 ⟨(cb_X2_serve).1, (cb_X2_serve).2, (Nat.le_of_ble_eq_true rfl), (Nat.le_of_ble_eq_true rfl)⟩ ml_X2_150 ci_X2_serve cv_X2_serve rfl (Nat.le_of_ble_eq_true rfl) (Nat.le_of_ble_eq_true rfl) rfl h (fun S5 h2 => ?_)
      replace h := h2
      clear h2
      refine zJ.iinc (pc := 63) (k := 2) (lv' := [(2, .int (x2 + 1)), (0, .ref (z_adr o (1, i, 0))), (1, .ref (z_adr o (5, i, b)))]) dX2_come_63 rfl rfl (Nat.le_of_ble_eq_true rfl) rfl ?_
      refine zJ.goto (pc := 66) (tgt := 21) dX2_come_66 (by decide) ?_
      exact zJ.sub [1, 2, 0] rfl h
set_option maxRecDepth 100000 in
set_option maxHeartbeats 4000000 in
theorem w_X2_settle_0 (o : zW) (n : Nat) (i : Nat) (hi : i < 8) (hn : z_sb i + 120 ≤ n) (b : Nat) (hb : b < 16) (S : zS) (Q : Option Value → zS → Prop) (h : zGq o n mdX2_whoMustGo i [.ref (z_adr o (1, i, 0)), .int ((nI b) - (nI b) / 4 * 4)] S (fun r2 S3 => (r2 = none → (zGv o n mdX2_use [.ref (z_adr o (1, i, 0)), .ref (z_adr o (5, i, b))] (sI (sI S3 (5, i, b) 8 1) (5, i, b) 10 (2000000000 : Int32)) (fun S8 => Q none S8))) ∧ (∀ b5, r2 = some b5 → ((¬ (S3.1 (5, i, b5) 9) = 0 → (((S3.1 (2, i, 0) 1) ≤ (S3.1 (1, i, 0) 6) → (zGv o n mdX0_goFar [.ref (z_adr o (5, i, b5))] (sI S3 (3, i, 0) 5 ((S3.1 (3, i, 0) 5) + 1)) (fun S13 => zGv o n mdX2_tally [.ref (z_adr o (1, i, 0)), .int 6, .float (1079194419 : UInt32)] S13 (fun S16 => zGv o n mdX2_use [.ref (z_adr o (1, i, 0)), .ref (z_adr o (5, i, b))] (sI (sI S16 (5, i, b) 8 1) (5, i, b) 10 (2000000000 : Int32)) (fun S19 => Q none S19))))) ∧ (¬ (S3.1 (2, i, 0) 1) ≤ (S3.1 (1, i, 0) 6) → (∀ y20 : Int32, y20 = ((sI (sI S3 (1, i, 0) 6 ((S3.1 (1, i, 0) 6) + 1)) (5, i, b5) 8 2).1 (2, i, 0) 4) → (zGv o n mdX2_setDue [.ref (z_adr o (1, i, 0)), .ref (z_adr o (5, i, b5)), .int (if 1 < (y20 / 2) then (y20 / 2) else 1)] (sI (sI S3 (1, i, 0) 6 ((S3.1 (1, i, 0) 6) + 1)) (5, i, b5) 8 2) (fun S24 => zGv o n mdX2_use [.ref (z_adr o (1, i, 0)), .ref (z_adr o (5, i, b))] (sI (sI S24 (5, i, b) 8 1) (5, i, b) 10 (2000000000 : Int32)) (fun S27 => Q none S27))))))) ∧ ((S3.1 (5, i, b5) 9) = 0 → (zGv o n mdX0_goFar [.ref (z_adr o (5, i, b5))] S3 (fun S30 => zGv o n mdX2_use [.ref (z_adr o (1, i, 0)), .ref (z_adr o (5, i, b))] (sI (sI S30 (5, i, b) 8 1) (5, i, b) 10 (2000000000 : Int32)) (fun S33 => Q none S33)))))))) : zG o n mdX2_settle 0 [(0, .ref (z_adr o (1, i, 0))), (1, .ref (z_adr o (5, i, b)))] [] S Q := by
  show zJ o mdX2_settle 0 _ [] (n, z_enc o S) 0 0 _
  refine zJ.aload_n (pc := 0) 0 dX2_settle_0 rfl rfl ?_
  refine zJ.aload_n (pc := 1) 1 dX2_settle_1 rfl rfl ?_
  refine zE.getV (pc := 2) (fd_5_0 o i b) (ok_5 hi hb hn) kiX0 (Nat.le_of_ble_eq_true rfl) fl_X2_154 dX2_settle_2 ?_
  refine zJ.iconst (pc := 5) (v := 4) dX2_settle_5 (by decide) ?_
  refine zJ.irem (pc := 6) dX2_settle_6 (by decide) ?_
  refine zG.callVq (d := mdX2_settle) (pc := 7) i [.int ((nI b) - (nI b) / 4 * 4)] [] (ob_1 o i) (ok_1 hi hn) rfl dX2_settle_7 ⟨(cb_X2_whoMustGo).1, (cb_X2_whoMustGo).2, (Nat.le_of_ble_eq_true rfl), (Nat.le_of_ble_eq_true rfl)⟩ ml_X2_157 ci_X2_whoMustGo cv_X2_whoMustGo rfl (Nat.le_of_ble_eq_true rfl) (Nat.le_of_ble_eq_true rfl) rfl h (fun r2 S3 hx4 h2 => ?_)
  replace h := h2
  clear h2
  refine zJ.astoreq_n (pc := 10) (x := z_bo o i r2) (lv' := [(2, va_rf (z_bo o i r2)), (0, .ref (z_adr o (1, i, 0))), (1, .ref (z_adr o (5, i, b)))]) dX2_settle_10 rfl (Nat.le_of_ble_eq_true rfl) rfl ?_
  refine zJ.aloadq_n (pc := 11) (x := z_bo o i r2) 0 dX2_settle_11 rfl rfl ?_
  refine zE.ifnull (pc := 12) (tgt := 29) dX2_settle_12 (by decide) ?_ ?_
  · intro hz
    replace h := h.1 hz
    subst hz
    refine zJ.aloadq_n (pc := 29) (x := none) 0 dX2_settle_29 rfl rfl ?_
    refine zJ.ifnull (pc := 30) (x := none) (tgt := 81) dX2_settle_30 (by decide) (fun _ => ?_) (fun _ hz => absurd hz (by simp))
    refine zJ.aloadq_n (pc := 81) (x := none) 0 dX2_settle_81 rfl rfl ?_
    refine zJ.ifnull (pc := 82) (x := none) (tgt := 107) dX2_settle_82 (by decide) (fun _ => ?_) (fun _ hz => absurd hz (by simp))
    refine zJ.aload_n (pc := 107) 2 dX2_settle_107 rfl rfl ?_
    refine zJ.iconst (pc := 108) (v := 1) dX2_settle_108 (by decide) ?_
    refine zE.putI (pc := 109) (fd_5_8 o i b) (ok_5 hi hb hn) kiX0 (Nat.le_of_ble_eq_true rfl) fl_X2_110 rfl rfl dX2_settle_109 ?_
    refine zJ.aload_n (pc := 112) 2 dX2_settle_112 rfl rfl ?_
    refine zJ.ldc (pc := 113) lc_X2_62 dX2_settle_113 ?_
    refine zE.putI (pc := 115) (fd_5_10 o i b) (ok_5 hi hb hn) kiX0 (Nat.le_of_ble_eq_true rfl) fl_X2_113 rfl rfl dX2_settle_115 ?_
    refine zJ.aload_n (pc := 118) 1 dX2_settle_118 rfl rfl ?_
    refine zJ.aload_n (pc := 119) 2 dX2_settle_119 rfl rfl ?_
    refine zG.callVv (d := mdX2_settle) (pc := 120) [.ref (z_adr o (5, i, b))] [] (ob_1 o i) (ok_1 hi hn) rfl dX2_settle_120 ⟨(cb_X2_use).1, (cb_X2_use).2, (Nat.le_of_ble_eq_true rfl), (Nat.le_of_ble_eq_true rfl)⟩ ml_X2_171 ci_X2_use cv_X2_use rfl (Nat.le_of_ble_eq_true rfl) (Nat.le_of_ble_eq_true rfl) rfl h (fun S8 h2 => ?_)
    replace h := h2
    clear h2
    exact zG.ret (pc := 123) (r := none) ⟨dX2_settle_123, rfl⟩ h
  · intro b5 hz
    replace h := h.2 b5 hz
    subst hz
    refine zJ.aload_n (pc := 15) 0 dX2_settle_15 rfl rfl ?_
    refine zE.getI (pc := 16) (fd_5_9 o i b5) (ok_5 hi (hx4 b5 rfl) hn) kiX0 (Nat.le_of_ble_eq_true rfl) fl_X2_161 dX2_settle_16 ?_
    refine zJ.if_ne (pc := 19) (tgt := 29) dX2_settle_19 (by decide) (fun c9 => ?_) (fun c9 => ?_)
    · replace h := h.1 c9
      refine zJ.aload_n (pc := 29) 0 dX2_settle_29 rfl rfl ?_
      refine zJ.ifnull (pc := 30) (x := some (z_adr o (5, i, b5))) (tgt := 81) dX2_settle_30 (by decide) (fun hz => absurd hz (by simp)) (fun _ _ => ?_)
      refine zJ.aload_n (pc := 33) 1 dX2_settle_33 rfl rfl ?_
      refine zE.getI (pc := 34) (fd_1_6 o i) (ok_1 hi hn) kiX2 (Nat.le_of_ble_eq_true rfl) fl_X2_56 dX2_settle_34 ?_
      refine zJ.aload_n (pc := 37) 1 dX2_settle_37 rfl rfl ?_
      refine zE.getV (pc := 38) (fd_1_0 o i) (ok_1 hi hn) kiX2 (Nat.le_of_ble_eq_true rfl) fl_X2_13 dX2_settle_38 ?_
      refine zJ.iconst (pc := 41) (v := 1) dX2_settle_41 (by decide) ?_
      refine zE.aldI (pc := 42) (ia_2 o i) (ok_2 hi hn) (by unfold vp_in; decide) dX2_settle_42 ?_
      refine zJ.icmp_ge (pc := 43) (tgt := 81) dX2_settle_43 (by decide) (fun c10 => ?_) (fun c10 => ?_)
      · replace h := h.1 c10
        refine zJ.aload_n (pc := 81) 0 dX2_settle_81 rfl rfl ?_
        refine zJ.ifnull (pc := 82) (x := some (z_adr o (5, i, b5))) (tgt := 107) dX2_settle_82 (by decide) (fun hz => absurd hz (by simp)) (fun _ _ => ?_)
        refine zJ.aload_n (pc := 85) 1 dX2_settle_85 rfl rfl ?_
        refine zE.getV (pc := 86) (fd_1_1 o i) (ok_1 hi hn) kiX2 (Nat.le_of_ble_eq_true rfl) fl_X2_24 dX2_settle_86 ?_
        refine zJ.iconst (pc := 89) (v := 5) dX2_settle_89 (by decide) ?_
        refine zJ.dup2_11 (pc := 90) dX2_settle_90 rfl rfl ?_
        refine zE.aldI (pc := 91) (ia_3 o i) (ok_3 hi hn) (by unfold vp_in; decide) dX2_settle_91 ?_
        refine zJ.iconst (pc := 92) (v := 1) dX2_settle_92 (by decide) ?_
        refine zJ.iadd (pc := 93) dX2_settle_93 ?_
        refine zE.astI (pc := 94) (ia_3 o i) (ok_3 hi hn) (by unfold vp_in; decide) dX2_settle_94 ?_
        refine zJ.aload_n (pc := 95) 0 dX2_settle_95 rfl rfl ?_
        refine zG.callVv (d := mdX2_settle) (pc := 96) [] [] (ob_5 o i b5) (ok_5 hi (hx4 b5 rfl) hn) rfl dX2_settle_96 ⟨(cb_X0_goFar).1, (cb_X0_goFar).2, (Nat.le_of_ble_eq_true rfl), (Nat.le_of_ble_eq_true rfl)⟩ ml_X2_116 ci_X0_goFar cv_X0_goFar rfl (Nat.le_of_ble_eq_true rfl) (Nat.le_of_ble_eq_true rfl) rfl h (fun S13 h2 => ?_)
        replace h := h2
        clear h2
        refine zJ.aload_n (pc := 99) 1 dX2_settle_99 rfl rfl ?_
        refine zJ.bipush (pc := 100) (v := 6) dX2_settle_100 (by decide) ?_
        refine zJ.ldcf (pc := 102) lc_X2_119 dX2_settle_102 ?_
        refine zG.callVv (d := mdX2_settle) (pc := 104) [.int 6, .float (1079194419 : UInt32)] [] (ob_1 o i) (ok_1 hi hn) rfl dX2_settle_104 ⟨(cb_X2_tally).1, (cb_X2_tally).2, (Nat.le_of_ble_eq_true rfl), (Nat.le_of_ble_eq_true rfl)⟩ ml_X2_81 ci_X2_tally cv_X2_tally rfl (Nat.le_of_ble_eq_true rfl) (Nat.le_of_ble_eq_true rfl) rfl h (fun S16 h2 => ?_)
        replace h := h2
        clear h2
        refine zJ.aload_n (pc := 107) 2 dX2_settle_107 rfl rfl ?_
        refine zJ.iconst (pc := 108) (v := 1) dX2_settle_108 (by decide) ?_
        refine zE.putI (pc := 109) (fd_5_8 o i b) (ok_5 hi hb hn) kiX0 (Nat.le_of_ble_eq_true rfl) fl_X2_110 rfl rfl dX2_settle_109 ?_
        refine zJ.aload_n (pc := 112) 2 dX2_settle_112 rfl rfl ?_
        refine zJ.ldc (pc := 113) lc_X2_62 dX2_settle_113 ?_
        refine zE.putI (pc := 115) (fd_5_10 o i b) (ok_5 hi hb hn) kiX0 (Nat.le_of_ble_eq_true rfl) fl_X2_113 rfl rfl dX2_settle_115 ?_
        refine zJ.aload_n (pc := 118) 1 dX2_settle_118 rfl rfl ?_
        refine zJ.aload_n (pc := 119) 2 dX2_settle_119 rfl rfl ?_
        refine zG.callVv (d := mdX2_settle) (pc := 120) [.ref (z_adr o (5, i, b))] [] (ob_1 o i) (ok_1 hi hn) rfl dX2_settle_120 ⟨(cb_X2_use).1, (cb_X2_use).2, (Nat.le_of_ble_eq_true rfl), (Nat.le_of_ble_eq_true rfl)⟩ ml_X2_171 ci_X2_use cv_X2_use rfl (Nat.le_of_ble_eq_true rfl) (Nat.le_of_ble_eq_true rfl) rfl h (fun S19 h2 => ?_)
        replace h := h2
        clear h2
        exact zG.ret (pc := 123) (r := none) ⟨dX2_settle_123, rfl⟩ h
      · replace h := h.2 c10
        refine zJ.aload_n (pc := 46) 1 dX2_settle_46 rfl rfl ?_
        refine zJ.dup (pc := 47) dX2_settle_47 rfl ?_
        refine zE.getI (pc := 48) (fd_1_6 o i) (ok_1 hi hn) kiX2 (Nat.le_of_ble_eq_true rfl) fl_X2_56 dX2_settle_48 ?_
        refine zJ.iconst (pc := 51) (v := 1) dX2_settle_51 (by decide) ?_
        refine zJ.iadd (pc := 52) dX2_settle_52 ?_
        refine zE.putI (pc := 53) (fd_1_6 o i) (ok_1 hi hn) kiX2 (Nat.le_of_ble_eq_true rfl) fl_X2_56 rfl rfl dX2_settle_53 ?_
        refine zJ.aload_n (pc := 56) 0 dX2_settle_56 rfl rfl ?_
        refine zJ.iconst (pc := 57) (v := 2) dX2_settle_57 (by decide) ?_
        refine zE.putI (pc := 58) (fd_5_8 o i b5) (ok_5 hi (hx4 b5 rfl) hn) kiX0 (Nat.le_of_ble_eq_true rfl) fl_X2_110 rfl rfl dX2_settle_58 ?_
        refine zJ.aload_n (pc := 61) 1 dX2_settle_61 rfl rfl ?_
        refine zJ.aload_n (pc := 62) 0 dX2_settle_62 rfl rfl ?_
        refine zJ.iconst (pc := 63) (v := 1) dX2_settle_63 (by decide) ?_
        refine zJ.aload_n (pc := 64) 1 dX2_settle_64 rfl rfl ?_
        refine zE.getV (pc := 65) (fd_1_0 o i) (ok_1 hi hn) kiX2 (Nat.le_of_ble_eq_true rfl) fl_X2_13 dX2_settle_65 ?_
        refine zJ.iconst (pc := 68) (v := 4) dX2_settle_68 (by decide) ?_
        refine zE.aldI (pc := 69) (ia_2 o i) (ok_2 hi hn) (by unfold vp_in; decide) dX2_settle_69 ?_
        refine zJ.topi (fun y20 hyy20 => ?_)
        replace h := h y20 hyy20
        refine zJ.iconst (pc := 70) (v := 2) dX2_settle_70 (by decide) ?_
        refine zJ.idiv (pc := 71) dX2_settle_71 (by decide) ?_
        refine zJ.mmax (pc := 72) ml_X2_164 mt_s_max mt_i mt_c_max (Nat.le_of_ble_eq_true rfl) (Nat.le_of_ble_eq_true rfl) dX2_settle_72 ?_
        refine zG.callVv (d := mdX2_settle) (pc := 75) [.ref (z_adr o (5, i, b5)), .int (if 1 < (y20 / 2) then (y20 / 2) else 1)] [] (ob_1 o i) (ok_1 hi hn) rfl dX2_settle_75 ⟨(cb_X2_setDue).1, (cb_X2_setDue).2, (Nat.le_of_ble_eq_true rfl), (Nat.le_of_ble_eq_true rfl)⟩ ml_X2_167 ci_X2_setDue cv_X2_setDue rfl (Nat.le_of_ble_eq_true rfl) (Nat.le_of_ble_eq_true rfl) rfl h (fun S24 h2 => ?_)
        replace h := h2
        clear h2
        refine zJ.goto (pc := 78) (tgt := 107) dX2_settle_78 (by decide) ?_
        refine zJ.aload_n (pc := 107) 2 dX2_settle_107 rfl rfl ?_
        refine zJ.iconst (pc := 108) (v := 1) dX2_settle_108 (by decide) ?_
        refine zE.putI (pc := 109) (fd_5_8 o i b) (ok_5 hi hb hn) kiX0 (Nat.le_of_ble_eq_true rfl) fl_X2_110 rfl rfl dX2_settle_109 ?_
        refine zJ.aload_n (pc := 112) 2 dX2_settle_112 rfl rfl ?_
        refine zJ.ldc (pc := 113) lc_X2_62 dX2_settle_113 ?_
        refine zE.putI (pc := 115) (fd_5_10 o i b) (ok_5 hi hb hn) kiX0 (Nat.le_of_ble_eq_true rfl) fl_X2_113 rfl rfl dX2_settle_115 ?_
        refine zJ.aload_n (pc := 118) 1 dX2_settle_118 rfl rfl ?_
        refine zJ.aload_n (pc := 119) 2 dX2_settle_119 rfl rfl ?_
        refine zG.callVv (d := mdX2_settle) (pc := 120) [.ref (z_adr o (5, i, b))] [] (ob_1 o i) (ok_1 hi hn) rfl dX2_settle_120 ⟨(cb_X2_use).1, (cb_X2_use).2, (Nat.le_of_ble_eq_true rfl), (Nat.le_of_ble_eq_true rfl)⟩ ml_X2_171 ci_X2_use cv_X2_use rfl (Nat.le_of_ble_eq_true rfl) (Nat.le_of_ble_eq_true rfl) rfl h (fun S27 h2 => ?_)
        replace h := h2
        clear h2
        exact zG.ret (pc := 123) (r := none) ⟨dX2_settle_123, rfl⟩ h
    · replace h := h.2 c9
      refine zJ.aload_n (pc := 22) 0 dX2_settle_22 rfl rfl ?_
      refine zG.callVv (d := mdX2_settle) (pc := 23) [] [] (ob_5 o i b5) (ok_5 hi (hx4 b5 rfl) hn) rfl dX2_settle_23 ⟨(cb_X0_goFar).1, (cb_X0_goFar).2, (Nat.le_of_ble_eq_true rfl), (Nat.le_of_ble_eq_true rfl)⟩ ml_X2_116 ci_X0_goFar cv_X0_goFar rfl (Nat.le_of_ble_eq_true rfl) (Nat.le_of_ble_eq_true rfl) rfl h (fun S30 h2 => ?_)
      replace h := h2
      clear h2
      refine zJ.goto (pc := 26) (tgt := 107) dX2_settle_26 (by decide) ?_
      refine zJ.aload_n (pc := 107) 2 dX2_settle_107 rfl rfl ?_
      refine zJ.iconst (pc := 108) (v := 1) dX2_settle_108 (by decide) ?_
      refine zE.putI (pc := 109) (fd_5_8 o i b) (ok_5 hi hb hn) kiX0 (Nat.le_of_ble_eq_true rfl) fl_X2_110 rfl rfl dX2_settle_109 ?_
      refine zJ.aload_n (pc := 112) 2 dX2_settle_112 rfl rfl ?_
      refine zJ.ldc (pc := 113) lc_X2_62 dX2_settle_113 ?_
      refine zE.putI (pc := 115) (fd_5_10 o i b) (ok_5 hi hb hn) kiX0 (Nat.le_of_ble_eq_true rfl) fl_X2_113 rfl rfl dX2_settle_115 ?_
      refine zJ.aload_n (pc := 118) 1 dX2_settle_118 rfl rfl ?_
      refine zJ.aload_n (pc := 119) 2 dX2_settle_119 rfl rfl ?_
      refine zG.callVv (d := mdX2_settle) (pc := 120) [.ref (z_adr o (5, i, b))] [] (ob_1 o i) (ok_1 hi hn) rfl dX2_settle_120 ⟨(cb_X2_use).1, (cb_X2_use).2, (Nat.le_of_ble_eq_true rfl), (Nat.le_of_ble_eq_true rfl)⟩ ml_X2_171 ci_X2_use cv_X2_use rfl (Nat.le_of_ble_eq_true rfl) (Nat.le_of_ble_eq_true rfl) rfl h (fun S33 h2 => ?_)
      replace h := h2
      clear h2
      exact zG.ret (pc := 123) (r := none) ⟨dX2_settle_123, rfl⟩ h
