set_option maxRecDepth 100000 in
set_option maxHeartbeats 4000000 in
theorem w_X0_renew_0 (o : zW) (n : Nat) (i : Nat) (hi : i < 8) (hn : z_sb i + 120 ≤ n) (b : Nat) (hb : b < 16) (S : zS) (Q : Option Value → zS → Prop) (h : zG o n mdX0_renew 2 [(0, .ref (z_adr o (5, i, b))), (1, .int 0)] [] S Q) : zG o n mdX0_renew 0 [(0, .ref (z_adr o (5, i, b)))] [] S Q := by
  show zJ o mdX0_renew 0 _ [] (n, z_enc o S) 0 0 _
  refine zJ.iconst (pc := 0) (v := 0) dX0_renew_0 (by decide) ?_
  refine zJ.istore_n (pc := 1) (lv' := [(1, .int 0), (0, .ref (z_adr o (5, i, b)))]) dX0_renew_1 rfl (Nat.le_of_ble_eq_true rfl) rfl ?_
  exact zJ.sub [1, 0] rfl h
set_option maxRecDepth 100000 in
set_option maxHeartbeats 4000000 in
theorem w_X0_renew_2 (o : zW) (n : Nat) (i : Nat) (hi : i < 8) (hn : z_sb i + 120 ≤ n) (b : Nat) (hb : b < 16) (x1 : Int32) (S : zS) (Q : Option Value → zS → Prop) (h : (4 ≤ x1 → (∀ S2 : zS, S2 = (sI (sI (sI (sI S (5, i, b) 7 0) (5, i, b) 8 0) (5, i, b) 9 0) (5, i, b) 10 (2000000000 : Int32)) → (Q none (sI S2 (5, i, b) 11 0)))) ∧ (¬ 4 ≤ x1 → (vp_in x1 4 ∧ (zG o n mdX0_renew 2 [(0, .ref (z_adr o (5, i, b))), (1, .int (x1 + 1))] [] (sI S (6, i, b) (x1.toNatClampNeg) ((5 * (nI b)) + x1)) Q)))) : zG o n mdX0_renew 2 [(0, .ref (z_adr o (5, i, b))), (1, .int x1)] [] S Q := by
  show zJ o mdX0_renew 2 _ [] (n, z_enc o S) 0 0 _
  refine zJ.iload_n (pc := 2) 1 dX0_renew_2 rfl rfl ?_
  refine zJ.iconst (pc := 3) (v := 4) dX0_renew_3 (by decide) ?_
  refine zJ.icmp_ge (pc := 4) (tgt := 27) dX0_renew_4 (by decide) (fun c1 => ?_) (fun c1 => ?_)
  · replace h := h.1 c1
    refine zJ.aload_n (pc := 27) 0 dX0_renew_27 rfl rfl ?_
    refine zJ.iconst (pc := 28) (v := 0) dX0_renew_28 (by decide) ?_
    refine zE.putI (pc := 29) (fd_5_7 o i b) (ok_5 hi hb hn) kiX0 (Nat.le_of_ble_eq_true rfl) fl_X0_34 rfl rfl dX0_renew_29 ?_
    refine zJ.aload_n (pc := 32) 0 dX0_renew_32 rfl rfl ?_
    refine zJ.iconst (pc := 33) (v := 0) dX0_renew_33 (by decide) ?_
    refine zE.putI (pc := 34) (fd_5_8 o i b) (ok_5 hi hb hn) kiX0 (Nat.le_of_ble_eq_true rfl) fl_X0_37 rfl rfl dX0_renew_34 ?_
    refine zJ.aload_n (pc := 37) 0 dX0_renew_37 rfl rfl ?_
    refine zJ.iconst (pc := 38) (v := 0) dX0_renew_38 (by decide) ?_
    refine zE.putI (pc := 39) (fd_5_9 o i b) (ok_5 hi hb hn) kiX0 (Nat.le_of_ble_eq_true rfl) fl_X0_40 rfl rfl dX0_renew_39 ?_
    refine zJ.aload_n (pc := 42) 0 dX0_renew_42 rfl rfl ?_
    refine zJ.ldc (pc := 43) lc_X0_43 dX0_renew_43 ?_
    refine zE.putI (pc := 45) (fd_5_10 o i b) (ok_5 hi hb hn) kiX0 (Nat.le_of_ble_eq_true rfl) fl_X0_44 rfl rfl dX0_renew_45 ?_
    refine zJ.nameS (fun S2 hyS2 => ?_)
    replace h := h S2 hyS2
    refine zJ.aload_n (pc := 48) 0 dX0_renew_48 rfl rfl ?_
    refine zJ.iconst (pc := 49) (v := 0) dX0_renew_49 (by decide) ?_
    refine zE.putI (pc := 50) (fd_5_11 o i b) (ok_5 hi hb hn) kiX0 (Nat.le_of_ble_eq_true rfl) fl_X0_47 rfl rfl dX0_renew_50 ?_
    exact zG.ret (pc := 53) (r := none) ⟨dX0_renew_53, rfl⟩ h
  · replace h := h.2 c1
    refine zJ.aload_n (pc := 7) 0 dX0_renew_7 rfl rfl ?_
    refine zE.getV (pc := 8) (fd_5_1 o i b) (ok_5 hi hb hn) kiX0 (Nat.le_of_ble_eq_true rfl) fl_X0_15 dX0_renew_8 ?_
    refine zJ.iload_n (pc := 11) 1 dX0_renew_11 rfl rfl ?_
    refine zJ.iconst (pc := 12) (v := 5) dX0_renew_12 (by decide) ?_
    refine zJ.aload_n (pc := 13) 0 dX0_renew_13 rfl rfl ?_
    refine zE.getV (pc := 14) (fd_5_0 o i b) (ok_5 hi hb hn) kiX0 (Nat.le_of_ble_eq_true rfl) fl_X0_9 dX0_renew_14 ?_
    refine zJ.imul (pc := 17) dX0_renew_17 ?_
    refine zJ.iload_n (pc := 18) 1 dX0_renew_18 rfl rfl ?_
    refine zJ.iadd (pc := 19) dX0_renew_19 ?_
    obtain ⟨hq, h⟩ := h
    refine zE.astI (pc := 20) (ia_6 o i b) (ok_6 hi hb hn) hq dX0_renew_20 ?_
    refine zJ.iinc (pc := 21) (k := 1) (lv' := [(1, .int (x1 + 1)), (0, .ref (z_adr o (5, i, b)))]) dX0_renew_21 rfl rfl (Nat.le_of_ble_eq_true rfl) rfl ?_
    refine zJ.goto (pc := 24) (tgt := 2) dX0_renew_24 (by decide) ?_
    exact zJ.sub [1, 0] rfl h
set_option maxRecDepth 100000 in
set_option maxHeartbeats 4000000 in
theorem w_X0_become_0 (o : zW) (n : Nat) (i : Nat) (hi : i < 8) (hn : z_sb i + 120 ≤ n) (b : Nat) (hb : b < 16) (i2 : Nat) (hi2 : i2 < 8) (hn2 : z_sb i2 + 120 ≤ n) (b2 : Nat) (hb2 : b2 < 16) (S : zS) (Q : Option Value → zS → Prop) (h : ∀ S4 : zS, S4 = (sC (sC (sC S (6, i2, b2) (6, i, b) 0 0 4) (7, i2, b2) (7, i, b) 0 0 4) (8, i2, b2) (8, i, b) 0 0 4) → (∀ S8 : zS, S8 = (sC (sC (sC S4 (9, i2, b2) (9, i, b) 0 0 4) (10, i2, b2) (10, i, b) 0 0 4) (11, i2, b2) (11, i, b) 0 0 4) → (∀ S9 : zS, S9 = (sI (sI S8 (5, i, b) 7 (S8.1 (5, i2, b2) 7)) (5, i, b) 8 ((sI S8 (5, i, b) 7 (S8.1 (5, i2, b2) 7)).1 (5, i2, b2) 8)) → (∀ S10 : zS, S10 = (sI (sI S9 (5, i, b) 9 (S9.1 (5, i2, b2) 9)) (5, i, b) 10 ((sI S9 (5, i, b) 9 (S9.1 (5, i2, b2) 9)).1 (5, i2, b2) 10)) → (Q none (sI S10 (5, i, b) 11 (S10.1 (5, i2, b2) 11))))))) : zG o n mdX0_become 0 [(0, .ref (z_adr o (5, i, b))), (1, .ref (z_adr o (5, i2, b2)))] [] S Q := by
  show zJ o mdX0_become 0 _ [] (n, z_enc o S) 0 0 _
  refine zJ.aload_n (pc := 0) 1 dX0_become_0 rfl rfl ?_
  refine zE.getV (pc := 1) (fd_5_1 o i2 b2) (ok_5 hi2 hb2 hn2) kiX0 (Nat.le_of_ble_eq_true rfl) fl_X0_15 dX0_become_1 ?_
  refine zJ.iconst (pc := 4) (v := 0) dX0_become_4 (by decide) ?_
  refine zJ.aload_n (pc := 5) 0 dX0_become_5 rfl rfl ?_
  refine zE.getV (pc := 6) (fd_5_1 o i b) (ok_5 hi hb hn) kiX0 (Nat.le_of_ble_eq_true rfl) fl_X0_15 dX0_become_6 ?_
  refine zJ.iconst (pc := 9) (v := 0) dX0_become_9 (by decide) ?_
  refine zJ.iconst (pc := 10) (v := 4) dX0_become_10 (by decide) ?_
  refine zE.copy (pc := 11) ⟨ml_X0_50, ac_n, ac_s, ac_i⟩ (ia_6 o i2 b2) (ia_6 o i b) (ok_6 hi2 hb2 hn2) (ok_6 hi hb hn) (by decide) (by decide) (by decide) (by decide) (by decide) (Nat.le_of_ble_eq_true rfl) (by decide) dX0_become_11 ?_
  refine zJ.aload_n (pc := 14) 1 dX0_become_14 rfl rfl ?_
  refine zE.getV (pc := 15) (fd_5_2 o i2 b2) (ok_5 hi2 hb2 hn2) kiX0 (Nat.le_of_ble_eq_true rfl) fl_X0_19 dX0_become_15 ?_
  refine zJ.iconst (pc := 18) (v := 0) dX0_become_18 (by decide) ?_
  refine zJ.aload_n (pc := 19) 0 dX0_become_19 rfl rfl ?_
  refine zE.getV (pc := 20) (fd_5_2 o i b) (ok_5 hi hb hn) kiX0 (Nat.le_of_ble_eq_true rfl) fl_X0_19 dX0_become_20 ?_
  refine zJ.iconst (pc := 23) (v := 0) dX0_become_23 (by decide) ?_
  refine zJ.iconst (pc := 24) (v := 4) dX0_become_24 (by decide) ?_
  refine zE.copy (pc := 25) ⟨ml_X0_50, ac_n, ac_s, ac_i⟩ (ia_7 o i2 b2) (ia_7 o i b) (ok_7 hi2 hb2 hn2) (ok_7 hi hb hn) (by decide) (by decide) (by decide) (by decide) (by decide) (Nat.le_of_ble_eq_true rfl) (by decide) dX0_become_25 ?_
  refine zJ.aload_n (pc := 28) 1 dX0_become_28 rfl rfl ?_
  refine zE.getV (pc := 29) (fd_5_3 o i2 b2) (ok_5 hi2 hb2 hn2) kiX0 (Nat.le_of_ble_eq_true rfl) fl_X0_22 dX0_become_29 ?_
  refine zJ.iconst (pc := 32) (v := 0) dX0_become_32 (by decide) ?_
  refine zJ.aload_n (pc := 33) 0 dX0_become_33 rfl rfl ?_
  refine zE.getV (pc := 34) (fd_5_3 o i b) (ok_5 hi hb hn) kiX0 (Nat.le_of_ble_eq_true rfl) fl_X0_22 dX0_become_34 ?_
  refine zJ.iconst (pc := 37) (v := 0) dX0_become_37 (by decide) ?_
  refine zJ.iconst (pc := 38) (v := 4) dX0_become_38 (by decide) ?_
  refine zE.copy (pc := 39) ⟨ml_X0_50, ac_n, ac_s, ac_i⟩ (ia_8 o i2 b2) (ia_8 o i b) (ok_8 hi2 hb2 hn2) (ok_8 hi hb hn) (by decide) (by decide) (by decide) (by decide) (by decide) (Nat.le_of_ble_eq_true rfl) (by decide) dX0_become_39 ?_
  refine zJ.nameS (fun S4 hyS4 => ?_)
  replace h := h S4 hyS4
  refine zJ.aload_n (pc := 42) 1 dX0_become_42 rfl rfl ?_
  refine zE.getV (pc := 43) (fd_5_4 o i2 b2) (ok_5 hi2 hb2 hn2) kiX0 (Nat.le_of_ble_eq_true rfl) fl_X0_25 dX0_become_43 ?_
  refine zJ.iconst (pc := 46) (v := 0) dX0_become_46 (by decide) ?_
  refine zJ.aload_n (pc := 47) 0 dX0_become_47 rfl rfl ?_
  refine zE.getV (pc := 48) (fd_5_4 o i b) (ok_5 hi hb hn) kiX0 (Nat.le_of_ble_eq_true rfl) fl_X0_25 dX0_become_48 ?_
  refine zJ.iconst (pc := 51) (v := 0) dX0_become_51 (by decide) ?_
  refine zJ.iconst (pc := 52) (v := 4) dX0_become_52 (by decide) ?_
  refine zE.copy (pc := 53) ⟨ml_X0_50, ac_n, ac_s, ac_i⟩ (ia_9 o i2 b2) (ia_9 o i b) (ok_9 hi2 hb2 hn2) (ok_9 hi hb hn) (by decide) (by decide) (by decide) (by decide) (by decide) (Nat.le_of_ble_eq_true rfl) (by decide) dX0_become_53 ?_
  refine zJ.aload_n (pc := 56) 1 dX0_become_56 rfl rfl ?_
  refine zE.getV (pc := 57) (fd_5_5 o i2 b2) (ok_5 hi2 hb2 hn2) kiX0 (Nat.le_of_ble_eq_true rfl) fl_X0_28 dX0_become_57 ?_
  refine zJ.iconst (pc := 60) (v := 0) dX0_become_60 (by decide) ?_
  refine zJ.aload_n (pc := 61) 0 dX0_become_61 rfl rfl ?_
  refine zE.getV (pc := 62) (fd_5_5 o i b) (ok_5 hi hb hn) kiX0 (Nat.le_of_ble_eq_true rfl) fl_X0_28 dX0_become_62 ?_
  refine zJ.iconst (pc := 65) (v := 0) dX0_become_65 (by decide) ?_
  refine zJ.iconst (pc := 66) (v := 4) dX0_become_66 (by decide) ?_
  refine zE.copy (pc := 67) ⟨ml_X0_50, ac_n, ac_s, ac_i⟩ (ia_10 o i2 b2) (ia_10 o i b) (ok_10 hi2 hb2 hn2) (ok_10 hi hb hn) (by decide) (by decide) (by decide) (by decide) (by decide) (Nat.le_of_ble_eq_true rfl) (by decide) dX0_become_67 ?_
  refine zJ.aload_n (pc := 70) 1 dX0_become_70 rfl rfl ?_
  refine zE.getV (pc := 71) (fd_5_6 o i2 b2) (ok_5 hi2 hb2 hn2) kiX0 (Nat.le_of_ble_eq_true rfl) fl_X0_31 dX0_become_71 ?_
  refine zJ.iconst (pc := 74) (v := 0) dX0_become_74 (by decide) ?_
  refine zJ.aload_n (pc := 75) 0 dX0_become_75 rfl rfl ?_
  refine zE.getV (pc := 76) (fd_5_6 o i b) (ok_5 hi hb hn) kiX0 (Nat.le_of_ble_eq_true rfl) fl_X0_31 dX0_become_76 ?_
  refine zJ.iconst (pc := 79) (v := 0) dX0_become_79 (by decide) ?_
  refine zJ.iconst (pc := 80) (v := 4) dX0_become_80 (by decide) ?_
  refine zE.copy (pc := 81) ⟨ml_X0_50, ac_n, ac_s, ac_i⟩ (ia_11 o i2 b2) (ia_11 o i b) (ok_11 hi2 hb2 hn2) (ok_11 hi hb hn) (by decide) (by decide) (by decide) (by decide) (by decide) (Nat.le_of_ble_eq_true rfl) (by decide) dX0_become_81 ?_
  refine zJ.nameS (fun S8 hyS8 => ?_)
  replace h := h S8 hyS8
  refine zJ.aload_n (pc := 84) 0 dX0_become_84 rfl rfl ?_
  refine zJ.aload_n (pc := 85) 1 dX0_become_85 rfl rfl ?_
  refine zE.getI (pc := 86) (fd_5_7 o i2 b2) (ok_5 hi2 hb2 hn2) kiX0 (Nat.le_of_ble_eq_true rfl) fl_X0_34 dX0_become_86 ?_
  refine zE.putI (pc := 89) (fd_5_7 o i b) (ok_5 hi hb hn) kiX0 (Nat.le_of_ble_eq_true rfl) fl_X0_34 rfl rfl dX0_become_89 ?_
  refine zJ.aload_n (pc := 92) 0 dX0_become_92 rfl rfl ?_
  refine zJ.aload_n (pc := 93) 1 dX0_become_93 rfl rfl ?_
  refine zE.getI (pc := 94) (fd_5_8 o i2 b2) (ok_5 hi2 hb2 hn2) kiX0 (Nat.le_of_ble_eq_true rfl) fl_X0_37 dX0_become_94 ?_
  refine zE.putI (pc := 97) (fd_5_8 o i b) (ok_5 hi hb hn) kiX0 (Nat.le_of_ble_eq_true rfl) fl_X0_37 rfl rfl dX0_become_97 ?_
  refine zJ.nameS (fun S9 hyS9 => ?_)
  replace h := h S9 hyS9
  refine zJ.aload_n (pc := 100) 0 dX0_become_100 rfl rfl ?_
  refine zJ.aload_n (pc := 101) 1 dX0_become_101 rfl rfl ?_
  refine zE.getI (pc := 102) (fd_5_9 o i2 b2) (ok_5 hi2 hb2 hn2) kiX0 (Nat.le_of_ble_eq_true rfl) fl_X0_40 dX0_become_102 ?_
  refine zE.putI (pc := 105) (fd_5_9 o i b) (ok_5 hi hb hn) kiX0 (Nat.le_of_ble_eq_true rfl) fl_X0_40 rfl rfl dX0_become_105 ?_
  refine zJ.aload_n (pc := 108) 0 dX0_become_108 rfl rfl ?_
  refine zJ.aload_n (pc := 109) 1 dX0_become_109 rfl rfl ?_
  refine zE.getI (pc := 110) (fd_5_10 o i2 b2) (ok_5 hi2 hb2 hn2) kiX0 (Nat.le_of_ble_eq_true rfl) fl_X0_44 dX0_become_110 ?_
  refine zE.putI (pc := 113) (fd_5_10 o i b) (ok_5 hi hb hn) kiX0 (Nat.le_of_ble_eq_true rfl) fl_X0_44 rfl rfl dX0_become_113 ?_
  refine zJ.nameS (fun S10 hyS10 => ?_)
  replace h := h S10 hyS10
  refine zJ.aload_n (pc := 116) 0 dX0_become_116 rfl rfl ?_
  refine zJ.aload_n (pc := 117) 1 dX0_become_117 rfl rfl ?_
  refine zE.getI (pc := 118) (fd_5_11 o i2 b2) (ok_5 hi2 hb2 hn2) kiX0 (Nat.le_of_ble_eq_true rfl) fl_X0_47 dX0_become_118 ?_
  refine zE.putI (pc := 121) (fd_5_11 o i b) (ok_5 hi hb hn) kiX0 (Nat.le_of_ble_eq_true rfl) fl_X0_47 rfl rfl dX0_become_121 ?_
  exact zG.ret (pc := 124) (r := none) ⟨dX0_become_124, rfl⟩ h
set_option maxRecDepth 100000 in
set_option maxHeartbeats 4000000 in
theorem w_X0_changedBit_0 (o : zW) (n : Nat) (i : Nat) (hi : i < 8) (hn : z_sb i + 120 ≤ n) (b : Nat) (hb : b < 16) (x1 : Int32) (S : zS) (Q : Option Value → zS → Prop) (h : Q (some (.int (((S.1 (5, i, b) 9) >>> (x1 &&& 31)) &&& 1))) S) : zG o n mdX0_changedBit 0 [(0, .ref (z_adr o (5, i, b))), (1, .int x1)] [] S Q := by
  show zJ o mdX0_changedBit 0 _ [] (n, z_enc o S) 0 0 _
  refine zJ.aload_n (pc := 0) 0 dX0_changedBit_0 rfl rfl ?_
  refine zE.getI (pc := 1) (fd_5_9 o i b) (ok_5 hi hb hn) kiX0 (Nat.le_of_ble_eq_true rfl) fl_X0_40 dX0_changedBit_1 ?_
  refine zJ.iload_n (pc := 4) 1 dX0_changedBit_4 rfl rfl ?_
  refine zJ.ishr (pc := 5) dX0_changedBit_5 ?_
  refine zJ.iconst (pc := 6) (v := 1) dX0_changedBit_6 (by decide) ?_
  refine zJ.iand (pc := 7) dX0_changedBit_7 ?_
  exact zG.ret (pc := 8) (r := some (.int (((S.1 (5, i, b) 9) >>> (x1 &&& 31)) &&& 1))) ⟨dX0_changedBit_8, _, rfl, rfl⟩ h
set_option maxRecDepth 100000 in
set_option maxHeartbeats 4000000 in
theorem w_X0_valueAtLast_0 (o : zW) (n : Nat) (i : Nat) (hi : i < 8) (hn : z_sb i + 120 ≤ n) (b : Nat) (hb : b < 16) (x1 : Int32) (S : zS) (Q : Option Value → zS → Prop) (h : (x1 < 0 → (Q (some (.int 0)) S)) ∧ (¬ x1 < 0 → ((x1 < 4 → (((S.1 (5, i, b) 8) = 1 → (vp_in x1 4 ∧ (Q (some (.int (S.1 (7, i, b) x1.toNatClampNeg))) S))) ∧ (¬ (S.1 (5, i, b) 8) = 1 → ((¬ (S.1 (5, i, b) 8) = 2 → (vp_in x1 4 ∧ (zG o n mdX0_valueAtLast 43 [(0, .ref (z_adr o (5, i, b))), (1, .int x1), (2, .int (S.1 (6, i, b) x1.toNatClampNeg)), (3, .int 0)] [] S Q))) ∧ ((S.1 (5, i, b) 8) = 2 → (vp_in x1 4 ∧ (Q (some (.int (S.1 (7, i, b) x1.toNatClampNeg))) S))))))) ∧ (¬ x1 < 4 → (Q (some (.int 0)) S))))) : zG o n mdX0_valueAtLast 0 [(0, .ref (z_adr o (5, i, b))), (1, .int x1)] [] S Q := by
  show zJ o mdX0_valueAtLast 0 _ [] (n, z_enc o S) 0 0 _
  refine zJ.iload_n (pc := 0) 1 dX0_valueAtLast_0 rfl rfl ?_
  refine zJ.if_lt (pc := 1) (tgt := 9) dX0_valueAtLast_1 (by decide) (fun c1 => ?_) (fun c1 => ?_)
  · replace h := h.1 c1
    refine zJ.iconst (pc := 9) (v := 0) dX0_valueAtLast_9 (by decide) ?_
    exact zG.ret (pc := 10) (r := some (.int 0)) ⟨dX0_valueAtLast_10, _, rfl, rfl⟩ h
  · replace h := h.2 c1
    refine zJ.iload_n (pc := 4) 1 dX0_valueAtLast_4 rfl rfl ?_
    refine zJ.iconst (pc := 5) (v := 4) dX0_valueAtLast_5 (by decide) ?_
    refine zJ.icmp_lt (pc := 6) (tgt := 11) dX0_valueAtLast_6 (by decide) (fun c2 => ?_) (fun c2 => ?_)
    · replace h := h.1 c2
      refine zJ.aload_n (pc := 11) 0 dX0_valueAtLast_11 rfl rfl ?_
      refine zE.getI (pc := 12) (fd_5_8 o i b) (ok_5 hi hb hn) kiX0 (Nat.le_of_ble_eq_true rfl) fl_X0_37 dX0_valueAtLast_12 ?_
      refine zJ.iconst (pc := 15) (v := 1) dX0_valueAtLast_15 (by decide) ?_
      refine zJ.icmp_eq (pc := 16) (tgt := 27) dX0_valueAtLast_16 (by decide) (fun c3 => ?_) (fun c3 => ?_)
      · replace h := h.1 c3
        refine zJ.aload_n (pc := 27) 0 dX0_valueAtLast_27 rfl rfl ?_
        refine zE.getV (pc := 28) (fd_5_2 o i b) (ok_5 hi hb hn) kiX0 (Nat.le_of_ble_eq_true rfl) fl_X0_19 dX0_valueAtLast_28 ?_
        refine zJ.iload_n (pc := 31) 1 dX0_valueAtLast_31 rfl rfl ?_
        obtain ⟨hq, h⟩ := h
        refine zE.aldI (pc := 32) (ia_7 o i b) (ok_7 hi hb hn) hq dX0_valueAtLast_32 ?_
        exact zG.ret (pc := 33) (r := some (.int (S.1 (7, i, b) x1.toNatClampNeg))) ⟨dX0_valueAtLast_33, _, rfl, rfl⟩ h
      · replace h := h.2 c3
        refine zJ.aload_n (pc := 19) 0 dX0_valueAtLast_19 rfl rfl ?_
        refine zE.getI (pc := 20) (fd_5_8 o i b) (ok_5 hi hb hn) kiX0 (Nat.le_of_ble_eq_true rfl) fl_X0_37 dX0_valueAtLast_20 ?_
        refine zJ.iconst (pc := 23) (v := 2) dX0_valueAtLast_23 (by decide) ?_
        refine zJ.icmp_ne (pc := 24) (tgt := 34) dX0_valueAtLast_24 (by decide) (fun c4 => ?_) (fun c4 => ?_)
        · replace h := h.1 c4
          refine zJ.aload_n (pc := 34) 0 dX0_valueAtLast_34 rfl rfl ?_
          refine zE.getV (pc := 35) (fd_5_1 o i b) (ok_5 hi hb hn) kiX0 (Nat.le_of_ble_eq_true rfl) fl_X0_15 dX0_valueAtLast_35 ?_
          refine zJ.iload_n (pc := 38) 1 dX0_valueAtLast_38 rfl rfl ?_
          obtain ⟨hq, h⟩ := h
          refine zE.aldI (pc := 39) (ia_6 o i b) (ok_6 hi hb hn) hq dX0_valueAtLast_39 ?_
          refine zJ.istore_n (pc := 40) (lv' := [(2, .int (S.1 (6, i, b) x1.toNatClampNeg)), (0, .ref (z_adr o (5, i, b))), (1, .int x1)]) dX0_valueAtLast_40 rfl (Nat.le_of_ble_eq_true rfl) rfl ?_
          refine zJ.iconst (pc := 41) (v := 0) dX0_valueAtLast_41 (by decide) ?_
          refine zJ.istore_n (pc := 42) (lv' := [(3, .int 0), (2, .int (S.1 (6, i, b) x1.toNatClampNeg)), (0, .ref (z_adr o (5, i, b))), (1, .int x1)]) dX0_valueAtLast_42 rfl (Nat.le_of_ble_eq_true rfl) rfl ?_
          exact zJ.sub [2, 3, 1, 0] rfl h
        · replace h := h.2 c4
          refine zJ.aload_n (pc := 27) 0 dX0_valueAtLast_27 rfl rfl ?_
          refine zE.getV (pc := 28) (fd_5_2 o i b) (ok_5 hi hb hn) kiX0 (Nat.le_of_ble_eq_true rfl) fl_X0_19 dX0_valueAtLast_28 ?_
          refine zJ.iload_n (pc := 31) 1 dX0_valueAtLast_31 rfl rfl ?_
          obtain ⟨hq, h⟩ := h
          refine zE.aldI (pc := 32) (ia_7 o i b) (ok_7 hi hb hn) hq dX0_valueAtLast_32 ?_
          exact zG.ret (pc := 33) (r := some (.int (S.1 (7, i, b) x1.toNatClampNeg))) ⟨dX0_valueAtLast_33, _, rfl, rfl⟩ h
    · replace h := h.2 c2
      refine zJ.iconst (pc := 9) (v := 0) dX0_valueAtLast_9 (by decide) ?_
      exact zG.ret (pc := 10) (r := some (.int 0)) ⟨dX0_valueAtLast_10, _, rfl, rfl⟩ h
set_option maxRecDepth 100000 in
set_option maxHeartbeats 4000000 in
theorem w_X0_valueAtLast_43 (o : zW) (n : Nat) (i : Nat) (hi : i < 8) (hn : z_sb i + 120 ≤ n) (b : Nat) (hb : b < 16) (x1 : Int32) (x2 : Int32) (x3 : Int32) (S : zS) (Q : Option Value → zS → Prop) (h : ((S.1 (5, i, b) 7) ≤ x3 → (Q (some (.int x2)) S)) ∧ (¬ (S.1 (5, i, b) 7) ≤ x3 → ((4 ≤ x3 → (Q (some (.int x2)) S)) ∧ (¬ 4 ≤ x3 → (vp_in x3 4 ∧ ((¬ (S.1 (8, i, b) x3.toNatClampNeg) = x1 → (zG o n mdX0_valueAtLast 43 [(0, .ref (z_adr o (5, i, b))), (1, .int x1), (2, .int x2), (3, .int (x3 + 1))] [] S Q)) ∧ ((S.1 (8, i, b) x3.toNatClampNeg) = x1 → (vp_in x3 4 ∧ (((S.1 (9, i, b) x3.toNatClampNeg) = (-1) → (zG o n mdX0_valueAtLast 43 [(0, .ref (z_adr o (5, i, b))), (1, .int x1), (2, .int x2), (3, .int (x3 + 1))] [] S Q)) ∧ (¬ (S.1 (9, i, b) x3.toNatClampNeg) = (-1) → (vp_in x3 4 ∧ (zG o n mdX0_valueAtLast 43 [(0, .ref (z_adr o (5, i, b))), (1, .int x1), (2, .int (S.1 (9, i, b) x3.toNatClampNeg)), (3, .int (x3 + 1))] [] S Q)))))))))))) : zG o n mdX0_valueAtLast 43 [(0, .ref (z_adr o (5, i, b))), (1, .int x1), (2, .int x2), (3, .int x3)] [] S Q := by
  show zJ o mdX0_valueAtLast 43 _ [] (n, z_enc o S) 0 0 _
  refine zJ.iload_n (pc := 43) 3 dX0_valueAtLast_43 rfl rfl ?_
  refine zJ.aload_n (pc := 44) 0 dX0_valueAtLast_44 rfl rfl ?_
  refine zE.getI (pc := 45) (fd_5_7 o i b) (ok_5 hi hb hn) kiX0 (Nat.le_of_ble_eq_true rfl) fl_X0_34 dX0_valueAtLast_45 ?_
  refine zJ.icmp_ge (pc := 48) (tgt := 89) dX0_valueAtLast_48 (by decide) (fun c1 => ?_) (fun c1 => ?_)
  · replace h := h.1 c1
    refine zJ.iload_n (pc := 89) 2 dX0_valueAtLast_89 rfl rfl ?_
    exact zG.ret (pc := 90) (r := some (.int x2)) ⟨dX0_valueAtLast_90, _, rfl, rfl⟩ h
  · replace h := h.2 c1
    refine zJ.iload_n (pc := 51) 3 dX0_valueAtLast_51 rfl rfl ?_
    refine zJ.iconst (pc := 52) (v := 4) dX0_valueAtLast_52 (by decide) ?_
    refine zJ.icmp_ge (pc := 53) (tgt := 89) dX0_valueAtLast_53 (by decide) (fun c2 => ?_) (fun c2 => ?_)
    · replace h := h.1 c2
      refine zJ.iload_n (pc := 89) 2 dX0_valueAtLast_89 rfl rfl ?_
      exact zG.ret (pc := 90) (r := some (.int x2)) ⟨dX0_valueAtLast_90, _, rfl, rfl⟩ h
    · replace h := h.2 c2
      refine zJ.aload_n (pc := 56) 0 dX0_valueAtLast_56 rfl rfl ?_
      refine zE.getV (pc := 57) (fd_5_3 o i b) (ok_5 hi hb hn) kiX0 (Nat.le_of_ble_eq_true rfl) fl_X0_22 dX0_valueAtLast_57 ?_
      refine zJ.iload_n (pc := 60) 3 dX0_valueAtLast_60 rfl rfl ?_
      obtain ⟨hq, h⟩ := h
      refine zE.aldI (pc := 61) (ia_8 o i b) (ok_8 hi hb hn) hq dX0_valueAtLast_61 ?_
      refine zJ.iload_n (pc := 62) 1 dX0_valueAtLast_62 rfl rfl ?_
      refine zJ.icmp_ne (pc := 63) (tgt := 83) dX0_valueAtLast_63 (by decide) (fun c3 => ?_) (fun c3 => ?_)
      · replace h := h.1 c3
        refine zJ.iinc (pc := 83) (k := 3) (lv' := [(3, .int (x3 + 1)), (0, .ref (z_adr o (5, i, b))), (1, .int x1), (2, .int x2)]) dX0_valueAtLast_83 rfl rfl (Nat.le_of_ble_eq_true rfl) rfl ?_
        refine zJ.goto (pc := 86) (tgt := 43) dX0_valueAtLast_86 (by decide) ?_
        exact zJ.sub [1, 2, 3, 0] rfl h
      · replace h := h.2 c3
        refine zJ.aload_n (pc := 66) 0 dX0_valueAtLast_66 rfl rfl ?_
        refine zE.getV (pc := 67) (fd_5_4 o i b) (ok_5 hi hb hn) kiX0 (Nat.le_of_ble_eq_true rfl) fl_X0_25 dX0_valueAtLast_67 ?_
        refine zJ.iload_n (pc := 70) 3 dX0_valueAtLast_70 rfl rfl ?_
        obtain ⟨hq, h⟩ := h
        refine zE.aldI (pc := 71) (ia_9 o i b) (ok_9 hi hb hn) hq dX0_valueAtLast_71 ?_
        refine zJ.iconst (pc := 72) (v := (-1)) dX0_valueAtLast_72 (by decide) ?_
        refine zJ.icmp_eq (pc := 73) (tgt := 83) dX0_valueAtLast_73 (by decide) (fun c4 => ?_) (fun c4 => ?_)
        · replace h := h.1 c4
          refine zJ.iinc (pc := 83) (k := 3) (lv' := [(3, .int (x3 + 1)), (0, .ref (z_adr o (5, i, b))), (1, .int x1), (2, .int x2)]) dX0_valueAtLast_83 rfl rfl (Nat.le_of_ble_eq_true rfl) rfl ?_
          refine zJ.goto (pc := 86) (tgt := 43) dX0_valueAtLast_86 (by decide) ?_
          exact zJ.sub [1, 2, 3, 0] rfl h
        · replace h := h.2 c4
          refine zJ.aload_n (pc := 76) 0 dX0_valueAtLast_76 rfl rfl ?_
          refine zE.getV (pc := 77) (fd_5_4 o i b) (ok_5 hi hb hn) kiX0 (Nat.le_of_ble_eq_true rfl) fl_X0_25 dX0_valueAtLast_77 ?_
          refine zJ.iload_n (pc := 80) 3 dX0_valueAtLast_80 rfl rfl ?_
          obtain ⟨hq, h⟩ := h
          refine zE.aldI (pc := 81) (ia_9 o i b) (ok_9 hi hb hn) hq dX0_valueAtLast_81 ?_
          refine zJ.istore_n (pc := 82) (lv' := [(2, .int (S.1 (9, i, b) x3.toNatClampNeg)), (0, .ref (z_adr o (5, i, b))), (1, .int x1), (3, .int x3)]) dX0_valueAtLast_82 rfl (Nat.le_of_ble_eq_true rfl) rfl ?_
          refine zJ.iinc (pc := 83) (k := 3) (lv' := [(3, .int (x3 + 1)), (2, .int (S.1 (9, i, b) x3.toNatClampNeg)), (0, .ref (z_adr o (5, i, b))), (1, .int x1)]) dX0_valueAtLast_83 rfl rfl (Nat.le_of_ble_eq_true rfl) rfl ?_
          refine zJ.goto (pc := 86) (tgt := 43) dX0_valueAtLast_86 (by decide) ?_
          exact zJ.sub [2, 3, 1, 0] rfl h
set_option maxRecDepth 100000 in
set_option maxHeartbeats 4000000 in
theorem w_X0_addAsker_0 (o : zW) (n : Nat) (i : Nat) (hi : i < 8) (hn : z_sb i + 120 ≤ n) (b : Nat) (hb : b < 16) (x1 : Int32) (x2 : Int32) (x3 : Int32) (x4 : Int32) (S : zS) (Q : Option Value → zS → Prop) (h : ((S.1 (5, i, b) 7) < 0 → (Q none S)) ∧ (¬ (S.1 (5, i, b) 7) < 0 → (((S.1 (5, i, b) 7) < 4 → (vp_in (S.1 (5, i, b) 7) 4 ∧ (∀ y3 : Int32, y3 = ((sI S (8, i, b) ((S.1 (5, i, b) 7).toNatClampNeg) x1).1 (5, i, b) 7) → (vp_in y3 4 ∧ (∀ S4 : zS, S4 = (sI (sI S (8, i, b) ((S.1 (5, i, b) 7).toNatClampNeg) x1) (9, i, b) (y3.toNatClampNeg) x2) → (vp_in (S4.1 (5, i, b) 7) 4 ∧ (∀ y5 : Int32, y5 = ((sI S4 (10, i, b) ((S4.1 (5, i, b) 7).toNatClampNeg) x3).1 (5, i, b) 7) → (vp_in y5 4 ∧ (∀ S6 : zS, S6 = (sI (sI S4 (10, i, b) ((S4.1 (5, i, b) 7).toNatClampNeg) x3) (11, i, b) (y5.toNatClampNeg) x4) → (Q none (sI S6 (5, i, b) 7 ((S6.1 (5, i, b) 7) + 1)))))))))))) ∧ (¬ (S.1 (5, i, b) 7) < 4 → (Q none S))))) : zG o n mdX0_addAsker 0 [(0, .ref (z_adr o (5, i, b))), (1, .int x1), (2, .int x2), (3, .int x3), (4, .int x4)] [] S Q := by
  show zJ o mdX0_addAsker 0 _ [] (n, z_enc o S) 0 0 _
  refine zJ.aload_n (pc := 0) 0 dX0_addAsker_0 rfl rfl ?_
  refine zE.getI (pc := 1) (fd_5_7 o i b) (ok_5 hi hb hn) kiX0 (Nat.le_of_ble_eq_true rfl) fl_X0_34 dX0_addAsker_1 ?_
  refine zJ.if_lt (pc := 4) (tgt := 15) dX0_addAsker_4 (by decide) (fun c1 => ?_) (fun c1 => ?_)
  · replace h := h.1 c1
    exact zG.ret (pc := 15) (r := none) ⟨dX0_addAsker_15, rfl⟩ h
  · replace h := h.2 c1
    refine zJ.aload_n (pc := 7) 0 dX0_addAsker_7 rfl rfl ?_
    refine zE.getI (pc := 8) (fd_5_7 o i b) (ok_5 hi hb hn) kiX0 (Nat.le_of_ble_eq_true rfl) fl_X0_34 dX0_addAsker_8 ?_
    refine zJ.iconst (pc := 11) (v := 4) dX0_addAsker_11 (by decide) ?_
    refine zJ.icmp_lt (pc := 12) (tgt := 16) dX0_addAsker_12 (by decide) (fun c2 => ?_) (fun c2 => ?_)
    · replace h := h.1 c2
      refine zJ.aload_n (pc := 16) 0 dX0_addAsker_16 rfl rfl ?_
      refine zE.getV (pc := 17) (fd_5_3 o i b) (ok_5 hi hb hn) kiX0 (Nat.le_of_ble_eq_true rfl) fl_X0_22 dX0_addAsker_17 ?_
      refine zJ.aload_n (pc := 20) 0 dX0_addAsker_20 rfl rfl ?_
      refine zE.getI (pc := 21) (fd_5_7 o i b) (ok_5 hi hb hn) kiX0 (Nat.le_of_ble_eq_true rfl) fl_X0_34 dX0_addAsker_21 ?_
      refine zJ.iload_n (pc := 24) 1 dX0_addAsker_24 rfl rfl ?_
      obtain ⟨hq, h⟩ := h
      refine zE.astI (pc := 25) (ia_8 o i b) (ok_8 hi hb hn) hq dX0_addAsker_25 ?_
      refine zJ.aload_n (pc := 26) 0 dX0_addAsker_26 rfl rfl ?_
      refine zE.getV (pc := 27) (fd_5_4 o i b) (ok_5 hi hb hn) kiX0 (Nat.le_of_ble_eq_true rfl) fl_X0_25 dX0_addAsker_27 ?_
      refine zJ.aload_n (pc := 30) 0 dX0_addAsker_30 rfl rfl ?_
      refine zE.getI (pc := 31) (fd_5_7 o i b) (ok_5 hi hb hn) kiX0 (Nat.le_of_ble_eq_true rfl) fl_X0_34 dX0_addAsker_31 ?_
      refine zJ.topi (fun y3 hyy3 => ?_)
      replace h := h y3 hyy3
      refine zJ.iload_n (pc := 34) 2 dX0_addAsker_34 rfl rfl ?_
      obtain ⟨hq, h⟩ := h
      refine zE.astI (pc := 35) (ia_9 o i b) (ok_9 hi hb hn) hq dX0_addAsker_35 ?_
      refine zJ.nameS (fun S4 hyS4 => ?_)
      replace h := h S4 hyS4
      refine zJ.aload_n (pc := 36) 0 dX0_addAsker_36 rfl rfl ?_
      refine zE.getV (pc := 37) (fd_5_5 o i b) (ok_5 hi hb hn) kiX0 (Nat.le_of_ble_eq_true rfl) fl_X0_28 dX0_addAsker_37 ?_
      refine zJ.aload_n (pc := 40) 0 dX0_addAsker_40 rfl rfl ?_
      refine zE.getI (pc := 41) (fd_5_7 o i b) (ok_5 hi hb hn) kiX0 (Nat.le_of_ble_eq_true rfl) fl_X0_34 dX0_addAsker_41 ?_
      refine zJ.iload_n (pc := 44) 3 dX0_addAsker_44 rfl rfl ?_
      obtain ⟨hq, h⟩ := h
      refine zE.astI (pc := 45) (ia_10 o i b) (ok_10 hi hb hn) hq dX0_addAsker_45 ?_
      refine zJ.aload_n (pc := 46) 0 dX0_addAsker_46 rfl rfl ?_
      refine zE.getV (pc := 47) (fd_5_6 o i b) (ok_5 hi hb hn) kiX0 (Nat.le_of_ble_eq_true rfl) fl_X0_31 dX0_addAsker_47 ?_
      refine zJ.aload_n (pc := 50) 0 dX0_addAsker_50 rfl rfl ?_
      refine zE.getI (pc := 51) (fd_5_7 o i b) (ok_5 hi hb hn) kiX0 (Nat.le_of_ble_eq_true rfl) fl_X0_34 dX0_addAsker_51 ?_
      refine zJ.topi (fun y5 hyy5 => ?_)
      replace h := h y5 hyy5
      refine zJ.iload (pc := 54) 4 dX0_addAsker_54 rfl ?_
      obtain ⟨hq, h⟩ := h
      refine zE.astI (pc := 56) (ia_11 o i b) (ok_11 hi hb hn) hq dX0_addAsker_56 ?_
      refine zJ.nameS (fun S6 hyS6 => ?_)
      replace h := h S6 hyS6
      refine zJ.aload_n (pc := 57) 0 dX0_addAsker_57 rfl rfl ?_
      refine zJ.dup (pc := 58) dX0_addAsker_58 rfl ?_
      refine zE.getI (pc := 59) (fd_5_7 o i b) (ok_5 hi hb hn) kiX0 (Nat.le_of_ble_eq_true rfl) fl_X0_34 dX0_addAsker_59 ?_
      refine zJ.iconst (pc := 62) (v := 1) dX0_addAsker_62 (by decide) ?_
      refine zJ.iadd (pc := 63) dX0_addAsker_63 ?_
      refine zE.putI (pc := 64) (fd_5_7 o i b) (ok_5 hi hb hn) kiX0 (Nat.le_of_ble_eq_true rfl) fl_X0_34 rfl rfl dX0_addAsker_64 ?_
      exact zG.ret (pc := 67) (r := none) ⟨dX0_addAsker_67, rfl⟩ h
    · replace h := h.2 c2
      exact zG.ret (pc := 15) (r := none) ⟨dX0_addAsker_15, rfl⟩ h
set_option maxRecDepth 100000 in
set_option maxHeartbeats 4000000 in
theorem w_X0_takeFromFar_0 (o : zW) (n : Nat) (i : Nat) (hi : i < 8) (hn : z_sb i + 120 ≤ n) (b : Nat) (hb : b < 16) (S : zS) (Q : Option Value → zS → Prop) (h : Q none (sI (sC S (6, i, b) (7, i, b) 0 0 4) (5, i, b) 9 0)) : zG o n mdX0_takeFromFar 0 [(0, .ref (z_adr o (5, i, b)))] [] S Q := by
  show zJ o mdX0_takeFromFar 0 _ [] (n, z_enc o S) 0 0 _
  refine zJ.aload_n (pc := 0) 0 dX0_takeFromFar_0 rfl rfl ?_
  refine zE.getV (pc := 1) (fd_5_1 o i b) (ok_5 hi hb hn) kiX0 (Nat.le_of_ble_eq_true rfl) fl_X0_15 dX0_takeFromFar_1 ?_
  refine zJ.iconst (pc := 4) (v := 0) dX0_takeFromFar_4 (by decide) ?_
  refine zJ.aload_n (pc := 5) 0 dX0_takeFromFar_5 rfl rfl ?_
  refine zE.getV (pc := 6) (fd_5_2 o i b) (ok_5 hi hb hn) kiX0 (Nat.le_of_ble_eq_true rfl) fl_X0_19 dX0_takeFromFar_6 ?_
  refine zJ.iconst (pc := 9) (v := 0) dX0_takeFromFar_9 (by decide) ?_
  refine zJ.iconst (pc := 10) (v := 4) dX0_takeFromFar_10 (by decide) ?_
  refine zE.copy (pc := 11) ⟨ml_X0_50, ac_n, ac_s, ac_i⟩ (ia_6 o i b) (ia_7 o i b) (ok_6 hi hb hn) (ok_7 hi hb hn) (by decide) (by decide) (by decide) (by decide) (by decide) (Nat.le_of_ble_eq_true rfl) (by decide) dX0_takeFromFar_11 ?_
  refine zJ.aload_n (pc := 14) 0 dX0_takeFromFar_14 rfl rfl ?_
  refine zJ.iconst (pc := 15) (v := 0) dX0_takeFromFar_15 (by decide) ?_
  refine zE.putI (pc := 16) (fd_5_9 o i b) (ok_5 hi hb hn) kiX0 (Nat.le_of_ble_eq_true rfl) fl_X0_40 rfl rfl dX0_takeFromFar_16 ?_
  exact zG.ret (pc := 19) (r := none) ⟨dX0_takeFromFar_19, rfl⟩ h
set_option maxRecDepth 100000 in
set_option maxHeartbeats 4000000 in
theorem w_X0_goFar_0 (o : zW) (n : Nat) (i : Nat) (hi : i < 8) (hn : z_sb i + 120 ≤ n) (b : Nat) (hb : b < 16) (S : zS) (Q : Option Value → zS → Prop) (h : zG o n mdX0_goFar 2 [(0, .ref (z_adr o (5, i, b))), (1, .int 0)] [] S Q) : zG o n mdX0_goFar 0 [(0, .ref (z_adr o (5, i, b)))] [] S Q := by
  show zJ o mdX0_goFar 0 _ [] (n, z_enc o S) 0 0 _
  refine zJ.iconst (pc := 0) (v := 0) dX0_goFar_0 (by decide) ?_
  refine zJ.istore_n (pc := 1) (lv' := [(1, .int 0), (0, .ref (z_adr o (5, i, b)))]) dX0_goFar_1 rfl (Nat.le_of_ble_eq_true rfl) rfl ?_
  exact zJ.sub [1, 0] rfl h
set_option maxRecDepth 100000 in
set_option maxHeartbeats 4000000 in
theorem w_X0_goFar_2 (o : zW) (n : Nat) (i : Nat) (hi : i < 8) (hn : z_sb i + 120 ≤ n) (b : Nat) (hb : b < 16) (x1 : Int32) (S : zS) (Q : Option Value → zS → Prop) (h : (4 ≤ x1 → (∀ S2 : zS, S2 = (sI (sI (sI S (5, i, b) 8 0) (5, i, b) 9 0) (5, i, b) 10 (2000000000 : Int32)) → (Q none S2))) ∧ (¬ 4 ≤ x1 → ((¬ (((S.1 (5, i, b) 9) >>> (x1 &&& 31)) &&& 1) = 1 → (zG o n mdX0_goFar 2 [(0, .ref (z_adr o (5, i, b))), (1, .int (x1 + 1))] [] S Q)) ∧ ((((S.1 (5, i, b) 9) >>> (x1 &&& 31)) &&& 1) = 1 → (vp_in x1 4 ∧ (vp_in x1 4 ∧ (zG o n mdX0_goFar 2 [(0, .ref (z_adr o (5, i, b))), (1, .int (x1 + 1))] [] (sI S (6, i, b) (x1.toNatClampNeg) (S.1 (7, i, b) x1.toNatClampNeg)) Q))))))) : zG o n mdX0_goFar 2 [(0, .ref (z_adr o (5, i, b))), (1, .int x1)] [] S Q := by
  show zJ o mdX0_goFar 2 _ [] (n, z_enc o S) 0 0 _
  refine zJ.iload_n (pc := 2) 1 dX0_goFar_2 rfl rfl ?_
  refine zJ.iconst (pc := 3) (v := 4) dX0_goFar_3 (by decide) ?_
  refine zJ.icmp_ge (pc := 4) (tgt := 37) dX0_goFar_4 (by decide) (fun c1 => ?_) (fun c1 => ?_)
  · replace h := h.1 c1
    refine zJ.aload_n (pc := 37) 0 dX0_goFar_37 rfl rfl ?_
    refine zJ.iconst (pc := 38) (v := 0) dX0_goFar_38 (by decide) ?_
    refine zE.putI (pc := 39) (fd_5_8 o i b) (ok_5 hi hb hn) kiX0 (Nat.le_of_ble_eq_true rfl) fl_X0_37 rfl rfl dX0_goFar_39 ?_
    refine zJ.aload_n (pc := 42) 0 dX0_goFar_42 rfl rfl ?_
    refine zJ.iconst (pc := 43) (v := 0) dX0_goFar_43 (by decide) ?_
    refine zE.putI (pc := 44) (fd_5_9 o i b) (ok_5 hi hb hn) kiX0 (Nat.le_of_ble_eq_true rfl) fl_X0_40 rfl rfl dX0_goFar_44 ?_
    refine zJ.aload_n (pc := 47) 0 dX0_goFar_47 rfl rfl ?_
    refine zJ.ldc (pc := 48) lc_X0_43 dX0_goFar_48 ?_
    refine zE.putI (pc := 50) (fd_5_10 o i b) (ok_5 hi hb hn) kiX0 (Nat.le_of_ble_eq_true rfl) fl_X0_44 rfl rfl dX0_goFar_50 ?_
    refine zJ.nameS (fun S2 hyS2 => ?_)
    replace h := h S2 hyS2
    exact zG.ret (pc := 53) (r := none) ⟨dX0_goFar_53, rfl⟩ h
  · replace h := h.2 c1
    refine zJ.aload_n (pc := 7) 0 dX0_goFar_7 rfl rfl ?_
    refine zE.getI (pc := 8) (fd_5_9 o i b) (ok_5 hi hb hn) kiX0 (Nat.le_of_ble_eq_true rfl) fl_X0_40 dX0_goFar_8 ?_
    refine zJ.iload_n (pc := 11) 1 dX0_goFar_11 rfl rfl ?_
    refine zJ.ishr (pc := 12) dX0_goFar_12 ?_
    refine zJ.iconst (pc := 13) (v := 1) dX0_goFar_13 (by decide) ?_
    refine zJ.iand (pc := 14) dX0_goFar_14 ?_
    refine zJ.iconst (pc := 15) (v := 1) dX0_goFar_15 (by decide) ?_
    refine zJ.icmp_ne (pc := 16) (tgt := 31) dX0_goFar_16 (by decide) (fun c3 => ?_) (fun c3 => ?_)
    · replace h := h.1 c3
      refine zJ.iinc (pc := 31) (k := 1) (lv' := [(1, .int (x1 + 1)), (0, .ref (z_adr o (5, i, b)))]) dX0_goFar_31 rfl rfl (Nat.le_of_ble_eq_true rfl) rfl ?_
      refine zJ.goto (pc := 34) (tgt := 2) dX0_goFar_34 (by decide) ?_
      exact zJ.sub [1, 0] rfl h
    · replace h := h.2 c3
      refine zJ.aload_n (pc := 19) 0 dX0_goFar_19 rfl rfl ?_
      refine zE.getV (pc := 20) (fd_5_1 o i b) (ok_5 hi hb hn) kiX0 (Nat.le_of_ble_eq_true rfl) fl_X0_15 dX0_goFar_20 ?_
      refine zJ.iload_n (pc := 23) 1 dX0_goFar_23 rfl rfl ?_
      refine zJ.aload_n (pc := 24) 0 dX0_goFar_24 rfl rfl ?_
      refine zE.getV (pc := 25) (fd_5_2 o i b) (ok_5 hi hb hn) kiX0 (Nat.le_of_ble_eq_true rfl) fl_X0_19 dX0_goFar_25 ?_
      refine zJ.iload_n (pc := 28) 1 dX0_goFar_28 rfl rfl ?_
      obtain ⟨hq, h⟩ := h
      refine zE.aldI (pc := 29) (ia_7 o i b) (ok_7 hi hb hn) hq dX0_goFar_29 ?_
      obtain ⟨hq, h⟩ := h
      refine zE.astI (pc := 30) (ia_6 o i b) (ok_6 hi hb hn) hq dX0_goFar_30 ?_
      refine zJ.iinc (pc := 31) (k := 1) (lv' := [(1, .int (x1 + 1)), (0, .ref (z_adr o (5, i, b)))]) dX0_goFar_31 rfl rfl (Nat.le_of_ble_eq_true rfl) rfl ?_
      refine zJ.goto (pc := 34) (tgt := 2) dX0_goFar_34 (by decide) ?_
      exact zJ.sub [1, 0] rfl h
set_option maxRecDepth 100000 in
set_option maxHeartbeats 4000000 in
theorem w_X0_layIn_0 (o : zW) (n : Nat) (i : Nat) (hi : i < 8) (hn : z_sb i + 120 ≤ n) (b : Nat) (hb : b < 16) (x1 : Int32) (x2 : Int32) (S : zS) (Q : Option Value → zS → Prop) (h : (x1 < 0 → (Q none S)) ∧ (¬ x1 < 0 → ((4 ≤ x1 → (Q none S)) ∧ (¬ 4 ≤ x1 → (vp_in x1 4 ∧ (∀ y3 : Int32, y3 = (((sI S (7, i, b) (x1.toNatClampNeg) x2).1 (5, i, b) 9) ||| (1 <<< (x1 &&& 31))) → (Q none (sI (sI S (7, i, b) (x1.toNatClampNeg) x2) (5, i, b) 9 y3)))))))) : zG o n mdX0_layIn 0 [(0, .ref (z_adr o (5, i, b))), (1, .int x1), (2, .int x2)] [] S Q := by
  show zJ o mdX0_layIn 0 _ [] (n, z_enc o S) 0 0 _
  refine zJ.iload_n (pc := 0) 1 dX0_layIn_0 rfl rfl ?_
  refine zJ.if_lt (pc := 1) (tgt := 28) dX0_layIn_1 (by decide) (fun c1 => ?_) (fun c1 => ?_)
  · replace h := h.1 c1
    exact zG.ret (pc := 28) (r := none) ⟨dX0_layIn_28, rfl⟩ h
  · replace h := h.2 c1
    refine zJ.iload_n (pc := 4) 1 dX0_layIn_4 rfl rfl ?_
    refine zJ.iconst (pc := 5) (v := 4) dX0_layIn_5 (by decide) ?_
    refine zJ.icmp_ge (pc := 6) (tgt := 28) dX0_layIn_6 (by decide) (fun c2 => ?_) (fun c2 => ?_)
    · replace h := h.1 c2
      exact zG.ret (pc := 28) (r := none) ⟨dX0_layIn_28, rfl⟩ h
    · replace h := h.2 c2
      refine zJ.aload_n (pc := 9) 0 dX0_layIn_9 rfl rfl ?_
      refine zE.getV (pc := 10) (fd_5_2 o i b) (ok_5 hi hb hn) kiX0 (Nat.le_of_ble_eq_true rfl) fl_X0_19 dX0_layIn_10 ?_
      refine zJ.iload_n (pc := 13) 1 dX0_layIn_13 rfl rfl ?_
      refine zJ.iload_n (pc := 14) 2 dX0_layIn_14 rfl rfl ?_
      obtain ⟨hq, h⟩ := h
      refine zE.astI (pc := 15) (ia_7 o i b) (ok_7 hi hb hn) hq dX0_layIn_15 ?_
      refine zJ.aload_n (pc := 16) 0 dX0_layIn_16 rfl rfl ?_
      refine zJ.dup (pc := 17) dX0_layIn_17 rfl ?_
      refine zE.getI (pc := 18) (fd_5_9 o i b) (ok_5 hi hb hn) kiX0 (Nat.le_of_ble_eq_true rfl) fl_X0_40 dX0_layIn_18 ?_
      refine zJ.iconst (pc := 21) (v := 1) dX0_layIn_21 (by decide) ?_
      refine zJ.iload_n (pc := 22) 1 dX0_layIn_22 rfl rfl ?_
      refine zJ.ishl (pc := 23) dX0_layIn_23 ?_
      refine zJ.ior (pc := 24) dX0_layIn_24 ?_
      refine zJ.topi (fun y3 hyy3 => ?_)
      replace h := h y3 hyy3
      refine zE.putI (pc := 25) (fd_5_9 o i b) (ok_5 hi hb hn) kiX0 (Nat.le_of_ble_eq_true rfl) fl_X0_40 rfl rfl dX0_layIn_25 ?_
      exact zG.ret (pc := 28) (r := none) ⟨dX0_layIn_28, rfl⟩ h
