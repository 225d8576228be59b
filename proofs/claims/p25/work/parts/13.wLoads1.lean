set_option maxRecDepth 100000 in
set_option maxHeartbeats 4000000 in
theorem w_X1_renew_0 (o : zW) (n : Nat) (i : Nat) (hi : i < 8) (hn : z_sb i + 120 ≤ n) (S : zS) (Q : Option Value → zS → Prop) (h : ∀ S1 : zS, S1 = (sL (sI (sI (sI S (12, i, 0) 3 0) (12, i, 0) 4 0) (12, i, 0) 5 0) (12, i, 0) 6 0) → (Q none (sL S1 (12, i, 0) 7 0))) : zG o n mdX1_renew 0 [(0, .ref (z_adr o (12, i, 0)))] [] S Q := by
  show zJ o mdX1_renew 0 _ [] (n, z_enc o S) 0 0 _
  refine zJ.aload_n (pc := 0) 0 dX1_renew_0 rfl rfl ?_
  refine zJ.iconst (pc := 1) (v := 0) dX1_renew_1 (by decide) ?_
  refine zE.putI (pc := 2) (fd_12_3 o i) (ok_12 hi hn) kiX1 (Nat.le_of_ble_eq_true rfl) fl_X1_21 rfl rfl dX1_renew_2 ?_
  refine zJ.aload_n (pc := 5) 0 dX1_renew_5 rfl rfl ?_
  refine zJ.iconst (pc := 6) (v := 0) dX1_renew_6 (by decide) ?_
  refine zE.putI (pc := 7) (fd_12_4 o i) (ok_12 hi hn) kiX1 (Nat.le_of_ble_eq_true rfl) fl_X1_25 rfl rfl dX1_renew_7 ?_
  refine zJ.aload_n (pc := 10) 0 dX1_renew_10 rfl rfl ?_
  refine zJ.iconst (pc := 11) (v := 0) dX1_renew_11 (by decide) ?_
  refine zE.putI (pc := 12) (fd_12_5 o i) (ok_12 hi hn) kiX1 (Nat.le_of_ble_eq_true rfl) fl_X1_28 rfl rfl dX1_renew_12 ?_
  refine zJ.aload_n (pc := 15) 0 dX1_renew_15 rfl rfl ?_
  refine zJ.lconst (pc := 16) (v := 0) dX1_renew_16 (by decide) ?_
  refine zE.putL (pc := 17) (fd_12_6 o i) (ok_12 hi hn) kiX1 (Nat.le_of_ble_eq_true rfl) fl_X1_31 rfl rfl dX1_renew_17 ?_
  refine zJ.nameS (fun S1 hyS1 => ?_)
  replace h := h S1 hyS1
  refine zJ.aload_n (pc := 20) 0 dX1_renew_20 rfl rfl ?_
  refine zJ.lconst (pc := 21) (v := 0) dX1_renew_21 (by decide) ?_
  refine zE.putL (pc := 22) (fd_12_7 o i) (ok_12 hi hn) kiX1 (Nat.le_of_ble_eq_true rfl) fl_X1_35 rfl rfl dX1_renew_22 ?_
  exact zG.ret (pc := 25) (r := none) ⟨dX1_renew_25, rfl⟩ h
set_option maxRecDepth 100000 in
set_option maxHeartbeats 4000000 in
theorem w_X1_become_0 (o : zW) (n : Nat) (i : Nat) (hi : i < 8) (hn : z_sb i + 120 ≤ n) (i2 : Nat) (hi2 : i2 < 8) (hn2 : z_sb i2 + 120 ≤ n) (S : zS) (Q : Option Value → zS → Prop) (h : ∀ y2 : Int32, y2 = (if 200 < (S.1 (12, i2, 0) 3) then 200 else (S.1 (12, i2, 0) 3)) → (¬ (if 0 < y2 then y2 else 0) < 0 ∧ (if 0 < y2 then y2 else 0).toNatClampNeg ≤ 200 ∧ (∀ S5 : zS, S5 = (sC S (13, i2, 0) (13, i, 0) 0 0 ((if 0 < y2 then y2 else 0).toNatClampNeg)) → (¬ (if 0 < y2 then y2 else 0) < 0 ∧ (if 0 < y2 then y2 else 0).toNatClampNeg ≤ 200 ∧ (∀ S7 : zS, S7 = (sC S5 (14, i2, 0) (14, i, 0) 0 0 ((if 0 < y2 then y2 else 0).toNatClampNeg)) → (¬ (if 0 < y2 then y2 else 0) < 0 ∧ (if 0 < y2 then y2 else 0).toNatClampNeg ≤ 200 ∧ (∀ S9 : zS, S9 = (sC S7 (15, i2, 0) (15, i, 0) 0 0 ((if 0 < y2 then y2 else 0).toNatClampNeg)) → (∀ S10 : zS, S10 = (sI (sI S9 (12, i, 0) 3 (S9.1 (12, i2, 0) 3)) (12, i, 0) 4 ((sI S9 (12, i, 0) 3 (S9.1 (12, i2, 0) 3)).1 (12, i2, 0) 4)) → (∀ S11 : zS, S11 = (sL (sI S10 (12, i, 0) 5 (S10.1 (12, i2, 0) 5)) (12, i, 0) 6 ((sI S10 (12, i, 0) 5 (S10.1 (12, i2, 0) 5)).2.1 (12, i2, 0) 6)) → (Q none (sL S11 (12, i, 0) 7 (S11.2.1 (12, i2, 0) 7)))))))))))) : zG o n mdX1_become 0 [(0, .ref (z_adr o (12, i, 0))), (1, .ref (z_adr o (12, i2, 0)))] [] S Q := by
  show zJ o mdX1_become 0 _ [] (n, z_enc o S) 0 0 _
  refine zJ.iconst (pc := 0) (v := 0) dX1_become_0 (by decide) ?_
  refine zJ.aload_n (pc := 1) 1 dX1_become_1 rfl rfl ?_
  refine zE.getI (pc := 2) (fd_12_3 o i2) (ok_12 hi2 hn2) kiX1 (Nat.le_of_ble_eq_true rfl) fl_X1_21 dX1_become_2 ?_
  refine zJ.sipush (pc := 5) (v := 200) dX1_become_5 (by decide) ?_
  refine zJ.mmin (pc := 8) ml_X1_38 mt_s_min mt_i mt_c_min (Nat.le_of_ble_eq_true rfl) (Nat.le_of_ble_eq_true rfl) dX1_become_8 ?_
  refine zJ.topi (fun y2 hyy2 => ?_)
  replace h := h y2 hyy2
  refine zJ.mmax (pc := 11) ml_X1_44 mt_s_max mt_i mt_c_max (Nat.le_of_ble_eq_true rfl) (Nat.le_of_ble_eq_true rfl) dX1_become_11 ?_
  refine zJ.istore_n (pc := 14) (lv' := [(2, .int (if 0 < y2 then y2 else 0)), (0, .ref (z_adr o (12, i, 0))), (1, .ref (z_adr o (12, i2, 0)))]) dX1_become_14 rfl (Nat.le_of_ble_eq_true rfl) rfl ?_
  refine zJ.aload_n (pc := 15) 2 dX1_become_15 rfl rfl ?_
  refine zE.getV (pc := 16) (fd_12_0 o i2) (ok_12 hi2 hn2) kiX1 (Nat.le_of_ble_eq_true rfl) fl_X1_9 dX1_become_16 ?_
  refine zJ.iconst (pc := 19) (v := 0) dX1_become_19 (by decide) ?_
  refine zJ.aload_n (pc := 20) 1 dX1_become_20 rfl rfl ?_
  refine zE.getV (pc := 21) (fd_12_0 o i) (ok_12 hi hn) kiX1 (Nat.le_of_ble_eq_true rfl) fl_X1_9 dX1_become_21 ?_
  refine zJ.iconst (pc := 24) (v := 0) dX1_become_24 (by decide) ?_
  refine zJ.iload_n (pc := 25) 0 dX1_become_25 rfl rfl ?_
  obtain ⟨hq1, hq2, h⟩ := h
  refine zE.copy (pc := 26) ⟨ml_X1_47, ac_n, ac_s, ac_i⟩ (ia_13 o i2) (ia_13 o i) (ok_13 hi2 hn2) (ok_13 hi hn) (by decide) (by decide) hq1 (by show 0 + _ ≤ _; omega) (by show 0 + _ ≤ _; omega) (Nat.le_of_ble_eq_true rfl) (by decide) dX1_become_26 ?_
  refine zJ.nameS (fun S5 hyS5 => ?_)
  replace h := h S5 hyS5
  refine zJ.aload_n (pc := 29) 2 dX1_become_29 rfl rfl ?_
  refine zE.getV (pc := 30) (fd_12_1 o i2) (ok_12 hi2 hn2) kiX1 (Nat.le_of_ble_eq_true rfl) fl_X1_15 dX1_become_30 ?_
  refine zJ.iconst (pc := 33) (v := 0) dX1_become_33 (by decide) ?_
  refine zJ.aload_n (pc := 34) 1 dX1_become_34 rfl rfl ?_
  refine zE.getV (pc := 35) (fd_12_1 o i) (ok_12 hi hn) kiX1 (Nat.le_of_ble_eq_true rfl) fl_X1_15 dX1_become_35 ?_
  refine zJ.iconst (pc := 38) (v := 0) dX1_become_38 (by decide) ?_
  refine zJ.iload_n (pc := 39) 0 dX1_become_39 rfl rfl ?_
  obtain ⟨hq1, hq2, h⟩ := h
  refine zE.copy (pc := 40) ⟨ml_X1_47, ac_n, ac_s, ac_i⟩ (ia_14 o i2) (ia_14 o i) (ok_14 hi2 hn2) (ok_14 hi hn) (by decide) (by decide) hq1 (by show 0 + _ ≤ _; omega) (by show 0 + _ ≤ _; omega) (Nat.le_of_ble_eq_true rfl) (by decide) dX1_become_40 ?_
  refine zJ.nameS (fun S7 hyS7 => ?_)
  replace h := h S7 hyS7
  refine zJ.aload_n (pc := 43) 2 dX1_become_43 rfl rfl ?_
  refine zE.getV (pc := 44) (fd_12_2 o i2) (ok_12 hi2 hn2) kiX1 (Nat.le_of_ble_eq_true rfl) fl_X1_18 dX1_become_44 ?_
  refine zJ.iconst (pc := 47) (v := 0) dX1_become_47 (by decide) ?_
  refine zJ.aload_n (pc := 48) 1 dX1_become_48 rfl rfl ?_
  refine zE.getV (pc := 49) (fd_12_2 o i) (ok_12 hi hn) kiX1 (Nat.le_of_ble_eq_true rfl) fl_X1_18 dX1_become_49 ?_
  refine zJ.iconst (pc := 52) (v := 0) dX1_become_52 (by decide) ?_
  refine zJ.iload_n (pc := 53) 0 dX1_become_53 rfl rfl ?_
  obtain ⟨hq1, hq2, h⟩ := h
  refine zE.copy (pc := 54) ⟨ml_X1_47, ac_n, ac_s, ac_i⟩ (ia_15 o i2) (ia_15 o i) (ok_15 hi2 hn2) (ok_15 hi hn) (by decide) (by decide) hq1 (by show 0 + _ ≤ _; omega) (by show 0 + _ ≤ _; omega) (Nat.le_of_ble_eq_true rfl) (by decide) dX1_become_54 ?_
  refine zJ.nameS (fun S9 hyS9 => ?_)
  replace h := h S9 hyS9
  refine zJ.aload_n (pc := 57) 1 dX1_become_57 rfl rfl ?_
  refine zJ.aload_n (pc := 58) 2 dX1_become_58 rfl rfl ?_
  refine zE.getI (pc := 59) (fd_12_3 o i2) (ok_12 hi2 hn2) kiX1 (Nat.le_of_ble_eq_true rfl) fl_X1_21 dX1_become_59 ?_
  refine zE.putI (pc := 62) (fd_12_3 o i) (ok_12 hi hn) kiX1 (Nat.le_of_ble_eq_true rfl) fl_X1_21 rfl rfl dX1_become_62 ?_
  refine zJ.aload_n (pc := 65) 1 dX1_become_65 rfl rfl ?_
  refine zJ.aload_n (pc := 66) 2 dX1_become_66 rfl rfl ?_
  refine zE.getI (pc := 67) (fd_12_4 o i2) (ok_12 hi2 hn2) kiX1 (Nat.le_of_ble_eq_true rfl) fl_X1_25 dX1_become_67 ?_
  refine zE.putI (pc := 70) (fd_12_4 o i) (ok_12 hi hn) kiX1 (Nat.le_of_ble_eq_true rfl) fl_X1_25 rfl rfl dX1_become_70 ?_
  refine zJ.nameS (fun S10 hyS10 => ?_)
  replace h := h S10 hyS10
  refine zJ.aload_n (pc := 73) 1 dX1_become_73 rfl rfl ?_
  refine zJ.aload_n (pc := 74) 2 dX1_become_74 rfl rfl ?_
  refine zE.getI (pc := 75) (fd_12_5 o i2) (ok_12 hi2 hn2) kiX1 (Nat.le_of_ble_eq_true rfl) fl_X1_28 dX1_become_75 ?_
  refine zE.putI (pc := 78) (fd_12_5 o i) (ok_12 hi hn) kiX1 (Nat.le_of_ble_eq_true rfl) fl_X1_28 rfl rfl dX1_become_78 ?_
  refine zJ.aload_n (pc := 81) 1 dX1_become_81 rfl rfl ?_
  refine zJ.aload_n (pc := 82) 2 dX1_become_82 rfl rfl ?_
  refine zE.getL (pc := 83) (fd_12_6 o i2) (ok_12 hi2 hn2) kiX1 (Nat.le_of_ble_eq_true rfl) fl_X1_31 dX1_become_83 ?_
  refine zE.putL (pc := 86) (fd_12_6 o i) (ok_12 hi hn) kiX1 (Nat.le_of_ble_eq_true rfl) fl_X1_31 rfl rfl dX1_become_86 ?_
  refine zJ.nameS (fun S11 hyS11 => ?_)
  replace h := h S11 hyS11
  refine zJ.aload_n (pc := 89) 1 dX1_become_89 rfl rfl ?_
  refine zJ.aload_n (pc := 90) 2 dX1_become_90 rfl rfl ?_
  refine zE.getL (pc := 91) (fd_12_7 o i2) (ok_12 hi2 hn2) kiX1 (Nat.le_of_ble_eq_true rfl) fl_X1_35 dX1_become_91 ?_
  refine zE.putL (pc := 94) (fd_12_7 o i) (ok_12 hi hn) kiX1 (Nat.le_of_ble_eq_true rfl) fl_X1_35 rfl rfl dX1_become_94 ?_
  exact zG.ret (pc := 97) (r := none) ⟨dX1_become_97, rfl⟩ h
set_option maxRecDepth 100000 in
set_option maxHeartbeats 4000000 in
theorem w_X1_add_0 (o : zW) (n : Nat) (i : Nat) (hi : i < 8) (hn : z_sb i + 120 ≤ n) (x1 : Int32) (S : zS) (Q : Option Value → zS → Prop) (h : ((S.1 (12, i, 0) 3) < 0 → (Q (some (.int (-1))) S)) ∧ (¬ (S.1 (12, i, 0) 3) < 0 → (((S.1 (12, i, 0) 3) < 200 → (vp_in (S.1 (12, i, 0) 3) 200 ∧ (∀ y3 : Int32, y3 = ((sI S (13, i, 0) ((S.1 (12, i, 0) 3).toNatClampNeg) (-1)).1 (12, i, 0) 3) → (vp_in y3 200 ∧ (∀ S4 : zS, S4 = (sI (sI S (13, i, 0) ((S.1 (12, i, 0) 3).toNatClampNeg) (-1)) (14, i, 0) (y3.toNatClampNeg) (-1)) → (vp_in (S4.1 (12, i, 0) 3) 200 ∧ (∀ y5 : Int32, y5 = ((sI S4 (15, i, 0) ((S4.1 (12, i, 0) 3).toNatClampNeg) x1).1 (12, i, 0) 3) → (∀ S6 : zS, S6 = (sI (sI S4 (15, i, 0) ((S4.1 (12, i, 0) 3).toNatClampNeg) x1) (12, i, 0) 3 (y5 + 1)) → (Q (some (.int ((S6.1 (12, i, 0) 3) - 1))) S6))))))))) ∧ (¬ (S.1 (12, i, 0) 3) < 200 → (Q (some (.int (-1))) S))))) : zG o n mdX1_add 0 [(0, .ref (z_adr o (12, i, 0))), (1, .int x1)] [] S Q := by
  show zJ o mdX1_add 0 _ [] (n, z_enc o S) 0 0 _
  refine zJ.aload_n (pc := 0) 0 dX1_add_0 rfl rfl ?_
  refine zE.getI (pc := 1) (fd_12_3 o i) (ok_12 hi hn) kiX1 (Nat.le_of_ble_eq_true rfl) fl_X1_21 dX1_add_1 ?_
  refine zJ.if_lt (pc := 4) (tgt := 17) dX1_add_4 (by decide) (fun c1 => ?_) (fun c1 => ?_)
  · replace h := h.1 c1
    refine zJ.iconst (pc := 17) (v := (-1)) dX1_add_17 (by decide) ?_
    exact zG.ret (pc := 18) (r := some (.int (-1))) ⟨dX1_add_18, _, rfl, rfl⟩ h
  · replace h := h.2 c1
    refine zJ.aload_n (pc := 7) 0 dX1_add_7 rfl rfl ?_
    refine zE.getI (pc := 8) (fd_12_3 o i) (ok_12 hi hn) kiX1 (Nat.le_of_ble_eq_true rfl) fl_X1_21 dX1_add_8 ?_
    refine zJ.sipush (pc := 11) (v := 200) dX1_add_11 (by decide) ?_
    refine zJ.icmp_lt (pc := 14) (tgt := 19) dX1_add_14 (by decide) (fun c2 => ?_) (fun c2 => ?_)
    · replace h := h.1 c2
      refine zJ.aload_n (pc := 19) 0 dX1_add_19 rfl rfl ?_
      refine zE.getV (pc := 20) (fd_12_0 o i) (ok_12 hi hn) kiX1 (Nat.le_of_ble_eq_true rfl) fl_X1_9 dX1_add_20 ?_
      refine zJ.aload_n (pc := 23) 0 dX1_add_23 rfl rfl ?_
      refine zE.getI (pc := 24) (fd_12_3 o i) (ok_12 hi hn) kiX1 (Nat.le_of_ble_eq_true rfl) fl_X1_21 dX1_add_24 ?_
      refine zJ.iconst (pc := 27) (v := (-1)) dX1_add_27 (by decide) ?_
      obtain ⟨hq, h⟩ := h
      refine zE.astI (pc := 28) (ia_13 o i) (ok_13 hi hn) hq dX1_add_28 ?_
      refine zJ.aload_n (pc := 29) 0 dX1_add_29 rfl rfl ?_
      refine zE.getV (pc := 30) (fd_12_1 o i) (ok_12 hi hn) kiX1 (Nat.le_of_ble_eq_true rfl) fl_X1_15 dX1_add_30 ?_
      refine zJ.aload_n (pc := 33) 0 dX1_add_33 rfl rfl ?_
      refine zE.getI (pc := 34) (fd_12_3 o i) (ok_12 hi hn) kiX1 (Nat.le_of_ble_eq_true rfl) fl_X1_21 dX1_add_34 ?_
      refine zJ.topi (fun y3 hyy3 => ?_)
      replace h := h y3 hyy3
      refine zJ.iconst (pc := 37) (v := (-1)) dX1_add_37 (by decide) ?_
      obtain ⟨hq, h⟩ := h
      refine zE.astI (pc := 38) (ia_14 o i) (ok_14 hi hn) hq dX1_add_38 ?_
      refine zJ.nameS (fun S4 hyS4 => ?_)
      replace h := h S4 hyS4
      refine zJ.aload_n (pc := 39) 0 dX1_add_39 rfl rfl ?_
      refine zE.getV (pc := 40) (fd_12_2 o i) (ok_12 hi hn) kiX1 (Nat.le_of_ble_eq_true rfl) fl_X1_18 dX1_add_40 ?_
      refine zJ.aload_n (pc := 43) 0 dX1_add_43 rfl rfl ?_
      refine zE.getI (pc := 44) (fd_12_3 o i) (ok_12 hi hn) kiX1 (Nat.le_of_ble_eq_true rfl) fl_X1_21 dX1_add_44 ?_
      refine zJ.iload_n (pc := 47) 1 dX1_add_47 rfl rfl ?_
      obtain ⟨hq, h⟩ := h
      refine zE.astI (pc := 48) (ia_15 o i) (ok_15 hi hn) hq dX1_add_48 ?_
      refine zJ.aload_n (pc := 49) 0 dX1_add_49 rfl rfl ?_
      refine zJ.dup (pc := 50) dX1_add_50 rfl ?_
      refine zE.getI (pc := 51) (fd_12_3 o i) (ok_12 hi hn) kiX1 (Nat.le_of_ble_eq_true rfl) fl_X1_21 dX1_add_51 ?_
      refine zJ.topi (fun y5 hyy5 => ?_)
      replace h := h y5 hyy5
      refine zJ.iconst (pc := 54) (v := 1) dX1_add_54 (by decide) ?_
      refine zJ.iadd (pc := 55) dX1_add_55 ?_
      refine zE.putI (pc := 56) (fd_12_3 o i) (ok_12 hi hn) kiX1 (Nat.le_of_ble_eq_true rfl) fl_X1_21 rfl rfl dX1_add_56 ?_
      refine zJ.nameS (fun S6 hyS6 => ?_)
      replace h := h S6 hyS6
      refine zJ.aload_n (pc := 59) 0 dX1_add_59 rfl rfl ?_
      refine zE.getI (pc := 60) (fd_12_3 o i) (ok_12 hi hn) kiX1 (Nat.le_of_ble_eq_true rfl) fl_X1_21 dX1_add_60 ?_
      refine zJ.iconst (pc := 63) (v := 1) dX1_add_63 (by decide) ?_
      refine zJ.isub (pc := 64) dX1_add_64 ?_
      exact zG.ret (pc := 65) (r := some (.int ((S6.1 (12, i, 0) 3) - 1))) ⟨dX1_add_65, _, rfl, rfl⟩ h
    · replace h := h.2 c2
      refine zJ.iconst (pc := 17) (v := (-1)) dX1_add_17 (by decide) ?_
      exact zG.ret (pc := 18) (r := some (.int (-1))) ⟨dX1_add_18, _, rfl, rfl⟩ h
set_option maxRecDepth 100000 in
set_option maxHeartbeats 4000000 in
theorem w_X1_answer_0 (o : zW) (n : Nat) (i : Nat) (hi : i < 8) (hn : z_sb i + 120 ≤ n) (x1 : Int32) (x2 : Int32) (x3 : Int32) (S : zS) (Q : Option Value → zS → Prop) (h : (x1 < 0 → ((x3 ≤ ((sI S (12, i, 0) 4 ((S.1 (12, i, 0) 4) + 1)).1 (12, i, 0) 5) → (∀ S3 : zS, S3 = (sI (sI S (12, i, 0) 4 ((S.1 (12, i, 0) 4) + 1)) (12, i, 0) 5 ((sI S (12, i, 0) 4 ((S.1 (12, i, 0) 4) + 1)).1 (12, i, 0) 5)) → (∀ S4 : zS, S4 = (sL (sL S3 (12, i, 0) 6 ((S3.2.1 (12, i, 0) 6) + x3.toInt64)) (12, i, 0) 7 (((sL S3 (12, i, 0) 6 ((S3.2.1 (12, i, 0) 6) + x3.toInt64)).2.1 (12, i, 0) 7) + (x3.toInt64 * x3.toInt64))) → (Q none S4)))) ∧ (¬ x3 ≤ ((sI S (12, i, 0) 4 ((S.1 (12, i, 0) 4) + 1)).1 (12, i, 0) 5) → (∀ S5 : zS, S5 = (sL (sI (sI S (12, i, 0) 4 ((S.1 (12, i, 0) 4) + 1)) (12, i, 0) 5 x3) (12, i, 0) 6 (((sI (sI S (12, i, 0) 4 ((S.1 (12, i, 0) 4) + 1)) (12, i, 0) 5 x3).2.1 (12, i, 0) 6) + x3.toInt64)) → (Q none (sL S5 (12, i, 0) 7 ((S5.2.1 (12, i, 0) 7) + (x3.toInt64 * x3.toInt64)))))))) ∧ (¬ x1 < 0 → ((200 ≤ x1 → ((x3 ≤ ((sI S (12, i, 0) 4 ((S.1 (12, i, 0) 4) + 1)).1 (12, i, 0) 5) → (∀ S8 : zS, S8 = (sI (sI S (12, i, 0) 4 ((S.1 (12, i, 0) 4) + 1)) (12, i, 0) 5 ((sI S (12, i, 0) 4 ((S.1 (12, i, 0) 4) + 1)).1 (12, i, 0) 5)) → (∀ S9 : zS, S9 = (sL (sL S8 (12, i, 0) 6 ((S8.2.1 (12, i, 0) 6) + x3.toInt64)) (12, i, 0) 7 (((sL S8 (12, i, 0) 6 ((S8.2.1 (12, i, 0) 6) + x3.toInt64)).2.1 (12, i, 0) 7) + (x3.toInt64 * x3.toInt64))) → (Q none S9)))) ∧ (¬ x3 ≤ ((sI S (12, i, 0) 4 ((S.1 (12, i, 0) 4) + 1)).1 (12, i, 0) 5) → (∀ S10 : zS, S10 = (sL (sI (sI S (12, i, 0) 4 ((S.1 (12, i, 0) 4) + 1)) (12, i, 0) 5 x3) (12, i, 0) 6 (((sI (sI S (12, i, 0) 4 ((S.1 (12, i, 0) 4) + 1)) (12, i, 0) 5 x3).2.1 (12, i, 0) 6) + x3.toInt64)) → (∀ S11 : zS, S11 = (sL S10 (12, i, 0) 7 ((S10.2.1 (12, i, 0) 7) + (x3.toInt64 * x3.toInt64))) → (Q none S11)))))) ∧ (¬ 200 ≤ x1 → (vp_in x1 200 ∧ (vp_in x1 200 ∧ (∀ S12 : zS, S12 = (sI (sI S (13, i, 0) (x1.toNatClampNeg) x2) (14, i, 0) (x1.toNatClampNeg) x3) → (∀ y13 : Int32, y13 = ((sI S12 (12, i, 0) 4 ((S12.1 (12, i, 0) 4) + 1)).1 (12, i, 0) 5) → ((x3 ≤ y13 → (∀ y15 : Int32, y15 = ((sI S12 (12, i, 0) 4 ((S12.1 (12, i, 0) 4) + 1)).1 (12, i, 0) 5) → (∀ S16 : zS, S16 = (sL (sI (sI S12 (12, i, 0) 4 ((S12.1 (12, i, 0) 4) + 1)) (12, i, 0) 5 y15) (12, i, 0) 6 (((sI (sI S12 (12, i, 0) 4 ((S12.1 (12, i, 0) 4) + 1)) (12, i, 0) 5 y15).2.1 (12, i, 0) 6) + x3.toInt64)) → (∀ S17 : zS, S17 = (sL S16 (12, i, 0) 7 ((S16.2.1 (12, i, 0) 7) + (x3.toInt64 * x3.toInt64))) → (Q none S17))))) ∧ (¬ x3 ≤ y13 → (∀ S18 : zS, S18 = (sL (sI (sI S12 (12, i, 0) 4 ((S12.1 (12, i, 0) 4) + 1)) (12, i, 0) 5 x3) (12, i, 0) 6 (((sI (sI S12 (12, i, 0) 4 ((S12.1 (12, i, 0) 4) + 1)) (12, i, 0) 5 x3).2.1 (12, i, 0) 6) + x3.toInt64)) → (∀ S19 : zS, S19 = (sL S18 (12, i, 0) 7 ((S18.2.1 (12, i, 0) 7) + (x3.toInt64 * x3.toInt64))) → (Q none S19))))))))))))) : zG o n mdX1_answer 0 [(0, .ref (z_adr o (12, i, 0))), (1, .int x1), (2, .int x2), (3, .int x3)] [] S Q := by
  show zJ o mdX1_answer 0 _ [] (n, z_enc o S) 0 0 _
  refine zJ.iload_n (pc := 0) 1 dX1_answer_0 rfl rfl ?_
  refine zJ.if_lt (pc := 1) (tgt := 25) dX1_answer_1 (by decide) (fun c1 => ?_) (fun c1 => ?_)
  · replace h := h.1 c1
    refine zJ.aload_n (pc := 25) 0 dX1_answer_25 rfl rfl ?_
    refine zJ.dup (pc := 26) dX1_answer_26 rfl ?_
    refine zE.getI (pc := 27) (fd_12_4 o i) (ok_12 hi hn) kiX1 (Nat.le_of_ble_eq_true rfl) fl_X1_25 dX1_answer_27 ?_
    refine zJ.iconst (pc := 30) (v := 1) dX1_answer_30 (by decide) ?_
    refine zJ.iadd (pc := 31) dX1_answer_31 ?_
    refine zE.putI (pc := 32) (fd_12_4 o i) (ok_12 hi hn) kiX1 (Nat.le_of_ble_eq_true rfl) fl_X1_25 rfl rfl dX1_answer_32 ?_
    refine zJ.aload_n (pc := 35) 0 dX1_answer_35 rfl rfl ?_
    refine zJ.iload_n (pc := 36) 3 dX1_answer_36 rfl rfl ?_
    refine zJ.aload_n (pc := 37) 0 dX1_answer_37 rfl rfl ?_
    refine zE.getI (pc := 38) (fd_12_5 o i) (ok_12 hi hn) kiX1 (Nat.le_of_ble_eq_true rfl) fl_X1_28 dX1_answer_38 ?_
    refine zJ.icmp_le (pc := 41) (tgt := 48) dX1_answer_41 (by decide) (fun c2 => ?_) (fun c2 => ?_)
    · replace h := h.1 c2
      refine zJ.aload_n (pc := 48) 0 dX1_answer_48 rfl rfl ?_
      refine zE.getI (pc := 49) (fd_12_5 o i) (ok_12 hi hn) kiX1 (Nat.le_of_ble_eq_true rfl) fl_X1_28 dX1_answer_49 ?_
      refine zE.putI (pc := 52) (fd_12_5 o i) (ok_12 hi hn) kiX1 (Nat.le_of_ble_eq_true rfl) fl_X1_28 rfl rfl dX1_answer_52 ?_
      refine zJ.nameS (fun S3 hyS3 => ?_)
      replace h := h S3 hyS3
      refine zJ.aload_n (pc := 55) 0 dX1_answer_55 rfl rfl ?_
      refine zJ.dup (pc := 56) dX1_answer_56 rfl ?_
      refine zE.getL (pc := 57) (fd_12_6 o i) (ok_12 hi hn) kiX1 (Nat.le_of_ble_eq_true rfl) fl_X1_31 dX1_answer_57 ?_
      refine zJ.iload_n (pc := 60) 3 dX1_answer_60 rfl rfl ?_
      refine zJ.i2l (pc := 61) dX1_answer_61 ?_
      refine zJ.ladd (pc := 62) dX1_answer_62 ?_
      refine zE.putL (pc := 63) (fd_12_6 o i) (ok_12 hi hn) kiX1 (Nat.le_of_ble_eq_true rfl) fl_X1_31 rfl rfl dX1_answer_63 ?_
      refine zJ.aload_n (pc := 66) 0 dX1_answer_66 rfl rfl ?_
      refine zJ.dup (pc := 67) dX1_answer_67 rfl ?_
      refine zE.getL (pc := 68) (fd_12_7 o i) (ok_12 hi hn) kiX1 (Nat.le_of_ble_eq_true rfl) fl_X1_35 dX1_answer_68 ?_
      refine zJ.iload_n (pc := 71) 3 dX1_answer_71 rfl rfl ?_
      refine zJ.i2l (pc := 72) dX1_answer_72 ?_
      refine zJ.iload_n (pc := 73) 3 dX1_answer_73 rfl rfl ?_
      refine zJ.i2l (pc := 74) dX1_answer_74 ?_
      refine zJ.lmul (pc := 75) dX1_answer_75 ?_
      refine zJ.ladd (pc := 76) dX1_answer_76 ?_
      refine zE.putL (pc := 77) (fd_12_7 o i) (ok_12 hi hn) kiX1 (Nat.le_of_ble_eq_true rfl) fl_X1_35 rfl rfl dX1_answer_77 ?_
      refine zJ.nameS (fun S4 hyS4 => ?_)
      replace h := h S4 hyS4
      exact zG.ret (pc := 80) (r := none) ⟨dX1_answer_80, rfl⟩ h
    · replace h := h.2 c2
      refine zJ.iload_n (pc := 44) 3 dX1_answer_44 rfl rfl ?_
      refine zJ.goto (pc := 45) (tgt := 52) dX1_answer_45 (by decide) ?_
      refine zE.putI (pc := 52) (fd_12_5 o i) (ok_12 hi hn) kiX1 (Nat.le_of_ble_eq_true rfl) fl_X1_28 rfl rfl dX1_answer_52 ?_
      refine zJ.aload_n (pc := 55) 0 dX1_answer_55 rfl rfl ?_
      refine zJ.dup (pc := 56) dX1_answer_56 rfl ?_
      refine zE.getL (pc := 57) (fd_12_6 o i) (ok_12 hi hn) kiX1 (Nat.le_of_ble_eq_true rfl) fl_X1_31 dX1_answer_57 ?_
      refine zJ.iload_n (pc := 60) 3 dX1_answer_60 rfl rfl ?_
      refine zJ.i2l (pc := 61) dX1_answer_61 ?_
      refine zJ.ladd (pc := 62) dX1_answer_62 ?_
      refine zE.putL (pc := 63) (fd_12_6 o i) (ok_12 hi hn) kiX1 (Nat.le_of_ble_eq_true rfl) fl_X1_31 rfl rfl dX1_answer_63 ?_
      refine zJ.nameS (fun S5 hyS5 => ?_)
      replace h := h S5 hyS5
      refine zJ.aload_n (pc := 66) 0 dX1_answer_66 rfl rfl ?_
      refine zJ.dup (pc := 67) dX1_answer_67 rfl ?_
      refine zE.getL (pc := 68) (fd_12_7 o i) (ok_12 hi hn) kiX1 (Nat.le_of_ble_eq_true rfl) fl_X1_35 dX1_answer_68 ?_
      refine zJ.iload_n (pc := 71) 3 dX1_answer_71 rfl rfl ?_
      refine zJ.i2l (pc := 72) dX1_answer_72 ?_
      refine zJ.iload_n (pc := 73) 3 dX1_answer_73 rfl rfl ?_
      refine zJ.i2l (pc := 74) dX1_answer_74 ?_
      refine zJ.lmul (pc := 75) dX1_answer_75 ?_
      refine zJ.ladd (pc := 76) dX1_answer_76 ?_
      refine zE.putL (pc := 77) (fd_12_7 o i) (ok_12 hi hn) kiX1 (Nat.le_of_ble_eq_true rfl) fl_X1_35 rfl rfl dX1_answer_77 ?_
      exact zG.ret (pc := 80) (r := none) ⟨dX1_answer_80, rfl⟩ h
  · replace h := h.2 c1
    refine zJ.iload_n (pc := 4) 1 dX1_answer_4 rfl rfl ?_
    refine zJ.sipush (pc := 5) (v := 200) dX1_answer_5 (by decide) ?_
    refine zJ.icmp_ge (pc := 8) (tgt := 25) dX1_answer_8 (by decide) (fun c6 => ?_) (fun c6 => ?_)
    · replace h := h.1 c6
      refine zJ.aload_n (pc := 25) 0 dX1_answer_25 rfl rfl ?_
      refine zJ.dup (pc := 26) dX1_answer_26 rfl ?_
      refine zE.getI (pc := 27) (fd_12_4 o i) (ok_12 hi hn) kiX1 (Nat.le_of_ble_eq_true rfl) fl_X1_25 dX1_answer_27 ?_
      refine zJ.iconst (pc := 30) (v := 1) dX1_answer_30 (by decide) ?_
      refine zJ.iadd (pc := 31) dX1_answer_31 ?_
      refine zE.putI (pc := 32) (fd_12_4 o i) (ok_12 hi hn) kiX1 (Nat.le_of_ble_eq_true rfl) fl_X1_25 rfl rfl dX1_answer_32 ?_
      refine zJ.aload_n (pc := 35) 0 dX1_answer_35 rfl rfl ?_
      refine zJ.iload_n (pc := 36) 3 dX1_answer_36 rfl rfl ?_
      refine zJ.aload_n (pc := 37) 0 dX1_answer_37 rfl rfl ?_
      refine zE.getI (pc := 38) (fd_12_5 o i) (ok_12 hi hn) kiX1 (Nat.le_of_ble_eq_true rfl) fl_X1_28 dX1_answer_38 ?_
      refine zJ.icmp_le (pc := 41) (tgt := 48) dX1_answer_41 (by decide) (fun c7 => ?_) (fun c7 => ?_)
      · replace h := h.1 c7
        refine zJ.aload_n (pc := 48) 0 dX1_answer_48 rfl rfl ?_
        refine zE.getI (pc := 49) (fd_12_5 o i) (ok_12 hi hn) kiX1 (Nat.le_of_ble_eq_true rfl) fl_X1_28 dX1_answer_49 ?_
        refine zE.putI (pc := 52) (fd_12_5 o i) (ok_12 hi hn) kiX1 (Nat.le_of_ble_eq_true rfl) fl_X1_28 rfl rfl dX1_answer_52 ?_
        refine zJ.nameS (fun S8 hyS8 => ?_)
        replace h := h S8 hyS8
        refine zJ.aload_n (pc := 55) 0 dX1_answer_55 rfl rfl ?_
        refine zJ.dup (pc := 56) dX1_answer_56 rfl ?_
        refine zE.getL (pc := 57) (fd_12_6 o i) (ok_12 hi hn) kiX1 (Nat.le_of_ble_eq_true rfl) fl_X1_31 dX1_answer_57 ?_
        refine zJ.iload_n (pc := 60) 3 dX1_answer_60 rfl rfl ?_
        refine zJ.i2l (pc := 61) dX1_answer_61 ?_
        refine zJ.ladd (pc := 62) dX1_answer_62 ?_
        refine zE.putL (pc := 63) (fd_12_6 o i) (ok_12 hi hn) kiX1 (Nat.le_of_ble_eq_true rfl) fl_X1_31 rfl rfl dX1_answer_63 ?_
        refine zJ.aload_n (pc := 66) 0 dX1_answer_66 rfl rfl ?_
        refine zJ.dup (pc := 67) dX1_answer_67 rfl ?_
        refine zE.getL (pc := 68) (fd_12_7 o i) (ok_12 hi hn) kiX1 (Nat.le_of_ble_eq_true rfl) fl_X1_35 dX1_answer_68 ?_
        refine zJ.iload_n (pc := 71) 3 dX1_answer_71 rfl rfl ?_
        refine zJ.i2l (pc := 72) dX1_answer_72 ?_
        refine zJ.iload_n (pc := 73) 3 dX1_answer_73 rfl rfl ?_
        refine zJ.i2l (pc := 74) dX1_answer_74 ?_
        refine zJ.lmul (pc := 75) dX1_answer_75 ?_
        refine zJ.ladd (pc := 76) dX1_answer_76 ?_
        refine zE.putL (pc := 77) (fd_12_7 o i) (ok_12 hi hn) kiX1 (Nat.le_of_ble_eq_true rfl) fl_X1_35 rfl rfl dX1_answer_77 ?_
        refine zJ.nameS (fun S9 hyS9 => ?_)
        replace h := h S9 hyS9
        exact zG.ret (pc := 80) (r := none) ⟨dX1_answer_80, rfl⟩ h
      · replace h := h.2 c7
        refine zJ.iload_n (pc := 44) 3 dX1_answer_44 rfl rfl ?_
        refine zJ.goto (pc := 45) (tgt := 52) dX1_answer_45 (by decide) ?_
        refine zE.putI (pc := 52) (fd_12_5 o i) (ok_12 hi hn) kiX1 (Nat.le_of_ble_eq_true rfl) fl_X1_28 rfl rfl dX1_answer_52 ?_
        refine zJ.aload_n (pc := 55) 0 dX1_answer_55 rfl rfl ?_
        refine zJ.dup (pc := 56) dX1_answer_56 rfl ?_
        refine zE.getL (pc := 57) (fd_12_6 o i) (ok_12 hi hn) kiX1 (Nat.le_of_ble_eq_true rfl) fl_X1_31 dX1_answer_57 ?_
        refine zJ.iload_n (pc := 60) 3 dX1_answer_60 rfl rfl ?_
        refine zJ.i2l (pc := 61) dX1_answer_61 ?_
        refine zJ.ladd (pc := 62) dX1_answer_62 ?_
        refine zE.putL (pc := 63) (fd_12_6 o i) (ok_12 hi hn) kiX1 (Nat.le_of_ble_eq_true rfl) fl_X1_31 rfl rfl dX1_answer_63 ?_
        refine zJ.nameS (fun S10 hyS10 => ?_)
        replace h := h S10 hyS10
        refine zJ.aload_n (pc := 66) 0 dX1_answer_66 rfl rfl ?_
        refine zJ.dup (pc := 67) dX1_answer_67 rfl ?_
        refine zE.getL (pc := 68) (fd_12_7 o i) (ok_12 hi hn) kiX1 (Nat.le_of_ble_eq_true rfl) fl_X1_35 dX1_answer_68 ?_
        refine zJ.iload_n (pc := 71) 3 dX1_answer_71 rfl rfl ?_
        refine zJ.i2l (pc := 72) dX1_answer_72 ?_
        refine zJ.iload_n (pc := 73) 3 dX1_answer_73 rfl rfl ?_
        refine zJ.i2l (pc := 74) dX1_answer_74 ?_
        refine zJ.lmul (pc := 75) dX1_answer_75 ?_
        refine zJ.ladd (pc := 76) dX1_answer_76 ?_
        refine zE.putL (pc := 77) (fd_12_7 o i) (ok_12 hi hn) kiX1 (Nat.le_of_ble_eq_true rfl) fl_X1_35 rfl rfl dX1_answer_77 ?_
        refine zJ.nameS (fun S11 hyS11 => ?_)
        replace h := h S11 hyS11
        exact zG.ret (pc := 80) (r := none) ⟨dX1_answer_80, rfl⟩ h
    · replace h := h.2 c6
      refine zJ.aload_n (pc := 11) 0 dX1_answer_11 rfl rfl ?_
      refine zE.getV (pc := 12) (fd_12_0 o i) (ok_12 hi hn) kiX1 (Nat.le_of_ble_eq_true rfl) fl_X1_9 dX1_answer_12 ?_
      refine zJ.iload_n (pc := 15) 1 dX1_answer_15 rfl rfl ?_
      refine zJ.iload_n (pc := 16) 2 dX1_answer_16 rfl rfl ?_
      obtain ⟨hq, h⟩ := h
      refine zE.astI (pc := 17) (ia_13 o i) (ok_13 hi hn) hq dX1_answer_17 ?_
      refine zJ.aload_n (pc := 18) 0 dX1_answer_18 rfl rfl ?_
      refine zE.getV (pc := 19) (fd_12_1 o i) (ok_12 hi hn) kiX1 (Nat.le_of_ble_eq_true rfl) fl_X1_15 dX1_answer_19 ?_
      refine zJ.iload_n (pc := 22) 1 dX1_answer_22 rfl rfl ?_
      refine zJ.iload_n (pc := 23) 3 dX1_answer_23 rfl rfl ?_
      obtain ⟨hq, h⟩ := h
      refine zE.astI (pc := 24) (ia_14 o i) (ok_14 hi hn) hq dX1_answer_24 ?_
      refine zJ.nameS (fun S12 hyS12 => ?_)
      replace h := h S12 hyS12
      refine zJ.aload_n (pc := 25) 0 dX1_answer_25 rfl rfl ?_
      refine zJ.dup (pc := 26) dX1_answer_26 rfl ?_
      refine zE.getI (pc := 27) (fd_12_4 o i) (ok_12 hi hn) kiX1 (Nat.le_of_ble_eq_true rfl) fl_X1_25 dX1_answer_27 ?_
      refine zJ.iconst (pc := 30) (v := 1) dX1_answer_30 (by decide) ?_
      refine zJ.iadd (pc := 31) dX1_answer_31 ?_
      refine zE.putI (pc := 32) (fd_12_4 o i) (ok_12 hi hn) kiX1 (Nat.le_of_ble_eq_true rfl) fl_X1_25 rfl rfl dX1_answer_32 ?_
      refine zJ.aload_n (pc := 35) 0 dX1_answer_35 rfl rfl ?_
      refine zJ.iload_n (pc := 36) 3 dX1_answer_36 rfl rfl ?_
      refine zJ.aload_n (pc := 37) 0 dX1_answer_37 rfl rfl ?_
      refine zE.getI (pc := 38) (fd_12_5 o i) (ok_12 hi hn) kiX1 (Nat.le_of_ble_eq_true rfl) fl_X1_28 dX1_answer_38 ?_
      refine zJ.topi (fun y13 hyy13 => ?_)
      replace h := h y13 hyy13
      refine zJ.icmp_le (pc := 41) (tgt := 48) dX1_answer_41 (by decide) (fun c14 => ?_) (fun c14 => ?_)
      · replace h := h.1 c14
        refine zJ.aload_n (pc := 48) 0 dX1_answer_48 rfl rfl ?_
        refine zE.getI (pc := 49) (fd_12_5 o i) (ok_12 hi hn) kiX1 (Nat.le_of_ble_eq_true rfl) fl_X1_28 dX1_answer_49 ?_
        refine zJ.topi (fun y15 hyy15 => ?_)
        replace h := h y15 hyy15
        refine zE.putI (pc := 52) (fd_12_5 o i) (ok_12 hi hn) kiX1 (Nat.le_of_ble_eq_true rfl) fl_X1_28 rfl rfl dX1_answer_52 ?_
        refine zJ.aload_n (pc := 55) 0 dX1_answer_55 rfl rfl ?_
        refine zJ.dup (pc := 56) dX1_answer_56 rfl ?_
        refine zE.getL (pc := 57) (fd_12_6 o i) (ok_12 hi hn) kiX1 (Nat.le_of_ble_eq_true rfl) fl_X1_31 dX1_answer_57 ?_
        refine zJ.iload_n (pc := 60) 3 dX1_answer_60 rfl rfl ?_
        refine zJ.i2l (pc := 61) dX1_answer_61 ?_
        refine zJ.ladd (pc := 62) dX1_answer_62 ?_
        refine zE.putL (pc := 63) (fd_12_6 o i) (ok_12 hi hn) kiX1 (Nat.le_of_ble_eq_true rfl) fl_X1_31 rfl rfl dX1_answer_63 ?_
        refine zJ.nameS (fun S16 hyS16 => ?_)
        replace h := h S16 hyS16
        refine zJ.aload_n (pc := 66) 0 dX1_answer_66 rfl rfl ?_
        refine zJ.dup (pc := 67) dX1_answer_67 rfl ?_
        refine zE.getL (pc := 68) (fd_12_7 o i) (ok_12 hi hn) kiX1 (Nat.le_of_ble_eq_true rfl) fl_X1_35 dX1_answer_68 ?_
        refine zJ.iload_n (pc := 71) 3 dX1_answer_71 rfl rfl ?_
        refine zJ.i2l (pc := 72) dX1_answer_72 ?_
        refine zJ.iload_n (pc := 73) 3 dX1_answer_73 rfl rfl ?_
        refine zJ.i2l (pc := 74) dX1_answer_74 ?_
        refine zJ.lmul (pc := 75) dX1_answer_75 ?_
        refine zJ.ladd (pc := 76) dX1_answer_76 ?_
        refine zE.putL (pc := 77) (fd_12_7 o i) (ok_12 hi hn) kiX1 (Nat.le_of_ble_eq_true rfl) fl_X1_35 rfl rfl dX1_answer_77 ?_
        refine zJ.nameS (fun S17 hyS17 => ?_)
        replace h := h S17 hyS17
        exact zG.ret (pc := 80) (r := none) ⟨dX1_answer_80, rfl⟩ h
      · replace h := h.2 c14
        refine zJ.iload_n (pc := 44) 3 dX1_answer_44 rfl rfl ?_
        refine zJ.goto (pc := 45) (tgt := 52) dX1_answer_45 (by decide) ?_
        refine zE.putI (pc := 52) (fd_12_5 o i) (ok_12 hi hn) kiX1 (Nat.le_of_ble_eq_true rfl) fl_X1_28 rfl rfl dX1_answer_52 ?_
        refine zJ.aload_n (pc := 55) 0 dX1_answer_55 rfl rfl ?_
        refine zJ.dup (pc := 56) dX1_answer_56 rfl ?_
        refine zE.getL (pc := 57) (fd_12_6 o i) (ok_12 hi hn) kiX1 (Nat.le_of_ble_eq_true rfl) fl_X1_31 dX1_answer_57 ?_
        refine zJ.iload_n (pc := 60) 3 dX1_answer_60 rfl rfl ?_
        refine zJ.i2l (pc := 61) dX1_answer_61 ?_
        refine zJ.ladd (pc := 62) dX1_answer_62 ?_
        refine zE.putL (pc := 63) (fd_12_6 o i) (ok_12 hi hn) kiX1 (Nat.le_of_ble_eq_true rfl) fl_X1_31 rfl rfl dX1_answer_63 ?_
        refine zJ.nameS (fun S18 hyS18 => ?_)
        replace h := h S18 hyS18
        refine zJ.aload_n (pc := 66) 0 dX1_answer_66 rfl rfl ?_
        refine zJ.dup (pc := 67) dX1_answer_67 rfl ?_
        refine zE.getL (pc := 68) (fd_12_7 o i) (ok_12 hi hn) kiX1 (Nat.le_of_ble_eq_true rfl) fl_X1_35 dX1_answer_68 ?_
        refine zJ.iload_n (pc := 71) 3 dX1_answer_71 rfl rfl ?_
        refine zJ.i2l (pc := 72) dX1_answer_72 ?_
        refine zJ.iload_n (pc := 73) 3 dX1_answer_73 rfl rfl ?_
        refine zJ.i2l (pc := 74) dX1_answer_74 ?_
        refine zJ.lmul (pc := 75) dX1_answer_75 ?_
        refine zJ.ladd (pc := 76) dX1_answer_76 ?_
        refine zE.putL (pc := 77) (fd_12_7 o i) (ok_12 hi hn) kiX1 (Nat.le_of_ble_eq_true rfl) fl_X1_35 rfl rfl dX1_answer_77 ?_
        refine zJ.nameS (fun S19 hyS19 => ?_)
        replace h := h S19 hyS19
        exact zG.ret (pc := 80) (r := none) ⟨dX1_answer_80, rfl⟩ h
set_option maxRecDepth 100000 in
set_option maxHeartbeats 4000000 in
theorem w_X1_meanWait_0 (o : zW) (n : Nat) (i : Nat) (hi : i < 8) (hn : z_sb i + 120 ≤ n) (S : zS) (Q : Option Value → zS → Prop) (h : (0 < (S.1 (12, i, 0) 4) → (vf_n32 (FP.fdiv (FP.l2f (S.2.1 (12, i, 0) 6)) (FP.i2f (S.1 (12, i, 0) 4))) ∧ (Q (some (.float (FP.fdiv (FP.l2f (S.2.1 (12, i, 0) 6)) (FP.i2f (S.1 (12, i, 0) 4))))) S))) ∧ (¬ 0 < (S.1 (12, i, 0) 4) → (Q (some (.float FP.fconst0)) S))) : zG o n mdX1_meanWait 0 [(0, .ref (z_adr o (12, i, 0)))] [] S Q := by
  show zJ o mdX1_meanWait 0 _ [] (n, z_enc o S) 0 0 _
  refine zJ.aload_n (pc := 0) 0 dX1_meanWait_0 rfl rfl ?_
  refine zE.getI (pc := 1) (fd_12_4 o i) (ok_12 hi hn) kiX1 (Nat.le_of_ble_eq_true rfl) fl_X1_25 dX1_meanWait_1 ?_
  refine zJ.if_gt (pc := 4) (tgt := 11) dX1_meanWait_4 (by decide) (fun c1 => ?_) (fun c1 => ?_)
  · replace h := h.1 c1
    refine zJ.aload_n (pc := 11) 0 dX1_meanWait_11 rfl rfl ?_
    refine zE.getL (pc := 12) (fd_12_6 o i) (ok_12 hi hn) kiX1 (Nat.le_of_ble_eq_true rfl) fl_X1_31 dX1_meanWait_12 ?_
    refine zJ.l2f (pc := 15) dX1_meanWait_15 ?_
    refine zJ.aload_n (pc := 16) 0 dX1_meanWait_16 rfl rfl ?_
    refine zE.getI (pc := 17) (fd_12_4 o i) (ok_12 hi hn) kiX1 (Nat.le_of_ble_eq_true rfl) fl_X1_25 dX1_meanWait_17 ?_
    refine zJ.i2f (pc := 20) dX1_meanWait_20 ?_
    obtain ⟨hq, h⟩ := h
    refine zJ.fdiv (pc := 21) dX1_meanWait_21 hq ?_
    exact zG.ret (pc := 22) (r := some (.float (FP.fdiv (FP.l2f (S.2.1 (12, i, 0) 6)) (FP.i2f (S.1 (12, i, 0) 4))))) ⟨dX1_meanWait_22, rfl⟩ h
  · replace h := h.2 c1
    refine zJ.fconst0 (pc := 7) dX1_meanWait_7 ?_
    refine zJ.goto (pc := 8) (tgt := 22) dX1_meanWait_8 (by decide) ?_
    exact zG.ret (pc := 22) (r := some (.float FP.fconst0)) ⟨dX1_meanWait_22, rfl⟩ h
set_option maxRecDepth 100000 in
set_option maxHeartbeats 4000000 in
theorem w_X1_spread_0 (o : zW) (n : Nat) (i : Nat) (hi : i < 8) (hn : z_sb i + 120 ≤ n) (S : zS) (Q : Option Value → zS → Prop) (h : (0 < (S.1 (12, i, 0) 4) → (vf_n64 (FP.ddiv (FP.l2d (S.2.1 (12, i, 0) 6)) (FP.i2d (S.1 (12, i, 0) 4))) ∧ (vf_n64 (FP.ddiv (FP.l2d (S.2.1 (12, i, 0) 7)) (FP.i2d (S.1 (12, i, 0) 4))) ∧ (vf_n64 (FP.dmul (FP.ddiv (FP.l2d (S.2.1 (12, i, 0) 6)) (FP.i2d (S.1 (12, i, 0) 4))) (FP.ddiv (FP.l2d (S.2.1 (12, i, 0) 6)) (FP.i2d (S.1 (12, i, 0) 4)))) ∧ (vf_n64 (FP.dsub (FP.ddiv (FP.l2d (S.2.1 (12, i, 0) 7)) (FP.i2d (S.1 (12, i, 0) 4))) (FP.dmul (FP.ddiv (FP.l2d (S.2.1 (12, i, 0) 6)) (FP.i2d (S.1 (12, i, 0) 4))) (FP.ddiv (FP.l2d (S.2.1 (12, i, 0) 6)) (FP.i2d (S.1 (12, i, 0) 4))))) ∧ (Q (some (.double (FP.dsub (FP.ddiv (FP.l2d (S.2.1 (12, i, 0) 7)) (FP.i2d (S.1 (12, i, 0) 4))) (FP.dmul (FP.ddiv (FP.l2d (S.2.1 (12, i, 0) 6)) (FP.i2d (S.1 (12, i, 0) 4))) (FP.ddiv (FP.l2d (S.2.1 (12, i, 0) 6)) (FP.i2d (S.1 (12, i, 0) 4))))))) S)))))) ∧ (¬ 0 < (S.1 (12, i, 0) 4) → (Q (some (.double FP.dconst0)) S))) : zG o n mdX1_spread 0 [(0, .ref (z_adr o (12, i, 0)))] [] S Q := by
  show zJ o mdX1_spread 0 _ [] (n, z_enc o S) 0 0 _
  refine zJ.aload_n (pc := 0) 0 dX1_spread_0 rfl rfl ?_
  refine zE.getI (pc := 1) (fd_12_4 o i) (ok_12 hi hn) kiX1 (Nat.le_of_ble_eq_true rfl) fl_X1_25 dX1_spread_1 ?_
  refine zJ.if_gt (pc := 4) (tgt := 9) dX1_spread_4 (by decide) (fun c1 => ?_) (fun c1 => ?_)
  · replace h := h.1 c1
    refine zJ.aload_n (pc := 9) 0 dX1_spread_9 rfl rfl ?_
    refine zE.getL (pc := 10) (fd_12_6 o i) (ok_12 hi hn) kiX1 (Nat.le_of_ble_eq_true rfl) fl_X1_31 dX1_spread_10 ?_
    refine zJ.l2d (pc := 13) dX1_spread_13 ?_
    refine zJ.aload_n (pc := 14) 0 dX1_spread_14 rfl rfl ?_
    refine zE.getI (pc := 15) (fd_12_4 o i) (ok_12 hi hn) kiX1 (Nat.le_of_ble_eq_true rfl) fl_X1_25 dX1_spread_15 ?_
    refine zJ.i2d (pc := 18) dX1_spread_18 ?_
    obtain ⟨hq, h⟩ := h
    refine zJ.ddiv (pc := 19) dX1_spread_19 hq ?_
    refine zJ.dstore_n (pc := 20) (lv' := [(1, .double (FP.ddiv (FP.l2d (S.2.1 (12, i, 0) 6)) (FP.i2d (S.1 (12, i, 0) 4)))), (0, .ref (z_adr o (12, i, 0)))]) dX1_spread_20 rfl (Nat.le_of_ble_eq_true rfl) rfl ?_
    refine zJ.aload_n (pc := 21) 1 dX1_spread_21 rfl rfl ?_
    refine zE.getL (pc := 22) (fd_12_7 o i) (ok_12 hi hn) kiX1 (Nat.le_of_ble_eq_true rfl) fl_X1_35 dX1_spread_22 ?_
    refine zJ.l2d (pc := 25) dX1_spread_25 ?_
    refine zJ.aload_n (pc := 26) 1 dX1_spread_26 rfl rfl ?_
    refine zE.getI (pc := 27) (fd_12_4 o i) (ok_12 hi hn) kiX1 (Nat.le_of_ble_eq_true rfl) fl_X1_25 dX1_spread_27 ?_
    refine zJ.i2d (pc := 30) dX1_spread_30 ?_
    obtain ⟨hq, h⟩ := h
    refine zJ.ddiv (pc := 31) dX1_spread_31 hq ?_
    refine zJ.dload_n (pc := 32) 0 dX1_spread_32 rfl rfl ?_
    refine zJ.dload_n (pc := 33) 0 dX1_spread_33 rfl rfl ?_
    obtain ⟨hq, h⟩ := h
    refine zJ.dmul (pc := 34) dX1_spread_34 hq ?_
    obtain ⟨hq, h⟩ := h
    refine zJ.dsub (pc := 35) dX1_spread_35 hq ?_
    exact zG.ret (pc := 36) (r := some (.double (FP.dsub (FP.ddiv (FP.l2d (S.2.1 (12, i, 0) 7)) (FP.i2d (S.1 (12, i, 0) 4))) (FP.dmul (FP.ddiv (FP.l2d (S.2.1 (12, i, 0) 6)) (FP.i2d (S.1 (12, i, 0) 4))) (FP.ddiv (FP.l2d (S.2.1 (12, i, 0) 6)) (FP.i2d (S.1 (12, i, 0) 4))))))) ⟨dX1_spread_36, rfl⟩ h
  · replace h := h.2 c1
    refine zJ.dconst0 (pc := 7) dX1_spread_7 ?_
    exact zG.ret (pc := 8) (r := some (.double FP.dconst0)) ⟨dX1_spread_8, rfl⟩ h
