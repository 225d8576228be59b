set_option maxRecDepth 100000 in
set_option maxHeartbeats 4000000 in
theorem w_X2_whoMustGo_0 (o : zW) (n : Nat) (i : Nat) (hi : i < 8) (hn : z_sb i + 120 ≤ n) (x1 : Int32) (S : zS) (Q : Option Value → zS → Prop) (h : (0 ≤ x1 → (zG o n mdX2_whoMustGo 13 [(0, .ref (z_adr o (1, i, 0))), (2, .null), (3, .int 0), (4, .int x1)] [] S Q)) ∧ (¬ 0 ≤ x1 → (Q (some (va_rf (z_bo o i none))) S))) : zG o n mdX2_whoMustGo 0 [(0, .ref (z_adr o (1, i, 0))), (1, .int x1)] [] S Q := by
  show zJ o mdX2_whoMustGo 0 _ [] (n, z_enc o S) 0 0 _
  refine zJ.iload_n (pc := 0) 1 dX2_whoMustGo_0 rfl rfl ?_
  refine zJ.if_ge (pc := 1) (tgt := 6) dX2_whoMustGo_1 (by decide) (fun c1 => ?_) (fun c1 => ?_)
  · replace h := h.1 c1
    refine zJ.null (pc := 6) dX2_whoMustGo_6 ?_
    refine zJ.astoreq_n (pc := 7) (x := none) (lv' := [(2, .null), (0, .ref (z_adr o (1, i, 0))), (1, .int x1)]) dX2_whoMustGo_7 rfl (Nat.le_of_ble_eq_true rfl) rfl ?_
    refine zJ.iconst (pc := 8) (v := 0) dX2_whoMustGo_8 (by decide) ?_
    refine zJ.istore_n (pc := 9) (lv' := [(3, .int 0), (2, .null), (0, .ref (z_adr o (1, i, 0))), (1, .int x1)]) dX2_whoMustGo_9 rfl (Nat.le_of_ble_eq_true rfl) rfl ?_
    refine zJ.iload_n (pc := 10) 3 dX2_whoMustGo_10 rfl rfl ?_
    refine zJ.istore (pc := 11) (lv' := [(4, .int x1), (3, .int 0), (2, .null), (0, .ref (z_adr o (1, i, 0))), (1, .int x1)]) dX2_whoMustGo_11 (Nat.le_of_ble_eq_true rfl) rfl ?_
    exact zJ.sub [3, 2, 1, 0] rfl h
  · replace h := h.2 c1
    refine zJ.null (pc := 4) dX2_whoMustGo_4 ?_
    exact zG.ret (pc := 5) (r := some (.null)) ⟨dX2_whoMustGo_5, _, rfl⟩ h
set_option maxRecDepth 100000 in
set_option maxHeartbeats 4000000 in
theorem w_X2_whoMustGo_13 (o : zW) (n : Nat) (i : Nat) (hi : i < 8) (hn : z_sb i + 120 ≤ n) (x2 : Option Nat) (hx2 : ∀ b, x2 = some b → b < 16) (x3 : Int32) (x4 : Int32) (S : zS) (Q : Option Value → zS → Prop) (h : (16 ≤ x4 → (((S.1 (2, i, 0) 0) ≤ x3 → (Q (some (va_rf (z_bo o i x2))) S)) ∧ (¬ (S.1 (2, i, 0) 0) ≤ x3 → (Q (some (va_rf (z_bo o i none))) S)))) ∧ (¬ 16 ≤ x4 → (vp_in x4 16 ∧ ((¬ (S.1 (5, i, x4.toNatClampNeg) 8) = 1 → (zG o n mdX2_whoMustGo 13 [(0, .ref (z_adr o (1, i, 0))), (2, va_rf (z_bo o i x2)), (3, .int x3), (4, .int (x4 + 4))] [] S Q)) ∧ ((S.1 (5, i, x4.toNatClampNeg) 8) = 1 → ((x2 = none → (zG o n mdX2_whoMustGo 13 [(0, .ref (z_adr o (1, i, 0))), (2, .ref (z_adr o (5, i, x4.toNatClampNeg))), (3, .int (x3 + 1)), (4, .int (x4 + 4))] [] S Q)) ∧ (∀ b5, x2 = some b5 → (((S.1 (5, i, b5) 11) ≤ (S.1 (5, i, x4.toNatClampNeg) 11) → (zG o n mdX2_whoMustGo 13 [(0, .ref (z_adr o (1, i, 0))), (2, .ref (z_adr o (5, i, b5))), (3, .int (x3 + 1)), (4, .int (x4 + 4))] [] S Q)) ∧ (¬ (S.1 (5, i, b5) 11) ≤ (S.1 (5, i, x4.toNatClampNeg) 11) → (zG o n mdX2_whoMustGo 13 [(0, .ref (z_adr o (1, i, 0))), (2, .ref (z_adr o (5, i, x4.toNatClampNeg))), (3, .int (x3 + 1)), (4, .int (x4 + 4))] [] S Q)))))))))) : zG o n mdX2_whoMustGo 13 [(0, .ref (z_adr o (1, i, 0))), (2, va_rf (z_bo o i x2)), (3, .int x3), (4, .int x4)] [] S Q := by
  show zJ o mdX2_whoMustGo 13 _ [] (n, z_enc o S) 0 0 _
  refine zJ.iload (pc := 13) 3 dX2_whoMustGo_13 rfl ?_
  refine zJ.bipush (pc := 15) (v := 16) dX2_whoMustGo_15 (by decide) ?_
  refine zJ.icmp_ge (pc := 17) (tgt := 70) dX2_whoMustGo_17 (by decide) (fun c1 => ?_) (fun c1 => ?_)
  · replace h := h.1 c1
    refine zJ.iload_n (pc := 70) 2 dX2_whoMustGo_70 rfl rfl ?_
    refine zJ.aload_n (pc := 71) 0 dX2_whoMustGo_71 rfl rfl ?_
    refine zE.getV (pc := 72) (fd_1_0 o i) (ok_1 hi hn) kiX2 (Nat.le_of_ble_eq_true rfl) fl_X2_13 dX2_whoMustGo_72 ?_
    refine zJ.iconst (pc := 75) (v := 0) dX2_whoMustGo_75 (by decide) ?_
    refine zE.aldI (pc := 76) (ia_2 o i) (ok_2 hi hn) (by unfold vp_in; decide) dX2_whoMustGo_76 ?_
    refine zJ.icmp_ge (pc := 77) (tgt := 84) dX2_whoMustGo_77 (by decide) (fun c2 => ?_) (fun c2 => ?_)
    · replace h := h.1 c2
      refine zJ.aloadq_n (pc := 84) (x := z_bo o i x2) 1 dX2_whoMustGo_84 rfl rfl ?_
      cases x2 with
      | none => exact zG.ret (pc := 85) (r := some .null) ⟨dX2_whoMustGo_85, _, rfl⟩ h
      | some b => exact zG.ret (pc := 85) (r := some (.ref (z_adr o (5, i, b)))) ⟨dX2_whoMustGo_85, _, rfl⟩ h
    · replace h := h.2 c2
      refine zJ.null (pc := 80) dX2_whoMustGo_80 ?_
      refine zJ.goto (pc := 81) (tgt := 85) dX2_whoMustGo_81 (by decide) ?_
      exact zG.ret (pc := 85) (r := some (.null)) ⟨dX2_whoMustGo_85, _, rfl⟩ h
  · replace h := h.2 c1
    refine zJ.aload_n (pc := 20) 0 dX2_whoMustGo_20 rfl rfl ?_
    refine zE.getV (pc := 21) (fd_1_2 o i) (ok_1 hi hn) kiX2 (Nat.le_of_ble_eq_true rfl) fl_X2_29 dX2_whoMustGo_21 ?_
    refine zJ.iload (pc := 24) 3 dX2_whoMustGo_24 rfl ?_
    obtain ⟨hq3, h⟩ := h
    refine zE.aldB (pc := 26) (ok_4 hi hn) hq3 dX2_whoMustGo_26 ?_
    refine zJ.astore (pc := 27) (lv' := [(5, .ref (z_adr o (5, i, x4.toNatClampNeg))), (0, .ref (z_adr o (1, i, 0))), (2, va_rf (z_bo o i x2)), (3, .int x3), (4, .int x4)]) dX2_whoMustGo_27 (Nat.le_of_ble_eq_true rfl) rfl ?_
    refine zJ.aload (pc := 29) 0 dX2_whoMustGo_29 rfl ?_
    refine zE.getI (pc := 31) (fd_5_8 o i x4.toNatClampNeg) (ok_5 hi (z_vlt hq3) hn) kiX0 (Nat.le_of_ble_eq_true rfl) fl_X2_110 dX2_whoMustGo_31 ?_
    refine zJ.iconst (pc := 34) (v := 1) dX2_whoMustGo_34 (by decide) ?_
    refine zJ.icmp_ne (pc := 35) (tgt := 64) dX2_whoMustGo_35 (by decide) (fun c4 => ?_) (fun c4 => ?_)
    · replace h := h.1 c4
      refine zJ.iinc (pc := 64) (k := 4) (lv' := [(4, .int (x4 + 4)), (5, .ref (z_adr o (5, i, x4.toNatClampNeg))), (0, .ref (z_adr o (1, i, 0))), (2, va_rf (z_bo o i x2)), (3, .int x3)]) dX2_whoMustGo_64 rfl rfl (Nat.le_of_ble_eq_true rfl) rfl ?_
      refine zJ.goto (pc := 67) (tgt := 13) dX2_whoMustGo_67 (by decide) ?_
      exact zJ.sub [2, 3, 4, 0] rfl h
    · replace h := h.2 c4
      refine zJ.iinc (pc := 38) (k := 3) (lv' := [(3, .int (x3 + 1)), (5, .ref (z_adr o (5, i, x4.toNatClampNeg))), (0, .ref (z_adr o (1, i, 0))), (2, va_rf (z_bo o i x2)), (4, .int x4)]) dX2_whoMustGo_38 rfl rfl (Nat.le_of_ble_eq_true rfl) (by first | (simp only [List.filter, z_catrf]; done) | (simp only [List.filter, z_catrf]; rfl) | simp [List.filter, z_catrf]) ?_
      refine zJ.aloadq_n (pc := 41) (x := z_bo o i x2) 3 dX2_whoMustGo_41 rfl rfl ?_
      refine zE.ifnull (pc := 42) (tgt := 57) dX2_whoMustGo_42 (by decide) ?_ ?_
      · intro hz
        replace h := h.1 hz
        subst hz
        refine zJ.aload (pc := 57) 1 dX2_whoMustGo_57 rfl ?_
        refine zJ.goto (pc := 59) (tgt := 63) dX2_whoMustGo_59 (by decide) ?_
        refine zJ.astore_n (pc := 63) (lv' := [(2, .ref (z_adr o (5, i, x4.toNatClampNeg))), (3, .int (x3 + 1)), (5, .ref (z_adr o (5, i, x4.toNatClampNeg))), (0, .ref (z_adr o (1, i, 0))), (4, .int x4)]) dX2_whoMustGo_63 rfl (Nat.le_of_ble_eq_true rfl) rfl ?_
        refine zJ.iinc (pc := 64) (k := 4) (lv' := [(4, .int (x4 + 4)), (2, .ref (z_adr o (5, i, x4.toNatClampNeg))), (3, .int (x3 + 1)), (5, .ref (z_adr o (5, i, x4.toNatClampNeg))), (0, .ref (z_adr o (1, i, 0)))]) dX2_whoMustGo_64 rfl rfl (Nat.le_of_ble_eq_true rfl) rfl ?_
        refine zJ.goto (pc := 67) (tgt := 13) dX2_whoMustGo_67 (by decide) ?_
        exact zJ.sub [4, 1, 2, 0] rfl h
      · intro b5 hz
        replace h := h.2 b5 hz
        subst hz
        refine zJ.aload (pc := 45) 1 dX2_whoMustGo_45 rfl ?_
        refine zE.getI (pc := 47) (fd_5_11 o i x4.toNatClampNeg) (ok_5 hi (z_vlt hq3) hn) kiX0 (Nat.le_of_ble_eq_true rfl) fl_X2_174 dX2_whoMustGo_47 ?_
        refine zJ.aload_n (pc := 50) 3 dX2_whoMustGo_50 rfl rfl ?_
        refine zE.getI (pc := 51) (fd_5_11 o i b5) (ok_5 hi (hx2 b5 rfl) hn) kiX0 (Nat.le_of_ble_eq_true rfl) fl_X2_174 dX2_whoMustGo_51 ?_
        refine zJ.icmp_ge (pc := 54) (tgt := 62) dX2_whoMustGo_54 (by decide) (fun c6 => ?_) (fun c6 => ?_)
        · replace h := h.1 c6
          refine zJ.aload_n (pc := 62) 3 dX2_whoMustGo_62 rfl rfl ?_
          refine zJ.astore_n (pc := 63) (lv' := [(2, .ref (z_adr o (5, i, b5))), (3, .int (x3 + 1)), (5, .ref (z_adr o (5, i, x4.toNatClampNeg))), (0, .ref (z_adr o (1, i, 0))), (4, .int x4)]) dX2_whoMustGo_63 rfl (Nat.le_of_ble_eq_true rfl) rfl ?_
          refine zJ.iinc (pc := 64) (k := 4) (lv' := [(4, .int (x4 + 4)), (2, .ref (z_adr o (5, i, b5))), (3, .int (x3 + 1)), (5, .ref (z_adr o (5, i, x4.toNatClampNeg))), (0, .ref (z_adr o (1, i, 0)))]) dX2_whoMustGo_64 rfl rfl (Nat.le_of_ble_eq_true rfl) rfl ?_
          refine zJ.goto (pc := 67) (tgt := 13) dX2_whoMustGo_67 (by decide) ?_
          exact zJ.sub [4, 1, 2, 0] rfl h
        · replace h := h.2 c6
          refine zJ.aload (pc := 57) 1 dX2_whoMustGo_57 rfl ?_
          refine zJ.goto (pc := 59) (tgt := 63) dX2_whoMustGo_59 (by decide) ?_
          refine zJ.astore_n (pc := 63) (lv' := [(2, .ref (z_adr o (5, i, x4.toNatClampNeg))), (3, .int (x3 + 1)), (5, .ref (z_adr o (5, i, x4.toNatClampNeg))), (0, .ref (z_adr o (1, i, 0))), (4, .int x4)]) dX2_whoMustGo_63 rfl (Nat.le_of_ble_eq_true rfl) rfl ?_
          refine zJ.iinc (pc := 64) (k := 4) (lv' := [(4, .int (x4 + 4)), (2, .ref (z_adr o (5, i, x4.toNatClampNeg))), (3, .int (x3 + 1)), (5, .ref (z_adr o (5, i, x4.toNatClampNeg))), (0, .ref (z_adr o (1, i, 0)))]) dX2_whoMustGo_64 rfl rfl (Nat.le_of_ble_eq_true rfl) rfl ?_
          refine zJ.goto (pc := 67) (tgt := 13) dX2_whoMustGo_67 (by decide) ?_
          exact zJ.sub [4, 1, 2, 0] rfl h
set_option maxRecDepth 100000 in
set_option maxHeartbeats 4000000 in
theorem w_X2_use_0 (o : zW) (n : Nat) (i : Nat) (hi : i < 8) (hn : z_sb i + 120 ≤ n) (b : Nat) (hb : b < 16) (S : zS) (Q : Option Value → zS → Prop) (h : ∀ S1 : zS, S1 = (sI (sI S (1, i, 0) 7 ((S.1 (1, i, 0) 7) + 1)) (5, i, b) 11 ((sI S (1, i, 0) 7 ((S.1 (1, i, 0) 7) + 1)).1 (1, i, 0) 7)) → (Q none S1)) : zG o n mdX2_use 0 [(0, .ref (z_adr o (1, i, 0))), (1, .ref (z_adr o (5, i, b)))] [] S Q := by
  show zJ o mdX2_use 0 _ [] (n, z_enc o S) 0 0 _
  refine zJ.aload_n (pc := 0) 0 dX2_use_0 rfl rfl ?_
  refine zJ.dup (pc := 1) dX2_use_1 rfl ?_
  refine zE.getI (pc := 2) (fd_1_7 o i) (ok_1 hi hn) kiX2 (Nat.le_of_ble_eq_true rfl) fl_X2_59 dX2_use_2 ?_
  refine zJ.iconst (pc := 5) (v := 1) dX2_use_5 (by decide) ?_
  refine zJ.iadd (pc := 6) dX2_use_6 ?_
  refine zE.putI (pc := 7) (fd_1_7 o i) (ok_1 hi hn) kiX2 (Nat.le_of_ble_eq_true rfl) fl_X2_59 rfl rfl dX2_use_7 ?_
  refine zJ.aload_n (pc := 10) 1 dX2_use_10 rfl rfl ?_
  refine zJ.aload_n (pc := 11) 0 dX2_use_11 rfl rfl ?_
  refine zE.getI (pc := 12) (fd_1_7 o i) (ok_1 hi hn) kiX2 (Nat.le_of_ble_eq_true rfl) fl_X2_59 dX2_use_12 ?_
  refine zE.putI (pc := 15) (fd_5_11 o i b) (ok_5 hi hb hn) kiX0 (Nat.le_of_ble_eq_true rfl) fl_X2_174 rfl rfl dX2_use_15 ?_
  refine zJ.nameS (fun S1 hyS1 => ?_)
  replace h := h S1 hyS1
  exact zG.ret (pc := 18) (r := none) ⟨dX2_use_18, rfl⟩ h
set_option maxRecDepth 100000 in
set_option maxHeartbeats 4000000 in
theorem w_X2_setDue_0 (o : zW) (n : Nat) (i : Nat) (hi : i < 8) (hn : z_sb i + 120 ≤ n) (b : Nat) (hb : b < 16) (x2 : Int32) (S : zS) (Q : Option Value → zS → Prop) (h : (((sI S (5, i, b) 10 ((S.1 (3, i, 0) 9) + x2)).1 (1, i, 0) 8) ≤ ((sI S (5, i, b) 10 ((S.1 (3, i, 0) 9) + x2)).1 (5, i, b) 10) → (∀ S2 : zS, S2 = (sI (sI S (5, i, b) 10 ((S.1 (3, i, 0) 9) + x2)) (1, i, 0) 8 ((sI S (5, i, b) 10 ((S.1 (3, i, 0) 9) + x2)).1 (1, i, 0) 8)) → (Q none S2))) ∧ (¬ ((sI S (5, i, b) 10 ((S.1 (3, i, 0) 9) + x2)).1 (1, i, 0) 8) ≤ ((sI S (5, i, b) 10 ((S.1 (3, i, 0) 9) + x2)).1 (5, i, b) 10) → (∀ S3 : zS, S3 = (sI (sI S (5, i, b) 10 ((S.1 (3, i, 0) 9) + x2)) (1, i, 0) 8 ((sI S (5, i, b) 10 ((S.1 (3, i, 0) 9) + x2)).1 (5, i, b) 10)) → (Q none S3)))) : zG o n mdX2_setDue 0 [(0, .ref (z_adr o (1, i, 0))), (1, .ref (z_adr o (5, i, b))), (2, .int x2)] [] S Q := by
  show zJ o mdX2_setDue 0 _ [] (n, z_enc o S) 0 0 _
  refine zJ.aload_n (pc := 0) 1 dX2_setDue_0 rfl rfl ?_
  refine zJ.aload_n (pc := 1) 0 dX2_setDue_1 rfl rfl ?_
  refine zE.getV (pc := 2) (fd_1_1 o i) (ok_1 hi hn) kiX2 (Nat.le_of_ble_eq_true rfl) fl_X2_24 dX2_setDue_2 ?_
  refine zJ.bipush (pc := 5) (v := 9) dX2_setDue_5 (by decide) ?_
  refine zE.aldI (pc := 7) (ia_3 o i) (ok_3 hi hn) (by unfold vp_in; decide) dX2_setDue_7 ?_
  refine zJ.iload_n (pc := 8) 2 dX2_setDue_8 rfl rfl ?_
  refine zJ.iadd (pc := 9) dX2_setDue_9 ?_
  refine zE.putI (pc := 10) (fd_5_10 o i b) (ok_5 hi hb hn) kiX0 (Nat.le_of_ble_eq_true rfl) fl_X2_113 rfl rfl dX2_setDue_10 ?_
  refine zJ.aload_n (pc := 13) 0 dX2_setDue_13 rfl rfl ?_
  refine zJ.aload_n (pc := 14) 1 dX2_setDue_14 rfl rfl ?_
  refine zE.getI (pc := 15) (fd_5_10 o i b) (ok_5 hi hb hn) kiX0 (Nat.le_of_ble_eq_true rfl) fl_X2_113 dX2_setDue_15 ?_
  refine zJ.aload_n (pc := 18) 0 dX2_setDue_18 rfl rfl ?_
  refine zE.getI (pc := 19) (fd_1_8 o i) (ok_1 hi hn) kiX2 (Nat.le_of_ble_eq_true rfl) fl_X2_63 dX2_setDue_19 ?_
  refine zJ.icmp_ge (pc := 22) (tgt := 32) dX2_setDue_22 (by decide) (fun c1 => ?_) (fun c1 => ?_)
  · replace h := h.1 c1
    refine zJ.aload_n (pc := 32) 0 dX2_setDue_32 rfl rfl ?_
    refine zE.getI (pc := 33) (fd_1_8 o i) (ok_1 hi hn) kiX2 (Nat.le_of_ble_eq_true rfl) fl_X2_63 dX2_setDue_33 ?_
    refine zE.putI (pc := 36) (fd_1_8 o i) (ok_1 hi hn) kiX2 (Nat.le_of_ble_eq_true rfl) fl_X2_63 rfl rfl dX2_setDue_36 ?_
    refine zJ.nameS (fun S2 hyS2 => ?_)
    replace h := h S2 hyS2
    exact zG.ret (pc := 39) (r := none) ⟨dX2_setDue_39, rfl⟩ h
  · replace h := h.2 c1
    refine zJ.aload_n (pc := 25) 1 dX2_setDue_25 rfl rfl ?_
    refine zE.getI (pc := 26) (fd_5_10 o i b) (ok_5 hi hb hn) kiX0 (Nat.le_of_ble_eq_true rfl) fl_X2_113 dX2_setDue_26 ?_
    refine zJ.goto (pc := 29) (tgt := 36) dX2_setDue_29 (by decide) ?_
    refine zE.putI (pc := 36) (fd_1_8 o i) (ok_1 hi hn) kiX2 (Nat.le_of_ble_eq_true rfl) fl_X2_63 rfl rfl dX2_setDue_36 ?_
    refine zJ.nameS (fun S3 hyS3 => ?_)
    replace h := h S3 hyS3
    exact zG.ret (pc := 39) (r := none) ⟨dX2_setDue_39, rfl⟩ h
set_option maxRecDepth 100000 in
set_option maxHeartbeats 4000000 in
theorem w_X2_ask_0 (o : zW) (n : Nat) (i : Nat) (hi : i < 8) (hn : z_sb i + 120 ≤ n) (b : Nat) (hb : b < 16) (x2 : Int32) (x3 : Int32) (S : zS) (Q : Option Value → zS → Prop) (h : (¬ (S.1 (5, i, b) 8) = 1 → ((¬ (S.1 (5, i, b) 8) = 2 → ((¬ (S.1 (5, i, b) 8) = 3 → (((S.1 (1, i, 0) 5) < (S.1 (2, i, 0) 2) → (∀ y5 : Int32, y5 = ((sI (sI S (1, i, 0) 5 ((S.1 (1, i, 0) 5) + 1)) (5, i, b) 8 3).1 (2, i, 0) 4) → (zGv o n mdX2_setDue [.ref (z_adr o (1, i, 0)), .ref (z_adr o (5, i, b)), .int y5] (sI (sI S (1, i, 0) 5 ((S.1 (1, i, 0) 5) + 1)) (5, i, b) 8 3) (fun S8 => zGv o n mdX2_tally [.ref (z_adr o (1, i, 0)), .int 2, .float (1083703296 : UInt32)] S8 (fun S11 => zGv o n mdX2_takeAsker [.ref (z_adr o (1, i, 0)), .ref (z_adr o (5, i, b)), .int x2, .int x3] S11 (fun S14 => Q (some (.int 1)) S14)))))) ∧ (¬ (S.1 (1, i, 0) 5) < (S.1 (2, i, 0) 2) → (Q (some (.int 0)) S)))) ∧ ((S.1 (5, i, b) 8) = 3 → (((S.1 (5, i, b) 7) < (S.1 (2, i, 0) 3) → (zGv o n mdX2_tally [.ref (z_adr o (1, i, 0)), .int 1, .float (1048576000 : UInt32)] S (fun S18 => zGv o n mdX2_takeAsker [.ref (z_adr o (1, i, 0)), .ref (z_adr o (5, i, b)), .int x2, .int x3] S18 (fun S21 => Q (some (.int 1)) S21)))) ∧ (¬ (S.1 (5, i, b) 7) < (S.1 (2, i, 0) 3) → (Q (some (.int 0)) S)))))) ∧ ((S.1 (5, i, b) 8) = 2 → (zGv o n mdX2_settle [.ref (z_adr o (1, i, 0)), .ref (z_adr o (5, i, b))] (sI S (1, i, 0) 6 ((S.1 (1, i, 0) 6) - 1)) (fun S24 => zGv o n mdX2_tally [.ref (z_adr o (1, i, 0)), .int 3, .float (1074266112 : UInt32)] S24 (fun S27 => zGv o n mdX2_takeAsker [.ref (z_adr o (1, i, 0)), .ref (z_adr o (5, i, b)), .int x2, .int x3] S27 (fun S30 => Q (some (.int 1)) S30))))))) ∧ ((S.1 (5, i, b) 8) = 1 → (zGv o n mdX2_use [.ref (z_adr o (1, i, 0)), .ref (z_adr o (5, i, b))] S (fun S33 => zGv o n mdX2_tally [.ref (z_adr o (1, i, 0)), .int 0, .float (1069547520 : UInt32)] S33 (fun S36 => zGv o n mdX2_takeAsker [.ref (z_adr o (1, i, 0)), .ref (z_adr o (5, i, b)), .int x2, .int x3] S36 (fun S39 => Q (some (.int 1)) S39)))))) : zG o n mdX2_ask 0 [(0, .ref (z_adr o (1, i, 0))), (1, .ref (z_adr o (5, i, b))), (2, .int x2), (3, .int x3)] [] S Q := by
  show zJ o mdX2_ask 0 _ [] (n, z_enc o S) 0 0 _
  refine zJ.aload_n (pc := 0) 1 dX2_ask_0 rfl rfl ?_
  refine zE.getI (pc := 1) (fd_5_8 o i b) (ok_5 hi hb hn) kiX0 (Nat.le_of_ble_eq_true rfl) fl_X2_110 dX2_ask_1 ?_
  refine zJ.iconst (pc := 4) (v := 1) dX2_ask_4 (by decide) ?_
  refine zJ.icmp_ne (pc := 5) (tgt := 23) dX2_ask_5 (by decide) (fun c1 => ?_) (fun c1 => ?_)
  · replace h := h.1 c1
    refine zJ.aload_n (pc := 23) 1 dX2_ask_23 rfl rfl ?_
    refine zE.getI (pc := 24) (fd_5_8 o i b) (ok_5 hi hb hn) kiX0 (Nat.le_of_ble_eq_true rfl) fl_X2_110 dX2_ask_24 ?_
    refine zJ.iconst (pc := 27) (v := 2) dX2_ask_27 (by decide) ?_
    refine zJ.icmp_ne (pc := 28) (tgt := 56) dX2_ask_28 (by decide) (fun c2 => ?_) (fun c2 => ?_)
    · replace h := h.1 c2
      refine zJ.aload_n (pc := 56) 1 dX2_ask_56 rfl rfl ?_
      refine zE.getI (pc := 57) (fd_5_8 o i b) (ok_5 hi hb hn) kiX0 (Nat.le_of_ble_eq_true rfl) fl_X2_110 dX2_ask_57 ?_
      refine zJ.iconst (pc := 60) (v := 3) dX2_ask_60 (by decide) ?_
      refine zJ.icmp_ne (pc := 61) (tgt := 89) dX2_ask_61 (by decide) (fun c3 => ?_) (fun c3 => ?_)
      · replace h := h.1 c3
        refine zJ.aload_n (pc := 89) 0 dX2_ask_89 rfl rfl ?_
        refine zE.getI (pc := 90) (fd_1_5 o i) (ok_1 hi hn) kiX2 (Nat.le_of_ble_eq_true rfl) fl_X2_52 dX2_ask_90 ?_
        refine zJ.aload_n (pc := 93) 0 dX2_ask_93 rfl rfl ?_
        refine zE.getV (pc := 94) (fd_1_0 o i) (ok_1 hi hn) kiX2 (Nat.le_of_ble_eq_true rfl) fl_X2_13 dX2_ask_94 ?_
        refine zJ.iconst (pc := 97) (v := 2) dX2_ask_97 (by decide) ?_
        refine zE.aldI (pc := 98) (ia_2 o i) (ok_2 hi hn) (by unfold vp_in; decide) dX2_ask_98 ?_
        refine zJ.icmp_lt (pc := 99) (tgt := 104) dX2_ask_99 (by decide) (fun c4 => ?_) (fun c4 => ?_)
        · replace h := h.1 c4
          refine zJ.aload_n (pc := 104) 0 dX2_ask_104 rfl rfl ?_
          refine zJ.dup (pc := 105) dX2_ask_105 rfl ?_
          refine zE.getI (pc := 106) (fd_1_5 o i) (ok_1 hi hn) kiX2 (Nat.le_of_ble_eq_true rfl) fl_X2_52 dX2_ask_106 ?_
          refine zJ.iconst (pc := 109) (v := 1) dX2_ask_109 (by decide) ?_
          refine zJ.iadd (pc := 110) dX2_ask_110 ?_
          refine zE.putI (pc := 111) (fd_1_5 o i) (ok_1 hi hn) kiX2 (Nat.le_of_ble_eq_true rfl) fl_X2_52 rfl rfl dX2_ask_111 ?_
          refine zJ.aload_n (pc := 114) 1 dX2_ask_114 rfl rfl ?_
          refine zJ.iconst (pc := 115) (v := 3) dX2_ask_115 (by decide) ?_
          refine zE.putI (pc := 116) (fd_5_8 o i b) (ok_5 hi hb hn) kiX0 (Nat.le_of_ble_eq_true rfl) fl_X2_110 rfl rfl dX2_ask_116 ?_
          refine zJ.aload_n (pc := 119) 0 dX2_ask_119 rfl rfl ?_
          refine zJ.aload_n (pc := 120) 1 dX2_ask_120 rfl rfl ?_
          refine zJ.aload_n (pc := 121) 0 dX2_ask_121 rfl rfl ?_
          refine zE.getV (pc := 122) (fd_1_0 o i) (ok_1 hi hn) kiX2 (Nat.le_of_ble_eq_true rfl) fl_X2_13 dX2_ask_122 ?_
          refine zJ.iconst (pc := 125) (v := 4) dX2_ask_125 (by decide) ?_
          refine zE.aldI (pc := 126) (ia_2 o i) (ok_2 hi hn) (by unfold vp_in; decide) dX2_ask_126 ?_
          refine zJ.topi (fun y5 hyy5 => ?_)
          replace h := h y5 hyy5
          refine zG.callVv (d := mdX2_ask) (pc := 127) [.ref (z_adr o (5, i, b)), .int y5] [] (ob_1 o i) (ok_1 hi hn) rfl dX2_ask_127 ⟨(cb_X2_setDue).1, (cb_X2_setDue).2, (Nat.le_of_ble_eq_true rfl), (Nat.le_of_ble_eq_true rfl)⟩ ml_X2_167 ci_X2_setDue cv_X2_setDue rfl (Nat.le_of_ble_eq_true rfl) (Nat.le_of_ble_eq_true rfl) rfl h (fun S8 h2 => ?_)
          replace h := h2
          clear h2
          refine zJ.aload_n (pc := 130) 0 dX2_ask_130 rfl rfl ?_
          refine zJ.iconst (pc := 131) (v := 2) dX2_ask_131 (by decide) ?_
          refine zJ.ldcf (pc := 132) lc_X2_180 dX2_ask_132 ?_
          refine zG.callVv (d := mdX2_ask) (pc := 134) [.int 2, .float (1083703296 : UInt32)] [] (ob_1 o i) (ok_1 hi hn) rfl dX2_ask_134 ⟨(cb_X2_tally).1, (cb_X2_tally).2, (Nat.le_of_ble_eq_true rfl), (Nat.le_of_ble_eq_true rfl)⟩ ml_X2_81 ci_X2_tally cv_X2_tally rfl (Nat.le_of_ble_eq_true rfl) (Nat.le_of_ble_eq_true rfl) rfl h (fun S11 h2 => ?_)
          replace h := h2
          clear h2
          refine zJ.aload_n (pc := 137) 0 dX2_ask_137 rfl rfl ?_
          refine zJ.aload_n (pc := 138) 1 dX2_ask_138 rfl rfl ?_
          refine zJ.iload_n (pc := 139) 2 dX2_ask_139 rfl rfl ?_
          refine zJ.iload_n (pc := 140) 3 dX2_ask_140 rfl rfl ?_
          refine zG.callVv (d := mdX2_ask) (pc := 141) [.ref (z_adr o (5, i, b)), .int x2, .int x3] [] (ob_1 o i) (ok_1 hi hn) rfl dX2_ask_141 ⟨(cb_X2_takeAsker).1, (cb_X2_takeAsker).2, (Nat.le_of_ble_eq_true rfl), (Nat.le_of_ble_eq_true rfl)⟩ ml_X2_181 ci_X2_takeAsker cv_X2_takeAsker rfl (Nat.le_of_ble_eq_true rfl) (Nat.le_of_ble_eq_true rfl) rfl h (fun S14 h2 => ?_)
          replace h := h2
          clear h2
          refine zJ.iconst (pc := 144) (v := 1) dX2_ask_144 (by decide) ?_
          exact zG.ret (pc := 145) (r := some (.int 1)) ⟨dX2_ask_145, _, rfl, rfl⟩ h
        · replace h := h.2 c4
          refine zJ.iconst (pc := 102) (v := 0) dX2_ask_102 (by decide) ?_
          exact zG.ret (pc := 103) (r := some (.int 0)) ⟨dX2_ask_103, _, rfl, rfl⟩ h
      · replace h := h.2 c3
        refine zJ.aload_n (pc := 64) 1 dX2_ask_64 rfl rfl ?_
        refine zE.getI (pc := 65) (fd_5_7 o i b) (ok_5 hi hb hn) kiX0 (Nat.le_of_ble_eq_true rfl) fl_X2_135 dX2_ask_65 ?_
        refine zJ.aload_n (pc := 68) 0 dX2_ask_68 rfl rfl ?_
        refine zE.getV (pc := 69) (fd_1_0 o i) (ok_1 hi hn) kiX2 (Nat.le_of_ble_eq_true rfl) fl_X2_13 dX2_ask_69 ?_
        refine zJ.iconst (pc := 72) (v := 3) dX2_ask_72 (by decide) ?_
        refine zE.aldI (pc := 73) (ia_2 o i) (ok_2 hi hn) (by unfold vp_in; decide) dX2_ask_73 ?_
        refine zJ.icmp_lt (pc := 74) (tgt := 79) dX2_ask_74 (by decide) (fun c15 => ?_) (fun c15 => ?_)
        · replace h := h.1 c15
          refine zJ.aload_n (pc := 79) 0 dX2_ask_79 rfl rfl ?_
          refine zJ.iconst (pc := 80) (v := 1) dX2_ask_80 (by decide) ?_
          refine zJ.ldcf (pc := 81) lc_X2_179 dX2_ask_81 ?_
          refine zG.callVv (d := mdX2_ask) (pc := 83) [.int 1, .float (1048576000 : UInt32)] [] (ob_1 o i) (ok_1 hi hn) rfl dX2_ask_83 ⟨(cb_X2_tally).1, (cb_X2_tally).2, (Nat.le_of_ble_eq_true rfl), (Nat.le_of_ble_eq_true rfl)⟩ ml_X2_81 ci_X2_tally cv_X2_tally rfl (Nat.le_of_ble_eq_true rfl) (Nat.le_of_ble_eq_true rfl) rfl h (fun S18 h2 => ?_)
          replace h := h2
          clear h2
          refine zJ.goto (pc := 86) (tgt := 137) dX2_ask_86 (by decide) ?_
          refine zJ.aload_n (pc := 137) 0 dX2_ask_137 rfl rfl ?_
          refine zJ.aload_n (pc := 138) 1 dX2_ask_138 rfl rfl ?_
          refine zJ.iload_n (pc := 139) 2 dX2_ask_139 rfl rfl ?_
          refine zJ.iload_n (pc := 140) 3 dX2_ask_140 rfl rfl ?_
          refine zG.callVv (d := mdX2_ask) (pc := 141) [.ref (z_adr o (5, i, b)), .int x2, .int x3] [] (ob_1 o i) (ok_1 hi hn) rfl dX2_ask_141 ⟨(cb_X2_takeAsker).1, (cb_X2_takeAsker).2, (Nat.le_of_ble_eq_true rfl), (Nat.le_of_ble_eq_true rfl)⟩ ml_X2_181 ci_X2_takeAsker cv_X2_takeAsker rfl (Nat.le_of_ble_eq_true rfl) (Nat.le_of_ble_eq_true rfl) rfl h (fun S21 h2 => ?_)
          replace h := h2
          clear h2
          refine zJ.iconst (pc := 144) (v := 1) dX2_ask_144 (by decide) ?_
          exact zG.ret (pc := 145) (r := some (.int 1)) ⟨dX2_ask_145, _, rfl, rfl⟩ h
        · replace h := h.2 c15
          refine zJ.iconst (pc := 77) (v := 0) dX2_ask_77 (by decide) ?_
          exact zG.ret (pc := 78) (r := some (.int 0)) ⟨dX2_ask_78, _, rfl, rfl⟩ h
    · replace h := h.2 c2
      refine zJ.aload_n (pc := 31) 0 dX2_ask_31 rfl rfl ?_
      refine zJ.dup (pc := 32) dX2_ask_32 rfl ?_
      refine zE.getI (pc := 33) (fd_1_6 o i) (ok_1 hi hn) kiX2 (Nat.le_of_ble_eq_true rfl) fl_X2_56 dX2_ask_33 ?_
      refine zJ.iconst (pc := 36) (v := 1) dX2_ask_36 (by decide) ?_
      refine zJ.isub (pc := 37) dX2_ask_37 ?_
      refine zE.putI (pc := 38) (fd_1_6 o i) (ok_1 hi hn) kiX2 (Nat.le_of_ble_eq_true rfl) fl_X2_56 rfl rfl dX2_ask_38 ?_
      refine zJ.aload_n (pc := 41) 0 dX2_ask_41 rfl rfl ?_
      refine zJ.aload_n (pc := 42) 1 dX2_ask_42 rfl rfl ?_
      refine zG.callVv (d := mdX2_ask) (pc := 43) [.ref (z_adr o (5, i, b))] [] (ob_1 o i) (ok_1 hi hn) rfl dX2_ask_43 ⟨(cb_X2_settle).1, (cb_X2_settle).2, (Nat.le_of_ble_eq_true rfl), (Nat.le_of_ble_eq_true rfl)⟩ ml_X2_132 ci_X2_settle cv_X2_settle rfl (Nat.le_of_ble_eq_true rfl) (Nat.le_of_ble_eq_true rfl) rfl h (fun S24 h2 => ?_)
      replace h := h2
      clear h2
      refine zJ.aload_n (pc := 46) 0 dX2_ask_46 rfl rfl ?_
      refine zJ.iconst (pc := 47) (v := 3) dX2_ask_47 (by decide) ?_
      refine zJ.ldcf (pc := 48) lc_X2_178 dX2_ask_48 ?_
      refine zG.callVv (d := mdX2_ask) (pc := 50) [.int 3, .float (1074266112 : UInt32)] [] (ob_1 o i) (ok_1 hi hn) rfl dX2_ask_50 ⟨(cb_X2_tally).1, (cb_X2_tally).2, (Nat.le_of_ble_eq_true rfl), (Nat.le_of_ble_eq_true rfl)⟩ ml_X2_81 ci_X2_tally cv_X2_tally rfl (Nat.le_of_ble_eq_true rfl) (Nat.le_of_ble_eq_true rfl) rfl h (fun S27 h2 => ?_)
      replace h := h2
      clear h2
      refine zJ.goto (pc := 53) (tgt := 137) dX2_ask_53 (by decide) ?_
      refine zJ.aload_n (pc := 137) 0 dX2_ask_137 rfl rfl ?_
      refine zJ.aload_n (pc := 138) 1 dX2_ask_138 rfl rfl ?_
      refine zJ.iload_n (pc := 139) 2 dX2_ask_139 rfl rfl ?_
      refine zJ.iload_n (pc := 140) 3 dX2_ask_140 rfl rfl ?_
      refine zG.callVv (d := mdX2_ask) (pc := 141) [.ref (z_adr o (5, i, b)), .int x2, .int x3] [] (ob_1 o i) (ok_1 hi hn) rfl dX2_ask_141 ⟨(cb_X2_takeAsker).1, (cb_X2_takeAsker).2, (Nat.le_of_ble_eq_true rfl), (Nat.le_of_ble_eq_true rfl)⟩ ml_X2_181 ci_X2_takeAsker cv_X2_takeAsker rfl (Nat.le_of_ble_eq_true rfl) (Nat.le_of_ble_eq_true rfl) rfl h (fun S30 h2 => ?_)
      replace h := h2
      clear h2
      refine zJ.iconst (pc := 144) (v := 1) dX2_ask_144 (by decide) ?_
      exact zG.ret (pc := 145) (r := some (.int 1)) ⟨dX2_ask_145, _, rfl, rfl⟩ h
  · replace h := h.2 c1
    refine zJ.aload_n (pc := 8) 0 dX2_ask_8 rfl rfl ?_
    refine zJ.aload_n (pc := 9) 1 dX2_ask_9 rfl rfl ?_
    refine zG.callVv (d := mdX2_ask) (pc := 10) [.ref (z_adr o (5, i, b))] [] (ob_1 o i) (ok_1 hi hn) rfl dX2_ask_10 ⟨(cb_X2_use).1, (cb_X2_use).2, (Nat.le_of_ble_eq_true rfl), (Nat.le_of_ble_eq_true rfl)⟩ ml_X2_171 ci_X2_use cv_X2_use rfl (Nat.le_of_ble_eq_true rfl) (Nat.le_of_ble_eq_true rfl) rfl h (fun S33 h2 => ?_)
    replace h := h2
    clear h2
    refine zJ.aload_n (pc := 13) 0 dX2_ask_13 rfl rfl ?_
    refine zJ.iconst (pc := 14) (v := 0) dX2_ask_14 (by decide) ?_
    refine zJ.ldcf (pc := 15) lc_X2_177 dX2_ask_15 ?_
    refine zG.callVv (d := mdX2_ask) (pc := 17) [.int 0, .float (1069547520 : UInt32)] [] (ob_1 o i) (ok_1 hi hn) rfl dX2_ask_17 ⟨(cb_X2_tally).1, (cb_X2_tally).2, (Nat.le_of_ble_eq_true rfl), (Nat.le_of_ble_eq_true rfl)⟩ ml_X2_81 ci_X2_tally cv_X2_tally rfl (Nat.le_of_ble_eq_true rfl) (Nat.le_of_ble_eq_true rfl) rfl h (fun S36 h2 => ?_)
    replace h := h2
    clear h2
    refine zJ.goto (pc := 20) (tgt := 137) dX2_ask_20 (by decide) ?_
    refine zJ.aload_n (pc := 137) 0 dX2_ask_137 rfl rfl ?_
    refine zJ.aload_n (pc := 138) 1 dX2_ask_138 rfl rfl ?_
    refine zJ.iload_n (pc := 139) 2 dX2_ask_139 rfl rfl ?_
    refine zJ.iload_n (pc := 140) 3 dX2_ask_140 rfl rfl ?_
    refine zG.callVv (d := mdX2_ask) (pc := 141) [.ref (z_adr o (5, i, b)), .int x2, .int x3] [] (ob_1 o i) (ok_1 hi hn) rfl dX2_ask_141 ⟨(cb_X2_takeAsker).1, (cb_X2_takeAsker).2, (Nat.le_of_ble_eq_true rfl), (Nat.le_of_ble_eq_true rfl)⟩ ml_X2_181 ci_X2_takeAsker cv_X2_takeAsker rfl (Nat.le_of_ble_eq_true rfl) (Nat.le_of_ble_eq_true rfl) rfl h (fun S39 h2 => ?_)
    replace h := h2
    clear h2
    refine zJ.iconst (pc := 144) (v := 1) dX2_ask_144 (by decide) ?_
    exact zG.ret (pc := 145) (r := some (.int 1)) ⟨dX2_ask_145, _, rfl, rfl⟩ h
set_option maxRecDepth 100000 in
set_option maxHeartbeats 4000000 in
theorem w_X2_takeAsker_0 (o : zW) (n : Nat) (i : Nat) (hi : i < 8) (hn : z_sb i + 120 ≤ n) (b : Nat) (hb : b < 16) (x2 : Int32) (x3 : Int32) (S : zS) (Q : Option Value → zS → Prop) (h : (¬ x3 = (-1) → ((¬ (S.1 (5, i, b) 8) = 1 → (zGv o n mdX0_addAsker [.ref (z_adr o (5, i, b)), .int x2, .int x3, .int (-1), .int (S.1 (3, i, 0) 9)] S (fun S5 => Q none S5))) ∧ ((S.1 (5, i, b) 8) = 1 → (zGv o n mdX2_serve [.ref (z_adr o (1, i, 0)), .ref (z_adr o (5, i, b)), .int x2, .int x3, .int (-1), .int (S.1 (3, i, 0) 9)] S (fun S8 => Q none S8))))) ∧ (x3 = (-1) → (zGi o n mdX1_add [.ref (z_adr o (12, i, 0)), .int ((sI S (3, i, 0) 7 ((S.1 (3, i, 0) 7) + 1)).1 (3, i, 0) 9)] (sI S (3, i, 0) 7 ((S.1 (3, i, 0) 7) + 1)) (fun r10 S11 => (¬ (S11.1 (5, i, b) 8) = 1 → (zGv o n mdX0_addAsker [.ref (z_adr o (5, i, b)), .int x2, .int x3, .int r10, .int (S11.1 (3, i, 0) 9)] S11 (fun S15 => Q none S15))) ∧ ((S11.1 (5, i, b) 8) = 1 → (zGv o n mdX2_serve [.ref (z_adr o (1, i, 0)), .ref (z_adr o (5, i, b)), .int x2, .int x3, .int r10, .int (S11.1 (3, i, 0) 9)] S11 (fun S18 => Q none S18))))))) : zG o n mdX2_takeAsker 0 [(0, .ref (z_adr o (1, i, 0))), (1, .ref (z_adr o (5, i, b))), (2, .int x2), (3, .int x3)] [] S Q := by
  show zJ o mdX2_takeAsker 0 _ [] (n, z_enc o S) 0 0 _
  refine zJ.iconst (pc := 0) (v := (-1)) dX2_takeAsker_0 (by decide) ?_
  refine zJ.istore (pc := 1) (lv' := [(4, .int (-1)), (0, .ref (z_adr o (1, i, 0))), (1, .ref (z_adr o (5, i, b))), (2, .int x2), (3, .int x3)]) dX2_takeAsker_1 (Nat.le_of_ble_eq_true rfl) rfl ?_
  refine zJ.iload_n (pc := 3) 4 dX2_takeAsker_3 rfl rfl ?_
  refine zJ.iconst (pc := 4) (v := (-1)) dX2_takeAsker_4 (by decide) ?_
  refine zJ.icmp_ne (pc := 5) (tgt := 35) dX2_takeAsker_5 (by decide) (fun c1 => ?_) (fun c1 => ?_)
  · replace h := h.1 c1
    refine zJ.aload_n (pc := 35) 2 dX2_takeAsker_35 rfl rfl ?_
    refine zE.getI (pc := 36) (fd_5_8 o i b) (ok_5 hi hb hn) kiX0 (Nat.le_of_ble_eq_true rfl) fl_X2_110 dX2_takeAsker_36 ?_
    refine zJ.iconst (pc := 39) (v := 1) dX2_takeAsker_39 (by decide) ?_
    refine zJ.icmp_ne (pc := 40) (tgt := 62) dX2_takeAsker_40 (by decide) (fun c2 => ?_) (fun c2 => ?_)
    · replace h := h.1 c2
      refine zJ.aload_n (pc := 62) 2 dX2_takeAsker_62 rfl rfl ?_
      refine zJ.iload_n (pc := 63) 3 dX2_takeAsker_63 rfl rfl ?_
      refine zJ.iload_n (pc := 64) 4 dX2_takeAsker_64 rfl rfl ?_
      refine zJ.iload (pc := 65) 0 dX2_takeAsker_65 rfl ?_
      refine zJ.aload_n (pc := 67) 1 dX2_takeAsker_67 rfl rfl ?_
      refine zE.getV (pc := 68) (fd_1_1 o i) (ok_1 hi hn) kiX2 (Nat.le_of_ble_eq_true rfl) fl_X2_24 dX2_takeAsker_68 ?_
      refine zJ.bipush (pc := 71) (v := 9) dX2_takeAsker_71 (by decide) ?_
      refine zE.aldI (pc := 73) (ia_3 o i) (ok_3 hi hn) (by unfold vp_in; decide) dX2_takeAsker_73 ?_
      refine zG.callVv (d := mdX2_takeAsker) (pc := 74) [.int x2, .int x3, .int (-1), .int (S.1 (3, i, 0) 9)] [] (ob_5 o i b) (ok_5 hi hb hn) rfl dX2_takeAsker_74 ⟨(cb_X0_addAsker).1, (cb_X0_addAsker).2, (Nat.le_of_ble_eq_true rfl), (Nat.le_of_ble_eq_true rfl)⟩ ml_X2_189 ci_X0_addAsker cv_X0_addAsker rfl (Nat.le_of_ble_eq_true rfl) (Nat.le_of_ble_eq_true rfl) rfl h (fun S5 h2 => ?_)
      replace h := h2
      clear h2
      exact zG.ret (pc := 77) (r := none) ⟨dX2_takeAsker_77, rfl⟩ h
    · replace h := h.2 c2
      refine zJ.aload_n (pc := 43) 1 dX2_takeAsker_43 rfl rfl ?_
      refine zJ.aload_n (pc := 44) 2 dX2_takeAsker_44 rfl rfl ?_
      refine zJ.iload_n (pc := 45) 3 dX2_takeAsker_45 rfl rfl ?_
      refine zJ.iload_n (pc := 46) 4 dX2_takeAsker_46 rfl rfl ?_
      refine zJ.iload (pc := 47) 0 dX2_takeAsker_47 rfl ?_
      refine zJ.aload_n (pc := 49) 1 dX2_takeAsker_49 rfl rfl ?_
      refine zE.getV (pc := 50) (fd_1_1 o i) (ok_1 hi hn) kiX2 (Nat.le_of_ble_eq_true rfl) fl_X2_24 dX2_takeAsker_50 ?_
      refine zJ.bipush (pc := 53) (v := 9) dX2_takeAsker_53 (by decide) ?_
      refine zE.aldI (pc := 55) (ia_3 o i) (ok_3 hi hn) (by unfold vp_in; decide) dX2_takeAsker_55 ?_
      refine zG.callVv (d := mdX2_takeAsker) (pc := 56) [.ref (z_adr o (5, i, b)), .int x2, .int x3, .int (-1), .int (S.1 (3, i, 0) 9)] [] (ob_1 o i) (ok_1 hi hn) rfl dX2_takeAsker_56 ⟨(cb_X2_serve).1, (cb_X2_serve).2, (Nat.le_of_ble_eq_true rfl), (Nat.le_of_ble_eq_true rfl)⟩ ml_X2_150 ci_X2_serve cv_X2_serve rfl (Nat.le_of_ble_eq_true rfl) (Nat.le_of_ble_eq_true rfl) rfl h (fun S8 h2 => ?_)
      replace h := h2
      clear h2
      refine zJ.goto (pc := 59) (tgt := 77) dX2_takeAsker_59 (by decide) ?_
      exact zG.ret (pc := 77) (r := none) ⟨dX2_takeAsker_77, rfl⟩ h
  · replace h := h.2 c1
    refine zJ.aload_n (pc := 8) 1 dX2_takeAsker_8 rfl rfl ?_
    refine zE.getV (pc := 9) (fd_1_1 o i) (ok_1 hi hn) kiX2 (Nat.le_of_ble_eq_true rfl) fl_X2_24 dX2_takeAsker_9 ?_
    refine zJ.bipush (pc := 12) (v := 7) dX2_takeAsker_12 (by decide) ?_
    refine zJ.dup2_11 (pc := 14) dX2_takeAsker_14 rfl rfl ?_
    refine zE.aldI (pc := 15) (ia_3 o i) (ok_3 hi hn) (by unfold vp_in; decide) dX2_takeAsker_15 ?_
    refine zJ.iconst (pc := 16) (v := 1) dX2_takeAsker_16 (by decide) ?_
    refine zJ.iadd (pc := 17) dX2_takeAsker_17 ?_
    refine zE.astI (pc := 18) (ia_3 o i) (ok_3 hi hn) (by unfold vp_in; decide) dX2_takeAsker_18 ?_
    refine zJ.aload_n (pc := 19) 1 dX2_takeAsker_19 rfl rfl ?_
    refine zE.getV (pc := 20) (fd_1_3 o i) (ok_1 hi hn) kiX2 (Nat.le_of_ble_eq_true rfl) fl_X2_39 dX2_takeAsker_20 ?_
    refine zJ.aload_n (pc := 23) 1 dX2_takeAsker_23 rfl rfl ?_
    refine zE.getV (pc := 24) (fd_1_1 o i) (ok_1 hi hn) kiX2 (Nat.le_of_ble_eq_true rfl) fl_X2_24 dX2_takeAsker_24 ?_
    refine zJ.bipush (pc := 27) (v := 9) dX2_takeAsker_27 (by decide) ?_
    refine zE.aldI (pc := 29) (ia_3 o i) (ok_3 hi hn) (by unfold vp_in; decide) dX2_takeAsker_29 ?_
    refine zG.callVi (d := mdX2_takeAsker) (pc := 30) [.int ((sI S (3, i, 0) 7 ((S.1 (3, i, 0) 7) + 1)).1 (3, i, 0) 9)] [] (ob_12 o i) (ok_12 hi hn) rfl dX2_takeAsker_30 ⟨(cb_X1_add).1, (cb_X1_add).2, (Nat.le_of_ble_eq_true rfl), (Nat.le_of_ble_eq_true rfl)⟩ ml_X2_185 ci_X1_add cv_X1_add rfl (Nat.le_of_ble_eq_true rfl) (Nat.le_of_ble_eq_true rfl) rfl h (fun r10 S11 h2 => ?_)
    replace h := h2
    clear h2
    refine zJ.istore (pc := 33) (lv' := [(4, .int r10), (0, .ref (z_adr o (1, i, 0))), (1, .ref (z_adr o (5, i, b))), (2, .int x2), (3, .int x3)]) dX2_takeAsker_33 (Nat.le_of_ble_eq_true rfl) rfl ?_
    refine zJ.aload_n (pc := 35) 2 dX2_takeAsker_35 rfl rfl ?_
    refine zE.getI (pc := 36) (fd_5_8 o i b) (ok_5 hi hb hn) kiX0 (Nat.le_of_ble_eq_true rfl) fl_X2_110 dX2_takeAsker_36 ?_
    refine zJ.iconst (pc := 39) (v := 1) dX2_takeAsker_39 (by decide) ?_
    refine zJ.icmp_ne (pc := 40) (tgt := 62) dX2_takeAsker_40 (by decide) (fun c12 => ?_) (fun c12 => ?_)
    · replace h := h.1 c12
      refine zJ.aload_n (pc := 62) 2 dX2_takeAsker_62 rfl rfl ?_
      refine zJ.iload_n (pc := 63) 3 dX2_takeAsker_63 rfl rfl ?_
      refine zJ.iload_n (pc := 64) 4 dX2_takeAsker_64 rfl rfl ?_
      refine zJ.iload (pc := 65) 0 dX2_takeAsker_65 rfl ?_
      refine zJ.aload_n (pc := 67) 1 dX2_takeAsker_67 rfl rfl ?_
      refine zE.getV (pc := 68) (fd_1_1 o i) (ok_1 hi hn) kiX2 (Nat.le_of_ble_eq_true rfl) fl_X2_24 dX2_takeAsker_68 ?_
      refine zJ.bipush (pc := 71) (v := 9) dX2_takeAsker_71 (by decide) ?_
      refine zE.aldI (pc := 73) (ia_3 o i) (ok_3 hi hn) (by unfold vp_in; decide) dX2_takeAsker_73 ?_
      refine zG.callVv (d := mdX2_takeAsker) (pc := 74) [.int x2, .int x3, .int r10, .int (S11.1 (3, i, 0) 9)] [] (ob_5 o i b) (ok_5 hi hb hn) rfl dX2_takeAsker_74 ⟨(cb_X0_addAsker).1, (cb_X0_addAsker).2, (Nat.le_of_ble_eq_true rfl), (Nat.le_of_ble_eq_true rfl)⟩ ml_X2_189 ci_X0_addAsker cv_X0_addAsker rfl (Nat.le_of_ble_eq_true rfl) (Nat.le_of_ble_eq_true rfl) rfl h (fun S15 h2 => ?_)
      replace h := h2
      clear h2
      exact zG.ret (pc := 77) (r := none) ⟨dX2_takeAsker_77, rfl⟩ h
    · replace h := h.2 c12
      refine zJ.aload_n (pc := 43) 1 dX2_takeAsker_43 rfl rfl ?_
      refine zJ.aload_n (pc := 44) 2 dX2_takeAsker_44 rfl rfl ?_
      refine zJ.iload_n (pc := 45) 3 dX2_takeAsker_45 rfl rfl ?_
      refine zJ.iload_n (pc := 46) 4 dX2_takeAsker_46 rfl rfl ?_
      refine zJ.iload (pc := 47) 0 dX2_takeAsker_47 rfl ?_
      refine zJ.aload_n (pc := 49) 1 dX2_takeAsker_49 rfl rfl ?_
      refine zE.getV (pc := 50) (fd_1_1 o i) (ok_1 hi hn) kiX2 (Nat.le_of_ble_eq_true rfl) fl_X2_24 dX2_takeAsker_50 ?_
      refine zJ.bipush (pc := 53) (v := 9) dX2_takeAsker_53 (by decide) ?_
      refine zE.aldI (pc := 55) (ia_3 o i) (ok_3 hi hn) (by unfold vp_in; decide) dX2_takeAsker_55 ?_
      refine zG.callVv (d := mdX2_takeAsker) (pc := 56) [.ref (z_adr o (5, i, b)), .int x2, .int x3, .int r10, .int (S11.1 (3, i, 0) 9)] [] (ob_1 o i) (ok_1 hi hn) rfl dX2_takeAsker_56 ⟨(cb_X2_serve).1, (cb_X2_serve).2, (Nat.le_of_ble_eq_true rfl), (Nat.le_of_ble_eq_true rfl)⟩ ml_X2_150 ci_X2_serve cv_X2_serve rfl (Nat.le_of_ble_eq_true rfl) (Nat.le_of_ble_eq_true rfl) rfl h (fun S18 h2 => ?_)
      replace h := h2
      clear h2
      refine zJ.goto (pc := 59) (tgt := 77) dX2_takeAsker_59 (by decide) ?_
      exact zG.ret (pc := 77) (r := none) ⟨dX2_takeAsker_77, rfl⟩ h
set_option maxRecDepth 100000 in
set_option maxHeartbeats 4000000 in
theorem w_X2_serve_0 (o : zW) (n : Nat) (i : Nat) (hi : i < 8) (hn : z_sb i + 120 ≤ n) (b : Nat) (hb : b < 16) (x2 : Int32) (x3 : Int32) (x4 : Int32) (x5 : Int32) (S : zS) (Q : Option Value → zS → Prop) (h : (¬ x3 = (-1) → (zGv o n mdX0_layIn [.ref (z_adr o (5, i, b)), .int x2, .int x3] S (fun S4 => Q none S4))) ∧ (x3 = (-1) → (zGi o n mdX0_valueAtLast [.ref (z_adr o (5, i, b)), .int x2] (sI S (3, i, 0) 8 ((S.1 (3, i, 0) 8) + 1)) (fun r6 S7 => zGv o n mdX1_answer [.ref (z_adr o (12, i, 0)), .int x4, .int r6, .int ((S7.1 (3, i, 0) 9) - x5)] S7 (fun S10 => Q none S10))))) : zG o n mdX2_serve 0 [(0, .ref (z_adr o (1, i, 0))), (1, .ref (z_adr o (5, i, b))), (2, .int x2), (3, .int x3), (4, .int x4), (5, .int x5)] [] S Q := by
  show zJ o mdX2_serve 0 _ [] (n, z_enc o S) 0 0 _
  refine zJ.iload_n (pc := 0) 3 dX2_serve_0 rfl rfl ?_
  refine zJ.iconst (pc := 1) (v := (-1)) dX2_serve_1 (by decide) ?_
  refine zJ.icmp_ne (pc := 2) (tgt := 43) dX2_serve_2 (by decide) (fun c1 => ?_) (fun c1 => ?_)
  · replace h := h.1 c1
    refine zJ.aload_n (pc := 43) 1 dX2_serve_43 rfl rfl ?_
    refine zJ.iload_n (pc := 44) 2 dX2_serve_44 rfl rfl ?_
    refine zJ.iload_n (pc := 45) 3 dX2_serve_45 rfl rfl ?_
    refine zG.callVv (d := mdX2_serve) (pc := 46) [.int x2, .int x3] [] (ob_5 o i b) (ok_5 hi hb hn) rfl dX2_serve_46 ⟨(cb_X0_layIn).1, (cb_X0_layIn).2, (Nat.le_of_ble_eq_true rfl), (Nat.le_of_ble_eq_true rfl)⟩ ml_X2_200 ci_X0_layIn cv_X0_layIn rfl (Nat.le_of_ble_eq_true rfl) (Nat.le_of_ble_eq_true rfl) rfl h (fun S4 h2 => ?_)
    replace h := h2
    clear h2
    exact zG.ret (pc := 49) (r := none) ⟨dX2_serve_49, rfl⟩ h
  · replace h := h.2 c1
    refine zJ.aload_n (pc := 5) 0 dX2_serve_5 rfl rfl ?_
    refine zE.getV (pc := 6) (fd_1_1 o i) (ok_1 hi hn) kiX2 (Nat.le_of_ble_eq_true rfl) fl_X2_24 dX2_serve_6 ?_
    refine zJ.bipush (pc := 9) (v := 8) dX2_serve_9 (by decide) ?_
    refine zJ.dup2_11 (pc := 11) dX2_serve_11 rfl rfl ?_
    refine zE.aldI (pc := 12) (ia_3 o i) (ok_3 hi hn) (by unfold vp_in; decide) dX2_serve_12 ?_
    refine zJ.iconst (pc := 13) (v := 1) dX2_serve_13 (by decide) ?_
    refine zJ.iadd (pc := 14) dX2_serve_14 ?_
    refine zE.astI (pc := 15) (ia_3 o i) (ok_3 hi hn) (by unfold vp_in; decide) dX2_serve_15 ?_
    refine zJ.aload_n (pc := 16) 0 dX2_serve_16 rfl rfl ?_
    refine zE.getV (pc := 17) (fd_1_3 o i) (ok_1 hi hn) kiX2 (Nat.le_of_ble_eq_true rfl) fl_X2_39 dX2_serve_17 ?_
    refine zJ.iload (pc := 20) 4 dX2_serve_20 rfl ?_
    refine zJ.aload_n (pc := 22) 1 dX2_serve_22 rfl rfl ?_
    refine zJ.iload_n (pc := 23) 2 dX2_serve_23 rfl rfl ?_
    refine zG.callVi (d := mdX2_serve) (pc := 24) [.int x2] [.int x4, .ref (z_adr o (12, i, 0))] (ob_5 o i b) (ok_5 hi hb hn) rfl dX2_serve_24 ⟨(cb_X0_valueAtLast).1, (cb_X0_valueAtLast).2, (Nat.le_of_ble_eq_true rfl), (Nat.le_of_ble_eq_true rfl)⟩ ml_X2_193 ci_X0_valueAtLast cv_X0_valueAtLast rfl (Nat.le_of_ble_eq_true rfl) (Nat.le_of_ble_eq_true rfl) rfl h (fun r6 S7 h2 => ?_)
    replace h := h2
    clear h2
    refine zJ.aload_n (pc := 27) 0 dX2_serve_27 rfl rfl ?_
    refine zE.getV (pc := 28) (fd_1_1 o i) (ok_1 hi hn) kiX2 (Nat.le_of_ble_eq_true rfl) fl_X2_24 dX2_serve_28 ?_
    refine zJ.bipush (pc := 31) (v := 9) dX2_serve_31 (by decide) ?_
    refine zE.aldI (pc := 33) (ia_3 o i) (ok_3 hi hn) (by unfold vp_in; decide) dX2_serve_33 ?_
    refine zJ.iload (pc := 34) 5 dX2_serve_34 rfl ?_
    refine zJ.isub (pc := 36) dX2_serve_36 ?_
    refine zG.callVv (d := mdX2_serve) (pc := 37) [.int x4, .int r6, .int ((S7.1 (3, i, 0) 9) - x5)] [] (ob_12 o i) (ok_12 hi hn) rfl dX2_serve_37 ⟨(cb_X1_answer).1, (cb_X1_answer).2, (Nat.le_of_ble_eq_true rfl), (Nat.le_of_ble_eq_true rfl)⟩ ml_X2_196 ci_X1_answer cv_X1_answer rfl (Nat.le_of_ble_eq_true rfl) (Nat.le_of_ble_eq_true rfl) rfl h (fun S10 h2 => ?_)
    replace h := h2
    clear h2
    refine zJ.goto (pc := 40) (tgt := 49) dX2_serve_40 (by decide) ?_
    exact zG.ret (pc := 49) (r := none) ⟨dX2_serve_49, rfl⟩ h
set_option maxRecDepth 100000 in
set_option maxHeartbeats 4000000 in
theorem w_X2_boxInPlace_0 (o : zW) (n : Nat) (i : Nat) (hi : i < 8) (hn : z_sb i + 120 ≤ n) (x1 : Int32) (x2 : Int32) (S : zS) (Q : Option Value → zS → Prop) (h : (0 ≤ x1 → (zG o n mdX2_boxInPlace 8 [(0, .ref (z_adr o (1, i, 0))), (1, .int x1), (2, .int x2), (3, .int x1)] [] S Q)) ∧ (¬ 0 ≤ x1 → (Q (some (.int (-1))) S))) : zG o n mdX2_boxInPlace 0 [(0, .ref (z_adr o (1, i, 0))), (1, .int x1), (2, .int x2)] [] S Q := by
  show zJ o mdX2_boxInPlace 0 _ [] (n, z_enc o S) 0 0 _
  refine zJ.iload_n (pc := 0) 1 dX2_boxInPlace_0 rfl rfl ?_
  refine zJ.if_ge (pc := 1) (tgt := 6) dX2_boxInPlace_1 (by decide) (fun c1 => ?_) (fun c1 => ?_)
  · replace h := h.1 c1
    refine zJ.iload_n (pc := 6) 1 dX2_boxInPlace_6 rfl rfl ?_
    refine zJ.istore_n (pc := 7) (lv' := [(3, .int x1), (0, .ref (z_adr o (1, i, 0))), (1, .int x1), (2, .int x2)]) dX2_boxInPlace_7 rfl (Nat.le_of_ble_eq_true rfl) rfl ?_
    exact zJ.sub [1, 2, 3, 0] rfl h
  · replace h := h.2 c1
    refine zJ.iconst (pc := 4) (v := (-1)) dX2_boxInPlace_4 (by decide) ?_
    exact zG.ret (pc := 5) (r := some (.int (-1))) ⟨dX2_boxInPlace_5, _, rfl, rfl⟩ h
set_option maxRecDepth 100000 in
set_option maxHeartbeats 4000000 in
theorem w_X2_boxInPlace_8 (o : zW) (n : Nat) (i : Nat) (hi : i < 8) (hn : z_sb i + 120 ≤ n) (x1 : Int32) (x2 : Int32) (x3 : Int32) (S : zS) (Q : Option Value → zS → Prop) (h : (16 ≤ x3 → (Q (some (.int (-1))) S)) ∧ (¬ 16 ≤ x3 → (zG o n mdX2_boxInPlace 20 [(0, .ref (z_adr o (1, i, 0))), (1, .int x1), (2, .int x2), (3, .int x3), (4, .int 0), (5, .int x1)] [] S Q))) : zG o n mdX2_boxInPlace 8 [(0, .ref (z_adr o (1, i, 0))), (1, .int x1), (2, .int x2), (3, .int x3)] [] S Q := by
  show zJ o mdX2_boxInPlace 8 _ [] (n, z_enc o S) 0 0 _
  refine zJ.iload_n (pc := 8) 3 dX2_boxInPlace_8 rfl rfl ?_
  refine zJ.bipush (pc := 9) (v := 16) dX2_boxInPlace_9 (by decide) ?_
  refine zJ.icmp_ge (pc := 11) (tgt := 106) dX2_boxInPlace_11 (by decide) (fun c1 => ?_) (fun c1 => ?_)
  · replace h := h.1 c1
    refine zJ.iconst (pc := 106) (v := (-1)) dX2_boxInPlace_106 (by decide) ?_
    exact zG.ret (pc := 107) (r := some (.int (-1))) ⟨dX2_boxInPlace_107, _, rfl, rfl⟩ h
  · replace h := h.2 c1
    refine zJ.iconst (pc := 14) (v := 0) dX2_boxInPlace_14 (by decide) ?_
    refine zJ.istore (pc := 15) (lv' := [(4, .int 0), (0, .ref (z_adr o (1, i, 0))), (1, .int x1), (2, .int x2), (3, .int x3)]) dX2_boxInPlace_15 (Nat.le_of_ble_eq_true rfl) rfl ?_
    refine zJ.iload_n (pc := 17) 2 dX2_boxInPlace_17 rfl rfl ?_
    refine zJ.istore (pc := 18) (lv' := [(5, .int x1), (4, .int 0), (0, .ref (z_adr o (1, i, 0))), (1, .int x1), (2, .int x2), (3, .int x3)]) dX2_boxInPlace_18 (Nat.le_of_ble_eq_true rfl) rfl ?_
    exact zJ.sub [2, 3, 4, 5, 1, 0] rfl h
set_option maxRecDepth 100000 in
set_option maxHeartbeats 4000000 in
theorem w_X2_boxInPlace_20 (o : zW) (n : Nat) (i : Nat) (hi : i < 8) (hn : z_sb i + 120 ≤ n) (x1 : Int32) (x2 : Int32) (x3 : Int32) (x4 : Int32) (x5 : Int32) (S : zS) (Q : Option Value → zS → Prop) (h : (16 ≤ x5 → (vp_in x3 16 ∧ ((¬ (S.1 (5, i, x3.toNatClampNeg) 8) = 1 → (zG o n mdX2_boxInPlace 8 [(0, .ref (z_adr o (1, i, 0))), (1, .int x1), (2, .int x2), (3, .int (x3 + 4))] [] S Q)) ∧ ((S.1 (5, i, x3.toNatClampNeg) 8) = 1 → ((¬ x4 = x2 → (zG o n mdX2_boxInPlace 8 [(0, .ref (z_adr o (1, i, 0))), (1, .int x1), (2, .int x2), (3, .int (x3 + 4))] [] S Q)) ∧ (x4 = x2 → (Q (some (.int x3)) S))))))) ∧ (¬ 16 ≤ x5 → (vp_in x5 16 ∧ ((¬ (S.1 (5, i, x5.toNatClampNeg) 8) = 1 → (zG o n mdX2_boxInPlace 20 [(0, .ref (z_adr o (1, i, 0))), (1, .int x1), (2, .int x2), (3, .int x3), (4, .int (x4 + 0)), (5, .int (x5 + 4))] [] S Q)) ∧ ((S.1 (5, i, x5.toNatClampNeg) 8) = 1 → (vp_in x5 16 ∧ (vp_in x3 16 ∧ (((S.1 (5, i, x5.toNatClampNeg) 11) ≤ (S.1 (5, i, x3.toNatClampNeg) 11) → (zG o n mdX2_boxInPlace 20 [(0, .ref (z_adr o (1, i, 0))), (1, .int x1), (2, .int x2), (3, .int x3), (4, .int (x4 + 0)), (5, .int (x5 + 4))] [] S Q)) ∧ (¬ (S.1 (5, i, x5.toNatClampNeg) 11) ≤ (S.1 (5, i, x3.toNatClampNeg) 11) → (zG o n mdX2_boxInPlace 20 [(0, .ref (z_adr o (1, i, 0))), (1, .int x1), (2, .int x2), (3, .int x3), (4, .int (x4 + 1)), (5, .int (x5 + 4))] [] S Q)))))))))) : zG o n mdX2_boxInPlace 20 [(0, .ref (z_adr o (1, i, 0))), (1, .int x1), (2, .int x2), (3, .int x3), (4, .int x4), (5, .int x5)] [] S Q := by
  show zJ o mdX2_boxInPlace 20 _ [] (n, z_enc o S) 0 0 _
  refine zJ.iload (pc := 20) 5 dX2_boxInPlace_20 rfl ?_
  refine zJ.bipush (pc := 22) (v := 16) dX2_boxInPlace_22 (by decide) ?_
  refine zJ.icmp_ge (pc := 24) (tgt := 79) dX2_boxInPlace_24 (by decide) (fun c1 => ?_) (fun c1 => ?_)
  · replace h := h.1 c1
    refine zJ.aload_n (pc := 79) 0 dX2_boxInPlace_79 rfl rfl ?_
    refine zE.getV (pc := 80) (fd_1_2 o i) (ok_1 hi hn) kiX2 (Nat.le_of_ble_eq_true rfl) fl_X2_29 dX2_boxInPlace_80 ?_
    refine zJ.iload_n (pc := 83) 3 dX2_boxInPlace_83 rfl rfl ?_
    obtain ⟨hq2, h⟩ := h
    refine zE.aldB (pc := 84) (ok_4 hi hn) hq2 dX2_boxInPlace_84 ?_
    refine zE.getI (pc := 85) (fd_5_8 o i x3.toNatClampNeg) (ok_5 hi (z_vlt hq2) hn) kiX0 (Nat.le_of_ble_eq_true rfl) fl_X2_110 dX2_boxInPlace_85 ?_
    refine zJ.iconst (pc := 88) (v := 1) dX2_boxInPlace_88 (by decide) ?_
    refine zJ.icmp_ne (pc := 89) (tgt := 100) dX2_boxInPlace_89 (by decide) (fun c3 => ?_) (fun c3 => ?_)
    · replace h := h.1 c3
      refine zJ.iinc (pc := 100) (k := 3) (lv' := [(3, .int (x3 + 4)), (0, .ref (z_adr o (1, i, 0))), (1, .int x1), (2, .int x2), (4, .int x4), (5, .int x5)]) dX2_boxInPlace_100 rfl rfl (Nat.le_of_ble_eq_true rfl) rfl ?_
      refine zJ.goto (pc := 103) (tgt := 8) dX2_boxInPlace_103 (by decide) ?_
      exact zJ.sub [1, 2, 3, 0] rfl h
    · replace h := h.2 c3
      refine zJ.iload (pc := 92) 4 dX2_boxInPlace_92 rfl ?_
      refine zJ.iload_n (pc := 94) 2 dX2_boxInPlace_94 rfl rfl ?_
      refine zJ.icmp_ne (pc := 95) (tgt := 100) dX2_boxInPlace_95 (by decide) (fun c4 => ?_) (fun c4 => ?_)
      · replace h := h.1 c4
        refine zJ.iinc (pc := 100) (k := 3) (lv' := [(3, .int (x3 + 4)), (0, .ref (z_adr o (1, i, 0))), (1, .int x1), (2, .int x2), (4, .int x4), (5, .int x5)]) dX2_boxInPlace_100 rfl rfl (Nat.le_of_ble_eq_true rfl) rfl ?_
        refine zJ.goto (pc := 103) (tgt := 8) dX2_boxInPlace_103 (by decide) ?_
        exact zJ.sub [1, 2, 3, 0] rfl h
      · replace h := h.2 c4
        refine zJ.iload_n (pc := 98) 3 dX2_boxInPlace_98 rfl rfl ?_
        exact zG.ret (pc := 99) (r := some (.int x3)) ⟨dX2_boxInPlace_99, _, rfl, rfl⟩ h
  · replace h := h.2 c1
    refine zJ.iload (pc := 27) 4 dX2_boxInPlace_27 rfl ?_
    refine zJ.aload_n (pc := 29) 0 dX2_boxInPlace_29 rfl rfl ?_
    refine zE.getV (pc := 30) (fd_1_2 o i) (ok_1 hi hn) kiX2 (Nat.le_of_ble_eq_true rfl) fl_X2_29 dX2_boxInPlace_30 ?_
    refine zJ.iload (pc := 33) 5 dX2_boxInPlace_33 rfl ?_
    obtain ⟨hq5, h⟩ := h
    refine zE.aldB (pc := 35) (ok_4 hi hn) hq5 dX2_boxInPlace_35 ?_
    refine zE.getI (pc := 36) (fd_5_8 o i x5.toNatClampNeg) (ok_5 hi (z_vlt hq5) hn) kiX0 (Nat.le_of_ble_eq_true rfl) fl_X2_110 dX2_boxInPlace_36 ?_
    refine zJ.iconst (pc := 39) (v := 1) dX2_boxInPlace_39 (by decide) ?_
    refine zJ.icmp_ne (pc := 40) (tgt := 69) dX2_boxInPlace_40 (by decide) (fun c6 => ?_) (fun c6 => ?_)
    · replace h := h.1 c6
      refine zJ.iconst (pc := 69) (v := 0) dX2_boxInPlace_69 (by decide) ?_
      refine zJ.iadd (pc := 70) dX2_boxInPlace_70 ?_
      refine zJ.istore (pc := 71) (lv' := [(4, .int (x4 + 0)), (0, .ref (z_adr o (1, i, 0))), (1, .int x1), (2, .int x2), (3, .int x3), (5, .int x5)]) dX2_boxInPlace_71 (Nat.le_of_ble_eq_true rfl) rfl ?_
      refine zJ.iinc (pc := 73) (k := 5) (lv' := [(5, .int (x5 + 4)), (4, .int (x4 + 0)), (0, .ref (z_adr o (1, i, 0))), (1, .int x1), (2, .int x2), (3, .int x3)]) dX2_boxInPlace_73 rfl rfl (Nat.le_of_ble_eq_true rfl) rfl ?_
      refine zJ.goto (pc := 76) (tgt := 20) dX2_boxInPlace_76 (by decide) ?_
      exact zJ.sub [2, 3, 4, 5, 1, 0] rfl h
    · replace h := h.2 c6
      refine zJ.aload_n (pc := 43) 0 dX2_boxInPlace_43 rfl rfl ?_
      refine zE.getV (pc := 44) (fd_1_2 o i) (ok_1 hi hn) kiX2 (Nat.le_of_ble_eq_true rfl) fl_X2_29 dX2_boxInPlace_44 ?_
      refine zJ.iload (pc := 47) 5 dX2_boxInPlace_47 rfl ?_
      obtain ⟨hq7, h⟩ := h
      refine zE.aldB (pc := 49) (ok_4 hi hn) hq7 dX2_boxInPlace_49 ?_
      refine zE.getI (pc := 50) (fd_5_11 o i x5.toNatClampNeg) (ok_5 hi (z_vlt hq7) hn) kiX0 (Nat.le_of_ble_eq_true rfl) fl_X2_174 dX2_boxInPlace_50 ?_
      refine zJ.aload_n (pc := 53) 0 dX2_boxInPlace_53 rfl rfl ?_
      refine zE.getV (pc := 54) (fd_1_2 o i) (ok_1 hi hn) kiX2 (Nat.le_of_ble_eq_true rfl) fl_X2_29 dX2_boxInPlace_54 ?_
      refine zJ.iload_n (pc := 57) 3 dX2_boxInPlace_57 rfl rfl ?_
      obtain ⟨hq8, h⟩ := h
      refine zE.aldB (pc := 58) (ok_4 hi hn) hq8 dX2_boxInPlace_58 ?_
      refine zE.getI (pc := 59) (fd_5_11 o i x3.toNatClampNeg) (ok_5 hi (z_vlt hq8) hn) kiX0 (Nat.le_of_ble_eq_true rfl) fl_X2_174 dX2_boxInPlace_59 ?_
      refine zJ.icmp_le (pc := 62) (tgt := 69) dX2_boxInPlace_62 (by decide) (fun c9 => ?_) (fun c9 => ?_)
      · replace h := h.1 c9
        refine zJ.iconst (pc := 69) (v := 0) dX2_boxInPlace_69 (by decide) ?_
        refine zJ.iadd (pc := 70) dX2_boxInPlace_70 ?_
        refine zJ.istore (pc := 71) (lv' := [(4, .int (x4 + 0)), (0, .ref (z_adr o (1, i, 0))), (1, .int x1), (2, .int x2), (3, .int x3), (5, .int x5)]) dX2_boxInPlace_71 (Nat.le_of_ble_eq_true rfl) rfl ?_
        refine zJ.iinc (pc := 73) (k := 5) (lv' := [(5, .int (x5 + 4)), (4, .int (x4 + 0)), (0, .ref (z_adr o (1, i, 0))), (1, .int x1), (2, .int x2), (3, .int x3)]) dX2_boxInPlace_73 rfl rfl (Nat.le_of_ble_eq_true rfl) rfl ?_
        refine zJ.goto (pc := 76) (tgt := 20) dX2_boxInPlace_76 (by decide) ?_
        exact zJ.sub [2, 3, 4, 5, 1, 0] rfl h
      · replace h := h.2 c9
        refine zJ.iconst (pc := 65) (v := 1) dX2_boxInPlace_65 (by decide) ?_
        refine zJ.goto (pc := 66) (tgt := 70) dX2_boxInPlace_66 (by decide) ?_
        refine zJ.iadd (pc := 70) dX2_boxInPlace_70 ?_
        refine zJ.istore (pc := 71) (lv' := [(4, .int (x4 + 1)), (0, .ref (z_adr o (1, i, 0))), (1, .int x1), (2, .int x2), (3, .int x3), (5, .int x5)]) dX2_boxInPlace_71 (Nat.le_of_ble_eq_true rfl) rfl ?_
        refine zJ.iinc (pc := 73) (k := 5) (lv' := [(5, .int (x5 + 4)), (4, .int (x4 + 1)), (0, .ref (z_adr o (1, i, 0))), (1, .int x1), (2, .int x2), (3, .int x3)]) dX2_boxInPlace_73 rfl rfl (Nat.le_of_ble_eq_true rfl) rfl ?_
        refine zJ.goto (pc := 76) (tgt := 20) dX2_boxInPlace_76 (by decide) ?_
        exact zJ.sub [2, 3, 4, 5, 1, 0] rfl h
set_option maxRecDepth 100000 in
set_option maxHeartbeats 4000000 in
theorem w_X2_boxOfFetch_0 (o : zW) (n : Nat) (i : Nat) (hi : i < 8) (hn : z_sb i + 120 ≤ n) (x1 : Int32) (S : zS) (Q : Option Value → zS → Prop) (h : zG o n mdX2_boxOfFetch 11 [(0, .ref (z_adr o (1, i, 0))), (1, .int x1), (2, .ref (z_adr o (4, i, 0))), (3, .int 16), (4, .int 0)] [] S Q) : zG o n mdX2_boxOfFetch 0 [(0, .ref (z_adr o (1, i, 0))), (1, .int x1)] [] S Q := by
  show zJ o mdX2_boxOfFetch 0 _ [] (n, z_enc o S) 0 0 _
  refine zJ.aload_n (pc := 0) 0 dX2_boxOfFetch_0 rfl rfl ?_
  refine zE.getV (pc := 1) (fd_1_2 o i) (ok_1 hi hn) kiX2 (Nat.le_of_ble_eq_true rfl) fl_X2_29 dX2_boxOfFetch_1 ?_
  refine zJ.astore_n (pc := 4) (lv' := [(2, .ref (z_adr o (4, i, 0))), (0, .ref (z_adr o (1, i, 0))), (1, .int x1)]) dX2_boxOfFetch_4 rfl (Nat.le_of_ble_eq_true rfl) rfl ?_
  refine zJ.aload_n (pc := 5) 0 dX2_boxOfFetch_5 rfl rfl ?_
  refine zE.lenB (pc := 6) (v := 16) (ok_4 hi hn) (by decide) dX2_boxOfFetch_6 ?_
  refine zJ.istore_n (pc := 7) (lv' := [(3, .int 16), (2, .ref (z_adr o (4, i, 0))), (0, .ref (z_adr o (1, i, 0))), (1, .int x1)]) dX2_boxOfFetch_7 rfl (Nat.le_of_ble_eq_true rfl) rfl ?_
  refine zJ.iconst (pc := 8) (v := 0) dX2_boxOfFetch_8 (by decide) ?_
  refine zJ.istore (pc := 9) (lv' := [(4, .int 0), (3, .int 16), (2, .ref (z_adr o (4, i, 0))), (0, .ref (z_adr o (1, i, 0))), (1, .int x1)]) dX2_boxOfFetch_9 (Nat.le_of_ble_eq_true rfl) rfl ?_
  exact zJ.sub [3, 4, 2, 1, 0] rfl h
set_option maxRecDepth 100000 in
set_option maxHeartbeats 4000000 in
theorem w_X2_boxOfFetch_11 (o : zW) (n : Nat) (i : Nat) (hi : i < 8) (hn : z_sb i + 120 ≤ n) (x1 : Int32) (x3 : Int32) (x4 : Int32) (S : zS) (Q : Option Value → zS → Prop) (h : (x3 ≤ x4 → (Q (some (va_rf (z_bo o i none))) S)) ∧ (¬ x3 ≤ x4 → (vp_in x4 16 ∧ (zG o n mdX2_boxOfFetch 40 [(0, .ref (z_adr o (1, i, 0))), (1, .int x1), (2, .ref (z_adr o (4, i, 0))), (3, .int x3), (4, .int x4), (5, .ref (z_adr o (5, i, x4.toNatClampNeg))), (6, .int 0), (7, .ref (z_adr o (4, i, 0))), (8, .int 16), (9, .int 0)] [] S Q)))) : zG o n mdX2_boxOfFetch 11 [(0, .ref (z_adr o (1, i, 0))), (1, .int x1), (2, .ref (z_adr o (4, i, 0))), (3, .int x3), (4, .int x4)] [] S Q := by
  show zJ o mdX2_boxOfFetch 11 _ [] (n, z_enc o S) 0 0 _
  refine zJ.iload (pc := 11) 4 dX2_boxOfFetch_11 rfl ?_
  refine zJ.iload_n (pc := 13) 3 dX2_boxOfFetch_13 rfl rfl ?_
  refine zJ.icmp_ge (pc := 14) (tgt := 116) dX2_boxOfFetch_14 (by decide) (fun c1 => ?_) (fun c1 => ?_)
  · replace h := h.1 c1
    refine zJ.null (pc := 116) dX2_boxOfFetch_116 ?_
    exact zG.ret (pc := 117) (r := some (.null)) ⟨dX2_boxOfFetch_117, _, rfl⟩ h
  · replace h := h.2 c1
    refine zJ.aload_n (pc := 17) 2 dX2_boxOfFetch_17 rfl rfl ?_
    refine zJ.iload (pc := 18) 4 dX2_boxOfFetch_18 rfl ?_
    obtain ⟨hq2, h⟩ := h
    refine zE.aldB (pc := 20) (ok_4 hi hn) hq2 dX2_boxOfFetch_20 ?_
    refine zJ.astore (pc := 21) (lv' := [(5, .ref (z_adr o (5, i, x4.toNatClampNeg))), (0, .ref (z_adr o (1, i, 0))), (1, .int x1), (2, .ref (z_adr o (4, i, 0))), (3, .int x3), (4, .int x4)]) dX2_boxOfFetch_21 (Nat.le_of_ble_eq_true rfl) rfl ?_
    refine zJ.iconst (pc := 23) (v := 0) dX2_boxOfFetch_23 (by decide) ?_
    refine zJ.istore (pc := 24) (lv' := [(6, .int 0), (5, .ref (z_adr o (5, i, x4.toNatClampNeg))), (0, .ref (z_adr o (1, i, 0))), (1, .int x1), (2, .ref (z_adr o (4, i, 0))), (3, .int x3), (4, .int x4)]) dX2_boxOfFetch_24 (Nat.le_of_ble_eq_true rfl) rfl ?_
    refine zJ.aload_n (pc := 26) 2 dX2_boxOfFetch_26 rfl rfl ?_
    refine zE.getV (pc := 27) (fd_1_2 o i) (ok_1 hi hn) kiX2 (Nat.le_of_ble_eq_true rfl) fl_X2_29 dX2_boxOfFetch_27 ?_
    refine zJ.astore (pc := 30) (lv' := [(7, .ref (z_adr o (4, i, 0))), (6, .int 0), (5, .ref (z_adr o (5, i, x4.toNatClampNeg))), (0, .ref (z_adr o (1, i, 0))), (1, .int x1), (2, .ref (z_adr o (4, i, 0))), (3, .int x3), (4, .int x4)]) dX2_boxOfFetch_30 (Nat.le_of_ble_eq_true rfl) rfl ?_
    refine zJ.aload (pc := 32) 0 dX2_boxOfFetch_32 rfl ?_
    refine zE.lenB (pc := 34) (v := 16) (ok_4 hi hn) (by decide) dX2_boxOfFetch_34 ?_
    refine zJ.istore (pc := 35) (lv' := [(8, .int 16), (7, .ref (z_adr o (4, i, 0))), (6, .int 0), (5, .ref (z_adr o (5, i, x4.toNatClampNeg))), (0, .ref (z_adr o (1, i, 0))), (1, .int x1), (2, .ref (z_adr o (4, i, 0))), (3, .int x3), (4, .int x4)]) dX2_boxOfFetch_35 (Nat.le_of_ble_eq_true rfl) rfl ?_
    refine zJ.iconst (pc := 37) (v := 0) dX2_boxOfFetch_37 (by decide) ?_
    refine zJ.istore (pc := 38) (lv' := [(9, .int 0), (8, .int 16), (7, .ref (z_adr o (4, i, 0))), (6, .int 0), (5, .ref (z_adr o (5, i, x4.toNatClampNeg))), (0, .ref (z_adr o (1, i, 0))), (1, .int x1), (2, .ref (z_adr o (4, i, 0))), (3, .int x3), (4, .int x4)]) dX2_boxOfFetch_38 (Nat.le_of_ble_eq_true rfl) rfl ?_
    exact zJ.sub [5, 6, 7, 8, 9, 4, 3, 2, 1, 0] rfl h
set_option maxRecDepth 100000 in
set_option maxHeartbeats 4000000 in
theorem w_X2_boxOfFetch_40 (o : zW) (n : Nat) (i : Nat) (hi : i < 8) (hn : z_sb i + 120 ≤ n) (x1 : Int32) (x3 : Int32) (x4 : Int32) (b5 : Nat) (hb5 : b5 < 16) (x6 : Int32) (x8 : Int32) (x9 : Int32) (S : zS) (Q : Option Value → zS → Prop) (h : (x8 ≤ x9 → ((¬ (S.1 (5, i, b5) 8) = 3 → (zG o n mdX2_boxOfFetch 11 [(0, .ref (z_adr o (1, i, 0))), (1, .int x1), (2, .ref (z_adr o (4, i, 0))), (3, .int x3), (4, .int (x4 + 1))] [] S Q)) ∧ ((S.1 (5, i, b5) 8) = 3 → ((¬ x6 = x1 → (zG o n mdX2_boxOfFetch 11 [(0, .ref (z_adr o (1, i, 0))), (1, .int x1), (2, .ref (z_adr o (4, i, 0))), (3, .int x3), (4, .int (x4 + 1))] [] S Q)) ∧ (x6 = x1 → (Q (some (va_rf (z_bo o i (some b5)))) S)))))) ∧ (¬ x8 ≤ x9 → (vp_in x9 16 ∧ ((¬ (S.1 (5, i, x9.toNatClampNeg) 8) = 3 → (zG o n mdX2_boxOfFetch 40 [(0, .ref (z_adr o (1, i, 0))), (1, .int x1), (2, .ref (z_adr o (4, i, 0))), (3, .int x3), (4, .int x4), (5, .ref (z_adr o (5, i, b5))), (6, .int (x6 + 0)), (7, .ref (z_adr o (4, i, 0))), (8, .int x8), (9, .int (x9 + 1))] [] S Q)) ∧ ((S.1 (5, i, x9.toNatClampNeg) 8) = 3 → (((S.1 (5, i, b5) 10) ≤ (S.1 (5, i, x9.toNatClampNeg) 10) → (zG o n mdX2_boxOfFetch 40 [(0, .ref (z_adr o (1, i, 0))), (1, .int x1), (2, .ref (z_adr o (4, i, 0))), (3, .int x3), (4, .int x4), (5, .ref (z_adr o (5, i, b5))), (6, .int (x6 + 0)), (7, .ref (z_adr o (4, i, 0))), (8, .int x8), (9, .int (x9 + 1))] [] S Q)) ∧ (¬ (S.1 (5, i, b5) 10) ≤ (S.1 (5, i, x9.toNatClampNeg) 10) → (zG o n mdX2_boxOfFetch 40 [(0, .ref (z_adr o (1, i, 0))), (1, .int x1), (2, .ref (z_adr o (4, i, 0))), (3, .int x3), (4, .int x4), (5, .ref (z_adr o (5, i, b5))), (6, .int (x6 + 1)), (7, .ref (z_adr o (4, i, 0))), (8, .int x8), (9, .int (x9 + 1))] [] S Q)))))))) : zG o n mdX2_boxOfFetch 40 [(0, .ref (z_adr o (1, i, 0))), (1, .int x1), (2, .ref (z_adr o (4, i, 0))), (3, .int x3), (4, .int x4), (5, .ref (z_adr o (5, i, b5))), (6, .int x6), (7, .ref (z_adr o (4, i, 0))), (8, .int x8), (9, .int x9)] [] S Q := by
  show zJ o mdX2_boxOfFetch 40 _ [] (n, z_enc o S) 0 0 _
  refine zJ.iload (pc := 40) 9 dX2_boxOfFetch_40 rfl ?_
  refine zJ.iload (pc := 42) 8 dX2_boxOfFetch_42 rfl ?_
  refine zJ.icmp_ge (pc := 44) (tgt := 92) dX2_boxOfFetch_44 (by decide) (fun c1 => ?_) (fun c1 => ?_)
  · replace h := h.1 c1
    refine zJ.aload (pc := 92) 5 dX2_boxOfFetch_92 rfl ?_
    refine zE.getI (pc := 94) (fd_5_8 o i b5) (ok_5 hi hb5 hn) kiX0 (Nat.le_of_ble_eq_true rfl) fl_X2_110 dX2_boxOfFetch_94 ?_
    refine zJ.iconst (pc := 97) (v := 3) dX2_boxOfFetch_97 (by decide) ?_
    refine zJ.icmp_ne (pc := 98) (tgt := 110) dX2_boxOfFetch_98 (by decide) (fun c2 => ?_) (fun c2 => ?_)
    · replace h := h.1 c2
      refine zJ.iinc (pc := 110) (k := 4) (lv' := [(4, .int (x4 + 1)), (0, .ref (z_adr o (1, i, 0))), (1, .int x1), (2, .ref (z_adr o (4, i, 0))), (3, .int x3), (5, .ref (z_adr o (5, i, b5))), (6, .int x6), (7, .ref (z_adr o (4, i, 0))), (8, .int x8), (9, .int x9)]) dX2_boxOfFetch_110 rfl rfl (Nat.le_of_ble_eq_true rfl) rfl ?_
      refine zJ.goto (pc := 113) (tgt := 11) dX2_boxOfFetch_113 (by decide) ?_
      exact zJ.sub [1, 2, 3, 4, 0] rfl h
    · replace h := h.2 c2
      refine zJ.iload (pc := 101) 6 dX2_boxOfFetch_101 rfl ?_
      refine zJ.iload_n (pc := 103) 1 dX2_boxOfFetch_103 rfl rfl ?_
      refine zJ.icmp_ne (pc := 104) (tgt := 110) dX2_boxOfFetch_104 (by decide) (fun c3 => ?_) (fun c3 => ?_)
      · replace h := h.1 c3
        refine zJ.iinc (pc := 110) (k := 4) (lv' := [(4, .int (x4 + 1)), (0, .ref (z_adr o (1, i, 0))), (1, .int x1), (2, .ref (z_adr o (4, i, 0))), (3, .int x3), (5, .ref (z_adr o (5, i, b5))), (6, .int x6), (7, .ref (z_adr o (4, i, 0))), (8, .int x8), (9, .int x9)]) dX2_boxOfFetch_110 rfl rfl (Nat.le_of_ble_eq_true rfl) rfl ?_
        refine zJ.goto (pc := 113) (tgt := 11) dX2_boxOfFetch_113 (by decide) ?_
        exact zJ.sub [1, 2, 3, 4, 0] rfl h
      · replace h := h.2 c3
        refine zJ.aload (pc := 107) 5 dX2_boxOfFetch_107 rfl ?_
        exact zG.ret (pc := 109) (r := some (.ref (z_adr o (5, i, b5)))) ⟨dX2_boxOfFetch_109, _, rfl⟩ h
  · replace h := h.2 c1
    refine zJ.aload (pc := 47) 7 dX2_boxOfFetch_47 rfl ?_
    refine zJ.iload (pc := 49) 9 dX2_boxOfFetch_49 rfl ?_
    obtain ⟨hq4, h⟩ := h
    refine zE.aldB (pc := 51) (ok_4 hi hn) hq4 dX2_boxOfFetch_51 ?_
    refine zJ.astore (pc := 52) (lv' := [(10, .ref (z_adr o (5, i, x9.toNatClampNeg))), (0, .ref (z_adr o (1, i, 0))), (1, .int x1), (2, .ref (z_adr o (4, i, 0))), (3, .int x3), (4, .int x4), (5, .ref (z_adr o (5, i, b5))), (6, .int x6), (7, .ref (z_adr o (4, i, 0))), (8, .int x8), (9, .int x9)]) dX2_boxOfFetch_52 (Nat.le_of_ble_eq_true rfl) rfl ?_
    refine zJ.iload (pc := 54) 7 dX2_boxOfFetch_54 rfl ?_
    refine zJ.aload (pc := 56) 0 dX2_boxOfFetch_56 rfl ?_
    refine zE.getI (pc := 58) (fd_5_8 o i x9.toNatClampNeg) (ok_5 hi (z_vlt hq4) hn) kiX0 (Nat.le_of_ble_eq_true rfl) fl_X2_110 dX2_boxOfFetch_58 ?_
    refine zJ.iconst (pc := 61) (v := 3) dX2_boxOfFetch_61 (by decide) ?_
    refine zJ.icmp_ne (pc := 62) (tgt := 82) dX2_boxOfFetch_62 (by decide) (fun c5 => ?_) (fun c5 => ?_)
    · replace h := h.1 c5
      refine zJ.iconst (pc := 82) (v := 0) dX2_boxOfFetch_82 (by decide) ?_
      refine zJ.iadd (pc := 83) dX2_boxOfFetch_83 ?_
      refine zJ.istore (pc := 84) (lv' := [(6, .int (x6 + 0)), (10, .ref (z_adr o (5, i, x9.toNatClampNeg))), (0, .ref (z_adr o (1, i, 0))), (1, .int x1), (2, .ref (z_adr o (4, i, 0))), (3, .int x3), (4, .int x4), (5, .ref (z_adr o (5, i, b5))), (7, .ref (z_adr o (4, i, 0))), (8, .int x8), (9, .int x9)]) dX2_boxOfFetch_84 (Nat.le_of_ble_eq_true rfl) rfl ?_
      refine zJ.iinc (pc := 86) (k := 10) (lv' := [(9, .int (x9 + 1)), (6, .int (x6 + 0)), (10, .ref (z_adr o (5, i, x9.toNatClampNeg))), (0, .ref (z_adr o (1, i, 0))), (1, .int x1), (2, .ref (z_adr o (4, i, 0))), (3, .int x3), (4, .int x4), (5, .ref (z_adr o (5, i, b5))), (7, .ref (z_adr o (4, i, 0))), (8, .int x8)]) dX2_boxOfFetch_86 rfl rfl (Nat.le_of_ble_eq_true rfl) rfl ?_
      refine zJ.goto (pc := 89) (tgt := 40) dX2_boxOfFetch_89 (by decide) ?_
      exact zJ.sub [3, 4, 5, 6, 7, 8, 1, 9, 10, 0] rfl h
    · replace h := h.2 c5
      refine zJ.aload (pc := 65) 0 dX2_boxOfFetch_65 rfl ?_
      refine zE.getI (pc := 67) (fd_5_10 o i x9.toNatClampNeg) (ok_5 hi (z_vlt hq4) hn) kiX0 (Nat.le_of_ble_eq_true rfl) fl_X2_113 dX2_boxOfFetch_67 ?_
      refine zJ.aload (pc := 70) 6 dX2_boxOfFetch_70 rfl ?_
      refine zE.getI (pc := 72) (fd_5_10 o i b5) (ok_5 hi hb5 hn) kiX0 (Nat.le_of_ble_eq_true rfl) fl_X2_113 dX2_boxOfFetch_72 ?_
      refine zJ.icmp_ge (pc := 75) (tgt := 82) dX2_boxOfFetch_75 (by decide) (fun c6 => ?_) (fun c6 => ?_)
      · replace h := h.1 c6
        refine zJ.iconst (pc := 82) (v := 0) dX2_boxOfFetch_82 (by decide) ?_
        refine zJ.iadd (pc := 83) dX2_boxOfFetch_83 ?_
        refine zJ.istore (pc := 84) (lv' := [(6, .int (x6 + 0)), (10, .ref (z_adr o (5, i, x9.toNatClampNeg))), (0, .ref (z_adr o (1, i, 0))), (1, .int x1), (2, .ref (z_adr o (4, i, 0))), (3, .int x3), (4, .int x4), (5, .ref (z_adr o (5, i, b5))), (7, .ref (z_adr o (4, i, 0))), (8, .int x8), (9, .int x9)]) dX2_boxOfFetch_84 (Nat.le_of_ble_eq_true rfl) rfl ?_
        refine zJ.iinc (pc := 86) (k := 10) (lv' := [(9, .int (x9 + 1)), (6, .int (x6 + 0)), (10, .ref (z_adr o (5, i, x9.toNatClampNeg))), (0, .ref (z_adr o (1, i, 0))), (1, .int x1), (2, .ref (z_adr o (4, i, 0))), (3, .int x3), (4, .int x4), (5, .ref (z_adr o (5, i, b5))), (7, .ref (z_adr o (4, i, 0))), (8, .int x8)]) dX2_boxOfFetch_86 rfl rfl (Nat.le_of_ble_eq_true rfl) rfl ?_
        refine zJ.goto (pc := 89) (tgt := 40) dX2_boxOfFetch_89 (by decide) ?_
        exact zJ.sub [3, 4, 5, 6, 7, 8, 1, 9, 10, 0] rfl h
      · replace h := h.2 c6
        refine zJ.iconst (pc := 78) (v := 1) dX2_boxOfFetch_78 (by decide) ?_
        refine zJ.goto (pc := 79) (tgt := 83) dX2_boxOfFetch_79 (by decide) ?_
        refine zJ.iadd (pc := 83) dX2_boxOfFetch_83 ?_
        refine zJ.istore (pc := 84) (lv' := [(6, .int (x6 + 1)), (10, .ref (z_adr o (5, i, x9.toNatClampNeg))), (0, .ref (z_adr o (1, i, 0))), (1, .int x1), (2, .ref (z_adr o (4, i, 0))), (3, .int x3), (4, .int x4), (5, .ref (z_adr o (5, i, b5))), (7, .ref (z_adr o (4, i, 0))), (8, .int x8), (9, .int x9)]) dX2_boxOfFetch_84 (Nat.le_of_ble_eq_true rfl) rfl ?_
        refine zJ.iinc (pc := 86) (k := 10) (lv' := [(9, .int (x9 + 1)), (6, .int (x6 + 1)), (10, .ref (z_adr o (5, i, x9.toNatClampNeg))), (0, .ref (z_adr o (1, i, 0))), (1, .int x1), (2, .ref (z_adr o (4, i, 0))), (3, .int x3), (4, .int x4), (5, .ref (z_adr o (5, i, b5))), (7, .ref (z_adr o (4, i, 0))), (8, .int x8)]) dX2_boxOfFetch_86 rfl rfl (Nat.le_of_ble_eq_true rfl) rfl ?_
        refine zJ.goto (pc := 89) (tgt := 40) dX2_boxOfFetch_89 (by decide) ?_
        exact zJ.sub [3, 4, 5, 6, 7, 8, 1, 9, 10, 0] rfl h
