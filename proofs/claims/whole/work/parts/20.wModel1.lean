set_option maxRecDepth 100000 in
set_option maxHeartbeats 4000000 in
theorem w_X5_bad_0 (o : zW)  (S : zS) (Q : Option Value → zS → Prop) (h : Q (some (.int (-2))) (sI S (24, 0, 0) 0 ((S.1 (24, 0, 0) 0) + 1))) : zG o 994 mdX5_bad 0 [(0, .ref (z_adr o (23, 0, 0)))] [] S Q := by
  show zJ o mdX5_bad 0 _ [] (994, z_enc o S) 0 0 _
  refine zJ.aload_n (pc := 0) 0 dX5_bad_0 rfl rfl ?_
  refine zE.getV (pc := 1) (fd_23_0 o) ok_23 kiX5 (Nat.le_of_ble_eq_true rfl) fl_X5_1 dX5_bad_1 ?_
  refine zJ.iconst (pc := 4) (v := 0) dX5_bad_4 (by decide) ?_
  refine zJ.dup2_11 (pc := 5) dX5_bad_5 rfl rfl ?_
  refine zE.aldI (pc := 6) (ia_24 o) ok_24 (by unfold vp_in; decide) dX5_bad_6 ?_
  refine zJ.iconst (pc := 7) (v := 1) dX5_bad_7 (by decide) ?_
  refine zJ.iadd (pc := 8) dX5_bad_8 ?_
  refine zE.astI (pc := 9) (ia_24 o) ok_24 (by unfold vp_in; decide) dX5_bad_9 ?_
  refine zJ.bipush (pc := 10) (v := (-2)) dX5_bad_10 (by decide) ?_
  exact zG.ret (pc := 12) (r := some (.int (-2))) ⟨dX5_bad_12, _, rfl, rfl⟩ h
set_option maxRecDepth 100000 in
set_option maxHeartbeats 4000000 in
theorem w_X5_in_0 (o : zW) (x0 : Int32) (x1 : Int32) (x2 : Int32) (S : zS) (Q : Option Value → zS → Prop) (h : (x0 < x1 → (Q (some (.int 0)) S)) ∧ (¬ x0 < x1 → ((x2 < x0 → (Q (some (.int 0)) S)) ∧ (¬ x2 < x0 → (Q (some (.int 1)) S))))) : zG o 994 mdX5_in 0 [(0, .int x0), (1, .int x1), (2, .int x2)] [] S Q := by
  show zJ o mdX5_in 0 _ [] (994, z_enc o S) 0 0 _
  refine zJ.iload_n (pc := 0) 0 dX5_in_0 rfl rfl ?_
  refine zJ.iload_n (pc := 1) 1 dX5_in_1 rfl rfl ?_
  refine zJ.icmp_lt (pc := 2) (tgt := 14) dX5_in_2 (by decide) (fun c1 => ?_) (fun c1 => ?_)
  · replace h := h.1 c1
    refine zJ.iconst (pc := 14) (v := 0) dX5_in_14 (by decide) ?_
    exact zG.ret (pc := 15) (r := some (.int 0)) ⟨dX5_in_15, _, rfl, rfl⟩ h
  · replace h := h.2 c1
    refine zJ.iload_n (pc := 5) 0 dX5_in_5 rfl rfl ?_
    refine zJ.iload_n (pc := 6) 2 dX5_in_6 rfl rfl ?_
    refine zJ.icmp_gt (pc := 7) (tgt := 14) dX5_in_7 (by decide) (fun c2 => ?_) (fun c2 => ?_)
    · replace h := h.1 c2
      refine zJ.iconst (pc := 14) (v := 0) dX5_in_14 (by decide) ?_
      exact zG.ret (pc := 15) (r := some (.int 0)) ⟨dX5_in_15, _, rfl, rfl⟩ h
    · replace h := h.2 c2
      refine zJ.iconst (pc := 10) (v := 1) dX5_in_10 (by decide) ?_
      refine zJ.goto (pc := 11) (tgt := 15) dX5_in_11 (by decide) ?_
      exact zG.ret (pc := 15) (r := some (.int 1)) ⟨dX5_in_15, _, rfl, rfl⟩ h
set_option maxRecDepth 100000 in
set_option maxHeartbeats 4000000 in
theorem w_X5_begins_0 (o : zW)  (S : zS) (Q : Option Value → zS → Prop) (h : zG o 994 mdX5_begins 2 [(0, .ref (z_adr o (23, 0, 0))), (1, .int 0)] [] S Q) : zG o 994 mdX5_begins 0 [(0, .ref (z_adr o (23, 0, 0)))] [] S Q := by
  show zJ o mdX5_begins 0 _ [] (994, z_enc o S) 0 0 _
  refine zJ.iconst (pc := 0) (v := 0) dX5_begins_0 (by decide) ?_
  refine zJ.istore_n (pc := 1) (lv' := [(1, .int 0), (0, .ref (z_adr o (23, 0, 0)))]) dX5_begins_1 rfl (Nat.le_of_ble_eq_true rfl) rfl ?_
  exact zJ.sub [1, 0] rfl h
set_option maxRecDepth 100000 in
set_option maxHeartbeats 4000000 in
theorem w_X5_begins_2 (o : zW) (x1 : Int32) (S : zS) (Q : Option Value → zS → Prop) (h : (64 ≤ x1 → (zG o 994 mdX5_begins 31 [(0, .ref (z_adr o (23, 0, 0))), (1, .int 0)] [] S Q)) ∧ (¬ 64 ≤ x1 → (vp_in x1 64 ∧ (∀ S2 : zS, S2 = (sI S (26, 0, 0) (x1.toNatClampNeg) ((5 * (x1 / 4)) + (x1 - x1 / 4 * 4))) → (zG o 994 mdX5_begins 2 [(0, .ref (z_adr o (23, 0, 0))), (1, .int (x1 + 1))] [] S2 Q))))) : zG o 994 mdX5_begins 2 [(0, .ref (z_adr o (23, 0, 0))), (1, .int x1)] [] S Q := by
  show zJ o mdX5_begins 2 _ [] (994, z_enc o S) 0 0 _
  refine zJ.iload_n (pc := 2) 1 dX5_begins_2 rfl rfl ?_
  refine zJ.bipush (pc := 3) (v := 64) dX5_begins_3 (by decide) ?_
  refine zJ.icmp_ge (pc := 5) (tgt := 29) dX5_begins_5 (by decide) (fun c1 => ?_) (fun c1 => ?_)
  · replace h := h.1 c1
    refine zJ.iconst (pc := 29) (v := 0) dX5_begins_29 (by decide) ?_
    refine zJ.istore_n (pc := 30) (lv' := [(1, .int 0), (0, .ref (z_adr o (23, 0, 0)))]) dX5_begins_30 rfl (Nat.le_of_ble_eq_true rfl) rfl ?_
    exact zJ.sub [1, 0] rfl h
  · replace h := h.2 c1
    refine zJ.aload_n (pc := 8) 0 dX5_begins_8 rfl rfl ?_
    refine zE.getV (pc := 9) (fd_23_2 o) ok_23 kiX5 (Nat.le_of_ble_eq_true rfl) fl_X5_16 dX5_begins_9 ?_
    refine zJ.iload_n (pc := 12) 1 dX5_begins_12 rfl rfl ?_
    refine zJ.iconst (pc := 13) (v := 5) dX5_begins_13 (by decide) ?_
    refine zJ.iload_n (pc := 14) 1 dX5_begins_14 rfl rfl ?_
    refine zJ.iconst (pc := 15) (v := 4) dX5_begins_15 (by decide) ?_
    refine zJ.idiv (pc := 16) dX5_begins_16 (by decide) ?_
    refine zJ.imul (pc := 17) dX5_begins_17 ?_
    refine zJ.iload_n (pc := 18) 1 dX5_begins_18 rfl rfl ?_
    refine zJ.iconst (pc := 19) (v := 4) dX5_begins_19 (by decide) ?_
    refine zJ.irem (pc := 20) dX5_begins_20 (by decide) ?_
    refine zJ.iadd (pc := 21) dX5_begins_21 ?_
    obtain ⟨hq, h⟩ := h
    refine zE.astI (pc := 22) (ia_26 o) ok_26 hq dX5_begins_22 ?_
    refine zJ.nameS (fun S2 hyS2 => ?_)
    replace h := h S2 hyS2
    refine zJ.iinc (pc := 23) (k := 1) (lv' := [(1, .int (x1 + 1)), (0, .ref (z_adr o (23, 0, 0)))]) dX5_begins_23 rfl rfl (Nat.le_of_ble_eq_true rfl) rfl ?_
    refine zJ.goto (pc := 26) (tgt := 2) dX5_begins_26 (by decide) ?_
    exact zJ.sub [1, 0] rfl h
set_option maxRecDepth 100000 in
set_option maxHeartbeats 4000000 in
theorem w_X5_begins_31 (o : zW) (x1 : Int32) (S : zS) (Q : Option Value → zS → Prop) (h : (16 ≤ x1 → (zG o 994 mdX5_begins 66 [(0, .ref (z_adr o (23, 0, 0))), (1, .int 0)] [] S Q)) ∧ (¬ 16 ≤ x1 → (vp_in x1 16 ∧ (vp_in x1 16 ∧ (∀ S2 : zS, S2 = (sI (sI S (29, 0, 0) (x1.toNatClampNeg) 0) (28, 0, 0) (x1.toNatClampNeg) 0) → (vp_in x1 16 ∧ (zG o 994 mdX5_begins 31 [(0, .ref (z_adr o (23, 0, 0))), (1, .int (x1 + 1))] [] (sI S2 (34, 0, 0) (x1.toNatClampNeg) 0) Q))))))) : zG o 994 mdX5_begins 31 [(0, .ref (z_adr o (23, 0, 0))), (1, .int x1)] [] S Q := by
  show zJ o mdX5_begins 31 _ [] (994, z_enc o S) 0 0 _
  refine zJ.iload_n (pc := 31) 1 dX5_begins_31 rfl rfl ?_
  refine zJ.bipush (pc := 32) (v := 16) dX5_begins_32 (by decide) ?_
  refine zJ.icmp_ge (pc := 34) (tgt := 64) dX5_begins_34 (by decide) (fun c1 => ?_) (fun c1 => ?_)
  · replace h := h.1 c1
    refine zJ.iconst (pc := 64) (v := 0) dX5_begins_64 (by decide) ?_
    refine zJ.istore_n (pc := 65) (lv' := [(1, .int 0), (0, .ref (z_adr o (23, 0, 0)))]) dX5_begins_65 rfl (Nat.le_of_ble_eq_true rfl) rfl ?_
    exact zJ.sub [1, 0] rfl h
  · replace h := h.2 c1
    refine zJ.aload_n (pc := 37) 0 dX5_begins_37 rfl rfl ?_
    refine zE.getV (pc := 38) (fd_23_5 o) ok_23 kiX5 (Nat.le_of_ble_eq_true rfl) fl_X5_25 dX5_begins_38 ?_
    refine zJ.iload_n (pc := 41) 1 dX5_begins_41 rfl rfl ?_
    refine zJ.iconst (pc := 42) (v := 0) dX5_begins_42 (by decide) ?_
    obtain ⟨hq, h⟩ := h
    refine zE.astI (pc := 43) (ia_29 o) ok_29 hq dX5_begins_43 ?_
    refine zJ.aload_n (pc := 44) 0 dX5_begins_44 rfl rfl ?_
    refine zE.getV (pc := 45) (fd_23_4 o) ok_23 kiX5 (Nat.le_of_ble_eq_true rfl) fl_X5_22 dX5_begins_45 ?_
    refine zJ.iload_n (pc := 48) 1 dX5_begins_48 rfl rfl ?_
    refine zJ.iconst (pc := 49) (v := 0) dX5_begins_49 (by decide) ?_
    obtain ⟨hq, h⟩ := h
    refine zE.astI (pc := 50) (ia_28 o) ok_28 hq dX5_begins_50 ?_
    refine zJ.nameS (fun S2 hyS2 => ?_)
    replace h := h S2 hyS2
    refine zJ.aload_n (pc := 51) 0 dX5_begins_51 rfl rfl ?_
    refine zE.getV (pc := 52) (fd_23_10 o) ok_23 kiX5 (Nat.le_of_ble_eq_true rfl) fl_X5_40 dX5_begins_52 ?_
    refine zJ.iload_n (pc := 55) 1 dX5_begins_55 rfl rfl ?_
    refine zJ.iconst (pc := 56) (v := 0) dX5_begins_56 (by decide) ?_
    obtain ⟨hq, h⟩ := h
    refine zE.astI (pc := 57) (ia_34 o) ok_34 hq dX5_begins_57 ?_
    refine zJ.iinc (pc := 58) (k := 1) (lv' := [(1, .int (x1 + 1)), (0, .ref (z_adr o (23, 0, 0)))]) dX5_begins_58 rfl rfl (Nat.le_of_ble_eq_true rfl) rfl ?_
    refine zJ.goto (pc := 61) (tgt := 31) dX5_begins_61 (by decide) ?_
    exact zJ.sub [1, 0] rfl h
set_option maxRecDepth 100000 in
set_option maxHeartbeats 4000000 in
theorem w_X5_begins_66 (o : zW) (x1 : Int32) (S : zS) (Q : Option Value → zS → Prop) (h : (4 ≤ x1 → (zG o 994 mdX5_begins 86 [(0, .ref (z_adr o (23, 0, 0))), (1, .int 0)] [] S Q)) ∧ (¬ 4 ≤ x1 → (vp_in x1 4 ∧ (zG o 994 mdX5_begins 66 [(0, .ref (z_adr o (23, 0, 0))), (1, .int (x1 + 1))] [] (sI S (31, 0, 0) (x1.toNatClampNeg) 0) Q)))) : zG o 994 mdX5_begins 66 [(0, .ref (z_adr o (23, 0, 0))), (1, .int x1)] [] S Q := by
  show zJ o mdX5_begins 66 _ [] (994, z_enc o S) 0 0 _
  refine zJ.iload_n (pc := 66) 1 dX5_begins_66 rfl rfl ?_
  refine zJ.iconst (pc := 67) (v := 4) dX5_begins_67 (by decide) ?_
  refine zJ.icmp_ge (pc := 68) (tgt := 84) dX5_begins_68 (by decide) (fun c1 => ?_) (fun c1 => ?_)
  · replace h := h.1 c1
    refine zJ.iconst (pc := 84) (v := 0) dX5_begins_84 (by decide) ?_
    refine zJ.istore_n (pc := 85) (lv' := [(1, .int 0), (0, .ref (z_adr o (23, 0, 0)))]) dX5_begins_85 rfl (Nat.le_of_ble_eq_true rfl) rfl ?_
    exact zJ.sub [1, 0] rfl h
  · replace h := h.2 c1
    refine zJ.aload_n (pc := 71) 0 dX5_begins_71 rfl rfl ?_
    refine zE.getV (pc := 72) (fd_23_7 o) ok_23 kiX5 (Nat.le_of_ble_eq_true rfl) fl_X5_31 dX5_begins_72 ?_
    refine zJ.iload_n (pc := 75) 1 dX5_begins_75 rfl rfl ?_
    refine zJ.iconst (pc := 76) (v := 0) dX5_begins_76 (by decide) ?_
    obtain ⟨hq, h⟩ := h
    refine zE.astI (pc := 77) (ia_31 o) ok_31 hq dX5_begins_77 ?_
    refine zJ.iinc (pc := 78) (k := 1) (lv' := [(1, .int (x1 + 1)), (0, .ref (z_adr o (23, 0, 0)))]) dX5_begins_78 rfl rfl (Nat.le_of_ble_eq_true rfl) rfl ?_
    refine zJ.goto (pc := 81) (tgt := 66) dX5_begins_81 (by decide) ?_
    exact zJ.sub [1, 0] rfl h
set_option maxRecDepth 100000 in
set_option maxHeartbeats 4000000 in
theorem w_X5_begins_86 (o : zW) (x1 : Int32) (S : zS) (Q : Option Value → zS → Prop) (h : (10 ≤ x1 → (∀ S2 : zS, S2 = (sF (sI (sI (sI S (39, 0, 0) 0 0) (39, 0, 0) 1 0) (39, 0, 0) 2 0) (23, 0, 0) 20 FP.fconst0) → (Q none (sL (sL S2 (23, 0, 0) 21 0) (23, 0, 0) 22 0)))) ∧ (¬ 10 ≤ x1 → (vp_in x1 10 ∧ (zG o 994 mdX5_begins 86 [(0, .ref (z_adr o (23, 0, 0))), (1, .int (x1 + 1))] [] (sI S (40, 0, 0) (x1.toNatClampNeg) 0) Q)))) : zG o 994 mdX5_begins 86 [(0, .ref (z_adr o (23, 0, 0))), (1, .int x1)] [] S Q := by
  show zJ o mdX5_begins 86 _ [] (994, z_enc o S) 0 0 _
  refine zJ.iload_n (pc := 86) 1 dX5_begins_86 rfl rfl ?_
  refine zJ.bipush (pc := 87) (v := 10) dX5_begins_87 (by decide) ?_
  refine zJ.icmp_ge (pc := 89) (tgt := 105) dX5_begins_89 (by decide) (fun c1 => ?_) (fun c1 => ?_)
  · replace h := h.1 c1
    refine zJ.aload_n (pc := 105) 0 dX5_begins_105 rfl rfl ?_
    refine zE.getV (pc := 106) (fd_23_15 o) ok_23 kiX5 (Nat.le_of_ble_eq_true rfl) fl_X5_55 dX5_begins_106 ?_
    refine zJ.iconst (pc := 109) (v := 0) dX5_begins_109 (by decide) ?_
    refine zJ.iconst (pc := 110) (v := 0) dX5_begins_110 (by decide) ?_
    refine zE.astI (pc := 111) (ia_39 o) ok_39 (by unfold vp_in; decide) dX5_begins_111 ?_
    refine zJ.aload_n (pc := 112) 0 dX5_begins_112 rfl rfl ?_
    refine zE.getV (pc := 113) (fd_23_15 o) ok_23 kiX5 (Nat.le_of_ble_eq_true rfl) fl_X5_55 dX5_begins_113 ?_
    refine zJ.iconst (pc := 116) (v := 1) dX5_begins_116 (by decide) ?_
    refine zJ.iconst (pc := 117) (v := 0) dX5_begins_117 (by decide) ?_
    refine zE.astI (pc := 118) (ia_39 o) ok_39 (by unfold vp_in; decide) dX5_begins_118 ?_
    refine zJ.aload_n (pc := 119) 0 dX5_begins_119 rfl rfl ?_
    refine zE.getV (pc := 120) (fd_23_15 o) ok_23 kiX5 (Nat.le_of_ble_eq_true rfl) fl_X5_55 dX5_begins_120 ?_
    refine zJ.iconst (pc := 123) (v := 2) dX5_begins_123 (by decide) ?_
    refine zJ.iconst (pc := 124) (v := 0) dX5_begins_124 (by decide) ?_
    refine zE.astI (pc := 125) (ia_39 o) ok_39 (by unfold vp_in; decide) dX5_begins_125 ?_
    refine zJ.aload_n (pc := 126) 0 dX5_begins_126 rfl rfl ?_
    refine zJ.fconst0 (pc := 127) dX5_begins_127 ?_
    refine zE.putF (pc := 128) (fd_23_20 o) ok_23 kiX5 (Nat.le_of_ble_eq_true rfl) fl_X5_90 rfl rfl dX5_begins_128 ?_
    refine zJ.nameS (fun S2 hyS2 => ?_)
    replace h := h S2 hyS2
    refine zJ.aload_n (pc := 131) 0 dX5_begins_131 rfl rfl ?_
    refine zJ.lconst (pc := 132) (v := 0) dX5_begins_132 (by decide) ?_
    refine zE.putL (pc := 133) (fd_23_21 o) ok_23 kiX5 (Nat.le_of_ble_eq_true rfl) fl_X5_94 rfl rfl dX5_begins_133 ?_
    refine zJ.aload_n (pc := 136) 0 dX5_begins_136 rfl rfl ?_
    refine zJ.lconst (pc := 137) (v := 0) dX5_begins_137 (by decide) ?_
    refine zE.putL (pc := 138) (fd_23_22 o) ok_23 kiX5 (Nat.le_of_ble_eq_true rfl) fl_X5_98 rfl rfl dX5_begins_138 ?_
    exact zG.ret (pc := 141) (r := none) ⟨dX5_begins_141, rfl⟩ h
  · replace h := h.2 c1
    refine zJ.aload_n (pc := 92) 0 dX5_begins_92 rfl rfl ?_
    refine zE.getV (pc := 93) (fd_23_16 o) ok_23 kiX5 (Nat.le_of_ble_eq_true rfl) fl_X5_58 dX5_begins_93 ?_
    refine zJ.iload_n (pc := 96) 1 dX5_begins_96 rfl rfl ?_
    refine zJ.iconst (pc := 97) (v := 0) dX5_begins_97 (by decide) ?_
    obtain ⟨hq, h⟩ := h
    refine zE.astI (pc := 98) (ia_40 o) ok_40 hq dX5_begins_98 ?_
    refine zJ.iinc (pc := 99) (k := 1) (lv' := [(1, .int (x1 + 1)), (0, .ref (z_adr o (23, 0, 0)))]) dX5_begins_99 rfl rfl (Nat.le_of_ble_eq_true rfl) rfl ?_
    refine zJ.goto (pc := 102) (tgt := 86) dX5_begins_102 (by decide) ?_
    exact zJ.sub [1, 0] rfl h
set_option maxRecDepth 100000 in
set_option maxHeartbeats 4000000 in
theorem w_X5_isBox_0 (o : zW) (x0 : Int32) (S : zS) (Q : Option Value → zS → Prop) (h : zGi o 994 mdX5_in [.int x0, .int 0, .int 15] S (fun r2 S3 => narrow .boolean (.int r2) = .int r2 ∧ Q (some (.int r2)) S3)) : zG o 994 mdX5_isBox 0 [(0, .int x0)] [] S Q := by
  show zJ o mdX5_isBox 0 _ [] (994, z_enc o S) 0 0 _
  refine zJ.iload_n (pc := 0) 0 dX5_isBox_0 rfl rfl ?_
  refine zJ.iconst (pc := 1) (v := 0) dX5_isBox_1 (by decide) ?_
  refine zJ.bipush (pc := 2) (v := 15) dX5_isBox_2 (by decide) ?_
  refine zG.callSi (d := mdX5_isBox) (pc := 4) [.int x0, .int 0, .int 15] [] dX5_isBox_4 ⟨(cb_X5_in).1, (cb_X5_in).2, (Nat.le_of_ble_eq_true rfl), (Nat.le_of_ble_eq_true rfl)⟩ ml_X5_101 cs_X5_in rfl (Nat.le_of_ble_eq_true rfl) (Nat.le_of_ble_eq_true rfl) rfl h (fun r2 S3 h2 => ?_)
  replace h := h2
  clear h2
  exact zG.ret (pc := 7) (r := some (.int r2)) ⟨dX5_isBox_7, _, rfl, h.1⟩ h.2
set_option maxRecDepth 100000 in
set_option maxHeartbeats 4000000 in
theorem w_X5_lays_0 (o : zW) (kr N0 : Nat) (hkr : z_ok 994 (kr, 0, 0)) (har : z_aI o (kr, 0, 0) N0) (x2 : Int32) (S : zS) (Q : Option Value → zS → Prop) (h : zG o 994 mdX5_lays 2 [(0, .ref (z_adr o (23, 0, 0))), (1, .ref (z_adr o (kr, 0, 0))), (2, .int x2), (3, .int 0)] [] S Q) : zG o 994 mdX5_lays 0 [(0, .ref (z_adr o (23, 0, 0))), (1, .ref (z_adr o (kr, 0, 0))), (2, .int x2)] [] S Q := by
  show zJ o mdX5_lays 0 _ [] (994, z_enc o S) 0 0 _
  refine zJ.iconst (pc := 0) (v := 0) dX5_lays_0 (by decide) ?_
  refine zJ.istore_n (pc := 1) (lv' := [(3, .int 0), (0, .ref (z_adr o (23, 0, 0))), (1, .ref (z_adr o (kr, 0, 0))), (2, .int x2)]) dX5_lays_1 rfl (Nat.le_of_ble_eq_true rfl) rfl ?_
  exact zJ.sub [1, 2, 3, 0] rfl h
set_option maxRecDepth 100000 in
set_option maxHeartbeats 4000000 in
theorem w_X5_lays_2 (o : zW) (kr N0 : Nat) (hkr : z_ok 994 (kr, 0, 0)) (har : z_aI o (kr, 0, 0) N0) (x2 : Int32) (x3 : Int32) (S : zS) (Q : Option Value → zS → Prop) (h : (x2 ≤ x3 → (Q none (sI S (23, 0, 0) 28 ((S.1 (23, 0, 0) 28) + x2)))) ∧ (¬ x2 ≤ x3 → (vp_in x3 N0 ∧ (vp_in ((S.1 (23, 0, 0) 28) + x3) 9100 ∧ (∀ S2 : zS, S2 = (sI S (44, 0, 0) (((S.1 (23, 0, 0) 28) + x3).toNatClampNeg) (S.1 (kr, 0, 0) x3.toNatClampNeg)) → (zG o 994 mdX5_lays 2 [(0, .ref (z_adr o (23, 0, 0))), (1, .ref (z_adr o (kr, 0, 0))), (2, .int x2), (3, .int (x3 + 1))] [] S2 Q)))))) : zG o 994 mdX5_lays 2 [(0, .ref (z_adr o (23, 0, 0))), (1, .ref (z_adr o (kr, 0, 0))), (2, .int x2), (3, .int x3)] [] S Q := by
  show zJ o mdX5_lays 2 _ [] (994, z_enc o S) 0 0 _
  refine zJ.iload_n (pc := 2) 3 dX5_lays_2 rfl rfl ?_
  refine zJ.iload_n (pc := 3) 2 dX5_lays_3 rfl rfl ?_
  refine zJ.icmp_ge (pc := 4) (tgt := 27) dX5_lays_4 (by decide) (fun c1 => ?_) (fun c1 => ?_)
  · replace h := h.1 c1
    refine zJ.aload_n (pc := 27) 0 dX5_lays_27 rfl rfl ?_
    refine zJ.dup (pc := 28) dX5_lays_28 rfl ?_
    refine zE.getI (pc := 29) (fd_23_28 o) ok_23 kiX5 (Nat.le_of_ble_eq_true rfl) fl_X5_105 dX5_lays_29 ?_
    refine zJ.iload_n (pc := 32) 2 dX5_lays_32 rfl rfl ?_
    refine zJ.iadd (pc := 33) dX5_lays_33 ?_
    refine zE.putI (pc := 34) (fd_23_28 o) ok_23 kiX5 (Nat.le_of_ble_eq_true rfl) fl_X5_105 rfl rfl dX5_lays_34 ?_
    exact zG.ret (pc := 37) (r := none) ⟨dX5_lays_37, rfl⟩ h
  · replace h := h.2 c1
    refine zJ.aload_n (pc := 7) 0 dX5_lays_7 rfl rfl ?_
    refine zE.getV (pc := 8) (fd_23_24 o) ok_23 kiX5 (Nat.le_of_ble_eq_true rfl) fl_X5_70 dX5_lays_8 ?_
    refine zJ.aload_n (pc := 11) 0 dX5_lays_11 rfl rfl ?_
    refine zE.getI (pc := 12) (fd_23_28 o) ok_23 kiX5 (Nat.le_of_ble_eq_true rfl) fl_X5_105 dX5_lays_12 ?_
    refine zJ.iload_n (pc := 15) 3 dX5_lays_15 rfl rfl ?_
    refine zJ.iadd (pc := 16) dX5_lays_16 ?_
    refine zJ.aload_n (pc := 17) 1 dX5_lays_17 rfl rfl ?_
    refine zJ.iload_n (pc := 18) 3 dX5_lays_18 rfl rfl ?_
    obtain ⟨hq, h⟩ := h
    refine zE.aldI (pc := 19) har hkr hq dX5_lays_19 ?_
    obtain ⟨hq, h⟩ := h
    refine zE.astI (pc := 20) (ia_44 o) ok_44 hq dX5_lays_20 ?_
    refine zJ.nameS (fun S2 hyS2 => ?_)
    replace h := h S2 hyS2
    refine zJ.iinc (pc := 21) (k := 3) (lv' := [(3, .int (x3 + 1)), (0, .ref (z_adr o (23, 0, 0))), (1, .ref (z_adr o (kr, 0, 0))), (2, .int x2)]) dX5_lays_21 rfl rfl (Nat.le_of_ble_eq_true rfl) rfl ?_
    refine zJ.goto (pc := 24) (tgt := 2) dX5_lays_24 (by decide) ?_
    exact zJ.sub [1, 2, 3, 0] rfl h
set_option maxRecDepth 100000 in
set_option maxHeartbeats 4000000 in
theorem w_X5_takes_0 (o : zW) (kr N0 : Nat) (hkr : z_ok 994 (kr, 0, 0)) (har : z_aI o (kr, 0, 0) N0) (x2 : Int32) (S : zS) (Q : Option Value → zS → Prop) (h : zG o 994 mdX5_takes 2 [(0, .ref (z_adr o (23, 0, 0))), (1, .ref (z_adr o (kr, 0, 0))), (2, .int x2), (3, .int 0)] [] S Q) : zG o 994 mdX5_takes 0 [(0, .ref (z_adr o (23, 0, 0))), (1, .ref (z_adr o (kr, 0, 0))), (2, .int x2)] [] S Q := by
  show zJ o mdX5_takes 0 _ [] (994, z_enc o S) 0 0 _
  refine zJ.iconst (pc := 0) (v := 0) dX5_takes_0 (by decide) ?_
  refine zJ.istore_n (pc := 1) (lv' := [(3, .int 0), (0, .ref (z_adr o (23, 0, 0))), (1, .ref (z_adr o (kr, 0, 0))), (2, .int x2)]) dX5_takes_1 rfl (Nat.le_of_ble_eq_true rfl) rfl ?_
  exact zJ.sub [1, 2, 3, 0] rfl h
set_option maxRecDepth 100000 in
set_option maxHeartbeats 4000000 in
theorem w_X5_takes_2 (o : zW) (kr N0 : Nat) (hkr : z_ok 994 (kr, 0, 0)) (har : z_aI o (kr, 0, 0) N0) (x2 : Int32) (x3 : Int32) (S : zS) (Q : Option Value → zS → Prop) (h : (x2 ≤ x3 → (Q none (sI S (23, 0, 0) 28 ((S.1 (23, 0, 0) 28) + x2)))) ∧ (¬ x2 ≤ x3 → (vp_in ((S.1 (23, 0, 0) 28) + x3) 9100 ∧ (vp_in x3 N0 ∧ (∀ S2 : zS, S2 = (sI S (kr, 0, 0) (x3.toNatClampNeg) (S.1 (44, 0, 0) (((S.1 (23, 0, 0) 28) + x3).toNatClampNeg))) → (zG o 994 mdX5_takes 2 [(0, .ref (z_adr o (23, 0, 0))), (1, .ref (z_adr o (kr, 0, 0))), (2, .int x2), (3, .int (x3 + 1))] [] S2 Q)))))) : zG o 994 mdX5_takes 2 [(0, .ref (z_adr o (23, 0, 0))), (1, .ref (z_adr o (kr, 0, 0))), (2, .int x2), (3, .int x3)] [] S Q := by
  show zJ o mdX5_takes 2 _ [] (994, z_enc o S) 0 0 _
  refine zJ.iload_n (pc := 2) 3 dX5_takes_2 rfl rfl ?_
  refine zJ.iload_n (pc := 3) 2 dX5_takes_3 rfl rfl ?_
  refine zJ.icmp_ge (pc := 4) (tgt := 27) dX5_takes_4 (by decide) (fun c1 => ?_) (fun c1 => ?_)
  · replace h := h.1 c1
    refine zJ.aload_n (pc := 27) 0 dX5_takes_27 rfl rfl ?_
    refine zJ.dup (pc := 28) dX5_takes_28 rfl ?_
    refine zE.getI (pc := 29) (fd_23_28 o) ok_23 kiX5 (Nat.le_of_ble_eq_true rfl) fl_X5_105 dX5_takes_29 ?_
    refine zJ.iload_n (pc := 32) 2 dX5_takes_32 rfl rfl ?_
    refine zJ.iadd (pc := 33) dX5_takes_33 ?_
    refine zE.putI (pc := 34) (fd_23_28 o) ok_23 kiX5 (Nat.le_of_ble_eq_true rfl) fl_X5_105 rfl rfl dX5_takes_34 ?_
    exact zG.ret (pc := 37) (r := none) ⟨dX5_takes_37, rfl⟩ h
  · replace h := h.2 c1
    refine zJ.aload_n (pc := 7) 1 dX5_takes_7 rfl rfl ?_
    refine zJ.iload_n (pc := 8) 3 dX5_takes_8 rfl rfl ?_
    refine zJ.aload_n (pc := 9) 0 dX5_takes_9 rfl rfl ?_
    refine zE.getV (pc := 10) (fd_23_24 o) ok_23 kiX5 (Nat.le_of_ble_eq_true rfl) fl_X5_70 dX5_takes_10 ?_
    refine zJ.aload_n (pc := 13) 0 dX5_takes_13 rfl rfl ?_
    refine zE.getI (pc := 14) (fd_23_28 o) ok_23 kiX5 (Nat.le_of_ble_eq_true rfl) fl_X5_105 dX5_takes_14 ?_
    refine zJ.iload_n (pc := 17) 3 dX5_takes_17 rfl rfl ?_
    refine zJ.iadd (pc := 18) dX5_takes_18 ?_
    obtain ⟨hq, h⟩ := h
    refine zE.aldI (pc := 19) (ia_44 o) ok_44 hq dX5_takes_19 ?_
    obtain ⟨hq, h⟩ := h
    refine zE.astI (pc := 20) har hkr hq dX5_takes_20 ?_
    refine zJ.nameS (fun S2 hyS2 => ?_)
    replace h := h S2 hyS2
    refine zJ.iinc (pc := 21) (k := 3) (lv' := [(3, .int (x3 + 1)), (0, .ref (z_adr o (23, 0, 0))), (1, .ref (z_adr o (kr, 0, 0))), (2, .int x2)]) dX5_takes_21 rfl rfl (Nat.le_of_ble_eq_true rfl) rfl ?_
    refine zJ.goto (pc := 24) (tgt := 2) dX5_takes_24 (by decide) ?_
    exact zJ.sub [1, 2, 3, 0] rfl h
set_option maxRecDepth 100000 in
set_option maxHeartbeats 4000000 in
theorem w_X5_keeps_0 (o : zW) (x1 : Int32) (S : zS) (Q : Option Value → zS → Prop) (h : zGv o 994 mdX5_lays [.ref (z_adr o (23, 0, 0)), .ref (z_adr o (25, 0, 0)), .int 5] (sI S (23, 0, 0) 28 (1300 * x1)) (fun S3 => zGv o 994 mdX5_lays [.ref (z_adr o (23, 0, 0)), .ref (z_adr o (26, 0, 0)), .int 64] S3 (fun S6 => zGv o 994 mdX5_lays [.ref (z_adr o (23, 0, 0)), .ref (z_adr o (27, 0, 0)), .int 64] S6 (fun S9 => zGv o 994 mdX5_lays [.ref (z_adr o (23, 0, 0)), .ref (z_adr o (28, 0, 0)), .int 16] S9 (fun S12 => zGv o 994 mdX5_lays [.ref (z_adr o (23, 0, 0)), .ref (z_adr o (29, 0, 0)), .int 16] S12 (fun S15 => zGv o 994 mdX5_lays [.ref (z_adr o (23, 0, 0)), .ref (z_adr o (30, 0, 0)), .int 16] S15 (fun S18 => zGv o 994 mdX5_lays [.ref (z_adr o (23, 0, 0)), .ref (z_adr o (31, 0, 0)), .int 4] S18 (fun S21 => zGv o 994 mdX5_lays [.ref (z_adr o (23, 0, 0)), .ref (z_adr o (32, 0, 0)), .int 12] S21 (fun S24 => zGv o 994 mdX5_lays [.ref (z_adr o (23, 0, 0)), .ref (z_adr o (33, 0, 0)), .int 4] S24 (fun S27 => zGv o 994 mdX5_lays [.ref (z_adr o (23, 0, 0)), .ref (z_adr o (34, 0, 0)), .int 16] S27 (fun S30 => zGv o 994 mdX5_lays [.ref (z_adr o (23, 0, 0)), .ref (z_adr o (35, 0, 0)), .int 64] S30 (fun S33 => zGv o 994 mdX5_lays [.ref (z_adr o (23, 0, 0)), .ref (z_adr o (36, 0, 0)), .int 64] S33 (fun S36 => zGv o 994 mdX5_lays [.ref (z_adr o (23, 0, 0)), .ref (z_adr o (37, 0, 0)), .int 64] S36 (fun S39 => zGv o 994 mdX5_lays [.ref (z_adr o (23, 0, 0)), .ref (z_adr o (38, 0, 0)), .int 64] S39 (fun S42 => zGv o 994 mdX5_lays [.ref (z_adr o (23, 0, 0)), .ref (z_adr o (39, 0, 0)), .int 3] S42 (fun S45 => zGv o 994 mdX5_lays [.ref (z_adr o (23, 0, 0)), .ref (z_adr o (40, 0, 0)), .int 10] S45 (fun S48 => zGv o 994 mdX5_lays [.ref (z_adr o (23, 0, 0)), .ref (z_adr o (41, 0, 0)), .int 200] S48 (fun S51 => zGv o 994 mdX5_lays [.ref (z_adr o (23, 0, 0)), .ref (z_adr o (42, 0, 0)), .int 200] S51 (fun S54 => zGv o 994 mdX5_lays [.ref (z_adr o (23, 0, 0)), .ref (z_adr o (43, 0, 0)), .int 200] S54 (fun S57 => vp_in x1 7 ∧ (vp_in x1 7 ∧ (∀ S58 : zS, S58 = (sL (sF S57 (45, 0, 0) (x1.toNatClampNeg) (S57.2.2 (23, 0, 0) 20)) (46, 0, 0) (x1.toNatClampNeg) ((sF S57 (45, 0, 0) (x1.toNatClampNeg) (S57.2.2 (23, 0, 0) 20)).2.1 (23, 0, 0) 21)) → (vp_in x1 7 ∧ (Q none (sL S58 (47, 0, 0) (x1.toNatClampNeg) (S58.2.1 (23, 0, 0) 22)))))))))))))))))))))))))) : zG o 994 mdX5_keeps 0 [(0, .ref (z_adr o (23, 0, 0))), (1, .int x1)] [] S Q := by
  show zJ o mdX5_keeps 0 _ [] (994, z_enc o S) 0 0 _
  refine zJ.aload_n (pc := 0) 0 dX5_keeps_0 rfl rfl ?_
  refine zJ.sipush (pc := 1) (v := 1300) dX5_keeps_1 (by decide) ?_
  refine zJ.iload_n (pc := 4) 1 dX5_keeps_4 rfl rfl ?_
  refine zJ.imul (pc := 5) dX5_keeps_5 ?_
  refine zE.putI (pc := 6) (fd_23_28 o) ok_23 kiX5 (Nat.le_of_ble_eq_true rfl) fl_X5_105 rfl rfl dX5_keeps_6 ?_
  refine zJ.aload_n (pc := 9) 0 dX5_keeps_9 rfl rfl ?_
  refine zJ.aload_n (pc := 10) 0 dX5_keeps_10 rfl rfl ?_
  refine zE.getV (pc := 11) (fd_23_1 o) ok_23 kiX5 (Nat.le_of_ble_eq_true rfl) fl_X5_13 dX5_keeps_11 ?_
  refine zJ.iconst (pc := 14) (v := 5) dX5_keeps_14 (by decide) ?_
  refine zG.callVv (d := mdX5_keeps) (pc := 15) [.ref (z_adr o (25, 0, 0)), .int 5] [] (ob_23 o) ok_23 rfl dX5_keeps_15 ⟨(cb_X5_lays).1, (cb_X5_lays).2, (Nat.le_of_ble_eq_true rfl), (Nat.le_of_ble_eq_true rfl)⟩ ml_X5_109 ci_X5_lays cv_X5_lays rfl (Nat.le_of_ble_eq_true rfl) (Nat.le_of_ble_eq_true rfl) rfl h (fun S3 h2 => ?_)
  replace h := h2
  clear h2
  refine zJ.aload_n (pc := 18) 0 dX5_keeps_18 rfl rfl ?_
  refine zJ.aload_n (pc := 19) 0 dX5_keeps_19 rfl rfl ?_
  refine zE.getV (pc := 20) (fd_23_2 o) ok_23 kiX5 (Nat.le_of_ble_eq_true rfl) fl_X5_16 dX5_keeps_20 ?_
  refine zJ.bipush (pc := 23) (v := 64) dX5_keeps_23 (by decide) ?_
  refine zG.callVv (d := mdX5_keeps) (pc := 25) [.ref (z_adr o (26, 0, 0)), .int 64] [] (ob_23 o) ok_23 rfl dX5_keeps_25 ⟨(cb_X5_lays).1, (cb_X5_lays).2, (Nat.le_of_ble_eq_true rfl), (Nat.le_of_ble_eq_true rfl)⟩ ml_X5_109 ci_X5_lays cv_X5_lays rfl (Nat.le_of_ble_eq_true rfl) (Nat.le_of_ble_eq_true rfl) rfl h (fun S6 h2 => ?_)
  replace h := h2
  clear h2
  refine zJ.aload_n (pc := 28) 0 dX5_keeps_28 rfl rfl ?_
  refine zJ.aload_n (pc := 29) 0 dX5_keeps_29 rfl rfl ?_
  refine zE.getV (pc := 30) (fd_23_3 o) ok_23 kiX5 (Nat.le_of_ble_eq_true rfl) fl_X5_19 dX5_keeps_30 ?_
  refine zJ.bipush (pc := 33) (v := 64) dX5_keeps_33 (by decide) ?_
  refine zG.callVv (d := mdX5_keeps) (pc := 35) [.ref (z_adr o (27, 0, 0)), .int 64] [] (ob_23 o) ok_23 rfl dX5_keeps_35 ⟨(cb_X5_lays).1, (cb_X5_lays).2, (Nat.le_of_ble_eq_true rfl), (Nat.le_of_ble_eq_true rfl)⟩ ml_X5_109 ci_X5_lays cv_X5_lays rfl (Nat.le_of_ble_eq_true rfl) (Nat.le_of_ble_eq_true rfl) rfl h (fun S9 h2 => ?_)
  replace h := h2
  clear h2
  refine zJ.aload_n (pc := 38) 0 dX5_keeps_38 rfl rfl ?_
  refine zJ.aload_n (pc := 39) 0 dX5_keeps_39 rfl rfl ?_
  refine zE.getV (pc := 40) (fd_23_4 o) ok_23 kiX5 (Nat.le_of_ble_eq_true rfl) fl_X5_22 dX5_keeps_40 ?_
  refine zJ.bipush (pc := 43) (v := 16) dX5_keeps_43 (by decide) ?_
  refine zG.callVv (d := mdX5_keeps) (pc := 45) [.ref (z_adr o (28, 0, 0)), .int 16] [] (ob_23 o) ok_23 rfl dX5_keeps_45 ⟨(cb_X5_lays).1, (cb_X5_lays).2, (Nat.le_of_ble_eq_true rfl), (Nat.le_of_ble_eq_true rfl)⟩ ml_X5_109 ci_X5_lays cv_X5_lays rfl (Nat.le_of_ble_eq_true rfl) (Nat.le_of_ble_eq_true rfl) rfl h (fun S12 h2 => ?_)
  replace h := h2
  clear h2
  refine zJ.aload_n (pc := 48) 0 dX5_keeps_48 rfl rfl ?_
  refine zJ.aload_n (pc := 49) 0 dX5_keeps_49 rfl rfl ?_
  refine zE.getV (pc := 50) (fd_23_5 o) ok_23 kiX5 (Nat.le_of_ble_eq_true rfl) fl_X5_25 dX5_keeps_50 ?_
  refine zJ.bipush (pc := 53) (v := 16) dX5_keeps_53 (by decide) ?_
  refine zG.callVv (d := mdX5_keeps) (pc := 55) [.ref (z_adr o (29, 0, 0)), .int 16] [] (ob_23 o) ok_23 rfl dX5_keeps_55 ⟨(cb_X5_lays).1, (cb_X5_lays).2, (Nat.le_of_ble_eq_true rfl), (Nat.le_of_ble_eq_true rfl)⟩ ml_X5_109 ci_X5_lays cv_X5_lays rfl (Nat.le_of_ble_eq_true rfl) (Nat.le_of_ble_eq_true rfl) rfl h (fun S15 h2 => ?_)
  replace h := h2
  clear h2
  refine zJ.aload_n (pc := 58) 0 dX5_keeps_58 rfl rfl ?_
  refine zJ.aload_n (pc := 59) 0 dX5_keeps_59 rfl rfl ?_
  refine zE.getV (pc := 60) (fd_23_6 o) ok_23 kiX5 (Nat.le_of_ble_eq_true rfl) fl_X5_28 dX5_keeps_60 ?_
  refine zJ.bipush (pc := 63) (v := 16) dX5_keeps_63 (by decide) ?_
  refine zG.callVv (d := mdX5_keeps) (pc := 65) [.ref (z_adr o (30, 0, 0)), .int 16] [] (ob_23 o) ok_23 rfl dX5_keeps_65 ⟨(cb_X5_lays).1, (cb_X5_lays).2, (Nat.le_of_ble_eq_true rfl), (Nat.le_of_ble_eq_true rfl)⟩ ml_X5_109 ci_X5_lays cv_X5_lays rfl (Nat.le_of_ble_eq_true rfl) (Nat.le_of_ble_eq_true rfl) rfl h (fun S18 h2 => ?_)
  replace h := h2
  clear h2
  refine zJ.aload_n (pc := 68) 0 dX5_keeps_68 rfl rfl ?_
  refine zJ.aload_n (pc := 69) 0 dX5_keeps_69 rfl rfl ?_
  refine zE.getV (pc := 70) (fd_23_7 o) ok_23 kiX5 (Nat.le_of_ble_eq_true rfl) fl_X5_31 dX5_keeps_70 ?_
  refine zJ.iconst (pc := 73) (v := 4) dX5_keeps_73 (by decide) ?_
  refine zG.callVv (d := mdX5_keeps) (pc := 74) [.ref (z_adr o (31, 0, 0)), .int 4] [] (ob_23 o) ok_23 rfl dX5_keeps_74 ⟨(cb_X5_lays).1, (cb_X5_lays).2, (Nat.le_of_ble_eq_true rfl), (Nat.le_of_ble_eq_true rfl)⟩ ml_X5_109 ci_X5_lays cv_X5_lays rfl (Nat.le_of_ble_eq_true rfl) (Nat.le_of_ble_eq_true rfl) rfl h (fun S21 h2 => ?_)
  replace h := h2
  clear h2
  refine zJ.aload_n (pc := 77) 0 dX5_keeps_77 rfl rfl ?_
  refine zJ.aload_n (pc := 78) 0 dX5_keeps_78 rfl rfl ?_
  refine zE.getV (pc := 79) (fd_23_8 o) ok_23 kiX5 (Nat.le_of_ble_eq_true rfl) fl_X5_34 dX5_keeps_79 ?_
  refine zJ.bipush (pc := 82) (v := 12) dX5_keeps_82 (by decide) ?_
  refine zG.callVv (d := mdX5_keeps) (pc := 84) [.ref (z_adr o (32, 0, 0)), .int 12] [] (ob_23 o) ok_23 rfl dX5_keeps_84 ⟨(cb_X5_lays).1, (cb_X5_lays).2, (Nat.le_of_ble_eq_true rfl), (Nat.le_of_ble_eq_true rfl)⟩ ml_X5_109 ci_X5_lays cv_X5_lays rfl (Nat.le_of_ble_eq_true rfl) (Nat.le_of_ble_eq_true rfl) rfl h (fun S24 h2 => ?_)
  replace h := h2
  clear h2
  refine zJ.aload_n (pc := 87) 0 dX5_keeps_87 rfl rfl ?_
  refine zJ.aload_n (pc := 88) 0 dX5_keeps_88 rfl rfl ?_
  refine zE.getV (pc := 89) (fd_23_9 o) ok_23 kiX5 (Nat.le_of_ble_eq_true rfl) fl_X5_37 dX5_keeps_89 ?_
  refine zJ.iconst (pc := 92) (v := 4) dX5_keeps_92 (by decide) ?_
  refine zG.callVv (d := mdX5_keeps) (pc := 93) [.ref (z_adr o (33, 0, 0)), .int 4] [] (ob_23 o) ok_23 rfl dX5_keeps_93 ⟨(cb_X5_lays).1, (cb_X5_lays).2, (Nat.le_of_ble_eq_true rfl), (Nat.le_of_ble_eq_true rfl)⟩ ml_X5_109 ci_X5_lays cv_X5_lays rfl (Nat.le_of_ble_eq_true rfl) (Nat.le_of_ble_eq_true rfl) rfl h (fun S27 h2 => ?_)
  replace h := h2
  clear h2
  refine zJ.aload_n (pc := 96) 0 dX5_keeps_96 rfl rfl ?_
  refine zJ.aload_n (pc := 97) 0 dX5_keeps_97 rfl rfl ?_
  refine zE.getV (pc := 98) (fd_23_10 o) ok_23 kiX5 (Nat.le_of_ble_eq_true rfl) fl_X5_40 dX5_keeps_98 ?_
  refine zJ.bipush (pc := 101) (v := 16) dX5_keeps_101 (by decide) ?_
  refine zG.callVv (d := mdX5_keeps) (pc := 103) [.ref (z_adr o (34, 0, 0)), .int 16] [] (ob_23 o) ok_23 rfl dX5_keeps_103 ⟨(cb_X5_lays).1, (cb_X5_lays).2, (Nat.le_of_ble_eq_true rfl), (Nat.le_of_ble_eq_true rfl)⟩ ml_X5_109 ci_X5_lays cv_X5_lays rfl (Nat.le_of_ble_eq_true rfl) (Nat.le_of_ble_eq_true rfl) rfl h (fun S30 h2 => ?_)
  replace h := h2
  clear h2
  refine zJ.aload_n (pc := 106) 0 dX5_keeps_106 rfl rfl ?_
  refine zJ.aload_n (pc := 107) 0 dX5_keeps_107 rfl rfl ?_
  refine zE.getV (pc := 108) (fd_23_11 o) ok_23 kiX5 (Nat.le_of_ble_eq_true rfl) fl_X5_43 dX5_keeps_108 ?_
  refine zJ.bipush (pc := 111) (v := 64) dX5_keeps_111 (by decide) ?_
  refine zG.callVv (d := mdX5_keeps) (pc := 113) [.ref (z_adr o (35, 0, 0)), .int 64] [] (ob_23 o) ok_23 rfl dX5_keeps_113 ⟨(cb_X5_lays).1, (cb_X5_lays).2, (Nat.le_of_ble_eq_true rfl), (Nat.le_of_ble_eq_true rfl)⟩ ml_X5_109 ci_X5_lays cv_X5_lays rfl (Nat.le_of_ble_eq_true rfl) (Nat.le_of_ble_eq_true rfl) rfl h (fun S33 h2 => ?_)
  replace h := h2
  clear h2
  refine zJ.aload_n (pc := 116) 0 dX5_keeps_116 rfl rfl ?_
  refine zJ.aload_n (pc := 117) 0 dX5_keeps_117 rfl rfl ?_
  refine zE.getV (pc := 118) (fd_23_12 o) ok_23 kiX5 (Nat.le_of_ble_eq_true rfl) fl_X5_46 dX5_keeps_118 ?_
  refine zJ.bipush (pc := 121) (v := 64) dX5_keeps_121 (by decide) ?_
  refine zG.callVv (d := mdX5_keeps) (pc := 123) [.ref (z_adr o (36, 0, 0)), .int 64] [] (ob_23 o) ok_23 rfl dX5_keeps_123 ⟨(cb_X5_lays).1, (cb_X5_lays).2, (Nat.le_of_ble_eq_true rfl), (Nat.le_of_ble_eq_true rfl)⟩ ml_X5_109 ci_X5_lays cv_X5_lays rfl (Nat.le_of_ble_eq_true rfl) (Nat.le_of_ble_eq_true rfl) rfl h (fun S36 h2 => ?_)
  replace h := h2
  clear h2
  refine zJ.aload_n (pc := 126) 0 dX5_keeps_126 rfl rfl ?_
  refine zJ.aload_n (pc := 127) 0 dX5_keeps_127 rfl rfl ?_
  refine zE.getV (pc := 128) (fd_23_13 o) ok_23 kiX5 (Nat.le_of_ble_eq_true rfl) fl_X5_49 dX5_keeps_128 ?_
  refine zJ.bipush (pc := 131) (v := 64) dX5_keeps_131 (by decide) ?_
  refine zG.callVv (d := mdX5_keeps) (pc := 133) [.ref (z_adr o (37, 0, 0)), .int 64] [] (ob_23 o) ok_23 rfl dX5_keeps_133 ⟨(cb_X5_lays).1, (cb_X5_lays).2, (Nat.le_of_ble_eq_true rfl), (Nat.le_of_ble_eq_true rfl)⟩ ml_X5_109 ci_X5_lays cv_X5_lays rfl (Nat.le_of_ble_eq_true rfl) (Nat.le_of_ble_eq_true rfl) rfl h (fun S39 h2 => ?_)
  replace h := h2
  clear h2
  refine zJ.aload_n (pc := 136) 0 dX5_keeps_136 rfl rfl ?_
  refine zJ.aload_n (pc := 137) 0 dX5_keeps_137 rfl rfl ?_
  refine zE.getV (pc := 138) (fd_23_14 o) ok_23 kiX5 (Nat.le_of_ble_eq_true rfl) fl_X5_52 dX5_keeps_138 ?_
  refine zJ.bipush (pc := 141) (v := 64) dX5_keeps_141 (by decide) ?_
  refine zG.callVv (d := mdX5_keeps) (pc := 143) [.ref (z_adr o (38, 0, 0)), .int 64] [] (ob_23 o) ok_23 rfl dX5_keeps_143 ⟨(cb_X5_lays).1, (cb_X5_lays).2, (Nat.le_of_ble_eq_true rfl), (Nat.le_of_ble_eq_true rfl)⟩ ml_X5_109 ci_X5_lays cv_X5_lays rfl (Nat.le_of_ble_eq_true rfl) (Nat.le_of_ble_eq_true rfl) rfl h (fun S42 h2 => ?_)
  replace h := h2
  clear h2
  refine zJ.aload_n (pc := 146) 0 dX5_keeps_146 rfl rfl ?_
  refine zJ.aload_n (pc := 147) 0 dX5_keeps_147 rfl rfl ?_
  refine zE.getV (pc := 148) (fd_23_15 o) ok_23 kiX5 (Nat.le_of_ble_eq_true rfl) fl_X5_55 dX5_keeps_148 ?_
  refine zJ.iconst (pc := 151) (v := 3) dX5_keeps_151 (by decide) ?_
  refine zG.callVv (d := mdX5_keeps) (pc := 152) [.ref (z_adr o (39, 0, 0)), .int 3] [] (ob_23 o) ok_23 rfl dX5_keeps_152 ⟨(cb_X5_lays).1, (cb_X5_lays).2, (Nat.le_of_ble_eq_true rfl), (Nat.le_of_ble_eq_true rfl)⟩ ml_X5_109 ci_X5_lays cv_X5_lays rfl (Nat.le_of_ble_eq_true rfl) (Nat.le_of_ble_eq_true rfl) rfl h (fun S45 h2 => ?_)
  replace h := h2
  clear h2
  refine zJ.aload_n (pc := 155) 0 dX5_keeps_155 rfl rfl ?_
  refine zJ.aload_n (pc := 156) 0 dX5_keeps_156 rfl rfl ?_
  refine zE.getV (pc := 157) (fd_23_16 o) ok_23 kiX5 (Nat.le_of_ble_eq_true rfl) fl_X5_58 dX5_keeps_157 ?_
  refine zJ.bipush (pc := 160) (v := 10) dX5_keeps_160 (by decide) ?_
  refine zG.callVv (d := mdX5_keeps) (pc := 162) [.ref (z_adr o (40, 0, 0)), .int 10] [] (ob_23 o) ok_23 rfl dX5_keeps_162 ⟨(cb_X5_lays).1, (cb_X5_lays).2, (Nat.le_of_ble_eq_true rfl), (Nat.le_of_ble_eq_true rfl)⟩ ml_X5_109 ci_X5_lays cv_X5_lays rfl (Nat.le_of_ble_eq_true rfl) (Nat.le_of_ble_eq_true rfl) rfl h (fun S48 h2 => ?_)
  replace h := h2
  clear h2
  refine zJ.aload_n (pc := 165) 0 dX5_keeps_165 rfl rfl ?_
  refine zJ.aload_n (pc := 166) 0 dX5_keeps_166 rfl rfl ?_
  refine zE.getV (pc := 167) (fd_23_17 o) ok_23 kiX5 (Nat.le_of_ble_eq_true rfl) fl_X5_61 dX5_keeps_167 ?_
  refine zJ.sipush (pc := 170) (v := 200) dX5_keeps_170 (by decide) ?_
  refine zG.callVv (d := mdX5_keeps) (pc := 173) [.ref (z_adr o (41, 0, 0)), .int 200] [] (ob_23 o) ok_23 rfl dX5_keeps_173 ⟨(cb_X5_lays).1, (cb_X5_lays).2, (Nat.le_of_ble_eq_true rfl), (Nat.le_of_ble_eq_true rfl)⟩ ml_X5_109 ci_X5_lays cv_X5_lays rfl (Nat.le_of_ble_eq_true rfl) (Nat.le_of_ble_eq_true rfl) rfl h (fun S51 h2 => ?_)
  replace h := h2
  clear h2
  refine zJ.aload_n (pc := 176) 0 dX5_keeps_176 rfl rfl ?_
  refine zJ.aload_n (pc := 177) 0 dX5_keeps_177 rfl rfl ?_
  refine zE.getV (pc := 178) (fd_23_18 o) ok_23 kiX5 (Nat.le_of_ble_eq_true rfl) fl_X5_64 dX5_keeps_178 ?_
  refine zJ.sipush (pc := 181) (v := 200) dX5_keeps_181 (by decide) ?_
  refine zG.callVv (d := mdX5_keeps) (pc := 184) [.ref (z_adr o (42, 0, 0)), .int 200] [] (ob_23 o) ok_23 rfl dX5_keeps_184 ⟨(cb_X5_lays).1, (cb_X5_lays).2, (Nat.le_of_ble_eq_true rfl), (Nat.le_of_ble_eq_true rfl)⟩ ml_X5_109 ci_X5_lays cv_X5_lays rfl (Nat.le_of_ble_eq_true rfl) (Nat.le_of_ble_eq_true rfl) rfl h (fun S54 h2 => ?_)
  replace h := h2
  clear h2
  refine zJ.aload_n (pc := 187) 0 dX5_keeps_187 rfl rfl ?_
  refine zJ.aload_n (pc := 188) 0 dX5_keeps_188 rfl rfl ?_
  refine zE.getV (pc := 189) (fd_23_19 o) ok_23 kiX5 (Nat.le_of_ble_eq_true rfl) fl_X5_67 dX5_keeps_189 ?_
  refine zJ.sipush (pc := 192) (v := 200) dX5_keeps_192 (by decide) ?_
  refine zG.callVv (d := mdX5_keeps) (pc := 195) [.ref (z_adr o (43, 0, 0)), .int 200] [] (ob_23 o) ok_23 rfl dX5_keeps_195 ⟨(cb_X5_lays).1, (cb_X5_lays).2, (Nat.le_of_ble_eq_true rfl), (Nat.le_of_ble_eq_true rfl)⟩ ml_X5_109 ci_X5_lays cv_X5_lays rfl (Nat.le_of_ble_eq_true rfl) (Nat.le_of_ble_eq_true rfl) rfl h (fun S57 h2 => ?_)
  replace h := h2
  clear h2
  refine zJ.aload_n (pc := 198) 0 dX5_keeps_198 rfl rfl ?_
  refine zE.getV (pc := 199) (fd_23_25 o) ok_23 kiX5 (Nat.le_of_ble_eq_true rfl) fl_X5_73 dX5_keeps_199 ?_
  refine zJ.iload_n (pc := 202) 1 dX5_keeps_202 rfl rfl ?_
  refine zJ.aload_n (pc := 203) 0 dX5_keeps_203 rfl rfl ?_
  refine zE.getF (pc := 204) (fd_23_20 o) ok_23 kiX5 (Nat.le_of_ble_eq_true rfl) fl_X5_90 dX5_keeps_204 ?_
  obtain ⟨hq, h⟩ := h
  refine zE.astF (pc := 207) (fa_45 o) ok_45 hq dX5_keeps_207 ?_
  refine zJ.aload_n (pc := 208) 0 dX5_keeps_208 rfl rfl ?_
  refine zE.getV (pc := 209) (fd_23_26 o) ok_23 kiX5 (Nat.le_of_ble_eq_true rfl) fl_X5_77 dX5_keeps_209 ?_
  refine zJ.iload_n (pc := 212) 1 dX5_keeps_212 rfl rfl ?_
  refine zJ.aload_n (pc := 213) 0 dX5_keeps_213 rfl rfl ?_
  refine zE.getL (pc := 214) (fd_23_21 o) ok_23 kiX5 (Nat.le_of_ble_eq_true rfl) fl_X5_94 dX5_keeps_214 ?_
  obtain ⟨hq, h⟩ := h
  refine zE.astL (pc := 217) (la_46 o) ok_46 hq dX5_keeps_217 ?_
  refine zJ.nameS (fun S58 hyS58 => ?_)
  replace h := h S58 hyS58
  refine zJ.aload_n (pc := 218) 0 dX5_keeps_218 rfl rfl ?_
  refine zE.getV (pc := 219) (fd_23_27 o) ok_23 kiX5 (Nat.le_of_ble_eq_true rfl) fl_X5_81 dX5_keeps_219 ?_
  refine zJ.iload_n (pc := 222) 1 dX5_keeps_222 rfl rfl ?_
  refine zJ.aload_n (pc := 223) 0 dX5_keeps_223 rfl rfl ?_
  refine zE.getL (pc := 224) (fd_23_22 o) ok_23 kiX5 (Nat.le_of_ble_eq_true rfl) fl_X5_98 dX5_keeps_224 ?_
  obtain ⟨hq, h⟩ := h
  refine zE.astL (pc := 227) (la_47 o) ok_47 hq dX5_keeps_227 ?_
  exact zG.ret (pc := 228) (r := none) ⟨dX5_keeps_228, rfl⟩ h
set_option maxRecDepth 100000 in
set_option maxHeartbeats 4000000 in
theorem w_X5_comesBack_0 (o : zW) (x1 : Int32) (S : zS) (Q : Option Value → zS → Prop) (h : zGv o 994 mdX5_takes [.ref (z_adr o (23, 0, 0)), .ref (z_adr o (25, 0, 0)), .int 5] (sI S (23, 0, 0) 28 (1300 * x1)) (fun S3 => zGv o 994 mdX5_takes [.ref (z_adr o (23, 0, 0)), .ref (z_adr o (26, 0, 0)), .int 64] S3 (fun S6 => zGv o 994 mdX5_takes [.ref (z_adr o (23, 0, 0)), .ref (z_adr o (27, 0, 0)), .int 64] S6 (fun S9 => zGv o 994 mdX5_takes [.ref (z_adr o (23, 0, 0)), .ref (z_adr o (28, 0, 0)), .int 16] S9 (fun S12 => zGv o 994 mdX5_takes [.ref (z_adr o (23, 0, 0)), .ref (z_adr o (29, 0, 0)), .int 16] S12 (fun S15 => zGv o 994 mdX5_takes [.ref (z_adr o (23, 0, 0)), .ref (z_adr o (30, 0, 0)), .int 16] S15 (fun S18 => zGv o 994 mdX5_takes [.ref (z_adr o (23, 0, 0)), .ref (z_adr o (31, 0, 0)), .int 4] S18 (fun S21 => zGv o 994 mdX5_takes [.ref (z_adr o (23, 0, 0)), .ref (z_adr o (32, 0, 0)), .int 12] S21 (fun S24 => zGv o 994 mdX5_takes [.ref (z_adr o (23, 0, 0)), .ref (z_adr o (33, 0, 0)), .int 4] S24 (fun S27 => zGv o 994 mdX5_takes [.ref (z_adr o (23, 0, 0)), .ref (z_adr o (34, 0, 0)), .int 16] S27 (fun S30 => zGv o 994 mdX5_takes [.ref (z_adr o (23, 0, 0)), .ref (z_adr o (35, 0, 0)), .int 64] S30 (fun S33 => zGv o 994 mdX5_takes [.ref (z_adr o (23, 0, 0)), .ref (z_adr o (36, 0, 0)), .int 64] S33 (fun S36 => zGv o 994 mdX5_takes [.ref (z_adr o (23, 0, 0)), .ref (z_adr o (37, 0, 0)), .int 64] S36 (fun S39 => zGv o 994 mdX5_takes [.ref (z_adr o (23, 0, 0)), .ref (z_adr o (38, 0, 0)), .int 64] S39 (fun S42 => zGv o 994 mdX5_takes [.ref (z_adr o (23, 0, 0)), .ref (z_adr o (39, 0, 0)), .int 3] S42 (fun S45 => zGv o 994 mdX5_takes [.ref (z_adr o (23, 0, 0)), .ref (z_adr o (40, 0, 0)), .int 10] S45 (fun S48 => zGv o 994 mdX5_takes [.ref (z_adr o (23, 0, 0)), .ref (z_adr o (41, 0, 0)), .int 200] S48 (fun S51 => zGv o 994 mdX5_takes [.ref (z_adr o (23, 0, 0)), .ref (z_adr o (42, 0, 0)), .int 200] S51 (fun S54 => zGv o 994 mdX5_takes [.ref (z_adr o (23, 0, 0)), .ref (z_adr o (43, 0, 0)), .int 200] S54 (fun S57 => vp_in x1 7 ∧ (vp_in x1 7 ∧ (∀ S58 : zS, S58 = (sL (sF S57 (23, 0, 0) 20 (S57.2.2 (45, 0, 0) x1.toNatClampNeg)) (23, 0, 0) 21 ((sF S57 (23, 0, 0) 20 (S57.2.2 (45, 0, 0) x1.toNatClampNeg)).2.1 (46, 0, 0) x1.toNatClampNeg)) → (vp_in x1 7 ∧ (Q none (sL S58 (23, 0, 0) 22 (S58.2.1 (47, 0, 0) x1.toNatClampNeg)))))))))))))))))))))))))) : zG o 994 mdX5_comesBack 0 [(0, .ref (z_adr o (23, 0, 0))), (1, .int x1)] [] S Q := by
  show zJ o mdX5_comesBack 0 _ [] (994, z_enc o S) 0 0 _
  refine zJ.aload_n (pc := 0) 0 dX5_comesBack_0 rfl rfl ?_
  refine zJ.sipush (pc := 1) (v := 1300) dX5_comesBack_1 (by decide) ?_
  refine zJ.iload_n (pc := 4) 1 dX5_comesBack_4 rfl rfl ?_
  refine zJ.imul (pc := 5) dX5_comesBack_5 ?_
  refine zE.putI (pc := 6) (fd_23_28 o) ok_23 kiX5 (Nat.le_of_ble_eq_true rfl) fl_X5_105 rfl rfl dX5_comesBack_6 ?_
  refine zJ.aload_n (pc := 9) 0 dX5_comesBack_9 rfl rfl ?_
  refine zJ.aload_n (pc := 10) 0 dX5_comesBack_10 rfl rfl ?_
  refine zE.getV (pc := 11) (fd_23_1 o) ok_23 kiX5 (Nat.le_of_ble_eq_true rfl) fl_X5_13 dX5_comesBack_11 ?_
  refine zJ.iconst (pc := 14) (v := 5) dX5_comesBack_14 (by decide) ?_
  refine zG.callVv (d := mdX5_comesBack) (pc := 15) [.ref (z_adr o (25, 0, 0)), .int 5] [] (ob_23 o) ok_23 rfl dX5_comesBack_15 ⟨(cb_X5_takes).1, (cb_X5_takes).2, (Nat.le_of_ble_eq_true rfl), (Nat.le_of_ble_eq_true rfl)⟩ ml_X5_113 ci_X5_takes cv_X5_takes rfl (Nat.le_of_ble_eq_true rfl) (Nat.le_of_ble_eq_true rfl) rfl h (fun S3 h2 => ?_)
  replace h := h2
  clear h2
  refine zJ.aload_n (pc := 18) 0 dX5_comesBack_18 rfl rfl ?_
  refine zJ.aload_n (pc := 19) 0 dX5_comesBack_19 rfl rfl ?_
  refine zE.getV (pc := 20) (fd_23_2 o) ok_23 kiX5 (Nat.le_of_ble_eq_true rfl) fl_X5_16 dX5_comesBack_20 ?_
  refine zJ.bipush (pc := 23) (v := 64) dX5_comesBack_23 (by decide) ?_
  refine zG.callVv (d := mdX5_comesBack) (pc := 25) [.ref (z_adr o (26, 0, 0)), .int 64] [] (ob_23 o) ok_23 rfl dX5_comesBack_25 ⟨(cb_X5_takes).1, (cb_X5_takes).2, (Nat.le_of_ble_eq_true rfl), (Nat.le_of_ble_eq_true rfl)⟩ ml_X5_113 ci_X5_takes cv_X5_takes rfl (Nat.le_of_ble_eq_true rfl) (Nat.le_of_ble_eq_true rfl) rfl h (fun S6 h2 => ?_)
  replace h := h2
  clear h2
  refine zJ.aload_n (pc := 28) 0 dX5_comesBack_28 rfl rfl ?_
  refine zJ.aload_n (pc := 29) 0 dX5_comesBack_29 rfl rfl ?_
  refine zE.getV (pc := 30) (fd_23_3 o) ok_23 kiX5 (Nat.le_of_ble_eq_true rfl) fl_X5_19 dX5_comesBack_30 ?_
  refine zJ.bipush (pc := 33) (v := 64) dX5_comesBack_33 (by decide) ?_
  refine zG.callVv (d := mdX5_comesBack) (pc := 35) [.ref (z_adr o (27, 0, 0)), .int 64] [] (ob_23 o) ok_23 rfl dX5_comesBack_35 ⟨(cb_X5_takes).1, (cb_X5_takes).2, (Nat.le_of_ble_eq_true rfl), (Nat.le_of_ble_eq_true rfl)⟩ ml_X5_113 ci_X5_takes cv_X5_takes rfl (Nat.le_of_ble_eq_true rfl) (Nat.le_of_ble_eq_true rfl) rfl h (fun S9 h2 => ?_)
  replace h := h2
  clear h2
  refine zJ.aload_n (pc := 38) 0 dX5_comesBack_38 rfl rfl ?_
  refine zJ.aload_n (pc := 39) 0 dX5_comesBack_39 rfl rfl ?_
  refine zE.getV (pc := 40) (fd_23_4 o) ok_23 kiX5 (Nat.le_of_ble_eq_true rfl) fl_X5_22 dX5_comesBack_40 ?_
  refine zJ.bipush (pc := 43) (v := 16) dX5_comesBack_43 (by decide) ?_
  refine zG.callVv (d := mdX5_comesBack) (pc := 45) [.ref (z_adr o (28, 0, 0)), .int 16] [] (ob_23 o) ok_23 rfl dX5_comesBack_45 ⟨(cb_X5_takes).1, (cb_X5_takes).2, (Nat.le_of_ble_eq_true rfl), (Nat.le_of_ble_eq_true rfl)⟩ ml_X5_113 ci_X5_takes cv_X5_takes rfl (Nat.le_of_ble_eq_true rfl) (Nat.le_of_ble_eq_true rfl) rfl h (fun S12 h2 => ?_)
  replace h := h2
  clear h2
  refine zJ.aload_n (pc := 48) 0 dX5_comesBack_48 rfl rfl ?_
  refine zJ.aload_n (pc := 49) 0 dX5_comesBack_49 rfl rfl ?_
  refine zE.getV (pc := 50) (fd_23_5 o) ok_23 kiX5 (Nat.le_of_ble_eq_true rfl) fl_X5_25 dX5_comesBack_50 ?_
  refine zJ.bipush (pc := 53) (v := 16) dX5_comesBack_53 (by decide) ?_
  refine zG.callVv (d := mdX5_comesBack) (pc := 55) [.ref (z_adr o (29, 0, 0)), .int 16] [] (ob_23 o) ok_23 rfl dX5_comesBack_55 ⟨(cb_X5_takes).1, (cb_X5_takes).2, (Nat.le_of_ble_eq_true rfl), (Nat.le_of_ble_eq_true rfl)⟩ ml_X5_113 ci_X5_takes cv_X5_takes rfl (Nat.le_of_ble_eq_true rfl) (Nat.le_of_ble_eq_true rfl) rfl h (fun S15 h2 => ?_)
  replace h := h2
  clear h2
  refine zJ.aload_n (pc := 58) 0 dX5_comesBack_58 rfl rfl ?_
  refine zJ.aload_n (pc := 59) 0 dX5_comesBack_59 rfl rfl ?_
  refine zE.getV (pc := 60) (fd_23_6 o) ok_23 kiX5 (Nat.le_of_ble_eq_true rfl) fl_X5_28 dX5_comesBack_60 ?_
  refine zJ.bipush (pc := 63) (v := 16) dX5_comesBack_63 (by decide) ?_
  refine zG.callVv (d := mdX5_comesBack) (pc := 65) [.ref (z_adr o (30, 0, 0)), .int 16] [] (ob_23 o) ok_23 rfl dX5_comesBack_65 ⟨(cb_X5_takes).1, (cb_X5_takes).2, (Nat.le_of_ble_eq_true rfl), (Nat.le_of_ble_eq_true rfl)⟩ ml_X5_113 ci_X5_takes cv_X5_takes rfl (Nat.le_of_ble_eq_true rfl) (Nat.le_of_ble_eq_true rfl) rfl h (fun S18 h2 => ?_)
  replace h := h2
  clear h2
  refine zJ.aload_n (pc := 68) 0 dX5_comesBack_68 rfl rfl ?_
  refine zJ.aload_n (pc := 69) 0 dX5_comesBack_69 rfl rfl ?_
  refine zE.getV (pc := 70) (fd_23_7 o) ok_23 kiX5 (Nat.le_of_ble_eq_true rfl) fl_X5_31 dX5_comesBack_70 ?_
  refine zJ.iconst (pc := 73) (v := 4) dX5_comesBack_73 (by decide) ?_
  refine zG.callVv (d := mdX5_comesBack) (pc := 74) [.ref (z_adr o (31, 0, 0)), .int 4] [] (ob_23 o) ok_23 rfl dX5_comesBack_74 ⟨(cb_X5_takes).1, (cb_X5_takes).2, (Nat.le_of_ble_eq_true rfl), (Nat.le_of_ble_eq_true rfl)⟩ ml_X5_113 ci_X5_takes cv_X5_takes rfl (Nat.le_of_ble_eq_true rfl) (Nat.le_of_ble_eq_true rfl) rfl h (fun S21 h2 => ?_)
  replace h := h2
  clear h2
  refine zJ.aload_n (pc := 77) 0 dX5_comesBack_77 rfl rfl ?_
  refine zJ.aload_n (pc := 78) 0 dX5_comesBack_78 rfl rfl ?_
  refine zE.getV (pc := 79) (fd_23_8 o) ok_23 kiX5 (Nat.le_of_ble_eq_true rfl) fl_X5_34 dX5_comesBack_79 ?_
  refine zJ.bipush (pc := 82) (v := 12) dX5_comesBack_82 (by decide) ?_
  refine zG.callVv (d := mdX5_comesBack) (pc := 84) [.ref (z_adr o (32, 0, 0)), .int 12] [] (ob_23 o) ok_23 rfl dX5_comesBack_84 ⟨(cb_X5_takes).1, (cb_X5_takes).2, (Nat.le_of_ble_eq_true rfl), (Nat.le_of_ble_eq_true rfl)⟩ ml_X5_113 ci_X5_takes cv_X5_takes rfl (Nat.le_of_ble_eq_true rfl) (Nat.le_of_ble_eq_true rfl) rfl h (fun S24 h2 => ?_)
  replace h := h2
  clear h2
  refine zJ.aload_n (pc := 87) 0 dX5_comesBack_87 rfl rfl ?_
  refine zJ.aload_n (pc := 88) 0 dX5_comesBack_88 rfl rfl ?_
  refine zE.getV (pc := 89) (fd_23_9 o) ok_23 kiX5 (Nat.le_of_ble_eq_true rfl) fl_X5_37 dX5_comesBack_89 ?_
  refine zJ.iconst (pc := 92) (v := 4) dX5_comesBack_92 (by decide) ?_
  refine zG.callVv (d := mdX5_comesBack) (pc := 93) [.ref (z_adr o (33, 0, 0)), .int 4] [] (ob_23 o) ok_23 rfl dX5_comesBack_93 ⟨(cb_X5_takes).1, (cb_X5_takes).2, (Nat.le_of_ble_eq_true rfl), (Nat.le_of_ble_eq_true rfl)⟩ ml_X5_113 ci_X5_takes cv_X5_takes rfl (Nat.le_of_ble_eq_true rfl) (Nat.le_of_ble_eq_true rfl) rfl h (fun S27 h2 => ?_)
  replace h := h2
  clear h2
  refine zJ.aload_n (pc := 96) 0 dX5_comesBack_96 rfl rfl ?_
  refine zJ.aload_n (pc := 97) 0 dX5_comesBack_97 rfl rfl ?_
  refine zE.getV (pc := 98) (fd_23_10 o) ok_23 kiX5 (Nat.le_of_ble_eq_true rfl) fl_X5_40 dX5_comesBack_98 ?_
  refine zJ.bipush (pc := 101) (v := 16) dX5_comesBack_101 (by decide) ?_
  refine zG.callVv (d := mdX5_comesBack) (pc := 103) [.ref (z_adr o (34, 0, 0)), .int 16] [] (ob_23 o) ok_23 rfl dX5_comesBack_103 ⟨(cb_X5_takes).1, (cb_X5_takes).2, (Nat.le_of_ble_eq_true rfl), (Nat.le_of_ble_eq_true rfl)⟩ ml_X5_113 ci_X5_takes cv_X5_takes rfl (Nat.le_of_ble_eq_true rfl) (Nat.le_of_ble_eq_true rfl) rfl h (fun S30 h2 => ?_)
  replace h := h2
  clear h2
  refine zJ.aload_n (pc := 106) 0 dX5_comesBack_106 rfl rfl ?_
  refine zJ.aload_n (pc := 107) 0 dX5_comesBack_107 rfl rfl ?_
  refine zE.getV (pc := 108) (fd_23_11 o) ok_23 kiX5 (Nat.le_of_ble_eq_true rfl) fl_X5_43 dX5_comesBack_108 ?_
  refine zJ.bipush (pc := 111) (v := 64) dX5_comesBack_111 (by decide) ?_
  refine zG.callVv (d := mdX5_comesBack) (pc := 113) [.ref (z_adr o (35, 0, 0)), .int 64] [] (ob_23 o) ok_23 rfl dX5_comesBack_113 ⟨(cb_X5_takes).1, (cb_X5_takes).2, (Nat.le_of_ble_eq_true rfl), (Nat.le_of_ble_eq_true rfl)⟩ ml_X5_113 ci_X5_takes cv_X5_takes rfl (Nat.le_of_ble_eq_true rfl) (Nat.le_of_ble_eq_true rfl) rfl h (fun S33 h2 => ?_)
  replace h := h2
  clear h2
  refine zJ.aload_n (pc := 116) 0 dX5_comesBack_116 rfl rfl ?_
  refine zJ.aload_n (pc := 117) 0 dX5_comesBack_117 rfl rfl ?_
  refine zE.getV (pc := 118) (fd_23_12 o) ok_23 kiX5 (Nat.le_of_ble_eq_true rfl) fl_X5_46 dX5_comesBack_118 ?_
  refine zJ.bipush (pc := 121) (v := 64) dX5_comesBack_121 (by decide) ?_
  refine zG.callVv (d := mdX5_comesBack) (pc := 123) [.ref (z_adr o (36, 0, 0)), .int 64] [] (ob_23 o) ok_23 rfl dX5_comesBack_123 ⟨(cb_X5_takes).1, (cb_X5_takes).2, (Nat.le_of_ble_eq_true rfl), (Nat.le_of_ble_eq_true rfl)⟩ ml_X5_113 ci_X5_takes cv_X5_takes rfl (Nat.le_of_ble_eq_true rfl) (Nat.le_of_ble_eq_true rfl) rfl h (fun S36 h2 => ?_)
  replace h := h2
  clear h2
  refine zJ.aload_n (pc := 126) 0 dX5_comesBack_126 rfl rfl ?_
  refine zJ.aload_n (pc := 127) 0 dX5_comesBack_127 rfl rfl ?_
  refine zE.getV (pc := 128) (fd_23_13 o) ok_23 kiX5 (Nat.le_of_ble_eq_true rfl) fl_X5_49 dX5_comesBack_128 ?_
  refine zJ.bipush (pc := 131) (v := 64) dX5_comesBack_131 (by decide) ?_
  refine zG.callVv (d := mdX5_comesBack) (pc := 133) [.ref (z_adr o (37, 0, 0)), .int 64] [] (ob_23 o) ok_23 rfl dX5_comesBack_133 ⟨(cb_X5_takes).1, (cb_X5_takes).2, (Nat.le_of_ble_eq_true rfl), (Nat.le_of_ble_eq_true rfl)⟩ ml_X5_113 ci_X5_takes cv_X5_takes rfl (Nat.le_of_ble_eq_true rfl) (Nat.le_of_ble_eq_true rfl) rfl h (fun S39 h2 => ?_)
  replace h := h2
  clear h2
  refine zJ.aload_n (pc := 136) 0 dX5_comesBack_136 rfl rfl ?_
  refine zJ.aload_n (pc := 137) 0 dX5_comesBack_137 rfl rfl ?_
  refine zE.getV (pc := 138) (fd_23_14 o) ok_23 kiX5 (Nat.le_of_ble_eq_true rfl) fl_X5_52 dX5_comesBack_138 ?_
  refine zJ.bipush (pc := 141) (v := 64) dX5_comesBack_141 (by decide) ?_
  refine zG.callVv (d := mdX5_comesBack) (pc := 143) [.ref (z_adr o (38, 0, 0)), .int 64] [] (ob_23 o) ok_23 rfl dX5_comesBack_143 ⟨(cb_X5_takes).1, (cb_X5_takes).2, (Nat.le_of_ble_eq_true rfl), (Nat.le_of_ble_eq_true rfl)⟩ ml_X5_113 ci_X5_takes cv_X5_takes rfl (Nat.le_of_ble_eq_true rfl) (Nat.le_of_ble_eq_true rfl) rfl h (fun S42 h2 => ?_)
  replace h := h2
  clear h2
  refine zJ.aload_n (pc := 146) 0 dX5_comesBack_146 rfl rfl ?_
  refine zJ.aload_n (pc := 147) 0 dX5_comesBack_147 rfl rfl ?_
  refine zE.getV (pc := 148) (fd_23_15 o) ok_23 kiX5 (Nat.le_of_ble_eq_true rfl) fl_X5_55 dX5_comesBack_148 ?_
  refine zJ.iconst (pc := 151) (v := 3) dX5_comesBack_151 (by decide) ?_
  refine zG.callVv (d := mdX5_comesBack) (pc := 152) [.ref (z_adr o (39, 0, 0)), .int 3] [] (ob_23 o) ok_23 rfl dX5_comesBack_152 ⟨(cb_X5_takes).1, (cb_X5_takes).2, (Nat.le_of_ble_eq_true rfl), (Nat.le_of_ble_eq_true rfl)⟩ ml_X5_113 ci_X5_takes cv_X5_takes rfl (Nat.le_of_ble_eq_true rfl) (Nat.le_of_ble_eq_true rfl) rfl h (fun S45 h2 => ?_)
  replace h := h2
  clear h2
  refine zJ.aload_n (pc := 155) 0 dX5_comesBack_155 rfl rfl ?_
  refine zJ.aload_n (pc := 156) 0 dX5_comesBack_156 rfl rfl ?_
  refine zE.getV (pc := 157) (fd_23_16 o) ok_23 kiX5 (Nat.le_of_ble_eq_true rfl) fl_X5_58 dX5_comesBack_157 ?_
  refine zJ.bipush (pc := 160) (v := 10) dX5_comesBack_160 (by decide) ?_
  refine zG.callVv (d := mdX5_comesBack) (pc := 162) [.ref (z_adr o (40, 0, 0)), .int 10] [] (ob_23 o) ok_23 rfl dX5_comesBack_162 ⟨(cb_X5_takes).1, (cb_X5_takes).2, (Nat.le_of_ble_eq_true rfl), (Nat.le_of_ble_eq_true rfl)⟩ ml_X5_113 ci_X5_takes cv_X5_takes rfl (Nat.le_of_ble_eq_true rfl) (Nat.le_of_ble_eq_true rfl) rfl h (fun S48 h2 => ?_)
  replace h := h2
  clear h2
  refine zJ.aload_n (pc := 165) 0 dX5_comesBack_165 rfl rfl ?_
  refine zJ.aload_n (pc := 166) 0 dX5_comesBack_166 rfl rfl ?_
  refine zE.getV (pc := 167) (fd_23_17 o) ok_23 kiX5 (Nat.le_of_ble_eq_true rfl) fl_X5_61 dX5_comesBack_167 ?_
  refine zJ.sipush (pc := 170) (v := 200) dX5_comesBack_170 (by decide) ?_
  refine zG.callVv (d := mdX5_comesBack) (pc := 173) [.ref (z_adr o (41, 0, 0)), .int 200] [] (ob_23 o) ok_23 rfl dX5_comesBack_173 ⟨(cb_X5_takes).1, (cb_X5_takes).2, (Nat.le_of_ble_eq_true rfl), (Nat.le_of_ble_eq_true rfl)⟩ ml_X5_113 ci_X5_takes cv_X5_takes rfl (Nat.le_of_ble_eq_true rfl) (Nat.le_of_ble_eq_true rfl) rfl h (fun S51 h2 => ?_)
  replace h := h2
  clear h2
  refine zJ.aload_n (pc := 176) 0 dX5_comesBack_176 rfl rfl ?_
  refine zJ.aload_n (pc := 177) 0 dX5_comesBack_177 rfl rfl ?_
  refine zE.getV (pc := 178) (fd_23_18 o) ok_23 kiX5 (Nat.le_of_ble_eq_true rfl) fl_X5_64 dX5_comesBack_178 ?_
  refine zJ.sipush (pc := 181) (v := 200) dX5_comesBack_181 (by decide) ?_
  refine zG.callVv (d := mdX5_comesBack) (pc := 184) [.ref (z_adr o (42, 0, 0)), .int 200] [] (ob_23 o) ok_23 rfl dX5_comesBack_184 ⟨(cb_X5_takes).1, (cb_X5_takes).2, (Nat.le_of_ble_eq_true rfl), (Nat.le_of_ble_eq_true rfl)⟩ ml_X5_113 ci_X5_takes cv_X5_takes rfl (Nat.le_of_ble_eq_true rfl) (Nat.le_of_ble_eq_true rfl) rfl h (fun S54 h2 => ?_)
  replace h := h2
  clear h2
  refine zJ.aload_n (pc := 187) 0 dX5_comesBack_187 rfl rfl ?_
  refine zJ.aload_n (pc := 188) 0 dX5_comesBack_188 rfl rfl ?_
  refine zE.getV (pc := 189) (fd_23_19 o) ok_23 kiX5 (Nat.le_of_ble_eq_true rfl) fl_X5_67 dX5_comesBack_189 ?_
  refine zJ.sipush (pc := 192) (v := 200) dX5_comesBack_192 (by decide) ?_
  refine zG.callVv (d := mdX5_comesBack) (pc := 195) [.ref (z_adr o (43, 0, 0)), .int 200] [] (ob_23 o) ok_23 rfl dX5_comesBack_195 ⟨(cb_X5_takes).1, (cb_X5_takes).2, (Nat.le_of_ble_eq_true rfl), (Nat.le_of_ble_eq_true rfl)⟩ ml_X5_113 ci_X5_takes cv_X5_takes rfl (Nat.le_of_ble_eq_true rfl) (Nat.le_of_ble_eq_true rfl) rfl h (fun S57 h2 => ?_)
  replace h := h2
  clear h2
  refine zJ.aload_n (pc := 198) 0 dX5_comesBack_198 rfl rfl ?_
  refine zJ.aload_n (pc := 199) 0 dX5_comesBack_199 rfl rfl ?_
  refine zE.getV (pc := 200) (fd_23_25 o) ok_23 kiX5 (Nat.le_of_ble_eq_true rfl) fl_X5_73 dX5_comesBack_200 ?_
  refine zJ.iload_n (pc := 203) 1 dX5_comesBack_203 rfl rfl ?_
  obtain ⟨hq, h⟩ := h
  refine zE.aldF (pc := 204) (fa_45 o) ok_45 hq dX5_comesBack_204 ?_
  refine zE.putF (pc := 205) (fd_23_20 o) ok_23 kiX5 (Nat.le_of_ble_eq_true rfl) fl_X5_90 rfl rfl dX5_comesBack_205 ?_
  refine zJ.aload_n (pc := 208) 0 dX5_comesBack_208 rfl rfl ?_
  refine zJ.aload_n (pc := 209) 0 dX5_comesBack_209 rfl rfl ?_
  refine zE.getV (pc := 210) (fd_23_26 o) ok_23 kiX5 (Nat.le_of_ble_eq_true rfl) fl_X5_77 dX5_comesBack_210 ?_
  refine zJ.iload_n (pc := 213) 1 dX5_comesBack_213 rfl rfl ?_
  obtain ⟨hq, h⟩ := h
  refine zE.aldL (pc := 214) (la_46 o) ok_46 hq dX5_comesBack_214 ?_
  refine zE.putL (pc := 215) (fd_23_21 o) ok_23 kiX5 (Nat.le_of_ble_eq_true rfl) fl_X5_94 rfl rfl dX5_comesBack_215 ?_
  refine zJ.nameS (fun S58 hyS58 => ?_)
  replace h := h S58 hyS58
  refine zJ.aload_n (pc := 218) 0 dX5_comesBack_218 rfl rfl ?_
  refine zJ.aload_n (pc := 219) 0 dX5_comesBack_219 rfl rfl ?_
  refine zE.getV (pc := 220) (fd_23_27 o) ok_23 kiX5 (Nat.le_of_ble_eq_true rfl) fl_X5_81 dX5_comesBack_220 ?_
  refine zJ.iload_n (pc := 223) 1 dX5_comesBack_223 rfl rfl ?_
  obtain ⟨hq, h⟩ := h
  refine zE.aldL (pc := 224) (la_47 o) ok_47 hq dX5_comesBack_224 ?_
  refine zE.putL (pc := 225) (fd_23_22 o) ok_23 kiX5 (Nat.le_of_ble_eq_true rfl) fl_X5_98 rfl rfl dX5_comesBack_225 ?_
  exact zG.ret (pc := 228) (r := none) ⟨dX5_comesBack_228, rfl⟩ h
set_option maxRecDepth 100000 in
set_option maxHeartbeats 4000000 in
theorem w_X5_leavesState_0 (o : zW)  (S : zS) (Q : Option Value → zS → Prop) (h : (¬ (S.1 (23, 0, 0) 23) = 6 → (zGv o 994 mdX5_keeps [.ref (z_adr o (23, 0, 0)), .int (S.1 (23, 0, 0) 23)] S (fun S4 => Q none (sI S4 (23, 0, 0) 23 ((S4.1 (23, 0, 0) 23) + 1))))) ∧ ((S.1 (23, 0, 0) 23) = 6 → (zG o 994 mdX5_leavesState 11 [(0, .ref (z_adr o (23, 0, 0))), (1, .int 0)] [] S Q))) : zG o 994 mdX5_leavesState 0 [(0, .ref (z_adr o (23, 0, 0)))] [] S Q := by
  show zJ o mdX5_leavesState 0 _ [] (994, z_enc o S) 0 0 _
  refine zJ.aload_n (pc := 0) 0 dX5_leavesState_0 rfl rfl ?_
  refine zE.getI (pc := 1) (fd_23_23 o) ok_23 kiX5 (Nat.le_of_ble_eq_true rfl) fl_X5_116 dX5_leavesState_1 ?_
  refine zJ.bipush (pc := 4) (v := 6) dX5_leavesState_4 (by decide) ?_
  refine zJ.icmp_ne (pc := 6) (tgt := 105) dX5_leavesState_6 (by decide) (fun c1 => ?_) (fun c1 => ?_)
  · replace h := h.1 c1
    refine zJ.aload_n (pc := 105) 0 dX5_leavesState_105 rfl rfl ?_
    refine zJ.aload_n (pc := 106) 0 dX5_leavesState_106 rfl rfl ?_
    refine zE.getI (pc := 107) (fd_23_23 o) ok_23 kiX5 (Nat.le_of_ble_eq_true rfl) fl_X5_116 dX5_leavesState_107 ?_
    refine zG.callVv (d := mdX5_leavesState) (pc := 110) [.int (S.1 (23, 0, 0) 23)] [] (ob_23 o) ok_23 rfl dX5_leavesState_110 ⟨(cb_X5_keeps).1, (cb_X5_keeps).2, (Nat.le_of_ble_eq_true rfl), (Nat.le_of_ble_eq_true rfl)⟩ ml_X5_119 ci_X5_keeps cv_X5_keeps rfl (Nat.le_of_ble_eq_true rfl) (Nat.le_of_ble_eq_true rfl) rfl h (fun S4 h2 => ?_)
    replace h := h2
    clear h2
    refine zJ.aload_n (pc := 113) 0 dX5_leavesState_113 rfl rfl ?_
    refine zJ.dup (pc := 114) dX5_leavesState_114 rfl ?_
    refine zE.getI (pc := 115) (fd_23_23 o) ok_23 kiX5 (Nat.le_of_ble_eq_true rfl) fl_X5_116 dX5_leavesState_115 ?_
    refine zJ.iconst (pc := 118) (v := 1) dX5_leavesState_118 (by decide) ?_
    refine zJ.iadd (pc := 119) dX5_leavesState_119 ?_
    refine zE.putI (pc := 120) (fd_23_23 o) ok_23 kiX5 (Nat.le_of_ble_eq_true rfl) fl_X5_116 rfl rfl dX5_leavesState_120 ?_
    exact zG.ret (pc := 123) (r := none) ⟨dX5_leavesState_123, rfl⟩ h
  · replace h := h.2 c1
    refine zJ.iconst (pc := 9) (v := 0) dX5_leavesState_9 (by decide) ?_
    refine zJ.istore_n (pc := 10) (lv' := [(1, .int 0), (0, .ref (z_adr o (23, 0, 0)))]) dX5_leavesState_10 rfl (Nat.le_of_ble_eq_true rfl) rfl ?_
    exact zJ.sub [1, 0] rfl h
set_option maxRecDepth 100000 in
set_option maxHeartbeats 4000000 in
theorem w_X5_leavesState_11 (o : zW) (x1 : Int32) (S : zS) (Q : Option Value → zS → Prop) (h : (6500 ≤ x1 → (zG o 994 mdX5_leavesState 42 [(0, .ref (z_adr o (23, 0, 0))), (1, .int 0)] [] S Q)) ∧ (¬ 6500 ≤ x1 → (vp_in (x1 + 1300) 9100 ∧ (vp_in x1 9100 ∧ (∀ S2 : zS, S2 = (sI S (44, 0, 0) (x1.toNatClampNeg) (S.1 (44, 0, 0) ((x1 + 1300).toNatClampNeg))) → (zG o 994 mdX5_leavesState 11 [(0, .ref (z_adr o (23, 0, 0))), (1, .int (x1 + 1))] [] S2 Q)))))) : zG o 994 mdX5_leavesState 11 [(0, .ref (z_adr o (23, 0, 0))), (1, .int x1)] [] S Q := by
  show zJ o mdX5_leavesState 11 _ [] (994, z_enc o S) 0 0 _
  refine zJ.iload_n (pc := 11) 1 dX5_leavesState_11 rfl rfl ?_
  refine zJ.sipush (pc := 12) (v := 6500) dX5_leavesState_12 (by decide) ?_
  refine zJ.icmp_ge (pc := 15) (tgt := 40) dX5_leavesState_15 (by decide) (fun c1 => ?_) (fun c1 => ?_)
  · replace h := h.1 c1
    refine zJ.iconst (pc := 40) (v := 0) dX5_leavesState_40 (by decide) ?_
    refine zJ.istore_n (pc := 41) (lv' := [(1, .int 0), (0, .ref (z_adr o (23, 0, 0)))]) dX5_leavesState_41 rfl (Nat.le_of_ble_eq_true rfl) rfl ?_
    exact zJ.sub [1, 0] rfl h
  · replace h := h.2 c1
    refine zJ.aload_n (pc := 18) 0 dX5_leavesState_18 rfl rfl ?_
    refine zE.getV (pc := 19) (fd_23_24 o) ok_23 kiX5 (Nat.le_of_ble_eq_true rfl) fl_X5_70 dX5_leavesState_19 ?_
    refine zJ.iload_n (pc := 22) 1 dX5_leavesState_22 rfl rfl ?_
    refine zJ.aload_n (pc := 23) 0 dX5_leavesState_23 rfl rfl ?_
    refine zE.getV (pc := 24) (fd_23_24 o) ok_23 kiX5 (Nat.le_of_ble_eq_true rfl) fl_X5_70 dX5_leavesState_24 ?_
    refine zJ.iload_n (pc := 27) 1 dX5_leavesState_27 rfl rfl ?_
    refine zJ.sipush (pc := 28) (v := 1300) dX5_leavesState_28 (by decide) ?_
    refine zJ.iadd (pc := 31) dX5_leavesState_31 ?_
    obtain ⟨hq, h⟩ := h
    refine zE.aldI (pc := 32) (ia_44 o) ok_44 hq dX5_leavesState_32 ?_
    obtain ⟨hq, h⟩ := h
    refine zE.astI (pc := 33) (ia_44 o) ok_44 hq dX5_leavesState_33 ?_
    refine zJ.nameS (fun S2 hyS2 => ?_)
    replace h := h S2 hyS2
    refine zJ.iinc (pc := 34) (k := 1) (lv' := [(1, .int (x1 + 1)), (0, .ref (z_adr o (23, 0, 0)))]) dX5_leavesState_34 rfl rfl (Nat.le_of_ble_eq_true rfl) rfl ?_
    refine zJ.goto (pc := 37) (tgt := 11) dX5_leavesState_37 (by decide) ?_
    exact zJ.sub [1, 0] rfl h
set_option maxRecDepth 100000 in
set_option maxHeartbeats 4000000 in
theorem w_X5_leavesState_42 (o : zW) (x1 : Int32) (S : zS) (Q : Option Value → zS → Prop) (h : (5 ≤ x1 → (∀ y2 : Int32, y2 = ((sI S (23, 0, 0) 23 ((S.1 (23, 0, 0) 23) - 1)).1 (23, 0, 0) 23) → (zGv o 994 mdX5_keeps [.ref (z_adr o (23, 0, 0)), .int y2] (sI S (23, 0, 0) 23 ((S.1 (23, 0, 0) 23) - 1)) (fun S5 => Q none (sI S5 (23, 0, 0) 23 ((S5.1 (23, 0, 0) 23) + 1)))))) ∧ (¬ 5 ≤ x1 → (vp_in (x1 + 1) 7 ∧ (vp_in x1 7 ∧ (∀ S6 : zS, S6 = (sF S (45, 0, 0) (x1.toNatClampNeg) (S.2.2 (45, 0, 0) ((x1 + 1).toNatClampNeg))) → (vp_in (x1 + 1) 7 ∧ (vp_in x1 7 ∧ (∀ S7 : zS, S7 = (sL S6 (46, 0, 0) (x1.toNatClampNeg) (S6.2.1 (46, 0, 0) ((x1 + 1).toNatClampNeg))) → (vp_in (x1 + 1) 7 ∧ (vp_in x1 7 ∧ (∀ S8 : zS, S8 = (sL S7 (47, 0, 0) (x1.toNatClampNeg) (S7.2.1 (47, 0, 0) ((x1 + 1).toNatClampNeg))) → (zG o 994 mdX5_leavesState 42 [(0, .ref (z_adr o (23, 0, 0))), (1, .int (x1 + 1))] [] S8 Q)))))))))))) : zG o 994 mdX5_leavesState 42 [(0, .ref (z_adr o (23, 0, 0))), (1, .int x1)] [] S Q := by
  show zJ o mdX5_leavesState 42 _ [] (994, z_enc o S) 0 0 _
  refine zJ.iload_n (pc := 42) 1 dX5_leavesState_42 rfl rfl ?_
  refine zJ.iconst (pc := 43) (v := 5) dX5_leavesState_43 (by decide) ?_
  refine zJ.icmp_ge (pc := 44) (tgt := 95) dX5_leavesState_44 (by decide) (fun c1 => ?_) (fun c1 => ?_)
  · replace h := h.1 c1
    refine zJ.aload_n (pc := 95) 0 dX5_leavesState_95 rfl rfl ?_
    refine zJ.dup (pc := 96) dX5_leavesState_96 rfl ?_
    refine zE.getI (pc := 97) (fd_23_23 o) ok_23 kiX5 (Nat.le_of_ble_eq_true rfl) fl_X5_116 dX5_leavesState_97 ?_
    refine zJ.iconst (pc := 100) (v := 1) dX5_leavesState_100 (by decide) ?_
    refine zJ.isub (pc := 101) dX5_leavesState_101 ?_
    refine zE.putI (pc := 102) (fd_23_23 o) ok_23 kiX5 (Nat.le_of_ble_eq_true rfl) fl_X5_116 rfl rfl dX5_leavesState_102 ?_
    refine zJ.aload_n (pc := 105) 0 dX5_leavesState_105 rfl rfl ?_
    refine zJ.aload_n (pc := 106) 0 dX5_leavesState_106 rfl rfl ?_
    refine zE.getI (pc := 107) (fd_23_23 o) ok_23 kiX5 (Nat.le_of_ble_eq_true rfl) fl_X5_116 dX5_leavesState_107 ?_
    refine zJ.topi (fun y2 hyy2 => ?_)
    replace h := h y2 hyy2
    refine zG.callVv (d := mdX5_leavesState) (pc := 110) [.int y2] [] (ob_23 o) ok_23 rfl dX5_leavesState_110 ⟨(cb_X5_keeps).1, (cb_X5_keeps).2, (Nat.le_of_ble_eq_true rfl), (Nat.le_of_ble_eq_true rfl)⟩ ml_X5_119 ci_X5_keeps cv_X5_keeps rfl (Nat.le_of_ble_eq_true rfl) (Nat.le_of_ble_eq_true rfl) rfl h (fun S5 h2 => ?_)
    replace h := h2
    clear h2
    refine zJ.aload_n (pc := 113) 0 dX5_leavesState_113 rfl rfl ?_
    refine zJ.dup (pc := 114) dX5_leavesState_114 rfl ?_
    refine zE.getI (pc := 115) (fd_23_23 o) ok_23 kiX5 (Nat.le_of_ble_eq_true rfl) fl_X5_116 dX5_leavesState_115 ?_
    refine zJ.iconst (pc := 118) (v := 1) dX5_leavesState_118 (by decide) ?_
    refine zJ.iadd (pc := 119) dX5_leavesState_119 ?_
    refine zE.putI (pc := 120) (fd_23_23 o) ok_23 kiX5 (Nat.le_of_ble_eq_true rfl) fl_X5_116 rfl rfl dX5_leavesState_120 ?_
    exact zG.ret (pc := 123) (r := none) ⟨dX5_leavesState_123, rfl⟩ h
  · replace h := h.2 c1
    refine zJ.aload_n (pc := 47) 0 dX5_leavesState_47 rfl rfl ?_
    refine zE.getV (pc := 48) (fd_23_25 o) ok_23 kiX5 (Nat.le_of_ble_eq_true rfl) fl_X5_73 dX5_leavesState_48 ?_
    refine zJ.iload_n (pc := 51) 1 dX5_leavesState_51 rfl rfl ?_
    refine zJ.aload_n (pc := 52) 0 dX5_leavesState_52 rfl rfl ?_
    refine zE.getV (pc := 53) (fd_23_25 o) ok_23 kiX5 (Nat.le_of_ble_eq_true rfl) fl_X5_73 dX5_leavesState_53 ?_
    refine zJ.iload_n (pc := 56) 1 dX5_leavesState_56 rfl rfl ?_
    refine zJ.iconst (pc := 57) (v := 1) dX5_leavesState_57 (by decide) ?_
    refine zJ.iadd (pc := 58) dX5_leavesState_58 ?_
    obtain ⟨hq, h⟩ := h
    refine zE.aldF (pc := 59) (fa_45 o) ok_45 hq dX5_leavesState_59 ?_
    obtain ⟨hq, h⟩ := h
    refine zE.astF (pc := 60) (fa_45 o) ok_45 hq dX5_leavesState_60 ?_
    refine zJ.nameS (fun S6 hyS6 => ?_)
    replace h := h S6 hyS6
    refine zJ.aload_n (pc := 61) 0 dX5_leavesState_61 rfl rfl ?_
    refine zE.getV (pc := 62) (fd_23_26 o) ok_23 kiX5 (Nat.le_of_ble_eq_true rfl) fl_X5_77 dX5_leavesState_62 ?_
    refine zJ.iload_n (pc := 65) 1 dX5_leavesState_65 rfl rfl ?_
    refine zJ.aload_n (pc := 66) 0 dX5_leavesState_66 rfl rfl ?_
    refine zE.getV (pc := 67) (fd_23_26 o) ok_23 kiX5 (Nat.le_of_ble_eq_true rfl) fl_X5_77 dX5_leavesState_67 ?_
    refine zJ.iload_n (pc := 70) 1 dX5_leavesState_70 rfl rfl ?_
    refine zJ.iconst (pc := 71) (v := 1) dX5_leavesState_71 (by decide) ?_
    refine zJ.iadd (pc := 72) dX5_leavesState_72 ?_
    obtain ⟨hq, h⟩ := h
    refine zE.aldL (pc := 73) (la_46 o) ok_46 hq dX5_leavesState_73 ?_
    obtain ⟨hq, h⟩ := h
    refine zE.astL (pc := 74) (la_46 o) ok_46 hq dX5_leavesState_74 ?_
    refine zJ.nameS (fun S7 hyS7 => ?_)
    replace h := h S7 hyS7
    refine zJ.aload_n (pc := 75) 0 dX5_leavesState_75 rfl rfl ?_
    refine zE.getV (pc := 76) (fd_23_27 o) ok_23 kiX5 (Nat.le_of_ble_eq_true rfl) fl_X5_81 dX5_leavesState_76 ?_
    refine zJ.iload_n (pc := 79) 1 dX5_leavesState_79 rfl rfl ?_
    refine zJ.aload_n (pc := 80) 0 dX5_leavesState_80 rfl rfl ?_
    refine zE.getV (pc := 81) (fd_23_27 o) ok_23 kiX5 (Nat.le_of_ble_eq_true rfl) fl_X5_81 dX5_leavesState_81 ?_
    refine zJ.iload_n (pc := 84) 1 dX5_leavesState_84 rfl rfl ?_
    refine zJ.iconst (pc := 85) (v := 1) dX5_leavesState_85 (by decide) ?_
    refine zJ.iadd (pc := 86) dX5_leavesState_86 ?_
    obtain ⟨hq, h⟩ := h
    refine zE.aldL (pc := 87) (la_47 o) ok_47 hq dX5_leavesState_87 ?_
    obtain ⟨hq, h⟩ := h
    refine zE.astL (pc := 88) (la_47 o) ok_47 hq dX5_leavesState_88 ?_
    refine zJ.nameS (fun S8 hyS8 => ?_)
    replace h := h S8 hyS8
    refine zJ.iinc (pc := 89) (k := 1) (lv' := [(1, .int (x1 + 1)), (0, .ref (z_adr o (23, 0, 0)))]) dX5_leavesState_89 rfl rfl (Nat.le_of_ble_eq_true rfl) rfl ?_
    refine zJ.goto (pc := 92) (tgt := 42) dX5_leavesState_92 (by decide) ?_
    exact zJ.sub [1, 0] rfl h
set_option maxRecDepth 100000 in
set_option maxHeartbeats 4000000 in
theorem w_X5_back_0 (o : zW)  (S : zS) (Q : Option Value → zS → Prop) (h : (¬ (S.1 (23, 0, 0) 23) = 0 → (∀ y2 : Int32, y2 = ((sI S (23, 0, 0) 23 ((S.1 (23, 0, 0) 23) - 1)).1 (23, 0, 0) 23) → (zGv o 994 mdX5_comesBack [.ref (z_adr o (23, 0, 0)), .int y2] (sI S (23, 0, 0) 23 ((S.1 (23, 0, 0) 23) - 1)) (fun S5 => Q (some (.int (S5.1 (23, 0, 0) 23))) S5)))) ∧ ((S.1 (23, 0, 0) 23) = 0 → (Q (some (.int (-3))) (sI S (24, 0, 0) 1 ((S.1 (24, 0, 0) 1) + 1))))) : zG o 994 mdX5_back 0 [(0, .ref (z_adr o (23, 0, 0)))] [] S Q := by
  show zJ o mdX5_back 0 _ [] (994, z_enc o S) 0 0 _
  refine zJ.aload_n (pc := 0) 0 dX5_back_0 rfl rfl ?_
  refine zE.getI (pc := 1) (fd_23_23 o) ok_23 kiX5 (Nat.le_of_ble_eq_true rfl) fl_X5_116 dX5_back_1 ?_
  refine zJ.if_ne (pc := 4) (tgt := 20) dX5_back_4 (by decide) (fun c1 => ?_) (fun c1 => ?_)
  · replace h := h.1 c1
    refine zJ.aload_n (pc := 20) 0 dX5_back_20 rfl rfl ?_
    refine zJ.dup (pc := 21) dX5_back_21 rfl ?_
    refine zE.getI (pc := 22) (fd_23_23 o) ok_23 kiX5 (Nat.le_of_ble_eq_true rfl) fl_X5_116 dX5_back_22 ?_
    refine zJ.iconst (pc := 25) (v := 1) dX5_back_25 (by decide) ?_
    refine zJ.isub (pc := 26) dX5_back_26 ?_
    refine zE.putI (pc := 27) (fd_23_23 o) ok_23 kiX5 (Nat.le_of_ble_eq_true rfl) fl_X5_116 rfl rfl dX5_back_27 ?_
    refine zJ.aload_n (pc := 30) 0 dX5_back_30 rfl rfl ?_
    refine zJ.aload_n (pc := 31) 0 dX5_back_31 rfl rfl ?_
    refine zE.getI (pc := 32) (fd_23_23 o) ok_23 kiX5 (Nat.le_of_ble_eq_true rfl) fl_X5_116 dX5_back_32 ?_
    refine zJ.topi (fun y2 hyy2 => ?_)
    replace h := h y2 hyy2
    refine zG.callVv (d := mdX5_back) (pc := 35) [.int y2] [] (ob_23 o) ok_23 rfl dX5_back_35 ⟨(cb_X5_comesBack).1, (cb_X5_comesBack).2, (Nat.le_of_ble_eq_true rfl), (Nat.le_of_ble_eq_true rfl)⟩ ml_X5_123 ci_X5_comesBack cv_X5_comesBack rfl (Nat.le_of_ble_eq_true rfl) (Nat.le_of_ble_eq_true rfl) rfl h (fun S5 h2 => ?_)
    replace h := h2
    clear h2
    refine zJ.aload_n (pc := 38) 0 dX5_back_38 rfl rfl ?_
    refine zE.getI (pc := 39) (fd_23_23 o) ok_23 kiX5 (Nat.le_of_ble_eq_true rfl) fl_X5_116 dX5_back_39 ?_
    exact zG.ret (pc := 42) (r := some (.int (S5.1 (23, 0, 0) 23))) ⟨dX5_back_42, _, rfl, rfl⟩ h
  · replace h := h.2 c1
    refine zJ.aload_n (pc := 7) 0 dX5_back_7 rfl rfl ?_
    refine zE.getV (pc := 8) (fd_23_0 o) ok_23 kiX5 (Nat.le_of_ble_eq_true rfl) fl_X5_1 dX5_back_8 ?_
    refine zJ.iconst (pc := 11) (v := 1) dX5_back_11 (by decide) ?_
    refine zJ.dup2_11 (pc := 12) dX5_back_12 rfl rfl ?_
    refine zE.aldI (pc := 13) (ia_24 o) ok_24 (by unfold vp_in; decide) dX5_back_13 ?_
    refine zJ.iconst (pc := 14) (v := 1) dX5_back_14 (by decide) ?_
    refine zJ.iadd (pc := 15) dX5_back_15 ?_
    refine zE.astI (pc := 16) (ia_24 o) ok_24 (by unfold vp_in; decide) dX5_back_16 ?_
    refine zJ.bipush (pc := 17) (v := (-3)) dX5_back_17 (by decide) ?_
    exact zG.ret (pc := 19) (r := some (.int (-3))) ⟨dX5_back_19, _, rfl, rfl⟩ h
set_option maxRecDepth 100000 in
set_option maxHeartbeats 4000000 in
theorem w_X5_may_0 (o : zW) (x0 : Int32) (x1 : Int32) (S : zS) (Q : Option Value → zS → Prop) (h : (x0 = 0 → (zGi o 994 mdX5_in [.int x1, .int 1, .int 3] S (fun r2 S3 => narrow .boolean (.int r2) = .int r2 ∧ Q (some (.int r2)) S3))) ∧ (x0 = 1 → (zGi o 994 mdX5_in [.int x1, .int 0, .int 3] S (fun r5 S6 => narrow .boolean (.int r5) = .int r5 ∧ Q (some (.int r5)) S6))) ∧ (x0 = 4 → (zGi o 994 mdX5_in [.int x1, .int 1, .int 20] S (fun r8 S9 => narrow .boolean (.int r8) = .int r8 ∧ Q (some (.int r8)) S9))) ∧ (¬ x0 = 0 → ¬ x0 = 1 → ¬ x0 = 4 → (zGi o 994 mdX5_in [.int x0, .int 2, .int 3] S (fun r11 S12 => (r11 = 0 → (Q (some (.int 0)) S12)) ∧ (¬ r11 = 0 → (zGi o 994 mdX5_in [.int x1, .int 1, .int 4] S12 (fun r15 S16 => (r15 = 0 → (Q (some (.int 0)) S16)) ∧ (¬ r15 = 0 → (Q (some (.int 1)) S16))))))))) : zG o 994 mdX5_may 0 [(0, .int x0), (1, .int x1)] [] S Q := by
  show zJ o mdX5_may 0 _ [] (994, z_enc o S) 0 0 _
  refine zJ.iload_n (pc := 0) 0 dX5_may_0 rfl rfl ?_
  by_cases q0 : x0 = 0
  · replace h := h.1 q0
    refine zJ.tableIn (pc := 1) (tgt := 36) dX5_may_1 (by rw [q0]; decide) (by rw [q0]; decide) (by rw [q0]; rfl) (by decide) ?_
    refine zJ.iload_n (pc := 36) 1 dX5_may_36 rfl rfl ?_
    refine zJ.iconst (pc := 37) (v := 1) dX5_may_37 (by decide) ?_
    refine zJ.iconst (pc := 38) (v := 3) dX5_may_38 (by decide) ?_
    refine zG.callSi (d := mdX5_may) (pc := 39) [.int x1, .int 1, .int 3] [] dX5_may_39 ⟨(cb_X5_in).1, (cb_X5_in).2, (Nat.le_of_ble_eq_true rfl), (Nat.le_of_ble_eq_true rfl)⟩ ml_X5_101 cs_X5_in rfl (Nat.le_of_ble_eq_true rfl) (Nat.le_of_ble_eq_true rfl) rfl h (fun r2 S3 h2 => ?_)
    replace h := h2
    clear h2
    exact zG.ret (pc := 42) (r := some (.int r2)) ⟨dX5_may_42, _, rfl, h.1⟩ h.2
  by_cases q1 : x0 = 1
  · replace h := h.2.1 q1
    refine zJ.tableIn (pc := 1) (tgt := 43) dX5_may_1 (by rw [q1]; decide) (by rw [q1]; decide) (by rw [q1]; rfl) (by decide) ?_
    refine zJ.iload_n (pc := 43) 1 dX5_may_43 rfl rfl ?_
    refine zJ.iconst (pc := 44) (v := 0) dX5_may_44 (by decide) ?_
    refine zJ.iconst (pc := 45) (v := 3) dX5_may_45 (by decide) ?_
    refine zG.callSi (d := mdX5_may) (pc := 46) [.int x1, .int 0, .int 3] [] dX5_may_46 ⟨(cb_X5_in).1, (cb_X5_in).2, (Nat.le_of_ble_eq_true rfl), (Nat.le_of_ble_eq_true rfl)⟩ ml_X5_101 cs_X5_in rfl (Nat.le_of_ble_eq_true rfl) (Nat.le_of_ble_eq_true rfl) rfl h (fun r5 S6 h2 => ?_)
    replace h := h2
    clear h2
    exact zG.ret (pc := 49) (r := some (.int r5)) ⟨dX5_may_49, _, rfl, h.1⟩ h.2
  by_cases q4 : x0 = 4
  · replace h := h.2.2.1 q4
    refine zJ.tableIn (pc := 1) (tgt := 50) dX5_may_1 (by rw [q4]; decide) (by rw [q4]; decide) (by rw [q4]; rfl) (by decide) ?_
    refine zJ.iload_n (pc := 50) 1 dX5_may_50 rfl rfl ?_
    refine zJ.iconst (pc := 51) (v := 1) dX5_may_51 (by decide) ?_
    refine zJ.bipush (pc := 52) (v := 20) dX5_may_52 (by decide) ?_
    refine zG.callSi (d := mdX5_may) (pc := 54) [.int x1, .int 1, .int 20] [] dX5_may_54 ⟨(cb_X5_in).1, (cb_X5_in).2, (Nat.le_of_ble_eq_true rfl), (Nat.le_of_ble_eq_true rfl)⟩ ml_X5_101 cs_X5_in rfl (Nat.le_of_ble_eq_true rfl) (Nat.le_of_ble_eq_true rfl) rfl h (fun r8 S9 h2 => ?_)
    replace h := h2
    clear h2
    exact zG.ret (pc := 57) (r := some (.int r8)) ⟨dX5_may_57, _, rfl, h.1⟩ h.2
  replace h := h.2.2.2 q0 q1 q4
  by_cases q2 : x0 = 2
  · refine zJ.tableIn (pc := 1) (tgt := 58) dX5_may_1 (by rw [q2]; decide) (by rw [q2]; decide) (by rw [q2]; rfl) (by decide) ?_
    refine zJ.iload_n (pc := 58) 0 dX5_may_58 rfl rfl ?_
    refine zJ.iconst (pc := 59) (v := 2) dX5_may_59 (by decide) ?_
    refine zJ.iconst (pc := 60) (v := 3) dX5_may_60 (by decide) ?_
    refine zG.callSi (d := mdX5_may) (pc := 61) [.int x0, .int 2, .int 3] [] dX5_may_61 ⟨(cb_X5_in).1, (cb_X5_in).2, (Nat.le_of_ble_eq_true rfl), (Nat.le_of_ble_eq_true rfl)⟩ ml_X5_101 cs_X5_in rfl (Nat.le_of_ble_eq_true rfl) (Nat.le_of_ble_eq_true rfl) rfl h (fun r11 S12 h2 => ?_)
    replace h := h2
    clear h2
    refine zJ.if_eq (pc := 64) (tgt := 80) dX5_may_64 (by decide) (fun c13 => ?_) (fun c13 => ?_)
    · replace h := h.1 c13
      refine zJ.iconst (pc := 80) (v := 0) dX5_may_80 (by decide) ?_
      exact zG.ret (pc := 81) (r := some (.int 0)) ⟨dX5_may_81, _, rfl, rfl⟩ h
    · replace h := h.2 c13
      refine zJ.iload_n (pc := 67) 1 dX5_may_67 rfl rfl ?_
      refine zJ.iconst (pc := 68) (v := 1) dX5_may_68 (by decide) ?_
      refine zJ.iconst (pc := 69) (v := 4) dX5_may_69 (by decide) ?_
      refine zG.callSi (d := mdX5_may) (pc := 70) [.int x1, .int 1, .int 4] [] dX5_may_70 ⟨(cb_X5_in).1, (cb_X5_in).2, (Nat.le_of_ble_eq_true rfl), (Nat.le_of_ble_eq_true rfl)⟩ ml_X5_101 cs_X5_in rfl (Nat.le_of_ble_eq_true rfl) (Nat.le_of_ble_eq_true rfl) rfl h (fun r15 S16 h2 => ?_)
      replace h := h2
      clear h2
      refine zJ.if_eq (pc := 73) (tgt := 80) dX5_may_73 (by decide) (fun c17 => ?_) (fun c17 => ?_)
      · replace h := h.1 c17
        refine zJ.iconst (pc := 80) (v := 0) dX5_may_80 (by decide) ?_
        exact zG.ret (pc := 81) (r := some (.int 0)) ⟨dX5_may_81, _, rfl, rfl⟩ h
      · replace h := h.2 c17
        refine zJ.iconst (pc := 76) (v := 1) dX5_may_76 (by decide) ?_
        refine zJ.goto (pc := 77) (tgt := 81) dX5_may_77 (by decide) ?_
        exact zG.ret (pc := 81) (r := some (.int 1)) ⟨dX5_may_81, _, rfl, rfl⟩ h
  by_cases q3 : x0 = 3
  · refine zJ.tableIn (pc := 1) (tgt := 58) dX5_may_1 (by rw [q3]; decide) (by rw [q3]; decide) (by rw [q3]; rfl) (by decide) ?_
    refine zJ.iload_n (pc := 58) 0 dX5_may_58 rfl rfl ?_
    refine zJ.iconst (pc := 59) (v := 2) dX5_may_59 (by decide) ?_
    refine zJ.iconst (pc := 60) (v := 3) dX5_may_60 (by decide) ?_
    refine zG.callSi (d := mdX5_may) (pc := 61) [.int x0, .int 2, .int 3] [] dX5_may_61 ⟨(cb_X5_in).1, (cb_X5_in).2, (Nat.le_of_ble_eq_true rfl), (Nat.le_of_ble_eq_true rfl)⟩ ml_X5_101 cs_X5_in rfl (Nat.le_of_ble_eq_true rfl) (Nat.le_of_ble_eq_true rfl) rfl h (fun r11 S12 h2 => ?_)
    replace h := h2
    clear h2
    refine zJ.if_eq (pc := 64) (tgt := 80) dX5_may_64 (by decide) (fun c13 => ?_) (fun c13 => ?_)
    · replace h := h.1 c13
      refine zJ.iconst (pc := 80) (v := 0) dX5_may_80 (by decide) ?_
      exact zG.ret (pc := 81) (r := some (.int 0)) ⟨dX5_may_81, _, rfl, rfl⟩ h
    · replace h := h.2 c13
      refine zJ.iload_n (pc := 67) 1 dX5_may_67 rfl rfl ?_
      refine zJ.iconst (pc := 68) (v := 1) dX5_may_68 (by decide) ?_
      refine zJ.iconst (pc := 69) (v := 4) dX5_may_69 (by decide) ?_
      refine zG.callSi (d := mdX5_may) (pc := 70) [.int x1, .int 1, .int 4] [] dX5_may_70 ⟨(cb_X5_in).1, (cb_X5_in).2, (Nat.le_of_ble_eq_true rfl), (Nat.le_of_ble_eq_true rfl)⟩ ml_X5_101 cs_X5_in rfl (Nat.le_of_ble_eq_true rfl) (Nat.le_of_ble_eq_true rfl) rfl h (fun r15 S16 h2 => ?_)
      replace h := h2
      clear h2
      refine zJ.if_eq (pc := 73) (tgt := 80) dX5_may_73 (by decide) (fun c17 => ?_) (fun c17 => ?_)
      · replace h := h.1 c17
        refine zJ.iconst (pc := 80) (v := 0) dX5_may_80 (by decide) ?_
        exact zG.ret (pc := 81) (r := some (.int 0)) ⟨dX5_may_81, _, rfl, rfl⟩ h
      · replace h := h.2 c17
        refine zJ.iconst (pc := 76) (v := 1) dX5_may_76 (by decide) ?_
        refine zJ.goto (pc := 77) (tgt := 81) dX5_may_77 (by decide) ?_
        exact zG.ret (pc := 81) (r := some (.int 1)) ⟨dX5_may_81, _, rfl, rfl⟩ h
  refine zJ.tableOut (pc := 1) (tgt := 58) dX5_may_1 (z_swe (lo := 0) (k := 4) (by decide) (fun j hl hj => ?_)) (by decide) ?_
  · rcases (show j = 0 ∨ j = 1 ∨ j = 2 ∨ j = 3 ∨ j = 4 by omega) with rfl | rfl | rfl | rfl | rfl
    · exact q0
    · exact q1
    · exact q2
    · exact q3
    · exact q4
  · refine zJ.iload_n (pc := 58) 0 dX5_may_58 rfl rfl ?_
    refine zJ.iconst (pc := 59) (v := 2) dX5_may_59 (by decide) ?_
    refine zJ.iconst (pc := 60) (v := 3) dX5_may_60 (by decide) ?_
    refine zG.callSi (d := mdX5_may) (pc := 61) [.int x0, .int 2, .int 3] [] dX5_may_61 ⟨(cb_X5_in).1, (cb_X5_in).2, (Nat.le_of_ble_eq_true rfl), (Nat.le_of_ble_eq_true rfl)⟩ ml_X5_101 cs_X5_in rfl (Nat.le_of_ble_eq_true rfl) (Nat.le_of_ble_eq_true rfl) rfl h (fun r11 S12 h2 => ?_)
    replace h := h2
    clear h2
    refine zJ.if_eq (pc := 64) (tgt := 80) dX5_may_64 (by decide) (fun c13 => ?_) (fun c13 => ?_)
    · replace h := h.1 c13
      refine zJ.iconst (pc := 80) (v := 0) dX5_may_80 (by decide) ?_
      exact zG.ret (pc := 81) (r := some (.int 0)) ⟨dX5_may_81, _, rfl, rfl⟩ h
    · replace h := h.2 c13
      refine zJ.iload_n (pc := 67) 1 dX5_may_67 rfl rfl ?_
      refine zJ.iconst (pc := 68) (v := 1) dX5_may_68 (by decide) ?_
      refine zJ.iconst (pc := 69) (v := 4) dX5_may_69 (by decide) ?_
      refine zG.callSi (d := mdX5_may) (pc := 70) [.int x1, .int 1, .int 4] [] dX5_may_70 ⟨(cb_X5_in).1, (cb_X5_in).2, (Nat.le_of_ble_eq_true rfl), (Nat.le_of_ble_eq_true rfl)⟩ ml_X5_101 cs_X5_in rfl (Nat.le_of_ble_eq_true rfl) (Nat.le_of_ble_eq_true rfl) rfl h (fun r15 S16 h2 => ?_)
      replace h := h2
      clear h2
      refine zJ.if_eq (pc := 73) (tgt := 80) dX5_may_73 (by decide) (fun c17 => ?_) (fun c17 => ?_)
      · replace h := h.1 c17
        refine zJ.iconst (pc := 80) (v := 0) dX5_may_80 (by decide) ?_
        exact zG.ret (pc := 81) (r := some (.int 0)) ⟨dX5_may_81, _, rfl, rfl⟩ h
      · replace h := h.2 c17
        refine zJ.iconst (pc := 76) (v := 1) dX5_may_76 (by decide) ?_
        refine zJ.goto (pc := 77) (tgt := 81) dX5_may_77 (by decide) ?_
        exact zG.ret (pc := 81) (r := some (.int 1)) ⟨dX5_may_81, _, rfl, rfl⟩ h
