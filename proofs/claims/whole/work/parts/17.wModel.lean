set_option maxRecDepth 100000 in
set_option maxHeartbeats 4000000 in
theorem w_X5_bad_0 (o : zW)  (S : zS) (Q : Option Value → zS → Prop) (h : Q (some (.int (-2))) (sI S (24, 0, 0) 0 ((S.1 (24, 0, 0) 0) + 1))) : zG o 994 mdX5_bad 0 [(0, .ref (z_adr o (23, 0, 0)))] [] S Q := by
  show zJ o mdX5_bad 0 _ [] (994, z_enc o S) 0 0 _
  refine zJ.aload_n 0 dX5_bad_0 rfl rfl ?_
  refine zE.getV (fd_23_0 o) ok_23 kiX5 (Nat.le_of_ble_eq_true rfl) fl_X5_1 dX5_bad_1 ?_
  refine zJ.iconst (v := 0) dX5_bad_4 (by decide) ?_
  refine zJ.dup2_11 dX5_bad_5 rfl rfl ?_
  refine zE.aldI (ia_24 o) ok_24 (by unfold vp_in; decide) dX5_bad_6 ?_
  refine zJ.iconst (v := 1) dX5_bad_7 (by decide) ?_
  refine zJ.iadd dX5_bad_8 ?_
  refine zE.astI (ia_24 o) ok_24 (by unfold vp_in; decide) dX5_bad_9 ?_
  refine zJ.bipush (v := (-2)) dX5_bad_10 (by decide) ?_
  exact zG.ret (r := some (.int (-2))) ⟨dX5_bad_12, _, rfl, rfl⟩ h
set_option maxRecDepth 100000 in
set_option maxHeartbeats 4000000 in
theorem w_X5_in_0 (o : zW) (x0 : Int32) (x1 : Int32) (x2 : Int32) (S : zS) (Q : Option Value → zS → Prop) (h : (x0 < x1 → (Q (some (.int 0)) S)) ∧ (¬ x0 < x1 → ((x2 < x0 → (Q (some (.int 0)) S)) ∧ (¬ x2 < x0 → (Q (some (.int 1)) S))))) : zG o 994 mdX5_in 0 [(0, .int x0), (1, .int x1), (2, .int x2)] [] S Q := by
  show zJ o mdX5_in 0 _ [] (994, z_enc o S) 0 0 _
  refine zJ.iload_n 0 dX5_in_0 rfl rfl ?_
  refine zJ.iload_n 1 dX5_in_1 rfl rfl ?_
  refine zJ.icmp_lt (tgt := 14) dX5_in_2 (by decide) (fun c1 => ?_) (fun c1 => ?_)
  · replace h := h.1 c1
    refine zJ.iconst (v := 0) dX5_in_14 (by decide) ?_
    exact zG.ret (r := some (.int 0)) ⟨dX5_in_15, _, rfl, rfl⟩ h
  · replace h := h.2 c1
    refine zJ.iload_n 0 dX5_in_5 rfl rfl ?_
    refine zJ.iload_n 2 dX5_in_6 rfl rfl ?_
    refine zJ.icmp_gt (tgt := 14) dX5_in_7 (by decide) (fun c2 => ?_) (fun c2 => ?_)
    · replace h := h.1 c2
      refine zJ.iconst (v := 0) dX5_in_14 (by decide) ?_
      exact zG.ret (r := some (.int 0)) ⟨dX5_in_15, _, rfl, rfl⟩ h
    · replace h := h.2 c2
      refine zJ.iconst (v := 1) dX5_in_10 (by decide) ?_
      refine zJ.goto (tgt := 15) dX5_in_11 (by decide) ?_
      exact zG.ret (r := some (.int 1)) ⟨dX5_in_15, _, rfl, rfl⟩ h
set_option maxRecDepth 100000 in
set_option maxHeartbeats 4000000 in
theorem w_X5_begins_0 (o : zW)  (S : zS) (Q : Option Value → zS → Prop) (h : zG o 994 mdX5_begins 2 [(0, .ref (z_adr o (23, 0, 0))), (1, .int 0)] [] S Q) : zG o 994 mdX5_begins 0 [(0, .ref (z_adr o (23, 0, 0)))] [] S Q := by
  show zJ o mdX5_begins 0 _ [] (994, z_enc o S) 0 0 _
  refine zJ.iconst (v := 0) dX5_begins_0 (by decide) ?_
  refine zJ.istore_n (lv' := [(1, .int 0), (0, .ref (z_adr o (23, 0, 0)))]) dX5_begins_1 rfl (Nat.le_of_ble_eq_true rfl) rfl ?_
  exact zJ.sub [1, 0] rfl h
set_option maxRecDepth 100000 in
set_option maxHeartbeats 4000000 in
theorem w_X5_begins_2 (o : zW) (x1 : Int32) (S : zS) (Q : Option Value → zS → Prop) (h : (64 ≤ x1 → (zG o 994 mdX5_begins 31 [(0, .ref (z_adr o (23, 0, 0))), (1, .int 0)] [] S Q)) ∧ (¬ 64 ≤ x1 → (vp_in x1 64 ∧ (∀ S2 : zS, S2 = (sI S (26, 0, 0) (x1.toNatClampNeg) ((5 * (x1 / 4)) + (x1 - x1 / 4 * 4))) → (zG o 994 mdX5_begins 2 [(0, .ref (z_adr o (23, 0, 0))), (1, .int (x1 + 1))] [] S2 Q))))) : zG o 994 mdX5_begins 2 [(0, .ref (z_adr o (23, 0, 0))), (1, .int x1)] [] S Q := by
  show zJ o mdX5_begins 2 _ [] (994, z_enc o S) 0 0 _
  refine zJ.iload_n 1 dX5_begins_2 rfl rfl ?_
  refine zJ.bipush (v := 64) dX5_begins_3 (by decide) ?_
  refine zJ.icmp_ge (tgt := 29) dX5_begins_5 (by decide) (fun c1 => ?_) (fun c1 => ?_)
  · replace h := h.1 c1
    refine zJ.iconst (v := 0) dX5_begins_29 (by decide) ?_
    refine zJ.istore_n (lv' := [(1, .int 0), (0, .ref (z_adr o (23, 0, 0)))]) dX5_begins_30 rfl (Nat.le_of_ble_eq_true rfl) rfl ?_
    exact zJ.sub [1, 0] rfl h
  · replace h := h.2 c1
    refine zJ.aload_n 0 dX5_begins_8 rfl rfl ?_
    refine zE.getV (fd_23_2 o) ok_23 kiX5 (Nat.le_of_ble_eq_true rfl) fl_X5_16 dX5_begins_9 ?_
    refine zJ.iload_n 1 dX5_begins_12 rfl rfl ?_
    refine zJ.iconst (v := 5) dX5_begins_13 (by decide) ?_
    refine zJ.iload_n 1 dX5_begins_14 rfl rfl ?_
    refine zJ.iconst (v := 4) dX5_begins_15 (by decide) ?_
    refine zJ.idiv dX5_begins_16 (by decide) ?_
    refine zJ.imul dX5_begins_17 ?_
    refine zJ.iload_n 1 dX5_begins_18 rfl rfl ?_
    refine zJ.iconst (v := 4) dX5_begins_19 (by decide) ?_
    refine zJ.irem dX5_begins_20 (by decide) ?_
    refine zJ.iadd dX5_begins_21 ?_
    obtain ⟨hq, h⟩ := h
    refine zE.astI (ia_26 o) ok_26 hq dX5_begins_22 ?_
    refine zJ.nameS (fun S2 hyS2 => ?_)
    replace h := h S2 hyS2
    refine zJ.iinc (k := 1) (lv' := [(1, .int (x1 + 1)), (0, .ref (z_adr o (23, 0, 0)))]) dX5_begins_23 rfl rfl (Nat.le_of_ble_eq_true rfl) rfl ?_
    refine zJ.goto (tgt := 2) dX5_begins_26 (by decide) ?_
    exact zJ.sub [1, 0] rfl h
set_option maxRecDepth 100000 in
set_option maxHeartbeats 4000000 in
theorem w_X5_begins_31 (o : zW) (x1 : Int32) (S : zS) (Q : Option Value → zS → Prop) (h : (16 ≤ x1 → (zG o 994 mdX5_begins 66 [(0, .ref (z_adr o (23, 0, 0))), (1, .int 0)] [] S Q)) ∧ (¬ 16 ≤ x1 → (vp_in x1 16 ∧ (vp_in x1 16 ∧ (∀ S2 : zS, S2 = (sI (sI S (29, 0, 0) (x1.toNatClampNeg) 0) (28, 0, 0) (x1.toNatClampNeg) 0) → (vp_in x1 16 ∧ (zG o 994 mdX5_begins 31 [(0, .ref (z_adr o (23, 0, 0))), (1, .int (x1 + 1))] [] (sI S2 (34, 0, 0) (x1.toNatClampNeg) 0) Q))))))) : zG o 994 mdX5_begins 31 [(0, .ref (z_adr o (23, 0, 0))), (1, .int x1)] [] S Q := by
  show zJ o mdX5_begins 31 _ [] (994, z_enc o S) 0 0 _
  refine zJ.iload_n 1 dX5_begins_31 rfl rfl ?_
  refine zJ.bipush (v := 16) dX5_begins_32 (by decide) ?_
  refine zJ.icmp_ge (tgt := 64) dX5_begins_34 (by decide) (fun c1 => ?_) (fun c1 => ?_)
  · replace h := h.1 c1
    refine zJ.iconst (v := 0) dX5_begins_64 (by decide) ?_
    refine zJ.istore_n (lv' := [(1, .int 0), (0, .ref (z_adr o (23, 0, 0)))]) dX5_begins_65 rfl (Nat.le_of_ble_eq_true rfl) rfl ?_
    exact zJ.sub [1, 0] rfl h
  · replace h := h.2 c1
    refine zJ.aload_n 0 dX5_begins_37 rfl rfl ?_
    refine zE.getV (fd_23_5 o) ok_23 kiX5 (Nat.le_of_ble_eq_true rfl) fl_X5_25 dX5_begins_38 ?_
    refine zJ.iload_n 1 dX5_begins_41 rfl rfl ?_
    refine zJ.iconst (v := 0) dX5_begins_42 (by decide) ?_
    obtain ⟨hq, h⟩ := h
    refine zE.astI (ia_29 o) ok_29 hq dX5_begins_43 ?_
    refine zJ.aload_n 0 dX5_begins_44 rfl rfl ?_
    refine zE.getV (fd_23_4 o) ok_23 kiX5 (Nat.le_of_ble_eq_true rfl) fl_X5_22 dX5_begins_45 ?_
    refine zJ.iload_n 1 dX5_begins_48 rfl rfl ?_
    refine zJ.iconst (v := 0) dX5_begins_49 (by decide) ?_
    obtain ⟨hq, h⟩ := h
    refine zE.astI (ia_28 o) ok_28 hq dX5_begins_50 ?_
    refine zJ.nameS (fun S2 hyS2 => ?_)
    replace h := h S2 hyS2
    refine zJ.aload_n 0 dX5_begins_51 rfl rfl ?_
    refine zE.getV (fd_23_10 o) ok_23 kiX5 (Nat.le_of_ble_eq_true rfl) fl_X5_40 dX5_begins_52 ?_
    refine zJ.iload_n 1 dX5_begins_55 rfl rfl ?_
    refine zJ.iconst (v := 0) dX5_begins_56 (by decide) ?_
    obtain ⟨hq, h⟩ := h
    refine zE.astI (ia_34 o) ok_34 hq dX5_begins_57 ?_
    refine zJ.iinc (k := 1) (lv' := [(1, .int (x1 + 1)), (0, .ref (z_adr o (23, 0, 0)))]) dX5_begins_58 rfl rfl (Nat.le_of_ble_eq_true rfl) rfl ?_
    refine zJ.goto (tgt := 31) dX5_begins_61 (by decide) ?_
    exact zJ.sub [1, 0] rfl h
set_option maxRecDepth 100000 in
set_option maxHeartbeats 4000000 in
theorem w_X5_begins_66 (o : zW) (x1 : Int32) (S : zS) (Q : Option Value → zS → Prop) (h : (4 ≤ x1 → (zG o 994 mdX5_begins 86 [(0, .ref (z_adr o (23, 0, 0))), (1, .int 0)] [] S Q)) ∧ (¬ 4 ≤ x1 → (vp_in x1 4 ∧ (zG o 994 mdX5_begins 66 [(0, .ref (z_adr o (23, 0, 0))), (1, .int (x1 + 1))] [] (sI S (31, 0, 0) (x1.toNatClampNeg) 0) Q)))) : zG o 994 mdX5_begins 66 [(0, .ref (z_adr o (23, 0, 0))), (1, .int x1)] [] S Q := by
  show zJ o mdX5_begins 66 _ [] (994, z_enc o S) 0 0 _
  refine zJ.iload_n 1 dX5_begins_66 rfl rfl ?_
  refine zJ.iconst (v := 4) dX5_begins_67 (by decide) ?_
  refine zJ.icmp_ge (tgt := 84) dX5_begins_68 (by decide) (fun c1 => ?_) (fun c1 => ?_)
  · replace h := h.1 c1
    refine zJ.iconst (v := 0) dX5_begins_84 (by decide) ?_
    refine zJ.istore_n (lv' := [(1, .int 0), (0, .ref (z_adr o (23, 0, 0)))]) dX5_begins_85 rfl (Nat.le_of_ble_eq_true rfl) rfl ?_
    exact zJ.sub [1, 0] rfl h
  · replace h := h.2 c1
    refine zJ.aload_n 0 dX5_begins_71 rfl rfl ?_
    refine zE.getV (fd_23_7 o) ok_23 kiX5 (Nat.le_of_ble_eq_true rfl) fl_X5_31 dX5_begins_72 ?_
    refine zJ.iload_n 1 dX5_begins_75 rfl rfl ?_
    refine zJ.iconst (v := 0) dX5_begins_76 (by decide) ?_
    obtain ⟨hq, h⟩ := h
    refine zE.astI (ia_31 o) ok_31 hq dX5_begins_77 ?_
    refine zJ.iinc (k := 1) (lv' := [(1, .int (x1 + 1)), (0, .ref (z_adr o (23, 0, 0)))]) dX5_begins_78 rfl rfl (Nat.le_of_ble_eq_true rfl) rfl ?_
    refine zJ.goto (tgt := 66) dX5_begins_81 (by decide) ?_
    exact zJ.sub [1, 0] rfl h
set_option maxRecDepth 100000 in
set_option maxHeartbeats 4000000 in
theorem w_X5_begins_86 (o : zW) (x1 : Int32) (S : zS) (Q : Option Value → zS → Prop) (h : (10 ≤ x1 → (∀ S2 : zS, S2 = (sF (sI (sI (sI S (39, 0, 0) 0 0) (39, 0, 0) 1 0) (39, 0, 0) 2 0) (23, 0, 0) 20 FP.fconst0) → (Q none (sL (sL S2 (23, 0, 0) 21 0) (23, 0, 0) 22 0)))) ∧ (¬ 10 ≤ x1 → (vp_in x1 10 ∧ (zG o 994 mdX5_begins 86 [(0, .ref (z_adr o (23, 0, 0))), (1, .int (x1 + 1))] [] (sI S (40, 0, 0) (x1.toNatClampNeg) 0) Q)))) : zG o 994 mdX5_begins 86 [(0, .ref (z_adr o (23, 0, 0))), (1, .int x1)] [] S Q := by
  show zJ o mdX5_begins 86 _ [] (994, z_enc o S) 0 0 _
  refine zJ.iload_n 1 dX5_begins_86 rfl rfl ?_
  refine zJ.bipush (v := 10) dX5_begins_87 (by decide) ?_
  refine zJ.icmp_ge (tgt := 105) dX5_begins_89 (by decide) (fun c1 => ?_) (fun c1 => ?_)
  · replace h := h.1 c1
    refine zJ.aload_n 0 dX5_begins_105 rfl rfl ?_
    refine zE.getV (fd_23_15 o) ok_23 kiX5 (Nat.le_of_ble_eq_true rfl) fl_X5_55 dX5_begins_106 ?_
    refine zJ.iconst (v := 0) dX5_begins_109 (by decide) ?_
    refine zJ.iconst (v := 0) dX5_begins_110 (by decide) ?_
    refine zE.astI (ia_39 o) ok_39 (by unfold vp_in; decide) dX5_begins_111 ?_
    refine zJ.aload_n 0 dX5_begins_112 rfl rfl ?_
    refine zE.getV (fd_23_15 o) ok_23 kiX5 (Nat.le_of_ble_eq_true rfl) fl_X5_55 dX5_begins_113 ?_
    refine zJ.iconst (v := 1) dX5_begins_116 (by decide) ?_
    refine zJ.iconst (v := 0) dX5_begins_117 (by decide) ?_
    refine zE.astI (ia_39 o) ok_39 (by unfold vp_in; decide) dX5_begins_118 ?_
    refine zJ.aload_n 0 dX5_begins_119 rfl rfl ?_
    refine zE.getV (fd_23_15 o) ok_23 kiX5 (Nat.le_of_ble_eq_true rfl) fl_X5_55 dX5_begins_120 ?_
    refine zJ.iconst (v := 2) dX5_begins_123 (by decide) ?_
    refine zJ.iconst (v := 0) dX5_begins_124 (by decide) ?_
    refine zE.astI (ia_39 o) ok_39 (by unfold vp_in; decide) dX5_begins_125 ?_
    refine zJ.aload_n 0 dX5_begins_126 rfl rfl ?_
    refine zJ.fconst0 dX5_begins_127 ?_
    refine zE.putF (fd_23_20 o) ok_23 kiX5 (Nat.le_of_ble_eq_true rfl) fl_X5_90 rfl rfl dX5_begins_128 ?_
    refine zJ.nameS (fun S2 hyS2 => ?_)
    replace h := h S2 hyS2
    refine zJ.aload_n 0 dX5_begins_131 rfl rfl ?_
    refine zJ.lconst (v := 0) dX5_begins_132 (by decide) ?_
    refine zE.putL (fd_23_21 o) ok_23 kiX5 (Nat.le_of_ble_eq_true rfl) fl_X5_94 rfl rfl dX5_begins_133 ?_
    refine zJ.aload_n 0 dX5_begins_136 rfl rfl ?_
    refine zJ.lconst (v := 0) dX5_begins_137 (by decide) ?_
    refine zE.putL (fd_23_22 o) ok_23 kiX5 (Nat.le_of_ble_eq_true rfl) fl_X5_98 rfl rfl dX5_begins_138 ?_
    exact zG.ret (r := none) ⟨dX5_begins_141, rfl⟩ h
  · replace h := h.2 c1
    refine zJ.aload_n 0 dX5_begins_92 rfl rfl ?_
    refine zE.getV (fd_23_16 o) ok_23 kiX5 (Nat.le_of_ble_eq_true rfl) fl_X5_58 dX5_begins_93 ?_
    refine zJ.iload_n 1 dX5_begins_96 rfl rfl ?_
    refine zJ.iconst (v := 0) dX5_begins_97 (by decide) ?_
    obtain ⟨hq, h⟩ := h
    refine zE.astI (ia_40 o) ok_40 hq dX5_begins_98 ?_
    refine zJ.iinc (k := 1) (lv' := [(1, .int (x1 + 1)), (0, .ref (z_adr o (23, 0, 0)))]) dX5_begins_99 rfl rfl (Nat.le_of_ble_eq_true rfl) rfl ?_
    refine zJ.goto (tgt := 86) dX5_begins_102 (by decide) ?_
    exact zJ.sub [1, 0] rfl h
set_option maxRecDepth 100000 in
set_option maxHeartbeats 4000000 in
theorem w_X5_isBox_0 (o : zW) (x0 : Int32) (S : zS) (Q : Option Value → zS → Prop) (h : zGi o 994 mdX5_in [.int x0, .int 0, .int 15] S (fun r2 S3 => narrow .boolean (.int r2) = .int r2 ∧ Q (some (.int r2)) S3)) : zG o 994 mdX5_isBox 0 [(0, .int x0)] [] S Q := by
  show zJ o mdX5_isBox 0 _ [] (994, z_enc o S) 0 0 _
  refine zJ.iload_n 0 dX5_isBox_0 rfl rfl ?_
  refine zJ.iconst (v := 0) dX5_isBox_1 (by decide) ?_
  refine zJ.bipush (v := 15) dX5_isBox_2 (by decide) ?_
  refine zG.callSi [.int x0, .int 0, .int 15] [] dX5_isBox_4 ⟨(cb_X5_in).1, (cb_X5_in).2, (Nat.le_of_ble_eq_true rfl), (Nat.le_of_ble_eq_true rfl)⟩ ml_X5_101 cs_X5_in rfl (Nat.le_of_ble_eq_true rfl) (Nat.le_of_ble_eq_true rfl) rfl h (fun r2 S3 h2 => ?_)
  replace h := h2
  clear h2
  exact zG.ret (r := some (.int r2)) ⟨dX5_isBox_7, _, rfl, h.1⟩ h.2
set_option maxRecDepth 100000 in
set_option maxHeartbeats 4000000 in
theorem w_X5_lays_0 (o : zW) (kr N0 : Nat) (hkr : z_ok 994 (kr, 0, 0)) (har : z_aI o (kr, 0, 0) N0) (x2 : Int32) (S : zS) (Q : Option Value → zS → Prop) (h : zG o 994 mdX5_lays 2 [(0, .ref (z_adr o (23, 0, 0))), (1, .ref (z_adr o (kr, 0, 0))), (2, .int x2), (3, .int 0)] [] S Q) : zG o 994 mdX5_lays 0 [(0, .ref (z_adr o (23, 0, 0))), (1, .ref (z_adr o (kr, 0, 0))), (2, .int x2)] [] S Q := by
  show zJ o mdX5_lays 0 _ [] (994, z_enc o S) 0 0 _
  refine zJ.iconst (v := 0) dX5_lays_0 (by decide) ?_
  refine zJ.istore_n (lv' := [(3, .int 0), (0, .ref (z_adr o (23, 0, 0))), (1, .ref (z_adr o (kr, 0, 0))), (2, .int x2)]) dX5_lays_1 rfl (Nat.le_of_ble_eq_true rfl) rfl ?_
  exact zJ.sub [1, 2, 3, 0] rfl h
set_option maxRecDepth 100000 in
set_option maxHeartbeats 4000000 in
theorem w_X5_lays_2 (o : zW) (kr N0 : Nat) (hkr : z_ok 994 (kr, 0, 0)) (har : z_aI o (kr, 0, 0) N0) (x2 : Int32) (x3 : Int32) (S : zS) (Q : Option Value → zS → Prop) (h : (x2 ≤ x3 → (Q none (sI S (23, 0, 0) 28 ((S.1 (23, 0, 0) 28) + x2)))) ∧ (¬ x2 ≤ x3 → (vp_in x3 N0 ∧ (vp_in ((S.1 (23, 0, 0) 28) + x3) 9100 ∧ (∀ S2 : zS, S2 = (sI S (44, 0, 0) (((S.1 (23, 0, 0) 28) + x3).toNatClampNeg) (S.1 (kr, 0, 0) x3.toNatClampNeg)) → (zG o 994 mdX5_lays 2 [(0, .ref (z_adr o (23, 0, 0))), (1, .ref (z_adr o (kr, 0, 0))), (2, .int x2), (3, .int (x3 + 1))] [] S2 Q)))))) : zG o 994 mdX5_lays 2 [(0, .ref (z_adr o (23, 0, 0))), (1, .ref (z_adr o (kr, 0, 0))), (2, .int x2), (3, .int x3)] [] S Q := by
  show zJ o mdX5_lays 2 _ [] (994, z_enc o S) 0 0 _
  refine zJ.iload_n 3 dX5_lays_2 rfl rfl ?_
  refine zJ.iload_n 2 dX5_lays_3 rfl rfl ?_
  refine zJ.icmp_ge (tgt := 27) dX5_lays_4 (by decide) (fun c1 => ?_) (fun c1 => ?_)
  · replace h := h.1 c1
    refine zJ.aload_n 0 dX5_lays_27 rfl rfl ?_
    refine zJ.dup dX5_lays_28 rfl ?_
    refine zE.getI (fd_23_28 o) ok_23 kiX5 (Nat.le_of_ble_eq_true rfl) fl_X5_105 dX5_lays_29 ?_
    refine zJ.iload_n 2 dX5_lays_32 rfl rfl ?_
    refine zJ.iadd dX5_lays_33 ?_
    refine zE.putI (fd_23_28 o) ok_23 kiX5 (Nat.le_of_ble_eq_true rfl) fl_X5_105 rfl rfl dX5_lays_34 ?_
    exact zG.ret (r := none) ⟨dX5_lays_37, rfl⟩ h
  · replace h := h.2 c1
    refine zJ.aload_n 0 dX5_lays_7 rfl rfl ?_
    refine zE.getV (fd_23_24 o) ok_23 kiX5 (Nat.le_of_ble_eq_true rfl) fl_X5_70 dX5_lays_8 ?_
    refine zJ.aload_n 0 dX5_lays_11 rfl rfl ?_
    refine zE.getI (fd_23_28 o) ok_23 kiX5 (Nat.le_of_ble_eq_true rfl) fl_X5_105 dX5_lays_12 ?_
    refine zJ.iload_n 3 dX5_lays_15 rfl rfl ?_
    refine zJ.iadd dX5_lays_16 ?_
    refine zJ.aload_n 1 dX5_lays_17 rfl rfl ?_
    refine zJ.iload_n 3 dX5_lays_18 rfl rfl ?_
    obtain ⟨hq, h⟩ := h
    refine zE.aldI har hkr hq dX5_lays_19 ?_
    obtain ⟨hq, h⟩ := h
    refine zE.astI (ia_44 o) ok_44 hq dX5_lays_20 ?_
    refine zJ.nameS (fun S2 hyS2 => ?_)
    replace h := h S2 hyS2
    refine zJ.iinc (k := 3) (lv' := [(3, .int (x3 + 1)), (0, .ref (z_adr o (23, 0, 0))), (1, .ref (z_adr o (kr, 0, 0))), (2, .int x2)]) dX5_lays_21 rfl rfl (Nat.le_of_ble_eq_true rfl) rfl ?_
    refine zJ.goto (tgt := 2) dX5_lays_24 (by decide) ?_
    exact zJ.sub [1, 2, 3, 0] rfl h
set_option maxRecDepth 100000 in
set_option maxHeartbeats 4000000 in
theorem w_X5_takes_0 (o : zW) (kr N0 : Nat) (hkr : z_ok 994 (kr, 0, 0)) (har : z_aI o (kr, 0, 0) N0) (x2 : Int32) (S : zS) (Q : Option Value → zS → Prop) (h : zG o 994 mdX5_takes 2 [(0, .ref (z_adr o (23, 0, 0))), (1, .ref (z_adr o (kr, 0, 0))), (2, .int x2), (3, .int 0)] [] S Q) : zG o 994 mdX5_takes 0 [(0, .ref (z_adr o (23, 0, 0))), (1, .ref (z_adr o (kr, 0, 0))), (2, .int x2)] [] S Q := by
  show zJ o mdX5_takes 0 _ [] (994, z_enc o S) 0 0 _
  refine zJ.iconst (v := 0) dX5_takes_0 (by decide) ?_
  refine zJ.istore_n (lv' := [(3, .int 0), (0, .ref (z_adr o (23, 0, 0))), (1, .ref (z_adr o (kr, 0, 0))), (2, .int x2)]) dX5_takes_1 rfl (Nat.le_of_ble_eq_true rfl) rfl ?_
  exact zJ.sub [1, 2, 3, 0] rfl h
set_option maxRecDepth 100000 in
set_option maxHeartbeats 4000000 in
theorem w_X5_takes_2 (o : zW) (kr N0 : Nat) (hkr : z_ok 994 (kr, 0, 0)) (har : z_aI o (kr, 0, 0) N0) (x2 : Int32) (x3 : Int32) (S : zS) (Q : Option Value → zS → Prop) (h : (x2 ≤ x3 → (Q none (sI S (23, 0, 0) 28 ((S.1 (23, 0, 0) 28) + x2)))) ∧ (¬ x2 ≤ x3 → (vp_in ((S.1 (23, 0, 0) 28) + x3) 9100 ∧ (vp_in x3 N0 ∧ (∀ S2 : zS, S2 = (sI S (kr, 0, 0) (x3.toNatClampNeg) (S.1 (44, 0, 0) (((S.1 (23, 0, 0) 28) + x3).toNatClampNeg))) → (zG o 994 mdX5_takes 2 [(0, .ref (z_adr o (23, 0, 0))), (1, .ref (z_adr o (kr, 0, 0))), (2, .int x2), (3, .int (x3 + 1))] [] S2 Q)))))) : zG o 994 mdX5_takes 2 [(0, .ref (z_adr o (23, 0, 0))), (1, .ref (z_adr o (kr, 0, 0))), (2, .int x2), (3, .int x3)] [] S Q := by
  show zJ o mdX5_takes 2 _ [] (994, z_enc o S) 0 0 _
  refine zJ.iload_n 3 dX5_takes_2 rfl rfl ?_
  refine zJ.iload_n 2 dX5_takes_3 rfl rfl ?_
  refine zJ.icmp_ge (tgt := 27) dX5_takes_4 (by decide) (fun c1 => ?_) (fun c1 => ?_)
  · replace h := h.1 c1
    refine zJ.aload_n 0 dX5_takes_27 rfl rfl ?_
    refine zJ.dup dX5_takes_28 rfl ?_
    refine zE.getI (fd_23_28 o) ok_23 kiX5 (Nat.le_of_ble_eq_true rfl) fl_X5_105 dX5_takes_29 ?_
    refine zJ.iload_n 2 dX5_takes_32 rfl rfl ?_
    refine zJ.iadd dX5_takes_33 ?_
    refine zE.putI (fd_23_28 o) ok_23 kiX5 (Nat.le_of_ble_eq_true rfl) fl_X5_105 rfl rfl dX5_takes_34 ?_
    exact zG.ret (r := none) ⟨dX5_takes_37, rfl⟩ h
  · replace h := h.2 c1
    refine zJ.aload_n 1 dX5_takes_7 rfl rfl ?_
    refine zJ.iload_n 3 dX5_takes_8 rfl rfl ?_
    refine zJ.aload_n 0 dX5_takes_9 rfl rfl ?_
    refine zE.getV (fd_23_24 o) ok_23 kiX5 (Nat.le_of_ble_eq_true rfl) fl_X5_70 dX5_takes_10 ?_
    refine zJ.aload_n 0 dX5_takes_13 rfl rfl ?_
    refine zE.getI (fd_23_28 o) ok_23 kiX5 (Nat.le_of_ble_eq_true rfl) fl_X5_105 dX5_takes_14 ?_
    refine zJ.iload_n 3 dX5_takes_17 rfl rfl ?_
    refine zJ.iadd dX5_takes_18 ?_
    obtain ⟨hq, h⟩ := h
    refine zE.aldI (ia_44 o) ok_44 hq dX5_takes_19 ?_
    obtain ⟨hq, h⟩ := h
    refine zE.astI har hkr hq dX5_takes_20 ?_
    refine zJ.nameS (fun S2 hyS2 => ?_)
    replace h := h S2 hyS2
    refine zJ.iinc (k := 3) (lv' := [(3, .int (x3 + 1)), (0, .ref (z_adr o (23, 0, 0))), (1, .ref (z_adr o (kr, 0, 0))), (2, .int x2)]) dX5_takes_21 rfl rfl (Nat.le_of_ble_eq_true rfl) rfl ?_
    refine zJ.goto (tgt := 2) dX5_takes_24 (by decide) ?_
    exact zJ.sub [1, 2, 3, 0] rfl h
set_option maxRecDepth 100000 in
set_option maxHeartbeats 4000000 in
theorem w_X5_keeps_0 (o : zW) (x1 : Int32) (S : zS) (Q : Option Value → zS → Prop) (h : zGv o 994 mdX5_lays [.ref (z_adr o (23, 0, 0)), .ref (z_adr o (25, 0, 0)), .int 5] (sI S (23, 0, 0) 28 (1300 * x1)) (fun S3 => zGv o 994 mdX5_lays [.ref (z_adr o (23, 0, 0)), .ref (z_adr o (26, 0, 0)), .int 64] S3 (fun S6 => zGv o 994 mdX5_lays [.ref (z_adr o (23, 0, 0)), .ref (z_adr o (27, 0, 0)), .int 64] S6 (fun S9 => zGv o 994 mdX5_lays [.ref (z_adr o (23, 0, 0)), .ref (z_adr o (28, 0, 0)), .int 16] S9 (fun S12 => zGv o 994 mdX5_lays [.ref (z_adr o (23, 0, 0)), .ref (z_adr o (29, 0, 0)), .int 16] S12 (fun S15 => zGv o 994 mdX5_lays [.ref (z_adr o (23, 0, 0)), .ref (z_adr o (30, 0, 0)), .int 16] S15 (fun S18 => zGv o 994 mdX5_lays [.ref (z_adr o (23, 0, 0)), .ref (z_adr o (31, 0, 0)), .int 4] S18 (fun S21 => zGv o 994 mdX5_lays [.ref (z_adr o (23, 0, 0)), .ref (z_adr o (32, 0, 0)), .int 12] S21 (fun S24 => zGv o 994 mdX5_lays [.ref (z_adr o (23, 0, 0)), .ref (z_adr o (33, 0, 0)), .int 4] S24 (fun S27 => zGv o 994 mdX5_lays [.ref (z_adr o (23, 0, 0)), .ref (z_adr o (34, 0, 0)), .int 16] S27 (fun S30 => zGv o 994 mdX5_lays [.ref (z_adr o (23, 0, 0)), .ref (z_adr o (35, 0, 0)), .int 64] S30 (fun S33 => zGv o 994 mdX5_lays [.ref (z_adr o (23, 0, 0)), .ref (z_adr o (36, 0, 0)), .int 64] S33 (fun S36 => zGv o 994 mdX5_lays [.ref (z_adr o (23, 0, 0)), .ref (z_adr o (37, 0, 0)), .int 64] S36 (fun S39 => zGv o 994 mdX5_lays [.ref (z_adr o (23, 0, 0)), .ref (z_adr o (38, 0, 0)), .int 64] S39 (fun S42 => zGv o 994 mdX5_lays [.ref (z_adr o (23, 0, 0)), .ref (z_adr o (39, 0, 0)), .int 3] S42 (fun S45 => zGv o 994 mdX5_lays [.ref (z_adr o (23, 0, 0)), .ref (z_adr o (40, 0, 0)), .int 10] S45 (fun S48 => zGv o 994 mdX5_lays [.ref (z_adr o (23, 0, 0)), .ref (z_adr o (41, 0, 0)), .int 200] S48 (fun S51 => zGv o 994 mdX5_lays [.ref (z_adr o (23, 0, 0)), .ref (z_adr o (42, 0, 0)), .int 200] S51 (fun S54 => zGv o 994 mdX5_lays [.ref (z_adr o (23, 0, 0)), .ref (z_adr o (43, 0, 0)), .int 200] S54 (fun S57 => vp_in x1 7 ∧ (vp_in x1 7 ∧ (∀ S58 : zS, S58 = (sL (sF S57 (45, 0, 0) (x1.toNatClampNeg) (S57.2.2 (23, 0, 0) 20)) (46, 0, 0) (x1.toNatClampNeg) ((sF S57 (45, 0, 0) (x1.toNatClampNeg) (S57.2.2 (23, 0, 0) 20)).2.1 (23, 0, 0) 21)) → (vp_in x1 7 ∧ (Q none (sL S58 (47, 0, 0) (x1.toNatClampNeg) (S58.2.1 (23, 0, 0) 22)))))))))))))))))))))))))) : zG o 994 mdX5_keeps 0 [(0, .ref (z_adr o (23, 0, 0))), (1, .int x1)] [] S Q := by
  show zJ o mdX5_keeps 0 _ [] (994, z_enc o S) 0 0 _
  refine zJ.aload_n 0 dX5_keeps_0 rfl rfl ?_
  refine zJ.sipush (v := 1300) dX5_keeps_1 (by decide) ?_
  refine zJ.iload_n 1 dX5_keeps_4 rfl rfl ?_
  refine zJ.imul dX5_keeps_5 ?_
  refine zE.putI (fd_23_28 o) ok_23 kiX5 (Nat.le_of_ble_eq_true rfl) fl_X5_105 rfl rfl dX5_keeps_6 ?_
  refine zJ.aload_n 0 dX5_keeps_9 rfl rfl ?_
  refine zJ.aload_n 0 dX5_keeps_10 rfl rfl ?_
  refine zE.getV (fd_23_1 o) ok_23 kiX5 (Nat.le_of_ble_eq_true rfl) fl_X5_13 dX5_keeps_11 ?_
  refine zJ.iconst (v := 5) dX5_keeps_14 (by decide) ?_
  refine zG.callVv [.ref (z_adr o (25, 0, 0)), .int 5] [] (ob_23 o) ok_23 rfl dX5_keeps_15 ⟨(cb_X5_lays).1, (cb_X5_lays).2, (Nat.le_of_ble_eq_true rfl), (Nat.le_of_ble_eq_true rfl)⟩ ml_X5_109 ci_X5_lays cv_X5_lays rfl (Nat.le_of_ble_eq_true rfl) (Nat.le_of_ble_eq_true rfl) rfl h (fun S3 h2 => ?_)
  replace h := h2
  clear h2
  refine zJ.aload_n 0 dX5_keeps_18 rfl rfl ?_
  refine zJ.aload_n 0 dX5_keeps_19 rfl rfl ?_
  refine zE.getV (fd_23_2 o) ok_23 kiX5 (Nat.le_of_ble_eq_true rfl) fl_X5_16 dX5_keeps_20 ?_
  refine zJ.bipush (v := 64) dX5_keeps_23 (by decide) ?_
  refine zG.callVv [.ref (z_adr o (26, 0, 0)), .int 64] [] (ob_23 o) ok_23 rfl dX5_keeps_25 ⟨(cb_X5_lays).1, (cb_X5_lays).2, (Nat.le_of_ble_eq_true rfl), (Nat.le_of_ble_eq_true rfl)⟩ ml_X5_109 ci_X5_lays cv_X5_lays rfl (Nat.le_of_ble_eq_true rfl) (Nat.le_of_ble_eq_true rfl) rfl h (fun S6 h2 => ?_)
  replace h := h2
  clear h2
  refine zJ.aload_n 0 dX5_keeps_28 rfl rfl ?_
  refine zJ.aload_n 0 dX5_keeps_29 rfl rfl ?_
  refine zE.getV (fd_23_3 o) ok_23 kiX5 (Nat.le_of_ble_eq_true rfl) fl_X5_19 dX5_keeps_30 ?_
  refine zJ.bipush (v := 64) dX5_keeps_33 (by decide) ?_
  refine zG.callVv [.ref (z_adr o (27, 0, 0)), .int 64] [] (ob_23 o) ok_23 rfl dX5_keeps_35 ⟨(cb_X5_lays).1, (cb_X5_lays).2, (Nat.le_of_ble_eq_true rfl), (Nat.le_of_ble_eq_true rfl)⟩ ml_X5_109 ci_X5_lays cv_X5_lays rfl (Nat.le_of_ble_eq_true rfl) (Nat.le_of_ble_eq_true rfl) rfl h (fun S9 h2 => ?_)
  replace h := h2
  clear h2
  refine zJ.aload_n 0 dX5_keeps_38 rfl rfl ?_
  refine zJ.aload_n 0 dX5_keeps_39 rfl rfl ?_
  refine zE.getV (fd_23_4 o) ok_23 kiX5 (Nat.le_of_ble_eq_true rfl) fl_X5_22 dX5_keeps_40 ?_
  refine zJ.bipush (v := 16) dX5_keeps_43 (by decide) ?_
  refine zG.callVv [.ref (z_adr o (28, 0, 0)), .int 16] [] (ob_23 o) ok_23 rfl dX5_keeps_45 ⟨(cb_X5_lays).1, (cb_X5_lays).2, (Nat.le_of_ble_eq_true rfl), (Nat.le_of_ble_eq_true rfl)⟩ ml_X5_109 ci_X5_lays cv_X5_lays rfl (Nat.le_of_ble_eq_true rfl) (Nat.le_of_ble_eq_true rfl) rfl h (fun S12 h2 => ?_)
  replace h := h2
  clear h2
  refine zJ.aload_n 0 dX5_keeps_48 rfl rfl ?_
  refine zJ.aload_n 0 dX5_keeps_49 rfl rfl ?_
  refine zE.getV (fd_23_5 o) ok_23 kiX5 (Nat.le_of_ble_eq_true rfl) fl_X5_25 dX5_keeps_50 ?_
  refine zJ.bipush (v := 16) dX5_keeps_53 (by decide) ?_
  refine zG.callVv [.ref (z_adr o (29, 0, 0)), .int 16] [] (ob_23 o) ok_23 rfl dX5_keeps_55 ⟨(cb_X5_lays).1, (cb_X5_lays).2, (Nat.le_of_ble_eq_true rfl), (Nat.le_of_ble_eq_true rfl)⟩ ml_X5_109 ci_X5_lays cv_X5_lays rfl (Nat.le_of_ble_eq_true rfl) (Nat.le_of_ble_eq_true rfl) rfl h (fun S15 h2 => ?_)
  replace h := h2
  clear h2
  refine zJ.aload_n 0 dX5_keeps_58 rfl rfl ?_
  refine zJ.aload_n 0 dX5_keeps_59 rfl rfl ?_
  refine zE.getV (fd_23_6 o) ok_23 kiX5 (Nat.le_of_ble_eq_true rfl) fl_X5_28 dX5_keeps_60 ?_
  refine zJ.bipush (v := 16) dX5_keeps_63 (by decide) ?_
  refine zG.callVv [.ref (z_adr o (30, 0, 0)), .int 16] [] (ob_23 o) ok_23 rfl dX5_keeps_65 ⟨(cb_X5_lays).1, (cb_X5_lays).2, (Nat.le_of_ble_eq_true rfl), (Nat.le_of_ble_eq_true rfl)⟩ ml_X5_109 ci_X5_lays cv_X5_lays rfl (Nat.le_of_ble_eq_true rfl) (Nat.le_of_ble_eq_true rfl) rfl h (fun S18 h2 => ?_)
  replace h := h2
  clear h2
  refine zJ.aload_n 0 dX5_keeps_68 rfl rfl ?_
  refine zJ.aload_n 0 dX5_keeps_69 rfl rfl ?_
  refine zE.getV (fd_23_7 o) ok_23 kiX5 (Nat.le_of_ble_eq_true rfl) fl_X5_31 dX5_keeps_70 ?_
  refine zJ.iconst (v := 4) dX5_keeps_73 (by decide) ?_
  refine zG.callVv [.ref (z_adr o (31, 0, 0)), .int 4] [] (ob_23 o) ok_23 rfl dX5_keeps_74 ⟨(cb_X5_lays).1, (cb_X5_lays).2, (Nat.le_of_ble_eq_true rfl), (Nat.le_of_ble_eq_true rfl)⟩ ml_X5_109 ci_X5_lays cv_X5_lays rfl (Nat.le_of_ble_eq_true rfl) (Nat.le_of_ble_eq_true rfl) rfl h (fun S21 h2 => ?_)
  replace h := h2
  clear h2
  refine zJ.aload_n 0 dX5_keeps_77 rfl rfl ?_
  refine zJ.aload_n 0 dX5_keeps_78 rfl rfl ?_
  refine zE.getV (fd_23_8 o) ok_23 kiX5 (Nat.le_of_ble_eq_true rfl) fl_X5_34 dX5_keeps_79 ?_
  refine zJ.bipush (v := 12) dX5_keeps_82 (by decide) ?_
  refine zG.callVv [.ref (z_adr o (32, 0, 0)), .int 12] [] (ob_23 o) ok_23 rfl dX5_keeps_84 ⟨(cb_X5_lays).1, (cb_X5_lays).2, (Nat.le_of_ble_eq_true rfl), (Nat.le_of_ble_eq_true rfl)⟩ ml_X5_109 ci_X5_lays cv_X5_lays rfl (Nat.le_of_ble_eq_true rfl) (Nat.le_of_ble_eq_true rfl) rfl h (fun S24 h2 => ?_)
  replace h := h2
  clear h2
  refine zJ.aload_n 0 dX5_keeps_87 rfl rfl ?_
  refine zJ.aload_n 0 dX5_keeps_88 rfl rfl ?_
  refine zE.getV (fd_23_9 o) ok_23 kiX5 (Nat.le_of_ble_eq_true rfl) fl_X5_37 dX5_keeps_89 ?_
  refine zJ.iconst (v := 4) dX5_keeps_92 (by decide) ?_
  refine zG.callVv [.ref (z_adr o (33, 0, 0)), .int 4] [] (ob_23 o) ok_23 rfl dX5_keeps_93 ⟨(cb_X5_lays).1, (cb_X5_lays).2, (Nat.le_of_ble_eq_true rfl), (Nat.le_of_ble_eq_true rfl)⟩ ml_X5_109 ci_X5_lays cv_X5_lays rfl (Nat.le_of_ble_eq_true rfl) (Nat.le_of_ble_eq_true rfl) rfl h (fun S27 h2 => ?_)
  replace h := h2
  clear h2
  refine zJ.aload_n 0 dX5_keeps_96 rfl rfl ?_
  refine zJ.aload_n 0 dX5_keeps_97 rfl rfl ?_
  refine zE.getV (fd_23_10 o) ok_23 kiX5 (Nat.le_of_ble_eq_true rfl) fl_X5_40 dX5_keeps_98 ?_
  refine zJ.bipush (v := 16) dX5_keeps_101 (by decide) ?_
  refine zG.callVv [.ref (z_adr o (34, 0, 0)), .int 16] [] (ob_23 o) ok_23 rfl dX5_keeps_103 ⟨(cb_X5_lays).1, (cb_X5_lays).2, (Nat.le_of_ble_eq_true rfl), (Nat.le_of_ble_eq_true rfl)⟩ ml_X5_109 ci_X5_lays cv_X5_lays rfl (Nat.le_of_ble_eq_true rfl) (Nat.le_of_ble_eq_true rfl) rfl h (fun S30 h2 => ?_)
  replace h := h2
  clear h2
  refine zJ.aload_n 0 dX5_keeps_106 rfl rfl ?_
  refine zJ.aload_n 0 dX5_keeps_107 rfl rfl ?_
  refine zE.getV (fd_23_11 o) ok_23 kiX5 (Nat.le_of_ble_eq_true rfl) fl_X5_43 dX5_keeps_108 ?_
  refine zJ.bipush (v := 64) dX5_keeps_111 (by decide) ?_
  refine zG.callVv [.ref (z_adr o (35, 0, 0)), .int 64] [] (ob_23 o) ok_23 rfl dX5_keeps_113 ⟨(cb_X5_lays).1, (cb_X5_lays).2, (Nat.le_of_ble_eq_true rfl), (Nat.le_of_ble_eq_true rfl)⟩ ml_X5_109 ci_X5_lays cv_X5_lays rfl (Nat.le_of_ble_eq_true rfl) (Nat.le_of_ble_eq_true rfl) rfl h (fun S33 h2 => ?_)
  replace h := h2
  clear h2
  refine zJ.aload_n 0 dX5_keeps_116 rfl rfl ?_
  refine zJ.aload_n 0 dX5_keeps_117 rfl rfl ?_
  refine zE.getV (fd_23_12 o) ok_23 kiX5 (Nat.le_of_ble_eq_true rfl) fl_X5_46 dX5_keeps_118 ?_
  refine zJ.bipush (v := 64) dX5_keeps_121 (by decide) ?_
  refine zG.callVv [.ref (z_adr o (36, 0, 0)), .int 64] [] (ob_23 o) ok_23 rfl dX5_keeps_123 ⟨(cb_X5_lays).1, (cb_X5_lays).2, (Nat.le_of_ble_eq_true rfl), (Nat.le_of_ble_eq_true rfl)⟩ ml_X5_109 ci_X5_lays cv_X5_lays rfl (Nat.le_of_ble_eq_true rfl) (Nat.le_of_ble_eq_true rfl) rfl h (fun S36 h2 => ?_)
  replace h := h2
  clear h2
  refine zJ.aload_n 0 dX5_keeps_126 rfl rfl ?_
  refine zJ.aload_n 0 dX5_keeps_127 rfl rfl ?_
  refine zE.getV (fd_23_13 o) ok_23 kiX5 (Nat.le_of_ble_eq_true rfl) fl_X5_49 dX5_keeps_128 ?_
  refine zJ.bipush (v := 64) dX5_keeps_131 (by decide) ?_
  refine zG.callVv [.ref (z_adr o (37, 0, 0)), .int 64] [] (ob_23 o) ok_23 rfl dX5_keeps_133 ⟨(cb_X5_lays).1, (cb_X5_lays).2, (Nat.le_of_ble_eq_true rfl), (Nat.le_of_ble_eq_true rfl)⟩ ml_X5_109 ci_X5_lays cv_X5_lays rfl (Nat.le_of_ble_eq_true rfl) (Nat.le_of_ble_eq_true rfl) rfl h (fun S39 h2 => ?_)
  replace h := h2
  clear h2
  refine zJ.aload_n 0 dX5_keeps_136 rfl rfl ?_
  refine zJ.aload_n 0 dX5_keeps_137 rfl rfl ?_
  refine zE.getV (fd_23_14 o) ok_23 kiX5 (Nat.le_of_ble_eq_true rfl) fl_X5_52 dX5_keeps_138 ?_
  refine zJ.bipush (v := 64) dX5_keeps_141 (by decide) ?_
  refine zG.callVv [.ref (z_adr o (38, 0, 0)), .int 64] [] (ob_23 o) ok_23 rfl dX5_keeps_143 ⟨(cb_X5_lays).1, (cb_X5_lays).2, (Nat.le_of_ble_eq_true rfl), (Nat.le_of_ble_eq_true rfl)⟩ ml_X5_109 ci_X5_lays cv_X5_lays rfl (Nat.le_of_ble_eq_true rfl) (Nat.le_of_ble_eq_true rfl) rfl h (fun S42 h2 => ?_)
  replace h := h2
  clear h2
  refine zJ.aload_n 0 dX5_keeps_146 rfl rfl ?_
  refine zJ.aload_n 0 dX5_keeps_147 rfl rfl ?_
  refine zE.getV (fd_23_15 o) ok_23 kiX5 (Nat.le_of_ble_eq_true rfl) fl_X5_55 dX5_keeps_148 ?_
  refine zJ.iconst (v := 3) dX5_keeps_151 (by decide) ?_
  refine zG.callVv [.ref (z_adr o (39, 0, 0)), .int 3] [] (ob_23 o) ok_23 rfl dX5_keeps_152 ⟨(cb_X5_lays).1, (cb_X5_lays).2, (Nat.le_of_ble_eq_true rfl), (Nat.le_of_ble_eq_true rfl)⟩ ml_X5_109 ci_X5_lays cv_X5_lays rfl (Nat.le_of_ble_eq_true rfl) (Nat.le_of_ble_eq_true rfl) rfl h (fun S45 h2 => ?_)
  replace h := h2
  clear h2
  refine zJ.aload_n 0 dX5_keeps_155 rfl rfl ?_
  refine zJ.aload_n 0 dX5_keeps_156 rfl rfl ?_
  refine zE.getV (fd_23_16 o) ok_23 kiX5 (Nat.le_of_ble_eq_true rfl) fl_X5_58 dX5_keeps_157 ?_
  refine zJ.bipush (v := 10) dX5_keeps_160 (by decide) ?_
  refine zG.callVv [.ref (z_adr o (40, 0, 0)), .int 10] [] (ob_23 o) ok_23 rfl dX5_keeps_162 ⟨(cb_X5_lays).1, (cb_X5_lays).2, (Nat.le_of_ble_eq_true rfl), (Nat.le_of_ble_eq_true rfl)⟩ ml_X5_109 ci_X5_lays cv_X5_lays rfl (Nat.le_of_ble_eq_true rfl) (Nat.le_of_ble_eq_true rfl) rfl h (fun S48 h2 => ?_)
  replace h := h2
  clear h2
  refine zJ.aload_n 0 dX5_keeps_165 rfl rfl ?_
  refine zJ.aload_n 0 dX5_keeps_166 rfl rfl ?_
  refine zE.getV (fd_23_17 o) ok_23 kiX5 (Nat.le_of_ble_eq_true rfl) fl_X5_61 dX5_keeps_167 ?_
  refine zJ.sipush (v := 200) dX5_keeps_170 (by decide) ?_
  refine zG.callVv [.ref (z_adr o (41, 0, 0)), .int 200] [] (ob_23 o) ok_23 rfl dX5_keeps_173 ⟨(cb_X5_lays).1, (cb_X5_lays).2, (Nat.le_of_ble_eq_true rfl), (Nat.le_of_ble_eq_true rfl)⟩ ml_X5_109 ci_X5_lays cv_X5_lays rfl (Nat.le_of_ble_eq_true rfl) (Nat.le_of_ble_eq_true rfl) rfl h (fun S51 h2 => ?_)
  replace h := h2
  clear h2
  refine zJ.aload_n 0 dX5_keeps_176 rfl rfl ?_
  refine zJ.aload_n 0 dX5_keeps_177 rfl rfl ?_
  refine zE.getV (fd_23_18 o) ok_23 kiX5 (Nat.le_of_ble_eq_true rfl) fl_X5_64 dX5_keeps_178 ?_
  refine zJ.sipush (v := 200) dX5_keeps_181 (by decide) ?_
  refine zG.callVv [.ref (z_adr o (42, 0, 0)), .int 200] [] (ob_23 o) ok_23 rfl dX5_keeps_184 ⟨(cb_X5_lays).1, (cb_X5_lays).2, (Nat.le_of_ble_eq_true rfl), (Nat.le_of_ble_eq_true rfl)⟩ ml_X5_109 ci_X5_lays cv_X5_lays rfl (Nat.le_of_ble_eq_true rfl) (Nat.le_of_ble_eq_true rfl) rfl h (fun S54 h2 => ?_)
  replace h := h2
  clear h2
  refine zJ.aload_n 0 dX5_keeps_187 rfl rfl ?_
  refine zJ.aload_n 0 dX5_keeps_188 rfl rfl ?_
  refine zE.getV (fd_23_19 o) ok_23 kiX5 (Nat.le_of_ble_eq_true rfl) fl_X5_67 dX5_keeps_189 ?_
  refine zJ.sipush (v := 200) dX5_keeps_192 (by decide) ?_
  refine zG.callVv [.ref (z_adr o (43, 0, 0)), .int 200] [] (ob_23 o) ok_23 rfl dX5_keeps_195 ⟨(cb_X5_lays).1, (cb_X5_lays).2, (Nat.le_of_ble_eq_true rfl), (Nat.le_of_ble_eq_true rfl)⟩ ml_X5_109 ci_X5_lays cv_X5_lays rfl (Nat.le_of_ble_eq_true rfl) (Nat.le_of_ble_eq_true rfl) rfl h (fun S57 h2 => ?_)
  replace h := h2
  clear h2
  refine zJ.aload_n 0 dX5_keeps_198 rfl rfl ?_
  refine zE.getV (fd_23_25 o) ok_23 kiX5 (Nat.le_of_ble_eq_true rfl) fl_X5_73 dX5_keeps_199 ?_
  refine zJ.iload_n 1 dX5_keeps_202 rfl rfl ?_
  refine zJ.aload_n 0 dX5_keeps_203 rfl rfl ?_
  refine zE.getF (fd_23_20 o) ok_23 kiX5 (Nat.le_of_ble_eq_true rfl) fl_X5_90 dX5_keeps_204 ?_
  obtain ⟨hq, h⟩ := h
  refine zE.astF (fa_45 o) ok_45 hq dX5_keeps_207 ?_
  refine zJ.aload_n 0 dX5_keeps_208 rfl rfl ?_
  refine zE.getV (fd_23_26 o) ok_23 kiX5 (Nat.le_of_ble_eq_true rfl) fl_X5_77 dX5_keeps_209 ?_
  refine zJ.iload_n 1 dX5_keeps_212 rfl rfl ?_
  refine zJ.aload_n 0 dX5_keeps_213 rfl rfl ?_
  refine zE.getL (fd_23_21 o) ok_23 kiX5 (Nat.le_of_ble_eq_true rfl) fl_X5_94 dX5_keeps_214 ?_
  obtain ⟨hq, h⟩ := h
  refine zE.astL (la_46 o) ok_46 hq dX5_keeps_217 ?_
  refine zJ.nameS (fun S58 hyS58 => ?_)
  replace h := h S58 hyS58
  refine zJ.aload_n 0 dX5_keeps_218 rfl rfl ?_
  refine zE.getV (fd_23_27 o) ok_23 kiX5 (Nat.le_of_ble_eq_true rfl) fl_X5_81 dX5_keeps_219 ?_
  refine zJ.iload_n 1 dX5_keeps_222 rfl rfl ?_
  refine zJ.aload_n 0 dX5_keeps_223 rfl rfl ?_
  refine zE.getL (fd_23_22 o) ok_23 kiX5 (Nat.le_of_ble_eq_true rfl) fl_X5_98 dX5_keeps_224 ?_
  obtain ⟨hq, h⟩ := h
  refine zE.astL (la_47 o) ok_47 hq dX5_keeps_227 ?_
  exact zG.ret (r := none) ⟨dX5_keeps_228, rfl⟩ h
set_option maxRecDepth 100000 in
set_option maxHeartbeats 4000000 in
theorem w_X5_comesBack_0 (o : zW) (x1 : Int32) (S : zS) (Q : Option Value → zS → Prop) (h : zGv o 994 mdX5_takes [.ref (z_adr o (23, 0, 0)), .ref (z_adr o (25, 0, 0)), .int 5] (sI S (23, 0, 0) 28 (1300 * x1)) (fun S3 => zGv o 994 mdX5_takes [.ref (z_adr o (23, 0, 0)), .ref (z_adr o (26, 0, 0)), .int 64] S3 (fun S6 => zGv o 994 mdX5_takes [.ref (z_adr o (23, 0, 0)), .ref (z_adr o (27, 0, 0)), .int 64] S6 (fun S9 => zGv o 994 mdX5_takes [.ref (z_adr o (23, 0, 0)), .ref (z_adr o (28, 0, 0)), .int 16] S9 (fun S12 => zGv o 994 mdX5_takes [.ref (z_adr o (23, 0, 0)), .ref (z_adr o (29, 0, 0)), .int 16] S12 (fun S15 => zGv o 994 mdX5_takes [.ref (z_adr o (23, 0, 0)), .ref (z_adr o (30, 0, 0)), .int 16] S15 (fun S18 => zGv o 994 mdX5_takes [.ref (z_adr o (23, 0, 0)), .ref (z_adr o (31, 0, 0)), .int 4] S18 (fun S21 => zGv o 994 mdX5_takes [.ref (z_adr o (23, 0, 0)), .ref (z_adr o (32, 0, 0)), .int 12] S21 (fun S24 => zGv o 994 mdX5_takes [.ref (z_adr o (23, 0, 0)), .ref (z_adr o (33, 0, 0)), .int 4] S24 (fun S27 => zGv o 994 mdX5_takes [.ref (z_adr o (23, 0, 0)), .ref (z_adr o (34, 0, 0)), .int 16] S27 (fun S30 => zGv o 994 mdX5_takes [.ref (z_adr o (23, 0, 0)), .ref (z_adr o (35, 0, 0)), .int 64] S30 (fun S33 => zGv o 994 mdX5_takes [.ref (z_adr o (23, 0, 0)), .ref (z_adr o (36, 0, 0)), .int 64] S33 (fun S36 => zGv o 994 mdX5_takes [.ref (z_adr o (23, 0, 0)), .ref (z_adr o (37, 0, 0)), .int 64] S36 (fun S39 => zGv o 994 mdX5_takes [.ref (z_adr o (23, 0, 0)), .ref (z_adr o (38, 0, 0)), .int 64] S39 (fun S42 => zGv o 994 mdX5_takes [.ref (z_adr o (23, 0, 0)), .ref (z_adr o (39, 0, 0)), .int 3] S42 (fun S45 => zGv o 994 mdX5_takes [.ref (z_adr o (23, 0, 0)), .ref (z_adr o (40, 0, 0)), .int 10] S45 (fun S48 => zGv o 994 mdX5_takes [.ref (z_adr o (23, 0, 0)), .ref (z_adr o (41, 0, 0)), .int 200] S48 (fun S51 => zGv o 994 mdX5_takes [.ref (z_adr o (23, 0, 0)), .ref (z_adr o (42, 0, 0)), .int 200] S51 (fun S54 => zGv o 994 mdX5_takes [.ref (z_adr o (23, 0, 0)), .ref (z_adr o (43, 0, 0)), .int 200] S54 (fun S57 => vp_in x1 7 ∧ (vp_in x1 7 ∧ (∀ S58 : zS, S58 = (sL (sF S57 (23, 0, 0) 20 (S57.2.2 (45, 0, 0) x1.toNatClampNeg)) (23, 0, 0) 21 ((sF S57 (23, 0, 0) 20 (S57.2.2 (45, 0, 0) x1.toNatClampNeg)).2.1 (46, 0, 0) x1.toNatClampNeg)) → (vp_in x1 7 ∧ (Q none (sL S58 (23, 0, 0) 22 (S58.2.1 (47, 0, 0) x1.toNatClampNeg)))))))))))))))))))))))))) : zG o 994 mdX5_comesBack 0 [(0, .ref (z_adr o (23, 0, 0))), (1, .int x1)] [] S Q := by
  show zJ o mdX5_comesBack 0 _ [] (994, z_enc o S) 0 0 _
  refine zJ.aload_n 0 dX5_comesBack_0 rfl rfl ?_
  refine zJ.sipush (v := 1300) dX5_comesBack_1 (by decide) ?_
  refine zJ.iload_n 1 dX5_comesBack_4 rfl rfl ?_
  refine zJ.imul dX5_comesBack_5 ?_
  refine zE.putI (fd_23_28 o) ok_23 kiX5 (Nat.le_of_ble_eq_true rfl) fl_X5_105 rfl rfl dX5_comesBack_6 ?_
  refine zJ.aload_n 0 dX5_comesBack_9 rfl rfl ?_
  refine zJ.aload_n 0 dX5_comesBack_10 rfl rfl ?_
  refine zE.getV (fd_23_1 o) ok_23 kiX5 (Nat.le_of_ble_eq_true rfl) fl_X5_13 dX5_comesBack_11 ?_
  refine zJ.iconst (v := 5) dX5_comesBack_14 (by decide) ?_
  refine zG.callVv [.ref (z_adr o (25, 0, 0)), .int 5] [] (ob_23 o) ok_23 rfl dX5_comesBack_15 ⟨(cb_X5_takes).1, (cb_X5_takes).2, (Nat.le_of_ble_eq_true rfl), (Nat.le_of_ble_eq_true rfl)⟩ ml_X5_113 ci_X5_takes cv_X5_takes rfl (Nat.le_of_ble_eq_true rfl) (Nat.le_of_ble_eq_true rfl) rfl h (fun S3 h2 => ?_)
  replace h := h2
  clear h2
  refine zJ.aload_n 0 dX5_comesBack_18 rfl rfl ?_
  refine zJ.aload_n 0 dX5_comesBack_19 rfl rfl ?_
  refine zE.getV (fd_23_2 o) ok_23 kiX5 (Nat.le_of_ble_eq_true rfl) fl_X5_16 dX5_comesBack_20 ?_
  refine zJ.bipush (v := 64) dX5_comesBack_23 (by decide) ?_
  refine zG.callVv [.ref (z_adr o (26, 0, 0)), .int 64] [] (ob_23 o) ok_23 rfl dX5_comesBack_25 ⟨(cb_X5_takes).1, (cb_X5_takes).2, (Nat.le_of_ble_eq_true rfl), (Nat.le_of_ble_eq_true rfl)⟩ ml_X5_113 ci_X5_takes cv_X5_takes rfl (Nat.le_of_ble_eq_true rfl) (Nat.le_of_ble_eq_true rfl) rfl h (fun S6 h2 => ?_)
  replace h := h2
  clear h2
  refine zJ.aload_n 0 dX5_comesBack_28 rfl rfl ?_
  refine zJ.aload_n 0 dX5_comesBack_29 rfl rfl ?_
  refine zE.getV (fd_23_3 o) ok_23 kiX5 (Nat.le_of_ble_eq_true rfl) fl_X5_19 dX5_comesBack_30 ?_
  refine zJ.bipush (v := 64) dX5_comesBack_33 (by decide) ?_
  refine zG.callVv [.ref (z_adr o (27, 0, 0)), .int 64] [] (ob_23 o) ok_23 rfl dX5_comesBack_35 ⟨(cb_X5_takes).1, (cb_X5_takes).2, (Nat.le_of_ble_eq_true rfl), (Nat.le_of_ble_eq_true rfl)⟩ ml_X5_113 ci_X5_takes cv_X5_takes rfl (Nat.le_of_ble_eq_true rfl) (Nat.le_of_ble_eq_true rfl) rfl h (fun S9 h2 => ?_)
  replace h := h2
  clear h2
  refine zJ.aload_n 0 dX5_comesBack_38 rfl rfl ?_
  refine zJ.aload_n 0 dX5_comesBack_39 rfl rfl ?_
  refine zE.getV (fd_23_4 o) ok_23 kiX5 (Nat.le_of_ble_eq_true rfl) fl_X5_22 dX5_comesBack_40 ?_
  refine zJ.bipush (v := 16) dX5_comesBack_43 (by decide) ?_
  refine zG.callVv [.ref (z_adr o (28, 0, 0)), .int 16] [] (ob_23 o) ok_23 rfl dX5_comesBack_45 ⟨(cb_X5_takes).1, (cb_X5_takes).2, (Nat.le_of_ble_eq_true rfl), (Nat.le_of_ble_eq_true rfl)⟩ ml_X5_113 ci_X5_takes cv_X5_takes rfl (Nat.le_of_ble_eq_true rfl) (Nat.le_of_ble_eq_true rfl) rfl h (fun S12 h2 => ?_)
  replace h := h2
  clear h2
  refine zJ.aload_n 0 dX5_comesBack_48 rfl rfl ?_
  refine zJ.aload_n 0 dX5_comesBack_49 rfl rfl ?_
  refine zE.getV (fd_23_5 o) ok_23 kiX5 (Nat.le_of_ble_eq_true rfl) fl_X5_25 dX5_comesBack_50 ?_
  refine zJ.bipush (v := 16) dX5_comesBack_53 (by decide) ?_
  refine zG.callVv [.ref (z_adr o (29, 0, 0)), .int 16] [] (ob_23 o) ok_23 rfl dX5_comesBack_55 ⟨(cb_X5_takes).1, (cb_X5_takes).2, (Nat.le_of_ble_eq_true rfl), (Nat.le_of_ble_eq_true rfl)⟩ ml_X5_113 ci_X5_takes cv_X5_takes rfl (Nat.le_of_ble_eq_true rfl) (Nat.le_of_ble_eq_true rfl) rfl h (fun S15 h2 => ?_)
  replace h := h2
  clear h2
  refine zJ.aload_n 0 dX5_comesBack_58 rfl rfl ?_
  refine zJ.aload_n 0 dX5_comesBack_59 rfl rfl ?_
  refine zE.getV (fd_23_6 o) ok_23 kiX5 (Nat.le_of_ble_eq_true rfl) fl_X5_28 dX5_comesBack_60 ?_
  refine zJ.bipush (v := 16) dX5_comesBack_63 (by decide) ?_
  refine zG.callVv [.ref (z_adr o (30, 0, 0)), .int 16] [] (ob_23 o) ok_23 rfl dX5_comesBack_65 ⟨(cb_X5_takes).1, (cb_X5_takes).2, (Nat.le_of_ble_eq_true rfl), (Nat.le_of_ble_eq_true rfl)⟩ ml_X5_113 ci_X5_takes cv_X5_takes rfl (Nat.le_of_ble_eq_true rfl) (Nat.le_of_ble_eq_true rfl) rfl h (fun S18 h2 => ?_)
  replace h := h2
  clear h2
  refine zJ.aload_n 0 dX5_comesBack_68 rfl rfl ?_
  refine zJ.aload_n 0 dX5_comesBack_69 rfl rfl ?_
  refine zE.getV (fd_23_7 o) ok_23 kiX5 (Nat.le_of_ble_eq_true rfl) fl_X5_31 dX5_comesBack_70 ?_
  refine zJ.iconst (v := 4) dX5_comesBack_73 (by decide) ?_
  refine zG.callVv [.ref (z_adr o (31, 0, 0)), .int 4] [] (ob_23 o) ok_23 rfl dX5_comesBack_74 ⟨(cb_X5_takes).1, (cb_X5_takes).2, (Nat.le_of_ble_eq_true rfl), (Nat.le_of_ble_eq_true rfl)⟩ ml_X5_113 ci_X5_takes cv_X5_takes rfl (Nat.le_of_ble_eq_true rfl) (Nat.le_of_ble_eq_true rfl) rfl h (fun S21 h2 => ?_)
  replace h := h2
  clear h2
  refine zJ.aload_n 0 dX5_comesBack_77 rfl rfl ?_
  refine zJ.aload_n 0 dX5_comesBack_78 rfl rfl ?_
  refine zE.getV (fd_23_8 o) ok_23 kiX5 (Nat.le_of_ble_eq_true rfl) fl_X5_34 dX5_comesBack_79 ?_
  refine zJ.bipush (v := 12) dX5_comesBack_82 (by decide) ?_
  refine zG.callVv [.ref (z_adr o (32, 0, 0)), .int 12] [] (ob_23 o) ok_23 rfl dX5_comesBack_84 ⟨(cb_X5_takes).1, (cb_X5_takes).2, (Nat.le_of_ble_eq_true rfl), (Nat.le_of_ble_eq_true rfl)⟩ ml_X5_113 ci_X5_takes cv_X5_takes rfl (Nat.le_of_ble_eq_true rfl) (Nat.le_of_ble_eq_true rfl) rfl h (fun S24 h2 => ?_)
  replace h := h2
  clear h2
  refine zJ.aload_n 0 dX5_comesBack_87 rfl rfl ?_
  refine zJ.aload_n 0 dX5_comesBack_88 rfl rfl ?_
  refine zE.getV (fd_23_9 o) ok_23 kiX5 (Nat.le_of_ble_eq_true rfl) fl_X5_37 dX5_comesBack_89 ?_
  refine zJ.iconst (v := 4) dX5_comesBack_92 (by decide) ?_
  refine zG.callVv [.ref (z_adr o (33, 0, 0)), .int 4] [] (ob_23 o) ok_23 rfl dX5_comesBack_93 ⟨(cb_X5_takes).1, (cb_X5_takes).2, (Nat.le_of_ble_eq_true rfl), (Nat.le_of_ble_eq_true rfl)⟩ ml_X5_113 ci_X5_takes cv_X5_takes rfl (Nat.le_of_ble_eq_true rfl) (Nat.le_of_ble_eq_true rfl) rfl h (fun S27 h2 => ?_)
  replace h := h2
  clear h2
  refine zJ.aload_n 0 dX5_comesBack_96 rfl rfl ?_
  refine zJ.aload_n 0 dX5_comesBack_97 rfl rfl ?_
  refine zE.getV (fd_23_10 o) ok_23 kiX5 (Nat.le_of_ble_eq_true rfl) fl_X5_40 dX5_comesBack_98 ?_
  refine zJ.bipush (v := 16) dX5_comesBack_101 (by decide) ?_
  refine zG.callVv [.ref (z_adr o (34, 0, 0)), .int 16] [] (ob_23 o) ok_23 rfl dX5_comesBack_103 ⟨(cb_X5_takes).1, (cb_X5_takes).2, (Nat.le_of_ble_eq_true rfl), (Nat.le_of_ble_eq_true rfl)⟩ ml_X5_113 ci_X5_takes cv_X5_takes rfl (Nat.le_of_ble_eq_true rfl) (Nat.le_of_ble_eq_true rfl) rfl h (fun S30 h2 => ?_)
  replace h := h2
  clear h2
  refine zJ.aload_n 0 dX5_comesBack_106 rfl rfl ?_
  refine zJ.aload_n 0 dX5_comesBack_107 rfl rfl ?_
  refine zE.getV (fd_23_11 o) ok_23 kiX5 (Nat.le_of_ble_eq_true rfl) fl_X5_43 dX5_comesBack_108 ?_
  refine zJ.bipush (v := 64) dX5_comesBack_111 (by decide) ?_
  refine zG.callVv [.ref (z_adr o (35, 0, 0)), .int 64] [] (ob_23 o) ok_23 rfl dX5_comesBack_113 ⟨(cb_X5_takes).1, (cb_X5_takes).2, (Nat.le_of_ble_eq_true rfl), (Nat.le_of_ble_eq_true rfl)⟩ ml_X5_113 ci_X5_takes cv_X5_takes rfl (Nat.le_of_ble_eq_true rfl) (Nat.le_of_ble_eq_true rfl) rfl h (fun S33 h2 => ?_)
  replace h := h2
  clear h2
  refine zJ.aload_n 0 dX5_comesBack_116 rfl rfl ?_
  refine zJ.aload_n 0 dX5_comesBack_117 rfl rfl ?_
  refine zE.getV (fd_23_12 o) ok_23 kiX5 (Nat.le_of_ble_eq_true rfl) fl_X5_46 dX5_comesBack_118 ?_
  refine zJ.bipush (v := 64) dX5_comesBack_121 (by decide) ?_
  refine zG.callVv [.ref (z_adr o (36, 0, 0)), .int 64] [] (ob_23 o) ok_23 rfl dX5_comesBack_123 ⟨(cb_X5_takes).1, (cb_X5_takes).2, (Nat.le_of_ble_eq_true rfl), (Nat.le_of_ble_eq_true rfl)⟩ ml_X5_113 ci_X5_takes cv_X5_takes rfl (Nat.le_of_ble_eq_true rfl) (Nat.le_of_ble_eq_true rfl) rfl h (fun S36 h2 => ?_)
  replace h := h2
  clear h2
  refine zJ.aload_n 0 dX5_comesBack_126 rfl rfl ?_
  refine zJ.aload_n 0 dX5_comesBack_127 rfl rfl ?_
  refine zE.getV (fd_23_13 o) ok_23 kiX5 (Nat.le_of_ble_eq_true rfl) fl_X5_49 dX5_comesBack_128 ?_
  refine zJ.bipush (v := 64) dX5_comesBack_131 (by decide) ?_
  refine zG.callVv [.ref (z_adr o (37, 0, 0)), .int 64] [] (ob_23 o) ok_23 rfl dX5_comesBack_133 ⟨(cb_X5_takes).1, (cb_X5_takes).2, (Nat.le_of_ble_eq_true rfl), (Nat.le_of_ble_eq_true rfl)⟩ ml_X5_113 ci_X5_takes cv_X5_takes rfl (Nat.le_of_ble_eq_true rfl) (Nat.le_of_ble_eq_true rfl) rfl h (fun S39 h2 => ?_)
  replace h := h2
  clear h2
  refine zJ.aload_n 0 dX5_comesBack_136 rfl rfl ?_
  refine zJ.aload_n 0 dX5_comesBack_137 rfl rfl ?_
  refine zE.getV (fd_23_14 o) ok_23 kiX5 (Nat.le_of_ble_eq_true rfl) fl_X5_52 dX5_comesBack_138 ?_
  refine zJ.bipush (v := 64) dX5_comesBack_141 (by decide) ?_
  refine zG.callVv [.ref (z_adr o (38, 0, 0)), .int 64] [] (ob_23 o) ok_23 rfl dX5_comesBack_143 ⟨(cb_X5_takes).1, (cb_X5_takes).2, (Nat.le_of_ble_eq_true rfl), (Nat.le_of_ble_eq_true rfl)⟩ ml_X5_113 ci_X5_takes cv_X5_takes rfl (Nat.le_of_ble_eq_true rfl) (Nat.le_of_ble_eq_true rfl) rfl h (fun S42 h2 => ?_)
  replace h := h2
  clear h2
  refine zJ.aload_n 0 dX5_comesBack_146 rfl rfl ?_
  refine zJ.aload_n 0 dX5_comesBack_147 rfl rfl ?_
  refine zE.getV (fd_23_15 o) ok_23 kiX5 (Nat.le_of_ble_eq_true rfl) fl_X5_55 dX5_comesBack_148 ?_
  refine zJ.iconst (v := 3) dX5_comesBack_151 (by decide) ?_
  refine zG.callVv [.ref (z_adr o (39, 0, 0)), .int 3] [] (ob_23 o) ok_23 rfl dX5_comesBack_152 ⟨(cb_X5_takes).1, (cb_X5_takes).2, (Nat.le_of_ble_eq_true rfl), (Nat.le_of_ble_eq_true rfl)⟩ ml_X5_113 ci_X5_takes cv_X5_takes rfl (Nat.le_of_ble_eq_true rfl) (Nat.le_of_ble_eq_true rfl) rfl h (fun S45 h2 => ?_)
  replace h := h2
  clear h2
  refine zJ.aload_n 0 dX5_comesBack_155 rfl rfl ?_
  refine zJ.aload_n 0 dX5_comesBack_156 rfl rfl ?_
  refine zE.getV (fd_23_16 o) ok_23 kiX5 (Nat.le_of_ble_eq_true rfl) fl_X5_58 dX5_comesBack_157 ?_
  refine zJ.bipush (v := 10) dX5_comesBack_160 (by decide) ?_
  refine zG.callVv [.ref (z_adr o (40, 0, 0)), .int 10] [] (ob_23 o) ok_23 rfl dX5_comesBack_162 ⟨(cb_X5_takes).1, (cb_X5_takes).2, (Nat.le_of_ble_eq_true rfl), (Nat.le_of_ble_eq_true rfl)⟩ ml_X5_113 ci_X5_takes cv_X5_takes rfl (Nat.le_of_ble_eq_true rfl) (Nat.le_of_ble_eq_true rfl) rfl h (fun S48 h2 => ?_)
  replace h := h2
  clear h2
  refine zJ.aload_n 0 dX5_comesBack_165 rfl rfl ?_
  refine zJ.aload_n 0 dX5_comesBack_166 rfl rfl ?_
  refine zE.getV (fd_23_17 o) ok_23 kiX5 (Nat.le_of_ble_eq_true rfl) fl_X5_61 dX5_comesBack_167 ?_
  refine zJ.sipush (v := 200) dX5_comesBack_170 (by decide) ?_
  refine zG.callVv [.ref (z_adr o (41, 0, 0)), .int 200] [] (ob_23 o) ok_23 rfl dX5_comesBack_173 ⟨(cb_X5_takes).1, (cb_X5_takes).2, (Nat.le_of_ble_eq_true rfl), (Nat.le_of_ble_eq_true rfl)⟩ ml_X5_113 ci_X5_takes cv_X5_takes rfl (Nat.le_of_ble_eq_true rfl) (Nat.le_of_ble_eq_true rfl) rfl h (fun S51 h2 => ?_)
  replace h := h2
  clear h2
  refine zJ.aload_n 0 dX5_comesBack_176 rfl rfl ?_
  refine zJ.aload_n 0 dX5_comesBack_177 rfl rfl ?_
  refine zE.getV (fd_23_18 o) ok_23 kiX5 (Nat.le_of_ble_eq_true rfl) fl_X5_64 dX5_comesBack_178 ?_
  refine zJ.sipush (v := 200) dX5_comesBack_181 (by decide) ?_
  refine zG.callVv [.ref (z_adr o (42, 0, 0)), .int 200] [] (ob_23 o) ok_23 rfl dX5_comesBack_184 ⟨(cb_X5_takes).1, (cb_X5_takes).2, (Nat.le_of_ble_eq_true rfl), (Nat.le_of_ble_eq_true rfl)⟩ ml_X5_113 ci_X5_takes cv_X5_takes rfl (Nat.le_of_ble_eq_true rfl) (Nat.le_of_ble_eq_true rfl) rfl h (fun S54 h2 => ?_)
  replace h := h2
  clear h2
  refine zJ.aload_n 0 dX5_comesBack_187 rfl rfl ?_
  refine zJ.aload_n 0 dX5_comesBack_188 rfl rfl ?_
  refine zE.getV (fd_23_19 o) ok_23 kiX5 (Nat.le_of_ble_eq_true rfl) fl_X5_67 dX5_comesBack_189 ?_
  refine zJ.sipush (v := 200) dX5_comesBack_192 (by decide) ?_
  refine zG.callVv [.ref (z_adr o (43, 0, 0)), .int 200] [] (ob_23 o) ok_23 rfl dX5_comesBack_195 ⟨(cb_X5_takes).1, (cb_X5_takes).2, (Nat.le_of_ble_eq_true rfl), (Nat.le_of_ble_eq_true rfl)⟩ ml_X5_113 ci_X5_takes cv_X5_takes rfl (Nat.le_of_ble_eq_true rfl) (Nat.le_of_ble_eq_true rfl) rfl h (fun S57 h2 => ?_)
  replace h := h2
  clear h2
  refine zJ.aload_n 0 dX5_comesBack_198 rfl rfl ?_
  refine zJ.aload_n 0 dX5_comesBack_199 rfl rfl ?_
  refine zE.getV (fd_23_25 o) ok_23 kiX5 (Nat.le_of_ble_eq_true rfl) fl_X5_73 dX5_comesBack_200 ?_
  refine zJ.iload_n 1 dX5_comesBack_203 rfl rfl ?_
  obtain ⟨hq, h⟩ := h
  refine zE.aldF (fa_45 o) ok_45 hq dX5_comesBack_204 ?_
  refine zE.putF (fd_23_20 o) ok_23 kiX5 (Nat.le_of_ble_eq_true rfl) fl_X5_90 rfl rfl dX5_comesBack_205 ?_
  refine zJ.aload_n 0 dX5_comesBack_208 rfl rfl ?_
  refine zJ.aload_n 0 dX5_comesBack_209 rfl rfl ?_
  refine zE.getV (fd_23_26 o) ok_23 kiX5 (Nat.le_of_ble_eq_true rfl) fl_X5_77 dX5_comesBack_210 ?_
  refine zJ.iload_n 1 dX5_comesBack_213 rfl rfl ?_
  obtain ⟨hq, h⟩ := h
  refine zE.aldL (la_46 o) ok_46 hq dX5_comesBack_214 ?_
  refine zE.putL (fd_23_21 o) ok_23 kiX5 (Nat.le_of_ble_eq_true rfl) fl_X5_94 rfl rfl dX5_comesBack_215 ?_
  refine zJ.nameS (fun S58 hyS58 => ?_)
  replace h := h S58 hyS58
  refine zJ.aload_n 0 dX5_comesBack_218 rfl rfl ?_
  refine zJ.aload_n 0 dX5_comesBack_219 rfl rfl ?_
  refine zE.getV (fd_23_27 o) ok_23 kiX5 (Nat.le_of_ble_eq_true rfl) fl_X5_81 dX5_comesBack_220 ?_
  refine zJ.iload_n 1 dX5_comesBack_223 rfl rfl ?_
  obtain ⟨hq, h⟩ := h
  refine zE.aldL (la_47 o) ok_47 hq dX5_comesBack_224 ?_
  refine zE.putL (fd_23_22 o) ok_23 kiX5 (Nat.le_of_ble_eq_true rfl) fl_X5_98 rfl rfl dX5_comesBack_225 ?_
  exact zG.ret (r := none) ⟨dX5_comesBack_228, rfl⟩ h
set_option maxRecDepth 100000 in
set_option maxHeartbeats 4000000 in
theorem w_X5_leavesState_0 (o : zW)  (S : zS) (Q : Option Value → zS → Prop) (h : (¬ (S.1 (23, 0, 0) 23) = 6 → (zGv o 994 mdX5_keeps [.ref (z_adr o (23, 0, 0)), .int (S.1 (23, 0, 0) 23)] S (fun S4 => Q none (sI S4 (23, 0, 0) 23 ((S4.1 (23, 0, 0) 23) + 1))))) ∧ ((S.1 (23, 0, 0) 23) = 6 → (zG o 994 mdX5_leavesState 11 [(0, .ref (z_adr o (23, 0, 0))), (1, .int 0)] [] S Q))) : zG o 994 mdX5_leavesState 0 [(0, .ref (z_adr o (23, 0, 0)))] [] S Q := by
  show zJ o mdX5_leavesState 0 _ [] (994, z_enc o S) 0 0 _
  refine zJ.aload_n 0 dX5_leavesState_0 rfl rfl ?_
  refine zE.getI (fd_23_23 o) ok_23 kiX5 (Nat.le_of_ble_eq_true rfl) fl_X5_116 dX5_leavesState_1 ?_
  refine zJ.bipush (v := 6) dX5_leavesState_4 (by decide) ?_
  refine zJ.icmp_ne (tgt := 105) dX5_leavesState_6 (by decide) (fun c1 => ?_) (fun c1 => ?_)
  · replace h := h.1 c1
    refine zJ.aload_n 0 dX5_leavesState_105 rfl rfl ?_
    refine zJ.aload_n 0 dX5_leavesState_106 rfl rfl ?_
    refine zE.getI (fd_23_23 o) ok_23 kiX5 (Nat.le_of_ble_eq_true rfl) fl_X5_116 dX5_leavesState_107 ?_
    refine zG.callVv [.int (S.1 (23, 0, 0) 23)] [] (ob_23 o) ok_23 rfl dX5_leavesState_110 ⟨(cb_X5_keeps).1, (cb_X5_keeps).2, (Nat.le_of_ble_eq_true rfl), (Nat.le_of_ble_eq_true rfl)⟩ ml_X5_119 ci_X5_keeps cv_X5_keeps rfl (Nat.le_of_ble_eq_true rfl) (Nat.le_of_ble_eq_true rfl) rfl h (fun S4 h2 => ?_)
    replace h := h2
    clear h2
    refine zJ.aload_n 0 dX5_leavesState_113 rfl rfl ?_
    refine zJ.dup dX5_leavesState_114 rfl ?_
    refine zE.getI (fd_23_23 o) ok_23 kiX5 (Nat.le_of_ble_eq_true rfl) fl_X5_116 dX5_leavesState_115 ?_
    refine zJ.iconst (v := 1) dX5_leavesState_118 (by decide) ?_
    refine zJ.iadd dX5_leavesState_119 ?_
    refine zE.putI (fd_23_23 o) ok_23 kiX5 (Nat.le_of_ble_eq_true rfl) fl_X5_116 rfl rfl dX5_leavesState_120 ?_
    exact zG.ret (r := none) ⟨dX5_leavesState_123, rfl⟩ h
  · replace h := h.2 c1
    refine zJ.iconst (v := 0) dX5_leavesState_9 (by decide) ?_
    refine zJ.istore_n (lv' := [(1, .int 0), (0, .ref (z_adr o (23, 0, 0)))]) dX5_leavesState_10 rfl (Nat.le_of_ble_eq_true rfl) rfl ?_
    exact zJ.sub [1, 0] rfl h
set_option maxRecDepth 100000 in
set_option maxHeartbeats 4000000 in
theorem w_X5_leavesState_11 (o : zW) (x1 : Int32) (S : zS) (Q : Option Value → zS → Prop) (h : (6500 ≤ x1 → (zG o 994 mdX5_leavesState 42 [(0, .ref (z_adr o (23, 0, 0))), (1, .int 0)] [] S Q)) ∧ (¬ 6500 ≤ x1 → (vp_in (x1 + 1300) 9100 ∧ (vp_in x1 9100 ∧ (∀ S2 : zS, S2 = (sI S (44, 0, 0) (x1.toNatClampNeg) (S.1 (44, 0, 0) ((x1 + 1300).toNatClampNeg))) → (zG o 994 mdX5_leavesState 11 [(0, .ref (z_adr o (23, 0, 0))), (1, .int (x1 + 1))] [] S2 Q)))))) : zG o 994 mdX5_leavesState 11 [(0, .ref (z_adr o (23, 0, 0))), (1, .int x1)] [] S Q := by
  show zJ o mdX5_leavesState 11 _ [] (994, z_enc o S) 0 0 _
  refine zJ.iload_n 1 dX5_leavesState_11 rfl rfl ?_
  refine zJ.sipush (v := 6500) dX5_leavesState_12 (by decide) ?_
  refine zJ.icmp_ge (tgt := 40) dX5_leavesState_15 (by decide) (fun c1 => ?_) (fun c1 => ?_)
  · replace h := h.1 c1
    refine zJ.iconst (v := 0) dX5_leavesState_40 (by decide) ?_
    refine zJ.istore_n (lv' := [(1, .int 0), (0, .ref (z_adr o (23, 0, 0)))]) dX5_leavesState_41 rfl (Nat.le_of_ble_eq_true rfl) rfl ?_
    exact zJ.sub [1, 0] rfl h
  · replace h := h.2 c1
    refine zJ.aload_n 0 dX5_leavesState_18 rfl rfl ?_
    refine zE.getV (fd_23_24 o) ok_23 kiX5 (Nat.le_of_ble_eq_true rfl) fl_X5_70 dX5_leavesState_19 ?_
    refine zJ.iload_n 1 dX5_leavesState_22 rfl rfl ?_
    refine zJ.aload_n 0 dX5_leavesState_23 rfl rfl ?_
    refine zE.getV (fd_23_24 o) ok_23 kiX5 (Nat.le_of_ble_eq_true rfl) fl_X5_70 dX5_leavesState_24 ?_
    refine zJ.iload_n 1 dX5_leavesState_27 rfl rfl ?_
    refine zJ.sipush (v := 1300) dX5_leavesState_28 (by decide) ?_
    refine zJ.iadd dX5_leavesState_31 ?_
    obtain ⟨hq, h⟩ := h
    refine zE.aldI (ia_44 o) ok_44 hq dX5_leavesState_32 ?_
    obtain ⟨hq, h⟩ := h
    refine zE.astI (ia_44 o) ok_44 hq dX5_leavesState_33 ?_
    refine zJ.nameS (fun S2 hyS2 => ?_)
    replace h := h S2 hyS2
    refine zJ.iinc (k := 1) (lv' := [(1, .int (x1 + 1)), (0, .ref (z_adr o (23, 0, 0)))]) dX5_leavesState_34 rfl rfl (Nat.le_of_ble_eq_true rfl) rfl ?_
    refine zJ.goto (tgt := 11) dX5_leavesState_37 (by decide) ?_
    exact zJ.sub [1, 0] rfl h
set_option maxRecDepth 100000 in
set_option maxHeartbeats 4000000 in
theorem w_X5_leavesState_42 (o : zW) (x1 : Int32) (S : zS) (Q : Option Value → zS → Prop) (h : (5 ≤ x1 → (∀ y2 : Int32, y2 = ((sI S (23, 0, 0) 23 ((S.1 (23, 0, 0) 23) - 1)).1 (23, 0, 0) 23) → (zGv o 994 mdX5_keeps [.ref (z_adr o (23, 0, 0)), .int y2] (sI S (23, 0, 0) 23 ((S.1 (23, 0, 0) 23) - 1)) (fun S5 => Q none (sI S5 (23, 0, 0) 23 ((S5.1 (23, 0, 0) 23) + 1)))))) ∧ (¬ 5 ≤ x1 → (vp_in (x1 + 1) 7 ∧ (vp_in x1 7 ∧ (∀ S6 : zS, S6 = (sF S (45, 0, 0) (x1.toNatClampNeg) (S.2.2 (45, 0, 0) ((x1 + 1).toNatClampNeg))) → (vp_in (x1 + 1) 7 ∧ (vp_in x1 7 ∧ (∀ S7 : zS, S7 = (sL S6 (46, 0, 0) (x1.toNatClampNeg) (S6.2.1 (46, 0, 0) ((x1 + 1).toNatClampNeg))) → (vp_in (x1 + 1) 7 ∧ (vp_in x1 7 ∧ (∀ S8 : zS, S8 = (sL S7 (47, 0, 0) (x1.toNatClampNeg) (S7.2.1 (47, 0, 0) ((x1 + 1).toNatClampNeg))) → (zG o 994 mdX5_leavesState 42 [(0, .ref (z_adr o (23, 0, 0))), (1, .int (x1 + 1))] [] S8 Q)))))))))))) : zG o 994 mdX5_leavesState 42 [(0, .ref (z_adr o (23, 0, 0))), (1, .int x1)] [] S Q := by
  show zJ o mdX5_leavesState 42 _ [] (994, z_enc o S) 0 0 _
  refine zJ.iload_n 1 dX5_leavesState_42 rfl rfl ?_
  refine zJ.iconst (v := 5) dX5_leavesState_43 (by decide) ?_
  refine zJ.icmp_ge (tgt := 95) dX5_leavesState_44 (by decide) (fun c1 => ?_) (fun c1 => ?_)
  · replace h := h.1 c1
    refine zJ.aload_n 0 dX5_leavesState_95 rfl rfl ?_
    refine zJ.dup dX5_leavesState_96 rfl ?_
    refine zE.getI (fd_23_23 o) ok_23 kiX5 (Nat.le_of_ble_eq_true rfl) fl_X5_116 dX5_leavesState_97 ?_
    refine zJ.iconst (v := 1) dX5_leavesState_100 (by decide) ?_
    refine zJ.isub dX5_leavesState_101 ?_
    refine zE.putI (fd_23_23 o) ok_23 kiX5 (Nat.le_of_ble_eq_true rfl) fl_X5_116 rfl rfl dX5_leavesState_102 ?_
    refine zJ.aload_n 0 dX5_leavesState_105 rfl rfl ?_
    refine zJ.aload_n 0 dX5_leavesState_106 rfl rfl ?_
    refine zE.getI (fd_23_23 o) ok_23 kiX5 (Nat.le_of_ble_eq_true rfl) fl_X5_116 dX5_leavesState_107 ?_
    refine zJ.topi (fun y2 hyy2 => ?_)
    replace h := h y2 hyy2
    refine zG.callVv [.int y2] [] (ob_23 o) ok_23 rfl dX5_leavesState_110 ⟨(cb_X5_keeps).1, (cb_X5_keeps).2, (Nat.le_of_ble_eq_true rfl), (Nat.le_of_ble_eq_true rfl)⟩ ml_X5_119 ci_X5_keeps cv_X5_keeps rfl (Nat.le_of_ble_eq_true rfl) (Nat.le_of_ble_eq_true rfl) rfl h (fun S5 h2 => ?_)
    replace h := h2
    clear h2
    refine zJ.aload_n 0 dX5_leavesState_113 rfl rfl ?_
    refine zJ.dup dX5_leavesState_114 rfl ?_
    refine zE.getI (fd_23_23 o) ok_23 kiX5 (Nat.le_of_ble_eq_true rfl) fl_X5_116 dX5_leavesState_115 ?_
    refine zJ.iconst (v := 1) dX5_leavesState_118 (by decide) ?_
    refine zJ.iadd dX5_leavesState_119 ?_
    refine zE.putI (fd_23_23 o) ok_23 kiX5 (Nat.le_of_ble_eq_true rfl) fl_X5_116 rfl rfl dX5_leavesState_120 ?_
    exact zG.ret (r := none) ⟨dX5_leavesState_123, rfl⟩ h
  · replace h := h.2 c1
    refine zJ.aload_n 0 dX5_leavesState_47 rfl rfl ?_
    refine zE.getV (fd_23_25 o) ok_23 kiX5 (Nat.le_of_ble_eq_true rfl) fl_X5_73 dX5_leavesState_48 ?_
    refine zJ.iload_n 1 dX5_leavesState_51 rfl rfl ?_
    refine zJ.aload_n 0 dX5_leavesState_52 rfl rfl ?_
    refine zE.getV (fd_23_25 o) ok_23 kiX5 (Nat.le_of_ble_eq_true rfl) fl_X5_73 dX5_leavesState_53 ?_
    refine zJ.iload_n 1 dX5_leavesState_56 rfl rfl ?_
    refine zJ.iconst (v := 1) dX5_leavesState_57 (by decide) ?_
    refine zJ.iadd dX5_leavesState_58 ?_
    obtain ⟨hq, h⟩ := h
    refine zE.aldF (fa_45 o) ok_45 hq dX5_leavesState_59 ?_
    obtain ⟨hq, h⟩ := h
    refine zE.astF (fa_45 o) ok_45 hq dX5_leavesState_60 ?_
    refine zJ.nameS (fun S6 hyS6 => ?_)
    replace h := h S6 hyS6
    refine zJ.aload_n 0 dX5_leavesState_61 rfl rfl ?_
    refine zE.getV (fd_23_26 o) ok_23 kiX5 (Nat.le_of_ble_eq_true rfl) fl_X5_77 dX5_leavesState_62 ?_
    refine zJ.iload_n 1 dX5_leavesState_65 rfl rfl ?_
    refine zJ.aload_n 0 dX5_leavesState_66 rfl rfl ?_
    refine zE.getV (fd_23_26 o) ok_23 kiX5 (Nat.le_of_ble_eq_true rfl) fl_X5_77 dX5_leavesState_67 ?_
    refine zJ.iload_n 1 dX5_leavesState_70 rfl rfl ?_
    refine zJ.iconst (v := 1) dX5_leavesState_71 (by decide) ?_
    refine zJ.iadd dX5_leavesState_72 ?_
    obtain ⟨hq, h⟩ := h
    refine zE.aldL (la_46 o) ok_46 hq dX5_leavesState_73 ?_
    obtain ⟨hq, h⟩ := h
    refine zE.astL (la_46 o) ok_46 hq dX5_leavesState_74 ?_
    refine zJ.nameS (fun S7 hyS7 => ?_)
    replace h := h S7 hyS7
    refine zJ.aload_n 0 dX5_leavesState_75 rfl rfl ?_
    refine zE.getV (fd_23_27 o) ok_23 kiX5 (Nat.le_of_ble_eq_true rfl) fl_X5_81 dX5_leavesState_76 ?_
    refine zJ.iload_n 1 dX5_leavesState_79 rfl rfl ?_
    refine zJ.aload_n 0 dX5_leavesState_80 rfl rfl ?_
    refine zE.getV (fd_23_27 o) ok_23 kiX5 (Nat.le_of_ble_eq_true rfl) fl_X5_81 dX5_leavesState_81 ?_
    refine zJ.iload_n 1 dX5_leavesState_84 rfl rfl ?_
    refine zJ.iconst (v := 1) dX5_leavesState_85 (by decide) ?_
    refine zJ.iadd dX5_leavesState_86 ?_
    obtain ⟨hq, h⟩ := h
    refine zE.aldL (la_47 o) ok_47 hq dX5_leavesState_87 ?_
    obtain ⟨hq, h⟩ := h
    refine zE.astL (la_47 o) ok_47 hq dX5_leavesState_88 ?_
    refine zJ.nameS (fun S8 hyS8 => ?_)
    replace h := h S8 hyS8
    refine zJ.iinc (k := 1) (lv' := [(1, .int (x1 + 1)), (0, .ref (z_adr o (23, 0, 0)))]) dX5_leavesState_89 rfl rfl (Nat.le_of_ble_eq_true rfl) rfl ?_
    refine zJ.goto (tgt := 42) dX5_leavesState_92 (by decide) ?_
    exact zJ.sub [1, 0] rfl h
set_option maxRecDepth 100000 in
set_option maxHeartbeats 4000000 in
theorem w_X5_back_0 (o : zW)  (S : zS) (Q : Option Value → zS → Prop) (h : (¬ (S.1 (23, 0, 0) 23) = 0 → (∀ y2 : Int32, y2 = ((sI S (23, 0, 0) 23 ((S.1 (23, 0, 0) 23) - 1)).1 (23, 0, 0) 23) → (zGv o 994 mdX5_comesBack [.ref (z_adr o (23, 0, 0)), .int y2] (sI S (23, 0, 0) 23 ((S.1 (23, 0, 0) 23) - 1)) (fun S5 => Q (some (.int (S5.1 (23, 0, 0) 23))) S5)))) ∧ ((S.1 (23, 0, 0) 23) = 0 → (Q (some (.int (-3))) (sI S (24, 0, 0) 1 ((S.1 (24, 0, 0) 1) + 1))))) : zG o 994 mdX5_back 0 [(0, .ref (z_adr o (23, 0, 0)))] [] S Q := by
  show zJ o mdX5_back 0 _ [] (994, z_enc o S) 0 0 _
  refine zJ.aload_n 0 dX5_back_0 rfl rfl ?_
  refine zE.getI (fd_23_23 o) ok_23 kiX5 (Nat.le_of_ble_eq_true rfl) fl_X5_116 dX5_back_1 ?_
  refine zJ.if_ne (tgt := 20) dX5_back_4 (by decide) (fun c1 => ?_) (fun c1 => ?_)
  · replace h := h.1 c1
    refine zJ.aload_n 0 dX5_back_20 rfl rfl ?_
    refine zJ.dup dX5_back_21 rfl ?_
    refine zE.getI (fd_23_23 o) ok_23 kiX5 (Nat.le_of_ble_eq_true rfl) fl_X5_116 dX5_back_22 ?_
    refine zJ.iconst (v := 1) dX5_back_25 (by decide) ?_
    refine zJ.isub dX5_back_26 ?_
    refine zE.putI (fd_23_23 o) ok_23 kiX5 (Nat.le_of_ble_eq_true rfl) fl_X5_116 rfl rfl dX5_back_27 ?_
    refine zJ.aload_n 0 dX5_back_30 rfl rfl ?_
    refine zJ.aload_n 0 dX5_back_31 rfl rfl ?_
    refine zE.getI (fd_23_23 o) ok_23 kiX5 (Nat.le_of_ble_eq_true rfl) fl_X5_116 dX5_back_32 ?_
    refine zJ.topi (fun y2 hyy2 => ?_)
    replace h := h y2 hyy2
    refine zG.callVv [.int y2] [] (ob_23 o) ok_23 rfl dX5_back_35 ⟨(cb_X5_comesBack).1, (cb_X5_comesBack).2, (Nat.le_of_ble_eq_true rfl), (Nat.le_of_ble_eq_true rfl)⟩ ml_X5_123 ci_X5_comesBack cv_X5_comesBack rfl (Nat.le_of_ble_eq_true rfl) (Nat.le_of_ble_eq_true rfl) rfl h (fun S5 h2 => ?_)
    replace h := h2
    clear h2
    refine zJ.aload_n 0 dX5_back_38 rfl rfl ?_
    refine zE.getI (fd_23_23 o) ok_23 kiX5 (Nat.le_of_ble_eq_true rfl) fl_X5_116 dX5_back_39 ?_
    exact zG.ret (r := some (.int (S5.1 (23, 0, 0) 23))) ⟨dX5_back_42, _, rfl, rfl⟩ h
  · replace h := h.2 c1
    refine zJ.aload_n 0 dX5_back_7 rfl rfl ?_
    refine zE.getV (fd_23_0 o) ok_23 kiX5 (Nat.le_of_ble_eq_true rfl) fl_X5_1 dX5_back_8 ?_
    refine zJ.iconst (v := 1) dX5_back_11 (by decide) ?_
    refine zJ.dup2_11 dX5_back_12 rfl rfl ?_
    refine zE.aldI (ia_24 o) ok_24 (by unfold vp_in; decide) dX5_back_13 ?_
    refine zJ.iconst (v := 1) dX5_back_14 (by decide) ?_
    refine zJ.iadd dX5_back_15 ?_
    refine zE.astI (ia_24 o) ok_24 (by unfold vp_in; decide) dX5_back_16 ?_
    refine zJ.bipush (v := (-3)) dX5_back_17 (by decide) ?_
    exact zG.ret (r := some (.int (-3))) ⟨dX5_back_19, _, rfl, rfl⟩ h
set_option maxRecDepth 100000 in
set_option maxHeartbeats 4000000 in
theorem w_X5_may_0 (o : zW) (x0 : Int32) (x1 : Int32) (S : zS) (Q : Option Value → zS → Prop) (h : (x0 = 0 → (zGi o 994 mdX5_in [.int x1, .int 1, .int 3] S (fun r2 S3 => narrow .boolean (.int r2) = .int r2 ∧ Q (some (.int r2)) S3))) ∧ (x0 = 1 → (zGi o 994 mdX5_in [.int x1, .int 0, .int 3] S (fun r5 S6 => narrow .boolean (.int r5) = .int r5 ∧ Q (some (.int r5)) S6))) ∧ (x0 = 4 → (zGi o 994 mdX5_in [.int x1, .int 1, .int 20] S (fun r8 S9 => narrow .boolean (.int r8) = .int r8 ∧ Q (some (.int r8)) S9))) ∧ (¬ x0 = 0 → ¬ x0 = 1 → ¬ x0 = 4 → (zGi o 994 mdX5_in [.int x0, .int 2, .int 3] S (fun r11 S12 => (r11 = 0 → (Q (some (.int 0)) S12)) ∧ (¬ r11 = 0 → (zGi o 994 mdX5_in [.int x1, .int 1, .int 4] S12 (fun r15 S16 => (r15 = 0 → (Q (some (.int 0)) S16)) ∧ (¬ r15 = 0 → (Q (some (.int 1)) S16))))))))) : zG o 994 mdX5_may 0 [(0, .int x0), (1, .int x1)] [] S Q := by
  show zJ o mdX5_may 0 _ [] (994, z_enc o S) 0 0 _
  refine zJ.iload_n 0 dX5_may_0 rfl rfl ?_
  by_cases q0 : x0 = 0
  · replace h := h.1 q0
    refine zJ.tableIn (tgt := 36) dX5_may_1 (by rw [q0]; decide) (by rw [q0]; decide) (by rw [q0]; rfl) (by decide) ?_
    refine zJ.iload_n 1 dX5_may_36 rfl rfl ?_
    refine zJ.iconst (v := 1) dX5_may_37 (by decide) ?_
    refine zJ.iconst (v := 3) dX5_may_38 (by decide) ?_
    refine zG.callSi [.int x1, .int 1, .int 3] [] dX5_may_39 ⟨(cb_X5_in).1, (cb_X5_in).2, (Nat.le_of_ble_eq_true rfl), (Nat.le_of_ble_eq_true rfl)⟩ ml_X5_101 cs_X5_in rfl (Nat.le_of_ble_eq_true rfl) (Nat.le_of_ble_eq_true rfl) rfl h (fun r2 S3 h2 => ?_)
    replace h := h2
    clear h2
    exact zG.ret (r := some (.int r2)) ⟨dX5_may_42, _, rfl, h.1⟩ h.2
  by_cases q1 : x0 = 1
  · replace h := h.2.1 q1
    refine zJ.tableIn (tgt := 43) dX5_may_1 (by rw [q1]; decide) (by rw [q1]; decide) (by rw [q1]; rfl) (by decide) ?_
    refine zJ.iload_n 1 dX5_may_43 rfl rfl ?_
    refine zJ.iconst (v := 0) dX5_may_44 (by decide) ?_
    refine zJ.iconst (v := 3) dX5_may_45 (by decide) ?_
    refine zG.callSi [.int x1, .int 0, .int 3] [] dX5_may_46 ⟨(cb_X5_in).1, (cb_X5_in).2, (Nat.le_of_ble_eq_true rfl), (Nat.le_of_ble_eq_true rfl)⟩ ml_X5_101 cs_X5_in rfl (Nat.le_of_ble_eq_true rfl) (Nat.le_of_ble_eq_true rfl) rfl h (fun r5 S6 h2 => ?_)
    replace h := h2
    clear h2
    exact zG.ret (r := some (.int r5)) ⟨dX5_may_49, _, rfl, h.1⟩ h.2
  by_cases q4 : x0 = 4
  · replace h := h.2.2.1 q4
    refine zJ.tableIn (tgt := 50) dX5_may_1 (by rw [q4]; decide) (by rw [q4]; decide) (by rw [q4]; rfl) (by decide) ?_
    refine zJ.iload_n 1 dX5_may_50 rfl rfl ?_
    refine zJ.iconst (v := 1) dX5_may_51 (by decide) ?_
    refine zJ.bipush (v := 20) dX5_may_52 (by decide) ?_
    refine zG.callSi [.int x1, .int 1, .int 20] [] dX5_may_54 ⟨(cb_X5_in).1, (cb_X5_in).2, (Nat.le_of_ble_eq_true rfl), (Nat.le_of_ble_eq_true rfl)⟩ ml_X5_101 cs_X5_in rfl (Nat.le_of_ble_eq_true rfl) (Nat.le_of_ble_eq_true rfl) rfl h (fun r8 S9 h2 => ?_)
    replace h := h2
    clear h2
    exact zG.ret (r := some (.int r8)) ⟨dX5_may_57, _, rfl, h.1⟩ h.2
  replace h := h.2.2.2 q0 q1 q4
  by_cases q2 : x0 = 2
  · refine zJ.tableIn (tgt := 58) dX5_may_1 (by rw [q2]; decide) (by rw [q2]; decide) (by rw [q2]; rfl) (by decide) ?_
    refine zJ.iload_n 0 dX5_may_58 rfl rfl ?_
    refine zJ.iconst (v := 2) dX5_may_59 (by decide) ?_
    refine zJ.iconst (v := 3) dX5_may_60 (by decide) ?_
    refine zG.callSi [.int x0, .int 2, .int 3] [] dX5_may_61 ⟨(cb_X5_in).1, (cb_X5_in).2, (Nat.le_of_ble_eq_true rfl), (Nat.le_of_ble_eq_true rfl)⟩ ml_X5_101 cs_X5_in rfl (Nat.le_of_ble_eq_true rfl) (Nat.le_of_ble_eq_true rfl) rfl h (fun r11 S12 h2 => ?_)
    replace h := h2
    clear h2
    refine zJ.if_eq (tgt := 80) dX5_may_64 (by decide) (fun c13 => ?_) (fun c13 => ?_)
    · replace h := h.1 c13
      refine zJ.iconst (v := 0) dX5_may_80 (by decide) ?_
      exact zG.ret (r := some (.int 0)) ⟨dX5_may_81, _, rfl, rfl⟩ h
    · replace h := h.2 c13
      refine zJ.iload_n 1 dX5_may_67 rfl rfl ?_
      refine zJ.iconst (v := 1) dX5_may_68 (by decide) ?_
      refine zJ.iconst (v := 4) dX5_may_69 (by decide) ?_
      refine zG.callSi [.int x1, .int 1, .int 4] [] dX5_may_70 ⟨(cb_X5_in).1, (cb_X5_in).2, (Nat.le_of_ble_eq_true rfl), (Nat.le_of_ble_eq_true rfl)⟩ ml_X5_101 cs_X5_in rfl (Nat.le_of_ble_eq_true rfl) (Nat.le_of_ble_eq_true rfl) rfl h (fun r15 S16 h2 => ?_)
      replace h := h2
      clear h2
      refine zJ.if_eq (tgt := 80) dX5_may_73 (by decide) (fun c17 => ?_) (fun c17 => ?_)
      · replace h := h.1 c17
        refine zJ.iconst (v := 0) dX5_may_80 (by decide) ?_
        exact zG.ret (r := some (.int 0)) ⟨dX5_may_81, _, rfl, rfl⟩ h
      · replace h := h.2 c17
        refine zJ.iconst (v := 1) dX5_may_76 (by decide) ?_
        refine zJ.goto (tgt := 81) dX5_may_77 (by decide) ?_
        exact zG.ret (r := some (.int 1)) ⟨dX5_may_81, _, rfl, rfl⟩ h
  by_cases q3 : x0 = 3
  · refine zJ.tableIn (tgt := 58) dX5_may_1 (by rw [q3]; decide) (by rw [q3]; decide) (by rw [q3]; rfl) (by decide) ?_
    refine zJ.iload_n 0 dX5_may_58 rfl rfl ?_
    refine zJ.iconst (v := 2) dX5_may_59 (by decide) ?_
    refine zJ.iconst (v := 3) dX5_may_60 (by decide) ?_
    refine zG.callSi [.int x0, .int 2, .int 3] [] dX5_may_61 ⟨(cb_X5_in).1, (cb_X5_in).2, (Nat.le_of_ble_eq_true rfl), (Nat.le_of_ble_eq_true rfl)⟩ ml_X5_101 cs_X5_in rfl (Nat.le_of_ble_eq_true rfl) (Nat.le_of_ble_eq_true rfl) rfl h (fun r11 S12 h2 => ?_)
    replace h := h2
    clear h2
    refine zJ.if_eq (tgt := 80) dX5_may_64 (by decide) (fun c13 => ?_) (fun c13 => ?_)
    · replace h := h.1 c13
      refine zJ.iconst (v := 0) dX5_may_80 (by decide) ?_
      exact zG.ret (r := some (.int 0)) ⟨dX5_may_81, _, rfl, rfl⟩ h
    · replace h := h.2 c13
      refine zJ.iload_n 1 dX5_may_67 rfl rfl ?_
      refine zJ.iconst (v := 1) dX5_may_68 (by decide) ?_
      refine zJ.iconst (v := 4) dX5_may_69 (by decide) ?_
      refine zG.callSi [.int x1, .int 1, .int 4] [] dX5_may_70 ⟨(cb_X5_in).1, (cb_X5_in).2, (Nat.le_of_ble_eq_true rfl), (Nat.le_of_ble_eq_true rfl)⟩ ml_X5_101 cs_X5_in rfl (Nat.le_of_ble_eq_true rfl) (Nat.le_of_ble_eq_true rfl) rfl h (fun r15 S16 h2 => ?_)
      replace h := h2
      clear h2
      refine zJ.if_eq (tgt := 80) dX5_may_73 (by decide) (fun c17 => ?_) (fun c17 => ?_)
      · replace h := h.1 c17
        refine zJ.iconst (v := 0) dX5_may_80 (by decide) ?_
        exact zG.ret (r := some (.int 0)) ⟨dX5_may_81, _, rfl, rfl⟩ h
      · replace h := h.2 c17
        refine zJ.iconst (v := 1) dX5_may_76 (by decide) ?_
        refine zJ.goto (tgt := 81) dX5_may_77 (by decide) ?_
        exact zG.ret (r := some (.int 1)) ⟨dX5_may_81, _, rfl, rfl⟩ h
  refine zJ.tableOut (tgt := 58) dX5_may_1 (z_swe (lo := 0) (k := 4) (by decide) (fun j hl hj => ?_)) (by decide) ?_
  · rcases (show j = 0 ∨ j = 1 ∨ j = 2 ∨ j = 3 ∨ j = 4 by omega) with rfl | rfl | rfl | rfl | rfl
    · exact q0
    · exact q1
    · exact q2
    · exact q3
    · exact q4
  · refine zJ.iload_n 0 dX5_may_58 rfl rfl ?_
    refine zJ.iconst (v := 2) dX5_may_59 (by decide) ?_
    refine zJ.iconst (v := 3) dX5_may_60 (by decide) ?_
    refine zG.callSi [.int x0, .int 2, .int 3] [] dX5_may_61 ⟨(cb_X5_in).1, (cb_X5_in).2, (Nat.le_of_ble_eq_true rfl), (Nat.le_of_ble_eq_true rfl)⟩ ml_X5_101 cs_X5_in rfl (Nat.le_of_ble_eq_true rfl) (Nat.le_of_ble_eq_true rfl) rfl h (fun r11 S12 h2 => ?_)
    replace h := h2
    clear h2
    refine zJ.if_eq (tgt := 80) dX5_may_64 (by decide) (fun c13 => ?_) (fun c13 => ?_)
    · replace h := h.1 c13
      refine zJ.iconst (v := 0) dX5_may_80 (by decide) ?_
      exact zG.ret (r := some (.int 0)) ⟨dX5_may_81, _, rfl, rfl⟩ h
    · replace h := h.2 c13
      refine zJ.iload_n 1 dX5_may_67 rfl rfl ?_
      refine zJ.iconst (v := 1) dX5_may_68 (by decide) ?_
      refine zJ.iconst (v := 4) dX5_may_69 (by decide) ?_
      refine zG.callSi [.int x1, .int 1, .int 4] [] dX5_may_70 ⟨(cb_X5_in).1, (cb_X5_in).2, (Nat.le_of_ble_eq_true rfl), (Nat.le_of_ble_eq_true rfl)⟩ ml_X5_101 cs_X5_in rfl (Nat.le_of_ble_eq_true rfl) (Nat.le_of_ble_eq_true rfl) rfl h (fun r15 S16 h2 => ?_)
      replace h := h2
      clear h2
      refine zJ.if_eq (tgt := 80) dX5_may_73 (by decide) (fun c17 => ?_) (fun c17 => ?_)
      · replace h := h.1 c17
        refine zJ.iconst (v := 0) dX5_may_80 (by decide) ?_
        exact zG.ret (r := some (.int 0)) ⟨dX5_may_81, _, rfl, rfl⟩ h
      · replace h := h.2 c17
        refine zJ.iconst (v := 1) dX5_may_76 (by decide) ?_
        refine zJ.goto (tgt := 81) dX5_may_77 (by decide) ?_
        exact zG.ret (r := some (.int 1)) ⟨dX5_may_81, _, rfl, rfl⟩ h
set_option maxRecDepth 100000 in
set_option maxHeartbeats 4000000 in
theorem w_X5_sets_0 (o : zW) (x1 : Int32) (x2 : Int32) (S : zS) (Q : Option Value → zS → Prop) (h : zGi o 994 mdX5_may [.int x1, .int x2] S (fun r2 S3 => (¬ r2 = 0 → (zGv o 994 mdX5_leavesState [.ref (z_adr o (23, 0, 0))] S3 (fun S7 => vp_in x1 5 ∧ (vp_in x1 5 ∧ (zGv o 994 mdX5_begins [.ref (z_adr o (23, 0, 0))] (sI S7 (25, 0, 0) (x1.toNatClampNeg) x2) (fun S10 => Q (some (.int (S7.1 (25, 0, 0) x1.toNatClampNeg))) S10)))))) ∧ (r2 = 0 → (zGi o 994 mdX5_bad [.ref (z_adr o (23, 0, 0))] S3 (fun r12 S13 => Q (some (.int r12)) S13))))) : zG o 994 mdX5_sets 0 [(0, .ref (z_adr o (23, 0, 0))), (1, .int x1), (2, .int x2)] [] S Q := by
  show zJ o mdX5_sets 0 _ [] (994, z_enc o S) 0 0 _
  refine zJ.iload_n 1 dX5_sets_0 rfl rfl ?_
  refine zJ.iload_n 2 dX5_sets_1 rfl rfl ?_
  refine zG.callSi [.int x1, .int x2] [] dX5_sets_2 ⟨(cb_X5_may).1, (cb_X5_may).2, (Nat.le_of_ble_eq_true rfl), (Nat.le_of_ble_eq_true rfl)⟩ ml_X5_126 cs_X5_may rfl (Nat.le_of_ble_eq_true rfl) (Nat.le_of_ble_eq_true rfl) rfl h (fun r2 S3 h2 => ?_)
  replace h := h2
  clear h2
  refine zJ.if_ne (tgt := 13) dX5_sets_5 (by decide) (fun c4 => ?_) (fun c4 => ?_)
  · replace h := h.1 c4
    refine zJ.aload_n 0 dX5_sets_13 rfl rfl ?_
    refine zG.callVv [] [] (ob_23 o) ok_23 rfl dX5_sets_14 ⟨(cb_X5_leavesState).1, (cb_X5_leavesState).2, (Nat.le_of_ble_eq_true rfl), (Nat.le_of_ble_eq_true rfl)⟩ ml_X5_134 ci_X5_leavesState cv_X5_leavesState rfl (Nat.le_of_ble_eq_true rfl) (Nat.le_of_ble_eq_true rfl) rfl h (fun S7 h2 => ?_)
    replace h := h2
    clear h2
    refine zJ.aload_n 0 dX5_sets_17 rfl rfl ?_
    refine zE.getV (fd_23_1 o) ok_23 kiX5 (Nat.le_of_ble_eq_true rfl) fl_X5_13 dX5_sets_18 ?_
    refine zJ.iload_n 1 dX5_sets_21 rfl rfl ?_
    obtain ⟨hq, h⟩ := h
    refine zE.aldI (ia_25 o) ok_25 hq dX5_sets_22 ?_
    refine zJ.istore_n (lv' := [(3, .int (S7.1 (25, 0, 0) x1.toNatClampNeg)), (0, .ref (z_adr o (23, 0, 0))), (1, .int x1), (2, .int x2)]) dX5_sets_23 rfl (Nat.le_of_ble_eq_true rfl) rfl ?_
    refine zJ.aload_n 1 dX5_sets_24 rfl rfl ?_
    refine zE.getV (fd_23_1 o) ok_23 kiX5 (Nat.le_of_ble_eq_true rfl) fl_X5_13 dX5_sets_25 ?_
    refine zJ.iload_n 2 dX5_sets_28 rfl rfl ?_
    refine zJ.iload_n 3 dX5_sets_29 rfl rfl ?_
    obtain ⟨hq, h⟩ := h
    refine zE.astI (ia_25 o) ok_25 hq dX5_sets_30 ?_
    refine zJ.aload_n 1 dX5_sets_31 rfl rfl ?_
    refine zG.callVv [] [] (ob_23 o) ok_23 rfl dX5_sets_32 ⟨(cb_X5_begins).1, (cb_X5_begins).2, (Nat.le_of_ble_eq_true rfl), (Nat.le_of_ble_eq_true rfl)⟩ ml_X5_87 ci_X5_begins cv_X5_begins rfl (Nat.le_of_ble_eq_true rfl) (Nat.le_of_ble_eq_true rfl) rfl h (fun S10 h2 => ?_)
    replace h := h2
    clear h2
    refine zJ.iload_n 0 dX5_sets_35 rfl rfl ?_
    exact zG.ret (r := some (.int (S7.1 (25, 0, 0) x1.toNatClampNeg))) ⟨dX5_sets_36, _, rfl, rfl⟩ h
  · replace h := h.2 c4
    refine zJ.aload_n 0 dX5_sets_8 rfl rfl ?_
    refine zG.callVi [] [] (ob_23 o) ok_23 rfl dX5_sets_9 ⟨(cb_X5_bad).1, (cb_X5_bad).2, (Nat.le_of_ble_eq_true rfl), (Nat.le_of_ble_eq_true rfl)⟩ ml_X5_130 ci_X5_bad cv_X5_bad rfl (Nat.le_of_ble_eq_true rfl) (Nat.le_of_ble_eq_true rfl) rfl h (fun r12 S13 h2 => ?_)
    replace h := h2
    clear h2
    exact zG.ret (r := some (.int r12)) ⟨dX5_sets_12, _, rfl, rfl⟩ h
set_option maxRecDepth 100000 in
set_option maxHeartbeats 4000000 in
theorem w_X5_anew_0 (o : zW)  (S : zS) (Q : Option Value → zS → Prop) (h : zGv o 994 mdX5_leavesState [.ref (z_adr o (23, 0, 0))] S (fun S3 => zGv o 994 mdX5_begins [.ref (z_adr o (23, 0, 0))] S3 (fun S6 => Q (some (.int (S3.1 (40, 0, 0) 9))) S6))) : zG o 994 mdX5_anew 0 [(0, .ref (z_adr o (23, 0, 0)))] [] S Q := by
  show zJ o mdX5_anew 0 _ [] (994, z_enc o S) 0 0 _
  refine zJ.aload_n 0 dX5_anew_0 rfl rfl ?_
  refine zG.callVv [] [] (ob_23 o) ok_23 rfl dX5_anew_1 ⟨(cb_X5_leavesState).1, (cb_X5_leavesState).2, (Nat.le_of_ble_eq_true rfl), (Nat.le_of_ble_eq_true rfl)⟩ ml_X5_134 ci_X5_leavesState cv_X5_leavesState rfl (Nat.le_of_ble_eq_true rfl) (Nat.le_of_ble_eq_true rfl) rfl h (fun S3 h2 => ?_)
  replace h := h2
  clear h2
  refine zJ.aload_n 0 dX5_anew_4 rfl rfl ?_
  refine zE.getV (fd_23_16 o) ok_23 kiX5 (Nat.le_of_ble_eq_true rfl) fl_X5_58 dX5_anew_5 ?_
  refine zJ.bipush (v := 9) dX5_anew_8 (by decide) ?_
  refine zE.aldI (ia_40 o) ok_40 (by unfold vp_in; decide) dX5_anew_10 ?_
  refine zJ.istore_n (lv' := [(1, .int (S3.1 (40, 0, 0) 9)), (0, .ref (z_adr o (23, 0, 0)))]) dX5_anew_11 rfl (Nat.le_of_ble_eq_true rfl) rfl ?_
  refine zJ.aload_n 1 dX5_anew_12 rfl rfl ?_
  refine zG.callVv [] [] (ob_23 o) ok_23 rfl dX5_anew_13 ⟨(cb_X5_begins).1, (cb_X5_begins).2, (Nat.le_of_ble_eq_true rfl), (Nat.le_of_ble_eq_true rfl)⟩ ml_X5_87 ci_X5_begins cv_X5_begins rfl (Nat.le_of_ble_eq_true rfl) (Nat.le_of_ble_eq_true rfl) rfl h (fun S6 h2 => ?_)
  replace h := h2
  clear h2
  refine zJ.iload_n 0 dX5_anew_16 rfl rfl ?_
  exact zG.ret (r := some (.int (S3.1 (40, 0, 0) 9))) ⟨dX5_anew_17, _, rfl, rfl⟩ h
set_option maxRecDepth 100000 in
set_option maxHeartbeats 4000000 in
theorem w_X5_rowOf_0 (o : zW) (x0 : Int32) (S : zS) (Q : Option Value → zS → Prop) (h : Q (some (.int (x0 - x0 / 4 * 4))) S) : zG o 994 mdX5_rowOf 0 [(0, .int x0)] [] S Q := by
  show zJ o mdX5_rowOf 0 _ [] (994, z_enc o S) 0 0 _
  refine zJ.iload_n 0 dX5_rowOf_0 rfl rfl ?_
  refine zJ.iconst (v := 4) dX5_rowOf_1 (by decide) ?_
  refine zJ.irem dX5_rowOf_2 (by decide) ?_
  exact zG.ret (r := some (.int (x0 - x0 / 4 * 4))) ⟨dX5_rowOf_3, _, rfl, rfl⟩ h
set_option maxRecDepth 100000 in
set_option maxHeartbeats 4000000 in
theorem w_X5_counts_0 (o : zW) (x1 : Int32) (S : zS) (Q : Option Value → zS → Prop) (h : zGi o 994 mdX5_rowOf [.int x1] S (fun r2 S3 => zG o 994 mdX5_counts 7 [(0, .ref (z_adr o (23, 0, 0))), (1, .int x1), (2, .int r2), (3, .int 0)] [] S3 Q)) : zG o 994 mdX5_counts 0 [(0, .ref (z_adr o (23, 0, 0))), (1, .int x1)] [] S Q := by
  show zJ o mdX5_counts 0 _ [] (994, z_enc o S) 0 0 _
  refine zJ.iload_n 1 dX5_counts_0 rfl rfl ?_
  refine zG.callSi [.int x1] [] dX5_counts_1 ⟨(cb_X5_rowOf).1, (cb_X5_rowOf).2, (Nat.le_of_ble_eq_true rfl), (Nat.le_of_ble_eq_true rfl)⟩ ml_X5_137 cs_X5_rowOf rfl (Nat.le_of_ble_eq_true rfl) (Nat.le_of_ble_eq_true rfl) rfl h (fun r2 S3 h2 => ?_)
  replace h := h2
  clear h2
  refine zJ.istore_n (lv' := [(2, .int r2), (0, .ref (z_adr o (23, 0, 0))), (1, .int x1)]) dX5_counts_4 rfl (Nat.le_of_ble_eq_true rfl) rfl ?_
  refine zJ.iconst (v := 0) dX5_counts_5 (by decide) ?_
  refine zJ.istore_n (lv' := [(3, .int 0), (2, .int r2), (0, .ref (z_adr o (23, 0, 0))), (1, .int x1)]) dX5_counts_6 rfl (Nat.le_of_ble_eq_true rfl) rfl ?_
  exact zJ.sub [2, 3, 1, 0] rfl h
set_option maxRecDepth 100000 in
set_option maxHeartbeats 4000000 in
theorem w_X5_counts_7 (o : zW) (x1 : Int32) (x2 : Int32) (x3 : Int32) (S : zS) (Q : Option Value → zS → Prop) (h : vp_in ((3 * x2) + x3) 12 ∧ (((S.1 (32, 0, 0) (((3 * x2) + x3).toNatClampNeg)) = x1 → (zG o 994 mdX5_counts 30 [(0, .ref (z_adr o (23, 0, 0))), (1, .int x1), (2, .int x2), (4, .int x3)] [] S Q)) ∧ (¬ (S.1 (32, 0, 0) (((3 * x2) + x3).toNatClampNeg)) = x1 → (zG o 994 mdX5_counts 7 [(0, .ref (z_adr o (23, 0, 0))), (1, .int x1), (2, .int x2), (3, .int (x3 + 1))] [] S Q)))) : zG o 994 mdX5_counts 7 [(0, .ref (z_adr o (23, 0, 0))), (1, .int x1), (2, .int x2), (3, .int x3)] [] S Q := by
  show zJ o mdX5_counts 7 _ [] (994, z_enc o S) 0 0 _
  refine zJ.aload_n 0 dX5_counts_7 rfl rfl ?_
  refine zE.getV (fd_23_8 o) ok_23 kiX5 (Nat.le_of_ble_eq_true rfl) fl_X5_34 dX5_counts_8 ?_
  refine zJ.iconst (v := 3) dX5_counts_11 (by decide) ?_
  refine zJ.iload_n 2 dX5_counts_12 rfl rfl ?_
  refine zJ.imul dX5_counts_13 ?_
  refine zJ.iload_n 3 dX5_counts_14 rfl rfl ?_
  refine zJ.iadd dX5_counts_15 ?_
  obtain ⟨hq, h⟩ := h
  refine zE.aldI (ia_32 o) ok_32 hq dX5_counts_16 ?_
  refine zJ.iload_n 1 dX5_counts_17 rfl rfl ?_
  refine zJ.icmp_eq (tgt := 27) dX5_counts_18 (by decide) (fun c1 => ?_) (fun c1 => ?_)
  · replace h := h.1 c1
    refine zJ.iload_n 3 dX5_counts_27 rfl rfl ?_
    refine zJ.istore (lv' := [(4, .int x3), (0, .ref (z_adr o (23, 0, 0))), (1, .int x1), (2, .int x2), (3, .int x3)]) dX5_counts_28 (Nat.le_of_ble_eq_true rfl) rfl ?_
    exact zJ.sub [1, 2, 3, 0] rfl h
  · replace h := h.2 c1
    refine zJ.iinc (k := 3) (lv' := [(3, .int (x3 + 1)), (0, .ref (z_adr o (23, 0, 0))), (1, .int x1), (2, .int x2)]) dX5_counts_21 rfl rfl (Nat.le_of_ble_eq_true rfl) rfl ?_
    refine zJ.goto (tgt := 7) dX5_counts_24 (by decide) ?_
    exact zJ.sub [1, 2, 3, 0] rfl h
set_option maxRecDepth 100000 in
set_option maxHeartbeats 4000000 in
theorem w_X5_counts_30 (o : zW) (x1 : Int32) (x2 : Int32) (x4 : Int32) (S : zS) (Q : Option Value → zS → Prop) (h : (x4 ≤ 0 → (vp_in (3 * x2) 12 ∧ (Q none (sI S (32, 0, 0) ((3 * x2).toNatClampNeg) x1)))) ∧ (¬ x4 ≤ 0 → (vp_in (((3 * x2) + x4) - 1) 12 ∧ (vp_in ((3 * x2) + x4) 12 ∧ (∀ S2 : zS, S2 = (sI S (32, 0, 0) (((3 * x2) + x4).toNatClampNeg) (S.1 (32, 0, 0) ((((3 * x2) + x4) - 1).toNatClampNeg))) → (zG o 994 mdX5_counts 30 [(0, .ref (z_adr o (23, 0, 0))), (1, .int x1), (2, .int x2), (4, .int (x4 + (-1)))] [] S2 Q)))))) : zG o 994 mdX5_counts 30 [(0, .ref (z_adr o (23, 0, 0))), (1, .int x1), (2, .int x2), (4, .int x4)] [] S Q := by
  show zJ o mdX5_counts 30 _ [] (994, z_enc o S) 0 0 _
  refine zJ.iload 3 dX5_counts_30 rfl ?_
  refine zJ.if_le (tgt := 65) dX5_counts_32 (by decide) (fun c1 => ?_) (fun c1 => ?_)
  · replace h := h.1 c1
    refine zJ.aload_n 0 dX5_counts_65 rfl rfl ?_
    refine zE.getV (fd_23_8 o) ok_23 kiX5 (Nat.le_of_ble_eq_true rfl) fl_X5_34 dX5_counts_66 ?_
    refine zJ.iconst (v := 3) dX5_counts_69 (by decide) ?_
    refine zJ.iload_n 2 dX5_counts_70 rfl rfl ?_
    refine zJ.imul dX5_counts_71 ?_
    refine zJ.iload_n 1 dX5_counts_72 rfl rfl ?_
    obtain ⟨hq, h⟩ := h
    refine zE.astI (ia_32 o) ok_32 hq dX5_counts_73 ?_
    exact zG.ret (r := none) ⟨dX5_counts_74, rfl⟩ h
  · replace h := h.2 c1
    refine zJ.aload_n 0 dX5_counts_35 rfl rfl ?_
    refine zE.getV (fd_23_8 o) ok_23 kiX5 (Nat.le_of_ble_eq_true rfl) fl_X5_34 dX5_counts_36 ?_
    refine zJ.iconst (v := 3) dX5_counts_39 (by decide) ?_
    refine zJ.iload_n 2 dX5_counts_40 rfl rfl ?_
    refine zJ.imul dX5_counts_41 ?_
    refine zJ.iload 3 dX5_counts_42 rfl ?_
    refine zJ.iadd dX5_counts_44 ?_
    refine zJ.aload_n 0 dX5_counts_45 rfl rfl ?_
    refine zE.getV (fd_23_8 o) ok_23 kiX5 (Nat.le_of_ble_eq_true rfl) fl_X5_34 dX5_counts_46 ?_
    refine zJ.iconst (v := 3) dX5_counts_49 (by decide) ?_
    refine zJ.iload_n 2 dX5_counts_50 rfl rfl ?_
    refine zJ.imul dX5_counts_51 ?_
    refine zJ.iload 3 dX5_counts_52 rfl ?_
    refine zJ.iadd dX5_counts_54 ?_
    refine zJ.iconst (v := 1) dX5_counts_55 (by decide) ?_
    refine zJ.isub dX5_counts_56 ?_
    obtain ⟨hq, h⟩ := h
    refine zE.aldI (ia_32 o) ok_32 hq dX5_counts_57 ?_
    obtain ⟨hq, h⟩ := h
    refine zE.astI (ia_32 o) ok_32 hq dX5_counts_58 ?_
    refine zJ.nameS (fun S2 hyS2 => ?_)
    replace h := h S2 hyS2
    refine zJ.iinc (k := 3) (lv' := [(4, .int (x4 + (-1))), (0, .ref (z_adr o (23, 0, 0))), (1, .int x1), (2, .int x2)]) dX5_counts_59 rfl rfl (Nat.le_of_ble_eq_true rfl) rfl ?_
    refine zJ.goto (tgt := 30) dX5_counts_62 (by decide) ?_
    exact zJ.sub [1, 2, 3, 0] rfl h
set_option maxRecDepth 100000 in
set_option maxHeartbeats 4000000 in
theorem w_X5_goesFar_0 (o : zW) (x1 : Int32) (S : zS) (Q : Option Value → zS → Prop) (h : zG o 994 mdX5_goesFar 2 [(0, .ref (z_adr o (23, 0, 0))), (1, .int x1), (2, .int 0)] [] S Q) : zG o 994 mdX5_goesFar 0 [(0, .ref (z_adr o (23, 0, 0))), (1, .int x1)] [] S Q := by
  show zJ o mdX5_goesFar 0 _ [] (994, z_enc o S) 0 0 _
  refine zJ.iconst (v := 0) dX5_goesFar_0 (by decide) ?_
  refine zJ.istore_n (lv' := [(2, .int 0), (0, .ref (z_adr o (23, 0, 0))), (1, .int x1)]) dX5_goesFar_1 rfl (Nat.le_of_ble_eq_true rfl) rfl ?_
  exact zJ.sub [1, 2, 0] rfl h
set_option maxRecDepth 100000 in
set_option maxHeartbeats 4000000 in
theorem w_X5_goesFar_2 (o : zW) (x1 : Int32) (x2 : Int32) (S : zS) (Q : Option Value → zS → Prop) (h : (4 ≤ x2 → (vp_in x1 16 ∧ (vp_in x1 16 ∧ (∀ S2 : zS, S2 = (sI (sI S (28, 0, 0) (x1.toNatClampNeg) 0) (29, 0, 0) (x1.toNatClampNeg) 0) → (vf_n32 (FP.fadd ((sI S2 (40, 0, 0) 6 ((S2.1 (40, 0, 0) 6) + 1)).2.2 (23, 0, 0) 20) (1079194419 : UInt32)) ∧ (∀ S3 : zS, S3 = (sF (sI S2 (40, 0, 0) 6 ((S2.1 (40, 0, 0) 6) + 1)) (23, 0, 0) 20 (FP.fadd ((sI S2 (40, 0, 0) 6 ((S2.1 (40, 0, 0) 6) + 1)).2.2 (23, 0, 0) 20) (1079194419 : UInt32))) → (Q none S3))))))) ∧ (¬ 4 ≤ x2 → (vp_in x1 16 ∧ ((¬ (((S.1 (28, 0, 0) x1.toNatClampNeg) >>> (x2 &&& 31)) &&& 1) = 1 → (vp_in ((4 * x1) + x2) 64 ∧ (vp_in ((4 * x1) + x2) 64 ∧ (∀ S5 : zS, S5 = (sI S (26, 0, 0) (((4 * x1) + x2).toNatClampNeg) (S.1 (26, 0, 0) (((4 * x1) + x2).toNatClampNeg))) → (zG o 994 mdX5_goesFar 2 [(0, .ref (z_adr o (23, 0, 0))), (1, .int x1), (2, .int (x2 + 1))] [] S5 Q))))) ∧ ((((S.1 (28, 0, 0) x1.toNatClampNeg) >>> (x2 &&& 31)) &&& 1) = 1 → (vp_in ((4 * x1) + x2) 64 ∧ (vp_in ((4 * x1) + x2) 64 ∧ (∀ S6 : zS, S6 = (sI S (26, 0, 0) (((4 * x1) + x2).toNatClampNeg) (S.1 (27, 0, 0) (((4 * x1) + x2).toNatClampNeg))) → (zG o 994 mdX5_goesFar 2 [(0, .ref (z_adr o (23, 0, 0))), (1, .int x1), (2, .int (x2 + 1))] [] S6 Q))))))))) : zG o 994 mdX5_goesFar 2 [(0, .ref (z_adr o (23, 0, 0))), (1, .int x1), (2, .int x2)] [] S Q := by
  show zJ o mdX5_goesFar 2 _ [] (994, z_enc o S) 0 0 _
  refine zJ.iload_n 2 dX5_goesFar_2 rfl rfl ?_
  refine zJ.iconst (v := 4) dX5_goesFar_3 (by decide) ?_
  refine zJ.icmp_ge (tgt := 60) dX5_goesFar_4 (by decide) (fun c1 => ?_) (fun c1 => ?_)
  · replace h := h.1 c1
    refine zJ.aload_n 0 dX5_goesFar_60 rfl rfl ?_
    refine zE.getV (fd_23_4 o) ok_23 kiX5 (Nat.le_of_ble_eq_true rfl) fl_X5_22 dX5_goesFar_61 ?_
    refine zJ.iload_n 1 dX5_goesFar_64 rfl rfl ?_
    refine zJ.iconst (v := 0) dX5_goesFar_65 (by decide) ?_
    obtain ⟨hq, h⟩ := h
    refine zE.astI (ia_28 o) ok_28 hq dX5_goesFar_66 ?_
    refine zJ.aload_n 0 dX5_goesFar_67 rfl rfl ?_
    refine zE.getV (fd_23_5 o) ok_23 kiX5 (Nat.le_of_ble_eq_true rfl) fl_X5_25 dX5_goesFar_68 ?_
    refine zJ.iload_n 1 dX5_goesFar_71 rfl rfl ?_
    refine zJ.iconst (v := 0) dX5_goesFar_72 (by decide) ?_
    obtain ⟨hq, h⟩ := h
    refine zE.astI (ia_29 o) ok_29 hq dX5_goesFar_73 ?_
    refine zJ.nameS (fun S2 hyS2 => ?_)
    replace h := h S2 hyS2
    refine zJ.aload_n 0 dX5_goesFar_74 rfl rfl ?_
    refine zE.getV (fd_23_16 o) ok_23 kiX5 (Nat.le_of_ble_eq_true rfl) fl_X5_58 dX5_goesFar_75 ?_
    refine zJ.bipush (v := 6) dX5_goesFar_78 (by decide) ?_
    refine zJ.dup2_11 dX5_goesFar_80 rfl rfl ?_
    refine zE.aldI (ia_40 o) ok_40 (by unfold vp_in; decide) dX5_goesFar_81 ?_
    refine zJ.iconst (v := 1) dX5_goesFar_82 (by decide) ?_
    refine zJ.iadd dX5_goesFar_83 ?_
    refine zE.astI (ia_40 o) ok_40 (by unfold vp_in; decide) dX5_goesFar_84 ?_
    refine zJ.aload_n 0 dX5_goesFar_85 rfl rfl ?_
    refine zJ.dup dX5_goesFar_86 rfl ?_
    refine zE.getF (fd_23_20 o) ok_23 kiX5 (Nat.le_of_ble_eq_true rfl) fl_X5_90 dX5_goesFar_87 ?_
    refine zJ.ldcf lc_X5_141 dX5_goesFar_90 ?_
    obtain ⟨hq, h⟩ := h
    refine zJ.fadd dX5_goesFar_92 hq ?_
    refine zE.putF (fd_23_20 o) ok_23 kiX5 (Nat.le_of_ble_eq_true rfl) fl_X5_90 rfl rfl dX5_goesFar_93 ?_
    refine zJ.nameS (fun S3 hyS3 => ?_)
    replace h := h S3 hyS3
    exact zG.ret (r := none) ⟨dX5_goesFar_96, rfl⟩ h
  · replace h := h.2 c1
    refine zJ.aload_n 0 dX5_goesFar_7 rfl rfl ?_
    refine zE.getV (fd_23_2 o) ok_23 kiX5 (Nat.le_of_ble_eq_true rfl) fl_X5_16 dX5_goesFar_8 ?_
    refine zJ.iconst (v := 4) dX5_goesFar_11 (by decide) ?_
    refine zJ.iload_n 1 dX5_goesFar_12 rfl rfl ?_
    refine zJ.imul dX5_goesFar_13 ?_
    refine zJ.iload_n 2 dX5_goesFar_14 rfl rfl ?_
    refine zJ.iadd dX5_goesFar_15 ?_
    refine zJ.aload_n 0 dX5_goesFar_16 rfl rfl ?_
    refine zE.getV (fd_23_4 o) ok_23 kiX5 (Nat.le_of_ble_eq_true rfl) fl_X5_22 dX5_goesFar_17 ?_
    refine zJ.iload_n 1 dX5_goesFar_20 rfl rfl ?_
    obtain ⟨hq, h⟩ := h
    refine zE.aldI (ia_28 o) ok_28 hq dX5_goesFar_21 ?_
    refine zJ.iload_n 2 dX5_goesFar_22 rfl rfl ?_
    refine zJ.ishr dX5_goesFar_23 ?_
    refine zJ.iconst (v := 1) dX5_goesFar_24 (by decide) ?_
    refine zJ.iand dX5_goesFar_25 ?_
    refine zJ.iconst (v := 1) dX5_goesFar_26 (by decide) ?_
    refine zJ.icmp_ne (tgt := 43) dX5_goesFar_27 (by decide) (fun c4 => ?_) (fun c4 => ?_)
    · replace h := h.1 c4
      refine zJ.aload_n 0 dX5_goesFar_43 rfl rfl ?_
      refine zE.getV (fd_23_2 o) ok_23 kiX5 (Nat.le_of_ble_eq_true rfl) fl_X5_16 dX5_goesFar_44 ?_
      refine zJ.iconst (v := 4) dX5_goesFar_47 (by decide) ?_
      refine zJ.iload_n 1 dX5_goesFar_48 rfl rfl ?_
      refine zJ.imul dX5_goesFar_49 ?_
      refine zJ.iload_n 2 dX5_goesFar_50 rfl rfl ?_
      refine zJ.iadd dX5_goesFar_51 ?_
      obtain ⟨hq, h⟩ := h
      refine zE.aldI (ia_26 o) ok_26 hq dX5_goesFar_52 ?_
      obtain ⟨hq, h⟩ := h
      refine zE.astI (ia_26 o) ok_26 hq dX5_goesFar_53 ?_
      refine zJ.nameS (fun S5 hyS5 => ?_)
      replace h := h S5 hyS5
      refine zJ.iinc (k := 2) (lv' := [(2, .int (x2 + 1)), (0, .ref (z_adr o (23, 0, 0))), (1, .int x1)]) dX5_goesFar_54 rfl rfl (Nat.le_of_ble_eq_true rfl) rfl ?_
      refine zJ.goto (tgt := 2) dX5_goesFar_57 (by decide) ?_
      exact zJ.sub [1, 2, 0] rfl h
    · replace h := h.2 c4
      refine zJ.aload_n 0 dX5_goesFar_30 rfl rfl ?_
      refine zE.getV (fd_23_3 o) ok_23 kiX5 (Nat.le_of_ble_eq_true rfl) fl_X5_19 dX5_goesFar_31 ?_
      refine zJ.iconst (v := 4) dX5_goesFar_34 (by decide) ?_
      refine zJ.iload_n 1 dX5_goesFar_35 rfl rfl ?_
      refine zJ.imul dX5_goesFar_36 ?_
      refine zJ.iload_n 2 dX5_goesFar_37 rfl rfl ?_
      refine zJ.iadd dX5_goesFar_38 ?_
      obtain ⟨hq, h⟩ := h
      refine zE.aldI (ia_27 o) ok_27 hq dX5_goesFar_39 ?_
      refine zJ.goto (tgt := 53) dX5_goesFar_40 (by decide) ?_
      obtain ⟨hq, h⟩ := h
      refine zE.astI (ia_26 o) ok_26 hq dX5_goesFar_53 ?_
      refine zJ.nameS (fun S6 hyS6 => ?_)
      replace h := h S6 hyS6
      refine zJ.iinc (k := 2) (lv' := [(2, .int (x2 + 1)), (0, .ref (z_adr o (23, 0, 0))), (1, .int x1)]) dX5_goesFar_54 rfl rfl (Nat.le_of_ble_eq_true rfl) rfl ?_
      refine zJ.goto (tgt := 2) dX5_goesFar_57 (by decide) ?_
      exact zJ.sub [1, 2, 0] rfl h
set_option maxRecDepth 100000 in
set_option maxHeartbeats 4000000 in
theorem w_X5_halfLong_0 (o : zW)  (S : zS) (Q : Option Value → zS → Prop) (h : ((S.1 (25, 0, 0) 4) ≤ 1 → (Q (some (.int 1)) S)) ∧ (¬ (S.1 (25, 0, 0) 4) ≤ 1 → (Q (some (.int ((S.1 (25, 0, 0) 4) / 2))) S))) : zG o 994 mdX5_halfLong 0 [(0, .ref (z_adr o (23, 0, 0)))] [] S Q := by
  show zJ o mdX5_halfLong 0 _ [] (994, z_enc o S) 0 0 _
  refine zJ.aload_n 0 dX5_halfLong_0 rfl rfl ?_
  refine zE.getV (fd_23_1 o) ok_23 kiX5 (Nat.le_of_ble_eq_true rfl) fl_X5_13 dX5_halfLong_1 ?_
  refine zJ.iconst (v := 4) dX5_halfLong_4 (by decide) ?_
  refine zE.aldI (ia_25 o) ok_25 (by unfold vp_in; decide) dX5_halfLong_5 ?_
  refine zJ.iconst (v := 1) dX5_halfLong_6 (by decide) ?_
  refine zJ.icmp_le (tgt := 21) dX5_halfLong_7 (by decide) (fun c1 => ?_) (fun c1 => ?_)
  · replace h := h.1 c1
    refine zJ.iconst (v := 1) dX5_halfLong_21 (by decide) ?_
    exact zG.ret (r := some (.int 1)) ⟨dX5_halfLong_22, _, rfl, rfl⟩ h
  · replace h := h.2 c1
    refine zJ.aload_n 0 dX5_halfLong_10 rfl rfl ?_
    refine zE.getV (fd_23_1 o) ok_23 kiX5 (Nat.le_of_ble_eq_true rfl) fl_X5_13 dX5_halfLong_11 ?_
    refine zJ.iconst (v := 4) dX5_halfLong_14 (by decide) ?_
    refine zE.aldI (ia_25 o) ok_25 (by unfold vp_in; decide) dX5_halfLong_15 ?_
    refine zJ.iconst (v := 2) dX5_halfLong_16 (by decide) ?_
    refine zJ.idiv dX5_halfLong_17 (by decide) ?_
    refine zJ.goto (tgt := 22) dX5_halfLong_18 (by decide) ?_
    exact zG.ret (r := some (.int ((S.1 (25, 0, 0) 4) / 2))) ⟨dX5_halfLong_22, _, rfl, rfl⟩ h
set_option maxRecDepth 100000 in
set_option maxHeartbeats 4000000 in
theorem w_X5_makesRoom_0 (o : zW) (x1 : Int32) (S : zS) (Q : Option Value → zS → Prop) (h : vp_in x1 4 ∧ (((S.1 (25, 0, 0) 0) ≤ (S.1 (31, 0, 0) x1.toNatClampNeg) → (vp_in x1 4 ∧ (vp_in x1 4 ∧ (∀ S2 : zS, S2 = (sI S (31, 0, 0) (x1.toNatClampNeg) ((S.1 (31, 0, 0) x1.toNatClampNeg) - 1)) → (vp_in x1 4 ∧ (vp_in ((3 * x1) + (S2.1 (31, 0, 0) x1.toNatClampNeg)) 12 ∧ (∀ y3 : Int32, y3 = (S2.1 (32, 0, 0) (((3 * x1) + (S2.1 (31, 0, 0) x1.toNatClampNeg)).toNatClampNeg)) → (vp_in y3 16 ∧ ((¬ (S2.1 (28, 0, 0) y3.toNatClampNeg) = 0 → (((S2.1 (25, 0, 0) 1) ≤ (S2.1 (39, 0, 0) 1) → (zGv o 994 mdX5_goesFar [.ref (z_adr o (23, 0, 0)), .int y3] (sI S2 (40, 0, 0) 5 ((S2.1 (40, 0, 0) 5) + 1)) (fun S8 => Q none S8))) ∧ (¬ (S2.1 (25, 0, 0) 1) ≤ (S2.1 (39, 0, 0) 1) → (vp_in y3 16 ∧ (zGi o 994 mdX5_halfLong [.ref (z_adr o (23, 0, 0))] (sI S2 (29, 0, 0) (y3.toNatClampNeg) 2) (fun r10 S11 => ∀ y12 : Int32, y12 = (((sI S2 (29, 0, 0) (y3.toNatClampNeg) 2).1 (40, 0, 0) 9) + r10) → (vp_in y3 16 ∧ (∀ y13 : Int32, y13 = (((sI S11 (30, 0, 0) (y3.toNatClampNeg) y12).1 (39, 0, 0) 1) + 1) → (Q none (sI (sI S11 (30, 0, 0) (y3.toNatClampNeg) y12) (39, 0, 0) 1 y13)))))))))) ∧ ((S2.1 (28, 0, 0) y3.toNatClampNeg) = 0 → (vp_in y3 16 ∧ (Q none (sI S2 (29, 0, 0) (y3.toNatClampNeg) 0))))))))))))) ∧ (¬ (S.1 (25, 0, 0) 0) ≤ (S.1 (31, 0, 0) x1.toNatClampNeg) → (Q none S)))) : zG o 994 mdX5_makesRoom 0 [(0, .ref (z_adr o (23, 0, 0))), (1, .int x1)] [] S Q := by
  show zJ o mdX5_makesRoom 0 _ [] (994, z_enc o S) 0 0 _
  refine zJ.aload_n 0 dX5_makesRoom_0 rfl rfl ?_
  refine zE.getV (fd_23_7 o) ok_23 kiX5 (Nat.le_of_ble_eq_true rfl) fl_X5_31 dX5_makesRoom_1 ?_
  refine zJ.iload_n 1 dX5_makesRoom_4 rfl rfl ?_
  obtain ⟨hq, h⟩ := h
  refine zE.aldI (ia_31 o) ok_31 hq dX5_makesRoom_5 ?_
  refine zJ.aload_n 0 dX5_makesRoom_6 rfl rfl ?_
  refine zE.getV (fd_23_1 o) ok_23 kiX5 (Nat.le_of_ble_eq_true rfl) fl_X5_13 dX5_makesRoom_7 ?_
  refine zJ.iconst (v := 0) dX5_makesRoom_10 (by decide) ?_
  refine zE.aldI (ia_25 o) ok_25 (by unfold vp_in; decide) dX5_makesRoom_11 ?_
  refine zJ.icmp_ge (tgt := 16) dX5_makesRoom_12 (by decide) (fun c1 => ?_) (fun c1 => ?_)
  · replace h := h.1 c1
    refine zJ.aload_n 0 dX5_makesRoom_16 rfl rfl ?_
    refine zE.getV (fd_23_7 o) ok_23 kiX5 (Nat.le_of_ble_eq_true rfl) fl_X5_31 dX5_makesRoom_17 ?_
    refine zJ.iload_n 1 dX5_makesRoom_20 rfl rfl ?_
    refine zJ.dup2_11 dX5_makesRoom_21 rfl rfl ?_
    obtain ⟨hq, h⟩ := h
    refine zE.aldI (ia_31 o) ok_31 hq dX5_makesRoom_22 ?_
    refine zJ.iconst (v := 1) dX5_makesRoom_23 (by decide) ?_
    refine zJ.isub dX5_makesRoom_24 ?_
    obtain ⟨hq, h⟩ := h
    refine zE.astI (ia_31 o) ok_31 hq dX5_makesRoom_25 ?_
    refine zJ.nameS (fun S2 hyS2 => ?_)
    replace h := h S2 hyS2
    refine zJ.aload_n 0 dX5_makesRoom_26 rfl rfl ?_
    refine zE.getV (fd_23_8 o) ok_23 kiX5 (Nat.le_of_ble_eq_true rfl) fl_X5_34 dX5_makesRoom_27 ?_
    refine zJ.iconst (v := 3) dX5_makesRoom_30 (by decide) ?_
    refine zJ.iload_n 1 dX5_makesRoom_31 rfl rfl ?_
    refine zJ.imul dX5_makesRoom_32 ?_
    refine zJ.aload_n 0 dX5_makesRoom_33 rfl rfl ?_
    refine zE.getV (fd_23_7 o) ok_23 kiX5 (Nat.le_of_ble_eq_true rfl) fl_X5_31 dX5_makesRoom_34 ?_
    refine zJ.iload_n 1 dX5_makesRoom_37 rfl rfl ?_
    obtain ⟨hq, h⟩ := h
    refine zE.aldI (ia_31 o) ok_31 hq dX5_makesRoom_38 ?_
    refine zJ.iadd dX5_makesRoom_39 ?_
    obtain ⟨hq, h⟩ := h
    refine zE.aldI (ia_32 o) ok_32 hq dX5_makesRoom_40 ?_
    refine zJ.topi (fun y3 hyy3 => ?_)
    replace h := h y3 hyy3
    refine zJ.istore_n (lv' := [(2, .int y3), (0, .ref (z_adr o (23, 0, 0))), (1, .int x1)]) dX5_makesRoom_41 rfl (Nat.le_of_ble_eq_true rfl) rfl ?_
    refine zJ.aload_n 1 dX5_makesRoom_42 rfl rfl ?_
    refine zE.getV (fd_23_4 o) ok_23 kiX5 (Nat.le_of_ble_eq_true rfl) fl_X5_22 dX5_makesRoom_43 ?_
    refine zJ.iload_n 0 dX5_makesRoom_46 rfl rfl ?_
    obtain ⟨hq, h⟩ := h
    refine zE.aldI (ia_28 o) ok_28 hq dX5_makesRoom_47 ?_
    refine zJ.if_ne (tgt := 61) dX5_makesRoom_48 (by decide) (fun c4 => ?_) (fun c4 => ?_)
    · replace h := h.1 c4
      refine zJ.aload_n 1 dX5_makesRoom_61 rfl rfl ?_
      refine zE.getV (fd_23_15 o) ok_23 kiX5 (Nat.le_of_ble_eq_true rfl) fl_X5_55 dX5_makesRoom_62 ?_
      refine zJ.iconst (v := 1) dX5_makesRoom_65 (by decide) ?_
      refine zE.aldI (ia_39 o) ok_39 (by unfold vp_in; decide) dX5_makesRoom_66 ?_
      refine zJ.aload_n 1 dX5_makesRoom_67 rfl rfl ?_
      refine zE.getV (fd_23_1 o) ok_23 kiX5 (Nat.le_of_ble_eq_true rfl) fl_X5_13 dX5_makesRoom_68 ?_
      refine zJ.iconst (v := 1) dX5_makesRoom_71 (by decide) ?_
      refine zE.aldI (ia_25 o) ok_25 (by unfold vp_in; decide) dX5_makesRoom_72 ?_
      refine zJ.icmp_ge (tgt := 114) dX5_makesRoom_73 (by decide) (fun c5 => ?_) (fun c5 => ?_)
      · replace h := h.1 c5
        refine zJ.aload_n 1 dX5_makesRoom_114 rfl rfl ?_
        refine zE.getV (fd_23_16 o) ok_23 kiX5 (Nat.le_of_ble_eq_true rfl) fl_X5_58 dX5_makesRoom_115 ?_
        refine zJ.iconst (v := 5) dX5_makesRoom_118 (by decide) ?_
        refine zJ.dup2_11 dX5_makesRoom_119 rfl rfl ?_
        refine zE.aldI (ia_40 o) ok_40 (by unfold vp_in; decide) dX5_makesRoom_120 ?_
        refine zJ.iconst (v := 1) dX5_makesRoom_121 (by decide) ?_
        refine zJ.iadd dX5_makesRoom_122 ?_
        refine zE.astI (ia_40 o) ok_40 (by unfold vp_in; decide) dX5_makesRoom_123 ?_
        refine zJ.aload_n 1 dX5_makesRoom_124 rfl rfl ?_
        refine zJ.iload_n 0 dX5_makesRoom_125 rfl rfl ?_
        refine zG.callVv [.int y3] [] (ob_23 o) ok_23 rfl dX5_makesRoom_126 ⟨(cb_X5_goesFar).1, (cb_X5_goesFar).2, (Nat.le_of_ble_eq_true rfl), (Nat.le_of_ble_eq_true rfl)⟩ ml_X5_145 ci_X5_goesFar cv_X5_goesFar rfl (Nat.le_of_ble_eq_true rfl) (Nat.le_of_ble_eq_true rfl) rfl h (fun S8 h2 => ?_)
        replace h := h2
        clear h2
        exact zG.ret (r := none) ⟨dX5_makesRoom_129, rfl⟩ h
      · replace h := h.2 c5
        refine zJ.aload_n 1 dX5_makesRoom_76 rfl rfl ?_
        refine zE.getV (fd_23_5 o) ok_23 kiX5 (Nat.le_of_ble_eq_true rfl) fl_X5_25 dX5_makesRoom_77 ?_
        refine zJ.iload_n 0 dX5_makesRoom_80 rfl rfl ?_
        refine zJ.iconst (v := 2) dX5_makesRoom_81 (by decide) ?_
        obtain ⟨hq, h⟩ := h
        refine zE.astI (ia_29 o) ok_29 hq dX5_makesRoom_82 ?_
        refine zJ.aload_n 1 dX5_makesRoom_83 rfl rfl ?_
        refine zE.getV (fd_23_6 o) ok_23 kiX5 (Nat.le_of_ble_eq_true rfl) fl_X5_28 dX5_makesRoom_84 ?_
        refine zJ.iload_n 0 dX5_makesRoom_87 rfl rfl ?_
        refine zJ.aload_n 1 dX5_makesRoom_88 rfl rfl ?_
        refine zE.getV (fd_23_16 o) ok_23 kiX5 (Nat.le_of_ble_eq_true rfl) fl_X5_58 dX5_makesRoom_89 ?_
        refine zJ.bipush (v := 9) dX5_makesRoom_92 (by decide) ?_
        refine zE.aldI (ia_40 o) ok_40 (by unfold vp_in; decide) dX5_makesRoom_94 ?_
        refine zJ.aload_n 1 dX5_makesRoom_95 rfl rfl ?_
        refine zG.callVi [] [.int ((sI S2 (29, 0, 0) (y3.toNatClampNeg) 2).1 (40, 0, 0) 9), .int y3, .ref (z_adr o (30, 0, 0))] (ob_23 o) ok_23 rfl dX5_makesRoom_96 ⟨(cb_X5_halfLong).1, (cb_X5_halfLong).2, (Nat.le_of_ble_eq_true rfl), (Nat.le_of_ble_eq_true rfl)⟩ ml_X5_142 ci_X5_halfLong cv_X5_halfLong rfl (Nat.le_of_ble_eq_true rfl) (Nat.le_of_ble_eq_true rfl) rfl h (fun r10 S11 h2 => ?_)
        replace h := h2
        clear h2
        refine zJ.iadd dX5_makesRoom_99 ?_
        refine zJ.topi (fun y12 hyy12 => ?_)
        replace h := h y12 hyy12
        obtain ⟨hq, h⟩ := h
        refine zE.astI (ia_30 o) ok_30 hq dX5_makesRoom_100 ?_
        refine zJ.aload_n 1 dX5_makesRoom_101 rfl rfl ?_
        refine zE.getV (fd_23_15 o) ok_23 kiX5 (Nat.le_of_ble_eq_true rfl) fl_X5_55 dX5_makesRoom_102 ?_
        refine zJ.iconst (v := 1) dX5_makesRoom_105 (by decide) ?_
        refine zJ.dup2_11 dX5_makesRoom_106 rfl rfl ?_
        refine zE.aldI (ia_39 o) ok_39 (by unfold vp_in; decide) dX5_makesRoom_107 ?_
        refine zJ.iconst (v := 1) dX5_makesRoom_108 (by decide) ?_
        refine zJ.iadd dX5_makesRoom_109 ?_
        refine zJ.topi (fun y13 hyy13 => ?_)
        replace h := h y13 hyy13
        refine zE.astI (ia_39 o) ok_39 (by unfold vp_in; decide) dX5_makesRoom_110 ?_
        refine zJ.goto (tgt := 129) dX5_makesRoom_111 (by decide) ?_
        exact zG.ret (r := none) ⟨dX5_makesRoom_129, rfl⟩ h
    · replace h := h.2 c4
      refine zJ.aload_n 1 dX5_makesRoom_51 rfl rfl ?_
      refine zE.getV (fd_23_5 o) ok_23 kiX5 (Nat.le_of_ble_eq_true rfl) fl_X5_25 dX5_makesRoom_52 ?_
      refine zJ.iload_n 0 dX5_makesRoom_55 rfl rfl ?_
      refine zJ.iconst (v := 0) dX5_makesRoom_56 (by decide) ?_
      obtain ⟨hq, h⟩ := h
      refine zE.astI (ia_29 o) ok_29 hq dX5_makesRoom_57 ?_
      refine zJ.goto (tgt := 129) dX5_makesRoom_58 (by decide) ?_
      exact zG.ret (r := none) ⟨dX5_makesRoom_129, rfl⟩ h
  · replace h := h.2 c1
    exact zG.ret (r := none) ⟨dX5_makesRoom_15, rfl⟩ h
set_option maxRecDepth 100000 in
set_option maxHeartbeats 4000000 in
theorem w_X5_comesNear_0 (o : zW) (x1 : Int32) (S : zS) (Q : Option Value → zS → Prop) (h : zGi o 994 mdX5_rowOf [.int x1] S (fun r2 S3 => zGv o 994 mdX5_makesRoom [.ref (z_adr o (23, 0, 0)), .int r2] S3 (fun S6 => vp_in r2 4 ∧ (zG o 994 mdX5_comesNear 17 [(0, .ref (z_adr o (23, 0, 0))), (1, .int x1), (2, .int r2), (3, .int (S6.1 (31, 0, 0) r2.toNatClampNeg))] [] S6 Q)))) : zG o 994 mdX5_comesNear 0 [(0, .ref (z_adr o (23, 0, 0))), (1, .int x1)] [] S Q := by
  show zJ o mdX5_comesNear 0 _ [] (994, z_enc o S) 0 0 _
  refine zJ.iload_n 1 dX5_comesNear_0 rfl rfl ?_
  refine zG.callSi [.int x1] [] dX5_comesNear_1 ⟨(cb_X5_rowOf).1, (cb_X5_rowOf).2, (Nat.le_of_ble_eq_true rfl), (Nat.le_of_ble_eq_true rfl)⟩ ml_X5_137 cs_X5_rowOf rfl (Nat.le_of_ble_eq_true rfl) (Nat.le_of_ble_eq_true rfl) rfl h (fun r2 S3 h2 => ?_)
  replace h := h2
  clear h2
  refine zJ.istore_n (lv' := [(2, .int r2), (0, .ref (z_adr o (23, 0, 0))), (1, .int x1)]) dX5_comesNear_4 rfl (Nat.le_of_ble_eq_true rfl) rfl ?_
  refine zJ.aload_n 1 dX5_comesNear_5 rfl rfl ?_
  refine zJ.iload_n 0 dX5_comesNear_6 rfl rfl ?_
  refine zG.callVv [.int r2] [] (ob_23 o) ok_23 rfl dX5_comesNear_7 ⟨(cb_X5_makesRoom).1, (cb_X5_makesRoom).2, (Nat.le_of_ble_eq_true rfl), (Nat.le_of_ble_eq_true rfl)⟩ ml_X5_148 ci_X5_makesRoom cv_X5_makesRoom rfl (Nat.le_of_ble_eq_true rfl) (Nat.le_of_ble_eq_true rfl) rfl h (fun S6 h2 => ?_)
  replace h := h2
  clear h2
  refine zJ.aload_n 1 dX5_comesNear_10 rfl rfl ?_
  refine zE.getV (fd_23_7 o) ok_23 kiX5 (Nat.le_of_ble_eq_true rfl) fl_X5_31 dX5_comesNear_11 ?_
  refine zJ.iload_n 0 dX5_comesNear_14 rfl rfl ?_
  obtain ⟨hq, h⟩ := h
  refine zE.aldI (ia_31 o) ok_31 hq dX5_comesNear_15 ?_
  refine zJ.istore_n (lv' := [(3, .int (S6.1 (31, 0, 0) r2.toNatClampNeg)), (2, .int r2), (0, .ref (z_adr o (23, 0, 0))), (1, .int x1)]) dX5_comesNear_16 rfl (Nat.le_of_ble_eq_true rfl) rfl ?_
  exact zJ.sub [2, 3, 1, 0] rfl h
set_option maxRecDepth 100000 in
set_option maxHeartbeats 4000000 in
theorem w_X5_comesNear_17 (o : zW) (x1 : Int32) (x2 : Int32) (x3 : Int32) (S : zS) (Q : Option Value → zS → Prop) (h : (x3 ≤ 0 → (vp_in (3 * x2) 12 ∧ (vp_in x2 4 ∧ (∀ y2 : Int32, y2 = ((sI S (32, 0, 0) ((3 * x2).toNatClampNeg) x1).1 (31, 0, 0) x2.toNatClampNeg) → (vp_in x2 4 ∧ (∀ S3 : zS, S3 = (sI (sI S (32, 0, 0) ((3 * x2).toNatClampNeg) x1) (31, 0, 0) (x2.toNatClampNeg) (y2 + 1)) → (vp_in x1 16 ∧ (Q none (sI S3 (29, 0, 0) (x1.toNatClampNeg) 1))))))))) ∧ (¬ x3 ≤ 0 → (vp_in (((3 * x2) + x3) - 1) 12 ∧ (vp_in ((3 * x2) + x3) 12 ∧ (∀ S4 : zS, S4 = (sI S (32, 0, 0) (((3 * x2) + x3).toNatClampNeg) (S.1 (32, 0, 0) ((((3 * x2) + x3) - 1).toNatClampNeg))) → (zG o 994 mdX5_comesNear 17 [(0, .ref (z_adr o (23, 0, 0))), (1, .int x1), (2, .int x2), (3, .int (x3 + (-1)))] [] S4 Q)))))) : zG o 994 mdX5_comesNear 17 [(0, .ref (z_adr o (23, 0, 0))), (1, .int x1), (2, .int x2), (3, .int x3)] [] S Q := by
  show zJ o mdX5_comesNear 17 _ [] (994, z_enc o S) 0 0 _
  refine zJ.iload_n 3 dX5_comesNear_17 rfl rfl ?_
  refine zJ.if_le (tgt := 49) dX5_comesNear_18 (by decide) (fun c1 => ?_) (fun c1 => ?_)
  · replace h := h.1 c1
    refine zJ.aload_n 0 dX5_comesNear_49 rfl rfl ?_
    refine zE.getV (fd_23_8 o) ok_23 kiX5 (Nat.le_of_ble_eq_true rfl) fl_X5_34 dX5_comesNear_50 ?_
    refine zJ.iconst (v := 3) dX5_comesNear_53 (by decide) ?_
    refine zJ.iload_n 2 dX5_comesNear_54 rfl rfl ?_
    refine zJ.imul dX5_comesNear_55 ?_
    refine zJ.iload_n 1 dX5_comesNear_56 rfl rfl ?_
    obtain ⟨hq, h⟩ := h
    refine zE.astI (ia_32 o) ok_32 hq dX5_comesNear_57 ?_
    refine zJ.aload_n 0 dX5_comesNear_58 rfl rfl ?_
    refine zE.getV (fd_23_7 o) ok_23 kiX5 (Nat.le_of_ble_eq_true rfl) fl_X5_31 dX5_comesNear_59 ?_
    refine zJ.iload_n 2 dX5_comesNear_62 rfl rfl ?_
    refine zJ.dup2_11 dX5_comesNear_63 rfl rfl ?_
    obtain ⟨hq, h⟩ := h
    refine zE.aldI (ia_31 o) ok_31 hq dX5_comesNear_64 ?_
    refine zJ.topi (fun y2 hyy2 => ?_)
    replace h := h y2 hyy2
    refine zJ.iconst (v := 1) dX5_comesNear_65 (by decide) ?_
    refine zJ.iadd dX5_comesNear_66 ?_
    obtain ⟨hq, h⟩ := h
    refine zE.astI (ia_31 o) ok_31 hq dX5_comesNear_67 ?_
    refine zJ.nameS (fun S3 hyS3 => ?_)
    replace h := h S3 hyS3
    refine zJ.aload_n 0 dX5_comesNear_68 rfl rfl ?_
    refine zE.getV (fd_23_5 o) ok_23 kiX5 (Nat.le_of_ble_eq_true rfl) fl_X5_25 dX5_comesNear_69 ?_
    refine zJ.iload_n 1 dX5_comesNear_72 rfl rfl ?_
    refine zJ.iconst (v := 1) dX5_comesNear_73 (by decide) ?_
    obtain ⟨hq, h⟩ := h
    refine zE.astI (ia_29 o) ok_29 hq dX5_comesNear_74 ?_
    exact zG.ret (r := none) ⟨dX5_comesNear_75, rfl⟩ h
  · replace h := h.2 c1
    refine zJ.aload_n 0 dX5_comesNear_21 rfl rfl ?_
    refine zE.getV (fd_23_8 o) ok_23 kiX5 (Nat.le_of_ble_eq_true rfl) fl_X5_34 dX5_comesNear_22 ?_
    refine zJ.iconst (v := 3) dX5_comesNear_25 (by decide) ?_
    refine zJ.iload_n 2 dX5_comesNear_26 rfl rfl ?_
    refine zJ.imul dX5_comesNear_27 ?_
    refine zJ.iload_n 3 dX5_comesNear_28 rfl rfl ?_
    refine zJ.iadd dX5_comesNear_29 ?_
    refine zJ.aload_n 0 dX5_comesNear_30 rfl rfl ?_
    refine zE.getV (fd_23_8 o) ok_23 kiX5 (Nat.le_of_ble_eq_true rfl) fl_X5_34 dX5_comesNear_31 ?_
    refine zJ.iconst (v := 3) dX5_comesNear_34 (by decide) ?_
    refine zJ.iload_n 2 dX5_comesNear_35 rfl rfl ?_
    refine zJ.imul dX5_comesNear_36 ?_
    refine zJ.iload_n 3 dX5_comesNear_37 rfl rfl ?_
    refine zJ.iadd dX5_comesNear_38 ?_
    refine zJ.iconst (v := 1) dX5_comesNear_39 (by decide) ?_
    refine zJ.isub dX5_comesNear_40 ?_
    obtain ⟨hq, h⟩ := h
    refine zE.aldI (ia_32 o) ok_32 hq dX5_comesNear_41 ?_
    obtain ⟨hq, h⟩ := h
    refine zE.astI (ia_32 o) ok_32 hq dX5_comesNear_42 ?_
    refine zJ.nameS (fun S4 hyS4 => ?_)
    replace h := h S4 hyS4
    refine zJ.iinc (k := 3) (lv' := [(3, .int (x3 + (-1))), (0, .ref (z_adr o (23, 0, 0))), (1, .int x1), (2, .int x2)]) dX5_comesNear_43 rfl rfl (Nat.le_of_ble_eq_true rfl) rfl ?_
    refine zJ.goto (tgt := 17) dX5_comesNear_46 (by decide) ?_
    exact zJ.sub [1, 2, 3, 0] rfl h
set_option maxRecDepth 100000 in
set_option maxHeartbeats 4000000 in
theorem w_X5_getsItem_0 (o : zW) (x1 : Int32) (x2 : Int32) (x3 : Int32) (x4 : Int32) (S : zS) (Q : Option Value → zS → Prop) (h : ∀ S1 : zS, S1 = (sL (sI S (40, 0, 0) 8 ((S.1 (40, 0, 0) 8) + 1)) (23, 0, 0) 21 (((sI S (40, 0, 0) 8 ((S.1 (40, 0, 0) 8) + 1)).2.1 (23, 0, 0) 21) + (((S.1 (40, 0, 0) 9) - x4).toInt64))) → (∀ S2 : zS, S2 = (sL S1 (23, 0, 0) 22 ((S1.2.1 (23, 0, 0) 22) + ((((S.1 (40, 0, 0) 9) - x4).toInt64) * (((S.1 (40, 0, 0) 9) - x4).toInt64)))) → ((((S.1 (40, 0, 0) 9) - x4) ≤ (S2.1 (39, 0, 0) 2) → ((200 ≤ x1 → (Q none (sI S2 (39, 0, 0) 2 (S2.1 (39, 0, 0) 2)))) ∧ (¬ 200 ≤ x1 → (vp_in ((4 * x2) + x3) 64 ∧ (∀ y5 : Int32, y5 = ((sI S2 (39, 0, 0) 2 (S2.1 (39, 0, 0) 2)).1 (27, 0, 0) (((4 * x2) + x3).toNatClampNeg)) → (vp_in x1 200 ∧ (∀ S6 : zS, S6 = (sI (sI S2 (39, 0, 0) 2 (S2.1 (39, 0, 0) 2)) (41, 0, 0) (x1.toNatClampNeg) y5) → (vp_in x1 200 ∧ (Q none (sI S6 (42, 0, 0) (x1.toNatClampNeg) ((S.1 (40, 0, 0) 9) - x4))))))))))) ∧ (¬ ((S.1 (40, 0, 0) 9) - x4) ≤ (S2.1 (39, 0, 0) 2) → ((200 ≤ x1 → (Q none (sI S2 (39, 0, 0) 2 ((S.1 (40, 0, 0) 9) - x4)))) ∧ (¬ 200 ≤ x1 → (vp_in ((4 * x2) + x3) 64 ∧ (∀ y8 : Int32, y8 = ((sI S2 (39, 0, 0) 2 ((S.1 (40, 0, 0) 9) - x4)).1 (27, 0, 0) (((4 * x2) + x3).toNatClampNeg)) → (vp_in x1 200 ∧ (∀ S9 : zS, S9 = (sI (sI S2 (39, 0, 0) 2 ((S.1 (40, 0, 0) 9) - x4)) (41, 0, 0) (x1.toNatClampNeg) y8) → (vp_in x1 200 ∧ (Q none (sI S9 (42, 0, 0) (x1.toNatClampNeg) ((S.1 (40, 0, 0) 9) - x4)))))))))))))) : zG o 994 mdX5_getsItem 0 [(0, .ref (z_adr o (23, 0, 0))), (1, .int x1), (2, .int x2), (3, .int x3), (4, .int x4)] [] S Q := by
  show zJ o mdX5_getsItem 0 _ [] (994, z_enc o S) 0 0 _
  refine zJ.aload_n 0 dX5_getsItem_0 rfl rfl ?_
  refine zE.getV (fd_23_16 o) ok_23 kiX5 (Nat.le_of_ble_eq_true rfl) fl_X5_58 dX5_getsItem_1 ?_
  refine zJ.bipush (v := 9) dX5_getsItem_4 (by decide) ?_
  refine zE.aldI (ia_40 o) ok_40 (by unfold vp_in; decide) dX5_getsItem_6 ?_
  refine zJ.iload 4 dX5_getsItem_7 rfl ?_
  refine zJ.isub dX5_getsItem_9 ?_
  refine zJ.istore (lv' := [(5, .int ((S.1 (40, 0, 0) 9) - x4)), (0, .ref (z_adr o (23, 0, 0))), (1, .int x1), (2, .int x2), (3, .int x3), (4, .int x4)]) dX5_getsItem_10 (Nat.le_of_ble_eq_true rfl) rfl ?_
  refine zJ.aload_n 1 dX5_getsItem_12 rfl rfl ?_
  refine zE.getV (fd_23_16 o) ok_23 kiX5 (Nat.le_of_ble_eq_true rfl) fl_X5_58 dX5_getsItem_13 ?_
  refine zJ.bipush (v := 8) dX5_getsItem_16 (by decide) ?_
  refine zJ.dup2_11 dX5_getsItem_18 rfl rfl ?_
  refine zE.aldI (ia_40 o) ok_40 (by unfold vp_in; decide) dX5_getsItem_19 ?_
  refine zJ.iconst (v := 1) dX5_getsItem_20 (by decide) ?_
  refine zJ.iadd dX5_getsItem_21 ?_
  refine zE.astI (ia_40 o) ok_40 (by unfold vp_in; decide) dX5_getsItem_22 ?_
  refine zJ.aload_n 1 dX5_getsItem_23 rfl rfl ?_
  refine zJ.dup dX5_getsItem_24 rfl ?_
  refine zE.getL (fd_23_21 o) ok_23 kiX5 (Nat.le_of_ble_eq_true rfl) fl_X5_94 dX5_getsItem_25 ?_
  refine zJ.iload 0 dX5_getsItem_28 rfl ?_
  refine zJ.i2l dX5_getsItem_30 ?_
  refine zJ.ladd dX5_getsItem_31 ?_
  refine zE.putL (fd_23_21 o) ok_23 kiX5 (Nat.le_of_ble_eq_true rfl) fl_X5_94 rfl rfl dX5_getsItem_32 ?_
  refine zJ.nameS (fun S1 hyS1 => ?_)
  replace h := h S1 hyS1
  refine zJ.aload_n 1 dX5_getsItem_35 rfl rfl ?_
  refine zJ.dup dX5_getsItem_36 rfl ?_
  refine zE.getL (fd_23_22 o) ok_23 kiX5 (Nat.le_of_ble_eq_true rfl) fl_X5_98 dX5_getsItem_37 ?_
  refine zJ.iload 0 dX5_getsItem_40 rfl ?_
  refine zJ.i2l dX5_getsItem_42 ?_
  refine zJ.iload 0 dX5_getsItem_43 rfl ?_
  refine zJ.i2l dX5_getsItem_45 ?_
  refine zJ.lmul dX5_getsItem_46 ?_
  refine zJ.ladd dX5_getsItem_47 ?_
  refine zE.putL (fd_23_22 o) ok_23 kiX5 (Nat.le_of_ble_eq_true rfl) fl_X5_98 rfl rfl dX5_getsItem_48 ?_
  refine zJ.nameS (fun S2 hyS2 => ?_)
  replace h := h S2 hyS2
  refine zJ.aload_n 1 dX5_getsItem_51 rfl rfl ?_
  refine zE.getV (fd_23_15 o) ok_23 kiX5 (Nat.le_of_ble_eq_true rfl) fl_X5_55 dX5_getsItem_52 ?_
  refine zJ.iconst (v := 2) dX5_getsItem_55 (by decide) ?_
  refine zJ.iload 0 dX5_getsItem_56 rfl ?_
  refine zJ.aload_n 1 dX5_getsItem_58 rfl rfl ?_
  refine zE.getV (fd_23_15 o) ok_23 kiX5 (Nat.le_of_ble_eq_true rfl) fl_X5_55 dX5_getsItem_59 ?_
  refine zJ.iconst (v := 2) dX5_getsItem_62 (by decide) ?_
  refine zE.aldI (ia_39 o) ok_39 (by unfold vp_in; decide) dX5_getsItem_63 ?_
  refine zJ.icmp_le (tgt := 72) dX5_getsItem_64 (by decide) (fun c3 => ?_) (fun c3 => ?_)
  · replace h := h.1 c3
    refine zJ.aload_n 1 dX5_getsItem_72 rfl rfl ?_
    refine zE.getV (fd_23_15 o) ok_23 kiX5 (Nat.le_of_ble_eq_true rfl) fl_X5_55 dX5_getsItem_73 ?_
    refine zJ.iconst (v := 2) dX5_getsItem_76 (by decide) ?_
    refine zE.aldI (ia_39 o) ok_39 (by unfold vp_in; decide) dX5_getsItem_77 ?_
    refine zE.astI (ia_39 o) ok_39 (by unfold vp_in; decide) dX5_getsItem_78 ?_
    refine zJ.iload_n 2 dX5_getsItem_79 rfl rfl ?_
    refine zJ.sipush (v := 200) dX5_getsItem_80 (by decide) ?_
    refine zJ.icmp_ge (tgt := 110) dX5_getsItem_83 (by decide) (fun c4 => ?_) (fun c4 => ?_)
    · replace h := h.1 c4
      exact zG.ret (r := none) ⟨dX5_getsItem_110, rfl⟩ h
    · replace h := h.2 c4
      refine zJ.aload_n 1 dX5_getsItem_86 rfl rfl ?_
      refine zE.getV (fd_23_17 o) ok_23 kiX5 (Nat.le_of_ble_eq_true rfl) fl_X5_61 dX5_getsItem_87 ?_
      refine zJ.iload_n 2 dX5_getsItem_90 rfl rfl ?_
      refine zJ.aload_n 1 dX5_getsItem_91 rfl rfl ?_
      refine zE.getV (fd_23_3 o) ok_23 kiX5 (Nat.le_of_ble_eq_true rfl) fl_X5_19 dX5_getsItem_92 ?_
      refine zJ.iconst (v := 4) dX5_getsItem_95 (by decide) ?_
      refine zJ.iload_n 3 dX5_getsItem_96 rfl rfl ?_
      refine zJ.imul dX5_getsItem_97 ?_
      refine zJ.iload_n 4 dX5_getsItem_98 rfl rfl ?_
      refine zJ.iadd dX5_getsItem_99 ?_
      obtain ⟨hq, h⟩ := h
      refine zE.aldI (ia_27 o) ok_27 hq dX5_getsItem_100 ?_
      refine zJ.topi (fun y5 hyy5 => ?_)
      replace h := h y5 hyy5
      obtain ⟨hq, h⟩ := h
      refine zE.astI (ia_41 o) ok_41 hq dX5_getsItem_101 ?_
      refine zJ.nameS (fun S6 hyS6 => ?_)
      replace h := h S6 hyS6
      refine zJ.aload_n 1 dX5_getsItem_102 rfl rfl ?_
      refine zE.getV (fd_23_18 o) ok_23 kiX5 (Nat.le_of_ble_eq_true rfl) fl_X5_64 dX5_getsItem_103 ?_
      refine zJ.iload_n 2 dX5_getsItem_106 rfl rfl ?_
      refine zJ.iload 0 dX5_getsItem_107 rfl ?_
      obtain ⟨hq, h⟩ := h
      refine zE.astI (ia_42 o) ok_42 hq dX5_getsItem_109 ?_
      exact zG.ret (r := none) ⟨dX5_getsItem_110, rfl⟩ h
  · replace h := h.2 c3
    refine zJ.iload 0 dX5_getsItem_67 rfl ?_
    refine zJ.goto (tgt := 78) dX5_getsItem_69 (by decide) ?_
    refine zE.astI (ia_39 o) ok_39 (by unfold vp_in; decide) dX5_getsItem_78 ?_
    refine zJ.iload_n 2 dX5_getsItem_79 rfl rfl ?_
    refine zJ.sipush (v := 200) dX5_getsItem_80 (by decide) ?_
    refine zJ.icmp_ge (tgt := 110) dX5_getsItem_83 (by decide) (fun c7 => ?_) (fun c7 => ?_)
    · replace h := h.1 c7
      exact zG.ret (r := none) ⟨dX5_getsItem_110, rfl⟩ h
    · replace h := h.2 c7
      refine zJ.aload_n 1 dX5_getsItem_86 rfl rfl ?_
      refine zE.getV (fd_23_17 o) ok_23 kiX5 (Nat.le_of_ble_eq_true rfl) fl_X5_61 dX5_getsItem_87 ?_
      refine zJ.iload_n 2 dX5_getsItem_90 rfl rfl ?_
      refine zJ.aload_n 1 dX5_getsItem_91 rfl rfl ?_
      refine zE.getV (fd_23_3 o) ok_23 kiX5 (Nat.le_of_ble_eq_true rfl) fl_X5_19 dX5_getsItem_92 ?_
      refine zJ.iconst (v := 4) dX5_getsItem_95 (by decide) ?_
      refine zJ.iload_n 3 dX5_getsItem_96 rfl rfl ?_
      refine zJ.imul dX5_getsItem_97 ?_
      refine zJ.iload_n 4 dX5_getsItem_98 rfl rfl ?_
      refine zJ.iadd dX5_getsItem_99 ?_
      obtain ⟨hq, h⟩ := h
      refine zE.aldI (ia_27 o) ok_27 hq dX5_getsItem_100 ?_
      refine zJ.topi (fun y8 hyy8 => ?_)
      replace h := h y8 hyy8
      obtain ⟨hq, h⟩ := h
      refine zE.astI (ia_41 o) ok_41 hq dX5_getsItem_101 ?_
      refine zJ.nameS (fun S9 hyS9 => ?_)
      replace h := h S9 hyS9
      refine zJ.aload_n 1 dX5_getsItem_102 rfl rfl ?_
      refine zE.getV (fd_23_18 o) ok_23 kiX5 (Nat.le_of_ble_eq_true rfl) fl_X5_64 dX5_getsItem_103 ?_
      refine zJ.iload_n 2 dX5_getsItem_106 rfl rfl ?_
      refine zJ.iload 0 dX5_getsItem_107 rfl ?_
      obtain ⟨hq, h⟩ := h
      refine zE.astI (ia_42 o) ok_42 hq dX5_getsItem_109 ?_
      exact zG.ret (r := none) ⟨dX5_getsItem_110, rfl⟩ h
set_option maxRecDepth 100000 in
set_option maxHeartbeats 4000000 in
theorem w_X5_laysIn_0 (o : zW) (x1 : Int32) (x2 : Int32) (x3 : Int32) (S : zS) (Q : Option Value → zS → Prop) (h : vp_in ((4 * x1) + x2) 64 ∧ (vp_in x1 16 ∧ (∀ y1 : Int32, y1 = ((sI S (27, 0, 0) (((4 * x1) + x2).toNatClampNeg) x3).1 (28, 0, 0) x1.toNatClampNeg) → (vp_in x1 16 ∧ (∀ S2 : zS, S2 = (sI (sI S (27, 0, 0) (((4 * x1) + x2).toNatClampNeg) x3) (28, 0, 0) (x1.toNatClampNeg) (y1 ||| (1 <<< (x2 &&& 31)))) → (Q none S2)))))) : zG o 994 mdX5_laysIn 0 [(0, .ref (z_adr o (23, 0, 0))), (1, .int x1), (2, .int x2), (3, .int x3)] [] S Q := by
  show zJ o mdX5_laysIn 0 _ [] (994, z_enc o S) 0 0 _
  refine zJ.aload_n 0 dX5_laysIn_0 rfl rfl ?_
  refine zE.getV (fd_23_3 o) ok_23 kiX5 (Nat.le_of_ble_eq_true rfl) fl_X5_19 dX5_laysIn_1 ?_
  refine zJ.iconst (v := 4) dX5_laysIn_4 (by decide) ?_
  refine zJ.iload_n 1 dX5_laysIn_5 rfl rfl ?_
  refine zJ.imul dX5_laysIn_6 ?_
  refine zJ.iload_n 2 dX5_laysIn_7 rfl rfl ?_
  refine zJ.iadd dX5_laysIn_8 ?_
  refine zJ.iload_n 3 dX5_laysIn_9 rfl rfl ?_
  obtain ⟨hq, h⟩ := h
  refine zE.astI (ia_27 o) ok_27 hq dX5_laysIn_10 ?_
  refine zJ.aload_n 0 dX5_laysIn_11 rfl rfl ?_
  refine zE.getV (fd_23_4 o) ok_23 kiX5 (Nat.le_of_ble_eq_true rfl) fl_X5_22 dX5_laysIn_12 ?_
  refine zJ.iload_n 1 dX5_laysIn_15 rfl rfl ?_
  refine zJ.dup2_11 dX5_laysIn_16 rfl rfl ?_
  obtain ⟨hq, h⟩ := h
  refine zE.aldI (ia_28 o) ok_28 hq dX5_laysIn_17 ?_
  refine zJ.topi (fun y1 hyy1 => ?_)
  replace h := h y1 hyy1
  refine zJ.iconst (v := 1) dX5_laysIn_18 (by decide) ?_
  refine zJ.iload_n 2 dX5_laysIn_19 rfl rfl ?_
  refine zJ.ishl dX5_laysIn_20 ?_
  refine zJ.ior dX5_laysIn_21 ?_
  obtain ⟨hq, h⟩ := h
  refine zE.astI (ia_28 o) ok_28 hq dX5_laysIn_22 ?_
  refine zJ.nameS (fun S2 hyS2 => ?_)
  replace h := h S2 hyS2
  exact zG.ret (r := none) ⟨dX5_laysIn_23, rfl⟩ h
set_option maxRecDepth 100000 in
set_option maxHeartbeats 4000000 in
theorem w_X5_comesFetched_0 (o : zW) (x1 : Int32) (S : zS) (Q : Option Value → zS → Prop) (h : zG o 994 mdX5_comesFetched 2 [(0, .ref (z_adr o (23, 0, 0))), (1, .int x1), (2, .int 0)] [] S Q) : zG o 994 mdX5_comesFetched 0 [(0, .ref (z_adr o (23, 0, 0))), (1, .int x1)] [] S Q := by
  show zJ o mdX5_comesFetched 0 _ [] (994, z_enc o S) 0 0 _
  refine zJ.iconst (v := 0) dX5_comesFetched_0 (by decide) ?_
  refine zJ.istore_n (lv' := [(2, .int 0), (0, .ref (z_adr o (23, 0, 0))), (1, .int x1)]) dX5_comesFetched_1 rfl (Nat.le_of_ble_eq_true rfl) rfl ?_
  exact zJ.sub [1, 2, 0] rfl h
set_option maxRecDepth 100000 in
set_option maxHeartbeats 4000000 in
theorem w_X5_comesFetched_2 (o : zW) (x1 : Int32) (x2 : Int32) (S : zS) (Q : Option Value → zS → Prop) (h : vp_in x2 4 ∧ (((S.1 (33, 0, 0) x2.toNatClampNeg) = x1 → (zG o 994 mdX5_comesFetched 30 [(0, .ref (z_adr o (23, 0, 0))), (1, .int x1), (3, .int x2)] [] (sI S (39, 0, 0) 0 ((S.1 (39, 0, 0) 0) - 1)) Q)) ∧ (¬ (S.1 (33, 0, 0) x2.toNatClampNeg) = x1 → (zG o 994 mdX5_comesFetched 2 [(0, .ref (z_adr o (23, 0, 0))), (1, .int x1), (2, .int (x2 + 1))] [] S Q)))) : zG o 994 mdX5_comesFetched 2 [(0, .ref (z_adr o (23, 0, 0))), (1, .int x1), (2, .int x2)] [] S Q := by
  show zJ o mdX5_comesFetched 2 _ [] (994, z_enc o S) 0 0 _
  refine zJ.aload_n 0 dX5_comesFetched_2 rfl rfl ?_
  refine zE.getV (fd_23_9 o) ok_23 kiX5 (Nat.le_of_ble_eq_true rfl) fl_X5_37 dX5_comesFetched_3 ?_
  refine zJ.iload_n 2 dX5_comesFetched_6 rfl rfl ?_
  obtain ⟨hq, h⟩ := h
  refine zE.aldI (ia_33 o) ok_33 hq dX5_comesFetched_7 ?_
  refine zJ.iload_n 1 dX5_comesFetched_8 rfl rfl ?_
  refine zJ.icmp_eq (tgt := 18) dX5_comesFetched_9 (by decide) (fun c1 => ?_) (fun c1 => ?_)
  · replace h := h.1 c1
    refine zJ.aload_n 0 dX5_comesFetched_18 rfl rfl ?_
    refine zE.getV (fd_23_15 o) ok_23 kiX5 (Nat.le_of_ble_eq_true rfl) fl_X5_55 dX5_comesFetched_19 ?_
    refine zJ.iconst (v := 0) dX5_comesFetched_22 (by decide) ?_
    refine zJ.dup2_11 dX5_comesFetched_23 rfl rfl ?_
    refine zE.aldI (ia_39 o) ok_39 (by unfold vp_in; decide) dX5_comesFetched_24 ?_
    refine zJ.iconst (v := 1) dX5_comesFetched_25 (by decide) ?_
    refine zJ.isub dX5_comesFetched_26 ?_
    refine zE.astI (ia_39 o) ok_39 (by unfold vp_in; decide) dX5_comesFetched_27 ?_
    refine zJ.iload_n 2 dX5_comesFetched_28 rfl rfl ?_
    refine zJ.istore_n (lv' := [(3, .int x2), (0, .ref (z_adr o (23, 0, 0))), (1, .int x1), (2, .int x2)]) dX5_comesFetched_29 rfl (Nat.le_of_ble_eq_true rfl) rfl ?_
    exact zJ.sub [1, 2, 0] rfl h
  · replace h := h.2 c1
    refine zJ.iinc (k := 2) (lv' := [(2, .int (x2 + 1)), (0, .ref (z_adr o (23, 0, 0))), (1, .int x1)]) dX5_comesFetched_12 rfl rfl (Nat.le_of_ble_eq_true rfl) rfl ?_
    refine zJ.goto (tgt := 2) dX5_comesFetched_15 (by decide) ?_
    exact zJ.sub [1, 2, 0] rfl h
set_option maxRecDepth 100000 in
set_option maxHeartbeats 4000000 in
theorem w_X5_comesFetched_30 (o : zW) (x1 : Int32) (x3 : Int32) (S : zS) (Q : Option Value → zS → Prop) (h : ((S.1 (39, 0, 0) 0) ≤ x3 → (zG o 994 mdX5_comesFetched 62 [(0, .ref (z_adr o (23, 0, 0))), (1, .int x1), (3, .int 0)] [] S Q)) ∧ (¬ (S.1 (39, 0, 0) 0) ≤ x3 → (vp_in (x3 + 1) 4 ∧ (vp_in x3 4 ∧ (∀ S2 : zS, S2 = (sI S (33, 0, 0) (x3.toNatClampNeg) (S.1 (33, 0, 0) ((x3 + 1).toNatClampNeg))) → (zG o 994 mdX5_comesFetched 30 [(0, .ref (z_adr o (23, 0, 0))), (1, .int x1), (3, .int (x3 + 1))] [] S2 Q)))))) : zG o 994 mdX5_comesFetched 30 [(0, .ref (z_adr o (23, 0, 0))), (1, .int x1), (3, .int x3)] [] S Q := by
  show zJ o mdX5_comesFetched 30 _ [] (994, z_enc o S) 0 0 _
  refine zJ.iload_n 2 dX5_comesFetched_30 rfl rfl ?_
  refine zJ.aload_n 0 dX5_comesFetched_31 rfl rfl ?_
  refine zE.getV (fd_23_15 o) ok_23 kiX5 (Nat.le_of_ble_eq_true rfl) fl_X5_55 dX5_comesFetched_32 ?_
  refine zJ.iconst (v := 0) dX5_comesFetched_35 (by decide) ?_
  refine zE.aldI (ia_39 o) ok_39 (by unfold vp_in; decide) dX5_comesFetched_36 ?_
  refine zJ.icmp_ge (tgt := 60) dX5_comesFetched_37 (by decide) (fun c1 => ?_) (fun c1 => ?_)
  · replace h := h.1 c1
    refine zJ.iconst (v := 0) dX5_comesFetched_60 (by decide) ?_
    refine zJ.istore_n (lv' := [(3, .int 0), (0, .ref (z_adr o (23, 0, 0))), (1, .int x1)]) dX5_comesFetched_61 rfl (Nat.le_of_ble_eq_true rfl) rfl ?_
    exact zJ.sub [1, 2, 0] rfl h
  · replace h := h.2 c1
    refine zJ.aload_n 0 dX5_comesFetched_40 rfl rfl ?_
    refine zE.getV (fd_23_9 o) ok_23 kiX5 (Nat.le_of_ble_eq_true rfl) fl_X5_37 dX5_comesFetched_41 ?_
    refine zJ.iload_n 2 dX5_comesFetched_44 rfl rfl ?_
    refine zJ.aload_n 0 dX5_comesFetched_45 rfl rfl ?_
    refine zE.getV (fd_23_9 o) ok_23 kiX5 (Nat.le_of_ble_eq_true rfl) fl_X5_37 dX5_comesFetched_46 ?_
    refine zJ.iload_n 2 dX5_comesFetched_49 rfl rfl ?_
    refine zJ.iconst (v := 1) dX5_comesFetched_50 (by decide) ?_
    refine zJ.iadd dX5_comesFetched_51 ?_
    obtain ⟨hq, h⟩ := h
    refine zE.aldI (ia_33 o) ok_33 hq dX5_comesFetched_52 ?_
    obtain ⟨hq, h⟩ := h
    refine zE.astI (ia_33 o) ok_33 hq dX5_comesFetched_53 ?_
    refine zJ.nameS (fun S2 hyS2 => ?_)
    replace h := h S2 hyS2
    refine zJ.iinc (k := 2) (lv' := [(3, .int (x3 + 1)), (0, .ref (z_adr o (23, 0, 0))), (1, .int x1)]) dX5_comesFetched_54 rfl rfl (Nat.le_of_ble_eq_true rfl) rfl ?_
    refine zJ.goto (tgt := 30) dX5_comesFetched_57 (by decide) ?_
    exact zJ.sub [1, 2, 0] rfl h
set_option maxRecDepth 100000 in
set_option maxHeartbeats 4000000 in
theorem w_X5_comesFetched_62 (o : zW) (x1 : Int32) (x3 : Int32) (S : zS) (Q : Option Value → zS → Prop) (h : (4 ≤ x3 → (vp_in x1 16 ∧ (zGv o 994 mdX5_comesNear [.ref (z_adr o (23, 0, 0)), .int x1] (sI S (28, 0, 0) (x1.toNatClampNeg) 0) (fun S4 => zG o 994 mdX5_comesFetched 107 [(0, .ref (z_adr o (23, 0, 0))), (1, .int x1), (3, .int 0)] [] S4 Q)))) ∧ (¬ 4 ≤ x3 → (vp_in ((4 * x1) + x3) 64 ∧ (vp_in ((4 * x1) + x3) 64 ∧ (∀ S5 : zS, S5 = (sI S (27, 0, 0) (((4 * x1) + x3).toNatClampNeg) (S.1 (26, 0, 0) (((4 * x1) + x3).toNatClampNeg))) → (zG o 994 mdX5_comesFetched 62 [(0, .ref (z_adr o (23, 0, 0))), (1, .int x1), (3, .int (x3 + 1))] [] S5 Q)))))) : zG o 994 mdX5_comesFetched 62 [(0, .ref (z_adr o (23, 0, 0))), (1, .int x1), (3, .int x3)] [] S Q := by
  show zJ o mdX5_comesFetched 62 _ [] (994, z_enc o S) 0 0 _
  refine zJ.iload_n 2 dX5_comesFetched_62 rfl rfl ?_
  refine zJ.iconst (v := 4) dX5_comesFetched_63 (by decide) ?_
  refine zJ.icmp_ge (tgt := 93) dX5_comesFetched_64 (by decide) (fun c1 => ?_) (fun c1 => ?_)
  · replace h := h.1 c1
    refine zJ.aload_n 0 dX5_comesFetched_93 rfl rfl ?_
    refine zE.getV (fd_23_4 o) ok_23 kiX5 (Nat.le_of_ble_eq_true rfl) fl_X5_22 dX5_comesFetched_94 ?_
    refine zJ.iload_n 1 dX5_comesFetched_97 rfl rfl ?_
    refine zJ.iconst (v := 0) dX5_comesFetched_98 (by decide) ?_
    obtain ⟨hq, h⟩ := h
    refine zE.astI (ia_28 o) ok_28 hq dX5_comesFetched_99 ?_
    refine zJ.aload_n 0 dX5_comesFetched_100 rfl rfl ?_
    refine zJ.iload_n 1 dX5_comesFetched_101 rfl rfl ?_
    refine zG.callVv [.int x1] [] (ob_23 o) ok_23 rfl dX5_comesFetched_102 ⟨(cb_X5_comesNear).1, (cb_X5_comesNear).2, (Nat.le_of_ble_eq_true rfl), (Nat.le_of_ble_eq_true rfl)⟩ ml_X5_151 ci_X5_comesNear cv_X5_comesNear rfl (Nat.le_of_ble_eq_true rfl) (Nat.le_of_ble_eq_true rfl) rfl h (fun S4 h2 => ?_)
    replace h := h2
    clear h2
    refine zJ.iconst (v := 0) dX5_comesFetched_105 (by decide) ?_
    refine zJ.istore_n (lv' := [(3, .int 0), (0, .ref (z_adr o (23, 0, 0))), (1, .int x1)]) dX5_comesFetched_106 rfl (Nat.le_of_ble_eq_true rfl) rfl ?_
    exact zJ.sub [1, 2, 0] rfl h
  · replace h := h.2 c1
    refine zJ.aload_n 0 dX5_comesFetched_67 rfl rfl ?_
    refine zE.getV (fd_23_3 o) ok_23 kiX5 (Nat.le_of_ble_eq_true rfl) fl_X5_19 dX5_comesFetched_68 ?_
    refine zJ.iconst (v := 4) dX5_comesFetched_71 (by decide) ?_
    refine zJ.iload_n 1 dX5_comesFetched_72 rfl rfl ?_
    refine zJ.imul dX5_comesFetched_73 ?_
    refine zJ.iload_n 2 dX5_comesFetched_74 rfl rfl ?_
    refine zJ.iadd dX5_comesFetched_75 ?_
    refine zJ.aload_n 0 dX5_comesFetched_76 rfl rfl ?_
    refine zE.getV (fd_23_2 o) ok_23 kiX5 (Nat.le_of_ble_eq_true rfl) fl_X5_16 dX5_comesFetched_77 ?_
    refine zJ.iconst (v := 4) dX5_comesFetched_80 (by decide) ?_
    refine zJ.iload_n 1 dX5_comesFetched_81 rfl rfl ?_
    refine zJ.imul dX5_comesFetched_82 ?_
    refine zJ.iload_n 2 dX5_comesFetched_83 rfl rfl ?_
    refine zJ.iadd dX5_comesFetched_84 ?_
    obtain ⟨hq, h⟩ := h
    refine zE.aldI (ia_26 o) ok_26 hq dX5_comesFetched_85 ?_
    obtain ⟨hq, h⟩ := h
    refine zE.astI (ia_27 o) ok_27 hq dX5_comesFetched_86 ?_
    refine zJ.nameS (fun S5 hyS5 => ?_)
    replace h := h S5 hyS5
    refine zJ.iinc (k := 2) (lv' := [(3, .int (x3 + 1)), (0, .ref (z_adr o (23, 0, 0))), (1, .int x1)]) dX5_comesFetched_87 rfl rfl (Nat.le_of_ble_eq_true rfl) rfl ?_
    refine zJ.goto (tgt := 62) dX5_comesFetched_90 (by decide) ?_
    exact zJ.sub [1, 2, 0] rfl h
set_option maxRecDepth 100000 in
set_option maxHeartbeats 4000000 in
theorem w_X5_comesFetched_107 (o : zW) (x1 : Int32) (x3 : Int32) (S : zS) (Q : Option Value → zS → Prop) (h : vp_in x1 16 ∧ (((S.1 (34, 0, 0) x1.toNatClampNeg) ≤ x3 → (vp_in x1 16 ∧ (Q none (sI S (34, 0, 0) (x1.toNatClampNeg) 0)))) ∧ (¬ (S.1 (34, 0, 0) x1.toNatClampNeg) ≤ x3 → (vp_in ((4 * x1) + x3) 64 ∧ ((¬ (S.1 (38, 0, 0) (((4 * x1) + x3).toNatClampNeg)) = (-1) → (vp_in ((4 * x1) + x3) 64 ∧ (vp_in ((4 * x1) + x3) 64 ∧ (vp_in ((4 * x1) + x3) 64 ∧ (zGv o 994 mdX5_getsItem [.ref (z_adr o (23, 0, 0)), .int (S.1 (38, 0, 0) (((4 * x1) + x3).toNatClampNeg)), .int x1, .int (S.1 (35, 0, 0) (((4 * x1) + x3).toNatClampNeg)), .int (S.1 (37, 0, 0) (((4 * x1) + x3).toNatClampNeg))] S (fun S5 => zG o 994 mdX5_comesFetched 107 [(0, .ref (z_adr o (23, 0, 0))), (1, .int x1), (3, .int (x3 + 1))] [] S5 Q)))))) ∧ ((S.1 (38, 0, 0) (((4 * x1) + x3).toNatClampNeg)) = (-1) → (vp_in ((4 * x1) + x3) 64 ∧ (vp_in ((4 * x1) + x3) 64 ∧ (zGv o 994 mdX5_laysIn [.ref (z_adr o (23, 0, 0)), .int x1, .int (S.1 (35, 0, 0) (((4 * x1) + x3).toNatClampNeg)), .int (S.1 (36, 0, 0) (((4 * x1) + x3).toNatClampNeg))] S (fun S8 => zG o 994 mdX5_comesFetched 107 [(0, .ref (z_adr o (23, 0, 0))), (1, .int x1), (3, .int (x3 + 1))] [] S8 Q)))))))))) : zG o 994 mdX5_comesFetched 107 [(0, .ref (z_adr o (23, 0, 0))), (1, .int x1), (3, .int x3)] [] S Q := by
  show zJ o mdX5_comesFetched 107 _ [] (994, z_enc o S) 0 0 _
  refine zJ.iload_n 2 dX5_comesFetched_107 rfl rfl ?_
  refine zJ.aload_n 0 dX5_comesFetched_108 rfl rfl ?_
  refine zE.getV (fd_23_10 o) ok_23 kiX5 (Nat.le_of_ble_eq_true rfl) fl_X5_40 dX5_comesFetched_109 ?_
  refine zJ.iload_n 1 dX5_comesFetched_112 rfl rfl ?_
  obtain ⟨hq, h⟩ := h
  refine zE.aldI (ia_34 o) ok_34 hq dX5_comesFetched_113 ?_
  refine zJ.icmp_ge (tgt := 189) dX5_comesFetched_114 (by decide) (fun c1 => ?_) (fun c1 => ?_)
  · replace h := h.1 c1
    refine zJ.aload_n 0 dX5_comesFetched_189 rfl rfl ?_
    refine zE.getV (fd_23_10 o) ok_23 kiX5 (Nat.le_of_ble_eq_true rfl) fl_X5_40 dX5_comesFetched_190 ?_
    refine zJ.iload_n 1 dX5_comesFetched_193 rfl rfl ?_
    refine zJ.iconst (v := 0) dX5_comesFetched_194 (by decide) ?_
    obtain ⟨hq, h⟩ := h
    refine zE.astI (ia_34 o) ok_34 hq dX5_comesFetched_195 ?_
    exact zG.ret (r := none) ⟨dX5_comesFetched_196, rfl⟩ h
  · replace h := h.2 c1
    refine zJ.iconst (v := 4) dX5_comesFetched_117 (by decide) ?_
    refine zJ.iload_n 1 dX5_comesFetched_118 rfl rfl ?_
    refine zJ.imul dX5_comesFetched_119 ?_
    refine zJ.iload_n 2 dX5_comesFetched_120 rfl rfl ?_
    refine zJ.iadd dX5_comesFetched_121 ?_
    refine zJ.istore (lv' := [(4, .int ((4 * x1) + x3)), (0, .ref (z_adr o (23, 0, 0))), (1, .int x1), (3, .int x3)]) dX5_comesFetched_122 (Nat.le_of_ble_eq_true rfl) rfl ?_
    refine zJ.aload_n 1 dX5_comesFetched_124 rfl rfl ?_
    refine zE.getV (fd_23_14 o) ok_23 kiX5 (Nat.le_of_ble_eq_true rfl) fl_X5_52 dX5_comesFetched_125 ?_
    refine zJ.iload 0 dX5_comesFetched_128 rfl ?_
    obtain ⟨hq, h⟩ := h
    refine zE.aldI (ia_38 o) ok_38 hq dX5_comesFetched_130 ?_
    refine zJ.iconst (v := (-1)) dX5_comesFetched_131 (by decide) ?_
    refine zJ.icmp_ne (tgt := 157) dX5_comesFetched_132 (by decide) (fun c2 => ?_) (fun c2 => ?_)
    · replace h := h.1 c2
      refine zJ.aload_n 1 dX5_comesFetched_157 rfl rfl ?_
      refine zJ.aload_n 1 dX5_comesFetched_158 rfl rfl ?_
      refine zE.getV (fd_23_14 o) ok_23 kiX5 (Nat.le_of_ble_eq_true rfl) fl_X5_52 dX5_comesFetched_159 ?_
      refine zJ.iload 0 dX5_comesFetched_162 rfl ?_
      obtain ⟨hq, h⟩ := h
      refine zE.aldI (ia_38 o) ok_38 hq dX5_comesFetched_164 ?_
      refine zJ.iload_n 2 dX5_comesFetched_165 rfl rfl ?_
      refine zJ.aload_n 1 dX5_comesFetched_166 rfl rfl ?_
      refine zE.getV (fd_23_11 o) ok_23 kiX5 (Nat.le_of_ble_eq_true rfl) fl_X5_43 dX5_comesFetched_167 ?_
      refine zJ.iload 0 dX5_comesFetched_170 rfl ?_
      obtain ⟨hq, h⟩ := h
      refine zE.aldI (ia_35 o) ok_35 hq dX5_comesFetched_172 ?_
      refine zJ.aload_n 1 dX5_comesFetched_173 rfl rfl ?_
      refine zE.getV (fd_23_13 o) ok_23 kiX5 (Nat.le_of_ble_eq_true rfl) fl_X5_49 dX5_comesFetched_174 ?_
      refine zJ.iload 0 dX5_comesFetched_177 rfl ?_
      obtain ⟨hq, h⟩ := h
      refine zE.aldI (ia_37 o) ok_37 hq dX5_comesFetched_179 ?_
      refine zG.callVv [.int (S.1 (38, 0, 0) (((4 * x1) + x3).toNatClampNeg)), .int x1, .int (S.1 (35, 0, 0) (((4 * x1) + x3).toNatClampNeg)), .int (S.1 (37, 0, 0) (((4 * x1) + x3).toNatClampNeg))] [] (ob_23 o) ok_23 rfl dX5_comesFetched_180 ⟨(cb_X5_getsItem).1, (cb_X5_getsItem).2, (Nat.le_of_ble_eq_true rfl), (Nat.le_of_ble_eq_true rfl)⟩ ml_X5_158 ci_X5_getsItem cv_X5_getsItem rfl (Nat.le_of_ble_eq_true rfl) (Nat.le_of_ble_eq_true rfl) rfl h (fun S5 h2 => ?_)
      replace h := h2
      clear h2
      refine zJ.iinc (k := 3) (lv' := [(3, .int (x3 + 1)), (4, .int ((4 * x1) + x3)), (0, .ref (z_adr o (23, 0, 0))), (1, .int x1)]) dX5_comesFetched_183 rfl rfl (Nat.le_of_ble_eq_true rfl) rfl ?_
      refine zJ.goto (tgt := 107) dX5_comesFetched_186 (by decide) ?_
      exact zJ.sub [2, 3, 0] rfl h
    · replace h := h.2 c2
      refine zJ.aload_n 1 dX5_comesFetched_135 rfl rfl ?_
      refine zJ.iload_n 2 dX5_comesFetched_136 rfl rfl ?_
      refine zJ.aload_n 1 dX5_comesFetched_137 rfl rfl ?_
      refine zE.getV (fd_23_11 o) ok_23 kiX5 (Nat.le_of_ble_eq_true rfl) fl_X5_43 dX5_comesFetched_138 ?_
      refine zJ.iload 0 dX5_comesFetched_141 rfl ?_
      obtain ⟨hq, h⟩ := h
      refine zE.aldI (ia_35 o) ok_35 hq dX5_comesFetched_143 ?_
      refine zJ.aload_n 1 dX5_comesFetched_144 rfl rfl ?_
      refine zE.getV (fd_23_12 o) ok_23 kiX5 (Nat.le_of_ble_eq_true rfl) fl_X5_46 dX5_comesFetched_145 ?_
      refine zJ.iload 0 dX5_comesFetched_148 rfl ?_
      obtain ⟨hq, h⟩ := h
      refine zE.aldI (ia_36 o) ok_36 hq dX5_comesFetched_150 ?_
      refine zG.callVv [.int x1, .int (S.1 (35, 0, 0) (((4 * x1) + x3).toNatClampNeg)), .int (S.1 (36, 0, 0) (((4 * x1) + x3).toNatClampNeg))] [] (ob_23 o) ok_23 rfl dX5_comesFetched_151 ⟨(cb_X5_laysIn).1, (cb_X5_laysIn).2, (Nat.le_of_ble_eq_true rfl), (Nat.le_of_ble_eq_true rfl)⟩ ml_X5_154 ci_X5_laysIn cv_X5_laysIn rfl (Nat.le_of_ble_eq_true rfl) (Nat.le_of_ble_eq_true rfl) rfl h (fun S8 h2 => ?_)
      replace h := h2
      clear h2
      refine zJ.goto (tgt := 183) dX5_comesFetched_154 (by decide) ?_
      refine zJ.iinc (k := 3) (lv' := [(3, .int (x3 + 1)), (4, .int ((4 * x1) + x3)), (0, .ref (z_adr o (23, 0, 0))), (1, .int x1)]) dX5_comesFetched_183 rfl rfl (Nat.le_of_ble_eq_true rfl) rfl ?_
      refine zJ.goto (tgt := 107) dX5_comesFetched_186 (by decide) ?_
      exact zJ.sub [2, 3, 0] rfl h
set_option maxRecDepth 100000 in
set_option maxHeartbeats 4000000 in
theorem w_X5_comesTime_0 (o : zW)  (S : zS) (Q : Option Value → zS → Prop) (h : zG o 994 mdX5_comesTime 10 [(0, .ref (z_adr o (23, 0, 0))), (1, .int (S.1 (40, 0, 0) 9)), (2, .int 0)] [] S Q) : zG o 994 mdX5_comesTime 0 [(0, .ref (z_adr o (23, 0, 0)))] [] S Q := by
  show zJ o mdX5_comesTime 0 _ [] (994, z_enc o S) 0 0 _
  refine zJ.aload_n 0 dX5_comesTime_0 rfl rfl ?_
  refine zE.getV (fd_23_16 o) ok_23 kiX5 (Nat.le_of_ble_eq_true rfl) fl_X5_58 dX5_comesTime_1 ?_
  refine zJ.bipush (v := 9) dX5_comesTime_4 (by decide) ?_
  refine zE.aldI (ia_40 o) ok_40 (by unfold vp_in; decide) dX5_comesTime_6 ?_
  refine zJ.istore_n (lv' := [(1, .int (S.1 (40, 0, 0) 9)), (0, .ref (z_adr o (23, 0, 0)))]) dX5_comesTime_7 rfl (Nat.le_of_ble_eq_true rfl) rfl ?_
  refine zJ.iconst (v := 0) dX5_comesTime_8 (by decide) ?_
  refine zJ.istore_n (lv' := [(2, .int 0), (1, .int (S.1 (40, 0, 0) 9)), (0, .ref (z_adr o (23, 0, 0)))]) dX5_comesTime_9 rfl (Nat.le_of_ble_eq_true rfl) rfl ?_
  exact zJ.sub [2, 1, 0] rfl h
set_option maxRecDepth 100000 in
set_option maxHeartbeats 4000000 in
theorem w_X5_comesTime_10 (o : zW) (x1 : Int32) (x2 : Int32) (S : zS) (Q : Option Value → zS → Prop) (h : (16 ≤ x2 → (zG o 994 mdX5_comesTime 59 [(0, .ref (z_adr o (23, 0, 0))), (1, .int x1), (2, .int 0)] [] S Q)) ∧ (¬ 16 ≤ x2 → (vp_in x2 16 ∧ ((¬ (S.1 (29, 0, 0) x2.toNatClampNeg) = 2 → (zG o 994 mdX5_comesTime 10 [(0, .ref (z_adr o (23, 0, 0))), (1, .int x1), (2, .int (x2 + 1))] [] S Q)) ∧ ((S.1 (29, 0, 0) x2.toNatClampNeg) = 2 → (vp_in x2 16 ∧ ((¬ (S.1 (30, 0, 0) x2.toNatClampNeg) = x1 → (zG o 994 mdX5_comesTime 10 [(0, .ref (z_adr o (23, 0, 0))), (1, .int x1), (2, .int (x2 + 1))] [] S Q)) ∧ ((S.1 (30, 0, 0) x2.toNatClampNeg) = x1 → (zGv o 994 mdX5_goesFar [.ref (z_adr o (23, 0, 0)), .int x2] (sI S (39, 0, 0) 1 ((S.1 (39, 0, 0) 1) - 1)) (fun S6 => zG o 994 mdX5_comesTime 10 [(0, .ref (z_adr o (23, 0, 0))), (1, .int x1), (2, .int (x2 + 1))] [] S6 Q)))))))))) : zG o 994 mdX5_comesTime 10 [(0, .ref (z_adr o (23, 0, 0))), (1, .int x1), (2, .int x2)] [] S Q := by
  show zJ o mdX5_comesTime 10 _ [] (994, z_enc o S) 0 0 _
  refine zJ.iload_n 2 dX5_comesTime_10 rfl rfl ?_
  refine zJ.bipush (v := 16) dX5_comesTime_11 (by decide) ?_
  refine zJ.icmp_ge (tgt := 57) dX5_comesTime_13 (by decide) (fun c1 => ?_) (fun c1 => ?_)
  · replace h := h.1 c1
    refine zJ.iconst (v := 0) dX5_comesTime_57 (by decide) ?_
    refine zJ.istore_n (lv' := [(2, .int 0), (0, .ref (z_adr o (23, 0, 0))), (1, .int x1)]) dX5_comesTime_58 rfl (Nat.le_of_ble_eq_true rfl) rfl ?_
    exact zJ.sub [1, 2, 0] rfl h
  · replace h := h.2 c1
    refine zJ.aload_n 0 dX5_comesTime_16 rfl rfl ?_
    refine zE.getV (fd_23_5 o) ok_23 kiX5 (Nat.le_of_ble_eq_true rfl) fl_X5_25 dX5_comesTime_17 ?_
    refine zJ.iload_n 2 dX5_comesTime_20 rfl rfl ?_
    obtain ⟨hq, h⟩ := h
    refine zE.aldI (ia_29 o) ok_29 hq dX5_comesTime_21 ?_
    refine zJ.iconst (v := 2) dX5_comesTime_22 (by decide) ?_
    refine zJ.icmp_ne (tgt := 51) dX5_comesTime_23 (by decide) (fun c2 => ?_) (fun c2 => ?_)
    · replace h := h.1 c2
      refine zJ.iinc (k := 2) (lv' := [(2, .int (x2 + 1)), (0, .ref (z_adr o (23, 0, 0))), (1, .int x1)]) dX5_comesTime_51 rfl rfl (Nat.le_of_ble_eq_true rfl) rfl ?_
      refine zJ.goto (tgt := 10) dX5_comesTime_54 (by decide) ?_
      exact zJ.sub [1, 2, 0] rfl h
    · replace h := h.2 c2
      refine zJ.aload_n 0 dX5_comesTime_26 rfl rfl ?_
      refine zE.getV (fd_23_6 o) ok_23 kiX5 (Nat.le_of_ble_eq_true rfl) fl_X5_28 dX5_comesTime_27 ?_
      refine zJ.iload_n 2 dX5_comesTime_30 rfl rfl ?_
      obtain ⟨hq, h⟩ := h
      refine zE.aldI (ia_30 o) ok_30 hq dX5_comesTime_31 ?_
      refine zJ.iload_n 1 dX5_comesTime_32 rfl rfl ?_
      refine zJ.icmp_ne (tgt := 51) dX5_comesTime_33 (by decide) (fun c3 => ?_) (fun c3 => ?_)
      · replace h := h.1 c3
        refine zJ.iinc (k := 2) (lv' := [(2, .int (x2 + 1)), (0, .ref (z_adr o (23, 0, 0))), (1, .int x1)]) dX5_comesTime_51 rfl rfl (Nat.le_of_ble_eq_true rfl) rfl ?_
        refine zJ.goto (tgt := 10) dX5_comesTime_54 (by decide) ?_
        exact zJ.sub [1, 2, 0] rfl h
      · replace h := h.2 c3
        refine zJ.aload_n 0 dX5_comesTime_36 rfl rfl ?_
        refine zE.getV (fd_23_15 o) ok_23 kiX5 (Nat.le_of_ble_eq_true rfl) fl_X5_55 dX5_comesTime_37 ?_
        refine zJ.iconst (v := 1) dX5_comesTime_40 (by decide) ?_
        refine zJ.dup2_11 dX5_comesTime_41 rfl rfl ?_
        refine zE.aldI (ia_39 o) ok_39 (by unfold vp_in; decide) dX5_comesTime_42 ?_
        refine zJ.iconst (v := 1) dX5_comesTime_43 (by decide) ?_
        refine zJ.isub dX5_comesTime_44 ?_
        refine zE.astI (ia_39 o) ok_39 (by unfold vp_in; decide) dX5_comesTime_45 ?_
        refine zJ.aload_n 0 dX5_comesTime_46 rfl rfl ?_
        refine zJ.iload_n 2 dX5_comesTime_47 rfl rfl ?_
        refine zG.callVv [.int x2] [] (ob_23 o) ok_23 rfl dX5_comesTime_48 ⟨(cb_X5_goesFar).1, (cb_X5_goesFar).2, (Nat.le_of_ble_eq_true rfl), (Nat.le_of_ble_eq_true rfl)⟩ ml_X5_145 ci_X5_goesFar cv_X5_goesFar rfl (Nat.le_of_ble_eq_true rfl) (Nat.le_of_ble_eq_true rfl) rfl h (fun S6 h2 => ?_)
        replace h := h2
        clear h2
        refine zJ.iinc (k := 2) (lv' := [(2, .int (x2 + 1)), (0, .ref (z_adr o (23, 0, 0))), (1, .int x1)]) dX5_comesTime_51 rfl rfl (Nat.le_of_ble_eq_true rfl) rfl ?_
        refine zJ.goto (tgt := 10) dX5_comesTime_54 (by decide) ?_
        exact zJ.sub [1, 2, 0] rfl h
set_option maxRecDepth 100000 in
set_option maxHeartbeats 4000000 in
theorem w_X5_comesTime_59 (o : zW) (x1 : Int32) (x2 : Int32) (S : zS) (Q : Option Value → zS → Prop) (h : (16 ≤ x2 → (Q none S)) ∧ (¬ 16 ≤ x2 → (vp_in x2 16 ∧ ((¬ (S.1 (29, 0, 0) x2.toNatClampNeg) = 3 → (zG o 994 mdX5_comesTime 59 [(0, .ref (z_adr o (23, 0, 0))), (1, .int x1), (2, .int (x2 + 1))] [] S Q)) ∧ ((S.1 (29, 0, 0) x2.toNatClampNeg) = 3 → (vp_in x2 16 ∧ ((¬ (S.1 (30, 0, 0) x2.toNatClampNeg) = x1 → (zG o 994 mdX5_comesTime 59 [(0, .ref (z_adr o (23, 0, 0))), (1, .int x1), (2, .int (x2 + 1))] [] S Q)) ∧ ((S.1 (30, 0, 0) x2.toNatClampNeg) = x1 → (zGv o 994 mdX5_comesFetched [.ref (z_adr o (23, 0, 0)), .int x2] S (fun S6 => zG o 994 mdX5_comesTime 59 [(0, .ref (z_adr o (23, 0, 0))), (1, .int x1), (2, .int (x2 + 1))] [] S6 Q)))))))))) : zG o 994 mdX5_comesTime 59 [(0, .ref (z_adr o (23, 0, 0))), (1, .int x1), (2, .int x2)] [] S Q := by
  show zJ o mdX5_comesTime 59 _ [] (994, z_enc o S) 0 0 _
  refine zJ.iload_n 2 dX5_comesTime_59 rfl rfl ?_
  refine zJ.bipush (v := 16) dX5_comesTime_60 (by decide) ?_
  refine zJ.icmp_ge (tgt := 96) dX5_comesTime_62 (by decide) (fun c1 => ?_) (fun c1 => ?_)
  · replace h := h.1 c1
    exact zG.ret (r := none) ⟨dX5_comesTime_96, rfl⟩ h
  · replace h := h.2 c1
    refine zJ.aload_n 0 dX5_comesTime_65 rfl rfl ?_
    refine zE.getV (fd_23_5 o) ok_23 kiX5 (Nat.le_of_ble_eq_true rfl) fl_X5_25 dX5_comesTime_66 ?_
    refine zJ.iload_n 2 dX5_comesTime_69 rfl rfl ?_
    obtain ⟨hq, h⟩ := h
    refine zE.aldI (ia_29 o) ok_29 hq dX5_comesTime_70 ?_
    refine zJ.iconst (v := 3) dX5_comesTime_71 (by decide) ?_
    refine zJ.icmp_ne (tgt := 90) dX5_comesTime_72 (by decide) (fun c2 => ?_) (fun c2 => ?_)
    · replace h := h.1 c2
      refine zJ.iinc (k := 2) (lv' := [(2, .int (x2 + 1)), (0, .ref (z_adr o (23, 0, 0))), (1, .int x1)]) dX5_comesTime_90 rfl rfl (Nat.le_of_ble_eq_true rfl) rfl ?_
      refine zJ.goto (tgt := 59) dX5_comesTime_93 (by decide) ?_
      exact zJ.sub [1, 2, 0] rfl h
    · replace h := h.2 c2
      refine zJ.aload_n 0 dX5_comesTime_75 rfl rfl ?_
      refine zE.getV (fd_23_6 o) ok_23 kiX5 (Nat.le_of_ble_eq_true rfl) fl_X5_28 dX5_comesTime_76 ?_
      refine zJ.iload_n 2 dX5_comesTime_79 rfl rfl ?_
      obtain ⟨hq, h⟩ := h
      refine zE.aldI (ia_30 o) ok_30 hq dX5_comesTime_80 ?_
      refine zJ.iload_n 1 dX5_comesTime_81 rfl rfl ?_
      refine zJ.icmp_ne (tgt := 90) dX5_comesTime_82 (by decide) (fun c3 => ?_) (fun c3 => ?_)
      · replace h := h.1 c3
        refine zJ.iinc (k := 2) (lv' := [(2, .int (x2 + 1)), (0, .ref (z_adr o (23, 0, 0))), (1, .int x1)]) dX5_comesTime_90 rfl rfl (Nat.le_of_ble_eq_true rfl) rfl ?_
        refine zJ.goto (tgt := 59) dX5_comesTime_93 (by decide) ?_
        exact zJ.sub [1, 2, 0] rfl h
      · replace h := h.2 c3
        refine zJ.aload_n 0 dX5_comesTime_85 rfl rfl ?_
        refine zJ.iload_n 2 dX5_comesTime_86 rfl rfl ?_
        refine zG.callVv [.int x2] [] (ob_23 o) ok_23 rfl dX5_comesTime_87 ⟨(cb_X5_comesFetched).1, (cb_X5_comesFetched).2, (Nat.le_of_ble_eq_true rfl), (Nat.le_of_ble_eq_true rfl)⟩ ml_X5_162 ci_X5_comesFetched cv_X5_comesFetched rfl (Nat.le_of_ble_eq_true rfl) (Nat.le_of_ble_eq_true rfl) rfl h (fun S6 h2 => ?_)
        replace h := h2
        clear h2
        refine zJ.iinc (k := 2) (lv' := [(2, .int (x2 + 1)), (0, .ref (z_adr o (23, 0, 0))), (1, .int x1)]) dX5_comesTime_90 rfl rfl (Nat.le_of_ble_eq_true rfl) rfl ?_
        refine zJ.goto (tgt := 59) dX5_comesTime_93 (by decide) ?_
        exact zJ.sub [1, 2, 0] rfl h
set_option maxRecDepth 100000 in
set_option maxHeartbeats 4000000 in
theorem w_X5_numberOf_0 (o : zW) (x1 : Int32) (S : zS) (Q : Option Value → zS → Prop) (h : (¬ x1 = 1 → ((200 ≤ (S.1 (40, 0, 0) 7) → (Q (some (.int (S.1 (40, 0, 0) 7))) (sI S (40, 0, 0) 7 ((S.1 (40, 0, 0) 7) + 1)))) ∧ (¬ 200 ≤ (S.1 (40, 0, 0) 7) → (vp_in (S.1 (40, 0, 0) 7) 200 ∧ (∀ S3 : zS, S3 = (sI (sI S (40, 0, 0) 7 ((S.1 (40, 0, 0) 7) + 1)) (41, 0, 0) ((S.1 (40, 0, 0) 7).toNatClampNeg) (-1)) → (vp_in (S.1 (40, 0, 0) 7) 200 ∧ (∀ y4 : Int32, y4 = ((sI S3 (42, 0, 0) ((S.1 (40, 0, 0) 7).toNatClampNeg) (-1)).1 (40, 0, 0) 9) → (vp_in (S.1 (40, 0, 0) 7) 200 ∧ (∀ S5 : zS, S5 = (sI (sI S3 (42, 0, 0) ((S.1 (40, 0, 0) 7).toNatClampNeg) (-1)) (43, 0, 0) ((S.1 (40, 0, 0) 7).toNatClampNeg) y4) → (Q (some (.int (S.1 (40, 0, 0) 7))) S5)))))))))) ∧ (x1 = 1 → (Q (some (.int (-1))) S))) : zG o 994 mdX5_numberOf 0 [(0, .ref (z_adr o (23, 0, 0))), (1, .int x1)] [] S Q := by
  show zJ o mdX5_numberOf 0 _ [] (994, z_enc o S) 0 0 _
  refine zJ.iload_n 1 dX5_numberOf_0 rfl rfl ?_
  refine zJ.iconst (v := 1) dX5_numberOf_1 (by decide) ?_
  refine zJ.icmp_ne (tgt := 7) dX5_numberOf_2 (by decide) (fun c1 => ?_) (fun c1 => ?_)
  · replace h := h.1 c1
    refine zJ.aload_n 0 dX5_numberOf_7 rfl rfl ?_
    refine zE.getV (fd_23_16 o) ok_23 kiX5 (Nat.le_of_ble_eq_true rfl) fl_X5_58 dX5_numberOf_8 ?_
    refine zJ.bipush (v := 7) dX5_numberOf_11 (by decide) ?_
    refine zE.aldI (ia_40 o) ok_40 (by unfold vp_in; decide) dX5_numberOf_13 ?_
    refine zJ.istore_n (lv' := [(2, .int (S.1 (40, 0, 0) 7)), (0, .ref (z_adr o (23, 0, 0))), (1, .int x1)]) dX5_numberOf_14 rfl (Nat.le_of_ble_eq_true rfl) rfl ?_
    refine zJ.aload_n 1 dX5_numberOf_15 rfl rfl ?_
    refine zE.getV (fd_23_16 o) ok_23 kiX5 (Nat.le_of_ble_eq_true rfl) fl_X5_58 dX5_numberOf_16 ?_
    refine zJ.bipush (v := 7) dX5_numberOf_19 (by decide) ?_
    refine zJ.dup2_11 dX5_numberOf_21 rfl rfl ?_
    refine zE.aldI (ia_40 o) ok_40 (by unfold vp_in; decide) dX5_numberOf_22 ?_
    refine zJ.iconst (v := 1) dX5_numberOf_23 (by decide) ?_
    refine zJ.iadd dX5_numberOf_24 ?_
    refine zE.astI (ia_40 o) ok_40 (by unfold vp_in; decide) dX5_numberOf_25 ?_
    refine zJ.iload_n 0 dX5_numberOf_26 rfl rfl ?_
    refine zJ.sipush (v := 200) dX5_numberOf_27 (by decide) ?_
    refine zJ.icmp_ge (tgt := 60) dX5_numberOf_30 (by decide) (fun c2 => ?_) (fun c2 => ?_)
    · replace h := h.1 c2
      refine zJ.iload_n 0 dX5_numberOf_60 rfl rfl ?_
      exact zG.ret (r := some (.int (S.1 (40, 0, 0) 7))) ⟨dX5_numberOf_61, _, rfl, rfl⟩ h
    · replace h := h.2 c2
      refine zJ.aload_n 1 dX5_numberOf_33 rfl rfl ?_
      refine zE.getV (fd_23_17 o) ok_23 kiX5 (Nat.le_of_ble_eq_true rfl) fl_X5_61 dX5_numberOf_34 ?_
      refine zJ.iload_n 0 dX5_numberOf_37 rfl rfl ?_
      refine zJ.iconst (v := (-1)) dX5_numberOf_38 (by decide) ?_
      obtain ⟨hq, h⟩ := h
      refine zE.astI (ia_41 o) ok_41 hq dX5_numberOf_39 ?_
      refine zJ.nameS (fun S3 hyS3 => ?_)
      replace h := h S3 hyS3
      refine zJ.aload_n 1 dX5_numberOf_40 rfl rfl ?_
      refine zE.getV (fd_23_18 o) ok_23 kiX5 (Nat.le_of_ble_eq_true rfl) fl_X5_64 dX5_numberOf_41 ?_
      refine zJ.iload_n 0 dX5_numberOf_44 rfl rfl ?_
      refine zJ.iconst (v := (-1)) dX5_numberOf_45 (by decide) ?_
      obtain ⟨hq, h⟩ := h
      refine zE.astI (ia_42 o) ok_42 hq dX5_numberOf_46 ?_
      refine zJ.aload_n 1 dX5_numberOf_47 rfl rfl ?_
      refine zE.getV (fd_23_19 o) ok_23 kiX5 (Nat.le_of_ble_eq_true rfl) fl_X5_67 dX5_numberOf_48 ?_
      refine zJ.iload_n 0 dX5_numberOf_51 rfl rfl ?_
      refine zJ.aload_n 1 dX5_numberOf_52 rfl rfl ?_
      refine zE.getV (fd_23_16 o) ok_23 kiX5 (Nat.le_of_ble_eq_true rfl) fl_X5_58 dX5_numberOf_53 ?_
      refine zJ.bipush (v := 9) dX5_numberOf_56 (by decide) ?_
      refine zE.aldI (ia_40 o) ok_40 (by unfold vp_in; decide) dX5_numberOf_58 ?_
      refine zJ.topi (fun y4 hyy4 => ?_)
      replace h := h y4 hyy4
      obtain ⟨hq, h⟩ := h
      refine zE.astI (ia_43 o) ok_43 hq dX5_numberOf_59 ?_
      refine zJ.nameS (fun S5 hyS5 => ?_)
      replace h := h S5 hyS5
      refine zJ.iload_n 0 dX5_numberOf_60 rfl rfl ?_
      exact zG.ret (r := some (.int (S.1 (40, 0, 0) 7))) ⟨dX5_numberOf_61, _, rfl, rfl⟩ h
  · replace h := h.2 c1
    refine zJ.iconst (v := (-1)) dX5_numberOf_5 (by decide) ?_
    exact zG.ret (r := some (.int (-1))) ⟨dX5_numberOf_6, _, rfl, rfl⟩ h
set_option maxRecDepth 100000 in
set_option maxHeartbeats 4000000 in
theorem w_X5_asks_0 (o : zW) (x1 : Int32) (x2 : Int32) (x3 : Int32) (x4 : Int32) (S : zS) (Q : Option Value → zS → Prop) (h : vp_in x1 16 ∧ (vp_in ((4 * x1) + (S.1 (34, 0, 0) x1.toNatClampNeg)) 64 ∧ (∀ S1 : zS, S1 = (sI S (35, 0, 0) (((4 * x1) + (S.1 (34, 0, 0) x1.toNatClampNeg)).toNatClampNeg) x3) → (vp_in ((4 * x1) + (S.1 (34, 0, 0) x1.toNatClampNeg)) 64 ∧ (∀ S2 : zS, S2 = (sI S1 (36, 0, 0) (((4 * x1) + (S.1 (34, 0, 0) x1.toNatClampNeg)).toNatClampNeg) x4) → (vp_in ((4 * x1) + (S.1 (34, 0, 0) x1.toNatClampNeg)) 64 ∧ (∀ S3 : zS, S3 = (sI S2 (37, 0, 0) (((4 * x1) + (S.1 (34, 0, 0) x1.toNatClampNeg)).toNatClampNeg) (S2.1 (40, 0, 0) 9)) → (zGi o 994 mdX5_numberOf [.ref (z_adr o (23, 0, 0)), .int x2] S3 (fun r5 S6 => vp_in ((4 * x1) + (S.1 (34, 0, 0) x1.toNatClampNeg)) 64 ∧ (∀ S7 : zS, S7 = (sI S6 (38, 0, 0) (((4 * x1) + (S.1 (34, 0, 0) x1.toNatClampNeg)).toNatClampNeg) r5) → (vp_in x1 16 ∧ (vp_in x1 16 ∧ (∀ S8 : zS, S8 = (sI S7 (34, 0, 0) (x1.toNatClampNeg) ((S7.1 (34, 0, 0) x1.toNatClampNeg) + 1)) → (Q none S8)))))))))))))) : zG o 994 mdX5_asks 0 [(0, .ref (z_adr o (23, 0, 0))), (1, .int x1), (2, .int x2), (3, .int x3), (4, .int x4)] [] S Q := by
  show zJ o mdX5_asks 0 _ [] (994, z_enc o S) 0 0 _
  refine zJ.iconst (v := 4) dX5_asks_0 (by decide) ?_
  refine zJ.iload_n 1 dX5_asks_1 rfl rfl ?_
  refine zJ.imul dX5_asks_2 ?_
  refine zJ.aload_n 0 dX5_asks_3 rfl rfl ?_
  refine zE.getV (fd_23_10 o) ok_23 kiX5 (Nat.le_of_ble_eq_true rfl) fl_X5_40 dX5_asks_4 ?_
  refine zJ.iload_n 1 dX5_asks_7 rfl rfl ?_
  obtain ⟨hq, h⟩ := h
  refine zE.aldI (ia_34 o) ok_34 hq dX5_asks_8 ?_
  refine zJ.iadd dX5_asks_9 ?_
  refine zJ.istore (lv' := [(5, .int ((4 * x1) + (S.1 (34, 0, 0) x1.toNatClampNeg))), (0, .ref (z_adr o (23, 0, 0))), (1, .int x1), (2, .int x2), (3, .int x3), (4, .int x4)]) dX5_asks_10 (Nat.le_of_ble_eq_true rfl) rfl ?_
  refine zJ.aload_n 1 dX5_asks_12 rfl rfl ?_
  refine zE.getV (fd_23_11 o) ok_23 kiX5 (Nat.le_of_ble_eq_true rfl) fl_X5_43 dX5_asks_13 ?_
  refine zJ.iload 0 dX5_asks_16 rfl ?_
  refine zJ.iload_n 4 dX5_asks_18 rfl rfl ?_
  obtain ⟨hq, h⟩ := h
  refine zE.astI (ia_35 o) ok_35 hq dX5_asks_19 ?_
  refine zJ.nameS (fun S1 hyS1 => ?_)
  replace h := h S1 hyS1
  refine zJ.aload_n 1 dX5_asks_20 rfl rfl ?_
  refine zE.getV (fd_23_12 o) ok_23 kiX5 (Nat.le_of_ble_eq_true rfl) fl_X5_46 dX5_asks_21 ?_
  refine zJ.iload 0 dX5_asks_24 rfl ?_
  refine zJ.iload 5 dX5_asks_26 rfl ?_
  obtain ⟨hq, h⟩ := h
  refine zE.astI (ia_36 o) ok_36 hq dX5_asks_28 ?_
  refine zJ.nameS (fun S2 hyS2 => ?_)
  replace h := h S2 hyS2
  refine zJ.aload_n 1 dX5_asks_29 rfl rfl ?_
  refine zE.getV (fd_23_13 o) ok_23 kiX5 (Nat.le_of_ble_eq_true rfl) fl_X5_49 dX5_asks_30 ?_
  refine zJ.iload 0 dX5_asks_33 rfl ?_
  refine zJ.aload_n 1 dX5_asks_35 rfl rfl ?_
  refine zE.getV (fd_23_16 o) ok_23 kiX5 (Nat.le_of_ble_eq_true rfl) fl_X5_58 dX5_asks_36 ?_
  refine zJ.bipush (v := 9) dX5_asks_39 (by decide) ?_
  refine zE.aldI (ia_40 o) ok_40 (by unfold vp_in; decide) dX5_asks_41 ?_
  obtain ⟨hq, h⟩ := h
  refine zE.astI (ia_37 o) ok_37 hq dX5_asks_42 ?_
  refine zJ.nameS (fun S3 hyS3 => ?_)
  replace h := h S3 hyS3
  refine zJ.aload_n 1 dX5_asks_43 rfl rfl ?_
  refine zE.getV (fd_23_14 o) ok_23 kiX5 (Nat.le_of_ble_eq_true rfl) fl_X5_52 dX5_asks_44 ?_
  refine zJ.iload 0 dX5_asks_47 rfl ?_
  refine zJ.aload_n 1 dX5_asks_49 rfl rfl ?_
  refine zJ.iload_n 3 dX5_asks_50 rfl rfl ?_
  refine zG.callVi [.int x2] [.int ((4 * x1) + (S.1 (34, 0, 0) x1.toNatClampNeg)), .ref (z_adr o (38, 0, 0))] (ob_23 o) ok_23 rfl dX5_asks_51 ⟨(cb_X5_numberOf).1, (cb_X5_numberOf).2, (Nat.le_of_ble_eq_true rfl), (Nat.le_of_ble_eq_true rfl)⟩ ml_X5_165 ci_X5_numberOf cv_X5_numberOf rfl (Nat.le_of_ble_eq_true rfl) (Nat.le_of_ble_eq_true rfl) rfl h (fun r5 S6 h2 => ?_)
  replace h := h2
  clear h2
  obtain ⟨hq, h⟩ := h
  refine zE.astI (ia_38 o) ok_38 hq dX5_asks_54 ?_
  refine zJ.nameS (fun S7 hyS7 => ?_)
  replace h := h S7 hyS7
  refine zJ.aload_n 1 dX5_asks_55 rfl rfl ?_
  refine zE.getV (fd_23_10 o) ok_23 kiX5 (Nat.le_of_ble_eq_true rfl) fl_X5_40 dX5_asks_56 ?_
  refine zJ.iload_n 2 dX5_asks_59 rfl rfl ?_
  refine zJ.dup2_11 dX5_asks_60 rfl rfl ?_
  obtain ⟨hq, h⟩ := h
  refine zE.aldI (ia_34 o) ok_34 hq dX5_asks_61 ?_
  refine zJ.iconst (v := 1) dX5_asks_62 (by decide) ?_
  refine zJ.iadd dX5_asks_63 ?_
  obtain ⟨hq, h⟩ := h
  refine zE.astI (ia_34 o) ok_34 hq dX5_asks_64 ?_
  refine zJ.nameS (fun S8 hyS8 => ?_)
  replace h := h S8 hyS8
  exact zG.ret (r := none) ⟨dX5_asks_65, rfl⟩ h
set_option maxRecDepth 100000 in
set_option maxHeartbeats 4000000 in
theorem w_X5_does_0 (o : zW) (x1 : Int32) (x2 : Int32) (x3 : Int32) (x4 : Int32) (S : zS) (Q : Option Value → zS → Prop) (h : zGi o 994 mdX5_numberOf [.ref (z_adr o (23, 0, 0)), .int x2] S (fun r2 S3 => (¬ x2 = 1 → (zGv o 994 mdX5_getsItem [.ref (z_adr o (23, 0, 0)), .int r2, .int x1, .int x3, .int (S3.1 (40, 0, 0) 9)] S3 (fun S7 => Q none S7))) ∧ (x2 = 1 → (zGv o 994 mdX5_laysIn [.ref (z_adr o (23, 0, 0)), .int x1, .int x3, .int x4] S3 (fun S10 => Q none S10))))) : zG o 994 mdX5_does 0 [(0, .ref (z_adr o (23, 0, 0))), (1, .int x1), (2, .int x2), (3, .int x3), (4, .int x4)] [] S Q := by
  show zJ o mdX5_does 0 _ [] (994, z_enc o S) 0 0 _
  refine zJ.aload_n 0 dX5_does_0 rfl rfl ?_
  refine zJ.iload_n 2 dX5_does_1 rfl rfl ?_
  refine zG.callVi [.int x2] [] (ob_23 o) ok_23 rfl dX5_does_2 ⟨(cb_X5_numberOf).1, (cb_X5_numberOf).2, (Nat.le_of_ble_eq_true rfl), (Nat.le_of_ble_eq_true rfl)⟩ ml_X5_165 ci_X5_numberOf cv_X5_numberOf rfl (Nat.le_of_ble_eq_true rfl) (Nat.le_of_ble_eq_true rfl) rfl h (fun r2 S3 h2 => ?_)
  replace h := h2
  clear h2
  refine zJ.istore (lv' := [(5, .int r2), (0, .ref (z_adr o (23, 0, 0))), (1, .int x1), (2, .int x2), (3, .int x3), (4, .int x4)]) dX5_does_5 (Nat.le_of_ble_eq_true rfl) rfl ?_
  refine zJ.iload_n 3 dX5_does_7 rfl rfl ?_
  refine zJ.iconst (v := 1) dX5_does_8 (by decide) ?_
  refine zJ.icmp_ne (tgt := 23) dX5_does_9 (by decide) (fun c4 => ?_) (fun c4 => ?_)
  · replace h := h.1 c4
    refine zJ.aload_n 1 dX5_does_23 rfl rfl ?_
    refine zJ.iload 0 dX5_does_24 rfl ?_
    refine zJ.iload_n 2 dX5_does_26 rfl rfl ?_
    refine zJ.iload_n 4 dX5_does_27 rfl rfl ?_
    refine zJ.aload_n 1 dX5_does_28 rfl rfl ?_
    refine zE.getV (fd_23_16 o) ok_23 kiX5 (Nat.le_of_ble_eq_true rfl) fl_X5_58 dX5_does_29 ?_
    refine zJ.bipush (v := 9) dX5_does_32 (by decide) ?_
    refine zE.aldI (ia_40 o) ok_40 (by unfold vp_in; decide) dX5_does_34 ?_
    refine zG.callVv [.int r2, .int x1, .int x3, .int (S3.1 (40, 0, 0) 9)] [] (ob_23 o) ok_23 rfl dX5_does_35 ⟨(cb_X5_getsItem).1, (cb_X5_getsItem).2, (Nat.le_of_ble_eq_true rfl), (Nat.le_of_ble_eq_true rfl)⟩ ml_X5_158 ci_X5_getsItem cv_X5_getsItem rfl (Nat.le_of_ble_eq_true rfl) (Nat.le_of_ble_eq_true rfl) rfl h (fun S7 h2 => ?_)
    replace h := h2
    clear h2
    exact zG.ret (r := none) ⟨dX5_does_38, rfl⟩ h
  · replace h := h.2 c4
    refine zJ.aload_n 1 dX5_does_12 rfl rfl ?_
    refine zJ.iload_n 2 dX5_does_13 rfl rfl ?_
    refine zJ.iload_n 4 dX5_does_14 rfl rfl ?_
    refine zJ.iload 5 dX5_does_15 rfl ?_
    refine zG.callVv [.int x1, .int x3, .int x4] [] (ob_23 o) ok_23 rfl dX5_does_17 ⟨(cb_X5_laysIn).1, (cb_X5_laysIn).2, (Nat.le_of_ble_eq_true rfl), (Nat.le_of_ble_eq_true rfl)⟩ ml_X5_154 ci_X5_laysIn cv_X5_laysIn rfl (Nat.le_of_ble_eq_true rfl) (Nat.le_of_ble_eq_true rfl) rfl h (fun S10 h2 => ?_)
    replace h := h2
    clear h2
    refine zJ.goto (tgt := 38) dX5_does_20 (by decide) ?_
    exact zG.ret (r := none) ⟨dX5_does_38, rfl⟩ h
set_option maxRecDepth 100000 in
set_option maxHeartbeats 4000000 in
theorem w_X5_counted_0 (o : zW) (x1 : Int32) (x2 : UInt32) (S : zS) (Q : Option Value → zS → Prop) (h : vp_in x1 10 ∧ (vp_in x1 10 ∧ (∀ S1 : zS, S1 = (sI S (40, 0, 0) (x1.toNatClampNeg) ((S.1 (40, 0, 0) x1.toNatClampNeg) + 1)) → (vf_n32 (FP.fadd (S1.2.2 (23, 0, 0) 20) x2) ∧ (Q none (sF S1 (23, 0, 0) 20 (FP.fadd (S1.2.2 (23, 0, 0) 20) x2))))))) : zG o 994 mdX5_counted 0 [(0, .ref (z_adr o (23, 0, 0))), (1, .int x1), (2, .float x2)] [] S Q := by
  show zJ o mdX5_counted 0 _ [] (994, z_enc o S) 0 0 _
  refine zJ.aload_n 0 dX5_counted_0 rfl rfl ?_
  refine zE.getV (fd_23_16 o) ok_23 kiX5 (Nat.le_of_ble_eq_true rfl) fl_X5_58 dX5_counted_1 ?_
  refine zJ.iload_n 1 dX5_counted_4 rfl rfl ?_
  refine zJ.dup2_11 dX5_counted_5 rfl rfl ?_
  obtain ⟨hq, h⟩ := h
  refine zE.aldI (ia_40 o) ok_40 hq dX5_counted_6 ?_
  refine zJ.iconst (v := 1) dX5_counted_7 (by decide) ?_
  refine zJ.iadd dX5_counted_8 ?_
  obtain ⟨hq, h⟩ := h
  refine zE.astI (ia_40 o) ok_40 hq dX5_counted_9 ?_
  refine zJ.nameS (fun S1 hyS1 => ?_)
  replace h := h S1 hyS1
  refine zJ.aload_n 0 dX5_counted_10 rfl rfl ?_
  refine zJ.dup dX5_counted_11 rfl ?_
  refine zE.getF (fd_23_20 o) ok_23 kiX5 (Nat.le_of_ble_eq_true rfl) fl_X5_90 dX5_counted_12 ?_
  refine zJ.fload_n 2 dX5_counted_15 rfl rfl ?_
  obtain ⟨hq, h⟩ := h
  refine zJ.fadd dX5_counted_16 hq ?_
  refine zE.putF (fd_23_20 o) ok_23 kiX5 (Nat.le_of_ble_eq_true rfl) fl_X5_90 rfl rfl dX5_counted_17 ?_
  exact zG.ret (r := none) ⟨dX5_counted_20, rfl⟩ h
set_option maxRecDepth 100000 in
set_option maxHeartbeats 4000000 in
theorem w_X5_beginsNow_0 (o : zW) (x1 : Int32) (x2 : Int32) (x3 : Int32) (x4 : Int32) (S : zS) (Q : Option Value → zS → Prop) (h : (¬ x1 = 2 → (vp_in x2 16 ∧ (((S.1 (29, 0, 0) x2.toNatClampNeg) = 1 → (zGv o 994 mdX5_counts [.ref (z_adr o (23, 0, 0)), .int x2] S (fun S4 => zGv o 994 mdX5_does [.ref (z_adr o (23, 0, 0)), .int x2, .int x1, .int x3, .int x4] S4 (fun S7 => zGv o 994 mdX5_counted [.ref (z_adr o (23, 0, 0)), .int 0, .float (1069547520 : UInt32)] S7 (fun S10 => Q (some (.int 1)) S10))))) ∧ ((S.1 (29, 0, 0) x2.toNatClampNeg) = 2 → (zGv o 994 mdX5_comesNear [.ref (z_adr o (23, 0, 0)), .int x2] (sI S (39, 0, 0) 1 ((S.1 (39, 0, 0) 1) - 1)) (fun S13 => zGv o 994 mdX5_does [.ref (z_adr o (23, 0, 0)), .int x2, .int x1, .int x3, .int x4] S13 (fun S16 => zGv o 994 mdX5_counted [.ref (z_adr o (23, 0, 0)), .int 3, .float (1074266112 : UInt32)] S16 (fun S19 => Q (some (.int 1)) S19))))) ∧ ((S.1 (29, 0, 0) x2.toNatClampNeg) = 3 → (vp_in x2 16 ∧ ((¬ (S.1 (34, 0, 0) x2.toNatClampNeg) = (S.1 (25, 0, 0) 3) → (zGv o 994 mdX5_asks [.ref (z_adr o (23, 0, 0)), .int x2, .int x1, .int x3, .int x4] S (fun S23 => zGv o 994 mdX5_counted [.ref (z_adr o (23, 0, 0)), .int 1, .float (1048576000 : UInt32)] S23 (fun S26 => Q (some (.int 1)) S26)))) ∧ ((S.1 (34, 0, 0) x2.toNatClampNeg) = (S.1 (25, 0, 0) 3) → (Q (some (.int 0)) S))))) ∧ (¬ (S.1 (29, 0, 0) x2.toNatClampNeg) = 1 → ¬ (S.1 (29, 0, 0) x2.toNatClampNeg) = 2 → ¬ (S.1 (29, 0, 0) x2.toNatClampNeg) = 3 → ((¬ (S.1 (39, 0, 0) 0) = (S.1 (25, 0, 0) 2) → (vp_in x2 16 ∧ (∀ y28 : Int32, y28 = (((sI S (29, 0, 0) (x2.toNatClampNeg) 3).1 (40, 0, 0) 9) + ((sI S (29, 0, 0) (x2.toNatClampNeg) 3).1 (25, 0, 0) 4)) → (vp_in x2 16 ∧ (∀ S29 : zS, S29 = (sI (sI S (29, 0, 0) (x2.toNatClampNeg) 3) (30, 0, 0) (x2.toNatClampNeg) y28) → (vp_in (S29.1 (39, 0, 0) 0) 4 ∧ (∀ y30 : Int32, y30 = ((sI S29 (33, 0, 0) ((S29.1 (39, 0, 0) 0).toNatClampNeg) x2).1 (39, 0, 0) 0) → (∀ S31 : zS, S31 = (sI (sI S29 (33, 0, 0) ((S29.1 (39, 0, 0) 0).toNatClampNeg) x2) (39, 0, 0) 0 (y30 + 1)) → (zGv o 994 mdX5_asks [.ref (z_adr o (23, 0, 0)), .int x2, .int x1, .int x3, .int x4] S31 (fun S34 => zGv o 994 mdX5_counted [.ref (z_adr o (23, 0, 0)), .int 2, .float (1083703296 : UInt32)] S34 (fun S37 => Q (some (.int 1)) S37))))))))))) ∧ ((S.1 (39, 0, 0) 0) = (S.1 (25, 0, 0) 2) → (Q (some (.int 0)) S))))))) ∧ (x1 = 2 → ((¬ (S.1 (39, 0, 0) 0) = 0 → (Q (some (.int 0)) S)) ∧ ((S.1 (39, 0, 0) 0) = 0 → ((¬ (S.1 (39, 0, 0) 1) = 0 → (Q (some (.int 0)) S)) ∧ ((S.1 (39, 0, 0) 1) = 0 → (Q (some (.int 1)) S))))))) : zG o 994 mdX5_beginsNow 0 [(0, .ref (z_adr o (23, 0, 0))), (1, .int x1), (2, .int x2), (3, .int x3), (4, .int x4)] [] S Q := by
  show zJ o mdX5_beginsNow 0 _ [] (994, z_enc o S) 0 0 _
  refine zJ.iload_n 1 dX5_beginsNow_0 rfl rfl ?_
  refine zJ.iconst (v := 2) dX5_beginsNow_1 (by decide) ?_
  refine zJ.icmp_ne (tgt := 29) dX5_beginsNow_2 (by decide) (fun c1 => ?_) (fun c1 => ?_)
  · replace h := h.1 c1
    refine zJ.aload_n 0 dX5_beginsNow_29 rfl rfl ?_
    refine zE.getV (fd_23_5 o) ok_23 kiX5 (Nat.le_of_ble_eq_true rfl) fl_X5_25 dX5_beginsNow_30 ?_
    refine zJ.iload_n 2 dX5_beginsNow_33 rfl rfl ?_
    obtain ⟨hq, h⟩ := h
    refine zE.aldI (ia_29 o) ok_29 hq dX5_beginsNow_34 ?_
    by_cases q1 : (S.1 (29, 0, 0) x2.toNatClampNeg) = 1
    · replace h := h.1 q1
      refine zJ.tableIn (tgt := 60) dX5_beginsNow_35 (by rw [q1]; decide) (by rw [q1]; decide) (by rw [q1]; rfl) (by decide) ?_
      refine zJ.aload_n 0 dX5_beginsNow_60 rfl rfl ?_
      refine zJ.iload_n 2 dX5_beginsNow_61 rfl rfl ?_
      refine zG.callVv [.int x2] [] (ob_23 o) ok_23 rfl dX5_beginsNow_62 ⟨(cb_X5_counts).1, (cb_X5_counts).2, (Nat.le_of_ble_eq_true rfl), (Nat.le_of_ble_eq_true rfl)⟩ ml_X5_168 ci_X5_counts cv_X5_counts rfl (Nat.le_of_ble_eq_true rfl) (Nat.le_of_ble_eq_true rfl) rfl h (fun S4 h2 => ?_)
      replace h := h2
      clear h2
      refine zJ.aload_n 0 dX5_beginsNow_65 rfl rfl ?_
      refine zJ.iload_n 2 dX5_beginsNow_66 rfl rfl ?_
      refine zJ.iload_n 1 dX5_beginsNow_67 rfl rfl ?_
      refine zJ.iload_n 3 dX5_beginsNow_68 rfl rfl ?_
      refine zJ.iload 4 dX5_beginsNow_69 rfl ?_
      refine zG.callVv [.int x2, .int x1, .int x3, .int x4] [] (ob_23 o) ok_23 rfl dX5_beginsNow_71 ⟨(cb_X5_does).1, (cb_X5_does).2, (Nat.le_of_ble_eq_true rfl), (Nat.le_of_ble_eq_true rfl)⟩ ml_X5_171 ci_X5_does cv_X5_does rfl (Nat.le_of_ble_eq_true rfl) (Nat.le_of_ble_eq_true rfl) rfl h (fun S7 h2 => ?_)
      replace h := h2
      clear h2
      refine zJ.aload_n 0 dX5_beginsNow_74 rfl rfl ?_
      refine zJ.iconst (v := 0) dX5_beginsNow_75 (by decide) ?_
      refine zJ.ldcf lc_X5_174 dX5_beginsNow_76 ?_
      refine zG.callVv [.int 0, .float (1069547520 : UInt32)] [] (ob_23 o) ok_23 rfl dX5_beginsNow_78 ⟨(cb_X5_counted).1, (cb_X5_counted).2, (Nat.le_of_ble_eq_true rfl), (Nat.le_of_ble_eq_true rfl)⟩ ml_X5_175 ci_X5_counted cv_X5_counted rfl (Nat.le_of_ble_eq_true rfl) (Nat.le_of_ble_eq_true rfl) rfl h (fun S10 h2 => ?_)
      replace h := h2
      clear h2
      refine zJ.iconst (v := 1) dX5_beginsNow_81 (by decide) ?_
      exact zG.ret (r := some (.int 1)) ⟨dX5_beginsNow_82, _, rfl, rfl⟩ h
    by_cases q2 : (S.1 (29, 0, 0) x2.toNatClampNeg) = 2
    · replace h := h.2.1 q2
      refine zJ.tableIn (tgt := 83) dX5_beginsNow_35 (by rw [q2]; decide) (by rw [q2]; decide) (by rw [q2]; rfl) (by decide) ?_
      refine zJ.aload_n 0 dX5_beginsNow_83 rfl rfl ?_
      refine zE.getV (fd_23_15 o) ok_23 kiX5 (Nat.le_of_ble_eq_true rfl) fl_X5_55 dX5_beginsNow_84 ?_
      refine zJ.iconst (v := 1) dX5_beginsNow_87 (by decide) ?_
      refine zJ.dup2_11 dX5_beginsNow_88 rfl rfl ?_
      refine zE.aldI (ia_39 o) ok_39 (by unfold vp_in; decide) dX5_beginsNow_89 ?_
      refine zJ.iconst (v := 1) dX5_beginsNow_90 (by decide) ?_
      refine zJ.isub dX5_beginsNow_91 ?_
      refine zE.astI (ia_39 o) ok_39 (by unfold vp_in; decide) dX5_beginsNow_92 ?_
      refine zJ.aload_n 0 dX5_beginsNow_93 rfl rfl ?_
      refine zJ.iload_n 2 dX5_beginsNow_94 rfl rfl ?_
      refine zG.callVv [.int x2] [] (ob_23 o) ok_23 rfl dX5_beginsNow_95 ⟨(cb_X5_comesNear).1, (cb_X5_comesNear).2, (Nat.le_of_ble_eq_true rfl), (Nat.le_of_ble_eq_true rfl)⟩ ml_X5_151 ci_X5_comesNear cv_X5_comesNear rfl (Nat.le_of_ble_eq_true rfl) (Nat.le_of_ble_eq_true rfl) rfl h (fun S13 h2 => ?_)
      replace h := h2
      clear h2
      refine zJ.aload_n 0 dX5_beginsNow_98 rfl rfl ?_
      refine zJ.iload_n 2 dX5_beginsNow_99 rfl rfl ?_
      refine zJ.iload_n 1 dX5_beginsNow_100 rfl rfl ?_
      refine zJ.iload_n 3 dX5_beginsNow_101 rfl rfl ?_
      refine zJ.iload 4 dX5_beginsNow_102 rfl ?_
      refine zG.callVv [.int x2, .int x1, .int x3, .int x4] [] (ob_23 o) ok_23 rfl dX5_beginsNow_104 ⟨(cb_X5_does).1, (cb_X5_does).2, (Nat.le_of_ble_eq_true rfl), (Nat.le_of_ble_eq_true rfl)⟩ ml_X5_171 ci_X5_does cv_X5_does rfl (Nat.le_of_ble_eq_true rfl) (Nat.le_of_ble_eq_true rfl) rfl h (fun S16 h2 => ?_)
      replace h := h2
      clear h2
      refine zJ.aload_n 0 dX5_beginsNow_107 rfl rfl ?_
      refine zJ.iconst (v := 3) dX5_beginsNow_108 (by decide) ?_
      refine zJ.ldcf lc_X5_179 dX5_beginsNow_109 ?_
      refine zG.callVv [.int 3, .float (1074266112 : UInt32)] [] (ob_23 o) ok_23 rfl dX5_beginsNow_111 ⟨(cb_X5_counted).1, (cb_X5_counted).2, (Nat.le_of_ble_eq_true rfl), (Nat.le_of_ble_eq_true rfl)⟩ ml_X5_175 ci_X5_counted cv_X5_counted rfl (Nat.le_of_ble_eq_true rfl) (Nat.le_of_ble_eq_true rfl) rfl h (fun S19 h2 => ?_)
      replace h := h2
      clear h2
      refine zJ.iconst (v := 1) dX5_beginsNow_114 (by decide) ?_
      exact zG.ret (r := some (.int 1)) ⟨dX5_beginsNow_115, _, rfl, rfl⟩ h
    by_cases q3 : (S.1 (29, 0, 0) x2.toNatClampNeg) = 3
    · replace h := h.2.2.1 q3
      refine zJ.tableIn (tgt := 116) dX5_beginsNow_35 (by rw [q3]; decide) (by rw [q3]; decide) (by rw [q3]; rfl) (by decide) ?_
      refine zJ.aload_n 0 dX5_beginsNow_116 rfl rfl ?_
      refine zE.getV (fd_23_10 o) ok_23 kiX5 (Nat.le_of_ble_eq_true rfl) fl_X5_40 dX5_beginsNow_117 ?_
      refine zJ.iload_n 2 dX5_beginsNow_120 rfl rfl ?_
      obtain ⟨hq, h⟩ := h
      refine zE.aldI (ia_34 o) ok_34 hq dX5_beginsNow_121 ?_
      refine zJ.aload_n 0 dX5_beginsNow_122 rfl rfl ?_
      refine zE.getV (fd_23_1 o) ok_23 kiX5 (Nat.le_of_ble_eq_true rfl) fl_X5_13 dX5_beginsNow_123 ?_
      refine zJ.iconst (v := 3) dX5_beginsNow_126 (by decide) ?_
      refine zE.aldI (ia_25 o) ok_25 (by unfold vp_in; decide) dX5_beginsNow_127 ?_
      refine zJ.icmp_ne (tgt := 133) dX5_beginsNow_128 (by decide) (fun c20 => ?_) (fun c20 => ?_)
      · replace h := h.1 c20
        refine zJ.aload_n 0 dX5_beginsNow_133 rfl rfl ?_
        refine zJ.iload_n 2 dX5_beginsNow_134 rfl rfl ?_
        refine zJ.iload_n 1 dX5_beginsNow_135 rfl rfl ?_
        refine zJ.iload_n 3 dX5_beginsNow_136 rfl rfl ?_
        refine zJ.iload 4 dX5_beginsNow_137 rfl ?_
        refine zG.callVv [.int x2, .int x1, .int x3, .int x4] [] (ob_23 o) ok_23 rfl dX5_beginsNow_139 ⟨(cb_X5_asks).1, (cb_X5_asks).2, (Nat.le_of_ble_eq_true rfl), (Nat.le_of_ble_eq_true rfl)⟩ ml_X5_180 ci_X5_asks cv_X5_asks rfl (Nat.le_of_ble_eq_true rfl) (Nat.le_of_ble_eq_true rfl) rfl h (fun S23 h2 => ?_)
        replace h := h2
        clear h2
        refine zJ.aload_n 0 dX5_beginsNow_142 rfl rfl ?_
        refine zJ.iconst (v := 1) dX5_beginsNow_143 (by decide) ?_
        refine zJ.ldcf lc_X5_183 dX5_beginsNow_144 ?_
        refine zG.callVv [.int 1, .float (1048576000 : UInt32)] [] (ob_23 o) ok_23 rfl dX5_beginsNow_146 ⟨(cb_X5_counted).1, (cb_X5_counted).2, (Nat.le_of_ble_eq_true rfl), (Nat.le_of_ble_eq_true rfl)⟩ ml_X5_175 ci_X5_counted cv_X5_counted rfl (Nat.le_of_ble_eq_true rfl) (Nat.le_of_ble_eq_true rfl) rfl h (fun S26 h2 => ?_)
        replace h := h2
        clear h2
        refine zJ.iconst (v := 1) dX5_beginsNow_149 (by decide) ?_
        exact zG.ret (r := some (.int 1)) ⟨dX5_beginsNow_150, _, rfl, rfl⟩ h
      · replace h := h.2 c20
        refine zJ.iconst (v := 0) dX5_beginsNow_131 (by decide) ?_
        exact zG.ret (r := some (.int 0)) ⟨dX5_beginsNow_132, _, rfl, rfl⟩ h
    replace h := h.2.2.2 q1 q2 q3
    refine zJ.tableOut (tgt := 151) dX5_beginsNow_35 (z_swe (lo := 1) (k := 3) (by decide) (fun j hl hj => ?_)) (by decide) ?_
    · rcases (show j = 1 ∨ j = 2 ∨ j = 3 by omega) with rfl | rfl | rfl
      · exact q1
      · exact q2
      · exact q3
    · refine zJ.aload_n 0 dX5_beginsNow_151 rfl rfl ?_
      refine zE.getV (fd_23_15 o) ok_23 kiX5 (Nat.le_of_ble_eq_true rfl) fl_X5_55 dX5_beginsNow_152 ?_
      refine zJ.iconst (v := 0) dX5_beginsNow_155 (by decide) ?_
      refine zE.aldI (ia_39 o) ok_39 (by unfold vp_in; decide) dX5_beginsNow_156 ?_
      refine zJ.aload_n 0 dX5_beginsNow_157 rfl rfl ?_
      refine zE.getV (fd_23_1 o) ok_23 kiX5 (Nat.le_of_ble_eq_true rfl) fl_X5_13 dX5_beginsNow_158 ?_
      refine zJ.iconst (v := 2) dX5_beginsNow_161 (by decide) ?_
      refine zE.aldI (ia_25 o) ok_25 (by unfold vp_in; decide) dX5_beginsNow_162 ?_
      refine zJ.icmp_ne (tgt := 168) dX5_beginsNow_163 (by decide) (fun c27 => ?_) (fun c27 => ?_)
      · replace h := h.1 c27
        refine zJ.aload_n 0 dX5_beginsNow_168 rfl rfl ?_
        refine zE.getV (fd_23_5 o) ok_23 kiX5 (Nat.le_of_ble_eq_true rfl) fl_X5_25 dX5_beginsNow_169 ?_
        refine zJ.iload_n 2 dX5_beginsNow_172 rfl rfl ?_
        refine zJ.iconst (v := 3) dX5_beginsNow_173 (by decide) ?_
        obtain ⟨hq, h⟩ := h
        refine zE.astI (ia_29 o) ok_29 hq dX5_beginsNow_174 ?_
        refine zJ.aload_n 0 dX5_beginsNow_175 rfl rfl ?_
        refine zE.getV (fd_23_6 o) ok_23 kiX5 (Nat.le_of_ble_eq_true rfl) fl_X5_28 dX5_beginsNow_176 ?_
        refine zJ.iload_n 2 dX5_beginsNow_179 rfl rfl ?_
        refine zJ.aload_n 0 dX5_beginsNow_180 rfl rfl ?_
        refine zE.getV (fd_23_16 o) ok_23 kiX5 (Nat.le_of_ble_eq_true rfl) fl_X5_58 dX5_beginsNow_181 ?_
        refine zJ.bipush (v := 9) dX5_beginsNow_184 (by decide) ?_
        refine zE.aldI (ia_40 o) ok_40 (by unfold vp_in; decide) dX5_beginsNow_186 ?_
        refine zJ.aload_n 0 dX5_beginsNow_187 rfl rfl ?_
        refine zE.getV (fd_23_1 o) ok_23 kiX5 (Nat.le_of_ble_eq_true rfl) fl_X5_13 dX5_beginsNow_188 ?_
        refine zJ.iconst (v := 4) dX5_beginsNow_191 (by decide) ?_
        refine zE.aldI (ia_25 o) ok_25 (by unfold vp_in; decide) dX5_beginsNow_192 ?_
        refine zJ.iadd dX5_beginsNow_193 ?_
        refine zJ.topi (fun y28 hyy28 => ?_)
        replace h := h y28 hyy28
        obtain ⟨hq, h⟩ := h
        refine zE.astI (ia_30 o) ok_30 hq dX5_beginsNow_194 ?_
        refine zJ.nameS (fun S29 hyS29 => ?_)
        replace h := h S29 hyS29
        refine zJ.aload_n 0 dX5_beginsNow_195 rfl rfl ?_
        refine zE.getV (fd_23_9 o) ok_23 kiX5 (Nat.le_of_ble_eq_true rfl) fl_X5_37 dX5_beginsNow_196 ?_
        refine zJ.aload_n 0 dX5_beginsNow_199 rfl rfl ?_
        refine zE.getV (fd_23_15 o) ok_23 kiX5 (Nat.le_of_ble_eq_true rfl) fl_X5_55 dX5_beginsNow_200 ?_
        refine zJ.iconst (v := 0) dX5_beginsNow_203 (by decide) ?_
        refine zE.aldI (ia_39 o) ok_39 (by unfold vp_in; decide) dX5_beginsNow_204 ?_
        refine zJ.iload_n 2 dX5_beginsNow_205 rfl rfl ?_
        obtain ⟨hq, h⟩ := h
        refine zE.astI (ia_33 o) ok_33 hq dX5_beginsNow_206 ?_
        refine zJ.aload_n 0 dX5_beginsNow_207 rfl rfl ?_
        refine zE.getV (fd_23_15 o) ok_23 kiX5 (Nat.le_of_ble_eq_true rfl) fl_X5_55 dX5_beginsNow_208 ?_
        refine zJ.iconst (v := 0) dX5_beginsNow_211 (by decide) ?_
        refine zJ.dup2_11 dX5_beginsNow_212 rfl rfl ?_
        refine zE.aldI (ia_39 o) ok_39 (by unfold vp_in; decide) dX5_beginsNow_213 ?_
        refine zJ.topi (fun y30 hyy30 => ?_)
        replace h := h y30 hyy30
        refine zJ.iconst (v := 1) dX5_beginsNow_214 (by decide) ?_
        refine zJ.iadd dX5_beginsNow_215 ?_
        refine zE.astI (ia_39 o) ok_39 (by unfold vp_in; decide) dX5_beginsNow_216 ?_
        refine zJ.nameS (fun S31 hyS31 => ?_)
        replace h := h S31 hyS31
        refine zJ.aload_n 0 dX5_beginsNow_217 rfl rfl ?_
        refine zJ.iload_n 2 dX5_beginsNow_218 rfl rfl ?_
        refine zJ.iload_n 1 dX5_beginsNow_219 rfl rfl ?_
        refine zJ.iload_n 3 dX5_beginsNow_220 rfl rfl ?_
        refine zJ.iload 4 dX5_beginsNow_221 rfl ?_
        refine zG.callVv [.int x2, .int x1, .int x3, .int x4] [] (ob_23 o) ok_23 rfl dX5_beginsNow_223 ⟨(cb_X5_asks).1, (cb_X5_asks).2, (Nat.le_of_ble_eq_true rfl), (Nat.le_of_ble_eq_true rfl)⟩ ml_X5_180 ci_X5_asks cv_X5_asks rfl (Nat.le_of_ble_eq_true rfl) (Nat.le_of_ble_eq_true rfl) rfl h (fun S34 h2 => ?_)
        replace h := h2
        clear h2
        refine zJ.aload_n 0 dX5_beginsNow_226 rfl rfl ?_
        refine zJ.iconst (v := 2) dX5_beginsNow_227 (by decide) ?_
        refine zJ.ldcf lc_X5_184 dX5_beginsNow_228 ?_
        refine zG.callVv [.int 2, .float (1083703296 : UInt32)] [] (ob_23 o) ok_23 rfl dX5_beginsNow_230 ⟨(cb_X5_counted).1, (cb_X5_counted).2, (Nat.le_of_ble_eq_true rfl), (Nat.le_of_ble_eq_true rfl)⟩ ml_X5_175 ci_X5_counted cv_X5_counted rfl (Nat.le_of_ble_eq_true rfl) (Nat.le_of_ble_eq_true rfl) rfl h (fun S37 h2 => ?_)
        replace h := h2
        clear h2
        refine zJ.iconst (v := 1) dX5_beginsNow_233 (by decide) ?_
        exact zG.ret (r := some (.int 1)) ⟨dX5_beginsNow_234, _, rfl, rfl⟩ h
      · replace h := h.2 c27
        refine zJ.iconst (v := 0) dX5_beginsNow_166 (by decide) ?_
        exact zG.ret (r := some (.int 0)) ⟨dX5_beginsNow_167, _, rfl, rfl⟩ h
  · replace h := h.2 c1
    refine zJ.aload_n 0 dX5_beginsNow_5 rfl rfl ?_
    refine zE.getV (fd_23_15 o) ok_23 kiX5 (Nat.le_of_ble_eq_true rfl) fl_X5_55 dX5_beginsNow_6 ?_
    refine zJ.iconst (v := 0) dX5_beginsNow_9 (by decide) ?_
    refine zE.aldI (ia_39 o) ok_39 (by unfold vp_in; decide) dX5_beginsNow_10 ?_
    refine zJ.if_ne (tgt := 27) dX5_beginsNow_11 (by decide) (fun c38 => ?_) (fun c38 => ?_)
    · replace h := h.1 c38
      refine zJ.iconst (v := 0) dX5_beginsNow_27 (by decide) ?_
      exact zG.ret (r := some (.int 0)) ⟨dX5_beginsNow_28, _, rfl, rfl⟩ h
    · replace h := h.2 c38
      refine zJ.aload_n 0 dX5_beginsNow_14 rfl rfl ?_
      refine zE.getV (fd_23_15 o) ok_23 kiX5 (Nat.le_of_ble_eq_true rfl) fl_X5_55 dX5_beginsNow_15 ?_
      refine zJ.iconst (v := 1) dX5_beginsNow_18 (by decide) ?_
      refine zE.aldI (ia_39 o) ok_39 (by unfold vp_in; decide) dX5_beginsNow_19 ?_
      refine zJ.if_ne (tgt := 27) dX5_beginsNow_20 (by decide) (fun c39 => ?_) (fun c39 => ?_)
      · replace h := h.1 c39
        refine zJ.iconst (v := 0) dX5_beginsNow_27 (by decide) ?_
        exact zG.ret (r := some (.int 0)) ⟨dX5_beginsNow_28, _, rfl, rfl⟩ h
      · replace h := h.2 c39
        refine zJ.iconst (v := 1) dX5_beginsNow_23 (by decide) ?_
        refine zJ.goto (tgt := 28) dX5_beginsNow_24 (by decide) ?_
        exact zG.ret (r := some (.int 1)) ⟨dX5_beginsNow_28, _, rfl, rfl⟩ h
set_option maxRecDepth 100000 in
set_option maxHeartbeats 4000000 in
theorem w_X5_goesBy_0 (o : zW)  (S : zS) (Q : Option Value → zS → Prop) (h : zGv o 994 mdX5_comesTime [.ref (z_adr o (23, 0, 0))] (sI S (40, 0, 0) 9 ((S.1 (40, 0, 0) 9) + 1)) (fun S3 => Q none S3)) : zG o 994 mdX5_goesBy 0 [(0, .ref (z_adr o (23, 0, 0)))] [] S Q := by
  show zJ o mdX5_goesBy 0 _ [] (994, z_enc o S) 0 0 _
  refine zJ.aload_n 0 dX5_goesBy_0 rfl rfl ?_
  refine zE.getV (fd_23_16 o) ok_23 kiX5 (Nat.le_of_ble_eq_true rfl) fl_X5_58 dX5_goesBy_1 ?_
  refine zJ.bipush (v := 9) dX5_goesBy_4 (by decide) ?_
  refine zJ.dup2_11 dX5_goesBy_6 rfl rfl ?_
  refine zE.aldI (ia_40 o) ok_40 (by unfold vp_in; decide) dX5_goesBy_7 ?_
  refine zJ.iconst (v := 1) dX5_goesBy_8 (by decide) ?_
  refine zJ.iadd dX5_goesBy_9 ?_
  refine zE.astI (ia_40 o) ok_40 (by unfold vp_in; decide) dX5_goesBy_10 ?_
  refine zJ.aload_n 0 dX5_goesBy_11 rfl rfl ?_
  refine zG.callVv [] [] (ob_23 o) ok_23 rfl dX5_goesBy_12 ⟨(cb_X5_comesTime).1, (cb_X5_comesTime).2, (Nat.le_of_ble_eq_true rfl), (Nat.le_of_ble_eq_true rfl)⟩ ml_X5_185 ci_X5_comesTime cv_X5_comesTime rfl (Nat.le_of_ble_eq_true rfl) (Nat.le_of_ble_eq_true rfl) rfl h (fun S3 h2 => ?_)
  replace h := h2
  clear h2
  exact zG.ret (r := none) ⟨dX5_goesBy_15, rfl⟩ h
set_option maxRecDepth 100000 in
set_option maxHeartbeats 4000000 in
theorem w_X5_done_0 (o : zW) (x1 : Int32) (x2 : Int32) (x3 : Int32) (x4 : Int32) (S : zS) (Q : Option Value → zS → Prop) (h : zGv o 994 mdX5_goesBy [.ref (z_adr o (23, 0, 0))] S (fun S3 => zG o 994 mdX5_done 4 [(0, .ref (z_adr o (23, 0, 0))), (1, .int x1), (2, .int x2), (3, .int x3), (4, .int x4)] [] S3 Q)) : zG o 994 mdX5_done 0 [(0, .ref (z_adr o (23, 0, 0))), (1, .int x1), (2, .int x2), (3, .int x3), (4, .int x4)] [] S Q := by
  show zJ o mdX5_done 0 _ [] (994, z_enc o S) 0 0 _
  refine zJ.aload_n 0 dX5_done_0 rfl rfl ?_
  refine zG.callVv [] [] (ob_23 o) ok_23 rfl dX5_done_1 ⟨(cb_X5_goesBy).1, (cb_X5_goesBy).2, (Nat.le_of_ble_eq_true rfl), (Nat.le_of_ble_eq_true rfl)⟩ ml_X5_188 ci_X5_goesBy cv_X5_goesBy rfl (Nat.le_of_ble_eq_true rfl) (Nat.le_of_ble_eq_true rfl) rfl h (fun S3 h2 => ?_)
  replace h := h2
  clear h2
  exact h
set_option maxRecDepth 100000 in
set_option maxHeartbeats 4000000 in
theorem w_X5_done_4 (o : zW) (x1 : Int32) (x2 : Int32) (x3 : Int32) (x4 : Int32) (S : zS) (Q : Option Value → zS → Prop) (h : zGi o 994 mdX5_beginsNow [.ref (z_adr o (23, 0, 0)), .int x1, .int x2, .int x3, .int x4] S (fun r2 S3 => (¬ r2 = 0 → (Q (some (.int (S3.1 (40, 0, 0) 9))) S3)) ∧ (r2 = 0 → (zGv o 994 mdX5_counted [.ref (z_adr o (23, 0, 0)), .int 4, .float (1036831949 : UInt32)] S3 (fun S7 => zGv o 994 mdX5_goesBy [.ref (z_adr o (23, 0, 0))] S7 (fun S10 => zG o 994 mdX5_done 4 [(0, .ref (z_adr o (23, 0, 0))), (1, .int x1), (2, .int x2), (3, .int x3), (4, .int x4)] [] S10 Q)))))) : zG o 994 mdX5_done 4 [(0, .ref (z_adr o (23, 0, 0))), (1, .int x1), (2, .int x2), (3, .int x3), (4, .int x4)] [] S Q := by
  show zJ o mdX5_done 4 _ [] (994, z_enc o S) 0 0 _
  refine zJ.aload_n 0 dX5_done_4 rfl rfl ?_
  refine zJ.iload_n 1 dX5_done_5 rfl rfl ?_
  refine zJ.iload_n 2 dX5_done_6 rfl rfl ?_
  refine zJ.iload_n 3 dX5_done_7 rfl rfl ?_
  refine zJ.iload 4 dX5_done_8 rfl ?_
  refine zG.callVi [.int x1, .int x2, .int x3, .int x4] [] (ob_23 o) ok_23 rfl dX5_done_10 ⟨(cb_X5_beginsNow).1, (cb_X5_beginsNow).2, (Nat.le_of_ble_eq_true rfl), (Nat.le_of_ble_eq_true rfl)⟩ ml_X5_191 ci_X5_beginsNow cv_X5_beginsNow rfl (Nat.le_of_ble_eq_true rfl) (Nat.le_of_ble_eq_true rfl) rfl h (fun r2 S3 h2 => ?_)
  replace h := h2
  clear h2
  refine zJ.if_ne (tgt := 30) dX5_done_13 (by decide) (fun c4 => ?_) (fun c4 => ?_)
  · replace h := h.1 c4
    refine zJ.aload_n 0 dX5_done_30 rfl rfl ?_
    refine zE.getV (fd_23_16 o) ok_23 kiX5 (Nat.le_of_ble_eq_true rfl) fl_X5_58 dX5_done_31 ?_
    refine zJ.bipush (v := 9) dX5_done_34 (by decide) ?_
    refine zE.aldI (ia_40 o) ok_40 (by unfold vp_in; decide) dX5_done_36 ?_
    exact zG.ret (r := some (.int (S3.1 (40, 0, 0) 9))) ⟨dX5_done_37, _, rfl, rfl⟩ h
  · replace h := h.2 c4
    refine zJ.aload_n 0 dX5_done_16 rfl rfl ?_
    refine zJ.iconst (v := 4) dX5_done_17 (by decide) ?_
    refine zJ.ldcf lc_X5_195 dX5_done_18 ?_
    refine zG.callVv [.int 4, .float (1036831949 : UInt32)] [] (ob_23 o) ok_23 rfl dX5_done_20 ⟨(cb_X5_counted).1, (cb_X5_counted).2, (Nat.le_of_ble_eq_true rfl), (Nat.le_of_ble_eq_true rfl)⟩ ml_X5_175 ci_X5_counted cv_X5_counted rfl (Nat.le_of_ble_eq_true rfl) (Nat.le_of_ble_eq_true rfl) rfl h (fun S7 h2 => ?_)
    replace h := h2
    clear h2
    refine zJ.aload_n 0 dX5_done_23 rfl rfl ?_
    refine zG.callVv [] [] (ob_23 o) ok_23 rfl dX5_done_24 ⟨(cb_X5_goesBy).1, (cb_X5_goesBy).2, (Nat.le_of_ble_eq_true rfl), (Nat.le_of_ble_eq_true rfl)⟩ ml_X5_188 ci_X5_goesBy cv_X5_goesBy rfl (Nat.le_of_ble_eq_true rfl) (Nat.le_of_ble_eq_true rfl) rfl h (fun S10 h2 => ?_)
    replace h := h2
    clear h2
    refine zJ.goto (tgt := 4) dX5_done_27 (by decide) ?_
    exact h
set_option maxRecDepth 100000 in
set_option maxHeartbeats 4000000 in
theorem w_X5_isItem_0 (o : zW) (x0 : Int32) (S : zS) (Q : Option Value → zS → Prop) (h : zGi o 994 mdX5_in [.int x0, .int 0, .int 3] S (fun r2 S3 => narrow .boolean (.int r2) = .int r2 ∧ Q (some (.int r2)) S3)) : zG o 994 mdX5_isItem 0 [(0, .int x0)] [] S Q := by
  show zJ o mdX5_isItem 0 _ [] (994, z_enc o S) 0 0 _
  refine zJ.iload_n 0 dX5_isItem_0 rfl rfl ?_
  refine zJ.iconst (v := 0) dX5_isItem_1 (by decide) ?_
  refine zJ.iconst (v := 3) dX5_isItem_2 (by decide) ?_
  refine zG.callSi [.int x0, .int 0, .int 3] [] dX5_isItem_3 ⟨(cb_X5_in).1, (cb_X5_in).2, (Nat.le_of_ble_eq_true rfl), (Nat.le_of_ble_eq_true rfl)⟩ ml_X5_101 cs_X5_in rfl (Nat.le_of_ble_eq_true rfl) (Nat.le_of_ble_eq_true rfl) rfl h (fun r2 S3 h2 => ?_)
  replace h := h2
  clear h2
  exact zG.ret (r := some (.int r2)) ⟨dX5_isItem_6, _, rfl, h.1⟩ h.2
set_option maxRecDepth 100000 in
set_option maxHeartbeats 4000000 in
theorem w_X5_load_0 (o : zW) (x1 : Int32) (x2 : Int32) (S : zS) (Q : Option Value → zS → Prop) (h : zGi o 994 mdX5_isBox [.int x1] S (fun r2 S3 => (r2 = 0 → (zGi o 994 mdX5_bad [.ref (z_adr o (23, 0, 0))] S3 (fun r6 S7 => Q (some (.int r6)) S7))) ∧ (¬ r2 = 0 → (zGi o 994 mdX5_isItem [.int x2] S3 (fun r9 S10 => (¬ r9 = 0 → (zGv o 994 mdX5_leavesState [.ref (z_adr o (23, 0, 0))] S10 (fun S14 => zGi o 994 mdX5_done [.ref (z_adr o (23, 0, 0)), .int 0, .int x1, .int x2, .int 0] S14 (fun r16 S17 => Q (some (.int r16)) S17)))) ∧ (r9 = 0 → (zGi o 994 mdX5_bad [.ref (z_adr o (23, 0, 0))] S10 (fun r19 S20 => Q (some (.int r19)) S20)))))))) : zG o 994 mdX5_load 0 [(0, .ref (z_adr o (23, 0, 0))), (1, .int x1), (2, .int x2)] [] S Q := by
  show zJ o mdX5_load 0 _ [] (994, z_enc o S) 0 0 _
  refine zJ.iload_n 1 dX5_load_0 rfl rfl ?_
  refine zG.callSi [.int x1] [] dX5_load_1 ⟨(cb_X5_isBox).1, (cb_X5_isBox).2, (Nat.le_of_ble_eq_true rfl), (Nat.le_of_ble_eq_true rfl)⟩ ml_X5_196 cs_X5_isBox rfl (Nat.le_of_ble_eq_true rfl) (Nat.le_of_ble_eq_true rfl) rfl h (fun r2 S3 h2 => ?_)
  replace h := h2
  clear h2
  refine zJ.if_eq (tgt := 14) dX5_load_4 (by decide) (fun c4 => ?_) (fun c4 => ?_)
  · replace h := h.1 c4
    refine zJ.aload_n 0 dX5_load_14 rfl rfl ?_
    refine zG.callVi [] [] (ob_23 o) ok_23 rfl dX5_load_15 ⟨(cb_X5_bad).1, (cb_X5_bad).2, (Nat.le_of_ble_eq_true rfl), (Nat.le_of_ble_eq_true rfl)⟩ ml_X5_130 ci_X5_bad cv_X5_bad rfl (Nat.le_of_ble_eq_true rfl) (Nat.le_of_ble_eq_true rfl) rfl h (fun r6 S7 h2 => ?_)
    replace h := h2
    clear h2
    exact zG.ret (r := some (.int r6)) ⟨dX5_load_18, _, rfl, rfl⟩ h
  · replace h := h.2 c4
    refine zJ.iload_n 2 dX5_load_7 rfl rfl ?_
    refine zG.callSi [.int x2] [] dX5_load_8 ⟨(cb_X5_isItem).1, (cb_X5_isItem).2, (Nat.le_of_ble_eq_true rfl), (Nat.le_of_ble_eq_true rfl)⟩ ml_X5_200 cs_X5_isItem rfl (Nat.le_of_ble_eq_true rfl) (Nat.le_of_ble_eq_true rfl) rfl h (fun r9 S10 h2 => ?_)
    replace h := h2
    clear h2
    refine zJ.if_ne (tgt := 19) dX5_load_11 (by decide) (fun c11 => ?_) (fun c11 => ?_)
    · replace h := h.1 c11
      refine zJ.aload_n 0 dX5_load_19 rfl rfl ?_
      refine zG.callVv [] [] (ob_23 o) ok_23 rfl dX5_load_20 ⟨(cb_X5_leavesState).1, (cb_X5_leavesState).2, (Nat.le_of_ble_eq_true rfl), (Nat.le_of_ble_eq_true rfl)⟩ ml_X5_134 ci_X5_leavesState cv_X5_leavesState rfl (Nat.le_of_ble_eq_true rfl) (Nat.le_of_ble_eq_true rfl) rfl h (fun S14 h2 => ?_)
      replace h := h2
      clear h2
      refine zJ.aload_n 0 dX5_load_23 rfl rfl ?_
      refine zJ.iconst (v := 0) dX5_load_24 (by decide) ?_
      refine zJ.iload_n 1 dX5_load_25 rfl rfl ?_
      refine zJ.iload_n 2 dX5_load_26 rfl rfl ?_
      refine zJ.iconst (v := 0) dX5_load_27 (by decide) ?_
      refine zG.callVi [.int 0, .int x1, .int x2, .int 0] [] (ob_23 o) ok_23 rfl dX5_load_28 ⟨(cb_X5_done).1, (cb_X5_done).2, (Nat.le_of_ble_eq_true rfl), (Nat.le_of_ble_eq_true rfl)⟩ ml_X5_203 ci_X5_done cv_X5_done rfl (Nat.le_of_ble_eq_true rfl) (Nat.le_of_ble_eq_true rfl) rfl h (fun r16 S17 h2 => ?_)
      replace h := h2
      clear h2
      exact zG.ret (r := some (.int r16)) ⟨dX5_load_31, _, rfl, rfl⟩ h
    · replace h := h.2 c11
      refine zJ.aload_n 0 dX5_load_14 rfl rfl ?_
      refine zG.callVi [] [] (ob_23 o) ok_23 rfl dX5_load_15 ⟨(cb_X5_bad).1, (cb_X5_bad).2, (Nat.le_of_ble_eq_true rfl), (Nat.le_of_ble_eq_true rfl)⟩ ml_X5_130 ci_X5_bad cv_X5_bad rfl (Nat.le_of_ble_eq_true rfl) (Nat.le_of_ble_eq_true rfl) rfl h (fun r19 S20 h2 => ?_)
      replace h := h2
      clear h2
      exact zG.ret (r := some (.int r19)) ⟨dX5_load_18, _, rfl, rfl⟩ h
set_option maxRecDepth 100000 in
set_option maxHeartbeats 4000000 in
theorem w_X5_store_0 (o : zW) (x1 : Int32) (x2 : Int32) (x3 : Int32) (S : zS) (Q : Option Value → zS → Prop) (h : zGi o 994 mdX5_isBox [.int x1] S (fun r2 S3 => (r2 = 0 → (zGi o 994 mdX5_bad [.ref (z_adr o (23, 0, 0))] S3 (fun r6 S7 => Q (some (.int r6)) S7))) ∧ (¬ r2 = 0 → (zGi o 994 mdX5_isItem [.int x2] S3 (fun r9 S10 => (r9 = 0 → (zGi o 994 mdX5_bad [.ref (z_adr o (23, 0, 0))] S10 (fun r13 S14 => Q (some (.int r13)) S14))) ∧ (¬ r9 = 0 → (zGi o 994 mdX5_in [.int x3, .int 0, .int 99] S10 (fun r16 S17 => (¬ r16 = 0 → (zGv o 994 mdX5_leavesState [.ref (z_adr o (23, 0, 0))] S17 (fun S21 => zGi o 994 mdX5_done [.ref (z_adr o (23, 0, 0)), .int 1, .int x1, .int x2, .int x3] S21 (fun r23 S24 => Q (some (.int r23)) S24)))) ∧ (r16 = 0 → (zGi o 994 mdX5_bad [.ref (z_adr o (23, 0, 0))] S17 (fun r26 S27 => Q (some (.int r26)) S27))))))))))) : zG o 994 mdX5_store 0 [(0, .ref (z_adr o (23, 0, 0))), (1, .int x1), (2, .int x2), (3, .int x3)] [] S Q := by
  show zJ o mdX5_store 0 _ [] (994, z_enc o S) 0 0 _
  refine zJ.iload_n 1 dX5_store_0 rfl rfl ?_
  refine zG.callSi [.int x1] [] dX5_store_1 ⟨(cb_X5_isBox).1, (cb_X5_isBox).2, (Nat.le_of_ble_eq_true rfl), (Nat.le_of_ble_eq_true rfl)⟩ ml_X5_196 cs_X5_isBox rfl (Nat.le_of_ble_eq_true rfl) (Nat.le_of_ble_eq_true rfl) rfl h (fun r2 S3 h2 => ?_)
  replace h := h2
  clear h2
  refine zJ.if_eq (tgt := 24) dX5_store_4 (by decide) (fun c4 => ?_) (fun c4 => ?_)
  · replace h := h.1 c4
    refine zJ.aload_n 0 dX5_store_24 rfl rfl ?_
    refine zG.callVi [] [] (ob_23 o) ok_23 rfl dX5_store_25 ⟨(cb_X5_bad).1, (cb_X5_bad).2, (Nat.le_of_ble_eq_true rfl), (Nat.le_of_ble_eq_true rfl)⟩ ml_X5_130 ci_X5_bad cv_X5_bad rfl (Nat.le_of_ble_eq_true rfl) (Nat.le_of_ble_eq_true rfl) rfl h (fun r6 S7 h2 => ?_)
    replace h := h2
    clear h2
    exact zG.ret (r := some (.int r6)) ⟨dX5_store_28, _, rfl, rfl⟩ h
  · replace h := h.2 c4
    refine zJ.iload_n 2 dX5_store_7 rfl rfl ?_
    refine zG.callSi [.int x2] [] dX5_store_8 ⟨(cb_X5_isItem).1, (cb_X5_isItem).2, (Nat.le_of_ble_eq_true rfl), (Nat.le_of_ble_eq_true rfl)⟩ ml_X5_200 cs_X5_isItem rfl (Nat.le_of_ble_eq_true rfl) (Nat.le_of_ble_eq_true rfl) rfl h (fun r9 S10 h2 => ?_)
    replace h := h2
    clear h2
    refine zJ.if_eq (tgt := 24) dX5_store_11 (by decide) (fun c11 => ?_) (fun c11 => ?_)
    · replace h := h.1 c11
      refine zJ.aload_n 0 dX5_store_24 rfl rfl ?_
      refine zG.callVi [] [] (ob_23 o) ok_23 rfl dX5_store_25 ⟨(cb_X5_bad).1, (cb_X5_bad).2, (Nat.le_of_ble_eq_true rfl), (Nat.le_of_ble_eq_true rfl)⟩ ml_X5_130 ci_X5_bad cv_X5_bad rfl (Nat.le_of_ble_eq_true rfl) (Nat.le_of_ble_eq_true rfl) rfl h (fun r13 S14 h2 => ?_)
      replace h := h2
      clear h2
      exact zG.ret (r := some (.int r13)) ⟨dX5_store_28, _, rfl, rfl⟩ h
    · replace h := h.2 c11
      refine zJ.iload_n 3 dX5_store_14 rfl rfl ?_
      refine zJ.iconst (v := 0) dX5_store_15 (by decide) ?_
      refine zJ.bipush (v := 99) dX5_store_16 (by decide) ?_
      refine zG.callSi [.int x3, .int 0, .int 99] [] dX5_store_18 ⟨(cb_X5_in).1, (cb_X5_in).2, (Nat.le_of_ble_eq_true rfl), (Nat.le_of_ble_eq_true rfl)⟩ ml_X5_101 cs_X5_in rfl (Nat.le_of_ble_eq_true rfl) (Nat.le_of_ble_eq_true rfl) rfl h (fun r16 S17 h2 => ?_)
      replace h := h2
      clear h2
      refine zJ.if_ne (tgt := 29) dX5_store_21 (by decide) (fun c18 => ?_) (fun c18 => ?_)
      · replace h := h.1 c18
        refine zJ.aload_n 0 dX5_store_29 rfl rfl ?_
        refine zG.callVv [] [] (ob_23 o) ok_23 rfl dX5_store_30 ⟨(cb_X5_leavesState).1, (cb_X5_leavesState).2, (Nat.le_of_ble_eq_true rfl), (Nat.le_of_ble_eq_true rfl)⟩ ml_X5_134 ci_X5_leavesState cv_X5_leavesState rfl (Nat.le_of_ble_eq_true rfl) (Nat.le_of_ble_eq_true rfl) rfl h (fun S21 h2 => ?_)
        replace h := h2
        clear h2
        refine zJ.aload_n 0 dX5_store_33 rfl rfl ?_
        refine zJ.iconst (v := 1) dX5_store_34 (by decide) ?_
        refine zJ.iload_n 1 dX5_store_35 rfl rfl ?_
        refine zJ.iload_n 2 dX5_store_36 rfl rfl ?_
        refine zJ.iload_n 3 dX5_store_37 rfl rfl ?_
        refine zG.callVi [.int 1, .int x1, .int x2, .int x3] [] (ob_23 o) ok_23 rfl dX5_store_38 ⟨(cb_X5_done).1, (cb_X5_done).2, (Nat.le_of_ble_eq_true rfl), (Nat.le_of_ble_eq_true rfl)⟩ ml_X5_203 ci_X5_done cv_X5_done rfl (Nat.le_of_ble_eq_true rfl) (Nat.le_of_ble_eq_true rfl) rfl h (fun r23 S24 h2 => ?_)
        replace h := h2
        clear h2
        exact zG.ret (r := some (.int r23)) ⟨dX5_store_41, _, rfl, rfl⟩ h
      · replace h := h.2 c18
        refine zJ.aload_n 0 dX5_store_24 rfl rfl ?_
        refine zG.callVi [] [] (ob_23 o) ok_23 rfl dX5_store_25 ⟨(cb_X5_bad).1, (cb_X5_bad).2, (Nat.le_of_ble_eq_true rfl), (Nat.le_of_ble_eq_true rfl)⟩ ml_X5_130 ci_X5_bad cv_X5_bad rfl (Nat.le_of_ble_eq_true rfl) (Nat.le_of_ble_eq_true rfl) rfl h (fun r26 S27 h2 => ?_)
        replace h := h2
        clear h2
        exact zG.ret (r := some (.int r26)) ⟨dX5_store_28, _, rfl, rfl⟩ h
set_option maxRecDepth 100000 in
set_option maxHeartbeats 4000000 in
theorem w_X5_fence_0 (o : zW)  (S : zS) (Q : Option Value → zS → Prop) (h : zGv o 994 mdX5_leavesState [.ref (z_adr o (23, 0, 0))] S (fun S3 => zGi o 994 mdX5_done [.ref (z_adr o (23, 0, 0)), .int 2, .int 0, .int 0, .int 0] S3 (fun r5 S6 => Q (some (.int r5)) S6))) : zG o 994 mdX5_fence 0 [(0, .ref (z_adr o (23, 0, 0)))] [] S Q := by
  show zJ o mdX5_fence 0 _ [] (994, z_enc o S) 0 0 _
  refine zJ.aload_n 0 dX5_fence_0 rfl rfl ?_
  refine zG.callVv [] [] (ob_23 o) ok_23 rfl dX5_fence_1 ⟨(cb_X5_leavesState).1, (cb_X5_leavesState).2, (Nat.le_of_ble_eq_true rfl), (Nat.le_of_ble_eq_true rfl)⟩ ml_X5_134 ci_X5_leavesState cv_X5_leavesState rfl (Nat.le_of_ble_eq_true rfl) (Nat.le_of_ble_eq_true rfl) rfl h (fun S3 h2 => ?_)
  replace h := h2
  clear h2
  refine zJ.aload_n 0 dX5_fence_4 rfl rfl ?_
  refine zJ.iconst (v := 2) dX5_fence_5 (by decide) ?_
  refine zJ.iconst (v := 0) dX5_fence_6 (by decide) ?_
  refine zJ.iconst (v := 0) dX5_fence_7 (by decide) ?_
  refine zJ.iconst (v := 0) dX5_fence_8 (by decide) ?_
  refine zG.callVi [.int 2, .int 0, .int 0, .int 0] [] (ob_23 o) ok_23 rfl dX5_fence_9 ⟨(cb_X5_done).1, (cb_X5_done).2, (Nat.le_of_ble_eq_true rfl), (Nat.le_of_ble_eq_true rfl)⟩ ml_X5_203 ci_X5_done cv_X5_done rfl (Nat.le_of_ble_eq_true rfl) (Nat.le_of_ble_eq_true rfl) rfl h (fun r5 S6 h2 => ?_)
  replace h := h2
  clear h2
  exact zG.ret (r := some (.int r5)) ⟨dX5_fence_12, _, rfl, rfl⟩ h
set_option maxRecDepth 100000 in
set_option maxHeartbeats 4000000 in
theorem w_X5_ticks_0 (o : zW) (x1 : Int32) (S : zS) (Q : Option Value → zS → Prop) (h : zGi o 994 mdX5_in [.int x1, .int 0, .int 99] S (fun r2 S3 => (¬ r2 = 0 → (zGv o 994 mdX5_leavesState [.ref (z_adr o (23, 0, 0))] S3 (fun S7 => zG o 994 mdX5_ticks 29 [(0, .ref (z_adr o (23, 0, 0))), (1, .int x1), (2, .int (S7.1 (40, 0, 0) 8)), (3, .int 0)] [] S7 Q))) ∧ (r2 = 0 → (zGi o 994 mdX5_bad [.ref (z_adr o (23, 0, 0))] S3 (fun r9 S10 => Q (some (.int r9)) S10))))) : zG o 994 mdX5_ticks 0 [(0, .ref (z_adr o (23, 0, 0))), (1, .int x1)] [] S Q := by
  show zJ o mdX5_ticks 0 _ [] (994, z_enc o S) 0 0 _
  refine zJ.iload_n 1 dX5_ticks_0 rfl rfl ?_
  refine zJ.iconst (v := 0) dX5_ticks_1 (by decide) ?_
  refine zJ.bipush (v := 99) dX5_ticks_2 (by decide) ?_
  refine zG.callSi [.int x1, .int 0, .int 99] [] dX5_ticks_4 ⟨(cb_X5_in).1, (cb_X5_in).2, (Nat.le_of_ble_eq_true rfl), (Nat.le_of_ble_eq_true rfl)⟩ ml_X5_101 cs_X5_in rfl (Nat.le_of_ble_eq_true rfl) (Nat.le_of_ble_eq_true rfl) rfl h (fun r2 S3 h2 => ?_)
  replace h := h2
  clear h2
  refine zJ.if_ne (tgt := 15) dX5_ticks_7 (by decide) (fun c4 => ?_) (fun c4 => ?_)
  · replace h := h.1 c4
    refine zJ.aload_n 0 dX5_ticks_15 rfl rfl ?_
    refine zG.callVv [] [] (ob_23 o) ok_23 rfl dX5_ticks_16 ⟨(cb_X5_leavesState).1, (cb_X5_leavesState).2, (Nat.le_of_ble_eq_true rfl), (Nat.le_of_ble_eq_true rfl)⟩ ml_X5_134 ci_X5_leavesState cv_X5_leavesState rfl (Nat.le_of_ble_eq_true rfl) (Nat.le_of_ble_eq_true rfl) rfl h (fun S7 h2 => ?_)
    replace h := h2
    clear h2
    refine zJ.aload_n 0 dX5_ticks_19 rfl rfl ?_
    refine zE.getV (fd_23_16 o) ok_23 kiX5 (Nat.le_of_ble_eq_true rfl) fl_X5_58 dX5_ticks_20 ?_
    refine zJ.bipush (v := 8) dX5_ticks_23 (by decide) ?_
    refine zE.aldI (ia_40 o) ok_40 (by unfold vp_in; decide) dX5_ticks_25 ?_
    refine zJ.istore_n (lv' := [(2, .int (S7.1 (40, 0, 0) 8)), (0, .ref (z_adr o (23, 0, 0))), (1, .int x1)]) dX5_ticks_26 rfl (Nat.le_of_ble_eq_true rfl) rfl ?_
    refine zJ.iconst (v := 0) dX5_ticks_27 (by decide) ?_
    refine zJ.istore_n (lv' := [(3, .int 0), (2, .int (S7.1 (40, 0, 0) 8)), (0, .ref (z_adr o (23, 0, 0))), (1, .int x1)]) dX5_ticks_28 rfl (Nat.le_of_ble_eq_true rfl) rfl ?_
    exact zJ.sub [2, 3, 1, 0] rfl h
  · replace h := h.2 c4
    refine zJ.aload_n 0 dX5_ticks_10 rfl rfl ?_
    refine zG.callVi [] [] (ob_23 o) ok_23 rfl dX5_ticks_11 ⟨(cb_X5_bad).1, (cb_X5_bad).2, (Nat.le_of_ble_eq_true rfl), (Nat.le_of_ble_eq_true rfl)⟩ ml_X5_130 ci_X5_bad cv_X5_bad rfl (Nat.le_of_ble_eq_true rfl) (Nat.le_of_ble_eq_true rfl) rfl h (fun r9 S10 h2 => ?_)
    replace h := h2
    clear h2
    exact zG.ret (r := some (.int r9)) ⟨dX5_ticks_14, _, rfl, rfl⟩ h
set_option maxRecDepth 100000 in
set_option maxHeartbeats 4000000 in
theorem w_X5_ticks_29 (o : zW) (x1 : Int32) (x2 : Int32) (x3 : Int32) (S : zS) (Q : Option Value → zS → Prop) (h : (x1 ≤ x3 → (Q (some (.int ((S.1 (40, 0, 0) 8) - x2))) S)) ∧ (¬ x1 ≤ x3 → (zGv o 994 mdX5_goesBy [.ref (z_adr o (23, 0, 0))] S (fun S4 => zG o 994 mdX5_ticks 29 [(0, .ref (z_adr o (23, 0, 0))), (1, .int x1), (2, .int x2), (3, .int (x3 + 1))] [] S4 Q)))) : zG o 994 mdX5_ticks 29 [(0, .ref (z_adr o (23, 0, 0))), (1, .int x1), (2, .int x2), (3, .int x3)] [] S Q := by
  show zJ o mdX5_ticks 29 _ [] (994, z_enc o S) 0 0 _
  refine zJ.iload_n 3 dX5_ticks_29 rfl rfl ?_
  refine zJ.iload_n 1 dX5_ticks_30 rfl rfl ?_
  refine zJ.icmp_ge (tgt := 44) dX5_ticks_31 (by decide) (fun c1 => ?_) (fun c1 => ?_)
  · replace h := h.1 c1
    refine zJ.aload_n 0 dX5_ticks_44 rfl rfl ?_
    refine zE.getV (fd_23_16 o) ok_23 kiX5 (Nat.le_of_ble_eq_true rfl) fl_X5_58 dX5_ticks_45 ?_
    refine zJ.bipush (v := 8) dX5_ticks_48 (by decide) ?_
    refine zE.aldI (ia_40 o) ok_40 (by unfold vp_in; decide) dX5_ticks_50 ?_
    refine zJ.iload_n 2 dX5_ticks_51 rfl rfl ?_
    refine zJ.isub dX5_ticks_52 ?_
    exact zG.ret (r := some (.int ((S.1 (40, 0, 0) 8) - x2))) ⟨dX5_ticks_53, _, rfl, rfl⟩ h
  · replace h := h.2 c1
    refine zJ.aload_n 0 dX5_ticks_34 rfl rfl ?_
    refine zG.callVv [] [] (ob_23 o) ok_23 rfl dX5_ticks_35 ⟨(cb_X5_goesBy).1, (cb_X5_goesBy).2, (Nat.le_of_ble_eq_true rfl), (Nat.le_of_ble_eq_true rfl)⟩ ml_X5_188 ci_X5_goesBy cv_X5_goesBy rfl (Nat.le_of_ble_eq_true rfl) (Nat.le_of_ble_eq_true rfl) rfl h (fun S4 h2 => ?_)
    replace h := h2
    clear h2
    refine zJ.iinc (k := 3) (lv' := [(3, .int (x3 + 1)), (0, .ref (z_adr o (23, 0, 0))), (1, .int x1), (2, .int x2)]) dX5_ticks_38 rfl rfl (Nat.le_of_ble_eq_true rfl) rfl ?_
    refine zJ.goto (tgt := 29) dX5_ticks_41 (by decide) ?_
    exact zJ.sub [1, 2, 3, 0] rfl h
set_option maxRecDepth 100000 in
set_option maxHeartbeats 4000000 in
theorem w_X5_draw_0 (o : zW) (x1 : Int32) (x2 : Int32) (S : zS) (Q : Option Value → zS → Prop) (h : zGi o 994 mdX5_in [.int x1, .int 0, .int (999999 : Int32)] S (fun r2 S3 => (r2 = 0 → (zGi o 994 mdX5_bad [.ref (z_adr o (23, 0, 0))] S3 (fun r6 S7 => Q (some (.int r6)) S7))) ∧ (¬ r2 = 0 → (zGi o 994 mdX5_in [.int x2, .int 1, .int 40] S3 (fun r9 S10 => (¬ r9 = 0 → (zGv o 994 mdX5_leavesState [.ref (z_adr o (23, 0, 0))] S10 (fun S14 => zG o 994 mdX5_draw 44 [(0, .ref (z_adr o (23, 0, 0))), (2, .int x2), (3, .int (S14.1 (40, 0, 0) 9)), (4, .long x1.toInt64), (6, .int 0)] [] S14 Q))) ∧ (r9 = 0 → (zGi o 994 mdX5_bad [.ref (z_adr o (23, 0, 0))] S10 (fun r16 S17 => Q (some (.int r16)) S17)))))))) : zG o 994 mdX5_draw 0 [(0, .ref (z_adr o (23, 0, 0))), (1, .int x1), (2, .int x2)] [] S Q := by
  show zJ o mdX5_draw 0 _ [] (994, z_enc o S) 0 0 _
  refine zJ.iload_n 1 dX5_draw_0 rfl rfl ?_
  refine zJ.iconst (v := 0) dX5_draw_1 (by decide) ?_
  refine zJ.ldc lc_X5_207 dX5_draw_2 ?_
  refine zG.callSi [.int x1, .int 0, .int (999999 : Int32)] [] dX5_draw_4 ⟨(cb_X5_in).1, (cb_X5_in).2, (Nat.le_of_ble_eq_true rfl), (Nat.le_of_ble_eq_true rfl)⟩ ml_X5_101 cs_X5_in rfl (Nat.le_of_ble_eq_true rfl) (Nat.le_of_ble_eq_true rfl) rfl h (fun r2 S3 h2 => ?_)
  replace h := h2
  clear h2
  refine zJ.if_eq (tgt := 20) dX5_draw_7 (by decide) (fun c4 => ?_) (fun c4 => ?_)
  · replace h := h.1 c4
    refine zJ.aload_n 0 dX5_draw_20 rfl rfl ?_
    refine zG.callVi [] [] (ob_23 o) ok_23 rfl dX5_draw_21 ⟨(cb_X5_bad).1, (cb_X5_bad).2, (Nat.le_of_ble_eq_true rfl), (Nat.le_of_ble_eq_true rfl)⟩ ml_X5_130 ci_X5_bad cv_X5_bad rfl (Nat.le_of_ble_eq_true rfl) (Nat.le_of_ble_eq_true rfl) rfl h (fun r6 S7 h2 => ?_)
    replace h := h2
    clear h2
    exact zG.ret (r := some (.int r6)) ⟨dX5_draw_24, _, rfl, rfl⟩ h
  · replace h := h.2 c4
    refine zJ.iload_n 2 dX5_draw_10 rfl rfl ?_
    refine zJ.iconst (v := 1) dX5_draw_11 (by decide) ?_
    refine zJ.bipush (v := 40) dX5_draw_12 (by decide) ?_
    refine zG.callSi [.int x2, .int 1, .int 40] [] dX5_draw_14 ⟨(cb_X5_in).1, (cb_X5_in).2, (Nat.le_of_ble_eq_true rfl), (Nat.le_of_ble_eq_true rfl)⟩ ml_X5_101 cs_X5_in rfl (Nat.le_of_ble_eq_true rfl) (Nat.le_of_ble_eq_true rfl) rfl h (fun r9 S10 h2 => ?_)
    replace h := h2
    clear h2
    refine zJ.if_ne (tgt := 25) dX5_draw_17 (by decide) (fun c11 => ?_) (fun c11 => ?_)
    · replace h := h.1 c11
      refine zJ.aload_n 0 dX5_draw_25 rfl rfl ?_
      refine zG.callVv [] [] (ob_23 o) ok_23 rfl dX5_draw_26 ⟨(cb_X5_leavesState).1, (cb_X5_leavesState).2, (Nat.le_of_ble_eq_true rfl), (Nat.le_of_ble_eq_true rfl)⟩ ml_X5_134 ci_X5_leavesState cv_X5_leavesState rfl (Nat.le_of_ble_eq_true rfl) (Nat.le_of_ble_eq_true rfl) rfl h (fun S14 h2 => ?_)
      replace h := h2
      clear h2
      refine zJ.aload_n 0 dX5_draw_29 rfl rfl ?_
      refine zE.getV (fd_23_16 o) ok_23 kiX5 (Nat.le_of_ble_eq_true rfl) fl_X5_58 dX5_draw_30 ?_
      refine zJ.bipush (v := 9) dX5_draw_33 (by decide) ?_
      refine zE.aldI (ia_40 o) ok_40 (by unfold vp_in; decide) dX5_draw_35 ?_
      refine zJ.istore_n (lv' := [(3, .int (S14.1 (40, 0, 0) 9)), (0, .ref (z_adr o (23, 0, 0))), (1, .int x1), (2, .int x2)]) dX5_draw_36 rfl (Nat.le_of_ble_eq_true rfl) rfl ?_
      refine zJ.iload_n 2 dX5_draw_37 rfl rfl ?_
      refine zJ.i2l dX5_draw_38 ?_
      refine zJ.lstore (lv' := [(4, .long x1.toInt64), (3, .int (S14.1 (40, 0, 0) 9)), (0, .ref (z_adr o (23, 0, 0))), (1, .int x1), (2, .int x2)]) dX5_draw_39 (Nat.le_of_ble_eq_true rfl) rfl ?_
      refine zJ.iconst (v := 0) dX5_draw_41 (by decide) ?_
      refine zJ.istore (lv' := [(6, .int 0), (4, .long x1.toInt64), (3, .int (S14.1 (40, 0, 0) 9)), (0, .ref (z_adr o (23, 0, 0))), (1, .int x1), (2, .int x2)]) dX5_draw_42 (Nat.le_of_ble_eq_true rfl) rfl ?_
      exact zJ.sub [3, 5, 2, 1, 0] rfl h
    · replace h := h.2 c11
      refine zJ.aload_n 0 dX5_draw_20 rfl rfl ?_
      refine zG.callVi [] [] (ob_23 o) ok_23 rfl dX5_draw_21 ⟨(cb_X5_bad).1, (cb_X5_bad).2, (Nat.le_of_ble_eq_true rfl), (Nat.le_of_ble_eq_true rfl)⟩ ml_X5_130 ci_X5_bad cv_X5_bad rfl (Nat.le_of_ble_eq_true rfl) (Nat.le_of_ble_eq_true rfl) rfl h (fun r16 S17 h2 => ?_)
      replace h := h2
      clear h2
      exact zG.ret (r := some (.int r16)) ⟨dX5_draw_24, _, rfl, rfl⟩ h
set_option maxRecDepth 100000 in
set_option maxHeartbeats 4000000 in
theorem w_X5_draw_44 (o : zW) (x2 : Int32) (x3 : Int32) (x4 : Int64) (x6 : Int32) (S : zS) (Q : Option Value → zS → Prop) (h : (x2 ≤ x6 → (Q (some (.int ((S.1 (40, 0, 0) 9) - x3))) S)) ∧ (¬ x2 ≤ x6 → (∀ y2 : Int32, y2 = (z_lcmp (((((x4 * (1103515245 : Int64)) + (12345 : Int64)) - ((x4 * (1103515245 : Int64)) + (12345 : Int64)) / (2147483648 : Int64) * (2147483648 : Int64)) / (32768 : Int64)) - ((((x4 * (1103515245 : Int64)) + (12345 : Int64)) - ((x4 * (1103515245 : Int64)) + (12345 : Int64)) / (2147483648 : Int64) * (2147483648 : Int64)) / (32768 : Int64)) / (3 : Int64) * (3 : Int64)) 0) → ((¬ y2 = 0 → (∀ y4 : Int32, y4 = ((((((x4 * (1103515245 : Int64)) + (12345 : Int64)) - ((x4 * (1103515245 : Int64)) + (12345 : Int64)) / (2147483648 : Int64) * (2147483648 : Int64)) / (65536 : Int64)) - ((((x4 * (1103515245 : Int64)) + (12345 : Int64)) - ((x4 * (1103515245 : Int64)) + (12345 : Int64)) / (2147483648 : Int64) * (2147483648 : Int64)) / (65536 : Int64)) / (16 : Int64) * (16 : Int64)).toInt32) → (∀ y5 : Int32, y5 = ((((((x4 * (1103515245 : Int64)) + (12345 : Int64)) - ((x4 * (1103515245 : Int64)) + (12345 : Int64)) / (2147483648 : Int64) * (2147483648 : Int64)) / (1024 : Int64)) - ((((x4 * (1103515245 : Int64)) + (12345 : Int64)) - ((x4 * (1103515245 : Int64)) + (12345 : Int64)) / (2147483648 : Int64) * (2147483648 : Int64)) / (1024 : Int64)) / (4 : Int64) * (4 : Int64)).toInt32) → (∀ y6 : Int32, y6 = ((((((x4 * (1103515245 : Int64)) + (12345 : Int64)) - ((x4 * (1103515245 : Int64)) + (12345 : Int64)) / (2147483648 : Int64) * (2147483648 : Int64)) / (2048 : Int64)) - ((((x4 * (1103515245 : Int64)) + (12345 : Int64)) - ((x4 * (1103515245 : Int64)) + (12345 : Int64)) / (2147483648 : Int64) * (2147483648 : Int64)) / (2048 : Int64)) / (100 : Int64) * (100 : Int64)).toInt32) → (zGi o 994 mdX5_done [.ref (z_adr o (23, 0, 0)), .int 0, .int y4, .int y5, .int y6] S (fun r8 S9 => zG o 994 mdX5_draw 44 [(0, .ref (z_adr o (23, 0, 0))), (2, .int x2), (3, .int x3), (4, .long (((x4 * (1103515245 : Int64)) + (12345 : Int64)) - ((x4 * (1103515245 : Int64)) + (12345 : Int64)) / (2147483648 : Int64) * (2147483648 : Int64))), (6, .int (x6 + 1))] [] S9 Q)))))) ∧ (y2 = 0 → (∀ y10 : Int32, y10 = ((((((x4 * (1103515245 : Int64)) + (12345 : Int64)) - ((x4 * (1103515245 : Int64)) + (12345 : Int64)) / (2147483648 : Int64) * (2147483648 : Int64)) / (65536 : Int64)) - ((((x4 * (1103515245 : Int64)) + (12345 : Int64)) - ((x4 * (1103515245 : Int64)) + (12345 : Int64)) / (2147483648 : Int64) * (2147483648 : Int64)) / (65536 : Int64)) / (16 : Int64) * (16 : Int64)).toInt32) → (∀ y11 : Int32, y11 = ((((((x4 * (1103515245 : Int64)) + (12345 : Int64)) - ((x4 * (1103515245 : Int64)) + (12345 : Int64)) / (2147483648 : Int64) * (2147483648 : Int64)) / (1024 : Int64)) - ((((x4 * (1103515245 : Int64)) + (12345 : Int64)) - ((x4 * (1103515245 : Int64)) + (12345 : Int64)) / (2147483648 : Int64) * (2147483648 : Int64)) / (1024 : Int64)) / (4 : Int64) * (4 : Int64)).toInt32) → (∀ y12 : Int32, y12 = ((((((x4 * (1103515245 : Int64)) + (12345 : Int64)) - ((x4 * (1103515245 : Int64)) + (12345 : Int64)) / (2147483648 : Int64) * (2147483648 : Int64)) / (2048 : Int64)) - ((((x4 * (1103515245 : Int64)) + (12345 : Int64)) - ((x4 * (1103515245 : Int64)) + (12345 : Int64)) / (2147483648 : Int64) * (2147483648 : Int64)) / (2048 : Int64)) / (100 : Int64) * (100 : Int64)).toInt32) → (zGi o 994 mdX5_done [.ref (z_adr o (23, 0, 0)), .int 1, .int y10, .int y11, .int y12] S (fun r14 S15 => zG o 994 mdX5_draw 44 [(0, .ref (z_adr o (23, 0, 0))), (2, .int x2), (3, .int x3), (4, .long (((x4 * (1103515245 : Int64)) + (12345 : Int64)) - ((x4 * (1103515245 : Int64)) + (12345 : Int64)) / (2147483648 : Int64) * (2147483648 : Int64))), (6, .int (x6 + 1))] [] S15 Q)))))))))) : zG o 994 mdX5_draw 44 [(0, .ref (z_adr o (23, 0, 0))), (2, .int x2), (3, .int x3), (4, .long x4), (6, .int x6)] [] S Q := by
  show zJ o mdX5_draw 44 _ [] (994, z_enc o S) 0 0 _
  refine zJ.iload 4 dX5_draw_44 rfl ?_
  refine zJ.iload_n 1 dX5_draw_46 rfl rfl ?_
  refine zJ.icmp_ge (tgt := 134) dX5_draw_47 (by decide) (fun c1 => ?_) (fun c1 => ?_)
  · replace h := h.1 c1
    refine zJ.aload_n 0 dX5_draw_134 rfl rfl ?_
    refine zE.getV (fd_23_16 o) ok_23 kiX5 (Nat.le_of_ble_eq_true rfl) fl_X5_58 dX5_draw_135 ?_
    refine zJ.bipush (v := 9) dX5_draw_138 (by decide) ?_
    refine zE.aldI (ia_40 o) ok_40 (by unfold vp_in; decide) dX5_draw_140 ?_
    refine zJ.iload_n 2 dX5_draw_141 rfl rfl ?_
    refine zJ.isub dX5_draw_142 ?_
    exact zG.ret (r := some (.int ((S.1 (40, 0, 0) 9) - x3))) ⟨dX5_draw_143, _, rfl, rfl⟩ h
  · replace h := h.2 c1
    refine zJ.lload 3 dX5_draw_50 rfl ?_
    refine zJ.ldc2 lc_X5_208 dX5_draw_52 ?_
    refine zJ.lmul dX5_draw_55 ?_
    refine zJ.ldc2 lc_X5_210 dX5_draw_56 ?_
    refine zJ.ladd dX5_draw_59 ?_
    refine zJ.ldc2 lc_X5_212 dX5_draw_60 ?_
    refine zJ.lrem dX5_draw_63 (by decide) ?_
    refine zJ.lstore (lv' := [(4, .long (((x4 * (1103515245 : Int64)) + (12345 : Int64)) - ((x4 * (1103515245 : Int64)) + (12345 : Int64)) / (2147483648 : Int64) * (2147483648 : Int64))), (0, .ref (z_adr o (23, 0, 0))), (2, .int x2), (3, .int x3), (6, .int x6)]) dX5_draw_64 (Nat.le_of_ble_eq_true rfl) rfl ?_
    refine zJ.lload 0 dX5_draw_66 rfl ?_
    refine zJ.ldc2 lc_X5_214 dX5_draw_68 ?_
    refine zJ.ldiv dX5_draw_71 (by decide) ?_
    refine zJ.ldc2 lc_X5_216 dX5_draw_72 ?_
    refine zJ.lrem dX5_draw_75 (by decide) ?_
    refine zJ.lconst (v := 0) dX5_draw_76 (by decide) ?_
    refine zJ.lcmp dX5_draw_77 ?_
    refine zJ.topi (fun y2 hyy2 => ?_)
    replace h := h y2 hyy2
    refine zJ.if_ne (tgt := 85) dX5_draw_78 (by decide) (fun c3 => ?_) (fun c3 => ?_)
    · replace h := h.1 c3
      refine zJ.iconst (v := 0) dX5_draw_85 (by decide) ?_
      refine zJ.istore (lv' := [(7, .int 0), (4, .long (((x4 * (1103515245 : Int64)) + (12345 : Int64)) - ((x4 * (1103515245 : Int64)) + (12345 : Int64)) / (2147483648 : Int64) * (2147483648 : Int64))), (0, .ref (z_adr o (23, 0, 0))), (2, .int x2), (3, .int x3), (6, .int x6)]) dX5_draw_86 (Nat.le_of_ble_eq_true rfl) rfl ?_
      refine zJ.aload_n 2 dX5_draw_88 rfl rfl ?_
      refine zJ.iload 0 dX5_draw_89 rfl ?_
      refine zJ.lload 1 dX5_draw_91 rfl ?_
      refine zJ.ldc2 lc_X5_218 dX5_draw_93 ?_
      refine zJ.ldiv dX5_draw_96 (by decide) ?_
      refine zJ.ldc2 lc_X5_220 dX5_draw_97 ?_
      refine zJ.lrem dX5_draw_100 (by decide) ?_
      refine zJ.l2i dX5_draw_101 ?_
      refine zJ.topi (fun y4 hyy4 => ?_)
      replace h := h y4 hyy4
      refine zJ.lload 1 dX5_draw_102 rfl ?_
      refine zJ.ldc2 lc_X5_222 dX5_draw_104 ?_
      refine zJ.ldiv dX5_draw_107 (by decide) ?_
      refine zJ.ldc2 lc_X5_224 dX5_draw_108 ?_
      refine zJ.lrem dX5_draw_111 (by decide) ?_
      refine zJ.l2i dX5_draw_112 ?_
      refine zJ.topi (fun y5 hyy5 => ?_)
      replace h := h y5 hyy5
      refine zJ.lload 1 dX5_draw_113 rfl ?_
      refine zJ.ldc2 lc_X5_226 dX5_draw_115 ?_
      refine zJ.ldiv dX5_draw_118 (by decide) ?_
      refine zJ.ldc2 lc_X5_228 dX5_draw_119 ?_
      refine zJ.lrem dX5_draw_122 (by decide) ?_
      refine zJ.l2i dX5_draw_123 ?_
      refine zJ.topi (fun y6 hyy6 => ?_)
      replace h := h y6 hyy6
      refine zG.callVi [.int 0, .int y4, .int y5, .int y6] [] (ob_23 o) ok_23 rfl dX5_draw_124 ⟨(cb_X5_done).1, (cb_X5_done).2, (Nat.le_of_ble_eq_true rfl), (Nat.le_of_ble_eq_true rfl)⟩ ml_X5_203 ci_X5_done cv_X5_done rfl (Nat.le_of_ble_eq_true rfl) (Nat.le_of_ble_eq_true rfl) rfl h (fun r8 S9 h2 => ?_)
      replace h := h2
      clear h2
      refine zJ.pop dX5_draw_127 rfl ?_
      refine zJ.iinc (k := 5) (lv' := [(6, .int (x6 + 1)), (7, .int 0), (4, .long (((x4 * (1103515245 : Int64)) + (12345 : Int64)) - ((x4 * (1103515245 : Int64)) + (12345 : Int64)) / (2147483648 : Int64) * (2147483648 : Int64))), (0, .ref (z_adr o (23, 0, 0))), (2, .int x2), (3, .int x3)]) dX5_draw_128 rfl rfl (Nat.le_of_ble_eq_true rfl) rfl ?_
      refine zJ.goto (tgt := 44) dX5_draw_131 (by decide) ?_
      exact zJ.sub [3, 4, 5, 2, 0] rfl h
    · replace h := h.2 c3
      refine zJ.iconst (v := 1) dX5_draw_81 (by decide) ?_
      refine zJ.goto (tgt := 86) dX5_draw_82 (by decide) ?_
      refine zJ.istore (lv' := [(7, .int 1), (4, .long (((x4 * (1103515245 : Int64)) + (12345 : Int64)) - ((x4 * (1103515245 : Int64)) + (12345 : Int64)) / (2147483648 : Int64) * (2147483648 : Int64))), (0, .ref (z_adr o (23, 0, 0))), (2, .int x2), (3, .int x3), (6, .int x6)]) dX5_draw_86 (Nat.le_of_ble_eq_true rfl) rfl ?_
      refine zJ.aload_n 2 dX5_draw_88 rfl rfl ?_
      refine zJ.iload 0 dX5_draw_89 rfl ?_
      refine zJ.lload 1 dX5_draw_91 rfl ?_
      refine zJ.ldc2 lc_X5_218 dX5_draw_93 ?_
      refine zJ.ldiv dX5_draw_96 (by decide) ?_
      refine zJ.ldc2 lc_X5_220 dX5_draw_97 ?_
      refine zJ.lrem dX5_draw_100 (by decide) ?_
      refine zJ.l2i dX5_draw_101 ?_
      refine zJ.topi (fun y10 hyy10 => ?_)
      replace h := h y10 hyy10
      refine zJ.lload 1 dX5_draw_102 rfl ?_
      refine zJ.ldc2 lc_X5_222 dX5_draw_104 ?_
      refine zJ.ldiv dX5_draw_107 (by decide) ?_
      refine zJ.ldc2 lc_X5_224 dX5_draw_108 ?_
      refine zJ.lrem dX5_draw_111 (by decide) ?_
      refine zJ.l2i dX5_draw_112 ?_
      refine zJ.topi (fun y11 hyy11 => ?_)
      replace h := h y11 hyy11
      refine zJ.lload 1 dX5_draw_113 rfl ?_
      refine zJ.ldc2 lc_X5_226 dX5_draw_115 ?_
      refine zJ.ldiv dX5_draw_118 (by decide) ?_
      refine zJ.ldc2 lc_X5_228 dX5_draw_119 ?_
      refine zJ.lrem dX5_draw_122 (by decide) ?_
      refine zJ.l2i dX5_draw_123 ?_
      refine zJ.topi (fun y12 hyy12 => ?_)
      replace h := h y12 hyy12
      refine zG.callVi [.int 1, .int y10, .int y11, .int y12] [] (ob_23 o) ok_23 rfl dX5_draw_124 ⟨(cb_X5_done).1, (cb_X5_done).2, (Nat.le_of_ble_eq_true rfl), (Nat.le_of_ble_eq_true rfl)⟩ ml_X5_203 ci_X5_done cv_X5_done rfl (Nat.le_of_ble_eq_true rfl) (Nat.le_of_ble_eq_true rfl) rfl h (fun r14 S15 h2 => ?_)
      replace h := h2
      clear h2
      refine zJ.pop dX5_draw_127 rfl ?_
      refine zJ.iinc (k := 5) (lv' := [(6, .int (x6 + 1)), (7, .int 1), (4, .long (((x4 * (1103515245 : Int64)) + (12345 : Int64)) - ((x4 * (1103515245 : Int64)) + (12345 : Int64)) / (2147483648 : Int64) * (2147483648 : Int64))), (0, .ref (z_adr o (23, 0, 0))), (2, .int x2), (3, .int x3)]) dX5_draw_128 rfl rfl (Nat.le_of_ble_eq_true rfl) rfl ?_
      refine zJ.goto (tgt := 44) dX5_draw_131 (by decide) ?_
      exact zJ.sub [3, 4, 5, 2, 0] rfl h
set_option maxRecDepth 100000 in
set_option maxHeartbeats 4000000 in
theorem w_X5_got_0 (o : zW) (x1 : Int32) (x2 : Int32) (S : zS) (Q : Option Value → zS → Prop) (h : (x1 < 0 → (zGi o 994 mdX5_bad [.ref (z_adr o (23, 0, 0))] S (fun r3 S4 => Q (some (.int r3)) S4))) ∧ (¬ x1 < 0 → (zGi o 994 mdX5_in [.int x2, .int 0, .int 2] S (fun r6 S7 => (¬ r6 = 0 → (((S7.1 (40, 0, 0) 7) ≤ x1 → (Q (some (.int (-1))) S7)) ∧ (¬ (S7.1 (40, 0, 0) 7) ≤ x1 → ((x1 < 200 → ((¬ x2 = 0 → ((¬ x2 = 1 → (vp_in x1 200 ∧ (Q (some (.int (S7.1 (43, 0, 0) x1.toNatClampNeg))) S7))) ∧ (x2 = 1 → (vp_in x1 200 ∧ (Q (some (.int (S7.1 (42, 0, 0) x1.toNatClampNeg))) S7))))) ∧ (x2 = 0 → (vp_in x1 200 ∧ (Q (some (.int (S7.1 (41, 0, 0) x1.toNatClampNeg))) S7))))) ∧ (¬ x1 < 200 → (Q (some (.int (-1))) S7)))))) ∧ (r6 = 0 → (zGi o 994 mdX5_bad [.ref (z_adr o (23, 0, 0))] S7 (fun r14 S15 => Q (some (.int r14)) S15))))))) : zG o 994 mdX5_got 0 [(0, .ref (z_adr o (23, 0, 0))), (1, .int x1), (2, .int x2)] [] S Q := by
  show zJ o mdX5_got 0 _ [] (994, z_enc o S) 0 0 _
  refine zJ.iload_n 1 dX5_got_0 rfl rfl ?_
  refine zJ.if_lt (tgt := 13) dX5_got_1 (by decide) (fun c1 => ?_) (fun c1 => ?_)
  · replace h := h.1 c1
    refine zJ.aload_n 0 dX5_got_13 rfl rfl ?_
    refine zG.callVi [] [] (ob_23 o) ok_23 rfl dX5_got_14 ⟨(cb_X5_bad).1, (cb_X5_bad).2, (Nat.le_of_ble_eq_true rfl), (Nat.le_of_ble_eq_true rfl)⟩ ml_X5_130 ci_X5_bad cv_X5_bad rfl (Nat.le_of_ble_eq_true rfl) (Nat.le_of_ble_eq_true rfl) rfl h (fun r3 S4 h2 => ?_)
    replace h := h2
    clear h2
    exact zG.ret (r := some (.int r3)) ⟨dX5_got_17, _, rfl, rfl⟩ h
  · replace h := h.2 c1
    refine zJ.iload_n 2 dX5_got_4 rfl rfl ?_
    refine zJ.iconst (v := 0) dX5_got_5 (by decide) ?_
    refine zJ.iconst (v := 2) dX5_got_6 (by decide) ?_
    refine zG.callSi [.int x2, .int 0, .int 2] [] dX5_got_7 ⟨(cb_X5_in).1, (cb_X5_in).2, (Nat.le_of_ble_eq_true rfl), (Nat.le_of_ble_eq_true rfl)⟩ ml_X5_101 cs_X5_in rfl (Nat.le_of_ble_eq_true rfl) (Nat.le_of_ble_eq_true rfl) rfl h (fun r6 S7 h2 => ?_)
    replace h := h2
    clear h2
    refine zJ.if_ne (tgt := 18) dX5_got_10 (by decide) (fun c8 => ?_) (fun c8 => ?_)
    · replace h := h.1 c8
      refine zJ.iload_n 1 dX5_got_18 rfl rfl ?_
      refine zJ.aload_n 0 dX5_got_19 rfl rfl ?_
      refine zE.getV (fd_23_16 o) ok_23 kiX5 (Nat.le_of_ble_eq_true rfl) fl_X5_58 dX5_got_20 ?_
      refine zJ.bipush (v := 7) dX5_got_23 (by decide) ?_
      refine zE.aldI (ia_40 o) ok_40 (by unfold vp_in; decide) dX5_got_25 ?_
      refine zJ.icmp_ge (tgt := 36) dX5_got_26 (by decide) (fun c9 => ?_) (fun c9 => ?_)
      · replace h := h.1 c9
        refine zJ.iconst (v := (-1)) dX5_got_36 (by decide) ?_
        exact zG.ret (r := some (.int (-1))) ⟨dX5_got_37, _, rfl, rfl⟩ h
      · replace h := h.2 c9
        refine zJ.iload_n 1 dX5_got_29 rfl rfl ?_
        refine zJ.sipush (v := 200) dX5_got_30 (by decide) ?_
        refine zJ.icmp_lt (tgt := 38) dX5_got_33 (by decide) (fun c10 => ?_) (fun c10 => ?_)
        · replace h := h.1 c10
          refine zJ.iload_n 2 dX5_got_38 rfl rfl ?_
          refine zJ.if_ne (tgt := 51) dX5_got_39 (by decide) (fun c11 => ?_) (fun c11 => ?_)
          · replace h := h.1 c11
            refine zJ.iload_n 2 dX5_got_51 rfl rfl ?_
            refine zJ.iconst (v := 1) dX5_got_52 (by decide) ?_
            refine zJ.icmp_ne (tgt := 65) dX5_got_53 (by decide) (fun c12 => ?_) (fun c12 => ?_)
            · replace h := h.1 c12
              refine zJ.aload_n 0 dX5_got_65 rfl rfl ?_
              refine zE.getV (fd_23_19 o) ok_23 kiX5 (Nat.le_of_ble_eq_true rfl) fl_X5_67 dX5_got_66 ?_
              refine zJ.iload_n 1 dX5_got_69 rfl rfl ?_
              obtain ⟨hq, h⟩ := h
              refine zE.aldI (ia_43 o) ok_43 hq dX5_got_70 ?_
              exact zG.ret (r := some (.int (S7.1 (43, 0, 0) x1.toNatClampNeg))) ⟨dX5_got_71, _, rfl, rfl⟩ h
            · replace h := h.2 c12
              refine zJ.aload_n 0 dX5_got_56 rfl rfl ?_
              refine zE.getV (fd_23_18 o) ok_23 kiX5 (Nat.le_of_ble_eq_true rfl) fl_X5_64 dX5_got_57 ?_
              refine zJ.iload_n 1 dX5_got_60 rfl rfl ?_
              obtain ⟨hq, h⟩ := h
              refine zE.aldI (ia_42 o) ok_42 hq dX5_got_61 ?_
              refine zJ.goto (tgt := 71) dX5_got_62 (by decide) ?_
              exact zG.ret (r := some (.int (S7.1 (42, 0, 0) x1.toNatClampNeg))) ⟨dX5_got_71, _, rfl, rfl⟩ h
          · replace h := h.2 c11
            refine zJ.aload_n 0 dX5_got_42 rfl rfl ?_
            refine zE.getV (fd_23_17 o) ok_23 kiX5 (Nat.le_of_ble_eq_true rfl) fl_X5_61 dX5_got_43 ?_
            refine zJ.iload_n 1 dX5_got_46 rfl rfl ?_
            obtain ⟨hq, h⟩ := h
            refine zE.aldI (ia_41 o) ok_41 hq dX5_got_47 ?_
            refine zJ.goto (tgt := 71) dX5_got_48 (by decide) ?_
            exact zG.ret (r := some (.int (S7.1 (41, 0, 0) x1.toNatClampNeg))) ⟨dX5_got_71, _, rfl, rfl⟩ h
        · replace h := h.2 c10
          refine zJ.iconst (v := (-1)) dX5_got_36 (by decide) ?_
          exact zG.ret (r := some (.int (-1))) ⟨dX5_got_37, _, rfl, rfl⟩ h
    · replace h := h.2 c8
      refine zJ.aload_n 0 dX5_got_13 rfl rfl ?_
      refine zG.callVi [] [] (ob_23 o) ok_23 rfl dX5_got_14 ⟨(cb_X5_bad).1, (cb_X5_bad).2, (Nat.le_of_ble_eq_true rfl), (Nat.le_of_ble_eq_true rfl)⟩ ml_X5_130 ci_X5_bad cv_X5_bad rfl (Nat.le_of_ble_eq_true rfl) (Nat.le_of_ble_eq_true rfl) rfl h (fun r14 S15 h2 => ?_)
      replace h := h2
      clear h2
      exact zG.ret (r := some (.int r14)) ⟨dX5_got_17, _, rfl, rfl⟩ h
set_option maxRecDepth 100000 in
set_option maxHeartbeats 4000000 in
theorem w_X5_often_0 (o : zW) (x1 : Int32) (S : zS) (Q : Option Value → zS → Prop) (h : zGi o 994 mdX5_in [.int x1, .int 0, .int 9] S (fun r2 S3 => (r2 = 0 → (zGi o 994 mdX5_bad [.ref (z_adr o (23, 0, 0))] S3 (fun r6 S7 => Q (some (.int r6)) S7))) ∧ (¬ r2 = 0 → (vp_in x1 10 ∧ (Q (some (.int (S3.1 (40, 0, 0) x1.toNatClampNeg))) S3))))) : zG o 994 mdX5_often 0 [(0, .ref (z_adr o (23, 0, 0))), (1, .int x1)] [] S Q := by
  show zJ o mdX5_often 0 _ [] (994, z_enc o S) 0 0 _
  refine zJ.iload_n 1 dX5_often_0 rfl rfl ?_
  refine zJ.iconst (v := 0) dX5_often_1 (by decide) ?_
  refine zJ.bipush (v := 9) dX5_often_2 (by decide) ?_
  refine zG.callSi [.int x1, .int 0, .int 9] [] dX5_often_4 ⟨(cb_X5_in).1, (cb_X5_in).2, (Nat.le_of_ble_eq_true rfl), (Nat.le_of_ble_eq_true rfl)⟩ ml_X5_101 cs_X5_in rfl (Nat.le_of_ble_eq_true rfl) (Nat.le_of_ble_eq_true rfl) rfl h (fun r2 S3 h2 => ?_)
  replace h := h2
  clear h2
  refine zJ.if_eq (tgt := 19) dX5_often_7 (by decide) (fun c4 => ?_) (fun c4 => ?_)
  · replace h := h.1 c4
    refine zJ.aload_n 0 dX5_often_19 rfl rfl ?_
    refine zG.callVi [] [] (ob_23 o) ok_23 rfl dX5_often_20 ⟨(cb_X5_bad).1, (cb_X5_bad).2, (Nat.le_of_ble_eq_true rfl), (Nat.le_of_ble_eq_true rfl)⟩ ml_X5_130 ci_X5_bad cv_X5_bad rfl (Nat.le_of_ble_eq_true rfl) (Nat.le_of_ble_eq_true rfl) rfl h (fun r6 S7 h2 => ?_)
    replace h := h2
    clear h2
    exact zG.ret (r := some (.int r6)) ⟨dX5_often_23, _, rfl, rfl⟩ h
  · replace h := h.2 c4
    refine zJ.aload_n 0 dX5_often_10 rfl rfl ?_
    refine zE.getV (fd_23_16 o) ok_23 kiX5 (Nat.le_of_ble_eq_true rfl) fl_X5_58 dX5_often_11 ?_
    refine zJ.iload_n 1 dX5_often_14 rfl rfl ?_
    obtain ⟨hq, h⟩ := h
    refine zE.aldI (ia_40 o) ok_40 hq dX5_often_15 ?_
    refine zJ.goto (tgt := 23) dX5_often_16 (by decide) ?_
    exact zG.ret (r := some (.int (S3.1 (40, 0, 0) x1.toNatClampNeg))) ⟨dX5_often_23, _, rfl, rfl⟩ h
set_option maxRecDepth 100000 in
set_option maxHeartbeats 4000000 in
theorem w_X5_where_0 (o : zW) (x1 : Int32) (S : zS) (Q : Option Value → zS → Prop) (h : zGi o 994 mdX5_isBox [.int x1] S (fun r2 S3 => (r2 = 0 → (zGi o 994 mdX5_bad [.ref (z_adr o (23, 0, 0))] S3 (fun r6 S7 => Q (some (.int r6)) S7))) ∧ (¬ r2 = 0 → (vp_in x1 16 ∧ (Q (some (.int (S3.1 (29, 0, 0) x1.toNatClampNeg))) S3))))) : zG o 994 mdX5_where 0 [(0, .ref (z_adr o (23, 0, 0))), (1, .int x1)] [] S Q := by
  show zJ o mdX5_where 0 _ [] (994, z_enc o S) 0 0 _
  refine zJ.iload_n 1 dX5_where_0 rfl rfl ?_
  refine zG.callSi [.int x1] [] dX5_where_1 ⟨(cb_X5_isBox).1, (cb_X5_isBox).2, (Nat.le_of_ble_eq_true rfl), (Nat.le_of_ble_eq_true rfl)⟩ ml_X5_196 cs_X5_isBox rfl (Nat.le_of_ble_eq_true rfl) (Nat.le_of_ble_eq_true rfl) rfl h (fun r2 S3 h2 => ?_)
  replace h := h2
  clear h2
  refine zJ.if_eq (tgt := 16) dX5_where_4 (by decide) (fun c4 => ?_) (fun c4 => ?_)
  · replace h := h.1 c4
    refine zJ.aload_n 0 dX5_where_16 rfl rfl ?_
    refine zG.callVi [] [] (ob_23 o) ok_23 rfl dX5_where_17 ⟨(cb_X5_bad).1, (cb_X5_bad).2, (Nat.le_of_ble_eq_true rfl), (Nat.le_of_ble_eq_true rfl)⟩ ml_X5_130 ci_X5_bad cv_X5_bad rfl (Nat.le_of_ble_eq_true rfl) (Nat.le_of_ble_eq_true rfl) rfl h (fun r6 S7 h2 => ?_)
    replace h := h2
    clear h2
    exact zG.ret (r := some (.int r6)) ⟨dX5_where_20, _, rfl, rfl⟩ h
  · replace h := h.2 c4
    refine zJ.aload_n 0 dX5_where_7 rfl rfl ?_
    refine zE.getV (fd_23_5 o) ok_23 kiX5 (Nat.le_of_ble_eq_true rfl) fl_X5_25 dX5_where_8 ?_
    refine zJ.iload_n 1 dX5_where_11 rfl rfl ?_
    obtain ⟨hq, h⟩ := h
    refine zE.aldI (ia_29 o) ok_29 hq dX5_where_12 ?_
    refine zJ.goto (tgt := 20) dX5_where_13 (by decide) ?_
    exact zG.ret (r := some (.int (S3.1 (29, 0, 0) x1.toNatClampNeg))) ⟨dX5_where_20, _, rfl, rfl⟩ h
set_option maxRecDepth 100000 in
set_option maxHeartbeats 4000000 in
theorem w_X5_atLast_0 (o : zW) (x1 : Int32) (x2 : Int32) (S : zS) (Q : Option Value → zS → Prop) (h : vp_in x1 16 ∧ (((S.1 (29, 0, 0) x1.toNatClampNeg) = 1 → (vp_in ((4 * x1) + x2) 64 ∧ (Q (some (.int (S.1 (27, 0, 0) (((4 * x1) + x2).toNatClampNeg)))) S))) ∧ (¬ (S.1 (29, 0, 0) x1.toNatClampNeg) = 1 → (vp_in x1 16 ∧ ((¬ (S.1 (29, 0, 0) x1.toNatClampNeg) = 2 → (vp_in ((4 * x1) + x2) 64 ∧ (zG o 994 mdX5_atLast 45 [(0, .ref (z_adr o (23, 0, 0))), (1, .int x1), (2, .int x2), (3, .int (S.1 (26, 0, 0) (((4 * x1) + x2).toNatClampNeg))), (4, .int 0)] [] S Q))) ∧ ((S.1 (29, 0, 0) x1.toNatClampNeg) = 2 → (vp_in ((4 * x1) + x2) 64 ∧ (Q (some (.int (S.1 (27, 0, 0) (((4 * x1) + x2).toNatClampNeg)))) S)))))))) : zG o 994 mdX5_atLast 0 [(0, .ref (z_adr o (23, 0, 0))), (1, .int x1), (2, .int x2)] [] S Q := by
  show zJ o mdX5_atLast 0 _ [] (994, z_enc o S) 0 0 _
  refine zJ.aload_n 0 dX5_atLast_0 rfl rfl ?_
  refine zE.getV (fd_23_5 o) ok_23 kiX5 (Nat.le_of_ble_eq_true rfl) fl_X5_25 dX5_atLast_1 ?_
  refine zJ.iload_n 1 dX5_atLast_4 rfl rfl ?_
  obtain ⟨hq, h⟩ := h
  refine zE.aldI (ia_29 o) ok_29 hq dX5_atLast_5 ?_
  refine zJ.iconst (v := 1) dX5_atLast_6 (by decide) ?_
  refine zJ.icmp_eq (tgt := 20) dX5_atLast_7 (by decide) (fun c1 => ?_) (fun c1 => ?_)
  · replace h := h.1 c1
    refine zJ.aload_n 0 dX5_atLast_20 rfl rfl ?_
    refine zE.getV (fd_23_3 o) ok_23 kiX5 (Nat.le_of_ble_eq_true rfl) fl_X5_19 dX5_atLast_21 ?_
    refine zJ.iconst (v := 4) dX5_atLast_24 (by decide) ?_
    refine zJ.iload_n 1 dX5_atLast_25 rfl rfl ?_
    refine zJ.imul dX5_atLast_26 ?_
    refine zJ.iload_n 2 dX5_atLast_27 rfl rfl ?_
    refine zJ.iadd dX5_atLast_28 ?_
    obtain ⟨hq, h⟩ := h
    refine zE.aldI (ia_27 o) ok_27 hq dX5_atLast_29 ?_
    exact zG.ret (r := some (.int (S.1 (27, 0, 0) (((4 * x1) + x2).toNatClampNeg)))) ⟨dX5_atLast_30, _, rfl, rfl⟩ h
  · replace h := h.2 c1
    refine zJ.aload_n 0 dX5_atLast_10 rfl rfl ?_
    refine zE.getV (fd_23_5 o) ok_23 kiX5 (Nat.le_of_ble_eq_true rfl) fl_X5_25 dX5_atLast_11 ?_
    refine zJ.iload_n 1 dX5_atLast_14 rfl rfl ?_
    obtain ⟨hq, h⟩ := h
    refine zE.aldI (ia_29 o) ok_29 hq dX5_atLast_15 ?_
    refine zJ.iconst (v := 2) dX5_atLast_16 (by decide) ?_
    refine zJ.icmp_ne (tgt := 31) dX5_atLast_17 (by decide) (fun c2 => ?_) (fun c2 => ?_)
    · replace h := h.1 c2
      refine zJ.aload_n 0 dX5_atLast_31 rfl rfl ?_
      refine zE.getV (fd_23_2 o) ok_23 kiX5 (Nat.le_of_ble_eq_true rfl) fl_X5_16 dX5_atLast_32 ?_
      refine zJ.iconst (v := 4) dX5_atLast_35 (by decide) ?_
      refine zJ.iload_n 1 dX5_atLast_36 rfl rfl ?_
      refine zJ.imul dX5_atLast_37 ?_
      refine zJ.iload_n 2 dX5_atLast_38 rfl rfl ?_
      refine zJ.iadd dX5_atLast_39 ?_
      obtain ⟨hq, h⟩ := h
      refine zE.aldI (ia_26 o) ok_26 hq dX5_atLast_40 ?_
      refine zJ.istore_n (lv' := [(3, .int (S.1 (26, 0, 0) (((4 * x1) + x2).toNatClampNeg))), (0, .ref (z_adr o (23, 0, 0))), (1, .int x1), (2, .int x2)]) dX5_atLast_41 rfl (Nat.le_of_ble_eq_true rfl) rfl ?_
      refine zJ.iconst (v := 0) dX5_atLast_42 (by decide) ?_
      refine zJ.istore (lv' := [(4, .int 0), (3, .int (S.1 (26, 0, 0) (((4 * x1) + x2).toNatClampNeg))), (0, .ref (z_adr o (23, 0, 0))), (1, .int x1), (2, .int x2)]) dX5_atLast_43 (Nat.le_of_ble_eq_true rfl) rfl ?_
      exact zJ.sub [2, 3, 4, 1, 0] rfl h
    · replace h := h.2 c2
      refine zJ.aload_n 0 dX5_atLast_20 rfl rfl ?_
      refine zE.getV (fd_23_3 o) ok_23 kiX5 (Nat.le_of_ble_eq_true rfl) fl_X5_19 dX5_atLast_21 ?_
      refine zJ.iconst (v := 4) dX5_atLast_24 (by decide) ?_
      refine zJ.iload_n 1 dX5_atLast_25 rfl rfl ?_
      refine zJ.imul dX5_atLast_26 ?_
      refine zJ.iload_n 2 dX5_atLast_27 rfl rfl ?_
      refine zJ.iadd dX5_atLast_28 ?_
      obtain ⟨hq, h⟩ := h
      refine zE.aldI (ia_27 o) ok_27 hq dX5_atLast_29 ?_
      exact zG.ret (r := some (.int (S.1 (27, 0, 0) (((4 * x1) + x2).toNatClampNeg)))) ⟨dX5_atLast_30, _, rfl, rfl⟩ h
set_option maxRecDepth 100000 in
set_option maxHeartbeats 4000000 in
theorem w_X5_atLast_45 (o : zW) (x1 : Int32) (x2 : Int32) (x3 : Int32) (x4 : Int32) (S : zS) (Q : Option Value → zS → Prop) (h : vp_in x1 16 ∧ (((S.1 (34, 0, 0) x1.toNatClampNeg) ≤ x4 → (Q (some (.int x3)) S)) ∧ (¬ (S.1 (34, 0, 0) x1.toNatClampNeg) ≤ x4 → (vp_in ((4 * x1) + x4) 64 ∧ ((¬ (S.1 (38, 0, 0) (((4 * x1) + x4).toNatClampNeg)) = (-1) → (zG o 994 mdX5_atLast 45 [(0, .ref (z_adr o (23, 0, 0))), (1, .int x1), (2, .int x2), (3, .int x3), (4, .int (x4 + 1))] [] S Q)) ∧ ((S.1 (38, 0, 0) (((4 * x1) + x4).toNatClampNeg)) = (-1) → (vp_in ((4 * x1) + x4) 64 ∧ ((¬ (S.1 (35, 0, 0) (((4 * x1) + x4).toNatClampNeg)) = x2 → (zG o 994 mdX5_atLast 45 [(0, .ref (z_adr o (23, 0, 0))), (1, .int x1), (2, .int x2), (3, .int x3), (4, .int (x4 + 1))] [] S Q)) ∧ ((S.1 (35, 0, 0) (((4 * x1) + x4).toNatClampNeg)) = x2 → (vp_in ((4 * x1) + x4) 64 ∧ (zG o 994 mdX5_atLast 45 [(0, .ref (z_adr o (23, 0, 0))), (1, .int x1), (2, .int x2), (3, .int (S.1 (36, 0, 0) (((4 * x1) + x4).toNatClampNeg))), (4, .int (x4 + 1))] [] S Q))))))))))) : zG o 994 mdX5_atLast 45 [(0, .ref (z_adr o (23, 0, 0))), (1, .int x1), (2, .int x2), (3, .int x3), (4, .int x4)] [] S Q := by
  show zJ o mdX5_atLast 45 _ [] (994, z_enc o S) 0 0 _
  refine zJ.iload 4 dX5_atLast_45 rfl ?_
  refine zJ.aload_n 0 dX5_atLast_47 rfl rfl ?_
  refine zE.getV (fd_23_10 o) ok_23 kiX5 (Nat.le_of_ble_eq_true rfl) fl_X5_40 dX5_atLast_48 ?_
  refine zJ.iload_n 1 dX5_atLast_51 rfl rfl ?_
  obtain ⟨hq, h⟩ := h
  refine zE.aldI (ia_34 o) ok_34 hq dX5_atLast_52 ?_
  refine zJ.icmp_ge (tgt := 104) dX5_atLast_53 (by decide) (fun c1 => ?_) (fun c1 => ?_)
  · replace h := h.1 c1
    refine zJ.iload_n 3 dX5_atLast_104 rfl rfl ?_
    exact zG.ret (r := some (.int x3)) ⟨dX5_atLast_105, _, rfl, rfl⟩ h
  · replace h := h.2 c1
    refine zJ.iconst (v := 4) dX5_atLast_56 (by decide) ?_
    refine zJ.iload_n 1 dX5_atLast_57 rfl rfl ?_
    refine zJ.imul dX5_atLast_58 ?_
    refine zJ.iload 4 dX5_atLast_59 rfl ?_
    refine zJ.iadd dX5_atLast_61 ?_
    refine zJ.istore (lv' := [(5, .int ((4 * x1) + x4)), (0, .ref (z_adr o (23, 0, 0))), (1, .int x1), (2, .int x2), (3, .int x3), (4, .int x4)]) dX5_atLast_62 (Nat.le_of_ble_eq_true rfl) rfl ?_
    refine zJ.aload_n 1 dX5_atLast_64 rfl rfl ?_
    refine zE.getV (fd_23_14 o) ok_23 kiX5 (Nat.le_of_ble_eq_true rfl) fl_X5_52 dX5_atLast_65 ?_
    refine zJ.iload 0 dX5_atLast_68 rfl ?_
    obtain ⟨hq, h⟩ := h
    refine zE.aldI (ia_38 o) ok_38 hq dX5_atLast_70 ?_
    refine zJ.iconst (v := (-1)) dX5_atLast_71 (by decide) ?_
    refine zJ.icmp_ne (tgt := 96) dX5_atLast_72 (by decide) (fun c2 => ?_) (fun c2 => ?_)
    · replace h := h.1 c2
      refine zJ.iload_n 4 dX5_atLast_96 rfl rfl ?_
      refine zJ.istore_n (lv' := [(3, .int x3), (5, .int ((4 * x1) + x4)), (0, .ref (z_adr o (23, 0, 0))), (1, .int x1), (2, .int x2), (4, .int x4)]) dX5_atLast_97 rfl (Nat.le_of_ble_eq_true rfl) rfl ?_
      refine zJ.iinc (k := 5) (lv' := [(4, .int (x4 + 1)), (3, .int x3), (5, .int ((4 * x1) + x4)), (0, .ref (z_adr o (23, 0, 0))), (1, .int x1), (2, .int x2)]) dX5_atLast_98 rfl rfl (Nat.le_of_ble_eq_true rfl) rfl ?_
      refine zJ.goto (tgt := 45) dX5_atLast_101 (by decide) ?_
      exact zJ.sub [3, 4, 5, 1, 0] rfl h
    · replace h := h.2 c2
      refine zJ.aload_n 1 dX5_atLast_75 rfl rfl ?_
      refine zE.getV (fd_23_11 o) ok_23 kiX5 (Nat.le_of_ble_eq_true rfl) fl_X5_43 dX5_atLast_76 ?_
      refine zJ.iload 0 dX5_atLast_79 rfl ?_
      obtain ⟨hq, h⟩ := h
      refine zE.aldI (ia_35 o) ok_35 hq dX5_atLast_81 ?_
      refine zJ.iload_n 3 dX5_atLast_82 rfl rfl ?_
      refine zJ.icmp_ne (tgt := 96) dX5_atLast_83 (by decide) (fun c3 => ?_) (fun c3 => ?_)
      · replace h := h.1 c3
        refine zJ.iload_n 4 dX5_atLast_96 rfl rfl ?_
        refine zJ.istore_n (lv' := [(3, .int x3), (5, .int ((4 * x1) + x4)), (0, .ref (z_adr o (23, 0, 0))), (1, .int x1), (2, .int x2), (4, .int x4)]) dX5_atLast_97 rfl (Nat.le_of_ble_eq_true rfl) rfl ?_
        refine zJ.iinc (k := 5) (lv' := [(4, .int (x4 + 1)), (3, .int x3), (5, .int ((4 * x1) + x4)), (0, .ref (z_adr o (23, 0, 0))), (1, .int x1), (2, .int x2)]) dX5_atLast_98 rfl rfl (Nat.le_of_ble_eq_true rfl) rfl ?_
        refine zJ.goto (tgt := 45) dX5_atLast_101 (by decide) ?_
        exact zJ.sub [3, 4, 5, 1, 0] rfl h
      · replace h := h.2 c3
        refine zJ.aload_n 1 dX5_atLast_86 rfl rfl ?_
        refine zE.getV (fd_23_12 o) ok_23 kiX5 (Nat.le_of_ble_eq_true rfl) fl_X5_46 dX5_atLast_87 ?_
        refine zJ.iload 0 dX5_atLast_90 rfl ?_
        obtain ⟨hq, h⟩ := h
        refine zE.aldI (ia_36 o) ok_36 hq dX5_atLast_92 ?_
        refine zJ.goto (tgt := 97) dX5_atLast_93 (by decide) ?_
        refine zJ.istore_n (lv' := [(3, .int (S.1 (36, 0, 0) (((4 * x1) + x4).toNatClampNeg))), (5, .int ((4 * x1) + x4)), (0, .ref (z_adr o (23, 0, 0))), (1, .int x1), (2, .int x2), (4, .int x4)]) dX5_atLast_97 rfl (Nat.le_of_ble_eq_true rfl) rfl ?_
        refine zJ.iinc (k := 5) (lv' := [(4, .int (x4 + 1)), (3, .int (S.1 (36, 0, 0) (((4 * x1) + x4).toNatClampNeg))), (5, .int ((4 * x1) + x4)), (0, .ref (z_adr o (23, 0, 0))), (1, .int x1), (2, .int x2)]) dX5_atLast_98 rfl rfl (Nat.le_of_ble_eq_true rfl) rfl ?_
        refine zJ.goto (tgt := 45) dX5_atLast_101 (by decide) ?_
        exact zJ.sub [3, 4, 5, 1, 0] rfl h
set_option maxRecDepth 100000 in
set_option maxHeartbeats 4000000 in
theorem w_X5_item_0 (o : zW) (x1 : Int32) (x2 : Int32) (x3 : Int32) (S : zS) (Q : Option Value → zS → Prop) (h : zGi o 994 mdX5_isBox [.int x1] S (fun r2 S3 => (r2 = 0 → (zGi o 994 mdX5_bad [.ref (z_adr o (23, 0, 0))] S3 (fun r6 S7 => Q (some (.int r6)) S7))) ∧ (¬ r2 = 0 → (zGi o 994 mdX5_isItem [.int x2] S3 (fun r9 S10 => (r9 = 0 → (zGi o 994 mdX5_bad [.ref (z_adr o (23, 0, 0))] S10 (fun r13 S14 => Q (some (.int r13)) S14))) ∧ (¬ r9 = 0 → (zGi o 994 mdX5_in [.int x3, .int 0, .int 2] S10 (fun r16 S17 => (¬ r16 = 0 → (vp_in x1 16 ∧ (((S17.1 (29, 0, 0) x1.toNatClampNeg) = 1 → ((¬ x3 = 0 → ((¬ x3 = 1 → (vp_in x1 16 ∧ (Q (some (.int (((S17.1 (28, 0, 0) x1.toNatClampNeg) >>> (x2 &&& 31)) &&& 1))) S17))) ∧ (x3 = 1 → (zGi o 994 mdX5_atLast [.ref (z_adr o (23, 0, 0)), .int x1, .int x2] S17 (fun r24 S25 => Q (some (.int r24)) S25))))) ∧ (x3 = 0 → (vp_in ((4 * x1) + x2) 64 ∧ (Q (some (.int (S17.1 (26, 0, 0) (((4 * x1) + x2).toNatClampNeg)))) S17))))) ∧ (¬ (S17.1 (29, 0, 0) x1.toNatClampNeg) = 1 → (vp_in x1 16 ∧ ((¬ (S17.1 (29, 0, 0) x1.toNatClampNeg) = 2 → ((¬ x3 = 0 → ((¬ x3 = 1 → (Q (some (.int 0)) S17)) ∧ (x3 = 1 → (zGi o 994 mdX5_atLast [.ref (z_adr o (23, 0, 0)), .int x1, .int x2] S17 (fun r31 S32 => Q (some (.int r31)) S32))))) ∧ (x3 = 0 → (vp_in ((4 * x1) + x2) 64 ∧ (Q (some (.int (S17.1 (26, 0, 0) (((4 * x1) + x2).toNatClampNeg)))) S17))))) ∧ ((S17.1 (29, 0, 0) x1.toNatClampNeg) = 2 → ((¬ x3 = 0 → ((¬ x3 = 1 → (vp_in x1 16 ∧ (Q (some (.int (((S17.1 (28, 0, 0) x1.toNatClampNeg) >>> (x2 &&& 31)) &&& 1))) S17))) ∧ (x3 = 1 → (zGi o 994 mdX5_atLast [.ref (z_adr o (23, 0, 0)), .int x1, .int x2] S17 (fun r37 S38 => Q (some (.int r37)) S38))))) ∧ (x3 = 0 → (vp_in ((4 * x1) + x2) 64 ∧ (Q (some (.int (S17.1 (26, 0, 0) (((4 * x1) + x2).toNatClampNeg)))) S17))))))))))) ∧ (r16 = 0 → (zGi o 994 mdX5_bad [.ref (z_adr o (23, 0, 0))] S17 (fun r40 S41 => Q (some (.int r40)) S41))))))))))) : zG o 994 mdX5_item 0 [(0, .ref (z_adr o (23, 0, 0))), (1, .int x1), (2, .int x2), (3, .int x3)] [] S Q := by
  show zJ o mdX5_item 0 _ [] (994, z_enc o S) 0 0 _
  refine zJ.iload_n 1 dX5_item_0 rfl rfl ?_
  refine zG.callSi [.int x1] [] dX5_item_1 ⟨(cb_X5_isBox).1, (cb_X5_isBox).2, (Nat.le_of_ble_eq_true rfl), (Nat.le_of_ble_eq_true rfl)⟩ ml_X5_196 cs_X5_isBox rfl (Nat.le_of_ble_eq_true rfl) (Nat.le_of_ble_eq_true rfl) rfl h (fun r2 S3 h2 => ?_)
  replace h := h2
  clear h2
  refine zJ.if_eq (tgt := 23) dX5_item_4 (by decide) (fun c4 => ?_) (fun c4 => ?_)
  · replace h := h.1 c4
    refine zJ.aload_n 0 dX5_item_23 rfl rfl ?_
    refine zG.callVi [] [] (ob_23 o) ok_23 rfl dX5_item_24 ⟨(cb_X5_bad).1, (cb_X5_bad).2, (Nat.le_of_ble_eq_true rfl), (Nat.le_of_ble_eq_true rfl)⟩ ml_X5_130 ci_X5_bad cv_X5_bad rfl (Nat.le_of_ble_eq_true rfl) (Nat.le_of_ble_eq_true rfl) rfl h (fun r6 S7 h2 => ?_)
    replace h := h2
    clear h2
    exact zG.ret (r := some (.int r6)) ⟨dX5_item_27, _, rfl, rfl⟩ h
  · replace h := h.2 c4
    refine zJ.iload_n 2 dX5_item_7 rfl rfl ?_
    refine zG.callSi [.int x2] [] dX5_item_8 ⟨(cb_X5_isItem).1, (cb_X5_isItem).2, (Nat.le_of_ble_eq_true rfl), (Nat.le_of_ble_eq_true rfl)⟩ ml_X5_200 cs_X5_isItem rfl (Nat.le_of_ble_eq_true rfl) (Nat.le_of_ble_eq_true rfl) rfl h (fun r9 S10 h2 => ?_)
    replace h := h2
    clear h2
    refine zJ.if_eq (tgt := 23) dX5_item_11 (by decide) (fun c11 => ?_) (fun c11 => ?_)
    · replace h := h.1 c11
      refine zJ.aload_n 0 dX5_item_23 rfl rfl ?_
      refine zG.callVi [] [] (ob_23 o) ok_23 rfl dX5_item_24 ⟨(cb_X5_bad).1, (cb_X5_bad).2, (Nat.le_of_ble_eq_true rfl), (Nat.le_of_ble_eq_true rfl)⟩ ml_X5_130 ci_X5_bad cv_X5_bad rfl (Nat.le_of_ble_eq_true rfl) (Nat.le_of_ble_eq_true rfl) rfl h (fun r13 S14 h2 => ?_)
      replace h := h2
      clear h2
      exact zG.ret (r := some (.int r13)) ⟨dX5_item_27, _, rfl, rfl⟩ h
    · replace h := h.2 c11
      refine zJ.iload_n 3 dX5_item_14 rfl rfl ?_
      refine zJ.iconst (v := 0) dX5_item_15 (by decide) ?_
      refine zJ.iconst (v := 2) dX5_item_16 (by decide) ?_
      refine zG.callSi [.int x3, .int 0, .int 2] [] dX5_item_17 ⟨(cb_X5_in).1, (cb_X5_in).2, (Nat.le_of_ble_eq_true rfl), (Nat.le_of_ble_eq_true rfl)⟩ ml_X5_101 cs_X5_in rfl (Nat.le_of_ble_eq_true rfl) (Nat.le_of_ble_eq_true rfl) rfl h (fun r16 S17 h2 => ?_)
      replace h := h2
      clear h2
      refine zJ.if_ne (tgt := 28) dX5_item_20 (by decide) (fun c18 => ?_) (fun c18 => ?_)
      · replace h := h.1 c18
        refine zJ.aload_n 0 dX5_item_28 rfl rfl ?_
        refine zE.getV (fd_23_5 o) ok_23 kiX5 (Nat.le_of_ble_eq_true rfl) fl_X5_25 dX5_item_29 ?_
        refine zJ.iload_n 1 dX5_item_32 rfl rfl ?_
        obtain ⟨hq, h⟩ := h
        refine zE.aldI (ia_29 o) ok_29 hq dX5_item_33 ?_
        refine zJ.iconst (v := 1) dX5_item_34 (by decide) ?_
        refine zJ.icmp_eq (tgt := 48) dX5_item_35 (by decide) (fun c19 => ?_) (fun c19 => ?_)
        · replace h := h.1 c19
          refine zJ.iconst (v := 1) dX5_item_48 (by decide) ?_
          refine zJ.goto (tgt := 53) dX5_item_49 (by decide) ?_
          refine zJ.istore (lv' := [(4, .int 1), (0, .ref (z_adr o (23, 0, 0))), (1, .int x1), (2, .int x2), (3, .int x3)]) dX5_item_53 (Nat.le_of_ble_eq_true rfl) rfl ?_
          refine zJ.iload_n 4 dX5_item_55 rfl rfl ?_
          refine zJ.if_ne (tgt := 72) dX5_item_56 (by decide) (fun c20 => ?_) (fun c20 => ?_)
          · replace h := h.1 c20
            refine zJ.iload_n 4 dX5_item_72 rfl rfl ?_
            refine zJ.iconst (v := 1) dX5_item_73 (by decide) ?_
            refine zJ.icmp_ne (tgt := 86) dX5_item_74 (by decide) (fun c21 => ?_) (fun c21 => ?_)
            · replace h := h.1 c21
              refine zJ.iload 0 dX5_item_86 rfl ?_
              refine zJ.if_eq (tgt := 104) dX5_item_88 (by decide) (fun c22 => absurd c22 (by decide)) (fun c22 => ?_)
              refine zJ.aload_n 1 dX5_item_91 rfl rfl ?_
              refine zE.getV (fd_23_4 o) ok_23 kiX5 (Nat.le_of_ble_eq_true rfl) fl_X5_22 dX5_item_92 ?_
              refine zJ.iload_n 2 dX5_item_95 rfl rfl ?_
              obtain ⟨hq, h⟩ := h
              refine zE.aldI (ia_28 o) ok_28 hq dX5_item_96 ?_
              refine zJ.iload_n 3 dX5_item_97 rfl rfl ?_
              refine zJ.ishr dX5_item_98 ?_
              refine zJ.iconst (v := 1) dX5_item_99 (by decide) ?_
              refine zJ.iand dX5_item_100 ?_
              refine zJ.goto (tgt := 105) dX5_item_101 (by decide) ?_
              exact zG.ret (r := some (.int (((S17.1 (28, 0, 0) x1.toNatClampNeg) >>> (x2 &&& 31)) &&& 1))) ⟨dX5_item_105, _, rfl, rfl⟩ h
            · replace h := h.2 c21
              refine zJ.aload_n 1 dX5_item_77 rfl rfl ?_
              refine zJ.iload_n 2 dX5_item_78 rfl rfl ?_
              refine zJ.iload_n 3 dX5_item_79 rfl rfl ?_
              refine zG.callVi [.int x1, .int x2] [] (ob_23 o) ok_23 rfl dX5_item_80 ⟨(cb_X5_atLast).1, (cb_X5_atLast).2, (Nat.le_of_ble_eq_true rfl), (Nat.le_of_ble_eq_true rfl)⟩ ml_X5_230 ci_X5_atLast cv_X5_atLast rfl (Nat.le_of_ble_eq_true rfl) (Nat.le_of_ble_eq_true rfl) rfl h (fun r24 S25 h2 => ?_)
              replace h := h2
              clear h2
              refine zJ.goto (tgt := 105) dX5_item_83 (by decide) ?_
              exact zG.ret (r := some (.int r24)) ⟨dX5_item_105, _, rfl, rfl⟩ h
          · replace h := h.2 c20
            refine zJ.aload_n 1 dX5_item_59 rfl rfl ?_
            refine zE.getV (fd_23_2 o) ok_23 kiX5 (Nat.le_of_ble_eq_true rfl) fl_X5_16 dX5_item_60 ?_
            refine zJ.iconst (v := 4) dX5_item_63 (by decide) ?_
            refine zJ.iload_n 2 dX5_item_64 rfl rfl ?_
            refine zJ.imul dX5_item_65 ?_
            refine zJ.iload_n 3 dX5_item_66 rfl rfl ?_
            refine zJ.iadd dX5_item_67 ?_
            obtain ⟨hq, h⟩ := h
            refine zE.aldI (ia_26 o) ok_26 hq dX5_item_68 ?_
            refine zJ.goto (tgt := 105) dX5_item_69 (by decide) ?_
            exact zG.ret (r := some (.int (S17.1 (26, 0, 0) (((4 * x1) + x2).toNatClampNeg)))) ⟨dX5_item_105, _, rfl, rfl⟩ h
        · replace h := h.2 c19
          refine zJ.aload_n 0 dX5_item_38 rfl rfl ?_
          refine zE.getV (fd_23_5 o) ok_23 kiX5 (Nat.le_of_ble_eq_true rfl) fl_X5_25 dX5_item_39 ?_
          refine zJ.iload_n 1 dX5_item_42 rfl rfl ?_
          obtain ⟨hq, h⟩ := h
          refine zE.aldI (ia_29 o) ok_29 hq dX5_item_43 ?_
          refine zJ.iconst (v := 2) dX5_item_44 (by decide) ?_
          refine zJ.icmp_ne (tgt := 52) dX5_item_45 (by decide) (fun c26 => ?_) (fun c26 => ?_)
          · replace h := h.1 c26
            refine zJ.iconst (v := 0) dX5_item_52 (by decide) ?_
            refine zJ.istore (lv' := [(4, .int 0), (0, .ref (z_adr o (23, 0, 0))), (1, .int x1), (2, .int x2), (3, .int x3)]) dX5_item_53 (Nat.le_of_ble_eq_true rfl) rfl ?_
            refine zJ.iload_n 4 dX5_item_55 rfl rfl ?_
            refine zJ.if_ne (tgt := 72) dX5_item_56 (by decide) (fun c27 => ?_) (fun c27 => ?_)
            · replace h := h.1 c27
              refine zJ.iload_n 4 dX5_item_72 rfl rfl ?_
              refine zJ.iconst (v := 1) dX5_item_73 (by decide) ?_
              refine zJ.icmp_ne (tgt := 86) dX5_item_74 (by decide) (fun c28 => ?_) (fun c28 => ?_)
              · replace h := h.1 c28
                refine zJ.iload 0 dX5_item_86 rfl ?_
                refine zJ.if_eq (tgt := 104) dX5_item_88 (by decide) (fun c29 => ?_) (fun c29 => absurd c29 (by decide))
                refine zJ.iconst (v := 0) dX5_item_104 (by decide) ?_
                exact zG.ret (r := some (.int 0)) ⟨dX5_item_105, _, rfl, rfl⟩ h
              · replace h := h.2 c28
                refine zJ.aload_n 1 dX5_item_77 rfl rfl ?_
                refine zJ.iload_n 2 dX5_item_78 rfl rfl ?_
                refine zJ.iload_n 3 dX5_item_79 rfl rfl ?_
                refine zG.callVi [.int x1, .int x2] [] (ob_23 o) ok_23 rfl dX5_item_80 ⟨(cb_X5_atLast).1, (cb_X5_atLast).2, (Nat.le_of_ble_eq_true rfl), (Nat.le_of_ble_eq_true rfl)⟩ ml_X5_230 ci_X5_atLast cv_X5_atLast rfl (Nat.le_of_ble_eq_true rfl) (Nat.le_of_ble_eq_true rfl) rfl h (fun r31 S32 h2 => ?_)
                replace h := h2
                clear h2
                refine zJ.goto (tgt := 105) dX5_item_83 (by decide) ?_
                exact zG.ret (r := some (.int r31)) ⟨dX5_item_105, _, rfl, rfl⟩ h
            · replace h := h.2 c27
              refine zJ.aload_n 1 dX5_item_59 rfl rfl ?_
              refine zE.getV (fd_23_2 o) ok_23 kiX5 (Nat.le_of_ble_eq_true rfl) fl_X5_16 dX5_item_60 ?_
              refine zJ.iconst (v := 4) dX5_item_63 (by decide) ?_
              refine zJ.iload_n 2 dX5_item_64 rfl rfl ?_
              refine zJ.imul dX5_item_65 ?_
              refine zJ.iload_n 3 dX5_item_66 rfl rfl ?_
              refine zJ.iadd dX5_item_67 ?_
              obtain ⟨hq, h⟩ := h
              refine zE.aldI (ia_26 o) ok_26 hq dX5_item_68 ?_
              refine zJ.goto (tgt := 105) dX5_item_69 (by decide) ?_
              exact zG.ret (r := some (.int (S17.1 (26, 0, 0) (((4 * x1) + x2).toNatClampNeg)))) ⟨dX5_item_105, _, rfl, rfl⟩ h
          · replace h := h.2 c26
            refine zJ.iconst (v := 1) dX5_item_48 (by decide) ?_
            refine zJ.goto (tgt := 53) dX5_item_49 (by decide) ?_
            refine zJ.istore (lv' := [(4, .int 1), (0, .ref (z_adr o (23, 0, 0))), (1, .int x1), (2, .int x2), (3, .int x3)]) dX5_item_53 (Nat.le_of_ble_eq_true rfl) rfl ?_
            refine zJ.iload_n 4 dX5_item_55 rfl rfl ?_
            refine zJ.if_ne (tgt := 72) dX5_item_56 (by decide) (fun c33 => ?_) (fun c33 => ?_)
            · replace h := h.1 c33
              refine zJ.iload_n 4 dX5_item_72 rfl rfl ?_
              refine zJ.iconst (v := 1) dX5_item_73 (by decide) ?_
              refine zJ.icmp_ne (tgt := 86) dX5_item_74 (by decide) (fun c34 => ?_) (fun c34 => ?_)
              · replace h := h.1 c34
                refine zJ.iload 0 dX5_item_86 rfl ?_
                refine zJ.if_eq (tgt := 104) dX5_item_88 (by decide) (fun c35 => absurd c35 (by decide)) (fun c35 => ?_)
                refine zJ.aload_n 1 dX5_item_91 rfl rfl ?_
                refine zE.getV (fd_23_4 o) ok_23 kiX5 (Nat.le_of_ble_eq_true rfl) fl_X5_22 dX5_item_92 ?_
                refine zJ.iload_n 2 dX5_item_95 rfl rfl ?_
                obtain ⟨hq, h⟩ := h
                refine zE.aldI (ia_28 o) ok_28 hq dX5_item_96 ?_
                refine zJ.iload_n 3 dX5_item_97 rfl rfl ?_
                refine zJ.ishr dX5_item_98 ?_
                refine zJ.iconst (v := 1) dX5_item_99 (by decide) ?_
                refine zJ.iand dX5_item_100 ?_
                refine zJ.goto (tgt := 105) dX5_item_101 (by decide) ?_
                exact zG.ret (r := some (.int (((S17.1 (28, 0, 0) x1.toNatClampNeg) >>> (x2 &&& 31)) &&& 1))) ⟨dX5_item_105, _, rfl, rfl⟩ h
              · replace h := h.2 c34
                refine zJ.aload_n 1 dX5_item_77 rfl rfl ?_
                refine zJ.iload_n 2 dX5_item_78 rfl rfl ?_
                refine zJ.iload_n 3 dX5_item_79 rfl rfl ?_
                refine zG.callVi [.int x1, .int x2] [] (ob_23 o) ok_23 rfl dX5_item_80 ⟨(cb_X5_atLast).1, (cb_X5_atLast).2, (Nat.le_of_ble_eq_true rfl), (Nat.le_of_ble_eq_true rfl)⟩ ml_X5_230 ci_X5_atLast cv_X5_atLast rfl (Nat.le_of_ble_eq_true rfl) (Nat.le_of_ble_eq_true rfl) rfl h (fun r37 S38 h2 => ?_)
                replace h := h2
                clear h2
                refine zJ.goto (tgt := 105) dX5_item_83 (by decide) ?_
                exact zG.ret (r := some (.int r37)) ⟨dX5_item_105, _, rfl, rfl⟩ h
            · replace h := h.2 c33
              refine zJ.aload_n 1 dX5_item_59 rfl rfl ?_
              refine zE.getV (fd_23_2 o) ok_23 kiX5 (Nat.le_of_ble_eq_true rfl) fl_X5_16 dX5_item_60 ?_
              refine zJ.iconst (v := 4) dX5_item_63 (by decide) ?_
              refine zJ.iload_n 2 dX5_item_64 rfl rfl ?_
              refine zJ.imul dX5_item_65 ?_
              refine zJ.iload_n 3 dX5_item_66 rfl rfl ?_
              refine zJ.iadd dX5_item_67 ?_
              obtain ⟨hq, h⟩ := h
              refine zE.aldI (ia_26 o) ok_26 hq dX5_item_68 ?_
              refine zJ.goto (tgt := 105) dX5_item_69 (by decide) ?_
              exact zG.ret (r := some (.int (S17.1 (26, 0, 0) (((4 * x1) + x2).toNatClampNeg)))) ⟨dX5_item_105, _, rfl, rfl⟩ h
      · replace h := h.2 c18
        refine zJ.aload_n 0 dX5_item_23 rfl rfl ?_
        refine zG.callVi [] [] (ob_23 o) ok_23 rfl dX5_item_24 ⟨(cb_X5_bad).1, (cb_X5_bad).2, (Nat.le_of_ble_eq_true rfl), (Nat.le_of_ble_eq_true rfl)⟩ ml_X5_130 ci_X5_bad cv_X5_bad rfl (Nat.le_of_ble_eq_true rfl) (Nat.le_of_ble_eq_true rfl) rfl h (fun r40 S41 h2 => ?_)
        replace h := h2
        clear h2
        exact zG.ret (r := some (.int r40)) ⟨dX5_item_27, _, rfl, rfl⟩ h
set_option maxRecDepth 100000 in
set_option maxHeartbeats 4000000 in
theorem w_X5_place_0 (o : zW) (x1 : Int32) (x2 : Int32) (S : zS) (Q : Option Value → zS → Prop) (h : zGi o 994 mdX5_in [.int x1, .int 0, .int 3] S (fun r2 S3 => (r2 = 0 → (zGi o 994 mdX5_bad [.ref (z_adr o (23, 0, 0))] S3 (fun r6 S7 => Q (some (.int r6)) S7))) ∧ (¬ r2 = 0 → (zGi o 994 mdX5_in [.int x2, .int 0, .int 2] S3 (fun r9 S10 => (¬ r9 = 0 → (vp_in x1 4 ∧ (((S10.1 (31, 0, 0) x1.toNatClampNeg) ≤ x2 → (Q (some (.int (-1))) S10)) ∧ (¬ (S10.1 (31, 0, 0) x1.toNatClampNeg) ≤ x2 → (vp_in ((3 * x1) + x2) 12 ∧ (Q (some (.int (S10.1 (32, 0, 0) (((3 * x1) + x2).toNatClampNeg)))) S10)))))) ∧ (r9 = 0 → (zGi o 994 mdX5_bad [.ref (z_adr o (23, 0, 0))] S10 (fun r14 S15 => Q (some (.int r14)) S15)))))))) : zG o 994 mdX5_place 0 [(0, .ref (z_adr o (23, 0, 0))), (1, .int x1), (2, .int x2)] [] S Q := by
  show zJ o mdX5_place 0 _ [] (994, z_enc o S) 0 0 _
  refine zJ.iload_n 1 dX5_place_0 rfl rfl ?_
  refine zJ.iconst (v := 0) dX5_place_1 (by decide) ?_
  refine zJ.iconst (v := 3) dX5_place_2 (by decide) ?_
  refine zG.callSi [.int x1, .int 0, .int 3] [] dX5_place_3 ⟨(cb_X5_in).1, (cb_X5_in).2, (Nat.le_of_ble_eq_true rfl), (Nat.le_of_ble_eq_true rfl)⟩ ml_X5_101 cs_X5_in rfl (Nat.le_of_ble_eq_true rfl) (Nat.le_of_ble_eq_true rfl) rfl h (fun r2 S3 h2 => ?_)
  replace h := h2
  clear h2
  refine zJ.if_eq (tgt := 18) dX5_place_6 (by decide) (fun c4 => ?_) (fun c4 => ?_)
  · replace h := h.1 c4
    refine zJ.aload_n 0 dX5_place_18 rfl rfl ?_
    refine zG.callVi [] [] (ob_23 o) ok_23 rfl dX5_place_19 ⟨(cb_X5_bad).1, (cb_X5_bad).2, (Nat.le_of_ble_eq_true rfl), (Nat.le_of_ble_eq_true rfl)⟩ ml_X5_130 ci_X5_bad cv_X5_bad rfl (Nat.le_of_ble_eq_true rfl) (Nat.le_of_ble_eq_true rfl) rfl h (fun r6 S7 h2 => ?_)
    replace h := h2
    clear h2
    exact zG.ret (r := some (.int r6)) ⟨dX5_place_22, _, rfl, rfl⟩ h
  · replace h := h.2 c4
    refine zJ.iload_n 2 dX5_place_9 rfl rfl ?_
    refine zJ.iconst (v := 0) dX5_place_10 (by decide) ?_
    refine zJ.iconst (v := 2) dX5_place_11 (by decide) ?_
    refine zG.callSi [.int x2, .int 0, .int 2] [] dX5_place_12 ⟨(cb_X5_in).1, (cb_X5_in).2, (Nat.le_of_ble_eq_true rfl), (Nat.le_of_ble_eq_true rfl)⟩ ml_X5_101 cs_X5_in rfl (Nat.le_of_ble_eq_true rfl) (Nat.le_of_ble_eq_true rfl) rfl h (fun r9 S10 h2 => ?_)
    replace h := h2
    clear h2
    refine zJ.if_ne (tgt := 23) dX5_place_15 (by decide) (fun c11 => ?_) (fun c11 => ?_)
    · replace h := h.1 c11
      refine zJ.iload_n 2 dX5_place_23 rfl rfl ?_
      refine zJ.aload_n 0 dX5_place_24 rfl rfl ?_
      refine zE.getV (fd_23_7 o) ok_23 kiX5 (Nat.le_of_ble_eq_true rfl) fl_X5_31 dX5_place_25 ?_
      refine zJ.iload_n 1 dX5_place_28 rfl rfl ?_
      obtain ⟨hq, h⟩ := h
      refine zE.aldI (ia_31 o) ok_31 hq dX5_place_29 ?_
      refine zJ.icmp_ge (tgt := 46) dX5_place_30 (by decide) (fun c12 => ?_) (fun c12 => ?_)
      · replace h := h.1 c12
        refine zJ.iconst (v := (-1)) dX5_place_46 (by decide) ?_
        exact zG.ret (r := some (.int (-1))) ⟨dX5_place_47, _, rfl, rfl⟩ h
      · replace h := h.2 c12
        refine zJ.aload_n 0 dX5_place_33 rfl rfl ?_
        refine zE.getV (fd_23_8 o) ok_23 kiX5 (Nat.le_of_ble_eq_true rfl) fl_X5_34 dX5_place_34 ?_
        refine zJ.iconst (v := 3) dX5_place_37 (by decide) ?_
        refine zJ.iload_n 1 dX5_place_38 rfl rfl ?_
        refine zJ.imul dX5_place_39 ?_
        refine zJ.iload_n 2 dX5_place_40 rfl rfl ?_
        refine zJ.iadd dX5_place_41 ?_
        obtain ⟨hq, h⟩ := h
        refine zE.aldI (ia_32 o) ok_32 hq dX5_place_42 ?_
        refine zJ.goto (tgt := 47) dX5_place_43 (by decide) ?_
        exact zG.ret (r := some (.int (S10.1 (32, 0, 0) (((3 * x1) + x2).toNatClampNeg)))) ⟨dX5_place_47, _, rfl, rfl⟩ h
    · replace h := h.2 c11
      refine zJ.aload_n 0 dX5_place_18 rfl rfl ?_
      refine zG.callVi [] [] (ob_23 o) ok_23 rfl dX5_place_19 ⟨(cb_X5_bad).1, (cb_X5_bad).2, (Nat.le_of_ble_eq_true rfl), (Nat.le_of_ble_eq_true rfl)⟩ ml_X5_130 ci_X5_bad cv_X5_bad rfl (Nat.le_of_ble_eq_true rfl) (Nat.le_of_ble_eq_true rfl) rfl h (fun r14 S15 h2 => ?_)
      replace h := h2
      clear h2
      exact zG.ret (r := some (.int r14)) ⟨dX5_place_22, _, rfl, rfl⟩ h
set_option maxRecDepth 100000 in
set_option maxHeartbeats 4000000 in
theorem w_X5_fetch_0 (o : zW) (x1 : Int32) (x2 : Int32) (S : zS) (Q : Option Value → zS → Prop) (h : (x1 < 0 → (zGi o 994 mdX5_bad [.ref (z_adr o (23, 0, 0))] S (fun r3 S4 => Q (some (.int r3)) S4))) ∧ (¬ x1 < 0 → (zGi o 994 mdX5_in [.int x2, .int 0, .int 2] S (fun r6 S7 => (¬ r6 = 0 → ((x1 < (S7.1 (39, 0, 0) 0) → (vp_in x1 4 ∧ ((¬ x2 = 0 → ((¬ x2 = 1 → (vp_in (S7.1 (33, 0, 0) x1.toNatClampNeg) 16 ∧ (∀ y12 : Int32, y12 = (S7.1 (34, 0, 0) ((S7.1 (33, 0, 0) x1.toNatClampNeg).toNatClampNeg)) → (Q (some (.int y12)) S7)))) ∧ (x2 = 1 → (vp_in (S7.1 (33, 0, 0) x1.toNatClampNeg) 16 ∧ (∀ y13 : Int32, y13 = (S7.1 (30, 0, 0) ((S7.1 (33, 0, 0) x1.toNatClampNeg).toNatClampNeg)) → (Q (some (.int (y13 - (S7.1 (40, 0, 0) 9)))) S7)))))) ∧ (x2 = 0 → (Q (some (.int (S7.1 (33, 0, 0) x1.toNatClampNeg))) S7))))) ∧ (¬ x1 < (S7.1 (39, 0, 0) 0) → (Q (some (.int (-1))) S7)))) ∧ (r6 = 0 → (zGi o 994 mdX5_bad [.ref (z_adr o (23, 0, 0))] S7 (fun r15 S16 => Q (some (.int r15)) S16))))))) : zG o 994 mdX5_fetch 0 [(0, .ref (z_adr o (23, 0, 0))), (1, .int x1), (2, .int x2)] [] S Q := by
  show zJ o mdX5_fetch 0 _ [] (994, z_enc o S) 0 0 _
  refine zJ.iload_n 1 dX5_fetch_0 rfl rfl ?_
  refine zJ.if_lt (tgt := 13) dX5_fetch_1 (by decide) (fun c1 => ?_) (fun c1 => ?_)
  · replace h := h.1 c1
    refine zJ.aload_n 0 dX5_fetch_13 rfl rfl ?_
    refine zG.callVi [] [] (ob_23 o) ok_23 rfl dX5_fetch_14 ⟨(cb_X5_bad).1, (cb_X5_bad).2, (Nat.le_of_ble_eq_true rfl), (Nat.le_of_ble_eq_true rfl)⟩ ml_X5_130 ci_X5_bad cv_X5_bad rfl (Nat.le_of_ble_eq_true rfl) (Nat.le_of_ble_eq_true rfl) rfl h (fun r3 S4 h2 => ?_)
    replace h := h2
    clear h2
    exact zG.ret (r := some (.int r3)) ⟨dX5_fetch_17, _, rfl, rfl⟩ h
  · replace h := h.2 c1
    refine zJ.iload_n 2 dX5_fetch_4 rfl rfl ?_
    refine zJ.iconst (v := 0) dX5_fetch_5 (by decide) ?_
    refine zJ.iconst (v := 2) dX5_fetch_6 (by decide) ?_
    refine zG.callSi [.int x2, .int 0, .int 2] [] dX5_fetch_7 ⟨(cb_X5_in).1, (cb_X5_in).2, (Nat.le_of_ble_eq_true rfl), (Nat.le_of_ble_eq_true rfl)⟩ ml_X5_101 cs_X5_in rfl (Nat.le_of_ble_eq_true rfl) (Nat.le_of_ble_eq_true rfl) rfl h (fun r6 S7 h2 => ?_)
    replace h := h2
    clear h2
    refine zJ.if_ne (tgt := 18) dX5_fetch_10 (by decide) (fun c8 => ?_) (fun c8 => ?_)
    · replace h := h.1 c8
      refine zJ.iload_n 1 dX5_fetch_18 rfl rfl ?_
      refine zJ.aload_n 0 dX5_fetch_19 rfl rfl ?_
      refine zE.getV (fd_23_15 o) ok_23 kiX5 (Nat.le_of_ble_eq_true rfl) fl_X5_55 dX5_fetch_20 ?_
      refine zJ.iconst (v := 0) dX5_fetch_23 (by decide) ?_
      refine zE.aldI (ia_39 o) ok_39 (by unfold vp_in; decide) dX5_fetch_24 ?_
      refine zJ.icmp_lt (tgt := 30) dX5_fetch_25 (by decide) (fun c9 => ?_) (fun c9 => ?_)
      · replace h := h.1 c9
        refine zJ.aload_n 0 dX5_fetch_30 rfl rfl ?_
        refine zE.getV (fd_23_9 o) ok_23 kiX5 (Nat.le_of_ble_eq_true rfl) fl_X5_37 dX5_fetch_31 ?_
        refine zJ.iload_n 1 dX5_fetch_34 rfl rfl ?_
        obtain ⟨hq, h⟩ := h
        refine zE.aldI (ia_33 o) ok_33 hq dX5_fetch_35 ?_
        refine zJ.istore_n (lv' := [(3, .int (S7.1 (33, 0, 0) x1.toNatClampNeg)), (0, .ref (z_adr o (23, 0, 0))), (1, .int x1), (2, .int x2)]) dX5_fetch_36 rfl (Nat.le_of_ble_eq_true rfl) rfl ?_
        refine zJ.iload_n 3 dX5_fetch_37 rfl rfl ?_
        refine zJ.if_ne (tgt := 45) dX5_fetch_38 (by decide) (fun c10 => ?_) (fun c10 => ?_)
        · replace h := h.1 c10
          refine zJ.iload_n 3 dX5_fetch_45 rfl rfl ?_
          refine zJ.iconst (v := 1) dX5_fetch_46 (by decide) ?_
          refine zJ.icmp_ne (tgt := 67) dX5_fetch_47 (by decide) (fun c11 => ?_) (fun c11 => ?_)
          · replace h := h.1 c11
            refine zJ.aload_n 1 dX5_fetch_67 rfl rfl ?_
            refine zE.getV (fd_23_10 o) ok_23 kiX5 (Nat.le_of_ble_eq_true rfl) fl_X5_40 dX5_fetch_68 ?_
            refine zJ.iload_n 0 dX5_fetch_71 rfl rfl ?_
            obtain ⟨hq, h⟩ := h
            refine zE.aldI (ia_34 o) ok_34 hq dX5_fetch_72 ?_
            refine zJ.topi (fun y12 hyy12 => ?_)
            replace h := h y12 hyy12
            exact zG.ret (r := some (.int y12)) ⟨dX5_fetch_73, _, rfl, rfl⟩ h
          · replace h := h.2 c11
            refine zJ.aload_n 1 dX5_fetch_50 rfl rfl ?_
            refine zE.getV (fd_23_6 o) ok_23 kiX5 (Nat.le_of_ble_eq_true rfl) fl_X5_28 dX5_fetch_51 ?_
            refine zJ.iload_n 0 dX5_fetch_54 rfl rfl ?_
            obtain ⟨hq, h⟩ := h
            refine zE.aldI (ia_30 o) ok_30 hq dX5_fetch_55 ?_
            refine zJ.topi (fun y13 hyy13 => ?_)
            replace h := h y13 hyy13
            refine zJ.aload_n 1 dX5_fetch_56 rfl rfl ?_
            refine zE.getV (fd_23_16 o) ok_23 kiX5 (Nat.le_of_ble_eq_true rfl) fl_X5_58 dX5_fetch_57 ?_
            refine zJ.bipush (v := 9) dX5_fetch_60 (by decide) ?_
            refine zE.aldI (ia_40 o) ok_40 (by unfold vp_in; decide) dX5_fetch_62 ?_
            refine zJ.isub dX5_fetch_63 ?_
            refine zJ.goto (tgt := 73) dX5_fetch_64 (by decide) ?_
            exact zG.ret (r := some (.int (y13 - (S7.1 (40, 0, 0) 9)))) ⟨dX5_fetch_73, _, rfl, rfl⟩ h
        · replace h := h.2 c10
          refine zJ.iload_n 0 dX5_fetch_41 rfl rfl ?_
          refine zJ.goto (tgt := 73) dX5_fetch_42 (by decide) ?_
          exact zG.ret (r := some (.int (S7.1 (33, 0, 0) x1.toNatClampNeg))) ⟨dX5_fetch_73, _, rfl, rfl⟩ h
      · replace h := h.2 c9
        refine zJ.iconst (v := (-1)) dX5_fetch_28 (by decide) ?_
        exact zG.ret (r := some (.int (-1))) ⟨dX5_fetch_29, _, rfl, rfl⟩ h
    · replace h := h.2 c8
      refine zJ.aload_n 0 dX5_fetch_13 rfl rfl ?_
      refine zG.callVi [] [] (ob_23 o) ok_23 rfl dX5_fetch_14 ⟨(cb_X5_bad).1, (cb_X5_bad).2, (Nat.le_of_ble_eq_true rfl), (Nat.le_of_ble_eq_true rfl)⟩ ml_X5_130 ci_X5_bad cv_X5_bad rfl (Nat.le_of_ble_eq_true rfl) (Nat.le_of_ble_eq_true rfl) rfl h (fun r15 S16 h2 => ?_)
      replace h := h2
      clear h2
      exact zG.ret (r := some (.int r15)) ⟨dX5_fetch_17, _, rfl, rfl⟩ h
set_option maxRecDepth 100000 in
set_option maxHeartbeats 4000000 in
theorem w_X5_costBy_0 (o : zW) (x1 : Int32) (S : zS) (Q : Option Value → zS → Prop) (h : (¬ x1 = 0 → ((¬ x1 = 2 → ((¬ (S.1 (40, 0, 0) 8) = 0 → (vf_n32 (FP.fdiv (FP.l2f (S.2.1 (23, 0, 0) 21)) (FP.i2f (S.1 (40, 0, 0) 8))) ∧ (Q (some (.float (FP.fdiv (FP.l2f (S.2.1 (23, 0, 0) 21)) (FP.i2f (S.1 (40, 0, 0) 8))))) S))) ∧ ((S.1 (40, 0, 0) 8) = 0 → (Q (some (.float FP.fconst0)) S)))) ∧ (x1 = 2 → (Q (some (.float (FP.i2f (S.1 (39, 0, 0) 2)))) S)))) ∧ (x1 = 0 → (Q (some (.float (S.2.2 (23, 0, 0) 20))) S))) : zG o 994 mdX5_costBy 0 [(0, .ref (z_adr o (23, 0, 0))), (1, .int x1)] [] S Q := by
  show zJ o mdX5_costBy 0 _ [] (994, z_enc o S) 0 0 _
  refine zJ.iload_n 1 dX5_costBy_0 rfl rfl ?_
  refine zJ.if_ne (tgt := 9) dX5_costBy_1 (by decide) (fun c1 => ?_) (fun c1 => ?_)
  · replace h := h.1 c1
    refine zJ.iload_n 1 dX5_costBy_9 rfl rfl ?_
    refine zJ.iconst (v := 2) dX5_costBy_10 (by decide) ?_
    refine zJ.icmp_ne (tgt := 22) dX5_costBy_11 (by decide) (fun c2 => ?_) (fun c2 => ?_)
    · replace h := h.1 c2
      refine zJ.aload_n 0 dX5_costBy_22 rfl rfl ?_
      refine zE.getV (fd_23_16 o) ok_23 kiX5 (Nat.le_of_ble_eq_true rfl) fl_X5_58 dX5_costBy_23 ?_
      refine zJ.bipush (v := 8) dX5_costBy_26 (by decide) ?_
      refine zE.aldI (ia_40 o) ok_40 (by unfold vp_in; decide) dX5_costBy_28 ?_
      refine zJ.if_ne (tgt := 36) dX5_costBy_29 (by decide) (fun c3 => ?_) (fun c3 => ?_)
      · replace h := h.1 c3
        refine zJ.aload_n 0 dX5_costBy_36 rfl rfl ?_
        refine zE.getL (fd_23_21 o) ok_23 kiX5 (Nat.le_of_ble_eq_true rfl) fl_X5_94 dX5_costBy_37 ?_
        refine zJ.l2f dX5_costBy_40 ?_
        refine zJ.aload_n 0 dX5_costBy_41 rfl rfl ?_
        refine zE.getV (fd_23_16 o) ok_23 kiX5 (Nat.le_of_ble_eq_true rfl) fl_X5_58 dX5_costBy_42 ?_
        refine zJ.bipush (v := 8) dX5_costBy_45 (by decide) ?_
        refine zE.aldI (ia_40 o) ok_40 (by unfold vp_in; decide) dX5_costBy_47 ?_
        refine zJ.i2f dX5_costBy_48 ?_
        obtain ⟨hq, h⟩ := h
        refine zJ.fdiv dX5_costBy_49 hq ?_
        exact zG.ret (r := some (.float (FP.fdiv (FP.l2f (S.2.1 (23, 0, 0) 21)) (FP.i2f (S.1 (40, 0, 0) 8))))) ⟨dX5_costBy_50, rfl⟩ h
      · replace h := h.2 c3
        refine zJ.fconst0 dX5_costBy_32 ?_
        refine zJ.goto (tgt := 50) dX5_costBy_33 (by decide) ?_
        exact zG.ret (r := some (.float FP.fconst0)) ⟨dX5_costBy_50, rfl⟩ h
    · replace h := h.2 c2
      refine zJ.aload_n 0 dX5_costBy_14 rfl rfl ?_
      refine zE.getV (fd_23_15 o) ok_23 kiX5 (Nat.le_of_ble_eq_true rfl) fl_X5_55 dX5_costBy_15 ?_
      refine zJ.iconst (v := 2) dX5_costBy_18 (by decide) ?_
      refine zE.aldI (ia_39 o) ok_39 (by unfold vp_in; decide) dX5_costBy_19 ?_
      refine zJ.i2f dX5_costBy_20 ?_
      exact zG.ret (r := some (.float (FP.i2f (S.1 (39, 0, 0) 2)))) ⟨dX5_costBy_21, rfl⟩ h
  · replace h := h.2 c1
    refine zJ.aload_n 0 dX5_costBy_4 rfl rfl ?_
    refine zE.getF (fd_23_20 o) ok_23 kiX5 (Nat.le_of_ble_eq_true rfl) fl_X5_90 dX5_costBy_5 ?_
    exact zG.ret (r := some (.float (S.2.2 (23, 0, 0) 20))) ⟨dX5_costBy_8, rfl⟩ h
set_option maxRecDepth 100000 in
set_option maxHeartbeats 4000000 in
theorem w_X5_cost_0 (o : zW) (x1 : Int32) (S : zS) (Q : Option Value → zS → Prop) (h : zGi o 994 mdX5_in [.int x1, .int 0, .int 2] S (fun r2 S3 => (r2 = 0 → (zGi o 994 mdX5_bad [.ref (z_adr o (23, 0, 0))] S3 (fun r6 S7 => Q (some (.int r6)) S7))) ∧ (¬ r2 = 0 → (zGf o 994 mdX5_costBy [.ref (z_adr o (23, 0, 0)), .int x1] S3 (fun r9 S10 => zGi o 994 mdJxf58ca_floatToIntBits_5c35a [.float r9] S10 (fun r12 S13 => Q (some (.int r12)) S13)))))) : zG o 994 mdX5_cost 0 [(0, .ref (z_adr o (23, 0, 0))), (1, .int x1)] [] S Q := by
  show zJ o mdX5_cost 0 _ [] (994, z_enc o S) 0 0 _
  refine zJ.iload_n 1 dX5_cost_0 rfl rfl ?_
  refine zJ.iconst (v := 0) dX5_cost_1 (by decide) ?_
  refine zJ.iconst (v := 2) dX5_cost_2 (by decide) ?_
  refine zG.callSi [.int x1, .int 0, .int 2] [] dX5_cost_3 ⟨(cb_X5_in).1, (cb_X5_in).2, (Nat.le_of_ble_eq_true rfl), (Nat.le_of_ble_eq_true rfl)⟩ ml_X5_101 cs_X5_in rfl (Nat.le_of_ble_eq_true rfl) (Nat.le_of_ble_eq_true rfl) rfl h (fun r2 S3 h2 => ?_)
  replace h := h2
  clear h2
  refine zJ.if_eq (tgt := 20) dX5_cost_6 (by decide) (fun c4 => ?_) (fun c4 => ?_)
  · replace h := h.1 c4
    refine zJ.aload_n 0 dX5_cost_20 rfl rfl ?_
    refine zG.callVi [] [] (ob_23 o) ok_23 rfl dX5_cost_21 ⟨(cb_X5_bad).1, (cb_X5_bad).2, (Nat.le_of_ble_eq_true rfl), (Nat.le_of_ble_eq_true rfl)⟩ ml_X5_130 ci_X5_bad cv_X5_bad rfl (Nat.le_of_ble_eq_true rfl) (Nat.le_of_ble_eq_true rfl) rfl h (fun r6 S7 h2 => ?_)
    replace h := h2
    clear h2
    exact zG.ret (r := some (.int r6)) ⟨dX5_cost_24, _, rfl, rfl⟩ h
  · replace h := h.2 c4
    refine zJ.aload_n 0 dX5_cost_9 rfl rfl ?_
    refine zJ.iload_n 1 dX5_cost_10 rfl rfl ?_
    refine zG.callVf [.int x1] [] (ob_23 o) ok_23 rfl dX5_cost_11 ⟨(cb_X5_costBy).1, (cb_X5_costBy).2, (Nat.le_of_ble_eq_true rfl), (Nat.le_of_ble_eq_true rfl)⟩ ml_X5_234 ci_X5_costBy cv_X5_costBy rfl (Nat.le_of_ble_eq_true rfl) (Nat.le_of_ble_eq_true rfl) rfl h (fun r9 S10 h2 => ?_)
    replace h := h2
    clear h2
    refine zG.callSi [.float r9] [] dX5_cost_14 ⟨(cb_Jxf58ca_floatToIntBits_5c35a).1, (cb_Jxf58ca_floatToIntBits_5c35a).2, (Nat.le_of_ble_eq_true rfl), (Nat.le_of_ble_eq_true rfl)⟩ ml_X5_238 cs_Jxf58ca_floatToIntBits_5c35a rfl (Nat.le_of_ble_eq_true rfl) (Nat.le_of_ble_eq_true rfl) rfl h (fun r12 S13 h2 => ?_)
    replace h := h2
    clear h2
    refine zJ.goto (tgt := 24) dX5_cost_17 (by decide) ?_
    exact zG.ret (r := some (.int r12)) ⟨dX5_cost_24, _, rfl, rfl⟩ h
set_option maxRecDepth 100000 in
set_option maxHeartbeats 4000000 in
theorem w_X5_even_0 (o : zW)  (S : zS) (Q : Option Value → zS → Prop) (h : (¬ (S.1 (40, 0, 0) 8) = 0 → (vf_n64 (FP.ddiv (FP.l2d (S.2.1 (23, 0, 0) 21)) (FP.i2d (S.1 (40, 0, 0) 8))) ∧ (vf_n64 (FP.ddiv (FP.l2d (S.2.1 (23, 0, 0) 22)) (FP.i2d (S.1 (40, 0, 0) 8))) ∧ (vf_n64 (FP.dmul (FP.ddiv (FP.l2d (S.2.1 (23, 0, 0) 21)) (FP.i2d (S.1 (40, 0, 0) 8))) (FP.ddiv (FP.l2d (S.2.1 (23, 0, 0) 21)) (FP.i2d (S.1 (40, 0, 0) 8)))) ∧ (vf_n64 (FP.dsub (FP.ddiv (FP.l2d (S.2.1 (23, 0, 0) 22)) (FP.i2d (S.1 (40, 0, 0) 8))) (FP.dmul (FP.ddiv (FP.l2d (S.2.1 (23, 0, 0) 21)) (FP.i2d (S.1 (40, 0, 0) 8))) (FP.ddiv (FP.l2d (S.2.1 (23, 0, 0) 21)) (FP.i2d (S.1 (40, 0, 0) 8))))) ∧ (zGl o 994 mdJxe99ae_doubleToLongBits_ccdee [.double (FP.dsub (FP.ddiv (FP.l2d (S.2.1 (23, 0, 0) 22)) (FP.i2d (S.1 (40, 0, 0) 8))) (FP.dmul (FP.ddiv (FP.l2d (S.2.1 (23, 0, 0) 21)) (FP.i2d (S.1 (40, 0, 0) 8))) (FP.ddiv (FP.l2d (S.2.1 (23, 0, 0) 21)) (FP.i2d (S.1 (40, 0, 0) 8)))))] S (fun r3 S4 => Q (some (.long r3)) S4))))))) ∧ ((S.1 (40, 0, 0) 8) = 0 → (zGl o 994 mdJxe99ae_doubleToLongBits_ccdee [.double FP.dconst0] S (fun r6 S7 => Q (some (.long r6)) S7)))) : zG o 994 mdX5_even 0 [(0, .ref (z_adr o (23, 0, 0)))] [] S Q := by
  show zJ o mdX5_even 0 _ [] (994, z_enc o S) 0 0 _
  refine zJ.aload_n 0 dX5_even_0 rfl rfl ?_
  refine zE.getV (fd_23_16 o) ok_23 kiX5 (Nat.le_of_ble_eq_true rfl) fl_X5_58 dX5_even_1 ?_
  refine zJ.bipush (v := 8) dX5_even_4 (by decide) ?_
  refine zE.aldI (ia_40 o) ok_40 (by unfold vp_in; decide) dX5_even_6 ?_
  refine zJ.if_ne (tgt := 15) dX5_even_7 (by decide) (fun c1 => ?_) (fun c1 => ?_)
  · replace h := h.1 c1
    refine zJ.aload_n 0 dX5_even_15 rfl rfl ?_
    refine zE.getV (fd_23_16 o) ok_23 kiX5 (Nat.le_of_ble_eq_true rfl) fl_X5_58 dX5_even_16 ?_
    refine zJ.bipush (v := 8) dX5_even_19 (by decide) ?_
    refine zE.aldI (ia_40 o) ok_40 (by unfold vp_in; decide) dX5_even_21 ?_
    refine zJ.i2d dX5_even_22 ?_
    refine zJ.dstore_n (lv' := [(1, .double (FP.i2d (S.1 (40, 0, 0) 8))), (0, .ref (z_adr o (23, 0, 0)))]) dX5_even_23 rfl (Nat.le_of_ble_eq_true rfl) rfl ?_
    refine zJ.aload_n 1 dX5_even_24 rfl rfl ?_
    refine zE.getL (fd_23_21 o) ok_23 kiX5 (Nat.le_of_ble_eq_true rfl) fl_X5_94 dX5_even_25 ?_
    refine zJ.l2d dX5_even_28 ?_
    refine zJ.dload_n 0 dX5_even_29 rfl rfl ?_
    obtain ⟨hq, h⟩ := h
    refine zJ.ddiv dX5_even_30 hq ?_
    refine zJ.dstore_n (lv' := [(3, .double (FP.ddiv (FP.l2d (S.2.1 (23, 0, 0) 21)) (FP.i2d (S.1 (40, 0, 0) 8)))), (1, .double (FP.i2d (S.1 (40, 0, 0) 8))), (0, .ref (z_adr o (23, 0, 0)))]) dX5_even_31 rfl (Nat.le_of_ble_eq_true rfl) rfl ?_
    refine zJ.aload_n 2 dX5_even_32 rfl rfl ?_
    refine zE.getL (fd_23_22 o) ok_23 kiX5 (Nat.le_of_ble_eq_true rfl) fl_X5_98 dX5_even_33 ?_
    refine zJ.l2d dX5_even_36 ?_
    refine zJ.dload_n 1 dX5_even_37 rfl rfl ?_
    obtain ⟨hq, h⟩ := h
    refine zJ.ddiv dX5_even_38 hq ?_
    refine zJ.dload_n 0 dX5_even_39 rfl rfl ?_
    refine zJ.dload_n 0 dX5_even_40 rfl rfl ?_
    obtain ⟨hq, h⟩ := h
    refine zJ.dmul dX5_even_41 hq ?_
    obtain ⟨hq, h⟩ := h
    refine zJ.dsub dX5_even_42 hq ?_
    refine zG.callSl [.double (FP.dsub (FP.ddiv (FP.l2d (S.2.1 (23, 0, 0) 22)) (FP.i2d (S.1 (40, 0, 0) 8))) (FP.dmul (FP.ddiv (FP.l2d (S.2.1 (23, 0, 0) 21)) (FP.i2d (S.1 (40, 0, 0) 8))) (FP.ddiv (FP.l2d (S.2.1 (23, 0, 0) 21)) (FP.i2d (S.1 (40, 0, 0) 8)))))] [] dX5_even_43 ⟨(cb_Jxe99ae_doubleToLongBits_ccdee).1, (cb_Jxe99ae_doubleToLongBits_ccdee).2, (Nat.le_of_ble_eq_true rfl), (Nat.le_of_ble_eq_true rfl)⟩ ml_X5_244 cs_Jxe99ae_doubleToLongBits_ccdee rfl (Nat.le_of_ble_eq_true rfl) (Nat.le_of_ble_eq_true rfl) rfl h (fun r3 S4 h2 => ?_)
    replace h := h2
    clear h2
    exact zG.ret (r := some (.long r3)) ⟨dX5_even_46, rfl⟩ h
  · replace h := h.2 c1
    refine zJ.dconst0 dX5_even_10 ?_
    refine zG.callSl [.double FP.dconst0] [] dX5_even_11 ⟨(cb_Jxe99ae_doubleToLongBits_ccdee).1, (cb_Jxe99ae_doubleToLongBits_ccdee).2, (Nat.le_of_ble_eq_true rfl), (Nat.le_of_ble_eq_true rfl)⟩ ml_X5_244 cs_Jxe99ae_doubleToLongBits_ccdee rfl (Nat.le_of_ble_eq_true rfl) (Nat.le_of_ble_eq_true rfl) rfl h (fun r6 S7 h2 => ?_)
    replace h := h2
    clear h2
    exact zG.ret (r := some (.long r6)) ⟨dX5_even_14, rfl⟩ h
set_option maxRecDepth 100000 in
set_option maxHeartbeats 4000000 in
theorem w_X5_type_0 (o : zW) (x1 : Int32) (S : zS) (Q : Option Value → zS → Prop) (h : zGi o 994 mdX5_in [.int x1, .int 0, .int 127] S (fun r2 S3 => (¬ r2 = 0 → ((¬ (S3.1 (23, 0, 0) 30) = 120 → (vp_in (S3.1 (23, 0, 0) 30) 120 ∧ (∀ y6 : Int32, y6 = ((sI S3 (48, 0, 0) ((S3.1 (23, 0, 0) 30).toNatClampNeg) x1).1 (23, 0, 0) 30) → (∀ S7 : zS, S7 = (sI (sI S3 (48, 0, 0) ((S3.1 (23, 0, 0) 30).toNatClampNeg) x1) (23, 0, 0) 30 (y6 + 1)) → (Q (some (.int (S7.1 (23, 0, 0) 30))) S7))))) ∧ ((S3.1 (23, 0, 0) 30) = 120 → (Q (some (.int (-4))) (sI S3 (24, 0, 0) 2 ((S3.1 (24, 0, 0) 2) + 1)))))) ∧ (r2 = 0 → (zGi o 994 mdX5_bad [.ref (z_adr o (23, 0, 0))] S3 (fun r9 S10 => Q (some (.int r9)) S10))))) : zG o 994 mdX5_type 0 [(0, .ref (z_adr o (23, 0, 0))), (1, .int x1)] [] S Q := by
  show zJ o mdX5_type 0 _ [] (994, z_enc o S) 0 0 _
  refine zJ.iload_n 1 dX5_type_0 rfl rfl ?_
  refine zJ.iconst (v := 0) dX5_type_1 (by decide) ?_
  refine zJ.bipush (v := 127) dX5_type_2 (by decide) ?_
  refine zG.callSi [.int x1, .int 0, .int 127] [] dX5_type_4 ⟨(cb_X5_in).1, (cb_X5_in).2, (Nat.le_of_ble_eq_true rfl), (Nat.le_of_ble_eq_true rfl)⟩ ml_X5_101 cs_X5_in rfl (Nat.le_of_ble_eq_true rfl) (Nat.le_of_ble_eq_true rfl) rfl h (fun r2 S3 h2 => ?_)
  replace h := h2
  clear h2
  refine zJ.if_ne (tgt := 15) dX5_type_7 (by decide) (fun c4 => ?_) (fun c4 => ?_)
  · replace h := h.1 c4
    refine zJ.aload_n 0 dX5_type_15 rfl rfl ?_
    refine zE.getI (fd_23_30 o) ok_23 kiX5 (Nat.le_of_ble_eq_true rfl) fl_X5_250 dX5_type_16 ?_
    refine zJ.bipush (v := 120) dX5_type_19 (by decide) ?_
    refine zJ.icmp_ne (tgt := 37) dX5_type_21 (by decide) (fun c5 => ?_) (fun c5 => ?_)
    · replace h := h.1 c5
      refine zJ.aload_n 0 dX5_type_37 rfl rfl ?_
      refine zE.getV (fd_23_29 o) ok_23 kiX5 (Nat.le_of_ble_eq_true rfl) fl_X5_84 dX5_type_38 ?_
      refine zJ.aload_n 0 dX5_type_41 rfl rfl ?_
      refine zE.getI (fd_23_30 o) ok_23 kiX5 (Nat.le_of_ble_eq_true rfl) fl_X5_250 dX5_type_42 ?_
      refine zJ.iload_n 1 dX5_type_45 rfl rfl ?_
      obtain ⟨hq, h⟩ := h
      refine zE.astI (ia_48 o) ok_48 hq dX5_type_46 ?_
      refine zJ.aload_n 0 dX5_type_47 rfl rfl ?_
      refine zJ.dup dX5_type_48 rfl ?_
      refine zE.getI (fd_23_30 o) ok_23 kiX5 (Nat.le_of_ble_eq_true rfl) fl_X5_250 dX5_type_49 ?_
      refine zJ.topi (fun y6 hyy6 => ?_)
      replace h := h y6 hyy6
      refine zJ.iconst (v := 1) dX5_type_52 (by decide) ?_
      refine zJ.iadd dX5_type_53 ?_
      refine zE.putI (fd_23_30 o) ok_23 kiX5 (Nat.le_of_ble_eq_true rfl) fl_X5_250 rfl rfl dX5_type_54 ?_
      refine zJ.nameS (fun S7 hyS7 => ?_)
      replace h := h S7 hyS7
      refine zJ.aload_n 0 dX5_type_57 rfl rfl ?_
      refine zE.getI (fd_23_30 o) ok_23 kiX5 (Nat.le_of_ble_eq_true rfl) fl_X5_250 dX5_type_58 ?_
      exact zG.ret (r := some (.int (S7.1 (23, 0, 0) 30))) ⟨dX5_type_61, _, rfl, rfl⟩ h
    · replace h := h.2 c5
      refine zJ.aload_n 0 dX5_type_24 rfl rfl ?_
      refine zE.getV (fd_23_0 o) ok_23 kiX5 (Nat.le_of_ble_eq_true rfl) fl_X5_1 dX5_type_25 ?_
      refine zJ.iconst (v := 2) dX5_type_28 (by decide) ?_
      refine zJ.dup2_11 dX5_type_29 rfl rfl ?_
      refine zE.aldI (ia_24 o) ok_24 (by unfold vp_in; decide) dX5_type_30 ?_
      refine zJ.iconst (v := 1) dX5_type_31 (by decide) ?_
      refine zJ.iadd dX5_type_32 ?_
      refine zE.astI (ia_24 o) ok_24 (by unfold vp_in; decide) dX5_type_33 ?_
      refine zJ.bipush (v := (-4)) dX5_type_34 (by decide) ?_
      exact zG.ret (r := some (.int (-4))) ⟨dX5_type_36, _, rfl, rfl⟩ h
  · replace h := h.2 c4
    refine zJ.aload_n 0 dX5_type_10 rfl rfl ?_
    refine zG.callVi [] [] (ob_23 o) ok_23 rfl dX5_type_11 ⟨(cb_X5_bad).1, (cb_X5_bad).2, (Nat.le_of_ble_eq_true rfl), (Nat.le_of_ble_eq_true rfl)⟩ ml_X5_130 ci_X5_bad cv_X5_bad rfl (Nat.le_of_ble_eq_true rfl) (Nat.le_of_ble_eq_true rfl) rfl h (fun r9 S10 h2 => ?_)
    replace h := h2
    clear h2
    exact zG.ret (r := some (.int r9)) ⟨dX5_type_14, _, rfl, rfl⟩ h
set_option maxRecDepth 100000 in
set_option maxHeartbeats 4000000 in
theorem w_X5_clear_0 (o : zW)  (S : zS) (Q : Option Value → zS → Prop) (h : Q (some (.int (S.1 (23, 0, 0) 30))) (sI S (23, 0, 0) 30 0)) : zG o 994 mdX5_clear 0 [(0, .ref (z_adr o (23, 0, 0)))] [] S Q := by
  show zJ o mdX5_clear 0 _ [] (994, z_enc o S) 0 0 _
  refine zJ.aload_n 0 dX5_clear_0 rfl rfl ?_
  refine zE.getI (fd_23_30 o) ok_23 kiX5 (Nat.le_of_ble_eq_true rfl) fl_X5_250 dX5_clear_1 ?_
  refine zJ.istore_n (lv' := [(1, .int (S.1 (23, 0, 0) 30)), (0, .ref (z_adr o (23, 0, 0)))]) dX5_clear_4 rfl (Nat.le_of_ble_eq_true rfl) rfl ?_
  refine zJ.aload_n 1 dX5_clear_5 rfl rfl ?_
  refine zJ.iconst (v := 0) dX5_clear_6 (by decide) ?_
  refine zE.putI (fd_23_30 o) ok_23 kiX5 (Nat.le_of_ble_eq_true rfl) fl_X5_250 rfl rfl dX5_clear_7 ?_
  refine zJ.iload_n 0 dX5_clear_10 rfl rfl ?_
  exact zG.ret (r := some (.int (S.1 (23, 0, 0) 30))) ⟨dX5_clear_11, _, rfl, rfl⟩ h
set_option maxRecDepth 100000 in
set_option maxHeartbeats 4000000 in
theorem w_X5_here_0 (o : zW)  (S : zS) (Q : Option Value → zS → Prop) (h : ((S.1 (23, 0, 0) 30) ≤ (S.1 (23, 0, 0) 31) → (Q (some (.int (-1))) S)) ∧ (¬ (S.1 (23, 0, 0) 30) ≤ (S.1 (23, 0, 0) 31) → (vp_in (S.1 (23, 0, 0) 31) 120 ∧ (Q (some (.int (S.1 (48, 0, 0) ((S.1 (23, 0, 0) 31).toNatClampNeg)))) S)))) : zG o 994 mdX5_here 0 [(0, .ref (z_adr o (23, 0, 0)))] [] S Q := by
  show zJ o mdX5_here 0 _ [] (994, z_enc o S) 0 0 _
  refine zJ.aload_n 0 dX5_here_0 rfl rfl ?_
  refine zE.getI (fd_23_31 o) ok_23 kiX5 (Nat.le_of_ble_eq_true rfl) fl_X5_253 dX5_here_1 ?_
  refine zJ.aload_n 0 dX5_here_4 rfl rfl ?_
  refine zE.getI (fd_23_30 o) ok_23 kiX5 (Nat.le_of_ble_eq_true rfl) fl_X5_250 dX5_here_5 ?_
  refine zJ.icmp_ge (tgt := 23) dX5_here_8 (by decide) (fun c1 => ?_) (fun c1 => ?_)
  · replace h := h.1 c1
    refine zJ.iconst (v := (-1)) dX5_here_23 (by decide) ?_
    exact zG.ret (r := some (.int (-1))) ⟨dX5_here_24, _, rfl, rfl⟩ h
  · replace h := h.2 c1
    refine zJ.aload_n 0 dX5_here_11 rfl rfl ?_
    refine zE.getV (fd_23_29 o) ok_23 kiX5 (Nat.le_of_ble_eq_true rfl) fl_X5_84 dX5_here_12 ?_
    refine zJ.aload_n 0 dX5_here_15 rfl rfl ?_
    refine zE.getI (fd_23_31 o) ok_23 kiX5 (Nat.le_of_ble_eq_true rfl) fl_X5_253 dX5_here_16 ?_
    obtain ⟨hq, h⟩ := h
    refine zE.aldI (ia_48 o) ok_48 hq dX5_here_19 ?_
    refine zJ.goto (tgt := 24) dX5_here_20 (by decide) ?_
    exact zG.ret (r := some (.int (S.1 (48, 0, 0) ((S.1 (23, 0, 0) 31).toNatClampNeg)))) ⟨dX5_here_24, _, rfl, rfl⟩ h
set_option maxRecDepth 100000 in
set_option maxHeartbeats 4000000 in
theorem w_X5_skips_0 (o : zW)  (S : zS) (Q : Option Value → zS → Prop) (h : zGi o 994 mdX5_here [.ref (z_adr o (23, 0, 0))] S (fun r2 S3 => (¬ r2 = 32 → (Q none (sI S3 (23, 0, 0) 32 (S3.1 (23, 0, 0) 31)))) ∧ (r2 = 32 → (zG o 994 mdX5_skips 0 [(0, .ref (z_adr o (23, 0, 0)))] [] (sI S3 (23, 0, 0) 31 ((S3.1 (23, 0, 0) 31) + 1)) Q)))) : zG o 994 mdX5_skips 0 [(0, .ref (z_adr o (23, 0, 0)))] [] S Q := by
  show zJ o mdX5_skips 0 _ [] (994, z_enc o S) 0 0 _
  refine zJ.aload_n 0 dX5_skips_0 rfl rfl ?_
  refine zG.callVi [] [] (ob_23 o) ok_23 rfl dX5_skips_1 ⟨(cb_X5_here).1, (cb_X5_here).2, (Nat.le_of_ble_eq_true rfl), (Nat.le_of_ble_eq_true rfl)⟩ ml_X5_256 ci_X5_here cv_X5_here rfl (Nat.le_of_ble_eq_true rfl) (Nat.le_of_ble_eq_true rfl) rfl h (fun r2 S3 h2 => ?_)
  replace h := h2
  clear h2
  refine zJ.bipush (v := 32) dX5_skips_4 (by decide) ?_
  refine zJ.icmp_ne (tgt := 22) dX5_skips_6 (by decide) (fun c4 => ?_) (fun c4 => ?_)
  · replace h := h.1 c4
    refine zJ.aload_n 0 dX5_skips_22 rfl rfl ?_
    refine zJ.aload_n 0 dX5_skips_23 rfl rfl ?_
    refine zE.getI (fd_23_31 o) ok_23 kiX5 (Nat.le_of_ble_eq_true rfl) fl_X5_253 dX5_skips_24 ?_
    refine zE.putI (fd_23_32 o) ok_23 kiX5 (Nat.le_of_ble_eq_true rfl) fl_X5_259 rfl rfl dX5_skips_27 ?_
    exact zG.ret (r := none) ⟨dX5_skips_30, rfl⟩ h
  · replace h := h.2 c4
    refine zJ.aload_n 0 dX5_skips_9 rfl rfl ?_
    refine zJ.dup dX5_skips_10 rfl ?_
    refine zE.getI (fd_23_31 o) ok_23 kiX5 (Nat.le_of_ble_eq_true rfl) fl_X5_253 dX5_skips_11 ?_
    refine zJ.iconst (v := 1) dX5_skips_14 (by decide) ?_
    refine zJ.iadd dX5_skips_15 ?_
    refine zE.putI (fd_23_31 o) ok_23 kiX5 (Nat.le_of_ble_eq_true rfl) fl_X5_253 rfl rfl dX5_skips_16 ?_
    refine zJ.goto (tgt := 0) dX5_skips_19 (by decide) ?_
    exact h
set_option maxRecDepth 100000 in
set_option maxHeartbeats 4000000 in
theorem w_X5_number_0 (o : zW)  (S : zS) (Q : Option Value → zS → Prop) (h : zGv o 994 mdX5_skips [.ref (z_adr o (23, 0, 0))] S (fun S3 => zG o 994 mdX5_number 8 [(0, .ref (z_adr o (23, 0, 0))), (1, .int 0), (2, .int 0)] [] S3 Q)) : zG o 994 mdX5_number 0 [(0, .ref (z_adr o (23, 0, 0)))] [] S Q := by
  show zJ o mdX5_number 0 _ [] (994, z_enc o S) 0 0 _
  refine zJ.aload_n 0 dX5_number_0 rfl rfl ?_
  refine zG.callVv [] [] (ob_23 o) ok_23 rfl dX5_number_1 ⟨(cb_X5_skips).1, (cb_X5_skips).2, (Nat.le_of_ble_eq_true rfl), (Nat.le_of_ble_eq_true rfl)⟩ ml_X5_262 ci_X5_skips cv_X5_skips rfl (Nat.le_of_ble_eq_true rfl) (Nat.le_of_ble_eq_true rfl) rfl h (fun S3 h2 => ?_)
  replace h := h2
  clear h2
  refine zJ.iconst (v := 0) dX5_number_4 (by decide) ?_
  refine zJ.istore_n (lv' := [(1, .int 0), (0, .ref (z_adr o (23, 0, 0)))]) dX5_number_5 rfl (Nat.le_of_ble_eq_true rfl) rfl ?_
  refine zJ.iconst (v := 0) dX5_number_6 (by decide) ?_
  refine zJ.istore_n (lv' := [(2, .int 0), (1, .int 0), (0, .ref (z_adr o (23, 0, 0)))]) dX5_number_7 rfl (Nat.le_of_ble_eq_true rfl) rfl ?_
  exact zJ.sub [2, 1, 0] rfl h
set_option maxRecDepth 100000 in
set_option maxHeartbeats 4000000 in
theorem w_X5_number_8 (o : zW) (x1 : Int32) (x2 : Int32) (S : zS) (Q : Option Value → zS → Prop) (h : zGi o 994 mdX5_here [.ref (z_adr o (23, 0, 0))] S (fun r2 S3 => zGi o 994 mdX5_in [.int r2, .int 48, .int 57] S3 (fun r5 S6 => (r5 = 0 → (zGi o 994 mdX5_in [.int x1, .int 1, .int 2] (sI S6 (23, 0, 0) 33 x2) (fun r9 S10 => narrow .boolean (.int r9) = .int r9 ∧ Q (some (.int r9)) S10))) ∧ (¬ r5 = 0 → ((2 ≤ x1 → (zG o 994 mdX5_number 8 [(0, .ref (z_adr o (23, 0, 0))), (1, .int (x1 + 1)), (2, .int x2)] [] (sI S6 (23, 0, 0) 31 ((S6.1 (23, 0, 0) 31) + 1)) Q)) ∧ (¬ 2 ≤ x1 → (zGi o 994 mdX5_here [.ref (z_adr o (23, 0, 0))] S6 (fun r13 S14 => zG o 994 mdX5_number 8 [(0, .ref (z_adr o (23, 0, 0))), (1, .int (x1 + 1)), (2, .int (((10 * x2) + r13) - 48))] [] (sI S14 (23, 0, 0) 31 ((S14.1 (23, 0, 0) 31) + 1)) Q)))))))) : zG o 994 mdX5_number 8 [(0, .ref (z_adr o (23, 0, 0))), (1, .int x1), (2, .int x2)] [] S Q := by
  show zJ o mdX5_number 8 _ [] (994, z_enc o S) 0 0 _
  refine zJ.aload_n 0 dX5_number_8 rfl rfl ?_
  refine zG.callVi [] [] (ob_23 o) ok_23 rfl dX5_number_9 ⟨(cb_X5_here).1, (cb_X5_here).2, (Nat.le_of_ble_eq_true rfl), (Nat.le_of_ble_eq_true rfl)⟩ ml_X5_256 ci_X5_here cv_X5_here rfl (Nat.le_of_ble_eq_true rfl) (Nat.le_of_ble_eq_true rfl) rfl h (fun r2 S3 h2 => ?_)
  replace h := h2
  clear h2
  refine zJ.bipush (v := 48) dX5_number_12 (by decide) ?_
  refine zJ.bipush (v := 57) dX5_number_14 (by decide) ?_
  refine zG.callSi [.int r2, .int 48, .int 57] [] dX5_number_16 ⟨(cb_X5_in).1, (cb_X5_in).2, (Nat.le_of_ble_eq_true rfl), (Nat.le_of_ble_eq_true rfl)⟩ ml_X5_101 cs_X5_in rfl (Nat.le_of_ble_eq_true rfl) (Nat.le_of_ble_eq_true rfl) rfl h (fun r5 S6 h2 => ?_)
  replace h := h2
  clear h2
  refine zJ.if_eq (tgt := 60) dX5_number_19 (by decide) (fun c7 => ?_) (fun c7 => ?_)
  · replace h := h.1 c7
    refine zJ.aload_n 0 dX5_number_60 rfl rfl ?_
    refine zJ.iload_n 2 dX5_number_61 rfl rfl ?_
    refine zE.putI (fd_23_33 o) ok_23 kiX5 (Nat.le_of_ble_eq_true rfl) fl_X5_265 rfl rfl dX5_number_62 ?_
    refine zJ.iload_n 1 dX5_number_65 rfl rfl ?_
    refine zJ.iconst (v := 1) dX5_number_66 (by decide) ?_
    refine zJ.iconst (v := 2) dX5_number_67 (by decide) ?_
    refine zG.callSi [.int x1, .int 1, .int 2] [] dX5_number_68 ⟨(cb_X5_in).1, (cb_X5_in).2, (Nat.le_of_ble_eq_true rfl), (Nat.le_of_ble_eq_true rfl)⟩ ml_X5_101 cs_X5_in rfl (Nat.le_of_ble_eq_true rfl) (Nat.le_of_ble_eq_true rfl) rfl h (fun r9 S10 h2 => ?_)
    replace h := h2
    clear h2
    exact zG.ret (r := some (.int r9)) ⟨dX5_number_71, _, rfl, h.1⟩ h.2
  · replace h := h.2 c7
    refine zJ.iload_n 1 dX5_number_22 rfl rfl ?_
    refine zJ.iconst (v := 2) dX5_number_23 (by decide) ?_
    refine zJ.icmp_ge (tgt := 42) dX5_number_24 (by decide) (fun c11 => ?_) (fun c11 => ?_)
    · replace h := h.1 c11
      refine zJ.iload_n 2 dX5_number_42 rfl rfl ?_
      refine zJ.istore_n (lv' := [(2, .int x2), (0, .ref (z_adr o (23, 0, 0))), (1, .int x1)]) dX5_number_43 rfl (Nat.le_of_ble_eq_true rfl) rfl ?_
      refine zJ.iinc (k := 2) (lv' := [(1, .int (x1 + 1)), (2, .int x2), (0, .ref (z_adr o (23, 0, 0)))]) dX5_number_44 rfl rfl (Nat.le_of_ble_eq_true rfl) rfl ?_
      refine zJ.aload_n 2 dX5_number_47 rfl rfl ?_
      refine zJ.dup dX5_number_48 rfl ?_
      refine zE.getI (fd_23_31 o) ok_23 kiX5 (Nat.le_of_ble_eq_true rfl) fl_X5_253 dX5_number_49 ?_
      refine zJ.iconst (v := 1) dX5_number_52 (by decide) ?_
      refine zJ.iadd dX5_number_53 ?_
      refine zE.putI (fd_23_31 o) ok_23 kiX5 (Nat.le_of_ble_eq_true rfl) fl_X5_253 rfl rfl dX5_number_54 ?_
      refine zJ.goto (tgt := 8) dX5_number_57 (by decide) ?_
      exact zJ.sub [2, 0, 1] rfl h
    · replace h := h.2 c11
      refine zJ.bipush (v := 10) dX5_number_27 (by decide) ?_
      refine zJ.iload_n 2 dX5_number_29 rfl rfl ?_
      refine zJ.imul dX5_number_30 ?_
      refine zJ.aload_n 0 dX5_number_31 rfl rfl ?_
      refine zG.callVi [] [.int (10 * x2)] (ob_23 o) ok_23 rfl dX5_number_32 ⟨(cb_X5_here).1, (cb_X5_here).2, (Nat.le_of_ble_eq_true rfl), (Nat.le_of_ble_eq_true rfl)⟩ ml_X5_256 ci_X5_here cv_X5_here rfl (Nat.le_of_ble_eq_true rfl) (Nat.le_of_ble_eq_true rfl) rfl h (fun r13 S14 h2 => ?_)
      replace h := h2
      clear h2
      refine zJ.iadd dX5_number_35 ?_
      refine zJ.bipush (v := 48) dX5_number_36 (by decide) ?_
      refine zJ.isub dX5_number_38 ?_
      refine zJ.goto (tgt := 43) dX5_number_39 (by decide) ?_
      refine zJ.istore_n (lv' := [(2, .int (((10 * x2) + r13) - 48)), (0, .ref (z_adr o (23, 0, 0))), (1, .int x1)]) dX5_number_43 rfl (Nat.le_of_ble_eq_true rfl) rfl ?_
      refine zJ.iinc (k := 2) (lv' := [(1, .int (x1 + 1)), (2, .int (((10 * x2) + r13) - 48)), (0, .ref (z_adr o (23, 0, 0)))]) dX5_number_44 rfl rfl (Nat.le_of_ble_eq_true rfl) rfl ?_
      refine zJ.aload_n 2 dX5_number_47 rfl rfl ?_
      refine zJ.dup dX5_number_48 rfl ?_
      refine zE.getI (fd_23_31 o) ok_23 kiX5 (Nat.le_of_ble_eq_true rfl) fl_X5_253 dX5_number_49 ?_
      refine zJ.iconst (v := 1) dX5_number_52 (by decide) ?_
      refine zJ.iadd dX5_number_53 ?_
      refine zE.putI (fd_23_31 o) ok_23 kiX5 (Nat.le_of_ble_eq_true rfl) fl_X5_253 rfl rfl dX5_number_54 ?_
      refine zJ.goto (tgt := 8) dX5_number_57 (by decide) ?_
      exact zJ.sub [2, 0, 1] rfl h
set_option maxRecDepth 100000 in
set_option maxHeartbeats 4000000 in
theorem w_X5_ends_0 (o : zW)  (S : zS) (Q : Option Value → zS → Prop) (h : zGv o 994 mdX5_skips [.ref (z_adr o (23, 0, 0))] S (fun S3 => zGi o 994 mdX5_here [.ref (z_adr o (23, 0, 0))] S3 (fun r5 S6 => (r5 = 59 → (Q (some (.int 1)) (sI S6 (23, 0, 0) 31 ((S6.1 (23, 0, 0) 31) + 1)))) ∧ (¬ r5 = 59 → (Q (some (.int 0)) S6))))) : zG o 994 mdX5_ends 0 [(0, .ref (z_adr o (23, 0, 0)))] [] S Q := by
  show zJ o mdX5_ends 0 _ [] (994, z_enc o S) 0 0 _
  refine zJ.aload_n 0 dX5_ends_0 rfl rfl ?_
  refine zG.callVv [] [] (ob_23 o) ok_23 rfl dX5_ends_1 ⟨(cb_X5_skips).1, (cb_X5_skips).2, (Nat.le_of_ble_eq_true rfl), (Nat.le_of_ble_eq_true rfl)⟩ ml_X5_262 ci_X5_skips cv_X5_skips rfl (Nat.le_of_ble_eq_true rfl) (Nat.le_of_ble_eq_true rfl) rfl h (fun S3 h2 => ?_)
  replace h := h2
  clear h2
  refine zJ.aload_n 0 dX5_ends_4 rfl rfl ?_
  refine zG.callVi [] [] (ob_23 o) ok_23 rfl dX5_ends_5 ⟨(cb_X5_here).1, (cb_X5_here).2, (Nat.le_of_ble_eq_true rfl), (Nat.le_of_ble_eq_true rfl)⟩ ml_X5_256 ci_X5_here cv_X5_here rfl (Nat.le_of_ble_eq_true rfl) (Nat.le_of_ble_eq_true rfl) rfl h (fun r5 S6 h2 => ?_)
  replace h := h2
  clear h2
  refine zJ.bipush (v := 59) dX5_ends_8 (by decide) ?_
  refine zJ.icmp_eq (tgt := 15) dX5_ends_10 (by decide) (fun c7 => ?_) (fun c7 => ?_)
  · replace h := h.1 c7
    refine zJ.aload_n 0 dX5_ends_15 rfl rfl ?_
    refine zJ.dup dX5_ends_16 rfl ?_
    refine zE.getI (fd_23_31 o) ok_23 kiX5 (Nat.le_of_ble_eq_true rfl) fl_X5_253 dX5_ends_17 ?_
    refine zJ.iconst (v := 1) dX5_ends_20 (by decide) ?_
    refine zJ.iadd dX5_ends_21 ?_
    refine zE.putI (fd_23_31 o) ok_23 kiX5 (Nat.le_of_ble_eq_true rfl) fl_X5_253 rfl rfl dX5_ends_22 ?_
    refine zJ.iconst (v := 1) dX5_ends_25 (by decide) ?_
    exact zG.ret (r := some (.int 1)) ⟨dX5_ends_26, _, rfl, rfl⟩ h
  · replace h := h.2 c7
    refine zJ.iconst (v := 0) dX5_ends_13 (by decide) ?_
    exact zG.ret (r := some (.int 0)) ⟨dX5_ends_14, _, rfl, rfl⟩ h
set_option maxRecDepth 100000 in
set_option maxHeartbeats 4000000 in
theorem w_X5_readsBox_0 (o : zW) (x1 : Int32) (S : zS) (Q : Option Value → zS → Prop) (h : zGi o 994 mdX5_here [.ref (z_adr o (23, 0, 0))] S (fun r2 S3 => zGv o 994 mdX5_skips [.ref (z_adr o (23, 0, 0))] (sI S3 (23, 0, 0) 31 ((S3.1 (23, 0, 0) 31) + 1)) (fun S6 => zGi o 994 mdX5_here [.ref (z_adr o (23, 0, 0))] S6 (fun r8 S9 => zGi o 994 mdX5_in [.int r8, .int 48, .int 51] S9 (fun r11 S12 => (¬ r11 = 0 → (zGi o 994 mdX5_here [.ref (z_adr o (23, 0, 0))] S12 (fun r15 S16 => zGv o 994 mdX5_skips [.ref (z_adr o (23, 0, 0))] (sI S16 (23, 0, 0) 31 ((S16.1 (23, 0, 0) 31) + 1)) (fun S19 => zGi o 994 mdX5_here [.ref (z_adr o (23, 0, 0))] S19 (fun r21 S22 => (¬ r21 = 61 → (zGi o 994 mdX5_ends [.ref (z_adr o (23, 0, 0))] S22 (fun r27 S28 => (¬ r27 = 0 → ((x1 = 0 → (Q (some (.int 1)) S28)) ∧ (¬ x1 = 0 → (zGi o 994 mdX5_done [.ref (z_adr o (23, 0, 0)), .int 0, .int (r2 - 97), .int (r15 - 48), .int 0] S28 (fun r33 S34 => Q (some (.int 1)) S34))))) ∧ (r27 = 0 → (Q (some (.int 0)) S28))))) ∧ (r21 = 61 → (zGi o 994 mdX5_number [.ref (z_adr o (23, 0, 0))] (sI S22 (23, 0, 0) 31 ((S22.1 (23, 0, 0) 31) + 1)) (fun r37 S38 => (¬ r37 = 0 → (zGi o 994 mdX5_ends [.ref (z_adr o (23, 0, 0))] S38 (fun r42 S43 => (¬ r42 = 0 → ((x1 = 0 → (Q (some (.int 1)) S43)) ∧ (¬ x1 = 0 → (zGi o 994 mdX5_done [.ref (z_adr o (23, 0, 0)), .int 1, .int (r2 - 97), .int (r15 - 48), .int (S38.1 (23, 0, 0) 33)] S43 (fun r48 S49 => Q (some (.int 1)) S49))))) ∧ (r42 = 0 → (Q (some (.int 0)) S43))))) ∧ (r37 = 0 → (Q (some (.int 0)) S38)))))))))) ∧ (r11 = 0 → (Q (some (.int 0)) S12))))))) : zG o 994 mdX5_readsBox 0 [(0, .ref (z_adr o (23, 0, 0))), (1, .int x1)] [] S Q := by
  show zJ o mdX5_readsBox 0 _ [] (994, z_enc o S) 0 0 _
  refine zJ.aload_n 0 dX5_readsBox_0 rfl rfl ?_
  refine zG.callVi [] [] (ob_23 o) ok_23 rfl dX5_readsBox_1 ⟨(cb_X5_here).1, (cb_X5_here).2, (Nat.le_of_ble_eq_true rfl), (Nat.le_of_ble_eq_true rfl)⟩ ml_X5_256 ci_X5_here cv_X5_here rfl (Nat.le_of_ble_eq_true rfl) (Nat.le_of_ble_eq_true rfl) rfl h (fun r2 S3 h2 => ?_)
  replace h := h2
  clear h2
  refine zJ.bipush (v := 97) dX5_readsBox_4 (by decide) ?_
  refine zJ.isub dX5_readsBox_6 ?_
  refine zJ.istore_n (lv' := [(2, .int (r2 - 97)), (0, .ref (z_adr o (23, 0, 0))), (1, .int x1)]) dX5_readsBox_7 rfl (Nat.le_of_ble_eq_true rfl) rfl ?_
  refine zJ.aload_n 1 dX5_readsBox_8 rfl rfl ?_
  refine zJ.dup dX5_readsBox_9 rfl ?_
  refine zE.getI (fd_23_31 o) ok_23 kiX5 (Nat.le_of_ble_eq_true rfl) fl_X5_253 dX5_readsBox_10 ?_
  refine zJ.iconst (v := 1) dX5_readsBox_13 (by decide) ?_
  refine zJ.iadd dX5_readsBox_14 ?_
  refine zE.putI (fd_23_31 o) ok_23 kiX5 (Nat.le_of_ble_eq_true rfl) fl_X5_253 rfl rfl dX5_readsBox_15 ?_
  refine zJ.aload_n 1 dX5_readsBox_18 rfl rfl ?_
  refine zG.callVv [] [] (ob_23 o) ok_23 rfl dX5_readsBox_19 ⟨(cb_X5_skips).1, (cb_X5_skips).2, (Nat.le_of_ble_eq_true rfl), (Nat.le_of_ble_eq_true rfl)⟩ ml_X5_262 ci_X5_skips cv_X5_skips rfl (Nat.le_of_ble_eq_true rfl) (Nat.le_of_ble_eq_true rfl) rfl h (fun S6 h2 => ?_)
  replace h := h2
  clear h2
  refine zJ.aload_n 1 dX5_readsBox_22 rfl rfl ?_
  refine zG.callVi [] [] (ob_23 o) ok_23 rfl dX5_readsBox_23 ⟨(cb_X5_here).1, (cb_X5_here).2, (Nat.le_of_ble_eq_true rfl), (Nat.le_of_ble_eq_true rfl)⟩ ml_X5_256 ci_X5_here cv_X5_here rfl (Nat.le_of_ble_eq_true rfl) (Nat.le_of_ble_eq_true rfl) rfl h (fun r8 S9 h2 => ?_)
  replace h := h2
  clear h2
  refine zJ.bipush (v := 48) dX5_readsBox_26 (by decide) ?_
  refine zJ.bipush (v := 51) dX5_readsBox_28 (by decide) ?_
  refine zG.callSi [.int r8, .int 48, .int 51] [] dX5_readsBox_30 ⟨(cb_X5_in).1, (cb_X5_in).2, (Nat.le_of_ble_eq_true rfl), (Nat.le_of_ble_eq_true rfl)⟩ ml_X5_101 cs_X5_in rfl (Nat.le_of_ble_eq_true rfl) (Nat.le_of_ble_eq_true rfl) rfl h (fun r11 S12 h2 => ?_)
  replace h := h2
  clear h2
  refine zJ.if_ne (tgt := 38) dX5_readsBox_33 (by decide) (fun c13 => ?_) (fun c13 => ?_)
  · replace h := h.1 c13
    refine zJ.aload_n 1 dX5_readsBox_38 rfl rfl ?_
    refine zG.callVi [] [] (ob_23 o) ok_23 rfl dX5_readsBox_39 ⟨(cb_X5_here).1, (cb_X5_here).2, (Nat.le_of_ble_eq_true rfl), (Nat.le_of_ble_eq_true rfl)⟩ ml_X5_256 ci_X5_here cv_X5_here rfl (Nat.le_of_ble_eq_true rfl) (Nat.le_of_ble_eq_true rfl) rfl h (fun r15 S16 h2 => ?_)
    replace h := h2
    clear h2
    refine zJ.bipush (v := 48) dX5_readsBox_42 (by decide) ?_
    refine zJ.isub dX5_readsBox_44 ?_
    refine zJ.istore_n (lv' := [(3, .int (r15 - 48)), (2, .int (r2 - 97)), (0, .ref (z_adr o (23, 0, 0))), (1, .int x1)]) dX5_readsBox_45 rfl (Nat.le_of_ble_eq_true rfl) rfl ?_
    refine zJ.aload_n 2 dX5_readsBox_46 rfl rfl ?_
    refine zJ.dup dX5_readsBox_47 rfl ?_
    refine zE.getI (fd_23_31 o) ok_23 kiX5 (Nat.le_of_ble_eq_true rfl) fl_X5_253 dX5_readsBox_48 ?_
    refine zJ.iconst (v := 1) dX5_readsBox_51 (by decide) ?_
    refine zJ.iadd dX5_readsBox_52 ?_
    refine zE.putI (fd_23_31 o) ok_23 kiX5 (Nat.le_of_ble_eq_true rfl) fl_X5_253 rfl rfl dX5_readsBox_53 ?_
    refine zJ.aload_n 2 dX5_readsBox_56 rfl rfl ?_
    refine zG.callVv [] [] (ob_23 o) ok_23 rfl dX5_readsBox_57 ⟨(cb_X5_skips).1, (cb_X5_skips).2, (Nat.le_of_ble_eq_true rfl), (Nat.le_of_ble_eq_true rfl)⟩ ml_X5_262 ci_X5_skips cv_X5_skips rfl (Nat.le_of_ble_eq_true rfl) (Nat.le_of_ble_eq_true rfl) rfl h (fun S19 h2 => ?_)
    replace h := h2
    clear h2
    refine zJ.aload_n 2 dX5_readsBox_60 rfl rfl ?_
    refine zG.callVi [] [] (ob_23 o) ok_23 rfl dX5_readsBox_61 ⟨(cb_X5_here).1, (cb_X5_here).2, (Nat.le_of_ble_eq_true rfl), (Nat.le_of_ble_eq_true rfl)⟩ ml_X5_256 ci_X5_here cv_X5_here rfl (Nat.le_of_ble_eq_true rfl) (Nat.le_of_ble_eq_true rfl) rfl h (fun r21 S22 h2 => ?_)
    replace h := h2
    clear h2
    refine zJ.bipush (v := 61) dX5_readsBox_64 (by decide) ?_
    refine zJ.icmp_ne (tgt := 73) dX5_readsBox_66 (by decide) (fun c23 => ?_) (fun c23 => ?_)
    · replace h := h.1 c23
      refine zJ.iconst (v := 0) dX5_readsBox_73 (by decide) ?_
      refine zJ.istore (lv' := [(4, .int 0), (3, .int (r15 - 48)), (2, .int (r2 - 97)), (0, .ref (z_adr o (23, 0, 0))), (1, .int x1)]) dX5_readsBox_74 (Nat.le_of_ble_eq_true rfl) rfl ?_
      refine zJ.iload 0 dX5_readsBox_76 rfl ?_
      refine zJ.if_eq (tgt := 100) dX5_readsBox_78 (by decide) (fun c24 => ?_) (fun c24 => absurd c24 (by decide))
      refine zJ.iload 0 dX5_readsBox_100 rfl ?_
      refine zJ.if_eq (tgt := 112) dX5_readsBox_102 (by decide) (fun c25 => ?_) (fun c25 => absurd c25 (by decide))
      refine zJ.iconst (v := 0) dX5_readsBox_112 (by decide) ?_
      refine zJ.istore (lv' := [(5, .int 0), (4, .int 0), (3, .int (r15 - 48)), (2, .int (r2 - 97)), (0, .ref (z_adr o (23, 0, 0))), (1, .int x1)]) dX5_readsBox_113 (Nat.le_of_ble_eq_true rfl) rfl ?_
      refine zJ.aload_n 4 dX5_readsBox_115 rfl rfl ?_
      refine zG.callVi [] [] (ob_23 o) ok_23 rfl dX5_readsBox_116 ⟨(cb_X5_ends).1, (cb_X5_ends).2, (Nat.le_of_ble_eq_true rfl), (Nat.le_of_ble_eq_true rfl)⟩ ml_X5_272 ci_X5_ends cv_X5_ends rfl (Nat.le_of_ble_eq_true rfl) (Nat.le_of_ble_eq_true rfl) rfl h (fun r27 S28 h2 => ?_)
      replace h := h2
      clear h2
      refine zJ.if_ne (tgt := 124) dX5_readsBox_119 (by decide) (fun c29 => ?_) (fun c29 => ?_)
      · replace h := h.1 c29
        refine zJ.iload_n 5 dX5_readsBox_124 rfl rfl ?_
        refine zJ.if_eq (tgt := 147) dX5_readsBox_125 (by decide) (fun c30 => ?_) (fun c30 => ?_)
        · replace h := h.1 c30
          refine zJ.iconst (v := 1) dX5_readsBox_147 (by decide) ?_
          exact zG.ret (r := some (.int 1)) ⟨dX5_readsBox_148, _, rfl, rfl⟩ h
        · replace h := h.2 c30
          refine zJ.aload_n 4 dX5_readsBox_128 rfl rfl ?_
          refine zJ.iload 1 dX5_readsBox_129 rfl ?_
          refine zJ.if_eq (tgt := 138) dX5_readsBox_131 (by decide) (fun c31 => ?_) (fun c31 => absurd c31 (by decide))
          refine zJ.iconst (v := 0) dX5_readsBox_138 (by decide) ?_
          refine zJ.iload_n 3 dX5_readsBox_139 rfl rfl ?_
          refine zJ.iload_n 2 dX5_readsBox_140 rfl rfl ?_
          refine zJ.iload 0 dX5_readsBox_141 rfl ?_
          refine zG.callVi [.int 0, .int (r2 - 97), .int (r15 - 48), .int 0] [] (ob_23 o) ok_23 rfl dX5_readsBox_143 ⟨(cb_X5_done).1, (cb_X5_done).2, (Nat.le_of_ble_eq_true rfl), (Nat.le_of_ble_eq_true rfl)⟩ ml_X5_203 ci_X5_done cv_X5_done rfl (Nat.le_of_ble_eq_true rfl) (Nat.le_of_ble_eq_true rfl) rfl h (fun r33 S34 h2 => ?_)
          replace h := h2
          clear h2
          refine zJ.pop dX5_readsBox_146 rfl ?_
          refine zJ.iconst (v := 1) dX5_readsBox_147 (by decide) ?_
          exact zG.ret (r := some (.int 1)) ⟨dX5_readsBox_148, _, rfl, rfl⟩ h
      · replace h := h.2 c29
        refine zJ.iconst (v := 0) dX5_readsBox_122 (by decide) ?_
        exact zG.ret (r := some (.int 0)) ⟨dX5_readsBox_123, _, rfl, rfl⟩ h
    · replace h := h.2 c23
      refine zJ.iconst (v := 1) dX5_readsBox_69 (by decide) ?_
      refine zJ.goto (tgt := 74) dX5_readsBox_70 (by decide) ?_
      refine zJ.istore (lv' := [(4, .int 1), (3, .int (r15 - 48)), (2, .int (r2 - 97)), (0, .ref (z_adr o (23, 0, 0))), (1, .int x1)]) dX5_readsBox_74 (Nat.le_of_ble_eq_true rfl) rfl ?_
      refine zJ.iload 0 dX5_readsBox_76 rfl ?_
      refine zJ.if_eq (tgt := 100) dX5_readsBox_78 (by decide) (fun c35 => absurd c35 (by decide)) (fun c35 => ?_)
      refine zJ.aload_n 3 dX5_readsBox_81 rfl rfl ?_
      refine zJ.dup dX5_readsBox_82 rfl ?_
      refine zE.getI (fd_23_31 o) ok_23 kiX5 (Nat.le_of_ble_eq_true rfl) fl_X5_253 dX5_readsBox_83 ?_
      refine zJ.iconst (v := 1) dX5_readsBox_86 (by decide) ?_
      refine zJ.iadd dX5_readsBox_87 ?_
      refine zE.putI (fd_23_31 o) ok_23 kiX5 (Nat.le_of_ble_eq_true rfl) fl_X5_253 rfl rfl dX5_readsBox_88 ?_
      refine zJ.aload_n 3 dX5_readsBox_91 rfl rfl ?_
      refine zG.callVi [] [] (ob_23 o) ok_23 rfl dX5_readsBox_92 ⟨(cb_X5_number).1, (cb_X5_number).2, (Nat.le_of_ble_eq_true rfl), (Nat.le_of_ble_eq_true rfl)⟩ ml_X5_268 ci_X5_number cv_X5_number rfl (Nat.le_of_ble_eq_true rfl) (Nat.le_of_ble_eq_true rfl) rfl h (fun r37 S38 h2 => ?_)
      replace h := h2
      clear h2
      refine zJ.if_ne (tgt := 100) dX5_readsBox_95 (by decide) (fun c39 => ?_) (fun c39 => ?_)
      · replace h := h.1 c39
        refine zJ.iload 0 dX5_readsBox_100 rfl ?_
        refine zJ.if_eq (tgt := 112) dX5_readsBox_102 (by decide) (fun c40 => absurd c40 (by decide)) (fun c40 => ?_)
        refine zJ.aload_n 3 dX5_readsBox_105 rfl rfl ?_
        refine zE.getI (fd_23_33 o) ok_23 kiX5 (Nat.le_of_ble_eq_true rfl) fl_X5_265 dX5_readsBox_106 ?_
        refine zJ.goto (tgt := 113) dX5_readsBox_109 (by decide) ?_
        refine zJ.istore (lv' := [(5, .int (S38.1 (23, 0, 0) 33)), (4, .int 1), (3, .int (r15 - 48)), (2, .int (r2 - 97)), (0, .ref (z_adr o (23, 0, 0))), (1, .int x1)]) dX5_readsBox_113 (Nat.le_of_ble_eq_true rfl) rfl ?_
        refine zJ.aload_n 4 dX5_readsBox_115 rfl rfl ?_
        refine zG.callVi [] [] (ob_23 o) ok_23 rfl dX5_readsBox_116 ⟨(cb_X5_ends).1, (cb_X5_ends).2, (Nat.le_of_ble_eq_true rfl), (Nat.le_of_ble_eq_true rfl)⟩ ml_X5_272 ci_X5_ends cv_X5_ends rfl (Nat.le_of_ble_eq_true rfl) (Nat.le_of_ble_eq_true rfl) rfl h (fun r42 S43 h2 => ?_)
        replace h := h2
        clear h2
        refine zJ.if_ne (tgt := 124) dX5_readsBox_119 (by decide) (fun c44 => ?_) (fun c44 => ?_)
        · replace h := h.1 c44
          refine zJ.iload_n 5 dX5_readsBox_124 rfl rfl ?_
          refine zJ.if_eq (tgt := 147) dX5_readsBox_125 (by decide) (fun c45 => ?_) (fun c45 => ?_)
          · replace h := h.1 c45
            refine zJ.iconst (v := 1) dX5_readsBox_147 (by decide) ?_
            exact zG.ret (r := some (.int 1)) ⟨dX5_readsBox_148, _, rfl, rfl⟩ h
          · replace h := h.2 c45
            refine zJ.aload_n 4 dX5_readsBox_128 rfl rfl ?_
            refine zJ.iload 1 dX5_readsBox_129 rfl ?_
            refine zJ.if_eq (tgt := 138) dX5_readsBox_131 (by decide) (fun c46 => absurd c46 (by decide)) (fun c46 => ?_)
            refine zJ.iconst (v := 1) dX5_readsBox_134 (by decide) ?_
            refine zJ.goto (tgt := 139) dX5_readsBox_135 (by decide) ?_
            refine zJ.iload_n 3 dX5_readsBox_139 rfl rfl ?_
            refine zJ.iload_n 2 dX5_readsBox_140 rfl rfl ?_
            refine zJ.iload 0 dX5_readsBox_141 rfl ?_
            refine zG.callVi [.int 1, .int (r2 - 97), .int (r15 - 48), .int (S38.1 (23, 0, 0) 33)] [] (ob_23 o) ok_23 rfl dX5_readsBox_143 ⟨(cb_X5_done).1, (cb_X5_done).2, (Nat.le_of_ble_eq_true rfl), (Nat.le_of_ble_eq_true rfl)⟩ ml_X5_203 ci_X5_done cv_X5_done rfl (Nat.le_of_ble_eq_true rfl) (Nat.le_of_ble_eq_true rfl) rfl h (fun r48 S49 h2 => ?_)
            replace h := h2
            clear h2
            refine zJ.pop dX5_readsBox_146 rfl ?_
            refine zJ.iconst (v := 1) dX5_readsBox_147 (by decide) ?_
            exact zG.ret (r := some (.int 1)) ⟨dX5_readsBox_148, _, rfl, rfl⟩ h
        · replace h := h.2 c44
          refine zJ.iconst (v := 0) dX5_readsBox_122 (by decide) ?_
          exact zG.ret (r := some (.int 0)) ⟨dX5_readsBox_123, _, rfl, rfl⟩ h
      · replace h := h.2 c39
        refine zJ.iconst (v := 0) dX5_readsBox_98 (by decide) ?_
        exact zG.ret (r := some (.int 0)) ⟨dX5_readsBox_99, _, rfl, rfl⟩ h
  · replace h := h.2 c13
    refine zJ.iconst (v := 0) dX5_readsBox_36 (by decide) ?_
    exact zG.ret (r := some (.int 0)) ⟨dX5_readsBox_37, _, rfl, rfl⟩ h
set_option maxRecDepth 100000 in
set_option maxHeartbeats 4000000 in
theorem w_X5_readsOrder_0 (o : zW) (x1 : Int32) (S : zS) (Q : Option Value → zS → Prop) (h : zGv o 994 mdX5_skips [.ref (z_adr o (23, 0, 0))] S (fun S3 => zGi o 994 mdX5_here [.ref (z_adr o (23, 0, 0))] S3 (fun r5 S6 => zGi o 994 mdX5_in [.int r5, .int 97, .int 112] S6 (fun r8 S9 => (r8 = 0 → ((¬ r5 = 33 → ((r5 = 35 → (zGi o 994 mdX5_number [.ref (z_adr o (23, 0, 0))] (sI S9 (23, 0, 0) 31 ((S9.1 (23, 0, 0) 31) + 1)) (fun r14 S15 => (¬ r14 = 0 → (zGi o 994 mdX5_ends [.ref (z_adr o (23, 0, 0))] S15 (fun r18 S19 => (¬ r18 = 0 → (zG o 994 mdX5_readsOrder 110 [(0, .ref (z_adr o (23, 0, 0))), (1, .int x1), (3, .int (S15.1 (23, 0, 0) 33)), (4, .int 0)] [] S19 Q)) ∧ (r18 = 0 → (Q (some (.int 0)) S19))))) ∧ (r14 = 0 → (Q (some (.int 0)) S15))))) ∧ (¬ r5 = 35 → (Q (some (.int 0)) S9)))) ∧ (r5 = 33 → (zGi o 994 mdX5_ends [.ref (z_adr o (23, 0, 0))] (sI S9 (23, 0, 0) 31 ((S9.1 (23, 0, 0) 31) + 1)) (fun r22 S23 => (¬ r22 = 0 → ((x1 = 0 → (Q (some (.int 1)) S23)) ∧ (¬ x1 = 0 → (zGi o 994 mdX5_done [.ref (z_adr o (23, 0, 0)), .int 2, .int 0, .int 0, .int 0] S23 (fun r27 S28 => Q (some (.int 1)) S28))))) ∧ (r22 = 0 → (Q (some (.int 0)) S23))))))) ∧ (¬ r8 = 0 → (zGi o 994 mdX5_readsBox [.ref (z_adr o (23, 0, 0)), .int x1] S9 (fun r30 S31 => narrow .boolean (.int r30) = .int r30 ∧ Q (some (.int r30)) S31))))))) : zG o 994 mdX5_readsOrder 0 [(0, .ref (z_adr o (23, 0, 0))), (1, .int x1)] [] S Q := by
  show zJ o mdX5_readsOrder 0 _ [] (994, z_enc o S) 0 0 _
  refine zJ.aload_n 0 dX5_readsOrder_0 rfl rfl ?_
  refine zG.callVv [] [] (ob_23 o) ok_23 rfl dX5_readsOrder_1 ⟨(cb_X5_skips).1, (cb_X5_skips).2, (Nat.le_of_ble_eq_true rfl), (Nat.le_of_ble_eq_true rfl)⟩ ml_X5_262 ci_X5_skips cv_X5_skips rfl (Nat.le_of_ble_eq_true rfl) (Nat.le_of_ble_eq_true rfl) rfl h (fun S3 h2 => ?_)
  replace h := h2
  clear h2
  refine zJ.aload_n 0 dX5_readsOrder_4 rfl rfl ?_
  refine zG.callVi [] [] (ob_23 o) ok_23 rfl dX5_readsOrder_5 ⟨(cb_X5_here).1, (cb_X5_here).2, (Nat.le_of_ble_eq_true rfl), (Nat.le_of_ble_eq_true rfl)⟩ ml_X5_256 ci_X5_here cv_X5_here rfl (Nat.le_of_ble_eq_true rfl) (Nat.le_of_ble_eq_true rfl) rfl h (fun r5 S6 h2 => ?_)
  replace h := h2
  clear h2
  refine zJ.istore_n (lv' := [(2, .int r5), (0, .ref (z_adr o (23, 0, 0))), (1, .int x1)]) dX5_readsOrder_8 rfl (Nat.le_of_ble_eq_true rfl) rfl ?_
  refine zJ.iload_n 0 dX5_readsOrder_9 rfl rfl ?_
  refine zJ.bipush (v := 97) dX5_readsOrder_10 (by decide) ?_
  refine zJ.bipush (v := 112) dX5_readsOrder_12 (by decide) ?_
  refine zG.callSi [.int r5, .int 97, .int 112] [] dX5_readsOrder_14 ⟨(cb_X5_in).1, (cb_X5_in).2, (Nat.le_of_ble_eq_true rfl), (Nat.le_of_ble_eq_true rfl)⟩ ml_X5_101 cs_X5_in rfl (Nat.le_of_ble_eq_true rfl) (Nat.le_of_ble_eq_true rfl) rfl h (fun r8 S9 h2 => ?_)
  replace h := h2
  clear h2
  refine zJ.if_eq (tgt := 26) dX5_readsOrder_17 (by decide) (fun c10 => ?_) (fun c10 => ?_)
  · replace h := h.1 c10
    refine zJ.iload_n 0 dX5_readsOrder_26 rfl rfl ?_
    refine zJ.bipush (v := 33) dX5_readsOrder_27 (by decide) ?_
    refine zJ.icmp_ne (tgt := 66) dX5_readsOrder_29 (by decide) (fun c11 => ?_) (fun c11 => ?_)
    · replace h := h.1 c11
      refine zJ.iload_n 0 dX5_readsOrder_66 rfl rfl ?_
      refine zJ.bipush (v := 35) dX5_readsOrder_67 (by decide) ?_
      refine zJ.icmp_eq (tgt := 74) dX5_readsOrder_69 (by decide) (fun c12 => ?_) (fun c12 => ?_)
      · replace h := h.1 c12
        refine zJ.aload_n 1 dX5_readsOrder_74 rfl rfl ?_
        refine zJ.dup dX5_readsOrder_75 rfl ?_
        refine zE.getI (fd_23_31 o) ok_23 kiX5 (Nat.le_of_ble_eq_true rfl) fl_X5_253 dX5_readsOrder_76 ?_
        refine zJ.iconst (v := 1) dX5_readsOrder_79 (by decide) ?_
        refine zJ.iadd dX5_readsOrder_80 ?_
        refine zE.putI (fd_23_31 o) ok_23 kiX5 (Nat.le_of_ble_eq_true rfl) fl_X5_253 rfl rfl dX5_readsOrder_81 ?_
        refine zJ.aload_n 1 dX5_readsOrder_84 rfl rfl ?_
        refine zG.callVi [] [] (ob_23 o) ok_23 rfl dX5_readsOrder_85 ⟨(cb_X5_number).1, (cb_X5_number).2, (Nat.le_of_ble_eq_true rfl), (Nat.le_of_ble_eq_true rfl)⟩ ml_X5_268 ci_X5_number cv_X5_number rfl (Nat.le_of_ble_eq_true rfl) (Nat.le_of_ble_eq_true rfl) rfl h (fun r14 S15 h2 => ?_)
        replace h := h2
        clear h2
        refine zJ.if_ne (tgt := 93) dX5_readsOrder_88 (by decide) (fun c16 => ?_) (fun c16 => ?_)
        · replace h := h.1 c16
          refine zJ.aload_n 1 dX5_readsOrder_93 rfl rfl ?_
          refine zE.getI (fd_23_33 o) ok_23 kiX5 (Nat.le_of_ble_eq_true rfl) fl_X5_265 dX5_readsOrder_94 ?_
          refine zJ.istore_n (lv' := [(3, .int (S15.1 (23, 0, 0) 33)), (2, .int r5), (0, .ref (z_adr o (23, 0, 0))), (1, .int x1)]) dX5_readsOrder_97 rfl (Nat.le_of_ble_eq_true rfl) rfl ?_
          refine zJ.aload_n 2 dX5_readsOrder_98 rfl rfl ?_
          refine zG.callVi [] [] (ob_23 o) ok_23 rfl dX5_readsOrder_99 ⟨(cb_X5_ends).1, (cb_X5_ends).2, (Nat.le_of_ble_eq_true rfl), (Nat.le_of_ble_eq_true rfl)⟩ ml_X5_272 ci_X5_ends cv_X5_ends rfl (Nat.le_of_ble_eq_true rfl) (Nat.le_of_ble_eq_true rfl) rfl h (fun r18 S19 h2 => ?_)
          replace h := h2
          clear h2
          refine zJ.if_ne (tgt := 107) dX5_readsOrder_102 (by decide) (fun c20 => ?_) (fun c20 => ?_)
          · replace h := h.1 c20
            refine zJ.iconst (v := 0) dX5_readsOrder_107 (by decide) ?_
            refine zJ.istore (lv' := [(4, .int 0), (3, .int (S15.1 (23, 0, 0) 33)), (2, .int r5), (0, .ref (z_adr o (23, 0, 0))), (1, .int x1)]) dX5_readsOrder_108 (Nat.le_of_ble_eq_true rfl) rfl ?_
            exact zJ.sub [3, 4, 1, 0] rfl h
          · replace h := h.2 c20
            refine zJ.iconst (v := 0) dX5_readsOrder_105 (by decide) ?_
            exact zG.ret (r := some (.int 0)) ⟨dX5_readsOrder_106, _, rfl, rfl⟩ h
        · replace h := h.2 c16
          refine zJ.iconst (v := 0) dX5_readsOrder_91 (by decide) ?_
          exact zG.ret (r := some (.int 0)) ⟨dX5_readsOrder_92, _, rfl, rfl⟩ h
      · replace h := h.2 c12
        refine zJ.iconst (v := 0) dX5_readsOrder_72 (by decide) ?_
        exact zG.ret (r := some (.int 0)) ⟨dX5_readsOrder_73, _, rfl, rfl⟩ h
    · replace h := h.2 c11
      refine zJ.aload_n 1 dX5_readsOrder_32 rfl rfl ?_
      refine zJ.dup dX5_readsOrder_33 rfl ?_
      refine zE.getI (fd_23_31 o) ok_23 kiX5 (Nat.le_of_ble_eq_true rfl) fl_X5_253 dX5_readsOrder_34 ?_
      refine zJ.iconst (v := 1) dX5_readsOrder_37 (by decide) ?_
      refine zJ.iadd dX5_readsOrder_38 ?_
      refine zE.putI (fd_23_31 o) ok_23 kiX5 (Nat.le_of_ble_eq_true rfl) fl_X5_253 rfl rfl dX5_readsOrder_39 ?_
      refine zJ.aload_n 1 dX5_readsOrder_42 rfl rfl ?_
      refine zG.callVi [] [] (ob_23 o) ok_23 rfl dX5_readsOrder_43 ⟨(cb_X5_ends).1, (cb_X5_ends).2, (Nat.le_of_ble_eq_true rfl), (Nat.le_of_ble_eq_true rfl)⟩ ml_X5_272 ci_X5_ends cv_X5_ends rfl (Nat.le_of_ble_eq_true rfl) (Nat.le_of_ble_eq_true rfl) rfl h (fun r22 S23 h2 => ?_)
      replace h := h2
      clear h2
      refine zJ.if_ne (tgt := 51) dX5_readsOrder_46 (by decide) (fun c24 => ?_) (fun c24 => ?_)
      · replace h := h.1 c24
        refine zJ.iload_n 2 dX5_readsOrder_51 rfl rfl ?_
        refine zJ.if_eq (tgt := 64) dX5_readsOrder_52 (by decide) (fun c25 => ?_) (fun c25 => ?_)
        · replace h := h.1 c25
          refine zJ.iconst (v := 1) dX5_readsOrder_64 (by decide) ?_
          exact zG.ret (r := some (.int 1)) ⟨dX5_readsOrder_65, _, rfl, rfl⟩ h
        · replace h := h.2 c25
          refine zJ.aload_n 1 dX5_readsOrder_55 rfl rfl ?_
          refine zJ.iconst (v := 2) dX5_readsOrder_56 (by decide) ?_
          refine zJ.iconst (v := 0) dX5_readsOrder_57 (by decide) ?_
          refine zJ.iconst (v := 0) dX5_readsOrder_58 (by decide) ?_
          refine zJ.iconst (v := 0) dX5_readsOrder_59 (by decide) ?_
          refine zG.callVi [.int 2, .int 0, .int 0, .int 0] [] (ob_23 o) ok_23 rfl dX5_readsOrder_60 ⟨(cb_X5_done).1, (cb_X5_done).2, (Nat.le_of_ble_eq_true rfl), (Nat.le_of_ble_eq_true rfl)⟩ ml_X5_203 ci_X5_done cv_X5_done rfl (Nat.le_of_ble_eq_true rfl) (Nat.le_of_ble_eq_true rfl) rfl h (fun r27 S28 h2 => ?_)
          replace h := h2
          clear h2
          refine zJ.pop dX5_readsOrder_63 rfl ?_
          refine zJ.iconst (v := 1) dX5_readsOrder_64 (by decide) ?_
          exact zG.ret (r := some (.int 1)) ⟨dX5_readsOrder_65, _, rfl, rfl⟩ h
      · replace h := h.2 c24
        refine zJ.iconst (v := 0) dX5_readsOrder_49 (by decide) ?_
        exact zG.ret (r := some (.int 0)) ⟨dX5_readsOrder_50, _, rfl, rfl⟩ h
  · replace h := h.2 c10
    refine zJ.aload_n 1 dX5_readsOrder_20 rfl rfl ?_
    refine zJ.iload_n 2 dX5_readsOrder_21 rfl rfl ?_
    refine zG.callVi [.int x1] [] (ob_23 o) ok_23 rfl dX5_readsOrder_22 ⟨(cb_X5_readsBox).1, (cb_X5_readsBox).2, (Nat.le_of_ble_eq_true rfl), (Nat.le_of_ble_eq_true rfl)⟩ ml_X5_275 ci_X5_readsBox cv_X5_readsBox rfl (Nat.le_of_ble_eq_true rfl) (Nat.le_of_ble_eq_true rfl) rfl h (fun r30 S31 h2 => ?_)
    replace h := h2
    clear h2
    exact zG.ret (r := some (.int r30)) ⟨dX5_readsOrder_25, _, rfl, h.1⟩ h.2
set_option maxRecDepth 100000 in
set_option maxHeartbeats 4000000 in
theorem w_X5_readsOrder_110 (o : zW) (x1 : Int32) (x3 : Int32) (x4 : Int32) (S : zS) (Q : Option Value → zS → Prop) (h : (x3 ≤ x4 → (Q (some (.int 1)) S)) ∧ (¬ x3 ≤ x4 → ((x1 = 0 → (Q (some (.int 1)) S)) ∧ (¬ x1 = 0 → (zGv o 994 mdX5_goesBy [.ref (z_adr o (23, 0, 0))] S (fun S5 => zG o 994 mdX5_readsOrder 110 [(0, .ref (z_adr o (23, 0, 0))), (1, .int x1), (3, .int x3), (4, .int (x4 + 1))] [] S5 Q)))))) : zG o 994 mdX5_readsOrder 110 [(0, .ref (z_adr o (23, 0, 0))), (1, .int x1), (3, .int x3), (4, .int x4)] [] S Q := by
  show zJ o mdX5_readsOrder 110 _ [] (994, z_enc o S) 0 0 _
  refine zJ.iload 3 dX5_readsOrder_110 rfl ?_
  refine zJ.iload_n 2 dX5_readsOrder_112 rfl rfl ?_
  refine zJ.icmp_ge (tgt := 130) dX5_readsOrder_113 (by decide) (fun c1 => ?_) (fun c1 => ?_)
  · replace h := h.1 c1
    refine zJ.iconst (v := 1) dX5_readsOrder_130 (by decide) ?_
    exact zG.ret (r := some (.int 1)) ⟨dX5_readsOrder_131, _, rfl, rfl⟩ h
  · replace h := h.2 c1
    refine zJ.iload_n 1 dX5_readsOrder_116 rfl rfl ?_
    refine zJ.if_eq (tgt := 130) dX5_readsOrder_117 (by decide) (fun c2 => ?_) (fun c2 => ?_)
    · replace h := h.1 c2
      refine zJ.iconst (v := 1) dX5_readsOrder_130 (by decide) ?_
      exact zG.ret (r := some (.int 1)) ⟨dX5_readsOrder_131, _, rfl, rfl⟩ h
    · replace h := h.2 c2
      refine zJ.aload_n 0 dX5_readsOrder_120 rfl rfl ?_
      refine zG.callVv [] [] (ob_23 o) ok_23 rfl dX5_readsOrder_121 ⟨(cb_X5_goesBy).1, (cb_X5_goesBy).2, (Nat.le_of_ble_eq_true rfl), (Nat.le_of_ble_eq_true rfl)⟩ ml_X5_188 ci_X5_goesBy cv_X5_goesBy rfl (Nat.le_of_ble_eq_true rfl) (Nat.le_of_ble_eq_true rfl) rfl h (fun S5 h2 => ?_)
      replace h := h2
      clear h2
      refine zJ.iinc (k := 3) (lv' := [(4, .int (x4 + 1)), (0, .ref (z_adr o (23, 0, 0))), (1, .int x1), (3, .int x3)]) dX5_readsOrder_124 rfl rfl (Nat.le_of_ble_eq_true rfl) rfl ?_
      refine zJ.goto (tgt := 110) dX5_readsOrder_127 (by decide) ?_
      exact zJ.sub [1, 2, 3, 0] rfl h
set_option maxRecDepth 100000 in
set_option maxHeartbeats 4000000 in
theorem w_X5_goesThrough_0 (o : zW) (x1 : Int32) (S : zS) (Q : Option Value → zS → Prop) (h : zGv o 994 mdX5_skips [.ref (z_adr o (23, 0, 0))] (sI S (23, 0, 0) 31 0) (fun S3 => (¬ (S3.1 (23, 0, 0) 31) = (S3.1 (23, 0, 0) 30) → (zG o 994 mdX5_goesThrough 28 [(0, .ref (z_adr o (23, 0, 0))), (1, .int x1)] [] S3 Q)) ∧ ((S3.1 (23, 0, 0) 31) = (S3.1 (23, 0, 0) 30) → (Q (some (.int ((-10) - (S3.1 (23, 0, 0) 30)))) S3)))) : zG o 994 mdX5_goesThrough 0 [(0, .ref (z_adr o (23, 0, 0))), (1, .int x1)] [] S Q := by
  show zJ o mdX5_goesThrough 0 _ [] (994, z_enc o S) 0 0 _
  refine zJ.aload_n 0 dX5_goesThrough_0 rfl rfl ?_
  refine zJ.iconst (v := 0) dX5_goesThrough_1 (by decide) ?_
  refine zE.putI (fd_23_31 o) ok_23 kiX5 (Nat.le_of_ble_eq_true rfl) fl_X5_253 rfl rfl dX5_goesThrough_2 ?_
  refine zJ.aload_n 0 dX5_goesThrough_5 rfl rfl ?_
  refine zG.callVv [] [] (ob_23 o) ok_23 rfl dX5_goesThrough_6 ⟨(cb_X5_skips).1, (cb_X5_skips).2, (Nat.le_of_ble_eq_true rfl), (Nat.le_of_ble_eq_true rfl)⟩ ml_X5_262 ci_X5_skips cv_X5_skips rfl (Nat.le_of_ble_eq_true rfl) (Nat.le_of_ble_eq_true rfl) rfl h (fun S3 h2 => ?_)
  replace h := h2
  clear h2
  refine zJ.aload_n 0 dX5_goesThrough_9 rfl rfl ?_
  refine zE.getI (fd_23_31 o) ok_23 kiX5 (Nat.le_of_ble_eq_true rfl) fl_X5_253 dX5_goesThrough_10 ?_
  refine zJ.aload_n 0 dX5_goesThrough_13 rfl rfl ?_
  refine zE.getI (fd_23_30 o) ok_23 kiX5 (Nat.le_of_ble_eq_true rfl) fl_X5_250 dX5_goesThrough_14 ?_
  refine zJ.icmp_ne (tgt := 28) dX5_goesThrough_17 (by decide) (fun c4 => ?_) (fun c4 => ?_)
  · replace h := h.1 c4
    exact h
  · replace h := h.2 c4
    refine zJ.bipush (v := (-10)) dX5_goesThrough_20 (by decide) ?_
    refine zJ.aload_n 0 dX5_goesThrough_22 rfl rfl ?_
    refine zE.getI (fd_23_30 o) ok_23 kiX5 (Nat.le_of_ble_eq_true rfl) fl_X5_250 dX5_goesThrough_23 ?_
    refine zJ.isub dX5_goesThrough_26 ?_
    exact zG.ret (r := some (.int ((-10) - (S3.1 (23, 0, 0) 30)))) ⟨dX5_goesThrough_27, _, rfl, rfl⟩ h
set_option maxRecDepth 100000 in
set_option maxHeartbeats 4000000 in
theorem w_X5_goesThrough_28 (o : zW) (x1 : Int32) (S : zS) (Q : Option Value → zS → Prop) (h : ((S.1 (23, 0, 0) 30) ≤ (S.1 (23, 0, 0) 31) → (Q (some (.int 0)) S)) ∧ (¬ (S.1 (23, 0, 0) 30) ≤ (S.1 (23, 0, 0) 31) → (zGi o 994 mdX5_readsOrder [.ref (z_adr o (23, 0, 0)), .int x1] S (fun r3 S4 => (¬ r3 = 0 → (zGv o 994 mdX5_skips [.ref (z_adr o (23, 0, 0))] S4 (fun S8 => zG o 994 mdX5_goesThrough 28 [(0, .ref (z_adr o (23, 0, 0))), (1, .int x1)] [] S8 Q))) ∧ (r3 = 0 → (Q (some (.int ((-10) - (S4.1 (23, 0, 0) 32)))) S4)))))) : zG o 994 mdX5_goesThrough 28 [(0, .ref (z_adr o (23, 0, 0))), (1, .int x1)] [] S Q := by
  show zJ o mdX5_goesThrough 28 _ [] (994, z_enc o S) 0 0 _
  refine zJ.aload_n 0 dX5_goesThrough_28 rfl rfl ?_
  refine zE.getI (fd_23_31 o) ok_23 kiX5 (Nat.le_of_ble_eq_true rfl) fl_X5_253 dX5_goesThrough_29 ?_
  refine zJ.aload_n 0 dX5_goesThrough_32 rfl rfl ?_
  refine zE.getI (fd_23_30 o) ok_23 kiX5 (Nat.le_of_ble_eq_true rfl) fl_X5_250 dX5_goesThrough_33 ?_
  refine zJ.icmp_ge (tgt := 62) dX5_goesThrough_36 (by decide) (fun c1 => ?_) (fun c1 => ?_)
  · replace h := h.1 c1
    refine zJ.iconst (v := 0) dX5_goesThrough_62 (by decide) ?_
    exact zG.ret (r := some (.int 0)) ⟨dX5_goesThrough_63, _, rfl, rfl⟩ h
  · replace h := h.2 c1
    refine zJ.aload_n 0 dX5_goesThrough_39 rfl rfl ?_
    refine zJ.iload_n 1 dX5_goesThrough_40 rfl rfl ?_
    refine zG.callVi [.int x1] [] (ob_23 o) ok_23 rfl dX5_goesThrough_41 ⟨(cb_X5_readsOrder).1, (cb_X5_readsOrder).2, (Nat.le_of_ble_eq_true rfl), (Nat.le_of_ble_eq_true rfl)⟩ ml_X5_279 ci_X5_readsOrder cv_X5_readsOrder rfl (Nat.le_of_ble_eq_true rfl) (Nat.le_of_ble_eq_true rfl) rfl h (fun r3 S4 h2 => ?_)
    replace h := h2
    clear h2
    refine zJ.if_ne (tgt := 55) dX5_goesThrough_44 (by decide) (fun c5 => ?_) (fun c5 => ?_)
    · replace h := h.1 c5
      refine zJ.aload_n 0 dX5_goesThrough_55 rfl rfl ?_
      refine zG.callVv [] [] (ob_23 o) ok_23 rfl dX5_goesThrough_56 ⟨(cb_X5_skips).1, (cb_X5_skips).2, (Nat.le_of_ble_eq_true rfl), (Nat.le_of_ble_eq_true rfl)⟩ ml_X5_262 ci_X5_skips cv_X5_skips rfl (Nat.le_of_ble_eq_true rfl) (Nat.le_of_ble_eq_true rfl) rfl h (fun S8 h2 => ?_)
      replace h := h2
      clear h2
      refine zJ.goto (tgt := 28) dX5_goesThrough_59 (by decide) ?_
      exact h
    · replace h := h.2 c5
      refine zJ.bipush (v := (-10)) dX5_goesThrough_47 (by decide) ?_
      refine zJ.aload_n 0 dX5_goesThrough_49 rfl rfl ?_
      refine zE.getI (fd_23_32 o) ok_23 kiX5 (Nat.le_of_ble_eq_true rfl) fl_X5_259 dX5_goesThrough_50 ?_
      refine zJ.isub dX5_goesThrough_53 ?_
      exact zG.ret (r := some (.int ((-10) - (S4.1 (23, 0, 0) 32)))) ⟨dX5_goesThrough_54, _, rfl, rfl⟩ h
set_option maxRecDepth 100000 in
set_option maxHeartbeats 4000000 in
theorem w_X5_runs_0 (o : zW)  (S : zS) (Q : Option Value → zS → Prop) (h : zGi o 994 mdX5_goesThrough [.ref (z_adr o (23, 0, 0)), .int 0] S (fun r2 S3 => (0 ≤ r2 → (zGv o 994 mdX5_leavesState [.ref (z_adr o (23, 0, 0))] S3 (fun S7 => zGi o 994 mdX5_goesThrough [.ref (z_adr o (23, 0, 0)), .int 1] S7 (fun r9 S10 => Q (some (.int ((S10.1 (40, 0, 0) 9) - (S7.1 (40, 0, 0) 9)))) S10)))) ∧ (¬ 0 ≤ r2 → (Q (some (.int r2)) S3)))) : zG o 994 mdX5_runs 0 [(0, .ref (z_adr o (23, 0, 0)))] [] S Q := by
  show zJ o mdX5_runs 0 _ [] (994, z_enc o S) 0 0 _
  refine zJ.aload_n 0 dX5_runs_0 rfl rfl ?_
  refine zJ.iconst (v := 0) dX5_runs_1 (by decide) ?_
  refine zG.callVi [.int 0] [] (ob_23 o) ok_23 rfl dX5_runs_2 ⟨(cb_X5_goesThrough).1, (cb_X5_goesThrough).2, (Nat.le_of_ble_eq_true rfl), (Nat.le_of_ble_eq_true rfl)⟩ ml_X5_282 ci_X5_goesThrough cv_X5_goesThrough rfl (Nat.le_of_ble_eq_true rfl) (Nat.le_of_ble_eq_true rfl) rfl h (fun r2 S3 h2 => ?_)
  replace h := h2
  clear h2
  refine zJ.istore_n (lv' := [(1, .int r2), (0, .ref (z_adr o (23, 0, 0)))]) dX5_runs_5 rfl (Nat.le_of_ble_eq_true rfl) rfl ?_
  refine zJ.iload_n 0 dX5_runs_6 rfl rfl ?_
  refine zJ.if_ge (tgt := 12) dX5_runs_7 (by decide) (fun c4 => ?_) (fun c4 => ?_)
  · replace h := h.1 c4
    refine zJ.aload_n 1 dX5_runs_12 rfl rfl ?_
    refine zG.callVv [] [] (ob_23 o) ok_23 rfl dX5_runs_13 ⟨(cb_X5_leavesState).1, (cb_X5_leavesState).2, (Nat.le_of_ble_eq_true rfl), (Nat.le_of_ble_eq_true rfl)⟩ ml_X5_134 ci_X5_leavesState cv_X5_leavesState rfl (Nat.le_of_ble_eq_true rfl) (Nat.le_of_ble_eq_true rfl) rfl h (fun S7 h2 => ?_)
    replace h := h2
    clear h2
    refine zJ.aload_n 1 dX5_runs_16 rfl rfl ?_
    refine zE.getV (fd_23_16 o) ok_23 kiX5 (Nat.le_of_ble_eq_true rfl) fl_X5_58 dX5_runs_17 ?_
    refine zJ.bipush (v := 9) dX5_runs_20 (by decide) ?_
    refine zE.aldI (ia_40 o) ok_40 (by unfold vp_in; decide) dX5_runs_22 ?_
    refine zJ.istore_n (lv' := [(2, .int (S7.1 (40, 0, 0) 9)), (1, .int r2), (0, .ref (z_adr o (23, 0, 0)))]) dX5_runs_23 rfl (Nat.le_of_ble_eq_true rfl) rfl ?_
    refine zJ.aload_n 2 dX5_runs_24 rfl rfl ?_
    refine zJ.iconst (v := 1) dX5_runs_25 (by decide) ?_
    refine zG.callVi [.int 1] [] (ob_23 o) ok_23 rfl dX5_runs_26 ⟨(cb_X5_goesThrough).1, (cb_X5_goesThrough).2, (Nat.le_of_ble_eq_true rfl), (Nat.le_of_ble_eq_true rfl)⟩ ml_X5_282 ci_X5_goesThrough cv_X5_goesThrough rfl (Nat.le_of_ble_eq_true rfl) (Nat.le_of_ble_eq_true rfl) rfl h (fun r9 S10 h2 => ?_)
    replace h := h2
    clear h2
    refine zJ.pop dX5_runs_29 rfl ?_
    refine zJ.aload_n 2 dX5_runs_30 rfl rfl ?_
    refine zE.getV (fd_23_16 o) ok_23 kiX5 (Nat.le_of_ble_eq_true rfl) fl_X5_58 dX5_runs_31 ?_
    refine zJ.bipush (v := 9) dX5_runs_34 (by decide) ?_
    refine zE.aldI (ia_40 o) ok_40 (by unfold vp_in; decide) dX5_runs_36 ?_
    refine zJ.iload_n 0 dX5_runs_37 rfl rfl ?_
    refine zJ.isub dX5_runs_38 ?_
    exact zG.ret (r := some (.int ((S10.1 (40, 0, 0) 9) - (S7.1 (40, 0, 0) 9)))) ⟨dX5_runs_39, _, rfl, rfl⟩ h
  · replace h := h.2 c4
    refine zJ.iload_n 0 dX5_runs_10 rfl rfl ?_
    exact zG.ret (r := some (.int r2)) ⟨dX5_runs_11, _, rfl, rfl⟩ h
set_option maxRecDepth 100000 in
set_option maxHeartbeats 4000000 in
theorem w_X5_ticksBy_0 (o : zW) (x1 : Int32) (S : zS) (Q : Option Value → zS → Prop) (h : zGv o 994 mdX5_begins [.ref (z_adr o (23, 0, 0))] (sI S (25, 0, 0) 2 x1) (fun S3 => zGi o 994 mdX5_goesThrough [.ref (z_adr o (23, 0, 0)), .int 1] S3 (fun r5 S6 => zG o 994 mdX5_ticksBy 17 [(0, .ref (z_adr o (23, 0, 0)))] [] S6 Q))) : zG o 994 mdX5_ticksBy 0 [(0, .ref (z_adr o (23, 0, 0))), (1, .int x1)] [] S Q := by
  show zJ o mdX5_ticksBy 0 _ [] (994, z_enc o S) 0 0 _
  refine zJ.aload_n 0 dX5_ticksBy_0 rfl rfl ?_
  refine zE.getV (fd_23_1 o) ok_23 kiX5 (Nat.le_of_ble_eq_true rfl) fl_X5_13 dX5_ticksBy_1 ?_
  refine zJ.iconst (v := 2) dX5_ticksBy_4 (by decide) ?_
  refine zJ.iload_n 1 dX5_ticksBy_5 rfl rfl ?_
  refine zE.astI (ia_25 o) ok_25 (by unfold vp_in; decide) dX5_ticksBy_6 ?_
  refine zJ.aload_n 0 dX5_ticksBy_7 rfl rfl ?_
  refine zG.callVv [] [] (ob_23 o) ok_23 rfl dX5_ticksBy_8 ⟨(cb_X5_begins).1, (cb_X5_begins).2, (Nat.le_of_ble_eq_true rfl), (Nat.le_of_ble_eq_true rfl)⟩ ml_X5_87 ci_X5_begins cv_X5_begins rfl (Nat.le_of_ble_eq_true rfl) (Nat.le_of_ble_eq_true rfl) rfl h (fun S3 h2 => ?_)
  replace h := h2
  clear h2
  refine zJ.aload_n 0 dX5_ticksBy_11 rfl rfl ?_
  refine zJ.iconst (v := 1) dX5_ticksBy_12 (by decide) ?_
  refine zG.callVi [.int 1] [] (ob_23 o) ok_23 rfl dX5_ticksBy_13 ⟨(cb_X5_goesThrough).1, (cb_X5_goesThrough).2, (Nat.le_of_ble_eq_true rfl), (Nat.le_of_ble_eq_true rfl)⟩ ml_X5_282 ci_X5_goesThrough cv_X5_goesThrough rfl (Nat.le_of_ble_eq_true rfl) (Nat.le_of_ble_eq_true rfl) rfl h (fun r5 S6 h2 => ?_)
  replace h := h2
  clear h2
  refine zJ.pop dX5_ticksBy_16 rfl ?_
  exact zJ.sub [0] rfl h
set_option maxRecDepth 100000 in
set_option maxHeartbeats 4000000 in
theorem w_X5_ticksBy_17 (o : zW)  (S : zS) (Q : Option Value → zS → Prop) (h : ((S.1 (39, 0, 0) 0) ≤ 0 → (Q (some (.int (S.1 (40, 0, 0) 9))) S)) ∧ (¬ (S.1 (39, 0, 0) 0) ≤ 0 → (zGv o 994 mdX5_goesBy [.ref (z_adr o (23, 0, 0))] S (fun S4 => zG o 994 mdX5_ticksBy 17 [(0, .ref (z_adr o (23, 0, 0)))] [] S4 Q)))) : zG o 994 mdX5_ticksBy 17 [(0, .ref (z_adr o (23, 0, 0)))] [] S Q := by
  show zJ o mdX5_ticksBy 17 _ [] (994, z_enc o S) 0 0 _
  refine zJ.aload_n 0 dX5_ticksBy_17 rfl rfl ?_
  refine zE.getV (fd_23_15 o) ok_23 kiX5 (Nat.le_of_ble_eq_true rfl) fl_X5_55 dX5_ticksBy_18 ?_
  refine zJ.iconst (v := 0) dX5_ticksBy_21 (by decide) ?_
  refine zE.aldI (ia_39 o) ok_39 (by unfold vp_in; decide) dX5_ticksBy_22 ?_
  refine zJ.if_le (tgt := 33) dX5_ticksBy_23 (by decide) (fun c1 => ?_) (fun c1 => ?_)
  · replace h := h.1 c1
    refine zJ.aload_n 0 dX5_ticksBy_33 rfl rfl ?_
    refine zE.getV (fd_23_16 o) ok_23 kiX5 (Nat.le_of_ble_eq_true rfl) fl_X5_58 dX5_ticksBy_34 ?_
    refine zJ.bipush (v := 9) dX5_ticksBy_37 (by decide) ?_
    refine zE.aldI (ia_40 o) ok_40 (by unfold vp_in; decide) dX5_ticksBy_39 ?_
    exact zG.ret (r := some (.int (S.1 (40, 0, 0) 9))) ⟨dX5_ticksBy_40, _, rfl, rfl⟩ h
  · replace h := h.2 c1
    refine zJ.aload_n 0 dX5_ticksBy_26 rfl rfl ?_
    refine zG.callVv [] [] (ob_23 o) ok_23 rfl dX5_ticksBy_27 ⟨(cb_X5_goesBy).1, (cb_X5_goesBy).2, (Nat.le_of_ble_eq_true rfl), (Nat.le_of_ble_eq_true rfl)⟩ ml_X5_188 ci_X5_goesBy cv_X5_goesBy rfl (Nat.le_of_ble_eq_true rfl) (Nat.le_of_ble_eq_true rfl) rfl h (fun S4 h2 => ?_)
    replace h := h2
    clear h2
    refine zJ.goto (tgt := 17) dX5_ticksBy_30 (by decide) ?_
    exact h
set_option maxRecDepth 100000 in
set_option maxHeartbeats 4000000 in
theorem w_X5_best_0 (o : zW) (x1 : Int32) (S : zS) (Q : Option Value → zS → Prop) (h : zGi o 994 mdX5_in [.int x1, .int 0, .int 1] S (fun r2 S3 => (¬ r2 = 0 → (zGi o 994 mdX5_goesThrough [.ref (z_adr o (23, 0, 0)), .int 0] S3 (fun r6 S7 => (0 ≤ r6 → (zGv o 994 mdX5_keeps [.ref (z_adr o (23, 0, 0)), .int 6] S7 (fun S11 => zGi o 994 mdX5_ticksBy [.ref (z_adr o (23, 0, 0)), .int 1] S11 (fun r13 S14 => zG o 994 mdX5_best 44 [(0, .ref (z_adr o (23, 0, 0))), (1, .int x1), (3, .int 1), (4, .int r13), (5, .int 2)] [] S14 Q)))) ∧ (¬ 0 ≤ r6 → (Q (some (.int r6)) S7))))) ∧ (r2 = 0 → (zGi o 994 mdX5_bad [.ref (z_adr o (23, 0, 0))] S3 (fun r16 S17 => Q (some (.int r16)) S17))))) : zG o 994 mdX5_best 0 [(0, .ref (z_adr o (23, 0, 0))), (1, .int x1)] [] S Q := by
  show zJ o mdX5_best 0 _ [] (994, z_enc o S) 0 0 _
  refine zJ.iload_n 1 dX5_best_0 rfl rfl ?_
  refine zJ.iconst (v := 0) dX5_best_1 (by decide) ?_
  refine zJ.iconst (v := 1) dX5_best_2 (by decide) ?_
  refine zG.callSi [.int x1, .int 0, .int 1] [] dX5_best_3 ⟨(cb_X5_in).1, (cb_X5_in).2, (Nat.le_of_ble_eq_true rfl), (Nat.le_of_ble_eq_true rfl)⟩ ml_X5_101 cs_X5_in rfl (Nat.le_of_ble_eq_true rfl) (Nat.le_of_ble_eq_true rfl) rfl h (fun r2 S3 h2 => ?_)
  replace h := h2
  clear h2
  refine zJ.if_ne (tgt := 14) dX5_best_6 (by decide) (fun c4 => ?_) (fun c4 => ?_)
  · replace h := h.1 c4
    refine zJ.aload_n 0 dX5_best_14 rfl rfl ?_
    refine zJ.iconst (v := 0) dX5_best_15 (by decide) ?_
    refine zG.callVi [.int 0] [] (ob_23 o) ok_23 rfl dX5_best_16 ⟨(cb_X5_goesThrough).1, (cb_X5_goesThrough).2, (Nat.le_of_ble_eq_true rfl), (Nat.le_of_ble_eq_true rfl)⟩ ml_X5_282 ci_X5_goesThrough cv_X5_goesThrough rfl (Nat.le_of_ble_eq_true rfl) (Nat.le_of_ble_eq_true rfl) rfl h (fun r6 S7 h2 => ?_)
    replace h := h2
    clear h2
    refine zJ.istore_n (lv' := [(2, .int r6), (0, .ref (z_adr o (23, 0, 0))), (1, .int x1)]) dX5_best_19 rfl (Nat.le_of_ble_eq_true rfl) rfl ?_
    refine zJ.iload_n 0 dX5_best_20 rfl rfl ?_
    refine zJ.if_ge (tgt := 26) dX5_best_21 (by decide) (fun c8 => ?_) (fun c8 => ?_)
    · replace h := h.1 c8
      refine zJ.aload_n 1 dX5_best_26 rfl rfl ?_
      refine zJ.bipush (v := 6) dX5_best_27 (by decide) ?_
      refine zG.callVv [.int 6] [] (ob_23 o) ok_23 rfl dX5_best_29 ⟨(cb_X5_keeps).1, (cb_X5_keeps).2, (Nat.le_of_ble_eq_true rfl), (Nat.le_of_ble_eq_true rfl)⟩ ml_X5_119 ci_X5_keeps cv_X5_keeps rfl (Nat.le_of_ble_eq_true rfl) (Nat.le_of_ble_eq_true rfl) rfl h (fun S11 h2 => ?_)
      replace h := h2
      clear h2
      refine zJ.iconst (v := 1) dX5_best_32 (by decide) ?_
      refine zJ.istore_n (lv' := [(3, .int 1), (2, .int r6), (0, .ref (z_adr o (23, 0, 0))), (1, .int x1)]) dX5_best_33 rfl (Nat.le_of_ble_eq_true rfl) rfl ?_
      refine zJ.aload_n 2 dX5_best_34 rfl rfl ?_
      refine zJ.iconst (v := 1) dX5_best_35 (by decide) ?_
      refine zG.callVi [.int 1] [] (ob_23 o) ok_23 rfl dX5_best_36 ⟨(cb_X5_ticksBy).1, (cb_X5_ticksBy).2, (Nat.le_of_ble_eq_true rfl), (Nat.le_of_ble_eq_true rfl)⟩ ml_X5_286 ci_X5_ticksBy cv_X5_ticksBy rfl (Nat.le_of_ble_eq_true rfl) (Nat.le_of_ble_eq_true rfl) rfl h (fun r13 S14 h2 => ?_)
      replace h := h2
      clear h2
      refine zJ.istore (lv' := [(4, .int r13), (3, .int 1), (2, .int r6), (0, .ref (z_adr o (23, 0, 0))), (1, .int x1)]) dX5_best_39 (Nat.le_of_ble_eq_true rfl) rfl ?_
      refine zJ.iconst (v := 2) dX5_best_41 (by decide) ?_
      refine zJ.istore (lv' := [(5, .int 2), (4, .int r13), (3, .int 1), (2, .int r6), (0, .ref (z_adr o (23, 0, 0))), (1, .int x1)]) dX5_best_42 (Nat.le_of_ble_eq_true rfl) rfl ?_
      exact zJ.sub [4, 5, 2, 1, 0] rfl h
    · replace h := h.2 c8
      refine zJ.iload_n 0 dX5_best_24 rfl rfl ?_
      exact zG.ret (r := some (.int r6)) ⟨dX5_best_25, _, rfl, rfl⟩ h
  · replace h := h.2 c4
    refine zJ.aload_n 0 dX5_best_9 rfl rfl ?_
    refine zG.callVi [] [] (ob_23 o) ok_23 rfl dX5_best_10 ⟨(cb_X5_bad).1, (cb_X5_bad).2, (Nat.le_of_ble_eq_true rfl), (Nat.le_of_ble_eq_true rfl)⟩ ml_X5_130 ci_X5_bad cv_X5_bad rfl (Nat.le_of_ble_eq_true rfl) (Nat.le_of_ble_eq_true rfl) rfl h (fun r16 S17 h2 => ?_)
    replace h := h2
    clear h2
    exact zG.ret (r := some (.int r16)) ⟨dX5_best_13, _, rfl, rfl⟩ h
set_option maxRecDepth 100000 in
set_option maxHeartbeats 4000000 in
theorem w_X5_best_44 (o : zW) (x1 : Int32) (x3 : Int32) (x4 : Int32) (x5 : Int32) (S : zS) (Q : Option Value → zS → Prop) (h : (4 < x5 → (zGv o 994 mdX5_comesBack [.ref (z_adr o (23, 0, 0)), .int 6] S (fun S4 => (¬ x1 = 0 → (Q (some (.int x4)) S4)) ∧ (x1 = 0 → (Q (some (.int x3)) S4))))) ∧ (¬ 4 < x5 → (zGi o 994 mdX5_ticksBy [.ref (z_adr o (23, 0, 0)), .int x5] S (fun r7 S8 => (x4 ≤ r7 → ((x4 ≤ r7 → (zG o 994 mdX5_best 44 [(0, .ref (z_adr o (23, 0, 0))), (1, .int x1), (3, .int x3), (4, .int x4), (5, .int (x5 + 1))] [] S8 Q)) ∧ (¬ x4 ≤ r7 → (zG o 994 mdX5_best 44 [(0, .ref (z_adr o (23, 0, 0))), (1, .int x1), (3, .int x3), (4, .int r7), (5, .int (x5 + 1))] [] S8 Q)))) ∧ (¬ x4 ≤ r7 → ((x4 ≤ r7 → (zG o 994 mdX5_best 44 [(0, .ref (z_adr o (23, 0, 0))), (1, .int x1), (3, .int x5), (4, .int x4), (5, .int (x5 + 1))] [] S8 Q)) ∧ (¬ x4 ≤ r7 → (zG o 994 mdX5_best 44 [(0, .ref (z_adr o (23, 0, 0))), (1, .int x1), (3, .int x5), (4, .int r7), (5, .int (x5 + 1))] [] S8 Q)))))))) : zG o 994 mdX5_best 44 [(0, .ref (z_adr o (23, 0, 0))), (1, .int x1), (3, .int x3), (4, .int x4), (5, .int x5)] [] S Q := by
  show zJ o mdX5_best 44 _ [] (994, z_enc o S) 0 0 _
  refine zJ.iload 4 dX5_best_44 rfl ?_
  refine zJ.iconst (v := 4) dX5_best_46 (by decide) ?_
  refine zJ.icmp_gt (tgt := 94) dX5_best_47 (by decide) (fun c1 => ?_) (fun c1 => ?_)
  · replace h := h.1 c1
    refine zJ.aload_n 0 dX5_best_94 rfl rfl ?_
    refine zJ.bipush (v := 6) dX5_best_95 (by decide) ?_
    refine zG.callVv [.int 6] [] (ob_23 o) ok_23 rfl dX5_best_97 ⟨(cb_X5_comesBack).1, (cb_X5_comesBack).2, (Nat.le_of_ble_eq_true rfl), (Nat.le_of_ble_eq_true rfl)⟩ ml_X5_123 ci_X5_comesBack cv_X5_comesBack rfl (Nat.le_of_ble_eq_true rfl) (Nat.le_of_ble_eq_true rfl) rfl h (fun S4 h2 => ?_)
    replace h := h2
    clear h2
    refine zJ.iload_n 1 dX5_best_100 rfl rfl ?_
    refine zJ.if_ne (tgt := 108) dX5_best_101 (by decide) (fun c5 => ?_) (fun c5 => ?_)
    · replace h := h.1 c5
      refine zJ.iload 3 dX5_best_108 rfl ?_
      exact zG.ret (r := some (.int x4)) ⟨dX5_best_110, _, rfl, rfl⟩ h
    · replace h := h.2 c5
      refine zJ.iload_n 2 dX5_best_104 rfl rfl ?_
      refine zJ.goto (tgt := 110) dX5_best_105 (by decide) ?_
      exact zG.ret (r := some (.int x3)) ⟨dX5_best_110, _, rfl, rfl⟩ h
  · replace h := h.2 c1
    refine zJ.aload_n 0 dX5_best_50 rfl rfl ?_
    refine zJ.iload 4 dX5_best_51 rfl ?_
    refine zG.callVi [.int x5] [] (ob_23 o) ok_23 rfl dX5_best_53 ⟨(cb_X5_ticksBy).1, (cb_X5_ticksBy).2, (Nat.le_of_ble_eq_true rfl), (Nat.le_of_ble_eq_true rfl)⟩ ml_X5_286 ci_X5_ticksBy cv_X5_ticksBy rfl (Nat.le_of_ble_eq_true rfl) (Nat.le_of_ble_eq_true rfl) rfl h (fun r7 S8 h2 => ?_)
    replace h := h2
    clear h2
    refine zJ.istore (lv' := [(6, .int r7), (0, .ref (z_adr o (23, 0, 0))), (1, .int x1), (3, .int x3), (4, .int x4), (5, .int x5)]) dX5_best_56 (Nat.le_of_ble_eq_true rfl) rfl ?_
    refine zJ.iload 0 dX5_best_58 rfl ?_
    refine zJ.iload 4 dX5_best_60 rfl ?_
    refine zJ.icmp_ge (tgt := 70) dX5_best_62 (by decide) (fun c9 => ?_) (fun c9 => ?_)
    · replace h := h.1 c9
      refine zJ.iload_n 3 dX5_best_70 rfl rfl ?_
      refine zJ.istore_n (lv' := [(3, .int x3), (6, .int r7), (0, .ref (z_adr o (23, 0, 0))), (1, .int x1), (4, .int x4), (5, .int x5)]) dX5_best_71 rfl (Nat.le_of_ble_eq_true rfl) rfl ?_
      refine zJ.iload 1 dX5_best_72 rfl ?_
      refine zJ.iload 4 dX5_best_74 rfl ?_
      refine zJ.icmp_ge (tgt := 84) dX5_best_76 (by decide) (fun c10 => ?_) (fun c10 => ?_)
      · replace h := h.1 c10
        refine zJ.iload 4 dX5_best_84 rfl ?_
        refine zJ.istore (lv' := [(4, .int x4), (3, .int x3), (6, .int r7), (0, .ref (z_adr o (23, 0, 0))), (1, .int x1), (5, .int x5)]) dX5_best_86 (Nat.le_of_ble_eq_true rfl) rfl ?_
        refine zJ.iinc (k := 5) (lv' := [(5, .int (x5 + 1)), (4, .int x4), (3, .int x3), (6, .int r7), (0, .ref (z_adr o (23, 0, 0))), (1, .int x1)]) dX5_best_88 rfl rfl (Nat.le_of_ble_eq_true rfl) rfl ?_
        refine zJ.goto (tgt := 44) dX5_best_91 (by decide) ?_
        exact zJ.sub [4, 5, 2, 1, 0] rfl h
      · replace h := h.2 c10
        refine zJ.iload 1 dX5_best_79 rfl ?_
        refine zJ.goto (tgt := 86) dX5_best_81 (by decide) ?_
        refine zJ.istore (lv' := [(4, .int r7), (3, .int x3), (6, .int r7), (0, .ref (z_adr o (23, 0, 0))), (1, .int x1), (5, .int x5)]) dX5_best_86 (Nat.le_of_ble_eq_true rfl) rfl ?_
        refine zJ.iinc (k := 5) (lv' := [(5, .int (x5 + 1)), (4, .int r7), (3, .int x3), (6, .int r7), (0, .ref (z_adr o (23, 0, 0))), (1, .int x1)]) dX5_best_88 rfl rfl (Nat.le_of_ble_eq_true rfl) rfl ?_
        refine zJ.goto (tgt := 44) dX5_best_91 (by decide) ?_
        exact zJ.sub [4, 5, 2, 1, 0] rfl h
    · replace h := h.2 c9
      refine zJ.iload 5 dX5_best_65 rfl ?_
      refine zJ.goto (tgt := 71) dX5_best_67 (by decide) ?_
      refine zJ.istore_n (lv' := [(3, .int x5), (6, .int r7), (0, .ref (z_adr o (23, 0, 0))), (1, .int x1), (4, .int x4), (5, .int x5)]) dX5_best_71 rfl (Nat.le_of_ble_eq_true rfl) rfl ?_
      refine zJ.iload 1 dX5_best_72 rfl ?_
      refine zJ.iload 4 dX5_best_74 rfl ?_
      refine zJ.icmp_ge (tgt := 84) dX5_best_76 (by decide) (fun c11 => ?_) (fun c11 => ?_)
      · replace h := h.1 c11
        refine zJ.iload 4 dX5_best_84 rfl ?_
        refine zJ.istore (lv' := [(4, .int x4), (3, .int x5), (6, .int r7), (0, .ref (z_adr o (23, 0, 0))), (1, .int x1), (5, .int x5)]) dX5_best_86 (Nat.le_of_ble_eq_true rfl) rfl ?_
        refine zJ.iinc (k := 5) (lv' := [(5, .int (x5 + 1)), (4, .int x4), (3, .int x5), (6, .int r7), (0, .ref (z_adr o (23, 0, 0))), (1, .int x1)]) dX5_best_88 rfl rfl (Nat.le_of_ble_eq_true rfl) rfl ?_
        refine zJ.goto (tgt := 44) dX5_best_91 (by decide) ?_
        exact zJ.sub [4, 5, 2, 1, 0] rfl h
      · replace h := h.2 c11
        refine zJ.iload 1 dX5_best_79 rfl ?_
        refine zJ.goto (tgt := 86) dX5_best_81 (by decide) ?_
        refine zJ.istore (lv' := [(4, .int r7), (3, .int x5), (6, .int r7), (0, .ref (z_adr o (23, 0, 0))), (1, .int x1), (5, .int x5)]) dX5_best_86 (Nat.le_of_ble_eq_true rfl) rfl ?_
        refine zJ.iinc (k := 5) (lv' := [(5, .int (x5 + 1)), (4, .int r7), (3, .int x5), (6, .int r7), (0, .ref (z_adr o (23, 0, 0))), (1, .int x1)]) dX5_best_88 rfl rfl (Nat.le_of_ble_eq_true rfl) rfl ?_
        refine zJ.goto (tgt := 44) dX5_best_91 (by decide) ?_
        exact zJ.sub [4, 5, 2, 1, 0] rfl h
set_option maxRecDepth 100000 in
set_option maxHeartbeats 4000000 in
theorem w_X5_toldBy_0 (o : zW) (x1 : Int32) (S : zS) (Q : Option Value → zS → Prop) (h : (3 ≤ x1 → ((¬ x1 = 3 → ((¬ x1 = 9 → (vp_in (x1 - 4) 5 ∧ (Q (some (.int (S.1 (25, 0, 0) ((x1 - 4).toNatClampNeg)))) S))) ∧ (x1 = 9 → (Q (some (.int (S.1 (23, 0, 0) 23))) S)))) ∧ (x1 = 3 → (Q (some (.int (S.1 (23, 0, 0) 30))) S)))) ∧ (¬ 3 ≤ x1 → (vp_in x1 3 ∧ (Q (some (.int (S.1 (24, 0, 0) x1.toNatClampNeg))) S)))) : zG o 994 mdX5_toldBy 0 [(0, .ref (z_adr o (23, 0, 0))), (1, .int x1)] [] S Q := by
  show zJ o mdX5_toldBy 0 _ [] (994, z_enc o S) 0 0 _
  refine zJ.iload_n 1 dX5_toldBy_0 rfl rfl ?_
  refine zJ.iconst (v := 3) dX5_toldBy_1 (by decide) ?_
  refine zJ.icmp_ge (tgt := 14) dX5_toldBy_2 (by decide) (fun c1 => ?_) (fun c1 => ?_)
  · replace h := h.1 c1
    refine zJ.iload_n 1 dX5_toldBy_14 rfl rfl ?_
    refine zJ.iconst (v := 3) dX5_toldBy_15 (by decide) ?_
    refine zJ.icmp_ne (tgt := 26) dX5_toldBy_16 (by decide) (fun c2 => ?_) (fun c2 => ?_)
    · replace h := h.1 c2
      refine zJ.iload_n 1 dX5_toldBy_26 rfl rfl ?_
      refine zJ.bipush (v := 9) dX5_toldBy_27 (by decide) ?_
      refine zJ.icmp_ne (tgt := 39) dX5_toldBy_29 (by decide) (fun c3 => ?_) (fun c3 => ?_)
      · replace h := h.1 c3
        refine zJ.aload_n 0 dX5_toldBy_39 rfl rfl ?_
        refine zE.getV (fd_23_1 o) ok_23 kiX5 (Nat.le_of_ble_eq_true rfl) fl_X5_13 dX5_toldBy_40 ?_
        refine zJ.iload_n 1 dX5_toldBy_43 rfl rfl ?_
        refine zJ.iconst (v := 4) dX5_toldBy_44 (by decide) ?_
        refine zJ.isub dX5_toldBy_45 ?_
        obtain ⟨hq, h⟩ := h
        refine zE.aldI (ia_25 o) ok_25 hq dX5_toldBy_46 ?_
        exact zG.ret (r := some (.int (S.1 (25, 0, 0) ((x1 - 4).toNatClampNeg)))) ⟨dX5_toldBy_47, _, rfl, rfl⟩ h
      · replace h := h.2 c3
        refine zJ.aload_n 0 dX5_toldBy_32 rfl rfl ?_
        refine zE.getI (fd_23_23 o) ok_23 kiX5 (Nat.le_of_ble_eq_true rfl) fl_X5_116 dX5_toldBy_33 ?_
        refine zJ.goto (tgt := 47) dX5_toldBy_36 (by decide) ?_
        exact zG.ret (r := some (.int (S.1 (23, 0, 0) 23))) ⟨dX5_toldBy_47, _, rfl, rfl⟩ h
    · replace h := h.2 c2
      refine zJ.aload_n 0 dX5_toldBy_19 rfl rfl ?_
      refine zE.getI (fd_23_30 o) ok_23 kiX5 (Nat.le_of_ble_eq_true rfl) fl_X5_250 dX5_toldBy_20 ?_
      refine zJ.goto (tgt := 47) dX5_toldBy_23 (by decide) ?_
      exact zG.ret (r := some (.int (S.1 (23, 0, 0) 30))) ⟨dX5_toldBy_47, _, rfl, rfl⟩ h
  · replace h := h.2 c1
    refine zJ.aload_n 0 dX5_toldBy_5 rfl rfl ?_
    refine zE.getV (fd_23_0 o) ok_23 kiX5 (Nat.le_of_ble_eq_true rfl) fl_X5_1 dX5_toldBy_6 ?_
    refine zJ.iload_n 1 dX5_toldBy_9 rfl rfl ?_
    obtain ⟨hq, h⟩ := h
    refine zE.aldI (ia_24 o) ok_24 hq dX5_toldBy_10 ?_
    refine zJ.goto (tgt := 47) dX5_toldBy_11 (by decide) ?_
    exact zG.ret (r := some (.int (S.1 (24, 0, 0) x1.toNatClampNeg))) ⟨dX5_toldBy_47, _, rfl, rfl⟩ h
set_option maxRecDepth 100000 in
set_option maxHeartbeats 4000000 in
theorem w_X5_told_0 (o : zW) (x1 : Int32) (S : zS) (Q : Option Value → zS → Prop) (h : zGi o 994 mdX5_in [.int x1, .int 0, .int 9] S (fun r2 S3 => (r2 = 0 → (zGi o 994 mdX5_bad [.ref (z_adr o (23, 0, 0))] S3 (fun r6 S7 => Q (some (.int r6)) S7))) ∧ (¬ r2 = 0 → (zGi o 994 mdX5_toldBy [.ref (z_adr o (23, 0, 0)), .int x1] S3 (fun r9 S10 => Q (some (.int r9)) S10))))) : zG o 994 mdX5_told 0 [(0, .ref (z_adr o (23, 0, 0))), (1, .int x1)] [] S Q := by
  show zJ o mdX5_told 0 _ [] (994, z_enc o S) 0 0 _
  refine zJ.iload_n 1 dX5_told_0 rfl rfl ?_
  refine zJ.iconst (v := 0) dX5_told_1 (by decide) ?_
  refine zJ.bipush (v := 9) dX5_told_2 (by decide) ?_
  refine zG.callSi [.int x1, .int 0, .int 9] [] dX5_told_4 ⟨(cb_X5_in).1, (cb_X5_in).2, (Nat.le_of_ble_eq_true rfl), (Nat.le_of_ble_eq_true rfl)⟩ ml_X5_101 cs_X5_in rfl (Nat.le_of_ble_eq_true rfl) (Nat.le_of_ble_eq_true rfl) rfl h (fun r2 S3 h2 => ?_)
  replace h := h2
  clear h2
  refine zJ.if_eq (tgt := 18) dX5_told_7 (by decide) (fun c4 => ?_) (fun c4 => ?_)
  · replace h := h.1 c4
    refine zJ.aload_n 0 dX5_told_18 rfl rfl ?_
    refine zG.callVi [] [] (ob_23 o) ok_23 rfl dX5_told_19 ⟨(cb_X5_bad).1, (cb_X5_bad).2, (Nat.le_of_ble_eq_true rfl), (Nat.le_of_ble_eq_true rfl)⟩ ml_X5_130 ci_X5_bad cv_X5_bad rfl (Nat.le_of_ble_eq_true rfl) (Nat.le_of_ble_eq_true rfl) rfl h (fun r6 S7 h2 => ?_)
    replace h := h2
    clear h2
    exact zG.ret (r := some (.int r6)) ⟨dX5_told_22, _, rfl, rfl⟩ h
  · replace h := h.2 c4
    refine zJ.aload_n 0 dX5_told_10 rfl rfl ?_
    refine zJ.iload_n 1 dX5_told_11 rfl rfl ?_
    refine zG.callVi [.int x1] [] (ob_23 o) ok_23 rfl dX5_told_12 ⟨(cb_X5_toldBy).1, (cb_X5_toldBy).2, (Nat.le_of_ble_eq_true rfl), (Nat.le_of_ble_eq_true rfl)⟩ ml_X5_289 ci_X5_toldBy cv_X5_toldBy rfl (Nat.le_of_ble_eq_true rfl) (Nat.le_of_ble_eq_true rfl) rfl h (fun r9 S10 h2 => ?_)
    replace h := h2
    clear h2
    refine zJ.goto (tgt := 22) dX5_told_15 (by decide) ?_
    exact zG.ret (r := some (.int r9)) ⟨dX5_told_22, _, rfl, rfl⟩ h
set_option maxRecDepth 100000 in
set_option maxHeartbeats 4000000 in
theorem w_X5_digest_0 (o : zW)  (S : zS) (Q : Option Value → zS → Prop) (h : zG o 994 mdX5_digest 6 [(0, .ref (z_adr o (23, 0, 0))), (1, .long (2087 : Int64)), (3, .int 0)] [] S Q) : zG o 994 mdX5_digest 0 [(0, .ref (z_adr o (23, 0, 0)))] [] S Q := by
  show zJ o mdX5_digest 0 _ [] (994, z_enc o S) 0 0 _
  refine zJ.ldc2 lc_X5_292 dX5_digest_0 ?_
  refine zJ.lstore_n (lv' := [(1, .long (2087 : Int64)), (0, .ref (z_adr o (23, 0, 0)))]) dX5_digest_3 rfl (Nat.le_of_ble_eq_true rfl) rfl ?_
  refine zJ.iconst (v := 0) dX5_digest_4 (by decide) ?_
  refine zJ.istore_n (lv' := [(3, .int 0), (1, .long (2087 : Int64)), (0, .ref (z_adr o (23, 0, 0)))]) dX5_digest_5 rfl (Nat.le_of_ble_eq_true rfl) rfl ?_
  exact zJ.sub [2, 1, 0] rfl h
set_option maxRecDepth 100000 in
set_option maxHeartbeats 4000000 in
theorem w_X5_digest_6 (o : zW) (x1 : Int64) (x3 : Int32) (S : zS) (Q : Option Value → zS → Prop) (h : (10 ≤ x3 → (zG o 994 mdX5_digest 33 [(0, .ref (z_adr o (23, 0, 0))), (1, .long x1), (3, .int 0)] [] S Q)) ∧ (¬ 10 ≤ x3 → (zGi o 994 mdX5_toldBy [.ref (z_adr o (23, 0, 0)), .int x3] S (fun r3 S4 => zG o 994 mdX5_digest 6 [(0, .ref (z_adr o (23, 0, 0))), (1, .long (((31 : Int64) * x1) + r3.toInt64)), (3, .int (x3 + 1))] [] S4 Q)))) : zG o 994 mdX5_digest 6 [(0, .ref (z_adr o (23, 0, 0))), (1, .long x1), (3, .int x3)] [] S Q := by
  show zJ o mdX5_digest 6 _ [] (994, z_enc o S) 0 0 _
  refine zJ.iload_n 2 dX5_digest_6 rfl rfl ?_
  refine zJ.bipush (v := 10) dX5_digest_7 (by decide) ?_
  refine zJ.icmp_ge (tgt := 31) dX5_digest_9 (by decide) (fun c1 => ?_) (fun c1 => ?_)
  · replace h := h.1 c1
    refine zJ.iconst (v := 0) dX5_digest_31 (by decide) ?_
    refine zJ.istore_n (lv' := [(3, .int 0), (0, .ref (z_adr o (23, 0, 0))), (1, .long x1)]) dX5_digest_32 rfl (Nat.le_of_ble_eq_true rfl) rfl ?_
    exact zJ.sub [1, 2, 0] rfl h
  · replace h := h.2 c1
    refine zJ.ldc2 lc_X5_294 dX5_digest_12 ?_
    refine zJ.lload_n 1 dX5_digest_15 rfl rfl ?_
    refine zJ.lmul dX5_digest_16 ?_
    refine zJ.aload_n 0 dX5_digest_17 rfl rfl ?_
    refine zJ.iload_n 2 dX5_digest_18 rfl rfl ?_
    refine zG.callVi [.int x3] [.long ((31 : Int64) * x1)] (ob_23 o) ok_23 rfl dX5_digest_19 ⟨(cb_X5_toldBy).1, (cb_X5_toldBy).2, (Nat.le_of_ble_eq_true rfl), (Nat.le_of_ble_eq_true rfl)⟩ ml_X5_289 ci_X5_toldBy cv_X5_toldBy rfl (Nat.le_of_ble_eq_true rfl) (Nat.le_of_ble_eq_true rfl) rfl h (fun r3 S4 h2 => ?_)
    replace h := h2
    clear h2
    refine zJ.i2l dX5_digest_22 ?_
    refine zJ.ladd dX5_digest_23 ?_
    refine zJ.lstore_n (lv' := [(1, .long (((31 : Int64) * x1) + r3.toInt64)), (0, .ref (z_adr o (23, 0, 0))), (3, .int x3)]) dX5_digest_24 rfl (Nat.le_of_ble_eq_true rfl) rfl ?_
    refine zJ.iinc (k := 2) (lv' := [(3, .int (x3 + 1)), (1, .long (((31 : Int64) * x1) + r3.toInt64)), (0, .ref (z_adr o (23, 0, 0)))]) dX5_digest_25 rfl rfl (Nat.le_of_ble_eq_true rfl) rfl ?_
    refine zJ.goto (tgt := 6) dX5_digest_28 (by decide) ?_
    exact zJ.sub [2, 1, 0] rfl h
set_option maxRecDepth 100000 in
set_option maxHeartbeats 4000000 in
theorem w_X5_digest_33 (o : zW) (x1 : Int64) (x3 : Int32) (S : zS) (Q : Option Value → zS → Prop) (h : (10 ≤ x3 → (zG o 994 mdX5_digest 61 [(0, .ref (z_adr o (23, 0, 0))), (1, .long x1), (3, .int 0)] [] S Q)) ∧ (¬ 10 ≤ x3 → (vp_in x3 10 ∧ (zG o 994 mdX5_digest 33 [(0, .ref (z_adr o (23, 0, 0))), (1, .long (((31 : Int64) * x1) + ((S.1 (40, 0, 0) x3.toNatClampNeg).toInt64))), (3, .int (x3 + 1))] [] S Q)))) : zG o 994 mdX5_digest 33 [(0, .ref (z_adr o (23, 0, 0))), (1, .long x1), (3, .int x3)] [] S Q := by
  show zJ o mdX5_digest 33 _ [] (994, z_enc o S) 0 0 _
  refine zJ.iload_n 2 dX5_digest_33 rfl rfl ?_
  refine zJ.bipush (v := 10) dX5_digest_34 (by decide) ?_
  refine zJ.icmp_ge (tgt := 59) dX5_digest_36 (by decide) (fun c1 => ?_) (fun c1 => ?_)
  · replace h := h.1 c1
    refine zJ.iconst (v := 0) dX5_digest_59 (by decide) ?_
    refine zJ.istore_n (lv' := [(3, .int 0), (0, .ref (z_adr o (23, 0, 0))), (1, .long x1)]) dX5_digest_60 rfl (Nat.le_of_ble_eq_true rfl) rfl ?_
    exact zJ.sub [1, 2, 0] rfl h
  · replace h := h.2 c1
    refine zJ.ldc2 lc_X5_294 dX5_digest_39 ?_
    refine zJ.lload_n 1 dX5_digest_42 rfl rfl ?_
    refine zJ.lmul dX5_digest_43 ?_
    refine zJ.aload_n 0 dX5_digest_44 rfl rfl ?_
    refine zE.getV (fd_23_16 o) ok_23 kiX5 (Nat.le_of_ble_eq_true rfl) fl_X5_58 dX5_digest_45 ?_
    refine zJ.iload_n 2 dX5_digest_48 rfl rfl ?_
    obtain ⟨hq, h⟩ := h
    refine zE.aldI (ia_40 o) ok_40 hq dX5_digest_49 ?_
    refine zJ.i2l dX5_digest_50 ?_
    refine zJ.ladd dX5_digest_51 ?_
    refine zJ.lstore_n (lv' := [(1, .long (((31 : Int64) * x1) + ((S.1 (40, 0, 0) x3.toNatClampNeg).toInt64))), (0, .ref (z_adr o (23, 0, 0))), (3, .int x3)]) dX5_digest_52 rfl (Nat.le_of_ble_eq_true rfl) rfl ?_
    refine zJ.iinc (k := 2) (lv' := [(3, .int (x3 + 1)), (1, .long (((31 : Int64) * x1) + ((S.1 (40, 0, 0) x3.toNatClampNeg).toInt64))), (0, .ref (z_adr o (23, 0, 0)))]) dX5_digest_53 rfl rfl (Nat.le_of_ble_eq_true rfl) rfl ?_
    refine zJ.goto (tgt := 33) dX5_digest_56 (by decide) ?_
    exact zJ.sub [2, 1, 0] rfl h
set_option maxRecDepth 100000 in
set_option maxHeartbeats 4000000 in
theorem w_X5_digest_61 (o : zW) (x1 : Int64) (x3 : Int32) (S : zS) (Q : Option Value → zS → Prop) (h : (64 ≤ x3 → (zG o 994 mdX5_digest 89 [(0, .ref (z_adr o (23, 0, 0))), (1, .long x1), (3, .int 0)] [] S Q)) ∧ (¬ 64 ≤ x3 → (vp_in x3 64 ∧ (zG o 994 mdX5_digest 61 [(0, .ref (z_adr o (23, 0, 0))), (1, .long (((31 : Int64) * x1) + ((S.1 (26, 0, 0) x3.toNatClampNeg).toInt64))), (3, .int (x3 + 1))] [] S Q)))) : zG o 994 mdX5_digest 61 [(0, .ref (z_adr o (23, 0, 0))), (1, .long x1), (3, .int x3)] [] S Q := by
  show zJ o mdX5_digest 61 _ [] (994, z_enc o S) 0 0 _
  refine zJ.iload_n 2 dX5_digest_61 rfl rfl ?_
  refine zJ.bipush (v := 64) dX5_digest_62 (by decide) ?_
  refine zJ.icmp_ge (tgt := 87) dX5_digest_64 (by decide) (fun c1 => ?_) (fun c1 => ?_)
  · replace h := h.1 c1
    refine zJ.iconst (v := 0) dX5_digest_87 (by decide) ?_
    refine zJ.istore_n (lv' := [(3, .int 0), (0, .ref (z_adr o (23, 0, 0))), (1, .long x1)]) dX5_digest_88 rfl (Nat.le_of_ble_eq_true rfl) rfl ?_
    exact zJ.sub [1, 2, 0] rfl h
  · replace h := h.2 c1
    refine zJ.ldc2 lc_X5_294 dX5_digest_67 ?_
    refine zJ.lload_n 1 dX5_digest_70 rfl rfl ?_
    refine zJ.lmul dX5_digest_71 ?_
    refine zJ.aload_n 0 dX5_digest_72 rfl rfl ?_
    refine zE.getV (fd_23_2 o) ok_23 kiX5 (Nat.le_of_ble_eq_true rfl) fl_X5_16 dX5_digest_73 ?_
    refine zJ.iload_n 2 dX5_digest_76 rfl rfl ?_
    obtain ⟨hq, h⟩ := h
    refine zE.aldI (ia_26 o) ok_26 hq dX5_digest_77 ?_
    refine zJ.i2l dX5_digest_78 ?_
    refine zJ.ladd dX5_digest_79 ?_
    refine zJ.lstore_n (lv' := [(1, .long (((31 : Int64) * x1) + ((S.1 (26, 0, 0) x3.toNatClampNeg).toInt64))), (0, .ref (z_adr o (23, 0, 0))), (3, .int x3)]) dX5_digest_80 rfl (Nat.le_of_ble_eq_true rfl) rfl ?_
    refine zJ.iinc (k := 2) (lv' := [(3, .int (x3 + 1)), (1, .long (((31 : Int64) * x1) + ((S.1 (26, 0, 0) x3.toNatClampNeg).toInt64))), (0, .ref (z_adr o (23, 0, 0)))]) dX5_digest_81 rfl rfl (Nat.le_of_ble_eq_true rfl) rfl ?_
    refine zJ.goto (tgt := 61) dX5_digest_84 (by decide) ?_
    exact zJ.sub [2, 1, 0] rfl h
set_option maxRecDepth 100000 in
set_option maxHeartbeats 4000000 in
theorem w_X5_digest_89 (o : zW) (x1 : Int64) (x3 : Int32) (S : zS) (Q : Option Value → zS → Prop) (h : (16 ≤ x3 → (zGi o 994 mdX5_cost [.ref (z_adr o (23, 0, 0)), .int 0] S (fun r3 S4 => zGi o 994 mdX5_cost [.ref (z_adr o (23, 0, 0)), .int 1] S4 (fun r6 S7 => zGl o 994 mdX5_even [.ref (z_adr o (23, 0, 0))] S7 (fun r9 S10 => Q (some (.long (((31 : Int64) * (((31 : Int64) * (((31 : Int64) * x1) + r3.toInt64)) + r6.toInt64)) + r9))) S10))))) ∧ (¬ 16 ≤ x3 → (vp_in x3 16 ∧ (zG o 994 mdX5_digest 89 [(0, .ref (z_adr o (23, 0, 0))), (1, .long (((31 : Int64) * x1) + ((S.1 (29, 0, 0) x3.toNatClampNeg).toInt64))), (3, .int (x3 + 1))] [] S Q)))) : zG o 994 mdX5_digest 89 [(0, .ref (z_adr o (23, 0, 0))), (1, .long x1), (3, .int x3)] [] S Q := by
  show zJ o mdX5_digest 89 _ [] (994, z_enc o S) 0 0 _
  refine zJ.iload_n 2 dX5_digest_89 rfl rfl ?_
  refine zJ.bipush (v := 16) dX5_digest_90 (by decide) ?_
  refine zJ.icmp_ge (tgt := 115) dX5_digest_92 (by decide) (fun c1 => ?_) (fun c1 => ?_)
  · replace h := h.1 c1
    refine zJ.ldc2 lc_X5_294 dX5_digest_115 ?_
    refine zJ.lload_n 1 dX5_digest_118 rfl rfl ?_
    refine zJ.lmul dX5_digest_119 ?_
    refine zJ.aload_n 0 dX5_digest_120 rfl rfl ?_
    refine zJ.iconst (v := 0) dX5_digest_121 (by decide) ?_
    refine zG.callVi [.int 0] [.long ((31 : Int64) * x1)] (ob_23 o) ok_23 rfl dX5_digest_122 ⟨(cb_X5_cost).1, (cb_X5_cost).2, (Nat.le_of_ble_eq_true rfl), (Nat.le_of_ble_eq_true rfl)⟩ ml_X5_296 ci_X5_cost cv_X5_cost rfl (Nat.le_of_ble_eq_true rfl) (Nat.le_of_ble_eq_true rfl) rfl h (fun r3 S4 h2 => ?_)
    replace h := h2
    clear h2
    refine zJ.i2l dX5_digest_125 ?_
    refine zJ.ladd dX5_digest_126 ?_
    refine zJ.lstore_n (lv' := [(1, .long (((31 : Int64) * x1) + r3.toInt64)), (0, .ref (z_adr o (23, 0, 0))), (3, .int x3)]) dX5_digest_127 rfl (Nat.le_of_ble_eq_true rfl) rfl ?_
    refine zJ.ldc2 lc_X5_294 dX5_digest_128 ?_
    refine zJ.lload_n 0 dX5_digest_131 rfl rfl ?_
    refine zJ.lmul dX5_digest_132 ?_
    refine zJ.aload_n 1 dX5_digest_133 rfl rfl ?_
    refine zJ.iconst (v := 1) dX5_digest_134 (by decide) ?_
    refine zG.callVi [.int 1] [.long ((31 : Int64) * (((31 : Int64) * x1) + r3.toInt64))] (ob_23 o) ok_23 rfl dX5_digest_135 ⟨(cb_X5_cost).1, (cb_X5_cost).2, (Nat.le_of_ble_eq_true rfl), (Nat.le_of_ble_eq_true rfl)⟩ ml_X5_296 ci_X5_cost cv_X5_cost rfl (Nat.le_of_ble_eq_true rfl) (Nat.le_of_ble_eq_true rfl) rfl h (fun r6 S7 h2 => ?_)
    replace h := h2
    clear h2
    refine zJ.i2l dX5_digest_138 ?_
    refine zJ.ladd dX5_digest_139 ?_
    refine zJ.lstore_n (lv' := [(1, .long (((31 : Int64) * (((31 : Int64) * x1) + r3.toInt64)) + r6.toInt64)), (0, .ref (z_adr o (23, 0, 0))), (3, .int x3)]) dX5_digest_140 rfl (Nat.le_of_ble_eq_true rfl) rfl ?_
    refine zJ.ldc2 lc_X5_294 dX5_digest_141 ?_
    refine zJ.lload_n 0 dX5_digest_144 rfl rfl ?_
    refine zJ.lmul dX5_digest_145 ?_
    refine zJ.aload_n 1 dX5_digest_146 rfl rfl ?_
    refine zG.callVl [] [.long ((31 : Int64) * (((31 : Int64) * (((31 : Int64) * x1) + r3.toInt64)) + r6.toInt64))] (ob_23 o) ok_23 rfl dX5_digest_147 ⟨(cb_X5_even).1, (cb_X5_even).2, (Nat.le_of_ble_eq_true rfl), (Nat.le_of_ble_eq_true rfl)⟩ ml_X5_298 ci_X5_even cv_X5_even rfl (Nat.le_of_ble_eq_true rfl) (Nat.le_of_ble_eq_true rfl) rfl h (fun r9 S10 h2 => ?_)
    replace h := h2
    clear h2
    refine zJ.ladd dX5_digest_150 ?_
    exact zG.ret (r := some (.long (((31 : Int64) * (((31 : Int64) * (((31 : Int64) * x1) + r3.toInt64)) + r6.toInt64)) + r9))) ⟨dX5_digest_151, rfl⟩ h
  · replace h := h.2 c1
    refine zJ.ldc2 lc_X5_294 dX5_digest_95 ?_
    refine zJ.lload_n 1 dX5_digest_98 rfl rfl ?_
    refine zJ.lmul dX5_digest_99 ?_
    refine zJ.aload_n 0 dX5_digest_100 rfl rfl ?_
    refine zE.getV (fd_23_5 o) ok_23 kiX5 (Nat.le_of_ble_eq_true rfl) fl_X5_25 dX5_digest_101 ?_
    refine zJ.iload_n 2 dX5_digest_104 rfl rfl ?_
    obtain ⟨hq, h⟩ := h
    refine zE.aldI (ia_29 o) ok_29 hq dX5_digest_105 ?_
    refine zJ.i2l dX5_digest_106 ?_
    refine zJ.ladd dX5_digest_107 ?_
    refine zJ.lstore_n (lv' := [(1, .long (((31 : Int64) * x1) + ((S.1 (29, 0, 0) x3.toNatClampNeg).toInt64))), (0, .ref (z_adr o (23, 0, 0))), (3, .int x3)]) dX5_digest_108 rfl (Nat.le_of_ble_eq_true rfl) rfl ?_
    refine zJ.iinc (k := 2) (lv' := [(3, .int (x3 + 1)), (1, .long (((31 : Int64) * x1) + ((S.1 (29, 0, 0) x3.toNatClampNeg).toInt64))), (0, .ref (z_adr o (23, 0, 0)))]) dX5_digest_109 rfl rfl (Nat.le_of_ble_eq_true rfl) rfl ?_
    refine zJ.goto (tgt := 89) dX5_digest_112 (by decide) ?_
    exact zJ.sub [2, 1, 0] rfl h
