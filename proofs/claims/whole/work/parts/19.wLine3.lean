set_option maxRecDepth 100000 in
set_option maxHeartbeats 4000000 in
theorem w_X4_floatBits_0 (o : zW) (x0 : UInt32) (S : zS) (Q : Option Value → zS → Prop) (h : (0 ≤ (Op.cmpValue (FP.fcmp x0 FP.fconst0) CmpOp.g) → (zG o 994 mdX4_floatBits 18 [(0, .float x0), (1, .float x0), (2, .int 127), (3, .int 0)] [] S Q)) ∧ (¬ 0 ≤ (Op.cmpValue (FP.fcmp x0 FP.fconst0) CmpOp.g) → (zG o 994 mdX4_floatBits 18 [(0, .float x0), (1, .float (FP.fneg x0)), (2, .int 127), (3, .int 0)] [] S Q))) : zG o 994 mdX4_floatBits 0 [(0, .float x0)] [] S Q := by
  show zJ o mdX4_floatBits 0 _ [] (994, z_enc o S) 0 0 _
  refine zJ.fload_n (pc := 0) 0 dX4_floatBits_0 rfl rfl ?_
  refine zJ.fconst0 (pc := 1) dX4_floatBits_1 ?_
  refine zJ.fcmp (pc := 2) dX4_floatBits_2 ?_
  refine zJ.if_ge (pc := 3) (tgt := 11) dX4_floatBits_3 (by decide) (fun c1 => ?_) (fun c1 => ?_)
  · replace h := h.1 c1
    refine zJ.fload_n (pc := 11) 0 dX4_floatBits_11 rfl rfl ?_
    refine zJ.fstore_n (pc := 12) (lv' := [(1, .float x0), (0, .float x0)]) dX4_floatBits_12 rfl (Nat.le_of_ble_eq_true rfl) rfl ?_
    refine zJ.bipush (pc := 13) (v := 127) dX4_floatBits_13 (by decide) ?_
    refine zJ.istore_n (pc := 15) (lv' := [(2, .int 127), (1, .float x0), (0, .float x0)]) dX4_floatBits_15 rfl (Nat.le_of_ble_eq_true rfl) rfl ?_
    refine zJ.iconst (pc := 16) (v := 0) dX4_floatBits_16 (by decide) ?_
    refine zJ.istore_n (pc := 17) (lv' := [(3, .int 0), (2, .int 127), (1, .float x0), (0, .float x0)]) dX4_floatBits_17 rfl (Nat.le_of_ble_eq_true rfl) rfl ?_
    exact zJ.sub [3, 2, 1, 0] rfl h
  · replace h := h.2 c1
    refine zJ.fload_n (pc := 6) 0 dX4_floatBits_6 rfl rfl ?_
    refine zJ.fneg (pc := 7) dX4_floatBits_7 ?_
    refine zJ.goto (pc := 8) (tgt := 12) dX4_floatBits_8 (by decide) ?_
    refine zJ.fstore_n (pc := 12) (lv' := [(1, .float (FP.fneg x0)), (0, .float x0)]) dX4_floatBits_12 rfl (Nat.le_of_ble_eq_true rfl) rfl ?_
    refine zJ.bipush (pc := 13) (v := 127) dX4_floatBits_13 (by decide) ?_
    refine zJ.istore_n (pc := 15) (lv' := [(2, .int 127), (1, .float (FP.fneg x0)), (0, .float x0)]) dX4_floatBits_15 rfl (Nat.le_of_ble_eq_true rfl) rfl ?_
    refine zJ.iconst (pc := 16) (v := 0) dX4_floatBits_16 (by decide) ?_
    refine zJ.istore_n (pc := 17) (lv' := [(3, .int 0), (2, .int 127), (1, .float (FP.fneg x0)), (0, .float x0)]) dX4_floatBits_17 rfl (Nat.le_of_ble_eq_true rfl) rfl ?_
    exact zJ.sub [3, 2, 1, 0] rfl h
set_option maxRecDepth 100000 in
set_option maxHeartbeats 4000000 in
theorem w_X4_floatBits_18 (o : zW) (x0 : UInt32) (x1 : UInt32) (x2 : Int32) (x3 : Int32) (S : zS) (Q : Option Value → zS → Prop) (h : (300 ≤ x3 → (zG o 994 mdX4_floatBits 47 [(0, .float x0), (1, .float x1), (2, .int x2), (3, .int 0)] [] S Q)) ∧ (¬ 300 ≤ x3 → (((Op.cmpValue (FP.fcmp x1 FP.fconst2) CmpOp.l) < 0 → (zG o 994 mdX4_floatBits 47 [(0, .float x0), (1, .float x1), (2, .int x2), (3, .int 0)] [] S Q)) ∧ (¬ (Op.cmpValue (FP.fcmp x1 FP.fconst2) CmpOp.l) < 0 → (vf_n32 (FP.fmul x1 (1056964608 : UInt32)) ∧ (zG o 994 mdX4_floatBits 18 [(0, .float x0), (1, .float (FP.fmul x1 (1056964608 : UInt32))), (2, .int (x2 + 1)), (3, .int (x3 + 1))] [] S Q)))))) : zG o 994 mdX4_floatBits 18 [(0, .float x0), (1, .float x1), (2, .int x2), (3, .int x3)] [] S Q := by
  show zJ o mdX4_floatBits 18 _ [] (994, z_enc o S) 0 0 _
  refine zJ.iload_n (pc := 18) 3 dX4_floatBits_18 rfl rfl ?_
  refine zJ.sipush (pc := 19) (v := 300) dX4_floatBits_19 (by decide) ?_
  refine zJ.icmp_ge (pc := 22) (tgt := 45) dX4_floatBits_22 (by decide) (fun c1 => ?_) (fun c1 => ?_)
  · replace h := h.1 c1
    refine zJ.iconst (pc := 45) (v := 0) dX4_floatBits_45 (by decide) ?_
    refine zJ.istore_n (pc := 46) (lv' := [(3, .int 0), (0, .float x0), (1, .float x1), (2, .int x2)]) dX4_floatBits_46 rfl (Nat.le_of_ble_eq_true rfl) rfl ?_
    exact zJ.sub [1, 2, 3, 0] rfl h
  · replace h := h.2 c1
    refine zJ.fload_n (pc := 25) 1 dX4_floatBits_25 rfl rfl ?_
    refine zJ.fconst2 (pc := 26) dX4_floatBits_26 ?_
    refine zJ.fcmp (pc := 27) dX4_floatBits_27 ?_
    refine zJ.if_lt (pc := 28) (tgt := 45) dX4_floatBits_28 (by decide) (fun c2 => ?_) (fun c2 => ?_)
    · replace h := h.1 c2
      refine zJ.iconst (pc := 45) (v := 0) dX4_floatBits_45 (by decide) ?_
      refine zJ.istore_n (pc := 46) (lv' := [(3, .int 0), (0, .float x0), (1, .float x1), (2, .int x2)]) dX4_floatBits_46 rfl (Nat.le_of_ble_eq_true rfl) rfl ?_
      exact zJ.sub [1, 2, 3, 0] rfl h
    · replace h := h.2 c2
      refine zJ.fload_n (pc := 31) 1 dX4_floatBits_31 rfl rfl ?_
      refine zJ.ldcf (pc := 32) lc_X4_226 dX4_floatBits_32 ?_
      obtain ⟨hq, h⟩ := h
      refine zJ.fmul (pc := 34) dX4_floatBits_34 hq ?_
      refine zJ.fstore_n (pc := 35) (lv' := [(1, .float (FP.fmul x1 (1056964608 : UInt32))), (0, .float x0), (2, .int x2), (3, .int x3)]) dX4_floatBits_35 rfl (Nat.le_of_ble_eq_true rfl) rfl ?_
      refine zJ.iinc (pc := 36) (k := 2) (lv' := [(2, .int (x2 + 1)), (1, .float (FP.fmul x1 (1056964608 : UInt32))), (0, .float x0), (3, .int x3)]) dX4_floatBits_36 rfl rfl (Nat.le_of_ble_eq_true rfl) rfl ?_
      refine zJ.iinc (pc := 39) (k := 3) (lv' := [(3, .int (x3 + 1)), (2, .int (x2 + 1)), (1, .float (FP.fmul x1 (1056964608 : UInt32))), (0, .float x0)]) dX4_floatBits_39 rfl rfl (Nat.le_of_ble_eq_true rfl) rfl ?_
      refine zJ.goto (pc := 42) (tgt := 18) dX4_floatBits_42 (by decide) ?_
      exact zJ.sub [3, 2, 1, 0] rfl h
set_option maxRecDepth 100000 in
set_option maxHeartbeats 4000000 in
theorem w_X4_floatBits_47 (o : zW) (x0 : UInt32) (x1 : UInt32) (x2 : Int32) (x3 : Int32) (S : zS) (Q : Option Value → zS → Prop) (h : (300 ≤ x3 → ((0 ≤ (Op.cmpValue (FP.fcmp x1 FP.fconst1) CmpOp.g) → (vf_n32 (FP.fsub x1 FP.fconst1) ∧ (vf_n32 (FP.fmul (FP.fsub x1 FP.fconst1) (1258291200 : UInt32)) ∧ (∀ y3 : Int32, y3 = (FP.f2i (FP.fmul (FP.fsub x1 FP.fconst1) (1258291200 : UInt32))) → ((0 ≤ (Op.cmpValue (FP.fcmp x0 FP.fconst0) CmpOp.g) → (Q (some (.int ((x2 <<< (23 &&& 31)) ||| y3))) S)) ∧ (¬ 0 ≤ (Op.cmpValue (FP.fcmp x0 FP.fconst0) CmpOp.g) → (Q (some (.int (((x2 <<< (23 &&& 31)) ||| y3) ||| (-2147483648 : Int32)))) S))))))) ∧ (¬ 0 ≤ (Op.cmpValue (FP.fcmp x1 FP.fconst1) CmpOp.g) → (vf_n32 (FP.fmul x1 (1258291200 : UInt32)) ∧ ((0 ≤ (Op.cmpValue (FP.fcmp x0 FP.fconst0) CmpOp.g) → (Q (some (.int (FP.f2i (FP.fmul x1 (1258291200 : UInt32))))) S)) ∧ (¬ 0 ≤ (Op.cmpValue (FP.fcmp x0 FP.fconst0) CmpOp.g) → (∀ y6 : Int32, y6 = ((FP.f2i (FP.fmul x1 (1258291200 : UInt32))) ||| (-2147483648 : Int32)) → (Q (some (.int y6)) S)))))))) ∧ (¬ 300 ≤ x3 → (((Op.cmpValue (FP.fcmp x1 FP.fconst0) CmpOp.l) ≤ 0 → ((0 ≤ (Op.cmpValue (FP.fcmp x1 FP.fconst1) CmpOp.g) → (vf_n32 (FP.fsub x1 FP.fconst1) ∧ (vf_n32 (FP.fmul (FP.fsub x1 FP.fconst1) (1258291200 : UInt32)) ∧ (∀ y9 : Int32, y9 = (FP.f2i (FP.fmul (FP.fsub x1 FP.fconst1) (1258291200 : UInt32))) → ((0 ≤ (Op.cmpValue (FP.fcmp x0 FP.fconst0) CmpOp.g) → (Q (some (.int ((x2 <<< (23 &&& 31)) ||| y9))) S)) ∧ (¬ 0 ≤ (Op.cmpValue (FP.fcmp x0 FP.fconst0) CmpOp.g) → (Q (some (.int (((x2 <<< (23 &&& 31)) ||| y9) ||| (-2147483648 : Int32)))) S))))))) ∧ (¬ 0 ≤ (Op.cmpValue (FP.fcmp x1 FP.fconst1) CmpOp.g) → (vf_n32 (FP.fmul x1 (1258291200 : UInt32)) ∧ ((0 ≤ (Op.cmpValue (FP.fcmp x0 FP.fconst0) CmpOp.g) → (Q (some (.int (FP.f2i (FP.fmul x1 (1258291200 : UInt32))))) S)) ∧ (¬ 0 ≤ (Op.cmpValue (FP.fcmp x0 FP.fconst0) CmpOp.g) → (∀ y12 : Int32, y12 = ((FP.f2i (FP.fmul x1 (1258291200 : UInt32))) ||| (-2147483648 : Int32)) → (Q (some (.int y12)) S)))))))) ∧ (¬ (Op.cmpValue (FP.fcmp x1 FP.fconst0) CmpOp.l) ≤ 0 → ((0 ≤ (Op.cmpValue (FP.fcmp x1 FP.fconst1) CmpOp.g) → ((0 ≤ (Op.cmpValue (FP.fcmp x1 FP.fconst1) CmpOp.g) → (vf_n32 (FP.fsub x1 FP.fconst1) ∧ (vf_n32 (FP.fmul (FP.fsub x1 FP.fconst1) (1258291200 : UInt32)) ∧ (∀ y15 : Int32, y15 = (FP.f2i (FP.fmul (FP.fsub x1 FP.fconst1) (1258291200 : UInt32))) → ((0 ≤ (Op.cmpValue (FP.fcmp x0 FP.fconst0) CmpOp.g) → (Q (some (.int ((x2 <<< (23 &&& 31)) ||| y15))) S)) ∧ (¬ 0 ≤ (Op.cmpValue (FP.fcmp x0 FP.fconst0) CmpOp.g) → (Q (some (.int (((x2 <<< (23 &&& 31)) ||| y15) ||| (-2147483648 : Int32)))) S))))))) ∧ (¬ 0 ≤ (Op.cmpValue (FP.fcmp x1 FP.fconst1) CmpOp.g) → (vf_n32 (FP.fmul x1 (1258291200 : UInt32)) ∧ ((0 ≤ (Op.cmpValue (FP.fcmp x0 FP.fconst0) CmpOp.g) → (Q (some (.int (FP.f2i (FP.fmul x1 (1258291200 : UInt32))))) S)) ∧ (¬ 0 ≤ (Op.cmpValue (FP.fcmp x0 FP.fconst0) CmpOp.g) → (∀ y18 : Int32, y18 = ((FP.f2i (FP.fmul x1 (1258291200 : UInt32))) ||| (-2147483648 : Int32)) → (Q (some (.int y18)) S)))))))) ∧ (¬ 0 ≤ (Op.cmpValue (FP.fcmp x1 FP.fconst1) CmpOp.g) → ((x2 ≤ 1 → ((0 ≤ (Op.cmpValue (FP.fcmp x1 FP.fconst1) CmpOp.g) → (vf_n32 (FP.fsub x1 FP.fconst1) ∧ (vf_n32 (FP.fmul (FP.fsub x1 FP.fconst1) (1258291200 : UInt32)) ∧ (∀ y21 : Int32, y21 = (FP.f2i (FP.fmul (FP.fsub x1 FP.fconst1) (1258291200 : UInt32))) → ((0 ≤ (Op.cmpValue (FP.fcmp x0 FP.fconst0) CmpOp.g) → (Q (some (.int ((x2 <<< (23 &&& 31)) ||| y21))) S)) ∧ (¬ 0 ≤ (Op.cmpValue (FP.fcmp x0 FP.fconst0) CmpOp.g) → (Q (some (.int (((x2 <<< (23 &&& 31)) ||| y21) ||| (-2147483648 : Int32)))) S))))))) ∧ (¬ 0 ≤ (Op.cmpValue (FP.fcmp x1 FP.fconst1) CmpOp.g) → (vf_n32 (FP.fmul x1 (1258291200 : UInt32)) ∧ ((0 ≤ (Op.cmpValue (FP.fcmp x0 FP.fconst0) CmpOp.g) → (Q (some (.int (FP.f2i (FP.fmul x1 (1258291200 : UInt32))))) S)) ∧ (¬ 0 ≤ (Op.cmpValue (FP.fcmp x0 FP.fconst0) CmpOp.g) → (∀ y24 : Int32, y24 = ((FP.f2i (FP.fmul x1 (1258291200 : UInt32))) ||| (-2147483648 : Int32)) → (Q (some (.int y24)) S)))))))) ∧ (¬ x2 ≤ 1 → (vf_n32 (FP.fmul x1 FP.fconst2) ∧ (zG o 994 mdX4_floatBits 47 [(0, .float x0), (1, .float (FP.fmul x1 FP.fconst2)), (2, .int (x2 + (-1))), (3, .int (x3 + 1))] [] S Q)))))))))) : zG o 994 mdX4_floatBits 47 [(0, .float x0), (1, .float x1), (2, .int x2), (3, .int x3)] [] S Q := by
  show zJ o mdX4_floatBits 47 _ [] (994, z_enc o S) 0 0 _
  refine zJ.iload_n (pc := 47) 3 dX4_floatBits_47 rfl rfl ?_
  refine zJ.sipush (pc := 48) (v := 300) dX4_floatBits_48 (by decide) ?_
  refine zJ.icmp_ge (pc := 51) (tgt := 84) dX4_floatBits_51 (by decide) (fun c1 => ?_) (fun c1 => ?_)
  · replace h := h.1 c1
    refine zJ.fload_n (pc := 84) 1 dX4_floatBits_84 rfl rfl ?_
    refine zJ.fconst1 (pc := 85) dX4_floatBits_85 ?_
    refine zJ.fcmp (pc := 86) dX4_floatBits_86 ?_
    refine zJ.if_ge (pc := 87) (tgt := 98) dX4_floatBits_87 (by decide) (fun c2 => ?_) (fun c2 => ?_)
    · replace h := h.1 c2
      refine zJ.iload_n (pc := 98) 2 dX4_floatBits_98 rfl rfl ?_
      refine zJ.bipush (pc := 99) (v := 23) dX4_floatBits_99 (by decide) ?_
      refine zJ.ishl (pc := 101) dX4_floatBits_101 ?_
      refine zJ.fload_n (pc := 102) 1 dX4_floatBits_102 rfl rfl ?_
      refine zJ.fconst1 (pc := 103) dX4_floatBits_103 ?_
      obtain ⟨hq, h⟩ := h
      refine zJ.fsub (pc := 104) dX4_floatBits_104 hq ?_
      refine zJ.ldcf (pc := 105) lc_X4_227 dX4_floatBits_105 ?_
      obtain ⟨hq, h⟩ := h
      refine zJ.fmul (pc := 107) dX4_floatBits_107 hq ?_
      refine zJ.f2i (pc := 108) dX4_floatBits_108 ?_
      refine zJ.topi (fun y3 hyy3 => ?_)
      replace h := h y3 hyy3
      refine zJ.ior (pc := 109) dX4_floatBits_109 ?_
      refine zJ.istore_n (pc := 110) (lv' := [(3, .int ((x2 <<< (23 &&& 31)) ||| y3)), (0, .float x0), (1, .float x1), (2, .int x2)]) dX4_floatBits_110 rfl (Nat.le_of_ble_eq_true rfl) rfl ?_
      refine zJ.fload_n (pc := 111) 1 dX4_floatBits_111 rfl rfl ?_
      refine zJ.fconst0 (pc := 112) dX4_floatBits_112 ?_
      refine zJ.fcmp (pc := 113) dX4_floatBits_113 ?_
      refine zJ.if_ge (pc := 114) (tgt := 124) dX4_floatBits_114 (by decide) (fun c4 => ?_) (fun c4 => ?_)
      · replace h := h.1 c4
        refine zJ.iload_n (pc := 124) 0 dX4_floatBits_124 rfl rfl ?_
        exact zG.ret (pc := 125) (r := some (.int ((x2 <<< (23 &&& 31)) ||| y3))) ⟨dX4_floatBits_125, _, rfl, rfl⟩ h
      · replace h := h.2 c4
        refine zJ.iload_n (pc := 117) 0 dX4_floatBits_117 rfl rfl ?_
        refine zJ.ldc (pc := 118) lc_X4_228 dX4_floatBits_118 ?_
        refine zJ.ior (pc := 120) dX4_floatBits_120 ?_
        refine zJ.goto (pc := 121) (tgt := 125) dX4_floatBits_121 (by decide) ?_
        exact zG.ret (pc := 125) (r := some (.int (((x2 <<< (23 &&& 31)) ||| y3) ||| (-2147483648 : Int32)))) ⟨dX4_floatBits_125, _, rfl, rfl⟩ h
    · replace h := h.2 c2
      refine zJ.fload_n (pc := 90) 1 dX4_floatBits_90 rfl rfl ?_
      refine zJ.ldcf (pc := 91) lc_X4_227 dX4_floatBits_91 ?_
      obtain ⟨hq, h⟩ := h
      refine zJ.fmul (pc := 93) dX4_floatBits_93 hq ?_
      refine zJ.f2i (pc := 94) dX4_floatBits_94 ?_
      refine zJ.goto (pc := 95) (tgt := 110) dX4_floatBits_95 (by decide) ?_
      refine zJ.istore_n (pc := 110) (lv' := [(3, .int (FP.f2i (FP.fmul x1 (1258291200 : UInt32)))), (0, .float x0), (1, .float x1), (2, .int x2)]) dX4_floatBits_110 rfl (Nat.le_of_ble_eq_true rfl) rfl ?_
      refine zJ.fload_n (pc := 111) 1 dX4_floatBits_111 rfl rfl ?_
      refine zJ.fconst0 (pc := 112) dX4_floatBits_112 ?_
      refine zJ.fcmp (pc := 113) dX4_floatBits_113 ?_
      refine zJ.if_ge (pc := 114) (tgt := 124) dX4_floatBits_114 (by decide) (fun c5 => ?_) (fun c5 => ?_)
      · replace h := h.1 c5
        refine zJ.iload_n (pc := 124) 0 dX4_floatBits_124 rfl rfl ?_
        exact zG.ret (pc := 125) (r := some (.int (FP.f2i (FP.fmul x1 (1258291200 : UInt32))))) ⟨dX4_floatBits_125, _, rfl, rfl⟩ h
      · replace h := h.2 c5
        refine zJ.iload_n (pc := 117) 0 dX4_floatBits_117 rfl rfl ?_
        refine zJ.ldc (pc := 118) lc_X4_228 dX4_floatBits_118 ?_
        refine zJ.ior (pc := 120) dX4_floatBits_120 ?_
        refine zJ.topi (fun y6 hyy6 => ?_)
        replace h := h y6 hyy6
        refine zJ.goto (pc := 121) (tgt := 125) dX4_floatBits_121 (by decide) ?_
        exact zG.ret (pc := 125) (r := some (.int y6)) ⟨dX4_floatBits_125, _, rfl, rfl⟩ h
  · replace h := h.2 c1
    refine zJ.fload_n (pc := 54) 1 dX4_floatBits_54 rfl rfl ?_
    refine zJ.fconst0 (pc := 55) dX4_floatBits_55 ?_
    refine zJ.fcmp (pc := 56) dX4_floatBits_56 ?_
    refine zJ.if_le (pc := 57) (tgt := 84) dX4_floatBits_57 (by decide) (fun c7 => ?_) (fun c7 => ?_)
    · replace h := h.1 c7
      refine zJ.fload_n (pc := 84) 1 dX4_floatBits_84 rfl rfl ?_
      refine zJ.fconst1 (pc := 85) dX4_floatBits_85 ?_
      refine zJ.fcmp (pc := 86) dX4_floatBits_86 ?_
      refine zJ.if_ge (pc := 87) (tgt := 98) dX4_floatBits_87 (by decide) (fun c8 => ?_) (fun c8 => ?_)
      · replace h := h.1 c8
        refine zJ.iload_n (pc := 98) 2 dX4_floatBits_98 rfl rfl ?_
        refine zJ.bipush (pc := 99) (v := 23) dX4_floatBits_99 (by decide) ?_
        refine zJ.ishl (pc := 101) dX4_floatBits_101 ?_
        refine zJ.fload_n (pc := 102) 1 dX4_floatBits_102 rfl rfl ?_
        refine zJ.fconst1 (pc := 103) dX4_floatBits_103 ?_
        obtain ⟨hq, h⟩ := h
        refine zJ.fsub (pc := 104) dX4_floatBits_104 hq ?_
        refine zJ.ldcf (pc := 105) lc_X4_227 dX4_floatBits_105 ?_
        obtain ⟨hq, h⟩ := h
        refine zJ.fmul (pc := 107) dX4_floatBits_107 hq ?_
        refine zJ.f2i (pc := 108) dX4_floatBits_108 ?_
        refine zJ.topi (fun y9 hyy9 => ?_)
        replace h := h y9 hyy9
        refine zJ.ior (pc := 109) dX4_floatBits_109 ?_
        refine zJ.istore_n (pc := 110) (lv' := [(3, .int ((x2 <<< (23 &&& 31)) ||| y9)), (0, .float x0), (1, .float x1), (2, .int x2)]) dX4_floatBits_110 rfl (Nat.le_of_ble_eq_true rfl) rfl ?_
        refine zJ.fload_n (pc := 111) 1 dX4_floatBits_111 rfl rfl ?_
        refine zJ.fconst0 (pc := 112) dX4_floatBits_112 ?_
        refine zJ.fcmp (pc := 113) dX4_floatBits_113 ?_
        refine zJ.if_ge (pc := 114) (tgt := 124) dX4_floatBits_114 (by decide) (fun c10 => ?_) (fun c10 => ?_)
        · replace h := h.1 c10
          refine zJ.iload_n (pc := 124) 0 dX4_floatBits_124 rfl rfl ?_
          exact zG.ret (pc := 125) (r := some (.int ((x2 <<< (23 &&& 31)) ||| y9))) ⟨dX4_floatBits_125, _, rfl, rfl⟩ h
        · replace h := h.2 c10
          refine zJ.iload_n (pc := 117) 0 dX4_floatBits_117 rfl rfl ?_
          refine zJ.ldc (pc := 118) lc_X4_228 dX4_floatBits_118 ?_
          refine zJ.ior (pc := 120) dX4_floatBits_120 ?_
          refine zJ.goto (pc := 121) (tgt := 125) dX4_floatBits_121 (by decide) ?_
          exact zG.ret (pc := 125) (r := some (.int (((x2 <<< (23 &&& 31)) ||| y9) ||| (-2147483648 : Int32)))) ⟨dX4_floatBits_125, _, rfl, rfl⟩ h
      · replace h := h.2 c8
        refine zJ.fload_n (pc := 90) 1 dX4_floatBits_90 rfl rfl ?_
        refine zJ.ldcf (pc := 91) lc_X4_227 dX4_floatBits_91 ?_
        obtain ⟨hq, h⟩ := h
        refine zJ.fmul (pc := 93) dX4_floatBits_93 hq ?_
        refine zJ.f2i (pc := 94) dX4_floatBits_94 ?_
        refine zJ.goto (pc := 95) (tgt := 110) dX4_floatBits_95 (by decide) ?_
        refine zJ.istore_n (pc := 110) (lv' := [(3, .int (FP.f2i (FP.fmul x1 (1258291200 : UInt32)))), (0, .float x0), (1, .float x1), (2, .int x2)]) dX4_floatBits_110 rfl (Nat.le_of_ble_eq_true rfl) rfl ?_
        refine zJ.fload_n (pc := 111) 1 dX4_floatBits_111 rfl rfl ?_
        refine zJ.fconst0 (pc := 112) dX4_floatBits_112 ?_
        refine zJ.fcmp (pc := 113) dX4_floatBits_113 ?_
        refine zJ.if_ge (pc := 114) (tgt := 124) dX4_floatBits_114 (by decide) (fun c11 => ?_) (fun c11 => ?_)
        · replace h := h.1 c11
          refine zJ.iload_n (pc := 124) 0 dX4_floatBits_124 rfl rfl ?_
          exact zG.ret (pc := 125) (r := some (.int (FP.f2i (FP.fmul x1 (1258291200 : UInt32))))) ⟨dX4_floatBits_125, _, rfl, rfl⟩ h
        · replace h := h.2 c11
          refine zJ.iload_n (pc := 117) 0 dX4_floatBits_117 rfl rfl ?_
          refine zJ.ldc (pc := 118) lc_X4_228 dX4_floatBits_118 ?_
          refine zJ.ior (pc := 120) dX4_floatBits_120 ?_
          refine zJ.topi (fun y12 hyy12 => ?_)
          replace h := h y12 hyy12
          refine zJ.goto (pc := 121) (tgt := 125) dX4_floatBits_121 (by decide) ?_
          exact zG.ret (pc := 125) (r := some (.int y12)) ⟨dX4_floatBits_125, _, rfl, rfl⟩ h
    · replace h := h.2 c7
      refine zJ.fload_n (pc := 60) 1 dX4_floatBits_60 rfl rfl ?_
      refine zJ.fconst1 (pc := 61) dX4_floatBits_61 ?_
      refine zJ.fcmp (pc := 62) dX4_floatBits_62 ?_
      refine zJ.if_ge (pc := 63) (tgt := 84) dX4_floatBits_63 (by decide) (fun c13 => ?_) (fun c13 => ?_)
      · replace h := h.1 c13
        refine zJ.fload_n (pc := 84) 1 dX4_floatBits_84 rfl rfl ?_
        refine zJ.fconst1 (pc := 85) dX4_floatBits_85 ?_
        refine zJ.fcmp (pc := 86) dX4_floatBits_86 ?_
        refine zJ.if_ge (pc := 87) (tgt := 98) dX4_floatBits_87 (by decide) (fun c14 => ?_) (fun c14 => ?_)
        · replace h := h.1 c14
          refine zJ.iload_n (pc := 98) 2 dX4_floatBits_98 rfl rfl ?_
          refine zJ.bipush (pc := 99) (v := 23) dX4_floatBits_99 (by decide) ?_
          refine zJ.ishl (pc := 101) dX4_floatBits_101 ?_
          refine zJ.fload_n (pc := 102) 1 dX4_floatBits_102 rfl rfl ?_
          refine zJ.fconst1 (pc := 103) dX4_floatBits_103 ?_
          obtain ⟨hq, h⟩ := h
          refine zJ.fsub (pc := 104) dX4_floatBits_104 hq ?_
          refine zJ.ldcf (pc := 105) lc_X4_227 dX4_floatBits_105 ?_
          obtain ⟨hq, h⟩ := h
          refine zJ.fmul (pc := 107) dX4_floatBits_107 hq ?_
          refine zJ.f2i (pc := 108) dX4_floatBits_108 ?_
          refine zJ.topi (fun y15 hyy15 => ?_)
          replace h := h y15 hyy15
          refine zJ.ior (pc := 109) dX4_floatBits_109 ?_
          refine zJ.istore_n (pc := 110) (lv' := [(3, .int ((x2 <<< (23 &&& 31)) ||| y15)), (0, .float x0), (1, .float x1), (2, .int x2)]) dX4_floatBits_110 rfl (Nat.le_of_ble_eq_true rfl) rfl ?_
          refine zJ.fload_n (pc := 111) 1 dX4_floatBits_111 rfl rfl ?_
          refine zJ.fconst0 (pc := 112) dX4_floatBits_112 ?_
          refine zJ.fcmp (pc := 113) dX4_floatBits_113 ?_
          refine zJ.if_ge (pc := 114) (tgt := 124) dX4_floatBits_114 (by decide) (fun c16 => ?_) (fun c16 => ?_)
          · replace h := h.1 c16
            refine zJ.iload_n (pc := 124) 0 dX4_floatBits_124 rfl rfl ?_
            exact zG.ret (pc := 125) (r := some (.int ((x2 <<< (23 &&& 31)) ||| y15))) ⟨dX4_floatBits_125, _, rfl, rfl⟩ h
          · replace h := h.2 c16
            refine zJ.iload_n (pc := 117) 0 dX4_floatBits_117 rfl rfl ?_
            refine zJ.ldc (pc := 118) lc_X4_228 dX4_floatBits_118 ?_
            refine zJ.ior (pc := 120) dX4_floatBits_120 ?_
            refine zJ.goto (pc := 121) (tgt := 125) dX4_floatBits_121 (by decide) ?_
            exact zG.ret (pc := 125) (r := some (.int (((x2 <<< (23 &&& 31)) ||| y15) ||| (-2147483648 : Int32)))) ⟨dX4_floatBits_125, _, rfl, rfl⟩ h
        · replace h := h.2 c14
          refine zJ.fload_n (pc := 90) 1 dX4_floatBits_90 rfl rfl ?_
          refine zJ.ldcf (pc := 91) lc_X4_227 dX4_floatBits_91 ?_
          obtain ⟨hq, h⟩ := h
          refine zJ.fmul (pc := 93) dX4_floatBits_93 hq ?_
          refine zJ.f2i (pc := 94) dX4_floatBits_94 ?_
          refine zJ.goto (pc := 95) (tgt := 110) dX4_floatBits_95 (by decide) ?_
          refine zJ.istore_n (pc := 110) (lv' := [(3, .int (FP.f2i (FP.fmul x1 (1258291200 : UInt32)))), (0, .float x0), (1, .float x1), (2, .int x2)]) dX4_floatBits_110 rfl (Nat.le_of_ble_eq_true rfl) rfl ?_
          refine zJ.fload_n (pc := 111) 1 dX4_floatBits_111 rfl rfl ?_
          refine zJ.fconst0 (pc := 112) dX4_floatBits_112 ?_
          refine zJ.fcmp (pc := 113) dX4_floatBits_113 ?_
          refine zJ.if_ge (pc := 114) (tgt := 124) dX4_floatBits_114 (by decide) (fun c17 => ?_) (fun c17 => ?_)
          · replace h := h.1 c17
            refine zJ.iload_n (pc := 124) 0 dX4_floatBits_124 rfl rfl ?_
            exact zG.ret (pc := 125) (r := some (.int (FP.f2i (FP.fmul x1 (1258291200 : UInt32))))) ⟨dX4_floatBits_125, _, rfl, rfl⟩ h
          · replace h := h.2 c17
            refine zJ.iload_n (pc := 117) 0 dX4_floatBits_117 rfl rfl ?_
            refine zJ.ldc (pc := 118) lc_X4_228 dX4_floatBits_118 ?_
            refine zJ.ior (pc := 120) dX4_floatBits_120 ?_
            refine zJ.topi (fun y18 hyy18 => ?_)
            replace h := h y18 hyy18
            refine zJ.goto (pc := 121) (tgt := 125) dX4_floatBits_121 (by decide) ?_
            exact zG.ret (pc := 125) (r := some (.int y18)) ⟨dX4_floatBits_125, _, rfl, rfl⟩ h
      · replace h := h.2 c13
        refine zJ.iload_n (pc := 66) 2 dX4_floatBits_66 rfl rfl ?_
        refine zJ.iconst (pc := 67) (v := 1) dX4_floatBits_67 (by decide) ?_
        refine zJ.icmp_le (pc := 68) (tgt := 84) dX4_floatBits_68 (by decide) (fun c19 => ?_) (fun c19 => ?_)
        · replace h := h.1 c19
          refine zJ.fload_n (pc := 84) 1 dX4_floatBits_84 rfl rfl ?_
          refine zJ.fconst1 (pc := 85) dX4_floatBits_85 ?_
          refine zJ.fcmp (pc := 86) dX4_floatBits_86 ?_
          refine zJ.if_ge (pc := 87) (tgt := 98) dX4_floatBits_87 (by decide) (fun c20 => ?_) (fun c20 => ?_)
          · replace h := h.1 c20
            refine zJ.iload_n (pc := 98) 2 dX4_floatBits_98 rfl rfl ?_
            refine zJ.bipush (pc := 99) (v := 23) dX4_floatBits_99 (by decide) ?_
            refine zJ.ishl (pc := 101) dX4_floatBits_101 ?_
            refine zJ.fload_n (pc := 102) 1 dX4_floatBits_102 rfl rfl ?_
            refine zJ.fconst1 (pc := 103) dX4_floatBits_103 ?_
            obtain ⟨hq, h⟩ := h
            refine zJ.fsub (pc := 104) dX4_floatBits_104 hq ?_
            refine zJ.ldcf (pc := 105) lc_X4_227 dX4_floatBits_105 ?_
            obtain ⟨hq, h⟩ := h
            refine zJ.fmul (pc := 107) dX4_floatBits_107 hq ?_
            refine zJ.f2i (pc := 108) dX4_floatBits_108 ?_
            refine zJ.topi (fun y21 hyy21 => ?_)
            replace h := h y21 hyy21
            refine zJ.ior (pc := 109) dX4_floatBits_109 ?_
            refine zJ.istore_n (pc := 110) (lv' := [(3, .int ((x2 <<< (23 &&& 31)) ||| y21)), (0, .float x0), (1, .float x1), (2, .int x2)]) dX4_floatBits_110 rfl (Nat.le_of_ble_eq_true rfl) rfl ?_
            refine zJ.fload_n (pc := 111) 1 dX4_floatBits_111 rfl rfl ?_
            refine zJ.fconst0 (pc := 112) dX4_floatBits_112 ?_
            refine zJ.fcmp (pc := 113) dX4_floatBits_113 ?_
            refine zJ.if_ge (pc := 114) (tgt := 124) dX4_floatBits_114 (by decide) (fun c22 => ?_) (fun c22 => ?_)
            · replace h := h.1 c22
              refine zJ.iload_n (pc := 124) 0 dX4_floatBits_124 rfl rfl ?_
              exact zG.ret (pc := 125) (r := some (.int ((x2 <<< (23 &&& 31)) ||| y21))) ⟨dX4_floatBits_125, _, rfl, rfl⟩ h
            · replace h := h.2 c22
              refine zJ.iload_n (pc := 117) 0 dX4_floatBits_117 rfl rfl ?_
              refine zJ.ldc (pc := 118) lc_X4_228 dX4_floatBits_118 ?_
              refine zJ.ior (pc := 120) dX4_floatBits_120 ?_
              refine zJ.goto (pc := 121) (tgt := 125) dX4_floatBits_121 (by decide) ?_
              exact zG.ret (pc := 125) (r := some (.int (((x2 <<< (23 &&& 31)) ||| y21) ||| (-2147483648 : Int32)))) ⟨dX4_floatBits_125, _, rfl, rfl⟩ h
          · replace h := h.2 c20
            refine zJ.fload_n (pc := 90) 1 dX4_floatBits_90 rfl rfl ?_
            refine zJ.ldcf (pc := 91) lc_X4_227 dX4_floatBits_91 ?_
            obtain ⟨hq, h⟩ := h
            refine zJ.fmul (pc := 93) dX4_floatBits_93 hq ?_
            refine zJ.f2i (pc := 94) dX4_floatBits_94 ?_
            refine zJ.goto (pc := 95) (tgt := 110) dX4_floatBits_95 (by decide) ?_
            refine zJ.istore_n (pc := 110) (lv' := [(3, .int (FP.f2i (FP.fmul x1 (1258291200 : UInt32)))), (0, .float x0), (1, .float x1), (2, .int x2)]) dX4_floatBits_110 rfl (Nat.le_of_ble_eq_true rfl) rfl ?_
            refine zJ.fload_n (pc := 111) 1 dX4_floatBits_111 rfl rfl ?_
            refine zJ.fconst0 (pc := 112) dX4_floatBits_112 ?_
            refine zJ.fcmp (pc := 113) dX4_floatBits_113 ?_
            refine zJ.if_ge (pc := 114) (tgt := 124) dX4_floatBits_114 (by decide) (fun c23 => ?_) (fun c23 => ?_)
            · replace h := h.1 c23
              refine zJ.iload_n (pc := 124) 0 dX4_floatBits_124 rfl rfl ?_
              exact zG.ret (pc := 125) (r := some (.int (FP.f2i (FP.fmul x1 (1258291200 : UInt32))))) ⟨dX4_floatBits_125, _, rfl, rfl⟩ h
            · replace h := h.2 c23
              refine zJ.iload_n (pc := 117) 0 dX4_floatBits_117 rfl rfl ?_
              refine zJ.ldc (pc := 118) lc_X4_228 dX4_floatBits_118 ?_
              refine zJ.ior (pc := 120) dX4_floatBits_120 ?_
              refine zJ.topi (fun y24 hyy24 => ?_)
              replace h := h y24 hyy24
              refine zJ.goto (pc := 121) (tgt := 125) dX4_floatBits_121 (by decide) ?_
              exact zG.ret (pc := 125) (r := some (.int y24)) ⟨dX4_floatBits_125, _, rfl, rfl⟩ h
        · replace h := h.2 c19
          refine zJ.fload_n (pc := 71) 1 dX4_floatBits_71 rfl rfl ?_
          refine zJ.fconst2 (pc := 72) dX4_floatBits_72 ?_
          obtain ⟨hq, h⟩ := h
          refine zJ.fmul (pc := 73) dX4_floatBits_73 hq ?_
          refine zJ.fstore_n (pc := 74) (lv' := [(1, .float (FP.fmul x1 FP.fconst2)), (0, .float x0), (2, .int x2), (3, .int x3)]) dX4_floatBits_74 rfl (Nat.le_of_ble_eq_true rfl) rfl ?_
          refine zJ.iinc (pc := 75) (k := 2) (lv' := [(2, .int (x2 + (-1))), (1, .float (FP.fmul x1 FP.fconst2)), (0, .float x0), (3, .int x3)]) dX4_floatBits_75 rfl rfl (Nat.le_of_ble_eq_true rfl) rfl ?_
          refine zJ.iinc (pc := 78) (k := 3) (lv' := [(3, .int (x3 + 1)), (2, .int (x2 + (-1))), (1, .float (FP.fmul x1 FP.fconst2)), (0, .float x0)]) dX4_floatBits_78 rfl rfl (Nat.le_of_ble_eq_true rfl) rfl ?_
          refine zJ.goto (pc := 81) (tgt := 47) dX4_floatBits_81 (by decide) ?_
          exact zJ.sub [3, 2, 1, 0] rfl h
set_option maxRecDepth 100000 in
set_option maxHeartbeats 4000000 in
theorem w_X4_doubleBits_0 (o : zW) (x0 : UInt64) (S : zS) (Q : Option Value → zS → Prop) (h : (0 ≤ (Op.cmpValue (FP.dcmp x0 FP.dconst0) CmpOp.g) → (zG o 994 mdX4_doubleBits 21 [(0, .double x0), (2, .double x0), (4, .long (1023 : Int64)), (6, .int 0)] [] S Q)) ∧ (¬ 0 ≤ (Op.cmpValue (FP.dcmp x0 FP.dconst0) CmpOp.g) → (zG o 994 mdX4_doubleBits 21 [(0, .double x0), (2, .double (FP.dneg x0)), (4, .long (1023 : Int64)), (6, .int 0)] [] S Q))) : zG o 994 mdX4_doubleBits 0 [(0, .double x0)] [] S Q := by
  show zJ o mdX4_doubleBits 0 _ [] (994, z_enc o S) 0 0 _
  refine zJ.dload_n (pc := 0) 0 dX4_doubleBits_0 rfl rfl ?_
  refine zJ.dconst0 (pc := 1) dX4_doubleBits_1 ?_
  refine zJ.dcmp (pc := 2) dX4_doubleBits_2 ?_
  refine zJ.if_ge (pc := 3) (tgt := 11) dX4_doubleBits_3 (by decide) (fun c1 => ?_) (fun c1 => ?_)
  · replace h := h.1 c1
    refine zJ.dload_n (pc := 11) 0 dX4_doubleBits_11 rfl rfl ?_
    refine zJ.dstore_n (pc := 12) (lv' := [(2, .double x0), (0, .double x0)]) dX4_doubleBits_12 rfl (Nat.le_of_ble_eq_true rfl) rfl ?_
    refine zJ.ldc2 (pc := 13) lc_X4_229 dX4_doubleBits_13 ?_
    refine zJ.lstore (pc := 16) (lv' := [(4, .long (1023 : Int64)), (2, .double x0), (0, .double x0)]) dX4_doubleBits_16 (Nat.le_of_ble_eq_true rfl) rfl ?_
    refine zJ.iconst (pc := 18) (v := 0) dX4_doubleBits_18 (by decide) ?_
    refine zJ.istore (pc := 19) (lv' := [(6, .int 0), (4, .long (1023 : Int64)), (2, .double x0), (0, .double x0)]) dX4_doubleBits_19 (Nat.le_of_ble_eq_true rfl) rfl ?_
    exact zJ.sub [3, 2, 1, 0] rfl h
  · replace h := h.2 c1
    refine zJ.dload_n (pc := 6) 0 dX4_doubleBits_6 rfl rfl ?_
    refine zJ.dneg (pc := 7) dX4_doubleBits_7 ?_
    refine zJ.goto (pc := 8) (tgt := 12) dX4_doubleBits_8 (by decide) ?_
    refine zJ.dstore_n (pc := 12) (lv' := [(2, .double (FP.dneg x0)), (0, .double x0)]) dX4_doubleBits_12 rfl (Nat.le_of_ble_eq_true rfl) rfl ?_
    refine zJ.ldc2 (pc := 13) lc_X4_229 dX4_doubleBits_13 ?_
    refine zJ.lstore (pc := 16) (lv' := [(4, .long (1023 : Int64)), (2, .double (FP.dneg x0)), (0, .double x0)]) dX4_doubleBits_16 (Nat.le_of_ble_eq_true rfl) rfl ?_
    refine zJ.iconst (pc := 18) (v := 0) dX4_doubleBits_18 (by decide) ?_
    refine zJ.istore (pc := 19) (lv' := [(6, .int 0), (4, .long (1023 : Int64)), (2, .double (FP.dneg x0)), (0, .double x0)]) dX4_doubleBits_19 (Nat.le_of_ble_eq_true rfl) rfl ?_
    exact zJ.sub [3, 2, 1, 0] rfl h
set_option maxRecDepth 100000 in
set_option maxHeartbeats 4000000 in
theorem w_X4_doubleBits_21 (o : zW) (x0 : UInt64) (x2 : UInt64) (x4 : Int64) (x6 : Int32) (S : zS) (Q : Option Value → zS → Prop) (h : (1100 ≤ x6 → (zG o 994 mdX4_doubleBits 58 [(0, .double x0), (2, .double x2), (4, .long x4), (6, .int 0)] [] S Q)) ∧ (¬ 1100 ≤ x6 → (∀ y2 : Int32, y2 = (Op.cmpValue (FP.dcmp x2 (4611686018427387904 : UInt64)) CmpOp.l) → ((y2 < 0 → (zG o 994 mdX4_doubleBits 58 [(0, .double x0), (2, .double x2), (4, .long x4), (6, .int 0)] [] S Q)) ∧ (¬ y2 < 0 → (vf_n64 (FP.dmul x2 (4602678819172646912 : UInt64)) ∧ (zG o 994 mdX4_doubleBits 21 [(0, .double x0), (2, .double (FP.dmul x2 (4602678819172646912 : UInt64))), (4, .long (x4 + 1)), (6, .int (x6 + 1))] [] S Q))))))) : zG o 994 mdX4_doubleBits 21 [(0, .double x0), (2, .double x2), (4, .long x4), (6, .int x6)] [] S Q := by
  show zJ o mdX4_doubleBits 21 _ [] (994, z_enc o S) 0 0 _
  refine zJ.iload (pc := 21) 3 dX4_doubleBits_21 rfl ?_
  refine zJ.sipush (pc := 23) (v := 1100) dX4_doubleBits_23 (by decide) ?_
  refine zJ.icmp_ge (pc := 26) (tgt := 55) dX4_doubleBits_26 (by decide) (fun c1 => ?_) (fun c1 => ?_)
  · replace h := h.1 c1
    refine zJ.iconst (pc := 55) (v := 0) dX4_doubleBits_55 (by decide) ?_
    refine zJ.istore (pc := 56) (lv' := [(6, .int 0), (0, .double x0), (2, .double x2), (4, .long x4)]) dX4_doubleBits_56 (Nat.le_of_ble_eq_true rfl) rfl ?_
    exact zJ.sub [1, 2, 3, 0] rfl h
  · replace h := h.2 c1
    refine zJ.dload_n (pc := 29) 1 dX4_doubleBits_29 rfl rfl ?_
    refine zJ.ldc2d (pc := 30) lc_X4_231 dX4_doubleBits_30 ?_
    refine zJ.dcmp (pc := 33) dX4_doubleBits_33 ?_
    refine zJ.topi (fun y2 hyy2 => ?_)
    replace h := h y2 hyy2
    refine zJ.if_lt (pc := 34) (tgt := 55) dX4_doubleBits_34 (by decide) (fun c3 => ?_) (fun c3 => ?_)
    · replace h := h.1 c3
      refine zJ.iconst (pc := 55) (v := 0) dX4_doubleBits_55 (by decide) ?_
      refine zJ.istore (pc := 56) (lv' := [(6, .int 0), (0, .double x0), (2, .double x2), (4, .long x4)]) dX4_doubleBits_56 (Nat.le_of_ble_eq_true rfl) rfl ?_
      exact zJ.sub [1, 2, 3, 0] rfl h
    · replace h := h.2 c3
      refine zJ.dload_n (pc := 37) 1 dX4_doubleBits_37 rfl rfl ?_
      refine zJ.ldc2d (pc := 38) lc_X4_233 dX4_doubleBits_38 ?_
      obtain ⟨hq, h⟩ := h
      refine zJ.dmul (pc := 41) dX4_doubleBits_41 hq ?_
      refine zJ.dstore_n (pc := 42) (lv' := [(2, .double (FP.dmul x2 (4602678819172646912 : UInt64))), (0, .double x0), (4, .long x4), (6, .int x6)]) dX4_doubleBits_42 rfl (Nat.le_of_ble_eq_true rfl) rfl ?_
      refine zJ.lload (pc := 43) 2 dX4_doubleBits_43 rfl ?_
      refine zJ.lconst (pc := 45) (v := 1) dX4_doubleBits_45 (by decide) ?_
      refine zJ.ladd (pc := 46) dX4_doubleBits_46 ?_
      refine zJ.lstore (pc := 47) (lv' := [(4, .long (x4 + 1)), (2, .double (FP.dmul x2 (4602678819172646912 : UInt64))), (0, .double x0), (6, .int x6)]) dX4_doubleBits_47 (Nat.le_of_ble_eq_true rfl) rfl ?_
      refine zJ.iinc (pc := 49) (k := 3) (lv' := [(6, .int (x6 + 1)), (4, .long (x4 + 1)), (2, .double (FP.dmul x2 (4602678819172646912 : UInt64))), (0, .double x0)]) dX4_doubleBits_49 rfl rfl (Nat.le_of_ble_eq_true rfl) rfl ?_
      refine zJ.goto (pc := 52) (tgt := 21) dX4_doubleBits_52 (by decide) ?_
      exact zJ.sub [3, 2, 1, 0] rfl h
set_option maxRecDepth 100000 in
set_option maxHeartbeats 4000000 in
theorem w_X4_doubleBits_58 (o : zW) (x0 : UInt64) (x2 : UInt64) (x4 : Int64) (x6 : Int32) (S : zS) (Q : Option Value → zS → Prop) (h : (1100 ≤ x6 → ((0 ≤ (Op.cmpValue (FP.dcmp x2 FP.dconst1) CmpOp.g) → (vf_n64 (FP.dsub x2 FP.dconst1) ∧ (vf_n64 (FP.dmul (FP.dsub x2 FP.dconst1) (4841369599423283200 : UInt64)) ∧ ((0 ≤ (Op.cmpValue (FP.dcmp x0 FP.dconst0) CmpOp.g) → (Q (some (.long ((x4 <<< ((52 : Int32).toInt64 &&& 63)) ||| (FP.d2l (FP.dmul (FP.dsub x2 FP.dconst1) (4841369599423283200 : UInt64)))))) S)) ∧ (¬ 0 ≤ (Op.cmpValue (FP.dcmp x0 FP.dconst0) CmpOp.g) → (Q (some (.long (((x4 <<< ((52 : Int32).toInt64 &&& 63)) ||| (FP.d2l (FP.dmul (FP.dsub x2 FP.dconst1) (4841369599423283200 : UInt64)))) ||| (-9223372036854775808 : Int64)))) S)))))) ∧ (¬ 0 ≤ (Op.cmpValue (FP.dcmp x2 FP.dconst1) CmpOp.g) → (vf_n64 (FP.dmul x2 (4841369599423283200 : UInt64)) ∧ ((0 ≤ (Op.cmpValue (FP.dcmp x0 FP.dconst0) CmpOp.g) → (Q (some (.long (FP.d2l (FP.dmul x2 (4841369599423283200 : UInt64))))) S)) ∧ (¬ 0 ≤ (Op.cmpValue (FP.dcmp x0 FP.dconst0) CmpOp.g) → (Q (some (.long ((FP.d2l (FP.dmul x2 (4841369599423283200 : UInt64))) ||| (-9223372036854775808 : Int64)))) S))))))) ∧ (¬ 1100 ≤ x6 → (((Op.cmpValue (FP.dcmp x2 FP.dconst0) CmpOp.l) ≤ 0 → ((0 ≤ (Op.cmpValue (FP.dcmp x2 FP.dconst1) CmpOp.g) → (vf_n64 (FP.dsub x2 FP.dconst1) ∧ (vf_n64 (FP.dmul (FP.dsub x2 FP.dconst1) (4841369599423283200 : UInt64)) ∧ ((0 ≤ (Op.cmpValue (FP.dcmp x0 FP.dconst0) CmpOp.g) → (Q (some (.long ((x4 <<< ((52 : Int32).toInt64 &&& 63)) ||| (FP.d2l (FP.dmul (FP.dsub x2 FP.dconst1) (4841369599423283200 : UInt64)))))) S)) ∧ (¬ 0 ≤ (Op.cmpValue (FP.dcmp x0 FP.dconst0) CmpOp.g) → (Q (some (.long (((x4 <<< ((52 : Int32).toInt64 &&& 63)) ||| (FP.d2l (FP.dmul (FP.dsub x2 FP.dconst1) (4841369599423283200 : UInt64)))) ||| (-9223372036854775808 : Int64)))) S)))))) ∧ (¬ 0 ≤ (Op.cmpValue (FP.dcmp x2 FP.dconst1) CmpOp.g) → (vf_n64 (FP.dmul x2 (4841369599423283200 : UInt64)) ∧ ((0 ≤ (Op.cmpValue (FP.dcmp x0 FP.dconst0) CmpOp.g) → (Q (some (.long (FP.d2l (FP.dmul x2 (4841369599423283200 : UInt64))))) S)) ∧ (¬ 0 ≤ (Op.cmpValue (FP.dcmp x0 FP.dconst0) CmpOp.g) → (Q (some (.long ((FP.d2l (FP.dmul x2 (4841369599423283200 : UInt64))) ||| (-9223372036854775808 : Int64)))) S))))))) ∧ (¬ (Op.cmpValue (FP.dcmp x2 FP.dconst0) CmpOp.l) ≤ 0 → ((0 ≤ (Op.cmpValue (FP.dcmp x2 FP.dconst1) CmpOp.g) → ((0 ≤ (Op.cmpValue (FP.dcmp x2 FP.dconst1) CmpOp.g) → (vf_n64 (FP.dsub x2 FP.dconst1) ∧ (vf_n64 (FP.dmul (FP.dsub x2 FP.dconst1) (4841369599423283200 : UInt64)) ∧ ((0 ≤ (Op.cmpValue (FP.dcmp x0 FP.dconst0) CmpOp.g) → (Q (some (.long ((x4 <<< ((52 : Int32).toInt64 &&& 63)) ||| (FP.d2l (FP.dmul (FP.dsub x2 FP.dconst1) (4841369599423283200 : UInt64)))))) S)) ∧ (¬ 0 ≤ (Op.cmpValue (FP.dcmp x0 FP.dconst0) CmpOp.g) → (Q (some (.long (((x4 <<< ((52 : Int32).toInt64 &&& 63)) ||| (FP.d2l (FP.dmul (FP.dsub x2 FP.dconst1) (4841369599423283200 : UInt64)))) ||| (-9223372036854775808 : Int64)))) S)))))) ∧ (¬ 0 ≤ (Op.cmpValue (FP.dcmp x2 FP.dconst1) CmpOp.g) → (vf_n64 (FP.dmul x2 (4841369599423283200 : UInt64)) ∧ ((0 ≤ (Op.cmpValue (FP.dcmp x0 FP.dconst0) CmpOp.g) → (Q (some (.long (FP.d2l (FP.dmul x2 (4841369599423283200 : UInt64))))) S)) ∧ (¬ 0 ≤ (Op.cmpValue (FP.dcmp x0 FP.dconst0) CmpOp.g) → (Q (some (.long ((FP.d2l (FP.dmul x2 (4841369599423283200 : UInt64))) ||| (-9223372036854775808 : Int64)))) S))))))) ∧ (¬ 0 ≤ (Op.cmpValue (FP.dcmp x2 FP.dconst1) CmpOp.g) → (((z_lcmp x4 1) ≤ 0 → ((0 ≤ (Op.cmpValue (FP.dcmp x2 FP.dconst1) CmpOp.g) → (vf_n64 (FP.dsub x2 FP.dconst1) ∧ (vf_n64 (FP.dmul (FP.dsub x2 FP.dconst1) (4841369599423283200 : UInt64)) ∧ ((0 ≤ (Op.cmpValue (FP.dcmp x0 FP.dconst0) CmpOp.g) → (Q (some (.long ((x4 <<< ((52 : Int32).toInt64 &&& 63)) ||| (FP.d2l (FP.dmul (FP.dsub x2 FP.dconst1) (4841369599423283200 : UInt64)))))) S)) ∧ (¬ 0 ≤ (Op.cmpValue (FP.dcmp x0 FP.dconst0) CmpOp.g) → (Q (some (.long (((x4 <<< ((52 : Int32).toInt64 &&& 63)) ||| (FP.d2l (FP.dmul (FP.dsub x2 FP.dconst1) (4841369599423283200 : UInt64)))) ||| (-9223372036854775808 : Int64)))) S)))))) ∧ (¬ 0 ≤ (Op.cmpValue (FP.dcmp x2 FP.dconst1) CmpOp.g) → (vf_n64 (FP.dmul x2 (4841369599423283200 : UInt64)) ∧ ((0 ≤ (Op.cmpValue (FP.dcmp x0 FP.dconst0) CmpOp.g) → (Q (some (.long (FP.d2l (FP.dmul x2 (4841369599423283200 : UInt64))))) S)) ∧ (¬ 0 ≤ (Op.cmpValue (FP.dcmp x0 FP.dconst0) CmpOp.g) → (Q (some (.long ((FP.d2l (FP.dmul x2 (4841369599423283200 : UInt64))) ||| (-9223372036854775808 : Int64)))) S))))))) ∧ (¬ (z_lcmp x4 1) ≤ 0 → (vf_n64 (FP.dmul x2 (4611686018427387904 : UInt64)) ∧ (zG o 994 mdX4_doubleBits 58 [(0, .double x0), (2, .double (FP.dmul x2 (4611686018427387904 : UInt64))), (4, .long (x4 - 1)), (6, .int (x6 + 1))] [] S Q)))))))))) : zG o 994 mdX4_doubleBits 58 [(0, .double x0), (2, .double x2), (4, .long x4), (6, .int x6)] [] S Q := by
  show zJ o mdX4_doubleBits 58 _ [] (994, z_enc o S) 0 0 _
  refine zJ.iload (pc := 58) 3 dX4_doubleBits_58 rfl ?_
  refine zJ.sipush (pc := 60) (v := 1100) dX4_doubleBits_60 (by decide) ?_
  refine zJ.icmp_ge (pc := 63) (tgt := 103) dX4_doubleBits_63 (by decide) (fun c1 => ?_) (fun c1 => ?_)
  · replace h := h.1 c1
    refine zJ.dload_n (pc := 103) 1 dX4_doubleBits_103 rfl rfl ?_
    refine zJ.dconst1 (pc := 104) dX4_doubleBits_104 ?_
    refine zJ.dcmp (pc := 105) dX4_doubleBits_105 ?_
    refine zJ.if_ge (pc := 106) (tgt := 118) dX4_doubleBits_106 (by decide) (fun c2 => ?_) (fun c2 => ?_)
    · replace h := h.1 c2
      refine zJ.lload (pc := 118) 2 dX4_doubleBits_118 rfl ?_
      refine zJ.bipush (pc := 120) (v := 52) dX4_doubleBits_120 (by decide) ?_
      refine zJ.lshl (pc := 122) dX4_doubleBits_122 ?_
      refine zJ.dload_n (pc := 123) 1 dX4_doubleBits_123 rfl rfl ?_
      refine zJ.dconst1 (pc := 124) dX4_doubleBits_124 ?_
      obtain ⟨hq, h⟩ := h
      refine zJ.dsub (pc := 125) dX4_doubleBits_125 hq ?_
      refine zJ.ldc2d (pc := 126) lc_X4_235 dX4_doubleBits_126 ?_
      obtain ⟨hq, h⟩ := h
      refine zJ.dmul (pc := 129) dX4_doubleBits_129 hq ?_
      refine zJ.d2l (pc := 130) dX4_doubleBits_130 ?_
      refine zJ.lor (pc := 131) dX4_doubleBits_131 ?_
      refine zJ.lstore (pc := 132) (lv' := [(6, .long ((x4 <<< ((52 : Int32).toInt64 &&& 63)) ||| (FP.d2l (FP.dmul (FP.dsub x2 FP.dconst1) (4841369599423283200 : UInt64))))), (0, .double x0), (2, .double x2), (4, .long x4)]) dX4_doubleBits_132 (Nat.le_of_ble_eq_true rfl) rfl ?_
      refine zJ.dload_n (pc := 134) 1 dX4_doubleBits_134 rfl rfl ?_
      refine zJ.dconst0 (pc := 135) dX4_doubleBits_135 ?_
      refine zJ.dcmp (pc := 136) dX4_doubleBits_136 ?_
      refine zJ.if_ge (pc := 137) (tgt := 149) dX4_doubleBits_137 (by decide) (fun c3 => ?_) (fun c3 => ?_)
      · replace h := h.1 c3
        refine zJ.lload (pc := 149) 0 dX4_doubleBits_149 rfl ?_
        exact zG.ret (pc := 151) (r := some (.long ((x4 <<< ((52 : Int32).toInt64 &&& 63)) ||| (FP.d2l (FP.dmul (FP.dsub x2 FP.dconst1) (4841369599423283200 : UInt64)))))) ⟨dX4_doubleBits_151, rfl⟩ h
      · replace h := h.2 c3
        refine zJ.lload (pc := 140) 0 dX4_doubleBits_140 rfl ?_
        refine zJ.ldc2 (pc := 142) lc_X4_237 dX4_doubleBits_142 ?_
        refine zJ.lor (pc := 145) dX4_doubleBits_145 ?_
        refine zJ.goto (pc := 146) (tgt := 151) dX4_doubleBits_146 (by decide) ?_
        exact zG.ret (pc := 151) (r := some (.long (((x4 <<< ((52 : Int32).toInt64 &&& 63)) ||| (FP.d2l (FP.dmul (FP.dsub x2 FP.dconst1) (4841369599423283200 : UInt64)))) ||| (-9223372036854775808 : Int64)))) ⟨dX4_doubleBits_151, rfl⟩ h
    · replace h := h.2 c2
      refine zJ.dload_n (pc := 109) 1 dX4_doubleBits_109 rfl rfl ?_
      refine zJ.ldc2d (pc := 110) lc_X4_235 dX4_doubleBits_110 ?_
      obtain ⟨hq, h⟩ := h
      refine zJ.dmul (pc := 113) dX4_doubleBits_113 hq ?_
      refine zJ.d2l (pc := 114) dX4_doubleBits_114 ?_
      refine zJ.goto (pc := 115) (tgt := 132) dX4_doubleBits_115 (by decide) ?_
      refine zJ.lstore (pc := 132) (lv' := [(6, .long (FP.d2l (FP.dmul x2 (4841369599423283200 : UInt64)))), (0, .double x0), (2, .double x2), (4, .long x4)]) dX4_doubleBits_132 (Nat.le_of_ble_eq_true rfl) rfl ?_
      refine zJ.dload_n (pc := 134) 1 dX4_doubleBits_134 rfl rfl ?_
      refine zJ.dconst0 (pc := 135) dX4_doubleBits_135 ?_
      refine zJ.dcmp (pc := 136) dX4_doubleBits_136 ?_
      refine zJ.if_ge (pc := 137) (tgt := 149) dX4_doubleBits_137 (by decide) (fun c4 => ?_) (fun c4 => ?_)
      · replace h := h.1 c4
        refine zJ.lload (pc := 149) 0 dX4_doubleBits_149 rfl ?_
        exact zG.ret (pc := 151) (r := some (.long (FP.d2l (FP.dmul x2 (4841369599423283200 : UInt64))))) ⟨dX4_doubleBits_151, rfl⟩ h
      · replace h := h.2 c4
        refine zJ.lload (pc := 140) 0 dX4_doubleBits_140 rfl ?_
        refine zJ.ldc2 (pc := 142) lc_X4_237 dX4_doubleBits_142 ?_
        refine zJ.lor (pc := 145) dX4_doubleBits_145 ?_
        refine zJ.goto (pc := 146) (tgt := 151) dX4_doubleBits_146 (by decide) ?_
        exact zG.ret (pc := 151) (r := some (.long ((FP.d2l (FP.dmul x2 (4841369599423283200 : UInt64))) ||| (-9223372036854775808 : Int64)))) ⟨dX4_doubleBits_151, rfl⟩ h
  · replace h := h.2 c1
    refine zJ.dload_n (pc := 66) 1 dX4_doubleBits_66 rfl rfl ?_
    refine zJ.dconst0 (pc := 67) dX4_doubleBits_67 ?_
    refine zJ.dcmp (pc := 68) dX4_doubleBits_68 ?_
    refine zJ.if_le (pc := 69) (tgt := 103) dX4_doubleBits_69 (by decide) (fun c5 => ?_) (fun c5 => ?_)
    · replace h := h.1 c5
      refine zJ.dload_n (pc := 103) 1 dX4_doubleBits_103 rfl rfl ?_
      refine zJ.dconst1 (pc := 104) dX4_doubleBits_104 ?_
      refine zJ.dcmp (pc := 105) dX4_doubleBits_105 ?_
      refine zJ.if_ge (pc := 106) (tgt := 118) dX4_doubleBits_106 (by decide) (fun c6 => ?_) (fun c6 => ?_)
      · replace h := h.1 c6
        refine zJ.lload (pc := 118) 2 dX4_doubleBits_118 rfl ?_
        refine zJ.bipush (pc := 120) (v := 52) dX4_doubleBits_120 (by decide) ?_
        refine zJ.lshl (pc := 122) dX4_doubleBits_122 ?_
        refine zJ.dload_n (pc := 123) 1 dX4_doubleBits_123 rfl rfl ?_
        refine zJ.dconst1 (pc := 124) dX4_doubleBits_124 ?_
        obtain ⟨hq, h⟩ := h
        refine zJ.dsub (pc := 125) dX4_doubleBits_125 hq ?_
        refine zJ.ldc2d (pc := 126) lc_X4_235 dX4_doubleBits_126 ?_
        obtain ⟨hq, h⟩ := h
        refine zJ.dmul (pc := 129) dX4_doubleBits_129 hq ?_
        refine zJ.d2l (pc := 130) dX4_doubleBits_130 ?_
        refine zJ.lor (pc := 131) dX4_doubleBits_131 ?_
        refine zJ.lstore (pc := 132) (lv' := [(6, .long ((x4 <<< ((52 : Int32).toInt64 &&& 63)) ||| (FP.d2l (FP.dmul (FP.dsub x2 FP.dconst1) (4841369599423283200 : UInt64))))), (0, .double x0), (2, .double x2), (4, .long x4)]) dX4_doubleBits_132 (Nat.le_of_ble_eq_true rfl) rfl ?_
        refine zJ.dload_n (pc := 134) 1 dX4_doubleBits_134 rfl rfl ?_
        refine zJ.dconst0 (pc := 135) dX4_doubleBits_135 ?_
        refine zJ.dcmp (pc := 136) dX4_doubleBits_136 ?_
        refine zJ.if_ge (pc := 137) (tgt := 149) dX4_doubleBits_137 (by decide) (fun c7 => ?_) (fun c7 => ?_)
        · replace h := h.1 c7
          refine zJ.lload (pc := 149) 0 dX4_doubleBits_149 rfl ?_
          exact zG.ret (pc := 151) (r := some (.long ((x4 <<< ((52 : Int32).toInt64 &&& 63)) ||| (FP.d2l (FP.dmul (FP.dsub x2 FP.dconst1) (4841369599423283200 : UInt64)))))) ⟨dX4_doubleBits_151, rfl⟩ h
        · replace h := h.2 c7
          refine zJ.lload (pc := 140) 0 dX4_doubleBits_140 rfl ?_
          refine zJ.ldc2 (pc := 142) lc_X4_237 dX4_doubleBits_142 ?_
          refine zJ.lor (pc := 145) dX4_doubleBits_145 ?_
          refine zJ.goto (pc := 146) (tgt := 151) dX4_doubleBits_146 (by decide) ?_
          exact zG.ret (pc := 151) (r := some (.long (((x4 <<< ((52 : Int32).toInt64 &&& 63)) ||| (FP.d2l (FP.dmul (FP.dsub x2 FP.dconst1) (4841369599423283200 : UInt64)))) ||| (-9223372036854775808 : Int64)))) ⟨dX4_doubleBits_151, rfl⟩ h
      · replace h := h.2 c6
        refine zJ.dload_n (pc := 109) 1 dX4_doubleBits_109 rfl rfl ?_
        refine zJ.ldc2d (pc := 110) lc_X4_235 dX4_doubleBits_110 ?_
        obtain ⟨hq, h⟩ := h
        refine zJ.dmul (pc := 113) dX4_doubleBits_113 hq ?_
        refine zJ.d2l (pc := 114) dX4_doubleBits_114 ?_
        refine zJ.goto (pc := 115) (tgt := 132) dX4_doubleBits_115 (by decide) ?_
        refine zJ.lstore (pc := 132) (lv' := [(6, .long (FP.d2l (FP.dmul x2 (4841369599423283200 : UInt64)))), (0, .double x0), (2, .double x2), (4, .long x4)]) dX4_doubleBits_132 (Nat.le_of_ble_eq_true rfl) rfl ?_
        refine zJ.dload_n (pc := 134) 1 dX4_doubleBits_134 rfl rfl ?_
        refine zJ.dconst0 (pc := 135) dX4_doubleBits_135 ?_
        refine zJ.dcmp (pc := 136) dX4_doubleBits_136 ?_
        refine zJ.if_ge (pc := 137) (tgt := 149) dX4_doubleBits_137 (by decide) (fun c8 => ?_) (fun c8 => ?_)
        · replace h := h.1 c8
          refine zJ.lload (pc := 149) 0 dX4_doubleBits_149 rfl ?_
          exact zG.ret (pc := 151) (r := some (.long (FP.d2l (FP.dmul x2 (4841369599423283200 : UInt64))))) ⟨dX4_doubleBits_151, rfl⟩ h
        · replace h := h.2 c8
          refine zJ.lload (pc := 140) 0 dX4_doubleBits_140 rfl ?_
          refine zJ.ldc2 (pc := 142) lc_X4_237 dX4_doubleBits_142 ?_
          refine zJ.lor (pc := 145) dX4_doubleBits_145 ?_
          refine zJ.goto (pc := 146) (tgt := 151) dX4_doubleBits_146 (by decide) ?_
          exact zG.ret (pc := 151) (r := some (.long ((FP.d2l (FP.dmul x2 (4841369599423283200 : UInt64))) ||| (-9223372036854775808 : Int64)))) ⟨dX4_doubleBits_151, rfl⟩ h
    · replace h := h.2 c5
      refine zJ.dload_n (pc := 72) 1 dX4_doubleBits_72 rfl rfl ?_
      refine zJ.dconst1 (pc := 73) dX4_doubleBits_73 ?_
      refine zJ.dcmp (pc := 74) dX4_doubleBits_74 ?_
      refine zJ.if_ge (pc := 75) (tgt := 103) dX4_doubleBits_75 (by decide) (fun c9 => ?_) (fun c9 => ?_)
      · replace h := h.1 c9
        refine zJ.dload_n (pc := 103) 1 dX4_doubleBits_103 rfl rfl ?_
        refine zJ.dconst1 (pc := 104) dX4_doubleBits_104 ?_
        refine zJ.dcmp (pc := 105) dX4_doubleBits_105 ?_
        refine zJ.if_ge (pc := 106) (tgt := 118) dX4_doubleBits_106 (by decide) (fun c10 => ?_) (fun c10 => ?_)
        · replace h := h.1 c10
          refine zJ.lload (pc := 118) 2 dX4_doubleBits_118 rfl ?_
          refine zJ.bipush (pc := 120) (v := 52) dX4_doubleBits_120 (by decide) ?_
          refine zJ.lshl (pc := 122) dX4_doubleBits_122 ?_
          refine zJ.dload_n (pc := 123) 1 dX4_doubleBits_123 rfl rfl ?_
          refine zJ.dconst1 (pc := 124) dX4_doubleBits_124 ?_
          obtain ⟨hq, h⟩ := h
          refine zJ.dsub (pc := 125) dX4_doubleBits_125 hq ?_
          refine zJ.ldc2d (pc := 126) lc_X4_235 dX4_doubleBits_126 ?_
          obtain ⟨hq, h⟩ := h
          refine zJ.dmul (pc := 129) dX4_doubleBits_129 hq ?_
          refine zJ.d2l (pc := 130) dX4_doubleBits_130 ?_
          refine zJ.lor (pc := 131) dX4_doubleBits_131 ?_
          refine zJ.lstore (pc := 132) (lv' := [(6, .long ((x4 <<< ((52 : Int32).toInt64 &&& 63)) ||| (FP.d2l (FP.dmul (FP.dsub x2 FP.dconst1) (4841369599423283200 : UInt64))))), (0, .double x0), (2, .double x2), (4, .long x4)]) dX4_doubleBits_132 (Nat.le_of_ble_eq_true rfl) rfl ?_
          refine zJ.dload_n (pc := 134) 1 dX4_doubleBits_134 rfl rfl ?_
          refine zJ.dconst0 (pc := 135) dX4_doubleBits_135 ?_
          refine zJ.dcmp (pc := 136) dX4_doubleBits_136 ?_
          refine zJ.if_ge (pc := 137) (tgt := 149) dX4_doubleBits_137 (by decide) (fun c11 => ?_) (fun c11 => ?_)
          · replace h := h.1 c11
            refine zJ.lload (pc := 149) 0 dX4_doubleBits_149 rfl ?_
            exact zG.ret (pc := 151) (r := some (.long ((x4 <<< ((52 : Int32).toInt64 &&& 63)) ||| (FP.d2l (FP.dmul (FP.dsub x2 FP.dconst1) (4841369599423283200 : UInt64)))))) ⟨dX4_doubleBits_151, rfl⟩ h
          · replace h := h.2 c11
            refine zJ.lload (pc := 140) 0 dX4_doubleBits_140 rfl ?_
            refine zJ.ldc2 (pc := 142) lc_X4_237 dX4_doubleBits_142 ?_
            refine zJ.lor (pc := 145) dX4_doubleBits_145 ?_
            refine zJ.goto (pc := 146) (tgt := 151) dX4_doubleBits_146 (by decide) ?_
            exact zG.ret (pc := 151) (r := some (.long (((x4 <<< ((52 : Int32).toInt64 &&& 63)) ||| (FP.d2l (FP.dmul (FP.dsub x2 FP.dconst1) (4841369599423283200 : UInt64)))) ||| (-9223372036854775808 : Int64)))) ⟨dX4_doubleBits_151, rfl⟩ h
        · replace h := h.2 c10
          refine zJ.dload_n (pc := 109) 1 dX4_doubleBits_109 rfl rfl ?_
          refine zJ.ldc2d (pc := 110) lc_X4_235 dX4_doubleBits_110 ?_
          obtain ⟨hq, h⟩ := h
          refine zJ.dmul (pc := 113) dX4_doubleBits_113 hq ?_
          refine zJ.d2l (pc := 114) dX4_doubleBits_114 ?_
          refine zJ.goto (pc := 115) (tgt := 132) dX4_doubleBits_115 (by decide) ?_
          refine zJ.lstore (pc := 132) (lv' := [(6, .long (FP.d2l (FP.dmul x2 (4841369599423283200 : UInt64)))), (0, .double x0), (2, .double x2), (4, .long x4)]) dX4_doubleBits_132 (Nat.le_of_ble_eq_true rfl) rfl ?_
          refine zJ.dload_n (pc := 134) 1 dX4_doubleBits_134 rfl rfl ?_
          refine zJ.dconst0 (pc := 135) dX4_doubleBits_135 ?_
          refine zJ.dcmp (pc := 136) dX4_doubleBits_136 ?_
          refine zJ.if_ge (pc := 137) (tgt := 149) dX4_doubleBits_137 (by decide) (fun c12 => ?_) (fun c12 => ?_)
          · replace h := h.1 c12
            refine zJ.lload (pc := 149) 0 dX4_doubleBits_149 rfl ?_
            exact zG.ret (pc := 151) (r := some (.long (FP.d2l (FP.dmul x2 (4841369599423283200 : UInt64))))) ⟨dX4_doubleBits_151, rfl⟩ h
          · replace h := h.2 c12
            refine zJ.lload (pc := 140) 0 dX4_doubleBits_140 rfl ?_
            refine zJ.ldc2 (pc := 142) lc_X4_237 dX4_doubleBits_142 ?_
            refine zJ.lor (pc := 145) dX4_doubleBits_145 ?_
            refine zJ.goto (pc := 146) (tgt := 151) dX4_doubleBits_146 (by decide) ?_
            exact zG.ret (pc := 151) (r := some (.long ((FP.d2l (FP.dmul x2 (4841369599423283200 : UInt64))) ||| (-9223372036854775808 : Int64)))) ⟨dX4_doubleBits_151, rfl⟩ h
      · replace h := h.2 c9
        refine zJ.lload (pc := 78) 2 dX4_doubleBits_78 rfl ?_
        refine zJ.lconst (pc := 80) (v := 1) dX4_doubleBits_80 (by decide) ?_
        refine zJ.lcmp (pc := 81) dX4_doubleBits_81 ?_
        refine zJ.if_le (pc := 82) (tgt := 103) dX4_doubleBits_82 (by decide) (fun c13 => ?_) (fun c13 => ?_)
        · replace h := h.1 c13
          refine zJ.dload_n (pc := 103) 1 dX4_doubleBits_103 rfl rfl ?_
          refine zJ.dconst1 (pc := 104) dX4_doubleBits_104 ?_
          refine zJ.dcmp (pc := 105) dX4_doubleBits_105 ?_
          refine zJ.if_ge (pc := 106) (tgt := 118) dX4_doubleBits_106 (by decide) (fun c14 => ?_) (fun c14 => ?_)
          · replace h := h.1 c14
            refine zJ.lload (pc := 118) 2 dX4_doubleBits_118 rfl ?_
            refine zJ.bipush (pc := 120) (v := 52) dX4_doubleBits_120 (by decide) ?_
            refine zJ.lshl (pc := 122) dX4_doubleBits_122 ?_
            refine zJ.dload_n (pc := 123) 1 dX4_doubleBits_123 rfl rfl ?_
            refine zJ.dconst1 (pc := 124) dX4_doubleBits_124 ?_
            obtain ⟨hq, h⟩ := h
            refine zJ.dsub (pc := 125) dX4_doubleBits_125 hq ?_
            refine zJ.ldc2d (pc := 126) lc_X4_235 dX4_doubleBits_126 ?_
            obtain ⟨hq, h⟩ := h
            refine zJ.dmul (pc := 129) dX4_doubleBits_129 hq ?_
            refine zJ.d2l (pc := 130) dX4_doubleBits_130 ?_
            refine zJ.lor (pc := 131) dX4_doubleBits_131 ?_
            refine zJ.lstore (pc := 132) (lv' := [(6, .long ((x4 <<< ((52 : Int32).toInt64 &&& 63)) ||| (FP.d2l (FP.dmul (FP.dsub x2 FP.dconst1) (4841369599423283200 : UInt64))))), (0, .double x0), (2, .double x2), (4, .long x4)]) dX4_doubleBits_132 (Nat.le_of_ble_eq_true rfl) rfl ?_
            refine zJ.dload_n (pc := 134) 1 dX4_doubleBits_134 rfl rfl ?_
            refine zJ.dconst0 (pc := 135) dX4_doubleBits_135 ?_
            refine zJ.dcmp (pc := 136) dX4_doubleBits_136 ?_
            refine zJ.if_ge (pc := 137) (tgt := 149) dX4_doubleBits_137 (by decide) (fun c15 => ?_) (fun c15 => ?_)
            · replace h := h.1 c15
              refine zJ.lload (pc := 149) 0 dX4_doubleBits_149 rfl ?_
              exact zG.ret (pc := 151) (r := some (.long ((x4 <<< ((52 : Int32).toInt64 &&& 63)) ||| (FP.d2l (FP.dmul (FP.dsub x2 FP.dconst1) (4841369599423283200 : UInt64)))))) ⟨dX4_doubleBits_151, rfl⟩ h
            · replace h := h.2 c15
              refine zJ.lload (pc := 140) 0 dX4_doubleBits_140 rfl ?_
              refine zJ.ldc2 (pc := 142) lc_X4_237 dX4_doubleBits_142 ?_
              refine zJ.lor (pc := 145) dX4_doubleBits_145 ?_
              refine zJ.goto (pc := 146) (tgt := 151) dX4_doubleBits_146 (by decide) ?_
              exact zG.ret (pc := 151) (r := some (.long (((x4 <<< ((52 : Int32).toInt64 &&& 63)) ||| (FP.d2l (FP.dmul (FP.dsub x2 FP.dconst1) (4841369599423283200 : UInt64)))) ||| (-9223372036854775808 : Int64)))) ⟨dX4_doubleBits_151, rfl⟩ h
          · replace h := h.2 c14
            refine zJ.dload_n (pc := 109) 1 dX4_doubleBits_109 rfl rfl ?_
            refine zJ.ldc2d (pc := 110) lc_X4_235 dX4_doubleBits_110 ?_
            obtain ⟨hq, h⟩ := h
            refine zJ.dmul (pc := 113) dX4_doubleBits_113 hq ?_
            refine zJ.d2l (pc := 114) dX4_doubleBits_114 ?_
            refine zJ.goto (pc := 115) (tgt := 132) dX4_doubleBits_115 (by decide) ?_
            refine zJ.lstore (pc := 132) (lv' := [(6, .long (FP.d2l (FP.dmul x2 (4841369599423283200 : UInt64)))), (0, .double x0), (2, .double x2), (4, .long x4)]) dX4_doubleBits_132 (Nat.le_of_ble_eq_true rfl) rfl ?_
            refine zJ.dload_n (pc := 134) 1 dX4_doubleBits_134 rfl rfl ?_
            refine zJ.dconst0 (pc := 135) dX4_doubleBits_135 ?_
            refine zJ.dcmp (pc := 136) dX4_doubleBits_136 ?_
            refine zJ.if_ge (pc := 137) (tgt := 149) dX4_doubleBits_137 (by decide) (fun c16 => ?_) (fun c16 => ?_)
            · replace h := h.1 c16
              refine zJ.lload (pc := 149) 0 dX4_doubleBits_149 rfl ?_
              exact zG.ret (pc := 151) (r := some (.long (FP.d2l (FP.dmul x2 (4841369599423283200 : UInt64))))) ⟨dX4_doubleBits_151, rfl⟩ h
            · replace h := h.2 c16
              refine zJ.lload (pc := 140) 0 dX4_doubleBits_140 rfl ?_
              refine zJ.ldc2 (pc := 142) lc_X4_237 dX4_doubleBits_142 ?_
              refine zJ.lor (pc := 145) dX4_doubleBits_145 ?_
              refine zJ.goto (pc := 146) (tgt := 151) dX4_doubleBits_146 (by decide) ?_
              exact zG.ret (pc := 151) (r := some (.long ((FP.d2l (FP.dmul x2 (4841369599423283200 : UInt64))) ||| (-9223372036854775808 : Int64)))) ⟨dX4_doubleBits_151, rfl⟩ h
        · replace h := h.2 c13
          refine zJ.dload_n (pc := 85) 1 dX4_doubleBits_85 rfl rfl ?_
          refine zJ.ldc2d (pc := 86) lc_X4_231 dX4_doubleBits_86 ?_
          obtain ⟨hq, h⟩ := h
          refine zJ.dmul (pc := 89) dX4_doubleBits_89 hq ?_
          refine zJ.dstore_n (pc := 90) (lv' := [(2, .double (FP.dmul x2 (4611686018427387904 : UInt64))), (0, .double x0), (4, .long x4), (6, .int x6)]) dX4_doubleBits_90 rfl (Nat.le_of_ble_eq_true rfl) rfl ?_
          refine zJ.lload (pc := 91) 2 dX4_doubleBits_91 rfl ?_
          refine zJ.lconst (pc := 93) (v := 1) dX4_doubleBits_93 (by decide) ?_
          refine zJ.lsub (pc := 94) dX4_doubleBits_94 ?_
          refine zJ.lstore (pc := 95) (lv' := [(4, .long (x4 - 1)), (2, .double (FP.dmul x2 (4611686018427387904 : UInt64))), (0, .double x0), (6, .int x6)]) dX4_doubleBits_95 (Nat.le_of_ble_eq_true rfl) rfl ?_
          refine zJ.iinc (pc := 97) (k := 3) (lv' := [(6, .int (x6 + 1)), (4, .long (x4 - 1)), (2, .double (FP.dmul x2 (4611686018427387904 : UInt64))), (0, .double x0)]) dX4_doubleBits_97 rfl rfl (Nat.le_of_ble_eq_true rfl) rfl ?_
          refine zJ.goto (pc := 100) (tgt := 58) dX4_doubleBits_100 (by decide) ?_
          exact zJ.sub [3, 2, 1, 0] rfl h
