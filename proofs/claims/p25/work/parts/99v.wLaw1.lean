set_option maxRecDepth 100000 in
set_option maxHeartbeats 4000000 in
theorem w_L_low_0 (o : zW) (x0 : Int32) (x1 : Int32) (S : zS) (Q : Option Value → zS → Prop) (h : ¬ x1 = 0 ∧ (∀ y1 : Int32, y1 = ((x0 &&& (2147483647 : Int32)) - (x0 &&& (2147483647 : Int32)) / x1 * x1) → (Q (some (.int y1)) S))) : zG o 970 mdL_low 0 [(0, .int x0), (1, .int x1)] [] S Q := by
  show zJ o mdL_low 0 _ [] (970, z_enc o S) 0 0 _
  refine zJ.iload_n (pc := 0) 0 dL_low_0 rfl rfl ?_
  refine zJ.ldc (pc := 1) lc_L_7 dL_low_1 ?_
  refine zJ.iand (pc := 3) dL_low_3 ?_
  refine zJ.iload_n (pc := 4) 1 dL_low_4 rfl rfl ?_
  obtain ⟨hq, h⟩ := h
  refine zJ.irem (pc := 5) dL_low_5 hq ?_
  refine zJ.topi (fun y1 hyy1 => ?_)
  replace h := h y1 hyy1
  exact zG.ret (pc := 6) (r := some (.int y1)) ⟨dL_low_6, _, rfl, rfl⟩ h
set_option maxRecDepth 100000 in
set_option maxHeartbeats 4000000 in
theorem w_L_cell_0 (o : zW) (x1 : Int32) (S : zS) (Q : Option Value → zS → Prop) (h : ((Int32.ofNat o.2.2.2.2.2.1) ≤ x1 → (Q (some (.int (((40503 : Int32) * x1) + 977))) S)) ∧ (¬ (Int32.ofNat o.2.2.2.2.2.1) ≤ x1 → (vp_in x1 o.2.2.2.2.2.1 ∧ (Q (some (.int (o.2.2.2.2.2.2 x1.toNatClampNeg))) S)))) : zG o 970 mdL_cell 0 [(0, .ref o.2.2.2.2.1), (1, .int x1)] [] S Q := by
  show zJ o mdL_cell 0 _ [] (970, z_enc o S) 0 0 _
  refine zJ.iload_n (pc := 0) 1 dL_cell_0 rfl rfl ?_
  refine zJ.aload_n (pc := 1) 0 dL_cell_1 rfl rfl ?_
  refine zJ.sclen (pc := 2) dL_cell_2 ?_
  refine zJ.icmp_ge (pc := 3) (tgt := 12) dL_cell_3 (by decide) (fun c1 => ?_) (fun c1 => ?_)
  · replace h := h.1 c1
    refine zJ.ldc (pc := 12) lc_L_8 dL_cell_12 ?_
    refine zJ.iload_n (pc := 14) 1 dL_cell_14 rfl rfl ?_
    refine zJ.imul (pc := 15) dL_cell_15 ?_
    refine zJ.sipush (pc := 16) (v := 977) dL_cell_16 (by decide) ?_
    refine zJ.iadd (pc := 19) dL_cell_19 ?_
    exact zG.ret (pc := 20) (r := some (.int (((40503 : Int32) * x1) + 977))) ⟨dL_cell_20, _, rfl, rfl⟩ h
  · replace h := h.2 c1
    refine zJ.aload_n (pc := 6) 0 dL_cell_6 rfl rfl ?_
    refine zJ.iload_n (pc := 7) 1 dL_cell_7 rfl rfl ?_
    obtain ⟨hq, h⟩ := h
    refine zJ.scald (pc := 8) dL_cell_8 hq ?_
    refine zJ.goto (pc := 9) (tgt := 20) dL_cell_9 (by decide) ?_
    exact zG.ret (pc := 20) (r := some (.int (o.2.2.2.2.2.2 x1.toNatClampNeg))) ⟨dL_cell_20, _, rfl, rfl⟩ h
set_option maxRecDepth 100000 in
set_option maxHeartbeats 4000000 in
theorem w_L_law_18 (o : zW)  (S : zS) (Q : Option Value → zS → Prop) (h : zG o 970 mdL_law 21 [(0, .ref o.2.2.2.2.1), (1, .ref (z_adr o (0, 0, 0))), (2, .ref (z_adr o (23, 0, 0))), (3, .ref (z_adr o (24, 0, 0))), (4, .int 0)] [] S Q) : zG o 970 mdL_law 18 [(0, .ref o.2.2.2.2.1), (1, .ref (z_adr o (0, 0, 0))), (2, .ref (z_adr o (23, 0, 0))), (3, .ref (z_adr o (24, 0, 0)))] [] S Q := by
  show zJ o mdL_law 18 _ [] (970, z_enc o S) 0 0 _
  refine zJ.iconst (pc := 18) (v := 0) dL_law_18 (by decide) ?_
  refine zJ.istore (pc := 19) (lv' := [(4, .int 0), (0, .ref o.2.2.2.2.1), (1, .ref (z_adr o (0, 0, 0))), (2, .ref (z_adr o (23, 0, 0))), (3, .ref (z_adr o (24, 0, 0)))]) dL_law_19 (Nat.le_of_ble_eq_true rfl) rfl ?_
  exact zJ.sub [1, 2, 3, 4, 0] rfl h
set_option maxRecDepth 100000 in
set_option maxHeartbeats 4000000 in
theorem w_L_law_21 (o : zW) (x4 : Int32) (S : zS) (Q : Option Value → zS → Prop) (h : (64 ≤ x4 → (zG o 970 mdL_law 55 [(0, .ref o.2.2.2.2.1), (1, .ref (z_adr o (0, 0, 0))), (2, .ref (z_adr o (23, 0, 0))), (3, .ref (z_adr o (24, 0, 0))), (4, .int 1), (5, .int 0)] [] S Q)) ∧ (¬ 64 ≤ x4 → (vp_in x4 64 ∧ (∀ S2 : zS, S2 = (sI S (23, 0, 0) (x4.toNatClampNeg) ((5 * (x4 >>> ((2 : Int32) &&& 31))) + (x4 &&& 3))) → (zG o 970 mdL_law 21 [(0, .ref o.2.2.2.2.1), (1, .ref (z_adr o (0, 0, 0))), (2, .ref (z_adr o (23, 0, 0))), (3, .ref (z_adr o (24, 0, 0))), (4, .int (x4 + 1))] [] S2 Q))))) : zG o 970 mdL_law 21 [(0, .ref o.2.2.2.2.1), (1, .ref (z_adr o (0, 0, 0))), (2, .ref (z_adr o (23, 0, 0))), (3, .ref (z_adr o (24, 0, 0))), (4, .int x4)] [] S Q := by
  show zJ o mdL_law 21 _ [] (970, z_enc o S) 0 0 _
  refine zJ.iload (pc := 21) 4 dL_law_21 rfl ?_
  refine zJ.bipush (pc := 23) (v := 64) dL_law_23 (by decide) ?_
  refine zJ.icmp_ge (pc := 25) (tgt := 49) dL_law_25 (by decide) (fun c1 => ?_) (fun c1 => ?_)
  · replace h := h.1 c1
    refine zJ.iconst (pc := 49) (v := 1) dL_law_49 (by decide) ?_
    refine zJ.istore (pc := 50) (lv' := [(4, .int 1), (0, .ref o.2.2.2.2.1), (1, .ref (z_adr o (0, 0, 0))), (2, .ref (z_adr o (23, 0, 0))), (3, .ref (z_adr o (24, 0, 0)))]) dL_law_50 (Nat.le_of_ble_eq_true rfl) rfl ?_
    refine zJ.iconst (pc := 52) (v := 0) dL_law_52 (by decide) ?_
    refine zJ.istore (pc := 53) (lv' := [(5, .int 0), (4, .int 1), (0, .ref o.2.2.2.2.1), (1, .ref (z_adr o (0, 0, 0))), (2, .ref (z_adr o (23, 0, 0))), (3, .ref (z_adr o (24, 0, 0)))]) dL_law_53 (Nat.le_of_ble_eq_true rfl) rfl ?_
    exact zJ.sub [2, 3, 4, 5, 1, 0] rfl h
  · replace h := h.2 c1
    refine zJ.aload_n (pc := 28) 2 dL_law_28 rfl rfl ?_
    refine zJ.iload (pc := 29) 4 dL_law_29 rfl ?_
    refine zJ.iconst (pc := 31) (v := 5) dL_law_31 (by decide) ?_
    refine zJ.iload (pc := 32) 4 dL_law_32 rfl ?_
    refine zJ.iconst (pc := 34) (v := 2) dL_law_34 (by decide) ?_
    refine zJ.ishr (pc := 35) dL_law_35 ?_
    refine zJ.imul (pc := 36) dL_law_36 ?_
    refine zJ.iload (pc := 37) 4 dL_law_37 rfl ?_
    refine zJ.iconst (pc := 39) (v := 3) dL_law_39 (by decide) ?_
    refine zJ.iand (pc := 40) dL_law_40 ?_
    refine zJ.iadd (pc := 41) dL_law_41 ?_
    obtain ⟨hq, h⟩ := h
    refine zE.astI (pc := 42) (ia_23 o) ok_23 hq dL_law_42 ?_
    refine zJ.nameS (fun S2 hyS2 => ?_)
    replace h := h S2 hyS2
    refine zJ.iinc (pc := 43) (k := 4) (lv' := [(4, .int (x4 + 1)), (0, .ref o.2.2.2.2.1), (1, .ref (z_adr o (0, 0, 0))), (2, .ref (z_adr o (23, 0, 0))), (3, .ref (z_adr o (24, 0, 0)))]) dL_law_43 rfl rfl (Nat.le_of_ble_eq_true rfl) rfl ?_
    refine zJ.goto (pc := 46) (tgt := 21) dL_law_46 (by decide) ?_
    exact zJ.sub [1, 2, 3, 4, 0] rfl h
set_option maxRecDepth 100000 in
set_option maxHeartbeats 4000000 in
theorem w_L_law_55 (o : zW) (x5 : Int32) (S : zS) (Q : Option Value → zS → Prop) (h : (5 ≤ x5 → (zGi o 970 mdL_cell [.ref o.2.2.2.2.1, .int 5] S (fun r3 S4 => zGi o 970 mdL_low [.int r3, .int 15] S4 (fun r6 S7 => zG o 970 mdL_law 221 [(0, .ref o.2.2.2.2.1), (1, .ref (z_adr o (0, 0, 0))), (2, .ref (z_adr o (23, 0, 0))), (3, .ref (z_adr o (24, 0, 0))), (4, .int 1), (5, .int (2 + r6)), (6, .int 0), (7, .int 0), (8, .int 0), (9, .int 0)] [] S7 Q)))) ∧ (¬ 5 ≤ x5 → (zGi o 970 mdL_cell [.ref o.2.2.2.2.1, .int x5] S (fun r10 S11 => (¬ x5 = 0 → ((¬ x5 = 1 → ((¬ x5 = 4 → (zGi o 970 mdL_low [.int (r10 >>> ((3 : Int32) &&& 31)), .int 4] S11 (fun r16 S17 => zG o 970 mdL_law 158 [(0, .ref o.2.2.2.2.1), (1, .ref (z_adr o (0, 0, 0))), (2, .ref (z_adr o (23, 0, 0))), (3, .ref (z_adr o (24, 0, 0))), (5, .int x5), (7, .int (1 + r16))] [] S17 Q))) ∧ (x5 = 4 → (zGi o 970 mdL_low [.int (r10 >>> ((9 : Int32) &&& 31)), .int 2] S11 (fun r19 S20 => (¬ r19 = 0 → (zGi o 970 mdL_low [.int (r10 >>> ((3 : Int32) &&& 31)), .int 6] S20 (fun r23 S24 => zG o 970 mdL_law 158 [(0, .ref o.2.2.2.2.1), (1, .ref (z_adr o (0, 0, 0))), (2, .ref (z_adr o (23, 0, 0))), (3, .ref (z_adr o (24, 0, 0))), (5, .int x5), (7, .int (1 + r23))] [] S24 Q))) ∧ (r19 = 0 → (zGi o 970 mdL_low [.int (r10 >>> ((3 : Int32) &&& 31)), .int 20] S20 (fun r26 S27 => zG o 970 mdL_law 158 [(0, .ref o.2.2.2.2.1), (1, .ref (z_adr o (0, 0, 0))), (2, .ref (z_adr o (23, 0, 0))), (3, .ref (z_adr o (24, 0, 0))), (5, .int x5), (7, .int (1 + r26))] [] S27 Q)))))))) ∧ (x5 = 1 → (zGi o 970 mdL_low [.int (r10 >>> ((3 : Int32) &&& 31)), .int 4] S11 (fun r29 S30 => zG o 970 mdL_law 158 [(0, .ref o.2.2.2.2.1), (1, .ref (z_adr o (0, 0, 0))), (2, .ref (z_adr o (23, 0, 0))), (3, .ref (z_adr o (24, 0, 0))), (5, .int x5), (7, .int r29)] [] S30 Q))))) ∧ (x5 = 0 → (zGi o 970 mdL_low [.int (r10 >>> ((3 : Int32) &&& 31)), .int 3] S11 (fun r32 S33 => zG o 970 mdL_law 158 [(0, .ref o.2.2.2.2.1), (1, .ref (z_adr o (0, 0, 0))), (2, .ref (z_adr o (23, 0, 0))), (3, .ref (z_adr o (24, 0, 0))), (5, .int x5), (7, .int (1 + r32))] [] S33 Q))))))) : zG o 970 mdL_law 55 [(0, .ref o.2.2.2.2.1), (1, .ref (z_adr o (0, 0, 0))), (2, .ref (z_adr o (23, 0, 0))), (3, .ref (z_adr o (24, 0, 0))), (4, .int 1), (5, .int x5)] [] S Q := by
  show zJ o mdL_law 55 _ [] (970, z_enc o S) 0 0 _
  refine zJ.iload (pc := 55) 5 dL_law_55 rfl ?_
  refine zJ.iconst (pc := 57) (v := 5) dL_law_57 (by decide) ?_
  refine zJ.icmp_ge (pc := 58) (tgt := 195) dL_law_58 (by decide) (fun c1 => ?_) (fun c1 => ?_)
  · replace h := h.1 c1
    refine zJ.iconst (pc := 195) (v := 2) dL_law_195 (by decide) ?_
    refine zJ.aload_n (pc := 196) 0 dL_law_196 rfl rfl ?_
    refine zJ.iconst (pc := 197) (v := 5) dL_law_197 (by decide) ?_
    refine zG.callSi (d := mdL_law) (pc := 198) [.ref o.2.2.2.2.1, .int 5] [.int 2] dL_law_198 ⟨(cb_L_cell).1, (cb_L_cell).2, (Nat.le_of_ble_eq_true rfl), (Nat.le_of_ble_eq_true rfl)⟩ ml_L_114 cs_L_cell rfl (Nat.le_of_ble_eq_true rfl) (Nat.le_of_ble_eq_true rfl) rfl h (fun r3 S4 h2 => ?_)
    replace h := h2
    clear h2
    refine zJ.bipush (pc := 201) (v := 15) dL_law_201 (by decide) ?_
    refine zG.callSi (d := mdL_law) (pc := 203) [.int r3, .int 15] [.int 2] dL_law_203 ⟨(cb_L_low).1, (cb_L_low).2, (Nat.le_of_ble_eq_true rfl), (Nat.le_of_ble_eq_true rfl)⟩ ml_L_117 cs_L_low rfl (Nat.le_of_ble_eq_true rfl) (Nat.le_of_ble_eq_true rfl) rfl h (fun r6 S7 h2 => ?_)
    replace h := h2
    clear h2
    refine zJ.iadd (pc := 206) dL_law_206 ?_
    refine zJ.istore (pc := 207) (lv' := [(5, .int (2 + r6)), (0, .ref o.2.2.2.2.1), (1, .ref (z_adr o (0, 0, 0))), (2, .ref (z_adr o (23, 0, 0))), (3, .ref (z_adr o (24, 0, 0))), (4, .int 1)]) dL_law_207 (Nat.le_of_ble_eq_true rfl) rfl ?_
    refine zJ.iconst (pc := 209) (v := 0) dL_law_209 (by decide) ?_
    refine zJ.istore (pc := 210) (lv' := [(6, .int 0), (5, .int (2 + r6)), (0, .ref o.2.2.2.2.1), (1, .ref (z_adr o (0, 0, 0))), (2, .ref (z_adr o (23, 0, 0))), (3, .ref (z_adr o (24, 0, 0))), (4, .int 1)]) dL_law_210 (Nat.le_of_ble_eq_true rfl) rfl ?_
    refine zJ.iconst (pc := 212) (v := 0) dL_law_212 (by decide) ?_
    refine zJ.istore (pc := 213) (lv' := [(7, .int 0), (6, .int 0), (5, .int (2 + r6)), (0, .ref o.2.2.2.2.1), (1, .ref (z_adr o (0, 0, 0))), (2, .ref (z_adr o (23, 0, 0))), (3, .ref (z_adr o (24, 0, 0))), (4, .int 1)]) dL_law_213 (Nat.le_of_ble_eq_true rfl) rfl ?_
    refine zJ.iconst (pc := 215) (v := 0) dL_law_215 (by decide) ?_
    refine zJ.istore (pc := 216) (lv' := [(8, .int 0), (7, .int 0), (6, .int 0), (5, .int (2 + r6)), (0, .ref o.2.2.2.2.1), (1, .ref (z_adr o (0, 0, 0))), (2, .ref (z_adr o (23, 0, 0))), (3, .ref (z_adr o (24, 0, 0))), (4, .int 1)]) dL_law_216 (Nat.le_of_ble_eq_true rfl) rfl ?_
    refine zJ.iconst (pc := 218) (v := 0) dL_law_218 (by decide) ?_
    refine zJ.istore (pc := 219) (lv' := [(9, .int 0), (8, .int 0), (7, .int 0), (6, .int 0), (5, .int (2 + r6)), (0, .ref o.2.2.2.2.1), (1, .ref (z_adr o (0, 0, 0))), (2, .ref (z_adr o (23, 0, 0))), (3, .ref (z_adr o (24, 0, 0))), (4, .int 1)]) dL_law_219 (Nat.le_of_ble_eq_true rfl) rfl ?_
    exact zJ.sub [5, 6, 7, 8, 9, 4, 3, 2, 1, 0] rfl h
  · replace h := h.2 c1
    refine zJ.iload (pc := 61) 4 dL_law_61 rfl ?_
    refine zJ.if_eq (pc := 63) (tgt := 195) dL_law_63 (by decide) (fun c8 => absurd c8 (by decide)) (fun c8 => ?_)
    refine zJ.aload_n (pc := 66) 0 dL_law_66 rfl rfl ?_
    refine zJ.iload (pc := 67) 5 dL_law_67 rfl ?_
    refine zG.callSi (d := mdL_law) (pc := 69) [.ref o.2.2.2.2.1, .int x5] [] dL_law_69 ⟨(cb_L_cell).1, (cb_L_cell).2, (Nat.le_of_ble_eq_true rfl), (Nat.le_of_ble_eq_true rfl)⟩ ml_L_114 cs_L_cell rfl (Nat.le_of_ble_eq_true rfl) (Nat.le_of_ble_eq_true rfl) rfl h (fun r10 S11 h2 => ?_)
    replace h := h2
    clear h2
    refine zJ.istore (pc := 72) (lv' := [(6, .int r10), (0, .ref o.2.2.2.2.1), (1, .ref (z_adr o (0, 0, 0))), (2, .ref (z_adr o (23, 0, 0))), (3, .ref (z_adr o (24, 0, 0))), (4, .int 1), (5, .int x5)]) dL_law_72 (Nat.le_of_ble_eq_true rfl) rfl ?_
    refine zJ.iload (pc := 74) 6 dL_law_74 rfl ?_
    refine zJ.if_ne (pc := 76) (tgt := 92) dL_law_76 (by decide) (fun c12 => ?_) (fun c12 => ?_)
    · replace h := h.1 c12
      refine zJ.iload (pc := 92) 6 dL_law_92 rfl ?_
      refine zJ.iconst (pc := 94) (v := 1) dL_law_94 (by decide) ?_
      refine zJ.icmp_ne (pc := 95) (tgt := 109) dL_law_95 (by decide) (fun c13 => ?_) (fun c13 => ?_)
      · replace h := h.1 c13
        refine zJ.iload (pc := 109) 6 dL_law_109 rfl ?_
        refine zJ.iconst (pc := 111) (v := 4) dL_law_111 (by decide) ?_
        refine zJ.icmp_ne (pc := 112) (tgt := 146) dL_law_112 (by decide) (fun c14 => ?_) (fun c14 => ?_)
        · replace h := h.1 c14
          refine zJ.iconst (pc := 146) (v := 1) dL_law_146 (by decide) ?_
          refine zJ.iload (pc := 147) 0 dL_law_147 rfl ?_
          refine zJ.iconst (pc := 149) (v := 3) dL_law_149 (by decide) ?_
          refine zJ.ishr (pc := 150) dL_law_150 ?_
          refine zJ.iconst (pc := 151) (v := 4) dL_law_151 (by decide) ?_
          refine zG.callSi (d := mdL_law) (pc := 152) [.int (r10 >>> ((3 : Int32) &&& 31)), .int 4] [.int 1] dL_law_152 ⟨(cb_L_low).1, (cb_L_low).2, (Nat.le_of_ble_eq_true rfl), (Nat.le_of_ble_eq_true rfl)⟩ ml_L_117 cs_L_low rfl (Nat.le_of_ble_eq_true rfl) (Nat.le_of_ble_eq_true rfl) rfl h (fun r16 S17 h2 => ?_)
          replace h := h2
          clear h2
          refine zJ.iadd (pc := 155) dL_law_155 ?_
          refine zJ.istore (pc := 156) (lv' := [(7, .int (1 + r16)), (6, .int r10), (0, .ref o.2.2.2.2.1), (1, .ref (z_adr o (0, 0, 0))), (2, .ref (z_adr o (23, 0, 0))), (3, .ref (z_adr o (24, 0, 0))), (4, .int 1), (5, .int x5)]) dL_law_156 (Nat.le_of_ble_eq_true rfl) rfl ?_
          exact zJ.sub [2, 3, 4, 5, 7, 0] rfl h
        · replace h := h.2 c14
          refine zJ.iconst (pc := 115) (v := 1) dL_law_115 (by decide) ?_
          refine zJ.iload (pc := 116) 0 dL_law_116 rfl ?_
          refine zJ.iconst (pc := 118) (v := 3) dL_law_118 (by decide) ?_
          refine zJ.ishr (pc := 119) dL_law_119 ?_
          refine zJ.iload (pc := 120) 0 dL_law_120 rfl ?_
          refine zJ.bipush (pc := 122) (v := 9) dL_law_122 (by decide) ?_
          refine zJ.ishr (pc := 124) dL_law_124 ?_
          refine zJ.iconst (pc := 125) (v := 2) dL_law_125 (by decide) ?_
          refine zG.callSi (d := mdL_law) (pc := 126) [.int (r10 >>> ((9 : Int32) &&& 31)), .int 2] [.int (r10 >>> ((3 : Int32) &&& 31)), .int 1] dL_law_126 ⟨(cb_L_low).1, (cb_L_low).2, (Nat.le_of_ble_eq_true rfl), (Nat.le_of_ble_eq_true rfl)⟩ ml_L_117 cs_L_low rfl (Nat.le_of_ble_eq_true rfl) (Nat.le_of_ble_eq_true rfl) rfl h (fun r19 S20 h2 => ?_)
          replace h := h2
          clear h2
          refine zJ.if_ne (pc := 129) (tgt := 137) dL_law_129 (by decide) (fun c21 => ?_) (fun c21 => ?_)
          · replace h := h.1 c21
            refine zJ.bipush (pc := 137) (v := 6) dL_law_137 (by decide) ?_
            refine zG.callSi (d := mdL_law) (pc := 139) [.int (r10 >>> ((3 : Int32) &&& 31)), .int 6] [.int 1] dL_law_139 ⟨(cb_L_low).1, (cb_L_low).2, (Nat.le_of_ble_eq_true rfl), (Nat.le_of_ble_eq_true rfl)⟩ ml_L_117 cs_L_low rfl (Nat.le_of_ble_eq_true rfl) (Nat.le_of_ble_eq_true rfl) rfl h (fun r23 S24 h2 => ?_)
            replace h := h2
            clear h2
            refine zJ.iadd (pc := 142) dL_law_142 ?_
            refine zJ.goto (pc := 143) (tgt := 156) dL_law_143 (by decide) ?_
            refine zJ.istore (pc := 156) (lv' := [(7, .int (1 + r23)), (6, .int r10), (0, .ref o.2.2.2.2.1), (1, .ref (z_adr o (0, 0, 0))), (2, .ref (z_adr o (23, 0, 0))), (3, .ref (z_adr o (24, 0, 0))), (4, .int 1), (5, .int x5)]) dL_law_156 (Nat.le_of_ble_eq_true rfl) rfl ?_
            exact zJ.sub [2, 3, 4, 5, 7, 0] rfl h
          · replace h := h.2 c21
            refine zJ.bipush (pc := 132) (v := 20) dL_law_132 (by decide) ?_
            refine zJ.goto (pc := 134) (tgt := 139) dL_law_134 (by decide) ?_
            refine zG.callSi (d := mdL_law) (pc := 139) [.int (r10 >>> ((3 : Int32) &&& 31)), .int 20] [.int 1] dL_law_139 ⟨(cb_L_low).1, (cb_L_low).2, (Nat.le_of_ble_eq_true rfl), (Nat.le_of_ble_eq_true rfl)⟩ ml_L_117 cs_L_low rfl (Nat.le_of_ble_eq_true rfl) (Nat.le_of_ble_eq_true rfl) rfl h (fun r26 S27 h2 => ?_)
            replace h := h2
            clear h2
            refine zJ.iadd (pc := 142) dL_law_142 ?_
            refine zJ.goto (pc := 143) (tgt := 156) dL_law_143 (by decide) ?_
            refine zJ.istore (pc := 156) (lv' := [(7, .int (1 + r26)), (6, .int r10), (0, .ref o.2.2.2.2.1), (1, .ref (z_adr o (0, 0, 0))), (2, .ref (z_adr o (23, 0, 0))), (3, .ref (z_adr o (24, 0, 0))), (4, .int 1), (5, .int x5)]) dL_law_156 (Nat.le_of_ble_eq_true rfl) rfl ?_
            exact zJ.sub [2, 3, 4, 5, 7, 0] rfl h
      · replace h := h.2 c13
        refine zJ.iload (pc := 98) 0 dL_law_98 rfl ?_
        refine zJ.iconst (pc := 100) (v := 3) dL_law_100 (by decide) ?_
        refine zJ.ishr (pc := 101) dL_law_101 ?_
        refine zJ.iconst (pc := 102) (v := 4) dL_law_102 (by decide) ?_
        refine zG.callSi (d := mdL_law) (pc := 103) [.int (r10 >>> ((3 : Int32) &&& 31)), .int 4] [] dL_law_103 ⟨(cb_L_low).1, (cb_L_low).2, (Nat.le_of_ble_eq_true rfl), (Nat.le_of_ble_eq_true rfl)⟩ ml_L_117 cs_L_low rfl (Nat.le_of_ble_eq_true rfl) (Nat.le_of_ble_eq_true rfl) rfl h (fun r29 S30 h2 => ?_)
        replace h := h2
        clear h2
        refine zJ.goto (pc := 106) (tgt := 156) dL_law_106 (by decide) ?_
        refine zJ.istore (pc := 156) (lv' := [(7, .int r29), (6, .int r10), (0, .ref o.2.2.2.2.1), (1, .ref (z_adr o (0, 0, 0))), (2, .ref (z_adr o (23, 0, 0))), (3, .ref (z_adr o (24, 0, 0))), (4, .int 1), (5, .int x5)]) dL_law_156 (Nat.le_of_ble_eq_true rfl) rfl ?_
        exact zJ.sub [2, 3, 4, 5, 7, 0] rfl h
    · replace h := h.2 c12
      refine zJ.iconst (pc := 79) (v := 1) dL_law_79 (by decide) ?_
      refine zJ.iload (pc := 80) 0 dL_law_80 rfl ?_
      refine zJ.iconst (pc := 82) (v := 3) dL_law_82 (by decide) ?_
      refine zJ.ishr (pc := 83) dL_law_83 ?_
      refine zJ.iconst (pc := 84) (v := 3) dL_law_84 (by decide) ?_
      refine zG.callSi (d := mdL_law) (pc := 85) [.int (r10 >>> ((3 : Int32) &&& 31)), .int 3] [.int 1] dL_law_85 ⟨(cb_L_low).1, (cb_L_low).2, (Nat.le_of_ble_eq_true rfl), (Nat.le_of_ble_eq_true rfl)⟩ ml_L_117 cs_L_low rfl (Nat.le_of_ble_eq_true rfl) (Nat.le_of_ble_eq_true rfl) rfl h (fun r32 S33 h2 => ?_)
      replace h := h2
      clear h2
      refine zJ.iadd (pc := 88) dL_law_88 ?_
      refine zJ.goto (pc := 89) (tgt := 156) dL_law_89 (by decide) ?_
      refine zJ.istore (pc := 156) (lv' := [(7, .int (1 + r32)), (6, .int r10), (0, .ref o.2.2.2.2.1), (1, .ref (z_adr o (0, 0, 0))), (2, .ref (z_adr o (23, 0, 0))), (3, .ref (z_adr o (24, 0, 0))), (4, .int 1), (5, .int x5)]) dL_law_156 (Nat.le_of_ble_eq_true rfl) rfl ?_
      exact zJ.sub [2, 3, 4, 5, 7, 0] rfl h
set_option maxRecDepth 100000 in
set_option maxHeartbeats 4000000 in
theorem w_L_law_158 (o : zW) (x5 : Int32) (x7 : Int32) (S : zS) (Q : Option Value → zS → Prop) (h : zGi o 970 mdX4_sets [.ref (z_adr o (0, 0, 0)), .int x5, .int x7] S (fun r2 S3 => (¬ (r2 < 0)) ∧ (zGi o 970 mdX4_told [.ref (z_adr o (0, 0, 0)), .int (4 + x5)] S3 (fun r6 S7 => (¬ (¬ r6 = x7)) ∧ (zG o 970 mdL_law 55 [(0, .ref o.2.2.2.2.1), (1, .ref (z_adr o (0, 0, 0))), (2, .ref (z_adr o (23, 0, 0))), (3, .ref (z_adr o (24, 0, 0))), (4, .int 1), (5, .int (x5 + 1))] [] S7 Q))))) : zG o 970 mdL_law 158 [(0, .ref o.2.2.2.2.1), (1, .ref (z_adr o (0, 0, 0))), (2, .ref (z_adr o (23, 0, 0))), (3, .ref (z_adr o (24, 0, 0))), (5, .int x5), (7, .int x7)] [] S Q := by
  show zJ o mdL_law 158 _ [] (970, z_enc o S) 0 0 _
  refine zJ.aload_n (pc := 158) 1 dL_law_158 rfl rfl ?_
  refine zJ.iload (pc := 159) 4 dL_law_159 rfl ?_
  refine zJ.iload (pc := 161) 5 dL_law_161 rfl ?_
  refine zG.callVi (d := mdL_law) (pc := 163) [.int x5, .int x7] [] (ob_0 o) ok_0 rfl dL_law_163 ⟨(cb_X4_sets).1, (cb_X4_sets).2, (Nat.le_of_ble_eq_true rfl), (Nat.le_of_ble_eq_true rfl)⟩ ml_L_120 ci_X4_sets cv_X4_sets rfl (Nat.le_of_ble_eq_true rfl) (Nat.le_of_ble_eq_true rfl) rfl h (fun r2 S3 h2 => ?_)
  replace h := h2
  clear h2
  obtain ⟨cN, h⟩ := h
  refine zJ.if_lt (pc := 166) (tgt := 186) dL_law_166 (by decide) (fun c4 => absurd c4 cN) (fun _ => ?_)
  clear cN
  refine zJ.aload_n (pc := 169) 1 dL_law_169 rfl rfl ?_
  refine zJ.iconst (pc := 170) (v := 4) dL_law_170 (by decide) ?_
  refine zJ.iload (pc := 171) 4 dL_law_171 rfl ?_
  refine zJ.iadd (pc := 173) dL_law_173 ?_
  refine zG.callVi (d := mdL_law) (pc := 174) [.int (4 + x5)] [] (ob_0 o) ok_0 rfl dL_law_174 ⟨(cb_X4_told).1, (cb_X4_told).2, (Nat.le_of_ble_eq_true rfl), (Nat.le_of_ble_eq_true rfl)⟩ ml_L_80 ci_X4_told cv_X4_told rfl (Nat.le_of_ble_eq_true rfl) (Nat.le_of_ble_eq_true rfl) rfl h (fun r6 S7 h2 => ?_)
  replace h := h2
  clear h2
  refine zJ.iload (pc := 177) 5 dL_law_177 rfl ?_
  obtain ⟨cN, h⟩ := h
  refine zJ.icmp_ne (pc := 179) (tgt := 186) dL_law_179 (by decide) (fun c8 => absurd c8 cN) (fun _ => ?_)
  clear cN
  refine zJ.iconst (pc := 182) (v := 1) dL_law_182 (by decide) ?_
  refine zJ.goto (pc := 183) (tgt := 187) dL_law_183 (by decide) ?_
  refine zJ.istore (pc := 187) (lv' := [(4, .int 1), (0, .ref o.2.2.2.2.1), (1, .ref (z_adr o (0, 0, 0))), (2, .ref (z_adr o (23, 0, 0))), (3, .ref (z_adr o (24, 0, 0))), (5, .int x5), (7, .int x7)]) dL_law_187 (Nat.le_of_ble_eq_true rfl) rfl ?_
  refine zJ.iinc (pc := 189) (k := 5) (lv' := [(5, .int (x5 + 1)), (4, .int 1), (0, .ref o.2.2.2.2.1), (1, .ref (z_adr o (0, 0, 0))), (2, .ref (z_adr o (23, 0, 0))), (3, .ref (z_adr o (24, 0, 0))), (7, .int x7)]) dL_law_189 rfl rfl (Nat.le_of_ble_eq_true rfl) rfl ?_
  refine zJ.goto (pc := 192) (tgt := 55) dL_law_192 (by decide) ?_
  exact zJ.sub [2, 3, 4, 5, 1, 0] rfl h
set_option maxRecDepth 100000 in
set_option maxHeartbeats 4000000 in
theorem w_L_law_221 (o : zW) (x5 : Int32) (x6 : Int32) (x7 : Int32) (x8 : Int32) (x9 : Int32) (S : zS) (Q : Option Value → zS → Prop) (h : (50 ≤ x9 → (zG o 970 mdL_law 1209 [(0, .ref o.2.2.2.2.1), (1, .ref (z_adr o (0, 0, 0))), (2, .ref (z_adr o (23, 0, 0))), (3, .ref (z_adr o (24, 0, 0))), (4, .int 1), (5, .int x5), (6, .int x6), (7, .int x7), (8, .int x8), (9, .int 0)] [] S Q)) ∧ (¬ 50 ≤ x9 → (zGi o 970 mdL_cell [.ref o.2.2.2.2.1, .int (6 + x9)] S (fun r4 S5 => zGi o 970 mdL_low [.int r4, .int 12] S5 (fun r7 S8 => zGi o 970 mdL_low [.int (r4 >>> ((4 : Int32) &&& 31)), .int x5] S8 (fun r10 S11 => zGi o 970 mdL_low [.int (r4 >>> ((8 : Int32) &&& 31)), .int 4] S11 (fun r13 S14 => zGi o 970 mdL_low [.int (r4 >>> ((10 : Int32) &&& 31)), .int 100] S14 (fun r16 S17 => zGi o 970 mdX4_often [.ref (z_adr o (0, 0, 0)), .int 9] S17 (fun r19 S20 => zG o 970 mdL_law 295 [(0, .ref o.2.2.2.2.1), (1, .ref (z_adr o (0, 0, 0))), (2, .ref (z_adr o (23, 0, 0))), (3, .ref (z_adr o (24, 0, 0))), (5, .int x5), (6, .int x6), (7, .int x7), (8, .int x8), (9, .int x9), (10, .int r4), (11, .int r7), (12, .int r10), (13, .int r13), (14, .int r16), (15, .int r19)] [] S20 Q))))))))) : zG o 970 mdL_law 221 [(0, .ref o.2.2.2.2.1), (1, .ref (z_adr o (0, 0, 0))), (2, .ref (z_adr o (23, 0, 0))), (3, .ref (z_adr o (24, 0, 0))), (4, .int 1), (5, .int x5), (6, .int x6), (7, .int x7), (8, .int x8), (9, .int x9)] [] S Q := by
  show zJ o mdL_law 221 _ [] (970, z_enc o S) 0 0 _
  refine zJ.iload (pc := 221) 9 dL_law_221 rfl ?_
  refine zJ.bipush (pc := 223) (v := 50) dL_law_223 (by decide) ?_
  refine zJ.icmp_ge (pc := 225) (tgt := 1206) dL_law_225 (by decide) (fun c1 => ?_) (fun c1 => ?_)
  · replace h := h.1 c1
    refine zJ.iconst (pc := 1206) (v := 0) dL_law_1206 (by decide) ?_
    refine zJ.istore (pc := 1207) (lv' := [(9, .int 0), (0, .ref o.2.2.2.2.1), (1, .ref (z_adr o (0, 0, 0))), (2, .ref (z_adr o (23, 0, 0))), (3, .ref (z_adr o (24, 0, 0))), (4, .int 1), (5, .int x5), (6, .int x6), (7, .int x7), (8, .int x8)]) dL_law_1207 (Nat.le_of_ble_eq_true rfl) rfl ?_
    exact zJ.sub [1, 2, 3, 4, 5, 6, 7, 8, 9, 0] rfl h
  · replace h := h.2 c1
    refine zJ.iload (pc := 228) 4 dL_law_228 rfl ?_
    refine zJ.if_eq (pc := 230) (tgt := 1206) dL_law_230 (by decide) (fun c2 => absurd c2 (by decide)) (fun c2 => ?_)
    refine zJ.aload_n (pc := 233) 0 dL_law_233 rfl rfl ?_
    refine zJ.bipush (pc := 234) (v := 6) dL_law_234 (by decide) ?_
    refine zJ.iload (pc := 236) 9 dL_law_236 rfl ?_
    refine zJ.iadd (pc := 238) dL_law_238 ?_
    refine zG.callSi (d := mdL_law) (pc := 239) [.ref o.2.2.2.2.1, .int (6 + x9)] [] dL_law_239 ⟨(cb_L_cell).1, (cb_L_cell).2, (Nat.le_of_ble_eq_true rfl), (Nat.le_of_ble_eq_true rfl)⟩ ml_L_114 cs_L_cell rfl (Nat.le_of_ble_eq_true rfl) (Nat.le_of_ble_eq_true rfl) rfl h (fun r4 S5 h2 => ?_)
    replace h := h2
    clear h2
    refine zJ.istore (pc := 242) (lv' := [(10, .int r4), (0, .ref o.2.2.2.2.1), (1, .ref (z_adr o (0, 0, 0))), (2, .ref (z_adr o (23, 0, 0))), (3, .ref (z_adr o (24, 0, 0))), (4, .int 1), (5, .int x5), (6, .int x6), (7, .int x7), (8, .int x8), (9, .int x9)]) dL_law_242 (Nat.le_of_ble_eq_true rfl) rfl ?_
    refine zJ.iload (pc := 244) 0 dL_law_244 rfl ?_
    refine zJ.bipush (pc := 246) (v := 12) dL_law_246 (by decide) ?_
    refine zG.callSi (d := mdL_law) (pc := 248) [.int r4, .int 12] [] dL_law_248 ⟨(cb_L_low).1, (cb_L_low).2, (Nat.le_of_ble_eq_true rfl), (Nat.le_of_ble_eq_true rfl)⟩ ml_L_117 cs_L_low rfl (Nat.le_of_ble_eq_true rfl) (Nat.le_of_ble_eq_true rfl) rfl h (fun r7 S8 h2 => ?_)
    replace h := h2
    clear h2
    refine zJ.istore (pc := 251) (lv' := [(11, .int r7), (10, .int r4), (0, .ref o.2.2.2.2.1), (1, .ref (z_adr o (0, 0, 0))), (2, .ref (z_adr o (23, 0, 0))), (3, .ref (z_adr o (24, 0, 0))), (4, .int 1), (5, .int x5), (6, .int x6), (7, .int x7), (8, .int x8), (9, .int x9)]) dL_law_251 (Nat.le_of_ble_eq_true rfl) rfl ?_
    refine zJ.iload (pc := 253) 1 dL_law_253 rfl ?_
    refine zJ.iconst (pc := 255) (v := 4) dL_law_255 (by decide) ?_
    refine zJ.ishr (pc := 256) dL_law_256 ?_
    refine zJ.iload (pc := 257) 7 dL_law_257 rfl ?_
    refine zG.callSi (d := mdL_law) (pc := 259) [.int (r4 >>> ((4 : Int32) &&& 31)), .int x5] [] dL_law_259 ⟨(cb_L_low).1, (cb_L_low).2, (Nat.le_of_ble_eq_true rfl), (Nat.le_of_ble_eq_true rfl)⟩ ml_L_117 cs_L_low rfl (Nat.le_of_ble_eq_true rfl) (Nat.le_of_ble_eq_true rfl) rfl h (fun r10 S11 h2 => ?_)
    replace h := h2
    clear h2
    refine zJ.istore (pc := 262) (lv' := [(12, .int r10), (11, .int r7), (10, .int r4), (0, .ref o.2.2.2.2.1), (1, .ref (z_adr o (0, 0, 0))), (2, .ref (z_adr o (23, 0, 0))), (3, .ref (z_adr o (24, 0, 0))), (4, .int 1), (5, .int x5), (6, .int x6), (7, .int x7), (8, .int x8), (9, .int x9)]) dL_law_262 (Nat.le_of_ble_eq_true rfl) rfl ?_
    refine zJ.iload (pc := 264) 2 dL_law_264 rfl ?_
    refine zJ.bipush (pc := 266) (v := 8) dL_law_266 (by decide) ?_
    refine zJ.ishr (pc := 268) dL_law_268 ?_
    refine zJ.iconst (pc := 269) (v := 4) dL_law_269 (by decide) ?_
    refine zG.callSi (d := mdL_law) (pc := 270) [.int (r4 >>> ((8 : Int32) &&& 31)), .int 4] [] dL_law_270 ⟨(cb_L_low).1, (cb_L_low).2, (Nat.le_of_ble_eq_true rfl), (Nat.le_of_ble_eq_true rfl)⟩ ml_L_117 cs_L_low rfl (Nat.le_of_ble_eq_true rfl) (Nat.le_of_ble_eq_true rfl) rfl h (fun r13 S14 h2 => ?_)
    replace h := h2
    clear h2
    refine zJ.istore (pc := 273) (lv' := [(13, .int r13), (12, .int r10), (11, .int r7), (10, .int r4), (0, .ref o.2.2.2.2.1), (1, .ref (z_adr o (0, 0, 0))), (2, .ref (z_adr o (23, 0, 0))), (3, .ref (z_adr o (24, 0, 0))), (4, .int 1), (5, .int x5), (6, .int x6), (7, .int x7), (8, .int x8), (9, .int x9)]) dL_law_273 (Nat.le_of_ble_eq_true rfl) rfl ?_
    refine zJ.iload (pc := 275) 3 dL_law_275 rfl ?_
    refine zJ.bipush (pc := 277) (v := 10) dL_law_277 (by decide) ?_
    refine zJ.ishr (pc := 279) dL_law_279 ?_
    refine zJ.bipush (pc := 280) (v := 100) dL_law_280 (by decide) ?_
    refine zG.callSi (d := mdL_law) (pc := 282) [.int (r4 >>> ((10 : Int32) &&& 31)), .int 100] [] dL_law_282 ⟨(cb_L_low).1, (cb_L_low).2, (Nat.le_of_ble_eq_true rfl), (Nat.le_of_ble_eq_true rfl)⟩ ml_L_117 cs_L_low rfl (Nat.le_of_ble_eq_true rfl) (Nat.le_of_ble_eq_true rfl) rfl h (fun r16 S17 h2 => ?_)
    replace h := h2
    clear h2
    refine zJ.istore (pc := 285) (lv' := [(14, .int r16), (13, .int r13), (12, .int r10), (11, .int r7), (10, .int r4), (0, .ref o.2.2.2.2.1), (1, .ref (z_adr o (0, 0, 0))), (2, .ref (z_adr o (23, 0, 0))), (3, .ref (z_adr o (24, 0, 0))), (4, .int 1), (5, .int x5), (6, .int x6), (7, .int x7), (8, .int x8), (9, .int x9)]) dL_law_285 (Nat.le_of_ble_eq_true rfl) rfl ?_
    refine zJ.aload_n (pc := 287) 6 dL_law_287 rfl rfl ?_
    refine zJ.bipush (pc := 288) (v := 9) dL_law_288 (by decide) ?_
    refine zG.callVi (d := mdL_law) (pc := 290) [.int 9] [] (ob_0 o) ok_0 rfl dL_law_290 ⟨(cb_X4_often).1, (cb_X4_often).2, (Nat.le_of_ble_eq_true rfl), (Nat.le_of_ble_eq_true rfl)⟩ ml_L_74 ci_X4_often cv_X4_often rfl (Nat.le_of_ble_eq_true rfl) (Nat.le_of_ble_eq_true rfl) rfl h (fun r19 S20 h2 => ?_)
    replace h := h2
    clear h2
    refine zJ.istore (pc := 293) (lv' := [(15, .int r19), (14, .int r16), (13, .int r13), (12, .int r10), (11, .int r7), (10, .int r4), (0, .ref o.2.2.2.2.1), (1, .ref (z_adr o (0, 0, 0))), (2, .ref (z_adr o (23, 0, 0))), (3, .ref (z_adr o (24, 0, 0))), (4, .int 1), (5, .int x5), (6, .int x6), (7, .int x7), (8, .int x8), (9, .int x9)]) dL_law_293 (Nat.le_of_ble_eq_true rfl) rfl ?_
    exact zJ.sub [6, 7, 8, 9, 11, 12, 13, 14, 15, 5, 4, 3, 2, 1, 0] rfl h
set_option maxRecDepth 100000 in
set_option maxHeartbeats 4000000 in
theorem w_L_law_295 (o : zW) (x5 : Int32) (x6 : Int32) (x7 : Int32) (x8 : Int32) (x9 : Int32) (x10 : Int32) (x11 : Int32) (x12 : Int32) (x13 : Int32) (x14 : Int32) (x15 : Int32) (S : zS) (Q : Option Value → zS → Prop) (h : (6 ≤ x11 → ((10 ≤ x11 → ((¬ x11 = 10 → (zGi o 970 mdL_low [.int (x10 >>> ((4 : Int32) &&& 31)), .int 9] S (fun r5 S6 => zGi o 970 mdX4_ticks [.ref (z_adr o (0, 0, 0)), .int r5] S6 (fun r8 S9 => (¬ (r8 < 0)) ∧ (zGi o 970 mdX4_often [.ref (z_adr o (0, 0, 0)), .int 9] S9 (fun r12 S13 => zGi o 970 mdL_low [.int (x10 >>> ((4 : Int32) &&& 31)), .int 9] S13 (fun r15 S16 => (¬ (¬ r12 = (x15 + r15))) ∧ (zG o 970 mdL_law 581 [(0, .ref o.2.2.2.2.1), (1, .ref (z_adr o (0, 0, 0))), (2, .ref (z_adr o (23, 0, 0))), (3, .ref (z_adr o (24, 0, 0))), (4, .int 1), (5, .int x5), (6, .int x6), (7, .int x7), (8, .int x8), (9, .int x9)] [] S16 Q)))))))) ∧ (x11 = 10 → (zGi o 970 mdX4_fence [.ref (z_adr o (0, 0, 0))] S (fun r19 S20 => (¬ (r19 ≤ x15)) ∧ (zGi o 970 mdX4_fetch [.ref (z_adr o (0, 0, 0)), .int 0, .int 0] S20 (fun r23 S24 => (¬ (¬ r23 = (-1))) ∧ (zGi o 970 mdX4_often [.ref (z_adr o (0, 0, 0)), .int 8] S24 (fun r27 S28 => (¬ (¬ r27 = x6)) ∧ (zG o 970 mdL_law 499 [(0, .ref o.2.2.2.2.1), (1, .ref (z_adr o (0, 0, 0))), (2, .ref (z_adr o (23, 0, 0))), (3, .ref (z_adr o (24, 0, 0))), (4, .int 1), (5, .int x5), (6, .int x6), (7, .int x7), (8, .int x8), (9, .int x9), (17, .int 0)] [] S28 Q)))))))))) ∧ (¬ 10 ≤ x11 → (vp_in ((4 * x12) + x13) 64 ∧ (zGi o 970 mdX4_store [.ref (z_adr o (0, 0, 0)), .int x12, .int x13, .int x14] (sI S (23, 0, 0) (((4 * x12) + x13).toNatClampNeg) x14) (fun r31 S32 => (¬ (r31 ≤ x15)) ∧ (zGi o 970 mdX4_often [.ref (z_adr o (0, 0, 0)), .int 9] S32 (fun r35 S36 => (¬ (¬ r35 = r31)) ∧ (zGi o 970 mdX4_item [.ref (z_adr o (0, 0, 0)), .int x12, .int x13, .int 1] S36 (fun r39 S40 => (¬ (¬ r39 = x14)) ∧ (zG o 970 mdL_law 581 [(0, .ref o.2.2.2.2.1), (1, .ref (z_adr o (0, 0, 0))), (2, .ref (z_adr o (23, 0, 0))), (3, .ref (z_adr o (24, 0, 0))), (4, .int 1), (5, .int x5), (6, .int x6), (7, .int (x7 + 1)), (8, .int x8), (9, .int x9)] [] S40 Q))))))))))) ∧ (¬ 6 ≤ x11 → (vp_in ((4 * x12) + x13) 64 ∧ (vp_in x6 60 ∧ (∀ S42 : zS, S42 = (sI S (24, 0, 0) (x6.toNatClampNeg) (S.1 (23, 0, 0) (((4 * x12) + x13).toNatClampNeg))) → (zGi o 970 mdX4_load [.ref (z_adr o (0, 0, 0)), .int x12, .int x13] S42 (fun r44 S45 => (¬ (r44 ≤ x15)) ∧ (zGi o 970 mdX4_often [.ref (z_adr o (0, 0, 0)), .int 9] S45 (fun r48 S49 => (¬ (¬ r48 = r44)) ∧ (zGi o 970 mdX4_got [.ref (z_adr o (0, 0, 0)), .int ((x6 + 1) - 1), .int 2] S49 (fun r52 S53 => (¬ (¬ r52 = r44)) ∧ (zG o 970 mdL_law 581 [(0, .ref o.2.2.2.2.1), (1, .ref (z_adr o (0, 0, 0))), (2, .ref (z_adr o (23, 0, 0))), (3, .ref (z_adr o (24, 0, 0))), (4, .int 1), (5, .int x5), (6, .int (x6 + 1)), (7, .int (x7 + 1)), (8, .int x8), (9, .int x9)] [] S53 Q)))))))))))) : zG o 970 mdL_law 295 [(0, .ref o.2.2.2.2.1), (1, .ref (z_adr o (0, 0, 0))), (2, .ref (z_adr o (23, 0, 0))), (3, .ref (z_adr o (24, 0, 0))), (5, .int x5), (6, .int x6), (7, .int x7), (8, .int x8), (9, .int x9), (10, .int x10), (11, .int x11), (12, .int x12), (13, .int x13), (14, .int x14), (15, .int x15)] [] S Q := by
  show zJ o mdL_law 295 _ [] (970, z_enc o S) 0 0 _
  refine zJ.iload (pc := 295) 10 dL_law_295 rfl ?_
  refine zJ.bipush (pc := 297) (v := 6) dL_law_297 (by decide) ?_
  refine zJ.icmp_ge (pc := 299) (tgt := 373) dL_law_299 (by decide) (fun c1 => ?_) (fun c1 => ?_)
  · replace h := h.1 c1
    refine zJ.iload (pc := 373) 10 dL_law_373 rfl ?_
    refine zJ.bipush (pc := 375) (v := 10) dL_law_375 (by decide) ?_
    refine zJ.icmp_ge (pc := 377) (tgt := 448) dL_law_377 (by decide) (fun c2 => ?_) (fun c2 => ?_)
    · replace h := h.1 c2
      refine zJ.iload (pc := 448) 10 dL_law_448 rfl ?_
      refine zJ.bipush (pc := 450) (v := 10) dL_law_450 (by decide) ?_
      refine zJ.icmp_ne (pc := 452) (tgt := 537) dL_law_452 (by decide) (fun c3 => ?_) (fun c3 => ?_)
      · replace h := h.1 c3
        refine zJ.aload_n (pc := 537) 1 dL_law_537 rfl rfl ?_
        refine zJ.iload (pc := 538) 9 dL_law_538 rfl ?_
        refine zJ.iconst (pc := 540) (v := 4) dL_law_540 (by decide) ?_
        refine zJ.ishr (pc := 541) dL_law_541 ?_
        refine zJ.bipush (pc := 542) (v := 9) dL_law_542 (by decide) ?_
        refine zG.callSi (d := mdL_law) (pc := 544) [.int (x10 >>> ((4 : Int32) &&& 31)), .int 9] [.ref (z_adr o (0, 0, 0))] dL_law_544 ⟨(cb_L_low).1, (cb_L_low).2, (Nat.le_of_ble_eq_true rfl), (Nat.le_of_ble_eq_true rfl)⟩ ml_L_117 cs_L_low rfl (Nat.le_of_ble_eq_true rfl) (Nat.le_of_ble_eq_true rfl) rfl h (fun r5 S6 h2 => ?_)
        replace h := h2
        clear h2
        refine zG.callVi (d := mdL_law) (pc := 547) [.int r5] [] (ob_0 o) ok_0 rfl dL_law_547 ⟨(cb_X4_ticks).1, (cb_X4_ticks).2, (Nat.le_of_ble_eq_true rfl), (Nat.le_of_ble_eq_true rfl)⟩ ml_L_132 ci_X4_ticks cv_X4_ticks rfl (Nat.le_of_ble_eq_true rfl) (Nat.le_of_ble_eq_true rfl) rfl h (fun r8 S9 h2 => ?_)
        replace h := h2
        clear h2
        obtain ⟨cN, h⟩ := h
        refine zJ.if_lt (pc := 550) (tgt := 578) dL_law_550 (by decide) (fun c10 => absurd c10 cN) (fun _ => ?_)
        clear cN
        refine zJ.aload_n (pc := 553) 1 dL_law_553 rfl rfl ?_
        refine zJ.bipush (pc := 554) (v := 9) dL_law_554 (by decide) ?_
        refine zG.callVi (d := mdL_law) (pc := 556) [.int 9] [] (ob_0 o) ok_0 rfl dL_law_556 ⟨(cb_X4_often).1, (cb_X4_often).2, (Nat.le_of_ble_eq_true rfl), (Nat.le_of_ble_eq_true rfl)⟩ ml_L_74 ci_X4_often cv_X4_often rfl (Nat.le_of_ble_eq_true rfl) (Nat.le_of_ble_eq_true rfl) rfl h (fun r12 S13 h2 => ?_)
        replace h := h2
        clear h2
        refine zJ.iload (pc := 559) 14 dL_law_559 rfl ?_
        refine zJ.iload (pc := 561) 9 dL_law_561 rfl ?_
        refine zJ.iconst (pc := 563) (v := 4) dL_law_563 (by decide) ?_
        refine zJ.ishr (pc := 564) dL_law_564 ?_
        refine zJ.bipush (pc := 565) (v := 9) dL_law_565 (by decide) ?_
        refine zG.callSi (d := mdL_law) (pc := 567) [.int (x10 >>> ((4 : Int32) &&& 31)), .int 9] [.int x15, .int r12] dL_law_567 ⟨(cb_L_low).1, (cb_L_low).2, (Nat.le_of_ble_eq_true rfl), (Nat.le_of_ble_eq_true rfl)⟩ ml_L_117 cs_L_low rfl (Nat.le_of_ble_eq_true rfl) (Nat.le_of_ble_eq_true rfl) rfl h (fun r15 S16 h2 => ?_)
        replace h := h2
        clear h2
        refine zJ.iadd (pc := 570) dL_law_570 ?_
        obtain ⟨cN, h⟩ := h
        refine zJ.icmp_ne (pc := 571) (tgt := 578) dL_law_571 (by decide) (fun c17 => absurd c17 cN) (fun _ => ?_)
        clear cN
        refine zJ.iconst (pc := 574) (v := 1) dL_law_574 (by decide) ?_
        refine zJ.goto (pc := 575) (tgt := 579) dL_law_575 (by decide) ?_
        refine zJ.istore (pc := 579) (lv' := [(4, .int 1), (0, .ref o.2.2.2.2.1), (1, .ref (z_adr o (0, 0, 0))), (2, .ref (z_adr o (23, 0, 0))), (3, .ref (z_adr o (24, 0, 0))), (5, .int x5), (6, .int x6), (7, .int x7), (8, .int x8), (9, .int x9), (10, .int x10), (11, .int x11), (12, .int x12), (13, .int x13), (14, .int x14), (15, .int x15)]) dL_law_579 (Nat.le_of_ble_eq_true rfl) rfl ?_
        exact zJ.sub [1, 2, 3, 4, 0, 5, 6, 7, 8, 9] rfl h
      · replace h := h.2 c3
        refine zJ.aload_n (pc := 455) 1 dL_law_455 rfl rfl ?_
        refine zG.callVi (d := mdL_law) (pc := 456) [] [] (ob_0 o) ok_0 rfl dL_law_456 ⟨(cb_X4_fence).1, (cb_X4_fence).2, (Nat.le_of_ble_eq_true rfl), (Nat.le_of_ble_eq_true rfl)⟩ ml_L_128 ci_X4_fence cv_X4_fence rfl (Nat.le_of_ble_eq_true rfl) (Nat.le_of_ble_eq_true rfl) rfl h (fun r19 S20 h2 => ?_)
        replace h := h2
        clear h2
        refine zJ.istore (pc := 459) (lv' := [(16, .int r19), (0, .ref o.2.2.2.2.1), (1, .ref (z_adr o (0, 0, 0))), (2, .ref (z_adr o (23, 0, 0))), (3, .ref (z_adr o (24, 0, 0))), (5, .int x5), (6, .int x6), (7, .int x7), (8, .int x8), (9, .int x9), (10, .int x10), (11, .int x11), (12, .int x12), (13, .int x13), (14, .int x14), (15, .int x15)]) dL_law_459 (Nat.le_of_ble_eq_true rfl) rfl ?_
        refine zJ.iload (pc := 461) 0 dL_law_461 rfl ?_
        refine zJ.iload (pc := 463) 15 dL_law_463 rfl ?_
        obtain ⟨cN, h⟩ := h
        refine zJ.icmp_le (pc := 465) (tgt := 493) dL_law_465 (by decide) (fun c21 => absurd c21 cN) (fun _ => ?_)
        clear cN
        refine zJ.aload_n (pc := 468) 2 dL_law_468 rfl rfl ?_
        refine zJ.iconst (pc := 469) (v := 0) dL_law_469 (by decide) ?_
        refine zJ.iconst (pc := 470) (v := 0) dL_law_470 (by decide) ?_
        refine zG.callVi (d := mdL_law) (pc := 471) [.int 0, .int 0] [] (ob_0 o) ok_0 rfl dL_law_471 ⟨(cb_X4_fetch).1, (cb_X4_fetch).2, (Nat.le_of_ble_eq_true rfl), (Nat.le_of_ble_eq_true rfl)⟩ ml_L_83 ci_X4_fetch cv_X4_fetch rfl (Nat.le_of_ble_eq_true rfl) (Nat.le_of_ble_eq_true rfl) rfl h (fun r23 S24 h2 => ?_)
        replace h := h2
        clear h2
        refine zJ.iconst (pc := 474) (v := (-1)) dL_law_474 (by decide) ?_
        obtain ⟨cN, h⟩ := h
        refine zJ.icmp_ne (pc := 475) (tgt := 493) dL_law_475 (by decide) (fun c25 => absurd c25 cN) (fun _ => ?_)
        clear cN
        refine zJ.aload_n (pc := 478) 2 dL_law_478 rfl rfl ?_
        refine zJ.bipush (pc := 479) (v := 8) dL_law_479 (by decide) ?_
        refine zG.callVi (d := mdL_law) (pc := 481) [.int 8] [] (ob_0 o) ok_0 rfl dL_law_481 ⟨(cb_X4_often).1, (cb_X4_often).2, (Nat.le_of_ble_eq_true rfl), (Nat.le_of_ble_eq_true rfl)⟩ ml_L_74 ci_X4_often cv_X4_often rfl (Nat.le_of_ble_eq_true rfl) (Nat.le_of_ble_eq_true rfl) rfl h (fun r27 S28 h2 => ?_)
        replace h := h2
        clear h2
        refine zJ.iload (pc := 484) 6 dL_law_484 rfl ?_
        obtain ⟨cN, h⟩ := h
        refine zJ.icmp_ne (pc := 486) (tgt := 493) dL_law_486 (by decide) (fun c29 => absurd c29 cN) (fun _ => ?_)
        clear cN
        refine zJ.iconst (pc := 489) (v := 1) dL_law_489 (by decide) ?_
        refine zJ.goto (pc := 490) (tgt := 494) dL_law_490 (by decide) ?_
        refine zJ.istore (pc := 494) (lv' := [(4, .int 1), (16, .int r19), (0, .ref o.2.2.2.2.1), (1, .ref (z_adr o (0, 0, 0))), (2, .ref (z_adr o (23, 0, 0))), (3, .ref (z_adr o (24, 0, 0))), (5, .int x5), (6, .int x6), (7, .int x7), (8, .int x8), (9, .int x9), (10, .int x10), (11, .int x11), (12, .int x12), (13, .int x13), (14, .int x14), (15, .int x15)]) dL_law_494 (Nat.le_of_ble_eq_true rfl) rfl ?_
        refine zJ.iconst (pc := 496) (v := 0) dL_law_496 (by decide) ?_
        refine zJ.istore (pc := 497) (lv' := [(17, .int 0), (4, .int 1), (16, .int r19), (0, .ref o.2.2.2.2.1), (1, .ref (z_adr o (0, 0, 0))), (2, .ref (z_adr o (23, 0, 0))), (3, .ref (z_adr o (24, 0, 0))), (5, .int x5), (6, .int x6), (7, .int x7), (8, .int x8), (9, .int x9), (10, .int x10), (11, .int x11), (12, .int x12), (13, .int x13), (14, .int x14), (15, .int x15)]) dL_law_497 (Nat.le_of_ble_eq_true rfl) rfl ?_
        exact zJ.sub [3, 4, 5, 6, 1, 7, 8, 9, 10, 11, 0] rfl h
    · replace h := h.2 c2
      refine zJ.aload_n (pc := 380) 2 dL_law_380 rfl rfl ?_
      refine zJ.iconst (pc := 381) (v := 4) dL_law_381 (by decide) ?_
      refine zJ.iload (pc := 382) 11 dL_law_382 rfl ?_
      refine zJ.imul (pc := 384) dL_law_384 ?_
      refine zJ.iload (pc := 385) 12 dL_law_385 rfl ?_
      refine zJ.iadd (pc := 387) dL_law_387 ?_
      refine zJ.iload (pc := 388) 13 dL_law_388 rfl ?_
      obtain ⟨hq, h⟩ := h
      refine zE.astI (pc := 390) (ia_23 o) ok_23 hq dL_law_390 ?_
      refine zJ.iinc (pc := 391) (k := 6) (lv' := [(7, .int (x7 + 1)), (0, .ref o.2.2.2.2.1), (1, .ref (z_adr o (0, 0, 0))), (2, .ref (z_adr o (23, 0, 0))), (3, .ref (z_adr o (24, 0, 0))), (5, .int x5), (6, .int x6), (8, .int x8), (9, .int x9), (10, .int x10), (11, .int x11), (12, .int x12), (13, .int x13), (14, .int x14), (15, .int x15)]) dL_law_391 rfl rfl (Nat.le_of_ble_eq_true rfl) rfl ?_
      refine zJ.aload_n (pc := 394) 2 dL_law_394 rfl rfl ?_
      refine zJ.iload (pc := 395) 11 dL_law_395 rfl ?_
      refine zJ.iload (pc := 397) 12 dL_law_397 rfl ?_
      refine zJ.iload (pc := 399) 13 dL_law_399 rfl ?_
      refine zG.callVi (d := mdL_law) (pc := 401) [.int x12, .int x13, .int x14] [] (ob_0 o) ok_0 rfl dL_law_401 ⟨(cb_X4_store).1, (cb_X4_store).2, (Nat.le_of_ble_eq_true rfl), (Nat.le_of_ble_eq_true rfl)⟩ ml_L_125 ci_X4_store cv_X4_store rfl (Nat.le_of_ble_eq_true rfl) (Nat.le_of_ble_eq_true rfl) rfl h (fun r31 S32 h2 => ?_)
      replace h := h2
      clear h2
      refine zJ.istore (pc := 404) (lv' := [(16, .int r31), (7, .int (x7 + 1)), (0, .ref o.2.2.2.2.1), (1, .ref (z_adr o (0, 0, 0))), (2, .ref (z_adr o (23, 0, 0))), (3, .ref (z_adr o (24, 0, 0))), (5, .int x5), (6, .int x6), (8, .int x8), (9, .int x9), (10, .int x10), (11, .int x11), (12, .int x12), (13, .int x13), (14, .int x14), (15, .int x15)]) dL_law_404 (Nat.le_of_ble_eq_true rfl) rfl ?_
      refine zJ.iload (pc := 406) 0 dL_law_406 rfl ?_
      refine zJ.iload (pc := 408) 15 dL_law_408 rfl ?_
      obtain ⟨cN, h⟩ := h
      refine zJ.icmp_le (pc := 410) (tgt := 442) dL_law_410 (by decide) (fun c33 => absurd c33 cN) (fun _ => ?_)
      clear cN
      refine zJ.aload_n (pc := 413) 3 dL_law_413 rfl rfl ?_
      refine zJ.bipush (pc := 414) (v := 9) dL_law_414 (by decide) ?_
      refine zG.callVi (d := mdL_law) (pc := 416) [.int 9] [] (ob_0 o) ok_0 rfl dL_law_416 ⟨(cb_X4_often).1, (cb_X4_often).2, (Nat.le_of_ble_eq_true rfl), (Nat.le_of_ble_eq_true rfl)⟩ ml_L_74 ci_X4_often cv_X4_often rfl (Nat.le_of_ble_eq_true rfl) (Nat.le_of_ble_eq_true rfl) rfl h (fun r35 S36 h2 => ?_)
      replace h := h2
      clear h2
      refine zJ.iload (pc := 419) 0 dL_law_419 rfl ?_
      obtain ⟨cN, h⟩ := h
      refine zJ.icmp_ne (pc := 421) (tgt := 442) dL_law_421 (by decide) (fun c37 => absurd c37 cN) (fun _ => ?_)
      clear cN
      refine zJ.aload_n (pc := 424) 3 dL_law_424 rfl rfl ?_
      refine zJ.iload (pc := 425) 12 dL_law_425 rfl ?_
      refine zJ.iload (pc := 427) 13 dL_law_427 rfl ?_
      refine zJ.iconst (pc := 429) (v := 1) dL_law_429 (by decide) ?_
      refine zG.callVi (d := mdL_law) (pc := 430) [.int x12, .int x13, .int 1] [] (ob_0 o) ok_0 rfl dL_law_430 ⟨(cb_X4_item).1, (cb_X4_item).2, (Nat.le_of_ble_eq_true rfl), (Nat.le_of_ble_eq_true rfl)⟩ ml_L_89 ci_X4_item cv_X4_item rfl (Nat.le_of_ble_eq_true rfl) (Nat.le_of_ble_eq_true rfl) rfl h (fun r39 S40 h2 => ?_)
      replace h := h2
      clear h2
      refine zJ.iload (pc := 433) 14 dL_law_433 rfl ?_
      obtain ⟨cN, h⟩ := h
      refine zJ.icmp_ne (pc := 435) (tgt := 442) dL_law_435 (by decide) (fun c41 => absurd c41 cN) (fun _ => ?_)
      clear cN
      refine zJ.iconst (pc := 438) (v := 1) dL_law_438 (by decide) ?_
      refine zJ.goto (pc := 439) (tgt := 443) dL_law_439 (by decide) ?_
      refine zJ.istore (pc := 443) (lv' := [(4, .int 1), (16, .int r31), (7, .int (x7 + 1)), (0, .ref o.2.2.2.2.1), (1, .ref (z_adr o (0, 0, 0))), (2, .ref (z_adr o (23, 0, 0))), (3, .ref (z_adr o (24, 0, 0))), (5, .int x5), (6, .int x6), (8, .int x8), (9, .int x9), (10, .int x10), (11, .int x11), (12, .int x12), (13, .int x13), (14, .int x14), (15, .int x15)]) dL_law_443 (Nat.le_of_ble_eq_true rfl) rfl ?_
      refine zJ.goto (pc := 445) (tgt := 581) dL_law_445 (by decide) ?_
      exact zJ.sub [3, 4, 5, 6, 0, 7, 8, 2, 9, 10] rfl h
  · replace h := h.2 c1
    refine zJ.aload_n (pc := 302) 3 dL_law_302 rfl rfl ?_
    refine zJ.iload (pc := 303) 5 dL_law_303 rfl ?_
    refine zJ.aload_n (pc := 305) 2 dL_law_305 rfl rfl ?_
    refine zJ.iconst (pc := 306) (v := 4) dL_law_306 (by decide) ?_
    refine zJ.iload (pc := 307) 11 dL_law_307 rfl ?_
    refine zJ.imul (pc := 309) dL_law_309 ?_
    refine zJ.iload (pc := 310) 12 dL_law_310 rfl ?_
    refine zJ.iadd (pc := 312) dL_law_312 ?_
    obtain ⟨hq, h⟩ := h
    refine zE.aldI (pc := 313) (ia_23 o) ok_23 hq dL_law_313 ?_
    obtain ⟨hq, h⟩ := h
    refine zE.astI (pc := 314) (ia_24 o) ok_24 hq dL_law_314 ?_
    refine zJ.nameS (fun S42 hyS42 => ?_)
    replace h := h S42 hyS42
    refine zJ.iinc (pc := 315) (k := 5) (lv' := [(6, .int (x6 + 1)), (0, .ref o.2.2.2.2.1), (1, .ref (z_adr o (0, 0, 0))), (2, .ref (z_adr o (23, 0, 0))), (3, .ref (z_adr o (24, 0, 0))), (5, .int x5), (7, .int x7), (8, .int x8), (9, .int x9), (10, .int x10), (11, .int x11), (12, .int x12), (13, .int x13), (14, .int x14), (15, .int x15)]) dL_law_315 rfl rfl (Nat.le_of_ble_eq_true rfl) rfl ?_
    refine zJ.iinc (pc := 318) (k := 6) (lv' := [(7, .int (x7 + 1)), (6, .int (x6 + 1)), (0, .ref o.2.2.2.2.1), (1, .ref (z_adr o (0, 0, 0))), (2, .ref (z_adr o (23, 0, 0))), (3, .ref (z_adr o (24, 0, 0))), (5, .int x5), (8, .int x8), (9, .int x9), (10, .int x10), (11, .int x11), (12, .int x12), (13, .int x13), (14, .int x14), (15, .int x15)]) dL_law_318 rfl rfl (Nat.le_of_ble_eq_true rfl) rfl ?_
    refine zJ.aload_n (pc := 321) 3 dL_law_321 rfl rfl ?_
    refine zJ.iload (pc := 322) 11 dL_law_322 rfl ?_
    refine zJ.iload (pc := 324) 12 dL_law_324 rfl ?_
    refine zG.callVi (d := mdL_law) (pc := 326) [.int x12, .int x13] [] (ob_0 o) ok_0 rfl dL_law_326 ⟨(cb_X4_load).1, (cb_X4_load).2, (Nat.le_of_ble_eq_true rfl), (Nat.le_of_ble_eq_true rfl)⟩ ml_L_123 ci_X4_load cv_X4_load rfl (Nat.le_of_ble_eq_true rfl) (Nat.le_of_ble_eq_true rfl) rfl h (fun r44 S45 h2 => ?_)
    replace h := h2
    clear h2
    refine zJ.istore (pc := 329) (lv' := [(16, .int r44), (7, .int (x7 + 1)), (6, .int (x6 + 1)), (0, .ref o.2.2.2.2.1), (1, .ref (z_adr o (0, 0, 0))), (2, .ref (z_adr o (23, 0, 0))), (3, .ref (z_adr o (24, 0, 0))), (5, .int x5), (8, .int x8), (9, .int x9), (10, .int x10), (11, .int x11), (12, .int x12), (13, .int x13), (14, .int x14), (15, .int x15)]) dL_law_329 (Nat.le_of_ble_eq_true rfl) rfl ?_
    refine zJ.iload (pc := 331) 0 dL_law_331 rfl ?_
    refine zJ.iload (pc := 333) 15 dL_law_333 rfl ?_
    obtain ⟨cN, h⟩ := h
    refine zJ.icmp_le (pc := 335) (tgt := 367) dL_law_335 (by decide) (fun c46 => absurd c46 cN) (fun _ => ?_)
    clear cN
    refine zJ.aload_n (pc := 338) 4 dL_law_338 rfl rfl ?_
    refine zJ.bipush (pc := 339) (v := 9) dL_law_339 (by decide) ?_
    refine zG.callVi (d := mdL_law) (pc := 341) [.int 9] [] (ob_0 o) ok_0 rfl dL_law_341 ⟨(cb_X4_often).1, (cb_X4_often).2, (Nat.le_of_ble_eq_true rfl), (Nat.le_of_ble_eq_true rfl)⟩ ml_L_74 ci_X4_often cv_X4_often rfl (Nat.le_of_ble_eq_true rfl) (Nat.le_of_ble_eq_true rfl) rfl h (fun r48 S49 h2 => ?_)
    replace h := h2
    clear h2
    refine zJ.iload (pc := 344) 0 dL_law_344 rfl ?_
    obtain ⟨cN, h⟩ := h
    refine zJ.icmp_ne (pc := 346) (tgt := 367) dL_law_346 (by decide) (fun c50 => absurd c50 cN) (fun _ => ?_)
    clear cN
    refine zJ.aload_n (pc := 349) 4 dL_law_349 rfl rfl ?_
    refine zJ.iload (pc := 350) 2 dL_law_350 rfl ?_
    refine zJ.iconst (pc := 352) (v := 1) dL_law_352 (by decide) ?_
    refine zJ.isub (pc := 353) dL_law_353 ?_
    refine zJ.iconst (pc := 354) (v := 2) dL_law_354 (by decide) ?_
    refine zG.callVi (d := mdL_law) (pc := 355) [.int ((x6 + 1) - 1), .int 2] [] (ob_0 o) ok_0 rfl dL_law_355 ⟨(cb_X4_got).1, (cb_X4_got).2, (Nat.le_of_ble_eq_true rfl), (Nat.le_of_ble_eq_true rfl)⟩ ml_L_96 ci_X4_got cv_X4_got rfl (Nat.le_of_ble_eq_true rfl) (Nat.le_of_ble_eq_true rfl) rfl h (fun r52 S53 h2 => ?_)
    replace h := h2
    clear h2
    refine zJ.iload (pc := 358) 0 dL_law_358 rfl ?_
    obtain ⟨cN, h⟩ := h
    refine zJ.icmp_ne (pc := 360) (tgt := 367) dL_law_360 (by decide) (fun c54 => absurd c54 cN) (fun _ => ?_)
    clear cN
    refine zJ.iconst (pc := 363) (v := 1) dL_law_363 (by decide) ?_
    refine zJ.goto (pc := 364) (tgt := 368) dL_law_364 (by decide) ?_
    refine zJ.istore (pc := 368) (lv' := [(4, .int 1), (16, .int r44), (7, .int (x7 + 1)), (6, .int (x6 + 1)), (0, .ref o.2.2.2.2.1), (1, .ref (z_adr o (0, 0, 0))), (2, .ref (z_adr o (23, 0, 0))), (3, .ref (z_adr o (24, 0, 0))), (5, .int x5), (8, .int x8), (9, .int x9), (10, .int x10), (11, .int x11), (12, .int x12), (13, .int x13), (14, .int x14), (15, .int x15)]) dL_law_368 (Nat.le_of_ble_eq_true rfl) rfl ?_
    refine zJ.goto (pc := 370) (tgt := 581) dL_law_370 (by decide) ?_
    exact zJ.sub [4, 5, 6, 7, 0, 8, 3, 2, 9, 10] rfl h
