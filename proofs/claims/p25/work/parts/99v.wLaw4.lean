set_option maxRecDepth 100000 in
set_option maxHeartbeats 4000000 in
theorem w_L_law_1060 (o : zW) (x5 : Int32) (x6 : Int32) (x7 : Int32) (x8 : Int32) (x9 : Int32) (x16 : Int32) (x17 : Int32) (x18 : Int32) (x19 : Int32) (S : zS) (Q : Option Value → zS → Prop) (h : zGi o 970 mdX4_fetch [.ref (z_adr o (0, 0, 0)), .int x19, .int 2] S (fun r2 S3 => zG o 970 mdL_law 950 [(0, .ref o.2.2.2.2.1), (1, .ref (z_adr o (0, 0, 0))), (2, .ref (z_adr o (23, 0, 0))), (3, .ref (z_adr o (24, 0, 0))), (4, .int 1), (5, .int x5), (6, .int x6), (7, .int x7), (8, .int x8), (9, .int x9), (16, .int x16), (17, .int x17), (18, .int (x18 + r2)), (19, .int (x19 + 1))] [] S3 Q)) : zG o 970 mdL_law 1060 [(0, .ref o.2.2.2.2.1), (1, .ref (z_adr o (0, 0, 0))), (2, .ref (z_adr o (23, 0, 0))), (3, .ref (z_adr o (24, 0, 0))), (4, .int 1), (5, .int x5), (6, .int x6), (7, .int x7), (8, .int x8), (9, .int x9), (16, .int x16), (17, .int x17), (18, .int x18), (19, .int x19)] [] S Q := by
  show zJ o mdL_law 1060 _ [] (970, z_enc o S) 0 0 _
  refine zJ.iload (pc := 1060) 12 dL_law_1060 rfl ?_
  refine zJ.aload_n (pc := 1062) 1 dL_law_1062 rfl rfl ?_
  refine zJ.iload (pc := 1063) 13 dL_law_1063 rfl ?_
  refine zJ.iconst (pc := 1065) (v := 2) dL_law_1065 (by decide) ?_
  refine zG.callVi (d := mdL_law) (pc := 1066) [.int x19, .int 2] [.int x18] (ob_0 o) ok_0 rfl dL_law_1066 ⟨(cb_X4_fetch).1, (cb_X4_fetch).2, (Nat.le_of_ble_eq_true rfl), (Nat.le_of_ble_eq_true rfl)⟩ ml_L_83 ci_X4_fetch cv_X4_fetch rfl (Nat.le_of_ble_eq_true rfl) (Nat.le_of_ble_eq_true rfl) rfl h (fun r2 S3 h2 => ?_)
  replace h := h2
  clear h2
  refine zJ.iadd (pc := 1069) dL_law_1069 ?_
  refine zJ.istore (pc := 1070) (lv' := [(18, .int (x18 + r2)), (0, .ref o.2.2.2.2.1), (1, .ref (z_adr o (0, 0, 0))), (2, .ref (z_adr o (23, 0, 0))), (3, .ref (z_adr o (24, 0, 0))), (4, .int 1), (5, .int x5), (6, .int x6), (7, .int x7), (8, .int x8), (9, .int x9), (16, .int x16), (17, .int x17), (19, .int x19)]) dL_law_1070 (Nat.le_of_ble_eq_true rfl) rfl ?_
  refine zJ.iinc (pc := 1072) (k := 13) (lv' := [(19, .int (x19 + 1)), (18, .int (x18 + r2)), (0, .ref o.2.2.2.2.1), (1, .ref (z_adr o (0, 0, 0))), (2, .ref (z_adr o (23, 0, 0))), (3, .ref (z_adr o (24, 0, 0))), (4, .int 1), (5, .int x5), (6, .int x6), (7, .int x7), (8, .int x8), (9, .int x9), (16, .int x16), (17, .int x17)]) dL_law_1072 rfl rfl (Nat.le_of_ble_eq_true rfl) rfl ?_
  refine zJ.goto (pc := 1075) (tgt := 950) dL_law_1075 (by decide) ?_
  exact zJ.sub [2, 3, 4, 5, 6, 7, 8, 9, 10, 11, 12, 13, 1, 0] rfl h
set_option maxRecDepth 100000 in
set_option maxHeartbeats 4000000 in
theorem w_L_law_1200 (o : zW) (x5 : Int32) (x6 : Int32) (x7 : Int32) (x8 : Int32) (x9 : Int32) (S : zS) (Q : Option Value → zS → Prop) (h : zG o 970 mdL_law 221 [(0, .ref o.2.2.2.2.1), (1, .ref (z_adr o (0, 0, 0))), (2, .ref (z_adr o (23, 0, 0))), (3, .ref (z_adr o (24, 0, 0))), (4, .int 1), (5, .int x5), (6, .int x6), (7, .int x7), (8, .int x8), (9, .int (x9 + 1))] [] S Q) : zG o 970 mdL_law 1200 [(0, .ref o.2.2.2.2.1), (1, .ref (z_adr o (0, 0, 0))), (2, .ref (z_adr o (23, 0, 0))), (3, .ref (z_adr o (24, 0, 0))), (4, .int 1), (5, .int x5), (6, .int x6), (7, .int x7), (8, .int x8), (9, .int x9)] [] S Q := by
  show zJ o mdL_law 1200 _ [] (970, z_enc o S) 0 0 _
  refine zJ.iinc (pc := 1200) (k := 9) (lv' := [(9, .int (x9 + 1)), (0, .ref o.2.2.2.2.1), (1, .ref (z_adr o (0, 0, 0))), (2, .ref (z_adr o (23, 0, 0))), (3, .ref (z_adr o (24, 0, 0))), (4, .int 1), (5, .int x5), (6, .int x6), (7, .int x7), (8, .int x8)]) dL_law_1200 rfl rfl (Nat.le_of_ble_eq_true rfl) rfl ?_
  refine zJ.goto (pc := 1203) (tgt := 221) dL_law_1203 (by decide) ?_
  exact zJ.sub [1, 2, 3, 4, 5, 6, 7, 8, 9, 0] rfl h
set_option maxRecDepth 100000 in
set_option maxHeartbeats 4000000 in
theorem w_L_law_1209 (o : zW) (x5 : Int32) (x6 : Int32) (x7 : Int32) (x8 : Int32) (x9 : Int32) (S : zS) (Q : Option Value → zS → Prop) (h : (x6 ≤ x9 → (zGi o 970 mdX4_often [.ref (z_adr o (0, 0, 0)), .int 8] S (fun r4 S5 => (¬ (¬ x8 = r4)) ∧ (zGi o 970 mdX4_got [.ref (z_adr o (0, 0, 0)), .int x6, .int 0] S5 (fun r8 S9 => (¬ (¬ r8 = (-1))) ∧ ((¬ x8 = 0 → (zGi o 970 mdX4_cost [.ref (z_adr o (0, 0, 0)), .int 2] S9 (fun r13 S14 => zGi o 970 mdX4_cost [.ref (z_adr o (0, 0, 0)), .int 1] S14 (fun r16 S17 => (¬ (r13 < r16)) ∧ (zGi o 970 mdX4_cost [.ref (z_adr o (0, 0, 0)), .int 0] S17 (fun r20 S21 => (¬ (r20 < 0)) ∧ (zG o 970 mdL_law 1392 [(0, .ref o.2.2.2.2.1), (1, .ref (z_adr o (0, 0, 0))), (2, .ref (z_adr o (23, 0, 0))), (4, .int 1), (5, .int x5), (7, .int x7)] [] S21 Q))))))) ∧ (x8 = 0 → (zGi o 970 mdX4_cost [.ref (z_adr o (0, 0, 0)), .int 1] S9 (fun r24 S25 => (¬ (¬ r24 = 0)) ∧ (zGl o 970 mdX4_even [.ref (z_adr o (0, 0, 0))] S25 (fun r28 S29 => (¬ (¬ (z_lcmp r28 0) = 0)) ∧ (zGi o 970 mdX4_cost [.ref (z_adr o (0, 0, 0)), .int 0] S29 (fun r32 S33 => (¬ (r32 < 0)) ∧ (zG o 970 mdL_law 1392 [(0, .ref o.2.2.2.2.1), (1, .ref (z_adr o (0, 0, 0))), (2, .ref (z_adr o (23, 0, 0))), (4, .int 1), (5, .int x5), (7, .int x7)] [] S33 Q)))))))))))))) ∧ (¬ x6 ≤ x9 → (zGi o 970 mdX4_got [.ref (z_adr o (0, 0, 0)), .int x9, .int 0] S (fun r37 S38 => zGi o 970 mdX4_got [.ref (z_adr o (0, 0, 0)), .int x9, .int 1] S38 (fun r40 S41 => (r37 < 0 → (zG o 970 mdL_law 1254 [(0, .ref o.2.2.2.2.1), (1, .ref (z_adr o (0, 0, 0))), (2, .ref (z_adr o (23, 0, 0))), (3, .ref (z_adr o (24, 0, 0))), (5, .int x5), (6, .int x6), (7, .int x7), (8, .int (x8 + 0)), (9, .int x9), (10, .int r37), (11, .int r40)] [] S41 Q)) ∧ (¬ r37 < 0 → (zG o 970 mdL_law 1254 [(0, .ref o.2.2.2.2.1), (1, .ref (z_adr o (0, 0, 0))), (2, .ref (z_adr o (23, 0, 0))), (3, .ref (z_adr o (24, 0, 0))), (5, .int x5), (6, .int x6), (7, .int x7), (8, .int (x8 + 1)), (9, .int x9), (10, .int r37), (11, .int r40)] [] S41 Q))))))) : zG o 970 mdL_law 1209 [(0, .ref o.2.2.2.2.1), (1, .ref (z_adr o (0, 0, 0))), (2, .ref (z_adr o (23, 0, 0))), (3, .ref (z_adr o (24, 0, 0))), (4, .int 1), (5, .int x5), (6, .int x6), (7, .int x7), (8, .int x8), (9, .int x9)] [] S Q := by
  show zJ o mdL_law 1209 _ [] (970, z_enc o S) 0 0 _
  refine zJ.iload (pc := 1209) 9 dL_law_1209 rfl ?_
  refine zJ.iload (pc := 1211) 6 dL_law_1211 rfl ?_
  refine zJ.icmp_ge (pc := 1213) (tgt := 1312) dL_law_1213 (by decide) (fun c1 => ?_) (fun c1 => ?_)
  · replace h := h.1 c1
    refine zJ.iload (pc := 1312) 4 dL_law_1312 rfl ?_
    refine zJ.if_eq (pc := 1314) (tgt := 1389) dL_law_1314 (by decide) (fun c2 => absurd c2 (by decide)) (fun c2 => ?_)
    refine zJ.iload (pc := 1317) 8 dL_law_1317 rfl ?_
    refine zJ.aload_n (pc := 1319) 1 dL_law_1319 rfl rfl ?_
    refine zJ.bipush (pc := 1320) (v := 8) dL_law_1320 (by decide) ?_
    refine zG.callVi (d := mdL_law) (pc := 1322) [.int 8] [.int x8] (ob_0 o) ok_0 rfl dL_law_1322 ⟨(cb_X4_often).1, (cb_X4_often).2, (Nat.le_of_ble_eq_true rfl), (Nat.le_of_ble_eq_true rfl)⟩ ml_L_74 ci_X4_often cv_X4_often rfl (Nat.le_of_ble_eq_true rfl) (Nat.le_of_ble_eq_true rfl) rfl h (fun r4 S5 h2 => ?_)
    replace h := h2
    clear h2
    obtain ⟨cN, h⟩ := h
    refine zJ.icmp_ne (pc := 1325) (tgt := 1389) dL_law_1325 (by decide) (fun c6 => absurd c6 cN) (fun _ => ?_)
    clear cN
    refine zJ.aload_n (pc := 1328) 1 dL_law_1328 rfl rfl ?_
    refine zJ.iload (pc := 1329) 6 dL_law_1329 rfl ?_
    refine zJ.iconst (pc := 1331) (v := 0) dL_law_1331 (by decide) ?_
    refine zG.callVi (d := mdL_law) (pc := 1332) [.int x6, .int 0] [] (ob_0 o) ok_0 rfl dL_law_1332 ⟨(cb_X4_got).1, (cb_X4_got).2, (Nat.le_of_ble_eq_true rfl), (Nat.le_of_ble_eq_true rfl)⟩ ml_L_96 ci_X4_got cv_X4_got rfl (Nat.le_of_ble_eq_true rfl) (Nat.le_of_ble_eq_true rfl) rfl h (fun r8 S9 h2 => ?_)
    replace h := h2
    clear h2
    refine zJ.iconst (pc := 1335) (v := (-1)) dL_law_1335 (by decide) ?_
    obtain ⟨cN, h⟩ := h
    refine zJ.icmp_ne (pc := 1336) (tgt := 1389) dL_law_1336 (by decide) (fun c10 => absurd c10 cN) (fun _ => ?_)
    clear cN
    refine zJ.iload (pc := 1339) 8 dL_law_1339 rfl ?_
    refine zJ.if_ne (pc := 1341) (tgt := 1364) dL_law_1341 (by decide) (fun c11 => ?_) (fun c11 => ?_)
    · replace h := h.1 c11
      refine zJ.aload_n (pc := 1364) 1 dL_law_1364 rfl rfl ?_
      refine zJ.iconst (pc := 1365) (v := 2) dL_law_1365 (by decide) ?_
      refine zG.callVi (d := mdL_law) (pc := 1366) [.int 2] [] (ob_0 o) ok_0 rfl dL_law_1366 ⟨(cb_X4_cost).1, (cb_X4_cost).2, (Nat.le_of_ble_eq_true rfl), (Nat.le_of_ble_eq_true rfl)⟩ ml_L_99 ci_X4_cost cv_X4_cost rfl (Nat.le_of_ble_eq_true rfl) (Nat.le_of_ble_eq_true rfl) rfl h (fun r13 S14 h2 => ?_)
      replace h := h2
      clear h2
      refine zJ.aload_n (pc := 1369) 1 dL_law_1369 rfl rfl ?_
      refine zJ.iconst (pc := 1370) (v := 1) dL_law_1370 (by decide) ?_
      refine zG.callVi (d := mdL_law) (pc := 1371) [.int 1] [.int r13] (ob_0 o) ok_0 rfl dL_law_1371 ⟨(cb_X4_cost).1, (cb_X4_cost).2, (Nat.le_of_ble_eq_true rfl), (Nat.le_of_ble_eq_true rfl)⟩ ml_L_99 ci_X4_cost cv_X4_cost rfl (Nat.le_of_ble_eq_true rfl) (Nat.le_of_ble_eq_true rfl) rfl h (fun r16 S17 h2 => ?_)
      replace h := h2
      clear h2
      obtain ⟨cN, h⟩ := h
      refine zJ.icmp_lt (pc := 1374) (tgt := 1389) dL_law_1374 (by decide) (fun c18 => absurd c18 cN) (fun _ => ?_)
      clear cN
      refine zJ.aload_n (pc := 1377) 1 dL_law_1377 rfl rfl ?_
      refine zJ.iconst (pc := 1378) (v := 0) dL_law_1378 (by decide) ?_
      refine zG.callVi (d := mdL_law) (pc := 1379) [.int 0] [] (ob_0 o) ok_0 rfl dL_law_1379 ⟨(cb_X4_cost).1, (cb_X4_cost).2, (Nat.le_of_ble_eq_true rfl), (Nat.le_of_ble_eq_true rfl)⟩ ml_L_99 ci_X4_cost cv_X4_cost rfl (Nat.le_of_ble_eq_true rfl) (Nat.le_of_ble_eq_true rfl) rfl h (fun r20 S21 h2 => ?_)
      replace h := h2
      clear h2
      obtain ⟨cN, h⟩ := h
      refine zJ.if_lt (pc := 1382) (tgt := 1389) dL_law_1382 (by decide) (fun c22 => absurd c22 cN) (fun _ => ?_)
      clear cN
      refine zJ.iconst (pc := 1385) (v := 1) dL_law_1385 (by decide) ?_
      refine zJ.goto (pc := 1386) (tgt := 1390) dL_law_1386 (by decide) ?_
      refine zJ.istore (pc := 1390) (lv' := [(4, .int 1), (0, .ref o.2.2.2.2.1), (1, .ref (z_adr o (0, 0, 0))), (2, .ref (z_adr o (23, 0, 0))), (3, .ref (z_adr o (24, 0, 0))), (5, .int x5), (6, .int x6), (7, .int x7), (8, .int x8), (9, .int x9)]) dL_law_1390 (Nat.le_of_ble_eq_true rfl) rfl ?_
      exact zJ.sub [1, 2, 3, 0, 5, 7] rfl h
    · replace h := h.2 c11
      refine zJ.aload_n (pc := 1344) 1 dL_law_1344 rfl rfl ?_
      refine zJ.iconst (pc := 1345) (v := 1) dL_law_1345 (by decide) ?_
      refine zG.callVi (d := mdL_law) (pc := 1346) [.int 1] [] (ob_0 o) ok_0 rfl dL_law_1346 ⟨(cb_X4_cost).1, (cb_X4_cost).2, (Nat.le_of_ble_eq_true rfl), (Nat.le_of_ble_eq_true rfl)⟩ ml_L_99 ci_X4_cost cv_X4_cost rfl (Nat.le_of_ble_eq_true rfl) (Nat.le_of_ble_eq_true rfl) rfl h (fun r24 S25 h2 => ?_)
      replace h := h2
      clear h2
      obtain ⟨cN, h⟩ := h
      refine zJ.if_ne (pc := 1349) (tgt := 1389) dL_law_1349 (by decide) (fun c26 => absurd c26 cN) (fun _ => ?_)
      clear cN
      refine zJ.aload_n (pc := 1352) 1 dL_law_1352 rfl rfl ?_
      refine zG.callVl (d := mdL_law) (pc := 1353) [] [] (ob_0 o) ok_0 rfl dL_law_1353 ⟨(cb_X4_even).1, (cb_X4_even).2, (Nat.le_of_ble_eq_true rfl), (Nat.le_of_ble_eq_true rfl)⟩ ml_L_105 ci_X4_even cv_X4_even rfl (Nat.le_of_ble_eq_true rfl) (Nat.le_of_ble_eq_true rfl) rfl h (fun r28 S29 h2 => ?_)
      replace h := h2
      clear h2
      refine zJ.lconst (pc := 1356) (v := 0) dL_law_1356 (by decide) ?_
      refine zJ.lcmp (pc := 1357) dL_law_1357 ?_
      obtain ⟨cN, h⟩ := h
      refine zJ.if_ne (pc := 1358) (tgt := 1389) dL_law_1358 (by decide) (fun c30 => absurd c30 cN) (fun _ => ?_)
      clear cN
      refine zJ.goto (pc := 1361) (tgt := 1377) dL_law_1361 (by decide) ?_
      refine zJ.aload_n (pc := 1377) 1 dL_law_1377 rfl rfl ?_
      refine zJ.iconst (pc := 1378) (v := 0) dL_law_1378 (by decide) ?_
      refine zG.callVi (d := mdL_law) (pc := 1379) [.int 0] [] (ob_0 o) ok_0 rfl dL_law_1379 ⟨(cb_X4_cost).1, (cb_X4_cost).2, (Nat.le_of_ble_eq_true rfl), (Nat.le_of_ble_eq_true rfl)⟩ ml_L_99 ci_X4_cost cv_X4_cost rfl (Nat.le_of_ble_eq_true rfl) (Nat.le_of_ble_eq_true rfl) rfl h (fun r32 S33 h2 => ?_)
      replace h := h2
      clear h2
      obtain ⟨cN, h⟩ := h
      refine zJ.if_lt (pc := 1382) (tgt := 1389) dL_law_1382 (by decide) (fun c34 => absurd c34 cN) (fun _ => ?_)
      clear cN
      refine zJ.iconst (pc := 1385) (v := 1) dL_law_1385 (by decide) ?_
      refine zJ.goto (pc := 1386) (tgt := 1390) dL_law_1386 (by decide) ?_
      refine zJ.istore (pc := 1390) (lv' := [(4, .int 1), (0, .ref o.2.2.2.2.1), (1, .ref (z_adr o (0, 0, 0))), (2, .ref (z_adr o (23, 0, 0))), (3, .ref (z_adr o (24, 0, 0))), (5, .int x5), (6, .int x6), (7, .int x7), (8, .int x8), (9, .int x9)]) dL_law_1390 (Nat.le_of_ble_eq_true rfl) rfl ?_
      exact zJ.sub [1, 2, 3, 0, 5, 7] rfl h
  · replace h := h.2 c1
    refine zJ.iload (pc := 1216) 4 dL_law_1216 rfl ?_
    refine zJ.if_eq (pc := 1218) (tgt := 1312) dL_law_1218 (by decide) (fun c35 => absurd c35 (by decide)) (fun c35 => ?_)
    refine zJ.aload_n (pc := 1221) 1 dL_law_1221 rfl rfl ?_
    refine zJ.iload (pc := 1222) 9 dL_law_1222 rfl ?_
    refine zJ.iconst (pc := 1224) (v := 0) dL_law_1224 (by decide) ?_
    refine zG.callVi (d := mdL_law) (pc := 1225) [.int x9, .int 0] [] (ob_0 o) ok_0 rfl dL_law_1225 ⟨(cb_X4_got).1, (cb_X4_got).2, (Nat.le_of_ble_eq_true rfl), (Nat.le_of_ble_eq_true rfl)⟩ ml_L_96 ci_X4_got cv_X4_got rfl (Nat.le_of_ble_eq_true rfl) (Nat.le_of_ble_eq_true rfl) rfl h (fun r37 S38 h2 => ?_)
    replace h := h2
    clear h2
    refine zJ.istore (pc := 1228) (lv' := [(10, .int r37), (0, .ref o.2.2.2.2.1), (1, .ref (z_adr o (0, 0, 0))), (2, .ref (z_adr o (23, 0, 0))), (3, .ref (z_adr o (24, 0, 0))), (4, .int 1), (5, .int x5), (6, .int x6), (7, .int x7), (8, .int x8), (9, .int x9)]) dL_law_1228 (Nat.le_of_ble_eq_true rfl) rfl ?_
    refine zJ.aload_n (pc := 1230) 2 dL_law_1230 rfl rfl ?_
    refine zJ.iload (pc := 1231) 10 dL_law_1231 rfl ?_
    refine zJ.iconst (pc := 1233) (v := 1) dL_law_1233 (by decide) ?_
    refine zG.callVi (d := mdL_law) (pc := 1234) [.int x9, .int 1] [] (ob_0 o) ok_0 rfl dL_law_1234 ⟨(cb_X4_got).1, (cb_X4_got).2, (Nat.le_of_ble_eq_true rfl), (Nat.le_of_ble_eq_true rfl)⟩ ml_L_96 ci_X4_got cv_X4_got rfl (Nat.le_of_ble_eq_true rfl) (Nat.le_of_ble_eq_true rfl) rfl h (fun r40 S41 h2 => ?_)
    replace h := h2
    clear h2
    refine zJ.istore (pc := 1237) (lv' := [(11, .int r40), (10, .int r37), (0, .ref o.2.2.2.2.1), (1, .ref (z_adr o (0, 0, 0))), (2, .ref (z_adr o (23, 0, 0))), (3, .ref (z_adr o (24, 0, 0))), (4, .int 1), (5, .int x5), (6, .int x6), (7, .int x7), (8, .int x8), (9, .int x9)]) dL_law_1237 (Nat.le_of_ble_eq_true rfl) rfl ?_
    refine zJ.iload (pc := 1239) 10 dL_law_1239 rfl ?_
    refine zJ.iload (pc := 1241) 1 dL_law_1241 rfl ?_
    refine zJ.if_lt (pc := 1243) (tgt := 1250) dL_law_1243 (by decide) (fun c42 => ?_) (fun c42 => ?_)
    · replace h := h.1 c42
      refine zJ.iconst (pc := 1250) (v := 0) dL_law_1250 (by decide) ?_
      refine zJ.iadd (pc := 1251) dL_law_1251 ?_
      refine zJ.istore (pc := 1252) (lv' := [(8, .int (x8 + 0)), (11, .int r40), (10, .int r37), (0, .ref o.2.2.2.2.1), (1, .ref (z_adr o (0, 0, 0))), (2, .ref (z_adr o (23, 0, 0))), (3, .ref (z_adr o (24, 0, 0))), (4, .int 1), (5, .int x5), (6, .int x6), (7, .int x7), (9, .int x9)]) dL_law_1252 (Nat.le_of_ble_eq_true rfl) rfl ?_
      exact zJ.sub [3, 4, 5, 6, 8, 9, 10, 0, 11, 2, 1] rfl h
    · replace h := h.2 c42
      refine zJ.iconst (pc := 1246) (v := 1) dL_law_1246 (by decide) ?_
      refine zJ.goto (pc := 1247) (tgt := 1251) dL_law_1247 (by decide) ?_
      refine zJ.iadd (pc := 1251) dL_law_1251 ?_
      refine zJ.istore (pc := 1252) (lv' := [(8, .int (x8 + 1)), (11, .int r40), (10, .int r37), (0, .ref o.2.2.2.2.1), (1, .ref (z_adr o (0, 0, 0))), (2, .ref (z_adr o (23, 0, 0))), (3, .ref (z_adr o (24, 0, 0))), (4, .int 1), (5, .int x5), (6, .int x6), (7, .int x7), (9, .int x9)]) dL_law_1252 (Nat.le_of_ble_eq_true rfl) rfl ?_
      exact zJ.sub [3, 4, 5, 6, 8, 9, 10, 0, 11, 2, 1] rfl h
set_option maxRecDepth 100000 in
set_option maxHeartbeats 4000000 in
theorem w_L_law_1254 (o : zW) (x5 : Int32) (x6 : Int32) (x7 : Int32) (x8 : Int32) (x9 : Int32) (x10 : Int32) (x11 : Int32) (S : zS) (Q : Option Value → zS → Prop) (h : (¬ x10 = (-1) → (vp_in x9 60 ∧ ((¬ (¬ x10 = (S.1 (24, 0, 0) x9.toNatClampNeg))) ∧ ((¬ (x11 < 0)) ∧ (zGi o 970 mdX4_told [.ref (z_adr o (0, 0, 0)), .int 8] S (fun r5 S6 => (¬ (r5 < x11)) ∧ (zG o 970 mdL_law 1306 [(0, .ref o.2.2.2.2.1), (1, .ref (z_adr o (0, 0, 0))), (2, .ref (z_adr o (23, 0, 0))), (3, .ref (z_adr o (24, 0, 0))), (4, .int 1), (5, .int x5), (6, .int x6), (7, .int x7), (8, .int x8), (9, .int x9)] [] S6 Q))))))) ∧ (x10 = (-1) → ((¬ (¬ x11 = (-1))) ∧ (zG o 970 mdL_law 1306 [(0, .ref o.2.2.2.2.1), (1, .ref (z_adr o (0, 0, 0))), (2, .ref (z_adr o (23, 0, 0))), (3, .ref (z_adr o (24, 0, 0))), (4, .int 1), (5, .int x5), (6, .int x6), (7, .int x7), (8, .int x8), (9, .int x9)] [] S Q)))) : zG o 970 mdL_law 1254 [(0, .ref o.2.2.2.2.1), (1, .ref (z_adr o (0, 0, 0))), (2, .ref (z_adr o (23, 0, 0))), (3, .ref (z_adr o (24, 0, 0))), (5, .int x5), (6, .int x6), (7, .int x7), (8, .int x8), (9, .int x9), (10, .int x10), (11, .int x11)] [] S Q := by
  show zJ o mdL_law 1254 _ [] (970, z_enc o S) 0 0 _
  refine zJ.iload (pc := 1254) 9 dL_law_1254 rfl ?_
  refine zJ.iconst (pc := 1256) (v := (-1)) dL_law_1256 (by decide) ?_
  refine zJ.icmp_ne (pc := 1257) (tgt := 1274) dL_law_1257 (by decide) (fun c1 => ?_) (fun c1 => ?_)
  · replace h := h.1 c1
    refine zJ.iload (pc := 1274) 9 dL_law_1274 rfl ?_
    refine zJ.aload_n (pc := 1276) 3 dL_law_1276 rfl rfl ?_
    refine zJ.iload (pc := 1277) 8 dL_law_1277 rfl ?_
    obtain ⟨hq, h⟩ := h
    refine zE.aldI (pc := 1279) (ia_24 o) ok_24 hq dL_law_1279 ?_
    obtain ⟨cN, h⟩ := h
    refine zJ.icmp_ne (pc := 1280) (tgt := 1303) dL_law_1280 (by decide) (fun c2 => absurd c2 cN) (fun _ => ?_)
    clear cN
    refine zJ.iload (pc := 1283) 10 dL_law_1283 rfl ?_
    obtain ⟨cN, h⟩ := h
    refine zJ.if_lt (pc := 1285) (tgt := 1303) dL_law_1285 (by decide) (fun c3 => absurd c3 cN) (fun _ => ?_)
    clear cN
    refine zJ.iload (pc := 1288) 10 dL_law_1288 rfl ?_
    refine zJ.aload_n (pc := 1290) 1 dL_law_1290 rfl rfl ?_
    refine zJ.bipush (pc := 1291) (v := 8) dL_law_1291 (by decide) ?_
    refine zG.callVi (d := mdL_law) (pc := 1293) [.int 8] [.int x11] (ob_0 o) ok_0 rfl dL_law_1293 ⟨(cb_X4_told).1, (cb_X4_told).2, (Nat.le_of_ble_eq_true rfl), (Nat.le_of_ble_eq_true rfl)⟩ ml_L_80 ci_X4_told cv_X4_told rfl (Nat.le_of_ble_eq_true rfl) (Nat.le_of_ble_eq_true rfl) rfl h (fun r5 S6 h2 => ?_)
    replace h := h2
    clear h2
    obtain ⟨cN, h⟩ := h
    refine zJ.icmp_gt (pc := 1296) (tgt := 1303) dL_law_1296 (by decide) (fun c7 => absurd c7 cN) (fun _ => ?_)
    clear cN
    refine zJ.iconst (pc := 1299) (v := 1) dL_law_1299 (by decide) ?_
    refine zJ.goto (pc := 1300) (tgt := 1304) dL_law_1300 (by decide) ?_
    refine zJ.istore (pc := 1304) (lv' := [(4, .int 1), (0, .ref o.2.2.2.2.1), (1, .ref (z_adr o (0, 0, 0))), (2, .ref (z_adr o (23, 0, 0))), (3, .ref (z_adr o (24, 0, 0))), (5, .int x5), (6, .int x6), (7, .int x7), (8, .int x8), (9, .int x9), (10, .int x10), (11, .int x11)]) dL_law_1304 (Nat.le_of_ble_eq_true rfl) rfl ?_
    exact zJ.sub [1, 2, 3, 4, 0, 5, 6, 7, 8, 9] rfl h
  · replace h := h.2 c1
    refine zJ.iload (pc := 1260) 10 dL_law_1260 rfl ?_
    refine zJ.iconst (pc := 1262) (v := (-1)) dL_law_1262 (by decide) ?_
    obtain ⟨cN, h⟩ := h
    refine zJ.icmp_ne (pc := 1263) (tgt := 1270) dL_law_1263 (by decide) (fun c8 => absurd c8 cN) (fun _ => ?_)
    clear cN
    refine zJ.iconst (pc := 1266) (v := 1) dL_law_1266 (by decide) ?_
    refine zJ.goto (pc := 1267) (tgt := 1304) dL_law_1267 (by decide) ?_
    refine zJ.istore (pc := 1304) (lv' := [(4, .int 1), (0, .ref o.2.2.2.2.1), (1, .ref (z_adr o (0, 0, 0))), (2, .ref (z_adr o (23, 0, 0))), (3, .ref (z_adr o (24, 0, 0))), (5, .int x5), (6, .int x6), (7, .int x7), (8, .int x8), (9, .int x9), (10, .int x10), (11, .int x11)]) dL_law_1304 (Nat.le_of_ble_eq_true rfl) rfl ?_
    exact zJ.sub [1, 2, 3, 4, 0, 5, 6, 7, 8, 9] rfl h
set_option maxRecDepth 100000 in
set_option maxHeartbeats 4000000 in
theorem w_L_law_1306 (o : zW) (x5 : Int32) (x6 : Int32) (x7 : Int32) (x8 : Int32) (x9 : Int32) (S : zS) (Q : Option Value → zS → Prop) (h : zG o 970 mdL_law 1209 [(0, .ref o.2.2.2.2.1), (1, .ref (z_adr o (0, 0, 0))), (2, .ref (z_adr o (23, 0, 0))), (3, .ref (z_adr o (24, 0, 0))), (4, .int 1), (5, .int x5), (6, .int x6), (7, .int x7), (8, .int x8), (9, .int (x9 + 1))] [] S Q) : zG o 970 mdL_law 1306 [(0, .ref o.2.2.2.2.1), (1, .ref (z_adr o (0, 0, 0))), (2, .ref (z_adr o (23, 0, 0))), (3, .ref (z_adr o (24, 0, 0))), (4, .int 1), (5, .int x5), (6, .int x6), (7, .int x7), (8, .int x8), (9, .int x9)] [] S Q := by
  show zJ o mdL_law 1306 _ [] (970, z_enc o S) 0 0 _
  refine zJ.iinc (pc := 1306) (k := 9) (lv' := [(9, .int (x9 + 1)), (0, .ref o.2.2.2.2.1), (1, .ref (z_adr o (0, 0, 0))), (2, .ref (z_adr o (23, 0, 0))), (3, .ref (z_adr o (24, 0, 0))), (4, .int 1), (5, .int x5), (6, .int x6), (7, .int x7), (8, .int x8)]) dL_law_1306 rfl rfl (Nat.le_of_ble_eq_true rfl) rfl ?_
  refine zJ.goto (pc := 1309) (tgt := 1209) dL_law_1309 (by decide) ?_
  exact zJ.sub [1, 2, 3, 4, 5, 6, 7, 8, 9, 0] rfl h
set_option maxRecDepth 100000 in
set_option maxHeartbeats 4000000 in
theorem w_L_law_1392 (o : zW) (x5 : Int32) (x7 : Int32) (S : zS) (Q : Option Value → zS → Prop) (h : zGi o 970 mdX4_told [.ref (z_adr o (0, 0, 0)), .int 9] S (fun r2 S3 => zGi o 970 mdX4_store [.ref (z_adr o (0, 0, 0)), .int 3, .int 1, .int 77] S3 (fun r6 S7 => (¬ (r6 ≤ 0)) ∧ (zGi o 970 mdX4_back [.ref (z_adr o (0, 0, 0))] S7 (fun r10 S11 => (¬ r2 = 6 → ((¬ (¬ r10 = (r2 - 0))) ∧ (zGi o 970 mdX4_often [.ref (z_adr o (0, 0, 0)), .int 0] S11 (fun r15 S16 => zGi o 970 mdX4_often [.ref (z_adr o (0, 0, 0)), .int 1] S16 (fun r18 S19 => zGi o 970 mdX4_often [.ref (z_adr o (0, 0, 0)), .int 2] S19 (fun r21 S22 => zGi o 970 mdX4_often [.ref (z_adr o (0, 0, 0)), .int 3] S22 (fun r24 S25 => (¬ (¬ (((r15 + r18) + r21) + r24) = x7)) ∧ (zGi o 970 mdX4_item [.ref (z_adr o (0, 0, 0)), .int 3, .int 1, .int 1] S25 (fun r28 S29 => (¬ (¬ r28 = (S29.1 (23, 0, 0) 13))) ∧ (zG o 970 mdL_law 1487 [(0, .ref o.2.2.2.2.1), (1, .ref (z_adr o (0, 0, 0))), (2, .ref (z_adr o (23, 0, 0))), (4, .int 1), (5, .int x5)] [] S29 Q)))))))))) ∧ (r2 = 6 → ((¬ (¬ r10 = (r2 - 1))) ∧ (zGi o 970 mdX4_often [.ref (z_adr o (0, 0, 0)), .int 0] S11 (fun r33 S34 => zGi o 970 mdX4_often [.ref (z_adr o (0, 0, 0)), .int 1] S34 (fun r36 S37 => zGi o 970 mdX4_often [.ref (z_adr o (0, 0, 0)), .int 2] S37 (fun r39 S40 => zGi o 970 mdX4_often [.ref (z_adr o (0, 0, 0)), .int 3] S40 (fun r42 S43 => (¬ (¬ (((r33 + r36) + r39) + r42) = x7)) ∧ (zGi o 970 mdX4_item [.ref (z_adr o (0, 0, 0)), .int 3, .int 1, .int 1] S43 (fun r46 S47 => (¬ (¬ r46 = (S47.1 (23, 0, 0) 13))) ∧ (zG o 970 mdL_law 1487 [(0, .ref o.2.2.2.2.1), (1, .ref (z_adr o (0, 0, 0))), (2, .ref (z_adr o (23, 0, 0))), (4, .int 1), (5, .int x5)] [] S47 Q))))))))))))))) : zG o 970 mdL_law 1392 [(0, .ref o.2.2.2.2.1), (1, .ref (z_adr o (0, 0, 0))), (2, .ref (z_adr o (23, 0, 0))), (4, .int 1), (5, .int x5), (7, .int x7)] [] S Q := by
  show zJ o mdL_law 1392 _ [] (970, z_enc o S) 0 0 _
  refine zJ.aload_n (pc := 1392) 1 dL_law_1392 rfl rfl ?_
  refine zJ.bipush (pc := 1393) (v := 9) dL_law_1393 (by decide) ?_
  refine zG.callVi (d := mdL_law) (pc := 1395) [.int 9] [] (ob_0 o) ok_0 rfl dL_law_1395 ⟨(cb_X4_told).1, (cb_X4_told).2, (Nat.le_of_ble_eq_true rfl), (Nat.le_of_ble_eq_true rfl)⟩ ml_L_80 ci_X4_told cv_X4_told rfl (Nat.le_of_ble_eq_true rfl) (Nat.le_of_ble_eq_true rfl) rfl h (fun r2 S3 h2 => ?_)
  replace h := h2
  clear h2
  refine zJ.istore (pc := 1398) (lv' := [(9, .int r2), (0, .ref o.2.2.2.2.1), (1, .ref (z_adr o (0, 0, 0))), (2, .ref (z_adr o (23, 0, 0))), (4, .int 1), (5, .int x5), (7, .int x7)]) dL_law_1398 (Nat.le_of_ble_eq_true rfl) rfl ?_
  refine zJ.iload (pc := 1400) 4 dL_law_1400 rfl ?_
  refine zJ.if_eq (pc := 1402) (tgt := 1484) dL_law_1402 (by decide) (fun c4 => absurd c4 (by decide)) (fun c4 => ?_)
  refine zJ.aload_n (pc := 1405) 2 dL_law_1405 rfl rfl ?_
  refine zJ.iconst (pc := 1406) (v := 3) dL_law_1406 (by decide) ?_
  refine zJ.iconst (pc := 1407) (v := 1) dL_law_1407 (by decide) ?_
  refine zJ.bipush (pc := 1408) (v := 77) dL_law_1408 (by decide) ?_
  refine zG.callVi (d := mdL_law) (pc := 1410) [.int 3, .int 1, .int 77] [] (ob_0 o) ok_0 rfl dL_law_1410 ⟨(cb_X4_store).1, (cb_X4_store).2, (Nat.le_of_ble_eq_true rfl), (Nat.le_of_ble_eq_true rfl)⟩ ml_L_125 ci_X4_store cv_X4_store rfl (Nat.le_of_ble_eq_true rfl) (Nat.le_of_ble_eq_true rfl) rfl h (fun r6 S7 h2 => ?_)
  replace h := h2
  clear h2
  obtain ⟨cN, h⟩ := h
  refine zJ.if_le (pc := 1413) (tgt := 1484) dL_law_1413 (by decide) (fun c8 => absurd c8 cN) (fun _ => ?_)
  clear cN
  refine zJ.aload_n (pc := 1416) 2 dL_law_1416 rfl rfl ?_
  refine zG.callVi (d := mdL_law) (pc := 1417) [] [] (ob_0 o) ok_0 rfl dL_law_1417 ⟨(cb_X4_back).1, (cb_X4_back).2, (Nat.le_of_ble_eq_true rfl), (Nat.le_of_ble_eq_true rfl)⟩ ml_L_135 ci_X4_back cv_X4_back rfl (Nat.le_of_ble_eq_true rfl) (Nat.le_of_ble_eq_true rfl) rfl h (fun r10 S11 h2 => ?_)
  replace h := h2
  clear h2
  refine zJ.iload (pc := 1420) 0 dL_law_1420 rfl ?_
  refine zJ.iload (pc := 1422) 0 dL_law_1422 rfl ?_
  refine zJ.bipush (pc := 1424) (v := 6) dL_law_1424 (by decide) ?_
  refine zJ.icmp_ne (pc := 1426) (tgt := 1433) dL_law_1426 (by decide) (fun c12 => ?_) (fun c12 => ?_)
  · replace h := h.1 c12
    refine zJ.iconst (pc := 1433) (v := 0) dL_law_1433 (by decide) ?_
    refine zJ.isub (pc := 1434) dL_law_1434 ?_
    obtain ⟨cN, h⟩ := h
    refine zJ.icmp_ne (pc := 1435) (tgt := 1484) dL_law_1435 (by decide) (fun c13 => absurd c13 cN) (fun _ => ?_)
    clear cN
    refine zJ.aload_n (pc := 1438) 2 dL_law_1438 rfl rfl ?_
    refine zJ.iconst (pc := 1439) (v := 0) dL_law_1439 (by decide) ?_
    refine zG.callVi (d := mdL_law) (pc := 1440) [.int 0] [] (ob_0 o) ok_0 rfl dL_law_1440 ⟨(cb_X4_often).1, (cb_X4_often).2, (Nat.le_of_ble_eq_true rfl), (Nat.le_of_ble_eq_true rfl)⟩ ml_L_74 ci_X4_often cv_X4_often rfl (Nat.le_of_ble_eq_true rfl) (Nat.le_of_ble_eq_true rfl) rfl h (fun r15 S16 h2 => ?_)
    replace h := h2
    clear h2
    refine zJ.aload_n (pc := 1443) 2 dL_law_1443 rfl rfl ?_
    refine zJ.iconst (pc := 1444) (v := 1) dL_law_1444 (by decide) ?_
    refine zG.callVi (d := mdL_law) (pc := 1445) [.int 1] [.int r15] (ob_0 o) ok_0 rfl dL_law_1445 ⟨(cb_X4_often).1, (cb_X4_often).2, (Nat.le_of_ble_eq_true rfl), (Nat.le_of_ble_eq_true rfl)⟩ ml_L_74 ci_X4_often cv_X4_often rfl (Nat.le_of_ble_eq_true rfl) (Nat.le_of_ble_eq_true rfl) rfl h (fun r18 S19 h2 => ?_)
    replace h := h2
    clear h2
    refine zJ.iadd (pc := 1448) dL_law_1448 ?_
    refine zJ.aload_n (pc := 1449) 2 dL_law_1449 rfl rfl ?_
    refine zJ.iconst (pc := 1450) (v := 2) dL_law_1450 (by decide) ?_
    refine zG.callVi (d := mdL_law) (pc := 1451) [.int 2] [.int (r15 + r18)] (ob_0 o) ok_0 rfl dL_law_1451 ⟨(cb_X4_often).1, (cb_X4_often).2, (Nat.le_of_ble_eq_true rfl), (Nat.le_of_ble_eq_true rfl)⟩ ml_L_74 ci_X4_often cv_X4_often rfl (Nat.le_of_ble_eq_true rfl) (Nat.le_of_ble_eq_true rfl) rfl h (fun r21 S22 h2 => ?_)
    replace h := h2
    clear h2
    refine zJ.iadd (pc := 1454) dL_law_1454 ?_
    refine zJ.aload_n (pc := 1455) 2 dL_law_1455 rfl rfl ?_
    refine zJ.iconst (pc := 1456) (v := 3) dL_law_1456 (by decide) ?_
    refine zG.callVi (d := mdL_law) (pc := 1457) [.int 3] [.int ((r15 + r18) + r21)] (ob_0 o) ok_0 rfl dL_law_1457 ⟨(cb_X4_often).1, (cb_X4_often).2, (Nat.le_of_ble_eq_true rfl), (Nat.le_of_ble_eq_true rfl)⟩ ml_L_74 ci_X4_often cv_X4_often rfl (Nat.le_of_ble_eq_true rfl) (Nat.le_of_ble_eq_true rfl) rfl h (fun r24 S25 h2 => ?_)
    replace h := h2
    clear h2
    refine zJ.iadd (pc := 1460) dL_law_1460 ?_
    refine zJ.iload (pc := 1461) 6 dL_law_1461 rfl ?_
    obtain ⟨cN, h⟩ := h
    refine zJ.icmp_ne (pc := 1463) (tgt := 1484) dL_law_1463 (by decide) (fun c26 => absurd c26 cN) (fun _ => ?_)
    clear cN
    refine zJ.aload_n (pc := 1466) 2 dL_law_1466 rfl rfl ?_
    refine zJ.iconst (pc := 1467) (v := 3) dL_law_1467 (by decide) ?_
    refine zJ.iconst (pc := 1468) (v := 1) dL_law_1468 (by decide) ?_
    refine zJ.iconst (pc := 1469) (v := 1) dL_law_1469 (by decide) ?_
    refine zG.callVi (d := mdL_law) (pc := 1470) [.int 3, .int 1, .int 1] [] (ob_0 o) ok_0 rfl dL_law_1470 ⟨(cb_X4_item).1, (cb_X4_item).2, (Nat.le_of_ble_eq_true rfl), (Nat.le_of_ble_eq_true rfl)⟩ ml_L_89 ci_X4_item cv_X4_item rfl (Nat.le_of_ble_eq_true rfl) (Nat.le_of_ble_eq_true rfl) rfl h (fun r28 S29 h2 => ?_)
    replace h := h2
    clear h2
    refine zJ.aload_n (pc := 1473) 3 dL_law_1473 rfl rfl ?_
    refine zJ.bipush (pc := 1474) (v := 13) dL_law_1474 (by decide) ?_
    refine zE.aldI (pc := 1476) (ia_23 o) ok_23 (by unfold vp_in; decide) dL_law_1476 ?_
    obtain ⟨cN, h⟩ := h
    refine zJ.icmp_ne (pc := 1477) (tgt := 1484) dL_law_1477 (by decide) (fun c30 => absurd c30 cN) (fun _ => ?_)
    clear cN
    refine zJ.iconst (pc := 1480) (v := 1) dL_law_1480 (by decide) ?_
    refine zJ.goto (pc := 1481) (tgt := 1485) dL_law_1481 (by decide) ?_
    refine zJ.istore (pc := 1485) (lv' := [(4, .int 1), (9, .int r2), (0, .ref o.2.2.2.2.1), (1, .ref (z_adr o (0, 0, 0))), (2, .ref (z_adr o (23, 0, 0))), (5, .int x5), (7, .int x7)]) dL_law_1485 (Nat.le_of_ble_eq_true rfl) rfl ?_
    exact zJ.sub [2, 3, 4, 0, 5] rfl h
  · replace h := h.2 c12
    refine zJ.iconst (pc := 1429) (v := 1) dL_law_1429 (by decide) ?_
    refine zJ.goto (pc := 1430) (tgt := 1434) dL_law_1430 (by decide) ?_
    refine zJ.isub (pc := 1434) dL_law_1434 ?_
    obtain ⟨cN, h⟩ := h
    refine zJ.icmp_ne (pc := 1435) (tgt := 1484) dL_law_1435 (by decide) (fun c31 => absurd c31 cN) (fun _ => ?_)
    clear cN
    refine zJ.aload_n (pc := 1438) 2 dL_law_1438 rfl rfl ?_
    refine zJ.iconst (pc := 1439) (v := 0) dL_law_1439 (by decide) ?_
    refine zG.callVi (d := mdL_law) (pc := 1440) [.int 0] [] (ob_0 o) ok_0 rfl dL_law_1440 ⟨(cb_X4_often).1, (cb_X4_often).2, (Nat.le_of_ble_eq_true rfl), (Nat.le_of_ble_eq_true rfl)⟩ ml_L_74 ci_X4_often cv_X4_often rfl (Nat.le_of_ble_eq_true rfl) (Nat.le_of_ble_eq_true rfl) rfl h (fun r33 S34 h2 => ?_)
    replace h := h2
    clear h2
    refine zJ.aload_n (pc := 1443) 2 dL_law_1443 rfl rfl ?_
    refine zJ.iconst (pc := 1444) (v := 1) dL_law_1444 (by decide) ?_
    refine zG.callVi (d := mdL_law) (pc := 1445) [.int 1] [.int r33] (ob_0 o) ok_0 rfl dL_law_1445 ⟨(cb_X4_often).1, (cb_X4_often).2, (Nat.le_of_ble_eq_true rfl), (Nat.le_of_ble_eq_true rfl)⟩ ml_L_74 ci_X4_often cv_X4_often rfl (Nat.le_of_ble_eq_true rfl) (Nat.le_of_ble_eq_true rfl) rfl h (fun r36 S37 h2 => ?_)
    replace h := h2
    clear h2
    refine zJ.iadd (pc := 1448) dL_law_1448 ?_
    refine zJ.aload_n (pc := 1449) 2 dL_law_1449 rfl rfl ?_
    refine zJ.iconst (pc := 1450) (v := 2) dL_law_1450 (by decide) ?_
    refine zG.callVi (d := mdL_law) (pc := 1451) [.int 2] [.int (r33 + r36)] (ob_0 o) ok_0 rfl dL_law_1451 ⟨(cb_X4_often).1, (cb_X4_often).2, (Nat.le_of_ble_eq_true rfl), (Nat.le_of_ble_eq_true rfl)⟩ ml_L_74 ci_X4_often cv_X4_often rfl (Nat.le_of_ble_eq_true rfl) (Nat.le_of_ble_eq_true rfl) rfl h (fun r39 S40 h2 => ?_)
    replace h := h2
    clear h2
    refine zJ.iadd (pc := 1454) dL_law_1454 ?_
    refine zJ.aload_n (pc := 1455) 2 dL_law_1455 rfl rfl ?_
    refine zJ.iconst (pc := 1456) (v := 3) dL_law_1456 (by decide) ?_
    refine zG.callVi (d := mdL_law) (pc := 1457) [.int 3] [.int ((r33 + r36) + r39)] (ob_0 o) ok_0 rfl dL_law_1457 ⟨(cb_X4_often).1, (cb_X4_often).2, (Nat.le_of_ble_eq_true rfl), (Nat.le_of_ble_eq_true rfl)⟩ ml_L_74 ci_X4_often cv_X4_often rfl (Nat.le_of_ble_eq_true rfl) (Nat.le_of_ble_eq_true rfl) rfl h (fun r42 S43 h2 => ?_)
    replace h := h2
    clear h2
    refine zJ.iadd (pc := 1460) dL_law_1460 ?_
    refine zJ.iload (pc := 1461) 6 dL_law_1461 rfl ?_
    obtain ⟨cN, h⟩ := h
    refine zJ.icmp_ne (pc := 1463) (tgt := 1484) dL_law_1463 (by decide) (fun c44 => absurd c44 cN) (fun _ => ?_)
    clear cN
    refine zJ.aload_n (pc := 1466) 2 dL_law_1466 rfl rfl ?_
    refine zJ.iconst (pc := 1467) (v := 3) dL_law_1467 (by decide) ?_
    refine zJ.iconst (pc := 1468) (v := 1) dL_law_1468 (by decide) ?_
    refine zJ.iconst (pc := 1469) (v := 1) dL_law_1469 (by decide) ?_
    refine zG.callVi (d := mdL_law) (pc := 1470) [.int 3, .int 1, .int 1] [] (ob_0 o) ok_0 rfl dL_law_1470 ⟨(cb_X4_item).1, (cb_X4_item).2, (Nat.le_of_ble_eq_true rfl), (Nat.le_of_ble_eq_true rfl)⟩ ml_L_89 ci_X4_item cv_X4_item rfl (Nat.le_of_ble_eq_true rfl) (Nat.le_of_ble_eq_true rfl) rfl h (fun r46 S47 h2 => ?_)
    replace h := h2
    clear h2
    refine zJ.aload_n (pc := 1473) 3 dL_law_1473 rfl rfl ?_
    refine zJ.bipush (pc := 1474) (v := 13) dL_law_1474 (by decide) ?_
    refine zE.aldI (pc := 1476) (ia_23 o) ok_23 (by unfold vp_in; decide) dL_law_1476 ?_
    obtain ⟨cN, h⟩ := h
    refine zJ.icmp_ne (pc := 1477) (tgt := 1484) dL_law_1477 (by decide) (fun c48 => absurd c48 cN) (fun _ => ?_)
    clear cN
    refine zJ.iconst (pc := 1480) (v := 1) dL_law_1480 (by decide) ?_
    refine zJ.goto (pc := 1481) (tgt := 1485) dL_law_1481 (by decide) ?_
    refine zJ.istore (pc := 1485) (lv' := [(4, .int 1), (9, .int r2), (0, .ref o.2.2.2.2.1), (1, .ref (z_adr o (0, 0, 0))), (2, .ref (z_adr o (23, 0, 0))), (5, .int x5), (7, .int x7)]) dL_law_1485 (Nat.le_of_ble_eq_true rfl) rfl ?_
    exact zJ.sub [2, 3, 4, 0, 5] rfl h
