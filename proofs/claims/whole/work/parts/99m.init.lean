/-! the objects being made -/
theorem lay_S (k : Nat) (h1 : 1 ≤ k) (h2 : k ≤ 4) (i : Nat) : z_lay (k, i, 0) = z_sb i + (k - 1) := by
  simp only [z_lay]
  rw [if_neg (by omega), if_pos (by omega)]
theorem lay_B (k : Nat) (h1 : 5 ≤ k) (h2 : k ≤ 11) (i b : Nat) : z_lay (k, i, b) = z_sb i + 4 + 7 * b + (k - 5) := by
  simp only [z_lay]
  rw [if_neg (by omega), if_neg (by omega), if_pos (by omega)]
theorem lay_L (k : Nat) (h1 : 12 ≤ k) (h2 : k ≤ 15) (i : Nat) : z_lay (k, i, 0) = z_sb i + 116 + (k - 12) := by
  simp only [z_lay]
  rw [if_neg (by omega), if_neg (by omega), if_neg (by omega), if_pos (by omega)]
theorem ok_mk {n : Nat} {k : zK} (h : z_ok 994 k) (h2 : z_lay k < n) : z_ok n k := ⟨h2, h.2⟩
def zz (S : zS) (q : zK) : Prop := S.1 q = (fun _ => 0) ∧ S.2.1 q = (fun _ => 0) ∧ S.2.2 q = (fun _ => 0)
theorem flc_X0_9 : Cond.fieldLink "LateLines$Box" 9 "LateLines$Box" "number" "I" ∈ lw_tbl := List.mem_of_getElem? (i := 113) (by decide +kernel)
theorem flc_X0_15 : Cond.fieldLink "LateLines$Box" 15 "LateLines$Box" "far" "[I" ∈ lw_tbl := List.mem_of_getElem? (i := 116) (by decide +kernel)
theorem flc_X0_19 : Cond.fieldLink "LateLines$Box" 19 "LateLines$Box" "held" "[I" ∈ lw_tbl := List.mem_of_getElem? (i := 118) (by decide +kernel)
theorem flc_X0_22 : Cond.fieldLink "LateLines$Box" 22 "LateLines$Box" "askItem" "[I" ∈ lw_tbl := List.mem_of_getElem? (i := 119) (by decide +kernel)
theorem flc_X0_25 : Cond.fieldLink "LateLines$Box" 25 "LateLines$Box" "askValue" "[I" ∈ lw_tbl := List.mem_of_getElem? (i := 121) (by decide +kernel)
theorem flc_X0_28 : Cond.fieldLink "LateLines$Box" 28 "LateLines$Box" "askLoad" "[I" ∈ lw_tbl := List.mem_of_getElem? (i := 123) (by decide +kernel)
theorem flc_X0_31 : Cond.fieldLink "LateLines$Box" 31 "LateLines$Box" "askTick" "[I" ∈ lw_tbl := List.mem_of_getElem? (i := 125) (by decide +kernel)
theorem flc_X1_9 : Cond.fieldLink "LateLines$Loads" 9 "LateLines$Loads" "gave" "[I" ∈ lw_tbl := List.mem_of_getElem? (i := 172) (by decide +kernel)
theorem flc_X1_15 : Cond.fieldLink "LateLines$Loads" 15 "LateLines$Loads" "waited" "[I" ∈ lw_tbl := List.mem_of_getElem? (i := 174) (by decide +kernel)
theorem flc_X1_18 : Cond.fieldLink "LateLines$Loads" 18 "LateLines$Loads" "began" "[I" ∈ lw_tbl := List.mem_of_getElem? (i := 176) (by decide +kernel)
theorem flc_X3_9 : Cond.fieldLink "LateLines$Text" 9 "LateLines$Text" "bytes" "[I" ∈ lw_tbl := List.mem_of_getElem? (i := 256) (by decide +kernel)
theorem flc_X3_15 : Cond.fieldLink "LateLines$Text" 15 "LateLines$Text" "orderBox" "[I" ∈ lw_tbl := List.mem_of_getElem? (i := 258) (by decide +kernel)
theorem flc_X3_18 : Cond.fieldLink "LateLines$Text" 18 "LateLines$Text" "orderItem" "[I" ∈ lw_tbl := List.mem_of_getElem? (i := 260) (by decide +kernel)
theorem flc_X3_21 : Cond.fieldLink "LateLines$Text" 21 "LateLines$Text" "orderNumber" "[I" ∈ lw_tbl := List.mem_of_getElem? (i := 262) (by decide +kernel)
theorem flc_X5_1 : Cond.fieldLink "LateLinesModel" 1 "LateLinesModel" "refused" "[I" ∈ lw_tbl := List.mem_of_getElem? (i := 633) (by decide +kernel)
theorem flc_X5_13 : Cond.fieldLink "LateLinesModel" 13 "LateLinesModel" "told" "[I" ∈ lw_tbl := List.mem_of_getElem? (i := 634) (by decide +kernel)
theorem flc_X5_16 : Cond.fieldLink "LateLinesModel" 16 "LateLinesModel" "far" "[I" ∈ lw_tbl := List.mem_of_getElem? (i := 635) (by decide +kernel)
theorem flc_X5_19 : Cond.fieldLink "LateLinesModel" 19 "LateLinesModel" "items" "[I" ∈ lw_tbl := List.mem_of_getElem? (i := 636) (by decide +kernel)
theorem flc_X5_22 : Cond.fieldLink "LateLinesModel" 22 "LateLinesModel" "changed" "[I" ∈ lw_tbl := List.mem_of_getElem? (i := 637) (by decide +kernel)
theorem flc_X5_25 : Cond.fieldLink "LateLinesModel" 25 "LateLinesModel" "where" "[I" ∈ lw_tbl := List.mem_of_getElem? (i := 638) (by decide +kernel)
theorem flc_X5_28 : Cond.fieldLink "LateLinesModel" 28 "LateLinesModel" "due" "[I" ∈ lw_tbl := List.mem_of_getElem? (i := 639) (by decide +kernel)
theorem flc_X5_31 : Cond.fieldLink "LateLinesModel" 31 "LateLinesModel" "rowMany" "[I" ∈ lw_tbl := List.mem_of_getElem? (i := 640) (by decide +kernel)
theorem flc_X5_34 : Cond.fieldLink "LateLinesModel" 34 "LateLinesModel" "rowBox" "[I" ∈ lw_tbl := List.mem_of_getElem? (i := 641) (by decide +kernel)
theorem flc_X5_37 : Cond.fieldLink "LateLinesModel" 37 "LateLinesModel" "fetch" "[I" ∈ lw_tbl := List.mem_of_getElem? (i := 642) (by decide +kernel)
theorem flc_X5_40 : Cond.fieldLink "LateLinesModel" 40 "LateLinesModel" "askMany" "[I" ∈ lw_tbl := List.mem_of_getElem? (i := 643) (by decide +kernel)
theorem flc_X5_43 : Cond.fieldLink "LateLinesModel" 43 "LateLinesModel" "askItem" "[I" ∈ lw_tbl := List.mem_of_getElem? (i := 644) (by decide +kernel)
theorem flc_X5_46 : Cond.fieldLink "LateLinesModel" 46 "LateLinesModel" "askValue" "[I" ∈ lw_tbl := List.mem_of_getElem? (i := 645) (by decide +kernel)
theorem flc_X5_49 : Cond.fieldLink "LateLinesModel" 49 "LateLinesModel" "askTick" "[I" ∈ lw_tbl := List.mem_of_getElem? (i := 646) (by decide +kernel)
theorem flc_X5_52 : Cond.fieldLink "LateLinesModel" 52 "LateLinesModel" "askLoad" "[I" ∈ lw_tbl := List.mem_of_getElem? (i := 647) (by decide +kernel)
theorem flc_X5_55 : Cond.fieldLink "LateLinesModel" 55 "LateLinesModel" "many" "[I" ∈ lw_tbl := List.mem_of_getElem? (i := 648) (by decide +kernel)
theorem flc_X5_58 : Cond.fieldLink "LateLinesModel" 58 "LateLinesModel" "often" "[I" ∈ lw_tbl := List.mem_of_getElem? (i := 649) (by decide +kernel)
theorem flc_X5_61 : Cond.fieldLink "LateLinesModel" 61 "LateLinesModel" "loadGot" "[I" ∈ lw_tbl := List.mem_of_getElem? (i := 650) (by decide +kernel)
theorem flc_X5_64 : Cond.fieldLink "LateLinesModel" 64 "LateLinesModel" "loadWait" "[I" ∈ lw_tbl := List.mem_of_getElem? (i := 651) (by decide +kernel)
theorem flc_X5_67 : Cond.fieldLink "LateLinesModel" 67 "LateLinesModel" "loadTick" "[I" ∈ lw_tbl := List.mem_of_getElem? (i := 652) (by decide +kernel)
theorem flc_X5_70 : Cond.fieldLink "LateLinesModel" 70 "LateLinesModel" "kept" "[I" ∈ lw_tbl := List.mem_of_getElem? (i := 657) (by decide +kernel)
theorem flc_X5_73 : Cond.fieldLink "LateLinesModel" 73 "LateLinesModel" "keptCost" "[F" ∈ lw_tbl := List.mem_of_getElem? (i := 658) (by decide +kernel)
theorem flc_X5_77 : Cond.fieldLink "LateLinesModel" 77 "LateLinesModel" "keptWaits" "[J" ∈ lw_tbl := List.mem_of_getElem? (i := 659) (by decide +kernel)
theorem flc_X5_81 : Cond.fieldLink "LateLinesModel" 81 "LateLinesModel" "keptSquares" "[J" ∈ lw_tbl := List.mem_of_getElem? (i := 660) (by decide +kernel)
theorem flc_X5_84 : Cond.fieldLink "LateLinesModel" 84 "LateLinesModel" "text" "[I" ∈ lw_tbl := List.mem_of_getElem? (i := 662) (by decide +kernel)
theorem zJ.wk {o : zW} {d : zD} {pc : Nat} {lv : List (Nat × Value)} {st : List Value} {M : zM} {mc ms mc' ms' : Nat} {Q : Option Value → zM → Prop} (h1 : mc' ≤ mc) (h2 : ms' ≤ ms) (h : zJ o d pc lv st M mc' ms' Q) : zJ o d pc lv st M mc ms Q := by
  intro p l e R s m args below meth c tc ts Z hR C E H locs cells slots ls k1 k2 k3 k4
  exact h p l e R s m args below meth c tc ts Z hR C E H locs cells slots ls k1 k2 k3 ⟨by omega, by omega⟩
section ZC
variable {o : zW} {X : zK → Option va_E} {S : zS} {mc ms i b : Nat}
theorem sp_initB (hX : ∀ k, 5 ≤ k → k ≤ 11 → X (k, i, b) = none) (hS : ∀ k, 5 ≤ k → k ≤ 11 → zz S (k, i, b)) (hi : i < 8) (hb : b < 16) : zJ o mdX0_init 0 (lv_args 0 [.ref (z_adr o (5, i, b)), .int (nI b)]) [] (z_sb i + 4 + 7 * b + 1, zP o (zX X (5, i, b) (some (.inr (0, [.int 0, .null, .null, .null, .null, .null, .null, .int 0, .int 0, .int 0, .int 0, .int 0])))) S) (mc + 6) (ms + 24) (fun r M => r = none ∧ M = (z_sb i + 4 + 7 * b + 7, zP o X S)) := by
  have hfin : z_enc o S (5, i, b) = .inr (0, [.int (nI b), .ref (z_adr o (6, i, b)), .ref (z_adr o (7, i, b)), .ref (z_adr o (8, i, b)), .ref (z_adr o (9, i, b)), .ref (z_adr o (10, i, b)), .ref (z_adr o (11, i, b)), .int 0, .int 0, .int 0, .int 0, .int 0]) := by
    show z_ent o (5, i, b) (S.1 _) (S.2.1 _) (S.2.2 _) = _
    rw [(hS 5 (by decide) (by decide)).1]
    rfl
  have e5 := lay_B 5 (by decide) (by decide) i b
  have e6 := lay_B 6 (by decide) (by decide) i b
  have e7 := lay_B 7 (by decide) (by decide) i b
  have e8 := lay_B 8 (by decide) (by decide) i b
  have e9 := lay_B 9 (by decide) (by decide) i b
  have e10 := lay_B 10 (by decide) (by decide) i b
  have e11 := lay_B 11 (by decide) (by decide) i b
  show zJ o mdX0_init 0 [(0, .ref (z_adr o (5, i, b))), (1, .int (nI b))] [] _ _ _ _
  refine zJ.aload_n (pc := 0) 0 dX0_init_0 rfl rfl ?_
  refine zJ.objInit (pc := 1) ml_X0_3 oi_i oi_c (Nat.le_of_ble_eq_true rfl) (Nat.le_of_ble_eq_true rfl) dX0_init_1 ?_
  refine zJ.aload_n (pc := 4) 0 dX0_init_4 rfl rfl ?_
  refine zJ.iload_n (pc := 5) 1 dX0_init_5 rfl rfl ?_
  refine zO.putc (pc := 6) (zX X (5, i, b) (some (.inr (0, [.int (nI b), .null, .null, .null, .null, .null, .null, .int 0, .int 0, .int 0, .int 0, .int 0])))) kiX0 0 (by decide) flc_X0_9 dX0_init_6 (ok_mk (ok_5 hi hb (z_sb_le hi)) (by omega)) (zX_s _ _ _) rfl rfl rfl rfl rfl (Nat.le_of_ble_eq_true rfl) (zX_X _ _ _ _) ?_
  refine zJ.aload_n (pc := 9) 0 dX0_init_9 rfl rfl ?_
  refine zJ.iconst (pc := 10) (v := 4) dX0_init_10 (by decide) ?_
  refine zO.newi (pc := 11) (N' := 4) (k := (6, i, b)) dX0_init_11 (by decide) (show Int32.toNatClampNeg 4 = 4 from rfl) (by decide) (ia_6 o i b) ((zX_o _ (by simp)).trans (hX 6 (by decide) (by decide))) (hS 6 (by decide) (by decide)).1 (ok_6 hi hb (z_sb_le hi)) (by omega) ?_
  refine zO.putc (pc := 13) (zX X (5, i, b) (some (.inr (0, [.int (nI b), .ref (z_adr o (6, i, b)), .null, .null, .null, .null, .null, .int 0, .int 0, .int 0, .int 0, .int 0])))) kiX0 1 (by decide) flc_X0_15 dX0_init_13 (ok_mk (ok_5 hi hb (z_sb_le hi)) (by omega)) (zX_s _ _ _) rfl rfl rfl rfl rfl (Nat.le_of_ble_eq_true rfl) (zX_X _ _ _ _) ?_
  refine zJ.aload_n (pc := 16) 0 dX0_init_16 rfl rfl ?_
  refine zJ.iconst (pc := 17) (v := 4) dX0_init_17 (by decide) ?_
  refine zO.newi (pc := 18) (N' := 4) (k := (7, i, b)) dX0_init_18 (by decide) (show Int32.toNatClampNeg 4 = 4 from rfl) (by decide) (ia_7 o i b) ((zX_o _ (by simp)).trans (hX 7 (by decide) (by decide))) (hS 7 (by decide) (by decide)).1 (ok_7 hi hb (z_sb_le hi)) (by omega) ?_
  refine zO.putc (pc := 20) (zX X (5, i, b) (some (.inr (0, [.int (nI b), .ref (z_adr o (6, i, b)), .ref (z_adr o (7, i, b)), .null, .null, .null, .null, .int 0, .int 0, .int 0, .int 0, .int 0])))) kiX0 2 (by decide) flc_X0_19 dX0_init_20 (ok_mk (ok_5 hi hb (z_sb_le hi)) (by omega)) (zX_s _ _ _) rfl rfl rfl rfl rfl (Nat.le_of_ble_eq_true rfl) (zX_X _ _ _ _) ?_
  refine zJ.aload_n (pc := 23) 0 dX0_init_23 rfl rfl ?_
  refine zJ.iconst (pc := 24) (v := 4) dX0_init_24 (by decide) ?_
  refine zO.newi (pc := 25) (N' := 4) (k := (8, i, b)) dX0_init_25 (by decide) (show Int32.toNatClampNeg 4 = 4 from rfl) (by decide) (ia_8 o i b) ((zX_o _ (by simp)).trans (hX 8 (by decide) (by decide))) (hS 8 (by decide) (by decide)).1 (ok_8 hi hb (z_sb_le hi)) (by omega) ?_
  refine zO.putc (pc := 27) (zX X (5, i, b) (some (.inr (0, [.int (nI b), .ref (z_adr o (6, i, b)), .ref (z_adr o (7, i, b)), .ref (z_adr o (8, i, b)), .null, .null, .null, .int 0, .int 0, .int 0, .int 0, .int 0])))) kiX0 3 (by decide) flc_X0_22 dX0_init_27 (ok_mk (ok_5 hi hb (z_sb_le hi)) (by omega)) (zX_s _ _ _) rfl rfl rfl rfl rfl (Nat.le_of_ble_eq_true rfl) (zX_X _ _ _ _) ?_
  refine zJ.aload_n (pc := 30) 0 dX0_init_30 rfl rfl ?_
  refine zJ.iconst (pc := 31) (v := 4) dX0_init_31 (by decide) ?_
  refine zO.newi (pc := 32) (N' := 4) (k := (9, i, b)) dX0_init_32 (by decide) (show Int32.toNatClampNeg 4 = 4 from rfl) (by decide) (ia_9 o i b) ((zX_o _ (by simp)).trans (hX 9 (by decide) (by decide))) (hS 9 (by decide) (by decide)).1 (ok_9 hi hb (z_sb_le hi)) (by omega) ?_
  refine zO.putc (pc := 34) (zX X (5, i, b) (some (.inr (0, [.int (nI b), .ref (z_adr o (6, i, b)), .ref (z_adr o (7, i, b)), .ref (z_adr o (8, i, b)), .ref (z_adr o (9, i, b)), .null, .null, .int 0, .int 0, .int 0, .int 0, .int 0])))) kiX0 4 (by decide) flc_X0_25 dX0_init_34 (ok_mk (ok_5 hi hb (z_sb_le hi)) (by omega)) (zX_s _ _ _) rfl rfl rfl rfl rfl (Nat.le_of_ble_eq_true rfl) (zX_X _ _ _ _) ?_
  refine zJ.aload_n (pc := 37) 0 dX0_init_37 rfl rfl ?_
  refine zJ.iconst (pc := 38) (v := 4) dX0_init_38 (by decide) ?_
  refine zO.newi (pc := 39) (N' := 4) (k := (10, i, b)) dX0_init_39 (by decide) (show Int32.toNatClampNeg 4 = 4 from rfl) (by decide) (ia_10 o i b) ((zX_o _ (by simp)).trans (hX 10 (by decide) (by decide))) (hS 10 (by decide) (by decide)).1 (ok_10 hi hb (z_sb_le hi)) (by omega) ?_
  refine zO.putc (pc := 41) (zX X (5, i, b) (some (.inr (0, [.int (nI b), .ref (z_adr o (6, i, b)), .ref (z_adr o (7, i, b)), .ref (z_adr o (8, i, b)), .ref (z_adr o (9, i, b)), .ref (z_adr o (10, i, b)), .null, .int 0, .int 0, .int 0, .int 0, .int 0])))) kiX0 5 (by decide) flc_X0_28 dX0_init_41 (ok_mk (ok_5 hi hb (z_sb_le hi)) (by omega)) (zX_s _ _ _) rfl rfl rfl rfl rfl (Nat.le_of_ble_eq_true rfl) (zX_X _ _ _ _) ?_
  refine zJ.aload_n (pc := 44) 0 dX0_init_44 rfl rfl ?_
  refine zJ.iconst (pc := 45) (v := 4) dX0_init_45 (by decide) ?_
  refine zO.newi (pc := 46) (N' := 4) (k := (11, i, b)) dX0_init_46 (by decide) (show Int32.toNatClampNeg 4 = 4 from rfl) (by decide) (ia_11 o i b) ((zX_o _ (by simp)).trans (hX 11 (by decide) (by decide))) (hS 11 (by decide) (by decide)).1 (ok_11 hi hb (z_sb_le hi)) (by omega) ?_
  refine zO.putc (pc := 48) (zX X (5, i, b) (some (.inr (0, [.int (nI b), .ref (z_adr o (6, i, b)), .ref (z_adr o (7, i, b)), .ref (z_adr o (8, i, b)), .ref (z_adr o (9, i, b)), .ref (z_adr o (10, i, b)), .ref (z_adr o (11, i, b)), .int 0, .int 0, .int 0, .int 0, .int 0])))) kiX0 6 (by decide) flc_X0_31 dX0_init_48 (ok_mk (ok_5 hi hb (z_sb_le hi)) (by omega)) (zX_s _ _ _) rfl rfl rfl rfl rfl (Nat.le_of_ble_eq_true rfl) (zX_X _ _ _ _) ?_
  refine zJ.ret (r := none) (pc := 51) ⟨dX0_init_51, rfl⟩ ⟨rfl, Prod.ext (by show _ = _; omega) (zP_done (hX 5 (by decide) (by decide)) hfin)⟩
theorem sp_initL (hX : ∀ k, 12 ≤ k → k ≤ 15 → X (k, i, 0) = none) (hS : ∀ k, 12 ≤ k → k ≤ 15 → zz S (k, i, 0)) (hi : i < 8) : zJ o mdX1_init 0 (lv_args 0 [.ref (z_adr o (12, i, 0))]) [] (z_sb i + 117, zP o (zX X (12, i, 0) (some (.inr (1, [.null, .null, .null, .int 0, .int 0, .int 0, .long 0, .long 0])))) S) (mc + 3) (ms + 600) (fun r M => r = none ∧ M = (z_sb i + 120, zP o X S)) := by
  have hfin : z_enc o S (12, i, 0) = .inr (1, [.ref (z_adr o (13, i, 0)), .ref (z_adr o (14, i, 0)), .ref (z_adr o (15, i, 0)), .int 0, .int 0, .int 0, .long 0, .long 0]) := by
    show z_ent o (12, i, 0) (S.1 _) (S.2.1 _) (S.2.2 _) = _
    rw [(hS 12 (by decide) (by decide)).1, (hS 12 (by decide) (by decide)).2.1]
    rfl
  have e12 := lay_L 12 (by decide) (by decide) i
  have e13 := lay_L 13 (by decide) (by decide) i
  have e14 := lay_L 14 (by decide) (by decide) i
  have e15 := lay_L 15 (by decide) (by decide) i
  show zJ o mdX1_init 0 [(0, .ref (z_adr o (12, i, 0)))] [] _ _ _ _
  refine zJ.aload_n (pc := 0) 0 dX1_init_0 rfl rfl ?_
  refine zJ.objInit (pc := 1) ml_X1_3 oi_i oi_c (Nat.le_of_ble_eq_true rfl) (Nat.le_of_ble_eq_true rfl) dX1_init_1 ?_
  refine zJ.aload_n (pc := 4) 0 dX1_init_4 rfl rfl ?_
  refine zJ.sipush (pc := 5) (v := 200) dX1_init_5 (by decide) ?_
  refine zO.newi (pc := 8) (N' := 200) (k := (13, i, 0)) dX1_init_8 (by decide) (show Int32.toNatClampNeg 200 = 200 from rfl) (by decide) (ia_13 o i) ((zX_o _ (by simp)).trans (hX 13 (by decide) (by decide))) (hS 13 (by decide) (by decide)).1 (ok_13 hi (z_sb_le hi)) (by omega) ?_
  refine zO.putc (pc := 10) (zX X (12, i, 0) (some (.inr (1, [.ref (z_adr o (13, i, 0)), .null, .null, .int 0, .int 0, .int 0, .long 0, .long 0])))) kiX1 0 (by decide) flc_X1_9 dX1_init_10 (ok_mk (ok_12 hi (z_sb_le hi)) (by omega)) (zX_s _ _ _) rfl rfl rfl rfl rfl (Nat.le_of_ble_eq_true rfl) (zX_X _ _ _ _) ?_
  refine zJ.aload_n (pc := 13) 0 dX1_init_13 rfl rfl ?_
  refine zJ.sipush (pc := 14) (v := 200) dX1_init_14 (by decide) ?_
  refine zO.newi (pc := 17) (N' := 200) (k := (14, i, 0)) dX1_init_17 (by decide) (show Int32.toNatClampNeg 200 = 200 from rfl) (by decide) (ia_14 o i) ((zX_o _ (by simp)).trans (hX 14 (by decide) (by decide))) (hS 14 (by decide) (by decide)).1 (ok_14 hi (z_sb_le hi)) (by omega) ?_
  refine zO.putc (pc := 19) (zX X (12, i, 0) (some (.inr (1, [.ref (z_adr o (13, i, 0)), .ref (z_adr o (14, i, 0)), .null, .int 0, .int 0, .int 0, .long 0, .long 0])))) kiX1 1 (by decide) flc_X1_15 dX1_init_19 (ok_mk (ok_12 hi (z_sb_le hi)) (by omega)) (zX_s _ _ _) rfl rfl rfl rfl rfl (Nat.le_of_ble_eq_true rfl) (zX_X _ _ _ _) ?_
  refine zJ.aload_n (pc := 22) 0 dX1_init_22 rfl rfl ?_
  refine zJ.sipush (pc := 23) (v := 200) dX1_init_23 (by decide) ?_
  refine zO.newi (pc := 26) (N' := 200) (k := (15, i, 0)) dX1_init_26 (by decide) (show Int32.toNatClampNeg 200 = 200 from rfl) (by decide) (ia_15 o i) ((zX_o _ (by simp)).trans (hX 15 (by decide) (by decide))) (hS 15 (by decide) (by decide)).1 (ok_15 hi (z_sb_le hi)) (by omega) ?_
  refine zO.putc (pc := 28) (zX X (12, i, 0) (some (.inr (1, [.ref (z_adr o (13, i, 0)), .ref (z_adr o (14, i, 0)), .ref (z_adr o (15, i, 0)), .int 0, .int 0, .int 0, .long 0, .long 0])))) kiX1 2 (by decide) flc_X1_18 dX1_init_28 (ok_mk (ok_12 hi (z_sb_le hi)) (by omega)) (zX_s _ _ _) rfl rfl rfl rfl rfl (Nat.le_of_ble_eq_true rfl) (zX_X _ _ _ _) ?_
  refine zJ.ret (r := none) (pc := 31) ⟨dX1_init_31, rfl⟩ ⟨rfl, Prod.ext (by show _ = _; omega) (zP_done (hX 12 (by decide) (by decide)) hfin)⟩
theorem sp_initT (hX : ∀ k, 16 ≤ k → k ≤ 20 → X (k, 0, 0) = none) (hS : ∀ k, 16 ≤ k → k ≤ 20 → zz S (k, 0, 0)) : zJ o mdX3_init 0 (lv_args 0 [.ref (z_adr o (16, 0, 0))]) [] (963, zP o (zX X (16, 0, 0) (some (.inr (3, [.null, .null, .null, .null, .int 0, .int 0, .int 0, .int 0])))) S) (mc + 4) (ms + 300) (fun r M => r = none ∧ M = (967, zP o X S)) := by
  have hfin : z_enc o S (16, 0, 0) = .inr (3, [.ref (z_adr o (17, 0, 0)), .ref (z_adr o (18, 0, 0)), .ref (z_adr o (19, 0, 0)), .ref (z_adr o (20, 0, 0)), .int 0, .int 0, .int 0, .int 0]) := by
    show z_ent o (16, 0, 0) (S.1 _) (S.2.1 _) (S.2.2 _) = _
    rw [(hS 16 (by decide) (by decide)).1]
    rfl
  have e16 : z_lay (16, 0, 0) = 962 := rfl
  have e17 : z_lay (17, 0, 0) = 963 := rfl
  have e18 : z_lay (18, 0, 0) = 964 := rfl
  have e19 : z_lay (19, 0, 0) = 965 := rfl
  have e20 : z_lay (20, 0, 0) = 966 := rfl
  show zJ o mdX3_init 0 [(0, .ref (z_adr o (16, 0, 0)))] [] _ _ _ _
  refine zJ.aload_n (pc := 0) 0 dX3_init_0 rfl rfl ?_
  refine zJ.objInit (pc := 1) ml_X3_3 oi_i oi_c (Nat.le_of_ble_eq_true rfl) (Nat.le_of_ble_eq_true rfl) dX3_init_1 ?_
  refine zJ.aload_n (pc := 4) 0 dX3_init_4 rfl rfl ?_
  refine zJ.bipush (pc := 5) (v := 120) dX3_init_5 (by decide) ?_
  refine zO.newi (pc := 7) (N' := 120) (k := (17, 0, 0)) dX3_init_7 (by decide) (show Int32.toNatClampNeg 120 = 120 from rfl) (by decide) (ia_17 o) ((zX_o _ (by simp)).trans (hX 17 (by decide) (by decide))) (hS 17 (by decide) (by decide)).1 ok_17 (by omega) ?_
  refine zO.putc (pc := 9) (zX X (16, 0, 0) (some (.inr (3, [.ref (z_adr o (17, 0, 0)), .null, .null, .null, .int 0, .int 0, .int 0, .int 0])))) kiX3 0 (by decide) flc_X3_9 dX3_init_9 (ok_mk ok_16 (by omega)) (zX_s _ _ _) rfl rfl rfl rfl rfl (Nat.le_of_ble_eq_true rfl) (zX_X _ _ _ _) ?_
  refine zJ.aload_n (pc := 12) 0 dX3_init_12 rfl rfl ?_
  refine zJ.bipush (pc := 13) (v := 60) dX3_init_13 (by decide) ?_
  refine zO.newi (pc := 15) (N' := 60) (k := (18, 0, 0)) dX3_init_15 (by decide) (show Int32.toNatClampNeg 60 = 60 from rfl) (by decide) (ia_18 o) ((zX_o _ (by simp)).trans (hX 18 (by decide) (by decide))) (hS 18 (by decide) (by decide)).1 ok_18 (by omega) ?_
  refine zO.putc (pc := 17) (zX X (16, 0, 0) (some (.inr (3, [.ref (z_adr o (17, 0, 0)), .ref (z_adr o (18, 0, 0)), .null, .null, .int 0, .int 0, .int 0, .int 0])))) kiX3 1 (by decide) flc_X3_15 dX3_init_17 (ok_mk ok_16 (by omega)) (zX_s _ _ _) rfl rfl rfl rfl rfl (Nat.le_of_ble_eq_true rfl) (zX_X _ _ _ _) ?_
  refine zJ.aload_n (pc := 20) 0 dX3_init_20 rfl rfl ?_
  refine zJ.bipush (pc := 21) (v := 60) dX3_init_21 (by decide) ?_
  refine zO.newi (pc := 23) (N' := 60) (k := (19, 0, 0)) dX3_init_23 (by decide) (show Int32.toNatClampNeg 60 = 60 from rfl) (by decide) (ia_19 o) ((zX_o _ (by simp)).trans (hX 19 (by decide) (by decide))) (hS 19 (by decide) (by decide)).1 ok_19 (by omega) ?_
  refine zO.putc (pc := 25) (zX X (16, 0, 0) (some (.inr (3, [.ref (z_adr o (17, 0, 0)), .ref (z_adr o (18, 0, 0)), .ref (z_adr o (19, 0, 0)), .null, .int 0, .int 0, .int 0, .int 0])))) kiX3 2 (by decide) flc_X3_18 dX3_init_25 (ok_mk ok_16 (by omega)) (zX_s _ _ _) rfl rfl rfl rfl rfl (Nat.le_of_ble_eq_true rfl) (zX_X _ _ _ _) ?_
  refine zJ.aload_n (pc := 28) 0 dX3_init_28 rfl rfl ?_
  refine zJ.bipush (pc := 29) (v := 60) dX3_init_29 (by decide) ?_
  refine zO.newi (pc := 31) (N' := 60) (k := (20, 0, 0)) dX3_init_31 (by decide) (show Int32.toNatClampNeg 60 = 60 from rfl) (by decide) (ia_20 o) ((zX_o _ (by simp)).trans (hX 20 (by decide) (by decide))) (hS 20 (by decide) (by decide)).1 ok_20 (by omega) ?_
  refine zO.putc (pc := 33) (zX X (16, 0, 0) (some (.inr (3, [.ref (z_adr o (17, 0, 0)), .ref (z_adr o (18, 0, 0)), .ref (z_adr o (19, 0, 0)), .ref (z_adr o (20, 0, 0)), .int 0, .int 0, .int 0, .int 0])))) kiX3 3 (by decide) flc_X3_21 dX3_init_33 (ok_mk ok_16 (by omega)) (zX_s _ _ _) rfl rfl rfl rfl rfl (Nat.le_of_ble_eq_true rfl) (zX_X _ _ _ _) ?_
  refine zJ.ret (r := none) (pc := 36) ⟨dX3_init_36, rfl⟩ ⟨rfl, Prod.ext (by show _ = _; omega) (zP_done (hX 16 (by decide) (by decide)) hfin)⟩
theorem sp_initM (hX : ∀ k, 23 ≤ k → k ≤ 48 → X (k, 0, 0) = none) (hS : ∀ k, 23 ≤ k → k ≤ 48 → zz S (k, 0, 0)) {Q : Option Value → zM → Prop} (K : zJ o mdX5_init 204 [(0, .ref (z_adr o (23, 0, 0)))] [.ref (z_adr o (23, 0, 0))] (994, zP o X S) mc ms Q) : zJ o mdX5_init 0 (lv_args 0 [.ref (z_adr o (23, 0, 0))]) [] (969, zP o (zX X (23, 0, 0) (some (.inr (5, [.null, .null, .null, .null, .null, .null, .null, .null, .null, .null, .null, .null, .null, .null, .null, .null, .null, .null, .null, .null, .float 0, .long 0, .long 0, .int 0, .null, .null, .null, .null, .int 0, .null, .int 0, .int 0, .int 0, .int 0])))) S) (mc + 25) (ms + 11000) Q := by
  have hfin : z_enc o S (23, 0, 0) = .inr (5, [.ref (z_adr o (24, 0, 0)), .ref (z_adr o (25, 0, 0)), .ref (z_adr o (26, 0, 0)), .ref (z_adr o (27, 0, 0)), .ref (z_adr o (28, 0, 0)), .ref (z_adr o (29, 0, 0)), .ref (z_adr o (30, 0, 0)), .ref (z_adr o (31, 0, 0)), .ref (z_adr o (32, 0, 0)), .ref (z_adr o (33, 0, 0)), .ref (z_adr o (34, 0, 0)), .ref (z_adr o (35, 0, 0)), .ref (z_adr o (36, 0, 0)), .ref (z_adr o (37, 0, 0)), .ref (z_adr o (38, 0, 0)), .ref (z_adr o (39, 0, 0)), .ref (z_adr o (40, 0, 0)), .ref (z_adr o (41, 0, 0)), .ref (z_adr o (42, 0, 0)), .ref (z_adr o (43, 0, 0)), .float 0, .long 0, .long 0, .int 0, .ref (z_adr o (44, 0, 0)), .ref (z_adr o (45, 0, 0)), .ref (z_adr o (46, 0, 0)), .ref (z_adr o (47, 0, 0)), .int 0, .ref (z_adr o (48, 0, 0)), .int 0, .int 0, .int 0, .int 0]) := by
    show z_ent o (23, 0, 0) (S.1 _) (S.2.1 _) (S.2.2 _) = _
    rw [(hS 23 (by decide) (by decide)).1, (hS 23 (by decide) (by decide)).2.1, (hS 23 (by decide) (by decide)).2.2]
    rfl
  have e23 : z_lay (23, 0, 0) = 968 := rfl
  have e24 : z_lay (24, 0, 0) = 969 := rfl
  have e25 : z_lay (25, 0, 0) = 970 := rfl
  have e26 : z_lay (26, 0, 0) = 971 := rfl
  have e27 : z_lay (27, 0, 0) = 972 := rfl
  have e28 : z_lay (28, 0, 0) = 973 := rfl
  have e29 : z_lay (29, 0, 0) = 974 := rfl
  have e30 : z_lay (30, 0, 0) = 975 := rfl
  have e31 : z_lay (31, 0, 0) = 976 := rfl
  have e32 : z_lay (32, 0, 0) = 977 := rfl
  have e33 : z_lay (33, 0, 0) = 978 := rfl
  have e34 : z_lay (34, 0, 0) = 979 := rfl
  have e35 : z_lay (35, 0, 0) = 980 := rfl
  have e36 : z_lay (36, 0, 0) = 981 := rfl
  have e37 : z_lay (37, 0, 0) = 982 := rfl
  have e38 : z_lay (38, 0, 0) = 983 := rfl
  have e39 : z_lay (39, 0, 0) = 984 := rfl
  have e40 : z_lay (40, 0, 0) = 985 := rfl
  have e41 : z_lay (41, 0, 0) = 986 := rfl
  have e42 : z_lay (42, 0, 0) = 987 := rfl
  have e43 : z_lay (43, 0, 0) = 988 := rfl
  have e44 : z_lay (44, 0, 0) = 989 := rfl
  have e45 : z_lay (45, 0, 0) = 990 := rfl
  have e46 : z_lay (46, 0, 0) = 991 := rfl
  have e47 : z_lay (47, 0, 0) = 992 := rfl
  have e48 : z_lay (48, 0, 0) = 993 := rfl
  show zJ o mdX5_init 0 [(0, .ref (z_adr o (23, 0, 0)))] [] _ _ _ _
  refine zJ.aload_n (pc := 0) 0 dX5_init_0 rfl rfl ?_
  refine zJ.objInit (pc := 1) ml_X5_7 oi_i oi_c (Nat.le_of_ble_eq_true rfl) (Nat.le_of_ble_eq_true rfl) dX5_init_1 ?_
  refine zJ.aload_n (pc := 4) 0 dX5_init_4 rfl rfl ?_
  refine zJ.iconst (pc := 5) (v := 3) dX5_init_5 (by decide) ?_
  refine zJ.wk (mc' := mc + 24 + 1) (ms' := ms + 10327 + 3) (by omega) (by omega) ?_
  refine zO.newi (pc := 6) (mc := mc + 24) (ms := ms + 10327) (N' := 3) (k := (24, 0, 0)) dX5_init_6 (by decide) (show Int32.toNatClampNeg 3 = 3 from rfl) (by decide) (ia_24 o) ((zX_o _ (by simp)).trans (hX 24 (by decide) (by decide))) (hS 24 (by decide) (by decide)).1 ok_24 (by omega) ?_
  refine zO.putc (pc := 8) (zX X (23, 0, 0) (some (.inr (5, [.ref (z_adr o (24, 0, 0)), .null, .null, .null, .null, .null, .null, .null, .null, .null, .null, .null, .null, .null, .null, .null, .null, .null, .null, .null, .float 0, .long 0, .long 0, .int 0, .null, .null, .null, .null, .int 0, .null, .int 0, .int 0, .int 0, .int 0])))) kiX5 0 (by decide) flc_X5_1 dX5_init_8 (ok_mk ok_23 (by omega)) (zX_s _ _ _) rfl rfl rfl rfl rfl (Nat.le_of_ble_eq_true rfl) (zX_X _ _ _ _) ?_
  refine zJ.aload_n (pc := 11) 0 dX5_init_11 rfl rfl ?_
  refine zJ.iconst (pc := 12) (v := 5) dX5_init_12 (by decide) ?_
  refine zJ.wk (mc' := mc + 23 + 1) (ms' := ms + 10322 + 5) (by omega) (by omega) ?_
  refine zO.newi (pc := 13) (mc := mc + 23) (ms := ms + 10322) (N' := 5) (k := (25, 0, 0)) dX5_init_13 (by decide) (show Int32.toNatClampNeg 5 = 5 from rfl) (by decide) (ia_25 o) ((zX_o _ (by simp)).trans (hX 25 (by decide) (by decide))) (hS 25 (by decide) (by decide)).1 ok_25 (by omega) ?_
  refine zO.putc (pc := 15) (zX X (23, 0, 0) (some (.inr (5, [.ref (z_adr o (24, 0, 0)), .ref (z_adr o (25, 0, 0)), .null, .null, .null, .null, .null, .null, .null, .null, .null, .null, .null, .null, .null, .null, .null, .null, .null, .null, .float 0, .long 0, .long 0, .int 0, .null, .null, .null, .null, .int 0, .null, .int 0, .int 0, .int 0, .int 0])))) kiX5 1 (by decide) flc_X5_13 dX5_init_15 (ok_mk ok_23 (by omega)) (zX_s _ _ _) rfl rfl rfl rfl rfl (Nat.le_of_ble_eq_true rfl) (zX_X _ _ _ _) ?_
  refine zJ.aload_n (pc := 18) 0 dX5_init_18 rfl rfl ?_
  refine zJ.bipush (pc := 19) (v := 64) dX5_init_19 (by decide) ?_
  refine zJ.wk (mc' := mc + 22 + 1) (ms' := ms + 10258 + 64) (by omega) (by omega) ?_
  refine zO.newi (pc := 21) (mc := mc + 22) (ms := ms + 10258) (N' := 64) (k := (26, 0, 0)) dX5_init_21 (by decide) (show Int32.toNatClampNeg 64 = 64 from rfl) (by decide) (ia_26 o) ((zX_o _ (by simp)).trans (hX 26 (by decide) (by decide))) (hS 26 (by decide) (by decide)).1 ok_26 (by omega) ?_
  refine zO.putc (pc := 23) (zX X (23, 0, 0) (some (.inr (5, [.ref (z_adr o (24, 0, 0)), .ref (z_adr o (25, 0, 0)), .ref (z_adr o (26, 0, 0)), .null, .null, .null, .null, .null, .null, .null, .null, .null, .null, .null, .null, .null, .null, .null, .null, .null, .float 0, .long 0, .long 0, .int 0, .null, .null, .null, .null, .int 0, .null, .int 0, .int 0, .int 0, .int 0])))) kiX5 2 (by decide) flc_X5_16 dX5_init_23 (ok_mk ok_23 (by omega)) (zX_s _ _ _) rfl rfl rfl rfl rfl (Nat.le_of_ble_eq_true rfl) (zX_X _ _ _ _) ?_
  refine zJ.aload_n (pc := 26) 0 dX5_init_26 rfl rfl ?_
  refine zJ.bipush (pc := 27) (v := 64) dX5_init_27 (by decide) ?_
  refine zJ.wk (mc' := mc + 21 + 1) (ms' := ms + 10194 + 64) (by omega) (by omega) ?_
  refine zO.newi (pc := 29) (mc := mc + 21) (ms := ms + 10194) (N' := 64) (k := (27, 0, 0)) dX5_init_29 (by decide) (show Int32.toNatClampNeg 64 = 64 from rfl) (by decide) (ia_27 o) ((zX_o _ (by simp)).trans (hX 27 (by decide) (by decide))) (hS 27 (by decide) (by decide)).1 ok_27 (by omega) ?_
  refine zO.putc (pc := 31) (zX X (23, 0, 0) (some (.inr (5, [.ref (z_adr o (24, 0, 0)), .ref (z_adr o (25, 0, 0)), .ref (z_adr o (26, 0, 0)), .ref (z_adr o (27, 0, 0)), .null, .null, .null, .null, .null, .null, .null, .null, .null, .null, .null, .null, .null, .null, .null, .null, .float 0, .long 0, .long 0, .int 0, .null, .null, .null, .null, .int 0, .null, .int 0, .int 0, .int 0, .int 0])))) kiX5 3 (by decide) flc_X5_19 dX5_init_31 (ok_mk ok_23 (by omega)) (zX_s _ _ _) rfl rfl rfl rfl rfl (Nat.le_of_ble_eq_true rfl) (zX_X _ _ _ _) ?_
  refine zJ.aload_n (pc := 34) 0 dX5_init_34 rfl rfl ?_
  refine zJ.bipush (pc := 35) (v := 16) dX5_init_35 (by decide) ?_
  refine zJ.wk (mc' := mc + 20 + 1) (ms' := ms + 10178 + 16) (by omega) (by omega) ?_
  refine zO.newi (pc := 37) (mc := mc + 20) (ms := ms + 10178) (N' := 16) (k := (28, 0, 0)) dX5_init_37 (by decide) (show Int32.toNatClampNeg 16 = 16 from rfl) (by decide) (ia_28 o) ((zX_o _ (by simp)).trans (hX 28 (by decide) (by decide))) (hS 28 (by decide) (by decide)).1 ok_28 (by omega) ?_
  refine zO.putc (pc := 39) (zX X (23, 0, 0) (some (.inr (5, [.ref (z_adr o (24, 0, 0)), .ref (z_adr o (25, 0, 0)), .ref (z_adr o (26, 0, 0)), .ref (z_adr o (27, 0, 0)), .ref (z_adr o (28, 0, 0)), .null, .null, .null, .null, .null, .null, .null, .null, .null, .null, .null, .null, .null, .null, .null, .float 0, .long 0, .long 0, .int 0, .null, .null, .null, .null, .int 0, .null, .int 0, .int 0, .int 0, .int 0])))) kiX5 4 (by decide) flc_X5_22 dX5_init_39 (ok_mk ok_23 (by omega)) (zX_s _ _ _) rfl rfl rfl rfl rfl (Nat.le_of_ble_eq_true rfl) (zX_X _ _ _ _) ?_
  refine zJ.aload_n (pc := 42) 0 dX5_init_42 rfl rfl ?_
  refine zJ.bipush (pc := 43) (v := 16) dX5_init_43 (by decide) ?_
  refine zJ.wk (mc' := mc + 19 + 1) (ms' := ms + 10162 + 16) (by omega) (by omega) ?_
  refine zO.newi (pc := 45) (mc := mc + 19) (ms := ms + 10162) (N' := 16) (k := (29, 0, 0)) dX5_init_45 (by decide) (show Int32.toNatClampNeg 16 = 16 from rfl) (by decide) (ia_29 o) ((zX_o _ (by simp)).trans (hX 29 (by decide) (by decide))) (hS 29 (by decide) (by decide)).1 ok_29 (by omega) ?_
  refine zO.putc (pc := 47) (zX X (23, 0, 0) (some (.inr (5, [.ref (z_adr o (24, 0, 0)), .ref (z_adr o (25, 0, 0)), .ref (z_adr o (26, 0, 0)), .ref (z_adr o (27, 0, 0)), .ref (z_adr o (28, 0, 0)), .ref (z_adr o (29, 0, 0)), .null, .null, .null, .null, .null, .null, .null, .null, .null, .null, .null, .null, .null, .null, .float 0, .long 0, .long 0, .int 0, .null, .null, .null, .null, .int 0, .null, .int 0, .int 0, .int 0, .int 0])))) kiX5 5 (by decide) flc_X5_25 dX5_init_47 (ok_mk ok_23 (by omega)) (zX_s _ _ _) rfl rfl rfl rfl rfl (Nat.le_of_ble_eq_true rfl) (zX_X _ _ _ _) ?_
  refine zJ.aload_n (pc := 50) 0 dX5_init_50 rfl rfl ?_
  refine zJ.bipush (pc := 51) (v := 16) dX5_init_51 (by decide) ?_
  refine zJ.wk (mc' := mc + 18 + 1) (ms' := ms + 10146 + 16) (by omega) (by omega) ?_
  refine zO.newi (pc := 53) (mc := mc + 18) (ms := ms + 10146) (N' := 16) (k := (30, 0, 0)) dX5_init_53 (by decide) (show Int32.toNatClampNeg 16 = 16 from rfl) (by decide) (ia_30 o) ((zX_o _ (by simp)).trans (hX 30 (by decide) (by decide))) (hS 30 (by decide) (by decide)).1 ok_30 (by omega) ?_
  refine zO.putc (pc := 55) (zX X (23, 0, 0) (some (.inr (5, [.ref (z_adr o (24, 0, 0)), .ref (z_adr o (25, 0, 0)), .ref (z_adr o (26, 0, 0)), .ref (z_adr o (27, 0, 0)), .ref (z_adr o (28, 0, 0)), .ref (z_adr o (29, 0, 0)), .ref (z_adr o (30, 0, 0)), .null, .null, .null, .null, .null, .null, .null, .null, .null, .null, .null, .null, .null, .float 0, .long 0, .long 0, .int 0, .null, .null, .null, .null, .int 0, .null, .int 0, .int 0, .int 0, .int 0])))) kiX5 6 (by decide) flc_X5_28 dX5_init_55 (ok_mk ok_23 (by omega)) (zX_s _ _ _) rfl rfl rfl rfl rfl (Nat.le_of_ble_eq_true rfl) (zX_X _ _ _ _) ?_
  refine zJ.aload_n (pc := 58) 0 dX5_init_58 rfl rfl ?_
  refine zJ.iconst (pc := 59) (v := 4) dX5_init_59 (by decide) ?_
  refine zJ.wk (mc' := mc + 17 + 1) (ms' := ms + 10142 + 4) (by omega) (by omega) ?_
  refine zO.newi (pc := 60) (mc := mc + 17) (ms := ms + 10142) (N' := 4) (k := (31, 0, 0)) dX5_init_60 (by decide) (show Int32.toNatClampNeg 4 = 4 from rfl) (by decide) (ia_31 o) ((zX_o _ (by simp)).trans (hX 31 (by decide) (by decide))) (hS 31 (by decide) (by decide)).1 ok_31 (by omega) ?_
  refine zO.putc (pc := 62) (zX X (23, 0, 0) (some (.inr (5, [.ref (z_adr o (24, 0, 0)), .ref (z_adr o (25, 0, 0)), .ref (z_adr o (26, 0, 0)), .ref (z_adr o (27, 0, 0)), .ref (z_adr o (28, 0, 0)), .ref (z_adr o (29, 0, 0)), .ref (z_adr o (30, 0, 0)), .ref (z_adr o (31, 0, 0)), .null, .null, .null, .null, .null, .null, .null, .null, .null, .null, .null, .null, .float 0, .long 0, .long 0, .int 0, .null, .null, .null, .null, .int 0, .null, .int 0, .int 0, .int 0, .int 0])))) kiX5 7 (by decide) flc_X5_31 dX5_init_62 (ok_mk ok_23 (by omega)) (zX_s _ _ _) rfl rfl rfl rfl rfl (Nat.le_of_ble_eq_true rfl) (zX_X _ _ _ _) ?_
  refine zJ.aload_n (pc := 65) 0 dX5_init_65 rfl rfl ?_
  refine zJ.bipush (pc := 66) (v := 12) dX5_init_66 (by decide) ?_
  refine zJ.wk (mc' := mc + 16 + 1) (ms' := ms + 10130 + 12) (by omega) (by omega) ?_
  refine zO.newi (pc := 68) (mc := mc + 16) (ms := ms + 10130) (N' := 12) (k := (32, 0, 0)) dX5_init_68 (by decide) (show Int32.toNatClampNeg 12 = 12 from rfl) (by decide) (ia_32 o) ((zX_o _ (by simp)).trans (hX 32 (by decide) (by decide))) (hS 32 (by decide) (by decide)).1 ok_32 (by omega) ?_
  refine zO.putc (pc := 70) (zX X (23, 0, 0) (some (.inr (5, [.ref (z_adr o (24, 0, 0)), .ref (z_adr o (25, 0, 0)), .ref (z_adr o (26, 0, 0)), .ref (z_adr o (27, 0, 0)), .ref (z_adr o (28, 0, 0)), .ref (z_adr o (29, 0, 0)), .ref (z_adr o (30, 0, 0)), .ref (z_adr o (31, 0, 0)), .ref (z_adr o (32, 0, 0)), .null, .null, .null, .null, .null, .null, .null, .null, .null, .null, .null, .float 0, .long 0, .long 0, .int 0, .null, .null, .null, .null, .int 0, .null, .int 0, .int 0, .int 0, .int 0])))) kiX5 8 (by decide) flc_X5_34 dX5_init_70 (ok_mk ok_23 (by omega)) (zX_s _ _ _) rfl rfl rfl rfl rfl (Nat.le_of_ble_eq_true rfl) (zX_X _ _ _ _) ?_
  refine zJ.aload_n (pc := 73) 0 dX5_init_73 rfl rfl ?_
  refine zJ.iconst (pc := 74) (v := 4) dX5_init_74 (by decide) ?_
  refine zJ.wk (mc' := mc + 15 + 1) (ms' := ms + 10126 + 4) (by omega) (by omega) ?_
  refine zO.newi (pc := 75) (mc := mc + 15) (ms := ms + 10126) (N' := 4) (k := (33, 0, 0)) dX5_init_75 (by decide) (show Int32.toNatClampNeg 4 = 4 from rfl) (by decide) (ia_33 o) ((zX_o _ (by simp)).trans (hX 33 (by decide) (by decide))) (hS 33 (by decide) (by decide)).1 ok_33 (by omega) ?_
  refine zO.putc (pc := 77) (zX X (23, 0, 0) (some (.inr (5, [.ref (z_adr o (24, 0, 0)), .ref (z_adr o (25, 0, 0)), .ref (z_adr o (26, 0, 0)), .ref (z_adr o (27, 0, 0)), .ref (z_adr o (28, 0, 0)), .ref (z_adr o (29, 0, 0)), .ref (z_adr o (30, 0, 0)), .ref (z_adr o (31, 0, 0)), .ref (z_adr o (32, 0, 0)), .ref (z_adr o (33, 0, 0)), .null, .null, .null, .null, .null, .null, .null, .null, .null, .null, .float 0, .long 0, .long 0, .int 0, .null, .null, .null, .null, .int 0, .null, .int 0, .int 0, .int 0, .int 0])))) kiX5 9 (by decide) flc_X5_37 dX5_init_77 (ok_mk ok_23 (by omega)) (zX_s _ _ _) rfl rfl rfl rfl rfl (Nat.le_of_ble_eq_true rfl) (zX_X _ _ _ _) ?_
  refine zJ.aload_n (pc := 80) 0 dX5_init_80 rfl rfl ?_
  refine zJ.bipush (pc := 81) (v := 16) dX5_init_81 (by decide) ?_
  refine zJ.wk (mc' := mc + 14 + 1) (ms' := ms + 10110 + 16) (by omega) (by omega) ?_
  refine zO.newi (pc := 83) (mc := mc + 14) (ms := ms + 10110) (N' := 16) (k := (34, 0, 0)) dX5_init_83 (by decide) (show Int32.toNatClampNeg 16 = 16 from rfl) (by decide) (ia_34 o) ((zX_o _ (by simp)).trans (hX 34 (by decide) (by decide))) (hS 34 (by decide) (by decide)).1 ok_34 (by omega) ?_
  refine zO.putc (pc := 85) (zX X (23, 0, 0) (some (.inr (5, [.ref (z_adr o (24, 0, 0)), .ref (z_adr o (25, 0, 0)), .ref (z_adr o (26, 0, 0)), .ref (z_adr o (27, 0, 0)), .ref (z_adr o (28, 0, 0)), .ref (z_adr o (29, 0, 0)), .ref (z_adr o (30, 0, 0)), .ref (z_adr o (31, 0, 0)), .ref (z_adr o (32, 0, 0)), .ref (z_adr o (33, 0, 0)), .ref (z_adr o (34, 0, 0)), .null, .null, .null, .null, .null, .null, .null, .null, .null, .float 0, .long 0, .long 0, .int 0, .null, .null, .null, .null, .int 0, .null, .int 0, .int 0, .int 0, .int 0])))) kiX5 10 (by decide) flc_X5_40 dX5_init_85 (ok_mk ok_23 (by omega)) (zX_s _ _ _) rfl rfl rfl rfl rfl (Nat.le_of_ble_eq_true rfl) (zX_X _ _ _ _) ?_
  refine zJ.aload_n (pc := 88) 0 dX5_init_88 rfl rfl ?_
  refine zJ.bipush (pc := 89) (v := 64) dX5_init_89 (by decide) ?_
  refine zJ.wk (mc' := mc + 13 + 1) (ms' := ms + 10046 + 64) (by omega) (by omega) ?_
  refine zO.newi (pc := 91) (mc := mc + 13) (ms := ms + 10046) (N' := 64) (k := (35, 0, 0)) dX5_init_91 (by decide) (show Int32.toNatClampNeg 64 = 64 from rfl) (by decide) (ia_35 o) ((zX_o _ (by simp)).trans (hX 35 (by decide) (by decide))) (hS 35 (by decide) (by decide)).1 ok_35 (by omega) ?_
  refine zO.putc (pc := 93) (zX X (23, 0, 0) (some (.inr (5, [.ref (z_adr o (24, 0, 0)), .ref (z_adr o (25, 0, 0)), .ref (z_adr o (26, 0, 0)), .ref (z_adr o (27, 0, 0)), .ref (z_adr o (28, 0, 0)), .ref (z_adr o (29, 0, 0)), .ref (z_adr o (30, 0, 0)), .ref (z_adr o (31, 0, 0)), .ref (z_adr o (32, 0, 0)), .ref (z_adr o (33, 0, 0)), .ref (z_adr o (34, 0, 0)), .ref (z_adr o (35, 0, 0)), .null, .null, .null, .null, .null, .null, .null, .null, .float 0, .long 0, .long 0, .int 0, .null, .null, .null, .null, .int 0, .null, .int 0, .int 0, .int 0, .int 0])))) kiX5 11 (by decide) flc_X5_43 dX5_init_93 (ok_mk ok_23 (by omega)) (zX_s _ _ _) rfl rfl rfl rfl rfl (Nat.le_of_ble_eq_true rfl) (zX_X _ _ _ _) ?_
  refine zJ.aload_n (pc := 96) 0 dX5_init_96 rfl rfl ?_
  refine zJ.bipush (pc := 97) (v := 64) dX5_init_97 (by decide) ?_
  refine zJ.wk (mc' := mc + 12 + 1) (ms' := ms + 9982 + 64) (by omega) (by omega) ?_
  refine zO.newi (pc := 99) (mc := mc + 12) (ms := ms + 9982) (N' := 64) (k := (36, 0, 0)) dX5_init_99 (by decide) (show Int32.toNatClampNeg 64 = 64 from rfl) (by decide) (ia_36 o) ((zX_o _ (by simp)).trans (hX 36 (by decide) (by decide))) (hS 36 (by decide) (by decide)).1 ok_36 (by omega) ?_
  refine zO.putc (pc := 101) (zX X (23, 0, 0) (some (.inr (5, [.ref (z_adr o (24, 0, 0)), .ref (z_adr o (25, 0, 0)), .ref (z_adr o (26, 0, 0)), .ref (z_adr o (27, 0, 0)), .ref (z_adr o (28, 0, 0)), .ref (z_adr o (29, 0, 0)), .ref (z_adr o (30, 0, 0)), .ref (z_adr o (31, 0, 0)), .ref (z_adr o (32, 0, 0)), .ref (z_adr o (33, 0, 0)), .ref (z_adr o (34, 0, 0)), .ref (z_adr o (35, 0, 0)), .ref (z_adr o (36, 0, 0)), .null, .null, .null, .null, .null, .null, .null, .float 0, .long 0, .long 0, .int 0, .null, .null, .null, .null, .int 0, .null, .int 0, .int 0, .int 0, .int 0])))) kiX5 12 (by decide) flc_X5_46 dX5_init_101 (ok_mk ok_23 (by omega)) (zX_s _ _ _) rfl rfl rfl rfl rfl (Nat.le_of_ble_eq_true rfl) (zX_X _ _ _ _) ?_
  refine zJ.aload_n (pc := 104) 0 dX5_init_104 rfl rfl ?_
  refine zJ.bipush (pc := 105) (v := 64) dX5_init_105 (by decide) ?_
  refine zJ.wk (mc' := mc + 11 + 1) (ms' := ms + 9918 + 64) (by omega) (by omega) ?_
  refine zO.newi (pc := 107) (mc := mc + 11) (ms := ms + 9918) (N' := 64) (k := (37, 0, 0)) dX5_init_107 (by decide) (show Int32.toNatClampNeg 64 = 64 from rfl) (by decide) (ia_37 o) ((zX_o _ (by simp)).trans (hX 37 (by decide) (by decide))) (hS 37 (by decide) (by decide)).1 ok_37 (by omega) ?_
  refine zO.putc (pc := 109) (zX X (23, 0, 0) (some (.inr (5, [.ref (z_adr o (24, 0, 0)), .ref (z_adr o (25, 0, 0)), .ref (z_adr o (26, 0, 0)), .ref (z_adr o (27, 0, 0)), .ref (z_adr o (28, 0, 0)), .ref (z_adr o (29, 0, 0)), .ref (z_adr o (30, 0, 0)), .ref (z_adr o (31, 0, 0)), .ref (z_adr o (32, 0, 0)), .ref (z_adr o (33, 0, 0)), .ref (z_adr o (34, 0, 0)), .ref (z_adr o (35, 0, 0)), .ref (z_adr o (36, 0, 0)), .ref (z_adr o (37, 0, 0)), .null, .null, .null, .null, .null, .null, .float 0, .long 0, .long 0, .int 0, .null, .null, .null, .null, .int 0, .null, .int 0, .int 0, .int 0, .int 0])))) kiX5 13 (by decide) flc_X5_49 dX5_init_109 (ok_mk ok_23 (by omega)) (zX_s _ _ _) rfl rfl rfl rfl rfl (Nat.le_of_ble_eq_true rfl) (zX_X _ _ _ _) ?_
  refine zJ.aload_n (pc := 112) 0 dX5_init_112 rfl rfl ?_
  refine zJ.bipush (pc := 113) (v := 64) dX5_init_113 (by decide) ?_
  refine zJ.wk (mc' := mc + 10 + 1) (ms' := ms + 9854 + 64) (by omega) (by omega) ?_
  refine zO.newi (pc := 115) (mc := mc + 10) (ms := ms + 9854) (N' := 64) (k := (38, 0, 0)) dX5_init_115 (by decide) (show Int32.toNatClampNeg 64 = 64 from rfl) (by decide) (ia_38 o) ((zX_o _ (by simp)).trans (hX 38 (by decide) (by decide))) (hS 38 (by decide) (by decide)).1 ok_38 (by omega) ?_
  refine zO.putc (pc := 117) (zX X (23, 0, 0) (some (.inr (5, [.ref (z_adr o (24, 0, 0)), .ref (z_adr o (25, 0, 0)), .ref (z_adr o (26, 0, 0)), .ref (z_adr o (27, 0, 0)), .ref (z_adr o (28, 0, 0)), .ref (z_adr o (29, 0, 0)), .ref (z_adr o (30, 0, 0)), .ref (z_adr o (31, 0, 0)), .ref (z_adr o (32, 0, 0)), .ref (z_adr o (33, 0, 0)), .ref (z_adr o (34, 0, 0)), .ref (z_adr o (35, 0, 0)), .ref (z_adr o (36, 0, 0)), .ref (z_adr o (37, 0, 0)), .ref (z_adr o (38, 0, 0)), .null, .null, .null, .null, .null, .float 0, .long 0, .long 0, .int 0, .null, .null, .null, .null, .int 0, .null, .int 0, .int 0, .int 0, .int 0])))) kiX5 14 (by decide) flc_X5_52 dX5_init_117 (ok_mk ok_23 (by omega)) (zX_s _ _ _) rfl rfl rfl rfl rfl (Nat.le_of_ble_eq_true rfl) (zX_X _ _ _ _) ?_
  refine zJ.aload_n (pc := 120) 0 dX5_init_120 rfl rfl ?_
  refine zJ.iconst (pc := 121) (v := 3) dX5_init_121 (by decide) ?_
  refine zJ.wk (mc' := mc + 9 + 1) (ms' := ms + 9851 + 3) (by omega) (by omega) ?_
  refine zO.newi (pc := 122) (mc := mc + 9) (ms := ms + 9851) (N' := 3) (k := (39, 0, 0)) dX5_init_122 (by decide) (show Int32.toNatClampNeg 3 = 3 from rfl) (by decide) (ia_39 o) ((zX_o _ (by simp)).trans (hX 39 (by decide) (by decide))) (hS 39 (by decide) (by decide)).1 ok_39 (by omega) ?_
  refine zO.putc (pc := 124) (zX X (23, 0, 0) (some (.inr (5, [.ref (z_adr o (24, 0, 0)), .ref (z_adr o (25, 0, 0)), .ref (z_adr o (26, 0, 0)), .ref (z_adr o (27, 0, 0)), .ref (z_adr o (28, 0, 0)), .ref (z_adr o (29, 0, 0)), .ref (z_adr o (30, 0, 0)), .ref (z_adr o (31, 0, 0)), .ref (z_adr o (32, 0, 0)), .ref (z_adr o (33, 0, 0)), .ref (z_adr o (34, 0, 0)), .ref (z_adr o (35, 0, 0)), .ref (z_adr o (36, 0, 0)), .ref (z_adr o (37, 0, 0)), .ref (z_adr o (38, 0, 0)), .ref (z_adr o (39, 0, 0)), .null, .null, .null, .null, .float 0, .long 0, .long 0, .int 0, .null, .null, .null, .null, .int 0, .null, .int 0, .int 0, .int 0, .int 0])))) kiX5 15 (by decide) flc_X5_55 dX5_init_124 (ok_mk ok_23 (by omega)) (zX_s _ _ _) rfl rfl rfl rfl rfl (Nat.le_of_ble_eq_true rfl) (zX_X _ _ _ _) ?_
  refine zJ.aload_n (pc := 127) 0 dX5_init_127 rfl rfl ?_
  refine zJ.bipush (pc := 128) (v := 10) dX5_init_128 (by decide) ?_
  refine zJ.wk (mc' := mc + 8 + 1) (ms' := ms + 9841 + 10) (by omega) (by omega) ?_
  refine zO.newi (pc := 130) (mc := mc + 8) (ms := ms + 9841) (N' := 10) (k := (40, 0, 0)) dX5_init_130 (by decide) (show Int32.toNatClampNeg 10 = 10 from rfl) (by decide) (ia_40 o) ((zX_o _ (by simp)).trans (hX 40 (by decide) (by decide))) (hS 40 (by decide) (by decide)).1 ok_40 (by omega) ?_
  refine zO.putc (pc := 132) (zX X (23, 0, 0) (some (.inr (5, [.ref (z_adr o (24, 0, 0)), .ref (z_adr o (25, 0, 0)), .ref (z_adr o (26, 0, 0)), .ref (z_adr o (27, 0, 0)), .ref (z_adr o (28, 0, 0)), .ref (z_adr o (29, 0, 0)), .ref (z_adr o (30, 0, 0)), .ref (z_adr o (31, 0, 0)), .ref (z_adr o (32, 0, 0)), .ref (z_adr o (33, 0, 0)), .ref (z_adr o (34, 0, 0)), .ref (z_adr o (35, 0, 0)), .ref (z_adr o (36, 0, 0)), .ref (z_adr o (37, 0, 0)), .ref (z_adr o (38, 0, 0)), .ref (z_adr o (39, 0, 0)), .ref (z_adr o (40, 0, 0)), .null, .null, .null, .float 0, .long 0, .long 0, .int 0, .null, .null, .null, .null, .int 0, .null, .int 0, .int 0, .int 0, .int 0])))) kiX5 16 (by decide) flc_X5_58 dX5_init_132 (ok_mk ok_23 (by omega)) (zX_s _ _ _) rfl rfl rfl rfl rfl (Nat.le_of_ble_eq_true rfl) (zX_X _ _ _ _) ?_
  refine zJ.aload_n (pc := 135) 0 dX5_init_135 rfl rfl ?_
  refine zJ.sipush (pc := 136) (v := 200) dX5_init_136 (by decide) ?_
  refine zJ.wk (mc' := mc + 7 + 1) (ms' := ms + 9641 + 200) (by omega) (by omega) ?_
  refine zO.newi (pc := 139) (mc := mc + 7) (ms := ms + 9641) (N' := 200) (k := (41, 0, 0)) dX5_init_139 (by decide) (show Int32.toNatClampNeg 200 = 200 from rfl) (by decide) (ia_41 o) ((zX_o _ (by simp)).trans (hX 41 (by decide) (by decide))) (hS 41 (by decide) (by decide)).1 ok_41 (by omega) ?_
  refine zO.putc (pc := 141) (zX X (23, 0, 0) (some (.inr (5, [.ref (z_adr o (24, 0, 0)), .ref (z_adr o (25, 0, 0)), .ref (z_adr o (26, 0, 0)), .ref (z_adr o (27, 0, 0)), .ref (z_adr o (28, 0, 0)), .ref (z_adr o (29, 0, 0)), .ref (z_adr o (30, 0, 0)), .ref (z_adr o (31, 0, 0)), .ref (z_adr o (32, 0, 0)), .ref (z_adr o (33, 0, 0)), .ref (z_adr o (34, 0, 0)), .ref (z_adr o (35, 0, 0)), .ref (z_adr o (36, 0, 0)), .ref (z_adr o (37, 0, 0)), .ref (z_adr o (38, 0, 0)), .ref (z_adr o (39, 0, 0)), .ref (z_adr o (40, 0, 0)), .ref (z_adr o (41, 0, 0)), .null, .null, .float 0, .long 0, .long 0, .int 0, .null, .null, .null, .null, .int 0, .null, .int 0, .int 0, .int 0, .int 0])))) kiX5 17 (by decide) flc_X5_61 dX5_init_141 (ok_mk ok_23 (by omega)) (zX_s _ _ _) rfl rfl rfl rfl rfl (Nat.le_of_ble_eq_true rfl) (zX_X _ _ _ _) ?_
  refine zJ.aload_n (pc := 144) 0 dX5_init_144 rfl rfl ?_
  refine zJ.sipush (pc := 145) (v := 200) dX5_init_145 (by decide) ?_
  refine zJ.wk (mc' := mc + 6 + 1) (ms' := ms + 9441 + 200) (by omega) (by omega) ?_
  refine zO.newi (pc := 148) (mc := mc + 6) (ms := ms + 9441) (N' := 200) (k := (42, 0, 0)) dX5_init_148 (by decide) (show Int32.toNatClampNeg 200 = 200 from rfl) (by decide) (ia_42 o) ((zX_o _ (by simp)).trans (hX 42 (by decide) (by decide))) (hS 42 (by decide) (by decide)).1 ok_42 (by omega) ?_
  refine zO.putc (pc := 150) (zX X (23, 0, 0) (some (.inr (5, [.ref (z_adr o (24, 0, 0)), .ref (z_adr o (25, 0, 0)), .ref (z_adr o (26, 0, 0)), .ref (z_adr o (27, 0, 0)), .ref (z_adr o (28, 0, 0)), .ref (z_adr o (29, 0, 0)), .ref (z_adr o (30, 0, 0)), .ref (z_adr o (31, 0, 0)), .ref (z_adr o (32, 0, 0)), .ref (z_adr o (33, 0, 0)), .ref (z_adr o (34, 0, 0)), .ref (z_adr o (35, 0, 0)), .ref (z_adr o (36, 0, 0)), .ref (z_adr o (37, 0, 0)), .ref (z_adr o (38, 0, 0)), .ref (z_adr o (39, 0, 0)), .ref (z_adr o (40, 0, 0)), .ref (z_adr o (41, 0, 0)), .ref (z_adr o (42, 0, 0)), .null, .float 0, .long 0, .long 0, .int 0, .null, .null, .null, .null, .int 0, .null, .int 0, .int 0, .int 0, .int 0])))) kiX5 18 (by decide) flc_X5_64 dX5_init_150 (ok_mk ok_23 (by omega)) (zX_s _ _ _) rfl rfl rfl rfl rfl (Nat.le_of_ble_eq_true rfl) (zX_X _ _ _ _) ?_
  refine zJ.aload_n (pc := 153) 0 dX5_init_153 rfl rfl ?_
  refine zJ.sipush (pc := 154) (v := 200) dX5_init_154 (by decide) ?_
  refine zJ.wk (mc' := mc + 5 + 1) (ms' := ms + 9241 + 200) (by omega) (by omega) ?_
  refine zO.newi (pc := 157) (mc := mc + 5) (ms := ms + 9241) (N' := 200) (k := (43, 0, 0)) dX5_init_157 (by decide) (show Int32.toNatClampNeg 200 = 200 from rfl) (by decide) (ia_43 o) ((zX_o _ (by simp)).trans (hX 43 (by decide) (by decide))) (hS 43 (by decide) (by decide)).1 ok_43 (by omega) ?_
  refine zO.putc (pc := 159) (zX X (23, 0, 0) (some (.inr (5, [.ref (z_adr o (24, 0, 0)), .ref (z_adr o (25, 0, 0)), .ref (z_adr o (26, 0, 0)), .ref (z_adr o (27, 0, 0)), .ref (z_adr o (28, 0, 0)), .ref (z_adr o (29, 0, 0)), .ref (z_adr o (30, 0, 0)), .ref (z_adr o (31, 0, 0)), .ref (z_adr o (32, 0, 0)), .ref (z_adr o (33, 0, 0)), .ref (z_adr o (34, 0, 0)), .ref (z_adr o (35, 0, 0)), .ref (z_adr o (36, 0, 0)), .ref (z_adr o (37, 0, 0)), .ref (z_adr o (38, 0, 0)), .ref (z_adr o (39, 0, 0)), .ref (z_adr o (40, 0, 0)), .ref (z_adr o (41, 0, 0)), .ref (z_adr o (42, 0, 0)), .ref (z_adr o (43, 0, 0)), .float 0, .long 0, .long 0, .int 0, .null, .null, .null, .null, .int 0, .null, .int 0, .int 0, .int 0, .int 0])))) kiX5 19 (by decide) flc_X5_67 dX5_init_159 (ok_mk ok_23 (by omega)) (zX_s _ _ _) rfl rfl rfl rfl rfl (Nat.le_of_ble_eq_true rfl) (zX_X _ _ _ _) ?_
  refine zJ.aload_n (pc := 162) 0 dX5_init_162 rfl rfl ?_
  refine zJ.sipush (pc := 163) (v := 9100) dX5_init_163 (by decide) ?_
  refine zJ.wk (mc' := mc + 4 + 1) (ms' := ms + 141 + 9100) (by omega) (by omega) ?_
  refine zO.newi (pc := 166) (mc := mc + 4) (ms := ms + 141) (N' := 9100) (k := (44, 0, 0)) dX5_init_166 (by decide) (show Int32.toNatClampNeg 9100 = 9100 from rfl) (by decide) (ia_44 o) ((zX_o _ (by simp)).trans (hX 44 (by decide) (by decide))) (hS 44 (by decide) (by decide)).1 ok_44 (by omega) ?_
  refine zO.putc (pc := 168) (zX X (23, 0, 0) (some (.inr (5, [.ref (z_adr o (24, 0, 0)), .ref (z_adr o (25, 0, 0)), .ref (z_adr o (26, 0, 0)), .ref (z_adr o (27, 0, 0)), .ref (z_adr o (28, 0, 0)), .ref (z_adr o (29, 0, 0)), .ref (z_adr o (30, 0, 0)), .ref (z_adr o (31, 0, 0)), .ref (z_adr o (32, 0, 0)), .ref (z_adr o (33, 0, 0)), .ref (z_adr o (34, 0, 0)), .ref (z_adr o (35, 0, 0)), .ref (z_adr o (36, 0, 0)), .ref (z_adr o (37, 0, 0)), .ref (z_adr o (38, 0, 0)), .ref (z_adr o (39, 0, 0)), .ref (z_adr o (40, 0, 0)), .ref (z_adr o (41, 0, 0)), .ref (z_adr o (42, 0, 0)), .ref (z_adr o (43, 0, 0)), .float 0, .long 0, .long 0, .int 0, .ref (z_adr o (44, 0, 0)), .null, .null, .null, .int 0, .null, .int 0, .int 0, .int 0, .int 0])))) kiX5 24 (by decide) flc_X5_70 dX5_init_168 (ok_mk ok_23 (by omega)) (zX_s _ _ _) rfl rfl rfl rfl rfl (Nat.le_of_ble_eq_true rfl) (zX_X _ _ _ _) ?_
  refine zJ.aload_n (pc := 171) 0 dX5_init_171 rfl rfl ?_
  refine zJ.bipush (pc := 172) (v := 7) dX5_init_172 (by decide) ?_
  refine zJ.wk (mc' := mc + 3 + 1) (ms' := ms + 134 + 7) (by omega) (by omega) ?_
  refine zO.newf (pc := 174) (mc := mc + 3) (ms := ms + 134) (N' := 7) (k := (45, 0, 0)) dX5_init_174 (by decide) (show Int32.toNatClampNeg 7 = 7 from rfl) (by decide) (fa_45 o) ((zX_o _ (by simp)).trans (hX 45 (by decide) (by decide))) (hS 45 (by decide) (by decide)).2.2 ok_45 (by omega) ?_
  refine zO.putc (pc := 176) (zX X (23, 0, 0) (some (.inr (5, [.ref (z_adr o (24, 0, 0)), .ref (z_adr o (25, 0, 0)), .ref (z_adr o (26, 0, 0)), .ref (z_adr o (27, 0, 0)), .ref (z_adr o (28, 0, 0)), .ref (z_adr o (29, 0, 0)), .ref (z_adr o (30, 0, 0)), .ref (z_adr o (31, 0, 0)), .ref (z_adr o (32, 0, 0)), .ref (z_adr o (33, 0, 0)), .ref (z_adr o (34, 0, 0)), .ref (z_adr o (35, 0, 0)), .ref (z_adr o (36, 0, 0)), .ref (z_adr o (37, 0, 0)), .ref (z_adr o (38, 0, 0)), .ref (z_adr o (39, 0, 0)), .ref (z_adr o (40, 0, 0)), .ref (z_adr o (41, 0, 0)), .ref (z_adr o (42, 0, 0)), .ref (z_adr o (43, 0, 0)), .float 0, .long 0, .long 0, .int 0, .ref (z_adr o (44, 0, 0)), .ref (z_adr o (45, 0, 0)), .null, .null, .int 0, .null, .int 0, .int 0, .int 0, .int 0])))) kiX5 25 (by decide) flc_X5_73 dX5_init_176 (ok_mk ok_23 (by omega)) (zX_s _ _ _) rfl rfl rfl rfl rfl (Nat.le_of_ble_eq_true rfl) (zX_X _ _ _ _) ?_
  refine zJ.aload_n (pc := 179) 0 dX5_init_179 rfl rfl ?_
  refine zJ.bipush (pc := 180) (v := 7) dX5_init_180 (by decide) ?_
  refine zJ.wk (mc' := mc + 2 + 1) (ms' := ms + 127 + 7) (by omega) (by omega) ?_
  refine zO.newl (pc := 182) (mc := mc + 2) (ms := ms + 127) (N' := 7) (k := (46, 0, 0)) dX5_init_182 (by decide) (show Int32.toNatClampNeg 7 = 7 from rfl) (by decide) (la_46 o) ((zX_o _ (by simp)).trans (hX 46 (by decide) (by decide))) (hS 46 (by decide) (by decide)).2.1 ok_46 (by omega) ?_
  refine zO.putc (pc := 184) (zX X (23, 0, 0) (some (.inr (5, [.ref (z_adr o (24, 0, 0)), .ref (z_adr o (25, 0, 0)), .ref (z_adr o (26, 0, 0)), .ref (z_adr o (27, 0, 0)), .ref (z_adr o (28, 0, 0)), .ref (z_adr o (29, 0, 0)), .ref (z_adr o (30, 0, 0)), .ref (z_adr o (31, 0, 0)), .ref (z_adr o (32, 0, 0)), .ref (z_adr o (33, 0, 0)), .ref (z_adr o (34, 0, 0)), .ref (z_adr o (35, 0, 0)), .ref (z_adr o (36, 0, 0)), .ref (z_adr o (37, 0, 0)), .ref (z_adr o (38, 0, 0)), .ref (z_adr o (39, 0, 0)), .ref (z_adr o (40, 0, 0)), .ref (z_adr o (41, 0, 0)), .ref (z_adr o (42, 0, 0)), .ref (z_adr o (43, 0, 0)), .float 0, .long 0, .long 0, .int 0, .ref (z_adr o (44, 0, 0)), .ref (z_adr o (45, 0, 0)), .ref (z_adr o (46, 0, 0)), .null, .int 0, .null, .int 0, .int 0, .int 0, .int 0])))) kiX5 26 (by decide) flc_X5_77 dX5_init_184 (ok_mk ok_23 (by omega)) (zX_s _ _ _) rfl rfl rfl rfl rfl (Nat.le_of_ble_eq_true rfl) (zX_X _ _ _ _) ?_
  refine zJ.aload_n (pc := 187) 0 dX5_init_187 rfl rfl ?_
  refine zJ.bipush (pc := 188) (v := 7) dX5_init_188 (by decide) ?_
  refine zJ.wk (mc' := mc + 1 + 1) (ms' := ms + 120 + 7) (by omega) (by omega) ?_
  refine zO.newl (pc := 190) (mc := mc + 1) (ms := ms + 120) (N' := 7) (k := (47, 0, 0)) dX5_init_190 (by decide) (show Int32.toNatClampNeg 7 = 7 from rfl) (by decide) (la_47 o) ((zX_o _ (by simp)).trans (hX 47 (by decide) (by decide))) (hS 47 (by decide) (by decide)).2.1 ok_47 (by omega) ?_
  refine zO.putc (pc := 192) (zX X (23, 0, 0) (some (.inr (5, [.ref (z_adr o (24, 0, 0)), .ref (z_adr o (25, 0, 0)), .ref (z_adr o (26, 0, 0)), .ref (z_adr o (27, 0, 0)), .ref (z_adr o (28, 0, 0)), .ref (z_adr o (29, 0, 0)), .ref (z_adr o (30, 0, 0)), .ref (z_adr o (31, 0, 0)), .ref (z_adr o (32, 0, 0)), .ref (z_adr o (33, 0, 0)), .ref (z_adr o (34, 0, 0)), .ref (z_adr o (35, 0, 0)), .ref (z_adr o (36, 0, 0)), .ref (z_adr o (37, 0, 0)), .ref (z_adr o (38, 0, 0)), .ref (z_adr o (39, 0, 0)), .ref (z_adr o (40, 0, 0)), .ref (z_adr o (41, 0, 0)), .ref (z_adr o (42, 0, 0)), .ref (z_adr o (43, 0, 0)), .float 0, .long 0, .long 0, .int 0, .ref (z_adr o (44, 0, 0)), .ref (z_adr o (45, 0, 0)), .ref (z_adr o (46, 0, 0)), .ref (z_adr o (47, 0, 0)), .int 0, .null, .int 0, .int 0, .int 0, .int 0])))) kiX5 27 (by decide) flc_X5_81 dX5_init_192 (ok_mk ok_23 (by omega)) (zX_s _ _ _) rfl rfl rfl rfl rfl (Nat.le_of_ble_eq_true rfl) (zX_X _ _ _ _) ?_
  refine zJ.aload_n (pc := 195) 0 dX5_init_195 rfl rfl ?_
  refine zJ.bipush (pc := 196) (v := 120) dX5_init_196 (by decide) ?_
  refine zJ.wk (mc' := mc + 0 + 1) (ms' := ms + 0 + 120) (by omega) (by omega) ?_
  refine zO.newi (pc := 198) (mc := mc + 0) (ms := ms + 0) (N' := 120) (k := (48, 0, 0)) dX5_init_198 (by decide) (show Int32.toNatClampNeg 120 = 120 from rfl) (by decide) (ia_48 o) ((zX_o _ (by simp)).trans (hX 48 (by decide) (by decide))) (hS 48 (by decide) (by decide)).1 ok_48 (by omega) ?_
  refine zO.putc (pc := 200) (zX X (23, 0, 0) (some (.inr (5, [.ref (z_adr o (24, 0, 0)), .ref (z_adr o (25, 0, 0)), .ref (z_adr o (26, 0, 0)), .ref (z_adr o (27, 0, 0)), .ref (z_adr o (28, 0, 0)), .ref (z_adr o (29, 0, 0)), .ref (z_adr o (30, 0, 0)), .ref (z_adr o (31, 0, 0)), .ref (z_adr o (32, 0, 0)), .ref (z_adr o (33, 0, 0)), .ref (z_adr o (34, 0, 0)), .ref (z_adr o (35, 0, 0)), .ref (z_adr o (36, 0, 0)), .ref (z_adr o (37, 0, 0)), .ref (z_adr o (38, 0, 0)), .ref (z_adr o (39, 0, 0)), .ref (z_adr o (40, 0, 0)), .ref (z_adr o (41, 0, 0)), .ref (z_adr o (42, 0, 0)), .ref (z_adr o (43, 0, 0)), .float 0, .long 0, .long 0, .int 0, .ref (z_adr o (44, 0, 0)), .ref (z_adr o (45, 0, 0)), .ref (z_adr o (46, 0, 0)), .ref (z_adr o (47, 0, 0)), .int 0, .ref (z_adr o (48, 0, 0)), .int 0, .int 0, .int 0, .int 0])))) kiX5 29 (by decide) flc_X5_84 dX5_init_200 (ok_mk ok_23 (by omega)) (zX_s _ _ _) rfl rfl rfl rfl rfl (Nat.le_of_ble_eq_true rfl) (zX_X _ _ _ _) ?_
  refine zJ.aload_n (pc := 203) 0 dX5_init_203 rfl rfl ?_
  rw [zP_done (hX 23 (by decide) (by decide)) hfin]
  exact zJ.wk (by omega) (by omega) K
end ZC
