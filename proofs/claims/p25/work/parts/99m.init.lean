/-! the objects being made -/
theorem lay_S (k : Nat) (h1 : 1 ≤ k) (h2 : k ≤ 4) (i : Nat) : z_lay (k, i, 0) = z_sb i + (k - 1) := by
  simp only [z_lay]
  rw [if_neg (by omega), if_pos (by omega)]
theorem lay_B (k : Nat) (h1 : 5 ≤ k) (h2 : k ≤ 11) (i b : Nat) : z_lay (k, i, b) = z_sb i + 4 + 7 * b + (k - 5) := by
  simp only [z_lay]
  rw [if_neg (by omega), if_neg (by omega), if_pos (by omega)]
theorem lay_L (k : Nat) (h1 : 12 ≤ k) (h2 : k ≤ 15) (i : Nat) : z_lay (k, i, 0) = z_sb i + 116 + (k - 12) := by
  simp only [z_lay]
  rw [if_neg (by omega), if_neg (by omega), if_neg (by omega), if_pos (by omega)]
theorem ok_mk {n : Nat} {k : zK} (h : z_ok 970 k) (h2 : z_lay k < n) : z_ok n k := ⟨h2, h.2⟩
def zz (S : zS) (q : zK) : Prop := S.1 q = (fun _ => 0) ∧ S.2.1 q = (fun _ => 0) ∧ S.2.2 q = (fun _ => 0)
theorem flc_X0_9 : Cond.fieldLink "LateLines$Box" 9 "LateLines$Box" "number" "I" ∈ lw_tbl := List.mem_of_getElem? (i := 76) (by decide +kernel)
theorem flc_X0_15 : Cond.fieldLink "LateLines$Box" 15 "LateLines$Box" "far" "[I" ∈ lw_tbl := List.mem_of_getElem? (i := 79) (by decide +kernel)
theorem flc_X0_19 : Cond.fieldLink "LateLines$Box" 19 "LateLines$Box" "held" "[I" ∈ lw_tbl := List.mem_of_getElem? (i := 81) (by decide +kernel)
theorem flc_X0_22 : Cond.fieldLink "LateLines$Box" 22 "LateLines$Box" "askItem" "[I" ∈ lw_tbl := List.mem_of_getElem? (i := 82) (by decide +kernel)
theorem flc_X0_25 : Cond.fieldLink "LateLines$Box" 25 "LateLines$Box" "askValue" "[I" ∈ lw_tbl := List.mem_of_getElem? (i := 84) (by decide +kernel)
theorem flc_X0_28 : Cond.fieldLink "LateLines$Box" 28 "LateLines$Box" "askLoad" "[I" ∈ lw_tbl := List.mem_of_getElem? (i := 86) (by decide +kernel)
theorem flc_X0_31 : Cond.fieldLink "LateLines$Box" 31 "LateLines$Box" "askTick" "[I" ∈ lw_tbl := List.mem_of_getElem? (i := 88) (by decide +kernel)
theorem flc_X1_9 : Cond.fieldLink "LateLines$Loads" 9 "LateLines$Loads" "gave" "[I" ∈ lw_tbl := List.mem_of_getElem? (i := 135) (by decide +kernel)
theorem flc_X1_15 : Cond.fieldLink "LateLines$Loads" 15 "LateLines$Loads" "waited" "[I" ∈ lw_tbl := List.mem_of_getElem? (i := 137) (by decide +kernel)
theorem flc_X1_18 : Cond.fieldLink "LateLines$Loads" 18 "LateLines$Loads" "began" "[I" ∈ lw_tbl := List.mem_of_getElem? (i := 139) (by decide +kernel)
theorem flc_X3_9 : Cond.fieldLink "LateLines$Text" 9 "LateLines$Text" "bytes" "[I" ∈ lw_tbl := List.mem_of_getElem? (i := 219) (by decide +kernel)
theorem flc_X3_15 : Cond.fieldLink "LateLines$Text" 15 "LateLines$Text" "orderBox" "[I" ∈ lw_tbl := List.mem_of_getElem? (i := 221) (by decide +kernel)
theorem flc_X3_18 : Cond.fieldLink "LateLines$Text" 18 "LateLines$Text" "orderItem" "[I" ∈ lw_tbl := List.mem_of_getElem? (i := 223) (by decide +kernel)
theorem flc_X3_21 : Cond.fieldLink "LateLines$Text" 21 "LateLines$Text" "orderNumber" "[I" ∈ lw_tbl := List.mem_of_getElem? (i := 225) (by decide +kernel)
theorem zJ.wk {o : zW} {d : zD} {pc : Nat} {lv : List (Nat × Value)} {st : List Value} {M : zM} {mc ms mc' ms' : Nat} {Q : Option Value → zM → Prop} (h1 : mc' ≤ mc) (h2 : ms' ≤ ms) (h : zJ o d pc lv st M mc' ms' Q) : zJ o d pc lv st M mc ms Q := by
  intro p l e R s m args below meth c tc ts Z hR C E H locs cells slots ls k1 k2 k3 k4
  exact h p l e R s m args below meth c tc ts Z hR C E H locs cells slots ls k1 k2 k3 ⟨by omega, by omega⟩
section ZC
variable {o : zW} {X : zK → Option va_E} {S : zS} {mc ms i b : Nat}
theorem sp_initB (hX : ∀ k, 5 ≤ k → k ≤ 11 → X (k, i, b) = none) (hS : ∀ k, 5 ≤ k → k ≤ 11 → zz S (k, i, b)) (hi : i < 8) (hb : b < 16) : zJ o mdX0_init 0 (lv_args 0 [.ref (z_adr o (5, i, b)), .int (nI b)]) [] (z_sb i + 4 + 7 * b + 1, zP o (zX X (5, i, b) (some (.inr (0, [.int 0, .null, .null, .null, .null, .null, .null, .int 0, .int 0, .int 0, .int 0, .int 0])))) S) (mc + 6) (ms + 24) (fun r M => r = none ∧ M = (z_sb i + 4 + 7 * b + 7, zP o X S)) := by
  have hfin : z_enc o S (5, i, b) = .inr (0, [.int (nI b), .ref (z_adr o (6, i, b)), .ref (z_adr o (7, i, b)), .ref (z_adr o (8, i, b)), .ref (z_adr o (9, i, b)), .ref (z_adr o (10, i, b)), .ref (z_adr o (11, i, b)), .int 0, .int 0, .int 0, .int 0, .int 0]) := by
    show z_ent o (5, i, b) (S.1 _) (S.2.1 _) (S.2.2 _) = _
    rw [(hS 5 (by decide) (by decide)).1]
    rfl
  have e5 := lay_B 5 (by decide) (by decide) i b
  have e6 := lay_B 6 (by decide) (by decide) i b
  have e7 := lay_B 7 (by decide) (by decide) i b
  have e8 := lay_B 8 (by decide) (by decide) i b
  have e9 := lay_B 9 (by decide) (by decide) i b
  have e10 := lay_B 10 (by decide) (by decide) i b
  have e11 := lay_B 11 (by decide) (by decide) i b
  show zJ o mdX0_init 0 [(0, .ref (z_adr o (5, i, b))), (1, .int (nI b))] [] _ _ _ _
  refine zJ.aload_n (pc := 0) 0 dX0_init_0 rfl rfl ?_
  refine zJ.objInit (pc := 1) ml_X0_3 oi_i oi_c (Nat.le_of_ble_eq_true rfl) (Nat.le_of_ble_eq_true rfl) dX0_init_1 ?_
  refine zJ.aload_n (pc := 4) 0 dX0_init_4 rfl rfl ?_
  refine zJ.iload_n (pc := 5) 1 dX0_init_5 rfl rfl ?_
  refine zO.putc (pc := 6) (zX X (5, i, b) (some (.inr (0, [.int (nI b), .null, .null, .null, .null, .null, .null, .int 0, .int 0, .int 0, .int 0, .int 0])))) kiX0 0 (by decide) flc_X0_9 dX0_init_6 (ok_mk (ok_5 hi hb (z_sb_le hi)) (by omega)) (zX_s _ _ _) rfl rfl rfl rfl rfl (Nat.le_of_ble_eq_true rfl) (zX_X _ _ _ _) ?_
  refine zJ.aload_n (pc := 9) 0 dX0_init_9 rfl rfl ?_
  refine zJ.iconst (pc := 10) (v := 4) dX0_init_10 (by decide) ?_
  refine zO.newi (pc := 11) (N' := 4) (k := (6, i, b)) dX0_init_11 (by decide) (show Int32.toNatClampNeg 4 = 4 from rfl) (by decide) (ia_6 o i b) ((zX_o _ (by simp)).trans (hX 6 (by decide) (by decide))) (hS 6 (by decide) (by decide)).1 (ok_6 hi hb (z_sb_le hi)) (by omega) ?_
  refine zO.putc (pc := 13) (zX X (5, i, b) (some (.inr (0, [.int (nI b), .ref (z_adr o (6, i, b)), .null, .null, .null, .null, .null, .int 0, .int 0, .int 0, .int 0, .int 0])))) kiX0 1 (by decide) flc_X0_15 dX0_init_13 (ok_mk (ok_5 hi hb (z_sb_le hi)) (by omega)) (zX_s _ _ _) rfl rfl rfl rfl rfl (Nat.le_of_ble_eq_true rfl) (zX_X _ _ _ _) ?_
  refine zJ.aload_n (pc := 16) 0 dX0_init_16 rfl rfl ?_
  refine zJ.iconst (pc := 17) (v := 4) dX0_init_17 (by decide) ?_
  refine zO.newi (pc := 18) (N' := 4) (k := (7, i, b)) dX0_init_18 (by decide) (show Int32.toNatClampNeg 4 = 4 from rfl) (by decide) (ia_7 o i b) ((zX_o _ (by simp)).trans (hX 7 (by decide) (by decide))) (hS 7 (by decide) (by decide)).1 (ok_7 hi hb (z_sb_le hi)) (by omega) ?_
  refine zO.putc (pc := 20) (zX X (5, i, b) (some (.inr (0, [.int (nI b), .ref (z_adr o (6, i, b)), .ref (z_adr o (7, i, b)), .null, .null, .null, .null, .int 0, .int 0, .int 0, .int 0, .int 0])))) kiX0 2 (by decide) flc_X0_19 dX0_init_20 (ok_mk (ok_5 hi hb (z_sb_le hi)) (by omega)) (zX_s _ _ _) rfl rfl rfl rfl rfl (Nat.le_of_ble_eq_true rfl) (zX_X _ _ _ _) ?_
  refine zJ.aload_n (pc := 23) 0 dX0_init_23 rfl rfl ?_
  refine zJ.iconst (pc := 24) (v := 4) dX0_init_24 (by decide) ?_
  refine zO.newi (pc := 25) (N' := 4) (k := (8, i, b)) dX0_init_25 (by decide) (show Int32.toNatClampNeg 4 = 4 from rfl) (by decide) (ia_8 o i b) ((zX_o _ (by simp)).trans (hX 8 (by decide) (by decide))) (hS 8 (by decide) (by decide)).1 (ok_8 hi hb (z_sb_le hi)) (by omega) ?_
  refine zO.putc (pc := 27) (zX X (5, i, b) (some (.inr (0, [.int (nI b), .ref (z_adr o (6, i, b)), .ref (z_adr o (7, i, b)), .ref (z_adr o (8, i, b)), .null, .null, .null, .int 0, .int 0, .int 0, .int 0, .int 0])))) kiX0 3 (by decide) flc_X0_22 dX0_init_27 (ok_mk (ok_5 hi hb (z_sb_le hi)) (by omega)) (zX_s _ _ _) rfl rfl rfl rfl rfl (Nat.le_of_ble_eq_true rfl) (zX_X _ _ _ _) ?_
  refine zJ.aload_n (pc := 30) 0 dX0_init_30 rfl rfl ?_
  refine zJ.iconst (pc := 31) (v := 4) dX0_init_31 (by decide) ?_
  refine zO.newi (pc := 32) (N' := 4) (k := (9, i, b)) dX0_init_32 (by decide) (show Int32.toNatClampNeg 4 = 4 from rfl) (by decide) (ia_9 o i b) ((zX_o _ (by simp)).trans (hX 9 (by decide) (by decide))) (hS 9 (by decide) (by decide)).1 (ok_9 hi hb (z_sb_le hi)) (by omega) ?_
  refine zO.putc (pc := 34) (zX X (5, i, b) (some (.inr (0, [.int (nI b), .ref (z_adr o (6, i, b)), .ref (z_adr o (7, i, b)), .ref (z_adr o (8, i, b)), .ref (z_adr o (9, i, b)), .null, .null, .int 0, .int 0, .int 0, .int 0, .int 0])))) kiX0 4 (by decide) flc_X0_25 dX0_init_34 (ok_mk (ok_5 hi hb (z_sb_le hi)) (by omega)) (zX_s _ _ _) rfl rfl rfl rfl rfl (Nat.le_of_ble_eq_true rfl) (zX_X _ _ _ _) ?_
  refine zJ.aload_n (pc := 37) 0 dX0_init_37 rfl rfl ?_
  refine zJ.iconst (pc := 38) (v := 4) dX0_init_38 (by decide) ?_
  refine zO.newi (pc := 39) (N' := 4) (k := (10, i, b)) dX0_init_39 (by decide) (show Int32.toNatClampNeg 4 = 4 from rfl) (by decide) (ia_10 o i b) ((zX_o _ (by simp)).trans (hX 10 (by decide) (by decide))) (hS 10 (by decide) (by decide)).1 (ok_10 hi hb (z_sb_le hi)) (by omega) ?_
  refine zO.putc (pc := 41) (zX X (5, i, b) (some (.inr (0, [.int (nI b), .ref (z_adr o (6, i, b)), .ref (z_adr o (7, i, b)), .ref (z_adr o (8, i, b)), .ref (z_adr o (9, i, b)), .ref (z_adr o (10, i, b)), .null, .int 0, .int 0, .int 0, .int 0, .int 0])))) kiX0 5 (by decide) flc_X0_28 dX0_init_41 (ok_mk (ok_5 hi hb (z_sb_le hi)) (by omega)) (zX_s _ _ _) rfl rfl rfl rfl rfl (Nat.le_of_ble_eq_true rfl) (zX_X _ _ _ _) ?_
  refine zJ.aload_n (pc := 44) 0 dX0_init_44 rfl rfl ?_
  refine zJ.iconst (pc := 45) (v := 4) dX0_init_45 (by decide) ?_
  refine zO.newi (pc := 46) (N' := 4) (k := (11, i, b)) dX0_init_46 (by decide) (show Int32.toNatClampNeg 4 = 4 from rfl) (by decide) (ia_11 o i b) ((zX_o _ (by simp)).trans (hX 11 (by decide) (by decide))) (hS 11 (by decide) (by decide)).1 (ok_11 hi hb (z_sb_le hi)) (by omega) ?_
  refine zO.putc (pc := 48) (zX X (5, i, b) (some (.inr (0, [.int (nI b), .ref (z_adr o (6, i, b)), .ref (z_adr o (7, i, b)), .ref (z_adr o (8, i, b)), .ref (z_adr o (9, i, b)), .ref (z_adr o (10, i, b)), .ref (z_adr o (11, i, b)), .int 0, .int 0, .int 0, .int 0, .int 0])))) kiX0 6 (by decide) flc_X0_31 dX0_init_48 (ok_mk (ok_5 hi hb (z_sb_le hi)) (by omega)) (zX_s _ _ _) rfl rfl rfl rfl rfl (Nat.le_of_ble_eq_true rfl) (zX_X _ _ _ _) ?_
  refine zJ.ret (r := none) (pc := 51) ⟨dX0_init_51, rfl⟩ ⟨rfl, Prod.ext (by show _ = _; omega) (zP_done (hX 5 (by decide) (by decide)) hfin)⟩
theorem sp_initL (hX : ∀ k, 12 ≤ k → k ≤ 15 → X (k, i, 0) = none) (hS : ∀ k, 12 ≤ k → k ≤ 15 → zz S (k, i, 0)) (hi : i < 8) : zJ o mdX1_init 0 (lv_args 0 [.ref (z_adr o (12, i, 0))]) [] (z_sb i + 117, zP o (zX X (12, i, 0) (some (.inr (1, [.null, .null, .null, .int 0, .int 0, .int 0, .long 0, .long 0])))) S) (mc + 3) (ms + 600) (fun r M => r = none ∧ M = (z_sb i + 120, zP o X S)) := by
  have hfin : z_enc o S (12, i, 0) = .inr (1, [.ref (z_adr o (13, i, 0)), .ref (z_adr o (14, i, 0)), .ref (z_adr o (15, i, 0)), .int 0, .int 0, .int 0, .long 0, .long 0]) := by
    show z_ent o (12, i, 0) (S.1 _) (S.2.1 _) (S.2.2 _) = _
    rw [(hS 12 (by decide) (by decide)).1, (hS 12 (by decide) (by decide)).2.1]
    rfl
  have e12 := lay_L 12 (by decide) (by decide) i
  have e13 := lay_L 13 (by decide) (by decide) i
  have e14 := lay_L 14 (by decide) (by decide) i
  have e15 := lay_L 15 (by decide) (by decide) i
  show zJ o mdX1_init 0 [(0, .ref (z_adr o (12, i, 0)))] [] _ _ _ _
  refine zJ.aload_n (pc := 0) 0 dX1_init_0 rfl rfl ?_
  refine zJ.objInit (pc := 1) ml_X1_3 oi_i oi_c (Nat.le_of_ble_eq_true rfl) (Nat.le_of_ble_eq_true rfl) dX1_init_1 ?_
  refine zJ.aload_n (pc := 4) 0 dX1_init_4 rfl rfl ?_
  refine zJ.sipush (pc := 5) (v := 200) dX1_init_5 (by decide) ?_
  refine zO.newi (pc := 8) (N' := 200) (k := (13, i, 0)) dX1_init_8 (by decide) (show Int32.toNatClampNeg 200 = 200 from rfl) (by decide) (ia_13 o i) ((zX_o _ (by simp)).trans (hX 13 (by decide) (by decide))) (hS 13 (by decide) (by decide)).1 (ok_13 hi (z_sb_le hi)) (by omega) ?_
  refine zO.putc (pc := 10) (zX X (12, i, 0) (some (.inr (1, [.ref (z_adr o (13, i, 0)), .null, .null, .int 0, .int 0, .int 0, .long 0, .long 0])))) kiX1 0 (by decide) flc_X1_9 dX1_init_10 (ok_mk (ok_12 hi (z_sb_le hi)) (by omega)) (zX_s _ _ _) rfl rfl rfl rfl rfl (Nat.le_of_ble_eq_true rfl) (zX_X _ _ _ _) ?_
  refine zJ.aload_n (pc := 13) 0 dX1_init_13 rfl rfl ?_
  refine zJ.sipush (pc := 14) (v := 200) dX1_init_14 (by decide) ?_
  refine zO.newi (pc := 17) (N' := 200) (k := (14, i, 0)) dX1_init_17 (by decide) (show Int32.toNatClampNeg 200 = 200 from rfl) (by decide) (ia_14 o i) ((zX_o _ (by simp)).trans (hX 14 (by decide) (by decide))) (hS 14 (by decide) (by decide)).1 (ok_14 hi (z_sb_le hi)) (by omega) ?_
  refine zO.putc (pc := 19) (zX X (12, i, 0) (some (.inr (1, [.ref (z_adr o (13, i, 0)), .ref (z_adr o (14, i, 0)), .null, .int 0, .int 0, .int 0, .long 0, .long 0])))) kiX1 1 (by decide) flc_X1_15 dX1_init_19 (ok_mk (ok_12 hi (z_sb_le hi)) (by omega)) (zX_s _ _ _) rfl rfl rfl rfl rfl (Nat.le_of_ble_eq_true rfl) (zX_X _ _ _ _) ?_
  refine zJ.aload_n (pc := 22) 0 dX1_init_22 rfl rfl ?_
  refine zJ.sipush (pc := 23) (v := 200) dX1_init_23 (by decide) ?_
  refine zO.newi (pc := 26) (N' := 200) (k := (15, i, 0)) dX1_init_26 (by decide) (show Int32.toNatClampNeg 200 = 200 from rfl) (by decide) (ia_15 o i) ((zX_o _ (by simp)).trans (hX 15 (by decide) (by decide))) (hS 15 (by decide) (by decide)).1 (ok_15 hi (z_sb_le hi)) (by omega) ?_
  refine zO.putc (pc := 28) (zX X (12, i, 0) (some (.inr (1, [.ref (z_adr o (13, i, 0)), .ref (z_adr o (14, i, 0)), .ref (z_adr o (15, i, 0)), .int 0, .int 0, .int 0, .long 0, .long 0])))) kiX1 2 (by decide) flc_X1_18 dX1_init_28 (ok_mk (ok_12 hi (z_sb_le hi)) (by omega)) (zX_s _ _ _) rfl rfl rfl rfl rfl (Nat.le_of_ble_eq_true rfl) (zX_X _ _ _ _) ?_
  refine zJ.ret (r := none) (pc := 31) ⟨dX1_init_31, rfl⟩ ⟨rfl, Prod.ext (by show _ = _; omega) (zP_done (hX 12 (by decide) (by decide)) hfin)⟩
theorem sp_initT (hX : ∀ k, 16 ≤ k → k ≤ 20 → X (k, 0, 0) = none) (hS : ∀ k, 16 ≤ k → k ≤ 20 → zz S (k, 0, 0)) : zJ o mdX3_init 0 (lv_args 0 [.ref (z_adr o (16, 0, 0))]) [] (963, zP o (zX X (16, 0, 0) (some (.inr (3, [.null, .null, .null, .null, .int 0, .int 0, .int 0, .int 0])))) S) (mc + 4) (ms + 300) (fun r M => r = none ∧ M = (967, zP o X S)) := by
  have hfin : z_enc o S (16, 0, 0) = .inr (3, [.ref (z_adr o (17, 0, 0)), .ref (z_adr o (18, 0, 0)), .ref (z_adr o (19, 0, 0)), .ref (z_adr o (20, 0, 0)), .int 0, .int 0, .int 0, .int 0]) := by
    show z_ent o (16, 0, 0) (S.1 _) (S.2.1 _) (S.2.2 _) = _
    rw [(hS 16 (by decide) (by decide)).1]
    rfl
  have e16 : z_lay (16, 0, 0) = 962 := rfl
  have e17 : z_lay (17, 0, 0) = 963 := rfl
  have e18 : z_lay (18, 0, 0) = 964 := rfl
  have e19 : z_lay (19, 0, 0) = 965 := rfl
  have e20 : z_lay (20, 0, 0) = 966 := rfl
  show zJ o mdX3_init 0 [(0, .ref (z_adr o (16, 0, 0)))] [] _ _ _ _
  refine zJ.aload_n (pc := 0) 0 dX3_init_0 rfl rfl ?_
  refine zJ.objInit (pc := 1) ml_X3_3 oi_i oi_c (Nat.le_of_ble_eq_true rfl) (Nat.le_of_ble_eq_true rfl) dX3_init_1 ?_
  refine zJ.aload_n (pc := 4) 0 dX3_init_4 rfl rfl ?_
  refine zJ.bipush (pc := 5) (v := 120) dX3_init_5 (by decide) ?_
  refine zO.newi (pc := 7) (N' := 120) (k := (17, 0, 0)) dX3_init_7 (by decide) (show Int32.toNatClampNeg 120 = 120 from rfl) (by decide) (ia_17 o) ((zX_o _ (by simp)).trans (hX 17 (by decide) (by decide))) (hS 17 (by decide) (by decide)).1 ok_17 (by omega) ?_
  refine zO.putc (pc := 9) (zX X (16, 0, 0) (some (.inr (3, [.ref (z_adr o (17, 0, 0)), .null, .null, .null, .int 0, .int 0, .int 0, .int 0])))) kiX3 0 (by decide) flc_X3_9 dX3_init_9 (ok_mk ok_16 (by omega)) (zX_s _ _ _) rfl rfl rfl rfl rfl (Nat.le_of_ble_eq_true rfl) (zX_X _ _ _ _) ?_
  refine zJ.aload_n (pc := 12) 0 dX3_init_12 rfl rfl ?_
  refine zJ.bipush (pc := 13) (v := 60) dX3_init_13 (by decide) ?_
  refine zO.newi (pc := 15) (N' := 60) (k := (18, 0, 0)) dX3_init_15 (by decide) (show Int32.toNatClampNeg 60 = 60 from rfl) (by decide) (ia_18 o) ((zX_o _ (by simp)).trans (hX 18 (by decide) (by decide))) (hS 18 (by decide) (by decide)).1 ok_18 (by omega) ?_
  refine zO.putc (pc := 17) (zX X (16, 0, 0) (some (.inr (3, [.ref (z_adr o (17, 0, 0)), .ref (z_adr o (18, 0, 0)), .null, .null, .int 0, .int 0, .int 0, .int 0])))) kiX3 1 (by decide) flc_X3_15 dX3_init_17 (ok_mk ok_16 (by omega)) (zX_s _ _ _) rfl rfl rfl rfl rfl (Nat.le_of_ble_eq_true rfl) (zX_X _ _ _ _) ?_
  refine zJ.aload_n (pc := 20) 0 dX3_init_20 rfl rfl ?_
  refine zJ.bipush (pc := 21) (v := 60) dX3_init_21 (by decide) ?_
  refine zO.newi (pc := 23) (N' := 60) (k := (19, 0, 0)) dX3_init_23 (by decide) (show Int32.toNatClampNeg 60 = 60 from rfl) (by decide) (ia_19 o) ((zX_o _ (by simp)).trans (hX 19 (by decide) (by decide))) (hS 19 (by decide) (by decide)).1 ok_19 (by omega) ?_
  refine zO.putc (pc := 25) (zX X (16, 0, 0) (some (.inr (3, [.ref (z_adr o (17, 0, 0)), .ref (z_adr o (18, 0, 0)), .ref (z_adr o (19, 0, 0)), .null, .int 0, .int 0, .int 0, .int 0])))) kiX3 2 (by decide) flc_X3_18 dX3_init_25 (ok_mk ok_16 (by omega)) (zX_s _ _ _) rfl rfl rfl rfl rfl (Nat.le_of_ble_eq_true rfl) (zX_X _ _ _ _) ?_
  refine zJ.aload_n (pc := 28) 0 dX3_init_28 rfl rfl ?_
  refine zJ.bipush (pc := 29) (v := 60) dX3_init_29 (by decide) ?_
  refine zO.newi (pc := 31) (N' := 60) (k := (20, 0, 0)) dX3_init_31 (by decide) (show Int32.toNatClampNeg 60 = 60 from rfl) (by decide) (ia_20 o) ((zX_o _ (by simp)).trans (hX 20 (by decide) (by decide))) (hS 20 (by decide) (by decide)).1 ok_20 (by omega) ?_
  refine zO.putc (pc := 33) (zX X (16, 0, 0) (some (.inr (3, [.ref (z_adr o (17, 0, 0)), .ref (z_adr o (18, 0, 0)), .ref (z_adr o (19, 0, 0)), .ref (z_adr o (20, 0, 0)), .int 0, .int 0, .int 0, .int 0])))) kiX3 3 (by decide) flc_X3_21 dX3_init_33 (ok_mk ok_16 (by omega)) (zX_s _ _ _) rfl rfl rfl rfl rfl (Nat.le_of_ble_eq_true rfl) (zX_X _ _ _ _) ?_
  refine zJ.ret (r := none) (pc := 36) ⟨dX3_init_36, rfl⟩ ⟨rfl, Prod.ext (by show _ = _; omega) (zP_done (hX 16 (by decide) (by decide)) hfin)⟩
end ZC
