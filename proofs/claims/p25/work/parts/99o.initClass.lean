/-! the class made -/
theorem flc_X4_10 : Cond.fieldLink "LateLines" 10 "LateLines" "now" "LLateLines$State;" ∈ lw_tbl := List.mem_of_getElem? (i := 250) (by decide +kernel)
theorem flc_X4_16 : Cond.fieldLink "LateLines" 16 "LateLines" "trial" "LLateLines$State;" ∈ lw_tbl := List.mem_of_getElem? (i := 251) (by decide +kernel)
theorem flc_X4_19 : Cond.fieldLink "LateLines" 19 "LateLines" "kept" "[LLateLines$State;" ∈ lw_tbl := List.mem_of_getElem? (i := 252) (by decide +kernel)
theorem flc_X4_26 : Cond.fieldLink "LateLines" 26 "LateLines" "text" "LLateLines$Text;" ∈ lw_tbl := List.mem_of_getElem? (i := 253) (by decide +kernel)
theorem flc_X4_30 : Cond.fieldLink "LateLines" 30 "LateLines" "refused" "[I" ∈ lw_tbl := List.mem_of_getElem? (i := 254) (by decide +kernel)
theorem D2_ok : ∀ j, j < 9 → defaultValue (tyX2 j) = vp_V [.null, .null, .null, .null, .float 0, .int 0, .int 0, .int 0, .int 0] j
  | 0, _ => rfl
  | 1, _ => rfl
  | 2, _ => rfl
  | 3, _ => rfl
  | 4, _ => rfl
  | 5, _ => rfl
  | 6, _ => rfl
  | 7, _ => rfl
  | 8, _ => rfl
  | j + 9, h => absurd h (by omega)
theorem D3_ok : ∀ j, j < 8 → defaultValue (tyX3 j) = vp_V [.null, .null, .null, .null, .int 0, .int 0, .int 0, .int 0] j
  | 0, _ => rfl
  | 1, _ => rfl
  | 2, _ => rfl
  | 3, _ => rfl
  | 4, _ => rfl
  | 5, _ => rfl
  | 6, _ => rfl
  | 7, _ => rfl
  | j + 8, h => absurd h (by omega)
theorem D4_ok : ∀ j, j < 7 → defaultValue (tyX4 j) = vp_V [.null, .null, .null, .null, .null, .int 0, .int 0] j
  | 0, _ => rfl
  | 1, _ => rfl
  | 2, _ => rfl
  | 3, _ => rfl
  | 4, _ => rfl
  | 5, _ => rfl
  | 6, _ => rfl
  | j + 7, h => absurd h (by omega)
def kps (o : zW) (b : Nat) : va_E := .inl (o.2.2.1 4, 6, .inr (.inr (.inr (.inr (fun j => if j < b ∨ 6 ≤ j then some (z_adr o (1, j + 2, 0)) else none)))))
theorem kps_s (o : zW) (b : Nat) : (.inl (o.2.2.1 4, 6, .inr (.inr (.inr (.inr (va_up (fun j => if j < b ∨ 6 ≤ j then some (z_adr o (1, j + 2, 0)) else none) b (some (z_adr o (1, b + 2, 0)))))))) : va_E) = kps o (b + 1) := by
  unfold kps
  have e : va_up (fun j => if j < b ∨ 6 ≤ j then some (z_adr o (1, j + 2, 0)) else none) b (some (z_adr o (1, b + 2, 0))) = fun j => if j < b + 1 ∨ 6 ≤ j then some (z_adr o (1, j + 2, 0)) else none := by
    funext j
    unfold va_up
    by_cases h : j = b
    · subst h; simp
    · have : j < b + 1 ↔ j < b := by omega
      simp [h, this]
  rw [e]
theorem kps_6 (o : zW) (S : zS) : z_enc o S (22, 0, 0) = kps o 6 := by
  show z_ent o (22, 0, 0) _ _ _ = _
  rw [z_a22]
  unfold kps
  have e : (fun j => some (z_adr o (1, j + 2, 0))) = fun j => if j < 6 ∨ 6 ≤ j then some (z_adr o (1, j + 2, 0)) else none := by
    funext j
    rw [if_pos (by omega)]
  rw [← e]
def z_ini : Nat → zS
  | 0 => (fun _ _ => 0, fun _ _ => 0, fun _ _ => 0)
  | k + 1 => stS (z_ini k) k
theorem fr_stS (S : zS) (i : Nat) : c_fr i S (stS S i) := by
  unfold stS
  refine c_fr.tr (S1 := stL S i) ?_ (fr_renew (c_fr_rf i _))
  intro q hq
  refine ⟨?_, rfl, rfl⟩
  show (if q = (2, i, 0) then _ else S.1 q) = _
  rw [if_neg]
  intro e
  subst e
  exact hq ⟨by simp, by simp, rfl⟩
theorem ini_zz (k : Nat) : ∀ q : zK, ¬ (1 ≤ q.1 ∧ q.1 ≤ 15 ∧ q.2.1 < k) → zz (z_ini k) q := by
  induction k with
  | zero => intro q _; exact ⟨rfl, rfl, rfl⟩
  | succ k ih =>
    intro q hq
    have h1 := ih q (fun hc => hq ⟨hc.1, hc.2.1, by omega⟩)
    have h2 := fr_stS (z_ini k) k q (fun hc => hq ⟨hc.1, hc.2.1, by omega⟩)
    exact ⟨h2.1.trans h1.1, h2.2.1.trans h1.2.1, h2.2.2.trans h1.2.2⟩
section ZX
variable {o : zW} {mc ms : Nat}
theorem sp_initX : zJ o mdX4_init 0 (lv_args 0 [.ref (z_adr o (0, 0, 0))]) [] (z_sb 0, zP o (zX (fun _ => none) (0, 0, 0) (some (.inr (4, [.null, .null, .null, .null, .null, .int 0, .int 0])))) (z_ini 0)) (mc + 967) (ms + 11000) (fun r M => r = none ∧ M = (968, z_enc o (z_ini 8))) := by
  have hs0 : z_sb 0 = 1 := rfl
  have hs1 : z_sb 1 = 121 := rfl
  have hs2 : z_sb 2 = 242 := rfl
  have n22 : ((22, 0, 0) : zK) ≠ (0, 0, 0) := by simp
  have n022 : ((0, 0, 0) : zK) ≠ (22, 0, 0) := by simp
  have e0 : z_lay (0, 0, 0) = 0 := rfl
  have e10 := lay_S 1 (by decide) (by decide) 0
  have e11 := lay_S 1 (by decide) (by decide) 1
  have e22 : z_lay (22, 0, 0) = 241 := rfl
  have e16 : z_lay (16, 0, 0) = 962 := rfl
  have e21 : z_lay (21, 0, 0) = 967 := rfl
  have hXs : ∀ (a : Option va_E) (i k b : Nat), 1 ≤ k → k ≤ 15 → zX (fun _ => none) (0, 0, 0) a (k, i, b) = none := fun a i k b h1 h2 => (zX_o _ (by simp; omega)).trans rfl
  show zJ o mdX4_init 0 [(0, .ref (z_adr o (0, 0, 0)))] [] _ _ _ _
  refine zJ.aload_n (pc := 0) 0 dX4_init_0 rfl rfl ?_
  refine zJ.objInit (pc := 1) ml_X4_1 oi_i oi_c (Nat.le_of_ble_eq_true rfl) (Nat.le_of_ble_eq_true rfl) dX4_init_1 ?_
  refine zJ.aload_n (pc := 4) 0 dX4_init_4 rfl rfl ?_
  refine zJ.wk (mc' := (mc + 847) + 119 + 1) (ms' := (ms + 9691) + 1300 + 9) (by omega) (by omega) ?_
  refine zO.new (pc := 5) (mc := (mc + 847) + 119) (ms := (ms + 9691) + 1300) (k := (1, 0, 0)) kiX2 (List.mem_of_getElem? (i := 58) (by decide +kernel)) (List.mem_of_getElem? (i := 59) (by decide +kernel)) (List.mem_of_getElem? (i := 44) (by decide +kernel)) dX4_init_5 D2_ok (ok_1 (by omega) (z_sb_le (by omega))) (by omega) ?_
  refine zJ.dup (pc := 8) dX4_init_8 rfl ?_
  refine zJ.callI (pc := 9) (mc1 := 0 + 119) (ms1 := 0 + 1300) (mc2 := (mc + 847)) (ms2 := (ms + 9691)) (As := []) (rest := [.ref (z_adr o (1, 0, 0)), .ref (z_adr o (0, 0, 0))]) dX4_init_9 ⟨(cb_X2_init).1, (cb_X2_init).2, (Nat.le_of_ble_eq_true rfl), (Nat.le_of_ble_eq_true rfl)⟩ ml_X4_9 ci_X2_init rfl rfl rfl (Nat.le_of_ble_eq_true rfl) (Nat.le_of_ble_eq_true rfl) _ rfl (sp_initS (i := 0) (fun k b h1 h2 => hXs _ 0 k b h1 h2) (fun k b h1 h2 => ini_zz 0 _ (by simp)) (by omega)) ⟨by omega, by omega⟩ ?_
  rintro r M ⟨rfl, rfl⟩
  refine zO.putc (pc := 12) (zX (fun _ => none) (0, 0, 0) (some (.inr (4, [.ref (z_adr o (1, 0, 0)), .null, .null, .null, .null, .int 0, .int 0])))) kiX4 0 (by decide) flc_X4_10 dX4_init_12 (ok_mk ok_0 (by omega)) (zX_s _ _ _) rfl rfl rfl rfl rfl (Nat.le_of_ble_eq_true rfl) (zX_X _ _ _ _) ?_
  rw [show z_sb 0 + 120 = z_sb 1 from rfl]
  refine zJ.aload_n (pc := 15) 0 dX4_init_15 rfl rfl ?_
  refine zJ.wk (mc' := (mc + 727) + 119 + 1) (ms' := (ms + 8382) + 1300 + 9) (by omega) (by omega) ?_
  refine zO.new (pc := 16) (mc := (mc + 727) + 119) (ms := (ms + 8382) + 1300) (k := (1, 1, 0)) kiX2 (List.mem_of_getElem? (i := 58) (by decide +kernel)) (List.mem_of_getElem? (i := 59) (by decide +kernel)) (List.mem_of_getElem? (i := 44) (by decide +kernel)) dX4_init_16 D2_ok (ok_1 (by omega) (z_sb_le (by omega))) (by omega) ?_
  refine zJ.dup (pc := 19) dX4_init_19 rfl ?_
  refine zJ.callI (pc := 20) (mc1 := 0 + 119) (ms1 := 0 + 1300) (mc2 := (mc + 727)) (ms2 := (ms + 8382)) (As := []) (rest := [.ref (z_adr o (1, 1, 0)), .ref (z_adr o (0, 0, 0))]) dX4_init_20 ⟨(cb_X2_init).1, (cb_X2_init).2, (Nat.le_of_ble_eq_true rfl), (Nat.le_of_ble_eq_true rfl)⟩ ml_X4_9 ci_X2_init rfl rfl rfl (Nat.le_of_ble_eq_true rfl) (Nat.le_of_ble_eq_true rfl) _ rfl (sp_initS (i := 1) (fun k b h1 h2 => hXs _ 1 k b h1 h2) (fun k b h1 h2 => ini_zz 1 _ (by simp)) (by omega)) ⟨by omega, by omega⟩ ?_
  rintro r M ⟨rfl, rfl⟩
  refine zO.putc (pc := 23) (zX (fun _ => none) (0, 0, 0) (some (.inr (4, [.ref (z_adr o (1, 0, 0)), .ref (z_adr o (1, 1, 0)), .null, .null, .null, .int 0, .int 0])))) kiX4 1 (by decide) flc_X4_16 dX4_init_23 (ok_mk ok_0 (by omega)) (zX_s _ _ _) rfl rfl rfl rfl rfl (Nat.le_of_ble_eq_true rfl) (zX_X _ _ _ _) ?_
  rw [show z_sb 1 + 120 = 241 from rfl]
  refine zJ.aload_n (pc := 26) 0 dX4_init_26 rfl rfl ?_
  refine zJ.bipush (pc := 27) (v := 6) dX4_init_27 (by decide) ?_
  refine zJ.wk (mc' := (mc + 726) + 1) (ms' := (ms + 8376) + 6) (by omega) (by omega) ?_
  refine zJ.newq (pc := 29) (mc := mc + 726) (ms := ms + 8376) (t0 := 4) (N' := 6) (k := (22, 0, 0)) (C0 := "LateLines$State") rfl (List.mem_of_getElem? (i := 58) (by decide +kernel)) (List.mem_of_getElem? (i := 212) (by decide +kernel)) dX4_init_29 (by decide) (show Int32.toNatClampNeg 6 = 6 from rfl) (by decide) rfl (by omega) (by omega) ?_
  rw [zP_up_s]
  refine zO.desc (k := (22, 0, 0)) (zX_s _ _ _) (x' := kps o 0) (z_arq (fun j hj => by rw [if_neg (by omega)])) ?_
  rw [zX_X]
  refine zO.putc (pc := 32) (zX (zX (fun _ => none) (0, 0, 0) (some (.inr (4, [.ref (z_adr o (1, 0, 0)), .ref (z_adr o (1, 1, 0)), .ref (z_adr o (22, 0, 0)), .null, .null, .int 0, .int 0])))) (22, 0, 0) (some (kps o 0))) kiX4 2 (by decide) flc_X4_19 dX4_init_32 (ok_mk ok_0 (by omega)) ((zX_o _ n022).trans (zX_s _ _ _)) rfl rfl rfl rfl rfl (Nat.le_of_ble_eq_true rfl) (zX_2 _ _ _ n22) ?_
  refine zJ.iconst (pc := 35) (v := 0) dX4_init_35 (by decide) ?_
  refine zJ.istore_n (pc := 36) (lv' := [(1, .int 0), (0, .ref (z_adr o (0, 0, 0)))]) dX4_init_36 rfl (Nat.le_of_ble_eq_true rfl) rfl ?_
  have key := z_down 6 (fun b => zJ o mdX4_init 37 [(1, .int (nI b)), (0, .ref (z_adr o (0, 0, 0)))] [] (z_sb (b + 2), zP o (zX (zX (fun _ => none) (0, 0, 0) (some (.inr (4, [.ref (z_adr o (1, 0, 0)), .ref (z_adr o (1, 1, 0)), .ref (z_adr o (22, 0, 0)), .null, .null, .int 0, .int 0])))) (22, 0, 0) (some (kps o b))) (z_ini (b + 2))) (mc + 6 + 120 * (6 - b)) (ms + 500 + 1309 * (6 - b)) (fun r M => r = none ∧ M = (968, z_enc o (z_ini 8)))) ?_ ?_ 0 (by omega)
  · exact zJ.wk (by omega) (by omega) key
  · refine zJ.iload_n (pc := 37) 0 dX4_init_37 rfl rfl ?_
    refine zJ.bipush (pc := 38) (v := 6) dX4_init_38 (by decide) ?_
    refine zJ.icmp_ge (pc := 40) (tgt := 62) dX4_init_40 (by decide) (fun _ => ?_) (fun hc => absurd (by decide) hc)
    refine zJ.aload_n (pc := 62) 1 dX4_init_62 rfl rfl ?_
    rw [show z_sb (6 + 2) = 962 from rfl, show 6 + 2 = 8 from rfl]
    have hz := ini_zz 8
    generalize z_ini 8 = S1 at hz ⊢
    refine zJ.wk (mc' := (mc + 1) + 4 + 1) (ms' := (ms + 3) + 300 + 8) (by omega) (by omega) ?_
    refine zO.new (pc := 63) (mc := (mc + 1) + 4) (ms := (ms + 3) + 300) (k := (16, 0, 0)) kiX3 (List.mem_of_getElem? (i := 213) (by decide +kernel)) (List.mem_of_getElem? (i := 214) (by decide +kernel)) (List.mem_of_getElem? (i := 48) (by decide +kernel)) dX4_init_63 D3_ok ok_16 (by omega) ?_
    refine zJ.dup (pc := 66) dX4_init_66 rfl ?_
    refine zJ.callI (pc := 67) (mc1 := 0 + 4) (ms1 := 0 + 300) (mc2 := mc + 1) (ms2 := ms + 3) (As := []) (rest := [.ref (z_adr o (16, 0, 0)), .ref (z_adr o (0, 0, 0))]) dX4_init_67 ⟨(cb_X3_init).1, (cb_X3_init).2, (Nat.le_of_ble_eq_true rfl), (Nat.le_of_ble_eq_true rfl)⟩ ml_X4_25 ci_X3_init rfl rfl rfl (Nat.le_of_ble_eq_true rfl) (Nat.le_of_ble_eq_true rfl) _ rfl (sp_initT (fun k h1 h2 => (zX_o _ (by simp; omega)).trans ((zX_o _ (by simp; omega)).trans rfl)) (fun k h1 h2 => hz _ (by simp; omega))) ⟨by omega, by omega⟩ ?_
    rintro r M ⟨rfl, rfl⟩
    refine zO.putc (pc := 70) (zX (zX (fun _ => none) (0, 0, 0) (some (.inr (4, [.ref (z_adr o (1, 0, 0)), .ref (z_adr o (1, 1, 0)), .ref (z_adr o (22, 0, 0)), .ref (z_adr o (16, 0, 0)), .null, .int 0, .int 0])))) (22, 0, 0) (some (kps o 6))) kiX4 3 (by decide) flc_X4_26 dX4_init_70 (ok_mk ok_0 (by omega)) ((zX_o _ n022).trans (zX_s _ _ _)) rfl rfl rfl rfl rfl (Nat.le_of_ble_eq_true rfl) (zX_2 _ _ _ n22) ?_
    refine zJ.aload_n (pc := 73) 1 dX4_init_73 rfl rfl ?_
    refine zJ.iconst (pc := 74) (v := 3) dX4_init_74 (by decide) ?_
    refine zO.newi (pc := 75) (mc := mc) (ms := ms) (N' := 3) (k := (21, 0, 0)) dX4_init_75 (by decide) (show Int32.toNatClampNeg 3 = 3 from rfl) (by decide) (ia_21 o) ((zX_o _ (by simp)).trans ((zX_o _ (by simp)).trans rfl)) (hz _ (by simp)).1 ok_21 (by omega) ?_
    refine zO.putc (pc := 77) (zX (zX (fun _ => none) (0, 0, 0) (some (.inr (4, [.ref (z_adr o (1, 0, 0)), .ref (z_adr o (1, 1, 0)), .ref (z_adr o (22, 0, 0)), .ref (z_adr o (16, 0, 0)), .ref (z_adr o (21, 0, 0)), .int 0, .int 0])))) (22, 0, 0) (some (kps o 6))) kiX4 4 (by decide) flc_X4_30 dX4_init_77 (ok_mk ok_0 (by omega)) ((zX_o _ n022).trans (zX_s _ _ _)) rfl rfl rfl rfl rfl (Nat.le_of_ble_eq_true rfl) (zX_2 _ _ _ n22) ?_
    have hfin : z_enc o S1 (0, 0, 0) = .inr (4, [.ref (z_adr o (1, 0, 0)), .ref (z_adr o (1, 1, 0)), .ref (z_adr o (22, 0, 0)), .ref (z_adr o (16, 0, 0)), .ref (z_adr o (21, 0, 0)), .int 0, .int 0]) := by
      show z_ent o (0, 0, 0) (S1.1 _) (S1.2.1 _) (S1.2.2 _) = _
      rw [(hz (0, 0, 0) (by simp)).1]
      rfl
    rw [zP_done ((zX_o _ n22).trans rfl) (kps_6 o S1), zP_done rfl hfin, zP_all]
    refine zJ.aload_n (pc := 80) 1 dX4_init_80 rfl rfl ?_
    refine zJ.iconst (pc := 81) (v := 0) dX4_init_81 (by decide) ?_
    refine zE.putI (pc := 82) (fd_0_5 o) (ok_mk ok_0 (by omega)) kiX4 (Nat.le_of_ble_eq_true rfl) fl_X4_34 rfl rfl dX4_init_82 ?_
    refine zJ.aload_n (pc := 85) 1 dX4_init_85 rfl rfl ?_
    refine zJ.iconst (pc := 86) (v := 0) dX4_init_86 (by decide) ?_
    refine zE.putI (pc := 87) (fd_0_6 o) (ok_mk ok_0 (by omega)) kiX4 (Nat.le_of_ble_eq_true rfl) fl_X4_38 rfl rfl dX4_init_87 ?_
    have eS : sI (sI S1 (0, 0, 0) 5 0) (0, 0, 0) 6 0 = S1 := by
      refine z_ext (fun q t => ?_) (fun _ _ => rfl) (fun _ _ => rfl)
      by_cases h1 : q = (0, 0, 0)
      · subst h1
        simp [sI, (hz (0, 0, 0) (by simp)).1]
      · simp [sI, h1]
    rw [eS]
    exact zJ.ret (r := none) (pc := 90) ⟨dX4_init_90, rfl⟩ ⟨rfl, rfl⟩
  · intro b hb ih
    have e1b := lay_S 1 (by decide) (by decide) (b + 2)
    have hsb : z_sb (b + 2) + 120 = z_sb (b + 1 + 2) := by
      unfold z_sb
      rw [if_neg (by omega), if_neg (by omega)]
      omega
    have hs : 242 ≤ z_sb (b + 2) := by
      unfold z_sb
      rw [if_neg (by omega)]
      omega
    have hz := ini_zz (b + 2)
    have hn3 : z_ini (b + 1 + 2) = stS (z_ini (b + 2)) (b + 2) := rfl
    rw [hn3] at ih
    generalize z_ini (b + 2) = S0 at hz ih ⊢
    refine zJ.iload_n (pc := 37) 0 dX4_init_37 rfl rfl ?_
    refine zJ.bipush (pc := 38) (v := 6) dX4_init_38 (by decide) ?_
    refine zJ.icmp_ge (pc := 40) (tgt := 62) dX4_init_40 (by decide) (fun hc => absurd hc (z_ge (a := b) (b := 6) hb (by decide))) (fun _ => ?_)
    refine zJ.aload_n (pc := 43) 1 dX4_init_43 rfl rfl ?_
    refine zJ.getf (pc := 44) kiX4 2 (by decide) fl_X4_19 dX4_init_44 (ok_mk ok_0 (by show _ < z_sb (b + 2); omega)) (show zP o (zX (zX (fun _ => none) (0, 0, 0) (some (.inr (4, [.ref (z_adr o (1, 0, 0)), .ref (z_adr o (1, 1, 0)), .ref (z_adr o (22, 0, 0)), .null, .null, .int 0, .int 0])))) (22, 0, 0) (some (kps o b))) S0 (0, 0, 0) = _ from zP_s ((zX_o _ n022).trans (zX_s _ _ _))) rfl ?_
    refine zJ.iload_n (pc := 47) 0 dX4_init_47 rfl rfl ?_
    refine zJ.wk (mc' := (mc + 6 + 120 * (6 - (b + 1))) + 119 + 1) (ms' := (ms + 500 + 1309 * (6 - (b + 1))) + 1300 + 9) (by omega) (by omega) ?_
    refine zO.new (pc := 48) (mc := (mc + 6 + 120 * (6 - (b + 1))) + 119) (ms := (ms + 500 + 1309 * (6 - (b + 1))) + 1300) (k := (1, b + 2, 0)) kiX2 (List.mem_of_getElem? (i := 58) (by decide +kernel)) (List.mem_of_getElem? (i := 59) (by decide +kernel)) (List.mem_of_getElem? (i := 44) (by decide +kernel)) dX4_init_48 D2_ok (ok_1 (by omega) (z_sb_le (by omega))) (by omega) ?_
    refine zJ.dup (pc := 51) dX4_init_51 rfl ?_
    refine zJ.callI (pc := 52) (mc1 := 0 + 119) (ms1 := 0 + 1300) (mc2 := (mc + 6 + 120 * (6 - (b + 1)))) (ms2 := (ms + 500 + 1309 * (6 - (b + 1)))) (As := []) (rest := [.ref (z_adr o (1, b + 2, 0)), .int (nI b), .ref (z_adr o (22, 0, 0))]) dX4_init_52 ⟨(cb_X2_init).1, (cb_X2_init).2, (Nat.le_of_ble_eq_true rfl), (Nat.le_of_ble_eq_true rfl)⟩ ml_X4_9 ci_X2_init rfl rfl rfl (Nat.le_of_ble_eq_true rfl) (Nat.le_of_ble_eq_true rfl) _ rfl (sp_initS (i := b + 2) (fun k b2 h1 h2 => (zX_o _ (by simp)).trans (hXs _ (b + 2) k b2 h1 h2)) (fun k b2 h1 h2 => hz _ (by simp)) (by omega)) ⟨by omega, by omega⟩ ?_
    rintro r M ⟨rfl, rfl⟩
    have hn1 : z_ok (z_sb (b + 2) + 120) (1, b + 2, 0) := ok_1 (by omega) (Nat.le_refl _)
    have hn22 : z_ok (z_sb (b + 2) + 120) (22, 0, 0) := ok_mk ok_22 (by omega)
    show zJ o mdX4_init 55 _ _ (z_sb (b + 2) + 120, zP o _ (stS S0 (b + 2))) _ _ _
    generalize stS S0 (b + 2) = S1 at ih ⊢
    obtain ⟨fs1, hf1⟩ := ob_1 o (b + 2) (S1.1 (1, b + 2, 0)) (S1.2.1 (1, b + 2, 0)) (S1.2.2 (1, b + 2, 0))
    have hev : zP o (zX (zX (fun _ => none) (0, 0, 0) (some (.inr (4, [.ref (z_adr o (1, 0, 0)), .ref (z_adr o (1, 1, 0)), .ref (z_adr o (22, 0, 0)), .null, .null, .int 0, .int 0])))) (22, 0, 0) (some (kps o b))) S1 (1, b + 2, 0) = .inr (2, fs1) := (zP_n ((zX_o _ (by simp)).trans (hXs _ _ 1 _ (by decide) (by decide)))).trans hf1
    refine zJ.aast (pc := 55) (t0 := 4) (ci := 2) (k := (22, 0, 0)) (kv := (1, b + 2, 0)) (r := (RX2, TX2, 9)) (vs := fs1) (n := 6) (f := fun j => if j < b ∨ 6 ≤ j then some (z_adr o (1, j + 2, 0)) else none) rfl rfl dX4_init_55 hn22 (show zP o (zX (zX (fun _ => none) (0, 0, 0) (some (.inr (4, [.ref (z_adr o (1, 0, 0)), .ref (z_adr o (1, 1, 0)), .ref (z_adr o (22, 0, 0)), .null, .null, .int 0, .int 0])))) (22, 0, 0) (some (kps o b))) S1 (22, 0, 0) = kps o b from zP_s (zX_s _ _ _)) hn1 hev (z_in hb (by omega)) ?_
    rw [z_cl (by omega), kps_s]
    show zJ o mdX4_init 56 _ _ (z_sb (b + 2) + 120, z_up (zP o _ S1) (22, 0, 0) (kps o (b + 1))) _ _ _
    rw [zP_up_s, zX_X, hsb]
    refine zJ.iinc (pc := 56) (k := 0) (lv' := [(1, .int (nI b + 1)), (0, .ref (z_adr o (0, 0, 0)))]) dX4_init_56 rfl rfl (Nat.le_of_ble_eq_true rfl) rfl ?_
    refine zJ.goto (pc := 59) (tgt := 37) dX4_init_59 (by decide) ?_
    rw [← nI_succ]
    exact ih
end ZX
