/-! a State made -/
def bxs (o : zW) (i b : Nat) : va_E := .inl (o.2.2.1 3, 16, .inr (.inr (.inr (.inr (fun j => if j < b ∨ 16 ≤ j then some (z_adr o (5, i, j)) else none)))))
theorem z_arq {D : va_G} {cl : List vw_C} {c : ClassId} {N : Nat} {f g : Nat → Option Nat} (h : ∀ j, j < N → f j = g j) (a : Nat) (H : Heap) (hh : va_at D cl (a, .inl (c, N, .inr (.inr (.inr (.inr f))))) H) : va_at D cl (a, .inl (c, N, .inr (.inr (.inr (.inr g))))) H := by
  have e : vp_cell c (N, .inr (.inr (.inr (.inr f)))) = vp_cell c (N, .inr (.inr (.inr (.inr g)))) := by
    rw [vp_cell_q, vp_cell_q]
    unfold arrV
    congr 1
    apply congrArg
    funext j
    show va_rf (f j.1) = va_rf (g j.1)
    rw [h j.1 j.2]
  show H[a]? = some (vp_cell c _)
  rw [← e]
  exact hh
theorem bxs_s (o : zW) (i b : Nat) : (.inl (o.2.2.1 3, 16, .inr (.inr (.inr (.inr (va_up (fun j => if j < b ∨ 16 ≤ j then some (z_adr o (5, i, j)) else none) b (some (z_adr o (5, i, b)))))))) : va_E) = bxs o i (b + 1) := by
  unfold bxs
  have e : va_up (fun j => if j < b ∨ 16 ≤ j then some (z_adr o (5, i, j)) else none) b (some (z_adr o (5, i, b))) = fun j => if j < b + 1 ∨ 16 ≤ j then some (z_adr o (5, i, j)) else none := by
    funext j
    unfold va_up
    by_cases h : j = b
    · subst h; simp
    · have : j < b + 1 ↔ j < b := by omega
      simp [h, this]
  rw [e]
theorem bxs_16 (o : zW) (S : zS) (i : Nat) : z_enc o S (4, i, 0) = bxs o i 16 := by
  show z_ent o (4, i, 0) _ _ _ = _
  rw [z_a4]
  unfold bxs
  have e : (fun j => some (z_adr o (5, i, j))) = fun j => if j < 16 ∨ 16 ≤ j then some (z_adr o (5, i, j)) else none := by
    funext j
    rw [if_pos (by omega)]
  rw [← e]
theorem z_up_A {o : zW} {S : zS} {k : zK} {N : Nat} (f : z_aI o k N) (g : Nat → Int32) : z_up (z_enc o S) k (.inl (o.2.2.1 0, N, .inl g)) = z_enc o (fun q => if q = k then g else S.1 q, S.2) := by
  funext q
  by_cases h : q = k
  · subst h
    show (if q = q then _ else _) = z_ent o q (if q = q then g else S.1 q) _ _
    rw [if_pos rfl, if_pos rfl, f]
  · show (if q = k then _ else z_ent o q _ _ _) = z_ent o q (if q = k then g else S.1 q) _ _
    rw [if_neg h, if_neg h]
/-- the limits as they are at first -/
def stL (S : zS) (i : Nat) : zS := (fun q => if q = (2, i, 0) then va_cpy (z_st 0) (S.1 (2, i, 0)) 0 0 5 else S.1 q, S.2)
def stS (S : zS) (i : Nat) : zS := c_renew (stL S i) i
theorem zX_2 {X : zK → Option va_E} {k1 k4 : zK} (a c b : Option va_E) (h : k4 ≠ k1) : zX (zX (zX X k1 a) k4 c) k1 b = zX (zX X k1 b) k4 c := by
  rw [zX_c _ _ h, zX_X]
theorem flc_X2_13 : Cond.fieldLink "LateLines$State" 13 "LateLines$State" "limits" "[I" ∈ lw_tbl := List.mem_of_getElem? (i := 179) (by decide +kernel)
theorem flc_X2_24 : Cond.fieldLink "LateLines$State" 24 "LateLines$State" "counts" "[I" ∈ lw_tbl := List.mem_of_getElem? (i := 181) (by decide +kernel)
theorem flc_X2_29 : Cond.fieldLink "LateLines$State" 29 "LateLines$State" "boxes" "[LLateLines$Box;" ∈ lw_tbl := List.mem_of_getElem? (i := 183) (by decide +kernel)
theorem flc_X2_39 : Cond.fieldLink "LateLines$State" 39 "LateLines$State" "loads" "LLateLines$Loads;" ∈ lw_tbl := List.mem_of_getElem? (i := 185) (by decide +kernel)
theorem D0_ok : ∀ j, j < 12 → defaultValue (tyX0 j) = vp_V [.int 0, .null, .null, .null, .null, .null, .null, .int 0, .int 0, .int 0, .int 0, .int 0] j
  | 0, _ => rfl
  | 1, _ => rfl
  | 2, _ => rfl
  | 3, _ => rfl
  | 4, _ => rfl
  | 5, _ => rfl
  | 6, _ => rfl
  | 7, _ => rfl
  | 8, _ => rfl
  | 9, _ => rfl
  | 10, _ => rfl
  | 11, _ => rfl
  | j + 12, h => absurd h (by omega)
theorem D1_ok : ∀ j, j < 8 → defaultValue (tyX1 j) = vp_V [.null, .null, .null, .int 0, .int 0, .int 0, .long 0, .long 0] j
  | 0, _ => rfl
  | 1, _ => rfl
  | 2, _ => rfl
  | 3, _ => rfl
  | 4, _ => rfl
  | 5, _ => rfl
  | 6, _ => rfl
  | 7, _ => rfl
  | j + 8, h => absurd h (by omega)
section ZS
variable {o : zW} {X : zK → Option va_E} {S : zS} {mc ms i : Nat}
theorem sp_initS (hX : ∀ k b, 1 ≤ k → k ≤ 15 → X (k, i, b) = none) (hS : ∀ k b, 1 ≤ k → k ≤ 15 → zz S (k, i, b)) (hi : i < 8) : zJ o mdX2_init 0 (lv_args 0 [.ref (z_adr o (1, i, 0))]) [] (z_sb i + 1, zP o (zX X (1, i, 0) (some (.inr (2, [.null, .null, .null, .null, .float 0, .int 0, .int 0, .int 0, .int 0])))) S) (mc + 119) (ms + 1300) (fun r M => r = none ∧ M = (z_sb i + 120, zP o X (stS S i))) := by
  have e1 := lay_S 1 (by decide) (by decide) i
  have e2 := lay_S 2 (by decide) (by decide) i
  have e3 := lay_S 3 (by decide) (by decide) i
  have e4 := lay_S 4 (by decide) (by decide) i
  have e12 := lay_L 12 (by decide) (by decide) i
  have hsb := z_sb_le hi
  have n21 : ((2, i, 0) : zK) ≠ (1, i, 0) := by simp
  have n31 : ((3, i, 0) : zK) ≠ (1, i, 0) := by simp
  have n41 : ((4, i, 0) : zK) ≠ (1, i, 0) := by simp
  have n14 : ((1, i, 0) : zK) ≠ (4, i, 0) := by simp
  show zJ o mdX2_init 0 [(0, .ref (z_adr o (1, i, 0)))] [] _ _ _ _
  refine zJ.aload_n (pc := 0) 0 dX2_init_0 rfl rfl ?_
  refine zJ.objInit (pc := 1) ml_X2_3 oi_i oi_c (Nat.le_of_ble_eq_true rfl) (Nat.le_of_ble_eq_true rfl) dX2_init_1 ?_
  refine zJ.aload_n (pc := 4) 0 dX2_init_4 rfl rfl ?_
  refine zJ.gets (pc := 5) (i := 0) (by decide) fl_X2_9 dX2_init_5 ?_
  refine zJ.slen (pc := 8) (i := 0) (by decide) dX2_init_8 ?_
  refine zJ.wk (mc' := mc + 118 + 1) (ms' := ms + 1295 + 5) (by omega) (by omega) ?_
  refine zO.newi (pc := 9) (mc := mc + 118) (ms := ms + 1295) (N' := 5) (k := (2, i, 0)) dX2_init_9 (by decide) (show Int32.toNatClampNeg 5 = 5 from rfl) (by decide) (ia_2 o i) ((zX_o _ n21).trans (hX 2 0 (by decide) (by decide))) (hS 2 0 (by decide) (by decide)).1 (ok_2 hi hsb) (by omega) ?_
  refine zO.putc (pc := 11) (zX X (1, i, 0) (some (.inr (2, [.ref (z_adr o (2, i, 0)), .null, .null, .null, .float 0, .int 0, .int 0, .int 0, .int 0])))) kiX2 0 (by decide) flc_X2_13 dX2_init_11 (ok_mk (ok_1 hi hsb) (by omega)) (zX_s _ _ _) rfl rfl rfl rfl rfl (Nat.le_of_ble_eq_true rfl) (zX_X _ _ _ _) ?_
  refine zJ.gets (pc := 14) (i := 0) (by decide) fl_X2_9 dX2_init_14 ?_
  refine zJ.iconst (pc := 17) (v := 0) dX2_init_17 (by decide) ?_
  refine zJ.aload_n (pc := 18) 0 dX2_init_18 rfl rfl ?_
  refine zJ.getf (pc := 19) kiX2 0 (by decide) fl_X2_13 dX2_init_19 (ok_mk (ok_1 hi hsb) (by show _ < z_sb i + 1 + 1; omega)) (zP_s (zX_s _ _ _)) rfl ?_
  refine zJ.iconst (pc := 22) (v := 0) dX2_init_22 (by decide) ?_
  refine zJ.gets (pc := 23) (i := 0) (by decide) fl_X2_9 dX2_init_23 ?_
  refine zJ.slen (pc := 26) (i := 0) (by decide) dX2_init_26 ?_
  have hX2 : (zX X (1, i, 0) (some (.inr (2, [.ref (z_adr o (2, i, 0)), .null, .null, .null, .float 0, .int 0, .int 0, .int 0, .int 0])))) (2, i, 0) = none := (zX_o _ n21).trans (hX 2 0 (by decide) (by decide))
  refine zJ.copys (pc := 27) (i0 := 0) (by decide) (k := (2, i, 0)) (n1 := 5) (g := S.1 (2, i, 0)) ⟨ml_X2_18, ac_n, ac_s, ac_i⟩ dX2_init_27 (ok_mk (ok_2 hi hsb) (by show _ < z_sb i + 1 + 1; omega)) ((zP_n hX2).trans (ia_2 o i _ _ _)) (by decide) (by decide) (by decide) (by decide) (by decide) (Nat.le_of_ble_eq_true rfl) (by decide) ?_
  have eL : z_up (zP o (zX X (1, i, 0) (some (.inr (2, [.ref (z_adr o (2, i, 0)), .null, .null, .null, .float 0, .int 0, .int 0, .int 0, .int 0])))) S) (2, i, 0) (.inl (o.2.2.1 0, 5, .inl (va_cpy (z_st 0) (S.1 (2, i, 0)) 0 0 5))) = zP o (zX X (1, i, 0) (some (.inr (2, [.ref (z_adr o (2, i, 0)), .null, .null, .null, .float 0, .int 0, .int 0, .int 0, .int 0])))) (stL S i) := zP_up_n hX2 (z_up_A (ia_2 o i) _)
  show zJ o mdX2_init 30 _ _ (z_sb i + 1 + 1, z_up (zP o (zX X (1, i, 0) (some (.inr (2, [.ref (z_adr o (2, i, 0)), .null, .null, .null, .float 0, .int 0, .int 0, .int 0, .int 0])))) S) (2, i, 0) (.inl (o.2.2.1 0, 5, .inl (va_cpy (z_st 0) (S.1 (2, i, 0)) 0 0 5)))) _ _ _
  rw [eL]
  clear eL hX2
  have hS1 : ∀ k b, k ≠ 2 → 1 ≤ k → k ≤ 15 → zz (stL S i) (k, i, b) := by
    intro k b h2 h3 h4
    refine ⟨?_, (hS k b h3 h4).2.1, (hS k b h3 h4).2.2⟩
    show (if ((k, i, b) : zK) = (2, i, 0) then _ else S.1 (k, i, b)) = _
    rw [if_neg (by simp [h2])]
    exact (hS k b h3 h4).1
  unfold stS
  generalize stL S i = S1 at hS1 ⊢
  refine zJ.aload_n (pc := 30) 0 dX2_init_30 rfl rfl ?_
  refine zJ.bipush (pc := 31) (v := 10) dX2_init_31 (by decide) ?_
  refine zJ.wk (mc' := mc + 117 + 1) (ms' := ms + 1285 + 10) (by omega) (by omega) ?_
  refine zO.newi (pc := 33) (mc := mc + 117) (ms := ms + 1285) (N' := 10) (k := (3, i, 0)) dX2_init_33 (by decide) (show Int32.toNatClampNeg 10 = 10 from rfl) (by decide) (ia_3 o i) ((zX_o _ n31).trans (hX 3 0 (by decide) (by decide))) (hS1 3 0 (by decide) (by decide) (by decide)).1 (ok_3 hi hsb) (by omega) ?_
  refine zO.putc (pc := 35) (zX X (1, i, 0) (some (.inr (2, [.ref (z_adr o (2, i, 0)), .ref (z_adr o (3, i, 0)), .null, .null, .float 0, .int 0, .int 0, .int 0, .int 0])))) kiX2 1 (by decide) flc_X2_24 dX2_init_35 (ok_mk (ok_1 hi hsb) (by omega)) (zX_s _ _ _) rfl rfl rfl rfl rfl (Nat.le_of_ble_eq_true rfl) (zX_X _ _ _ _) ?_
  refine zJ.aload_n (pc := 38) 0 dX2_init_38 rfl rfl ?_
  refine zJ.bipush (pc := 39) (v := 16) dX2_init_39 (by decide) ?_
  refine zJ.wk (mc' := mc + 116 + 1) (ms' := ms + 1269 + 16) (by omega) (by omega) ?_
  refine zJ.newq (pc := 41) (mc := mc + 116) (ms := ms + 1269) (t0 := 3) (N' := 16) (k := (4, i, 0)) (C0 := "LateLines$Box") rfl (List.mem_of_getElem? (i := 69) (by decide +kernel)) (List.mem_of_getElem? (i := 70) (by decide +kernel)) dX2_init_41 (by decide) (show Int32.toNatClampNeg 16 = 16 from rfl) (by decide) (by rw [show z_sb i + 1 + 1 + 1 = z_lay (4, i, 0) by omega]; exact (ok_4 hi hsb).2) (by omega) (by omega) ?_
  rw [zP_up_s]
  refine zO.desc (k := (4, i, 0)) (zX_s _ _ _) (x' := bxs o i 0) (z_arq (fun j hj => by rw [if_neg (by omega)])) ?_
  rw [zX_X]
  refine zO.putc (pc := 44) (zX (zX X (1, i, 0) (some (.inr (2, [.ref (z_adr o (2, i, 0)), .ref (z_adr o (3, i, 0)), .ref (z_adr o (4, i, 0)), .null, .float 0, .int 0, .int 0, .int 0, .int 0])))) (4, i, 0) (some (bxs o i 0))) kiX2 2 (by decide) flc_X2_29 dX2_init_44 (ok_mk (ok_1 hi hsb) (by omega)) ((zX_o _ n14).trans (zX_s _ _ _)) rfl rfl rfl rfl rfl (Nat.le_of_ble_eq_true rfl) (zX_2 _ _ _ n41) ?_
  refine zJ.iconst (pc := 47) (v := 0) dX2_init_47 (by decide) ?_
  refine zJ.istore_n (pc := 48) (lv' := [(1, .int 0), (0, .ref (z_adr o (1, i, 0)))]) dX2_init_48 rfl (Nat.le_of_ble_eq_true rfl) rfl ?_
  have key := z_down 16 (fun b => zJ o mdX2_init 49 [(1, .int (nI b)), (0, .ref (z_adr o (1, i, 0)))] [] (z_sb i + 4 + 7 * b, zP o (zX (zX X (1, i, 0) (some (.inr (2, [.ref (z_adr o (2, i, 0)), .ref (z_adr o (3, i, 0)), .ref (z_adr o (4, i, 0)), .null, .float 0, .int 0, .int 0, .int 0, .int 0])))) (4, i, 0) (some (bxs o i b))) S1) (mc + 4 + 7 * (16 - b)) (ms + 608 + 36 * (16 - b)) (fun r M => r = none ∧ M = (z_sb i + 120, zP o X (c_renew S1 i)))) ?_ ?_ 0 (by omega)
  · exact zJ.wk (by omega) (by omega) key
  · refine zJ.iload_n (pc := 49) 0 dX2_init_49 rfl rfl ?_
    refine zJ.bipush (pc := 50) (v := 16) dX2_init_50 (by decide) ?_
    refine zJ.icmp_ge (pc := 52) (tgt := 75) dX2_init_52 (by decide) (fun _ => ?_) (fun hc => absurd (by decide) hc)
    refine zJ.aload_n (pc := 75) 1 dX2_init_75 rfl rfl ?_
    refine zJ.wk (mc' := mc + 3 + 1) (ms' := ms + 600 + 8) (by omega) (by omega) ?_
    refine zO.new (pc := 76) (mc := mc + 3) (ms := ms + 600) (k := (12, i, 0)) kiX1 (List.mem_of_getElem? (i := 129) (by decide +kernel)) (List.mem_of_getElem? (i := 130) (by decide +kernel)) (List.mem_of_getElem? (i := 47) (by decide +kernel)) dX2_init_76 D1_ok (ok_12 hi hsb) (by omega) ?_
    refine zJ.dup (pc := 79) dX2_init_79 rfl ?_
    refine zJ.callI (pc := 80) (mc1 := 0 + 3) (ms1 := 0 + 600) (mc2 := 0) (ms2 := 0) (As := []) (rest := [.ref (z_adr o (12, i, 0)), .ref (z_adr o (1, i, 0))]) dX2_init_80 ⟨(cb_X1_init).1, (cb_X1_init).2, (Nat.le_of_ble_eq_true rfl), (Nat.le_of_ble_eq_true rfl)⟩ ml_X2_38 ci_X1_init rfl rfl rfl (Nat.le_of_ble_eq_true rfl) (Nat.le_of_ble_eq_true rfl) _ rfl (sp_initL (i := i) (fun k h1 h2 => (zX_o _ (by simp; omega)).trans ((zX_o _ (by simp; omega)).trans (hX k 0 (by omega) h2))) (fun k h1 h2 => hS1 k 0 (by omega) (by omega) h2) hi) ⟨by omega, by omega⟩ ?_
    rintro r M ⟨rfl, rfl⟩
    refine zO.putc (pc := 83) (zX (zX X (1, i, 0) (some (.inr (2, [.ref (z_adr o (2, i, 0)), .ref (z_adr o (3, i, 0)), .ref (z_adr o (4, i, 0)), .ref (z_adr o (12, i, 0)), .float 0, .int 0, .int 0, .int 0, .int 0])))) (4, i, 0) (some (bxs o i 16))) kiX2 3 (by decide) flc_X2_39 dX2_init_83 (ok_1 hi (Nat.le_refl _)) ((zX_o _ n14).trans (zX_s _ _ _)) rfl rfl rfl rfl rfl (Nat.le_of_ble_eq_true rfl) (zX_2 _ _ _ n41) ?_
    have hfin : z_enc o S1 (1, i, 0) = .inr (2, [.ref (z_adr o (2, i, 0)), .ref (z_adr o (3, i, 0)), .ref (z_adr o (4, i, 0)), .ref (z_adr o (12, i, 0)), .float 0, .int 0, .int 0, .int 0, .int 0]) := by
      show z_ent o (1, i, 0) (S1.1 _) (S1.2.1 _) (S1.2.2 _) = _
      rw [(hS1 1 0 (by decide) (by decide) (by decide)).1, (hS1 1 0 (by decide) (by decide) (by decide)).2.2]
      rfl
    rw [zP_done ((zX_o _ n41).trans (hX 4 0 (by decide) (by decide))) (bxs_16 o S1 i), zP_done (hX 1 0 (by decide) (by decide)) hfin]
    refine zJ.aload_n (pc := 86) 1 dX2_init_86 rfl rfl ?_
    refine zGO.callVv (d := mdX2_init) (pc := 87) [] [] (ob_1 o i) (ok_1 hi (Nat.le_refl _)) (hX 1 0 (by decide) (by decide)) rfl dX2_init_87 ⟨(cb_X2_renew).1, (cb_X2_renew).2, (Nat.le_of_ble_eq_true rfl), (Nat.le_of_ble_eq_true rfl)⟩ ml_X2_43 ci_X2_renew cv_X2_renew rfl (Nat.le_of_ble_eq_true rfl) (Nat.le_of_ble_eq_true rfl) rfl (so_sp_renew hX hi (Nat.le_refl _) S1 (fun S2 => S2 = c_renew S1 i) rfl) (fun S2 h2 => ?_)
    subst h2
    exact zJ.ret (r := none) (pc := 90) ⟨dX2_init_90, rfl⟩ ⟨rfl, rfl⟩
  · intro b hb ih
    have e5 := lay_B 5 (by decide) (by decide) i b
    have n54 : ((5, i, b) : zK) ≠ (4, i, 0) := by simp
    have n45 : ((4, i, 0) : zK) ≠ (5, i, b) := by simp
    refine zJ.iload_n (pc := 49) 0 dX2_init_49 rfl rfl ?_
    refine zJ.bipush (pc := 50) (v := 16) dX2_init_50 (by decide) ?_
    refine zJ.icmp_ge (pc := 52) (tgt := 75) dX2_init_52 (by decide) (fun hc => absurd hc (z_ge (a := b) (b := 16) hb (by decide))) (fun _ => ?_)
    refine zJ.aload_n (pc := 55) 1 dX2_init_55 rfl rfl ?_
    refine zJ.getf (pc := 56) kiX2 2 (by decide) fl_X2_29 dX2_init_56 (ok_mk (ok_1 hi hsb) (by show _ < z_sb i + 4 + 7 * b; omega)) (zP_s ((zX_o _ n14).trans (zX_s _ _ _))) rfl ?_
    refine zJ.iload_n (pc := 59) 0 dX2_init_59 rfl rfl ?_
    refine zJ.wk (mc' := (mc + 4 + 7 * (16 - (b + 1))) + 6 + 1) (ms' := (ms + 608 + 36 * (16 - (b + 1))) + 24 + 12) (by omega) (by omega) ?_
    refine zO.new (pc := 60) (mc := (mc + 4 + 7 * (16 - (b + 1))) + 6) (ms := (ms + 608 + 36 * (16 - (b + 1))) + 24) (k := (5, i, b)) kiX0 (List.mem_of_getElem? (i := 69) (by decide +kernel)) (List.mem_of_getElem? (i := 71) (by decide +kernel)) (List.mem_of_getElem? (i := 46) (by decide +kernel)) dX2_init_60 D0_ok (ok_5 hi hb hsb) (by omega) ?_
    refine zJ.dup (pc := 63) dX2_init_63 rfl ?_
    refine zJ.iload_n (pc := 64) 0 dX2_init_64 rfl rfl ?_
    refine zJ.callI (pc := 65) (mc1 := 0 + 6) (ms1 := 0 + 24) (mc2 := mc + 4 + 7 * (16 - (b + 1))) (ms2 := ms + 608 + 36 * (16 - (b + 1))) (As := [.int (nI b)]) (rest := [.ref (z_adr o (5, i, b)), .int (nI b), .ref (z_adr o (4, i, 0))]) dX2_init_65 ⟨(cb_X0_init).1, (cb_X0_init).2, (Nat.le_of_ble_eq_true rfl), (Nat.le_of_ble_eq_true rfl)⟩ ml_X2_33 ci_X0_init rfl rfl rfl (Nat.le_of_ble_eq_true rfl) (Nat.le_of_ble_eq_true rfl) _ rfl (sp_initB (i := i) (b := b) (fun k h1 h2 => (zX_o _ (by simp; omega)).trans ((zX_o _ (by simp; omega)).trans (hX k b (by omega) (by omega)))) (fun k h1 h2 => hS1 k b (by omega) (by omega) (by omega)) hi hb) ⟨by omega, by omega⟩ ?_
    rintro r M ⟨rfl, rfl⟩
    have hn5 : z_ok (z_sb i + 4 + 7 * b + 7) (5, i, b) := ok_mk (ok_5 hi hb hsb) (by omega)
    have hn4 : z_ok (z_sb i + 4 + 7 * b + 7) (4, i, 0) := ok_mk (ok_4 hi hsb) (by omega)
    obtain ⟨fs5, hf5⟩ := ob_5 o i b (S1.1 (5, i, b)) (S1.2.1 (5, i, b)) (S1.2.2 (5, i, b))
    refine zJ.aast (pc := 68) (t0 := 3) (ci := 0) (k := (4, i, 0)) (kv := (5, i, b)) (r := (RX0, TX0, 12)) (vs := fs5) (n := 16) (f := fun j => if j < b ∨ 16 ≤ j then some (z_adr o (5, i, j)) else none) rfl rfl dX2_init_68 hn4 (zP_s (zX_s _ _ _)) hn5 ((zP_n ((zX_o _ n54).trans ((zX_o _ (by simp)).trans (hX 5 b (by decide) (by decide))))).trans hf5) (z_in hb (by omega)) ?_
    rw [z_cl (by omega), bxs_s]
    show zJ o mdX2_init 69 _ _ (z_sb i + 4 + 7 * b + 7, z_up (zP o _ S1) (4, i, 0) (bxs o i (b + 1))) _ _ _
    rw [zP_up_s, zX_X]
    refine zJ.iinc (pc := 69) (k := 0) (lv' := [(1, .int (nI b + 1)), (0, .ref (z_adr o (1, i, 0)))]) dX2_init_69 rfl rfl (Nat.le_of_ble_eq_true rfl) rfl ?_
    refine zJ.goto (pc := 72) (tgt := 49) dX2_init_72 (by decide) ?_
    rw [← nI_succ]
    exact ih
end ZS
