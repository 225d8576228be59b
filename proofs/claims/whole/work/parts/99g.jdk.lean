/-! the JDK's floatToIntBits, doubleToLongBits, of a number -/
section JDK
variable {o : zW}
theorem ml_f59 : z_ML mdJxf58ca_floatToIntBits_5c35a 59 mdJxf58ca_isNaN_12338 := Or.inl (List.mem_of_getElem? (i := 930) (by decide +kernel))
theorem ml_d122 : z_ML mdJxe99ae_doubleToLongBits_ccdee 122 mdJxe99ae_isNaN_b9ae7 := Or.inl (List.mem_of_getElem? (i := 944) (by decide +kernel))
theorem cv_self (op : CmpOp) : Op.cmpValue (some .eq) op = 0 := rfl
theorem sj_isNaNf (x : UInt32) (hx : Jvm.FP.Core.val32 x ≠ .nan) (S : zS) (K : Int32 → zS → Prop) (hK : K 0 S) : zGi o 994 mdJxf58ca_isNaN_12338 [.float x] S K := by
  show zJ o mdJxf58ca_isNaN_12338 0 _ [] (994, z_enc o S) 0 0 _
  have e : Op.cmpValue (FP.fcmp x x) CmpOp.l = 0 := by
    have : FP.fcmp x x = some .eq := Jvm.FP.Core.fcmp_self hx
    rw [this]; rfl
  refine zJ.fload_n (pc := 0) 0 dJxf58ca_isNaN_12338_0 rfl rfl ?_
  refine zJ.fload_n (pc := 1) 0 dJxf58ca_isNaN_12338_1 rfl rfl ?_
  refine zJ.fcmp (pc := 2) dJxf58ca_isNaN_12338_2 ?_
  refine zJ.if_eq (pc := 3) (tgt := 10) dJxf58ca_isNaN_12338_3 (by decide) (fun _ => ?_) (fun hc => absurd e hc)
  refine zJ.iconst (pc := 10) (v := 0) dJxf58ca_isNaN_12338_10 (by decide) ?_
  exact zG.ret (pc := 11) (r := some (.int 0)) ⟨dJxf58ca_isNaN_12338_11, _, rfl, rfl⟩ ⟨_, rfl, hK⟩
theorem sj_f2i (x : UInt32) (hx : Jvm.FP.Core.val32 x ≠ .nan) (S : zS) (K : Int32 → zS → Prop) (hK : K x.toInt32 S) : zGi o 994 mdJxf58ca_floatToIntBits_5c35a [.float x] S K := by
  show zJ o mdJxf58ca_floatToIntBits_5c35a 0 _ [] (994, z_enc o S) 0 0 _
  refine zJ.fload_n (pc := 0) 0 dJxf58ca_floatToIntBits_5c35a_0 rfl rfl ?_
  refine zG.callSi (d := mdJxf58ca_floatToIntBits_5c35a) (pc := 1) [.float x] [] dJxf58ca_floatToIntBits_5c35a_1 ⟨(cb_Jxf58ca_isNaN_12338).1, (cb_Jxf58ca_isNaN_12338).2, (Nat.le_of_ble_eq_true rfl), (Nat.le_of_ble_eq_true rfl)⟩ ml_f59 cs_Jxf58ca_isNaN_12338 rfl (Nat.le_of_ble_eq_true rfl) (Nat.le_of_ble_eq_true rfl) rfl (sj_isNaNf x hx S (fun r S2 => r = 0 ∧ S2 = S) ⟨rfl, rfl⟩) (fun r S2 h2 => ?_)
  obtain ⟨h1, h2⟩ := h2
  subst h1 h2
  refine zJ.if_ne (pc := 4) (tgt := 12) dJxf58ca_floatToIntBits_5c35a_4 (by decide) (fun hc => absurd rfl hc) (fun _ => ?_)
  refine zJ.fload_n (pc := 7) 0 dJxf58ca_floatToIntBits_5c35a_7 rfl rfl ?_
  refine zJ.f2bits (d := mdJxf58ca_floatToIntBits_5c35a) (pc := 8) (idx := 74) (List.mem_of_getElem? (i := 933) (by decide +kernel)) (List.mem_of_getElem? (i := 935) (by decide +kernel)) (List.mem_of_getElem? (i := 934) (by decide +kernel)) (List.mem_of_getElem? (i := 85) (by decide +kernel)) (Nat.le_of_ble_eq_true rfl) (Nat.le_of_ble_eq_true rfl) dJxf58ca_floatToIntBits_5c35a_8 ?_
  exact zG.ret (pc := 11) (r := some (.int x.toInt32)) ⟨dJxf58ca_floatToIntBits_5c35a_11, _, rfl, rfl⟩ ⟨_, rfl, hK⟩
theorem sj_isNaNd (x : UInt64) (hx : Jvm.FP.Core.val64 x ≠ .nan) (S : zS) (K : Int32 → zS → Prop) (hK : K 0 S) : zGi o 994 mdJxe99ae_isNaN_b9ae7 [.double x] S K := by
  show zJ o mdJxe99ae_isNaN_b9ae7 0 _ [] (994, z_enc o S) 0 0 _
  have e : Op.cmpValue (FP.dcmp x x) CmpOp.l = 0 := by
    have : FP.dcmp x x = some .eq := Jvm.FP.Core.dcmp_self hx
    rw [this]; rfl
  refine zJ.dload_n (pc := 0) 0 dJxe99ae_isNaN_b9ae7_0 rfl rfl ?_
  refine zJ.dload_n (pc := 1) 0 dJxe99ae_isNaN_b9ae7_1 rfl rfl ?_
  refine zJ.dcmp (pc := 2) dJxe99ae_isNaN_b9ae7_2 ?_
  refine zJ.if_eq (pc := 3) (tgt := 10) dJxe99ae_isNaN_b9ae7_3 (by decide) (fun _ => ?_) (fun hc => absurd e hc)
  refine zJ.iconst (pc := 10) (v := 0) dJxe99ae_isNaN_b9ae7_10 (by decide) ?_
  exact zG.ret (pc := 11) (r := some (.int 0)) ⟨dJxe99ae_isNaN_b9ae7_11, _, rfl, rfl⟩ ⟨_, rfl, hK⟩
theorem sj_d2l (x : UInt64) (hx : Jvm.FP.Core.val64 x ≠ .nan) (S : zS) (K : Int64 → zS → Prop) (hK : K x.toInt64 S) : zGl o 994 mdJxe99ae_doubleToLongBits_ccdee [.double x] S K := by
  show zJ o mdJxe99ae_doubleToLongBits_ccdee 0 _ [] (994, z_enc o S) 0 0 _
  refine zJ.dload_n (pc := 0) 0 dJxe99ae_doubleToLongBits_ccdee_0 rfl rfl ?_
  refine zG.callSi (d := mdJxe99ae_doubleToLongBits_ccdee) (pc := 1) [.double x] [] dJxe99ae_doubleToLongBits_ccdee_1 ⟨(cb_Jxe99ae_isNaN_b9ae7).1, (cb_Jxe99ae_isNaN_b9ae7).2, (Nat.le_of_ble_eq_true rfl), (Nat.le_of_ble_eq_true rfl)⟩ ml_d122 cs_Jxe99ae_isNaN_b9ae7 rfl (Nat.le_of_ble_eq_true rfl) (Nat.le_of_ble_eq_true rfl) rfl (sj_isNaNd x hx S (fun r S2 => r = 0 ∧ S2 = S) ⟨rfl, rfl⟩) (fun r S2 h2 => ?_)
  obtain ⟨h1, h2⟩ := h2
  subst h1 h2
  refine zJ.if_ne (pc := 4) (tgt := 12) dJxe99ae_doubleToLongBits_ccdee_4 (by decide) (fun hc => absurd rfl hc) (fun _ => ?_)
  refine zJ.dload_n (pc := 7) 0 dJxe99ae_doubleToLongBits_ccdee_7 rfl rfl ?_
  refine zJ.d2bits (d := mdJxe99ae_doubleToLongBits_ccdee) (pc := 8) (idx := 134) (List.mem_of_getElem? (i := 947) (by decide +kernel)) (List.mem_of_getElem? (i := 949) (by decide +kernel)) (List.mem_of_getElem? (i := 948) (by decide +kernel)) (List.mem_of_getElem? (i := 86) (by decide +kernel)) (Nat.le_of_ble_eq_true rfl) (Nat.le_of_ble_eq_true rfl) dJxe99ae_doubleToLongBits_ccdee_8 ?_
  exact zG.ret (pc := 11) (r := some (.long x.toInt64)) ⟨dJxe99ae_doubleToLongBits_ccdee_11, rfl⟩ ⟨_, rfl, hK⟩
end JDK
