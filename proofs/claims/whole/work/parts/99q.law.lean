/-! the law: call by call -/
theorem lcmp_self {x y : Int64} (h : x = y) : z_lcmp x y = 0 := by
  subst h
  have hlt : ¬ x < x := by rw [Int64.lt_iff_toInt_lt]; omega
  simp [lg_cmp, hlt]
section LAW
variable {o : zW} {k B : Nat} {S : zS} {G : mG} {Q : Option Value → zS → Prop}
theorem lc_sets (h1 : vp_in (nI (4 * k) + 1) o.2.2.2.2.2.1) (h2 : vp_in (nI (4 * k) + 2) o.2.2.2.2.2.1) (h3 : vp_in (nI (4 * k) + 3) o.2.2.2.2.2.1) (hB : B + 60000 ≤ m_BB) (hc : c_G B S G) (hr : r_G B S G) (hk : ∀ S' G', c_G (B + 60000) S' G' → r_G (B + 60000) S' G' → zG o 994 mdL_law 674 [(3, .int (nI (4 * k))), (2, .ref (z_adr o (23, 0, 0))), (1, .ref (z_adr o (0, 0, 0))), (0, .ref o.2.2.2.2.1)] [] S' Q) : zG o 994 mdL_law 136 [(3, .int (nI (4 * k))), (2, .ref (z_adr o (23, 0, 0))), (1, .ref (z_adr o (0, 0, 0))), (0, .ref o.2.2.2.2.1)] [] S Q := by
  show zJ o mdL_law 136 _ [] (994, z_enc o S) 0 0 _
  have C := c_sets (o := o) S hc (o.2.2.2.2.2.2 (nI (4 * k) + 1).toNatClampNeg) (o.2.2.2.2.2.2 (nI (4 * k) + 2).toNatClampNeg)
  have R := fun S2 hr2 => r_sets (o := o) (G := G) (B := B) S2 hr2 (o.2.2.2.2.2.2 (nI (4 * k) + 1).toNatClampNeg) (o.2.2.2.2.2.2 (nI (4 * k) + 2).toNatClampNeg)
  generalize g_sets G (o.2.2.2.2.2.2 (nI (4 * k) + 1).toNatClampNeg) (o.2.2.2.2.2.2 (nI (4 * k) + 2).toNatClampNeg) = a at C R
  refine zJ.aload_n (pc := 136) 2 dL_law_136 rfl rfl ?_
  refine zJ.aload_n (pc := 137) 3 dL_law_137 rfl rfl ?_
  refine zJ.iload_n (pc := 138) 0 dL_law_138 rfl rfl ?_
  refine zJ.iconst (pc := 139) (v := 1) dL_law_139 (by decide) ?_
  refine zJ.iadd (pc := 140) dL_law_140 ?_
  refine zJ.scald (pc := 141) dL_law_141 h1 ?_
  refine zJ.aload_n (pc := 142) 3 dL_law_142 rfl rfl ?_
  refine zJ.iload_n (pc := 143) 0 dL_law_143 rfl rfl ?_
  refine zJ.iconst (pc := 144) (v := 2) dL_law_144 (by decide) ?_
  refine zJ.iadd (pc := 145) dL_law_145 ?_
  refine zJ.scald (pc := 146) dL_law_146 h2 ?_
  refine zG.callVi (d := mdL_law) (pc := 147) [.int (o.2.2.2.2.2.2 (nI (4 * k) + 1).toNatClampNeg), .int (o.2.2.2.2.2.2 (nI (4 * k) + 2).toNatClampNeg)] [] (ob_0 o) ok_0 rfl dL_law_147 ⟨(cb_X4_sets).1, (cb_X4_sets).2, (Nat.le_of_ble_eq_true rfl), (Nat.le_of_ble_eq_true rfl)⟩ ml_L_13 ci_X4_sets cv_X4_sets rfl (Nat.le_of_ble_eq_true rfl) (Nat.le_of_ble_eq_true rfl) rfl C (fun x S2 h2 => ?_)
  obtain ⟨e2, hc2, hu⟩ := h2
  have hr2 := RG_up hr hu
  refine zJ.aload_n (pc := 150) 1 dL_law_150 rfl rfl ?_
  refine zJ.aload_n (pc := 151) 3 dL_law_151 rfl rfl ?_
  refine zJ.iload_n (pc := 152) 0 dL_law_152 rfl rfl ?_
  refine zJ.iconst (pc := 153) (v := 1) dL_law_153 (by decide) ?_
  refine zJ.iadd (pc := 154) dL_law_154 ?_
  refine zJ.scald (pc := 155) dL_law_155 h1 ?_
  refine zJ.aload_n (pc := 156) 3 dL_law_156 rfl rfl ?_
  refine zJ.iload_n (pc := 157) 0 dL_law_157 rfl rfl ?_
  refine zJ.iconst (pc := 158) (v := 2) dL_law_158 (by decide) ?_
  refine zJ.iadd (pc := 159) dL_law_159 ?_
  refine zJ.scald (pc := 160) dL_law_160 h2 ?_
  refine zG.callVi (d := mdL_law) (pc := 161) [.int (o.2.2.2.2.2.2 (nI (4 * k) + 1).toNatClampNeg), .int (o.2.2.2.2.2.2 (nI (4 * k) + 2).toNatClampNeg)] [_] (ob_23 o) ok_23 rfl dL_law_161 ⟨(cb_X5_sets).1, (cb_X5_sets).2, (Nat.le_of_ble_eq_true rfl), (Nat.le_of_ble_eq_true rfl)⟩ ml_L_17 ci_X5_sets cv_X5_sets rfl (Nat.le_of_ble_eq_true rfl) (Nat.le_of_ble_eq_true rfl) rfl (R S2 hr2) (fun x S3 h3 => ?_)
  obtain ⟨e3, hr3, hd⟩ := h3
  refine zJ.icmp_eq (pc := 164) (tgt := 674) dL_law_164 (by decide) (fun _ => ?_) (fun hne => absurd (e2.trans e3.symm) hne)
  exact hk S3 _ (G_dn hc2 hd) hr3
theorem lc_anew (h1 : vp_in (nI (4 * k) + 1) o.2.2.2.2.2.1) (h2 : vp_in (nI (4 * k) + 2) o.2.2.2.2.2.1) (h3 : vp_in (nI (4 * k) + 3) o.2.2.2.2.2.1) (hB : B + 60000 ≤ m_BB) (hc : c_G B S G) (hr : r_G B S G) (hk : ∀ S' G', c_G (B + 60000) S' G' → r_G (B + 60000) S' G' → zG o 994 mdL_law 674 [(3, .int (nI (4 * k))), (2, .ref (z_adr o (23, 0, 0))), (1, .ref (z_adr o (0, 0, 0))), (0, .ref o.2.2.2.2.1)] [] S' Q) : zG o 994 mdL_law 169 [(3, .int (nI (4 * k))), (2, .ref (z_adr o (23, 0, 0))), (1, .ref (z_adr o (0, 0, 0))), (0, .ref o.2.2.2.2.1)] [] S Q := by
  show zJ o mdL_law 169 _ [] (994, z_enc o S) 0 0 _
  have C := c_anew (o := o) S hc
  have R := fun S2 hr2 => r_anew (o := o) (G := G) (B := B) S2 hr2
  generalize g_anew G = a at C R
  refine zJ.aload_n (pc := 169) 2 dL_law_169 rfl rfl ?_
  refine zG.callVi (d := mdL_law) (pc := 170) [] [] (ob_0 o) ok_0 rfl dL_law_170 ⟨(cb_X4_anew).1, (cb_X4_anew).2, (Nat.le_of_ble_eq_true rfl), (Nat.le_of_ble_eq_true rfl)⟩ ml_L_18 ci_X4_anew cv_X4_anew rfl (Nat.le_of_ble_eq_true rfl) (Nat.le_of_ble_eq_true rfl) rfl C (fun x S2 h2 => ?_)
  obtain ⟨e2, hc2, hu⟩ := h2
  have hr2 := RG_up hr hu
  refine zJ.aload_n (pc := 173) 1 dL_law_173 rfl rfl ?_
  refine zG.callVi (d := mdL_law) (pc := 174) [] [_] (ob_23 o) ok_23 rfl dL_law_174 ⟨(cb_X5_anew).1, (cb_X5_anew).2, (Nat.le_of_ble_eq_true rfl), (Nat.le_of_ble_eq_true rfl)⟩ ml_L_22 ci_X5_anew cv_X5_anew rfl (Nat.le_of_ble_eq_true rfl) (Nat.le_of_ble_eq_true rfl) rfl (R S2 hr2) (fun x S3 h3 => ?_)
  obtain ⟨e3, hr3, hd⟩ := h3
  refine zJ.icmp_eq (pc := 177) (tgt := 674) dL_law_177 (by decide) (fun _ => ?_) (fun hne => absurd (e2.trans e3.symm) hne)
  exact hk S3 _ (G_dn hc2 hd) hr3
theorem lc_load (h1 : vp_in (nI (4 * k) + 1) o.2.2.2.2.2.1) (h2 : vp_in (nI (4 * k) + 2) o.2.2.2.2.2.1) (h3 : vp_in (nI (4 * k) + 3) o.2.2.2.2.2.1) (hB : B + 60000 ≤ m_BB) (hc : c_G B S G) (hr : r_G B S G) (hk : ∀ S' G', c_G (B + 60000) S' G' → r_G (B + 60000) S' G' → zG o 994 mdL_law 674 [(3, .int (nI (4 * k))), (2, .ref (z_adr o (23, 0, 0))), (1, .ref (z_adr o (0, 0, 0))), (0, .ref o.2.2.2.2.1)] [] S' Q) : zG o 994 mdL_law 182 [(3, .int (nI (4 * k))), (2, .ref (z_adr o (23, 0, 0))), (1, .ref (z_adr o (0, 0, 0))), (0, .ref o.2.2.2.2.1)] [] S Q := by
  show zJ o mdL_law 182 _ [] (994, z_enc o S) 0 0 _
  have C := c_load (o := o) hB S hc (o.2.2.2.2.2.2 (nI (4 * k) + 1).toNatClampNeg) (o.2.2.2.2.2.2 (nI (4 * k) + 2).toNatClampNeg)
  have R := fun S2 hr2 => r_load (o := o) (G := G) (B := B) hB S2 hr2 (o.2.2.2.2.2.2 (nI (4 * k) + 1).toNatClampNeg) (o.2.2.2.2.2.2 (nI (4 * k) + 2).toNatClampNeg)
  generalize g_load G (o.2.2.2.2.2.2 (nI (4 * k) + 1).toNatClampNeg) (o.2.2.2.2.2.2 (nI (4 * k) + 2).toNatClampNeg) = a at C R
  refine zJ.aload_n (pc := 182) 2 dL_law_182 rfl rfl ?_
  refine zJ.aload_n (pc := 183) 3 dL_law_183 rfl rfl ?_
  refine zJ.iload_n (pc := 184) 0 dL_law_184 rfl rfl ?_
  refine zJ.iconst (pc := 185) (v := 1) dL_law_185 (by decide) ?_
  refine zJ.iadd (pc := 186) dL_law_186 ?_
  refine zJ.scald (pc := 187) dL_law_187 h1 ?_
  refine zJ.aload_n (pc := 188) 3 dL_law_188 rfl rfl ?_
  refine zJ.iload_n (pc := 189) 0 dL_law_189 rfl rfl ?_
  refine zJ.iconst (pc := 190) (v := 2) dL_law_190 (by decide) ?_
  refine zJ.iadd (pc := 191) dL_law_191 ?_
  refine zJ.scald (pc := 192) dL_law_192 h2 ?_
  refine zG.callVi (d := mdL_law) (pc := 193) [.int (o.2.2.2.2.2.2 (nI (4 * k) + 1).toNatClampNeg), .int (o.2.2.2.2.2.2 (nI (4 * k) + 2).toNatClampNeg)] [] (ob_0 o) ok_0 rfl dL_law_193 ⟨(cb_X4_load).1, (cb_X4_load).2, (Nat.le_of_ble_eq_true rfl), (Nat.le_of_ble_eq_true rfl)⟩ ml_L_23 ci_X4_load cv_X4_load rfl (Nat.le_of_ble_eq_true rfl) (Nat.le_of_ble_eq_true rfl) rfl C (fun x S2 h2 => ?_)
  obtain ⟨e2, hc2, hu⟩ := h2
  have hr2 := RG_up hr hu
  refine zJ.aload_n (pc := 196) 1 dL_law_196 rfl rfl ?_
  refine zJ.aload_n (pc := 197) 3 dL_law_197 rfl rfl ?_
  refine zJ.iload_n (pc := 198) 0 dL_law_198 rfl rfl ?_
  refine zJ.iconst (pc := 199) (v := 1) dL_law_199 (by decide) ?_
  refine zJ.iadd (pc := 200) dL_law_200 ?_
  refine zJ.scald (pc := 201) dL_law_201 h1 ?_
  refine zJ.aload_n (pc := 202) 3 dL_law_202 rfl rfl ?_
  refine zJ.iload_n (pc := 203) 0 dL_law_203 rfl rfl ?_
  refine zJ.iconst (pc := 204) (v := 2) dL_law_204 (by decide) ?_
  refine zJ.iadd (pc := 205) dL_law_205 ?_
  refine zJ.scald (pc := 206) dL_law_206 h2 ?_
  refine zG.callVi (d := mdL_law) (pc := 207) [.int (o.2.2.2.2.2.2 (nI (4 * k) + 1).toNatClampNeg), .int (o.2.2.2.2.2.2 (nI (4 * k) + 2).toNatClampNeg)] [_] (ob_23 o) ok_23 rfl dL_law_207 ⟨(cb_X5_load).1, (cb_X5_load).2, (Nat.le_of_ble_eq_true rfl), (Nat.le_of_ble_eq_true rfl)⟩ ml_L_26 ci_X5_load cv_X5_load rfl (Nat.le_of_ble_eq_true rfl) (Nat.le_of_ble_eq_true rfl) rfl (R S2 hr2) (fun x S3 h3 => ?_)
  obtain ⟨e3, hr3, hd⟩ := h3
  refine zJ.icmp_eq (pc := 210) (tgt := 674) dL_law_210 (by decide) (fun _ => ?_) (fun hne => absurd (e2.trans e3.symm) hne)
  exact hk S3 _ (G_dn hc2 hd) hr3
theorem lc_store (h1 : vp_in (nI (4 * k) + 1) o.2.2.2.2.2.1) (h2 : vp_in (nI (4 * k) + 2) o.2.2.2.2.2.1) (h3 : vp_in (nI (4 * k) + 3) o.2.2.2.2.2.1) (hB : B + 60000 ≤ m_BB) (hc : c_G B S G) (hr : r_G B S G) (hk : ∀ S' G', c_G (B + 60000) S' G' → r_G (B + 60000) S' G' → zG o 994 mdL_law 674 [(3, .int (nI (4 * k))), (2, .ref (z_adr o (23, 0, 0))), (1, .ref (z_adr o (0, 0, 0))), (0, .ref o.2.2.2.2.1)] [] S' Q) : zG o 994 mdL_law 215 [(3, .int (nI (4 * k))), (2, .ref (z_adr o (23, 0, 0))), (1, .ref (z_adr o (0, 0, 0))), (0, .ref o.2.2.2.2.1)] [] S Q := by
  show zJ o mdL_law 215 _ [] (994, z_enc o S) 0 0 _
  have C := c_store (o := o) hB S hc (o.2.2.2.2.2.2 (nI (4 * k) + 1).toNatClampNeg) (o.2.2.2.2.2.2 (nI (4 * k) + 2).toNatClampNeg) (o.2.2.2.2.2.2 (nI (4 * k) + 3).toNatClampNeg)
  have R := fun S2 hr2 => r_store (o := o) (G := G) (B := B) hB S2 hr2 (o.2.2.2.2.2.2 (nI (4 * k) + 1).toNatClampNeg) (o.2.2.2.2.2.2 (nI (4 * k) + 2).toNatClampNeg) (o.2.2.2.2.2.2 (nI (4 * k) + 3).toNatClampNeg)
  generalize g_store G (o.2.2.2.2.2.2 (nI (4 * k) + 1).toNatClampNeg) (o.2.2.2.2.2.2 (nI (4 * k) + 2).toNatClampNeg) (o.2.2.2.2.2.2 (nI (4 * k) + 3).toNatClampNeg) = a at C R
  refine zJ.aload_n (pc := 215) 2 dL_law_215 rfl rfl ?_
  refine zJ.aload_n (pc := 216) 3 dL_law_216 rfl rfl ?_
  refine zJ.iload_n (pc := 217) 0 dL_law_217 rfl rfl ?_
  refine zJ.iconst (pc := 218) (v := 1) dL_law_218 (by decide) ?_
  refine zJ.iadd (pc := 219) dL_law_219 ?_
  refine zJ.scald (pc := 220) dL_law_220 h1 ?_
  refine zJ.aload_n (pc := 221) 3 dL_law_221 rfl rfl ?_
  refine zJ.iload_n (pc := 222) 0 dL_law_222 rfl rfl ?_
  refine zJ.iconst (pc := 223) (v := 2) dL_law_223 (by decide) ?_
  refine zJ.iadd (pc := 224) dL_law_224 ?_
  refine zJ.scald (pc := 225) dL_law_225 h2 ?_
  refine zJ.aload_n (pc := 226) 3 dL_law_226 rfl rfl ?_
  refine zJ.iload_n (pc := 227) 0 dL_law_227 rfl rfl ?_
  refine zJ.iconst (pc := 228) (v := 3) dL_law_228 (by decide) ?_
  refine zJ.iadd (pc := 229) dL_law_229 ?_
  refine zJ.scald (pc := 230) dL_law_230 h3 ?_
  refine zG.callVi (d := mdL_law) (pc := 231) [.int (o.2.2.2.2.2.2 (nI (4 * k) + 1).toNatClampNeg), .int (o.2.2.2.2.2.2 (nI (4 * k) + 2).toNatClampNeg), .int (o.2.2.2.2.2.2 (nI (4 * k) + 3).toNatClampNeg)] [] (ob_0 o) ok_0 rfl dL_law_231 ⟨(cb_X4_store).1, (cb_X4_store).2, (Nat.le_of_ble_eq_true rfl), (Nat.le_of_ble_eq_true rfl)⟩ ml_L_27 ci_X4_store cv_X4_store rfl (Nat.le_of_ble_eq_true rfl) (Nat.le_of_ble_eq_true rfl) rfl C (fun x S2 h2 => ?_)
  obtain ⟨e2, hc2, hu⟩ := h2
  have hr2 := RG_up hr hu
  refine zJ.aload_n (pc := 234) 1 dL_law_234 rfl rfl ?_
  refine zJ.aload_n (pc := 235) 3 dL_law_235 rfl rfl ?_
  refine zJ.iload_n (pc := 236) 0 dL_law_236 rfl rfl ?_
  refine zJ.iconst (pc := 237) (v := 1) dL_law_237 (by decide) ?_
  refine zJ.iadd (pc := 238) dL_law_238 ?_
  refine zJ.scald (pc := 239) dL_law_239 h1 ?_
  refine zJ.aload_n (pc := 240) 3 dL_law_240 rfl rfl ?_
  refine zJ.iload_n (pc := 241) 0 dL_law_241 rfl rfl ?_
  refine zJ.iconst (pc := 242) (v := 2) dL_law_242 (by decide) ?_
  refine zJ.iadd (pc := 243) dL_law_243 ?_
  refine zJ.scald (pc := 244) dL_law_244 h2 ?_
  refine zJ.aload_n (pc := 245) 3 dL_law_245 rfl rfl ?_
  refine zJ.iload_n (pc := 246) 0 dL_law_246 rfl rfl ?_
  refine zJ.iconst (pc := 247) (v := 3) dL_law_247 (by decide) ?_
  refine zJ.iadd (pc := 248) dL_law_248 ?_
  refine zJ.scald (pc := 249) dL_law_249 h3 ?_
  refine zG.callVi (d := mdL_law) (pc := 250) [.int (o.2.2.2.2.2.2 (nI (4 * k) + 1).toNatClampNeg), .int (o.2.2.2.2.2.2 (nI (4 * k) + 2).toNatClampNeg), .int (o.2.2.2.2.2.2 (nI (4 * k) + 3).toNatClampNeg)] [_] (ob_23 o) ok_23 rfl dL_law_250 ⟨(cb_X5_store).1, (cb_X5_store).2, (Nat.le_of_ble_eq_true rfl), (Nat.le_of_ble_eq_true rfl)⟩ ml_L_31 ci_X5_store cv_X5_store rfl (Nat.le_of_ble_eq_true rfl) (Nat.le_of_ble_eq_true rfl) rfl (R S2 hr2) (fun x S3 h3 => ?_)
  obtain ⟨e3, hr3, hd⟩ := h3
  refine zJ.icmp_eq (pc := 253) (tgt := 674) dL_law_253 (by decide) (fun _ => ?_) (fun hne => absurd (e2.trans e3.symm) hne)
  exact hk S3 _ (G_dn hc2 hd) hr3
theorem lc_fence (h1 : vp_in (nI (4 * k) + 1) o.2.2.2.2.2.1) (h2 : vp_in (nI (4 * k) + 2) o.2.2.2.2.2.1) (h3 : vp_in (nI (4 * k) + 3) o.2.2.2.2.2.1) (hB : B + 60000 ≤ m_BB) (hc : c_G B S G) (hr : r_G B S G) (hk : ∀ S' G', c_G (B + 60000) S' G' → r_G (B + 60000) S' G' → zG o 994 mdL_law 674 [(3, .int (nI (4 * k))), (2, .ref (z_adr o (23, 0, 0))), (1, .ref (z_adr o (0, 0, 0))), (0, .ref o.2.2.2.2.1)] [] S' Q) : zG o 994 mdL_law 258 [(3, .int (nI (4 * k))), (2, .ref (z_adr o (23, 0, 0))), (1, .ref (z_adr o (0, 0, 0))), (0, .ref o.2.2.2.2.1)] [] S Q := by
  show zJ o mdL_law 258 _ [] (994, z_enc o S) 0 0 _
  have C := c_fence (o := o) hB S hc
  have R := fun S2 hr2 => r_fence (o := o) (G := G) (B := B) hB S2 hr2
  generalize g_fence G = a at C R
  refine zJ.aload_n (pc := 258) 2 dL_law_258 rfl rfl ?_
  refine zG.callVi (d := mdL_law) (pc := 259) [] [] (ob_0 o) ok_0 rfl dL_law_259 ⟨(cb_X4_fence).1, (cb_X4_fence).2, (Nat.le_of_ble_eq_true rfl), (Nat.le_of_ble_eq_true rfl)⟩ ml_L_32 ci_X4_fence cv_X4_fence rfl (Nat.le_of_ble_eq_true rfl) (Nat.le_of_ble_eq_true rfl) rfl C (fun x S2 h2 => ?_)
  obtain ⟨e2, hc2, hu⟩ := h2
  have hr2 := RG_up hr hu
  refine zJ.aload_n (pc := 262) 1 dL_law_262 rfl rfl ?_
  refine zG.callVi (d := mdL_law) (pc := 263) [] [_] (ob_23 o) ok_23 rfl dL_law_263 ⟨(cb_X5_fence).1, (cb_X5_fence).2, (Nat.le_of_ble_eq_true rfl), (Nat.le_of_ble_eq_true rfl)⟩ ml_L_35 ci_X5_fence cv_X5_fence rfl (Nat.le_of_ble_eq_true rfl) (Nat.le_of_ble_eq_true rfl) rfl (R S2 hr2) (fun x S3 h3 => ?_)
  obtain ⟨e3, hr3, hd⟩ := h3
  refine zJ.icmp_eq (pc := 266) (tgt := 674) dL_law_266 (by decide) (fun _ => ?_) (fun hne => absurd (e2.trans e3.symm) hne)
  exact hk S3 _ (G_dn hc2 hd) hr3
theorem lc_ticks (h1 : vp_in (nI (4 * k) + 1) o.2.2.2.2.2.1) (h2 : vp_in (nI (4 * k) + 2) o.2.2.2.2.2.1) (h3 : vp_in (nI (4 * k) + 3) o.2.2.2.2.2.1) (hB : B + 60000 ≤ m_BB) (hc : c_G B S G) (hr : r_G B S G) (hk : ∀ S' G', c_G (B + 60000) S' G' → r_G (B + 60000) S' G' → zG o 994 mdL_law 674 [(3, .int (nI (4 * k))), (2, .ref (z_adr o (23, 0, 0))), (1, .ref (z_adr o (0, 0, 0))), (0, .ref o.2.2.2.2.1)] [] S' Q) : zG o 994 mdL_law 271 [(3, .int (nI (4 * k))), (2, .ref (z_adr o (23, 0, 0))), (1, .ref (z_adr o (0, 0, 0))), (0, .ref o.2.2.2.2.1)] [] S Q := by
  show zJ o mdL_law 271 _ [] (994, z_enc o S) 0 0 _
  have C := c_ticks (o := o) hB S hc (o.2.2.2.2.2.2 (nI (4 * k) + 1).toNatClampNeg)
  have R := fun S2 hr2 => r_ticks (o := o) (G := G) (B := B) hB S2 hr2 (o.2.2.2.2.2.2 (nI (4 * k) + 1).toNatClampNeg)
  generalize g_ticks G (o.2.2.2.2.2.2 (nI (4 * k) + 1).toNatClampNeg) = a at C R
  refine zJ.aload_n (pc := 271) 2 dL_law_271 rfl rfl ?_
  refine zJ.aload_n (pc := 272) 3 dL_law_272 rfl rfl ?_
  refine zJ.iload_n (pc := 273) 0 dL_law_273 rfl rfl ?_
  refine zJ.iconst (pc := 274) (v := 1) dL_law_274 (by decide) ?_
  refine zJ.iadd (pc := 275) dL_law_275 ?_
  refine zJ.scald (pc := 276) dL_law_276 h1 ?_
  refine zG.callVi (d := mdL_law) (pc := 277) [.int (o.2.2.2.2.2.2 (nI (4 * k) + 1).toNatClampNeg)] [] (ob_0 o) ok_0 rfl dL_law_277 ⟨(cb_X4_ticks).1, (cb_X4_ticks).2, (Nat.le_of_ble_eq_true rfl), (Nat.le_of_ble_eq_true rfl)⟩ ml_L_36 ci_X4_ticks cv_X4_ticks rfl (Nat.le_of_ble_eq_true rfl) (Nat.le_of_ble_eq_true rfl) rfl C (fun x S2 h2 => ?_)
  obtain ⟨e2, hc2, hu⟩ := h2
  have hr2 := RG_up hr hu
  refine zJ.aload_n (pc := 280) 1 dL_law_280 rfl rfl ?_
  refine zJ.aload_n (pc := 281) 3 dL_law_281 rfl rfl ?_
  refine zJ.iload_n (pc := 282) 0 dL_law_282 rfl rfl ?_
  refine zJ.iconst (pc := 283) (v := 1) dL_law_283 (by decide) ?_
  refine zJ.iadd (pc := 284) dL_law_284 ?_
  refine zJ.scald (pc := 285) dL_law_285 h1 ?_
  refine zG.callVi (d := mdL_law) (pc := 286) [.int (o.2.2.2.2.2.2 (nI (4 * k) + 1).toNatClampNeg)] [_] (ob_23 o) ok_23 rfl dL_law_286 ⟨(cb_X5_ticks).1, (cb_X5_ticks).2, (Nat.le_of_ble_eq_true rfl), (Nat.le_of_ble_eq_true rfl)⟩ ml_L_40 ci_X5_ticks cv_X5_ticks rfl (Nat.le_of_ble_eq_true rfl) (Nat.le_of_ble_eq_true rfl) rfl (R S2 hr2) (fun x S3 h3 => ?_)
  obtain ⟨e3, hr3, hd⟩ := h3
  refine zJ.icmp_eq (pc := 289) (tgt := 674) dL_law_289 (by decide) (fun _ => ?_) (fun hne => absurd (e2.trans e3.symm) hne)
  exact hk S3 _ (G_dn hc2 hd) hr3
theorem lc_draw (h1 : vp_in (nI (4 * k) + 1) o.2.2.2.2.2.1) (h2 : vp_in (nI (4 * k) + 2) o.2.2.2.2.2.1) (h3 : vp_in (nI (4 * k) + 3) o.2.2.2.2.2.1) (hB : B + 60000 ≤ m_BB) (hc : c_G B S G) (hr : r_G B S G) (hk : ∀ S' G', c_G (B + 60000) S' G' → r_G (B + 60000) S' G' → zG o 994 mdL_law 674 [(3, .int (nI (4 * k))), (2, .ref (z_adr o (23, 0, 0))), (1, .ref (z_adr o (0, 0, 0))), (0, .ref o.2.2.2.2.1)] [] S' Q) : zG o 994 mdL_law 294 [(3, .int (nI (4 * k))), (2, .ref (z_adr o (23, 0, 0))), (1, .ref (z_adr o (0, 0, 0))), (0, .ref o.2.2.2.2.1)] [] S Q := by
  show zJ o mdL_law 294 _ [] (994, z_enc o S) 0 0 _
  have C := c_draw (o := o) hB S hc (o.2.2.2.2.2.2 (nI (4 * k) + 1).toNatClampNeg) (o.2.2.2.2.2.2 (nI (4 * k) + 2).toNatClampNeg)
  have R := fun S2 hr2 => r_draw (o := o) (G := G) (B := B) hB S2 hr2 (o.2.2.2.2.2.2 (nI (4 * k) + 1).toNatClampNeg) (o.2.2.2.2.2.2 (nI (4 * k) + 2).toNatClampNeg)
  generalize g_draw G (o.2.2.2.2.2.2 (nI (4 * k) + 1).toNatClampNeg) (o.2.2.2.2.2.2 (nI (4 * k) + 2).toNatClampNeg) = a at C R
  refine zJ.aload_n (pc := 294) 2 dL_law_294 rfl rfl ?_
  refine zJ.aload_n (pc := 295) 3 dL_law_295 rfl rfl ?_
  refine zJ.iload_n (pc := 296) 0 dL_law_296 rfl rfl ?_
  refine zJ.iconst (pc := 297) (v := 1) dL_law_297 (by decide) ?_
  refine zJ.iadd (pc := 298) dL_law_298 ?_
  refine zJ.scald (pc := 299) dL_law_299 h1 ?_
  refine zJ.aload_n (pc := 300) 3 dL_law_300 rfl rfl ?_
  refine zJ.iload_n (pc := 301) 0 dL_law_301 rfl rfl ?_
  refine zJ.iconst (pc := 302) (v := 2) dL_law_302 (by decide) ?_
  refine zJ.iadd (pc := 303) dL_law_303 ?_
  refine zJ.scald (pc := 304) dL_law_304 h2 ?_
  refine zG.callVi (d := mdL_law) (pc := 305) [.int (o.2.2.2.2.2.2 (nI (4 * k) + 1).toNatClampNeg), .int (o.2.2.2.2.2.2 (nI (4 * k) + 2).toNatClampNeg)] [] (ob_0 o) ok_0 rfl dL_law_305 ⟨(cb_X4_draw).1, (cb_X4_draw).2, (Nat.le_of_ble_eq_true rfl), (Nat.le_of_ble_eq_true rfl)⟩ ml_L_41 ci_X4_draw cv_X4_draw rfl (Nat.le_of_ble_eq_true rfl) (Nat.le_of_ble_eq_true rfl) rfl C (fun x S2 h2 => ?_)
  obtain ⟨e2, hc2, hu⟩ := h2
  have hr2 := RG_up hr hu
  refine zJ.aload_n (pc := 308) 1 dL_law_308 rfl rfl ?_
  refine zJ.aload_n (pc := 309) 3 dL_law_309 rfl rfl ?_
  refine zJ.iload_n (pc := 310) 0 dL_law_310 rfl rfl ?_
  refine zJ.iconst (pc := 311) (v := 1) dL_law_311 (by decide) ?_
  refine zJ.iadd (pc := 312) dL_law_312 ?_
  refine zJ.scald (pc := 313) dL_law_313 h1 ?_
  refine zJ.aload_n (pc := 314) 3 dL_law_314 rfl rfl ?_
  refine zJ.iload_n (pc := 315) 0 dL_law_315 rfl rfl ?_
  refine zJ.iconst (pc := 316) (v := 2) dL_law_316 (by decide) ?_
  refine zJ.iadd (pc := 317) dL_law_317 ?_
  refine zJ.scald (pc := 318) dL_law_318 h2 ?_
  refine zG.callVi (d := mdL_law) (pc := 319) [.int (o.2.2.2.2.2.2 (nI (4 * k) + 1).toNatClampNeg), .int (o.2.2.2.2.2.2 (nI (4 * k) + 2).toNatClampNeg)] [_] (ob_23 o) ok_23 rfl dL_law_319 ⟨(cb_X5_draw).1, (cb_X5_draw).2, (Nat.le_of_ble_eq_true rfl), (Nat.le_of_ble_eq_true rfl)⟩ ml_L_44 ci_X5_draw cv_X5_draw rfl (Nat.le_of_ble_eq_true rfl) (Nat.le_of_ble_eq_true rfl) rfl (R S2 hr2) (fun x S3 h3 => ?_)
  obtain ⟨e3, hr3, hd⟩ := h3
  refine zJ.icmp_eq (pc := 322) (tgt := 674) dL_law_322 (by decide) (fun _ => ?_) (fun hne => absurd (e2.trans e3.symm) hne)
  exact hk S3 _ (G_dn hc2 hd) hr3
theorem lc_got (h1 : vp_in (nI (4 * k) + 1) o.2.2.2.2.2.1) (h2 : vp_in (nI (4 * k) + 2) o.2.2.2.2.2.1) (h3 : vp_in (nI (4 * k) + 3) o.2.2.2.2.2.1) (hB : B + 60000 ≤ m_BB) (hc : c_G B S G) (hr : r_G B S G) (hk : ∀ S' G', c_G (B + 60000) S' G' → r_G (B + 60000) S' G' → zG o 994 mdL_law 674 [(3, .int (nI (4 * k))), (2, .ref (z_adr o (23, 0, 0))), (1, .ref (z_adr o (0, 0, 0))), (0, .ref o.2.2.2.2.1)] [] S' Q) : zG o 994 mdL_law 327 [(3, .int (nI (4 * k))), (2, .ref (z_adr o (23, 0, 0))), (1, .ref (z_adr o (0, 0, 0))), (0, .ref o.2.2.2.2.1)] [] S Q := by
  show zJ o mdL_law 327 _ [] (994, z_enc o S) 0 0 _
  have C := c_got (o := o) hB S hc (o.2.2.2.2.2.2 (nI (4 * k) + 1).toNatClampNeg) (o.2.2.2.2.2.2 (nI (4 * k) + 2).toNatClampNeg)
  have R := fun S2 hr2 => r_got (o := o) (G := G) (B := B) hB S2 hr2 (o.2.2.2.2.2.2 (nI (4 * k) + 1).toNatClampNeg) (o.2.2.2.2.2.2 (nI (4 * k) + 2).toNatClampNeg)
  generalize g_got G (o.2.2.2.2.2.2 (nI (4 * k) + 1).toNatClampNeg) (o.2.2.2.2.2.2 (nI (4 * k) + 2).toNatClampNeg) = a at C R
  refine zJ.aload_n (pc := 327) 2 dL_law_327 rfl rfl ?_
  refine zJ.aload_n (pc := 328) 3 dL_law_328 rfl rfl ?_
  refine zJ.iload_n (pc := 329) 0 dL_law_329 rfl rfl ?_
  refine zJ.iconst (pc := 330) (v := 1) dL_law_330 (by decide) ?_
  refine zJ.iadd (pc := 331) dL_law_331 ?_
  refine zJ.scald (pc := 332) dL_law_332 h1 ?_
  refine zJ.aload_n (pc := 333) 3 dL_law_333 rfl rfl ?_
  refine zJ.iload_n (pc := 334) 0 dL_law_334 rfl rfl ?_
  refine zJ.iconst (pc := 335) (v := 2) dL_law_335 (by decide) ?_
  refine zJ.iadd (pc := 336) dL_law_336 ?_
  refine zJ.scald (pc := 337) dL_law_337 h2 ?_
  refine zG.callVi (d := mdL_law) (pc := 338) [.int (o.2.2.2.2.2.2 (nI (4 * k) + 1).toNatClampNeg), .int (o.2.2.2.2.2.2 (nI (4 * k) + 2).toNatClampNeg)] [] (ob_0 o) ok_0 rfl dL_law_338 ⟨(cb_X4_got).1, (cb_X4_got).2, (Nat.le_of_ble_eq_true rfl), (Nat.le_of_ble_eq_true rfl)⟩ ml_L_45 ci_X4_got cv_X4_got rfl (Nat.le_of_ble_eq_true rfl) (Nat.le_of_ble_eq_true rfl) rfl C (fun x S2 h2 => ?_)
  obtain ⟨e2, hc2, hu⟩ := h2
  have hr2 := RG_up hr hu
  refine zJ.aload_n (pc := 341) 1 dL_law_341 rfl rfl ?_
  refine zJ.aload_n (pc := 342) 3 dL_law_342 rfl rfl ?_
  refine zJ.iload_n (pc := 343) 0 dL_law_343 rfl rfl ?_
  refine zJ.iconst (pc := 344) (v := 1) dL_law_344 (by decide) ?_
  refine zJ.iadd (pc := 345) dL_law_345 ?_
  refine zJ.scald (pc := 346) dL_law_346 h1 ?_
  refine zJ.aload_n (pc := 347) 3 dL_law_347 rfl rfl ?_
  refine zJ.iload_n (pc := 348) 0 dL_law_348 rfl rfl ?_
  refine zJ.iconst (pc := 349) (v := 2) dL_law_349 (by decide) ?_
  refine zJ.iadd (pc := 350) dL_law_350 ?_
  refine zJ.scald (pc := 351) dL_law_351 h2 ?_
  refine zG.callVi (d := mdL_law) (pc := 352) [.int (o.2.2.2.2.2.2 (nI (4 * k) + 1).toNatClampNeg), .int (o.2.2.2.2.2.2 (nI (4 * k) + 2).toNatClampNeg)] [_] (ob_23 o) ok_23 rfl dL_law_352 ⟨(cb_X5_got).1, (cb_X5_got).2, (Nat.le_of_ble_eq_true rfl), (Nat.le_of_ble_eq_true rfl)⟩ ml_L_48 ci_X5_got cv_X5_got rfl (Nat.le_of_ble_eq_true rfl) (Nat.le_of_ble_eq_true rfl) rfl (R S2 hr2) (fun x S3 h3 => ?_)
  obtain ⟨e3, hr3, hd⟩ := h3
  refine zJ.icmp_eq (pc := 355) (tgt := 674) dL_law_355 (by decide) (fun _ => ?_) (fun hne => absurd (e2.trans e3.symm) hne)
  exact hk S3 _ (G_dn hc2 hd) hr3
theorem lc_often (h1 : vp_in (nI (4 * k) + 1) o.2.2.2.2.2.1) (h2 : vp_in (nI (4 * k) + 2) o.2.2.2.2.2.1) (h3 : vp_in (nI (4 * k) + 3) o.2.2.2.2.2.1) (hB : B + 60000 ≤ m_BB) (hc : c_G B S G) (hr : r_G B S G) (hk : ∀ S' G', c_G (B + 60000) S' G' → r_G (B + 60000) S' G' → zG o 994 mdL_law 674 [(3, .int (nI (4 * k))), (2, .ref (z_adr o (23, 0, 0))), (1, .ref (z_adr o (0, 0, 0))), (0, .ref o.2.2.2.2.1)] [] S' Q) : zG o 994 mdL_law 360 [(3, .int (nI (4 * k))), (2, .ref (z_adr o (23, 0, 0))), (1, .ref (z_adr o (0, 0, 0))), (0, .ref o.2.2.2.2.1)] [] S Q := by
  show zJ o mdL_law 360 _ [] (994, z_enc o S) 0 0 _
  have C := c_often (o := o) S hc (o.2.2.2.2.2.2 (nI (4 * k) + 1).toNatClampNeg)
  have R := fun S2 hr2 => r_often (o := o) (G := G) (B := B) S2 hr2 (o.2.2.2.2.2.2 (nI (4 * k) + 1).toNatClampNeg)
  generalize g_often G (o.2.2.2.2.2.2 (nI (4 * k) + 1).toNatClampNeg) = a at C R
  refine zJ.aload_n (pc := 360) 2 dL_law_360 rfl rfl ?_
  refine zJ.aload_n (pc := 361) 3 dL_law_361 rfl rfl ?_
  refine zJ.iload_n (pc := 362) 0 dL_law_362 rfl rfl ?_
  refine zJ.iconst (pc := 363) (v := 1) dL_law_363 (by decide) ?_
  refine zJ.iadd (pc := 364) dL_law_364 ?_
  refine zJ.scald (pc := 365) dL_law_365 h1 ?_
  refine zG.callVi (d := mdL_law) (pc := 366) [.int (o.2.2.2.2.2.2 (nI (4 * k) + 1).toNatClampNeg)] [] (ob_0 o) ok_0 rfl dL_law_366 ⟨(cb_X4_often).1, (cb_X4_often).2, (Nat.le_of_ble_eq_true rfl), (Nat.le_of_ble_eq_true rfl)⟩ ml_L_49 ci_X4_often cv_X4_often rfl (Nat.le_of_ble_eq_true rfl) (Nat.le_of_ble_eq_true rfl) rfl C (fun x S2 h2 => ?_)
  obtain ⟨e2, hc2, hu⟩ := h2
  have hr2 := RG_up hr hu
  refine zJ.aload_n (pc := 369) 1 dL_law_369 rfl rfl ?_
  refine zJ.aload_n (pc := 370) 3 dL_law_370 rfl rfl ?_
  refine zJ.iload_n (pc := 371) 0 dL_law_371 rfl rfl ?_
  refine zJ.iconst (pc := 372) (v := 1) dL_law_372 (by decide) ?_
  refine zJ.iadd (pc := 373) dL_law_373 ?_
  refine zJ.scald (pc := 374) dL_law_374 h1 ?_
  refine zG.callVi (d := mdL_law) (pc := 375) [.int (o.2.2.2.2.2.2 (nI (4 * k) + 1).toNatClampNeg)] [_] (ob_23 o) ok_23 rfl dL_law_375 ⟨(cb_X5_often).1, (cb_X5_often).2, (Nat.le_of_ble_eq_true rfl), (Nat.le_of_ble_eq_true rfl)⟩ ml_L_52 ci_X5_often cv_X5_often rfl (Nat.le_of_ble_eq_true rfl) (Nat.le_of_ble_eq_true rfl) rfl (R S2 hr2) (fun x S3 h3 => ?_)
  obtain ⟨e3, hr3, hd⟩ := h3
  refine zJ.icmp_eq (pc := 378) (tgt := 674) dL_law_378 (by decide) (fun _ => ?_) (fun hne => absurd (e2.trans e3.symm) hne)
  exact hk S3 _ (G_dn hc2 hd) hr3
theorem lc_where (h1 : vp_in (nI (4 * k) + 1) o.2.2.2.2.2.1) (h2 : vp_in (nI (4 * k) + 2) o.2.2.2.2.2.1) (h3 : vp_in (nI (4 * k) + 3) o.2.2.2.2.2.1) (hB : B + 60000 ≤ m_BB) (hc : c_G B S G) (hr : r_G B S G) (hk : ∀ S' G', c_G (B + 60000) S' G' → r_G (B + 60000) S' G' → zG o 994 mdL_law 674 [(3, .int (nI (4 * k))), (2, .ref (z_adr o (23, 0, 0))), (1, .ref (z_adr o (0, 0, 0))), (0, .ref o.2.2.2.2.1)] [] S' Q) : zG o 994 mdL_law 383 [(3, .int (nI (4 * k))), (2, .ref (z_adr o (23, 0, 0))), (1, .ref (z_adr o (0, 0, 0))), (0, .ref o.2.2.2.2.1)] [] S Q := by
  show zJ o mdL_law 383 _ [] (994, z_enc o S) 0 0 _
  have C := c_where (o := o) S hc (o.2.2.2.2.2.2 (nI (4 * k) + 1).toNatClampNeg)
  have R := fun S2 hr2 => r_where (o := o) (G := G) (B := B) S2 hr2 (o.2.2.2.2.2.2 (nI (4 * k) + 1).toNatClampNeg)
  generalize g_where G (o.2.2.2.2.2.2 (nI (4 * k) + 1).toNatClampNeg) = a at C R
  refine zJ.aload_n (pc := 383) 2 dL_law_383 rfl rfl ?_
  refine zJ.aload_n (pc := 384) 3 dL_law_384 rfl rfl ?_
  refine zJ.iload_n (pc := 385) 0 dL_law_385 rfl rfl ?_
  refine zJ.iconst (pc := 386) (v := 1) dL_law_386 (by decide) ?_
  refine zJ.iadd (pc := 387) dL_law_387 ?_
  refine zJ.scald (pc := 388) dL_law_388 h1 ?_
  refine zG.callVi (d := mdL_law) (pc := 389) [.int (o.2.2.2.2.2.2 (nI (4 * k) + 1).toNatClampNeg)] [] (ob_0 o) ok_0 rfl dL_law_389 ⟨(cb_X4_where).1, (cb_X4_where).2, (Nat.le_of_ble_eq_true rfl), (Nat.le_of_ble_eq_true rfl)⟩ ml_L_53 ci_X4_where cv_X4_where rfl (Nat.le_of_ble_eq_true rfl) (Nat.le_of_ble_eq_true rfl) rfl C (fun x S2 h2 => ?_)
  obtain ⟨e2, hc2, hu⟩ := h2
  have hr2 := RG_up hr hu
  refine zJ.aload_n (pc := 392) 1 dL_law_392 rfl rfl ?_
  refine zJ.aload_n (pc := 393) 3 dL_law_393 rfl rfl ?_
  refine zJ.iload_n (pc := 394) 0 dL_law_394 rfl rfl ?_
  refine zJ.iconst (pc := 395) (v := 1) dL_law_395 (by decide) ?_
  refine zJ.iadd (pc := 396) dL_law_396 ?_
  refine zJ.scald (pc := 397) dL_law_397 h1 ?_
  refine zG.callVi (d := mdL_law) (pc := 398) [.int (o.2.2.2.2.2.2 (nI (4 * k) + 1).toNatClampNeg)] [_] (ob_23 o) ok_23 rfl dL_law_398 ⟨(cb_X5_where).1, (cb_X5_where).2, (Nat.le_of_ble_eq_true rfl), (Nat.le_of_ble_eq_true rfl)⟩ ml_L_56 ci_X5_where cv_X5_where rfl (Nat.le_of_ble_eq_true rfl) (Nat.le_of_ble_eq_true rfl) rfl (R S2 hr2) (fun x S3 h3 => ?_)
  obtain ⟨e3, hr3, hd⟩ := h3
  refine zJ.icmp_eq (pc := 401) (tgt := 674) dL_law_401 (by decide) (fun _ => ?_) (fun hne => absurd (e2.trans e3.symm) hne)
  exact hk S3 _ (G_dn hc2 hd) hr3
theorem lc_item (h1 : vp_in (nI (4 * k) + 1) o.2.2.2.2.2.1) (h2 : vp_in (nI (4 * k) + 2) o.2.2.2.2.2.1) (h3 : vp_in (nI (4 * k) + 3) o.2.2.2.2.2.1) (hB : B + 60000 ≤ m_BB) (hc : c_G B S G) (hr : r_G B S G) (hk : ∀ S' G', c_G (B + 60000) S' G' → r_G (B + 60000) S' G' → zG o 994 mdL_law 674 [(3, .int (nI (4 * k))), (2, .ref (z_adr o (23, 0, 0))), (1, .ref (z_adr o (0, 0, 0))), (0, .ref o.2.2.2.2.1)] [] S' Q) : zG o 994 mdL_law 406 [(3, .int (nI (4 * k))), (2, .ref (z_adr o (23, 0, 0))), (1, .ref (z_adr o (0, 0, 0))), (0, .ref o.2.2.2.2.1)] [] S Q := by
  show zJ o mdL_law 406 _ [] (994, z_enc o S) 0 0 _
  have C := c_item (o := o) S hc (o.2.2.2.2.2.2 (nI (4 * k) + 1).toNatClampNeg) (o.2.2.2.2.2.2 (nI (4 * k) + 2).toNatClampNeg) (o.2.2.2.2.2.2 (nI (4 * k) + 3).toNatClampNeg)
  have R := fun S2 hr2 => r_item (o := o) (G := G) (B := B) S2 hr2 (o.2.2.2.2.2.2 (nI (4 * k) + 1).toNatClampNeg) (o.2.2.2.2.2.2 (nI (4 * k) + 2).toNatClampNeg) (o.2.2.2.2.2.2 (nI (4 * k) + 3).toNatClampNeg)
  generalize g_item G (o.2.2.2.2.2.2 (nI (4 * k) + 1).toNatClampNeg) (o.2.2.2.2.2.2 (nI (4 * k) + 2).toNatClampNeg) (o.2.2.2.2.2.2 (nI (4 * k) + 3).toNatClampNeg) = a at C R
  refine zJ.aload_n (pc := 406) 2 dL_law_406 rfl rfl ?_
  refine zJ.aload_n (pc := 407) 3 dL_law_407 rfl rfl ?_
  refine zJ.iload_n (pc := 408) 0 dL_law_408 rfl rfl ?_
  refine zJ.iconst (pc := 409) (v := 1) dL_law_409 (by decide) ?_
  refine zJ.iadd (pc := 410) dL_law_410 ?_
  refine zJ.scald (pc := 411) dL_law_411 h1 ?_
  refine zJ.aload_n (pc := 412) 3 dL_law_412 rfl rfl ?_
  refine zJ.iload_n (pc := 413) 0 dL_law_413 rfl rfl ?_
  refine zJ.iconst (pc := 414) (v := 2) dL_law_414 (by decide) ?_
  refine zJ.iadd (pc := 415) dL_law_415 ?_
  refine zJ.scald (pc := 416) dL_law_416 h2 ?_
  refine zJ.aload_n (pc := 417) 3 dL_law_417 rfl rfl ?_
  refine zJ.iload_n (pc := 418) 0 dL_law_418 rfl rfl ?_
  refine zJ.iconst (pc := 419) (v := 3) dL_law_419 (by decide) ?_
  refine zJ.iadd (pc := 420) dL_law_420 ?_
  refine zJ.scald (pc := 421) dL_law_421 h3 ?_
  refine zG.callVi (d := mdL_law) (pc := 422) [.int (o.2.2.2.2.2.2 (nI (4 * k) + 1).toNatClampNeg), .int (o.2.2.2.2.2.2 (nI (4 * k) + 2).toNatClampNeg), .int (o.2.2.2.2.2.2 (nI (4 * k) + 3).toNatClampNeg)] [] (ob_0 o) ok_0 rfl dL_law_422 ⟨(cb_X4_item).1, (cb_X4_item).2, (Nat.le_of_ble_eq_true rfl), (Nat.le_of_ble_eq_true rfl)⟩ ml_L_57 ci_X4_item cv_X4_item rfl (Nat.le_of_ble_eq_true rfl) (Nat.le_of_ble_eq_true rfl) rfl C (fun x S2 h2 => ?_)
  obtain ⟨e2, hc2, hu⟩ := h2
  have hr2 := RG_up hr hu
  refine zJ.aload_n (pc := 425) 1 dL_law_425 rfl rfl ?_
  refine zJ.aload_n (pc := 426) 3 dL_law_426 rfl rfl ?_
  refine zJ.iload_n (pc := 427) 0 dL_law_427 rfl rfl ?_
  refine zJ.iconst (pc := 428) (v := 1) dL_law_428 (by decide) ?_
  refine zJ.iadd (pc := 429) dL_law_429 ?_
  refine zJ.scald (pc := 430) dL_law_430 h1 ?_
  refine zJ.aload_n (pc := 431) 3 dL_law_431 rfl rfl ?_
  refine zJ.iload_n (pc := 432) 0 dL_law_432 rfl rfl ?_
  refine zJ.iconst (pc := 433) (v := 2) dL_law_433 (by decide) ?_
  refine zJ.iadd (pc := 434) dL_law_434 ?_
  refine zJ.scald (pc := 435) dL_law_435 h2 ?_
  refine zJ.aload_n (pc := 436) 3 dL_law_436 rfl rfl ?_
  refine zJ.iload_n (pc := 437) 0 dL_law_437 rfl rfl ?_
  refine zJ.iconst (pc := 438) (v := 3) dL_law_438 (by decide) ?_
  refine zJ.iadd (pc := 439) dL_law_439 ?_
  refine zJ.scald (pc := 440) dL_law_440 h3 ?_
  refine zG.callVi (d := mdL_law) (pc := 441) [.int (o.2.2.2.2.2.2 (nI (4 * k) + 1).toNatClampNeg), .int (o.2.2.2.2.2.2 (nI (4 * k) + 2).toNatClampNeg), .int (o.2.2.2.2.2.2 (nI (4 * k) + 3).toNatClampNeg)] [_] (ob_23 o) ok_23 rfl dL_law_441 ⟨(cb_X5_item).1, (cb_X5_item).2, (Nat.le_of_ble_eq_true rfl), (Nat.le_of_ble_eq_true rfl)⟩ ml_L_60 ci_X5_item cv_X5_item rfl (Nat.le_of_ble_eq_true rfl) (Nat.le_of_ble_eq_true rfl) rfl (R S2 hr2) (fun x S3 h3 => ?_)
  obtain ⟨e3, hr3, hd⟩ := h3
  refine zJ.icmp_eq (pc := 444) (tgt := 674) dL_law_444 (by decide) (fun _ => ?_) (fun hne => absurd (e2.trans e3.symm) hne)
  exact hk S3 _ (G_dn hc2 hd) hr3
theorem lc_place (h1 : vp_in (nI (4 * k) + 1) o.2.2.2.2.2.1) (h2 : vp_in (nI (4 * k) + 2) o.2.2.2.2.2.1) (h3 : vp_in (nI (4 * k) + 3) o.2.2.2.2.2.1) (hB : B + 60000 ≤ m_BB) (hc : c_G B S G) (hr : r_G B S G) (hk : ∀ S' G', c_G (B + 60000) S' G' → r_G (B + 60000) S' G' → zG o 994 mdL_law 674 [(3, .int (nI (4 * k))), (2, .ref (z_adr o (23, 0, 0))), (1, .ref (z_adr o (0, 0, 0))), (0, .ref o.2.2.2.2.1)] [] S' Q) : zG o 994 mdL_law 449 [(3, .int (nI (4 * k))), (2, .ref (z_adr o (23, 0, 0))), (1, .ref (z_adr o (0, 0, 0))), (0, .ref o.2.2.2.2.1)] [] S Q := by
  show zJ o mdL_law 449 _ [] (994, z_enc o S) 0 0 _
  have C := c_place (o := o) hB S hc (o.2.2.2.2.2.2 (nI (4 * k) + 1).toNatClampNeg) (o.2.2.2.2.2.2 (nI (4 * k) + 2).toNatClampNeg)
  have R := fun S2 hr2 => r_place (o := o) (G := G) (B := B) S2 hr2 (o.2.2.2.2.2.2 (nI (4 * k) + 1).toNatClampNeg) (o.2.2.2.2.2.2 (nI (4 * k) + 2).toNatClampNeg)
  generalize g_place G (o.2.2.2.2.2.2 (nI (4 * k) + 1).toNatClampNeg) (o.2.2.2.2.2.2 (nI (4 * k) + 2).toNatClampNeg) = a at C R
  refine zJ.aload_n (pc := 449) 2 dL_law_449 rfl rfl ?_
  refine zJ.aload_n (pc := 450) 3 dL_law_450 rfl rfl ?_
  refine zJ.iload_n (pc := 451) 0 dL_law_451 rfl rfl ?_
  refine zJ.iconst (pc := 452) (v := 1) dL_law_452 (by decide) ?_
  refine zJ.iadd (pc := 453) dL_law_453 ?_
  refine zJ.scald (pc := 454) dL_law_454 h1 ?_
  refine zJ.aload_n (pc := 455) 3 dL_law_455 rfl rfl ?_
  refine zJ.iload_n (pc := 456) 0 dL_law_456 rfl rfl ?_
  refine zJ.iconst (pc := 457) (v := 2) dL_law_457 (by decide) ?_
  refine zJ.iadd (pc := 458) dL_law_458 ?_
  refine zJ.scald (pc := 459) dL_law_459 h2 ?_
  refine zG.callVi (d := mdL_law) (pc := 460) [.int (o.2.2.2.2.2.2 (nI (4 * k) + 1).toNatClampNeg), .int (o.2.2.2.2.2.2 (nI (4 * k) + 2).toNatClampNeg)] [] (ob_0 o) ok_0 rfl dL_law_460 ⟨(cb_X4_place).1, (cb_X4_place).2, (Nat.le_of_ble_eq_true rfl), (Nat.le_of_ble_eq_true rfl)⟩ ml_L_61 ci_X4_place cv_X4_place rfl (Nat.le_of_ble_eq_true rfl) (Nat.le_of_ble_eq_true rfl) rfl C (fun x S2 h2 => ?_)
  obtain ⟨e2, hc2, hu⟩ := h2
  have hr2 := RG_up hr hu
  refine zJ.aload_n (pc := 463) 1 dL_law_463 rfl rfl ?_
  refine zJ.aload_n (pc := 464) 3 dL_law_464 rfl rfl ?_
  refine zJ.iload_n (pc := 465) 0 dL_law_465 rfl rfl ?_
  refine zJ.iconst (pc := 466) (v := 1) dL_law_466 (by decide) ?_
  refine zJ.iadd (pc := 467) dL_law_467 ?_
  refine zJ.scald (pc := 468) dL_law_468 h1 ?_
  refine zJ.aload_n (pc := 469) 3 dL_law_469 rfl rfl ?_
  refine zJ.iload_n (pc := 470) 0 dL_law_470 rfl rfl ?_
  refine zJ.iconst (pc := 471) (v := 2) dL_law_471 (by decide) ?_
  refine zJ.iadd (pc := 472) dL_law_472 ?_
  refine zJ.scald (pc := 473) dL_law_473 h2 ?_
  refine zG.callVi (d := mdL_law) (pc := 474) [.int (o.2.2.2.2.2.2 (nI (4 * k) + 1).toNatClampNeg), .int (o.2.2.2.2.2.2 (nI (4 * k) + 2).toNatClampNeg)] [_] (ob_23 o) ok_23 rfl dL_law_474 ⟨(cb_X5_place).1, (cb_X5_place).2, (Nat.le_of_ble_eq_true rfl), (Nat.le_of_ble_eq_true rfl)⟩ ml_L_64 ci_X5_place cv_X5_place rfl (Nat.le_of_ble_eq_true rfl) (Nat.le_of_ble_eq_true rfl) rfl (R S2 hr2) (fun x S3 h3 => ?_)
  obtain ⟨e3, hr3, hd⟩ := h3
  refine zJ.icmp_eq (pc := 477) (tgt := 674) dL_law_477 (by decide) (fun _ => ?_) (fun hne => absurd (e2.trans e3.symm) hne)
  exact hk S3 _ (G_dn hc2 hd) hr3
theorem lc_fetch (h1 : vp_in (nI (4 * k) + 1) o.2.2.2.2.2.1) (h2 : vp_in (nI (4 * k) + 2) o.2.2.2.2.2.1) (h3 : vp_in (nI (4 * k) + 3) o.2.2.2.2.2.1) (hB : B + 60000 ≤ m_BB) (hc : c_G B S G) (hr : r_G B S G) (hk : ∀ S' G', c_G (B + 60000) S' G' → r_G (B + 60000) S' G' → zG o 994 mdL_law 674 [(3, .int (nI (4 * k))), (2, .ref (z_adr o (23, 0, 0))), (1, .ref (z_adr o (0, 0, 0))), (0, .ref o.2.2.2.2.1)] [] S' Q) : zG o 994 mdL_law 482 [(3, .int (nI (4 * k))), (2, .ref (z_adr o (23, 0, 0))), (1, .ref (z_adr o (0, 0, 0))), (0, .ref o.2.2.2.2.1)] [] S Q := by
  show zJ o mdL_law 482 _ [] (994, z_enc o S) 0 0 _
  have C := c_fetch2 (o := o) hB S hc (o.2.2.2.2.2.2 (nI (4 * k) + 1).toNatClampNeg) (o.2.2.2.2.2.2 (nI (4 * k) + 2).toNatClampNeg)
  have R := fun S2 hr2 => r_fetch (o := o) (G := G) (B := B) S2 hr2 (o.2.2.2.2.2.2 (nI (4 * k) + 1).toNatClampNeg) (o.2.2.2.2.2.2 (nI (4 * k) + 2).toNatClampNeg)
  generalize g_fetch G (o.2.2.2.2.2.2 (nI (4 * k) + 1).toNatClampNeg) (o.2.2.2.2.2.2 (nI (4 * k) + 2).toNatClampNeg) = a at C R
  refine zJ.aload_n (pc := 482) 2 dL_law_482 rfl rfl ?_
  refine zJ.aload_n (pc := 483) 3 dL_law_483 rfl rfl ?_
  refine zJ.iload_n (pc := 484) 0 dL_law_484 rfl rfl ?_
  refine zJ.iconst (pc := 485) (v := 1) dL_law_485 (by decide) ?_
  refine zJ.iadd (pc := 486) dL_law_486 ?_
  refine zJ.scald (pc := 487) dL_law_487 h1 ?_
  refine zJ.aload_n (pc := 488) 3 dL_law_488 rfl rfl ?_
  refine zJ.iload_n (pc := 489) 0 dL_law_489 rfl rfl ?_
  refine zJ.iconst (pc := 490) (v := 2) dL_law_490 (by decide) ?_
  refine zJ.iadd (pc := 491) dL_law_491 ?_
  refine zJ.scald (pc := 492) dL_law_492 h2 ?_
  refine zG.callVi (d := mdL_law) (pc := 493) [.int (o.2.2.2.2.2.2 (nI (4 * k) + 1).toNatClampNeg), .int (o.2.2.2.2.2.2 (nI (4 * k) + 2).toNatClampNeg)] [] (ob_0 o) ok_0 rfl dL_law_493 ⟨(cb_X4_fetch).1, (cb_X4_fetch).2, (Nat.le_of_ble_eq_true rfl), (Nat.le_of_ble_eq_true rfl)⟩ ml_L_65 ci_X4_fetch cv_X4_fetch rfl (Nat.le_of_ble_eq_true rfl) (Nat.le_of_ble_eq_true rfl) rfl C (fun x S2 h2 => ?_)
  obtain ⟨e2, hc2, hu⟩ := h2
  have hr2 := RG_up hr hu
  refine zJ.aload_n (pc := 496) 1 dL_law_496 rfl rfl ?_
  refine zJ.aload_n (pc := 497) 3 dL_law_497 rfl rfl ?_
  refine zJ.iload_n (pc := 498) 0 dL_law_498 rfl rfl ?_
  refine zJ.iconst (pc := 499) (v := 1) dL_law_499 (by decide) ?_
  refine zJ.iadd (pc := 500) dL_law_500 ?_
  refine zJ.scald (pc := 501) dL_law_501 h1 ?_
  refine zJ.aload_n (pc := 502) 3 dL_law_502 rfl rfl ?_
  refine zJ.iload_n (pc := 503) 0 dL_law_503 rfl rfl ?_
  refine zJ.iconst (pc := 504) (v := 2) dL_law_504 (by decide) ?_
  refine zJ.iadd (pc := 505) dL_law_505 ?_
  refine zJ.scald (pc := 506) dL_law_506 h2 ?_
  refine zG.callVi (d := mdL_law) (pc := 507) [.int (o.2.2.2.2.2.2 (nI (4 * k) + 1).toNatClampNeg), .int (o.2.2.2.2.2.2 (nI (4 * k) + 2).toNatClampNeg)] [_] (ob_23 o) ok_23 rfl dL_law_507 ⟨(cb_X5_fetch).1, (cb_X5_fetch).2, (Nat.le_of_ble_eq_true rfl), (Nat.le_of_ble_eq_true rfl)⟩ ml_L_68 ci_X5_fetch cv_X5_fetch rfl (Nat.le_of_ble_eq_true rfl) (Nat.le_of_ble_eq_true rfl) rfl (R S2 hr2) (fun x S3 h3 => ?_)
  obtain ⟨e3, hr3, hd⟩ := h3
  refine zJ.icmp_eq (pc := 510) (tgt := 674) dL_law_510 (by decide) (fun _ => ?_) (fun hne => absurd (e2.trans e3.symm) hne)
  exact hk S3 _ (G_dn hc2 hd) hr3
theorem lc_cost (h1 : vp_in (nI (4 * k) + 1) o.2.2.2.2.2.1) (h2 : vp_in (nI (4 * k) + 2) o.2.2.2.2.2.1) (h3 : vp_in (nI (4 * k) + 3) o.2.2.2.2.2.1) (hB : B + 60000 ≤ m_BB) (hc : c_G B S G) (hr : r_G B S G) (hk : ∀ S' G', c_G (B + 60000) S' G' → r_G (B + 60000) S' G' → zG o 994 mdL_law 674 [(3, .int (nI (4 * k))), (2, .ref (z_adr o (23, 0, 0))), (1, .ref (z_adr o (0, 0, 0))), (0, .ref o.2.2.2.2.1)] [] S' Q) : zG o 994 mdL_law 515 [(3, .int (nI (4 * k))), (2, .ref (z_adr o (23, 0, 0))), (1, .ref (z_adr o (0, 0, 0))), (0, .ref o.2.2.2.2.1)] [] S Q := by
  show zJ o mdL_law 515 _ [] (994, z_enc o S) 0 0 _
  have C := c_cost (o := o) hB S hc (o.2.2.2.2.2.2 (nI (4 * k) + 1).toNatClampNeg)
  have R := fun S2 hr2 => r_cost (o := o) (G := G) (B := B) hB S2 hr2 (o.2.2.2.2.2.2 (nI (4 * k) + 1).toNatClampNeg)
  generalize g_cost G (o.2.2.2.2.2.2 (nI (4 * k) + 1).toNatClampNeg) = a at C R
  refine zJ.aload_n (pc := 515) 2 dL_law_515 rfl rfl ?_
  refine zJ.aload_n (pc := 516) 3 dL_law_516 rfl rfl ?_
  refine zJ.iload_n (pc := 517) 0 dL_law_517 rfl rfl ?_
  refine zJ.iconst (pc := 518) (v := 1) dL_law_518 (by decide) ?_
  refine zJ.iadd (pc := 519) dL_law_519 ?_
  refine zJ.scald (pc := 520) dL_law_520 h1 ?_
  refine zG.callVi (d := mdL_law) (pc := 521) [.int (o.2.2.2.2.2.2 (nI (4 * k) + 1).toNatClampNeg)] [] (ob_0 o) ok_0 rfl dL_law_521 ⟨(cb_X4_cost).1, (cb_X4_cost).2, (Nat.le_of_ble_eq_true rfl), (Nat.le_of_ble_eq_true rfl)⟩ ml_L_69 ci_X4_cost cv_X4_cost rfl (Nat.le_of_ble_eq_true rfl) (Nat.le_of_ble_eq_true rfl) rfl C (fun x S2 h2 => ?_)
  obtain ⟨e2, hc2, hu⟩ := h2
  have hr2 := RG_up hr hu
  refine zJ.aload_n (pc := 524) 1 dL_law_524 rfl rfl ?_
  refine zJ.aload_n (pc := 525) 3 dL_law_525 rfl rfl ?_
  refine zJ.iload_n (pc := 526) 0 dL_law_526 rfl rfl ?_
  refine zJ.iconst (pc := 527) (v := 1) dL_law_527 (by decide) ?_
  refine zJ.iadd (pc := 528) dL_law_528 ?_
  refine zJ.scald (pc := 529) dL_law_529 h1 ?_
  refine zG.callVi (d := mdL_law) (pc := 530) [.int (o.2.2.2.2.2.2 (nI (4 * k) + 1).toNatClampNeg)] [_] (ob_23 o) ok_23 rfl dL_law_530 ⟨(cb_X5_cost).1, (cb_X5_cost).2, (Nat.le_of_ble_eq_true rfl), (Nat.le_of_ble_eq_true rfl)⟩ ml_L_72 ci_X5_cost cv_X5_cost rfl (Nat.le_of_ble_eq_true rfl) (Nat.le_of_ble_eq_true rfl) rfl (R S2 hr2) (fun x S3 h3 => ?_)
  obtain ⟨e3, hr3, hd⟩ := h3
  refine zJ.icmp_eq (pc := 533) (tgt := 674) dL_law_533 (by decide) (fun _ => ?_) (fun hne => absurd (e2.trans e3.symm) hne)
  exact hk S3 _ (G_dn hc2 hd) hr3
theorem lc_even (h1 : vp_in (nI (4 * k) + 1) o.2.2.2.2.2.1) (h2 : vp_in (nI (4 * k) + 2) o.2.2.2.2.2.1) (h3 : vp_in (nI (4 * k) + 3) o.2.2.2.2.2.1) (hB : B + 60000 ≤ m_BB) (hc : c_G B S G) (hr : r_G B S G) (hk : ∀ S' G', c_G (B + 60000) S' G' → r_G (B + 60000) S' G' → zG o 994 mdL_law 674 [(3, .int (nI (4 * k))), (2, .ref (z_adr o (23, 0, 0))), (1, .ref (z_adr o (0, 0, 0))), (0, .ref o.2.2.2.2.1)] [] S' Q) : zG o 994 mdL_law 538 [(3, .int (nI (4 * k))), (2, .ref (z_adr o (23, 0, 0))), (1, .ref (z_adr o (0, 0, 0))), (0, .ref o.2.2.2.2.1)] [] S Q := by
  show zJ o mdL_law 538 _ [] (994, z_enc o S) 0 0 _
  have C := c_even (o := o) hB S hc
  have R := fun S2 hr2 => r_even (o := o) (G := G) (B := B) hB S2 hr2
  generalize (m_de G.1).toInt64 = a at C R
  refine zJ.aload_n (pc := 538) 2 dL_law_538 rfl rfl ?_
  refine zG.callVl (d := mdL_law) (pc := 539) [] [] (ob_0 o) ok_0 rfl dL_law_539 ⟨(cb_X4_even).1, (cb_X4_even).2, (Nat.le_of_ble_eq_true rfl), (Nat.le_of_ble_eq_true rfl)⟩ ml_L_73 ci_X4_even cv_X4_even rfl (Nat.le_of_ble_eq_true rfl) (Nat.le_of_ble_eq_true rfl) rfl C (fun x S2 h2 => ?_)
  obtain ⟨e2, hc2, hu⟩ := h2
  have hr2 := RG_up hr hu
  refine zJ.aload_n (pc := 542) 1 dL_law_542 rfl rfl ?_
  refine zG.callVl (d := mdL_law) (pc := 543) [] [_] (ob_23 o) ok_23 rfl dL_law_543 ⟨(cb_X5_even).1, (cb_X5_even).2, (Nat.le_of_ble_eq_true rfl), (Nat.le_of_ble_eq_true rfl)⟩ ml_L_77 ci_X5_even cv_X5_even rfl (Nat.le_of_ble_eq_true rfl) (Nat.le_of_ble_eq_true rfl) rfl (R S2 hr2) (fun x S3 h3 => ?_)
  obtain ⟨e3, hr3, hd⟩ := h3
  refine zJ.lcmp (pc := 546) dL_law_546 ?_
  refine zJ.if_eq (pc := 547) (tgt := 674) dL_law_547 (by decide) (fun _ => ?_) (fun hne => absurd (lcmp_self (e2.trans e3.symm)) hne)
  exact hk S3 _ (G_dn hc2 hd) hr3
theorem lc_best (h1 : vp_in (nI (4 * k) + 1) o.2.2.2.2.2.1) (h2 : vp_in (nI (4 * k) + 2) o.2.2.2.2.2.1) (h3 : vp_in (nI (4 * k) + 3) o.2.2.2.2.2.1) (hB : B + 60000 ≤ m_BB) (hc : c_G B S G) (hr : r_G B S G) (hk : ∀ S' G', c_G (B + 60000) S' G' → r_G (B + 60000) S' G' → zG o 994 mdL_law 674 [(3, .int (nI (4 * k))), (2, .ref (z_adr o (23, 0, 0))), (1, .ref (z_adr o (0, 0, 0))), (0, .ref o.2.2.2.2.1)] [] S' Q) : zG o 994 mdL_law 552 [(3, .int (nI (4 * k))), (2, .ref (z_adr o (23, 0, 0))), (1, .ref (z_adr o (0, 0, 0))), (0, .ref o.2.2.2.2.1)] [] S Q := by
  show zJ o mdL_law 552 _ [] (994, z_enc o S) 0 0 _
  have C := c_best (o := o) S hc (o.2.2.2.2.2.2 (nI (4 * k) + 1).toNatClampNeg)
  have R := fun S2 hr2 => r_best (o := o) (G := G) (B := B) hB S2 hr2 (o.2.2.2.2.2.2 (nI (4 * k) + 1).toNatClampNeg)
  generalize g_best G (o.2.2.2.2.2.2 (nI (4 * k) + 1).toNatClampNeg) = a at C R
  refine zJ.aload_n (pc := 552) 2 dL_law_552 rfl rfl ?_
  refine zJ.aload_n (pc := 553) 3 dL_law_553 rfl rfl ?_
  refine zJ.iload_n (pc := 554) 0 dL_law_554 rfl rfl ?_
  refine zJ.iconst (pc := 555) (v := 1) dL_law_555 (by decide) ?_
  refine zJ.iadd (pc := 556) dL_law_556 ?_
  refine zJ.scald (pc := 557) dL_law_557 h1 ?_
  refine zG.callVi (d := mdL_law) (pc := 558) [.int (o.2.2.2.2.2.2 (nI (4 * k) + 1).toNatClampNeg)] [] (ob_0 o) ok_0 rfl dL_law_558 ⟨(cb_X4_best).1, (cb_X4_best).2, (Nat.le_of_ble_eq_true rfl), (Nat.le_of_ble_eq_true rfl)⟩ ml_L_78 ci_X4_best cv_X4_best rfl (Nat.le_of_ble_eq_true rfl) (Nat.le_of_ble_eq_true rfl) rfl C (fun x S2 h2 => ?_)
  obtain ⟨e2, hc2, hu⟩ := h2
  have hr2 := RG_up hr hu
  refine zJ.aload_n (pc := 561) 1 dL_law_561 rfl rfl ?_
  refine zJ.aload_n (pc := 562) 3 dL_law_562 rfl rfl ?_
  refine zJ.iload_n (pc := 563) 0 dL_law_563 rfl rfl ?_
  refine zJ.iconst (pc := 564) (v := 1) dL_law_564 (by decide) ?_
  refine zJ.iadd (pc := 565) dL_law_565 ?_
  refine zJ.scald (pc := 566) dL_law_566 h1 ?_
  refine zG.callVi (d := mdL_law) (pc := 567) [.int (o.2.2.2.2.2.2 (nI (4 * k) + 1).toNatClampNeg)] [_] (ob_23 o) ok_23 rfl dL_law_567 ⟨(cb_X5_best).1, (cb_X5_best).2, (Nat.le_of_ble_eq_true rfl), (Nat.le_of_ble_eq_true rfl)⟩ ml_L_81 ci_X5_best cv_X5_best rfl (Nat.le_of_ble_eq_true rfl) (Nat.le_of_ble_eq_true rfl) rfl (R S2 hr2) (fun x S3 h3 => ?_)
  obtain ⟨e3, hr3, hd⟩ := h3
  refine zJ.icmp_eq (pc := 570) (tgt := 674) dL_law_570 (by decide) (fun _ => ?_) (fun hne => absurd (e2.trans e3.symm) hne)
  exact hk S3 _ (G_dn hc2 hd) hr3
theorem lc_type (h1 : vp_in (nI (4 * k) + 1) o.2.2.2.2.2.1) (h2 : vp_in (nI (4 * k) + 2) o.2.2.2.2.2.1) (h3 : vp_in (nI (4 * k) + 3) o.2.2.2.2.2.1) (hB : B + 60000 ≤ m_BB) (hc : c_G B S G) (hr : r_G B S G) (hk : ∀ S' G', c_G (B + 60000) S' G' → r_G (B + 60000) S' G' → zG o 994 mdL_law 674 [(3, .int (nI (4 * k))), (2, .ref (z_adr o (23, 0, 0))), (1, .ref (z_adr o (0, 0, 0))), (0, .ref o.2.2.2.2.1)] [] S' Q) : zG o 994 mdL_law 575 [(3, .int (nI (4 * k))), (2, .ref (z_adr o (23, 0, 0))), (1, .ref (z_adr o (0, 0, 0))), (0, .ref o.2.2.2.2.1)] [] S Q := by
  show zJ o mdL_law 575 _ [] (994, z_enc o S) 0 0 _
  have C := c_type (o := o) S hc (o.2.2.2.2.2.2 (nI (4 * k) + 1).toNatClampNeg)
  have R := fun S2 hr2 => r_type (o := o) (G := G) (B := B) S2 hr2 (o.2.2.2.2.2.2 (nI (4 * k) + 1).toNatClampNeg)
  generalize g_type G (o.2.2.2.2.2.2 (nI (4 * k) + 1).toNatClampNeg) = a at C R
  refine zJ.aload_n (pc := 575) 2 dL_law_575 rfl rfl ?_
  refine zJ.aload_n (pc := 576) 3 dL_law_576 rfl rfl ?_
  refine zJ.iload_n (pc := 577) 0 dL_law_577 rfl rfl ?_
  refine zJ.iconst (pc := 578) (v := 1) dL_law_578 (by decide) ?_
  refine zJ.iadd (pc := 579) dL_law_579 ?_
  refine zJ.scald (pc := 580) dL_law_580 h1 ?_
  refine zG.callVi (d := mdL_law) (pc := 581) [.int (o.2.2.2.2.2.2 (nI (4 * k) + 1).toNatClampNeg)] [] (ob_0 o) ok_0 rfl dL_law_581 ⟨(cb_X4_type).1, (cb_X4_type).2, (Nat.le_of_ble_eq_true rfl), (Nat.le_of_ble_eq_true rfl)⟩ ml_L_82 ci_X4_type cv_X4_type rfl (Nat.le_of_ble_eq_true rfl) (Nat.le_of_ble_eq_true rfl) rfl C (fun x S2 h2 => ?_)
  obtain ⟨e2, hc2, hu⟩ := h2
  have hr2 := RG_up hr hu
  refine zJ.aload_n (pc := 584) 1 dL_law_584 rfl rfl ?_
  refine zJ.aload_n (pc := 585) 3 dL_law_585 rfl rfl ?_
  refine zJ.iload_n (pc := 586) 0 dL_law_586 rfl rfl ?_
  refine zJ.iconst (pc := 587) (v := 1) dL_law_587 (by decide) ?_
  refine zJ.iadd (pc := 588) dL_law_588 ?_
  refine zJ.scald (pc := 589) dL_law_589 h1 ?_
  refine zG.callVi (d := mdL_law) (pc := 590) [.int (o.2.2.2.2.2.2 (nI (4 * k) + 1).toNatClampNeg)] [_] (ob_23 o) ok_23 rfl dL_law_590 ⟨(cb_X5_type).1, (cb_X5_type).2, (Nat.le_of_ble_eq_true rfl), (Nat.le_of_ble_eq_true rfl)⟩ ml_L_85 ci_X5_type cv_X5_type rfl (Nat.le_of_ble_eq_true rfl) (Nat.le_of_ble_eq_true rfl) rfl (R S2 hr2) (fun x S3 h3 => ?_)
  obtain ⟨e3, hr3, hd⟩ := h3
  refine zJ.icmp_eq (pc := 593) (tgt := 674) dL_law_593 (by decide) (fun _ => ?_) (fun hne => absurd (e2.trans e3.symm) hne)
  exact hk S3 _ (G_dn hc2 hd) hr3
theorem lc_clear (h1 : vp_in (nI (4 * k) + 1) o.2.2.2.2.2.1) (h2 : vp_in (nI (4 * k) + 2) o.2.2.2.2.2.1) (h3 : vp_in (nI (4 * k) + 3) o.2.2.2.2.2.1) (hB : B + 60000 ≤ m_BB) (hc : c_G B S G) (hr : r_G B S G) (hk : ∀ S' G', c_G (B + 60000) S' G' → r_G (B + 60000) S' G' → zG o 994 mdL_law 674 [(3, .int (nI (4 * k))), (2, .ref (z_adr o (23, 0, 0))), (1, .ref (z_adr o (0, 0, 0))), (0, .ref o.2.2.2.2.1)] [] S' Q) : zG o 994 mdL_law 598 [(3, .int (nI (4 * k))), (2, .ref (z_adr o (23, 0, 0))), (1, .ref (z_adr o (0, 0, 0))), (0, .ref o.2.2.2.2.1)] [] S Q := by
  show zJ o mdL_law 598 _ [] (994, z_enc o S) 0 0 _
  have C := c_clear (o := o) S hc
  have R := fun S2 hr2 => r_clear (o := o) (G := G) (B := B) S2 hr2
  generalize g_clear G = a at C R
  refine zJ.aload_n (pc := 598) 2 dL_law_598 rfl rfl ?_
  refine zG.callVi (d := mdL_law) (pc := 599) [] [] (ob_0 o) ok_0 rfl dL_law_599 ⟨(cb_X4_clear).1, (cb_X4_clear).2, (Nat.le_of_ble_eq_true rfl), (Nat.le_of_ble_eq_true rfl)⟩ ml_L_86 ci_X4_clear cv_X4_clear rfl (Nat.le_of_ble_eq_true rfl) (Nat.le_of_ble_eq_true rfl) rfl C (fun x S2 h2 => ?_)
  obtain ⟨e2, hc2, hu⟩ := h2
  have hr2 := RG_up hr hu
  refine zJ.aload_n (pc := 602) 1 dL_law_602 rfl rfl ?_
  refine zG.callVi (d := mdL_law) (pc := 603) [] [_] (ob_23 o) ok_23 rfl dL_law_603 ⟨(cb_X5_clear).1, (cb_X5_clear).2, (Nat.le_of_ble_eq_true rfl), (Nat.le_of_ble_eq_true rfl)⟩ ml_L_89 ci_X5_clear cv_X5_clear rfl (Nat.le_of_ble_eq_true rfl) (Nat.le_of_ble_eq_true rfl) rfl (R S2 hr2) (fun x S3 h3 => ?_)
  obtain ⟨e3, hr3, hd⟩ := h3
  refine zJ.icmp_eq (pc := 606) (tgt := 674) dL_law_606 (by decide) (fun _ => ?_) (fun hne => absurd (e2.trans e3.symm) hne)
  exact hk S3 _ (G_dn hc2 hd) hr3
theorem lc_runs (h1 : vp_in (nI (4 * k) + 1) o.2.2.2.2.2.1) (h2 : vp_in (nI (4 * k) + 2) o.2.2.2.2.2.1) (h3 : vp_in (nI (4 * k) + 3) o.2.2.2.2.2.1) (hB : B + 60000 ≤ m_BB) (hc : c_G B S G) (hr : r_G B S G) (hk : ∀ S' G', c_G (B + 60000) S' G' → r_G (B + 60000) S' G' → zG o 994 mdL_law 674 [(3, .int (nI (4 * k))), (2, .ref (z_adr o (23, 0, 0))), (1, .ref (z_adr o (0, 0, 0))), (0, .ref o.2.2.2.2.1)] [] S' Q) : zG o 994 mdL_law 611 [(3, .int (nI (4 * k))), (2, .ref (z_adr o (23, 0, 0))), (1, .ref (z_adr o (0, 0, 0))), (0, .ref o.2.2.2.2.1)] [] S Q := by
  show zJ o mdL_law 611 _ [] (994, z_enc o S) 0 0 _
  have C := c_runs (o := o) hB S hc
  have R := fun S2 hr2 => r_runs (o := o) (G := G) (B := B) hB S2 hr2
  generalize g_runs G = a at C R
  refine zJ.aload_n (pc := 611) 2 dL_law_611 rfl rfl ?_
  refine zG.callVi (d := mdL_law) (pc := 612) [] [] (ob_0 o) ok_0 rfl dL_law_612 ⟨(cb_X4_runs).1, (cb_X4_runs).2, (Nat.le_of_ble_eq_true rfl), (Nat.le_of_ble_eq_true rfl)⟩ ml_L_90 ci_X4_runs cv_X4_runs rfl (Nat.le_of_ble_eq_true rfl) (Nat.le_of_ble_eq_true rfl) rfl C (fun x S2 h2 => ?_)
  obtain ⟨e2, hc2, hu⟩ := h2
  have hr2 := RG_up hr hu
  refine zJ.aload_n (pc := 615) 1 dL_law_615 rfl rfl ?_
  refine zG.callVi (d := mdL_law) (pc := 616) [] [_] (ob_23 o) ok_23 rfl dL_law_616 ⟨(cb_X5_runs).1, (cb_X5_runs).2, (Nat.le_of_ble_eq_true rfl), (Nat.le_of_ble_eq_true rfl)⟩ ml_L_93 ci_X5_runs cv_X5_runs rfl (Nat.le_of_ble_eq_true rfl) (Nat.le_of_ble_eq_true rfl) rfl (R S2 hr2) (fun x S3 h3 => ?_)
  obtain ⟨e3, hr3, hd⟩ := h3
  refine zJ.icmp_eq (pc := 619) (tgt := 674) dL_law_619 (by decide) (fun _ => ?_) (fun hne => absurd (e2.trans e3.symm) hne)
  exact hk S3 _ (G_dn hc2 hd) hr3
theorem lc_back (h1 : vp_in (nI (4 * k) + 1) o.2.2.2.2.2.1) (h2 : vp_in (nI (4 * k) + 2) o.2.2.2.2.2.1) (h3 : vp_in (nI (4 * k) + 3) o.2.2.2.2.2.1) (hB : B + 60000 ≤ m_BB) (hc : c_G B S G) (hr : r_G B S G) (hk : ∀ S' G', c_G (B + 60000) S' G' → r_G (B + 60000) S' G' → zG o 994 mdL_law 674 [(3, .int (nI (4 * k))), (2, .ref (z_adr o (23, 0, 0))), (1, .ref (z_adr o (0, 0, 0))), (0, .ref o.2.2.2.2.1)] [] S' Q) : zG o 994 mdL_law 624 [(3, .int (nI (4 * k))), (2, .ref (z_adr o (23, 0, 0))), (1, .ref (z_adr o (0, 0, 0))), (0, .ref o.2.2.2.2.1)] [] S Q := by
  show zJ o mdL_law 624 _ [] (994, z_enc o S) 0 0 _
  have C := c_back (o := o) S hc
  have R := fun S2 hr2 => r_back (o := o) (G := G) (B := B) S2 hr2
  generalize g_back G = a at C R
  refine zJ.aload_n (pc := 624) 2 dL_law_624 rfl rfl ?_
  refine zG.callVi (d := mdL_law) (pc := 625) [] [] (ob_0 o) ok_0 rfl dL_law_625 ⟨(cb_X4_back).1, (cb_X4_back).2, (Nat.le_of_ble_eq_true rfl), (Nat.le_of_ble_eq_true rfl)⟩ ml_L_94 ci_X4_back cv_X4_back rfl (Nat.le_of_ble_eq_true rfl) (Nat.le_of_ble_eq_true rfl) rfl C (fun x S2 h2 => ?_)
  obtain ⟨e2, hc2, hu⟩ := h2
  have hr2 := RG_up hr hu
  refine zJ.aload_n (pc := 628) 1 dL_law_628 rfl rfl ?_
  refine zG.callVi (d := mdL_law) (pc := 629) [] [_] (ob_23 o) ok_23 rfl dL_law_629 ⟨(cb_X5_back).1, (cb_X5_back).2, (Nat.le_of_ble_eq_true rfl), (Nat.le_of_ble_eq_true rfl)⟩ ml_L_97 ci_X5_back cv_X5_back rfl (Nat.le_of_ble_eq_true rfl) (Nat.le_of_ble_eq_true rfl) rfl (R S2 hr2) (fun x S3 h3 => ?_)
  obtain ⟨e3, hr3, hd⟩ := h3
  refine zJ.icmp_eq (pc := 632) (tgt := 674) dL_law_632 (by decide) (fun _ => ?_) (fun hne => absurd (e2.trans e3.symm) hne)
  exact hk S3 _ (G_dn hc2 hd) hr3
theorem lc_told (h1 : vp_in (nI (4 * k) + 1) o.2.2.2.2.2.1) (h2 : vp_in (nI (4 * k) + 2) o.2.2.2.2.2.1) (h3 : vp_in (nI (4 * k) + 3) o.2.2.2.2.2.1) (hB : B + 60000 ≤ m_BB) (hc : c_G B S G) (hr : r_G B S G) (hk : ∀ S' G', c_G (B + 60000) S' G' → r_G (B + 60000) S' G' → zG o 994 mdL_law 674 [(3, .int (nI (4 * k))), (2, .ref (z_adr o (23, 0, 0))), (1, .ref (z_adr o (0, 0, 0))), (0, .ref o.2.2.2.2.1)] [] S' Q) : zG o 994 mdL_law 637 [(3, .int (nI (4 * k))), (2, .ref (z_adr o (23, 0, 0))), (1, .ref (z_adr o (0, 0, 0))), (0, .ref o.2.2.2.2.1)] [] S Q := by
  show zJ o mdL_law 637 _ [] (994, z_enc o S) 0 0 _
  have C := c_told (o := o) S hc (o.2.2.2.2.2.2 (nI (4 * k) + 1).toNatClampNeg)
  have R := fun S2 hr2 => r_told (o := o) (G := G) (B := B) S2 hr2 (o.2.2.2.2.2.2 (nI (4 * k) + 1).toNatClampNeg)
  generalize g_told G (o.2.2.2.2.2.2 (nI (4 * k) + 1).toNatClampNeg) = a at C R
  refine zJ.aload_n (pc := 637) 2 dL_law_637 rfl rfl ?_
  refine zJ.aload_n (pc := 638) 3 dL_law_638 rfl rfl ?_
  refine zJ.iload_n (pc := 639) 0 dL_law_639 rfl rfl ?_
  refine zJ.iconst (pc := 640) (v := 1) dL_law_640 (by decide) ?_
  refine zJ.iadd (pc := 641) dL_law_641 ?_
  refine zJ.scald (pc := 642) dL_law_642 h1 ?_
  refine zG.callVi (d := mdL_law) (pc := 643) [.int (o.2.2.2.2.2.2 (nI (4 * k) + 1).toNatClampNeg)] [] (ob_0 o) ok_0 rfl dL_law_643 ⟨(cb_X4_told).1, (cb_X4_told).2, (Nat.le_of_ble_eq_true rfl), (Nat.le_of_ble_eq_true rfl)⟩ ml_L_98 ci_X4_told cv_X4_told rfl (Nat.le_of_ble_eq_true rfl) (Nat.le_of_ble_eq_true rfl) rfl C (fun x S2 h2 => ?_)
  obtain ⟨e2, hc2, hu⟩ := h2
  have hr2 := RG_up hr hu
  refine zJ.aload_n (pc := 646) 1 dL_law_646 rfl rfl ?_
  refine zJ.aload_n (pc := 647) 3 dL_law_647 rfl rfl ?_
  refine zJ.iload_n (pc := 648) 0 dL_law_648 rfl rfl ?_
  refine zJ.iconst (pc := 649) (v := 1) dL_law_649 (by decide) ?_
  refine zJ.iadd (pc := 650) dL_law_650 ?_
  refine zJ.scald (pc := 651) dL_law_651 h1 ?_
  refine zG.callVi (d := mdL_law) (pc := 652) [.int (o.2.2.2.2.2.2 (nI (4 * k) + 1).toNatClampNeg)] [_] (ob_23 o) ok_23 rfl dL_law_652 ⟨(cb_X5_told).1, (cb_X5_told).2, (Nat.le_of_ble_eq_true rfl), (Nat.le_of_ble_eq_true rfl)⟩ ml_L_101 ci_X5_told cv_X5_told rfl (Nat.le_of_ble_eq_true rfl) (Nat.le_of_ble_eq_true rfl) rfl (R S2 hr2) (fun x S3 h3 => ?_)
  obtain ⟨e3, hr3, hd⟩ := h3
  refine zJ.icmp_eq (pc := 655) (tgt := 674) dL_law_655 (by decide) (fun _ => ?_) (fun hne => absurd (e2.trans e3.symm) hne)
  exact hk S3 _ (G_dn hc2 hd) hr3
theorem lc_digest (h1 : vp_in (nI (4 * k) + 1) o.2.2.2.2.2.1) (h2 : vp_in (nI (4 * k) + 2) o.2.2.2.2.2.1) (h3 : vp_in (nI (4 * k) + 3) o.2.2.2.2.2.1) (hB : B + 60000 ≤ m_BB) (hc : c_G B S G) (hr : r_G B S G) (hk : ∀ S' G', c_G (B + 60000) S' G' → r_G (B + 60000) S' G' → zG o 994 mdL_law 674 [(3, .int (nI (4 * k))), (2, .ref (z_adr o (23, 0, 0))), (1, .ref (z_adr o (0, 0, 0))), (0, .ref o.2.2.2.2.1)] [] S' Q) : zG o 994 mdL_law 660 [(3, .int (nI (4 * k))), (2, .ref (z_adr o (23, 0, 0))), (1, .ref (z_adr o (0, 0, 0))), (0, .ref o.2.2.2.2.1)] [] S Q := by
  show zJ o mdL_law 660 _ [] (994, z_enc o S) 0 0 _
  have C := c_digest (o := o) hB S hc
  have R := fun S2 hr2 => r_digest (o := o) (G := G) (B := B) hB S2 hr2
  generalize g_dig G = a at C R
  refine zJ.aload_n (pc := 660) 2 dL_law_660 rfl rfl ?_
  refine zG.callVl (d := mdL_law) (pc := 661) [] [] (ob_0 o) ok_0 rfl dL_law_661 ⟨(cb_X4_digest).1, (cb_X4_digest).2, (Nat.le_of_ble_eq_true rfl), (Nat.le_of_ble_eq_true rfl)⟩ ml_L_102 ci_X4_digest cv_X4_digest rfl (Nat.le_of_ble_eq_true rfl) (Nat.le_of_ble_eq_true rfl) rfl C (fun x S2 h2 => ?_)
  obtain ⟨e2, hc2, hu⟩ := h2
  have hr2 := RG_up hr hu
  refine zJ.aload_n (pc := 664) 1 dL_law_664 rfl rfl ?_
  refine zG.callVl (d := mdL_law) (pc := 665) [] [_] (ob_23 o) ok_23 rfl dL_law_665 ⟨(cb_X5_digest).1, (cb_X5_digest).2, (Nat.le_of_ble_eq_true rfl), (Nat.le_of_ble_eq_true rfl)⟩ ml_L_105 ci_X5_digest cv_X5_digest rfl (Nat.le_of_ble_eq_true rfl) (Nat.le_of_ble_eq_true rfl) rfl (R S2 hr2) (fun x S3 h3 => ?_)
  obtain ⟨e3, hr3, hd⟩ := h3
  refine zJ.lcmp (pc := 668) dL_law_668 ?_
  refine zJ.if_eq (pc := 669) (tgt := 674) dL_law_669 (by decide) (fun _ => ?_) (fun hne => absurd (lcmp_self (e2.trans e3.symm)) hne)
  exact hk S3 _ (G_dn hc2 hd) hr3
theorem law_sub : ∀ L, L < 2049 → (nI L - 4).toInt = (L : Int) - 4 := by decide +kernel
theorem law_loop {L : Nat} (hLo : o.2.2.2.2.2.1 = L) (hL : L ≤ 2048) (S : zS) (G : mG) (hc : c_G 0 S G) (hr : r_G 0 S G) (hQ : ∀ S', Q (some (.int 1)) S') : zG o 994 mdL_law 18 [(3, .int 0), (2, .ref (z_adr o (23, 0, 0))), (1, .ref (z_adr o (0, 0, 0))), (0, .ref o.2.2.2.2.1)] [] S Q := by
  refine z_down (L / 4) (fun k => ∀ S G, c_G (60000 * k) S G → r_G (60000 * k) S G → zG o 994 mdL_law 18 [(3, .int (nI (4 * k))), (2, .ref (z_adr o (23, 0, 0))), (1, .ref (z_adr o (0, 0, 0))), (0, .ref o.2.2.2.2.1)] [] S Q) ?_ ?_ 0 (by omega) S G hc hr
  · intro S G hc hr
    show zJ o mdL_law 18 _ [] (994, z_enc o S) 0 0 _
    refine zJ.iload_n (pc := 18) 0 dL_law_18 rfl rfl ?_
    refine zJ.aload_n (pc := 19) 3 dL_law_19 rfl rfl ?_
    refine zJ.sclen (pc := 20) dL_law_20 ?_
    refine zJ.iconst (pc := 21) (v := 4) dL_law_21 (by decide) ?_
    refine zJ.isub (pc := 22) dL_law_22 ?_
    rw [hLo]
    refine zJ.icmp_gt (pc := 23) (tgt := 680) dL_law_23 (by decide) (fun _ => ?_) (fun hne => absurd ?_ hne)
    · refine zJ.iconst (pc := 680) (v := 1) dL_law_680 (by decide) ?_
      exact zG.ret (pc := 681) (r := some (.int 1)) ⟨dL_law_681, .boolean, rfl, rfl⟩ (hQ S)
    · rw [Int32.lt_iff_toInt_lt, show Int32.ofNat L = nI L from rfl, law_sub L (by omega), nI_toInt (by omega)]
      omega
  · intro k hkL ih S G hc hr
    have hk4 : 4 * k + 4 ≤ L := by omega
    have hB : 60000 * k + 60000 ≤ m_BB := by unfold m_BB; omega
    have h0 : vp_in (nI (4 * k)) o.2.2.2.2.2.1 := by rw [hLo]; exact z_in (by omega) (by omega)
    have h1 : vp_in (nI (4 * k) + 1) o.2.2.2.2.2.1 := by rw [hLo, show (1 : Int32) = nI 1 from rfl, nI_add]; exact z_in (by omega) (by omega)
    have h2 : vp_in (nI (4 * k) + 2) o.2.2.2.2.2.1 := by rw [hLo, show (2 : Int32) = nI 2 from rfl, nI_add]; exact z_in (by omega) (by omega)
    have h3 : vp_in (nI (4 * k) + 3) o.2.2.2.2.2.1 := by rw [hLo, show (3 : Int32) = nI 3 from rfl, nI_add]; exact z_in (by omega) (by omega)
    have hk : ∀ S' G', c_G (60000 * k + 60000) S' G' → r_G (60000 * k + 60000) S' G' → zG o 994 mdL_law 674 [(3, .int (nI (4 * k))), (2, .ref (z_adr o (23, 0, 0))), (1, .ref (z_adr o (0, 0, 0))), (0, .ref o.2.2.2.2.1)] [] S' Q := by
      intro S' G' hc' hr'
      show zJ o mdL_law 674 _ [] (994, z_enc o S') 0 0 _
      refine zJ.iinc (pc := 674) (k := 0) (lv' := [(3, .int (nI (4 * k) + 4)), (2, .ref (z_adr o (23, 0, 0))), (1, .ref (z_adr o (0, 0, 0))), (0, .ref o.2.2.2.2.1)]) dL_law_674 rfl rfl (Nat.le_of_ble_eq_true rfl) rfl ?_
      refine zJ.goto (pc := 677) (tgt := 18) dL_law_677 (by decide) ?_
      rw [show (4 : Int32) = nI 4 from rfl, nI_add]
      exact ih S' G' hc' hr'
    show zJ o mdL_law 18 _ [] (994, z_enc o S) 0 0 _
    refine zJ.iload_n (pc := 18) 0 dL_law_18 rfl rfl ?_
    refine zJ.aload_n (pc := 19) 3 dL_law_19 rfl rfl ?_
    refine zJ.sclen (pc := 20) dL_law_20 ?_
    refine zJ.iconst (pc := 21) (v := 4) dL_law_21 (by decide) ?_
    refine zJ.isub (pc := 22) dL_law_22 ?_
    refine zJ.icmp_gt (pc := 23) (tgt := 680) dL_law_23 (by decide) (fun hlt => absurd hlt ?_) (fun _ => ?_)
    · rw [hLo, Int32.lt_iff_toInt_lt, show Int32.ofNat L = nI L from rfl]
      rw [law_sub L (by omega), nI_toInt (by omega)]
      omega
    refine zJ.aload_n (pc := 26) 3 dL_law_26 rfl rfl ?_
    refine zJ.iload_n (pc := 27) 0 dL_law_27 rfl rfl ?_
    refine zJ.scald (pc := 28) dL_law_28 h0 ?_
    refine zJ.bipush (pc := 29) (v := 31) dL_law_29 (by decide) ?_
    refine zJ.iand (pc := 31) dL_law_31 ?_
    refine zJ.topi (fun x _ => ?_)
    by_cases q0 : x = 0
    · refine zJ.tableIn (pc := 32) (tgt := 136) dL_law_32 (by rw [q0]; decide) (by rw [q0]; decide) (by rw [q0]; rfl) (by decide) ?_
      exact lc_sets h1 h2 h3 hB hc hr hk
    by_cases q1 : x = 1
    · refine zJ.tableIn (pc := 32) (tgt := 169) dL_law_32 (by rw [q1]; decide) (by rw [q1]; decide) (by rw [q1]; rfl) (by decide) ?_
      exact lc_anew h1 h2 h3 hB hc hr hk
    by_cases q2 : x = 2
    · refine zJ.tableIn (pc := 32) (tgt := 182) dL_law_32 (by rw [q2]; decide) (by rw [q2]; decide) (by rw [q2]; rfl) (by decide) ?_
      exact lc_load h1 h2 h3 hB hc hr hk
    by_cases q3 : x = 3
    · refine zJ.tableIn (pc := 32) (tgt := 215) dL_law_32 (by rw [q3]; decide) (by rw [q3]; decide) (by rw [q3]; rfl) (by decide) ?_
      exact lc_store h1 h2 h3 hB hc hr hk
    by_cases q4 : x = 4
    · refine zJ.tableIn (pc := 32) (tgt := 258) dL_law_32 (by rw [q4]; decide) (by rw [q4]; decide) (by rw [q4]; rfl) (by decide) ?_
      exact lc_fence h1 h2 h3 hB hc hr hk
    by_cases q5 : x = 5
    · refine zJ.tableIn (pc := 32) (tgt := 271) dL_law_32 (by rw [q5]; decide) (by rw [q5]; decide) (by rw [q5]; rfl) (by decide) ?_
      exact lc_ticks h1 h2 h3 hB hc hr hk
    by_cases q6 : x = 6
    · refine zJ.tableIn (pc := 32) (tgt := 294) dL_law_32 (by rw [q6]; decide) (by rw [q6]; decide) (by rw [q6]; rfl) (by decide) ?_
      exact lc_draw h1 h2 h3 hB hc hr hk
    by_cases q7 : x = 7
    · refine zJ.tableIn (pc := 32) (tgt := 327) dL_law_32 (by rw [q7]; decide) (by rw [q7]; decide) (by rw [q7]; rfl) (by decide) ?_
      exact lc_got h1 h2 h3 hB hc hr hk
    by_cases q8 : x = 8
    · refine zJ.tableIn (pc := 32) (tgt := 360) dL_law_32 (by rw [q8]; decide) (by rw [q8]; decide) (by rw [q8]; rfl) (by decide) ?_
      exact lc_often h1 h2 h3 hB hc hr hk
    by_cases q9 : x = 9
    · refine zJ.tableIn (pc := 32) (tgt := 383) dL_law_32 (by rw [q9]; decide) (by rw [q9]; decide) (by rw [q9]; rfl) (by decide) ?_
      exact lc_where h1 h2 h3 hB hc hr hk
    by_cases q10 : x = 10
    · refine zJ.tableIn (pc := 32) (tgt := 406) dL_law_32 (by rw [q10]; decide) (by rw [q10]; decide) (by rw [q10]; rfl) (by decide) ?_
      exact lc_item h1 h2 h3 hB hc hr hk
    by_cases q11 : x = 11
    · refine zJ.tableIn (pc := 32) (tgt := 449) dL_law_32 (by rw [q11]; decide) (by rw [q11]; decide) (by rw [q11]; rfl) (by decide) ?_
      exact lc_place h1 h2 h3 hB hc hr hk
    by_cases q12 : x = 12
    · refine zJ.tableIn (pc := 32) (tgt := 482) dL_law_32 (by rw [q12]; decide) (by rw [q12]; decide) (by rw [q12]; rfl) (by decide) ?_
      exact lc_fetch h1 h2 h3 hB hc hr hk
    by_cases q13 : x = 13
    · refine zJ.tableIn (pc := 32) (tgt := 515) dL_law_32 (by rw [q13]; decide) (by rw [q13]; decide) (by rw [q13]; rfl) (by decide) ?_
      exact lc_cost h1 h2 h3 hB hc hr hk
    by_cases q14 : x = 14
    · refine zJ.tableIn (pc := 32) (tgt := 538) dL_law_32 (by rw [q14]; decide) (by rw [q14]; decide) (by rw [q14]; rfl) (by decide) ?_
      exact lc_even h1 h2 h3 hB hc hr hk
    by_cases q15 : x = 15
    · refine zJ.tableIn (pc := 32) (tgt := 552) dL_law_32 (by rw [q15]; decide) (by rw [q15]; decide) (by rw [q15]; rfl) (by decide) ?_
      exact lc_best h1 h2 h3 hB hc hr hk
    by_cases q16 : x = 16
    · refine zJ.tableIn (pc := 32) (tgt := 575) dL_law_32 (by rw [q16]; decide) (by rw [q16]; decide) (by rw [q16]; rfl) (by decide) ?_
      exact lc_type h1 h2 h3 hB hc hr hk
    by_cases q17 : x = 17
    · refine zJ.tableIn (pc := 32) (tgt := 598) dL_law_32 (by rw [q17]; decide) (by rw [q17]; decide) (by rw [q17]; rfl) (by decide) ?_
      exact lc_clear h1 h2 h3 hB hc hr hk
    by_cases q18 : x = 18
    · refine zJ.tableIn (pc := 32) (tgt := 611) dL_law_32 (by rw [q18]; decide) (by rw [q18]; decide) (by rw [q18]; rfl) (by decide) ?_
      exact lc_runs h1 h2 h3 hB hc hr hk
    by_cases q19 : x = 19
    · refine zJ.tableIn (pc := 32) (tgt := 624) dL_law_32 (by rw [q19]; decide) (by rw [q19]; decide) (by rw [q19]; rfl) (by decide) ?_
      exact lc_back h1 h2 h3 hB hc hr hk
    by_cases q20 : x = 20
    · refine zJ.tableIn (pc := 32) (tgt := 637) dL_law_32 (by rw [q20]; decide) (by rw [q20]; decide) (by rw [q20]; rfl) (by decide) ?_
      exact lc_told h1 h2 h3 hB hc hr hk
    by_cases q21 : x = 21
    · refine zJ.tableIn (pc := 32) (tgt := 660) dL_law_32 (by rw [q21]; decide) (by rw [q21]; decide) (by rw [q21]; rfl) (by decide) ?_
      exact lc_digest h1 h2 h3 hB hc hr hk
    refine zJ.tableOut (pc := 32) (tgt := 674) dL_law_32 (z_swe (lo := 0) (k := 21) (by decide) (fun j hl hj => ?_)) (by decide) ?_
    · rcases (show j = 0 ∨ j = 1 ∨ j = 2 ∨ j = 3 ∨ j = 4 ∨ j = 5 ∨ j = 6 ∨ j = 7 ∨ j = 8 ∨ j = 9 ∨ j = 10 ∨ j = 11 ∨ j = 12 ∨ j = 13 ∨ j = 14 ∨ j = 15 ∨ j = 16 ∨ j = 17 ∨ j = 18 ∨ j = 19 ∨ j = 20 ∨ j = 21 by omega) with rfl | rfl | rfl | rfl | rfl | rfl | rfl | rfl | rfl | rfl | rfl | rfl | rfl | rfl | rfl | rfl | rfl | rfl | rfl | rfl | rfl | rfl
      · exact q0
      · exact q1
      · exact q2
      · exact q3
      · exact q4
      · exact q5
      · exact q6
      · exact q7
      · exact q8
      · exact q9
      · exact q10
      · exact q11
      · exact q12
      · exact q13
      · exact q14
      · exact q15
      · exact q16
      · exact q17
      · exact q18
      · exact q19
      · exact q20
      · exact q21
    · exact hk S G (G_B hc (by omega)) (RG_B hr (by omega))
end LAW
