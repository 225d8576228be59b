/-! the reference made; both at first; one side's work leaves the other's -/
theorem G_dn {B : Nat} {S S' : zS} {G : mG} (h : c_G B S G) (hf : r_dn S S') : c_G B S' G := by
  obtain ⟨h1, h2, h3, h4⟩ := h
  have sm : ∀ i, c_sm i S S' := fun i q a b _ => hf q (by omega)
  refine ⟨H_sm h1 (sm 0), hist_sm h2 (hf (0, 0, 0) (by simp)).1 (fun i _ => sm i), fun t ht => ?_, ?_, h4.2.1, fun k hk => ?_⟩
  · rw [(hf (21, 0, 0) (by simp)).1]; exact h3 t ht
  · rw [(hf (16, 0, 0) (by simp)).1]; exact h4.1
  · rw [(hf (17, 0, 0) (by simp)).1]; exact h4.2.2 k hk
theorem rR_up {S S' : zS} {A : mS} (h : r_R S A) (hu : c_up S S') : r_R S' A := by
  have u : ∀ k, 23 ≤ k → S'.1 (k, 0, 0) = S.1 (k, 0, 0) := fun k hk => (hu (k, 0, 0) hk).1
  obtain ⟨h1, h2, h3, h4, h5⟩ := h
  refine ⟨fun k t ht => ?_, fun r hr => ?_, ?_, fun b hb => ?_, ?_⟩
  · rw [u k (by unfold r_dir at ht; omega)]; exact h1 k t ht
  · rw [u 31 (by omega), u 32 (by omega)]; exact h2 r hr
  · unfold r_R3; rw [u 39 (by omega), u 33 (by omega)]; exact h3
  · unfold r_ask; rw [u 34 (by omega), u 35 (by omega), u 36 (by omega), u 37 (by omega), u 38 (by omega)]; exact h4 b hb
  · unfold r_R5; rw [(hu (23, 0, 0) (by simp)).2.1, (hu (23, 0, 0) (by simp)).2.2]; exact h5
theorem RG_up {B : Nat} {S S' : zS} {G : mG} (h : r_G B S G) (hu : c_up S S') : r_G B S' G := by
  have u : ∀ k, 23 ≤ k → S'.1 (k, 0, 0) = S.1 (k, 0, 0) := fun k hk => (hu (k, 0, 0) hk).1
  obtain ⟨h0, h1, ⟨h2, h3, h4⟩, h5, h6, h7, h8⟩ := h
  refine ⟨h0, rR_up h1 hu, ⟨h2, ?_, fun k A hk => ?_⟩, fun t ht => ?_, ?_, h7, fun k hk => ?_⟩
  · rw [u 23 (by omega)]; exact h3
  · refine K_cp (h4 k A hk) (bd_am (h0.2 A (List.mem_of_getElem? hk))) (fun x _ => ?_) ?_ ?_ ?_
    · rw [u 44 (by omega)]
    · rw [(hu (45, 0, 0) (by simp)).2.2]
    · rw [(hu (46, 0, 0) (by simp)).2.1]
    · rw [(hu (47, 0, 0) (by simp)).2.1]
  · rw [u 24 (by omega)]; exact h5 t ht
  · rw [u 23 (by omega)]; exact h6
  · rw [u 48 (by omega)]; exact h8 k hk
def m_A0 : mS := (fun q t => if q = 25 then z_st 0 t else 0, fun _ => [], [], fun _ => [], 0, 0, 0)
def m_G0 : mG := (m_new m_A0, [], fun _ => 0, fun _ => 0, 0)
theorem lim0 : m_lim m_A0 := ⟨⟨2, rfl, by omega, by omega⟩, ⟨1, rfl, by omega⟩, ⟨2, rfl, by omega, by omega⟩, ⟨2, rfl, by omega, by omega⟩, ⟨6, rfl, by omega, by omega⟩⟩
theorem am0 : m_am 0 0 (m_new m_A0) := ⟨al_new lim0, fun r hr => Nat.zero_le _, fun x hx q hq => by cases hq⟩
/-- the class at first -/
theorem cG0 {S' : zS} (h : ∀ q : zK, q.1 ≤ 22 → S'.1 q = (z_ini 8).1 q ∧ S'.2.1 q = (z_ini 8).2.1 q ∧ S'.2.2 q = (z_ini 8).2.2 q) : c_G 0 S' m_G0 := by
  have hz := ini_zz 8
  have h1 : c_H 0 0 (z_ini 1) (m_new m_A0) := by
    refine ⟨⟨0, Nat.zero_le _, cr_renew (by omega) (stL (z_ini 0) 0) (A := m_A0) (fun j hj => ?_) (fun b hb j hj => ?_)⟩, al_new lim0⟩
    · show (if ((2, 0, 0) : zK) = (2, 0, 0) then va_cpy (z_st 0) ((z_ini 0).1 (2, 0, 0)) 0 0 5 else (z_ini 0).1 (2, 0, 0)) j = m_A0.1 25 j
      rw [if_pos rfl]
      unfold va_cpy
      rw [if_pos (by omega)]
      show z_st 0 (0 + (j - 0)) = z_st 0 j
      rw [Nat.sub_zero, Nat.zero_add]
    · show (if ((7, 0, b) : zK) = (2, 0, 0) then va_cpy (z_st 0) ((z_ini 0).1 (2, 0, 0)) 0 0 5 else (z_ini 0).1 (7, 0, b)) j = m_A0.1 27 (4 * b + j)
      rw [if_neg (by simp)]
      rfl
  have sm : ∀ k, c_sm 0 (z_ini 1) (z_ini (k + 1)) := by
    intro k
    induction k with
    | zero => exact fun q _ _ _ => ⟨rfl, rfl, rfl⟩
    | succ k ih => exact sm_tr ih (sm_fr (fr_stS (z_ini (k + 1)) (k + 1)) (by omega))
  have h8 : c_H 0 0 (z_ini 8) (m_new m_A0) := H_sm h1 (sm 7)
  refine ⟨H_sm h8 (fun q a b _ => h q (by omega)), ⟨Nat.zero_le _, ?_, 0, by omega, ?_, fun k A hk => by simp [m_G0] at hk⟩, fun t ht => ?_, ?_, Nat.zero_le _, fun k hk => absurd hk (Nat.not_lt_zero k)⟩
  · rw [(h (0, 0, 0) (by simp)).1, (hz (0, 0, 0) (by simp)).1]; rfl
  · rw [(h (0, 0, 0) (by simp)).1, (hz (0, 0, 0) (by simp)).1]; rfl
  · rw [(h (21, 0, 0) (by simp)).1, (hz (21, 0, 0) (by simp)).1]; rfl
  · rw [(h (16, 0, 0) (by simp)).1, (hz (16, 0, 0) (by simp)).1]; rfl
/-- the limits told to the reference -/
def s_told (S : zS) : zS := sI (sI (sI (sI (sI S (25, 0, 0) 0 2) (25, 0, 0) 1 1) (25, 0, 0) 2 2) (25, 0, 0) 3 2) (25, 0, 0) 4 6
theorem rR0 {S : zS} (hS : ∀ q : zK, 16 ≤ q.1 → zz S q) : r_R (s_told S) m_A0 := by
  have o1 : ∀ k, 23 ≤ k → k ≠ 25 → (s_told S).1 (k, 0, 0) = fun _ => 0 := by
    intro k hk hne
    rw [← (hS (k, 0, 0) (by simp; omega)).1]
    funext t
    simp [s_told, sI, hne]
  refine ⟨fun k t ht => ?_, fun r hr => ⟨?_, fun k b hk => by simp [m_R, m_A0] at hk⟩, ⟨?_, fun k b hk => by simp [m_F, m_A0] at hk⟩, fun b hb => ⟨?_, fun k q hk => by simp [m_Q, m_A0] at hk⟩, ?_, ?_, ?_⟩
  · by_cases h25 : k = 25
    · subst h25
      have ht5 : t < 5 := by unfold r_dir at ht; omega
      rcases (show t = 0 ∨ t = 1 ∨ t = 2 ∨ t = 3 ∨ t = 4 by omega) with rfl | rfl | rfl | rfl | rfl <;> simp [s_told, sI, m_A0, z_st]
    · rw [o1 k (by unfold r_dir at ht; omega) h25]
      simp [m_A0, h25]
  · rw [o1 31 (by omega) (by omega)]; rfl
  · rw [o1 39 (by omega) (by omega)]; rfl
  · rw [o1 34 (by omega) (by omega)]; rfl
  · show S.2.2 (23, 0, 0) 20 = _
    rw [(hS (23, 0, 0) (by simp)).2.2]; rfl
  · show S.2.1 (23, 0, 0) 21 = _
    rw [(hS (23, 0, 0) (by simp)).2.1]; rfl
  · show S.2.1 (23, 0, 0) 22 = _
    rw [(hS (23, 0, 0) (by simp)).2.1]; rfl
theorem rG0 {S S' : zS} (hS : ∀ q : zK, 16 ≤ q.1 → zz S q) (hR : r_R S' (m_new m_A0)) (hf : r_fr S S') : r_G 0 S' m_G0 := by
  refine ⟨⟨am0, fun A hA => by simp [m_G0] at hA⟩, hR, ⟨Nat.zero_le _, ?_, fun k A hk => by simp [m_G0] at hk⟩, fun t ht => ?_, ?_, Nat.zero_le _, fun k hk => absurd hk (Nat.not_lt_zero k)⟩
  · rw [hf.1 (23, 0, 0) (by simp), (hS (23, 0, 0) (by simp)).1]; rfl
  · rw [hf.1 (24, 0, 0) (by simp), (hS (24, 0, 0) (by simp)).1]; rfl
  · rw [hf.1 (23, 0, 0) (by simp), (hS (23, 0, 0) (by simp)).1]; rfl
theorem D5_ok : ∀ j, j < 34 → defaultValue (tyX5 j) = vp_V [.null, .null, .null, .null, .null, .null, .null, .null, .null, .null, .null, .null, .null, .null, .null, .null, .null, .null, .null, .null, .float 0, .long 0, .long 0, .int 0, .null, .null, .null, .null, .int 0, .null, .int 0, .int 0, .int 0, .int 0] j
  | 0, _ => rfl
  | 1, _ => rfl
  | 2, _ => rfl
  | 3, _ => rfl
  | 4, _ => rfl
  | 5, _ => rfl
  | 6, _ => rfl
  | 7, _ => rfl
  | 8, _ => rfl
  | 9, _ => rfl
  | 10, _ => rfl
  | 11, _ => rfl
  | 12, _ => rfl
  | 13, _ => rfl
  | 14, _ => rfl
  | 15, _ => rfl
  | 16, _ => rfl
  | 17, _ => rfl
  | 18, _ => rfl
  | 19, _ => rfl
  | 20, _ => rfl
  | 21, _ => rfl
  | 22, _ => rfl
  | 23, _ => rfl
  | 24, _ => rfl
  | 25, _ => rfl
  | 26, _ => rfl
  | 27, _ => rfl
  | 28, _ => rfl
  | 29, _ => rfl
  | 30, _ => rfl
  | 31, _ => rfl
  | 32, _ => rfl
  | 33, _ => rfl
  | j + 34, h => absurd h (by omega)
section ZM
variable {o : zW} {mc ms : Nat}
theorem sp_initR {S : zS} (hS : ∀ q : zK, 16 ≤ q.1 → zz S q) : zJ o mdX5_init 0 (lv_args 0 [.ref (z_adr o (23, 0, 0))]) [] (969, zP o (zX (fun _ => none) (23, 0, 0) (some (.inr (5, [.null, .null, .null, .null, .null, .null, .null, .null, .null, .null, .null, .null, .null, .null, .null, .null, .null, .null, .null, .null, .float 0, .long 0, .long 0, .int 0, .null, .null, .null, .null, .int 0, .null, .int 0, .int 0, .int 0, .int 0])))) S) (mc + 25) (ms + 11000) (fun r M => r = none ∧ ∃ S', M = (994, z_enc o S') ∧ r_R S' (m_new m_A0) ∧ r_fr S S') := by
  refine sp_initM (fun _ _ _ => rfl) (fun k h1 h2 => hS _ (by simp; omega)) ?_
  rw [zP_all]
  refine zE.getV (pc := 204) (fd_23_1 o) ok_23 kiX5 (Nat.le_of_ble_eq_true rfl) fl_X5_13 dX5_init_204 ?_
  refine zJ.iconst (pc := 207) (v := 0) dX5_init_207 (by decide) ?_
  refine zJ.iconst (pc := 208) (v := 2) dX5_init_208 (by decide) ?_
  refine zE.astI (pc := 209) (ia_25 o) ok_25 (z_in (k := 0) (by decide) (by decide)) dX5_init_209 ?_
  refine zJ.aload_n (pc := 210) 0 dX5_init_210 rfl rfl ?_
  refine zE.getV (pc := 211) (fd_23_1 o) ok_23 kiX5 (Nat.le_of_ble_eq_true rfl) fl_X5_13 dX5_init_211 ?_
  refine zJ.iconst (pc := 214) (v := 1) dX5_init_214 (by decide) ?_
  refine zJ.iconst (pc := 215) (v := 1) dX5_init_215 (by decide) ?_
  refine zE.astI (pc := 216) (ia_25 o) ok_25 (z_in (k := 1) (by decide) (by decide)) dX5_init_216 ?_
  refine zJ.aload_n (pc := 217) 0 dX5_init_217 rfl rfl ?_
  refine zE.getV (pc := 218) (fd_23_1 o) ok_23 kiX5 (Nat.le_of_ble_eq_true rfl) fl_X5_13 dX5_init_218 ?_
  refine zJ.iconst (pc := 221) (v := 2) dX5_init_221 (by decide) ?_
  refine zJ.iconst (pc := 222) (v := 2) dX5_init_222 (by decide) ?_
  refine zE.astI (pc := 223) (ia_25 o) ok_25 (z_in (k := 2) (by decide) (by decide)) dX5_init_223 ?_
  refine zJ.aload_n (pc := 224) 0 dX5_init_224 rfl rfl ?_
  refine zE.getV (pc := 225) (fd_23_1 o) ok_23 kiX5 (Nat.le_of_ble_eq_true rfl) fl_X5_13 dX5_init_225 ?_
  refine zJ.iconst (pc := 228) (v := 3) dX5_init_228 (by decide) ?_
  refine zJ.iconst (pc := 229) (v := 2) dX5_init_229 (by decide) ?_
  refine zE.astI (pc := 230) (ia_25 o) ok_25 (z_in (k := 3) (by decide) (by decide)) dX5_init_230 ?_
  refine zJ.aload_n (pc := 231) 0 dX5_init_231 rfl rfl ?_
  refine zE.getV (pc := 232) (fd_23_1 o) ok_23 kiX5 (Nat.le_of_ble_eq_true rfl) fl_X5_13 dX5_init_232 ?_
  refine zJ.iconst (pc := 235) (v := 4) dX5_init_235 (by decide) ?_
  refine zJ.bipush (pc := 236) (v := 6) dX5_init_236 (by decide) ?_
  refine zE.astI (pc := 238) (ia_25 o) ok_25 (z_in (k := 4) (by decide) (by decide)) dX5_init_238 ?_
  show zJ o mdX5_init 239 _ _ (994, z_enc o (s_told S)) _ _ _
  refine zJ.aload_n (pc := 239) 0 dX5_init_239 rfl rfl ?_
  have hfr : r_fr S (s_told S) := (((((r_fr.rf S).I 25 _ _ (by omega)).I 25 _ _ (by omega)).I 25 _ _ (by omega)).I 25 _ _ (by omega)).I 25 _ _ (by omega)
  refine zG.callVv (d := mdX5_init) (pc := 240) [] [] (ob_23 o) ok_23 rfl dX5_init_240 ⟨(cb_X5_begins).1, (cb_X5_begins).2, (Nat.le_of_ble_eq_true rfl), (Nat.le_of_ble_eq_true rfl)⟩ ml_X5_87 ci_X5_begins cv_X5_begins rfl (Nat.le_of_ble_eq_true rfl) (Nat.le_of_ble_eq_true rfl) rfl (rs_begins0 S (s_told S) (rR0 hS) hfr (fun S2 => r_R S2 (m_new m_A0) ∧ r_fr S S2) (fun S' a b => ⟨a, b⟩)) (fun S2 h2 => ?_)
  exact zJ.ret (r := none) (pc := 243) ⟨dX5_init_243, rfl⟩ ⟨rfl, S2, rfl, h2⟩
end ZM
