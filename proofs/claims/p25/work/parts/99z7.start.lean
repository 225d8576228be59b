/-! the law from its start -/
def m_A0 : mS := (fun q t => if q = 25 then z_st 0 t else 0, fun _ => [], [], fun _ => [], 0, 0, 0)
def m_G0 : mG := (m_new m_A0, [], fun _ => 0, fun _ => 0, 0)
theorem lim0 : m_lim m_A0 := ⟨⟨2, rfl, by omega, by omega⟩, ⟨1, rfl, by omega⟩, ⟨2, rfl, by omega, by omega⟩, ⟨2, rfl, by omega, by omega⟩, ⟨6, rfl, by omega, by omega⟩⟩
/-- the class at first -/
theorem cG0 : c_G 0 (z_ini 8) m_G0 := by
  have hz := ini_zz 8
  have h1 : c_H 0 0 (z_ini 1) (m_new m_A0) := by
    refine ⟨⟨0, Nat.zero_le _, cr_renew (by omega) (stL (z_ini 0) 0) (A := m_A0) (fun j hj => ?_) (fun b hb j hj => ?_)⟩, al_new lim0⟩
    · show (if ((2, 0, 0) : zK) = (2, 0, 0) then va_cpy (z_st 0) ((z_ini 0).1 (2, 0, 0)) 0 0 5 else (z_ini 0).1 (2, 0, 0)) j = m_A0.1 25 j
      rw [if_pos rfl]
      unfold va_cpy
      rw [if_pos (by omega)]
      show z_st 0 (0 + (j - 0)) = z_st 0 j
      rw [Nat.sub_zero, Nat.zero_add]
    · show (if ((7, 0, b) : zK) = (2, 0, 0) then va_cpy (z_st 0) ((z_ini 0).1 (2, 0, 0)) 0 0 5 else (z_ini 0).1 (7, 0, b)) j = m_A0.1 27 (4 * b + j)
      rw [if_neg (by simp)]
      rfl
  have sm : ∀ k, c_sm 0 (z_ini 1) (z_ini (k + 1)) := by
    intro k
    induction k with
    | zero => exact fun q _ _ _ => ⟨rfl, rfl, rfl⟩
    | succ k ih => exact sm_tr ih (sm_fr (fr_stS (z_ini (k + 1)) (k + 1)) (by omega))
  have h8 : c_H 0 0 (z_ini 8) (m_new m_A0) := H_sm h1 (sm 7)
  refine ⟨h8, ⟨Nat.zero_le _, ?_, 0, by omega, ?_, fun k A hk => by simp [m_G0] at hk⟩, fun t ht => ?_, ?_, Nat.zero_le _, fun k hk => absurd hk (Nat.not_lt_zero k)⟩
  · rw [(hz (0, 0, 0) (by simp)).1]; rfl
  · rw [(hz (0, 0, 0) (by simp)).1]; rfl
  · rw [(hz (21, 0, 0) (by simp)).1]; rfl
  · rw [(hz (16, 0, 0) (by simp)).1]; rfl
/-- all as at first -/
theorem st_new (D : Nat → Nat × Int32) (Y : mS) : m_st 0 D (fun b j => nI (5 * b + j)) 0 0 (m_new Y) := by
  have e29 : ∀ b, (m_new Y).1 29 b = 0 := by intro b; simp [m_new]
  have e26 : ∀ b j, j < 4 → (m_new Y).1 26 (4 * b + j) = nI (5 * b + j) := by
    intro b j hj
    simp [m_new, (z_d4 (b := b) hj).1, (z_d4 (b := b) hj).2]
  have e40 : ∀ k, (m_new Y).1 40 k = 0 := by intro k; simp [m_new]
  have eN : m_N (m_new Y) = 0 := by show ((m_new Y).1 40 7).toNatClampNeg = 0; rw [e40]; rfl
  have eb : ∀ b j, j < 4 → m_base (m_new Y) b j = nI (5 * b + j) := by
    intro b j hj
    unfold m_base
    rw [e29, if_neg (by decide), e26 b j hj]
  have e39 : (m_new Y).1 39 2 = 0 := by simp [m_new]
  refine ⟨⟨fun b _ hw => ?_, fun b hb j hj => ?_, fun b hb => ⟨trivial, (fun q hq => by cases hq), List.Pairwise.nil⟩, fun k hk => ?_, ?_, ⟨0, 0, e39, by omega, rfl, Nat.zero_le _⟩⟩, fun b hb j hj => eb b j hj, eN, ?_, ⟨0, 0, e40 5, e40 6, Nat.le_refl _, Nat.zero_le _⟩, fun b _ h3 => ?_, rl_new⟩
  · rw [e29] at hw; exact absurd hw (by decide)
  · rw [eb b j hj]; exact nI_le (a := 0) (Nat.zero_le _) (by omega)
  · rw [eN] at hk; exact absurd hk (Nat.not_lt_zero k)
  · rw [e40]; unfold m_cn; rw [eN]; rfl
  · unfold m_cs4; rw [e40, e40, e40, e40]; rfl
  · rw [e29] at h3; exact absurd h3 (by decide)
section SL
variable {o : zW}
theorem lim_nn {A : mS} (h : m_lim A) : ∀ k, k < 5 → ¬ A.1 25 k < 0 := by
  obtain ⟨⟨a, a1, -, a2⟩, ⟨b, b1, b2⟩, ⟨c, c1, -, c2⟩, ⟨d, d1, -, d2⟩, ⟨e, e1, -, e2⟩⟩ := h
  intro k hk
  rcases (show k = 0 ∨ k = 1 ∨ k = 2 ∨ k = 3 ∨ k = 4 by omega) with rfl | rfl | rfl | rfl | rfl
  · rw [a1]; exact nI_pos (by omega)
  · rw [b1]; exact nI_pos (by omega)
  · rw [c1]; exact nI_pos (by omega)
  · rw [d1]; exact nI_pos (by omega)
  · rw [e1]; exact nI_pos (by omega)
theorem L_55 (hL : o.2.2.2.2.2.1 ≤ 260) : ∀ k, k ≤ 5 → ∀ (S : zS) (G : mG), c_G (60000 * k) S G → (k = 0 ∨ ∃ Y, G.1 = m_new Y ∧ m_lim Y) → (∀ b, b < 16 → ∀ j, j < 4 → S.1 (23, 0, 0) (4 * b + j) = nI (5 * b + j)) →
    zG o 970 mdL_law 55 [(0, .ref o.2.2.2.2.1), (1, .ref (z_adr o (0, 0, 0))), (2, .ref (z_adr o (23, 0, 0))), (3, .ref (z_adr o (24, 0, 0))), (4, .int 1), (5, .int (nI k))] [] S m_Qf := by
  intro k hk
  refine z_down 5 (fun k => ∀ (S : zS) (G : mG), c_G (60000 * k) S G → (k = 0 ∨ ∃ Y, G.1 = m_new Y ∧ m_lim Y) → (∀ b, b < 16 → ∀ j, j < 4 → S.1 (23, 0, 0) (4 * b + j) = nI (5 * b + j)) →
    zG o 970 mdL_law 55 [(0, .ref o.2.2.2.2.1), (1, .ref (z_adr o (0, 0, 0))), (2, .ref (z_adr o (23, 0, 0))), (3, .ref (z_adr o (24, 0, 0))), (4, .int 1), (5, .int (nI k))] [] S m_Qf) ?_ ?_ k hk
  · intro S G h hG hlast
    obtain ⟨Y, hY, hlY⟩ := hG.resolve_left (by decide)
    refine w_L_law_55 o _ S _ ⟨fun _ => ?_, fun hc => absurd (by decide) hc⟩
    refine d_cell hL (k := 5) (by omega) _ ?_
    refine d_low (N := 15) (by omega) (by omega) _ _ ?_
    have hw := low_lt (m_cell o 5) (n := 15) (by omega)
    generalize m_low (m_cell o 5) 15 = w at hw
    rw [show (2 : Int32) + nI w = nI (2 + w) from nI_add 2 w]
    exact L_221 hL (wide := 2 + w) (by omega) 0 (by omega) 5 S G (fun _ => (0, 0)) (fun b j => nI (5 * b + j)) 0 0 (by omega) h (by rw [hY]; exact st_new _ Y) (by rw [hY]; exact sh_new hlY) (Nat.le_refl _) hlast (fun i hi => absurd hi (Nat.not_lt_zero i))
  · intro k hk ih S G h hG hlast
    rw [nI_succ k] at ih
    have set : ∀ v, v < 21 → m_may k (nI v) → zG o 970 mdL_law 158 [(0, .ref o.2.2.2.2.1), (1, .ref (z_adr o (0, 0, 0))), (2, .ref (z_adr o (23, 0, 0))), (3, .ref (z_adr o (24, 0, 0))), (5, .int (nI k)), (7, .int (nI v))] [] S m_Qf := by
      intro v hv hm
      have gs : g_sets G (nI k) (nI v) = (G.1.1 25 k, g_now (g_keep G) (m_new (m_i G.1 25 k (nI v)))) := by
        unfold g_sets
        rw [cl_in hk (by omega)]
        exact if_pos hm
      refine w_L_law_158 o _ _ S _ ?_
      refine zGi.po (c_sets S h (nI k) (nI v)) (fun r S1 hr => ?_)
      rw [gs] at hr
      obtain ⟨rfl, h1, u1⟩ := hr
      have h1 := G_B h1 (z_nS k)
      have hlim := h.1.2.1.1
      refine ⟨lim_nn hlim k hk, ?_⟩
      rw [show (4 : Int32) + nI k = nI (4 + k) from nI_add 4 k]
      refine sp_toldN S1 h1 (k := 4 + k) (by omega) _ ⟨fun hc => hc ?_, ?_⟩
      · unfold m_tld
        rw [if_neg (by omega), if_neg (by omega), if_neg (by omega), Nat.add_sub_cancel_left]
        show (m_new (m_i G.1 25 k (nI v))).1 25 k = nI v
        simp [m_new, m_i]
      · exact ih S1 _ h1 (Or.inr ⟨_, rfl, lim_set hlim hm⟩) (fun b hb j hj => by rw [up_23 u1 _ (by simp)]; exact hlast b hb j hj)
    refine w_L_law_55 o _ S _ ⟨fun hc => absurd hc (nI_ge (a := k) (b := 5) hk (by omega)), fun _ => ?_⟩
    refine d_cell hL (k := k) (by omega) _ ?_
    generalize m_cell o k = x
    have eq : ∀ c, c < 5 → (nI k = nI c ↔ k = c) := fun c hc => nI_eq (by omega) (by omega)
    have one : ∀ N, 1 ≤ N → N < 21 → (∀ v, 1 ≤ v → v ≤ N → m_may k (nI v)) → ∀ y : Int32, zG o 970 mdL_law 158 [(0, .ref o.2.2.2.2.1), (1, .ref (z_adr o (0, 0, 0))), (2, .ref (z_adr o (23, 0, 0))), (3, .ref (z_adr o (24, 0, 0))), (5, .int (nI k)), (7, .int (1 + nI (m_low y N)))] [] S m_Qf := by
      intro N h1 h2 hm y
      have hl := low_lt y h1
      rw [show (1 : Int32) + nI (m_low y N) = nI (1 + m_low y N) from nI_add 1 _]
      exact set _ (by omega) (hm _ (by omega) (by omega))
    have lo1 : k ≠ 1 → ∀ v, 1 ≤ v → v < 21 → m_lo k ≤ nI v := by
      intro h1 v hv hv2
      unfold m_lo
      rw [if_neg h1]
      exact nI_le (a := 1) hv (by omega)
    refine ⟨fun n0 => ⟨fun n1 => ⟨fun n4 => ?_, fun e4 => ?_⟩, fun e1 => ?_⟩, fun e0 => ?_⟩
    · have k0 : k ≠ 0 := fun e => n0 ((eq 0 (by omega)).2 e)
      have k1 : k ≠ 1 := fun e => n1 ((eq 1 (by omega)).2 e)
      have k4 : k ≠ 4 := fun e => n4 ((eq 4 (by omega)).2 e)
      refine d_low (N := 4) (by omega) (by omega) _ _ (one 4 (by omega) (by omega) (fun v v1 v2 => ⟨lo1 k1 v v1 (by omega), ?_⟩) _)
      unfold m_hi
      rw [if_neg (by omega), if_neg k4]
      exact nI_le v2 (by omega)
    · have k4 := (eq 4 (by omega)).1 e4
      have hm : ∀ N, N ≤ 20 → ∀ v, 1 ≤ v → v ≤ N → m_may k (nI v) := by
        intro N hN v v1 v2
        refine ⟨lo1 (by omega) v v1 (by omega), ?_⟩
        unfold m_hi
        rw [if_neg (by omega), if_pos k4]
        exact nI_le (by omega) (by omega)
      refine d_low (N := 2) (by omega) (by omega) _ _ ⟨fun _ => ?_, fun _ => ?_⟩
      · exact d_low (N := 6) (by omega) (by omega) _ _ (one 6 (by omega) (by omega) (hm 6 (by omega)) _)
      · exact d_low (N := 20) (by omega) (by omega) _ _ (one 20 (by omega) (by omega) (hm 20 (by omega)) _)
    · have k1 := (eq 1 (by omega)).1 e1
      refine d_low (N := 4) (by omega) (by omega) _ _ ?_
      have hl := low_lt (x >>> ((3 : Int32) &&& 31)) (n := 4) (by omega)
      refine set _ (by omega) ⟨?_, ?_⟩
      · unfold m_lo
        rw [if_pos k1]
        exact nI_le (a := 0) (Nat.zero_le _) (by omega)
      · unfold m_hi
        rw [if_pos (Or.inr k1)]
        exact nI_le (by omega) (by omega)
    · have k0 := (eq 0 (by omega)).1 e0
      refine d_low (N := 3) (by omega) (by omega) _ _ (one 3 (by omega) (by omega) (fun v v1 v2 => ⟨lo1 (by omega) v v1 (by omega), ?_⟩) _)
      unfold m_hi
      rw [if_pos (Or.inl k0)]
      exact nI_le v2 (by omega)
theorem L_21 (hL : o.2.2.2.2.2.1 ≤ 260) : ∀ k, k ≤ 64 → ∀ (S : zS), c_G 0 S m_G0 → (∀ t, t < k → S.1 (23, 0, 0) t = nI (5 * (t / 4) + t % 4)) →
    zG o 970 mdL_law 21 [(0, .ref o.2.2.2.2.1), (1, .ref (z_adr o (0, 0, 0))), (2, .ref (z_adr o (23, 0, 0))), (3, .ref (z_adr o (24, 0, 0))), (4, .int (nI k))] [] S m_Qf := by
  intro k hk
  refine z_down 64 (fun k => ∀ (S : zS), c_G 0 S m_G0 → (∀ t, t < k → S.1 (23, 0, 0) t = nI (5 * (t / 4) + t % 4)) →
    zG o 970 mdL_law 21 [(0, .ref o.2.2.2.2.1), (1, .ref (z_adr o (0, 0, 0))), (2, .ref (z_adr o (23, 0, 0))), (3, .ref (z_adr o (24, 0, 0))), (4, .int (nI k))] [] S m_Qf) ?_ ?_ k hk
  · intro S h ht
    refine w_L_law_21 o _ S _ ⟨fun _ => ?_, fun hc => absurd (by decide) hc⟩
    exact L_55 hL 0 (by omega) S m_G0 h (Or.inl rfl) (fun b hb j hj => by
      rw [ht (4 * b + j) (by omega), (z_d4 (b := b) hj).1, (z_d4 (b := b) hj).2])
  · intro k hk ih S h ht
    obtain ⟨a1, a2, a3⟩ := z_q4 k hk
    refine w_L_law_21 o _ S _ ⟨fun hc => absurd hc (nI_ge (a := k) (b := 64) hk (by omega)), fun _ => ⟨z_in hk (by omega), fun S2 hS2 => ?_⟩⟩
    rw [a3, z_cl (by omega)] at hS2
    rw [← nI_succ]
    refine ih S2 (by rw [hS2]; exact G_sI h (k := 23) (Or.inl rfl) _ _) (fun t ht2 => ?_)
    rw [hS2]
    show (if (23, 0, 0) = (23, 0, 0) ∧ t = k then nI (5 * (k / 4) + k % 4) else S.1 (23, 0, 0) t) = _
    by_cases e : t = k
    · rw [if_pos ⟨rfl, e⟩, e]
    · rw [if_neg (fun hc => e hc.2)]; exact ht t (by omega)
theorem law_start (hL : o.2.2.2.2.2.1 ≤ 260) : zJ o mdL_law 0 [(0, .ref o.2.2.2.2.1)] [] (0, zP o (fun _ => none) (z_ini 0)) 971 12000 (fun r _ => r = some (.int 1)) := by
  refine zJ.wk (mc' := (0 + 1 + 1) + 967 + 1) (ms' := (0 + 60 + 64) + 11000 + 7) (by omega) (by omega) ?_
  refine zO.new (pc := 0) (mc := (0 + 1 + 1) + 967) (ms := (0 + 60 + 64) + 11000) (k := (0, 0, 0)) kiX4 (List.mem_of_getElem? (i := 50) (by decide +kernel)) (List.mem_of_getElem? (i := 51) (by decide +kernel)) (List.mem_of_getElem? (i := 43) (by decide +kernel)) dL_law_0 D4_ok ok_0 rfl ?_
  refine zJ.dup (pc := 3) dL_law_3 rfl ?_
  have hI := sp_initX (o := o) (mc := 0) (ms := 0)
  rw [show z_sb 0 = 0 + 1 from rfl] at hI
  refine zJ.callI (d := mdL_law) (pc := 4) (mc1 := 0 + 967) (ms1 := 0 + 11000) (mc2 := 0 + 1 + 1) (ms2 := 0 + 60 + 64) (As := []) (rest := [.ref (z_adr o (0, 0, 0))]) dL_law_4 ⟨(cb_X4_init).1, (cb_X4_init).2, (Nat.le_of_ble_eq_true rfl), (Nat.le_of_ble_eq_true rfl)⟩ ml_L_113 ci_X4_init rfl rfl rfl (Nat.le_of_ble_eq_true rfl) (Nat.le_of_ble_eq_true rfl) _ rfl hI ⟨by omega, by omega⟩ ?_
  rintro r M ⟨rfl, rfl⟩
  have hz := ini_zz 8
  have hcG : c_G 0 (z_ini 8) m_G0 := cG0
  generalize z_ini 8 = S1 at hz hcG ⊢
  refine zJ.astore_n (pc := 7) (lv' := [(1, .ref (z_adr o (0, 0, 0))), (0, .ref o.2.2.2.2.1)]) dL_law_7 rfl (Nat.le_of_ble_eq_true rfl) rfl ?_
  show zJ o mdL_law 8 _ _ (968, zP o (fun _ => none) S1) _ _ _
  refine zJ.bipush (pc := 8) (v := 64) dL_law_8 (by decide) ?_
  refine zO.newi (pc := 10) (mc := 0 + 1) (ms := 0 + 60) (N' := 64) (k := (23, 0, 0)) dL_law_10 (by decide) (show Int32.toNatClampNeg 64 = 64 from rfl) (by decide) (ia_23 o) rfl (hz (23, 0, 0) (by simp)).1 ok_23 rfl ?_
  refine zJ.astore_n (pc := 12) (lv' := [(2, .ref (z_adr o (23, 0, 0))), (1, .ref (z_adr o (0, 0, 0))), (0, .ref o.2.2.2.2.1)]) dL_law_12 rfl (Nat.le_of_ble_eq_true rfl) rfl ?_
  refine zJ.bipush (pc := 13) (v := 60) dL_law_13 (by decide) ?_
  refine zO.newi (pc := 15) (mc := 0) (ms := 0) (N' := 60) (k := (24, 0, 0)) dL_law_15 (by decide) (show Int32.toNatClampNeg 60 = 60 from rfl) (by decide) (ia_24 o) rfl (hz (24, 0, 0) (by simp)).1 ok_24 rfl ?_
  refine zJ.astore_n (pc := 17) (lv' := [(3, .ref (z_adr o (24, 0, 0))), (2, .ref (z_adr o (23, 0, 0))), (1, .ref (z_adr o (0, 0, 0))), (0, .ref o.2.2.2.2.1)]) dL_law_17 rfl (Nat.le_of_ble_eq_true rfl) rfl ?_
  refine zJ.sub [3, 2, 1, 0] rfl ?_
  exact zJ.mono (w_L_law_18 o S1 m_Qf (L_21 hL 0 (by omega) S1 hcG (fun t ht => absurd ht (Nat.not_lt_zero t)))) (fun r M h => by obtain ⟨S2, h1, h2⟩ := h; exact h2)
end SL
