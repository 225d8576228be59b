section SPR
variable {o : zW}
theorem sp_same {B : Nat} {S : zS} {G : mG} (h : c_G B S G) {a : mA} {r : Int32} (ha : a = (r, G)) : ∃ x, some (Value.int r) = some (.int x) ∧ c_post B S a x S := by
  subst ha
  exact ⟨_, rfl, rfl, G_B h (z_le3 B), up_rf S⟩
theorem c_got {B : Nat} (hB : B + 60000 ≤ m_BB) (S : zS) {G : mG} (h : c_G B S G) (x1 x2 : Int32) : zGi o 970 mdX4_got [.ref (z_adr o (0, 0, 0)), .int x1, .int x2] S (c_post B S (g_got G x1 x2)) := by
  have bad := sp_badR (o := o) S S h (up_rf S)
  unfold m_BB at hB
  obtain ⟨⟨U, hU, hR⟩, hal⟩ := h.1
  have r8 := hR.2.2.2.2.2.2.2
  have hN : m_N G.1 < 2 ^ 31 := by
    have a1 := hal.2.2.1.2
    have a2 := hal.2.2.2.1.2
    omega
  refine w_X4_got_0 o _ _ S _ ⟨fun h0 => ?_, fun h0 => ⟨fun h2 => ?_, fun h2 => ⟨fun h22 => ?_, fun h22 => ?_⟩⟩⟩
  · have : g_got G x1 x2 = g_bad G := by
      unfold g_got
      cases m_cl x2 3 with
      | none => rfl
      | some w => exact if_pos h0
    rw [this]; exact bad
  · have : g_got G x1 x2 = g_bad G := by unfold g_got; rw [cl_neg h2]
    rw [this]; exact bad
  · obtain ⟨w, hw, ew, ec⟩ := cl_le (N := 2) (by omega) h2 h22
    obtain ⟨k, hk, ek⟩ := nI_of h0
    have gg : g_got G x1 x2 = match m_cl x1 (min (m_N G.1) 200) with
        | some k => (G.1.1 (41 + w) k, G)
        | none => (-1, G) := by unfold g_got; rw [ec]; exact if_neg h0
    rw [gg, r8.1]
    refine ⟨fun hc => ?_, fun hc => ?_⟩
    · rw [cl_ge (N := min (m_N G.1) 200) (by omega) hc]
      exact sp_same h rfl
    · obtain ⟨k, hk, ek, ec2⟩ := cl_lt (N := min (m_N G.1) 200) (by omega) h0 hc
      have hk2 : k < m_N G.1 ∧ k < 200 := by omega
      obtain ⟨a1, a2, a3⟩ := r8.2.2.2.2.2 k hk2.1 hk2.2
      rw [ec2, ek]
      refine ⟨fun _ => ?_, fun hc => absurd (nI_lt (b := 200) hk2.2 (by omega)) hc⟩
      rw [z_cl (by omega), ew, a1, a2, a3]
      refine ⟨fun n0 => ⟨fun n1 => ⟨z_in hk2.2 (by omega), sp_same h ?_⟩, fun e1 => ⟨z_in hk2.2 (by omega), sp_same h ?_⟩⟩, fun e0 => ⟨z_in hk2.2 (by omega), sp_same h ?_⟩⟩
      · have : w = 2 := by
          have a : w ≠ 0 := fun e => n0 (by rw [e]; rfl)
          have b : w ≠ 1 := fun e => n1 (by rw [e]; rfl)
          omega
        subst this; rfl
      · have : w = 1 := (nI_eq (b := 1) (by omega) (by omega)).1 e1
        subst this; rfl
      · have : w = 0 := (nI_eq (b := 0) (by omega) (by omega)).1 e0
        subst this; rfl
  · have : g_got G x1 x2 = g_bad G := by unfold g_got; rw [cl_gt (N := 2) (by omega) (Int32.not_le.1 h22)]
    rw [this]; exact bad
theorem c_often {B : Nat} (S : zS) {G : mG} (h : c_G B S G) (x1 : Int32) : zGi o 970 mdX4_often [.ref (z_adr o (0, 0, 0)), .int x1] S (c_post B S (g_often G x1)) := by
  have bad := sp_badR (o := o) S S h (up_rf S)
  obtain ⟨⟨U, hU, hR⟩, hal⟩ := h.1
  refine w_X4_often_0 o _ S _ ⟨fun h0 => ?_, fun h0 => ⟨fun h10 => ?_, fun h10 => ?_⟩⟩
  · have : g_often G x1 = g_bad G := by unfold g_often; rw [cl_neg h0]
    rw [this]; exact bad
  · obtain ⟨k, hk, ek, ec⟩ := cl_lt (N := 10) (by omega) h0 (Int32.not_le.2 h10)
    refine ⟨by rw [ek]; exact z_in hk (by omega), ?_⟩
    have gg : g_often G x1 = (G.1.1 40 k, G) := by unfold g_often; rw [ec]
    rw [gg, ek, z_cl (by omega), hR.1.2.1 k hk]
    exact sp_same h rfl
  · have : g_often G x1 = g_bad G := by unfold g_often; rw [cl_ge (N := 10) (by omega) (Int32.not_lt.1 h10)]
    rw [this]; exact bad
theorem c_where {B : Nat} (S : zS) {G : mG} (h : c_G B S G) (x1 : Int32) : zGi o 970 mdX4_where [.ref (z_adr o (0, 0, 0)), .int x1] S (c_post B S (g_where G x1)) := by
  have bad := sp_badR (o := o) S S h (up_rf S)
  obtain ⟨⟨U, hU, hR⟩, hal⟩ := h.1
  refine w_X4_where_0 o _ S _ (sp_isBox x1 S _ (fun b hb e => ⟨fun _ => ⟨by rw [e]; exact z_in hb (by omega), ?_⟩, fun hc => absurd hc (by decide)⟩) (fun hc => ⟨fun hc => absurd rfl hc, fun _ => ?_⟩))
  · have gg : g_where G x1 = (G.1.1 29 b, G) := by unfold g_where; rw [e, cl_in hb (by omega)]
    rw [gg, e, z_cl (by omega), (hR.2.2.1 b hb).1]
    exact sp_same h rfl
  · have : g_where G x1 = g_bad G := by
      unfold g_where
      rcases hc with hc | hc
      · rw [cl_neg hc]
      · rw [cl_ge (N := 16) (by omega) hc]
    rw [this]; exact bad
theorem c_place {B : Nat} (hB : B + 60000 ≤ m_BB) (S : zS) {G : mG} (h : c_G B S G) (x1 x2 : Int32) : zGi o 970 mdX4_place [.ref (z_adr o (0, 0, 0)), .int x1, .int x2] S (c_post B S (g_place G x1 x2)) := by
  have bad := sp_badR (o := o) S S h (up_rf S)
  unfold m_BB at hB
  obtain ⟨⟨U, hU, hR⟩, hal⟩ := h.1
  have nb : ∀ x1 x2, (m_cl x1 4 = none ∨ m_cl x2 3 = none) → g_place G x1 x2 = g_bad G := by
    intro y1 y2 hy
    unfold g_place
    rcases hy with hy | hy
    · rw [hy]
    · rw [hy]; cases m_cl y1 4 <;> rfl
  refine w_X4_place_0 o _ _ S _ ⟨fun c => ?_, fun c1 => ⟨fun c => ?_, fun c2 => ⟨fun c => ?_, fun c3 => ⟨fun c => ?_, fun c => ?_⟩⟩⟩⟩
  · rw [nb _ _ (Or.inl (cl_neg c))]; exact bad
  · rw [nb _ _ (Or.inl (cl_ge (N := 4) (by omega) c))]; exact bad
  · rw [nb _ _ (Or.inr (cl_neg c))]; exact bad
  · obtain ⟨r, hr, er, ec⟩ := cl_lt (N := 4) (by omega) c1 c2
    obtain ⟨k, hk, ek, ec2⟩ := cl_lt (N := 3) (by omega) c3 (Int32.not_le.2 c)
    have gg : g_place G x1 x2 = ((match (m_R G.1 r)[k]? with | some b => nI b | none => -1), G) := by
      unfold g_place; rw [ec, ec2]; rfl
    rw [gg, er, ek]
    exact sp_boxInPlace (by omega) (z_hn (by omega)) hr hk S hR (by omega) hal.1.2.1 _ (sp_same h rfl)
  · rw [nb _ _ (Or.inr (cl_ge (N := 3) (by omega) (Int32.not_lt.1 c)))]; exact bad
theorem c_fetch2 {B : Nat} (hB : B + 60000 ≤ m_BB) (S : zS) {G : mG} (h : c_G B S G) (x1 x2 : Int32) : zGi o 970 mdX4_fetch [.ref (z_adr o (0, 0, 0)), .int x1, .int x2] S (c_post B S (g_fetch G x1 x2)) := by
  have bad := sp_badR (o := o) S S h (up_rf S)
  unfold m_BB at hB
  have hH := h.1
  obtain ⟨⟨U, hU, hR⟩, hal⟩ := h.1
  refine w_X4_fetch_0 o _ _ S _ ⟨fun h0 => ?_, fun h0 => ⟨fun h2 => ?_, fun h2 => ⟨fun h22 => ?_, fun h22 => ?_⟩⟩⟩
  · have : g_fetch G x1 x2 = g_bad G := by
      unfold g_fetch
      cases m_cl x2 3 with
      | none => rfl
      | some w => exact if_pos h0
    rw [this]; exact bad
  · have : g_fetch G x1 x2 = g_bad G := by unfold g_fetch; rw [cl_neg h2]
    rw [this]; exact bad
  · obtain ⟨w, hw, ew, ec⟩ := cl_le (N := 2) (by omega) h2 h22
    obtain ⟨k, hk, ek⟩ := nI_of h0
    have gg : g_fetch G x1 x2 = match (m_F G.1)[k]? with
        | some b => (if w = 0 then nI b else if w = 1 then G.1.1 30 b - G.1.1 40 9 else nI (m_Q G.1 b).length, G)
        | none => (-1, G) := by
      unfold g_fetch; rw [ec]
      dsimp only
      rw [if_neg h0, ek, z_cl hk]; rfl
    rw [gg, ek]
    refine sp_boxOfFetch (by omega) (z_hn (by omega)) hk S hH (by omega) _ ⟨fun hn => ?_, fun b hb => ?_⟩
    · rw [hn]; exact sp_same h rfl
    · rw [hb]
      have hbF : b ∈ m_F G.1 := List.mem_of_getElem? hb
      obtain ⟨hb16, -, hb3⟩ := (hal.1.2.2.1.2.1 b).1 hbF
      have a4 := (hR.2.2.2.1 b hb16).1
      have a3 := (hR.2.2.1 b hb16).2.2
      rw [if_pos (Or.inr hb3)] at a3
      have a9 := hR.1.2.1 9 (by omega)
      rw [ew, a4, a3, a9]
      refine ⟨fun n0 => ⟨fun n1 => sp_same h ?_, fun e1 => sp_same h ?_⟩, fun e0 => sp_same h ?_⟩
      · have : w = 2 := by
          have a : w ≠ 0 := fun e => n0 (by rw [e]; rfl)
          have b : w ≠ 1 := fun e => n1 (by rw [e]; rfl)
          omega
        subst this; rfl
      · have : w = 1 := (nI_eq (b := 1) (by omega) (by omega)).1 e1
        subst this; rfl
      · have : w = 0 := (nI_eq (b := 0) (by omega) (by omega)).1 e0
        subst this; rfl
  · have : g_fetch G x1 x2 = g_bad G := by unfold g_fetch; rw [cl_gt (N := 2) (by omega) (Int32.not_le.1 h22)]
    rw [this]; exact bad
theorem c_told {B : Nat} (S : zS) {G : mG} (h : c_G B S G) (x1 : Int32) : zGi o 970 mdX4_told [.ref (z_adr o (0, 0, 0)), .int x1] S (c_post B S (g_told G x1)) := by
  have bad := sp_badR (o := o) S S h (up_rf S)
  obtain ⟨⟨U, hU, hR⟩, hal⟩ := h.1
  refine w_X4_told_0 o _ S _ ⟨fun h0 => ?_, fun h0 => ⟨fun h9 => ?_, fun h9 => ?_⟩⟩
  · have : g_told G x1 = g_bad G := by unfold g_told; rw [cl_neg h0]
    rw [this]; exact bad
  · obtain ⟨k, hk, ek, ec⟩ := cl_le (N := 9) (by omega) h0 h9
    have gg : g_told G x1 = (if k < 3 then G.2.2.1 k else if k = 3 then nI G.2.2.2.2 else if k = 9 then nI G.2.1.length else G.1.1 25 (k - 4), G) := by unfold g_told; rw [ec]
    rw [gg, ek]
    refine ⟨fun h3 => ⟨fun n3 => ⟨fun n9 => ?_, fun e9 => ?_⟩, fun e3 => ?_⟩, fun h3 => ?_⟩
    · have a : k ≠ 3 := fun e => n3 (by rw [e]; rfl)
      have b : k ≠ 9 := fun e => n9 (by rw [e]; rfl)
      have c : 3 ≤ k := (nI_leI (a := 3) (by omega) (by omega)).1 h3
      rw [show (4 : Int32) = nI 4 from rfl, pk_sub (by omega)]
      refine ⟨z_in (by omega) (by omega), ?_⟩
      rw [z_cl (by omega), hR.1.1 (k - 4) (by omega)]
      exact sp_same h (by rw [if_neg (by omega), if_neg a, if_neg b])
    · have : k = 9 := (nI_eq (b := 9) (by omega) (by omega)).1 e9
      subst this
      rw [h.2.1.2.1]
      exact sp_same h rfl
    · have : k = 3 := (nI_eq (b := 3) (by omega) (by omega)).1 e3
      subst this
      rw [h.2.2.2.1]
      exact sp_same h rfl
    · have c : k < 3 := by
        rcases Nat.lt_or_ge k 3 with g | g
        · exact g
        · exact absurd (nI_le (a := 3) g (by omega)) h3
      refine ⟨z_in c (by omega), ?_⟩
      rw [z_cl (by omega), h.2.2.1 k c]
      exact sp_same h (by rw [if_pos c])
  · have : g_told G x1 = g_bad G := by unfold g_told; rw [cl_gt (N := 9) (by omega) (Int32.not_le.1 h9)]
    rw [this]; exact bad
theorem c_clear {B : Nat} (S : zS) {G : mG} (h : c_G B S G) : zGi o 970 mdX4_clear [.ref (z_adr o (0, 0, 0))] S (c_post B S (g_clear G)) := by
  obtain ⟨h1, h2, h3, h4⟩ := h
  refine w_X4_clear_0 o S _ ⟨_, rfl, h4.1, G_B ⟨H_sm h1 (sm_I S 16 _ _ (by omega)), hist_sm h2 (by funext t; simp [sI]) (fun i hi => sm_I S 16 _ _ (by omega)), fun t ht => ?_, ?_, Nat.zero_le _, fun k hk => absurd hk (Nat.not_lt_zero k)⟩ (z_le3 B), up_I S 16 _ _ (by omega)⟩
  · simpa [sI, g_clear] using h3 t ht
  · simp [sI, g_clear]; rfl
theorem c_type {B : Nat} (S : zS) {G : mG} (h : c_G B S G) (x1 : Int32) : zGi o 970 mdX4_type [.ref (z_adr o (0, 0, 0)), .int x1] S (c_post B S (g_type G x1)) := by
  have bad := sp_badR (o := o) S S h (up_rf S)
  have hfull : ∀ a : mA, a = (-4, g_ref G 2) → zGi o 970 mdX4_refuse [.ref (z_adr o (0, 0, 0)), .int (-4)] S (fun r S4 => ∃ x, some (Value.int r) = some (.int x) ∧ c_post B S a x S4) := by
    intro a ha
    subst ha
    exact sp_refuse S h (k := 2) (by omega) (by decide) _ (fun S' h' u' => ⟨_, rfl, rfl, G_B h' (z_le3 B), u'⟩)
  refine w_X4_type_0 o _ S _ ⟨fun h0 => ?_, fun h0 => ⟨fun h127 => ?_, fun h127 => ?_⟩⟩
  · have : g_type G x1 = g_bad G := by unfold g_type; rw [cl_neg h0]
    rw [this]; exact bad
  · obtain ⟨c, hc, ec, e2⟩ := cl_le (N := 127) (by omega) h0 h127
    obtain ⟨h1, h2, h3, h4⟩ := h
    have hn := h4.2.1
    rw [h4.1]
    refine ⟨fun hc => absurd hc (nI_pos (by omega)), fun _ => ⟨fun hl => ?_, fun hl => ?_⟩⟩
    · have hlt : G.2.2.2.2 < 120 := (nI_ltI (b := 120) (by omega) (by omega)).1 hl
      have gg : g_type G x1 = (nI (G.2.2.2.2 + 1), (G.1, G.2.1, G.2.2.1, fun k => if k = G.2.2.2.2 then c else G.2.2.2.1 k, G.2.2.2.2 + 1)) := by
        unfold g_type; rw [e2]; exact if_pos hlt
      rw [gg, z_cl (by omega)]
      refine ⟨z_in hlt (by omega), fun y ey S12 e12 => ?_⟩
      have ey' : y = nI G.2.2.2.2 := by rw [ey]; simpa [sI] using h4.1
      rw [ey', ← nI_succ] at e12
      subst e12
      have s12 : ∀ i, c_sm i S (sI (sI S (17, 0, 0) G.2.2.2.2 x1) (16, 0, 0) 4 (nI (G.2.2.2.2 + 1))) := fun i => sm_tr (sm_I S 17 _ _ (by omega)) (sm_I _ 16 _ _ (by omega))
      refine ⟨_, rfl, by simp [sI], G_B ⟨H_sm h1 (s12 0), hist_sm h2 (by funext t; simp [sI]) (fun i hi => s12 i), fun t ht => ?_, ?_, by simp only; omega, fun k hk => ?_⟩ (z_le3 B), up_tr (up_I S 17 _ _ (by omega)) (up_I _ 16 _ _ (by omega))⟩
      · simpa [sI] using h3 t ht
      · simp [sI]
      · simp only [sI] at hk ⊢
        by_cases e : k = G.2.2.2.2
        · subst e; simp [ec]; exact hc
        · have := h4.2.2 k (by omega)
          simpa [e] using this
    · refine hfull _ ?_
      unfold g_type; rw [e2]
      exact if_neg (fun hlt => hl (nI_lt (b := 120) hlt (by omega)))
  · have : g_type G x1 = g_bad G := by unfold g_type; rw [cl_gt (N := 127) (by omega) (Int32.not_le.1 h127)]
    rw [this]; exact bad
theorem c_runs {B : Nat} (hB : B + 60000 ≤ m_BB) (S : zS) {G : mG} (h : c_G B S G) : zGi o 970 mdX4_runs [.ref (z_adr o (0, 0, 0))] S (c_post B S (g_runs G)) := by
  have hok := text_ok G.2.2.2.1 G.2.2.2.2
  have h120 := h.2.2.2.2.1
  refine w_X4_runs_0 o S _ (sp_readOrders S h.2.2.2 _ (fun S2 f2 => ?_))
  have h2 := G_ft h f2
  cases ht : m_text G.2.2.2.1 G.2.2.2.2 with
  | inl e =>
    rw [ht] at hok
    refine ⟨fun hc => absurd hc (nI_m1 (by simp only at hok; omega)), fun _ => ⟨_, rfl, ?_, ?_, up_ft f2⟩⟩
    · unfold g_runs; rw [ht]
    · have : (g_runs G).2 = G := by unfold g_runs; rw [ht]
      rw [this]; exact G_B h2 (z_le3 B)
  | inr l =>
    rw [ht] at hok
    simp only at hok
    intro ho
    refine ⟨fun _ => ?_, fun hc => absurd rfl hc⟩
    have gg : g_runs G = ((l.foldl m_exec G.1).1 40 9 - G.1.1 40 9, g_now (g_keep G) (l.foldl m_exec G.1)) := by unfold g_runs; rw [ht]
    rw [gg]
    refine sp_keepO S2 h2 ho _ (fun S3 h3 u3 o3 => ?_)
    obtain ⟨⟨U, hU, hR⟩, hal⟩ := h3.1
    have ea : S3.1 (3, 0, 0) 9 = G.1.1 40 9 := hR.1.2.1 9 (by omega)
    rw [ea]
    have hle : 1000 * l.length ≤ 60000 := by have := hok.2; omega
    refine sp_carryOut (A := G.1) (by omega) S3 h3.1 o3 hok.1 (Nat.le_trans (Nat.add_le_add_left hle B) hB) _ (fun S' h' f' => ⟨_, rfl, ?_, G_B (G_now h3 f' h' (Nat.le_add_right _ _)) (Nat.add_le_add_left hle B), up_tr (up_ft f2) (up_tr u3 (up_fr f'))⟩)
    obtain ⟨⟨U', hU', hR'⟩, hal'⟩ := h'
    rw [hR'.1.2.1 9 (by omega)]
end SPR
