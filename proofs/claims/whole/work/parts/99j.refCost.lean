/-! cost, even, digest of the reference; even and digest as calls -/
section RCS
variable {o : zW}
theorem rs_costBy {B : Nat} (hB : B + 60000 ≤ m_BB) (S : zS) {G : mG} (h : r_G B S G) {w : Nat} (hw : w < 3) (K : UInt32 → zS → Prop) (hK : K (m_cf G.1 w) S) : zGf o 994 mdX5_costBy [.ref (z_adr o (23, 0, 0)), .int (nI w)] S K := by
  have hal := h.1.1.1
  obtain ⟨g, e, hb, h0, hp, hp2⟩ := g8_pos hB hal
  have hok := cf_ok hB hal
  have hR := h.2.1
  have r8 := hR.1 40 8 (by unfold r_dir; omega)
  have r2 := hR.1 39 2 (by unfold r_dir; omega)
  refine w_X5_costBy_0 o _ S _ ⟨fun n0 => ⟨fun n2 => ?_, fun e2 => ?_⟩, fun e0 => ?_⟩
  · have hw1 : w = 1 := by
      have a : w ≠ 0 := fun e => n0 (by rw [e]; rfl)
      have b : w ≠ 2 := fun e => n2 (by rw [e]; rfl)
      omega
    subst hw1
    rw [hR.2.2.2.2.2.1, r8]
    refine ⟨fun hg => ?_, fun hg => ⟨_, rfl, ?_⟩⟩
    · have ecf : m_cf G.1 1 = FP.fdiv (FP.l2f (m_W G.1)) (FP.i2f (G.1.1 40 8)) := by
        unfold m_cf
        rw [if_neg (by omega), if_pos rfl, if_neg hg]
      have hk1 := hok 1
      rw [ecf] at hk1 hK
      exact ⟨(fok_nn hk1).2, _, rfl, hK⟩
    · have ecf : m_cf G.1 1 = 0 := by
        unfold m_cf
        rw [if_neg (by omega), if_pos rfl, if_pos hg]
      rw [ecf] at hK
      exact hK
  · have hw2 : w = 2 := (nI_eq (b := 2) (by omega) (by omega)).1 e2
    subst hw2
    refine ⟨_, rfl, ?_⟩
    rw [r2]
    exact hK
  · have hw0 : w = 0 := (nI_eq (b := 0) (by omega) (by omega)).1 e0
    subst hw0
    refine ⟨_, rfl, ?_⟩
    rw [hR.2.2.2.2.1]
    exact hK
theorem rs_costN {B : Nat} (hB : B + 60000 ≤ m_BB) (S : zS) {G : mG} (h : r_G B S G) {w : Nat} (hw : w < 3) (K : Int32 → zS → Prop) (hK : K (m_cf G.1 w).toInt32 S) : zGi o 994 mdX5_cost [.ref (z_adr o (23, 0, 0)), .int (nI w)] S K := by
  refine w_X5_cost_0 o _ S _ (rs_inN (nI w) (N := 2) (by omega) rfl S _ (fun k hk e ec => ⟨fun hc => absurd hc (by decide), fun _ => rs_costBy hB S h hw _ ?_⟩) (fun hc => ?_))
  · exact sj_f2i _ (fok_nn (cf_ok hB h.1.1.1 w)).1 S _ ⟨_, rfl, hK⟩
  · exfalso
    have := cl_in (N := 3) hw (by omega)
    rw [this] at hc
    exact absurd hc (by simp)
theorem r_cost {B : Nat} (hB : B + 60000 ≤ m_BB) (S : zS) {G : mG} (h : r_G B S G) (x1 : Int32) : zGi o 994 mdX5_cost [.ref (z_adr o (23, 0, 0)), .int x1] S (r_post B S (g_cost G x1)) := by
  refine w_X5_cost_0 o _ S _ (rs_inN x1 (N := 2) (by omega) rfl S _ (fun k hk e ec => ⟨fun hc => absurd hc (by decide), fun _ => ?_⟩) (fun hc => ⟨fun _ => ?_, fun hc => absurd rfl hc⟩))
  · have gg : g_cost G x1 = ((m_cf G.1 k).toInt32, G) := by unfold g_cost; rw [ec]
    rw [gg, e]
    exact rs_costBy hB S h hk _ (sj_f2i _ (fok_nn (cf_ok hB h.1.1.1 k)).1 S _ (rs_same h rfl))
  · have gg : g_cost G x1 = g_bad G := by unfold g_cost; rw [hc]
    rw [gg]; exact rs_bad S h
theorem rs_evenN {B : Nat} (hB : B + 60000 ≤ m_BB) (S : zS) {G : mG} (h : r_G B S G) (K : Int64 → zS → Prop) (hK : K (m_de G.1).toInt64 S) : zGl o 994 mdX5_even [.ref (z_adr o (23, 0, 0))] S K := by
  have hal := h.1.1.1
  obtain ⟨g, e, hb, h0, hp, hp2⟩ := g8_pos hB hal
  have hR := h.2.1
  have r8 := hR.1 40 8 (by unfold r_dir; omega)
  refine w_X5_even_0 o S _ ?_
  rw [hR.2.2.2.2.2.1, hR.2.2.2.2.2.2, r8]
  refine ⟨fun hg => ?_, fun hg => ?_⟩
  · have hg0 : g ≠ 0 := fun hx => hg (h0.2 hx)
    have ede : m_de G.1 = m_ev (m_W G.1) (m_X G.1) (G.1.1 40 8) := by
      unfold m_de
      rw [if_neg hg]
    obtain ⟨v1, v2, v3, v4⟩ := dok_ev (m_W G.1) (m_X G.1) (hp hg0)
    rw [ede] at hK
    exact ⟨v2, v3, v4, (dok_nn v1).2, sj_d2l _ (dok_nn v1).1 S _ ⟨_, rfl, hK⟩⟩
  · have ede : m_de G.1 = 0 := by
      unfold m_de
      rw [if_pos hg]
    rw [ede] at hK
    exact sj_d2l _ (dok_nn dok_0).1 S _ ⟨_, rfl, hK⟩
theorem rs_digest {B : Nat} (hB : B + 60000 ≤ m_BB) (S : zS) {G : mG} (h : r_G B S G) (K : Int64 → zS → Prop) (hK : K (g_dig G) S) : zGl o 994 mdX5_digest [.ref (z_adr o (23, 0, 0))] S K := by
  have hR := h.2.1
  let Q : Option Value → zS → Prop := fun r S' => ∃ x, r = some (.long x) ∧ K x S'
  have l4 : ∀ H : Int64, m_hs (G.1.1 29) 16 H = m_h4 G → zG o 994 mdX5_digest 89 [(0, .ref (z_adr o (23, 0, 0))), (1, .long H), (3, .int 0)] [] S Q := by
    intro H hH
    refine z_down 16 (fun k => zG o 994 mdX5_digest 89 [(0, .ref (z_adr o (23, 0, 0))), (1, .long (m_hs (G.1.1 29) k H)), (3, .int (nI k))] [] S Q) ?_ ?_ 0 (by omega)
    · rw [hH]
      refine w_X5_digest_89 o _ _ S _ ⟨fun _ => ?_, fun hc => absurd (by decide) hc⟩
      refine rs_costN (w := 0) hB S h (by omega) _ (rs_costN (w := 1) hB S h (by omega) _ (rs_evenN hB S h _ ⟨_, rfl, hK⟩))
    · intro k hk ih
      refine w_X5_digest_89 o _ _ S _ ⟨fun hc => absurd hc (z_ge (a := k) (b := 16) hk (by decide)), fun _ => ⟨z_in hk (by omega), ?_⟩⟩
      rw [z_cl (by omega), hR.1 29 k (by unfold r_dir; omega), ← nI_succ]
      exact ih
  have l3 : ∀ H : Int64, m_hs (G.1.1 29) 16 (m_hs (G.1.1 26) 64 H) = m_h4 G → zG o 994 mdX5_digest 61 [(0, .ref (z_adr o (23, 0, 0))), (1, .long H), (3, .int 0)] [] S Q := by
    intro H hH
    refine z_down 64 (fun k => zG o 994 mdX5_digest 61 [(0, .ref (z_adr o (23, 0, 0))), (1, .long (m_hs (G.1.1 26) k H)), (3, .int (nI k))] [] S Q) ?_ ?_ 0 (by omega)
    · exact w_X5_digest_61 o _ _ S _ ⟨fun _ => l4 _ hH, fun hc => absurd (by decide) hc⟩
    · intro k hk ih
      refine w_X5_digest_61 o _ _ S _ ⟨fun hc => absurd hc (z_ge (a := k) (b := 64) hk (by decide)), fun _ => ⟨z_in hk (by omega), ?_⟩⟩
      rw [z_cl (by omega), hR.1 26 k (by unfold r_dir; omega), ← nI_succ]
      exact ih
  have l2 : ∀ H : Int64, m_hs (G.1.1 29) 16 (m_hs (G.1.1 26) 64 (m_hs (G.1.1 40) 10 H)) = m_h4 G → zG o 994 mdX5_digest 33 [(0, .ref (z_adr o (23, 0, 0))), (1, .long H), (3, .int 0)] [] S Q := by
    intro H hH
    refine z_down 10 (fun k => zG o 994 mdX5_digest 33 [(0, .ref (z_adr o (23, 0, 0))), (1, .long (m_hs (G.1.1 40) k H)), (3, .int (nI k))] [] S Q) ?_ ?_ 0 (by omega)
    · exact w_X5_digest_33 o _ _ S _ ⟨fun _ => l3 _ hH, fun hc => absurd (by decide) hc⟩
    · intro k hk ih
      refine w_X5_digest_33 o _ _ S _ ⟨fun hc => absurd hc (z_ge (a := k) (b := 10) hk (by decide)), fun _ => ⟨z_in hk (by omega), ?_⟩⟩
      rw [z_cl (by omega), hR.1 40 k (by unfold r_dir; omega), ← nI_succ]
      exact ih
  refine w_X5_digest_0 o S _ ?_
  refine z_down 10 (fun k => zG o 994 mdX5_digest 6 [(0, .ref (z_adr o (23, 0, 0))), (1, .long (m_hs (m_tld G) k 2087)), (3, .int (nI k))] [] S Q) ?_ ?_ 0 (by omega)
  · exact w_X5_digest_6 o _ _ S _ ⟨fun _ => l2 _ rfl, fun hc => absurd (by decide) hc⟩
  · intro k hk ih
    refine w_X5_digest_6 o _ _ S _ ⟨fun hc => absurd hc (z_ge (a := k) (b := 10) hk (by decide)), fun _ => ?_⟩
    refine rs_toldBy S h hk _ ?_
    rw [← nI_succ]
    exact ih
def c_postl (B : Nat) (S : zS) (G : mG) (a r : Int64) (S' : zS) : Prop := r = a ∧ c_G (B + 60000) S' G ∧ c_up S S'
def r_postl (B : Nat) (S : zS) (G : mG) (a r : Int64) (S' : zS) : Prop := r = a ∧ r_G (B + 60000) S' G ∧ r_dn S S'
theorem c_even {B : Nat} (hB : B + 60000 ≤ m_BB) (S : zS) {G : mG} (h : c_G B S G) : zGl o 994 mdX4_even [.ref (z_adr o (0, 0, 0))] S (c_postl B S G (m_de G.1).toInt64) := sp_evenN hB S h _ ⟨rfl, G_B h (z_le3 B), up_rf S⟩
theorem c_digest {B : Nat} (hB : B + 60000 ≤ m_BB) (S : zS) {G : mG} (h : c_G B S G) : zGl o 994 mdX4_digest [.ref (z_adr o (0, 0, 0))] S (c_postl B S G (g_dig G)) := sp_digest hB S h _ ⟨rfl, G_B h (z_le3 B), up_rf S⟩
theorem r_even {B : Nat} (hB : B + 60000 ≤ m_BB) (S : zS) {G : mG} (h : r_G B S G) : zGl o 994 mdX5_even [.ref (z_adr o (23, 0, 0))] S (r_postl B S G (m_de G.1).toInt64) := rs_evenN hB S h _ ⟨rfl, RG_B h (z_le3 B), dn_rf S⟩
theorem r_digest {B : Nat} (hB : B + 60000 ≤ m_BB) (S : zS) {G : mG} (h : r_G B S G) : zGl o 994 mdX5_digest [.ref (z_adr o (23, 0, 0))] S (r_postl B S G (g_dig G)) := rs_digest hB S h _ ⟨rfl, RG_B h (z_le3 B), dn_rf S⟩
end RCS
