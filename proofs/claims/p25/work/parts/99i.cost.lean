/-! cost, even, digest -/
def m_cf (A : mS) (w : Nat) : UInt32 := if w = 0 then m_C A else if w = 1 then (if A.1 40 8 = 0 then 0 else FP.fdiv (FP.l2f (m_W A)) (FP.i2f (A.1 40 8))) else FP.i2f (A.1 39 2)
def m_de (A : mS) : UInt64 := if A.1 40 8 = 0 then 0 else m_ev (m_W A) (m_X A) (A.1 40 8)
def g_cost (G : mG) (x1 : Int32) : mA := match m_cl x1 3 with
  | some w => ((m_cf G.1 w).toInt32, G)
  | none => g_bad G
def m_tld (G : mG) (k : Nat) : Int32 := if k < 3 then G.2.2.1 k else if k = 3 then nI G.2.2.2.2 else if k = 9 then nI G.2.1.length else G.1.1 25 (k - 4)
def m_hs (f : Nat → Int32) : Nat → Int64 → Int64
  | 0, h => h
  | k + 1, h => 31 * m_hs f k h + (f k).toInt64
def m_h4 (G : mG) : Int64 := m_hs (G.1.1 29) 16 (m_hs (G.1.1 26) 64 (m_hs (G.1.1 40) 10 (m_hs (m_tld G) 10 2087)))
def g_dig (G : mG) : Int64 := 31 * (31 * (31 * m_h4 G + (m_cf G.1 0).toInt32.toInt64) + (m_cf G.1 1).toInt32.toInt64) + (m_de G.1).toInt64
theorem g8_pos {A : mS} {B : Nat} (hB : B + 60000 ≤ m_BB) (h : m_al B 0 A) : ∃ g, A.1 40 8 = nI g ∧ g < 2 ^ 31 ∧ (A.1 40 8 = 0 ↔ g = 0) ∧ (g ≠ 0 → 0 < (A.1 40 8).toInt) ∧ (0 < A.1 40 8 ↔ g ≠ 0) := by
  obtain ⟨hI, hd, ht, hn, ⟨g, e, hg⟩, ho⟩ := h
  have ht2 := ht.2
  have hb : g < 2 ^ 31 := by unfold m_BB at hB; omega
  refine ⟨g, e, hb, ?_, fun h0 => ?_, ?_⟩
  · rw [e]; exact nI_eq (b := 0) hb (by omega)
  · rw [e, nI_toInt hb]; omega
  · rw [e]
    have := nI_ltI (a := 0) (b := g) (by omega) hb
    constructor
    · intro h; have := this.1 h; omega
    · intro h; exact this.2 (by omega)
theorem cf_ok {A : mS} {B : Nat} (hB : B + 60000 ≤ m_BB) (h : m_al B 0 A) (w : Nat) : m_fok (m_cf A w) := by
  obtain ⟨g, e, hb, h0, hp, -⟩ := g8_pos hB h
  unfold m_cf
  split
  · exact fok_cost h.1.2.2.2.2.2.2
  · split
    · split
      · exact fok_0
      · rename_i hne
        exact fok_mean _ (hp (fun hg => hne (h0.2 hg)))
    · exact fok_i2f _
theorem de_ok {A : mS} {B : Nat} (hB : B + 60000 ≤ m_BB) (h : m_al B 0 A) : m_dok (m_de A) := by
  obtain ⟨g, e, hb, h0, hp, -⟩ := g8_pos hB h
  unfold m_de
  split
  · exact dok_0
  · rename_i hne
    exact (dok_ev _ _ (hp (fun hg => hne (h0.2 hg)))).1
section CST
variable {o : zW}
theorem sp_costN {B : Nat} (hB : B + 60000 ≤ m_BB) (S : zS) {G : mG} (h : c_G B S G) {w : Nat} (hw : w < 3) (K : Int32 → zS → Prop) (hK : K (m_cf G.1 w).toInt32 S) : zGi o 970 mdX4_cost [.ref (z_adr o (0, 0, 0)), .int (nI w)] S K := by
  obtain ⟨⟨U, hU, hR⟩, hal⟩ := h.1
  obtain ⟨g, e, hb, h0, hp, hp2⟩ := g8_pos hB hal
  have hok := cf_ok hB hal
  have r8 := hR.2.2.2.2.2.2.2
  refine w_X4_cost_0 o _ S _ ⟨fun hc => absurd hc (nI_pos (by omega)), fun _ => ⟨fun _ => ⟨fun n0 => ⟨fun n1 => ?_, fun e1 => ?_⟩, fun e0 => ?_⟩, fun hc => absurd (nI_le (a := w) (b := 2) (by omega) (by omega)) hc⟩⟩
  · have hw2 : w = 2 := by
      have a : w ≠ 0 := fun e => n0 (by rw [e]; rfl)
      have b : w ≠ 1 := fun e => n1 (by rw [e]; rfl)
      omega
    subst hw2
    rw [r8.2.2.1]
    exact sp_floatBits _ (hok 2).1 (hok 2).2 S _ ⟨_, rfl, hK⟩
  · have hw1 : w = 1 := (nI_eq (b := 1) (by omega) (by omega)).1 e1
    subst hw1
    refine w_X1_meanWait_0 o 970 0 (by omega) (z_hn (by omega)) S _ ?_
    rw [r8.2.1, r8.2.2.2.1]
    refine ⟨fun hg => ?_, fun hg => ⟨_, rfl, ?_⟩⟩
    · have hg0 := hp2.1 hg
      have ecf : m_cf G.1 1 = FP.fdiv (FP.l2f (m_W G.1)) (FP.i2f (G.1.1 40 8)) := by
        unfold m_cf
        rw [if_neg (by omega), if_pos rfl, if_neg (fun hx => hg0 (h0.1 hx))]
      have hk1 := hok 1
      rw [ecf] at hk1 hK
      exact ⟨(fok_nn hk1).2, _, rfl, sp_floatBits _ hk1.1 hk1.2 S _ ⟨_, rfl, hK⟩⟩
    · have hg0 : g = 0 := by
        rcases Nat.eq_zero_or_pos g with a | a
        · exact a
        · exact absurd (hp2.2 (by omega)) hg
      have ecf : m_cf G.1 1 = 0 := by
        unfold m_cf
        rw [if_neg (by omega), if_pos rfl, if_pos (h0.2 hg0)]
      rw [ecf] at hK
      exact sp_floatBits _ fok_0.1 fok_0.2 S _ ⟨_, rfl, hK⟩
  · have hw0 : w = 0 := (nI_eq (b := 0) (by omega) (by omega)).1 e0
    subst hw0
    rw [hR.1.2.2]
    exact sp_floatBits _ (hok 0).1 (hok 0).2 S _ ⟨_, rfl, hK⟩
theorem c_cost {B : Nat} (hB : B + 60000 ≤ m_BB) (S : zS) {G : mG} (h : c_G B S G) (x1 : Int32) : zGi o 970 mdX4_cost [.ref (z_adr o (0, 0, 0)), .int x1] S (c_post B S (g_cost G x1)) := by
  have bad := sp_badR (o := o) S S h (up_rf S)
  by_cases h0 : x1 < 0
  · have gg : g_cost G x1 = g_bad G := by unfold g_cost; rw [cl_neg h0]
    rw [gg]
    exact w_X4_cost_0 o _ S _ ⟨fun _ => bad, fun hc => absurd h0 hc⟩
  · by_cases h2 : x1 ≤ 2
    · obtain ⟨w, hw, ew, ec⟩ := cl_le (N := 2) (by omega) h0 h2
      have gg : g_cost G x1 = ((m_cf G.1 w).toInt32, G) := by unfold g_cost; rw [ec]
      rw [gg, ew]
      refine sp_costN hB S h hw _ ⟨rfl, G_B h (z_le3 B), up_rf S⟩
    · have gg : g_cost G x1 = g_bad G := by unfold g_cost; rw [cl_gt (N := 2) (by omega) (Int32.not_le.1 h2)]
      rw [gg]
      exact w_X4_cost_0 o _ S _ ⟨fun hc => absurd hc h0, fun _ => ⟨fun hc => absurd hc h2, fun _ => bad⟩⟩
theorem sp_evenN {B : Nat} (hB : B + 60000 ≤ m_BB) (S : zS) {G : mG} (h : c_G B S G) (K : Int64 → zS → Prop) (hK : K (m_de G.1).toInt64 S) : zGl o 970 mdX4_even [.ref (z_adr o (0, 0, 0))] S K := by
  obtain ⟨⟨U, hU, hR⟩, hal⟩ := h.1
  obtain ⟨g, e, hb, h0, hp, hp2⟩ := g8_pos hB hal
  have r8 := hR.2.2.2.2.2.2.2
  refine w_X4_even_0 o S _ (w_X1_spread_0 o 970 0 (by omega) (z_hn (by omega)) S _ ?_)
  rw [r8.2.1, r8.2.2.2.1, r8.2.2.2.2.1]
  refine ⟨fun hg => ?_, fun hg => ⟨_, rfl, ?_⟩⟩
  · have hg0 := hp2.1 hg
    have ede : m_de G.1 = m_ev (m_W G.1) (m_X G.1) (G.1.1 40 8) := by
      unfold m_de
      rw [if_neg (fun hx => hg0 (h0.1 hx))]
    obtain ⟨v1, v2, v3, v4⟩ := dok_ev (m_W G.1) (m_X G.1) (hp hg0)
    rw [ede] at hK
    exact ⟨v2, v3, v4, (dok_nn v1).2, _, rfl, sp_doubleBits _ v1.1 v1.2 S _ ⟨_, rfl, hK⟩⟩
  · have hg0 : g = 0 := by
      rcases Nat.eq_zero_or_pos g with a | a
      · exact a
      · exact absurd (hp2.2 (by omega)) hg
    have ede : m_de G.1 = 0 := by
      unfold m_de
      rw [if_pos (h0.2 hg0)]
    rw [ede] at hK
    exact sp_doubleBits _ dok_0.1 dok_0.2 S _ ⟨_, rfl, hK⟩
theorem sp_toldN {B : Nat} (S : zS) {G : mG} (h : c_G B S G) {k : Nat} (hk : k < 10) (K : Int32 → zS → Prop) (hK : K (m_tld G k) S) : zGi o 970 mdX4_told [.ref (z_adr o (0, 0, 0)), .int (nI k)] S K := by
  obtain ⟨⟨U, hU, hR⟩, hal⟩ := h.1
  unfold m_tld at hK
  refine w_X4_told_0 o _ S _ ⟨fun hc => absurd hc (nI_pos (by omega)), fun _ => ⟨fun _ => ⟨fun h3 => ⟨fun n3 => ⟨fun n9 => ?_, fun e9 => ⟨_, rfl, ?_⟩⟩, fun e3 => ⟨_, rfl, ?_⟩⟩, fun h3 => ?_⟩, fun hc => absurd (nI_le (a := k) (b := 9) (by omega) (by omega)) hc⟩⟩
  · have a : k ≠ 3 := fun e => n3 (by rw [e]; rfl)
    have b : k ≠ 9 := fun e => n9 (by rw [e]; rfl)
    have c : 3 ≤ k := (nI_leI (a := 3) (by omega) (by omega)).1 h3
    rw [show (4 : Int32) = nI 4 from rfl, pk_sub (by omega)]
    refine ⟨z_in (by omega) (by omega), _, rfl, ?_⟩
    rw [z_cl (by omega), hR.1.1 (k - 4) (by omega)]
    rw [if_neg (by omega), if_neg a, if_neg b] at hK
    exact hK
  · have : k = 9 := (nI_eq (b := 9) (by omega) (by omega)).1 e9
    subst this
    rw [h.2.1.2.1]
    exact hK
  · have : k = 3 := (nI_eq (b := 3) (by omega) (by omega)).1 e3
    subst this
    rw [h.2.2.2.1]
    exact hK
  · have c : k < 3 := by
      rcases Nat.lt_or_ge k 3 with g | g
      · exact g
      · exact absurd (nI_le (a := 3) g (by omega)) h3
    refine ⟨z_in c (by omega), _, rfl, ?_⟩
    rw [z_cl (by omega), h.2.2.1 k c]
    rw [if_pos c] at hK
    exact hK
end CST
