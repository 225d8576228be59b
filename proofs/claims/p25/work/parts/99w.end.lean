/-! the law's own small methods; the law from its end -/
theorem low_and (x : Int32) : ∃ a, a < 2 ^ 31 ∧ x &&& 2147483647 = nI a := by
  refine nI_of ?_
  rw [Int32.lt_iff_toInt_lt]
  have h1 : (x &&& 2147483647).toBitVec.msb = false := by
    rw [Int32.toBitVec_and, BitVec.msb_and, show (2147483647 : Int32).toBitVec.msb = false by decide, Bool.and_false]
  have h2 := BitVec.msb_eq_toInt (x := (x &&& 2147483647).toBitVec)
  rw [h1] at h2
  exact of_decide_eq_false h2.symm
def m_low (x : Int32) (n : Nat) : Nat := (x &&& 2147483647).toNatClampNeg % n
theorem low_lt (x : Int32) {n : Nat} (h : 1 ≤ n) : m_low x n < n := Nat.mod_lt _ h
def m_cell (o : zW) (k : Nat) : Int32 := if k < o.2.2.2.2.2.1 then o.2.2.2.2.2.2 k else 40503 * nI k + 977
abbrev m_Qf : Option Value → zS → Prop := fun r _ => r = some (.int 1)
theorem z_q4 : ∀ k, k < 64 → nI k >>> ((2 : Int32) &&& 31) = nI (k / 4) ∧ nI k &&& 3 = nI (k % 4) ∧ 5 * (nI k >>> ((2 : Int32) &&& 31)) + (nI k &&& 3) = nI (5 * (k / 4) + k % 4) := by decide +kernel
theorem z_nB {n : Nat} (h : n ≤ 500) : 60000 * n + 60000 ≤ m_BB := by unfold m_BB; omega
theorem z_nS (n : Nat) : 60000 * n + 60000 ≤ 60000 * (n + 1) := by omega
section LE
variable {o : zW} {S : zS} {G : mG} {n : Nat}
theorem d_low {N : Nat} (h1 : 1 ≤ N) (hN : N < 2 ^ 31) (x : Int32) (K : Int32 → zS → Prop) (hK : K (nI (m_low x N)) S) : zGi o 970 mdL_low [.int x, .int (nI N)] S K := by
  obtain ⟨a, ha, e⟩ := low_and x
  refine w_L_low_0 o _ _ S _ ⟨fun hc => absurd ((nI_eq (b := 0) hN (by omega)).1 hc) (by omega), fun y ey => ⟨y, rfl, ?_⟩⟩
  have e2 : y = nI (m_low x N) := by
    rw [ey]
    unfold m_low
    rw [e, pk_rem ha h1 hN, z_cl ha]
  rw [e2]; exact hK
theorem d_cell (hL : o.2.2.2.2.2.1 ≤ 260) {k : Nat} (hk : k < 2 ^ 31) (K : Int32 → zS → Prop) (hK : K (m_cell o k) S) : zGi o 970 mdL_cell [.ref o.2.2.2.2.1, .int (nI k)] S K := by
  unfold m_cell at hK
  refine w_L_cell_0 o _ S _ ⟨fun hc => ⟨_, rfl, ?_⟩, fun hc => ⟨?_, _, rfl, ?_⟩⟩
  · have : ¬ k < o.2.2.2.2.2.1 := by have := (nI_leI (a := o.2.2.2.2.2.1) (b := k) (by omega) hk).1 hc; omega
    rw [if_neg this] at hK; exact hK
  · have : k < o.2.2.2.2.2.1 := by
      rcases Nat.lt_or_ge k o.2.2.2.2.2.1 with g | g
      · exact g
      · exact absurd (nI_le g hk) hc
    exact z_in this (by omega)
  · have : k < o.2.2.2.2.2.1 := by
      rcases Nat.lt_or_ge k o.2.2.2.2.2.1 with g | g
      · exact g
      · exact absurd (nI_le g hk) hc
    rw [if_pos this] at hK
    rw [z_cl hk]; exact hK
theorem L_1866 (h : c_G (60000 * n) S G) (h26 : ∀ b, b < 16 → ∀ j, j < 4 → G.1.1 26 (4 * b + j) = nI (5 * b + j)) (h29 : ∀ b, b < 16 → G.1.1 29 b = 0) (hF : G.1.1 25 2 = 4) : ∀ k, k ≤ 64 → zG o 970 mdL_law 1866 [(1, .ref (z_adr o (0, 0, 0))), (4, .int 1), (15, .int (nI k))] [] S m_Qf := by
  intro k hk
  refine z_down 64 (fun k => zG o 970 mdL_law 1866 [(1, .ref (z_adr o (0, 0, 0))), (4, .int 1), (15, .int (nI k))] [] S m_Qf) ?_ ?_ k hk
  · refine w_L_law_1866 o _ S _ ⟨fun _ => ?_, fun hc => absurd (by decide) hc⟩
    exact sp_toldN S h (k := 6) (by omega) _ ⟨fun hc => hc hF, rfl⟩
  · intro k hk ih
    obtain ⟨a1, a2, a3⟩ := z_q4 k hk
    refine w_L_law_1866 o _ S _ ⟨fun hc => absurd hc (nI_ge (a := k) (b := 64) hk (by omega)), fun _ => ?_⟩
    rw [a3, a1, a2]
    refine d_item h (b := k / 4) (j := k % 4) (w := 0) (by omega) (by omega) (by omega) _ ⟨fun hc => hc ?_, ?_⟩
    · exact h26 (k / 4) (by omega) (k % 4) (by omega)
    · refine d_where h (b := k / 4) (by omega) _ ⟨fun hc => hc (h29 _ (by omega)), ?_⟩
      rw [← nI_succ]; exact ih
theorem L_1809 (hn : n ≤ 400) (h : c_G (60000 * n) S G) (hF : G.1.1 25 2 = 4) : zG o 970 mdL_law 1809 [(1, .ref (z_adr o (0, 0, 0))), (4, .int 1)] [] S m_Qf := by
  refine w_L_law_1809 o S _ ?_
  refine zGi.po (c_anew S h) (fun r S4 hr => ?_)
  obtain ⟨rfl, h4, u4⟩ := hr
  have h4 := G_B h4 (z_nS n)
  have hB4 : 60000 * (n + 1) + 60000 ≤ m_BB := z_nB (by omega)
  have e40 : ∀ k, (g_anew G).2.1.1 40 k = 0 := by intro k; show (m_new G.1).1 40 k = 0; simp [m_new]
  have e29 : ∀ b, b < 16 → (g_anew G).2.1.1 29 b = 0 := by intro b _; show (m_new G.1).1 29 b = 0; simp [m_new]
  have e26 : ∀ b, b < 16 → ∀ j, j < 4 → (g_anew G).2.1.1 26 (4 * b + j) = nI (5 * b + j) := by
    intro b _ j hj
    show (m_new G.1).1 26 (4 * b + j) = _
    have h1 := (z_d4 (b := b) hj).1
    have h2 := (z_d4 (b := b) hj).2
    simp [m_new, h1, h2]
  have e25 : (g_anew G).2.1.1 25 2 = 4 := by show (m_new G.1).1 25 2 = 4; rw [← hF]; simp [m_new]
  have eC : m_cf (g_anew G).2.1 0 = 0 := rfl
  have eD : m_de (g_anew G).2.1 = 0 := by unfold m_de; rw [if_pos (e40 8)]
  have e9 : ¬ (g_anew G).1 < 0 := by
    obtain ⟨-, hal⟩ := h.1
    show ¬ G.1.1 40 9 < 0
    rw [hal.2.2.1.1]
    have := hal.2.2.1.2
    exact nI_pos (by omega)
  generalize g_anew G = X at h4 u4 e40 e29 e26 e25 eC eD e9 ⊢
  refine ⟨e9, ?_⟩
  refine d_often h4 (k := 9) (by omega) _ ⟨fun hc => hc (e40 9), ?_⟩
  refine d_often h4 (k := 6) (by omega) _ ⟨fun hc => hc (e40 6), ?_⟩
  refine sp_costN hB4 S4 h4 (w := 0) (by omega) _ ⟨fun hc => hc (by rw [eC]; rfl), ?_⟩
  refine sp_evenN hB4 S4 h4 _ ⟨fun hc => hc (by rw [eD]; decide), ?_⟩
  refine w_L_law_1863 o S4 _ ?_
  exact L_1866 h4 e26 e29 e25 0 (by omega)
end LE
