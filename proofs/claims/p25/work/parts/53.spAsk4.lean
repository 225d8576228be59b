section SPQ
variable {o : zW} {n i : Nat}
/-- what a box is asked for is taken, or not -/
theorem sp_ask (hi : i < 8) (hn : z_sb i + 120 ≤ n) {b : Nat} (hb : b < 16) {U : Nat} (hU : U + 1 < 2 ^ 31) (S : zS) {A : mS} (h : c_R i U S A) (hin : m_inv 16 A) {j : Nat} (hj : j < 4) (v : Option Int32) (hv : ∀ x, v = some x → x ≠ -1) (hT : A.1 40 9 = nI (m_T A)) (hN : A.1 40 7 = nI (m_N A)) (hN3 : m_N A + 1 < 2 ^ 31) (K : Int32 → zS → Prop) (hK0 : m_can A (some (b, j, v)) = false → K 0 S) (hK1 : m_can A (some (b, j, v)) = true → ∀ U' S', U' ≤ U + 1 → c_R i U' S' (m_go A (some (b, j, v))) → c_fr i S S' → K 1 S') :
    zGi o n mdX2_ask [.ref (z_adr o (1, i, 0)), .ref (z_adr o (5, i, b)), .int (nI j), .int (v.getD (-1))] S K := by
  obtain ⟨hlim, hrow, ⟨f1, f2, f3⟩, ⟨q1, q2⟩, hwh, hcs, hcok⟩ := id hin
  obtain ⟨-, -, ⟨F, hF, hF1, hF4⟩, ⟨M, hM, hM1, hM4⟩, -⟩ := id hlim
  have hFc : (A.1 25 2).toNatClampNeg = F := by rw [hF, z_cl (by omega)]
  have hMc : (A.1 25 3).toNatClampNeg = M := by rw [hM, z_cl (by omega)]
  have e8 : S.1 (5, i, b) 8 = A.1 29 b := (h.2.2.1 b hb).1
  have e7 : S.1 (5, i, b) 7 = nI (m_Q A b).length := (h.2.2.2.1 b hb).1
  have e5 : S.1 (1, i, 0) 5 = nI (m_F A).length := h.2.2.2.2.2.1.1
  have l2 : S.1 (2, i, 0) 2 = nI F := (h.1.1 2 (by omega)).trans hF
  have l3 : S.1 (2, i, 0) 3 = nI M := (h.1.1 3 (by omega)).trans hM
  have hq4 : (m_Q A b).length ≤ M := by have := (q2 b hb).2; rw [hMc] at this; exact this
  have hf4 : (m_F A).length ≤ F := by rw [hFc] at f3; exact f3
  have h32 : (1 : Int32) ≠ 2 ∧ (1 : Int32) ≠ 3 ∧ (2 : Int32) ≠ 3 ∧ (2 : Int32) ≠ 1 ∧ (3 : Int32) ≠ 1 ∧ (3 : Int32) ≠ 2 := by decide
  have h00 : (0 : Int32) ≠ 1 ∧ (0 : Int32) ≠ 2 ∧ (0 : Int32) ≠ 3 := by decide
  refine w_X2_ask_0 o n i hi hn b hb _ _ S _ ?_
  rw [e8]
  refine ⟨fun n1 => ⟨fun n2 => ⟨fun n3 => ?_, fun w3 => ?_⟩, fun w2 => ?_⟩, fun w1 => ?_⟩
  · have w0 : A.1 29 b = 0 := by rcases (hwh b hb).1 with g | g | g | g; exact g; exact absurd g n1; exact absurd g n2; exact absurd g n3
    rw [e5, l2]
    have hcan : m_can A (some (b, j, v)) = decide ((m_F A).length ≠ F) := by
      simp only [m_can, if_neg n3, if_pos w0, hFc]
    refine ⟨fun hlt y5 ey => ?_, fun hge => ⟨_, rfl, hK0 ?_⟩⟩
    · have hlt' : (m_F A).length < F := by
        rcases Nat.lt_or_ge (m_F A).length F with g | g
        · exact g
        · exfalso
          have : (m_F A).length = F := by omega
          rw [this] at hlt; exact Int32.lt_irrefl hlt
      have hc1 : m_can A (some (b, j, v)) = true := by rw [hcan]; exact decide_eq_true (by omega)
      have ey' : y5 = A.1 25 4 := by
        rw [ey]
        have : (sI (sI S (1, i, 0) 5 (nI (m_F A).length + 1)) (5, i, b) 8 3).1 (2, i, 0) 4 = S.1 (2, i, 0) 4 := by simp [sI]
        exact this.trans (h.1.1 4 (by omega))
      rw [ey']
      have hf := cr_fetch h hb (A.1 25 4)
      refine sp_setDue hi hn hb _ _ _ ?_
      have ec : c_due (sI (sI S (1, i, 0) 5 (nI (m_F A).length + 1)) (5, i, b) 8 3) i b (A.1 25 4) = c_fetch S i b (A.1 25 4) := by unfold c_fetch; rw [e5]
      rw [ec]
      have hfr := fr_fetch (c_fr_rf i S) b (A.1 25 4)
      have hqe : m_Q A b = [] := q1 b hb (by omega) n3
      have hne : (m_f (m_i (m_i A 29 b 3) 30 b (A.1 40 9 + A.1 25 4)) (m_F A ++ [b])).1 29 b = 3 := by simp [m_f, m_i]
      refine ask_tail hi hn hb S _ hf hfr hj v hv ?_ ?_ ?_ ?_ ?_ hcok 2 (by omega) 1083703296 (Or.inr (Or.inr (Or.inl rfl))) _ rfl _ (fun S' h' f' => ⟨_, rfl, hK1 hc1 U S' (by omega) ?_ f'⟩)
      · simpa [m_T, m_f, m_i] using hT
      · simpa [m_N, m_f, m_i] using hN
      · simpa [m_N, m_f, m_i] using hN3
      · show (m_Q A b).length ≤ 4; omega
      · intro _; show (m_Q A b).length < 4; rw [hqe]; decide
      · rw [hne, if_neg h32.2.2.2.2.1] at h'
        simpa only [m_go, if_neg n1, if_neg n2, if_neg n3] using h'
    · rw [hcan]
      have : (m_F A).length = F := by
        rcases Nat.lt_or_ge (m_F A).length F with g | g
        · exact absurd (nI_lt g (by omega)) hge
        · omega
      simp [this]
  · rw [e7, l3]
    have hcan : m_can A (some (b, j, v)) = decide ((m_Q A b).length ≠ M) := by
      simp only [m_can, if_pos w3, hMc]
    refine ⟨fun hlt => ?_, fun hge => ⟨_, rfl, hK0 ?_⟩⟩
    · have hlt' : (m_Q A b).length < M := by
        rcases Nat.lt_or_ge (m_Q A b).length M with g | g
        · exact g
        · exfalso
          have : (m_Q A b).length = M := by omega
          rw [this] at hlt; exact Int32.lt_irrefl hlt
      have hc1 : m_can A (some (b, j, v)) = true := by rw [hcan]; exact decide_eq_true (by omega)
      refine ask_tail hi hn hb S _ h (c_fr_rf i S) hj v hv hT hN hN3 (by omega) (fun _ => by omega) hcok 1 (by omega) 1048576000 (Or.inr (Or.inl rfl)) _ rfl _ (fun S' h' f' => ⟨_, rfl, hK1 hc1 U S' (by omega) ?_ f'⟩)
      rw [if_neg n1] at h'
      simpa only [m_go, if_neg n1, if_neg n2, if_pos w3] using h'
    · rw [hcan]
      have : (m_Q A b).length = M := by
        rcases Nat.lt_or_ge (m_Q A b).length M with g | g
        · exact absurd (nI_lt g (by omega)) hge
        · omega
      simp [this]
  · have n3 : A.1 29 b ≠ 3 := by rw [w2]; exact h32.2.2.1
    have n0 : A.1 29 b ≠ 0 := by rw [w2]; decide
    have hc1 : m_can A (some (b, j, v)) = true := by simp only [m_can, if_neg n3, if_neg n0]
    have hs := cr_sdec h
    have hqe : m_Q A b = [] := q1 b hb (by omega) n3
    have hlim1 : m_lim (m_i A 39 1 (A.1 39 1 - 1)) := by simpa [m_lim, m_i] using hlim
    have hrow1 : m_row (m_i A 39 1 (A.1 39 1 - 1)) := by simpa [m_row, m_i, m_R] using hrow
    obtain ⟨kQ, kF, k25, k29, k9, k7⟩ := m_near_keep (m_i A 39 1 (A.1 39 1 - 1)) b
    have k9' : (m_near (m_i A 39 1 (A.1 39 1 - 1)) b).1 40 9 = A.1 40 9 := by rw [k9]; simp [m_i]
    have k7' : (m_near (m_i A 39 1 (A.1 39 1 - 1)) b).1 40 7 = A.1 40 7 := by rw [k7]; simp [m_i]
    refine sp_settle hi hn hb _ hs hU hlim1 hrow1 (by show (m_i A 39 1 (A.1 39 1 - 1)).1 29 b ≠ 1; simpa [m_i] using n1) hcok _ (fun S6 h6 f6 => ?_)
    refine ask_tail hi hn hb S S6 h6 (((c_fr_rf i S).I 1 0 6 _ (by omega)).tr f6) hj v hv ?_ ?_ ?_ ?_ ?_ (near_cok (A := m_i A 39 1 (A.1 39 1 - 1)) hcok b) 3 (by omega) 1074266112 (Or.inr (Or.inr (Or.inr (Or.inl rfl)))) _ rfl _ (fun S' h' f' => ⟨_, rfl, hK1 hc1 (U + 1) S' (by omega) ?_ f'⟩)
    · show _ = nI ((m_near (m_i A 39 1 (A.1 39 1 - 1)) b).1 40 9).toNatClampNeg; rw [k9']; exact hT
    · show _ = nI ((m_near (m_i A 39 1 (A.1 39 1 - 1)) b).1 40 7).toNatClampNeg; rw [k7']; exact hN
    · show ((m_near (m_i A 39 1 (A.1 39 1 - 1)) b).1 40 7).toNatClampNeg + 1 < _; rw [k7']; exact hN3
    · rw [kQ]; show (m_Q A b).length ≤ 4; omega
    · intro _; rw [kQ]; show (m_Q A b).length < 4; rw [hqe]; decide
    · rw [if_pos k29] at h'
      simpa only [m_go, if_neg n1, if_pos w2] using h'
  · have n3 : A.1 29 b ≠ 3 := by rw [w1]; exact h32.2.1
    have n0 : A.1 29 b ≠ 0 := by rw [w1]; decide
    have hc1 : m_can A (some (b, j, v)) = true := by simp only [m_can, if_neg n3, if_neg n0]
    have hqe : m_Q A b = [] := q1 b hb (by omega) n3
    refine sp_use hi hn hb S _ ?_
    refine ask_tail hi hn hb S _ (cr_hit h hb w1 hrow) (((c_fr_rf i S).I 1 0 7 _ (by omega)).I 5 b 11 _ (by omega)) hj v hv hT hN hN3 (by show (m_Q A b).length ≤ 4; omega) (fun hne => absurd w1 hne) hcok 0 (by omega) 1069547520 (Or.inl rfl) _ rfl _ (fun S' h' f' => ⟨_, rfl, hK1 hc1 (U + 1) S' (by omega) ?_ f'⟩)
    have w1' : (m_use A b).1 29 b = 1 := w1
    rw [if_pos w1'] at h'
    simpa only [m_go, if_pos w1] using h'
end SPQ
