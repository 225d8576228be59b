theorem begun_7 (A : mS) : (m_begun A).1 40 7 = A.1 40 7 + 1 := by
  simp only [m_begun]
  by_cases hk : m_N A < 200
  · rw [if_pos hk]; simp [m_i]
  · rw [if_neg hk]; simp [m_i]
theorem begun_keep (A : mS) : (m_begun A).1 25 = A.1 25 ∧ (m_begun A).1 29 = A.1 29 ∧ (m_begun A).1 28 = A.1 28 ∧ (m_begun A).1 30 = A.1 30 ∧ (m_begun A).1 27 = A.1 27 ∧ (m_begun A).1 26 = A.1 26 ∧ (m_begun A).1 39 = A.1 39 ∧ (∀ j, j ≠ 7 → (m_begun A).1 40 j = A.1 40 j) ∧ m_R (m_begun A) = m_R A ∧ m_F (m_begun A) = m_F A ∧ m_Q (m_begun A) = m_Q A ∧ m_C (m_begun A) = m_C A ∧ m_W (m_begun A) = m_W A ∧ m_X (m_begun A) = m_X A := by
  simp only [m_begun]
  by_cases hk : m_N A < 200
  · rw [if_pos hk]
    refine ⟨?_, ?_, ?_, ?_, ?_, ?_, ?_, fun j hj => ?_, rfl, rfl, rfl, rfl, rfl, rfl⟩
    all_goals first | (funext t; simp [m_i]; done) | simp [m_i, hj]
  · rw [if_neg hk]
    refine ⟨?_, ?_, ?_, ?_, ?_, ?_, ?_, fun j hj => ?_, rfl, rfl, rfl, rfl, rfl, rfl⟩
    all_goals first | (funext t; simp [m_i]; done) | simp [m_i, hj]
theorem begun_arr (A : mS) (k : Nat) : (m_begun A).1 41 k = (if k = m_N A ∧ m_N A < 200 then -1 else A.1 41 k) ∧ (m_begun A).1 42 k = (if k = m_N A ∧ m_N A < 200 then -1 else A.1 42 k) ∧ (m_begun A).1 43 k = (if k = m_N A ∧ m_N A < 200 then A.1 40 9 else A.1 43 k) := by
  simp only [m_begun]
  by_cases hk : m_N A < 200
  · rw [if_pos hk]; simp [m_i, hk]
  · rw [if_neg hk]; simp [m_i, hk]
theorem add_keep (S : zS) (i k : Nat) (t : Int32) (q : zK) (s : Nat) (hq : q.1 ≠ 13 ∧ q.1 ≠ 14 ∧ q.1 ≠ 15 ∧ (q.1 ≠ 12 ∨ s ≠ 3)) : (c_add S i k t).1 q s = S.1 q s := by
  unfold c_add
  split
  · have h1 : ¬ (q = (12, i, 0) ∧ s = 3) := by rintro ⟨rfl, h⟩; rcases hq.2.2.2 with g | g; exact g rfl; exact g h
    have h2 : ¬ (q = (13, i, 0) ∧ s = k) := by rintro ⟨rfl, -⟩; exact hq.1 rfl
    have h3 : ¬ (q = (14, i, 0) ∧ s = k) := by rintro ⟨rfl, -⟩; exact hq.2.1 rfl
    have h4 : ¬ (q = (15, i, 0) ∧ s = k) := by rintro ⟨rfl, -⟩; exact hq.2.2.1 rfl
    simp only [sI, if_neg h1, if_neg h2, if_neg h3, if_neg h4]
  · rfl
theorem cr_begun {i U : Nat} {S : zS} {A : mS} (h : c_R i U S A) (hN : A.1 40 7 = nI (m_N A)) (hN3 : m_N A + 1 < 2 ^ 31) : c_R i U (c_add (sI S (3, i, 0) 7 (S.1 (3, i, 0) 7 + 1)) i (m_N A) (A.1 40 9)) (m_begun A) := by
  obtain ⟨⟨a1, a2, a3⟩, r2, r3, r4, r5, r6, r7, ⟨g1, g2, g3, g4, g5, g6⟩⟩ := h
  obtain ⟨k25, k29, k28, k30, k27, k26, k39, k40, kR, kF, kQ, kC, kW, kX⟩ := begun_keep A
  have hN2 : m_N (m_begun A) = m_N A + 1 := by
    have e : (m_begun A).1 40 7 = nI (m_N A + 1) := by rw [begun_7, hN, nI_succ]
    show ((m_begun A).1 40 7).toNatClampNeg = _
    rw [e, z_cl (by omega)]
  have keep : ∀ (q : zK) (s : Nat), q.1 ≠ 13 ∧ q.1 ≠ 14 ∧ q.1 ≠ 15 ∧ (q.1 ≠ 12 ∨ s ≠ 3) → ¬ (q = (3, i, 0) ∧ s = 7) → (c_add (sI S (3, i, 0) 7 (S.1 (3, i, 0) 7 + 1)) i (m_N A) (A.1 40 9)).1 q s = S.1 q s := by
    intro q s h1 h2
    rw [add_keep _ _ _ _ _ _ h1]
    simp only [sI, if_neg h2]
  have kL : (c_add (sI S (3, i, 0) 7 (S.1 (3, i, 0) 7 + 1)) i (m_N A) (A.1 40 9)).2 = S.2 := by unfold c_add; split <;> rfl
  refine ⟨⟨fun j hj => ?_, fun j hj => ?_, ?_⟩, fun b hb j hj => ?_, fun b hb => ?_, fun b hb => ?_, ?_, ?_, fun b hb => ?_, ⟨?_, ?_, ?_, ?_, ?_, fun k h1 h2 => ?_⟩⟩
  · rw [keep _ _ (by simp) (by simp), k25]; exact a1 j hj
  · by_cases e : j = 7
    · subst e
      rw [add_keep _ _ _ _ _ _ (by simp), begun_7, ← a2 7 (by omega)]
      simp [sI]
    · rw [keep _ _ (by simp) (by simp [e]), k40 j e]; exact a2 j hj
  · rw [kL, kC]; exact a3
  · rw [keep _ _ (by simp) (by simp), keep _ _ (by simp) (by simp), k26, k27]; exact r2 b hb j hj
  · rw [keep _ _ (by simp) (by simp), keep _ _ (by simp) (by simp), keep _ _ (by simp) (by simp), k29, k28, k30]; exact r3 b hb
  · rw [keep _ _ (by simp) (by simp), kQ]
    refine ⟨(r4 b hb).1, fun k q hq => ?_⟩
    obtain ⟨q1, q2, q3, q4⟩ := (r4 b hb).2 k q hq
    exact ⟨(keep _ _ (by simp) (by simp)).trans q1, (keep _ _ (by simp) (by simp)).trans q2, (keep _ _ (by simp) (by simp)).trans q3, (keep _ _ (by simp) (by simp)).trans q4⟩
  · obtain ⟨u1, u, u2, u3⟩ := r5
    refine ⟨(keep _ _ (by simp) (by simp)).trans u1, u, fun b hb => ⟨(keep _ _ (by simp) (by simp)).trans (u2 b hb).1, (u2 b hb).2⟩, ?_⟩
    rw [kR]; exact u3
  · refine ⟨(keep _ _ (by simp) (by simp)).trans ?_, (keep _ _ (by simp) (by simp)).trans ?_⟩
    · rw [kF]; exact r6.1
    · rw [k39]; exact r6.2
  · rw [k29, k30, keep _ _ (by simp) (by simp)]; exact r7 b hb
  · rw [hN2]
    unfold c_add
    by_cases hk : m_N A < 200
    · rw [if_pos hk]
      have e : min (m_N A + 1) 200 = m_N A + 1 := by omega
      rw [e]; simp [sI]
    · rw [if_neg hk]
      have e1 : min (m_N A + 1) 200 = 200 := by omega
      have e2 : min (m_N A) 200 = 200 := by omega
      rw [e1]; rw [e2] at g1
      simpa [sI] using g1
  · rw [keep _ _ (by simp) (by simp), k40 8 (by omega)]; exact g2
  · rw [keep _ _ (by simp) (by simp), k39]; exact g3
  · rw [kL, kW]; exact g4
  · rw [kL, kX]; exact g5
  · rw [hN2] at h1
    obtain ⟨b1, b2, b3⟩ := begun_arr A k
    rw [b1, b2, b3]
    unfold c_add
    by_cases hk : m_N A < 200
    · rw [if_pos hk]
      by_cases e : k = m_N A
      · subst e; simp [sI, hk]
      · have := g6 k (by omega) h2
        simp [sI, e, this]
    · rw [if_neg hk]
      have := g6 k (by omega) h2
      have e : ¬ (k = m_N A ∧ m_N A < 200) := fun q => hk q.2
      simp [sI, hk, this]
theorem fr_add {i : Nat} {S0 S : zS} (h : c_fr i S0 S) (k : Nat) (t : Int32) : c_fr i S0 (c_add S i k t) := by
  unfold c_add
  split
  · exact (((h.I 13 0 k _ (by omega)).I 14 0 k _ (by omega)).I 15 0 k _ (by omega)).I 12 0 3 _ (by omega)
  · exact h
theorem cr_join {i U : Nat} {S : zS} {A : mS} (h : c_R i U S A) {b : Nat} (hb : b < 16) (q : mQ) : c_R i U (c_addAsker S i b (m_Q A b).length (nI q.1) (q.2.2.1.getD (-1)) (if q.2.2.1.isSome then -1 else c_ln q.2.2.2) (nI q.2.1)) (m_q A b (m_Q A b ++ [q])) := by
  obtain ⟨r1, r2, r3, r4, r5, r6, r7, r8⟩ := h
  refine ⟨?_, ?_, fun b' hb' => ?_, fun b' hb' => ?_, ?_, ?_, ?_, ?_⟩
  · simpa [c_R1, c_addAsker, m_q, sI, m_C] using r1
  · simpa [c_R2, c_addAsker, m_q, sI] using r2
  · have := r3 b' hb'
    have e8 : (c_addAsker S i b (m_Q A b).length (nI q.1) (q.2.2.1.getD (-1)) (if q.2.2.1.isSome then -1 else c_ln q.2.2.2) (nI q.2.1)).1 (5, i, b') 8 = S.1 (5, i, b') 8 := by simp [c_addAsker, sI]
    have e9 : (c_addAsker S i b (m_Q A b).length (nI q.1) (q.2.2.1.getD (-1)) (if q.2.2.1.isSome then -1 else c_ln q.2.2.2) (nI q.2.1)).1 (5, i, b') 9 = S.1 (5, i, b') 9 := by simp [c_addAsker, sI]
    have e10 : (c_addAsker S i b (m_Q A b).length (nI q.1) (q.2.2.1.getD (-1)) (if q.2.2.1.isSome then -1 else c_ln q.2.2.2) (nI q.2.1)).1 (5, i, b') 10 = S.1 (5, i, b') 10 := by simp [c_addAsker, sI]
    rw [e8, e9, e10]
    exact this
  · have := r4 b' hb'
    by_cases e : b' = b
    · subst e
      have eq : m_Q (m_q A b' (m_Q A b' ++ [q])) b' = m_Q A b' ++ [q] := by simp [m_q, m_Q]
      rw [eq]
      refine ⟨by simp [c_addAsker, sI], fun k q' hk => ?_⟩
      by_cases hl : k < (m_Q A b').length
      · rw [List.getElem?_append_left hl] at hk
        have h1 := this.2 k q' hk
        have hne : ¬ k = (m_Q A b').length := by omega
        have hne' : ¬ k = (A.2.2.2.1 b').length := hne
        simpa [c_ask, c_addAsker, sI, hne, hne'] using h1
      · rw [List.getElem?_append_right (by omega)] at hk
        have hz : k - (m_Q A b').length < 1 := (List.getElem?_eq_some_iff.mp hk).1
        have hk0 : k = (m_Q A b').length := by omega
        subst hk0
        simp at hk
        subst hk
        simp [c_ask, c_addAsker, sI]
    · have eq : m_Q (m_q A b (m_Q A b ++ [q])) b' = m_Q A b' := by simp [m_q, m_Q, e]
      rw [eq]
      refine ⟨by simpa [c_addAsker, sI, e] using this.1, fun k q' hk => ?_⟩
      simpa [c_ask, c_addAsker, sI, e] using this.2 k q' hk
  · simpa [c_R5, c_addAsker, m_q, sI, m_R] using r5
  · simpa [c_R6, c_addAsker, m_q, sI, m_F] using r6
  · simpa [c_R7, c_addAsker, m_q, sI] using r7
  · simpa [c_R8, c_addAsker, m_N, m_W, m_X, m_q, sI] using r8
theorem fr_join {i : Nat} {S0 S : zS} (h : c_fr i S0 S) (b a : Nat) (x1 x2 x3 x4 : Int32) : c_fr i S0 (c_addAsker S i b a x1 x2 x3 x4) := ((((h.I 8 b a _ (by omega)).I 9 b a _ (by omega)).I 10 b a _ (by omega)).I 11 b a _ (by omega)).I 5 b 7 _ (by omega)
