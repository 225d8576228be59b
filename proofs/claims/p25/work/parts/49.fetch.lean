/-- a box is fetched -/
def c_fetch (S : zS) (i b : Nat) (w : Int32) : zS := c_due (sI (sI S (1, i, 0) 5 (S.1 (1, i, 0) 5 + 1)) (5, i, b) 8 3) i b w
theorem cr_fetch {i U : Nat} {S : zS} {A : mS} (h : c_R i U S A) {b : Nat} (hb : b < 16) (w : Int32) : c_R i U (c_fetch S i b w) (m_f (m_i (m_i A 29 b 3) 30 b (A.1 40 9 + w)) (m_F A ++ [b])) := by
  obtain ⟨⟨a1, a2, a3⟩, r2, r3, r4, r5, ⟨f1, f2⟩, r7, r8⟩ := h
  have e9 : S.1 (3, i, 0) 9 = A.1 40 9 := a2 9 (by omega)
  refine ⟨⟨fun j hj => ?_, fun j hj => ?_, ?_⟩, fun b' hb' j' hj' => ?_, fun b' hb' => ?_, fun b' hb' => ?_, ?_, ⟨?_, ?_⟩, fun b' hb' => ?_, ?_⟩
  · simpa [c_fetch, c_due, m_i, m_f, sI] using a1 j hj
  · simpa [c_fetch, c_due, m_i, m_f, sI] using a2 j hj
  · simpa [c_fetch, c_due, m_i, m_f, sI, m_C] using a3
  · simpa [c_fetch, c_due, m_i, m_f, sI] using r2 b' hb' j' hj'
  · have := r3 b' hb'
    simp only [c_fetch, c_due, m_i, m_f, sI]
    by_cases e : b' = b
    · subst e; simp [this.2.1, e9]
    · simp [e, this.1, this.2.1, this.2.2]
  · simpa [c_fetch, c_due, m_i, m_f, sI, c_ask, m_Q] using r4 b' hb'
  · simpa [c_R5, c_fetch, c_due, m_i, m_f, sI, m_R] using r5
  · simp [c_fetch, c_due, m_i, m_f, sI, m_F, f1, nI_succ]
  · simpa [c_fetch, c_due, m_i, m_f, sI] using f2
  · have := r7 b' hb'
    simp only [c_fetch, c_due, m_i, m_f, sI]
    by_cases e : b' = b
    · subst e
      simp [e9]
      by_cases hc : S.1 (1, i, 0) 8 ≤ A.1 40 9 + w
      · simp [hc]
      · simp [hc]
    · simp [e, e9]
      intro hact
      by_cases hc : S.1 (1, i, 0) 8 ≤ A.1 40 9 + w
      · simp [hc]; exact this hact
      · simp [hc]
        exact Int32.le_trans (Int32.le_of_lt (Int32.not_le.mp hc)) (this hact)
  · simpa [c_R8, m_N, m_W, m_X, c_fetch, c_due, m_i, m_f, sI] using r8
theorem fr_fetch {i : Nat} {S0 S : zS} (h : c_fr i S0 S) (b : Nat) (w : Int32) : c_fr i S0 (c_fetch S i b w) := (((h.I 1 0 5 _ (by omega)).I 5 b 8 _ (by omega)).I 5 b 10 _ (by omega)).I 1 0 8 _ (by omega)
