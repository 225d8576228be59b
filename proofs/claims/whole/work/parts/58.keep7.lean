theorem p1_7 (A : mS) (b : Nat) : (m_p1 A b).1 40 7 = A.1 40 7 := by
  unfold m_p1
  split
  · simp [m_gone, m_tal, m_far, m_c, m_i]
  · rfl
theorem tick_7 (A : mS) : (m_tick A).1 40 7 = A.1 40 7 := by simp [m_tick, m_i]
