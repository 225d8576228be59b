theorem tal_lay (A : mS) (b j : Nat) (x : Int32) (w : Nat) (p : UInt32) : m_lay (m_tal A w p) b j x = m_tal (m_lay A b j x) w p := by
  refine Prod.ext ?_ ?_
  · funext q t
    simp only [m_lay, m_tal, m_i, m_c]
    split <;> split <;> simp_all
  · simp [m_lay, m_tal, m_i, m_c]
theorem tal_begun (A : mS) {w : Nat} (hw : w < 7) (p : UInt32) : m_begun (m_tal A w p) = m_tal (m_begun A) w p := by
  have e7 : ¬ (7 = w) := by omega
  have e7' : ¬ (w = 7) := by omega
  have e9 : ¬ (9 = w) := by omega
  have eN : m_N (m_tal A w p) = m_N A := by simp [m_N, m_tal, m_i, m_c, e7]
  simp only [m_begun, eN]
  by_cases hk : m_N A < 200
  · rw [if_pos hk, if_pos hk]
    refine Prod.ext ?_ ?_
    · funext q t
      simp only [m_tal, m_i, m_c]
      simp [e7, e9, e7']
      by_cases h1 : q = 40 ∧ t = w
      · obtain ⟨rfl, rfl⟩ := h1; simp [e7']
      · simp [h1]
    · simp [m_tal, m_i, m_c]
  · rw [if_neg hk, if_neg hk]
    refine Prod.ext ?_ ?_
    · funext q t
      simp only [m_tal, m_i, m_c]
      simp [e7, e9, e7']
      by_cases h1 : q = 40 ∧ t = w
      · obtain ⟨rfl, rfl⟩ := h1; simp [e7']
      · simp [h1]
    · simp [m_tal, m_i, m_c]
