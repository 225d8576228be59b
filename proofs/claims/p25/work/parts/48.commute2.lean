theorem tal_gets (A : mS) (k b j frm : Nat) {w : Nat} (hw : w < 7) (p : UInt32) : m_gets (m_tal A w p) k b j frm = m_tal (m_gets A k b j frm) w p := by
  have e8 : ¬ (8 = w) := by omega
  have e8' : ¬ (w = 8) := by omega
  have e9 : ¬ (9 = w) := by omega
  by_cases hk : k < 200
  · refine Prod.ext ?_ ?_
    · funext q t
      simp only [m_gets, m_tal, m_i, m_c, m_wx, if_pos hk]
      simp [e8, e9, e8']
      by_cases h1 : q = 40 ∧ t = w
      · obtain ⟨rfl, rfl⟩ := h1; simp [e8']
      · simp [h1]
    · simp [m_gets, m_tal, m_i, m_c, m_wx, if_pos hk, e8, e9]
  · refine Prod.ext ?_ ?_
    · funext q t
      simp only [m_gets, m_tal, m_i, m_c, m_wx, if_neg hk]
      simp [e8, e9, e8']
      by_cases h1 : q = 40 ∧ t = w
      · obtain ⟨rfl, rfl⟩ := h1; simp [e8']
      · simp [h1]
    · simp [m_gets, m_tal, m_i, m_c, m_wx, if_neg hk, e8, e9]
theorem tal_T (A : mS) {w : Nat} (hw : w < 7) (p : UInt32) : m_T (m_tal A w p) = m_T A ∧ m_N (m_tal A w p) = m_N A := by
  have e9 : ¬ (9 = w) := by omega
  have e7 : ¬ (7 = w) := by omega
  constructor <;> simp [m_T, m_N, m_tal, m_i, m_c, e7, e9]
theorem tal_do (A : mS) (b j : Nat) (v : Option Int32) {w : Nat} (hw : w < 7) (p : UInt32) : m_do (m_tal A w p) b j v = m_tal (m_do A b j v) w p := by
  cases v with
  | some x => exact tal_lay A b j x w p
  | none =>
    simp only [m_do]
    rw [tal_begun A hw, (tal_T A hw p).1, (tal_T A hw p).2, tal_gets _ _ _ _ _ hw]
theorem tal_q (A : mS) (b : Nat) (l : List mQ) (w : Nat) (p : UInt32) : m_q (m_tal A w p) b l = m_tal (m_q A b l) w p := rfl
theorem tal_join (A : mS) (b j : Nat) (v : Option Int32) {w : Nat} (hw : w < 7) (p : UInt32) : m_join (m_tal A w p) b j v = m_tal (m_join A b j v) w p := by
  have eQ : m_Q (m_tal A w p) b = m_Q A b := rfl
  cases v with
  | some x =>
    simp only [m_join]
    rw [(tal_T A hw p).1, (tal_T A hw p).2, eQ, tal_q]
  | none =>
    simp only [m_join]
    rw [(tal_T A hw p).1, (tal_T A hw p).2, eQ, tal_q, tal_begun _ hw]
