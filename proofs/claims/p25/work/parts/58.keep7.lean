theorem p1_7 (A : mS) (b : Nat) : (m_p1 A b).1 40 7 = A.1 40 7 := by
  unfold m_p1
  split
  · simp [m_gone, m_tal, m_far, m_c, m_i]
  · rfl
theorem tick_7 (A : mS) : (m_tick A).1 40 7 = A.1 40 7 := by simp [m_tick, m_i]
theorem come_7 (A : mS) (b : Nat) : (m_come A b).1 40 7 = A.1 40 7 := by
  unfold m_come
  show ((m_Q A b).foldl (m_serve b) (m_near (m_take (m_f A ((m_F A).erase b)) b) b)).1 40 7 = _
  rw [(m_fold_keep b (m_Q A b) _).2.2.1, (m_near_keep _ b).2.2.2.2.2]
  simp [m_take, m_f]
theorem p2_7 (A : mS) (b : Nat) : (m_p2 A b).1 40 7 = A.1 40 7 := by
  unfold m_p2
  split
  · exact come_7 A b
  · rfl
theorem fold_7 {f : mS → Nat → mS} (hf : ∀ A b, (f A b).1 40 7 = A.1 40 7) (l : List Nat) : ∀ A : mS, (l.foldl f A).1 40 7 = A.1 40 7 := by
  induction l with
  | nil => intro A; rfl
  | cons x l ih => intro A; exact (ih (f A x)).trans (hf A x)
theorem pass_7 (A : mS) : (m_pass A).1 40 7 = A.1 40 7 := by
  unfold m_pass
  rw [fold_7 p2_7, fold_7 p1_7, tick_7]
theorem stall_7 (A : mS) : (m_stall A).1 40 7 = A.1 40 7 := by simp [m_stall, m_tal, m_i, m_c]
