theorem room_cok {A : mS} (h : m_cok (m_C A)) (r : Nat) : m_cok (m_C (m_room A r)) := by
  unfold m_room
  split
  · exact h
  · split
    · exact h
    · unfold m_out
      split
      · exact h
      · split
        · exact h
        · exact (fl_add h (Or.inr (Or.inr (Or.inr (Or.inr (Or.inl rfl)))))).2
theorem near_cok {A : mS} (h : m_cok (m_C A)) (b : Nat) : m_cok (m_C (m_near A b)) := room_cok h _
