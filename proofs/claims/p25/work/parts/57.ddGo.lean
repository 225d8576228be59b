theorem dd_same {A A' : mS} (h : m_dd 16 16 A) (e9 : A'.1 40 9 = A.1 40 9) (e29 : A'.1 29 = A.1 29) (e30 : A'.1 30 = A.1 30) : m_dd 16 16 A' := by
  intro x hx hact
  rw [e29] at hact ⊢
  rw [e30, m_T_eq e9]
  exact h x hx hact
theorem dd_near {A : mS} (h : m_dd 16 16 A) (hT : A.1 40 9 = nI (m_T A)) (hlim : m_lim A) (b : Nat) : m_dd 16 16 (m_near A b) := by
  obtain ⟨kQ, kF, k25, k29, k9, k7⟩ := m_near_keep A b
  intro x hx hact
  rw [m_T_eq k9]
  by_cases e : x = b
  · subst e; rw [k29] at hact; rcases hact with q | q <;> exact absurd q (by decide)
  · rcases m_near_oth A e with ⟨g1, g2⟩ | g1 | ⟨g1, g2⟩
    · rw [g1] at hact ⊢
      rw [g2]; exact h x hx hact
    · rw [g1] at hact; rcases hact with q | q <;> exact absurd q (by decide)
    · obtain ⟨L, hL, hL1, hL20⟩ := hlim.2.2.2.2
      obtain ⟨w, hw, hw1, hw10⟩ := m_half_nat hL20
      refine ⟨m_T A + w, ?_, by omega, by omega, fun _ _ => by omega, fun q => ?_⟩
      · rw [g2, hL, hw, hT, nI_add]
      · rw [g1] at q; exact absurd q (by decide)
theorem m_join_keep (A : mS) (b j : Nat) (v : Option Int32) : (m_join A b j v).1 40 9 = A.1 40 9 ∧ (m_join A b j v).1 29 = A.1 29 ∧ (m_join A b j v).1 30 = A.1 30 := by
  cases v with
  | some x => exact ⟨rfl, rfl, rfl⟩
  | none =>
    obtain ⟨k25, k29, k28, k30, k27, k26, k39, k40, -⟩ := begun_keep (m_q A b (m_Q A b ++ [(j, m_T A, none, m_N A)]))
    exact ⟨k40 9 (by omega), k29, k30⟩
theorem m_tal_keep (A : mS) {w : Nat} (hw : w < 7) (p : UInt32) : (m_tal A w p).1 40 9 = A.1 40 9 ∧ (m_tal A w p).1 29 = A.1 29 ∧ (m_tal A w p).1 30 = A.1 30 := by
  have e9 : ¬ (9 = w) := by omega
  refine ⟨by simp [m_tal, m_i, m_c, e9], ?_, ?_⟩ <;> (funext t; simp [m_tal, m_i, m_c])
theorem dd_tal {A : mS} (h : m_dd 16 16 A) {w : Nat} (hw : w < 7) (p : UInt32) : m_dd 16 16 (m_tal A w p) :=
  dd_same h (m_tal_keep A hw p).1 (m_tal_keep A hw p).2.1 (m_tal_keep A hw p).2.2
theorem dd_do {A : mS} (h : m_dd 16 16 A) (b j : Nat) (v : Option Int32) : m_dd 16 16 (m_do A b j v) := by
  obtain ⟨g1, g2, g3, g4, g5, g6, g7, g8, -⟩ := m_do_keep A b j v
  exact dd_same h g8 g1 g3
theorem dd_join {A : mS} (h : m_dd 16 16 A) (b j : Nat) (v : Option Int32) : m_dd 16 16 (m_join A b j v) :=
  dd_same h (m_join_keep A b j v).1 (m_join_keep A b j v).2.1 (m_join_keep A b j v).2.2
theorem dd_fetch {A : mS} (h : m_dd 16 16 A) (hT : A.1 40 9 = nI (m_T A)) (hlim : m_lim A) (b : Nat) : m_dd 16 16 (m_ftch A b) := by
  have e9 : (m_ftch A b).1 40 9 = A.1 40 9 := by simp [m_i, m_f]
  intro x hx hact
  rw [m_T_eq e9]
  by_cases e : x = b
  · subst e
    obtain ⟨L, hL, hL1, hL20⟩ := hlim.2.2.2.2
    refine ⟨m_T A + L, ?_, by omega, by omega, fun _ _ => by omega, fun _ _ => by omega⟩
    have : (m_ftch A x).1 30 x = A.1 40 9 + A.1 25 4 := by simp [m_i, m_f]
    rw [this, hL, hT, nI_add]
  · have e29 : (m_ftch A b).1 29 x = A.1 29 x := by simp [m_i, m_f, e]
    have e30 : (m_ftch A b).1 30 x = A.1 30 x := by simp [m_i, m_f, e]
    rw [e29] at hact ⊢
    rw [e30]; exact h x hx hact
theorem dd_go {A : mS} (h : m_dd 16 16 A) (hT : A.1 40 9 = nI (m_T A)) (hlim : m_lim A) (q : mR) : m_dd 16 16 (m_go A q) := by
  obtain _ | ⟨b, j, v⟩ := q
  · exact h
  · simp only [m_go]
    split
    · exact dd_tal (dd_do (A := m_use A b) h b j v) (by omega) _
    · split
      · refine dd_tal (dd_do (dd_near (A := m_i A 39 1 (A.1 39 1 - 1)) ?_ ?_ ?_ b) b j v) (by omega) _
        · exact dd_same h (by simp [m_i]) (by funext t; simp [m_i]) (by funext t; simp [m_i])
        · simpa [m_T, m_i] using hT
        · simpa [m_lim, m_i] using hlim
      · split
        · exact dd_tal (dd_join h b j v) (by omega) _
        · exact dd_tal (dd_join (dd_fetch h hT hlim b) b j v) (by omega) _
theorem go_T (A : mS) (q : mR) : (m_go A q).1 40 9 = A.1 40 9 := by
  obtain _ | ⟨b, j, v⟩ := q
  · rfl
  · simp only [m_go]
    split
    · exact (m_tal_keep _ (by omega) _).1.trans (m_do_keep _ b j v).2.2.2.2.2.2.2.1
    · split
      · refine (m_tal_keep _ (by omega) _).1.trans ((m_do_keep _ b j v).2.2.2.2.2.2.2.1.trans ((m_near_keep _ b).2.2.2.2.1.trans ?_))
        simp [m_i]
      · split
        · exact (m_tal_keep _ (by omega) _).1.trans (m_join_keep _ b j v).1
        · refine (m_tal_keep _ (by omega) _).1.trans ((m_join_keep _ b j v).1.trans ?_)
          simp [m_i, m_f]
