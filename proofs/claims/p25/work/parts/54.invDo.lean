theorem m_do_keep (A : mS) (b j : Nat) (v : Option Int32) : (m_do A b j v).1 29 = A.1 29 ∧ (m_do A b j v).1 25 = A.1 25 ∧ (m_do A b j v).1 30 = A.1 30 ∧ m_Q (m_do A b j v) = m_Q A ∧ m_R (m_do A b j v) = m_R A ∧ m_F (m_do A b j v) = m_F A ∧ m_C (m_do A b j v) = m_C A ∧ (m_do A b j v).1 40 9 = A.1 40 9 ∧ (m_do A b j v).1 39 1 = A.1 39 1 ∧ ∀ x, x ≠ b → (m_do A b j v).1 28 x = A.1 28 x := by
  cases v with
  | some x =>
    have e : m_do A b j (some x) = m_serve b A (j, m_T A, some x, 0) := rfl
    rw [e]
    obtain ⟨g1, g2, g3, g4, g5, g6, g7, g8, g9, g10⟩ := m_serve_keep b A (j, m_T A, some x, 0)
    exact ⟨g1, g2, g3, g4, g5, g6, g7, g8, g10, fun y hy => m_serve_28 b A _ y hy⟩
  | none =>
    have e : m_do A b j none = m_serve b (m_begun A) (j, m_T A, none, m_N A) := rfl
    rw [e]
    obtain ⟨g1, g2, g3, g4, g5, g6, g7, g8, g9, g10⟩ := m_serve_keep b (m_begun A) (j, m_T A, none, m_N A)
    obtain ⟨k25, k29, k28, k30, k27, k26, k39, k40, kR, kF, kQ, kC, kW, kX⟩ := begun_keep A
    exact ⟨g1.trans k29, g2.trans k25, g3.trans k30, g4.trans kQ, g5.trans kR, g6.trans kF, g7.trans kC, g8.trans (k40 9 (by omega)), g10.trans (by rw [k39]), fun y hy => (m_serve_28 b _ _ y hy).trans (by rw [k28])⟩
theorem inv_do {A : mS} (h : m_inv 16 A) {b : Nat} (hw : A.1 29 b = 1) (j : Nat) (v : Option Int32) : m_inv 16 (m_do A b j v) := by
  obtain ⟨g1, g2, g3, g4, g5, g6, g7, g8, g9, g10⟩ := m_do_keep A b j v
  refine inv_same h g2 g1 (fun x _ _ hx => g10 x ?_) g9 g5 g6 g4 (by rw [g7]; exact h.2.2.2.2.2.2)
  intro e; subst e; rw [hw] at hx; rcases hx with g | g <;> exact absurd g (by decide)
theorem inv_begun {A : mS} (h : m_inv 16 A) : m_inv 16 (m_begun A) := by
  obtain ⟨k25, k29, k28, k30, k27, k26, k39, k40, kR, kF, kQ, kC, kW, kX⟩ := begun_keep A
  exact inv_same h k25 k29 (fun x _ _ _ => by rw [k28]) (by rw [k39]) kR kF kQ (by rw [kC]; exact h.2.2.2.2.2.2)
theorem inv_addq {A : mS} (h : m_inv 16 A) {b : Nat} (hb : b < 16) (hw : A.1 29 b = 3) (q : mQ) (hq : q.1 < 4 ∧ ∀ v, q.2.2.1 = some v → v ≠ -1) (hl : (m_Q A b).length < (A.1 25 3).toNatClampNeg) : m_inv 16 (m_q A b (m_Q A b ++ [q])) := by
  obtain ⟨h1, h2, h3, ⟨q1, q2⟩, w, s, c⟩ := h
  have hM : (A.1 25 3).toNatClampNeg ≤ 4 := by
    obtain ⟨-, -, -, ⟨M, hM, hM1, hM4⟩, -⟩ := h1
    rw [hM, z_cl (by omega)]; exact hM4
  refine ⟨h1, h2, h3, ⟨fun x hx hx6 hx3 => ?_, fun x hx => ?_⟩, w, s, c⟩
  · have hne : x ≠ b := by intro e; subst e; exact hx3 hw
    have : m_Q (m_q A b (m_Q A b ++ [q])) x = m_Q A x := by simp [m_Q, m_q, hne]
    rw [this]; exact q1 x hx hx6 hx3
  · by_cases e : x = b
    · subst e
      have : m_Q (m_q A x (m_Q A x ++ [q])) x = m_Q A x ++ [q] := by simp [m_Q, m_q]
      rw [this]
      refine ⟨⟨by rw [List.length_append]; simp; omega, fun y hy => ?_⟩, ?_⟩
      · rcases List.mem_append.mp hy with g | g
        · exact (q2 x hx).1.2 y g
        · rw [List.mem_singleton.mp g]; exact hq
      · show (m_Q A x ++ [q]).length ≤ (A.1 25 3).toNatClampNeg
        rw [List.length_append]; simp; omega
    · have : m_Q (m_q A b (m_Q A b ++ [q])) x = m_Q A x := by simp [m_Q, m_q, e]
      rw [this]; exact q2 x hx
theorem inv_join {A : mS} (h : m_inv 16 A) {b : Nat} (hb : b < 16) (hw : A.1 29 b = 3) {j : Nat} (hj : j < 4) (v : Option Int32) (hv : ∀ x, v = some x → x ≠ -1) (hl : (m_Q A b).length < (A.1 25 3).toNatClampNeg) : m_inv 16 (m_join A b j v) := by
  have h1 := inv_addq h hb hw (j, m_T A, v, m_N A) ⟨hj, hv⟩ hl
  cases v with
  | some x => exact h1
  | none => exact inv_begun h1
