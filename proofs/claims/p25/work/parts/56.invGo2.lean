abbrev m_ftch (A : mS) (b : Nat) : mS := m_f (m_i (m_i A 29 b 3) 30 b (A.1 40 9 + A.1 25 4)) (m_F A ++ [b])
theorem inv_fetch {A : mS} (h : m_inv 16 A) {b : Nat} (hb : b < 16) (hw : A.1 29 b = 0) (hl : (m_F A).length < (A.1 25 2).toNatClampNeg) : m_inv 16 (m_ftch A b) := by
  obtain ⟨h1, h2, ⟨f1, f2, f3⟩, ⟨q1, q2⟩, w, s, c⟩ := h
  have e25 : (m_ftch A b).1 25 = A.1 25 := by funext t; simp [m_i, m_f]
  have e29 : ∀ x, x ≠ b → (m_ftch A b).1 29 x = A.1 29 x := by intro x hx; simp [m_i, m_f, hx]
  have e29b : (m_ftch A b).1 29 b = 3 := by simp [m_i, m_f]
  have e28 : (m_ftch A b).1 28 = A.1 28 := by funext t; simp [m_i, m_f]
  have eF : m_F (m_ftch A b) = m_F A ++ [b] := rfl
  have hnb : b ∉ m_F A := fun hm => by
    have := ((f2 b).mp hm).2.2
    rw [hw] at this; exact absurd this (by decide)
  refine ⟨?_, fun r hr => ⟨(h2 r hr).1, fun x => ?_⟩, ⟨?_, fun x => ?_, ?_⟩, ⟨fun x hx h6 hne => ?_, fun x hx => ?_⟩, fun x hx => ?_, ?_, c⟩
  · unfold m_lim; rw [e25]; exact h1
  · refine ((h2 r hr).2 x).trans ?_
    by_cases e : x = b
    · subst e; rw [e29b, hw]; simp
    · rw [e29 x e]
  · rw [eF]
    refine List.nodup_append.mpr ⟨f1, by simp, fun a ha y hy e => ?_⟩
    rw [List.mem_singleton.mp hy] at e
    subst e; exact hnb ha
  · rw [eF, List.mem_append, List.mem_singleton]
    by_cases e : x = b
    · subst e; rw [e29b]; exact ⟨fun _ => ⟨hb, by omega, rfl⟩, fun _ => Or.inr rfl⟩
    · rw [e29 x e]
      exact ⟨fun g => (f2 x).mp (g.resolve_right e), fun g => Or.inl ((f2 x).mpr g)⟩
  · rw [eF, e25, List.length_append]; simp; omega
  · by_cases e : x = b
    · subst e; exact absurd e29b hne
    · rw [e29 x e] at hne; exact q1 x hx h6 hne
  · rw [e25]; exact q2 x hx
  · rw [e28]
    by_cases e : x = b
    · subst e
      exact ⟨Or.inr (Or.inr (Or.inr e29b)), fun _ _ => (w x hx).2 (by omega) (Or.inl hw)⟩
    · rw [e29 x e]; exact w x hx
  · have : (m_ftch A b).1 39 1 = A.1 39 1 := by simp [m_i, m_f]
    rw [this, s]
    congr 1
    refine (m_cs_eq (fun x hx => ?_)).symm
    by_cases e : x = b
    · subst e; rw [e29b, hw]; simp
    · rw [e29 x e]
/-- what is asked of a box, done, keeps all -/
theorem inv_go {A : mS} (h : m_inv 16 A) {b j : Nat} (hb : b < 16) (hj : j < 4) (v : Option Int32) (hv : ∀ x, v = some x → x ≠ -1) (hc : m_can A (some (b, j, v)) = true) : m_inv 16 (m_go A (some (b, j, v))) := by
  have hwh := (h.2.2.2.2.1 b hb).1
  by_cases n1 : A.1 29 b = 1
  · simp only [m_go, if_pos n1]
    exact inv_tal (inv_do (inv_use h hb n1) n1 j v) 0 (Or.inl rfl)
  · by_cases n2 : A.1 29 b = 2
    · simp only [m_go, if_neg n1, if_pos n2]
      obtain ⟨g, g1⟩ := inv_back h hb n2
      exact inv_tal (inv_do g g1 j v) 3 (Or.inr (Or.inr (Or.inr (Or.inl rfl))))
    · by_cases n3 : A.1 29 b = 3
      · simp only [m_go, if_neg n1, if_neg n2, if_pos n3]
        simp only [m_can, if_pos n3, decide_eq_true_eq] at hc
        have hl := (h.2.2.2.1.2 b hb).2
        exact inv_tal (inv_join h hb n3 hj v hv (by omega)) 1 (Or.inr (Or.inl rfl))
      · have w0 : A.1 29 b = 0 := by rcases hwh with g | g | g | g; exact g; exact absurd g n1; exact absurd g n2; exact absurd g n3
        simp only [m_go, if_neg n1, if_neg n2, if_neg n3]
        simp only [m_can, if_neg n3, if_pos w0, decide_eq_true_eq] at hc
        have hl := h.2.2.1.2.2
        have hq : m_Q A b = [] := h.2.2.2.1.1 b hb (by omega) n3
        have hf := inv_fetch h hb w0 (by omega)
        have e29b : (m_ftch A b).1 29 b = 3 := by simp [m_i, m_f]
        refine inv_tal (inv_join hf hb e29b hj v hv ?_) 2 (Or.inr (Or.inr (Or.inl rfl)))
        have eQ : m_Q (m_ftch A b) b = [] := hq
        have e25 : (m_ftch A b).1 25 3 = A.1 25 3 := by simp [m_i, m_f]
        rw [eQ, e25]
        obtain ⟨-, -, -, ⟨M, hM, hM1, hM4⟩, -⟩ := h.1
        rw [hM, z_cl (by omega)]; exact hM1
