def m_rok (q : mR) : Prop := ∀ b j v, q = some (b, j, v) → b < 16 ∧ j < 4 ∧ ∀ x, v = some x → x ≠ -1
theorem tb_same {A A' : mS} {B : Nat} (h : m_tb B A) (e : A'.1 40 9 = A.1 40 9) : m_tb B A' :=
  ⟨e.trans (h.1.trans (congrArg nI (m_T_eq e).symm)), by rw [m_T_eq e]; exact h.2⟩
theorem go_keep {A : mS} {B : Nat} {q : mR} (hq : m_rok q) (hI : m_inv 16 A) (hd : m_dd 16 16 A) (ht : m_tb B A) (hc : m_can A q = true) : m_inv 16 (m_go A q) ∧ m_dd 16 16 (m_go A q) ∧ m_tb B (m_go A q) := by
  refine ⟨?_, dd_go hd ht.1 hI.1 q, tb_same ht (go_T A q)⟩
  obtain _ | ⟨b, j, v⟩ := q
  · exact hI
  · obtain ⟨q1, q2, q3⟩ := hq b j v rfl
    exact inv_go hI q1 q2 v q3 hc
theorem beg_keep {q : mR} (hq : m_rok q) : ∀ f (A : mS) (B : Nat), m_inv 16 A → m_dd 16 16 A → m_tb B A → B + f < 2 ^ 30 → m_inv 16 (m_beg f A q) ∧ m_dd 16 16 (m_beg f A q) ∧ m_tb (B + f) (m_beg f A q) := by
  intro f
  induction f with
  | zero => intro A B hI hd ht _; exact ⟨hI, hd, ht⟩
  | succ f ih =>
    intro A B hI hd ht hB
    obtain ⟨p1, p2, p3, p4⟩ := pass_keep hI hd ht (by omega)
    by_cases hc : m_can (m_pass A) q = true
    · simp only [m_beg, hc, if_true]
      obtain ⟨g1, g2, g3⟩ := go_keep hq p1 p2 p3 hc
      exact ⟨g1, g2, g3.1, Nat.le_trans g3.2 (by omega)⟩
    · simp only [m_beg, if_neg hc]
      have hst9 := (m_tal_keep (m_pass A) (w := 4) (by omega) 1036831949).1
      obtain ⟨g1, g2, g3⟩ := ih (m_stall (m_pass A)) (B + 1) (inv_tal p1 4 (Or.inr (Or.inr (Or.inr (Or.inr (Or.inr rfl)))))) (dd_tal p2 (by omega) _) (tb_same p3 hst9) (by omega)
      exact ⟨g1, g2, g3.1, Nat.le_trans g3.2 (by omega)⟩
theorem idle_keep : ∀ f (A : mS) (B : Nat), m_inv 16 A → m_dd 16 16 A → m_tb B A → B + f < 2 ^ 30 → m_inv 16 (m_idle f A) ∧ m_dd 16 16 (m_idle f A) ∧ m_tb (B + f) (m_idle f A) := by
  intro f
  induction f with
  | zero => intro A B hI hd ht _; exact ⟨hI, hd, ht⟩
  | succ f ih =>
    intro A B hI hd ht hB
    obtain ⟨p1, p2, p3, p4⟩ := pass_keep hI hd ht (by omega)
    obtain ⟨g1, g2, g3⟩ := ih (m_pass A) (B + 1) p1 p2 p3 (by omega)
    exact ⟨g1, g2, g3.1, Nat.le_trans g3.2 (by omega)⟩
