/-! when things' time comes -/
def m_dd (k2 k3 : Nat) (A : mS) : Prop := ∀ x, x < 16 → A.1 29 x = 2 ∨ A.1 29 x = 3 → ∃ d, A.1 30 x = nI d ∧ m_T A ≤ d ∧ d ≤ m_T A + 20 ∧ (A.1 29 x = 2 → x < k2 → m_T A < d) ∧ (A.1 29 x = 3 → x < k3 → m_T A < d)
/-- the TICK is a number, below B -/
def m_tb (B : Nat) (A : mS) : Prop := A.1 40 9 = nI (m_T A) ∧ m_T A ≤ B
theorem m_T_eq {A A' : mS} (h : A'.1 40 9 = A.1 40 9) : m_T A' = m_T A := by unfold m_T; rw [h]
theorem m_T_tick {A : mS} {B : Nat} (h : m_tb B A) (hB : B < 2 ^ 30) : m_T (m_tick A) = m_T A + 1 ∧ m_tb (B + 1) (m_tick A) := by
  have h1 := h.1
  have h2 := h.2
  have e : (m_tick A).1 40 9 = nI (m_T A + 1) := by
    have : (m_tick A).1 40 9 = A.1 40 9 + 1 := by simp [m_tick, m_i]
    rw [this, h1, ← nI_succ]
  have e2 : m_T (m_tick A) = m_T A + 1 := by unfold m_T at e ⊢; rw [e, z_cl (by unfold m_T at h2; omega)]
  exact ⟨e2, by rw [e, e2], by omega⟩
theorem dd_tick {A : mS} {B : Nat} (h : m_dd 16 16 A) (ht : m_tb B A) (hB : B < 2 ^ 30) : m_dd 0 0 (m_tick A) := by
  intro x hx hact
  have e29 : (m_tick A).1 29 x = A.1 29 x := by simp [m_tick, m_i]
  have e30 : (m_tick A).1 30 x = A.1 30 x := by simp [m_tick, m_i]
  rw [e29] at hact
  obtain ⟨d, h1, h2, h3, h4, h5⟩ := h x hx hact
  have hlt : m_T A < d := by
    rcases hact with q | q
    · exact h4 q hx
    · exact h5 q hx
  rw [(m_T_tick ht hB).1, e30]
  exact ⟨d, h1, by omega, by omega, fun _ q => by omega, fun _ q => by omega⟩
theorem dd_p1 {A : mS} {k : Nat} (h : m_dd k 0 A) (hT : A.1 40 9 = nI (m_T A)) (hk : k < 16) : m_dd (k + 1) 0 (m_p1 A k) := by
  unfold m_p1
  split
  · rename_i hc
    intro x hx hact
    have e29 : ∀ x, x ≠ k → (m_gone (m_i A 39 1 (A.1 39 1 - 1)) k).1 29 x = A.1 29 x := by intro x hx; simp [m_gone, m_tal, m_far, m_c, m_i, hx]
    have e30 : (m_gone (m_i A 39 1 (A.1 39 1 - 1)) k).1 30 x = A.1 30 x := by simp [m_gone, m_tal, m_far, m_c, m_i]
    have e29k : (m_gone (m_i A 39 1 (A.1 39 1 - 1)) k).1 29 k = 0 := by simp [m_gone, m_tal, m_far, m_c, m_i]
    have eT : m_T (m_gone (m_i A 39 1 (A.1 39 1 - 1)) k) = m_T A := m_T_eq (by simp [m_gone, m_tal, m_far, m_c, m_i])
    by_cases e : x = k
    · subst e; rw [e29k] at hact; rcases hact with q | q <;> exact absurd q (by decide)
    · rw [e29 x e] at hact ⊢
      obtain ⟨d, h1, h2, h3, h4, h5⟩ := h x hx hact
      rw [e30, eT]
      exact ⟨d, h1, h2, h3, fun q hl => h4 q (by omega), fun q hl => by omega⟩
  · rename_i hc
    intro x hx hact
    obtain ⟨d, h1, h2, h3, h4, h5⟩ := h x hx hact
    refine ⟨d, h1, h2, h3, fun q hl => ?_, fun q hl => by omega⟩
    by_cases e : x = k
    · subst e
      have hne : d ≠ m_T A := fun q2 => hc ⟨q, by rw [h1, hT, q2]⟩
      omega
    · exact h4 q (by omega)
theorem m_half_nat {L : Nat} (h : L ≤ 20) : ∃ w, m_half (nI L) = nI w ∧ 1 ≤ w ∧ w ≤ 10 := by
  have key : ∀ l, l < 21 → m_half (nI l) = nI (if 1 < l then l / 2 else 1) := by decide +kernel
  refine ⟨_, key L (by omega), ?_, ?_⟩
  · split <;> omega
  · split <;> omega
/-- what making room, becoming near, a fetch's coming do to the others -/
def m_oth (A A' : mS) (b x : Nat) : Prop := (A'.1 29 x = A.1 29 x ∧ A'.1 30 x = A.1 30 x) ∨ (A'.1 29 x = 0) ∨ (A'.1 29 x = 2 ∧ A'.1 30 x = A.1 40 9 + m_half (A.1 25 4))
theorem m_room_oth (A : mS) (b x : Nat) : m_oth A (m_room A (b % 4)) b x := by
  unfold m_room
  split
  · exact Or.inl ⟨rfl, rfl⟩
  · split
    · exact Or.inl ⟨rfl, rfl⟩
    · rename_i z hz
      by_cases e : x = z
      · subst e
        unfold m_out
        split
        · exact Or.inr (Or.inl (by simp [m_i]))
        · split
          · exact Or.inr (Or.inr ⟨by simp [m_i], by simp [m_i, m_r]⟩)
          · exact Or.inr (Or.inl (by simp [m_gone, m_tal, m_far, m_c, m_i]))
      · obtain ⟨-, -, -, k4, -⟩ := m_out_keep (m_r A (b % 4) (m_R A (b % 4)).dropLast) z
        exact Or.inl ⟨(k4 x e).1, (k4 x e).2.2⟩
theorem m_near_oth (A : mS) {b x : Nat} (hx : x ≠ b) : m_oth A (m_near A b) b x := by
  have := m_room_oth A b x
  unfold m_oth at this ⊢
  have e29 : (m_near A b).1 29 x = (m_room A (b % 4)).1 29 x := by simp [m_near, m_i, m_r, hx]
  have e30 : (m_near A b).1 30 x = (m_room A (b % 4)).1 30 x := by simp [m_near, m_i, m_r]
  rw [e29, e30]; exact this
theorem m_come_oth (A : mS) {b x : Nat} (hx : x ≠ b) : m_oth A (m_come A b) b x := by
  have h := m_near_oth (m_take (m_f A ((m_F A).erase b)) b) hx
  have k := m_fold_keep b (m_Q A b) (m_near (m_take (m_f A ((m_F A).erase b)) b) b)
  have e29 : (m_come A b).1 29 = (m_near (m_take (m_f A ((m_F A).erase b)) b) b).1 29 := k.1.1
  have e30 : (m_come A b).1 30 = (m_near (m_take (m_f A ((m_F A).erase b)) b) b).1 30 := k.1.2.2.1
  unfold m_oth at h ⊢
  rw [e29, e30]
  have a1 : (m_take (m_f A ((m_F A).erase b)) b).1 29 x = A.1 29 x := by simp [m_take, m_f]
  have a2 : (m_take (m_f A ((m_F A).erase b)) b).1 30 x = A.1 30 x := by simp [m_take, m_f]
  have a3 : (m_take (m_f A ((m_F A).erase b)) b).1 40 9 = A.1 40 9 := by simp [m_take, m_f]
  have a4 : (m_take (m_f A ((m_F A).erase b)) b).1 25 4 = A.1 25 4 := by simp [m_take, m_f]
  rw [a1, a2, a3, a4] at h
  exact h
theorem m_come_b (A : mS) (b : Nat) : (m_come A b).1 29 b = 1 ∧ (m_come A b).1 40 9 = A.1 40 9 ∧ (m_come A b).1 25 = A.1 25 := by
  have k := m_fold_keep b (m_Q A b) (m_near (m_take (m_f A ((m_F A).erase b)) b) b)
  have kn := m_near_keep (m_take (m_f A ((m_F A).erase b)) b) b
  have e29 : (m_come A b).1 29 = (m_near (m_take (m_f A ((m_F A).erase b)) b) b).1 29 := k.1.1
  refine ⟨by rw [e29]; exact kn.2.2.2.1, ?_, ?_⟩
  · exact k.2.1.trans (kn.2.2.2.2.1.trans (by simp [m_take, m_f]))
  · refine k.1.2.1.trans (kn.2.2.1.trans ?_)
    funext t; simp [m_take, m_f]
theorem dd_p2 {A : mS} {k : Nat} (h : m_dd 16 k A) (hT : A.1 40 9 = nI (m_T A)) (hlim : m_lim A) (hk : k < 16) : m_dd 16 (k + 1) (m_p2 A k) := by
  unfold m_p2
  split
  · rename_i hc
    obtain ⟨c1, c2, c3⟩ := m_come_b A k
    have eT : m_T (m_come A k) = m_T A := m_T_eq c2
    intro x hx hact
    rw [eT]
    by_cases e : x = k
    · subst e; rw [c1] at hact; rcases hact with q | q <;> exact absurd q (by decide)
    · rcases m_come_oth A e with ⟨g1, g2⟩ | g1 | ⟨g1, g2⟩
      · rw [g1] at hact ⊢
        obtain ⟨d, h1, h2, h3, h4, h5⟩ := h x hx hact
        exact ⟨d, g2.trans h1, h2, h3, h4, fun q hl => h5 q (by omega)⟩
      · rw [g1] at hact; rcases hact with q | q <;> exact absurd q (by decide)
      · obtain ⟨L, hL, hL1, hL20⟩ := hlim.2.2.2.2
        obtain ⟨w, hw, hw1, hw10⟩ := m_half_nat hL20
        refine ⟨m_T A + w, ?_, by omega, by omega, fun _ _ => by omega, fun q => ?_⟩
        · rw [g2, hL, hw, hT, nI_add]
        · rw [g1] at q; exact absurd q (by decide)
  · rename_i hc
    intro x hx hact
    obtain ⟨d, h1, h2, h3, h4, h5⟩ := h x hx hact
    refine ⟨d, h1, h2, h3, h4, fun q hl => ?_⟩
    by_cases e : x = k
    · subst e
      have hne : d ≠ m_T A := fun q2 => hc ⟨q, by rw [h1, hT, q2]⟩
      omega
    · exact h5 q (by omega)
