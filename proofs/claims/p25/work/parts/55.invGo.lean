theorem inv_use {A : mS} (h : m_inv 16 A) {b : Nat} (hb : b < 16) (hw : A.1 29 b = 1) : m_inv 16 (m_use A b) := by
  obtain ⟨h1, h2, h3, h4, w, s, c⟩ := h
  refine ⟨h1, fun r hr => ?_, h3, h4, w, s, c⟩
  have hm : b ∈ m_R A (b % 4) := ((h2 (b % 4) (by omega)).2 b).mpr ⟨hb, rfl, hw⟩
  have hp := List.perm_cons_erase hm
  by_cases e : r = b % 4
  · subst e
    have eR : m_R (m_use A b) (b % 4) = b :: (m_R A (b % 4)).erase b := by simp [m_use, m_r, m_R]
    rw [eR]
    refine ⟨hp.nodup_iff.mp (h2 _ hr).1, fun x => ?_⟩
    rw [← hp.mem_iff]
    exact (h2 _ hr).2 x
  · have eR : m_R (m_use A b) r = m_R A r := by simp [m_use, m_r, m_R, e]
    rw [eR]; exact h2 r hr
theorem inv_off {A : mS} (h : m_inv 16 A) {b : Nat} (hb : b < 16) (hw : A.1 29 b = 2) : m_inv b (m_i A 39 1 (A.1 39 1 - 1)) := by
  obtain ⟨h1, h2, ⟨f1, f2, f3⟩, ⟨q1, q2⟩, w, s, c⟩ := h
  have e25 : (m_i A 39 1 (A.1 39 1 - 1)).1 25 = A.1 25 := by funext t; simp [m_i]
  have e29 : (m_i A 39 1 (A.1 39 1 - 1)).1 29 = A.1 29 := by funext t; simp [m_i]
  have e28 : (m_i A 39 1 (A.1 39 1 - 1)).1 28 = A.1 28 := by funext t; simp [m_i]
  have hcs : m_cs 16 A = m_cs b (m_i A 39 1 (A.1 39 1 - 1)) + 1 := by
    refine m_cs_add hb (fun x hx hne => ?_) ⟨by omega, hw⟩ ?_
    · rw [e29]
      exact ⟨fun g => ⟨hne, g.2⟩, fun g => ⟨by omega, g.2⟩⟩
    · exact fun g => g.1 rfl
  refine ⟨?_, fun r hr => ?_, ⟨f1, fun x => ?_, ?_⟩, ⟨fun x hx _ hne => ?_, fun x hx => ?_⟩, fun x hx => ?_, ?_, c⟩
  · unfold m_lim; rw [e25]; exact h1
  · rw [e29]; exact h2 r hr
  · rw [e29]
    refine (f2 x).trans ⟨?_, ?_⟩
    · rintro ⟨a, -, d⟩; exact ⟨a, fun e => by subst e; rw [hw] at d; exact absurd d (by decide), d⟩
    · rintro ⟨a, -, d⟩; exact ⟨a, by omega, d⟩
  · rw [e25]; exact f3
  · rw [e29] at hne; exact q1 x hx (by omega) hne
  · rw [e25]; exact q2 x hx
  · rw [e29, e28]
    exact ⟨(w x hx).1, fun _ h03 => (w x hx).2 (by omega) h03⟩
  · have : (m_i A 39 1 (A.1 39 1 - 1)).1 39 1 = A.1 39 1 - 1 := by simp [m_i]
    exact this.trans ((congrArg (fun z : Int32 => z - 1) (s.trans (congrArg nI hcs))).trans (nI_pred _))
theorem inv_back {A : mS} (h : m_inv 16 A) {b : Nat} (hb : b < 16) (hw : A.1 29 b = 2) : m_inv 16 (m_near (m_i A 39 1 (A.1 39 1 - 1)) b) ∧ (m_near (m_i A 39 1 (A.1 39 1 - 1)) b).1 29 b = 1 := by
  have h1 := inv_off h hb hw
  have hw1 : (m_i A 39 1 (A.1 39 1 - 1)).1 29 b ≠ 1 := by
    have : (m_i A 39 1 (A.1 39 1 - 1)).1 29 b = A.1 29 b := by simp [m_i]
    rw [this, hw]; decide
  obtain ⟨h2, w2⟩ := inv_near h1 hb hw1
  refine ⟨inv_close h2 hb w2 ?_, w2⟩
  rw [(m_near_keep _ b).1]
  exact h.2.2.2.1.1 b hb (by omega) (by rw [hw]; decide)
