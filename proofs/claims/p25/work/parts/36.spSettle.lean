/-- limits, rows: what the mid-level methods need to know of A -/
def m_lim (A : mS) : Prop := (∃ P, A.1 25 0 = nI P ∧ 1 ≤ P ∧ P ≤ 3) ∧ (∃ P, A.1 25 1 = nI P ∧ P ≤ 3) ∧ (∃ P, A.1 25 2 = nI P ∧ 1 ≤ P ∧ P ≤ 4) ∧ (∃ P, A.1 25 3 = nI P ∧ 1 ≤ P ∧ P ≤ 4) ∧ (∃ P, A.1 25 4 = nI P ∧ 1 ≤ P ∧ P ≤ 20)
def m_row (A : mS) : Prop := ∀ r, r < 4 → (m_R A r).Nodup ∧ ∀ b, b ∈ m_R A r ↔ b < 16 ∧ b % 4 = r ∧ A.1 29 b = 1
theorem cr_mono {i U U' : Nat} {S : zS} {A : mS} (h : c_R i U S A) (hU : S.1 (1, i, 0) 7 = nI U' ∧ U ≤ U') : c_R i U' S A := by
  obtain ⟨r1, r2, r3, r4, ⟨r5, u, hu, hp⟩, r6, r7, r8⟩ := h
  exact ⟨r1, r2, r3, r4, ⟨hU.1, u, fun b hb => ⟨(hu b hb).1, Nat.le_trans (hu b hb).2 hU.2⟩, hp⟩, r6, r7, r8⟩
theorem cr_row {i U : Nat} {S : zS} {A : mS} (h : c_R i U S A) (r : Nat) {l : List Nat} (hl : l.Sublist (m_R A r)) : c_R i U S (m_r A r l) := by
  obtain ⟨r1, r2, r3, r4, ⟨r5, u, hu, hp⟩, r6, r7, r8⟩ := h
  refine ⟨r1, r2, r3, r4, ⟨r5, u, hu, fun r' hr' => ?_⟩, r6, r7, r8⟩
  simp only [m_r, m_R]
  by_cases e : r' = r
  · subst e; simp only [if_pos rfl]; exact (hp r' hr').sublist hl
  · simp only [if_neg e]; exact hp r' hr'
/-- a box becomes near, the last used -/
def c_near (S : zS) (i b : Nat) : zS := c_use (sI (sI S (5, i, b) 8 1) (5, i, b) 10 2000000000) i b
theorem cr_use {i U : Nat} {S : zS} {A : mS} (h : c_R i U S A) {b : Nat} (hb : b < 16) (l : List Nat) (hl : l.Sublist (m_R A (b % 4))) (hbl : b ∉ l) (hbn : ∀ r, r < 4 → r ≠ b % 4 → b ∉ m_R A r) (h16 : ∀ r, r < 4 → ∀ x ∈ m_R A r, x < 16) : c_R i (U + 1) (c_near S i b) (m_i (m_r A (b % 4) (b :: l)) 29 b 1) := by
  obtain ⟨r1, r2, r3, r4, ⟨r5, u, hu, hp⟩, r6, r7, r8⟩ := h
  refine ⟨?_, fun b' hb' j' hj' => ?_, fun b' hb' => ?_, fun b' hb' => ?_, ⟨?_, fun x => if x = b then U + 1 else u x, fun b' hb' => ?_, fun r' hr' => ?_⟩, ?_, fun b' hb' => ?_, ?_⟩
  · simpa [c_R1, c_near, c_use, m_i, m_r, sI, m_C] using r1
  · simpa [c_near, c_use, m_i, m_r, sI] using r2 b' hb' j' hj'
  · have := r3 b' hb'
    simp only [c_near, c_use, m_i, m_r, sI]
    by_cases e : b' = b
    · subst e; simp [this.2.1]
    · simp [e, this.1, this.2.1, this.2.2]
  · simpa [c_near, c_use, m_i, m_r, sI, c_ask, m_Q] using r4 b' hb'
  · simp [c_near, c_use, sI, r5, nI_succ]
  · by_cases e : b' = b
    · subst e; simp [c_near, c_use, sI, r5, nI_succ]
    · have := hu b' hb'
      simp only [c_near, c_use, sI, if_neg e]
      simp [e, this.1]
      omega
  · have key : ∀ l' : List Nat, (∀ x ∈ l', x < 16) → b ∉ l' → l'.Pairwise (fun a c => u c < u a) → l'.Pairwise (fun a c => (if c = b then U + 1 else u c) < (if a = b then U + 1 else u a)) := by
      intro l' _ hn hp'
      refine hp'.imp_of_mem (fun {x y} hx hy hxy => ?_)
      have e1 : ¬ x = b := fun e => hn (e ▸ hx)
      have e2 : ¬ y = b := fun e => hn (e ▸ hy)
      simpa [e1, e2] using hxy
    simp only [m_i, m_r, m_R]
    by_cases e : r' = b % 4
    · rw [if_pos e]
      have hll : ∀ x ∈ l, x < 16 := fun x hx => h16 _ (by omega) x (hl.subset hx)
      refine List.Pairwise.cons (fun x hx => ?_) (key l hll hbl ((hp _ (by omega)).sublist hl))
      have e1 : ¬ x = b := fun e => hbl (e ▸ hx)
      have := (hu x (hll x hx)).2
      simp [e1]
      omega
    · rw [if_neg e]
      exact key _ (h16 r' hr') (hbn r' hr' e) (hp r' hr')
  · simpa [c_R6, c_near, c_use, m_i, m_r, sI, m_F] using r6
  · have := r7 b' hb'
    simp only [c_near, c_use, m_i, m_r, sI]
    by_cases e : b' = b
    · subst e; simp
    · simpa [e] using this
  · simpa [c_R8, m_N, m_W, m_X, c_near, c_use, m_i, m_r, sI] using r8
theorem fr_near {i : Nat} {S0 S : zS} (h : c_fr i S0 S) (b : Nat) : c_fr i S0 (c_near S i b) := (((h.I 5 b 8 _ (by omega)).I 5 b 10 _ (by omega)).I 1 0 7 _ (by omega)).I 5 b 11 _ (by omega)
theorem fr_goFar {i : Nat} {S0 S : zS} (h : c_fr i S0 S) (b : Nat) : c_fr i S0 (c_goFar S i b) := (((h.far b 4).I 5 b 8 _ (by omega)).I 5 b 9 _ (by omega)).I 5 b 10 _ (by omega)
theorem fr_tal {i : Nat} {S0 S : zS} (h : c_fr i S0 S) (w : Nat) (p : UInt32) : c_fr i S0 (c_tal S i w p) := (h.I 3 0 w _ (by omega)).F 1 0 4 _ (by omega)
/-- a count -/
theorem cr_cnt {i U : Nat} {S : zS} {A : mS} (h : c_R i U S A) (w : Nat) (hw : w < 7) : c_R i U (sI S (3, i, 0) w (S.1 (3, i, 0) w + 1)) (m_i A 40 w (A.1 40 w + 1)) := by
  obtain ⟨⟨a1, a2, a3⟩, r2, r3, r4, r5, r6, r7, r8⟩ := h
  have h7 : ¬ 7 = w := by omega
  have h8 : ¬ 8 = w := by omega
  have hw10 : w < 10 := by omega
  refine ⟨⟨fun j hj => ?_, fun j hj => ?_, ?_⟩, fun b hb j hj => ?_, fun b hb => ?_, fun b hb => ?_, ?_, ?_, ?_, ?_⟩
  · simpa [m_i, sI] using a1 j hj
  · simp only [m_i, sI]
    by_cases e : j = w
    · subst e; simp [a2 _ hj]
    · simp [e, a2 _ hj]
  · simpa [m_i, sI, m_C] using a3
  · simpa [m_i, sI] using r2 b hb j hj
  · simpa [m_i, sI] using r3 b hb
  · simpa [m_i, sI, c_ask, m_Q] using r4 b hb
  · simpa [c_R5, m_i, sI, m_R] using r5
  · simpa [c_R6, m_i, sI, m_F] using r6
  · simpa [c_R7, m_i, sI] using r7
  · simpa [c_R8, m_N, m_W, m_X, m_i, sI, h7, h8] using r8
/-- a box goes to the shelf -/
def c_shelve (S : zS) (i b : Nat) (w : Int32) : zS := c_due (sI (sI S (1, i, 0) 6 (S.1 (1, i, 0) 6 + 1)) (5, i, b) 8 2) i b w
theorem cr_shelve {i U : Nat} {S : zS} {A : mS} (h : c_R i U S A) {b : Nat} (hb : b < 16) (w : Int32) : c_R i U (c_shelve S i b w) (m_i (m_i (m_i A 29 b 2) 30 b (A.1 40 9 + w)) 39 1 (A.1 39 1 + 1)) := by
  obtain ⟨⟨a1, a2, a3⟩, r2, r3, r4, r5, ⟨f1, f2⟩, r7, r8⟩ := h
  have e9 : S.1 (3, i, 0) 9 = A.1 40 9 := a2 9 (by omega)
  refine ⟨⟨fun j hj => ?_, fun j hj => ?_, ?_⟩, fun b' hb' j' hj' => ?_, fun b' hb' => ?_, fun b' hb' => ?_, ?_, ⟨?_, ?_⟩, fun b' hb' => ?_, ?_⟩
  · simpa [c_shelve, c_due, m_i, sI] using a1 j hj
  · simpa [c_shelve, c_due, m_i, sI] using a2 j hj
  · simpa [c_shelve, c_due, m_i, sI, m_C] using a3
  · simpa [c_shelve, c_due, m_i, sI] using r2 b' hb' j' hj'
  · have := r3 b' hb'
    simp only [c_shelve, c_due, m_i, sI]
    by_cases e : b' = b
    · subst e; simp [this.2.1, e9]
    · simp [e, this.1, this.2.1, this.2.2]
  · simpa [c_shelve, c_due, m_i, sI, c_ask, m_Q] using r4 b' hb'
  · simpa [c_R5, c_shelve, c_due, m_i, sI, m_R] using r5
  · simpa [c_shelve, c_due, m_i, sI, m_F] using f1
  · simp [c_shelve, c_due, m_i, sI, f2]
  · have := r7 b' hb'
    simp only [c_shelve, c_due, m_i, sI]
    by_cases e : b' = b
    · subst e
      simp [e9]
      by_cases hc : S.1 (1, i, 0) 8 ≤ A.1 40 9 + w
      · simp [hc]
      · simp [hc]
    · simp [e, e9]
      intro hact
      by_cases hc : S.1 (1, i, 0) 8 ≤ A.1 40 9 + w
      · simp [hc]; exact this hact
      · simp [hc]
        exact Int32.le_trans (Int32.le_of_lt (Int32.not_le.mp hc)) (this hact)
  · simpa [c_R8, m_N, m_W, m_X, c_shelve, c_due, m_i, sI] using r8
theorem fr_shelve {i : Nat} {S0 S : zS} (h : c_fr i S0 S) (b : Nat) (w : Int32) : c_fr i S0 (c_shelve S i b w) := (((h.I 1 0 6 _ (by omega)).I 5 b 8 _ (by omega)).I 5 b 10 _ (by omega)).I 1 0 8 _ (by omega)
/-- what is FAR already goes nowhere -/
theorem m_far0 {A : mS} {b : Nat} (h : A.1 28 b = 0) : m_far A b = m_i A 29 b 0 := by
  simp only [m_far, m_i]
  refine Prod.ext ?_ rfl
  funext q t
  have hb : ∀ j, ¬ m_bit 0 j = 1 := by
    intro j
    have : m_bit 0 j = 0 := by simp [m_bit]
    rw [this]; decide
  simp only [h, hb, and_false, if_false]
  by_cases e : q = 29 ∧ t = b
  · simp [e.1, e.2]
  · by_cases e2 : q = 28 ∧ t = b
    · obtain ⟨rfl, rfl⟩ := e2; simp [h]
    · have : ¬ ((q = 28 ∨ q = 29) ∧ t = b) := by
        rintro ⟨h1 | h1, h2⟩
        · exact e2 ⟨h1, h2⟩
        · exact e ⟨h1, h2⟩
      simp [this, e]
