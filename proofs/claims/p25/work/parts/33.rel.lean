/-! the class's state i holds the mathematical state A (U: how often a box was used) -/
def c_ask (S : zS) (i b k : Nat) (q : mQ) : Prop := S.1 (8, i, b) k = nI q.1 ∧ S.1 (9, i, b) k = q.2.2.1.getD (-1) ∧ S.1 (10, i, b) k = (if q.2.2.1.isSome then -1 else c_ln q.2.2.2) ∧ S.1 (11, i, b) k = nI q.2.1
def c_R1 (i : Nat) (S : zS) (A : mS) : Prop := (∀ j, j < 5 → S.1 (2, i, 0) j = A.1 25 j) ∧ (∀ j, j < 10 → S.1 (3, i, 0) j = A.1 40 j) ∧ S.2.2 (1, i, 0) 4 = m_C A
def c_R2 (i : Nat) (S : zS) (A : mS) : Prop := ∀ b, b < 16 → ∀ j, j < 4 → S.1 (6, i, b) j = A.1 26 (4 * b + j) ∧ S.1 (7, i, b) j = A.1 27 (4 * b + j)
def c_R3 (i : Nat) (S : zS) (A : mS) : Prop := ∀ b, b < 16 → S.1 (5, i, b) 8 = A.1 29 b ∧ S.1 (5, i, b) 9 = A.1 28 b ∧ S.1 (5, i, b) 10 = if A.1 29 b = 2 ∨ A.1 29 b = 3 then A.1 30 b else 2000000000
def c_R4 (i : Nat) (S : zS) (A : mS) : Prop := ∀ b, b < 16 → S.1 (5, i, b) 7 = nI (m_Q A b).length ∧ ∀ k q, (m_Q A b)[k]? = some q → c_ask S i b k q
def c_R5 (i U : Nat) (S : zS) (A : mS) : Prop := S.1 (1, i, 0) 7 = nI U ∧ ∃ u : Nat → Nat, (∀ b, b < 16 → S.1 (5, i, b) 11 = nI (u b) ∧ u b ≤ U) ∧ ∀ r, r < 4 → (m_R A r).Pairwise (fun a b => u b < u a)
def c_R6 (i : Nat) (S : zS) (A : mS) : Prop := S.1 (1, i, 0) 5 = nI (m_F A).length ∧ S.1 (1, i, 0) 6 = A.1 39 1
def c_R7 (i : Nat) (S : zS) (A : mS) : Prop := ∀ b, b < 16 → A.1 29 b = 2 ∨ A.1 29 b = 3 → S.1 (1, i, 0) 8 ≤ A.1 30 b
def c_R8 (i : Nat) (S : zS) (A : mS) : Prop := S.1 (12, i, 0) 3 = nI (min (m_N A) 200) ∧ S.1 (12, i, 0) 4 = A.1 40 8 ∧ S.1 (12, i, 0) 5 = A.1 39 2 ∧ S.2.1 (12, i, 0) 6 = m_W A ∧ S.2.1 (12, i, 0) 7 = m_X A ∧ ∀ k, k < m_N A → k < 200 → S.1 (13, i, 0) k = A.1 41 k ∧ S.1 (14, i, 0) k = A.1 42 k ∧ S.1 (15, i, 0) k = A.1 43 k
def c_R (i U : Nat) (S : zS) (A : mS) : Prop := c_R1 i S A ∧ c_R2 i S A ∧ c_R3 i S A ∧ c_R4 i S A ∧ c_R5 i U S A ∧ c_R6 i S A ∧ c_R7 i S A ∧ c_R8 i S A
/-- nothing but state i has changed -/
def c_fr (i : Nat) (S0 S : zS) : Prop := ∀ q : zK, ¬ (1 ≤ q.1 ∧ q.1 ≤ 15 ∧ q.2.1 = i) → S.1 q = S0.1 q ∧ S.2.1 q = S0.2.1 q ∧ S.2.2 q = S0.2.2 q
theorem c_fr_rf (i : Nat) (S : zS) : c_fr i S S := fun _ _ => ⟨rfl, rfl, rfl⟩
theorem c_fr.tr {i : Nat} {S0 S1 S2 : zS} (h : c_fr i S0 S1) (h2 : c_fr i S1 S2) : c_fr i S0 S2 := fun q hq => ⟨(h2 q hq).1.trans (h q hq).1, (h2 q hq).2.1.trans (h q hq).2.1, (h2 q hq).2.2.trans (h q hq).2.2⟩
theorem c_fr.I {i : Nat} {S0 S : zS} (h : c_fr i S0 S) (k b s : Nat) (v : Int32) (hk : 1 ≤ k ∧ k ≤ 15) : c_fr i S0 (sI S (k, i, b) s v) := by
  intro q hq
  have hne : ¬ q = (k, i, b) := fun e => hq (by subst e; exact ⟨hk.1, hk.2, rfl⟩)
  refine ⟨?_, (h q hq).2.1, (h q hq).2.2⟩
  rw [← (h q hq).1]
  funext t
  simp [sI, hne]
theorem c_fr.L {i : Nat} {S0 S : zS} (h : c_fr i S0 S) (k b s : Nat) (v : Int64) (hk : 1 ≤ k ∧ k ≤ 15) : c_fr i S0 (sL S (k, i, b) s v) := by
  intro q hq
  have hne : ¬ q = (k, i, b) := fun e => hq (by subst e; exact ⟨hk.1, hk.2, rfl⟩)
  refine ⟨(h q hq).1, ?_, (h q hq).2.2⟩
  rw [← (h q hq).2.1]
  funext t
  simp [sL, hne]
theorem c_fr.F {i : Nat} {S0 S : zS} (h : c_fr i S0 S) (k b s : Nat) (v : UInt32) (hk : 1 ≤ k ∧ k ≤ 15) : c_fr i S0 (sF S (k, i, b) s v) := by
  intro q hq
  have hne : ¬ q = (k, i, b) := fun e => hq (by subst e; exact ⟨hk.1, hk.2, rfl⟩)
  refine ⟨(h q hq).1, (h q hq).2.1, ?_⟩
  rw [← (h q hq).2.2]
  funext t
  simp [sF, hne]
theorem c_fr.far {i : Nat} {S0 S : zS} (h : c_fr i S0 S) (b m : Nat) : c_fr i S0 (c_far S i b m) := by
  intro q hq
  have hne : ¬ q = (6, i, b) := fun e => hq (by subst e; exact ⟨by omega, by omega, rfl⟩)
  refine ⟨?_, (h q hq).2.1, (h q hq).2.2⟩
  rw [← (h q hq).1]
  funext t
  simp [c_far, hne]
theorem c_fr.C {i : Nat} {S0 S : zS} (h : c_fr i S0 S) (k0 : zK) (k b sp dp m : Nat) (hk : 1 ≤ k ∧ k ≤ 15) : c_fr i S0 (sC S k0 (k, i, b) sp dp m) := by
  intro q hq
  have hne : ¬ q = (k, i, b) := fun e => hq (by subst e; exact ⟨hk.1, hk.2, rfl⟩)
  refine ⟨?_, (h q hq).2.1, (h q hq).2.2⟩
  rw [← (h q hq).1]
  funext t
  simp [sC, hne]
theorem m_d4 {b j : Nat} (h : j < 4) : (4 * b + j) / 4 = b := by omega
theorem m_m4 {b j : Nat} (h : j < 4) : (4 * b + j) % 4 = j := by omega
/-- counting, at a price -/
theorem cr_tal {i U : Nat} {S : zS} {A : mS} (h : c_R i U S A) (w : Nat) (hw : w < 7) (p : UInt32) : c_R i U (c_tal S i w p) (m_tal A w p) := by
  obtain ⟨⟨a1, a2, a3⟩, r2, r3, r4, r5, r6, r7, r8⟩ := h
  have h7 : ¬ 7 = w := by omega
  have h8 : ¬ 8 = w := by omega
  have hw10 : w < 10 := by omega
  refine ⟨⟨fun j hj => ?_, fun j hj => ?_, ?_⟩, fun b hb j hj => ?_, fun b hb => ?_, fun b hb => ?_, ?_, ?_, ?_, ?_⟩
  · simpa [c_tal, m_tal, m_c, m_i, sI, sF] using a1 j hj
  · simp only [c_tal, m_tal, m_c, m_i, sI, sF]
    by_cases e : j = w
    · subst e; simp [a2 _ hj]
    · simp [e, a2 _ hj]
  · simp [c_tal, m_tal, m_c, m_i, sI, sF, a3]
  · simpa [c_tal, m_tal, m_c, m_i, sI, sF] using r2 b hb j hj
  · simpa [c_tal, m_tal, m_c, m_i, sI, sF] using r3 b hb
  · simpa [c_tal, m_tal, m_c, m_i, sI, sF, c_ask] using r4 b hb
  · simpa [c_R5, c_tal, m_tal, m_c, m_i, sI, sF] using r5
  · simpa [c_R6, c_tal, m_tal, m_c, m_i, sI, sF] using r6
  · simpa [c_R7, c_tal, m_tal, m_c, m_i, sI, sF] using r7
  · simpa [c_R8, m_N, m_W, m_X, c_tal, m_tal, m_c, m_i, sI, sF, h7, h8] using r8
theorem cr_far {i U : Nat} {S : zS} {A : mS} (h : c_R i U S A) {b : Nat} (hb : b < 16) : c_R i U (c_goFar S i b) (m_far A b) := by
  obtain ⟨r1, r2, r3, r4, r5, r6, r7, r8⟩ := h
  refine ⟨?_, fun b' hb' j hj => ?_, fun b' hb' => ?_, fun b' hb' => ?_, ?_, ?_, fun b' hb' => ?_, ?_⟩
  · simpa [c_R1, c_goFar, c_far, m_far, sI] using r1
  · have := r2 b' hb' j hj
    simp only [c_goFar, c_far, m_far, sI, m_d4 hj, m_m4 hj]
    by_cases e : b' = b
    · subst e
      rw [(r3 b' hb).2.1]
      by_cases hbit : m_bit (A.1 28 b') j = 1
      · simp [hbit, hj, this.1, this.2]
      · simp [hbit, hj, this.1, this.2]
    · simp [e, this.1, this.2]
  · have := r3 b' hb'
    simp only [c_goFar, c_far, m_far, sI]
    by_cases e : b' = b
    · subst e; simp
    · simp [e, this.1, this.2.1, this.2.2]
  · simpa [c_goFar, c_far, m_far, sI, c_ask] using r4 b' hb'
  · simpa [c_R5, c_goFar, c_far, m_far, sI] using r5
  · simpa [c_R6, c_goFar, c_far, m_far, sI] using r6
  · have := r7 b' hb'
    simp only [c_goFar, c_far, m_far, sI]
    by_cases e : b' = b
    · subst e; simp
    · simpa [e] using this
  · simpa [c_R8, m_N, m_W, m_X, c_goFar, c_far, m_far, sI] using r8
theorem cr_gone {i U : Nat} {S : zS} {A : mS} (h : c_R i U S A) {b : Nat} (hb : b < 16) : c_R i U (c_tal (c_goFar S i b) i 6 1079194419) (m_gone A b) := cr_tal (cr_far h hb) 6 (by omega) _
