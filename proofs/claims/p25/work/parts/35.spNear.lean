theorem m_i4 {b b' j j' : Nat} (h : j < 4) (h' : j' < 4) : 4 * b' + j' = 4 * b + j ↔ b' = b ∧ j' = j := by omega
theorem cr_lay {i U : Nat} {S : zS} {A : mS} (h : c_R i U S A) {b j : Nat} (hb : b < 16) (hj : j < 4) (v : Int32) : c_R i U (sI (sI S (7, i, b) j v) (5, i, b) 9 (S.1 (5, i, b) 9 ||| (1 : Int32) <<< (nI j &&& 31))) (m_lay A b j v) := by
  obtain ⟨r1, r2, r3, r4, r5, r6, r7, r8⟩ := h
  refine ⟨?_, fun b' hb' j' hj' => ?_, fun b' hb' => ?_, fun b' hb' => ?_, ?_, ?_, ?_, ?_⟩
  · simpa [c_R1, m_lay, m_i, sI] using r1
  · have := r2 b' hb' j' hj'
    simp only [m_lay, m_i, sI, m_i4 hj hj']
    by_cases e : b' = b ∧ j' = j
    · obtain ⟨rfl, rfl⟩ := e
      simp [this.1]
    · simp [e, this.1, this.2]
  · have := r3 b' hb'
    simp only [m_lay, m_i, sI]
    by_cases e : b' = b
    · subst e; simp [this.1, this.2.1, this.2.2]
    · simp [e, this.1, this.2.1, this.2.2]
  · simpa [m_lay, m_i, sI, c_ask] using r4 b' hb'
  · simpa [c_R5, m_lay, m_i, sI] using r5
  · simpa [c_R6, m_lay, m_i, sI] using r6
  · simpa [c_R7, m_lay, m_i, sI] using r7
  · simpa [c_R8, m_N, m_W, m_X, m_lay, m_i, sI] using r8
theorem cr_gets {i U : Nat} {S : zS} {A : mS} (h : c_R i U S A) (k b j frm : Nat) (hb : b < 16) (hj : j < 4) : c_R i U (c_answer (sI S (3, i, 0) 8 (S.1 (3, i, 0) 8 + 1)) i k (A.1 27 (4 * b + j)) (A.1 40 9 - nI frm)) (m_gets A k b j frm) := by
  obtain ⟨⟨a1, a2, a3⟩, r2, r3, r4, r5, r6, r7, ⟨g1, g2, g3, g4, g5, g6⟩⟩ := h
  have e8 := a2 8 (by omega)
  refine ⟨⟨fun j' hj' => ?_, fun j' hj' => ?_, ?_⟩, fun b' hb' j' hj' => ?_, fun b' hb' => ?_, fun b' hb' => ?_, ?_, ?_, ?_, ⟨?_, ?_, ?_, ?_, ?_, fun k' h1 h2 => ?_⟩⟩
  · have := a1 j' hj'
    by_cases hk : k < 200 <;> simpa [c_answer, c_ans, m_gets, m_i, m_wx, sI, sL, hk] using this
  · have := a2 j' hj'
    by_cases hk : k < 200
    · by_cases e : j' = 8
      · subst e; simp [c_answer, c_ans, m_gets, m_i, m_wx, sI, sL, hk, this]
      · simp [c_answer, c_ans, m_gets, m_i, m_wx, sI, sL, hk, this, e]
    · by_cases e : j' = 8
      · subst e; simp [c_answer, c_ans, m_gets, m_i, m_wx, sI, sL, hk, this]
      · simp [c_answer, c_ans, m_gets, m_i, m_wx, sI, sL, hk, this, e]
  · by_cases hk : k < 200 <;> simpa [c_answer, c_ans, m_gets, m_i, m_wx, sI, sL, hk, m_C] using a3
  · have := r2 b' hb' j' hj'
    by_cases hk : k < 200 <;> simpa [c_answer, c_ans, m_gets, m_i, m_wx, sI, sL, hk] using this
  · have := r3 b' hb'
    by_cases hk : k < 200 <;> simpa [c_answer, c_ans, m_gets, m_i, m_wx, sI, sL, hk] using this
  · have := r4 b' hb'
    by_cases hk : k < 200 <;> simpa [c_answer, c_ans, m_gets, m_i, m_wx, sI, sL, hk, c_ask, m_Q] using this
  · by_cases hk : k < 200 <;> simpa [c_R5, c_answer, c_ans, m_gets, m_i, m_wx, sI, sL, hk, m_R] using r5
  · by_cases hk : k < 200 <;> simpa [c_R6, c_answer, c_ans, m_gets, m_i, m_wx, sI, sL, hk, m_F] using r6
  · by_cases hk : k < 200 <;> simpa [c_R7, c_answer, c_ans, m_gets, m_i, m_wx, sI, sL, hk] using r7
  · by_cases hk : k < 200 <;> simpa [c_answer, c_ans, m_gets, m_i, m_wx, sI, sL, hk, m_N] using g1
  · by_cases hk : k < 200 <;> simp [c_answer, c_ans, m_gets, m_i, m_wx, sI, sL, hk, g2]
  · by_cases hk : k < 200 <;> simp [c_answer, c_ans, m_gets, m_i, m_wx, sI, sL, hk, g3]
  · by_cases hk : k < 200 <;> simp [c_answer, c_ans, m_gets, m_i, m_wx, sI, sL, hk, g4, m_W]
  · by_cases hk : k < 200 <;> simp [c_answer, c_ans, m_gets, m_i, m_wx, sI, sL, hk, g5, m_X]
  · by_cases hk : k < 200
    · have h1' : k' < m_N A := by simpa [m_gets, m_i, m_wx, hk, m_N] using h1
      have := g6 k' h1' h2
      by_cases e : k' = k
      · subst e; simp [c_answer, c_ans, m_gets, m_i, m_wx, sI, sL, hk, this]
      · simp [c_answer, c_ans, m_gets, m_i, m_wx, sI, sL, hk, this, e]
    · have h1' : k' < m_N A := by simpa [m_gets, m_i, m_wx, hk, m_N] using h1
      have := g6 k' h1' h2
      simp [c_answer, c_ans, m_gets, m_i, m_wx, sI, sL, hk, this]
theorem fr_ans {i : Nat} {S0 S : zS} (h : c_fr i S0 S) (k : Nat) (v w : Int32) : c_fr i S0 (c_answer S i k v w) := by
  unfold c_answer c_ans
  by_cases hk : k < 200
  · rw [if_pos hk]
    exact ((((((h.I 13 0 k v (by omega)).I 14 0 k w (by omega)).I 12 0 4 _ (by omega)).I 12 0 5 _ (by omega)).L 12 0 6 _ (by omega)).L 12 0 7 _ (by omega))
  · rw [if_neg hk]
    exact ((((h.I 12 0 4 _ (by omega)).I 12 0 5 _ (by omega)).L 12 0 6 _ (by omega)).L 12 0 7 _ (by omega))
theorem sp_serve {o : zW} {n i U : Nat} (hi : i < 8) (hn : z_sb i + 120 ≤ n) {b : Nat} (hb : b < 16) (S : zS) {A : mS} (h : c_R i U S A) (q : mQ) (hj : q.1 < 4) (hv : ∀ v, q.2.2.1 = some v → v ≠ -1) (hw : A.1 29 b = 1) (ha : (m_Q A b).length ≤ 4) (K : zS → Prop) (hK : ∀ S', c_R i U S' (m_serve b A q) → c_fr i S S' → K S') :
    zGv o n mdX2_serve [.ref (z_adr o (1, i, 0)), .ref (z_adr o (5, i, b)), .int (nI q.1), .int (q.2.2.1.getD (-1)), .int (if q.2.2.1.isSome then -1 else c_ln q.2.2.2), .int (nI q.2.1)] S K := by
  obtain ⟨j, frm, val, k⟩ := q
  refine w_X2_serve_0 o n i hi hn b hb _ _ _ _ S _ ?_
  cases val with
  | some v =>
    have hv' := hv v rfl
    refine ⟨fun _ => ?_, fun hc => absurd hc hv'⟩
    refine sp_layIn hi hn hb hj v S _ ⟨rfl, hK _ (cr_lay h hb hj v) ?_⟩
    exact ((c_fr_rf i S).I 7 b _ _ (by omega)).I 5 b _ _ (by omega)
  | none =>
    refine ⟨fun hc => absurd rfl hc, fun _ => ?_⟩
    have h' := h
    obtain ⟨⟨a1, a2, a3⟩, r2, r3, r4, r5, r6, r7, r8⟩ := h'
    refine sp_valueAtLast (a := (m_Q A b).length) hi hn hb hj _ (by simpa [sI] using (r4 b hb).1) ha _ ?_
    have e1 : (sI S (3, i, 0) 8 (S.1 (3, i, 0) 8 + 1)).1 (5, i, b) 8 = 1 := by simpa [sI, hw] using (r3 b hb).1
    rw [if_pos (Or.inl e1)]
    have e2 : (sI S (3, i, 0) 8 (S.1 (3, i, 0) 8 + 1)).1 (7, i, b) j = A.1 27 (4 * b + j) := by simpa [sI] using (r2 b hb j hj).2
    have e3 : (sI S (3, i, 0) 8 (S.1 (3, i, 0) 8 + 1)).1 (3, i, 0) 9 = A.1 40 9 := by simpa [sI] using a2 9 (by omega)
    rw [e2, e3]
    exact sp_answer hi hn k _ _ _ _ ⟨rfl, hK _ (cr_gets h k b j frm hb hj) (fr_ans ((c_fr_rf i S).I 3 0 _ _ (by omega)) _ _ _)⟩
