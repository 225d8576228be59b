/-! what the steps of A leave as it was -/
theorem m_serve_keep (b : Nat) (A : mS) (q : mQ) : (m_serve b A q).1 29 = A.1 29 ∧ (m_serve b A q).1 25 = A.1 25 ∧ (m_serve b A q).1 30 = A.1 30 ∧ m_Q (m_serve b A q) = m_Q A ∧ m_R (m_serve b A q) = m_R A ∧ m_F (m_serve b A q) = m_F A ∧ m_C (m_serve b A q) = m_C A ∧ (m_serve b A q).1 40 9 = A.1 40 9 ∧ (m_serve b A q).1 40 7 = A.1 40 7 ∧ (m_serve b A q).1 39 1 = A.1 39 1 := by
  unfold m_serve
  cases q.2.2.1 with
  | some v => simp [m_lay, m_i, m_Q, m_R, m_F, m_C]
  | none =>
    simp only [m_gets]
    by_cases hk : q.2.2.2 < 200
    · simp [hk, m_i, m_wx, m_Q, m_R, m_F, m_C]
    · simp [hk, m_i, m_wx, m_Q, m_R, m_F, m_C]
theorem m_fold_keep (b : Nat) (l : List mQ) : ∀ A : mS, ((l.foldl (m_serve b) A).1 29 = A.1 29 ∧ (l.foldl (m_serve b) A).1 25 = A.1 25 ∧ (l.foldl (m_serve b) A).1 30 = A.1 30 ∧ m_Q (l.foldl (m_serve b) A) = m_Q A ∧ m_R (l.foldl (m_serve b) A) = m_R A ∧ m_F (l.foldl (m_serve b) A) = m_F A ∧ m_C (l.foldl (m_serve b) A) = m_C A) ∧ (l.foldl (m_serve b) A).1 40 9 = A.1 40 9 ∧ (l.foldl (m_serve b) A).1 40 7 = A.1 40 7 ∧ (l.foldl (m_serve b) A).1 39 1 = A.1 39 1 := by
  induction l with
  | nil => intro A; simp
  | cons q l ih =>
    intro A
    obtain ⟨⟨h1, h2, h3, h4, h5, h6, h7⟩, h8, h9, h10⟩ := ih (m_serve b A q)
    obtain ⟨g1, g2, g3, g4, g5, g6, g7, g8, g9, g10⟩ := m_serve_keep b A q
    simp only [List.foldl_cons]
    exact ⟨⟨h1.trans g1, h2.trans g2, h3.trans g3, h4.trans g4, h5.trans g5, h6.trans g6, h7.trans g7⟩, h8.trans g8, h9.trans g9, h10.trans g10⟩
theorem m_out_keep (A : mS) (b : Nat) : m_Q (m_out A b) = m_Q A ∧ m_F (m_out A b) = m_F A ∧ (m_out A b).1 25 = A.1 25 ∧ (∀ b', b' ≠ b → (m_out A b).1 29 b' = A.1 29 b' ∧ (m_out A b).1 28 b' = A.1 28 b' ∧ (m_out A b).1 30 b' = A.1 30 b') ∧ (m_out A b).1 40 9 = A.1 40 9 ∧ (m_out A b).1 40 7 = A.1 40 7 ∧ (m_out A b).1 40 8 = A.1 40 8 := by
  unfold m_out
  split
  · simp [m_i, m_Q, m_F]; intro b' hb'; simp [hb']
  · split
    · simp [m_i, m_Q, m_F]; intro b' hb'; simp [hb']
    · simp [m_gone, m_tal, m_far, m_c, m_i, m_Q, m_F]; intro b' hb'; simp [hb']
theorem m_room_keep (A : mS) (r : Nat) : m_Q (m_room A r) = m_Q A ∧ m_F (m_room A r) = m_F A ∧ (m_room A r).1 25 = A.1 25 ∧ (m_room A r).1 40 9 = A.1 40 9 ∧ (m_room A r).1 40 7 = A.1 40 7 ∧ (m_room A r).1 40 8 = A.1 40 8 := by
  unfold m_room
  split
  · simp
  · split
    · simp
    · rename_i z hz
      obtain ⟨h1, h2, h3, -, h4, h5, h6⟩ := m_out_keep (m_r A r (m_R A r).dropLast) z
      exact ⟨h1, h2, h3, h4, h5, h6⟩
theorem m_near_keep (A : mS) (b : Nat) : m_Q (m_near A b) = m_Q A ∧ m_F (m_near A b) = m_F A ∧ (m_near A b).1 25 = A.1 25 ∧ (m_near A b).1 29 b = 1 ∧ (m_near A b).1 40 9 = A.1 40 9 ∧ (m_near A b).1 40 7 = A.1 40 7 := by
  obtain ⟨h1, h2, h3, h4, h5, h6⟩ := m_room_keep A (b % 4)
  unfold m_near
  refine ⟨h1, h2, ?_, ?_, ?_, ?_⟩
  · funext t; simp [m_i, m_r, h3]
  · simp [m_i]
  · simpa [m_i, m_r] using h4
  · simpa [m_i, m_r] using h5
/-! a fetch comes -/
theorem cr_fdec {i U : Nat} {S : zS} {A : mS} (h : c_R i U S A) {b : Nat} (hb : b ∈ m_F A) : c_R i U (sI S (1, i, 0) 5 (S.1 (1, i, 0) 5 - 1)) (m_f A ((m_F A).erase b)) := by
  obtain ⟨r1, r2, r3, r4, r5, ⟨f1, f2⟩, r7, r8⟩ := h
  refine ⟨?_, ?_, ?_, ?_, ?_, ⟨?_, ?_⟩, ?_, ?_⟩
  · simpa [c_R1, m_f, sI, m_C] using r1
  · simpa [c_R2, m_f, sI] using r2
  · exact fun b' hb' => r3 b' hb'
  · simpa [c_R4, m_f, sI, c_ask, m_Q] using r4
  · simpa [c_R5, m_f, sI, m_R] using r5
  · have hl : (m_F A).length = ((m_F A).erase b).length + 1 := by
      rw [List.length_erase_of_mem hb]
      have := List.length_pos_of_mem hb
      omega
    simp only [m_f, m_F, sI] at f1 hl ⊢
    simp [f1, hl, nI_pred]
  · simpa [m_f, sI] using f2
  · simpa [c_R7, m_f, sI] using r7
  · simpa [c_R8, m_f, sI, m_N, m_W, m_X] using r8
theorem cr_take {i U : Nat} {S : zS} {A : mS} (h : c_R i U S A) {b : Nat} (hb : b < 16) : c_R i U (sI (sC S (6, i, b) (7, i, b) 0 0 4) (5, i, b) 9 0) (m_take A b) := by
  obtain ⟨r1, r2, r3, r4, r5, r6, r7, r8⟩ := h
  refine ⟨?_, fun b' hb' j hj => ?_, fun b' hb' => ?_, ?_, ?_, ?_, ?_, ?_⟩
  · simpa [c_R1, m_take, sI, sC, m_C] using r1
  · have := r2 b' hb' j hj
    simp only [m_take, sI, sC, m_d4 hj]
    by_cases e : b' = b
    · subst e; simp [hj, this.1]
    · simp [e, this.1, this.2]
  · have := r3 b' hb'
    simp only [m_take, sI, sC]
    by_cases e : b' = b
    · subst e; simp [this.1, this.2.2]
    · simp [e, this.1, this.2.1, this.2.2]
  · simpa [c_R4, m_take, sI, sC, c_ask, m_Q] using r4
  · simpa [c_R5, m_take, sI, sC, m_R] using r5
  · simpa [c_R6, m_take, sI, sC, m_F] using r6
  · simpa [c_R7, m_take, sI, sC] using r7
  · simpa [c_R8, m_take, sI, sC, m_N, m_W, m_X] using r8
theorem cr_q0 {i U : Nat} {S : zS} {A : mS} (h : c_R i U S A) {b : Nat} (hb : b < 16) : c_R i U (sI S (5, i, b) 7 0) (m_q A b []) := by
  obtain ⟨r1, r2, r3, r4, r5, r6, r7, r8⟩ := h
  refine ⟨?_, ?_, ?_, fun b' hb' => ?_, ?_, ?_, ?_, ?_⟩
  · simpa [c_R1, m_q, sI, m_C] using r1
  · simpa [c_R2, m_q, sI] using r2
  · intro b' hb'
    have := r3 b' hb'
    have e8 : (sI S (5, i, b) 7 0).1 (5, i, b') 8 = S.1 (5, i, b') 8 := by simp [sI]
    have e9 : (sI S (5, i, b) 7 0).1 (5, i, b') 9 = S.1 (5, i, b') 9 := by simp [sI]
    have e10 : (sI S (5, i, b) 7 0).1 (5, i, b') 10 = S.1 (5, i, b') 10 := by simp [sI]
    rw [e8, e9, e10]
    exact this
  · have := r4 b' hb'
    by_cases e : b' = b
    · subst e; simp [m_q, m_Q, sI, nI_0]
    · simp only [m_q, m_Q, sI, if_neg e]
      refine ⟨by simpa [e] using this.1, fun k q hk => ?_⟩
      simpa [c_ask] using this.2 k q hk
  · simpa [c_R5, m_q, sI, m_R] using r5
  · simpa [c_R6, m_q, sI, m_F] using r6
  · simpa [c_R7, m_q, sI] using r7
  · simpa [c_R8, m_q, sI, m_N, m_W, m_X] using r8
/-- askers are as askers are -/
def m_qok (l : List mQ) : Prop := l.length ≤ 4 ∧ ∀ q ∈ l, q.1 < 4 ∧ ∀ v, q.2.2.1 = some v → v ≠ -1
theorem sp_come {o : zW} {n i U : Nat} (hi : i < 8) (hn : z_sb i + 120 ≤ n) {b : Nat} (hb : b < 16) (S : zS) {A : mS} (h : c_R i U S A) (hU : U + 1 < 2 ^ 31) (hlim : m_lim A) (hrow : m_row A) (hw : A.1 29 b = 3) (hbf : b ∈ m_F A) (hq : m_qok (m_Q A b)) (hcost : m_cok (m_C A)) (K : zS → Prop) (hK : ∀ S', c_R i (U + 1) S' (m_come A b) → c_fr i S S' → K S') :
    zGv o n mdX2_come [.ref (z_adr o (1, i, 0)), .ref (z_adr o (5, i, b))] S K := by
  refine w_X2_come_0 o n i hi hn b hb S _ ?_
  refine sp_takeFromFar hi hn hb _ _ ?_
  have h2 := cr_take (cr_fdec h hbf) hb
  refine sp_settle hi hn hb _ h2 hU hlim hrow (by show A.1 29 b ≠ 1; rw [hw]; decide) hcost _ (fun S6 h6 f6 => ?_)
  have f6' : c_fr i S S6 := (((c_fr_rf i S).I 1 0 5 _ (by omega)).C _ 7 b 0 0 4 (by omega) |>.I 5 b 9 _ (by omega)).tr f6
  have kn := m_near_keep (m_take (m_f A ((m_F A).erase b)) b) b
  have hQ : m_Q (m_near (m_take (m_f A ((m_F A).erase b)) b) b) = m_Q A := kn.1
  have key := z_down (m_Q A b).length (fun k => ∀ S7, c_R i (U + 1) S7 (((m_Q A b).take k).foldl (m_serve b) (m_near (m_take (m_f A ((m_F A).erase b)) b) b)) → c_fr i S S7 →
      zG o n mdX2_come 21 [(0, .ref (z_adr o (1, i, 0))), (1, .ref (z_adr o (5, i, b))), (2, .int (nI k))] [] S7 (fun r S' => r = none ∧ K S')) ?_ ?_ 0 (Nat.zero_le _) S6 h6 f6'
  · exact key
  · intro S7 h7 f7
    have e7 : S7.1 (5, i, b) 7 = nI (m_Q A b).length := by
      have := (h7.2.2.2.1 b hb).1
      rw [(m_fold_keep b _ _).1.2.2.2.1, hQ] at this
      exact this
    have hfin : K (sI S7 (5, i, b) 7 0) := by
      refine hK _ ?_ (f7.I 5 b 7 _ (by omega))
      have := cr_q0 h7 hb
      rw [List.take_length] at this
      exact this
    refine w_X2_come_21 o n i hi hn b hb _ S7 _ ⟨fun _ => ⟨rfl, hfin⟩, fun hc => absurd (by rw [e7]; exact Int32.le_refl _) hc⟩
  · intro k hk ih S7 h7 f7
    have kf := m_fold_keep b ((m_Q A b).take k) (m_near (m_take (m_f A ((m_F A).erase b)) b) b)
    have hQ7 : m_Q (((m_Q A b).take k).foldl (m_serve b) (m_near (m_take (m_f A ((m_F A).erase b)) b) b)) = m_Q A := kf.1.2.2.2.1.trans hQ
    have e7 : S7.1 (5, i, b) 7 = nI (m_Q A b).length := by
      have := (h7.2.2.2.1 b hb).1
      rw [hQ7] at this
      exact this
    have hq4 := hq.1
    obtain ⟨q, hqk⟩ : ∃ q, (m_Q A b)[k]? = some q := ⟨_, List.getElem?_eq_getElem hk⟩
    have hqm : q ∈ m_Q A b := List.mem_of_getElem? hqk
    have hask := (h7.2.2.2.1 b hb).2 k q (by rw [hQ7]; exact hqk)
    refine w_X2_come_21 o n i hi hn b hb _ S7 _ ⟨fun hc => absurd (by rw [e7] at hc; exact hc) (z_ge hk (by omega)), fun _ => ⟨fun hc => absurd hc (z_ge (show k < 4 by omega) (by decide)), fun _ => ⟨z_in (by omega) (by omega), z_in (by omega) (by omega), z_in (by omega) (by omega), z_in (by omega) (by omega), ?_⟩⟩⟩
    rw [z_cl (by omega), hask.1, hask.2.1, hask.2.2.1, hask.2.2.2]
    refine sp_serve hi hn hb S7 h7 q (hq.2 q hqm).1 (hq.2 q hqm).2 ?_ (by rw [hQ7]; exact hq4) _ (fun S8 h8 f8 => ?_)
    · rw [kf.1.1]; exact kn.2.2.2.1
    · rw [← nI_succ]
      refine ih S8 ?_ (f7.tr f8)
      have : (m_Q A b).take (k + 1) = (m_Q A b).take k ++ [q] := by
        rw [List.take_succ, hqk]; rfl
      rw [this, List.foldl_append]
      exact h8
