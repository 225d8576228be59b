section SPC
variable {o : zW} {n i i2 : Nat}
abbrev c_bx (q : zK) (t : Nat) : Prop := (q.1 = 5 ∧ 7 ≤ t ∧ t ≤ 11) ∨ (6 ≤ q.1 ∧ q.1 ≤ 11 ∧ t < 4)
/-- the first m boxes of state i become those of i2 -/
def c_becB (S : zS) (i i2 m : Nat) : zS := (fun q t => if q.2.1 = i ∧ q.2.2 < m ∧ c_bx q t then S.1 (q.1, i2, q.2.2) t else S.1 q t, S.2)
theorem sp_becB (hi : i < 8) (hn : z_sb i + 120 ≤ n) (hi2 : i2 < 8) (hn2 : z_sb i2 + 120 ≤ n) (hne : i ≠ i2) {b : Nat} (hb : b < 16) (S : zS) (K : zS → Prop) (hK : K (c_becB S i i2 (b + 1))) : zGv o n mdX0_become [.ref (z_adr o (5, i, b)), .ref (z_adr o (5, i2, b))] (c_becB S i i2 b) K := by
  have hne' : ¬ i2 = i := fun e => hne e.symm
  refine w_X0_become_0 o n i hi hn b hb i2 hi2 hn2 b hb _ _ (fun S4 e4 S8 e8 S9 e9 S10 e10 => ⟨rfl, ?_⟩)
  subst e10 e9 e8 e4
  refine z_to hK (fun q t => ?_) (fun _ _ => rfl) (fun _ _ => rfl)
  obtain ⟨k, i', b'⟩ := q
  simp only [c_becB, sI, sC, c_bx, Prod.mk.injEq, hne', false_and, and_false, if_false, Nat.zero_add, Nat.sub_zero, Nat.zero_le, true_and]
  by_cases h1 : i' = i
  · subst h1
    by_cases h2 : b' = b
    · subst h2
      have hlt : b' < b' + 1 := by omega
      have hnl : ¬ b' < b' := by omega
      simp only [hlt, hnl, true_and, false_and, if_false, and_true]
      by_cases h5 : k = 5
      · subst h5
        by_cases c : 7 ≤ t ∧ t ≤ 11
        · have : t = 7 ∨ t = 8 ∨ t = 9 ∨ t = 10 ∨ t = 11 := by omega
          rcases this with e | e | e | e | e <;> subst e <;> simp
        · have e7 : t ≠ 7 := by omega
          have e8 : t ≠ 8 := by omega
          have e9 : t ≠ 9 := by omega
          have e10 : t ≠ 10 := by omega
          have e11 : t ≠ 11 := by omega
          simp [c, e7, e8, e9, e10, e11]
      · by_cases c : 6 ≤ k ∧ k ≤ 11
        · have : k = 6 ∨ k = 7 ∨ k = 8 ∨ k = 9 ∨ k = 10 ∨ k = 11 := by omega
          rcases this with e | e | e | e | e | e <;> subst e <;> simp
        · have e6 : k ≠ 6 := by omega
          have e7 : k ≠ 7 := by omega
          have e8 : k ≠ 8 := by omega
          have e9 : k ≠ 9 := by omega
          have e10 : k ≠ 10 := by omega
          have e11 : k ≠ 11 := by omega
          have c2 : ¬ (6 ≤ k ∧ k ≤ 11 ∧ t < 4) := by omega
          simp [h5, c2, e6, e7, e8, e9, e10, e11]
    · have : b' < b + 1 ↔ b' < b := by omega
      simp [h2, this]
  · simp [h1]
def c_rel (N k b t : Nat) : Prop := (k = 1 ∧ b = 0 ∧ 5 ≤ t ∧ t ≤ 8) ∨ (k = 2 ∧ b = 0 ∧ t < 5) ∨ (k = 3 ∧ b = 0 ∧ t < 10) ∨ (k = 5 ∧ b < 16 ∧ 7 ≤ t ∧ t ≤ 11) ∨ (6 ≤ k ∧ k ≤ 11 ∧ b < 16 ∧ t < 4) ∨ (k = 12 ∧ b = 0 ∧ 3 ≤ t ∧ t ≤ 5) ∨ (13 ≤ k ∧ k ≤ 15 ∧ b = 0 ∧ t < N)
/-- state i of S' is state i2 of S -/
def c_cp (N i i2 : Nat) (S S' : zS) : Prop := (∀ k b t, c_rel N k b t → S'.1 (k, i, b) t = S.1 (k, i2, b) t) ∧ (S'.2.1 (12, i, 0) 6 = S.2.1 (12, i2, 0) 6 ∧ S'.2.1 (12, i, 0) 7 = S.2.1 (12, i2, 0) 7) ∧ S'.2.2 (1, i, 0) 4 = S.2.2 (1, i2, 0) 4
theorem cr_copy {U : Nat} {S S' : zS} {A : mS} (h : c_R i2 U S A) (hq : ∀ x, x < 16 → (m_Q A x).length ≤ 4) (e : c_cp (min (m_N A) 200) i i2 S S') : c_R i U S' A := by
  obtain ⟨⟨a1, a2, a3⟩, r2, r3, r4, ⟨r51, u, r52, r53⟩, r6, r7, r8⟩ := h
  obtain ⟨e1, ⟨e2, e3⟩, e4⟩ := e
  refine ⟨⟨fun j hj => ?_, fun j hj => ?_, e4.trans a3⟩, fun b hb j hj => ⟨?_, ?_⟩, fun b hb => ⟨?_, ?_, ?_⟩, fun b hb => ⟨?_, fun k q hk => ?_⟩, ⟨?_, u, fun b hb => ⟨?_, (r52 b hb).2⟩, r53⟩, ⟨?_, ?_⟩, fun b hb hc => ?_, ?_, ?_, ?_, e2.trans r8.2.2.2.1, e3.trans r8.2.2.2.2.1, fun k hk hk2 => ⟨?_, ?_, ?_⟩⟩
  · exact (e1 _ _ _ (by unfold c_rel; omega)).trans (a1 j hj)
  · exact (e1 _ _ _ (by unfold c_rel; omega)).trans (a2 j hj)
  · exact (e1 _ _ _ (by unfold c_rel; omega)).trans (r2 b hb j hj).1
  · exact (e1 _ _ _ (by unfold c_rel; omega)).trans (r2 b hb j hj).2
  · exact (e1 _ _ _ (by unfold c_rel; omega)).trans (r3 b hb).1
  · exact (e1 _ _ _ (by unfold c_rel; omega)).trans (r3 b hb).2.1
  · exact (e1 _ _ _ (by unfold c_rel; omega)).trans (r3 b hb).2.2
  · exact (e1 _ _ _ (by unfold c_rel; omega)).trans (r4 b hb).1
  · have hl := hq b hb
    have hk4 : k < 4 := by
      have := (List.getElem?_eq_some_iff.1 hk).1
      omega
    obtain ⟨g1, g2, g3, g4⟩ := (r4 b hb).2 k q hk
    exact ⟨(e1 _ _ _ (by unfold c_rel; omega)).trans g1, (e1 _ _ _ (by unfold c_rel; omega)).trans g2, (e1 _ _ _ (by unfold c_rel; omega)).trans g3, (e1 _ _ _ (by unfold c_rel; omega)).trans g4⟩
  · exact (e1 _ _ _ (by unfold c_rel; omega)).trans r51
  · exact (e1 _ _ _ (by unfold c_rel; omega)).trans (r52 b hb).1
  · exact (e1 _ _ _ (by unfold c_rel; omega)).trans r6.1
  · exact (e1 _ _ _ (by unfold c_rel; omega)).trans r6.2
  · rw [e1 1 0 8 (by unfold c_rel; omega)]; exact r7 b hb hc
  · exact (e1 _ _ _ (by unfold c_rel; omega)).trans r8.1
  · exact (e1 _ _ _ (by unfold c_rel; omega)).trans r8.2.1
  · exact (e1 _ _ _ (by unfold c_rel; omega)).trans r8.2.2.1
  · exact (e1 _ _ _ (by unfold c_rel; omega)).trans (r8.2.2.2.2.2 k hk hk2).1
  · exact (e1 _ _ _ (by unfold c_rel; omega)).trans (r8.2.2.2.2.2 k hk hk2).2.1
  · exact (e1 _ _ _ (by unfold c_rel; omega)).trans (r8.2.2.2.2.2 k hk hk2).2.2
end SPC
