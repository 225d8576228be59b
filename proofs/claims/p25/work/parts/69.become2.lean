section SPD
variable {o : zW} {n i i2 : Nat}
theorem fr_becB {S0 S : zS} (h : c_fr i S0 S) (m : Nat) : c_fr i S0 (c_becB S i i2 m) := by
  intro q hq
  refine ⟨?_, (h q hq).2.1, (h q hq).2.2⟩
  rw [← (h q hq).1]
  funext t
  simp only [c_becB, c_bx]
  refine if_neg (fun hc => hq ?_)
  obtain ⟨h1, h2, h3⟩ := hc
  refine ⟨?_, ?_, h1⟩ <;> omega
/-- Loads.become -/
def c_becL (S : zS) (i i2 N : Nat) : zS := (fun q t => if q.2.1 = i ∧ q.2.2 = 0 ∧ ((q.1 = 12 ∧ 3 ≤ t ∧ t ≤ 5) ∨ (13 ≤ q.1 ∧ q.1 ≤ 15 ∧ t < N)) then S.1 (q.1, i2, 0) t else S.1 q t, fun q t => if q = (12, i, 0) ∧ (t = 6 ∨ t = 7) then S.2.1 (12, i2, 0) t else S.2.1 q t, S.2.2)
theorem sp_becL (hi : i < 8) (hn : z_sb i + 120 ≤ n) (hi2 : i2 < 8) (hn2 : z_sb i2 + 120 ≤ n) (hne : i ≠ i2) {N : Nat} (hN : N ≤ 200) (S : zS) (h3 : S.1 (12, i2, 0) 3 = nI N) (K : zS → Prop) (hK : K (c_becL S i i2 N)) : zGv o n mdX1_become [.ref (z_adr o (12, i, 0)), .ref (z_adr o (12, i2, 0))] S K := by
  have hne' : ¬ i2 = i := fun e => hne e.symm
  refine w_X1_become_0 o n i hi hn i2 hi2 hn2 S _ (fun y e2 => ?_)
  have ey : (if 0 < y then y else 0) = nI N := by
    rw [h3] at e2
    have k1 : (if (200 : Int32) < nI N then (200 : Int32) else nI N) = nI N := by
      rw [if_neg]; exact fun hc => absurd (Int32.not_le.2 hc) (by rw [Classical.not_not]; exact nI_le (b := 200) hN (by decide))
    rw [k1] at e2
    subst e2
    rcases Nat.eq_zero_or_pos N with e | e
    · subst e; rfl
    · exact if_pos (nI_lt (a := 0) e (by omega))
  rw [ey, z_cl (by omega)]
  refine ⟨nI_pos (by omega), hN, fun S5 e5 => ⟨nI_pos (by omega), hN, fun S7 e7 => ⟨nI_pos (by omega), hN, fun S9 e9 S10 e10 S11 e11 => ⟨rfl, ?_⟩⟩⟩⟩
  subst e11 e10 e9 e7 e5
  refine z_to hK (fun q t => ?_) (fun q t => ?_) (fun _ _ => rfl)
  · obtain ⟨k, i', b'⟩ := q
    simp only [c_becL, sI, sL, sC, Prod.mk.injEq, hne', false_and, and_false, if_false, Nat.zero_add, Nat.sub_zero, Nat.zero_le, true_and]
    by_cases h1 : i' = i
    · subst h1
      by_cases h2 : b' = 0
      · subst h2
        by_cases h12 : k = 12
        · subst h12
          by_cases c : 3 ≤ t ∧ t ≤ 5
          · have : t = 3 ∨ t = 4 ∨ t = 5 := by omega
            rcases this with e | e | e <;> subst e <;> simp
          · have e3 : t ≠ 3 := by omega
            have e4 : t ≠ 4 := by omega
            have e5 : t ≠ 5 := by omega
            simp [c, e3, e4, e5]
        · by_cases c : 13 ≤ k ∧ k ≤ 15
          · have : k = 13 ∨ k = 14 ∨ k = 15 := by omega
            rcases this with e | e | e <;> subst e <;> simp
          · have e13 : k ≠ 13 := by omega
            have e14 : k ≠ 14 := by omega
            have e15 : k ≠ 15 := by omega
            have c2 : ¬ (13 ≤ k ∧ k ≤ 15 ∧ t < N) := by omega
            simp [h12, c2, e13, e14, e15]
      · simp [h2]
    · simp [h1]
  · obtain ⟨k, i', b'⟩ := q
    simp only [c_becL, sI, sL, sC, Prod.mk.injEq, hne', false_and, and_false, if_false]
    by_cases h1 : k = 12 ∧ i' = i ∧ b' = 0
    · by_cases e7 : t = 7
      · subst e7; simp [h1]
      · by_cases e6 : t = 6
        · subst e6; simp [h1]
        · simp [e6, e7]
    · simp [h1]
theorem fr_becL {S0 S : zS} (h : c_fr i S0 S) (N : Nat) : c_fr i S0 (c_becL S i i2 N) := by
  intro q hq
  refine ⟨?_, ?_, (h q hq).2.2⟩
  · rw [← (h q hq).1]
    funext t
    simp only [c_becL]
    refine if_neg (fun hc => hq ?_)
    obtain ⟨h1, h2, h3⟩ := hc
    refine ⟨?_, ?_, h1⟩ <;> omega
  · rw [← (h q hq).2.1]
    funext t
    simp only [c_becL]
    refine if_neg (fun hc => hq ?_)
    obtain ⟨h1, h2⟩ := hc
    subst h1
    exact ⟨by simp, by simp, rfl⟩
theorem sp_become (hi : i < 8) (hn : z_sb i + 120 ≤ n) (hi2 : i2 < 8) (hn2 : z_sb i2 + 120 ≤ n) (hne : i ≠ i2) {B : Nat} (S : zS) {A : mS} (h : c_H i2 B S A) (K : zS → Prop) (hK : ∀ S', c_H i B S' A → c_fr i S S' → K S') : zGv o n mdX2_become [.ref (z_adr o (1, i, 0)), .ref (z_adr o (1, i2, 0))] S K := by
  have hne' : ¬ i2 = i := fun e => hne e.symm
  obtain ⟨⟨U, hU, hR⟩, hal⟩ := h
  have h3 : S.1 (12, i2, 0) 3 = nI (min (m_N A) 200) := hR.2.2.2.2.2.2.2.1
  have hq : ∀ x, x < 16 → (m_Q A x).length ≤ 4 := fun x hx => (hal.1.2.2.2.1.2 x hx).1.1
  refine w_X2_become_0 o n i hi hn i2 hi2 hn2 S _ ?_
  generalize hS1 : sC (sC S (2, i2, 0) (2, i, 0) 0 0 5) (3, i2, 0) (3, i, 0) 0 0 10 = S1
  have f1 : c_fr i S S1 := by
    rw [← hS1]
    exact ((c_fr_rf i S).C (2, i2, 0) 2 0 0 0 5 (by omega)).C (3, i2, 0) 3 0 0 0 10 (by omega)
  have key := z_down 16 (fun k => zG o n mdX2_become 34 [(0, .ref (z_adr o (1, i, 0))), (1, .ref (z_adr o (1, i2, 0))), (2, .int (nI k))] [] (c_becB S1 i i2 k) (fun r S' => r = none ∧ K S')) ?_ ?_ 0 (by omega)
  · have e : c_becB S1 i i2 0 = S1 := by refine z_ext (fun q t => ?_) (fun _ _ => rfl) (fun _ _ => rfl); simp [c_becB]
    rw [e] at key
    exact key
  · refine w_X2_become_34 o n i hi hn i2 hi2 hn2 _ _ _ ⟨fun _ => ?_, fun h => absurd (by decide) h⟩
    generalize hS2 : c_becB S1 i i2 16 = S2
    have f2 : c_fr i S S2 := by rw [← hS2]; exact fr_becB f1 16
    have g3 : S2.1 (12, i2, 0) 3 = nI (min (m_N A) 200) := by
      rw [(f2 (12, i2, 0) (fun hc => hne' hc.2.2)).1]; exact h3
    refine sp_becL hi hn hi2 hn2 hne (Nat.min_le_right _ _) S2 g3 _ (fun S5 e5 S6 e6 => ⟨rfl, ?_⟩)
    subst e6 e5
    refine hK _ ⟨⟨U, hU, cr_copy (i2 := i2) hR hq ?_⟩, hal⟩ ?_
    · have k2 : ∀ q : zK, q.2.1 = i2 → S2.1 q = S.1 q ∧ S2.2.1 q = S.2.1 q ∧ S2.2.2 q = S.2.2 q := fun q e => f2 q (fun hc => hne' (e.symm.trans hc.2.2))
      refine ⟨fun k b t hr => ?_, ⟨?_, ?_⟩, ?_⟩
      · rcases hr with ⟨r1, r2, r3, r4⟩ | ⟨r1, r2, r3⟩ | ⟨r1, r2, r3⟩ | ⟨r1, r2, r3, r4⟩ | ⟨r1, r2, r3, r4⟩ | ⟨r1, r2, r3, r4⟩ | ⟨r1, r2, r3, r4⟩
        · subst r1 r2
          have e : ∀ t, S2.1 (1, i2, 0) t = S.1 (1, i2, 0) t := fun t => by rw [(k2 (1, i2, 0) rfl).1]
          have : t = 5 ∨ t = 6 ∨ t = 7 ∨ t = 8 := by omega
          rcases this with e' | e' | e' | e' <;> subst e' <;> simp [sI, sF, c_becL, hne', e]
        · subst r1 r2
          have e : S2.1 (2, i, 0) t = S.1 (2, i2, 0) t := by
            rw [← hS2, ← hS1]; simp [c_becB, sC, r3]
          simpa [sI, sF, c_becL] using e
        · subst r1 r2
          have e : S2.1 (3, i, 0) t = S.1 (3, i2, 0) t := by
            rw [← hS2, ← hS1]; simp [c_becB, sC, r3]
          simpa [sI, sF, c_becL] using e
        · subst r1
          have e : S2.1 (5, i, b) t = S.1 (5, i2, b) t := by
            rw [← hS2, ← hS1]; simp [c_becB, sC, r2, r3, r4]
          simpa [sI, sF, c_becL] using e
        · have e : S2.1 (k, i, b) t = S.1 (k, i2, b) t := by
            have c2 : k ≠ 2 := by omega
            have c3 : k ≠ 3 := by omega
            have c5 : k ≠ 5 := by omega
            rw [← hS2, ← hS1]; simp [c_becB, sC, r1, r2, r3, r4, c2, c3, c5]
          have c1 : k ≠ 1 := by omega
          have c12 : k ≠ 12 := by omega
          have c13 : ¬ (13 ≤ k ∧ k ≤ 15 ∧ t < min (m_N A) 200) := by omega
          simp only [sI, sF, c_becL, Prod.mk.injEq, c1, false_and, if_false, c12, c13, or_self, and_false]
          exact e
        · subst r1 r2
          have e : ∀ t, S2.1 (12, i2, 0) t = S.1 (12, i2, 0) t := fun t => by rw [(k2 (12, i2, 0) rfl).1]
          simp [sI, sF, c_becL, r3, r4, e]
        · subst r3
          have e : ∀ t, S2.1 (k, i2, 0) t = S.1 (k, i2, 0) t := fun t => by rw [(k2 (k, i2, 0) rfl).1]
          have c1 : k ≠ 1 := by omega
          have c12 : k ≠ 12 := by omega
          have c13 : (13 ≤ k ∧ k ≤ 15 ∧ t < min (m_N A) 200) := by omega
          simp only [sI, sF, c_becL, Prod.mk.injEq, c1, false_and, if_false, c12, c13, or_true, and_self, if_true, true_and]
          exact e t
      · have e : ∀ t, S2.2.1 (12, i2, 0) t = S.2.1 (12, i2, 0) t := fun t => by rw [(k2 (12, i2, 0) rfl).2.1]
        simp [sI, sF, c_becL, e]
      · have e : ∀ t, S2.2.1 (12, i2, 0) t = S.2.1 (12, i2, 0) t := fun t => by rw [(k2 (12, i2, 0) rfl).2.1]
        simp [sI, sF, c_becL, e]
      · have e : ∀ t, S2.2.2 (1, i2, 0) t = S.2.2 (1, i2, 0) t := fun t => by rw [(k2 (1, i2, 0) rfl).2.2]
        simp [sI, sF, c_becL, e]
    · exact (((((fr_becL f2 _).F 1 0 4 _ (by omega)).I 1 0 5 _ (by omega)).I 1 0 6 _ (by omega)).I 1 0 7 _ (by omega)).I 1 0 8 _ (by omega)
  · intro k hk ih
    refine w_X2_become_34 o n i hi hn i2 hi2 hn2 _ _ _ ⟨fun h => absurd h (z_ge (a := k) (b := 16) hk (by decide)), fun _ => ⟨z_in hk (by omega), z_in hk (by omega), ?_⟩⟩
    rw [z_cl (by omega)]
    refine sp_becB hi hn hi2 hn2 hne hk _ _ ?_
    rw [← nI_succ]
    exact ih
end SPD
