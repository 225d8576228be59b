/-! State.renew, State.become -/
section SPN
variable {o : zW} {n i : Nat}
/-- a State's memory made anew: k counts, m boxes, the rest -/
def c_ren (S : zS) (i k m : Nat) : zS := (fun q t => if q = (3, i, 0) ∧ t < k then 0 else if q.2.1 = i ∧ q.2.2 < m ∧ q.1 = 6 ∧ t < 4 then nI (5 * q.2.2 + t) else if q.2.1 = i ∧ q.2.2 < m ∧ q.1 = 5 ∧ 7 ≤ t ∧ t ≤ 11 then (if t = 10 then 2000000000 else 0) else S.1 q t, S.2)
theorem ren_count (S : zS) (i k : Nat) : sI (c_ren S i k 0) (3, i, 0) k 0 = c_ren S i (k + 1) 0 := by
  refine z_ext (fun q t => ?_) (fun _ _ => rfl) (fun _ _ => rfl)
  simp only [sI, c_ren]
  by_cases hq : q = (3, i, 0)
  · subst hq
    by_cases ht : t = k
    · subst ht; simp
    · have : t < k + 1 ↔ t < k := by omega
      simp [this, ht]
  · simp [hq]
theorem ren_box (S : zS) (i b : Nat) : c_renewB (c_ren S i 10 b) i b = c_ren S i 10 (b + 1) := by
  refine z_ext (fun q t => ?_) (fun _ _ => rfl) (fun _ _ => rfl)
  obtain ⟨k, i', b'⟩ := q
  simp only [c_renewB, sI, c_ren, Prod.mk.injEq]
  by_cases hi : i' = i
  · subst hi
    by_cases hb : b' = b
    · subst hb
      by_cases h5 : k = 5
      · subst h5
        have hlt : b' < b' + 1 := by omega
        by_cases e11 : t = 11
        · subst e11; simp
        · by_cases e10 : t = 10
          · subst e10; simp
          · by_cases e9 : t = 9
            · subst e9; simp
            · by_cases e8 : t = 8
              · subst e8; simp
              · by_cases e7 : t = 7
                · subst e7; simp
                · have : ¬ (7 ≤ t ∧ t ≤ 11) := by omega
                  simp [e11, e10, e9, e8, e7, this]
      · by_cases h6 : k = 6
        · subst h6
          by_cases ht : t < 4
          · simp [ht]
          · simp [ht]
        · simp [h5, h6]
    · have : b' < b + 1 ↔ b' < b := by omega
      simp [hb, this]
  · simp [hi]
/-- all made anew -/
def c_renew (S : zS) (i : Nat) : zS := sI (sI (sI (sI (sF (c_renewL (c_ren S i 10 16) i) (1, i, 0) 4 FP.fconst0) (1, i, 0) 5 0) (1, i, 0) 6 0) (1, i, 0) 7 0) (1, i, 0) 8 2000000000
theorem sp_renew (hi : i < 8) (hn : z_sb i + 120 ≤ n) (S : zS) (K : zS → Prop) (hK : K (c_renew S i)) : zGv o n mdX2_renew [.ref (z_adr o (1, i, 0))] S K := by
  refine w_X2_renew_0 o n i hi hn S _ ?_
  have key2 := z_down 16 (fun k => zG o n mdX2_renew 31 [(0, .ref (z_adr o (1, i, 0))), (1, .ref (z_adr o (4, i, 0))), (2, .int 16), (3, .int (nI k))] [] (c_ren S i 10 k) (fun r S' => r = none ∧ K S')) ?_ ?_ 0 (by omega)
  · have key := z_down 10 (fun k => zG o n mdX2_renew 2 [(0, .ref (z_adr o (1, i, 0))), (1, .int (nI k))] [] (c_ren S i k 0) (fun r S' => r = none ∧ K S')) ?_ ?_ 0 (by omega)
    · have e : c_ren S i 0 0 = S := by refine z_ext (fun q t => ?_) (fun _ _ => rfl) (fun _ _ => rfl); simp [c_ren]
      rw [e] at key
      exact key
    · exact w_X2_renew_2 o n i hi hn _ _ _ ⟨fun _ => key2, fun h => absurd (by decide) h⟩
    · intro k hk ih
      refine w_X2_renew_2 o n i hi hn _ _ _ ⟨fun h => absurd h (z_ge (a := k) (b := 10) hk (by decide)), fun _ => ⟨z_in hk (by omega), ?_⟩⟩
      rw [z_cl (by omega), ren_count, ← nI_succ]
      exact ih
  · refine w_X2_renew_31 o n i hi hn _ _ _ _ ⟨fun _ => ?_, fun h => absurd (by decide) h⟩
    exact sp_renewL hi hn _ _ (fun S5 e5 => ⟨rfl, by subst e5; exact hK⟩)
  · intro k hk ih
    refine w_X2_renew_31 o n i hi hn _ _ _ _ ⟨fun h => absurd h (z_ge (a := k) (b := 16) hk (by decide)), fun _ => ⟨z_in hk (by omega), ?_⟩⟩
    rw [z_cl (by omega)]
    refine sp_renewB hi hn hk _ _ ?_
    rw [ren_box, ← nI_succ]
    exact ih
theorem cr_renew (hi : i < 8) (S : zS) {A : mS} (h2 : ∀ j, j < 5 → S.1 (2, i, 0) j = A.1 25 j) (h7 : ∀ b, b < 16 → ∀ j, j < 4 → S.1 (7, i, b) j = A.1 27 (4 * b + j)) : c_R i 0 (c_renew S i) (m_new A) := by
  refine ⟨⟨fun j hj => ?_, fun j hj => ?_, ?_⟩, fun b hb j hj => ⟨?_, ?_⟩, fun b hb => ⟨?_, ?_, ?_⟩, fun b hb => ⟨?_, fun k q hq => ?_⟩, ⟨?_, fun _ => 0, fun b hb => ⟨?_, Nat.le_refl _⟩, fun r hr => ?_⟩, ⟨?_, ?_⟩, fun b hb hc => ?_, ?_⟩
  · simpa [c_renew, c_renewL, c_ren, sI, sL, sF, m_new] using h2 j hj
  · simp [c_renew, c_renewL, c_ren, sI, sL, sF, m_new, hj]
  · simp [c_renew, c_renewL, c_ren, sI, sL, sF, m_new, m_C]; rfl
  · have hm : 4 * b + j < 64 := by omega
    have h1 : (4 * b + j) / 4 = b := m_d4 hj
    have h2 : (4 * b + j) % 4 = j := m_m4 hj
    simp [c_renew, c_renewL, c_ren, sI, sL, sF, m_new, hb, hj, hm, h1, h2]
  · simpa [c_renew, c_renewL, c_ren, sI, sL, sF, m_new] using h7 b hb j hj
  · simp [c_renew, c_renewL, c_ren, sI, sL, sF, m_new, hb]
  · simp [c_renew, c_renewL, c_ren, sI, sL, sF, m_new, hb]
  · simp [c_renew, c_renewL, c_ren, sI, sL, sF, m_new, hb]
  · simp [c_renew, c_renewL, c_ren, sI, sL, sF, m_new, hb, m_Q]; rfl
  · simp [m_new, m_Q] at hq
  · simp [c_renew, c_renewL, c_ren, sI, sL, sF, m_new]; rfl
  · simp [c_renew, c_renewL, c_ren, sI, sL, sF, m_new, hb]; rfl
  · simp [m_new, m_R]
  · simp [c_renew, c_renewL, c_ren, sI, sL, sF, m_new, m_F]; rfl
  · simp [c_renew, c_renewL, c_ren, sI, sL, sF, m_new]
  · exfalso
    have : (m_new A).1 29 b = 0 := by simp [m_new, hb]
    rw [this] at hc; rcases hc with q | q <;> exact absurd q (by decide)
  · have hN : m_N (m_new A) = 0 := by simp [m_N, m_new]
    refine ⟨?_, ?_, ?_, ?_, ?_, fun k hk => ?_⟩
    · rw [hN]; simp [c_renew, c_renewL, c_ren, sI, sL, sF]; rfl
    · simp [c_renew, c_renewL, c_ren, sI, sL, sF, m_new]
    · simp [c_renew, c_renewL, c_ren, sI, sL, sF, m_new]
    · simp [c_renew, c_renewL, c_ren, sI, sL, sF, m_new, m_W]
    · simp [c_renew, c_renewL, c_ren, sI, sL, sF, m_new, m_X]
    · rw [hN] at hk; omega
theorem fr_renew {S0 S : zS} (h : c_fr i S0 S) : c_fr i S0 (c_renew S i) := by
  refine (((((c_fr.F ?_ 1 0 4 _ (by omega)).I 1 0 5 _ (by omega)).I 1 0 6 _ (by omega)).I 1 0 7 _ (by omega)).I 1 0 8 _ (by omega))
  unfold c_renewL
  refine (((((c_fr.I ?_ 12 0 3 _ (by omega)).I 12 0 4 _ (by omega)).I 12 0 5 _ (by omega)).L 12 0 6 _ (by omega)).L 12 0 7 _ (by omega))
  intro q hq
  obtain ⟨k, i', b'⟩ := q
  refine ⟨?_, (h _ hq).2.1, (h _ hq).2.2⟩
  rw [← (h _ hq).1]
  funext t
  simp only [c_ren, Prod.mk.injEq]
  by_cases hi : i' = i
  · subst hi
    have : k ≠ 3 ∧ k ≠ 5 ∧ k ≠ 6 := by
      refine ⟨fun e => hq ?_, fun e => hq ?_, fun e => hq ?_⟩ <;> (subst e; exact ⟨by simp, by simp, rfl⟩)
    simp [this.1, this.2.1, this.2.2]
  · simp [hi]
/-- all as at first, whatever was -/
theorem inv_new {A : mS} (h : m_lim A) : m_inv 16 (m_new A) := by
  have e25 : (m_new A).1 25 = A.1 25 := by funext t; simp [m_new]
  have e29 : ∀ x, x < 16 → (m_new A).1 29 x = 0 := by intro x hx; simp [m_new, hx]
  have e28 : ∀ x, x < 16 → (m_new A).1 28 x = 0 := by intro x hx; simp [m_new, hx]
  have hl : m_lim (m_new A) := by simpa [m_lim, e25] using h
  refine ⟨hl, fun r hr => ⟨List.nodup_nil, fun b => ?_⟩, ⟨List.nodup_nil, fun x => ?_, Nat.zero_le _⟩, ⟨fun x hx _ _ => rfl, fun x hx => ⟨⟨Nat.zero_le _, fun q hq => by cases hq⟩, Nat.zero_le _⟩⟩, fun x hx => ⟨Or.inl (e29 x hx), fun _ _ => e28 x hx⟩, ?_, ?_⟩
  · constructor
    · intro hm; cases hm
    · intro ⟨h1, h2, h3⟩; rw [e29 b h1] at h3; exact absurd h3 (by decide)
  · constructor
    · intro hm; cases hm
    · intro ⟨h1, h2, h3⟩; rw [e29 x h1] at h3; exact absurd h3 (by decide)
  · have : m_cs 16 (m_new A) = 0 := by
      unfold m_cs
      rw [List.countP_eq_zero]
      intro x hx
      rw [e29 x (List.mem_range.1 hx)]
      simp
    rw [this]; simp [m_new]; rfl
  · show m_cok 0
    unfold m_cok; decide
theorem al_new {A : mS} (h : m_lim A) : m_al 0 0 (m_new A) := by
  have e29 : ∀ x, x < 16 → (m_new A).1 29 x = 0 := by intro x hx; simp [m_new, hx]
  have eT : m_T (m_new A) = 0 := by simp [m_T, m_new]
  have eN : m_N (m_new A) = 0 := by simp [m_N, m_new]
  refine ⟨inv_new h, fun x hx hc => ?_, ⟨?_, by omega⟩, ⟨?_, by omega⟩, ⟨0, ?_, by omega⟩, ⟨List.Pairwise.nil, fun x hx => by cases hx⟩⟩
  · rw [e29 x hx] at hc; rcases hc with q | q <;> exact absurd q (by decide)
  · rw [eT]; simp [m_new]; rfl
  · rw [eN]; simp [m_new]; rfl
  · simp [m_new]; rfl
end SPN
