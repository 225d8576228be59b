section RPG
variable {o : zW}
theorem rs_done (q : mR) (hq : m_rok q) (x1 x2 x3 x4 : Int32) (hx : r_call q x1 x2 x3 x4) (S0 S : zS) {A : mS} {B : Nat} (h : r_R S A) (hf : r_fr S0 S) (ham : m_am B 0 A) (hB : B + 1000 < 2 ^ 30) (K : Int32 → zS → Prop) (hK : ∀ S', r_R S' (m_beg 1000 A q) → r_fr S0 S' → K ((m_beg 1000 A q).1 40 9) S') : zGi o 994 mdX5_done [.ref (z_adr o (23, 0, 0)), .int x1, .int x2, .int x3, .int x4] S K :=
  rs_doneF q hq x1 x2 x3 x4 hx S0 S (f := 999) (by decide) h hf ham hB K hK
/-- the reference made anew -/
theorem rs_begins0 (S0 S : zS) {A : mS} (h : r_R S A) (hf : r_fr S0 S) (K : zS → Prop) (hK : ∀ S', r_R S' (m_new A) → r_fr S0 S' → K S') : zGv o 994 mdX5_begins [.ref (z_adr o (23, 0, 0))] S K := by
  -- frames: all but the kinds of l is as in S
  let fr : List Nat → zS → Prop := fun l S' => S'.2 = S.2 ∧ (∀ k, k ∉ l → S'.1 (k, 0, 0) = S.1 (k, 0, 0)) ∧ r_fr S0 S'
  have frI : ∀ l S' k s v, fr l S' → k ∈ l → 25 ≤ k ∧ k ≤ 43 → fr l (sI S' (k, 0, 0) s v) := by
    intro l S' k s v ⟨h1, h2, h3⟩ hk hk2
    refine ⟨h1, fun k' hk' => ?_, h3.I k s v hk2⟩
    have hne : ¬ k' = k := fun e => hk' (e ▸ hk)
    rw [← h2 k' hk']
    funext t
    simp [sI, hne]
  have fr_l : ∀ l l' S', fr l S' → (∀ k, k ∈ l → k ∈ l') → fr l' S' := fun l l' S' ⟨h1, h2, h3⟩ hl => ⟨h1, fun k hk => h2 k (fun hc => hk (hl k hc)), h3⟩
  let P1 : Nat → zS → Prop := fun k S' => fr [26] S' ∧ ∀ t, t < k → S'.1 (26, 0, 0) t = nI (5 * (t / 4) + t % 4)
  let P2 : Nat → zS → Prop := fun k S' => fr [26, 28, 29, 34] S' ∧ (∀ t, t < 64 → S'.1 (26, 0, 0) t = nI (5 * (t / 4) + t % 4)) ∧ ∀ t, t < k → S'.1 (28, 0, 0) t = 0 ∧ S'.1 (29, 0, 0) t = 0 ∧ S'.1 (34, 0, 0) t = 0
  let P3 : Nat → zS → Prop := fun k S' => fr [26, 28, 29, 34, 31] S' ∧ (∀ t, t < 64 → S'.1 (26, 0, 0) t = nI (5 * (t / 4) + t % 4)) ∧ (∀ t, t < 16 → S'.1 (28, 0, 0) t = 0 ∧ S'.1 (29, 0, 0) t = 0 ∧ S'.1 (34, 0, 0) t = 0) ∧ ∀ t, t < k → S'.1 (31, 0, 0) t = 0
  let P4 : Nat → zS → Prop := fun k S' => fr [26, 28, 29, 34, 31, 40] S' ∧ (∀ t, t < 64 → S'.1 (26, 0, 0) t = nI (5 * (t / 4) + t % 4)) ∧ (∀ t, t < 16 → S'.1 (28, 0, 0) t = 0 ∧ S'.1 (29, 0, 0) t = 0 ∧ S'.1 (34, 0, 0) t = 0) ∧ (∀ t, t < 4 → S'.1 (31, 0, 0) t = 0) ∧ ∀ t, t < k → S'.1 (40, 0, 0) t = 0
  have l4 : ∀ S', P4 0 S' → zG o 994 mdX5_begins 86 [(0, .ref (z_adr o (23, 0, 0))), (1, .int 0)] [] S' (fun rr S'' => rr = none ∧ K S'') := by
    refine z_down 10 (fun k => ∀ S', P4 k S' → zG o 994 mdX5_begins 86 [(0, .ref (z_adr o (23, 0, 0))), (1, .int (nI k))] [] S' (fun rr S'' => rr = none ∧ K S'')) ?_ ?_ 0 (by omega)
    · intro S' ⟨⟨s2, s1, sf⟩, p26, p28, p31, p40⟩
      refine w_X5_begins_86 o _ S' _ ⟨fun _ S2 e2 => ⟨rfl, ?_⟩, fun hc => absurd (by decide) hc⟩
      subst e2
      refine hK _ ⟨fun k t ht => ?_, fun r hr => ⟨?_, fun k b hk => by simp [m_new, m_R] at hk⟩, ⟨?_, fun k b hk => by simp [m_new, m_F] at hk⟩, fun b hb => ⟨?_, fun k q hk => by simp [m_new, m_Q] at hk⟩, ?_, ?_, ?_⟩ ?_
      · simp only [sI, sF, sL, Prod.mk.injEq, and_true]
        unfold r_dir at ht
        rcases ht with ⟨e, ht⟩ | ⟨e, ht⟩ | ⟨e, ht⟩ | ⟨e, ht⟩ | ⟨e, ht⟩ | ⟨e, ht⟩
        · subst e
          have := h.1 25 t (by unfold r_dir; omega)
          rw [← s1 25 (by simp)] at this
          simpa [m_new] using this
        · rcases e with e | e
          · subst e; simpa [m_new] using p26 t ht
          · subst e
            have := h.1 27 t (by unfold r_dir; omega)
            rw [← s1 27 (by simp)] at this
            simpa [m_new] using this
        · rcases e with e | e | e
          · subst e; simpa [m_new] using (p28 t ht).1
          · subst e; simpa [m_new] using (p28 t ht).2.1
          · subst e
            have := h.1 30 t (by unfold r_dir; omega)
            rw [← s1 30 (by simp)] at this
            simpa [m_new] using this
        · subst e
          rcases ht with ht | ht <;> subst ht <;> simp [m_new]
        · subst e; simpa [m_new] using p40 t ht
        · rcases e with e | e | e
          · subst e
            have := h.1 41 t (by unfold r_dir; omega)
            rw [← s1 41 (by simp)] at this
            simpa [m_new] using this
          · subst e
            have := h.1 42 t (by unfold r_dir; omega)
            rw [← s1 42 (by simp)] at this
            simpa [m_new] using this
          · subst e
            have := h.1 43 t (by unfold r_dir; omega)
            rw [← s1 43 (by simp)] at this
            simpa [m_new] using this
      · have := p31 r hr
        have e0 : nI (m_R (m_new A) r).length = 0 := rfl
        rw [e0]
        simpa [sI, sF, sL] using this
      · simp [sI, sF, sL, m_new, m_F]; rfl
      · have := (p28 b hb).2.2
        have e0 : nI (m_Q (m_new A) b).length = 0 := rfl
        rw [e0]
        simpa [sI, sF, sL] using this
      · simp [sI, sF, sL, m_new, m_C]; rfl
      · simp [sI, sF, sL, m_new, m_W]
      · simp [sI, sF, sL, m_new, m_X]
      · exact (((((sf.I 39 _ _ (by omega)).I 39 _ _ (by omega)).I 39 _ _ (by omega)).F _).L 21 _ (by omega)).L 22 _ (by omega)
    · intro k hk ih S' ⟨p0, p26, p28, p31, p40⟩
      refine w_X5_begins_86 o _ S' _ ⟨fun hc => absurd hc (z_ge (a := k) (b := 10) hk (by decide)), fun _ => ⟨z_in hk (by omega), ?_⟩⟩
      rw [z_cl (by omega), ← nI_succ]
      refine ih _ ⟨frI _ _ 40 _ _ p0 (by simp) (by omega), fun t ht => ?_, fun t ht => ?_, fun t ht => ?_, fun t ht => ?_⟩
      · simpa [sI] using p26 t ht
      · simpa [sI] using p28 t ht
      · simpa [sI] using p31 t ht
      · by_cases e : t = k
        · subst e; simp [sI]
        · simpa [sI, e] using p40 t (by omega)
  have l3 : ∀ S', P3 0 S' → zG o 994 mdX5_begins 66 [(0, .ref (z_adr o (23, 0, 0))), (1, .int 0)] [] S' (fun rr S'' => rr = none ∧ K S'') := by
    refine z_down 4 (fun k => ∀ S', P3 k S' → zG o 994 mdX5_begins 66 [(0, .ref (z_adr o (23, 0, 0))), (1, .int (nI k))] [] S' (fun rr S'' => rr = none ∧ K S'')) ?_ ?_ 0 (by omega)
    · intro S' ⟨p0, p26, p28, p31⟩
      refine w_X5_begins_66 o _ S' _ ⟨fun _ => l4 S' ⟨fr_l _ _ _ p0 (by simp), p26, p28, p31, fun t ht => absurd ht (Nat.not_lt_zero t)⟩, fun hc => absurd (by decide) hc⟩
    · intro k hk ih S' ⟨p0, p26, p28, p31⟩
      refine w_X5_begins_66 o _ S' _ ⟨fun hc => absurd hc (z_ge (a := k) (b := 4) hk (by decide)), fun _ => ⟨z_in hk (by omega), ?_⟩⟩
      rw [z_cl (by omega), ← nI_succ]
      refine ih _ ⟨frI _ _ 31 _ _ p0 (by simp) (by omega), fun t ht => ?_, fun t ht => ?_, fun t ht => ?_⟩
      · simpa [sI] using p26 t ht
      · simpa [sI] using p28 t ht
      · by_cases e : t = k
        · subst e; simp [sI]
        · simpa [sI, e] using p31 t (by omega)
  have l2 : ∀ S', P2 0 S' → zG o 994 mdX5_begins 31 [(0, .ref (z_adr o (23, 0, 0))), (1, .int 0)] [] S' (fun rr S'' => rr = none ∧ K S'') := by
    refine z_down 16 (fun k => ∀ S', P2 k S' → zG o 994 mdX5_begins 31 [(0, .ref (z_adr o (23, 0, 0))), (1, .int (nI k))] [] S' (fun rr S'' => rr = none ∧ K S'')) ?_ ?_ 0 (by omega)
    · intro S' ⟨p0, p26, p28⟩
      refine w_X5_begins_31 o _ S' _ ⟨fun _ => l3 S' ⟨fr_l _ _ _ p0 (by simp), p26, p28, fun t ht => absurd ht (Nat.not_lt_zero t)⟩, fun hc => absurd (by decide) hc⟩
    · intro k hk ih S' ⟨p0, p26, p28⟩
      refine w_X5_begins_31 o _ S' _ ⟨fun hc => absurd hc (z_ge (a := k) (b := 16) hk (by decide)), fun _ => ⟨z_in hk (by omega), z_in hk (by omega), fun S2 e2 => ⟨z_in hk (by omega), ?_⟩⟩⟩
      rw [z_cl (by omega)] at e2 ⊢
      rw [← nI_succ]
      subst e2
      refine ih _ ⟨frI _ _ 34 _ _ (frI _ _ 28 _ _ (frI _ _ 29 _ _ p0 (by simp) (by omega)) (by simp) (by omega)) (by simp) (by omega), fun t ht => ?_, fun t ht => ?_⟩
      · simpa [sI] using p26 t ht
      · by_cases e : t = k
        · subst e; simp [sI]
        · simpa [sI, e] using p28 t (by omega)
  refine w_X5_begins_0 o S _ ?_
  refine z_down 64 (fun k => ∀ S', P1 k S' → zG o 994 mdX5_begins 2 [(0, .ref (z_adr o (23, 0, 0))), (1, .int (nI k))] [] S' (fun rr S'' => rr = none ∧ K S'')) ?_ ?_ 0 (by omega) S ⟨⟨rfl, fun _ _ => rfl, hf⟩, fun t ht => absurd ht (Nat.not_lt_zero t)⟩
  · intro S' ⟨p0, p26⟩
    refine w_X5_begins_2 o _ S' _ ⟨fun _ => l2 S' ⟨fr_l _ _ _ p0 (by simp), p26, fun t ht => absurd ht (Nat.not_lt_zero t)⟩, fun hc => absurd (by decide) hc⟩
  · intro k hk ih S' ⟨p0, p26⟩
    refine w_X5_begins_2 o _ S' _ ⟨fun hc => absurd hc (z_ge (a := k) (b := 64) hk (by decide)), fun _ => ⟨z_in hk (by omega), fun S2 e2 => ?_⟩⟩
    have ev : (5 : Int32) * (nI k / 4) + (nI k - nI k / 4 * 4) = nI (5 * (k / 4) + k % 4) := by
      have e1 : nI k / 4 = nI (k / 4) := pk_div (a := k) (d := 4) (by omega) (by omega) (by omega)
      have e2 : nI k - nI k / 4 * 4 = nI (k % 4) := pk_rem (a := k) (d := 4) (by omega) (by omega) (by omega)
      rw [e2, e1, show (5 : Int32) = nI 5 from rfl, pk_mul, nI_add]
    rw [z_cl (by omega), ev] at e2
    rw [← nI_succ]
    subst e2
    refine ih _ ⟨frI _ _ 26 _ _ p0 (by simp) (by omega), fun t ht => ?_⟩
    by_cases e : t = k
    · subst e; simp [sI]
    · simpa [sI, e] using p26 t (by omega)
end RPG
