/-! the reference's kept rows -/
def k_len (k : Nat) : Nat := if k = 25 then 5 else if k = 26 then 64 else if k = 27 then 64 else if k = 28 then 16 else if k = 29 then 16 else if k = 30 then 16 else if k = 31 then 4 else if k = 32 then 12 else if k = 33 then 4 else if k = 34 then 16 else if k = 35 then 64 else if k = 36 then 64 else if k = 37 then 64 else if k = 38 then 64 else if k = 39 then 3 else if k = 40 then 10 else 200
def k_off (k : Nat) : Nat := if k = 25 then 0 else if k = 26 then 5 else if k = 27 then 69 else if k = 28 then 133 else if k = 29 then 149 else if k = 30 then 165 else if k = 31 then 181 else if k = 32 then 185 else if k = 33 then 197 else if k = 34 then 201 else if k = 35 then 217 else if k = 36 then 281 else if k = 37 then 345 else if k = 38 then 409 else if k = 39 then 473 else if k = 40 then 476 else if k = 41 then 486 else if k = 42 then 686 else if k = 43 then 886 else 1086
theorem k_next : ∀ k, k < 44 → 25 ≤ k → k_off (k + 1) = k_off k + k_len k := by decide +kernel
theorem k_l200 : ∀ k, k < 44 → k_len k ≤ 200 := by decide +kernel
theorem k_le : ∀ k, k < 45 → k_off k ≤ 1086 := by decide +kernel
theorem k_mono : ∀ k, k < 44 → ∀ j, j < 44 → 25 ≤ k → k < j → k_off k + k_len k ≤ k_off j := by decide +kernel
/-- the rows of kinds under j are laid at base -/
def r_lay (S S' : zS) (base j : Nat) : Prop := S'.2 = S.2 ∧ (∀ (q : zK) t, q ≠ (44, 0, 0) → ¬ (q = (23, 0, 0) ∧ t = 28) → S'.1 q t = S.1 q t) ∧ S'.1 (23, 0, 0) 28 = nI (base + k_off j) ∧ (∀ t, ¬ (base ≤ t ∧ t < base + k_off j) → S'.1 (44, 0, 0) t = S.1 (44, 0, 0) t) ∧ ∀ k t, 25 ≤ k → k < j → t < k_len k → S'.1 (44, 0, 0) (base + k_off k + t) = S.1 (k, 0, 0) t
section RPH
variable {o : zW}
theorem rs_lays {kr n : Nat} (hk : 25 ≤ kr ∧ kr ≤ 43) (hn : k_len kr = n) (har : z_aI o (kr, 0, 0) n) (S0 S : zS) {base : Nat} (hb : base + 1086 ≤ 9100) (h : r_lay S0 S base kr) (K : zS → Prop) (hK : ∀ S', r_lay S0 S' base (kr + 1) → K S') : zGv o 994 mdX5_lays [.ref (z_adr o (23, 0, 0)), .ref (z_adr o (kr, 0, 0)), .int (nI n)] S K := by
  have hkr : z_ok 994 (kr, 0, 0) := z_okG kr ⟨by omega, by omega⟩
  obtain ⟨h1, h2, h3, h4, h5⟩ := h
  have hnx := k_next kr (by omega) hk.1
  have hle := k_le (kr + 1) (by omega)
  have hoff0 : ∀ k, 25 ≤ k → k < kr → k_off k + k_len k ≤ k_off kr := fun k a b => k_mono k (by omega) kr (by omega) a b
  rw [hnx, hn] at hle
  have hnx' : k_off (kr + 1) = k_off kr + n := by rw [hnx, hn]
  generalize hc : k_off kr = c at *
  have hn200 : n ≤ 200 := by rw [← hn]; exact k_l200 kr (by omega)
  refine w_X5_lays_0 o kr n hkr har _ S _ ?_
  refine z_down n (fun i => ∀ S' : zS, (S'.2 = S0.2 ∧ (∀ (q : zK) t, q ≠ (44, 0, 0) → ¬ (q = (23, 0, 0) ∧ t = 28) → S'.1 q t = S0.1 q t) ∧ S'.1 (23, 0, 0) 28 = nI (base + c) ∧ (∀ t, ¬ (base ≤ t ∧ t < base + c + i) → S'.1 (44, 0, 0) t = S0.1 (44, 0, 0) t) ∧ (∀ k t, 25 ≤ k → k < kr → t < k_len k → S'.1 (44, 0, 0) (base + k_off k + t) = S0.1 (k, 0, 0) t) ∧ ∀ t, t < i → S'.1 (44, 0, 0) (base + c + t) = S0.1 (kr, 0, 0) t) → zG o 994 mdX5_lays 2 [(0, .ref (z_adr o (23, 0, 0))), (1, .ref (z_adr o (kr, 0, 0))), (2, .int (nI n)), (3, .int (nI i))] [] S' (fun rr S'' => rr = none ∧ K S'')) ?_ ?_ 0 (by omega) S ⟨h1, h2, h3, h4, h5, fun t ht => absurd ht (Nat.not_lt_zero t)⟩
  · intro S' ⟨g1, g2, g3, g4, g5, g6⟩
    refine w_X5_lays_2 o kr n hkr har _ _ S' _ ⟨fun _ => ⟨rfl, ?_⟩, fun hc => absurd (Int32.le_refl _) hc⟩
    rw [g3, nI_add]
    refine hK _ ⟨g1, fun q t n1 n2 => ?_, ?_, fun t ht => ?_, fun k t a b d => ?_⟩
    · simp only [sI, if_neg n2]; exact g2 q t n1 n2
    · rw [hnx']; simp [sI]; exact congrArg nI (by omega)
    · rw [hnx'] at ht
      have := g4 t (by omega)
      simpa [sI] using this
    · by_cases e : k = kr
      · subst e
        rw [hn] at d
        have := g6 t d
        rw [hc]
        simpa [sI] using this
      · have := g5 k t a (by omega) d
        simpa [sI] using this
  · intro i hi ih S' ⟨g1, g2, g3, g4, g5, g6⟩
    refine w_X5_lays_2 o kr n hkr har _ _ S' _ ⟨fun hc => absurd hc (z_ge hi (by omega)), fun _ => ?_⟩
    rw [g3, nI_add, z_cl (by omega), z_cl (by omega)]
    refine ⟨z_in hi (by omega), z_in (by omega) (by omega), fun S2 e2 => ?_⟩
    have ekr : S'.1 (kr, 0, 0) i = S0.1 (kr, 0, 0) i := g2 (kr, 0, 0) i (fun e => by have := congrArg Prod.fst e; simp only at this; omega) (fun e => by have := congrArg Prod.fst e.1; simp only at this; omega)
    rw [ekr] at e2
    rw [← nI_succ]
    subst e2
    refine ih _ ⟨g1, fun q t n1 n2 => ?_, ?_, fun t ht => ?_, fun k t a b d => ?_, fun t ht => ?_⟩
    · have n3 : ¬ (q = (44, 0, 0) ∧ t = base + c + i) := fun e => n1 e.1
      simp only [sI, if_neg n3]; exact g2 q t n1 n2
    · simpa [sI] using g3
    · have n3 : ¬ t = base + c + i := by omega
      have := g4 t (by omega)
      simpa [sI, n3] using this
    · have h0 := hoff0 k a b
      have n3 : ¬ base + k_off k + t = base + c + i := by omega
      have := g5 k t a b d
      simp only [sI]
      rw [if_neg (fun hx => n3 hx.2)]
      exact this
    · by_cases e : t = i
      · subst e; simp [sI]
      · have n3 : ¬ base + c + t = base + c + i := by omega
        have := g6 t (by omega)
        simp only [sI]
        rw [if_neg (fun hx => n3 hx.2)]
        exact this
/-- the rows of kinds under j are taken from base -/
def r_tak (S S' : zS) (base j : Nat) : Prop := S'.2 = S.2 ∧ (∀ (q : zK) t, ¬ (25 ≤ q.1 ∧ q.1 < j ∧ q.2 = (0, 0)) → ¬ (q = (23, 0, 0) ∧ t = 28) → S'.1 q t = S.1 q t) ∧ S'.1 (23, 0, 0) 28 = nI (base + k_off j) ∧ ∀ k t, 25 ≤ k → k < j → t < k_len k → S'.1 (k, 0, 0) t = S.1 (44, 0, 0) (base + k_off k + t)
theorem rs_takes {kr n : Nat} (hk : 25 ≤ kr ∧ kr ≤ 43) (hn : k_len kr = n) (har : z_aI o (kr, 0, 0) n) (S0 S : zS) {base : Nat} (hb : base + 1086 ≤ 9100) (h : r_tak S0 S base kr) (K : zS → Prop) (hK : ∀ S', r_tak S0 S' base (kr + 1) → K S') : zGv o 994 mdX5_takes [.ref (z_adr o (23, 0, 0)), .ref (z_adr o (kr, 0, 0)), .int (nI n)] S K := by
  have hkr : z_ok 994 (kr, 0, 0) := z_okG kr ⟨by omega, by omega⟩
  obtain ⟨h1, h2, h3, h5⟩ := h
  have hnx := k_next kr (by omega) hk.1
  have hle := k_le (kr + 1) (by omega)
  rw [hnx, hn] at hle
  have hnx' : k_off (kr + 1) = k_off kr + n := by rw [hnx, hn]
  generalize hc : k_off kr = c at *
  have hn200 : n ≤ 200 := by rw [← hn]; exact k_l200 kr (by omega)
  refine w_X5_takes_0 o kr n hkr har _ S _ ?_
  refine z_down n (fun i => ∀ S' : zS, (S'.2 = S0.2 ∧ (∀ (q : zK) t, ¬ (25 ≤ q.1 ∧ q.1 < kr + 1 ∧ q.2 = (0, 0)) → ¬ (q = (23, 0, 0) ∧ t = 28) → S'.1 q t = S0.1 q t) ∧ S'.1 (23, 0, 0) 28 = nI (base + c) ∧ (∀ k t, 25 ≤ k → k < kr → t < k_len k → S'.1 (k, 0, 0) t = S0.1 (44, 0, 0) (base + k_off k + t)) ∧ ∀ t, t < i → S'.1 (kr, 0, 0) t = S0.1 (44, 0, 0) (base + c + t)) → zG o 994 mdX5_takes 2 [(0, .ref (z_adr o (23, 0, 0))), (1, .ref (z_adr o (kr, 0, 0))), (2, .int (nI n)), (3, .int (nI i))] [] S' (fun rr S'' => rr = none ∧ K S'')) ?_ ?_ 0 (by omega) S ⟨h1, fun q t n1 n2 => h2 q t (fun hx => n1 ⟨hx.1, by omega, hx.2.2⟩) n2, h3, h5, fun t ht => absurd ht (Nat.not_lt_zero t)⟩
  · intro S' ⟨g1, g2, g3, g5, g6⟩
    refine w_X5_takes_2 o kr n hkr har _ _ S' _ ⟨fun _ => ⟨rfl, ?_⟩, fun hc => absurd (Int32.le_refl _) hc⟩
    rw [g3, nI_add]
    refine hK _ ⟨g1, fun q t n1 n2 => ?_, ?_, fun k t a b d => ?_⟩
    · simp only [sI, if_neg n2]; exact g2 q t n1 n2
    · rw [hnx']; simp [sI]; exact congrArg nI (by omega)
    · have n23 : ¬ k = 23 := by omega
      by_cases e : k = kr
      · subst e
        rw [hn] at d
        have := g6 t d
        rw [hc]
        simpa [sI, n23] using this
      · have := g5 k t a (by omega) d
        simpa [sI, n23] using this
  · intro i hi ih S' ⟨g1, g2, g3, g5, g6⟩
    refine w_X5_takes_2 o kr n hkr har _ _ S' _ ⟨fun hc => absurd hc (z_ge hi (by omega)), fun _ => ?_⟩
    rw [g3, nI_add, z_cl (by omega), z_cl (by omega)]
    refine ⟨z_in (by omega) (by omega), z_in hi (by omega), fun S2 e2 => ?_⟩
    have e44 : S'.1 (44, 0, 0) (base + c + i) = S0.1 (44, 0, 0) (base + c + i) := g2 (44, 0, 0) _ (fun e => by simp only at e; omega) (fun e => by have := congrArg Prod.fst e.1; simp only at this; omega)
    rw [e44] at e2
    rw [← nI_succ]
    subst e2
    refine ih _ ⟨g1, fun q t n1 n2 => ?_, ?_, fun k t a b d => ?_, fun t ht => ?_⟩
    · have n3 : ¬ (q = (kr, 0, 0) ∧ t = i) := fun e => n1 (by rw [e.1]; exact ⟨by simp only; omega, by simp only; omega, rfl⟩)
      simp only [sI, if_neg n3]; exact g2 q t n1 n2
    · have n3 : ¬ (23 = kr) := by omega
      simpa [sI, n3] using g3
    · have n3 : ¬ k = kr := by omega
      have := g5 k t a b d
      simpa [sI, n3] using this
    · by_cases e : t = i
      · subst e; simp [sI]
      · have := g6 t (by omega)
        simpa [sI, e] using this
end RPH
