/-! the greatest wait is no less than the mean -/
theorem mn_a : ∀ g, g < 21 → ∀ s, s < 20 * g + 1 → (FP.fdiv (FP.l2f (Int64.ofNat s)) (FP.i2f (nI g))).toNat ≤ (FP.i2f (nI ((s + g - 1) / g))).toNat ∨ g = 0 := by decide +kernel
theorem mn_b : ∀ g, g < 12 → ∀ s, s < 20 * (g + 21) + 1 → (FP.fdiv (FP.l2f (Int64.ofNat s)) (FP.i2f (nI (g + 21)))).toNat ≤ (FP.i2f (nI ((s + (g + 21) - 1) / (g + 21)))).toNat := by decide +kernel
theorem mn_c : ∀ g, g < 10 → ∀ s, s < 20 * (g + 33) + 1 → (FP.fdiv (FP.l2f (Int64.ofNat s)) (FP.i2f (nI (g + 33)))).toNat ≤ (FP.i2f (nI ((s + (g + 33) - 1) / (g + 33)))).toNat := by decide +kernel
theorem mn_d : ∀ g, g < 8 → ∀ s, s < 20 * (g + 43) + 1 → (FP.fdiv (FP.l2f (Int64.ofNat s)) (FP.i2f (nI (g + 43)))).toNat ≤ (FP.i2f (nI ((s + (g + 43) - 1) / (g + 43)))).toNat := by decide +kernel
theorem mn_i : ∀ m, m < 21 → (FP.i2f (nI m)).toNat < 2 ^ 31 ∧ ∀ q, q < m + 1 → (FP.i2f (nI q)).toNat ≤ (FP.i2f (nI m)).toNat := by decide +kernel
theorem mean_le {g m s : Nat} (h1 : 1 ≤ g) (hg : g < 51) (hm : m ≤ 20) (hs : s ≤ m * g) : (FP.fdiv (FP.l2f (Int64.ofNat s)) (FP.i2f (nI g))).toNat ≤ (FP.i2f (nI m)).toNat := by
  have hs20 : s < 20 * g + 1 := by
    have : m * g ≤ 20 * g := Nat.mul_le_mul_right _ hm
    omega
  have hq : (s + g - 1) / g < m + 1 := by
    rw [Nat.div_lt_iff_lt_mul (by omega), Nat.add_mul, Nat.one_mul]
    omega
  refine Nat.le_trans ?_ ((mn_i m (by omega)).2 _ hq)
  rcases Nat.lt_or_ge g 21 with a | a
  · rcases mn_a g a s hs20 with h | h
    · exact h
    · omega
  · rcases Nat.lt_or_ge g 33 with b | b
    · have := mn_b (g - 21) (by omega) s (by rw [show g - 21 + 21 = g by omega]; exact hs20)
      rw [show g - 21 + 21 = g by omega] at this; exact this
    · rcases Nat.lt_or_ge g 43 with c | c
      · have := mn_c (g - 33) (by omega) s (by rw [show g - 33 + 33 = g by omega]; exact hs20)
        rw [show g - 33 + 33 = g by omega] at this; exact this
      · have := mn_d (g - 43) (by omega) s (by rw [show g - 43 + 43 = g by omega]; exact hs20)
        rw [show g - 43 + 43 = g by omega] at this; exact this
theorem u_i32 (x : UInt32) : x.toInt32 = nI x.toNat := by
  apply Int32.toBitVec_inj.mp
  show x.toBitVec = BitVec.ofNat 32 x.toNat
  apply BitVec.eq_of_toNat_eq
  rw [BitVec.toNat_ofNat, Nat.mod_eq_of_lt x.toNat_lt]
  rfl
theorem u_le {x y : UInt32} (h : x.toNat ≤ y.toNat) (hy : y.toNat < 2 ^ 31) : ¬ y.toInt32 < x.toInt32 := by
  rw [u_i32, u_i32]
  exact nI_nlt h hy
