/-- COST is at most 2^27 (its bits' order is the numbers') -/
def m_cok (c : UInt32) : Prop := c.toNat ≤ 1291845632
/-- what is added to COST -/
def m_price (p : UInt32) : Prop := p = 1069547520 ∨ p = 1048576000 ∨ p = 1083703296 ∨ p = 1074266112 ∨ p = 1079194419 ∨ p = 1036831949
/-! floats: no NaN, by their bits -/
theorem fb_n32 (r : UInt32) : vf_n32 r ↔ r.toNat % 2 ^ 31 ≤ 2139095040 := by
  unfold vf_n32
  rw [UInt32.le_iff_toNat_le, UInt32.toNat_and]
  have e : r.toNat &&& (0x7fffffff : UInt32).toNat = r.toNat % 2 ^ 31 := Nat.and_two_pow_sub_one_eq_mod r.toNat 31
  rw [e]
  rfl
theorem fb_n64 (r : UInt64) : vf_n64 r ↔ r.toNat % 2 ^ 63 ≤ 9218868437227405312 := by
  unfold vf_n64
  rw [UInt64.le_iff_toNat_le, UInt64.toNat_and]
  have e : r.toNat &&& (0x7fffffffffffffff : UInt64).toNat = r.toNat % 2 ^ 63 := Nat.and_two_pow_sub_one_eq_mod r.toNat 63
  rw [e]
  rfl
theorem fl_price {p : UInt32} (hp : m_price p) : Jvm.FP.Core.FFin p ∧ 0 < Jvm.FP.Core.zval Jvm.FP.Core.b32 (Jvm.FP.Core.val32 p) ∧ Jvm.FP.Core.zval Jvm.FP.Core.b32 (Jvm.FP.Core.val32 p) ≤ 5 * 2 ^ 149 ∧ FP.fadd 1291845632 p = 1291845632 := by
  rcases hp with e | e | e | e | e | e <;> subst e <;> refine ⟨(Jvm.FP.Core.fin_bits32 _).2 (by decide), ?_, ?_, ?_⟩ <;> decide +kernel
theorem fl_add {c p : UInt32} (h : m_cok c) (hp : m_price p) : vf_n32 (FP.fadd c p) ∧ m_cok (FP.fadd c p) := by
  obtain ⟨p1, p2, p3, p4⟩ := fl_price hp
  unfold m_cok at h ⊢
  by_cases hc : c.toNat = 1291845632
  · have : c = 1291845632 := UInt32.toNat.inj hc
    subst this
    rw [p4]
    exact ⟨(fb_n32 _).2 (by decide), by decide⟩
  · have hlt : c.toNat < 1291845632 := by omega
    have hm : c.toNat % 2 ^ 31 = c.toNat := Nat.mod_eq_of_lt (by omega)
    have cf : Jvm.FP.Core.FFin c := (Jvm.FP.Core.fin_bits32 c).2 (by rw [hm]; omega)
    have cz : Jvm.FP.Core.zval Jvm.FP.Core.b32 (Jvm.FP.Core.val32 c) = (Jvm.FP.Core.unitsOf Jvm.FP.Core.b32 c.toNat : Int) := by
      unfold Jvm.FP.Core.zval
      rw [Jvm.FP.Core.sgn_bits32 cf.ne_nan, Jvm.FP.Core.zmag_toNat32 cf.ne_nan, hm]
      have : decide (2 ^ 31 ≤ c.toNat) = false := by simp; omega
      rw [this]
      rfl
    have cu : Jvm.FP.Core.unitsOf Jvm.FP.Core.b32 c.toNat ≤ Jvm.FP.Core.unitsOf Jvm.FP.Core.b32 1291845631 := Jvm.FP.Core.unitsOf_le_iff.2 (by omega)
    have u1 : Jvm.FP.Core.unitsOf Jvm.FP.Core.b32 1291845631 = (2 ^ 24 - 1) * 2 ^ 152 := by decide +kernel
    have u2 : Jvm.FP.Core.unitsOf Jvm.FP.Core.b32 1291845632 = 2 ^ 176 := by decide +kernel
    obtain ⟨s, cc, q, ec⟩ := id cf
    obtain ⟨t, d, r, ep⟩ := id p1
    have fc := Jvm.FP.Core.val32_fits c
    have fp := Jvm.FP.Core.val32_fits p
    rw [ec] at fc cz
    rw [ep] at fp p2 p3
    obtain ⟨sg, n, e, x1, x2, x3⟩ := Jvm.FP.Core.sum_units fc fp
    rw [cz] at x3
    generalize hU : Jvm.FP.Core.unitsOf Jvm.FP.Core.b32 c.toNat = U at x3 cu
    generalize hZ : Jvm.FP.Core.zval Jvm.FP.Core.b32 (.fin t d r) = Z at x3 p2 p3
    generalize hN : Jvm.FP.Core.inUnits n e Jvm.FP.Core.b32.qmin = N at x3
    have hsg : sg = false := by
      cases sg with
      | false => rfl
      | true =>
        exfalso
        have : Jvm.FP.Core.signed true N = -(N : Int) := rfl
        omega
    subst hsg
    have hN2 : (N : Int) = U + Z := x3
    have hNb : N ≤ 2 ^ 176 := by
      rw [u1] at cu
      have a1 : (2 ^ 24 - 1) * 2 ^ 152 + 5 * 2 ^ 149 ≤ 2 ^ 176 := by decide +kernel
      generalize (2 ^ 24 - 1) * 2 ^ 152 = X1 at *
      have a2 : ((5 * 2 ^ 149 : Nat) : Int) = 5 * 2 ^ 149 := by decide +kernel
      rw [← a2] at p3
      generalize 5 * 2 ^ 149 = X2 at *
      generalize 2 ^ 176 = X3 at *
      omega
    have hval : Jvm.FP.Core.val32 (FP.fadd c p) = Jvm.FP.Core.roundRatio Jvm.FP.Core.b32 false n 1 e := by
      have := Jvm.FP.Core.val32_fadd c p
      rw [ec, ep, x1] at this
      exact this
    have hle := Jvm.FP.Core.mag_le Jvm.FP.Core.good_b32 (n := (FP.fadd c p).toNat) (m := 1291845632) hval (by decide) (e0 := Jvm.FP.Core.b32.qmin) (Int.le_refl _) x2 (by rw [hN, u2]; simp only [Int.sub_self, Int.toNat_zero, Nat.pow_zero, Nat.mul_one]; exact hNb)
    rw [Jvm.FP.Core.mag_toNat32] at hle
    have hnn : Jvm.FP.Core.val32 (FP.fadd c p) ≠ .nan := by rw [hval]; exact Jvm.FP.Core.roundRatio_ne_nan _ _ _ _ _
    have hs := Jvm.FP.Core.sgn_bits32 hnn
    rw [hval, Jvm.FP.Core.sgn_roundRatio] at hs
    have hs2 : ¬ 2 ^ 31 ≤ (FP.fadd c p).toNat := by
      intro hx
      have := of_decide_eq_true (p := 2 ^ 31 ≤ (FP.fadd c p).toNat) (by simp [hx])
      rw [decide_eq_true hx] at hs
      cases hs
    refine ⟨(fb_n32 _).2 (by omega), ?_⟩
    have : (FP.fadd c p).toNat % 2 ^ 31 = (FP.fadd c p).toNat := Nat.mod_eq_of_lt (by omega)
    omega
