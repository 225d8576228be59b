/-! the class's doubleBits -/
theorem db_parts (x : UInt64) (hx : x.toNat % 2 ^ 63 < 9218868437227405312) : ∃ s c q, Jvm.FP.Core.val64 x = .fin s c q ∧ c < 2 ^ 53 ∧ -1074 ≤ q ∧ q ≤ 971 ∧ (q = -1074 ∨ 2 ^ 52 ≤ c) ∧ x.toNat = (if s then 2 ^ 63 else 0) + (if c < 2 ^ 52 then c else (q + 1075).toNat * 2 ^ 52 + (c - 2 ^ 52)) := by
  have hf := (Jvm.FP.Core.fin_bits x).2 hx
  obtain ⟨s, c, q, e⟩ := id hf
  have hfit := Jvm.FP.Core.val64_fits x
  have h1 := Jvm.FP.Core.toNat_of64 (Jvm.FP.Core.val64_fits x)
  rw [Jvm.FP.Core.of64_val64 hf.ne_nan, e] at h1
  rw [e] at hfit
  obtain ⟨f1, f2, f3, f4⟩ := hfit
  have e1 : Jvm.FP.Core.b64.p = 53 := rfl
  have e2 : Jvm.FP.Core.b64.qmin = -1074 := Jvm.FP.Core.qmin_b64
  have e3 : Jvm.FP.Core.b64.qmax = 971 := by decide
  have e4 : Jvm.FP.Core.b64.tails = 2 ^ 52 := Jvm.FP.Core.tails_b64
  have e5 : Jvm.FP.Core.b64.exps = 2048 := by decide
  rw [e1] at f1
  rw [e2] at f2 f4
  rw [e3] at f3
  rw [e4] at f4
  refine ⟨s, c, q, e, f1, f2, f3, f4, ?_⟩
  rw [h1]
  unfold Jvm.FP.Core.encode Jvm.FP.Core.assemble
  simp only [e4, e5, e2]
  have e6 : (q - -1074).toNat + 1 = (q + 1075).toNat := by omega
  cases s with
  | false =>
    by_cases hc : c < 2 ^ 52
    · simp only [if_pos hc, Bool.toNat_false]; simp
    · simp only [if_neg hc, Bool.toNat_false, e6]; simp
  | true =>
    by_cases hc : c < 2 ^ 52
    · simp only [if_pos hc, Bool.toNat_true]; simp
    · simp only [if_neg hc, Bool.toNat_true, e6, if_true]; rw [Nat.add_mul]; omega
theorem e_one : Jvm.FP.Core.zval Jvm.FP.Core.b64 (Jvm.FP.Core.val64 FP.dconst1) = ((2 ^ 1074 : Nat) : Int) ∧ Jvm.FP.Core.val64 FP.dconst1 ≠ .nan ∧ Jvm.FP.Core.val64 FP.dconst1 = .fin false (2 ^ 52) (-52) := by
  refine ⟨?_, ?_, ?_⟩ <;> decide +kernel
theorem e_two : Jvm.FP.Core.zval Jvm.FP.Core.b64 (Jvm.FP.Core.val64 (4611686018427387904 : UInt64)) = ((2 ^ 1075 : Nat) : Int) ∧ Jvm.FP.Core.val64 (4611686018427387904 : UInt64) ≠ .nan ∧ Jvm.FP.Core.val64 (4611686018427387904 : UInt64) = .fin false (2 ^ 52) (-51) := by
  refine ⟨?_, ?_, ?_⟩ <;> decide +kernel
theorem e_zero : Jvm.FP.Core.zval Jvm.FP.Core.b64 (Jvm.FP.Core.val64 FP.dconst0) = ((0 : Nat) : Int) ∧ Jvm.FP.Core.val64 FP.dconst0 ≠ .nan := by
  refine ⟨?_, ?_⟩ <;> decide +kernel
theorem e_half : Jvm.FP.Core.val64 (4602678819172646912 : UInt64) = .fin false (2 ^ 52) (-53) := by decide +kernel
theorem e_big : Jvm.FP.Core.val64 (4841369599423283200 : UInt64) = .fin false (2 ^ 52) 0 := by decide +kernel
section DLB
abbrev d_D (x : UInt64) (c : Nat) (q : Int) : Prop := Jvm.FP.Core.val64 x = z_D Jvm.FP.Core.b64 c q
theorem d_ne {x : UInt64} {c : Nat} {q : Int} (h : d_D x c q) (hc : c < 2 ^ 53) (h1 : -1074 ≤ q) (h2 : q ≤ 971) : vf_n64 x := by
  have := (D_zval Jvm.FP.Core.good_b64 (c := c) (q := q) hc h1 (by show q ≤ 971; exact h2)).2.1
  rw [← h] at this
  exact (fb_n64 x).2 ((Jvm.FP.Core.ne_nan x).1 this)
theorem d_cmp {x y : UInt64} {c : Nat} {q : Int} (h : d_D x c q) (hc : c < 2 ^ 53) (h1 : -1074 ≤ q) (h2 : q ≤ 971) {Z : Nat} (hz : Jvm.FP.Core.zval Jvm.FP.Core.b64 (Jvm.FP.Core.val64 y) = (Z : Int)) (ny : Jvm.FP.Core.val64 y ≠ .nan) : FP.dcmp x y = some (compare ((c * 2 ^ (q + 1074).toNat : Nat) : Int) (Z : Int)) := by
  have e : FP.dcmp x y = Jvm.FP.Core.order (Jvm.FP.Core.val64 x) (Jvm.FP.Core.val64 y) := rfl
  rw [e, h, D_order Jvm.FP.Core.good_b64 hc h1 (by show q ≤ 971; exact h2) (Jvm.FP.Core.val64_fits y) ny hz]
  rfl
theorem d_mul {x y : UInt64} {c : Nat} {q r : Int} (h : d_D x c q) (hc : c < 2 ^ 53) (h1 : -1074 ≤ q) (h2 : q ≤ 971) (hy : Jvm.FP.Core.val64 y = .fin false (2 ^ 52) r) : d_D (FP.dmul x y) c (q + r + 52) := by
  unfold d_D
  have := Jvm.FP.Core.val64_dmul x y
  rw [h, hy, D_mul Jvm.FP.Core.good_b64 hc h1 (by show q ≤ 971; exact h2)] at this
  exact this
theorem d_D_fin {x : UInt64} {c : Nat} (h : d_D x c (-52)) (hc : c < 2 ^ 53) (hc2 : 2 ^ 52 ≤ c) : Jvm.FP.Core.val64 x = .fin false c (-52) := by
  rw [h]
  exact Jvm.FP.Core.round_of_fits Jvm.FP.Core.good_b64 ⟨hc, by decide, by decide, Or.inr hc2⟩
theorem d_sub1 {x : UInt64} {c : Nat} (h : d_D x c (-52)) (hc : c < 2 ^ 53) (hc2 : 2 ^ 52 ≤ c) : d_D (FP.dsub x FP.dconst1) (c - 2 ^ 52) (-52) := by
  unfold d_D
  have := Jvm.FP.Core.val64_dsub x FP.dconst1
  rw [d_D_fin h hc hc2, e_one.2.2, D_sub1 (-52) hc2] at this
  exact this
theorem d_int {x : UInt64} {c : Nat} (h : d_D x c 0) (hc : c < 2 ^ 53) : FP.d2l x = lN c := by
  refine Jvm.FP.Core.d2l_int ?_
  unfold Jvm.FP.Core.DInt
  rw [h, pk_lT (by omega)]
  refine Jvm.FP.Core.whole_round Jvm.FP.Core.good_b64 Jvm.FP.Core.wide_b64 ?_ ?_
  · rw [Int.natAbs_natCast]
    show c ≤ 2 ^ 53
    omega
  · show Jvm.FP.Core.signed false (c * 2 ^ 0) = (c : Int) * ((2 ^ 0 : Nat) : Int)
    unfold Jvm.FP.Core.signed
    simp
theorem z_tnL {n : Nat} (h : n < 2 ^ 64) : (lN n).toBitVec.toNat = n := Nat.mod_eq_of_lt h
theorem z_shlL {n : Nat} (s : Int64) (k : Nat) (hs : (s.toBitVec.smod 64).toNat = k) (h : n * 2 ^ k < 2 ^ 64) : lN n <<< s = lN (n * 2 ^ k) := by
  refine Int64.toBitVec.inj ?_
  refine BitVec.eq_of_toNat_eq ?_
  have hn : n < 2 ^ 64 := Nat.lt_of_le_of_lt (Nat.le_mul_of_pos_right n (Nat.two_pow_pos k)) h
  have e : (lN n <<< s).toBitVec.toNat = (lN n).toBitVec.toNat * 2 ^ k % 2 ^ 64 := by
    show ((lN n).toBitVec <<< (s.toBitVec.smod 64).toNat).toNat = _
    rw [hs, BitVec.toNat_shiftLeft, Nat.shiftLeft_eq]
  rw [e, z_tnL hn, z_tnL h, Nat.mod_eq_of_lt h]
theorem z_orL {a b k : Nat} (hb : b < 2 ^ k) (ha : a * 2 ^ k + b < 2 ^ 63) : lN (a * 2 ^ k) ||| lN b = lN (a * 2 ^ k + b) := by
  refine Int64.toBitVec.inj ?_
  refine BitVec.eq_of_toNat_eq ?_
  have e : (lN (a * 2 ^ k) ||| lN b).toBitVec.toNat = (lN (a * 2 ^ k)).toBitVec.toNat ||| (lN b).toBitVec.toNat := by
    rw [Int64.toBitVec_or, BitVec.toNat_or]
  rw [e, z_tnL (by omega), z_tnL (by omega), z_tnL (by omega), Nat.mul_comm a, ← Nat.two_pow_add_eq_or_of_lt hb]
theorem z_signL {m : Nat} (hm : m < 2 ^ 63) : lN m ||| (-9223372036854775808 : Int64) = lN (2 ^ 63 + m) := by
  refine Int64.toBitVec.inj ?_
  refine BitVec.eq_of_toNat_eq ?_
  have e : (lN m ||| (-9223372036854775808 : Int64)).toBitVec.toNat = (lN m).toBitVec.toNat ||| 2 ^ 63 := by
    rw [Int64.toBitVec_or, BitVec.toNat_or]; rfl
  have h2 := Nat.two_pow_add_eq_or_of_lt hm 1
  rw [e, z_tnL (by omega), z_tnL (by omega), Nat.or_comm]
  rw [Nat.mul_one] at h2
  exact h2.symm
theorem z_i64 (x : UInt64) : x.toInt64 = lN x.toNat := by
  refine Int64.toBitVec.inj ?_
  refine BitVec.eq_of_toNat_eq ?_
  rw [z_tnL x.toNat_lt]
  rfl
end DLB
