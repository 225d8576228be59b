/-! the class's floatBits -/
theorem fb_parts (x : UInt32) (hx : x.toNat % 2 ^ 31 < 2139095040) : ∃ s c q, Jvm.FP.Core.val32 x = .fin s c q ∧ c < 2 ^ 24 ∧ -149 ≤ q ∧ q ≤ 104 ∧ (q = -149 ∨ 2 ^ 23 ≤ c) ∧ x.toNat = (if s then 2 ^ 31 else 0) + (if c < 2 ^ 23 then c else (q + 150).toNat * 2 ^ 23 + (c - 2 ^ 23)) := by
  have hf := (Jvm.FP.Core.fin_bits32 x).2 hx
  obtain ⟨s, c, q, e⟩ := id hf
  have hfit := Jvm.FP.Core.val32_fits x
  have h1 := Jvm.FP.Core.toNat_of32 (Jvm.FP.Core.val32_fits x)
  rw [Jvm.FP.Core.of32_val32 hf.ne_nan, e] at h1
  rw [e] at hfit
  obtain ⟨f1, f2, f3, f4⟩ := hfit
  have e1 : Jvm.FP.Core.b32.p = 24 := rfl
  have e2 : Jvm.FP.Core.b32.qmin = -149 := Jvm.FP.Core.qmin_b32
  have e3 : Jvm.FP.Core.b32.qmax = 104 := by decide
  have e4 : Jvm.FP.Core.b32.tails = 2 ^ 23 := Jvm.FP.Core.tails_b32
  have e5 : Jvm.FP.Core.b32.exps = 256 := by decide
  rw [e1] at f1
  rw [e2] at f2 f4
  rw [e3] at f3
  rw [e4] at f4
  refine ⟨s, c, q, e, f1, f2, f3, f4, ?_⟩
  rw [h1]
  unfold Jvm.FP.Core.encode Jvm.FP.Core.assemble
  simp only [e4, e5, e2]
  have e6 : (q - -149).toNat + 1 = (q + 150).toNat := by omega
  cases s with
  | false =>
    by_cases hc : c < 2 ^ 23
    · simp only [if_pos hc, Bool.toNat_false]; simp
    · simp only [if_neg hc, Bool.toNat_false, e6]; simp
  | true =>
    by_cases hc : c < 2 ^ 23
    · simp only [if_pos hc, Bool.toNat_true]; simp
    · simp only [if_neg hc, Bool.toNat_true, e6, if_true]; rw [Nat.add_mul]; omega
theorem c_one : Jvm.FP.Core.zval Jvm.FP.Core.b32 (Jvm.FP.Core.val32 FP.fconst1) = ((2 ^ 149 : Nat) : Int) ∧ Jvm.FP.Core.val32 FP.fconst1 ≠ .nan ∧ Jvm.FP.Core.val32 FP.fconst1 = .fin false (2 ^ 23) (-23) := by
  refine ⟨?_, ?_, ?_⟩ <;> decide +kernel
theorem c_two : Jvm.FP.Core.zval Jvm.FP.Core.b32 (Jvm.FP.Core.val32 FP.fconst2) = ((2 ^ 150 : Nat) : Int) ∧ Jvm.FP.Core.val32 FP.fconst2 ≠ .nan ∧ Jvm.FP.Core.val32 FP.fconst2 = .fin false (2 ^ 23) (-22) := by
  refine ⟨?_, ?_, ?_⟩ <;> decide +kernel
theorem c_zero : Jvm.FP.Core.zval Jvm.FP.Core.b32 (Jvm.FP.Core.val32 FP.fconst0) = ((0 : Nat) : Int) ∧ Jvm.FP.Core.val32 FP.fconst0 ≠ .nan := by
  refine ⟨?_, ?_⟩ <;> decide +kernel
theorem c_half : Jvm.FP.Core.val32 (1056964608 : UInt32) = .fin false (2 ^ 23) (-24) := by decide +kernel
theorem c_big : Jvm.FP.Core.val32 (1258291200 : UInt32) = .fin false (2 ^ 23) 0 := by decide +kernel
section FLB
abbrev f_D (x : UInt32) (c : Nat) (q : Int) : Prop := Jvm.FP.Core.val32 x = z_D Jvm.FP.Core.b32 c q
theorem f_ne {x : UInt32} {c : Nat} {q : Int} (h : f_D x c q) (hc : c < 2 ^ 24) (h1 : -149 ≤ q) (h2 : q ≤ 104) : vf_n32 x := by
  have := (D_zval Jvm.FP.Core.good_b32 (c := c) (q := q) hc h1 (by show q ≤ 104; exact h2)).2.1
  rw [← h] at this
  exact (fb_n32 x).2 ((Jvm.FP.Core.ne_nan32 x).1 this)
theorem f_cmp {x y : UInt32} {c : Nat} {q : Int} (h : f_D x c q) (hc : c < 2 ^ 24) (h1 : -149 ≤ q) (h2 : q ≤ 104) {Z : Nat} (hz : Jvm.FP.Core.zval Jvm.FP.Core.b32 (Jvm.FP.Core.val32 y) = (Z : Int)) (ny : Jvm.FP.Core.val32 y ≠ .nan) : FP.fcmp x y = some (compare ((c * 2 ^ (q + 149).toNat : Nat) : Int) (Z : Int)) := by
  have e : FP.fcmp x y = Jvm.FP.Core.order (Jvm.FP.Core.val32 x) (Jvm.FP.Core.val32 y) := rfl
  rw [e, h, D_order Jvm.FP.Core.good_b32 hc h1 (by show q ≤ 104; exact h2) (Jvm.FP.Core.val32_fits y) ny hz]
  rfl
theorem f_mul {x y : UInt32} {c : Nat} {q r : Int} (h : f_D x c q) (hc : c < 2 ^ 24) (h1 : -149 ≤ q) (h2 : q ≤ 104) (hy : Jvm.FP.Core.val32 y = .fin false (2 ^ 23) r) : f_D (FP.fmul x y) c (q + r + 23) := by
  unfold f_D
  have := Jvm.FP.Core.val32_fmul x y
  rw [h, hy, D_mul Jvm.FP.Core.good_b32 hc h1 (by show q ≤ 104; exact h2)] at this
  exact this
theorem f_D_fin {x : UInt32} {c : Nat} (h : f_D x c (-23)) (hc : c < 2 ^ 24) (hc2 : 2 ^ 23 ≤ c) : Jvm.FP.Core.val32 x = .fin false c (-23) := by
  rw [h]
  exact Jvm.FP.Core.round_of_fits Jvm.FP.Core.good_b32 ⟨hc, by decide, by decide, Or.inr hc2⟩
theorem f_sub1 {x : UInt32} {c : Nat} (h : f_D x c (-23)) (hc : c < 2 ^ 24) (hc2 : 2 ^ 23 ≤ c) : f_D (FP.fsub x FP.fconst1) (c - 2 ^ 23) (-23) := by
  unfold f_D
  have := Jvm.FP.Core.val32_fsub x FP.fconst1
  rw [f_D_fin h hc hc2, c_one.2.2, D_sub1 (-23) hc2] at this
  exact this
theorem f_int {x : UInt32} {c : Nat} (h : f_D x c 0) (hc : c < 2 ^ 24) : FP.f2i x = nI c := by
  refine Jvm.FP.Core.f2i_int ?_
  unfold Jvm.FP.Core.FInt
  rw [h, nI_toInt (by omega)]
  refine Jvm.FP.Core.whole_round Jvm.FP.Core.good_b32 Jvm.FP.Core.wide_b32 ?_ ?_
  · rw [Int.natAbs_natCast]
    show c ≤ 2 ^ 24
    omega
  · show Jvm.FP.Core.signed false (c * 2 ^ 0) = (c : Int) * ((2 ^ 0 : Nat) : Int)
    unfold Jvm.FP.Core.signed
    simp
theorem z_or {a b k : Nat} (hb : b < 2 ^ k) (ha : a * 2 ^ k + b < 2 ^ 31) : nI (a * 2 ^ k) ||| nI b = nI (a * 2 ^ k + b) := by
  refine Int32.toBitVec.inj ?_
  refine BitVec.eq_of_toNat_eq ?_
  have e : (nI (a * 2 ^ k) ||| nI b).toBitVec.toNat = (nI (a * 2 ^ k)).toBitVec.toNat ||| (nI b).toBitVec.toNat := by
    rw [Int32.toBitVec_or, BitVec.toNat_or]
  rw [e, pk_tn (by omega), pk_tn (by omega), pk_tn (by omega), Nat.mul_comm a, ← Nat.two_pow_add_eq_or_of_lt hb]
theorem z_sign {m : Nat} (hm : m < 2 ^ 31) : nI m ||| (-2147483648 : Int32) = nI (2 ^ 31 + m) := by
  refine Int32.toBitVec.inj ?_
  refine BitVec.eq_of_toNat_eq ?_
  have e : (nI m ||| (-2147483648 : Int32)).toBitVec.toNat = (nI m).toBitVec.toNat ||| 2 ^ 31 := by
    rw [Int32.toBitVec_or, BitVec.toNat_or]; rfl
  have h2 := Nat.two_pow_add_eq_or_of_lt hm 1
  rw [e, pk_tn (by omega), pk_tn (by omega), Nat.or_comm]
  rw [Nat.mul_one] at h2
  exact h2.symm
theorem z_i32 (x : UInt32) : x.toInt32 = nI x.toNat := by
  refine Int32.toBitVec.inj ?_
  refine BitVec.eq_of_toNat_eq ?_
  rw [pk_tn x.toNat_lt]
  rfl
end FLB
