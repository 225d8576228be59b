/-! numbers c * 2^q, rounded -/
abbrev z_D (f : Jvm.FP.Core.Fmt) (c : Nat) (q : Int) : Jvm.FP.Core.Datum := Jvm.FP.Core.round f (.fin false c q)
theorem D_fin {f : Jvm.FP.Core.Fmt} (hf : Jvm.FP.Core.Good f) {c : Nat} {q : Int} (hc : c < 2 ^ f.p) (h1 : f.qmin ≤ q) (h2 : q ≤ f.qmax) : ∃ c' q', z_D f c q = .fin false c' q' ∧ Jvm.FP.Core.fits f (.fin false c' q') ∧ c' * 2 ^ (q' - f.qmin).toNat = c * 2 ^ (q - f.qmin).toNat := by
  obtain ⟨c', q', e, hv⟩ := Jvm.FP.Core.round_exact hf false hc h1 h2
  have hfit := Jvm.FP.Core.round_fits hf (.fin false c q)
  rw [e] at hfit
  exact ⟨c', q', e, hfit, hv⟩
theorem z_pw {c c' a b k j : Nat} (h : c' * 2 ^ a = c * 2 ^ b) (e : a = b + k + j) : c' * 2 ^ k * 2 ^ j = c := by
  have hp : 0 < 2 ^ b := Nat.two_pow_pos b
  refine Nat.eq_of_mul_eq_mul_right hp ?_
  rw [← h, e, Nat.pow_add, Nat.pow_add]
  simp only [Nat.mul_assoc, Nat.mul_comm, Nat.mul_left_comm]
theorem z_pw2 {c c' a b k j : Nat} (h : c' * 2 ^ a = c * 2 ^ b) (e : b + k = a + j) : c' * 2 ^ k = c * 2 ^ j := by
  have hp : 0 < 2 ^ a := Nat.two_pow_pos a
  refine Nat.eq_of_mul_eq_mul_right hp ?_
  have e2 : 2 ^ b * 2 ^ k = 2 ^ a * 2 ^ j := by rw [← Nat.pow_add, ← Nat.pow_add, e]
  calc c' * 2 ^ k * 2 ^ a = c' * 2 ^ a * 2 ^ k := by simp only [Nat.mul_assoc, Nat.mul_comm, Nat.mul_left_comm]
    _ = c * 2 ^ b * 2 ^ k := by rw [h]
    _ = c * (2 ^ a * 2 ^ j) := by rw [Nat.mul_assoc, e2]
    _ = c * 2 ^ j * 2 ^ a := by simp only [Nat.mul_assoc, Nat.mul_comm, Nat.mul_left_comm]
theorem D_mul {f : Jvm.FP.Core.Fmt} (hf : Jvm.FP.Core.Good f) {c : Nat} {q : Int} (hc : c < 2 ^ f.p) (h1 : f.qmin ≤ q) (h2 : q ≤ f.qmax) (k : Nat) (r : Int) : Jvm.FP.Core.round f (Jvm.FP.Core.exactProduct (z_D f c q) (.fin false (2 ^ k) r)) = z_D f c (q + r + k) := by
  obtain ⟨c', q', e, hfit, hv⟩ := D_fin hf hc h1 h2
  rw [e]
  have hq' := hfit.2.1
  show Jvm.FP.Core.roundRatio f false (c' * 2 ^ k) 1 (q' + r) = Jvm.FP.Core.roundRatio f false c 1 (q + r + k)
  refine Jvm.FP.Core.roundRatio_congr (by decide) (by decide) ?_
  rw [Nat.mul_one, Nat.mul_one]
  generalize ha : (q' - f.qmin).toNat = a at hv
  generalize hb : (q - f.qmin).toNat = b at hv
  by_cases hle : b + k ≤ a
  · have e1 : (q' + r - (q + r + (k : Int))).toNat = a - (b + k) := by omega
    have e2 : (q + r + (k : Int) - (q' + r)).toNat = 0 := by omega
    rw [e1, e2, Nat.pow_zero, Nat.mul_one]
    exact z_pw hv (by omega)
  · have e1 : (q' + r - (q + r + (k : Int))).toNat = 0 := by omega
    have e2 : (q + r + (k : Int) - (q' + r)).toNat = b + k - a := by omega
    rw [e1, e2, Nat.pow_zero, Nat.mul_one]
    exact z_pw2 hv (by omega)
theorem D_zval {f : Jvm.FP.Core.Fmt} (hf : Jvm.FP.Core.Good f) {c : Nat} {q : Int} (hc : c < 2 ^ f.p) (h1 : f.qmin ≤ q) (h2 : q ≤ f.qmax) : Jvm.FP.Core.zval f (z_D f c q) = ((c * 2 ^ (q - f.qmin).toNat : Nat) : Int) ∧ z_D f c q ≠ .nan ∧ Jvm.FP.Core.fits f (z_D f c q) := by
  obtain ⟨c', q', e, hfit, hv⟩ := D_fin hf hc h1 h2
  rw [e]
  refine ⟨?_, fun h => Jvm.FP.Core.Datum.noConfusion h, hfit⟩
  show Jvm.FP.Core.signed false (Jvm.FP.Core.inUnits c' q' f.qmin) = _
  unfold Jvm.FP.Core.inUnits
  rw [hv]
  rfl
/-- comparing it with a number -/
theorem D_order {f : Jvm.FP.Core.Fmt} (hf : Jvm.FP.Core.Good f) {c : Nat} {q : Int} (hc : c < 2 ^ f.p) (h1 : f.qmin ≤ q) (h2 : q ≤ f.qmax) {y : Jvm.FP.Core.Datum} (hy : Jvm.FP.Core.fits f y) (ny : y ≠ .nan) {Z : Nat} (hz : Jvm.FP.Core.zval f y = (Z : Int)) : Jvm.FP.Core.order (z_D f c q) y = some (compare ((c * 2 ^ (q - f.qmin).toNat : Nat) : Int) (Z : Int)) := by
  obtain ⟨d1, d2, d3⟩ := D_zval hf hc h1 h2
  rw [Jvm.FP.Core.order_zval hf d3 hy d2 ny, d1, hz]
theorem cv_ge (a b : Nat) (op : CmpOp) : 0 ≤ Op.cmpValue (some (compare (a : Int) (b : Int))) op ↔ b ≤ a := by
  unfold Op.cmpValue
  rw [Jvm.FP.Core.compare_ite]
  by_cases h : (a : Int) < b
  · rw [if_pos h]
    exact ⟨fun hc => absurd hc (by cases op <;> decide), fun hc => by omega⟩
  · rw [if_neg h]
    by_cases h2 : (a : Int) = b
    · rw [if_pos h2]
      exact ⟨fun _ => by omega, fun _ => by cases op <;> decide⟩
    · rw [if_neg h2]
      exact ⟨fun _ => by omega, fun _ => by cases op <;> decide⟩
theorem cv_lt (a b : Nat) (op : CmpOp) : Op.cmpValue (some (compare (a : Int) (b : Int))) op < 0 ↔ a < b := by
  unfold Op.cmpValue
  rw [Jvm.FP.Core.compare_ite]
  by_cases h : (a : Int) < b
  · rw [if_pos h]
    exact ⟨fun _ => by omega, fun _ => by cases op <;> decide⟩
  · rw [if_neg h]
    by_cases h2 : (a : Int) = b
    · rw [if_pos h2]
      exact ⟨fun hc => absurd hc (by cases op <;> decide), fun hc => by omega⟩
    · rw [if_neg h2]
      exact ⟨fun hc => absurd hc (by cases op <;> decide), fun hc => by omega⟩
theorem cv_le (a b : Nat) (op : CmpOp) : Op.cmpValue (some (compare (a : Int) (b : Int))) op ≤ 0 ↔ a ≤ b := by
  unfold Op.cmpValue
  rw [Jvm.FP.Core.compare_ite]
  by_cases h : (a : Int) < b
  · rw [if_pos h]
    exact ⟨fun _ => by omega, fun _ => by cases op <;> decide⟩
  · rw [if_neg h]
    by_cases h2 : (a : Int) = b
    · rw [if_pos h2]
      exact ⟨fun _ => by omega, fun _ => by cases op <;> decide⟩
    · rw [if_neg h2]
      exact ⟨fun hc => absurd hc (by cases op <;> decide), fun hc => by omega⟩
/-- minus one -/
theorem D_sub1 {c u : Nat} (q : Int) (h : u ≤ c) : Jvm.FP.Core.exactSum (.fin false c q) (Jvm.FP.Core.negate (.fin false u q)) = .fin false (c - u) q := by
  show Jvm.FP.Core.Datum.fin (Jvm.FP.Core.sumSign false true (Jvm.FP.Core.sumUnits false c q true u q (min q q))) (Jvm.FP.Core.sumUnits false c q true u q (min q q)).natAbs (min q q) = _
  rw [Int.min_self]
  have e : Jvm.FP.Core.sumUnits false c q true u q q = ((c - u : Nat) : Int) := by
    unfold Jvm.FP.Core.sumUnits Jvm.FP.Core.signed Jvm.FP.Core.inUnits
    simp only [Int.sub_self, Int.toNat_zero, Nat.pow_zero, Nat.mul_one]
    simp
    omega
  rw [e]
  have e2 : Jvm.FP.Core.sumSign false true ((c - u : Nat) : Int) = false := by
    unfold Jvm.FP.Core.sumSign
    split
    · rfl
    · simp
  rw [e2, Int.natAbs_natCast]
theorem D_zero (f : Jvm.FP.Core.Fmt) (q : Int) : z_D f 0 q = .fin false 0 f.qmin := by
  show Jvm.FP.Core.roundRatio f false 0 1 q = _
  unfold Jvm.FP.Core.roundRatio
  exact if_pos rfl
