section DLC
variable {o : zW}
abbrev e_fin (Q : Int64 → Prop) (x0 x1 : UInt64) (x2 : Int64) : Prop := (0 ≤ (Op.cmpValue (FP.dcmp x1 FP.dconst1) CmpOp.g) → (vf_n64 (FP.dsub x1 FP.dconst1) ∧ (vf_n64 (FP.dmul (FP.dsub x1 FP.dconst1) (4841369599423283200 : UInt64)) ∧ ((0 ≤ (Op.cmpValue (FP.dcmp x0 FP.dconst0) CmpOp.g) → Q ((x2 <<< ((52 : Int32).toInt64 &&& 63)) ||| (FP.d2l (FP.dmul (FP.dsub x1 FP.dconst1) (4841369599423283200 : UInt64))))) ∧ (¬ 0 ≤ (Op.cmpValue (FP.dcmp x0 FP.dconst0) CmpOp.g) → Q (((x2 <<< ((52 : Int32).toInt64 &&& 63)) ||| (FP.d2l (FP.dmul (FP.dsub x1 FP.dconst1) (4841369599423283200 : UInt64)))) ||| (-9223372036854775808 : Int64))))))) ∧ (¬ 0 ≤ (Op.cmpValue (FP.dcmp x1 FP.dconst1) CmpOp.g) → (vf_n64 (FP.dmul x1 (4841369599423283200 : UInt64)) ∧ ((0 ≤ (Op.cmpValue (FP.dcmp x0 FP.dconst0) CmpOp.g) → Q (FP.d2l (FP.dmul x1 (4841369599423283200 : UInt64)))) ∧ (¬ 0 ≤ (Op.cmpValue (FP.dcmp x0 FP.dconst0) CmpOp.g) → Q ((FP.d2l (FP.dmul x1 (4841369599423283200 : UInt64))) ||| (-9223372036854775808 : Int64))))))
/-- the end: bits of a number between 0 and 2, its exponent, its sign -/
theorem din_ok {x0 x1 : UInt64} {c : Nat} {q : Int} {sg : Bool} {x2 : Int64} (h1 : d_D x1 c (-52)) (hc : c < 2 ^ 53) (hq : -1074 ≤ q) (hq2 : q ≤ 971) (h2 : 2 ^ 52 ≤ c → x2 = lN (q + 1075).toNat) (hsg : 0 ≤ Op.cmpValue (FP.dcmp x0 FP.dconst0) CmpOp.g ↔ sg = false) (hx : x0.toNat = (if sg then 2 ^ 63 else 0) + (if c < 2 ^ 52 then c else (q + 1075).toNat * 2 ^ 52 + (c - 2 ^ 52))) (Q : Int64 → Prop) (hQ : Q x0.toInt64) : e_fin Q x0 x1 x2 := by
  have hcmp := d_cmp h1 hc (by omega) (by omega) e_one.1 e_one.2.1
  have e149 : ((-52 : Int) + 1074).toNat = 1022 := by decide
  rw [e149] at hcmp
  rw [z_i64, hx] at hQ
  have hge : 0 ≤ Op.cmpValue (FP.dcmp x1 FP.dconst1) CmpOp.g ↔ 2 ^ 52 ≤ c := by
    rw [hcmp, cv_ge]
    constructor
    · intro h
      rcases Nat.lt_or_ge c (2 ^ 52) with g | g
      · have := p_lt (k := 1022) g
        rw [← Nat.pow_add] at this
        omega
      · exact g
    · intro h
      have : 2 ^ 52 * 2 ^ 1022 ≤ c * 2 ^ 1022 := Nat.mul_le_mul_right _ h
      rw [← Nat.pow_add] at this
      exact this
  refine ⟨fun hg => ?_, fun hg => ?_⟩
  · have hc2 := hge.1 hg
    have hs := d_sub1 h1 hc hc2
    have hm := d_mul hs (by omega) (by omega) (by omega) e_big
    have e0 : (-52 : Int) + 0 + 52 = 0 := by decide
    rw [e0] at hm
    refine ⟨d_ne hs (by omega) (by omega) (by omega), d_ne hm (by omega) (by omega) (by omega), ?_⟩
    rw [d_int hm (by omega)]
    rw [h2 hc2]
    have eE : (q + 1075).toNat ≤ 2046 := by omega
    have esh : lN (q + 1075).toNat <<< ((52 : Int32).toInt64 &&& 63) = lN ((q + 1075).toNat * 2 ^ 52) := z_shlL (n := (q + 1075).toNat) _ 52 (by decide) (by omega)
    have eor := z_orL (a := (q + 1075).toNat) (b := c - 2 ^ 52) (k := 52) (by omega) (by omega)
    rw [esh, eor]
    rw [if_neg (by omega : ¬ c < 2 ^ 52)] at hQ
    refine ⟨fun h0 => ?_, fun h0 => ?_⟩
    · have := hsg.1 h0
      subst this
      simpa using hQ
    · have : sg = true := by cases sg with
        | true => rfl
        | false => exact absurd (hsg.2 rfl) h0
      subst this
      rw [z_signL (by omega)]
      simpa using hQ
  · have hc2 : c < 2 ^ 52 := by
      rcases Nat.lt_or_ge c (2 ^ 52) with g | g
      · exact g
      · exact absurd (hge.2 g) hg
    have hm := d_mul h1 hc (by omega) (by omega) e_big
    have e0 : (-52 : Int) + 0 + 52 = 0 := by decide
    rw [e0] at hm
    rw [d_int hm hc]
    rw [if_pos hc2] at hQ
    refine ⟨d_ne hm hc (by omega) (by omega), fun h0 => ?_, fun h0 => ?_⟩
    · have := hsg.1 h0
      subst this
      simpa using hQ
    · have : sg = true := by cases sg with
        | true => rfl
        | false => exact absurd (hsg.2 rfl) h0
      subst this
      rw [z_signL (by omega)]
      simpa using hQ
theorem sp_doubleBits (x0 : UInt64) (hx : x0.toNat % 2 ^ 63 < 9218868437227405312) (hz : x0.toNat ≠ 2 ^ 63) (S : zS) (K : Int64 → zS → Prop) (hK : K x0.toInt64 S) : zGl o 970 mdX4_doubleBits [.double x0] S K := by
  obtain ⟨sg, c, q, e, hc, hq, hq2, hcq, hx0⟩ := db_parts x0 hx
  let Q : Int64 → Prop := fun r => ∃ x, some (Value.long r) = some (.long x) ∧ K x S
  have hQ : Q x0.toInt64 := ⟨_, rfl, hK⟩
  -- the sign
  have hfit := Jvm.FP.Core.val64_fits x0
  have hnn : Jvm.FP.Core.val64 x0 ≠ .nan := by rw [e]; exact fun h => Jvm.FP.Core.Datum.noConfusion h
  have hz0 : sg = true → c ≠ 0 := by
    intro h1 h2
    subst h1 h2
    simp at hx0
    exact hz hx0
  have hsg : 0 ≤ Op.cmpValue (FP.dcmp x0 FP.dconst0) CmpOp.g ↔ sg = false := by
    have e1 : FP.dcmp x0 FP.dconst0 = Jvm.FP.Core.order (Jvm.FP.Core.val64 x0) (Jvm.FP.Core.val64 FP.dconst0) := rfl
    rw [e1, Jvm.FP.Core.order_zval Jvm.FP.Core.good_b64 hfit (Jvm.FP.Core.val64_fits _) hnn e_zero.2, e_zero.1, e]
    cases sg with
    | false =>
      have e2 : Jvm.FP.Core.zval Jvm.FP.Core.b64 (.fin false c q) = ((Jvm.FP.Core.inUnits c q Jvm.FP.Core.b64.qmin : Nat) : Int) := rfl
      rw [e2, cv_ge]
      exact ⟨fun _ => rfl, fun _ => Nat.zero_le _⟩
    | true =>
      have e2 : Jvm.FP.Core.zval Jvm.FP.Core.b64 (.fin true c q) = -((Jvm.FP.Core.inUnits c q Jvm.FP.Core.b64.qmin : Nat) : Int) := rfl
      have hpos : 0 < Jvm.FP.Core.inUnits c q Jvm.FP.Core.b64.qmin := Nat.mul_pos (Nat.pos_of_ne_zero (hz0 rfl)) (Nat.two_pow_pos _)
      rw [e2]
      generalize Jvm.FP.Core.inUnits c q Jvm.FP.Core.b64.qmin = N at hpos
      refine ⟨fun h => ?_, fun h => by cases h⟩
      exfalso
      unfold Op.cmpValue at h
      rw [Jvm.FP.Core.compare_ite, if_pos (by omega)] at h
      exact absurd h (by decide)
  -- the rest, from a size of value c * 2^q on
  have main : ∀ x1 : UInt64, d_D x1 c q → zG o 970 mdX4_doubleBits 21 [(0, .double x0), (2, .double x1), (4, .long (1023 : Int64)), (6, .int 0)] [] S (fun r S' => ∃ x, r = some (.long x) ∧ K x S') := by
    intro x1 hD
    by_cases hA : -51 ≤ q
    · have hc2 : 2 ^ 52 ≤ c := by omega
      have hKn : ((q + 52).toNat : Int) = q + 52 := by omega
      generalize hN : (q + 52).toNat = N at hKn
      refine z_down N (fun k => ∀ x1 : UInt64, d_D x1 c (q - k) → zG o 970 mdX4_doubleBits 21 [(0, .double x0), (2, .double x1), (4, .long (lN (1023 + k))), (6, .int (nI k))] [] S (fun r S' => ∃ x, r = some (.long x) ∧ K x S')) ?_ ?_ 0 (Nat.zero_le _) x1 (by rw [show q - ((0 : Nat) : Int) = q by omega]; exact hD)
      · intro x1 h1
        have eq23 : q - (N : Int) = -52 := by omega
        rw [eq23] at h1
        have hcmp := d_cmp h1 hc (by omega) (by omega) e_two.1 e_two.2.1
        have e149 : ((-52 : Int) + 1074).toNat = 1022 := by decide
        rw [e149] at hcmp
        have hlt : Op.cmpValue (FP.dcmp x1 (4611686018427387904 : UInt64)) CmpOp.l < 0 := by
          rw [hcmp, cv_lt]
          have := p_lt (k := 1022) hc
          rw [← Nat.pow_add] at this
          exact this
        have fin := din_ok (x2 := lN (1023 + N)) h1 hc hq hq2 (fun _ => congrArg lN (by omega)) hsg hx0 Q hQ
        have hcmp1 := d_cmp h1 hc (by omega) (by omega) e_one.1 e_one.2.1
        rw [e149] at hcmp1
        have hge1 : 0 ≤ Op.cmpValue (FP.dcmp x1 FP.dconst1) CmpOp.g := by
          rw [hcmp1, cv_ge]
          have : 2 ^ 52 * 2 ^ 1022 ≤ c * 2 ^ 1022 := Nat.mul_le_mul_right _ hc2
          rw [← Nat.pow_add] at this
          exact this
        have to47 : zG o 970 mdX4_doubleBits 58 [(0, .double x0), (2, .double x1), (4, .long (lN (1023 + N))), (6, .int 0)] [] S (fun r S' => ∃ x, r = some (.long x) ∧ K x S') :=
          w_X4_doubleBits_58 o _ _ _ _ S _ ⟨fun _ => fin, fun _ => ⟨fun _ => fin, fun _ => ⟨fun _ => fin, fun hc => absurd hge1 hc⟩⟩⟩
        exact w_X4_doubleBits_21 o _ _ _ _ S _ ⟨fun _ => to47, fun _ y2 ey2 => ⟨fun _ => to47, fun hc => absurd (ey2.symm ▸ hlt) hc⟩⟩
      · intro k hk ih x1 h1
        have hcmp := d_cmp h1 hc (by omega) (by omega) e_two.1 e_two.2.1
        have hge : ¬ Op.cmpValue (FP.dcmp x1 (4611686018427387904 : UInt64)) CmpOp.l < 0 := by
          rw [hcmp, cv_lt]
          have a : 1023 ≤ (q - (k : Int) + 1074).toNat := by omega
          have b : 2 ^ 1023 ≤ 2 ^ (q - (k : Int) + 1074).toNat := Nat.pow_le_pow_right (by omega) a
          have d : 2 ^ 52 * 2 ^ 1023 ≤ c * 2 ^ (q - (k : Int) + 1074).toNat := Nat.mul_le_mul hc2 b
          rw [← Nat.pow_add] at d
          omega
        have hm := d_mul h1 hc (by omega) (by omega) e_half
        have e1 : q - (k : Int) + -53 + 52 = q - ((k + 1 : Nat) : Int) := by omega
        rw [e1] at hm
        refine w_X4_doubleBits_21 o _ _ _ _ S _ ⟨fun hc3 => absurd hc3 (z_ge (a := k) (b := 1100) (by omega) (by decide)), fun _ y2 ey2 => ⟨fun hc3 => absurd (ey2 ▸ hc3) hge, fun _ => ⟨d_ne hm hc (by omega) (by omega), ?_⟩⟩⟩
        rw [lN_1, ← nI_succ]
        exact ih _ hm
    · -- less than 2
      have hlt : Op.cmpValue (FP.dcmp x1 (4611686018427387904 : UInt64)) CmpOp.l < 0 := by
        rw [d_cmp hD hc hq hq2 e_two.1 e_two.2.1, cv_lt]
        have a : (q + 1074).toNat ≤ 1022 := by omega
        have b : 2 ^ (q + 1074).toNat ≤ 2 ^ 1022 := Nat.pow_le_pow_right (by omega) a
        have d : c * 2 ^ (q + 1074).toNat ≤ c * 2 ^ 1022 := Nat.mul_le_mul_left _ b
        have e := p_lt (k := 1022) hc
        rw [← Nat.pow_add] at e
        have e' : 2 ^ (53 + 1022) = 2 ^ 1075 := rfl
        omega
      have to47 : zG o 970 mdX4_doubleBits 58 [(0, .double x0), (2, .double x1), (4, .long (1023 : Int64)), (6, .int 0)] [] S (fun r S' => ∃ x, r = some (.long x) ∧ K x S') := by
        by_cases hc0 : c = 0
        · subst hc0
          have hD0 : d_D x1 0 (-52) := Eq.trans hD ((D_zero Jvm.FP.Core.b64 q).trans (D_zero Jvm.FP.Core.b64 (-52)).symm)
          have fin := din_ok (x2 := 1023) hD0 hc hq hq2 (fun h => absurd h (by omega)) hsg hx0 Q hQ
          have hle : Op.cmpValue (FP.dcmp x1 FP.dconst0) CmpOp.l ≤ 0 := by
            rw [d_cmp hD hc hq hq2 e_zero.1 e_zero.2, cv_le]
            simp
          exact w_X4_doubleBits_58 o _ _ _ _ S _ ⟨fun _ => fin, fun _ => ⟨fun _ => fin, fun hc => absurd hle hc⟩⟩
        · have hKn : ((-52 - q).toNat : Int) = -52 - q := by omega
          generalize hN : (-52 - q).toNat = N at hKn
          refine z_down N (fun k => ∀ x1 : UInt64, d_D x1 c (q + k) → zG o 970 mdX4_doubleBits 58 [(0, .double x0), (2, .double x1), (4, .long (lN (1023 - k))), (6, .int (nI k))] [] S (fun r S' => ∃ x, r = some (.long x) ∧ K x S')) ?_ ?_ 0 (Nat.zero_le _) x1 (by rw [show q + ((0 : Nat) : Int) = q by omega]; exact hD)
          · intro x1 h1
            have eq23 : q + (N : Int) = -52 := by omega
            rw [eq23] at h1
            have fin := din_ok (x2 := lN (1023 - N)) h1 hc hq hq2 (fun _ => congrArg lN (by omega)) hsg hx0 Q hQ
            refine w_X4_doubleBits_58 o _ _ _ _ S _ ⟨fun _ => fin, fun _ => ⟨fun _ => fin, fun _ => ⟨fun _ => fin, fun hlt1 => ⟨fun _ => fin, fun hx2 => ?_⟩⟩⟩⟩
            exfalso
            -- below 1, so a small one: the exponent is 1
            have hcmp1 := d_cmp h1 hc (by omega) (by omega) e_one.1 e_one.2.1
            have e149 : ((-52 : Int) + 1074).toNat = 1022 := by decide
            rw [e149] at hcmp1
            rw [hcmp1, cv_ge] at hlt1
            have hc3 : c < 2 ^ 52 := by
              rcases Nat.lt_or_ge c (2 ^ 52) with g | g
              · exact g
              · have : 2 ^ 52 * 2 ^ 1022 ≤ c * 2 ^ 1022 := Nat.mul_le_mul_right _ g
                rw [← Nat.pow_add] at this
                exact absurd this hlt1
            have : N = 1022 := by omega
            rw [this] at hx2
            exact hx2 (by decide)
          · intro k hk ih x1 h1
            have hpos : ¬ Op.cmpValue (FP.dcmp x1 FP.dconst0) CmpOp.l ≤ 0 := by
              rw [d_cmp h1 hc (by omega) (by omega) e_zero.1 e_zero.2, cv_le]
              have : 0 < c * 2 ^ (q + (k : Int) + 1074).toNat := Nat.mul_pos (Nat.pos_of_ne_zero hc0) (Nat.two_pow_pos _)
              omega
            have hlt1 : ¬ 0 ≤ Op.cmpValue (FP.dcmp x1 FP.dconst1) CmpOp.g := by
              rw [d_cmp h1 hc (by omega) (by omega) e_one.1 e_one.2.1, cv_ge]
              have a : (q + (k : Int) + 1074).toNat ≤ 1021 := by omega
              have b : 2 ^ (q + (k : Int) + 1074).toNat ≤ 2 ^ 1021 := Nat.pow_le_pow_right (by omega) a
              have d : c * 2 ^ (q + (k : Int) + 1074).toNat ≤ c * 2 ^ 1021 := Nat.mul_le_mul_left _ b
              have e := p_lt (k := 1021) hc
              rw [← Nat.pow_add] at e
              have e' : 2 ^ (53 + 1021) = 2 ^ 1074 := rfl
              omega
            have hm := d_mul h1 hc (by omega) (by omega) e_two.2.2
            have e1 : q + (k : Int) + -51 + 52 = q + ((k + 1 : Nat) : Int) := by omega
            rw [e1] at hm
            have hx2 : ¬ z_lcmp (lN (1023 - k)) 1 ≤ 0 := by
              rw [lg_cmp_le]
              intro hle
              have := (lN_le (a := 1023 - k) (b := 1) (by omega) (by omega)).1 hle
              omega
            refine w_X4_doubleBits_58 o _ _ _ _ S _ ⟨fun hc3 => absurd hc3 (z_ge (a := k) (b := 1100) (by omega) (by decide)), fun _ => ⟨fun hc3 => absurd hc3 hpos, fun _ => ⟨fun hc3 => absurd hc3 hlt1, fun _ => ⟨fun hc3 => absurd hc3 hx2, fun _ => ⟨d_ne hm hc (by omega) (by omega), ?_⟩⟩⟩⟩⟩
            rw [← nI_succ]
            have em : lN (1023 - k) - 1 = lN (1023 - (k + 1)) := by
              have : (1 : Int64) = lN 1 := rfl
              rw [this, lN_sub (by omega)]
              exact congrArg lN (by omega)
            rw [em]
            exact ih _ hm
      exact w_X4_doubleBits_21 o _ _ _ _ S _ ⟨fun _ => to47, fun _ y2 ey2 => ⟨fun _ => to47, fun hc => absurd (ey2.symm ▸ hlt) hc⟩⟩
  refine w_X4_doubleBits_0 o _ S _ ⟨fun h0 => main x0 ?_, fun h0 => main (FP.dneg x0) ?_⟩
  · have hs := hsg.1 h0
    subst hs
    unfold d_D
    rw [e]
    refine (Jvm.FP.Core.round_of_fits Jvm.FP.Core.good_b64 ?_).symm
    rw [← e]; exact hfit
  · have hs : sg = true := by
      cases sg with
      | true => rfl
      | false => exact absurd (hsg.2 rfl) h0
    subst hs
    unfold d_D
    have hv := Jvm.FP.val64_dneg x0
    rw [e] at hv
    rw [hv]
    refine (Jvm.FP.Core.round_of_fits Jvm.FP.Core.good_b64 ?_).symm
    have := Jvm.FP.Core.negate_fits hfit
    rw [e] at this
    exact this
end DLC
