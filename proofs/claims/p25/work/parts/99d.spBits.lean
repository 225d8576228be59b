section FLC
variable {o : zW}
abbrev c_fin (Q : Int32 → Prop) (x0 x1 : UInt32) (x2 : Int32) : Prop := (0 ≤ (Op.cmpValue (FP.fcmp x1 FP.fconst1) CmpOp.g) → (vf_n32 (FP.fsub x1 FP.fconst1) ∧ (vf_n32 (FP.fmul (FP.fsub x1 FP.fconst1) (1258291200 : UInt32)) ∧ (∀ y : Int32, y = (FP.f2i (FP.fmul (FP.fsub x1 FP.fconst1) (1258291200 : UInt32))) → ((0 ≤ (Op.cmpValue (FP.fcmp x0 FP.fconst0) CmpOp.g) → Q ((x2 <<< (23 &&& 31)) ||| y)) ∧ (¬ 0 ≤ (Op.cmpValue (FP.fcmp x0 FP.fconst0) CmpOp.g) → Q (((x2 <<< (23 &&& 31)) ||| y) ||| (-2147483648 : Int32)))))))) ∧ (¬ 0 ≤ (Op.cmpValue (FP.fcmp x1 FP.fconst1) CmpOp.g) → (vf_n32 (FP.fmul x1 (1258291200 : UInt32)) ∧ ((0 ≤ (Op.cmpValue (FP.fcmp x0 FP.fconst0) CmpOp.g) → Q (FP.f2i (FP.fmul x1 (1258291200 : UInt32)))) ∧ (¬ 0 ≤ (Op.cmpValue (FP.fcmp x0 FP.fconst0) CmpOp.g) → (∀ y : Int32, y = ((FP.f2i (FP.fmul x1 (1258291200 : UInt32))) ||| (-2147483648 : Int32)) → Q y)))))
theorem p_lt {a b k : Nat} (h : a < b) : a * 2 ^ k < b * 2 ^ k := Nat.mul_lt_mul_of_pos_right h (Nat.two_pow_pos k)
/-- the end: bits of a number between 0 and 2, its exponent, its sign -/
theorem fin_ok {x0 x1 : UInt32} {c : Nat} {q : Int} {sg : Bool} {x2 : Int32} (h1 : f_D x1 c (-23)) (hc : c < 2 ^ 24) (hq : -149 ≤ q) (hq2 : q ≤ 104) (h2 : 2 ^ 23 ≤ c → x2 = nI (q + 150).toNat) (hsg : 0 ≤ Op.cmpValue (FP.fcmp x0 FP.fconst0) CmpOp.g ↔ sg = false) (hx : x0.toNat = (if sg then 2 ^ 31 else 0) + (if c < 2 ^ 23 then c else (q + 150).toNat * 2 ^ 23 + (c - 2 ^ 23))) (Q : Int32 → Prop) (hQ : Q x0.toInt32) : c_fin Q x0 x1 x2 := by
  have hcmp := f_cmp h1 hc (by omega) (by omega) c_one.1 c_one.2.1
  have e149 : ((-23 : Int) + 149).toNat = 126 := by decide
  rw [e149] at hcmp
  rw [z_i32, hx] at hQ
  have hge : 0 ≤ Op.cmpValue (FP.fcmp x1 FP.fconst1) CmpOp.g ↔ 2 ^ 23 ≤ c := by
    rw [hcmp, cv_ge]
    constructor
    · intro h
      rcases Nat.lt_or_ge c (2 ^ 23) with g | g
      · have := p_lt (k := 126) g
        rw [← Nat.pow_add] at this
        omega
      · exact g
    · intro h
      have : 2 ^ 23 * 2 ^ 126 ≤ c * 2 ^ 126 := Nat.mul_le_mul_right _ h
      rw [← Nat.pow_add] at this
      exact this
  refine ⟨fun hg => ?_, fun hg => ?_⟩
  · have hc2 := hge.1 hg
    have hs := f_sub1 h1 hc hc2
    have hm := f_mul hs (by omega) (by omega) (by omega) c_big
    have e0 : (-23 : Int) + 0 + 23 = 0 := by decide
    rw [e0] at hm
    refine ⟨f_ne hs (by omega) (by omega) (by omega), f_ne hm (by omega) (by omega) (by omega), fun y ey => ?_⟩
    rw [f_int hm (by omega)] at ey
    subst ey
    rw [h2 hc2]
    have eE : (q + 150).toNat ≤ 254 := by omega
    have esh : nI (q + 150).toNat <<< ((23 : Int32) &&& 31) = nI ((q + 150).toNat * 2 ^ 23) := pk_shlN (n := (q + 150).toNat) _ 23 (by decide) (by omega)
    have eor := z_or (a := (q + 150).toNat) (b := c - 2 ^ 23) (k := 23) (by omega) (by omega)
    rw [esh, eor]
    rw [if_neg (by omega : ¬ c < 2 ^ 23)] at hQ
    refine ⟨fun h0 => ?_, fun h0 => ?_⟩
    · have := hsg.1 h0
      subst this
      simpa using hQ
    · have : sg = true := by cases sg with
        | true => rfl
        | false => exact absurd (hsg.2 rfl) h0
      subst this
      rw [z_sign (by omega)]
      simpa using hQ
  · have hc2 : c < 2 ^ 23 := by
      rcases Nat.lt_or_ge c (2 ^ 23) with g | g
      · exact g
      · exact absurd (hge.2 g) hg
    have hm := f_mul h1 hc (by omega) (by omega) c_big
    have e0 : (-23 : Int) + 0 + 23 = 0 := by decide
    rw [e0] at hm
    rw [f_int hm hc]
    rw [if_pos hc2] at hQ
    refine ⟨f_ne hm hc (by omega) (by omega), fun h0 => ?_, fun h0 y ey => ?_⟩
    · have := hsg.1 h0
      subst this
      simpa using hQ
    · have : sg = true := by cases sg with
        | true => rfl
        | false => exact absurd (hsg.2 rfl) h0
      subst this ey
      rw [z_sign (by omega)]
      simpa using hQ
theorem sp_floatBits (x0 : UInt32) (hx : x0.toNat % 2 ^ 31 < 2139095040) (hz : x0.toNat ≠ 2 ^ 31) (S : zS) (K : Int32 → zS → Prop) (hK : K x0.toInt32 S) : zGi o 970 mdX4_floatBits [.float x0] S K := by
  obtain ⟨sg, c, q, e, hc, hq, hq2, hcq, hx0⟩ := fb_parts x0 hx
  let Q : Int32 → Prop := fun r => ∃ x, some (Value.int r) = some (.int x) ∧ K x S
  have hQ : Q x0.toInt32 := ⟨_, rfl, hK⟩
  -- the sign
  have hfit := Jvm.FP.Core.val32_fits x0
  have hnn : Jvm.FP.Core.val32 x0 ≠ .nan := by rw [e]; exact fun h => Jvm.FP.Core.Datum.noConfusion h
  have hz0 : sg = true → c ≠ 0 := by
    intro h1 h2
    subst h1 h2
    simp at hx0
    exact hz hx0
  have hsg : 0 ≤ Op.cmpValue (FP.fcmp x0 FP.fconst0) CmpOp.g ↔ sg = false := by
    have e1 : FP.fcmp x0 FP.fconst0 = Jvm.FP.Core.order (Jvm.FP.Core.val32 x0) (Jvm.FP.Core.val32 FP.fconst0) := rfl
    rw [e1, Jvm.FP.Core.order_zval Jvm.FP.Core.good_b32 hfit (Jvm.FP.Core.val32_fits _) hnn c_zero.2, c_zero.1, e]
    cases sg with
    | false =>
      have e2 : Jvm.FP.Core.zval Jvm.FP.Core.b32 (.fin false c q) = ((Jvm.FP.Core.inUnits c q Jvm.FP.Core.b32.qmin : Nat) : Int) := rfl
      rw [e2, cv_ge]
      exact ⟨fun _ => rfl, fun _ => Nat.zero_le _⟩
    | true =>
      have e2 : Jvm.FP.Core.zval Jvm.FP.Core.b32 (.fin true c q) = -((Jvm.FP.Core.inUnits c q Jvm.FP.Core.b32.qmin : Nat) : Int) := rfl
      have hpos : 0 < Jvm.FP.Core.inUnits c q Jvm.FP.Core.b32.qmin := Nat.mul_pos (Nat.pos_of_ne_zero (hz0 rfl)) (Nat.two_pow_pos _)
      rw [e2]
      generalize Jvm.FP.Core.inUnits c q Jvm.FP.Core.b32.qmin = N at hpos
      refine ⟨fun h => ?_, fun h => by cases h⟩
      exfalso
      unfold Op.cmpValue at h
      rw [Jvm.FP.Core.compare_ite, if_pos (by omega)] at h
      exact absurd h (by decide)
  -- the rest, from a size of value c * 2^q on
  have main : ∀ x1 : UInt32, f_D x1 c q → zG o 970 mdX4_floatBits 18 [(0, .float x0), (1, .float x1), (2, .int 127), (3, .int 0)] [] S (fun r S' => ∃ x, r = some (.int x) ∧ K x S') := by
    intro x1 hD
    by_cases hA : -22 ≤ q
    · have hc2 : 2 ^ 23 ≤ c := by omega
      have hKn : ((q + 23).toNat : Int) = q + 23 := by omega
      generalize hN : (q + 23).toNat = N at hKn
      refine z_down N (fun k => ∀ x1 : UInt32, f_D x1 c (q - k) → zG o 970 mdX4_floatBits 18 [(0, .float x0), (1, .float x1), (2, .int (nI (127 + k))), (3, .int (nI k))] [] S (fun r S' => ∃ x, r = some (.int x) ∧ K x S')) ?_ ?_ 0 (Nat.zero_le _) x1 (by rw [show q - ((0 : Nat) : Int) = q by omega]; exact hD)
      · intro x1 h1
        have eq23 : q - (N : Int) = -23 := by omega
        rw [eq23] at h1
        have hcmp := f_cmp h1 hc (by omega) (by omega) c_two.1 c_two.2.1
        have e149 : ((-23 : Int) + 149).toNat = 126 := by decide
        rw [e149] at hcmp
        have hlt : Op.cmpValue (FP.fcmp x1 FP.fconst2) CmpOp.l < 0 := by
          rw [hcmp, cv_lt]
          have := p_lt (k := 126) hc
          rw [← Nat.pow_add] at this
          exact this
        have fin := fin_ok (x2 := nI (127 + N)) h1 hc hq hq2 (fun _ => congrArg nI (by omega)) hsg hx0 Q hQ
        have hcmp1 := f_cmp h1 hc (by omega) (by omega) c_one.1 c_one.2.1
        rw [e149] at hcmp1
        have hge1 : 0 ≤ Op.cmpValue (FP.fcmp x1 FP.fconst1) CmpOp.g := by
          rw [hcmp1, cv_ge]
          have : 2 ^ 23 * 2 ^ 126 ≤ c * 2 ^ 126 := Nat.mul_le_mul_right _ hc2
          rw [← Nat.pow_add] at this
          exact this
        have to47 : zG o 970 mdX4_floatBits 47 [(0, .float x0), (1, .float x1), (2, .int (nI (127 + N))), (3, .int 0)] [] S (fun r S' => ∃ x, r = some (.int x) ∧ K x S') :=
          w_X4_floatBits_47 o _ _ _ _ S _ ⟨fun _ => fin, fun _ => ⟨fun _ => fin, fun _ => ⟨fun _ => fin, fun hc => absurd hge1 hc⟩⟩⟩
        exact w_X4_floatBits_18 o _ _ _ _ S _ ⟨fun _ => to47, fun _ => ⟨fun _ => to47, fun hc => absurd hlt hc⟩⟩
      · intro k hk ih x1 h1
        have hcmp := f_cmp h1 hc (by omega) (by omega) c_two.1 c_two.2.1
        have hge : ¬ Op.cmpValue (FP.fcmp x1 FP.fconst2) CmpOp.l < 0 := by
          rw [hcmp, cv_lt]
          have a : 127 ≤ (q - (k : Int) + 149).toNat := by omega
          have b : 2 ^ 127 ≤ 2 ^ (q - (k : Int) + 149).toNat := Nat.pow_le_pow_right (by omega) a
          have d : 2 ^ 23 * 2 ^ 127 ≤ c * 2 ^ (q - (k : Int) + 149).toNat := Nat.mul_le_mul hc2 b
          rw [← Nat.pow_add] at d
          omega
        have hm := f_mul h1 hc (by omega) (by omega) c_half
        have e1 : q - (k : Int) + -24 + 23 = q - ((k + 1 : Nat) : Int) := by omega
        rw [e1] at hm
        refine w_X4_floatBits_18 o _ _ _ _ S _ ⟨fun hc3 => absurd hc3 (z_ge (a := k) (b := 300) (by omega) (by decide)), fun _ => ⟨fun hc3 => absurd hc3 hge, fun _ => ⟨f_ne hm hc (by omega) (by omega), ?_⟩⟩⟩
        rw [← nI_succ, ← nI_succ]
        exact ih _ hm
    · -- less than 2
      have hlt : Op.cmpValue (FP.fcmp x1 FP.fconst2) CmpOp.l < 0 := by
        rw [f_cmp hD hc hq hq2 c_two.1 c_two.2.1, cv_lt]
        have a : (q + 149).toNat ≤ 126 := by omega
        have b : 2 ^ (q + 149).toNat ≤ 2 ^ 126 := Nat.pow_le_pow_right (by omega) a
        have d : c * 2 ^ (q + 149).toNat ≤ c * 2 ^ 126 := Nat.mul_le_mul_left _ b
        have e := p_lt (k := 126) hc
        rw [← Nat.pow_add] at e
        have e' : 2 ^ (24 + 126) = 2 ^ 150 := rfl
        omega
      have to47 : zG o 970 mdX4_floatBits 47 [(0, .float x0), (1, .float x1), (2, .int 127), (3, .int 0)] [] S (fun r S' => ∃ x, r = some (.int x) ∧ K x S') := by
        by_cases hc0 : c = 0
        · subst hc0
          have hD0 : f_D x1 0 (-23) := Eq.trans hD ((D_zero Jvm.FP.Core.b32 q).trans (D_zero Jvm.FP.Core.b32 (-23)).symm)
          have fin := fin_ok (x2 := 127) hD0 hc hq hq2 (fun h => absurd h (by omega)) hsg hx0 Q hQ
          have hle : Op.cmpValue (FP.fcmp x1 FP.fconst0) CmpOp.l ≤ 0 := by
            rw [f_cmp hD hc hq hq2 c_zero.1 c_zero.2, cv_le]
            simp
          exact w_X4_floatBits_47 o _ _ _ _ S _ ⟨fun _ => fin, fun _ => ⟨fun _ => fin, fun hc => absurd hle hc⟩⟩
        · have hKn : ((-23 - q).toNat : Int) = -23 - q := by omega
          generalize hN : (-23 - q).toNat = N at hKn
          refine z_down N (fun k => ∀ x1 : UInt32, f_D x1 c (q + k) → zG o 970 mdX4_floatBits 47 [(0, .float x0), (1, .float x1), (2, .int (nI (127 - k))), (3, .int (nI k))] [] S (fun r S' => ∃ x, r = some (.int x) ∧ K x S')) ?_ ?_ 0 (Nat.zero_le _) x1 (by rw [show q + ((0 : Nat) : Int) = q by omega]; exact hD)
          · intro x1 h1
            have eq23 : q + (N : Int) = -23 := by omega
            rw [eq23] at h1
            have fin := fin_ok (x2 := nI (127 - N)) h1 hc hq hq2 (fun _ => congrArg nI (by omega)) hsg hx0 Q hQ
            refine w_X4_floatBits_47 o _ _ _ _ S _ ⟨fun _ => fin, fun _ => ⟨fun _ => fin, fun _ => ⟨fun _ => fin, fun hlt1 => ⟨fun _ => fin, fun hx2 => ?_⟩⟩⟩⟩
            exfalso
            -- below 1, so a small one: the exponent is 1
            have hcmp1 := f_cmp h1 hc (by omega) (by omega) c_one.1 c_one.2.1
            have e149 : ((-23 : Int) + 149).toNat = 126 := by decide
            rw [e149] at hcmp1
            rw [hcmp1, cv_ge] at hlt1
            have hc3 : c < 2 ^ 23 := by
              rcases Nat.lt_or_ge c (2 ^ 23) with g | g
              · exact g
              · have : 2 ^ 23 * 2 ^ 126 ≤ c * 2 ^ 126 := Nat.mul_le_mul_right _ g
                rw [← Nat.pow_add] at this
                exact absurd this hlt1
            have : N = 126 := by omega
            rw [this] at hx2
            exact hx2 (by decide)
          · intro k hk ih x1 h1
            have hpos : ¬ Op.cmpValue (FP.fcmp x1 FP.fconst0) CmpOp.l ≤ 0 := by
              rw [f_cmp h1 hc (by omega) (by omega) c_zero.1 c_zero.2, cv_le]
              have : 0 < c * 2 ^ (q + (k : Int) + 149).toNat := Nat.mul_pos (Nat.pos_of_ne_zero hc0) (Nat.two_pow_pos _)
              omega
            have hlt1 : ¬ 0 ≤ Op.cmpValue (FP.fcmp x1 FP.fconst1) CmpOp.g := by
              rw [f_cmp h1 hc (by omega) (by omega) c_one.1 c_one.2.1, cv_ge]
              have a : (q + (k : Int) + 149).toNat ≤ 125 := by omega
              have b : 2 ^ (q + (k : Int) + 149).toNat ≤ 2 ^ 125 := Nat.pow_le_pow_right (by omega) a
              have d : c * 2 ^ (q + (k : Int) + 149).toNat ≤ c * 2 ^ 125 := Nat.mul_le_mul_left _ b
              have e := p_lt (k := 125) hc
              rw [← Nat.pow_add] at e
              have e' : 2 ^ (24 + 125) = 2 ^ 149 := rfl
              omega
            have hm := f_mul h1 hc (by omega) (by omega) c_two.2.2
            have e1 : q + (k : Int) + -22 + 23 = q + ((k + 1 : Nat) : Int) := by omega
            rw [e1] at hm
            have hx2 : ¬ nI (127 - k) ≤ 1 := z_ge (a := 1) (b := 127 - k) (by omega) (by omega)
            refine w_X4_floatBits_47 o _ _ _ _ S _ ⟨fun hc3 => absurd hc3 (z_ge (a := k) (b := 300) (by omega) (by decide)), fun _ => ⟨fun hc3 => absurd hc3 hpos, fun _ => ⟨fun hc3 => absurd hc3 hlt1, fun _ => ⟨fun hc3 => absurd hc3 hx2, fun _ => ⟨f_ne hm hc (by omega) (by omega), ?_⟩⟩⟩⟩⟩
            rw [← nI_succ]
            have em : nI (127 - k) + (-1) = nI (127 - (k + 1)) := by
              have : 127 - k = (127 - (k + 1)) + 1 := by omega
              rw [this, nI_succ]; simp [Int32.add_assoc]
            rw [em]
            exact ih _ hm
      exact w_X4_floatBits_18 o _ _ _ _ S _ ⟨fun _ => to47, fun _ => ⟨fun _ => to47, fun hc => absurd hlt hc⟩⟩
  refine w_X4_floatBits_0 o _ S _ ⟨fun h0 => main x0 ?_, fun h0 => main (FP.fneg x0) ?_⟩
  · have hs := hsg.1 h0
    subst hs
    unfold f_D
    rw [e]
    refine (Jvm.FP.Core.round_of_fits Jvm.FP.Core.good_b32 ?_).symm
    rw [← e]; exact hfit
  · have hs : sg = true := by
      cases sg with
      | true => rfl
      | false => exact absurd (hsg.2 rfl) h0
    subst hs
    unfold f_D
    have hv := Jvm.FP.val32_fneg x0
    rw [e] at hv
    rw [hv]
    refine (Jvm.FP.Core.round_of_fits Jvm.FP.Core.good_b32 ?_).symm
    have := Jvm.FP.Core.negate_fits hfit
    rw [e] at this
    exact this
end FLC
