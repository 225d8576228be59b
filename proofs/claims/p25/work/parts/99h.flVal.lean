/-! the numbers with a point: finite, and no negative zero -/
def m_fok (x : UInt32) : Prop := x.toNat % 2 ^ 31 < 2139095040 ∧ x.toNat ≠ 2 ^ 31
def m_dok (x : UInt64) : Prop := x.toNat % 2 ^ 63 < 9218868437227405312 ∧ x.toNat ≠ 2 ^ 63
theorem fok_cost {c : UInt32} (h : m_cok c) : m_fok c := by
  unfold m_cok at h
  unfold m_fok
  omega
theorem fok_0 : m_fok 0 := by unfold m_fok; decide
theorem dok_0 : m_dok 0 := by unfold m_dok; decide
theorem fok_nn {x : UInt32} (h : m_fok x) : Jvm.FP.Core.val32 x ≠ .nan ∧ vf_n32 x := by
  have : x.toNat % 2 ^ 31 ≤ 2139095040 := by have := h.1; omega
  exact ⟨(Jvm.FP.Core.ne_nan32 x).2 this, (fb_n32 x).2 this⟩
theorem dok_nn {x : UInt64} (h : m_dok x) : Jvm.FP.Core.val64 x ≠ .nan ∧ vf_n64 x := by
  have : x.toNat % 2 ^ 63 ≤ 9218868437227405312 := by have := h.1; omega
  exact ⟨(Jvm.FP.Core.ne_nan x).2 this, (fb_n64 x).2 this⟩
theorem fok_i2f (v : Int32) : m_fok (FP.i2f v) := by
  have hm := Jvm.FP.Core.i2f_mag v
  refine ⟨by show (Jvm.FP.Core.i2f v).toNat % 2 ^ 31 < _; omega, fun h => ?_⟩
  by_cases hv : v = 0
  · subst hv
    exact absurd h (by decide +kernel)
  · have := Jvm.FP.Core.i2f_ne_zero hv
    have h' : (Jvm.FP.Core.i2f v).toNat = 2 ^ 31 := h
    rw [h'] at this
    exact this (by decide)
/-- what is not zero stays so, divided -/
theorem div_pos {f : Jvm.FP.Core.Fmt} (hf : Jvm.FP.Core.Good f) {s : Bool} {n c d : Nat} {q r : Int} (hn : Jvm.FP.Core.decode f n = Jvm.FP.Core.roundRatio f s c d (q - r)) (hc : 2 ^ (f.p - 1) ≤ c) (hd0 : 0 < d) (hd : d < 2 ^ f.p) (hqr : f.qmin + 1 ≤ q - r) (h1 : Jvm.FP.Core.unitsOf f 1 = 1) (h2 : 1 ≤ Jvm.FP.Core.infBits f) : 1 ≤ Jvm.FP.Core.mag f n := by
  refine Jvm.FP.Core.mag_ge hf hn hd0 (e0 := f.qmin) (Int.le_refl _) (by omega) h2 ?_
  rw [h1]
  simp only [Int.sub_self, Int.toNat_zero, Nat.pow_zero, Nat.one_mul, Nat.mul_one]
  unfold Jvm.FP.Core.inUnits
  have e1 : 1 ≤ (q - r - f.qmin).toNat := by omega
  have e2 : 2 ^ 1 ≤ 2 ^ (q - r - f.qmin).toNat := Nat.pow_le_pow_right (by decide) e1
  have e3 : 2 ^ (f.p - 1) * 2 ^ 1 ≤ c * 2 ^ (q - r - f.qmin).toNat := Nat.mul_le_mul hc e2
  rw [← Nat.pow_add] at e3
  have hp := hf.2
  have e4 : f.p - 1 + 1 = f.p := by omega
  rw [e4] at e3
  omega
/-- a whole number's significand and exponent -/
theorem l2f_parts {W : Int64} (h : W ≠ 0) : ∃ s c q, Jvm.FP.Core.val32 (FP.l2f W) = .fin s c q ∧ 2 ^ 23 ≤ c ∧ -23 ≤ q := by
  have hb := Jvm.FP.Core.l2f_big (Jvm.FP.Core.int64_ne h)
  obtain ⟨s, c, q, e, h1, h2, h3, h4, h5⟩ := fb_parts (FP.l2f W) (by have := hb.2; show (Jvm.FP.Core.l2f W).toNat % 2 ^ 31 < _; omega)
  have h5' : (Jvm.FP.Core.l2f W).toNat = _ := h5
  refine ⟨s, c, q, e, ?_, ?_⟩
  · rcases Nat.lt_or_ge c (2 ^ 23) with g | g
    · rw [if_pos g] at h5'
      cases s <;> simp at h5' <;> omega
    · exact g
  · by_cases g : c < 2 ^ 23
    · rw [if_pos g] at h5'
      cases s <;> simp at h5' <;> omega
    · rw [if_neg g] at h5'
      cases s <;> simp at h5' <;> omega
theorem i2f_parts {v : Int32} (h : v ≠ 0) : ∃ t d r, Jvm.FP.Core.val32 (FP.i2f v) = .fin t d r ∧ 0 < d ∧ d < 2 ^ 24 ∧ r ≤ 9 ∧ (0 < v.toInt → t = false) := by
  have hb := Jvm.FP.Core.i2f_big (Jvm.FP.Core.int32_ne h)
  have hm := Jvm.FP.Core.i2f_mag v
  obtain ⟨s, c, q, e, h1, h2, h3, h4, h5⟩ := fb_parts (FP.i2f v) (by have := hb.2; show (Jvm.FP.Core.i2f v).toNat % 2 ^ 31 < _; omega)
  have h5' : (Jvm.FP.Core.i2f v).toNat = _ := h5
  have hc : 2 ^ 23 ≤ c := by
    rcases Nat.lt_or_ge c (2 ^ 23) with g | g
    · rw [if_pos g] at h5'
      cases s <;> simp at h5' <;> omega
    · exact g
  refine ⟨s, c, q, e, by omega, h1, ?_, fun hv => ?_⟩
  · rw [if_neg (show ¬ c < 2 ^ 23 by omega)] at h5'
    cases s <;> simp at h5' <;> omega
  · have : Jvm.FP.Core.val32 (FP.i2f v) = Jvm.FP.Core.roundRatio Jvm.FP.Core.b32 (decide (v.toInt < 0)) v.toInt.natAbs 1 0 := Jvm.FP.Core.val32_i2f v
    have hs := Jvm.FP.Core.sgn_roundRatio Jvm.FP.Core.b32 (decide (v.toInt < 0)) v.toInt.natAbs 1 0
    rw [← this, e] at hs
    have hs' : s = decide (v.toInt < 0) := hs
    rw [hs']
    simp; omega
/-- the mean -/
theorem fok_mean (W : Int64) {G : Int32} (hG : 0 < G.toInt) : m_fok (FP.fdiv (FP.l2f W) (FP.i2f G)) := by
  have hG0 : G ≠ 0 := fun e => by subst e; exact absurd hG (by decide)
  have hb := Jvm.FP.Core.i2f_big (Jvm.FP.Core.int32_ne hG0)
  have hd := Jvm.FP.Core.fdiv_mag (a := FP.l2f W) (b := FP.i2f G) (K := 192) (L := 127) (Jvm.FP.Core.l2f_mag W) hb.1 hb.2 (by omega) (by omega)
  refine ⟨by show (Jvm.FP.Core.fdiv (FP.l2f W) (FP.i2f G)).toNat % 2 ^ 31 < _; omega, fun h => ?_⟩
  obtain ⟨t, d, r, e2, d1, d2, r9, ht⟩ := i2f_parts hG0
  have ht' := ht hG
  subst ht'
  have hv := Jvm.FP.Core.val32_fdiv (FP.l2f W) (FP.i2f G)
  by_cases hW : W = 0
  · subst hW
    have e1 : Jvm.FP.Core.val32 (FP.l2f 0) = .fin false 0 (-149) := by decide +kernel
    rw [e1, e2] at hv
    have hv' : Jvm.FP.Core.val32 (FP.fdiv (FP.l2f 0) (FP.i2f G)) = Jvm.FP.Core.roundRatio Jvm.FP.Core.b32 (false != false) 0 d (-149 - r) := by
      rw [show Jvm.FP.Core.val32 (FP.fdiv (FP.l2f 0) (FP.i2f G)) = _ from hv]
      unfold Jvm.FP.Core.quotient
      simp only [if_neg (by omega : ¬ d = 0)]
    have hs := Jvm.FP.Core.sgn_roundRatio Jvm.FP.Core.b32 (false != false) 0 d (-149 - r)
    have hnn : Jvm.FP.Core.val32 (FP.fdiv (FP.l2f 0) (FP.i2f G)) ≠ .nan := by rw [hv']; exact Jvm.FP.Core.roundRatio_ne_nan _ _ _ _ _
    rw [← hv', Jvm.FP.Core.sgn_bits32 hnn, h] at hs
    exact absurd hs (by decide)
  · obtain ⟨s, c, q, e1, hc, hq⟩ := l2f_parts hW
    rw [e1, e2] at hv
    have hv' : Jvm.FP.Core.val32 (FP.fdiv (FP.l2f W) (FP.i2f G)) = Jvm.FP.Core.roundRatio Jvm.FP.Core.b32 (s != false) c d (q - r) := by
      rw [show Jvm.FP.Core.val32 (FP.fdiv (FP.l2f W) (FP.i2f G)) = _ from hv]
      unfold Jvm.FP.Core.quotient
      simp only [if_neg (by omega : ¬ d = 0)]
    have hqm : Jvm.FP.Core.b32.qmin = -149 := Jvm.FP.Core.qmin_b32
    have := div_pos Jvm.FP.Core.good_b32 (n := (FP.fdiv (FP.l2f W) (FP.i2f G)).toNat) hv' hc d1 d2 (by rw [hqm]; omega) (by decide) (by decide)
    rw [Jvm.FP.Core.mag_toNat32, h] at this
    exact absurd this (by decide)
/-! doubles -/
theorem l2d_parts {W : Int64} (h : W ≠ 0) : ∃ s c q, Jvm.FP.Core.val64 (FP.l2d W) = .fin s c q ∧ 2 ^ 52 ≤ c ∧ -52 ≤ q := by
  have hb := Jvm.FP.Core.l2d_big (Jvm.FP.Core.int64_ne h)
  obtain ⟨s, c, q, e, h1, h2, h3, h4, h5⟩ := db_parts (FP.l2d W) (by have := hb.2; show (Jvm.FP.Core.l2d W).toNat % 2 ^ 63 < _; omega)
  have h5' : (Jvm.FP.Core.l2d W).toNat = _ := h5
  refine ⟨s, c, q, e, ?_, ?_⟩
  · rcases Nat.lt_or_ge c (2 ^ 52) with g | g
    · rw [if_pos g] at h5'
      cases s <;> simp at h5' <;> omega
    · exact g
  · by_cases g : c < 2 ^ 52
    · rw [if_pos g] at h5'
      cases s <;> simp at h5' <;> omega
    · rw [if_neg g] at h5'
      cases s <;> simp at h5' <;> omega
theorem i2d_parts {v : Int32} (h : v ≠ 0) : ∃ t d r, Jvm.FP.Core.val64 (FP.i2d v) = .fin t d r ∧ 0 < d ∧ d < 2 ^ 53 ∧ r ≤ -20 ∧ (0 < v.toInt → t = false) := by
  have hb := Jvm.FP.Core.i2d_big (Jvm.FP.Core.int32_ne h)
  have hm := Jvm.FP.Core.i2d_mag v
  obtain ⟨s, c, q, e, h1, h2, h3, h4, h5⟩ := db_parts (FP.i2d v) (by have := hb.2; show (Jvm.FP.Core.i2d v).toNat % 2 ^ 63 < _; omega)
  have h5' : (Jvm.FP.Core.i2d v).toNat = _ := h5
  have hc : 2 ^ 52 ≤ c := by
    rcases Nat.lt_or_ge c (2 ^ 52) with g | g
    · rw [if_pos g] at h5'
      cases s <;> simp at h5' <;> omega
    · exact g
  refine ⟨s, c, q, e, by omega, h1, ?_, fun hv => ?_⟩
  · rw [if_neg (show ¬ c < 2 ^ 52 by omega)] at h5'
    cases s <;> simp at h5' <;> omega
  · have : Jvm.FP.Core.val64 (FP.i2d v) = Jvm.FP.Core.roundRatio Jvm.FP.Core.b64 (decide (v.toInt < 0)) v.toInt.natAbs 1 0 := Jvm.FP.Core.val64_i2d v
    have hs := Jvm.FP.Core.sgn_roundRatio Jvm.FP.Core.b64 (decide (v.toInt < 0)) v.toInt.natAbs 1 0
    rw [← this, e] at hs
    have hs' : s = decide (v.toInt < 0) := hs
    rw [hs']
    simp; omega
/-- a quotient: its size; below 0 it is not 0 -/
theorem ddiv_ok (W : Int64) {G : Int32} (hG : 0 < G.toInt) : (FP.ddiv (FP.l2d W) (FP.i2d G)).toNat % 2 ^ 63 < 1089 * 2 ^ 52 ∧ (Jvm.FP.Core.sgn (Jvm.FP.Core.val64 (FP.ddiv (FP.l2d W) (FP.i2d G))) = true → (FP.ddiv (FP.l2d W) (FP.i2d G)).toNat % 2 ^ 63 ≠ 0) := by
  have hG0 : G ≠ 0 := fun e => by subst e; exact absurd hG (by decide)
  have hb := Jvm.FP.Core.i2d_big (Jvm.FP.Core.int32_ne hG0)
  have hd := Jvm.FP.Core.ddiv_mag (a := FP.l2d W) (b := FP.i2d G) (K := 1088) (L := 1023) (Jvm.FP.Core.l2d_mag W) hb.1 hb.2 (by omega) (by omega)
  refine ⟨by show (Jvm.FP.Core.ddiv (FP.l2d W) (FP.i2d G)).toNat % 2 ^ 63 < _; omega, fun h => ?_⟩
  obtain ⟨t, d, r, e2, d1, d2, r9, ht⟩ := i2d_parts hG0
  have ht' := ht hG
  subst ht'
  have hv := Jvm.FP.Core.val64_ddiv (FP.l2d W) (FP.i2d G)
  by_cases hW : W = 0
  · exfalso
    subst hW
    have e1 : Jvm.FP.Core.val64 (FP.l2d 0) = .fin false 0 (-1074) := by decide +kernel
    rw [e1, e2] at hv
    have hv' : Jvm.FP.Core.val64 (FP.ddiv (FP.l2d 0) (FP.i2d G)) = Jvm.FP.Core.roundRatio Jvm.FP.Core.b64 (false != false) 0 d (-1074 - r) := by
      rw [show Jvm.FP.Core.val64 (FP.ddiv (FP.l2d 0) (FP.i2d G)) = _ from hv]
      unfold Jvm.FP.Core.quotient
      simp only [if_neg (by omega : ¬ d = 0)]
    rw [hv', Jvm.FP.Core.sgn_roundRatio] at h
    exact absurd h (by decide)
  · obtain ⟨s, c, q, e1, hc, hq⟩ := l2d_parts hW
    rw [e1, e2] at hv
    have hv' : Jvm.FP.Core.val64 (FP.ddiv (FP.l2d W) (FP.i2d G)) = Jvm.FP.Core.roundRatio Jvm.FP.Core.b64 (s != false) c d (q - r) := by
      rw [show Jvm.FP.Core.val64 (FP.ddiv (FP.l2d W) (FP.i2d G)) = _ from hv]
      unfold Jvm.FP.Core.quotient
      simp only [if_neg (by omega : ¬ d = 0)]
    have hqm : Jvm.FP.Core.b64.qmin = -1074 := Jvm.FP.Core.qmin_b64
    have := div_pos Jvm.FP.Core.good_b64 (n := (FP.ddiv (FP.l2d W) (FP.i2d G)).toNat) hv' hc d1 d2 (by rw [hqm]; omega) (by decide) (by decide)
    rw [Jvm.FP.Core.mag_toNat64] at this
    omega
theorem dsub_ok {a b : UInt64} (ha : a.toNat % 2 ^ 63 < 1200 * 2 ^ 52) (hb : b.toNat % 2 ^ 63 < 1200 * 2 ^ 52) (has : Jvm.FP.Core.sgn (Jvm.FP.Core.val64 a) = true → a.toNat % 2 ^ 63 ≠ 0) (hbs : Jvm.FP.Core.sgn (Jvm.FP.Core.val64 b) = false) : m_dok (FP.dsub a b) := by
  have hd := Jvm.FP.Core.dsub_mag ha hb (by omega)
  refine ⟨by show (Jvm.FP.Core.dsub a b).toNat % 2 ^ 63 < _; omega, fun h => ?_⟩
  have fa := Jvm.FP.Core.fin_of_lt ha (by omega)
  have fb := Jvm.FP.Core.fin_of_lt hb (by omega)
  have za := Jvm.FP.Core.zmag_bits fa.ne_nan
  obtain ⟨s, c, q, e1⟩ := id fa
  obtain ⟨t, d, r, e2⟩ := id fb
  have f1 := Jvm.FP.Core.val64_fits a
  have f2 := Jvm.FP.Core.val64_fits b
  have hv := Jvm.FP.Core.val64_dsub a b
  rw [e1] at f1 has za
  rw [e2] at f2 hbs
  have ht : t = false := hbs
  subst ht
  have f3 := Jvm.FP.Core.negate_fits f2
  obtain ⟨sg, n, e, x1, x2, x3⟩ := Jvm.FP.Core.sum_units f1 f3
  have x1b : Jvm.FP.Core.exactSum (.fin s c q) (Jvm.FP.Core.negate (.fin false d r)) = .fin sg n e := x1
  rw [e1, e2, x1b] at hv
  have hv' : Jvm.FP.Core.val64 (FP.dsub a b) = Jvm.FP.Core.roundRatio Jvm.FP.Core.b64 sg n 1 e := hv
  have hnn : Jvm.FP.Core.val64 (FP.dsub a b) ≠ .nan := by rw [hv']; exact Jvm.FP.Core.roundRatio_ne_nan _ _ _ _ _
  have hs := Jvm.FP.Core.sgn_bits hnn
  rw [hv', Jvm.FP.Core.sgn_roundRatio, h] at hs
  have hsg : sg = true := by rw [hs]; decide
  subst hsg
  -- not 0
  have hN : Jvm.FP.Core.inUnits n e Jvm.FP.Core.b64.qmin = 0 := by
    rcases Nat.eq_zero_or_pos (Jvm.FP.Core.inUnits n e Jvm.FP.Core.b64.qmin) with g | g
    · exact g
    · have := Jvm.FP.Core.mag_ge Jvm.FP.Core.good_b64 (n := (FP.dsub a b).toNat) (m := 1) hv' (by decide) (e0 := Jvm.FP.Core.b64.qmin) (Int.le_refl _) x2 (by decide) (by
        have u1 : Jvm.FP.Core.unitsOf Jvm.FP.Core.b64 1 = 1 := by decide
        rw [u1]
        simp only [Int.sub_self, Int.toNat_zero, Nat.pow_zero, Nat.mul_one]
        exact g)
      rw [Jvm.FP.Core.mag_toNat64, h] at this
      exact absurd this (by decide)
  -- then the sum of the signs
  have x1' : Jvm.FP.Core.Datum.fin (Jvm.FP.Core.sumSign s true (Jvm.FP.Core.sumUnits s c q true d r (min q r))) (Jvm.FP.Core.sumUnits s c q true d r (min q r)).natAbs (min q r) = .fin true n e := x1
  have xs : Jvm.FP.Core.sumSign s true (Jvm.FP.Core.sumUnits s c q true d r (min q r)) = true ∧ (Jvm.FP.Core.sumUnits s c q true d r (min q r)).natAbs = n := by
    injection x1' with i1 i2 i3
    exact ⟨i1, i2⟩
  rw [hN] at x3
  have hn0 : n = 0 := by
    rcases Nat.eq_zero_or_pos n with g | g
    · exact g
    · exfalso
      have : 0 < Jvm.FP.Core.inUnits n e Jvm.FP.Core.b64.qmin := Nat.mul_pos g (Nat.two_pow_pos _)
      omega
  have hv0 : Jvm.FP.Core.sumUnits s c q true d r (min q r) = 0 := by
    have := xs.2
    rw [hn0] at this
    exact Int.natAbs_eq_zero.1 this
  have hss := xs.1
  rw [hv0] at hss
  unfold Jvm.FP.Core.sumSign at hss
  rw [if_pos rfl] at hss
  have hst : s = true := by simpa using hss
  subst hst
  have hpos := has rfl
  have zx : Jvm.FP.Core.zval Jvm.FP.Core.b64 (.fin true c q) = -((Jvm.FP.Core.zmag Jvm.FP.Core.b64 (.fin true c q) : Nat) : Int) := rfl
  have zy : Jvm.FP.Core.zval Jvm.FP.Core.b64 (.fin true d r) = -((Jvm.FP.Core.zmag Jvm.FP.Core.b64 (.fin true d r) : Nat) : Int) := rfl
  have zz : Jvm.FP.Core.signed true 0 = 0 := rfl
  have x3' : Jvm.FP.Core.signed true 0 = Jvm.FP.Core.zval Jvm.FP.Core.b64 (.fin true c q) + Jvm.FP.Core.zval Jvm.FP.Core.b64 (.fin true d r) := x3
  rw [zz, zx, zy, za] at x3'
  have hu : 0 < Jvm.FP.Core.unitsOf Jvm.FP.Core.b64 (a.toNat % 2 ^ 63) := by
    rcases Nat.eq_zero_or_pos (Jvm.FP.Core.unitsOf Jvm.FP.Core.b64 (a.toNat % 2 ^ 63)) with g | g
    · exact absurd (Jvm.FP.Core.unitsOf_eq_zero.1 g) hpos
    · exact g
  generalize Jvm.FP.Core.unitsOf Jvm.FP.Core.b64 (a.toNat % 2 ^ 63) = u at *
  generalize Jvm.FP.Core.zmag Jvm.FP.Core.b64 (.fin true d r) = v at *
  omega
/-- how even -/
abbrev m_ev (W X : Int64) (G : Int32) : UInt64 := FP.dsub (FP.ddiv (FP.l2d X) (FP.i2d G)) (FP.dmul (FP.ddiv (FP.l2d W) (FP.i2d G)) (FP.ddiv (FP.l2d W) (FP.i2d G)))
theorem dok_ev (W X : Int64) {G : Int32} (hG : 0 < G.toInt) : m_dok (m_ev W X G) ∧ vf_n64 (FP.ddiv (FP.l2d W) (FP.i2d G)) ∧ vf_n64 (FP.ddiv (FP.l2d X) (FP.i2d G)) ∧ vf_n64 (FP.dmul (FP.ddiv (FP.l2d W) (FP.i2d G)) (FP.ddiv (FP.l2d W) (FP.i2d G))) := by
  obtain ⟨w1, w2⟩ := ddiv_ok W hG
  obtain ⟨x1, x2⟩ := ddiv_ok X hG
  have hm := Jvm.FP.Core.dmul_mag (a := FP.ddiv (FP.l2d W) (FP.i2d G)) (b := FP.ddiv (FP.l2d W) (FP.i2d G)) (Ka := 1089) (Kb := 1089) w1 w1 (by omega) (by omega)
  have hm' : (FP.dmul (FP.ddiv (FP.l2d W) (FP.i2d G)) (FP.ddiv (FP.l2d W) (FP.i2d G))).toNat % 2 ^ 63 < 1156 * 2 ^ 52 := hm
  refine ⟨dsub_ok (by omega) (by omega) x2 ?_, (fb_n64 _).2 (by omega), (fb_n64 _).2 (by omega), (fb_n64 _).2 (by omega)⟩
  have fa := Jvm.FP.Core.fin_of_lt w1 (by omega)
  obtain ⟨s, c, q, e⟩ := id fa
  have hv := Jvm.FP.Core.val64_dmul (FP.ddiv (FP.l2d W) (FP.i2d G)) (FP.ddiv (FP.l2d W) (FP.i2d G))
  rw [e] at hv
  have hv' : Jvm.FP.Core.val64 (FP.dmul (FP.ddiv (FP.l2d W) (FP.i2d G)) (FP.ddiv (FP.l2d W) (FP.i2d G))) = Jvm.FP.Core.roundRatio Jvm.FP.Core.b64 (s != s) (c * c) 1 (q + q) := hv
  rw [hv', Jvm.FP.Core.sgn_roundRatio]
  cases s <;> rfl
