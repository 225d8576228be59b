theorem z_to {K : zS → Prop} {S S' : zS} (h : K S) (h1 : ∀ q t, S.1 q t = S'.1 q t) (h2 : ∀ q t, S.2.1 q t = S'.2.1 q t) (h3 : ∀ q t, S.2.2 q t = S'.2.2 q t) : K S' := by
  rw [← z_ext h1 h2 h3]; exact h
def c_renewL (S : zS) (i : Nat) : zS := sL (sL (sI (sI (sI S (12, i, 0) 3 0) (12, i, 0) 4 0) (12, i, 0) 5 0) (12, i, 0) 6 0) (12, i, 0) 7 0
def c_ans (S : zS) (i : Nat) (w : Int32) : zS := sL (sL (sI (sI S (12, i, 0) 4 (S.1 (12, i, 0) 4 + 1)) (12, i, 0) 5 (if S.1 (12, i, 0) 5 < w then w else S.1 (12, i, 0) 5)) (12, i, 0) 6 (S.2.1 (12, i, 0) 6 + w.toInt64)) (12, i, 0) 7 (S.2.1 (12, i, 0) 7 + w.toInt64 * w.toInt64)
/-- the number that the class keeps of a LOAD -/
abbrev c_ln (k : Nat) : Int32 := if k < 200 then nI k else -1
def c_answer (S : zS) (i k : Nat) (v w : Int32) : zS := c_ans (if k < 200 then sI (sI S (13, i, 0) k v) (14, i, 0) k w else S) i w
def c_add (S : zS) (i k : Nat) (t : Int32) : zS := if k < 200 then sI (sI (sI (sI S (13, i, 0) k (-1)) (14, i, 0) k (-1)) (15, i, 0) k t) (12, i, 0) 3 (nI (k + 1)) else S
section SPL
variable {o : zW} {n i : Nat}
theorem sp_renewL (hi : i < 8) (hn : z_sb i + 120 ≤ n) (S : zS) (K : zS → Prop) (hK : K (c_renewL S i)) : zGv o n mdX1_renew [.ref (z_adr o (12, i, 0))] S K :=
  w_X1_renew_0 o n i hi hn S _ (fun S1 e => ⟨rfl, by subst e; exact hK⟩)
theorem sp_add (hi : i < 8) (hn : z_sb i + 120 ≤ n) (k : Nat) (hk : k < 2 ^ 31) (t : Int32) (S : zS) (h3 : S.1 (12, i, 0) 3 = nI (min k 200)) (K : Int32 → zS → Prop) (hK : K (c_ln k) (c_add S i k t)) : zGi o n mdX1_add [.ref (z_adr o (12, i, 0)), .int t] S K := by
  refine w_X1_add_0 o n i hi hn _ S _ ?_
  rw [h3]
  refine ⟨fun h => absurd h (nI_pos (by omega)), fun _ => ?_⟩
  by_cases hk2 : k < 200
  · have e : min k 200 = k := by omega
    rw [e] at h3 ⊢
    refine ⟨fun _ => ⟨z_in hk2 (by omega), fun y3 e3 => ?_⟩, fun h => absurd (nI_lt hk2 (by decide)) h⟩
    have e3' : y3 = nI k := by rw [e3]; simpa [sI] using h3
    subst e3'
    refine ⟨z_in hk2 (by omega), fun S4 e4 => ?_⟩
    rw [z_cl (by omega)] at e4
    have e4' : S4.1 (12, i, 0) 3 = nI k := by rw [e4]; simpa [sI] using h3
    rw [e4']
    refine ⟨z_in hk2 (by omega), fun y5 e5 S6 e6 => ⟨_, rfl, ?_⟩⟩
    have e5' : y5 = nI k := by rw [e5]; simpa [sI] using e4'
    subst e5'
    rw [z_cl (by omega), ← nI_succ] at e6
    have e6' : S6.1 (12, i, 0) 3 = nI (k + 1) := by rw [e6]; simp [sI]
    rw [e6', nI_pred, e6, e4]
    simpa [c_ln, c_add, hk2] using hK
  · have e : min k 200 = 200 := by omega
    rw [e]
    refine ⟨fun h => absurd h (by decide), fun _ => ⟨_, rfl, ?_⟩⟩
    simpa [c_ln, c_add, hk2] using hK
theorem sp_answer (hi : i < 8) (hn : z_sb i + 120 ≤ n) (k : Nat) (v w : Int32) (S : zS) (K : zS → Prop) (hK : K (c_answer S i k v w)) : zGv o n mdX1_answer [.ref (z_adr o (12, i, 0)), .int (c_ln k), .int v, .int w] S K := by
  refine w_X1_answer_0 o n i hi hn _ _ _ S _ ?_
  by_cases hk : k < 200
  · have e : c_ln k = nI k := by simp [c_ln, hk]
    rw [e]
    refine ⟨fun h => absurd h (nI_pos (by omega)), fun _ => ⟨fun h => absurd h (z_ge hk (by decide)), fun _ => ⟨z_in hk (by omega), z_in hk (by omega), fun S12 e12 y13 e13 => ⟨fun hc y15 e15 S16 e16 S17 e17 => ⟨rfl, ?_⟩, fun hc S18 e18 S19 e19 => ⟨rfl, ?_⟩⟩⟩⟩⟩
    · rw [z_cl (by omega)] at e12
      subst e17; subst e16; subst e15; subst e13; subst e12
      have hc' : ¬ S.1 (12, i, 0) 5 < w := by
        intro hl
        have : w ≤ S.1 (12, i, 0) 5 := by simpa [sI] using hc
        exact absurd hl (Int32.not_lt.mpr this)
      simp only [c_answer, c_ans, if_pos hk] at hK
      refine z_to hK (fun q t => ?_) (fun q t => ?_) (fun q t => ?_)
      · simp [sI, sL, hc']
      · simp [sI, sL]
      · simp [sI, sL]
    · rw [z_cl (by omega)] at e12
      subst e19; subst e18; subst e13; subst e12
      have hc' : S.1 (12, i, 0) 5 < w := by
        have : ¬ w ≤ S.1 (12, i, 0) 5 := by simpa [sI] using hc
        exact Int32.not_le.mp this
      simp only [c_answer, c_ans, if_pos hk] at hK
      refine z_to hK (fun q t => ?_) (fun q t => ?_) (fun q t => ?_)
      · simp [sI, sL, hc']
      · simp [sI, sL]
      · simp [sI, sL]
  · have e : c_ln k = -1 := by simp [c_ln, hk]
    rw [e]
    refine ⟨fun _ => ⟨fun hc S3 e3 S4 e4 => ⟨rfl, ?_⟩, fun hc S5 e5 => ⟨rfl, ?_⟩⟩, fun h => absurd (by decide) h⟩
    · subst e4; subst e3
      have hc' : ¬ S.1 (12, i, 0) 5 < w := by
        intro hl
        have : w ≤ S.1 (12, i, 0) 5 := by simpa [sI] using hc
        exact absurd hl (Int32.not_lt.mpr this)
      simp only [c_answer, c_ans, if_neg hk] at hK
      refine z_to hK (fun q t => ?_) (fun q t => ?_) (fun q t => ?_)
      · simp [sI, sL, hc']
      · simp [sI, sL]
      · simp [sI, sL]
    · subst e5
      have hc' : S.1 (12, i, 0) 5 < w := by
        have : ¬ w ≤ S.1 (12, i, 0) 5 := by simpa [sI] using hc
        exact Int32.not_le.mp this
      simp only [c_answer, c_ans, if_neg hk] at hK
      refine z_to hK (fun q t => ?_) (fun q t => ?_) (fun q t => ?_)
      · simp [sI, sL, hc']
      · simp [sI, sL]
      · simp [sI, sL]
def c_tal (S : zS) (i w : Nat) (p : UInt32) : zS := sF (sI S (3, i, 0) w (S.1 (3, i, 0) w + 1)) (1, i, 0) 4 (FP.fadd (S.2.2 (1, i, 0) 4) p)
theorem sp_tally (hi : i < 8) (hn : z_sb i + 120 ≤ n) (w : Nat) (hw : w < 10) (p : UInt32) (S : zS) (hp : vf_n32 (FP.fadd (S.2.2 (1, i, 0) 4) p)) (K : zS → Prop) (hK : K (c_tal S i w p)) : zGv o n mdX2_tally [.ref (z_adr o (1, i, 0)), .int (nI w), .float p] S K := by
  refine w_X2_tally_0 o n i hi hn _ _ S _ ⟨fun h => absurd h (nI_pos (by omega)), fun _ => ⟨fun h => absurd h (z_ge hw (by decide)), fun _ => ⟨z_in hw (by omega), z_in hw (by omega), fun S3 e3 => ?_⟩⟩⟩
  rw [z_cl (by omega)] at e3
  subst e3
  exact ⟨hp, rfl, hK⟩
def c_use (S : zS) (i b : Nat) : zS := sI (sI S (1, i, 0) 7 (S.1 (1, i, 0) 7 + 1)) (5, i, b) 11 (S.1 (1, i, 0) 7 + 1)
theorem sp_use (hi : i < 8) (hn : z_sb i + 120 ≤ n) {b : Nat} (hb : b < 16) (S : zS) (K : zS → Prop) (hK : K (c_use S i b)) : zGv o n mdX2_use [.ref (z_adr o (1, i, 0)), .ref (z_adr o (5, i, b))] S K := by
  refine w_X2_use_0 o n i hi hn b hb S _ (fun S1 e => ⟨rfl, ?_⟩)
  subst e
  simpa [c_use, sI] using hK
def c_due (S : zS) (i b : Nat) (w : Int32) : zS := sI (sI S (5, i, b) 10 (S.1 (3, i, 0) 9 + w)) (1, i, 0) 8 (if S.1 (1, i, 0) 8 ≤ S.1 (3, i, 0) 9 + w then S.1 (1, i, 0) 8 else S.1 (3, i, 0) 9 + w)
theorem sp_setDue (hi : i < 8) (hn : z_sb i + 120 ≤ n) {b : Nat} (hb : b < 16) (w : Int32) (S : zS) (K : zS → Prop) (hK : K (c_due S i b w)) : zGv o n mdX2_setDue [.ref (z_adr o (1, i, 0)), .ref (z_adr o (5, i, b)), .int w] S K := by
  refine w_X2_setDue_0 o n i hi hn b hb _ S _ ⟨fun hc S2 e => ⟨rfl, ?_⟩, fun hc S3 e => ⟨rfl, ?_⟩⟩
  · subst e
    have hc' : S.1 (1, i, 0) 8 ≤ S.1 (3, i, 0) 9 + w := by simpa [sI] using hc
    simp only [c_due, if_pos hc'] at hK
    simpa [sI] using hK
  · subst e
    have hc' : ¬ S.1 (1, i, 0) 8 ≤ S.1 (3, i, 0) 9 + w := by simpa [sI] using hc
    simp only [c_due, if_neg hc'] at hK
    simpa [sI] using hK
end SPL
