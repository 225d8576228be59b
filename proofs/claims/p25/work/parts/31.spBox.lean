/-! small helpers -/
theorem z_ext {S S' : zS} (h1 : ∀ q t, S.1 q t = S'.1 q t) (h2 : ∀ q t, S.2.1 q t = S'.2.1 q t) (h3 : ∀ q t, S.2.2 q t = S'.2.2 q t) : S = S' := by
  obtain ⟨a, b, c⟩ := S
  obtain ⟨a', b', c'⟩ := S'
  have e1 : a = a' := funext fun q => funext fun t => h1 q t
  have e2 : b = b' := funext fun q => funext fun t => h2 q t
  have e3 : c = c' := funext fun q => funext fun t => h3 q t
  rw [e1, e2, e3]
theorem z_cl {k : Nat} (h : k < 2 ^ 31) : (nI k).toNatClampNeg = k := nI_clamp h
theorem z_ge {a b : Nat} (h : a < b) (hb : b < 2 ^ 31) : ¬ nI b ≤ nI a := nI_ge h hb
theorem z_in {k N : Nat} (h : k < N) (hN : N < 2 ^ 31) : vp_in (nI k) N := vp_in_nI h hN
/-- a loop over k = 0 .. N, told from its end -/
theorem z_down (N : Nat) (P : Nat → Prop) (h0 : P N) (hs : ∀ k, k < N → P (k + 1) → P k) : ∀ k, k ≤ N → P k := by
  intro k hk
  obtain ⟨d, hd⟩ : ∃ d, k + d = N := ⟨N - k, by omega⟩
  induction d generalizing k with
  | zero => have : k = N := by omega
            subst this; exact h0
  | succ d ih => exact hs k (by omega) (ih (k + 1) (by omega) (by omega))
/-! Box: what its methods do to the memory -/
def c_far (S : zS) (i b m : Nat) : zS := (fun q t => if q = (6, i, b) ∧ t < m ∧ m_bit (S.1 (5, i, b) 9) t = 1 then S.1 (7, i, b) t else S.1 q t, S.2)
def c_goFar (S : zS) (i b : Nat) : zS := sI (sI (sI (c_far S i b 4) (5, i, b) 8 0) (5, i, b) 9 0) (5, i, b) 10 2000000000
section SPB
variable {o : zW} {n i b : Nat}
theorem sp_goFar (hi : i < 8) (hn : z_sb i + 120 ≤ n) (hb : b < 16) (S : zS) (K : zS → Prop) (hK : K (c_goFar S i b)) : zGv o n mdX0_goFar [.ref (z_adr o (5, i, b))] S K := by
  refine w_X0_goFar_0 o n i hi hn b hb S _ ?_
  have key := z_down 4 (fun k => zG o n mdX0_goFar 2 [(0, .ref (z_adr o (5, i, b))), (1, .int (nI k))] [] (c_far S i b k) (fun r S' => r = none ∧ K S')) ?_ ?_ 0 (by omega)
  · have e : c_far S i b 0 = S := by refine z_ext (fun q t => ?_) (fun _ _ => rfl) (fun _ _ => rfl); simp [c_far]
    rw [e] at key
    exact key
  · refine w_X0_goFar_2 o n i hi hn b hb _ _ _ ⟨fun _ S2 e => ?_, fun h => absurd (by decide) h⟩
    subst e
    exact ⟨rfl, hK⟩
  · intro k hk ih
    refine w_X0_goFar_2 o n i hi hn b hb _ _ _ ⟨fun h => absurd h (z_ge hk (by decide)), fun _ => ⟨fun h => ?_, fun h => ⟨z_in hk (by omega), z_in hk (by omega), ?_⟩⟩⟩
    · have e : c_far S i b (k + 1) = c_far S i b k := by
        refine z_ext (fun q t => ?_) (fun _ _ => rfl) (fun _ _ => rfl)
        have h' : ¬ m_bit (S.1 (5, i, b) 9) k = 1 := by simpa [c_far] using h
        simp only [c_far]
        by_cases ht : t = k
        · subst ht; simp [h']
        · have : t < k + 1 ↔ t < k := by omega
          simp [this]
      rw [e, nI_succ] at ih
      exact ih
    · rw [z_cl (by omega)]
      have e : sI (c_far S i b k) (6, i, b) k ((c_far S i b k).1 (7, i, b) k) = c_far S i b (k + 1) := by
        refine z_ext (fun q t => ?_) (fun _ _ => rfl) (fun _ _ => rfl)
        have h' : m_bit (S.1 (5, i, b) 9) k = 1 := by simpa [c_far] using h
        simp only [c_far, sI]
        by_cases ht : t = k
        · subst ht
          by_cases hq : q = (6, i, b)
          · simp [hq, h']
          · simp [hq]
        · have : t < k + 1 ↔ t < k := by omega
          simp [this, ht]
      rw [e, ← nI_succ]
      exact ih
theorem sp_takeFromFar (hi : i < 8) (hn : z_sb i + 120 ≤ n) (hb : b < 16) (S : zS) (K : zS → Prop) (hK : K (sI (sC S (6, i, b) (7, i, b) 0 0 4) (5, i, b) 9 0)) : zGv o n mdX0_takeFromFar [.ref (z_adr o (5, i, b))] S K :=
  w_X0_takeFromFar_0 o n i hi hn b hb S _ ⟨rfl, hK⟩
theorem sp_changedBit (hi : i < 8) (hn : z_sb i + 120 ≤ n) (hb : b < 16) (j : Nat) (S : zS) (K : Int32 → zS → Prop) (hK : K (m_bit (S.1 (5, i, b) 9) j) S) : zGi o n mdX0_changedBit [.ref (z_adr o (5, i, b)), .int (nI j)] S K :=
  w_X0_changedBit_0 o n i hi hn b hb _ S _ ⟨_, rfl, hK⟩
theorem sp_layIn (hi : i < 8) (hn : z_sb i + 120 ≤ n) (hb : b < 16) {j : Nat} (hj : j < 4) (v : Int32) (S : zS) (K : zS → Prop) (hK : K (sI (sI S (7, i, b) j v) (5, i, b) 9 (S.1 (5, i, b) 9 ||| (1 : Int32) <<< (nI j &&& 31)))) : zGv o n mdX0_layIn [.ref (z_adr o (5, i, b)), .int (nI j), .int v] S K := by
  refine w_X0_layIn_0 o n i hi hn b hb _ _ S _ ⟨fun h => absurd h (nI_pos (by omega)), fun _ => ⟨fun h => absurd h (z_ge hj (by decide)), fun _ => ⟨z_in hj (by omega), fun y3 e => ⟨rfl, ?_⟩⟩⟩⟩
  subst e
  rw [z_cl (by omega)]
  simpa [sI] using hK
/-- the value that a LOAD would get at last: the last STORE of the askers, else as FAR -/
def c_last (S : zS) (i b j : Nat) : Nat → Int32
  | 0 => S.1 (6, i, b) j
  | k + 1 => if S.1 (8, i, b) k = nI j ∧ ¬ S.1 (9, i, b) k = -1 then S.1 (9, i, b) k else c_last S i b j k
theorem sp_valueAtLast (hi : i < 8) (hn : z_sb i + 120 ≤ n) (hb : b < 16) {j a : Nat} (hj : j < 4) (S : zS) (ha : S.1 (5, i, b) 7 = nI a) (ha4 : a ≤ 4) (K : Int32 → zS → Prop) (hK : K (if S.1 (5, i, b) 8 = 1 ∨ S.1 (5, i, b) 8 = 2 then S.1 (7, i, b) j else c_last S i b j a) S) : zGi o n mdX0_valueAtLast [.ref (z_adr o (5, i, b)), .int (nI j)] S K := by
  refine w_X0_valueAtLast_0 o n i hi hn b hb _ S _ ⟨fun h => absurd h (nI_pos (by omega)), fun _ => ⟨fun _ => ⟨fun h => ⟨z_in hj (by omega), _, rfl, ?_⟩, fun h => ⟨fun h2 => ⟨z_in hj (by omega), ?_⟩, fun h2 => ⟨z_in hj (by omega), _, rfl, ?_⟩⟩⟩, fun h => absurd (nI_lt hj (by omega)) h⟩⟩
  · rw [z_cl (by omega)]; simpa [h] using hK
  · have key := z_down a (fun k => zG o n mdX0_valueAtLast 43 [(0, .ref (z_adr o (5, i, b))), (1, .int (nI j)), (2, .int (c_last S i b j k)), (3, .int (nI k))] [] S (fun r S' => ∃ x, r = some (.int x) ∧ K x S')) ?_ ?_ 0 (by omega)
    · rw [z_cl (by omega)]
      exact key
    · refine w_X0_valueAtLast_43 o n i hi hn b hb _ _ _ S _ ⟨fun _ => ⟨_, rfl, by simpa [h, h2] using hK⟩, fun hc => absurd (by rw [ha]; exact Int32.le_refl _) hc⟩
    · intro k hk ih
      refine w_X0_valueAtLast_43 o n i hi hn b hb _ _ _ S _ ⟨fun hc => absurd (by rw [ha] at hc; exact hc) (z_ge hk (by omega)), fun _ => ⟨fun hc => absurd hc (z_ge (show k < 4 by omega) (by decide)), fun _ => ⟨z_in (by omega) (by omega), ?_⟩⟩⟩
      rw [z_cl (by omega)]
      simp only [c_last, nI_succ] at ih
      refine ⟨fun hc => ?_, fun hc => ⟨z_in (by omega) (by omega), fun hd => ?_, fun hd => ⟨z_in (by omega) (by omega), ?_⟩⟩⟩
      · rw [if_neg (fun q => hc q.1)] at ih; exact ih
      · rw [if_neg (fun q => q.2 hd)] at ih; exact ih
      · rw [if_pos ⟨hc, hd⟩] at ih; exact ih
  · rw [z_cl (by omega)]; simpa [h2] using hK
def c_addAsker (S : zS) (i b a : Nat) (x1 x2 x3 x4 : Int32) : zS := sI (sI (sI (sI (sI S (8, i, b) a x1) (9, i, b) a x2) (10, i, b) a x3) (11, i, b) a x4) (5, i, b) 7 (nI (a + 1))
theorem sp_addAsker (hi : i < 8) (hn : z_sb i + 120 ≤ n) (hb : b < 16) {a : Nat} (S : zS) (ha : S.1 (5, i, b) 7 = nI a) (ha4 : a < 4) (x1 x2 x3 x4 : Int32) (K : zS → Prop) (hK : K (c_addAsker S i b a x1 x2 x3 x4)) : zGv o n mdX0_addAsker [.ref (z_adr o (5, i, b)), .int x1, .int x2, .int x3, .int x4] S K := by
  refine w_X0_addAsker_0 o n i hi hn b hb _ _ _ _ S _ ?_
  rw [ha]
  refine ⟨fun h => absurd h (nI_pos (by omega)), fun _ => ⟨fun _ => ⟨z_in ha4 (by omega), fun y3 e3 => ?_⟩, fun h => absurd (nI_lt ha4 (by omega)) h⟩⟩
  have e3' : y3 = nI a := by rw [e3]; simpa [sI] using ha
  subst e3'
  refine ⟨z_in ha4 (by omega), fun S4 e4 => ?_⟩
  rw [z_cl (by omega)] at e4
  have e4' : S4.1 (5, i, b) 7 = nI a := by rw [e4]; simpa [sI] using ha
  rw [e4']
  refine ⟨z_in ha4 (by omega), fun y5 e5 => ?_⟩
  have e5' : y5 = nI a := by rw [e5]; simpa [sI] using e4'
  subst e5'
  refine ⟨z_in ha4 (by omega), fun S6 e6 => ⟨rfl, ?_⟩⟩
  rw [z_cl (by omega)] at e6
  have e6' : S6.1 (5, i, b) 7 = nI a := by rw [e6]; simpa [sI] using e4'
  rw [e6', ← nI_succ, e6, e4]
  exact hK
def c_renewB (S : zS) (i b : Nat) : zS := sI (sI (sI (sI (sI (fun q t => if q = (6, i, b) ∧ t < 4 then nI (5 * b + t) else S.1 q t, S.2) (5, i, b) 7 0) (5, i, b) 8 0) (5, i, b) 9 0) (5, i, b) 10 2000000000) (5, i, b) 11 0
theorem sp_renewB (hi : i < 8) (hn : z_sb i + 120 ≤ n) (hb : b < 16) (S : zS) (K : zS → Prop) (hK : K (c_renewB S i b)) : zGv o n mdX0_renew [.ref (z_adr o (5, i, b))] S K := by
  refine w_X0_renew_0 o n i hi hn b hb S _ ?_
  have key := z_down 4 (fun k => zG o n mdX0_renew 2 [(0, .ref (z_adr o (5, i, b))), (1, .int (nI k))] [] (fun q t => if q = (6, i, b) ∧ t < k then nI (5 * b + t) else S.1 q t, S.2) (fun r S' => r = none ∧ K S')) ?_ ?_ 0 (by omega)
  · have e : ((fun q t => if q = (6, i, b) ∧ t < 0 then nI (5 * b + t) else S.1 q t, S.2) : zS) = S := by refine z_ext (fun q t => ?_) (fun _ _ => rfl) (fun _ _ => rfl); simp
    rw [e] at key
    exact key
  · refine w_X0_renew_2 o n i hi hn b hb _ _ _ ⟨fun _ S2 e => ?_, fun h => absurd (by decide) h⟩
    subst e
    exact ⟨rfl, hK⟩
  · intro k hk ih
    refine w_X0_renew_2 o n i hi hn b hb _ _ _ ⟨fun h => absurd h (z_ge hk (by decide)), fun _ => ⟨z_in hk (by omega), ?_⟩⟩
    rw [z_cl (by omega)]
    have e5 : (5 : Int32) * nI b + nI k = nI (5 * b + k) := by
      rw [show (5 : Int32) = nI 5 from rfl, pk_mul, nI_add]
    rw [e5, ← nI_succ]
    have e : sI ((fun q t => if q = (6, i, b) ∧ t < k then nI (5 * b + t) else S.1 q t, S.2) : zS) (6, i, b) k (nI (5 * b + k)) = (fun q t => if q = (6, i, b) ∧ t < k + 1 then nI (5 * b + t) else S.1 q t, S.2) := by
      refine z_ext (fun q t => ?_) (fun _ _ => rfl) (fun _ _ => rfl)
      simp only [sI]
      by_cases ht : t = k
      · subst ht
        by_cases hq : q = (6, i, b)
        · simp [hq]
        · simp [hq]
      · have : t < k + 1 ↔ t < k := by omega
        simp [this, ht]
    rw [e]
    exact ih
end SPB
