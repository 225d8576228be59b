section SPA
variable {o : zW} {n i U : Nat}
/-- the askers' call: at once of what is near, else one more asker -/
theorem sp_takeAsker (hi : i < 8) (hn : z_sb i + 120 ≤ n) {b : Nat} (hb : b < 16) (S : zS) {A : mS} (h : c_R i U S A) {j : Nat} (hj : j < 4) (v : Option Int32) (hv : ∀ x, v = some x → x ≠ -1) (hT : A.1 40 9 = nI (m_T A)) (hN : A.1 40 7 = nI (m_N A)) (hN3 : m_N A + 1 < 2 ^ 31) (ha : (m_Q A b).length ≤ 4) (ha4 : A.1 29 b ≠ 1 → (m_Q A b).length < 4) (K : zS → Prop) (hK : ∀ S', c_R i U S' (if A.1 29 b = 1 then m_do A b j v else m_join A b j v) → c_fr i S S' → K S') :
    zGv o n mdX2_takeAsker [.ref (z_adr o (1, i, 0)), .ref (z_adr o (5, i, b)), .int (nI j), .int (v.getD (-1))] S K := by
  have e8 : S.1 (5, i, b) 8 = A.1 29 b := (h.2.2.1 b hb).1
  have e9 : S.1 (3, i, 0) 9 = nI (m_T A) := (h.1.2.1 9 (by omega)).trans hT
  have e7 : S.1 (5, i, b) 7 = nI (m_Q A b).length := (h.2.2.2.1 b hb).1
  refine w_X2_takeAsker_0 o n i hi hn b hb _ _ S _ ?_
  cases v with
  | some x =>
    have hx := hv x rfl
    refine ⟨fun _ => ⟨fun hw => ?_, fun hw => ?_⟩, fun hc => absurd hc hx⟩
    · rw [e8] at hw
      rw [e9]
      refine sp_addAsker hi hn hb S e7 (ha4 hw) _ _ _ _ _ ⟨rfl, hK _ ?_ (fr_join (c_fr_rf i S) _ _ _ _ _ _)⟩
      rw [if_neg hw]
      exact cr_join h hb (j, m_T A, some x, m_N A)
    · rw [e8] at hw
      rw [e9]
      refine sp_serve hi hn hb S h (j, m_T A, some x, 0) hj hv hw ha _ (fun S' h' hfr => ⟨rfl, hK S' ?_ hfr⟩)
      rw [if_pos hw]
      exact h'
  | none =>
    refine ⟨fun hc => absurd rfl hc, fun _ => ?_⟩
    have hb' := cr_begun h hN hN3
    have hf' : c_fr i S (c_add (sI S (3, i, 0) 7 (S.1 (3, i, 0) 7 + 1)) i (m_N A) (A.1 40 9)) := fr_add ((c_fr_rf i S).I 3 0 7 _ (by omega)) _ _
    obtain ⟨k25, k29, k28, k30, k27, k26, k39, k40, kR, kF, kQ, kC, kW, kX⟩ := begun_keep A
    have eT : m_T (m_begun A) = m_T A := by show ((m_begun A).1 40 9).toNatClampNeg = _; rw [k40 9 (by omega)]
    have eadd : (sI S (3, i, 0) 7 (S.1 (3, i, 0) 7 + 1)).1 (3, i, 0) 9 = A.1 40 9 := by
      have : (sI S (3, i, 0) 7 (S.1 (3, i, 0) 7 + 1)).1 (3, i, 0) 9 = S.1 (3, i, 0) 9 := by simp [sI]
      rw [this]; exact h.1.2.1 9 (by omega)
    rw [eadd]
    refine sp_add hi hn (m_N A) (by omega) _ _ ?_ _ ?_
    · have : (sI S (3, i, 0) 7 (S.1 (3, i, 0) 7 + 1)).1 (12, i, 0) 3 = S.1 (12, i, 0) 3 := by simp [sI]
      rw [this]; exact h.2.2.2.2.2.2.2.1
    · generalize c_add (sI S (3, i, 0) 7 (S.1 (3, i, 0) 7 + 1)) i (m_N A) (A.1 40 9) = S1 at hb' hf' ⊢
      have f8 : S1.1 (5, i, b) 8 = A.1 29 b := ((hb'.2.2.1 b hb).1).trans (by rw [k29])
      have f9 : S1.1 (3, i, 0) 9 = nI (m_T A) := (hb'.1.2.1 9 (by omega)).trans ((k40 9 (by omega)).trans hT)
      have f7 : S1.1 (5, i, b) 7 = nI (m_Q (m_begun A) b).length := (hb'.2.2.2.1 b hb).1
      refine ⟨fun hw => ?_, fun hw => ?_⟩
      · rw [f8] at hw
        rw [f9]
        refine sp_addAsker hi hn hb S1 f7 (by rw [kQ]; exact ha4 hw) _ _ _ _ _ ⟨rfl, hK _ ?_ (fr_join hf' _ _ _ _ _ _)⟩
        rw [if_neg hw]
        have := cr_join hb' hb (j, m_T A, none, m_N A)
        have e : m_q (m_begun A) b (m_Q (m_begun A) b ++ [(j, m_T A, none, m_N A)]) = m_join A b j none := by
          simp only [m_join, m_begun, m_q, m_i, m_Q, m_N]
          by_cases hk : (A.1 40 7).toNatClampNeg < 200
          · simp only [if_pos hk]
          · simp only [if_neg hk]
        rw [← e]; exact this
      · rw [f8] at hw
        rw [f9]
        refine sp_serve hi hn hb S1 hb' (j, m_T A, none, m_N A) hj (fun v hv => by simp at hv) (by rw [k29]; exact hw) (by rw [kQ]; exact ha) _ (fun S' h' hfr => ⟨rfl, hK S' ?_ (hf'.tr hfr)⟩)
        rw [if_pos hw]
        exact h'
end SPA
