section SPK
variable {o : zW} {n i : Nat}
theorem ask_tail (hi : i < 8) (hn : z_sb i + 120 ≤ n) {b : Nat} (hb : b < 16) {U : Nat} (S S1 : zS) {A : mS} (h : c_R i U S1 A) (hf : c_fr i S S1) {j : Nat} (hj : j < 4) (v : Option Int32) (hv : ∀ x, v = some x → x ≠ -1) (hT : A.1 40 9 = nI (m_T A)) (hN : A.1 40 7 = nI (m_N A)) (hN3 : m_N A + 1 < 2 ^ 31) (ha : (m_Q A b).length ≤ 4) (ha4 : A.1 29 b ≠ 1 → (m_Q A b).length < 4) (hc : m_cok (m_C A)) (w : Nat) (hw : w < 7) (p : UInt32) (hp : m_price p) (wi : Int32) (hwi : wi = nI w) (Q : zS → Prop) (hQ : ∀ S', c_R i U S' (m_tal (if A.1 29 b = 1 then m_do A b j v else m_join A b j v) w p) → c_fr i S S' → Q S') :
    zGv o n mdX2_tally [.ref (z_adr o (1, i, 0)), .int wi, .float p] S1 (fun S8 => zGv o n mdX2_takeAsker [.ref (z_adr o (1, i, 0)), .ref (z_adr o (5, i, b)), .int (nI j), .int (v.getD (-1))] S8 Q) := by
  subst hwi
  refine sp_tally hi hn w (by omega) p S1 ?_ _ ?_
  · rw [h.1.2.2]; exact (fl_add hc hp).1
  · have e29 : (m_tal A w p).1 29 b = A.1 29 b := by simp [m_tal, m_i, m_c]
    refine sp_takeAsker hi hn hb _ (cr_tal h w hw p) hj v hv ?_ ?_ ?_ ha ?_ Q (fun S' h' f' => hQ S' ?_ ((fr_tal hf w p).tr f'))
    · rw [(tal_T A hw p).1, ← hT]
      have e9 : ¬ (9 = w) := by omega
      simp [m_tal, m_i, m_c, e9]
    · rw [(tal_T A hw p).2, ← hN]
      have e7 : ¬ (7 = w) := by omega
      simp [m_tal, m_i, m_c, e7]
    · rw [(tal_T A hw p).2]; exact hN3
    · intro hne; rw [e29] at hne; exact ha4 hne
    · rw [e29, tal_do A b j v hw, tal_join A b j v hw] at h'
      by_cases e : A.1 29 b = 1
      · rw [if_pos e] at h' ⊢; exact h'
      · rw [if_neg e] at h' ⊢; exact h'
end SPK
