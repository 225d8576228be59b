section SPB
variable {o : zW} {n i : Nat}
theorem sp_beg (hi : i < 8) (hn : z_sb i + 120 ≤ n) {b : Nat} (hb : b < 16) {j : Nat} (hj : j < 4) (v : Option Int32) (hv : ∀ x, v = some x → x ≠ -1) (S0 : zS) (K : Int32 → zS → Prop) : ∀ f, f ≤ 1000 → ∀ (S : zS) (A : mS) (U B : Nat), c_R i U S A → c_fr i S0 S → m_inv 16 A → m_dd 16 16 A → m_tb B A → B + f < 2 ^ 30 → U + 17 * f < 2 ^ 31 → A.1 40 7 = nI (m_N A) → m_N A + 1 < 2 ^ 31 →
    (∀ S' U', U' ≤ U + 17 * f → c_R i U' S' (m_beg f A (some (b, j, v))) → c_fr i S0 S' → K (S'.1 (3, i, 0) 9) S') →
    zG o n mdX2_begin 3 [(0, .ref (z_adr o (1, i, 0))), (1, .ref (z_adr o (5, i, b))), (2, .int (nI j)), (3, .int (v.getD (-1))), (4, .int (nI (1000 - f)))] [] S (fun r S' => ∃ x, r = some (.int x) ∧ K x S') := by
  intro f
  induction f with
  | zero =>
    intro _ S A U B h hf hI hd ht hB hU hN hN3 hK
    refine w_X2_begin_3 o n i hi hn (some b) (fun b' e => by cases e; exact hb) _ _ _ S _ ⟨fun _ => ⟨_, rfl, hK S U (by omega) h hf⟩, fun hc => absurd (by decide) hc⟩
  | succ f ih =>
    intro hf1 S A U B h hf hI hd ht hB hU hN hN3 hK
    refine w_X2_begin_3 o n i hi hn (some b) (fun b' e => by cases e; exact hb) _ _ _ S _ ⟨fun hc => absurd hc (z_ge (a := 1000 - (f + 1)) (b := 1000) (by omega) (by decide)), fun _ => ?_⟩
    obtain ⟨p1, p2, p3, p4⟩ := pass_keep hI hd ht (by omega)
    have hN' : m_N (m_pass A) = m_N A := by show ((m_pass A).1 40 7).toNatClampNeg = _; rw [pass_7]
    refine sp_pass hi hn S h hI hd ht (by omega) (by omega) _ (fun S4 U4 hU4 h4 f4 => ⟨fun e => by simp at e, fun b5 e5 => ?_⟩)
    cases e5
    have hN4 : (m_pass A).1 40 7 = nI (m_N (m_pass A)) := by rw [hN', pass_7]; exact hN
    refine sp_ask hi hn hb (U := U4) (by omega) S4 h4 p1 hj v hv p3.1 hN4 (by rw [hN']; exact hN3) _ (fun hc0 => ⟨fun _ => ?_, fun hne => absurd rfl hne⟩) (fun hc1 U' S' hU' h' f' => ⟨fun e => absurd e (by decide), fun _ => ⟨_, rfl, ?_⟩⟩)
    · refine sp_tally hi hn 4 (by omega) 1036831949 S4 ?_ _ ?_
      · rw [h4.1.2.2]; exact (fl_add p1.2.2.2.2.2.2 (Or.inr (Or.inr (Or.inr (Or.inr (Or.inr rfl)))))).1
      · have e1 : nI (1000 - (f + 1)) + 1 = nI (1000 - f) := by
          rw [← nI_succ]; exact congrArg nI (by omega)
        rw [e1]
        have hst7 : (m_stall (m_pass A)).1 40 7 = A.1 40 7 := (stall_7 _).trans (pass_7 A)
        have hst9 := (m_tal_keep (m_pass A) (w := 4) (by omega) 1036831949).1
        have hNs : m_N (m_stall (m_pass A)) = m_N A := by show ((m_stall (m_pass A)).1 40 7).toNatClampNeg = _; rw [hst7]
        refine ih (by omega) _ (m_stall (m_pass A)) U4 (B + 1) (cr_tal h4 4 (by omega) _) (fr_tal (hf.tr f4) 4 _) (inv_tal p1 4 (Or.inr (Or.inr (Or.inr (Or.inr (Or.inr rfl)))))) (dd_tal p2 (by omega) _) ?_ (by omega) (by omega) (by rw [hNs, hst7]; exact hN) (by rw [hNs]; exact hN3) (fun S' U' hU' h' f' => hK S' U' (by omega) ?_ f')
        · exact ⟨hst9.trans (p3.1.trans (congrArg nI (m_T_eq hst9).symm)), by rw [show m_T (m_stall (m_pass A)) = m_T (m_pass A) from m_T_eq hst9]; exact p3.2⟩
        · simp only [m_beg, hc0]; exact h'
    · refine hK S' U' (by omega) ?_ ((hf.tr f4).tr f')
      simp only [m_beg, hc1, if_true]; exact h'
end SPB
