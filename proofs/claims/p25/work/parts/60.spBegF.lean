section SPF
variable {o : zW} {n i : Nat}
/-- of a FENCE -/
theorem sp_begF (hi : i < 8) (hn : z_sb i + 120 ≤ n) (y1 y2 : Int32) (S0 : zS) (K : Int32 → zS → Prop) : ∀ f, f ≤ 1000 → ∀ (S : zS) (A : mS) (U B : Nat), c_R i U S A → c_fr i S0 S → m_inv 16 A → m_dd 16 16 A → m_tb B A → B + f < 2 ^ 30 → U + 17 * f < 2 ^ 31 →
    (∀ S' U', U' ≤ U + 17 * f → c_R i U' S' (m_beg f A none) → c_fr i S0 S' → K (S'.1 (3, i, 0) 9) S') →
    zG o n mdX2_begin 3 [(0, .ref (z_adr o (1, i, 0))), (1, .null), (2, .int y1), (3, .int y2), (4, .int (nI (1000 - f)))] [] S (fun r S' => ∃ x, r = some (.int x) ∧ K x S') := by
  intro f
  induction f with
  | zero =>
    intro _ S A U B h hf hI hd ht hB hU hK
    refine w_X2_begin_3 o n i hi hn none (fun b' e => by cases e) _ _ _ S _ ⟨fun _ => ⟨_, rfl, hK S U (by omega) h hf⟩, fun hc => absurd (by decide) hc⟩
  | succ f ih =>
    intro hf1 S A U B h hf hI hd ht hB hU hK
    refine w_X2_begin_3 o n i hi hn none (fun b' e => by cases e) _ _ _ S _ ⟨fun hc => absurd hc (z_ge (a := 1000 - (f + 1)) (b := 1000) (by omega) (by decide)), fun _ => ?_⟩
    obtain ⟨p1, p2, p3, p4⟩ := pass_keep hI hd ht (by omega)
    refine sp_pass hi hn S h hI hd ht (by omega) (by omega) _ (fun S4 U4 hU4 h4 f4 => ⟨fun _ => ?_, fun b5 e5 => by cases e5⟩)
    have e5 : S4.1 (1, i, 0) 5 = nI (m_F (m_pass A)).length := h4.2.2.2.2.2.1.1
    have e6 : S4.1 (1, i, 0) 6 = (m_pass A).1 39 1 := h4.2.2.2.2.2.1.2
    have stall : m_can (m_pass A) none = false → zGv o n mdX2_tally [.ref (z_adr o (1, i, 0)), .int 4, .float (1036831949 : UInt32)] S4 (fun S10 => zG o n mdX2_begin 3 [(0, .ref (z_adr o (1, i, 0))), (1, .null), (2, .int y1), (3, .int y2), (4, .int (nI (1000 - (f + 1)) + 1))] [] S10 (fun r S' => ∃ x, r = some (.int x) ∧ K x S')) := by
      intro hc0
      refine sp_tally hi hn 4 (by omega) 1036831949 S4 ?_ _ ?_
      · rw [h4.1.2.2]; exact (fl_add p1.2.2.2.2.2.2 (Or.inr (Or.inr (Or.inr (Or.inr (Or.inr rfl)))))).1
      · have e1 : nI (1000 - (f + 1)) + 1 = nI (1000 - f) := by
          rw [← nI_succ]; exact congrArg nI (by omega)
        rw [e1]
        have hst9 := (m_tal_keep (m_pass A) (w := 4) (by omega) 1036831949).1
        refine ih (by omega) _ (m_stall (m_pass A)) U4 (B + 1) (cr_tal h4 4 (by omega) _) (fr_tal (hf.tr f4) 4 _) (inv_tal p1 4 (Or.inr (Or.inr (Or.inr (Or.inr (Or.inr rfl)))))) (dd_tal p2 (by omega) _) ?_ (by omega) (by omega) (fun S' U' hU' h' f' => hK S' U' (by omega) ?_ f')
        · exact ⟨hst9.trans (p3.1.trans (congrArg nI (m_T_eq hst9).symm)), by rw [show m_T (m_stall (m_pass A)) = m_T (m_pass A) from m_T_eq hst9]; exact p3.2⟩
        · simp only [m_beg, hc0]; exact h'
    rw [e5, e6]
    refine ⟨fun h5 => stall ?_, fun h5 => ⟨fun h6 => stall ?_, fun h6 => ⟨_, rfl, hK S4 U4 (by omega) ?_ (hf.tr f4)⟩⟩⟩
    · have : m_F (m_pass A) ≠ [] := fun e => h5 (by rw [e]; rfl)
      simp [m_can, this]
    · simp [m_can, h6]
    · have hl : (m_F (m_pass A)).length ≤ 4 := by
        have := p1.2.2.1.2.2
        obtain ⟨-, -, ⟨F, hF, hF1, hF4⟩, -, -⟩ := p1.1
        rw [hF, z_cl (by omega)] at this; omega
      have hnil : m_F (m_pass A) = [] := by
        rcases Nat.eq_zero_or_pos (m_F (m_pass A)).length with g | g
        · exact List.eq_nil_of_length_eq_zero g
        · exfalso
          have h5' : nI (m_F (m_pass A)).length = nI 0 := h5
          have q := congrArg Int32.toNatClampNeg h5'
          rw [z_cl (by omega), z_cl (by omega)] at q
          omega
      have hc1 : m_can (m_pass A) none = true := by simp [m_can, hnil, h6]
      simp only [m_beg, hc1, if_true, m_go]; exact h4
end SPF
