section SPI
variable {o : zW} {n i : Nat}
theorem sp_idle (hi : i < 8) (hn : z_sb i + 120 ≤ n) (N : Nat) (hN : N ≤ 99) (S0 : zS) (K : zS → Prop) : ∀ f, f ≤ N → ∀ (S : zS) (A : mS) (U B : Nat), c_R i U S A → c_fr i S0 S → m_inv 16 A → m_dd 16 16 A → m_tb B A → B + f < 2 ^ 30 → U + 16 * f < 2 ^ 31 →
    (∀ S' U', U' ≤ U + 16 * f → c_R i U' S' (m_idle f A) → c_fr i S0 S' → K S') →
    zG o n mdX2_pause 2 [(0, .ref (z_adr o (1, i, 0))), (1, .int (nI N)), (2, .int (nI (N - f)))] [] S (fun r S' => r = none ∧ K S') := by
  intro f
  induction f with
  | zero =>
    intro _ S A U B h hf hI hd ht hB hU hK
    refine w_X2_pause_2 o n i hi hn _ _ S _ ⟨fun _ => ⟨rfl, hK S U (by omega) h hf⟩, fun hc => absurd (Int32.le_refl _) hc⟩
  | succ f ih =>
    intro hf1 S A U B h hf hI hd ht hB hU hK
    refine w_X2_pause_2 o n i hi hn _ _ S _ ⟨fun hc => absurd hc (z_ge (a := N - (f + 1)) (b := N) (by omega) (by omega)), fun _ => ⟨fun hc => absurd hc (z_ge (a := N - (f + 1)) (b := 99) (by omega) (by decide)), fun _ => ?_⟩⟩
    obtain ⟨p1, p2, p3, p4⟩ := pass_keep hI hd ht (by omega)
    refine sp_pass hi hn S h hI hd ht (by omega) (by omega) _ (fun S4 U4 hU4 h4 f4 => ?_)
    have e1 : nI (N - (f + 1)) + 1 = nI (N - f) := by
      rw [← nI_succ]; exact congrArg nI (by omega)
    rw [e1]
    exact ih (by omega) S4 (m_pass A) U4 (B + 1) h4 (hf.tr f4) p1 p2 p3 (by omega) (by omega) (fun S' U' hU' h' f' => hK S' U' (by omega) h' f')
end SPI
