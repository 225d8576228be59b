section SPP
variable {o : zW} {n i : Nat}
/-- soonest is found again: the least of all dues -/
theorem sp_pass3 (hi : i < 8) (hn : z_sb i + 120 ≤ n) (S : zS) {A : mS} {U : Nat} (h : c_R i U S A) (Q : Option Value → zS → Prop) (hQ : ∀ S', c_R i U S' A → c_fr i S S' → Q none S') :
    zG o n mdX2_pass 168 [(0, .ref (z_adr o (1, i, 0))), (2, .ref (z_adr o (4, i, 0))), (3, .int (nI 16)), (4, .int (nI 0))] [] (sI S (1, i, 0) 8 (2000000000 : Int32)) Q := by
  have key := z_down 16 (fun k => ∀ v : Int32, (∀ b, b < k → A.1 29 b = 2 ∨ A.1 29 b = 3 → v ≤ A.1 30 b) →
      zG o n mdX2_pass 168 [(0, .ref (z_adr o (1, i, 0))), (2, .ref (z_adr o (4, i, 0))), (3, .int (nI 16)), (4, .int (nI k))] [] (sI S (1, i, 0) 8 v) Q) ?_ ?_ 0 (by omega) 2000000000 (fun b hb => absurd hb (Nat.not_lt_zero _))
  · exact key
  · intro v hv
    refine w_X2_pass_168 o n i hi hn _ _ _ _ ⟨fun _ => hQ _ (cr_soon h v hv) ((c_fr_rf i S).I 1 0 8 _ (by omega)), fun hc => absurd (Int32.le_refl _) hc⟩
  · intro k hk ih v hv
    refine w_X2_pass_168 o n i hi hn _ _ _ _ ⟨fun hc => absurd hc (z_ge hk (by decide)), fun _ => ⟨z_in hk (by omega), fun y4 hy => ?_⟩⟩
    rw [z_cl (by omega)] at hy
    have e10 : (sI S (1, i, 0) 8 v).1 (5, i, k) 10 = S.1 (5, i, k) 10 := by simp [sI]
    have e8 : (sI S (1, i, 0) 8 v).1 (1, i, 0) 8 = v := by simp [sI]
    rw [e10, e8] at hy
    rw [sI_two, ← nI_succ]
    have h3 := (h.2.2.1 k hk).2.2
    refine ih y4 (fun b hb hact => ?_)
    by_cases e : b = k
    · subst e
      rw [if_pos hact] at h3
      rw [hy, h3]
      by_cases hc : A.1 30 b < v
      · rw [if_pos hc]; exact Int32.le_refl _
      · rw [if_neg hc]; exact Int32.not_lt.mp hc
    · have hvb := hv b (by omega) hact
      rw [hy]
      by_cases hc : S.1 (5, i, k) 10 < v
      · rw [if_pos hc]; exact Int32.le_trans (Int32.le_of_lt hc) hvb
      · rw [if_neg hc]; exact hvb
theorem sp_pass2 (hi : i < 8) (hn : z_sb i + 120 ≤ n) (S0 S : zS) {A : mS} {U T : Nat} (h : c_R i U S A) (hf : c_fr i S0 S) (a1 : m_inv 16 A) (a2 : m_dd 16 0 A) (a3 : A.1 40 9 = nI T) (a4 : m_T A = T) (hT : T < 2 ^ 30 + 1) (hU : U + 16 < 2 ^ 31) (K : zS → Prop) (hK : ∀ S' U', U' ≤ U + 16 → c_R i U' S' ((List.range 16).foldl m_p2 A) → c_fr i S0 S' → K S') :
    zG o n mdX2_pass 109 [(0, .ref (z_adr o (1, i, 0))), (1, .int (nI T)), (2, .ref (z_adr o (4, i, 0))), (3, .int (nI 16)), (4, .int (nI 0))] [] S (fun r S' => r = none ∧ K S') := by
  refine z_down 16 (fun k => ∀ S2 U' A', A' = (List.range k).foldl m_p2 A → U' ≤ U + k → c_R i U' S2 A' → c_fr i S0 S2 →
        zG o n mdX2_pass 109 [(0, .ref (z_adr o (1, i, 0))), (1, .int (nI T)), (2, .ref (z_adr o (4, i, 0))), (3, .int (nI 16)), (4, .int (nI k))] [] S2 (fun r S' => r = none ∧ K S')) ?_ ?_ 0 (by omega) S U A rfl (Nat.le_refl _) h hf
  · intro S2 U' A' hA' hU' k1 k2
    refine w_X2_pass_109 o n i hi hn _ _ _ S2 _ ⟨fun _ => ?_, fun hc => absurd (Int32.le_refl _) hc⟩
    rw [hA'] at k1
    exact sp_pass3 hi hn S2 k1 _ (fun S' q1 q2 => ⟨rfl, hK S' U' hU' q1 (k2.tr q2)⟩)
  · intro k hk ih S2 U' A' hA' hU' k1 k2
    obtain ⟨b1, b2, b3, b4⟩ := pass2 a1 a2 a3 a4 k (by omega)
    rw [← hA'] at b1 b2 b3 b4
    have r3 := k1.2.2.1 k hk
    refine w_X2_pass_109 o n i hi hn _ _ _ S2 _ ⟨fun hc => absurd hc (z_ge hk (by decide)), fun _ => ⟨z_in hk (by omega), ?_⟩⟩
    rw [z_cl (by omega), r3.1, r3.2.2, ← nI_succ]
    have hnext : (List.range (k + 1)).foldl m_p2 A = m_p2 A' k := by rw [z_fold_succ, hA']
    refine ⟨fun hc => ih S2 U' A' ?_ (by omega) k1 k2, fun hc => ?_⟩
    · rw [hnext]; unfold m_p2; rw [if_neg (fun q => hc q.1)]
    · rw [if_pos (Or.inr hc)]
      obtain ⟨d, e1, e2, e3, e4, e5⟩ := b2 k hk (Or.inr hc)
      rw [e1]
      refine ⟨fun hlt => ?_, fun hlt => ?_⟩
      · have hlt' : T < d := (nI_ltI (by omega) (by omega)).mp hlt
        refine ih S2 U' A' ?_ (by omega) k1 k2
        rw [hnext]
        unfold m_p2
        rw [if_neg]
        rintro ⟨-, q⟩
        rw [e1, b3] at q
        have := (nI_eq (by omega) (by omega)).mp q
        omega
      · have hlt' : ¬ T < d := fun q => hlt ((nI_ltI (by omega) (by omega)).mpr q)
        have hde : d = T := by omega
        have hp2 : m_p2 A' k = m_come A' k := by
          unfold m_p2
          rw [if_pos ⟨hc, by rw [e1, b3, hde]⟩]
        refine sp_come hi hn hk S2 k1 (by omega) b1.1 b1.2.1 hc ((b1.2.2.1.2.1 k).mpr ⟨hk, by omega, hc⟩) (b1.2.2.2.1.2 k hk).1 b1.2.2.2.2.2.2 _ (fun S3 q1 q2 => ?_)
        exact ih S3 (U' + 1) _ (by rw [hnext, hp2]) (by omega) q1 (k2.tr q2)
theorem sp_pass1 (hi : i < 8) (hn : z_sb i + 120 ≤ n) (S0 S : zS) {A : mS} {U T : Nat} (h : c_R i U S A) (hf : c_fr i S0 S) (a1 : m_inv 16 A) (a2 : m_dd 0 0 A) (a3 : A.1 40 9 = nI T) (a4 : m_T A = T) (hT : T < 2 ^ 30 + 1) (hU : U + 16 < 2 ^ 31) (K : zS → Prop) (hK : ∀ S' U', U' ≤ U + 16 → c_R i U' S' ((List.range 16).foldl m_p2 ((List.range 16).foldl m_p1 A)) → c_fr i S0 S' → K S') :
    zG o n mdX2_pass 39 [(0, .ref (z_adr o (1, i, 0))), (1, .int (nI T)), (2, .ref (z_adr o (4, i, 0))), (3, .int (nI 16)), (4, .int (nI 0))] [] S (fun r S' => r = none ∧ K S') := by
  refine z_down 16 (fun k => ∀ S1 A', A' = (List.range k).foldl m_p1 A → c_R i U S1 A' → c_fr i S0 S1 →
        zG o n mdX2_pass 39 [(0, .ref (z_adr o (1, i, 0))), (1, .int (nI T)), (2, .ref (z_adr o (4, i, 0))), (3, .int (nI 16)), (4, .int (nI k))] [] S1 (fun r S' => r = none ∧ K S')) ?_ ?_ 0 (by omega) S A rfl h hf
  · intro S1 A' hA' g1 g2
    refine w_X2_pass_39 o n i hi hn _ _ _ S1 _ ⟨fun _ => ?_, fun hc => absurd (Int32.le_refl _) hc⟩
    obtain ⟨b1, b2, b3, b4⟩ := pass1 a1 a2 a3 a4 16 (by omega)
    rw [← hA'] at b1 b2 b3 b4 hK
    exact sp_pass2 hi hn S0 S1 g1 g2 b1 b2 b3 b4 hT hU K hK
  · intro k hk ih S1 A' hA' g1 g2
    obtain ⟨b1, b2, b3, b4⟩ := pass1 a1 a2 a3 a4 k (by omega)
    rw [← hA'] at b1 b2 b3 b4
    have r3 := g1.2.2.1 k hk
    refine w_X2_pass_39 o n i hi hn _ _ _ S1 _ ⟨fun hc => absurd hc (z_ge hk (by decide)), fun _ => ⟨z_in hk (by omega), ?_⟩⟩
    rw [z_cl (by omega), r3.1, r3.2.2, ← nI_succ]
    have hnext : (List.range (k + 1)).foldl m_p1 A = m_p1 A' k := by rw [z_fold_succ, hA']
    refine ⟨fun hc => ih S1 A' ?_ g1 g2, fun hc => ?_⟩
    · rw [hnext]; unfold m_p1; rw [if_neg (fun q => hc q.1)]
    · rw [if_pos (Or.inl hc)]
      obtain ⟨d, e1, e2, e3, e4, e5⟩ := b2 k hk (Or.inl hc)
      rw [e1]
      refine ⟨fun hlt => ?_, fun hlt => ?_⟩
      · have hlt' : T < d := (nI_ltI (by omega) (by omega)).mp hlt
        refine ih S1 A' ?_ g1 g2
        rw [hnext]
        unfold m_p1
        rw [if_neg]
        rintro ⟨-, q⟩
        rw [e1, b3] at q
        have := (nI_eq (by omega) (by omega)).mp q
        omega
      · have hlt' : ¬ T < d := fun q => hlt ((nI_ltI (by omega) (by omega)).mpr q)
        have hde : d = T := by omega
        have hp1 : m_p1 A' k = m_gone (m_i A' 39 1 (A'.1 39 1 - 1)) k := by
          unfold m_p1
          rw [if_pos ⟨hc, by rw [e1, b3, hde]⟩]
        have q2 := cr_gone (cr_sdec g1) hk
        refine sp_goFar hi hn hk _ _ ?_
        have hc4 : (c_goFar (sI S1 (1, i, 0) 6 (S1.1 (1, i, 0) 6 - 1)) i k).2.2 (1, i, 0) 4 = m_C A' := g1.1.2.2
        refine sp_tally hi hn 6 (by omega) _ _ (by rw [hc4]; exact (fl_add b1.2.2.2.2.2.2 m_price_gone).1) _ ?_
        exact ih _ _ (by rw [hnext, hp1]) q2 (fr_tal (fr_goFar (g2.I 1 0 6 _ (by omega)) k) 6 _)
theorem sp_pass (hi : i < 8) (hn : z_sb i + 120 ≤ n) (S : zS) {A : mS} {U B : Nat} (h : c_R i U S A) (hI : m_inv 16 A) (hd : m_dd 16 16 A) (ht : m_tb B A) (hB : B < 2 ^ 30) (hU : U + 16 < 2 ^ 31) (K : zS → Prop) (hK : ∀ S' U', U' ≤ U + 16 → c_R i U' S' (m_pass A) → c_fr i S S' → K S') :
    zGv o n mdX2_pass [.ref (z_adr o (1, i, 0))] S K := by
  obtain ⟨t1, t2, t3⟩ := m_T_tick ht hB
  have hTB := ht.2
  have h9 : S.1 (3, i, 0) 9 = A.1 40 9 := h.1.2.1 9 (by omega)
  have h1 := cr_tick h
  have hT1 : (m_tick A).1 40 9 = nI (m_T A + 1) := by rw [← t1]; exact t2
  have d0 := dd_tick hd ht hB
  have i0 := inv_tick hI
  have f1 : c_fr i S (sI S (3, i, 0) 9 (S.1 (3, i, 0) 9 + 1)) := (c_fr_rf i S).I 3 0 9 _ (by omega)
  have et : (sI S (3, i, 0) 9 (S.1 (3, i, 0) 9 + 1)).1 (3, i, 0) 9 = nI (m_T A + 1) := by
    have := h1.1.2.1 9 (by omega)
    rw [this]; exact hT1
  have hs8 : (sI S (3, i, 0) 9 (S.1 (3, i, 0) 9 + 1)).1 (1, i, 0) 8 = S.1 (1, i, 0) 8 := by simp [sI]
  refine w_X2_pass_0 o n i hi hn S _ ?_
  rw [et]
  generalize sI S (3, i, 0) 9 (S.1 (3, i, 0) 9 + 1) = S1 at h1 f1 et hs8 ⊢
  unfold m_pass at hK
  generalize m_tick A = A1 at h1 hT1 d0 i0 t1 hK
  refine ⟨fun _ => ?_, fun hc => ⟨rfl, ?_⟩⟩
  · exact sp_pass1 hi hn S S1 h1 f1 i0 d0 hT1 t1 (by omega) hU K hK
  · rw [hs8] at hc
    have hne : ∀ x, x < 16 → A1.1 29 x = 2 ∨ A1.1 29 x = 3 → A1.1 30 x ≠ A1.1 40 9 := by
      intro x hx hact q
      have h7 := h1.2.2.2.2.2.2.1 x hx hact
      rw [q, hT1, hs8] at h7
      exact hc h7
    have e1 : (List.range 16).foldl m_p1 A1 = A1 := z_fold_id _ _ _ (fun x hx => by
      unfold m_p1
      rw [if_neg (fun q => hne x (List.mem_range.mp hx) (Or.inl q.1) q.2)])
    have e2 : (List.range 16).foldl m_p2 A1 = A1 := z_fold_id _ _ _ (fun x hx => by
      unfold m_p2
      rw [if_neg (fun q => hne x (List.mem_range.mp hx) (Or.inr q.1) q.2)])
    rw [e1, e2] at hK
    exact hK _ U (by omega) h1 f1
end SPP
