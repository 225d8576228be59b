section SPZ
variable {o : zW}
theorem prs_sk (t : Nat → Nat) (n f p : Nat) (l : List mO) : m_prs t n (f + 1) (m_sk t n p) l = m_prs t n (f + 1) p l := by
  simp only [m_prs, sk_sk]
theorem y_neg {t : Nat → Nat} {n p : Nat} (ht : ∀ k, k < n → t k < 128) : m_y t n p < 0 ↔ ¬ p < n := by
  have := y_lt (p := p) ht (c := 0) (by omega)
  rw [show (0 : Int32) = nI 0 from rfl, this]
  omega
/-- a fault ends it -/
theorem sp_readEnd (S : zS) {e : Nat} (he : e < 2 ^ 31) (h7 : S.1 (16, 0, 0) 7 = nI e) (x1 : Int32) (K : Int32 → zS → Prop) (hK : K (nI e) S) : zG o 970 mdX3_readOrders 32 [(0, .ref (z_adr o (16, 0, 0))), (1, .int x1)] [] S (fun r S' => ∃ x, r = some (.int x) ∧ K x S') := by
  refine w_X3_readOrders_32 o _ S _ ⟨fun _ => ⟨_, rfl, by rw [h7]; exact hK⟩, fun _ => ⟨fun _ => ⟨_, rfl, by rw [h7]; exact hK⟩, fun hc => absurd (h7.symm.trans hc) (nI_m1 he)⟩⟩
theorem sp_readLoop {t : Nat → Nat} {n : Nat} (S0 : zS) (K : Int32 → zS → Prop) : ∀ f, f ≤ 120 → ∀ (S : zS) (p : Nat) (l : List mO), c_rd S t n p l → c_ft S0 S → n - p ≤ f → 2 * l.length ≤ p → p ≤ n →
    (∀ S', c_ft S0 S' → match m_prs t n f p l with | .inl e => K (nI e) S' | .inr l' => c_ords S' l' → K (-1) S') →
    zG o 970 mdX3_readOrders 32 [(0, .ref (z_adr o (16, 0, 0))), (1, .int (nI (120 - f)))] [] S (fun r S' => ∃ x, r = some (.int x) ∧ K x S') := by
  intro f
  induction f with
  | zero =>
    intro _ S p l h hf hnp hl hpn hK
    refine w_X3_readOrders_32 o _ S _ ⟨fun _ => ⟨_, rfl, ?_⟩, fun hc => absurd (by decide) hc⟩
    rw [h.2.2.1]
    exact hK S hf h.2.2.2
  | succ f ih =>
    intro hf120 S p l h hf hnp hl hpn hK
    have ht := txt_128 h.1
    have hn := h.1.2.1
    refine w_X3_readOrders_32 o _ S _ ⟨fun hc => absurd hc (z_ge (a := 120 - (f + 1)) (b := 120) (by omega) (by decide)), fun _ => ⟨fun hc => absurd h.2.2.1 hc, fun _ => ?_⟩⟩
    refine sp_peek S h.1 (by omega) h.2.1 _ ?_
    have hr := rd_I (q := m_sk t n p) h
    have hfr : c_ft S0 (sI S (16, 0, 0) 6 (nI (m_sk t n p))) := hf.I 16 6 _ (by omega)
    generalize sI S (16, 0, 0) 6 (nI (m_sk t n p)) = S1 at hr hfr
    have hge := sk_ge t n p
    refine ⟨fun hc => ⟨_, rfl, ?_⟩, fun hc => ?_⟩
    · have hnk : n ≤ m_sk t n p := by have := (y_neg ht).1 hc; omega
      have := hK S1 hfr
      simp only [m_prs, if_pos hnk] at this
      rw [hr.2.2.1]
      exact this hr.2.2.2
    · have hnk : ¬ n ≤ m_sk t n p := fun e => hc ((y_neg ht).2 (by omega))
      have e1 : nI (120 - (f + 1)) + 1 = nI (120 - f) := by
        rw [← nI_succ]; exact congrArg nI (by omega)
      refine sp_readOrder S1 hr (by omega) (by rw [sk_sk]; omega) _ (fun S2 h2 => ?_)
      rw [sk_sk] at h2
      obtain ⟨f2, h2⟩ := h2
      simp only [m_prs, if_neg hnk] at hK
      cases hrd : m_rd t n (m_sk t n p) with
      | inl e =>
        rw [hrd] at h2 hK
        have he := rd_f (by omega) hrd
        exact sp_readEnd S2 (by omega) h2 _ _ (hK S2 (hfr.tr f2))
      | inr y =>
        obtain ⟨x, q⟩ := y
        rw [hrd] at h2 hK
        obtain ⟨q1, q2, q3⟩ := rd_q hrd
        rw [e1]
        exact ih (by omega) S2 q (l ++ [x]) h2 (hfr.tr f2) (by omega) (by simp only [List.length_append, List.length_singleton]; omega) q3 hK
theorem sp_readOrders (S : zS) {t : Nat → Nat} {n : Nat} (h : c_txt S t n) (K : Int32 → zS → Prop) (hK : ∀ S', c_ft S S' → match m_text t n with | .inl e => K (nI e) S' | .inr l => c_ords S' l → K (-1) S') : zGi o 970 mdX3_readOrders [.ref (z_adr o (16, 0, 0))] S K := by
  have ht := txt_128 h
  have hn := h.2.1
  refine w_X3_readOrders_0 o S _ ?_
  have hrd : c_rd (sI (sI (sI S (16, 0, 0) 5 0) (16, 0, 0) 6 0) (16, 0, 0) 7 (-1)) t n 0 [] := by
    refine ⟨txt_ft h ((((c_ft.rf S).I 16 5 _ (by omega)).I 16 6 _ (by omega)).I 16 7 _ (by omega)), by simp [sI]; rfl, by simp [sI], by simp [sI]; rfl, Nat.zero_le _, fun k x hk => by simp at hk⟩
  have hft : c_ft S (sI (sI (sI S (16, 0, 0) 5 0) (16, 0, 0) 6 0) (16, 0, 0) 7 (-1)) := (((c_ft.rf S).I 16 5 _ (by omega)).I 16 6 _ (by omega)).I 16 7 _ (by omega)
  generalize sI (sI (sI S (16, 0, 0) 5 0) (16, 0, 0) 6 0) (16, 0, 0) 7 (-1) = S1 at hrd hft
  refine sp_peek S1 hrd.1 (by omega) hrd.2.1 _ ?_
  have hr := rd_I (q := m_sk t n 0) hrd
  have hfr : c_ft S (sI S1 (16, 0, 0) 6 (nI (m_sk t n 0))) := hft.I 16 6 _ (by omega)
  generalize sI S1 (16, 0, 0) 6 (nI (m_sk t n 0)) = S2 at hr hfr
  have hsn := sk_n (t := t) (n := n) (p := 0) (by omega)
  refine ⟨fun hc => ?_, fun hc => ?_⟩
  · have hnk : ¬ n ≤ m_sk t n 0 := by
      intro e
      have := (y_neg (p := m_sk t n 0) ht).2 (by omega)
      exact Int32.not_le.2 this hc
    unfold m_text at hK
    rw [if_neg hnk] at hK
    have e := prs_sk t n 119 0 []
    rw [← e] at hK
    exact sp_readLoop S K 120 (by omega) S2 (m_sk t n 0) [] hr hfr (by omega) (by simp) hsn hK
  · have hnk : n ≤ m_sk t n 0 := by
      have := (y_neg (p := m_sk t n 0) ht).1 (Int32.not_le.1 hc)
      omega
    have en : m_sk t n 0 = n := by omega
    unfold m_text at hK
    rw [if_pos hnk] at hK
    rw [hr.2.1, en]
    exact sp_readEnd _ (by omega) (by simp [sI]) _ _ (hK _ (hfr.I 16 7 _ (by omega)))
end SPZ
