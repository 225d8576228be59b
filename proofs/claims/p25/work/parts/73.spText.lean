/-! the class reads THE TEXT -/
/-- THE TEXT holds n bytes t -/
def c_txt (S : zS) (t : Nat → Nat) (n : Nat) : Prop := S.1 (16, 0, 0) 4 = nI n ∧ n ≤ 120 ∧ ∀ k, k < n → S.1 (17, 0, 0) k = nI (t k) ∧ t k < 128
/-- nothing but what reading changes -/
def c_ft (S S' : zS) : Prop := (∀ q : zK, q ≠ (16, 0, 0) ∧ q ≠ (18, 0, 0) ∧ q ≠ (19, 0, 0) ∧ q ≠ (20, 0, 0) → S'.1 q = S.1 q) ∧ S'.1 (16, 0, 0) 4 = S.1 (16, 0, 0) 4 ∧ S'.2 = S.2
theorem c_ft.rf (S : zS) : c_ft S S := ⟨fun _ _ => rfl, rfl, rfl⟩
theorem c_ft.tr {S S1 S2 : zS} (h : c_ft S S1) (h2 : c_ft S1 S2) : c_ft S S2 := ⟨fun q hq => (h2.1 q hq).trans (h.1 q hq), h2.2.1.trans h.2.1, h2.2.2.trans h.2.2⟩
theorem c_ft.I {S S1 : zS} (h : c_ft S S1) (k s : Nat) (v : Int32) (hk : (k = 16 ∧ s ≠ 4) ∨ k = 18 ∨ k = 19 ∨ k = 20) : c_ft S (sI S1 (k, 0, 0) s v) := by
  refine ⟨fun q hq => ?_, ?_, h.2.2⟩
  · have hne : q ≠ (k, 0, 0) := by
      rcases hk with ⟨e, -⟩ | e | e | e <;> subst e
      · exact hq.1
      · exact hq.2.1
      · exact hq.2.2.1
      · exact hq.2.2.2
    rw [← h.1 q hq]
    funext t
    simp [sI, hne]
  · rw [← h.2.1]
    have : ¬ ((16, 0, 0) = (k, 0, 0) ∧ 4 = s) := by
      simp only [Prod.mk.injEq, and_true]
      omega
    simp only [sI, if_neg this]
theorem txt_ft {S S' : zS} {t : Nat → Nat} {n : Nat} (h : c_txt S t n) (hf : c_ft S S') : c_txt S' t n := by
  refine ⟨hf.2.1.trans h.1, h.2.1, fun k hk => ?_⟩
  rw [hf.1 (17, 0, 0) (by simp)]
  exact h.2.2 k hk
section SPX
variable {o : zW}
theorem sp_byteAt (S : zS) {t : Nat → Nat} {n : Nat} (h : c_txt S t n) {p : Nat} (hp : p < 2 ^ 31) (K : Int32 → zS → Prop) (hK : K (m_y t n p) S) : zGi o 970 mdX3_byteAt [.ref (z_adr o (16, 0, 0)), .int (nI p)] S K := by
  obtain ⟨h1, h2, h3⟩ := h
  refine w_X3_byteAt_0 o _ S _ ⟨fun hc => absurd hc (nI_pos hp), fun _ => ⟨fun hc => ⟨_, rfl, ?_⟩, fun hc => ?_⟩⟩
  · rw [h1] at hc
    have := (nI_leI (by omega) hp).1 hc
    unfold m_y at hK
    rw [if_neg (by omega)] at hK
    exact hK
  · have hlt : p < n := by
      rcases Nat.lt_or_ge p n with g | g
      · exact g
      · exact absurd (by rw [h1]; exact (nI_leI (by omega) hp).2 g) hc
    unfold m_y at hK
    rw [if_pos hlt, ← (h3 p hlt).1] at hK
    refine ⟨fun hc => absurd hc (z_ge (a := p) (b := 120) (by omega) (by decide)), fun _ => ⟨z_in (by omega) (by omega), ⟨_, rfl, ?_⟩⟩⟩
    rw [z_cl hp]
    exact hK
theorem y_eq {t : Nat → Nat} {n p c : Nat} (ht : ∀ k, k < n → t k < 128) (hc : c < 128) : m_y t n p = nI c ↔ p < n ∧ t p = c := by
  unfold m_y
  by_cases h : p < n
  · rw [if_pos h, nI_eq (by have := ht p h; omega) (by omega)]
    exact ⟨fun e => ⟨h, e⟩, fun e => e.2⟩
  · rw [if_neg h]
    refine ⟨fun e => absurd (show (nI c) < 0 by rw [← e]; decide) (nI_pos (by omega)), fun e => absurd e.1 h⟩
theorem y_lt {t : Nat → Nat} {n p c : Nat} (ht : ∀ k, k < n → t k < 128) (hc : c < 128) : m_y t n p < nI c ↔ ¬ (p < n ∧ c ≤ t p) := by
  unfold m_y
  by_cases h : p < n
  · rw [if_pos h, nI_ltI (by have := ht p h; omega) (by omega)]
    omega
  · rw [if_neg h]
    refine ⟨fun e hc => h hc.1, fun _ => Int32.lt_of_lt_of_le (b := 0) (by decide) (nI_pos' (by omega))⟩
theorem y_gt {t : Nat → Nat} {n p c : Nat} (ht : ∀ k, k < n → t k < 128) (hc : c < 128) : nI c < m_y t n p ↔ p < n ∧ c < t p := by
  unfold m_y
  by_cases h : p < n
  · rw [if_pos h, nI_ltI (by omega) (by have := ht p h; omega)]
    omega
  · rw [if_neg h]
    refine ⟨fun e => absurd (Int32.lt_trans e (show (-1 : Int32) < 0 by decide)) (nI_pos (by omega)), fun hc => absurd hc.1 h⟩
theorem txt_128 {S : zS} {t : Nat → Nat} {n : Nat} (h : c_txt S t n) : ∀ k, k < n → t k < 128 := fun k hk => (h.2.2 k hk).2
theorem sp_peek (S : zS) {t : Nat → Nat} {n : Nat} (h : c_txt S t n) {p : Nat} (hp : p ≤ 1000) (h6 : S.1 (16, 0, 0) 6 = nI p) (K : Int32 → zS → Prop) (hK : K (m_y t n (m_sk t n p)) (sI S (16, 0, 0) 6 (nI (m_sk t n p)))) : zGi o 970 mdX3_peek [.ref (z_adr o (16, 0, 0))] S K := by
  have ht := txt_128 h
  have hn := h.2.1
  refine w_X3_peek_0 o S _ ?_
  refine z_down 120 (fun c => ∀ (q : Nat) (S' : zS), S' = sI S (16, 0, 0) 6 (nI q) → q ≤ 2000 → p ≤ q → c ≤ q - p → m_sk t n q = m_sk t n p → zG o 970 mdX3_peek 2 [(0, .ref (z_adr o (16, 0, 0))), (1, .int (nI c))] [] S' (fun r S'' => ∃ x, r = some (.int x) ∧ K x S'')) ?_ ?_ 0 (by omega) p S ?_ (by omega) (Nat.le_refl _) (by omega) rfl
  · intro q S' e hq hpq hcq hs
    have e6 : S'.1 (16, 0, 0) 6 = nI q := by rw [e]; simp [sI]
    have hS' : c_txt S' t n := txt_ft h (by rw [e]; exact (c_ft.rf S).I 16 6 _ (Or.inl ⟨rfl, by omega⟩))
    refine w_X3_peek_2 o _ S' _ ⟨fun _ => ?_, fun hc => absurd (by decide) hc⟩
    rw [e6]
    have hq2 : m_sk t n q = q := sk_end (by omega)
    refine sp_byteAt S' hS' (by omega) _ ⟨_, rfl, ?_⟩
    rw [← hs, hq2, ← e] at hK
    exact hK
  · intro c hc ih q S' e hq hpq hcq hs
    have e6 : S'.1 (16, 0, 0) 6 = nI q := by rw [e]; simp [sI]
    have hS' : c_txt S' t n := txt_ft h (by rw [e]; exact (c_ft.rf S).I 16 6 _ (Or.inl ⟨rfl, by omega⟩))
    refine w_X3_peek_2 o _ S' _ ⟨fun hc2 => absurd hc2 (z_ge (a := c) (b := 120) hc (by decide)), fun _ => ?_⟩
    rw [e6]
    refine sp_byteAt S' hS' (by omega) _ ⟨fun hne => ?_, fun he => ?_⟩
    · have hq2 : m_sk t n q = q := sk_end (fun hx => hne ((y_eq ht (c := 32) (by omega)).2 hx))
      rw [← hs, hq2, ← e] at hK
      rw [e6]
      refine sp_byteAt S' hS' (by omega) _ ⟨_, rfl, ?_⟩
      exact hK
    · have hx := (y_eq ht (c := 32) (by omega)).1 he
      have hq2 : m_sk t n q = m_sk t n (q + 1) := by rw [sk_eq, if_pos hx]
      rw [e6, ← nI_succ, ← nI_succ]
      refine ih (q + 1) _ ?_ (by omega) (by omega) (by omega) (by rw [← hq2, hs])
      rw [e, sI_two]
  · exact (z_sI_self h6).symm
theorem sp_isFigure (S : zS) {t : Nat → Nat} {n p : Nat} (ht : ∀ k, k < n → t k < 128) (K : Int32 → zS → Prop) (h1 : m_isf t n p → K 1 S) (h0 : ¬ m_isf t n p → K 0 S) : zGi o 970 mdX3_isFigure [.int (m_y t n p)] S K := by
  refine w_X3_isFigure_0 o _ S _ ⟨fun h => ⟨_, rfl, h0 (fun hc => (y_lt ht (c := 48) (by omega)).1 h ⟨hc.1, hc.2.1⟩)⟩, fun h => ⟨fun h2 => ⟨_, rfl, h0 (fun hc => ?_)⟩, fun h2 => ⟨_, rfl, h1 ?_⟩⟩⟩
  · have := (y_gt ht (c := 57) (by omega)).1 h2
    omega
  · have a : p < n ∧ 48 ≤ t p := by
      apply Classical.byContradiction
      intro hc
      exact h ((y_lt ht (c := 48) (by omega)).2 hc)
    refine ⟨a.1, a.2, ?_⟩
    apply Classical.byContradiction
    intro hc
    exact h2 ((y_gt ht (c := 57) (by omega)).2 ⟨a.1, by omega⟩)
/-- the memory behind a number at s -/
def c_num (S : zS) (t : Nat → Nat) (n s : Nat) : zS := if m_two t n s then sI S (16, 0, 0) 6 (nI (s + m_dg t n s)) else sI (sI S (16, 0, 0) 6 (nI (s + m_dg t n s))) (16, 0, 0) 7 (nI s)
theorem sp_numEnd (S : zS) {s d : Nat} (hs : s < 2000) (hd : d < 2000) (v : Int32) (h6 : S.1 (16, 0, 0) 6 = nI (s + d)) (Q : zS → Prop) (h1 : d = 1 ∨ d = 2 → Q S) (h0 : ¬ (d = 1 ∨ d = 2) → Q (sI S (16, 0, 0) 7 (nI s))) : ((S.1 (16, 0, 0) 6) = nI s → Q (sI S (16, 0, 0) 7 (nI s))) ∧ (¬ (S.1 (16, 0, 0) 6) = nI s → (((S.1 (16, 0, 0) 6) ≤ (nI s + 2) → Q S) ∧ (¬ (S.1 (16, 0, 0) 6) ≤ (nI s + 2) → Q (sI S (16, 0, 0) 7 (nI s))))) := by
  rw [h6, show nI s + 2 = nI (s + 2) from nI_add s 2]
  refine ⟨fun e => h0 ?_, fun e => ⟨fun e2 => h1 ?_, fun e2 => h0 ?_⟩⟩
  · have := (nI_eq (by omega) (by omega)).1 e
    omega
  · have a := (nI_leI (by omega) (by omega)).1 e2
    have b : s + d ≠ s := fun hc => e (congrArg nI hc)
    omega
  · intro hc
    exact e2 (nI_le (by omega) (by omega))
theorem sp_readNumber (S : zS) {t : Nat → Nat} {n : Nat} (h : c_txt S t n) {p : Nat} (hp : p ≤ n) (h6 : S.1 (16, 0, 0) 6 = nI p) (K : Int32 → zS → Prop) (hK : K (nI (m_vp t (m_sk t n p) (m_dg t n (m_sk t n p)))) (c_num S t n (m_sk t n p))) : zGi o 970 mdX3_readNumber [.ref (z_adr o (16, 0, 0))] S K := by
  have ht := txt_128 h
  have hn := h.2.1
  refine w_X3_readNumber_0 o S _ ?_
  refine sp_peek S h (by omega) h6 _ ?_
  have hsn := sk_n (t := t) hp
  generalize hs : m_sk t n p = s at hK hsn
  have hdn := dg_n (t := t) hsn
  have e6 : (sI S (16, 0, 0) 6 (nI s)).1 (16, 0, 0) 6 = nI s := by simp [sI]
  rw [e6]
  have fin : ∀ S' : zS, S' = sI S (16, 0, 0) 6 (nI (s + m_dg t n s)) → S'.1 (16, 0, 0) 6 = nI (s + m_dg t n s) ∧ (m_two t n s → K (nI (m_vp t s (m_dg t n s))) S') ∧ (¬ m_two t n s → K (nI (m_vp t s (m_dg t n s))) (sI S' (16, 0, 0) 7 (nI s))) := by
    intro S' e
    refine ⟨by rw [e]; simp [sI], fun h2 => ?_, fun h2 => ?_⟩
    · unfold c_num at hK; rw [if_pos h2, ← e] at hK; exact hK
    · unfold c_num at hK; rw [if_neg h2, ← e] at hK; exact hK
  have hvp : ∀ c, 2 ≤ c → m_vp t s c = m_vp t s 2 := by
    intro c hc
    unfold m_vp
    rw [if_neg (by omega), if_neg (by omega)]
    simp
  refine z_down (m_dg t n s) (fun c => ∀ S' : zS, S' = sI S (16, 0, 0) 6 (nI (s + c)) → zG o 970 mdX3_readNumber 14 [(0, .ref (z_adr o (16, 0, 0))), (1, .int (nI s)), (2, .int (nI (m_vp t s c))), (3, .int (nI c))] [] S' (fun r S'' => ∃ x, r = some (.int x) ∧ K x S'')) ?_ ?_ 0 (by omega) _ (by simp)
  · intro S' e
    obtain ⟨f6, f1, f0⟩ := fin S' e
    have tail := sp_numEnd S' (s := s) (d := m_dg t n s) (by omega) (by omega) 0 f6 (fun S'' => ∃ x, some (Value.int (nI (m_vp t s (m_dg t n s)))) = some (.int x) ∧ K x S'') (fun h2 => ⟨_, rfl, f1 h2⟩) (fun h2 => ⟨_, rfl, f0 h2⟩)
    have hS' : c_txt S' t n := txt_ft h (by rw [e]; exact (c_ft.rf S).I 16 6 _ (Or.inl ⟨rfl, by omega⟩))
    refine w_X3_readNumber_14 o _ _ _ S' _ ⟨fun _ => tail, fun hc => ?_⟩
    rw [f6]
    refine sp_byteAt S' hS' (by omega) _ ?_
    refine sp_isFigure S' ht _ (fun hf => absurd hf (dg_no t n s)) (fun _ => ⟨fun _ => ?_, fun hc => absurd rfl hc⟩)
    rw [f6] at tail
    rw [f6]
    exact tail
  · intro c hc ih S' e
    have f6 : S'.1 (16, 0, 0) 6 = nI (s + c) := by rw [e]; simp [sI]
    have hS' : c_txt S' t n := txt_ft h (by rw [e]; exact (c_ft.rf S).I 16 6 _ (Or.inl ⟨rfl, by omega⟩))
    have hfig := (dg_at t n c s).1 hc c (Nat.le_refl _)
    refine w_X3_readNumber_14 o _ _ _ S' _ ⟨fun hc2 => absurd hc2 (z_ge (a := c) (b := 120) (by omega) (by decide)), fun _ => ?_⟩
    rw [f6]
    refine sp_byteAt S' hS' (by omega) _ ?_
    refine sp_isFigure S' ht _ (fun _ => ⟨fun hc => absurd hc (by decide), fun _ => ⟨fun h2 => ?_, fun h2 => ?_⟩⟩) (fun hf => absurd hfig hf)
    · have hc2 : 2 ≤ c := (nI_leI (a := 2) (by omega) (by omega)).1 h2
      rw [f6, ← nI_succ, ← nI_succ]
      have := ih (sI S' (16, 0, 0) 6 (nI (s + c + 1))) (by rw [e, sI_two]; rfl)
      rw [hvp (c + 1) (by omega), ← hvp c hc2] at this
      exact this
    · have hc2 : c < 2 := by
        rcases Nat.lt_or_ge c 2 with g | g
        · exact g
        · exact absurd (nI_le (a := 2) g (by omega)) h2
      rw [f6]
      refine sp_byteAt S' hS' (by omega) _ ?_
      rw [f6, ← nI_succ, ← nI_succ]
      have ey : m_y t n (s + c) = nI (t (s + c)) := if_pos hfig.1
      have ev : 10 * nI (m_vp t s c) + m_y t n (s + c) - 48 = nI (m_vp t s (c + 1)) := by
        rw [ey, show (10 : Int32) = nI 10 from rfl, pk_mul, nI_add, show (48 : Int32) = nI 48 from rfl, pk_sub (by have := hfig.2.1; omega)]
        refine congrArg nI ?_
        have := hfig.2.1
        have : c = 0 ∨ c = 1 := by omega
        rcases this with e | e <;> subst e
        · simp [m_vp]
        · simp only [m_vp]; simp; omega
      rw [ev]
      exact ih (sI S' (16, 0, 0) 6 (nI (s + c + 1))) (by rw [e, sI_two]; rfl)
end SPX
