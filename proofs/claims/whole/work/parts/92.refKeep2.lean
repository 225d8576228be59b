/-- no list is longer than its row -/
def m_bd (A : mS) : Prop := (∀ r, r < 4 → (m_R A r).length ≤ 3) ∧ (m_F A).length ≤ 4 ∧ ∀ x, x < 16 → (m_Q A x).length ≤ 4
theorem bd_am {B e : Nat} {A : mS} (h : m_am B e A) : m_bd A := by
  obtain ⟨hal, hrl, -⟩ := h
  refine ⟨fun r hr => Nat.le_trans (hrl r hr) (P_pos hal.1.1).2, ?_, fun x hx => (hal.1.2.2.2.1.2 x hx).1.1⟩
  have h1 := hal.1.2.2.1.2.2
  obtain ⟨-, -, ⟨F, hF, hF1, hF4⟩, -, -⟩ := hal.1.1
  rw [hF, z_cl (by omega)] at h1; omega
theorem rr_cp {S S' : zS} {A : mS} (h : r_R S A) (hb : m_bd A) (e1 : ∀ k t, 25 ≤ k → k ≤ 43 → t < k_len k → S'.1 (k, 0, 0) t = S.1 (k, 0, 0) t) (e2 : S'.2.2 (23, 0, 0) 20 = S.2.2 (23, 0, 0) 20) (e3 : S'.2.1 (23, 0, 0) 21 = S.2.1 (23, 0, 0) 21) (e4 : S'.2.1 (23, 0, 0) 22 = S.2.1 (23, 0, 0) 22) : r_R S' A := by
  obtain ⟨h1, h2, h3, h4, h5⟩ := h
  obtain ⟨b1, b2, b3⟩ := hb
  refine ⟨fun k t ht => ?_, fun r hr => ⟨?_, fun k b hk => ?_⟩, ⟨?_, fun k b hk => ?_⟩, fun x hx => ⟨?_, fun k q hk => ?_⟩, e2.trans h5.1, e3.trans h5.2.1, e4.trans h5.2.2⟩
  · refine (e1 k t ?_ ?_ ?_).trans (h1 k t ht)
    · unfold r_dir at ht; omega
    · unfold r_dir at ht; omega
    · unfold r_dir at ht
      rcases ht with ⟨e, ht⟩ | ⟨e, ht⟩ | ⟨e, ht⟩ | ⟨e, ht⟩ | ⟨e, ht⟩ | ⟨e, ht⟩
      · subst e; exact ht
      · rcases e with e | e <;> subst e <;> exact ht
      · rcases e with e | e | e <;> subst e <;> exact ht
      · subst e; show t < 3; omega
      · subst e; exact ht
      · rcases e with e | e | e <;> subst e <;> exact ht
  · exact (e1 31 r (by omega) (by omega) hr).trans (h2 r hr).1
  · have hk3 := (List.getElem?_eq_some_iff.1 hk).1
    have := b1 r hr
    exact (e1 32 _ (by omega) (by omega) (show 3 * r + k < 12 by omega)).trans ((h2 r hr).2 k b hk)
  · exact (e1 39 0 (by omega) (by omega) (show 0 < 3 by omega)).trans h3.1
  · have hk3 := (List.getElem?_eq_some_iff.1 hk).1
    exact (e1 33 _ (by omega) (by omega) (show k < 4 by omega)).trans (h3.2 k b hk)
  · exact (e1 34 x (by omega) (by omega) hx).trans (h4 x hx).1
  · have hk3 := (List.getElem?_eq_some_iff.1 hk).1
    have := b3 x hx
    obtain ⟨a1, a2, a3, a4⟩ := (h4 x hx).2 k q hk
    have hlt : 4 * x + k < 64 := by omega
    refine ⟨(e1 35 _ (by omega) (by omega) hlt).trans a1, fun v hv => (e1 36 _ (by omega) (by omega) hlt).trans (a2 v hv), (e1 37 _ (by omega) (by omega) hlt).trans a3, (e1 38 _ (by omega) (by omega) hlt).trans a4⟩
/-- what a kept row holds, seen as a state -/
def r_vw (S : zS) (at' : Nat) : zS := (fun q t => if 25 ≤ q.1 ∧ q.1 ≤ 43 ∧ q.2 = (0, 0) then S.1 (44, 0, 0) (1300 * at' + k_off q.1 + t) else S.1 q t, fun q t => if q = (23, 0, 0) ∧ t = 21 then S.2.1 (46, 0, 0) at' else if q = (23, 0, 0) ∧ t = 22 then S.2.1 (47, 0, 0) at' else S.2.1 q t, fun q t => if q = (23, 0, 0) ∧ t = 20 then S.2.2 (45, 0, 0) at' else S.2.2 q t)
def r_K (S : zS) (at' : Nat) (A : mS) : Prop := r_R (r_vw S at') A
theorem K_cp {S S' : zS} {a a' : Nat} {A : mS} (h : r_K S a A) (hb : m_bd A) (e1 : ∀ u, u < 1086 → S'.1 (44, 0, 0) (1300 * a' + u) = S.1 (44, 0, 0) (1300 * a + u)) (e2 : S'.2.2 (45, 0, 0) a' = S.2.2 (45, 0, 0) a) (e3 : S'.2.1 (46, 0, 0) a' = S.2.1 (46, 0, 0) a) (e4 : S'.2.1 (47, 0, 0) a' = S.2.1 (47, 0, 0) a) : r_K S' a' A := by
  refine rr_cp h hb (fun k t h1 h2 h3 => ?_) ?_ ?_ ?_
  · have hl := k_next k (by omega) h1
    have hl2 := k_le (k + 1) (by omega)
    simp only [r_vw, h1, h2, and_self, if_true]
    rw [Nat.add_assoc, Nat.add_assoc]
    exact e1 _ (by omega)
  · simp [r_vw, e2]
  · simp [r_vw, e3]
  · simp [r_vw, e4]
/-- nothing but kept row a has changed -/
def r_kf (a : Nat) (S S' : zS) : Prop := (∀ (q : zK) t, q ≠ (44, 0, 0) → ¬ (q = (23, 0, 0) ∧ t = 28) → S'.1 q t = S.1 q t) ∧ (∀ t, ¬ (1300 * a ≤ t ∧ t < 1300 * a + 1086) → S'.1 (44, 0, 0) t = S.1 (44, 0, 0) t) ∧ (∀ (q : zK) t, ¬ ((q = (46, 0, 0) ∨ q = (47, 0, 0)) ∧ t = a) → S'.2.1 q t = S.2.1 q t) ∧ ∀ (q : zK) t, ¬ (q = (45, 0, 0) ∧ t = a) → S'.2.2 q t = S.2.2 q t
/-- nothing but the state has changed -/
def r_cf (S S' : zS) : Prop := (∀ (q : zK) t, ¬ (25 ≤ q.1 ∧ q.1 ≤ 43 ∧ q.2 = (0, 0)) → ¬ (q = (23, 0, 0) ∧ t = 28) → S'.1 q t = S.1 q t) ∧ (∀ (q : zK) t, ¬ (q = (23, 0, 0) ∧ (t = 21 ∨ t = 22)) → S'.2.1 q t = S.2.1 q t) ∧ ∀ (q : zK) t, ¬ (q = (23, 0, 0) ∧ t = 20) → S'.2.2 q t = S.2.2 q t
section RPI
variable {o : zW}
theorem rs_keeps {a : Nat} (ha : a < 7) (S : zS) {A : mS} (h : r_R S A) (hbd : m_bd A) (K : zS → Prop) (hK : ∀ S', r_K S' a A → r_kf a S S' → K S') : zGv o 994 mdX5_keeps [.ref (z_adr o (23, 0, 0)), .int (nI a)] S K := by
  have hb : 1300 * a + 1086 ≤ 9100 := by omega
  have ea : (1300 : Int32) * nI a = nI (1300 * a) := by rw [show (1300 : Int32) = nI 1300 from rfl, pk_mul]
  refine w_X5_keeps_0 o _ S _ ?_
  rw [ea]
  have h0 : r_lay S (sI S (23, 0, 0) 28 (nI (1300 * a))) (1300 * a) 25 := by
    refine ⟨rfl, fun q t n1 n2 => ?_, by simp [sI, k_off], fun t ht => by simp [sI], fun k t h1 h2 => absurd h2 (by omega)⟩
    simp only [sI, if_neg n2]
  refine rs_lays (kr := 25) (n := 5) (by omega) rfl (fun _ _ _ => rfl) S _ hb h0 _ (fun S25 h25 => ?_)
  refine rs_lays (kr := 26) (n := 64) (by omega) rfl (fun _ _ _ => rfl) S _ hb h25 _ (fun S26 h26 => ?_)
  refine rs_lays (kr := 27) (n := 64) (by omega) rfl (fun _ _ _ => rfl) S _ hb h26 _ (fun S27 h27 => ?_)
  refine rs_lays (kr := 28) (n := 16) (by omega) rfl (fun _ _ _ => rfl) S _ hb h27 _ (fun S28 h28 => ?_)
  refine rs_lays (kr := 29) (n := 16) (by omega) rfl (fun _ _ _ => rfl) S _ hb h28 _ (fun S29 h29 => ?_)
  refine rs_lays (kr := 30) (n := 16) (by omega) rfl (fun _ _ _ => rfl) S _ hb h29 _ (fun S30 h30 => ?_)
  refine rs_lays (kr := 31) (n := 4) (by omega) rfl (fun _ _ _ => rfl) S _ hb h30 _ (fun S31 h31 => ?_)
  refine rs_lays (kr := 32) (n := 12) (by omega) rfl (fun _ _ _ => rfl) S _ hb h31 _ (fun S32 h32 => ?_)
  refine rs_lays (kr := 33) (n := 4) (by omega) rfl (fun _ _ _ => rfl) S _ hb h32 _ (fun S33 h33 => ?_)
  refine rs_lays (kr := 34) (n := 16) (by omega) rfl (fun _ _ _ => rfl) S _ hb h33 _ (fun S34 h34 => ?_)
  refine rs_lays (kr := 35) (n := 64) (by omega) rfl (fun _ _ _ => rfl) S _ hb h34 _ (fun S35 h35 => ?_)
  refine rs_lays (kr := 36) (n := 64) (by omega) rfl (fun _ _ _ => rfl) S _ hb h35 _ (fun S36 h36 => ?_)
  refine rs_lays (kr := 37) (n := 64) (by omega) rfl (fun _ _ _ => rfl) S _ hb h36 _ (fun S37 h37 => ?_)
  refine rs_lays (kr := 38) (n := 64) (by omega) rfl (fun _ _ _ => rfl) S _ hb h37 _ (fun S38 h38 => ?_)
  refine rs_lays (kr := 39) (n := 3) (by omega) rfl (fun _ _ _ => rfl) S _ hb h38 _ (fun S39 h39 => ?_)
  refine rs_lays (kr := 40) (n := 10) (by omega) rfl (fun _ _ _ => rfl) S _ hb h39 _ (fun S40 h40 => ?_)
  refine rs_lays (kr := 41) (n := 200) (by omega) rfl (fun _ _ _ => rfl) S _ hb h40 _ (fun S41 h41 => ?_)
  refine rs_lays (kr := 42) (n := 200) (by omega) rfl (fun _ _ _ => rfl) S _ hb h41 _ (fun S42 h42 => ?_)
  refine rs_lays (kr := 43) (n := 200) (by omega) rfl (fun _ _ _ => rfl) S _ hb h42 _ (fun S43 h43 => ?_)
  refine ⟨z_in ha (by omega), z_in ha (by omega), fun S58 e58 => ⟨z_in ha (by omega), rfl, ?_⟩⟩
  rw [z_cl (by omega)] at e58
  rw [z_cl (by omega)]
  obtain ⟨g1, g2, g3, g4, g5⟩ := h43
  have e44 : k_off 44 = 1086 := rfl
  rw [show 43 + 1 = 44 from rfl, e44] at g4
  subst e58
  refine hK _ ?_ ⟨fun q t n1 n2 => ?_, fun t ht => ?_, fun q t n1 => ?_, fun q t n1 => ?_⟩
  · refine rr_cp h hbd (fun k t h1 h2 h3 => ?_) ?_ ?_ ?_
    · simp only [r_vw, h1, h2, and_self, if_true]
      exact g5 k t h1 (by omega) h3
    · simp [r_vw, sF, sL, g1]
    · simp [r_vw, sF, sL, g1]
    · simp [r_vw, sF, sL, g1]
  · exact g2 q t n1 n2
  · exact g4 t ht
  · have n2 : ¬ (q = (46, 0, 0) ∧ t = a) := fun e => n1 ⟨Or.inl e.1, e.2⟩
    have n3 : ¬ (q = (47, 0, 0) ∧ t = a) := fun e => n1 ⟨Or.inr e.1, e.2⟩
    simp only [sF, sL, if_neg n2, if_neg n3, g1]
  · simp only [sF, sL, if_neg n1, g1]
theorem rs_comesBack {a : Nat} (ha : a < 7) (S : zS) {A : mS} (h : r_K S a A) (hbd : m_bd A) (K : zS → Prop) (hK : ∀ S', r_R S' A → r_cf S S' → K S') : zGv o 994 mdX5_comesBack [.ref (z_adr o (23, 0, 0)), .int (nI a)] S K := by
  have hb : 1300 * a + 1086 ≤ 9100 := by omega
  have ea : (1300 : Int32) * nI a = nI (1300 * a) := by rw [show (1300 : Int32) = nI 1300 from rfl, pk_mul]
  refine w_X5_comesBack_0 o _ S _ ?_
  rw [ea]
  have h0 : r_tak S (sI S (23, 0, 0) 28 (nI (1300 * a))) (1300 * a) 25 := by
    refine ⟨rfl, fun q t n1 n2 => ?_, by simp [sI, k_off], fun k t h1 h2 => absurd h2 (by omega)⟩
    simp only [sI, if_neg n2]
  refine rs_takes (kr := 25) (n := 5) (by omega) rfl (fun _ _ _ => rfl) S _ hb h0 _ (fun S25 h25 => ?_)
  refine rs_takes (kr := 26) (n := 64) (by omega) rfl (fun _ _ _ => rfl) S _ hb h25 _ (fun S26 h26 => ?_)
  refine rs_takes (kr := 27) (n := 64) (by omega) rfl (fun _ _ _ => rfl) S _ hb h26 _ (fun S27 h27 => ?_)
  refine rs_takes (kr := 28) (n := 16) (by omega) rfl (fun _ _ _ => rfl) S _ hb h27 _ (fun S28 h28 => ?_)
  refine rs_takes (kr := 29) (n := 16) (by omega) rfl (fun _ _ _ => rfl) S _ hb h28 _ (fun S29 h29 => ?_)
  refine rs_takes (kr := 30) (n := 16) (by omega) rfl (fun _ _ _ => rfl) S _ hb h29 _ (fun S30 h30 => ?_)
  refine rs_takes (kr := 31) (n := 4) (by omega) rfl (fun _ _ _ => rfl) S _ hb h30 _ (fun S31 h31 => ?_)
  refine rs_takes (kr := 32) (n := 12) (by omega) rfl (fun _ _ _ => rfl) S _ hb h31 _ (fun S32 h32 => ?_)
  refine rs_takes (kr := 33) (n := 4) (by omega) rfl (fun _ _ _ => rfl) S _ hb h32 _ (fun S33 h33 => ?_)
  refine rs_takes (kr := 34) (n := 16) (by omega) rfl (fun _ _ _ => rfl) S _ hb h33 _ (fun S34 h34 => ?_)
  refine rs_takes (kr := 35) (n := 64) (by omega) rfl (fun _ _ _ => rfl) S _ hb h34 _ (fun S35 h35 => ?_)
  refine rs_takes (kr := 36) (n := 64) (by omega) rfl (fun _ _ _ => rfl) S _ hb h35 _ (fun S36 h36 => ?_)
  refine rs_takes (kr := 37) (n := 64) (by omega) rfl (fun _ _ _ => rfl) S _ hb h36 _ (fun S37 h37 => ?_)
  refine rs_takes (kr := 38) (n := 64) (by omega) rfl (fun _ _ _ => rfl) S _ hb h37 _ (fun S38 h38 => ?_)
  refine rs_takes (kr := 39) (n := 3) (by omega) rfl (fun _ _ _ => rfl) S _ hb h38 _ (fun S39 h39 => ?_)
  refine rs_takes (kr := 40) (n := 10) (by omega) rfl (fun _ _ _ => rfl) S _ hb h39 _ (fun S40 h40 => ?_)
  refine rs_takes (kr := 41) (n := 200) (by omega) rfl (fun _ _ _ => rfl) S _ hb h40 _ (fun S41 h41 => ?_)
  refine rs_takes (kr := 42) (n := 200) (by omega) rfl (fun _ _ _ => rfl) S _ hb h41 _ (fun S42 h42 => ?_)
  refine rs_takes (kr := 43) (n := 200) (by omega) rfl (fun _ _ _ => rfl) S _ hb h42 _ (fun S43 h43 => ?_)
  refine ⟨z_in ha (by omega), z_in ha (by omega), fun S58 e58 => ⟨z_in ha (by omega), rfl, ?_⟩⟩
  rw [z_cl (by omega)] at e58
  rw [z_cl (by omega)]
  obtain ⟨g1, g2, g3, g5⟩ := h43
  subst e58
  refine hK _ ?_ ⟨fun q t n1 n2 => ?_, fun q t n1 => ?_, fun q t n1 => ?_⟩
  · refine rr_cp h hbd (fun k t h1 h2 h3 => ?_) ?_ ?_ ?_
    · simp only [r_vw, h1, h2, and_self, if_true]
      exact g5 k t h1 (by omega) h3
    · simp [r_vw, sF, sL, g1]
    · simp [r_vw, sF, sL, g1]
    · simp [r_vw, sF, sL, g1]
  · exact g2 q t (fun hx => n1 ⟨hx.1, by omega, hx.2.2⟩) n2
  · have n2 : ¬ (q = (23, 0, 0) ∧ t = 21) := fun e => n1 ⟨e.1, Or.inl e.2⟩
    have n3 : ¬ (q = (23, 0, 0) ∧ t = 22) := fun e => n1 ⟨e.1, Or.inr e.2⟩
    simp only [sF, sL, if_neg n2, if_neg n3, g1]
  · simp only [sF, sL, if_neg n1, g1]
end RPI
