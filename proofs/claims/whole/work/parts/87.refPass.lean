section RPD
variable {o : zW}
/-- what the loops of a TICK need -/
def r_I (x : Int32) (A : mS) : Prop := m_inv 16 A ∧ m_rl A ∧ m_ql A ∧ A.1 40 9 = x
theorem rs_comesTime (S0 S : zS) {A : mS} (h : r_R S A) (hf : r_fr S0 S) (hI : m_inv 16 A) (hrl : m_rl A) (hql : m_ql A) (K : zS → Prop) (hK : ∀ S', r_R S' ((List.range 16).foldl m_p2 ((List.range 16).foldl m_p1 A)) → r_fr S0 S' → K S') : zGv o 994 mdX5_comesTime [.ref (z_adr o (23, 0, 0))] S K := by
  have e409 : S.1 (40, 0, 0) 9 = A.1 40 9 := h.1 40 9 (by unfold r_dir; omega)
  refine w_X5_comesTime_0 o S _ ?_
  rw [e409]
  generalize hx : A.1 40 9 = x
  have i1 : ∀ k, k ≤ 16 → r_I x ((List.range k).foldl m_p1 A) := fun k hk => z_loop m_p1 (fun _ A => r_I x A) (fun k A hk i => ⟨inv_p1 i.1 hk, rl_p1 i.2.1 k, ql_p1 i.2.2.1 k, (p1_T A k).1.trans i.2.2.2⟩) A ⟨hI, hrl, hql, hx⟩ k hk
  generalize hA1 : (List.range 16).foldl m_p1 A = A1 at hK
  have i10 : r_I x A1 := by rw [← hA1]; exact i1 16 (Nat.le_refl _)
  have i2 : ∀ k, k ≤ 16 → r_I x ((List.range k).foldl m_p2 A1) := fun k hk => z_loop m_p2 (fun _ A => r_I x A) (fun k A hk i => ⟨inv_p2 i.1 hk, rl_p2 i.2.1 i.1.1 k, ql_p2 i.2.2.1 k, (p2_T A k).1.trans i.2.2.2⟩) A1 i10 k hk
  have loop2 : ∀ S' : zS, r_R S' A1 → r_fr S0 S' → zG o 994 mdX5_comesTime 59 [(0, .ref (z_adr o (23, 0, 0))), (1, .int x), (2, .int 0)] [] S' (fun rr S'' => rr = none ∧ K S'') := by
    refine z_down 16 (fun k => ∀ S' : zS, r_R S' ((List.range k).foldl m_p2 A1) → r_fr S0 S' → zG o 994 mdX5_comesTime 59 [(0, .ref (z_adr o (23, 0, 0))), (1, .int x), (2, .int (nI k))] [] S' (fun rr S'' => rr = none ∧ K S'')) ?_ ?_ 0 (by omega)
    · intro S' h' f'
      exact w_X5_comesTime_59 o _ _ S' _ ⟨fun _ => ⟨rfl, hK S' h' f'⟩, fun hc => absurd (by decide) hc⟩
    · intro k hk ih S' h' f'
      obtain ⟨j1, j2, j3, j4⟩ := i2 k (by omega)
      rw [z_fold_succ] at ih
      generalize (List.range k).foldl m_p2 A1 = X at h' j1 j2 j3 j4 ih
      have d29 : S'.1 (29, 0, 0) k = X.1 29 k := h'.1 29 k (by unfold r_dir; omega)
      have d30 : S'.1 (30, 0, 0) k = X.1 30 k := h'.1 30 k (by unfold r_dir; omega)
      have no : ¬ (X.1 29 k = 3 ∧ X.1 30 k = X.1 40 9) → zG o 994 mdX5_comesTime 59 [(0, .ref (z_adr o (23, 0, 0))), (1, .int x), (2, .int (nI k + 1))] [] S' (fun rr S'' => rr = none ∧ K S'') := by
        intro hc
        rw [← nI_succ]
        refine ih S' ?_ f'
        have : m_p2 X k = X := if_neg hc
        rw [this]; exact h'
      refine w_X5_comesTime_59 o _ _ S' _ ⟨fun hc => absurd hc (z_ge (a := k) (b := 16) hk (by decide)), fun _ => ⟨z_in hk (by omega), ?_⟩⟩
      rw [z_cl (by omega), d29, d30]
      refine ⟨fun n3 => no (fun hc => n3 hc.1), fun e3 => ⟨z_in hk (by omega), fun nd => no (fun hc => nd (hc.2.trans j4)), fun ed => ?_⟩⟩
      refine rs_come hk S0 S' h' f' j1 j2 j3 e3 _ (fun S6 h6 f6 => ?_)
      rw [← nI_succ]
      refine ih S6 ?_ f6
      have : m_p2 X k = m_come X k := if_pos ⟨e3, ed.trans j4.symm⟩
      rw [this]; exact h6
  refine z_down 16 (fun k => ∀ S' : zS, r_R S' ((List.range k).foldl m_p1 A) → r_fr S0 S' → zG o 994 mdX5_comesTime 10 [(0, .ref (z_adr o (23, 0, 0))), (1, .int x), (2, .int (nI k))] [] S' (fun rr S'' => rr = none ∧ K S'')) ?_ ?_ 0 (by omega) S h hf
  · intro S' h' f'
    rw [hA1] at h'
    exact w_X5_comesTime_10 o _ _ S' _ ⟨fun _ => loop2 S' h' f', fun hc => absurd (by decide) hc⟩
  · intro k hk ih S' h' f'
    obtain ⟨j1, j2, j3, j4⟩ := i1 k (by omega)
    rw [z_fold_succ] at ih
    generalize (List.range k).foldl m_p1 A = X at h' j1 j2 j3 j4 ih
    have d29 : S'.1 (29, 0, 0) k = X.1 29 k := h'.1 29 k (by unfold r_dir; omega)
    have d30 : S'.1 (30, 0, 0) k = X.1 30 k := h'.1 30 k (by unfold r_dir; omega)
    have d39 : S'.1 (39, 0, 0) 1 = X.1 39 1 := h'.1 39 1 (by unfold r_dir; omega)
    have no : ¬ (X.1 29 k = 2 ∧ X.1 30 k = X.1 40 9) → zG o 994 mdX5_comesTime 10 [(0, .ref (z_adr o (23, 0, 0))), (1, .int x), (2, .int (nI k + 1))] [] S' (fun rr S'' => rr = none ∧ K S'') := by
      intro hc
      rw [← nI_succ]
      refine ih S' ?_ f'
      have : m_p1 X k = X := if_neg hc
      rw [this]; exact h'
    refine w_X5_comesTime_10 o _ _ S' _ ⟨fun hc => absurd hc (z_ge (a := k) (b := 16) hk (by decide)), fun _ => ⟨z_in hk (by omega), ?_⟩⟩
    rw [z_cl (by omega), d29, d30]
    refine ⟨fun n3 => no (fun hc => n3 hc.1), fun e3 => ⟨z_in hk (by omega), fun nd => no (fun hc => nd (hc.2.trans j4)), fun ed => ?_⟩⟩
    rw [d39]
    refine rs_goesFar hk S0 _ (rr_i h' 39 1 _ (by omega)) (f'.I 39 1 _ (by omega)) j1.2.2.2.2.2.2 _ (fun S6 h6 f6 => ?_)
    rw [← nI_succ]
    refine ih S6 ?_ f6
    have : m_p1 X k = m_gone (m_i X 39 1 (X.1 39 1 - 1)) k := if_pos ⟨e3, ed.trans j4.symm⟩
    rw [this]; exact h6
theorem rs_goesBy (S0 S : zS) {A : mS} (h : r_R S A) (hf : r_fr S0 S) {B : Nat} (ham : m_am B 0 A) (K : zS → Prop) (hK : ∀ S', r_R S' (m_pass A) → r_fr S0 S' → K S') : zGv o 994 mdX5_goesBy [.ref (z_adr o (23, 0, 0))] S K := by
  have e409 : S.1 (40, 0, 0) 9 = A.1 40 9 := h.1 40 9 (by unfold r_dir; omega)
  refine w_X5_goesBy_0 o S _ ?_
  rw [e409]
  have h1 : r_R (sI S (40, 0, 0) 9 (A.1 40 9 + 1)) (m_tick A) := rr_i h 40 9 _ (by omega)
  have e25 : (m_tick A).1 25 = A.1 25 := by funext t; simp [m_tick, m_i]
  exact rs_comesTime S0 _ h1 (hf.I 40 9 _ (by omega)) (inv_tick ham.1.1) (rl_same ham.2.1 rfl e25) (ql_same ham.2.2 rfl) _ (fun S' h' f' => ⟨rfl, hK S' h' f'⟩)
theorem rs_counts {b : Nat} (hb : b < 16) (S0 S : zS) {A : mS} (h : r_R S A) (hf : r_fr S0 S) (hI : m_inv 16 A) (hrl : m_rl A) (hw : A.1 29 b = 1) (K : zS → Prop) (hK : ∀ S', r_R S' (m_use A b) → r_fr S0 S' → K S') : zGv o 994 mdX5_counts [.ref (z_adr o (23, 0, 0)), .int (nI b)] S K := by
  have hr : b % 4 < 4 := Nat.mod_lt _ (by omega)
  have hbR : b ∈ m_R A (b % 4) := ((hI.2.1 (b % 4) hr).2 b).2 ⟨hb, rfl, hw⟩
  have hnd := (hI.2.1 (b % 4) hr).1
  have h16 : ∀ x, x ∈ m_R A (b % 4) → x < 16 := fun x hx => (((hI.2.1 (b % 4) hr).2 x).1 hx).1
  have hP := P_pos hI.1
  have hl3 : ∀ r, r < 4 → (m_R A r).length ≤ 3 := fun r hr => Nat.le_trans (hrl r hr) hP.2
  refine w_X5_counts_0 o _ S _ (rs_rowOf b hb S _ ?_)
  unfold m_use at hK
  generalize hrr : b % 4 = r at hr hbR hnd h16 hK
  obtain ⟨xs, ys, hxy, hnx⟩ : ∃ xs ys, m_R A r = xs ++ b :: ys ∧ b ∉ xs := by
    obtain ⟨s, t, e⟩ := List.append_of_mem hbR
    rw [e] at hnd
    refine ⟨s, t, e, fun hm => ?_⟩
    have := (List.nodup_append.1 hnd).2.2 b hm b (by simp)
    exact this rfl
  have hlen : xs.length + 1 + ys.length ≤ 3 := by
    have := hl3 r hr
    rw [hxy] at this
    simp only [List.length_append, List.length_cons] at this
    omega
  have her : (m_R A r).erase b = xs ++ ys := by
    rw [hxy, List.erase_append_right _ hnx]
    simp
  rw [her] at hK
  have ex : ∀ k, (3 : Int32) * nI r + nI k = nI (3 * r + k) := fun k => by rw [show (3 : Int32) = nI 3 from rfl, pk_mul, nI_add]
  have ex0 : (3 : Int32) * nI r = nI (3 * r) := by rw [show (3 : Int32) = nI 3 from rfl, pk_mul]
  have e32 : ∀ k c, (m_R A r)[k]? = some c → S.1 (32, 0, 0) (3 * r + k) = nI c := (h.2.1 r hr).2
  have key : ∀ k, k ≤ xs.length → ∀ S' : zS, S'.2 = S.2 → (∀ (q : zK) t, ¬ (q = (32, 0, 0) ∧ 3 * r ≤ t ∧ t < 3 * r + 3) → S'.1 q t = S.1 q t) → (∀ j c, xs[j]? = some c → j < k → S'.1 (32, 0, 0) (3 * r + j) = nI c) → (∀ j c, xs[j]? = some c → k ≤ j → S'.1 (32, 0, 0) (3 * r + j + 1) = nI c) → (∀ j, xs.length + 1 ≤ j → S'.1 (32, 0, 0) (3 * r + j) = S.1 (32, 0, 0) (3 * r + j)) → r_fr S0 S' →
      zG o 994 mdX5_counts 30 [(0, .ref (z_adr o (23, 0, 0))), (1, .int (nI b)), (2, .int (nI r)), (4, .int (nI k))] [] S' (fun rr S'' => rr = none ∧ K S'') := by
    intro k
    induction k with
    | zero =>
      intro _ S' s2 hs hlo hhi hst hf'
      refine w_X5_counts_30 o _ _ _ S' _ ⟨fun _ => ?_, fun hc => absurd (by decide) hc⟩
      rw [ex0]
      refine ⟨z_in (by omega) (by omega), rfl, ?_⟩
      rw [z_cl (by omega)]
      refine hK _ ?_ (hf'.I 32 _ _ (by omega))
      refine rr_row h hr (b :: (xs ++ ys)) (by simp only [List.length_cons, List.length_append]; omega) (fun q t n1 n2 => ?_) s2 ?_ (fun j c hj => ?_) hl3
      · have n3 : ¬ (q = (32, 0, 0) ∧ t = 3 * r) := fun e => n2 ⟨e.1, by omega⟩
        simp only [sI, if_neg n3]
        exact hs q t n2
      · simp only [sI]
        rw [if_neg (by simp), hs (31, 0, 0) r (by simp), (h.2.1 r hr).1, hxy]
        exact congrArg nI (by simp only [List.length_append, List.length_cons]; omega)
      · cases j with
        | zero =>
          simp only [List.getElem?_cons_zero, Option.some.injEq] at hj
          subst hj
          simp [sI]
        | succ j =>
          rw [List.getElem?_cons_succ] at hj
          simp only [sI]
          rw [if_neg (by omega)]
          rcases Nat.lt_or_ge j xs.length with g | g
          · rw [List.getElem?_append_left g] at hj
            exact hhi j c hj (Nat.zero_le _)
          · rw [hst (j + 1) (by omega)]
            refine e32 (j + 1) c ?_
            rw [List.getElem?_append_right g] at hj
            rw [hxy, List.getElem?_append_right (by omega), show j + 1 - xs.length = (j - xs.length) + 1 from by omega, List.getElem?_cons_succ]
            exact hj
    | succ k ih =>
      intro hk S' s2 hs hlo hhi hst hf'
      refine w_X5_counts_30 o _ _ _ S' _ ⟨fun hc => absurd hc (nI_nle (by omega) (by omega)), fun _ => ?_⟩
      rw [ex, show 3 * r + (k + 1) = (3 * r + k) + 1 from by omega, nI_pred]
      refine ⟨z_in (by omega) (by omega), z_in (by omega) (by omega), fun S4 e4 => ?_⟩
      rw [z_cl (by omega), z_cl (by omega)] at e4
      have em : nI (k + 1) + (-1) = nI k := by rw [nI_succ]; simp [Int32.add_assoc]
      rw [em]
      obtain ⟨c, hc2⟩ : ∃ c, xs[k]? = some c := ⟨xs[k], List.getElem?_eq_getElem (by omega)⟩
      have hv := hlo k c hc2 (by omega)
      rw [hv] at e4
      subst e4
      refine ih (by omega) _ s2 (fun q t n1 => ?_) (fun j d hj hjk => ?_) (fun j d hj hjk => ?_) (fun j hj => ?_) (hf'.I 32 _ _ (by omega))
      · have n3 : ¬ (q = (32, 0, 0) ∧ t = 3 * r + k + 1) := fun e => n1 ⟨e.1, by omega⟩
        simp only [sI, if_neg n3]
        exact hs q t n1
      · have := hlo j d hj (by omega)
        simp only [sI]
        rw [if_neg (by omega)]
        exact this
      · by_cases e : j = k
        · subst e
          rw [hc2] at hj
          simp only [Option.some.injEq] at hj
          subst hj
          simp [sI]
        · have := hhi j d hj (by omega)
          simp only [sI]
          rw [if_neg (by omega)]
          exact this
      · simp only [sI]
        rw [if_neg (by omega)]
        exact hst j hj
  refine z_down xs.length (fun k => zG o 994 mdX5_counts 7 [(0, .ref (z_adr o (23, 0, 0))), (1, .int (nI b)), (2, .int (nI r)), (3, .int (nI k))] [] S (fun rr S'' => rr = none ∧ K S'')) ?_ ?_ 0 (by omega)
  · have e : S.1 (32, 0, 0) (3 * r + xs.length) = nI b := e32 xs.length b (by rw [hxy]; simp)
    refine w_X5_counts_7 o _ _ _ S _ ?_
    rw [ex, z_cl (by omega), e]
    refine ⟨z_in (by omega) (by omega), fun _ => ?_, fun hc => absurd rfl hc⟩
    refine key xs.length (Nat.le_refl _) S rfl (fun _ _ _ => rfl) (fun j c hj hjk => e32 j c ?_) (fun j c hj hjk => ?_) (fun _ _ => rfl) hf
    · rw [hxy, List.getElem?_append_left hjk]; exact hj
    · have := (List.getElem?_eq_some_iff.1 hj).1
      omega
  · intro k hk ih
    have hk2 : k < (m_R A r).length := by rw [hxy]; simp only [List.length_append, List.length_cons]; omega
    have hc1 : (m_R A r)[k]? = some (m_R A r)[k] := List.getElem?_eq_getElem hk2
    have hc16 := h16 _ (List.getElem_mem hk2)
    generalize (m_R A r)[k] = c at hc1 hc16
    refine w_X5_counts_7 o _ _ _ S _ ?_
    rw [ex, z_cl (by omega), e32 k c hc1]
    refine ⟨z_in (by omega) (by omega), fun e => ?_, fun _ => by rw [← nI_succ]; exact ih⟩
    exfalso
    have e2 : c = b := (nI_eq (by omega) (by omega)).1 e
    subst e2
    rw [hxy, List.getElem?_append_left hk] at hc1
    exact hnx (List.mem_of_getElem? hc1)
end RPD
