section RPE
variable {o : zW}
abbrev m_kd (v : Option Int32) : Int32 := if v.isSome then 1 else 0
theorem rs_numberOf (v : Option Int32) (S0 S : zS) {A : mS} (h : r_R S A) (hf : r_fr S0 S) (hN : A.1 40 7 = nI (m_N A)) (hN2 : m_N A < 2 ^ 30) (K : Int32 → zS → Prop) (hK : ∀ S', r_R S' (if v.isSome then A else m_begun A) → r_fr S0 S' → (∀ q : zK, ¬ (40 ≤ q.1 ∧ q.1 ≤ 43) → S'.1 q = S.1 q) → S'.2 = S.2 → K (if v.isSome then -1 else nI (m_N A)) S') : zGi o 994 mdX5_numberOf [.ref (z_adr o (23, 0, 0)), .int (m_kd v)] S K := by
  have e407 : S.1 (40, 0, 0) 7 = nI (m_N A) := (h.1 40 7 (by unfold r_dir; omega)).trans hN
  have e409 : S.1 (40, 0, 0) 9 = A.1 40 9 := h.1 40 9 (by unfold r_dir; omega)
  cases v with
  | some x =>
    exact w_X5_numberOf_0 o _ S _ ⟨fun hc => absurd rfl hc, fun _ => ⟨_, rfl, hK S h hf (fun _ _ => rfl) rfl⟩⟩
  | none =>
    simp only [Option.isSome_none, Bool.false_eq_true, if_false] at hK
    refine w_X5_numberOf_0 o _ S _ ⟨fun _ => ?_, fun hc => absurd hc (by decide)⟩
    rw [e407]
    have hb : m_begun A = if m_N A < 200 then m_i (m_i (m_i (m_i A 40 7 (nI (m_N A) + 1)) 41 (m_N A) (-1)) 42 (m_N A) (-1)) 43 (m_N A) (A.1 40 9) else m_i A 40 7 (nI (m_N A) + 1) := by
      unfold m_begun; rw [hN]
    have h1 := rr_i h 40 7 (nI (m_N A) + 1) (by omega)
    have f1 := hf.I 40 7 (nI (m_N A) + 1) (by omega)
    have s1 : ∀ q : zK, ¬ (40 ≤ q.1 ∧ q.1 ≤ 43) → (sI S (40, 0, 0) 7 (nI (m_N A) + 1)).1 q = S.1 q := by
      intro q hq
      have hne : q ≠ (40, 0, 0) := fun e => hq (by subst e; simp)
      funext t
      simp [sI, hne]
    refine ⟨fun hc => ⟨_, rfl, hK _ ?_ f1 s1 rfl⟩, fun hc => ?_⟩
    · have : ¬ m_N A < 200 := by have := (nI_leI (a := 200) (by omega) (by omega)).1 hc; omega
      rw [hb, if_neg this]; exact h1
    · have hk2 : m_N A < 200 := by
        rcases Nat.lt_or_ge (m_N A) 200 with g | g
        · exact g
        · exact absurd (nI_le (a := 200) g (by omega)) hc
      rw [z_cl (by omega)]
      refine ⟨z_in hk2 (by omega), fun S3 e3 => ⟨z_in hk2 (by omega), fun y4 ey4 => ⟨z_in hk2 (by omega), fun S5 e5 => ⟨_, rfl, hK S5 ?_ ?_ (fun q hq => ?_) ?_⟩⟩⟩⟩
      · have ey4' : y4 = A.1 40 9 := by
          rw [ey4, e3]
          have := h1.1 40 9 (by unfold r_dir; omega)
          simpa [sI, m_i] using this
        subst e5 e3
        rw [hb, if_pos hk2, ey4']
        exact rr_i (rr_i (rr_i h1 41 _ _ (by omega)) 42 _ _ (by omega)) 43 _ _ (by omega)
      · subst e5 e3
        exact ((f1.I 41 _ _ (by omega)).I 42 _ _ (by omega)).I 43 _ _ (by omega)
      · have n1 : q ≠ (41, 0, 0) := fun e => hq (by subst e; simp)
        have n2 : q ≠ (42, 0, 0) := fun e => hq (by subst e; simp)
        have n3 : q ≠ (43, 0, 0) := fun e => hq (by subst e; simp)
        rw [← s1 q hq]
        subst e5 e3
        funext t
        simp [sI, n1, n2, n3]
      · subst e5 e3; rfl
theorem rs_does {b j : Nat} (hb : b < 16) (hj : j < 4) (v : Option Int32) (w : Int32) (hw : ∀ x, v = some x → w = x) (S0 S : zS) {A : mS} (h : r_R S A) (hf : r_fr S0 S) (hT : A.1 40 9 = nI (m_T A)) (hN : A.1 40 7 = nI (m_N A)) (hN2 : m_N A < 2 ^ 30) (K : zS → Prop) (hK : ∀ S', r_R S' (m_do A b j v) → r_fr S0 S' → K S') : zGv o 994 mdX5_does [.ref (z_adr o (23, 0, 0)), .int (nI b), .int (m_kd v), .int (nI j), .int w] S K := by
  refine w_X5_does_0 o _ _ _ _ S _ (rs_numberOf v S0 S h hf hN hN2 _ (fun S3 h3 f3 _ _ => ?_))
  cases v with
  | some x =>
    simp only [Option.isSome_some, if_true] at h3 ⊢
    refine ⟨fun hc => absurd rfl hc, fun _ => ?_⟩
    rw [hw x rfl]
    exact rs_laysIn hb hj x S0 S3 h3 f3 _ (fun S' h' f' => ⟨trivial, hK S' h' f'⟩)
  | none =>
    simp only [Option.isSome_none, Bool.false_eq_true, if_false] at h3 ⊢
    refine ⟨fun _ => ?_, fun hc => absurd hc (by decide)⟩
    have e9 : S3.1 (40, 0, 0) 9 = nI (m_T A) := by
      rw [h3.1 40 9 (by unfold r_dir; omega), (begun_keep A).2.2.2.2.2.2.2.1 9 (by omega)]; exact hT
    rw [e9]
    exact rs_getsItem (by omega) hb hj S0 S3 h3 f3 _ (fun S' h' f' => ⟨trivial, hK S' h' f'⟩)
theorem begun_q (A : mS) (b : Nat) (l : List mQ) : m_begun (m_q A b l) = m_q (m_begun A) b l := by
  unfold m_begun
  have e : m_N (m_q A b l) = m_N A := rfl
  dsimp only
  rw [e]
  by_cases hc : m_N A < 200
  · rw [if_pos hc, if_pos hc]; rfl
  · rw [if_neg hc, if_neg hc]; rfl
theorem rr_more {S S' : zS} {A : mS} (h : r_R S A) {b : Nat} (hs : ∀ (q : zK) t, ¬ (35 ≤ q.1 ∧ q.1 ≤ 38 ∧ t = 4 * b + (m_Q A b).length) → S'.1 q t = S.1 q t) (h2' : S'.2 = S.2) (hq : ∀ x, x < 16 → (m_Q A x).length ≤ 4) (hb4 : (m_Q A b).length < 4) : r_R S' A := by
  obtain ⟨h1, h2, h3, h4, h5⟩ := h
  have ek : ∀ k t, ¬ (35 ≤ k ∧ k ≤ 38) → S'.1 (k, 0, 0) t = S.1 (k, 0, 0) t := fun k t n1 => hs _ t (fun hc => n1 ⟨hc.1, hc.2.1⟩)
  refine ⟨fun k t ht => ?_, fun r' hr' => ⟨?_, fun k b hk => ?_⟩, ⟨?_, fun k b hk => ?_⟩, fun x hx => ⟨?_, fun k q hk => ?_⟩, ?_⟩
  · rw [ek k t (by unfold r_dir at ht; omega)]; exact h1 k t ht
  · rw [ek 31 _ (by omega)]; exact (h2 r' hr').1
  · rw [ek 32 _ (by omega)]; exact (h2 r' hr').2 k b hk
  · rw [ek 39 0 (by omega)]; exact h3.1
  · rw [ek 33 k (by omega)]; exact h3.2 k b hk
  · rw [ek 34 x (by omega)]; exact (h4 x hx).1
  · have hk4 : k < (m_Q A x).length := (List.getElem?_eq_some_iff.1 hk).1
    have hx4 := hq x hx
    have ne : ¬ (4 * x + k = 4 * b + (m_Q A b).length) := by
      intro e
      have : x = b := by omega
      subst this
      omega
    have e4 : ∀ j, S'.1 (j, 0, 0) (4 * x + k) = S.1 (j, 0, 0) (4 * x + k) := fun j => hs _ _ (fun hc => ne hc.2.2)
    unfold r_ask
    rw [e4, e4, e4, e4]
    exact (h4 x hx).2 k q hk
  · unfold r_R5; rw [h2']; exact h5
theorem rs_asks {b j : Nat} (hb : b < 16) (v : Option Int32) (w : Int32) (hw : ∀ x, v = some x → w = x) (S0 S : zS) {A : mS} (h : r_R S A) (hf : r_fr S0 S) (hT : A.1 40 9 = nI (m_T A)) (hN : A.1 40 7 = nI (m_N A)) (hN2 : m_N A < 2 ^ 30) (hq : ∀ x, x < 16 → (m_Q A x).length ≤ 4) (hb4 : (m_Q A b).length < 4) (K : zS → Prop) (hK : ∀ S', r_R S' (m_join A b j v) → r_fr S0 S' → K S') : zGv o 994 mdX5_asks [.ref (z_adr o (23, 0, 0)), .int (nI b), .int (m_kd v), .int (nI j), .int w] S K := by
  have e34 : S.1 (34, 0, 0) b = nI (m_Q A b).length := (h.2.2.2.1 b hb).1
  have ex : ∀ j, (4 : Int32) * nI b + nI j = nI (4 * b + j) := fun j => by rw [show (4 : Int32) = nI 4 from rfl, pk_mul, nI_add]
  refine w_X5_asks_0 o _ _ _ _ S _ ?_
  rw [z_cl (by omega), e34, ex, z_cl (by omega)]
  generalize hi : 4 * b + (m_Q A b).length = i
  refine ⟨z_in hb (by omega), z_in (by omega) (by omega), fun S1 e1 => ⟨z_in (by omega) (by omega), fun S2 e2 => ⟨z_in (by omega) (by omega), fun S3 e3 => ?_⟩⟩⟩
  have e409 : S2.1 (40, 0, 0) 9 = nI (m_T A) := by
    have := (h.1 40 9 (by unfold r_dir; omega)).trans hT
    subst e2 e1
    simpa [sI] using this
  rw [e409] at e3
  have h3 : r_R S3 A := by
    subst e3 e2 e1
    refine rr_more (b := b) h (fun q t n1 => ?_) rfl hq hb4
    rw [hi] at n1
    have n35 : ¬ (q = (35, 0, 0) ∧ t = i) := fun e => n1 ⟨by rw [e.1]; simp, by rw [e.1]; simp, e.2⟩
    have n36 : ¬ (q = (36, 0, 0) ∧ t = i) := fun e => n1 ⟨by rw [e.1]; simp, by rw [e.1]; simp, e.2⟩
    have n37 : ¬ (q = (37, 0, 0) ∧ t = i) := fun e => n1 ⟨by rw [e.1]; simp, by rw [e.1]; simp, e.2⟩
    simp only [sI, if_neg n35, if_neg n36, if_neg n37]
  have f3 : r_fr S0 S3 := by
    subst e3 e2 e1
    exact ((hf.I 35 _ _ (by omega)).I 36 _ _ (by omega)).I 37 _ _ (by omega)
  have d35 : S3.1 (35, 0, 0) i = nI j := by subst e3 e2 e1; simp [sI]
  have d36 : S3.1 (36, 0, 0) i = w := by subst e3 e2 e1; simp [sI]
  have d37 : S3.1 (37, 0, 0) i = nI (m_T A) := by subst e3 e2 e1; simp [sI]
  clear e3 e2 e1
  refine rs_numberOf v S0 S3 h3 f3 hN hN2 _ (fun S6 h6 f6 s6 t6 => ⟨z_in (by omega) (by omega), fun S7 e7 => ⟨z_in hb (by omega), z_in hb (by omega), fun S8 e8 => ⟨rfl, ?_⟩⟩⟩)
  have g34 : S7.1 (34, 0, 0) b = nI (m_Q A b).length := by
    subst e7
    have := (h3.2.2.2.1 b hb).1
    rw [← s6 (34, 0, 0) (by simp)] at this
    simpa [sI] using this
  rw [g34, ← nI_succ] at e8
  have eQ : m_Q (if v.isSome then A else m_begun A) = m_Q A := by
    split
    · rfl
    · exact (begun_keep A).2.2.2.2.2.2.2.2.2.2.1
  have ej : m_join A b j v = m_q (if v.isSome then A else m_begun A) b (m_Q A b ++ [(j, m_T A, v, m_N A)]) := by
    cases v with
    | some x => rfl
    | none => exact begun_q A b _
  refine hK S8 ?_ (by subst e8 e7; exact (f6.I 38 _ _ (by omega)).I 34 _ _ (by omega))
  rw [ej]
  refine rr_q h6 _ (fun q t n1 n2 => ?_) (by subst e8 e7; rfl) ?_ (fun k q hk => ?_) (fun x hx => by rw [eQ]; exact hq x hx)
  · have n38 : ¬ (q = (38, 0, 0) ∧ t = i) := fun e => n2 ⟨by rw [e.1]; simp, by rw [e.1]; simp, by omega⟩
    subst e8 e7
    simp only [sI, if_neg n1, if_neg n38]
  · subst e8
    simp only [List.length_append, List.length_singleton]
    simp [sI]
  · have g8 : ∀ k', 35 ≤ k' → k' ≤ 37 → ∀ t, S8.1 (k', 0, 0) t = S3.1 (k', 0, 0) t := by
      intro k' h1 h2 t
      have := congrFun (s6 (k', 0, 0) (by simp only; omega)) t
      rw [← this]
      subst e8 e7
      have a : ¬ k' = 38 := by omega
      have c : ¬ k' = 34 := by omega
      simp [sI, a, c]
    by_cases e : k = (m_Q A b).length
    · subst e
      rw [List.getElem?_append_right (Nat.le_refl _)] at hk
      simp only [Nat.sub_self, List.getElem?_cons_zero, Option.some.injEq] at hk
      subst hk
      unfold r_ask
      rw [hi, g8 35 (by omega) (by omega), g8 36 (by omega) (by omega), g8 37 (by omega) (by omega)]
      refine ⟨d35, fun x hx => ?_, d37, ?_⟩
      · rw [d36]; exact hw x hx
      · subst e8 e7
        simp [sI]
    · have hk2 : k < (m_Q A b).length := by
        have := (List.getElem?_eq_some_iff.1 hk).1
        simp only [List.length_append, List.length_singleton] at this
        omega
      rw [List.getElem?_append_left hk2] at hk
      obtain ⟨a1, a2, a3, a4⟩ := (h3.2.2.2.1 b hb).2 k q hk
      unfold r_ask
      rw [g8 35 (by omega) (by omega), g8 36 (by omega) (by omega), g8 37 (by omega) (by omega)]
      refine ⟨a1, a2, a3, ?_⟩
      have := congrFun (s6 (38, 0, 0) (by simp)) (4 * b + k)
      rw [← this] at a4
      rw [← a4]
      subst e8 e7
      have ne : ¬ (4 * b + k = i) := by omega
      simp [sI, ne]
end RPE
