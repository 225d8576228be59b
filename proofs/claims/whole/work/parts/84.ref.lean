/-! the reference holds the mathematical state A -/
def r_dir (k t : Nat) : Prop := (k = 25 ∧ t < 5) ∨ ((k = 26 ∨ k = 27) ∧ t < 64) ∨ ((k = 28 ∨ k = 29 ∨ k = 30) ∧ t < 16) ∨ (k = 39 ∧ (t = 1 ∨ t = 2)) ∨ (k = 40 ∧ t < 10) ∨ ((k = 41 ∨ k = 42 ∨ k = 43) ∧ t < 200)
def r_R1 (S : zS) (A : mS) : Prop := ∀ k t, r_dir k t → S.1 (k, 0, 0) t = A.1 k t
def r_R2 (S : zS) (A : mS) : Prop := ∀ r, r < 4 → S.1 (31, 0, 0) r = nI (m_R A r).length ∧ ∀ k b, (m_R A r)[k]? = some b → S.1 (32, 0, 0) (3 * r + k) = nI b
def r_R3 (S : zS) (A : mS) : Prop := S.1 (39, 0, 0) 0 = nI (m_F A).length ∧ ∀ k b, (m_F A)[k]? = some b → S.1 (33, 0, 0) k = nI b
def r_ask (S : zS) (b k : Nat) (q : mQ) : Prop := S.1 (35, 0, 0) (4 * b + k) = nI q.1 ∧ (∀ v, q.2.2.1 = some v → S.1 (36, 0, 0) (4 * b + k) = v) ∧ S.1 (37, 0, 0) (4 * b + k) = nI q.2.1 ∧ S.1 (38, 0, 0) (4 * b + k) = (if q.2.2.1.isSome then -1 else nI q.2.2.2)
def r_R4 (S : zS) (A : mS) : Prop := ∀ b, b < 16 → S.1 (34, 0, 0) b = nI (m_Q A b).length ∧ ∀ k q, (m_Q A b)[k]? = some q → r_ask S b k q
def r_R5 (S : zS) (A : mS) : Prop := S.2.2 (23, 0, 0) 20 = m_C A ∧ S.2.1 (23, 0, 0) 21 = m_W A ∧ S.2.1 (23, 0, 0) 22 = m_X A
def r_R (S : zS) (A : mS) : Prop := r_R1 S A ∧ r_R2 S A ∧ r_R3 S A ∧ r_R4 S A ∧ r_R5 S A
/-- nothing but the state of the reference has changed -/
def r_fr (S S' : zS) : Prop := (∀ q : zK, ¬ (25 ≤ q.1 ∧ q.1 ≤ 43) → S'.1 q = S.1 q) ∧ (∀ (q : zK) t, ¬ (q = (23, 0, 0) ∧ (t = 21 ∨ t = 22)) → S'.2.1 q t = S.2.1 q t) ∧ ∀ (q : zK) t, ¬ (q = (23, 0, 0) ∧ t = 20) → S'.2.2 q t = S.2.2 q t
theorem r_fr.rf (S : zS) : r_fr S S := ⟨fun _ _ => rfl, fun _ _ _ => rfl, fun _ _ _ => rfl⟩
theorem r_fr.tr {S S1 S2 : zS} (h : r_fr S S1) (h2 : r_fr S1 S2) : r_fr S S2 := ⟨fun q hq => (h2.1 q hq).trans (h.1 q hq), fun q t hq => (h2.2.1 q t hq).trans (h.2.1 q t hq), fun q t hq => (h2.2.2 q t hq).trans (h.2.2 q t hq)⟩
theorem r_fr.I {S S1 : zS} (h : r_fr S S1) (k s : Nat) (v : Int32) (hk : 25 ≤ k ∧ k ≤ 43) : r_fr S (sI S1 (k, 0, 0) s v) := by
  refine ⟨fun q hq => ?_, h.2.1, h.2.2⟩
  have hne : q ≠ (k, 0, 0) := fun e => hq (by subst e; exact hk)
  rw [← h.1 q hq]
  funext t
  simp [sI, hne]
theorem r_fr.L {S S1 : zS} (h : r_fr S S1) (s : Nat) (v : Int64) (hs : s = 21 ∨ s = 22) : r_fr S (sL S1 (23, 0, 0) s v) := by
  refine ⟨h.1, fun q t hq => ?_, h.2.2⟩
  have hne : ¬ (q = (23, 0, 0) ∧ t = s) := fun e => hq ⟨e.1, by omega⟩
  rw [← h.2.1 q t hq]
  simp only [sL, if_neg hne]
theorem r_fr.F {S S1 : zS} (h : r_fr S S1) (v : UInt32) : r_fr S (sF S1 (23, 0, 0) 20 v) := by
  refine ⟨h.1, h.2.1, fun q t hq => ?_⟩
  rw [← h.2.2 q t hq]
  simp only [sF, if_neg hq]
theorem rr_i {S : zS} {A : mS} (h : r_R S A) (k s : Nat) (v : Int32) (hk : (25 ≤ k ∧ k ≤ 30) ∨ (40 ≤ k ∧ k ≤ 43) ∨ (k = 39 ∧ s ≠ 0)) : r_R (sI S (k, 0, 0) s v) (m_i A k s v) := by
  obtain ⟨h1, h2, h3, h4, h5⟩ := h
  have n31 : ¬ 31 = k := by omega
  have n32 : ¬ 32 = k := by omega
  have n33 : ¬ 33 = k := by omega
  have n34 : ¬ 34 = k := by omega
  have n35 : ¬ 35 = k := by omega
  have n36 : ¬ 36 = k := by omega
  have n37 : ¬ 37 = k := by omega
  have n38 : ¬ 38 = k := by omega
  have n39 : ¬ (39 = k ∧ 0 = s) := by omega
  refine ⟨fun k' t ht => ?_, fun r hr => ?_, ?_, fun b hb => ?_, h5⟩
  · have := h1 k' t ht
    simp only [sI, m_i, Prod.mk.injEq, and_true]
    by_cases e : k' = k ∧ t = s
    · rw [if_pos e, if_pos e]
    · rw [if_neg e, if_neg e]; exact this
  · simpa [sI, m_i, n31, n32, m_R] using h2 r hr
  · simpa [r_R3, sI, m_i, n39, n33, m_F] using h3
  · simpa [sI, m_i, n34, r_ask, n35, n36, n37, n38, m_Q] using h4 b hb
theorem rr_c {S : zS} {A : mS} (h : r_R S A) (c : UInt32) : r_R (sF S (23, 0, 0) 20 c) (m_c A c) := by
  obtain ⟨h1, h2, h3, h4, h5⟩ := h
  refine ⟨h1, h2, h3, h4, ?_, h5.2.1, h5.2.2⟩
  simp [sF, m_c, m_C]
theorem rr_wx {S : zS} {A : mS} (h : r_R S A) (w x : Int64) : r_R (sL (sL S (23, 0, 0) 21 w) (23, 0, 0) 22 x) (m_wx A w x) := by
  obtain ⟨h1, h2, h3, h4, h5⟩ := h
  refine ⟨h1, h2, h3, h4, h5.1, ?_, ?_⟩ <;> simp [sL, m_wx, m_W, m_X]
theorem rr_row {S S' : zS} {A : mS} (h : r_R S A) {r : Nat} (hr : r < 4) (l : List Nat) (hl : l.length ≤ 3) (hs : ∀ (q : zK) t, ¬ (q = (31, 0, 0) ∧ t = r) → ¬ (q = (32, 0, 0) ∧ 3 * r ≤ t ∧ t < 3 * r + 3) → S'.1 q t = S.1 q t) (h2' : S'.2 = S.2) (e1 : S'.1 (31, 0, 0) r = nI l.length) (e2 : ∀ k b, l[k]? = some b → S'.1 (32, 0, 0) (3 * r + k) = nI b) (hrl : ∀ r, r < 4 → (m_R A r).length ≤ 3) : r_R S' (m_r A r l) := by
  obtain ⟨h1, h2, h3, h4, h5⟩ := h
  have ek : ∀ k t, k ≠ 31 → k ≠ 32 → S'.1 (k, 0, 0) t = S.1 (k, 0, 0) t := fun k t n1 n2 => hs _ t (fun hc => n1 (congrArg Prod.fst hc.1)) (fun hc => n2 (congrArg Prod.fst hc.1))
  refine ⟨fun k t ht => ?_, fun r' hr' => ?_, ⟨?_, fun k b hk => ?_⟩, fun b hb => ⟨?_, fun k q hk => ?_⟩, ?_⟩
  · rw [ek k t (by unfold r_dir at ht; omega) (by unfold r_dir at ht; omega)]; exact h1 k t ht
  · by_cases e : r' = r
    · subst e
      refine ⟨?_, fun k b hk => ?_⟩
      · simpa [m_r, m_R] using e1
      · refine e2 k b ?_
        simpa [m_r, m_R] using hk
    · obtain ⟨g1, g2⟩ := h2 r' hr'
      have eR : m_R (m_r A r l) r' = m_R A r' := by simp [m_r, m_R, e]
      rw [eR]
      refine ⟨?_, fun k b hk => ?_⟩
      · rw [hs (31, 0, 0) r' (fun hc => e hc.2) (fun hc => by simp at hc)]; exact g1
      · have hk3 : k < 3 := by
          have := (List.getElem?_eq_some_iff.1 hk).1
          have := hrl r' hr'
          omega
        rw [hs (32, 0, 0) (3 * r' + k) (fun hc => by simp at hc) (fun hc => by omega)]; exact g2 k b hk
  · rw [ek 39 0 (by omega) (by omega)]; exact h3.1
  · rw [ek 33 k (by omega) (by omega)]; exact h3.2 k b hk
  · rw [ek 34 b (by omega) (by omega)]; exact (h4 b hb).1
  · unfold r_ask
    rw [ek 35 _ (by omega) (by omega), ek 36 _ (by omega) (by omega), ek 37 _ (by omega) (by omega), ek 38 _ (by omega) (by omega)]
    exact (h4 b hb).2 k q hk
  · unfold r_R5; rw [h2']; exact h5
theorem rr_f {S S' : zS} {A : mS} (h : r_R S A) (l : List Nat) (hs : ∀ (q : zK) t, ¬ (q = (39, 0, 0) ∧ t = 0) → q ≠ (33, 0, 0) → S'.1 q t = S.1 q t) (h2' : S'.2 = S.2) (e1 : S'.1 (39, 0, 0) 0 = nI l.length) (e2 : ∀ k b, l[k]? = some b → S'.1 (33, 0, 0) k = nI b) : r_R S' (m_f A l) := by
  obtain ⟨h1, h2, h3, h4, h5⟩ := h
  have ek : ∀ k t, k ≠ 39 → k ≠ 33 → S'.1 (k, 0, 0) t = S.1 (k, 0, 0) t := fun k t n1 n2 => hs _ t (fun hc => n1 (congrArg Prod.fst hc.1)) (fun hc => n2 (congrArg Prod.fst hc))
  refine ⟨fun k t ht => ?_, fun r' hr' => ⟨?_, fun k b hk => ?_⟩, ⟨e1, e2⟩, fun b hb => ⟨?_, fun k q hk => ?_⟩, ?_⟩
  · rw [hs (k, 0, 0) t (fun hc => by have e := congrArg Prod.fst hc.1; simp only at e; unfold r_dir at ht; omega) (fun hc => by have e := congrArg Prod.fst hc; simp only at e; unfold r_dir at ht; omega)]; exact h1 k t ht
  · rw [ek 31 _ (by omega) (by omega)]; exact (h2 r' hr').1
  · rw [ek 32 _ (by omega) (by omega)]; exact (h2 r' hr').2 k b hk
  · rw [ek 34 b (by omega) (by omega)]; exact (h4 b hb).1
  · unfold r_ask
    rw [ek 35 _ (by omega) (by omega), ek 36 _ (by omega) (by omega), ek 37 _ (by omega) (by omega), ek 38 _ (by omega) (by omega)]
    exact (h4 b hb).2 k q hk
  · unfold r_R5; rw [h2']; exact h5
theorem rr_q {S S' : zS} {A : mS} (h : r_R S A) {b : Nat} (l : List mQ) (hs : ∀ (q : zK) t, ¬ (q = (34, 0, 0) ∧ t = b) → ¬ (35 ≤ q.1 ∧ q.1 ≤ 38 ∧ t / 4 = b) → S'.1 q t = S.1 q t) (h2' : S'.2 = S.2) (e1 : S'.1 (34, 0, 0) b = nI l.length) (e2 : ∀ k q, l[k]? = some q → r_ask S' b k q) (hql : ∀ x, x < 16 → (m_Q A x).length ≤ 4) : r_R S' (m_q A b l) := by
  obtain ⟨h1, h2, h3, h4, h5⟩ := h
  have ek : ∀ k t, ¬ (34 ≤ k ∧ k ≤ 38) → S'.1 (k, 0, 0) t = S.1 (k, 0, 0) t := fun k t n1 => hs _ t (fun hc => n1 (by have e := congrArg Prod.fst hc.1; simp only at e; omega)) (fun hc => n1 (by simp only at hc; omega))
  refine ⟨fun k t ht => ?_, fun r' hr' => ⟨?_, fun k b hk => ?_⟩, ⟨?_, fun k b hk => ?_⟩, fun x hx => ?_, ?_⟩
  · rw [ek k t (by unfold r_dir at ht; omega)]; exact h1 k t ht
  · rw [ek 31 _ (by omega)]; exact (h2 r' hr').1
  · rw [ek 32 _ (by omega)]; exact (h2 r' hr').2 k b hk
  · rw [ek 39 0 (by omega)]; exact h3.1
  · rw [ek 33 k (by omega)]; exact h3.2 k b hk
  · by_cases e : x = b
    · subst e
      have eq : m_Q (m_q A x l) x = l := by simp [m_q, m_Q]
      rw [eq]; exact ⟨e1, e2⟩
    · have eq : m_Q (m_q A b l) x = m_Q A x := by simp [m_q, m_Q, e]
      rw [eq]
      refine ⟨?_, fun k q hk => ?_⟩
      · rw [hs (34, 0, 0) x (fun hc => e hc.2) (fun hc => by simp only at hc; omega)]; exact (h4 x hx).1
      · have hk4 : k < 4 := by
          have := (List.getElem?_eq_some_iff.1 hk).1
          have := hql x hx
          omega
        have e4 : ∀ j, 35 ≤ j → j ≤ 38 → S'.1 (j, 0, 0) (4 * x + k) = S.1 (j, 0, 0) (4 * x + k) := fun j j1 j2 => hs _ _ (fun hc => by have e := congrArg Prod.fst hc.1; simp only at e; omega) (fun hc => by omega)
        unfold r_ask
        rw [e4 35 (by omega) (by omega), e4 36 (by omega) (by omega), e4 37 (by omega) (by omega), e4 38 (by omega) (by omega)]
        exact (h4 x hx).2 k q hk
  · unfold r_R5; rw [h2']; exact h5
section RPA
variable {o : zW}
theorem rs_in (x a b : Int32) (S : zS) (K : Int32 → zS → Prop) (h1 : ¬ x < a → ¬ b < x → K 1 S) (h0 : x < a ∨ b < x → K 0 S) : zGi o 994 mdX5_in [.int x, .int a, .int b] S K :=
  w_X5_in_0 o _ _ _ S _ ⟨fun h => ⟨_, rfl, h0 (Or.inl h)⟩, fun h => ⟨fun h2 => ⟨_, rfl, h0 (Or.inr h2)⟩, fun h2 => ⟨_, rfl, h1 h h2⟩⟩⟩
theorem rs_rowOf (b : Nat) (hb : b < 16) (S : zS) (K : Int32 → zS → Prop) (hK : K (nI (b % 4)) S) : zGi o 994 mdX5_rowOf [.int (nI b)] S K := by
  refine w_X5_rowOf_0 o _ S _ ⟨_, rfl, ?_⟩
  have e : nI b - nI b / 4 * 4 = nI (b % 4) := pk_rem (a := b) (d := 4) (by omega) (by omega) (by omega)
  rw [e]; exact hK
theorem rs_counted (w : Nat) (hw : w < 7) (p : UInt32) (hp : m_price p) (S0 S : zS) {A : mS} (h : r_R S A) (hf : r_fr S0 S) (hc : m_cok (m_C A)) (K : zS → Prop) (hK : ∀ S', r_R S' (m_tal A w p) → r_fr S0 S' → K S') : zGv o 994 mdX5_counted [.ref (z_adr o (23, 0, 0)), .int (nI w), .float p] S K := by
  refine w_X5_counted_0 o _ _ S _ ⟨z_in (by omega) (by omega), z_in (by omega) (by omega), fun S1 e1 => ?_⟩
  rw [z_cl (by omega)] at e1
  have e40 : S.1 (40, 0, 0) w = A.1 40 w := h.1 40 w (by unfold r_dir; omega)
  have e20 : S1.2.2 (23, 0, 0) 20 = m_C A := by rw [e1]; exact h.2.2.2.2.1
  rw [e20]
  refine ⟨(fl_add hc hp).1, rfl, ?_⟩
  subst e1
  rw [e40]
  refine hK _ ?_ ((hf.I 40 w _ (by omega)).F _)
  exact rr_c (rr_i h 40 w _ (by omega)) _
theorem rs_goesFar {b : Nat} (hb : b < 16) (S0 S : zS) {A : mS} (h : r_R S A) (hf : r_fr S0 S) (hc : m_cok (m_C A)) (K : zS → Prop) (hK : ∀ S', r_R S' (m_gone A b) → r_fr S0 S' → K S') : zGv o 994 mdX5_goesFar [.ref (z_adr o (23, 0, 0)), .int (nI b)] S K := by
  refine w_X5_goesFar_0 o _ S _ ?_
  refine z_down 4 (fun j => ∀ S' : zS, r_R S' ((fun q t => if q = 26 ∧ t / 4 = b ∧ t % 4 < j ∧ m_bit (A.1 28 b) (t % 4) = 1 then A.1 27 t else A.1 q t, A.2) : mS) → r_fr S0 S' → zG o 994 mdX5_goesFar 2 [(0, .ref (z_adr o (23, 0, 0))), (1, .int (nI b)), (2, .int (nI j))] [] S' (fun r S'' => r = none ∧ K S'')) ?_ ?_ 0 (by omega) S ?_ hf
  · intro S' h' f'
    refine w_X5_goesFar_2 o _ _ S' _ ⟨fun _ => ⟨z_in hb (by omega), z_in hb (by omega), fun S2 e2 => ?_⟩, fun hc => absurd (by decide) hc⟩
    rw [z_cl (by omega)] at e2
    have h2 : r_R S2 (m_far A b) := by
      subst e2
      have g := rr_i (rr_i h' 28 b 0 (by omega)) 29 b 0 (by omega)
      have e : m_i (m_i ((fun q t => if q = 26 ∧ t / 4 = b ∧ t % 4 < 4 ∧ m_bit (A.1 28 b) (t % 4) = 1 then A.1 27 t else A.1 q t, A.2) : mS) 28 b 0) 29 b 0 = m_far A b := by
        refine Prod.ext ?_ rfl
        funext q t
        have ht : t % 4 < 4 := Nat.mod_lt _ (by omega)
        simp only [m_i, m_far, ht, true_and]
        by_cases e29 : q = 29 ∧ t = b
        · obtain ⟨a1, a2⟩ := e29; subst a1 a2; simp
        · by_cases e28 : q = 28 ∧ t = b
          · obtain ⟨a1, a2⟩ := e28; subst a1 a2; simp
          · rw [if_neg e29, if_neg e28]
            have : ¬ ((q = 28 ∨ q = 29) ∧ t = b) := by omega
            rw [if_neg this]
      rw [e] at g
      exact g
    have f2 : r_fr S0 S2 := by subst e2; exact (f'.I 28 b _ (by omega)).I 29 b _ (by omega)
    have e6 : S2.1 (40, 0, 0) 6 = (m_far A b).1 40 6 := h2.1 40 6 (by unfold r_dir; omega)
    have ec : (sI S2 (40, 0, 0) 6 (S2.1 (40, 0, 0) 6 + 1)).2.2 (23, 0, 0) 20 = m_C A := h2.2.2.2.2.1
    rw [ec]
    refine ⟨(fl_add hc m_price_gone).1, fun S3 e3 => ⟨rfl, ?_⟩⟩
    subst e3
    rw [e6]
    refine hK _ ?_ ((f2.I 40 6 _ (by omega)).F _)
    exact rr_c (rr_i h2 40 6 _ (by omega)) _
  · intro j hj ih S' h' f'
    have e28 : S'.1 (28, 0, 0) b = A.1 28 b := (h'.1 28 b (by unfold r_dir; omega)).trans (by simp)
    have e26 : S'.1 (26, 0, 0) (4 * b + j) = A.1 26 (4 * b + j) := by
      have := h'.1 26 (4 * b + j) (by unfold r_dir; omega)
      rw [this]
      have hm : (4 * b + j) % 4 = j := m_m4 hj
      simp [hm]
    have e27 : S'.1 (27, 0, 0) (4 * b + j) = A.1 27 (4 * b + j) := by
      have := h'.1 27 (4 * b + j) (by unfold r_dir; omega)
      rw [this]; simp
    have ex : (4 : Int32) * nI b + nI j = nI (4 * b + j) := by rw [show (4 : Int32) = nI 4 from rfl, pk_mul, nI_add]
    have step : ∀ v, v = (if m_bit (A.1 28 b) j = 1 then A.1 27 (4 * b + j) else A.1 26 (4 * b + j)) → zG o 994 mdX5_goesFar 2 [(0, .ref (z_adr o (23, 0, 0))), (1, .int (nI b)), (2, .int (nI j + 1))] [] (sI S' (26, 0, 0) (4 * b + j) v) (fun r S'' => r = none ∧ K S'') := by
      intro v hv
      rw [← nI_succ]
      refine ih _ ?_ (f'.I 26 _ _ (by omega))
      have g := rr_i h' 26 (4 * b + j) v (by omega)
      have e : m_i ((fun q t => if q = 26 ∧ t / 4 = b ∧ t % 4 < j ∧ m_bit (A.1 28 b) (t % 4) = 1 then A.1 27 t else A.1 q t, A.2) : mS) 26 (4 * b + j) v = ((fun q t => if q = 26 ∧ t / 4 = b ∧ t % 4 < j + 1 ∧ m_bit (A.1 28 b) (t % 4) = 1 then A.1 27 t else A.1 q t, A.2) : mS) := by
        refine Prod.ext ?_ rfl
        funext q t
        simp only [m_i]
        by_cases e : q = 26 ∧ t = 4 * b + j
        · obtain ⟨a1, a2⟩ := e
          subst a1 a2
          have h1 : (4 * b + j) / 4 = b := m_d4 hj
          have h2 : (4 * b + j) % 4 = j := m_m4 hj
          rw [if_pos ⟨rfl, rfl⟩, hv, h1, h2]
          by_cases hb1 : m_bit (A.1 28 b) j = 1
          · simp [hb1]
          · simp [hb1]
        · rw [if_neg e]
          have : (q = 26 ∧ t / 4 = b ∧ t % 4 < j ∧ m_bit (A.1 28 b) (t % 4) = 1) ↔ (q = 26 ∧ t / 4 = b ∧ t % 4 < j + 1 ∧ m_bit (A.1 28 b) (t % 4) = 1) := by
            constructor
            · rintro ⟨a1, a2, a3, a4⟩; exact ⟨a1, a2, by omega, a4⟩
            · rintro ⟨a1, a2, a3, a4⟩; exact ⟨a1, a2, by omega, a4⟩
          simp only [this]
      rw [e] at g
      exact g
    refine w_X5_goesFar_2 o _ _ S' _ ⟨fun hc => absurd hc (z_ge (a := j) (b := 4) hj (by decide)), fun _ => ⟨z_in hb (by omega), ?_⟩⟩
    rw [z_cl (by omega), ex, e28, z_cl (by omega), e26, e27]
    refine ⟨fun hbit => ⟨z_in (by omega) (by omega), z_in (by omega) (by omega), fun S5 e5 => ?_⟩, fun hbit => ⟨z_in (by omega) (by omega), z_in (by omega) (by omega), fun S6 e6 => ?_⟩⟩
    · subst e5
      exact step _ (if_neg hbit).symm
    · subst e6
      exact step _ (if_pos hbit).symm
  · have : ((fun q t => if q = 26 ∧ t / 4 = b ∧ t % 4 < 0 ∧ m_bit (A.1 28 b) (t % 4) = 1 then A.1 27 t else A.1 q t, A.2) : mS) = A := by
      refine Prod.ext ?_ rfl
      funext q t
      simp
    rw [this]; exact h
end RPA
