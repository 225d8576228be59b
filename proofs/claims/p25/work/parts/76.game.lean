/-! THE RUN: now, the STATES behind it (the newest first), refused, THE TEXT -/
abbrev mG : Type := mS × List mS × (Nat → Int32) × (Nat → Nat) × Nat
def g_keep (G : mG) : mG := (G.1, (G.1 :: G.2.1).take 6, G.2.2)
def g_ref (G : mG) (k : Nat) : mG := (G.1, G.2.1, fun t => if t = k then G.2.2.1 t + 1 else G.2.2.1 t, G.2.2.2)
def g_now (G : mG) (A : mS) : mG := (A, G.2)
/-- a number below N, if it is one -/
def m_cl (x : Int32) (N : Nat) : Option Nat := if x < 0 then none else if x.toNatClampNeg < N then some x.toNatClampNeg else none
theorem cl_some {x : Int32} {N k : Nat} (h : m_cl x N = some k) : k < N ∧ x = nI k := by
  unfold m_cl at h
  split at h
  · cases h
  · rename_i h0
    split at h
    · rename_i h1
      simp only [Option.some.injEq] at h
      obtain ⟨j, hj, e⟩ := nI_of h0
      rw [e, z_cl hj] at h h1
      subst h
      exact ⟨h1, e⟩
    · cases h
theorem cl_in {N k : Nat} (h : k < N) (hN : N ≤ 2 ^ 31) : m_cl (nI k) N = some k := by
  unfold m_cl
  rw [if_neg (nI_pos (by omega)), z_cl (by omega), if_pos h]
theorem cl_neg {x : Int32} {N : Nat} (h : x < 0) : m_cl x N = none := if_pos h
theorem cl_ge {x : Int32} {N : Nat} (hN : N < 2 ^ 31) (h : nI N ≤ x) : m_cl x N = none := by
  have h0 : ¬ x < 0 := fun e => nI_pos hN (Int32.lt_of_le_of_lt h e)
  unfold m_cl
  rw [if_neg h0]
  obtain ⟨j, hj, e⟩ := nI_of h0
  rw [e] at h ⊢
  rw [z_cl hj, if_neg]
  have := (nI_leI hN hj).1 h
  omega
theorem cl_gt {x : Int32} {N : Nat} (hN : N + 1 < 2 ^ 31) (h : nI N < x) : m_cl x (N + 1) = none := by
  have h0 : ¬ x < 0 := fun e => nI_pos (by omega) (Int32.lt_trans h e)
  unfold m_cl
  rw [if_neg h0]
  obtain ⟨j, hj, e⟩ := nI_of h0
  rw [e] at h ⊢
  rw [z_cl hj, if_neg]
  have := (nI_ltI (by omega) hj).1 h
  omega
theorem cl_le {x : Int32} {N : Nat} (hN : N + 1 < 2 ^ 31) (h0 : ¬ x < 0) (h : x ≤ nI N) : ∃ k, k < N + 1 ∧ x = nI k ∧ m_cl x (N + 1) = some k := by
  obtain ⟨j, hj, e⟩ := nI_of h0
  rw [e] at h
  have := (nI_leI hj (by omega)).1 h
  exact ⟨j, by omega, e, by rw [e]; exact cl_in (by omega) (by omega)⟩
theorem cl_lt {x : Int32} {N : Nat} (hN : N < 2 ^ 31) (h0 : ¬ x < 0) (h : ¬ nI N ≤ x) : ∃ k, k < N ∧ x = nI k ∧ m_cl x N = some k := by
  obtain ⟨j, hj, e⟩ := nI_of h0
  rw [e] at h
  have : j < N := by
    rcases Nat.lt_or_ge j N with g | g
    · exact g
    · exact absurd (nI_le g hj) h
  exact ⟨j, by omega, e, by rw [e]; exact cl_in (by omega) (by omega)⟩
/-- state i is the same -/
def c_sm (i : Nat) (S S' : zS) : Prop := ∀ q : zK, 1 ≤ q.1 → q.1 ≤ 15 → q.2.1 = i → S'.1 q = S.1 q ∧ S'.2.1 q = S.2.1 q ∧ S'.2.2 q = S.2.2 q
theorem H_sm {i B : Nat} {S S' : zS} {A : mS} (h : c_H i B S A) (hs : c_sm i S S') : c_H i B S' A := by
  obtain ⟨⟨U, hU, hR⟩, hal⟩ := h
  refine ⟨⟨U, hU, cr_copy (i2 := i) hR (fun x hx => (hal.1.2.2.2.1.2 x hx).1.1) ⟨fun k b t hr => ?_, ⟨?_, ?_⟩, ?_⟩⟩, hal⟩
  · rw [(hs (k, i, b) (by unfold c_rel at hr; simp only; omega) (by unfold c_rel at hr; simp only; omega) rfl).1]
  · rw [(hs (12, i, 0) (by simp) (by simp) rfl).2.1]
  · rw [(hs (12, i, 0) (by simp) (by simp) rfl).2.1]
  · rw [(hs (1, i, 0) (by simp) (by simp) rfl).2.2]
theorem H_B {i B B' : Nat} {S : zS} {A : mS} (h : c_H i B S A) (hB : B ≤ B') : c_H i B' S A := by
  obtain ⟨⟨U, hU, hR⟩, hal⟩ := h
  exact ⟨⟨U, by omega, hR⟩, al_B hal hB⟩
theorem sm_fr {i j : Nat} {S S' : zS} (h : c_fr j S S') (hne : i ≠ j) : c_sm i S S' := fun q h1 h2 h3 => h q (fun hc => hne (h3.symm.trans hc.2.2))
theorem sm_ft {i : Nat} {S S' : zS} (h : c_ft S S') : c_sm i S S' := by
  intro q h1 h2 h3
  refine ⟨h.1 q ⟨?_, ?_, ?_, ?_⟩, by rw [h.2.2], by rw [h.2.2]⟩ <;> (intro e; subst e; simp at h2)
theorem sm_I {i : Nat} (S : zS) (k s : Nat) (v : Int32) (hk : k = 0 ∨ 15 < k) : c_sm i S (sI S (k, 0, 0) s v) := by
  intro q h1 h2 h3
  have hne : q ≠ (k, 0, 0) := fun e => by subst e; simp at h1 h2; omega
  refine ⟨?_, rfl, rfl⟩
  funext t
  simp [sI, hne]
theorem sm_tr {i : Nat} {S S1 S2 : zS} (h : c_sm i S S1) (h2 : c_sm i S1 S2) : c_sm i S S2 := fun q a b c => ⟨(h2 q a b c).1.trans (h q a b c).1, (h2 q a b c).2.1.trans (h q a b c).2.1, (h2 q a b c).2.2.trans (h q a b c).2.2⟩
/-- of the reference nothing is changed -/
def c_up (S S' : zS) : Prop := ∀ q : zK, 23 ≤ q.1 → S'.1 q = S.1 q ∧ S'.2.1 q = S.2.1 q ∧ S'.2.2 q = S.2.2 q
theorem up_tr {S S1 S2 : zS} (h : c_up S S1) (h2 : c_up S1 S2) : c_up S S2 := fun q a => ⟨(h2 q a).1.trans (h q a).1, (h2 q a).2.1.trans (h q a).2.1, (h2 q a).2.2.trans (h q a).2.2⟩
theorem up_rf (S : zS) : c_up S S := fun _ _ => ⟨rfl, rfl, rfl⟩
theorem up_fr {j : Nat} {S S' : zS} (h : c_fr j S S') : c_up S S' := fun q h1 => h q (fun hc => by omega)
theorem up_ft {S S' : zS} (h : c_ft S S') : c_up S S' := by
  intro q h1
  refine ⟨h.1 q ⟨?_, ?_, ?_, ?_⟩, by rw [h.2.2], by rw [h.2.2]⟩ <;> (intro e; subst e; simp at h1)
theorem up_I (S : zS) (k s : Nat) (v : Int32) (hk : k < 23) : c_up S (sI S (k, 0, 0) s v) := by
  intro q h1
  have hne : q ≠ (k, 0, 0) := fun e => by subst e; simp at h1; omega
  refine ⟨?_, rfl, rfl⟩
  funext t
  simp [sI, hne]
/-- the class holds the run -/
def c_hist (B : Nat) (S : zS) (h : List mS) : Prop := h.length ≤ 6 ∧ S.1 (0, 0, 0) 6 = nI h.length ∧ ∃ w, w < 6 ∧ S.1 (0, 0, 0) 5 = nI w ∧ ∀ k A, h[k]? = some A → c_H (2 + (w + 6 - k) % 6) B S A
def c_G (B : Nat) (S : zS) (G : mG) : Prop := c_H 0 B S G.1 ∧ c_hist B S G.2.1 ∧ (∀ t, t < 3 → S.1 (21, 0, 0) t = G.2.2.1 t) ∧ c_txt S G.2.2.2.1 G.2.2.2.2
theorem hist_sm {B : Nat} {S S' : zS} {h : List mS} (hh : c_hist B S h) (e : S'.1 (0, 0, 0) = S.1 (0, 0, 0)) (hs : ∀ i, 2 ≤ i → c_sm i S S') : c_hist B S' h := by
  obtain ⟨h1, h2, w, h3, h4, h5⟩ := hh
  exact ⟨h1, by rw [e]; exact h2, w, h3, by rw [e]; exact h4, fun k A hk => H_sm (h5 k A hk) (hs _ (by omega))⟩
theorem hist_B {B B' : Nat} {S : zS} {h : List mS} (hh : c_hist B S h) (hB : B ≤ B') : c_hist B' S h := by
  obtain ⟨h1, h2, w, h3, h4, h5⟩ := hh
  exact ⟨h1, h2, w, h3, h4, fun k A hk => H_B (h5 k A hk) hB⟩
/-- now alone has changed -/
theorem G_now {B B' : Nat} {S S' : zS} {G : mG} {A : mS} (h : c_G B S G) (hf : c_fr 0 S S') (hA : c_H 0 B' S' A) (hB : B ≤ B') : c_G B' S' (g_now G A) := by
  obtain ⟨h1, h2, h3, h4⟩ := h
  have e : ∀ k, k = 0 ∨ 15 < k → S'.1 (k, 0, 0) = S.1 (k, 0, 0) := fun k hk => (hf (k, 0, 0) (fun hc => by simp only at hc; omega)).1
  refine ⟨hA, hist_B (hist_sm h2 (e 0 (by omega)) (fun i hi => sm_fr hf (by omega))) hB, fun t ht => ?_, ?_, h4.2.1, fun k hk => ?_⟩
  · rw [e 21 (by omega)]; exact h3 t ht
  · rw [e 16 (by omega)]; exact h4.1
  · rw [e 17 (by omega)]; exact h4.2.2 k hk
/-- a trial, or reading, changes nothing of it -/
theorem G_try {B : Nat} {S S' : zS} {G : mG} (h : c_G B S G) (hf : c_fr 1 S S') : c_G B S' G := by
  obtain ⟨h1, h2, h3, h4⟩ := h
  have e : ∀ k, k = 0 ∨ 15 < k → S'.1 (k, 0, 0) = S.1 (k, 0, 0) := fun k hk => (hf (k, 0, 0) (fun hc => by simp only at hc; omega)).1
  refine ⟨H_sm h1 (sm_fr hf (by omega)), hist_sm h2 (e 0 (by omega)) (fun i hi => sm_fr hf (by omega)), fun t ht => ?_, ?_, h4.2.1, fun k hk => ?_⟩
  · rw [e 21 (by omega)]; exact h3 t ht
  · rw [e 16 (by omega)]; exact h4.1
  · rw [e 17 (by omega)]; exact h4.2.2 k hk
theorem G_ft {B : Nat} {S S' : zS} {G : mG} (h : c_G B S G) (hf : c_ft S S') : c_G B S' G := by
  obtain ⟨h1, h2, h3, h4⟩ := h
  refine ⟨H_sm h1 (sm_ft hf), hist_sm h2 (hf.1 _ (by simp)) (fun i hi => sm_ft hf), fun t ht => ?_, txt_ft h4 hf⟩
  rw [hf.1 (21, 0, 0) (by simp)]; exact h3 t ht
section SPG
variable {o : zW}
theorem sp_refuse {B : Nat} (S : zS) {G : mG} (h : c_G B S G) {k : Nat} (hk : k < 3) {a : Int32} (ha : (-2) - a = nI k) (K : Int32 → zS → Prop) (hK : ∀ S', c_G B S' (g_ref G k) → c_up S S' → K a S') : zGi o 970 mdX4_refuse [.ref (z_adr o (0, 0, 0)), .int a] S K := by
  refine w_X4_refuse_0 o _ S _ ?_
  rw [ha]
  refine ⟨fun hc => absurd hc (nI_pos (by omega)), fun _ => ⟨fun hc => absurd hc (z_ge (a := k) (b := 3) hk (by decide)), fun _ => ⟨z_in hk (by omega), z_in hk (by omega), fun S3 e3 => ⟨_, rfl, ?_⟩⟩⟩⟩
  rw [z_cl (by omega)] at e3
  subst e3
  obtain ⟨h1, h2, h3, h4⟩ := h
  refine hK _ ⟨H_sm h1 (sm_I S 21 _ _ (by omega)), hist_sm h2 (by funext t; simp [sI]) (fun i hi => sm_I S 21 _ _ (by omega)), fun t ht => ?_, ?_, h4.2.1, fun j hj => ?_⟩ (up_I S 21 _ _ (by omega))
  · simp only [g_ref, sI]
    by_cases e : t = k
    · subst e; simp [h3 t ht]
    · simp [e, h3 t ht]
  · simpa [sI, g_ref] using h4.1
  · simpa [sI, g_ref] using h4.2.2 j hj
theorem sp_keepF {B : Nat} (S : zS) {G : mG} (h : c_G B S G) (K : zS → Prop) (hK : ∀ S', c_G B S' (g_keep G) → c_up S S' → (∀ k, 16 ≤ k → S'.1 (k, 0, 0) = S.1 (k, 0, 0)) → K S') : zGv o 970 mdX4_keep [.ref (z_adr o (0, 0, 0))] S K := by
  obtain ⟨h1, ⟨h2, h6, w, hw, h5, hk⟩, h3, h4⟩ := h
  refine w_X4_keep_0 o S _ (fun S1 e1 => ?_)
  have ew : nI w + 1 - (nI w + 1) / 6 * 6 = nI ((w + 1) % 6) := by
    rw [← nI_succ]
    exact pk_rem (a := w + 1) (d := 6) (by omega) (by omega) (by omega)
  rw [h5, ew] at e1
  have hw' : (w + 1) % 6 < 6 := Nat.mod_lt _ (by omega)
  generalize hv : (w + 1) % 6 = v at e1 hw'
  have a5 : S1.1 (0, 0, 0) 5 = nI v := by rw [e1]; simp [sI]
  have a6 : S1.1 (0, 0, 0) 6 = nI G.2.1.length := by rw [e1]; simpa [sI] using h6
  rw [a5]
  refine ⟨fun hc => absurd hc (nI_pos (by omega)), fun _ => ⟨z_in hw' (by omega), ?_⟩⟩
  rw [z_cl (by omega)]
  have s1 : ∀ i, c_sm i S S1 := fun i => by rw [e1]; exact sm_I S 0 _ _ (by omega)
  refine sp_become (by omega) (z_hn (by omega)) (by omega) (z_hn (by omega)) (by omega) S1 (H_sm h1 (s1 0)) _ (fun S7 h7 f7 => ?_)
  have e : ∀ k, k = 0 ∨ 15 < k → S7.1 (k, 0, 0) = S1.1 (k, 0, 0) := fun k hk => (f7 (k, 0, 0) (fun hc => by simp only at hc; omega)).1
  have b6 : S7.1 (0, 0, 0) 6 = nI G.2.1.length := by rw [e 0 (by omega)]; exact a6
  have b5 : S7.1 (0, 0, 0) 5 = nI v := by rw [e 0 (by omega)]; exact a5
  have hlen : ((G.1 :: G.2.1).take 6).length = min 6 (G.2.1.length + 1) := by rw [List.length_take, List.length_cons]
  -- the STATES behind
  have hst : ∀ k A, ((G.1 :: G.2.1).take 6)[k]? = some A → c_H (2 + (v + 6 - k) % 6) B S7 A := by
    intro k A hkA
    have hk6 : k < 6 := by
      have := (List.getElem?_eq_some_iff.1 hkA).1
      rw [hlen] at this; omega
    rw [List.getElem?_take_of_lt hk6] at hkA
    cases k with
    | zero =>
      simp only [List.getElem?_cons_zero, Option.some.injEq] at hkA
      subst hkA
      have : 2 + (v + 6 - 0) % 6 = v + 2 := by omega
      rw [this]; exact h7
    | succ k =>
      rw [List.getElem?_cons_succ] at hkA
      have : 2 + (v + 6 - (k + 1)) % 6 = 2 + (w + 6 - k) % 6 := by omega
      rw [this]
      exact H_sm (H_sm (hk k A hkA) (s1 _)) (sm_fr f7 (by omega))
  have u7 : c_up S S7 := up_tr (by rw [e1]; exact up_I S 0 _ _ (by omega)) (up_fr f7)
  have g0 : c_H 0 B S7 G.1 := H_sm (H_sm h1 (s1 0)) (sm_fr f7 (by omega))
  have g21 : ∀ t, t < 3 → S7.1 (21, 0, 0) t = G.2.2.1 t := fun t ht => by
    rw [e 21 (by omega), e1]; simpa [sI] using h3 t ht
  have g16 : S7.1 (16, 0, 0) = S.1 (16, 0, 0) := by rw [e 16 (by omega), e1]; funext t; simp [sI]
  have g17 : S7.1 (17, 0, 0) = S.1 (17, 0, 0) := by rw [e 17 (by omega), e1]; funext t; simp [sI]
  have gk : ∀ k, 16 ≤ k → S7.1 (k, 0, 0) = S.1 (k, 0, 0) := fun k hk => by
    rw [e k (by omega), e1]; funext t; have : ¬ k = 0 := by omega
    simp [sI, this]
  have gk2 : ∀ k, 16 ≤ k → (sI S7 (0, 0, 0) 6 (nI G.2.1.length + 1)).1 (k, 0, 0) = S.1 (k, 0, 0) := fun k hk => by
    rw [← gk k hk]; funext t; have : ¬ k = 0 := by omega
    simp [sI, this]
  rw [b6]
  refine ⟨fun hc => ⟨rfl, hK S7 ⟨g0, ⟨?_, ?_, v, hw', b5, hst⟩, g21, by rw [g16]; exact h4.1, h4.2.1, fun k hk => by rw [g17]; exact h4.2.2 k hk⟩ u7 gk⟩, fun hc => ⟨rfl, hK _ ⟨H_sm g0 (sm_I S7 0 _ _ (by omega)), ⟨?_, ?_, v, hw', ?_, fun k A hkA => H_sm (hst k A hkA) (sm_I S7 0 _ _ (by omega))⟩, fun t ht => ?_, ?_, h4.2.1, fun k hk => ?_⟩ (up_tr u7 (up_I S7 0 _ _ (by omega))) gk2⟩⟩
  · show ((G.1 :: G.2.1).take 6).length ≤ 6
    rw [hlen]; omega
  · show _ = nI ((G.1 :: G.2.1).take 6).length
    have := (nI_leI (a := 6) (by omega) (by omega)).1 hc
    rw [hlen, b6]; exact congrArg nI (by omega)
  · show ((G.1 :: G.2.1).take 6).length ≤ 6
    rw [hlen]; omega
  · show _ = nI ((G.1 :: G.2.1).take 6).length
    have : G.2.1.length < 6 := by
      rcases Nat.lt_or_ge G.2.1.length 6 with g | g
      · exact g
      · exact absurd (nI_le (a := 6) g (by omega)) hc
    rw [hlen, ← nI_succ]
    simp only [sI, and_self, if_true]
    exact congrArg nI (by omega)
  · simpa [sI] using b5
  · simpa [sI, g_keep] using g21 t ht
  · have : S7.1 (16, 0, 0) 4 = nI G.2.2.2.2 := by rw [g16]; exact h4.1
    simpa [sI, g_keep] using this
  · have : S7.1 (17, 0, 0) k = nI (G.2.2.2.1 k) ∧ G.2.2.2.1 k < 128 := by rw [g17]; exact h4.2.2 k hk
    simpa [sI, g_keep] using this
theorem sp_keep {B : Nat} (S : zS) {G : mG} (h : c_G B S G) (K : zS → Prop) (hK : ∀ S', c_G B S' (g_keep G) → c_up S S' → K S') : zGv o 970 mdX4_keep [.ref (z_adr o (0, 0, 0))] S K :=
  sp_keepF S h K (fun S' a b _ => hK S' a b)
theorem sp_keepO {B : Nat} (S : zS) {G : mG} (h : c_G B S G) {l : List mO} (hl : c_ords S l) (K : zS → Prop) (hK : ∀ S', c_G B S' (g_keep G) → c_up S S' → c_ords S' l → K S') : zGv o 970 mdX4_keep [.ref (z_adr o (0, 0, 0))] S K := by
  refine sp_keepF S h K (fun S' a b e => hK S' a b ⟨by rw [e 16 (by omega)]; exact hl.1, hl.2.1, fun k x hk => ?_⟩)
  have := hl.2.2 k x hk
  unfold c_ord at this ⊢
  rw [e 18 (by omega), e 19 (by omega), e 20 (by omega)]
  exact this
end SPG
