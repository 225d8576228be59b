/-! the reference holds the run -/
def r_hist (S : zS) (h : List mS) : Prop := h.length ≤ 6 ∧ S.1 (23, 0, 0) 23 = nI h.length ∧ ∀ k A, h[k]? = some A → r_K S (h.length - 1 - k) A
def r_txt (S : zS) (t : Nat → Nat) (n : Nat) : Prop := S.1 (23, 0, 0) 30 = nI n ∧ n ≤ 120 ∧ ∀ k, k < n → S.1 (48, 0, 0) k = nI (t k) ∧ t k < 128
def g_ok (B : Nat) (G : mG) : Prop := m_am B 0 G.1 ∧ ∀ A, A ∈ G.2.1 → m_am B 0 A
def r_G (B : Nat) (S : zS) (G : mG) : Prop := g_ok B G ∧ r_R S G.1 ∧ r_hist S G.2.1 ∧ (∀ t, t < 3 → S.1 (24, 0, 0) t = G.2.2.1 t) ∧ r_txt S G.2.2.2.1 G.2.2.2.2
/-- of the class nothing is changed -/
def r_dn (S S' : zS) : Prop := ∀ q : zK, q.1 ≤ 22 → S'.1 q = S.1 q ∧ S'.2.1 q = S.2.1 q ∧ S'.2.2 q = S.2.2 q
theorem dn_rf (S : zS) : r_dn S S := fun _ _ => ⟨rfl, rfl, rfl⟩
theorem dn_tr {S S1 S2 : zS} (h : r_dn S S1) (h2 : r_dn S1 S2) : r_dn S S2 := fun q a => ⟨(h2 q a).1.trans (h q a).1, (h2 q a).2.1.trans (h q a).2.1, (h2 q a).2.2.trans (h q a).2.2⟩
theorem dn_fr {S S' : zS} (h : r_fr S S') : r_dn S S' := by
  intro q hq
  have n : q ≠ (23, 0, 0) := fun e => by subst e; simp at hq
  exact ⟨h.1 q (by omega), funext fun t => h.2.1 q t (fun hc => n hc.1), funext fun t => h.2.2 q t (fun hc => n hc.1)⟩
theorem dn_kf {a : Nat} {S S' : zS} (h : r_kf a S S') : r_dn S S' := by
  intro q hq
  have n : ∀ k, 23 ≤ k → q ≠ (k, 0, 0) := fun k hk e => by subst e; simp at hq; omega
  refine ⟨funext fun t => h.1 q t (n 44 (by omega)) (fun hc => n 23 (by omega) hc.1), funext fun t => h.2.2.1 q t (fun hc => ?_), funext fun t => h.2.2.2 q t (fun hc => n 45 (by omega) hc.1)⟩
  rcases hc.1 with e | e
  · exact n 46 (by omega) e
  · exact n 47 (by omega) e
theorem dn_cf {S S' : zS} (h : r_cf S S') : r_dn S S' := by
  intro q hq
  have n : q ≠ (23, 0, 0) := fun e => by subst e; simp at hq
  exact ⟨funext fun t => h.1 q t (fun hc => by omega) (fun hc => n hc.1), funext fun t => h.2.1 q t (fun hc => n hc.1), funext fun t => h.2.2 q t (fun hc => n hc.1)⟩
theorem dn_I (S : zS) (k s : Nat) (v : Int32) (hk : 23 ≤ k) : r_dn S (sI S (k, 0, 0) s v) := by
  intro q hq
  have hne : q ≠ (k, 0, 0) := fun e => by subst e; simp at hq; omega
  refine ⟨?_, rfl, rfl⟩
  funext t
  simp [sI, hne]
theorem ok_B {B B' : Nat} {G : mG} (h : g_ok B G) (hB : B ≤ B') : g_ok B' G := ⟨am_B h.1 hB, fun A hA => am_B (h.2 A hA) hB⟩
theorem ok_keep {B : Nat} {G : mG} (h : g_ok B G) : g_ok B (g_keep G) := by
  refine ⟨h.1, fun A hA => ?_⟩
  have := List.mem_of_mem_take hA
  rcases List.mem_cons.1 this with e | e
  · subst e; exact h.1
  · exact h.2 A e
theorem RG_B {B B' : Nat} {S : zS} {G : mG} (h : r_G B S G) (hB : B ≤ B') : r_G B' S G := ⟨ok_B h.1 hB, h.2⟩
theorem K_fr {S S' : zS} {a : Nat} {A : mS} (h : r_K S a A) (hb : m_bd A) (hf : r_fr S S') : r_K S' a A := by
  refine K_cp h hb (fun u hu => ?_) ?_ ?_ ?_
  · rw [hf.1 (44, 0, 0) (by simp)]
  · exact hf.2.2 _ _ (by simp)
  · exact hf.2.1 _ _ (by simp)
  · exact hf.2.1 _ _ (by simp)
theorem hist_fr {B : Nat} {S S' : zS} {h : List mS} (hh : r_hist S h) (hok : ∀ A, A ∈ h → m_am B 0 A) (hf : r_fr S S') : r_hist S' h := by
  obtain ⟨h1, h2, h3⟩ := hh
  refine ⟨h1, by rw [hf.1 (23, 0, 0) (by simp)]; exact h2, fun k A hk => K_fr (h3 k A hk) (bd_am (hok A (List.mem_of_getElem? hk))) hf⟩
theorem RG_now {B B' : Nat} {S S' : zS} {G : mG} {A : mS} (h : r_G B S G) (hf : r_fr S S') (hA : r_R S' A) (hAm : m_am B' 0 A) (hB : B ≤ B') : r_G B' S' (g_now G A) := by
  obtain ⟨h0, h1, h2, h3, h4⟩ := h
  refine ⟨⟨hAm, fun X hX => am_B (h0.2 X hX) hB⟩, hA, hist_fr h2 h0.2 hf, fun t ht => ?_, ?_, h4.2.1, fun k hk => ?_⟩
  · rw [hf.1 (24, 0, 0) (by simp)]; exact h3 t ht
  · rw [hf.1 (23, 0, 0) (by simp)]; exact h4.1
  · rw [hf.1 (48, 0, 0) (by simp)]; exact h4.2.2 k hk
/-- ints outside the state have changed, not those of the run -/
theorem RG_I {B : Nat} {S S' : zS} {G G' : mG} (h : r_G B S G) (h2' : S'.2 = S.2) (hk : ∀ k, 25 ≤ k → k ≤ 44 → S'.1 (k, 0, 0) = S.1 (k, 0, 0)) (h23 : S'.1 (23, 0, 0) 23 = S.1 (23, 0, 0) 23) (eG : G'.1 = G.1 ∧ G'.2.1 = G.2.1) (h24 : ∀ t, t < 3 → S'.1 (24, 0, 0) t = G'.2.2.1 t) (ht : r_txt S' G'.2.2.2.1 G'.2.2.2.2) : r_G B S' G' := by
  obtain ⟨h0, h1, ⟨a1, a2, a3⟩, h3, h4⟩ := h
  refine ⟨⟨by rw [eG.1]; exact h0.1, by rw [eG.2]; exact h0.2⟩, ?_, ⟨by rw [eG.2]; exact a1, by rw [eG.2, h23]; exact a2, fun k A hA => ?_⟩, h24, ht⟩
  · rw [eG.1]
    refine rr_cp h1 (bd_am h0.1) (fun k t x1 x2 _ => by rw [hk k x1 (by omega)]) ?_ ?_ ?_ <;> rw [h2']
  · rw [eG.2] at hA ⊢
    refine K_cp (a3 k A hA) (bd_am (h0.2 A (List.mem_of_getElem? hA))) (fun u _ => by rw [hk 44 (by omega) (by omega)]) ?_ ?_ ?_ <;> rw [h2']
section RPJ
variable {o : zW}
/-- keeping now as row m, behind m others -/
theorem rs_leaveK {m : Nat} (hm : m ≤ 5) (S : zS) {A : mS} (h : r_R S A) (hb : m_bd A) {l : List mS} (hl : l.length = m) (hbl : ∀ X, X ∈ l → m_bd X) (hk : ∀ k X, l[k]? = some X → r_K S (m - 1 - k) X) (h23 : S.1 (23, 0, 0) 23 = nI m) (K : zS → Prop) (hK : ∀ S', r_kf m S S' → r_R S' A → (∀ k X, (A :: l)[k]? = some X → r_K S' (m - k) X) → K (sI S' (23, 0, 0) 23 ((S'.1 (23, 0, 0) 23) + 1))) : zGv o 994 mdX5_keeps [.ref (z_adr o (23, 0, 0)), .int (nI m)] S (fun S' => K (sI S' (23, 0, 0) 23 ((S'.1 (23, 0, 0) 23) + 1))) := by
  refine rs_keeps (by omega) S h hb _ (fun S' hS' f' => hK S' f' ?_ (fun k X hX => ?_))
  · refine rr_cp h hb (fun k t h1 h2 _ => f'.1 _ t (fun e => by have := congrArg Prod.fst e; simp only at this; omega) (fun e => by have := congrArg Prod.fst e.1; simp only at this; omega)) ?_ ?_ ?_
    · exact f'.2.2.2 _ _ (by simp)
    · exact f'.2.2.1 _ _ (by simp)
    · exact f'.2.2.1 _ _ (by simp)
  · cases k with
    | zero =>
      simp only [List.getElem?_cons_zero, Option.some.injEq] at hX
      subst hX
      exact hS'
    | succ k =>
      rw [List.getElem?_cons_succ] at hX
      have hkm := (List.getElem?_eq_some_iff.1 hX).1
      rw [hl] at hkm
      have e : m - (k + 1) = m - 1 - k := by omega
      rw [e]
      refine K_cp (hk k X hX) (hbl X (List.mem_of_getElem? hX)) (fun u hu => f'.2.1 _ (by omega)) ?_ ?_ ?_
      · exact f'.2.2.2 _ _ (fun hx => by omega)
      · exact f'.2.2.1 _ _ (fun hx => by omega)
      · exact f'.2.2.1 _ _ (fun hx => by omega)
theorem rs_leaves {B : Nat} (S : zS) {G : mG} (h : r_G B S G) (K : zS → Prop) (hK : ∀ S', r_G B S' (g_keep G) → r_dn S S' → K S') : zGv o 994 mdX5_leavesState [.ref (z_adr o (23, 0, 0))] S K := by
  have hh := h
  obtain ⟨h0, h1, ⟨a1, a2, a3⟩, h3, h4⟩ := h
  have hb := bd_am h0.1
  have fin : ∀ (m : Nat) (l : List mS) (S1 S' : zS), m ≤ 5 → l.length = m → (G.1 :: l) = (g_keep G).2.1 → S1.1 (23, 0, 0) 23 = nI m → S1.1 (24, 0, 0) = S.1 (24, 0, 0) → S1.1 (48, 0, 0) = S.1 (48, 0, 0) → S1.1 (23, 0, 0) 30 = S.1 (23, 0, 0) 30 → r_dn S S1 → r_kf m S1 S' → r_R S' G.1 → (∀ k X, (G.1 :: l)[k]? = some X → r_K S' (m - k) X) → (none : Option Value) = none ∧ K (sI S' (23, 0, 0) 23 ((S'.1 (23, 0, 0) 23) + 1)) := by
    intro m l S1 S' hm hl el e23 e24 e48 e30 d1 f' hR hX
    have g23 : S'.1 (23, 0, 0) 23 = nI m := by rw [f'.1 (23, 0, 0) 23 (by simp) (by simp)]; exact e23
    rw [g23, ← nI_succ]
    have hlen : (g_keep G).2.1.length = m + 1 := by rw [← el]; simp [hl]
    refine ⟨rfl, hK _ ⟨ok_keep h0, ?_, ⟨by omega, ?_, fun k X hk => ?_⟩, fun t ht => ?_, ?_, h4.2.1, fun k hk => ?_⟩ (dn_tr d1 (dn_tr (dn_kf f') (dn_I _ 23 _ _ (by omega))))⟩
    · refine rr_cp hR hb (fun k t h1 h2 _ => ?_) rfl rfl rfl
      have : ¬ k = 23 := by omega
      simp [sI, this]
    · rw [hlen]; simp [sI]
    · rw [hlen]
      rw [← el] at hk
      have hbX : m_bd X := by
        have := List.mem_of_getElem? hk
        rw [el] at this
        exact bd_am ((ok_keep h0).2 X this)
      have e : m + 1 - 1 - k = m - k := by omega
      rw [e]
      exact K_cp (hX k X hk) hbX (fun u _ => by simp [sI]) rfl rfl rfl
    · have : S'.1 (24, 0, 0) t = S.1 (24, 0, 0) t := by rw [f'.1 (24, 0, 0) t (by simp) (by simp), e24]
      have h3' := h3 t ht
      rw [← this] at h3'
      simpa [sI, g_keep] using h3'
    · have : S'.1 (23, 0, 0) 30 = S.1 (23, 0, 0) 30 := by rw [f'.1 (23, 0, 0) 30 (by simp) (by simp), e30]
      have h4' := h4.1
      rw [← this] at h4'
      simpa [sI, g_keep] using h4'
    · have : S'.1 (48, 0, 0) k = S.1 (48, 0, 0) k := by rw [f'.1 (48, 0, 0) k (by simp) (by simp), e48]
      have h4' := h4.2.2 k hk
      rw [← this] at h4'
      simpa [sI, g_keep] using h4'
  refine w_X5_leavesState_0 o S _ ?_
  rw [a2]
  refine ⟨fun hne => ?_, fun he => ?_⟩
  · have hn : G.2.1.length ≤ 5 := by
      have : G.2.1.length ≠ 6 := fun e => hne (by rw [e]; rfl)
      omega
    have el : (G.1 :: G.2.1) = (g_keep G).2.1 := by
      show _ = (G.1 :: G.2.1).take 6
      rw [List.take_of_length_le (by simp only [List.length_cons]; omega)]
    exact rs_leaveK hn S h1 hb rfl (fun X hX => bd_am (h0.2 X hX)) a3 a2 (fun S'' => (none : Option Value) = none ∧ K S'') (fun S' f' hR hX => fin G.2.1.length G.2.1 S S' hn rfl el a2 rfl rfl rfl (dn_rf S) f' hR hX)
  · have hn : G.2.1.length = 6 := (nI_eq (b := 6) (by omega) (by omega)).1 he
    have el : (G.1 :: G.2.1.take 5) = (g_keep G).2.1 := by
      show _ = (G.1 :: G.2.1).take 6
      rw [List.take_succ_cons]
    -- the shift
    have sh2 : ∀ S1 : zS, (∀ (q : zK) t, q ≠ (44, 0, 0) → S1.1 q t = S.1 q t) → S1.2 = S.2 → (∀ t, t < 6500 → S1.1 (44, 0, 0) t = S.1 (44, 0, 0) (t + 1300)) → zG o 994 mdX5_leavesState 42 [(0, .ref (z_adr o (23, 0, 0))), (1, .int 0)] [] S1 (fun rr S'' => rr = none ∧ K S'') := by
      intro S1 b1 b2 b3
      refine z_down 5 (fun k => ∀ S2 : zS, S2.1 = S1.1 → (∀ (q : zK) t, q ≠ (46, 0, 0) → q ≠ (47, 0, 0) → S2.2.1 q t = S.2.1 q t) → (∀ (q : zK) t, q ≠ (45, 0, 0) → S2.2.2 q t = S.2.2 q t) → (∀ t, t < k → S2.2.2 (45, 0, 0) t = S.2.2 (45, 0, 0) (t + 1) ∧ S2.2.1 (46, 0, 0) t = S.2.1 (46, 0, 0) (t + 1) ∧ S2.2.1 (47, 0, 0) t = S.2.1 (47, 0, 0) (t + 1)) → (∀ t, k ≤ t → S2.2.2 (45, 0, 0) t = S.2.2 (45, 0, 0) t ∧ S2.2.1 (46, 0, 0) t = S.2.1 (46, 0, 0) t ∧ S2.2.1 (47, 0, 0) t = S.2.1 (47, 0, 0) t) → zG o 994 mdX5_leavesState 42 [(0, .ref (z_adr o (23, 0, 0))), (1, .int (nI k))] [] S2 (fun rr S'' => rr = none ∧ K S'')) ?_ ?_ 0 (by omega) S1 rfl (fun q t _ _ => by rw [b2]) (fun q t _ => by rw [b2]) (fun t ht => absurd ht (Nat.not_lt_zero t)) (fun t _ => by rw [b2]; exact ⟨rfl, rfl, rfl⟩)
      · intro S2 c1 c2 c3 c4 c5
        refine w_X5_leavesState_42 o _ S2 _ ⟨fun _ y2 ey2 => ?_, fun hc => absurd (by decide) hc⟩
        have e23 : S2.1 (23, 0, 0) 23 = nI (5 + 1) := by rw [c1, b1 (23, 0, 0) 23 (by simp), a2, hn]
        have ey2' : y2 = nI 5 := by rw [ey2, e23, nI_pred]; simp [sI]
        rw [e23, nI_pred, ey2']
        generalize hS3 : sI S2 (23, 0, 0) 23 (nI 5) = S3
        have d1 : ∀ (q : zK) t, q ≠ (44, 0, 0) → ¬ (q = (23, 0, 0) ∧ t = 23) → S3.1 q t = S.1 q t := by
          intro q t n1 n2
          rw [← hS3]
          simp only [sI, if_neg n2]
          rw [c1]; exact b1 q t n1
        have d2 : S3.2 = S2.2 := by rw [← hS3]; rfl
        have d3 : ∀ t, t < 6500 → S3.1 (44, 0, 0) t = S.1 (44, 0, 0) (t + 1300) := by
          intro t ht
          rw [← hS3]
          have := b3 t ht
          rw [← c1] at this
          simpa [sI] using this
        have hR3 : r_R S3 G.1 := rr_cp h1 hb (fun k t x1 x2 _ => d1 _ t (fun e => by have := congrArg Prod.fst e; simp only at this; omega) (fun e => by have := congrArg Prod.fst e.1; simp only at this; omega)) (by rw [d2]; exact c3 _ _ (by simp)) (by rw [d2]; exact c2 _ _ (by simp) (by simp)) (by rw [d2]; exact c2 _ _ (by simp) (by simp))
        have hdn : r_dn S S3 := by
          intro q hq
          have n : ∀ k, 23 ≤ k → q ≠ (k, 0, 0) := fun k hk e => by subst e; simp at hq; omega
          refine ⟨funext fun t => d1 q t (n 44 (by omega)) (fun e => n 23 (by omega) e.1), ?_, ?_⟩
          · rw [d2]; exact funext fun t => c2 q t (n 46 (by omega)) (n 47 (by omega))
          · rw [d2]; exact funext fun t => c3 q t (n 45 (by omega))
        have hlen5 : (G.2.1.take 5).length = 5 := by rw [List.length_take]; omega
        refine rs_leaveK (l := G.2.1.take 5) (m := 5) (by omega) S3 hR3 hb hlen5 (fun X hX => bd_am (h0.2 X (List.mem_of_mem_take hX))) (fun k X hk => ?_) (by rw [← hS3]; simp [sI]) (fun S'' => (none : Option Value) = none ∧ K S'') (fun S' f' hR hX => fin 5 (G.2.1.take 5) S3 S' (by omega) hlen5 el (by rw [← hS3]; simp [sI]) (by funext t; exact d1 _ t (by simp) (by simp)) (by funext t; exact d1 _ t (by simp) (by simp)) (d1 _ _ (by simp) (by simp)) hdn f' hR hX)
        have hk5 : k < 5 := by
          have := (List.getElem?_eq_some_iff.1 hk).1
          rw [hlen5] at this; exact this
        rw [List.getElem?_take_of_lt hk5] at hk
        have := a3 k X hk
        rw [hn] at this
        have e1 : 6 - 1 - k = (5 - 1 - k) + 1 := by omega
        rw [e1] at this
        refine K_cp this (bd_am (h0.2 X (List.mem_of_getElem? hk))) (fun u hu => ?_) ?_ ?_ ?_
        · rw [d3 _ (by omega)]
          exact congrArg _ (by omega)
        · rw [d2]; exact (c4 _ (by omega)).1
        · rw [d2]; exact (c4 _ (by omega)).2.1
        · rw [d2]; exact (c4 _ (by omega)).2.2
      · intro k hk ih S2 c1 c2 c3 c4 c5
        have en : nI k + 1 = nI (k + 1) := (nI_succ k).symm
        refine w_X5_leavesState_42 o _ S2 _ ⟨fun hc => absurd hc (z_ge (a := k) (b := 5) hk (by decide)), fun _ => ?_⟩
        rw [en, z_cl (by omega), z_cl (by omega)]
        refine ⟨z_in (by omega) (by omega), z_in (by omega) (by omega), fun S6 e6 => ⟨z_in (by omega) (by omega), z_in (by omega) (by omega), fun S7 e7 => ⟨z_in (by omega) (by omega), z_in (by omega) (by omega), fun S8 e8 => ?_⟩⟩⟩
        obtain ⟨v1, v2, v3⟩ := c5 (k + 1) (by omega)
        subst e6
        have v2' : (sF S2 (45, 0, 0) k (S2.2.2 (45, 0, 0) (k + 1))).2.1 (46, 0, 0) (k + 1) = S.2.1 (46, 0, 0) (k + 1) := v2
        rw [v2', v1] at e7
        subst e7
        have v3' : (sL (sF S2 (45, 0, 0) k (S.2.2 (45, 0, 0) (k + 1))) (46, 0, 0) k (S.2.1 (46, 0, 0) (k + 1))).2.1 (47, 0, 0) (k + 1) = S.2.1 (47, 0, 0) (k + 1) := by
          simpa [sL, sF] using v3
        rw [v3'] at e8
        subst e8
        refine ih _ c1 (fun q t n1 n2 => ?_) (fun q t n1 => ?_) (fun t ht => ?_) (fun t ht => ?_)
        · simp only [sL, sF]
          rw [if_neg (fun e => n2 e.1), if_neg (fun e => n1 e.1)]
          exact c2 q t n1 n2
        · simp only [sL, sF]
          rw [if_neg (fun e => n1 e.1)]
          exact c3 q t n1
        · by_cases e : t = k
          · subst e; simp [sL, sF]
          · simpa [sL, sF, e] using c4 t (by omega)
        · have e : ¬ t = k := by omega
          simpa [sL, sF, e] using c5 t (by omega)
    refine z_down 6500 (fun k => ∀ S1 : zS, (∀ (q : zK) t, q ≠ (44, 0, 0) → S1.1 q t = S.1 q t) → S1.2 = S.2 → (∀ t, t < k → S1.1 (44, 0, 0) t = S.1 (44, 0, 0) (t + 1300)) → (∀ t, k ≤ t → S1.1 (44, 0, 0) t = S.1 (44, 0, 0) t) → zG o 994 mdX5_leavesState 11 [(0, .ref (z_adr o (23, 0, 0))), (1, .int (nI k))] [] S1 (fun rr S'' => rr = none ∧ K S'')) ?_ ?_ 0 (by omega) S (fun _ _ _ => rfl) rfl (fun t ht => absurd ht (Nat.not_lt_zero t)) (fun _ _ => rfl)
    · intro S1 b1 b2 b3 b4
      refine w_X5_leavesState_11 o _ S1 _ ⟨fun _ => sh2 S1 b1 b2 b3, fun hc => absurd (by decide) hc⟩
    · intro k hk ih S1 b1 b2 b3 b4
      refine w_X5_leavesState_11 o _ S1 _ ⟨fun hc => absurd hc (z_ge (a := k) (b := 6500) hk (by decide)), fun _ => ?_⟩
      rw [show nI k + 1300 = nI (k + 1300) from nI_add k 1300, z_cl (by omega), z_cl (by omega)]
      refine ⟨z_in (by omega) (by omega), z_in (by omega) (by omega), fun S2 e2 => ?_⟩
      rw [b4 (k + 1300) (by omega)] at e2
      rw [← nI_succ]
      subst e2
      refine ih _ (fun q t n1 => ?_) b2 (fun t ht => ?_) (fun t ht => ?_)
      · simp only [sI]
        rw [if_neg (fun e => n1 e.1)]
        exact b1 q t n1
      · by_cases e : t = k
        · subst e; simp [sI]
        · simpa [sI, e] using b3 t (by omega)
      · have e : ¬ t = k := by omega
        simpa [sI, e] using b4 t (by omega)
end RPJ
