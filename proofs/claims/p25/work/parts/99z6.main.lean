/-! the law's main loop -/
def m_b8 (l G : Nat) (A : mS) : Prop := ∃ g, A.1 40 8 = nI g ∧ l ≤ g ∧ g ≤ G
theorem b8_same {l G : Nat} {A A' : mS} (h : m_b8 l G A) (e : A'.1 40 8 = A.1 40 8) : m_b8 l G A' := by
  obtain ⟨g, h1, h2⟩ := h; exact ⟨g, e.trans h1, h2⟩
theorem b8_le {l G G' : Nat} {A : mS} (h : m_b8 l G A) (e : G ≤ G') : m_b8 l G' A := by
  obtain ⟨g, h1, h2, h3⟩ := h; exact ⟨g, h1, h2, by omega⟩
theorem b8_gets {l G : Nat} {A : mS} (h : m_b8 l G A) (k b j f : Nat) : m_b8 l (G + 1) (m_gets A k b j f) := by
  obtain ⟨g, h1, h2, h3⟩ := h
  exact ⟨g + 1, by rw [gets_8, h1, ← nI_succ], by omega, by omega⟩
theorem b8_serve {l G : Nat} {A : mS} (h : m_b8 l G A) (b : Nat) (q : mQ) : m_b8 l (G + 1) (m_serve b A q) := by
  unfold m_serve
  cases q.2.2.1 with
  | some v => exact b8_le (b8_same h (lay_8 A b q.1 v)) (by omega)
  | none => exact b8_gets h _ _ _ _
theorem b8_fold (b : Nat) (ql : List mQ) : ∀ {l G : Nat} {A : mS}, m_b8 l G A → m_b8 l (G + ql.length) (ql.foldl (m_serve b) A) := by
  induction ql with
  | nil => intro l G A h; exact h
  | cons q ql ih =>
    intro l G A h
    exact b8_le (ih (b8_serve h b q)) (by simp only [List.length_cons]; omega)
theorem b8_come {l G : Nat} {A : mS} (h : m_b8 l G A) {b : Nat} (hq : (m_Q A b).length ≤ 4) : m_b8 l (G + 4) (m_come A b) := by
  have h1 : m_b8 l G (m_near (m_take (m_f A ((m_F A).erase b)) b) b) := b8_same h ((near_8 _ b).trans (by simp [m_take, m_f]))
  have h2 := b8_fold b (m_Q A b) h1
  exact b8_le (G := G + (m_Q A b).length) (A := m_come A b) h2 (by omega)
theorem b8_p1 {l G : Nat} {A : mS} (h : m_b8 l G A) (b : Nat) : m_b8 l G (m_p1 A b) := by
  refine b8_same h ?_
  unfold m_p1
  split
  · simp [m_gone, m_tal, m_far, m_c, m_i]
  · rfl
theorem b8_p2 {l G : Nat} {A : mS} (h : m_b8 l G A) (b : Nat) (hb : b < 16) (hI : m_inv 16 A) : m_b8 l (G + 4) (m_p2 A b) := by
  unfold m_p2
  split
  · exact b8_come h (hI.2.2.2.1.2 b hb).1.1
  · exact b8_le h (by omega)
theorem b8_pass {l G : Nat} {A : mS} (h : m_b8 l G A) (hI : m_inv 16 A) : m_b8 l (G + 64) (m_pass A) := by
  have := z_pass (fun _ X => m_inv 16 X ∧ m_b8 l G X) (fun k X => m_inv 16 X ∧ m_b8 l (G + 4 * k) X) (fun k X hk i => ⟨inv_p1 i.1 hk, b8_p1 i.2 k⟩) (fun X i => i) (fun k X hk i => ⟨inv_p2 i.1 hk, b8_le (b8_p2 i.2 k hk i.1) (by omega)⟩) A ⟨inv_tick hI, b8_same h (by simp [m_tick, m_i])⟩
  exact b8_le this.2 (by omega)
theorem b8_idle : ∀ f (A : mS) (B l G : Nat), m_al B 0 A → B + f < 2 ^ 30 → m_b8 l G A → m_b8 l (G + 64 * f) (m_idle f A) := by
  intro f
  induction f with
  | zero => intro A B l G _ _ h; exact h
  | succ f ih =>
    intro A B l G hal hB h
    exact b8_le (ih _ (B + 1) l (G + 64) (al_01 (al_pass hal (by omega)).1) (by omega) (b8_pass h hal.1)) (by omega)
theorem jq_D {D D' : Nat → Nat × Int32} {b : Nat} (l : List mQ) : ∀ f : Nat → Int32, (∀ q, q ∈ l → q.2.2.1 = none → D' q.2.2.2 = D q.2.2.2) → m_jq D b f l → m_jq D' b f l := by
  induction l with
  | nil => intro f _ _; trivial
  | cons q l ih => intro f hq h; exact ⟨fun e => by rw [hq q List.mem_cons_self e]; exact h.1 e, ih _ (fun p hp => hq p (List.mem_cons_of_mem _ hp)) h.2⟩
theorem JJ_D {D D' : Nat → Nat × Int32} {A : mS} {qs : Nat → List mQ} (hD : ∀ k, k < m_N A → D' k = D k) (h : m_JJ D A qs) : m_JJ D' A qs := by
  obtain ⟨h1, h2, h3, h4, h5, h6⟩ := h
  refine ⟨h1, h2, fun b hb => ?_, fun k hk => ?_, h5, h6⟩
  · obtain ⟨b1, b2, b3⟩ := h3 b hb
    exact ⟨jq_D _ _ (fun q hq e => hD _ ((b2 q hq).2.2.1 e).1) b1, b2, b3⟩
  · have := h4 k hk
    unfold m_jc at this ⊢
    rw [hD k hk]; exact this
theorem st_D {D D' : Nat → Nat × Int32} {V : Nat → Nat → Int32} {N : Nat} {s : Int32} {A : mS} (hD : ∀ k, k < N → D' k = D k) (h : m_st 0 D V N s A) : m_st 0 D' V N s A := by
  obtain ⟨h1, h2, h3, h4⟩ := h
  exact ⟨JJ_D (fun k hk => hD k (by omega)) h1, h2, h3, h4⟩
theorem G_sI {B : Nat} {S : zS} {G : mG} (h : c_G B S G) {k : Nat} (hk : k = 23 ∨ k = 24) (t : Nat) (v : Int32) : c_G B (sI S (k, 0, 0) t v) G := by
  obtain ⟨h1, h2, h3, h4, h5, h6⟩ := h
  have e : ∀ q, q < 23 → (sI S (k, 0, 0) t v).1 (q, 0, 0) = S.1 (q, 0, 0) := by
    intro q hq
    funext i
    have : ¬ q = k := by omega
    simp [sI, this]
  refine ⟨H_sm h1 (sm_I S k t v (by omega)), hist_sm h2 (e 0 (by omega)) (fun i _ => sm_I S k t v (by omega)), fun i hi => by rw [e 21 (by omega)]; exact h3 i hi, by rw [e 16 (by omega)]; exact h4, h5, fun i hi => by rw [e 17 (by omega)]; exact h6 i hi⟩
theorem n4 (b j : Nat) : (4 : Int32) * nI b + nI j = nI (4 * b + j) := by
  rw [show (4 : Int32) = nI 4 from rfl, pk_mul, nI_add]
section MA
variable {o : zW} {wide : Nat}
theorem L_499 {n k N : Nat} {S : zS} {G : mG} {s : Int32} (h : c_G (60000 * n) S G) (hw : ∀ i, i < 16 → ¬ 2 ≤ G.1.1 29 i)
    (hK : zG o 970 mdL_law 581 [(0, .ref o.2.2.2.2.1), (1, .ref (z_adr o (0, 0, 0))), (2, .ref (z_adr o (23, 0, 0))), (3, .ref (z_adr o (24, 0, 0))), (4, .int 1), (5, .int (nI wide)), (6, .int (nI N)), (7, .int s), (8, .int (nI 0)), (9, .int (nI k))] [] S m_Qf) : ∀ i, i ≤ 16 →
    zG o 970 mdL_law 499 [(0, .ref o.2.2.2.2.1), (1, .ref (z_adr o (0, 0, 0))), (2, .ref (z_adr o (23, 0, 0))), (3, .ref (z_adr o (24, 0, 0))), (4, .int 1), (5, .int (nI wide)), (6, .int (nI N)), (7, .int s), (8, .int (nI 0)), (9, .int (nI k)), (17, .int (nI i))] [] S m_Qf := by
  intro i hi
  refine z_down 16 (fun i => zG o 970 mdL_law 499 [(0, .ref o.2.2.2.2.1), (1, .ref (z_adr o (0, 0, 0))), (2, .ref (z_adr o (23, 0, 0))), (3, .ref (z_adr o (24, 0, 0))), (4, .int 1), (5, .int (nI wide)), (6, .int (nI N)), (7, .int s), (8, .int (nI 0)), (9, .int (nI k)), (17, .int (nI i))] [] S m_Qf) ?_ ?_ i hi
  · exact w_L_law_499 o _ _ _ _ _ _ S _ ⟨fun _ => hK, fun hc => absurd (by decide) hc⟩
  · intro i hi ih
    rw [nI_succ i] at ih
    refine w_L_law_499 o _ _ _ _ _ _ S _ ⟨fun hc => absurd hc (nI_ge (a := i) (b := 16) hi (by omega)), fun _ => ?_⟩
    exact d_where h hi _ ⟨hw i hi, ih⟩
theorem L_221 (hL : o.2.2.2.2.2.1 ≤ 260) (hw : 1 ≤ wide ∧ wide ≤ 16) : ∀ k, k ≤ 50 → ∀ (n : Nat) (S : zS) (G : mG) (D : Nat → Nat × Int32) (V : Nat → Nat → Int32) (N : Nat) (s : Int32), n ≤ 5 + k → c_G (60000 * n) S G → m_st 0 D V N s G.1 → m_sh G.1 → N ≤ k → (∀ b, b < 16 → ∀ j, j < 4 → S.1 (23, 0, 0) (4 * b + j) = V b j) → (∀ i, i < N → S.1 (24, 0, 0) i = (D i).2) →
    zG o 970 mdL_law 221 [(0, .ref o.2.2.2.2.1), (1, .ref (z_adr o (0, 0, 0))), (2, .ref (z_adr o (23, 0, 0))), (3, .ref (z_adr o (24, 0, 0))), (4, .int 1), (5, .int (nI wide)), (6, .int (nI N)), (7, .int s), (8, .int (nI 0)), (9, .int (nI k))] [] S m_Qf := by
  intro k hk
  refine z_down 50 (fun k => ∀ (n : Nat) (S : zS) (G : mG) (D : Nat → Nat × Int32) (V : Nat → Nat → Int32) (N : Nat) (s : Int32), n ≤ 5 + k → c_G (60000 * n) S G → m_st 0 D V N s G.1 → m_sh G.1 → N ≤ k → (∀ b, b < 16 → ∀ j, j < 4 → S.1 (23, 0, 0) (4 * b + j) = V b j) → (∀ i, i < N → S.1 (24, 0, 0) i = (D i).2) →
    zG o 970 mdL_law 221 [(0, .ref o.2.2.2.2.1), (1, .ref (z_adr o (0, 0, 0))), (2, .ref (z_adr o (23, 0, 0))), (3, .ref (z_adr o (24, 0, 0))), (4, .int 1), (5, .int (nI wide)), (6, .int (nI N)), (7, .int s), (8, .int (nI 0)), (9, .int (nI k))] [] S m_Qf) ?_ ?_ k hk
  · intro n S G D V N s hn h hst hsh hN hlast hdue
    refine w_L_law_221 o _ _ _ _ _ S _ ⟨fun _ => ?_, fun hc => absurd (by decide) hc⟩
    exact L_1209 hL hw (by omega) h hst (by omega) (by
      have e := hlast 3 (by omega) 1 (by omega)
      rw [hst.2.1 3 (by omega) 1 (by omega)]; exact e) hdue 0 (by omega)
  · intro k hk ih n S G D V N s hn h hst hsh hN hlast hdue
    rw [nI_succ k] at ih
    have go : ∀ (S' : zS) (G' : mG) (D' : Nat → Nat × Int32) (V' : Nat → Nat → Int32) (N' : Nat) (s' : Int32), c_G (60000 * (n + 1)) S' G' → m_st 0 D' V' N' s' G'.1 → m_sh G'.1 → N' ≤ k + 1 → (∀ b, b < 16 → ∀ j, j < 4 → S'.1 (23, 0, 0) (4 * b + j) = V' b j) → (∀ i, i < N' → S'.1 (24, 0, 0) i = (D' i).2) →
        zG o 970 mdL_law 581 [(0, .ref o.2.2.2.2.1), (1, .ref (z_adr o (0, 0, 0))), (2, .ref (z_adr o (23, 0, 0))), (3, .ref (z_adr o (24, 0, 0))), (4, .int 1), (5, .int (nI wide)), (6, .int (nI N')), (7, .int s'), (8, .int (nI 0)), (9, .int (nI k))] [] S' m_Qf := by
      intro S' G' D' V' N' s' h' hst' hsh' hN' hlast' hdue'
      refine L_581 (by omega) h' hst' hsh' (by omega) hlast' ?_
      refine w_L_law_1200 o _ _ _ _ _ S' _ ?_
      exact ih (n + 1) S' G' D' V' N' s' (by omega) h' hst' hsh' hN' hlast' hdue'
    have hB := z_nB (n := n) (by omega)
    have hB1 := z_nB (n := n + 1) (by omega)
    have hal := h.1.2
    have hT := hal.2.2.1.1
    have hTb := hal.2.2.1.2
    refine w_L_law_221 o _ _ _ _ _ S _ ⟨fun hc => absurd hc (nI_ge (a := k) (b := 50) hk (by omega)), fun _ => ?_⟩
    rw [show (6 : Int32) + nI k = nI (6 + k) from nI_add 6 k]
    refine d_cell hL (by omega) _ ?_
    generalize m_cell o (6 + k) = x
    refine d_low (N := 12) (by omega) (by omega) _ _ ?_
    refine d_low hw.1 (by omega) _ _ ?_
    have hb := low_lt (x >>> ((4 : Int32) &&& 31)) hw.1
    generalize m_low (x >>> ((4 : Int32) &&& 31)) wide = b at hb
    refine d_low (N := 4) (by omega) (by omega) _ _ ?_
    have hj := low_lt (x >>> ((8 : Int32) &&& 31)) (n := 4) (by omega)
    generalize m_low (x >>> ((8 : Int32) &&& 31)) 4 = j at hj
    refine d_low (N := 100) (by omega) (by omega) _ _ ?_
    have hv := low_lt (x >>> ((10 : Int32) &&& 31)) (n := 100) (by omega)
    generalize m_low (x >>> ((10 : Int32) &&& 31)) 100 = v at hv
    refine d_often h (k := 9) (by omega) _ ?_
    rw [hT]
    have hb16 : b < 16 := by omega
    refine w_L_law_295 o _ _ _ _ _ _ _ _ _ _ _ S _ ⟨fun _ => ⟨fun _ => ⟨fun _ => ?_, fun _ => ?_⟩, fun _ => ?_⟩, fun _ => ?_⟩
    · -- TICKS go by
      refine d_low (N := 9) (by omega) (by omega) _ _ ?_
      have hm := low_lt (x >>> ((4 : Int32) &&& 31)) (n := 9) (by omega)
      obtain ⟨m, em⟩ : ∃ m, m = m_low (x >>> ((4 : Int32) &&& 31)) 9 := ⟨_, rfl⟩
      rw [← em] at hm
      have gt : g_ticks G (nI m) = ((m_idle m G.1).1 40 8 - G.1.1 40 8, g_now (g_keep G) (m_idle m G.1)) := by
        unfold g_ticks
        rw [cl_in (by omega) (by omega)]
      obtain ⟨i1, i2⟩ := st_idle (by omega) m G.1 _ hal (by omega) hst
      have i3 := sh_idle m G.1 _ hal (by omega) hsh
      obtain ⟨g, g1, g2⟩ := hal.2.2.2.2.1
      obtain ⟨g', g3, g4, g5⟩ := b8_idle m G.1 _ g g hal (by omega) ⟨g, g1, Nat.le_refl _, Nat.le_refl _⟩
      rw [← em]
      refine zGi.po (c_ticks hB S h (nI m)) (fun r S1 hr => ?_)
      rw [gt] at hr
      obtain ⟨X, hX⟩ : ∃ X, X = m_idle m G.1 := ⟨_, rfl⟩
      rw [← hX] at hr i1 i2 i3 g3
      obtain ⟨rfl, h1, u1⟩ := hr
      have h1 := G_B h1 (z_nS n)
      have hT1 : X.1 40 9 = nI (m_T X) := h1.1.2.2.2.1.1
      refine ⟨?_, ?_⟩
      · show ¬ X.1 40 8 - G.1.1 40 8 < 0
        rw [g3, g1, pk_sub g4]
        exact nI_pos (by omega)
      refine d_often h1 (k := 9) (by omega) _ ?_
      refine d_low (N := 9) (by omega) (by omega) _ _ ⟨fun hc => hc ?_, ?_⟩
      · rw [← em, nI_add]
        show X.1 40 9 = _
        rw [hT1, i2]
      exact go S1 _ D V N s h1 i1 i3 (by omega) (fun b' hb' j' hj' => by rw [up_23 u1 _ (by simp)]; exact hlast b' hb' j' hj') (fun i hi => by rw [up_23 u1 _ (by simp)]; exact hdue i hi)
    · -- a FENCE
      have f0 := st_begF 999 G.1 _ (m_T G.1 + 20) hal (live_0 hal.2.1 hal.2.2.1 (by omega)) (by omega) (by omega) (by omega) hst
      rw [show 999 + 1 = 1000 from rfl] at f0
      have f5 := sh_beg (q := none) (fun b' j' v' e => by cases e) 1000 G.1 _ hal (by omega) hsh
      obtain ⟨X, hX⟩ : ∃ X, X = m_beg 1000 G.1 none := ⟨_, rfl⟩
      rw [← hX] at f0 f5
      obtain ⟨f1, f2, f3, f4⟩ := f0
      have gf : g_fence G = g_res G X := by unfold g_fence g_do; rw [hX]
      clear hX
      refine zGi.po (c_fence hB S h) (fun r S1 hr => ?_)
      rw [gf] at hr
      obtain ⟨hr1, h1, u1⟩ := hr
      rw [res_1] at hr1
      rw [res_2] at h1
      have h1 := G_B h1 (z_nS n)
      have hal1 : m_al (60000 * (n + 1)) 0 X := h1.1.2
      have hT1 := hal1.2.2.1.1
      have hTb1 := hal1.2.2.1.2
      subst hr1
      have e8 : X.1 40 8 = nI N := by
        have e := f1.1.2.2.2.2.1
        have hge := asks_ge hal1.1 f1.1
        have e0 : m_asks X (m_F X).length = 0 := by rw [f3]; unfold m_asks; rw [f3]; rfl
        have hck := ck_le X (m_N X)
        have ec : m_cn X = m_ck X (m_N X) := rfl
        rw [e, ec]
        have := f1.2.2.1
        congr 1; omega
      refine ⟨?_, ?_⟩
      · rw [hT1]; exact nI_ge f2 (by omega)
      refine d_fetch hB1 h1 (k := 0) (w := 0) (by omega) (by omega) _ ⟨fun hc => hc ?_, ?_⟩
      · show m_ftv X 0 0 = -1
        unfold m_ftv
        rw [f3]; rfl
      refine d_often h1 (k := 8) (by omega) _ ⟨fun hc => hc e8, ?_⟩
      refine L_499 h1 (fun i hi => ?_) ?_ 0 (by omega)
      · show ¬ 2 ≤ X.1 29 i
        rcases (hal1.1.2.2.2.2.1 i hi).1 with g | g | g | g
        · rw [g]; decide
        · rw [g]; decide
        · exfalso
          have hc := hal1.1.2.2.2.2.2.1
          have h16 := m_cs_le 16 X
          rw [f4] at hc
          have h0 : m_cs 16 X = 0 := ((nI_eq (a := 0) (b := m_cs 16 X) (by omega) (by omega)).1 hc).symm
          unfold m_cs at h0
          rw [List.countP_eq_zero] at h0
          exact h0 i (List.mem_range.2 hi) (decide_eq_true ⟨by omega, g⟩)
        · exfalso
          have := (hal1.1.2.2.1.2.1 i).2 ⟨hi, by omega, g⟩
          rw [f3] at this
          cases this
      · exact go S1 _ D V N s h1 f1 f5 (by omega) (fun b' hb' j' hj' => by rw [up_23 u1 _ (by simp)]; exact hlast b' hb' j' hj') (fun i hi => by rw [up_23 u1 _ (by simp)]; exact hdue i hi)
    · -- a STORE
      rw [n4]
      refine ⟨z_in (by omega) (by omega), ?_⟩
      rw [z_cl (by omega)]
      have h0 := G_sI h (k := 23) (Or.inl rfl) (4 * b + j) (nI v)
      have hvp : ∀ y, some (nI v) = some y → 0 ≤ y := fun y hy => by
        cases hy
        exact nI_le (a := 0) (Nat.zero_le _) (by omega)
      have f0 := st_do hal hB hst hb16 hj hvp (by omega) (fun hc => by cases hc)
      have f5 := sh_beg (q := some (b, j, some (nI v))) (fun b' j' v' e => by cases e; exact ⟨hb16, hj, fun y hy => by cases hy; exact nI_m1 (by omega)⟩) 1000 G.1 _ hal (by omega) hsh
      obtain ⟨X, hX⟩ : ∃ X, X = m_beg 1000 G.1 (some (b, j, some (nI v))) := ⟨_, rfl⟩
      rw [← hX] at f0 f5
      obtain ⟨f1, f2, -⟩ := f0
      rw [if_neg (show ¬ (some (nI v)) = none by simp)] at f1
      have gf : g_store G (nI b) (nI j) (nI v) = g_res G X := by rw [gst hb16 hj hv, hX]; rfl
      clear hX
      refine zGi.po (c_store hB _ h0 (nI b) (nI j) (nI v)) (fun r S1 hr => ?_)
      rw [gf] at hr
      obtain ⟨hr1, h1, u1⟩ := hr
      rw [res_1] at hr1
      rw [res_2] at h1
      have h1 := G_B h1 (z_nS n)
      have hal1 : m_al (60000 * (n + 1)) 0 X := h1.1.2
      have hT1 := hal1.2.2.1.1
      have hTb1 := hal1.2.2.1.2
      subst hr1
      refine ⟨?_, ?_⟩
      · rw [hT1]; exact nI_ge f2 (by omega)
      refine d_often h1 (k := 9) (by omega) _ ⟨fun hc => hc rfl, ?_⟩
      refine d_item h1 (b := b) (j := j) (w := 1) hb16 hj (by omega) _ ⟨fun hc => hc ?_, ?_⟩
      · show m_val X b j = nI v
        exact (f1.2.1 b hb16 j hj).trans (if_pos ⟨rfl, rfl⟩)
      exact go S1 _ D _ N (s + 1) h1 f1 f5 (by omega) (fun b' hb' j' hj' => by
          rw [up_23 u1 _ (by simp)]
          have e : 4 * b' + j' = 4 * b + j ↔ b' = b ∧ j = j' := by omega
          show (if (23, 0, 0) = (23, 0, 0) ∧ 4 * b' + j' = 4 * b + j then nI v else S.1 (23, 0, 0) (4 * b' + j')) = _
          by_cases c : b' = b ∧ j = j'
          · rw [if_pos ⟨rfl, e.2 c⟩, if_pos c]; rfl
          · rw [if_neg (fun hc => c (e.1 hc.2)), if_neg c]; exact hlast b' hb' j' hj') (fun i hi => by rw [up_23 u1 _ (by simp)]; exact hdue i hi)
    · -- a LOAD
      rw [n4]
      refine ⟨z_in (by omega) (by omega), z_in (by omega) (by omega), fun S0 hS0 => ?_⟩
      rw [z_cl (by omega), z_cl (by omega), hlast b hb16 j hj] at hS0
      have h0 : c_G (60000 * n) S0 G := by rw [hS0]; exact G_sI h (k := 24) (Or.inr rfl) N (V b j)
      have hst2 : m_st 0 (fun i => if i = N then (b, V b j) else D i) V N s G.1 := st_D (fun i hi => if_neg (by omega)) hst
      have f0 := st_do (v := none) hal hB hst2 hb16 hj (fun y hy => by cases hy) (by omega) (fun _ => if_pos rfl)
      have f5 := sh_beg (q := some (b, j, none)) (fun b' j' v' e => by cases e; exact ⟨hb16, hj, fun y hy => by cases hy⟩) 1000 G.1 _ hal (by omega) hsh
      obtain ⟨X, hX⟩ : ∃ X, X = m_beg 1000 G.1 (some (b, j, none)) := ⟨_, rfl⟩
      rw [← hX] at f0 f5
      obtain ⟨f1, f2, f3⟩ := f0
      rw [if_pos (rfl : (none : Option Int32) = none)] at f1
      have eV : (fun x i => if x = b ∧ j = i then (none : Option Int32).getD (V x i) else V x i) = V := by
        funext y i
        split <;> rfl
      rw [eV] at f1
      have f43 := f3 rfl
      have gf : g_load G (nI b) (nI j) = g_res G X := by rw [gld hb16 hj, hX]; rfl
      clear hX
      refine zGi.po (c_load hB _ h0 (nI b) (nI j)) (fun r S1 hr => ?_)
      rw [gf] at hr
      obtain ⟨hr1, h1, u1⟩ := hr
      rw [res_1] at hr1
      rw [res_2] at h1
      have h1 := G_B h1 (z_nS n)
      have hal1 : m_al (60000 * (n + 1)) 0 X := h1.1.2
      have hT1 := hal1.2.2.1.1
      have hTb1 := hal1.2.2.1.2
      have hN1 : m_N X = N + 1 := f1.2.2.1
      subst hr1
      refine ⟨?_, ?_⟩
      · rw [hT1]; exact nI_ge f2 (by omega)
      refine d_often h1 (k := 9) (by omega) _ ⟨fun hc => hc rfl, ?_⟩
      rw [show nI N + 1 - 1 = nI N by rw [← nI_succ, nI_pred]]
      refine d_got hB1 h1 (k := N) (w := 2) (by omega) (by omega) _ ⟨fun hc => hc ?_, ?_⟩
      · show (if N < min (m_N X) 200 then X.1 43 N else -1) = X.1 40 9
        rw [if_pos (show N < min (m_N X) 200 by omega)]
        exact f43
      rw [← nI_succ]
      have e24 : ∀ i, S1.1 (24, 0, 0) i = if i = N then V b j else S.1 (24, 0, 0) i := by
        intro i
        rw [up_23 u1 _ (by simp), hS0]
        show (if (24, 0, 0) = (24, 0, 0) ∧ i = N then V b j else _) = _
        by_cases c : i = N
        · rw [if_pos ⟨rfl, c⟩, if_pos c]
        · rw [if_neg (fun hc => c hc.2), if_neg c]
      have e23 : ∀ i, S1.1 (23, 0, 0) i = S.1 (23, 0, 0) i := by
        intro i
        rw [up_23 u1 _ (by simp), hS0]
        simp [sI]
      refine go S1 _ _ V (N + 1) (s + 1) h1 f1 f5 (by omega) (fun b' hb' j' hj' => by rw [e23]; exact hlast b' hb' j' hj') (fun i hi => ?_)
      rw [e24]
      by_cases c : i = N
      · rw [if_pos c, if_pos c]
      · rw [if_neg c, if_neg c]; exact hdue i (by omega)
end MA
