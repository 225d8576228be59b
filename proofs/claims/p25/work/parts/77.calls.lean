/-! what each call answers, and the run behind it -/
abbrev mA : Type := Int32 × mG
def g_bad (G : mG) : mA := (-2, g_ref G 0)
def m_lo (k : Nat) : Int32 := if k = 1 then 0 else 1
def m_hi (k : Nat) : Nat := if k = 0 ∨ k = 1 then 3 else if k = 4 then 20 else 4
abbrev m_may (k : Nat) (v : Int32) : Prop := m_lo k ≤ v ∧ v ≤ nI (m_hi k)
def g_sets (G : mG) (x1 x2 : Int32) : mA := match m_cl x1 5 with
  | some k => if m_may k x2 then (G.1.1 25 k, g_now (g_keep G) (m_new (m_i G.1 25 k x2))) else g_bad G
  | none => g_bad G
def g_anew (G : mG) : mA := (G.1.1 40 9, g_now (g_keep G) (m_new G.1))
def g_res (G : mG) (X : mS) : mA := (X.1 40 9, g_now (g_keep G) X)
theorem res_1 (G : mG) (X : mS) : (g_res G X).1 = X.1 40 9 := rfl
theorem res_2 (G : mG) (X : mS) : (g_res G X).2 = g_now (g_keep G) X := rfl
def g_do (G : mG) (q : mR) : mA := g_res G (m_beg 1000 G.1 q)
def g_load (G : mG) (x1 x2 : Int32) : mA := match m_cl x1 16, m_cl x2 4 with
  | some b, some j => g_do G (some (b, j, none))
  | _, _ => g_bad G
def g_store (G : mG) (x1 x2 x3 : Int32) : mA := match m_cl x1 16, m_cl x2 4, m_cl x3 100 with
  | some b, some j, some v => g_do G (some (b, j, some (nI v)))
  | _, _, _ => g_bad G
def g_fence (G : mG) : mA := g_do G none
def g_ticks (G : mG) (x1 : Int32) : mA := match m_cl x1 100 with
  | some n => ((m_idle n G.1).1 40 8 - G.1.1 40 8, g_now (g_keep G) (m_idle n G.1))
  | none => g_bad G
def g_got (G : mG) (x1 x2 : Int32) : mA := match m_cl x2 3 with
  | some w => if x1 < 0 then g_bad G else match m_cl x1 (min (m_N G.1) 200) with
    | some k => (G.1.1 (41 + w) k, G)
    | none => (-1, G)
  | none => g_bad G
def g_often (G : mG) (x1 : Int32) : mA := match m_cl x1 10 with
  | some k => (G.1.1 40 k, G)
  | none => g_bad G
def g_where (G : mG) (x1 : Int32) : mA := match m_cl x1 16 with
  | some b => (G.1.1 29 b, G)
  | none => g_bad G
def g_place (G : mG) (x1 x2 : Int32) : mA := match m_cl x1 4, m_cl x2 3 with
  | some r, some k => ((match (m_R G.1 r)[k]? with | some b => nI b | none => -1), G)
  | _, _ => g_bad G
def g_fetch (G : mG) (x1 x2 : Int32) : mA := match m_cl x2 3 with
  | some w => if x1 < 0 then g_bad G else match (m_F G.1)[x1.toNatClampNeg]? with
    | some b => (if w = 0 then nI b else if w = 1 then G.1.1 30 b - G.1.1 40 9 else nI (m_Q G.1 b).length, G)
    | none => (-1, G)
  | none => g_bad G
def g_type (G : mG) (x1 : Int32) : mA := match m_cl x1 128 with
  | some c => if G.2.2.2.2 < 120 then (nI (G.2.2.2.2 + 1), (G.1, G.2.1, G.2.2.1, fun k => if k = G.2.2.2.2 then c else G.2.2.2.1 k, G.2.2.2.2 + 1)) else (-4, g_ref G 2)
  | none => g_bad G
def g_clear (G : mG) : mA := (nI G.2.2.2.2, (G.1, G.2.1, G.2.2.1, G.2.2.2.1, 0))
def g_runs (G : mG) : mA := match m_text G.2.2.2.1 G.2.2.2.2 with
  | .inl f => (-10 - nI f, G)
  | .inr l => ((l.foldl m_exec G.1).1 40 9 - G.1.1 40 9, g_now (g_keep G) (l.foldl m_exec G.1))
def g_back (G : mG) : mA := match G.2.1 with
  | [] => (-3, g_ref G 1)
  | A :: h => (nI h.length, (A, h, G.2.2))
def g_told (G : mG) (x1 : Int32) : mA := match m_cl x1 10 with
  | some k => (if k < 3 then G.2.2.1 k else if k = 3 then nI G.2.2.2.2 else if k = 9 then nI G.2.1.length else G.1.1 25 (k - 4), G)
  | none => g_bad G
def c_post (B : Nat) (S : zS) (a : mA) (r : Int32) (S' : zS) : Prop := r = a.1 ∧ c_G (B + 60000) S' a.2 ∧ c_up S S'
theorem G_B {B B' : Nat} {S : zS} {G : mG} (h : c_G B S G) (hB : B ≤ B') : c_G B' S G := ⟨H_B h.1 hB, hist_B h.2.1 hB, h.2.2⟩
theorem z_le1 (B : Nat) : B ≤ B + 1000 := Nat.le_add_right B 1000
theorem z_le2 (B : Nat) : B + 1000 ≤ B + 60000 := Nat.add_le_add_left (by decide) B
theorem z_le3 (B : Nat) : B ≤ B + 60000 := Nat.le_add_right B 60000
theorem z_bb {B : Nat} (h : B + 60000 ≤ m_BB) : B + 1000 ≤ m_BB := Nat.le_trans (z_le2 B) h
section SPQ
variable {o : zW}
theorem sp_badR {B : Nat} (S S2 : zS) {G : mG} (h : c_G B S2 G) (hu : c_up S S2) : zGi o 970 mdX4_refuse [.ref (z_adr o (0, 0, 0)), .int (-2)] S2 (fun r S4 => ∃ x, some (Value.int r) = some (.int x) ∧ c_post B S (g_bad G) x S4) :=
  sp_refuse S2 h (k := 0) (by omega) (by decide) _ (fun S' h' u' => ⟨_, rfl, rfl, G_B h' (z_le3 B), up_tr hu u'⟩)
theorem sp_do {B : Nat} (hB : B + 60000 ≤ m_BB) (S S2 : zS) {G : mG} (h : c_G B S2 (g_keep G)) (hu : c_up S S2) {b j : Nat} (hb : b < 16) (hj : j < 4) (v : Option Int32) (hv : ∀ x, v = some x → x ≠ -1) (a : mA) (ha : a = g_do G (some (b, j, v))) : zGi o 970 mdX2_begin [.ref (z_adr o (1, 0, 0)), .ref (z_adr o (5, 0, b)), .int (nI j), .int (v.getD (-1))] S2 (fun r S4 => ∃ x, some (Value.int r) = some (.int x) ∧ c_post B S a x S4) := by
  subst ha
  unfold g_do
  exact sp_begin (A := G.1) (by omega) (z_hn (by omega)) hb hj v hv S2 h.1 (z_bb hB) _ (fun S' h' f' => ⟨_, rfl, (res_1 G _).symm, G_B (by rw [res_2]; exact G_now h f' h' (z_le1 B)) (z_le2 B), up_tr hu (up_fr f')⟩)
theorem lim_set {A : mS} (h : m_lim A) {k : Nat} {v : Int32} (hm : m_may k v) : m_lim (m_i A 25 k v) := by
  obtain ⟨l1, l2, l3, l4, l5⟩ := h
  have get : ∀ M, M < 2 ^ 31 → m_hi k = M → ∃ P, v = nI P ∧ P ≤ M ∧ (m_lo k = 1 → 1 ≤ P) := by
    intro M hM e
    have h0 : ¬ v < 0 := by
      intro hc
      have := Int32.lt_of_le_of_lt hm.1 hc
      unfold m_lo at this
      split at this <;> exact absurd this (by decide)
    obtain ⟨P, hP, e2⟩ := nI_of h0
    refine ⟨P, e2, ?_, fun hl => ?_⟩
    · have := hm.2
      rw [e2, e] at this
      exact (nI_leI hP hM).1 this
    · have := hm.1
      rw [hl, e2] at this
      exact (nI_leI (a := 1) (by omega) hP).1 this
  refine ⟨?_, ?_, ?_, ?_, ?_⟩
  · by_cases e : k = 0
    · subst e
      obtain ⟨P, g1, g2, g3⟩ := get 3 (by omega) rfl
      exact ⟨P, by simp [m_i, g1], g3 rfl, g2⟩
    · have : ¬ 0 = k := fun e' => e e'.symm
      simpa [m_i, this] using l1
  · by_cases e : k = 1
    · subst e
      obtain ⟨P, g1, g2, g3⟩ := get 3 (by omega) rfl
      exact ⟨P, by simp [m_i, g1], g2⟩
    · have : ¬ 1 = k := fun e' => e e'.symm
      simpa [m_i, this] using l2
  · by_cases e : k = 2
    · subst e
      obtain ⟨P, g1, g2, g3⟩ := get 4 (by omega) rfl
      exact ⟨P, by simp [m_i, g1], g3 rfl, g2⟩
    · have : ¬ 2 = k := fun e' => e e'.symm
      simpa [m_i, this] using l3
  · by_cases e : k = 3
    · subst e
      obtain ⟨P, g1, g2, g3⟩ := get 4 (by omega) rfl
      exact ⟨P, by simp [m_i, g1], g3 rfl, g2⟩
    · have : ¬ 3 = k := fun e' => e e'.symm
      simpa [m_i, this] using l4
  · by_cases e : k = 4
    · subst e
      obtain ⟨P, g1, g2, g3⟩ := get 20 (by omega) rfl
      exact ⟨P, by simp [m_i, g1], g3 rfl, g2⟩
    · have : ¬ 4 = k := fun e' => e e'.symm
      simpa [m_i, this] using l5
theorem st_lo : ∀ k, k < 5 → z_st 1 k = m_lo k ∧ z_st 2 k = nI (m_hi k) := by decide +kernel
theorem sp_new {B : Nat} (S S2 : zS) {G : mG} (h : c_G B S2 (g_keep G)) (hu : c_up S S2) (S3 : zS) (hf : c_fr 0 S2 S3) (A : mS) (hl : m_lim A) (h2 : ∀ j, j < 5 → S3.1 (2, 0, 0) j = A.1 25 j) (h7 : ∀ b, b < 16 → ∀ j, j < 4 → S3.1 (7, 0, b) j = A.1 27 (4 * b + j)) (r : Int32) : zGv o 970 mdX2_renew [.ref (z_adr o (1, 0, 0))] S3 (fun S' => ∃ x, some (Value.int r) = some (.int x) ∧ c_post B S (r, g_now (g_keep G) (m_new A)) x S') := by
  refine sp_renew (by omega) (z_hn (by omega)) S3 _ ⟨_, rfl, rfl, ?_, up_tr hu (up_fr (fr_renew hf))⟩
  exact G_now h (fr_renew hf) ⟨⟨0, by omega, cr_renew (by omega) S3 h2 h7⟩, al_B (al_new hl) (Nat.zero_le _)⟩ (by omega)
theorem c_sets {B : Nat} (S : zS) {G : mG} (h : c_G B S G) (x1 x2 : Int32) : zGi o 970 mdX4_sets [.ref (z_adr o (0, 0, 0)), .int x1, .int x2] S (c_post B S (g_sets G x1 x2)) := by
  have bad := sp_badR (o := o) S S h (up_rf S)
  refine w_X4_sets_0 o _ _ S _ ⟨fun hc => ?_, fun h0 => ⟨fun hc => ?_, fun h5 => ?_⟩⟩
  · have : g_sets G x1 x2 = g_bad G := by unfold g_sets; rw [cl_neg hc]
    rw [this]; exact bad
  · have : g_sets G x1 x2 = g_bad G := by unfold g_sets; rw [cl_ge (N := 5) (by omega) hc]
    rw [this]; exact bad
  · obtain ⟨k, hk, ek, ec⟩ := cl_lt (N := 5) (by omega) h0 h5
    subst ek
    rw [z_cl (by omega), (st_lo k hk).1, (st_lo k hk).2]
    refine ⟨z_in hk (by omega), fun hlo => ?_, fun hlo => ⟨z_in hk (by omega), fun hhi => ?_, fun hhi => ?_⟩⟩
    · have : g_sets G (nI k) x2 = g_bad G := by
        unfold g_sets; rw [ec]
        exact if_neg (fun hm => Int32.not_le.2 hlo hm.1)
      rw [this]; exact bad
    · have hm : m_may k x2 := ⟨Int32.not_lt.1 hlo, hhi⟩
      have : g_sets G (nI k) x2 = (G.1.1 25 k, g_now (g_keep G) (m_new (m_i G.1 25 k x2))) := by
        unfold g_sets; rw [ec]
        exact if_pos hm
      rw [this]
      refine sp_keep S h _ (fun S2 h2 u2 => ⟨z_in hk (by omega), z_in hk (by omega), ?_⟩)
      obtain ⟨⟨U, hU, hR⟩, hal⟩ := h2.1
      have ea : S2.1 (2, 0, 0) k = G.1.1 25 k := hR.1.1 k (by omega)
      rw [ea]
      refine sp_new S S2 h2 u2 _ ((c_fr_rf 0 S2).I 2 0 k _ (by omega)) (m_i G.1 25 k x2) (lim_set hal.1.1 hm) (fun j hj => ?_) (fun b hb j hj => ?_) _
      · have := hR.1.1 j hj
        by_cases e : j = k
        · subst e; simp [sI, m_i]
        · simpa [sI, m_i, e, g_keep] using this
      · have := (hR.2.1 b hb j hj).2
        simpa [sI, m_i, g_keep] using this
    · have : g_sets G (nI k) x2 = g_bad G := by
        unfold g_sets; rw [ec]
        exact if_neg (fun hm => hhi hm.2)
      rw [this]; exact bad
theorem c_anew {B : Nat} (S : zS) {G : mG} (h : c_G B S G) : zGi o 970 mdX4_anew [.ref (z_adr o (0, 0, 0))] S (c_post B S (g_anew G)) := by
  refine w_X4_anew_0 o S _ (sp_keep S h _ (fun S2 h2 u2 => ?_))
  obtain ⟨⟨U, hU, hR⟩, hal⟩ := h2.1
  have ea : S2.1 (3, 0, 0) 9 = G.1.1 40 9 := hR.1.2.1 9 (by omega)
  rw [ea]
  exact sp_new S S2 h2 u2 S2 (c_fr_rf 0 S2) G.1 hal.1.1 hR.1.1 (fun b hb j hj => (hR.2.1 b hb j hj).2) _
theorem c_load {B : Nat} (hB : B + 60000 ≤ m_BB) (S : zS) {G : mG} (h : c_G B S G) (x1 x2 : Int32) : zGi o 970 mdX4_load [.ref (z_adr o (0, 0, 0)), .int x1, .int x2] S (c_post B S (g_load G x1 x2)) := by
  have bad := sp_badR (o := o) S S h (up_rf S)
  refine w_X4_load_0 o _ _ S _ (sp_isBox x1 S _ (fun b hb e => ⟨fun hc => absurd hc (by decide), fun _ => ?_⟩) (fun hc => ⟨fun _ => ?_, fun hc => absurd rfl hc⟩))
  · subst e
    refine sp_isItem x2 S _ (fun j hj e => ⟨fun _ => ?_, fun hc => absurd hc (by decide)⟩) (fun hc => ⟨fun hc => absurd rfl hc, fun _ => ?_⟩)
    · subst e
      refine sp_keep S h _ (fun S2 h2 u2 => ⟨z_in hb (by omega), ?_⟩)
      rw [z_cl (by omega)]
      refine sp_do hB S S2 h2 u2 hb hj none (fun x hx => by cases hx) _ ?_
      unfold g_load; rw [cl_in hb (by omega), cl_in hj (by omega)]
    · have : g_load G (nI b) x2 = g_bad G := by
        unfold g_load
        rcases hc with hc | hc
        · rw [cl_neg hc, cl_in hb (by omega)]
        · rw [cl_ge (N := 4) (by omega) hc, cl_in hb (by omega)]
      rw [this]; exact bad
  · have : g_load G x1 x2 = g_bad G := by
      unfold g_load
      rcases hc with hc | hc
      · rw [cl_neg hc]
      · rw [cl_ge (N := 16) (by omega) hc]
    rw [this]; exact bad
theorem c_store {B : Nat} (hB : B + 60000 ≤ m_BB) (S : zS) {G : mG} (h : c_G B S G) (x1 x2 x3 : Int32) : zGi o 970 mdX4_store [.ref (z_adr o (0, 0, 0)), .int x1, .int x2, .int x3] S (c_post B S (g_store G x1 x2 x3)) := by
  have bad := sp_badR (o := o) S S h (up_rf S)
  refine w_X4_store_0 o _ _ _ S _ (sp_isBox x1 S _ (fun b hb e => ⟨fun hc => absurd hc (by decide), fun _ => ?_⟩) (fun hc => ⟨fun _ => ?_, fun hc => absurd rfl hc⟩))
  · subst e
    refine sp_isItem x2 S _ (fun j hj e => ⟨fun hc => absurd hc (by decide), fun _ => ⟨fun h0 => ?_, fun h0 => ⟨fun h99 => ?_, fun h99 => ?_⟩⟩⟩) (fun hc => ⟨fun _ => ?_, fun hc => absurd rfl hc⟩)
    · subst e
      have : g_store G (nI b) (nI j) x3 = g_bad G := by
        unfold g_store
        rw [cl_neg h0, cl_in hb (by omega), cl_in hj (by omega)]
      rw [this]; exact bad
    · subst e
      obtain ⟨v, hv, ev, ec⟩ := cl_le (N := 99) (by omega) h0 h99
      refine sp_keep S h _ (fun S2 h2 u2 => ⟨z_in hb (by omega), ?_⟩)
      rw [z_cl (by omega), ev]
      refine sp_do hB S S2 h2 u2 hb hj (some (nI v)) (fun x hx => ?_) _ ?_
      · simp only [Option.some.injEq] at hx
        rw [← hx]; exact nI_m1 (by omega)
      · unfold g_store; rw [cl_in hb (by omega), cl_in hj (by omega), cl_in hv (by omega)]
    · subst e
      have : g_store G (nI b) (nI j) x3 = g_bad G := by
        unfold g_store
        rw [cl_gt (N := 99) (by omega) (Int32.not_le.1 h99), cl_in hb (by omega), cl_in hj (by omega)]
      rw [this]; exact bad
    · have : g_store G (nI b) x2 x3 = g_bad G := by
        unfold g_store
        rcases hc with hc | hc
        · rw [cl_neg hc, cl_in hb (by omega)]
        · rw [cl_ge (N := 4) (by omega) hc, cl_in hb (by omega)]
      rw [this]; exact bad
  · have : g_store G x1 x2 x3 = g_bad G := by
      unfold g_store
      rcases hc with hc | hc
      · rw [cl_neg hc]
      · rw [cl_ge (N := 16) (by omega) hc]
    rw [this]; exact bad
theorem c_fence {B : Nat} (hB : B + 60000 ≤ m_BB) (S : zS) {G : mG} (h : c_G B S G) : zGi o 970 mdX4_fence [.ref (z_adr o (0, 0, 0))] S (c_post B S (g_fence G)) := by
  refine w_X4_fence_0 o S _ (sp_keep S h _ (fun S2 h2 u2 => ?_))
  unfold g_fence g_do
  exact sp_beginF (A := G.1) (by omega) (z_hn (by omega)) _ _ S2 h2.1 (z_bb hB) _ (fun S' h' f' => ⟨_, rfl, (res_1 G _).symm, G_B (by rw [res_2]; exact G_now h2 f' h' (z_le1 B)) (z_le2 B), up_tr u2 (up_fr f')⟩)
theorem c_ticks {B : Nat} (hB : B + 60000 ≤ m_BB) (S : zS) {G : mG} (h : c_G B S G) (x1 : Int32) : zGi o 970 mdX4_ticks [.ref (z_adr o (0, 0, 0)), .int x1] S (c_post B S (g_ticks G x1)) := by
  have bad := sp_badR (o := o) S S h (up_rf S)
  refine w_X4_ticks_0 o _ S _ ⟨fun h0 => ?_, fun h0 => ⟨fun h99 => ?_, fun h99 => ?_⟩⟩
  · have : g_ticks G x1 = g_bad G := by unfold g_ticks; rw [cl_neg h0]
    rw [this]; exact bad
  · obtain ⟨m, hm, em, ec⟩ := cl_le (N := 99) (by omega) h0 h99
    have : g_ticks G x1 = ((m_idle m G.1).1 40 8 - G.1.1 40 8, g_now (g_keep G) (m_idle m G.1)) := by unfold g_ticks; rw [ec]
    rw [this, em]
    refine sp_keep S h _ (fun S2 h2 u2 => ?_)
    obtain ⟨⟨U, hU, hR⟩, hal⟩ := h2.1
    have ea : S2.1 (3, 0, 0) 8 = G.1.1 40 8 := hR.1.2.1 8 (by omega)
    rw [ea]
    refine sp_pause (A := G.1) (by omega) (z_hn (by omega)) (by omega) S2 h2.1 (z_bb hB) _ (fun S' h' f' => ⟨_, rfl, ?_, G_B (G_now h2 f' h' (z_le1 B)) (z_le2 B), up_tr u2 (up_fr f')⟩)
    obtain ⟨⟨U', hU', hR'⟩, hal'⟩ := h'
    rw [hR'.1.2.1 8 (by omega)]
  · have : g_ticks G x1 = g_bad G := by unfold g_ticks; rw [cl_gt (N := 99) (by omega) (Int32.not_le.1 h99)]
    rw [this]; exact bad
end SPQ
