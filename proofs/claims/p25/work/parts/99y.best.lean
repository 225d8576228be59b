/-! THE TEXT that the law types has no FAULT -/
theorem rd_8 {t : Nat → Nat} {k : Nat} (hk : k < 8) (h : 97 ≤ t (3 * k) ∧ t (3 * k) ≤ 112 ∧ 48 ≤ t (3 * k + 1) ∧ t (3 * k + 1) ≤ 51 ∧ t (3 * k + 2) = 59) : ∃ x, m_rd t 24 (3 * k) = .inr (x, 3 * (k + 1)) := by
  obtain ⟨h1, h2, h3, h4, h5⟩ := h
  have s1 : m_sk t 24 (3 * k + 1) = 3 * k + 1 := sk_end (fun hc => by omega)
  have s3 : m_sk t 24 (3 * k + 2) = 3 * k + 2 := sk_end (fun hc => by omega)
  have s2 : m_sk t 24 (3 * k + 1 + 1) = 3 * k + 2 := s3
  refine ⟨.inr (some (t (3 * k) - 97, t (3 * k + 1) - 48, none)), ?_⟩
  unfold m_rd
  rw [if_pos ⟨h1, h2⟩]
  unfold m_rdb
  rw [s1, if_pos ⟨by omega, h3, h4⟩, s2, if_neg (fun hc => by rw [h5] at hc; omega)]
  unfold m_fin
  rw [s3, if_pos ⟨by omega, h5⟩]
  rfl
theorem text_8 {t : Nat → Nat} (h : ∀ k, k < 8 → 97 ≤ t (3 * k) ∧ t (3 * k) ≤ 112 ∧ 48 ≤ t (3 * k + 1) ∧ t (3 * k + 1) ≤ 51 ∧ t (3 * k + 2) = 59) : ∃ l, m_text t 24 = .inr l := by
  have s0 : ∀ k, k < 8 → m_sk t 24 (3 * k) = 3 * k := fun k hk => sk_end (fun hc => by have := h k hk; omega)
  have key : ∀ k, k ≤ 8 → ∀ f l, 8 - k < f → ∃ l', m_prs t 24 f (3 * k) l = .inr l' := by
    intro k hk
    refine z_down 8 (fun k => ∀ f l, 8 - k < f → ∃ l', m_prs t 24 f (3 * k) l = .inr l') ?_ ?_ k hk
    · intro f l hf
      cases f with
      | zero => omega
      | succ f =>
        refine ⟨l, ?_⟩
        show (if 24 ≤ m_sk t 24 (3 * 8) then _ else _) = _
        rw [if_pos (sk_ge t 24 (3 * 8))]
    · intro k hk ih f l hf
      cases f with
      | zero => omega
      | succ f =>
        obtain ⟨x, hx⟩ := rd_8 hk (h k hk)
        obtain ⟨l', hl'⟩ := ih f (l ++ [x]) (by omega)
        refine ⟨l', ?_⟩
        show (if 24 ≤ m_sk t 24 (3 * k) then _ else _) = _
        rw [s0 k hk, if_neg (by omega), hx]
        exact hl'
  unfold m_text
  have := s0 0 (by omega)
  rw [show m_sk t 24 0 = 0 from this, if_neg (by omega)]
  exact key 0 (by omega) 120 [] (by omega)
/-! what best() tells, run by run -/
section BE
variable {o : zW} {S : zS} {G : mG} {n : Nat}
theorem trial_eq {A A' : mS} {B f : Nat} (l : List mO) (h25 : ∀ t, t ≠ 2 → A'.1 25 t = A.1 25 t) {X : mS} (hX : X = l.foldl m_exec (m_new (m_i A' 25 2 (nI f)))) (hal : m_al B 0 X) (hB : B + 1000 < 2 ^ 30) : m_trial A l f = nI (m_T X + m_left X 4) := by
  have e : m_e (m_await 1000 X) (m_await 1000 (l.foldl m_exec (m_new (m_i A 25 2 (nI f))))) := by
    rw [hX]
    refine e_await 1000 (e_run l (e_new (fun t => ?_)))
    by_cases ht : t = 2
    · subst ht; simp [m_i]
    · simp [m_i, ht, h25 t ht]
  have h1 : m_trial A l f = (m_await 1000 X).1 40 9 := (e.1 40 9 (by omega)).symm
  rw [h1, (al_await 1000 X B hal hB).2.2.1.1, left_trial hal hB]
theorem bk_1 {A : mS} (hl : m_lim A) {l : List mO} (hok : ∀ x ∈ l, m_ook x) (h60 : l.length ≤ 60) : m_bk A l 1 = (1, m_trial A l 1) := by
  obtain ⟨T, h1, h2⟩ := trial_small hl hok h60 (f := 1) (by omega)
  show m_b1 A l (0, 2000000000) 1 = _
  unfold m_b1
  rw [h1]
  exact if_neg (fun hc => by
    have := (nI_leI (a := 2000000000) (b := T) (by omega) (by omega)).1 hc
    omega)
theorem bk_14 {A : mS} (hl : m_lim A) {l : List mO} (hok : ∀ x ∈ l, m_ook x) (h60 : l.length ≤ 60) : ∀ k, 1 ≤ k → 1 ≤ (m_bk A l k).1 ∧ (m_bk A l k).1 ≤ k := by
  intro k
  induction k with
  | zero => intro h; omega
  | succ k ih =>
    intro _
    by_cases h0 : k = 0
    · subst h0; rw [bk_1 hl hok h60]; exact ⟨Nat.le_refl _, Nat.le_refl _⟩
    · obtain ⟨i1, i2⟩ := ih (by omega)
      show 1 ≤ (m_b1 A l (m_bk A l k) (k + 1)).1 ∧ (m_b1 A l (m_bk A l k) (k + 1)).1 ≤ k + 1
      unfold m_b1
      split
      · exact ⟨i1, by omega⟩
      · exact ⟨by simp, by simp⟩
theorem L_1680 (hn : n ≤ 400) (h : c_G (60000 * n) S G) (x10 x11 x13 x14 x15 x16 : Int32)
    (hK : zG o 970 mdL_law 1746 [(1, .ref (z_adr o (0, 0, 0))), (4, .int 1), (10, .int x10), (11, .int (if x15 = 1 then x15 else if x10 ≤ x16 + nI (m_left G.1 4) then x11 else x15)), (13, .int x13), (14, .int x14), (15, .int x15), (16, .int (x16 + nI (m_left G.1 4)))] [] S m_Qf) : ∀ k, k ≤ 4 →
    zG o 970 mdL_law 1680 [(1, .ref (z_adr o (0, 0, 0))), (4, .int 1), (10, .int x10), (11, .int x11), (13, .int x13), (14, .int x14), (15, .int x15), (16, .int x16), (17, .int (nI (m_left G.1 k))), (18, .int (nI k))] [] S m_Qf := by
  intro k hk
  refine z_down 4 (fun k => zG o 970 mdL_law 1680 [(1, .ref (z_adr o (0, 0, 0))), (4, .int 1), (10, .int x10), (11, .int x11), (13, .int x13), (14, .int x14), (15, .int x15), (16, .int x16), (17, .int (nI (m_left G.1 k))), (18, .int (nI k))] [] S m_Qf) ?_ ?_ k hk
  · refine w_L_law_1680 o _ _ _ _ _ _ _ _ S _ ⟨fun _ => ⟨fun e => ?_, fun ne => ⟨fun le => ?_, fun nle => ?_⟩⟩, fun hc => absurd (by decide) hc⟩
    · rw [if_pos e] at hK; exact hK
    · rw [if_neg ne, if_pos le] at hK; exact hK
    · rw [if_neg ne, if_neg nle] at hK; exact hK
  · intro k hk ih
    have hal := h.1.2
    have hB30 : 60000 * n < 2 ^ 30 := by omega
    have h20 := left_20 hal hB30 k
    rw [nI_succ] at ih
    refine w_L_law_1680 o _ _ _ _ _ _ _ _ S _ ⟨fun hc => absurd hc (nI_ge (a := k) (b := 4) hk (by omega)), fun _ => ?_⟩
    refine d_fetch (z_nB (by omega)) h (k := k) (w := 1) (by omega) (by omega) _ ?_
    cases hf : (m_F G.1)[k]? with
    | none =>
      have e1 : m_ftv G.1 k 1 = -1 := by unfold m_ftv; rw [hf]
      have e2 : m_left G.1 (k + 1) = m_left G.1 k := by simp only [m_left, hf]
      rw [e1]
      rw [e2] at ih
      refine ⟨fun _ => w_L_law_1711 o _ _ _ _ _ _ _ _ S _ ih, fun hc => absurd ?_ hc⟩
      exact Int32.le_trans (show (-1 : Int32) ≤ nI 0 by decide) (nI_le (Nat.zero_le _) (by omega))
    | some b =>
      obtain ⟨-, -, d3, d4, d5⟩ := dd_F hal.1 hal.2.1 hal.2.2.1 hB30 (List.mem_of_getElem? hf)
      have e1 : m_ftv G.1 k 1 = nI (m_d G.1 b - m_T G.1) := by
        unfold m_ftv
        rw [hf]
        show (if (1 : Nat) = 0 then _ else if (1 : Nat) = 1 then G.1.1 30 b - G.1.1 40 9 else _) = _
        rw [if_neg (by decide), if_pos rfl, d3, hal.2.2.1.1, pk_sub (by omega)]
      have e2 : m_left G.1 (k + 1) = max (m_left G.1 k) (m_d G.1 b - m_T G.1) := by simp only [m_left, hf]
      rw [e1]
      rw [e2] at ih
      refine ⟨fun hc => w_L_law_1711 o _ _ _ _ _ _ _ _ S _ ?_, fun hc => w_L_law_1711 o _ _ _ _ _ _ _ _ S _ ?_⟩
      · have := (nI_leI (a := m_d G.1 b - m_T G.1) (b := m_left G.1 k) (by omega) (by omega)).1 hc
        rw [Nat.max_eq_left this] at ih; exact ih
      · have : m_left G.1 k ≤ m_d G.1 b - m_T G.1 := by
          rcases Nat.lt_or_ge (m_left G.1 k) (m_d G.1 b - m_T G.1) with g | g
          · omega
          · exact absurd (nI_le g (by omega)) hc
        rw [Nat.max_eq_right this] at ih; exact ih
theorem L_1639 {A : mS} (hl : m_lim A) {l : List mO} (hok : ∀ x ∈ l, m_ook x) (h60 : l.length ≤ 60) (tx : Nat → Nat) (htx : m_text tx 24 = .inr l) : ∀ k, k ≤ 4 → ∀ (n : Nat) (S : zS) (G : mG) (x10 x11 : Int32), n + 3 * (4 - k) ≤ 350 → c_G (60000 * n) S G → (∀ t, t ≠ 2 → G.1.1 25 t = A.1 25 t) → G.2.2.2 = (tx, 24) → (k = 0 ∨ (x11 = nI (m_bk A l k).1 ∧ x10 = (m_bk A l k).2)) → (k = 4 → G.1.1 25 2 = 4) →
    zG o 970 mdL_law 1639 [(1, .ref (z_adr o (0, 0, 0))), (4, .int 1), (10, .int x10), (11, .int x11), (13, .int (nI (m_bk A l 4).1)), (14, .int (m_bk A l 4).2), (15, .int (nI (k + 1)))] [] S m_Qf := by
  intro k hk
  refine z_down 4 (fun k => ∀ (n : Nat) (S : zS) (G : mG) (x10 x11 : Int32), n + 3 * (4 - k) ≤ 350 → c_G (60000 * n) S G → (∀ t, t ≠ 2 → G.1.1 25 t = A.1 25 t) → G.2.2.2 = (tx, 24) → (k = 0 ∨ (x11 = nI (m_bk A l k).1 ∧ x10 = (m_bk A l k).2)) → (k = 4 → G.1.1 25 2 = 4) →
    zG o 970 mdL_law 1639 [(1, .ref (z_adr o (0, 0, 0))), (4, .int 1), (10, .int x10), (11, .int x11), (13, .int (nI (m_bk A l 4).1)), (14, .int (m_bk A l 4).2), (15, .int (nI (k + 1)))] [] S m_Qf) ?_ ?_ k hk
  · intro n S G x10 x11 hn h h25 ht hx hF
    obtain ⟨e11, e10⟩ := hx.resolve_left (by omega)
    subst e11; subst e10
    refine w_L_law_1639 o _ _ _ _ _ S _ ⟨fun _ => ⟨fun hc => hc rfl, fun hc => hc rfl, ?_⟩, fun hc => absurd (by decide) hc⟩
    refine zGi.po (c_clear S h) (fun r S4 hr => ?_)
    obtain ⟨rfl, h4, u4⟩ := hr
    refine ⟨fun hc => hc ?_, L_1809 (n := n + 1) (by omega) (G_B h4 (z_nS n)) (hF rfl)⟩
    show nI G.2.2.2.2 = 24
    rw [ht]; rfl
  · intro k hk ih n S G x10 x11 hn h h25 ht hx _
    refine w_L_law_1639 o _ _ _ _ _ S _ ⟨fun hc => absurd hc (nI_ge (a := k + 1) (b := 5) (by omega) (by omega)), fun _ => ?_⟩
    have gs : g_sets G 2 (nI (k + 1)) = (G.1.1 25 2, g_now (g_keep G) (m_new (m_i G.1 25 2 (nI (k + 1))))) := by
      unfold g_sets
      rw [show (2 : Int32) = nI 2 from rfl, cl_in (by omega) (by omega)]
      exact if_pos ⟨nI_le (a := 1) (b := k + 1) (by omega) (by omega), nI_le (a := k + 1) (b := 4) (by omega) (by omega)⟩
    refine zGi.po (c_sets S h 2 (nI (k + 1))) (fun r S1 hr => ?_)
    rw [gs] at hr
    obtain ⟨rfl, h1, u1⟩ := hr
    have h1 := G_B h1 (z_nS n)
    refine ⟨?_, ?_⟩
    · obtain ⟨P, hP, p1, p4⟩ := h.1.2.1.1.2.2.1
      show ¬ G.1.1 25 2 < 1
      rw [hP]
      exact nI_nlt (a := P) (b := 1) (by omega) (by omega)
    generalize hG1 : g_now (g_keep G) (m_new (m_i G.1 25 2 (nI (k + 1)))) = G1 at h1
    have e1 : G1.1 = m_new (m_i G.1 25 2 (nI (k + 1))) := by subst hG1; rfl
    have e2 : G1.2.2.2 = (tx, 24) := by subst hG1; exact ht
    have gr : g_runs G1 = ((l.foldl m_exec G1.1).1 40 9 - G1.1.1 40 9, g_now (g_keep G1) (l.foldl m_exec G1.1)) := by
      unfold g_runs
      rw [e2]
      show (match m_text tx 24 with | .inl f => _ | .inr l => _) = _
      rw [htx]
    refine zGi.po (c_runs (z_nB (by omega)) S1 h1) (fun r S2 hr => ?_)
    rw [gr] at hr
    obtain ⟨rfl, h2, u2⟩ := hr
    have h2 := G_B h2 (z_nS (n + 1))
    have e0 : G1.1.1 40 9 = 0 := by rw [e1]; simp [m_new]
    generalize hG2 : g_now (g_keep G1) (l.foldl m_exec G1.1) = G2 at h2
    have g1 : G2.1 = l.foldl m_exec (m_new (m_i G.1 25 2 (nI (k + 1)))) := by subst hG2; rw [← e1]; rfl
    have g2 : G2.2.2.2 = (tx, 24) := by subst hG2; exact e2
    have hal := h2.1.2
    have htr := trial_eq (A := A) l h25 g1 hal (by omega)
    have e25 : G2.1.1 25 = (m_i G.1 25 2 (nI (k + 1))).1 25 := by
      rw [g1, run_25]
      funext t; simp [m_new]
    have ea : (l.foldl m_exec G1.1).1 40 9 - G1.1.1 40 9 = nI (m_T G2.1) := by
      rw [e0, Int32.sub_zero, e1, ← g1]; exact hal.2.2.1.1
    show zG o 970 mdL_law 1680 [(1, .ref (z_adr o (0, 0, 0))), (4, .int 1), (10, .int x10), (11, .int x11), (13, .int (nI (m_bk A l 4).1)), (14, .int (m_bk A l 4).2), (15, .int (nI (k + 1))), (16, .int ((l.foldl m_exec G1.1).1 40 9 - G1.1.1 40 9)), (17, .int (nI 0)), (18, .int (nI 0))] [] S2 m_Qf
    rw [ea]
    have e4 : k + 1 = 4 → G2.1.1 25 2 = 4 := by
      intro e
      rw [e25, e]
      simp [m_i]; rfl
    have e25' : ∀ t, t ≠ 2 → G2.1.1 25 t = A.1 25 t := by
      intro t ht2
      rw [e25, ← h25 t ht2]
      simp [m_i, ht2]
    refine L_1680 (by omega) h2 _ _ _ _ _ _ ?_ 0 (by omega)
    rw [nI_add, ← htr]
    have x15 : nI (k + 1) = 1 ↔ k = 0 := by
      have := nI_eq (a := k + 1) (b := 1) (by omega) (by omega)
      exact ⟨fun e => by have := this.1 e; omega, fun e => this.2 (by omega)⟩
    have nx : ∀ y10 y11, (y11 = nI (m_bk A l (k + 1)).1 ∧ y10 = (m_bk A l (k + 1)).2) → zG o 970 mdL_law 1768 [(1, .ref (z_adr o (0, 0, 0))), (4, .int 1), (10, .int y10), (11, .int y11), (13, .int (nI (m_bk A l 4).1)), (14, .int (m_bk A l 4).2), (15, .int (nI (k + 1)))] [] S2 m_Qf := by
      intro y10 y11 hy
      refine w_L_law_1768 o _ _ _ _ _ S2 _ ?_
      rw [← nI_succ]
      exact ih (n + 1 + 1) S2 G2 y10 y11 (by omega) h2 e25' g2 (Or.inr hy) e4
    refine w_L_law_1746 o _ _ _ _ _ _ S2 _ ⟨fun e => ?_, fun ne => ⟨fun le => ?_, fun nle => ?_⟩⟩
    · have hk0 := x15.1 e
      subst hk0
      rw [if_pos e]
      exact nx _ _ (by rw [bk_1 hl hok h60]; exact ⟨rfl, rfl⟩)
    · have hk0 : k ≠ 0 := fun e => ne (x15.2 e)
      obtain ⟨a1, a2⟩ := hx.resolve_left hk0
      rw [if_neg ne, if_pos le]
      have e : m_bk A l (k + 1) = m_bk A l k := if_pos (by rw [← a2]; exact le)
      exact nx _ _ (by rw [e]; exact ⟨a1, a2⟩)
    · have hk0 : k ≠ 0 := fun e => ne (x15.2 e)
      obtain ⟨a1, a2⟩ := hx.resolve_left hk0
      rw [if_neg ne, if_neg nle]
      have e : m_bk A l (k + 1) = (k + 1, m_trial A l (k + 1)) := if_neg (by rw [← a2]; exact nle)
      exact nx _ _ (by rw [e]; exact ⟨rfl, rfl⟩)
end BE
