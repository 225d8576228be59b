section SPV
variable {o : zW}
theorem trial_small {A : mS} (hl : m_lim A) {l : List mO} (hok : ∀ x ∈ l, m_ook x) (h60 : l.length ≤ 60) {f : Nat} (hf : 1 ≤ f ∧ f ≤ 4) : ∃ T, m_trial A l f = nI T ∧ T ≤ 100000 := by
  have hl2 : m_lim (m_i A 25 2 (nI f)) := by
    obtain ⟨l1, l2, l3, l4, l5⟩ := hl
    refine ⟨?_, ?_, ⟨f, by simp [m_i], hf⟩, ?_, ?_⟩
    · simpa [m_i] using l1
    · simpa [m_i] using l2
    · simpa [m_i] using l4
    · simpa [m_i] using l5
  have h1 := al_run l (m_new (m_i A 25 2 (nI f))) 0 hok (al_new hl2) (by omega)
  have h2 := al_await 1000 _ _ h1 (by omega)
  exact ⟨_, h2.2.2.1.1, Nat.le_trans h2.2.2.1.2 (by omega)⟩
theorem try_e (S : zS) (i : Nat) (A : mS) (l : List mO) (f : Nat) : (m_await 1000 (l.foldl m_exec (m_new (c_try S i A f)))).1 40 9 = m_trial A l f := by
  refine (e_await 1000 (e_run l (e_new (fun t => ?_)))).1 40 9 (by omega)
  by_cases e : t = 2
  · subst e; simp [c_try, m_i]
  · simp [c_try, m_i, e]
theorem z_B1 : 0 + 1000 * 60 ≤ m_BB := by decide
theorem z_B2 {n : Nat} (h : n ≤ 60) : 0 + 1000 * n ≤ m_BB ∧ 0 + 1000 * n + 1000 ≤ m_BB := by unfold m_BB; omega
theorem sp_bestL {B : Nat} (S0 : zS) {G : mG} {l : List mO} (hok : ∀ x ∈ l, m_ook x) (h60 : l.length ≤ 60) (x1 : Int32) (K : Int32 → zS → Prop) : ∀ k, k ≤ 4 → ∀ S : zS, c_G B S G → c_ords S l → c_up S0 S →
    (∀ S', c_G B S' G → c_up S0 S' → K (if x1 = 0 then nI (m_bk G.1 l 4).1 else (m_bk G.1 l 4).2) S') →
    zG o 970 mdX4_best 43 [(0, .ref (z_adr o (0, 0, 0))), (1, .int x1), (3, .int (nI (m_bk G.1 l k).1)), (4, .int (m_bk G.1 l k).2), (5, .int (nI (k + 1)))] [] S (fun r S' => ∃ y, r = some (.int y) ∧ K y S') := by
  intro k hk
  refine z_down 4 (fun k => ∀ S : zS, c_G B S G → c_ords S l → c_up S0 S →
    (∀ S', c_G B S' G → c_up S0 S' → K (if x1 = 0 then nI (m_bk G.1 l 4).1 else (m_bk G.1 l 4).2) S') →
    zG o 970 mdX4_best 43 [(0, .ref (z_adr o (0, 0, 0))), (1, .int x1), (3, .int (nI (m_bk G.1 l k).1)), (4, .int (m_bk G.1 l k).2), (5, .int (nI (k + 1)))] [] S (fun r S' => ∃ y, r = some (.int y) ∧ K y S')) ?_ ?_ k hk
  · intro S h ho hu hK
    have hK' := hK S h hu
    refine w_X4_best_43 o _ _ _ _ S _ ⟨fun _ => ⟨fun n0 => ⟨_, rfl, ?_⟩, fun e0 => ⟨_, rfl, ?_⟩⟩, fun hc => absurd (by decide) hc⟩
    · rw [if_neg n0] at hK'; exact hK'
    · rw [if_pos e0] at hK'; exact hK'
  · intro k hk ih S h ho hu hK
    refine w_X4_best_43 o _ _ _ _ S _ ⟨fun hc => absurd hc (nI_nlt (a := 4) (b := k + 1) (by omega) (by omega)), fun _ => ?_⟩
    rw [← nI_succ]
    refine sp_startTrial (i2 := 0) (by omega) (by omega) (by omega) S h.1 (f := k + 1) (by omega) _ (fun S5 h5 f5 => ?_)
    refine sp_carryOut (by omega) S5 h5 (ords_fr ho f5) hok (z_B2 h60).1 _ (fun S8 h8 f8 => ?_)
    refine sp_await (by omega) (z_hn (by omega)) S8 h8 (z_B2 h60).2 _ (fun S11 h11 f11 => ?_)
    have fr : c_fr 1 S S11 := (f5.tr f8).tr f11
    have hG := G_try h fr
    have hO := ords_fr ho fr
    have hU := up_tr hu (up_fr fr)
    obtain ⟨⟨U, -, hR⟩, -⟩ := h11
    have e9 : S11.1 (3, 1, 0) 9 = m_trial G.1 l (k + 1) := (hR.1.2.1 9 (by omega)).trans (try_e S 1 G.1 l (k + 1))
    rw [e9]
    refine ⟨fun hle => ?_, fun hgt => ?_⟩
    · have e : m_bk G.1 l (k + 1) = m_bk G.1 l k := if_pos hle
      have := ih S11 hG hO hU hK
      rw [e] at this; exact this
    · have e : m_bk G.1 l (k + 1) = (k + 1, m_trial G.1 l (k + 1)) := if_neg hgt
      have := ih S11 hG hO hU hK
      rw [e] at this; exact this
theorem c_best {B : Nat} (S : zS) {G : mG} (h : c_G B S G) (x1 : Int32) : zGi o 970 mdX4_best [.ref (z_adr o (0, 0, 0)), .int x1] S (c_post B S (g_best G x1)) := by
  have bad := sp_badR (o := o) S S h (up_rf S)
  have hok := text_ok G.2.2.2.1 G.2.2.2.2
  have h120 := h.2.2.2.2.1
  refine w_X4_best_0 o _ S _ ⟨fun h0 => ?_, fun h0 => ⟨fun h1 => ?_, fun h1 => ?_⟩⟩
  · have : g_best G x1 = g_bad G := by unfold g_best; rw [cl_neg h0]
    rw [this]; exact bad
  · obtain ⟨w, hw, ew, ec⟩ := cl_le (N := 1) (by omega) h0 h1
    refine sp_readOrders S h.2.2.2 _ (fun S2 f2 => ?_)
    have h2 := G_ft h f2
    cases ht : m_text G.2.2.2.1 G.2.2.2.2 with
    | inl e =>
      rw [ht] at hok
      refine ⟨fun hc => absurd hc (nI_m1 (by simp only at hok; omega)), fun _ => ⟨_, rfl, ?_, ?_, up_ft f2⟩⟩
      · unfold g_best; rw [ec, ht]
      · have : (g_best G x1).2 = G := by unfold g_best; rw [ec, ht]
        rw [this]; exact G_B h2 (z_le3 B)
    | inr l =>
      rw [ht] at hok
      simp only at hok
      intro ho
      refine ⟨fun _ => ?_, fun hc => absurd rfl hc⟩
      have gg : g_best G x1 = (if w = 0 then nI (m_bk G.1 l 4).1 else (m_bk G.1 l 4).2, G) := by unfold g_best; rw [ec, ht]
      rw [gg]
      refine sp_bestL S hok.1 (by have := hok.2; omega) x1 _ 0 (by omega) S2 h2 ho (up_ft f2) (fun S' h' u' => ⟨?_, G_B h' (z_le3 B), u'⟩)
      have : x1 = 0 ↔ w = 0 := by rw [ew]; exact nI_eq (b := 0) (by omega) (by omega)
      simp only [this]
  · have : g_best G x1 = g_bad G := by unfold g_best; rw [cl_gt (N := 1) (by omega) (Int32.not_le.1 h1)]
    rw [this]; exact bad
end SPV
