section SPU
variable {o : zW}
theorem drw_1 {s : Nat} (hs : s < 2 ^ 31) : (lN s * (1103515245 : Int64) + (12345 : Int64)) - (lN s * (1103515245 : Int64) + (12345 : Int64)) / (2147483648 : Int64) * (2147483648 : Int64) = lN (m_lcg s) := by
  have e : lN s * (1103515245 : Int64) + (12345 : Int64) = lN (s * 1103515245 + 12345) := by
    rw [show (1103515245 : Int64) = lN 1103515245 from rfl, show (12345 : Int64) = lN 12345 from rfl, lN_mul, lN_add]
  rw [e, show (2147483648 : Int64) = lN 2147483648 from rfl]
  exact pk_lRem (by omega) (by omega) (by omega)
theorem lcg_lt (s : Nat) : m_lcg s < 2 ^ 31 := Nat.mod_lt _ (by omega)
theorem drw_2 {u d m : Nat} (hu : u < 2 ^ 31) (hd : 0 < d ∧ d < 2 ^ 31) (hm : 0 < m ∧ m < 2 ^ 31) : lN u / lN d - lN u / lN d / lN m * lN m = lN (u / d % m) := by
  have hdl : u / d ≤ u := Nat.div_le_self u d
  rw [pk_lDiv (by omega) hd.1 (by omega)]
  exact pk_lRem (by omega) hm.1 (by omega)
theorem lcmp_0 {a : Nat} (ha : a < 2 ^ 31) : z_lcmp (lN a) 0 = 0 ↔ a = 0 := by
  constructor
  · intro h
    rcases Nat.eq_zero_or_pos a with e | e
    · exact e
    · exfalso
      have h1 : lN 0 < lN a := (lN_lt (by omega) ha).2 e
      have h2 : ¬ lN a < lN 0 := fun hc => by have := (lN_lt ha (by omega)).1 hc; omega
      have h3 : ¬ lN a = lN 0 := fun hc => by have := (lN_eq ha (by omega)).1 hc; omega
      have h0 : (0 : Int64) = lN 0 := rfl
      rw [h0] at h
      simp [lg_cmp, h1, h2, h3] at h
  · intro h
    subst h
    decide
theorem drw_rok (s : Nat) : m_rok (m_drw s) := by
  intro b j v e
  simp only [m_drw, Option.some.injEq, Prod.mk.injEq] at e
  obtain ⟨e1, e2, e3⟩ := e
  refine ⟨by omega, by omega, fun x hx => ?_⟩
  rw [← e3] at hx
  split at hx
  · simp only [Option.some.injEq] at hx
    rw [← hx]
    exact nI_m1 (by omega)
  · cases hx
theorem z_ar5 {B B0 k n N : Nat} (h : B0 + 1000 * n ≤ N) (hB : B ≤ B0 + 1000 * k) (hk : k < n) : B + 1000 ≤ N ∧ B + 1000 ≤ B0 + 1000 * (k + 1) := by omega
theorem sp_drawL {B0 : Nat} {x : Int32} {N : Nat} (hN : N ≤ 40) (S0 : zS) (G : mG) (hB : B0 + 1000 * N ≤ m_BB) (K : Int32 → zS → Prop) : ∀ f, f ≤ N → ∀ (S : zS) (s : Nat) (A : mS) (B : Nat), s < 2 ^ 31 → c_H 0 B S A → c_fr 0 S0 S → B ≤ B0 + 1000 * (N - f) →
    (∀ S', c_H 0 (B0 + 1000 * N) S' (m_draw f s A) → c_fr 0 S0 S' → K ((m_draw f s A).1 40 9 - x) S') →
    zG o 994 mdX4_draw 50 [(0, .ref (z_adr o (0, 0, 0))), (2, .int (nI N)), (3, .int x), (4, .long (lN s)), (6, .int (nI (N - f)))] [] S (fun r S' => ∃ y, r = some (.int y) ∧ K y S') := by
  intro f
  induction f with
  | zero =>
    intro _ S s A B hs h hf hb hK
    refine w_X4_draw_50 o _ _ _ _ S _ ⟨fun _ => ⟨_, rfl, ?_⟩, fun hc => absurd (Int32.le_refl _) hc⟩
    obtain ⟨⟨U, hU, hR⟩, hal⟩ := h
    rw [hR.1.2.1 9 (by omega)]
    exact hK S (H_B ⟨⟨U, hU, hR⟩, hal⟩ hb) hf
  | succ f ih =>
    intro hf1 S s A B hs h hf hb hK
    have hk : N - (f + 1) < N := by omega
    obtain ⟨b1, b2⟩ := z_ar5 hB hb hk
    have ek : N - (f + 1) + 1 = N - f := by omega
    rw [ek] at b2
    have e1 : nI (N - (f + 1)) + 1 = nI (N - f) := by rw [← nI_succ]; exact congrArg nI ek
    refine w_X4_draw_50 o _ _ _ _ S _ ⟨fun hc => absurd hc (z_ge hk (by omega)), fun _ => ?_⟩
    rw [drw_1 hs, e1]
    have hu := lcg_lt s
    generalize hus : m_lcg s = u at hu
    rw [show (65536 : Int64) = lN 65536 from rfl, show (16 : Int64) = lN 16 from rfl, show (1024 : Int64) = lN 1024 from rfl, show (4 : Int64) = lN 4 from rfl, show (32768 : Int64) = lN 32768 from rfl, show (3 : Int64) = lN 3 from rfl, show (2048 : Int64) = lN 2048 from rfl, show (100 : Int64) = lN 100 from rfl]
    rw [drw_2 (d := 65536) (m := 16) hu (by omega) (by omega), drw_2 (d := 1024) (m := 4) hu (by omega) (by omega), drw_2 (d := 32768) (m := 3) hu (by omega) (by omega), drw_2 (d := 2048) (m := 100) hu (by omega) (by omega), lN_i, lN_i, lN_i]
    have hstep : ∀ S', c_H 0 (B + 1000) S' (m_beg 1000 A (m_drw u)) → c_fr 0 S S' → zG o 994 mdX4_draw 50 [(0, .ref (z_adr o (0, 0, 0))), (2, .int (nI N)), (3, .int x), (4, .long (lN u)), (6, .int (nI (N - f)))] [] S' (fun r S' => ∃ y, r = some (.int y) ∧ K y S') := by
      intro S' h' f'
      refine ih (by omega) S' u _ _ hu h' (hf.tr f') b2 (fun S'' h'' f'' => ?_)
      have := hK S''
      simp only [m_draw, hus] at this
      exact this h'' f''
    intro y2 ey2 y3 ey3 y4 ey4
    subst ey2 ey3 ey4
    refine ⟨fun h4 => ?_, fun h4 y14 ey14 => ?_⟩
    · have hd : m_drw u = some (u / 65536 % 16, u / 1024 % 4, none) := by
        have : ¬ u / 32768 % 3 = 0 := fun e => h4 ((lcmp_0 (by omega)).2 e)
        unfold m_drw; rw [if_neg this]
      rw [hd] at hstep
      refine sp_isBox _ S _ (fun b hb2 e => ⟨fun hc => absurd hc (by decide), fun _ => ⟨z_in (by omega) (by omega), ?_⟩⟩) (fun hc => ?_)
      · rw [z_cl (by omega)]
        exact sp_begin (by omega) (z_hn (by omega)) (by omega) (by omega) none (fun x hx => by cases hx) S h b1 _ hstep
      · exfalso
        rcases hc with hc | hc
        · exact nI_pos (by omega) hc
        · exact z_ge (a := u / 65536 % 16) (b := 16) (by omega) (by decide) hc
    · subst ey14
      have hd : m_drw u = some (u / 65536 % 16, u / 1024 % 4, some (nI (u / 2048 % 100))) := by
        have : u / 32768 % 3 = 0 := (lcmp_0 (by omega)).1 h4
        unfold m_drw; rw [if_pos this]
      rw [hd] at hstep
      refine sp_isBox _ S _ (fun b hb2 e => ⟨fun hc => absurd hc (by decide), fun _ => ⟨z_in (by omega) (by omega), ?_⟩⟩) (fun hc => ?_)
      · rw [z_cl (by omega)]
        refine sp_begin (by omega) (z_hn (by omega)) (by omega) (by omega) (some (nI (u / 2048 % 100))) (fun x hx => ?_) S h b1 _ hstep
        simp only [Option.some.injEq] at hx
        rw [← hx]
        exact nI_m1 (by omega)
      · exfalso
        rcases hc with hc | hc
        · exact nI_pos (by omega) hc
        · exact z_ge (a := u / 65536 % 16) (b := 16) (by omega) (by decide) hc
theorem c_draw {B : Nat} (hB : B + 60000 ≤ m_BB) (S : zS) {G : mG} (h : c_G B S G) (x1 x2 : Int32) : zGi o 994 mdX4_draw [.ref (z_adr o (0, 0, 0)), .int x1, .int x2] S (c_post B S (g_draw G x1 x2)) := by
  have bad := sp_badR (o := o) S S h (up_rf S)
  have nb : ∀ y1 y2, (m_cl y1 1000000 = none ∨ m_cl y2 41 = none ∨ m_cl y2 41 = some 0) → g_draw G y1 y2 = g_bad G := by
    intro y1 y2 hy
    unfold g_draw
    rcases hy with hy | hy | hy
    · rw [hy]
    · rw [hy]; cases m_cl y1 1000000 <;> rfl
    · rw [hy]; cases m_cl y1 1000000 <;> rfl
  refine w_X4_draw_0 o _ _ S _ ⟨fun c => ?_, fun c1 => ⟨fun c => ?_, fun c2 => ⟨fun c => ?_, fun c3 => ⟨fun c => ?_, fun c => ?_⟩⟩⟩⟩
  · rw [nb _ _ (Or.inl (cl_neg c))]; exact bad
  · rw [nb _ _ (Or.inl (cl_gt (N := 999999) (by omega) c))]; exact bad
  · by_cases hc : x2 < 0
    · rw [nb _ _ (Or.inr (Or.inl (cl_neg hc)))]; exact bad
    · obtain ⟨k, hk, ek⟩ := nI_of hc
      have : k = 0 := by
        rw [ek] at c
        have := (nI_ltI (b := 1) hk (by omega)).1 c
        omega
      subst this
      rw [nb _ _ (Or.inr (Or.inr (by rw [ek]; exact cl_in (by omega) (by omega))))]; exact bad
  · obtain ⟨s, hs, es, ec⟩ := cl_le (N := 999999) (by omega) c1 (Int32.not_lt.1 c2)
    obtain ⟨n, hn, en, ec2⟩ := cl_le (N := 40) (by omega) (fun hc => c3 (Int32.lt_trans hc (by decide))) c
    have hn0 : ¬ n = 0 := by
      intro e
      rw [en, e] at c3
      exact c3 (by decide)
    have gg : g_draw G x1 x2 = ((m_draw n s G.1).1 40 9 - G.1.1 40 9, g_now (g_keep G) (m_draw n s G.1)) := by
      unfold g_draw; rw [ec, ec2]; exact if_neg hn0
    rw [gg, es, en]
    refine sp_keep S h _ (fun S2 h2 u2 => ?_)
    obtain ⟨⟨U, hU, hR⟩, hal⟩ := h2.1
    have ea : S2.1 (3, 0, 0) 9 = G.1.1 40 9 := hR.1.2.1 9 (by omega)
    rw [ea, nI_l (by omega)]
    have hle : 1000 * n ≤ 60000 := by omega
    have e0 : (0 : Int32) = nI (n - n) := by rw [Nat.sub_self]; rfl
    rw [e0]
    refine sp_drawL (by omega) S2 G (Nat.le_trans (Nat.add_le_add_left hle B) hB) _ n (Nat.le_refl _) S2 s G.1 B (by omega) h2.1 (c_fr_rf 0 S2) (by omega) (fun S' h' f' => ⟨rfl, G_B (G_now h2 f' h' (Nat.le_add_right _ _)) (Nat.add_le_add_left hle B), up_tr u2 (up_fr f')⟩)
  · rw [nb _ _ (Or.inr (Or.inl (cl_gt (N := 40) (by omega) (Int32.not_le.1 c))))]; exact bad
end SPU
