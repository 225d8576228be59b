/-! THE TEXT is typed; a STATE gone back to -/
section TY
variable {o : zW}
theorem ty_ok {G : mG} {c : Nat} (hc : c < 128) (hl : G.2.2.2.2 < 120) : g_type G (nI c) = (nI (G.2.2.2.2 + 1), (G.1, G.2.1, G.2.2.1, fun k => if k = G.2.2.2.2 then c else G.2.2.2.1 k, G.2.2.2.2 + 1)) := by
  unfold g_type
  rw [cl_in hc (by omega)]
  exact if_pos hl
def m_t8 (t : Nat → Nat) (k : Nat) : Prop := 97 ≤ t (3 * k) ∧ t (3 * k) ≤ 112 ∧ 48 ≤ t (3 * k + 1) ∧ t (3 * k + 1) ≤ 51 ∧ t (3 * k + 2) = 59
theorem up_23 {S S' : zS} (h : c_up S S') (q : zK) (hq : 23 ≤ q.1) : S'.1 q = S.1 q := (h q hq).1
theorem L_1509 (hL : o.2.2.2.2.2.1 ≤ 260) {A : mS} (hl : m_lim A) {wide : Nat} (hw : 1 ≤ wide ∧ wide ≤ 16) (x10 x11 : Int32) : ∀ k, k ≤ 8 → ∀ (n : Nat) (S : zS) (G : mG), n + 3 * (8 - k) ≤ 300 → c_G (60000 * n) S G → G.1 = A → G.2.2.2.2 = 3 * k → (∀ i, i < k → m_t8 G.2.2.2.1 i) → S.1 (23, 0, 0) 13 = m_val A 3 1 →
    zG o 970 mdL_law 1509 [(0, .ref o.2.2.2.2.1), (1, .ref (z_adr o (0, 0, 0))), (2, .ref (z_adr o (23, 0, 0))), (4, .int 1), (5, .int (nI wide)), (10, .int x10), (11, .int x11), (12, .int (A.1 25 2)), (13, .int (nI k))] [] S m_Qf := by
  intro k hk
  refine z_down 8 (fun k => ∀ (n : Nat) (S : zS) (G : mG), n + 3 * (8 - k) ≤ 300 → c_G (60000 * n) S G → G.1 = A → G.2.2.2.2 = 3 * k → (∀ i, i < k → m_t8 G.2.2.2.1 i) → S.1 (23, 0, 0) 13 = m_val A 3 1 →
    zG o 970 mdL_law 1509 [(0, .ref o.2.2.2.2.1), (1, .ref (z_adr o (0, 0, 0))), (2, .ref (z_adr o (23, 0, 0))), (4, .int 1), (5, .int (nI wide)), (10, .int x10), (11, .int x11), (12, .int (A.1 25 2)), (13, .int (nI k))] [] S m_Qf) ?_ ?_ k hk
  · intro n S G hn h hA hlen ht h13
    refine w_L_law_1509 o _ _ _ _ _ S _ ⟨fun _ => ?_, fun hc => absurd (by decide) hc⟩
    obtain ⟨l, hl8⟩ := text_8 (t := G.2.2.2.1) (fun i hi => ht i hi)
    have htx : m_text G.2.2.2.1 G.2.2.2.2 = .inr l := by rw [hlen]; exact hl8
    have hok := text_ok G.2.2.2.1 24
    rw [hl8] at hok
    have hok1 : ∀ x ∈ l, m_ook x := hok.1
    have h60 : l.length ≤ 60 := by have := hok.2; omega
    have gb : ∀ w, w < 2 → g_best G (nI w) = (if w = 0 then nI (m_bk G.1 l 4).1 else (m_bk G.1 l 4).2, G) := by
      intro w hw2
      unfold g_best
      rw [cl_in hw2 (by omega), htx]
    refine zGi.po (c_best S h (nI 0)) (fun r S1 hr => ?_)
    rw [gb 0 (by omega)] at hr
    obtain ⟨rfl, h1, u1⟩ := hr
    have h1 := G_B h1 (z_nS n)
    refine zGi.po (c_best S1 h1 (nI 1)) (fun r S2 hr => ?_)
    rw [gb 1 (by omega)] at hr
    obtain ⟨rfl, h2, u2⟩ := hr
    have h2 := G_B h2 (z_nS (n + 1))
    obtain ⟨b1, b2⟩ := bk_14 hl hok1 h60 4 (by omega)
    rw [if_pos (rfl : (0 : Nat) = 0), if_neg (show ¬ (1 : Nat) = 0 by decide), hA]
    refine ⟨?_, ?_, ?_⟩
    · exact nI_ge (a := 0) (b := (m_bk A l 4).1) (by omega) (by omega)
    · exact nI_ge (a := (m_bk A l 4).1) (b := 5) (by omega) (by omega)
    · refine sp_toldN S2 h2 (k := 6) (by omega) _ ⟨fun hc => hc ?_, ?_⟩
      · show G.1.1 25 2 = A.1 25 2
        rw [hA]
      · refine d_item h2 (b := 3) (j := 1) (w := 1) (by omega) (by omega) (by omega) _ ⟨fun hc => hc ?_, ?_⟩
        · show m_val G.1 3 1 = S2.1 (23, 0, 0) 13
          rw [up_23 u2 _ (by simp), up_23 u1 _ (by simp), h13, hA]
        · refine w_L_law_1636 o _ _ _ _ S2 _ ?_
          exact L_1639 hl hok1 h60 G.2.2.2.1 hl8 0 (by omega) (n + 1 + 1) S2 G _ _ (by omega) h2 (fun t _ => by rw [hA]) (Prod.ext rfl hlen) (Or.inl rfl) (fun hc => absurd hc (by decide))
  · intro k hk ih n S G hn h hA hlen ht h13
    refine w_L_law_1509 o _ _ _ _ _ S _ ⟨fun hc => absurd hc (nI_ge (a := k) (b := 8) hk (by omega)), fun _ => ?_⟩
    rw [show (6 : Int32) + nI k = nI (6 + k) from nI_add 6 k, ← nI_succ]
    refine d_cell hL (by omega) _ ?_
    refine d_low hw.1 (by omega) _ _ ?_
    have hb := low_lt (m_cell o (6 + k) >>> ((4 : Int32) &&& 31)) hw.1
    have hj := low_lt (m_cell o (6 + k) >>> ((8 : Int32) &&& 31)) (n := 4) (by omega)
    generalize m_low (m_cell o (6 + k) >>> ((4 : Int32) &&& 31)) wide = b at hb
    rw [show (97 : Int32) + nI b = nI (97 + b) from nI_add 97 b]
    refine zGi.po (c_type S h (nI (97 + b))) (fun r S1 hr => ?_)
    rw [ty_ok (by omega) (by omega)] at hr
    obtain ⟨-, h1, u1⟩ := hr
    have h1 := G_B h1 (z_nS n)
    refine d_low (N := 4) (by omega) (by omega) _ _ ?_
    generalize m_low (m_cell o (6 + k) >>> ((8 : Int32) &&& 31)) 4 = j at hj
    rw [show (48 : Int32) + nI j = nI (48 + j) from nI_add 48 j]
    dsimp only at h1
    generalize hG1 : ((G.1, G.2.1, G.2.2.1, fun i => if i = G.2.2.2.2 then 97 + b else G.2.2.2.1 i, G.2.2.2.2 + 1) : mG) = G1 at h1
    have l1 : G1.2.2.2.2 = 3 * k + 1 := by subst hG1; show G.2.2.2.2 + 1 = _; omega
    have t1 : ∀ i, G1.2.2.2.1 i = if i = 3 * k then 97 + b else G.2.2.2.1 i := by intro i; subst hG1; show (if i = G.2.2.2.2 then _ else _) = _; rw [hlen]
    have a1 : G1.1 = A := by subst hG1; exact hA
    refine zGi.po (c_type S1 h1 (nI (48 + j))) (fun r S2 hr => ?_)
    rw [ty_ok (by omega) (by omega)] at hr
    obtain ⟨-, h2, u2⟩ := hr
    have h2 := G_B h2 (z_nS (n + 1))
    dsimp only at h2
    generalize hG2 : ((G1.1, G1.2.1, G1.2.2.1, fun i => if i = G1.2.2.2.2 then 48 + j else G1.2.2.2.1 i, G1.2.2.2.2 + 1) : mG) = G2 at h2
    have l2 : G2.2.2.2.2 = 3 * k + 2 := by subst hG2; show G1.2.2.2.2 + 1 = _; omega
    have t2 : ∀ i, G2.2.2.2.1 i = if i = 3 * k + 1 then 48 + j else G1.2.2.2.1 i := by intro i; subst hG2; show (if i = G1.2.2.2.2 then _ else _) = _; rw [l1]
    have a2 : G2.1 = A := by subst hG2; exact a1
    refine zGi.po (c_type S2 h2 (nI 59)) (fun r S3 hr => ?_)
    rw [ty_ok (by omega) (by omega)] at hr
    obtain ⟨-, h3, u3⟩ := hr
    have h3 := G_B h3 (z_nS (n + 1 + 1))
    dsimp only at h3
    generalize hG3 : ((G2.1, G2.2.1, G2.2.2.1, fun i => if i = G2.2.2.2.2 then 59 else G2.2.2.2.1 i, G2.2.2.2.2 + 1) : mG) = G3 at h3
    have l3 : G3.2.2.2.2 = 3 * (k + 1) := by subst hG3; show G2.2.2.2.2 + 1 = _; omega
    have t3 : ∀ i, G3.2.2.2.1 i = if i = 3 * k + 2 then 59 else G2.2.2.2.1 i := by intro i; subst hG3; show (if i = G2.2.2.2.2 then _ else _) = _; rw [l2]
    have a3 : G3.1 = A := by subst hG3; exact a2
    refine ih (n + 1 + 1 + 1) S3 G3 (by omega) h3 a3 l3 (fun i hi => ?_) (by rw [up_23 u3 _ (by simp), up_23 u2 _ (by simp), up_23 u1 _ (by simp)]; exact h13)
    unfold m_t8
    by_cases e : i = k
    · subst e
      have q0 : G3.2.2.2.1 (3 * i) = 97 + b := by rw [t3, if_neg (by omega), t2, if_neg (by omega), t1, if_pos rfl]
      have q1 : G3.2.2.2.1 (3 * i + 1) = 48 + j := by rw [t3, if_neg (by omega), t2, if_pos rfl]
      have q2 : G3.2.2.2.1 (3 * i + 2) = 59 := by rw [t3, if_pos rfl]
      rw [q0, q1, q2]
      omega
    · have hh := ht i (by omega)
      unfold m_t8 at hh
      have q0 : ∀ c, c < 3 → G3.2.2.2.1 (3 * i + c) = G.2.2.2.1 (3 * i + c) := by intro c hc; rw [t3, if_neg (by omega), t2, if_neg (by omega), t1, if_neg (by omega)]
      have z0 := q0 0 (by omega)
      rw [Nat.add_zero] at z0
      rw [z0, q0 1 (by omega), q0 2 (by omega)]
      exact hh
theorem L_1487 (hL : o.2.2.2.2.2.1 ≤ 260) {wide : Nat} (hw : 1 ≤ wide ∧ wide ≤ 16) {n : Nat} {S : zS} {G : mG} (hn : n ≤ 250) (h : c_G (60000 * n) S G) (h13 : S.1 (23, 0, 0) 13 = m_val G.1 3 1) :
    zG o 970 mdL_law 1487 [(0, .ref o.2.2.2.2.1), (1, .ref (z_adr o (0, 0, 0))), (2, .ref (z_adr o (23, 0, 0))), (4, .int 1), (5, .int (nI wide))] [] S m_Qf := by
  refine w_L_law_1487 o _ S _ ?_
  refine sp_toldN S h (k := 6) (by omega) _ ?_
  refine zGi.po (c_clear S h) (fun r S1 hr => ?_)
  obtain ⟨-, h1, u1⟩ := hr
  have h1 := G_B h1 (z_nS n)
  exact L_1509 hL h.1.2.1.1 hw _ _ 0 (by omega) (n + 1) S1 (g_clear G).2 (by omega) h1 rfl rfl (fun i hi => absurd hi (Nat.not_lt_zero i)) (by rw [up_23 u1 _ (by simp)]; exact h13)
end TY
