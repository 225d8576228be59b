/-! a STATE gone back to; what the LOADS got -/
section GO
variable {o : zW} {S : zS} {G : mG} {D : Nat → Nat × Int32} {V : Nat → Nat → Int32} {N n wide : Nat} {s : Int32}
theorem gst {b j v : Nat} (hb : b < 16) (hj : j < 4) (hv : v < 100) : g_store G (nI b) (nI j) (nI v) = g_do G (some (b, j, some (nI v))) := by
  unfold g_store
  rw [cl_in hb (by omega), cl_in hj (by omega), cl_in hv (by omega)]
theorem gld {b j : Nat} (hb : b < 16) (hj : j < 4) : g_load G (nI b) (nI j) = g_do G (some (b, j, none)) := by
  unfold g_load
  rw [cl_in hb (by omega), cl_in hj (by omega)]
/-- a step of the law on the class -/
theorem st_do {B b j : Nat} {v : Option Int32} {A : mS} (hal : m_al B 0 A) (hB : B + 60000 ≤ m_BB) (hst : m_st 0 D V N s A) (hb : b < 16) (hj : j < 4) (hx : ∀ x, v = some x → 0 ≤ x) (hN : N + 1 < 200) (hD : v = none → D N = (b, V b j)) :
    m_st 0 D (fun x i => if x = b ∧ j = i then v.getD (V x i) else V x i) (if v = none then N + 1 else N) (s + 1) (m_beg 1000 A (some (b, j, v))) ∧ m_T A < m_T (m_beg 1000 A (some (b, j, v))) ∧ (v = none → (m_beg 1000 A (some (b, j, v))).1 43 N = (m_beg 1000 A (some (b, j, v))).1 40 9) := by
  unfold m_BB at hB
  have := st_beg hb hj hx hN hD 999 A B (m_T A + 20) hal (live_0 hal.2.1 hal.2.2.1 (by omega)) (by omega) (by omega) hst
  rw [show 999 + 1 = 1000 from rfl] at this
  exact this
theorem L_1392 (hL : o.2.2.2.2.2.1 ≤ 260) (hw : 1 ≤ wide ∧ wide ≤ 16) (hn : n ≤ 200) (h : c_G (60000 * n) S G) (hst : m_st 0 D V N s G.1) (hN : N + 1 < 200) (h13 : S.1 (23, 0, 0) 13 = m_val G.1 3 1) :
    zG o 970 mdL_law 1392 [(0, .ref o.2.2.2.2.1), (1, .ref (z_adr o (0, 0, 0))), (2, .ref (z_adr o (23, 0, 0))), (4, .int 1), (5, .int (nI wide)), (7, .int s)] [] S m_Qf := by
  refine w_L_law_1392 o _ _ S _ ?_
  refine sp_toldN S h (k := 9) (by omega) _ ?_
  have e9 : m_tld G 9 = nI G.2.1.length := rfl
  rw [e9]
  have hlen := h.2.1.1
  obtain ⟨X, hX⟩ : ∃ X, X = m_beg 1000 G.1 (some (3, 1, some (nI 77))) := ⟨_, rfl⟩
  have hT : m_T G.1 < m_T X := by
    rw [hX]
    exact (st_do h.1.2 (z_nB (by omega)) hst (by omega) (by omega) (fun x hx => by cases hx; decide) hN (fun hc => by cases hc)).2.1
  have gs : g_store G (nI 3) (nI 1) (nI 77) = g_res G X := by
    rw [gst (by omega) (by omega) (by omega), hX]; rfl
  clear hX
  refine zGi.po (c_store (z_nB (by omega)) S h (nI 3) (nI 1) (nI 77)) (fun r S1 hr => ?_)
  rw [gs] at hr
  obtain ⟨hr1, h1, u1⟩ := hr
  rw [res_1] at hr1
  rw [res_2] at h1
  have h1 := G_B h1 (z_nS n)
  have hal : m_al (60000 * (n + 1)) 0 X := h1.1.2
  have hTb := hal.2.2.1.2
  subst hr1
  refine ⟨?_, ?_⟩
  · rw [hal.2.2.1.1]
    exact nI_ge (a := 0) (b := m_T X) (by omega) (by omega)
  have gb : g_back (g_now (g_keep G) X) = (nI (G.2.1.take 5).length, (G.1, G.2.1.take 5, G.2.2)) := rfl
  refine zGi.po (c_back S1 h1) (fun r S2 hr => ?_)
  rw [gb] at hr
  obtain ⟨rfl, h2, u2⟩ := hr
  have h2 := G_B h2 (z_nS (n + 1))
  dsimp only at h2
  have hs : G.1.1 40 0 + G.1.1 40 1 + G.1.1 40 2 + G.1.1 40 3 = s := hst.2.2.2.1
  have e13 : S2.1 (23, 0, 0) 13 = m_val G.1 3 1 := by rw [up_23 u2 _ (by simp), up_23 u1 _ (by simp)]; exact h13
  have fin := L_1487 hL hw (n := n + 1 + 1) (by omega) h2 e13
  refine ⟨fun hne => ⟨fun hc => hc ?_, ?_⟩, fun he => ⟨fun hc => hc ?_, ?_⟩⟩
  · have : G.2.1.length < 6 := by
      rcases Nat.lt_or_ge G.2.1.length 6 with g | g
      · exact g
      · exact absurd (show nI G.2.1.length = 6 by rw [show G.2.1.length = 6 by omega]; rfl) hne
    show nI (G.2.1.take 5).length = nI G.2.1.length - 0
    rw [Int32.sub_zero, List.length_take, Nat.min_eq_right (by omega)]
  · refine d_often h2 (k := 0) (by omega) _ ?_
    refine d_often h2 (k := 1) (by omega) _ ?_
    refine d_often h2 (k := 2) (by omega) _ ?_
    refine d_often h2 (k := 3) (by omega) _ ⟨fun hc => hc hs, ?_⟩
    exact d_item h2 (b := 3) (j := 1) (w := 1) (by omega) (by omega) (by omega) _ ⟨fun hc => hc e13.symm, fin⟩
  · have : G.2.1.length = 6 := (nI_eq (a := G.2.1.length) (b := 6) (by omega) (by omega)).1 he
    show nI (G.2.1.take 5).length = nI G.2.1.length - 1
    rw [List.length_take, this]; rfl
  · refine d_often h2 (k := 0) (by omega) _ ?_
    refine d_often h2 (k := 1) (by omega) _ ?_
    refine d_often h2 (k := 2) (by omega) _ ?_
    refine d_often h2 (k := 3) (by omega) _ ⟨fun hc => hc hs, ?_⟩
    exact d_item h2 (b := 3) (j := 1) (w := 1) (by omega) (by omega) (by omega) _ ⟨fun hc => hc e13.symm, fin⟩
/-- how many of the first k LOADS got theirs -/
def m_ck (A : mS) (k : Nat) : Nat := (List.range k).countP (fun i => decide (0 ≤ A.1 41 i))
theorem ck_succ (A : mS) (k : Nat) : m_ck A (k + 1) = m_ck A k + if 0 ≤ A.1 41 k then 1 else 0 := by
  unfold m_ck
  rw [List.range_succ, List.countP_append, List.countP_singleton]
  simp only [decide_eq_true_eq]
theorem ck_le (A : mS) (k : Nat) : m_ck A k ≤ k := by
  have := List.countP_le_length (p := fun i => decide (0 ≤ A.1 41 i)) (l := List.range k)
  simpa [m_ck] using this
theorem cok_nn {x : UInt32} (h : m_cok x) : ¬ x.toInt32 < 0 := by
  unfold m_cok at h
  rw [u_i32]
  exact nI_pos (by omega)
theorem L_1209 (hL : o.2.2.2.2.2.1 ≤ 260) (hw : 1 ≤ wide ∧ wide ≤ 16) (hn : n ≤ 200) (h : c_G (60000 * n) S G) (hst : m_st 0 D V N s G.1) (hN : N < 51) (h13 : S.1 (23, 0, 0) 13 = m_val G.1 3 1) (hdue : ∀ k, k < N → S.1 (24, 0, 0) k = (D k).2) : ∀ k, k ≤ N →
    zG o 970 mdL_law 1209 [(0, .ref o.2.2.2.2.1), (1, .ref (z_adr o (0, 0, 0))), (2, .ref (z_adr o (23, 0, 0))), (3, .ref (z_adr o (24, 0, 0))), (4, .int 1), (5, .int (nI wide)), (6, .int (nI N)), (7, .int s), (8, .int (nI (m_ck G.1 k))), (9, .int (nI k))] [] S m_Qf := by
  have hB := z_nB (n := n) (by omega)
  have hJ := hst.1
  have hNN := hst.2.2.1
  have e8 : G.1.1 40 8 = nI (m_ck G.1 N) := by
    have := hJ.2.2.2.2.1
    unfold m_cn at this
    rw [hNN] at this
    exact this
  have hmin : ∀ k, k < min (m_N G.1) 200 ↔ k < N := by intro k; rw [hNN]; omega
  have fin : zG o 970 mdL_law 1392 [(0, .ref o.2.2.2.2.1), (1, .ref (z_adr o (0, 0, 0))), (2, .ref (z_adr o (23, 0, 0))), (4, .int 1), (5, .int (nI wide)), (7, .int s)] [] S m_Qf := L_1392 hL hw hn h hst (by omega) h13
  have hcost : ¬ (m_cf G.1 0).toInt32 < 0 := cok_nn h.1.2.1.2.2.2.2.2.2
  intro k hk
  refine z_down N (fun k => zG o 970 mdL_law 1209 [(0, .ref o.2.2.2.2.1), (1, .ref (z_adr o (0, 0, 0))), (2, .ref (z_adr o (23, 0, 0))), (3, .ref (z_adr o (24, 0, 0))), (4, .int 1), (5, .int (nI wide)), (6, .int (nI N)), (7, .int s), (8, .int (nI (m_ck G.1 k))), (9, .int (nI k))] [] S m_Qf) ?_ ?_ k hk
  · have hc51 : m_ck G.1 N ≤ N := ck_le G.1 N
    refine w_L_law_1209 o _ _ _ _ _ S _ ⟨fun _ => ?_, fun hc => absurd (Int32.le_refl _) hc⟩
    refine d_often h (k := 8) (by omega) _ ⟨fun hc => hc e8.symm, ?_⟩
    refine d_got hB h (k := N) (w := 0) (by omega) (by omega) _ ⟨fun hc => hc ?_, fun hne => ?_, fun he => ?_⟩
    · rw [if_neg (fun hc => absurd ((hmin N).1 hc) (Nat.lt_irrefl N))]
    · refine sp_costN hB S h (w := 2) (by omega) _ ?_
      refine sp_costN hB S h (w := 1) (by omega) _ ⟨?_, ?_⟩
      · obtain ⟨m, x, m1, m2, m3, m4⟩ := hJ.2.2.2.2.2
        have hcn : m_cn G.1 = m_ck G.1 N := by unfold m_cn m_ck; rw [hNN]
        rw [hcn] at m4
        have hne8 : ¬ G.1.1 40 8 = 0 := by rw [e8]; exact hne
        have hpos : 1 ≤ m_ck G.1 N := by
          rcases Nat.eq_zero_or_pos (m_ck G.1 N) with g | g
          · exact absurd (by rw [g]; rfl) hne
          · exact g
        have c1 : m_cf G.1 1 = FP.fdiv (FP.l2f (Int64.ofNat x)) (FP.i2f (nI (m_ck G.1 N))) := by
          unfold m_cf
          rw [if_neg (by decide), if_pos rfl, if_neg hne8, m3, e8]
        have c2 : m_cf G.1 2 = FP.i2f (nI m) := by
          unfold m_cf
          rw [if_neg (by decide), if_neg (by decide), m1]
        rw [c1, c2]
        exact u_le (mean_le hpos (by omega) m2 m4) (mn_i m (by omega)).1
      · exact sp_costN hB S h (w := 0) (by omega) _ ⟨hcost, fin⟩
    · have he8 : G.1.1 40 8 = 0 := by rw [e8]; exact he
      have c1 : m_cf G.1 1 = 0 := by
        unfold m_cf
        rw [if_neg (by decide), if_pos rfl, if_pos he8]
      have cd : m_de G.1 = 0 := by unfold m_de; rw [if_pos he8]
      refine sp_costN hB S h (w := 1) (by omega) _ ⟨fun hc => hc (by rw [c1]; rfl), ?_⟩
      refine sp_evenN hB S h _ ⟨fun hc => hc (by rw [cd]; decide), ?_⟩
      exact sp_costN hB S h (w := 0) (by omega) _ ⟨hcost, fin⟩
  · intro k hk ih
    have hck := ck_succ G.1 k
    obtain ⟨j1, j2, j3⟩ := hJ.2.2.2.1 k (by rw [hNN]; exact hk)
    have nx : ∀ x8, x8 = nI (m_ck G.1 (k + 1)) → zG o 970 mdL_law 1306 [(0, .ref o.2.2.2.2.1), (1, .ref (z_adr o (0, 0, 0))), (2, .ref (z_adr o (23, 0, 0))), (3, .ref (z_adr o (24, 0, 0))), (4, .int 1), (5, .int (nI wide)), (6, .int (nI N)), (7, .int s), (8, .int x8), (9, .int (nI k))] [] S m_Qf := by
      intro x8 e
      subst e
      refine w_L_law_1306 o _ _ _ _ _ S _ ?_
      rw [← nI_succ]
      exact ih
    refine w_L_law_1209 o _ _ _ _ _ S _ ⟨fun hc => absurd hc (nI_ge (a := k) (b := N) hk (by omega)), fun _ => ?_⟩
    refine d_got hB h (k := k) (w := 0) (by omega) (by omega) _ ?_
    refine d_got hB h (k := k) (w := 1) (by omega) (by omega) _ ?_
    rw [if_pos ((hmin k).2 hk), if_pos ((hmin k).2 hk)]
    rcases j3 with ⟨a1, a2, -⟩ | ⟨a1, w, a2, a3⟩
    · rw [show G.1.1 (41 + 0) k = -1 from a1, show G.1.1 (41 + 1) k = -1 from a2]
      have e1 : m_ck G.1 (k + 1) = m_ck G.1 k := by rw [hck, a1, if_neg (by decide)]; rfl
      refine ⟨fun _ => ?_, fun hc => absurd (by decide) hc⟩
      refine w_L_law_1254 o _ _ _ _ _ _ _ S _ ⟨fun hc => absurd rfl hc, fun _ => ⟨fun hc => hc rfl, nx _ ?_⟩⟩
      rw [e1, Int32.add_zero]
    · rw [show G.1.1 (41 + 0) k = (D k).2 from a1, show G.1.1 (41 + 1) k = nI w from a2]
      have e1 : m_ck G.1 (k + 1) = m_ck G.1 k + 1 := by rw [hck, a1, if_pos j2]
      refine ⟨fun hc => absurd j2 (Int32.not_le.2 hc), fun _ => ?_⟩
      refine w_L_law_1254 o _ _ _ _ _ _ _ S _ ⟨fun _ => ⟨z_in (by omega) (by omega), fun hc => hc ?_, nI_pos ?_, ?_⟩, fun hc => ?_⟩
      · rw [z_cl (by omega), hdue k hk]
      · have := (L_20 h.1.2.1.1).1; omega
      · refine sp_toldN S h (k := 8) (by omega) _ ⟨?_, nx _ ?_⟩
        · have h20 := (L_20 h.1.2.1.1).1
          obtain ⟨-, -, -, -, L, hLe, -, hL20⟩ := h.1.2.1.1
          have e8 : m_tld G 8 = nI L := hLe
          rw [e8]
          have : m_L G.1 = L := by show (G.1.1 25 4).toNatClampNeg = L; rw [hLe, z_cl (by omega)]
          exact nI_nlt (a := L) (b := w) (by omega) (by omega)
        · rw [e1, nI_succ]
      · exact absurd j2 (by rw [hc]; decide)
end GO
