theorem JJ_tick {D : Nat → Nat × Int32} {A : mS} {B : Nat} (ht : m_tb B A) (hB : B < 2 ^ 30) {qs : Nat → List mQ} (h : m_JJ D A qs) : m_JJ D (m_tick A) qs ∧ m_base (m_tick A) = m_base A := by
  obtain ⟨t1, -⟩ := m_T_tick ht hB
  obtain ⟨h1, h2, h3, h4, h5, h6⟩ := h
  have ek : ∀ k, k ≠ 40 → (m_tick A).1 k = A.1 k := by intro k hk; funext t; simp [m_tick, m_i, hk]
  have e40 : ∀ j, j ≠ 9 → (m_tick A).1 40 j = A.1 40 j := by intro j hj; simp [m_tick, m_i, hj]
  have eN : m_N (m_tick A) = m_N A := m_N_eq (e40 7 (by decide))
  have eL : m_L (m_tick A) = m_L A := m_L_eq (ek 25 (by decide))
  have eC : m_cn (m_tick A) = m_cn A := by unfold m_cn; rw [eN, ek 41 (by decide)]
  have ebase : m_base (m_tick A) = m_base A := by funext z j; unfold m_base; rw [ek 29 (by decide), ek 26 (by decide), ek 27 (by decide)]
  refine ⟨⟨?_, by rw [ebase]; exact h2, fun b hb => ?_, fun k hk => ?_, by rw [e40 8 (by decide), eC]; exact h5, ?_⟩, ebase⟩
  · intro z hz hwz j hj hbit
    rw [ek 29 (by decide)] at hwz
    rw [ek 28 (by decide)] at hbit
    rw [ek 26 (by decide), ek 27 (by decide)]; exact h1 z hz hwz j hj hbit
  · obtain ⟨b1, b2, b3⟩ := h3 b hb
    rw [ebase]
    refine ⟨b1, fun q hq => ?_, b3⟩
    obtain ⟨d1, d2, d3, d4, d5⟩ := b2 q hq
    refine ⟨d1, d2, fun e => ?_, by rw [t1]; omega, fun e => ?_⟩
    · rw [eN, ek 41 (by decide), ek 42 (by decide)]; exact d3 e
    · rw [ek 29 (by decide)] at e
      show ((m_tick A).1 30 b).toNatClampNeg ≤ _
      rw [ek 30 (by decide), eL]; exact d5 e
  · rw [eN] at hk
    obtain ⟨d1, d2, d3⟩ := h4 k hk
    refine ⟨d1, d2, ?_⟩
    rw [ek 41 (by decide), ek 42 (by decide), eL]; exact d3
  · unfold m_jw
    rw [ek 39 (by decide), eC]; exact h6
theorem JJ_pass {D : Nat → Nat × Int32} {A : mS} {B : Nat} (hal : m_al B 0 A) (hB : B < 2 ^ 30) (h : m_JJ D A (m_Q A)) (hN : m_N A < 200) : m_JJ D (m_pass A) (m_Q (m_pass A)) ∧ ∀ x, x < 16 → ∀ j, j < 4 → m_val (m_pass A) x j = m_val A x j := by
  obtain ⟨hI, hd, ht, -, -, -⟩ := hal
  obtain ⟨t1, t2⟩ := m_T_tick ht hB
  obtain ⟨k1, k2⟩ := JJ_tick ht hB h
  have key := z_pass (fun _ X => m_inv 16 X ∧ (m_JJ D X (m_Q X) ∧ ∀ x, x < 16 → ∀ j, j < 4 → m_val X x j = m_val A x j) ∧ X.1 40 9 = nI (m_T X) ∧ m_N X < 200) (fun _ X => m_inv 16 X ∧ (m_JJ D X (m_Q X) ∧ ∀ x, x < 16 → ∀ j, j < 4 → m_val X x j = m_val A x j) ∧ X.1 40 9 = nI (m_T X) ∧ m_N X < 200)
    (fun k X hk i => ⟨inv_p1 i.1 hk, ⟨(JJ_p1 i.2.1.1 k).1, fun x hx j hj => ((JJ_p1 i.2.1.1 k).2 x hx j hj).trans (i.2.1.2 x hx j hj)⟩, by rw [m_T_eq (p1_T X k).1, (p1_T X k).1]; exact i.2.2.1, by rw [m_N_eq (p1_7 X k)]; exact i.2.2.2⟩)
    (fun X i => i)
    (fun k X hk i => ⟨inv_p2 i.1 hk, ⟨(JJ_p2 i.1 i.2.1.1 hk i.2.2.1 i.2.2.2).1, fun x hx j hj => ((JJ_p2 i.1 i.2.1.1 hk i.2.2.1 i.2.2.2).2 x hx j hj).trans (i.2.1.2 x hx j hj)⟩, by rw [m_T_eq (p2_T X k).1, (p2_T X k).1]; exact i.2.2.1, by rw [m_N_eq (p2_7 X k)]; exact i.2.2.2⟩)
    A ⟨inv_tick hI, ⟨k1, fun x hx j hj => by unfold m_val; rw [k2]; rfl⟩, t2.1, by rw [m_N_eq (tick_7 A)]; exact hN⟩
  exact key.2.1
/-- one more asker -/
theorem JJ_ask {D : Nat → Nat × Int32} {A : mS} {qs : Nat → List mQ} {b j : Nat} (v : Option Int32) (h : m_JJ D A qs) (hb : b < 16) (hj : j < 4) (hx : ∀ x, v = some x → 0 ≤ x) (hN : m_N A < 200) (h7 : A.1 40 7 = nI (m_N A)) (hd : A.1 29 b = 3 → m_d A b ≤ m_T A + m_L A) (hD : v = none → D (m_N A) = (b, m_qv (m_base A b) (qs b) j)) :
    m_JJ D (if v = none then m_begun A else A) (fun x => if x = b then qs b ++ [(j, m_T A, v, m_N A)] else qs x) := by
  obtain ⟨h1, h2, h3, h4, h5, h6⟩ := h
  obtain ⟨b1, b2, b3⟩ := h3 b hb
  cases v with
  | some y =>
    rw [if_neg (by simp)]
    refine ⟨h1, h2, fun z hz => ?_, fun k hk => ?_, h5, h6⟩
    · dsimp only
      by_cases e : z = b
      · subst e
        rw [if_pos (rfl : z = z)]
        refine ⟨jq_snoc _ _ _ b1 (fun hc => by cases hc), fun q hq => ?_, List.pairwise_append.2 ⟨b3, List.pairwise_singleton _ _, fun p _ q hq e1 e2 => ?_⟩⟩
        · rcases List.mem_append.1 hq with e | e
          · exact b2 q e
          · have e' := List.mem_singleton.1 e
            subst e'
            exact ⟨hj, fun x e2 => hx x e2, (fun hc => by cases hc), Nat.le_refl _, hd⟩
        · have e' := List.mem_singleton.1 hq
          subst e'
          cases e2
      · rw [if_neg e]; exact h3 z hz
    · obtain ⟨d1, d2, d3⟩ := h4 k hk
      refine ⟨d1, d2, ?_⟩
      rcases d3 with ⟨u1, u2, p, u3, u4, u5⟩ | u
      · refine Or.inl ⟨u1, u2, p, ?_, u4, u5⟩
        show p ∈ if (D k).1 = b then _ else qs (D k).1
        split
        · rename_i e
          rw [e] at u3
          exact List.mem_append_left _ u3
        · exact u3
      · exact Or.inr u
  | none =>
    rw [if_pos rfl]
    have hDN := hD rfl
    generalize hXX : m_begun A = X
    have e7 : X.1 40 7 = A.1 40 7 + 1 := by subst hXX; simp [m_begun, m_i, hN]
    have e40 : ∀ t, t ≠ 7 → X.1 40 t = A.1 40 t := by intro t ht; subst hXX; simp [m_begun, m_i, hN, ht]
    have e41 : ∀ t, X.1 41 t = if t = m_N A then -1 else A.1 41 t := by intro t; subst hXX; simp [m_begun, m_i, hN]
    have e42 : ∀ t, X.1 42 t = if t = m_N A then -1 else A.1 42 t := by intro t; subst hXX; simp [m_begun, m_i, hN]
    have ek : ∀ k, k < 40 → X.1 k = A.1 k := by
      intro k g
      have g1 : k ≠ 40 := by omega
      have g2 : k ≠ 41 := by omega
      have g3 : k ≠ 42 := by omega
      have g4 : k ≠ 43 := by omega
      subst hXX; funext t; simp [m_begun, m_i, hN, g1, g2, g3, g4]
    have eW : m_W X = m_W A := by subst hXX; exact (begun_keep A).2.2.2.2.2.2.2.2.2.2.2.2.1
    clear hXX
    have eN : m_N X = m_N A + 1 := by
      show (X.1 40 7).toNatClampNeg = _
      rw [e7, h7, ← nI_succ, z_cl (by omega)]
    have eT : m_T X = m_T A := m_T_eq (e40 9 (by decide))
    have eL : m_L X = m_L A := m_L_eq (ek 25 (by decide))
    have ebase : m_base X = m_base A := by funext z j; unfold m_base; rw [ek 29 (by decide), ek 26 (by decide), ek 27 (by decide)]
    have eC : m_cn X = m_cn A := by
      unfold m_cn
      rw [eN, List.range_succ, List.countP_append]
      have c1 : [m_N A].countP (fun k => decide (0 ≤ X.1 41 k)) = 0 := by
        rw [List.countP_cons_of_neg (by rw [e41, if_pos (rfl : m_N A = m_N A)]; decide)]; rfl
      rw [c1, Nat.add_zero]
      refine List.countP_congr (fun k hk => ?_)
      have := List.mem_range.1 hk
      rw [e41, if_neg (by omega)]
    have eja : ∀ z p, m_ja A z p → m_ja X z p := by
      intro z p hp
      obtain ⟨d1, d2, d3, d4, d5⟩ := hp
      refine ⟨d1, d2, fun e => ?_, by rw [eT]; exact d4, fun e => ?_⟩
      · obtain ⟨k1, k2, k3⟩ := d3 e
        rw [eN, e41, e42, if_neg (by omega), if_neg (by omega)]; exact ⟨by omega, k2, k3⟩
      · rw [ek 29 (by decide)] at e
        show (X.1 30 z).toNatClampNeg ≤ _
        rw [ek 30 (by decide), eL]; exact d5 e
    refine ⟨?_, by rw [ebase]; exact h2, fun z hz => ?_, fun k hk => ?_, by rw [e40 8 (by decide), eC]; exact h5, ?_⟩
    · intro z hz hwz j hj hbit
      rw [ek 29 (by decide)] at hwz
      rw [ek 28 (by decide)] at hbit
      rw [ek 26 (by decide), ek 27 (by decide)]; exact h1 z hz hwz j hj hbit
    · dsimp only
      rw [ebase]
      by_cases e : z = b
      · subst e
        rw [if_pos (rfl : z = z)]
        refine ⟨jq_snoc _ _ _ b1 (fun _ => hDN), fun q hq => ?_, List.pairwise_append.2 ⟨b3, List.pairwise_singleton _ _, fun p hp q hq e1 e2 => ?_⟩⟩
        · rcases List.mem_append.1 hq with e | e
          · exact eja z q (b2 q e)
          · have e' := List.mem_singleton.1 e
            subst e'
            refine ⟨hj, fun x e2 => (by cases e2), fun _ => ⟨?_, ?_, ?_⟩, ?_, fun e => ?_⟩
            · rw [eN]; exact Nat.lt_succ_self _
            · rw [e41, if_pos (rfl : m_N A = m_N A)]
            · rw [e42, if_pos (rfl : m_N A = m_N A)]
            · rw [eT]; exact Nat.le_refl _
            · rw [ek 29 (by decide)] at e
              show (X.1 30 z).toNatClampNeg ≤ _
              rw [ek 30 (by decide), eL]; exact hd e
        · have e' := List.mem_singleton.1 hq
          subst e'
          have := ((b2 p hp).2.2.1 e1).1
          show p.2.2.2 ≠ m_N A
          omega
      · rw [if_neg e]
        obtain ⟨g1, g2, g3⟩ := h3 z hz
        exact ⟨g1, fun q hq => eja z q (g2 q hq), g3⟩
    · rw [eN] at hk
      by_cases e : k = m_N A
      · subst e
        unfold m_jc
        rw [e41, e42, if_pos (rfl : m_N A = m_N A), if_pos (rfl : m_N A = m_N A)]
        refine ⟨by rw [hDN]; exact hb, by rw [hDN]; exact qv_nn _ _ (h2 b hb) (fun q hq => (b2 q hq).2.1) j hj, Or.inl ⟨rfl, rfl, (j, m_T A, none, m_N A), ?_, rfl, rfl⟩⟩
        show _ ∈ if (D (m_N A)).1 = b then _ else _
        rw [if_pos (by rw [hDN])]
        exact List.mem_append_right _ (List.mem_singleton.2 rfl)
      · obtain ⟨d1, d2, d3⟩ := h4 k (by omega)
        refine ⟨d1, d2, ?_⟩
        rw [e41, e42, if_neg e, if_neg e, eL]
        rcases d3 with ⟨u1, u2, p, u3, u4, u5⟩ | u
        · refine Or.inl ⟨u1, u2, p, ?_, u4, u5⟩
          show p ∈ if (D k).1 = b then _ else qs (D k).1
          split
          · rename_i e2
            rw [e2] at u3
            exact List.mem_append_left _ u3
          · exact u3
        · exact Or.inr u
    · unfold m_jw
      rw [ek 39 (by decide), eC, eW]; exact h6
theorem base_begun (A : mS) : m_base (m_begun A) = m_base A := by
  obtain ⟨k25, k29, k28, k30, k27, k26, -⟩ := begun_keep A
  funext z j; unfold m_base; rw [k29, k26, k27]
/-- of a box that is near -/
theorem JJ_do {D : Nat → Nat × Int32} {A : mS} {b j : Nat} (v : Option Int32) (h : m_JJ D A (m_Q A)) (hb : b < 16) (hj : j < 4) (hx : ∀ x, v = some x → 0 ≤ x) (hN : m_N A < 200) (h7 : A.1 40 7 = nI (m_N A)) (hT : A.1 40 9 = nI (m_T A)) (hL : m_L A ≤ 20) (hw : A.1 29 b = 1) (hQ : m_Q A b = []) (hN2 : m_N A + 1 < 200) (hD : v = none → D (m_N A) = (b, m_val A b j)) :
    m_JJ D (m_do A b j v) (m_Q (m_do A b j v)) ∧ ∀ x, x < 16 → ∀ i, i < 4 → m_val (m_do A b j v) x i = if x = b ∧ j = i then v.getD (m_val A x i) else m_val A x i := by
  have h1 := JJ_ask v h hb hj hx hN h7 (fun e => by rw [hw] at e; exact absurd e (by decide)) hD
  have eQ := (m_do_keep A b j v).2.2.2.1
  have hdo : m_do A b j v = m_serve b (if v = none then m_begun A else A) (j, m_T A, v, m_N A) := by
    cases v with
    | some x => rw [if_neg (by simp)]; rfl
    | none => rw [if_pos rfl]; rfl
  have hY : ∀ Y : mS, Y = (if v = none then m_begun A else A) → Y.1 29 = A.1 29 ∧ Y.1 25 = A.1 25 ∧ Y.1 40 9 = A.1 40 9 ∧ m_N Y < 200 ∧ m_base Y = m_base A := by
    intro Y e
    cases v with
    | some x => rw [if_neg (by simp)] at e; subst e; exact ⟨rfl, rfl, rfl, hN, rfl⟩
    | none =>
      rw [if_pos rfl] at e
      subst e
      obtain ⟨k25, k29, k28, k30, k27, k26, k39, k40, -⟩ := begun_keep A
      refine ⟨k29, k25, k40 9 (by decide), ?_, base_begun A⟩
      have e7 : (m_begun A).1 40 7 = A.1 40 7 + 1 := by simp [m_begun, m_i, hN]
      show ((m_begun A).1 40 7).toNatClampNeg < 200
      rw [e7, h7, ← nI_succ, z_cl (by omega)]; exact hN2
  obtain ⟨y29, y25, y9, yN, yb⟩ := hY _ rfl
  generalize (if v = none then m_begun A else A) = Y at h1 hdo y29 y25 y9 yN yb
  have eT := m_T_eq y9
  have eL := m_L_eq y25
  rw [hQ, List.nil_append] at h1
  obtain ⟨s1, s2⟩ := JJ_serve (q := (j, m_T A, v, m_N A)) (l := []) h1 hb (by rw [y29]; exact hw) (by rw [if_pos (rfl : b = b)]) (by rw [y9, eT]; exact hT) (by rw [eT]; exact Nat.le_add_right _ _) (by rw [eL]; exact hL) yN
  have e : (fun x => if x = b then [] else (if x = b then [(j, m_T A, v, m_N A)] else m_Q A x)) = m_Q A := by
    funext x
    by_cases ex : x = b
    · rw [if_pos ex, ex, hQ]
    · rw [if_neg ex, if_neg ex]
  rw [e, ← hdo] at s1
  rw [← hdo] at s2
  refine ⟨by rw [eQ]; exact s1, fun x hx i hi => ?_⟩
  have s3 := s2 x hx i hi
  have e2 := congrFun e x
  rw [e2] at s3
  unfold m_val
  rw [eQ]
  refine s3.trans ?_
  rw [yb]
  by_cases ex : x = b
  · subst ex
    rw [if_pos (rfl : x = x), hQ]
    show m_u1 (m_base A x) (j, m_T A, v, m_N A) i = if x = x ∧ j = i then v.getD (m_base A x i) else m_base A x i
    cases v with
    | none =>
      show m_base A x i = _
      split <;> rfl
    | some y =>
      show (if j = i then y else m_base A x i) = _
      by_cases e3 : j = i
      · rw [if_pos e3, if_pos ⟨rfl, e3⟩]; rfl
      · rw [if_neg e3, if_neg (fun hc => e3 hc.2)]
  · rw [if_neg ex, if_neg (fun hc => ex hc.1)]
theorem begun_q (A : mS) (b : Nat) (l : List mQ) : m_begun (m_q A b l) = m_q (m_begun A) b l := by
  have e : m_N (m_q A b l) = m_N A := rfl
  simp only [m_begun]
  rw [e]
  split <;> rfl
theorem join_Q (A : mS) (b j : Nat) (v : Option Int32) : m_Q (m_join A b j v) = fun x => if x = b then m_Q A b ++ [(j, m_T A, v, m_N A)] else m_Q A x := by
  cases v with
  | some x => rfl
  | none => exact (begun_keep (m_q A b (m_Q A b ++ [(j, m_T A, none, m_N A)]))).2.2.2.2.2.2.2.2.2.2.1
theorem JJ_join {D : Nat → Nat × Int32} {A : mS} {b j : Nat} (v : Option Int32) (h : m_JJ D A (m_Q A)) (hb : b < 16) (hj : j < 4) (hx : ∀ x, v = some x → 0 ≤ x) (hN : m_N A < 200) (h7 : A.1 40 7 = nI (m_N A)) (hd : A.1 29 b = 3 → m_d A b ≤ m_T A + m_L A) (hD : v = none → D (m_N A) = (b, m_val A b j)) :
    m_JJ D (m_join A b j v) (m_Q (m_join A b j v)) ∧ ∀ x, x < 16 → ∀ i, i < 4 → m_val (m_join A b j v) x i = if x = b ∧ j = i then v.getD (m_val A x i) else m_val A x i := by
  have h1 := JJ_ask v h hb hj hx hN h7 hd hD
  have eb : m_base (m_join A b j v) = m_base A := by
    cases v with
    | some x => rfl
    | none => exact base_begun (m_q A b (m_Q A b ++ [(j, m_T A, none, m_N A)]))
  rw [join_Q]
  refine ⟨?_, fun x hx i hi => ?_⟩
  · cases v with
    | some x => rw [if_neg (by simp)] at h1; exact h1
    | none =>
      rw [if_pos rfl] at h1
      show m_JJ D (m_begun (m_q A b (m_Q A b ++ [(j, m_T A, none, m_N A)]))) _
      rw [begun_q]
      exact h1
  · unfold m_val
    rw [join_Q, eb]
    dsimp only
    by_cases ex : x = b
    · subst ex
      rw [if_pos (rfl : x = x), qv_snoc]
      cases v with
      | none =>
        show m_qv (m_base A x) (m_Q A x) i = _
        split <;> rfl
      | some y =>
        show (if j = i then y else m_qv (m_base A x) (m_Q A x) i) = _
        by_cases e3 : j = i
        · rw [if_pos e3, if_pos ⟨rfl, e3⟩]; rfl
        · rw [if_neg e3, if_neg (fun hc => e3 hc.2)]
    · rw [if_neg ex, if_neg (fun hc => ex hc.1)]
theorem JJ_tal {D : Nat → Nat × Int32} {A : mS} {w : Nat} (hw : w < 7) (p : UInt32) (h : m_JJ D A (m_Q A)) : m_JJ D (m_tal A w p) (m_Q (m_tal A w p)) ∧ ∀ x, x < 16 → ∀ j, j < 4 → m_val (m_tal A w p) x j = m_val A x j :=
  ⟨JJ_mv h (mv_tal A hw p), val_mv h.1 (mv_tal A hw p) rfl⟩
theorem JJ_go {D : Nat → Nat × Int32} {A : mS} {B b j : Nat} {v : Option Int32} (hal : m_al B 1 A) (h : m_JJ D A (m_Q A)) (hb : b < 16) (hj : j < 4) (hx : ∀ x, v = some x → 0 ≤ x) (hN : m_N A + 1 < 200) (hB : B < 2 ^ 30) (hc : m_can A (some (b, j, v)) = true) (hD : v = none → D (m_N A) = (b, m_val A b j)) :
    m_JJ D (m_go A (some (b, j, v))) (m_Q (m_go A (some (b, j, v)))) ∧ ∀ x, x < 16 → ∀ i, i < 4 → m_val (m_go A (some (b, j, v))) x i = if x = b ∧ j = i then v.getD (m_val A x i) else m_val A x i := by
  obtain ⟨hI, hd, ht, hn, -, ho⟩ := hal
  have hL := (L_20 hI.1).1
  have hT := ht.1
  have h7 := hn.1
  simp only [m_go]
  split
  · rename_i hw
    have v1 : m_mv (m_Q A) A (m_use A b) := mv_eq (fun _ _ => rfl) (fun _ _ => rfl) rfl rfl
    have hQ := hI.2.2.2.1.1 b hb (by omega) (by rw [hw]; decide)
    obtain ⟨g1, g2⟩ := JJ_do (A := m_use A b) v (JJ_mv h v1) hb hj hx (by show m_N A < 200; omega) h7 hT hL hw hQ hN hD
    obtain ⟨t1, t2⟩ := JJ_tal (w := 0) (by omega) 1069547520 g1
    exact ⟨t1, fun x hx i hi => (t2 x hx i hi).trans (g2 x hx i hi)⟩
  · rename_i hw1
    split
    · rename_i hw
      have v1 : m_mv (m_Q A) A (m_i A 39 1 (A.1 39 1 - 1)) := mv_i A (k := 39) (s := 1) _ (Or.inl ⟨rfl, by decide⟩)
      have hQ := hI.2.2.2.1.1 b hb (by omega) (by rw [hw]; decide)
      have v2 : m_mv (m_Q A) A (m_near (m_i A 39 1 (A.1 39 1 - 1)) b) := by
        refine mv_tr v1 (mv_near (fun x hx => ?_) ?_ (Or.inl ?_))
        · obtain ⟨r1, r2⟩ := row_ok hI (r := b % 4) (by omega) x hx
          exact ⟨by simpa [m_i] using r1, r2⟩
        · have : (m_i A 39 1 (A.1 39 1 - 1)).1 29 b = 2 := by simpa [m_i] using hw
          rw [this]; decide
        · simpa [m_i] using hw
      obtain ⟨nQ, nF, n25, n29, n9, n7⟩ := m_near_keep (m_i A 39 1 (A.1 39 1 - 1)) b
      have hJ := JJ_mv h v2
      obtain ⟨-, w2, -, ⟨w7, w8, w9⟩, -, -, w25, -⟩ := v2 h.1
      have eN := m_N_eq w7
      have eT := m_T_eq w9
      have eL := m_L_eq w25
      have hval := val_mv h.1 v2 nQ
      generalize m_near (m_i A 39 1 (A.1 39 1 - 1)) b = X at nQ n29 hJ w7 w9 eN eT eL hval
      have nQ' : m_Q X = m_Q A := nQ
      obtain ⟨g1, g2⟩ := JJ_do (A := X) v (by rw [nQ']; exact hJ) hb hj hx (by rw [eN]; omega) (by rw [w7, eN]; exact h7) (by rw [w9, eT]; exact hT) (by rw [eL]; exact hL) n29 (by rw [nQ']; exact hQ) (by rw [eN]; exact hN) (fun e => by rw [eN, hval b hb j hj]; exact hD e)
      obtain ⟨t1, t2⟩ := JJ_tal (w := 3) (by omega) 1074266112 g1
      refine ⟨t1, fun x hx i hi => (t2 x hx i hi).trans ((g2 x hx i hi).trans ?_)⟩
      rw [hval x hx i hi]
    · rename_i hw2
      have hdd := fun h3 : A.1 29 b = 3 => hd b hb (Or.inr h3)
      split
      · rename_i hw
        have hdL : m_d A b ≤ m_T A + m_L A := by
          have hbF := (hI.2.2.1.2.1 b).2 ⟨hb, by omega, hw⟩
          exact Nat.le_trans (Nat.le_add_right _ 1) (ho.2 b hbF)
        obtain ⟨g1, g2⟩ := JJ_join v h hb hj hx (by omega) h7 (fun _ => hdL) hD
        obtain ⟨t1, t2⟩ := JJ_tal (w := 1) (by omega) 1048576000 g1
        exact ⟨t1, fun x hx i hi => (t2 x hx i hi).trans (g2 x hx i hi)⟩
      · rename_i hw3
        have hw0 : A.1 29 b = 0 := by
          rcases (hI.2.2.2.2.1 b hb).1 with g | g | g | g
          · exact g
          · exact absurd g hw1
          · exact absurd g hw2
          · exact absurd g hw3
        have hQ := hI.2.2.2.1.1 b hb (by omega) (by rw [hw0]; decide)
        obtain ⟨L, hLe, hL1, hL20⟩ := hI.1.2.2.2.2
        have hT30 : m_T A < 2 ^ 30 := Nat.lt_of_le_of_lt ht.2 hB
        generalize hXX : m_f (m_i (m_i A 29 b 3) 30 b (A.1 40 9 + A.1 25 4)) (m_F A ++ [b]) = X
        have e29 : ∀ z, X.1 29 z = if z = b then 3 else A.1 29 z := by intro z; subst hXX; simp [m_f, m_i]
        have e30 : ∀ z, X.1 30 z = if z = b then A.1 40 9 + A.1 25 4 else A.1 30 z := by intro z; subst hXX; simp [m_f, m_i]
        have ek : ∀ k, k ≠ 29 → k ≠ 30 → X.1 k = A.1 k := by intro k g1 g2; subst hXX; funext t; simp [m_f, m_i, g1, g2]
        have eQ : m_Q X = m_Q A := by subst hXX; rfl
        have eW : m_W X = m_W A := by subst hXX; rfl
        clear hXX
        have e40 := ek 40 (by decide) (by decide)
        have v1 : m_mv (m_Q A) A X := by
          intro hn
          refine ⟨?_, fun z hz i hi => ?_, ⟨ek 41 (by decide) (by decide), ek 42 (by decide) (by decide)⟩, ⟨by rw [e40], by rw [e40], by rw [e40]⟩, by rw [ek 39 (by decide) (by decide)], eW, ek 25 (by decide) (by decide), fun z _ hz => ?_⟩
          · intro z hz hwz i hi hbit
            rw [ek 28 (by decide) (by decide)] at hbit
            rw [ek 26 (by decide) (by decide), ek 27 (by decide) (by decide)]
            rw [e29] at hwz
            by_cases e : z = b
            · rw [if_pos e] at hwz; exact absurd hwz (by decide)
            · rw [if_neg e] at hwz; exact hn z hz hwz i hi hbit
          · unfold m_base
            rw [e29, ek 26 (by decide) (by decide), ek 27 (by decide) (by decide)]
            by_cases e : z = b
            · subst e
              rw [if_pos (rfl : z = z), hw0, if_neg (show ¬ ((3 : Int32) = 1 ∨ (3 : Int32) = 2) by decide), if_neg (show ¬ ((0 : Int32) = 1 ∨ (0 : Int32) = 2) by decide)]
            · rw [if_neg e]
          · have hzb : z ≠ b := fun e => hz (by rw [e]; exact hQ)
            rw [e30, if_neg hzb, e29, if_neg hzb]
            exact ⟨rfl, id⟩
        have hJ := JJ_mv h v1
        have hval := val_mv h.1 v1 eQ
        have eN : m_N X = m_N A := m_N_eq (by rw [e40])
        have eT : m_T X = m_T A := m_T_eq (by rw [e40])
        have eL : m_L X = m_L A := m_L_eq (ek 25 (by decide) (by decide))
        have hdX : m_d X b ≤ m_T X + m_L X := by
          rw [eT, eL]
          show (X.1 30 b).toNatClampNeg ≤ m_T A + (A.1 25 4).toNatClampNeg
          rw [e30, if_pos (rfl : b = b), hT, hLe, nI_add, z_cl (by omega), z_cl (by omega)]
          exact Nat.le_refl _
        obtain ⟨g1, g2⟩ := JJ_join (A := X) v (by rw [eQ]; exact hJ) hb hj hx (by rw [eN]; omega) (by rw [eN, e40]; exact h7) (fun _ => hdX) (fun e => by rw [eN, hval b hb j hj]; exact hD e)
        obtain ⟨t1, t2⟩ := JJ_tal (w := 2) (by omega) 1083703296 g1
        refine ⟨t1, fun x hx i hi => (t2 x hx i hi).trans ((g2 x hx i hi).trans ?_)⟩
        rw [hval x hx i hi]
