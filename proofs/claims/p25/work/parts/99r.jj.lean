/-! an asker is served -/
theorem JJ_serve {D : Nat → Nat × Int32} {A : mS} {qs : Nat → List mQ} {b : Nat} {q : mQ} {l : List mQ} (h : m_JJ D A qs) (hb : b < 16) (hw : A.1 29 b = 1) (hq : qs b = q :: l) (hT : A.1 40 9 = nI (m_T A)) (hwait : m_T A ≤ q.2.1 + m_L A) (hL : m_L A ≤ 20) (hN : m_N A < 200) :
    m_JJ D (m_serve b A q) (fun x => if x = b then l else qs x) ∧ ∀ x, x < 16 → ∀ j, j < 4 → m_qv (m_base (m_serve b A q) x) (if x = b then l else qs x) j = m_qv (m_base A x) (qs x) j := by
  obtain ⟨h1, h2, h3, h4, h5, h6⟩ := h
  obtain ⟨b1, b2, b3⟩ := h3 b hb
  rw [hq] at b1 b2 b3
  obtain ⟨c1, c2, c3, c4, c5⟩ := b2 q List.mem_cons_self
  obtain ⟨p1, p2⟩ := List.pairwise_cons.1 b3
  cases hv : q.2.2.1 with
  | some v =>
    have hX : m_serve b A q = m_lay A b q.1 v := by unfold m_serve; rw [hv]
    rw [hX]
    generalize hXX : m_lay A b q.1 v = X
    have e27 : ∀ z j, j < 4 → X.1 27 (4 * z + j) = if z = b ∧ j = q.1 then v else A.1 27 (4 * z + j) := by
      intro z j hj
      have : 4 * z + j = 4 * b + q.1 ↔ z = b ∧ j = q.1 := by omega
      subst hXX; simp [m_lay, m_i, this]
    have e28 : ∀ z, X.1 28 z = if z = b then A.1 28 b ||| (1 : Int32) <<< (nI q.1 &&& 31) else A.1 28 z := by
      intro z; subst hXX; simp [m_lay, m_i]
    have ek : ∀ k, k ≠ 27 → k ≠ 28 → X.1 k = A.1 k := by intro k g1 g2; subst hXX; funext t; simp [m_lay, m_i, g1, g2]
    have e2 : X.2 = A.2 := by subst hXX; rfl
    clear hXX hX
    have e26 := ek 26 (by decide) (by decide)
    have e29 := ek 29 (by decide) (by decide)
    have e40 := ek 40 (by decide) (by decide)
    have e41 := ek 41 (by decide) (by decide)
    have e42 := ek 42 (by decide) (by decide)
    have eN : m_N X = m_N A := m_N_eq (by rw [e40])
    have eT : m_T X = m_T A := m_T_eq (by rw [e40])
    have eL : m_L X = m_L A := m_L_eq (ek 25 (by decide) (by decide))
    have eC : m_cn X = m_cn A := by unfold m_cn; rw [eN, e41]
    have ebase : ∀ z, ∀ j, j < 4 → m_base X z j = if z = b then m_u1 (m_base A b) q j else m_base A z j := by
      intro z j hj
      by_cases e : z = b
      · subst e
        rw [if_pos (rfl : z = z)]
        unfold m_u1
        rw [hv]
        show m_base X z j = if q.1 = j then v else m_base A z j
        unfold m_base
        rw [e29, hw, if_pos (show (1 : Int32) = 1 ∨ (1 : Int32) = 2 by decide), if_pos (show (1 : Int32) = 1 ∨ (1 : Int32) = 2 by decide), e27 z j hj]
        by_cases e3 : q.1 = j
        · rw [if_pos e3, if_pos ⟨rfl, e3.symm⟩]
        · rw [if_neg e3, if_neg (fun hc => e3 hc.2.symm)]
      · rw [if_neg e]
        unfold m_base
        rw [e29, e26, e27 z j hj, if_neg (show ¬ (z = b ∧ j = q.1) from fun hc => e hc.1)]
    have eja : ∀ z p, m_ja A z p → m_ja X z p := by
      intro z p hp
      obtain ⟨d1, d2, d3, d4, d5⟩ := hp
      refine ⟨d1, d2, fun e => ?_, by rw [eT]; exact d4, fun e => ?_⟩
      · rw [eN, e41, e42]; exact d3 e
      · rw [e29] at e
        show (X.1 30 z).toNatClampNeg ≤ _
        rw [ek 30 (by decide) (by decide), eL]; exact d5 e
    refine ⟨⟨?_, fun z hz j hj => ?_, fun z hz => ?_, fun k hk => ?_, by rw [e40, eC]; exact h5, ?_⟩, fun z hz j hj => ?_⟩
    · intro z hz hwz j hj hbit
      rw [e29] at hwz
      rw [e28] at hbit
      rw [e26, e27 z j hj]
      by_cases e : z = b
      · subst e
        rw [if_pos (rfl : z = z)] at hbit
        by_cases e3 : j = q.1
        · subst e3; exact absurd (bit_set _ hj) hbit
        · rw [if_neg (fun hc => e3 hc.2)]
          rw [bit_oth _ c1 hj (Ne.symm e3)] at hbit
          exact h1 z hz hwz j hj hbit
      · rw [if_neg e] at hbit
        rw [if_neg (fun hc => e hc.1)]
        exact h1 z hz hwz j hj hbit
    · rw [ebase z j hj]
      split
      · unfold m_u1
        rw [hv]
        show 0 ≤ if q.1 = j then v else m_base A b j
        split
        · exact c2 v hv
        · exact h2 b hb j hj
      · exact h2 z hz j hj
    · dsimp only
      by_cases e : z = b
      · subst e
        rw [if_pos (rfl : z = z)]
        refine ⟨jq_congr l (fun j hj => ?_) (fun p hp => (b2 p (List.mem_cons_of_mem _ hp)).1) b1.2, fun p hp => eja z p (b2 p (List.mem_cons_of_mem _ hp)), p2⟩
        rw [ebase z j hj, if_pos (rfl : z = z)]
      · rw [if_neg e]
        obtain ⟨g1, g2, g3⟩ := h3 z hz
        refine ⟨jq_congr (qs z) (fun j hj => ?_) (fun p hp => (g2 p hp).1) g1, fun p hp => eja z p (g2 p hp), g3⟩
        rw [ebase z j hj, if_neg e]
    · rw [eN] at hk
      obtain ⟨d1, d2, d3⟩ := h4 k hk
      refine ⟨d1, d2, ?_⟩
      rw [e41, e42, eL]
      rcases d3 with ⟨u1, u2, p, u3, u4, u5⟩ | u
      · refine Or.inl ⟨u1, u2, p, ?_, u4, u5⟩
        show p ∈ if (D k).1 = b then l else qs (D k).1
        split
        · rename_i e
          rw [e, hq] at u3
          rcases List.mem_cons.1 u3 with e3 | e3
          · rw [e3, hv] at u4; cases u4
          · exact e3
        · exact u3
      · exact Or.inr u
    · unfold m_jw
      rw [ek 39 (by decide) (by decide), eC]
      show ∃ m s, A.1 39 2 = nI m ∧ m ≤ 20 ∧ X.2.2.2.2.1 = Int64.ofNat s ∧ s ≤ m * m_cn A
      rw [e2]; exact h6
    · by_cases e : z = b
      · subst e
        rw [if_pos (rfl : z = z), hq]
        show _ = m_qv (m_u1 (m_base A z) q) l j
        exact qv_congr l (fun i hi => by rw [ebase z i hi, if_pos (rfl : z = z)]) j hj
      · rw [if_neg e]
        exact qv_congr _ (fun i hi => by rw [ebase z i hi, if_neg e]) j hj
  | none =>
    obtain ⟨k1, k2, k3⟩ := c3 hv
    have hX : m_serve b A q = m_gets A q.2.2.2 b q.1 q.2.1 := by unfold m_serve; rw [hv]
    have hk200 : q.2.2.2 < 200 := by omega
    have hw20 : m_T A - q.2.1 ≤ m_L A := by omega
    have ew : A.1 40 9 - nI q.2.1 = nI (m_T A - q.2.1) := by rw [hT]; exact pk_sub c4
    have hd1 := b1.1 hv
    rw [hX]
    generalize hXX : m_gets A q.2.2.2 b q.1 q.2.1 = X
    generalize hkk : q.2.2.2 = kk at *
    generalize hww : m_T A - q.2.1 = w at *
    have e41 : ∀ t, X.1 41 t = if t = kk then A.1 27 (4 * b + q.1) else A.1 41 t := by intro t; subst hXX; simp [m_gets, m_i, m_wx, hk200]
    have e42 : ∀ t, X.1 42 t = if t = kk then nI w else A.1 42 t := by intro t; subst hXX; simp [m_gets, m_i, m_wx, hk200, ew]
    have e408 : X.1 40 8 = A.1 40 8 + 1 := by subst hXX; simp [m_gets, m_i, m_wx, hk200]
    have e40 : ∀ t, t ≠ 8 → X.1 40 t = A.1 40 t := by intro t ht; subst hXX; simp [m_gets, m_i, m_wx, hk200, ht]
    have e39 : X.1 39 2 = if A.1 39 2 < nI w then nI w else A.1 39 2 := by subst hXX; simp [m_gets, m_i, m_wx, hk200, ew]
    have ek : ∀ k, k < 39 → X.1 k = A.1 k := by
      intro k g
      have g1 : k ≠ 39 := by omega
      have g2 : k ≠ 40 := by omega
      have g3 : k ≠ 41 := by omega
      have g4 : k ≠ 42 := by omega
      subst hXX; funext t; simp [m_gets, m_i, m_wx, hk200, g1, g2, g3, g4]
    have eW : m_W X = m_W A + (nI w).toInt64 := by subst hXX; simp [m_gets, m_i, m_wx, hk200, m_W, ew]
    clear hXX hX
    have e26 := ek 26 (by decide)
    have e27 := ek 27 (by decide)
    have e28 := ek 28 (by decide)
    have e29 := ek 29 (by decide)
    have eN : m_N X = m_N A := m_N_eq (e40 7 (by decide))
    have eT : m_T X = m_T A := m_T_eq (e40 9 (by decide))
    have eL : m_L X = m_L A := m_L_eq (ek 25 (by decide))
    have ebase : m_base X = m_base A := by funext z j; unfold m_base; rw [e29, e26, e27]
    have eu : m_u1 (m_base A b) q = m_base A b := by unfold m_u1; rw [hv]
    have hval : A.1 27 (4 * b + q.1) = (D kk).2 := by
      rw [hd1]
      show _ = m_base A b q.1
      unfold m_base
      rw [hw, if_pos (show (1 : Int32) = 1 ∨ (1 : Int32) = 2 by decide)]
    have hnn : 0 ≤ (D kk).2 := (h4 kk k1).2.1
    have eja : ∀ z p, m_ja A z p → (p.2.2.1 = none → p.2.2.2 ≠ kk) → m_ja X z p := by
      intro z p hp hne
      obtain ⟨d1, d2, d3, d4, d5⟩ := hp
      refine ⟨d1, d2, fun e => ?_, by rw [eT]; exact d4, fun e => ?_⟩
      · rw [eN, e41, e42, if_neg (hne e), if_neg (hne e)]; exact d3 e
      · rw [e29] at e
        show (X.1 30 z).toNatClampNeg ≤ _
        rw [ek 30 (by decide), eL]; exact d5 e
    have eC : m_cn X = m_cn A + 1 := by
      unfold m_cn
      rw [eN, m_count_add (fun k => decide (0 ≤ X.1 41 k)) (fun k => decide (0 ≤ A.1 41 k)) kk (List.range (m_N A)) List.nodup_range (fun x _ hne => by rw [e41, if_neg hne]) (by rw [e41, if_pos (rfl : kk = kk), hval]; exact decide_eq_true hnn) (by rw [k2]; decide), if_pos (List.mem_range.2 k1)]
    refine ⟨⟨?_, fun z hz j hj => by rw [ebase]; exact h2 z hz j hj, fun z hz => ?_, fun k hk => ?_, ?_, ?_⟩, fun z hz j hj => ?_⟩
    · intro z hz hwz j hj hbit
      rw [e29] at hwz
      rw [e28] at hbit
      rw [e26, e27]; exact h1 z hz hwz j hj hbit
    · dsimp only
      rw [ebase]
      by_cases e : z = b
      · subst e
        rw [if_pos (rfl : z = z)]
        have b12 : m_jq D z (m_u1 (m_base A z) q) l := b1.2
        rw [eu] at b12
        refine ⟨b12, fun p hp => eja z p (b2 p (List.mem_cons_of_mem _ hp)) (fun e => ?_), p2⟩
        have := p1 p hp hv e
        rw [hkk] at this
        exact fun e3 => this e3.symm
      · rw [if_neg e]
        obtain ⟨g1, g2, g3⟩ := h3 z hz
        refine ⟨g1, fun p hp => eja z p (g2 p hp) (fun e2 e3 => ?_), g3⟩
        have g4 := jq_own _ _ g1 p hp e2
        rw [e3, hd1] at g4
        exact e g4.symm
    · rw [eN] at hk
      obtain ⟨d1, d2, d3⟩ := h4 k hk
      refine ⟨d1, d2, ?_⟩
      rw [e41, e42, eL]
      by_cases e : k = kk
      · subst e
        rw [if_pos (rfl : k = k), if_pos (rfl : k = k)]
        exact Or.inr ⟨hval, w, rfl, hw20⟩
      · rw [if_neg e, if_neg e]
        rcases d3 with ⟨u1, u2, p, u3, u4, u5⟩ | u
        · refine Or.inl ⟨u1, u2, p, ?_, u4, u5⟩
          show p ∈ if (D k).1 = b then l else qs (D k).1
          split
          · rename_i e2
            rw [e2, hq] at u3
            rcases List.mem_cons.1 u3 with e3 | e3
            · rw [e3, hkk] at u5; exact absurd u5.symm e
            · exact e3
          · exact u3
        · exact Or.inr u
    · rw [e408, h5, eC, nI_succ]
    · obtain ⟨m, s, m1, m2, m3, m4⟩ := h6
      refine ⟨max m w, s + w, ?_, by omega, ?_, ?_⟩
      · rw [e39, m1]
        by_cases e : m < w
        · rw [if_pos (nI_lt e (by omega))]; congr 1; omega
        · rw [if_neg (nI_nlt (a := m) (b := w) (by omega) (by omega))]; congr 1; omega
      · rw [eW, m3, z_i21 w (by omega), Int64.ofNat_add]
      · rw [eC, Nat.mul_add, Nat.mul_one]
        have g1 : m * m_cn A ≤ max m w * m_cn A := Nat.mul_le_mul_right _ (by omega)
        omega
    · rw [ebase]
      by_cases e : z = b
      · subst e
        rw [if_pos (rfl : z = z), hq]
        show _ = m_qv (m_u1 (m_base A z) q) l j
        rw [eu]
      · rw [if_neg e]
theorem JJ_fold {D : Nat → Nat × Int32} {b : Nat} (hb : b < 16) (l : List mQ) : ∀ {A : mS} {qs : Nat → List mQ}, m_JJ D A qs → A.1 29 b = 1 → qs b = l → A.1 40 9 = nI (m_T A) → (∀ q, q ∈ l → m_T A ≤ q.2.1 + m_L A) → m_L A ≤ 20 → m_N A < 200 →
    m_JJ D (l.foldl (m_serve b) A) (fun x => if x = b then [] else qs x) ∧ ∀ x, x < 16 → ∀ j, j < 4 → m_qv (m_base (l.foldl (m_serve b) A) x) (if x = b then [] else qs x) j = m_qv (m_base A x) (qs x) j := by
  induction l with
  | nil =>
    intro A qs h hw hq _ _ _ _
    have e : (fun x => if x = b then [] else qs x) = qs := by
      funext x
      by_cases ex : x = b
      · rw [if_pos ex, ex, hq]
      · rw [if_neg ex]
    refine ⟨by rw [e]; exact h, fun x _ j _ => ?_⟩
    have := congrFun e x
    rw [this]; rfl
  | cons q l ih =>
    intro A qs h hw hq hT hwait hL hN
    obtain ⟨s29, s25, s30, sQ, sR, sF, sC, s9, s7, -⟩ := m_serve_keep b A q
    obtain ⟨j1, j2⟩ := JJ_serve h hb hw hq hT (hwait q List.mem_cons_self) hL hN
    have eT := m_T_eq s9
    have eL := m_L_eq s25
    have eN := m_N_eq s7
    obtain ⟨i1, i2⟩ := ih j1 (by rw [s29]; exact hw) (by rw [if_pos (rfl : b = b)]) (by rw [s9, eT]; exact hT) (fun p hp => by rw [eT, eL]; exact hwait p (List.mem_cons_of_mem _ hp)) (by rw [eL]; exact hL) (by rw [eN]; exact hN)
    have e : (fun x => if x = b then [] else (if x = b then l else qs x)) = (fun x => if x = b then [] else qs x) := by
      funext x
      by_cases ex : x = b
      · rw [if_pos ex, if_pos ex]
      · rw [if_neg ex, if_neg ex, if_neg ex]
    rw [e] at i1
    refine ⟨i1, fun x hx j hj => ?_⟩
    have h3 := i2 x hx j hj
    have e2 := congrFun e x
    rw [e2] at h3
    exact h3.trans (j2 x hx j hj)
theorem row_ok {A : mS} (hI : m_inv 16 A) {r : Nat} (hr : r < 4) : ∀ x, x ∈ m_R A r → A.1 29 x = 1 ∧ m_Q A x = [] := by
  intro x hx
  obtain ⟨g1, g2, g3⟩ := ((hI.2.1 r hr).2 x).1 hx
  exact ⟨g3, hI.2.2.2.1.1 x g1 (by omega) (by rw [g3]; decide)⟩
theorem L_20 {A : mS} (h : m_lim A) : m_L A ≤ 20 ∧ 1 ≤ m_L A := by
  obtain ⟨-, -, -, -, L, hL, h1, h2⟩ := h
  show (A.1 25 4).toNatClampNeg ≤ 20 ∧ 1 ≤ (A.1 25 4).toNatClampNeg
  rw [hL, z_cl (by omega)]; exact ⟨h2, h1⟩
theorem JJ_come {D : Nat → Nat × Int32} {A : mS} {b : Nat} (hI : m_inv 16 A) (h : m_JJ D A (m_Q A)) (hb : b < 16) (hw : A.1 29 b = 3) (hd : A.1 30 b = A.1 40 9) (hT : A.1 40 9 = nI (m_T A)) (hN : m_N A < 200) :
    m_JJ D (m_come A b) (m_Q (m_come A b)) ∧ ∀ x, x < 16 → ∀ j, j < 4 → m_val (m_come A b) x j = m_val A x j := by
  have hrow := row_ok hI (r := b % 4) (by omega)
  have v1 : m_mv (m_Q A) A (m_f A ((m_F A).erase b)) := mv_eq (fun _ _ => rfl) (fun _ _ => rfl) rfl rfl
  have v2 : m_mv (m_Q A) A (m_take (m_f A ((m_F A).erase b)) b) := mv_tr v1 (mv_take hw)
  have v3 : m_mv (m_Q A) A (m_near (m_take (m_f A ((m_F A).erase b)) b) b) := by
    refine mv_tr v2 (mv_near (fun x hx => ?_) ?_ (Or.inr ⟨?_, fun j hj => ?_⟩))
    · obtain ⟨g1, g2⟩ := hrow x hx
      exact ⟨by simpa [m_take, m_f] using g1, g2⟩
    · have : (m_take (m_f A ((m_F A).erase b)) b).1 29 b = 3 := by simpa [m_take, m_f] using hw
      rw [this]; decide
    · have : (m_take (m_f A ((m_F A).erase b)) b).1 29 b = 3 := by simpa [m_take, m_f] using hw
      rw [this]; decide
    · simp [m_take, m_f, (z_d4 (b := b) hj).1]
  obtain ⟨nQ, nF, n25, n29, n9, n7⟩ := m_near_keep (m_take (m_f A ((m_F A).erase b)) b) b
  have hJ := JJ_mv h v3
  have hb4 := (v3 h.1).2.1
  have eL : m_L (m_near (m_take (m_f A ((m_F A).erase b)) b) b) = m_L A := m_L_eq (v3 h.1).2.2.2.2.2.2.1
  have e9 : (m_near (m_take (m_f A ((m_F A).erase b)) b) b).1 40 9 = A.1 40 9 := (v3 h.1).2.2.2.1.2.2
  have e7 : (m_near (m_take (m_f A ((m_F A).erase b)) b) b).1 40 7 = A.1 40 7 := (v3 h.1).2.2.2.1.1
  have eT := m_T_eq e9
  have eN := m_N_eq e7
  have hdT : m_d A b = m_T A := by
    show (A.1 30 b).toNatClampNeg = (A.1 40 9).toNatClampNeg
    rw [hd]
  obtain ⟨i1, i2⟩ := JJ_fold hb (m_Q A b) hJ n29 rfl (by rw [e9, eT]; exact hT) (fun q hq => by
    have := ((h.2.2.1 b hb).2.1 q hq).2.2.2.2 hw
    rw [eT, eL]; omega) (by rw [eL]; exact (L_20 hI.1).1) (by rw [eN]; exact hN)
  have eQ : m_Q (m_come A b) = fun x => if x = b then [] else m_Q A x := by funext x; exact come_Q A b x
  refine ⟨by rw [eQ]; exact i1, fun x hx j hj => ?_⟩
  unfold m_val
  rw [eQ]
  refine (i2 x hx j hj).trans ?_
  exact qv_congr _ (fun i hi => hb4 x hx i hi) j hj
theorem JJ_p1 {D : Nat → Nat × Int32} {A : mS} (h : m_JJ D A (m_Q A)) (b : Nat) : m_JJ D (m_p1 A b) (m_Q (m_p1 A b)) ∧ ∀ x, x < 16 → ∀ j, j < 4 → m_val (m_p1 A b) x j = m_val A x j := by
  unfold m_p1
  split
  · rename_i hc
    have v : m_mv (m_Q A) A (m_gone (m_i A 39 1 (A.1 39 1 - 1)) b) := mv_tr (mv_i A (k := 39) (s := 1) _ (Or.inl ⟨rfl, by decide⟩)) (mv_gone _ (Or.inr (by simpa [m_i] using hc.1)))
    exact ⟨JJ_mv h v, val_mv h.1 v rfl⟩
  · exact ⟨h, fun _ _ _ _ => rfl⟩
theorem JJ_p2 {D : Nat → Nat × Int32} {A : mS} (hI : m_inv 16 A) (h : m_JJ D A (m_Q A)) {b : Nat} (hb : b < 16) (hT : A.1 40 9 = nI (m_T A)) (hN : m_N A < 200) : m_JJ D (m_p2 A b) (m_Q (m_p2 A b)) ∧ ∀ x, x < 16 → ∀ j, j < 4 → m_val (m_p2 A b) x j = m_val A x j := by
  unfold m_p2
  split
  · rename_i hc
    exact JJ_come hI h hb hc.1 hc.2 hT hN
  · exact ⟨h, fun _ _ _ _ => rfl⟩
