/-! by D all that is fetched has come, by D + 10 all has gone -/
def m_live (D : Nat) (A : mS) : Prop := ∀ x, x < 16 → (A.1 29 x = 3 → m_d A x ≤ D) ∧ (A.1 29 x = 2 → m_d A x ≤ D + 10)
theorem live_p1 {D : Nat} {A : mS} (h : m_live D A) (b : Nat) : m_live D (m_p1 A b) := by
  unfold m_p1
  split
  · intro x hx
    have e30 : m_d (m_gone (m_i A 39 1 (A.1 39 1 - 1)) b) x = m_d A x := by simp [m_d, m_gone, m_tal, m_far, m_c, m_i]
    have e29 : (m_gone (m_i A 39 1 (A.1 39 1 - 1)) b).1 29 x = if x = b then 0 else A.1 29 x := by simp [m_gone, m_tal, m_far, m_c, m_i]
    rw [e30, e29]
    by_cases e : x = b
    · rw [if_pos e]; exact ⟨fun q => absurd q (by decide), fun q => absurd q (by decide)⟩
    · rw [if_neg e]; exact h x hx
  · exact h
theorem live_p2 {D : Nat} {A : mS} (h : m_live D A) (hT : A.1 40 9 = nI (m_T A)) (hT2 : m_T A < 2 ^ 30 + 1) (hlim : m_lim A) (b : Nat) (hb : b < 16) : m_live D (m_p2 A b) := by
  unfold m_p2
  split
  · rename_i hc
    obtain ⟨c1, c2, c3⟩ := m_come_b A b
    have hTD : m_T A ≤ D := by
      have := (h b hb).1 hc.1
      have e : m_d A b = m_T A := by unfold m_d m_T; rw [hc.2]
      omega
    intro x hx
    by_cases e : x = b
    · subst e; rw [c1]; exact ⟨fun q => absurd q (by decide), fun q => absurd q (by decide)⟩
    · rcases m_come_oth A e with ⟨g1, g2⟩ | g1 | ⟨g1, g2⟩
      · have := h x hx
        unfold m_d at this ⊢
        rw [g1, g2]; exact this
      · rw [g1]; exact ⟨fun q => absurd q (by decide), fun q => absurd q (by decide)⟩
      · obtain ⟨L, hL, hL1, hL20⟩ := hlim.2.2.2.2
        obtain ⟨w, hw, hw1, hw10⟩ := m_half_nat hL20
        rw [g1]
        refine ⟨fun q => absurd q (by decide), fun _ => ?_⟩
        unfold m_d
        rw [g2, hL, hw, hT, nI_add, z_cl (by omega)]
        omega
  · exact h
theorem live_pass {D : Nat} {A : mS} {B : Nat} (h : m_live D A) (hI : m_inv 16 A) (hd : m_dd 16 16 A) (ht : m_tb B A) (hB : B < 2 ^ 30) : m_live D (m_pass A) := by
  obtain ⟨e1, e2⟩ := m_T_tick ht hB
  have ht2 := ht.2
  have hI1 := inv_tick hI
  have hd1 := dd_tick hd ht hB
  have l1 : m_live D (m_tick A) := by
    intro x hx
    have := h x hx
    simpa [m_tick, m_i, m_d] using this
  have eT : (m_tick A).1 40 9 = nI (m_T A + 1) := by rw [e2.1, e1]
  refine (z_pass (fun k X => (m_inv 16 X ∧ m_dd k 0 X ∧ X.1 40 9 = nI (m_T A + 1) ∧ m_T X = m_T A + 1) ∧ m_live D X) (fun k X => (m_inv 16 X ∧ m_dd 16 k X ∧ X.1 40 9 = nI (m_T A + 1) ∧ m_T X = m_T A + 1) ∧ m_live D X) (fun k X hk i => ⟨?_, live_p1 i.2 k⟩) (fun X i => i) (fun k X hk i => ⟨?_, live_p2 i.2 (by rw [i.1.2.2.1, i.1.2.2.2]) (by rw [i.1.2.2.2]; omega) i.1.1.1 k hk⟩) A ⟨⟨hI1, hd1, eT, e1⟩, l1⟩).2
  · have e := (p1_T X k).1
    exact ⟨inv_p1 i.1.1 hk, dd_p1 i.1.2.1 (by rw [i.1.2.2.1, i.1.2.2.2]) hk, e.trans i.1.2.2.1, (m_T_eq e).trans i.1.2.2.2⟩
  · have e := (p2_T X k).1
    exact ⟨inv_p2 i.1.1 hk, dd_p2 i.1.2.1 (by rw [i.1.2.2.1, i.1.2.2.2]) i.1.1.1 hk, e.trans i.1.2.2.1, (m_T_eq e).trans i.1.2.2.2⟩
theorem live_0 {A : mS} (hd : m_dd 16 16 A) {B : Nat} (ht : m_tb B A) (hB : B < 2 ^ 30) : m_live (m_T A + 20) A := by
  have ht2 := ht.2
  intro x hx
  constructor
  · intro q
    obtain ⟨d, h1, h2, h3, -⟩ := hd x hx (Or.inr q)
    unfold m_d; rw [h1, z_cl (by omega)]; exact h3
  · intro q
    obtain ⟨d, h1, h2, h3, -⟩ := hd x hx (Or.inl q)
    unfold m_d; rw [h1, z_cl (by omega)]; omega
/-- then nothing is under way -/
theorem live_end {D : Nat} {A : mS} (h : m_live D A) (hd : m_dd 16 16 A) {B : Nat} (ht : m_tb B A) (hB : B < 2 ^ 30) (hD : D + 10 ≤ m_T A) (x : Nat) (hx : x < 16) : A.1 29 x ≠ 2 ∧ A.1 29 x ≠ 3 := by
  have ht2 := ht.2
  constructor
  · intro q
    obtain ⟨d, h1, h2, h3, h4, h5⟩ := hd x hx (Or.inl q)
    have := (h x hx).2 q
    unfold m_d at this; rw [h1, z_cl (by omega)] at this
    have := h4 q hx
    omega
  · intro q
    obtain ⟨d, h1, h2, h3, h4, h5⟩ := hd x hx (Or.inr q)
    have := (h x hx).1 q
    unfold m_d at this; rw [h1, z_cl (by omega)] at this
    have := h5 q hx
    omega
theorem live_F {A : mS} (hI : m_inv 16 A) (hn : ∀ x, x < 16 → A.1 29 x ≠ 2 ∧ A.1 29 x ≠ 3) : m_F A = [] ∧ A.1 39 1 = 0 := by
  constructor
  · refine List.eq_nil_iff_forall_not_mem.2 (fun x hx => ?_)
    have g := (hI.2.2.1.2.1 x).1 hx
    exact (hn x g.1).2 g.2.2
  · rw [hI.2.2.2.2.2.1]
    have : m_cs 16 A = 0 := by
      unfold m_cs
      rw [List.countP_eq_zero]
      intro x hx
      have := (hn x (List.mem_range.1 hx)).1
      simp [this]
    rw [this]; rfl
theorem live_can {D : Nat} {A : mS} (h : m_live D A) (hI : m_inv 16 A) (hd : m_dd 16 16 A) {B : Nat} (ht : m_tb B A) (hB : B < 2 ^ 30) (hD : D + 10 ≤ m_T A) {q : mR} (hq : m_rok q) : m_can A q = true := by
  have hn := live_end h hd ht hB hD
  obtain ⟨hF, hs⟩ := live_F hI hn
  obtain _ | ⟨b, j, v⟩ := q
  · simp [m_can, hF, hs]
  · obtain ⟨q1, -, -⟩ := hq b j v rfl
    have h3 := (hn b q1).2
    obtain ⟨F, hF2, hF1, hF4⟩ := hI.1.2.2.1
    simp only [m_can, if_neg h3, hF]
    split
    · rw [hF2, z_cl (by omega)]
      simp only [List.length_nil, decide_eq_true_eq]
      omega
    · rfl
theorem live_stall {D : Nat} {A : mS} (h : m_live D A) : m_live D (m_stall A) := by
  intro x hx
  have := h x hx
  simpa [m_stall, m_tal, m_i, m_c, m_d] using this
