/-! THE SHELF holds S at most -/
def m_sh (A : mS) : Prop := ∃ c P, A.1 39 1 = nI c ∧ A.1 25 1 = nI P ∧ c ≤ P ∧ P ≤ 3
theorem sh_eq {A A' : mS} (h : m_sh A) (e39 : A'.1 39 1 = A.1 39 1) (e25 : A'.1 25 1 = A.1 25 1) : m_sh A' := by
  obtain ⟨c, P, h1, h2, h3⟩ := h
  exact ⟨c, P, e39.trans h1, e25.trans h2, h3⟩
theorem sh_room {A : mS} (h : m_sh A) (r : Nat) : m_sh (m_room A r) := by
  unfold m_room
  split
  · exact h
  · split
    · exact h
    · rename_i b _
      unfold m_out
      split
      · exact sh_eq h (by simp [m_i, m_r]) (by simp [m_i, m_r])
      · split
        · rename_i _ hlt
          obtain ⟨c, P, h1, h2, h3, h4⟩ := h
          have hlt2 : nI c < nI P := by rw [← h1, ← h2]; exact hlt
          have := (nI_ltI (a := c) (b := P) (by omega) (by omega)).1 hlt2
          refine ⟨c + 1, P, ?_, ?_, by omega, h4⟩
          · rw [nI_succ, ← h1]; simp [m_i, m_r]
          · rw [← h2]; simp [m_i, m_r]
        · exact sh_eq h (by simp [m_gone, m_tal, m_far, m_c, m_i, m_r]) (by simp [m_gone, m_tal, m_far, m_c, m_i, m_r])
theorem sh_near {A : mS} (h : m_sh A) (b : Nat) : m_sh (m_near A b) := sh_eq (sh_room h (b % 4)) (by simp [m_near, m_i, m_r]) (by simp [m_near, m_i, m_r])
/-- one leaves -/
theorem sh_dec {A : mS} (hI : m_inv 16 A) (h : m_sh A) {b : Nat} (hb : b < 16) (hw : A.1 29 b = 2) : m_sh (m_i A 39 1 (A.1 39 1 - 1)) := by
  obtain ⟨c, P, h1, h2, h3, h4⟩ := h
  have hc := hI.2.2.2.2.2.1
  have h16 := m_cs_le 16 A
  have hp : 0 < m_cs 16 A := by
    unfold m_cs
    refine List.countP_pos_iff.2 ⟨b, List.mem_range.2 hb, ?_⟩
    exact decide_eq_true ⟨by omega, hw⟩
  have e : c = m_cs 16 A := (nI_eq (by omega) (by omega)).1 (h1.symm.trans hc)
  refine ⟨c - 1, P, ?_, ?_, by omega, h4⟩
  · have e0 : (m_i A 39 1 (A.1 39 1 - 1)).1 39 1 = A.1 39 1 - 1 := by simp [m_i]
    rw [e0, h1, show (1 : Int32) = nI 1 from rfl, pk_sub (by omega)]
  · rw [← h2]; simp [m_i]
theorem sh_come {A : mS} (h : m_sh A) (b : Nat) : m_sh (m_come A b) := by
  have k := m_fold_keep b (m_Q A b) (m_near (m_take (m_f A ((m_F A).erase b)) b) b)
  have h2 : m_sh (m_near (m_take (m_f A ((m_F A).erase b)) b) b) := sh_near (sh_eq h (by simp [m_take, m_f]) (by simp [m_take, m_f])) b
  exact sh_eq h2 k.2.2.2 (by
    have := congrFun k.1.2.1 1
    exact this)
theorem sh_pass {A : mS} (hI : m_inv 16 A) (h : m_sh A) : m_sh (m_pass A) :=
  (z_pass (fun _ X => m_inv 16 X ∧ m_sh X) (fun _ X => m_inv 16 X ∧ m_sh X)
    (fun k X hk i => ⟨inv_p1 i.1 hk, by
      unfold m_p1
      split
      · rename_i hc
        exact sh_eq (sh_dec i.1 i.2 hk hc.1) (by simp [m_gone, m_tal, m_far, m_c, m_i]) (by simp [m_gone, m_tal, m_far, m_c, m_i])
      · exact i.2⟩)
    (fun _ i => i)
    (fun k X hk i => ⟨inv_p2 i.1 hk, by
      unfold m_p2
      split
      · exact sh_come i.2 k
      · exact i.2⟩)
    A ⟨inv_tick hI, sh_eq h (by simp [m_tick, m_i]) (by simp [m_tick, m_i])⟩).2
theorem sh_tal {A : mS} (h : m_sh A) (w : Nat) (p : UInt32) : m_sh (m_tal A w p) := sh_eq h (by simp [m_tal, m_i, m_c]) (by simp [m_tal, m_i, m_c])
theorem sh_do {A : mS} (h : m_sh A) (b j : Nat) (v : Option Int32) : m_sh (m_do A b j v) := by
  obtain ⟨g1, g2, g3, g4, g5, g6, g7, g8, g9, -⟩ := m_do_keep A b j v
  exact sh_eq h g9 (by rw [g2])
theorem join_39 (A : mS) (b j : Nat) (v : Option Int32) : (m_join A b j v).1 39 1 = A.1 39 1 := by
  cases v with
  | some x => rfl
  | none => exact congrFun (begun_keep (m_q A b (m_Q A b ++ [(j, m_T A, none, m_N A)]))).2.2.2.2.2.2.1 1
theorem sh_join {A : mS} (h : m_sh A) (b j : Nat) (v : Option Int32) : m_sh (m_join A b j v) := sh_eq h (join_39 A b j v) (by rw [(join_F A b j v).2])
theorem sh_go {A : mS} (hI : m_inv 16 A) (h : m_sh A) {b : Nat} (hb : b < 16) (j : Nat) (v : Option Int32) : m_sh (m_go A (some (b, j, v))) := by
  simp only [m_go]
  split
  · exact sh_tal (sh_do (A := m_use A b) h b j v) _ _
  · split
    · rename_i hw
      exact sh_tal (sh_do (sh_near (sh_dec hI h hb hw) b) b j v) _ _
    · split
      · exact sh_tal (sh_join h b j v) _ _
      · exact sh_tal (sh_join (sh_eq h (by simp [m_f, m_i]) (by simp [m_f, m_i])) b j v) _ _
theorem sh_beg {q : mR} (hq : m_rok q) : ∀ f (A : mS) (B : Nat), m_al B 0 A → B + f < 2 ^ 30 → m_sh A → m_sh (m_beg f A q) := by
  intro f
  induction f with
  | zero => intro A B _ _ h; exact h
  | succ f ih =>
    intro A B hal hB h
    obtain ⟨p, -⟩ := al_pass hal (by omega)
    have hp := sh_pass hal.1 h
    by_cases hc : m_can (m_pass A) q = true
    · simp only [m_beg, hc, if_true]
      obtain _ | ⟨b, j, v⟩ := q
      · exact hp
      · exact sh_go p.1 hp (hq b j v rfl).1 j v
    · simp only [m_beg, if_neg hc]
      exact ih _ (B + 1) (al_01 (al_stall p)) (by omega) (sh_tal hp _ _)
theorem sh_idle : ∀ f (A : mS) (B : Nat), m_al B 0 A → B + f < 2 ^ 30 → m_sh A → m_sh (m_idle f A) := by
  intro f
  induction f with
  | zero => intro A B _ _ h; exact h
  | succ f ih =>
    intro A B hal hB h
    exact ih _ (B + 1) (al_01 (al_pass hal (by omega)).1) (by omega) (sh_pass hal.1 h)
theorem sh_new {A : mS} (hl : m_lim A) : m_sh (m_new A) := by
  obtain ⟨-, ⟨P, hP, h3⟩, -⟩ := hl
  exact ⟨0, P, by simp [m_new]; rfl, by rw [← hP]; simp [m_new], Nat.zero_le _, h3⟩
theorem sh_le {A : mS} (hI : m_inv 16 A) (h : m_sh A) : ∃ P, A.1 25 1 = nI P ∧ P ≤ 3 ∧ (List.range 16).countP (fun x => decide (A.1 29 x = 2)) ≤ P := by
  obtain ⟨c, P, h1, h2, h3, h4⟩ := h
  have hc := hI.2.2.2.2.2.1
  have h16 := m_cs_le 16 A
  have e : c = m_cs 16 A := (nI_eq (by omega) (by omega)).1 (h1.symm.trans hc)
  refine ⟨P, h2, h4, ?_⟩
  have e2 : (List.range 16).countP (fun x => decide (A.1 29 x = 2)) = m_cs 16 A := by
    unfold m_cs
    refine List.countP_congr (fun x hx => ?_)
    have := List.mem_range.1 hx
    simp only [decide_eq_true_eq]
    constructor
    · intro g; exact ⟨by omega, g⟩
    · intro g; exact g.2
  rw [e2, ← e]; exact h3
