/-! counts: what began; HASTE and what went FAR -/
theorem room_40 (A : mS) (r k : Nat) (hk : k < 5 ∨ 7 ≤ k) : (m_room A r).1 40 k = A.1 40 k := by
  have e5 : k ≠ 5 := by omega
  have e6 : k ≠ 6 := by omega
  unfold m_room
  split
  · rfl
  · split
    · rfl
    · unfold m_out
      split
      · simp [m_i, m_r]
      · split
        · simp [m_i, m_r]
        · simp [m_gone, m_tal, m_far, m_c, m_i, m_r, e5, e6]
theorem near_40 (A : mS) (b k : Nat) (hk : k < 5 ∨ 7 ≤ k) : (m_near A b).1 40 k = A.1 40 k := by
  have := room_40 A (b % 4) k hk
  simpa [m_near, m_i, m_r] using this
theorem serve_40 (b : Nat) (A : mS) (q : mQ) (k : Nat) (hk : k ≠ 8) : (m_serve b A q).1 40 k = A.1 40 k := by
  unfold m_serve
  cases q.2.2.1 with
  | some v => simp [m_lay, m_i]
  | none =>
    simp only [m_gets]
    by_cases hk2 : q.2.2.2 < 200
    · simp [hk2, m_i, m_wx, hk]
    · simp [hk2, m_i, m_wx, hk]
theorem fold_40 (b : Nat) (l : List mQ) (k : Nat) (hk : k ≠ 8) : ∀ A : mS, (l.foldl (m_serve b) A).1 40 k = A.1 40 k := by
  induction l with
  | nil => intro A; rfl
  | cons q l ih => intro A; exact (ih _).trans (serve_40 b A q k hk)
theorem come_40e (A : mS) (b k : Nat) (hk : k ≠ 8) : (m_come A b).1 40 k = (m_near (m_take (m_f A ((m_F A).erase b)) b) b).1 40 k := fold_40 b (m_Q A b) k hk _
theorem come_40 (A : mS) (b k : Nat) (hk : k < 5) : (m_come A b).1 40 k = A.1 40 k := by
  rw [come_40e A b k (by omega), near_40 _ b k (Or.inl hk)]
  simp [m_take, m_f]
theorem p1_40 (A : mS) (b k : Nat) (hk : k < 5) : (m_p1 A b).1 40 k = A.1 40 k := by
  have e6 : k ≠ 6 := by omega
  unfold m_p1
  split
  · simp [m_gone, m_tal, m_far, m_c, m_i, e6]
  · rfl
theorem p2_40 (A : mS) (b k : Nat) (hk : k < 5) : (m_p2 A b).1 40 k = A.1 40 k := by
  unfold m_p2
  split
  · exact come_40 A b k hk
  · rfl
theorem fold_4k {f : mS → Nat → mS} {k : Nat} (hf : ∀ A b, (f A b).1 40 k = A.1 40 k) (l : List Nat) : ∀ A : mS, (l.foldl f A).1 40 k = A.1 40 k := by
  induction l with
  | nil => intro A; rfl
  | cons x l ih => intro A; exact (ih (f A x)).trans (hf A x)
theorem pass_40 (A : mS) (k : Nat) (hk : k < 5) : (m_pass A).1 40 k = A.1 40 k := by
  have e9 : k ≠ 9 := by omega
  unfold m_pass
  rw [fold_4k (fun A b => p2_40 A b k hk), fold_4k (fun A b => p1_40 A b k hk)]
  simp [m_tick, m_i, e9]
def m_cs4 (A : mS) : Int32 := A.1 40 0 + A.1 40 1 + A.1 40 2 + A.1 40 3
theorem cs4_eq {A A' : mS} (h : ∀ k, k < 4 → A'.1 40 k = A.1 40 k) : m_cs4 A' = m_cs4 A := by
  unfold m_cs4; rw [h 0 (by omega), h 1 (by omega), h 2 (by omega), h 3 (by omega)]
theorem cs4_tal {A : mS} {w : Nat} (hw : w < 4) (p : UInt32) : m_cs4 (m_tal A w p) = m_cs4 A + 1 := by
  have e : ∀ k, (m_tal A w p).1 40 k = if k = w then A.1 40 w + 1 else A.1 40 k := by intro k; simp [m_tal, m_i, m_c]
  unfold m_cs4
  rw [e, e, e, e]
  rcases (show w = 0 ∨ w = 1 ∨ w = 2 ∨ w = 3 by omega) with rfl | rfl | rfl | rfl
  · rw [if_pos (rfl : (0 : Nat) = 0), if_neg (show ¬ (1 : Nat) = 0 by decide), if_neg (show ¬ (2 : Nat) = 0 by decide), if_neg (show ¬ (3 : Nat) = 0 by decide)]; ac_rfl
  · rw [if_pos (rfl : (1 : Nat) = 1), if_neg (show ¬ (0 : Nat) = 1 by decide), if_neg (show ¬ (2 : Nat) = 1 by decide), if_neg (show ¬ (3 : Nat) = 1 by decide)]; ac_rfl
  · rw [if_pos (rfl : (2 : Nat) = 2), if_neg (show ¬ (0 : Nat) = 2 by decide), if_neg (show ¬ (1 : Nat) = 2 by decide), if_neg (show ¬ (3 : Nat) = 2 by decide)]; ac_rfl
  · rw [if_pos (rfl : (3 : Nat) = 3), if_neg (show ¬ (0 : Nat) = 3 by decide), if_neg (show ¬ (1 : Nat) = 3 by decide), if_neg (show ¬ (2 : Nat) = 3 by decide)]; ac_rfl
theorem do_40 (A : mS) (b j : Nat) (v : Option Int32) (k : Nat) (hk : k < 7) : (m_do A b j v).1 40 k = A.1 40 k := by
  cases v with
  | some x => simp [m_do, m_lay, m_i]
  | none =>
    have e : m_do A b j none = m_serve b (m_begun A) (j, m_T A, none, m_N A) := rfl
    rw [e, serve_40 _ _ _ k (by omega), (begun_keep A).2.2.2.2.2.2.2.1 k (by omega)]
theorem join_40 (A : mS) (b j : Nat) (v : Option Int32) (k : Nat) (hk : k < 7) : (m_join A b j v).1 40 k = A.1 40 k := by
  cases v with
  | some x => rfl
  | none => exact (begun_keep (m_q A b (m_Q A b ++ [(j, m_T A, none, m_N A)]))).2.2.2.2.2.2.2.1 k (by omega)
theorem cs4_go (A : mS) (b j : Nat) (v : Option Int32) : m_cs4 (m_go A (some (b, j, v))) = m_cs4 A + 1 := by
  simp only [m_go]
  split
  · rw [cs4_tal (by omega), cs4_eq (A := A) (A' := m_do (m_use A b) b j v) (fun k hk => do_40 (m_use A b) b j v k (by omega))]
  · split
    · rw [cs4_tal (by omega), cs4_eq (A := A) (fun k hk => (do_40 _ b j v k (by omega)).trans ((near_40 _ b k (by omega)).trans (by simp [m_i])))]
    · split
      · rw [cs4_tal (by omega), cs4_eq (A := A) (fun k hk => join_40 _ b j v k (by omega))]
      · rw [cs4_tal (by omega), cs4_eq (A := A) (fun k hk => (join_40 _ b j v k (by omega)).trans (by simp [m_f, m_i]))]
def m_hc (C : Nat) (A : mS) : Prop := ∃ a c, A.1 40 5 = nI a ∧ A.1 40 6 = nI c ∧ a ≤ c ∧ c ≤ C
theorem hc_le {C C' : Nat} {A : mS} (h : m_hc C A) (e : C ≤ C') : m_hc C' A := by
  obtain ⟨a, c, h1, h2, h3, h4⟩ := h
  exact ⟨a, c, h1, h2, h3, by omega⟩
theorem hc_eq {C : Nat} {A A' : mS} (h : m_hc C A) (h5 : A'.1 40 5 = A.1 40 5) (h6 : A'.1 40 6 = A.1 40 6) : m_hc C A' := by
  obtain ⟨a, c, g1, g2, g3, g4⟩ := h
  exact ⟨a, c, h5.trans g1, h6.trans g2, g3, g4⟩
theorem hc_gone {C : Nat} {A : mS} (h : m_hc C A) (x : Nat) : m_hc (C + 1) (m_gone A x) := by
  obtain ⟨a, c, g1, g2, g3, g4⟩ := h
  refine ⟨a, c + 1, ?_, ?_, by omega, by omega⟩
  · rw [← g1]; simp [m_gone, m_tal, m_far, m_c, m_i]
  · rw [nI_succ, ← g2]; simp [m_gone, m_tal, m_far, m_c, m_i]
theorem hc_room {C : Nat} {A : mS} (h : m_hc C A) (r : Nat) : m_hc (C + 1) (m_room A r) := by
  unfold m_room
  split
  · exact hc_le h (by omega)
  · split
    · exact hc_le h (by omega)
    · unfold m_out
      split
      · exact hc_le (hc_eq h (by simp [m_i, m_r]) (by simp [m_i, m_r])) (by omega)
      · split
        · exact hc_le (hc_eq h (by simp [m_i, m_r]) (by simp [m_i, m_r])) (by omega)
        · obtain ⟨a, c, g1, g2, g3, g4⟩ := h
          refine ⟨a + 1, c + 1, ?_, ?_, by omega, by omega⟩
          · rw [nI_succ, ← g1]; simp [m_gone, m_tal, m_far, m_c, m_i, m_r]
          · rw [nI_succ, ← g2]; simp [m_gone, m_tal, m_far, m_c, m_i, m_r]
theorem hc_near {C : Nat} {A : mS} (h : m_hc C A) (b : Nat) : m_hc (C + 1) (m_near A b) :=
  hc_eq (hc_room h (b % 4)) (by simp [m_near, m_i, m_r]) (by simp [m_near, m_i, m_r])
theorem hc_p1 {C : Nat} {A : mS} (h : m_hc C A) (b : Nat) : m_hc (C + 1) (m_p1 A b) := by
  unfold m_p1
  split
  · exact hc_gone (hc_eq h (by simp [m_i]) (by simp [m_i])) b
  · exact hc_le h (by omega)
theorem hc_p2 {C : Nat} {A : mS} (h : m_hc C A) (b : Nat) : m_hc (C + 1) (m_p2 A b) := by
  unfold m_p2
  split
  · exact hc_eq (hc_near (A := m_take (m_f A ((m_F A).erase b)) b) (hc_eq h (by simp [m_take, m_f]) (by simp [m_take, m_f])) b) (come_40e A b 5 (by omega)) (come_40e A b 6 (by omega))
  · exact hc_le h (by omega)
theorem hc_pass {C : Nat} {A : mS} (h : m_hc C A) : m_hc (C + 32) (m_pass A) :=
  z_pass (fun k A => m_hc (C + k) A) (fun k A => m_hc (C + 16 + k) A) (fun k A _ i => hc_p1 i k) (fun A i => i) (fun k A _ i => hc_p2 i k) A (hc_eq h (by simp [m_tick, m_i]) (by simp [m_tick, m_i]))
theorem hc_tal {C : Nat} {A : mS} (h : m_hc C A) {w : Nat} (hw : w < 5) (p : UInt32) : m_hc C (m_tal A w p) := by
  have e5 : ¬ 5 = w := by omega
  have e6 : ¬ 6 = w := by omega
  exact hc_eq h (by simp [m_tal, m_i, m_c, e5]) (by simp [m_tal, m_i, m_c, e6])
theorem hc_go {C : Nat} {A : mS} (h : m_hc C A) (b j : Nat) (v : Option Int32) : m_hc (C + 1) (m_go A (some (b, j, v))) := by
  simp only [m_go]
  split
  · exact hc_tal (hc_le (hc_eq (A' := m_do (m_use A b) b j v) h (do_40 (m_use A b) b j v 5 (by omega)) (do_40 (m_use A b) b j v 6 (by omega))) (Nat.le_succ _)) (show 0 < 5 by omega) _
  · split
    · exact hc_tal (hc_eq (hc_near (A := m_i A 39 1 (A.1 39 1 - 1)) (hc_eq h (by simp [m_i]) (by simp [m_i])) b) (do_40 _ b j v 5 (by omega)) (do_40 _ b j v 6 (by omega))) (by omega) _
    · split
      · exact hc_tal (hc_le (hc_eq h (join_40 _ b j v 5 (by omega)) (join_40 _ b j v 6 (by omega))) (by omega)) (by omega) _
      · exact hc_tal (hc_le (hc_eq h ((join_40 _ b j v 5 (by omega)).trans (by simp [m_f, m_i])) ((join_40 _ b j v 6 (by omega)).trans (by simp [m_f, m_i]))) (by omega)) (by omega) _
/-! whatever is fetched is asked for -/
def m_qp (A : mS) : Prop := ∀ x, x < 16 → A.1 29 x = 3 → m_Q A x ≠ []
theorem qp_sub {A A' : mS} (h : m_qp A) (e : ∀ x, x < 16 → A'.1 29 x = 3 → A.1 29 x = 3 ∧ m_Q A' x = m_Q A x) : m_qp A' := by
  intro x hx h3
  obtain ⟨e1, e2⟩ := e x hx h3
  rw [e2]; exact h x hx e1
theorem qp_p1 {A : mS} (h : m_qp A) (b : Nat) : m_qp (m_p1 A b) := by
  unfold m_p1
  split
  · refine qp_sub h (fun x _ h3 => ⟨?_, rfl⟩)
    have e : (m_gone (m_i A 39 1 (A.1 39 1 - 1)) b).1 29 x = if x = b then 0 else A.1 29 x := by simp [m_gone, m_tal, m_far, m_c, m_i]
    rw [e] at h3
    split at h3
    · exact absurd h3 (by decide)
    · exact h3
  · exact h
theorem oth_3 {A A' : mS} {b x : Nat} (h : m_oth A A' b x) (h3 : A'.1 29 x = 3) : A.1 29 x = 3 := by
  rcases h with ⟨g1, -⟩ | g1 | ⟨g1, -⟩
  · exact g1.symm.trans h3
  · exact absurd (g1.symm.trans h3) (by decide)
  · exact absurd (g1.symm.trans h3) (by decide)
theorem qp_p2 {A : mS} (h : m_qp A) (b : Nat) : m_qp (m_p2 A b) := by
  unfold m_p2
  split
  · refine qp_sub h (fun x _ h3 => ?_)
    by_cases e : x = b
    · subst e; rw [(m_come_b A x).1] at h3; exact absurd h3 (by decide)
    · refine ⟨oth_3 (m_come_oth A e) h3, ?_⟩
      rw [come_Q, if_neg e]
  · exact h
theorem qp_pass {A : mS} (h : m_qp A) : m_qp (m_pass A) :=
  z_pass (fun _ A => m_qp A) (fun _ A => m_qp A) (fun k A _ i => qp_p1 i k) (fun A i => i) (fun k A _ i => qp_p2 i k) A (qp_sub h (fun x _ h3 => ⟨by simpa [m_tick, m_i] using h3, rfl⟩))
theorem qp_tal {A : mS} (h : m_qp A) {w : Nat} (hw : w < 7) (p : UInt32) : m_qp (m_tal A w p) := qp_sub h (fun x _ h3 => ⟨by rw [(m_tal_keep A hw p).2.1] at h3; exact h3, rfl⟩)
theorem qp_do {A : mS} (h : m_qp A) (b j : Nat) (v : Option Int32) : m_qp (m_do A b j v) := by
  obtain ⟨g1, g2, g3, g4, -⟩ := m_do_keep A b j v
  exact qp_sub h (fun x _ h3 => ⟨by rw [g1] at h3; exact h3, by rw [g4]⟩)
theorem qp_join {A : mS} {b : Nat} (h : ∀ x, x < 16 → x ≠ b → A.1 29 x = 3 → m_Q A x ≠ []) (j : Nat) (v : Option Int32) : m_qp (m_join A b j v) := by
  intro x hx h3
  rw [(m_join_keep A b j v).2.1] at h3
  rw [join_Q]
  dsimp only
  split
  · simp
  · rename_i e; exact h x hx e h3
theorem qp_go {A : mS} (h : m_qp A) (b j : Nat) (v : Option Int32) : m_qp (m_go A (some (b, j, v))) := by
  simp only [m_go]
  split
  · exact qp_tal (qp_do (A := m_use A b) h b j v) (by omega) _
  · split
    · refine qp_tal (qp_do (qp_sub h (fun x _ h3 => ?_)) b j v) (by omega) _
      obtain ⟨nQ, nF, n25, n29, -⟩ := m_near_keep (m_i A 39 1 (A.1 39 1 - 1)) b
      by_cases e : x = b
      · subst e; rw [n29] at h3; exact absurd h3 (by decide)
      · have := oth_3 (m_near_oth (m_i A 39 1 (A.1 39 1 - 1)) e) h3
        exact ⟨by simpa [m_i] using this, by rw [nQ]; rfl⟩
    · split
      · exact qp_tal (qp_join (fun x hx _ h3 => h x hx h3) j v) (by omega) _
      · refine qp_tal (qp_join (fun x hx e h3 => ?_) j v) (by omega) _
        have : A.1 29 x = 3 := by simpa [m_f, m_i, e] using h3
        exact h x hx this
/-! all of a step -/
def m_st (e : Nat) (D : Nat → Nat × Int32) (V : Nat → Nat → Int32) (N : Nat) (s : Int32) (A : mS) : Prop := m_JJ D A (m_Q A) ∧ (∀ x, x < 16 → ∀ i, i < 4 → m_val A x i = V x i) ∧ m_N A = N ∧ m_cs4 A = s ∧ m_hc (40 * m_T A - 8 * e) A ∧ m_qp A ∧ m_rl A
section ST
variable {D : Nat → Nat × Int32} {V : Nat → Nat → Int32} {N : Nat} {s : Int32} {A : mS} {B : Nat}
theorem st_10 (h : m_st 1 D V N s A) : m_st 0 D V N s A := by
  obtain ⟨h1, h2, h3, h4, h5, h6⟩ := h
  exact ⟨h1, h2, h3, h4, hc_le h5 (by omega), h6⟩
theorem st_pass (hal : m_al B 0 A) (hB : B < 2 ^ 30) (hN : N < 200) (h : m_st 0 D V N s A) : m_st 1 D V N s (m_pass A) := by
  obtain ⟨h1, h2, h3, h4, h5, h6, h7⟩ := h
  obtain ⟨j1, j2⟩ := JJ_pass hal hB h1 (by rw [h3]; exact hN)
  have hT := (al_pass hal hB).2
  refine ⟨j1, fun x hx i hi => (j2 x hx i hi).trans (h2 x hx i hi), by rw [m_N_eq (pass_7 A)]; exact h3, by rw [cs4_eq (fun k hk => pass_40 A k (by omega))]; exact h4, hc_le (hc_pass h5) (by rw [hT]; omega), qp_pass h6, rl_pass h7 hal.1⟩
theorem st_stall (h : m_st 1 D V N s A) : m_st 0 D V N s (m_stall A) := by
  obtain ⟨h1, h2, h3, h4, h5, h6, h7⟩ := st_10 h
  obtain ⟨t1, t2⟩ := JJ_tal (w := 4) (by omega) 1036831949 h1
  refine ⟨t1, fun x hx i hi => (t2 x hx i hi).trans (h2 x hx i hi), by rw [m_N_eq (stall_7 A)]; exact h3, ?_, ?_, qp_tal h6 (by omega) _, rl_tal h7 _ _⟩
  · rw [← h4]
    refine cs4_eq (fun k hk => ?_)
    have : k ≠ 4 := by omega
    simp [m_stall, m_tal, m_i, m_c, this]
  · rw [m_T_eq (m_stall_T A)]; exact hc_tal h5 (by omega) _
theorem st_go {b j : Nat} {v : Option Int32} (hal : m_al B 1 A) (hB : B < 2 ^ 30) (hb : b < 16) (hj : j < 4) (hx : ∀ x, v = some x → 0 ≤ x) (hN : N + 1 < 200) (hc : m_can A (some (b, j, v)) = true) (hD : v = none → D N = (b, V b j)) (h : m_st 1 D V N s A) :
    m_st 0 D (fun x i => if x = b ∧ j = i then v.getD (V x i) else V x i) (if v = none then N + 1 else N) (s + 1) (m_go A (some (b, j, v))) := by
  obtain ⟨h1, h2, h3, h4, h5, h6, h7⟩ := h
  obtain ⟨g1, g2⟩ := JJ_go hal h1 hb hj hx (by rw [h3]; exact hN) hB hc (fun e => by rw [h3, h2 b hb j hj]; exact hD e)
  have hrok : m_rok (some (b, j, v)) := fun b' j' v' e => by
    cases e
    exact ⟨hb, hj, fun x hv hc2 => by have := hx x hv; rw [hc2] at this; exact absurd this (by decide)⟩
  have hT1 : 1 ≤ m_T A := by have := hal.2.2.2.1.2; omega
  refine ⟨g1, fun x hx i hi => ?_, ?_, by rw [cs4_go, h4], ?_, qp_go h6 b j v, rl_go h7 hal.1 hrok⟩
  · rw [g2 x hx i hi, h2 x hx i hi]
  · have hn := hal.2.2.2.1
    have e7 : (m_go A (some (b, j, v))).1 40 7 = if v.isNone then A.1 40 7 + 1 else A.1 40 7 := by
      simp only [m_go]
      split
      · rw [tal_7 _ (by omega), do_7]; rfl
      · split
        · rw [tal_7 _ (by omega), do_7, (m_near_keep _ b).2.2.2.2.2]; simp [m_i]
        · split
          · rw [tal_7 _ (by omega), join_7]
          · rw [tal_7 _ (by omega), join_7]; simp [m_f, m_i]
    show ((m_go A (some (b, j, v))).1 40 7).toNatClampNeg = _
    rw [e7, hn.1, h3]
    cases v with
    | none => rw [if_pos (show (none : Option Int32).isNone = true from rfl), if_pos rfl, ← nI_succ, z_cl (by omega)]
    | some x => rw [if_neg (show ¬ (some x : Option Int32).isNone = true by simp), if_neg (by simp), z_cl (by omega)]
  · rw [m_T_eq (go_T A _)]
    exact hc_le (hc_go h5 b j v) (by omega)
theorem can_F {X : mS} (h : m_can X none = true) : m_F X = [] ∧ X.1 39 1 = 0 := of_decide_eq_true h
theorem begun_43 {X : mS} (hN : m_N X < 200) : (m_begun X).1 43 (m_N X) = X.1 40 9 := by simp [m_begun, m_i, hN]
theorem gets_43 (X : mS) (k b j f t : Nat) : (m_gets X k b j f).1 43 t = X.1 43 t := by
  simp only [m_gets]
  split <;> simp [m_i, m_wx]
theorem tal_43 (X : mS) (w : Nat) (p : UInt32) (t : Nat) : (m_tal X w p).1 43 t = X.1 43 t := by simp [m_tal, m_i, m_c]
theorem do_43 {X : mS} (hN : m_N X < 200) (b j : Nat) : (m_do X b j none).1 43 (m_N X) = X.1 40 9 := (gets_43 _ _ _ _ _ _).trans (begun_43 hN)
theorem join_43 {X : mS} (hN : m_N X < 200) (b j : Nat) : (m_join X b j none).1 43 (m_N X) = X.1 40 9 := begun_43 (X := m_q X b (m_Q X b ++ [(j, m_T X, none, m_N X)])) hN
theorem go_43 (hN : m_N A < 200) (b j : Nat) : (m_go A (some (b, j, none))).1 43 (m_N A) = A.1 40 9 := by
  simp only [m_go]
  split
  · rw [tal_43]; exact do_43 (X := m_use A b) hN b j
  · split
    · rw [tal_43]
      obtain ⟨nQ, nF, n25, n29, n9, n7⟩ := m_near_keep (m_i A 39 1 (A.1 39 1 - 1)) b
      have e7 : (m_near (m_i A 39 1 (A.1 39 1 - 1)) b).1 40 7 = A.1 40 7 := n7.trans (by simp [m_i])
      have e9 : (m_near (m_i A 39 1 (A.1 39 1 - 1)) b).1 40 9 = A.1 40 9 := n9.trans (by simp [m_i])
      have := do_43 (X := m_near (m_i A 39 1 (A.1 39 1 - 1)) b) (by rw [m_N_eq e7]; exact hN) b j
      rw [m_N_eq e7, e9] at this
      exact this
    · split
      · rw [tal_43]; exact join_43 hN b j
      · rw [tal_43]
        generalize hX : m_f (m_i (m_i A 29 b 3) 30 b (A.1 40 9 + A.1 25 4)) (m_F A ++ [b]) = X
        have e40 : X.1 40 = A.1 40 := by subst hX; funext t; simp [m_f, m_i]
        have eN : m_N X = m_N A := m_N_eq (by rw [e40])
        have := join_43 (X := X) (by rw [eN]; exact hN) b j
        rw [eN, e40] at this
        exact this
theorem st_beg {b j : Nat} {v : Option Int32} (hb : b < 16) (hj : j < 4) (hx : ∀ x, v = some x → 0 ≤ x) (hN : N + 1 < 200) (hD : v = none → D N = (b, V b j)) : ∀ f (A : mS) (B Z : Nat), m_al B 0 A → m_live Z A → Z + 10 ≤ m_T A + (f + 1) → B + (f + 1) < 2 ^ 30 → m_st 0 D V N s A →
    m_st 0 D (fun x i => if x = b ∧ j = i then v.getD (V x i) else V x i) (if v = none then N + 1 else N) (s + 1) (m_beg (f + 1) A (some (b, j, v))) ∧ m_T A < m_T (m_beg (f + 1) A (some (b, j, v))) ∧ (v = none → (m_beg (f + 1) A (some (b, j, v))).1 43 N = (m_beg (f + 1) A (some (b, j, v))).1 40 9) := by
  have hrok : m_rok (some (b, j, v)) := fun b' j' v' e => by
    cases e
    exact ⟨hb, hj, fun x hv hc2 => by have := hx x hv; rw [hc2] at this; exact absurd this (by decide)⟩
  have fin : ∀ (A : mS) (B f : Nat), m_al B 0 A → B + 1 < 2 ^ 30 → m_st 0 D V N s A → m_can (m_pass A) (some (b, j, v)) = true →
      m_st 0 D (fun x i => if x = b ∧ j = i then v.getD (V x i) else V x i) (if v = none then N + 1 else N) (s + 1) (m_beg (f + 1) A (some (b, j, v))) ∧ m_T A < m_T (m_beg (f + 1) A (some (b, j, v))) ∧ (v = none → (m_beg (f + 1) A (some (b, j, v))).1 43 N = (m_beg (f + 1) A (some (b, j, v))).1 40 9) := by
    intro A B f hal hB h hc
    obtain ⟨p1, p2⟩ := al_pass hal (by omega)
    have q1 := st_pass hal (by omega) (by omega) h
    have e : m_beg (f + 1) A (some (b, j, v)) = m_go (m_pass A) (some (b, j, v)) := by simp only [m_beg, hc, if_true]
    rw [e]
    refine ⟨st_go (B := B + 1) p1 hB hb hj hx hN hc hD q1, ?_, fun hv => ?_⟩
    · rw [m_T_eq (go_T _ _), p2]; exact Nat.lt_succ_self _
    · subst hv
      have := go_43 (A := m_pass A) (by rw [q1.2.2.1]; omega) b j
      rw [q1.2.2.1] at this
      rw [this, go_T]
  intro f
  induction f with
  | zero =>
    intro A B Z hal hl hZ hB h
    obtain ⟨p1, p2⟩ := al_pass hal (by omega)
    have hl2 := live_pass hl hal.1 hal.2.1 hal.2.2.1 (by omega)
    exact fin A B 0 hal (by omega) h (live_can hl2 p1.1 p1.2.1 p1.2.2.1 (by omega) (by omega) hrok)
  | succ f ih =>
    intro A B Z hal hl hZ hB h
    obtain ⟨p1, p2⟩ := al_pass hal (by omega)
    have hl2 := live_pass hl hal.1 hal.2.1 hal.2.2.1 (by omega)
    by_cases hc : m_can (m_pass A) (some (b, j, v)) = true
    · exact fin A B (f + 1) hal (by omega) h hc
    · have e : m_beg (f + 1 + 1) A (some (b, j, v)) = m_beg (f + 1) (m_stall (m_pass A)) (some (b, j, v)) := by simp only [m_beg, if_neg hc]
      rw [e]
      have eT : m_T (m_stall (m_pass A)) = m_T A + 1 := (m_T_eq (m_stall_T _)).trans p2
      obtain ⟨i1, i2, i3⟩ := ih (m_stall (m_pass A)) (B + 1) Z (al_01 (al_stall p1)) (live_stall hl2) (by rw [eT]; omega) (by omega) (st_stall (st_pass hal (by omega) (by omega) h))
      rw [eT] at i2
      exact ⟨i1, by omega, i3⟩
theorem st_begF : ∀ f (A : mS) (B Z : Nat), m_al B 0 A → m_live Z A → Z + 10 ≤ m_T A + (f + 1) → B + (f + 1) < 2 ^ 30 → N < 200 → m_st 0 D V N s A →
    m_st 0 D V N s (m_beg (f + 1) A none) ∧ m_T A < m_T (m_beg (f + 1) A none) ∧ m_F (m_beg (f + 1) A none) = [] ∧ (m_beg (f + 1) A none).1 39 1 = 0 := by
  have hrok : m_rok none := fun b' j' v' e => by cases e
  have fin : ∀ (A : mS) (B f : Nat), m_al B 0 A → B < 2 ^ 30 → N < 200 → m_st 0 D V N s A → m_can (m_pass A) none = true →
      m_st 0 D V N s (m_beg (f + 1) A none) ∧ m_T A < m_T (m_beg (f + 1) A none) ∧ m_F (m_beg (f + 1) A none) = [] ∧ (m_beg (f + 1) A none).1 39 1 = 0 := by
    intro A B f hal hB hN h hc
    obtain ⟨p1, p2⟩ := al_pass hal hB
    have e : m_beg (f + 1) A none = m_pass A := by simp only [m_beg, hc, if_true]; rfl
    rw [e]
    have hc2 : m_F (m_pass A) = [] ∧ (m_pass A).1 39 1 = 0 := can_F hc
    exact ⟨st_10 (st_pass hal hB hN h), by rw [p2]; exact Nat.lt_succ_self _, hc2⟩
  intro f
  induction f with
  | zero =>
    intro A B Z hal hl hZ hB hN h
    obtain ⟨p1, p2⟩ := al_pass hal (by omega)
    have hl2 := live_pass hl hal.1 hal.2.1 hal.2.2.1 (by omega)
    exact fin A B 0 hal (by omega) hN h (live_can hl2 p1.1 p1.2.1 p1.2.2.1 (by omega) (by omega) hrok)
  | succ f ih =>
    intro A B Z hal hl hZ hB hN h
    obtain ⟨p1, p2⟩ := al_pass hal (by omega)
    have hl2 := live_pass hl hal.1 hal.2.1 hal.2.2.1 (by omega)
    by_cases hc : m_can (m_pass A) none = true
    · exact fin A B (f + 1) hal (by omega) hN h hc
    · have e : m_beg (f + 1 + 1) A none = m_beg (f + 1) (m_stall (m_pass A)) none := by simp only [m_beg, if_neg hc]
      rw [e]
      have eT : m_T (m_stall (m_pass A)) = m_T A + 1 := (m_T_eq (m_stall_T _)).trans p2
      obtain ⟨i1, i2, i3⟩ := ih (m_stall (m_pass A)) (B + 1) Z (al_01 (al_stall p1)) (live_stall hl2) (by rw [eT]; omega) (by omega) hN (st_stall (st_pass hal (by omega) hN h))
      rw [eT] at i2
      exact ⟨i1, by omega, i3⟩
theorem st_idle (hN : N < 200) : ∀ n (A : mS) (B : Nat), m_al B 0 A → B + n < 2 ^ 30 → m_st 0 D V N s A → m_st 0 D V N s (m_idle n A) ∧ m_T (m_idle n A) = m_T A + n := by
  intro n
  induction n with
  | zero => intro A B _ _ h; exact ⟨h, rfl⟩
  | succ n ih =>
    intro A B hal hB h
    obtain ⟨p1, p2⟩ := al_pass hal (by omega)
    obtain ⟨i1, i2⟩ := ih (m_pass A) (B + 1) (al_01 p1) (by omega) (st_10 (st_pass hal (by omega) hN h))
    refine ⟨i1, ?_⟩
    show m_T (m_idle n (m_pass A)) = _
    rw [i2, p2]; omega
end ST
