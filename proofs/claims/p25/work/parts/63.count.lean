/-! counts: how many LOADS were answered -/
theorem gets_8 (A : mS) (k b j f : Nat) : (m_gets A k b j f).1 40 8 = A.1 40 8 + 1 := by
  unfold m_gets
  by_cases hk : k < 200
  · simp [hk, m_i, m_wx]
  · simp [hk, m_i, m_wx]
theorem lay_8 (A : mS) (b j : Nat) (v : Int32) : (m_lay A b j v).1 40 8 = A.1 40 8 := by simp [m_lay, m_i]
/-- at most g answered -/
def m_g8 (G : Nat) (A : mS) : Prop := ∃ g, A.1 40 8 = nI g ∧ g ≤ G
theorem g8_same {G : Nat} {A A' : mS} (h : m_g8 G A) (e : A'.1 40 8 = A.1 40 8) : m_g8 G A' := by
  obtain ⟨g, h1, h2⟩ := h; exact ⟨g, e.trans h1, h2⟩
theorem g8_le {G G' : Nat} {A : mS} (h : m_g8 G A) (e : G ≤ G') : m_g8 G' A := by
  obtain ⟨g, h1, h2⟩ := h; exact ⟨g, h1, by omega⟩
theorem g8_gets {G : Nat} {A : mS} (h : m_g8 G A) (k b j f : Nat) : m_g8 (G + 1) (m_gets A k b j f) := by
  obtain ⟨g, h1, h2⟩ := h
  exact ⟨g + 1, by rw [gets_8, h1, ← nI_succ], by omega⟩
theorem g8_serve {G : Nat} {A : mS} (h : m_g8 G A) (b : Nat) (q : mQ) : m_g8 (G + 1) (m_serve b A q) := by
  unfold m_serve
  cases q.2.2.1 with
  | some v => exact g8_le (g8_same h (lay_8 A b q.1 v)) (by omega)
  | none => exact g8_gets h _ _ _ _
theorem g8_fold (b : Nat) (l : List mQ) : ∀ {G : Nat} {A : mS}, m_g8 G A → m_g8 (G + l.length) (l.foldl (m_serve b) A) := by
  induction l with
  | nil => intro G A h; exact h
  | cons q l ih =>
    intro G A h
    exact g8_le (ih (g8_serve h b q)) (by simp only [List.length_cons]; omega)
theorem near_8 (A : mS) (b : Nat) : (m_near A b).1 40 8 = A.1 40 8 := by
  have := (m_room_keep A (b % 4)).2.2.2.2.2
  simpa [m_near, m_i, m_r] using this
theorem g8_come {G : Nat} {A : mS} (h : m_g8 G A) {b : Nat} (hq : (m_Q A b).length ≤ 4) : m_g8 (G + 4) (m_come A b) := by
  have h1 : m_g8 G (m_near (m_take (m_f A ((m_F A).erase b)) b) b) := g8_same h ((near_8 _ b).trans (by simp [m_take, m_f]))
  have h2 := g8_fold b (m_Q A b) h1
  exact g8_le (G := G + (m_Q A b).length) (A := m_come A b) h2 (by omega)
theorem g8_p1 {G : Nat} {A : mS} (h : m_g8 G A) (b : Nat) : m_g8 G (m_p1 A b) := by
  refine g8_same h ?_
  unfold m_p1
  split
  · simp [m_gone, m_tal, m_far, m_c, m_i]
  · rfl
theorem g8_p2 {G : Nat} {A : mS} (h : m_g8 G A) (b : Nat) (hb : b < 16) (hI : m_inv 16 A) : m_g8 (G + 4) (m_p2 A b) := by
  unfold m_p2
  split
  · exact g8_come h (hI.2.2.2.1.2 b hb).1.1
  · exact g8_le h (by omega)
theorem z_loop (f : mS → Nat → mS) (P : Nat → mS → Prop) (hs : ∀ k A, k < 16 → P k A → P (k + 1) (f A k)) (A : mS) (h0 : P 0 A) : ∀ k, k ≤ 16 → P k ((List.range k).foldl f A) := by
  intro k
  induction k with
  | zero => intro _; exact h0
  | succ k ih =>
    intro hk
    rw [z_fold_succ]
    exact hs k _ (by omega) (ih (by omega))
theorem z_pass (P : Nat → mS → Prop) (Q : Nat → mS → Prop) (hs : ∀ k A, k < 16 → P k A → P (k + 1) (m_p1 A k)) (hpq : ∀ A, P 16 A → Q 0 A) (ht : ∀ k A, k < 16 → Q k A → Q (k + 1) (m_p2 A k)) (A : mS) (h0 : P 0 (m_tick A)) : Q 16 (m_pass A) :=
  z_loop m_p2 Q ht _ (hpq _ (z_loop m_p1 P hs _ h0 16 (Nat.le_refl _))) 16 (Nat.le_refl _)
theorem g8_pass {G : Nat} {A : mS} (h : m_g8 G A) (hI : m_inv 16 A) : m_g8 (G + 64) (m_pass A) := by
  have hI1 := inv_tick hI
  have h1 : m_g8 G (m_tick A) := g8_same h (by simp [m_tick, m_i])
  exact (z_pass (fun _ A => m_inv 16 A ∧ m_g8 G A) (fun k A => m_inv 16 A ∧ m_g8 (G + 4 * k) A) (fun k A hk i => ⟨inv_p1 i.1 hk, g8_p1 i.2 k⟩) (fun A i => i) (fun k A hk i => ⟨inv_p2 i.1 hk, g8_le (g8_p2 i.2 k hk i.1) (by omega)⟩) A ⟨hI1, h1⟩).2
theorem g8_do {G : Nat} {A : mS} (h : m_g8 G A) (b j : Nat) (v : Option Int32) : m_g8 (G + 1) (m_do A b j v) := by
  cases v with
  | some x => exact g8_le (g8_same h (lay_8 A b j x)) (by omega)
  | none => exact g8_gets (g8_same h ((begun_keep A).2.2.2.2.2.2.2.1 8 (by omega))) _ _ _ _
theorem tal_8 (A : mS) {w : Nat} (hw : w < 7) (p : UInt32) : (m_tal A w p).1 40 8 = A.1 40 8 := by
  have e9 : ¬ (8 = w) := by omega
  simp [m_tal, m_i, m_c, e9]
theorem join_8 (A : mS) (b j : Nat) (v : Option Int32) : (m_join A b j v).1 40 8 = A.1 40 8 := by
  cases v with
  | some x => rfl
  | none => exact (begun_keep (m_q A b (m_Q A b ++ [(j, m_T A, none, m_N A)]))).2.2.2.2.2.2.2.1 8 (by omega)
theorem g8_go {G : Nat} {A : mS} (h : m_g8 G A) (q : mR) : m_g8 (G + 1) (m_go A q) := by
  obtain _ | ⟨b, j, v⟩ := q
  · exact g8_le h (by omega)
  · simp only [m_go]
    split
    · exact g8_same (g8_do (A := m_use A b) h b j v) (tal_8 _ (by omega) _)
    · split
      · refine g8_same (g8_do (A := m_near (m_i A 39 1 (A.1 39 1 - 1)) b) (g8_same h ?_) b j v) (tal_8 _ (by omega) _)
        rw [near_8]; simp [m_i]
      · split
        · exact g8_le (g8_same h ((tal_8 _ (by omega) _).trans (join_8 A b j v))) (by omega)
        · refine g8_le (g8_same h ((tal_8 _ (by omega) _).trans ((join_8 _ b j v).trans ?_))) (by omega)
          simp [m_i, m_f]
/-! how many LOADS began -/
theorem do_7 (A : mS) (b j : Nat) (v : Option Int32) : (m_do A b j v).1 40 7 = if v.isNone then A.1 40 7 + 1 else A.1 40 7 := by
  cases v with
  | some x => simp [m_do, m_lay, m_i]
  | none =>
    have : ∀ A : mS, ∀ k f, (m_gets A k b j f).1 40 7 = A.1 40 7 := by
      intro A k f
      unfold m_gets
      by_cases hk : k < 200
      · simp [hk, m_i, m_wx]
      · simp [hk, m_i, m_wx]
    simp [m_do, this, begun_7]
theorem join_7 (A : mS) (b j : Nat) (v : Option Int32) : (m_join A b j v).1 40 7 = if v.isNone then A.1 40 7 + 1 else A.1 40 7 := by
  cases v with
  | some x => rfl
  | none => simp [m_join, begun_7, m_q]
theorem tal_7 (A : mS) {w : Nat} (hw : w < 7) (p : UInt32) : (m_tal A w p).1 40 7 = A.1 40 7 := by
  have e9 : ¬ (7 = w) := by omega
  simp [m_tal, m_i, m_c, e9]
theorem go_7 (A : mS) (q : mR) : (m_go A q).1 40 7 = A.1 40 7 ∨ (m_go A q).1 40 7 = A.1 40 7 + 1 := by
  obtain _ | ⟨b, j, v⟩ := q
  · exact Or.inl rfl
  · have aux : ∀ x y : Int32, (x = if v.isNone then y + 1 else y) → x = y ∨ x = y + 1 := by
      intro x y e; cases v with
      | none => exact Or.inr e
      | some _ => exact Or.inl e
    simp only [m_go]
    split
    · exact aux _ _ ((tal_7 _ (by omega) _).trans (do_7 (m_use A b) b j v))
    · split
      · have e := (tal_7 (m_do (m_near (m_i A 39 1 (A.1 39 1 - 1)) b) b j v) (w := 3) (by omega) 1074266112).trans (do_7 _ b j v)
        have e2 : (m_near (m_i A 39 1 (A.1 39 1 - 1)) b).1 40 7 = A.1 40 7 := (m_near_keep _ b).2.2.2.2.2.trans (by simp [m_i])
        rw [e2] at e
        exact aux _ _ e
      · split
        · exact aux _ _ ((tal_7 _ (by omega) _).trans (join_7 A b j v))
        · have e := (tal_7 (m_join (m_ftch A b) b j v) (w := 2) (by omega) 1083703296).trans (join_7 _ b j v)
          have e2 : (m_ftch A b).1 40 7 = A.1 40 7 := by simp [m_i, m_f]
          rw [e2] at e
          exact aux _ _ e
/-- fewer LOADS than TICKS (e = 1: one less still) -/
def m_nb (e : Nat) (A : mS) : Prop := A.1 40 7 = nI (m_N A) ∧ m_N A + e ≤ m_T A
theorem m_N_eq {A A' : mS} (h : A'.1 40 7 = A.1 40 7) : m_N A' = m_N A := by unfold m_N; rw [h]
theorem nb_same {e : Nat} {A A' : mS} (h : m_nb e A) (e7 : A'.1 40 7 = A.1 40 7) (e9 : A'.1 40 9 = A.1 40 9) : m_nb e A' :=
  ⟨e7.trans (h.1.trans (congrArg nI (m_N_eq e7).symm)), by rw [m_N_eq e7, m_T_eq e9]; exact h.2⟩
theorem nb_go {A : mS} {B : Nat} (h : m_nb 1 A) (ht : m_tb B A) (hB : B < 2 ^ 30) (q : mR) : m_nb 0 (m_go A q) := by
  have h2 := h.2
  have ht2 := ht.2
  rcases go_7 A q with e | e
  · have := nb_same h e (go_T A q)
    exact ⟨this.1, by have := this.2; omega⟩
  · rw [h.1, ← nI_succ] at e
    have eN : m_N (m_go A q) = m_N A + 1 := by
      show ((m_go A q).1 40 7).toNatClampNeg = _
      rw [e, z_cl (by omega)]
    exact ⟨by rw [e, eN], by rw [eN, m_T_eq (go_T A q)]; omega⟩
