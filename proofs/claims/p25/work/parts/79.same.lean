/-! what is FAR, held, got does not matter to the TICKS: A, A' alike but for that, and for dues that wait for nothing -/
def m_e (A A' : mS) : Prop := (∀ q t, q = 25 ∨ q = 28 ∨ q = 29 ∨ q = 39 ∨ q = 40 → A.1 q t = A'.1 q t) ∧ (∀ t, A.1 29 t = 2 ∨ A.1 29 t = 3 → A.1 30 t = A'.1 30 t) ∧ A.2 = A'.2
theorem e_new {A A' : mS} (h : ∀ t, A.1 25 t = A'.1 25 t) : m_e (m_new A) (m_new A') := by
  refine ⟨fun q t hq => ?_, fun t ht => ?_, rfl⟩
  · rcases hq with e | e | e | e | e <;> subst e <;> simp [m_new, h]
  · simp [m_new] at ht
theorem e_i {A A' : mS} (h : m_e A A') {k : Nat} (s : Nat) {v v' : Int32} (hv : k = 25 ∨ k = 28 ∨ k = 39 ∨ k = 40 → v = v') (hk : k ≠ 29 ∧ k ≠ 30) : m_e (m_i A k s v) (m_i A' k s v') := by
  obtain ⟨h1, h2, h3⟩ := h
  refine ⟨fun q t hq => ?_, fun t ht => ?_, h3⟩
  · simp only [m_i]
    by_cases e : q = k ∧ t = s
    · rw [if_pos e, if_pos e]; exact hv (by omega)
    · rw [if_neg e, if_neg e]; exact h1 q t hq
  · have n1 : ∀ s', ¬ (29 = k ∧ s' = s) := by omega
    have n2 : ∀ s', ¬ (30 = k ∧ s' = s) := by omega
    simp only [m_i, if_neg (n1 t), if_neg (n2 t)] at ht ⊢
    exact h2 t ht
theorem e_w {A A' : mS} (h : m_e A A') (b : Nat) (v : Int32) (hv : v ≠ 2 ∧ v ≠ 3) : m_e (m_i A 29 b v) (m_i A' 29 b v) := by
  obtain ⟨h1, h2, h3⟩ := h
  refine ⟨fun q t hq => ?_, fun t ht => ?_, h3⟩
  · simp only [m_i]
    by_cases e : q = 29 ∧ t = b
    · rw [if_pos e, if_pos e]
    · rw [if_neg e, if_neg e]; exact h1 q t hq
  · simp only [m_i] at ht ⊢
    by_cases e : t = b
    · subst e; simp at ht; rcases ht with e | e
      · exact absurd e hv.1
      · exact absurd e hv.2
    · simp [e] at ht ⊢; exact h2 t ht
theorem e_d {A A' : mS} (h : m_e A A') (b : Nat) (v d d' : Int32) (hd : d = d') : m_e (m_i (m_i A 29 b v) 30 b d) (m_i (m_i A' 29 b v) 30 b d') := by
  subst hd
  obtain ⟨h1, h2, h3⟩ := h
  refine ⟨fun q t hq => ?_, fun t ht => ?_, h3⟩
  · simp only [m_i]
    have : ¬ (q = 30 ∧ t = b) := by omega
    rw [if_neg this, if_neg this]
    by_cases e : q = 29 ∧ t = b
    · rw [if_pos e, if_pos e]
    · rw [if_neg e, if_neg e]; exact h1 q t hq
  · simp only [m_i] at ht ⊢
    by_cases e : t = b
    · subst e; simp
    · simp [e] at ht ⊢; exact h2 t ht
theorem e_2 {A A' : mS} {f : mS → mS} (h : m_e A A') (hf : ∀ X : mS, (f X).1 = X.1) (hg : (f A).2 = (f A').2) : m_e (f A) (f A') := by
  obtain ⟨h1, h2, h3⟩ := h
  exact ⟨fun q t hq => by rw [hf, hf]; exact h1 q t hq, fun t ht => by rw [hf] at ht; rw [hf, hf]; exact h2 t ht, hg⟩
theorem e_r {A A' : mS} (h : m_e A A') (r : Nat) (l : List Nat) : m_e (m_r A r l) (m_r A' r l) :=
  e_2 (f := fun X => m_r X r l) h (fun _ => rfl) (by simp only [m_r]; rw [h.2.2])
theorem e_f {A A' : mS} (h : m_e A A') (l : List Nat) : m_e (m_f A l) (m_f A' l) :=
  e_2 (f := fun X => m_f X l) h (fun _ => rfl) (by simp only [m_f]; rw [h.2.2])
theorem e_q {A A' : mS} (h : m_e A A') (b : Nat) (l : List mQ) : m_e (m_q A b l) (m_q A' b l) :=
  e_2 (f := fun X => m_q X b l) h (fun _ => rfl) (by simp only [m_q]; rw [h.2.2])
theorem e_wx {A A' : mS} (h : m_e A A') (w x : Int64) : m_e (m_wx A w x) (m_wx A' w x) :=
  e_2 (f := fun X => m_wx X w x) h (fun _ => rfl) (by simp only [m_wx]; rw [h.2.2])
theorem e_c {A A' : mS} (h : m_e A A') (c : UInt32) : m_e (m_c A c) (m_c A' c) :=
  e_2 (f := fun X => m_c X c) h (fun _ => rfl) (by simp only [m_c]; rw [h.2.2])
theorem e_tal {A A' : mS} (h : m_e A A') (w : Nat) (p : UInt32) : m_e (m_tal A w p) (m_tal A' w p) := by
  unfold m_tal
  have : m_C A = m_C A' := by unfold m_C; rw [h.2.2]
  rw [this]
  exact e_c (e_i h w (fun _ => by rw [h.1 40 w (by omega)]) (by omega)) _
theorem e_far {A A' : mS} (h : m_e A A') (b : Nat) : m_e (m_far A b) (m_far A' b) := by
  obtain ⟨h1, h2, h3⟩ := h
  refine ⟨fun q t hq => ?_, fun t ht => ?_, h3⟩
  · have n26 : ¬ q = 26 := by omega
    simp only [m_far, n26, false_and, if_false]
    by_cases e : (q = 28 ∨ q = 29) ∧ t = b
    · rw [if_pos e, if_pos e]
    · rw [if_neg e, if_neg e]; exact h1 q t hq
  · simp only [m_far] at ht ⊢
    by_cases e : t = b
    · subst e; simp at ht
    · simp [e] at ht ⊢; exact h2 t ht
theorem e_gone {A A' : mS} (h : m_e A A') (b : Nat) : m_e (m_gone A b) (m_gone A' b) := e_tal (e_far h b) _ _
theorem e_out {A A' : mS} (h : m_e A A') (b : Nat) : m_e (m_out A b) (m_out A' b) := by
  unfold m_out
  rw [h.1 28 b (by omega), h.1 39 1 (by omega), h.1 25 1 (by omega), h.1 25 4 (by omega), h.1 40 9 (by omega), h.1 40 5 (by omega)]
  split
  · exact e_w h b 0 (by decide)
  · split
    · exact e_i (e_d h b 2 _ _ rfl) 1 (fun _ => rfl) (by omega)
    · exact e_gone (e_i h 5 (fun _ => rfl) (by omega)) b
theorem e_room {A A' : mS} (h : m_e A A') (r : Nat) : m_e (m_room A r) (m_room A' r) := by
  unfold m_room
  have : m_R A = m_R A' := by unfold m_R; rw [h.2.2]
  rw [this, h.1 25 0 (by omega)]
  split
  · exact h
  · split
    · exact h
    · exact e_out (e_r h r _) _
theorem e_near {A A' : mS} (h : m_e A A') (b : Nat) : m_e (m_near A b) (m_near A' b) := by
  unfold m_near
  have h2 := e_room h (b % 4)
  have : m_R (m_room A (b % 4)) = m_R (m_room A' (b % 4)) := by unfold m_R; rw [h2.2.2]
  rw [this]
  exact e_w (e_r h2 _ _) b 1 (by decide)
theorem e_gets {A A' : mS} (h : m_e A A') (k b j f : Nat) : m_e (m_gets A k b j f) (m_gets A' k b j f) := by
  unfold m_gets
  have hT : A.1 40 9 = A'.1 40 9 := h.1 40 9 (by omega)
  have hW : m_W A = m_W A' := by unfold m_W; rw [h.2.2]
  have hX : m_X A = m_X A' := by unfold m_X; rw [h.2.2]
  have h3 : m_e (m_i (m_wx (m_i A 40 8 (A.1 40 8 + 1)) (m_W (m_i A 40 8 (A.1 40 8 + 1)) + (A.1 40 9 - nI f).toInt64) (m_X (m_i A 40 8 (A.1 40 8 + 1)) + (A.1 40 9 - nI f).toInt64 * (A.1 40 9 - nI f).toInt64)) 39 2 (if (m_wx (m_i A 40 8 (A.1 40 8 + 1)) (m_W (m_i A 40 8 (A.1 40 8 + 1)) + (A.1 40 9 - nI f).toInt64) (m_X (m_i A 40 8 (A.1 40 8 + 1)) + (A.1 40 9 - nI f).toInt64 * (A.1 40 9 - nI f).toInt64)).1 39 2 < A.1 40 9 - nI f then A.1 40 9 - nI f else (m_wx (m_i A 40 8 (A.1 40 8 + 1)) (m_W (m_i A 40 8 (A.1 40 8 + 1)) + (A.1 40 9 - nI f).toInt64) (m_X (m_i A 40 8 (A.1 40 8 + 1)) + (A.1 40 9 - nI f).toInt64 * (A.1 40 9 - nI f).toInt64)).1 39 2)) (m_i (m_wx (m_i A' 40 8 (A'.1 40 8 + 1)) (m_W (m_i A' 40 8 (A'.1 40 8 + 1)) + (A'.1 40 9 - nI f).toInt64) (m_X (m_i A' 40 8 (A'.1 40 8 + 1)) + (A'.1 40 9 - nI f).toInt64 * (A'.1 40 9 - nI f).toInt64)) 39 2 (if (m_wx (m_i A' 40 8 (A'.1 40 8 + 1)) (m_W (m_i A' 40 8 (A'.1 40 8 + 1)) + (A'.1 40 9 - nI f).toInt64) (m_X (m_i A' 40 8 (A'.1 40 8 + 1)) + (A'.1 40 9 - nI f).toInt64 * (A'.1 40 9 - nI f).toInt64)).1 39 2 < A'.1 40 9 - nI f then A'.1 40 9 - nI f else (m_wx (m_i A' 40 8 (A'.1 40 8 + 1)) (m_W (m_i A' 40 8 (A'.1 40 8 + 1)) + (A'.1 40 9 - nI f).toInt64) (m_X (m_i A' 40 8 (A'.1 40 8 + 1)) + (A'.1 40 9 - nI f).toInt64 * (A'.1 40 9 - nI f).toInt64)).1 39 2)) := by
    have h1 := e_i h (k := 40) 8 (v := A.1 40 8 + 1) (v' := A'.1 40 8 + 1) (fun _ => by rw [h.1 40 8 (by omega)]) (by omega)
    have hW1 : m_W (m_i A 40 8 (A.1 40 8 + 1)) = m_W (m_i A' 40 8 (A'.1 40 8 + 1)) := hW
    have hX1 : m_X (m_i A 40 8 (A.1 40 8 + 1)) = m_X (m_i A' 40 8 (A'.1 40 8 + 1)) := hX
    rw [hT, hW1, hX1]
    have h2 := e_wx h1 (m_W (m_i A' 40 8 (A'.1 40 8 + 1)) + (A'.1 40 9 - nI f).toInt64) (m_X (m_i A' 40 8 (A'.1 40 8 + 1)) + (A'.1 40 9 - nI f).toInt64 * (A'.1 40 9 - nI f).toInt64)
    rw [h2.1 39 2 (by omega)]
    exact e_i h2 2 (fun _ => rfl) (by omega)
  dsimp only
  split
  · rw [← hT] at *
    exact e_i (e_i h3 k (fun hc => by omega) (by omega)) k (fun hc => by omega) (by omega)
  · exact h3
theorem e_lay {A A' : mS} (h : m_e A A') (b j : Nat) (v : Int32) : m_e (m_lay A b j v) (m_lay A' b j v) := by
  unfold m_lay
  rw [h.1 28 b (by omega)]
  exact e_i (e_i h _ (fun hc => by omega) (by omega)) b (fun _ => rfl) (by omega)
theorem e_serve {A A' : mS} (h : m_e A A') (b : Nat) (q : mQ) : m_e (m_serve b A q) (m_serve b A' q) := by
  unfold m_serve
  split
  · exact e_lay h _ _ _
  · exact e_gets h _ _ _ _
theorem e_fold {f : mS → mQ → mS} (hf : ∀ A A' q, m_e A A' → m_e (f A q) (f A' q)) (l : List mQ) : ∀ {A A' : mS}, m_e A A' → m_e (l.foldl f A) (l.foldl f A') := by
  induction l with
  | nil => intro A A' h; exact h
  | cons q l ih => intro A A' h; exact ih (hf A A' q h)
theorem e_take {A A' : mS} (h : m_e A A') (b : Nat) : m_e (m_take A b) (m_take A' b) := by
  obtain ⟨h1, h2, h3⟩ := h
  refine ⟨fun q t hq => ?_, fun t ht => ?_, h3⟩
  · have n27 : ¬ q = 27 := by omega
    simp only [m_take, n27, false_and, if_false]
    by_cases e : q = 28 ∧ t = b
    · rw [if_pos e, if_pos e]
    · rw [if_neg e, if_neg e]; exact h1 q t hq
  · simp [m_take] at ht ⊢
    exact h2 t ht
theorem e_come {A A' : mS} (h : m_e A A') (b : Nat) : m_e (m_come A b) (m_come A' b) := by
  have hF : m_F A = m_F A' := by unfold m_F; rw [h.2.2]
  have hQ : m_Q A = m_Q A' := by unfold m_Q; rw [h.2.2]
  unfold m_come
  rw [hF, hQ]
  exact e_q (e_fold (fun A A' q h => e_serve h b q) _ (e_near (e_take (e_f h _) b) b)) b []
theorem e_p1 {A A' : mS} (h : m_e A A') (b : Nat) : m_e (m_p1 A b) (m_p1 A' b) := by
  unfold m_p1
  by_cases hc : A.1 29 b = 2 ∧ A.1 30 b = A.1 40 9
  · have hc' : A'.1 29 b = 2 ∧ A'.1 30 b = A'.1 40 9 := by
      rw [← h.1 29 b (by omega), ← h.2.1 b (Or.inl hc.1), ← h.1 40 9 (by omega)]; exact hc
    rw [if_pos hc, if_pos hc', h.1 39 1 (by omega)]
    exact e_gone (e_i h 1 (fun _ => rfl) (by omega)) b
  · have hc' : ¬ (A'.1 29 b = 2 ∧ A'.1 30 b = A'.1 40 9) := by
      intro hx
      have g1 : A.1 29 b = 2 := (h.1 29 b (by omega)).trans hx.1
      exact hc ⟨g1, by rw [h.2.1 b (Or.inl g1), h.1 40 9 (by omega)]; exact hx.2⟩
    rw [if_neg hc, if_neg hc']; exact h
theorem e_p2 {A A' : mS} (h : m_e A A') (b : Nat) : m_e (m_p2 A b) (m_p2 A' b) := by
  unfold m_p2
  by_cases hc : A.1 29 b = 3 ∧ A.1 30 b = A.1 40 9
  · have hc' : A'.1 29 b = 3 ∧ A'.1 30 b = A'.1 40 9 := by
      rw [← h.1 29 b (by omega), ← h.2.1 b (Or.inr hc.1), ← h.1 40 9 (by omega)]; exact hc
    rw [if_pos hc, if_pos hc']
    exact e_come h b
  · have hc' : ¬ (A'.1 29 b = 3 ∧ A'.1 30 b = A'.1 40 9) := by
      intro hx
      have g1 : A.1 29 b = 3 := (h.1 29 b (by omega)).trans hx.1
      exact hc ⟨g1, by rw [h.2.1 b (Or.inr g1), h.1 40 9 (by omega)]; exact hx.2⟩
    rw [if_neg hc, if_neg hc']; exact h
theorem e_list {f : mS → Nat → mS} (hf : ∀ A A' b, m_e A A' → m_e (f A b) (f A' b)) (l : List Nat) : ∀ {A A' : mS}, m_e A A' → m_e (l.foldl f A) (l.foldl f A') := by
  induction l with
  | nil => intro A A' h; exact h
  | cons q l ih => intro A A' h; exact ih (hf A A' q h)
theorem e_pass {A A' : mS} (h : m_e A A') : m_e (m_pass A) (m_pass A') := by
  have h1 : m_e (m_tick A) (m_tick A') := by
    unfold m_tick
    rw [h.1 40 9 (by omega)]
    exact e_i h 9 (fun _ => rfl) (by omega)
  exact e_list (fun A A' b h => e_p2 h b) _ (e_list (fun A A' b h => e_p1 h b) _ h1)
theorem e_N {A A' : mS} (h : m_e A A') : m_N A = m_N A' ∧ m_T A = m_T A' := by
  unfold m_N m_T
  rw [h.1 40 7 (by omega), h.1 40 9 (by omega)]
  exact ⟨rfl, rfl⟩
theorem e_begun {A A' : mS} (h : m_e A A') : m_e (m_begun A) (m_begun A') := by
  unfold m_begun
  dsimp only
  rw [(e_N h).1, h.1 40 7 (by omega)]
  have h1 := e_i h (k := 40) 7 (v := A'.1 40 7 + 1) (v' := A'.1 40 7 + 1) (fun _ => rfl) (by omega)
  split
  · exact e_i (e_i (e_i h1 _ (fun hc => by omega) (by omega)) _ (fun hc => by omega) (by omega)) _ (fun hc => by omega) (by omega)
  · exact h1
theorem e_do {A A' : mS} (h : m_e A A') (b j : Nat) (v : Option Int32) : m_e (m_do A b j v) (m_do A' b j v) := by
  unfold m_do
  split
  · exact e_lay h _ _ _
  · rw [(e_N h).1, (e_N h).2]
    exact e_gets (e_begun h) _ _ _ _
theorem e_join {A A' : mS} (h : m_e A A') (b j : Nat) (v : Option Int32) : m_e (m_join A b j v) (m_join A' b j v) := by
  have hQ : m_Q A = m_Q A' := by unfold m_Q; rw [h.2.2]
  unfold m_join
  rw [hQ, (e_N h).1, (e_N h).2]
  have h1 := e_q h b (m_Q A' b ++ [(j, m_T A', v, m_N A')])
  dsimp only
  split
  · exact h1
  · exact e_begun h1
theorem e_use {A A' : mS} (h : m_e A A') (b : Nat) : m_e (m_use A b) (m_use A' b) := by
  have hR : m_R A = m_R A' := by unfold m_R; rw [h.2.2]
  unfold m_use
  rw [hR]
  exact e_r h _ _
theorem e_can {A A' : mS} (h : m_e A A') (q : mR) : m_can A q = m_can A' q := by
  have hF : m_F A = m_F A' := by unfold m_F; rw [h.2.2]
  have hQ : m_Q A = m_Q A' := by unfold m_Q; rw [h.2.2]
  obtain _ | ⟨b, j, v⟩ := q
  · simp only [m_can]
    rw [hF, h.1 39 1 (by omega)]
  · simp only [m_can]
    rw [hF, hQ, h.1 29 b (by omega), h.1 25 3 (by omega), h.1 25 2 (by omega)]
theorem e_go {A A' : mS} (h : m_e A A') (q : mR) : m_e (m_go A q) (m_go A' q) := by
  have hF : m_F A = m_F A' := by unfold m_F; rw [h.2.2]
  obtain _ | ⟨b, j, v⟩ := q
  · exact h
  · simp only [m_go]
    rw [hF, h.1 29 b (by omega), h.1 39 1 (by omega), h.1 40 9 (by omega), h.1 25 4 (by omega)]
    split
    · exact e_tal (e_do (e_use h b) b j v) _ _
    · split
      · exact e_tal (e_do (e_near (e_i h 1 (fun _ => rfl) (by omega)) b) b j v) _ _
      · split
        · exact e_tal (e_join h b j v) _ _
        · exact e_tal (e_join (e_f (e_d h b 3 _ _ rfl) _) b j v) _ _
theorem e_beg (q : mR) : ∀ f {A A' : mS}, m_e A A' → m_e (m_beg f A q) (m_beg f A' q) := by
  intro f
  induction f with
  | zero => intro A A' h; exact h
  | succ f ih =>
    intro A A' h
    have h1 := e_pass h
    simp only [m_beg]
    rw [e_can h1 q]
    split
    · exact e_go h1 q
    · exact ih (e_tal h1 _ _)
theorem e_idle : ∀ f {A A' : mS}, m_e A A' → m_e (m_idle f A) (m_idle f A') := by
  intro f
  induction f with
  | zero => intro A A' h; exact h
  | succ f ih => intro A A' h; exact ih (e_pass h)
theorem e_await : ∀ f {A A' : mS}, m_e A A' → m_e (m_await f A) (m_await f A') := by
  intro f
  induction f with
  | zero => intro A A' h; exact h
  | succ f ih =>
    intro A A' h
    have hF : m_F A = m_F A' := by unfold m_F; rw [h.2.2]
    simp only [m_await]
    rw [hF]
    split
    · exact h
    · exact ih (e_pass h)
theorem e_exec {A A' : mS} (h : m_e A A') (x : mO) : m_e (m_exec A x) (m_exec A' x) := by
  cases x with
  | inl n => exact e_idle n h
  | inr q => exact e_beg q 1000 h
theorem e_run (l : List mO) : ∀ {A A' : mS}, m_e A A' → m_e (l.foldl m_exec A) (l.foldl m_exec A') := by
  induction l with
  | nil => intro A A' h; exact h
  | cons x l ih => intro A A' h; exact ih (e_exec h x)
