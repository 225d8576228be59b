/-! no ROW holds more than PLACES -/
abbrev m_P (A : mS) : Nat := (A.1 25 0).toNatClampNeg
def m_rl (A : mS) : Prop := ∀ r, r < 4 → (m_R A r).length ≤ m_P A
theorem rl_same {A A' : mS} (h : m_rl A) (eR : m_R A' = m_R A) (e25 : A'.1 25 = A.1 25) : m_rl A' := by
  intro r hr
  have := h r hr
  unfold m_P at this ⊢
  rw [eR, e25]; exact this
theorem P_pos {A : mS} (h : m_lim A) : 1 ≤ m_P A ∧ m_P A ≤ 3 := by
  obtain ⟨⟨P, hP, h1, h3⟩, -⟩ := h
  unfold m_P
  rw [hP, z_cl (by omega)]
  exact ⟨h1, h3⟩
/-- what making room does to a ROW -/
theorem room_R (A : mS) (r r' : Nat) : m_R (m_room A r) r' = if r' = r ∧ ¬ (m_R A r).length < m_P A then (m_R A r).dropLast else m_R A r' := by
  unfold m_room
  split
  · rename_i h
    rw [if_neg (fun hc => hc.2 h)]
  · rename_i h
    split
    · rename_i hn
      have : m_R A r = [] := List.getLast?_eq_none_iff.1 hn
      by_cases e : r' = r
      · subst e; rw [if_pos ⟨rfl, h⟩, this]; rfl
      · rw [if_neg (fun hc => e hc.1)]
    · rw [m_R_out]
      by_cases e : r' = r
      · subst e
        rw [if_pos ⟨rfl, h⟩]
        simp [m_r, m_R]
      · rw [if_neg (fun hc => e hc.1)]
        simp [m_r, m_R, e]
theorem room_lt {A : mS} (h : m_rl A) (hl : m_lim A) {r : Nat} (hr : r < 4) : (m_R (m_room A r) r).length < m_P A := by
  rw [room_R]
  have h1 := h r hr
  have h2 := P_pos hl
  split
  · rw [List.length_dropLast]; omega
  · rename_i hc
    have : ¬ ¬ (m_R A r).length < m_P A := fun e => hc ⟨rfl, e⟩
    omega
theorem rl_near {A : mS} (h : m_rl A) (hl : m_lim A) (b : Nat) : m_rl (m_near A b) := by
  have k25 := (m_near_keep A b).2.2.1
  intro r hr
  have e : m_P (m_near A b) = m_P A := by unfold m_P; rw [k25]
  rw [e]
  have hR : m_R (m_near A b) r = if r = b % 4 then b :: m_R (m_room A (b % 4)) (b % 4) else m_R (m_room A (b % 4)) r := by
    by_cases e : r = b % 4
    · simp [m_near, m_i, m_r, m_R, e]
    · simp [m_near, m_i, m_r, m_R, e]
  rw [hR]
  split
  · have := room_lt h hl (r := b % 4) (by omega)
    simp only [List.length_cons]; omega
  · rename_i e
    rw [room_R, if_neg (fun hc => e hc.1)]
    exact h r hr
theorem come_R (A : mS) (b : Nat) : m_R (m_come A b) = m_R (m_near (m_take (m_f A ((m_F A).erase b)) b) b) := by
  have k := m_fold_keep b (m_Q A b) (m_near (m_take (m_f A ((m_F A).erase b)) b) b)
  exact k.1.2.2.2.2.1
theorem rl_come {A : mS} (h : m_rl A) (hl : m_lim A) (b : Nat) : m_rl (m_come A b) := by
  have h1 : m_rl (m_take (m_f A ((m_F A).erase b)) b) := rl_same h rfl (by funext t; simp [m_take, m_f])
  have hl1 : m_lim (m_take (m_f A ((m_F A).erase b)) b) := by simpa [m_lim, m_take, m_f] using hl
  have h2 := rl_near h1 hl1 b
  refine rl_same h2 (come_R A b) ?_
  rw [(m_come_b A b).2.2, (m_near_keep _ b).2.2.1]
  funext t; simp [m_take, m_f]
theorem rl_p1 {A : mS} (h : m_rl A) (b : Nat) : m_rl (m_p1 A b) := by
  unfold m_p1
  split
  · refine rl_same h ?_ ?_
    · rfl
    · funext t; simp [m_gone, m_tal, m_far, m_c, m_i]
  · exact h
theorem rl_p2 {A : mS} (h : m_rl A) (hl : m_lim A) (b : Nat) : m_rl (m_p2 A b) := by
  unfold m_p2
  split
  · exact rl_come h hl b
  · exact h
theorem rl_pass {A : mS} (h : m_rl A) (hI : m_inv 16 A) : m_rl (m_pass A) :=
  (z_pass (fun _ A => m_inv 16 A ∧ m_rl A) (fun _ A => m_inv 16 A ∧ m_rl A) (fun k A hk i => ⟨inv_p1 i.1 hk, rl_p1 i.2 k⟩) (fun A i => i) (fun k A hk i => ⟨inv_p2 i.1 hk, rl_p2 i.2 i.1.1 k⟩) A ⟨inv_tick hI, rl_same h rfl (by funext t; simp [m_tick, m_i])⟩).2
theorem rl_do {A : mS} (h : m_rl A) (b j : Nat) (v : Option Int32) : m_rl (m_do A b j v) := by
  obtain ⟨g1, g2, g3, g4, g5, g6, g7, g8, -⟩ := m_do_keep A b j v
  exact rl_same h g5 g2
theorem join_R (A : mS) (b j : Nat) (v : Option Int32) : m_R (m_join A b j v) = m_R A := by
  cases v with
  | some x => rfl
  | none => exact (begun_keep (m_q A b (m_Q A b ++ [(j, m_T A, none, m_N A)]))).2.2.2.2.2.2.2.2.1
theorem rl_join {A : mS} (h : m_rl A) (b j : Nat) (v : Option Int32) : m_rl (m_join A b j v) :=
  rl_same h (join_R A b j v) (join_F A b j v).2
theorem rl_tal {A : mS} (h : m_rl A) (w : Nat) (p : UInt32) : m_rl (m_tal A w p) := rl_same h rfl (tal_25 A w p)
theorem rl_use {A : mS} (h : m_rl A) {b : Nat} (hI : m_inv 16 A) (hb : b < 16) (hw : A.1 29 b = 1) : m_rl (m_use A b) := by
  intro r hr
  have hm : b ∈ m_R A (b % 4) := ((hI.2.1 (b % 4) (by omega)).2 b).2 ⟨hb, rfl, hw⟩
  have h1 := h r hr
  show (if r = b % 4 then b :: (m_R A (b % 4)).erase b else m_R A r).length ≤ m_P A
  split
  · rename_i e
    subst e
    have := List.length_pos_of_mem hm
    simp only [List.length_cons, List.length_erase_of_mem hm]
    omega
  · exact h1
theorem rl_go {A : mS} (h : m_rl A) (hI : m_inv 16 A) {q : mR} (hq : m_rok q) : m_rl (m_go A q) := by
  obtain _ | ⟨b, j, v⟩ := q
  · exact h
  · obtain ⟨q1, q2, q3⟩ := hq b j v rfl
    simp only [m_go]
    split
    · rename_i hw
      exact rl_tal (rl_do (rl_use h hI q1 hw) b j v) _ _
    · split
      · refine rl_tal (rl_do (rl_near (A := m_i A 39 1 (A.1 39 1 - 1)) (rl_same h rfl (by funext t; simp [m_i])) ?_ b) b j v) _ _
        simpa [m_lim, m_i] using hI.1
      · split
        · exact rl_tal (rl_join h b j v) _ _
        · have h2 : m_rl (m_ftch A b) := rl_same h rfl (by funext t; simp [m_i, m_f])
          exact rl_tal (rl_join h2 b j v) _ _
theorem rl_new {A : mS} : m_rl (m_new A) := fun r hr => Nat.zero_le _
/-! the LOADS' numbers that askers hold are small -/
def m_ql (A : mS) : Prop := ∀ x, x < 16 → ∀ q, q ∈ m_Q A x → q.2.2.2 < 2 ^ 30
theorem ql_sub {A A' : mS} (h : m_ql A) (e : ∀ x, m_Q A' x = m_Q A x ∨ m_Q A' x = []) : m_ql A' := by
  intro x hx q hq
  rcases e x with e | e
  · rw [e] at hq; exact h x hx q hq
  · rw [e] at hq; cases hq
theorem ql_same {A A' : mS} (h : m_ql A) (e : m_Q A' = m_Q A) : m_ql A' := ql_sub h (fun x => Or.inl (by rw [e]))
theorem come_Q (A : mS) (b x : Nat) : m_Q (m_come A b) x = if x = b then [] else m_Q A x := by
  have k := m_fold_keep b (m_Q A b) (m_near (m_take (m_f A ((m_F A).erase b)) b) b)
  have kn := m_near_keep (m_take (m_f A ((m_F A).erase b)) b) b
  have e : m_Q ((m_Q A b).foldl (m_serve b) (m_near (m_take (m_f A ((m_F A).erase b)) b) b)) = m_Q A := k.1.2.2.2.1.trans kn.1
  show (if x = b then [] else m_Q ((m_Q A b).foldl (m_serve b) (m_near (m_take (m_f A ((m_F A).erase b)) b) b)) x) = _
  rw [e]
theorem ql_p1 {A : mS} (h : m_ql A) (b : Nat) : m_ql (m_p1 A b) := by
  unfold m_p1
  split
  · exact ql_same h rfl
  · exact h
theorem ql_p2 {A : mS} (h : m_ql A) (b : Nat) : m_ql (m_p2 A b) := by
  unfold m_p2
  split
  · refine ql_sub h (fun x => ?_)
    rw [come_Q]
    split
    · exact Or.inr rfl
    · exact Or.inl rfl
  · exact h
theorem ql_pass {A : mS} (h : m_ql A) : m_ql (m_pass A) :=
  z_pass (fun _ A => m_ql A) (fun _ A => m_ql A) (fun k A hk i => ql_p1 i k) (fun A i => i) (fun k A hk i => ql_p2 i k) A (ql_same h rfl)
theorem ql_join {A : mS} (h : m_ql A) (hN : m_N A < 2 ^ 30) (b j : Nat) (v : Option Int32) : m_ql (m_join A b j v) := by
  have e : m_Q (m_join A b j v) = fun x => if x = b then m_Q A b ++ [(j, m_T A, v, m_N A)] else m_Q A x := by
    cases v with
    | some x => rfl
    | none => exact (begun_keep (m_q A b (m_Q A b ++ [(j, m_T A, none, m_N A)]))).2.2.2.2.2.2.2.2.2.2.1
  intro x hx q hq
  rw [e] at hq
  dsimp only at hq
  by_cases ex : x = b
  · subst ex
    rw [if_pos rfl] at hq
    rcases List.mem_append.1 hq with hq | hq
    · exact h x hx q hq
    · rw [List.mem_singleton.1 hq]; exact hN
  · rw [if_neg ex] at hq; exact h x hx q hq
theorem ql_go {A : mS} (h : m_ql A) (hN : m_N A < 2 ^ 30) (q : mR) : m_ql (m_go A q) := by
  obtain _ | ⟨b, j, v⟩ := q
  · exact h
  · simp only [m_go]
    split
    · exact ql_same h (m_do_keep (m_use A b) b j v).2.2.2.1
    · split
      · exact ql_same h ((m_do_keep (m_near (m_i A 39 1 (A.1 39 1 - 1)) b) b j v).2.2.2.1.trans (m_near_keep _ b).1)
      · split
        · exact ql_same (ql_join h hN b j v) rfl
        · have h2 : m_ql (m_ftch A b) := ql_same h rfl
          have hN2 : m_N (m_ftch A b) < 2 ^ 30 := by
            have : m_N (m_ftch A b) = m_N A := m_N_eq (by simp [m_i, m_f])
            rw [this]; exact hN
          exact ql_same (ql_join h2 hN2 b j v) rfl
theorem ql_new (A : mS) : m_ql (m_new A) := fun x hx q hq => by cases hq
/-- all that always holds, with that -/
def m_am (B e : Nat) (A : mS) : Prop := m_al B e A ∧ m_rl A ∧ m_ql A
theorem am_pass {A : mS} {B : Nat} (h : m_am B 0 A) (hB : B < 2 ^ 30) : m_am (B + 1) 1 (m_pass A) := ⟨(al_pass h.1 hB).1, rl_pass h.2.1 h.1.1, ql_pass h.2.2⟩
theorem am_01 {A : mS} {B : Nat} (h : m_am B 1 A) : m_am B 0 A := ⟨al_01 h.1, h.2⟩
theorem am_stall {A : mS} {B e : Nat} (h : m_am B e A) : m_am B e (m_stall A) := ⟨al_stall h.1, rl_tal h.2.1 _ _, ql_same h.2.2 rfl⟩
theorem am_go {A : mS} {B : Nat} (h : m_am B 1 A) (hB : B < 2 ^ 30) {q : mR} (hq : m_rok q) (hc : m_can A q = true) : m_am B 0 (m_go A q) := ⟨al_go h.1 hB hq hc, rl_go h.2.1 h.1.1 hq, ql_go h.2.2 (by have a := h.1.2.2.1.2; have b := h.1.2.2.2.1.2; omega) q⟩
theorem am_B {A : mS} {B B' e : Nat} (h : m_am B e A) (hB : B ≤ B') : m_am B' e A := ⟨al_B h.1 hB, h.2⟩
theorem rl_beg {q : mR} (hq : m_rok q) : ∀ f (A : mS) (B : Nat), m_am B 0 A → B + f < 2 ^ 30 → m_am (B + f) 0 (m_beg f A q) := by
  intro f
  induction f with
  | zero => intro A B h _; exact h
  | succ f ih =>
    intro A B h hB
    have p := am_pass h (by omega)
    by_cases hc : m_can (m_pass A) q = true
    · simp only [m_beg, hc, if_true]
      exact am_B (am_go p (by omega) hq hc) (by omega)
    · simp only [m_beg, if_neg hc]
      exact am_B (ih _ (B + 1) (am_01 (am_stall p)) (by omega)) (by omega)
theorem am_idle : ∀ f (A : mS) (B : Nat), m_am B 0 A → B + f < 2 ^ 30 → m_am (B + f) 0 (m_idle f A) := by
  intro f
  induction f with
  | zero => intro A B h _; exact h
  | succ f ih =>
    intro A B h hB
    exact am_B (ih _ (B + 1) (am_01 (am_pass h (by omega))) (by omega)) (by omega)
theorem am_exec {A : mS} {B : Nat} (h : m_am B 0 A) (hB : B + 1000 < 2 ^ 30) {x : mO} (hx : m_ook x) : m_am (B + 1000) 0 (m_exec A x) := by
  cases x with
  | inl n => 
    have hn : n ≤ 99 := hx
    exact am_B (am_idle n A B h (by omega)) (by omega)
  | inr q => exact rl_beg hx 1000 A B h hB
theorem am_run (l : List mO) : ∀ (A : mS) (B : Nat), (∀ x ∈ l, m_ook x) → m_am B 0 A → B + 1000 * l.length < 2 ^ 30 → m_am (B + 1000 * l.length) 0 (l.foldl m_exec A) := by
  induction l with
  | nil => intro A B _ h _; exact h
  | cons x l ih =>
    intro A B hl h hB
    simp only [List.length_cons] at hB ⊢
    obtain ⟨b1, b2, b3⟩ := z_ar3 hB
    exact am_B (ih _ (B + 1000) (fun y hy => hl y (List.mem_cons_of_mem _ hy)) (am_exec h b1 (hl x List.mem_cons_self)) b2) b3
theorem am_new {A : mS} (h : m_lim A) : m_am 0 0 (m_new A) := ⟨al_new h, rl_new, ql_new A⟩
