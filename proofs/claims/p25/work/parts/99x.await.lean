/-! how long the trial waits for its FETCHES -/
theorem dd_F {A : mS} {B b : Nat} (hI : m_inv 16 A) (hd : m_dd 16 16 A) (ht : m_tb B A) (hB : B < 2 ^ 30) (hb : b ∈ m_F A) : b < 16 ∧ A.1 29 b = 3 ∧ A.1 30 b = nI (m_d A b) ∧ m_T A < m_d A b ∧ m_d A b ≤ m_T A + 20 := by
  obtain ⟨h1, -, h3⟩ := (hI.2.2.1.2.1 b).1 hb
  obtain ⟨d, e, -, d2, -, d4⟩ := hd b h1 (Or.inr h3)
  have ht2 := ht.2
  have : m_d A b = d := by show (A.1 30 b).toNatClampNeg = d; rw [e, z_cl (by omega)]
  rw [this]
  exact ⟨h1, h3, e, d4 h3 h1, d2⟩
theorem pass_F {A : mS} {B : Nat} (hal : m_al B 0 A) (hB : B < 2 ^ 30) : (∀ b, b ∈ m_F (m_pass A) → b ∈ m_F A ∧ (m_pass A).1 30 b = A.1 30 b) ∧ (∀ b, b ∈ m_F A → m_d A b ≠ m_T A + 1 → b ∈ m_F (m_pass A)) := by
  obtain ⟨hI, hd, ht, -, -, -⟩ := hal
  obtain ⟨t1, t2⟩ := m_T_tick ht hB
  have ht2 := ht.2
  have key := z_pass (fun _ X => m_inv 16 X ∧ X.1 40 9 = nI (m_T A + 1) ∧ m_F X = m_F A ∧ X.1 30 = A.1 30) (fun _ X => m_inv 16 X ∧ X.1 40 9 = nI (m_T A + 1) ∧ (∀ b, b ∈ m_F X → b ∈ m_F A ∧ X.1 30 b = A.1 30 b) ∧ (∀ b, b ∈ m_F A → m_d A b ≠ m_T A + 1 → b ∈ m_F X))
    (fun k X hk i => by
      refine ⟨inv_p1 i.1 hk, by rw [(p1_T X k).1]; exact i.2.1, ?_, ?_⟩
      · rw [← i.2.2.1]; unfold m_p1; split <;> rfl
      · rw [← i.2.2.2]; unfold m_p1
        split
        · funext t; simp [m_gone, m_tal, m_far, m_c, m_i]
        · rfl)
    (fun X i => ⟨i.1, i.2.1, fun b hb => ⟨by rw [← i.2.2.1]; exact hb, by rw [i.2.2.2]⟩, fun b hb _ => by rw [i.2.2.1]; exact hb⟩)
    (fun k X hk i => by
      obtain ⟨i1, i2, i3, i4⟩ := i
      refine ⟨inv_p2 i1 hk, by rw [(p2_T X k).1]; exact i2, ?_⟩
      have hin := inv_p2 i1 hk
      unfold m_p2 at hin ⊢
      split
      · rename_i hc
        rw [if_pos hc] at hin
        have hnd := i1.2.2.1.1
        rw [come_F]
        refine ⟨fun b hb => ?_, fun b hb hne => ?_⟩
        · obtain ⟨e1, e2⟩ := hnd.mem_erase_iff.1 hb
          obtain ⟨j1, j2⟩ := i3 b e2
          refine ⟨j1, ?_⟩
          have h3 := ((hin.2.2.1.2.1 b).1 (by rw [come_F]; exact hb)).2.2
          rcases m_come_oth X e1 with ⟨-, g⟩ | g | ⟨g, -⟩
          · exact g.trans j2
          · exact absurd (g.symm.trans h3) (by decide)
          · exact absurd (g.symm.trans h3) (by decide)
        · refine hnd.mem_erase_iff.2 ⟨fun e => ?_, i4 b hb hne⟩
          have h30 := (i3 b (i4 b hb hne)).2
          rw [e, hc.2, i2] at h30
          refine hne ?_
          rw [e]
          show (A.1 30 k).toNatClampNeg = _
          rw [← h30, z_cl (by omega)]
      · exact ⟨i3, i4⟩)
    A ⟨inv_tick hI, by rw [← t1]; exact t2.1, rfl, by funext t; simp [m_tick, m_i]⟩
  exact ⟨key.2.2.1, key.2.2.2⟩
theorem await_T : ∀ (k f : Nat) (A : mS) (B : Nat), k ≤ f → m_al B 0 A → B + f < 2 ^ 30 → (∀ b, b ∈ m_F A → m_d A b ≤ m_T A + k) → (k = 0 → m_F A = []) → (k ≠ 0 → ∃ b, b ∈ m_F A ∧ m_d A b = m_T A + k) → m_T (m_await f A) = m_T A + k := by
  intro k
  induction k with
  | zero =>
    intro f A B _ _ _ _ h0 _
    cases f with
    | zero => rfl
    | succ f => simp only [m_await, h0 rfl, if_true]; rfl
  | succ k ih =>
    intro f A B hf hal hB hle _ hw
    cases f with
    | zero => omega
    | succ f =>
      obtain ⟨b0, hb0, hd0⟩ := hw (by omega)
      have hne : ¬ m_F A = [] := List.ne_nil_of_mem hb0
      obtain ⟨p1, p2⟩ := al_pass hal (by omega)
      obtain ⟨f1, f2⟩ := pass_F hal (by omega)
      have hd' : ∀ b, b ∈ m_F (m_pass A) → m_d (m_pass A) b = m_d A b := by
        intro b hb
        show ((m_pass A).1 30 b).toNatClampNeg = _
        rw [(f1 b hb).2]
      have e : m_await (f + 1) A = m_await f (m_pass A) := by simp only [m_await, if_neg hne]
      rw [e, ih f (m_pass A) (B + 1) (by omega) (al_01 p1) (by omega) (fun b hb => ?_) (fun e0 => ?_) (fun hk => ?_), p2]
      · omega
      · rw [hd' b hb, p2]
        have := hle b (f1 b hb).1
        omega
      · refine List.eq_nil_iff_forall_not_mem.2 (fun b hb => ?_)
        have h1 := (dd_F p1.1 p1.2.1 p1.2.2.1 (by omega) hb).2.2.2.1
        rw [hd' b hb, p2] at h1
        have := hle b (f1 b hb).1
        omega
      · have hm := f2 b0 hb0 (by omega)
        exact ⟨b0, hm, by rw [hd' b0 hm, p2]; omega⟩
def m_left (X : mS) : Nat → Nat
  | 0 => 0
  | k + 1 => match (m_F X)[k]? with
    | some b => max (m_left X k) (m_d X b - m_T X)
    | none => m_left X k
theorem left_ok (X : mS) : ∀ k, (∀ i b, i < k → (m_F X)[i]? = some b → m_d X b - m_T X ≤ m_left X k) ∧ (m_left X k = 0 ∨ ∃ b, b ∈ m_F X ∧ m_d X b - m_T X = m_left X k) := by
  intro k
  induction k with
  | zero => exact ⟨fun i b h _ => absurd h (Nat.not_lt_zero i), Or.inl rfl⟩
  | succ k ih =>
    obtain ⟨i1, i2⟩ := ih
    cases hk : (m_F X)[k]? with
    | none =>
      have e : m_left X (k + 1) = m_left X k := by simp only [m_left, hk]
      rw [e]
      refine ⟨fun i b hi hb => ?_, i2⟩
      by_cases ei : i = k
      · subst ei; rw [hk] at hb; cases hb
      · exact i1 i b (by omega) hb
    | some c =>
      have e : m_left X (k + 1) = max (m_left X k) (m_d X c - m_T X) := by simp only [m_left, hk]
      rw [e]
      refine ⟨fun i b hi hb => ?_, ?_⟩
      · by_cases ei : i = k
        · subst ei
          rw [hk] at hb
          cases hb
          exact Nat.le_max_right _ _
        · exact Nat.le_trans (i1 i b (by omega) hb) (Nat.le_max_left _ _)
      · rcases Nat.le_total (m_left X k) (m_d X c - m_T X) with g | g
        · rw [Nat.max_eq_right g]; exact Or.inr ⟨c, List.mem_of_getElem? hk, rfl⟩
        · rw [Nat.max_eq_left g]; exact i2
theorem left_20 {X : mS} {B : Nat} (hal : m_al B 0 X) (hB : B < 2 ^ 30) (k : Nat) : m_left X k ≤ 20 := by
  rcases (left_ok X k).2 with h | ⟨b, hb, h⟩
  · omega
  · have := (dd_F hal.1 hal.2.1 hal.2.2.1 hB hb).2.2.2.2
    omega
theorem F_4 {A : mS} (hI : m_inv 16 A) : (m_F A).length ≤ 4 := by
  have := hI.2.2.1.2.2
  obtain ⟨-, -, ⟨F, hF, hF1, hF4⟩, -, -⟩ := hI.1
  rw [hF, z_cl (by omega)] at this; omega
theorem left_trial {X : mS} {B : Nat} (hal : m_al B 0 X) (hB : B + 1000 < 2 ^ 30) : m_T (m_await 1000 X) = m_T X + m_left X 4 := by
  obtain ⟨l1, l2⟩ := left_ok X 4
  have h20 := left_20 hal (by omega) 4
  have hF := F_4 hal.1
  have hall : ∀ b, b ∈ m_F X → m_d X b - m_T X ≤ m_left X 4 := by
    intro b hb
    obtain ⟨i, hi⟩ := List.mem_iff_getElem?.1 hb
    have := (List.getElem?_eq_some_iff.1 hi).1
    exact l1 i b (by omega) hi
  refine await_T (m_left X 4) 1000 X B (by omega) hal hB (fun b hb => ?_) (fun e0 => ?_) (fun hne => ?_)
  · have := hall b hb; omega
  · refine List.eq_nil_iff_forall_not_mem.2 (fun b hb => ?_)
    have h1 := (dd_F hal.1 hal.2.1 hal.2.2.1 (by omega) hb).2.2.2.1
    have := hall b hb
    omega
  · rcases l2 with h | ⟨b, hb, h⟩
    · exact absurd h hne
    · have h1 := (dd_F hal.1 hal.2.1 hal.2.2.1 (by omega) hb).2.2.2.1
      exact ⟨b, hb, by omega⟩
/-! what is told stays -/
theorem pass_25 (A : mS) : (m_pass A).1 25 = A.1 25 :=
  z_pass (fun _ X => X.1 25 = A.1 25) (fun _ X => X.1 25 = A.1 25) (fun k X _ i => (p1_T X k).2.trans i) (fun _ i => i) (fun k X _ i => (p2_T X k).2.trans i) A (by funext t; simp [m_tick, m_i])
theorem go_25 (A : mS) (q : mR) : (m_go A q).1 25 = A.1 25 := by
  obtain _ | ⟨b, j, v⟩ := q
  · rfl
  · simp only [m_go]
    split
    · rw [tal_25, (m_do_keep _ b j v).2.1]; rfl
    · split
      · rw [tal_25, (m_do_keep _ b j v).2.1, (m_near_keep _ b).2.2.1]
        funext t; simp [m_i]
      · split
        · rw [tal_25, (join_F _ b j v).2]
        · rw [tal_25, (join_F _ b j v).2]
          funext t; simp [m_f, m_i]
theorem beg_25 (q : mR) : ∀ f (A : mS), (m_beg f A q).1 25 = A.1 25 := by
  intro f
  induction f with
  | zero => intro A; rfl
  | succ f ih =>
    intro A
    by_cases hc : m_can (m_pass A) q = true
    · simp only [m_beg, hc, if_true]
      rw [go_25, pass_25]
    · simp only [m_beg, if_neg hc]
      rw [ih]
      show (m_tal (m_pass A) 4 _).1 25 = _
      rw [tal_25, pass_25]
theorem idle_25 : ∀ n (A : mS), (m_idle n A).1 25 = A.1 25 := by
  intro n
  induction n with
  | zero => intro A; rfl
  | succ n ih => intro A; exact (ih (m_pass A)).trans (pass_25 A)
theorem exec_25 (A : mS) (x : mO) : (m_exec A x).1 25 = A.1 25 := by
  cases x with
  | inl n => exact idle_25 n A
  | inr q => exact beg_25 q 1000 A
theorem run_25 (l : List mO) : ∀ A : mS, (l.foldl m_exec A).1 25 = A.1 25 := by
  induction l with
  | nil => intro A; rfl
  | cons x l ih => intro A; exact (ih (m_exec A x)).trans (exec_25 A x)
