theorem z_fold_succ (f : mS → Nat → mS) (k : Nat) (A : mS) : (List.range (k + 1)).foldl f A = f ((List.range k).foldl f A) k := by simp [List.range_succ, List.foldl_append]
theorem z_fold_id (f : mS → Nat → mS) (A : mS) (l : List Nat) (h : ∀ x ∈ l, f A x = A) : l.foldl f A = A := by
  induction l with
  | nil => rfl
  | cons a l ih => rw [List.foldl_cons, h a List.mem_cons_self]; exact ih (fun x hx => h x (List.mem_cons_of_mem _ hx))
theorem p1_T (A : mS) (k : Nat) : (m_p1 A k).1 40 9 = A.1 40 9 ∧ (m_p1 A k).1 25 = A.1 25 := by
  unfold m_p1
  split
  · exact ⟨by simp [m_gone, m_tal, m_far, m_c, m_i], by funext t; simp [m_gone, m_tal, m_far, m_c, m_i]⟩
  · exact ⟨rfl, rfl⟩
theorem p2_T (A : mS) (k : Nat) : (m_p2 A k).1 40 9 = A.1 40 9 ∧ (m_p2 A k).1 25 = A.1 25 := by
  unfold m_p2
  split
  · obtain ⟨-, h2, h3⟩ := m_come_b A k; exact ⟨h2, h3⟩
  · exact ⟨rfl, rfl⟩
/-- through the first loop of a TICK -/
theorem pass1 {A : mS} {T : Nat} (h : m_inv 16 A) (hd : m_dd 0 0 A) (hT : A.1 40 9 = nI T) (hT2 : m_T A = T) : ∀ k, k ≤ 16 → m_inv 16 ((List.range k).foldl m_p1 A) ∧ m_dd k 0 ((List.range k).foldl m_p1 A) ∧ ((List.range k).foldl m_p1 A).1 40 9 = nI T ∧ m_T ((List.range k).foldl m_p1 A) = T := by
  intro k
  induction k with
  | zero => intro _; exact ⟨h, hd, hT, hT2⟩
  | succ k ih =>
    intro hk
    obtain ⟨h1, h2, h3, h4⟩ := ih (by omega)
    rw [z_fold_succ]
    have e := (p1_T ((List.range k).foldl m_p1 A) k).1
    exact ⟨inv_p1 h1 (by omega), dd_p1 h2 (by rw [h3, h4]) (by omega), e.trans h3, (m_T_eq e).trans h4⟩
theorem pass2 {A : mS} {T : Nat} (h : m_inv 16 A) (hd : m_dd 16 0 A) (hT : A.1 40 9 = nI T) (hT2 : m_T A = T) : ∀ k, k ≤ 16 → m_inv 16 ((List.range k).foldl m_p2 A) ∧ m_dd 16 k ((List.range k).foldl m_p2 A) ∧ ((List.range k).foldl m_p2 A).1 40 9 = nI T ∧ m_T ((List.range k).foldl m_p2 A) = T := by
  intro k
  induction k with
  | zero => intro _; exact ⟨h, hd, hT, hT2⟩
  | succ k ih =>
    intro hk
    obtain ⟨h1, h2, h3, h4⟩ := ih (by omega)
    rw [z_fold_succ]
    have e := (p2_T ((List.range k).foldl m_p2 A) k).1
    exact ⟨inv_p2 h1 (by omega), dd_p2 h2 (by rw [h3, h4]) h1.1 (by omega), e.trans h3, (m_T_eq e).trans h4⟩
/-- a whole TICK keeps what holds -/
theorem pass_keep {A : mS} {B : Nat} (h : m_inv 16 A) (hd : m_dd 16 16 A) (ht : m_tb B A) (hB : B < 2 ^ 30) : m_inv 16 (m_pass A) ∧ m_dd 16 16 (m_pass A) ∧ m_tb (B + 1) (m_pass A) ∧ m_T (m_pass A) = m_T A + 1 := by
  obtain ⟨t1, t2, t3⟩ := m_T_tick ht hB
  obtain ⟨a1, a2, a3, a4⟩ := pass1 (inv_tick h) (dd_tick hd ht hB) (by rw [← t1]; exact t2) t1 16 (by omega)
  obtain ⟨b1, b2, b3, b4⟩ := pass2 a1 a2 a3 a4 16 (by omega)
  have e0 : m_pass A = (List.range 16).foldl m_p2 ((List.range 16).foldl m_p1 (m_tick A)) := rfl
  rw [e0]
  generalize (List.range 16).foldl m_p2 ((List.range 16).foldl m_p1 (m_tick A)) = A2 at b1 b2 b3 b4 ⊢
  exact ⟨b1, b2, ⟨by rw [b4]; exact b3, by rw [b4]; exact Nat.succ_le_succ ht.2⟩, b4⟩
theorem cr_tick {i U : Nat} {S : zS} {A : mS} (h : c_R i U S A) : c_R i U (sI S (3, i, 0) 9 (S.1 (3, i, 0) 9 + 1)) (m_tick A) := by
  obtain ⟨⟨a1, a2, a3⟩, r2, r3, r4, r5, r6, r7, r8⟩ := h
  refine ⟨⟨fun j hj => ?_, fun j hj => ?_, ?_⟩, fun b hb j hj => ?_, fun b hb => ?_, fun b hb => ?_, ?_, ?_, ?_, ?_⟩
  · simpa [m_tick, m_i, sI] using a1 j hj
  · simp only [m_tick, m_i, sI]
    by_cases e : j = 9
    · subst e; simp [a2 _ hj]
    · simp [e, a2 _ hj]
  · simpa [m_tick, m_i, sI, m_C] using a3
  · simpa [m_tick, m_i, sI] using r2 b hb j hj
  · simpa [m_tick, m_i, sI] using r3 b hb
  · simpa [m_tick, m_i, sI, c_ask, m_Q] using r4 b hb
  · simpa [c_R5, m_tick, m_i, sI, m_R] using r5
  · simpa [c_R6, m_tick, m_i, sI, m_F] using r6
  · simpa [c_R7, m_tick, m_i, sI] using r7
  · simpa [c_R8, m_N, m_W, m_X, m_tick, m_i, sI] using r8
theorem cr_sdec {i U : Nat} {S : zS} {A : mS} (h : c_R i U S A) : c_R i U (sI S (1, i, 0) 6 (S.1 (1, i, 0) 6 - 1)) (m_i A 39 1 (A.1 39 1 - 1)) := by
  obtain ⟨⟨a1, a2, a3⟩, r2, r3, r4, r5, ⟨f1, f2⟩, r7, r8⟩ := h
  refine ⟨⟨fun j hj => ?_, fun j hj => ?_, ?_⟩, fun b hb j hj => ?_, fun b hb => ?_, fun b hb => ?_, ?_, ⟨?_, ?_⟩, ?_, ?_⟩
  · simpa [m_i, sI] using a1 j hj
  · simpa [m_i, sI] using a2 j hj
  · simpa [m_i, sI, m_C] using a3
  · simpa [m_i, sI] using r2 b hb j hj
  · simpa [m_i, sI] using r3 b hb
  · simpa [m_i, sI, c_ask, m_Q] using r4 b hb
  · simpa [c_R5, m_i, sI, m_R] using r5
  · simpa [m_i, sI, m_F] using f1
  · simp [m_i, sI, f2]
  · simpa [c_R7, m_i, sI] using r7
  · simpa [c_R8, m_N, m_W, m_X, m_i, sI] using r8
/-- soonest may be any that is before all -/
theorem cr_soon {i U : Nat} {S : zS} {A : mS} (h : c_R i U S A) (v : Int32) (hv : ∀ b, b < 16 → A.1 29 b = 2 ∨ A.1 29 b = 3 → v ≤ A.1 30 b) : c_R i U (sI S (1, i, 0) 8 v) A := by
  obtain ⟨⟨a1, a2, a3⟩, r2, r3, r4, r5, ⟨f1, f2⟩, r7, r8⟩ := h
  refine ⟨⟨fun j hj => ?_, fun j hj => ?_, ?_⟩, fun b hb j hj => ?_, fun b hb => ?_, fun b hb => ?_, ?_, ⟨?_, ?_⟩, ?_, ?_⟩
  · simpa [sI] using a1 j hj
  · simpa [sI] using a2 j hj
  · simpa [sI, m_C] using a3
  · simpa [sI] using r2 b hb j hj
  · simpa [sI] using r3 b hb
  · simpa [sI, c_ask, m_Q] using r4 b hb
  · simpa [c_R5, sI, m_R] using r5
  · simpa [sI, m_F] using f1
  · simp [sI, f2]
  · simpa [c_R7, sI] using hv
  · simpa [c_R8, m_N, m_W, m_X, sI] using r8
theorem sI_two (S : zS) (k : zK) (s : Nat) (v w : Int32) : sI (sI S k s v) k s w = sI S k s w := by
  refine z_ext (fun q t => ?_) (fun _ _ => rfl) (fun _ _ => rfl)
  simp only [sI]
  by_cases h : q = k ∧ t = s
  · simp [h]
  · simp [h]
