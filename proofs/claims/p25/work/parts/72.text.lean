/-! THE TEXT, read -/
def m_y (t : Nat → Nat) (n p : Nat) : Int32 := if p < n then nI (t p) else -1
def m_skp (t : Nat → Nat) (n : Nat) : Nat → Nat → Nat
  | 0, p => p
  | f + 1, p => if p < n ∧ t p = 32 then m_skp t n f (p + 1) else p
/-- behind the blanks -/
def m_sk (t : Nat → Nat) (n p : Nat) : Nat := m_skp t n (n - p) p
theorem sk_eq (t : Nat → Nat) (n p : Nat) : m_sk t n p = if p < n ∧ t p = 32 then m_sk t n (p + 1) else p := by
  unfold m_sk
  by_cases h : p < n
  · have e : n - p = (n - (p + 1)) + 1 := by omega
    rw [e]; rfl
  · have e : n - p = 0 := by omega
    rw [e, if_neg (fun hc => h hc.1)]; rfl
theorem sk_end {t : Nat → Nat} {n p : Nat} (h : ¬ (p < n ∧ t p = 32)) : m_sk t n p = p := by rw [sk_eq, if_neg h]
theorem sk_le (t : Nat → Nat) (n : Nat) : ∀ f p, n - p ≤ f → p ≤ m_sk t n p ∧ (p ≤ n → m_sk t n p ≤ n) ∧ ¬ (m_sk t n p < n ∧ t (m_sk t n p) = 32) := by
  intro f
  induction f with
  | zero =>
    intro p hp
    have : ¬ (p < n ∧ t p = 32) := by omega
    rw [sk_end this]
    exact ⟨Nat.le_refl _, fun h => h, this⟩
  | succ f ih =>
    intro p hp
    by_cases h : p < n ∧ t p = 32
    · rw [sk_eq, if_pos h]
      obtain ⟨h1, h2, h3⟩ := ih (p + 1) (by omega)
      exact ⟨by omega, fun _ => h2 (by omega), h3⟩
    · rw [sk_end h]
      exact ⟨Nat.le_refl _, fun h => h, h⟩
theorem sk_ge (t : Nat → Nat) (n p : Nat) : p ≤ m_sk t n p := (sk_le t n _ p (Nat.le_refl _)).1
theorem sk_n {t : Nat → Nat} {n p : Nat} (h : p ≤ n) : m_sk t n p ≤ n := (sk_le t n _ p (Nat.le_refl _)).2.1 h
theorem sk_sk (t : Nat → Nat) (n p : Nat) : m_sk t n (m_sk t n p) = m_sk t n p := sk_end (sk_le t n _ p (Nat.le_refl _)).2.2
/-- a figure -/
abbrev m_isf (t : Nat → Nat) (n p : Nat) : Prop := p < n ∧ 48 ≤ t p ∧ t p ≤ 57
def m_dgs (t : Nat → Nat) (n : Nat) : Nat → Nat → Nat
  | 0, _ => 0
  | f + 1, p => if m_isf t n p then m_dgs t n f (p + 1) + 1 else 0
/-- how many figures -/
def m_dg (t : Nat → Nat) (n p : Nat) : Nat := m_dgs t n (n - p) p
theorem dg_eq (t : Nat → Nat) (n p : Nat) : m_dg t n p = if m_isf t n p then m_dg t n (p + 1) + 1 else 0 := by
  unfold m_dg
  by_cases h : p < n
  · have e : n - p = (n - (p + 1)) + 1 := by omega
    rw [e]; rfl
  · have e : n - p = 0 := by omega
    rw [e, if_neg (fun hc => h hc.1)]; rfl
theorem dg_at (t : Nat → Nat) (n : Nat) : ∀ c p, c < m_dg t n p ↔ ∀ c', c' ≤ c → m_isf t n (p + c') := by
  intro c
  induction c with
  | zero =>
    intro p
    rw [dg_eq]
    by_cases h : m_isf t n p
    · rw [if_pos h]
      exact ⟨fun _ c' hc' => by have : c' = 0 := by omega
                                subst this; exact h, fun _ => by omega⟩
    · rw [if_neg h]
      exact ⟨fun h => by omega, fun hc => absurd (hc 0 (Nat.le_refl _)) h⟩
  | succ c ih =>
    intro p
    rw [dg_eq]
    by_cases h : m_isf t n p
    · rw [if_pos h]
      have := ih (p + 1)
      constructor
      · intro hc c' hc'
        cases c' with
        | zero => exact h
        | succ c' =>
          have := this.1 (by omega) c' (by omega)
          rwa [show p + 1 + c' = p + (c' + 1) by omega] at this
      · intro hc
        have := this.2 (fun c' hc' => by
          have := hc (c' + 1) (by omega)
          rwa [show p + (c' + 1) = p + 1 + c' by omega] at this)
        omega
    · rw [if_neg h]
      exact ⟨fun h => by omega, fun hc => absurd (hc 0 (by omega)) h⟩
theorem dg_n {t : Nat → Nat} {n p : Nat} (h : p ≤ n) : p + m_dg t n p ≤ n := by
  rcases Nat.eq_zero_or_pos (m_dg t n p) with e | e
  · omega
  · have := (dg_at t n (m_dg t n p - 1) p).1 (by omega) (m_dg t n p - 1) (Nat.le_refl _)
    have := this.1
    omega
theorem dg_no (t : Nat → Nat) (n p : Nat) : ¬ m_isf t n (p + m_dg t n p) := by
  intro h
  have : m_dg t n p < m_dg t n p := (dg_at t n _ p).2 (fun c' hc' => by
    by_cases e : c' = m_dg t n p
    · rw [e]; exact h
    · exact (dg_at t n c' p).1 (by omega) c' (Nat.le_refl _))
  omega
/-- what c figures tell, the first two of them -/
def m_vp (t : Nat → Nat) (p c : Nat) : Nat := if c = 0 then 0 else if c = 1 then t p - 48 else 10 * (t p - 48) + (t (p + 1) - 48)
abbrev m_two (t : Nat → Nat) (n p : Nat) : Prop := m_dg t n p = 1 ∨ m_dg t n p = 2
theorem vp_99 {t : Nat → Nat} {n p : Nat} (h : m_two t n p) : m_vp t p (m_dg t n p) ≤ 99 := by
  unfold m_vp
  have h0 := (dg_at t n 0 p).1 (by rcases h with h | h <;> omega) 0 (Nat.le_refl _)
  rcases h with h | h
  · rw [h]; simp; have := h0.2; simp at this; omega
  · have h1 := (dg_at t n 1 p).1 (by omega) 1 (Nat.le_refl _)
    rw [h]; simp; have h0 := h0.2; have h1 := h1.2; simp at h0; omega
/-- an order's end -/
def m_fin (t : Nat → Nat) (n : Nat) (x : mO) (e : Nat) : Nat ⊕ (mO × Nat) := if m_sk t n e < n ∧ t (m_sk t n e) = 59 then .inr (x, m_sk t n e + 1) else .inl (m_sk t n e)
/-- a box's order, behind its letter -/
def m_rdb (t : Nat → Nat) (n b p : Nat) : Nat ⊕ (mO × Nat) :=
  if m_sk t n p < n ∧ 48 ≤ t (m_sk t n p) ∧ t (m_sk t n p) ≤ 51 then
    (if m_sk t n (m_sk t n p + 1) < n ∧ t (m_sk t n (m_sk t n p + 1)) = 61 then
      (if m_two t n (m_sk t n (m_sk t n (m_sk t n p + 1) + 1)) then m_fin t n (.inr (some (b, t (m_sk t n p) - 48, some (nI (m_vp t (m_sk t n (m_sk t n (m_sk t n p + 1) + 1)) (m_dg t n (m_sk t n (m_sk t n (m_sk t n p + 1) + 1)))))))) (m_sk t n (m_sk t n (m_sk t n p + 1) + 1) + m_dg t n (m_sk t n (m_sk t n (m_sk t n p + 1) + 1)))
        else .inl (m_sk t n (m_sk t n (m_sk t n p + 1) + 1)))
      else m_fin t n (.inr (some (b, t (m_sk t n p) - 48, none))) (m_sk t n (m_sk t n p + 1)))
  else .inl (m_sk t n p)
/-- an order at p -/
def m_rd (t : Nat → Nat) (n p : Nat) : Nat ⊕ (mO × Nat) :=
  if 97 ≤ t p ∧ t p ≤ 112 then m_rdb t n (t p - 97) (p + 1)
  else if t p = 33 then m_fin t n (.inr none) (p + 1)
  else if t p = 35 then
    (if m_two t n (m_sk t n (p + 1)) then m_fin t n (.inl (m_vp t (m_sk t n (p + 1)) (m_dg t n (m_sk t n (p + 1))))) (m_sk t n (p + 1) + m_dg t n (m_sk t n (p + 1)))
      else .inl (m_sk t n (p + 1)))
  else .inl p
def m_prs (t : Nat → Nat) (n : Nat) : Nat → Nat → List mO → Nat ⊕ List mO
  | 0, _, l => .inr l
  | f + 1, p, l => if n ≤ m_sk t n p then .inr l else match m_rd t n (m_sk t n p) with
    | .inl e => .inl e
    | .inr (x, q) => m_prs t n f q (l ++ [x])
def m_text (t : Nat → Nat) (n : Nat) : Nat ⊕ List mO := if n ≤ m_sk t n 0 then .inl n else m_prs t n 120 0 []
theorem fin_q {t : Nat → Nat} {n e q : Nat} {x y : mO} (h : m_fin t n x e = .inr (y, q)) : y = x ∧ e + 1 ≤ q ∧ q ≤ n := by
  unfold m_fin at h
  split at h
  · rename_i hc
    simp only [Sum.inr.injEq, Prod.mk.injEq] at h
    have := sk_ge t n e
    exact ⟨h.1.symm, by omega, by omega⟩
  · cases h
theorem fin_f {t : Nat → Nat} {n e f : Nat} {x : mO} (he : e ≤ n) (h : m_fin t n x e = .inl f) : f ≤ n := by
  unfold m_fin at h
  split at h
  · cases h
  · simp only [Sum.inl.injEq] at h
    have := sk_n (t := t) he
    omega
theorem rdb_q {t : Nat → Nat} {n b p q : Nat} {y : mO} (hb : b < 16) (h : m_rdb t n b p = .inr (y, q)) : m_ook y ∧ p + 2 ≤ q ∧ q ≤ n := by
  unfold m_rdb at h
  have g1 := sk_ge t n p
  have g2 := sk_ge t n (m_sk t n p + 1)
  have g3 := sk_ge t n (m_sk t n (m_sk t n p + 1) + 1)
  split at h
  · rename_i h1
    split at h
    · split at h
      · rename_i h3
        obtain ⟨e1, e2, e3⟩ := fin_q h
        have hv := vp_99 h3
        refine ⟨?_, by omega, e3⟩
        rw [e1]
        intro b' j' v' e
        simp only [Option.some.injEq, Prod.mk.injEq] at e
        obtain ⟨c1, c2, c3⟩ := e
        refine ⟨by omega, by omega, fun x hx hm1 => ?_⟩
        rw [← c3] at hx
        simp only [Option.some.injEq] at hx
        rw [hm1] at hx
        exact nI_pos (n := m_vp t (m_sk t n (m_sk t n (m_sk t n p + 1) + 1)) (m_dg t n (m_sk t n (m_sk t n (m_sk t n p + 1) + 1)))) (by omega) (by rw [hx]; decide)
      · cases h
    · obtain ⟨e1, e2, e3⟩ := fin_q h
      refine ⟨?_, by omega, e3⟩
      rw [e1]
      intro b' j' v' e
      simp only [Option.some.injEq, Prod.mk.injEq] at e
      obtain ⟨c1, c2, c3⟩ := e
      refine ⟨by omega, by omega, fun x hx => ?_⟩
      rw [← c3] at hx; cases hx
  · cases h
theorem rd_q {t : Nat → Nat} {n p q : Nat} {y : mO} (h : m_rd t n p = .inr (y, q)) : m_ook y ∧ p + 2 ≤ q ∧ q ≤ n := by
  unfold m_rd at h
  split at h
  · obtain ⟨e1, e2, e3⟩ := rdb_q (by omega) h
    exact ⟨e1, by omega, e3⟩
  · split at h
    · obtain ⟨e1, e2, e3⟩ := fin_q h
      refine ⟨?_, by omega, e3⟩
      rw [e1]
      intro b' j' v' e
      cases e
    · split at h
      · have g1 := sk_ge t n (p + 1)
        split at h
        · rename_i h3
          obtain ⟨e1, e2, e3⟩ := fin_q h
          refine ⟨?_, by omega, e3⟩
          rw [e1]
          exact vp_99 h3
        · cases h
      · cases h
theorem rd_f {t : Nat → Nat} {n p f : Nat} (hp : p < n) (h : m_rd t n p = .inl f) : f ≤ n := by
  unfold m_rd m_rdb at h
  have g0 := sk_n (t := t) (n := n) (p := p + 1) (by omega)
  split at h
  · split at h
    · rename_i h1
      have g1 := sk_n (t := t) (n := n) (p := m_sk t n (p + 1) + 1) (by omega)
      split at h
      · rename_i h2
        have g2 := sk_n (t := t) (n := n) (p := m_sk t n (m_sk t n (p + 1) + 1) + 1) (by omega)
        split at h
        · exact fin_f (dg_n g2) h
        · simp only [Sum.inl.injEq] at h; omega
      · exact fin_f g1 h
    · simp only [Sum.inl.injEq] at h; omega
  · split at h
    · exact fin_f (by omega) h
    · split at h
      · split at h
        · exact fin_f (dg_n g0) h
        · simp only [Sum.inl.injEq] at h; omega
      · simp only [Sum.inl.injEq] at h; omega
theorem prs_ok {t : Nat → Nat} {n : Nat} : ∀ f p l, (∀ x ∈ l, m_ook x) → 2 * l.length ≤ p → p ≤ n → match m_prs t n f p l with
    | .inl e => e ≤ n
    | .inr l' => (∀ x ∈ l', m_ook x) ∧ 2 * l'.length ≤ n := by
  intro f
  induction f with
  | zero => intro p l h1 h2 h3; exact ⟨h1, by omega⟩
  | succ f ih =>
    intro p l h1 h2 h3
    simp only [m_prs]
    by_cases hc : n ≤ m_sk t n p
    · rw [if_pos hc]; exact ⟨h1, by omega⟩
    · rw [if_neg hc]
      cases hr : m_rd t n (m_sk t n p) with
      | inl e => exact rd_f (by omega) hr
      | inr y =>
        obtain ⟨x, q⟩ := y
        obtain ⟨e1, e2, e3⟩ := rd_q hr
        have g := sk_ge t n p
        refine ih q (l ++ [x]) (fun y hy => ?_) (by simp only [List.length_append, List.length_singleton]; omega) e3
        rcases List.mem_append.1 hy with hy | hy
        · exact h1 y hy
        · rw [List.mem_singleton.1 hy]; exact e1
theorem text_ok (t : Nat → Nat) (n : Nat) : match m_text t n with
    | .inl e => e ≤ n
    | .inr l' => (∀ x ∈ l', m_ook x) ∧ 2 * l'.length ≤ n := by
  unfold m_text
  split
  · rename_i h; split at h <;> rename_i h2
    · simp only [Sum.inl.injEq] at h; omega
    · have := prs_ok (t := t) (n := n) 120 0 [] (fun x hx => by cases hx) (by simp) (by omega)
      rw [h] at this; exact this
  · rename_i h; split at h <;> rename_i h2
    · cases h
    · have := prs_ok (t := t) (n := n) 120 0 [] (fun x hx => by cases hx) (by simp) (by omega)
      rw [h] at this; exact this
