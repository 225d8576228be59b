/-! what always holds of A; h: a box that is between places (16: none) -/
def m_fet (h : Nat) (A : mS) : Prop := (m_F A).Nodup ∧ (∀ x, x ∈ m_F A ↔ x < 16 ∧ x ≠ h ∧ A.1 29 x = 3) ∧ (m_F A).length ≤ (A.1 25 2).toNatClampNeg
def m_ask (h : Nat) (A : mS) : Prop := (∀ x, x < 16 → x ≠ h → A.1 29 x ≠ 3 → m_Q A x = []) ∧ ∀ x, x < 16 → m_qok (m_Q A x) ∧ (m_Q A x).length ≤ (A.1 25 3).toNatClampNeg
def m_wh (h : Nat) (A : mS) : Prop := ∀ x, x < 16 → (A.1 29 x = 0 ∨ A.1 29 x = 1 ∨ A.1 29 x = 2 ∨ A.1 29 x = 3) ∧ (x ≠ h → A.1 29 x = 0 ∨ A.1 29 x = 3 → A.1 28 x = 0)
def m_cs (h : Nat) (A : mS) : Nat := (List.range 16).countP (fun x => decide (x ≠ h ∧ A.1 29 x = 2))
def m_inv (h : Nat) (A : mS) : Prop := m_lim A ∧ m_row A ∧ m_fet h A ∧ m_ask h A ∧ m_wh h A ∧ A.1 39 1 = nI (m_cs h A) ∧ m_cok (m_C A)
theorem m_cs_le (h : Nat) (A : mS) : m_cs h A ≤ 16 := by
  have := List.countP_le_length (p := fun x => decide (x ≠ h ∧ A.1 29 x = 2)) (l := List.range 16)
  simpa [m_cs] using this
/-- the count, when one box changes place -/
theorem m_cs_eq {h : Nat} {A A' : mS} (hx : ∀ x, x < 16 → (x ≠ h ∧ A'.1 29 x = 2 ↔ x ≠ h ∧ A.1 29 x = 2)) : m_cs h A' = m_cs h A := by
  unfold m_cs
  refine List.countP_congr (fun x hx' => ?_)
  have := hx x (List.mem_range.mp hx')
  simpa using this
theorem m_count_add (p q : Nat → Bool) (z : Nat) : ∀ l : List Nat, l.Nodup → (∀ x ∈ l, x ≠ z → p x = q x) → p z = true → q z = false → l.countP p = l.countP q + if z ∈ l then 1 else 0 := by
  intro l
  induction l with
  | nil => intro _ _ _ _; simp
  | cons a l ih =>
    intro hn hx hp hq
    obtain ⟨h1, h2⟩ := List.nodup_cons.mp hn
    have ih' := ih h2 (fun x hm hz => hx x (List.mem_cons_of_mem _ hm) hz) hp hq
    by_cases e : a = z
    · subst e
      rw [List.countP_cons_of_pos hp, List.countP_cons_of_neg (by rw [hq]; decide), ih']
      simp [h1]
    · have := hx a List.mem_cons_self e
      by_cases hpa : p a = true
      · rw [List.countP_cons_of_pos hpa, List.countP_cons_of_pos (by rw [← this]; exact hpa), ih']
        have : z ∈ a :: l ↔ z ∈ l := by simp [Ne.symm e]
        simp only [this]
        omega
      · rw [List.countP_cons_of_neg hpa, List.countP_cons_of_neg (by rw [← this]; exact hpa), ih']
        have : z ∈ a :: l ↔ z ∈ l := by simp [Ne.symm e]
        simp only [this]
theorem m_cs_add {h h' : Nat} {A A' : mS} {z : Nat} (hz : z < 16) (hx : ∀ x, x < 16 → x ≠ z → (x ≠ h' ∧ A'.1 29 x = 2 ↔ x ≠ h ∧ A.1 29 x = 2)) (h1 : z ≠ h' ∧ A'.1 29 z = 2) (h2 : ¬ (z ≠ h ∧ A.1 29 z = 2)) : m_cs h' A' = m_cs h A + 1 := by
  unfold m_cs
  rw [m_count_add _ (fun x => decide (x ≠ h ∧ A.1 29 x = 2)) z (List.range 16) List.nodup_range (fun x hm hne => ?_) (by simpa using h1) (by simpa using h2), if_pos (List.mem_range.mpr hz)]
  have := hx x (List.mem_range.mp hm) hne
  exact decide_eq_decide.mpr this
/-! a box goes FAR from the shelf -/
theorem inv_gone2 {A : mS} (h : m_inv 16 A) {b : Nat} (hb : b < 16) (hw : A.1 29 b = 2) : m_inv 16 (m_gone (m_i A 39 1 (A.1 39 1 - 1)) b) := by
  obtain ⟨h1, h2, ⟨f1, f2, f3⟩, ⟨q1, q2⟩, w, s, c⟩ := h
  have hcs : m_cs 16 A = m_cs 16 (m_gone (m_i A 39 1 (A.1 39 1 - 1)) b) + 1 := by
    refine m_cs_add hb (fun x hx hne => ?_) ⟨by omega, hw⟩ ?_
    · simp [m_gone, m_tal, m_far, m_c, m_i, hne]
    · simp [m_gone, m_tal, m_far, m_c, m_i]
  have e29 : ∀ x, x ≠ b → (m_gone (m_i A 39 1 (A.1 39 1 - 1)) b).1 29 x = A.1 29 x := by intro x hx; simp [m_gone, m_tal, m_far, m_c, m_i, hx]
  have e28 : ∀ x, x ≠ b → (m_gone (m_i A 39 1 (A.1 39 1 - 1)) b).1 28 x = A.1 28 x := by intro x hx; simp [m_gone, m_tal, m_far, m_c, m_i, hx]
  have e29b : (m_gone (m_i A 39 1 (A.1 39 1 - 1)) b).1 29 b = 0 := by simp [m_gone, m_tal, m_far, m_c, m_i]
  have e28b : (m_gone (m_i A 39 1 (A.1 39 1 - 1)) b).1 28 b = 0 := by simp [m_gone, m_tal, m_far, m_c, m_i]
  refine ⟨?_, fun r hr => ?_, ⟨f1, fun x => ?_, ?_⟩, ⟨fun x hx _ hne => ?_, fun x hx => ?_⟩, fun x hx => ?_, ?_, ?_⟩
  · simpa [m_lim, m_gone, m_tal, m_far, m_c, m_i] using h1
  · refine ⟨(h2 r hr).1, fun x => ?_⟩
    show x ∈ m_R A r ↔ _
    rw [(h2 r hr).2 x]
    by_cases e : x = b
    · subst e; rw [e29b, hw]; simp
    · rw [e29 x e]
  · show x ∈ m_F A ↔ _
    rw [f2 x]
    by_cases e : x = b
    · subst e; rw [e29b, hw]; simp
    · rw [e29 x e]
  · simpa [m_gone, m_tal, m_far, m_c, m_i, m_F] using f3
  · by_cases e : x = b
    · subst e; exact q1 x hx (by omega) (by rw [hw]; decide)
    · rw [e29 x e] at hne; exact q1 x hx (by omega) hne
  · have := q2 x hx
    refine ⟨this.1, ?_⟩
    simpa [m_gone, m_tal, m_far, m_c, m_i, m_Q] using this.2
  · by_cases e : x = b
    · subst e; rw [e29b, e28b]; simp
    · rw [e29 x e, e28 x e]; exact w x hx
  · have : (m_gone (m_i A 39 1 (A.1 39 1 - 1)) b).1 39 1 = A.1 39 1 - 1 := by simp [m_gone, m_tal, m_far, m_c, m_i]
    exact this.trans ((congrArg (fun z : Int32 => z - 1) (s.trans (congrArg nI hcs))).trans (nI_pred _))
  · exact (fl_add c m_price_gone).2
/-! a fetch comes: between places -/
theorem inv_hole {A : mS} (h : m_inv 16 A) {b : Nat} (hb : b < 16) (hw : A.1 29 b = 3) : m_inv b (m_take (m_f A ((m_F A).erase b)) b) := by
  obtain ⟨h1, h2, ⟨f1, f2, f3⟩, ⟨q1, q2⟩, w, s, c⟩ := h
  have e29 : ∀ x, (m_take (m_f A ((m_F A).erase b)) b).1 29 x = A.1 29 x := by intro x; simp [m_take, m_f]
  refine ⟨h1, fun r hr => ?_, ⟨f1.erase b, fun x => ?_, ?_⟩, ⟨fun x hx hne hn => ?_, q2⟩, fun x hx => ?_, ?_, c⟩
  · refine ⟨(h2 r hr).1, fun x => ?_⟩
    rw [e29 x]; exact (h2 r hr).2 x
  · show x ∈ (m_F A).erase b ↔ _
    rw [f1.mem_erase_iff, f2 x, e29 x]
    constructor
    · rintro ⟨a, b1, -, d⟩; exact ⟨b1, a, d⟩
    · rintro ⟨a, b1, d⟩; exact ⟨b1, a, by omega, d⟩
  · have h3 : ((m_F A).erase b).length ≤ (m_F A).length := List.length_erase_le
    have h4 : (m_take (m_f A ((m_F A).erase b)) b).1 25 2 = A.1 25 2 := by simp [m_take, m_f]
    rw [h4]; exact Nat.le_trans h3 f3
  · rw [e29 x] at hn; exact q1 x hx (by omega) hn
  · rw [e29 x]
    refine ⟨(w x hx).1, fun hne h03 => ?_⟩
    have := (w x hx).2 (by omega) h03
    have e : (m_take (m_f A ((m_F A).erase b)) b).1 28 x = A.1 28 x := by simp [m_take, m_f, hne]
    rw [e]; exact this
  · have e1 : (m_take (m_f A ((m_F A).erase b)) b).1 39 1 = A.1 39 1 := by simp [m_take, m_f]
    rw [e1, s]
    congr 1
    unfold m_cs
    refine List.countP_congr (fun x hx' => ?_)
    have hx16 := List.mem_range.mp hx'
    simp only [e29 x, decide_eq_true_eq]
    constructor
    · rintro ⟨-, d⟩; exact ⟨fun e => by subst e; rw [hw] at d; exact absurd d (by decide), d⟩
    · rintro ⟨-, d⟩; exact ⟨by omega, d⟩
