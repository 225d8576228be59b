theorem inv_near {A : mS} {b : Nat} (h : m_inv b A) (hb : b < 16) (hnb : A.1 29 b ≠ 1) : m_inv b (m_near A b) ∧ (m_near A b).1 29 b = 1 := by
  obtain ⟨h1, h2, ⟨f1, f2, f3⟩, ⟨q1, q2⟩, w, s, c, e⟩ := inv_room h hb hnb
  have e29 : ∀ x, x ≠ b → (m_near A b).1 29 x = (m_room A (b % 4)).1 29 x := by intro x hx; simp [m_near, m_i, m_r, hx]
  have e29b : (m_near A b).1 29 b = 1 := by simp [m_near, m_i]
  have e28 : ∀ x, (m_near A b).1 28 x = (m_room A (b % 4)).1 28 x := by intro x; simp [m_near, m_i, m_r]
  have e25 : (m_near A b).1 25 = (m_room A (b % 4)).1 25 := by funext t; simp [m_near, m_i, m_r]
  have hbR : ∀ r, r < 4 → b ∉ m_R (m_room A (b % 4)) r := fun r hr hc => by
    have := ((h2 r hr).2 b).mp hc
    rw [e] at this
    exact hnb this.2.2
  refine ⟨⟨?_, fun r hr => ?_, ⟨f1, fun x => ?_, ?_⟩, ⟨fun x hx hne hn => ?_, fun x hx => ?_⟩, fun x hx => ?_, ?_, c⟩, e29b⟩
  · unfold m_lim; rw [e25]; exact h1
  · have hR : m_R (m_near A b) r = if r = b % 4 then b :: m_R (m_room A (b % 4)) (b % 4) else m_R (m_room A (b % 4)) r := rfl
    rw [hR]
    by_cases er : r = b % 4
    · rw [if_pos er]
      subst er
      refine ⟨List.nodup_cons.mpr ⟨hbR _ hr, (h2 _ hr).1⟩, fun x => ?_⟩
      rw [List.mem_cons, (h2 _ hr).2 x]
      by_cases ex : x = b
      · subst ex; rw [e29b]; simp [hb]
      · rw [e29 x ex]; simp [ex]
    · rw [if_neg er]
      refine ⟨(h2 r hr).1, fun x => ?_⟩
      rw [(h2 r hr).2 x]
      by_cases ex : x = b
      · subst ex
        constructor
        · rintro ⟨-, q, -⟩; exact absurd q.symm er
        · rintro ⟨-, q, -⟩; exact absurd q.symm er
      · rw [e29 x ex]
  · show x ∈ m_F (m_room A (b % 4)) ↔ _
    rw [f2 x]
    by_cases ex : x = b
    · subst ex; simp
    · rw [e29 x ex]
  · rw [e25]; exact f3
  · rw [e29 x hne] at hn; exact q1 x hx hne hn
  · rw [e25]; exact q2 x hx
  · by_cases ex : x = b
    · subst ex; rw [e29b]; exact ⟨Or.inr (Or.inl rfl), fun hc => absurd rfl hc⟩
    · rw [e29 x ex, e28 x]; exact w x hx
  · have : (m_near A b).1 39 1 = (m_room A (b % 4)).1 39 1 := by simp [m_near, m_i, m_r]
    rw [this, s]
    congr 1
    refine (m_cs_eq (fun x hx => ?_)).symm
    by_cases ex : x = b
    · subst ex; simp
    · rw [e29 x ex]
theorem inv_close {A : mS} {b : Nat} (h : m_inv b A) (hb : b < 16) (hw : A.1 29 b = 1) (hq : m_Q A b = []) : m_inv 16 A := by
  obtain ⟨h1, h2, ⟨f1, f2, f3⟩, ⟨q1, q2⟩, w, s, c⟩ := h
  refine ⟨h1, h2, ⟨f1, fun x => ?_, f3⟩, ⟨fun x hx _ hn => ?_, q2⟩, fun x hx => ?_, ?_, c⟩
  · rw [f2 x]
    constructor
    · rintro ⟨a, -, d⟩; exact ⟨a, by omega, d⟩
    · rintro ⟨a, -, d⟩; exact ⟨a, fun e => by subst e; rw [hw] at d; exact absurd d (by decide), d⟩
  · by_cases e : x = b
    · subst e; exact hq
    · exact q1 x hx e hn
  · refine ⟨(w x hx).1, fun _ h03 => ?_⟩
    by_cases e : x = b
    · subst e; rw [hw] at h03; rcases h03 with g | g <;> exact absurd g (by decide)
    · exact (w x hx).2 e h03
  · rw [s]
    congr 1
    unfold m_cs
    refine List.countP_congr (fun x hx' => ?_)
    have hx16 := List.mem_range.mp hx'
    simp only [decide_eq_true_eq]
    constructor
    · rintro ⟨-, d⟩; exact ⟨by omega, d⟩
    · rintro ⟨-, d⟩; exact ⟨fun e => by subst e; rw [hw] at d; exact absurd d (by decide), d⟩
/-- only fields that the invariant does not see differ -/
theorem inv_same {h : Nat} {A A' : mS} (hi : m_inv h A) (e25 : A'.1 25 = A.1 25) (e29 : A'.1 29 = A.1 29) (e28 : ∀ x, x < 16 → x ≠ h → A.1 29 x = 0 ∨ A.1 29 x = 3 → A'.1 28 x = A.1 28 x) (e39 : A'.1 39 1 = A.1 39 1) (eR : m_R A' = m_R A) (eF : m_F A' = m_F A) (eQ : m_Q A' = m_Q A) (eC : m_cok (m_C A')) : m_inv h A' := by
  obtain ⟨h1, h2, ⟨f1, f2, f3⟩, ⟨q1, q2⟩, w, s, c⟩ := hi
  refine ⟨?_, ?_, ⟨?_, ?_, ?_⟩, ⟨?_, ?_⟩, fun x hx => ?_, ?_, eC⟩
  · unfold m_lim; rw [e25]; exact h1
  · unfold m_row; rw [eR, e29]; exact h2
  · rw [eF]; exact f1
  · rw [eF, e29]; exact f2
  · rw [eF, e25]; exact f3
  · rw [eQ, e29]; exact q1
  · rw [eQ, e25]; exact q2
  · rw [e29]
    exact ⟨(w x hx).1, fun hne h03 => by rw [e28 x hx hne h03]; exact (w x hx).2 hne h03⟩
  · rw [e39, s]
    congr 1
    unfold m_cs
    rw [e29]
theorem m_serve_28 (b : Nat) (A : mS) (q : mQ) (x : Nat) (hx : x ≠ b) : (m_serve b A q).1 28 x = A.1 28 x := by
  unfold m_serve
  cases q.2.2.1 with
  | some v => simp [m_lay, m_i, hx]
  | none =>
    simp only [m_gets]
    by_cases hk : q.2.2.2 < 200
    · simp [hk, m_i, m_wx]
    · simp [hk, m_i, m_wx]
theorem inv_fold {b : Nat} (hb : b < 16) (l : List mQ) : ∀ {A : mS}, m_inv b A → m_inv b (l.foldl (m_serve b) A) := by
  induction l with
  | nil => intro A h; exact h
  | cons q l ih =>
    intro A h
    obtain ⟨g1, g2, g3, g4, g5, g6, g7, g8, g9, g10⟩ := m_serve_keep b A q
    exact ih (inv_same h g2 g1 (fun x _ hne _ => m_serve_28 b A q x hne) g10 g5 g6 g4 (by rw [g7]; exact h.2.2.2.2.2.2))
theorem inv_come {A : mS} (h : m_inv 16 A) {b : Nat} (hb : b < 16) (hw : A.1 29 b = 3) : m_inv 16 (m_come A b) := by
  have h1 := inv_hole h hb hw
  have hw1 : (m_take (m_f A ((m_F A).erase b)) b).1 29 b = 3 := hw
  obtain ⟨h2, w2⟩ := inv_near h1 hb (by rw [hw1]; decide)
  have h3 := inv_fold hb (m_Q A b) h2
  have k := m_fold_keep b (m_Q A b) (m_near (m_take (m_f A ((m_F A).erase b)) b) b)
  have w3 : ((m_Q A b).foldl (m_serve b) (m_near (m_take (m_f A ((m_F A).erase b)) b) b)).1 29 b = 1 := by rw [k.1.1]; exact w2
  show m_inv 16 (m_q ((m_Q A b).foldl (m_serve b) (m_near (m_take (m_f A ((m_F A).erase b)) b) b)) b [])
  generalize (m_Q A b).foldl (m_serve b) (m_near (m_take (m_f A ((m_F A).erase b)) b) b) = A3 at h3 w3 ⊢
  refine inv_close (b := b) ?_ hb w3 (by simp [m_q, m_Q])
  obtain ⟨a1, a2, a3, ⟨q1, q2⟩, a5, a6, a7⟩ := h3
  refine ⟨a1, a2, a3, ⟨fun x hx hne hn => ?_, fun x hx => ?_⟩, a5, a6, a7⟩
  · have : m_Q (m_q A3 b []) x = m_Q A3 x := by simp [m_q, m_Q, hne]
    rw [this]; exact q1 x hx hne hn
  · by_cases e : x = b
    · subst e
      have : m_Q (m_q A3 x []) x = [] := by simp [m_q, m_Q]
      rw [this]
      exact ⟨⟨by simp, fun q hq => absurd hq List.not_mem_nil⟩, Nat.zero_le _⟩
    · have : m_Q (m_q A3 b []) x = m_Q A3 x := by simp [m_q, m_Q, e]
      rw [this]; exact q2 x hx
theorem inv_tal {h : Nat} {A : mS} (hi : m_inv h A) (w : Nat) {p : UInt32} (hp : m_price p) : m_inv h (m_tal A w p) :=
  inv_same hi (by funext t; simp [m_tal, m_c, m_i]) (by funext t; simp [m_tal, m_c, m_i]) (fun x _ _ _ => by simp [m_tal, m_c, m_i]) (by simp [m_tal, m_c, m_i]) rfl rfl rfl (fl_add hi.2.2.2.2.2.2 hp).2
theorem inv_tick {h : Nat} {A : mS} (hi : m_inv h A) : m_inv h (m_tick A) :=
  inv_same hi (by funext t; simp [m_tick, m_i]) (by funext t; simp [m_tick, m_i]) (fun x _ _ _ => by simp [m_tick, m_i]) (by simp [m_tick, m_i]) rfl rfl rfl hi.2.2.2.2.2.2
theorem inv_p1 {A : mS} (h : m_inv 16 A) {b : Nat} (hb : b < 16) : m_inv 16 (m_p1 A b) := by
  unfold m_p1
  split
  · rename_i hc; exact inv_gone2 h hb hc.1
  · exact h
theorem inv_p2 {A : mS} (h : m_inv 16 A) {b : Nat} (hb : b < 16) : m_inv 16 (m_p2 A b) := by
  unfold m_p2
  split
  · rename_i hc; exact inv_come h hb hc.1
  · exact h
theorem inv_list (f : mS → Nat → mS) (hf : ∀ A b, b < 16 → m_inv 16 A → m_inv 16 (f A b)) (l : List Nat) : ∀ A, (∀ x ∈ l, x < 16) → m_inv 16 A → m_inv 16 (l.foldl f A) := by
  induction l with
  | nil => intro A _ h; exact h
  | cons a l ih => intro A hl h; exact ih _ (fun x hx => hl x (List.mem_cons_of_mem _ hx)) (hf A a (hl a List.mem_cons_self) h)
theorem inv_pass {A : mS} (h : m_inv 16 A) : m_inv 16 (m_pass A) :=
  inv_list m_p2 (fun A b hb h => inv_p2 h hb) _ _ (fun x hx => List.mem_range.mp hx) (inv_list m_p1 (fun A b hb h => inv_p1 h hb) _ _ (fun x hx => List.mem_range.mp hx) (inv_tick h))
