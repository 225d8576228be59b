/-! what a LOAD would get at last, and what moves of boxes leave of it -/
def m_u1 (f : Nat → Int32) (q : mQ) : Nat → Int32 := match q.2.2.1 with
  | some x => fun j => if q.1 = j then x else f j
  | none => f
def m_qv (f : Nat → Int32) (l : List mQ) : Nat → Int32 := l.foldl m_u1 f
theorem qv_last (l : List mQ) (j : Nat) : ∀ f : Nat → Int32, l.foldl (fun v (q : mQ) => match q.2.2.1 with | some x => if q.1 = j then x else v | none => v) (f j) = m_qv f l j := by
  induction l with
  | nil => intro f; rfl
  | cons q l ih =>
    intro f
    have e : (match q.2.2.1 with | some x => if q.1 = j then x else f j | none => f j) = m_u1 f q j := by
      unfold m_u1; cases q.2.2.1 <;> rfl
    show l.foldl _ (match q.2.2.1 with | some x => if q.1 = j then x else f j | none => f j) = m_qv (m_u1 f q) l j
    rw [e]
    exact ih (m_u1 f q)
def m_base (A : mS) (b j : Nat) : Int32 := if A.1 29 b = 1 ∨ A.1 29 b = 2 then A.1 27 (4 * b + j) else A.1 26 (4 * b + j)
def m_val (A : mS) (b j : Nat) : Int32 := m_qv (m_base A b) (m_Q A b) j
theorem val_item {A : mS} (h : m_inv 16 A) {b : Nat} (hb : b < 16) (j : Nat) : (if A.1 29 b = 1 ∨ A.1 29 b = 2 then A.1 27 (4 * b + j) else m_last A b j) = m_val A b j := by
  unfold m_val
  by_cases e : A.1 29 b = 1 ∨ A.1 29 b = 2
  · have hq : m_Q A b = [] := h.2.2.2.1.1 b hb (by omega) (fun e3 => by rw [e3] at e; exact absurd e (by decide))
    rw [if_pos e, hq]
    show _ = m_base A b j
    unfold m_base; rw [if_pos e]
  · rw [if_neg e]
    have e2 : m_base A b = fun j => A.1 26 (4 * b + j) := by funext i; unfold m_base; rw [if_neg e]
    rw [e2]
    exact qv_last (m_Q A b) j (fun j => A.1 26 (4 * b + j))
def m_nc (A : mS) : Prop := ∀ b, b < 16 → A.1 29 b = 1 ∨ A.1 29 b = 2 → ∀ j, j < 4 → ¬ m_bit (A.1 28 b) j = 1 → A.1 26 (4 * b + j) = A.1 27 (4 * b + j)
theorem bit_0 : ∀ j, j < 4 → ¬ m_bit 0 j = 1 := by decide
def m_mv (qs : Nat → List mQ) (A A' : mS) : Prop := m_nc A → m_nc A' ∧ (∀ b, b < 16 → ∀ j, j < 4 → m_base A' b j = m_base A b j) ∧ (A'.1 41 = A.1 41 ∧ A'.1 42 = A.1 42) ∧ (A'.1 40 7 = A.1 40 7 ∧ A'.1 40 8 = A.1 40 8 ∧ A'.1 40 9 = A.1 40 9) ∧ A'.1 39 2 = A.1 39 2 ∧ m_W A' = m_W A ∧ A'.1 25 = A.1 25 ∧ ∀ z, z < 16 → qs z ≠ [] → A'.1 30 z = A.1 30 z ∧ (A'.1 29 z = 3 → A.1 29 z = 3)
theorem mv_rf (qs : Nat → List mQ) (A : mS) : m_mv qs A A := fun h => ⟨h, fun _ _ _ _ => rfl, ⟨rfl, rfl⟩, ⟨rfl, rfl, rfl⟩, rfl, rfl, rfl, fun _ _ _ => ⟨rfl, id⟩⟩
theorem mv_tr {qs : Nat → List mQ} {A A1 A2 : mS} (h : m_mv qs A A1) (h2 : m_mv qs A1 A2) : m_mv qs A A2 := by
  intro hn
  obtain ⟨a1, a2, ⟨a3, a4⟩, ⟨a5, a6, a7⟩, a8, a9, a10, a11⟩ := h hn
  obtain ⟨b1, b2, ⟨b3, b4⟩, ⟨b5, b6, b7⟩, b8, b9, b10, b11⟩ := h2 a1
  exact ⟨b1, fun b hb j hj => (b2 b hb j hj).trans (a2 b hb j hj), ⟨b3.trans a3, b4.trans a4⟩, ⟨b5.trans a5, b6.trans a6, b7.trans a7⟩, b8.trans a8, b9.trans a9, b10.trans a10, fun z hz hq => ⟨(b11 z hz hq).1.trans (a11 z hz hq).1, fun e => (a11 z hz hq).2 ((b11 z hz hq).2 e)⟩⟩
/-- of the boxes nothing changes -/
theorem mv_eq {qs : Nat → List mQ} {A A' : mS} (h : ∀ k, k = 25 ∨ k = 26 ∨ k = 27 ∨ k = 28 ∨ k = 29 ∨ k = 30 ∨ k = 41 ∨ k = 42 → A'.1 k = A.1 k) (h40 : ∀ j, j = 7 ∨ j = 8 ∨ j = 9 → A'.1 40 j = A.1 40 j) (h39 : A'.1 39 2 = A.1 39 2) (hW : m_W A' = m_W A) : m_mv qs A A' := by
  have e26 := h 26 (by omega)
  have e27 := h 27 (by omega)
  have e28 := h 28 (by omega)
  have e29 := h 29 (by omega)
  have e30 := h 30 (by omega)
  intro hn
  refine ⟨?_, fun b hb j hj => ?_, ⟨h 41 (by omega), h 42 (by omega)⟩, ⟨h40 7 (by omega), h40 8 (by omega), h40 9 (by omega)⟩, h39, hW, h 25 (by omega), fun z _ _ => ⟨by rw [e30], by rw [e29]; exact id⟩⟩
  · intro b hb hw j hj hbit
    rw [e29] at hw
    rw [e28] at hbit
    rw [e26, e27]; exact hn b hb hw j hj hbit
  · unfold m_base; rw [e29, e27, e26]
theorem mv_tal {qs : Nat → List mQ} (A : mS) {w : Nat} (hw : w < 7) (p : UInt32) : m_mv qs A (m_tal A w p) :=
  mv_eq (fun k hk => by funext t; have : k ≠ 40 := by omega
                        simp [m_tal, m_i, m_c, this]) (fun j hj => by have : j ≠ w := by omega
                                                                      simp [m_tal, m_i, m_c, this]) (by simp [m_tal, m_i, m_c]) rfl
theorem mv_i {qs : Nat → List mQ} (A : mS) {k s : Nat} (v : Int32) (h : (k = 39 ∧ s ≠ 2) ∨ (k = 40 ∧ s < 7)) : m_mv qs A (m_i A k s v) :=
  mv_eq (fun q hq => by funext t; have : q ≠ k := by omega
                        simp [m_i, this]) (fun j hj => by have : ¬ (40 = k ∧ j = s) := by omega
                                                          simp only [m_i, if_neg this]) (by have : ¬ (39 = k ∧ 2 = s) := by omega
                                                                                            simp only [m_i, if_neg this]) rfl
theorem z_d4 {b j : Nat} (hj : j < 4) : (4 * b + j) / 4 = b ∧ (4 * b + j) % 4 = j := by omega
theorem mv_far {qs : Nat → List mQ} (A : mS) {x : Nat} (hw : A.1 29 x = 1 ∨ A.1 29 x = 2) : m_mv qs A (m_far A x) := by
  intro hn
  have e29 : ∀ z, (m_far A x).1 29 z = if z = x then 0 else A.1 29 z := by intro z; simp [m_far]
  have e28 : ∀ z, (m_far A x).1 28 z = if z = x then 0 else A.1 28 z := by intro z; simp [m_far]
  have e26 : ∀ b j, j < 4 → (m_far A x).1 26 (4 * b + j) = if b = x ∧ m_bit (A.1 28 x) j = 1 then A.1 27 (4 * b + j) else A.1 26 (4 * b + j) := by
    intro b j hj
    simp [m_far, (z_d4 (b := b) hj).1, (z_d4 (b := b) hj).2]
  have e27 : ∀ t, (m_far A x).1 27 t = A.1 27 t := by simp [m_far]
  have ek : ∀ k, k ≠ 26 → k ≠ 28 → k ≠ 29 → (m_far A x).1 k = A.1 k := by intro k h1 h2 h3; funext t; simp [m_far, h1, h2, h3]
  refine ⟨?_, ?_, ⟨ek 41 (by decide) (by decide) (by decide), ek 42 (by decide) (by decide) (by decide)⟩, ⟨by rw [ek 40 (by decide) (by decide) (by decide)], by rw [ek 40 (by decide) (by decide) (by decide)], by rw [ek 40 (by decide) (by decide) (by decide)]⟩, by rw [ek 39 (by decide) (by decide) (by decide)], rfl, ek 25 (by decide) (by decide) (by decide), fun z _ _ => ⟨by rw [ek 30 (by decide) (by decide) (by decide)], fun e => ?_⟩⟩
  · intro b hb hwb j hj hbit
    rw [e29] at hwb
    by_cases e : b = x
    · rw [if_pos e] at hwb; exact absurd hwb (by decide)
    · rw [if_neg e] at hwb
      rw [e28, if_neg e] at hbit
      rw [e26 b j hj, if_neg (fun h => e h.1), e27]; exact hn b hb hwb j hj hbit
  · intro b hb j hj
    unfold m_base
    rw [e29, e27, e26 b j hj]
    by_cases e : b = x
    · subst e
      rw [if_pos (rfl : b = b), if_neg (show ¬ ((0 : Int32) = 1 ∨ (0 : Int32) = 2) by decide), if_pos hw]
      by_cases hb1 : m_bit (A.1 28 b) j = 1
      · rw [if_pos ⟨rfl, hb1⟩]
      · rw [if_neg (fun h => hb1 h.2)]; exact hn b hb hw j hj hb1
    · rw [if_neg e, if_neg (show ¬ (b = x ∧ m_bit (A.1 28 x) j = 1) from fun h => e h.1)]
  · rw [e29] at e
    split at e
    · exact absurd e (by decide)
    · exact e
theorem mv_gone {qs : Nat → List mQ} (A : mS) {x : Nat} (hw : A.1 29 x = 1 ∨ A.1 29 x = 2) : m_mv qs A (m_gone A x) := mv_tr (mv_far A hw) (mv_tal _ (by omega) _)
theorem mv_out {qs : Nat → List mQ} (A : mS) {x : Nat} (hw : A.1 29 x = 1) (hq : qs x = []) : m_mv qs A (m_out A x) := by
  unfold m_out
  split
  · rename_i h0
    intro hn
    have e29 : ∀ z, (m_i A 29 x 0).1 29 z = if z = x then 0 else A.1 29 z := by intro z; simp [m_i]
    have ek : ∀ k, k ≠ 29 → (m_i A 29 x 0).1 k = A.1 k := by intro k hk; funext t; simp [m_i, hk]
    have e26 := ek 26 (by decide)
    have e27 := ek 27 (by decide)
    have e28 := ek 28 (by decide)
    have e40 := ek 40 (by decide)
    refine ⟨?_, ?_, ⟨ek 41 (by decide), ek 42 (by decide)⟩, ⟨by rw [e40], by rw [e40], by rw [e40]⟩, by rw [ek 39 (by decide)], rfl, ek 25 (by decide), fun z _ _ => ⟨by rw [ek 30 (by decide)], fun e => ?_⟩⟩
    · intro b hb hwb j hj hbit
      rw [e29] at hwb
      by_cases e : b = x
      · rw [if_pos e] at hwb; exact absurd hwb (by decide)
      · rw [if_neg e] at hwb
        rw [e28] at hbit
        rw [e26, e27]; exact hn b hb hwb j hj hbit
    · intro b hb j hj
      unfold m_base
      rw [e29, e27, e26]
      by_cases e : b = x
      · subst e
        rw [if_pos (rfl : b = b), if_neg (show ¬ ((0 : Int32) = 1 ∨ (0 : Int32) = 2) by decide), if_pos (Or.inl hw)]
        exact hn b hb (Or.inl hw) j hj (by rw [h0]; exact bit_0 j hj)
      · rw [if_neg e]
    · rw [e29] at e
      split at e
      · exact absurd e (by decide)
      · exact e
  · split
    · rename_i h0 h1
      intro hn
      generalize hA : m_i (m_i (m_i A 29 x 2) 30 x (A.1 40 9 + m_half (A.1 25 4))) 39 1 (A.1 39 1 + 1) = X
      have e29 : ∀ z, X.1 29 z = if z = x then 2 else A.1 29 z := by intro z; subst hA; simp [m_i]
      have e30 : ∀ z, z ≠ x → X.1 30 z = A.1 30 z := by intro z hz; subst hA; simp [m_i, hz]
      have ek : ∀ k, k ≠ 29 → k ≠ 30 → k ≠ 39 → X.1 k = A.1 k := by intro k h1 h2 h3; subst hA; funext t; simp [m_i, h1, h2, h3]
      have e26 := ek 26 (by decide) (by decide) (by decide)
      have e27 := ek 27 (by decide) (by decide) (by decide)
      have e28 := ek 28 (by decide) (by decide) (by decide)
      have e40 := ek 40 (by decide) (by decide) (by decide)
      refine ⟨?_, ?_, ⟨ek 41 (by decide) (by decide) (by decide), ek 42 (by decide) (by decide) (by decide)⟩, ⟨by rw [e40], by rw [e40], by rw [e40]⟩, by subst hA; simp [m_i], by subst hA; rfl, ek 25 (by decide) (by decide) (by decide), fun z _ hz => ?_⟩
      · intro b hb hwb j hj hbit
        rw [e28] at hbit
        rw [e26, e27]
        rw [e29] at hwb
        by_cases e : b = x
        · subst e; exact hn b hb (Or.inl hw) j hj hbit
        · rw [if_neg e] at hwb; exact hn b hb hwb j hj hbit
      · intro b hb j hj
        unfold m_base
        rw [e29, e27, e26]
        by_cases e : b = x
        · subst e
          rw [if_pos (rfl : b = b), if_pos (show (2 : Int32) = 1 ∨ (2 : Int32) = 2 by decide), if_pos (Or.inl hw)]
        · rw [if_neg e]
      · have hzx : z ≠ x := fun e => hz (by rw [e]; exact hq)
        rw [e29, if_neg hzx, e30 z hzx]
        exact ⟨rfl, id⟩
    · exact mv_tr (mv_i A (k := 40) (s := 5) _ (Or.inr ⟨rfl, by omega⟩)) (mv_gone _ (Or.inl (by simpa [m_i] using hw)))
theorem mv_room {qs : Nat → List mQ} (A : mS) (r : Nat) (h : ∀ x, x ∈ m_R A r → A.1 29 x = 1 ∧ qs x = []) : m_mv qs A (m_room A r) := by
  unfold m_room
  split
  · exact mv_rf _ _
  · split
    · exact mv_rf _ _
    · rename_i b hb
      obtain ⟨h2, h3⟩ := h b (List.mem_of_getLast? hb)
      exact mv_tr (mv_eq (A' := m_r A r (m_R A r).dropLast) (fun _ _ => rfl) (fun _ _ => rfl) rfl rfl) (mv_out (m_r A r (m_R A r).dropLast) h2 h3)
theorem out_at (A : mS) {x z : Nat} (hz : z ≠ x) : (m_out A x).1 29 z = A.1 29 z ∧ (m_out A x).1 28 z = A.1 28 z ∧ ∀ j, j < 4 → (m_out A x).1 26 (4 * z + j) = A.1 26 (4 * z + j) ∧ (m_out A x).1 27 (4 * z + j) = A.1 27 (4 * z + j) := by
  unfold m_out
  split
  · exact ⟨by simp [m_i, hz], by simp [m_i], fun j hj => ⟨by simp [m_i], by simp [m_i]⟩⟩
  · split
    · exact ⟨by simp [m_i, hz], by simp [m_i], fun j hj => ⟨by simp [m_i], by simp [m_i]⟩⟩
    · refine ⟨by simp [m_gone, m_tal, m_far, m_c, m_i, hz], by simp [m_gone, m_tal, m_far, m_c, m_i, hz], fun j hj => ⟨?_, by simp [m_gone, m_tal, m_far, m_c, m_i]⟩⟩
      simp [m_gone, m_tal, m_far, m_c, m_i, (z_d4 (b := z) hj).1, hz]
theorem room_at (A : mS) (r : Nat) (h : ∀ x, x ∈ m_R A r → A.1 29 x = 1) {z : Nat} (hz : A.1 29 z ≠ 1) : (m_room A r).1 29 z = A.1 29 z ∧ (m_room A r).1 28 z = A.1 28 z ∧ ∀ j, j < 4 → (m_room A r).1 26 (4 * z + j) = A.1 26 (4 * z + j) ∧ (m_room A r).1 27 (4 * z + j) = A.1 27 (4 * z + j) := by
  unfold m_room
  split
  · exact ⟨rfl, rfl, fun _ _ => ⟨rfl, rfl⟩⟩
  · split
    · exact ⟨rfl, rfl, fun _ _ => ⟨rfl, rfl⟩⟩
    · rename_i b hb
      have h2 := h b (List.mem_of_getLast? hb)
      exact out_at (m_r A r (m_R A r).dropLast) (fun e => hz (by rw [e]; exact h2))
theorem mv_near {qs : Nat → List mQ} {A : mS} {b : Nat} (h : ∀ x, x ∈ m_R A (b % 4) → A.1 29 x = 1 ∧ qs x = []) (hnb : A.1 29 b ≠ 1) (hw : A.1 29 b = 2 ∨ (A.1 29 b ≠ 2 ∧ ∀ j, j < 4 → A.1 27 (4 * b + j) = A.1 26 (4 * b + j))) : m_mv qs A (m_near A b) := by
  refine mv_tr (mv_room A (b % 4) h) ?_
  obtain ⟨r29, r28, r2⟩ := room_at A (b % 4) (fun x hx => (h x hx).1) hnb
  unfold m_near
  generalize m_room A (b % 4) = R at r29 r28 r2
  intro hn
  generalize hX : m_i (m_r R (b % 4) (b :: m_R R (b % 4))) 29 b 1 = X
  have e29 : ∀ z, X.1 29 z = if z = b then 1 else R.1 29 z := by intro z; subst hX; simp [m_i, m_r]
  have ek : ∀ k, k ≠ 29 → X.1 k = R.1 k := by intro k hk; subst hX; funext t; simp [m_i, m_r, hk]
  have e26 := ek 26 (by decide)
  have e27 := ek 27 (by decide)
  have e28 := ek 28 (by decide)
  have e40 := ek 40 (by decide)
  refine ⟨?_, ?_, ⟨ek 41 (by decide), ek 42 (by decide)⟩, ⟨by rw [e40], by rw [e40], by rw [e40]⟩, by rw [ek 39 (by decide)], by subst hX; rfl, ek 25 (by decide), fun z _ _ => ⟨by rw [ek 30 (by decide)], fun e => ?_⟩⟩
  · intro z hz hwb j hj hbit
    rw [e28] at hbit
    rw [e26, e27]
    rw [e29] at hwb
    by_cases e : z = b
    · subst e
      rcases hw with hw | hw
      · exact hn z hz (Or.inr (r29.trans hw)) j hj hbit
      · rw [(r2 j hj).1, (r2 j hj).2]; exact (hw.2 j hj).symm
    · rw [if_neg e] at hwb; exact hn z hz hwb j hj hbit
  · intro z hz j hj
    unfold m_base
    rw [e29, e27, e26]
    by_cases e : z = b
    · subst e
      rw [if_pos (rfl : z = z), if_pos (show (1 : Int32) = 1 ∨ (1 : Int32) = 2 by decide), r29]
      rcases hw with hw | hw
      · rw [if_pos (Or.inr hw)]
      · rw [if_neg (fun hc => hc.elim hnb hw.1), (r2 j hj).1, (r2 j hj).2]; exact hw.2 j hj
    · rw [if_neg e]
  · rw [e29] at e
    split at e
    · exact absurd e (by decide)
    · exact e
theorem mv_take {qs : Nat → List mQ} {A : mS} {b : Nat} (hw : A.1 29 b = 3) : m_mv qs A (m_take A b) := by
  intro hn
  have e27 : ∀ z j, j < 4 → (m_take A b).1 27 (4 * z + j) = if z = b then A.1 26 (4 * z + j) else A.1 27 (4 * z + j) := by
    intro z j hj
    simp [m_take, (z_d4 (b := z) hj).1]
  have e28 : ∀ z, (m_take A b).1 28 z = if z = b then 0 else A.1 28 z := by intro z; simp [m_take]
  have ek : ∀ k, k ≠ 27 → k ≠ 28 → (m_take A b).1 k = A.1 k := by intro k h1 h2; funext t; simp [m_take, h1, h2]
  have e26 := ek 26 (by decide) (by decide)
  have e29 := ek 29 (by decide) (by decide)
  have e40 := ek 40 (by decide) (by decide)
  refine ⟨?_, ?_, ⟨ek 41 (by decide) (by decide), ek 42 (by decide) (by decide)⟩, ⟨by rw [e40], by rw [e40], by rw [e40]⟩, by rw [ek 39 (by decide) (by decide)], rfl, ek 25 (by decide) (by decide), fun z _ _ => ⟨by rw [ek 30 (by decide) (by decide)], by rw [e29]; exact id⟩⟩
  · intro z hz hwb j hj hbit
    rw [e29] at hwb
    have hne : z ≠ b := fun e => by rw [e, hw] at hwb; exact absurd hwb (by decide)
    rw [e28, if_neg hne] at hbit
    rw [e26, e27 z j hj, if_neg hne]; exact hn z hz hwb j hj hbit
  · intro z hz j hj
    unfold m_base
    rw [e29, e27 z j hj, e26]
    by_cases e : z = b
    · subst e
      rw [hw, if_neg (show ¬ ((3 : Int32) = 1 ∨ (3 : Int32) = 2) by decide), if_neg (show ¬ ((3 : Int32) = 1 ∨ (3 : Int32) = 2) by decide)]
    · rw [if_neg e]
