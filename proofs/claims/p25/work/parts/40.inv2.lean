/-! making room: the one that goes (where 1, out of its row already) -/
theorem m_out_29 (A : mS) (z : Nat) : (m_out A z).1 29 z = 0 ∨ (m_out A z).1 29 z = 2 := by
  unfold m_out
  split
  · left; simp [m_i]
  · split
    · right; simp [m_i]
    · left; simp [m_gone, m_tal, m_far, m_c, m_i]
theorem inv_room {A : mS} {b : Nat} (h : m_inv b A) (hb : b < 16) (hnb : A.1 29 b ≠ 1) :
    m_lim (m_room A (b % 4)) ∧ (∀ r, r < 4 → (m_R (m_room A (b % 4)) r).Nodup ∧ ∀ x, x ∈ m_R (m_room A (b % 4)) r ↔ x < 16 ∧ x % 4 = r ∧ (m_room A (b % 4)).1 29 x = 1) ∧ m_fet b (m_room A (b % 4)) ∧ m_ask b (m_room A (b % 4)) ∧ m_wh b (m_room A (b % 4)) ∧ (m_room A (b % 4)).1 39 1 = nI (m_cs b (m_room A (b % 4))) ∧ m_cok (m_C (m_room A (b % 4))) ∧ (m_room A (b % 4)).1 29 b = A.1 29 b := by
  obtain ⟨h1, h2, ⟨f1, f2, f3⟩, ⟨q1, q2⟩, w, s, c⟩ := id h
  have hr4 : b % 4 < 4 := by omega
  unfold m_room
  split
  · exact ⟨h1, h2, ⟨f1, f2, f3⟩, ⟨q1, q2⟩, w, s, c, rfl⟩
  · split
    · exact ⟨h1, h2, ⟨f1, f2, f3⟩, ⟨q1, q2⟩, w, s, c, rfl⟩
    · rename_i z hz
      have hzm : z ∈ m_R A (b % 4) := List.mem_of_getLast? hz
      obtain ⟨hz16, hz4, hzw⟩ := ((h2 _ hr4).2 z).mp hzm
      have hzb : b ≠ z := fun e => hnb (e ▸ hzw)
      obtain ⟨k1, k2, k3, k4, k5, k6⟩ := m_out_keep (m_r A (b % 4) (m_R A (b % 4)).dropLast) z
      have kR := m_R_out (m_r A (b % 4) (m_R A (b % 4)).dropLast) z
      have e29 : ∀ x, x ≠ z → (m_out (m_r A (b % 4) (m_R A (b % 4)).dropLast) z).1 29 x = A.1 29 x := fun x hx => (k4 x hx).1
      have e28 : ∀ x, x ≠ z → (m_out (m_r A (b % 4) (m_R A (b % 4)).dropLast) z).1 28 x = A.1 28 x := fun x hx => (k4 x hx).2.1
      have ez := m_out_29 (m_r A (b % 4) (m_R A (b % 4)).dropLast) z
      have hnd := (h2 _ hr4).1
      have hsplit : m_R A (b % 4) = (m_R A (b % 4)).dropLast ++ [z] := by
        obtain ⟨ys, hys⟩ := List.getLast?_eq_some_iff.mp hz
        rw [hys]; simp
      have hznd : z ∉ (m_R A (b % 4)).dropLast := by
        intro hc
        rw [hsplit] at hnd
        exact (List.nodup_append.mp hnd).2.2 z hc z (by simp) rfl
      have hmem : ∀ x, x ∈ (m_R A (b % 4)).dropLast ↔ x ∈ m_R A (b % 4) ∧ x ≠ z := by
        intro x
        constructor
        · intro hc
          exact ⟨(List.dropLast_sublist _).subset hc, fun e => hznd (e ▸ hc)⟩
        · rintro ⟨hc, hne⟩
          rw [hsplit] at hc
          rcases List.mem_append.mp hc with q | q
          · exact q
          · exact absurd (by simpa using q) hne
      refine ⟨?_, fun r hr => ?_, ⟨?_, fun x => ?_, ?_⟩, ⟨fun x hx hne hn => ?_, fun x hx => ?_⟩, fun x hx => ?_, ?_, ?_, e29 b hzb⟩
      · unfold m_lim; rw [k3]; exact h1
      · rw [kR]
        have hR : m_R (m_r A (b % 4) (m_R A (b % 4)).dropLast) r = if r = b % 4 then (m_R A (b % 4)).dropLast else m_R A r := rfl
        rw [hR]
        by_cases e : r = b % 4
        · rw [if_pos e]
          refine ⟨hnd.sublist (List.dropLast_sublist _), fun x => ?_⟩
          rw [hmem x, (h2 _ hr4).2 x]
          by_cases ex : x = z
          · subst ex
            constructor
            · rintro ⟨-, q⟩; exact absurd rfl q
            · rintro ⟨-, -, q⟩; rcases ez with g | g <;> rw [g] at q <;> exact absurd q (by decide)
          · rw [e29 x ex, e]
            exact ⟨fun q => q.1, fun q => ⟨q, ex⟩⟩
        · rw [if_neg e]
          refine ⟨(h2 r hr).1, fun x => ?_⟩
          rw [(h2 r hr).2 x]
          by_cases ex : x = z
          · subst ex
            constructor
            · rintro ⟨-, q, -⟩; exact absurd (q.symm.trans hz4) e
            · rintro ⟨-, q, -⟩; exact absurd (q.symm.trans hz4) e
          · rw [e29 x ex]
      · rw [k2]; exact f1
      · rw [k2]
        show x ∈ m_F A ↔ _
        rw [f2 x]
        by_cases ex : x = z
        · subst ex
          constructor
          · rintro ⟨-, -, q⟩; rw [hzw] at q; exact absurd q (by decide)
          · rintro ⟨-, -, q⟩; rcases ez with g | g <;> rw [g] at q <;> exact absurd q (by decide)
        · rw [e29 x ex]
      · rw [k2, k3]; exact f3
      · rw [k1]
        by_cases ex : x = z
        · subst ex; exact q1 x hx hne (by rw [hzw]; decide)
        · rw [e29 x ex] at hn; exact q1 x hx hne hn
      · rw [k1, k3]; exact q2 x hx
      · by_cases ex : x = z
        · subst ex
          refine ⟨?_, fun _ h03 => ?_⟩
          · rcases ez with g | g <;> rw [g] <;> simp
          · unfold m_out
            split
            · rename_i h0; simpa [m_i] using h0
            · split
              · rename_i h0 h00
                unfold m_out at h03
                rw [if_neg h0, if_pos h00] at h03
                simp [m_i] at h03
              · simp [m_gone, m_tal, m_far, m_c, m_i]
        · rw [e29 x ex, e28 x ex]; exact w x hx
      · have hcs0 : ∀ A' : mS, (∀ x, x ≠ z → A'.1 29 x = A.1 29 x) → A'.1 29 z = 0 → m_cs b A' = m_cs b A := by
          intro A' g1 g2
          refine m_cs_eq (fun x hx => ?_)
          by_cases ex : x = z
          · subst ex; rw [g2, hzw]; simp
          · rw [g1 x ex]
        unfold m_out at e29 ⊢
        split
        · rename_i h0
          rw [if_pos h0] at e29
          rw [hcs0 _ e29 (by simp [m_i])]
          simpa [m_i, m_r] using s
        · rename_i h0
          rw [if_neg h0] at e29
          split
          · rename_i h00
            rw [if_pos h00] at e29
            rw [m_cs_add (h := b) (A := A) hz16 (fun x hx hne => by rw [e29 x hne]) ⟨fun e => hzb e.symm, by simp [m_i]⟩ (by rw [hzw]; simp)]
            have : (m_i (m_i (m_i (m_r A (b % 4) (m_R A (b % 4)).dropLast) 29 z 2) 30 z ((m_r A (b % 4) (m_R A (b % 4)).dropLast).1 40 9 + m_half ((m_r A (b % 4) (m_R A (b % 4)).dropLast).1 25 4))) 39 1 ((m_r A (b % 4) (m_R A (b % 4)).dropLast).1 39 1 + 1)).1 39 1 = A.1 39 1 + 1 := by simp [m_i, m_r]
            rw [this, s, nI_succ]
          · rename_i h00
            rw [if_neg h00] at e29
            rw [hcs0 _ e29 (by simp [m_gone, m_tal, m_far, m_c, m_i])]
            simpa [m_gone, m_tal, m_far, m_c, m_i, m_r] using s
      · unfold m_out
        split
        · exact c
        · split
          · exact c
          · exact (fl_add c m_price_gone).2
