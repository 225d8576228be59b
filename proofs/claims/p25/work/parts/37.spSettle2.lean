theorem z_halfs : ∀ l, l < 21 → (if (1 : Int32) < nI l / 2 then nI l / 2 else 1) = m_half (nI l) := by decide +kernel
theorem m_R_out (A : mS) (b : Nat) : m_R (m_out A b) = m_R A := by
  unfold m_out
  split
  · rfl
  · split
    · rfl
    · rfl
theorem m_R_room (A : mS) (r r' : Nat) : (m_R (m_room A r) r').Sublist (m_R A r') := by
  unfold m_room
  split
  · exact List.Sublist.refl _
  · split
    · exact List.Sublist.refl _
    · rw [m_R_out]
      simp only [m_r, m_R]
      by_cases e : r' = r
      · subst e; simp only [if_pos rfl]; exact List.dropLast_sublist _
      · simp only [if_neg e]; exact List.Sublist.refl _
theorem m_price_gone : m_price 1079194419 := Or.inr (Or.inr (Or.inr (Or.inr (Or.inl rfl))))
section SPS
variable {o : zW} {n i U : Nat}
theorem sp_near (hi : i < 8) (hn : z_sb i + 120 ≤ n) {b : Nat} (hb : b < 16) (S0 S : zS) {A : mS} (hfr : c_fr i S0 S) (h : c_R i U S (m_room A (b % 4))) (hrow : m_row A) (hnb : A.1 29 b ≠ 1) (K : zS → Prop) (hK : ∀ S', c_R i (U + 1) S' (m_near A b) → c_fr i S0 S' → K S') :
    zGv o n mdX2_use [.ref (z_adr o (1, i, 0)), .ref (z_adr o (5, i, b))] (sI (sI S (5, i, b) 8 1) (5, i, b) 10 (2000000000 : Int32)) K := by
  refine sp_use hi hn hb _ K (hK _ (cr_use h hb (m_R (m_room A (b % 4)) (b % 4)) (List.Sublist.refl _) ?_ ?_ ?_) (fr_near hfr b))
  · intro hc
    exact hnb ((((hrow _ (by omega)).2 b).mp ((m_R_room A (b % 4) (b % 4)).subset hc)).2.2)
  · intro r hr _ hc
    exact hnb ((((hrow r hr).2 b).mp ((m_R_room A (b % 4) r).subset hc)).2.2)
  · intro r hr x hx
    exact (((hrow r hr).2 x).mp ((m_R_room A (b % 4) r).subset hx)).1
theorem sp_settle (hi : i < 8) (hn : z_sb i + 120 ≤ n) {b : Nat} (hb : b < 16) (S : zS) {A : mS} (h : c_R i U S A) (hU : U + 1 < 2 ^ 31) (hlim : m_lim A) (hrow : m_row A) (hnb : A.1 29 b ≠ 1) (hcost : m_cok (m_C A)) (K : zS → Prop) (hK : ∀ S', c_R i (U + 1) S' (m_near A b) → c_fr i S S' → K S') :
    zGv o n mdX2_settle [.ref (z_adr o (1, i, 0)), .ref (z_adr o (5, i, b))] S K := by
  obtain ⟨⟨P, hP, hP1, hP3⟩, -, -, -, ⟨L, hL, hL1, hL20⟩⟩ := id hlim
  have hr4 : b % 4 < 4 := by omega
  refine w_X2_settle_0 o n i hi hn b hb S _ ?_
  have e4 : nI b - nI b / 4 * 4 = nI (b % 4) := pk_rem (a := b) (d := 4) (by omega) (by omega) (by omega)
  rw [e4]
  refine sp_who hi hn hr4 S h (by omega) (hrow _ hr4).1 (hrow _ hr4).2 hP hP1 hP3 _ ?_
  have hPn : (A.1 25 0).toNatClampNeg = P := by rw [hP]; exact z_cl (by omega)
  by_cases hlt : (m_R A (b % 4)).length < P
  · rw [if_pos hlt]
    have hroom : m_room A (b % 4) = A := by unfold m_room; rw [hPn, if_pos hlt]
    refine ⟨fun _ => ?_, fun b5 hb5 => by cases hb5⟩
    exact sp_near hi hn hb S S (c_fr_rf i S) (by rw [hroom]; exact h) hrow hnb _ (fun S' g1 g2 => ⟨rfl, hK S' g1 g2⟩)
  · rw [if_neg hlt]
    have hne : m_R A (b % 4) ≠ [] := by intro e; rw [e] at hlt; simp at hlt; omega
    obtain ⟨z, hz⟩ : ∃ z, (m_R A (b % 4)).getLast? = some z := ⟨(m_R A (b % 4)).getLast hne, List.getLast?_eq_some_getLast hne⟩
    have hzm : z ∈ m_R A (b % 4) := List.mem_of_getLast? hz
    obtain ⟨hz16, hz4, hzw⟩ := ((hrow _ hr4).2 z).mp hzm
    have hroom : m_room A (b % 4) = m_out (m_r A (b % 4) (m_R A (b % 4)).dropLast) z := by unfold m_room; rw [hPn, if_neg hlt, hz]
    have h1 : c_R i U S (m_r A (b % 4) (m_R A (b % 4)).dropLast) := cr_row h _ (List.dropLast_sublist _)
    have hS : S.1 (5, i, z) 9 = A.1 28 z := (h.2.2.1 z hz16).2.1
    have hsh : S.1 (1, i, 0) 6 = A.1 39 1 := h.2.2.2.2.2.1.2
    have hl1 : S.1 (2, i, 0) 1 = A.1 25 1 := h.1.1 1 (by omega)
    have hl4 : S.1 (2, i, 0) 4 = A.1 25 4 := h.1.1 4 (by omega)
    rw [hz]
    refine ⟨(fun hc => by cases hc), fun b5 hb5 => ?_⟩
    have e5 : z = b5 := Option.some.inj hb5
    subst e5
    rw [hS, hl1, hsh]
    refine ⟨fun hch => ⟨fun hful => ?_, fun hful y20 hy => ?_⟩, fun hch => ?_⟩
    · have hout : m_room A (b % 4) = m_gone (m_i (m_r A (b % 4) (m_R A (b % 4)).dropLast) 40 5 (A.1 40 5 + 1)) z := by
        rw [hroom]
        unfold m_out
        have c1 : ¬ (m_r A (b % 4) (m_R A (b % 4)).dropLast).1 28 z = 0 := hch
        have c2 : ¬ (m_r A (b % 4) (m_R A (b % 4)).dropLast).1 39 1 < (m_r A (b % 4) (m_R A (b % 4)).dropLast).1 25 1 := fun q => absurd q (Int32.not_lt.mpr hful)
        rw [if_neg c1, if_neg c2]
        rfl
      have h2 := cr_cnt h1 5 (by omega)
      refine sp_goFar hi hn hz16 _ _ ?_
      have h3 := cr_far h2 hz16
      have hcf := (fl_add (p := 1079194419) hcost m_price_gone)
      have hc4 : (c_goFar (sI S (3, i, 0) 5 (S.1 (3, i, 0) 5 + 1)) i z).2.2 (1, i, 0) 4 = m_C A := h.1.2.2
      refine sp_tally hi hn 6 (by omega) _ _ (by rw [hc4]; exact hcf.1) _ ?_
      refine sp_near hi hn hb S _ (fr_tal (fr_goFar ((c_fr_rf i S).I 3 0 5 _ (by omega)) z) 6 _) ?_ hrow hnb _ (fun S' g1 g2 => ⟨rfl, hK S' g1 g2⟩)
      rw [hout]
      exact cr_tal h3 6 (by omega) _
    · have hout : m_room A (b % 4) = m_i (m_i (m_i (m_r A (b % 4) (m_R A (b % 4)).dropLast) 29 z 2) 30 z (A.1 40 9 + m_half (A.1 25 4))) 39 1 (A.1 39 1 + 1) := by
        rw [hroom]
        unfold m_out
        have c1 : ¬ (m_r A (b % 4) (m_R A (b % 4)).dropLast).1 28 z = 0 := hch
        have c2 : (m_r A (b % 4) (m_R A (b % 4)).dropLast).1 39 1 < (m_r A (b % 4) (m_R A (b % 4)).dropLast).1 25 1 := Int32.not_le.mp hful
        rw [if_neg c1, if_pos c2]
        rfl
      have hy' : y20 = nI L := by
        rw [hy, ← hL, ← hl4]
        simp [sI]
      subst hy'
      rw [z_halfs L (by omega), ← hsh]
      refine sp_setDue hi hn hz16 _ _ _ ?_
      have h2 := cr_shelve h1 hz16 (m_half (nI L))
      refine sp_near hi hn hb S (c_shelve S i z (m_half (nI L))) (fr_shelve (c_fr_rf i S) z _) ?_ hrow hnb _ (fun S' g1 g2 => ⟨rfl, hK S' g1 g2⟩)
      rw [hout, hL]
      exact h2
    · have hout : m_room A (b % 4) = m_i (m_r A (b % 4) (m_R A (b % 4)).dropLast) 29 z 0 := by
        rw [hroom]
        unfold m_out
        have c1 : (m_r A (b % 4) (m_R A (b % 4)).dropLast).1 28 z = 0 := hch
        rw [if_pos c1]
      refine sp_goFar hi hn hz16 _ _ ?_
      have h3 := cr_far h1 hz16
      rw [m_far0 (show (m_r A (b % 4) (m_R A (b % 4)).dropLast).1 28 z = 0 from hch)] at h3
      refine sp_near hi hn hb S _ (fr_goFar (c_fr_rf i S) z) ?_ hrow hnb _ (fun S' g1 g2 => ⟨rfl, hK S' g1 g2⟩)
      rw [hout]
      exact h3
end SPS
