section RPB
variable {o : zW}
theorem rs_halfLong (S : zS) {L : Int32} (h : S.1 (25, 0, 0) 4 = L) (K : Int32 → zS → Prop) (hK : K (m_half L) S) : zGi o 994 mdX5_halfLong [.ref (z_adr o (23, 0, 0))] S K := by
  refine w_X5_halfLong_0 o S _ ⟨fun hc => ⟨_, rfl, ?_⟩, fun hc => ⟨_, rfl, ?_⟩⟩
  · rw [h] at hc
    unfold m_half at hK
    rw [if_neg (Int32.not_lt.2 hc)] at hK
    exact hK
  · rw [h] at hc ⊢
    unfold m_half at hK
    rw [if_pos (Int32.not_le.1 hc)] at hK
    exact hK
theorem rs_makesRoom {r : Nat} (hr : r < 4) (S0 S : zS) {A : mS} (h : r_R S A) (hf : r_fr S0 S) (hlim : m_lim A) (hrow : ∀ b, b ∈ m_R A r → b < 16) (hrl : m_rl A) (hc : m_cok (m_C A)) (K : zS → Prop) (hK : ∀ S', r_R S' (m_room A r) → r_fr S0 S' → K S') : zGv o 994 mdX5_makesRoom [.ref (z_adr o (23, 0, 0)), .int (nI r)] S K := by
  obtain ⟨P, hP, hP1, hP3⟩ := hlim.1
  have eP : (A.1 25 0).toNatClampNeg = P := by rw [hP, z_cl (by omega)]
  have hl3 : ∀ r, r < 4 → (m_R A r).length ≤ 3 := fun r hr => Nat.le_trans (hrl r hr) (by unfold m_P; omega)
  have e31 : S.1 (31, 0, 0) r = nI (m_R A r).length := (h.2.1 r hr).1
  have e25 : S.1 (25, 0, 0) 0 = nI P := (h.1 25 0 (by unfold r_dir; omega)).trans hP
  refine w_X5_makesRoom_0 o _ S _ ⟨z_in hr (by omega), ?_⟩
  rw [z_cl (by omega), e31, e25]
  refine ⟨fun hle => ⟨z_in hr (by omega), z_in hr (by omega), fun S2 e2 => ⟨z_in hr (by omega), ?_⟩⟩, fun hgt => ⟨rfl, hK S ?_ hf⟩⟩
  · have hle' : P ≤ (m_R A r).length := (nI_leI (by omega) (by have := hl3 r hr; omega)).1 hle
    obtain ⟨ys, z, hyz⟩ : ∃ ys z, m_R A r = ys ++ [z] := by
      have hne : m_R A r ≠ [] := List.ne_nil_of_length_pos (by omega)
      exact ⟨(m_R A r).dropLast, (m_R A r).getLast hne, (List.dropLast_concat_getLast hne).symm⟩
    have hlen : (m_R A r).length = ys.length + 1 := by rw [hyz]; simp
    have hz : z < 16 := hrow z (by rw [hyz]; simp)
    have h32 : S.1 (32, 0, 0) (3 * r + ys.length) = nI z := (h.2.1 r hr).2 ys.length z (by rw [hyz]; simp)
    rw [hlen, nI_pred] at e2
    have hy2 : ys.length ≤ 2 := by have := hl3 r hr; omega
    have h2 : r_R S2 (m_r A r ys) := by
      subst e2
      refine rr_row h hr ys (by omega) (fun q t n1 n2 => ?_) rfl (by simp [sI]) (fun k b hk => ?_) hl3
      · simp only [sI, if_neg n1]
      · have hk2 : k < ys.length := (List.getElem?_eq_some_iff.1 hk).1
        have := (h.2.1 r hr).2 k b (by rw [hyz, List.getElem?_append_left hk2]; exact hk)
        simpa [sI] using this
    have f2 : r_fr S0 S2 := by subst e2; exact hf.I 31 r _ (by omega)
    have d31 : S2.1 (31, 0, 0) r = nI ys.length := by rw [e2]; simp [sI]
    have d32 : S2.1 (32, 0, 0) (3 * r + ys.length) = nI z := by rw [e2]; simpa [sI] using h32
    have hroom : m_room A r = m_out (m_r A r ys) z := by
      unfold m_room
      rw [if_neg (by omega), hyz]
      simp
    rw [hroom] at hK
    have ex : (3 : Int32) * nI r + nI ys.length = nI (3 * r + ys.length) := by rw [show (3 : Int32) = nI 3 from rfl, pk_mul, nI_add]
    rw [d31, ex]
    refine ⟨z_in (by omega) (by omega), fun y3 ey3 => ?_⟩
    rw [z_cl (by omega), d32] at ey3
    subst ey3
    refine ⟨z_in hz (by omega), ?_⟩
    rw [z_cl (by omega)]
    generalize hA1 : m_r A r ys = A1 at h2 hK
    have d28 : S2.1 (28, 0, 0) z = A1.1 28 z := h2.1 28 z (by unfold r_dir; omega)
    have d251 : S2.1 (25, 0, 0) 1 = A1.1 25 1 := h2.1 25 1 (by unfold r_dir; omega)
    have d391 : S2.1 (39, 0, 0) 1 = A1.1 39 1 := h2.1 39 1 (by unfold r_dir; omega)
    have d405 : S2.1 (40, 0, 0) 5 = A1.1 40 5 := h2.1 40 5 (by unfold r_dir; omega)
    have d409 : S2.1 (40, 0, 0) 9 = A1.1 40 9 := h2.1 40 9 (by unfold r_dir; omega)
    have d254 : S2.1 (25, 0, 0) 4 = A1.1 25 4 := h2.1 25 4 (by unfold r_dir; omega)
    rw [d28, d251, d391]
    unfold m_out at hK
    refine ⟨fun h28 => ⟨fun hfull => ?_, fun hroom => ⟨z_in hz (by omega), ?_⟩⟩, fun h28 => ⟨z_in hz (by omega), rfl, ?_⟩⟩
    · rw [if_neg h28, if_neg (Int32.not_lt.2 hfull)] at hK
      rw [d405]
      refine rs_goesFar hz S0 _ (rr_i h2 40 5 _ (by omega)) (f2.I 40 5 _ (by omega)) ?_ _ (fun S' h' f' => ⟨rfl, hK S' h' f'⟩)
      rw [← hA1]; exact hc
    · rw [if_neg h28, if_pos (Int32.not_le.1 hroom)] at hK
      refine rs_halfLong (L := A1.1 25 4) _ (by simpa [sI] using d254) _ (fun y12 ey12 => ⟨z_in hz (by omega), fun y13 ey13 => ⟨rfl, ?_⟩⟩)
      have ey12' : y12 = A1.1 40 9 + m_half (A1.1 25 4) := by rw [ey12]; simp [sI, d409]
      have ey13' : y13 = A1.1 39 1 + 1 := by rw [ey13]; simp [sI, d391]
      subst ey12' ey13'
      exact hK _ (rr_i (rr_i (rr_i h2 29 z _ (by omega)) 30 z _ (by omega)) 39 1 _ (by omega)) (((f2.I 29 z _ (by omega)).I 30 z _ (by omega)).I 39 1 _ (by omega))
    · rw [if_pos h28] at hK
      exact hK _ (rr_i h2 29 z _ (by omega)) (f2.I 29 z _ (by omega))
  · have : (m_R A r).length < P := by
      rcases Nat.lt_or_ge (m_R A r).length P with g | g
      · exact g
      · exact absurd (nI_le g (by have := hl3 r hr; omega)) hgt
    have e : m_room A r = A := by
      unfold m_room
      rw [if_pos (by omega)]
    rw [e]; exact h
theorem rs_comesNear {b : Nat} (hb : b < 16) (S0 S : zS) {A : mS} (h : r_R S A) (hf : r_fr S0 S) (hlim : m_lim A) (hrow : m_row A) (hrl : m_rl A) (hc : m_cok (m_C A)) (K : zS → Prop) (hK : ∀ S', r_R S' (m_near A b) → r_fr S0 S' → K S') : zGv o 994 mdX5_comesNear [.ref (z_adr o (23, 0, 0)), .int (nI b)] S K := by
  have hr : b % 4 < 4 := Nat.mod_lt _ (by omega)
  refine w_X5_comesNear_0 o _ S _ (rs_rowOf b hb S _ ?_)
  refine rs_makesRoom hr S0 S h hf hlim (fun x hx => ((hrow _ hr).2 x |>.1 hx).1) hrl hc _ (fun S6 h6 f6 => ⟨z_in hr (by omega), ?_⟩)
  have hlt := room_lt hrl hlim hr
  have hP := P_pos hlim
  have hl3 : ∀ r, r < 4 → (m_R (m_room A (b % 4)) r).length ≤ 3 := by
    intro r hr'
    rw [room_R]
    have h3 := hrl r hr'
    split
    · rename_i e; rw [List.length_dropLast, ← e.1]; omega
    · omega
  unfold m_near at hK
  generalize hA1 : m_room A (b % 4) = A1 at h6 hK hlt hl3
  generalize hrr : b % 4 = r at hr hK hlt hA1
  generalize hll : m_R A1 r = l at hlt hK
  have e31 : S6.1 (31, 0, 0) r = nI l.length := by rw [← hll]; exact (h6.2.1 r hr).1
  rw [z_cl (by omega), e31]
  have ex : ∀ k, (3 : Int32) * nI r + nI k = nI (3 * r + k) := fun k => by rw [show (3 : Int32) = nI 3 from rfl, pk_mul, nI_add]
  have ex0 : (3 : Int32) * nI r = nI (3 * r) := by rw [show (3 : Int32) = nI 3 from rfl, pk_mul]
  have key : ∀ k, k ≤ l.length → ∀ S' : zS, S'.2 = S6.2 → (∀ (q : zK) t, ¬ (q = (32, 0, 0) ∧ 3 * r ≤ t ∧ t < 3 * r + 3) → S'.1 q t = S6.1 q t) → (∀ j c, l[j]? = some c → j < k → S'.1 (32, 0, 0) (3 * r + j) = nI c) → (∀ j c, l[j]? = some c → k ≤ j → S'.1 (32, 0, 0) (3 * r + j + 1) = nI c) → r_fr S0 S' →
      zG o 994 mdX5_comesNear 17 [(0, .ref (z_adr o (23, 0, 0))), (1, .int (nI b)), (2, .int (nI r)), (3, .int (nI k))] [] S' (fun rr S'' => rr = none ∧ K S'') := by
    intro k
    induction k with
    | zero =>
      intro _ S' hs2 hs hlo hhi hf'
      refine w_X5_comesNear_17 o _ _ _ S' _ ⟨fun _ => ?_, fun hc => absurd (by decide) hc⟩
      rw [ex0]
      refine ⟨z_in (by omega) (by omega), z_in hr (by omega), fun y2 ey2 => ⟨z_in hr (by omega), fun S3 e3 => ⟨z_in hb (by omega), rfl, ?_⟩⟩⟩
      rw [z_cl (by omega)] at e3 ey2
      have ey2' : y2 = nI l.length := by
        rw [ey2, z_cl (by omega)]
        have := hs (31, 0, 0) r (by simp)
        simp only [sI]
        rw [if_neg (by simp), this, e31]
      rw [ey2', ← nI_succ, z_cl (by omega)] at e3
      rw [z_cl (by omega)]
      refine hK _ (rr_i ?_ 29 b 1 (by omega)) (by subst e3; exact ((hf'.I 32 _ _ (by omega)).I 31 _ _ (by omega)).I 29 _ _ (by omega))
      subst e3
      refine rr_row h6 hr (b :: l) (by simp only [List.length_cons]; omega) (fun q t n1 n2 => ?_) hs2 ?_ (fun j c hj => ?_) hl3
      · have n3 : ¬ (q = (32, 0, 0) ∧ t = 3 * r) := fun e => n2 ⟨e.1, by omega⟩
        simp only [sI, if_neg n1, if_neg n3]
        exact hs q t n2
      · simp [sI]
      · cases j with
        | zero =>
          simp only [List.getElem?_cons_zero, Option.some.injEq] at hj
          subst hj
          simp [sI]
        | succ j =>
          rw [List.getElem?_cons_succ] at hj
          have := hhi j c hj (Nat.zero_le _)
          simp only [sI, Prod.mk.injEq]
          rw [if_neg (by omega), if_neg (by omega)]
          exact this
    | succ k ih =>
      intro hk S' hs2 hs hlo hhi hf'
      refine w_X5_comesNear_17 o _ _ _ S' _ ⟨fun hc => absurd hc (nI_nle (by omega) (by omega)), fun _ => ?_⟩
      rw [ex, show 3 * r + (k + 1) = (3 * r + k) + 1 from by omega, nI_pred]
      refine ⟨z_in (by omega) (by omega), z_in (by omega) (by omega), fun S4 e4 => ?_⟩
      rw [z_cl (by omega), z_cl (by omega)] at e4
      have em : nI (k + 1) + (-1) = nI k := by rw [nI_succ]; simp [Int32.add_assoc]
      rw [em]
      obtain ⟨c, hc2⟩ : ∃ c, l[k]? = some c := ⟨l[k], List.getElem?_eq_getElem (by omega)⟩
      have hv := hlo k c hc2 (by omega)
      rw [hv] at e4
      subst e4
      refine ih (by omega) _ hs2 (fun q t n1 => ?_) (fun j d hj hjk => ?_) (fun j d hj hjk => ?_) (hf'.I 32 _ _ (by omega))
      · have n3 : ¬ (q = (32, 0, 0) ∧ t = 3 * r + k + 1) := fun e => n1 ⟨e.1, by omega⟩
        simp only [sI, if_neg n3]
        exact hs q t n1
      · have := hlo j d hj (by omega)
        simp only [sI]
        rw [if_neg (by omega)]
        exact this
      · by_cases e : j = k
        · subst e
          rw [hc2] at hj
          simp only [Option.some.injEq] at hj
          subst hj
          simp [sI]
        · have := hhi j d hj (by omega)
          simp only [sI]
          rw [if_neg (by omega)]
          exact this
  refine key l.length (Nat.le_refl _) S6 rfl (fun _ _ _ => rfl) (fun j c hj _ => ?_) (fun j c hj hjk => ?_) f6
  · exact (h6.2.1 r hr).2 j c (by rw [hll]; exact hj)
  · have := (List.getElem?_eq_some_iff.1 hj).1
    omega
theorem rs_laysIn {b j : Nat} (hb : b < 16) (hj : j < 4) (v : Int32) (S0 S : zS) {A : mS} (h : r_R S A) (hf : r_fr S0 S) (K : zS → Prop) (hK : ∀ S', r_R S' (m_lay A b j v) → r_fr S0 S' → K S') : zGv o 994 mdX5_laysIn [.ref (z_adr o (23, 0, 0)), .int (nI b), .int (nI j), .int v] S K := by
  have ex : (4 : Int32) * nI b + nI j = nI (4 * b + j) := by rw [show (4 : Int32) = nI 4 from rfl, pk_mul, nI_add]
  refine w_X5_laysIn_0 o _ _ _ S _ ?_
  rw [ex, z_cl (by omega), z_cl (by omega)]
  refine ⟨z_in (by omega) (by omega), z_in hb (by omega), fun y1 ey1 => ⟨z_in hb (by omega), fun S2 e2 => ⟨rfl, ?_⟩⟩⟩
  have ey1' : y1 = A.1 28 b := by
    rw [ey1]
    have := h.1 28 b (by unfold r_dir; omega)
    simpa [sI] using this
  subst e2
  rw [ey1']
  refine hK _ ?_ ((hf.I 27 _ _ (by omega)).I 28 _ _ (by omega))
  have := rr_i (rr_i h 27 (4 * b + j) v (by omega)) 28 b (A.1 28 b ||| (1 : Int32) <<< (nI j &&& 31)) (by omega)
  exact this
theorem rs_getsItem {k b j f : Nat} (hk : k < 2 ^ 31) (hb : b < 16) (hj : j < 4) (S0 S : zS) {A : mS} (h : r_R S A) (hf : r_fr S0 S) (K : zS → Prop) (hK : ∀ S', r_R S' (m_gets A k b j f) → r_fr S0 S' → K S') : zGv o 994 mdX5_getsItem [.ref (z_adr o (23, 0, 0)), .int (nI k), .int (nI b), .int (nI j), .int (nI f)] S K := by
  have ex : (4 : Int32) * nI b + nI j = nI (4 * b + j) := by rw [show (4 : Int32) = nI 4 from rfl, pk_mul, nI_add]
  have e409 : S.1 (40, 0, 0) 9 = A.1 40 9 := h.1 40 9 (by unfold r_dir; omega)
  have e408 : S.1 (40, 0, 0) 8 = A.1 40 8 := h.1 40 8 (by unfold r_dir; omega)
  refine w_X5_getsItem_0 o _ _ _ _ S _ (fun S1 e1 S2 e2 => ?_)
  rw [ex]
  rw [e409, e408] at e1
  rw [e409] at e2
  rw [e409]
  generalize hw : A.1 40 9 - nI f = w at e1 e2
  have eW : (sI S (40, 0, 0) 8 (A.1 40 8 + 1)).2.1 (23, 0, 0) 21 = m_W A := h.2.2.2.2.2.1
  rw [eW] at e1
  have eX : S1.2.1 (23, 0, 0) 22 = m_X A := by
    rw [e1]
    have := h.2.2.2.2.2.2
    simpa [sL, sI] using this
  rw [eX] at e2
  subst e1
  have h2 : r_R S2 (m_wx (m_i A 40 8 (A.1 40 8 + 1)) (m_W A + w.toInt64) (m_X A + w.toInt64 * w.toInt64)) := by
    subst e2; exact rr_wx (rr_i h 40 8 _ (by omega)) _ _
  have f2 : r_fr S0 S2 := by subst e2; exact ((hf.I 40 8 _ (by omega)).L 21 _ (by omega)).L 22 _ (by omega)
  clear e2
  have e392 : S2.1 (39, 0, 0) 2 = A.1 39 2 := h2.1 39 2 (by unfold r_dir; omega)
  rw [e392]
  have hG : m_gets A k b j f = (if k < 200 then m_i (m_i (m_i (m_wx (m_i A 40 8 (A.1 40 8 + 1)) (m_W A + w.toInt64) (m_X A + w.toInt64 * w.toInt64)) 39 2 (if A.1 39 2 < w then w else A.1 39 2)) 41 k (A.1 27 (4 * b + j))) 42 k w else m_i (m_wx (m_i A 40 8 (A.1 40 8 + 1)) (m_W A + w.toInt64) (m_X A + w.toInt64 * w.toInt64)) 39 2 (if A.1 39 2 < w then w else A.1 39 2)) := by
    rw [← hw]; rfl
  have tail : ∀ m, m = (if A.1 39 2 < w then w else A.1 39 2) → ((200 ≤ nI k → ((none : Option Value) = none ∧ K (sI S2 (39, 0, 0) 2 m))) ∧ (¬ 200 ≤ nI k → (vp_in (nI (4 * b + j)) 64 ∧ (∀ y5 : Int32, y5 = ((sI S2 (39, 0, 0) 2 m).1 (27, 0, 0) ((nI (4 * b + j)).toNatClampNeg)) → (vp_in (nI k) 200 ∧ (∀ S6 : zS, S6 = (sI (sI S2 (39, 0, 0) 2 m) (41, 0, 0) ((nI k).toNatClampNeg) y5) → (vp_in (nI k) 200 ∧ ((none : Option Value) = none ∧ K (sI S6 (42, 0, 0) ((nI k).toNatClampNeg) w))))))))) := by
    intro m hm
    have h3 := rr_i h2 39 2 m (by omega)
    have f3 := f2.I 39 2 m (by omega)
    refine ⟨fun hc => ⟨rfl, hK _ ?_ f3⟩, fun hc => ⟨z_in (by omega) (by omega), fun y5 ey5 => ?_⟩⟩
    · have : ¬ k < 200 := by have := (nI_leI (a := 200) (by omega) hk).1 hc; omega
      rw [hG, if_neg this, ← hm]; exact h3
    · have hk2 : k < 200 := by
        rcases Nat.lt_or_ge k 200 with g | g
        · exact g
        · exact absurd (nI_le (a := 200) g hk) hc
      rw [z_cl (by omega)] at ey5 ⊢
      have ey5' : y5 = A.1 27 (4 * b + j) := by
        rw [ey5]
        exact h3.1 27 (4 * b + j) (by unfold r_dir; omega)
      refine ⟨z_in hk2 (by omega), fun S6 e6 => ⟨z_in hk2 (by omega), rfl, hK _ ?_ ?_⟩⟩
      · subst e6
        rw [hG, if_pos hk2, ← hm, ey5']
        exact rr_i (rr_i h3 41 k _ (by omega)) 42 k _ (by omega)
      · subst e6
        exact (f3.I 41 _ _ (by omega)).I 42 _ _ (by omega)
  refine ⟨fun hc => tail _ (if_neg (Int32.not_lt.2 hc)).symm, fun hc => tail _ (if_pos (Int32.not_le.1 hc)).symm⟩
end RPB
