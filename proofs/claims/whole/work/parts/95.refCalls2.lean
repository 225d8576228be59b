section RPL
variable {o : zW}
theorem N_small {B : Nat} (hB : B + 60000 ≤ m_BB) {A : mS} (h : m_am B 0 A) : A.1 40 7 = nI (m_N A) ∧ m_N A < 2 ^ 30 := by
  have a1 := h.1.2.2.1.2
  have a2 := h.1.2.2.2.1
  unfold m_BB at hB
  exact ⟨a2.1, by have := a2.2; omega⟩
theorem r_got {B : Nat} (hB : B + 60000 ≤ m_BB) (S : zS) {G : mG} (h : r_G B S G) (x1 x2 : Int32) : zGi o 994 mdX5_got [.ref (z_adr o (23, 0, 0)), .int x1, .int x2] S (r_post B S (g_got G x1 x2)) := by
  obtain ⟨hN, hN2⟩ := N_small hB h.1.1
  have e407 : S.1 (40, 0, 0) 7 = nI (m_N G.1) := (h.2.1.1 40 7 (by unfold r_dir; omega)).trans hN
  refine w_X5_got_0 o _ _ S _ ⟨fun h0 => ?_, fun h0 => rs_inN x2 (N := 2) (by omega) rfl S _ (fun w hw ew ec => ⟨fun _ => ?_, fun hc => absurd hc (by decide)⟩) (fun hc => ⟨fun hc => absurd rfl hc, fun _ => ?_⟩)⟩
  · have gg : g_got G x1 x2 = g_bad G := by
      unfold g_got
      cases m_cl x2 3 with
      | none => rfl
      | some w => exact if_pos h0
    rw [gg]; exact rs_bad S h
  · have gg : g_got G x1 x2 = match m_cl x1 (min (m_N G.1) 200) with
        | some k => (G.1.1 (41 + w) k, G)
        | none => (-1, G) := by unfold g_got; rw [ec]; exact if_neg h0
    rw [gg, e407]
    refine ⟨fun hc => ?_, fun hc => ⟨fun h200 => ?_, fun h200 => ?_⟩⟩
    · have : m_cl x1 (min (m_N G.1) 200) = none := by
        obtain ⟨k, hk, ek⟩ := nI_of h0
        rw [ek] at hc ⊢
        have := (nI_leI (by omega) hk).1 hc
        exact cl_ge (N := min (m_N G.1) 200) (by omega) (nI_le (by omega) hk)
      rw [this]
      exact rs_same h rfl
    · obtain ⟨k, hk, ek, ec2⟩ := cl_lt (N := m_N G.1) (by omega) h0 hc
      have hk2 : k < 200 := by
        rw [ek] at h200
        exact (nI_ltI (b := 200) (by omega) (by omega)).1 h200
      have ec3 : m_cl x1 (min (m_N G.1) 200) = some k := by rw [ek]; exact cl_in (by omega) (by omega)
      rw [ec3, ek, z_cl (by omega), ew]
      have a1 : S.1 (41, 0, 0) k = G.1.1 41 k := h.2.1.1 41 k (by unfold r_dir; omega)
      have a2 : S.1 (42, 0, 0) k = G.1.1 42 k := h.2.1.1 42 k (by unfold r_dir; omega)
      have a3 : S.1 (43, 0, 0) k = G.1.1 43 k := h.2.1.1 43 k (by unfold r_dir; omega)
      rw [a1, a2, a3]
      refine ⟨fun n0 => ⟨fun n1 => ⟨z_in hk2 (by omega), rs_same h ?_⟩, fun e1 => ⟨z_in hk2 (by omega), rs_same h ?_⟩⟩, fun e0 => ⟨z_in hk2 (by omega), rs_same h ?_⟩⟩
      · have : w = 2 := by
          have a : w ≠ 0 := fun e => n0 (by rw [e]; rfl)
          have b : w ≠ 1 := fun e => n1 (by rw [e]; rfl)
          omega
        subst this; rfl
      · have : w = 1 := (nI_eq (b := 1) (by omega) (by omega)).1 e1
        subst this; rfl
      · have : w = 0 := (nI_eq (b := 0) (by omega) (by omega)).1 e0
        subst this; rfl
    · have : m_cl x1 (min (m_N G.1) 200) = none := by
        obtain ⟨k, hk, ek⟩ := nI_of h0
        rw [ek] at h200 ⊢
        have : 200 ≤ k := by
          rcases Nat.lt_or_ge k 200 with g | g
          · exact absurd (nI_lt (b := 200) g (by omega)) h200
          · exact g
        exact cl_ge (N := min (m_N G.1) 200) (by omega) (nI_le (by omega) hk)
      rw [this]
      exact rs_same h rfl
  · have gg : g_got G x1 x2 = g_bad G := by unfold g_got; rw [hc]
    rw [gg]; exact rs_bad S h
theorem r_often {B : Nat} (S : zS) {G : mG} (h : r_G B S G) (x1 : Int32) : zGi o 994 mdX5_often [.ref (z_adr o (23, 0, 0)), .int x1] S (r_post B S (g_often G x1)) := by
  refine w_X5_often_0 o _ S _ (rs_inN x1 (N := 9) (by omega) rfl S _ (fun k hk e ec => ⟨fun hc => absurd hc (by decide), fun _ => ⟨by rw [e]; exact z_in hk (by omega), ?_⟩⟩) (fun hc => ⟨fun _ => ?_, fun hc => absurd rfl hc⟩))
  · have gg : g_often G x1 = (G.1.1 40 k, G) := by unfold g_often; rw [ec]
    rw [gg, e, z_cl (by omega), h.2.1.1 40 k (by unfold r_dir; omega)]
    exact rs_same h rfl
  · have gg : g_often G x1 = g_bad G := by unfold g_often; rw [hc]
    rw [gg]; exact rs_bad S h
theorem r_where {B : Nat} (S : zS) {G : mG} (h : r_G B S G) (x1 : Int32) : zGi o 994 mdX5_where [.ref (z_adr o (23, 0, 0)), .int x1] S (r_post B S (g_where G x1)) := by
  refine w_X5_where_0 o _ S _ (rs_isBox x1 S _ (fun k hk e ec => ⟨fun hc => absurd hc (by decide), fun _ => ⟨by rw [e]; exact z_in hk (by omega), ?_⟩⟩) (fun hc => ⟨fun _ => ?_, fun hc => absurd rfl hc⟩))
  · have gg : g_where G x1 = (G.1.1 29 k, G) := by unfold g_where; rw [ec]
    rw [gg, e, z_cl (by omega), h.2.1.1 29 k (by unfold r_dir; omega)]
    exact rs_same h rfl
  · have gg : g_where G x1 = g_bad G := by unfold g_where; rw [hc]
    rw [gg]; exact rs_bad S h
theorem r_place {B : Nat} (S : zS) {G : mG} (h : r_G B S G) (x1 x2 : Int32) : zGi o 994 mdX5_place [.ref (z_adr o (23, 0, 0)), .int x1, .int x2] S (r_post B S (g_place G x1 x2)) := by
  have hb := bd_am h.1.1
  refine w_X5_place_0 o _ _ S _ (rs_inN x1 (N := 3) (by omega) rfl S _ (fun r hr er ec => ⟨fun hc => absurd hc (by decide), fun _ => rs_inN x2 (N := 2) (by omega) rfl S _ (fun k hk ek ec2 => ⟨fun _ => ⟨by rw [er]; exact z_in hr (by omega), ?_⟩, fun hc => absurd hc (by decide)⟩) (fun hc => ⟨fun hc => absurd rfl hc, fun _ => ?_⟩)⟩) (fun hc => ⟨fun _ => ?_, fun hc => absurd rfl hc⟩))
  · have gg : g_place G x1 x2 = ((match (m_R G.1 r)[k]? with | some b => nI b | none => -1), G) := by
      unfold g_place; rw [ec, ec2]; rfl
    obtain ⟨e31, e32⟩ := h.2.1.2.1 r (by omega)
    have hl3 := hb.1 r (by omega)
    have ex : (3 : Int32) * nI r + nI k = nI (3 * r + k) := by rw [show (3 : Int32) = nI 3 from rfl, pk_mul, nI_add]
    rw [gg, er, ek, z_cl (by omega), e31, ex, z_cl (by omega)]
    refine ⟨fun hc => ?_, fun hc => ⟨z_in (by omega) (by omega), ?_⟩⟩
    · have := (nI_leI (by omega) (by omega)).1 hc
      rw [List.getElem?_eq_none this]
      exact rs_same h rfl
    · have hk2 : k < (m_R G.1 r).length := by
        rcases Nat.lt_or_ge k (m_R G.1 r).length with g | g
        · exact g
        · exact absurd (nI_le g (by omega)) hc
      have hx : (m_R G.1 r)[k]? = some (m_R G.1 r)[k] := List.getElem?_eq_getElem hk2
      rw [e32 k _ hx, hx]
      exact rs_same h rfl
  · have gg : g_place G x1 x2 = g_bad G := by unfold g_place; rw [ec, hc]
    rw [gg]; exact rs_bad S h
  · have gg : g_place G x1 x2 = g_bad G := by unfold g_place; rw [hc]
    rw [gg]; exact rs_bad S h
theorem r_fetch {B : Nat} (S : zS) {G : mG} (h : r_G B S G) (x1 x2 : Int32) : zGi o 994 mdX5_fetch [.ref (z_adr o (23, 0, 0)), .int x1, .int x2] S (r_post B S (g_fetch G x1 x2)) := by
  have hb := bd_am h.1.1
  obtain ⟨e39, e33⟩ := h.2.1.2.2.1
  refine w_X5_fetch_0 o _ _ S _ ⟨fun h0 => ?_, fun h0 => rs_inN x2 (N := 2) (by omega) rfl S _ (fun w hw ew ec => ⟨fun _ => ?_, fun hc => absurd hc (by decide)⟩) (fun hc => ⟨fun hc => absurd rfl hc, fun _ => ?_⟩)⟩
  · have gg : g_fetch G x1 x2 = g_bad G := by
      unfold g_fetch
      cases m_cl x2 3 with
      | none => rfl
      | some w => exact if_pos h0
    rw [gg]; exact rs_bad S h
  · obtain ⟨k, hk, ek⟩ := nI_of h0
    have gg : g_fetch G x1 x2 = match (m_F G.1)[k]? with
        | some b => (if w = 0 then nI b else if w = 1 then G.1.1 30 b - G.1.1 40 9 else nI (m_Q G.1 b).length, G)
        | none => (-1, G) := by
      unfold g_fetch; rw [ec]
      dsimp only
      rw [if_neg h0, ek, z_cl hk]; rfl
    rw [gg, ek, e39]
    refine ⟨fun hc => ?_, fun hc => ?_⟩
    · have hk2 : k < (m_F G.1).length := (nI_ltI hk (by have := hb.2.1; omega)).1 hc
      have hx : (m_F G.1)[k]? = some (m_F G.1)[k] := List.getElem?_eq_getElem hk2
      have h16 : (m_F G.1)[k] < 16 := ((h.1.1.1.1.2.2.1.2.1 _).1 (List.getElem_mem hk2)).1
      generalize (m_F G.1)[k] = b at hx h16
      rw [hx, z_cl hk, e33 k b hx, ew, z_cl (by omega)]
      have a34 : S.1 (34, 0, 0) b = nI (m_Q G.1 b).length := (h.2.1.2.2.2.1 b h16).1
      have a30 : S.1 (30, 0, 0) b = G.1.1 30 b := h.2.1.1 30 b (by unfold r_dir; omega)
      have a40 : S.1 (40, 0, 0) 9 = G.1.1 40 9 := h.2.1.1 40 9 (by unfold r_dir; omega)
      rw [a34, a30, a40]
      refine ⟨z_in (by have := hb.2.1; omega) (by omega), fun n0 => ⟨fun n1 => ⟨z_in h16 (by omega), fun y ey => ?_⟩, fun e1 => ⟨z_in h16 (by omega), fun y ey => ?_⟩⟩, fun e0 => rs_same h ?_⟩
      · have : w = 2 := by
          have a : w ≠ 0 := fun e => n0 (by rw [e]; rfl)
          have b : w ≠ 1 := fun e => n1 (by rw [e]; rfl)
          omega
        subst this ey; exact rs_same h rfl
      · have : w = 1 := (nI_eq (b := 1) (by omega) (by omega)).1 e1
        subst this ey; exact rs_same h rfl
      · have : w = 0 := (nI_eq (b := 0) (by omega) (by omega)).1 e0
        subst this; rfl
    · have hk2 : (m_F G.1).length ≤ k := by
        rcases Nat.lt_or_ge k (m_F G.1).length with g | g
        · exact absurd (nI_lt g (by have := hb.2.1; omega)) hc
        · exact g
      rw [List.getElem?_eq_none hk2]
      exact rs_same h rfl
  · have gg : g_fetch G x1 x2 = g_bad G := by unfold g_fetch; rw [hc]
    rw [gg]; exact rs_bad S h
theorem rs_toldBy {B : Nat} (S : zS) {G : mG} (h : r_G B S G) {k : Nat} (hk : k < 10) (K : Int32 → zS → Prop) (hK : K (if k < 3 then G.2.2.1 k else if k = 3 then nI G.2.2.2.2 else if k = 9 then nI G.2.1.length else G.1.1 25 (k - 4)) S) : zGi o 994 mdX5_toldBy [.ref (z_adr o (23, 0, 0)), .int (nI k)] S K := by
  refine w_X5_toldBy_0 o _ S _ ⟨fun h3 => ⟨fun n3 => ⟨fun n9 => ?_, fun e9 => ⟨_, rfl, ?_⟩⟩, fun e3 => ⟨_, rfl, ?_⟩⟩, fun h3 => ?_⟩
  · have a : k ≠ 3 := fun e => n3 (by rw [e]; rfl)
    have b : k ≠ 9 := fun e => n9 (by rw [e]; rfl)
    have c : 3 ≤ k := (nI_leI (a := 3) (by omega) (by omega)).1 h3
    rw [show (4 : Int32) = nI 4 from rfl, pk_sub (by omega)]
    refine ⟨z_in (by omega) (by omega), ⟨_, rfl, ?_⟩⟩
    rw [z_cl (by omega), h.2.1.1 25 (k - 4) (by unfold r_dir; omega)]
    rw [if_neg (by omega), if_neg a, if_neg b] at hK
    exact hK
  · have : k = 9 := (nI_eq (b := 9) (by omega) (by omega)).1 e9
    subst this
    rw [h.2.2.1.2.1]
    exact hK
  · have : k = 3 := (nI_eq (b := 3) (by omega) (by omega)).1 e3
    subst this
    rw [h.2.2.2.2.1]
    exact hK
  · have c : k < 3 := by
      rcases Nat.lt_or_ge k 3 with g | g
      · exact g
      · exact absurd (nI_le (a := 3) g (by omega)) h3
    refine ⟨z_in c (by omega), ⟨_, rfl, ?_⟩⟩
    rw [z_cl (by omega), h.2.2.2.1 k c]
    rw [if_pos c] at hK
    exact hK
theorem r_told {B : Nat} (S : zS) {G : mG} (h : r_G B S G) (x1 : Int32) : zGi o 994 mdX5_told [.ref (z_adr o (23, 0, 0)), .int x1] S (r_post B S (g_told G x1)) := by
  refine w_X5_told_0 o _ S _ (rs_inN x1 (N := 9) (by omega) rfl S _ (fun k hk e ec => ⟨fun hc => absurd hc (by decide), fun _ => ?_⟩) (fun hc => ⟨fun _ => ?_, fun hc => absurd rfl hc⟩))
  · have gg : g_told G x1 = (if k < 3 then G.2.2.1 k else if k = 3 then nI G.2.2.2.2 else if k = 9 then nI G.2.1.length else G.1.1 25 (k - 4), G) := by unfold g_told; rw [ec]
    rw [gg, e]
    exact rs_toldBy S h hk _ (rs_same h rfl)
  · have gg : g_told G x1 = g_bad G := by unfold g_told; rw [hc]
    rw [gg]; exact rs_bad S h
theorem r_clear {B : Nat} (S : zS) {G : mG} (h : r_G B S G) : zGi o 994 mdX5_clear [.ref (z_adr o (23, 0, 0))] S (r_post B S (g_clear G)) := by
  refine w_X5_clear_0 o S _ ⟨_, rfl, h.2.2.2.2.1, RG_B (RG_I h rfl (fun k h1 h2 => ?_) (by simp [sI]) ⟨rfl, rfl⟩ (fun t ht => ?_) ⟨?_, Nat.zero_le _, fun j hj => absurd hj (Nat.not_lt_zero j)⟩) (z_le3 B), dn_I S 23 _ _ (by omega)⟩
  · have : ¬ k = 23 := by omega
    funext t; simp [sI, this]
  · simpa [sI, g_clear] using h.2.2.2.1 t ht
  · simp [sI, g_clear]; rfl
theorem r_type {B : Nat} (S : zS) {G : mG} (h : r_G B S G) (x1 : Int32) : zGi o 994 mdX5_type [.ref (z_adr o (23, 0, 0)), .int x1] S (r_post B S (g_type G x1)) := by
  have ht := h.2.2.2.2
  have hn := ht.2.1
  refine w_X5_type_0 o _ S _ (rs_inN x1 (N := 127) (by omega) rfl S _ (fun c hc e ec => ⟨fun _ => ?_, fun hc => absurd hc (by decide)⟩) (fun hc => ⟨fun hc => absurd rfl hc, fun _ => ?_⟩))
  · rw [ht.1]
    refine ⟨fun hne => ?_, fun heq => ?_⟩
    · have hlt : G.2.2.2.2 < 120 := by
        have : G.2.2.2.2 ≠ 120 := fun e => hne (by rw [e]; rfl)
        omega
      have gg : g_type G x1 = (nI (G.2.2.2.2 + 1), (G.1, G.2.1, G.2.2.1, fun k => if k = G.2.2.2.2 then c else G.2.2.2.1 k, G.2.2.2.2 + 1)) := by
        unfold g_type; rw [ec]; exact if_pos hlt
      rw [gg, z_cl (by omega)]
      refine ⟨z_in hlt (by omega), fun y ey S7 e7 => ?_⟩
      have ey' : y = nI G.2.2.2.2 := by rw [ey]; simpa [sI] using ht.1
      rw [ey', ← nI_succ] at e7
      subst e7
      refine ⟨_, rfl, by simp [sI], RG_B (RG_I h rfl (fun k h1 h2 => ?_) (by simp [sI]) ⟨rfl, rfl⟩ (fun t ht => ?_) ⟨by simp [sI], by simp only; omega, fun k hk => ?_⟩) (z_le3 B), dn_tr (dn_I S 48 _ _ (by omega)) (dn_I _ 23 _ _ (by omega))⟩
      · have n1 : ¬ k = 23 := by omega
        have n2 : ¬ k = 48 := by omega
        funext t; simp [sI, n1, n2]
      · simpa [sI] using h.2.2.2.1 t ht
      · simp only [sI] at hk ⊢
        by_cases e' : k = G.2.2.2.2
        · subst e'; simp [e]; exact hc
        · have := ht.2.2 k (by omega)
          simpa [e'] using this
    · have hn120 : G.2.2.2.2 = 120 := (nI_eq (b := 120) (by omega) (by omega)).1 heq
      have gg : g_type G x1 = (-4, g_ref G 2) := by
        unfold g_type; rw [ec]
        exact if_neg (by omega)
      rw [gg]
      exact ⟨_, rfl, rfl, RG_B (RG_ref h 2 (by omega)) (z_le3 B), dn_I S 24 _ _ (by omega)⟩
  · have gg : g_type G x1 = g_bad G := by unfold g_type; rw [hc]
    rw [gg]; exact rs_bad S h
theorem r_back {B : Nat} (S : zS) {G : mG} (h : r_G B S G) : zGi o 994 mdX5_back [.ref (z_adr o (23, 0, 0))] S (r_post B S (g_back G)) := by
  have hh := h
  obtain ⟨h0, h1, ⟨a1, a2, a3⟩, h3, h4⟩ := h
  refine w_X5_back_0 o S _ ?_
  rw [a2]
  refine ⟨fun hne y2 ey2 => ?_, fun he => ?_⟩
  · cases hl : G.2.1 with
    | nil => rw [hl] at hne; exact absurd rfl hne
    | cons A l =>
      have gg : g_back G = (nI l.length, (A, l, G.2.2)) := by unfold g_back; rw [hl]
      rw [hl] at a1 a2 a3 ey2
      simp only [List.length_cons] at a1 a2 a3 ey2
      have hokl : ∀ X, X ∈ A :: l → m_am B 0 X := by rw [← hl]; exact h0.2
      rw [nI_pred] at ey2
      have ey2' : y2 = nI l.length := by rw [ey2]; simp [sI]
      rw [ey2', gg]
      simp only [List.length_cons]
      rw [nI_pred]
      generalize hS1 : sI S (23, 0, 0) 23 (nI l.length) = S1
      have d2 : S1.2 = S.2 := by rw [← hS1]; rfl
      have d1 : ∀ (q : zK) t, ¬ (q = (23, 0, 0) ∧ t = 23) → S1.1 q t = S.1 q t := by
        intro q t n; rw [← hS1]; simp only [sI, if_neg n]
      have hKA : r_K S1 l.length A := by
        have := a3 0 A rfl
        have e : l.length + 1 - 1 - 0 = l.length := by omega
        rw [e] at this
        exact K_cp this (bd_am (hokl A List.mem_cons_self)) (fun u _ => d1 _ _ (by simp)) (by rw [d2]) (by rw [d2]) (by rw [d2])
      refine rs_comesBack (by omega) S1 hKA (bd_am (hokl A List.mem_cons_self)) _ (fun S5 h5 f5 => ?_)
      have e23 : S5.1 (23, 0, 0) 23 = nI l.length := by rw [f5.1 (23, 0, 0) 23 (by simp) (by simp), ← hS1]; simp [sI]
      have hd1 : r_dn S S1 := by rw [← hS1]; exact dn_I S 23 _ _ (by omega)
      refine ⟨_, rfl, e23, RG_B (B := B) ⟨⟨hokl A List.mem_cons_self, fun X hX => hokl X (List.mem_cons_of_mem _ hX)⟩, h5, ⟨by simp only; omega, e23, fun k X hX => ?_⟩, fun t ht => ?_, ?_, h4.2.1, fun k hk => ?_⟩ (z_le3 B), dn_tr hd1 (dn_cf f5)⟩
      · have hkl := (List.getElem?_eq_some_iff.1 hX).1
        have := a3 (k + 1) X (by rw [List.getElem?_cons_succ]; exact hX)
        have e : l.length + 1 - 1 - (k + 1) = l.length - 1 - k := by omega
        rw [e] at this
        refine K_cp this (bd_am (hokl X (List.mem_cons_of_mem _ (List.mem_of_getElem? hX)))) (fun u _ => ?_) ?_ ?_ ?_
        · rw [f5.1 (44, 0, 0) _ (by simp) (by simp)]; exact d1 _ _ (by simp)
        · rw [f5.2.2 _ _ (by simp), d2]
        · rw [f5.2.1 _ _ (by simp), d2]
        · rw [f5.2.1 _ _ (by simp), d2]
      · rw [f5.1 (24, 0, 0) t (by simp) (by simp), d1 _ _ (by simp)]; exact h3 t ht
      · rw [f5.1 (23, 0, 0) 30 (by simp) (by simp), d1 _ _ (by simp)]; exact h4.1
      · rw [f5.1 (48, 0, 0) k (by simp) (by simp), d1 _ _ (by simp)]; exact h4.2.2 k hk
  · have e : G.2.1 = [] := by
      have := (nI_eq (b := 0) (by omega) (by omega)).1 he
      exact List.eq_nil_of_length_eq_zero this
    have gg : g_back G = (-3, g_ref G 1) := by unfold g_back; rw [e]
    rw [gg]
    exact ⟨_, rfl, rfl, RG_B (RG_ref hh 1 (by omega)) (z_le3 B), dn_I S 24 _ _ (by omega)⟩
end RPL
