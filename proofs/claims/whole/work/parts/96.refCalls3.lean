section RPM
variable {o : zW}
theorem bit0 : ∀ j, j < 4 → m_bit 0 j = 0 := by decide +kernel
theorem rs_atLast {b j : Nat} (hb : b < 16) (hj : j < 4) (S : zS) {A : mS} (h : r_R S A) (hbd : m_bd A) (hql : m_ql A) (K : Int32 → zS → Prop) (hK : K (if A.1 29 b = 1 ∨ A.1 29 b = 2 then A.1 27 (4 * b + j) else m_last A b j) S) (hq1 : ∀ q, q ∈ m_Q A b → q.1 < 4) : zGi o 994 mdX5_atLast [.ref (z_adr o (23, 0, 0)), .int (nI b), .int (nI j)] S K := by
  have ex : ∀ j, (4 : Int32) * nI b + nI j = nI (4 * b + j) := fun j => by rw [show (4 : Int32) = nI 4 from rfl, pk_mul, nI_add]
  have d29 : S.1 (29, 0, 0) b = A.1 29 b := h.1 29 b (by unfold r_dir; omega)
  have d27 : S.1 (27, 0, 0) (4 * b + j) = A.1 27 (4 * b + j) := h.1 27 _ (by unfold r_dir; omega)
  have d26 : S.1 (26, 0, 0) (4 * b + j) = A.1 26 (4 * b + j) := h.1 26 _ (by unfold r_dir; omega)
  obtain ⟨e34, hask⟩ := h.2.2.2.1 b hb
  have hl4 := hbd.2.2 b hb
  refine w_X5_atLast_0 o _ _ S _ ⟨z_in hb (by omega), ?_⟩
  rw [ex, z_cl (by omega), z_cl (by omega), d29, d27, d26]
  refine ⟨fun e1 => ⟨z_in (by omega) (by omega), _, rfl, ?_⟩, fun n1 => ⟨z_in hb (by omega), fun n2 => ⟨z_in (by omega) (by omega), ?_⟩, fun e2 => ⟨z_in (by omega) (by omega), _, rfl, ?_⟩⟩⟩
  · rw [if_pos (Or.inl e1)] at hK; exact hK
  · rw [if_neg (fun hc => hc.elim n1 n2)] at hK
    let f : Int32 → mQ → Int32 := fun v q => match q.2.2.1 with | some x => if q.1 = j then x else v | none => v
    have hl : m_last A b j = (m_Q A b).foldl f (A.1 26 (4 * b + j)) := rfl
    rw [hl] at hK
    refine z_down (m_Q A b).length (fun k => zG o 994 mdX5_atLast 45 [(0, .ref (z_adr o (23, 0, 0))), (1, .int (nI b)), (2, .int (nI j)), (3, .int (((m_Q A b).take k).foldl f (A.1 26 (4 * b + j)))), (4, .int (nI k))] [] S (fun r S' => ∃ y, r = some (.int y) ∧ K y S')) ?_ ?_ 0 (by omega)
    · rw [List.take_length]
      refine w_X5_atLast_45 o _ _ _ _ S _ ⟨z_in hb (by omega), ?_⟩
      rw [z_cl (by omega), e34]
      exact ⟨fun _ => ⟨_, rfl, hK⟩, fun hc => absurd (Int32.le_refl _) hc⟩
    · intro k hk ih
      obtain ⟨q, hq⟩ : ∃ q, (m_Q A b)[k]? = some q := ⟨(m_Q A b)[k], List.getElem?_eq_getElem hk⟩
      obtain ⟨a1, a2, a3, a4⟩ := hask k q hq
      have hqm := List.mem_of_getElem? hq
      have hql' := hql b hb q hqm
      rw [List.take_add_one, hq] at ih
      simp only [Option.toList_some, List.foldl_append, List.foldl_cons, List.foldl_nil] at ih
      refine w_X5_atLast_45 o _ _ _ _ S _ ⟨z_in hb (by omega), ?_⟩
      rw [z_cl (by omega), e34, ex, z_cl (by omega), a1, a4, ← nI_succ]
      refine ⟨fun hc => absurd hc (z_ge hk (by omega)), fun _ => ⟨z_in (by omega) (by omega), fun n1 => ?_, fun e1 => ⟨z_in (by omega) (by omega), fun nj => ?_, fun ej => ⟨z_in (by omega) (by omega), ?_⟩⟩⟩⟩
      · have hn : q.2.2.1 = none := by
          cases hv : q.2.2.1 with
          | none => rfl
          | some x => rw [hv] at n1; exact absurd rfl n1
        have ef : ∀ v, f v q = v := fun v => by show (match q.2.2.1 with | some x => if q.1 = j then x else v | none => v) = v; rw [hn]
        rw [ef] at ih; exact ih
      · cases hv : q.2.2.1 with
        | none => rw [hv] at e1; exact absurd e1 (nI_m1 (by omega))
        | some x =>
          have hne : ¬ q.1 = j := fun e => nj (by rw [e])
          have ef : ∀ v, f v q = v := fun v => by show (match q.2.2.1 with | some x => if q.1 = j then x else v | none => v) = v; rw [hv]; exact if_neg hne
          rw [ef] at ih; exact ih
      · cases hv : q.2.2.1 with
        | none => rw [hv] at e1; exact absurd e1 (nI_m1 (by omega))
        | some x =>
          have hq14 := hq1 q hqm
          have he : q.1 = j := (nI_eq (by omega) (by omega)).1 ej
          have ef : ∀ v, f v q = x := fun v => by show (match q.2.2.1 with | some x => if q.1 = j then x else v | none => v) = x; rw [hv]; exact if_pos he
          rw [ef] at ih
          rw [a2 x hv]; exact ih
  · rw [if_pos (Or.inr e2)] at hK; exact hK
theorem r_item {B : Nat} (S : zS) {G : mG} (h : r_G B S G) (x1 x2 x3 : Int32) : zGi o 994 mdX5_item [.ref (z_adr o (23, 0, 0)), .int x1, .int x2, .int x3] S (r_post B S (g_item G x1 x2 x3)) := by
  have hbd := bd_am h.1.1
  have nb : ∀ y1 y2 y3, (m_cl y1 16 = none ∨ m_cl y2 4 = none ∨ m_cl y3 3 = none) → g_item G y1 y2 y3 = g_bad G := by
    intro y1 y2 y3 hy
    unfold g_item
    rcases hy with hy | hy | hy
    · rw [hy]
    · rw [hy]; cases m_cl y1 16 <;> rfl
    · rw [hy]; cases m_cl y1 16 <;> cases m_cl y2 4 <;> rfl
  have bad : ∀ a, a = g_bad G → zGi o 994 mdX5_bad [.ref (z_adr o (23, 0, 0))] S (fun r S4 => ∃ x, some (Value.int r) = some (.int x) ∧ r_post B S a x S4) := fun a ha => by rw [ha]; exact rs_bad S h
  refine w_X5_item_0 o _ _ _ S _ (rs_isBox x1 S _ (fun b hb e ec => ⟨fun hc => absurd hc (by decide), fun _ => rs_isItem x2 S _ (fun j hj e2 ec2 => ⟨fun hc => absurd hc (by decide), fun _ => rs_inN x3 (N := 2) (by omega) rfl S _ (fun w hw ew ec3 => ⟨fun _ => ⟨by rw [e]; exact z_in hb (by omega), ?_⟩, fun hc => absurd hc (by decide)⟩) (fun hc => ⟨fun hc => absurd rfl hc, fun _ => bad _ (nb _ _ _ (Or.inr (Or.inr hc)))⟩)⟩) (fun hc => ⟨fun _ => bad _ (nb _ _ _ (Or.inr (Or.inl hc))), fun hc => absurd rfl hc⟩)⟩) (fun hc => ⟨fun _ => bad _ (nb _ _ _ (Or.inl hc)), fun hc => absurd rfl hc⟩))
  have gg : g_item G x1 x2 x3 = (if w = 0 then G.1.1 26 (4 * b + j) else if w = 1 then (if G.1.1 29 b = 1 ∨ G.1.1 29 b = 2 then G.1.1 27 (4 * b + j) else m_last G.1 b j) else m_bit (G.1.1 28 b) j, G) := by
    unfold g_item; rw [ec, ec2, ec3]
  have ex : ∀ j, (4 : Int32) * nI b + nI j = nI (4 * b + j) := fun j => by rw [show (4 : Int32) = nI 4 from rfl, pk_mul, nI_add]
  have d29 : S.1 (29, 0, 0) b = G.1.1 29 b := h.2.1.1 29 b (by unfold r_dir; omega)
  have d28 : S.1 (28, 0, 0) b = G.1.1 28 b := h.2.1.1 28 b (by unfold r_dir; omega)
  have d26 : S.1 (26, 0, 0) (4 * b + j) = G.1.1 26 (4 * b + j) := h.2.1.1 26 _ (by unfold r_dir; omega)
  have hwh := h.1.1.1.1.2.2.2.2.1 b hb
  have hq1 : ∀ q, q ∈ m_Q G.1 b → q.1 < 4 := fun q hq => ((h.1.1.1.1.2.2.2.1.2 b hb).1.2 q hq).1
  have w0 : x3 = 0 → w = 0 := fun e0 => (nI_eq (b := 0) (by omega) (by omega)).1 (ew.symm.trans e0)
  have w1 : x3 = 1 → w = 1 := fun e0 => (nI_eq (b := 1) (by omega) (by omega)).1 (ew.symm.trans e0)
  have w2 : ¬ x3 = 0 → ¬ x3 = 1 → w = 2 := by
    intro n0 n1
    have a : w ≠ 0 := fun e => n0 (by rw [ew, e]; rfl)
    have b : w ≠ 1 := fun e => n1 (by rw [ew, e]; rfl)
    omega
  rw [gg, e, e2, ex, z_cl (by omega), z_cl (by omega), d29, d28, d26]
  have k0 : x3 = 0 → ∃ x, some (Value.int (G.1.1 26 (4 * b + j))) = some (.int x) ∧ r_post B S (if w = 0 then G.1.1 26 (4 * b + j) else if w = 1 then (if G.1.1 29 b = 1 ∨ G.1.1 29 b = 2 then G.1.1 27 (4 * b + j) else m_last G.1 b j) else m_bit (G.1.1 28 b) j, G) x S := by
    intro e0
    have := w0 e0; subst this
    exact rs_same h rfl
  have k1 : x3 = 1 → zGi o 994 mdX5_atLast [.ref (z_adr o (23, 0, 0)), .int (nI b), .int (nI j)] S (fun r S' => ∃ x, some (Value.int r) = some (.int x) ∧ r_post B S (if w = 0 then G.1.1 26 (4 * b + j) else if w = 1 then (if G.1.1 29 b = 1 ∨ G.1.1 29 b = 2 then G.1.1 27 (4 * b + j) else m_last G.1 b j) else m_bit (G.1.1 28 b) j, G) x S') := by
    intro e1
    have := w1 e1; subst this
    exact rs_atLast hb hj S h.2.1 hbd h.1.1.2.2 _ (rs_same h rfl) hq1
  have k2 : ∀ v, v = m_bit (G.1.1 28 b) j → ¬ x3 = 0 → ¬ x3 = 1 → ∃ x, some (Value.int v) = some (.int x) ∧ r_post B S (if w = 0 then G.1.1 26 (4 * b + j) else if w = 1 then (if G.1.1 29 b = 1 ∨ G.1.1 29 b = 2 then G.1.1 27 (4 * b + j) else m_last G.1 b j) else m_bit (G.1.1 28 b) j, G) x S := by
    intro v hv n0 n1
    have := w2 n0 n1; subst this
    exact rs_same h (by rw [hv]; rfl)
  refine ⟨fun e1 => ⟨fun n0 => ⟨fun n1 => ⟨z_in hb (by omega), k2 _ rfl n0 n1⟩, fun e1 => k1 e1⟩, fun e0 => ⟨z_in (by omega) (by omega), k0 e0⟩⟩, fun nn1 => ⟨z_in hb (by omega), fun nn2 => ⟨fun n0 => ⟨fun n1 => k2 _ ?_ n0 n1, fun e1 => k1 e1⟩, fun e0 => ⟨z_in (by omega) (by omega), k0 e0⟩⟩, fun ee2 => ⟨fun n0 => ⟨fun n1 => ⟨z_in hb (by omega), k2 _ rfl n0 n1⟩, fun e1 => k1 e1⟩, fun e0 => ⟨z_in (by omega) (by omega), k0 e0⟩⟩⟩⟩
  have h03 : G.1.1 29 b = 0 ∨ G.1.1 29 b = 3 := by
    rcases hwh.1 with g | g | g | g
    · exact Or.inl g
    · exact absurd g nn1
    · exact absurd g nn2
    · exact Or.inr g
  rw [hwh.2 (by omega) h03, bit0 j hj]
theorem rs_drawL {B0 : Nat} {x : Int32} {N : Nat} (hN : N ≤ 40) (S0 : zS) (hB : B0 + 1000 * N ≤ m_BB) (K : Int32 → zS → Prop) : ∀ f, f ≤ N → ∀ (S : zS) (s : Nat) (A : mS) (B : Nat), s < 2 ^ 31 → r_R S A → m_am B 0 A → r_fr S0 S → B ≤ B0 + 1000 * (N - f) →
    (∀ S', r_R S' (m_draw f s A) → m_am (B0 + 1000 * N) 0 (m_draw f s A) → r_fr S0 S' → K ((m_draw f s A).1 40 9 - x) S') →
    zG o 994 mdX5_draw 44 [(0, .ref (z_adr o (23, 0, 0))), (2, .int (nI N)), (3, .int x), (4, .long (lN s)), (6, .int (nI (N - f)))] [] S (fun r S' => ∃ y, r = some (.int y) ∧ K y S') := by
  intro f
  induction f with
  | zero =>
    intro _ S s A B hs h ham hf hb hK
    refine w_X5_draw_44 o _ _ _ _ S _ ⟨fun _ => ⟨_, rfl, ?_⟩, fun hc => absurd (Int32.le_refl _) hc⟩
    rw [h.1 40 9 (by unfold r_dir; omega)]
    exact hK S h (am_B ham hb) hf
  | succ f ih =>
    intro hf1 S s A B hs h ham hf hb hK
    have hk : N - (f + 1) < N := by omega
    obtain ⟨b1, b2⟩ := z_ar5 hB hb hk
    have ek : N - (f + 1) + 1 = N - f := by omega
    rw [ek] at b2
    have e1 : nI (N - (f + 1)) + 1 = nI (N - f) := by rw [← nI_succ]; exact congrArg nI ek
    refine w_X5_draw_44 o _ _ _ _ S _ ⟨fun hc => absurd hc (z_ge hk (by omega)), fun _ => ?_⟩
    rw [drw_1 hs, e1]
    have hu := lcg_lt s
    generalize hus : m_lcg s = u at hu
    rw [show (65536 : Int64) = lN 65536 from rfl, show (16 : Int64) = lN 16 from rfl, show (1024 : Int64) = lN 1024 from rfl, show (4 : Int64) = lN 4 from rfl, show (32768 : Int64) = lN 32768 from rfl, show (3 : Int64) = lN 3 from rfl, show (2048 : Int64) = lN 2048 from rfl, show (100 : Int64) = lN 100 from rfl]
    rw [drw_2 (d := 65536) (m := 16) hu (by omega) (by omega), drw_2 (d := 1024) (m := 4) hu (by omega) (by omega), drw_2 (d := 32768) (m := 3) hu (by omega) (by omega), drw_2 (d := 2048) (m := 100) hu (by omega) (by omega), lN_i, lN_i, lN_i]
    have hB2 : B + 1000 < 2 ^ 30 := by unfold m_BB at b1; omega
    have hstep : ∀ S', r_R S' (m_beg 1000 A (m_drw u)) → r_fr S S' → zG o 994 mdX5_draw 44 [(0, .ref (z_adr o (23, 0, 0))), (2, .int (nI N)), (3, .int x), (4, .long (lN u)), (6, .int (nI (N - f)))] [] S' (fun r S' => ∃ y, r = some (.int y) ∧ K y S') := by
      intro S' h' f'
      refine ih (by omega) S' u _ _ hu h' (rl_beg (drw_rok u) 1000 A B ham hB2) (hf.tr f') b2 (fun S'' h'' f'' => ?_)
      have := hK S''
      simp only [m_draw, hus] at this
      exact this h'' f''
    have hrok := drw_rok u
    intro y2 ey2
    subst ey2
    refine ⟨fun h4 y4 ey4 y5 ey5 y6 ey6 => ?_, fun h4 y4 ey4 y5 ey5 y6 ey6 => ?_⟩
    · subst ey4 ey5 ey6
      have hd : m_drw u = some (u / 65536 % 16, u / 1024 % 4, none) := by
        have : ¬ u / 32768 % 3 = 0 := fun e => h4 ((lcmp_0 (by omega)).2 e)
        unfold m_drw; rw [if_neg this]
      rw [hd] at hstep hrok
      exact rs_done _ hrok _ _ _ _ ⟨rfl, rfl, rfl, fun x hx => by cases hx⟩ S S h (r_fr.rf S) ham hB2 _ hstep
    · subst ey4 ey5 ey6
      have hd : m_drw u = some (u / 65536 % 16, u / 1024 % 4, some (nI (u / 2048 % 100))) := by
        have : u / 32768 % 3 = 0 := (lcmp_0 (by omega)).1 h4
        unfold m_drw; rw [if_pos this]
      rw [hd] at hstep hrok
      refine rs_done _ hrok _ _ _ _ ⟨rfl, rfl, rfl, fun x hx => ?_⟩ S S h (r_fr.rf S) ham hB2 _ hstep
      simp only [Option.some.injEq] at hx
      exact hx
theorem r_draw {B : Nat} (hB : B + 60000 ≤ m_BB) (S : zS) {G : mG} (h : r_G B S G) (x1 x2 : Int32) : zGi o 994 mdX5_draw [.ref (z_adr o (23, 0, 0)), .int x1, .int x2] S (r_post B S (g_draw G x1 x2)) := by
  have nb : ∀ y1 y2, (m_cl y1 1000000 = none ∨ m_cl y2 41 = none ∨ m_cl y2 41 = some 0) → g_draw G y1 y2 = g_bad G := by
    intro y1 y2 hy
    unfold g_draw
    rcases hy with hy | hy | hy
    · rw [hy]
    · rw [hy]; cases m_cl y1 1000000 <;> rfl
    · rw [hy]; cases m_cl y1 1000000 <;> rfl
  refine w_X5_draw_0 o _ _ S _ (rs_inN x1 (N := 999999) (by omega) rfl S _ (fun s hs es ec => ⟨fun hc => absurd hc (by decide), fun _ => rs_in x2 1 40 S _ (fun a b => ⟨fun _ => ?_, fun hc => absurd hc (by decide)⟩) (fun hc => ⟨fun hc => absurd rfl hc, fun _ => ?_⟩)⟩) (fun hc => ⟨fun _ => ?_, fun hc => absurd rfl hc⟩))
  · obtain ⟨n, hn, en, ec2⟩ := cl_le (N := 40) (x := x2) (by omega) (fun hc => a (Int32.lt_trans hc (by decide))) (Int32.not_lt.1 b)
    have hn0 : ¬ n = 0 := by
      intro e
      rw [en, e] at a
      exact a (by decide)
    have gg : g_draw G x1 x2 = ((m_draw n s G.1).1 40 9 - G.1.1 40 9, g_now (g_keep G) (m_draw n s G.1)) := by
      unfold g_draw; rw [ec, ec2]; exact if_neg hn0
    rw [gg, es, en]
    refine rs_leaves S h _ (fun S2 h2 d2 => ?_)
    have ea : S2.1 (40, 0, 0) 9 = G.1.1 40 9 := h2.2.1.1 40 9 (by unfold r_dir; omega)
    rw [ea, nI_l (by omega)]
    have hle : 1000 * n ≤ 60000 := by omega
    have e0 : (0 : Int32) = nI (n - n) := by rw [Nat.sub_self]; rfl
    rw [e0]
    refine rs_drawL (by omega) S2 (Nat.le_trans (Nat.add_le_add_left hle B) hB) _ n (Nat.le_refl _) S2 s G.1 B (by omega) h2.2.1 h2.1.1 (r_fr.rf S2) (by omega) (fun S' h' m' f' => ⟨rfl, RG_B (RG_now h2 f' h' m' (Nat.le_add_right _ _)) (Nat.add_le_add_left hle B), dn_tr d2 (dn_fr f')⟩)
  · rw [nb _ _ ?_]
    · exact rs_bad S h
    · rcases hc with hc | hc
      · by_cases h0 : x2 < 0
        · exact Or.inr (Or.inl (cl_neg h0))
        · obtain ⟨k, hk, ek⟩ := nI_of h0
          have : k = 0 := by
            rw [ek] at hc
            have := (nI_ltI (b := 1) hk (by omega)).1 hc
            omega
          subst this
          exact Or.inr (Or.inr (by rw [ek]; exact cl_in (by omega) (by omega)))
      · exact Or.inr (Or.inl (cl_gt (N := 40) (by omega) hc))
  · rw [nb _ _ (Or.inl hc)]; exact rs_bad S h
end RPM
