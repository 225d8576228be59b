/-! back, item, draw, best -/
def m_last (A : mS) (b j : Nat) : Int32 := (m_Q A b).foldl (fun v q => match q.2.2.1 with | some x => if q.1 = j then x else v | none => v) (A.1 26 (4 * b + j))
def g_item (G : mG) (x1 x2 x3 : Int32) : mA := match m_cl x1 16, m_cl x2 4, m_cl x3 3 with
  | some b, some j, some w => (if w = 0 then G.1.1 26 (4 * b + j) else if w = 1 then (if G.1.1 29 b = 1 ∨ G.1.1 29 b = 2 then G.1.1 27 (4 * b + j) else m_last G.1 b j) else m_bit (G.1.1 28 b) j, G)
  | _, _, _ => g_bad G
def m_lcg (s : Nat) : Nat := (s * 1103515245 + 12345) % 2147483648
def m_drw (s : Nat) : mR := some (s / 65536 % 16, s / 1024 % 4, if s / 32768 % 3 = 0 then some (nI (s / 2048 % 100)) else none)
def m_draw : Nat → Nat → mS → mS
  | 0, _, A => A
  | k + 1, s, A => m_draw k (m_lcg s) (m_beg 1000 A (m_drw (m_lcg s)))
def g_draw (G : mG) (x1 x2 : Int32) : mA := match m_cl x1 1000000, m_cl x2 41 with
  | some s, some n => if n = 0 then g_bad G else ((m_draw n s G.1).1 40 9 - G.1.1 40 9, g_now (g_keep G) (m_draw n s G.1))
  | _, _ => g_bad G
def m_trial (A : mS) (l : List mO) (f : Nat) : Int32 := (m_await 1000 (l.foldl m_exec (m_new (m_i A 25 2 (nI f))))).1 40 9
def m_b1 (A : mS) (l : List mO) (p : Nat × Int32) (f : Nat) : Nat × Int32 := if p.2 ≤ m_trial A l f then p else (f, m_trial A l f)
def m_bk (A : mS) (l : List mO) : Nat → Nat × Int32
  | 0 => (0, 2000000000)
  | k + 1 => m_b1 A l (m_bk A l k) (k + 1)
def g_best (G : mG) (x1 : Int32) : mA := match m_cl x1 2 with
  | some w => match m_text G.2.2.2.1 G.2.2.2.2 with
    | .inl f => (-10 - nI f, G)
    | .inr l => (if w = 0 then nI (m_bk G.1 l 4).1 else (m_bk G.1 l 4).2, G)
  | none => g_bad G
section SPS
variable {o : zW}
theorem c_back {B : Nat} (S : zS) {G : mG} (h : c_G B S G) : zGi o 970 mdX4_back [.ref (z_adr o (0, 0, 0))] S (c_post B S (g_back G)) := by
  have hh := h
  obtain ⟨h1, ⟨h2, h6, w, hw, h5, hk⟩, h3, h4⟩ := h
  refine w_X4_back_0 o S _ ?_
  rw [h6, h5]
  refine ⟨fun hc => ?_, fun hc => ⟨fun hc => absurd hc (nI_pos (by omega)), fun _ => ⟨fun _ => ⟨z_in hw (by omega), ?_⟩, fun hc => absurd (nI_lt (b := 6) hw (by omega)) hc⟩⟩⟩
  · have e : G.2.1 = [] := by
      have := (nI_leI (b := 0) (by omega) (by omega)).1 hc
      exact List.eq_nil_of_length_eq_zero (by omega)
    have gg : g_back G = (-3, g_ref G 1) := by unfold g_back; rw [e]
    rw [gg]
    exact sp_refuse S hh (k := 1) (by omega) (by decide) _ (fun S' h' u' => ⟨_, rfl, rfl, G_B h' (z_le3 B), u'⟩)
  · rw [z_cl (by omega)]
    cases hl : G.2.1 with
    | nil => rw [hl] at hc; exact absurd (Int32.le_refl _) hc
    | cons A l =>
      have gg : g_back G = (nI l.length, (A, l, G.2.2)) := by unfold g_back; rw [hl]
      rw [hl] at hk h6 h2
      simp only [List.length_cons] at h2 h6
      have hA := hk 0 A rfl
      have e0 : 2 + (w + 6 - 0) % 6 = w + 2 := by omega
      rw [e0] at hA
      refine sp_become (by omega) (z_hn (by omega)) (by omega) (z_hn (by omega)) (by omega) S hA _ (fun S13 h13 f13 => ?_)
      have e : ∀ k, k = 0 ∨ 15 < k → S13.1 (k, 0, 0) = S.1 (k, 0, 0) := fun k hk => (f13 (k, 0, 0) (fun hc => by simp only at hc; omega)).1
      have b5 : S13.1 (0, 0, 0) 5 = nI w := by rw [e 0 (by omega)]; exact h5
      have b6 : S13.1 (0, 0, 0) 6 = nI (l.length + 1) := by rw [e 0 (by omega)]; exact h6
      have ew : nI w + 6 - 1 - (nI w + 6 - 1) / 6 * 6 = nI ((w + 5) % 6) := by
        rw [show nI w + 6 = nI (w + 5 + 1) from nI_add w 6, nI_pred]
        exact pk_rem (a := w + 5) (d := 6) (by omega) (by omega) (by omega)
      intro y ey S15 e15
      rw [b5, ew] at ey
      subst ey
      have c6 : (sI S13 (0, 0, 0) 5 (nI ((w + 5) % 6))).1 (0, 0, 0) 6 = nI (l.length + 1) := by simpa [sI] using b6
      rw [c6, nI_pred] at e15
      subst e15
      have hw' : (w + 5) % 6 < 6 := Nat.mod_lt _ (by omega)
      have s15 : ∀ i, c_sm i S13 (sI (sI S13 (0, 0, 0) 5 (nI ((w + 5) % 6))) (0, 0, 0) 6 (nI l.length)) := fun i => sm_tr (sm_I S13 0 _ _ (by omega)) (sm_I _ 0 _ _ (by omega))
      rw [gg]
      refine ⟨_, rfl, by simp [sI], G_B ⟨H_sm h13 (s15 0), ⟨by simp only; omega, by simp [sI], (w + 5) % 6, hw', by simp [sI], fun k X hX => ?_⟩, fun t ht => ?_, ?_, h4.2.1, fun k hk => ?_⟩ (z_le3 B), up_tr (up_fr f13) (up_tr (up_I S13 0 _ _ (by omega)) (up_I _ 0 _ _ (by omega)))⟩
      · have hk5 : k < 5 := by
          have : k < l.length := (List.getElem?_eq_some_iff.1 hX).1
          omega
        have := hk (k + 1) X (by rw [List.getElem?_cons_succ]; exact hX)
        have e1 : 2 + ((w + 5) % 6 + 6 - k) % 6 = 2 + (w + 6 - (k + 1)) % 6 := by omega
        rw [e1]
        exact H_sm (H_sm this (sm_fr f13 (by omega))) (s15 _)
      · have := h3 t ht
        rw [← e 21 (by omega)] at this
        simpa [sI] using this
      · have := h4.1
        rw [← e 16 (by omega)] at this
        simpa [sI] using this
      · have := h4.2.2 k hk
        rw [← e 17 (by omega)] at this
        simpa [sI] using this
theorem last_eq {S : zS} {A : mS} {b j : Nat} (h6 : S.1 (6, 0, b) j = A.1 26 (4 * b + j)) (hq : ∀ k q, (m_Q A b)[k]? = some q → c_ask S 0 b k q) (hok : m_qok (m_Q A b)) (hj : j < 4) : ∀ k, k ≤ (m_Q A b).length → c_last S 0 b j k = ((m_Q A b).take k).foldl (fun v q => match q.2.2.1 with | some x => if q.1 = j then x else v | none => v) (A.1 26 (4 * b + j)) := by
  intro k
  induction k with
  | zero => intro _; exact h6
  | succ k ih =>
    intro hk
    obtain ⟨q, hq2⟩ : ∃ q, (m_Q A b)[k]? = some q := ⟨(m_Q A b)[k], List.getElem?_eq_getElem hk⟩
    obtain ⟨a1, a2, a3, a4⟩ := hq k q hq2
    obtain ⟨o1, o2⟩ := hok.2 q (List.mem_of_getElem? hq2)
    rw [List.take_add_one, hq2]
    simp only [Option.toList_some, List.foldl_append, List.foldl_cons, List.foldl_nil, c_last]
    rw [ih (by omega), a1, a2]
    cases hv : q.2.2.1 with
    | none => simp
    | some x =>
      have hx := o2 x hv
      by_cases e : q.1 = j
      · rw [e]; simp [hx]
      · have : ¬ nI q.1 = nI j := fun e2 => e ((nI_eq (by omega) (by omega)).1 e2)
        simp [e, this]
theorem c_item {B : Nat} (S : zS) {G : mG} (h : c_G B S G) (x1 x2 x3 : Int32) : zGi o 970 mdX4_item [.ref (z_adr o (0, 0, 0)), .int x1, .int x2, .int x3] S (c_post B S (g_item G x1 x2 x3)) := by
  have bad := sp_badR (o := o) S S h (up_rf S)
  obtain ⟨⟨U, hU, hR⟩, hal⟩ := h.1
  have nb : ∀ y1 y2 y3, (m_cl y1 16 = none ∨ m_cl y2 4 = none ∨ m_cl y3 3 = none) → g_item G y1 y2 y3 = g_bad G := by
    intro y1 y2 y3 hy
    unfold g_item
    rcases hy with hy | hy | hy
    · rw [hy]
    · rw [hy]; cases m_cl y1 16 <;> rfl
    · rw [hy]; cases m_cl y1 16 <;> cases m_cl y2 4 <;> rfl
  refine w_X4_item_0 o _ _ _ S _ (sp_isBox x1 S _ (fun b hb e => ⟨fun hc => absurd hc (by decide), fun _ => ?_⟩) (fun hc => ⟨fun _ => ?_, fun hc => absurd rfl hc⟩))
  · refine sp_isItem x2 S _ (fun j hj e2 => ⟨fun hc => absurd hc (by decide), fun _ => ⟨fun c1 => ?_, fun c1 => ⟨fun c2 => ?_, fun c2 => ?_⟩⟩⟩) (fun hc => ⟨fun _ => ?_, fun hc => absurd rfl hc⟩)
    · rw [nb _ _ _ (Or.inr (Or.inr (cl_neg c1)))]; exact bad
    · obtain ⟨w, hw, ew, ec⟩ := cl_le (N := 2) (by omega) c1 c2
      have gg : g_item G x1 x2 x3 = (if w = 0 then G.1.1 26 (4 * b + j) else if w = 1 then (if G.1.1 29 b = 1 ∨ G.1.1 29 b = 2 then G.1.1 27 (4 * b + j) else m_last G.1 b j) else m_bit (G.1.1 28 b) j, G) := by
        unfold g_item; rw [e, e2, cl_in hb (by omega), cl_in hj (by omega), ec]
      rw [gg, e, e2, ew, z_cl (by omega), z_cl (by omega)]
      obtain ⟨a6, a7⟩ := hR.2.1 b hb j hj
      obtain ⟨a8, a9, -⟩ := hR.2.2.1 b hb
      obtain ⟨q7, qk⟩ := hR.2.2.2.1 b hb
      have hok := (hal.1.2.2.2.1.2 b hb).1
      refine ⟨z_in hb (by omega), fun n0 => ⟨fun n1 => ?_, fun e1 => ?_⟩, fun e0 => ⟨z_in hj (by omega), ?_⟩⟩
      · have hw2 : w = 2 := by
          have a : w ≠ 0 := fun e => n0 (by rw [e]; rfl)
          have b : w ≠ 1 := fun e => n1 (by rw [e]; rfl)
          omega
        subst hw2
        refine sp_changedBit (by omega) (z_hn (by omega)) hb j S _ ?_
        rw [a9]
        exact sp_same h rfl
      · have hw1 : w = 1 := (nI_eq (b := 1) (by omega) (by omega)).1 e1
        subst hw1
        refine sp_valueAtLast (by omega) (z_hn (by omega)) hb hj S q7 hok.1 _ ?_
        rw [a8, a7, last_eq a6 qk hok hj _ (Nat.le_refl _), List.take_length]
        exact sp_same h rfl
      · have hw0 : w = 0 := (nI_eq (b := 0) (by omega) (by omega)).1 e0
        subst hw0
        rw [a6]
        exact sp_same h rfl
    · rw [nb _ _ _ (Or.inr (Or.inr (cl_gt (N := 2) (by omega) (Int32.not_le.1 c2))))]; exact bad
    · have : m_cl x2 4 = none := by
        rcases hc with hc | hc
        · exact cl_neg hc
        · exact cl_ge (N := 4) (by omega) hc
      rw [nb _ _ _ (Or.inr (Or.inl this))]; exact bad
  · have : m_cl x1 16 = none := by
      rcases hc with hc | hc
      · exact cl_neg hc
      · exact cl_ge (N := 16) (by omega) hc
    rw [nb _ _ _ (Or.inl this)]; exact bad
end SPS
