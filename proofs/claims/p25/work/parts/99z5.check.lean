/-! what is checked behind each step -/
theorem nodup_len : ∀ (l1 l2 : List Nat), l1.Nodup → (∀ x, x ∈ l1 → x ∈ l2) → l1.length ≤ l2.length := by
  intro l1
  induction l1 with
  | nil => intro l2 _ _; exact Nat.zero_le _
  | cons a l ih =>
    intro l2 hn hs
    obtain ⟨h1, h2⟩ := List.nodup_cons.1 hn
    have ha := hs a List.mem_cons_self
    have := ih (l2.erase a) h2 (fun x hx => (List.mem_erase_of_ne (fun e => h1 (by rw [← e]; exact hx))).2 (hs x (List.mem_cons_of_mem _ hx)))
    rw [List.length_erase_of_mem ha] at this
    have hp := List.length_pos_of_mem ha
    simp only [List.length_cons]
    omega
def m_asks (A : mS) (f : Nat) : Nat := (((m_F A).take f).map (fun b => (m_Q A b).length)).sum
theorem asks_succ {A : mS} {f b : Nat} (h : (m_F A)[f]? = some b) : m_asks A (f + 1) = m_asks A f + (m_Q A b).length := by
  unfold m_asks
  rw [List.take_add_one, h]
  simp
theorem asks_le {A : mS} (hI : m_inv 16 A) : ∀ f, m_asks A f ≤ 4 * f := by
  intro f
  induction f with
  | zero => simp [m_asks]
  | succ f ih =>
    cases h : (m_F A)[f]? with
    | none =>
      have e : m_asks A (f + 1) = m_asks A f := by unfold m_asks; rw [List.take_add_one, h]; simp
      omega
    | some b =>
      have hb := (hI.2.2.1.2.1 b).1 (List.mem_of_getElem? h)
      have := ((hI.2.2.2.1.2 b hb.1).1).1
      rw [asks_succ h]; omega
/-- LOADS that wait are among the ASKERS -/
theorem asks_ge {A : mS} {D : Nat → Nat × Int32} (hI : m_inv 16 A) (hJ : m_JJ D A (m_Q A)) : m_N A ≤ m_ck A (m_N A) + m_asks A (m_F A).length := by
  have e1 : m_asks A (m_F A).length = ((m_F A).flatMap (fun b => (m_Q A b).map (fun q => q.2.2.2))).length := by
    unfold m_asks
    rw [List.take_length, List.length_flatMap]
    simp
  have e2 : ((List.range (m_N A)).filter (fun k => !decide (0 ≤ A.1 41 k))).length ≤ ((m_F A).flatMap (fun b => (m_Q A b).map (fun q => q.2.2.2))).length := by
    refine nodup_len _ _ (List.nodup_range.filter _) (fun k hk => ?_)
    obtain ⟨k1, k2⟩ := List.mem_filter.1 hk
    have kN := List.mem_range.1 k1
    obtain ⟨j1, j2, j3⟩ := hJ.2.2.2.1 k kN
    rcases j3 with ⟨a1, a2, q, q1, q2, q3⟩ | ⟨a1, -⟩
    · refine List.mem_flatMap.2 ⟨(D k).1, ?_, List.mem_map.2 ⟨q, q1, q3⟩⟩
      refine (hI.2.2.1.2.1 _).2 ⟨j1, by omega, ?_⟩
      by_cases h3 : A.1 29 (D k).1 = 3
      · exact h3
      · rw [hI.2.2.2.1.1 _ j1 (by omega) h3] at q1
        cases q1
    · rw [a1] at k2
      simp [j2] at k2
  have e3 : m_N A = m_ck A (m_N A) + ((List.range (m_N A)).filter (fun k => !decide (0 ≤ A.1 41 k))).length := by
    unfold m_ck
    rw [← List.countP_eq_length_filter]
    have := List.length_eq_countP_add_countP (fun k => decide (0 ≤ A.1 41 k)) (l := List.range (m_N A))
    rw [List.length_range] at this
    have e : (List.range (m_N A)).countP (fun k => !decide (0 ≤ A.1 41 k)) = (List.range (m_N A)).countP (fun a => decide ¬decide (0 ≤ A.1 41 a) = true) := by
      refine List.countP_congr (fun k _ => ?_)
      by_cases h : 0 ≤ A.1 41 k <;> simp [h]
    rw [e]; exact this
  omega
theorem F_len {A : mS} (hI : m_inv 16 A) : (m_F A).length = (List.range 16).countP (fun x => decide (A.1 29 x = 3)) := by
  rw [← (c_M_all hI).length_eq, List.countP_eq_length_filter]
  rfl
/-- whether box i is in place p or ahead of it -/
def m_pk (A : mS) (i : Nat) : Nat → Nat
  | 0 => 0
  | p + 1 => m_pk A i p + if (m_R A (i % 4))[p]? = some i then 1 else 0
theorem mpk_le (A : mS) (i : Nat) : ∀ p, m_pk A i p ≤ p := by
  intro p
  induction p with
  | zero => exact Nat.le_refl _
  | succ p ih => simp only [m_pk]; split <;> omega
theorem pk_3 {A : mS} (hI : m_inv 16 A) (hr : m_rl A) {i : Nat} (hi : i < 16) : m_pk A i 3 = if A.1 29 i = 1 then 1 else 0 := by
  have hrow := hI.2.1 (i % 4) (by omega)
  have hP := P_pos hI.1
  have hl := hr (i % 4) (by omega)
  have e : m_pk A i 3 = 0 + (if (m_R A (i % 4))[0]? = some i then 1 else 0) + (if (m_R A (i % 4))[1]? = some i then 1 else 0) + (if (m_R A (i % 4))[2]? = some i then 1 else 0) := rfl
  rw [e]
  by_cases h1 : A.1 29 i = 1
  · rw [if_pos h1]
    have hm : i ∈ m_R A (i % 4) := (hrow.2 i).2 ⟨hi, rfl, h1⟩
    obtain ⟨p0, hp0⟩ := List.mem_iff_getElem?.1 hm
    have hp3 := (List.getElem?_eq_some_iff.1 hp0).1
    have key : ∀ p, (m_R A (i % 4))[p]? = some i ↔ p = p0 := by
      intro p
      constructor
      · intro h
        have h3 := (List.getElem?_eq_some_iff.1 h).1
        exact (List.getElem?_inj h3 hrow.1).1 (h.trans hp0.symm)
      · intro h; rw [h]; exact hp0
    simp only [key]
    have : p0 = 0 ∨ p0 = 1 ∨ p0 = 2 := by omega
    rcases this with h | h | h <;> subst h <;> decide
  · rw [if_neg h1]
    have key : ∀ p, ¬ (m_R A (i % 4))[p]? = some i := fun p h => h1 ((hrow.2 i).1 (List.mem_of_getElem? h)).2.2
    rw [if_neg (key 0), if_neg (key 1), if_neg (key 2)]
theorem bit_00 : ∀ j, j < 4 → m_bit 0 j = 0 := by decide
theorem z_q16 : ∀ i, i < 16 → nI i &&& 3 = nI (i % 4) ∧ i / 4 < 4 := by decide +kernel
section CH
variable {o : zW} {S : zS} {G : mG} {D : Nat → Nat × Int32} {V : Nat → Nat → Int32} {N n : Nat} {s x5 x8 x9 : Int32}
theorem L_950 (hn : n ≤ 400) (h : c_G (60000 * n) S G) (hst : m_st 0 D V N s G.1) (hsh : m_sh G.1) (hN : N < 100)
    (hK : zG o 970 mdL_law 1200 [(0, .ref o.2.2.2.2.1), (1, .ref (z_adr o (0, 0, 0))), (2, .ref (z_adr o (23, 0, 0))), (3, .ref (z_adr o (24, 0, 0))), (4, .int 1), (5, .int x5), (6, .int (nI N)), (7, .int s), (8, .int x8), (9, .int x9)] [] S m_Qf) : ∀ f, f ≤ (m_F G.1).length →
    zG o 970 mdL_law 950 [(0, .ref o.2.2.2.2.1), (1, .ref (z_adr o (0, 0, 0))), (2, .ref (z_adr o (23, 0, 0))), (3, .ref (z_adr o (24, 0, 0))), (4, .int 1), (5, .int x5), (6, .int (nI N)), (7, .int s), (8, .int x8), (9, .int x9), (16, .int (nI ((List.range 16).countP (fun x => decide (G.1.1 29 x = 2))))), (17, .int (nI (m_F G.1).length)), (18, .int (nI (m_asks G.1 f))), (19, .int (nI f))] [] S m_Qf := by
  have hB := z_nB (n := n) (by omega)
  have hal := h.1.2
  have hI := hal.1
  have hB30 : 60000 * n < 2 ^ 30 := by omega
  obtain ⟨hJ, -, hNN, hcs, hhc, hqp, hrl⟩ := id hst
  have hF4 := F_4 hI
  intro f hf
  refine z_down (m_F G.1).length (fun f => zG o 970 mdL_law 950 [(0, .ref o.2.2.2.2.1), (1, .ref (z_adr o (0, 0, 0))), (2, .ref (z_adr o (23, 0, 0))), (3, .ref (z_adr o (24, 0, 0))), (4, .int 1), (5, .int x5), (6, .int (nI N)), (7, .int s), (8, .int x8), (9, .int x9), (16, .int (nI ((List.range 16).countP (fun x => decide (G.1.1 29 x = 2))))), (17, .int (nI (m_F G.1).length)), (18, .int (nI (m_asks G.1 f))), (19, .int (nI f))] [] S m_Qf) ?_ ?_ f hf
  · refine w_L_law_950 o _ _ _ _ _ _ _ _ _ S _ ⟨fun _ => ?_, fun hc => absurd (Int32.le_refl _) hc⟩
    have e7 : G.1.1 40 7 = nI N := by rw [hal.2.2.2.1.1, hNN]
    have e8 : G.1.1 40 8 = nI (m_ck G.1 N) := by
      have := hJ.2.2.2.2.1
      unfold m_cn at this
      rw [hNN] at this
      exact this
    have hck := ck_le G.1 N
    have hge := asks_ge hI hJ
    rw [hNN] at hge
    have hal4 := asks_le hI (m_F G.1).length
    refine sp_toldN S h (k := 5) (by omega) _ ⟨?_, ?_⟩
    · obtain ⟨P, p1, p2, p3⟩ := sh_le hI hsh
      have e : m_tld G 5 = nI P := p1
      rw [e]
      exact nI_nlt p3 (by omega)
    refine sp_toldN S h (k := 6) (by omega) _ ⟨?_, ?_⟩
    · obtain ⟨F, p1, p2, p3⟩ := hI.1.2.2.1
      have e : m_tld G 6 = nI F := p1
      have := hI.2.2.1.2.2
      rw [p1, z_cl (by omega)] at this
      rw [e]
      exact nI_nlt this (by omega)
    refine d_fetch hB h (k := (m_F G.1).length) (w := 0) (by omega) (by omega) _ ⟨fun hc => hc ?_, ?_⟩
    · unfold m_ftv
      rw [List.getElem?_eq_none (Nat.le_refl _)]
    refine d_often h (k := 0) (by omega) _ ?_
    refine d_often h (k := 1) (by omega) _ ?_
    refine d_often h (k := 2) (by omega) _ ?_
    refine d_often h (k := 3) (by omega) _ ⟨fun hc => hc hcs, ?_⟩
    refine d_often h (k := 7) (by omega) _ ⟨fun hc => hc e7, ?_⟩
    refine d_often h (k := 8) (by omega) _ ⟨?_, ?_⟩
    · rw [e8]; exact nI_nlt hck (by omega)
    refine d_often h (k := 8) (by omega) _ ⟨?_, ?_⟩
    · rw [e8, pk_sub hck]
      exact nI_nlt (a := m_asks G.1 (m_F G.1).length) (b := N - m_ck G.1 N) (by omega) (by omega)
    obtain ⟨a, c, c1, c2, c3, c4⟩ := hhc
    have hTb := hal.2.2.1.2
    refine d_often h (k := 5) (by omega) _ ?_
    refine d_often h (k := 6) (by omega) _ ⟨?_, hK⟩
    rw [c1, c2]
    exact nI_nlt (a := c) (b := a) c3 (by omega)
  · intro f hf ih
    obtain ⟨b, hb⟩ : ∃ b, (m_F G.1)[f]? = some b := ⟨(m_F G.1)[f], List.getElem?_eq_getElem hf⟩
    obtain ⟨d1, d2, d3, d4, d5⟩ := dd_F hI hal.2.1 hal.2.2.1 hB30 (List.mem_of_getElem? hb)
    have hTb := hal.2.2.1.2
    have q0 : m_ftv G.1 f 0 = nI b := by unfold m_ftv; rw [hb]; rfl
    have q1 : ∀ i c, (m_F G.1)[i]? = some c → m_ftv G.1 i 1 = nI (m_d G.1 c - m_T G.1) := by
      intro i c hc
      obtain ⟨-, -, g3, g4, g5⟩ := dd_F hI hal.2.1 hal.2.2.1 hB30 (List.mem_of_getElem? hc)
      unfold m_ftv
      rw [hc]
      show (if (1 : Nat) = 0 then _ else if (1 : Nat) = 1 then G.1.1 30 c - G.1.1 40 9 else _) = _
      rw [if_neg (by decide), if_pos rfl, g3, hal.2.2.1.1, pk_sub (by omega)]
    have q2 : m_ftv G.1 f 2 = nI (m_Q G.1 b).length := by unfold m_ftv; rw [hb]; rfl
    have hq4 := ((hI.2.2.2.1.2 b d1).1).1
    have hqT := (hI.2.2.2.1.2 b d1).2
    have hqp1 : 1 ≤ (m_Q G.1 b).length := List.length_pos_iff.2 (hqp b d1 d2)
    have hdL : m_d G.1 b ≤ m_T G.1 + m_L G.1 := by have := hal.2.2.2.2.2.2 b (List.mem_of_getElem? hb); omega
    rw [asks_succ hb] at ih
    have nx : zG o 970 mdL_law 1060 [(0, .ref o.2.2.2.2.1), (1, .ref (z_adr o (0, 0, 0))), (2, .ref (z_adr o (23, 0, 0))), (3, .ref (z_adr o (24, 0, 0))), (4, .int 1), (5, .int x5), (6, .int (nI N)), (7, .int s), (8, .int x8), (9, .int x9), (16, .int (nI ((List.range 16).countP (fun x => decide (G.1.1 29 x = 2))))), (17, .int (nI (m_F G.1).length)), (18, .int (nI (m_asks G.1 f))), (19, .int (nI f))] [] S m_Qf := by
      refine w_L_law_1060 o _ _ _ _ _ _ _ _ _ S _ ?_
      refine d_fetch hB h (k := f) (w := 2) (by omega) (by omega) _ ?_
      rw [q2, nI_add, ← nI_succ]
      exact ih
    refine w_L_law_950 o _ _ _ _ _ _ _ _ _ S _ ⟨fun hc => absurd hc (nI_ge hf (by omega)), fun _ => ?_⟩
    refine d_fetch hB h (k := f) (w := 0) (by omega) (by omega) _ ?_
    rw [q0]
    refine d_where h d1 _ ⟨fun hc => hc d2, ?_⟩
    refine d_fetch hB h (k := f) (w := 1) (by omega) (by omega) _ ⟨?_, ?_⟩
    · rw [q1 f b hb]; exact nI_ge (a := 0) (b := m_d G.1 b - m_T G.1) (by omega) (by omega)
    refine d_fetch hB h (k := f) (w := 1) (by omega) (by omega) _ ?_
    refine sp_toldN S h (k := 8) (by omega) _ ⟨?_, ?_⟩
    · obtain ⟨-, -, -, -, L, hLe, -, hL20⟩ := hI.1
      have e : m_tld G 8 = nI L := hLe
      have eL : m_L G.1 = L := by show (G.1.1 25 4).toNatClampNeg = L; rw [hLe, z_cl (by omega)]
      rw [e, q1 f b hb]
      exact nI_nlt (a := L) (b := m_d G.1 b - m_T G.1) (by omega) (by omega)
    refine d_fetch hB h (k := f) (w := 2) (by omega) (by omega) _ ⟨?_, ?_⟩
    · rw [q2]; exact nI_ge (a := 0) (b := (m_Q G.1 b).length) (by omega) (by omega)
    refine d_fetch hB h (k := f) (w := 2) (by omega) (by omega) _ ?_
    refine sp_toldN S h (k := 7) (by omega) _ ⟨?_, ?_, ?_⟩
    · obtain ⟨-, -, -, ⟨T, hTe, -, hT4⟩, -⟩ := hI.1
      have e : m_tld G 7 = nI T := hTe
      rw [hTe, z_cl (by omega)] at hqT
      rw [e, q2]
      exact nI_nlt hqT (by omega)
    · exact fun _ => nx
    · intro hne
      have hf0 : f ≠ 0 := fun e => hne (by rw [e]; rfl)
      obtain ⟨c, hc⟩ : ∃ c, (m_F G.1)[f - 1]? = some c := ⟨(m_F G.1)[f - 1], List.getElem?_eq_getElem (by omega)⟩
      obtain ⟨g1, g2, g3, g4, g5⟩ := dd_F hI hal.2.1 hal.2.2.1 hB30 (List.mem_of_getElem? hc)
      have hlt : m_d G.1 c < m_d G.1 b := by
        have hp := hal.2.2.2.2.2.1
        rw [List.pairwise_iff_getElem] at hp
        have := hp (f - 1) f (by omega) hf (by omega)
        rw [(List.getElem?_eq_some_iff.1 hc).2, (List.getElem?_eq_some_iff.1 hb).2] at this
        exact this
      refine d_fetch hB h (k := f) (w := 1) (by omega) (by omega) _ ?_
      rw [show nI f - 1 = nI (f - 1) from pk_sub (a := f) (b := 1) (by omega)]
      refine d_fetch hB h (k := f - 1) (w := 1) (by omega) (by omega) _ ⟨?_, nx⟩
      rw [q1 f b hb, q1 (f - 1) c hc]
      exact nI_ge (a := m_d G.1 c - m_T G.1) (b := m_d G.1 b - m_T G.1) (by omega) (by omega)
theorem L_861 (hn : n ≤ 400) (h : c_G (60000 * n) S G) (hrl : m_rl G.1) {x16 x17 : Int32} {r : Nat} (hr : r < 4)
    (hK : zG o 970 mdL_law 852 [(0, .ref o.2.2.2.2.1), (1, .ref (z_adr o (0, 0, 0))), (2, .ref (z_adr o (23, 0, 0))), (3, .ref (z_adr o (24, 0, 0))), (4, .int 1), (5, .int x5), (6, .int (nI N)), (7, .int s), (8, .int x8), (9, .int x9), (16, .int x16), (17, .int x17), (18, .int (nI r + 1))] [] S m_Qf) : ∀ p, p ≤ 3 →
    zG o 970 mdL_law 861 [(0, .ref o.2.2.2.2.1), (1, .ref (z_adr o (0, 0, 0))), (2, .ref (z_adr o (23, 0, 0))), (3, .ref (z_adr o (24, 0, 0))), (4, .int 1), (5, .int x5), (6, .int (nI N)), (7, .int s), (8, .int x8), (9, .int x9), (16, .int x16), (17, .int x17), (18, .int (nI r)), (19, .int (nI p))] [] S m_Qf := by
  have hB := z_nB (n := n) (by omega)
  have hal := h.1.2
  have hl := hrl r hr
  have hP := P_pos hal.1.1
  obtain ⟨P, p1, p2, p3⟩ := hal.1.1.1
  have eP : m_P G.1 = P := by unfold m_P; rw [p1, z_cl (by omega)]
  have e4 : m_tld G 4 = nI P := p1
  rw [eP] at hl
  intro p hp
  refine z_down 3 (fun p => zG o 970 mdL_law 861 [(0, .ref o.2.2.2.2.1), (1, .ref (z_adr o (0, 0, 0))), (2, .ref (z_adr o (23, 0, 0))), (3, .ref (z_adr o (24, 0, 0))), (4, .int 1), (5, .int x5), (6, .int (nI N)), (7, .int s), (8, .int x8), (9, .int x9), (16, .int x16), (17, .int x17), (18, .int (nI r)), (19, .int (nI p))] [] S m_Qf) ?_ ?_ p hp
  · exact w_L_law_861 o _ _ _ _ _ _ _ _ _ S _ ⟨fun _ => hK, fun hc => absurd (by decide) hc⟩
  · intro p hp ih
    rw [nI_succ] at ih
    have nx := w_L_law_932 o _ _ _ _ _ _ _ _ _ S _ ih
    have none_nn : ∀ q, ¬ q < (m_R G.1 r).length → (match (m_R G.1 r)[q]? with | some b => nI b | none => -1) = -1 := by
      intro q hq
      rw [List.getElem?_eq_none (by omega)]
    have some_nn : ∀ q, q < (m_R G.1 r).length → 0 ≤ (match (m_R G.1 r)[q]? with | some b => nI b | none => -1) := by
      intro q hq
      rw [List.getElem?_eq_getElem hq]
      have hb := (((hal.1.2.1 r hr).2 _).1 (List.getElem_mem hq)).1
      exact nI_le (a := 0) (Nat.zero_le _) (by omega)
    refine w_L_law_861 o _ _ _ _ _ _ _ _ _ S _ ⟨fun hc => absurd hc (nI_ge (a := p) (b := 3) hp (by omega)), fun _ => ?_⟩
    have two : ¬ nI p = 2 → p + 1 < 3 := by
      intro hne
      have : p ≠ 2 := fun e => hne (by rw [e]; rfl)
      omega
    refine sp_toldN S h (k := 4) (by omega) _ ⟨fun hlt => ?_, fun hge => ?_⟩
    · refine d_place hB h hr hp _ ⟨fun _ => nx, fun hneg => ⟨fun _ => nx, fun hne => ?_⟩⟩
      have hp1 : ¬ p < (m_R G.1 r).length := fun hc => hneg (some_nn p hc)
      rw [show nI p + 1 = nI (p + 1) from (nI_succ p).symm]
      refine d_place hB h hr (k := p + 1) (two hne) _ ⟨fun hc => hc ?_, nx⟩
      exact none_nn (p + 1) (by omega)
    · rw [e4] at hge
      have hpP : ¬ p < P := fun hc => hge (nI_lt hc (by omega))
      refine d_place hB h hr hp _ ⟨fun hc => hc ?_, ?_⟩
      · exact none_nn p (by omega)
      refine d_place hB h hr hp _ ⟨fun _ => nx, fun hneg => ⟨fun _ => nx, fun hne => ?_⟩⟩
      rw [show nI p + 1 = nI (p + 1) from (nI_succ p).symm]
      refine d_place hB h hr (k := p + 1) (two hne) _ ⟨fun hc => hc ?_, nx⟩
      exact none_nn (p + 1) (by omega)
theorem L_852 (hn : n ≤ 400) (h : c_G (60000 * n) S G) (hrl : m_rl G.1) {x16 x17 : Int32}
    (hK : zG o 970 mdL_law 950 [(0, .ref o.2.2.2.2.1), (1, .ref (z_adr o (0, 0, 0))), (2, .ref (z_adr o (23, 0, 0))), (3, .ref (z_adr o (24, 0, 0))), (4, .int 1), (5, .int x5), (6, .int (nI N)), (7, .int s), (8, .int x8), (9, .int x9), (16, .int x16), (17, .int x17), (18, .int (nI 0)), (19, .int (nI 0))] [] S m_Qf) : ∀ r, r ≤ 4 →
    zG o 970 mdL_law 852 [(0, .ref o.2.2.2.2.1), (1, .ref (z_adr o (0, 0, 0))), (2, .ref (z_adr o (23, 0, 0))), (3, .ref (z_adr o (24, 0, 0))), (4, .int 1), (5, .int x5), (6, .int (nI N)), (7, .int s), (8, .int x8), (9, .int x9), (16, .int x16), (17, .int x17), (18, .int (nI r))] [] S m_Qf := by
  intro r hr
  refine z_down 4 (fun r => zG o 970 mdL_law 852 [(0, .ref o.2.2.2.2.1), (1, .ref (z_adr o (0, 0, 0))), (2, .ref (z_adr o (23, 0, 0))), (3, .ref (z_adr o (24, 0, 0))), (4, .int 1), (5, .int x5), (6, .int (nI N)), (7, .int s), (8, .int x8), (9, .int x9), (16, .int x16), (17, .int x17), (18, .int (nI r))] [] S m_Qf) ?_ ?_ r hr
  · exact w_L_law_852 o _ _ _ _ _ _ _ _ S _ ⟨fun _ => hK, fun hc => absurd (by decide) hc⟩
  · intro r hr ih
    rw [nI_succ] at ih
    refine w_L_law_852 o _ _ _ _ _ _ _ _ S _ ⟨fun hc => absurd hc (nI_ge (a := r) (b := 4) hr (by omega)), fun _ => ?_⟩
    exact L_861 hn h hrl hr ih 0 (by omega)
theorem L_711 (hn : n ≤ 400) (h : c_G (60000 * n) S G) (hst : m_st 0 D V N s G.1) (hlast : ∀ b, b < 16 → ∀ j, j < 4 → S.1 (23, 0, 0) (4 * b + j) = V b j) {x16 x17 : Int32} {i : Nat} (hi : i < 16)
    (hK : zG o 970 mdL_law 590 [(0, .ref o.2.2.2.2.1), (1, .ref (z_adr o (0, 0, 0))), (2, .ref (z_adr o (23, 0, 0))), (3, .ref (z_adr o (24, 0, 0))), (4, .int 1), (5, .int x5), (6, .int (nI N)), (7, .int s), (8, .int x8), (9, .int x9), (16, .int x16), (17, .int x17), (18, .int (nI i + 1))] [] S m_Qf) : ∀ j, j ≤ 4 →
    zG o 970 mdL_law 711 [(0, .ref o.2.2.2.2.1), (1, .ref (z_adr o (0, 0, 0))), (2, .ref (z_adr o (23, 0, 0))), (3, .ref (z_adr o (24, 0, 0))), (4, .int 1), (5, .int x5), (6, .int (nI N)), (7, .int s), (8, .int x8), (9, .int x9), (16, .int x16), (17, .int x17), (18, .int (nI i)), (19, .int (G.1.1 29 i)), (21, .int (nI j))] [] S m_Qf := by
  have hB := z_nB (n := n) (by omega)
  have hal := h.1.2
  obtain ⟨hJ, hV, -⟩ := id hst
  intro j hj
  refine z_down 4 (fun j => zG o 970 mdL_law 711 [(0, .ref o.2.2.2.2.1), (1, .ref (z_adr o (0, 0, 0))), (2, .ref (z_adr o (23, 0, 0))), (3, .ref (z_adr o (24, 0, 0))), (4, .int 1), (5, .int x5), (6, .int (nI N)), (7, .int s), (8, .int x8), (9, .int x9), (16, .int x16), (17, .int x17), (18, .int (nI i)), (19, .int (G.1.1 29 i)), (21, .int (nI j))] [] S m_Qf) ?_ ?_ j hj
  · exact w_L_law_711 o _ _ _ _ _ _ _ _ _ _ S _ ⟨fun _ => hK, fun hc => absurd (by decide) hc⟩
  · intro j hj ih
    rw [nI_succ] at ih
    have nx := w_L_law_837 o _ _ _ _ _ _ _ _ _ _ S _ ih
    have e4 : (4 * nI i) + nI j = nI (4 * i + j) := by
      rw [show (4 : Int32) * nI i = nI (4 * i) from by rw [show (4 : Int32) = nI 4 from rfl, pk_mul], nI_add]
    have hin : vp_in (nI (4 * i + j)) 64 := z_in (by omega) (by omega)
    have hl : S.1 (23, 0, 0) (nI (4 * i + j)).toNatClampNeg = V i j := by rw [z_cl (by omega)]; exact hlast i hi j hj
    have v1 : m_itm G.1 i j 1 = V i j := hV i hi j hj
    have v0 : G.1.1 29 i = 0 → m_itm G.1 i j 0 = V i j := by
      intro h0
      rw [← v1]
      show G.1.1 26 (4 * i + j) = m_val G.1 i j
      have hQ := hal.1.2.2.2.1.1 i hi (by omega) (by rw [h0]; decide)
      unfold m_val
      rw [hQ]
      show _ = m_base G.1 i j
      unfold m_base
      rw [h0, if_neg (by decide)]
    have v2 : G.1.1 29 i = 1 ∨ G.1.1 29 i = 2 → ¬ m_itm G.1 i j 2 = 1 → m_itm G.1 i j 0 = m_itm G.1 i j 1 := by
      intro hw hb
      have hQ := hal.1.2.2.2.1.1 i hi (by omega) (fun e => by rw [e] at hw; exact absurd hw (by decide))
      show G.1.1 26 (4 * i + j) = m_val G.1 i j
      rw [hJ.1 i hi hw j hj hb]
      unfold m_val
      rw [hQ]
      show _ = m_base G.1 i j
      unfold m_base
      rw [if_pos hw]
    have v3 : ¬ G.1.1 29 i = 1 → ¬ G.1.1 29 i = 2 → m_itm G.1 i j 2 = 0 := by
      intro h1 h2
      have hw := hal.1.2.2.2.2.1 i hi
      have h28 : G.1.1 28 i = 0 := by
        refine hw.2 (by omega) ?_
        rcases hw.1 with g | g | g | g
        · exact Or.inl g
        · exact absurd g h1
        · exact absurd g h2
        · exact Or.inr g
      show m_bit (G.1.1 28 i) j = 0
      rw [h28]
      exact bit_00 j hj
    refine w_L_law_711 o _ _ _ _ _ _ _ _ _ _ S _ ⟨fun hc => absurd hc (nI_ge (a := j) (b := 4) hj (by omega)), fun _ => ?_⟩
    rw [e4]
    have last0 : G.1.1 29 i = 0 → zGi o 970 mdX4_item [.ref (z_adr o (0, 0, 0)), .int (nI i), .int (nI j), .int (nI 0)] S (fun r S15 => vp_in (nI (4 * i + j)) 64 ∧ ((¬ (¬ r = (S15.1 (23, 0, 0) (nI (4 * i + j)).toNatClampNeg))) ∧ (zG o 970 mdL_law 837 [(0, .ref o.2.2.2.2.1), (1, .ref (z_adr o (0, 0, 0))), (2, .ref (z_adr o (23, 0, 0))), (3, .ref (z_adr o (24, 0, 0))), (4, .int 1), (5, .int x5), (6, .int (nI N)), (7, .int s), (8, .int x8), (9, .int x9), (16, .int x16), (17, .int x17), (18, .int (nI i)), (19, .int (G.1.1 29 i)), (21, .int (nI j))] [] S15 m_Qf))) := by
      intro h0
      exact d_item h hi hj (by omega) _ ⟨hin, fun hc => hc (by rw [v0 h0, hl]), nx⟩
    refine d_item h hi hj (w := 1) (by omega) _ ⟨hin, fun hc => hc (by rw [v1, hl]), fun w1 => ?_, fun n1 => ⟨fun n2 => ?_, fun w2 => ?_⟩⟩
    · refine d_item h hi hj (w := 2) (by omega) _ ⟨fun b1 => ⟨fun _ => nx, fun h0 => last0 h0⟩, fun nb => ?_⟩
      refine d_item h hi hj (w := 0) (by omega) _ ?_
      refine d_item h hi hj (w := 1) (by omega) _ ⟨fun hc => hc (v2 (Or.inl w1) nb), fun _ => nx, fun h0 => last0 h0⟩
    · refine d_item h hi hj (w := 2) (by omega) _ ⟨fun hc => hc (v3 n1 n2), fun _ => nx, fun h0 => last0 h0⟩
    · refine d_item h hi hj (w := 2) (by omega) _ ⟨fun b1 => ⟨fun _ => nx, fun h0 => last0 h0⟩, fun nb => ?_⟩
      refine d_item h hi hj (w := 0) (by omega) _ ?_
      refine d_item h hi hj (w := 1) (by omega) _ ⟨fun hc => hc (v2 (Or.inr w2) nb), fun _ => nx, fun h0 => last0 h0⟩
theorem L_616 (hn : n ≤ 400) (h : c_G (60000 * n) S G) (hrl : m_rl G.1) {c2 c3 i : Nat} (hi : i < 16)
    (hK : zG o 970 mdL_law 711 [(0, .ref o.2.2.2.2.1), (1, .ref (z_adr o (0, 0, 0))), (2, .ref (z_adr o (23, 0, 0))), (3, .ref (z_adr o (24, 0, 0))), (4, .int 1), (5, .int x5), (6, .int (nI N)), (7, .int s), (8, .int x8), (9, .int x9), (16, .int (nI (c2 + if G.1.1 29 i = 2 then 1 else 0))), (17, .int (nI (c3 + if G.1.1 29 i = 3 then 1 else 0))), (18, .int (nI i)), (19, .int (G.1.1 29 i)), (21, .int (nI 0))] [] S m_Qf) : ∀ p, p ≤ 3 →
    zG o 970 mdL_law 616 [(0, .ref o.2.2.2.2.1), (1, .ref (z_adr o (0, 0, 0))), (2, .ref (z_adr o (23, 0, 0))), (3, .ref (z_adr o (24, 0, 0))), (5, .int x5), (6, .int (nI N)), (7, .int s), (8, .int x8), (9, .int x9), (16, .int (nI c2)), (17, .int (nI c3)), (18, .int (nI i)), (19, .int (G.1.1 29 i)), (20, .int (nI (m_pk G.1 i p))), (21, .int (nI p))] [] S m_Qf := by
  have hB := z_nB (n := n) (by omega)
  have hal := h.1.2
  intro p hp
  refine z_down 3 (fun p => zG o 970 mdL_law 616 [(0, .ref o.2.2.2.2.1), (1, .ref (z_adr o (0, 0, 0))), (2, .ref (z_adr o (23, 0, 0))), (3, .ref (z_adr o (24, 0, 0))), (5, .int x5), (6, .int (nI N)), (7, .int s), (8, .int x8), (9, .int x9), (16, .int (nI c2)), (17, .int (nI c3)), (18, .int (nI i)), (19, .int (G.1.1 29 i)), (20, .int (nI (m_pk G.1 i p))), (21, .int (nI p))] [] S m_Qf) ?_ ?_ p hp
  · have h3 := pk_3 hal.1 hrl hi
    have g708 := w_L_law_708 o _ _ _ _ _ _ _ _ _ S _ hK
    have g685 : zG o 970 mdL_law 685 [(0, .ref o.2.2.2.2.1), (1, .ref (z_adr o (0, 0, 0))), (2, .ref (z_adr o (23, 0, 0))), (3, .ref (z_adr o (24, 0, 0))), (5, .int x5), (6, .int (nI N)), (7, .int s), (8, .int x8), (9, .int x9), (16, .int (nI (c2 + if G.1.1 29 i = 2 then 1 else 0))), (17, .int (nI (c3 + if G.1.1 29 i = 3 then 1 else 0))), (18, .int (nI i)), (19, .int (G.1.1 29 i)), (20, .int (nI (m_pk G.1 i 3)))] [] S m_Qf := by
      refine w_L_law_685 o _ _ _ _ _ _ _ _ _ _ S _ ⟨fun n1 => ⟨fun hc => hc ?_, g708⟩, fun w1 => ⟨fun hc => hc ?_, g708⟩⟩
      · rw [h3, if_neg n1]; rfl
      · rw [h3, if_pos w1]; rfl
    have g669 : zG o 970 mdL_law 669 [(0, .ref o.2.2.2.2.1), (1, .ref (z_adr o (0, 0, 0))), (2, .ref (z_adr o (23, 0, 0))), (3, .ref (z_adr o (24, 0, 0))), (5, .int x5), (6, .int (nI N)), (7, .int s), (8, .int x8), (9, .int x9), (16, .int (nI (c2 + if G.1.1 29 i = 2 then 1 else 0))), (17, .int (nI c3)), (18, .int (nI i)), (19, .int (G.1.1 29 i)), (20, .int (nI (m_pk G.1 i 3)))] [] S m_Qf := by
      refine w_L_law_669 o _ _ _ _ _ _ _ _ _ _ S _ ⟨fun n3 => ?_, fun w3 => ?_⟩
      · rw [if_neg n3] at g685
        rw [Int32.add_zero]; exact g685
      · rw [if_pos w3, nI_succ] at g685
        exact g685
    refine w_L_law_616 o _ _ _ _ _ _ _ _ _ _ _ S _ ⟨fun _ => ⟨fun n2 => ?_, fun w2 => ?_⟩, fun hc => absurd (by decide) hc⟩
    · rw [if_neg n2] at g669
      rw [Int32.add_zero]; exact g669
    · rw [if_pos w2, nI_succ] at g669
      exact g669
  · intro p hp ih
    rw [nI_succ p] at ih
    obtain ⟨a1, a2⟩ := z_q16 i hi
    refine w_L_law_616 o _ _ _ _ _ _ _ _ _ _ _ S _ ⟨fun hc => absurd hc (nI_ge (a := p) (b := 3) hp (by omega)), fun _ => ?_⟩
    rw [a1]
    have e : m_pk G.1 i (p + 1) = m_pk G.1 i p + if (m_R G.1 (i % 4))[p]? = some i then 1 else 0 := rfl
    rw [e] at ih
    refine d_place hB h (r := i % 4) (k := p) (by omega) hp _ ⟨fun hne => ?_, fun he => ?_⟩
    · have : ¬ (m_R G.1 (i % 4))[p]? = some i := fun hc => hne (by rw [hc])
      rw [if_neg this, Nat.add_zero] at ih
      refine w_L_law_647 o _ _ _ _ _ _ _ _ _ _ _ S _ ?_
      rw [Int32.add_zero]; exact ih
    · have : (m_R G.1 (i % 4))[p]? = some i := by
        cases hR : (m_R G.1 (i % 4))[p]? with
        | none => rw [hR] at he; exact absurd he.symm (nI_m1 (by omega))
        | some b =>
          rw [hR] at he
          have hb := (((hal.1.2.1 (i % 4) (by omega)).2 b).1 (List.mem_of_getElem? hR)).1
          rw [(nI_eq (a := b) (b := i) (by omega) (by omega)).1 he]
      rw [if_pos this, nI_succ] at ih
      exact w_L_law_647 o _ _ _ _ _ _ _ _ _ _ _ S _ ih
theorem L_590 (hn : n ≤ 400) (h : c_G (60000 * n) S G) (hst : m_st 0 D V N s G.1) (hsh : m_sh G.1) (hN : N < 100) (hlast : ∀ b, b < 16 → ∀ j, j < 4 → S.1 (23, 0, 0) (4 * b + j) = V b j)
    (hK : zG o 970 mdL_law 1200 [(0, .ref o.2.2.2.2.1), (1, .ref (z_adr o (0, 0, 0))), (2, .ref (z_adr o (23, 0, 0))), (3, .ref (z_adr o (24, 0, 0))), (4, .int 1), (5, .int x5), (6, .int (nI N)), (7, .int s), (8, .int x8), (9, .int x9)] [] S m_Qf) : ∀ i, i ≤ 16 →
    zG o 970 mdL_law 590 [(0, .ref o.2.2.2.2.1), (1, .ref (z_adr o (0, 0, 0))), (2, .ref (z_adr o (23, 0, 0))), (3, .ref (z_adr o (24, 0, 0))), (4, .int 1), (5, .int x5), (6, .int (nI N)), (7, .int s), (8, .int x8), (9, .int x9), (16, .int (nI ((List.range i).countP (fun x => decide (G.1.1 29 x = 2))))), (17, .int (nI ((List.range i).countP (fun x => decide (G.1.1 29 x = 3))))), (18, .int (nI i))] [] S m_Qf := by
  have hrl : m_rl G.1 := hst.2.2.2.2.2.2
  intro i hi
  refine z_down 16 (fun i => zG o 970 mdL_law 590 [(0, .ref o.2.2.2.2.1), (1, .ref (z_adr o (0, 0, 0))), (2, .ref (z_adr o (23, 0, 0))), (3, .ref (z_adr o (24, 0, 0))), (4, .int 1), (5, .int x5), (6, .int (nI N)), (7, .int s), (8, .int x8), (9, .int x9), (16, .int (nI ((List.range i).countP (fun x => decide (G.1.1 29 x = 2))))), (17, .int (nI ((List.range i).countP (fun x => decide (G.1.1 29 x = 3))))), (18, .int (nI i))] [] S m_Qf) ?_ ?_ i hi
  · have g := L_950 hn h hst hsh hN hK 0 (Nat.zero_le _)
    rw [F_len h.1.2.1] at g
    refine w_L_law_590 o _ _ _ _ _ _ _ _ S _ ⟨fun _ => ?_, fun hc => absurd (by decide) hc⟩
    exact L_852 hn h hrl g 0 (by omega)
  · intro i hi ih
    rw [List.range_succ, List.countP_append, List.countP_append, List.countP_singleton, List.countP_singleton] at ih
    simp only [decide_eq_true_eq] at ih
    rw [nI_succ i] at ih
    refine w_L_law_590 o _ _ _ _ _ _ _ _ S _ ⟨fun hc => absurd hc (nI_ge (a := i) (b := 16) hi (by omega)), fun _ => ?_⟩
    refine d_where h hi _ ?_
    exact L_616 hn h hrl hi (L_711 hn h hst hlast hi ih 0 (by omega)) 0 (by omega)
theorem L_581 (hn : n ≤ 400) (h : c_G (60000 * n) S G) (hst : m_st 0 D V N s G.1) (hsh : m_sh G.1) (hN : N < 100) (hlast : ∀ b, b < 16 → ∀ j, j < 4 → S.1 (23, 0, 0) (4 * b + j) = V b j)
    (hK : zG o 970 mdL_law 1200 [(0, .ref o.2.2.2.2.1), (1, .ref (z_adr o (0, 0, 0))), (2, .ref (z_adr o (23, 0, 0))), (3, .ref (z_adr o (24, 0, 0))), (4, .int 1), (5, .int x5), (6, .int (nI N)), (7, .int s), (8, .int x8), (9, .int x9)] [] S m_Qf) : zG o 970 mdL_law 581 [(0, .ref o.2.2.2.2.1), (1, .ref (z_adr o (0, 0, 0))), (2, .ref (z_adr o (23, 0, 0))), (3, .ref (z_adr o (24, 0, 0))), (4, .int 1), (5, .int x5), (6, .int (nI N)), (7, .int s), (8, .int x8), (9, .int x9)] [] S m_Qf :=
  w_L_law_581 o _ _ _ _ _ S _ (L_590 hn h hst hsh hN hlast hK 0 (by omega))
end CH
