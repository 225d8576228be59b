/-! what is asked of the class changes nothing -/
section OBS
variable {o : zW} {B : Nat} {S : zS} {G : mG}
theorem d_often (h : c_G B S G) {k : Nat} (hk : k < 10) (K : Int32 → zS → Prop) (hK : K (G.1.1 40 k) S) : zGi o 970 mdX4_often [.ref (z_adr o (0, 0, 0)), .int (nI k)] S K := by
  obtain ⟨⟨U, hU, hR⟩, hal⟩ := h.1
  refine w_X4_often_0 o _ S _ ⟨fun h0 => absurd h0 (nI_pos (by omega)), fun h0 => ⟨fun h10 => ⟨z_in hk (by omega), _, rfl, ?_⟩, fun h10 => absurd (nI_lt (a := k) (b := 10) hk (by omega)) h10⟩⟩
  rw [z_cl (by omega), hR.1.2.1 k hk]
  exact hK
theorem d_where (h : c_G B S G) {b : Nat} (hb : b < 16) (K : Int32 → zS → Prop) (hK : K (G.1.1 29 b) S) : zGi o 970 mdX4_where [.ref (z_adr o (0, 0, 0)), .int (nI b)] S K := by
  obtain ⟨⟨U, hU, hR⟩, hal⟩ := h.1
  refine w_X4_where_0 o _ S _ (sp_isBox (nI b) S _ (fun b' hb' e => ⟨fun _ => ⟨z_in hb (by omega), _, rfl, ?_⟩, fun hc => absurd hc (by decide)⟩) (fun hc => hc.elim (fun hc => absurd hc (nI_pos (by omega))) (fun hc => absurd hc (nI_ge (a := b) (b := 16) hb (by omega)))))
  rw [z_cl (by omega), (hR.2.2.1 b hb).1]
  exact hK
theorem d_place (hB : B + 60000 ≤ m_BB) (h : c_G B S G) {r k : Nat} (hr : r < 4) (hk : k < 3) (K : Int32 → zS → Prop) (hK : K (match (m_R G.1 r)[k]? with | some b => nI b | none => -1) S) : zGi o 970 mdX4_place [.ref (z_adr o (0, 0, 0)), .int (nI r), .int (nI k)] S K := by
  unfold m_BB at hB
  obtain ⟨⟨U, hU, hR⟩, hal⟩ := h.1
  refine w_X4_place_0 o _ _ S _ ⟨fun c => absurd c (nI_pos (by omega)), fun c1 => ⟨fun c => absurd c (nI_ge (a := r) (b := 4) hr (by omega)), fun c2 => ⟨fun c => absurd c (nI_pos (by omega)), fun c3 => ⟨fun c => ?_, fun c => absurd (nI_lt (a := k) (b := 3) hk (by omega)) c⟩⟩⟩⟩
  exact sp_boxInPlace (by omega) (z_hn (by omega)) hr hk S hR (by omega) hal.1.2.1 _ ⟨_, rfl, hK⟩
theorem d_got (hB : B + 60000 ≤ m_BB) (h : c_G B S G) {k w : Nat} (hk : k < 2 ^ 31) (hw : w < 3) (K : Int32 → zS → Prop) (hK : K (if k < min (m_N G.1) 200 then G.1.1 (41 + w) k else -1) S) : zGi o 970 mdX4_got [.ref (z_adr o (0, 0, 0)), .int (nI k), .int (nI w)] S K := by
  unfold m_BB at hB
  obtain ⟨⟨U, hU, hR⟩, hal⟩ := h.1
  have r8 := hR.2.2.2.2.2.2.2
  have hN : m_N G.1 < 2 ^ 31 := by
    have a1 := hal.2.2.1.2
    have a2 := hal.2.2.2.1.2
    omega
  refine w_X4_got_0 o _ _ S _ ⟨fun h0 => absurd h0 (nI_pos hk), fun h0 => ⟨fun h2 => absurd h2 (nI_pos (by omega)), fun h2 => ⟨fun h22 => ?_, fun h22 => absurd (nI_le (a := w) (b := 2) (by omega) (by omega)) h22⟩⟩⟩
  rw [r8.1]
  refine ⟨fun hc => ?_, fun hc => ?_⟩
  · have : ¬ k < min (m_N G.1) 200 := by have := (nI_leI (a := min (m_N G.1) 200) (b := k) (by omega) hk).1 hc; omega
    rw [if_neg this] at hK
    exact ⟨_, rfl, hK⟩
  · have hk2 : k < min (m_N G.1) 200 := by
      rcases Nat.lt_or_ge k (min (m_N G.1) 200) with g | g
      · exact g
      · exact absurd (nI_le g hk) hc
    obtain ⟨a1, a2, a3⟩ := r8.2.2.2.2.2 k (by omega) (by omega)
    rw [if_pos hk2] at hK
    refine ⟨fun _ => ?_, fun hc => absurd (nI_lt (a := k) (b := 200) (by omega) (by omega)) hc⟩
    rw [z_cl hk, a1, a2, a3]
    refine ⟨fun n0 => ⟨fun n1 => ⟨z_in (by omega) (by omega), _, rfl, ?_⟩, fun e1 => ⟨z_in (by omega) (by omega), _, rfl, ?_⟩⟩, fun e0 => ⟨z_in (by omega) (by omega), _, rfl, ?_⟩⟩
    · have : w = 2 := by
        have a : w ≠ 0 := fun e => n0 (by rw [e]; rfl)
        have b : w ≠ 1 := fun e => n1 (by rw [e]; rfl)
        omega
      subst this; exact hK
    · have : w = 1 := (nI_eq (b := 1) (by omega) (by omega)).1 e1
      subst this; exact hK
    · have : w = 0 := (nI_eq (b := 0) (by omega) (by omega)).1 e0
      subst this; exact hK
def m_ftv (A : mS) (k w : Nat) : Int32 := match (m_F A)[k]? with
  | some b => if w = 0 then nI b else if w = 1 then A.1 30 b - A.1 40 9 else nI (m_Q A b).length
  | none => -1
theorem d_fetch (hB : B + 60000 ≤ m_BB) (h : c_G B S G) {k w : Nat} (hk : k < 2 ^ 31) (hw : w < 3) (K : Int32 → zS → Prop) (hK : K (m_ftv G.1 k w) S) : zGi o 970 mdX4_fetch [.ref (z_adr o (0, 0, 0)), .int (nI k), .int (nI w)] S K := by
  unfold m_BB at hB
  have hH := h.1
  obtain ⟨⟨U, hU, hR⟩, hal⟩ := h.1
  refine w_X4_fetch_0 o _ _ S _ ⟨fun h0 => absurd h0 (nI_pos hk), fun h0 => ⟨fun h2 => absurd h2 (nI_pos (by omega)), fun h2 => ⟨fun h22 => ?_, fun h22 => absurd (nI_le (a := w) (b := 2) (by omega) (by omega)) h22⟩⟩⟩
  unfold m_ftv at hK
  refine sp_boxOfFetch (by omega) (z_hn (by omega)) hk S hH (by omega) _ ⟨fun hn => ?_, fun b hb => ?_⟩
  · rw [hn] at hK; exact ⟨_, rfl, hK⟩
  · rw [hb] at hK
    have hbF : b ∈ m_F G.1 := List.mem_of_getElem? hb
    obtain ⟨hb16, -, hb3⟩ := (hal.1.2.2.1.2.1 b).1 hbF
    have a4 := (hR.2.2.2.1 b hb16).1
    have a3 := (hR.2.2.1 b hb16).2.2
    rw [if_pos (Or.inr hb3)] at a3
    have a9 := hR.1.2.1 9 (by omega)
    rw [a4, a3, a9]
    refine ⟨fun n0 => ⟨fun n1 => ⟨_, rfl, ?_⟩, fun e1 => ⟨_, rfl, ?_⟩⟩, fun e0 => ⟨_, rfl, ?_⟩⟩
    · have : w = 2 := by
        have a : w ≠ 0 := fun e => n0 (by rw [e]; rfl)
        have b : w ≠ 1 := fun e => n1 (by rw [e]; rfl)
        omega
      subst this; exact hK
    · have : w = 1 := (nI_eq (b := 1) (by omega) (by omega)).1 e1
      subst this; exact hK
    · have : w = 0 := (nI_eq (b := 0) (by omega) (by omega)).1 e0
      subst this; exact hK
def m_itm (A : mS) (b j w : Nat) : Int32 := if w = 0 then A.1 26 (4 * b + j) else if w = 1 then m_val A b j else m_bit (A.1 28 b) j
theorem d_item (h : c_G B S G) {b j w : Nat} (hb : b < 16) (hj : j < 4) (hw : w < 3) (K : Int32 → zS → Prop) (hK : K (m_itm G.1 b j w) S) : zGi o 970 mdX4_item [.ref (z_adr o (0, 0, 0)), .int (nI b), .int (nI j), .int (nI w)] S K := by
  obtain ⟨⟨U, hU, hR⟩, hal⟩ := h.1
  unfold m_itm at hK
  rw [← val_item hal.1 hb j] at hK
  refine w_X4_item_0 o _ _ _ S _ (sp_isBox (nI b) S _ (fun b' _ _ => ⟨fun hc => absurd hc (by decide), fun _ => ?_⟩) (fun hc => hc.elim (fun hc => absurd hc (nI_pos (by omega))) (fun hc => absurd hc (nI_ge (a := b) (b := 16) hb (by omega)))))
  refine sp_isItem (nI j) S _ (fun j' _ _ => ⟨fun hc => absurd hc (by decide), fun _ => ⟨fun c1 => absurd c1 (nI_pos (by omega)), fun c1 => ⟨fun c2 => ?_, fun c2 => absurd (nI_le (a := w) (b := 2) (by omega) (by omega)) c2⟩⟩⟩) (fun hc => hc.elim (fun hc => absurd hc (nI_pos (by omega))) (fun hc => absurd hc (nI_ge (a := j) (b := 4) hj (by omega))))
  rw [z_cl (by omega), z_cl (by omega)]
  obtain ⟨a6, a7⟩ := hR.2.1 b hb j hj
  obtain ⟨a8, a9, -⟩ := hR.2.2.1 b hb
  obtain ⟨q7, qk⟩ := hR.2.2.2.1 b hb
  have hok := (hal.1.2.2.2.1.2 b hb).1
  refine ⟨z_in hb (by omega), fun n0 => ⟨fun n1 => ?_, fun e1 => ?_⟩, fun e0 => ⟨z_in hj (by omega), ?_⟩⟩
  · have hw2 : w = 2 := by
      have a : w ≠ 0 := fun e => n0 (by rw [e]; rfl)
      have b : w ≠ 1 := fun e => n1 (by rw [e]; rfl)
      omega
    subst hw2
    refine sp_changedBit (by omega) (z_hn (by omega)) hb j S _ ?_
    rw [a9]
    exact ⟨_, rfl, hK⟩
  · have hw1 : w = 1 := (nI_eq (b := 1) (by omega) (by omega)).1 e1
    subst hw1
    refine sp_valueAtLast (by omega) (z_hn (by omega)) hb hj S q7 hok.1 _ ?_
    rw [a8, a7, last_eq a6 qk hok hj _ (Nat.le_refl _), List.take_length]
    exact ⟨_, rfl, hK⟩
  · have hw0 : w = 0 := (nI_eq (b := 0) (by omega) (by omega)).1 e0
    subst hw0
    rw [a6]
    exact ⟨_, rfl, hK⟩
theorem zGi.po {d : zD} {As : List Value} {n : Nat} {K1 K2 : Int32 → zS → Prop} (h : zGi o n d As S K1) (hk : ∀ x S', K1 x S' → K2 x S') : zGi o n d As S K2 :=
  zG.mono h (fun r S' hr => by obtain ⟨x, e, hx⟩ := hr; exact ⟨x, e, hk x S' hx⟩)
end OBS
