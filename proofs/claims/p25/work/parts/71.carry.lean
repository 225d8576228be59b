/-! startTrial, carryOut -/
theorem z_hn {i : Nat} (hi : i < 8) : z_sb i + 120 ≤ 970 := by unfold z_sb; split <;> omega
section SPT
variable {o : zW} {n i : Nat}
theorem sp_isBox (x : Int32) (S : zS) (K : Int32 → zS → Prop) (h1 : ∀ b, b < 16 → x = nI b → K 1 S) (h0 : (x < 0 ∨ 16 ≤ x) → K 0 S) : zGi o 970 mdX4_isBox [.int x] S K := by
  refine w_X4_isBox_0 o x S _ ⟨fun h => ⟨_, rfl, h0 (Or.inl h)⟩, fun h => ⟨fun h2 => ⟨_, rfl, h0 (Or.inr h2)⟩, fun h2 => ⟨_, rfl, ?_⟩⟩⟩
  obtain ⟨b, hb, e⟩ := nI_of h
  refine h1 b ?_ e
  rcases Nat.lt_or_ge b 16 with g | g
  · exact g
  · exact absurd (by rw [e]; exact nI_le (a := 16) g hb) h2
theorem sp_isItem (x : Int32) (S : zS) (K : Int32 → zS → Prop) (h1 : ∀ b, b < 4 → x = nI b → K 1 S) (h0 : (x < 0 ∨ 4 ≤ x) → K 0 S) : zGi o 970 mdX4_isItem [.int x] S K := by
  refine w_X4_isItem_0 o x S _ ⟨fun h => ⟨_, rfl, h0 (Or.inl h)⟩, fun h => ⟨fun h2 => ⟨_, rfl, h0 (Or.inr h2)⟩, fun h2 => ⟨_, rfl, ?_⟩⟩⟩
  obtain ⟨b, hb, e⟩ := nI_of h
  refine h1 b ?_ e
  rcases Nat.lt_or_ge b 4 with g | g
  · exact g
  · exact absurd (by rw [e]; exact nI_le (a := 4) g hb) h2
/-- A trial: what is told, but fetches; the rest as it happens to lie there -/
def c_try (S : zS) (i : Nat) (A : mS) (f : Nat) : mS := (fun q t => if q = 25 then (if t = 2 then nI f else A.1 25 t) else if q = 27 then S.1 (7, i, t / 4) (t % 4) else A.1 q t, A.2)
theorem sp_startTrial {i2 B : Nat} (hi : i < 8) (hi2 : i2 < 8) (hne : i ≠ i2) (S : zS) {A : mS} (h : c_H i2 B S A) {f : Nat} (hf : 1 ≤ f ∧ f ≤ 4) (K : zS → Prop) (hK : ∀ S', c_H i 0 S' (m_new (c_try S i A f)) → c_fr i S S' → K S') : zGv o 970 mdX2_startTrial [.ref (z_adr o (1, i, 0)), .ref (z_adr o (2, i2, 0)), .int (nI f)] S K := by
  refine w_X2_startTrial_0 o 970 i hi (z_hn hi) i2 hi2 (z_hn hi2) _ S _ ?_
  generalize hS1 : sI (sC S (2, i2, 0) (2, i, 0) 0 0 5) (2, i, 0) 2 (nI f) = S1
  have f1 : c_fr i S S1 := by
    rw [← hS1]
    exact ((c_fr_rf i S).C (2, i2, 0) 2 0 0 0 5 (by omega)).I 2 0 2 _ (by omega)
  refine sp_renew hi (z_hn hi) S1 _ ⟨rfl, hK _ ⟨⟨0, Nat.zero_le _, cr_renew hi S1 (A := c_try S i A f) (fun j hj => ?_) (fun b hb j hj => ?_)⟩, al_new ?_⟩ (fr_renew f1)⟩
  · rw [← hS1]
    have := h.1
    obtain ⟨U, -, hR⟩ := this
    by_cases e : j = 2
    · subst e; simp [sI, c_try]
    · simp [sI, sC, c_try, e, hj, hR.1.1 j hj]
  · have e4 : (4 * b + j) / 4 = b := m_d4 hj
    have e5 : (4 * b + j) % 4 = j := m_m4 hj
    rw [← hS1]
    simp [sI, sC, c_try, e4, e5]
  · obtain ⟨l1, l2, l3, l4, l5⟩ := h.2.1.1
    refine ⟨?_, ?_, ⟨f, ?_, hf⟩, ?_, ?_⟩
    · simpa [c_try] using l1
    · simpa [c_try] using l2
    · simp [c_try]
    · simpa [c_try] using l4
    · simpa [c_try] using l5
def c_ord (S : zS) (k : Nat) (x : mO) : Prop := match x with
  | .inl m => S.1 (18, 0, 0) k = -2 ∧ S.1 (20, 0, 0) k = nI m
  | .inr none => S.1 (18, 0, 0) k = -1
  | .inr (some (b, j, v)) => S.1 (18, 0, 0) k = nI b ∧ S.1 (19, 0, 0) k = nI j ∧ S.1 (20, 0, 0) k = v.getD (-1)
def c_ords (S : zS) (l : List mO) : Prop := S.1 (16, 0, 0) 5 = nI l.length ∧ l.length ≤ 60 ∧ ∀ k x, l[k]? = some x → c_ord S k x
theorem ords_fr {S S' : zS} {l : List mO} (h : c_ords S l) (hf : c_fr i S S') : c_ords S' l := by
  have e : ∀ k, 16 ≤ k → k ≤ 20 → S'.1 (k, 0, 0) = S.1 (k, 0, 0) := fun k h1 h2 => (hf (k, 0, 0) (fun hc => by have := hc.2.1; simp only at this; omega)).1
  refine ⟨by rw [e 16 (by omega) (by omega)]; exact h.1, h.2.1, fun k x hk => ?_⟩
  have := h.2.2 k x hk
  unfold c_ord at this ⊢
  rw [e 18 (by omega) (by omega), e 19 (by omega) (by omega), e 20 (by omega) (by omega)]
  exact this
theorem z_ar4 {B c k l N : Nat} (h : B + c * l ≤ N) (hk : k < l) : B + c * k + c ≤ N ∧ B + c * k + c = B + c * (k + 1) := by
  have : c * (k + 1) ≤ c * l := Nat.mul_le_mul_left c hk
  rw [Nat.mul_add, Nat.mul_one] at this ⊢
  omega
theorem sp_carryOut (hi : i < 8) (S : zS) {A : mS} {B : Nat} (h : c_H i B S A) {l : List mO} (hl : c_ords S l) (hok : ∀ x ∈ l, m_ook x) (hB : B + 1000 * l.length ≤ m_BB) (K : zS → Prop) (hK : ∀ S', c_H i (B + 1000 * l.length) S' (l.foldl m_exec A) → c_fr i S S' → K S') : zGv o 970 mdX2_carryOut [.ref (z_adr o (1, i, 0)), .ref (z_adr o (16, 0, 0))] S K := by
  refine w_X2_carryOut_0 o i hi S _ ?_
  have hl60 := hl.2.1
  refine z_down l.length (fun k => ∀ S', c_H i (B + 1000 * k) S' ((l.take k).foldl m_exec A) → c_fr i S S' → zG o 970 mdX2_carryOut 2 [(0, .ref (z_adr o (1, i, 0))), (1, .ref (z_adr o (16, 0, 0))), (2, .int (nI k))] [] S' (fun r S'' => r = none ∧ K S'')) ?_ ?_ 0 (by omega) S h (c_fr_rf i S)
  · intro S' h' f'
    have hl' := ords_fr hl f'
    refine w_X2_carryOut_2 o i hi _ S' _ ⟨fun _ => ⟨rfl, hK S' ?_ f'⟩, fun hc => absurd ?_ hc⟩
    · rw [List.take_length] at h'; exact h'
    · rw [hl'.1]; exact Int32.le_refl _
  · intro k hk ih S' h' f'
    have hl' := ords_fr hl f'
    obtain ⟨b1, b2⟩ := z_ar4 hB hk
    obtain ⟨x, hx⟩ : ∃ x, l[k]? = some x := ⟨l[k], List.getElem?_eq_getElem hk⟩
    have hxm : x ∈ l := List.mem_of_getElem? hx
    have hxo := hok x hxm
    have hor := hl'.2.2 k x hx
    have htake : (l.take (k + 1)).foldl m_exec A = m_exec ((l.take k).foldl m_exec A) x := by
      rw [List.take_add_one, hx]
      simp [List.foldl_append]
    have ih' := fun S'' (h2 : c_H i (B + 1000 * k + 1000) S'' (m_exec ((l.take k).foldl m_exec A) x)) f2 => ih S'' (by rw [htake, ← b2]; exact h2) f2
    have e1 : nI k + 1 = nI (k + 1) := (nI_succ k).symm
    refine w_X2_carryOut_2 o i hi _ S' _ ⟨fun hc => absurd hc (by rw [hl'.1]; exact z_ge hk (by omega)), fun _ => ⟨fun hc => absurd hc (z_ge (a := k) (b := 60) (by omega) (by decide)), fun _ => ⟨z_in (by omega) (by omega), ?_⟩⟩⟩
    rw [z_cl (by omega), e1]
    obtain m | q := x
    · obtain ⟨o1, o2⟩ := hor
      refine ⟨fun hne => absurd o1 hne, fun _ => ⟨z_in (by omega) (by omega), ?_⟩⟩
      rw [o2]
      exact sp_pause hi (z_hn hi) hxo S' h' b1 _ (fun S'' h2 f2 => ih' S'' h2 (f'.tr f2))
    · obtain _ | ⟨b, j, v⟩ := q
      · have o1 : S'.1 (18, 0, 0) k = -1 := hor
        refine ⟨fun _ => ?_, fun he => absurd (o1.symm.trans he) (by decide)⟩
        rw [o1]
        refine sp_isBox _ S' _ (fun b hb e => absurd (show (nI b) < 0 by rw [← e]; decide) (nI_pos (by omega))) (fun _ => ⟨fun _ => ⟨z_in (by omega) (by omega), z_in (by omega) (by omega), ?_⟩, fun hc => absurd rfl hc⟩)
        exact sp_beginF hi (z_hn hi) _ _ S' h' b1 _ (fun S'' h2 f2 => ih' S'' h2 (f'.tr f2))
      · obtain ⟨o1, o2, o3⟩ := hor
        obtain ⟨q1, q2, q3⟩ := hxo b j v rfl
        refine ⟨fun _ => ?_, fun he => absurd (o1.symm.trans he) ?_⟩
        · rw [o1]
          refine sp_isBox _ S' _ (fun b' hb e => ⟨fun hc => absurd hc (by decide), fun _ => ⟨z_in q1 (by omega), z_in (by omega) (by omega), z_in (by omega) (by omega), ?_⟩⟩) (fun hc => ?_)
          · rw [z_cl (by omega), o2, o3]
            exact sp_begin hi (z_hn hi) q1 q2 v q3 S' h' b1 _ (fun S'' h2 f2 => ih' S'' h2 (f'.tr f2))
          · exfalso
            rcases hc with hc | hc
            · exact nI_pos (by omega) hc
            · exact z_ge (a := b) (b := 16) q1 (by decide) hc
        · intro e
          have := nI_pos (n := b) (by omega)
          rw [e] at this
          exact this (by decide)
end SPT
