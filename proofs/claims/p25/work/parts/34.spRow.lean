/-- the boxes of row r that were looked at, those that are near -/
def c_L (A : mS) (r k : Nat) : List Nat := ((List.range k).map (fun j => r + 4 * j)).filter (fun b => A.1 29 b = 1)
theorem c_L_succ (A : mS) (r k : Nat) : c_L A r (k + 1) = if A.1 29 (r + 4 * k) = 1 then c_L A r k ++ [r + 4 * k] else c_L A r k := by
  simp only [c_L, List.range_succ, List.map_append, List.map_cons, List.map_nil, List.filter_append]
  by_cases h : A.1 29 (r + 4 * k) = 1
  · simp [h]
  · simp [h]
theorem c_L_len (A : mS) (r : Nat) (k : Nat) : (c_L A r k).length ≤ k := by
  have := List.length_filter_le (fun b => decide (A.1 29 b = 1)) ((List.range k).map (fun j => r + 4 * j))
  simpa [c_L] using this
theorem c_L_all {A : mS} {r : Nat} (hr : r < 4) (hnd : (m_R A r).Nodup) (hm : ∀ b, b ∈ m_R A r ↔ b < 16 ∧ b % 4 = r ∧ A.1 29 b = 1) : (c_L A r 4).Perm (m_R A r) := by
  refine (List.perm_ext_iff_of_nodup ?_ hnd).mpr (fun b => ?_)
  · refine List.Pairwise.filter _ ?_
    have : (List.range 4).map (fun j => r + 4 * j) = [r, r + 4, r + 8, r + 12] := by simp [List.range_succ]
    rw [this]
    simp
  · rw [hm b]
    have : (List.range 4).map (fun j => r + 4 * j) = [r, r + 4, r + 8, r + 12] := by simp [List.range_succ]
    simp only [c_L, this, List.mem_filter, List.mem_cons, List.not_mem_nil, or_false, decide_eq_true_eq]
    constructor
    · rintro ⟨h1, h2⟩
      exact ⟨by omega, by omega, h2⟩
    · rintro ⟨h1, h2, h3⟩
      exact ⟨by omega, h3⟩
section SPW
variable {o : zW} {n i : Nat}
theorem sp_who (hi : i < 8) (hn : z_sb i + 120 ≤ n) {r : Nat} (hr : r < 4) (S : zS) {A : mS} {U P : Nat} (h : c_R i U S A) (hU : U < 2 ^ 31) (hnd : (m_R A r).Nodup) (hm : ∀ b, b ∈ m_R A r ↔ b < 16 ∧ b % 4 = r ∧ A.1 29 b = 1) (hP : A.1 25 0 = nI P) (hP1 : 1 ≤ P) (hP3 : P ≤ 3) (K : Option Nat → zS → Prop) (hK : K (if (m_R A r).length < P then none else (m_R A r).getLast?) S) : zGq o n mdX2_whoMustGo i [.ref (z_adr o (1, i, 0)), .int (nI r)] S K := by
  obtain ⟨r1, r2, r3, r4, ⟨r5, u, hu, hpw⟩, r6, r7, r8⟩ := h
  have hper := c_L_all hr hnd hm
  have key := z_down 4 (fun k => ∀ x : Option Nat, (∀ m, x = some m → m ∈ c_L A r k ∧ ∀ b ∈ c_L A r k, u m ≤ u b) → (x = none → c_L A r k = []) →
      zG o n mdX2_whoMustGo 13 [(0, .ref (z_adr o (1, i, 0))), (2, va_rf (z_bo o i x)), (3, .int (nI (c_L A r k).length)), (4, .int (nI (r + 4 * k)))] [] S (fun rr S' => ∃ y, rr = some (va_rf (z_bo o i y)) ∧ (∀ b, y = some b → b < 16) ∧ K y S')) ?_ ?_ 0 (by omega) none (fun m hm => by cases hm) (fun _ => rfl)
  · refine w_X2_whoMustGo_0 o n i hi hn _ S _ ⟨fun _ => ?_, fun hc => absurd (nI_pos' (by omega)) hc⟩
    exact key
  · intro x h1 h2
    have hx16 : ∀ b, x = some b → b < 16 := fun b hb => by
      have := (hper.mem_iff.mp (h1 b hb).1)
      exact ((hm b).mp this).1
    refine w_X2_whoMustGo_13 o n i hi hn x hx16 _ _ S _ ⟨fun _ => ?_, fun hc => absurd (nI_le (show 16 ≤ r + 4 * 4 by omega) (by omega)) hc⟩
    have hlen : (c_L A r 4).length = (m_R A r).length := hper.length_eq
    rw [r1.1 0 (by omega), hP, hlen]
    have hl4 : (m_R A r).length ≤ 4 := by rw [← hlen]; exact c_L_len A r 4
    refine ⟨fun hc => ⟨x, rfl, hx16, ?_⟩, fun hc => ⟨none, rfl, (fun b hb => by cases hb), ?_⟩⟩
    · have hc' : P ≤ (m_R A r).length := (nI_leI (by omega) (by omega)).mp hc
      rw [if_neg (by omega)] at hK
      have e : x = (m_R A r).getLast? := by
        cases hx : x with
        | none =>
          have := h2 hx
          rw [this] at hlen
          simp at hlen
          omega
        | some m =>
          obtain ⟨g1, g2⟩ := h1 m hx
          have gm : m ∈ m_R A r := hper.mem_iff.mp g1
          have hne : m_R A r ≠ [] := List.ne_nil_of_mem gm
          obtain ⟨ys, z, hyz⟩ : ∃ ys z, m_R A r = ys ++ [z] := ⟨(m_R A r).dropLast, (m_R A r).getLast hne, (List.dropLast_concat_getLast hne).symm⟩
          have hp := hpw r hr
          rw [hyz] at hp gm
          have hz : z ∈ c_L A r 4 := hper.mem_iff.mpr (by rw [hyz]; simp)
          have hle := g2 z hz
          rw [hyz, List.getLast?_append]
          simp only [List.getLast?_singleton, Option.some_or]
          rcases List.mem_append.mp gm with hmy | hmz
          · have := (List.pairwise_append.mp hp).2.2 m hmy z (by simp)
            omega
          · have : m = z := by simpa using hmz
            rw [this]
      rw [e]; exact hK
    · have hc' : ¬ P ≤ (m_R A r).length := fun q => hc ((nI_leI (by omega) (by omega)).mpr q)
      rw [if_pos (by omega)] at hK
      exact hK
  · intro k hk ih x h1 h2
    have hb16 : r + 4 * k < 16 := by omega
    have hLk := c_L_len A r k
    have hx16 : ∀ b, x = some b → b < 16 := fun b hb => by
      have := (h1 b hb).1
      simp only [c_L, List.mem_filter, List.mem_map, List.mem_range] at this
      obtain ⟨⟨j, hj, rfl⟩, -⟩ := this
      omega
    refine w_X2_whoMustGo_13 o n i hi hn x hx16 _ _ S _ ⟨fun hc => absurd hc (z_ge (show r + 4 * k < 16 by omega) (by decide)), fun _ => ⟨z_in hb16 (by omega), ?_⟩⟩
    rw [z_cl (by omega), (r3 _ hb16).1]
    have e4 : nI (r + 4 * k) + 4 = nI (r + 4 * (k + 1)) := by rw [show (4 : Int32) = nI 4 from rfl, nI_add]; congr 1
    rw [e4]
    rw [c_L_succ] at ih
    refine ⟨fun hc => ?_, fun hc => ⟨fun hx => ?_, fun b5 hx => ⟨fun hl => ?_, fun hl => ?_⟩⟩⟩
    · rw [if_neg hc] at ih
      exact ih x h1 h2
    · rw [if_pos hc] at ih
      have hL := h2 hx
      have := ih (some (r + 4 * k)) (fun m hm => by cases hm; rw [hL]; simp) (fun hn => by cases hn)
      rw [List.length_append, List.length_singleton, nI_succ] at this
      exact this
    · rw [if_pos hc] at ih
      obtain ⟨g1, g2⟩ := h1 b5 hx
      have hb5 := hx16 b5 hx
      rw [(hu b5 hb5).1, (hu _ hb16).1] at hl
      have hl' : u b5 ≤ u (r + 4 * k) := (nI_leI (by have := (hu b5 hb5).2; omega) (by have := (hu _ hb16).2; omega)).mp hl
      have := ih (some b5) (fun m hm => by
        cases hm
        refine ⟨List.mem_append_left _ g1, fun b hb => ?_⟩
        rcases List.mem_append.mp hb with q | q
        · exact g2 b q
        · have : b = r + 4 * k := by simpa using q
          rw [this]; exact hl') (fun hn => by cases hn)
      rw [List.length_append, List.length_singleton, nI_succ] at this
      exact this
    · rw [if_pos hc] at ih
      obtain ⟨g1, g2⟩ := h1 b5 hx
      have hb5 := hx16 b5 hx
      rw [(hu b5 hb5).1, (hu _ hb16).1] at hl
      have hl' : u (r + 4 * k) < u b5 := by
        have : ¬ u b5 ≤ u (r + 4 * k) := fun q => hl ((nI_leI (by have := (hu b5 hb5).2; omega) (by have := (hu _ hb16).2; omega)).mpr q)
        omega
      have := ih (some (r + 4 * k)) (fun m hm => by
        cases hm
        refine ⟨by simp, fun b hb => ?_⟩
        rcases List.mem_append.mp hb with q | q
        · have := g2 b q; omega
        · have : b = r + 4 * k := by simpa using q
          rw [this]; exact Nat.le_refl _) (fun hn => by cases hn)
      rw [List.length_append, List.length_singleton, nI_succ] at this
      exact this
end SPW
