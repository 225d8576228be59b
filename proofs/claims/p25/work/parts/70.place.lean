/-! boxInPlace, boxOfFetch -/
/-- in a list in order, how many stand before one: its place -/
theorem idx_count (f : Nat → Nat → Bool) : ∀ (l : List Nat), l.Pairwise (fun a c => f a c = true ∧ f c a = false) → ∀ (hirr : ∀ a, f a a = false) (p b : Nat), l[p]? = some b → l.countP (fun c => f c b) = p := by
  intro l
  induction l with
  | nil => intro _ _ p b h; simp at h
  | cons x l ih =>
    intro hp hirr p b h
    obtain ⟨h1, h2⟩ := List.pairwise_cons.1 hp
    cases p with
    | zero =>
      simp only [List.getElem?_cons_zero, Option.some.injEq] at h
      subst h
      rw [List.countP_cons_of_neg (p := fun c => f c x) (by rw [hirr]; simp)]
      rw [List.countP_eq_zero]
      intro c hc
      rw [(h1 c hc).2]; simp
    | succ p =>
      rw [List.getElem?_cons_succ] at h
      have hm : b ∈ l := List.mem_of_getElem? h
      rw [List.countP_cons_of_pos (p := fun c => f c b) (h1 b hm).1, ih h2 hirr p b h]
theorem idx_of {f : Nat → Nat → Bool} {l : List Nat} (hp : l.Pairwise (fun a c => f a c = true ∧ f c a = false)) (hirr : ∀ a, f a a = false) {b k : Nat} (hb : b ∈ l) : l.countP (fun c => f c b) = k ↔ l[k]? = some b := by
  obtain ⟨p, hp2⟩ := List.getElem?_of_mem hb
  have e := idx_count f l hp hirr p b hp2
  constructor
  · intro h; rw [e] at h; subst h; exact hp2
  · intro h; exact idx_count f l hp hirr k b h
section SPP
variable {o : zW} {n i : Nat}
theorem sp_boxInPlace (hi : i < 8) (hn : z_sb i + 120 ≤ n) {r : Nat} (hr : r < 4) {k : Nat} (hk3 : k < 3) (S : zS) {A : mS} {U : Nat} (h : c_R i U S A) (hU : U < 2 ^ 31) (hrow : m_row A) (K : Int32 → zS → Prop) (hK : K (match (m_R A r)[k]? with | some b => nI b | none => -1) S) : zGi o n mdX2_boxInPlace [.ref (z_adr o (1, i, 0)), .int (nI r), .int (nI k)] S K := by
  obtain ⟨r1, r2, r3, r4, ⟨r5, u, hu, hpw⟩, r6, r7, r8⟩ := h
  obtain ⟨hnd, hm⟩ := hrow r hr
  have hper := c_L_all hr hnd hm
  have hp : (m_R A r).Pairwise (fun a c => decide (u c < u a) = true ∧ decide (u a < u c) = false) := (hpw r hr).imp (fun {a c} hac => ⟨by simpa using hac, by simp; omega⟩)
  have hidx : ∀ m, m < 4 → A.1 29 (r + 4 * m) = 1 → ((c_L A r 4).countP (fun c => decide (u (r + 4 * m) < u c)) = k ↔ (m_R A r)[k]? = some (r + 4 * m)) := by
    intro m hm4 hw
    rw [hper.countP_eq]
    exact idx_of (f := fun c b => decide (u b < u c)) hp (fun a => by simp) ((hm _).2 ⟨by omega, by omega, hw⟩)
  refine w_X2_boxInPlace_0 o n i hi hn _ _ S _ ⟨fun _ => ?_, fun hc => absurd (nI_pos' (by omega)) hc⟩
  refine z_down 4 (fun m => (∀ m', m' < m → (m_R A r)[k]? ≠ some (r + 4 * m')) → zG o n mdX2_boxInPlace 8 [(0, .ref (z_adr o (1, i, 0))), (1, .int (nI r)), (2, .int (nI k)), (3, .int (nI (r + 4 * m)))] [] S (fun rr S' => ∃ y, rr = some (.int y) ∧ K y S')) ?_ ?_ 0 (by omega) (fun m' hm' => absurd hm' (by omega))
  · intro hno
    refine w_X2_boxInPlace_8 o n i hi hn _ _ _ S _ ⟨fun _ => ⟨_, rfl, ?_⟩, fun hc => absurd (nI_le (show 16 ≤ r + 4 * 4 by omega) (by omega)) hc⟩
    have e : (m_R A r)[k]? = none := by
      cases hx : (m_R A r)[k]? with
      | none => rfl
      | some b =>
        exfalso
        obtain ⟨g1, g2, g3⟩ := (hm b).1 (List.mem_of_getElem? hx)
        exact hno (b / 4) (by omega) (by rw [hx]; congr 1; omega)
    rw [e] at hK
    exact hK
  · intro m hm4 ih hno
    refine w_X2_boxInPlace_8 o n i hi hn _ _ _ S _ ⟨fun hc => absurd hc (z_ge (a := r + 4 * m) (b := 16) (by omega) (by decide)), fun _ => ?_⟩
    have e4 : ∀ q, nI (r + 4 * q) + 4 = nI (r + 4 * (q + 1)) := by
      intro q
      rw [show (4 : Int32) = nI 4 from rfl, nI_add]; exact congrArg nI (by omega)
    refine z_down 4 (fun q => zG o n mdX2_boxInPlace 20 [(0, .ref (z_adr o (1, i, 0))), (1, .int (nI r)), (2, .int (nI k)), (3, .int (nI (r + 4 * m))), (4, .int (nI ((c_L A r q).countP (fun c => decide (u (r + 4 * m) < u c))))), (5, .int (nI (r + 4 * q)))] [] S (fun rr S' => ∃ y, rr = some (.int y) ∧ K y S')) ?_ ?_ 0 (by omega)
    · refine w_X2_boxInPlace_20 o n i hi hn _ _ _ _ _ S _ ⟨fun _ => ⟨z_in (by omega) (by omega), ?_⟩, fun hc => absurd (nI_le (show 16 ≤ r + 4 * 4 by omega) (by omega)) hc⟩
      rw [z_cl (by omega), (r3 (r + 4 * m) (by omega)).1, e4 m]
      have hle : (c_L A r 4).countP (fun c => decide (u (r + 4 * m) < u c)) ≤ 4 := Nat.le_trans List.countP_le_length (c_L_len A r 4)
      have nxt : (A.1 29 (r + 4 * m) = 1 → (m_R A r)[k]? ≠ some (r + 4 * m)) → ∀ m', m' < m + 1 → (m_R A r)[k]? ≠ some (r + 4 * m') := by
        intro hx m' hm'
        by_cases e : m' = m
        · subst e
          intro he
          exact hx ((hm _).1 (List.mem_of_getElem? he)).2.2 he
        · exact hno m' (by omega)
      refine ⟨fun hw => ih (nxt (fun hw' => absurd hw' hw)), fun hw => ⟨fun hne => ih (nxt (fun _ he => hne ?_)), fun heq => ⟨_, rfl, ?_⟩⟩⟩
      · rw [(hidx m hm4 hw).2 he]
      · have := (nI_eq (by omega) (by omega)).1 heq
        rw [(hidx m hm4 hw).1 this] at hK
        exact hK
    · intro q hq ih2
      refine w_X2_boxInPlace_20 o n i hi hn _ _ _ _ _ S _ ⟨fun hc => absurd hc (z_ge (a := r + 4 * q) (b := 16) (by omega) (by decide)), fun _ => ⟨z_in (by omega) (by omega), ?_⟩⟩
      rw [z_cl (by omega), z_cl (by omega), (r3 (r + 4 * q) (by omega)).1, e4 q, (hu (r + 4 * q) (by omega)).1, (hu (r + 4 * m) (by omega)).1]
      have b1 := (hu (r + 4 * q) (by omega)).2
      have b2 := (hu (r + 4 * m) (by omega)).2
      rw [c_L_succ] at ih2
      refine ⟨fun hw => ?_, fun hw => ⟨z_in (by omega) (by omega), z_in (by omega) (by omega), fun hle => ?_, fun hgt => ?_⟩⟩
      · rw [if_neg hw] at ih2
        rw [show ∀ x : Int32, x + 0 = x from fun x => Int32.add_zero x]
        exact ih2
      · have hle' := (nI_leI (by omega) (by omega)).1 hle
        rw [if_pos hw, List.countP_append] at ih2
        rw [show ∀ x : Int32, x + 0 = x from fun x => Int32.add_zero x]
        have : ¬ u (r + 4 * m) < u (r + 4 * q) := by omega
        simpa [this] using ih2
      · have hgt' : u (r + 4 * m) < u (r + 4 * q) := by
          rcases Nat.lt_or_ge (u (r + 4 * m)) (u (r + 4 * q)) with g | g
          · exact g
          · exact absurd ((nI_leI (by omega) (by omega)).2 g) hgt
        rw [if_pos hw, List.countP_append] at ih2
        rw [← nI_succ]
        simpa [hgt'] using ih2
/-- the boxes looked at that are being fetched -/
def c_M (A : mS) (k : Nat) : List Nat := (List.range k).filter (fun b => A.1 29 b = 3)
theorem c_M_succ (A : mS) (k : Nat) : c_M A (k + 1) = if A.1 29 k = 3 then c_M A k ++ [k] else c_M A k := by
  simp only [c_M, List.range_succ, List.filter_append]
  by_cases h : A.1 29 k = 3
  · simp [h]
  · simp [h]
theorem c_M_all {A : mS} (h : m_inv 16 A) : (c_M A 16).Perm (m_F A) := by
  refine (List.perm_ext_iff_of_nodup (List.Pairwise.filter _ List.nodup_range) h.2.2.1.1).mpr (fun b => ?_)
  rw [h.2.2.1.2.1 b]
  simp only [c_M, List.mem_filter, List.mem_range, decide_eq_true_eq]
  constructor
  · rintro ⟨h1, h2⟩; exact ⟨h1, by omega, h2⟩
  · rintro ⟨h1, h2, h3⟩; exact ⟨h1, h3⟩
theorem sp_boxOfFetch (hi : i < 8) (hn : z_sb i + 120 ≤ n) {k : Nat} (hk : k < 2 ^ 31) (S : zS) {A : mS} {B : Nat} (h : c_H i B S A) (hB : B < 2 ^ 30) (K : Option Nat → zS → Prop) (hK : K ((m_F A)[k]?) S) : zGq o n mdX2_boxOfFetch i [.ref (z_adr o (1, i, 0)), .int (nI k)] S K := by
  obtain ⟨⟨U, hU, r1, r2, r3, r4, r5, r6, r7, r8⟩, hI, hd, ht, hN, hg, ho⟩ := h
  have ht2 := ht.2
  have hper := c_M_all hI
  have hp : (m_F A).Pairwise (fun a c => decide (m_d A a < m_d A c) = true ∧ decide (m_d A c < m_d A a) = false) := ho.1.imp (fun {a c} hac => ⟨by simpa using hac, by simp; omega⟩)
  have hidx : ∀ b, b < 16 → A.1 29 b = 3 → ((c_M A 16).countP (fun c => decide (m_d A c < m_d A b)) = k ↔ (m_F A)[k]? = some b) := by
    intro b hb hw
    rw [hper.countP_eq]
    exact idx_of (f := fun c b => decide (m_d A c < m_d A b)) hp (fun a => by simp) ((hI.2.2.1.2.1 _).2 ⟨hb, by omega, hw⟩)
  have hdue : ∀ b, b < 16 → A.1 29 b = 3 → S.1 (5, i, b) 10 = nI (m_d A b) ∧ m_d A b < 2 ^ 31 := by
    intro b hb hw
    obtain ⟨d, h1, h2, h3, -⟩ := hd b hb (Or.inr hw)
    have e : m_d A b = d := by unfold m_d; rw [h1, z_cl (by omega)]
    rw [(r3 b hb).2.2, if_pos (Or.inr hw), e]
    exact ⟨h1, by omega⟩
  refine w_X2_boxOfFetch_0 o n i hi hn _ S _ ?_
  refine z_down 16 (fun m => (∀ m', m' < m → (m_F A)[k]? ≠ some m') → zG o n mdX2_boxOfFetch 11 [(0, .ref (z_adr o (1, i, 0))), (1, .int (nI k)), (2, .ref (z_adr o (4, i, 0))), (3, .int 16), (4, .int (nI m))] [] S (fun rr S' => ∃ x, rr = some (va_rf (z_bo o i x)) ∧ (∀ b, x = some b → b < 16) ∧ K x S')) ?_ ?_ 0 (by omega) (fun m' hm' => absurd hm' (by omega))
  · intro hno
    refine w_X2_boxOfFetch_11 o n i hi hn _ _ _ S _ ⟨fun _ => ⟨none, rfl, (fun b e => by cases e), ?_⟩, fun hc => absurd (by decide) hc⟩
    have e : (m_F A)[k]? = none := by
      cases hx : (m_F A)[k]? with
      | none => rfl
      | some b =>
        exfalso
        exact hno b ((hI.2.2.1.2.1 b).1 (List.mem_of_getElem? hx)).1 hx
    rw [e] at hK
    exact hK
  · intro m hm4 ih hno
    refine w_X2_boxOfFetch_11 o n i hi hn _ _ _ S _ ⟨fun hc => absurd hc (z_ge (a := m) (b := 16) hm4 (by decide)), fun _ => ⟨z_in hm4 (by omega), ?_⟩⟩
    rw [z_cl (by omega)]
    have hcnt : A.1 29 m = 3 → (c_M A 16).countP (fun c => decide (¬ S.1 (5, i, m) 10 ≤ S.1 (5, i, c) 10)) = (c_M A 16).countP (fun c => decide (m_d A c < m_d A m)) := by
      intro hw
      refine List.countP_congr (fun c hc => ?_)
      obtain ⟨hc1, hc2⟩ := List.mem_filter.1 hc
      have hc1 := List.mem_range.1 hc1
      have hc2 : A.1 29 c = 3 := by simpa using hc2
      obtain ⟨d1, d2⟩ := hdue c hc1 hc2
      obtain ⟨d3, d4⟩ := hdue m hm4 hw
      rw [d1, d3]
      simp only [decide_eq_true_eq, nI_leI d4 d2, Nat.not_le]
    refine z_down 16 (fun q => zG o n mdX2_boxOfFetch 40 [(0, .ref (z_adr o (1, i, 0))), (1, .int (nI k)), (2, .ref (z_adr o (4, i, 0))), (3, .int 16), (4, .int (nI m)), (5, .ref (z_adr o (5, i, m))), (6, .int (nI ((c_M A q).countP (fun c => decide (¬ S.1 (5, i, m) 10 ≤ S.1 (5, i, c) 10))))), (7, .ref (z_adr o (4, i, 0))), (8, .int 16), (9, .int (nI q))] [] S (fun rr S' => ∃ x, rr = some (va_rf (z_bo o i x)) ∧ (∀ b, x = some b → b < 16) ∧ K x S')) ?_ ?_ 0 (by omega)
    · refine w_X2_boxOfFetch_40 o n i hi hn _ _ _ m hm4 _ _ _ S _ ⟨fun _ => ?_, fun hc => absurd (by decide) hc⟩
      have hle : (c_M A 16).countP (fun c => decide (¬ S.1 (5, i, m) 10 ≤ S.1 (5, i, c) 10)) ≤ 16 := by
        refine Nat.le_trans List.countP_le_length (Nat.le_trans (List.length_filter_le _ _) ?_)
        simp
      have nxt : (A.1 29 m = 3 → (m_F A)[k]? ≠ some m) → ∀ m', m' < m + 1 → (m_F A)[k]? ≠ some m' := by
        intro hx m' hm'
        by_cases e : m' = m
        · subst e
          intro he
          exact hx ((hI.2.2.1.2.1 m').1 (List.mem_of_getElem? he)).2.2 he
        · exact hno m' (by omega)
      rw [(r3 m hm4).1, ← nI_succ]
      refine ⟨fun hw => ih (nxt (fun hw' => absurd hw' hw)), fun hw => ⟨fun hne => ih (nxt (fun _ he => hne ?_)), fun heq => ⟨some m, rfl, (fun b e => by cases e; exact hm4), ?_⟩⟩⟩
      · rw [hcnt hw, (hidx m hm4 hw).2 he]
      · rw [hcnt hw] at heq hle
        have := (nI_eq (by omega) hk).1 heq
        rw [(hidx m hm4 hw).1 this] at hK
        exact hK
    · intro q hq ih2
      refine w_X2_boxOfFetch_40 o n i hi hn _ _ _ m hm4 _ _ _ S _ ⟨fun hc => absurd hc (z_ge (a := q) (b := 16) hq (by decide)), fun _ => ⟨z_in hq (by omega), ?_⟩⟩
      rw [z_cl (by omega), (r3 q hq).1, ← nI_succ q]
      rw [c_M_succ] at ih2
      refine ⟨fun hw => ?_, fun hw => ⟨fun hle => ?_, fun hgt => ?_⟩⟩
      · rw [if_neg hw] at ih2
        rw [show ∀ x : Int32, x + 0 = x from fun x => Int32.add_zero x]
        exact ih2
      · rw [if_pos hw, List.countP_append] at ih2
        rw [show ∀ x : Int32, x + 0 = x from fun x => Int32.add_zero x]
        simpa [hle] using ih2
      · rw [if_pos hw, List.countP_append] at ih2
        rw [← nI_succ]
        have hgt' := Int32.not_le.1 hgt
        simpa [hgt'] using ih2
end SPP
