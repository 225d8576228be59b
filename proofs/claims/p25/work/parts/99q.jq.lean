/-! bits: begun from kit/laws/BITS.to-paste -/
def bt (x : Int32) (i : Nat) : Bool := x.toBitVec.getLsbD i
theorem b_ext {x y : Int32} (h : ∀ i, i < 32 → bt x i = bt y i) : x = y := Int32.toBitVec_inj.mp (BitVec.eq_of_getLsbD_eq (fun i hi => h i hi))
theorem b_or (x y : Int32) (i : Nat) : bt (x ||| y) i = (bt x i || bt y i) := by unfold bt; rw [Int32.toBitVec_or, BitVec.getLsbD_or]
theorem b_and (x y : Int32) (i : Nat) : bt (x &&& y) i = (bt x i && bt y i) := by unfold bt; rw [Int32.toBitVec_and, BitVec.getLsbD_and]
theorem b_0 (i : Nat) : bt 0 i = false := BitVec.getLsbD_zero
theorem s_l : ∀ n, n < 32 → ((nI n &&& 31).toBitVec.smod 32).toNat = n := by decide +kernel
theorem b_shl (n : Nat) (hn : n < 32) (x : Int32) {i : Nat} (hi : i < 32) : bt (x <<< (nI n &&& 31)) i = (decide (n ≤ i) && bt x (i - n)) := by
  unfold bt
  rw [Int32.toBitVec_shiftLeft]
  show (x.toBitVec <<< ((nI n &&& 31).toBitVec.smod 32).toNat).getLsbD i = _
  rw [s_l n hn, BitVec.getLsbD_shiftLeft]
  rcases Nat.lt_or_ge i n with h | h
  · simp [h, Nat.not_le.mpr h]
  · simp [hi, h, Nat.not_lt.mpr h]
theorem b_sshr (n : Nat) (hn : n < 32) (x : Int32) {i : Nat} (hi : i < 32) : bt (x >>> (nI n &&& 31)) i = if n + i < 32 then bt x (n + i) else bt x 31 := by
  unfold bt
  rw [Int32.toBitVec_shiftRight]
  show (x.toBitVec.sshiftRight ((nI n &&& 31).toBitVec.smod 32).toNat).getLsbD i = _
  rw [s_l n hn, BitVec.getLsbD_sshiftRight, BitVec.msb_eq_getLsbD_last]
  simp [hi]
theorem b_1 : ∀ i, i < 32 → bt 1 i = decide (i = 0) := by decide +kernel
theorem bit_bt (x : Int32) {j : Nat} (hj : j < 4) : m_bit x j = if bt x j = true then 1 else 0 := by
  apply b_ext
  intro i hi
  rw [b_and, b_sshr j (by omega) x hi, b_1 i hi]
  by_cases e : i = 0
  · subst e
    rw [if_pos (show j + 0 < 32 by omega), Nat.add_zero]
    cases h : bt x j with
    | true => decide
    | false => decide
  · rw [decide_eq_false e, Bool.and_false]
    split
    · rw [b_1 i hi, decide_eq_false e]
    · rw [b_0]
theorem bt_lay (x : Int32) {i j : Nat} (hi : i < 4) (hj : j < 4) : bt (x ||| (1 : Int32) <<< (nI i &&& 31)) j = (bt x j || decide (i = j)) := by
  rw [b_or, b_shl i (by omega) 1 (by omega), b_1 (j - i) (by omega)]
  congr 1
  by_cases e : i = j
  · subst e; simp
  · rw [decide_eq_false e]
    by_cases e2 : i ≤ j
    · rw [decide_eq_false (show ¬ j - i = 0 by omega), Bool.and_false]
    · rw [decide_eq_false e2, Bool.false_and]
theorem bit_set (x : Int32) {j : Nat} (hj : j < 4) : m_bit (x ||| (1 : Int32) <<< (nI j &&& 31)) j = 1 := by
  rw [bit_bt _ hj, bt_lay x hj hj, if_pos (by simp)]
theorem bit_oth (x : Int32) {i j : Nat} (hi : i < 4) (hj : j < 4) (h : i ≠ j) : m_bit (x ||| (1 : Int32) <<< (nI i &&& 31)) j = m_bit x j := by
  rw [bit_bt _ hj, bit_bt _ hj, bt_lay x hi hj, decide_eq_false h, Bool.or_false]
/-! what is pending, what LOADS got -/
def m_jq (D : Nat → Nat × Int32) (b : Nat) : (Nat → Int32) → List mQ → Prop
  | _, [] => True
  | f, q :: l => (q.2.2.1 = none → D q.2.2.2 = (b, f q.1)) ∧ m_jq D b (m_u1 f q) l
theorem u1_congr {f g : Nat → Int32} (h : ∀ j, j < 4 → f j = g j) (q : mQ) : ∀ j, j < 4 → m_u1 f q j = m_u1 g q j := by
  intro j hj
  unfold m_u1
  cases q.2.2.1 with
  | none => exact h j hj
  | some x => simp only [h j hj]
theorem jq_congr {D : Nat → Nat × Int32} {b : Nat} (l : List mQ) : ∀ {f g : Nat → Int32}, (∀ j, j < 4 → f j = g j) → (∀ q, q ∈ l → q.1 < 4) → m_jq D b f l → m_jq D b g l := by
  induction l with
  | nil => intro f g _ _ _; trivial
  | cons q l ih =>
    intro f g hfg hl h
    exact ⟨fun hq => by rw [← hfg q.1 (hl q List.mem_cons_self)]; exact h.1 hq, ih (u1_congr hfg q) (fun p hp => hl p (List.mem_cons_of_mem _ hp)) h.2⟩
theorem qv_congr (l : List mQ) : ∀ {f g : Nat → Int32}, (∀ j, j < 4 → f j = g j) → ∀ j, j < 4 → m_qv f l j = m_qv g l j := by
  induction l with
  | nil => intro f g h j hj; exact h j hj
  | cons q l ih => intro f g h j hj; exact ih (u1_congr h q) j hj
theorem jq_snoc {D : Nat → Nat × Int32} {b : Nat} (q : mQ) (l : List mQ) : ∀ f : Nat → Int32, m_jq D b f l → (q.2.2.1 = none → D q.2.2.2 = (b, m_qv f l q.1)) → m_jq D b f (l ++ [q]) := by
  induction l with
  | nil => intro f _ hq; exact ⟨hq, trivial⟩
  | cons p l ih => intro f h hq; exact ⟨h.1, ih (m_u1 f p) h.2 hq⟩
theorem qv_snoc (f : Nat → Int32) (l : List mQ) (q : mQ) : m_qv f (l ++ [q]) = m_u1 (m_qv f l) q := by
  unfold m_qv; rw [List.foldl_append]; rfl
theorem jq_own {D : Nat → Nat × Int32} {b : Nat} (l : List mQ) : ∀ f : Nat → Int32, m_jq D b f l → ∀ q, q ∈ l → q.2.2.1 = none → (D q.2.2.2).1 = b := by
  induction l with
  | nil => intro f _ q hq; cases hq
  | cons p l ih =>
    intro f h q hq hv
    rcases List.mem_cons.1 hq with e | hm
    · subst e; rw [h.1 hv]
    · exact ih _ h.2 q hm hv
theorem qv_nn (l : List mQ) : ∀ f : Nat → Int32, (∀ j, j < 4 → 0 ≤ f j) → (∀ q, q ∈ l → ∀ x, q.2.2.1 = some x → 0 ≤ x) → ∀ j, j < 4 → 0 ≤ m_qv f l j := by
  induction l with
  | nil => intro f h _ j hj; exact h j hj
  | cons q l ih =>
    intro f h hl j hj
    refine ih (m_u1 f q) (fun i hi => ?_) (fun p hp => hl p (List.mem_cons_of_mem _ hp)) j hj
    unfold m_u1
    cases hv : q.2.2.1 with
    | none => exact h i hi
    | some x =>
      show 0 ≤ (if q.1 = i then x else f i)
      split
      · exact hl q List.mem_cons_self x hv
      · exact h i hi
def m_ja (A : mS) (b : Nat) (q : mQ) : Prop := q.1 < 4 ∧ (∀ x, q.2.2.1 = some x → 0 ≤ x) ∧ (q.2.2.1 = none → q.2.2.2 < m_N A ∧ A.1 41 q.2.2.2 = -1 ∧ A.1 42 q.2.2.2 = -1) ∧ q.2.1 ≤ m_T A ∧ (A.1 29 b = 3 → m_d A b ≤ q.2.1 + m_L A)
def m_jp (q p : mQ) : Prop := q.2.2.1 = none → p.2.2.1 = none → q.2.2.2 ≠ p.2.2.2
def m_jc (D : Nat → Nat × Int32) (A : mS) (qs : Nat → List mQ) (k : Nat) : Prop := (D k).1 < 16 ∧ 0 ≤ (D k).2 ∧ ((A.1 41 k = -1 ∧ A.1 42 k = -1 ∧ ∃ q, q ∈ qs (D k).1 ∧ q.2.2.1 = none ∧ q.2.2.2 = k) ∨ (A.1 41 k = (D k).2 ∧ ∃ w, A.1 42 k = nI w ∧ w ≤ m_L A))
def m_cn (A : mS) : Nat := (List.range (m_N A)).countP (fun k => decide (0 ≤ A.1 41 k))
def m_jw (A : mS) : Prop := ∃ m s, A.1 39 2 = nI m ∧ m ≤ 20 ∧ m_W A = Int64.ofNat s ∧ s ≤ m * m_cn A
def m_JJ (D : Nat → Nat × Int32) (A : mS) (qs : Nat → List mQ) : Prop := m_nc A ∧ (∀ b, b < 16 → ∀ j, j < 4 → 0 ≤ m_base A b j) ∧ (∀ b, b < 16 → m_jq D b (m_base A b) (qs b) ∧ (∀ q, q ∈ qs b → m_ja A b q) ∧ (qs b).Pairwise m_jp) ∧ (∀ k, k < m_N A → m_jc D A qs k) ∧ A.1 40 8 = nI (m_cn A) ∧ m_jw A
theorem m_L_eq {A A' : mS} (h : A'.1 25 = A.1 25) : m_L A' = m_L A := by
  show (A'.1 25 4).toNatClampNeg = _
  rw [h]
theorem JJ_mv {D : Nat → Nat × Int32} {A A' : mS} {qs : Nat → List mQ} (h : m_JJ D A qs) (m : m_mv qs A A') : m_JJ D A' qs := by
  obtain ⟨h1, h2, h3, h4, h5, h6⟩ := h
  obtain ⟨a1, a2, ⟨a3, a4⟩, ⟨a5, a6, a7⟩, a8, a9, a10, a11⟩ := m h1
  have eN : m_N A' = m_N A := m_N_eq a5
  have eT : m_T A' = m_T A := m_T_eq a7
  have eL : m_L A' = m_L A := m_L_eq a10
  have eC : m_cn A' = m_cn A := by unfold m_cn; rw [eN, a3]
  refine ⟨a1, fun b hb j hj => by rw [a2 b hb j hj]; exact h2 b hb j hj, fun b hb => ?_, fun k hk => ?_, by rw [a6, eC]; exact h5, ?_⟩
  · obtain ⟨b1, b2, b3⟩ := h3 b hb
    refine ⟨jq_congr _ (fun j hj => (a2 b hb j hj).symm) (fun q hq => (b2 q hq).1) b1, fun q hq => ?_, b3⟩
    obtain ⟨c1, c2, c3, c4, c5⟩ := b2 q hq
    have hne : qs b ≠ [] := List.ne_nil_of_mem hq
    refine ⟨c1, c2, fun e => ?_, by rw [eT]; exact c4, fun e => ?_⟩
    · rw [eN, a3, a4]; exact c3 e
    · have := c5 ((a11 b hb hne).2 e)
      show (A'.1 30 b).toNatClampNeg ≤ _
      rw [(a11 b hb hne).1, eL]; exact this
  · rw [eN] at hk
    obtain ⟨d1, d2, d3⟩ := h4 k hk
    refine ⟨d1, d2, ?_⟩
    rw [a3, a4, eL]; exact d3
  · unfold m_jw; rw [a8, a9, eC]; exact h6
theorem val_mv {A A' : mS} (hn : m_nc A) (m : m_mv (m_Q A) A A') (hQ : m_Q A' = m_Q A) : ∀ x, x < 16 → ∀ j, j < 4 → m_val A' x j = m_val A x j := by
  intro x hx j hj
  unfold m_val
  rw [hQ]
  exact qv_congr _ (fun i hi => (m hn).2.1 x hx i hi) j hj
theorem z_i21 : ∀ w, w < 21 → (nI w).toInt64 = Int64.ofNat w := by decide +kernel
