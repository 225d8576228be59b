/-! the memory by keys: what the system's cells hold, wherever they lie -/
abbrev zK : Type := Nat × Nat × Nat
abbrev zM : Type := Nat × (zK → va_E)
def z_sb (i : Nat) : Nat := if i < 2 then 1 + 120 * i else 2 + 120 * i
def z_lay : zK → Nat := fun q =>
  if q.1 = 0 then 0
  else if q.1 ≤ 4 then z_sb q.2.1 + (q.1 - 1)
  else if q.1 ≤ 11 then z_sb q.2.1 + 4 + 7 * q.2.2 + (q.1 - 5)
  else if q.1 ≤ 15 then z_sb q.2.1 + 116 + (q.1 - 12)
  else if q.1 = 22 then 241
  else if q.1 ≤ 21 then 962 + (q.1 - 16)
  else 968 + (q.1 - 23)
def z_sk (i r : Nat) : zK := if r < 4 then (1 + r, i, 0) else if r < 116 then (5 + (r - 4) % 7, i, (r - 4) / 7) else (12 + (r - 116), i, 0)
def z_key : Nat → zK := fun n =>
  if n = 0 then (0, 0, 0)
  else if n < 241 then z_sk ((n - 1) / 120) ((n - 1) % 120)
  else if n = 241 then (22, 0, 0)
  else if n < 962 then z_sk ((n - 2) / 120) ((n - 2) % 120)
  else if n < 968 then (16 + (n - 962), 0, 0)
  else (23 + (n - 968), 0, 0)
theorem z_key_lay : ∀ n, n < 970 → z_lay (z_key n) = n := by decide +kernel
/-- a world: where the run's cells begin, what the tables say of classes, array classes, where the static arrays lie, the script -/
abbrev zW : Type := Nat × va_G × (Nat → ClassId) × (Nat → Nat) × Nat × Nat × (Nat → Int32)
def z_adr (o : zW) (k : zK) : Nat := o.1 + z_lay k
def z_ok (n : Nat) (k : zK) : Prop := z_lay k < n ∧ z_key (z_lay k) = k
def z_ws (o : zW) (M : zM) : va_W := (List.range M.1).map fun j => (o.1 + j, M.2 (z_key j))
def z_up (e : zK → va_E) (k : zK) (x : va_E) : zK → va_E := fun q => if q = k then x else e q
abbrev z_tys (o : zW) : List (ClassId × FieldType) := [(o.2.2.1 0, .int), (o.2.2.1 1, .int), (o.2.2.1 2, .int), (o.2.2.1 3, .object "LateLines$Box"), (o.2.2.1 4, .object "LateLines$State")]
def z_A (o : zW) : Nat → Prop := fun q => o.1 ≤ q
def z_Rel (o : zW) (M : zM) (H : Heap) : Prop := va_P o.2.1 vwCl (z_ws o M) H ∧ H.size = o.1 + M.1 ∧ M.1 ≤ 970
theorem z_ws_get {o : zW} {M : zM} {k : zK} (h : z_ok M.1 k) : (z_ws o M)[z_lay k]? = some (z_adr o k, M.2 k) := by
  simp only [z_ws, List.getElem?_map, List.getElem?_range h.1, Option.map_some, h.2, z_adr]
theorem z_ws_set {o : zW} {n : Nat} {e : zK → va_E} {k : zK} {x : va_E} (h : z_ok n k) (hn : n ≤ 970) : (z_ws o (n, e)).set (z_lay k) (z_adr o k, x) = z_ws o (n, z_up e k x) := by
  apply List.ext_getElem?
  intro j
  by_cases hj : j = z_lay k
  · subst hj
    rw [z_ws_get (M := (n, z_up e k x)) h, List.getElem?_set_self (by simp [z_ws]; exact h.1)]
    simp [z_up]
  · rw [List.getElem?_set_ne (Ne.symm hj)]
    simp only [z_ws, List.getElem?_map]
    by_cases hl : j < n
    · rw [List.getElem?_range hl]
      simp only [Option.map_some, z_up]
      rw [if_neg]
      intro hk
      have := z_key_lay j (by omega)
      rw [hk] at this
      exact hj this.symm
    · rw [List.getElem?_eq_none (by simp; omega)]
      rfl
theorem z_ws_push {o : zW} {n : Nat} {e : zK → va_E} {k : zK} {x : va_E} (h : z_key n = k) (hk : z_lay k = n) (hn : n < 970) : z_ws o (n, e) ++ [(o.1 + n, x)] = z_ws o (n + 1, z_up e k x) := by
  simp only [z_ws, List.range_succ, List.map_append, List.map_cons, List.map_nil]
  congr 1
  · apply List.map_congr_left
    intro j hj
    have hj' := List.mem_range.mp hj
    simp only [z_up]
    rw [if_neg]
    intro hc
    have := z_key_lay j (by omega)
    rw [hc, hk] at this
    omega
  · simp [z_up, h]
theorem z_ws_D (o : zW) (M : zM) : va_D (z_A o) (z_ws o M) := by
  refine ⟨fun i j p q hi hj hpq => ?_, fun k q hk => ?_⟩
  · simp only [z_ws, List.getElem?_map] at hi hj
    by_cases h1 : i < M.1
    · by_cases h2 : j < M.1
      · rw [List.getElem?_range h1] at hi
        rw [List.getElem?_range h2] at hj
        simp only [Option.map_some, Option.some.injEq] at hi hj
        subst hi; subst hj
        simp at hpq
        exact hpq
      · rw [List.getElem?_eq_none (by simp; omega)] at hj; simp at hj
    · rw [List.getElem?_eq_none (by simp; omega)] at hi; simp at hi
  · have := List.mem_of_getElem? hk
    simp only [z_ws, List.mem_map] at this
    obtain ⟨j, -, rfl⟩ := this
    show o.1 ≤ o.1 + j
    omega
/-! the tables' words that stay -/
def z_good : Cond → Bool
  | .fieldLinkNest .. => true
  | .methodLinkNest .. => true
  | .arrayClass _ => true
  | .arrayOver (.object _) => true
  | w => w.onTables && w.keeps
def z_Tab (U : State) : Prop := ∀ w ∈ lw_tbl, z_good w = true → w.before #[] U = true
theorem z_Tab_moved {s U : State} (hW : s.WarmedH U.vm) (h : z_Tab s) : z_Tab U := by
  intro w hw hg
  have hb := h w hw hg
  cases w with
  | fieldLinkNest a i b n d h => exact va_Nw.warmF hW hb
  | methodLinkNest a i x h => exact va_Nw.warmM hW hb
  | arrayClass ty => exact word_at hW (Or.inr ⟨_, rfl⟩) hb
  | arrayOver t =>
    cases t with
    | object C => exact va_AO.moved hW.alike hb
    | _ => exact word_at hW (Or.inl hg) hb
  | _ => exact word_at hW (Or.inl hg) hb
theorem z_Tab_same {s U : State} (hv : s.vm = U.vm) (h : z_Tab s) : z_Tab U := by
  have hW : s.WarmedH U.vm := by rw [← hv]; exact State.WarmedH.refl s
  exact z_Tab_moved hW h
theorem z_Tab_of {A : Array Value} {s : State} (h : ∀ w ∈ lw_tbl, w.before A s = true) : z_Tab s := by
  intro w hw hg
  have hb := h w hw
  cases w with
  | fieldLinkNest a i b n d h => exact va_Nw.of rfl hb
  | methodLinkNest a i x h => exact va_Nw.of rfl hb
  | arrayClass ty => exact hb
  | arrayOver t =>
    cases t with
    | object C => exact hb
    | _ => simp [z_good, Cond.onTables, Cond.keeps, Cond.steady] at hg
  | _ => exact va_Nw.of (by simp only [z_good, Bool.and_eq_true] at hg; exact hg.1) hb
theorem z_use {w : Cond} {A : Array Value} {U : State} (h : z_Tab U) (hw : w ∈ lw_tbl) (hg : z_good w = true) (ht : w.onTables = true) : w.before A U = true := va_Nw.use ht (h w hw hg)
