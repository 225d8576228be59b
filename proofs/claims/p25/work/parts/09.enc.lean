/-! the regular memory: ints, longs, floats by key and slot; all else is fixed -/
abbrev zS : Type := (zK → Nat → Int32) × (zK → Nat → Int64) × (zK → Nat → UInt32)
def z_len : Nat → Nat := fun k => if k = 2 then 5 else if k = 3 then 10 else if k = 6 then 4 else if k = 7 then 4 else if k = 8 then 4 else if k = 9 then 4 else if k = 10 then 4 else if k = 11 then 4 else if k = 13 then 200 else if k = 14 then 200 else if k = 15 then 200 else if k = 17 then 120 else if k = 18 then 60 else if k = 19 then 60 else if k = 20 then 60 else if k = 21 then 3 else if k = 23 then 64 else if k = 24 then 60 else 0
def z_ent (o : zW) (q : zK) (I : Nat → Int32) (L : Nat → Int64) (F : Nat → UInt32) : va_E :=
  if q.1 = 0 then .inr (4, [.ref (z_adr o (1, 0, 0)), .ref (z_adr o (1, 1, 0)), .ref (z_adr o (22, 0, 0)), .ref (z_adr o (16, 0, 0)), .ref (z_adr o (21, 0, 0)), .int (I 5), .int (I 6)]) else
  if q.1 = 1 then .inr (2, [.ref (z_adr o (2, q.2.1, 0)), .ref (z_adr o (3, q.2.1, 0)), .ref (z_adr o (4, q.2.1, 0)), .ref (z_adr o (12, q.2.1, 0)), .float (F 4), .int (I 5), .int (I 6), .int (I 7), .int (I 8)]) else
  if q.1 = 5 then .inr (0, [.int (nI q.2.2), .ref (z_adr o (6, q.2.1, q.2.2)), .ref (z_adr o (7, q.2.1, q.2.2)), .ref (z_adr o (8, q.2.1, q.2.2)), .ref (z_adr o (9, q.2.1, q.2.2)), .ref (z_adr o (10, q.2.1, q.2.2)), .ref (z_adr o (11, q.2.1, q.2.2)), .int (I 7), .int (I 8), .int (I 9), .int (I 10), .int (I 11)]) else
  if q.1 = 12 then .inr (1, [.ref (z_adr o (13, q.2.1, 0)), .ref (z_adr o (14, q.2.1, 0)), .ref (z_adr o (15, q.2.1, 0)), .int (I 3), .int (I 4), .int (I 5), .long (L 6), .long (L 7)]) else
  if q.1 = 16 then .inr (3, [.ref (z_adr o (17, 0, 0)), .ref (z_adr o (18, 0, 0)), .ref (z_adr o (19, 0, 0)), .ref (z_adr o (20, 0, 0)), .int (I 4), .int (I 5), .int (I 6), .int (I 7)]) else
  if q.1 = 4 then .inl (o.2.2.1 3, 16, .inr (.inr (.inr (.inr (fun j => some (z_adr o (5, q.2.1, j))))))) else
  if q.1 = 22 then .inl (o.2.2.1 4, 6, .inr (.inr (.inr (.inr (fun j => some (z_adr o (1, j + 2, 0))))))) else
  .inl (o.2.2.1 0, z_len q.1, .inl I)
def z_enc (o : zW) (S : zS) : zK → va_E := fun q => z_ent o q (S.1 q) (S.2.1 q) (S.2.2 q)
def sI (S : zS) (k : zK) (s : Nat) (v : Int32) : zS := (fun q t => if q = k ∧ t = s then v else S.1 q t, S.2.1, S.2.2)
def sL (S : zS) (k : zK) (s : Nat) (v : Int64) : zS := (S.1, fun q t => if q = k ∧ t = s then v else S.2.1 q t, S.2.2)
def sF (S : zS) (k : zK) (s : Nat) (v : UInt32) : zS := (S.1, S.2.1, fun q t => if q = k ∧ t = s then v else S.2.2 q t)
theorem z_up_I {o : zW} {S : zS} {k : zK} {s : Nat} {v : Int32} {x : va_E} (hx : x = z_ent o k (upd (S.1 k) s v) (S.2.1 k) (S.2.2 k)) : z_up (z_enc o S) k x = z_enc o (sI S k s v) := by
  subst hx
  funext q
  by_cases h : q = k
  · subst h
    have e : upd (S.1 q) s v = (sI S q s v).1 q := by
      funext t
      simp [upd, sI]
    show (if q = q then _ else _) = z_ent o q _ _ _
    rw [if_pos rfl, e]
    rfl
  · show (if q = k then _ else z_ent o q _ _ _) = z_ent o q _ _ _
    rw [if_neg h]
    have e : (sI S k s v).1 q = S.1 q := by
      funext t
      simp [sI, h]
    rw [e]
    rfl
theorem z_up_L {o : zW} {S : zS} {k : zK} {s : Nat} {v : Int64} {x : va_E} (hx : x = z_ent o k (S.1 k) (vp_updL (S.2.1 k) s v) (S.2.2 k)) : z_up (z_enc o S) k x = z_enc o (sL S k s v) := by
  subst hx
  funext q
  by_cases h : q = k
  · subst h
    have e : vp_updL (S.2.1 q) s v = (sL S q s v).2.1 q := by
      funext t
      simp [vp_updL, sL]
    show (if q = q then _ else _) = z_ent o q _ _ _
    rw [if_pos rfl, e]
    rfl
  · show (if q = k then _ else z_ent o q _ _ _) = z_ent o q _ _ _
    rw [if_neg h]
    have e : (sL S k s v).2.1 q = S.2.1 q := by
      funext t
      simp [sL, h]
    rw [e]
    rfl
theorem z_up_F {o : zW} {S : zS} {k : zK} {s : Nat} {v : UInt32} {x : va_E} (hx : x = z_ent o k (S.1 k) (S.2.1 k) (vf_upd (S.2.2 k) s v)) : z_up (z_enc o S) k x = z_enc o (sF S k s v) := by
  subst hx
  funext q
  by_cases h : q = k
  · subst h
    have e : vf_upd (S.2.2 q) s v = (sF S q s v).2.2 q := by
      funext t
      simp [vf_upd, sF]
    show (if q = q then _ else _) = z_ent o q _ _ _
    rw [if_pos rfl, e]
    rfl
  · show (if q = k then _ else z_ent o q _ _ _) = z_ent o q _ _ _
    rw [if_neg h]
    have e : (sF S k s v).2.2 q = S.2.2 q := by
      funext t
      simp [sF, h]
    rw [e]
    rfl
/-! keys that stand -/
def z_ch1 (i k : Nat) : Bool := !(decide (1 ≤ k) && (decide (k ≤ 4) || decide (12 ≤ k))) || (decide (z_key (z_lay (k, i, 0)) = (k, i, 0)) && decide (z_lay (k, i, 0) < z_sb i + 120))
def z_ch5 (i b k : Nat) : Bool := !decide (5 ≤ k) || (decide (z_key (z_lay (k, i, b)) = (k, i, b)) && decide (z_lay (k, i, b) < z_sb i + 120))
def z_ch0 (k : Nat) : Bool := !(decide (16 ≤ k) || decide (k = 0)) || (decide (z_key (z_lay (k, 0, 0)) = (k, 0, 0)) && decide (z_lay (k, 0, 0) < 970))
theorem z_ch1_all : (List.range 8).all (fun i => (List.range 16).all (fun k => z_ch1 i k)) = true := by decide +kernel
theorem z_ch5_all : (List.range 8).all (fun i => (List.range 16).all (fun b => (List.range 12).all (fun k => z_ch5 i b k))) = true := by decide +kernel
theorem z_ch0_all : (List.range 25).all z_ch0 = true := by decide +kernel
theorem z_kl1 {i k : Nat} (hi : i < 8) (hk : k < 16) (h1 : 1 ≤ k) (h2 : k ≤ 4 ∨ 12 ≤ k) : z_key (z_lay (k, i, 0)) = (k, i, 0) ∧ z_lay (k, i, 0) < z_sb i + 120 := by
  have h := List.all_eq_true.mp (List.all_eq_true.mp z_ch1_all i (List.mem_range.mpr hi)) k (List.mem_range.mpr hk)
  simp only [z_ch1, Bool.or_eq_true, Bool.and_eq_true, Bool.not_eq_true', Bool.and_eq_false_iff, Bool.or_eq_false_iff, decide_eq_true_eq, decide_eq_false_iff_not] at h
  rcases h with h | h
  · omega
  · exact h
theorem z_kl5 {i b k : Nat} (hi : i < 8) (hb : b < 16) (hk : k < 12) (h1 : 5 ≤ k) : z_key (z_lay (k, i, b)) = (k, i, b) ∧ z_lay (k, i, b) < z_sb i + 120 := by
  have h := List.all_eq_true.mp (List.all_eq_true.mp (List.all_eq_true.mp z_ch5_all i (List.mem_range.mpr hi)) b (List.mem_range.mpr hb)) k (List.mem_range.mpr hk)
  simp only [z_ch5, Bool.or_eq_true, Bool.and_eq_true, Bool.not_eq_true', decide_eq_true_eq, decide_eq_false_iff_not] at h
  rcases h with h | h
  · omega
  · exact h
theorem z_kl0 {k : Nat} (hk : k < 25) (h1 : 16 ≤ k ∨ k = 0) : z_key (z_lay (k, 0, 0)) = (k, 0, 0) ∧ z_lay (k, 0, 0) < 970 := by
  have h := List.all_eq_true.mp z_ch0_all k (List.mem_range.mpr hk)
  simp only [z_ch0, Bool.or_eq_true, Bool.and_eq_true, Bool.not_eq_true', Bool.or_eq_false_iff, decide_eq_true_eq, decide_eq_false_iff_not] at h
  rcases h with h | h
  · omega
  · exact h
theorem z_sb_le {i : Nat} (hi : i < 8) : z_sb i + 120 ≤ 970 := by unfold z_sb; split <;> omega
theorem z_okS {n i : Nat} (k : Nat) (hk : k < 16 ∧ 1 ≤ k ∧ (k ≤ 4 ∨ 12 ≤ k)) (hi : i < 8) (hn : z_sb i + 120 ≤ n) : z_ok n (k, i, 0) := ⟨Nat.lt_of_lt_of_le (z_kl1 hi hk.1 hk.2.1 hk.2.2).2 hn, (z_kl1 hi hk.1 hk.2.1 hk.2.2).1⟩
theorem z_okB {n i b : Nat} (k : Nat) (hk : k < 12 ∧ 5 ≤ k) (hi : i < 8) (hb : b < 16) (hn : z_sb i + 120 ≤ n) : z_ok n (k, i, b) := ⟨Nat.lt_of_lt_of_le (z_kl5 hi hb hk.1 hk.2).2 hn, (z_kl5 hi hb hk.1 hk.2).1⟩
theorem z_okG (k : Nat) (hk : k < 25 ∧ (16 ≤ k ∨ k = 0)) : z_ok 970 (k, 0, 0) := ⟨(z_kl0 hk.1 hk.2).2, (z_kl0 hk.1 hk.2).1⟩
theorem z_vlt {x : Int32} {N : Nat} (h : vp_in x N) : x.toNatClampNeg < N := Nat.not_le.mp fun q => h (Or.inr q)
/-! what a key's cell is -/
def z_OBJ (o : zW) (k : zK) (ci : Nat) : Prop := ∀ I L F, ∃ fs, z_ent o k I L F = .inr (ci, fs)
def z_fV (o : zW) (k : zK) (ci s : Nat) (v : Value) : Prop := ∀ I L F, ∃ fs, z_ent o k I L F = .inr (ci, fs) ∧ fs[s]? = some v
def z_fI (o : zW) (k : zK) (ci s : Nat) : Prop := ∀ I L F, ∃ fs, z_ent o k I L F = .inr (ci, fs) ∧ fs[s]? = some (.int (I s)) ∧ s < fs.length ∧ ∀ v, .inr (ci, fs.set s (.int v)) = z_ent o k (upd I s v) L F
def z_fL (o : zW) (k : zK) (ci s : Nat) : Prop := ∀ I L F, ∃ fs, z_ent o k I L F = .inr (ci, fs) ∧ fs[s]? = some (.long (L s)) ∧ s < fs.length ∧ ∀ v, .inr (ci, fs.set s (.long v)) = z_ent o k I (vp_updL L s v) F
def z_fF (o : zW) (k : zK) (ci s : Nat) : Prop := ∀ I L F, ∃ fs, z_ent o k I L F = .inr (ci, fs) ∧ fs[s]? = some (.float (F s)) ∧ s < fs.length ∧ ∀ v, .inr (ci, fs.set s (.float v)) = z_ent o k I L (vf_upd F s v)
def z_aI (o : zW) (k : zK) (N : Nat) : Prop := ∀ I L F, z_ent o k I L F = .inl (o.2.2.1 0, N, .inl I)
def z_aL (o : zW) (k : zK) (N : Nat) : Prop := ∀ I L F, z_ent o k I L F = .inl (o.2.2.1 1, N, .inr (.inl L))
def z_aF (o : zW) (k : zK) (N : Nat) : Prop := ∀ I L F, z_ent o k I L F = .inl (o.2.2.1 2, N, .inr (.inr (.inl F)))
theorem z_a4 (o : zW) (i : Nat) : ∀ I L F, z_ent o (4, i, 0) I L F = .inl (o.2.2.1 3, 16, .inr (.inr (.inr (.inr (fun j => some (z_adr o (5, i, j))))))) := fun _ _ _ => rfl
theorem z_a22 (o : zW) : ∀ I L F, z_ent o (22, 0, 0) I L F = .inl (o.2.2.1 4, 6, .inr (.inr (.inr (.inr (fun j => some (z_adr o (1, j + 2, 0))))))) := fun _ _ _ => rfl
theorem ia_2 (o : zW) (i : Nat) : z_aI o (2, i, 0) 5 := fun _ _ _ => rfl
theorem ia_3 (o : zW) (i : Nat) : z_aI o (3, i, 0) 10 := fun _ _ _ => rfl
theorem ia_6 (o : zW) (i b : Nat) : z_aI o (6, i, b) 4 := fun _ _ _ => rfl
theorem ia_7 (o : zW) (i b : Nat) : z_aI o (7, i, b) 4 := fun _ _ _ => rfl
theorem ia_8 (o : zW) (i b : Nat) : z_aI o (8, i, b) 4 := fun _ _ _ => rfl
theorem ia_9 (o : zW) (i b : Nat) : z_aI o (9, i, b) 4 := fun _ _ _ => rfl
theorem ia_10 (o : zW) (i b : Nat) : z_aI o (10, i, b) 4 := fun _ _ _ => rfl
theorem ia_11 (o : zW) (i b : Nat) : z_aI o (11, i, b) 4 := fun _ _ _ => rfl
theorem ia_13 (o : zW) (i : Nat) : z_aI o (13, i, 0) 200 := fun _ _ _ => rfl
theorem ia_14 (o : zW) (i : Nat) : z_aI o (14, i, 0) 200 := fun _ _ _ => rfl
theorem ia_15 (o : zW) (i : Nat) : z_aI o (15, i, 0) 200 := fun _ _ _ => rfl
theorem ia_17 (o : zW) : z_aI o (17, 0, 0) 120 := fun _ _ _ => rfl
theorem ia_18 (o : zW) : z_aI o (18, 0, 0) 60 := fun _ _ _ => rfl
theorem ia_19 (o : zW) : z_aI o (19, 0, 0) 60 := fun _ _ _ => rfl
theorem ia_20 (o : zW) : z_aI o (20, 0, 0) 60 := fun _ _ _ => rfl
theorem ia_21 (o : zW) : z_aI o (21, 0, 0) 3 := fun _ _ _ => rfl
theorem ia_23 (o : zW) : z_aI o (23, 0, 0) 64 := fun _ _ _ => rfl
theorem ia_24 (o : zW) : z_aI o (24, 0, 0) 60 := fun _ _ _ => rfl
theorem ob_0 (o : zW) : z_OBJ o (0, 0, 0) 4 := fun _ _ _ => ⟨_, rfl⟩
theorem fd_0_0 (o : zW) : z_fV o (0, 0, 0) 4 0 (.ref (z_adr o (1, 0, 0))) := fun _ _ _ => ⟨_, rfl, rfl⟩
theorem fd_0_1 (o : zW) : z_fV o (0, 0, 0) 4 1 (.ref (z_adr o (1, 1, 0))) := fun _ _ _ => ⟨_, rfl, rfl⟩
theorem fd_0_2 (o : zW) : z_fV o (0, 0, 0) 4 2 (.ref (z_adr o (22, 0, 0))) := fun _ _ _ => ⟨_, rfl, rfl⟩
theorem fd_0_3 (o : zW) : z_fV o (0, 0, 0) 4 3 (.ref (z_adr o (16, 0, 0))) := fun _ _ _ => ⟨_, rfl, rfl⟩
theorem fd_0_4 (o : zW) : z_fV o (0, 0, 0) 4 4 (.ref (z_adr o (21, 0, 0))) := fun _ _ _ => ⟨_, rfl, rfl⟩
theorem fd_0_5 (o : zW) : z_fI o (0, 0, 0) 4 5 := fun _ _ _ => ⟨_, rfl, rfl, Nat.le_of_ble_eq_true rfl, fun _ => rfl⟩
theorem fd_0_6 (o : zW) : z_fI o (0, 0, 0) 4 6 := fun _ _ _ => ⟨_, rfl, rfl, Nat.le_of_ble_eq_true rfl, fun _ => rfl⟩
theorem ob_1 (o : zW) (i : Nat) : z_OBJ o (1, i, 0) 2 := fun _ _ _ => ⟨_, rfl⟩
theorem fd_1_0 (o : zW) (i : Nat) : z_fV o (1, i, 0) 2 0 (.ref (z_adr o (2, i, 0))) := fun _ _ _ => ⟨_, rfl, rfl⟩
theorem fd_1_1 (o : zW) (i : Nat) : z_fV o (1, i, 0) 2 1 (.ref (z_adr o (3, i, 0))) := fun _ _ _ => ⟨_, rfl, rfl⟩
theorem fd_1_2 (o : zW) (i : Nat) : z_fV o (1, i, 0) 2 2 (.ref (z_adr o (4, i, 0))) := fun _ _ _ => ⟨_, rfl, rfl⟩
theorem fd_1_3 (o : zW) (i : Nat) : z_fV o (1, i, 0) 2 3 (.ref (z_adr o (12, i, 0))) := fun _ _ _ => ⟨_, rfl, rfl⟩
theorem fd_1_4 (o : zW) (i : Nat) : z_fF o (1, i, 0) 2 4 := fun _ _ _ => ⟨_, rfl, rfl, Nat.le_of_ble_eq_true rfl, fun _ => rfl⟩
theorem fd_1_5 (o : zW) (i : Nat) : z_fI o (1, i, 0) 2 5 := fun _ _ _ => ⟨_, rfl, rfl, Nat.le_of_ble_eq_true rfl, fun _ => rfl⟩
theorem fd_1_6 (o : zW) (i : Nat) : z_fI o (1, i, 0) 2 6 := fun _ _ _ => ⟨_, rfl, rfl, Nat.le_of_ble_eq_true rfl, fun _ => rfl⟩
theorem fd_1_7 (o : zW) (i : Nat) : z_fI o (1, i, 0) 2 7 := fun _ _ _ => ⟨_, rfl, rfl, Nat.le_of_ble_eq_true rfl, fun _ => rfl⟩
theorem fd_1_8 (o : zW) (i : Nat) : z_fI o (1, i, 0) 2 8 := fun _ _ _ => ⟨_, rfl, rfl, Nat.le_of_ble_eq_true rfl, fun _ => rfl⟩
theorem ob_5 (o : zW) (i b : Nat) : z_OBJ o (5, i, b) 0 := fun _ _ _ => ⟨_, rfl⟩
theorem fd_5_0 (o : zW) (i b : Nat) : z_fV o (5, i, b) 0 0 (.int (nI b)) := fun _ _ _ => ⟨_, rfl, rfl⟩
theorem fd_5_1 (o : zW) (i b : Nat) : z_fV o (5, i, b) 0 1 (.ref (z_adr o (6, i, b))) := fun _ _ _ => ⟨_, rfl, rfl⟩
theorem fd_5_2 (o : zW) (i b : Nat) : z_fV o (5, i, b) 0 2 (.ref (z_adr o (7, i, b))) := fun _ _ _ => ⟨_, rfl, rfl⟩
theorem fd_5_3 (o : zW) (i b : Nat) : z_fV o (5, i, b) 0 3 (.ref (z_adr o (8, i, b))) := fun _ _ _ => ⟨_, rfl, rfl⟩
theorem fd_5_4 (o : zW) (i b : Nat) : z_fV o (5, i, b) 0 4 (.ref (z_adr o (9, i, b))) := fun _ _ _ => ⟨_, rfl, rfl⟩
theorem fd_5_5 (o : zW) (i b : Nat) : z_fV o (5, i, b) 0 5 (.ref (z_adr o (10, i, b))) := fun _ _ _ => ⟨_, rfl, rfl⟩
theorem fd_5_6 (o : zW) (i b : Nat) : z_fV o (5, i, b) 0 6 (.ref (z_adr o (11, i, b))) := fun _ _ _ => ⟨_, rfl, rfl⟩
theorem fd_5_7 (o : zW) (i b : Nat) : z_fI o (5, i, b) 0 7 := fun _ _ _ => ⟨_, rfl, rfl, Nat.le_of_ble_eq_true rfl, fun _ => rfl⟩
theorem fd_5_8 (o : zW) (i b : Nat) : z_fI o (5, i, b) 0 8 := fun _ _ _ => ⟨_, rfl, rfl, Nat.le_of_ble_eq_true rfl, fun _ => rfl⟩
theorem fd_5_9 (o : zW) (i b : Nat) : z_fI o (5, i, b) 0 9 := fun _ _ _ => ⟨_, rfl, rfl, Nat.le_of_ble_eq_true rfl, fun _ => rfl⟩
theorem fd_5_10 (o : zW) (i b : Nat) : z_fI o (5, i, b) 0 10 := fun _ _ _ => ⟨_, rfl, rfl, Nat.le_of_ble_eq_true rfl, fun _ => rfl⟩
theorem fd_5_11 (o : zW) (i b : Nat) : z_fI o (5, i, b) 0 11 := fun _ _ _ => ⟨_, rfl, rfl, Nat.le_of_ble_eq_true rfl, fun _ => rfl⟩
theorem ob_12 (o : zW) (i : Nat) : z_OBJ o (12, i, 0) 1 := fun _ _ _ => ⟨_, rfl⟩
theorem fd_12_0 (o : zW) (i : Nat) : z_fV o (12, i, 0) 1 0 (.ref (z_adr o (13, i, 0))) := fun _ _ _ => ⟨_, rfl, rfl⟩
theorem fd_12_1 (o : zW) (i : Nat) : z_fV o (12, i, 0) 1 1 (.ref (z_adr o (14, i, 0))) := fun _ _ _ => ⟨_, rfl, rfl⟩
theorem fd_12_2 (o : zW) (i : Nat) : z_fV o (12, i, 0) 1 2 (.ref (z_adr o (15, i, 0))) := fun _ _ _ => ⟨_, rfl, rfl⟩
theorem fd_12_3 (o : zW) (i : Nat) : z_fI o (12, i, 0) 1 3 := fun _ _ _ => ⟨_, rfl, rfl, Nat.le_of_ble_eq_true rfl, fun _ => rfl⟩
theorem fd_12_4 (o : zW) (i : Nat) : z_fI o (12, i, 0) 1 4 := fun _ _ _ => ⟨_, rfl, rfl, Nat.le_of_ble_eq_true rfl, fun _ => rfl⟩
theorem fd_12_5 (o : zW) (i : Nat) : z_fI o (12, i, 0) 1 5 := fun _ _ _ => ⟨_, rfl, rfl, Nat.le_of_ble_eq_true rfl, fun _ => rfl⟩
theorem fd_12_6 (o : zW) (i : Nat) : z_fL o (12, i, 0) 1 6 := fun _ _ _ => ⟨_, rfl, rfl, Nat.le_of_ble_eq_true rfl, fun _ => rfl⟩
theorem fd_12_7 (o : zW) (i : Nat) : z_fL o (12, i, 0) 1 7 := fun _ _ _ => ⟨_, rfl, rfl, Nat.le_of_ble_eq_true rfl, fun _ => rfl⟩
theorem ob_16 (o : zW) : z_OBJ o (16, 0, 0) 3 := fun _ _ _ => ⟨_, rfl⟩
theorem fd_16_0 (o : zW) : z_fV o (16, 0, 0) 3 0 (.ref (z_adr o (17, 0, 0))) := fun _ _ _ => ⟨_, rfl, rfl⟩
theorem fd_16_1 (o : zW) : z_fV o (16, 0, 0) 3 1 (.ref (z_adr o (18, 0, 0))) := fun _ _ _ => ⟨_, rfl, rfl⟩
theorem fd_16_2 (o : zW) : z_fV o (16, 0, 0) 3 2 (.ref (z_adr o (19, 0, 0))) := fun _ _ _ => ⟨_, rfl, rfl⟩
theorem fd_16_3 (o : zW) : z_fV o (16, 0, 0) 3 3 (.ref (z_adr o (20, 0, 0))) := fun _ _ _ => ⟨_, rfl, rfl⟩
theorem fd_16_4 (o : zW) : z_fI o (16, 0, 0) 3 4 := fun _ _ _ => ⟨_, rfl, rfl, Nat.le_of_ble_eq_true rfl, fun _ => rfl⟩
theorem fd_16_5 (o : zW) : z_fI o (16, 0, 0) 3 5 := fun _ _ _ => ⟨_, rfl, rfl, Nat.le_of_ble_eq_true rfl, fun _ => rfl⟩
theorem fd_16_6 (o : zW) : z_fI o (16, 0, 0) 3 6 := fun _ _ _ => ⟨_, rfl, rfl, Nat.le_of_ble_eq_true rfl, fun _ => rfl⟩
theorem fd_16_7 (o : zW) : z_fI o (16, 0, 0) 3 7 := fun _ _ _ => ⟨_, rfl, rfl, Nat.le_of_ble_eq_true rfl, fun _ => rfl⟩
section ZE
variable {o : zW} {d : zD} {pc n : Nat} {lv : List (Nat × Value)} {st : List Value} {S : zS} {mc ms : Nat} {Q : Option Value → zM → Prop}
theorem zE.getV {idx ci : Nat} {C0 : String} {T : u_T} {N : Nat} {ty : Nat → FieldType} {k : zK} {v : Value} {j : Nat} (f : z_fV o k ci j v) (hk : z_ok n k) (KI : z_KI ci C0 T N ty) (hj : j < N) (hl : z_FL d idx C0 T j) (hd : decode (z_cc d) pc = .ok (.getfield idx, 3))
    (kk : zJ o d (pc + 3) lv (v :: st) (n, z_enc o S) mc ms Q) : zJ o d pc lv (.ref (z_adr o k) :: st) (n, z_enc o S) mc ms Q := by
  obtain ⟨fs, h1, h2⟩ := f (S.1 k) (S.2.1 k) (S.2.2 k)
  exact zJ.getf KI j hj hl hd hk h1 h2 kk
theorem zE.getI {idx ci : Nat} {C0 : String} {T : u_T} {N : Nat} {ty : Nat → FieldType} {k : zK} {j : Nat} (f : z_fI o k ci j) (hk : z_ok n k) (KI : z_KI ci C0 T N ty) (hj : j < N) (hl : z_FL d idx C0 T j) (hd : decode (z_cc d) pc = .ok (.getfield idx, 3))
    (kk : zJ o d (pc + 3) lv (.int (S.1 k j) :: st) (n, z_enc o S) mc ms Q) : zJ o d pc lv (.ref (z_adr o k) :: st) (n, z_enc o S) mc ms Q := by
  obtain ⟨fs, h1, h2, h3, h4⟩ := f (S.1 k) (S.2.1 k) (S.2.2 k)
  exact zJ.getf KI j hj hl hd hk h1 h2 kk
theorem zE.putI {idx ci : Nat} {C0 : String} {T : u_T} {N : Nat} {ty : Nat → FieldType} {k : zK} {j : Nat} {v : Int32} (f : z_fI o k ci j) (hk : z_ok n k) (KI : z_KI ci C0 T N ty) (hj : j < N) (hl : z_FL d idx C0 T j) (hfin : (T j).2.2.2 = false) (hty : ty j = .int) (hd : decode (z_cc d) pc = .ok (.putfield idx, 3))
    (kk : zJ o d (pc + 3) lv st (n, z_enc o (sI S k j v)) mc ms Q) : zJ o d pc lv (.int v :: .ref (z_adr o k) :: st) (n, z_enc o S) mc ms Q := by
  obtain ⟨fs, h1, h2, h3, h4⟩ := f (S.1 k) (S.2.1 k) (S.2.2 k)
  refine zJ.putf KI j hj hl hd hk h1 hfin (by rw [hty]; rfl) (by rw [hty]; rfl) h3 ?_
  show zJ o d (pc + 3) lv st (n, z_up (z_enc o S) k (.inr (ci, fs.set j (.int v)))) mc ms Q
  rw [z_up_I (s := j) (v := v) (h4 v)]
  exact kk
theorem zE.getL {idx ci : Nat} {C0 : String} {T : u_T} {N : Nat} {ty : Nat → FieldType} {k : zK} {j : Nat} (f : z_fL o k ci j) (hk : z_ok n k) (KI : z_KI ci C0 T N ty) (hj : j < N) (hl : z_FL d idx C0 T j) (hd : decode (z_cc d) pc = .ok (.getfield idx, 3))
    (kk : zJ o d (pc + 3) lv (.long (S.2.1 k j) :: st) (n, z_enc o S) mc ms Q) : zJ o d pc lv (.ref (z_adr o k) :: st) (n, z_enc o S) mc ms Q := by
  obtain ⟨fs, h1, h2, h3, h4⟩ := f (S.1 k) (S.2.1 k) (S.2.2 k)
  exact zJ.getf KI j hj hl hd hk h1 h2 kk
theorem zE.putL {idx ci : Nat} {C0 : String} {T : u_T} {N : Nat} {ty : Nat → FieldType} {k : zK} {j : Nat} {v : Int64} (f : z_fL o k ci j) (hk : z_ok n k) (KI : z_KI ci C0 T N ty) (hj : j < N) (hl : z_FL d idx C0 T j) (hfin : (T j).2.2.2 = false) (hty : ty j = .long) (hd : decode (z_cc d) pc = .ok (.putfield idx, 3))
    (kk : zJ o d (pc + 3) lv st (n, z_enc o (sL S k j v)) mc ms Q) : zJ o d pc lv (.long v :: .ref (z_adr o k) :: st) (n, z_enc o S) mc ms Q := by
  obtain ⟨fs, h1, h2, h3, h4⟩ := f (S.1 k) (S.2.1 k) (S.2.2 k)
  refine zJ.putf KI j hj hl hd hk h1 hfin (by rw [hty]; rfl) (by rw [hty]; rfl) h3 ?_
  show zJ o d (pc + 3) lv st (n, z_up (z_enc o S) k (.inr (ci, fs.set j (.long v)))) mc ms Q
  rw [z_up_L (s := j) (v := v) (h4 v)]
  exact kk
theorem zE.getF {idx ci : Nat} {C0 : String} {T : u_T} {N : Nat} {ty : Nat → FieldType} {k : zK} {j : Nat} (f : z_fF o k ci j) (hk : z_ok n k) (KI : z_KI ci C0 T N ty) (hj : j < N) (hl : z_FL d idx C0 T j) (hd : decode (z_cc d) pc = .ok (.getfield idx, 3))
    (kk : zJ o d (pc + 3) lv (.float (S.2.2 k j) :: st) (n, z_enc o S) mc ms Q) : zJ o d pc lv (.ref (z_adr o k) :: st) (n, z_enc o S) mc ms Q := by
  obtain ⟨fs, h1, h2, h3, h4⟩ := f (S.1 k) (S.2.1 k) (S.2.2 k)
  exact zJ.getf KI j hj hl hd hk h1 h2 kk
theorem zE.putF {idx ci : Nat} {C0 : String} {T : u_T} {N : Nat} {ty : Nat → FieldType} {k : zK} {j : Nat} {v : UInt32} (f : z_fF o k ci j) (hk : z_ok n k) (KI : z_KI ci C0 T N ty) (hj : j < N) (hl : z_FL d idx C0 T j) (hfin : (T j).2.2.2 = false) (hty : ty j = .float) (hd : decode (z_cc d) pc = .ok (.putfield idx, 3))
    (kk : zJ o d (pc + 3) lv st (n, z_enc o (sF S k j v)) mc ms Q) : zJ o d pc lv (.float v :: .ref (z_adr o k) :: st) (n, z_enc o S) mc ms Q := by
  obtain ⟨fs, h1, h2, h3, h4⟩ := f (S.1 k) (S.2.1 k) (S.2.2 k)
  refine zJ.putf KI j hj hl hd hk h1 hfin (by rw [hty]; rfl) (by rw [hty]; rfl) h3 ?_
  show zJ o d (pc + 3) lv st (n, z_up (z_enc o S) k (.inr (ci, fs.set j (.float v)))) mc ms Q
  rw [z_up_F (s := j) (v := v) (h4 v)]
  exact kk
theorem zE.aldI {k : zK} {N : Nat} {i : Int32} (f : z_aI o k N) (hk : z_ok n k) (hin : vp_in i N) (hd : decode (z_cc d) pc = .ok (.iaload, 1))
    (kk : zJ o d (pc + 1) lv (.int (S.1 k i.toNatClampNeg) :: st) (n, z_enc o S) mc ms Q) : zJ o d pc lv (.int i :: .ref (z_adr o k) :: st) (n, z_enc o S) mc ms Q := zJ.iald hd hk (f (S.1 k) (S.2.1 k) (S.2.2 k)) hin kk
theorem zE.astI {k : zK} {N : Nat} {i : Int32} {v : Int32} (f : z_aI o k N) (hk : z_ok n k) (hin : vp_in i N) (hd : decode (z_cc d) pc = .ok (.iastore, 1))
    (kk : zJ o d (pc + 1) lv st (n, z_enc o (sI S k i.toNatClampNeg v)) mc ms Q) : zJ o d pc lv (.int v :: .int i :: .ref (z_adr o k) :: st) (n, z_enc o S) mc ms Q := by
  refine zJ.iast hd hk (f (S.1 k) (S.2.1 k) (S.2.2 k)) hin ?_
  show zJ o d (pc + 1) lv st (n, z_up (z_enc o S) k _) mc ms Q
  rw [z_up_I (s := i.toNatClampNeg) (v := v) (f _ _ _).symm]
  exact kk
theorem zE.aldB {i : Nat} {x : Int32} (hk : z_ok n (4, i, 0)) (hin : vp_in x 16) (hd : decode (z_cc d) pc = .ok (.aaload, 1))
    (kk : zJ o d (pc + 1) lv (.ref (z_adr o (5, i, x.toNatClampNeg)) :: st) (n, z_enc o S) mc ms Q) : zJ o d pc lv (.int x :: .ref (z_adr o (4, i, 0)) :: st) (n, z_enc o S) mc ms Q := zJ.aald (t0 := 3) (C0 := "LateLines$Box") rfl hd hk (z_a4 o i (S.1 (4, i, 0)) (S.2.1 (4, i, 0)) (S.2.2 (4, i, 0))) hin kk
theorem zE.aldK {x : Int32} (hk : z_ok n (22, 0, 0)) (hin : vp_in x 6) (hd : decode (z_cc d) pc = .ok (.aaload, 1))
    (kk : zJ o d (pc + 1) lv (.ref (z_adr o (1, x.toNatClampNeg + 2, 0)) :: st) (n, z_enc o S) mc ms Q) : zJ o d pc lv (.int x :: .ref (z_adr o (22, 0, 0)) :: st) (n, z_enc o S) mc ms Q := zJ.aald (t0 := 4) (C0 := "LateLines$State") rfl hd hk (z_a22 o (S.1 (22, 0, 0)) (S.2.1 (22, 0, 0)) (S.2.2 (22, 0, 0))) hin kk
theorem zE.lenI {k : zK} {N : Nat} {v : Int32} (f : z_aI o k N) (hk : z_ok n k) (hv : Int32.ofNat N = v) (hd : decode (z_cc d) pc = .ok (.arraylength, 1))
    (kk : zJ o d (pc + 1) lv (.int v :: st) (n, z_enc o S) mc ms Q) : zJ o d pc lv (.ref (z_adr o k) :: st) (n, z_enc o S) mc ms Q := zJ.alen (t0 := 0) (ty := .int) rfl hd hk (f (S.1 k) (S.2.1 k) (S.2.2 k)) hv kk
theorem zE.lenB {i : Nat} {v : Int32} (hk : z_ok n (4, i, 0)) (hv : Int32.ofNat 16 = v) (hd : decode (z_cc d) pc = .ok (.arraylength, 1))
    (kk : zJ o d (pc + 1) lv (.int v :: st) (n, z_enc o S) mc ms Q) : zJ o d pc lv (.ref (z_adr o (4, i, 0)) :: st) (n, z_enc o S) mc ms Q := zJ.alen (t0 := 3) (ty := .object "LateLines$Box") rfl hd hk (z_a4 o i (S.1 (4, i, 0)) (S.2.1 (4, i, 0)) (S.2.2 (4, i, 0))) hv kk
/-- the ints of one array copied over another's -/
def sC (S : zS) (k0 k : zK) (sp dp m : Nat) : zS := (fun q t => if q = k ∧ dp ≤ t ∧ t < dp + m then S.1 k0 (sp + (t - dp)) else S.1 q t, S.2.1, S.2.2)
def sCs (S : zS) (i0 : Nat) (k : zK) (sp dp m : Nat) : zS := (fun q t => if q = k ∧ dp ≤ t ∧ t < dp + m then z_st i0 (sp + (t - dp)) else S.1 q t, S.2.1, S.2.2)
theorem z_up_C {o : zW} {S : zS} {k : zK} {N sp dp m : Nat} {f : Nat → Int32} (h : z_aI o k N) : z_up (z_enc o S) k (.inl (o.2.2.1 0, N, .inl (va_cpy f (S.1 k) sp dp m))) = z_enc o (fun q t => if q = k ∧ dp ≤ t ∧ t < dp + m then f (sp + (t - dp)) else S.1 q t, S.2.1, S.2.2) := by
  funext q
  by_cases hq : q = k
  · subst hq
    have e : va_cpy f (S.1 q) sp dp m = fun t => if q = q ∧ dp ≤ t ∧ t < dp + m then f (sp + (t - dp)) else S.1 q t := by
      funext t
      simp [va_cpy]
    show (if q = q then _ else _) = z_ent o q _ _ _
    rw [if_pos rfl, h, e]
  · show (if q = k then _ else z_ent o q _ _ _) = z_ent o q _ _ _
    rw [if_neg hq]
    have e : (fun t => if q = k ∧ dp ≤ t ∧ t < dp + m then f (sp + (t - dp)) else S.1 q t) = S.1 q := by
      funext t
      simp [hq]
    show _ = z_ent o q (fun t => if q = k ∧ dp ≤ t ∧ t < dp + m then f (sp + (t - dp)) else S.1 q t) _ _
    rw [e]
theorem zE.copy {idx : Nat} {k0 k : zK} {N0 N : Nat} {sp dp m : Int32} (ha : z_AC d idx) (f0 : z_aI o k0 N0) (f : z_aI o k N) (hk0 : z_ok n k0) (hk : z_ok n k) (g1 : ¬ sp < 0) (g2 : ¬ dp < 0) (g3 : ¬ m < 0) (g4 : sp.toNatClampNeg + m.toNatClampNeg ≤ N0) (g5 : dp.toNatClampNeg + m.toNatClampNeg ≤ N) (hfr : 1 ≤ z_fr d) (hlc : (st.map fun v => v.category).sum + (nativeFrameWords "java/lang/System" "arraycopy" 5 + 11) ≤ z_lo d) (hd : decode (z_cc d) pc = .ok (.invokestatic idx, 3))
    (kk : zJ o d (pc + 3) lv st (n, z_enc o (sC S k0 k sp.toNatClampNeg dp.toNatClampNeg m.toNatClampNeg)) mc ms Q) : zJ o d pc lv (.int m :: .int dp :: .ref (z_adr o k) :: .int sp :: .ref (z_adr o k0) :: st) (n, z_enc o S) mc ms Q := by
  refine zJ.copyi ha hd hk0 (f0 (S.1 k0) (S.2.1 k0) (S.2.2 k0)) hk (f (S.1 k) (S.2.1 k) (S.2.2 k)) g1 g2 g3 g4 g5 hfr hlc ?_
  show zJ o d (pc + 3) lv st (n, z_up (z_enc o S) k (.inl (o.2.2.1 0, N, .inl (va_cpy (S.1 k0) (S.1 k) _ _ _)))) mc ms Q
  rw [z_up_C f]
  exact kk
end ZE
/-! the judgement over the regular memory, nothing made -/
def zG (o : zW) (n : Nat) (d : zD) (pc : Nat) (lv : List (Nat × Value)) (st : List Value) (S : zS) (Q : Option Value → zS → Prop) : Prop := zJ o d pc lv st (n, z_enc o S) 0 0 (fun r M => ∃ S', M = (n, z_enc o S') ∧ Q r S')
def zGv (o : zW) (n : Nat) (d : zD) (As : List Value) (S : zS) (K : zS → Prop) : Prop := zG o n d 0 (lv_args 0 As) [] S (fun r S' => r = none ∧ K S')
def zGi (o : zW) (n : Nat) (d : zD) (As : List Value) (S : zS) (K : Int32 → zS → Prop) : Prop := zG o n d 0 (lv_args 0 As) [] S (fun r S' => ∃ x, r = some (.int x) ∧ K x S')
def zGl (o : zW) (n : Nat) (d : zD) (As : List Value) (S : zS) (K : Int64 → zS → Prop) : Prop := zG o n d 0 (lv_args 0 As) [] S (fun r S' => ∃ x, r = some (.long x) ∧ K x S')
def zGf (o : zW) (n : Nat) (d : zD) (As : List Value) (S : zS) (K : UInt32 → zS → Prop) : Prop := zG o n d 0 (lv_args 0 As) [] S (fun r S' => ∃ x, r = some (.float x) ∧ K x S')
def zGd (o : zW) (n : Nat) (d : zD) (As : List Value) (S : zS) (K : UInt64 → zS → Prop) : Prop := zG o n d 0 (lv_args 0 As) [] S (fun r S' => ∃ x, r = some (.double x) ∧ K x S')
/-- an optional box of state i -/
def z_bo (o : zW) (i : Nat) (x : Option Nat) : Option Nat := x.map fun b => z_adr o (5, i, b)
def zGq (o : zW) (n : Nat) (d : zD) (i : Nat) (As : List Value) (S : zS) (K : Option Nat → zS → Prop) : Prop := zG o n d 0 (lv_args 0 As) [] S (fun r S' => ∃ x, r = some (va_rf (z_bo o i x)) ∧ (∀ b, x = some b → b < 16) ∧ K x S')
theorem zG.mono {o : zW} {n : Nat} {d : zD} {pc : Nat} {lv : List (Nat × Value)} {st : List Value} {S : zS} {Q Q' : Option Value → zS → Prop} (h : zG o n d pc lv st S Q) (hQ : ∀ r S', Q r S' → Q' r S') : zG o n d pc lv st S Q' :=
  zJ.mono h (fun r M ⟨S', h1, h2⟩ => ⟨S', h1, hQ r S' h2⟩)
theorem zG.ret {o : zW} {n : Nat} {d : zD} {pc : Nat} {lv : List (Nat × Value)} {r : Option Value} {S : zS} {mc ms : Nat} {Q : Option Value → zS → Prop} (hr : z_Ret d pc r) (h : Q r S) : zJ o d pc lv r.toList (n, z_enc o S) mc ms (fun r M => ∃ S', M = (n, z_enc o S') ∧ Q r S') := zJ.ret hr ⟨S, rfl, h⟩
theorem zG.callSv {o : zW} {d d2 : zD} {pc idx n m : Nat} {lv : List (Nat × Value)} (As rest : List Value) {S : zS} {mc ms : Nat} {Q : Option Value → zM → Prop} {K : zS → Prop} (hd : decode (z_cc d) pc = .ok (.invokestatic idx, 3)) (hb : z_LB d d2 m) (hl : z_ML d idx d2) (hst : Cond.static (z_y d2) ∈ lw_tbl) (hn : As.length = m) (hsz : (lg_sl As).length ≤ z_nl d2) (hcat : (rest.map fun v => v.category).sum ≤ 8) {stk : List Value} (hstk : stk = As.reverse ++ rest)
    (h : zGv o n d2 As S K) (kk : ∀ S2, K S2 → zJ o d (pc + 3) lv rest (n, z_enc o S2) mc ms Q) : zJ o d pc lv stk (n, z_enc o S) mc ms Q :=
  zJ.callS hd hb hl hst hn hsz hcat stk hstk h ⟨Nat.le_of_eq (Nat.zero_add _), Nat.le_of_eq (Nat.zero_add _)⟩ (fun r M ⟨S2, h1, h2, h3⟩ => by subst h1; subst h2; exact kk S2 h3)
theorem zG.callVv {o : zW} {d d2 : zD} {pc idx n m : Nat} {lv : List (Nat × Value)} (As rest : List Value) {S : zS} {mc ms : Nat} {Q : Option Value → zM → Prop} {K : zS → Prop} {k : zK} {ci : Nat} (ho : z_OBJ o k ci) (hk : z_ok n k) {T : u_T} {N : Nat} (hcl : vwCl[ci]? = some ((z_y d2).cls, T, N)) (hd : decode (z_cc d) pc = .ok (.invokevirtual idx, 3)) (hb : z_LB d d2 m) (hl : z_ML d idx d2) (hin : Cond.instanceMethod (z_y d2) ∈ lw_tbl) (hse : Cond.selects (z_y d2).cls (z_y d2) (z_y d2) ∈ lw_tbl) (hn : As.length = m) (hsz : (lg_sl (.ref (z_adr o k) :: As)).length ≤ z_nl d2) (hcat : (rest.map fun v => v.category).sum ≤ 8) {stk : List Value} (hstk : stk = As.reverse ++ .ref (z_adr o k) :: rest)
    (h : zGv o n d2 (.ref (z_adr o k) :: As) S K) (kk : ∀ S2, K S2 → zJ o d (pc + 3) lv rest (n, z_enc o S2) mc ms Q) : zJ o d pc lv stk (n, z_enc o S) mc ms Q := by
  obtain ⟨fs, hf⟩ := ho (S.1 k) (S.2.1 k) (S.2.2 k)
  exact zJ.callV hd hb hl hin hse hk hf hcl hn hsz hcat stk hstk h ⟨Nat.le_of_eq (Nat.zero_add _), Nat.le_of_eq (Nat.zero_add _)⟩ (fun r M ⟨S2, h1, h2, h3⟩ => by subst h1; subst h2; exact kk S2 h3)
theorem zG.callSi {o : zW} {d d2 : zD} {pc idx n m : Nat} {lv : List (Nat × Value)} (As rest : List Value) {S : zS} {mc ms : Nat} {Q : Option Value → zM → Prop} {K : Int32 → zS → Prop} (hd : decode (z_cc d) pc = .ok (.invokestatic idx, 3)) (hb : z_LB d d2 m) (hl : z_ML d idx d2) (hst : Cond.static (z_y d2) ∈ lw_tbl) (hn : As.length = m) (hsz : (lg_sl As).length ≤ z_nl d2) (hcat : (rest.map fun v => v.category).sum ≤ 8) {stk : List Value} (hstk : stk = As.reverse ++ rest)
    (h : zGi o n d2 As S K) (kk : ∀ x S2, K x S2 → zJ o d (pc + 3) lv (.int x :: rest) (n, z_enc o S2) mc ms Q) : zJ o d pc lv stk (n, z_enc o S) mc ms Q :=
  zJ.callS hd hb hl hst hn hsz hcat stk hstk h ⟨Nat.le_of_eq (Nat.zero_add _), Nat.le_of_eq (Nat.zero_add _)⟩ (fun r M ⟨S2, h1, x, h2, h3⟩ => by subst h1; subst h2; exact kk x S2 h3)
theorem zG.callVi {o : zW} {d d2 : zD} {pc idx n m : Nat} {lv : List (Nat × Value)} (As rest : List Value) {S : zS} {mc ms : Nat} {Q : Option Value → zM → Prop} {K : Int32 → zS → Prop} {k : zK} {ci : Nat} (ho : z_OBJ o k ci) (hk : z_ok n k) {T : u_T} {N : Nat} (hcl : vwCl[ci]? = some ((z_y d2).cls, T, N)) (hd : decode (z_cc d) pc = .ok (.invokevirtual idx, 3)) (hb : z_LB d d2 m) (hl : z_ML d idx d2) (hin : Cond.instanceMethod (z_y d2) ∈ lw_tbl) (hse : Cond.selects (z_y d2).cls (z_y d2) (z_y d2) ∈ lw_tbl) (hn : As.length = m) (hsz : (lg_sl (.ref (z_adr o k) :: As)).length ≤ z_nl d2) (hcat : (rest.map fun v => v.category).sum ≤ 8) {stk : List Value} (hstk : stk = As.reverse ++ .ref (z_adr o k) :: rest)
    (h : zGi o n d2 (.ref (z_adr o k) :: As) S K) (kk : ∀ x S2, K x S2 → zJ o d (pc + 3) lv (.int x :: rest) (n, z_enc o S2) mc ms Q) : zJ o d pc lv stk (n, z_enc o S) mc ms Q := by
  obtain ⟨fs, hf⟩ := ho (S.1 k) (S.2.1 k) (S.2.2 k)
  exact zJ.callV hd hb hl hin hse hk hf hcl hn hsz hcat stk hstk h ⟨Nat.le_of_eq (Nat.zero_add _), Nat.le_of_eq (Nat.zero_add _)⟩ (fun r M ⟨S2, h1, x, h2, h3⟩ => by subst h1; subst h2; exact kk x S2 h3)
theorem zG.callSl {o : zW} {d d2 : zD} {pc idx n m : Nat} {lv : List (Nat × Value)} (As rest : List Value) {S : zS} {mc ms : Nat} {Q : Option Value → zM → Prop} {K : Int64 → zS → Prop} (hd : decode (z_cc d) pc = .ok (.invokestatic idx, 3)) (hb : z_LB d d2 m) (hl : z_ML d idx d2) (hst : Cond.static (z_y d2) ∈ lw_tbl) (hn : As.length = m) (hsz : (lg_sl As).length ≤ z_nl d2) (hcat : (rest.map fun v => v.category).sum ≤ 8) {stk : List Value} (hstk : stk = As.reverse ++ rest)
    (h : zGl o n d2 As S K) (kk : ∀ x S2, K x S2 → zJ o d (pc + 3) lv (.long x :: rest) (n, z_enc o S2) mc ms Q) : zJ o d pc lv stk (n, z_enc o S) mc ms Q :=
  zJ.callS hd hb hl hst hn hsz hcat stk hstk h ⟨Nat.le_of_eq (Nat.zero_add _), Nat.le_of_eq (Nat.zero_add _)⟩ (fun r M ⟨S2, h1, x, h2, h3⟩ => by subst h1; subst h2; exact kk x S2 h3)
theorem zG.callVl {o : zW} {d d2 : zD} {pc idx n m : Nat} {lv : List (Nat × Value)} (As rest : List Value) {S : zS} {mc ms : Nat} {Q : Option Value → zM → Prop} {K : Int64 → zS → Prop} {k : zK} {ci : Nat} (ho : z_OBJ o k ci) (hk : z_ok n k) {T : u_T} {N : Nat} (hcl : vwCl[ci]? = some ((z_y d2).cls, T, N)) (hd : decode (z_cc d) pc = .ok (.invokevirtual idx, 3)) (hb : z_LB d d2 m) (hl : z_ML d idx d2) (hin : Cond.instanceMethod (z_y d2) ∈ lw_tbl) (hse : Cond.selects (z_y d2).cls (z_y d2) (z_y d2) ∈ lw_tbl) (hn : As.length = m) (hsz : (lg_sl (.ref (z_adr o k) :: As)).length ≤ z_nl d2) (hcat : (rest.map fun v => v.category).sum ≤ 8) {stk : List Value} (hstk : stk = As.reverse ++ .ref (z_adr o k) :: rest)
    (h : zGl o n d2 (.ref (z_adr o k) :: As) S K) (kk : ∀ x S2, K x S2 → zJ o d (pc + 3) lv (.long x :: rest) (n, z_enc o S2) mc ms Q) : zJ o d pc lv stk (n, z_enc o S) mc ms Q := by
  obtain ⟨fs, hf⟩ := ho (S.1 k) (S.2.1 k) (S.2.2 k)
  exact zJ.callV hd hb hl hin hse hk hf hcl hn hsz hcat stk hstk h ⟨Nat.le_of_eq (Nat.zero_add _), Nat.le_of_eq (Nat.zero_add _)⟩ (fun r M ⟨S2, h1, x, h2, h3⟩ => by subst h1; subst h2; exact kk x S2 h3)
theorem zG.callSf {o : zW} {d d2 : zD} {pc idx n m : Nat} {lv : List (Nat × Value)} (As rest : List Value) {S : zS} {mc ms : Nat} {Q : Option Value → zM → Prop} {K : UInt32 → zS → Prop} (hd : decode (z_cc d) pc = .ok (.invokestatic idx, 3)) (hb : z_LB d d2 m) (hl : z_ML d idx d2) (hst : Cond.static (z_y d2) ∈ lw_tbl) (hn : As.length = m) (hsz : (lg_sl As).length ≤ z_nl d2) (hcat : (rest.map fun v => v.category).sum ≤ 8) {stk : List Value} (hstk : stk = As.reverse ++ rest)
    (h : zGf o n d2 As S K) (kk : ∀ x S2, K x S2 → zJ o d (pc + 3) lv (.float x :: rest) (n, z_enc o S2) mc ms Q) : zJ o d pc lv stk (n, z_enc o S) mc ms Q :=
  zJ.callS hd hb hl hst hn hsz hcat stk hstk h ⟨Nat.le_of_eq (Nat.zero_add _), Nat.le_of_eq (Nat.zero_add _)⟩ (fun r M ⟨S2, h1, x, h2, h3⟩ => by subst h1; subst h2; exact kk x S2 h3)
theorem zG.callVf {o : zW} {d d2 : zD} {pc idx n m : Nat} {lv : List (Nat × Value)} (As rest : List Value) {S : zS} {mc ms : Nat} {Q : Option Value → zM → Prop} {K : UInt32 → zS → Prop} {k : zK} {ci : Nat} (ho : z_OBJ o k ci) (hk : z_ok n k) {T : u_T} {N : Nat} (hcl : vwCl[ci]? = some ((z_y d2).cls, T, N)) (hd : decode (z_cc d) pc = .ok (.invokevirtual idx, 3)) (hb : z_LB d d2 m) (hl : z_ML d idx d2) (hin : Cond.instanceMethod (z_y d2) ∈ lw_tbl) (hse : Cond.selects (z_y d2).cls (z_y d2) (z_y d2) ∈ lw_tbl) (hn : As.length = m) (hsz : (lg_sl (.ref (z_adr o k) :: As)).length ≤ z_nl d2) (hcat : (rest.map fun v => v.category).sum ≤ 8) {stk : List Value} (hstk : stk = As.reverse ++ .ref (z_adr o k) :: rest)
    (h : zGf o n d2 (.ref (z_adr o k) :: As) S K) (kk : ∀ x S2, K x S2 → zJ o d (pc + 3) lv (.float x :: rest) (n, z_enc o S2) mc ms Q) : zJ o d pc lv stk (n, z_enc o S) mc ms Q := by
  obtain ⟨fs, hf⟩ := ho (S.1 k) (S.2.1 k) (S.2.2 k)
  exact zJ.callV hd hb hl hin hse hk hf hcl hn hsz hcat stk hstk h ⟨Nat.le_of_eq (Nat.zero_add _), Nat.le_of_eq (Nat.zero_add _)⟩ (fun r M ⟨S2, h1, x, h2, h3⟩ => by subst h1; subst h2; exact kk x S2 h3)
theorem zG.callSd {o : zW} {d d2 : zD} {pc idx n m : Nat} {lv : List (Nat × Value)} (As rest : List Value) {S : zS} {mc ms : Nat} {Q : Option Value → zM → Prop} {K : UInt64 → zS → Prop} (hd : decode (z_cc d) pc = .ok (.invokestatic idx, 3)) (hb : z_LB d d2 m) (hl : z_ML d idx d2) (hst : Cond.static (z_y d2) ∈ lw_tbl) (hn : As.length = m) (hsz : (lg_sl As).length ≤ z_nl d2) (hcat : (rest.map fun v => v.category).sum ≤ 8) {stk : List Value} (hstk : stk = As.reverse ++ rest)
    (h : zGd o n d2 As S K) (kk : ∀ x S2, K x S2 → zJ o d (pc + 3) lv (.double x :: rest) (n, z_enc o S2) mc ms Q) : zJ o d pc lv stk (n, z_enc o S) mc ms Q :=
  zJ.callS hd hb hl hst hn hsz hcat stk hstk h ⟨Nat.le_of_eq (Nat.zero_add _), Nat.le_of_eq (Nat.zero_add _)⟩ (fun r M ⟨S2, h1, x, h2, h3⟩ => by subst h1; subst h2; exact kk x S2 h3)
theorem zG.callVd {o : zW} {d d2 : zD} {pc idx n m : Nat} {lv : List (Nat × Value)} (As rest : List Value) {S : zS} {mc ms : Nat} {Q : Option Value → zM → Prop} {K : UInt64 → zS → Prop} {k : zK} {ci : Nat} (ho : z_OBJ o k ci) (hk : z_ok n k) {T : u_T} {N : Nat} (hcl : vwCl[ci]? = some ((z_y d2).cls, T, N)) (hd : decode (z_cc d) pc = .ok (.invokevirtual idx, 3)) (hb : z_LB d d2 m) (hl : z_ML d idx d2) (hin : Cond.instanceMethod (z_y d2) ∈ lw_tbl) (hse : Cond.selects (z_y d2).cls (z_y d2) (z_y d2) ∈ lw_tbl) (hn : As.length = m) (hsz : (lg_sl (.ref (z_adr o k) :: As)).length ≤ z_nl d2) (hcat : (rest.map fun v => v.category).sum ≤ 8) {stk : List Value} (hstk : stk = As.reverse ++ .ref (z_adr o k) :: rest)
    (h : zGd o n d2 (.ref (z_adr o k) :: As) S K) (kk : ∀ x S2, K x S2 → zJ o d (pc + 3) lv (.double x :: rest) (n, z_enc o S2) mc ms Q) : zJ o d pc lv stk (n, z_enc o S) mc ms Q := by
  obtain ⟨fs, hf⟩ := ho (S.1 k) (S.2.1 k) (S.2.2 k)
  exact zJ.callV hd hb hl hin hse hk hf hcl hn hsz hcat stk hstk h ⟨Nat.le_of_eq (Nat.zero_add _), Nat.le_of_eq (Nat.zero_add _)⟩ (fun r M ⟨S2, h1, x, h2, h3⟩ => by subst h1; subst h2; exact kk x S2 h3)
theorem zG.callVq {o : zW} {d d2 : zD} {pc idx n m : Nat} {lv : List (Nat × Value)} (i : Nat) (As rest : List Value) {S : zS} {mc ms : Nat} {Q : Option Value → zM → Prop} {K : Option Nat → zS → Prop} {k : zK} {ci : Nat} (ho : z_OBJ o k ci) (hk : z_ok n k) {T : u_T} {N : Nat} (hcl : vwCl[ci]? = some ((z_y d2).cls, T, N)) (hd : decode (z_cc d) pc = .ok (.invokevirtual idx, 3)) (hb : z_LB d d2 m) (hl : z_ML d idx d2) (hin : Cond.instanceMethod (z_y d2) ∈ lw_tbl) (hse : Cond.selects (z_y d2).cls (z_y d2) (z_y d2) ∈ lw_tbl) (hn : As.length = m) (hsz : (lg_sl (.ref (z_adr o k) :: As)).length ≤ z_nl d2) (hcat : (rest.map fun v => v.category).sum ≤ 8) {stk : List Value} (hstk : stk = As.reverse ++ .ref (z_adr o k) :: rest)
    (h : zGq o n d2 i (.ref (z_adr o k) :: As) S K) (kk : ∀ x S2, (∀ b, x = some b → b < 16) → K x S2 → zJ o d (pc + 3) lv (va_rf (z_bo o i x) :: rest) (n, z_enc o S2) mc ms Q) : zJ o d pc lv stk (n, z_enc o S) mc ms Q := by
  obtain ⟨fs, hf⟩ := ho (S.1 k) (S.2.1 k) (S.2.2 k)
  exact zJ.callV hd hb hl hin hse hk hf hcl hn hsz hcat stk hstk h ⟨Nat.le_of_eq (Nat.zero_add _), Nat.le_of_eq (Nat.zero_add _)⟩ (fun r M ⟨S2, h1, x, h2, h4, h3⟩ => by subst h1; subst h2; exact kk x S2 h4 h3)
theorem kiX0 : z_KI 0 RX0 TX0 12 tyX0 := ⟨rfl, by decide +kernel, tyX0_ok, nmX0, by decide +kernel⟩
theorem kiX1 : z_KI 1 RX1 TX1 8 tyX1 := ⟨rfl, by decide +kernel, tyX1_ok, nmX1, by decide +kernel⟩
theorem kiX2 : z_KI 2 RX2 TX2 9 tyX2 := ⟨rfl, by decide +kernel, tyX2_ok, nmX2, by decide +kernel⟩
theorem kiX3 : z_KI 3 RX3 TX3 8 tyX3 := ⟨rfl, by decide +kernel, tyX3_ok, nmX3, by decide +kernel⟩
theorem kiX4 : z_KI 4 RX4 TX4 7 tyX4 := ⟨rfl, by decide +kernel, tyX4_ok, nmX4, by decide +kernel⟩
