/-! the reference reads THE TEXT -/
/-- nothing but where it reads has changed -/
def r_rf (S S' : zS) : Prop := (∀ (q : zK) t, ¬ (q = (23, 0, 0) ∧ (t = 31 ∨ t = 32 ∨ t = 33)) → S'.1 q t = S.1 q t) ∧ S'.2 = S.2
/-- nothing but that and the state has changed -/
def r_tf (S S' : zS) : Prop := (∀ (q : zK) t, ¬ (25 ≤ q.1 ∧ q.1 ≤ 43) → ¬ (q = (23, 0, 0) ∧ (t = 31 ∨ t = 32 ∨ t = 33)) → S'.1 q t = S.1 q t) ∧ (∀ (q : zK) t, ¬ (q = (23, 0, 0) ∧ (t = 21 ∨ t = 22)) → S'.2.1 q t = S.2.1 q t) ∧ ∀ (q : zK) t, ¬ (q = (23, 0, 0) ∧ t = 20) → S'.2.2 q t = S.2.2 q t
theorem rf_rf (S : zS) : r_rf S S := ⟨fun _ _ _ => rfl, rfl⟩
theorem rf_tr {S S1 S2 : zS} (h : r_rf S S1) (h2 : r_rf S1 S2) : r_rf S S2 := ⟨fun q t hq => (h2.1 q t hq).trans (h.1 q t hq), h2.2.trans h.2⟩
theorem rf_I {S S1 : zS} (h : r_rf S S1) (s : Nat) (v : Int32) (hs : s = 31 ∨ s = 32 ∨ s = 33) : r_rf S (sI S1 (23, 0, 0) s v) := by
  refine ⟨fun q t hq => ?_, h.2⟩
  rw [← h.1 q t hq]
  have : ¬ (q = (23, 0, 0) ∧ t = s) := fun e => hq ⟨e.1, by omega⟩
  simp only [sI, if_neg this]
theorem tf_rf {S S' : zS} (h : r_rf S S') : r_tf S S' := ⟨fun q t _ n => h.1 q t n, fun q t _ => by rw [h.2], fun q t _ => by rw [h.2]⟩
theorem tf_fr {S S' : zS} (h : r_fr S S') : r_tf S S' := ⟨fun q t n _ => by rw [h.1 q n], h.2.1, h.2.2⟩
theorem tf_tr {S S1 S2 : zS} (h : r_tf S S1) (h2 : r_tf S1 S2) : r_tf S S2 := ⟨fun q t a b => (h2.1 q t a b).trans (h.1 q t a b), fun q t a => (h2.2.1 q t a).trans (h.2.1 q t a), fun q t a => (h2.2.2 q t a).trans (h.2.2 q t a)⟩
theorem txt_tf {S S' : zS} {t : Nat → Nat} {n : Nat} (h : r_txt S t n) (hf : r_tf S S') : r_txt S' t n := by
  refine ⟨?_, h.2.1, fun k hk => ?_⟩
  · rw [hf.1 (23, 0, 0) 30 (by simp) (by simp)]; exact h.1
  · rw [hf.1 (48, 0, 0) k (by simp) (by simp)]; exact h.2.2 k hk
theorem R_rf {S S' : zS} {A : mS} (h : r_R S A) (hb : m_bd A) (hf : r_rf S S') : r_R S' A :=
  rr_cp h hb (fun k t h1 h2 _ => hf.1 _ t (fun e => by have := congrArg Prod.fst e.1; simp only at this; omega)) (by rw [hf.2]) (by rw [hf.2]) (by rw [hf.2])
theorem rtxt_128 {S : zS} {t : Nat → Nat} {n : Nat} (h : r_txt S t n) : ∀ k, k < n → t k < 128 := fun k hk => (h.2.2 k hk).2
section RPN
variable {o : zW}
theorem rs_here (S : zS) {t : Nat → Nat} {n p : Nat} (h : r_txt S t n) (hp : p < 2 ^ 31) (h31 : S.1 (23, 0, 0) 31 = nI p) (K : Int32 → zS → Prop) (hK : K (m_y t n p) S) : zGi o 994 mdX5_here [.ref (z_adr o (23, 0, 0))] S K := by
  obtain ⟨h1, h2, h3⟩ := h
  refine w_X5_here_0 o S _ ?_
  rw [h1, h31]
  unfold m_y at hK
  refine ⟨fun hc => ⟨_, rfl, ?_⟩, fun hc => ?_⟩
  · have := (nI_leI (by omega) hp).1 hc
    rw [if_neg (by omega)] at hK
    exact hK
  · have hlt : p < n := by
      rcases Nat.lt_or_ge p n with g | g
      · exact g
      · exact absurd (nI_le g hp) hc
    rw [if_pos hlt] at hK
    refine ⟨z_in (by omega) (by omega), ⟨_, rfl, ?_⟩⟩
    rw [z_cl hp, (h3 p hlt).1]
    exact hK
theorem rs_skips (S : zS) {t : Nat → Nat} {n p : Nat} (h : r_txt S t n) (hp : p ≤ n) (h31 : S.1 (23, 0, 0) 31 = nI p) (K : zS → Prop) (hK : ∀ S', r_rf S S' → S'.1 (23, 0, 0) 31 = nI (m_sk t n p) → S'.1 (23, 0, 0) 32 = nI (m_sk t n p) → K S') : zGv o 994 mdX5_skips [.ref (z_adr o (23, 0, 0))] S K := by
  have ht := rtxt_128 h
  have hn := h.2.1
  have key : ∀ d (S' : zS) (q : Nat), n - q ≤ d → q ≤ n → r_rf S S' → S'.1 (23, 0, 0) 31 = nI q → m_sk t n q = m_sk t n p → zG o 994 mdX5_skips 0 [(0, .ref (z_adr o (23, 0, 0)))] [] S' (fun r S'' => r = none ∧ K S'') := by
    intro d
    induction d with
    | zero =>
      intro S' q hd hq hf e31 es
      refine w_X5_skips_0 o S' _ (rs_here S' (txt_tf h (tf_rf hf)) (by omega) e31 _ ⟨fun _ => ?_, fun hc => ?_⟩)
      · have hs : m_sk t n q = q := sk_end (by omega)
        rw [e31]
        refine ⟨rfl, hK _ (rf_I hf 32 _ (by omega)) ?_ ?_⟩
        · rw [← es, hs]; simpa [sI] using e31
        · rw [← es, hs]; simp [sI]
      · have := (y_eq ht (c := 32) (by omega)).1 hc
        omega
    | succ d ih =>
      intro S' q hd hq hf e31 es
      refine w_X5_skips_0 o S' _ (rs_here S' (txt_tf h (tf_rf hf)) (by omega) e31 _ ⟨fun hne => ?_, fun hc => ?_⟩)
      · have hs : m_sk t n q = q := sk_end (fun hx => hne ((y_eq ht (c := 32) (by omega)).2 hx))
        rw [e31]
        refine ⟨rfl, hK _ (rf_I hf 32 _ (by omega)) ?_ ?_⟩
        · rw [← es, hs]; simpa [sI] using e31
        · rw [← es, hs]; simp [sI]
      · have hx := (y_eq ht (c := 32) (by omega)).1 hc
        have hs : m_sk t n q = m_sk t n (q + 1) := by rw [sk_eq, if_pos hx]
        rw [e31, ← nI_succ]
        exact ih _ (q + 1) (by omega) (by omega) (rf_I hf 31 _ (by omega)) (by simp [sI]) (hs.symm.trans es)
  exact key (n - p) S p (Nat.le_refl _) hp (rf_rf S) h31 rfl
theorem rs_number (S : zS) {t : Nat → Nat} {n p : Nat} (h : r_txt S t n) (hp : p ≤ n) (h31 : S.1 (23, 0, 0) 31 = nI p) (K : Int32 → zS → Prop) (hK1 : m_two t n (m_sk t n p) → ∀ S', r_rf S S' → S'.1 (23, 0, 0) 31 = nI (m_sk t n p + m_dg t n (m_sk t n p)) → S'.1 (23, 0, 0) 33 = nI (m_vp t (m_sk t n p) (m_dg t n (m_sk t n p))) → K 1 S') (hK0 : ¬ m_two t n (m_sk t n p) → ∀ S', r_rf S S' → S'.1 (23, 0, 0) 32 = nI (m_sk t n p) → K 0 S') : zGi o 994 mdX5_number [.ref (z_adr o (23, 0, 0))] S K := by
  have ht := rtxt_128 h
  have hn := h.2.1
  refine w_X5_number_0 o S _ (rs_skips S h hp h31 _ (fun S3 f3 a31 a32 => ?_))
  have hsn := sk_n (t := t) hp
  generalize hs : m_sk t n p = s at *
  have hdn := dg_n (t := t) hsn
  have hvp : ∀ c, 2 ≤ c → m_vp t s c = m_vp t s 2 := by
    intro c hc
    unfold m_vp
    rw [if_neg (by omega), if_neg (by omega)]
    simp
  refine z_down (m_dg t n s) (fun c => ∀ S' : zS, r_rf S S' → S'.1 (23, 0, 0) 31 = nI (s + c) → S'.1 (23, 0, 0) 32 = nI s → zG o 994 mdX5_number 8 [(0, .ref (z_adr o (23, 0, 0))), (1, .int (nI c)), (2, .int (nI (m_vp t s c)))] [] S' (fun r S'' => ∃ x, r = some (.int x) ∧ K x S'')) ?_ ?_ 0 (by omega) S3 f3 a31 a32
  · intro S' f' b31 b32
    have hS' := txt_tf h (tf_rf f')
    refine w_X5_number_8 o _ _ S' _ (rs_here S' hS' (by omega) b31 _ ?_)
    have hno := dg_no t n s
    refine rs_in _ 48 57 S' _ (fun a b => ?_) (fun _ => ⟨fun _ => ?_, fun hc => absurd rfl hc⟩)
    · exfalso
      have x1 : s + m_dg t n s < n ∧ 48 ≤ t (s + m_dg t n s) := by
        apply Classical.byContradiction
        intro hc
        exact a ((y_lt ht (c := 48) (by omega)).2 hc)
      have x2 : ¬ 57 < t (s + m_dg t n s) := fun hc => b ((y_gt ht (c := 57) (by omega)).2 ⟨x1.1, hc⟩)
      exact hno ⟨x1.1, x1.2, by omega⟩
    · refine rs_in _ 1 2 _ _ (fun a b => ⟨rfl, _, rfl, ?_⟩) (fun a => ⟨rfl, _, rfl, ?_⟩)
      · have h1 : 1 ≤ m_dg t n s := by
          rcases Nat.eq_zero_or_pos (m_dg t n s) with g | g
          · rw [g] at a; exact absurd (by decide) a
          · exact g
        have h2 : m_dg t n s ≤ 2 := by
          rcases Nat.lt_or_ge 2 (m_dg t n s) with g | g
          · exact absurd (nI_lt (a := 2) g (by omega)) b
          · exact g
        exact hK1 (by unfold m_two; omega) _ (rf_I f' 33 _ (by omega)) (by simpa [sI] using b31) (by simp [sI])
      · refine hK0 (fun h2 => ?_) _ (rf_I f' 33 _ (by omega)) (by simpa [sI] using b32)
        rcases a with a | a
        · have := (nI_ltI (b := 1) (by omega) (by omega)).1 a
          rcases h2 with h2 | h2 <;> omega
        · have := (nI_ltI (a := 2) (by omega) (by omega)).1 a
          rcases h2 with h2 | h2 <;> omega
  · intro c hc ih S' f' b31 b32
    have hS' := txt_tf h (tf_rf f')
    have hfig := (dg_at t n c s).1 hc c (Nat.le_refl _)
    have ey : m_y t n (s + c) = nI (t (s + c)) := if_pos hfig.1
    refine w_X5_number_8 o _ _ S' _ (rs_here S' hS' (by omega) b31 _ ?_)
    refine rs_in _ 48 57 S' _ (fun a b => ⟨fun hc => absurd hc (by decide), fun _ => ⟨fun h2 => ?_, fun h2 => ?_⟩⟩) (fun a => ?_)
    · have hc2 : 2 ≤ c := (nI_leI (a := 2) (by omega) (by omega)).1 h2
      rw [b31, ← nI_succ, ← nI_succ]
      have := ih (sI S' (23, 0, 0) 31 (nI (s + c + 1))) (rf_I f' 31 _ (by omega)) (by simp [sI]; rfl) (by simpa [sI] using b32)
      rw [hvp (c + 1) (by omega), ← hvp c hc2] at this
      exact this
    · have hc2 : c < 2 := by
        rcases Nat.lt_or_ge c 2 with g | g
        · exact g
        · exact absurd (nI_le (a := 2) g (by omega)) h2
      refine rs_here S' hS' (by omega) b31 _ ?_
      rw [b31, ← nI_succ, ← nI_succ]
      have ev : 10 * nI (m_vp t s c) + m_y t n (s + c) - 48 = nI (m_vp t s (c + 1)) := by
        rw [ey, show (10 : Int32) = nI 10 from rfl, pk_mul, nI_add, show (48 : Int32) = nI 48 from rfl, pk_sub (by have := hfig.2.1; omega)]
        refine congrArg nI ?_
        have := hfig.2.1
        have : c = 0 ∨ c = 1 := by omega
        rcases this with e | e <;> subst e
        · simp [m_vp]
        · simp only [m_vp]; simp; omega
      rw [ev]
      exact ih (sI S' (23, 0, 0) 31 (nI (s + c + 1))) (rf_I f' 31 _ (by omega)) (by simp [sI]; rfl) (by simpa [sI] using b32)
    · exfalso
      rcases a with a | a
      · exact (y_lt ht (c := 48) (by omega)).1 a ⟨hfig.1, hfig.2.1⟩
      · have := (y_gt ht (c := 57) (by omega)).1 a
        have := hfig.2.2
        omega
theorem rs_ends (S : zS) {t : Nat → Nat} {n e : Nat} (h : r_txt S t n) (he : e ≤ n) (h31 : S.1 (23, 0, 0) 31 = nI e) (K : Int32 → zS → Prop) (hK1 : (m_sk t n e < n ∧ t (m_sk t n e) = 59) → ∀ S', r_rf S S' → S'.1 (23, 0, 0) 31 = nI (m_sk t n e + 1) → K 1 S') (hK0 : ¬ (m_sk t n e < n ∧ t (m_sk t n e) = 59) → ∀ S', r_rf S S' → S'.1 (23, 0, 0) 32 = nI (m_sk t n e) → K 0 S') : zGi o 994 mdX5_ends [.ref (z_adr o (23, 0, 0))] S K := by
  have ht := rtxt_128 h
  have hn := h.2.1
  have hsn := sk_n (t := t) he
  refine w_X5_ends_0 o S _ (rs_skips S h he h31 _ (fun S3 f3 a31 a32 => rs_here S3 (txt_tf h (tf_rf f3)) (by omega) a31 _ ⟨fun h59 => ⟨_, rfl, ?_⟩, fun h59 => ⟨_, rfl, ?_⟩⟩))
  · rw [a31, ← nI_succ]
    exact hK1 ((y_eq ht (c := 59) (by omega)).1 h59) _ (rf_I f3 31 _ (by omega)) (by simp [sI])
  · exact hK0 (fun hc => h59 ((y_eq ht (c := 59) (by omega)).2 hc)) S3 f3 a32
/-- what an order read answers, and does where it is to -/
def r_out (ac : Bool) (B : Nat) (A : mS) (S0 : zS) (r : Nat ⊕ (mO × Nat)) (K : Int32 → zS → Prop) : Prop := ∀ S', r_tf S0 S' → match r with
  | .inl e => S'.1 (23, 0, 0) 32 = nI e → r_R S' A → K 0 S'
  | .inr (x, q) => S'.1 (23, 0, 0) 31 = nI q → r_R S' (if ac then m_exec A x else A) → m_am (B + 1000) 0 (if ac then m_exec A x else A) → K 1 S'
abbrev r_ac (ac : Bool) : Int32 := if ac then 1 else 0
/-- an order's end, then its doing -/
theorem rs_finQ {ac : Bool} {B : Nat} (hB : B + 1000 < 2 ^ 30) (S0 S : zS) {A : mS} {t : Nat → Nat} {n e : Nat} (h : r_txt S t n) (he : e ≤ n) (h31 : S.1 (23, 0, 0) 31 = nI e) (hf : r_tf S0 S) (hR : r_R S A) (ham : m_am B 0 A) (q : mR) (hq : m_rok q) (x1 x2 x3 x4 : Int32) (hx : r_call q x1 x2 x3 x4) (K : Int32 → zS → Prop) (hK : r_out ac B A S0 (m_fin t n (.inr q) e) K) : zGi o 994 mdX5_ends [.ref (z_adr o (23, 0, 0))] S (fun r S28 => (¬ r = 0 → ((r_ac ac = 0 → ∃ x, some (Value.int 1) = some (.int x) ∧ K x S28) ∧ (¬ r_ac ac = 0 → zGi o 994 mdX5_done [.ref (z_adr o (23, 0, 0)), .int x1, .int x2, .int x3, .int x4] S28 (fun _ S34 => ∃ x, some (Value.int 1) = some (.int x) ∧ K x S34)))) ∧ (r = 0 → ∃ x, some (Value.int 0) = some (.int x) ∧ K x S28)) := by
  have hb := bd_am ham
  refine rs_ends S h he h31 _ (fun hc S' f' a31 => ⟨fun _ => ?_, fun hc => absurd hc (by decide)⟩) (fun hc S' f' a32 => ⟨fun hc => absurd rfl hc, fun _ => ⟨_, rfl, ?_⟩⟩)
  · have ef : m_fin t n (.inr q) e = .inr (.inr q, m_sk t n e + 1) := if_pos hc
    rw [ef] at hK
    have hR' := R_rf hR hb f'
    cases ac with
    | false => exact ⟨fun _ => ⟨_, rfl, hK S' (tf_tr hf (tf_rf f')) a31 hR' (am_B ham (Nat.le_add_right _ _))⟩, fun hc => absurd rfl hc⟩
    | true =>
      refine ⟨fun hc => absurd hc (by decide), fun _ => ?_⟩
      refine rs_done q hq x1 x2 x3 x4 hx S' S' hR' (r_fr.rf S') ham hB _ (fun S'' h'' f'' => ⟨_, rfl, ?_⟩)
      refine hK S'' (tf_tr hf (tf_tr (tf_rf f') (tf_fr f''))) ?_ h'' (rl_beg hq 1000 A B ham hB)
      rw [f''.1 (23, 0, 0) (by simp)]; exact a31
  · have ef : m_fin t n (.inr q) e = .inl (m_sk t n e) := if_neg hc
    rw [ef] at hK
    exact hK S' (tf_tr hf (tf_rf f')) a32 (R_rf hR hb f')
theorem rs_readsBox {ac : Bool} {B : Nat} (hB : B + 1000 < 2 ^ 30) (S0 S : zS) {A : mS} {t : Nat → Nat} {n p : Nat} (h : r_txt S t n) (hp : p < n) (hl : 97 ≤ t p ∧ t p ≤ 112) (h31 : S.1 (23, 0, 0) 31 = nI p) (hf : r_tf S0 S) (hR : r_R S A) (ham : m_am B 0 A) (K : Int32 → zS → Prop) (hK : r_out ac B A S0 (m_rdb t n (t p - 97) (p + 1)) K) : zGi o 994 mdX5_readsBox [.ref (z_adr o (23, 0, 0)), .int (r_ac ac)] S K := by
  have ht := rtxt_128 h
  have hn := h.2.1
  have hb := bd_am ham
  refine w_X5_readsBox_0 o _ S _ (rs_here S h (by omega) h31 _ ?_)
  have ey : m_y t n p - 97 = nI (t p - 97) := by
    have : m_y t n p = nI (t p) := if_pos hp
    rw [this, show (97 : Int32) = nI 97 from rfl, pk_sub hl.1]
  rw [ey, h31, ← nI_succ]
  have f1 : r_rf S (sI S (23, 0, 0) 31 (nI (p + 1))) := rf_I (rf_rf S) 31 _ (by omega)
  have a1 : (sI S (23, 0, 0) 31 (nI (p + 1))).1 (23, 0, 0) 31 = nI (p + 1) := by simp [sI]
  generalize sI S (23, 0, 0) 31 (nI (p + 1)) = S1 at f1 a1
  refine rs_skips S1 (txt_tf h (tf_rf f1)) (by omega) a1 _ (fun S6 f6 a31 a32 => ?_)
  have f6' := rf_tr f1 f6
  have hsn := sk_n (t := t) (n := n) (p := p + 1) (by omega)
  unfold m_rdb at hK
  generalize hs : m_sk t n (p + 1) = s at *
  refine rs_here S6 (txt_tf h (tf_rf f6')) (by omega) a31 _ ?_
  refine rs_in _ 48 51 S6 _ (fun a b => ⟨fun _ => ?_, fun hc => absurd hc (by decide)⟩) (fun a => ⟨fun hc => absurd rfl hc, fun _ => ⟨_, rfl, ?_⟩⟩)
  · have c1 : s < n ∧ 48 ≤ t s := by
      apply Classical.byContradiction
      intro hc
      exact a ((y_lt ht (c := 48) (by omega)).2 hc)
    have c2 : ¬ 51 < t s := fun hc => b ((y_gt ht (c := 51) (by omega)).2 ⟨c1.1, hc⟩)
    rw [if_pos ⟨c1.1, c1.2, by omega⟩] at hK
    refine rs_here S6 (txt_tf h (tf_rf f6')) (by omega) a31 _ ?_
    have ey2 : m_y t n s - 48 = nI (t s - 48) := by
      have : m_y t n s = nI (t s) := if_pos c1.1
      rw [this, show (48 : Int32) = nI 48 from rfl, pk_sub c1.2]
    rw [ey2, a31, ← nI_succ]
    have f7 : r_rf S (sI S6 (23, 0, 0) 31 (nI (s + 1))) := rf_I f6' 31 _ (by omega)
    have a7 : (sI S6 (23, 0, 0) 31 (nI (s + 1))).1 (23, 0, 0) 31 = nI (s + 1) := by simp [sI]
    generalize sI S6 (23, 0, 0) 31 (nI (s + 1)) = S7 at f7 a7
    refine rs_skips S7 (txt_tf h (tf_rf f7)) (by omega) a7 _ (fun S19 f19 b31 b32 => ?_)
    have f19' := rf_tr f7 f19
    have hsn2 := sk_n (t := t) (n := n) (p := s + 1) (by omega)
    generalize hs2 : m_sk t n (s + 1) = s2 at *
    refine rs_here S19 (txt_tf h (tf_rf f19')) (by omega) b31 _ ⟨fun hne => ?_, fun heq => ?_⟩
    · have c3 : ¬ (s2 < n ∧ t s2 = 61) := fun hc => hne ((y_eq ht (c := 61) (by omega)).2 hc)
      rw [if_neg c3] at hK
      exact rs_finQ hB S0 S19 (txt_tf h (tf_rf f19')) hsn2 b31 (tf_tr hf (tf_rf f19')) (R_rf hR hb f19') ham (some (t p - 97, t s - 48, none)) (rok_some (by omega) (by omega) (fun x hx => by cases hx)) 0 _ _ 0 ⟨rfl, rfl, rfl, fun x hx => by cases hx⟩ K hK
    · have c3 := (y_eq ht (c := 61) (by omega)).1 heq
      rw [if_pos c3] at hK
      rw [b31, ← nI_succ]
      have f8 : r_rf S (sI S19 (23, 0, 0) 31 (nI (s2 + 1))) := rf_I f19' 31 _ (by omega)
      have a8 : (sI S19 (23, 0, 0) 31 (nI (s2 + 1))).1 (23, 0, 0) 31 = nI (s2 + 1) := by simp [sI]
      generalize sI S19 (23, 0, 0) 31 (nI (s2 + 1)) = S8 at f8 a8
      have hsn3 := sk_n (t := t) (n := n) (p := s2 + 1) (by omega)
      refine rs_number S8 (txt_tf h (tf_rf f8)) (by omega) a8 _ (fun h2 S38 f38 c31 c33 => ⟨fun _ => ?_, fun hc => absurd hc (by decide)⟩) (fun h2 S38 f38 c32 => ⟨fun hc => absurd rfl hc, fun _ => ⟨_, rfl, ?_⟩⟩)
      · rw [if_pos h2] at hK
        have f38' := rf_tr f8 f38
        rw [c33]
        have h99 := vp_99 h2
        refine rs_finQ hB S0 S38 (txt_tf h (tf_rf f38')) (dg_n hsn3) c31 (tf_tr hf (tf_rf f38')) (R_rf hR hb f38') ham (some (t p - 97, t s - 48, some (nI (m_vp t (m_sk t n (s2 + 1)) (m_dg t n (m_sk t n (s2 + 1))))))) (rok_some (by omega) (by omega) (fun x hx => ?_)) 1 _ _ _ ⟨rfl, rfl, rfl, fun x hx => ?_⟩ K hK
        · simp only [Option.some.injEq] at hx
          rw [← hx]; exact nI_m1 (by omega)
        · simp only [Option.some.injEq] at hx
          exact hx
      · rw [if_neg h2] at hK
        have f38' := rf_tr f8 f38
        exact hK S38 (tf_tr hf (tf_rf f38')) c32 (R_rf hR hb f38')
  · have c : ¬ (s < n ∧ 48 ≤ t s ∧ t s ≤ 51) := by
      rintro ⟨x1, x2, x3⟩
      rcases a with a | a
      · exact (y_lt ht (c := 48) (by omega)).1 a ⟨x1, x2⟩
      · have := (y_gt ht (c := 51) (by omega)).1 a
        omega
    rw [if_neg c] at hK
    exact hK S6 (tf_tr hf (tf_rf f6')) a32 (R_rf hR hb f6')
end RPN
