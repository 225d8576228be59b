section RPO
variable {o : zW}
theorem rs_idleL {N : Nat} (hN : N ≤ 99) (S0 : zS) (K : Int32 → zS → Prop) : ∀ f, f ≤ N → ∀ (S : zS) (A : mS) (B : Nat), r_R S A → r_fr S0 S → m_am B 0 A → B + f < 2 ^ 30 →
    (∀ S', r_R S' (m_idle f A) → r_fr S0 S' → K 1 S') →
    zG o 994 mdX5_readsOrder 110 [(0, .ref (z_adr o (23, 0, 0))), (1, .int 1), (3, .int (nI N)), (4, .int (nI (N - f)))] [] S (fun r S' => ∃ y, r = some (.int y) ∧ K y S') := by
  intro f
  induction f with
  | zero =>
    intro _ S A B h hf ham hB hK
    exact w_X5_readsOrder_110 o _ _ _ S _ ⟨fun _ => ⟨_, rfl, hK S h hf⟩, fun hc => absurd (Int32.le_refl _) hc⟩
  | succ f ih =>
    intro hf1 S A B h hf ham hB hK
    have e1 : nI (N - (f + 1)) + 1 = nI (N - f) := by rw [← nI_succ]; exact congrArg nI (by omega)
    refine w_X5_readsOrder_110 o _ _ _ S _ ⟨fun hc => absurd hc (z_ge (a := N - (f + 1)) (b := N) (by omega) (by omega)), fun _ => ⟨fun hc => absurd hc (by decide), fun _ => ?_⟩⟩
    refine rs_goesBy S0 S h hf ham _ (fun S4 h4 f4 => ?_)
    rw [e1]
    exact ih (by omega) S4 (m_pass A) (B + 1) h4 f4 (am_01 (am_pass ham (by omega))) (by omega) hK
theorem rs_readsOrder {ac : Bool} {B : Nat} (hB : B + 1000 < 2 ^ 30) (S0 S : zS) {A : mS} {t : Nat → Nat} {n p : Nat} (h : r_txt S t n) (hp : p ≤ n) (hp2 : m_sk t n p < n) (h31 : S.1 (23, 0, 0) 31 = nI p) (hf : r_tf S0 S) (hR : r_R S A) (ham : m_am B 0 A) (K : Int32 → zS → Prop) (hK : r_out ac B A S0 (m_rd t n (m_sk t n p)) K) : zGi o 994 mdX5_readsOrder [.ref (z_adr o (23, 0, 0)), .int (r_ac ac)] S K := by
  have ht := rtxt_128 h
  have hn := h.2.1
  have hb := bd_am ham
  refine w_X5_readsOrder_0 o _ S _ (rs_skips S h hp h31 _ (fun S3 f3 a31 a32 => ?_))
  generalize hs : m_sk t n p = s at *
  have h3 := txt_tf h (tf_rf f3)
  refine rs_here S3 h3 (by omega) a31 _ ?_
  have ey : m_y t n s = nI (t s) := if_pos hp2
  have h128 := ht s hp2
  unfold m_rd at hK
  have eq33 : m_y t n s = 33 ↔ t s = 33 := by rw [ey]; exact nI_eq (b := 33) (by omega) (by omega)
  have eq35 : m_y t n s = 35 ↔ t s = 35 := by rw [ey]; exact nI_eq (b := 35) (by omega) (by omega)
  refine rs_in _ 97 112 S3 _ (fun a b => ⟨fun hc => absurd hc (by decide), fun _ => ?_⟩) (fun a => ⟨fun _ => ?_, fun hc => absurd rfl hc⟩)
  · have c1 : 97 ≤ t s := by
      apply Classical.byContradiction
      intro hc
      exact a ((y_lt ht (c := 97) (by omega)).2 (fun hx => hc hx.2))
    have c2 : t s ≤ 112 := by
      apply Classical.byContradiction
      intro hc
      exact b ((y_gt ht (c := 112) (by omega)).2 ⟨hp2, by omega⟩)
    rw [if_pos ⟨c1, c2⟩] at hK
    refine rs_readsBox hB S0 S3 h3 hp2 ⟨c1, c2⟩ a31 (tf_tr hf (tf_rf f3)) (R_rf hR hb f3) ham _ (fun S' f' => ?_)
    have := hK S' f'
    cases hr : m_rdb t n (t s - 97) (s + 1) with
    | inl e => rw [hr] at this; exact fun x1 x2 => ⟨rfl, _, rfl, this x1 x2⟩
    | inr y =>
      obtain ⟨x, q⟩ := y
      rw [hr] at this
      exact fun x1 x2 x3 => ⟨rfl, _, rfl, this x1 x2 x3⟩
  · have n1 : ¬ (97 ≤ t s ∧ t s ≤ 112) := by
      rintro ⟨x1, x2⟩
      rcases a with a | a
      · exact (y_lt ht (c := 97) (by omega)).1 a ⟨hp2, x1⟩
      · have := (y_gt ht (c := 112) (by omega)).1 a
        omega
    rw [if_neg n1] at hK
    rw [a31, ← nI_succ]
    have f4 : r_rf S (sI S3 (23, 0, 0) 31 (nI (s + 1))) := rf_I f3 31 _ (by omega)
    have a4 : (sI S3 (23, 0, 0) 31 (nI (s + 1))).1 (23, 0, 0) 31 = nI (s + 1) := by simp [sI]
    generalize sI S3 (23, 0, 0) 31 (nI (s + 1)) = S4 at f4 a4
    have h4 := txt_tf h (tf_rf f4)
    refine ⟨fun n33 => ?_, fun e33 => ?_⟩
    · have c33 : ¬ t s = 33 := fun e => n33 (eq33.2 e)
      rw [if_neg c33] at hK
      refine ⟨fun e35 => ?_, fun n35 => ?_⟩
      · rw [if_pos (eq35.1 e35)] at hK
        have hsn := sk_n (t := t) (n := n) (p := s + 1) (by omega)
        refine rs_number S4 h4 (by omega) a4 _ (fun h2 S15 f15 c31 c33 => ⟨fun _ => ?_, fun hc => absurd hc (by decide)⟩) (fun h2 S15 f15 c32 => ⟨fun hc => absurd rfl hc, fun _ => ⟨_, rfl, ?_⟩⟩)
        · rw [if_pos h2] at hK
          have f15' := rf_tr f4 f15
          have h99 := vp_99 h2
          rw [c33]
          generalize hv : m_vp t (m_sk t n (s + 1)) (m_dg t n (m_sk t n (s + 1))) = v at *
          have hdn := dg_n (t := t) hsn
          generalize hee : m_sk t n (s + 1) + m_dg t n (m_sk t n (s + 1)) = e at *
          refine rs_ends S15 (txt_tf h (tf_rf f15')) hdn c31 _ (fun hc S19 f19 b31 => ⟨fun _ => ?_, fun hc => absurd hc (by decide)⟩) (fun hc S19 f19 b32 => ⟨fun hc => absurd rfl hc, fun _ => ⟨_, rfl, ?_⟩⟩)
          · have ef : m_fin t n (.inl v) e = .inr (.inl v, m_sk t n e + 1) := if_pos hc
            rw [ef] at hK
            have f19' := rf_tr f15' f19
            have hR' := R_rf hR hb f19'
            cases ac with
            | false =>
              have hk := hK S19 (tf_tr hf (tf_rf f19')) b31 hR' (am_B ham (Nat.le_add_right _ _))
              refine w_X5_readsOrder_110 o _ _ _ S19 _ ⟨fun _ => ⟨_, rfl, hk⟩, fun _ => ⟨fun _ => ⟨_, rfl, hk⟩, fun hc => absurd rfl hc⟩⟩
            | true =>
              have e0 : (0 : Int32) = nI (v - v) := by rw [Nat.sub_self]; rfl
              rw [e0]
              have hBv : B + v < 2 ^ 30 := by omega
              refine rs_idleL h99 S19 _ v (Nat.le_refl _) S19 A B hR' (r_fr.rf S19) ham hBv (fun S' h' f' => ?_)
              refine hK S' (tf_tr hf (tf_tr (tf_rf f19') (tf_fr f'))) ?_ h' (am_B (am_idle v A B ham hBv) (by omega))
              rw [f'.1 (23, 0, 0) (by simp)]; exact b31
          · have ef : m_fin t n (.inl v) e = .inl (m_sk t n e) := if_neg hc
            rw [ef] at hK
            have f19' := rf_tr f15' f19
            exact hK S19 (tf_tr hf (tf_rf f19')) b32 (R_rf hR hb f19')
        · rw [if_neg h2] at hK
          have f15' := rf_tr f4 f15
          exact hK S15 (tf_tr hf (tf_rf f15')) c32 (R_rf hR hb f15')
      · rw [if_neg (fun e => n35 (eq35.2 e))] at hK
        exact ⟨_, rfl, hK S3 (tf_tr hf (tf_rf f3)) a32 (R_rf hR hb f3)⟩
    · rw [if_pos (eq33.1 e33)] at hK
      exact rs_finQ hB S0 S4 h4 (by omega) a4 (tf_tr hf (tf_rf f4)) (R_rf hR hb f4) ham none (fun b' j' v' e => by cases e) 2 0 0 0 rfl K hK
/-- the whole TEXT -/
theorem rs_goesL {ac : Bool} {B0 : Nat} (hB : B0 + 60000 < 2 ^ 30) {t : Nat → Nat} {n : Nat} (S0 : zS) {A0 : mS} (K : Int32 → zS → Prop) : ∀ f (S : zS) (p : Nat) (l : List mO), r_txt S t n → r_tf S0 S → n - p ≤ f → 2 * l.length ≤ p → p ≤ n → S.1 (23, 0, 0) 31 = nI (m_sk t n p) → r_R S (if ac then l.foldl m_exec A0 else A0) → m_am (B0 + 1000 * l.length) 0 (if ac then l.foldl m_exec A0 else A0) →
    (∀ S', r_tf S0 S' → match m_prs t n f p l with
      | .inl e => (ac = false → r_R S' A0 → K (-10 - nI e) S') ∧ ac = false
      | .inr l' => r_R S' (if ac then l'.foldl m_exec A0 else A0) → m_am (B0 + 60000) 0 (if ac then l'.foldl m_exec A0 else A0) → K 0 S') →
    zG o 994 mdX5_goesThrough 28 [(0, .ref (z_adr o (23, 0, 0))), (1, .int (r_ac ac))] [] S (fun r S' => ∃ x, r = some (.int x) ∧ K x S') := by
  intro f
  induction f with
  | zero =>
    intro S p l h hf hnp hl hpn h31 hR ham hK
    have hn := h.2.1
    have hs : m_sk t n p = p := sk_end (by omega)
    rw [hs] at h31
    refine w_X5_goesThrough_28 o _ S _ ?_
    rw [h.1, h31]
    refine ⟨fun _ => ⟨_, rfl, ?_⟩, fun hc => absurd (nI_le (by omega) (by omega)) hc⟩
    exact hK S hf hR (am_B ham (by omega))
  | succ f ih =>
    intro S p l h hf hnp hl hpn h31 hR ham hK
    have hn := h.2.1
    have hge := sk_ge t n p
    have hsn := sk_n (t := t) hpn
    simp only [m_prs] at hK
    refine w_X5_goesThrough_28 o _ S _ ?_
    rw [h.1, h31]
    refine ⟨fun hc => ⟨_, rfl, ?_⟩, fun hc => ?_⟩
    · have hnk : n ≤ m_sk t n p := (nI_leI (by omega) (by omega)).1 hc
      have hk := hK S hf
      rw [if_pos hnk] at hk
      exact hk hR (am_B ham (by omega))
    · have hnk : ¬ n ≤ m_sk t n p := fun e => hc (nI_le e (by omega))
      rw [if_neg hnk] at hK
      have hss := sk_sk t n p
      refine rs_readsOrder (ac := ac) (B := B0 + 1000 * l.length) (by omega) S0 S h hsn (by rw [hss]; omega) h31 hf hR ham _ (fun S4 f4 => ?_)
      rw [hss]
      cases hrd : m_rd t n (m_sk t n p) with
      | inl e =>
        rw [hrd] at hK
        intro c32 hR4
        refine ⟨fun hc => absurd rfl hc, fun _ => ⟨_, rfl, ?_⟩⟩
        rw [c32]
        obtain ⟨hk, hac⟩ := hK S4 f4
        refine hk hac ?_
        rw [hac] at hR4
        exact hR4
      | inr y =>
        obtain ⟨x, q⟩ := y
        rw [hrd] at hK
        obtain ⟨q1, q2, q3⟩ := rd_q hrd
        intro c31 hR4 ham4
        refine ⟨fun _ => ?_, fun hc => absurd hc (by decide)⟩
        have h4 : r_txt S4 t n := by
          have hS0 : r_txt S4 t n := by
            refine ⟨?_, hn, fun k hk => ?_⟩
            · rw [f4.1 (23, 0, 0) 30 (by simp) (by simp), ← hf.1 (23, 0, 0) 30 (by simp) (by simp)]; exact h.1
            · rw [f4.1 (48, 0, 0) k (by simp) (by simp), ← hf.1 (48, 0, 0) k (by simp) (by simp)]; exact h.2.2 k hk
          exact hS0
        refine rs_skips S4 h4 q3 c31 _ (fun S8 f8 a31 a32 => ?_)
        have eA : (if ac then m_exec (if ac then l.foldl m_exec A0 else A0) x else (if ac then l.foldl m_exec A0 else A0)) = (if ac then (l ++ [x]).foldl m_exec A0 else A0) := by
          cases ac with
          | false => rfl
          | true => simp [List.foldl_append]
        rw [eA] at hR4 ham4
        refine ih S8 q (l ++ [x]) (txt_tf h4 (tf_rf f8)) (tf_tr f4 (tf_rf f8)) (by omega) (by simp only [List.length_append, List.length_singleton]; omega) q3 a31 (R_rf hR4 (bd_am ham4) f8) ?_ hK
        have e : B0 + 1000 * (l ++ [x]).length = B0 + 1000 * l.length + 1000 := by simp only [List.length_append, List.length_singleton]; omega
        rw [e]
        exact ham4
theorem rs_goes {ac : Bool} {B : Nat} (hB : B + 60000 < 2 ^ 30) (S : zS) {A : mS} {t : Nat → Nat} {n : Nat} (h : r_txt S t n) (hR : r_R S A) (ham : m_am B 0 A) (K : Int32 → zS → Prop) (hK : ∀ S', r_tf S S' → match m_text t n with
      | .inl e => (ac = false → r_R S' A → K (-10 - nI e) S') ∧ ac = false
      | .inr l' => r_R S' (if ac then l'.foldl m_exec A else A) → m_am (B + 60000) 0 (if ac then l'.foldl m_exec A else A) → K 0 S') : zGi o 994 mdX5_goesThrough [.ref (z_adr o (23, 0, 0)), .int (r_ac ac)] S K := by
  have hn := h.2.1
  refine w_X5_goesThrough_0 o _ S _ ?_
  have f1 : r_rf S (sI S (23, 0, 0) 31 0) := rf_I (rf_rf S) 31 _ (by omega)
  have a1 : (sI S (23, 0, 0) 31 0).1 (23, 0, 0) 31 = nI 0 := by simp [sI]; rfl
  generalize sI S (23, 0, 0) 31 0 = S1 at f1 a1
  have h1 := txt_tf h (tf_rf f1)
  refine rs_skips S1 h1 (Nat.zero_le _) a1 _ (fun S3 f3 a31 a32 => ?_)
  have f3' := rf_tr f1 f3
  have h3 := txt_tf h (tf_rf f3')
  have hsn := sk_n (t := t) (n := n) (p := 0) (by omega)
  rw [a31, h3.1]
  unfold m_text at hK
  refine ⟨fun hne => ?_, fun he => ⟨_, rfl, ?_⟩⟩
  · have hnk : ¬ n ≤ m_sk t n 0 := fun e => hne (congrArg nI (by omega))
    rw [if_neg hnk] at hK
    have e0 : (if ac then ([] : List mO).foldl m_exec A else A) = A := by cases ac <;> rfl
    exact rs_goesL (ac := ac) hB S K 120 S3 0 [] h3 (tf_rf f3') (by omega) (by simp) (by omega) a31 (by rw [e0]; exact R_rf hR (bd_am ham) f3') (by rw [e0]; exact ham) hK
  · have hnk : n ≤ m_sk t n 0 := by
      have := (nI_eq (by omega) (by omega)).1 he
      omega
    rw [if_pos hnk] at hK
    obtain ⟨hk, hac⟩ := hK S3 (tf_rf f3')
    exact hk hac (R_rf hR (bd_am ham) f3')
end RPO
