section RPF
variable {o : zW}
theorem kd_2 (v : Option Int32) : ¬ m_kd v = 2 := by
  cases v with
  | none => decide
  | some x => exact fun h => absurd (show (1 : Int32) = 2 from h) (by decide)
theorem rs_beginsNow {b j : Nat} (hb : b < 16) (hj : j < 4) (v : Option Int32) (hv : ∀ x, v = some x → x ≠ -1) (w : Int32) (hw : ∀ x, v = some x → w = x) (S0 S : zS) {A : mS} {B : Nat} (h : r_R S A) (hf : r_fr S0 S) (ham : m_am B 1 A) (hB : B < 2 ^ 30) (K : Int32 → zS → Prop) (hK0 : m_can A (some (b, j, v)) = false → K 0 S) (hK1 : m_can A (some (b, j, v)) = true → ∀ S', r_R S' (m_go A (some (b, j, v))) → r_fr S0 S' → K 1 S') : zGi o 994 mdX5_beginsNow [.ref (z_adr o (23, 0, 0)), .int (m_kd v), .int (nI b), .int (nI j), .int w] S K := by
  obtain ⟨hal, hrl, hql⟩ := ham
  obtain ⟨hI, hd, ht, hn, hg, ho⟩ := hal
  have hT := ht.1
  have hN := hn.1
  have hN2 : m_N A < 2 ^ 30 := by have a := hn.2; have b := ht.2; omega
  have d29 : S.1 (29, 0, 0) b = A.1 29 b := h.1 29 b (by unfold r_dir; omega)
  have d391 : S.1 (39, 0, 0) 1 = A.1 39 1 := h.1 39 1 (by unfold r_dir; omega)
  have d409 : S.1 (40, 0, 0) 9 = A.1 40 9 := h.1 40 9 (by unfold r_dir; omega)
  have d254 : S.1 (25, 0, 0) 4 = A.1 25 4 := h.1 25 4 (by unfold r_dir; omega)
  have hq4 : ∀ x, x < 16 → (m_Q A x).length ≤ 4 := fun x hx => (hI.2.2.2.1.2 x hx).1.1
  refine w_X5_beginsNow_0 o _ _ _ _ S _ ⟨fun _ => ⟨z_in hb (by omega), ?_⟩, fun hc => absurd hc (kd_2 v)⟩
  rw [z_cl (by omega), d29]
  refine ⟨fun w1 => ?_, fun w2 => ?_, fun w3 => ⟨z_in hb (by omega), ?_⟩, fun n1 n2 n3 => ?_⟩
  · have hcan : m_can A (some (b, j, v)) = true := by simp [m_can, w1]
    have hgo : m_go A (some (b, j, v)) = m_tal (m_do (m_use A b) b j v) 0 1069547520 := by simp only [m_go, if_pos w1]
    refine rs_counts hb S0 S h hf hI hrl w1 _ (fun S4 h4 f4 => ?_)
    refine rs_does hb hj v w hw S0 S4 h4 f4 hT hN hN2 _ (fun S7 h7 f7 => ?_)
    refine rs_counted 0 (by omega) _ (Or.inl rfl) S0 S7 h7 f7 (by rw [(m_do_keep (m_use A b) b j v).2.2.2.2.2.2.1]; exact hI.2.2.2.2.2.2) _ (fun S' h' f' => ⟨_, rfl, hK1 hcan S' (by rw [hgo]; exact h') f'⟩)
  · have hcan : m_can A (some (b, j, v)) = true := by simp [m_can, w2]
    have n1 : ¬ A.1 29 b = 1 := fun e => absurd (e.symm.trans w2) (by decide)
    have hgo : m_go A (some (b, j, v)) = m_tal (m_do (m_near (m_i A 39 1 (A.1 39 1 - 1)) b) b j v) 3 1074266112 := by simp only [m_go, if_neg n1, if_pos w2]
    rw [d391]
    have hlim2 : m_lim (m_i A 39 1 (A.1 39 1 - 1)) := by simpa [m_lim, m_i] using hI.1
    have hrow2 : m_row (m_i A 39 1 (A.1 39 1 - 1)) := by simpa [m_row, m_i, m_R] using hI.2.1
    have hrl2 : m_rl (m_i A 39 1 (A.1 39 1 - 1)) := rl_same hrl rfl (by funext t; simp [m_i])
    have hc2 : m_cok (m_C (m_i A 39 1 (A.1 39 1 - 1))) := hI.2.2.2.2.2.2
    refine rs_comesNear hb S0 _ (rr_i h 39 1 _ (by omega)) (hf.I 39 1 _ (by omega)) hlim2 hrow2 hrl2 hc2 _ (fun S4 h4 f4 => ?_)
    have k := m_near_keep (m_i A 39 1 (A.1 39 1 - 1)) b
    have k9 : (m_near (m_i A 39 1 (A.1 39 1 - 1)) b).1 40 9 = A.1 40 9 := k.2.2.2.2.1.trans (by simp [m_i])
    have k7 : (m_near (m_i A 39 1 (A.1 39 1 - 1)) b).1 40 7 = A.1 40 7 := k.2.2.2.2.2.trans (by simp [m_i])
    refine rs_does hb hj v w hw S0 S4 h4 f4 (by rw [m_T_eq k9, k9]; exact hT) (by rw [m_N_eq k7, k7]; exact hN) (by rw [m_N_eq k7]; exact hN2) _ (fun S7 h7 f7 => ?_)
    refine rs_counted 3 (by omega) _ (Or.inr (Or.inr (Or.inr (Or.inl rfl)))) S0 S7 h7 f7 (by rw [(m_do_keep _ b j v).2.2.2.2.2.2.1]; exact near_cok hc2 b) _ (fun S' h' f' => ⟨_, rfl, hK1 hcan S' (by rw [hgo]; exact h') f'⟩)
  · obtain ⟨P, hP, hP1, hP4⟩ := hI.1.2.2.2.1
    have d253 : S.1 (25, 0, 0) 3 = nI P := (h.1 25 3 (by unfold r_dir; omega)).trans hP
    have d34 : S.1 (34, 0, 0) b = nI (m_Q A b).length := (h.2.2.2.1 b hb).1
    have n1 : ¬ A.1 29 b = 1 := fun e => absurd (e.symm.trans w3) (by decide)
    have n2 : ¬ A.1 29 b = 2 := fun e => absurd (e.symm.trans w3) (by decide)
    have hlq := (hI.2.2.2.1.2 b hb).2
    have eP : (A.1 25 3).toNatClampNeg = P := by rw [hP, z_cl (by omega)]
    rw [eP] at hlq
    have hcan : m_can A (some (b, j, v)) = decide ((m_Q A b).length ≠ P) := by simp only [m_can, if_pos w3, eP]
    have hgo : m_go A (some (b, j, v)) = m_tal (m_join A b j v) 1 1048576000 := by simp only [m_go, if_neg n1, if_neg n2, if_pos w3]
    rw [d253, d34]
    refine ⟨fun hne => ?_, fun heq => ?_⟩
    · have hl : (m_Q A b).length ≠ P := fun e => hne (congrArg nI e)
      refine rs_asks hb v w hw S0 S h hf hT hN hN2 hq4 (by omega) _ (fun S23 h23 f23 => ?_)
      refine rs_counted 1 (by omega) _ (Or.inr (Or.inl rfl)) S0 S23 h23 f23 ?_ _ (fun S' h' f' => ⟨_, rfl, hK1 (by rw [hcan]; simp [hl]) S' (by rw [hgo]; exact h') f'⟩)
      exact (inv_join hI hb w3 hj v hv (by rw [eP]; omega)).2.2.2.2.2.2
    · have hl : (m_Q A b).length = P := (nI_eq (by omega) (by omega)).1 heq
      exact ⟨_, rfl, hK0 (by rw [hcan]; simp [hl])⟩
  · have hw0 : A.1 29 b = 0 := by
      rcases (hI.2.2.2.2.1 b hb).1 with e | e | e | e
      · exact e
      · exact absurd e n1
      · exact absurd e n2
      · exact absurd e n3
    obtain ⟨P, hP, hP1, hP4⟩ := hI.1.2.2.1
    have d252 : S.1 (25, 0, 0) 2 = nI P := (h.1 25 2 (by unfold r_dir; omega)).trans hP
    have d390 : S.1 (39, 0, 0) 0 = nI (m_F A).length := h.2.2.1.1
    have eP : (A.1 25 2).toNatClampNeg = P := by rw [hP, z_cl (by omega)]
    have hlF := hI.2.2.1.2.2
    rw [eP] at hlF
    have hcan : m_can A (some (b, j, v)) = decide ((m_F A).length ≠ P) := by simp only [m_can, if_neg n3, if_pos hw0, eP]
    have hgo : m_go A (some (b, j, v)) = m_tal (m_join (m_ftch A b) b j v) 2 1083703296 := by simp only [m_go, if_neg n1, if_neg n2, if_neg n3]
    rw [d252, d390]
    refine ⟨fun hne => ⟨z_in hb (by omega), fun y28 ey28 => ⟨z_in hb (by omega), fun S29 e29 => ?_⟩⟩, fun heq => ?_⟩
    · have hl : (m_F A).length ≠ P := fun e => hne (congrArg nI e)
      have ey28' : y28 = A.1 40 9 + A.1 25 4 := by rw [ey28]; simp [sI, d409, d254]
      have h29 : r_R S29 (m_i (m_i A 29 b 3) 30 b (A.1 40 9 + A.1 25 4)) := by
        subst e29 ey28'
        exact rr_i (rr_i h 29 b 3 (by omega)) 30 b _ (by omega)
      have f29 : r_fr S0 S29 := by subst e29; exact (hf.I 29 _ _ (by omega)).I 30 _ _ (by omega)
      have g390 : S29.1 (39, 0, 0) 0 = nI (m_F A).length := h29.2.2.1.1
      rw [g390, z_cl (by omega)]
      refine ⟨z_in (by omega) (by omega), fun y30 ey30 S31 e31 => ?_⟩
      have ey30' : y30 = nI (m_F A).length := by rw [ey30]; simpa [sI] using g390
      rw [ey30', ← nI_succ] at e31
      have h31 : r_R S31 (m_ftch A b) := by
        subst e31
        refine rr_f h29 (m_F A ++ [b]) (fun q t n1 n2 => ?_) rfl ?_ (fun k c hk => ?_)
        · have n33 : ¬ (q = (33, 0, 0) ∧ t = (m_F A).length) := fun e => n2 e.1
          simp only [sI, if_neg n1, if_neg n33]
        · simp [sI]
        · by_cases e : k = (m_F A).length
          · subst e
            rw [List.getElem?_append_right (Nat.le_refl _)] at hk
            simp only [Nat.sub_self, List.getElem?_cons_zero, Option.some.injEq] at hk
            subst hk
            simp [sI]
          · have hk2 : k < (m_F A).length := by
              have := (List.getElem?_eq_some_iff.1 hk).1
              simp only [List.length_append, List.length_singleton] at this
              omega
            rw [List.getElem?_append_left hk2] at hk
            have := h29.2.2.1.2 k c hk
            simp [sI, e, this]
      have f31 : r_fr S0 S31 := by subst e31; exact (f29.I 33 _ _ (by omega)).I 39 _ _ (by omega)
      have hIf := inv_fetch hI hb hw0 (by rw [eP]; omega)
      have k9 : (m_ftch A b).1 40 9 = A.1 40 9 := by simp [m_i, m_f]
      have k7 : (m_ftch A b).1 40 7 = A.1 40 7 := by simp [m_i, m_f]
      have hQb : m_Q (m_ftch A b) b = [] := hI.2.2.2.1.1 b hb (by omega) n3
      refine rs_asks hb v w hw S0 S31 h31 f31 (by rw [m_T_eq k9, k9]; exact hT) (by rw [m_N_eq k7, k7]; exact hN) (by rw [m_N_eq k7]; exact hN2) hq4 (by rw [hQb]; simp) _ (fun S34 h34 f34 => ?_)
      have hw3 : (m_ftch A b).1 29 b = 3 := by simp [m_i, m_f]
      have hA3 : 1 ≤ ((m_ftch A b).1 25 3).toNatClampNeg := by
        obtain ⟨P3, hP3, hp1, hp4⟩ := hIf.1.2.2.2.1
        rw [hP3, z_cl (by omega)]; exact hp1
      refine rs_counted 2 (by omega) _ (Or.inr (Or.inr (Or.inl rfl))) S0 S34 h34 f34 ?_ _ (fun S' h' f' => ⟨_, rfl, hK1 (by rw [hcan]; simp [hl]) S' (by rw [hgo]; exact h') f'⟩)
      exact (inv_join hIf hb hw3 hj v hv (by rw [hQb]; exact hA3)).2.2.2.2.2.2
    · have hl : (m_F A).length = P := (nI_eq (by omega) (by omega)).1 heq
      exact ⟨_, rfl, hK0 (by rw [hcan]; simp [hl])⟩
theorem rs_beginsNowF (x2 x3 x4 : Int32) (S : zS) {A : mS} (h : r_R S A) (hI : m_inv 16 A) (K : Int32 → zS → Prop) (hK0 : m_can A none = false → K 0 S) (hK1 : m_can A none = true → K 1 S) : zGi o 994 mdX5_beginsNow [.ref (z_adr o (23, 0, 0)), .int 2, .int x2, .int x3, .int x4] S K := by
  have d391 : S.1 (39, 0, 0) 1 = A.1 39 1 := h.1 39 1 (by unfold r_dir; omega)
  have d390 : S.1 (39, 0, 0) 0 = nI (m_F A).length := h.2.2.1.1
  have hl : (m_F A).length ≤ 4 := by
    have := hI.2.2.1.2.2
    obtain ⟨-, -, ⟨F, hF, hF1, hF4⟩, -, -⟩ := hI.1
    rw [hF, z_cl (by omega)] at this; omega
  refine w_X5_beginsNow_0 o _ _ _ _ S _ ⟨fun hc => absurd rfl hc, fun _ => ?_⟩
  rw [d390, d391]
  refine ⟨fun hne => ⟨_, rfl, hK0 ?_⟩, fun he => ⟨fun hne => ⟨_, rfl, hK0 ?_⟩, fun he2 => ⟨_, rfl, hK1 ?_⟩⟩⟩
  · have : m_F A ≠ [] := fun e => hne (by rw [e]; rfl)
    simp [m_can, this]
  · simp [m_can, hne]
  · have : m_F A = [] := by
      have := (nI_eq (b := 0) (by omega) (by omega)).1 he
      exact List.eq_nil_of_length_eq_zero this
    simp [m_can, this, he2]
/-- how a call of begin looks to the reference -/
def r_call (q : mR) (x1 x2 x3 x4 : Int32) : Prop := match q with
  | none => x1 = 2
  | some (b, j, v) => x1 = m_kd v ∧ x2 = nI b ∧ x3 = nI j ∧ ∀ x, v = some x → x4 = x
theorem rs_begins (q : mR) (hq : m_rok q) (x1 x2 x3 x4 : Int32) (hx : r_call q x1 x2 x3 x4) (S0 S : zS) {A : mS} {B : Nat} (h : r_R S A) (hf : r_fr S0 S) (ham : m_am B 1 A) (hB : B < 2 ^ 30) (K : Int32 → zS → Prop) (hK0 : m_can A q = false → K 0 S) (hK1 : m_can A q = true → ∀ S', r_R S' (m_go A q) → r_fr S0 S' → K 1 S') : zGi o 994 mdX5_beginsNow [.ref (z_adr o (23, 0, 0)), .int x1, .int x2, .int x3, .int x4] S K := by
  obtain _ | ⟨b, j, v⟩ := q
  · have e : x1 = 2 := hx
    subst e
    exact rs_beginsNowF x2 x3 x4 S h ham.1.1 K hK0 (fun hc => hK1 hc S h hf)
  · obtain ⟨e1, e2, e3, e4⟩ := hx
    subst e1 e2 e3
    obtain ⟨q1, q2, q3⟩ := hq b j v rfl
    exact rs_beginsNow q1 q2 v q3 x4 e4 S0 S h hf ham hB K hK0 hK1
theorem rs_doneL (q : mR) (hq : m_rok q) (x1 x2 x3 x4 : Int32) (hx : r_call q x1 x2 x3 x4) (S0 : zS) (D : Nat) (K : Int32 → zS → Prop) : ∀ f (S : zS) (A : mS) (B : Nat), r_R S A → r_fr S0 S → m_am B 1 A → m_live D A → D + 10 ≤ m_T A + f → B + f < 2 ^ 30 →
    (∀ S', r_R S' (if m_can A q then m_go A q else m_beg f (m_stall A) q) → r_fr S0 S' → K ((if m_can A q then m_go A q else m_beg f (m_stall A) q).1 40 9) S') →
    zG o 994 mdX5_done 4 [(0, .ref (z_adr o (23, 0, 0))), (1, .int x1), (2, .int x2), (3, .int x3), (4, .int x4)] [] S (fun r S' => ∃ x, r = some (.int x) ∧ K x S') := by
  intro f
  induction f with
  | zero =>
    intro S A B h hf ham hlv hD hB hK
    have hc := live_can hlv ham.1.1 ham.1.2.1 ham.1.2.2.1 (by omega) (by omega) hq
    rw [if_pos hc] at hK
    refine w_X5_done_4 o _ _ _ _ S _ (rs_begins q hq x1 x2 x3 x4 hx S0 S h hf ham (by omega) _ (fun hn => absurd (hc.symm.trans hn) (by decide)) (fun _ S' h' f' => ⟨fun _ => ⟨_, rfl, ?_⟩, fun hc => absurd hc (by decide)⟩))
    rw [h'.1 40 9 (by unfold r_dir; omega)]
    exact hK S' h' f'
  | succ f ih =>
    intro S A B h hf ham hlv hD hB hK
    refine w_X5_done_4 o _ _ _ _ S _ (rs_begins q hq x1 x2 x3 x4 hx S0 S h hf ham (by omega) _ (fun hn => ⟨fun hc => absurd rfl hc, fun _ => ?_⟩) (fun hc S' h' f' => ⟨fun _ => ⟨_, rfl, ?_⟩, fun hc => absurd hc (by decide)⟩))
    · have hn' : ¬ m_can A q = true := by rw [hn]; decide
      rw [if_neg hn'] at hK
      refine rs_counted 4 (by omega) _ (Or.inr (Or.inr (Or.inr (Or.inr (Or.inr rfl))))) S0 S h hf ham.1.1.2.2.2.2.2.2 _ (fun S7 h7 f7 => ?_)
      have ham7 : m_am B 0 (m_stall A) := am_01 (am_stall ham)
      refine rs_goesBy S0 S7 h7 f7 ham7 _ (fun S10 h10 f10 => ?_)
      have hp := al_pass ham7.1 (by omega)
      have hT : m_T (m_stall A) = m_T A := m_T_eq (m_stall_T A)
      have hDf : D + 10 ≤ m_T (m_pass (m_stall A)) + f := by rw [hp.2, hT]; omega
      refine ih S10 (m_pass (m_stall A)) (B + 1) h10 f10 (am_pass ham7 (by omega)) (live_pass (live_stall hlv) ham7.1.1 ham7.1.2.1 ham7.1.2.2.1 (by omega)) hDf (by omega) ?_
      intro S' h' f'
      have := hK S'
      simp only [m_beg] at this
      exact this h' f'
    · rw [if_pos hc] at hK
      rw [h'.1 40 9 (by unfold r_dir; omega)]
      exact hK S' h' f'
theorem rs_doneF (q : mR) (hq : m_rok q) (x1 x2 x3 x4 : Int32) (hx : r_call q x1 x2 x3 x4) (S0 S : zS) {A : mS} {B f : Nat} (hf30 : 30 ≤ f) (h : r_R S A) (hf : r_fr S0 S) (ham : m_am B 0 A) (hB : B + f + 1 < 2 ^ 30) (K : Int32 → zS → Prop) (hK : ∀ S', r_R S' (m_beg (f + 1) A q) → r_fr S0 S' → K ((m_beg (f + 1) A q).1 40 9) S') : zGi o 994 mdX5_done [.ref (z_adr o (23, 0, 0)), .int x1, .int x2, .int x3, .int x4] S K := by
  refine w_X5_done_0 o _ _ _ _ S _ (rs_goesBy S0 S h hf ham _ (fun S3 h3 f3 => ?_))
  have hp := am_pass ham (by omega)
  refine rs_doneL q hq x1 x2 x3 x4 hx S0 (m_T (m_pass A) + 20) K f S3 (m_pass A) (B + 1) h3 f3 hp (live_0 hp.1.2.1 hp.1.2.2.1 (by omega)) (by omega) (by omega) ?_
  intro S' h' f'
  have := hK S'
  simp only [m_beg] at this
  exact this h' f'
end RPF
