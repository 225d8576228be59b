/-! what is told stays -/
theorem pass_25 (A : mS) : (m_pass A).1 25 = A.1 25 :=
  z_pass (fun _ X => X.1 25 = A.1 25) (fun _ X => X.1 25 = A.1 25) (fun k X _ i => (p1_T X k).2.trans i) (fun X i => i) (fun k X _ i => (p2_T X k).2.trans i) A (by funext t; simp [m_tick, m_i])
theorem go_25 (A : mS) (q : mR) : (m_go A q).1 25 = A.1 25 := by
  obtain _ | ⟨b, j, v⟩ := q
  · rfl
  · simp only [m_go]
    split
    · exact (tal_25 _ _ _).trans (m_do_keep (m_use A b) b j v).2.1
    · split
      · exact (tal_25 _ _ _).trans ((m_do_keep _ b j v).2.1.trans ((m_near_keep _ b).2.2.1.trans (by funext t; simp [m_i])))
      · split
        · exact (tal_25 _ _ _).trans (join_F A b j v).2
        · exact (tal_25 _ _ _).trans ((join_F _ b j v).2.trans (by funext t; simp [m_i, m_f]))
theorem beg_25 (q : mR) : ∀ f (A : mS), (m_beg f A q).1 25 = A.1 25 := by
  intro f
  induction f with
  | zero => intro A; rfl
  | succ f ih =>
    intro A
    simp only [m_beg]
    split
    · exact (go_25 _ q).trans (pass_25 A)
    · exact (ih _).trans ((tal_25 _ _ _).trans (pass_25 A))
theorem idle_25 : ∀ f (A : mS), (m_idle f A).1 25 = A.1 25 := by
  intro f
  induction f with
  | zero => intro A; rfl
  | succ f ih => intro A; exact (ih _).trans (pass_25 A)
theorem await_25 : ∀ f (A : mS), (m_await f A).1 25 = A.1 25 := by
  intro f
  induction f with
  | zero => intro A; rfl
  | succ f ih =>
    intro A
    simp only [m_await]
    split
    · rfl
    · exact (ih _).trans (pass_25 A)
theorem exec_25 (A : mS) (x : mO) : (m_exec A x).1 25 = A.1 25 := by
  cases x with
  | inl n => exact idle_25 n A
  | inr q => exact beg_25 q 1000 A
theorem run_25 (l : List mO) : ∀ A : mS, (l.foldl m_exec A).1 25 = A.1 25 := by
  induction l with
  | nil => intro A; rfl
  | cons x l ih => intro A; exact (ih _).trans (exec_25 A x)
theorem am_await : ∀ f (A : mS) (B : Nat), m_am B 0 A → B + f < 2 ^ 30 → m_am (B + f) 0 (m_await f A) := by
  intro f
  induction f with
  | zero => intro A B h _; exact h
  | succ f ih =>
    intro A B h hB
    simp only [m_await]
    split
    · exact am_B h (by omega)
    · exact am_B (ih _ (B + 1) (am_01 (am_pass h (by omega))) (by omega)) (by omega)
section RPQ
variable {o : zW}
theorem RG_rf {B : Nat} {S S' : zS} {G : mG} (h : r_G B S G) (hf : r_rf S S') : r_G B S' G := by
  refine RG_I h hf.2 (fun k h1 h2 => funext fun t => hf.1 _ t (fun e => by have := congrArg Prod.fst e.1; simp only at this; omega)) (hf.1 _ _ (by simp)) ⟨rfl, rfl⟩ (fun t ht => ?_) (txt_tf h.2.2.2.2 (tf_rf hf))
  rw [hf.1 (24, 0, 0) t (by simp)]; exact h.2.2.2.1 t ht
/-- all but the run has changed, and the row kept aside -/
def r_ff (S S' : zS) : Prop := (∀ (q : zK) t, ¬ (25 ≤ q.1 ∧ q.1 ≤ 43) → ¬ (q = (23, 0, 0) ∧ (t = 28 ∨ t = 31 ∨ t = 32 ∨ t = 33)) → ¬ (q = (44, 0, 0) ∧ 7800 ≤ t) → S'.1 q t = S.1 q t) ∧ (∀ (q : zK) t, ¬ (q = (23, 0, 0) ∧ (t = 21 ∨ t = 22)) → ¬ ((q = (46, 0, 0) ∨ q = (47, 0, 0)) ∧ t = 6) → S'.2.1 q t = S.2.1 q t) ∧ ∀ (q : zK) t, ¬ (q = (23, 0, 0) ∧ t = 20) → ¬ (q = (45, 0, 0) ∧ t = 6) → S'.2.2 q t = S.2.2 q t
theorem ff_tr {S S1 S2 : zS} (h : r_ff S S1) (h2 : r_ff S1 S2) : r_ff S S2 := ⟨fun q t a b c => (h2.1 q t a b c).trans (h.1 q t a b c), fun q t a b => (h2.2.1 q t a b).trans (h.2.1 q t a b), fun q t a b => (h2.2.2 q t a b).trans (h.2.2 q t a b)⟩
theorem ff_tf {S S' : zS} (h : r_tf S S') : r_ff S S' := ⟨fun q t a b _ => h.1 q t a (fun e => b ⟨e.1, by omega⟩), fun q t a _ => h.2.1 q t a, fun q t a _ => h.2.2 q t a⟩
theorem ff_kf {S S' : zS} (h : r_kf 6 S S') : r_ff S S' := by
  refine ⟨fun q t a b c => ?_, fun q t a b => h.2.2.1 q t b, fun q t a b => h.2.2.2 q t b⟩
  by_cases e : q = (44, 0, 0)
  · subst e
    exact h.2.1 t (fun hx => c ⟨rfl, by omega⟩)
  · exact h.1 q t e (fun hx => b ⟨hx.1, Or.inl hx.2⟩)
theorem ff_cf {S S' : zS} (h : r_cf S S') : r_ff S S' := ⟨fun q t a b _ => h.1 q t (fun e => a ⟨e.1, e.2.1⟩) (fun e => b ⟨e.1, Or.inl e.2⟩), fun q t a _ => h.2.1 q t a, fun q t a _ => h.2.2 q t a⟩
theorem dn_ff {S S' : zS} (h : r_ff S S') : r_dn S S' := by
  intro q hq
  have n : ∀ k, 23 ≤ k → q ≠ (k, 0, 0) := fun k hk e => by subst e; simp at hq; omega
  refine ⟨funext fun t => h.1 q t (fun e => by omega) (fun e => n 23 (by omega) e.1) (fun e => n 44 (by omega) e.1), funext fun t => h.2.1 q t (fun e => n 23 (by omega) e.1) (fun e => ?_), funext fun t => h.2.2 q t (fun e => n 23 (by omega) e.1) (fun e => n 45 (by omega) e.1)⟩
  rcases e.1 with e | e
  · exact n 46 (by omega) e
  · exact n 47 (by omega) e
theorem RG_ff {B : Nat} {S S' : zS} {G : mG} (h : r_G B S G) (hf : r_ff S S') (hR : r_R S' G.1) : r_G B S' G := by
  obtain ⟨h0, h1, ⟨a1, a2, a3⟩, h3, h4⟩ := h
  refine ⟨h0, hR, ⟨a1, ?_, fun k A hA => ?_⟩, fun t ht => ?_, ?_, h4.2.1, fun k hk => ?_⟩
  · rw [hf.1 (23, 0, 0) 23 (by simp) (by simp) (by simp)]; exact a2
  · have hk := (List.getElem?_eq_some_iff.1 hA).1
    refine K_cp (a3 k A hA) (bd_am (h0.2 A (List.mem_of_getElem? hA))) (fun u hu => hf.1 _ _ (by simp) (by simp) (fun e => by have := e.2; omega)) ?_ ?_ ?_
    · exact hf.2.2 _ _ (by simp) (fun e => by have := e.2; omega)
    · exact hf.2.1 _ _ (by simp) (fun e => by have := e.2; omega)
    · exact hf.2.1 _ _ (by simp) (fun e => by have := e.2; omega)
  · rw [hf.1 (24, 0, 0) t (by simp) (by simp) (by simp)]; exact h3 t ht
  · rw [hf.1 (23, 0, 0) 30 (by simp) (by simp) (by simp)]; exact h4.1
  · rw [hf.1 (48, 0, 0) k (by simp) (by simp) (by simp)]; exact h4.2.2 k hk
theorem z_fault : ∀ e, e < 121 → ¬ (0 : Int32) ≤ -10 - nI e := by decide +kernel
theorem z_60 {B : Nat} (h : B + 60000 ≤ m_BB) : B + 60000 < 2 ^ 30 := by unfold m_BB at h; omega
theorem r_runs {B : Nat} (hB : B + 60000 ≤ m_BB) (S : zS) {G : mG} (h : r_G B S G) : zGi o 994 mdX5_runs [.ref (z_adr o (23, 0, 0))] S (r_post B S (g_runs G)) := by
  have hok := text_ok G.2.2.2.1 G.2.2.2.2
  have h120 := h.2.2.2.2.2.1
  refine w_X5_runs_0 o S _ (rs_goes (ac := false) (z_60 hB) S h.2.2.2.2 h.2.1 h.1.1 _ (fun S2 f2 => ?_))
  have fG : r_R S2 G.1 → r_G B S2 G := fun hR => RG_ff h (ff_tf f2) hR
  cases ht : m_text G.2.2.2.1 G.2.2.2.2 with
  | inl e =>
    rw [ht] at hok
    refine ⟨fun _ hR => ⟨fun hc => absurd hc (z_fault e (by simp only at hok; omega)), fun _ => ⟨_, rfl, ?_, ?_, dn_ff (ff_tf f2)⟩⟩, rfl⟩
    · unfold g_runs; rw [ht]
    · have : (g_runs G).2 = G := by unfold g_runs; rw [ht]
      rw [this]; exact RG_B (fG hR) (z_le3 B)
  | inr l =>
    rw [ht] at hok
    simp only at hok
    intro hR ham
    refine ⟨fun _ => ?_, fun hc => absurd (by decide) hc⟩
    have gg : g_runs G = ((l.foldl m_exec G.1).1 40 9 - G.1.1 40 9, g_now (g_keep G) (l.foldl m_exec G.1)) := by unfold g_runs; rw [ht]
    rw [gg]
    refine rs_leaves S2 (fG hR) _ (fun S7 h7 d7 => ?_)
    have ea : S7.1 (40, 0, 0) 9 = G.1.1 40 9 := h7.2.1.1 40 9 (by unfold r_dir; omega)
    rw [ea]
    refine rs_goes (ac := true) (A := G.1) (z_60 hB) S7 h7.2.2.2.2 h7.2.1 h7.1.1 _ (fun S10 f10 => ?_)
    have ht' : m_text (g_keep G).2.2.2.1 (g_keep G).2.2.2.2 = .inr l := ht
    rw [ht']
    intro hR10 ham10
    simp only [if_true] at hR10 ham10
    have hG10 : r_G (B + 60000) S10 (g_now (g_keep G) (l.foldl m_exec G.1)) := by
      obtain ⟨k0, k1, ⟨k2, k3, k4⟩, k5, k6⟩ := h7
      refine ⟨⟨ham10, fun X hX => am_B (k0.2 X hX) (z_le3 B)⟩, hR10, ⟨k2, ?_, fun k A hA => ?_⟩, fun t ht => ?_, txt_tf k6 f10⟩
      · rw [f10.1 (23, 0, 0) 23 (by simp) (by simp)]; exact k3
      · refine K_cp (k4 k A hA) (bd_am (k0.2 A (List.mem_of_getElem? hA))) (fun u _ => f10.1 _ _ (by simp) (by simp)) ?_ ?_ ?_
        · exact f10.2.2 _ _ (by simp)
        · exact f10.2.1 _ _ (by simp)
        · exact f10.2.1 _ _ (by simp)
      · rw [f10.1 (24, 0, 0) t (by simp) (by simp)]; exact k5 t ht
    exact ⟨_, rfl, by rw [hR10.1 40 9 (by unfold r_dir; omega)], hG10, dn_tr (dn_ff (ff_tf f2)) (dn_tr d7 (dn_ff (ff_tf f10)))⟩
/-- all that is being fetched is waited for -/
theorem rs_awaitL (S0 : zS) (D : Nat) (K : Int32 → zS → Prop) : ∀ f (S : zS) (A : mS) (B : Nat), r_R S A → r_fr S0 S → m_am B 0 A → m_live D A → D + 10 ≤ m_T A + f → B + f < 2 ^ 30 →
    (∀ S', r_R S' (m_await f A) → r_fr S0 S' → K ((m_await f A).1 40 9) S') →
    zG o 994 mdX5_ticksBy 17 [(0, .ref (z_adr o (23, 0, 0)))] [] S (fun r S' => ∃ y, r = some (.int y) ∧ K y S') := by
  intro f
  induction f with
  | zero =>
    intro S A B h hf ham hlv hD hB hK
    have hF := (live_F ham.1.1 (live_end hlv ham.1.2.1 ham.1.2.2.1 (by omega) (by omega))).1
    refine w_X5_ticksBy_17 o S _ ?_
    have e390 : S.1 (39, 0, 0) 0 = nI 0 := by rw [h.2.2.1.1, hF]; rfl
    rw [e390, h.1 40 9 (by unfold r_dir; omega)]
    exact ⟨fun _ => ⟨_, rfl, hK S h hf⟩, fun hc => absurd (by decide) hc⟩
  | succ f ih =>
    intro S A B h hf ham hlv hD hB hK
    have hb := bd_am ham
    refine w_X5_ticksBy_17 o S _ ?_
    rw [h.2.2.1.1, h.1 40 9 (by unfold r_dir; omega)]
    simp only [m_await] at hK
    refine ⟨fun hc => ⟨_, rfl, ?_⟩, fun hc => ?_⟩
    · have hF : m_F A = [] := by
        have := (nI_leI (b := 0) (by have := hb.2.1; omega) (by omega)).1 hc
        exact List.eq_nil_of_length_eq_zero (by omega)
      rw [if_pos hF] at hK
      exact hK S h hf
    · have hF : ¬ m_F A = [] := fun e => hc (by rw [e]; decide)
      rw [if_neg hF] at hK
      refine rs_goesBy S0 S h hf ham _ (fun S4 h4 f4 => ?_)
      have hp := al_pass ham.1 (by omega)
      exact ih S4 (m_pass A) (B + 1) h4 f4 (am_01 (am_pass ham (by omega))) (live_pass hlv ham.1.1 ham.1.2.1 ham.1.2.2.1 (by omega)) (by rw [hp.2]; omega) (by omega) hK
theorem rs_ticksBy (S : zS) {X A : mS} {t : Nat → Nat} {n : Nat} {l : List mO} (htx : m_text t n = .inr l) (h : r_txt S t n) (hR : r_R S X) (hbd : m_bd X) (hA : m_lim A) (h25 : ∀ k, k ≠ 2 → X.1 25 k = A.1 25 k) {f : Nat} (hf : 1 ≤ f ∧ f ≤ 4) (K : Int32 → zS → Prop) (hK : ∀ S' X', r_tf S S' → r_R S' X' → m_bd X' → (∀ k, k ≠ 2 → X'.1 25 k = A.1 25 k) → K (m_trial A l f) S') : zGi o 994 mdX5_ticksBy [.ref (z_adr o (23, 0, 0)), .int (nI f)] S K := by
  have h1 := rr_i hR 25 2 (nI f) (by omega)
  have hlim : m_lim (m_i X 25 2 (nI f)) := by
    obtain ⟨l1, l2, l3, l4, l5⟩ := hA
    refine ⟨?_, ?_, ⟨f, by simp [m_i], hf⟩, ?_, ?_⟩
    · simpa [m_i, h25 0 (by omega)] using l1
    · simpa [m_i, h25 1 (by omega)] using l2
    · simpa [m_i, h25 3 (by omega)] using l4
    · simpa [m_i, h25 4 (by omega)] using l5
  have hok := text_ok t n
  rw [htx] at hok
  simp only at hok
  have hn := h.2.1
  refine w_X5_ticksBy_0 o _ S _ (rs_begins0 S _ h1 ((r_fr.rf S).I 25 2 _ (by omega)) _ (fun S3 h3 f3 => ?_))
  have hm := am_new hlim
  refine rs_goes (ac := true) (B := 0) (by omega) S3 (txt_tf h (tf_fr f3)) h3 hm _ (fun S6 f6 => ?_)
  rw [htx]
  intro h6 ham6
  simp only [if_true] at h6 ham6
  generalize hY : l.foldl m_exec (m_new (m_i X 25 2 (nI f))) = Y at h6 ham6
  have ham60 : m_am 60000 0 Y := by have := ham6; rw [Nat.zero_add] at this; exact this
  refine rs_awaitL S6 (m_T Y + 20) _ 1000 S6 Y 60000 h6 (r_fr.rf S6) ham60 (live_0 ham60.1.2.1 ham60.1.2.2.1 (by omega)) (by omega) (by omega) (fun S' h' f' => ?_)
  have ev : (m_await 1000 Y).1 40 9 = m_trial A l f := by
    rw [← hY]
    refine (e_await 1000 (e_run l (e_new (fun k => ?_)))).1 40 9 (by omega)
    by_cases e : k = 2
    · subst e; simp [m_i]
    · simp [m_i, e, h25 k e]
  rw [ev]
  refine hK S' (m_await 1000 Y) (tf_tr (tf_fr f3) (tf_tr f6 (tf_fr f'))) h' (bd_am (am_await 1000 Y 60000 ham60 (by omega))) (fun k hk => ?_)
  rw [await_25, ← hY, run_25]
  simp [m_new, m_i, hk, h25 k hk]
theorem r_best {B : Nat} (hB : B + 60000 ≤ m_BB) (S : zS) {G : mG} (h : r_G B S G) (x1 : Int32) : zGi o 994 mdX5_best [.ref (z_adr o (23, 0, 0)), .int x1] S (r_post B S (g_best G x1)) := by
  have hok := text_ok G.2.2.2.1 G.2.2.2.2
  have h120 := h.2.2.2.2.2.1
  refine w_X5_best_0 o _ S _ (rs_inN x1 (N := 1) (by omega) rfl S _ (fun w hw ew ec => ⟨fun _ => ?_, fun hc => absurd hc (by decide)⟩) (fun hc => ⟨fun hc => absurd rfl hc, fun _ => ?_⟩))
  · refine rs_goes (ac := false) (z_60 hB) S h.2.2.2.2 h.2.1 h.1.1 _ (fun S2 f2 => ?_)
    have fG : r_R S2 G.1 → r_G B S2 G := fun hR => RG_ff h (ff_tf f2) hR
    cases ht : m_text G.2.2.2.1 G.2.2.2.2 with
    | inl e =>
      rw [ht] at hok
      refine ⟨fun _ hR => ⟨fun hc => absurd hc (z_fault e (by simp only at hok; omega)), fun _ => ⟨_, rfl, ?_, ?_, dn_ff (ff_tf f2)⟩⟩, rfl⟩
      · unfold g_best; rw [ec, ht]
      · have : (g_best G x1).2 = G := by unfold g_best; rw [ec, ht]
        rw [this]; exact RG_B (fG hR) (z_le3 B)
    | inr l =>
      rw [ht] at hok
      simp only at hok
      intro hR _
      refine ⟨fun _ => ?_, fun hc => absurd (by decide) hc⟩
      have gg : g_best G x1 = (if w = 0 then nI (m_bk G.1 l 4).1 else (m_bk G.1 l 4).2, G) := by unfold g_best; rw [ec, ht]
      rw [gg]
      have hG2 := fG hR
      have hlim := h.1.1.1.1.1
      have hbd := bd_am h.1.1
      refine rs_keeps (a := 6) (by omega) S2 hG2.2.1 hbd _ (fun S11 hK11 f11 => ?_)
      have hR11 : r_R S11 G.1 := by
        refine rr_cp hG2.2.1 hbd (fun k t h1 h2 _ => f11.1 _ t (fun e => by have := congrArg Prod.fst e; simp only at this; omega) (fun e => by have := congrArg Prod.fst e.1; simp only at this; omega)) ?_ ?_ ?_
        · exact f11.2.2.2 _ _ (by simp)
        · exact f11.2.2.1 _ _ (by simp)
        · exact f11.2.2.1 _ _ (by simp)
      have ht11 : r_txt S11 G.2.2.2.1 G.2.2.2.2 := by
        refine ⟨?_, h120, fun k hk => ?_⟩
        · rw [f11.1 (23, 0, 0) 30 (by simp) (by simp)]; exact hG2.2.2.2.2.1
        · rw [f11.1 (48, 0, 0) k (by simp) (by simp)]; exact hG2.2.2.2.2.2.2 k hk
      have K_tf : ∀ S3 S4 : zS, r_K S3 6 G.1 → r_tf S3 S4 → r_K S4 6 G.1 := fun S3 S4 hk f => K_cp hk hbd (fun u _ => f.1 _ _ (by simp) (by simp)) (f.2.2 _ _ (by simp)) (f.2.1 _ _ (by simp)) (f.2.1 _ _ (by simp))
      refine rs_ticksBy (f := 1) (A := G.1) S11 ht ht11 hR11 hbd hlim (fun _ _ => rfl) (by omega) _ (fun S14 X14 f14 hR14 hb14 h25 => ?_)
      obtain ⟨T1, eT1, hT1⟩ := trial_small hlim hok.1 (by have := hok.2; omega) (f := 1) (by omega)
      have e1 : m_bk G.1 l 1 = (1, m_trial G.1 l 1) := by
        show m_b1 G.1 l (0, 2000000000) 1 = _
        unfold m_b1
        rw [if_neg]
        rw [eT1]
        exact z_ge (a := T1) (b := 2000000000) (by omega) (by decide)
      have loop : ∀ k, k ≤ 4 → 1 ≤ k → ∀ (S' : zS) (X : mS), r_tf S11 S' → r_R S' X → m_bd X → (∀ k, k ≠ 2 → X.1 25 k = G.1.1 25 k) → zG o 994 mdX5_best 44 [(0, .ref (z_adr o (23, 0, 0))), (1, .int x1), (3, .int (nI (m_bk G.1 l k).1)), (4, .int (m_bk G.1 l k).2), (5, .int (nI (k + 1)))] [] S' (fun r S'' => ∃ y, r = some (.int y) ∧ r_post B S (if w = 0 then nI (m_bk G.1 l 4).1 else (m_bk G.1 l 4).2, G) y S'') := by
        intro k hk
        refine z_down 4 (fun k => 1 ≤ k → ∀ (S' : zS) (X : mS), r_tf S11 S' → r_R S' X → m_bd X → (∀ k, k ≠ 2 → X.1 25 k = G.1.1 25 k) → zG o 994 mdX5_best 44 [(0, .ref (z_adr o (23, 0, 0))), (1, .int x1), (3, .int (nI (m_bk G.1 l k).1)), (4, .int (m_bk G.1 l k).2), (5, .int (nI (k + 1)))] [] S' (fun r S'' => ∃ y, r = some (.int y) ∧ r_post B S (if w = 0 then nI (m_bk G.1 l 4).1 else (m_bk G.1 l 4).2, G) y S'')) ?_ ?_ k hk
        · intro _ S' X f' hR' hb' h25'
          refine w_X5_best_44 o _ _ _ _ S' _ ⟨fun _ => ?_, fun hc => absurd (by decide) hc⟩
          refine rs_comesBack (a := 6) (by omega) S' (K_tf S11 S' hK11 f') hbd _ (fun S4 h4 f4 => ?_)
          have ff : r_ff S S4 := ff_tr (ff_tf f2) (ff_tr (ff_kf f11) (ff_tr (ff_tf f') (ff_cf f4)))
          have hG4 := RG_B (RG_ff h ff h4) (z_le3 B)
          refine ⟨fun n0 => ⟨_, rfl, ?_, hG4, dn_ff ff⟩, fun e0 => ⟨_, rfl, ?_, hG4, dn_ff ff⟩⟩
          · have : ¬ w = 0 := fun e => n0 (by rw [ew, e]; rfl)
            exact (if_neg this).symm
          · have : w = 0 := (nI_eq (b := 0) (by omega) (by omega)).1 (ew.symm.trans e0)
            exact (if_pos this).symm
        · intro k hk ih hk1 S' X f' hR' hb' h25'
          refine w_X5_best_44 o _ _ _ _ S' _ ⟨fun hc => absurd hc (nI_nlt (a := 4) (b := k + 1) (by omega) (by omega)), fun _ => ?_⟩
          rw [← nI_succ]
          have ht' : r_txt S' G.2.2.2.1 G.2.2.2.2 := txt_tf ht11 f'
          refine rs_ticksBy (f := k + 1) (A := G.1) S' ht ht' hR' hb' hlim h25' (by omega) _ (fun S8 X8 f8 hR8 hb8 h258 => ?_)
          have go : ∀ y3 y4, (y3, y4) = m_bk G.1 l (k + 1) → zG o 994 mdX5_best 44 [(0, .ref (z_adr o (23, 0, 0))), (1, .int x1), (3, .int (nI y3)), (4, .int y4), (5, .int (nI (k + 1 + 1)))] [] S8 (fun r S'' => ∃ y, r = some (.int y) ∧ r_post B S (if w = 0 then nI (m_bk G.1 l 4).1 else (m_bk G.1 l 4).2, G) y S'') := by
            intro y3 y4 e
            have := ih (by omega) S8 X8 (tf_tr f' f8) hR8 hb8 h258
            rw [← e] at this
            exact this
          refine ⟨fun hle => ⟨fun _ => go _ _ ?_, fun hc => absurd hle hc⟩, fun hgt => ⟨fun hc => absurd hc hgt, fun _ => go _ _ ?_⟩⟩
          · exact (if_pos hle).symm
          · exact (if_neg hgt).symm
      have := loop 1 (by omega) (Nat.le_refl _) S14 X14 f14 hR14 hb14 h25
      rw [e1] at this
      exact this
  · have gg : g_best G x1 = g_bad G := by unfold g_best; rw [hc]
    rw [gg]; exact rs_bad S h
end RPQ
