/-! the reference's calls answer as g_* -/
def r_post (B : Nat) (S : zS) (a : mA) (r : Int32) (S' : zS) : Prop := r = a.1 ∧ r_G (B + 60000) S' a.2 ∧ r_dn S S'
section RPK
variable {o : zW}
theorem rs_inN (x : Int32) {N : Nat} (hN : N + 1 < 2 ^ 31) {M : Int32} (hM : M = nI N) (S : zS) (K : Int32 → zS → Prop) (h1 : ∀ k, k < N + 1 → x = nI k → m_cl x (N + 1) = some k → K 1 S) (h0 : m_cl x (N + 1) = none → K 0 S) : zGi o 994 mdX5_in [.int x, .int 0, .int M] S K := by
  subst hM
  refine rs_in x 0 (nI N) S K (fun a b => ?_) (fun a => ?_)
  · obtain ⟨k, hk, e, ec⟩ := cl_le hN a (Int32.not_lt.1 b)
    exact h1 k hk e ec
  · rcases a with a | a
    · exact h0 (cl_neg a)
    · exact h0 (cl_gt hN a)
theorem rs_isBox (x : Int32) (S : zS) (K : Int32 → zS → Prop) (h1 : ∀ k, k < 16 → x = nI k → m_cl x 16 = some k → K 1 S) (h0 : m_cl x 16 = none → K 0 S) : zGi o 994 mdX5_isBox [.int x] S K :=
  w_X5_isBox_0 o x S _ (rs_inN x (N := 15) (by omega) rfl S _ (fun k a b c => ⟨rfl, _, rfl, h1 k a b c⟩) (fun a => ⟨rfl, _, rfl, h0 a⟩))
theorem rs_isItem (x : Int32) (S : zS) (K : Int32 → zS → Prop) (h1 : ∀ k, k < 4 → x = nI k → m_cl x 4 = some k → K 1 S) (h0 : m_cl x 4 = none → K 0 S) : zGi o 994 mdX5_isItem [.int x] S K :=
  w_X5_isItem_0 o x S _ (rs_inN x (N := 3) (by omega) rfl S _ (fun k a b c => ⟨rfl, _, rfl, h1 k a b c⟩) (fun a => ⟨rfl, _, rfl, h0 a⟩))
theorem RG_ref {B : Nat} {S : zS} {G : mG} (h : r_G B S G) (k : Nat) (hk : k < 3) : r_G B (sI S (24, 0, 0) k ((S.1 (24, 0, 0) k) + 1)) (g_ref G k) := by
  refine RG_I h rfl (fun k' h1 h2 => ?_) (by simp [sI]) ⟨rfl, rfl⟩ (fun t ht => ?_) ⟨?_, h.2.2.2.2.2.1, fun j hj => ?_⟩
  · have : ¬ k' = 24 := by omega
    funext t; simp [sI, this]
  · have := h.2.2.2.1
    simp only [g_ref, sI]
    by_cases e : t = k
    · subst e; simp [this t ht]
    · simp [e, this t ht]
  · simpa [sI, g_ref] using h.2.2.2.2.1
  · simpa [sI, g_ref] using h.2.2.2.2.2.2 j hj
theorem rs_bad {B : Nat} (S : zS) {G : mG} (h : r_G B S G) : zGi o 994 mdX5_bad [.ref (z_adr o (23, 0, 0))] S (fun r S4 => ∃ x, some (Value.int r) = some (.int x) ∧ r_post B S (g_bad G) x S4) :=
  w_X5_bad_0 o S _ ⟨_, rfl, _, rfl, rfl, RG_B (RG_ref h 0 (by omega)) (z_le3 B), dn_I S 24 _ _ (by omega)⟩
theorem rs_same {B : Nat} {S : zS} {G : mG} (h : r_G B S G) {a : mA} {r : Int32} (ha : a = (r, G)) : ∃ x, some (Value.int r) = some (.int x) ∧ r_post B S a x S := by
  subst ha
  exact ⟨_, rfl, rfl, RG_B h (z_le3 B), dn_rf S⟩
theorem rs_may (x0 x1 : Int32) (S : zS) (K : Int32 → zS → Prop) (h1 : ∀ k, k < 5 → x0 = nI k → m_may k x1 → K 1 S) (h0 : (m_cl x0 5 = none ∨ ∃ k, m_cl x0 5 = some k ∧ ¬ m_may k x1) → K 0 S) : zGi o 994 mdX5_may [.int x0, .int x1] S K := by
  refine w_X5_may_0 o _ _ S _ ⟨fun e => ?_, fun e => ?_, fun e => ?_, fun n0 n1 n4 => ?_⟩
  · refine rs_in _ _ _ S _ (fun a b => ⟨rfl, _, rfl, h1 0 (by omega) e ⟨Int32.not_lt.1 a, Int32.not_lt.1 b⟩⟩) (fun a => ⟨rfl, _, rfl, h0 (Or.inr ⟨0, by rw [e]; exact cl_in (k := 0) (by omega) (by omega), fun hm => ?_⟩)⟩)
    rcases a with a | a
    · exact Int32.not_lt.2 hm.1 a
    · exact Int32.not_lt.2 hm.2 a
  · refine rs_in _ _ _ S _ (fun a b => ⟨rfl, _, rfl, h1 1 (by omega) e ⟨Int32.not_lt.1 a, Int32.not_lt.1 b⟩⟩) (fun a => ⟨rfl, _, rfl, h0 (Or.inr ⟨1, by rw [e]; exact cl_in (k := 1) (by omega) (by omega), fun hm => ?_⟩)⟩)
    rcases a with a | a
    · exact Int32.not_lt.2 hm.1 a
    · exact Int32.not_lt.2 hm.2 a
  · refine rs_in _ _ _ S _ (fun a b => ⟨rfl, _, rfl, h1 4 (by omega) e ⟨Int32.not_lt.1 a, Int32.not_lt.1 b⟩⟩) (fun a => ⟨rfl, _, rfl, h0 (Or.inr ⟨4, by rw [e]; exact cl_in (k := 4) (by omega) (by omega), fun hm => ?_⟩)⟩)
    rcases a with a | a
    · exact Int32.not_lt.2 hm.1 a
    · exact Int32.not_lt.2 hm.2 a
  · have kk : ∀ k, k < 5 → x0 = nI k → k = 2 ∨ k = 3 := by
      intro k hk e
      have a0 : k ≠ 0 := fun h => n0 (by rw [e, h]; rfl)
      have a1 : k ≠ 1 := fun h => n1 (by rw [e, h]; rfl)
      have a4 : k ≠ 4 := fun h => n4 (by rw [e, h]; rfl)
      omega
    refine rs_in _ _ _ S _ (fun a b => ⟨fun hc => absurd hc (by decide), fun _ => ?_⟩) (fun a => ⟨fun _ => ⟨_, rfl, h0 (Or.inl ?_)⟩, fun hc => absurd rfl hc⟩)
    · obtain ⟨k, hk, e, ec⟩ := cl_le (N := 3) (x := x0) (by omega) (fun hc => a (Int32.lt_trans hc (by decide))) (Int32.not_lt.1 b)
      have hk23 := kk k (by omega) e
      have ec5 : m_cl x0 5 = some k := by rw [e]; exact cl_in (by omega) (by omega)
      have em : m_lo k = 1 ∧ m_hi k = 4 := by rcases hk23 with h | h <;> subst h <;> exact ⟨rfl, rfl⟩
      refine rs_in _ _ _ S _ (fun a b => ⟨fun hc => absurd hc (by decide), fun _ => ⟨_, rfl, h1 k (by omega) e ⟨by rw [em.1]; exact Int32.not_lt.1 a, by rw [em.2]; exact Int32.not_lt.1 b⟩⟩⟩) (fun a => ⟨fun _ => ⟨_, rfl, h0 (Or.inr ⟨k, ec5, fun hm => ?_⟩)⟩, fun hc => absurd rfl hc⟩)
      rw [m_may, em.1, em.2] at hm
      rcases a with a | a
      · exact Int32.not_lt.2 hm.1 a
      · exact Int32.not_lt.2 hm.2 a
    · cases hc : m_cl x0 5 with
      | none => rfl
      | some k =>
        exfalso
        obtain ⟨hk, e⟩ := cl_some hc
        have hk23 := kk k hk e
        rw [e] at a
        rcases a with a | a
        · have := (nI_ltI (b := 2) (by omega) (by omega)).1 a
          omega
        · have := (nI_ltI (a := 3) (by omega) (by omega)).1 a
          omega
theorem rs_newP {B : Nat} (S S2 S3 : zS) {G : mG} (h : r_G B S2 (g_keep G)) (hd : r_dn S S2) (hf : r_fr S2 S3) (A : mS) (hl : m_lim A) (hA : r_R S3 A) (r : Int32) : zGv o 994 mdX5_begins [.ref (z_adr o (23, 0, 0))] S3 (fun S' => ∃ x, some (Value.int r) = some (.int x) ∧ r_post B S (r, g_now (g_keep G) (m_new A)) x S') :=
  rs_begins0 S2 S3 hA hf _ (fun S' h' f' => ⟨_, rfl, rfl, RG_now h f' h' (am_B (am_new hl) (Nat.zero_le _)) (z_le3 B), dn_tr hd (dn_fr f')⟩)
theorem r_sets {B : Nat} (S : zS) {G : mG} (h : r_G B S G) (x1 x2 : Int32) : zGi o 994 mdX5_sets [.ref (z_adr o (23, 0, 0)), .int x1, .int x2] S (r_post B S (g_sets G x1 x2)) := by
  refine w_X5_sets_0 o _ _ S _ (rs_may x1 x2 S _ (fun k hk e hm => ⟨fun _ => ?_, fun hc => absurd hc (by decide)⟩) (fun hc => ⟨fun hc => absurd rfl hc, fun _ => ?_⟩))
  · have gg : g_sets G x1 x2 = (G.1.1 25 k, g_now (g_keep G) (m_new (m_i G.1 25 k x2))) := by
      unfold g_sets; rw [e, cl_in hk (by omega)]
      exact if_pos hm
    rw [gg, e]
    refine rs_leaves S h _ (fun S2 h2 d2 => ⟨z_in hk (by omega), z_in hk (by omega), ?_⟩)
    rw [z_cl (by omega)]
    have ea : S2.1 (25, 0, 0) k = G.1.1 25 k := h2.2.1.1 25 k (by unfold r_dir; omega)
    rw [ea]
    exact rs_newP S S2 _ h2 d2 ((r_fr.rf S2).I 25 k _ (by omega)) (m_i G.1 25 k x2) (lim_set h.1.1.1.1.1 hm) (rr_i h2.2.1 25 k x2 (by omega)) _
  · have gg : g_sets G x1 x2 = g_bad G := by
      unfold g_sets
      rcases hc with hc | ⟨k, hc, hm⟩
      · rw [hc]
      · rw [hc]; exact if_neg hm
    rw [gg]; exact rs_bad S h
theorem r_anew {B : Nat} (S : zS) {G : mG} (h : r_G B S G) : zGi o 994 mdX5_anew [.ref (z_adr o (23, 0, 0))] S (r_post B S (g_anew G)) := by
  refine w_X5_anew_0 o S _ (rs_leaves S h _ (fun S2 h2 d2 => ?_))
  have ea : S2.1 (40, 0, 0) 9 = G.1.1 40 9 := h2.2.1.1 40 9 (by unfold r_dir; omega)
  rw [ea]
  exact rs_newP S S2 S2 h2 d2 (r_fr.rf S2) G.1 h.1.1.1.1.1 h2.2.1 _
theorem rs_do {B : Nat} (hB : B + 60000 ≤ m_BB) (S S2 : zS) {G : mG} (h : r_G B S2 (g_keep G)) (hd : r_dn S S2) (q : mR) (hq : m_rok q) (x1 x2 x3 x4 : Int32) (hx : r_call q x1 x2 x3 x4) (a : mA) (ha : a = g_do G q) : zGi o 994 mdX5_done [.ref (z_adr o (23, 0, 0)), .int x1, .int x2, .int x3, .int x4] S2 (fun r S4 => ∃ x, some (Value.int r) = some (.int x) ∧ r_post B S a x S4) := by
  subst ha
  unfold g_do
  have hBB : B + 1000 < 2 ^ 30 := by have := z_bb hB; unfold m_BB at this; omega
  exact rs_done (A := G.1) q hq x1 x2 x3 x4 hx S2 S2 h.2.1 (r_fr.rf S2) h.1.1 hBB _ (fun S' h' f' => ⟨_, rfl, (res_1 G _).symm, RG_B (by rw [res_2]; exact RG_now h f' h' (rl_beg hq 1000 G.1 B h.1.1 hBB) (z_le1 B)) (z_le2 B), dn_tr hd (dn_fr f')⟩)
theorem rok_some {b j : Nat} {v : Option Int32} (hb : b < 16) (hj : j < 4) (hv : ∀ x, v = some x → x ≠ -1) : m_rok (some (b, j, v)) := fun b' j' v' e => by cases e; exact ⟨hb, hj, hv⟩
theorem r_load {B : Nat} (hB : B + 60000 ≤ m_BB) (S : zS) {G : mG} (h : r_G B S G) (x1 x2 : Int32) : zGi o 994 mdX5_load [.ref (z_adr o (23, 0, 0)), .int x1, .int x2] S (r_post B S (g_load G x1 x2)) := by
  refine w_X5_load_0 o _ _ S _ (rs_isBox x1 S _ (fun b hb e ec => ⟨fun hc => absurd hc (by decide), fun _ => rs_isItem x2 S _ (fun j hj e2 ec2 => ⟨fun _ => ?_, fun hc => absurd hc (by decide)⟩) (fun hc => ⟨fun hc => absurd rfl hc, fun _ => ?_⟩)⟩) (fun hc => ⟨fun _ => ?_, fun hc => absurd rfl hc⟩))
  · refine rs_leaves S h _ (fun S2 h2 d2 => ?_)
    rw [e, e2]
    refine rs_do hB S S2 h2 d2 (some (b, j, none)) (rok_some hb hj (fun x hx => by cases hx)) _ _ _ _ ⟨rfl, rfl, rfl, fun x hx => by cases hx⟩ _ ?_
    unfold g_load; rw [cl_in hb (by omega), cl_in hj (by omega)]
  · have gg : g_load G x1 x2 = g_bad G := by unfold g_load; rw [ec, hc]
    rw [gg]; exact rs_bad S h
  · have gg : g_load G x1 x2 = g_bad G := by unfold g_load; rw [hc]
    rw [gg]; exact rs_bad S h
theorem r_store {B : Nat} (hB : B + 60000 ≤ m_BB) (S : zS) {G : mG} (h : r_G B S G) (x1 x2 x3 : Int32) : zGi o 994 mdX5_store [.ref (z_adr o (23, 0, 0)), .int x1, .int x2, .int x3] S (r_post B S (g_store G x1 x2 x3)) := by
  refine w_X5_store_0 o _ _ _ S _ (rs_isBox x1 S _ (fun b hb e ec => ⟨fun hc => absurd hc (by decide), fun _ => rs_isItem x2 S _ (fun j hj e2 ec2 => ⟨fun hc => absurd hc (by decide), fun _ => rs_inN x3 (N := 99) (by omega) rfl S _ (fun v hv e3 ec3 => ⟨fun _ => ?_, fun hc => absurd hc (by decide)⟩) (fun hc => ⟨fun hc => absurd rfl hc, fun _ => ?_⟩)⟩) (fun hc => ⟨fun _ => ?_, fun hc => absurd rfl hc⟩)⟩) (fun hc => ⟨fun _ => ?_, fun hc => absurd rfl hc⟩))
  · refine rs_leaves S h _ (fun S2 h2 d2 => ?_)
    rw [e, e2, e3]
    refine rs_do hB S S2 h2 d2 (some (b, j, some (nI v))) (rok_some hb hj (fun x hx => ?_)) _ _ _ _ ⟨rfl, rfl, rfl, fun x hx => ?_⟩ _ ?_
    · simp only [Option.some.injEq] at hx
      rw [← hx]; exact nI_m1 (by omega)
    · simp only [Option.some.injEq] at hx
      exact hx
    · unfold g_store; rw [cl_in hb (by omega), cl_in hj (by omega), cl_in hv (by omega)]
  · have gg : g_store G x1 x2 x3 = g_bad G := by unfold g_store; rw [ec, ec2, hc]
    rw [gg]; exact rs_bad S h
  · have gg : g_store G x1 x2 x3 = g_bad G := by unfold g_store; rw [ec, hc]
    rw [gg]; exact rs_bad S h
  · have gg : g_store G x1 x2 x3 = g_bad G := by unfold g_store; rw [hc]
    rw [gg]; exact rs_bad S h
theorem r_fence {B : Nat} (hB : B + 60000 ≤ m_BB) (S : zS) {G : mG} (h : r_G B S G) : zGi o 994 mdX5_fence [.ref (z_adr o (23, 0, 0))] S (r_post B S (g_fence G)) := by
  refine w_X5_fence_0 o S _ (rs_leaves S h _ (fun S2 h2 d2 => ?_))
  exact rs_do hB S S2 h2 d2 none (fun b' j' v' e => by cases e) _ _ _ _ rfl _ rfl
theorem rs_ticksL {N : Nat} (hN : N ≤ 99) (S0 : zS) (x : Int32) (K : Int32 → zS → Prop) : ∀ f, f ≤ N → ∀ (S : zS) (A : mS) (B : Nat), r_R S A → r_fr S0 S → m_am B 0 A → B + f < 2 ^ 30 →
    (∀ S', r_R S' (m_idle f A) → r_fr S0 S' → K ((m_idle f A).1 40 8 - x) S') →
    zG o 994 mdX5_ticks 29 [(0, .ref (z_adr o (23, 0, 0))), (1, .int (nI N)), (2, .int x), (3, .int (nI (N - f)))] [] S (fun r S' => ∃ y, r = some (.int y) ∧ K y S') := by
  intro f
  induction f with
  | zero =>
    intro _ S A B h hf ham hB hK
    refine w_X5_ticks_29 o _ _ _ S _ ⟨fun _ => ⟨_, rfl, ?_⟩, fun hc => absurd (Int32.le_refl _) hc⟩
    rw [h.1 40 8 (by unfold r_dir; omega)]
    exact hK S h hf
  | succ f ih =>
    intro hf1 S A B h hf ham hB hK
    have e1 : nI (N - (f + 1)) + 1 = nI (N - f) := by rw [← nI_succ]; exact congrArg nI (by omega)
    refine w_X5_ticks_29 o _ _ _ S _ ⟨fun hc => absurd hc (z_ge (a := N - (f + 1)) (b := N) (by omega) (by omega)), fun _ => ?_⟩
    refine rs_goesBy S0 S h hf ham _ (fun S4 h4 f4 => ?_)
    rw [e1]
    exact ih (by omega) S4 (m_pass A) (B + 1) h4 f4 (am_01 (am_pass ham (by omega))) (by omega) hK
theorem z_99 {B : Nat} (h : B + 60000 ≤ m_BB) {n : Nat} (hn : n ≤ 99) : B + n < 2 ^ 30 ∧ B + n ≤ B + 60000 := by unfold m_BB at h; omega
theorem r_ticks {B : Nat} (hB : B + 60000 ≤ m_BB) (S : zS) {G : mG} (h : r_G B S G) (x1 : Int32) : zGi o 994 mdX5_ticks [.ref (z_adr o (23, 0, 0)), .int x1] S (r_post B S (g_ticks G x1)) := by
  refine w_X5_ticks_0 o _ S _ (rs_inN x1 (N := 99) (by omega) rfl S _ (fun n hn e ec => ⟨fun _ => ?_, fun hc => absurd hc (by decide)⟩) (fun hc => ⟨fun hc => absurd rfl hc, fun _ => ?_⟩))
  · have gg : g_ticks G x1 = ((m_idle n G.1).1 40 8 - G.1.1 40 8, g_now (g_keep G) (m_idle n G.1)) := by unfold g_ticks; rw [ec]
    rw [gg, e]
    refine rs_leaves S h _ (fun S2 h2 d2 => ?_)
    have ea : S2.1 (40, 0, 0) 8 = G.1.1 40 8 := h2.2.1.1 40 8 (by unfold r_dir; omega)
    rw [ea]
    obtain ⟨b1, b2⟩ := z_99 hB (n := n) (by omega)
    have e0 : (0 : Int32) = nI (n - n) := by rw [Nat.sub_self]; rfl
    rw [e0]
    exact rs_ticksL (by omega) S2 _ _ n (Nat.le_refl _) S2 G.1 B h2.2.1 (r_fr.rf S2) h2.1.1 b1 (fun S' h' f' => ⟨rfl, RG_B (RG_now h2 f' h' (am_idle n G.1 B h2.1.1 b1) (Nat.le_add_right _ _)) b2, dn_tr d2 (dn_fr f')⟩)
  · have gg : g_ticks G x1 = g_bad G := by unfold g_ticks; rw [hc]
    rw [gg]; exact rs_bad S h
end RPK
