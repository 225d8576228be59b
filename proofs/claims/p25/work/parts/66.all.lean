/-! all that always holds -/
def m_al (B e : Nat) (A : mS) : Prop := m_inv 16 A ∧ m_dd 16 16 A ∧ m_tb B A ∧ m_nb e A ∧ m_g8 (65 * m_T A - e) A ∧ m_ord e A
theorem al_pass {A : mS} {B : Nat} (h : m_al B 0 A) (hB : B < 2 ^ 30) : m_al (B + 1) 1 (m_pass A) ∧ m_T (m_pass A) = m_T A + 1 := by
  obtain ⟨hI, hd, ht, hn, hg, ho⟩ := h
  obtain ⟨p1, p2, p3, p4⟩ := pass_keep hI hd ht hB
  refine ⟨⟨p1, p2, p3, ?_, ?_, ord_pass ho hI ht hB⟩, p4⟩
  · have e7 := pass_7 A
    exact ⟨e7.trans (hn.1.trans (congrArg nI (m_N_eq e7).symm)), by rw [m_N_eq e7, p4]; have := hn.2; omega⟩
  · exact g8_le (g8_pass hg hI) (by omega)
theorem al_01 {A : mS} {B : Nat} (h : m_al B 1 A) : m_al B 0 A := by
  obtain ⟨hI, hd, ht, hn, hg, ho⟩ := h
  exact ⟨hI, hd, ht, ⟨hn.1, by have := hn.2; omega⟩, g8_le hg (by omega), ord_le ho (by omega)⟩
theorem al_B {A : mS} {B B' e : Nat} (h : m_al B e A) (hB : B ≤ B') : m_al B' e A := by
  obtain ⟨hI, hd, ht, hn, hg, ho⟩ := h
  exact ⟨hI, hd, ⟨ht.1, by have := ht.2; omega⟩, hn, hg, ho⟩
theorem m_stall_T (A : mS) : (m_stall A).1 40 9 = A.1 40 9 := (m_tal_keep A (w := 4) (by omega) 1036831949).1
theorem al_stall {A : mS} {B e : Nat} (h : m_al B e A) : m_al B e (m_stall A) := by
  obtain ⟨hI, hd, ht, hn, hg, ho⟩ := h
  have hst9 := m_stall_T A
  refine ⟨inv_tal hI 4 (Or.inr (Or.inr (Or.inr (Or.inr (Or.inr rfl))))), dd_tal hd (by omega) _, tb_same ht hst9, nb_same hn (stall_7 A) hst9, ?_, ord_tal ho (by omega) _⟩
  rw [m_T_eq hst9]
  exact g8_same hg (tal_8 A (by omega) _)
theorem al_go {A : mS} {B : Nat} (h : m_al B 1 A) (hB : B < 2 ^ 30) {q : mR} (hq : m_rok q) (hc : m_can A q = true) : m_al B 0 (m_go A q) := by
  obtain ⟨hI, hd, ht, hn, hg, ho⟩ := h
  obtain ⟨g1, g2, g3⟩ := go_keep hq hI hd ht hc
  refine ⟨g1, g2, g3, nb_go hn ht hB q, ?_, ord_go ho hI ht hB hq hc⟩
  rw [m_T_eq (go_T A q)]
  have := hn.2
  exact g8_le (g8_go hg q) (by omega)
theorem al_beg {q : mR} (hq : m_rok q) : ∀ f (A : mS) (B : Nat), m_al B 0 A → B + f < 2 ^ 30 → m_al (B + f) 0 (m_beg f A q) := by
  intro f
  induction f with
  | zero => intro A B h _; exact h
  | succ f ih =>
    intro A B h hB
    obtain ⟨p, p4⟩ := al_pass h (by omega)
    by_cases hc : m_can (m_pass A) q = true
    · simp only [m_beg, hc, if_true]
      exact al_B (al_go p (by omega) hq hc) (by omega)
    · simp only [m_beg, if_neg hc]
      exact al_B (ih _ (B + 1) (al_01 (al_stall p)) (by omega)) (by omega)
theorem al_idle : ∀ f (A : mS) (B : Nat), m_al B 0 A → B + f < 2 ^ 30 → m_al (B + f) 0 (m_idle f A) := by
  intro f
  induction f with
  | zero => intro A B h _; exact h
  | succ f ih =>
    intro A B h hB
    exact al_B (ih _ (B + 1) (al_01 (al_pass h (by omega)).1) (by omega)) (by omega)
/-- what the trial waits for -/
def m_await : Nat → mS → mS
  | 0, A => A
  | n + 1, A => if m_F A = [] then A else m_await n (m_pass A)
theorem al_await : ∀ f (A : mS) (B : Nat), m_al B 0 A → B + f < 2 ^ 30 → m_al (B + f) 0 (m_await f A) := by
  intro f
  induction f with
  | zero => intro A B h _; exact h
  | succ f ih =>
    intro A B h hB
    simp only [m_await]
    split
    · exact al_B h (by omega)
    · exact al_B (ih _ (B + 1) (al_01 (al_pass h (by omega)).1) (by omega)) (by omega)
theorem z_ar1 {U U' B f : Nat} (h : U' ≤ U + 17 * f) (hU : U ≤ 17 * B) : U' ≤ 17 * (B + f) := by rw [Nat.mul_add]; omega
theorem z_ar2 {U U' B f : Nat} (h : U' ≤ U + 16 * f) (hU : U ≤ 17 * B) : U' ≤ 17 * (B + f) := by rw [Nat.mul_add]; omega
theorem z_ar3 {B c l N : Nat} (h : B + c * (l + 1) < N) : B + c < N ∧ B + c + c * l < N ∧ B + c + c * l ≤ B + c * (l + 1) := by rw [Nat.mul_add, Nat.mul_one] at h ⊢; omega
/-! orders, one by one -/
abbrev mO : Type := Nat ⊕ mR
def m_ook (x : mO) : Prop := match x with
  | .inl n => n ≤ 99
  | .inr q => m_rok q
def m_exec (A : mS) (x : mO) : mS := match x with
  | .inl n => m_idle n A
  | .inr q => m_beg 1000 A q
theorem al_exec {A : mS} {B : Nat} (h : m_al B 0 A) (hB : B + 1000 < 2 ^ 30) {x : mO} (hx : m_ook x) : m_al (B + 1000) 0 (m_exec A x) := by
  cases x with
  | inl n => 
    have hn : n ≤ 99 := hx
    exact al_B (al_idle n A B h (by omega)) (by omega)
  | inr q => exact al_beg hx 1000 A B h hB
theorem al_run (l : List mO) : ∀ (A : mS) (B : Nat), (∀ x ∈ l, m_ook x) → m_al B 0 A → B + 1000 * l.length < 2 ^ 30 → m_al (B + 1000 * l.length) 0 (l.foldl m_exec A) := by
  induction l with
  | nil => intro A B _ h _; exact h
  | cons x l ih =>
    intro A B hl h hB
    simp only [List.length_cons] at hB ⊢
    obtain ⟨b1, b2, b3⟩ := z_ar3 hB
    exact al_B (ih _ (B + 1000) (fun y hy => hl y (List.mem_cons_of_mem _ hy)) (al_exec h b1 (hl x List.mem_cons_self)) b2) b3
/-- state i of the class holds A, with room for what comes -/
def c_H (i B : Nat) (S : zS) (A : mS) : Prop := (∃ U, U ≤ 17 * B ∧ c_R i U S A) ∧ m_al B 0 A
abbrev m_BB : Nat := 33000000
section SPA
variable {o : zW} {n i : Nat}
theorem sp_begin (hi : i < 8) (hn : z_sb i + 120 ≤ n) {b : Nat} (hb : b < 16) {j : Nat} (hj : j < 4) (v : Option Int32) (hv : ∀ x, v = some x → x ≠ -1) (S : zS) {A : mS} {B : Nat} (h : c_H i B S A) (hB : B + 1000 ≤ m_BB) (K : Int32 → zS → Prop) (hK : ∀ S', c_H i (B + 1000) S' (m_beg 1000 A (some (b, j, v))) → c_fr i S S' → K ((m_beg 1000 A (some (b, j, v))).1 40 9) S') :
    zGi o n mdX2_begin [.ref (z_adr o (1, i, 0)), .ref (z_adr o (5, i, b)), .int (nI j), .int (v.getD (-1))] S K := by
  obtain ⟨⟨U, hU, hR⟩, hal⟩ := h
  unfold m_BB at hB
  have hal2 := al_beg (q := some (b, j, v)) (fun b' j' v' e => by cases e; exact ⟨hb, hj, hv⟩) 1000 A B hal (by omega)
  obtain ⟨hI, hd, ht, hN, hg, ho⟩ := hal
  refine w_X2_begin_0 o n i hi hn (some b) (fun b' e => by cases e; exact hb) _ _ S _ ?_
  have ht2 := ht.2
  have hN2 := hN.2
  refine sp_beg hi hn hb hj v hv S K 1000 (by omega) S A U B hR (c_fr_rf i S) hI hd ht (by omega) (by omega) hN.1 (by omega) (fun S' U' hU' h' f' => ?_)
  rw [h'.1.2.1 9 (by omega)]
  exact hK S' ⟨⟨U', z_ar1 hU' hU, h'⟩, hal2⟩ f'
theorem sp_beginF (hi : i < 8) (hn : z_sb i + 120 ≤ n) (y1 y2 : Int32) (S : zS) {A : mS} {B : Nat} (h : c_H i B S A) (hB : B + 1000 ≤ m_BB) (K : Int32 → zS → Prop) (hK : ∀ S', c_H i (B + 1000) S' (m_beg 1000 A none) → c_fr i S S' → K ((m_beg 1000 A none).1 40 9) S') :
    zGi o n mdX2_begin [.ref (z_adr o (1, i, 0)), .null, .int y1, .int y2] S K := by
  obtain ⟨⟨U, hU, hR⟩, hal⟩ := h
  unfold m_BB at hB
  have hal2 := al_beg (q := none) (fun b' j' v' e => by cases e) 1000 A B hal (by omega)
  obtain ⟨hI, hd, ht, hN, hg, ho⟩ := hal
  refine w_X2_begin_0 o n i hi hn none (fun b' e => by cases e) _ _ S _ ?_
  refine sp_begF hi hn y1 y2 S K 1000 (by omega) S A U B hR (c_fr_rf i S) hI hd ht (by omega) (by omega) (fun S' U' hU' h' f' => ?_)
  rw [h'.1.2.1 9 (by omega)]
  exact hK S' ⟨⟨U', z_ar1 hU' hU, h'⟩, hal2⟩ f'
theorem sp_pause (hi : i < 8) (hn : z_sb i + 120 ≤ n) {N : Nat} (hN : N ≤ 99) (S : zS) {A : mS} {B : Nat} (h : c_H i B S A) (hB : B + 1000 ≤ m_BB) (K : zS → Prop) (hK : ∀ S', c_H i (B + 1000) S' (m_idle N A) → c_fr i S S' → K S') :
    zGv o n mdX2_pause [.ref (z_adr o (1, i, 0)), .int (nI N)] S K := by
  obtain ⟨⟨U, hU, hR⟩, hal⟩ := h
  unfold m_BB at hB
  have hal2 := al_B (al_idle N A B hal (by omega)) (B' := B + 1000) (by omega)
  obtain ⟨hI, hd, ht, hN', hg, ho⟩ := hal
  refine w_X2_pause_0 o n i hi hn _ S _ ?_
  have e0 : (0 : Int32) = nI (N - N) := by rw [Nat.sub_self]; rfl
  rw [e0]
  exact sp_idle hi hn N hN S K N (Nat.le_refl _) S A U B hR (c_fr_rf i S) hI hd ht (by omega) (by omega) (fun S' U' hU' h' f' => hK S' ⟨⟨U', by omega, h'⟩, hal2⟩ f')
theorem sp_awaitL (hi : i < 8) (hn : z_sb i + 120 ≤ n) (S0 : zS) (K : zS → Prop) : ∀ f, f ≤ 1000 → ∀ (S : zS) (A : mS) (U B : Nat), c_R i U S A → c_fr i S0 S → m_al B 0 A → B + f < 2 ^ 30 → U + 16 * f < 2 ^ 31 →
    (∀ S' U', U' ≤ U + 16 * f → c_R i U' S' (m_await f A) → c_fr i S0 S' → K S') →
    zG o n mdX2_awaitFetches 2 [(0, .ref (z_adr o (1, i, 0))), (1, .int (nI (1000 - f)))] [] S (fun r S' => r = none ∧ K S') := by
  intro f
  induction f with
  | zero =>
    intro _ S A U B h hf hI hB hU hK
    refine w_X2_awaitFetches_2 o n i hi hn _ S _ ⟨fun _ => ⟨rfl, hK S U (by omega) h hf⟩, fun hc => absurd (by decide) hc⟩
  | succ f ih =>
    intro hf1 S A U B h hf hal hB hU hK
    have e5 : S.1 (1, i, 0) 5 = nI (m_F A).length := h.2.2.2.2.2.1.1
    have hl : (m_F A).length ≤ 4 := by
      have := hal.1.2.2.1.2.2
      obtain ⟨-, -, ⟨F, hF, hF1, hF4⟩, -, -⟩ := hal.1.1
      rw [hF, z_cl (by omega)] at this; omega
    refine w_X2_awaitFetches_2 o n i hi hn _ S _ ⟨fun hc => absurd hc (z_ge (a := 1000 - (f + 1)) (b := 1000) (by omega) (by decide)), fun _ => ⟨fun h5 => ⟨rfl, ?_⟩, fun h5 => ?_⟩⟩
    · have hnil : m_F A = [] := by
        rcases Nat.eq_zero_or_pos (m_F A).length with g | g
        · exact List.eq_nil_of_length_eq_zero g
        · rw [e5] at h5
          exact absurd h5 (z_ge (a := 0) (b := (m_F A).length) g (by omega))
      refine hK S U (by omega) ?_ hf
      simp only [m_await, hnil, if_true]; exact h
    · have hne : ¬ m_F A = [] := by
        intro e
        rw [e5, e] at h5
        exact h5 (by decide)
      refine sp_pass hi hn S h hal.1 hal.2.1 hal.2.2.1 (by omega) (by omega) _ (fun S4 U4 hU4 h4 f4 => ?_)
      have e1 : nI (1000 - (f + 1)) + 1 = nI (1000 - f) := by
        rw [← nI_succ]; exact congrArg nI (by omega)
      rw [e1]
      refine ih (by omega) S4 (m_pass A) U4 (B + 1) h4 (hf.tr f4) (al_01 (al_pass hal (by omega)).1) (by omega) (by omega) (fun S' U' hU' h' f' => hK S' U' (by omega) ?_ f')
      simp only [m_await, if_neg hne]; exact h'
theorem sp_await (hi : i < 8) (hn : z_sb i + 120 ≤ n) (S : zS) {A : mS} {B : Nat} (h : c_H i B S A) (hB : B + 1000 ≤ m_BB) (K : zS → Prop) (hK : ∀ S', c_H i (B + 1000) S' (m_await 1000 A) → c_fr i S S' → K S') :
    zGv o n mdX2_awaitFetches [.ref (z_adr o (1, i, 0))] S K := by
  obtain ⟨⟨U, hU, hR⟩, hal⟩ := h
  unfold m_BB at hB
  have hal2 := al_await 1000 A B hal (by omega)
  refine w_X2_awaitFetches_0 o n i hi hn S _ ?_
  exact sp_awaitL hi hn S K 1000 (by omega) S A U B hR (c_fr_rf i S) hal (by omega) (by omega) (fun S' U' hU' h' f' => hK S' ⟨⟨U', z_ar2 hU' hU, h'⟩, hal2⟩ f')
end SPA
