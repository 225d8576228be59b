/-! the order of the fetches; all comes to an end -/
abbrev m_d (A : mS) (x : Nat) : Nat := (A.1 30 x).toNatClampNeg
abbrev m_L (A : mS) : Nat := (A.1 25 4).toNatClampNeg
def m_ord (e : Nat) (A : mS) : Prop := (m_F A).Pairwise (fun a c => m_d A a < m_d A c) ∧ ∀ x, x ∈ m_F A → m_d A x + e ≤ m_T A + m_L A
theorem come_F (A : mS) (b : Nat) : m_F (m_come A b) = (m_F A).erase b := by
  have k := m_fold_keep b (m_Q A b) (m_near (m_take (m_f A ((m_F A).erase b)) b) b)
  have kn := m_near_keep (m_take (m_f A ((m_F A).erase b)) b) b
  exact k.1.2.2.2.2.2.1.trans kn.2.1
theorem ord_sub {e : Nat} {A A' : mS} (h : m_ord e A) (hF : (m_F A').Sublist (m_F A)) (h30 : ∀ x, x ∈ m_F A' → A'.1 30 x = A.1 30 x) (h9 : A'.1 40 9 = A.1 40 9) (h25 : A'.1 25 4 = A.1 25 4) : m_ord e A' := by
  have hd : ∀ x, x ∈ m_F A' → m_d A' x = m_d A x := fun x hx => by unfold m_d; rw [h30 x hx]
  refine ⟨?_, fun x hx => ?_⟩
  · have h1 := h.1.sublist hF
    refine List.Pairwise.imp_of_mem (fun {a c} ha hc hac => ?_) h1
    rw [hd a ha, hd c hc]; exact hac
  · rw [hd x hx, m_T_eq h9, show m_L A' = m_L A by unfold m_L; rw [h25]]
    exact h.2 x (hF.subset hx)
theorem ord_p1 {e : Nat} {A : mS} (h : m_ord e A) (b : Nat) : m_ord e (m_p1 A b) := by
  unfold m_p1
  split
  · refine ord_sub h (List.Sublist.refl _) (fun x _ => ?_) ?_ ?_ <;> simp [m_gone, m_tal, m_far, m_c, m_i]
  · exact h
theorem ord_near {e : Nat} {A : mS} (h : m_ord e A) {b : Nat} (h3 : ∀ x, x ∈ m_F A → x ≠ b ∧ (m_near A b).1 29 x = 3) : m_ord e (m_near A b) := by
  obtain ⟨kQ, kF, k25, k29, k9, k7⟩ := m_near_keep A b
  refine ord_sub h (by rw [kF]; exact List.Sublist.refl _) (fun x hx => ?_) k9 (by rw [k25])
  rw [kF] at hx
  obtain ⟨g1, g2⟩ := h3 x hx
  rcases m_near_oth A g1 with ⟨q1, q2⟩ | q1 | ⟨q1, q2⟩
  · exact q2
  · rw [q1] at g2; exact absurd g2 (by decide)
  · rw [q1] at g2; exact absurd g2 (by decide)
theorem ord_p2 {e : Nat} {A : mS} (h : m_ord e A) (hI : m_inv 16 A) (b : Nat) (hb : b < 16) : m_ord e (m_p2 A b) := by
  have hI2 := inv_p2 hI hb
  unfold m_p2 at hI2 ⊢
  split
  · rename_i hc
    rw [if_pos hc] at hI2
    obtain ⟨c1, c2, c3⟩ := m_come_b A b
    refine ord_sub h (by rw [come_F]; exact List.erase_sublist) (fun x hx => ?_) c2 (by rw [c3])
    have g := (hI2.2.2.1.2.1 x).1 hx
    have hne : x ≠ b := fun e => by subst e; rw [c1] at g; exact absurd g.2.2 (by decide)
    rcases m_come_oth A hne with ⟨q1, q2⟩ | q1 | ⟨q1, q2⟩
    · exact q2
    · rw [q1] at g; exact absurd g.2.2 (by decide)
    · rw [q1] at g; exact absurd g.2.2 (by decide)
  · exact h
theorem ord_tick {A : mS} {B : Nat} (h : m_ord 0 A) (ht : m_tb B A) (hB : B < 2 ^ 30) : m_ord 1 (m_tick A) := by
  obtain ⟨e1, e2⟩ := m_T_tick ht hB
  have hd : ∀ x, m_d (m_tick A) x = m_d A x := fun x => by simp [m_d, m_tick, m_i]
  have hL : m_L (m_tick A) = m_L A := by simp [m_L, m_tick, m_i]
  refine ⟨?_, fun x hx => ?_⟩
  · refine h.1.imp (fun {a c} hac => ?_)
    rw [hd, hd]; exact hac
  · have := h.2 x hx
    rw [hd, hL, e1]; omega
theorem ord_pass {A : mS} {B : Nat} (h : m_ord 0 A) (hI : m_inv 16 A) (ht : m_tb B A) (hB : B < 2 ^ 30) : m_ord 1 (m_pass A) :=
  (z_pass (fun _ A => m_inv 16 A ∧ m_ord 1 A) (fun _ A => m_inv 16 A ∧ m_ord 1 A) (fun k A hk i => ⟨inv_p1 i.1 hk, ord_p1 i.2 k⟩) (fun A i => i) (fun k A hk i => ⟨inv_p2 i.1 hk, ord_p2 i.2 i.1 k hk⟩) A ⟨inv_tick hI, ord_tick h ht hB⟩).2
theorem ord_le {e e' : Nat} {A : mS} (h : m_ord e A) (he : e' ≤ e) : m_ord e' A := ⟨h.1, fun x hx => by have := h.2 x hx; omega⟩
theorem ord_same {e : Nat} {A A' : mS} (h : m_ord e A) (hF : m_F A' = m_F A) (h30 : A'.1 30 = A.1 30) (h9 : A'.1 40 9 = A.1 40 9) (h25 : A'.1 25 = A.1 25) : m_ord e A' :=
  ord_sub h (by rw [hF]; exact List.Sublist.refl _) (fun x _ => by rw [h30]) h9 (by rw [h25])
theorem tal_25 (A : mS) (w : Nat) (p : UInt32) : (m_tal A w p).1 25 = A.1 25 := by funext t; simp [m_tal, m_i, m_c]
theorem ord_tal {e : Nat} {A : mS} (h : m_ord e A) {w : Nat} (hw : w < 7) (p : UInt32) : m_ord e (m_tal A w p) :=
  ord_same h rfl (m_tal_keep A hw p).2.2 (m_tal_keep A hw p).1 (tal_25 A w p)
theorem ord_do {e : Nat} {A : mS} (h : m_ord e A) (b j : Nat) (v : Option Int32) : m_ord e (m_do A b j v) := by
  obtain ⟨g1, g2, g3, g4, g5, g6, g7, g8, -⟩ := m_do_keep A b j v
  exact ord_same h g6 g3 g8 g2
theorem join_F (A : mS) (b j : Nat) (v : Option Int32) : m_F (m_join A b j v) = m_F A ∧ (m_join A b j v).1 25 = A.1 25 := by
  cases v with
  | some x => exact ⟨rfl, rfl⟩
  | none => 
    obtain ⟨k25, k29, k28, k30, k27, k26, k39, k40, kR, kF, -⟩ := begun_keep (m_q A b (m_Q A b ++ [(j, m_T A, none, m_N A)]))
    exact ⟨kF, k25⟩
theorem ord_join {e : Nat} {A : mS} (h : m_ord e A) (b j : Nat) (v : Option Int32) : m_ord e (m_join A b j v) :=
  ord_same h (join_F A b j v).1 (m_join_keep A b j v).2.2 (m_join_keep A b j v).1 (join_F A b j v).2
theorem ord_ftch {A : mS} {B : Nat} (h : m_ord 1 A) (ht : m_tb B A) (hB : B < 2 ^ 30) (hlim : m_lim A) {b : Nat} (hb : b ∉ m_F A) : m_ord 0 (m_ftch A b) := by
  obtain ⟨L, hL, hL1, hL20⟩ := hlim.2.2.2.2
  have ht2 := ht.2
  have eL : m_L A = L := by unfold m_L; rw [hL, z_cl (by omega)]
  have eL' : m_L (m_ftch A b) = m_L A := by simp [m_L, m_i, m_f]
  have eT : m_T (m_ftch A b) = m_T A := m_T_eq (by simp [m_i, m_f])
  have edb : m_d (m_ftch A b) b = m_T A + L := by
    have : (m_ftch A b).1 30 b = A.1 40 9 + A.1 25 4 := by simp [m_i, m_f]
    unfold m_d
    rw [this, hL, ht.1, nI_add, z_cl (by omega)]
  have edx : ∀ x, x ∈ m_F A → m_d (m_ftch A b) x = m_d A x := by
    intro x hx
    have hne : x ≠ b := fun e => hb (e ▸ hx)
    simp [m_d, m_i, m_f, hne]
  have eF : m_F (m_ftch A b) = m_F A ++ [b] := rfl
  refine ⟨?_, fun x hx => ?_⟩
  · rw [eF, List.pairwise_append]
    refine ⟨?_, List.pairwise_singleton _ _, fun x hx y hy => ?_⟩
    · refine List.Pairwise.imp_of_mem (fun {a c} ha hc hac => ?_) h.1
      rw [edx a ha, edx c hc]; exact hac
    · rw [List.mem_singleton] at hy
      subst hy
      have := h.2 x hx
      rw [edx x hx, edb]; omega
  · rw [eF, List.mem_append, List.mem_singleton] at hx
    rw [eT, eL', eL]
    rcases hx with hx | hx
    · have := h.2 x hx
      rw [edx x hx]; omega
    · subst hx; rw [edb]; omega
theorem ord_go {A : mS} {B : Nat} (h : m_ord 1 A) (hI : m_inv 16 A) (ht : m_tb B A) (hB : B < 2 ^ 30) {q : mR} (hq : m_rok q) (hc : m_can A q = true) : m_ord 0 (m_go A q) := by
  obtain _ | ⟨b, j, v⟩ := q
  · exact ord_le h (by omega)
  · obtain ⟨q1, q2, q3⟩ := hq b j v rfl
    simp only [m_go]
    split
    · exact ord_tal (ord_do (A := m_use A b) (ord_le h (by omega)) b j v) (by omega) _
    · rename_i n1
      split
      · rename_i n2
        have hb' := inv_back hI q1 n2
        refine ord_tal (ord_do (ord_near (ord_le (ord_same h (A' := m_i A 39 1 (A.1 39 1 - 1)) rfl ?_ ?_ ?_) (by omega)) (fun x hx => ?_)) b j v) (by omega) _
        · funext t; simp [m_i]
        · simp [m_i]
        · funext t; simp [m_i]
        · have hxF : x ∈ m_F (m_near (m_i A 39 1 (A.1 39 1 - 1)) b) := by rw [(m_near_keep _ b).2.1]; exact hx
          have g := (hb'.1.2.2.1.2.1 x).1 hxF
          refine ⟨fun e => ?_, g.2.2⟩
          subst e
          rw [hb'.2] at g
          exact absurd g.2.2 (by decide)
      · rename_i n2
        split
        · exact ord_tal (ord_join (ord_le h (by omega)) b j v) (by omega) _
        · rename_i n3
          refine ord_tal (ord_join (ord_ftch h ht hB hI.1 (fun hm => n3 ((hI.2.2.1.2.1 b).1 hm).2.2)) b j v) (by omega) _
