section SPY
variable {o : zW}
def c_addO (S : zS) (k : Nat) (x1 x2 x3 : Int32) : zS := sI (sI (sI (sI S (18, 0, 0) k x1) (19, 0, 0) k x2) (20, 0, 0) k x3) (16, 0, 0) 5 (nI (k + 1))
theorem sp_addOrder (S : zS) {k : Nat} (hk : k < 60) (h5 : S.1 (16, 0, 0) 5 = nI k) (x1 x2 x3 : Int32) (K : zS → Prop) (hK : K (c_addO S k x1 x2 x3)) : zGv o 970 mdX3_addOrder [.ref (z_adr o (16, 0, 0)), .int x1, .int x2, .int x3] S K := by
  refine w_X3_addOrder_0 o _ _ _ S _ ⟨fun hc => absurd hc (by rw [h5]; exact nI_pos (by omega)), fun _ => ⟨fun hc => absurd hc (by rw [h5]; exact z_ge (a := k) (b := 60) hk (by decide)), fun _ => ?_⟩⟩
  rw [h5]
  refine ⟨z_in hk (by omega), fun y3 e3 => ?_⟩
  have e3' : y3 = nI k := by rw [e3]; simpa [sI] using h5
  subst e3'
  rw [z_cl (by omega)]
  refine ⟨z_in hk (by omega), fun S4 e4 => ?_⟩
  have e4' : S4.1 (16, 0, 0) 5 = nI k := by rw [e4]; simpa [sI] using h5
  rw [e4', z_cl (by omega)]
  refine ⟨z_in hk (by omega), fun y5 e5 S6 e6 => ⟨rfl, ?_⟩⟩
  have e5' : y5 = nI k := by rw [e5]; simpa [sI] using e4'
  rw [e6, e5', ← nI_succ, e4]
  exact hK
theorem ords_add {S : zS} {l : List mO} (h : c_ords S l) (hl : l.length < 60) (x : mO) (x1 x2 x3 : Int32) (hx : match x with
    | .inl m => x1 = -2 ∧ x3 = nI m
    | .inr none => x1 = -1
    | .inr (some (b, j, v)) => x1 = nI b ∧ x2 = nI j ∧ x3 = v.getD (-1)) : c_ords (c_addO S l.length x1 x2 x3) (l ++ [x]) := by
  refine ⟨by simp [c_addO, sI], by simp only [List.length_append, List.length_singleton]; omega, fun k y hk => ?_⟩
  by_cases e : k = l.length
  · subst e
    rw [List.getElem?_append_right (Nat.le_refl _)] at hk
    simp only [Nat.sub_self, List.getElem?_cons_zero, Option.some.injEq] at hk
    subst hk
    unfold c_ord
    obtain m | q := x
    · simpa [c_addO, sI] using hx
    · obtain _ | ⟨b, j, v⟩ := q
      · simpa [c_addO, sI] using hx
      · simpa [c_addO, sI] using hx
  · have hk2 : k < l.length := by
      have := (List.getElem?_eq_some_iff.1 hk).1
      simp only [List.length_append, List.length_singleton] at this
      omega
    rw [List.getElem?_append_left hk2] at hk
    have := h.2.2 k y hk
    unfold c_ord at this ⊢
    obtain m | q := y
    · simpa [c_addO, sI, e] using this
    · obtain _ | ⟨b, j, v⟩ := q
      · simpa [c_addO, sI, e] using this
      · simpa [c_addO, sI, e] using this
theorem ft_addO {S S1 : zS} (h : c_ft S S1) (k : Nat) (x1 x2 x3 : Int32) : c_ft S (c_addO S1 k x1 x2 x3) :=
  (((h.I 18 k _ (by omega)).I 19 k _ (by omega)).I 20 k _ (by omega)).I 16 5 _ (by omega)
theorem ords_I {S : zS} {l : List mO} (h : c_ords S l) (s : Nat) (hs : s ≠ 5) (v : Int32) : c_ords (sI S (16, 0, 0) s v) l := by
  have hs' : ¬ 5 = s := fun e => hs e.symm
  refine ⟨by simp [sI, hs', h.1], h.2.1, fun k x hk => ?_⟩
  have := h.2.2 k x hk
  unfold c_ord at this ⊢
  obtain m | q := x
  · simpa [sI] using this
  · obtain _ | ⟨b, j, v⟩ := q
    · simpa [sI] using this
    · simpa [sI] using this
/-- while reading: at p, no fault, these orders -/
def c_rd (S : zS) (t : Nat → Nat) (n p : Nat) (l : List mO) : Prop := c_txt S t n ∧ S.1 (16, 0, 0) 6 = nI p ∧ S.1 (16, 0, 0) 7 = -1 ∧ c_ords S l
/-- behind an order -/
def c_out (S0 S' : zS) (t : Nat → Nat) (n : Nat) (l : List mO) (r : Nat ⊕ (mO × Nat)) : Prop := c_ft S0 S' ∧ match r with
  | .inl e => S'.1 (16, 0, 0) 7 = nI e
  | .inr (x, q) => c_rd S' t n q (l ++ [x])
abbrev c_tl (o : zW) (Q : zS → Prop) (S : zS) : Prop := (¬ (S.1 (16, 0, 0) 7) = (-1) → Q (sI S (16, 0, 0) 6 ((S.1 (16, 0, 0) 6) + 1))) ∧ ((S.1 (16, 0, 0) 7) = (-1) → (zGi o 970 mdX3_peek [.ref (z_adr o (16, 0, 0))] S (fun r S2 => (r = 59 → Q (sI S2 (16, 0, 0) 6 ((S2.1 (16, 0, 0) 6) + 1))) ∧ (¬ r = 59 → ∀ y : Int32, y = (((sI S2 (16, 0, 0) 7 (S2.1 (16, 0, 0) 6)).1 (16, 0, 0) 6) + 1) → Q (sI (sI S2 (16, 0, 0) 7 (S2.1 (16, 0, 0) 6)) (16, 0, 0) 6 y)))))
theorem nI_m1 {e : Nat} (h : e < 2 ^ 31) : nI e ≠ -1 := fun hc => nI_pos h (by rw [hc]; decide)
theorem sp_fin {S0 S : zS} {t : Nat → Nat} {n e : Nat} {l : List mO} {x : mO} (h : c_rd S t n e (l ++ [x])) (hf : c_ft S0 S) (he : e ≤ n) (Q : zS → Prop) (hQ : ∀ S', c_out S0 S' t n l (m_fin t n x e) → Q S') : c_tl o Q S := by
  obtain ⟨h1, h2, h3, h4⟩ := h
  have ht := txt_128 h1
  have hn := h1.2.1
  have hg := sk_n (t := t) he
  refine ⟨fun hc => absurd h3 hc, fun _ => ?_⟩
  refine sp_peek S h1 (by omega) h2 _ ⟨fun h59 => ?_, fun h59 y ey => ?_⟩
  · have hx := (y_eq ht (c := 59) (by omega)).1 h59
    refine hQ _ ⟨?_, ?_⟩
    · exact (hf.I 16 6 _ (by omega)).I 16 6 _ (by omega)
    · have : m_fin t n x e = .inr (x, m_sk t n e + 1) := if_pos hx
      rw [this]
      refine ⟨txt_ft h1 (((c_ft.rf S).I 16 6 _ (by omega)).I 16 6 _ (by omega)), ?_, ?_, ords_I (ords_I h4 6 (by omega) _) 6 (by omega) _⟩
      · simp [sI, nI_succ]
      · simpa [sI] using h3
  · have hx : ¬ (m_sk t n e < n ∧ t (m_sk t n e) = 59) := fun hc => h59 ((y_eq ht (c := 59) (by omega)).2 hc)
    refine hQ _ ⟨?_, ?_⟩
    · exact ((hf.I 16 6 _ (by omega)).I 16 7 _ (by omega)).I 16 6 _ (by omega)
    · have : m_fin t n x e = .inl (m_sk t n e) := if_neg hx
      rw [this]
      simp [sI]
theorem sp_bad {S0 S : zS} {t : Nat → Nat} {n s : Nat} {l : List mO} (h : S.1 (16, 0, 0) 7 = nI s) (hs : s < 2 ^ 31) (hf : c_ft S0 S) (Q : zS → Prop) (hQ : ∀ S', c_out S0 S' t n l (.inl s) → Q S') : c_tl o Q S := by
  refine ⟨fun _ => hQ _ ⟨hf.I 16 6 _ (by omega), ?_⟩, fun hc => absurd (h.symm.trans hc) (nI_m1 hs)⟩
  simpa [sI] using h
/-- either a fault, or an order that wants its end -/
def c_mid (S0 S' : zS) (t : Nat → Nat) (n : Nat) (l : List mO) (r : Nat ⊕ (mO × Nat)) : Prop := c_ft S0 S' ∧ ((∃ s, r = .inl s ∧ s ≤ n ∧ S'.1 (16, 0, 0) 7 = nI s) ∨ ∃ x e, r = m_fin t n x e ∧ e ≤ n ∧ c_rd S' t n e (l ++ [x]))
theorem sp_mid {S0 S : zS} {t : Nat → Nat} {n : Nat} (hn : n ≤ 120) {l : List mO} {r : Nat ⊕ (mO × Nat)} (h : c_mid S0 S t n l r) (Q : zS → Prop) (hQ : ∀ S', c_out S0 S' t n l r → Q S') : c_tl o Q S := by
  obtain ⟨hf, ⟨s, h1, h2, h3⟩ | ⟨x, e, h1, h2, h3⟩⟩ := h
  · subst h1; exact sp_bad h3 (by omega) hf Q hQ
  · subst h1; exact sp_fin h3 hf h2 Q hQ
/-- a number behind S, then an order with it -/
theorem sp_numMid {S0 S : zS} {t : Nat → Nat} {n p : Nat} {l : List mO} (h : c_rd S t n p l) (hl : l.length < 60) (hf : c_ft S0 S) (hp : p ≤ n) (x1 x2 : Int32) (x : mO) (hx : m_two t n (m_sk t n p) → match x with
    | .inl m => x1 = -2 ∧ m_vp t (m_sk t n p) (m_dg t n (m_sk t n p)) = m
    | .inr none => x1 = -1
    | .inr (some (b, j, v)) => x1 = nI b ∧ x2 = nI j ∧ nI (m_vp t (m_sk t n p) (m_dg t n (m_sk t n p))) = v.getD (-1)) (Q : zS → Prop) (hQ : ∀ S', c_mid S0 S' t n l (if m_two t n (m_sk t n p) then m_fin t n x (m_sk t n p + m_dg t n (m_sk t n p)) else .inl (m_sk t n p)) → Q S') :
    zGi o 970 mdX3_readNumber [.ref (z_adr o (16, 0, 0))] S (fun r S16 => zGv o 970 mdX3_addOrder [.ref (z_adr o (16, 0, 0)), .int x1, .int x2, .int r] S16 Q) := by
  obtain ⟨h1, h2, h3, h4⟩ := h
  have hn := h1.2.1
  have hs := sk_n (t := t) hp
  have hd := dg_n (t := t) hs
  refine sp_readNumber S h1 hp h2 _ ?_
  unfold c_num
  by_cases h2' : m_two t n (m_sk t n p)
  · rw [if_pos h2']
    refine sp_addOrder _ hl (by simpa [sI] using h4.1) _ _ _ _ (hQ _ ?_)
    rw [if_pos h2']
    refine ⟨ft_addO (hf.I 16 6 _ (by omega)) _ _ _ _, Or.inr ⟨x, _, rfl, hd, ?_, ?_, ?_, ?_⟩⟩
    · exact txt_ft h1 (ft_addO ((c_ft.rf S).I 16 6 _ (by omega)) _ _ _ _)
    · simp [c_addO, sI]
    · simpa [c_addO, sI] using h3
    · refine ords_add (ords_I h4 6 (by omega) _) hl x _ _ _ ?_
      have := hx h2'
      obtain m | q := x
      · exact ⟨this.1, congrArg nI this.2⟩
      · obtain _ | ⟨b, j, v⟩ := q
        · exact this
        · exact this
  · rw [if_neg h2']
    refine sp_addOrder _ hl (by simpa [sI] using h4.1) _ _ _ _ (hQ _ ?_)
    rw [if_neg h2']
    refine ⟨ft_addO ((hf.I 16 6 _ (by omega)).I 16 7 _ (by omega)) _ _ _ _, Or.inl ⟨_, rfl, hs, ?_⟩⟩
    simp [c_addO, sI]
theorem rd_I {S : zS} {t : Nat → Nat} {n p q : Nat} {l : List mO} (h : c_rd S t n p l) : c_rd (sI S (16, 0, 0) 6 (nI q)) t n q l :=
  ⟨txt_ft h.1 ((c_ft.rf S).I 16 6 _ (by omega)), by simp [sI], by simpa [sI] using h.2.2.1, ords_I h.2.2.2 6 (by omega) _⟩
theorem sp_readAsking (S0 S : zS) {t : Nat → Nat} {n b p : Nat} {l : List mO} (h : c_rd S t n p l) (hl : l.length < 60) (hf : c_ft S0 S) (hp : p ≤ n) (K : zS → Prop) (hK : ∀ S', c_mid S0 S' t n l (m_rdb t n b p) → K S') : zGv o 970 mdX3_readAsking [.ref (z_adr o (16, 0, 0)), .int (nI b)] S K := by
  have h1 := h.1
  have ht := txt_128 h1
  have hn := h1.2.1
  have hs := sk_n (t := t) hp
  refine w_X3_readAsking_0 o _ S _ ?_
  refine sp_peek S h1 (by omega) h.2.1 _ ?_
  have hr := rd_I (q := m_sk t n p) h
  generalize hS1 : sI S (16, 0, 0) 6 (nI (m_sk t n p)) = S1 at hr
  have hf1 : c_ft S0 S1 := by rw [← hS1]; exact hf.I 16 6 _ (by omega)
  refine sp_isItem _ S1 _ (fun j hj ej => ⟨fun _ => ?_, fun hc => absurd hc (by decide)⟩) (fun hc => ⟨fun hc => absurd rfl hc, fun _ => ⟨rfl, hK _ ⟨hf1.I 16 7 _ (by omega), Or.inl ⟨m_sk t n p, ?_, hs, ?_⟩⟩⟩⟩)
  · have hjt : m_sk t n p < n ∧ t (m_sk t n p) = 48 + j := by
      refine (y_eq ht (by omega)).1 ?_
      have : m_y t n (m_sk t n p) = nI j + 48 := by rw [← ej]; simp
      rw [this, show (48 : Int32) = nI 48 from rfl, nI_add]; exact congrArg nI (by omega)
    have hc1 : m_sk t n p < n ∧ 48 ≤ t (m_sk t n p) ∧ t (m_sk t n p) ≤ 51 := ⟨hjt.1, by omega, by omega⟩
    have ejt : t (m_sk t n p) - 48 = j := by omega
    rw [hr.2.1, ← nI_succ]
    have hr2 := rd_I (q := m_sk t n p + 1) hr
    generalize hS2 : sI S1 (16, 0, 0) 6 (nI (m_sk t n p + 1)) = S2 at hr2
    have hf2 : c_ft S0 S2 := by rw [← hS2]; exact hf1.I 16 6 _ (by omega)
    refine sp_peek S2 hr2.1 (by omega) hr2.2.1 _ ?_
    have hs2 := sk_n (t := t) (n := n) (p := m_sk t n p + 1) (by omega)
    have hr3 := rd_I (q := m_sk t n (m_sk t n p + 1)) hr2
    generalize hS3 : sI S2 (16, 0, 0) 6 (nI (m_sk t n (m_sk t n p + 1))) = S3 at hr3
    have hf3 : c_ft S0 S3 := by rw [← hS3]; exact hf2.I 16 6 _ (by omega)
    rw [ej]
    refine ⟨fun hne => ?_, fun heq => ?_⟩
    · have hx : ¬ (m_sk t n (m_sk t n p + 1) < n ∧ t (m_sk t n (m_sk t n p + 1)) = 61) := fun hc => hne ((y_eq ht (c := 61) (by omega)).2 hc)
      refine sp_addOrder S3 hl hr3.2.2.2.1 _ _ _ _ ⟨rfl, hK _ ⟨ft_addO hf3 _ _ _ _, Or.inr ⟨.inr (some (b, j, none)), m_sk t n (m_sk t n p + 1), ?_, hs2, ?_, ?_, ?_, ?_⟩⟩⟩
      · unfold m_rdb
        rw [if_pos hc1, if_neg hx, ejt]
      · exact txt_ft hr3.1 (ft_addO (c_ft.rf S3) _ _ _ _)
      · simpa [c_addO, sI] using hr3.2.1
      · simpa [c_addO, sI] using hr3.2.2.1
      · exact ords_add hr3.2.2.2 hl (.inr (some (b, j, none))) _ _ _ ⟨rfl, rfl, rfl⟩
    · have hx := (y_eq ht (c := 61) (by omega)).1 heq
      rw [hr3.2.1, ← nI_succ]
      have hr4 := rd_I (q := m_sk t n (m_sk t n p + 1) + 1) hr3
      refine sp_numMid (x := .inr (some (b, j, some (nI (m_vp t (m_sk t n (m_sk t n (m_sk t n p + 1) + 1)) (m_dg t n (m_sk t n (m_sk t n (m_sk t n p + 1) + 1)))))))) hr4 hl (hf3.I 16 6 _ (by omega)) (by omega) _ _ (fun _ => ⟨rfl, rfl, rfl⟩) _ (fun S' h' => ⟨rfl, hK S' ?_⟩)
      unfold m_rdb
      rw [if_pos hc1, if_pos hx, ejt]
      exact h'
  · unfold m_rdb
    refine if_neg (fun hx => ?_)
    have ey : m_y t n (m_sk t n p) = nI (t (m_sk t n p)) := if_pos hx.1
    rw [ey, show (48 : Int32) = nI 48 from rfl, pk_sub hx.2.1] at hc
    rcases hc with hc | hc
    · exact nI_pos (by omega) hc
    · exact z_ge (a := t (m_sk t n p) - 48) (b := 4) (by omega) (by decide) hc
  · rw [hr.2.1]; simp [sI]
theorem sp_readOrder (S : zS) {t : Nat → Nat} {n p : Nat} {l : List mO} (h : c_rd S t n p l) (hl : l.length < 60) (hp : m_sk t n p < n) (K : zS → Prop) (hK : ∀ S', c_out S S' t n l (m_rd t n (m_sk t n p)) → K S') : zGv o 970 mdX3_readOrder [.ref (z_adr o (16, 0, 0))] S K := by
  have h1 := h.1
  have ht := txt_128 h1
  have hn := h1.2.1
  have hge := sk_ge t n p
  refine w_X3_readOrder_0 o S _ ?_
  refine sp_peek S h1 (by omega) h.2.1 _ ?_
  have hr := rd_I (q := m_sk t n p) h
  generalize hS1 : sI S (16, 0, 0) 6 (nI (m_sk t n p)) = S1 at hr
  have hf1 : c_ft S S1 := by rw [← hS1]; exact (c_ft.rf S).I 16 6 _ (by omega)
  generalize hpp : m_sk t n p = q at hp hK hr
  have ey : m_y t n q = nI (t q) := if_pos hp
  have h128 := ht q hp
  rw [hr.2.1, ← nI_succ, ey]
  have hr2 := rd_I (q := q + 1) hr
  generalize hS2 : sI S1 (16, 0, 0) 6 (nI (q + 1)) = S2 at hr2
  have hf2 : c_ft S S2 := by rw [← hS2]; exact hf1.I 16 6 _ (by omega)
  have lt97 : nI (t q) < 97 ↔ t q < 97 := nI_ltI (b := 97) (by omega) (by omega)
  have gt112 : (112 : Int32) < nI (t q) ↔ 112 < t q := nI_ltI (a := 112) (by omega) (by omega)
  have eq33 : nI (t q) = 33 ↔ t q = 33 := nI_eq (b := 33) (by omega) (by omega)
  have eq35 : nI (t q) = 35 ↔ t q = 35 := nI_eq (b := 35) (by omega) (by omega)
  have kE : ¬ (97 ≤ t q ∧ t q ≤ 112) → ¬ t q = 33 → ¬ t q = 35 → c_tl o (fun S' => (none : Option Value) = none ∧ K S') (sI S1 (16, 0, 0) 7 (nI q)) := by
    intro n1 n2 n3
    refine sp_bad (S0 := S) (t := t) (n := n) (l := l) (s := q) (by simp [sI]) (by omega) (hf1.I 16 7 _ (by omega)) _ (fun S' h' => ⟨rfl, hK S' ?_⟩)
    unfold m_rd
    rw [if_neg n1, if_neg n2, if_neg n3]
    exact h'
  have k35 : ¬ (97 ≤ t q ∧ t q ≤ 112) → ¬ t q = 33 → t q = 35 → zGi o 970 mdX3_readNumber [.ref (z_adr o (16, 0, 0))] S2 (fun r S16 => zGv o 970 mdX3_addOrder [.ref (z_adr o (16, 0, 0)), .int (-2), .int 0, .int r] S16 (fun S19 => c_tl o (fun S' => (none : Option Value) = none ∧ K S') S19)) := by
    intro n1 n2 n3
    refine sp_numMid (x := .inl (m_vp t (m_sk t n (q + 1)) (m_dg t n (m_sk t n (q + 1))))) hr2 hl hf2 (by omega) _ _ (fun _ => ⟨rfl, rfl⟩) _ (fun S' h' => ?_)
    refine sp_mid hn h' _ (fun S'' h'' => ⟨rfl, hK S'' ?_⟩)
    unfold m_rd
    rw [if_neg n1, if_neg n2, if_pos n3]
    exact h''
  have k33 : ¬ (97 ≤ t q ∧ t q ≤ 112) → t q = 33 → zGv o 970 mdX3_addOrder [.ref (z_adr o (16, 0, 0)), .int (-1), .int 0, .int 0] S2 (fun S28 => c_tl o (fun S' => (none : Option Value) = none ∧ K S') S28) := by
    intro n1 n2
    refine sp_addOrder S2 hl hr2.2.2.2.1 _ _ _ _ ?_
    refine sp_fin (S0 := S) (t := t) (n := n) (x := .inr none) (l := l) (e := q + 1) ⟨?_, ?_, ?_, ?_⟩ (ft_addO hf2 _ _ _ _) (by omega) _ (fun S'' h'' => ⟨rfl, hK S'' ?_⟩)
    · exact txt_ft hr2.1 (ft_addO (c_ft.rf S2) _ _ _ _)
    · simpa [c_addO, sI] using hr2.2.1
    · simpa [c_addO, sI] using hr2.2.2.1
    · exact ords_add hr2.2.2.2 hl (.inr none) _ _ _ rfl
    · unfold m_rd
      rw [if_neg n1, if_pos n2]
      exact h''
  refine ⟨fun c97 => ?_, fun c97 => ⟨fun c112 => ?_, fun c112 => ?_⟩⟩
  · have n1 : ¬ (97 ≤ t q ∧ t q ≤ 112) := by have := lt97.1 c97; omega
    exact ⟨fun c33 => ⟨fun c35 => have kk := kE n1 (fun e => c33 (eq33.2 e)) (fun e => c35 (eq35.2 e)); ⟨fun a y ey => ey ▸ kk.1 a, kk.2⟩, fun c35 => k35 n1 (fun e => c33 (eq33.2 e)) (eq35.1 c35)⟩, fun c33 => k33 n1 (eq33.1 c33)⟩
  · have n1 : ¬ (97 ≤ t q ∧ t q ≤ 112) := by have := gt112.1 c112; omega
    exact ⟨fun c33 => ⟨fun c35 => have kk := kE n1 (fun e => c33 (eq33.2 e)) (fun e => c35 (eq35.2 e)); ⟨fun a y ey => ey ▸ kk.1 a, kk.2⟩, fun c35 => k35 n1 (fun e => c33 (eq33.2 e)) (eq35.1 c35)⟩, fun c33 => k33 n1 (eq33.1 c33)⟩
  · have n1 : 97 ≤ t q ∧ t q ≤ 112 := by
      have a : ¬ t q < 97 := fun e => c97 (lt97.2 e)
      have b : ¬ 112 < t q := fun e => c112 (gt112.2 e)
      omega
    rw [show (97 : Int32) = nI 97 from rfl, pk_sub n1.1]
    refine sp_readAsking S S2 hr2 hl hf2 (by omega) _ (fun S' h' => ?_)
    refine sp_mid hn h' (fun S' => (none : Option Value) = none ∧ K S') (fun S'' h'' => ⟨rfl, hK S'' ?_⟩)
    unfold m_rd
    rw [if_pos n1]
    exact h''
end SPY
