section RPC
variable {o : zW}
theorem rs_serve {b : Nat} (hb : b < 16) (q : mQ) (hj : q.1 < 4) (hk : q.2.2.2 < 2 ^ 31) (v : Int32) (hv : ∀ x, q.2.2.1 = some x → v = x) (ld : Int32) (hld : ld = if q.2.2.1.isSome then -1 else nI q.2.2.2) (S0 S : zS) {A : mS} (h : r_R S A) (hf : r_fr S0 S) (K : zS → Prop) (hK : ∀ S', r_R S' (m_serve b A q) → r_fr S0 S' → K S') :
    (¬ ld = -1 → zGv o 994 mdX5_getsItem [.ref (z_adr o (23, 0, 0)), .int ld, .int (nI b), .int (nI q.1), .int (nI q.2.1)] S K) ∧ (ld = -1 → zGv o 994 mdX5_laysIn [.ref (z_adr o (23, 0, 0)), .int (nI b), .int (nI q.1), .int v] S K) := by
  cases hq : q.2.2.1 with
  | none =>
    have e : ld = nI q.2.2.2 := by rw [hld, hq]; rfl
    have em : m_serve b A q = m_gets A q.2.2.2 b q.1 q.2.1 := by unfold m_serve; rw [hq]
    refine ⟨fun _ => ?_, fun hc => absurd (e.symm.trans hc) (nI_m1 hk)⟩
    rw [e]
    rw [em] at hK
    exact rs_getsItem hk hb hj S0 S h hf K hK
  | some x =>
    have e : ld = -1 := by rw [hld, hq]; rfl
    have em : m_serve b A q = m_lay A b q.1 x := by unfold m_serve; rw [hq]
    refine ⟨fun hc => absurd e hc, fun _ => ?_⟩
    rw [hv x hq]
    rw [em] at hK
    exact rs_laysIn hb hj x S0 S h hf K hK
theorem rs_come {b : Nat} (hb : b < 16) (S0 S : zS) {A : mS} (h : r_R S A) (hf : r_fr S0 S) (hI : m_inv 16 A) (hrl : m_rl A) (hql : m_ql A) (hw : A.1 29 b = 3) (K : zS → Prop) (hK : ∀ S', r_R S' (m_come A b) → r_fr S0 S' → K S') : zGv o 994 mdX5_comesFetched [.ref (z_adr o (23, 0, 0)), .int (nI b)] S K := by
  have hbF : b ∈ m_F A := (hI.2.2.1.2.1 b).2 ⟨hb, by omega, hw⟩
  have hF4 : (m_F A).length ≤ 4 := by
    have h1 := hI.2.2.1.2.2
    obtain ⟨-, -, ⟨F, hF, hF1, hF4⟩, -, -⟩ := hI.1
    rw [hF, z_cl (by omega)] at h1; omega
  have hF16 : ∀ x, x ∈ m_F A → x < 16 := fun x hx => ((hI.2.2.1.2.1 x).1 hx).1
  obtain ⟨xs, ys, hxy, hnx⟩ : ∃ xs ys, m_F A = xs ++ b :: ys ∧ b ∉ xs := by
    have := List.append_of_mem hbF
    obtain ⟨s, t, e⟩ := this
    have hnd := hI.2.2.1.1
    rw [e] at hnd
    refine ⟨s, t, e, fun hm => ?_⟩
    have := (List.nodup_append.1 hnd).2.2 b hm b (by simp)
    exact this rfl
  have hlen : xs.length + 1 + ys.length ≤ 4 := by
    rw [hxy] at hF4
    simp only [List.length_append, List.length_cons] at hF4
    omega
  have her : (m_F A).erase b = xs ++ ys := by
    rw [hxy, List.erase_append_right _ hnx]
    simp
  have hget : ∀ k, k < xs.length + 1 + ys.length → ∃ c, (m_F A)[k]? = some c ∧ c < 16 ∧ S.1 (33, 0, 0) k = nI c := by
    intro k hk
    have hk2 : k < (m_F A).length := by rw [hxy]; simp only [List.length_append, List.length_cons]; omega
    refine ⟨(m_F A)[k], List.getElem?_eq_getElem hk2, hF16 _ (List.getElem_mem hk2), h.2.2.1.2 k _ (List.getElem?_eq_getElem hk2)⟩
  have e390 : S.1 (39, 0, 0) 0 = nI (xs.length + ys.length + 1) := by
    rw [h.2.2.1.1, hxy]; exact congrArg nI (by simp only [List.length_append, List.length_cons]; omega)
  -- behind the fetches
  have rest : ∀ S1 : zS, r_R S1 (m_f A (xs ++ ys)) → r_fr S0 S1 → zG o 994 mdX5_comesFetched 62 [(0, .ref (z_adr o (23, 0, 0))), (1, .int (nI b)), (3, .int 0)] [] S1 (fun rr S'' => rr = none ∧ K S'') := by
    intro S1 h1 f1
    have ex : ∀ j, (4 : Int32) * nI b + nI j = nI (4 * b + j) := fun j => by rw [show (4 : Int32) = nI 4 from rfl, pk_mul, nI_add]
    generalize hA1 : m_f A (xs ++ ys) = A1 at h1
    refine z_down 4 (fun j => ∀ S' : zS, r_R S' ((fun q t => if q = 27 ∧ t / 4 = b ∧ t % 4 < j then A1.1 26 t else A1.1 q t, A1.2) : mS) → r_fr S0 S' → zG o 994 mdX5_comesFetched 62 [(0, .ref (z_adr o (23, 0, 0))), (1, .int (nI b)), (3, .int (nI j))] [] S' (fun rr S'' => rr = none ∧ K S'')) ?_ ?_ 0 (by omega) S1 ?_ f1
    · intro S' h' f'
      refine w_X5_comesFetched_62 o _ _ S' _ ⟨fun _ => ⟨z_in hb (by omega), ?_⟩, fun hc => absurd (by decide) hc⟩
      rw [z_cl (by omega)]
      have h2 := rr_i h' 28 b 0 (by omega)
      have e : m_i ((fun q t => if q = 27 ∧ t / 4 = b ∧ t % 4 < 4 then A1.1 26 t else A1.1 q t, A1.2) : mS) 28 b 0 = m_take A1 b := by
        refine Prod.ext ?_ rfl
        funext q t
        have ht : t % 4 < 4 := Nat.mod_lt _ (by omega)
        simp only [m_i, m_take, ht, and_true]
        by_cases e28 : q = 28 ∧ t = b
        · obtain ⟨a1, a2⟩ := e28; subst a1 a2; simp
        · rw [if_neg e28, if_neg e28]
      rw [e] at h2
      have f2 := f'.I 28 b 0 (by omega)
      generalize sI S' (28, 0, 0) b 0 = S2 at h2 f2
      have hi2 : m_inv b (m_take (m_f A ((m_F A).erase b)) b) := inv_hole hI hb hw
      rw [her, hA1] at hi2
      have hrl2 : m_rl (m_take A1 b) := by
        refine rl_same hrl ?_ ?_
        · rw [← hA1]; rfl
        · rw [← hA1]; funext t; simp [m_take, m_f]
      refine rs_comesNear hb S0 S2 h2 f2 hi2.1 hi2.2.1 hrl2 hi2.2.2.2.2.2.2 _ (fun S4 h4 f4 => ?_)
      have hQ : m_Q (m_near (m_take A1 b) b) = m_Q A := by rw [(m_near_keep _ b).1, ← hA1]; rfl
      have hcome : m_come A b = m_q ((m_Q A b).foldl (m_serve b) (m_near (m_take A1 b) b)) b [] := by
        unfold m_come
        rw [her, hA1]
      have hqok := hI.2.2.2.1.2
      generalize hA3 : m_near (m_take A1 b) b = A3 at h4 hQ hcome
      refine z_down (m_Q A b).length (fun k => ∀ S' : zS, r_R S' (((m_Q A b).take k).foldl (m_serve b) A3) → r_fr S0 S' → zG o 994 mdX5_comesFetched 107 [(0, .ref (z_adr o (23, 0, 0))), (1, .int (nI b)), (3, .int (nI k))] [] S' (fun rr S'' => rr = none ∧ K S'')) ?_ ?_ 0 (by omega) S4 h4 f4
      · intro S5 h5 f5
        rw [List.take_length] at h5
        have hQ5 : m_Q ((m_Q A b).foldl (m_serve b) A3) = m_Q A := (m_fold_keep b (m_Q A b) A3).1.2.2.2.1.trans hQ
        have e34 : S5.1 (34, 0, 0) b = nI (m_Q A b).length := by
          have := (h5.2.2.2.1 b hb).1
          rw [hQ5] at this; exact this
        refine w_X5_comesFetched_107 o _ _ S5 _ ⟨z_in hb (by omega), ?_⟩
        rw [z_cl (by omega), e34]
        refine ⟨fun _ => ⟨z_in hb (by omega), rfl, ?_⟩, fun hc => absurd (Int32.le_refl _) hc⟩
        refine hK _ ?_ (f5.I 34 b 0 (by omega))
        rw [hcome]
        refine rr_q h5 [] (fun q t n1 n2 => ?_) rfl ?_ (fun k q hk => by simp at hk) (fun x hx => by rw [hQ5]; exact (hqok x hx).1.1)
        · simp only [sI, if_neg n1]
        · simp [sI]; rfl
      · intro k hk ih S5 h5 f5
        have hk4 : (m_Q A b).length ≤ 4 := (hqok b hb).1.1
        have hQ5 : m_Q (((m_Q A b).take k).foldl (m_serve b) A3) = m_Q A := (m_fold_keep b _ A3).1.2.2.2.1.trans hQ
        obtain ⟨q, hq⟩ : ∃ q, (m_Q A b)[k]? = some q := ⟨(m_Q A b)[k], List.getElem?_eq_getElem hk⟩
        have h34 := h5.2.2.2.1 b hb
        rw [hQ5] at h34
        obtain ⟨e34, hask⟩ := h34
        obtain ⟨a1, a2, a3, a4⟩ := hask k q hq
        have hqm := List.mem_of_getElem? hq
        obtain ⟨o1, o2⟩ := (hqok b hb).1.2 q hqm
        have o3 := hql b hb q hqm
        refine w_X5_comesFetched_107 o _ _ S5 _ ⟨z_in hb (by omega), ?_⟩
        rw [z_cl (by omega), e34, ex, z_cl (by omega), a1, a3]
        refine ⟨fun hc => absurd hc (z_ge hk (by omega)), fun _ => ⟨z_in (by omega) (by omega), ?_⟩⟩
        have sv := rs_serve (o := o) hb q o1 (by omega) (S5.1 (36, 0, 0) (4 * b + k)) a2 (S5.1 (38, 0, 0) (4 * b + k)) a4 S0 S5 h5 f5 (fun S6 => zG o 994 mdX5_comesFetched 107 [(0, .ref (z_adr o (23, 0, 0))), (1, .int (nI b)), (3, .int (nI k + 1))] [] S6 (fun rr S'' => rr = none ∧ K S'')) (fun S6 h6 f6 => by
          rw [← nI_succ]
          refine ih S6 ?_ f6
          rw [List.take_add_one, hq]
          simp only [Option.toList_some, List.foldl_append, List.foldl_cons, List.foldl_nil]
          exact h6)
        exact ⟨fun hc => ⟨z_in (by omega) (by omega), z_in (by omega) (by omega), z_in (by omega) (by omega), sv.1 hc⟩, fun hc => ⟨z_in (by omega) (by omega), z_in (by omega) (by omega), sv.2 hc⟩⟩
    · intro j hj ih S' h' f'
      have e26 : S'.1 (26, 0, 0) (4 * b + j) = A1.1 26 (4 * b + j) := by
        have := h'.1 26 (4 * b + j) (by unfold r_dir; omega)
        rw [this]; simp
      refine w_X5_comesFetched_62 o _ _ S' _ ⟨fun hc => absurd hc (z_ge (a := j) (b := 4) hj (by decide)), fun _ => ?_⟩
      rw [ex, z_cl (by omega), e26]
      refine ⟨z_in (by omega) (by omega), z_in (by omega) (by omega), fun S5 e5 => ?_⟩
      rw [← nI_succ]
      subst e5
      refine ih _ ?_ (f'.I 27 _ _ (by omega))
      have g := rr_i h' 27 (4 * b + j) (A1.1 26 (4 * b + j)) (by omega)
      have e : m_i ((fun q t => if q = 27 ∧ t / 4 = b ∧ t % 4 < j then A1.1 26 t else A1.1 q t, A1.2) : mS) 27 (4 * b + j) (A1.1 26 (4 * b + j)) = ((fun q t => if q = 27 ∧ t / 4 = b ∧ t % 4 < j + 1 then A1.1 26 t else A1.1 q t, A1.2) : mS) := by
        refine Prod.ext ?_ rfl
        funext q t
        simp only [m_i]
        by_cases e : q = 27 ∧ t = 4 * b + j
        · obtain ⟨a1, a2⟩ := e
          subst a1 a2
          have h1 : (4 * b + j) / 4 = b := m_d4 hj
          have h2 : (4 * b + j) % 4 = j := m_m4 hj
          simp [h1, h2]
        · rw [if_neg e]
          have : (q = 27 ∧ t / 4 = b ∧ t % 4 < j) ↔ (q = 27 ∧ t / 4 = b ∧ t % 4 < j + 1) := by
            constructor
            · rintro ⟨a1, a2, a3⟩; exact ⟨a1, a2, by omega⟩
            · rintro ⟨a1, a2, a3⟩; exact ⟨a1, a2, by omega⟩
          simp only [this]
      rw [e] at g
      exact g
    · have : ((fun q t => if q = 27 ∧ t / 4 = b ∧ t % 4 < 0 then A1.1 26 t else A1.1 q t, A1.2) : mS) = A1 := by
        refine Prod.ext ?_ rfl
        funext q t
        simp
      rw [this]; exact h1
  -- the fetches move up
  have move : ∀ k, xs.length ≤ k → k ≤ xs.length + ys.length → ∀ S' : zS, S'.2 = S.2 → (∀ (q : zK) t, ¬ (q = (39, 0, 0) ∧ t = 0) → q ≠ (33, 0, 0) → S'.1 q t = S.1 q t) → S'.1 (39, 0, 0) 0 = nI (xs.length + ys.length) → (∀ j c, (xs ++ ys)[j]? = some c → j < k → S'.1 (33, 0, 0) j = nI c) → (∀ j c, (xs ++ ys)[j]? = some c → k ≤ j → S'.1 (33, 0, 0) (j + 1) = nI c) → r_fr S0 S' →
      zG o 994 mdX5_comesFetched 30 [(0, .ref (z_adr o (23, 0, 0))), (1, .int (nI b)), (3, .int (nI k))] [] S' (fun rr S'' => rr = none ∧ K S'') := by
    intro k hk0 hk1
    refine z_down (xs.length + ys.length) (fun k => xs.length ≤ k → ∀ S' : zS, S'.2 = S.2 → (∀ (q : zK) t, ¬ (q = (39, 0, 0) ∧ t = 0) → q ≠ (33, 0, 0) → S'.1 q t = S.1 q t) → S'.1 (39, 0, 0) 0 = nI (xs.length + ys.length) → (∀ j c, (xs ++ ys)[j]? = some c → j < k → S'.1 (33, 0, 0) j = nI c) → (∀ j c, (xs ++ ys)[j]? = some c → k ≤ j → S'.1 (33, 0, 0) (j + 1) = nI c) → r_fr S0 S' →
      zG o 994 mdX5_comesFetched 30 [(0, .ref (z_adr o (23, 0, 0))), (1, .int (nI b)), (3, .int (nI k))] [] S' (fun rr S'' => rr = none ∧ K S'')) ?_ ?_ k hk1 hk0
    · intro _ S' s2 s1 e39 hlo hhi f'
      refine w_X5_comesFetched_30 o _ _ S' _ ⟨fun _ => ?_, fun hc => absurd (by rw [e39]; exact Int32.le_refl _) hc⟩
      refine rest S' ?_ f'
      refine rr_f h (xs ++ ys) s1 s2 (by rw [e39]; simp) (fun j c hj => hlo j c hj ?_)
      have := (List.getElem?_eq_some_iff.1 hj).1
      simp only [List.length_append] at this
      exact this
    · intro k hk ih hk0 S' s2 s1 e39 hlo hhi f'
      refine w_X5_comesFetched_30 o _ _ S' _ ⟨fun hc => absurd hc (by rw [e39]; exact z_ge hk (by omega)), fun _ => ?_⟩
      rw [← nI_succ, z_cl (by omega), z_cl (by omega)]
      refine ⟨z_in (by omega) (by omega), z_in (by omega) (by omega), fun S2 e2 => ?_⟩
      obtain ⟨c, hc⟩ : ∃ c, (xs ++ ys)[k]? = some c := ⟨(xs ++ ys)[k]'(by simp only [List.length_append]; omega), List.getElem?_eq_getElem _⟩
      rw [hhi k c hc (Nat.le_refl _)] at e2
      subst e2
      refine ih (by omega) _ s2 (fun q t n1 n2 => ?_) ?_ (fun j d hj hjk => ?_) (fun j d hj hjk => ?_) (f'.I 33 k _ (by omega))
      · simp only [sI]
        rw [if_neg (fun e => n2 e.1)]
        exact s1 q t n1 n2
      · simpa [sI] using e39
      · by_cases e : j = k
        · subst e
          rw [hc] at hj
          simp only [Option.some.injEq] at hj
          subst hj
          simp [sI]
        · have := hlo j d hj (by omega)
          simp only [sI]
          rw [if_neg (fun hx => e hx.2)]
          exact this
      · have := hhi j d hj (by omega)
        simp only [sI]
        rw [if_neg (by omega)]
        exact this
  refine w_X5_comesFetched_0 o _ S _ ?_
  refine z_down xs.length (fun k => zG o 994 mdX5_comesFetched 2 [(0, .ref (z_adr o (23, 0, 0))), (1, .int (nI b)), (2, .int (nI k))] [] S (fun rr S'' => rr = none ∧ K S'')) ?_ ?_ 0 (by omega)
  · have e33 : S.1 (33, 0, 0) xs.length = nI b := h.2.2.1.2 xs.length b (by rw [hxy]; simp)
    refine w_X5_comesFetched_2 o _ _ S _ ⟨z_in (by omega) (by omega), ?_⟩
    rw [z_cl (by omega), e33, e390, nI_pred]
    refine ⟨fun _ => ?_, fun hc => absurd rfl hc⟩
    refine move xs.length (Nat.le_refl _) (by omega) _ rfl (fun q t n1 n2 => ?_) (by simp [sI]) (fun j c hj hjk => ?_) (fun j c hj hjk => ?_) (r_fr.I hf 39 0 _ (by omega))
    · simp only [sI, if_neg n1]
    · have : S.1 (33, 0, 0) j = nI c := h.2.2.1.2 j c (by rw [hxy, List.getElem?_append_left hjk]; rw [List.getElem?_append_left hjk] at hj; exact hj)
      simpa [sI] using this
    · have : S.1 (33, 0, 0) (j + 1) = nI c := h.2.2.1.2 (j + 1) c (by
        rw [List.getElem?_append_right hjk] at hj
        rw [hxy, List.getElem?_append_right (by omega), show j + 1 - xs.length = (j - xs.length) + 1 from by omega, List.getElem?_cons_succ]; exact hj)
      simpa [sI] using this
  · intro k hk ih
    obtain ⟨c, hc1, hc2, hc3⟩ := hget k (by omega)
    refine w_X5_comesFetched_2 o _ _ S _ ⟨z_in (by omega) (by omega), ?_⟩
    rw [z_cl (by omega), hc3]
    refine ⟨fun e => ?_, fun _ => by rw [← nI_succ]; exact ih⟩
    exfalso
    have e2 : c = b := (nI_eq (by omega) (by omega)).1 e
    subst e2
    rw [hxy, List.getElem?_append_left hk] at hc1
    exact hnx (List.mem_of_getElem? hc1)
end RPC
