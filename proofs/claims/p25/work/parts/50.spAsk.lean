theorem z_sI_self {S : zS} {q : zK} {t : Nat} {v : Int32} (h : S.1 q t = v) : sI S q t v = S := by
  refine z_ext (fun q' t' => ?_) (fun _ _ => rfl) (fun _ _ => rfl)
  simp only [sI]
  split
  · rename_i e; obtain ⟨rfl, rfl⟩ := e; exact h.symm
  · rfl
theorem cr_hit {i U : Nat} {S : zS} {A : mS} (h : c_R i U S A) {b : Nat} (hb : b < 16) (hw : A.1 29 b = 1) (hrow : m_row A) : c_R i (U + 1) (c_use S i b) (m_use A b) := by
  obtain ⟨e8, -, e10⟩ := h.2.2.1 b hb
  have e10' : S.1 (5, i, b) 10 = 2000000000 := by rw [e10, hw]; rfl
  have hr4 : b % 4 < 4 := by omega
  have e1 : c_near S i b = c_use S i b := by
    unfold c_near
    rw [z_sI_self (e8.trans hw), z_sI_self e10']
  have e2 : m_i (m_r A (b % 4) (b :: (m_R A (b % 4)).erase b)) 29 b 1 = m_use A b := by
    refine Prod.ext ?_ rfl
    funext q t
    simp only [m_i, m_r, m_use]
    split
    · rename_i e; obtain ⟨rfl, rfl⟩ := e; exact hw.symm
    · rfl
  rw [← e1, ← e2]
  refine cr_use h hb _ List.erase_sublist ?_ ?_ ?_
  · exact fun hc => ((hrow _ hr4).1.mem_erase_iff.mp hc).1 rfl
  · intro r hr hne hc
    exact hne (((hrow r hr).2 b).mp hc).2.1.symm
  · intro r hr x hx
    exact (((hrow r hr).2 x).mp hx).1
