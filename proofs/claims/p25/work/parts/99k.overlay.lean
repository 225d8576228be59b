/-! the memory while it is being made: X says what is not yet regular -/
def zP (o : zW) (X : zK → Option va_E) (S : zS) : zK → va_E := fun q => (X q).getD (z_enc o S q)
def zX (X : zK → Option va_E) (k : zK) (x : Option va_E) : zK → Option va_E := fun q => if q = k then x else X q
theorem zP_n {o : zW} {X : zK → Option va_E} {S : zS} {k : zK} (h : X k = none) : zP o X S k = z_enc o S k := by simp [zP, h]
theorem zP_s {o : zW} {X : zK → Option va_E} {S : zS} {k : zK} {x : va_E} (h : X k = some x) : zP o X S k = x := by simp [zP, h]
theorem zX_s (X : zK → Option va_E) (k : zK) (x : Option va_E) : zX X k x k = x := if_pos rfl
theorem zX_o {X : zK → Option va_E} {k q : zK} (x : Option va_E) (h : q ≠ k) : zX X k x q = X q := if_neg h
theorem zX_X (X : zK → Option va_E) (k : zK) (a b : Option va_E) : zX (zX X k a) k b = zX X k b := by
  funext q
  simp only [zX]
  by_cases h : q = k <;> simp [h]
theorem zX_c {X : zK → Option va_E} {k k' : zK} (a b : Option va_E) (h : k ≠ k') : zX (zX X k a) k' b = zX (zX X k' b) k a := by
  funext q
  simp only [zX]
  by_cases h1 : q = k
  · subst h1; simp [h]
  · simp [h1]
theorem zP_up_n {o : zW} {X : zK → Option va_E} {S S' : zS} {k : zK} {x : va_E} (hX : X k = none) (h : z_up (z_enc o S) k x = z_enc o S') : z_up (zP o X S) k x = zP o X S' := by
  funext q
  have e := congrFun h q
  simp only [z_up, zP] at e ⊢
  by_cases hq : q = k
  · subst hq
    rw [if_pos rfl] at e ⊢
    rw [hX]
    exact e
  · rw [if_neg hq] at e ⊢
    rw [e]
theorem zP_up_s (o : zW) (X : zK → Option va_E) (S : zS) (k : zK) (x : va_E) : z_up (zP o X S) k x = zP o (zX X k (some x)) S := by
  funext q
  simp only [z_up, zP, zX]
  by_cases hq : q = k <;> simp [hq]
theorem zP_same {o : zW} {X : zK → Option va_E} {S : zS} {k : zK} {x : va_E} (h : zP o X S k = x) : z_up (zP o X S) k x = zP o X S := by
  funext q
  simp only [z_up]
  by_cases hq : q = k
  · subst hq; rw [if_pos rfl, h]
  · rw [if_neg hq]
theorem zP_done {o : zW} {X : zK → Option va_E} {S : zS} {k : zK} {x : va_E} (h : X k = none) (hx : z_enc o S k = x) : zP o (zX X k (some x)) S = zP o X S := by
  funext q
  simp only [zP, zX]
  by_cases hq : q = k
  · subst hq; simp [h, hx]
  · simp [hq]
theorem zP_all {o : zW} {S : zS} : zP o (fun _ => none) S = z_enc o S := rfl
section ZO
variable {o : zW} {d : zD} {pc n : Nat} {lv : List (Nat × Value)} {st : List Value} {X : zK → Option va_E} {S : zS} {mc ms : Nat} {Q : Option Value → zM → Prop}
theorem zO.nameS (k : ∀ S' : zS, S' = S → zJ o d pc lv st (n, zP o X S') mc ms Q) : zJ o d pc lv st (n, zP o X S) mc ms Q := k S rfl
theorem zO.getV {idx ci : Nat} {C0 : String} {T : u_T} {N : Nat} {ty : Nat → FieldType} {k : zK} {v : Value} {j : Nat} (f : z_fV o k ci j v) (hk : z_ok n k) (hX : X k = none) (KI : z_KI ci C0 T N ty) (hj : j < N) (hl : z_FL d idx C0 T j) (hd : decode (z_cc d) pc = .ok (.getfield idx, 3))
    (kk : zJ o d (pc + 3) lv (v :: st) (n, zP o X S) mc ms Q) : zJ o d pc lv (.ref (z_adr o k) :: st) (n, zP o X S) mc ms Q := by
  obtain ⟨fs, h1, h2⟩ := f (S.1 k) (S.2.1 k) (S.2.2 k)
  exact zJ.getf KI j hj hl hd hk ((zP_n hX).trans h1) h2 kk
theorem zO.putI {idx ci : Nat} {C0 : String} {T : u_T} {N : Nat} {ty : Nat → FieldType} {k : zK} {j : Nat} {v : Int32} (f : z_fI o k ci j) (hk : z_ok n k) (hX : X k = none) (KI : z_KI ci C0 T N ty) (hj : j < N) (hl : z_FL d idx C0 T j) (hfin : (T j).2.2.2 = false) (hty : ty j = .int) (hd : decode (z_cc d) pc = .ok (.putfield idx, 3))
    (kk : zJ o d (pc + 3) lv st (n, zP o X (sI S k j v)) mc ms Q) : zJ o d pc lv (.int v :: .ref (z_adr o k) :: st) (n, zP o X S) mc ms Q := by
  obtain ⟨fs, h1, h2, h3, h4⟩ := f (S.1 k) (S.2.1 k) (S.2.2 k)
  refine zJ.putf KI j hj hl hd hk ((zP_n hX).trans h1) hfin (by rw [hty]; rfl) (by rw [hty]; rfl) h3 ?_
  show zJ o d (pc + 3) lv st (n, z_up (zP o X S) k (.inr (ci, fs.set j (.int v)))) mc ms Q
  rw [zP_up_n hX (z_up_I (s := j) (v := v) (h4 v))]
  exact kk
theorem zO.putL {idx ci : Nat} {C0 : String} {T : u_T} {N : Nat} {ty : Nat → FieldType} {k : zK} {j : Nat} {v : Int64} (f : z_fL o k ci j) (hk : z_ok n k) (hX : X k = none) (KI : z_KI ci C0 T N ty) (hj : j < N) (hl : z_FL d idx C0 T j) (hfin : (T j).2.2.2 = false) (hty : ty j = .long) (hd : decode (z_cc d) pc = .ok (.putfield idx, 3))
    (kk : zJ o d (pc + 3) lv st (n, zP o X (sL S k j v)) mc ms Q) : zJ o d pc lv (.long v :: .ref (z_adr o k) :: st) (n, zP o X S) mc ms Q := by
  obtain ⟨fs, h1, h2, h3, h4⟩ := f (S.1 k) (S.2.1 k) (S.2.2 k)
  refine zJ.putf KI j hj hl hd hk ((zP_n hX).trans h1) hfin (by rw [hty]; rfl) (by rw [hty]; rfl) h3 ?_
  show zJ o d (pc + 3) lv st (n, z_up (zP o X S) k (.inr (ci, fs.set j (.long v)))) mc ms Q
  rw [zP_up_n hX (z_up_L (s := j) (v := v) (h4 v))]
  exact kk
theorem zO.putF {idx ci : Nat} {C0 : String} {T : u_T} {N : Nat} {ty : Nat → FieldType} {k : zK} {j : Nat} {v : UInt32} (f : z_fF o k ci j) (hk : z_ok n k) (hX : X k = none) (KI : z_KI ci C0 T N ty) (hj : j < N) (hl : z_FL d idx C0 T j) (hfin : (T j).2.2.2 = false) (hty : ty j = .float) (hd : decode (z_cc d) pc = .ok (.putfield idx, 3))
    (kk : zJ o d (pc + 3) lv st (n, zP o X (sF S k j v)) mc ms Q) : zJ o d pc lv (.float v :: .ref (z_adr o k) :: st) (n, zP o X S) mc ms Q := by
  obtain ⟨fs, h1, h2, h3, h4⟩ := f (S.1 k) (S.2.1 k) (S.2.2 k)
  refine zJ.putf KI j hj hl hd hk ((zP_n hX).trans h1) hfin (by rw [hty]; rfl) (by rw [hty]; rfl) h3 ?_
  show zJ o d (pc + 3) lv st (n, z_up (zP o X S) k (.inr (ci, fs.set j (.float v)))) mc ms Q
  rw [zP_up_n hX (z_up_F (s := j) (v := v) (h4 v))]
  exact kk
theorem zO.astI {k : zK} {N : Nat} {i : Int32} {v : Int32} (f : z_aI o k N) (hk : z_ok n k) (hX : X k = none) (hin : vp_in i N) (hd : decode (z_cc d) pc = .ok (.iastore, 1))
    (kk : zJ o d (pc + 1) lv st (n, zP o X (sI S k i.toNatClampNeg v)) mc ms Q) : zJ o d pc lv (.int v :: .int i :: .ref (z_adr o k) :: st) (n, zP o X S) mc ms Q := by
  refine zJ.iast hd hk ((zP_n hX).trans (f (S.1 k) (S.2.1 k) (S.2.2 k))) hin ?_
  show zJ o d (pc + 1) lv st (n, z_up (zP o X S) k _) mc ms Q
  rw [zP_up_n hX (z_up_I (s := i.toNatClampNeg) (v := v) (f _ _ _).symm)]
  exact kk
theorem zO.aldB {i : Nat} {x : Int32} (hk : z_ok n (4, i, 0)) (hX : X (4, i, 0) = none) (hin : vp_in x 16) (hd : decode (z_cc d) pc = .ok (.aaload, 1))
    (kk : zJ o d (pc + 1) lv (.ref (z_adr o (5, i, x.toNatClampNeg)) :: st) (n, zP o X S) mc ms Q) : zJ o d pc lv (.int x :: .ref (z_adr o (4, i, 0)) :: st) (n, zP o X S) mc ms Q := zJ.aald (t0 := 3) (C0 := "LateLines$Box") rfl hd hk ((zP_n hX).trans (z_a4 o i (S.1 (4, i, 0)) (S.2.1 (4, i, 0)) (S.2.2 (4, i, 0)))) hin kk
theorem zO.lenB {i : Nat} {v : Int32} (hk : z_ok n (4, i, 0)) (hX : X (4, i, 0) = none) (hv : Int32.ofNat 16 = v) (hd : decode (z_cc d) pc = .ok (.arraylength, 1))
    (kk : zJ o d (pc + 1) lv (.int v :: st) (n, zP o X S) mc ms Q) : zJ o d pc lv (.ref (z_adr o (4, i, 0)) :: st) (n, zP o X S) mc ms Q := zJ.alen (t0 := 3) (ty := .object "LateLines$Box") rfl hd hk ((zP_n hX).trans (z_a4 o i (S.1 (4, i, 0)) (S.2.1 (4, i, 0)) (S.2.2 (4, i, 0)))) hv kk
/-- an object made -/
theorem zO.new {idx ci : Nat} {C0 : String} {T : u_T} {N : Nat} {ty : Nat → FieldType} {k : zK} {fs : List Value} (KI : z_KI ci C0 T N ty) (hcl : Cond.classLink (z_y d).cls idx C0 ∈ lw_tbl) (hins : Cond.instantiable C0 N ∈ lw_tbl) (hini : Cond.initialized C0 ∈ lw_tbl) (hd : decode (z_cc d) pc = .ok (.new idx, 3)) (hfs : ∀ j, j < N → defaultValue (ty j) = vp_V fs j) (hk : z_ok 970 k) (hn : z_lay k = n)
    (kk : zJ o d (pc + 3) lv (.ref (z_adr o k) :: st) (n + 1, zP o (zX X k (some (.inr (ci, fs)))) S) mc ms Q) : zJ o d pc lv st (n, zP o X S) (mc + 1) (ms + N) Q := by
  subst hn
  refine zJ.newo KI hcl hins hini hd hfs hk.2 rfl hk.1 ?_
  rw [zP_up_s]
  exact kk
theorem zO.newi {x : Int32} {N' : Nat} {k : zK} (hd : decode (z_cc d) pc = .ok (.newarray .int, 2)) (hx0 : ¬ x < 0) (hN : x.toNatClampNeg = N') (hby : N' ≤ 60000000) (f : z_aI o k N') (hX : X k = none) (hS : S.1 k = fun _ => 0) (hk : z_ok 970 k) (hn : z_lay k = n)
    (kk : zJ o d (pc + 2) lv (.ref (z_adr o k) :: st) (n + 1, zP o X S) mc ms Q) : zJ o d pc lv (.int x :: st) (n, zP o X S) (mc + 1) (ms + N') Q := by
  subst hn
  refine zJ.newai (List.mem_of_getElem? (i := 128) (by decide +kernel)) hd hx0 hN hby hk.2 rfl hk.1 ?_
  have e : z_up (zP o X S) k (.inl (o.2.2.1 0, N', .inl (fun _ => 0))) = zP o X S := zP_same (by rw [zP_n hX]; show z_ent o k (S.1 k) _ _ = _; rw [f, hS])
  rw [e]
  exact kk
/-- a final field of an object being made -/
theorem zO.putc {idx ci : Nat} {C0 : String} {T : u_T} {N : Nat} {ty : Nat → FieldType} {k : zK} {fs : List Value} {v : Value} (Y : zK → Option va_E) (KI : z_KI ci C0 T N ty) (j : Nat) (hj : j < N) (hl : Cond.fieldLink (z_y d).cls idx C0 (T j).2.1 (T j).2.2.1 ∈ lw_tbl) (hd : decode (z_cc d) pc = .ok (.putfield idx, 3)) (hk : z_ok n k) (he : X k = some (.inr (ci, fs))) (hfin : (T j).2.2.2 = true) (hin2 : (z_y d).name = "<init>") (hcl : (z_y d).cls = C0) (hn : narrow (ty j) v = v) (hft : fits (ty j) v = true) (hjl : j < fs.length) (hY : zX X k (some (.inr (ci, fs.set j v))) = Y)
    (kk : zJ o d (pc + 3) lv st (n, zP o Y S) mc ms Q) : zJ o d pc lv (v :: .ref (z_adr o k) :: st) (n, zP o X S) mc ms Q := by
  subst hY
  refine zJ.putF KI j hj hl hd hk (zP_s he) hfin hin2 hcl hn hft hjl ?_
  show zJ o d (pc + 3) lv st (n, z_up (zP o X S) k _) mc ms Q
  rw [zP_up_s]
  exact kk
theorem zO.put0 {idx ci : Nat} {C0 : String} {T : u_T} {N : Nat} {ty : Nat → FieldType} {k : zK} {fs : List Value} {v : Value} (Y : zK → Option va_E) (KI : z_KI ci C0 T N ty) (j : Nat) (hj : j < N) (hl : z_FL d idx C0 T j) (hd : decode (z_cc d) pc = .ok (.putfield idx, 3)) (hk : z_ok n k) (he : X k = some (.inr (ci, fs))) (hfin : (T j).2.2.2 = false) (hn : narrow (ty j) v = v) (hft : fits (ty j) v = true) (hjl : j < fs.length) (hY : zX X k (some (.inr (ci, fs.set j v))) = Y)
    (kk : zJ o d (pc + 3) lv st (n, zP o Y S) mc ms Q) : zJ o d pc lv (v :: .ref (z_adr o k) :: st) (n, zP o X S) mc ms Q := by
  subst hY
  refine zJ.putf KI j hj hl hd hk (zP_s he) hfin hn hft hjl ?_
  show zJ o d (pc + 3) lv st (n, z_up (zP o X S) k _) mc ms Q
  rw [zP_up_s]
  exact kk
/-- another description of the same cell -/
theorem zO.desc {k : zK} {x x' : va_E} (hX : X k = some x) (h : ∀ a H, va_at o.2.1 vwCl (a, x) H → va_at o.2.1 vwCl (a, x') H) (kk : zJ o d pc lv st (n, zP o (zX X k (some x')) S) mc ms Q) : zJ o d pc lv st (n, zP o X S) mc ms Q := by
  intro p l e R s m args below meth c tc ts Z hR C E H locs cells slots ls h1 h2 h3 h4
  refine kk p l e R s m args below meth c tc ts Z hR C E H locs cells slots ls ⟨fun i q hq => ?_, h1.2.1, h1.2.2⟩ h2 h3 h4
  have hin : i < n := by
    rcases Nat.lt_or_ge i n with g | g
    · exact g
    · rw [z_ws, List.getElem?_map, List.getElem?_eq_none (by simp; omega)] at hq
      simp at hq
  have hb := h1.1 i (o.1 + i, zP o X S (z_key i)) (by simp only [z_ws, List.getElem?_map, List.getElem?_range hin, Option.map_some])
  simp only [z_ws, List.getElem?_map, List.getElem?_range hin, Option.map_some, Option.some.injEq] at hq
  subst hq
  by_cases hz : z_key i = k
  · rw [hz, zP_s hX] at hb
    show va_at _ _ (_, zP o (zX X k (some x')) S (z_key i)) _
    rw [hz, zP_s (zX_s X k _)]
    exact h _ _ hb
  · show va_at _ _ (_, zP o (zX X k (some x')) S (z_key i)) _
    have e : zP o (zX X k (some x')) S (z_key i) = zP o X S (z_key i) := by simp only [zP, zX, if_neg hz]
    rw [e]
    exact hb
end ZO
def zGO (o : zW) (X : zK → Option va_E) (n : Nat) (d : zD) (pc : Nat) (lv : List (Nat × Value)) (st : List Value) (S : zS) (Q : Option Value → zS → Prop) : Prop := zJ o d pc lv st (n, zP o X S) 0 0 (fun r M => ∃ S', M = (n, zP o X S') ∧ Q r S')
def zGOv (o : zW) (X : zK → Option va_E) (n : Nat) (d : zD) (As : List Value) (S : zS) (K : zS → Prop) : Prop := zGO o X n d 0 (lv_args 0 As) [] S (fun r S' => r = none ∧ K S')
theorem zGO.ret {o : zW} {X : zK → Option va_E} {n : Nat} {d : zD} {pc : Nat} {lv : List (Nat × Value)} {r : Option Value} {S : zS} {mc ms : Nat} {Q : Option Value → zS → Prop} (hr : z_Ret d pc r) (h : Q r S) : zJ o d pc lv r.toList (n, zP o X S) mc ms (fun r M => ∃ S', M = (n, zP o X S') ∧ Q r S') := zJ.ret hr ⟨S, rfl, h⟩
theorem zGO.callVv {o : zW} {X : zK → Option va_E} {d d2 : zD} {pc idx n m : Nat} {lv : List (Nat × Value)} (As rest : List Value) {S : zS} {mc ms : Nat} {Q : Option Value → zM → Prop} {K : zS → Prop} {k : zK} {ci : Nat} (ho : z_OBJ o k ci) (hk : z_ok n k) (hX : X k = none) {T : u_T} {N : Nat} (hcl : vwCl[ci]? = some ((z_y d2).cls, T, N)) (hd : decode (z_cc d) pc = .ok (.invokevirtual idx, 3)) (hb : z_LB d d2 m) (hl : z_ML d idx d2) (hin : Cond.instanceMethod (z_y d2) ∈ lw_tbl) (hse : Cond.selects (z_y d2).cls (z_y d2) (z_y d2) ∈ lw_tbl) (hn : As.length = m) (hsz : (lg_sl (.ref (z_adr o k) :: As)).length ≤ z_nl d2) (hcat : (rest.map fun v => v.category).sum ≤ 8) {stk : List Value} (hstk : stk = As.reverse ++ .ref (z_adr o k) :: rest)
    (h : zGOv o X n d2 (.ref (z_adr o k) :: As) S K) (kk : ∀ S2, K S2 → zJ o d (pc + 3) lv rest (n, zP o X S2) mc ms Q) : zJ o d pc lv stk (n, zP o X S) mc ms Q := by
  obtain ⟨fs, hf⟩ := ho (S.1 k) (S.2.1 k) (S.2.2 k)
  exact zJ.callV hd hb hl hin hse hk ((zP_n hX).trans hf) hcl hn hsz hcat stk hstk h ⟨Nat.le_of_eq (Nat.zero_add _), Nat.le_of_eq (Nat.zero_add _)⟩ (fun r M ⟨S2, h1, h2, h3⟩ => by subst h1; subst h2; exact kk S2 h3)
