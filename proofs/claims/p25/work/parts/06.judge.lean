/-! what stays from frame to frame: classes, words, static arrays, the script -/
def z_st (i j : Nat) : Int32 := match i, j with
  | 0, 0 => 2 | 0, 1 => 1 | 0, 2 => 2 | 0, 3 => 2 | 0, 4 => 6
  | 1, 0 => 1 | 1, 1 => 0 | 1, 2 => 1 | 1, 3 => 1 | 1, 4 => 1
  | 2, 0 => 3 | 2, 1 => 3 | 2, 2 => 4 | 2, 3 => 4 | 2, 4 => 20
  | _, _ => 0
def z_sn (i : Nat) : String := if i = 0 then "AT_FIRST" else if i = 1 then "LEAST" else "GREATEST"
abbrev z_Cst (o : zW) (U : State) : Prop := va_K o.2.1 vwCl (z_tys o) U ∧ z_Tab U
def z_Ext (o : zW) (U : State) (H : Heap) : Prop :=
  (va_X o.2.2.2.2.1 o.2.2.2.2.2.1 o.2.2.2.2.2.2 U H ∧ o.2.2.2.2.1 < o.1) ∧ ∀ i, i < 3 → va_Z "LateLines" (z_sn i) "[I" (.ref (o.2.2.2.1 i)) (z_A o) U H ∧ va_T .int (o.2.2.2.1 i) 5 (fun j => .int (z_st i j)) (z_A o) U H
theorem z_Cst_moved {o : zW} {s U : State} (hW : s.WarmedH U.vm) (h : z_Cst o s) : z_Cst o U := ⟨va_K.moved hW.alike h.1, z_Tab_moved hW h.2⟩
theorem z_Ext_moved {o : zW} {s U : State} {H H1 : Heap} (hW : s.vm.Alike U.vm) (hz : o.1 ≤ H.size) (hq : ∀ a : Nat, a < H.size → ¬ z_A o a → H1[a]? = H[a]?) (h : z_Ext o s H) : z_Ext o U H1 := by
  refine ⟨⟨?_, h.1.2⟩, fun i hi => ⟨?_, ?_⟩⟩
  · exact (va_X.moved hW h.1.1).kept (hq _ (by have := h.1.2; omega) (by have := h.1.2; show ¬ o.1 ≤ _; omega))
  · exact (va_Z.moved hW (h.2 i hi).1).kept hq
  · exact (va_T.moved hW (h.2 i hi).2).kept hq
/-- a method: name, code, locals, what it returns, frames and words of locals that its calls need -/
abbrev zD : Type := MethodName × ByteArray × Nat × Option FieldType × Nat × Nat
abbrev z_y (d : zD) : MethodName := d.1
abbrev z_cc (d : zD) : ByteArray := d.2.1
abbrev z_nl (d : zD) : Nat := d.2.2.1
abbrev z_rt (d : zD) : Option FieldType := d.2.2.2.1
abbrev z_fr (d : zD) : Nat := d.2.2.2.2.1
abbrev z_lo (d : zD) : Nat := d.2.2.2.2.2
def z_CX (o : zW) (d : zD) (p : Program) (R : Room) (s : State) (m : MethodId) (meth : Method) (c : Code) : Prop :=
  p.tables.exec = Jvm.exec ∧ c.code = z_cc d ∧ meth.sig.returnType = z_rt d ∧ c.maxLocals = z_nl d ∧ s.vm.findClass (z_y d).cls = some m.cls ∧ meth.locks = false ∧ meth.name = (z_y d).name ∧
  z_Cst o s ∧ z_Ext o s s.heap ∧ z_fr d ≤ R.frames ∧ z_lo d ≤ R.locals ∧ o.1 ≤ s.heap.size
def z_Ret (d : zD) (pc : Nat) (r : Option Value) : Prop := match r with
  | none => decode (z_cc d) pc = .ok (.return_, 1) ∧ z_rt d = none
  | some (.int v) => decode (z_cc d) pc = .ok (.ireturn, 1) ∧ ∃ ty, z_rt d = some ty ∧ narrow ty (.int v) = .int v
  | some (.long _) => decode (z_cc d) pc = .ok (.lreturn, 1) ∧ z_rt d = some .long
  | some (.float _) => decode (z_cc d) pc = .ok (.freturn, 1) ∧ z_rt d = some .float
  | some (.double _) => decode (z_cc d) pc = .ok (.dreturn, 1) ∧ z_rt d = some .double
  | some .null => decode (z_cc d) pc = .ok (.areturn, 1) ∧ ∃ n, z_rt d = some (.object n)
  | some (.ref _) => decode (z_cc d) pc = .ok (.areturn, 1) ∧ ∃ n, z_rt d = some (.object n)
  | _ => False
def z_END (o : zW) (d : zD) (p : Program) (l : Launch) (e : Env) (R : Room) (s : State) (m : MethodId) (args : Array Value) (below : List Frame) (meth : Method) (c : Code) (tc ts : Nat) (Z : State → Prop) (Q : Option Value → zM → Prop) : Prop :=
  ∀ (pc : Nat) (r : Option Value) (M : zM) (H : Heap) (locs : List Loc) (ls : Array Slot), z_Ret d pc r → Q r M → z_Rel o M H → va_S (z_A o) s.heap H locs → W p l e R s m args below meth c H locs tc ts Z (F0 m pc ls r.toList)
/-- THE JUDGEMENT: from place pc of method d, with these locals, stack and memory, the method returns r in a memory M with Q r M; it makes at most mc cells of ms slots -/
def zJ (o : zW) (d : zD) (pc : Nat) (lv : List (Nat × Value)) (st : List Value) (M : zM) (mc ms : Nat) (Q : Option Value → zM → Prop) : Prop :=
  ∀ (p : Program) (l : Launch) (e : Env) (R : Room) (s : State) (m : MethodId) (args : Array Value) (below : List Frame) (meth : Method) (c : Code) (tc ts : Nat) (Z : State → Prop),
    tc ≤ R.cells ∧ ts ≤ R.slots → z_CX o d p R s m meth c → z_END o d p l e R s m args below meth c tc ts Z Q →
    ∀ (H : Heap) (locs : List Loc) (cells slots : Nat) (ls : Array Slot), z_Rel o M H → va_S (z_A o) s.heap H locs → lv_has ls (z_nl d) lv → cells + mc ≤ tc ∧ slots + ms ≤ ts → W p l e R s m args below meth c H locs cells slots Z (F0 m pc ls st)
theorem zJ.mono {o : zW} {d : zD} {pc : Nat} {lv : List (Nat × Value)} {st : List Value} {M : zM} {mc ms : Nat} {Q Q' : Option Value → zM → Prop} (h : zJ o d pc lv st M mc ms Q) (hQ : ∀ r M', Q r M' → Q' r M') : zJ o d pc lv st M mc ms Q' := by
  intro p l e R s m args below meth c tc ts Z hR C E
  exact h p l e R s m args below meth c tc ts Z hR C (fun pc r M H locs ls h1 h2 => E pc r M H locs ls h1 (hQ r M h2))
theorem zJ.sub {o : zW} {d : zD} {pc : Nat} {lv lv' : List (Nat × Value)} {st : List Value} {M : zM} {mc ms : Nat} {Q : Option Value → zM → Prop} (ks : List Nat) (hl : lv_pick lv ks = lv') (h : zJ o d pc lv' st M mc ms Q) : zJ o d pc lv st M mc ms Q := by
  intro p l e R s m args below meth c tc ts Z hR C E H locs cells slots ls h1 h2 h3 h4
  exact h p l e R s m args below meth c tc ts Z hR C E H locs cells slots ls h1 h2 (lv_sub h3 ks hl) h4
theorem zJ.ret {o : zW} {d : zD} {pc : Nat} {lv : List (Nat × Value)} {r : Option Value} {M : zM} {mc ms : Nat} {Q : Option Value → zM → Prop} (hr : z_Ret d pc r) (hQ : Q r M) : zJ o d pc lv r.toList M mc ms Q := by
  intro p l e R s m args below meth c tc ts Z hR C E H locs cells slots ls h1 h2 h3 h4
  exact W.widen (by omega) (by omega) (E pc r M H locs ls hr hQ h1 h2)
/-! a method's contract out of the judgement at its entry -/
def z_B (o : zW) (M : zM) (U : State) : Prop := z_Rel o M U.heap ∧ z_Cst o U ∧ z_Ext o U U.heap
def z_Qc (o : zW) (K : Option Value → zM → Prop) : Array Value → State → Outcome → State → Prop := fun _ st oc t => (∃ (r : Option Value) (M : zM), oc = .returned r ∧ K r M ∧ z_Rel o M t.heap) ∧ va_F (z_A o) st t
theorem z_END_met {o : zW} {d : zD} {p : Program} {l : Launch} {e : Env} {R : Room} {s : State} {m : MethodId} {args : Array Value} {below : List Frame} {meth : Method} {c : Code} {mc ms : Nat} {K : Option Value → zM → Prop} (C : z_CX o d p R s m meth c) :
    z_END o d p l e R s m args below meth c mc ms (MQ below (z_Qc o K) args s mc ms (z_A o)) K := by
  intro pc r M H locs ls hr hQ hR hS
  obtain ⟨hx, hb, hrt, hml, hown, hlk, -⟩ := C
  have hq : ∀ t : State, t.heap = H → s.WarmedH t.vm → z_Qc o K args s (.returned r) t := fun t ht hW => ⟨⟨r, M, rfl, hQ, by rw [ht]; exact hR⟩, hS.F ht⟩
  match r, hr, hq with
  | none, hr, hq => exact W.vret hx hb (hrt.trans hr.2) hq hS.2.2 hr.1 hlk
  | some (.int v), ⟨h1, ty, h2, h3⟩, hq => exact W.zret hx hb (hrt.trans h2) h3 hq hS.2.2 h1 hlk
  | some (.long v), hr, hq => exact W.lret hx hb (hrt.trans hr.2) hq hS.2.2 hr.1 hlk
  | some (.float v), hr, hq => exact W.fret hx hb (hrt.trans hr.2) hq hS.2.2 hr.1 hlk
  | some (.double v), hr, hq => exact W.dret hx hb (hrt.trans hr.2) hq hS.2.2 hr.1 hlk
  | some .null, ⟨h1, n, h2⟩, hq => exact W.aret hx hb (hrt.trans h2) (Or.inl ⟨n, rfl⟩) (Or.inl rfl) hq hS.2.2 h1 hlk
  | some (.ref a), ⟨h1, n, h2⟩, hq => exact W.aret hx hb (hrt.trans h2) (Or.inl ⟨n, rfl⟩) (Or.inr ⟨a, rfl⟩) hq hS.2.2 h1 hlk
theorem z_ofW {l : Launch} {y : MethodName} {ws ws' : List Cond} {rm : Room} {Pc : Array Value → State → Prop} {Qc : Array Value → State → Outcome → State → Prop} {mc ms : Nat} {free : Addr → Prop} {cc : ByteArray} {maxL : Nat} {ret : Option FieldType}
    (hy : plainFor y = true) (hw : ws = Cond.code y cc maxL ret :: ws')
    (body : ∀ p e s m args below meth c s₁, BodyLoose p l y (headSpec ws rm) cc maxL ret e s m args below meth c s₁ → c.maxLocals = maxL → Pc args s →
      W p l e (headSpec ws rm).room s m args below meth c s.heap [] 0 0 (MQ below Qc args s mc ms free) (entryFrame m args maxL)) : Met l y ws rm Pc Qc mc ms free := by
  refine MetFree.of_bodySF (code := cc) (maxLocals := maxL) (ret := ret) hy ?_ ?_
  · intro args s m h hn
    obtain ⟨meth, c, h1, h2, h3, h4, h5, h6, -, -⟩ := Cond.code_spec hn (atoms_spec (ws := ws) h _ (by rw [hw]; exact List.mem_cons_self))
    exact ⟨meth, c, h1, h2, h3, h4, h5, h6⟩
  · intro p e s m args below meth c s₁ B hml hP _
    have hh0 : s₁.heap = s.heap := by rw [B.state]; rfl
    obtain ⟨t, a1, o, b1, b2, b3⟩ := body p e s m args below meth c s₁ B hml hP s₁ hh0 (Stand.of_body B)
    exact ⟨t, o, a1, b1, b2, ⟨b3.1, b3.2⟩⟩
theorem z_met (l : Launch) {o : zW} {d : zD} {As : List Value} {M : zM} {mc ms : Nat} {K : Option Value → zM → Prop} (hp : plainFor (z_y d) = true) (hsz : (lg_sl As).length ≤ z_nl d) (h : zJ o d 0 (lv_args 0 As) [] M mc ms K) :
    Met l (z_y d) [.code (z_y d) (z_cc d) (z_nl d) (z_rt d)] ({ frames := z_fr d, cells := mc, slots := ms, locals := z_lo d }) (va_Pc As (z_B o M)) (z_Qc o K) mc ms (z_A o) := by
  refine z_ofW (cc := z_cc d) (maxL := z_nl d) (ret := z_rt d) hp rfl ?_
  intro p e s m args below meth c s₁ B hml hv
  obtain ⟨rfl, hR, hC, hX⟩ := hv
  have hown : s.vm.findClass (z_y d).cls = some m.cls := findClass_of_methodNamed B.named
  have hnm : meth.name = (z_y d).name := (name_of_methodNamed B.named B.method).1
  have C : z_CX o d p (headSpec [.code (z_y d) (z_cc d) (z_nl d) (z_rt d)] ({ frames := z_fr d, cells := mc, slots := ms, locals := z_lo d })).room s m meth c :=
    ⟨B.exec, B.bytes, B.returns, hml, hown, B.notSynchronized, hnm, hC, hX, Nat.le_refl _, Nat.le_refl _, by have := hR.2.1; omega⟩
  rw [lg_entry_eq]
  exact h p l e _ s m _ below meth c mc ms _ ⟨Nat.le_refl _, Nat.le_refl _⟩ C (z_END_met C) s.heap [] 0 0 _ hR va_S.rf (lv_entry As hsz) ⟨by omega, by omega⟩
theorem z_blind {o : zW} {As : List Value} {M : zM} : FrameBlind (va_Pc As (z_B o M)) := by
  intro a U g mk hq
  obtain ⟨h1, h2, ⟨h3, h4⟩, h5⟩ := hq
  exact ⟨h1, h2, ⟨va_K.moved (u := U) (U := U.calling g mk a) (Vm.Alike.refl U.vm) h3, z_Tab_same (s := U) (U := U.calling g mk a) rfl h4⟩, z_Ext_moved (s := U) (U := U.calling g mk a) (Vm.Alike.refl U.vm) (H := U.heap) (by have := h2.2.1; omega) (fun a _ _ => rfl) h5⟩
theorem z_pre {o : zW} {d : zD} {p : Program} {R : Room} {s U : State} {m : MethodId} {meth : Method} {c : Code} {M : zM} {H : Heap} {locs : List Loc} (C : z_CX o d p R s m meth c) (hR : z_Rel o M H) (hS : va_S (z_A o) s.heap H locs) (hU : U.heap = H) (hW : s.WarmedH U.vm) : z_B o M U := by
  obtain ⟨-, -, -, -, -, -, -, hC, hX, -, -, hz⟩ := C
  refine ⟨by rw [hU]; exact hR, z_Cst_moved hW hC, ?_⟩
  rw [hU]
  exact z_Ext_moved hW.alike hz hS.2.1 hX
section ZRUN
variable {p : Program} {l : Launch} {e : Env} {R : Room} {s : State} {m : MethodId} {args : Array Value} {below : List Frame} {meth : Method} {c : Code} {H : Heap} {locs : List Loc} {cells slots : Nat} {Z : State → Prop}
theorem z_run {o : zW} {K : Option Value → zM → Prop} {pc mc ms : Nat} {ls : Array Slot} {st0 rest : List Value} {a : Array Value}
    (hr : va_Run p l e R s m args below meth c H locs cells slots mc ms (F0 m pc ls st0) rest (z_Qc o K a) (z_A o)) (hS : va_S (z_A o) s.heap H locs)
    (kk : ∀ (r : Option Value) (M1 : zM) (H1 : Heap) (locs1 : List Loc), K r M1 → z_Rel o M1 H1 → va_S (z_A o) s.heap H1 locs1 → W p l e R s m args below meth c H1 locs1 (cells + mc) (slots + ms) Z (F0 m (pc + 3) ls (r.toList ++ rest))) :
    W p l e R s m args below meth c H locs cells slots Z (F0 m pc ls st0) := by
  intro T hT X
  obtain ⟨v, st₀, t, T', L, h0, X', hL, e1, e2, ⟨⟨r, M1, hv, hK, hR1⟩, hz, hk⟩, st⟩ := hr T hT X
  cases hv
  rw [h0] at hz hk
  obtain ⟨t2, a1, b1⟩ := kk v M1 T'.heap (locs ++ L) hK (by rw [e1]; exact hR1)
    ⟨Nat.le_trans hS.1 (by rw [e1]; exact hz), fun q h1 h2 => by rw [e1, hk q (Nat.lt_of_lt_of_le h1 hS.1) h2]; exact hS.2.1 q h1 h2, fun q hq => by
      rcases List.mem_append.mp hq with h | h
      · exact hS.2.2 q h
      · exact hL q h⟩ T' rfl X'
  exact ⟨t2, st t2 a1, b1⟩
end ZRUN
/-- what the tables must say of a call: of the method called (static part), its room under the caller's -/
abbrev z_LB (d d2 : zD) (n : Nat) : Prop :=
  (plainFor (z_y d2) = true ∧ (Cond.code (z_y d2) (z_cc d2) (z_nl d2) (z_rt d2)) ∈ lw_tbl ∧ (Cond.initialized (z_y d2).cls) ∈ lw_tbl) ∧
  ((z_y d2).cls ≠ "java/lang/invoke/MethodHandle" ∧ (z_y d2).cls ≠ "java/lang/invoke/VarHandle" ∧ (parseMethodDescriptor (z_y d2).desc).map (fun q => q.parameters.length) = some n) ∧
  (z_fr d2 + 1 ≤ z_fr d ∧ 8 + (z_nl d2 + 11) + z_lo d2 ≤ z_lo d)
abbrev z_ML (d : zD) (idx : Nat) (d2 : zD) : Prop := Cond.methodLink (z_y d).cls idx (z_y d2) ∈ lw_tbl ∨ Cond.methodLinkNest (z_y d).cls idx (z_y d2) "LateLines" ∈ lw_tbl
section ZCALL
variable {o : zW} {d d2 : zD} {pc idx n : Nat} {lv : List (Nat × Value)} {As rest : List Value} {M : zM} {mc ms mc1 ms1 mc2 ms2 : Nat} {Q K : Option Value → zM → Prop}
theorem z_code_word {d2 : zD} {s U : State} (hT : z_Tab s) (hc : (Cond.code (z_y d2) (z_cc d2) (z_nl d2) (z_rt d2)) ∈ lw_tbl) (hW : s.WarmedH U.vm) (a' : Array Value) : (Cond.code (z_y d2) (z_cc d2) (z_nl d2) (z_rt d2)).before a' U = true :=
  z_use (z_Tab_moved hW hT) hc rfl rfl
theorem z_cb {p : Program} {R : Room} {s : State} {m : MethodId} {args : Array Value} {meth : Method} {c : Code} (C : z_CX o d p R s m meth c) (hb : z_LB d d2 n) (hl : Cond.methodLink (z_y d).cls idx (z_y d2) ∈ lw_tbl) :
    CallB R s args (z_y d).cls idx (z_y d2) (z_cc d2) (z_nl d2) (z_rt d2) [.code (z_y d2) (z_cc d2) (z_nl d2) (z_rt d2)] ({ frames := z_fr d2, cells := mc1, slots := ms1, locals := z_lo d2 }) mc1 ms1 n := by
  obtain ⟨-, -, -, -, -, -, -, ⟨hK, hT⟩, -, hf, hlo, -⟩ := C
  obtain ⟨⟨h1, h2, h3⟩, ⟨h4, h5, h6⟩, h7, h8⟩ := hb
  refine ⟨rfl, rfl, Nat.le_trans h7 hf, Nat.le_trans h8 hlo, ?_, List.mem_cons_self, z_use hT h2 rfl rfl, z_use hT h3 rfl rfl, ⟨h4, h5⟩, fun sig h => ?_, z_use hT hl rfl rfl⟩
  · intro w hw a' U hW
    have hw' : w = _ := List.mem_singleton.mp hw
    subst hw'
    exact z_code_word hT h2 hW a'
  · rw [h] at h6
    exact (Option.some.inj h6).symm
theorem z_cn {p : Program} {R : Room} {s : State} {m : MethodId} {args : Array Value} {meth : Method} {c : Code} (C : z_CX o d p R s m meth c) (hb : z_LB d d2 n) (hl : Cond.methodLinkNest (z_y d).cls idx (z_y d2) "LateLines" ∈ lw_tbl) :
    va_CN R s args (z_y d).cls idx (z_y d2) "LateLines" (z_cc d2) (z_nl d2) (z_rt d2) [.code (z_y d2) (z_cc d2) (z_nl d2) (z_rt d2)] ({ frames := z_fr d2, cells := mc1, slots := ms1, locals := z_lo d2 }) mc1 ms1 n := by
  obtain ⟨-, -, -, -, -, -, -, ⟨hK, hT⟩, -, hf, hlo, -⟩ := C
  obtain ⟨⟨h1, h2, h3⟩, ⟨h4, h5, h6⟩, h7, h8⟩ := hb
  refine ⟨⟨rfl, rfl, Nat.le_trans h7 hf, Nat.le_trans h8 hlo, ?_, List.mem_cons_self⟩, z_use hT h2 rfl rfl, z_use hT h3 rfl rfl, ⟨h4, h5⟩, fun sig h => ?_, z_use hT hl rfl rfl⟩
  · intro w hw a' U hW
    have hw' : w = _ := List.mem_singleton.mp hw
    subst hw'
    exact z_code_word hT h2 hW a'
  · rw [h] at h6
    exact (Option.some.inj h6).symm
/-- a static method called -/
theorem zJ.callS (hd : decode (z_cc d) pc = .ok (.invokestatic idx, 3)) (hb : z_LB d d2 n) (hl : z_ML d idx d2) (hst : Cond.static (z_y d2) ∈ lw_tbl) (hn : As.length = n) (hsz : (lg_sl As).length ≤ z_nl d2) (hcat : (rest.map fun v => v.category).sum ≤ 8) (stk : List Value) (hstk : stk = As.reverse ++ rest)
    (h : zJ o d2 0 (lv_args 0 As) [] M mc1 ms1 K) (hm : mc1 + mc2 ≤ mc ∧ ms1 + ms2 ≤ ms) (kk : ∀ r M1, K r M1 → zJ o d (pc + 3) lv (r.toList ++ rest) M1 mc2 ms2 Q) : zJ o d pc lv stk M mc ms Q := by
  subst hstk
  intro p l e R s m args below meth c tc ts Z hR C E H locs cells slots ls h1 h2 h3 h4
  have C' := C
  obtain ⟨hx, hbt, hrt, hml, hown, hlk, hnm, ⟨hK, hT⟩, hX, hf, hlo, hz⟩ := C'
  have hp : PreS s H (va_Pc As (z_B o M)) As := ⟨z_blind, fun U hU hW => ⟨rfl, z_pre C h1 h2 hU hW⟩⟩
  have hcat' := lv_room (m := m) (pc := pc) (ls := ls) (rest := As.reverse ++ rest) hcat
  have fin : ∀ (r : Option Value) (M1 : zM) (H1 : Heap) (locs1 : List Loc), K r M1 → z_Rel o M1 H1 → va_S (z_A o) s.heap H1 locs1 → W p l e R s m args below meth c H1 locs1 (cells + mc1) (slots + ms1) Z (F0 m (pc + 3) ls (r.toList ++ rest)) :=
    fun r M1 H1 locs1 k1 k2 k3 => kk r M1 k1 p l e R s m args below meth c tc ts Z hR C E H1 locs1 _ _ ls k2 k3 h3 ⟨by omega, by omega⟩
  rcases hl with hl | hl
  · exact z_run (va_runS (As := As) (rest := rest) (Ts := []) ⟨hx, hbt, hml, hown, fun w hw => absurd hw List.not_mem_nil⟩ (z_met l hb.1.1 hsz h) ⟨z_cb C hb hl, z_use hT hst rfl rfl⟩ hp rfl hn h3.1 rfl hcat' hd ⟨by omega, by omega⟩) h2 fin
  · exact z_run (va_runSN (As := As) (rest := rest) (Ts := []) ⟨hx, hbt, hml, hown, fun w hw => absurd hw List.not_mem_nil⟩ (z_met l hb.1.1 hsz h) ⟨z_cn C hb hl, z_use hT hst rfl rfl, trivial⟩ hp rfl hn h3.1 rfl hcat' hd ⟨by omega, by omega⟩) h2 fin
/-- a method of an object called -/
theorem zJ.callV (hd : decode (z_cc d) pc = .ok (.invokevirtual idx, 3)) (hb : z_LB d d2 n) (hl : z_ML d idx d2) (hin : Cond.instanceMethod (z_y d2) ∈ lw_tbl) (hse : Cond.selects (z_y d2).cls (z_y d2) (z_y d2) ∈ lw_tbl) {k : zK} (hk : z_ok M.1 k) {ci : Nat} {fs : List Value} (he : M.2 k = .inr (ci, fs)) {T : u_T} {N : Nat} (hcl : vwCl[ci]? = some ((z_y d2).cls, T, N))
    (hn : As.length = n) (hsz : (lg_sl (.ref (z_adr o k) :: As)).length ≤ z_nl d2) (hcat : (rest.map fun v => v.category).sum ≤ 8) (stk : List Value) (hstk : stk = As.reverse ++ .ref (z_adr o k) :: rest)
    (h : zJ o d2 0 (lv_args 0 (.ref (z_adr o k) :: As)) [] M mc1 ms1 K) (hm : mc1 + mc2 ≤ mc ∧ ms1 + ms2 ≤ ms) (kk : ∀ r M1, K r M1 → zJ o d (pc + 3) lv (r.toList ++ rest) M1 mc2 ms2 Q) : zJ o d pc lv stk M mc ms Q := by
  subst hstk
  intro p l e R s m args below meth c tc ts Z hR C E H locs cells slots ls h1 h2 h3 h4
  have C' := C
  obtain ⟨hx, hbt, hrt, hml, hown, hlk, hnm, ⟨hK, hT⟩, hX, hf, hlo, hz⟩ := C'
  have hrec := va_recv hK h1.1 (q := ((z_y d2).cls, T, N)) hcl (q0 := z_lay k) (a := z_adr o k) (fs := fs) (by rw [z_ws_get hk, he])
  have hp : PreV s H (z_y d2).cls (z_adr o k) (va_Pc (.ref (z_adr o k) :: As) (z_B o M)) As := ⟨z_blind, hrec, fun U hU hW => ⟨rfl, z_pre C h1 h2 hU hW⟩⟩
  have hcat' := lv_room (m := m) (pc := pc) (ls := ls) (rest := As.reverse ++ .ref (z_adr o k) :: rest) hcat
  have fin : ∀ (r : Option Value) (M1 : zM) (H1 : Heap) (locs1 : List Loc), K r M1 → z_Rel o M1 H1 → va_S (z_A o) s.heap H1 locs1 → W p l e R s m args below meth c H1 locs1 (cells + mc1) (slots + ms1) Z (F0 m (pc + 3) ls (r.toList ++ rest)) :=
    fun r M1 H1 locs1 k1 k2 k3 => kk r M1 k1 p l e R s m args below meth c tc ts Z hR C E H1 locs1 _ _ ls k2 k3 h3 ⟨by omega, by omega⟩
  rcases hl with hl | hl
  · exact z_run (va_runV (As := As) (rest := rest) (Ts := []) ⟨hx, hbt, hml, hown, fun w hw => absurd hw List.not_mem_nil⟩ (z_met l hb.1.1 hsz h) ⟨z_cb C hb hl, z_use hT hin rfl rfl, z_use hT hse rfl rfl⟩ hp rfl hn h3.1 rfl hcat' hd ⟨by omega, by omega⟩) h2 fin
  · exact z_run (va_runVN (As := As) (rest := rest) (Ts := []) ⟨hx, hbt, hml, hown, fun w hw => absurd hw List.not_mem_nil⟩ (z_met l hb.1.1 hsz h) ⟨z_cn C hb hl, z_use hT hin rfl rfl, z_use hT hse rfl rfl⟩ hp rfl hn h3.1 rfl hcat' hd ⟨by omega, by omega⟩) h2 fin
/-- a constructor called -/
theorem zJ.callI (hd : decode (z_cc d) pc = .ok (.invokespecial idx, 3)) (hb : z_LB d d2 n) (hl : z_ML d idx d2) (hin : Cond.instanceMethod (z_y d2) ∈ lw_tbl) (hini : (z_y d2).name = "<init>") (hrn : z_rt d2 = none) {b : Nat}
    (hn : As.length = n) (hsz : (lg_sl (.ref b :: As)).length ≤ z_nl d2) (hcat : (rest.map fun v => v.category).sum ≤ 8) (stk : List Value) (hstk : stk = As.reverse ++ .ref b :: rest)
    (h : zJ o d2 0 (lv_args 0 (.ref b :: As)) [] M mc1 ms1 K) (hm : mc1 + mc2 ≤ mc ∧ ms1 + ms2 ≤ ms) (kk : ∀ r M1, K r M1 → zJ o d (pc + 3) lv (r.toList ++ rest) M1 mc2 ms2 Q) : zJ o d pc lv stk M mc ms Q := by
  subst hstk
  intro p l e R s m args below meth c tc ts Z hR C E H locs cells slots ls h1 h2 h3 h4
  have C' := C
  obtain ⟨hx, hbt, hrt, hml, hown, hlk, hnm, ⟨hK, hT⟩, hX, hf, hlo, hz⟩ := C'
  have hp : PreS s H (va_Pc (.ref b :: As) (z_B o M)) (.ref b :: As) := ⟨z_blind, fun U hU hW => ⟨rfl, z_pre C h1 h2 hU hW⟩⟩
  have hcat' := lv_room (m := m) (pc := pc) (ls := ls) (rest := As.reverse ++ .ref b :: rest) hcat
  have fin : ∀ (r : Option Value) (M1 : zM) (H1 : Heap) (locs1 : List Loc), K r M1 → z_Rel o M1 H1 → va_S (z_A o) s.heap H1 locs1 → W p l e R s m args below meth c H1 locs1 (cells + mc1) (slots + ms1) Z (F0 m (pc + 3) ls (r.toList ++ rest)) :=
    fun r M1 H1 locs1 k1 k2 k3 => kk r M1 k1 p l e R s m args below meth c tc ts Z hR C E H1 locs1 _ _ ls k2 k3 h3 ⟨by omega, by omega⟩
  have hmt := z_met l hb.1.1 hsz h
  rcases hl with hl | hl
  · have hcb := z_cb (mc1 := mc1) (ms1 := ms1) (args := args) C hb hl
    rw [hrn] at hcb hmt
    exact z_run (va_runI (As := As) (rest := rest) (Ts := []) ⟨hx, hbt, hml, hown, fun w hw => absurd hw List.not_mem_nil⟩ hmt ⟨hcb, hini, z_use hT hin rfl rfl⟩ hp rfl hn h3.1 rfl hcat' hd ⟨by omega, by omega⟩) h2 fin
  · have hcb := z_cn (mc1 := mc1) (ms1 := ms1) (args := args) C hb hl
    rw [hrn] at hcb hmt
    exact z_run (va_runIN (As := As) (rest := rest) (Ts := []) ⟨hx, hbt, hml, hown, fun w hw => absurd hw List.not_mem_nil⟩ hmt ⟨hcb, hini, z_use hT hin rfl rfl⟩ hp rfl hn h3.1 rfl hcat' hd ⟨by omega, by omega⟩) h2 fin
end ZCALL
