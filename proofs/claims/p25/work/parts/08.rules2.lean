section ZR
variable {o : zW} {d : zD} {pc : Nat} {lv lv' : List (Nat × Value)} {st : List Value} {M : zM} {mc ms : Nat} {Q : Option Value → zM → Prop}

theorem z_ac {ty : FieldType} {A : Array Value} {U : State} (h : (Cond.arrayClass ty).before #[] U = true) : (Cond.arrayClass ty).before A U = true := h
theorem zJ.newai {n : Nat} {e : zK → va_E} {x : Int32} {N' : Nat} {k : zK} (harr : Cond.arrayClass .int ∈ lw_tbl) (hd : decode (z_cc d) pc = .ok (.newarray .int, 2)) (hx0 : ¬ x < 0) (hN : x.toNatClampNeg = N') (hby : N' ≤ 60000000) (hk : z_key n = k) (hk2 : z_lay k = n) (hn : n < 970)
    (kk : zJ o d (pc + 2) lv (.ref (z_adr o k) :: st) (n + 1, z_up e k (.inl (o.2.2.1 0, N', .inl (fun _ => 0)))) mc ms Q) : zJ o d pc lv (.int x :: st) (n, e) (mc + 1) (ms + N') Q := by
  intro p l e R s m args below meth c tc ts Z hR C E H locs cells slots ls h1 h2 h3 h4
  obtain ⟨hx, hb, hrt, hml, hown, hlk, hnm, ⟨hK, hT⟩, hX, hf, hlo, hz⟩ := id C
  have hac : (Cond.arrayClass .int).before args s = true := z_ac (hT _ harr rfl)
  refine va_newaK (atype := .int) hx hb hac rfl hd rfl hx0 hN (by show N' * 4 ≤ 536870912; omega) (by omega) (by omega) h1.2.1 fun H1 cA e1 z1 o1 hAr hNm => ?_
  have hA1 : s.vm.findClass ("[" ++ (.int : FieldType).toString) = some (o.2.2.1 0) := (hK.2 0 (o.2.2.1 0, .int) rfl).2
  have hN1 : s.vm.findClass ("[" ++ (.int : FieldType).toString) = some cA := hNm
  have hcA : o.2.2.1 0 = cA := Option.some.inj (hA1.symm.trans hN1)
  have hsz : H.size = o.1 + n := h1.2.1
  have ha : o.1 + n = z_adr o k := by show _ = o.1 + z_lay k; rw [hk2]
  have hx1 : va_at o.2.1 vwCl (o.1 + n, .inl (o.2.2.1 0, N', .inl (fun _ => 0))) H1 := by
    show H1[o.1 + n]? = some (vp_cell _ _)
    rw [hcA]
    exact e1
  have o1' : ∀ q : Nat, q < H.size → H1[q]? = H[q]? := fun q hq => o1 q (by rw [← hsz]; exact hq)
  have z1' : H1.size = H.size + 1 := by rw [hsz]; exact z1
  have := kk p l e R s m args below meth c tc ts Z hR C E H1 locs (cells + 1) (slots + N') ls (z_Rel_push hk hk2 hn h1 hx1 o1' z1') (z_S_push h2 o1' z1') h3 ⟨by omega, by omega⟩
  rw [← ha] at this
  exact this
theorem zJ.newq {n idx t0 : Nat} {e : zK → va_E} {x : Int32} {N' : Nat} {k : zK} {C0 : String} (ht : (z_tys o)[t0]? = some (o.2.2.1 t0, .object C0)) (hcl : Cond.classLink (z_y d).cls idx C0 ∈ lw_tbl) (hov : Cond.arrayOver (.object C0) ∈ lw_tbl) (hd : decode (z_cc d) pc = .ok (.anewarray idx, 3)) (hx0 : ¬ x < 0) (hN : x.toNatClampNeg = N') (hby : N' * 4 ≤ 536870912) (hk : z_key n = k) (hk2 : z_lay k = n) (hn : n < 970)
    (kk : zJ o d (pc + 3) lv (.ref (z_adr o k) :: st) (n + 1, z_up e k (.inl (o.2.2.1 t0, N', .inr (.inr (.inr (.inr (fun _ => none))))))) mc ms Q) : zJ o d pc lv (.int x :: st) (n, e) (mc + 1) (ms + N') Q := by
  subst hN
  intro p l e R s m args below meth c tc ts Z hR C E H locs cells slots ls h1 h2 h3 h4
  obtain ⟨hx, hb, hrt, hml, hown, hlk, hnm, ⟨hK, hT⟩, hX, hf, hlo, hz⟩ := id C
  refine W.anew hx hb hown (z_use hT hcl rfl rfl) (va_AO.use (hT _ hov rfl)) rfl hd rfl hx0 hby (by omega) (by omega) fun cA kA comp f1 f2 f3 f4 => ?_
  obtain ⟨kA', comp', g1, g2, g3, g4⟩ := (hK.2 t0 _ ht).2
  have hsz : H.size = o.1 + n := h1.2.1
  have ha : o.1 + n = z_adr o k := by show _ = o.1 + z_lay k; rw [hk2]
  have hcA : o.2.2.1 t0 = cA := by
    first
    | exact Option.some.inj (g4.symm.trans f1)
    | exact Option.some.inj (g4.symm.trans f4)
    | exact Option.some.inj (g4.symm.trans f3)
  generalize hH1 : H.push ({ cls := cA, slots := Array.replicate x.toNatClampNeg .null, vm := .none } : Cell) = H1
  have z1' : H1.size = H.size + 1 := by rw [← hH1, Array.size_push]
  have e1 : H1[H.size]? = some (arrV cA x.toNatClampNeg (fun _ => .null)) := by rw [← hH1, Array.getElem?_push_size, ← arrV_new]
  have o1' : ∀ q : Nat, q < H.size → H1[q]? = H[q]? := fun q hq => by rw [← hH1, Array.getElem?_push, if_neg (Nat.ne_of_lt hq)]
  have hx1 : va_at o.2.1 vwCl (o.1 + n, .inl (o.2.2.1 t0, x.toNatClampNeg, .inr (.inr (.inr (.inr (fun _ => none)))))) H1 := by
    show H1[o.1 + n]? = some (vp_cell _ _)
    rw [hcA, vp_cell_q, ← hsz]
    exact e1
  have := kk p l e R s m args below meth c tc ts Z hR C E H1 locs (cells + 1) (slots + x.toNatClampNeg) ls (z_Rel_push hk hk2 hn h1 hx1 o1' z1') (z_S_push h2 o1' z1') h3 ⟨by omega, by omega⟩
  rw [← ha, ← hsz] at this
  exact this
theorem z_copied {c1 : ClassId} {n1 sp dp n : Nat} (cs : Cell) (f g : Nat → Int32) (hs : ∀ i, i < n → cs.slots[sp + i]? = some (.int (f (sp + i)))) :
    (arrV c1 n1 (fun j => .int (g j))).storeRun dp (cs.stretch sp n) = arrV c1 n1 (fun j => .int (va_cpy f g sp dp n j)) := by
  have e : cs.stretch sp n = (List.range n).map (fun i => .int (f (sp + i))) := by
    unfold Cell.stretch
    apply List.map_congr_left
    intro i hi
    have hi' := List.mem_range.mp hi
    rw [Array.getD_eq_getD_getElem?, hs i hi']
    rfl
  rw [e, Cell.storeRun, va_pairs]
  congr 1
  funext k
  simp only [va_cpy, List.length_map, List.length_range, Nat.add_zero]
  by_cases h : dp ≤ k ∧ k < dp + n
  · rw [if_pos h, if_pos h, List.getD_eq_getElem?_getD, List.getElem?_map, List.getElem?_range (by omega)]
    rfl
  · rw [if_neg h, if_neg h]
theorem z_nn {z : Int32} (hz : ¬ z < 0) : z.toInt = (z.toNatClampNeg : Int) := by
  have hz0 : (0 : Int) ≤ z.toInt := by
    have := Int32.not_lt.mp hz
    simpa using Int32.le_iff_toInt_le.mp this
  show z.toInt = ((z.toInt.toNat : Nat) : Int)
  omega
section ZCP
variable {p : Program} {l : Launch} {e : Env} {R : Room} {s : State} {m : MethodId} {args : Array Value} {below : List Frame} {meth : Method} {c : Code} {H : Heap} {locs : List Loc} {cells slots : Nat} {Z : State → Prop}
/-- System.arraycopy of ints, from any int array into one of the world's -/
theorem z_copyW {cc : ByteArray} {pc : Nat} {ls : Array Slot} {rest : List Value} {c1 : ClassId} {n1 : Nat} {cs : Cell} {f g : Nat → Int32} {a0 a : Nat} (hexec : p.tables.exec = Jvm.exec) (hb : c.code = cc) (hml : c.maxLocals = ls.size) {own : String} {index : Nat} (hown : s.vm.findClass own = some m.cls) (hlink : (Cond.methodLink own index arraycopyName).before args s = true) (hnat : (Cond.native arraycopyName).before args s = true) (hstat : (Cond.static arraycopyName).before args s = true) (hini : (Cond.initialized "java/lang/System").before args s = true)
    (hc0 : H[a0]? = some cs) (ht0 : s.isArrayOf cs .int) (hkn : cs.vm ≠ .unknown) (hc1 : H[a]? = some (vp_cell c1 (n1, .inl g))) (ht1 : s.isArrayOf (vp_cell c1 (n1, .inl g)) .int)
    {sp dp n : Int32} (h1 : ¬ sp < 0) (h2 : ¬ dp < 0) (h3 : ¬ n < 0) (h4 : sp.toNatClampNeg + n.toNatClampNeg ≤ cs.slots.size) (h5 : dp.toNatClampNeg + n.toNatClampNeg ≤ n1) (hs : ∀ i, i < n.toNatClampNeg → cs.slots[sp.toNatClampNeg + i]? = some (.int (f (sp.toNatClampNeg + i))))
    (hframes : 1 ≤ R.frames) (hlocals : (rest.map fun v => v.category).sum + (nativeFrameWords "java/lang/System" "arraycopy" 5 + 11) ≤ R.locals) (hdg : decode cc pc = .ok (.invokestatic index, 3))
    (kk : ∀ (H1 : Heap) (L : List Loc), H1[a]? = some (vp_cell c1 (n1, .inl (va_cpy f g sp.toNatClampNeg dp.toNatClampNeg n.toNatClampNeg))) → H1.size = H.size → (∀ q, q ≠ a → H1[q]? = H[q]?) → (∀ q ∈ L, q.base = a) → W p l e R s m args below meth c H1 (locs ++ L) cells slots Z (F0 m (pc + 3) ls rest)) : W p l e R s m args below meth c H locs cells slots Z (F0 m pc ls (.int n :: .int dp :: .ref a :: .int sp :: .ref a0 :: rest)) := by
  intro T hT X
  obtain ⟨o0, k0, hk0, cm0, hkk0⟩ := ht0
  obtain ⟨o1, k1, hk1, cm1, hkk1⟩ := ht1
  obtain ⟨vm', X', step⟩ := X.arraycopy hexec hown hlink hnat hstat hini (src := a0) (dst := a) (cs := cs) (cd := vp_cell c1 (n1, .inl g)) (srcPos := sp) (destPos := dp) (n := n) (by rw [hT]; exact hc0) (by rw [hT]; exact hc1)
    o0 o1 hkn (fun h => by cases h) hk0 hk1 hkk0 hkk1 (by decide) h1 h2 h3
    (by rw [z_nn h1, z_nn h3]; omega)
    (by rw [z_nn h2, z_nn h3]; show ¬ _ > ((arrV c1 n1 (fun j => .int (g j))).slots.size : Int); rw [arrV_size]; omega)
    (fun vm₁ _ i hi => by
      have e : cs.slots.getD (sp.toNatClampNeg + i) .null = .int (f (sp.toNatClampNeg + i)) := by
        rw [Array.getD_eq_getD_getElem?, hs i hi]
        rfl
      refine ⟨?_, ?_⟩
      · rw [e]; rfl
      · rw [e]; exact trivial)
    (g := F0 m pc ls (.int n :: .int dp :: .ref a :: .int sp :: .ref a0 :: rest)) rfl (by rw [hml]) (rest := rest) rfl (by rw [hb]; exact hdg) hframes (by show 2 * 0 + _ + _ ≤ _; omega)
  have e1 : copied cs (vp_cell c1 (n1, .inl g)) sp dp n = vp_cell c1 (n1, .inl (va_cpy f g sp.toNatClampNeg dp.toNatClampNeg n.toNatClampNeg)) := z_copied cs f g hs
  rw [e1] at X' step
  have hl : a < H.size := (Array.getElem?_eq_some_iff.mp hc1).1
  obtain ⟨t, a1, b1⟩ := kk _ _ (show ((T.setVm vm').setCell a (vp_cell c1 (n1, .inl (va_cpy f g sp.toNatClampNeg dp.toNatClampNeg n.toNatClampNeg)))).heap[a]? = _ from heapAt_setCell_self _ (by show a < T.heap.size; rw [hT]; exact hl)) (by rw [size_setCell]; show T.heap.size = _; rw [hT]) (fun q hq => by rw [heapAt_setCell_ne _ (Ne.symm hq)]; show T.heap[q]? = _; rw [hT]) (fun q hq => by
      obtain ⟨z, -, hz⟩ := List.mem_map.mp hq
      rw [← hz]) _ rfl X'
  exact ⟨t, step t a1, b1⟩
end ZCP
/-- what a call of System.arraycopy needs of the tables -/
abbrev z_AC (d : zD) (idx : Nat) : Prop := Cond.methodLink (z_y d).cls idx arraycopyName ∈ lw_tbl ∧ Cond.native arraycopyName ∈ lw_tbl ∧ Cond.static arraycopyName ∈ lw_tbl ∧ Cond.initialized "java/lang/System" ∈ lw_tbl
theorem zJ.copyi {idx : Nat} {k0 k : zK} {n0 n1 : Nat} {f g : Nat → Int32} {sp dp n : Int32} (ha : z_AC d idx) (hd : decode (z_cc d) pc = .ok (.invokestatic idx, 3)) (hk0 : z_ok M.1 k0) (he0 : M.2 k0 = .inl (o.2.2.1 0, n0, .inl f)) (hk : z_ok M.1 k) (he : M.2 k = .inl (o.2.2.1 0, n1, .inl g)) (g1 : ¬ sp < 0) (g2 : ¬ dp < 0) (g3 : ¬ n < 0) (g4 : sp.toNatClampNeg + n.toNatClampNeg ≤ n0) (g5 : dp.toNatClampNeg + n.toNatClampNeg ≤ n1) (hfr : 1 ≤ z_fr d) (hlc : (st.map fun v => v.category).sum + (nativeFrameWords "java/lang/System" "arraycopy" 5 + 11) ≤ z_lo d)
    (kk : zJ o d (pc + 3) lv st (M.1, z_up M.2 k (.inl (o.2.2.1 0, n1, .inl (va_cpy f g sp.toNatClampNeg dp.toNatClampNeg n.toNatClampNeg)))) mc ms Q) : zJ o d pc lv (.int n :: .int dp :: .ref (z_adr o k) :: .int sp :: .ref (z_adr o k0) :: st) M mc ms Q := by
  intro p l e R s m args below meth c tc ts Z hR C E H locs cells slots ls h1 h2 h3 h4
  obtain ⟨hx, hb, hrt, hml, hown, hlk, hnm, ⟨hK, hT⟩, hX, hf, hlo, hz⟩ := id C
  have hq0 := h1.1 (z_lay k0) (z_adr o k0, .inl (o.2.2.1 0, n0, .inl f)) (by rw [z_ws_get hk0, he0])
  have hq := h1.1 (z_lay k) (z_adr o k, .inl (o.2.2.1 0, n1, .inl g)) (by rw [z_ws_get hk, he])
  refine z_copyW (f := f) (g := g) hx hb (hml.trans h3.1.symm) hown (z_use hT ha.1 rfl rfl) (z_use hT ha.2.1 rfl rfl) (z_use hT ha.2.2.1 rfl rfl) (z_use hT ha.2.2.2 rfl rfl) hq0 ((hK.2 0 _ rfl).1 n0 (fun j => .int (f j))) (fun q => by cases q) hq ((hK.2 0 _ rfl).1 n1 (fun j => .int (g j))) g1 g2 g3 (by show _ ≤ (arrV _ _ _).slots.size; rw [arrV_size]; exact g4) g5 (fun i hi => by show (arrV _ _ _).slots[_]? = _; rw [arrV_read _ _ (by show _ < n0; omega)]) (by omega) (by omega) hd fun H1 L e1 z1 oq hL => ?_
  exact kk p l e R s m args below meth c tc ts Z hR C E H1 _ cells slots ls (z_Rel_set (n := M.1) (e := M.2) hk h1 e1 oq z1) ⟨by rw [z1]; exact h2.1, fun q b1 b2 => by rw [oq q (fun hc => b2 (by rw [hc]; exact z_inA o k))]; exact h2.2.1 q b1 b2, t_lL h2.2.2 (fun q hq => by rw [hL q hq]; exact z_inA o k)⟩ h3 h4
theorem zJ.copys {idx i0 : Nat} (hi0 : i0 < 3) {k : zK} {n1 : Nat} {g : Nat → Int32} {sp dp n : Int32} (ha : z_AC d idx) (hd : decode (z_cc d) pc = .ok (.invokestatic idx, 3)) (hk : z_ok M.1 k) (he : M.2 k = .inl (o.2.2.1 0, n1, .inl g)) (g1 : ¬ sp < 0) (g2 : ¬ dp < 0) (g3 : ¬ n < 0) (g4 : sp.toNatClampNeg + n.toNatClampNeg ≤ 5) (g5 : dp.toNatClampNeg + n.toNatClampNeg ≤ n1) (hfr : 1 ≤ z_fr d) (hlc : (st.map fun v => v.category).sum + (nativeFrameWords "java/lang/System" "arraycopy" 5 + 11) ≤ z_lo d)
    (kk : zJ o d (pc + 3) lv st (M.1, z_up M.2 k (.inl (o.2.2.1 0, n1, .inl (va_cpy (z_st i0) g sp.toNatClampNeg dp.toNatClampNeg n.toNatClampNeg)))) mc ms Q) : zJ o d pc lv (.int n :: .int dp :: .ref (z_adr o k) :: .int sp :: .ref (o.2.2.2.1 i0) :: st) M mc ms Q := by
  intro p l e R s m args below meth c tc ts Z hR C E H locs cells slots ls h1 h2 h3 h4
  obtain ⟨hx, hb, hrt, hml, hown, hlk, hnm, ⟨hK, hT⟩, hX, hf, hlo, hz⟩ := id C
  obtain ⟨cell, b1, b2, b3, b4, b5, b6, b7⟩ := (hX.2 i0 hi0).2
  have hq := h1.1 (z_lay k) (z_adr o k, .inl (o.2.2.1 0, n1, .inl g)) (by rw [z_ws_get hk, he])
  refine z_copyW (f := z_st i0) (g := g) (cs := cell) hx hb (hml.trans h3.1.symm) hown (z_use hT ha.1 rfl rfl) (z_use hT ha.2.1 rfl rfl) (z_use hT ha.2.2.1 rfl rfl) (z_use hT ha.2.2.2 rfl rfl) (by rw [h2.2.1 _ (Array.getElem?_eq_some_iff.mp b1).1 b7]; exact b1) b2 b3 hq ((hK.2 0 _ rfl).1 n1 (fun j => .int (g j))) g1 g2 g3 (by omega) g5 (fun i hi => b6 _ (by omega)) (by omega) (by omega) hd fun H1 L e1 z1 oq hL => ?_
  exact kk p l e R s m args below meth c tc ts Z hR C E H1 _ cells slots ls (z_Rel_set (n := M.1) (e := M.2) hk h1 e1 oq z1) ⟨by rw [z1]; exact h2.1, fun q b1 b2 => by rw [oq q (fun hc => b2 (by rw [hc]; exact z_inA o k))]; exact h2.2.1 q b1 b2, t_lL h2.2.2 (fun q hq => by rw [hL q hq]; exact z_inA o k)⟩ h3 h4

end ZR
