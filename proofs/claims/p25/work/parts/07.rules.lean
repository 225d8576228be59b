section ZR
variable {o : zW} {d : zD} {pc : Nat} {lv lv' : List (Nat × Value)} {st : List Value} {M : zM} {mc ms : Nat} {Q : Option Value → zM → Prop}

theorem zJ.iconst {n : Int} {v : Int32} (hd : decode (z_cc d) pc = .ok (.iconst n, 1)) (hv : Int32.ofInt n = v) (k : zJ o d (pc + 1) lv (.int v :: st) M mc ms Q) : zJ o d pc lv st M mc ms Q := by
  intro p l e R s m args below meth c tc ts Z hR C E H locs cells slots ls h1 h2 h3 h4
  exact lv_iconst C.1 C.2.1 hd hv (k p l e R s m args below meth c tc ts Z hR C E H locs cells slots ls h1 h2 h3 h4)
theorem zJ.bipush {n : Int} {v : Int32} (hd : decode (z_cc d) pc = .ok (.bipush n, 2)) (hv : (Int8.ofInt n).toInt32 = v) (k : zJ o d (pc + 2) lv (.int v :: st) M mc ms Q) : zJ o d pc lv st M mc ms Q := by
  intro p l e R s m args below meth c tc ts Z hR C E H locs cells slots ls h1 h2 h3 h4
  exact lv_bipush C.1 C.2.1 hd hv (k p l e R s m args below meth c tc ts Z hR C E H locs cells slots ls h1 h2 h3 h4)
theorem zJ.sipush {n : Int} {v : Int32} (hd : decode (z_cc d) pc = .ok (.sipush n, 3)) (hv : (Int16.ofInt n).toInt32 = v) (k : zJ o d (pc + 3) lv (.int v :: st) M mc ms Q) : zJ o d pc lv st M mc ms Q := by
  intro p l e R s m args below meth c tc ts Z hR C E H locs cells slots ls h1 h2 h3 h4
  exact lv_sipush C.1 C.2.1 hd hv (k p l e R s m args below meth c tc ts Z hR C E H locs cells slots ls h1 h2 h3 h4)
theorem zJ.lconst {n : Fin 2} {v : Int64} (hd : decode (z_cc d) pc = .ok (.lconst n, 1)) (hv : Int64.ofNat (n : Nat) = v) (k : zJ o d (pc + 1) lv (.long v :: st) M mc ms Q) : zJ o d pc lv st M mc ms Q := by
  intro p l e R s m args below meth c tc ts Z hR C E H locs cells slots ls h1 h2 h3 h4
  exact lv_lconst C.1 C.2.1 hd hv (k p l e R s m args below meth c tc ts Z hR C E H locs cells slots ls h1 h2 h3 h4)
theorem zJ.fconst0  (hd : decode (z_cc d) pc = .ok (.fconst 0, 1)) (k : zJ o d (pc + 1) lv (.float FP.fconst0 :: st) M mc ms Q) : zJ o d pc lv st M mc ms Q := by
  intro p l e R s m args below meth c tc ts Z hR C E H locs cells slots ls h1 h2 h3 h4
  exact lv_fconst0 C.1 C.2.1 hd (k p l e R s m args below meth c tc ts Z hR C E H locs cells slots ls h1 h2 h3 h4)
theorem zJ.fconst1  (hd : decode (z_cc d) pc = .ok (.fconst 1, 1)) (k : zJ o d (pc + 1) lv (.float FP.fconst1 :: st) M mc ms Q) : zJ o d pc lv st M mc ms Q := by
  intro p l e R s m args below meth c tc ts Z hR C E H locs cells slots ls h1 h2 h3 h4
  exact lv_fconst1 C.1 C.2.1 hd (k p l e R s m args below meth c tc ts Z hR C E H locs cells slots ls h1 h2 h3 h4)
theorem zJ.fconst2  (hd : decode (z_cc d) pc = .ok (.fconst 2, 1)) (k : zJ o d (pc + 1) lv (.float FP.fconst2 :: st) M mc ms Q) : zJ o d pc lv st M mc ms Q := by
  intro p l e R s m args below meth c tc ts Z hR C E H locs cells slots ls h1 h2 h3 h4
  exact lv_fconst2 C.1 C.2.1 hd (k p l e R s m args below meth c tc ts Z hR C E H locs cells slots ls h1 h2 h3 h4)
theorem zJ.dconst0  (hd : decode (z_cc d) pc = .ok (.dconst 0, 1)) (k : zJ o d (pc + 1) lv (.double FP.dconst0 :: st) M mc ms Q) : zJ o d pc lv st M mc ms Q := by
  intro p l e R s m args below meth c tc ts Z hR C E H locs cells slots ls h1 h2 h3 h4
  exact lv_dconst0 C.1 C.2.1 hd (k p l e R s m args below meth c tc ts Z hR C E H locs cells slots ls h1 h2 h3 h4)
theorem zJ.dconst1  (hd : decode (z_cc d) pc = .ok (.dconst 1, 1)) (k : zJ o d (pc + 1) lv (.double FP.dconst1 :: st) M mc ms Q) : zJ o d pc lv st M mc ms Q := by
  intro p l e R s m args below meth c tc ts Z hR C E H locs cells slots ls h1 h2 h3 h4
  exact lv_dconst1 C.1 C.2.1 hd (k p l e R s m args below meth c tc ts Z hR C E H locs cells slots ls h1 h2 h3 h4)
theorem zJ.null  (hd : decode (z_cc d) pc = .ok (.aconst_null, 1)) (k : zJ o d (pc + 1) lv (.null :: st) M mc ms Q) : zJ o d pc lv st M mc ms Q := by
  intro p l e R s m args below meth c tc ts Z hR C E H locs cells slots ls h1 h2 h3 h4
  exact lv_null C.1 C.2.1 hd (k p l e R s m args below meth c tc ts Z hR C E H locs cells slots ls h1 h2 h3 h4)
theorem zJ.iload_n {k : Fin 4} {i : Nat} {x : Int32} (j : Nat) (hd : decode (z_cc d) pc = .ok (.iload_n k, 1)) (hi : (k : Nat) = i) (hl : lv[j]? = some (i, .int x)) (k : zJ o d (pc + 1) lv (.int x :: st) M mc ms Q) : zJ o d pc lv st M mc ms Q := by
  intro p l e R s m args below meth c tc ts Z hR C E H locs cells slots ls h1 h2 h3 h4
  exact lv_iload_n C.1 C.2.1 hd hi (lv_at h3 j hl) (k p l e R s m args below meth c tc ts Z hR C E H locs cells slots ls h1 h2 h3 h4)
theorem zJ.iload {i : Nat} {x : Int32} (j : Nat) (hd : decode (z_cc d) pc = .ok (.iload i, 2)) (hl : lv[j]? = some (i, .int x)) (k : zJ o d (pc + 2) lv (.int x :: st) M mc ms Q) : zJ o d pc lv st M mc ms Q := by
  intro p l e R s m args below meth c tc ts Z hR C E H locs cells slots ls h1 h2 h3 h4
  exact lv_iload C.1 C.2.1 hd (lv_at h3 j hl) (k p l e R s m args below meth c tc ts Z hR C E H locs cells slots ls h1 h2 h3 h4)
theorem zJ.istore_n {k : Fin 4} {i : Nat} {x : Int32} (hd : decode (z_cc d) pc = .ok (.istore_n k, 1)) (hi : (k : Nat) = i) (hn : i < z_nl d) (hl : (i, Value.int x) :: lv.filter (fun q => !(q.1 == i) && !(q.1 + 1 == i && q.2.category == 2)) = lv') (kk : zJ o d (pc + 1) lv' st M mc ms Q) : zJ o d pc lv (.int x :: st) M mc ms Q := by
  intro p l e R s m args below meth c tc ts Z hR C E H locs cells slots ls h1 h2 h3 h4
  exact lv_istore_n C.1 C.2.1 hd hi h3 hn hl (fun ls h3 => kk p l e R s m args below meth c tc ts Z hR C E H locs cells slots ls h1 h2 h3 h4)
theorem zJ.istore {i : Nat} {x : Int32} (hd : decode (z_cc d) pc = .ok (.istore i, 2))  (hn : i < z_nl d) (hl : (i, Value.int x) :: lv.filter (fun q => !(q.1 == i) && !(q.1 + 1 == i && q.2.category == 2)) = lv') (kk : zJ o d (pc + 2) lv' st M mc ms Q) : zJ o d pc lv (.int x :: st) M mc ms Q := by
  intro p l e R s m args below meth c tc ts Z hR C E H locs cells slots ls h1 h2 h3 h4
  exact lv_istore C.1 C.2.1 hd h3 hn hl (fun ls h3 => kk p l e R s m args below meth c tc ts Z hR C E H locs cells slots ls h1 h2 h3 h4)
theorem zJ.lload_n {k : Fin 4} {i : Nat} {x : Int64} (j : Nat) (hd : decode (z_cc d) pc = .ok (.lload_n k, 1)) (hi : (k : Nat) = i) (hl : lv[j]? = some (i, .long x)) (k : zJ o d (pc + 1) lv (.long x :: st) M mc ms Q) : zJ o d pc lv st M mc ms Q := by
  intro p l e R s m args below meth c tc ts Z hR C E H locs cells slots ls h1 h2 h3 h4
  exact lv_lload_n C.1 C.2.1 hd hi (lv_at h3 j hl) (k p l e R s m args below meth c tc ts Z hR C E H locs cells slots ls h1 h2 h3 h4)
theorem zJ.lload {i : Nat} {x : Int64} (j : Nat) (hd : decode (z_cc d) pc = .ok (.lload i, 2)) (hl : lv[j]? = some (i, .long x)) (k : zJ o d (pc + 2) lv (.long x :: st) M mc ms Q) : zJ o d pc lv st M mc ms Q := by
  intro p l e R s m args below meth c tc ts Z hR C E H locs cells slots ls h1 h2 h3 h4
  exact lv_lload C.1 C.2.1 hd (lv_at h3 j hl) (k p l e R s m args below meth c tc ts Z hR C E H locs cells slots ls h1 h2 h3 h4)
theorem zJ.lstore_n {k : Fin 4} {i : Nat} {x : Int64} (hd : decode (z_cc d) pc = .ok (.lstore_n k, 1)) (hi : (k : Nat) = i) (hn : i + 1 < z_nl d) (hl : (i, Value.long x) :: lv.filter (fun q => !(q.1 == i) && (!(q.1 == i + 1) && !(q.1 + 1 == i && q.2.category == 2))) = lv') (kk : zJ o d (pc + 1) lv' st M mc ms Q) : zJ o d pc lv (.long x :: st) M mc ms Q := by
  intro p l e R s m args below meth c tc ts Z hR C E H locs cells slots ls h1 h2 h3 h4
  exact lv_lstore_n C.1 C.2.1 hd hi h3 hn hl (fun ls h3 => kk p l e R s m args below meth c tc ts Z hR C E H locs cells slots ls h1 h2 h3 h4)
theorem zJ.lstore {i : Nat} {x : Int64} (hd : decode (z_cc d) pc = .ok (.lstore i, 2))  (hn : i + 1 < z_nl d) (hl : (i, Value.long x) :: lv.filter (fun q => !(q.1 == i) && (!(q.1 == i + 1) && !(q.1 + 1 == i && q.2.category == 2))) = lv') (kk : zJ o d (pc + 2) lv' st M mc ms Q) : zJ o d pc lv (.long x :: st) M mc ms Q := by
  intro p l e R s m args below meth c tc ts Z hR C E H locs cells slots ls h1 h2 h3 h4
  exact lv_lstore C.1 C.2.1 hd h3 hn hl (fun ls h3 => kk p l e R s m args below meth c tc ts Z hR C E H locs cells slots ls h1 h2 h3 h4)
theorem zJ.fload_n {k : Fin 4} {i : Nat} {x : UInt32} (j : Nat) (hd : decode (z_cc d) pc = .ok (.fload_n k, 1)) (hi : (k : Nat) = i) (hl : lv[j]? = some (i, .float x)) (k : zJ o d (pc + 1) lv (.float x :: st) M mc ms Q) : zJ o d pc lv st M mc ms Q := by
  intro p l e R s m args below meth c tc ts Z hR C E H locs cells slots ls h1 h2 h3 h4
  exact lv_fload_n C.1 C.2.1 hd hi (lv_at h3 j hl) (k p l e R s m args below meth c tc ts Z hR C E H locs cells slots ls h1 h2 h3 h4)
theorem zJ.fload {i : Nat} {x : UInt32} (j : Nat) (hd : decode (z_cc d) pc = .ok (.fload i, 2)) (hl : lv[j]? = some (i, .float x)) (k : zJ o d (pc + 2) lv (.float x :: st) M mc ms Q) : zJ o d pc lv st M mc ms Q := by
  intro p l e R s m args below meth c tc ts Z hR C E H locs cells slots ls h1 h2 h3 h4
  exact lv_fload C.1 C.2.1 hd (lv_at h3 j hl) (k p l e R s m args below meth c tc ts Z hR C E H locs cells slots ls h1 h2 h3 h4)
theorem zJ.fstore_n {k : Fin 4} {i : Nat} {x : UInt32} (hd : decode (z_cc d) pc = .ok (.fstore_n k, 1)) (hi : (k : Nat) = i) (hn : i < z_nl d) (hl : (i, Value.float x) :: lv.filter (fun q => !(q.1 == i) && !(q.1 + 1 == i && q.2.category == 2)) = lv') (kk : zJ o d (pc + 1) lv' st M mc ms Q) : zJ o d pc lv (.float x :: st) M mc ms Q := by
  intro p l e R s m args below meth c tc ts Z hR C E H locs cells slots ls h1 h2 h3 h4
  exact lv_fstore_n C.1 C.2.1 hd hi h3 hn hl (fun ls h3 => kk p l e R s m args below meth c tc ts Z hR C E H locs cells slots ls h1 h2 h3 h4)
theorem zJ.fstore {i : Nat} {x : UInt32} (hd : decode (z_cc d) pc = .ok (.fstore i, 2))  (hn : i < z_nl d) (hl : (i, Value.float x) :: lv.filter (fun q => !(q.1 == i) && !(q.1 + 1 == i && q.2.category == 2)) = lv') (kk : zJ o d (pc + 2) lv' st M mc ms Q) : zJ o d pc lv (.float x :: st) M mc ms Q := by
  intro p l e R s m args below meth c tc ts Z hR C E H locs cells slots ls h1 h2 h3 h4
  exact lv_fstore C.1 C.2.1 hd h3 hn hl (fun ls h3 => kk p l e R s m args below meth c tc ts Z hR C E H locs cells slots ls h1 h2 h3 h4)
theorem zJ.dload_n {k : Fin 4} {i : Nat} {x : UInt64} (j : Nat) (hd : decode (z_cc d) pc = .ok (.dload_n k, 1)) (hi : (k : Nat) = i) (hl : lv[j]? = some (i, .double x)) (k : zJ o d (pc + 1) lv (.double x :: st) M mc ms Q) : zJ o d pc lv st M mc ms Q := by
  intro p l e R s m args below meth c tc ts Z hR C E H locs cells slots ls h1 h2 h3 h4
  exact lv_dload_n C.1 C.2.1 hd hi (lv_at h3 j hl) (k p l e R s m args below meth c tc ts Z hR C E H locs cells slots ls h1 h2 h3 h4)
theorem zJ.dload {i : Nat} {x : UInt64} (j : Nat) (hd : decode (z_cc d) pc = .ok (.dload i, 2)) (hl : lv[j]? = some (i, .double x)) (k : zJ o d (pc + 2) lv (.double x :: st) M mc ms Q) : zJ o d pc lv st M mc ms Q := by
  intro p l e R s m args below meth c tc ts Z hR C E H locs cells slots ls h1 h2 h3 h4
  exact lv_dload C.1 C.2.1 hd (lv_at h3 j hl) (k p l e R s m args below meth c tc ts Z hR C E H locs cells slots ls h1 h2 h3 h4)
theorem zJ.dstore_n {k : Fin 4} {i : Nat} {x : UInt64} (hd : decode (z_cc d) pc = .ok (.dstore_n k, 1)) (hi : (k : Nat) = i) (hn : i + 1 < z_nl d) (hl : (i, Value.double x) :: lv.filter (fun q => !(q.1 == i) && (!(q.1 == i + 1) && !(q.1 + 1 == i && q.2.category == 2))) = lv') (kk : zJ o d (pc + 1) lv' st M mc ms Q) : zJ o d pc lv (.double x :: st) M mc ms Q := by
  intro p l e R s m args below meth c tc ts Z hR C E H locs cells slots ls h1 h2 h3 h4
  exact lv_dstore_n C.1 C.2.1 hd hi h3 hn hl (fun ls h3 => kk p l e R s m args below meth c tc ts Z hR C E H locs cells slots ls h1 h2 h3 h4)
theorem zJ.dstore {i : Nat} {x : UInt64} (hd : decode (z_cc d) pc = .ok (.dstore i, 2))  (hn : i + 1 < z_nl d) (hl : (i, Value.double x) :: lv.filter (fun q => !(q.1 == i) && (!(q.1 == i + 1) && !(q.1 + 1 == i && q.2.category == 2))) = lv') (kk : zJ o d (pc + 2) lv' st M mc ms Q) : zJ o d pc lv (.double x :: st) M mc ms Q := by
  intro p l e R s m args below meth c tc ts Z hR C E H locs cells slots ls h1 h2 h3 h4
  exact lv_dstore C.1 C.2.1 hd h3 hn hl (fun ls h3 => kk p l e R s m args below meth c tc ts Z hR C E H locs cells slots ls h1 h2 h3 h4)
theorem zJ.aload_n {k : Fin 4} {i : Nat} {x : Nat} (j : Nat) (hd : decode (z_cc d) pc = .ok (.aload_n k, 1)) (hi : (k : Nat) = i) (hl : lv[j]? = some (i, .ref x)) (k : zJ o d (pc + 1) lv (.ref x :: st) M mc ms Q) : zJ o d pc lv st M mc ms Q := by
  intro p l e R s m args below meth c tc ts Z hR C E H locs cells slots ls h1 h2 h3 h4
  exact lv_aload_n C.1 C.2.1 hd hi (lv_at h3 j hl) (k p l e R s m args below meth c tc ts Z hR C E H locs cells slots ls h1 h2 h3 h4)
theorem zJ.aload {i : Nat} {x : Nat} (j : Nat) (hd : decode (z_cc d) pc = .ok (.aload i, 2)) (hl : lv[j]? = some (i, .ref x)) (k : zJ o d (pc + 2) lv (.ref x :: st) M mc ms Q) : zJ o d pc lv st M mc ms Q := by
  intro p l e R s m args below meth c tc ts Z hR C E H locs cells slots ls h1 h2 h3 h4
  exact lv_aload C.1 C.2.1 hd (lv_at h3 j hl) (k p l e R s m args below meth c tc ts Z hR C E H locs cells slots ls h1 h2 h3 h4)
theorem zJ.astore_n {k : Fin 4} {i : Nat} {x : Nat} (hd : decode (z_cc d) pc = .ok (.astore_n k, 1)) (hi : (k : Nat) = i) (hn : i < z_nl d) (hl : (i, Value.ref x) :: lv.filter (fun q => !(q.1 == i) && !(q.1 + 1 == i && q.2.category == 2)) = lv') (kk : zJ o d (pc + 1) lv' st M mc ms Q) : zJ o d pc lv (.ref x :: st) M mc ms Q := by
  intro p l e R s m args below meth c tc ts Z hR C E H locs cells slots ls h1 h2 h3 h4
  exact lv_astore_n C.1 C.2.1 hd hi h3 hn hl (fun ls h3 => kk p l e R s m args below meth c tc ts Z hR C E H locs cells slots ls h1 h2 h3 h4)
theorem zJ.astore {i : Nat} {x : Nat} (hd : decode (z_cc d) pc = .ok (.astore i, 2))  (hn : i < z_nl d) (hl : (i, Value.ref x) :: lv.filter (fun q => !(q.1 == i) && !(q.1 + 1 == i && q.2.category == 2)) = lv') (kk : zJ o d (pc + 2) lv' st M mc ms Q) : zJ o d pc lv (.ref x :: st) M mc ms Q := by
  intro p l e R s m args below meth c tc ts Z hR C E H locs cells slots ls h1 h2 h3 h4
  exact lv_astore C.1 C.2.1 hd h3 hn hl (fun ls h3 => kk p l e R s m args below meth c tc ts Z hR C E H locs cells slots ls h1 h2 h3 h4)
theorem zJ.aloadq_n {k : Fin 4} {i : Nat} {x : Option Nat} (j : Nat) (hd : decode (z_cc d) pc = .ok (.aload_n k, 1)) (hi : (k : Nat) = i) (hl : lv[j]? = some (i, va_rf x)) (kk : zJ o d (pc + 1) lv (va_rf x :: st) M mc ms Q) : zJ o d pc lv st M mc ms Q := by
  cases x with
  | none =>
    intro p l e R s m args below meth c tc ts Z hR C E H locs cells slots ls h1 h2 h3 h4
    exact lv_aload_nN C.1 C.2.1 hd hi (lv_at h3 j hl) (kk p l e R s m args below meth c tc ts Z hR C E H locs cells slots ls h1 h2 h3 h4)
  | some a => exact zJ.aload_n j hd hi hl kk
theorem zJ.aloadq {i : Nat} {x : Option Nat} (j : Nat) (hd : decode (z_cc d) pc = .ok (.aload i, 2))  (hl : lv[j]? = some (i, va_rf x)) (kk : zJ o d (pc + 2) lv (va_rf x :: st) M mc ms Q) : zJ o d pc lv st M mc ms Q := by
  cases x with
  | none =>
    intro p l e R s m args below meth c tc ts Z hR C E H locs cells slots ls h1 h2 h3 h4
    exact lv_aloadN C.1 C.2.1 hd (lv_at h3 j hl) (kk p l e R s m args below meth c tc ts Z hR C E H locs cells slots ls h1 h2 h3 h4)
  | some a => exact zJ.aload j hd hl kk
theorem zJ.astoreq_n {k : Fin 4} {i : Nat} {x : Option Nat} (hd : decode (z_cc d) pc = .ok (.astore_n k, 1)) (hi : (k : Nat) = i) (hn : i < z_nl d) (hl : (i, va_rf x) :: lv.filter (fun q => !(q.1 == i) && !(q.1 + 1 == i && q.2.category == 2)) = lv') (kk : zJ o d (pc + 1) lv' st M mc ms Q) : zJ o d pc lv (va_rf x :: st) M mc ms Q := by
  cases x with
  | none =>
    intro p l e R s m args below meth c tc ts Z hR C E H locs cells slots ls h1 h2 h3 h4
    exact lv_astore_nN C.1 C.2.1 hd hi h3 hn hl (fun ls h3 => kk p l e R s m args below meth c tc ts Z hR C E H locs cells slots ls h1 h2 h3 h4)
  | some a => exact zJ.astore_n hd hi hn hl kk
theorem zJ.astoreq {i : Nat} {x : Option Nat} (hd : decode (z_cc d) pc = .ok (.astore i, 2))  (hn : i < z_nl d) (hl : (i, va_rf x) :: lv.filter (fun q => !(q.1 == i) && !(q.1 + 1 == i && q.2.category == 2)) = lv') (kk : zJ o d (pc + 2) lv' st M mc ms Q) : zJ o d pc lv (va_rf x :: st) M mc ms Q := by
  cases x with
  | none =>
    intro p l e R s m args below meth c tc ts Z hR C E H locs cells slots ls h1 h2 h3 h4
    exact lv_astoreN C.1 C.2.1 hd h3 hn hl (fun ls h3 => kk p l e R s m args below meth c tc ts Z hR C E H locs cells slots ls h1 h2 h3 h4)
  | some a => exact zJ.astore hd hn hl kk
theorem zJ.ifnull {x : Option Nat} {off : Int} {tgt : Nat} (hd : decode (z_cc d) pc = .ok (.ifnull off, 3)) (ht : (pc : Int) + off = (tgt : Int)) (kt : x = none → zJ o d tgt lv st M mc ms Q) (kf : ∀ a, x = some a → zJ o d (pc + 3) lv st M mc ms Q) : zJ o d pc lv (va_rf x :: st) M mc ms Q := by
  cases x with
  | none =>
    intro p l e R s m args below meth c tc ts Z hR C E H locs cells slots ls h1 h2 h3 h4
    exact lv_ifnullN C.1 C.2.1 hd ht (kt rfl p l e R s m args below meth c tc ts Z hR C E H locs cells slots ls h1 h2 h3 h4)
  | some a =>
    intro p l e R s m args below meth c tc ts Z hR C E H locs cells slots ls h1 h2 h3 h4
    exact lv_ifnull C.1 C.2.1 hd (kf a rfl p l e R s m args below meth c tc ts Z hR C E H locs cells slots ls h1 h2 h3 h4)
theorem zJ.ifnonnull {x : Option Nat} {off : Int} {tgt : Nat} (hd : decode (z_cc d) pc = .ok (.ifnonnull off, 3)) (ht : (pc : Int) + off = (tgt : Int)) (kt : ∀ a, x = some a → zJ o d tgt lv st M mc ms Q) (kf : x = none → zJ o d (pc + 3) lv st M mc ms Q) : zJ o d pc lv (va_rf x :: st) M mc ms Q := by
  cases x with
  | none =>
    intro p l e R s m args below meth c tc ts Z hR C E H locs cells slots ls h1 h2 h3 h4
    exact lv_ifnonnullN C.1 C.2.1 hd (kf rfl p l e R s m args below meth c tc ts Z hR C E H locs cells slots ls h1 h2 h3 h4)
  | some a =>
    intro p l e R s m args below meth c tc ts Z hR C E H locs cells slots ls h1 h2 h3 h4
    exact lv_ifnonnull C.1 C.2.1 hd ht (kt a rfl p l e R s m args below meth c tc ts Z hR C E H locs cells slots ls h1 h2 h3 h4)
theorem zJ.iinc {i k : Nat} {n : Int} {x v : Int32} (hd : decode (z_cc d) pc = .ok (.iinc i n, 3)) (hk : lv[k]? = some (i, .int x)) (hv : x + Int32.ofInt n = v) (hn : i < z_nl d) (hl : (i, Value.int v) :: lv.filter (fun q => !(q.1 == i) && !(q.1 + 1 == i && q.2.category == 2)) = lv') (kk : zJ o d (pc + 3) lv' st M mc ms Q) : zJ o d pc lv st M mc ms Q := by
  intro p l e R s m args below meth c tc ts Z hR C E H locs cells slots ls h1 h2 h3 h4
  exact lv_iinc C.1 C.2.1 hd h3 hk hv hn hl (fun ls h3 => kk p l e R s m args below meth c tc ts Z hR C E H locs cells slots ls h1 h2 h3 h4)
theorem zJ.iadd {x y : Int32} (hd : decode (z_cc d) pc = .ok (.iadd, 1)) (k : zJ o d (pc + 1) lv (.int (x + y) :: st) M mc ms Q) : zJ o d pc lv (.int y :: .int x :: st) M mc ms Q := by
  intro p l e R s m args below meth c tc ts Z hR C E H locs cells slots ls h1 h2 h3 h4
  exact lv_iadd C.1 C.2.1 hd (k p l e R s m args below meth c tc ts Z hR C E H locs cells slots ls h1 h2 h3 h4)
theorem zJ.isub {x y : Int32} (hd : decode (z_cc d) pc = .ok (.isub, 1)) (k : zJ o d (pc + 1) lv (.int (x - y) :: st) M mc ms Q) : zJ o d pc lv (.int y :: .int x :: st) M mc ms Q := by
  intro p l e R s m args below meth c tc ts Z hR C E H locs cells slots ls h1 h2 h3 h4
  exact lv_isub C.1 C.2.1 hd (k p l e R s m args below meth c tc ts Z hR C E H locs cells slots ls h1 h2 h3 h4)
theorem zJ.imul {x y : Int32} (hd : decode (z_cc d) pc = .ok (.imul, 1)) (k : zJ o d (pc + 1) lv (.int (x * y) :: st) M mc ms Q) : zJ o d pc lv (.int y :: .int x :: st) M mc ms Q := by
  intro p l e R s m args below meth c tc ts Z hR C E H locs cells slots ls h1 h2 h3 h4
  exact lv_imul C.1 C.2.1 hd (k p l e R s m args below meth c tc ts Z hR C E H locs cells slots ls h1 h2 h3 h4)
theorem zJ.iand {x y : Int32} (hd : decode (z_cc d) pc = .ok (.iand, 1)) (k : zJ o d (pc + 1) lv (.int (x &&& y) :: st) M mc ms Q) : zJ o d pc lv (.int y :: .int x :: st) M mc ms Q := by
  intro p l e R s m args below meth c tc ts Z hR C E H locs cells slots ls h1 h2 h3 h4
  exact lv_iand C.1 C.2.1 hd (k p l e R s m args below meth c tc ts Z hR C E H locs cells slots ls h1 h2 h3 h4)
theorem zJ.ior {x y : Int32} (hd : decode (z_cc d) pc = .ok (.ior, 1)) (k : zJ o d (pc + 1) lv (.int (x ||| y) :: st) M mc ms Q) : zJ o d pc lv (.int y :: .int x :: st) M mc ms Q := by
  intro p l e R s m args below meth c tc ts Z hR C E H locs cells slots ls h1 h2 h3 h4
  exact lv_ior C.1 C.2.1 hd (k p l e R s m args below meth c tc ts Z hR C E H locs cells slots ls h1 h2 h3 h4)
theorem zJ.ishl {x y : Int32} (hd : decode (z_cc d) pc = .ok (.ishl, 1)) (k : zJ o d (pc + 1) lv (.int (x <<< (y &&& 31)) :: st) M mc ms Q) : zJ o d pc lv (.int y :: .int x :: st) M mc ms Q := by
  intro p l e R s m args below meth c tc ts Z hR C E H locs cells slots ls h1 h2 h3 h4
  exact lv_ishl C.1 C.2.1 hd (k p l e R s m args below meth c tc ts Z hR C E H locs cells slots ls h1 h2 h3 h4)
theorem zJ.ishr {x y : Int32} (hd : decode (z_cc d) pc = .ok (.ishr, 1)) (k : zJ o d (pc + 1) lv (.int (x >>> (y &&& 31)) :: st) M mc ms Q) : zJ o d pc lv (.int y :: .int x :: st) M mc ms Q := by
  intro p l e R s m args below meth c tc ts Z hR C E H locs cells slots ls h1 h2 h3 h4
  exact lv_ishr C.1 C.2.1 hd (k p l e R s m args below meth c tc ts Z hR C E H locs cells slots ls h1 h2 h3 h4)
theorem zJ.idiv {x y : Int32} (hd : decode (z_cc d) pc = .ok (.idiv, 1)) (hne : ¬ y = 0) (k : zJ o d (pc + 1) lv (.int (x / y) :: st) M mc ms Q) : zJ o d pc lv (.int y :: .int x :: st) M mc ms Q := by
  intro p l e R s m args below meth c tc ts Z hR C E H locs cells slots ls h1 h2 h3 h4
  exact lv_idiv C.1 C.2.1 hd hne (k p l e R s m args below meth c tc ts Z hR C E H locs cells slots ls h1 h2 h3 h4)
theorem zJ.irem {x y : Int32} (hd : decode (z_cc d) pc = .ok (.irem, 1)) (hne : ¬ y = 0) (k : zJ o d (pc + 1) lv (.int (x - x / y * y) :: st) M mc ms Q) : zJ o d pc lv (.int y :: .int x :: st) M mc ms Q := by
  intro p l e R s m args below meth c tc ts Z hR C E H locs cells slots ls h1 h2 h3 h4
  exact lv_irem C.1 C.2.1 hd hne (k p l e R s m args below meth c tc ts Z hR C E H locs cells slots ls h1 h2 h3 h4)
theorem zJ.ladd {x y : Int64} (hd : decode (z_cc d) pc = .ok (.ladd, 1)) (k : zJ o d (pc + 1) lv (.long (x + y) :: st) M mc ms Q) : zJ o d pc lv (.long y :: .long x :: st) M mc ms Q := by
  intro p l e R s m args below meth c tc ts Z hR C E H locs cells slots ls h1 h2 h3 h4
  exact lv_ladd C.1 C.2.1 hd (k p l e R s m args below meth c tc ts Z hR C E H locs cells slots ls h1 h2 h3 h4)
theorem zJ.lsub {x y : Int64} (hd : decode (z_cc d) pc = .ok (.lsub, 1)) (k : zJ o d (pc + 1) lv (.long (x - y) :: st) M mc ms Q) : zJ o d pc lv (.long y :: .long x :: st) M mc ms Q := by
  intro p l e R s m args below meth c tc ts Z hR C E H locs cells slots ls h1 h2 h3 h4
  exact lv_lsub C.1 C.2.1 hd (k p l e R s m args below meth c tc ts Z hR C E H locs cells slots ls h1 h2 h3 h4)
theorem zJ.lmul {x y : Int64} (hd : decode (z_cc d) pc = .ok (.lmul, 1)) (k : zJ o d (pc + 1) lv (.long (x * y) :: st) M mc ms Q) : zJ o d pc lv (.long y :: .long x :: st) M mc ms Q := by
  intro p l e R s m args below meth c tc ts Z hR C E H locs cells slots ls h1 h2 h3 h4
  exact lv_lmul C.1 C.2.1 hd (k p l e R s m args below meth c tc ts Z hR C E H locs cells slots ls h1 h2 h3 h4)
theorem zJ.lor {x y : Int64} (hd : decode (z_cc d) pc = .ok (.lor, 1)) (k : zJ o d (pc + 1) lv (.long (x ||| y) :: st) M mc ms Q) : zJ o d pc lv (.long y :: .long x :: st) M mc ms Q := by
  intro p l e R s m args below meth c tc ts Z hR C E H locs cells slots ls h1 h2 h3 h4
  exact lv_lor C.1 C.2.1 hd (k p l e R s m args below meth c tc ts Z hR C E H locs cells slots ls h1 h2 h3 h4)
theorem zJ.ldiv {x y : Int64} (hd : decode (z_cc d) pc = .ok (.ldiv, 1)) (hne : ¬ y = 0) (k : zJ o d (pc + 1) lv (.long (x / y) :: st) M mc ms Q) : zJ o d pc lv (.long y :: .long x :: st) M mc ms Q := by
  intro p l e R s m args below meth c tc ts Z hR C E H locs cells slots ls h1 h2 h3 h4
  exact lv_ldiv C.1 C.2.1 hd hne (k p l e R s m args below meth c tc ts Z hR C E H locs cells slots ls h1 h2 h3 h4)
theorem zJ.lrem {x y : Int64} (hd : decode (z_cc d) pc = .ok (.lrem, 1)) (hne : ¬ y = 0) (k : zJ o d (pc + 1) lv (.long (x - x / y * y) :: st) M mc ms Q) : zJ o d pc lv (.long y :: .long x :: st) M mc ms Q := by
  intro p l e R s m args below meth c tc ts Z hR C E H locs cells slots ls h1 h2 h3 h4
  exact lv_lrem C.1 C.2.1 hd hne (k p l e R s m args below meth c tc ts Z hR C E H locs cells slots ls h1 h2 h3 h4)
theorem zJ.lshl {x : Int64} {y : Int32} (hd : decode (z_cc d) pc = .ok (.lshl, 1)) (k : zJ o d (pc + 1) lv (.long (x <<< (y.toInt64 &&& 63)) :: st) M mc ms Q) : zJ o d pc lv (.int y :: .long x :: st) M mc ms Q := by
  intro p l e R s m args below meth c tc ts Z hR C E H locs cells slots ls h1 h2 h3 h4
  exact lv_lshl C.1 C.2.1 hd rfl (k p l e R s m args below meth c tc ts Z hR C E H locs cells slots ls h1 h2 h3 h4)
theorem zJ.i2l {x : Int32} (hd : decode (z_cc d) pc = .ok (.i2l, 1)) (k : zJ o d (pc + 1) lv (.long x.toInt64 :: st) M mc ms Q) : zJ o d pc lv (.int x :: st) M mc ms Q := by
  intro p l e R s m args below meth c tc ts Z hR C E H locs cells slots ls h1 h2 h3 h4
  exact lv_i2l C.1 C.2.1 hd rfl (k p l e R s m args below meth c tc ts Z hR C E H locs cells slots ls h1 h2 h3 h4)
theorem zJ.l2i {x : Int64} (hd : decode (z_cc d) pc = .ok (.l2i, 1)) (k : zJ o d (pc + 1) lv (.int x.toInt32 :: st) M mc ms Q) : zJ o d pc lv (.long x :: st) M mc ms Q := by
  intro p l e R s m args below meth c tc ts Z hR C E H locs cells slots ls h1 h2 h3 h4
  exact lv_l2i C.1 C.2.1 hd rfl (k p l e R s m args below meth c tc ts Z hR C E H locs cells slots ls h1 h2 h3 h4)
theorem zJ.i2f {x : Int32} (hd : decode (z_cc d) pc = .ok (.i2f, 1)) (k : zJ o d (pc + 1) lv (.float (FP.i2f x) :: st) M mc ms Q) : zJ o d pc lv (.int x :: st) M mc ms Q := by
  intro p l e R s m args below meth c tc ts Z hR C E H locs cells slots ls h1 h2 h3 h4
  exact lv_i2f C.1 C.2.1 hd (k p l e R s m args below meth c tc ts Z hR C E H locs cells slots ls h1 h2 h3 h4)
theorem zJ.l2f {x : Int64} (hd : decode (z_cc d) pc = .ok (.l2f, 1)) (k : zJ o d (pc + 1) lv (.float (FP.l2f x) :: st) M mc ms Q) : zJ o d pc lv (.long x :: st) M mc ms Q := by
  intro p l e R s m args below meth c tc ts Z hR C E H locs cells slots ls h1 h2 h3 h4
  exact lv_l2f C.1 C.2.1 hd (k p l e R s m args below meth c tc ts Z hR C E H locs cells slots ls h1 h2 h3 h4)
theorem zJ.f2i {x : UInt32} (hd : decode (z_cc d) pc = .ok (.f2i, 1)) (k : zJ o d (pc + 1) lv (.int (FP.f2i x) :: st) M mc ms Q) : zJ o d pc lv (.float x :: st) M mc ms Q := by
  intro p l e R s m args below meth c tc ts Z hR C E H locs cells slots ls h1 h2 h3 h4
  exact lv_f2i C.1 C.2.1 hd (k p l e R s m args below meth c tc ts Z hR C E H locs cells slots ls h1 h2 h3 h4)
theorem zJ.i2d {x : Int32} (hd : decode (z_cc d) pc = .ok (.i2d, 1)) (k : zJ o d (pc + 1) lv (.double (FP.i2d x) :: st) M mc ms Q) : zJ o d pc lv (.int x :: st) M mc ms Q := by
  intro p l e R s m args below meth c tc ts Z hR C E H locs cells slots ls h1 h2 h3 h4
  exact lv_i2d C.1 C.2.1 hd (k p l e R s m args below meth c tc ts Z hR C E H locs cells slots ls h1 h2 h3 h4)
theorem zJ.l2d {x : Int64} (hd : decode (z_cc d) pc = .ok (.l2d, 1)) (k : zJ o d (pc + 1) lv (.double (FP.l2d x) :: st) M mc ms Q) : zJ o d pc lv (.long x :: st) M mc ms Q := by
  intro p l e R s m args below meth c tc ts Z hR C E H locs cells slots ls h1 h2 h3 h4
  exact lv_l2d C.1 C.2.1 hd (k p l e R s m args below meth c tc ts Z hR C E H locs cells slots ls h1 h2 h3 h4)
theorem zJ.d2l {x : UInt64} (hd : decode (z_cc d) pc = .ok (.d2l, 1)) (k : zJ o d (pc + 1) lv (.long (FP.d2l x) :: st) M mc ms Q) : zJ o d pc lv (.double x :: st) M mc ms Q := by
  intro p l e R s m args below meth c tc ts Z hR C E H locs cells slots ls h1 h2 h3 h4
  exact lv_d2l C.1 C.2.1 hd (k p l e R s m args below meth c tc ts Z hR C E H locs cells slots ls h1 h2 h3 h4)
theorem zJ.fneg {x : UInt32} (hd : decode (z_cc d) pc = .ok (.fneg, 1)) (k : zJ o d (pc + 1) lv (.float (FP.fneg x) :: st) M mc ms Q) : zJ o d pc lv (.float x :: st) M mc ms Q := by
  intro p l e R s m args below meth c tc ts Z hR C E H locs cells slots ls h1 h2 h3 h4
  exact lv_fneg C.1 C.2.1 hd (k p l e R s m args below meth c tc ts Z hR C E H locs cells slots ls h1 h2 h3 h4)
theorem zJ.dneg {x : UInt64} (hd : decode (z_cc d) pc = .ok (.dneg, 1)) (k : zJ o d (pc + 1) lv (.double (FP.dneg x) :: st) M mc ms Q) : zJ o d pc lv (.double x :: st) M mc ms Q := by
  intro p l e R s m args below meth c tc ts Z hR C E H locs cells slots ls h1 h2 h3 h4
  exact lv_dneg C.1 C.2.1 hd (k p l e R s m args below meth c tc ts Z hR C E H locs cells slots ls h1 h2 h3 h4)
theorem zJ.fadd {x y : UInt32} (hd : decode (z_cc d) pc = .ok (.fadd, 1)) (hne : vf_n32 (FP.fadd x y)) (k : zJ o d (pc + 1) lv (.float (FP.fadd x y) :: st) M mc ms Q) : zJ o d pc lv (.float y :: .float x :: st) M mc ms Q := by
  intro p l e R s m args below meth c tc ts Z hR C E H locs cells slots ls h1 h2 h3 h4
  exact lv_fadd C.1 C.2.1 hd hne (k p l e R s m args below meth c tc ts Z hR C E H locs cells slots ls h1 h2 h3 h4)
theorem zJ.fsub {x y : UInt32} (hd : decode (z_cc d) pc = .ok (.fsub, 1)) (hne : vf_n32 (FP.fsub x y)) (k : zJ o d (pc + 1) lv (.float (FP.fsub x y) :: st) M mc ms Q) : zJ o d pc lv (.float y :: .float x :: st) M mc ms Q := by
  intro p l e R s m args below meth c tc ts Z hR C E H locs cells slots ls h1 h2 h3 h4
  exact lv_fsub C.1 C.2.1 hd hne (k p l e R s m args below meth c tc ts Z hR C E H locs cells slots ls h1 h2 h3 h4)
theorem zJ.fmul {x y : UInt32} (hd : decode (z_cc d) pc = .ok (.fmul, 1)) (hne : vf_n32 (FP.fmul x y)) (k : zJ o d (pc + 1) lv (.float (FP.fmul x y) :: st) M mc ms Q) : zJ o d pc lv (.float y :: .float x :: st) M mc ms Q := by
  intro p l e R s m args below meth c tc ts Z hR C E H locs cells slots ls h1 h2 h3 h4
  exact lv_fmul C.1 C.2.1 hd hne (k p l e R s m args below meth c tc ts Z hR C E H locs cells slots ls h1 h2 h3 h4)
theorem zJ.fdiv {x y : UInt32} (hd : decode (z_cc d) pc = .ok (.fdiv, 1)) (hne : vf_n32 (FP.fdiv x y)) (k : zJ o d (pc + 1) lv (.float (FP.fdiv x y) :: st) M mc ms Q) : zJ o d pc lv (.float y :: .float x :: st) M mc ms Q := by
  intro p l e R s m args below meth c tc ts Z hR C E H locs cells slots ls h1 h2 h3 h4
  exact lv_fdiv C.1 C.2.1 hd hne (k p l e R s m args below meth c tc ts Z hR C E H locs cells slots ls h1 h2 h3 h4)
theorem zJ.dsub {x y : UInt64} (hd : decode (z_cc d) pc = .ok (.dsub, 1)) (hne : vf_n64 (FP.dsub x y)) (k : zJ o d (pc + 1) lv (.double (FP.dsub x y) :: st) M mc ms Q) : zJ o d pc lv (.double y :: .double x :: st) M mc ms Q := by
  intro p l e R s m args below meth c tc ts Z hR C E H locs cells slots ls h1 h2 h3 h4
  exact lv_dsub C.1 C.2.1 hd hne (k p l e R s m args below meth c tc ts Z hR C E H locs cells slots ls h1 h2 h3 h4)
theorem zJ.dmul {x y : UInt64} (hd : decode (z_cc d) pc = .ok (.dmul, 1)) (hne : vf_n64 (FP.dmul x y)) (k : zJ o d (pc + 1) lv (.double (FP.dmul x y) :: st) M mc ms Q) : zJ o d pc lv (.double y :: .double x :: st) M mc ms Q := by
  intro p l e R s m args below meth c tc ts Z hR C E H locs cells slots ls h1 h2 h3 h4
  exact lv_dmul C.1 C.2.1 hd hne (k p l e R s m args below meth c tc ts Z hR C E H locs cells slots ls h1 h2 h3 h4)
theorem zJ.ddiv {x y : UInt64} (hd : decode (z_cc d) pc = .ok (.ddiv, 1)) (hne : vf_n64 (FP.ddiv x y)) (k : zJ o d (pc + 1) lv (.double (FP.ddiv x y) :: st) M mc ms Q) : zJ o d pc lv (.double y :: .double x :: st) M mc ms Q := by
  intro p l e R s m args below meth c tc ts Z hR C E H locs cells slots ls h1 h2 h3 h4
  exact lv_ddiv C.1 C.2.1 hd hne (k p l e R s m args below meth c tc ts Z hR C E H locs cells slots ls h1 h2 h3 h4)
theorem zJ.fcmp {x y : UInt32} {op : CmpOp} (hd : decode (z_cc d) pc = .ok (.fcmp op, 1)) (k : zJ o d (pc + 1) lv (.int (Op.cmpValue (FP.fcmp x y) op) :: st) M mc ms Q) : zJ o d pc lv (.float y :: .float x :: st) M mc ms Q := by
  intro p l e R s m args below meth c tc ts Z hR C E H locs cells slots ls h1 h2 h3 h4
  exact lv_fcmp C.1 C.2.1 hd (k p l e R s m args below meth c tc ts Z hR C E H locs cells slots ls h1 h2 h3 h4)
theorem zJ.dcmp {x y : UInt64} {op : CmpOp} (hd : decode (z_cc d) pc = .ok (.dcmp op, 1)) (k : zJ o d (pc + 1) lv (.int (Op.cmpValue (FP.dcmp x y) op) :: st) M mc ms Q) : zJ o d pc lv (.double y :: .double x :: st) M mc ms Q := by
  intro p l e R s m args below meth c tc ts Z hR C E H locs cells slots ls h1 h2 h3 h4
  exact lv_dcmp C.1 C.2.1 hd (k p l e R s m args below meth c tc ts Z hR C E H locs cells slots ls h1 h2 h3 h4)
theorem zJ.dup {va : Value} (hd : decode (z_cc d) pc = .ok (.dup, 1)) (hva : va.category = 1) (k : zJ o d (pc + 1) lv (va :: va :: st) M mc ms Q) : zJ o d pc lv (va :: st) M mc ms Q := by
  intro p l e R s m args below meth c tc ts Z hR C E H locs cells slots ls h1 h2 h3 h4
  exact lv_dup C.1 C.2.1 hd hva (k p l e R s m args below meth c tc ts Z hR C E H locs cells slots ls h1 h2 h3 h4)
theorem zJ.pop {va : Value} (hd : decode (z_cc d) pc = .ok (.pop, 1)) (hva : va.category = 1) (k : zJ o d (pc + 1) lv st M mc ms Q) : zJ o d pc lv (va :: st) M mc ms Q := by
  intro p l e R s m args below meth c tc ts Z hR C E H locs cells slots ls h1 h2 h3 h4
  exact lv_pop C.1 C.2.1 hd hva (k p l e R s m args below meth c tc ts Z hR C E H locs cells slots ls h1 h2 h3 h4)
theorem zJ.dup2_11 {va vb : Value} (hd : decode (z_cc d) pc = .ok (.dup2, 1)) (hva : va.category = 1) (hvb : vb.category = 1) (k : zJ o d (pc + 1) lv (va :: vb :: va :: vb :: st) M mc ms Q) : zJ o d pc lv (va :: vb :: st) M mc ms Q := by
  intro p l e R s m args below meth c tc ts Z hR C E H locs cells slots ls h1 h2 h3 h4
  exact lv_dup2_11 C.1 C.2.1 hd hva hvb (k p l e R s m args below meth c tc ts Z hR C E H locs cells slots ls h1 h2 h3 h4)
theorem zJ.if_eq {x : Int32} {off : Int} {tgt : Nat} (hd : decode (z_cc d) pc = .ok (.ifCond .eq off, 3)) (ht : (pc : Int) + off = (tgt : Int)) (kt : x = 0 → zJ o d tgt lv st M mc ms Q) (kf : ¬ x = 0 → zJ o d (pc + 3) lv st M mc ms Q) : zJ o d pc lv (.int x :: st) M mc ms Q := by
  intro p l e R s m args below meth c tc ts Z hR C E H locs cells slots ls h1 h2 h3 h4
  exact lv_if_eq C.1 C.2.1 hd ht (fun q => kt q p l e R s m args below meth c tc ts Z hR C E H locs cells slots ls h1 h2 h3 h4) (fun q => kf q p l e R s m args below meth c tc ts Z hR C E H locs cells slots ls h1 h2 h3 h4)
theorem zJ.icmp_eq {x y : Int32} {off : Int} {tgt : Nat} (hd : decode (z_cc d) pc = .ok (.if_icmp .eq off, 3)) (ht : (pc : Int) + off = (tgt : Int)) (kt : x = y → zJ o d tgt lv st M mc ms Q) (kf : ¬ x = y → zJ o d (pc + 3) lv st M mc ms Q) : zJ o d pc lv (.int y :: .int x :: st) M mc ms Q := by
  intro p l e R s m args below meth c tc ts Z hR C E H locs cells slots ls h1 h2 h3 h4
  exact lv_icmp_eq C.1 C.2.1 hd ht (fun q => kt q p l e R s m args below meth c tc ts Z hR C E H locs cells slots ls h1 h2 h3 h4) (fun q => kf q p l e R s m args below meth c tc ts Z hR C E H locs cells slots ls h1 h2 h3 h4)
theorem zJ.if_ne {x : Int32} {off : Int} {tgt : Nat} (hd : decode (z_cc d) pc = .ok (.ifCond .ne off, 3)) (ht : (pc : Int) + off = (tgt : Int)) (kt : ¬ x = 0 → zJ o d tgt lv st M mc ms Q) (kf : x = 0 → zJ o d (pc + 3) lv st M mc ms Q) : zJ o d pc lv (.int x :: st) M mc ms Q := by
  intro p l e R s m args below meth c tc ts Z hR C E H locs cells slots ls h1 h2 h3 h4
  exact lv_if_ne C.1 C.2.1 hd ht (fun q => kt q p l e R s m args below meth c tc ts Z hR C E H locs cells slots ls h1 h2 h3 h4) (fun q => kf q p l e R s m args below meth c tc ts Z hR C E H locs cells slots ls h1 h2 h3 h4)
theorem zJ.icmp_ne {x y : Int32} {off : Int} {tgt : Nat} (hd : decode (z_cc d) pc = .ok (.if_icmp .ne off, 3)) (ht : (pc : Int) + off = (tgt : Int)) (kt : ¬ x = y → zJ o d tgt lv st M mc ms Q) (kf : x = y → zJ o d (pc + 3) lv st M mc ms Q) : zJ o d pc lv (.int y :: .int x :: st) M mc ms Q := by
  intro p l e R s m args below meth c tc ts Z hR C E H locs cells slots ls h1 h2 h3 h4
  exact lv_icmp_ne C.1 C.2.1 hd ht (fun q => kt q p l e R s m args below meth c tc ts Z hR C E H locs cells slots ls h1 h2 h3 h4) (fun q => kf q p l e R s m args below meth c tc ts Z hR C E H locs cells slots ls h1 h2 h3 h4)
theorem zJ.if_lt {x : Int32} {off : Int} {tgt : Nat} (hd : decode (z_cc d) pc = .ok (.ifCond .lt off, 3)) (ht : (pc : Int) + off = (tgt : Int)) (kt : x < 0 → zJ o d tgt lv st M mc ms Q) (kf : ¬ x < 0 → zJ o d (pc + 3) lv st M mc ms Q) : zJ o d pc lv (.int x :: st) M mc ms Q := by
  intro p l e R s m args below meth c tc ts Z hR C E H locs cells slots ls h1 h2 h3 h4
  exact lv_if_lt C.1 C.2.1 hd ht (fun q => kt q p l e R s m args below meth c tc ts Z hR C E H locs cells slots ls h1 h2 h3 h4) (fun q => kf q p l e R s m args below meth c tc ts Z hR C E H locs cells slots ls h1 h2 h3 h4)
theorem zJ.icmp_lt {x y : Int32} {off : Int} {tgt : Nat} (hd : decode (z_cc d) pc = .ok (.if_icmp .lt off, 3)) (ht : (pc : Int) + off = (tgt : Int)) (kt : x < y → zJ o d tgt lv st M mc ms Q) (kf : ¬ x < y → zJ o d (pc + 3) lv st M mc ms Q) : zJ o d pc lv (.int y :: .int x :: st) M mc ms Q := by
  intro p l e R s m args below meth c tc ts Z hR C E H locs cells slots ls h1 h2 h3 h4
  exact lv_icmp_lt C.1 C.2.1 hd ht (fun q => kt q p l e R s m args below meth c tc ts Z hR C E H locs cells slots ls h1 h2 h3 h4) (fun q => kf q p l e R s m args below meth c tc ts Z hR C E H locs cells slots ls h1 h2 h3 h4)
theorem zJ.if_ge {x : Int32} {off : Int} {tgt : Nat} (hd : decode (z_cc d) pc = .ok (.ifCond .ge off, 3)) (ht : (pc : Int) + off = (tgt : Int)) (kt : 0 ≤ x → zJ o d tgt lv st M mc ms Q) (kf : ¬ 0 ≤ x → zJ o d (pc + 3) lv st M mc ms Q) : zJ o d pc lv (.int x :: st) M mc ms Q := by
  intro p l e R s m args below meth c tc ts Z hR C E H locs cells slots ls h1 h2 h3 h4
  exact lv_if_ge C.1 C.2.1 hd ht (fun q => kt q p l e R s m args below meth c tc ts Z hR C E H locs cells slots ls h1 h2 h3 h4) (fun q => kf q p l e R s m args below meth c tc ts Z hR C E H locs cells slots ls h1 h2 h3 h4)
theorem zJ.icmp_ge {x y : Int32} {off : Int} {tgt : Nat} (hd : decode (z_cc d) pc = .ok (.if_icmp .ge off, 3)) (ht : (pc : Int) + off = (tgt : Int)) (kt : y ≤ x → zJ o d tgt lv st M mc ms Q) (kf : ¬ y ≤ x → zJ o d (pc + 3) lv st M mc ms Q) : zJ o d pc lv (.int y :: .int x :: st) M mc ms Q := by
  intro p l e R s m args below meth c tc ts Z hR C E H locs cells slots ls h1 h2 h3 h4
  exact lv_icmp_ge C.1 C.2.1 hd ht (fun q => kt q p l e R s m args below meth c tc ts Z hR C E H locs cells slots ls h1 h2 h3 h4) (fun q => kf q p l e R s m args below meth c tc ts Z hR C E H locs cells slots ls h1 h2 h3 h4)
theorem zJ.if_gt {x : Int32} {off : Int} {tgt : Nat} (hd : decode (z_cc d) pc = .ok (.ifCond .gt off, 3)) (ht : (pc : Int) + off = (tgt : Int)) (kt : 0 < x → zJ o d tgt lv st M mc ms Q) (kf : ¬ 0 < x → zJ o d (pc + 3) lv st M mc ms Q) : zJ o d pc lv (.int x :: st) M mc ms Q := by
  intro p l e R s m args below meth c tc ts Z hR C E H locs cells slots ls h1 h2 h3 h4
  exact lv_if_gt C.1 C.2.1 hd ht (fun q => kt q p l e R s m args below meth c tc ts Z hR C E H locs cells slots ls h1 h2 h3 h4) (fun q => kf q p l e R s m args below meth c tc ts Z hR C E H locs cells slots ls h1 h2 h3 h4)
theorem zJ.icmp_gt {x y : Int32} {off : Int} {tgt : Nat} (hd : decode (z_cc d) pc = .ok (.if_icmp .gt off, 3)) (ht : (pc : Int) + off = (tgt : Int)) (kt : y < x → zJ o d tgt lv st M mc ms Q) (kf : ¬ y < x → zJ o d (pc + 3) lv st M mc ms Q) : zJ o d pc lv (.int y :: .int x :: st) M mc ms Q := by
  intro p l e R s m args below meth c tc ts Z hR C E H locs cells slots ls h1 h2 h3 h4
  exact lv_icmp_gt C.1 C.2.1 hd ht (fun q => kt q p l e R s m args below meth c tc ts Z hR C E H locs cells slots ls h1 h2 h3 h4) (fun q => kf q p l e R s m args below meth c tc ts Z hR C E H locs cells slots ls h1 h2 h3 h4)
theorem zJ.if_le {x : Int32} {off : Int} {tgt : Nat} (hd : decode (z_cc d) pc = .ok (.ifCond .le off, 3)) (ht : (pc : Int) + off = (tgt : Int)) (kt : x ≤ 0 → zJ o d tgt lv st M mc ms Q) (kf : ¬ x ≤ 0 → zJ o d (pc + 3) lv st M mc ms Q) : zJ o d pc lv (.int x :: st) M mc ms Q := by
  intro p l e R s m args below meth c tc ts Z hR C E H locs cells slots ls h1 h2 h3 h4
  exact lv_if_le C.1 C.2.1 hd ht (fun q => kt q p l e R s m args below meth c tc ts Z hR C E H locs cells slots ls h1 h2 h3 h4) (fun q => kf q p l e R s m args below meth c tc ts Z hR C E H locs cells slots ls h1 h2 h3 h4)
theorem zJ.icmp_le {x y : Int32} {off : Int} {tgt : Nat} (hd : decode (z_cc d) pc = .ok (.if_icmp .le off, 3)) (ht : (pc : Int) + off = (tgt : Int)) (kt : x ≤ y → zJ o d tgt lv st M mc ms Q) (kf : ¬ x ≤ y → zJ o d (pc + 3) lv st M mc ms Q) : zJ o d pc lv (.int y :: .int x :: st) M mc ms Q := by
  intro p l e R s m args below meth c tc ts Z hR C E H locs cells slots ls h1 h2 h3 h4
  exact lv_icmp_le C.1 C.2.1 hd ht (fun q => kt q p l e R s m args below meth c tc ts Z hR C E H locs cells slots ls h1 h2 h3 h4) (fun q => kf q p l e R s m args below meth c tc ts Z hR C E H locs cells slots ls h1 h2 h3 h4)
theorem zJ.goto {off : Int} {tgt : Nat} (hd : decode (z_cc d) pc = .ok (.goto off, 3)) (ht : (pc : Int) + off = (tgt : Int)) (k : zJ o d tgt lv st M mc ms Q) : zJ o d pc lv st M mc ms Q := by
  intro p l e R s m args below meth c tc ts Z hR C E H locs cells slots ls h1 h2 h3 h4
  exact lv_goto C.1 C.2.1 hd ht (k p l e R s m args below meth c tc ts Z hR C E H locs cells slots ls h1 h2 h3 h4)
theorem zJ.tableOut {dflt lo hi : Int} {offs : Array Int} {len : Nat} {x : Int32} {tgt : Nat} (hd : decode (z_cc d) pc = .ok (.tableswitch dflt lo hi offs, len)) (h : x.toInt < lo ∨ hi < x.toInt) (ht : (pc : Int) + dflt = (tgt : Int)) (k : zJ o d tgt lv st M mc ms Q) : zJ o d pc lv (.int x :: st) M mc ms Q := by
  intro p l e R s m args below meth c tc ts Z hR C E H locs cells slots ls h1 h2 h3 h4
  exact lv_tableOut C.1 C.2.1 hd h ht (k p l e R s m args below meth c tc ts Z hR C E H locs cells slots ls h1 h2 h3 h4)
theorem zJ.tableIn {dflt lo hi : Int} {offs : Array Int} {len : Nat} {x : Int32} {off : Int} {tgt : Nat} (hd : decode (z_cc d) pc = .ok (.tableswitch dflt lo hi offs, len)) (g1 : ¬ x.toInt < lo) (g2 : ¬ hi < x.toInt) (ho : offs[(x.toInt - lo).toNat]? = some off) (ht : (pc : Int) + off = (tgt : Int)) (k : zJ o d tgt lv st M mc ms Q) : zJ o d pc lv (.int x :: st) M mc ms Q := by
  intro p l e R s m args below meth c tc ts Z hR C E H locs cells slots ls h1 h2 h3 h4
  exact lv_tableIn C.1 C.2.1 hd g1 g2 ho ht (k p l e R s m args below meth c tc ts Z hR C E H locs cells slots ls h1 h2 h3 h4)
theorem zJ.ldc {index : Nat} {v : Int32} (hw : Cond.constant (z_y d).cls index v ∈ lw_tbl) (hd : decode (z_cc d) pc = .ok (.ldc index, 2)) (k : zJ o d (pc + 2) lv (.int v :: st) M mc ms Q) : zJ o d pc lv st M mc ms Q := by
  intro p l e R s m args below meth c tc ts Z hR C E H locs cells slots ls h1 h2 h3 h4
  obtain ⟨hx, hb, hrt, hml, hown, hlk, hnm, ⟨hK, hT⟩, hX, hf, hlo, hz⟩ := id C
  exact lv_ldc hx hb hown (z_use hT hw rfl rfl) hd (k p l e R s m args below meth c tc ts Z hR C E H locs cells slots ls h1 h2 h3 h4)
theorem zJ.ldcw {index : Nat} {v : Int32} (hw : Cond.constant (z_y d).cls index v ∈ lw_tbl) (hd : decode (z_cc d) pc = .ok (.ldc_w index, 3)) (k : zJ o d (pc + 3) lv (.int v :: st) M mc ms Q) : zJ o d pc lv st M mc ms Q := by
  intro p l e R s m args below meth c tc ts Z hR C E H locs cells slots ls h1 h2 h3 h4
  obtain ⟨hx, hb, hrt, hml, hown, hlk, hnm, ⟨hK, hT⟩, hX, hf, hlo, hz⟩ := id C
  exact lv_ldcw hx hb hown (z_use hT hw rfl rfl) hd (k p l e R s m args below meth c tc ts Z hR C E H locs cells slots ls h1 h2 h3 h4)
theorem zJ.ldcf {index : Nat} {v : UInt32} (hw : Cond.constantFloat (z_y d).cls index v ∈ lw_tbl) (hd : decode (z_cc d) pc = .ok (.ldc index, 2)) (k : zJ o d (pc + 2) lv (.float v :: st) M mc ms Q) : zJ o d pc lv st M mc ms Q := by
  intro p l e R s m args below meth c tc ts Z hR C E H locs cells slots ls h1 h2 h3 h4
  obtain ⟨hx, hb, hrt, hml, hown, hlk, hnm, ⟨hK, hT⟩, hX, hf, hlo, hz⟩ := id C
  exact lv_ldcf hx hb hown (z_use hT hw rfl rfl) hd (k p l e R s m args below meth c tc ts Z hR C E H locs cells slots ls h1 h2 h3 h4)
theorem zJ.ldc2 {index : Nat} {v : Int64} (hw : Cond.constantLong (z_y d).cls index v ∈ lw_tbl) (hd : decode (z_cc d) pc = .ok (.ldc2_w index, 3)) (k : zJ o d (pc + 3) lv (.long v :: st) M mc ms Q) : zJ o d pc lv st M mc ms Q := by
  intro p l e R s m args below meth c tc ts Z hR C E H locs cells slots ls h1 h2 h3 h4
  obtain ⟨hx, hb, hrt, hml, hown, hlk, hnm, ⟨hK, hT⟩, hX, hf, hlo, hz⟩ := id C
  exact lv_ldc2 hx hb hown (z_use hT hw rfl rfl) hd (k p l e R s m args below meth c tc ts Z hR C E H locs cells slots ls h1 h2 h3 h4)
theorem zJ.ldc2d {index : Nat} {v : UInt64} (hw : Cond.constantDouble (z_y d).cls index v ∈ lw_tbl) (hd : decode (z_cc d) pc = .ok (.ldc2_w index, 3)) (k : zJ o d (pc + 3) lv (.double v :: st) M mc ms Q) : zJ o d pc lv st M mc ms Q := by
  intro p l e R s m args below meth c tc ts Z hR C E H locs cells slots ls h1 h2 h3 h4
  obtain ⟨hx, hb, hrt, hml, hown, hlk, hnm, ⟨hK, hT⟩, hX, hf, hlo, hz⟩ := id C
  exact lv_ldc2d hx hb hown (z_use hT hw rfl rfl) hd (k p l e R s m args below meth c tc ts Z hR C E H locs cells slots ls h1 h2 h3 h4)
/-- what is known of a class: its number, fields, words -/
def z_KI (ci : Nat) (C : String) (T : u_T) (N : Nat) (ty : Nat → FieldType) : Prop := vwCl[ci]? = some (C, T, N) ∧ (∀ w ∈ u_ws C T N, w ∈ lw_tbl ∧ z_good w = true ∧ w.onTables = true) ∧ (∀ k, k < N → parseFieldDescriptor (T k).2.2.1 = some (ty k)) ∧ (∀ a, a < N → ∀ b, b < N → a ≠ b → (T a).2.1 ≠ (T b).2.1) ∧ ∀ k, k < N → (T k).1 = C
abbrev z_FL (d : zD) (idx : Nat) (C : String) (T : u_T) (j : Nat) : Prop := Cond.fieldLink (z_y d).cls idx C (T j).2.1 (T j).2.2.1 ∈ lw_tbl ∨ Cond.fieldLinkNest (z_y d).cls idx C (T j).2.1 (T j).2.2.1 "LateLines" ∈ lw_tbl
theorem z_Rel_set {o : zW} {n : Nat} {e : zK → va_E} {k : zK} {x : va_E} {H H1 : Heap} (hk : z_ok n k) (h : z_Rel o (n, e) H) (hx : va_at o.2.1 vwCl (z_adr o k, x) H1) (oq : ∀ q : Nat, q ≠ z_adr o k → H1[q]? = H[q]?) (hz : H1.size = H.size) : z_Rel o (n, z_up e k x) H1 := by
  refine ⟨?_, hz.trans h.2.1, h.2.2⟩
  rw [← z_ws_set hk h.2.2]
  exact h.1.set (z_ws_D o (n, e)) (z_ws_get (M := (n, e)) hk) hx oq
theorem z_inA (o : zW) (k : zK) : z_A o (z_adr o k) := Nat.le_add_right _ _
theorem zJ.getf {idx ci : Nat} {C0 : String} {T : u_T} {N : Nat} {ty : Nat → FieldType} {k : zK} {fs : List Value} {v : Value} (KI : z_KI ci C0 T N ty) (j : Nat) (hj : j < N) (hl : z_FL d idx C0 T j) (hd : decode (z_cc d) pc = .ok (.getfield idx, 3)) (hk : z_ok M.1 k) (he : M.2 k = .inr (ci, fs)) (hv : fs[j]? = some v)
    (kk : zJ o d (pc + 3) lv (v :: st) M mc ms Q) : zJ o d pc lv (.ref (z_adr o k) :: st) M mc ms Q := by
  intro p l e R s m args below meth c tc ts Z hR C E H locs cells slots ls h1 h2 h3 h4
  obtain ⟨hx, hb, hrt, hml, hown, hlk, hnm, ⟨hK, hT⟩, hX, hf, hlo, hz⟩ := id C
  obtain ⟨hc, hw, hty, hnd, hdc⟩ := KI
  have hts : ∀ w ∈ u_ws C0 T N, w.before args s = true := fun w h => z_use hT (hw w h).1 (hw w h).2.1 (hw w h).2.2
  have hq : (z_ws o M)[z_lay k]? = some (z_adr o k, .inr (ci, fs)) := by rw [z_ws_get hk, he]
  rcases hl with hl | hl
  · exact va_get hx hb hts (fun w h => h) hown hK h1.1 (z_lay k) hq hc j hj (z_use hT hl rfl rfl) (fun x h => by rw [hdc j hj] at h; exact h) hv hd (kk p l e R s m args below meth c tc ts Z hR C E H locs cells slots ls h1 h2 h3 h4)
  · exact va_getN hx hb hts (fun w h => h) hown hK h1.1 (z_lay k) hq hc j hj (z_use hT hl rfl rfl) (fun x h => by rw [hdc j hj] at h; exact h) hv hd (kk p l e R s m args below meth c tc ts Z hR C E H locs cells slots ls h1 h2 h3 h4)
theorem zJ.putf {idx ci : Nat} {C0 : String} {T : u_T} {N : Nat} {ty : Nat → FieldType} {k : zK} {fs : List Value} {v : Value} (KI : z_KI ci C0 T N ty) (j : Nat) (hj : j < N) (hl : z_FL d idx C0 T j) (hd : decode (z_cc d) pc = .ok (.putfield idx, 3)) (hk : z_ok M.1 k) (he : M.2 k = .inr (ci, fs)) (hfin : (T j).2.2.2 = false) (hn : narrow (ty j) v = v) (hft : fits (ty j) v = true) (hjl : j < fs.length)
    (kk : zJ o d (pc + 3) lv st (M.1, z_up M.2 k (.inr (ci, fs.set j v))) mc ms Q) : zJ o d pc lv (v :: .ref (z_adr o k) :: st) M mc ms Q := by
  intro p l e R s m args below meth c tc ts Z hR C E H locs cells slots ls h1 h2 h3 h4
  obtain ⟨hx, hb, hrt, hml, hown, hlk, hnm, ⟨hK, hT⟩, hX, hf, hlo, hz⟩ := id C
  obtain ⟨hc, hw, hty, hnd, hdc⟩ := KI
  have hts : ∀ w ∈ u_ws C0 T N, w.before args s = true := fun w h => z_use hT (hw w h).1 (hw w h).2.1 (hw w h).2.2
  have hq : (z_ws o M)[z_lay k]? = some (z_adr o k, .inr (ci, fs)) := by rw [z_ws_get hk, he]
  have hap := va_apart (own := C0) hts (fun w h => h) ty hty hnd hK hc
  obtain ⟨r, g1, cell, q1, q2, q3, q4⟩ := h1.1 (z_lay k) _ hq
  have hr : r = (C0, T, N) := Option.some.inj (g1.symm.trans hc)
  subst hr
  obtain ⟨hSl, hfc, kC, hkC, hkind⟩ := hK.1 ci _ hc
  obtain ⟨cf, kf, fi, f, hi, hsl⟩ := hSl j hj
  have hlay := hts _ (u_in_lay hj)
  unfold u_lay at hlay
  rw [if_neg (by rw [hfin]; decide)] at hlay
  have hst := (u_facts hfc hkC (u_lays hts (fun w h => h) hj) hi).1
  have h6 := u_store hfc hkC hkind hlay hi (hty j hj) hn hft
  have fin : ∀ H' : Heap, H'[z_adr o k]? = some (cell.setSlot f.slot v) → H'.size = H.size → (∀ q, q ≠ z_adr o k → H'[q]? = H[q]?) → W p l e R s m args below meth c H' (locs ++ [⟨z_adr o k, f.slot⟩]) cells slots Z (F0 m (pc + 3) ls st) := by
    intro H' e1 e2 e3
    rw [hsl] at e1 ⊢
    exact kk p l e R s m args below meth c tc ts Z hR C E H' _ cells slots ls (z_Rel_set (n := M.1) (e := M.2) hk h1 ⟨_, hc, t_OB.to (V := updV (vp_V fs) j v) ⟨_, e1, q2, q3, t_set q4 hap hj v⟩ (fun i _ => vp_updV_set hjl v i)⟩ e3 e2) (h2.put e2 e3 (z_inA o k)) h3 h4
  have hi' : s.fieldFound? C0 (T j).2.1 (T j).2.2.1 = some (cf, kf, fi, f) := by rw [hdc j hj] at hi; exact hi
  rcases hl with hl | hl
  · exact W.putK hx hb (f := f) ⟨hown, z_use hT hl rfl rfl, ⟨_, _, _, hi'⟩, hst⟩ (by rw [q2]; exact h6) q1 q3 (by rw [hsl]; exact k2_hasslot (q4 j hj)) rfl rfl hd fin
  · exact va_WputK hx hb (f := f) hown (z_use hT hl rfl rfl) hi' hst (by rw [q2]; exact h6) q1 q3 (by rw [hsl]; exact k2_hasslot (q4 j hj)) rfl rfl hd fin
theorem zJ.putF {idx ci : Nat} {C0 : String} {T : u_T} {N : Nat} {ty : Nat → FieldType} {k : zK} {fs : List Value} {v : Value} (KI : z_KI ci C0 T N ty) (j : Nat) (hj : j < N) (hl : Cond.fieldLink (z_y d).cls idx C0 (T j).2.1 (T j).2.2.1 ∈ lw_tbl) (hd : decode (z_cc d) pc = .ok (.putfield idx, 3)) (hk : z_ok M.1 k) (he : M.2 k = .inr (ci, fs)) (hfin : (T j).2.2.2 = true) (hin2 : (z_y d).name = "<init>") (hcl : (z_y d).cls = C0) (hn : narrow (ty j) v = v) (hft : fits (ty j) v = true) (hjl : j < fs.length)
    (kk : zJ o d (pc + 3) lv st (M.1, z_up M.2 k (.inr (ci, fs.set j v))) mc ms Q) : zJ o d pc lv (v :: .ref (z_adr o k) :: st) M mc ms Q := by
  intro p l e R s m args below meth c tc ts Z hR C E H locs cells slots ls h1 h2 h3 h4
  obtain ⟨hx, hb, hrt, hml, hown, hlk, hnm, ⟨hK, hT⟩, hX, hf, hlo, hz⟩ := id C
  obtain ⟨hc, hw, hty, hnd, hdc⟩ := KI
  have hts : ∀ w ∈ u_ws C0 T N, w.before args s = true := fun w h => z_use hT (hw w h).1 (hw w h).2.1 (hw w h).2.2
  have hq : (z_ws o M)[z_lay k]? = some (z_adr o k, .inr (ci, fs)) := by rw [z_ws_get hk, he]
  have hap := va_apart (own := C0) hts (fun w h => h) ty hty hnd hK hc
  obtain ⟨r, g1, cell, q1, q2, q3, q4⟩ := h1.1 (z_lay k) _ hq
  have hr : r = (C0, T, N) := Option.some.inj (g1.symm.trans hc)
  subst hr
  obtain ⟨hSl, hfc, kC, hkC, hkind⟩ := hK.1 ci _ hc
  obtain ⟨cf, kf, fi, f, hi, hsl⟩ := hSl j hj
  have hlay := hts _ (u_in_lay hj)
  unfold u_lay at hlay
  rw [if_pos hfin] at hlay
  have hst := (u_facts hfc hkC (u_lays hts (fun w h => h) hj) hi).1
  have hcf : m.cls = cf := by
    obtain ⟨_, _, c', _, _, _, -, -, hf', -, -, -, hown2, -⟩ := Cond.laysFinal_spec hlay
    have e1 : c' = cf := by have := hi.symm.trans hf'; simp at this; exact this.1.symm
    rw [hdc j hj, ← hcl] at hown2
    rw [← e1]; exact Option.some.inj (hown.symm.trans hown2)
  have h6 := u_fits hfc hkC hkind (Or.inr hlay) hi (hty j hj) hn hft
  have hi' : s.fieldFound? C0 (T j).2.1 (T j).2.2.1 = some (cf, kf, fi, f) := by rw [hdc j hj] at hi; exact hi
  refine W.putFinK hx hb hown (z_use hT hl rfl rfl) hi' hst hcf (hnm.trans hin2) (by rw [q2]; exact h6) q1 q3 (by rw [hsl]; exact k2_hasslot (q4 j hj)) rfl rfl hd fun H' e1 e2 e3 => ?_
  rw [hsl] at e1 ⊢
  exact kk p l e R s m args below meth c tc ts Z hR C E H' _ cells slots ls (z_Rel_set (n := M.1) (e := M.2) hk h1 ⟨_, hc, t_OB.to (V := updV (vp_V fs) j v) ⟨_, e1, q2, q3, t_set q4 hap hj v⟩ (fun i _ => vp_updV_set hjl v i)⟩ e3 e2) (h2.put e2 e3 (z_inA o k)) h3 h4
theorem zJ.iald {k : zK} {n : Nat} {f : Nat → Int32} {i : Int32} (hd : decode (z_cc d) pc = .ok (.iaload, 1)) (hk : z_ok M.1 k) (he : M.2 k = .inl (o.2.2.1 0, n, .inl f)) (hin : vp_in i n)
    (kk : zJ o d (pc + 1) lv (.int (f i.toNatClampNeg) :: st) M mc ms Q) : zJ o d pc lv (.int i :: .ref (z_adr o k) :: st) M mc ms Q := by
  intro p l e R s m args below meth c tc ts Z hR C E H locs cells slots ls h1 h2 h3 h4
  obtain ⟨hx, hb, hrt, hml, hown, hlk, hnm, ⟨hK, hT⟩, hX, hf, hlo, hz⟩ := id C
  exact va_iald hx hb hK h1.1 (z_lay k) 0 (by rw [z_ws_get hk, he]) rfl hin hd (kk p l e R s m args below meth c tc ts Z hR C E H locs cells slots ls h1 h2 h3 h4)
theorem zJ.iast {k : zK} {n : Nat} {f : Nat → Int32} {i : Int32} {x : Int32} (hd : decode (z_cc d) pc = .ok (.iastore, 1)) (hk : z_ok M.1 k) (he : M.2 k = .inl (o.2.2.1 0, n, .inl f)) (hin : vp_in i n)
    (kk : zJ o d (pc + 1) lv st (M.1, z_up M.2 k (.inl (o.2.2.1 0, n, .inl (upd f i.toNatClampNeg x)))) mc ms Q) : zJ o d pc lv (.int x :: .int i :: .ref (z_adr o k) :: st) M mc ms Q := by
  intro p l e R s m args below meth c tc ts Z hR C E H locs cells slots ls h1 h2 h3 h4
  obtain ⟨hx, hb, hrt, hml, hown, hlk, hnm, ⟨hK, hT⟩, hX, hf, hlo, hz⟩ := id C
  have hq : (z_ws o M)[z_lay k]? = some (z_adr o k, .inl (o.2.2.1 0, n, .inl f)) := by rw [z_ws_get hk, he]
  refine W.iast hx hb (h1.1 (z_lay k) _ hq) ((hK.2 0 _ rfl).1 n (fun j => .int (f j))) (fun q => by cases q) (by show ¬ (i < 0 ∨ (arrV _ _ _).slots.size ≤ _); rw [arrV_size]; exact hin) rfl rfl hd fun H1 e1 z1 oq => ?_
  refine kk p l e R s m args below meth c tc ts Z hR C E H1 _ cells slots ls (z_Rel_set (n := M.1) (e := M.2) hk h1 ?_ oq z1) (h2.put z1 oq (z_inA o k)) h3 h4
  show H1[z_adr o k]? = some (vp_cell _ _)
  rw [e1, vp_cell_i, vp_cell_i, arrV_store]
  congr 2
  funext j
  by_cases hj : j = i.toNatClampNeg
  · subst hj; simp [updV, upd, vp_updL, vf_upd]
  · simp [updV, upd, vp_updL, vf_upd, hj]
theorem zJ.aald {k : zK} {n : Nat} {f : Nat → Option Nat} {i : Int32} {t0 : Nat} {C0 : String} (ht : (z_tys o)[t0]? = some (o.2.2.1 t0, .object C0)) (hd : decode (z_cc d) pc = .ok (.aaload, 1)) (hk : z_ok M.1 k) (he : M.2 k = .inl (o.2.2.1 t0, n, .inr (.inr (.inr (.inr f))))) (hin : vp_in i n)
    (kk : zJ o d (pc + 1) lv (va_rf (f i.toNatClampNeg) :: st) M mc ms Q) : zJ o d pc lv (.int i :: .ref (z_adr o k) :: st) M mc ms Q := by
  intro p l e R s m args below meth c tc ts Z hR C E H locs cells slots ls h1 h2 h3 h4
  obtain ⟨hx, hb, hrt, hml, hown, hlk, hnm, ⟨hK, hT⟩, hX, hf, hlo, hz⟩ := id C
  exact va_aldq hx hb hK h1.1 (z_lay k) t0 (by rw [z_ws_get hk, he]) ht hin hd (kk p l e R s m args below meth c tc ts Z hR C E H locs cells slots ls h1 h2 h3 h4)
theorem zJ.aast {k kv : zK} {n : Nat} {f : Nat → Option Nat} {i : Int32} {t0 ci : Nat} {r : vw_C} {vs : List Value} (ht : (z_tys o)[t0]? = some (o.2.2.1 t0, .object r.1)) (hc : vwCl[ci]? = some r) (hd : decode (z_cc d) pc = .ok (.aastore, 1)) (hk : z_ok M.1 k) (he : M.2 k = .inl (o.2.2.1 t0, n, .inr (.inr (.inr (.inr f))))) (hkv : z_ok M.1 kv) (hev : M.2 kv = .inr (ci, vs)) (hin : vp_in i n)
    (kk : zJ o d (pc + 1) lv st (M.1, z_up M.2 k (.inl (o.2.2.1 t0, n, .inr (.inr (.inr (.inr (va_up f i.toNatClampNeg (some (z_adr o kv))))))))) mc ms Q) : zJ o d pc lv (.ref (z_adr o kv) :: .int i :: .ref (z_adr o k) :: st) M mc ms Q := by
  intro p l e R s m args below meth c tc ts Z hR C E H locs cells slots ls h1 h2 h3 h4
  obtain ⟨hx, hb, hrt, hml, hown, hlk, hnm, ⟨hK, hT⟩, hX, hf, hlo, hz⟩ := id C
  have hq : (z_ws o M)[z_lay k]? = some (z_adr o k, .inl (o.2.2.1 t0, n, .inr (.inr (.inr (.inr f))))) := by rw [z_ws_get hk, he]
  have hqv : (z_ws o M)[z_lay kv]? = some (z_adr o kv, .inr (ci, vs)) := by rw [z_ws_get hkv, hev]
  have hlt : i.toNatClampNeg < n := Nat.not_le.mp fun q => hin (Or.inr q)
  have h0 : ¬ i < 0 := fun q => hin (Or.inl q)
  obtain ⟨r', hr', cellV, g1, g2, g3, -⟩ := h1.1 (z_lay kv) _ hqv
  have hcls := (hK.1 ci r hc).2
  obtain ⟨kA, comp, k1, k2, k3, -⟩ := (hK.2 t0 _ ht).2
  have hcomp : comp = o.2.1.1 ci := Option.some.inj (k3.symm.trans hcls.1)
  subst hcomp
  obtain ⟨kC, hkC, -⟩ := hcls.2
  refine W.aast hx hb (h1.1 (z_lay k) _ hq) (fun q h => by cases h) (fun h => by cases h) k1 k2 rfl hkC ⟨h0, by show _ < (arrV _ _ _).slots.size; rw [arrV_size]; exact hlt⟩ g1 (fun q h => by rw [g3] at h; cases h) (by rw [g2]; exact hkC) (by rw [g2]; exact va_assign hcls) rfl rfl hd fun H1 e1 z1 oq => ?_
  refine kk p l e R s m args below meth c tc ts Z hR C E H1 _ cells slots ls (z_Rel_set (n := M.1) (e := M.2) hk h1 ?_ oq z1) (h2.put z1 oq (z_inA o k)) h3 h4
  show H1[z_adr o k]? = some (vp_cell _ _)
  rw [e1, vp_cell_q, vp_cell_q, arrV_store]
  congr 2
  funext q
  by_cases hq : q = i.toNatClampNeg
  · subst hq
    simp [updV, va_up, va_rf]
  · simp [updV, va_up, hq]
theorem zJ.alen {k : zK} {x : vp_A} {t0 : Nat} {ty : FieldType} {v : Int32} (ht : (z_tys o)[t0]? = some (o.2.2.1 t0, ty)) (hd : decode (z_cc d) pc = .ok (.arraylength, 1)) (hk : z_ok M.1 k) (he : M.2 k = .inl (o.2.2.1 t0, x)) (hv : Int32.ofNat x.1 = v)
    (kk : zJ o d (pc + 1) lv (.int v :: st) M mc ms Q) : zJ o d pc lv (.ref (z_adr o k) :: st) M mc ms Q := by
  intro p l e R s m args below meth c tc ts Z hR C E H locs cells slots ls h1 h2 h3 h4
  obtain ⟨hx, hb, hrt, hml, hown, hlk, hnm, ⟨hK, hT⟩, hX, hf, hlo, hz⟩ := id C
  exact va_alen hx hb hK h1.1 (z_lay k) t0 (by rw [z_ws_get hk, he]) ht hv hd (kk p l e R s m args below meth c tc ts Z hR C E H locs cells slots ls h1 h2 h3 h4)
theorem zJ.gets {idx i : Nat} (hi : i < 3) (hl : Cond.fieldLink (z_y d).cls idx "LateLines" (z_sn i) "[I" ∈ lw_tbl ∨ Cond.fieldLinkNest (z_y d).cls idx "LateLines" (z_sn i) "[I" "LateLines" ∈ lw_tbl) (hd : decode (z_cc d) pc = .ok (.getstatic idx, 3))
    (kk : zJ o d (pc + 3) lv (.ref (o.2.2.2.1 i) :: st) M mc ms Q) : zJ o d pc lv st M mc ms Q := by
  intro p l e R s m args below meth c tc ts Z hR C E H locs cells slots ls h1 h2 h3 h4
  obtain ⟨hx, hb, hrt, hml, hown, hlk, hnm, ⟨hK, hT⟩, hX, hf, hlo, hz⟩ := id C
  rcases hl with hl | hl
  · exact va_gets hx hb (hX.2 i hi).1 h2 hown (z_use hT hl rfl rfl) (fun x h => h) hd (kk p l e R s m args below meth c tc ts Z hR C E H locs cells slots ls h1 h2 h3 h4)
  · exact va_getsN hx hb (hX.2 i hi).1 h2 hown (z_use hT hl rfl rfl) (fun x h => h) hd (kk p l e R s m args below meth c tc ts Z hR C E H locs cells slots ls h1 h2 h3 h4)
theorem zJ.sald {i : Nat} {x : Int32} (hi : i < 3) (hd : decode (z_cc d) pc = .ok (.iaload, 1)) (hin : vp_in x 5)
    (kk : zJ o d (pc + 1) lv (.int (z_st i x.toNatClampNeg) :: st) M mc ms Q) : zJ o d pc lv (.int x :: .ref (o.2.2.2.1 i) :: st) M mc ms Q := by
  intro p l e R s m args below meth c tc ts Z hR C E H locs cells slots ls h1 h2 h3 h4
  obtain ⟨hx, hb, hrt, hml, hown, hlk, hnm, ⟨hK, hT⟩, hX, hf, hlo, hz⟩ := id C
  exact va_ti hx hb (hX.2 i hi).2 h2 hin rfl hd (kk p l e R s m args below meth c tc ts Z hR C E H locs cells slots ls h1 h2 h3 h4)
theorem zJ.slen {i : Nat} (hi : i < 3) (hd : decode (z_cc d) pc = .ok (.arraylength, 1))
    (kk : zJ o d (pc + 1) lv (.int 5 :: st) M mc ms Q) : zJ o d pc lv (.ref (o.2.2.2.1 i) :: st) M mc ms Q := by
  intro p l e R s m args below meth c tc ts Z hR C E H locs cells slots ls h1 h2 h3 h4
  obtain ⟨hx, hb, hrt, hml, hown, hlk, hnm, ⟨hK, hT⟩, hX, hf, hlo, hz⟩ := id C
  obtain ⟨cell, g1, g2, g3, g4, g5, g6, g7⟩ := (hX.2 i hi).2
  exact W.alen (n := 5) hx hb (by rw [h2.2.1 _ (Array.getElem?_eq_some_iff.mp g1).1 g7]; exact g1) g2 g5 rfl rfl hd (kk p l e R s m args below meth c tc ts Z hR C E H locs cells slots ls h1 h2 h3 h4)
theorem zJ.scald {x : Int32} (hd : decode (z_cc d) pc = .ok (.iaload, 1)) (hin : vp_in x o.2.2.2.2.2.1)
    (kk : zJ o d (pc + 1) lv (.int (o.2.2.2.2.2.2 x.toNatClampNeg) :: st) M mc ms Q) : zJ o d pc lv (.int x :: .ref o.2.2.2.2.1 :: st) M mc ms Q := by
  intro p l e R s m args below meth c tc ts Z hR C E H locs cells slots ls h1 h2 h3 h4
  obtain ⟨hx, hb, hrt, hml, hown, hlk, hnm, ⟨hK, hT⟩, hX, hf, hlo, hz⟩ := id C
  exact va_sld hx hb hX.1.1 (Nat.lt_of_lt_of_le hX.1.2 hz) (show ¬ o.1 ≤ _ from Nat.not_le.mpr hX.1.2) h2 hin hd (kk p l e R s m args below meth c tc ts Z hR C E H locs cells slots ls h1 h2 h3 h4)
theorem zJ.sclen (hd : decode (z_cc d) pc = .ok (.arraylength, 1))
    (kk : zJ o d (pc + 1) lv (.int (Int32.ofNat o.2.2.2.2.2.1) :: st) M mc ms Q) : zJ o d pc lv (.ref o.2.2.2.2.1 :: st) M mc ms Q := by
  intro p l e R s m args below meth c tc ts Z hR C E H locs cells slots ls h1 h2 h3 h4
  obtain ⟨hx, hb, hrt, hml, hown, hlk, hnm, ⟨hK, hT⟩, hX, hf, hlo, hz⟩ := id C
  exact va_slen hx hb hX.1.1 (Nat.lt_of_lt_of_le hX.1.2 hz) (show ¬ o.1 ≤ _ from Nat.not_le.mpr hX.1.2) h2 hd (kk p l e R s m args below meth c tc ts Z hR C E H locs cells slots ls h1 h2 h3 h4)
theorem zJ.mmax {idx : Nat} {x y : Int32} (hl : Cond.methodLink (z_y d).cls idx Lib.Math.max.name ∈ lw_tbl) (hs : Cond.static Lib.Math.max.name ∈ lw_tbl) (hi : Cond.initialized "java/lang/Math" ∈ lw_tbl) (hc : Cond.code Lib.Math.max.name Lib.Math.max.code 2 (some .int) ∈ lw_tbl) (hfr : 1 ≤ z_fr d) (hlc : (st.map fun v => v.category).sum + 13 ≤ z_lo d) (hd : decode (z_cc d) pc = .ok (.invokestatic idx, 3))
    (kk : zJ o d (pc + 3) lv (.int (if x < y then y else x) :: st) M mc ms Q) : zJ o d pc lv (.int y :: .int x :: st) M mc ms Q := by
  intro p l e R s m args below meth c tc ts Z hR C E H locs cells slots ls h1 h2 h3 h4
  obtain ⟨hx, hb, hrt, hml, hown, hlk, hnm, ⟨hK, hT⟩, hX, hf, hlo, hz⟩ := id C
  exact va_mmax hx hb (hml.trans h3.1.symm) hown (z_use hT hl rfl rfl) (z_use hT hs rfl rfl) (z_use hT hi rfl rfl) (z_use hT hc rfl rfl) (by omega) (by omega) (by omega) (by omega) hd (kk p l e R s m args below meth c tc ts Z hR C E H locs cells slots ls h1 h2 h3 h4)
theorem zJ.mmin {idx : Nat} {x y : Int32} (hl : Cond.methodLink (z_y d).cls idx Lib.Math.min.name ∈ lw_tbl) (hs : Cond.static Lib.Math.min.name ∈ lw_tbl) (hi : Cond.initialized "java/lang/Math" ∈ lw_tbl) (hc : Cond.code Lib.Math.min.name Lib.Math.min.code 2 (some .int) ∈ lw_tbl) (hfr : 1 ≤ z_fr d) (hlc : (st.map fun v => v.category).sum + 13 ≤ z_lo d) (hd : decode (z_cc d) pc = .ok (.invokestatic idx, 3))
    (kk : zJ o d (pc + 3) lv (.int (if y < x then y else x) :: st) M mc ms Q) : zJ o d pc lv (.int y :: .int x :: st) M mc ms Q := by
  intro p l e R s m args below meth c tc ts Z hR C E H locs cells slots ls h1 h2 h3 h4
  obtain ⟨hx, hb, hrt, hml, hown, hlk, hnm, ⟨hK, hT⟩, hX, hf, hlo, hz⟩ := id C
  exact va_mmin hx hb (hml.trans h3.1.symm) hown (z_use hT hl rfl rfl) (z_use hT hs rfl rfl) (z_use hT hi rfl rfl) (z_use hT hc rfl rfl) (by omega) (by omega) (by omega) (by omega) hd (kk p l e R s m args below meth c tc ts Z hR C E H locs cells slots ls h1 h2 h3 h4)
theorem zJ.f2bits {idx : Nat} {b : UInt32} (hl : Cond.methodLink (z_y d).cls idx ⟨"java/lang/Float", "floatToRawIntBits", "(F)I"⟩ ∈ lw_tbl) (hn : Cond.native ⟨"java/lang/Float", "floatToRawIntBits", "(F)I"⟩ ∈ lw_tbl) (hs : Cond.static ⟨"java/lang/Float", "floatToRawIntBits", "(F)I"⟩ ∈ lw_tbl) (hi : Cond.initialized "java/lang/Float" ∈ lw_tbl) (hfr : 1 ≤ z_fr d) (hlc : (st.map fun v => v.category).sum + 15 ≤ z_lo d) (hd : decode (z_cc d) pc = .ok (.invokestatic idx, 3))
    (kk : zJ o d (pc + 3) lv (.int b.toInt32 :: st) M mc ms Q) : zJ o d pc lv (.float b :: st) M mc ms Q := by
  intro p l e R s m args below meth c tc ts Z hR C E H locs cells slots ls h1 h2 h3 h4
  obtain ⟨hx, hb, hrt, hml, hown, hlk, hnm, ⟨hK, hT⟩, hX, hf, hlo, hz⟩ := id C
  exact vn_f2i hx hb (hml.trans h3.1.symm) hown (z_use hT hl rfl rfl) (z_use hT hn rfl rfl) (z_use hT hs rfl rfl) (z_use hT hi rfl rfl) (by omega) (by omega) hd (kk p l e R s m args below meth c tc ts Z hR C E H locs cells slots ls h1 h2 h3 h4)
theorem zJ.d2bits {idx : Nat} {b : UInt64} (hl : Cond.methodLink (z_y d).cls idx ⟨"java/lang/Double", "doubleToRawLongBits", "(D)J"⟩ ∈ lw_tbl) (hn : Cond.native ⟨"java/lang/Double", "doubleToRawLongBits", "(D)J"⟩ ∈ lw_tbl) (hs : Cond.static ⟨"java/lang/Double", "doubleToRawLongBits", "(D)J"⟩ ∈ lw_tbl) (hi : Cond.initialized "java/lang/Double" ∈ lw_tbl) (hfr : 1 ≤ z_fr d) (hlc : (st.map fun v => v.category).sum + 15 ≤ z_lo d) (hd : decode (z_cc d) pc = .ok (.invokestatic idx, 3))
    (kk : zJ o d (pc + 3) lv (.long b.toInt64 :: st) M mc ms Q) : zJ o d pc lv (.double b :: st) M mc ms Q := by
  intro p l e R s m args below meth c tc ts Z hR C E H locs cells slots ls h1 h2 h3 h4
  obtain ⟨hx, hb, hrt, hml, hown, hlk, hnm, ⟨hK, hT⟩, hX, hf, hlo, hz⟩ := id C
  exact vn_d2l hx hb (hml.trans h3.1.symm) hown (z_use hT hl rfl rfl) (z_use hT hn rfl rfl) (z_use hT hs rfl rfl) (z_use hT hi rfl rfl) (by omega) (by omega) hd (kk p l e R s m args below meth c tc ts Z hR C E H locs cells slots ls h1 h2 h3 h4)
theorem zJ.objInit {idx : Nat} {a : Nat} (hl : Cond.methodLink (z_y d).cls idx Lib.objectInit ∈ lw_tbl) (hi : Cond.instanceMethod Lib.objectInit ∈ lw_tbl) (hc : Cond.code Lib.objectInit ⟨#[0xb1]⟩ 1 none ∈ lw_tbl) (hfr : 1 ≤ z_fr d) (hlc : (st.map fun v => v.category).sum + 12 ≤ z_lo d) (hd : decode (z_cc d) pc = .ok (.invokespecial idx, 3))
    (kk : zJ o d (pc + 3) lv st M mc ms Q) : zJ o d pc lv (.ref a :: st) M mc ms Q := by
  intro p l e R s m args below meth c tc ts Z hR C E H locs cells slots ls h1 h2 h3 h4
  obtain ⟨hx, hb, hrt, hml, hown, hlk, hnm, ⟨hK, hT⟩, hX, hf, hlo, hz⟩ := id C
  exact W.objInit hx hb hown (z_use hT hl rfl rfl) (z_use hT hi rfl rfl) (z_use hT hc rfl rfl) rfl (h3.1.trans hml.symm) rfl hd (by omega) (by show 2 * 0 + _ + _ ≤ _; omega) (kk p l e R s m args below meth c tc ts Z hR C E H locs cells slots ls h1 h2 h3 h4)
theorem z_Rel_push {o : zW} {n : Nat} {e : zK → va_E} {k : zK} {x : va_E} {H H1 : Heap} (hk : z_key n = k) (hk2 : z_lay k = n) (hn : n < 970) (h : z_Rel o (n, e) H) (hx : va_at o.2.1 vwCl (o.1 + n, x) H1) (oq : ∀ q : Nat, q < H.size → H1[q]? = H[q]?) (hz : H1.size = H.size + 1) : z_Rel o (n + 1, z_up e k x) H1 := by
  refine ⟨?_, by rw [hz, h.2.1]; show o.1 + n + 1 = o.1 + (n + 1); omega, by show n + 1 ≤ 970; omega⟩
  rw [← z_ws_push hk hk2 hn]
  refine (h.1.kept (fun i q hq => oq q.1 (h.1 i q hq).lt)).app (fun i q hq => ?_)
  have hi : i < 1 := (List.getElem?_eq_some_iff.mp hq).1
  rw [show i = 0 by omega] at hq
  cases hq
  exact hx
theorem z_S_push {o : zW} {s : State} {H H1 : Heap} {locs : List Loc} (h : va_S (z_A o) s.heap H locs) (oq : ∀ q : Nat, q < H.size → H1[q]? = H[q]?) (hz : H1.size = H.size + 1) : va_S (z_A o) s.heap H1 locs :=
  ⟨Nat.le_trans h.1 (by omega), fun q a b => (oq q (Nat.lt_of_lt_of_le a h.1)).trans (h.2.1 q a b), h.2.2⟩
theorem zJ.newo {idx ci n : Nat} {e : zK → va_E} {C0 : String} {T : u_T} {N : Nat} {ty : Nat → FieldType} {k : zK} {fs : List Value} (KI : z_KI ci C0 T N ty) (hcl : Cond.classLink (z_y d).cls idx C0 ∈ lw_tbl) (hins : Cond.instantiable C0 N ∈ lw_tbl) (hini : Cond.initialized C0 ∈ lw_tbl) (hd : decode (z_cc d) pc = .ok (.new idx, 3)) (hfs : ∀ j, j < N → defaultValue (ty j) = vp_V fs j) (hk : z_key n = k) (hk2 : z_lay k = n) (hn : n < 970)
    (kk : zJ o d (pc + 3) lv (.ref (z_adr o k) :: st) (n + 1, z_up e k (.inr (ci, fs))) mc ms Q) : zJ o d pc lv st (n, e) (mc + 1) (ms + N) Q := by
  intro p l e R s m args below meth c tc ts Z hR C E H locs cells slots ls h1 h2 h3 h4
  obtain ⟨hx, hb, hrt, hml, hown, hlk, hnm, ⟨hK, hT⟩, hX, hf, hlo, hz⟩ := id C
  obtain ⟨hc, hw, hty, hnd, hdc⟩ := KI
  have hts : ∀ w ∈ u_ws C0 T N, w.before args s = true := fun w h => z_use hT (hw w h).1 (hw w h).2.1 (hw w h).2.2
  have hKn := hK.1 ci _ hc
  refine W.newcK hx hb hown (z_use hT hcl rfl rfl) (z_use hT hins rfl rfl) (z_use hT hini rfl rfl) rfl hd (by omega) (by omega) hKn.2.1 h1.2.1 fun H1 kC hkC e1 z1 o1 => ?_
  have hsz : H.size = o.1 + n := h1.2.1
  have ha : o.1 + n = z_adr o k := by show _ = o.1 + z_lay k; rw [hk2]
  have e1 : H1[o.1 + n]? = some (blank (o.2.1.1 ci) kC) := e1
  have hx1 : va_at o.2.1 vwCl (o.1 + n, .inr (ci, fs)) H1 := ⟨_, hc, (u_born ty hts (fun w h => h) hKn hkC e1 hty).to hfs⟩
  have o1' : ∀ q : Nat, q < H.size → H1[q]? = H[q]? := fun q hq => o1 q (by rw [← hsz]; exact hq)
  have z1' : H1.size = H.size + 1 := by rw [hsz]; exact z1
  have := kk p l e R s m args below meth c tc ts Z hR C E H1 locs (cells + 1) (slots + N) ls (z_Rel_push hk hk2 hn h1 hx1 o1' z1') (z_S_push h2 o1' z1') h3 ⟨by omega, by omega⟩
  rw [← ha] at this
  exact this
end ZR
