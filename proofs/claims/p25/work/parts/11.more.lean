abbrev z_lcmp (x y : Int64) : Int32 := lg_cmp x y
section ZM
variable {o : zW} {d : zD} {pc n : Nat} {lv : List (Nat × Value)} {st : List Value} {M : zM} {S : zS} {mc ms : Nat} {Q : Option Value → zM → Prop}
theorem zJ.topi {x : Int32} (k : ∀ y : Int32, y = x → zJ o d pc lv (.int y :: st) M mc ms Q) : zJ o d pc lv (.int x :: st) M mc ms Q := k x rfl
theorem zJ.nameS (k : ∀ S' : zS, S' = S → zJ o d pc lv st (n, z_enc o S') mc ms Q) : zJ o d pc lv st (n, z_enc o S) mc ms Q := k S rfl
theorem zJ.lcmp {x y : Int64} (hd : decode (z_cc d) pc = .ok (.lcmp, 1)) (k : zJ o d (pc + 1) lv (.int (z_lcmp x y) :: st) M mc ms Q) : zJ o d pc lv (.long y :: .long x :: st) M mc ms Q := by
  intro p l e R s m args below meth c tc ts Z hR C E H locs cells slots ls h1 h2 h3 h4
  exact W.lcmp C.1 C.2.1 hd (k p l e R s m args below meth c tc ts Z hR C E H locs cells slots ls h1 h2 h3 h4)
end ZM
theorem z_swe {x : Int32} {lo k : Nat} (hk : k < 2 ^ 31) (h : ∀ j, lo ≤ j → j ≤ k → x ≠ Int32.ofNat j) : x.toInt < (lo : Int) ∨ (k : Int) < x.toInt := by
  by_cases h1 : x.toInt < (lo : Int)
  · exact Or.inl h1
  · by_cases h2 : (k : Int) < x.toInt
    · exact Or.inr h2
    · refine absurd ?_ (h x.toInt.toNat (by omega) (by omega))
      apply Int32.toInt_inj.mp
      have : (nI x.toInt.toNat).toInt = (x.toInt.toNat : Int) := nI_toInt (by omega)
      show x.toInt = (nI x.toInt.toNat).toInt
      rw [this]
      omega
theorem z_catrf (x : Option Nat) : (va_rf x).category = 1 := by cases x <;> rfl
