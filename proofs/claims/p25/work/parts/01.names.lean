-- ===== PART A: goes FIRST, ahead of the names: the tables' words, and 'selects' of the private methods out of them =====
/-- a private method of a class that the tables say can be made, by its rows of tables_1 -/
def lw_okq (q : MethodName × Nat) : Prop := (q.1.cls ≠ "java/lang/invoke/MethodHandle" ∧ q.1.cls ≠ "java/lang/invoke/VarHandle") ∧ Cond.instantiable q.1.cls q.2 ∈ tables_1 ∧ Cond.privateMethod q.1 ∈ tables_1 ∧ Cond.instanceMethod q.1 ∈ tables_1
theorem lw_p0 : lw_okq (⟨"LateLines$State", "renew", "()V"⟩, 9) := ⟨⟨by decide +kernel, by decide +kernel⟩, List.mem_of_getElem? (i := 17) (by decide +kernel), List.mem_of_getElem? (i := 124) (by decide +kernel), List.mem_of_getElem? (i := 125) (by decide +kernel)⟩
theorem lw_p1 : lw_okq (⟨"LateLines$Box", "renew", "()V"⟩, 12) := ⟨⟨by decide +kernel, by decide +kernel⟩, List.mem_of_getElem? (i := 29) (by decide +kernel), List.mem_of_getElem? (i := 128) (by decide +kernel), List.mem_of_getElem? (i := 129) (by decide +kernel)⟩
theorem lw_p2 : lw_okq (⟨"LateLines$Loads", "renew", "()V"⟩, 8) := ⟨⟨by decide +kernel, by decide +kernel⟩, List.mem_of_getElem? (i := 88) (by decide +kernel), List.mem_of_getElem? (i := 133) (by decide +kernel), List.mem_of_getElem? (i := 134) (by decide +kernel)⟩
theorem lw_p3 : lw_okq (⟨"LateLines", "refuse", "(I)I"⟩, 7) := ⟨⟨by decide +kernel, by decide +kernel⟩, List.mem_of_getElem? (i := 9) (by decide +kernel), List.mem_of_getElem? (i := 239) (by decide +kernel), List.mem_of_getElem? (i := 240) (by decide +kernel)⟩
theorem lw_p4 : lw_okq (⟨"LateLines", "keep", "()V"⟩, 7) := ⟨⟨by decide +kernel, by decide +kernel⟩, List.mem_of_getElem? (i := 9) (by decide +kernel), List.mem_of_getElem? (i := 243) (by decide +kernel), List.mem_of_getElem? (i := 244) (by decide +kernel)⟩
theorem lw_p5 : lw_okq (⟨"LateLines$State", "become", "(LLateLines$State;)V"⟩, 9) := ⟨⟨by decide +kernel, by decide +kernel⟩, List.mem_of_getElem? (i := 17) (by decide +kernel), List.mem_of_getElem? (i := 247) (by decide +kernel), List.mem_of_getElem? (i := 248) (by decide +kernel)⟩
theorem lw_p6 : lw_okq (⟨"LateLines$Box", "become", "(LLateLines$Box;)V"⟩, 12) := ⟨⟨by decide +kernel, by decide +kernel⟩, List.mem_of_getElem? (i := 29) (by decide +kernel), List.mem_of_getElem? (i := 251) (by decide +kernel), List.mem_of_getElem? (i := 252) (by decide +kernel)⟩
theorem lw_p7 : lw_okq (⟨"LateLines$Loads", "become", "(LLateLines$Loads;)V"⟩, 8) := ⟨⟨by decide +kernel, by decide +kernel⟩, List.mem_of_getElem? (i := 88) (by decide +kernel), List.mem_of_getElem? (i := 256) (by decide +kernel), List.mem_of_getElem? (i := 257) (by decide +kernel)⟩
theorem lw_p8 : lw_okq (⟨"LateLines$State", "begin", "(LLateLines$Box;II)I"⟩, 9) := ⟨⟨by decide +kernel, by decide +kernel⟩, List.mem_of_getElem? (i := 17) (by decide +kernel), List.mem_of_getElem? (i := 282) (by decide +kernel), List.mem_of_getElem? (i := 283) (by decide +kernel)⟩
theorem lw_p9 : lw_okq (⟨"LateLines$State", "pass", "()V"⟩, 9) := ⟨⟨by decide +kernel, by decide +kernel⟩, List.mem_of_getElem? (i := 17) (by decide +kernel), List.mem_of_getElem? (i := 286) (by decide +kernel), List.mem_of_getElem? (i := 287) (by decide +kernel)⟩
theorem lw_p10 : lw_okq (⟨"LateLines$Box", "goFar", "()V"⟩, 12) := ⟨⟨by decide +kernel, by decide +kernel⟩, List.mem_of_getElem? (i := 29) (by decide +kernel), List.mem_of_getElem? (i := 290) (by decide +kernel), List.mem_of_getElem? (i := 291) (by decide +kernel)⟩
theorem lw_p11 : lw_okq (⟨"LateLines$State", "tally", "(IF)V"⟩, 9) := ⟨⟨by decide +kernel, by decide +kernel⟩, List.mem_of_getElem? (i := 17) (by decide +kernel), List.mem_of_getElem? (i := 295) (by decide +kernel), List.mem_of_getElem? (i := 296) (by decide +kernel)⟩
theorem lw_p12 : lw_okq (⟨"LateLines$State", "come", "(LLateLines$Box;)V"⟩, 9) := ⟨⟨by decide +kernel, by decide +kernel⟩, List.mem_of_getElem? (i := 17) (by decide +kernel), List.mem_of_getElem? (i := 299) (by decide +kernel), List.mem_of_getElem? (i := 300) (by decide +kernel)⟩
theorem lw_p13 : lw_okq (⟨"LateLines$Box", "takeFromFar", "()V"⟩, 12) := ⟨⟨by decide +kernel, by decide +kernel⟩, List.mem_of_getElem? (i := 29) (by decide +kernel), List.mem_of_getElem? (i := 303) (by decide +kernel), List.mem_of_getElem? (i := 304) (by decide +kernel)⟩
theorem lw_p14 : lw_okq (⟨"LateLines$State", "settle", "(LLateLines$Box;)V"⟩, 9) := ⟨⟨by decide +kernel, by decide +kernel⟩, List.mem_of_getElem? (i := 17) (by decide +kernel), List.mem_of_getElem? (i := 307) (by decide +kernel), List.mem_of_getElem? (i := 308) (by decide +kernel)⟩
theorem lw_p15 : lw_okq (⟨"LateLines$State", "whoMustGo", "(I)LLateLines$Box;"⟩, 9) := ⟨⟨by decide +kernel, by decide +kernel⟩, List.mem_of_getElem? (i := 17) (by decide +kernel), List.mem_of_getElem? (i := 311) (by decide +kernel), List.mem_of_getElem? (i := 312) (by decide +kernel)⟩
def lw_privs_1 : List (MethodName × Nat) := [(⟨"LateLines$State", "renew", "()V"⟩, 9), (⟨"LateLines$Box", "renew", "()V"⟩, 12), (⟨"LateLines$Loads", "renew", "()V"⟩, 8), (⟨"LateLines", "refuse", "(I)I"⟩, 7), (⟨"LateLines", "keep", "()V"⟩, 7), (⟨"LateLines$State", "become", "(LLateLines$State;)V"⟩, 9), (⟨"LateLines$Box", "become", "(LLateLines$Box;)V"⟩, 12), (⟨"LateLines$Loads", "become", "(LLateLines$Loads;)V"⟩, 8), (⟨"LateLines$State", "begin", "(LLateLines$Box;II)I"⟩, 9), (⟨"LateLines$State", "pass", "()V"⟩, 9), (⟨"LateLines$Box", "goFar", "()V"⟩, 12), (⟨"LateLines$State", "tally", "(IF)V"⟩, 9), (⟨"LateLines$State", "come", "(LLateLines$Box;)V"⟩, 9), (⟨"LateLines$Box", "takeFromFar", "()V"⟩, 12), (⟨"LateLines$State", "settle", "(LLateLines$Box;)V"⟩, 9), (⟨"LateLines$State", "whoMustGo", "(I)LLateLines$Box;"⟩, 9)]
theorem lw_r1 : ∀ q ∈ lw_privs_1, lw_okq q := List.forall_mem_cons.mpr ⟨lw_p0, List.forall_mem_cons.mpr ⟨lw_p1, List.forall_mem_cons.mpr ⟨lw_p2, List.forall_mem_cons.mpr ⟨lw_p3, List.forall_mem_cons.mpr ⟨lw_p4, List.forall_mem_cons.mpr ⟨lw_p5, List.forall_mem_cons.mpr ⟨lw_p6, List.forall_mem_cons.mpr ⟨lw_p7, List.forall_mem_cons.mpr ⟨lw_p8, List.forall_mem_cons.mpr ⟨lw_p9, List.forall_mem_cons.mpr ⟨lw_p10, List.forall_mem_cons.mpr ⟨lw_p11, List.forall_mem_cons.mpr ⟨lw_p12, List.forall_mem_cons.mpr ⟨lw_p13, List.forall_mem_cons.mpr ⟨lw_p14, List.forall_mem_cons.mpr ⟨lw_p15, fun _ h => absurd h List.not_mem_nil⟩⟩⟩⟩⟩⟩⟩⟩⟩⟩⟩⟩⟩⟩⟩⟩
theorem lw_p16 : lw_okq (⟨"LateLines$State", "setDue", "(LLateLines$Box;I)V"⟩, 9) := ⟨⟨by decide +kernel, by decide +kernel⟩, List.mem_of_getElem? (i := 17) (by decide +kernel), List.mem_of_getElem? (i := 316) (by decide +kernel), List.mem_of_getElem? (i := 317) (by decide +kernel)⟩
theorem lw_p17 : lw_okq (⟨"LateLines$State", "use", "(LLateLines$Box;)V"⟩, 9) := ⟨⟨by decide +kernel, by decide +kernel⟩, List.mem_of_getElem? (i := 17) (by decide +kernel), List.mem_of_getElem? (i := 320) (by decide +kernel), List.mem_of_getElem? (i := 321) (by decide +kernel)⟩
theorem lw_p18 : lw_okq (⟨"LateLines$State", "serve", "(LLateLines$Box;IIII)V"⟩, 9) := ⟨⟨by decide +kernel, by decide +kernel⟩, List.mem_of_getElem? (i := 17) (by decide +kernel), List.mem_of_getElem? (i := 324) (by decide +kernel), List.mem_of_getElem? (i := 325) (by decide +kernel)⟩
theorem lw_p19 : lw_okq (⟨"LateLines$Box", "valueAtLast", "(I)I"⟩, 12) := ⟨⟨by decide +kernel, by decide +kernel⟩, List.mem_of_getElem? (i := 29) (by decide +kernel), List.mem_of_getElem? (i := 328) (by decide +kernel), List.mem_of_getElem? (i := 329) (by decide +kernel)⟩
theorem lw_p20 : lw_okq (⟨"LateLines$Loads", "answer", "(III)V"⟩, 8) := ⟨⟨by decide +kernel, by decide +kernel⟩, List.mem_of_getElem? (i := 88) (by decide +kernel), List.mem_of_getElem? (i := 332) (by decide +kernel), List.mem_of_getElem? (i := 333) (by decide +kernel)⟩
theorem lw_p21 : lw_okq (⟨"LateLines$Box", "layIn", "(II)V"⟩, 12) := ⟨⟨by decide +kernel, by decide +kernel⟩, List.mem_of_getElem? (i := 29) (by decide +kernel), List.mem_of_getElem? (i := 336) (by decide +kernel), List.mem_of_getElem? (i := 337) (by decide +kernel)⟩
theorem lw_p22 : lw_okq (⟨"LateLines$State", "ask", "(LLateLines$Box;II)Z"⟩, 9) := ⟨⟨by decide +kernel, by decide +kernel⟩, List.mem_of_getElem? (i := 17) (by decide +kernel), List.mem_of_getElem? (i := 341) (by decide +kernel), List.mem_of_getElem? (i := 342) (by decide +kernel)⟩
theorem lw_p23 : lw_okq (⟨"LateLines$State", "takeAsker", "(LLateLines$Box;II)V"⟩, 9) := ⟨⟨by decide +kernel, by decide +kernel⟩, List.mem_of_getElem? (i := 17) (by decide +kernel), List.mem_of_getElem? (i := 349) (by decide +kernel), List.mem_of_getElem? (i := 350) (by decide +kernel)⟩
theorem lw_p24 : lw_okq (⟨"LateLines$Loads", "add", "(I)I"⟩, 8) := ⟨⟨by decide +kernel, by decide +kernel⟩, List.mem_of_getElem? (i := 88) (by decide +kernel), List.mem_of_getElem? (i := 353) (by decide +kernel), List.mem_of_getElem? (i := 354) (by decide +kernel)⟩
theorem lw_p25 : lw_okq (⟨"LateLines$Box", "addAsker", "(IIII)V"⟩, 12) := ⟨⟨by decide +kernel, by decide +kernel⟩, List.mem_of_getElem? (i := 29) (by decide +kernel), List.mem_of_getElem? (i := 357) (by decide +kernel), List.mem_of_getElem? (i := 358) (by decide +kernel)⟩
theorem lw_p26 : lw_okq (⟨"LateLines$State", "pause", "(I)V"⟩, 9) := ⟨⟨by decide +kernel, by decide +kernel⟩, List.mem_of_getElem? (i := 17) (by decide +kernel), List.mem_of_getElem? (i := 374) (by decide +kernel), List.mem_of_getElem? (i := 375) (by decide +kernel)⟩
theorem lw_p27 : lw_okq (⟨"LateLines$Box", "changedBit", "(I)I"⟩, 12) := ⟨⟨by decide +kernel, by decide +kernel⟩, List.mem_of_getElem? (i := 29) (by decide +kernel), List.mem_of_getElem? (i := 395) (by decide +kernel), List.mem_of_getElem? (i := 396) (by decide +kernel)⟩
theorem lw_p28 : lw_okq (⟨"LateLines$State", "boxInPlace", "(II)I"⟩, 9) := ⟨⟨by decide +kernel, by decide +kernel⟩, List.mem_of_getElem? (i := 17) (by decide +kernel), List.mem_of_getElem? (i := 403) (by decide +kernel), List.mem_of_getElem? (i := 404) (by decide +kernel)⟩
theorem lw_p29 : lw_okq (⟨"LateLines$State", "boxOfFetch", "(I)LLateLines$Box;"⟩, 9) := ⟨⟨by decide +kernel, by decide +kernel⟩, List.mem_of_getElem? (i := 17) (by decide +kernel), List.mem_of_getElem? (i := 411) (by decide +kernel), List.mem_of_getElem? (i := 412) (by decide +kernel)⟩
theorem lw_p30 : lw_okq (⟨"LateLines$Loads", "meanWait", "()F"⟩, 8) := ⟨⟨by decide +kernel, by decide +kernel⟩, List.mem_of_getElem? (i := 88) (by decide +kernel), List.mem_of_getElem? (i := 419) (by decide +kernel), List.mem_of_getElem? (i := 420) (by decide +kernel)⟩
theorem lw_p31 : lw_okq (⟨"LateLines$Loads", "spread", "()D"⟩, 8) := ⟨⟨by decide +kernel, by decide +kernel⟩, List.mem_of_getElem? (i := 88) (by decide +kernel), List.mem_of_getElem? (i := 433) (by decide +kernel), List.mem_of_getElem? (i := 434) (by decide +kernel)⟩
def lw_privs_2 : List (MethodName × Nat) := [(⟨"LateLines$State", "setDue", "(LLateLines$Box;I)V"⟩, 9), (⟨"LateLines$State", "use", "(LLateLines$Box;)V"⟩, 9), (⟨"LateLines$State", "serve", "(LLateLines$Box;IIII)V"⟩, 9), (⟨"LateLines$Box", "valueAtLast", "(I)I"⟩, 12), (⟨"LateLines$Loads", "answer", "(III)V"⟩, 8), (⟨"LateLines$Box", "layIn", "(II)V"⟩, 12), (⟨"LateLines$State", "ask", "(LLateLines$Box;II)Z"⟩, 9), (⟨"LateLines$State", "takeAsker", "(LLateLines$Box;II)V"⟩, 9), (⟨"LateLines$Loads", "add", "(I)I"⟩, 8), (⟨"LateLines$Box", "addAsker", "(IIII)V"⟩, 12), (⟨"LateLines$State", "pause", "(I)V"⟩, 9), (⟨"LateLines$Box", "changedBit", "(I)I"⟩, 12), (⟨"LateLines$State", "boxInPlace", "(II)I"⟩, 9), (⟨"LateLines$State", "boxOfFetch", "(I)LLateLines$Box;"⟩, 9), (⟨"LateLines$Loads", "meanWait", "()F"⟩, 8), (⟨"LateLines$Loads", "spread", "()D"⟩, 8)]
theorem lw_r2 : ∀ q ∈ lw_privs_2, lw_okq q := List.forall_mem_cons.mpr ⟨lw_p16, List.forall_mem_cons.mpr ⟨lw_p17, List.forall_mem_cons.mpr ⟨lw_p18, List.forall_mem_cons.mpr ⟨lw_p19, List.forall_mem_cons.mpr ⟨lw_p20, List.forall_mem_cons.mpr ⟨lw_p21, List.forall_mem_cons.mpr ⟨lw_p22, List.forall_mem_cons.mpr ⟨lw_p23, List.forall_mem_cons.mpr ⟨lw_p24, List.forall_mem_cons.mpr ⟨lw_p25, List.forall_mem_cons.mpr ⟨lw_p26, List.forall_mem_cons.mpr ⟨lw_p27, List.forall_mem_cons.mpr ⟨lw_p28, List.forall_mem_cons.mpr ⟨lw_p29, List.forall_mem_cons.mpr ⟨lw_p30, List.forall_mem_cons.mpr ⟨lw_p31, fun _ h => absurd h List.not_mem_nil⟩⟩⟩⟩⟩⟩⟩⟩⟩⟩⟩⟩⟩⟩⟩⟩
theorem lw_p32 : lw_okq (⟨"LateLines$Text", "readOrders", "()I"⟩, 8) := ⟨⟨by decide +kernel, by decide +kernel⟩, List.mem_of_getElem? (i := 172) (by decide +kernel), List.mem_of_getElem? (i := 449) (by decide +kernel), List.mem_of_getElem? (i := 450) (by decide +kernel)⟩
theorem lw_p33 : lw_okq (⟨"LateLines$Text", "peek", "()I"⟩, 8) := ⟨⟨by decide +kernel, by decide +kernel⟩, List.mem_of_getElem? (i := 172) (by decide +kernel), List.mem_of_getElem? (i := 453) (by decide +kernel), List.mem_of_getElem? (i := 454) (by decide +kernel)⟩
theorem lw_p34 : lw_okq (⟨"LateLines$Text", "byteAt", "(I)I"⟩, 8) := ⟨⟨by decide +kernel, by decide +kernel⟩, List.mem_of_getElem? (i := 172) (by decide +kernel), List.mem_of_getElem? (i := 457) (by decide +kernel), List.mem_of_getElem? (i := 458) (by decide +kernel)⟩
theorem lw_p35 : lw_okq (⟨"LateLines$Text", "readOrder", "()V"⟩, 8) := ⟨⟨by decide +kernel, by decide +kernel⟩, List.mem_of_getElem? (i := 172) (by decide +kernel), List.mem_of_getElem? (i := 461) (by decide +kernel), List.mem_of_getElem? (i := 462) (by decide +kernel)⟩
theorem lw_p36 : lw_okq (⟨"LateLines$Text", "readAsking", "(I)V"⟩, 8) := ⟨⟨by decide +kernel, by decide +kernel⟩, List.mem_of_getElem? (i := 172) (by decide +kernel), List.mem_of_getElem? (i := 465) (by decide +kernel), List.mem_of_getElem? (i := 466) (by decide +kernel)⟩
theorem lw_p37 : lw_okq (⟨"LateLines$Text", "readNumber", "()I"⟩, 8) := ⟨⟨by decide +kernel, by decide +kernel⟩, List.mem_of_getElem? (i := 172) (by decide +kernel), List.mem_of_getElem? (i := 470) (by decide +kernel), List.mem_of_getElem? (i := 471) (by decide +kernel)⟩
theorem lw_p38 : lw_okq (⟨"LateLines$Text", "addOrder", "(III)V"⟩, 8) := ⟨⟨by decide +kernel, by decide +kernel⟩, List.mem_of_getElem? (i := 172) (by decide +kernel), List.mem_of_getElem? (i := 477) (by decide +kernel), List.mem_of_getElem? (i := 478) (by decide +kernel)⟩
theorem lw_p39 : lw_okq (⟨"LateLines$State", "startTrial", "([II)V"⟩, 9) := ⟨⟨by decide +kernel, by decide +kernel⟩, List.mem_of_getElem? (i := 17) (by decide +kernel), List.mem_of_getElem? (i := 482) (by decide +kernel), List.mem_of_getElem? (i := 483) (by decide +kernel)⟩
theorem lw_p40 : lw_okq (⟨"LateLines$State", "carryOut", "(LLateLines$Text;)V"⟩, 9) := ⟨⟨by decide +kernel, by decide +kernel⟩, List.mem_of_getElem? (i := 17) (by decide +kernel), List.mem_of_getElem? (i := 486) (by decide +kernel), List.mem_of_getElem? (i := 487) (by decide +kernel)⟩
theorem lw_p41 : lw_okq (⟨"LateLines$State", "awaitFetches", "()V"⟩, 9) := ⟨⟨by decide +kernel, by decide +kernel⟩, List.mem_of_getElem? (i := 17) (by decide +kernel), List.mem_of_getElem? (i := 493) (by decide +kernel), List.mem_of_getElem? (i := 494) (by decide +kernel)⟩
def lw_privs_3 : List (MethodName × Nat) := [(⟨"LateLines$Text", "readOrders", "()I"⟩, 8), (⟨"LateLines$Text", "peek", "()I"⟩, 8), (⟨"LateLines$Text", "byteAt", "(I)I"⟩, 8), (⟨"LateLines$Text", "readOrder", "()V"⟩, 8), (⟨"LateLines$Text", "readAsking", "(I)V"⟩, 8), (⟨"LateLines$Text", "readNumber", "()I"⟩, 8), (⟨"LateLines$Text", "addOrder", "(III)V"⟩, 8), (⟨"LateLines$State", "startTrial", "([II)V"⟩, 9), (⟨"LateLines$State", "carryOut", "(LLateLines$Text;)V"⟩, 9), (⟨"LateLines$State", "awaitFetches", "()V"⟩, 9)]
theorem lw_r3 : ∀ q ∈ lw_privs_3, lw_okq q := List.forall_mem_cons.mpr ⟨lw_p32, List.forall_mem_cons.mpr ⟨lw_p33, List.forall_mem_cons.mpr ⟨lw_p34, List.forall_mem_cons.mpr ⟨lw_p35, List.forall_mem_cons.mpr ⟨lw_p36, List.forall_mem_cons.mpr ⟨lw_p37, List.forall_mem_cons.mpr ⟨lw_p38, List.forall_mem_cons.mpr ⟨lw_p39, List.forall_mem_cons.mpr ⟨lw_p40, List.forall_mem_cons.mpr ⟨lw_p41, fun _ h => absurd h List.not_mem_nil⟩⟩⟩⟩⟩⟩⟩⟩⟩⟩
def lw_privs : List (MethodName × Nat) := lw_privs_1 ++ (lw_privs_2 ++ (lw_privs_3))
def lw_tbl : List Cond := k2_sels lw_privs ++ tables_1
theorem lw_privs_ok : ∀ q ∈ lw_privs, lw_okq q := by
  show ∀ q ∈ lw_privs_1 ++ (lw_privs_2 ++ (lw_privs_3)), lw_okq q
  exact List.forall_mem_append.mpr ⟨lw_r1, List.forall_mem_append.mpr ⟨lw_r2, lw_r3⟩⟩
/-- the streams that the claim lets the run draw from -/
abbrev lw_cs : List Choice := [Jvm.Choice.named "NaN.bits"]
theorem lw_bits : nanBits ∈ lw_cs := by first | decide | exact List.mem_cons_self | simp [lw_cs, nanBits]
-- ===== end of PART A; then your names; then what follows =====
def RX0 : String := "LateLines$Box"
def TX0 : u_T := fun k => match k with
  | 0 => ("LateLines$Box", "number", "I", true)
  | 1 => ("LateLines$Box", "far", "[I", true)
  | 2 => ("LateLines$Box", "held", "[I", true)
  | 3 => ("LateLines$Box", "askItem", "[I", true)
  | 4 => ("LateLines$Box", "askValue", "[I", true)
  | 5 => ("LateLines$Box", "askLoad", "[I", true)
  | 6 => ("LateLines$Box", "askTick", "[I", true)
  | 7 => ("LateLines$Box", "askers", "I", false)
  | 8 => ("LateLines$Box", "spot", "I", false)
  | 9 => ("LateLines$Box", "changed", "I", false)
  | 10 => ("LateLines$Box", "due", "I", false)
  | _ => ("LateLines$Box", "used", "I", false)
def tyX0 : Nat → FieldType := fun k => match k with
  | 0 => .int
  | 1 => .array .int
  | 2 => .array .int
  | 3 => .array .int
  | 4 => .array .int
  | 5 => .array .int
  | 6 => .array .int
  | 7 => .int
  | 8 => .int
  | 9 => .int
  | 10 => .int
  | _ => .int
theorem nmX0 : ∀ a, a < 12 → ∀ b, b < 12 → a ≠ b → (TX0 a).2.1 ≠ (TX0 b).2.1 := by decide +kernel
theorem tyX0_ok : ∀ k, k < 12 → parseFieldDescriptor (TX0 k).2.2.1 = some (tyX0 k) := by decide +kernel
abbrev cX0_init : ByteArray := prog_2_method_1_code
def yX0_init : MethodName := ⟨RX0, "<init>", "(I)V"⟩
abbrev cX0_renew : ByteArray := prog_2_method_2_code
def yX0_renew : MethodName := ⟨RX0, "renew", "()V"⟩
abbrev cX0_become : ByteArray := prog_2_method_3_code
def yX0_become : MethodName := ⟨RX0, "become", "(LLateLines$Box;)V"⟩
abbrev cX0_changedBit : ByteArray := prog_2_method_4_code
def yX0_changedBit : MethodName := ⟨RX0, "changedBit", "(I)I"⟩
abbrev cX0_valueAtLast : ByteArray := prog_2_method_5_code
def yX0_valueAtLast : MethodName := ⟨RX0, "valueAtLast", "(I)I"⟩
abbrev cX0_addAsker : ByteArray := prog_2_method_6_code
def yX0_addAsker : MethodName := ⟨RX0, "addAsker", "(IIII)V"⟩
abbrev cX0_takeFromFar : ByteArray := prog_2_method_7_code
def yX0_takeFromFar : MethodName := ⟨RX0, "takeFromFar", "()V"⟩
abbrev cX0_goFar : ByteArray := prog_2_method_8_code
def yX0_goFar : MethodName := ⟨RX0, "goFar", "()V"⟩
abbrev cX0_layIn : ByteArray := prog_2_method_9_code
def yX0_layIn : MethodName := ⟨RX0, "layIn", "(II)V"⟩
def RX1 : String := "LateLines$Loads"
def TX1 : u_T := fun k => match k with
  | 0 => ("LateLines$Loads", "gave", "[I", true)
  | 1 => ("LateLines$Loads", "waited", "[I", true)
  | 2 => ("LateLines$Loads", "began", "[I", true)
  | 3 => ("LateLines$Loads", "known", "I", false)
  | 4 => ("LateLines$Loads", "answered", "I", false)
  | 5 => ("LateLines$Loads", "greatest", "I", false)
  | 6 => ("LateLines$Loads", "sum", "J", false)
  | _ => ("LateLines$Loads", "squares", "J", false)
def tyX1 : Nat → FieldType := fun k => match k with
  | 0 => .array .int
  | 1 => .array .int
  | 2 => .array .int
  | 3 => .int
  | 4 => .int
  | 5 => .int
  | 6 => .long
  | _ => .long
theorem nmX1 : ∀ a, a < 8 → ∀ b, b < 8 → a ≠ b → (TX1 a).2.1 ≠ (TX1 b).2.1 := by decide +kernel
theorem tyX1_ok : ∀ k, k < 8 → parseFieldDescriptor (TX1 k).2.2.1 = some (tyX1 k) := by decide +kernel
abbrev cX1_init : ByteArray := prog_3_method_1_code
def yX1_init : MethodName := ⟨RX1, "<init>", "()V"⟩
abbrev cX1_renew : ByteArray := prog_3_method_2_code
def yX1_renew : MethodName := ⟨RX1, "renew", "()V"⟩
abbrev cX1_become : ByteArray := prog_3_method_3_code
def yX1_become : MethodName := ⟨RX1, "become", "(LLateLines$Loads;)V"⟩
abbrev cX1_add : ByteArray := prog_3_method_4_code
def yX1_add : MethodName := ⟨RX1, "add", "(I)I"⟩
abbrev cX1_answer : ByteArray := prog_3_method_5_code
def yX1_answer : MethodName := ⟨RX1, "answer", "(III)V"⟩
abbrev cX1_meanWait : ByteArray := prog_3_method_6_code
def yX1_meanWait : MethodName := ⟨RX1, "meanWait", "()F"⟩
abbrev cX1_spread : ByteArray := prog_3_method_7_code
def yX1_spread : MethodName := ⟨RX1, "spread", "()D"⟩
def RX2 : String := "LateLines$State"
def TX2 : u_T := fun k => match k with
  | 0 => ("LateLines$State", "limits", "[I", true)
  | 1 => ("LateLines$State", "counts", "[I", true)
  | 2 => ("LateLines$State", "boxes", "[LLateLines$Box;", true)
  | 3 => ("LateLines$State", "loads", "LLateLines$Loads;", true)
  | 4 => ("LateLines$State", "cost", "F", false)
  | 5 => ("LateLines$State", "fetches", "I", false)
  | 6 => ("LateLines$State", "shelved", "I", false)
  | 7 => ("LateLines$State", "uses", "I", false)
  | _ => ("LateLines$State", "soonest", "I", false)
def tyX2 : Nat → FieldType := fun k => match k with
  | 0 => .array .int
  | 1 => .array .int
  | 2 => .array (.object "LateLines$Box")
  | 3 => .object "LateLines$Loads"
  | 4 => .float
  | 5 => .int
  | 6 => .int
  | 7 => .int
  | _ => .int
theorem nmX2 : ∀ a, a < 9 → ∀ b, b < 9 → a ≠ b → (TX2 a).2.1 ≠ (TX2 b).2.1 := by decide +kernel
theorem tyX2_ok : ∀ k, k < 9 → parseFieldDescriptor (TX2 k).2.2.1 = some (tyX2 k) := by decide +kernel
abbrev cX2_init : ByteArray := prog_4_method_1_code
def yX2_init : MethodName := ⟨RX2, "<init>", "()V"⟩
abbrev cX2_renew : ByteArray := prog_4_method_2_code
def yX2_renew : MethodName := ⟨RX2, "renew", "()V"⟩
abbrev cX2_become : ByteArray := prog_4_method_3_code
def yX2_become : MethodName := ⟨RX2, "become", "(LLateLines$State;)V"⟩
abbrev cX2_begin : ByteArray := prog_4_method_4_code
def yX2_begin : MethodName := ⟨RX2, "begin", "(LLateLines$Box;II)I"⟩
abbrev cX2_pause : ByteArray := prog_4_method_5_code
def yX2_pause : MethodName := ⟨RX2, "pause", "(I)V"⟩
abbrev cX2_carryOut : ByteArray := prog_4_method_6_code
def yX2_carryOut : MethodName := ⟨RX2, "carryOut", "(LLateLines$Text;)V"⟩
abbrev cX2_startTrial : ByteArray := prog_4_method_7_code
def yX2_startTrial : MethodName := ⟨RX2, "startTrial", "([II)V"⟩
abbrev cX2_awaitFetches : ByteArray := prog_4_method_8_code
def yX2_awaitFetches : MethodName := ⟨RX2, "awaitFetches", "()V"⟩
abbrev cX2_tally : ByteArray := prog_4_method_9_code
def yX2_tally : MethodName := ⟨RX2, "tally", "(IF)V"⟩
abbrev cX2_pass : ByteArray := prog_4_method_10_code
def yX2_pass : MethodName := ⟨RX2, "pass", "()V"⟩
abbrev cX2_come : ByteArray := prog_4_method_11_code
def yX2_come : MethodName := ⟨RX2, "come", "(LLateLines$Box;)V"⟩
abbrev cX2_settle : ByteArray := prog_4_method_12_code
def yX2_settle : MethodName := ⟨RX2, "settle", "(LLateLines$Box;)V"⟩
abbrev cX2_whoMustGo : ByteArray := prog_4_method_13_code
def yX2_whoMustGo : MethodName := ⟨RX2, "whoMustGo", "(I)LLateLines$Box;"⟩
abbrev cX2_use : ByteArray := prog_4_method_14_code
def yX2_use : MethodName := ⟨RX2, "use", "(LLateLines$Box;)V"⟩
abbrev cX2_setDue : ByteArray := prog_4_method_15_code
def yX2_setDue : MethodName := ⟨RX2, "setDue", "(LLateLines$Box;I)V"⟩
abbrev cX2_ask : ByteArray := prog_4_method_16_code
def yX2_ask : MethodName := ⟨RX2, "ask", "(LLateLines$Box;II)Z"⟩
abbrev cX2_takeAsker : ByteArray := prog_4_method_17_code
def yX2_takeAsker : MethodName := ⟨RX2, "takeAsker", "(LLateLines$Box;II)V"⟩
abbrev cX2_serve : ByteArray := prog_4_method_18_code
def yX2_serve : MethodName := ⟨RX2, "serve", "(LLateLines$Box;IIII)V"⟩
abbrev cX2_boxInPlace : ByteArray := prog_4_method_19_code
def yX2_boxInPlace : MethodName := ⟨RX2, "boxInPlace", "(II)I"⟩
abbrev cX2_boxOfFetch : ByteArray := prog_4_method_20_code
def yX2_boxOfFetch : MethodName := ⟨RX2, "boxOfFetch", "(I)LLateLines$Box;"⟩
def RX3 : String := "LateLines$Text"
def TX3 : u_T := fun k => match k with
  | 0 => ("LateLines$Text", "bytes", "[I", true)
  | 1 => ("LateLines$Text", "orderBox", "[I", true)
  | 2 => ("LateLines$Text", "orderItem", "[I", true)
  | 3 => ("LateLines$Text", "orderNumber", "[I", true)
  | 4 => ("LateLines$Text", "length", "I", false)
  | 5 => ("LateLines$Text", "orders", "I", false)
  | 6 => ("LateLines$Text", "at", "I", false)
  | _ => ("LateLines$Text", "fault", "I", false)
def tyX3 : Nat → FieldType := fun k => match k with
  | 0 => .array .int
  | 1 => .array .int
  | 2 => .array .int
  | 3 => .array .int
  | 4 => .int
  | 5 => .int
  | 6 => .int
  | _ => .int
theorem nmX3 : ∀ a, a < 8 → ∀ b, b < 8 → a ≠ b → (TX3 a).2.1 ≠ (TX3 b).2.1 := by decide +kernel
theorem tyX3_ok : ∀ k, k < 8 → parseFieldDescriptor (TX3 k).2.2.1 = some (tyX3 k) := by decide +kernel
abbrev cX3_init : ByteArray := prog_5_method_1_code
def yX3_init : MethodName := ⟨RX3, "<init>", "()V"⟩
abbrev cX3_readOrders : ByteArray := prog_5_method_2_code
def yX3_readOrders : MethodName := ⟨RX3, "readOrders", "()I"⟩
abbrev cX3_peek : ByteArray := prog_5_method_3_code
def yX3_peek : MethodName := ⟨RX3, "peek", "()I"⟩
abbrev cX3_byteAt : ByteArray := prog_5_method_4_code
def yX3_byteAt : MethodName := ⟨RX3, "byteAt", "(I)I"⟩
abbrev cX3_readOrder : ByteArray := prog_5_method_5_code
def yX3_readOrder : MethodName := ⟨RX3, "readOrder", "()V"⟩
abbrev cX3_readAsking : ByteArray := prog_5_method_6_code
def yX3_readAsking : MethodName := ⟨RX3, "readAsking", "(I)V"⟩
abbrev cX3_readNumber : ByteArray := prog_5_method_7_code
def yX3_readNumber : MethodName := ⟨RX3, "readNumber", "()I"⟩
abbrev cX3_isFigure : ByteArray := prog_5_method_8_code
def yX3_isFigure : MethodName := ⟨RX3, "isFigure", "(I)Z"⟩
abbrev cX3_addOrder : ByteArray := prog_5_method_9_code
def yX3_addOrder : MethodName := ⟨RX3, "addOrder", "(III)V"⟩
def RX4 : String := "LateLines"
def TX4 : u_T := fun k => match k with
  | 0 => ("LateLines", "now", "LLateLines$State;", true)
  | 1 => ("LateLines", "trial", "LLateLines$State;", true)
  | 2 => ("LateLines", "kept", "[LLateLines$State;", true)
  | 3 => ("LateLines", "text", "LLateLines$Text;", true)
  | 4 => ("LateLines", "refused", "[I", true)
  | 5 => ("LateLines", "newest", "I", false)
  | _ => ("LateLines", "states", "I", false)
def tyX4 : Nat → FieldType := fun k => match k with
  | 0 => .object "LateLines$State"
  | 1 => .object "LateLines$State"
  | 2 => .array (.object "LateLines$State")
  | 3 => .object "LateLines$Text"
  | 4 => .array .int
  | 5 => .int
  | _ => .int
theorem nmX4 : ∀ a, a < 7 → ∀ b, b < 7 → a ≠ b → (TX4 a).2.1 ≠ (TX4 b).2.1 := by decide +kernel
theorem tyX4_ok : ∀ k, k < 7 → parseFieldDescriptor (TX4 k).2.2.1 = some (tyX4 k) := by decide +kernel
abbrev cX4_init : ByteArray := prog_1_method_1_code
def yX4_init : MethodName := ⟨RX4, "<init>", "()V"⟩
abbrev cX4_sets : ByteArray := prog_1_method_2_code
def yX4_sets : MethodName := ⟨RX4, "sets", "(II)I"⟩
abbrev cX4_anew : ByteArray := prog_1_method_3_code
def yX4_anew : MethodName := ⟨RX4, "anew", "()I"⟩
abbrev cX4_load : ByteArray := prog_1_method_4_code
def yX4_load : MethodName := ⟨RX4, "load", "(II)I"⟩
abbrev cX4_store : ByteArray := prog_1_method_5_code
def yX4_store : MethodName := ⟨RX4, "store", "(III)I"⟩
abbrev cX4_fence : ByteArray := prog_1_method_6_code
def yX4_fence : MethodName := ⟨RX4, "fence", "()I"⟩
abbrev cX4_ticks : ByteArray := prog_1_method_7_code
def yX4_ticks : MethodName := ⟨RX4, "ticks", "(I)I"⟩
abbrev cX4_got : ByteArray := prog_1_method_9_code
def yX4_got : MethodName := ⟨RX4, "got", "(II)I"⟩
abbrev cX4_often : ByteArray := prog_1_method_10_code
def yX4_often : MethodName := ⟨RX4, "often", "(I)I"⟩
abbrev cX4_where : ByteArray := prog_1_method_11_code
def yX4_where : MethodName := ⟨RX4, "where", "(I)I"⟩
abbrev cX4_item : ByteArray := prog_1_method_12_code
def yX4_item : MethodName := ⟨RX4, "item", "(III)I"⟩
abbrev cX4_place : ByteArray := prog_1_method_13_code
def yX4_place : MethodName := ⟨RX4, "place", "(II)I"⟩
abbrev cX4_fetch : ByteArray := prog_1_method_14_code
def yX4_fetch : MethodName := ⟨RX4, "fetch", "(II)I"⟩
abbrev cX4_cost : ByteArray := prog_1_method_15_code
def yX4_cost : MethodName := ⟨RX4, "cost", "(I)I"⟩
abbrev cX4_even : ByteArray := prog_1_method_16_code
def yX4_even : MethodName := ⟨RX4, "even", "()J"⟩
abbrev cX4_best : ByteArray := prog_1_method_17_code
def yX4_best : MethodName := ⟨RX4, "best", "(I)I"⟩
abbrev cX4_type : ByteArray := prog_1_method_18_code
def yX4_type : MethodName := ⟨RX4, "type", "(I)I"⟩
abbrev cX4_clear : ByteArray := prog_1_method_19_code
def yX4_clear : MethodName := ⟨RX4, "clear", "()I"⟩
abbrev cX4_runs : ByteArray := prog_1_method_20_code
def yX4_runs : MethodName := ⟨RX4, "runs", "()I"⟩
abbrev cX4_back : ByteArray := prog_1_method_21_code
def yX4_back : MethodName := ⟨RX4, "back", "()I"⟩
abbrev cX4_told : ByteArray := prog_1_method_22_code
def yX4_told : MethodName := ⟨RX4, "told", "(I)I"⟩
abbrev cX4_isBox : ByteArray := prog_1_method_24_code
def yX4_isBox : MethodName := ⟨RX4, "isBox", "(I)Z"⟩
abbrev cX4_isItem : ByteArray := prog_1_method_25_code
def yX4_isItem : MethodName := ⟨RX4, "isItem", "(I)Z"⟩
abbrev cX4_refuse : ByteArray := prog_1_method_26_code
def yX4_refuse : MethodName := ⟨RX4, "refuse", "(I)I"⟩
abbrev cX4_keep : ByteArray := prog_1_method_27_code
def yX4_keep : MethodName := ⟨RX4, "keep", "()V"⟩
abbrev cX4_floatBits : ByteArray := prog_1_method_28_code
def yX4_floatBits : MethodName := ⟨RX4, "floatBits", "(F)I"⟩
abbrev cX4_doubleBits : ByteArray := prog_1_method_29_code
def yX4_doubleBits : MethodName := ⟨RX4, "doubleBits", "(D)J"⟩
def RX5 : String := "LateLinesModel"
def TX5 : u_T := fun k => match k with
  | _ => ("", "", "", false)
def tyX5 : Nat → FieldType := fun k => match k with
  | _ => .int
theorem nmX5 : ∀ a, a < 0 → ∀ b, b < 0 → a ≠ b → (TX5 a).2.1 ≠ (TX5 b).2.1 := by decide +kernel
theorem tyX5_ok : ∀ k, k < 0 → parseFieldDescriptor (TX5 k).2.2.1 = some (tyX5 k) := by decide +kernel
def RJ9 : String := "java/lang/Math"
abbrev cJ9_max_7cf53 : ByteArray := prog_8_method_65_code
def yJ9_max_7cf53 : MethodName := ⟨RJ9, "max", "(II)I"⟩
abbrev cJ9_min_7cf53 : ByteArray := prog_8_method_69_code
def yJ9_min_7cf53 : MethodName := ⟨RJ9, "min", "(II)I"⟩
def RJ10 : String := "java/lang/System"
def RL : String := "LateLinesLaw"
abbrev cL_low : ByteArray := method_2_code
def yL_low : MethodName := ⟨RL, "low", "(II)I"⟩
abbrev cL_cell : ByteArray := method_3_code
def yL_cell : MethodName := ⟨RL, "cell", "([II)I"⟩
abbrev cL_law : ByteArray := code
def yL_law : MethodName := ⟨RL, "law", "([I)Z"⟩
abbrev vwCl : List vw_C := [(RX0, TX0, 12), (RX1, TX1, 8), (RX2, TX2, 9), (RX3, TX3, 8), (RX4, TX4, 7)]
