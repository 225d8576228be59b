-- ===== PART A: goes FIRST, ahead of the names: the tables' words, and 'selects' of the private methods out of them =====
/-- a private method of a class that the tables say can be made, by its rows of tables_1 -/
def lw_okq (q : MethodName × Nat) : Prop := (q.1.cls ≠ "java/lang/invoke/MethodHandle" ∧ q.1.cls ≠ "java/lang/invoke/VarHandle") ∧ Cond.instantiable q.1.cls q.2 ∈ tables_1 ∧ Cond.privateMethod q.1 ∈ tables_1 ∧ Cond.instanceMethod q.1 ∈ tables_1
theorem lw_p0 : lw_okq (⟨"LateLines$State", "renew", "()V"⟩, 9) := ⟨⟨by decide +kernel, by decide +kernel⟩, List.mem_of_getElem? (i := 20) (by decide +kernel), List.mem_of_getElem? (i := 127) (by decide +kernel), List.mem_of_getElem? (i := 128) (by decide +kernel)⟩
theorem lw_p1 : lw_okq (⟨"LateLines$Box", "renew", "()V"⟩, 12) := ⟨⟨by decide +kernel, by decide +kernel⟩, List.mem_of_getElem? (i := 32) (by decide +kernel), List.mem_of_getElem? (i := 131) (by decide +kernel), List.mem_of_getElem? (i := 132) (by decide +kernel)⟩
theorem lw_p2 : lw_okq (⟨"LateLines$Loads", "renew", "()V"⟩, 8) := ⟨⟨by decide +kernel, by decide +kernel⟩, List.mem_of_getElem? (i := 91) (by decide +kernel), List.mem_of_getElem? (i := 136) (by decide +kernel), List.mem_of_getElem? (i := 137) (by decide +kernel)⟩
theorem lw_p3 : lw_okq (⟨"LateLines", "refuse", "(I)I"⟩, 7) := ⟨⟨by decide +kernel, by decide +kernel⟩, List.mem_of_getElem? (i := 12) (by decide +kernel), List.mem_of_getElem? (i := 242) (by decide +kernel), List.mem_of_getElem? (i := 243) (by decide +kernel)⟩
theorem lw_p4 : lw_okq (⟨"LateLines", "keep", "()V"⟩, 7) := ⟨⟨by decide +kernel, by decide +kernel⟩, List.mem_of_getElem? (i := 12) (by decide +kernel), List.mem_of_getElem? (i := 246) (by decide +kernel), List.mem_of_getElem? (i := 247) (by decide +kernel)⟩
theorem lw_p5 : lw_okq (⟨"LateLines$State", "become", "(LLateLines$State;)V"⟩, 9) := ⟨⟨by decide +kernel, by decide +kernel⟩, List.mem_of_getElem? (i := 20) (by decide +kernel), List.mem_of_getElem? (i := 250) (by decide +kernel), List.mem_of_getElem? (i := 251) (by decide +kernel)⟩
theorem lw_p6 : lw_okq (⟨"LateLines$Box", "become", "(LLateLines$Box;)V"⟩, 12) := ⟨⟨by decide +kernel, by decide +kernel⟩, List.mem_of_getElem? (i := 32) (by decide +kernel), List.mem_of_getElem? (i := 254) (by decide +kernel), List.mem_of_getElem? (i := 255) (by decide +kernel)⟩
theorem lw_p7 : lw_okq (⟨"LateLines$Loads", "become", "(LLateLines$Loads;)V"⟩, 8) := ⟨⟨by decide +kernel, by decide +kernel⟩, List.mem_of_getElem? (i := 91) (by decide +kernel), List.mem_of_getElem? (i := 259) (by decide +kernel), List.mem_of_getElem? (i := 260) (by decide +kernel)⟩
theorem lw_p8 : lw_okq (⟨"LateLines$State", "begin", "(LLateLines$Box;II)I"⟩, 9) := ⟨⟨by decide +kernel, by decide +kernel⟩, List.mem_of_getElem? (i := 20) (by decide +kernel), List.mem_of_getElem? (i := 285) (by decide +kernel), List.mem_of_getElem? (i := 286) (by decide +kernel)⟩
theorem lw_p9 : lw_okq (⟨"LateLines$State", "pass", "()V"⟩, 9) := ⟨⟨by decide +kernel, by decide +kernel⟩, List.mem_of_getElem? (i := 20) (by decide +kernel), List.mem_of_getElem? (i := 289) (by decide +kernel), List.mem_of_getElem? (i := 290) (by decide +kernel)⟩
theorem lw_p10 : lw_okq (⟨"LateLines$Box", "goFar", "()V"⟩, 12) := ⟨⟨by decide +kernel, by decide +kernel⟩, List.mem_of_getElem? (i := 32) (by decide +kernel), List.mem_of_getElem? (i := 293) (by decide +kernel), List.mem_of_getElem? (i := 294) (by decide +kernel)⟩
theorem lw_p11 : lw_okq (⟨"LateLines$State", "tally", "(IF)V"⟩, 9) := ⟨⟨by decide +kernel, by decide +kernel⟩, List.mem_of_getElem? (i := 20) (by decide +kernel), List.mem_of_getElem? (i := 298) (by decide +kernel), List.mem_of_getElem? (i := 299) (by decide +kernel)⟩
theorem lw_p12 : lw_okq (⟨"LateLines$State", "come", "(LLateLines$Box;)V"⟩, 9) := ⟨⟨by decide +kernel, by decide +kernel⟩, List.mem_of_getElem? (i := 20) (by decide +kernel), List.mem_of_getElem? (i := 302) (by decide +kernel), List.mem_of_getElem? (i := 303) (by decide +kernel)⟩
theorem lw_p13 : lw_okq (⟨"LateLines$Box", "takeFromFar", "()V"⟩, 12) := ⟨⟨by decide +kernel, by decide +kernel⟩, List.mem_of_getElem? (i := 32) (by decide +kernel), List.mem_of_getElem? (i := 306) (by decide +kernel), List.mem_of_getElem? (i := 307) (by decide +kernel)⟩
theorem lw_p14 : lw_okq (⟨"LateLines$State", "settle", "(LLateLines$Box;)V"⟩, 9) := ⟨⟨by decide +kernel, by decide +kernel⟩, List.mem_of_getElem? (i := 20) (by decide +kernel), List.mem_of_getElem? (i := 310) (by decide +kernel), List.mem_of_getElem? (i := 311) (by decide +kernel)⟩
theorem lw_p15 : lw_okq (⟨"LateLines$State", "whoMustGo", "(I)LLateLines$Box;"⟩, 9) := ⟨⟨by decide +kernel, by decide +kernel⟩, List.mem_of_getElem? (i := 20) (by decide +kernel), List.mem_of_getElem? (i := 314) (by decide +kernel), List.mem_of_getElem? (i := 315) (by decide +kernel)⟩
def lw_privs_1 : List (MethodName × Nat) := [(⟨"LateLines$State", "renew", "()V"⟩, 9), (⟨"LateLines$Box", "renew", "()V"⟩, 12), (⟨"LateLines$Loads", "renew", "()V"⟩, 8), (⟨"LateLines", "refuse", "(I)I"⟩, 7), (⟨"LateLines", "keep", "()V"⟩, 7), (⟨"LateLines$State", "become", "(LLateLines$State;)V"⟩, 9), (⟨"LateLines$Box", "become", "(LLateLines$Box;)V"⟩, 12), (⟨"LateLines$Loads", "become", "(LLateLines$Loads;)V"⟩, 8), (⟨"LateLines$State", "begin", "(LLateLines$Box;II)I"⟩, 9), (⟨"LateLines$State", "pass", "()V"⟩, 9), (⟨"LateLines$Box", "goFar", "()V"⟩, 12), (⟨"LateLines$State", "tally", "(IF)V"⟩, 9), (⟨"LateLines$State", "come", "(LLateLines$Box;)V"⟩, 9), (⟨"LateLines$Box", "takeFromFar", "()V"⟩, 12), (⟨"LateLines$State", "settle", "(LLateLines$Box;)V"⟩, 9), (⟨"LateLines$State", "whoMustGo", "(I)LLateLines$Box;"⟩, 9)]
theorem lw_r1 : ∀ q ∈ lw_privs_1, lw_okq q := List.forall_mem_cons.mpr ⟨lw_p0, List.forall_mem_cons.mpr ⟨lw_p1, List.forall_mem_cons.mpr ⟨lw_p2, List.forall_mem_cons.mpr ⟨lw_p3, List.forall_mem_cons.mpr ⟨lw_p4, List.forall_mem_cons.mpr ⟨lw_p5, List.forall_mem_cons.mpr ⟨lw_p6, List.forall_mem_cons.mpr ⟨lw_p7, List.forall_mem_cons.mpr ⟨lw_p8, List.forall_mem_cons.mpr ⟨lw_p9, List.forall_mem_cons.mpr ⟨lw_p10, List.forall_mem_cons.mpr ⟨lw_p11, List.forall_mem_cons.mpr ⟨lw_p12, List.forall_mem_cons.mpr ⟨lw_p13, List.forall_mem_cons.mpr ⟨lw_p14, List.forall_mem_cons.mpr ⟨lw_p15, fun _ h => absurd h List.not_mem_nil⟩⟩⟩⟩⟩⟩⟩⟩⟩⟩⟩⟩⟩⟩⟩⟩
theorem lw_p16 : lw_okq (⟨"LateLines$State", "setDue", "(LLateLines$Box;I)V"⟩, 9) := ⟨⟨by decide +kernel, by decide +kernel⟩, List.mem_of_getElem? (i := 20) (by decide +kernel), List.mem_of_getElem? (i := 319) (by decide +kernel), List.mem_of_getElem? (i := 320) (by decide +kernel)⟩
theorem lw_p17 : lw_okq (⟨"LateLines$State", "use", "(LLateLines$Box;)V"⟩, 9) := ⟨⟨by decide +kernel, by decide +kernel⟩, List.mem_of_getElem? (i := 20) (by decide +kernel), List.mem_of_getElem? (i := 323) (by decide +kernel), List.mem_of_getElem? (i := 324) (by decide +kernel)⟩
theorem lw_p18 : lw_okq (⟨"LateLines$State", "serve", "(LLateLines$Box;IIII)V"⟩, 9) := ⟨⟨by decide +kernel, by decide +kernel⟩, List.mem_of_getElem? (i := 20) (by decide +kernel), List.mem_of_getElem? (i := 327) (by decide +kernel), List.mem_of_getElem? (i := 328) (by decide +kernel)⟩
theorem lw_p19 : lw_okq (⟨"LateLines$Box", "valueAtLast", "(I)I"⟩, 12) := ⟨⟨by decide +kernel, by decide +kernel⟩, List.mem_of_getElem? (i := 32) (by decide +kernel), List.mem_of_getElem? (i := 331) (by decide +kernel), List.mem_of_getElem? (i := 332) (by decide +kernel)⟩
theorem lw_p20 : lw_okq (⟨"LateLines$Loads", "answer", "(III)V"⟩, 8) := ⟨⟨by decide +kernel, by decide +kernel⟩, List.mem_of_getElem? (i := 91) (by decide +kernel), List.mem_of_getElem? (i := 335) (by decide +kernel), List.mem_of_getElem? (i := 336) (by decide +kernel)⟩
theorem lw_p21 : lw_okq (⟨"LateLines$Box", "layIn", "(II)V"⟩, 12) := ⟨⟨by decide +kernel, by decide +kernel⟩, List.mem_of_getElem? (i := 32) (by decide +kernel), List.mem_of_getElem? (i := 339) (by decide +kernel), List.mem_of_getElem? (i := 340) (by decide +kernel)⟩
theorem lw_p22 : lw_okq (⟨"LateLines$State", "ask", "(LLateLines$Box;II)Z"⟩, 9) := ⟨⟨by decide +kernel, by decide +kernel⟩, List.mem_of_getElem? (i := 20) (by decide +kernel), List.mem_of_getElem? (i := 344) (by decide +kernel), List.mem_of_getElem? (i := 345) (by decide +kernel)⟩
theorem lw_p23 : lw_okq (⟨"LateLines$State", "takeAsker", "(LLateLines$Box;II)V"⟩, 9) := ⟨⟨by decide +kernel, by decide +kernel⟩, List.mem_of_getElem? (i := 20) (by decide +kernel), List.mem_of_getElem? (i := 352) (by decide +kernel), List.mem_of_getElem? (i := 353) (by decide +kernel)⟩
theorem lw_p24 : lw_okq (⟨"LateLines$Loads", "add", "(I)I"⟩, 8) := ⟨⟨by decide +kernel, by decide +kernel⟩, List.mem_of_getElem? (i := 91) (by decide +kernel), List.mem_of_getElem? (i := 356) (by decide +kernel), List.mem_of_getElem? (i := 357) (by decide +kernel)⟩
theorem lw_p25 : lw_okq (⟨"LateLines$Box", "addAsker", "(IIII)V"⟩, 12) := ⟨⟨by decide +kernel, by decide +kernel⟩, List.mem_of_getElem? (i := 32) (by decide +kernel), List.mem_of_getElem? (i := 360) (by decide +kernel), List.mem_of_getElem? (i := 361) (by decide +kernel)⟩
theorem lw_p26 : lw_okq (⟨"LateLines$State", "pause", "(I)V"⟩, 9) := ⟨⟨by decide +kernel, by decide +kernel⟩, List.mem_of_getElem? (i := 20) (by decide +kernel), List.mem_of_getElem? (i := 377) (by decide +kernel), List.mem_of_getElem? (i := 378) (by decide +kernel)⟩
theorem lw_p27 : lw_okq (⟨"LateLines$Box", "changedBit", "(I)I"⟩, 12) := ⟨⟨by decide +kernel, by decide +kernel⟩, List.mem_of_getElem? (i := 32) (by decide +kernel), List.mem_of_getElem? (i := 414) (by decide +kernel), List.mem_of_getElem? (i := 415) (by decide +kernel)⟩
theorem lw_p28 : lw_okq (⟨"LateLines$State", "boxInPlace", "(II)I"⟩, 9) := ⟨⟨by decide +kernel, by decide +kernel⟩, List.mem_of_getElem? (i := 20) (by decide +kernel), List.mem_of_getElem? (i := 422) (by decide +kernel), List.mem_of_getElem? (i := 423) (by decide +kernel)⟩
theorem lw_p29 : lw_okq (⟨"LateLines$State", "boxOfFetch", "(I)LLateLines$Box;"⟩, 9) := ⟨⟨by decide +kernel, by decide +kernel⟩, List.mem_of_getElem? (i := 20) (by decide +kernel), List.mem_of_getElem? (i := 430) (by decide +kernel), List.mem_of_getElem? (i := 431) (by decide +kernel)⟩
theorem lw_p30 : lw_okq (⟨"LateLines$Loads", "meanWait", "()F"⟩, 8) := ⟨⟨by decide +kernel, by decide +kernel⟩, List.mem_of_getElem? (i := 91) (by decide +kernel), List.mem_of_getElem? (i := 438) (by decide +kernel), List.mem_of_getElem? (i := 439) (by decide +kernel)⟩
theorem lw_p31 : lw_okq (⟨"LateLines$Loads", "spread", "()D"⟩, 8) := ⟨⟨by decide +kernel, by decide +kernel⟩, List.mem_of_getElem? (i := 91) (by decide +kernel), List.mem_of_getElem? (i := 452) (by decide +kernel), List.mem_of_getElem? (i := 453) (by decide +kernel)⟩
def lw_privs_2 : List (MethodName × Nat) := [(⟨"LateLines$State", "setDue", "(LLateLines$Box;I)V"⟩, 9), (⟨"LateLines$State", "use", "(LLateLines$Box;)V"⟩, 9), (⟨"LateLines$State", "serve", "(LLateLines$Box;IIII)V"⟩, 9), (⟨"LateLines$Box", "valueAtLast", "(I)I"⟩, 12), (⟨"LateLines$Loads", "answer", "(III)V"⟩, 8), (⟨"LateLines$Box", "layIn", "(II)V"⟩, 12), (⟨"LateLines$State", "ask", "(LLateLines$Box;II)Z"⟩, 9), (⟨"LateLines$State", "takeAsker", "(LLateLines$Box;II)V"⟩, 9), (⟨"LateLines$Loads", "add", "(I)I"⟩, 8), (⟨"LateLines$Box", "addAsker", "(IIII)V"⟩, 12), (⟨"LateLines$State", "pause", "(I)V"⟩, 9), (⟨"LateLines$Box", "changedBit", "(I)I"⟩, 12), (⟨"LateLines$State", "boxInPlace", "(II)I"⟩, 9), (⟨"LateLines$State", "boxOfFetch", "(I)LLateLines$Box;"⟩, 9), (⟨"LateLines$Loads", "meanWait", "()F"⟩, 8), (⟨"LateLines$Loads", "spread", "()D"⟩, 8)]
theorem lw_r2 : ∀ q ∈ lw_privs_2, lw_okq q := List.forall_mem_cons.mpr ⟨lw_p16, List.forall_mem_cons.mpr ⟨lw_p17, List.forall_mem_cons.mpr ⟨lw_p18, List.forall_mem_cons.mpr ⟨lw_p19, List.forall_mem_cons.mpr ⟨lw_p20, List.forall_mem_cons.mpr ⟨lw_p21, List.forall_mem_cons.mpr ⟨lw_p22, List.forall_mem_cons.mpr ⟨lw_p23, List.forall_mem_cons.mpr ⟨lw_p24, List.forall_mem_cons.mpr ⟨lw_p25, List.forall_mem_cons.mpr ⟨lw_p26, List.forall_mem_cons.mpr ⟨lw_p27, List.forall_mem_cons.mpr ⟨lw_p28, List.forall_mem_cons.mpr ⟨lw_p29, List.forall_mem_cons.mpr ⟨lw_p30, List.forall_mem_cons.mpr ⟨lw_p31, fun _ h => absurd h List.not_mem_nil⟩⟩⟩⟩⟩⟩⟩⟩⟩⟩⟩⟩⟩⟩⟩⟩
theorem lw_p32 : lw_okq (⟨"LateLines$Text", "readOrders", "()I"⟩, 8) := ⟨⟨by decide +kernel, by decide +kernel⟩, List.mem_of_getElem? (i := 175) (by decide +kernel), List.mem_of_getElem? (i := 468) (by decide +kernel), List.mem_of_getElem? (i := 469) (by decide +kernel)⟩
theorem lw_p33 : lw_okq (⟨"LateLines$Text", "peek", "()I"⟩, 8) := ⟨⟨by decide +kernel, by decide +kernel⟩, List.mem_of_getElem? (i := 175) (by decide +kernel), List.mem_of_getElem? (i := 472) (by decide +kernel), List.mem_of_getElem? (i := 473) (by decide +kernel)⟩
theorem lw_p34 : lw_okq (⟨"LateLines$Text", "byteAt", "(I)I"⟩, 8) := ⟨⟨by decide +kernel, by decide +kernel⟩, List.mem_of_getElem? (i := 175) (by decide +kernel), List.mem_of_getElem? (i := 476) (by decide +kernel), List.mem_of_getElem? (i := 477) (by decide +kernel)⟩
theorem lw_p35 : lw_okq (⟨"LateLines$Text", "readOrder", "()V"⟩, 8) := ⟨⟨by decide +kernel, by decide +kernel⟩, List.mem_of_getElem? (i := 175) (by decide +kernel), List.mem_of_getElem? (i := 480) (by decide +kernel), List.mem_of_getElem? (i := 481) (by decide +kernel)⟩
theorem lw_p36 : lw_okq (⟨"LateLines$Text", "readAsking", "(I)V"⟩, 8) := ⟨⟨by decide +kernel, by decide +kernel⟩, List.mem_of_getElem? (i := 175) (by decide +kernel), List.mem_of_getElem? (i := 484) (by decide +kernel), List.mem_of_getElem? (i := 485) (by decide +kernel)⟩
theorem lw_p37 : lw_okq (⟨"LateLines$Text", "readNumber", "()I"⟩, 8) := ⟨⟨by decide +kernel, by decide +kernel⟩, List.mem_of_getElem? (i := 175) (by decide +kernel), List.mem_of_getElem? (i := 489) (by decide +kernel), List.mem_of_getElem? (i := 490) (by decide +kernel)⟩
theorem lw_p38 : lw_okq (⟨"LateLines$Text", "addOrder", "(III)V"⟩, 8) := ⟨⟨by decide +kernel, by decide +kernel⟩, List.mem_of_getElem? (i := 175) (by decide +kernel), List.mem_of_getElem? (i := 496) (by decide +kernel), List.mem_of_getElem? (i := 497) (by decide +kernel)⟩
theorem lw_p39 : lw_okq (⟨"LateLines$State", "startTrial", "([II)V"⟩, 9) := ⟨⟨by decide +kernel, by decide +kernel⟩, List.mem_of_getElem? (i := 20) (by decide +kernel), List.mem_of_getElem? (i := 501) (by decide +kernel), List.mem_of_getElem? (i := 502) (by decide +kernel)⟩
theorem lw_p40 : lw_okq (⟨"LateLines$State", "carryOut", "(LLateLines$Text;)V"⟩, 9) := ⟨⟨by decide +kernel, by decide +kernel⟩, List.mem_of_getElem? (i := 20) (by decide +kernel), List.mem_of_getElem? (i := 505) (by decide +kernel), List.mem_of_getElem? (i := 506) (by decide +kernel)⟩
theorem lw_p41 : lw_okq (⟨"LateLines$State", "awaitFetches", "()V"⟩, 9) := ⟨⟨by decide +kernel, by decide +kernel⟩, List.mem_of_getElem? (i := 20) (by decide +kernel), List.mem_of_getElem? (i := 512) (by decide +kernel), List.mem_of_getElem? (i := 513) (by decide +kernel)⟩
theorem lw_p42 : lw_okq (⟨"LateLinesModel", "begins", "()V"⟩, 34) := ⟨⟨by decide +kernel, by decide +kernel⟩, List.mem_of_getElem? (i := 548) (by decide +kernel), List.mem_of_getElem? (i := 554) (by decide +kernel), List.mem_of_getElem? (i := 555) (by decide +kernel)⟩
theorem lw_p43 : lw_okq (⟨"LateLinesModel", "comesBack", "(I)V"⟩, 34) := ⟨⟨by decide +kernel, by decide +kernel⟩, List.mem_of_getElem? (i := 548) (by decide +kernel), List.mem_of_getElem? (i := 667) (by decide +kernel), List.mem_of_getElem? (i := 668) (by decide +kernel)⟩
theorem lw_p44 : lw_okq (⟨"LateLinesModel", "takes", "([II)V"⟩, 34) := ⟨⟨by decide +kernel, by decide +kernel⟩, List.mem_of_getElem? (i := 548) (by decide +kernel), List.mem_of_getElem? (i := 671) (by decide +kernel), List.mem_of_getElem? (i := 672) (by decide +kernel)⟩
theorem lw_p45 : lw_okq (⟨"LateLinesModel", "bad", "()I"⟩, 34) := ⟨⟨by decide +kernel, by decide +kernel⟩, List.mem_of_getElem? (i := 548) (by decide +kernel), List.mem_of_getElem? (i := 685) (by decide +kernel), List.mem_of_getElem? (i := 686) (by decide +kernel)⟩
theorem lw_p46 : lw_okq (⟨"LateLinesModel", "leavesState", "()V"⟩, 34) := ⟨⟨by decide +kernel, by decide +kernel⟩, List.mem_of_getElem? (i := 548) (by decide +kernel), List.mem_of_getElem? (i := 689) (by decide +kernel), List.mem_of_getElem? (i := 690) (by decide +kernel)⟩
theorem lw_p47 : lw_okq (⟨"LateLinesModel", "keeps", "(I)V"⟩, 34) := ⟨⟨by decide +kernel, by decide +kernel⟩, List.mem_of_getElem? (i := 548) (by decide +kernel), List.mem_of_getElem? (i := 693) (by decide +kernel), List.mem_of_getElem? (i := 694) (by decide +kernel)⟩
def lw_privs_3 : List (MethodName × Nat) := [(⟨"LateLines$Text", "readOrders", "()I"⟩, 8), (⟨"LateLines$Text", "peek", "()I"⟩, 8), (⟨"LateLines$Text", "byteAt", "(I)I"⟩, 8), (⟨"LateLines$Text", "readOrder", "()V"⟩, 8), (⟨"LateLines$Text", "readAsking", "(I)V"⟩, 8), (⟨"LateLines$Text", "readNumber", "()I"⟩, 8), (⟨"LateLines$Text", "addOrder", "(III)V"⟩, 8), (⟨"LateLines$State", "startTrial", "([II)V"⟩, 9), (⟨"LateLines$State", "carryOut", "(LLateLines$Text;)V"⟩, 9), (⟨"LateLines$State", "awaitFetches", "()V"⟩, 9), (⟨"LateLinesModel", "begins", "()V"⟩, 34), (⟨"LateLinesModel", "comesBack", "(I)V"⟩, 34), (⟨"LateLinesModel", "takes", "([II)V"⟩, 34), (⟨"LateLinesModel", "bad", "()I"⟩, 34), (⟨"LateLinesModel", "leavesState", "()V"⟩, 34), (⟨"LateLinesModel", "keeps", "(I)V"⟩, 34)]
theorem lw_r3 : ∀ q ∈ lw_privs_3, lw_okq q := List.forall_mem_cons.mpr ⟨lw_p32, List.forall_mem_cons.mpr ⟨lw_p33, List.forall_mem_cons.mpr ⟨lw_p34, List.forall_mem_cons.mpr ⟨lw_p35, List.forall_mem_cons.mpr ⟨lw_p36, List.forall_mem_cons.mpr ⟨lw_p37, List.forall_mem_cons.mpr ⟨lw_p38, List.forall_mem_cons.mpr ⟨lw_p39, List.forall_mem_cons.mpr ⟨lw_p40, List.forall_mem_cons.mpr ⟨lw_p41, List.forall_mem_cons.mpr ⟨lw_p42, List.forall_mem_cons.mpr ⟨lw_p43, List.forall_mem_cons.mpr ⟨lw_p44, List.forall_mem_cons.mpr ⟨lw_p45, List.forall_mem_cons.mpr ⟨lw_p46, List.forall_mem_cons.mpr ⟨lw_p47, fun _ h => absurd h List.not_mem_nil⟩⟩⟩⟩⟩⟩⟩⟩⟩⟩⟩⟩⟩⟩⟩⟩
theorem lw_p48 : lw_okq (⟨"LateLinesModel", "lays", "([II)V"⟩, 34) := ⟨⟨by decide +kernel, by decide +kernel⟩, List.mem_of_getElem? (i := 548) (by decide +kernel), List.mem_of_getElem? (i := 697) (by decide +kernel), List.mem_of_getElem? (i := 698) (by decide +kernel)⟩
theorem lw_p49 : lw_okq (⟨"LateLinesModel", "done", "(IIII)I"⟩, 34) := ⟨⟨by decide +kernel, by decide +kernel⟩, List.mem_of_getElem? (i := 548) (by decide +kernel), List.mem_of_getElem? (i := 715) (by decide +kernel), List.mem_of_getElem? (i := 716) (by decide +kernel)⟩
theorem lw_p50 : lw_okq (⟨"LateLinesModel", "goesBy", "()V"⟩, 34) := ⟨⟨by decide +kernel, by decide +kernel⟩, List.mem_of_getElem? (i := 548) (by decide +kernel), List.mem_of_getElem? (i := 719) (by decide +kernel), List.mem_of_getElem? (i := 720) (by decide +kernel)⟩
theorem lw_p51 : lw_okq (⟨"LateLinesModel", "comesTime", "()V"⟩, 34) := ⟨⟨by decide +kernel, by decide +kernel⟩, List.mem_of_getElem? (i := 548) (by decide +kernel), List.mem_of_getElem? (i := 723) (by decide +kernel), List.mem_of_getElem? (i := 724) (by decide +kernel)⟩
theorem lw_p52 : lw_okq (⟨"LateLinesModel", "goesFar", "(I)V"⟩, 34) := ⟨⟨by decide +kernel, by decide +kernel⟩, List.mem_of_getElem? (i := 548) (by decide +kernel), List.mem_of_getElem? (i := 727) (by decide +kernel), List.mem_of_getElem? (i := 728) (by decide +kernel)⟩
theorem lw_p53 : lw_okq (⟨"LateLinesModel", "comesFetched", "(I)V"⟩, 34) := ⟨⟨by decide +kernel, by decide +kernel⟩, List.mem_of_getElem? (i := 548) (by decide +kernel), List.mem_of_getElem? (i := 732) (by decide +kernel), List.mem_of_getElem? (i := 733) (by decide +kernel)⟩
theorem lw_p54 : lw_okq (⟨"LateLinesModel", "comesNear", "(I)V"⟩, 34) := ⟨⟨by decide +kernel, by decide +kernel⟩, List.mem_of_getElem? (i := 548) (by decide +kernel), List.mem_of_getElem? (i := 736) (by decide +kernel), List.mem_of_getElem? (i := 737) (by decide +kernel)⟩
theorem lw_p55 : lw_okq (⟨"LateLinesModel", "makesRoom", "(I)V"⟩, 34) := ⟨⟨by decide +kernel, by decide +kernel⟩, List.mem_of_getElem? (i := 548) (by decide +kernel), List.mem_of_getElem? (i := 743) (by decide +kernel), List.mem_of_getElem? (i := 744) (by decide +kernel)⟩
theorem lw_p56 : lw_okq (⟨"LateLinesModel", "halfLong", "()I"⟩, 34) := ⟨⟨by decide +kernel, by decide +kernel⟩, List.mem_of_getElem? (i := 548) (by decide +kernel), List.mem_of_getElem? (i := 747) (by decide +kernel), List.mem_of_getElem? (i := 748) (by decide +kernel)⟩
theorem lw_p57 : lw_okq (⟨"LateLinesModel", "laysIn", "(III)V"⟩, 34) := ⟨⟨by decide +kernel, by decide +kernel⟩, List.mem_of_getElem? (i := 548) (by decide +kernel), List.mem_of_getElem? (i := 751) (by decide +kernel), List.mem_of_getElem? (i := 752) (by decide +kernel)⟩
theorem lw_p58 : lw_okq (⟨"LateLinesModel", "getsItem", "(IIII)V"⟩, 34) := ⟨⟨by decide +kernel, by decide +kernel⟩, List.mem_of_getElem? (i := 548) (by decide +kernel), List.mem_of_getElem? (i := 755) (by decide +kernel), List.mem_of_getElem? (i := 756) (by decide +kernel)⟩
theorem lw_p59 : lw_okq (⟨"LateLinesModel", "beginsNow", "(IIII)Z"⟩, 34) := ⟨⟨by decide +kernel, by decide +kernel⟩, List.mem_of_getElem? (i := 548) (by decide +kernel), List.mem_of_getElem? (i := 759) (by decide +kernel), List.mem_of_getElem? (i := 760) (by decide +kernel)⟩
theorem lw_p60 : lw_okq (⟨"LateLinesModel", "counts", "(I)V"⟩, 34) := ⟨⟨by decide +kernel, by decide +kernel⟩, List.mem_of_getElem? (i := 548) (by decide +kernel), List.mem_of_getElem? (i := 763) (by decide +kernel), List.mem_of_getElem? (i := 764) (by decide +kernel)⟩
theorem lw_p61 : lw_okq (⟨"LateLinesModel", "does", "(IIII)V"⟩, 34) := ⟨⟨by decide +kernel, by decide +kernel⟩, List.mem_of_getElem? (i := 548) (by decide +kernel), List.mem_of_getElem? (i := 767) (by decide +kernel), List.mem_of_getElem? (i := 768) (by decide +kernel)⟩
theorem lw_p62 : lw_okq (⟨"LateLinesModel", "numberOf", "(I)I"⟩, 34) := ⟨⟨by decide +kernel, by decide +kernel⟩, List.mem_of_getElem? (i := 548) (by decide +kernel), List.mem_of_getElem? (i := 771) (by decide +kernel), List.mem_of_getElem? (i := 772) (by decide +kernel)⟩
theorem lw_p63 : lw_okq (⟨"LateLinesModel", "counted", "(IF)V"⟩, 34) := ⟨⟨by decide +kernel, by decide +kernel⟩, List.mem_of_getElem? (i := 548) (by decide +kernel), List.mem_of_getElem? (i := 776) (by decide +kernel), List.mem_of_getElem? (i := 777) (by decide +kernel)⟩
def lw_privs_4 : List (MethodName × Nat) := [(⟨"LateLinesModel", "lays", "([II)V"⟩, 34), (⟨"LateLinesModel", "done", "(IIII)I"⟩, 34), (⟨"LateLinesModel", "goesBy", "()V"⟩, 34), (⟨"LateLinesModel", "comesTime", "()V"⟩, 34), (⟨"LateLinesModel", "goesFar", "(I)V"⟩, 34), (⟨"LateLinesModel", "comesFetched", "(I)V"⟩, 34), (⟨"LateLinesModel", "comesNear", "(I)V"⟩, 34), (⟨"LateLinesModel", "makesRoom", "(I)V"⟩, 34), (⟨"LateLinesModel", "halfLong", "()I"⟩, 34), (⟨"LateLinesModel", "laysIn", "(III)V"⟩, 34), (⟨"LateLinesModel", "getsItem", "(IIII)V"⟩, 34), (⟨"LateLinesModel", "beginsNow", "(IIII)Z"⟩, 34), (⟨"LateLinesModel", "counts", "(I)V"⟩, 34), (⟨"LateLinesModel", "does", "(IIII)V"⟩, 34), (⟨"LateLinesModel", "numberOf", "(I)I"⟩, 34), (⟨"LateLinesModel", "counted", "(IF)V"⟩, 34)]
theorem lw_r4 : ∀ q ∈ lw_privs_4, lw_okq q := List.forall_mem_cons.mpr ⟨lw_p48, List.forall_mem_cons.mpr ⟨lw_p49, List.forall_mem_cons.mpr ⟨lw_p50, List.forall_mem_cons.mpr ⟨lw_p51, List.forall_mem_cons.mpr ⟨lw_p52, List.forall_mem_cons.mpr ⟨lw_p53, List.forall_mem_cons.mpr ⟨lw_p54, List.forall_mem_cons.mpr ⟨lw_p55, List.forall_mem_cons.mpr ⟨lw_p56, List.forall_mem_cons.mpr ⟨lw_p57, List.forall_mem_cons.mpr ⟨lw_p58, List.forall_mem_cons.mpr ⟨lw_p59, List.forall_mem_cons.mpr ⟨lw_p60, List.forall_mem_cons.mpr ⟨lw_p61, List.forall_mem_cons.mpr ⟨lw_p62, List.forall_mem_cons.mpr ⟨lw_p63, fun _ h => absurd h List.not_mem_nil⟩⟩⟩⟩⟩⟩⟩⟩⟩⟩⟩⟩⟩⟩⟩⟩
theorem lw_p64 : lw_okq (⟨"LateLinesModel", "asks", "(IIII)V"⟩, 34) := ⟨⟨by decide +kernel, by decide +kernel⟩, List.mem_of_getElem? (i := 548) (by decide +kernel), List.mem_of_getElem? (i := 781) (by decide +kernel), List.mem_of_getElem? (i := 782) (by decide +kernel)⟩
theorem lw_p65 : lw_okq (⟨"LateLinesModel", "atLast", "(II)I"⟩, 34) := ⟨⟨by decide +kernel, by decide +kernel⟩, List.mem_of_getElem? (i := 548) (by decide +kernel), List.mem_of_getElem? (i := 832) (by decide +kernel), List.mem_of_getElem? (i := 833) (by decide +kernel)⟩
theorem lw_p66 : lw_okq (⟨"LateLinesModel", "costBy", "(I)F"⟩, 34) := ⟨⟨by decide +kernel, by decide +kernel⟩, List.mem_of_getElem? (i := 548) (by decide +kernel), List.mem_of_getElem? (i := 848) (by decide +kernel), List.mem_of_getElem? (i := 849) (by decide +kernel)⟩
theorem lw_p67 : lw_okq (⟨"LateLinesModel", "goesThrough", "(Z)I"⟩, 34) := ⟨⟨by decide +kernel, by decide +kernel⟩, List.mem_of_getElem? (i := 548) (by decide +kernel), List.mem_of_getElem? (i := 888) (by decide +kernel), List.mem_of_getElem? (i := 889) (by decide +kernel)⟩
theorem lw_p68 : lw_okq (⟨"LateLinesModel", "skips", "()V"⟩, 34) := ⟨⟨by decide +kernel, by decide +kernel⟩, List.mem_of_getElem? (i := 548) (by decide +kernel), List.mem_of_getElem? (i := 892) (by decide +kernel), List.mem_of_getElem? (i := 893) (by decide +kernel)⟩
theorem lw_p69 : lw_okq (⟨"LateLinesModel", "here", "()I"⟩, 34) := ⟨⟨by decide +kernel, by decide +kernel⟩, List.mem_of_getElem? (i := 548) (by decide +kernel), List.mem_of_getElem? (i := 896) (by decide +kernel), List.mem_of_getElem? (i := 897) (by decide +kernel)⟩
theorem lw_p70 : lw_okq (⟨"LateLinesModel", "readsOrder", "(Z)Z"⟩, 34) := ⟨⟨by decide +kernel, by decide +kernel⟩, List.mem_of_getElem? (i := 548) (by decide +kernel), List.mem_of_getElem? (i := 900) (by decide +kernel), List.mem_of_getElem? (i := 901) (by decide +kernel)⟩
theorem lw_p71 : lw_okq (⟨"LateLinesModel", "readsBox", "(Z)Z"⟩, 34) := ⟨⟨by decide +kernel, by decide +kernel⟩, List.mem_of_getElem? (i := 548) (by decide +kernel), List.mem_of_getElem? (i := 904) (by decide +kernel), List.mem_of_getElem? (i := 905) (by decide +kernel)⟩
theorem lw_p72 : lw_okq (⟨"LateLinesModel", "number", "()Z"⟩, 34) := ⟨⟨by decide +kernel, by decide +kernel⟩, List.mem_of_getElem? (i := 548) (by decide +kernel), List.mem_of_getElem? (i := 908) (by decide +kernel), List.mem_of_getElem? (i := 909) (by decide +kernel)⟩
theorem lw_p73 : lw_okq (⟨"LateLinesModel", "ends", "()Z"⟩, 34) := ⟨⟨by decide +kernel, by decide +kernel⟩, List.mem_of_getElem? (i := 548) (by decide +kernel), List.mem_of_getElem? (i := 912) (by decide +kernel), List.mem_of_getElem? (i := 913) (by decide +kernel)⟩
theorem lw_p74 : lw_okq (⟨"LateLinesModel", "ticksBy", "(I)I"⟩, 34) := ⟨⟨by decide +kernel, by decide +kernel⟩, List.mem_of_getElem? (i := 548) (by decide +kernel), List.mem_of_getElem? (i := 920) (by decide +kernel), List.mem_of_getElem? (i := 921) (by decide +kernel)⟩
theorem lw_p75 : lw_okq (⟨"LateLinesModel", "toldBy", "(I)I"⟩, 34) := ⟨⟨by decide +kernel, by decide +kernel⟩, List.mem_of_getElem? (i := 548) (by decide +kernel), List.mem_of_getElem? (i := 928) (by decide +kernel), List.mem_of_getElem? (i := 929) (by decide +kernel)⟩
def lw_privs_5 : List (MethodName × Nat) := [(⟨"LateLinesModel", "asks", "(IIII)V"⟩, 34), (⟨"LateLinesModel", "atLast", "(II)I"⟩, 34), (⟨"LateLinesModel", "costBy", "(I)F"⟩, 34), (⟨"LateLinesModel", "goesThrough", "(Z)I"⟩, 34), (⟨"LateLinesModel", "skips", "()V"⟩, 34), (⟨"LateLinesModel", "here", "()I"⟩, 34), (⟨"LateLinesModel", "readsOrder", "(Z)Z"⟩, 34), (⟨"LateLinesModel", "readsBox", "(Z)Z"⟩, 34), (⟨"LateLinesModel", "number", "()Z"⟩, 34), (⟨"LateLinesModel", "ends", "()Z"⟩, 34), (⟨"LateLinesModel", "ticksBy", "(I)I"⟩, 34), (⟨"LateLinesModel", "toldBy", "(I)I"⟩, 34)]
theorem lw_r5 : ∀ q ∈ lw_privs_5, lw_okq q := List.forall_mem_cons.mpr ⟨lw_p64, List.forall_mem_cons.mpr ⟨lw_p65, List.forall_mem_cons.mpr ⟨lw_p66, List.forall_mem_cons.mpr ⟨lw_p67, List.forall_mem_cons.mpr ⟨lw_p68, List.forall_mem_cons.mpr ⟨lw_p69, List.forall_mem_cons.mpr ⟨lw_p70, List.forall_mem_cons.mpr ⟨lw_p71, List.forall_mem_cons.mpr ⟨lw_p72, List.forall_mem_cons.mpr ⟨lw_p73, List.forall_mem_cons.mpr ⟨lw_p74, List.forall_mem_cons.mpr ⟨lw_p75, fun _ h => absurd h List.not_mem_nil⟩⟩⟩⟩⟩⟩⟩⟩⟩⟩⟩⟩
def lw_privs : List (MethodName × Nat) := lw_privs_1 ++ (lw_privs_2 ++ (lw_privs_3 ++ (lw_privs_4 ++ (lw_privs_5))))
def lw_tbl : List Cond := k2_sels lw_privs ++ tables_1
theorem lw_privs_ok : ∀ q ∈ lw_privs, lw_okq q := by
  show ∀ q ∈ lw_privs_1 ++ (lw_privs_2 ++ (lw_privs_3 ++ (lw_privs_4 ++ (lw_privs_5)))), lw_okq q
  exact List.forall_mem_append.mpr ⟨lw_r1, List.forall_mem_append.mpr ⟨lw_r2, List.forall_mem_append.mpr ⟨lw_r3, List.forall_mem_append.mpr ⟨lw_r4, lw_r5⟩⟩⟩⟩
/-- the streams that the claim lets the run draw from -/
abbrev lw_cs : List Choice := [Jvm.Choice.named "NaN.bits"]
theorem lw_bits : nanBits ∈ lw_cs := by first | decide | exact List.mem_cons_self | simp [lw_cs, nanBits]
-- ===== end of PART A; then your names; then what follows =====
def RX0 : String := "LateLines$Box"
def TX0 : u_T := fun k => match k with
  | 0 => ("LateLines$Box", "number", "I", true)
  | 1 => ("LateLines$Box", "far", "[I", true)
  | 2 => ("LateLines$Box", "held", "[I", true)
  | 3 => ("LateLines$Box", "askItem", "[I", true)
  | 4 => ("LateLines$Box", "askValue", "[I", true)
  | 5 => ("LateLines$Box", "askLoad", "[I", true)
  | 6 => ("LateLines$Box", "askTick", "[I", true)
  | 7 => ("LateLines$Box", "askers", "I", false)
  | 8 => ("LateLines$Box", "spot", "I", false)
  | 9 => ("LateLines$Box", "changed", "I", false)
  | 10 => ("LateLines$Box", "due", "I", false)
  | _ => ("LateLines$Box", "used", "I", false)
def tyX0 : Nat → FieldType := fun k => match k with
  | 0 => .int
  | 1 => .array .int
  | 2 => .array .int
  | 3 => .array .int
  | 4 => .array .int
  | 5 => .array .int
  | 6 => .array .int
  | 7 => .int
  | 8 => .int
  | 9 => .int
  | 10 => .int
  | _ => .int
theorem nmX0 : ∀ a, a < 12 → ∀ b, b < 12 → a ≠ b → (TX0 a).2.1 ≠ (TX0 b).2.1 := by decide +kernel
theorem tyX0_ok : ∀ k, k < 12 → parseFieldDescriptor (TX0 k).2.2.1 = some (tyX0 k) := by decide +kernel
abbrev cX0_init : ByteArray := prog_2_method_1_code
def yX0_init : MethodName := ⟨RX0, "<init>", "(I)V"⟩
abbrev cX0_renew : ByteArray := prog_2_method_2_code
def yX0_renew : MethodName := ⟨RX0, "renew", "()V"⟩
abbrev cX0_become : ByteArray := prog_2_method_3_code
def yX0_become : MethodName := ⟨RX0, "become", "(LLateLines$Box;)V"⟩
abbrev cX0_changedBit : ByteArray := prog_2_method_4_code
def yX0_changedBit : MethodName := ⟨RX0, "changedBit", "(I)I"⟩
abbrev cX0_valueAtLast : ByteArray := prog_2_method_5_code
def yX0_valueAtLast : MethodName := ⟨RX0, "valueAtLast", "(I)I"⟩
abbrev cX0_addAsker : ByteArray := prog_2_method_6_code
def yX0_addAsker : MethodName := ⟨RX0, "addAsker", "(IIII)V"⟩
abbrev cX0_takeFromFar : ByteArray := prog_2_method_7_code
def yX0_takeFromFar : MethodName := ⟨RX0, "takeFromFar", "()V"⟩
abbrev cX0_goFar : ByteArray := prog_2_method_8_code
def yX0_goFar : MethodName := ⟨RX0, "goFar", "()V"⟩
abbrev cX0_layIn : ByteArray := prog_2_method_9_code
def yX0_layIn : MethodName := ⟨RX0, "layIn", "(II)V"⟩
def RX1 : String := "LateLines$Loads"
def TX1 : u_T := fun k => match k with
  | 0 => ("LateLines$Loads", "gave", "[I", true)
  | 1 => ("LateLines$Loads", "waited", "[I", true)
  | 2 => ("LateLines$Loads", "began", "[I", true)
  | 3 => ("LateLines$Loads", "known", "I", false)
  | 4 => ("LateLines$Loads", "answered", "I", false)
  | 5 => ("LateLines$Loads", "greatest", "I", false)
  | 6 => ("LateLines$Loads", "sum", "J", false)
  | _ => ("LateLines$Loads", "squares", "J", false)
def tyX1 : Nat → FieldType := fun k => match k with
  | 0 => .array .int
  | 1 => .array .int
  | 2 => .array .int
  | 3 => .int
  | 4 => .int
  | 5 => .int
  | 6 => .long
  | _ => .long
theorem nmX1 : ∀ a, a < 8 → ∀ b, b < 8 → a ≠ b → (TX1 a).2.1 ≠ (TX1 b).2.1 := by decide +kernel
theorem tyX1_ok : ∀ k, k < 8 → parseFieldDescriptor (TX1 k).2.2.1 = some (tyX1 k) := by decide +kernel
abbrev cX1_init : ByteArray := prog_3_method_1_code
def yX1_init : MethodName := ⟨RX1, "<init>", "()V"⟩
abbrev cX1_renew : ByteArray := prog_3_method_2_code
def yX1_renew : MethodName := ⟨RX1, "renew", "()V"⟩
abbrev cX1_become : ByteArray := prog_3_method_3_code
def yX1_become : MethodName := ⟨RX1, "become", "(LLateLines$Loads;)V"⟩
abbrev cX1_add : ByteArray := prog_3_method_4_code
def yX1_add : MethodName := ⟨RX1, "add", "(I)I"⟩
abbrev cX1_answer : ByteArray := prog_3_method_5_code
def yX1_answer : MethodName := ⟨RX1, "answer", "(III)V"⟩
abbrev cX1_meanWait : ByteArray := prog_3_method_6_code
def yX1_meanWait : MethodName := ⟨RX1, "meanWait", "()F"⟩
abbrev cX1_spread : ByteArray := prog_3_method_7_code
def yX1_spread : MethodName := ⟨RX1, "spread", "()D"⟩
def RX2 : String := "LateLines$State"
def TX2 : u_T := fun k => match k with
  | 0 => ("LateLines$State", "limits", "[I", true)
  | 1 => ("LateLines$State", "counts", "[I", true)
  | 2 => ("LateLines$State", "boxes", "[LLateLines$Box;", true)
  | 3 => ("LateLines$State", "loads", "LLateLines$Loads;", true)
  | 4 => ("LateLines$State", "cost", "F", false)
  | 5 => ("LateLines$State", "fetches", "I", false)
  | 6 => ("LateLines$State", "shelved", "I", false)
  | 7 => ("LateLines$State", "uses", "I", false)
  | _ => ("LateLines$State", "soonest", "I", false)
def tyX2 : Nat → FieldType := fun k => match k with
  | 0 => .array .int
  | 1 => .array .int
  | 2 => .array (.object "LateLines$Box")
  | 3 => .object "LateLines$Loads"
  | 4 => .float
  | 5 => .int
  | 6 => .int
  | 7 => .int
  | _ => .int
theorem nmX2 : ∀ a, a < 9 → ∀ b, b < 9 → a ≠ b → (TX2 a).2.1 ≠ (TX2 b).2.1 := by decide +kernel
theorem tyX2_ok : ∀ k, k < 9 → parseFieldDescriptor (TX2 k).2.2.1 = some (tyX2 k) := by decide +kernel
abbrev cX2_init : ByteArray := prog_4_method_1_code
def yX2_init : MethodName := ⟨RX2, "<init>", "()V"⟩
abbrev cX2_renew : ByteArray := prog_4_method_2_code
def yX2_renew : MethodName := ⟨RX2, "renew", "()V"⟩
abbrev cX2_become : ByteArray := prog_4_method_3_code
def yX2_become : MethodName := ⟨RX2, "become", "(LLateLines$State;)V"⟩
abbrev cX2_begin : ByteArray := prog_4_method_4_code
def yX2_begin : MethodName := ⟨RX2, "begin", "(LLateLines$Box;II)I"⟩
abbrev cX2_pause : ByteArray := prog_4_method_5_code
def yX2_pause : MethodName := ⟨RX2, "pause", "(I)V"⟩
abbrev cX2_carryOut : ByteArray := prog_4_method_6_code
def yX2_carryOut : MethodName := ⟨RX2, "carryOut", "(LLateLines$Text;)V"⟩
abbrev cX2_startTrial : ByteArray := prog_4_method_7_code
def yX2_startTrial : MethodName := ⟨RX2, "startTrial", "([II)V"⟩
abbrev cX2_awaitFetches : ByteArray := prog_4_method_8_code
def yX2_awaitFetches : MethodName := ⟨RX2, "awaitFetches", "()V"⟩
abbrev cX2_tally : ByteArray := prog_4_method_9_code
def yX2_tally : MethodName := ⟨RX2, "tally", "(IF)V"⟩
abbrev cX2_pass : ByteArray := prog_4_method_10_code
def yX2_pass : MethodName := ⟨RX2, "pass", "()V"⟩
abbrev cX2_come : ByteArray := prog_4_method_11_code
def yX2_come : MethodName := ⟨RX2, "come", "(LLateLines$Box;)V"⟩
abbrev cX2_settle : ByteArray := prog_4_method_12_code
def yX2_settle : MethodName := ⟨RX2, "settle", "(LLateLines$Box;)V"⟩
abbrev cX2_whoMustGo : ByteArray := prog_4_method_13_code
def yX2_whoMustGo : MethodName := ⟨RX2, "whoMustGo", "(I)LLateLines$Box;"⟩
abbrev cX2_use : ByteArray := prog_4_method_14_code
def yX2_use : MethodName := ⟨RX2, "use", "(LLateLines$Box;)V"⟩
abbrev cX2_setDue : ByteArray := prog_4_method_15_code
def yX2_setDue : MethodName := ⟨RX2, "setDue", "(LLateLines$Box;I)V"⟩
abbrev cX2_ask : ByteArray := prog_4_method_16_code
def yX2_ask : MethodName := ⟨RX2, "ask", "(LLateLines$Box;II)Z"⟩
abbrev cX2_takeAsker : ByteArray := prog_4_method_17_code
def yX2_takeAsker : MethodName := ⟨RX2, "takeAsker", "(LLateLines$Box;II)V"⟩
abbrev cX2_serve : ByteArray := prog_4_method_18_code
def yX2_serve : MethodName := ⟨RX2, "serve", "(LLateLines$Box;IIII)V"⟩
abbrev cX2_boxInPlace : ByteArray := prog_4_method_19_code
def yX2_boxInPlace : MethodName := ⟨RX2, "boxInPlace", "(II)I"⟩
abbrev cX2_boxOfFetch : ByteArray := prog_4_method_20_code
def yX2_boxOfFetch : MethodName := ⟨RX2, "boxOfFetch", "(I)LLateLines$Box;"⟩
def RX3 : String := "LateLines$Text"
def TX3 : u_T := fun k => match k with
  | 0 => ("LateLines$Text", "bytes", "[I", true)
  | 1 => ("LateLines$Text", "orderBox", "[I", true)
  | 2 => ("LateLines$Text", "orderItem", "[I", true)
  | 3 => ("LateLines$Text", "orderNumber", "[I", true)
  | 4 => ("LateLines$Text", "length", "I", false)
  | 5 => ("LateLines$Text", "orders", "I", false)
  | 6 => ("LateLines$Text", "at", "I", false)
  | _ => ("LateLines$Text", "fault", "I", false)
def tyX3 : Nat → FieldType := fun k => match k with
  | 0 => .array .int
  | 1 => .array .int
  | 2 => .array .int
  | 3 => .array .int
  | 4 => .int
  | 5 => .int
  | 6 => .int
  | _ => .int
theorem nmX3 : ∀ a, a < 8 → ∀ b, b < 8 → a ≠ b → (TX3 a).2.1 ≠ (TX3 b).2.1 := by decide +kernel
theorem tyX3_ok : ∀ k, k < 8 → parseFieldDescriptor (TX3 k).2.2.1 = some (tyX3 k) := by decide +kernel
abbrev cX3_init : ByteArray := prog_5_method_1_code
def yX3_init : MethodName := ⟨RX3, "<init>", "()V"⟩
abbrev cX3_readOrders : ByteArray := prog_5_method_2_code
def yX3_readOrders : MethodName := ⟨RX3, "readOrders", "()I"⟩
abbrev cX3_peek : ByteArray := prog_5_method_3_code
def yX3_peek : MethodName := ⟨RX3, "peek", "()I"⟩
abbrev cX3_byteAt : ByteArray := prog_5_method_4_code
def yX3_byteAt : MethodName := ⟨RX3, "byteAt", "(I)I"⟩
abbrev cX3_readOrder : ByteArray := prog_5_method_5_code
def yX3_readOrder : MethodName := ⟨RX3, "readOrder", "()V"⟩
abbrev cX3_readAsking : ByteArray := prog_5_method_6_code
def yX3_readAsking : MethodName := ⟨RX3, "readAsking", "(I)V"⟩
abbrev cX3_readNumber : ByteArray := prog_5_method_7_code
def yX3_readNumber : MethodName := ⟨RX3, "readNumber", "()I"⟩
abbrev cX3_isFigure : ByteArray := prog_5_method_8_code
def yX3_isFigure : MethodName := ⟨RX3, "isFigure", "(I)Z"⟩
abbrev cX3_addOrder : ByteArray := prog_5_method_9_code
def yX3_addOrder : MethodName := ⟨RX3, "addOrder", "(III)V"⟩
def RX4 : String := "LateLines"
def TX4 : u_T := fun k => match k with
  | 0 => ("LateLines", "now", "LLateLines$State;", true)
  | 1 => ("LateLines", "trial", "LLateLines$State;", true)
  | 2 => ("LateLines", "kept", "[LLateLines$State;", true)
  | 3 => ("LateLines", "text", "LLateLines$Text;", true)
  | 4 => ("LateLines", "refused", "[I", true)
  | 5 => ("LateLines", "newest", "I", false)
  | _ => ("LateLines", "states", "I", false)
def tyX4 : Nat → FieldType := fun k => match k with
  | 0 => .object "LateLines$State"
  | 1 => .object "LateLines$State"
  | 2 => .array (.object "LateLines$State")
  | 3 => .object "LateLines$Text"
  | 4 => .array .int
  | 5 => .int
  | _ => .int
theorem nmX4 : ∀ a, a < 7 → ∀ b, b < 7 → a ≠ b → (TX4 a).2.1 ≠ (TX4 b).2.1 := by decide +kernel
theorem tyX4_ok : ∀ k, k < 7 → parseFieldDescriptor (TX4 k).2.2.1 = some (tyX4 k) := by decide +kernel
abbrev cX4_init : ByteArray := prog_1_method_1_code
def yX4_init : MethodName := ⟨RX4, "<init>", "()V"⟩
abbrev cX4_sets : ByteArray := prog_1_method_2_code
def yX4_sets : MethodName := ⟨RX4, "sets", "(II)I"⟩
abbrev cX4_anew : ByteArray := prog_1_method_3_code
def yX4_anew : MethodName := ⟨RX4, "anew", "()I"⟩
abbrev cX4_load : ByteArray := prog_1_method_4_code
def yX4_load : MethodName := ⟨RX4, "load", "(II)I"⟩
abbrev cX4_store : ByteArray := prog_1_method_5_code
def yX4_store : MethodName := ⟨RX4, "store", "(III)I"⟩
abbrev cX4_fence : ByteArray := prog_1_method_6_code
def yX4_fence : MethodName := ⟨RX4, "fence", "()I"⟩
abbrev cX4_ticks : ByteArray := prog_1_method_7_code
def yX4_ticks : MethodName := ⟨RX4, "ticks", "(I)I"⟩
abbrev cX4_draw : ByteArray := prog_1_method_8_code
def yX4_draw : MethodName := ⟨RX4, "draw", "(II)I"⟩
abbrev cX4_got : ByteArray := prog_1_method_9_code
def yX4_got : MethodName := ⟨RX4, "got", "(II)I"⟩
abbrev cX4_often : ByteArray := prog_1_method_10_code
def yX4_often : MethodName := ⟨RX4, "often", "(I)I"⟩
abbrev cX4_where : ByteArray := prog_1_method_11_code
def yX4_where : MethodName := ⟨RX4, "where", "(I)I"⟩
abbrev cX4_item : ByteArray := prog_1_method_12_code
def yX4_item : MethodName := ⟨RX4, "item", "(III)I"⟩
abbrev cX4_place : ByteArray := prog_1_method_13_code
def yX4_place : MethodName := ⟨RX4, "place", "(II)I"⟩
abbrev cX4_fetch : ByteArray := prog_1_method_14_code
def yX4_fetch : MethodName := ⟨RX4, "fetch", "(II)I"⟩
abbrev cX4_cost : ByteArray := prog_1_method_15_code
def yX4_cost : MethodName := ⟨RX4, "cost", "(I)I"⟩
abbrev cX4_even : ByteArray := prog_1_method_16_code
def yX4_even : MethodName := ⟨RX4, "even", "()J"⟩
abbrev cX4_best : ByteArray := prog_1_method_17_code
def yX4_best : MethodName := ⟨RX4, "best", "(I)I"⟩
abbrev cX4_type : ByteArray := prog_1_method_18_code
def yX4_type : MethodName := ⟨RX4, "type", "(I)I"⟩
abbrev cX4_clear : ByteArray := prog_1_method_19_code
def yX4_clear : MethodName := ⟨RX4, "clear", "()I"⟩
abbrev cX4_runs : ByteArray := prog_1_method_20_code
def yX4_runs : MethodName := ⟨RX4, "runs", "()I"⟩
abbrev cX4_back : ByteArray := prog_1_method_21_code
def yX4_back : MethodName := ⟨RX4, "back", "()I"⟩
abbrev cX4_told : ByteArray := prog_1_method_22_code
def yX4_told : MethodName := ⟨RX4, "told", "(I)I"⟩
abbrev cX4_digest : ByteArray := prog_1_method_23_code
def yX4_digest : MethodName := ⟨RX4, "digest", "()J"⟩
abbrev cX4_isBox : ByteArray := prog_1_method_24_code
def yX4_isBox : MethodName := ⟨RX4, "isBox", "(I)Z"⟩
abbrev cX4_isItem : ByteArray := prog_1_method_25_code
def yX4_isItem : MethodName := ⟨RX4, "isItem", "(I)Z"⟩
abbrev cX4_refuse : ByteArray := prog_1_method_26_code
def yX4_refuse : MethodName := ⟨RX4, "refuse", "(I)I"⟩
abbrev cX4_keep : ByteArray := prog_1_method_27_code
def yX4_keep : MethodName := ⟨RX4, "keep", "()V"⟩
abbrev cX4_floatBits : ByteArray := prog_1_method_28_code
def yX4_floatBits : MethodName := ⟨RX4, "floatBits", "(F)I"⟩
abbrev cX4_doubleBits : ByteArray := prog_1_method_29_code
def yX4_doubleBits : MethodName := ⟨RX4, "doubleBits", "(D)J"⟩
def RX5 : String := "LateLinesModel"
def TX5 : u_T := fun k => match k with
  | 0 => ("LateLinesModel", "refused", "[I", true)
  | 1 => ("LateLinesModel", "told", "[I", true)
  | 2 => ("LateLinesModel", "far", "[I", true)
  | 3 => ("LateLinesModel", "items", "[I", true)
  | 4 => ("LateLinesModel", "changed", "[I", true)
  | 5 => ("LateLinesModel", "where", "[I", true)
  | 6 => ("LateLinesModel", "due", "[I", true)
  | 7 => ("LateLinesModel", "rowMany", "[I", true)
  | 8 => ("LateLinesModel", "rowBox", "[I", true)
  | 9 => ("LateLinesModel", "fetch", "[I", true)
  | 10 => ("LateLinesModel", "askMany", "[I", true)
  | 11 => ("LateLinesModel", "askItem", "[I", true)
  | 12 => ("LateLinesModel", "askValue", "[I", true)
  | 13 => ("LateLinesModel", "askTick", "[I", true)
  | 14 => ("LateLinesModel", "askLoad", "[I", true)
  | 15 => ("LateLinesModel", "many", "[I", true)
  | 16 => ("LateLinesModel", "often", "[I", true)
  | 17 => ("LateLinesModel", "loadGot", "[I", true)
  | 18 => ("LateLinesModel", "loadWait", "[I", true)
  | 19 => ("LateLinesModel", "loadTick", "[I", true)
  | 20 => ("LateLinesModel", "cost", "F", false)
  | 21 => ("LateLinesModel", "waits", "J", false)
  | 22 => ("LateLinesModel", "squares", "J", false)
  | 23 => ("LateLinesModel", "states", "I", false)
  | 24 => ("LateLinesModel", "kept", "[I", true)
  | 25 => ("LateLinesModel", "keptCost", "[F", true)
  | 26 => ("LateLinesModel", "keptWaits", "[J", true)
  | 27 => ("LateLinesModel", "keptSquares", "[J", true)
  | 28 => ("LateLinesModel", "cursor", "I", false)
  | 29 => ("LateLinesModel", "text", "[I", true)
  | 30 => ("LateLinesModel", "size", "I", false)
  | 31 => ("LateLinesModel", "readAt", "I", false)
  | 32 => ("LateLinesModel", "tokenAt", "I", false)
  | _ => ("LateLinesModel", "readNumber", "I", false)
def tyX5 : Nat → FieldType := fun k => match k with
  | 0 => .array .int
  | 1 => .array .int
  | 2 => .array .int
  | 3 => .array .int
  | 4 => .array .int
  | 5 => .array .int
  | 6 => .array .int
  | 7 => .array .int
  | 8 => .array .int
  | 9 => .array .int
  | 10 => .array .int
  | 11 => .array .int
  | 12 => .array .int
  | 13 => .array .int
  | 14 => .array .int
  | 15 => .array .int
  | 16 => .array .int
  | 17 => .array .int
  | 18 => .array .int
  | 19 => .array .int
  | 20 => .float
  | 21 => .long
  | 22 => .long
  | 23 => .int
  | 24 => .array .int
  | 25 => .array .float
  | 26 => .array .long
  | 27 => .array .long
  | 28 => .int
  | 29 => .array .int
  | 30 => .int
  | 31 => .int
  | 32 => .int
  | _ => .int
theorem nmX5 : ∀ a, a < 34 → ∀ b, b < 34 → a ≠ b → (TX5 a).2.1 ≠ (TX5 b).2.1 := by decide +kernel
theorem tyX5_ok : ∀ k, k < 34 → parseFieldDescriptor (TX5 k).2.2.1 = some (tyX5 k) := by decide +kernel
abbrev cX5_bad : ByteArray := prog_7_method_1_code
def yX5_bad : MethodName := ⟨RX5, "bad", "()I"⟩
abbrev cX5_in : ByteArray := prog_7_method_2_code
def yX5_in : MethodName := ⟨RX5, "in", "(III)Z"⟩
abbrev cX5_init : ByteArray := prog_7_method_3_code
def yX5_init : MethodName := ⟨RX5, "<init>", "()V"⟩
abbrev cX5_begins : ByteArray := prog_7_method_4_code
def yX5_begins : MethodName := ⟨RX5, "begins", "()V"⟩
abbrev cX5_isBox : ByteArray := prog_7_method_5_code
def yX5_isBox : MethodName := ⟨RX5, "isBox", "(I)Z"⟩
abbrev cX5_lays : ByteArray := prog_7_method_6_code
def yX5_lays : MethodName := ⟨RX5, "lays", "([II)V"⟩
abbrev cX5_takes : ByteArray := prog_7_method_7_code
def yX5_takes : MethodName := ⟨RX5, "takes", "([II)V"⟩
abbrev cX5_keeps : ByteArray := prog_7_method_8_code
def yX5_keeps : MethodName := ⟨RX5, "keeps", "(I)V"⟩
abbrev cX5_comesBack : ByteArray := prog_7_method_9_code
def yX5_comesBack : MethodName := ⟨RX5, "comesBack", "(I)V"⟩
abbrev cX5_leavesState : ByteArray := prog_7_method_10_code
def yX5_leavesState : MethodName := ⟨RX5, "leavesState", "()V"⟩
abbrev cX5_back : ByteArray := prog_7_method_11_code
def yX5_back : MethodName := ⟨RX5, "back", "()I"⟩
abbrev cX5_may : ByteArray := prog_7_method_12_code
def yX5_may : MethodName := ⟨RX5, "may", "(II)Z"⟩
abbrev cX5_sets : ByteArray := prog_7_method_13_code
def yX5_sets : MethodName := ⟨RX5, "sets", "(II)I"⟩
abbrev cX5_anew : ByteArray := prog_7_method_14_code
def yX5_anew : MethodName := ⟨RX5, "anew", "()I"⟩
abbrev cX5_rowOf : ByteArray := prog_7_method_15_code
def yX5_rowOf : MethodName := ⟨RX5, "rowOf", "(I)I"⟩
abbrev cX5_counts : ByteArray := prog_7_method_16_code
def yX5_counts : MethodName := ⟨RX5, "counts", "(I)V"⟩
abbrev cX5_goesFar : ByteArray := prog_7_method_17_code
def yX5_goesFar : MethodName := ⟨RX5, "goesFar", "(I)V"⟩
abbrev cX5_halfLong : ByteArray := prog_7_method_18_code
def yX5_halfLong : MethodName := ⟨RX5, "halfLong", "()I"⟩
abbrev cX5_makesRoom : ByteArray := prog_7_method_19_code
def yX5_makesRoom : MethodName := ⟨RX5, "makesRoom", "(I)V"⟩
abbrev cX5_comesNear : ByteArray := prog_7_method_20_code
def yX5_comesNear : MethodName := ⟨RX5, "comesNear", "(I)V"⟩
abbrev cX5_getsItem : ByteArray := prog_7_method_21_code
def yX5_getsItem : MethodName := ⟨RX5, "getsItem", "(IIII)V"⟩
abbrev cX5_laysIn : ByteArray := prog_7_method_22_code
def yX5_laysIn : MethodName := ⟨RX5, "laysIn", "(III)V"⟩
abbrev cX5_comesFetched : ByteArray := prog_7_method_23_code
def yX5_comesFetched : MethodName := ⟨RX5, "comesFetched", "(I)V"⟩
abbrev cX5_comesTime : ByteArray := prog_7_method_24_code
def yX5_comesTime : MethodName := ⟨RX5, "comesTime", "()V"⟩
abbrev cX5_numberOf : ByteArray := prog_7_method_25_code
def yX5_numberOf : MethodName := ⟨RX5, "numberOf", "(I)I"⟩
abbrev cX5_asks : ByteArray := prog_7_method_26_code
def yX5_asks : MethodName := ⟨RX5, "asks", "(IIII)V"⟩
abbrev cX5_does : ByteArray := prog_7_method_27_code
def yX5_does : MethodName := ⟨RX5, "does", "(IIII)V"⟩
abbrev cX5_counted : ByteArray := prog_7_method_28_code
def yX5_counted : MethodName := ⟨RX5, "counted", "(IF)V"⟩
abbrev cX5_beginsNow : ByteArray := prog_7_method_29_code
def yX5_beginsNow : MethodName := ⟨RX5, "beginsNow", "(IIII)Z"⟩
abbrev cX5_goesBy : ByteArray := prog_7_method_30_code
def yX5_goesBy : MethodName := ⟨RX5, "goesBy", "()V"⟩
abbrev cX5_done : ByteArray := prog_7_method_31_code
def yX5_done : MethodName := ⟨RX5, "done", "(IIII)I"⟩
abbrev cX5_isItem : ByteArray := prog_7_method_32_code
def yX5_isItem : MethodName := ⟨RX5, "isItem", "(I)Z"⟩
abbrev cX5_load : ByteArray := prog_7_method_33_code
def yX5_load : MethodName := ⟨RX5, "load", "(II)I"⟩
abbrev cX5_store : ByteArray := prog_7_method_34_code
def yX5_store : MethodName := ⟨RX5, "store", "(III)I"⟩
abbrev cX5_fence : ByteArray := prog_7_method_35_code
def yX5_fence : MethodName := ⟨RX5, "fence", "()I"⟩
abbrev cX5_ticks : ByteArray := prog_7_method_36_code
def yX5_ticks : MethodName := ⟨RX5, "ticks", "(I)I"⟩
abbrev cX5_draw : ByteArray := prog_7_method_37_code
def yX5_draw : MethodName := ⟨RX5, "draw", "(II)I"⟩
abbrev cX5_got : ByteArray := prog_7_method_38_code
def yX5_got : MethodName := ⟨RX5, "got", "(II)I"⟩
abbrev cX5_often : ByteArray := prog_7_method_39_code
def yX5_often : MethodName := ⟨RX5, "often", "(I)I"⟩
abbrev cX5_where : ByteArray := prog_7_method_40_code
def yX5_where : MethodName := ⟨RX5, "where", "(I)I"⟩
abbrev cX5_atLast : ByteArray := prog_7_method_41_code
def yX5_atLast : MethodName := ⟨RX5, "atLast", "(II)I"⟩
abbrev cX5_item : ByteArray := prog_7_method_42_code
def yX5_item : MethodName := ⟨RX5, "item", "(III)I"⟩
abbrev cX5_place : ByteArray := prog_7_method_43_code
def yX5_place : MethodName := ⟨RX5, "place", "(II)I"⟩
abbrev cX5_fetch : ByteArray := prog_7_method_44_code
def yX5_fetch : MethodName := ⟨RX5, "fetch", "(II)I"⟩
abbrev cX5_costBy : ByteArray := prog_7_method_45_code
def yX5_costBy : MethodName := ⟨RX5, "costBy", "(I)F"⟩
abbrev cX5_cost : ByteArray := prog_7_method_46_code
def yX5_cost : MethodName := ⟨RX5, "cost", "(I)I"⟩
abbrev cX5_even : ByteArray := prog_7_method_47_code
def yX5_even : MethodName := ⟨RX5, "even", "()J"⟩
abbrev cX5_type : ByteArray := prog_7_method_48_code
def yX5_type : MethodName := ⟨RX5, "type", "(I)I"⟩
abbrev cX5_clear : ByteArray := prog_7_method_49_code
def yX5_clear : MethodName := ⟨RX5, "clear", "()I"⟩
abbrev cX5_here : ByteArray := prog_7_method_50_code
def yX5_here : MethodName := ⟨RX5, "here", "()I"⟩
abbrev cX5_skips : ByteArray := prog_7_method_51_code
def yX5_skips : MethodName := ⟨RX5, "skips", "()V"⟩
abbrev cX5_number : ByteArray := prog_7_method_52_code
def yX5_number : MethodName := ⟨RX5, "number", "()Z"⟩
abbrev cX5_ends : ByteArray := prog_7_method_53_code
def yX5_ends : MethodName := ⟨RX5, "ends", "()Z"⟩
abbrev cX5_readsBox : ByteArray := prog_7_method_54_code
def yX5_readsBox : MethodName := ⟨RX5, "readsBox", "(Z)Z"⟩
abbrev cX5_readsOrder : ByteArray := prog_7_method_55_code
def yX5_readsOrder : MethodName := ⟨RX5, "readsOrder", "(Z)Z"⟩
abbrev cX5_goesThrough : ByteArray := prog_7_method_56_code
def yX5_goesThrough : MethodName := ⟨RX5, "goesThrough", "(Z)I"⟩
abbrev cX5_runs : ByteArray := prog_7_method_57_code
def yX5_runs : MethodName := ⟨RX5, "runs", "()I"⟩
abbrev cX5_ticksBy : ByteArray := prog_7_method_58_code
def yX5_ticksBy : MethodName := ⟨RX5, "ticksBy", "(I)I"⟩
abbrev cX5_best : ByteArray := prog_7_method_59_code
def yX5_best : MethodName := ⟨RX5, "best", "(I)I"⟩
abbrev cX5_toldBy : ByteArray := prog_7_method_60_code
def yX5_toldBy : MethodName := ⟨RX5, "toldBy", "(I)I"⟩
abbrev cX5_told : ByteArray := prog_7_method_61_code
def yX5_told : MethodName := ⟨RX5, "told", "(I)I"⟩
abbrev cX5_digest : ByteArray := prog_7_method_62_code
def yX5_digest : MethodName := ⟨RX5, "digest", "()J"⟩
def RJxe99ae : String := "java/lang/Double"
abbrev cJxe99ae_isNaN_b9ae7 : ByteArray := prog_8_method_6_code
def yJxe99ae_isNaN_b9ae7 : MethodName := ⟨RJxe99ae, "isNaN", "(D)Z"⟩
abbrev cJxe99ae_doubleToLongBits_ccdee : ByteArray := prog_8_method_23_code
def yJxe99ae_doubleToLongBits_ccdee : MethodName := ⟨RJxe99ae, "doubleToLongBits", "(D)J"⟩
def RJxf58ca : String := "java/lang/Float"
abbrev cJxf58ca_isNaN_12338 : ByteArray := prog_9_method_6_code
def yJxf58ca_isNaN_12338 : MethodName := ⟨RJxf58ca, "isNaN", "(F)Z"⟩
abbrev cJxf58ca_floatToIntBits_5c35a : ByteArray := prog_9_method_24_code
def yJxf58ca_floatToIntBits_5c35a : MethodName := ⟨RJxf58ca, "floatToIntBits", "(F)I"⟩
def RJ9 : String := "java/lang/Math"
abbrev cJ9_max_7cf53 : ByteArray := prog_10_method_65_code
def yJ9_max_7cf53 : MethodName := ⟨RJ9, "max", "(II)I"⟩
abbrev cJ9_min_7cf53 : ByteArray := prog_10_method_69_code
def yJ9_min_7cf53 : MethodName := ⟨RJ9, "min", "(II)I"⟩
def RJ10 : String := "java/lang/System"
def RL : String := "LateLinesLaw"
abbrev cL_law : ByteArray := code
def yL_law : MethodName := ⟨RL, "law", "([I)Z"⟩
abbrev vwCl : List vw_C := [(RX0, TX0, 12), (RX1, TX1, 8), (RX2, TX2, 9), (RX3, TX3, 8), (RX4, TX4, 7), (RX5, TX5, 34)]
