section
-- ===== PART A: goes FIRST, ahead of the names: the tables' words, and 'selects' of the private methods out of them =====
/-- a private method of a class that the tables say can be made, by its rows of tables_1 -/
def lw_okq (q : MethodName × Nat) : Prop := (q.1.cls ≠ "java/lang/invoke/MethodHandle" ∧ q.1.cls ≠ "java/lang/invoke/VarHandle") ∧ Cond.instantiable q.1.cls q.2 ∈ tables_1 ∧ Cond.privateMethod q.1 ∈ tables_1 ∧ Cond.instanceMethod q.1 ∈ tables_1
theorem lw_p0 : lw_okq (⟨"LateLines$State", "renew", "()V"⟩, 9) := ⟨⟨by decide +kernel, by decide +kernel⟩, List.mem_of_getElem? (i := 20) (by decide +kernel), List.mem_of_getElem? (i := 127) (by decide +kernel), List.mem_of_getElem? (i := 128) (by decide +kernel)⟩
theorem lw_p1 : lw_okq (⟨"LateLines$Box", "renew", "()V"⟩, 12) := ⟨⟨by decide +kernel, by decide +kernel⟩, List.mem_of_getElem? (i := 32) (by decide +kernel), List.mem_of_getElem? (i := 131) (by decide +kernel), List.mem_of_getElem? (i := 132) (by decide +kernel)⟩
theorem lw_p2 : lw_okq (⟨"LateLines$Loads", "renew", "()V"⟩, 8) := ⟨⟨by decide +kernel, by decide +kernel⟩, List.mem_of_getElem? (i := 91) (by decide +kernel), List.mem_of_getElem? (i := 136) (by decide +kernel), List.mem_of_getElem? (i := 137) (by decide +kernel)⟩
theorem lw_p3 : lw_okq (⟨"LateLines", "refuse", "(I)I"⟩, 7) := ⟨⟨by decide +kernel, by decide +kernel⟩, List.mem_of_getElem? (i := 12) (by decide +kernel), List.mem_of_getElem? (i := 242) (by decide +kernel), List.mem_of_getElem? (i := 243) (by decide +kernel)⟩
theorem lw_p4 : lw_okq (⟨"LateLines", "keep", "()V"⟩, 7) := ⟨⟨by decide +kernel, by decide +kernel⟩, List.mem_of_getElem? (i := 12) (by decide +kernel), List.mem_of_getElem? (i := 246) (by decide +kernel), List.mem_of_getElem? (i := 247) (by decide +kernel)⟩
theorem lw_p5 : lw_okq (⟨"LateLines$State", "become", "(LLateLines$State;)V"⟩, 9) := ⟨⟨by decide +kernel, by decide +kernel⟩, List.mem_of_getElem? (i := 20) (by decide +kernel), List.mem_of_getElem? (i := 250) (by decide +kernel), List.mem_of_getElem? (i := 251) (by decide +kernel)⟩
theorem lw_p6 : lw_okq (⟨"LateLines$Box", "become", "(LLateLines$Box;)V"⟩, 12) := ⟨⟨by decide +kernel, by decide +kernel⟩, List.mem_of_getElem? (i := 32) (by decide +kernel), List.mem_of_getElem? (i := 254) (by decide +kernel), List.mem_of_getElem? (i := 255) (by decide +kernel)⟩
theorem lw_p7 : lw_okq (⟨"LateLines$Loads", "become", "(LLateLines$Loads;)V"⟩, 8) := ⟨⟨by decide +kernel, by decide +kernel⟩, List.mem_of_getElem? (i := 91) (by decide +kernel), List.mem_of_getElem? (i := 259) (by decide +kernel), List.mem_of_getElem? (i := 260) (by decide +kernel)⟩
theorem lw_p8 : lw_okq (⟨"LateLines$State", "begin", "(LLateLines$Box;II)I"⟩, 9) := ⟨⟨by decide +kernel, by decide +kernel⟩, List.mem_of_getElem? (i := 20) (by decide +kernel), List.mem_of_getElem? (i := 285) (by decide +kernel), List.mem_of_getElem? (i := 286) (by decide +kernel)⟩
theorem lw_p9 : lw_okq (⟨"LateLines$State", "pass", "()V"⟩, 9) := ⟨⟨by decide +kernel, by decide +kernel⟩, List.mem_of_getElem? (i := 20) (by decide +kernel), List.mem_of_getElem? (i := 289) (by decide +kernel), List.mem_of_getElem? (i := 290) (by decide +kernel)⟩
theorem lw_p10 : lw_okq (⟨"LateLines$Box", "goFar", "()V"⟩, 12) := ⟨⟨by decide +kernel, by decide +kernel⟩, List.mem_of_getElem? (i := 32) (by decide +kernel), List.mem_of_getElem? (i := 293) (by decide +kernel), List.mem_of_getElem? (i := 294) (by decide +kernel)⟩
theorem lw_p11 : lw_okq (⟨"LateLines$State", "tally", "(IF)V"⟩, 9) := ⟨⟨by decide +kernel, by decide +kernel⟩, List.mem_of_getElem? (i := 20) (by decide +kernel), List.mem_of_getElem? (i := 298) (by decide +kernel), List.mem_of_getElem? (i := 299) (by decide +kernel)⟩
theorem lw_p12 : lw_okq (⟨"LateLines$State", "come", "(LLateLines$Box;)V"⟩, 9) := ⟨⟨by decide +kernel, by decide +kernel⟩, List.mem_of_getElem? (i := 20) (by decide +kernel), List.mem_of_getElem? (i := 302) (by decide +kernel), List.mem_of_getElem? (i := 303) (by decide +kernel)⟩
theorem lw_p13 : lw_okq (⟨"LateLines$Box", "takeFromFar", "()V"⟩, 12) := ⟨⟨by decide +kernel, by decide +kernel⟩, List.mem_of_getElem? (i := 32) (by decide +kernel), List.mem_of_getElem? (i := 306) (by decide +kernel), List.mem_of_getElem? (i := 307) (by decide +kernel)⟩
theorem lw_p14 : lw_okq (⟨"LateLines$State", "settle", "(LLateLines$Box;)V"⟩, 9) := ⟨⟨by decide +kernel, by decide +kernel⟩, List.mem_of_getElem? (i := 20) (by decide +kernel), List.mem_of_getElem? (i := 310) (by decide +kernel), List.mem_of_getElem? (i := 311) (by decide +kernel)⟩
theorem lw_p15 : lw_okq (⟨"LateLines$State", "whoMustGo", "(I)LLateLines$Box;"⟩, 9) := ⟨⟨by decide +kernel, by decide +kernel⟩, List.mem_of_getElem? (i := 20) (by decide +kernel), List.mem_of_getElem? (i := 314) (by decide +kernel), List.mem_of_getElem? (i := 315) (by decide +kernel)⟩
def lw_privs_1 : List (MethodName × Nat) := [(⟨"LateLines$State", "renew", "()V"⟩, 9), (⟨"LateLines$Box", "renew", "()V"⟩, 12), (⟨"LateLines$Loads", "renew", "()V"⟩, 8), (⟨"LateLines", "refuse", "(I)I"⟩, 7), (⟨"LateLines", "keep", "()V"⟩, 7), (⟨"LateLines$State", "become", "(LLateLines$State;)V"⟩, 9), (⟨"LateLines$Box", "become", "(LLateLines$Box;)V"⟩, 12), (⟨"LateLines$Loads", "become", "(LLateLines$Loads;)V"⟩, 8), (⟨"LateLines$State", "begin", "(LLateLines$Box;II)I"⟩, 9), (⟨"LateLines$State", "pass", "()V"⟩, 9), (⟨"LateLines$Box", "goFar", "()V"⟩, 12), (⟨"LateLines$State", "tally", "(IF)V"⟩, 9), (⟨"LateLines$State", "come", "(LLateLines$Box;)V"⟩, 9), (⟨"LateLines$Box", "takeFromFar", "()V"⟩, 12), (⟨"LateLines$State", "settle", "(LLateLines$Box;)V"⟩, 9), (⟨"LateLines$State", "whoMustGo", "(I)LLateLines$Box;"⟩, 9)]
theorem lw_r1 : ∀ q ∈ lw_privs_1, lw_okq q := List.forall_mem_cons.mpr ⟨lw_p0, List.forall_mem_cons.mpr ⟨lw_p1, List.forall_mem_cons.mpr ⟨lw_p2, List.forall_mem_cons.mpr ⟨lw_p3, List.forall_mem_cons.mpr ⟨lw_p4, List.forall_mem_cons.mpr ⟨lw_p5, List.forall_mem_cons.mpr ⟨lw_p6, List.forall_mem_cons.mpr ⟨lw_p7, List.forall_mem_cons.mpr ⟨lw_p8, List.forall_mem_cons.mpr ⟨lw_p9, List.forall_mem_cons.mpr ⟨lw_p10, List.forall_mem_cons.mpr ⟨lw_p11, List.forall_mem_cons.mpr ⟨lw_p12, List.forall_mem_cons.mpr ⟨lw_p13, List.forall_mem_cons.mpr ⟨lw_p14, List.forall_mem_cons.mpr ⟨lw_p15, fun _ h => absurd h List.not_mem_nil⟩⟩⟩⟩⟩⟩⟩⟩⟩⟩⟩⟩⟩⟩⟩⟩
theorem lw_p16 : lw_okq (⟨"LateLines$State", "setDue", "(LLateLines$Box;I)V"⟩, 9) := ⟨⟨by decide +kernel, by decide +kernel⟩, List.mem_of_getElem? (i := 20) (by decide +kernel), List.mem_of_getElem? (i := 319) (by decide +kernel), List.mem_of_getElem? (i := 320) (by decide +kernel)⟩
theorem lw_p17 : lw_okq (⟨"LateLines$State", "use", "(LLateLines$Box;)V"⟩, 9) := ⟨⟨by decide +kernel, by decide +kernel⟩, List.mem_of_getElem? (i := 20) (by decide +kernel), List.mem_of_getElem? (i := 323) (by decide +kernel), List.mem_of_getElem? (i := 324) (by decide +kernel)⟩
theorem lw_p18 : lw_okq (⟨"LateLines$State", "serve", "(LLateLines$Box;IIII)V"⟩, 9) := ⟨⟨by decide +kernel, by decide +kernel⟩, List.mem_of_getElem? (i := 20) (by decide +kernel), List.mem_of_getElem? (i := 327) (by decide +kernel), List.mem_of_getElem? (i := 328) (by decide +kernel)⟩
theorem lw_p19 : lw_okq (⟨"LateLines$Box", "valueAtLast", "(I)I"⟩, 12) := ⟨⟨by decide +kernel, by decide +kernel⟩, List.mem_of_getElem? (i := 32) (by decide +kernel), List.mem_of_getElem? (i := 331) (by decide +kernel), List.mem_of_getElem? (i := 332) (by decide +kernel)⟩
theorem lw_p20 : lw_okq (⟨"LateLines$Loads", "answer", "(III)V"⟩, 8) := ⟨⟨by decide +kernel, by decide +kernel⟩, List.mem_of_getElem? (i := 91) (by decide +kernel), List.mem_of_getElem? (i := 335) (by decide +kernel), List.mem_of_getElem? (i := 336) (by decide +kernel)⟩
theorem lw_p21 : lw_okq (⟨"LateLines$Box", "layIn", "(II)V"⟩, 12) := ⟨⟨by decide +kernel, by decide +kernel⟩, List.mem_of_getElem? (i := 32) (by decide +kernel), List.mem_of_getElem? (i := 339) (by decide +kernel), List.mem_of_getElem? (i := 340) (by decide +kernel)⟩
theorem lw_p22 : lw_okq (⟨"LateLines$State", "ask", "(LLateLines$Box;II)Z"⟩, 9) := ⟨⟨by decide +kernel, by decide +kernel⟩, List.mem_of_getElem? (i := 20) (by decide +kernel), List.mem_of_getElem? (i := 344) (by decide +kernel), List.mem_of_getElem? (i := 345) (by decide +kernel)⟩
theorem lw_p23 : lw_okq (⟨"LateLines$State", "takeAsker", "(LLateLines$Box;II)V"⟩, 9) := ⟨⟨by decide +kernel, by decide +kernel⟩, List.mem_of_getElem? (i := 20) (by decide +kernel), List.mem_of_getElem? (i := 352) (by decide +kernel), List.mem_of_getElem? (i := 353) (by decide +kernel)⟩
theorem lw_p24 : lw_okq (⟨"LateLines$Loads", "add", "(I)I"⟩, 8) := ⟨⟨by decide +kernel, by decide +kernel⟩, List.mem_of_getElem? (i := 91) (by decide +kernel), List.mem_of_getElem? (i := 356) (by decide +kernel), List.mem_of_getElem? (i := 357) (by decide +kernel)⟩
theorem lw_p25 : lw_okq (⟨"LateLines$Box", "addAsker", "(IIII)V"⟩, 12) := ⟨⟨by decide +kernel, by decide +kernel⟩, List.mem_of_getElem? (i := 32) (by decide +kernel), List.mem_of_getElem? (i := 360) (by decide +kernel), List.mem_of_getElem? (i := 361) (by decide +kernel)⟩
theorem lw_p26 : lw_okq (⟨"LateLines$State", "pause", "(I)V"⟩, 9) := ⟨⟨by decide +kernel, by decide +kernel⟩, List.mem_of_getElem? (i := 20) (by decide +kernel), List.mem_of_getElem? (i := 377) (by decide +kernel), List.mem_of_getElem? (i := 378) (by decide +kernel)⟩
theorem lw_p27 : lw_okq (⟨"LateLines$Box", "changedBit", "(I)I"⟩, 12) := ⟨⟨by decide +kernel, by decide +kernel⟩, List.mem_of_getElem? (i := 32) (by decide +kernel), List.mem_of_getElem? (i := 414) (by decide +kernel), List.mem_of_getElem? (i := 415) (by decide +kernel)⟩
theorem lw_p28 : lw_okq (⟨"LateLines$State", "boxInPlace", "(II)I"⟩, 9) := ⟨⟨by decide +kernel, by decide +kernel⟩, List.mem_of_getElem? (i := 20) (by decide +kernel), List.mem_of_getElem? (i := 422) (by decide +kernel), List.mem_of_getElem? (i := 423) (by decide +kernel)⟩
theorem lw_p29 : lw_okq (⟨"LateLines$State", "boxOfFetch", "(I)LLateLines$Box;"⟩, 9) := ⟨⟨by decide +kernel, by decide +kernel⟩, List.mem_of_getElem? (i := 20) (by decide +kernel), List.mem_of_getElem? (i := 430) (by decide +kernel), List.mem_of_getElem? (i := 431) (by decide +kernel)⟩
theorem lw_p30 : lw_okq (⟨"LateLines$Loads", "meanWait", "()F"⟩, 8) := ⟨⟨by decide +kernel, by decide +kernel⟩, List.mem_of_getElem? (i := 91) (by decide +kernel), List.mem_of_getElem? (i := 438) (by decide +kernel), List.mem_of_getElem? (i := 439) (by decide +kernel)⟩
theorem lw_p31 : lw_okq (⟨"LateLines$Loads", "spread", "()D"⟩, 8) := ⟨⟨by decide +kernel, by decide +kernel⟩, List.mem_of_getElem? (i := 91) (by decide +kernel), List.mem_of_getElem? (i := 452) (by decide +kernel), List.mem_of_getElem? (i := 453) (by decide +kernel)⟩
def lw_privs_2 : List (MethodName × Nat) := [(⟨"LateLines$State", "setDue", "(LLateLines$Box;I)V"⟩, 9), (⟨"LateLines$State", "use", "(LLateLines$Box;)V"⟩, 9), (⟨"LateLines$State", "serve", "(LLateLines$Box;IIII)V"⟩, 9), (⟨"LateLines$Box", "valueAtLast", "(I)I"⟩, 12), (⟨"LateLines$Loads", "answer", "(III)V"⟩, 8), (⟨"LateLines$Box", "layIn", "(II)V"⟩, 12), (⟨"LateLines$State", "ask", "(LLateLines$Box;II)Z"⟩, 9), (⟨"LateLines$State", "takeAsker", "(LLateLines$Box;II)V"⟩, 9), (⟨"LateLines$Loads", "add", "(I)I"⟩, 8), (⟨"LateLines$Box", "addAsker", "(IIII)V"⟩, 12), (⟨"LateLines$State", "pause", "(I)V"⟩, 9), (⟨"LateLines$Box", "changedBit", "(I)I"⟩, 12), (⟨"LateLines$State", "boxInPlace", "(II)I"⟩, 9), (⟨"LateLines$State", "boxOfFetch", "(I)LLateLines$Box;"⟩, 9), (⟨"LateLines$Loads", "meanWait", "()F"⟩, 8), (⟨"LateLines$Loads", "spread", "()D"⟩, 8)]
theorem lw_r2 : ∀ q ∈ lw_privs_2, lw_okq q := List.forall_mem_cons.mpr ⟨lw_p16, List.forall_mem_cons.mpr ⟨lw_p17, List.forall_mem_cons.mpr ⟨lw_p18, List.forall_mem_cons.mpr ⟨lw_p19, List.forall_mem_cons.mpr ⟨lw_p20, List.forall_mem_cons.mpr ⟨lw_p21, List.forall_mem_cons.mpr ⟨lw_p22, List.forall_mem_cons.mpr ⟨lw_p23, List.forall_mem_cons.mpr ⟨lw_p24, List.forall_mem_cons.mpr ⟨lw_p25, List.forall_mem_cons.mpr ⟨lw_p26, List.forall_mem_cons.mpr ⟨lw_p27, List.forall_mem_cons.mpr ⟨lw_p28, List.forall_mem_cons.mpr ⟨lw_p29, List.forall_mem_cons.mpr ⟨lw_p30, List.forall_mem_cons.mpr ⟨lw_p31, fun _ h => absurd h List.not_mem_nil⟩⟩⟩⟩⟩⟩⟩⟩⟩⟩⟩⟩⟩⟩⟩⟩
theorem lw_p32 : lw_okq (⟨"LateLines$Text", "readOrders", "()I"⟩, 8) := ⟨⟨by decide +kernel, by decide +kernel⟩, List.mem_of_getElem? (i := 175) (by decide +kernel), List.mem_of_getElem? (i := 468) (by decide +kernel), List.mem_of_getElem? (i := 469) (by decide +kernel)⟩
theorem lw_p33 : lw_okq (⟨"LateLines$Text", "peek", "()I"⟩, 8) := ⟨⟨by decide +kernel, by decide +kernel⟩, List.mem_of_getElem? (i := 175) (by decide +kernel), List.mem_of_getElem? (i := 472) (by decide +kernel), List.mem_of_getElem? (i := 473) (by decide +kernel)⟩
theorem lw_p34 : lw_okq (⟨"LateLines$Text", "byteAt", "(I)I"⟩, 8) := ⟨⟨by decide +kernel, by decide +kernel⟩, List.mem_of_getElem? (i := 175) (by decide +kernel), List.mem_of_getElem? (i := 476) (by decide +kernel), List.mem_of_getElem? (i := 477) (by decide +kernel)⟩
theorem lw_p35 : lw_okq (⟨"LateLines$Text", "readOrder", "()V"⟩, 8) := ⟨⟨by decide +kernel, by decide +kernel⟩, List.mem_of_getElem? (i := 175) (by decide +kernel), List.mem_of_getElem? (i := 480) (by decide +kernel), List.mem_of_getElem? (i := 481) (by decide +kernel)⟩
theorem lw_p36 : lw_okq (⟨"LateLines$Text", "readAsking", "(I)V"⟩, 8) := ⟨⟨by decide +kernel, by decide +kernel⟩, List.mem_of_getElem? (i := 175) (by decide +kernel), List.mem_of_getElem? (i := 484) (by decide +kernel), List.mem_of_getElem? (i := 485) (by decide +kernel)⟩
theorem lw_p37 : lw_okq (⟨"LateLines$Text", "readNumber", "()I"⟩, 8) := ⟨⟨by decide +kernel, by decide +kernel⟩, List.mem_of_getElem? (i := 175) (by decide +kernel), List.mem_of_getElem? (i := 489) (by decide +kernel), List.mem_of_getElem? (i := 490) (by decide +kernel)⟩
theorem lw_p38 : lw_okq (⟨"LateLines$Text", "addOrder", "(III)V"⟩, 8) := ⟨⟨by decide +kernel, by decide +kernel⟩, List.mem_of_getElem? (i := 175) (by decide +kernel), List.mem_of_getElem? (i := 496) (by decide +kernel), List.mem_of_getElem? (i := 497) (by decide +kernel)⟩
theorem lw_p39 : lw_okq (⟨"LateLines$State", "startTrial", "([II)V"⟩, 9) := ⟨⟨by decide +kernel, by decide +kernel⟩, List.mem_of_getElem? (i := 20) (by decide +kernel), List.mem_of_getElem? (i := 501) (by decide +kernel), List.mem_of_getElem? (i := 502) (by decide +kernel)⟩
theorem lw_p40 : lw_okq (⟨"LateLines$State", "carryOut", "(LLateLines$Text;)V"⟩, 9) := ⟨⟨by decide +kernel, by decide +kernel⟩, List.mem_of_getElem? (i := 20) (by decide +kernel), List.mem_of_getElem? (i := 505) (by decide +kernel), List.mem_of_getElem? (i := 506) (by decide +kernel)⟩
theorem lw_p41 : lw_okq (⟨"LateLines$State", "awaitFetches", "()V"⟩, 9) := ⟨⟨by decide +kernel, by decide +kernel⟩, List.mem_of_getElem? (i := 20) (by decide +kernel), List.mem_of_getElem? (i := 512) (by decide +kernel), List.mem_of_getElem? (i := 513) (by decide +kernel)⟩
theorem lw_p42 : lw_okq (⟨"LateLinesModel", "begins", "()V"⟩, 34) := ⟨⟨by decide +kernel, by decide +kernel⟩, List.mem_of_getElem? (i := 548) (by decide +kernel), List.mem_of_getElem? (i := 554) (by decide +kernel), List.mem_of_getElem? (i := 555) (by decide +kernel)⟩
theorem lw_p43 : lw_okq (⟨"LateLinesModel", "comesBack", "(I)V"⟩, 34) := ⟨⟨by decide +kernel, by decide +kernel⟩, List.mem_of_getElem? (i := 548) (by decide +kernel), List.mem_of_getElem? (i := 667) (by decide +kernel), List.mem_of_getElem? (i := 668) (by decide +kernel)⟩
theorem lw_p44 : lw_okq (⟨"LateLinesModel", "takes", "([II)V"⟩, 34) := ⟨⟨by decide +kernel, by decide +kernel⟩, List.mem_of_getElem? (i := 548) (by decide +kernel), List.mem_of_getElem? (i := 671) (by decide +kernel), List.mem_of_getElem? (i := 672) (by decide +kernel)⟩
theorem lw_p45 : lw_okq (⟨"LateLinesModel", "bad", "()I"⟩, 34) := ⟨⟨by decide +kernel, by decide +kernel⟩, List.mem_of_getElem? (i := 548) (by decide +kernel), List.mem_of_getElem? (i := 685) (by decide +kernel), List.mem_of_getElem? (i := 686) (by decide +kernel)⟩
theorem lw_p46 : lw_okq (⟨"LateLinesModel", "leavesState", "()V"⟩, 34) := ⟨⟨by decide +kernel, by decide +kernel⟩, List.mem_of_getElem? (i := 548) (by decide +kernel), List.mem_of_getElem? (i := 689) (by decide +kernel), List.mem_of_getElem? (i := 690) (by decide +kernel)⟩
theorem lw_p47 : lw_okq (⟨"LateLinesModel", "keeps", "(I)V"⟩, 34) := ⟨⟨by decide +kernel, by decide +kernel⟩, List.mem_of_getElem? (i := 548) (by decide +kernel), List.mem_of_getElem? (i := 693) (by decide +kernel), List.mem_of_getElem? (i := 694) (by decide +kernel)⟩
def lw_privs_3 : List (MethodName × Nat) := [(⟨"LateLines$Text", "readOrders", "()I"⟩, 8), (⟨"LateLines$Text", "peek", "()I"⟩, 8), (⟨"LateLines$Text", "byteAt", "(I)I"⟩, 8), (⟨"LateLines$Text", "readOrder", "()V"⟩, 8), (⟨"LateLines$Text", "readAsking", "(I)V"⟩, 8), (⟨"LateLines$Text", "readNumber", "()I"⟩, 8), (⟨"LateLines$Text", "addOrder", "(III)V"⟩, 8), (⟨"LateLines$State", "startTrial", "([II)V"⟩, 9), (⟨"LateLines$State", "carryOut", "(LLateLines$Text;)V"⟩, 9), (⟨"LateLines$State", "awaitFetches", "()V"⟩, 9), (⟨"LateLinesModel", "begins", "()V"⟩, 34), (⟨"LateLinesModel", "comesBack", "(I)V"⟩, 34), (⟨"LateLinesModel", "takes", "([II)V"⟩, 34), (⟨"LateLinesModel", "bad", "()I"⟩, 34), (⟨"LateLinesModel", "leavesState", "()V"⟩, 34), (⟨"LateLinesModel", "keeps", "(I)V"⟩, 34)]
theorem lw_r3 : ∀ q ∈ lw_privs_3, lw_okq q := List.forall_mem_cons.mpr ⟨lw_p32, List.forall_mem_cons.mpr ⟨lw_p33, List.forall_mem_cons.mpr ⟨lw_p34, List.forall_mem_cons.mpr ⟨lw_p35, List.forall_mem_cons.mpr ⟨lw_p36, List.forall_mem_cons.mpr ⟨lw_p37, List.forall_mem_cons.mpr ⟨lw_p38, List.forall_mem_cons.mpr ⟨lw_p39, List.forall_mem_cons.mpr ⟨lw_p40, List.forall_mem_cons.mpr ⟨lw_p41, List.forall_mem_cons.mpr ⟨lw_p42, List.forall_mem_cons.mpr ⟨lw_p43, List.forall_mem_cons.mpr ⟨lw_p44, List.forall_mem_cons.mpr ⟨lw_p45, List.forall_mem_cons.mpr ⟨lw_p46, List.forall_mem_cons.mpr ⟨lw_p47, fun _ h => absurd h List.not_mem_nil⟩⟩⟩⟩⟩⟩⟩⟩⟩⟩⟩⟩⟩⟩⟩⟩
theorem lw_p48 : lw_okq (⟨"LateLinesModel", "lays", "([II)V"⟩, 34) := ⟨⟨by decide +kernel, by decide +kernel⟩, List.mem_of_getElem? (i := 548) (by decide +kernel), List.mem_of_getElem? (i := 697) (by decide +kernel), List.mem_of_getElem? (i := 698) (by decide +kernel)⟩
theorem lw_p49 : lw_okq (⟨"LateLinesModel", "done", "(IIII)I"⟩, 34) := ⟨⟨by decide +kernel, by decide +kernel⟩, List.mem_of_getElem? (i := 548) (by decide +kernel), List.mem_of_getElem? (i := 715) (by decide +kernel), List.mem_of_getElem? (i := 716) (by decide +kernel)⟩
theorem lw_p50 : lw_okq (⟨"LateLinesModel", "goesBy", "()V"⟩, 34) := ⟨⟨by decide +kernel, by decide +kernel⟩, List.mem_of_getElem? (i := 548) (by decide +kernel), List.mem_of_getElem? (i := 719) (by decide +kernel), List.mem_of_getElem? (i := 720) (by decide +kernel)⟩
theorem lw_p51 : lw_okq (⟨"LateLinesModel", "comesTime", "()V"⟩, 34) := ⟨⟨by decide +kernel, by decide +kernel⟩, List.mem_of_getElem? (i := 548) (by decide +kernel), List.mem_of_getElem? (i := 723) (by decide +kernel), List.mem_of_getElem? (i := 724) (by decide +kernel)⟩
theorem lw_p52 : lw_okq (⟨"LateLinesModel", "goesFar", "(I)V"⟩, 34) := ⟨⟨by decide +kernel, by decide +kernel⟩, List.mem_of_getElem? (i := 548) (by decide +kernel), List.mem_of_getElem? (i := 727) (by decide +kernel), List.mem_of_getElem? (i := 728) (by decide +kernel)⟩
theorem lw_p53 : lw_okq (⟨"LateLinesModel", "comesFetched", "(I)V"⟩, 34) := ⟨⟨by decide +kernel, by decide +kernel⟩, List.mem_of_getElem? (i := 548) (by decide +kernel), List.mem_of_getElem? (i := 732) (by decide +kernel), List.mem_of_getElem? (i := 733) (by decide +kernel)⟩
theorem lw_p54 : lw_okq (⟨"LateLinesModel", "comesNear", "(I)V"⟩, 34) := ⟨⟨by decide +kernel, by decide +kernel⟩, List.mem_of_getElem? (i := 548) (by decide +kernel), List.mem_of_getElem? (i := 736) (by decide +kernel), List.mem_of_getElem? (i := 737) (by decide +kernel)⟩
theorem lw_p55 : lw_okq (⟨"LateLinesModel", "makesRoom", "(I)V"⟩, 34) := ⟨⟨by decide +kernel, by decide +kernel⟩, List.mem_of_getElem? (i := 548) (by decide +kernel), List.mem_of_getElem? (i := 743) (by decide +kernel), List.mem_of_getElem? (i := 744) (by decide +kernel)⟩
theorem lw_p56 : lw_okq (⟨"LateLinesModel", "halfLong", "()I"⟩, 34) := ⟨⟨by decide +kernel, by decide +kernel⟩, List.mem_of_getElem? (i := 548) (by decide +kernel), List.mem_of_getElem? (i := 747) (by decide +kernel), List.mem_of_getElem? (i := 748) (by decide +kernel)⟩
theorem lw_p57 : lw_okq (⟨"LateLinesModel", "laysIn", "(III)V"⟩, 34) := ⟨⟨by decide +kernel, by decide +kernel⟩, List.mem_of_getElem? (i := 548) (by decide +kernel), List.mem_of_getElem? (i := 751) (by decide +kernel), List.mem_of_getElem? (i := 752) (by decide +kernel)⟩
theorem lw_p58 : lw_okq (⟨"LateLinesModel", "getsItem", "(IIII)V"⟩, 34) := ⟨⟨by decide +kernel, by decide +kernel⟩, List.mem_of_getElem? (i := 548) (by decide +kernel), List.mem_of_getElem? (i := 755) (by decide +kernel), List.mem_of_getElem? (i := 756) (by decide +kernel)⟩
theorem lw_p59 : lw_okq (⟨"LateLinesModel", "beginsNow", "(IIII)Z"⟩, 34) := ⟨⟨by decide +kernel, by decide +kernel⟩, List.mem_of_getElem? (i := 548) (by decide +kernel), List.mem_of_getElem? (i := 759) (by decide +kernel), List.mem_of_getElem? (i := 760) (by decide +kernel)⟩
theorem lw_p60 : lw_okq (⟨"LateLinesModel", "counts", "(I)V"⟩, 34) := ⟨⟨by decide +kernel, by decide +kernel⟩, List.mem_of_getElem? (i := 548) (by decide +kernel), List.mem_of_getElem? (i := 763) (by decide +kernel), List.mem_of_getElem? (i := 764) (by decide +kernel)⟩
theorem lw_p61 : lw_okq (⟨"LateLinesModel", "does", "(IIII)V"⟩, 34) := ⟨⟨by decide +kernel, by decide +kernel⟩, List.mem_of_getElem? (i := 548) (by decide +kernel), List.mem_of_getElem? (i := 767) (by decide +kernel), List.mem_of_getElem? (i := 768) (by decide +kernel)⟩
theorem lw_p62 : lw_okq (⟨"LateLinesModel", "numberOf", "(I)I"⟩, 34) := ⟨⟨by decide +kernel, by decide +kernel⟩, List.mem_of_getElem? (i := 548) (by decide +kernel), List.mem_of_getElem? (i := 771) (by decide +kernel), List.mem_of_getElem? (i := 772) (by decide +kernel)⟩
theorem lw_p63 : lw_okq (⟨"LateLinesModel", "counted", "(IF)V"⟩, 34) := ⟨⟨by decide +kernel, by decide +kernel⟩, List.mem_of_getElem? (i := 548) (by decide +kernel), List.mem_of_getElem? (i := 776) (by decide +kernel), List.mem_of_getElem? (i := 777) (by decide +kernel)⟩
def lw_privs_4 : List (MethodName × Nat) := [(⟨"LateLinesModel", "lays", "([II)V"⟩, 34), (⟨"LateLinesModel", "done", "(IIII)I"⟩, 34), (⟨"LateLinesModel", "goesBy", "()V"⟩, 34), (⟨"LateLinesModel", "comesTime", "()V"⟩, 34), (⟨"LateLinesModel", "goesFar", "(I)V"⟩, 34), (⟨"LateLinesModel", "comesFetched", "(I)V"⟩, 34), (⟨"LateLinesModel", "comesNear", "(I)V"⟩, 34), (⟨"LateLinesModel", "makesRoom", "(I)V"⟩, 34), (⟨"LateLinesModel", "halfLong", "()I"⟩, 34), (⟨"LateLinesModel", "laysIn", "(III)V"⟩, 34), (⟨"LateLinesModel", "getsItem", "(IIII)V"⟩, 34), (⟨"LateLinesModel", "beginsNow", "(IIII)Z"⟩, 34), (⟨"LateLinesModel", "counts", "(I)V"⟩, 34), (⟨"LateLinesModel", "does", "(IIII)V"⟩, 34), (⟨"LateLinesModel", "numberOf", "(I)I"⟩, 34), (⟨"LateLinesModel", "counted", "(IF)V"⟩, 34)]
theorem lw_r4 : ∀ q ∈ lw_privs_4, lw_okq q := List.forall_mem_cons.mpr ⟨lw_p48, List.forall_mem_cons.mpr ⟨lw_p49, List.forall_mem_cons.mpr ⟨lw_p50, List.forall_mem_cons.mpr ⟨lw_p51, List.forall_mem_cons.mpr ⟨lw_p52, List.forall_mem_cons.mpr ⟨lw_p53, List.forall_mem_cons.mpr ⟨lw_p54, List.forall_mem_cons.mpr ⟨lw_p55, List.forall_mem_cons.mpr ⟨lw_p56, List.forall_mem_cons.mpr ⟨lw_p57, List.forall_mem_cons.mpr ⟨lw_p58, List.forall_mem_cons.mpr ⟨lw_p59, List.forall_mem_cons.mpr ⟨lw_p60, List.forall_mem_cons.mpr ⟨lw_p61, List.forall_mem_cons.mpr ⟨lw_p62, List.forall_mem_cons.mpr ⟨lw_p63, fun _ h => absurd h List.not_mem_nil⟩⟩⟩⟩⟩⟩⟩⟩⟩⟩⟩⟩⟩⟩⟩⟩
theorem lw_p64 : lw_okq (⟨"LateLinesModel", "asks", "(IIII)V"⟩, 34) := ⟨⟨by decide +kernel, by decide +kernel⟩, List.mem_of_getElem? (i := 548) (by decide +kernel), List.mem_of_getElem? (i := 781) (by decide +kernel), List.mem_of_getElem? (i := 782) (by decide +kernel)⟩
theorem lw_p65 : lw_okq (⟨"LateLinesModel", "atLast", "(II)I"⟩, 34) := ⟨⟨by decide +kernel, by decide +kernel⟩, List.mem_of_getElem? (i := 548) (by decide +kernel), List.mem_of_getElem? (i := 832) (by decide +kernel), List.mem_of_getElem? (i := 833) (by decide +kernel)⟩
theorem lw_p66 : lw_okq (⟨"LateLinesModel", "costBy", "(I)F"⟩, 34) := ⟨⟨by decide +kernel, by decide +kernel⟩, List.mem_of_getElem? (i := 548) (by decide +kernel), List.mem_of_getElem? (i := 848) (by decide +kernel), List.mem_of_getElem? (i := 849) (by decide +kernel)⟩
theorem lw_p67 : lw_okq (⟨"LateLinesModel", "goesThrough", "(Z)I"⟩, 34) := ⟨⟨by decide +kernel, by decide +kernel⟩, List.mem_of_getElem? (i := 548) (by decide +kernel), List.mem_of_getElem? (i := 888) (by decide +kernel), List.mem_of_getElem? (i := 889) (by decide +kernel)⟩
theorem lw_p68 : lw_okq (⟨"LateLinesModel", "skips", "()V"⟩, 34) := ⟨⟨by decide +kernel, by decide +kernel⟩, List.mem_of_getElem? (i := 548) (by decide +kernel), List.mem_of_getElem? (i := 892) (by decide +kernel), List.mem_of_getElem? (i := 893) (by decide +kernel)⟩
theorem lw_p69 : lw_okq (⟨"LateLinesModel", "here", "()I"⟩, 34) := ⟨⟨by decide +kernel, by decide +kernel⟩, List.mem_of_getElem? (i := 548) (by decide +kernel), List.mem_of_getElem? (i := 896) (by decide +kernel), List.mem_of_getElem? (i := 897) (by decide +kernel)⟩
theorem lw_p70 : lw_okq (⟨"LateLinesModel", "readsOrder", "(Z)Z"⟩, 34) := ⟨⟨by decide +kernel, by decide +kernel⟩, List.mem_of_getElem? (i := 548) (by decide +kernel), List.mem_of_getElem? (i := 900) (by decide +kernel), List.mem_of_getElem? (i := 901) (by decide +kernel)⟩
theorem lw_p71 : lw_okq (⟨"LateLinesModel", "readsBox", "(Z)Z"⟩, 34) := ⟨⟨by decide +kernel, by decide +kernel⟩, List.mem_of_getElem? (i := 548) (by decide +kernel), List.mem_of_getElem? (i := 904) (by decide +kernel), List.mem_of_getElem? (i := 905) (by decide +kernel)⟩
theorem lw_p72 : lw_okq (⟨"LateLinesModel", "number", "()Z"⟩, 34) := ⟨⟨by decide +kernel, by decide +kernel⟩, List.mem_of_getElem? (i := 548) (by decide +kernel), List.mem_of_getElem? (i := 908) (by decide +kernel), List.mem_of_getElem? (i := 909) (by decide +kernel)⟩
theorem lw_p73 : lw_okq (⟨"LateLinesModel", "ends", "()Z"⟩, 34) := ⟨⟨by decide +kernel, by decide +kernel⟩, List.mem_of_getElem? (i := 548) (by decide +kernel), List.mem_of_getElem? (i := 912) (by decide +kernel), List.mem_of_getElem? (i := 913) (by decide +kernel)⟩
theorem lw_p74 : lw_okq (⟨"LateLinesModel", "ticksBy", "(I)I"⟩, 34) := ⟨⟨by decide +kernel, by decide +kernel⟩, List.mem_of_getElem? (i := 548) (by decide +kernel), List.mem_of_getElem? (i := 920) (by decide +kernel), List.mem_of_getElem? (i := 921) (by decide +kernel)⟩
theorem lw_p75 : lw_okq (⟨"LateLinesModel", "toldBy", "(I)I"⟩, 34) := ⟨⟨by decide +kernel, by decide +kernel⟩, List.mem_of_getElem? (i := 548) (by decide +kernel), List.mem_of_getElem? (i := 928) (by decide +kernel), List.mem_of_getElem? (i := 929) (by decide +kernel)⟩
def lw_privs_5 : List (MethodName × Nat) := [(⟨"LateLinesModel", "asks", "(IIII)V"⟩, 34), (⟨"LateLinesModel", "atLast", "(II)I"⟩, 34), (⟨"LateLinesModel", "costBy", "(I)F"⟩, 34), (⟨"LateLinesModel", "goesThrough", "(Z)I"⟩, 34), (⟨"LateLinesModel", "skips", "()V"⟩, 34), (⟨"LateLinesModel", "here", "()I"⟩, 34), (⟨"LateLinesModel", "readsOrder", "(Z)Z"⟩, 34), (⟨"LateLinesModel", "readsBox", "(Z)Z"⟩, 34), (⟨"LateLinesModel", "number", "()Z"⟩, 34), (⟨"LateLinesModel", "ends", "()Z"⟩, 34), (⟨"LateLinesModel", "ticksBy", "(I)I"⟩, 34), (⟨"LateLinesModel", "toldBy", "(I)I"⟩, 34)]
theorem lw_r5 : ∀ q ∈ lw_privs_5, lw_okq q := List.forall_mem_cons.mpr ⟨lw_p64, List.forall_mem_cons.mpr ⟨lw_p65, List.forall_mem_cons.mpr ⟨lw_p66, List.forall_mem_cons.mpr ⟨lw_p67, List.forall_mem_cons.mpr ⟨lw_p68, List.forall_mem_cons.mpr ⟨lw_p69, List.forall_mem_cons.mpr ⟨lw_p70, List.forall_mem_cons.mpr ⟨lw_p71, List.forall_mem_cons.mpr ⟨lw_p72, List.forall_mem_cons.mpr ⟨lw_p73, List.forall_mem_cons.mpr ⟨lw_p74, List.forall_mem_cons.mpr ⟨lw_p75, fun _ h => absurd h List.not_mem_nil⟩⟩⟩⟩⟩⟩⟩⟩⟩⟩⟩⟩
def lw_privs : List (MethodName × Nat) := lw_privs_1 ++ (lw_privs_2 ++ (lw_privs_3 ++ (lw_privs_4 ++ (lw_privs_5))))
def lw_tbl : List Cond := k2_sels lw_privs ++ tables_1
theorem lw_privs_ok : ∀ q ∈ lw_privs, lw_okq q := by
  show ∀ q ∈ lw_privs_1 ++ (lw_privs_2 ++ (lw_privs_3 ++ (lw_privs_4 ++ (lw_privs_5)))), lw_okq q
  exact List.forall_mem_append.mpr ⟨lw_r1, List.forall_mem_append.mpr ⟨lw_r2, List.forall_mem_append.mpr ⟨lw_r3, List.forall_mem_append.mpr ⟨lw_r4, lw_r5⟩⟩⟩⟩
/-- the streams that the claim lets the run draw from -/
abbrev lw_cs : List Choice := [Jvm.Choice.named "NaN.bits"]
theorem lw_bits : nanBits ∈ lw_cs := by first | decide | exact List.mem_cons_self | simp [lw_cs, nanBits]
-- ===== end of PART A; then your names; then what follows =====
def RX0 : String := "LateLines$Box"
def TX0 : u_T := fun k => match k with
  | 0 => ("LateLines$Box", "number", "I", true)
  | 1 => ("LateLines$Box", "far", "[I", true)
  | 2 => ("LateLines$Box", "held", "[I", true)
  | 3 => ("LateLines$Box", "askItem", "[I", true)
  | 4 => ("LateLines$Box", "askValue", "[I", true)
  | 5 => ("LateLines$Box", "askLoad", "[I", true)
  | 6 => ("LateLines$Box", "askTick", "[I", true)
  | 7 => ("LateLines$Box", "askers", "I", false)
  | 8 => ("LateLines$Box", "spot", "I", false)
  | 9 => ("LateLines$Box", "changed", "I", false)
  | 10 => ("LateLines$Box", "due", "I", false)
  | _ => ("LateLines$Box", "used", "I", false)
def tyX0 : Nat → FieldType := fun k => match k with
  | 0 => .int
  | 1 => .array .int
  | 2 => .array .int
  | 3 => .array .int
  | 4 => .array .int
  | 5 => .array .int
  | 6 => .array .int
  | 7 => .int
  | 8 => .int
  | 9 => .int
  | 10 => .int
  | _ => .int
theorem nmX0 : ∀ a, a < 12 → ∀ b, b < 12 → a ≠ b → (TX0 a).2.1 ≠ (TX0 b).2.1 := by decide +kernel
theorem tyX0_ok : ∀ k, k < 12 → parseFieldDescriptor (TX0 k).2.2.1 = some (tyX0 k) := by decide +kernel
abbrev cX0_init : ByteArray := prog_2_method_1_code
def yX0_init : MethodName := ⟨RX0, "<init>", "(I)V"⟩
abbrev cX0_renew : ByteArray := prog_2_method_2_code
def yX0_renew : MethodName := ⟨RX0, "renew", "()V"⟩
abbrev cX0_become : ByteArray := prog_2_method_3_code
def yX0_become : MethodName := ⟨RX0, "become", "(LLateLines$Box;)V"⟩
abbrev cX0_changedBit : ByteArray := prog_2_method_4_code
def yX0_changedBit : MethodName := ⟨RX0, "changedBit", "(I)I"⟩
abbrev cX0_valueAtLast : ByteArray := prog_2_method_5_code
def yX0_valueAtLast : MethodName := ⟨RX0, "valueAtLast", "(I)I"⟩
abbrev cX0_addAsker : ByteArray := prog_2_method_6_code
def yX0_addAsker : MethodName := ⟨RX0, "addAsker", "(IIII)V"⟩
abbrev cX0_takeFromFar : ByteArray := prog_2_method_7_code
def yX0_takeFromFar : MethodName := ⟨RX0, "takeFromFar", "()V"⟩
abbrev cX0_goFar : ByteArray := prog_2_method_8_code
def yX0_goFar : MethodName := ⟨RX0, "goFar", "()V"⟩
abbrev cX0_layIn : ByteArray := prog_2_method_9_code
def yX0_layIn : MethodName := ⟨RX0, "layIn", "(II)V"⟩
def RX1 : String := "LateLines$Loads"
def TX1 : u_T := fun k => match k with
  | 0 => ("LateLines$Loads", "gave", "[I", true)
  | 1 => ("LateLines$Loads", "waited", "[I", true)
  | 2 => ("LateLines$Loads", "began", "[I", true)
  | 3 => ("LateLines$Loads", "known", "I", false)
  | 4 => ("LateLines$Loads", "answered", "I", false)
  | 5 => ("LateLines$Loads", "greatest", "I", false)
  | 6 => ("LateLines$Loads", "sum", "J", false)
  | _ => ("LateLines$Loads", "squares", "J", false)
def tyX1 : Nat → FieldType := fun k => match k with
  | 0 => .array .int
  | 1 => .array .int
  | 2 => .array .int
  | 3 => .int
  | 4 => .int
  | 5 => .int
  | 6 => .long
  | _ => .long
theorem nmX1 : ∀ a, a < 8 → ∀ b, b < 8 → a ≠ b → (TX1 a).2.1 ≠ (TX1 b).2.1 := by decide +kernel
theorem tyX1_ok : ∀ k, k < 8 → parseFieldDescriptor (TX1 k).2.2.1 = some (tyX1 k) := by decide +kernel
abbrev cX1_init : ByteArray := prog_3_method_1_code
def yX1_init : MethodName := ⟨RX1, "<init>", "()V"⟩
abbrev cX1_renew : ByteArray := prog_3_method_2_code
def yX1_renew : MethodName := ⟨RX1, "renew", "()V"⟩
abbrev cX1_become : ByteArray := prog_3_method_3_code
def yX1_become : MethodName := ⟨RX1, "become", "(LLateLines$Loads;)V"⟩
abbrev cX1_add : ByteArray := prog_3_method_4_code
def yX1_add : MethodName := ⟨RX1, "add", "(I)I"⟩
abbrev cX1_answer : ByteArray := prog_3_method_5_code
def yX1_answer : MethodName := ⟨RX1, "answer", "(III)V"⟩
abbrev cX1_meanWait : ByteArray := prog_3_method_6_code
def yX1_meanWait : MethodName := ⟨RX1, "meanWait", "()F"⟩
abbrev cX1_spread : ByteArray := prog_3_method_7_code
def yX1_spread : MethodName := ⟨RX1, "spread", "()D"⟩
def RX2 : String := "LateLines$State"
def TX2 : u_T := fun k => match k with
  | 0 => ("LateLines$State", "limits", "[I", true)
  | 1 => ("LateLines$State", "counts", "[I", true)
  | 2 => ("LateLines$State", "boxes", "[LLateLines$Box;", true)
  | 3 => ("LateLines$State", "loads", "LLateLines$Loads;", true)
  | 4 => ("LateLines$State", "cost", "F", false)
  | 5 => ("LateLines$State", "fetches", "I", false)
  | 6 => ("LateLines$State", "shelved", "I", false)
  | 7 => ("LateLines$State", "uses", "I", false)
  | _ => ("LateLines$State", "soonest", "I", false)
def tyX2 : Nat → FieldType := fun k => match k with
  | 0 => .array .int
  | 1 => .array .int
  | 2 => .array (.object "LateLines$Box")
  | 3 => .object "LateLines$Loads"
  | 4 => .float
  | 5 => .int
  | 6 => .int
  | 7 => .int
  | _ => .int
theorem nmX2 : ∀ a, a < 9 → ∀ b, b < 9 → a ≠ b → (TX2 a).2.1 ≠ (TX2 b).2.1 := by decide +kernel
theorem tyX2_ok : ∀ k, k < 9 → parseFieldDescriptor (TX2 k).2.2.1 = some (tyX2 k) := by decide +kernel
abbrev cX2_init : ByteArray := prog_4_method_1_code
def yX2_init : MethodName := ⟨RX2, "<init>", "()V"⟩
abbrev cX2_renew : ByteArray := prog_4_method_2_code
def yX2_renew : MethodName := ⟨RX2, "renew", "()V"⟩
abbrev cX2_become : ByteArray := prog_4_method_3_code
def yX2_become : MethodName := ⟨RX2, "become", "(LLateLines$State;)V"⟩
abbrev cX2_begin : ByteArray := prog_4_method_4_code
def yX2_begin : MethodName := ⟨RX2, "begin", "(LLateLines$Box;II)I"⟩
abbrev cX2_pause : ByteArray := prog_4_method_5_code
def yX2_pause : MethodName := ⟨RX2, "pause", "(I)V"⟩
abbrev cX2_carryOut : ByteArray := prog_4_method_6_code
def yX2_carryOut : MethodName := ⟨RX2, "carryOut", "(LLateLines$Text;)V"⟩
abbrev cX2_startTrial : ByteArray := prog_4_method_7_code
def yX2_startTrial : MethodName := ⟨RX2, "startTrial", "([II)V"⟩
abbrev cX2_awaitFetches : ByteArray := prog_4_method_8_code
def yX2_awaitFetches : MethodName := ⟨RX2, "awaitFetches", "()V"⟩
abbrev cX2_tally : ByteArray := prog_4_method_9_code
def yX2_tally : MethodName := ⟨RX2, "tally", "(IF)V"⟩
abbrev cX2_pass : ByteArray := prog_4_method_10_code
def yX2_pass : MethodName := ⟨RX2, "pass", "()V"⟩
abbrev cX2_come : ByteArray := prog_4_method_11_code
def yX2_come : MethodName := ⟨RX2, "come", "(LLateLines$Box;)V"⟩
abbrev cX2_settle : ByteArray := prog_4_method_12_code
def yX2_settle : MethodName := ⟨RX2, "settle", "(LLateLines$Box;)V"⟩
abbrev cX2_whoMustGo : ByteArray := prog_4_method_13_code
def yX2_whoMustGo : MethodName := ⟨RX2, "whoMustGo", "(I)LLateLines$Box;"⟩
abbrev cX2_use : ByteArray := prog_4_method_14_code
def yX2_use : MethodName := ⟨RX2, "use", "(LLateLines$Box;)V"⟩
abbrev cX2_setDue : ByteArray := prog_4_method_15_code
def yX2_setDue : MethodName := ⟨RX2, "setDue", "(LLateLines$Box;I)V"⟩
abbrev cX2_ask : ByteArray := prog_4_method_16_code
def yX2_ask : MethodName := ⟨RX2, "ask", "(LLateLines$Box;II)Z"⟩
abbrev cX2_takeAsker : ByteArray := prog_4_method_17_code
def yX2_takeAsker : MethodName := ⟨RX2, "takeAsker", "(LLateLines$Box;II)V"⟩
abbrev cX2_serve : ByteArray := prog_4_method_18_code
def yX2_serve : MethodName := ⟨RX2, "serve", "(LLateLines$Box;IIII)V"⟩
abbrev cX2_boxInPlace : ByteArray := prog_4_method_19_code
def yX2_boxInPlace : MethodName := ⟨RX2, "boxInPlace", "(II)I"⟩
abbrev cX2_boxOfFetch : ByteArray := prog_4_method_20_code
def yX2_boxOfFetch : MethodName := ⟨RX2, "boxOfFetch", "(I)LLateLines$Box;"⟩
def RX3 : String := "LateLines$Text"
def TX3 : u_T := fun k => match k with
  | 0 => ("LateLines$Text", "bytes", "[I", true)
  | 1 => ("LateLines$Text", "orderBox", "[I", true)
  | 2 => ("LateLines$Text", "orderItem", "[I", true)
  | 3 => ("LateLines$Text", "orderNumber", "[I", true)
  | 4 => ("LateLines$Text", "length", "I", false)
  | 5 => ("LateLines$Text", "orders", "I", false)
  | 6 => ("LateLines$Text", "at", "I", false)
  | _ => ("LateLines$Text", "fault", "I", false)
def tyX3 : Nat → FieldType := fun k => match k with
  | 0 => .array .int
  | 1 => .array .int
  | 2 => .array .int
  | 3 => .array .int
  | 4 => .int
  | 5 => .int
  | 6 => .int
  | _ => .int
theorem nmX3 : ∀ a, a < 8 → ∀ b, b < 8 → a ≠ b → (TX3 a).2.1 ≠ (TX3 b).2.1 := by decide +kernel
theorem tyX3_ok : ∀ k, k < 8 → parseFieldDescriptor (TX3 k).2.2.1 = some (tyX3 k) := by decide +kernel
abbrev cX3_init : ByteArray := prog_5_method_1_code
def yX3_init : MethodName := ⟨RX3, "<init>", "()V"⟩
abbrev cX3_readOrders : ByteArray := prog_5_method_2_code
def yX3_readOrders : MethodName := ⟨RX3, "readOrders", "()I"⟩
abbrev cX3_peek : ByteArray := prog_5_method_3_code
def yX3_peek : MethodName := ⟨RX3, "peek", "()I"⟩
abbrev cX3_byteAt : ByteArray := prog_5_method_4_code
def yX3_byteAt : MethodName := ⟨RX3, "byteAt", "(I)I"⟩
abbrev cX3_readOrder : ByteArray := prog_5_method_5_code
def yX3_readOrder : MethodName := ⟨RX3, "readOrder", "()V"⟩
abbrev cX3_readAsking : ByteArray := prog_5_method_6_code
def yX3_readAsking : MethodName := ⟨RX3, "readAsking", "(I)V"⟩
abbrev cX3_readNumber : ByteArray := prog_5_method_7_code
def yX3_readNumber : MethodName := ⟨RX3, "readNumber", "()I"⟩
abbrev cX3_isFigure : ByteArray := prog_5_method_8_code
def yX3_isFigure : MethodName := ⟨RX3, "isFigure", "(I)Z"⟩
abbrev cX3_addOrder : ByteArray := prog_5_method_9_code
def yX3_addOrder : MethodName := ⟨RX3, "addOrder", "(III)V"⟩
def RX4 : String := "LateLines"
def TX4 : u_T := fun k => match k with
  | 0 => ("LateLines", "now", "LLateLines$State;", true)
  | 1 => ("LateLines", "trial", "LLateLines$State;", true)
  | 2 => ("LateLines", "kept", "[LLateLines$State;", true)
  | 3 => ("LateLines", "text", "LLateLines$Text;", true)
  | 4 => ("LateLines", "refused", "[I", true)
  | 5 => ("LateLines", "newest", "I", false)
  | _ => ("LateLines", "states", "I", false)
def tyX4 : Nat → FieldType := fun k => match k with
  | 0 => .object "LateLines$State"
  | 1 => .object "LateLines$State"
  | 2 => .array (.object "LateLines$State")
  | 3 => .object "LateLines$Text"
  | 4 => .array .int
  | 5 => .int
  | _ => .int
theorem nmX4 : ∀ a, a < 7 → ∀ b, b < 7 → a ≠ b → (TX4 a).2.1 ≠ (TX4 b).2.1 := by decide +kernel
theorem tyX4_ok : ∀ k, k < 7 → parseFieldDescriptor (TX4 k).2.2.1 = some (tyX4 k) := by decide +kernel
abbrev cX4_init : ByteArray := prog_1_method_1_code
def yX4_init : MethodName := ⟨RX4, "<init>", "()V"⟩
abbrev cX4_sets : ByteArray := prog_1_method_2_code
def yX4_sets : MethodName := ⟨RX4, "sets", "(II)I"⟩
abbrev cX4_anew : ByteArray := prog_1_method_3_code
def yX4_anew : MethodName := ⟨RX4, "anew", "()I"⟩
abbrev cX4_load : ByteArray := prog_1_method_4_code
def yX4_load : MethodName := ⟨RX4, "load", "(II)I"⟩
abbrev cX4_store : ByteArray := prog_1_method_5_code
def yX4_store : MethodName := ⟨RX4, "store", "(III)I"⟩
abbrev cX4_fence : ByteArray := prog_1_method_6_code
def yX4_fence : MethodName := ⟨RX4, "fence", "()I"⟩
abbrev cX4_ticks : ByteArray := prog_1_method_7_code
def yX4_ticks : MethodName := ⟨RX4, "ticks", "(I)I"⟩
abbrev cX4_draw : ByteArray := prog_1_method_8_code
def yX4_draw : MethodName := ⟨RX4, "draw", "(II)I"⟩
abbrev cX4_got : ByteArray := prog_1_method_9_code
def yX4_got : MethodName := ⟨RX4, "got", "(II)I"⟩
abbrev cX4_often : ByteArray := prog_1_method_10_code
def yX4_often : MethodName := ⟨RX4, "often", "(I)I"⟩
abbrev cX4_where : ByteArray := prog_1_method_11_code
def yX4_where : MethodName := ⟨RX4, "where", "(I)I"⟩
abbrev cX4_item : ByteArray := prog_1_method_12_code
def yX4_item : MethodName := ⟨RX4, "item", "(III)I"⟩
abbrev cX4_place : ByteArray := prog_1_method_13_code
def yX4_place : MethodName := ⟨RX4, "place", "(II)I"⟩
abbrev cX4_fetch : ByteArray := prog_1_method_14_code
def yX4_fetch : MethodName := ⟨RX4, "fetch", "(II)I"⟩
abbrev cX4_cost : ByteArray := prog_1_method_15_code
def yX4_cost : MethodName := ⟨RX4, "cost", "(I)I"⟩
abbrev cX4_even : ByteArray := prog_1_method_16_code
def yX4_even : MethodName := ⟨RX4, "even", "()J"⟩
abbrev cX4_best : ByteArray := prog_1_method_17_code
def yX4_best : MethodName := ⟨RX4, "best", "(I)I"⟩
abbrev cX4_type : ByteArray := prog_1_method_18_code
def yX4_type : MethodName := ⟨RX4, "type", "(I)I"⟩
abbrev cX4_clear : ByteArray := prog_1_method_19_code
def yX4_clear : MethodName := ⟨RX4, "clear", "()I"⟩
abbrev cX4_runs : ByteArray := prog_1_method_20_code
def yX4_runs : MethodName := ⟨RX4, "runs", "()I"⟩
abbrev cX4_back : ByteArray := prog_1_method_21_code
def yX4_back : MethodName := ⟨RX4, "back", "()I"⟩
abbrev cX4_told : ByteArray := prog_1_method_22_code
def yX4_told : MethodName := ⟨RX4, "told", "(I)I"⟩
abbrev cX4_digest : ByteArray := prog_1_method_23_code
def yX4_digest : MethodName := ⟨RX4, "digest", "()J"⟩
abbrev cX4_isBox : ByteArray := prog_1_method_24_code
def yX4_isBox : MethodName := ⟨RX4, "isBox", "(I)Z"⟩
abbrev cX4_isItem : ByteArray := prog_1_method_25_code
def yX4_isItem : MethodName := ⟨RX4, "isItem", "(I)Z"⟩
abbrev cX4_refuse : ByteArray := prog_1_method_26_code
def yX4_refuse : MethodName := ⟨RX4, "refuse", "(I)I"⟩
abbrev cX4_keep : ByteArray := prog_1_method_27_code
def yX4_keep : MethodName := ⟨RX4, "keep", "()V"⟩
abbrev cX4_floatBits : ByteArray := prog_1_method_28_code
def yX4_floatBits : MethodName := ⟨RX4, "floatBits", "(F)I"⟩
abbrev cX4_doubleBits : ByteArray := prog_1_method_29_code
def yX4_doubleBits : MethodName := ⟨RX4, "doubleBits", "(D)J"⟩
def RX5 : String := "LateLinesModel"
def TX5 : u_T := fun k => match k with
  | 0 => ("LateLinesModel", "refused", "[I", true)
  | 1 => ("LateLinesModel", "told", "[I", true)
  | 2 => ("LateLinesModel", "far", "[I", true)
  | 3 => ("LateLinesModel", "items", "[I", true)
  | 4 => ("LateLinesModel", "changed", "[I", true)
  | 5 => ("LateLinesModel", "where", "[I", true)
  | 6 => ("LateLinesModel", "due", "[I", true)
  | 7 => ("LateLinesModel", "rowMany", "[I", true)
  | 8 => ("LateLinesModel", "rowBox", "[I", true)
  | 9 => ("LateLinesModel", "fetch", "[I", true)
  | 10 => ("LateLinesModel", "askMany", "[I", true)
  | 11 => ("LateLinesModel", "askItem", "[I", true)
  | 12 => ("LateLinesModel", "askValue", "[I", true)
  | 13 => ("LateLinesModel", "askTick", "[I", true)
  | 14 => ("LateLinesModel", "askLoad", "[I", true)
  | 15 => ("LateLinesModel", "many", "[I", true)
  | 16 => ("LateLinesModel", "often", "[I", true)
  | 17 => ("LateLinesModel", "loadGot", "[I", true)
  | 18 => ("LateLinesModel", "loadWait", "[I", true)
  | 19 => ("LateLinesModel", "loadTick", "[I", true)
  | 20 => ("LateLinesModel", "cost", "F", false)
  | 21 => ("LateLinesModel", "waits", "J", false)
  | 22 => ("LateLinesModel", "squares", "J", false)
  | 23 => ("LateLinesModel", "states", "I", false)
  | 24 => ("LateLinesModel", "kept", "[I", true)
  | 25 => ("LateLinesModel", "keptCost", "[F", true)
  | 26 => ("LateLinesModel", "keptWaits", "[J", true)
  | 27 => ("LateLinesModel", "keptSquares", "[J", true)
  | 28 => ("LateLinesModel", "cursor", "I", false)
  | 29 => ("LateLinesModel", "text", "[I", true)
  | 30 => ("LateLinesModel", "size", "I", false)
  | 31 => ("LateLinesModel", "readAt", "I", false)
  | 32 => ("LateLinesModel", "tokenAt", "I", false)
  | _ => ("LateLinesModel", "readNumber", "I", false)
def tyX5 : Nat → FieldType := fun k => match k with
  | 0 => .array .int
  | 1 => .array .int
  | 2 => .array .int
  | 3 => .array .int
  | 4 => .array .int
  | 5 => .array .int
  | 6 => .array .int
  | 7 => .array .int
  | 8 => .array .int
  | 9 => .array .int
  | 10 => .array .int
  | 11 => .array .int
  | 12 => .array .int
  | 13 => .array .int
  | 14 => .array .int
  | 15 => .array .int
  | 16 => .array .int
  | 17 => .array .int
  | 18 => .array .int
  | 19 => .array .int
  | 20 => .float
  | 21 => .long
  | 22 => .long
  | 23 => .int
  | 24 => .array .int
  | 25 => .array .float
  | 26 => .array .long
  | 27 => .array .long
  | 28 => .int
  | 29 => .array .int
  | 30 => .int
  | 31 => .int
  | 32 => .int
  | _ => .int
theorem nmX5 : ∀ a, a < 34 → ∀ b, b < 34 → a ≠ b → (TX5 a).2.1 ≠ (TX5 b).2.1 := by decide +kernel
theorem tyX5_ok : ∀ k, k < 34 → parseFieldDescriptor (TX5 k).2.2.1 = some (tyX5 k) := by decide +kernel
abbrev cX5_bad : ByteArray := prog_7_method_1_code
def yX5_bad : MethodName := ⟨RX5, "bad", "()I"⟩
abbrev cX5_in : ByteArray := prog_7_method_2_code
def yX5_in : MethodName := ⟨RX5, "in", "(III)Z"⟩
abbrev cX5_init : ByteArray := prog_7_method_3_code
def yX5_init : MethodName := ⟨RX5, "<init>", "()V"⟩
abbrev cX5_begins : ByteArray := prog_7_method_4_code
def yX5_begins : MethodName := ⟨RX5, "begins", "()V"⟩
abbrev cX5_isBox : ByteArray := prog_7_method_5_code
def yX5_isBox : MethodName := ⟨RX5, "isBox", "(I)Z"⟩
abbrev cX5_lays : ByteArray := prog_7_method_6_code
def yX5_lays : MethodName := ⟨RX5, "lays", "([II)V"⟩
abbrev cX5_takes : ByteArray := prog_7_method_7_code
def yX5_takes : MethodName := ⟨RX5, "takes", "([II)V"⟩
abbrev cX5_keeps : ByteArray := prog_7_method_8_code
def yX5_keeps : MethodName := ⟨RX5, "keeps", "(I)V"⟩
abbrev cX5_comesBack : ByteArray := prog_7_method_9_code
def yX5_comesBack : MethodName := ⟨RX5, "comesBack", "(I)V"⟩
abbrev cX5_leavesState : ByteArray := prog_7_method_10_code
def yX5_leavesState : MethodName := ⟨RX5, "leavesState", "()V"⟩
abbrev cX5_back : ByteArray := prog_7_method_11_code
def yX5_back : MethodName := ⟨RX5, "back", "()I"⟩
abbrev cX5_may : ByteArray := prog_7_method_12_code
def yX5_may : MethodName := ⟨RX5, "may", "(II)Z"⟩
abbrev cX5_sets : ByteArray := prog_7_method_13_code
def yX5_sets : MethodName := ⟨RX5, "sets", "(II)I"⟩
abbrev cX5_anew : ByteArray := prog_7_method_14_code
def yX5_anew : MethodName := ⟨RX5, "anew", "()I"⟩
abbrev cX5_rowOf : ByteArray := prog_7_method_15_code
def yX5_rowOf : MethodName := ⟨RX5, "rowOf", "(I)I"⟩
abbrev cX5_counts : ByteArray := prog_7_method_16_code
def yX5_counts : MethodName := ⟨RX5, "counts", "(I)V"⟩
abbrev cX5_goesFar : ByteArray := prog_7_method_17_code
def yX5_goesFar : MethodName := ⟨RX5, "goesFar", "(I)V"⟩
abbrev cX5_halfLong : ByteArray := prog_7_method_18_code
def yX5_halfLong : MethodName := ⟨RX5, "halfLong", "()I"⟩
abbrev cX5_makesRoom : ByteArray := prog_7_method_19_code
def yX5_makesRoom : MethodName := ⟨RX5, "makesRoom", "(I)V"⟩
abbrev cX5_comesNear : ByteArray := prog_7_method_20_code
def yX5_comesNear : MethodName := ⟨RX5, "comesNear", "(I)V"⟩
abbrev cX5_getsItem : ByteArray := prog_7_method_21_code
def yX5_getsItem : MethodName := ⟨RX5, "getsItem", "(IIII)V"⟩
abbrev cX5_laysIn : ByteArray := prog_7_method_22_code
def yX5_laysIn : MethodName := ⟨RX5, "laysIn", "(III)V"⟩
abbrev cX5_comesFetched : ByteArray := prog_7_method_23_code
def yX5_comesFetched : MethodName := ⟨RX5, "comesFetched", "(I)V"⟩
abbrev cX5_comesTime : ByteArray := prog_7_method_24_code
def yX5_comesTime : MethodName := ⟨RX5, "comesTime", "()V"⟩
abbrev cX5_numberOf : ByteArray := prog_7_method_25_code
def yX5_numberOf : MethodName := ⟨RX5, "numberOf", "(I)I"⟩
abbrev cX5_asks : ByteArray := prog_7_method_26_code
def yX5_asks : MethodName := ⟨RX5, "asks", "(IIII)V"⟩
abbrev cX5_does : ByteArray := prog_7_method_27_code
def yX5_does : MethodName := ⟨RX5, "does", "(IIII)V"⟩
abbrev cX5_counted : ByteArray := prog_7_method_28_code
def yX5_counted : MethodName := ⟨RX5, "counted", "(IF)V"⟩
abbrev cX5_beginsNow : ByteArray := prog_7_method_29_code
def yX5_beginsNow : MethodName := ⟨RX5, "beginsNow", "(IIII)Z"⟩
abbrev cX5_goesBy : ByteArray := prog_7_method_30_code
def yX5_goesBy : MethodName := ⟨RX5, "goesBy", "()V"⟩
abbrev cX5_done : ByteArray := prog_7_method_31_code
def yX5_done : MethodName := ⟨RX5, "done", "(IIII)I"⟩
abbrev cX5_isItem : ByteArray := prog_7_method_32_code
def yX5_isItem : MethodName := ⟨RX5, "isItem", "(I)Z"⟩
abbrev cX5_load : ByteArray := prog_7_method_33_code
def yX5_load : MethodName := ⟨RX5, "load", "(II)I"⟩
abbrev cX5_store : ByteArray := prog_7_method_34_code
def yX5_store : MethodName := ⟨RX5, "store", "(III)I"⟩
abbrev cX5_fence : ByteArray := prog_7_method_35_code
def yX5_fence : MethodName := ⟨RX5, "fence", "()I"⟩
abbrev cX5_ticks : ByteArray := prog_7_method_36_code
def yX5_ticks : MethodName := ⟨RX5, "ticks", "(I)I"⟩
abbrev cX5_draw : ByteArray := prog_7_method_37_code
def yX5_draw : MethodName := ⟨RX5, "draw", "(II)I"⟩
abbrev cX5_got : ByteArray := prog_7_method_38_code
def yX5_got : MethodName := ⟨RX5, "got", "(II)I"⟩
abbrev cX5_often : ByteArray := prog_7_method_39_code
def yX5_often : MethodName := ⟨RX5, "often", "(I)I"⟩
abbrev cX5_where : ByteArray := prog_7_method_40_code
def yX5_where : MethodName := ⟨RX5, "where", "(I)I"⟩
abbrev cX5_atLast : ByteArray := prog_7_method_41_code
def yX5_atLast : MethodName := ⟨RX5, "atLast", "(II)I"⟩
abbrev cX5_item : ByteArray := prog_7_method_42_code
def yX5_item : MethodName := ⟨RX5, "item", "(III)I"⟩
abbrev cX5_place : ByteArray := prog_7_method_43_code
def yX5_place : MethodName := ⟨RX5, "place", "(II)I"⟩
abbrev cX5_fetch : ByteArray := prog_7_method_44_code
def yX5_fetch : MethodName := ⟨RX5, "fetch", "(II)I"⟩
abbrev cX5_costBy : ByteArray := prog_7_method_45_code
def yX5_costBy : MethodName := ⟨RX5, "costBy", "(I)F"⟩
abbrev cX5_cost : ByteArray := prog_7_method_46_code
def yX5_cost : MethodName := ⟨RX5, "cost", "(I)I"⟩
abbrev cX5_even : ByteArray := prog_7_method_47_code
def yX5_even : MethodName := ⟨RX5, "even", "()J"⟩
abbrev cX5_type : ByteArray := prog_7_method_48_code
def yX5_type : MethodName := ⟨RX5, "type", "(I)I"⟩
abbrev cX5_clear : ByteArray := prog_7_method_49_code
def yX5_clear : MethodName := ⟨RX5, "clear", "()I"⟩
abbrev cX5_here : ByteArray := prog_7_method_50_code
def yX5_here : MethodName := ⟨RX5, "here", "()I"⟩
abbrev cX5_skips : ByteArray := prog_7_method_51_code
def yX5_skips : MethodName := ⟨RX5, "skips", "()V"⟩
abbrev cX5_number : ByteArray := prog_7_method_52_code
def yX5_number : MethodName := ⟨RX5, "number", "()Z"⟩
abbrev cX5_ends : ByteArray := prog_7_method_53_code
def yX5_ends : MethodName := ⟨RX5, "ends", "()Z"⟩
abbrev cX5_readsBox : ByteArray := prog_7_method_54_code
def yX5_readsBox : MethodName := ⟨RX5, "readsBox", "(Z)Z"⟩
abbrev cX5_readsOrder : ByteArray := prog_7_method_55_code
def yX5_readsOrder : MethodName := ⟨RX5, "readsOrder", "(Z)Z"⟩
abbrev cX5_goesThrough : ByteArray := prog_7_method_56_code
def yX5_goesThrough : MethodName := ⟨RX5, "goesThrough", "(Z)I"⟩
abbrev cX5_runs : ByteArray := prog_7_method_57_code
def yX5_runs : MethodName := ⟨RX5, "runs", "()I"⟩
abbrev cX5_ticksBy : ByteArray := prog_7_method_58_code
def yX5_ticksBy : MethodName := ⟨RX5, "ticksBy", "(I)I"⟩
abbrev cX5_best : ByteArray := prog_7_method_59_code
def yX5_best : MethodName := ⟨RX5, "best", "(I)I"⟩
abbrev cX5_toldBy : ByteArray := prog_7_method_60_code
def yX5_toldBy : MethodName := ⟨RX5, "toldBy", "(I)I"⟩
abbrev cX5_told : ByteArray := prog_7_method_61_code
def yX5_told : MethodName := ⟨RX5, "told", "(I)I"⟩
abbrev cX5_digest : ByteArray := prog_7_method_62_code
def yX5_digest : MethodName := ⟨RX5, "digest", "()J"⟩
def RJxe99ae : String := "java/lang/Double"
abbrev cJxe99ae_isNaN_b9ae7 : ByteArray := prog_8_method_6_code
def yJxe99ae_isNaN_b9ae7 : MethodName := ⟨RJxe99ae, "isNaN", "(D)Z"⟩
abbrev cJxe99ae_doubleToLongBits_ccdee : ByteArray := prog_8_method_23_code
def yJxe99ae_doubleToLongBits_ccdee : MethodName := ⟨RJxe99ae, "doubleToLongBits", "(D)J"⟩
def RJxf58ca : String := "java/lang/Float"
abbrev cJxf58ca_isNaN_12338 : ByteArray := prog_9_method_6_code
def yJxf58ca_isNaN_12338 : MethodName := ⟨RJxf58ca, "isNaN", "(F)Z"⟩
abbrev cJxf58ca_floatToIntBits_5c35a : ByteArray := prog_9_method_24_code
def yJxf58ca_floatToIntBits_5c35a : MethodName := ⟨RJxf58ca, "floatToIntBits", "(F)I"⟩
def RJ9 : String := "java/lang/Math"
abbrev cJ9_max_7cf53 : ByteArray := prog_10_method_65_code
def yJ9_max_7cf53 : MethodName := ⟨RJ9, "max", "(II)I"⟩
abbrev cJ9_min_7cf53 : ByteArray := prog_10_method_69_code
def yJ9_min_7cf53 : MethodName := ⟨RJ9, "min", "(II)I"⟩
def RJ10 : String := "java/lang/System"
def RL : String := "LateLinesLaw"
abbrev cL_law : ByteArray := code
def yL_law : MethodName := ⟨RL, "law", "([I)Z"⟩
abbrev vwCl : List vw_C := [(RX0, TX0, 12), (RX1, TX1, 8), (RX2, TX2, 9), (RX3, TX3, 8), (RX4, TX4, 7), (RX5, TX5, 34)]
end
section
theorem dX0_init_0 : decode cX0_init 0 = .ok (.aload_n 0, 1) := by decide +kernel
theorem dX0_init_1 : decode cX0_init 1 = .ok (.invokespecial 3, 3) := by decide +kernel
theorem dX0_init_4 : decode cX0_init 4 = .ok (.aload_n 0, 1) := by decide +kernel
theorem dX0_init_5 : decode cX0_init 5 = .ok (.iload_n 1, 1) := by decide +kernel
theorem dX0_init_6 : decode cX0_init 6 = .ok (.putfield 9, 3) := by decide +kernel
theorem dX0_init_9 : decode cX0_init 9 = .ok (.aload_n 0, 1) := by decide +kernel
theorem dX0_init_10 : decode cX0_init 10 = .ok (.iconst 4, 1) := by decide +kernel
theorem dX0_init_11 : decode cX0_init 11 = .ok (.newarray .int, 2) := by decide +kernel
theorem dX0_init_13 : decode cX0_init 13 = .ok (.putfield 15, 3) := by decide +kernel
theorem dX0_init_16 : decode cX0_init 16 = .ok (.aload_n 0, 1) := by decide +kernel
theorem dX0_init_17 : decode cX0_init 17 = .ok (.iconst 4, 1) := by decide +kernel
theorem dX0_init_18 : decode cX0_init 18 = .ok (.newarray .int, 2) := by decide +kernel
theorem dX0_init_20 : decode cX0_init 20 = .ok (.putfield 19, 3) := by decide +kernel
theorem dX0_init_23 : decode cX0_init 23 = .ok (.aload_n 0, 1) := by decide +kernel
theorem dX0_init_24 : decode cX0_init 24 = .ok (.iconst 4, 1) := by decide +kernel
theorem dX0_init_25 : decode cX0_init 25 = .ok (.newarray .int, 2) := by decide +kernel
theorem dX0_init_27 : decode cX0_init 27 = .ok (.putfield 22, 3) := by decide +kernel
theorem dX0_init_30 : decode cX0_init 30 = .ok (.aload_n 0, 1) := by decide +kernel
theorem dX0_init_31 : decode cX0_init 31 = .ok (.iconst 4, 1) := by decide +kernel
theorem dX0_init_32 : decode cX0_init 32 = .ok (.newarray .int, 2) := by decide +kernel
theorem dX0_init_34 : decode cX0_init 34 = .ok (.putfield 25, 3) := by decide +kernel
theorem dX0_init_37 : decode cX0_init 37 = .ok (.aload_n 0, 1) := by decide +kernel
theorem dX0_init_38 : decode cX0_init 38 = .ok (.iconst 4, 1) := by decide +kernel
theorem dX0_init_39 : decode cX0_init 39 = .ok (.newarray .int, 2) := by decide +kernel
theorem dX0_init_41 : decode cX0_init 41 = .ok (.putfield 28, 3) := by decide +kernel
theorem dX0_init_44 : decode cX0_init 44 = .ok (.aload_n 0, 1) := by decide +kernel
theorem dX0_init_45 : decode cX0_init 45 = .ok (.iconst 4, 1) := by decide +kernel
theorem dX0_init_46 : decode cX0_init 46 = .ok (.newarray .int, 2) := by decide +kernel
theorem dX0_init_48 : decode cX0_init 48 = .ok (.putfield 31, 3) := by decide +kernel
theorem dX0_init_51 : decode cX0_init 51 = .ok (.return_, 1) := by decide +kernel
theorem dX0_renew_0 : decode cX0_renew 0 = .ok (.iconst 0, 1) := by decide +kernel
theorem dX0_renew_1 : decode cX0_renew 1 = .ok (.istore_n 1, 1) := by decide +kernel
theorem dX0_renew_2 : decode cX0_renew 2 = .ok (.iload_n 1, 1) := by decide +kernel
theorem dX0_renew_3 : decode cX0_renew 3 = .ok (.iconst 4, 1) := by decide +kernel
theorem dX0_renew_4 : decode cX0_renew 4 = .ok (.if_icmp .ge 23, 3) := by decide +kernel
theorem dX0_renew_7 : decode cX0_renew 7 = .ok (.aload_n 0, 1) := by decide +kernel
theorem dX0_renew_8 : decode cX0_renew 8 = .ok (.getfield 15, 3) := by decide +kernel
theorem dX0_renew_11 : decode cX0_renew 11 = .ok (.iload_n 1, 1) := by decide +kernel
theorem dX0_renew_12 : decode cX0_renew 12 = .ok (.iconst 5, 1) := by decide +kernel
theorem dX0_renew_13 : decode cX0_renew 13 = .ok (.aload_n 0, 1) := by decide +kernel
theorem dX0_renew_14 : decode cX0_renew 14 = .ok (.getfield 9, 3) := by decide +kernel
theorem dX0_renew_17 : decode cX0_renew 17 = .ok (.imul, 1) := by decide +kernel
theorem dX0_renew_18 : decode cX0_renew 18 = .ok (.iload_n 1, 1) := by decide +kernel
theorem dX0_renew_19 : decode cX0_renew 19 = .ok (.iadd, 1) := by decide +kernel
theorem dX0_renew_20 : decode cX0_renew 20 = .ok (.iastore, 1) := by decide +kernel
theorem dX0_renew_21 : decode cX0_renew 21 = .ok (.iinc 1 1, 3) := by decide +kernel
theorem dX0_renew_24 : decode cX0_renew 24 = .ok (.goto (-22), 3) := by decide +kernel
theorem dX0_renew_27 : decode cX0_renew 27 = .ok (.aload_n 0, 1) := by decide +kernel
theorem dX0_renew_28 : decode cX0_renew 28 = .ok (.iconst 0, 1) := by decide +kernel
theorem dX0_renew_29 : decode cX0_renew 29 = .ok (.putfield 34, 3) := by decide +kernel
theorem dX0_renew_32 : decode cX0_renew 32 = .ok (.aload_n 0, 1) := by decide +kernel
theorem dX0_renew_33 : decode cX0_renew 33 = .ok (.iconst 0, 1) := by decide +kernel
theorem dX0_renew_34 : decode cX0_renew 34 = .ok (.putfield 37, 3) := by decide +kernel
theorem dX0_renew_37 : decode cX0_renew 37 = .ok (.aload_n 0, 1) := by decide +kernel
theorem dX0_renew_38 : decode cX0_renew 38 = .ok (.iconst 0, 1) := by decide +kernel
theorem dX0_renew_39 : decode cX0_renew 39 = .ok (.putfield 40, 3) := by decide +kernel
theorem dX0_renew_42 : decode cX0_renew 42 = .ok (.aload_n 0, 1) := by decide +kernel
theorem dX0_renew_43 : decode cX0_renew 43 = .ok (.ldc 43, 2) := by decide +kernel
theorem dX0_renew_45 : decode cX0_renew 45 = .ok (.putfield 44, 3) := by decide +kernel
theorem dX0_renew_48 : decode cX0_renew 48 = .ok (.aload_n 0, 1) := by decide +kernel
theorem dX0_renew_49 : decode cX0_renew 49 = .ok (.iconst 0, 1) := by decide +kernel
theorem dX0_renew_50 : decode cX0_renew 50 = .ok (.putfield 47, 3) := by decide +kernel
theorem dX0_renew_53 : decode cX0_renew 53 = .ok (.return_, 1) := by decide +kernel
theorem dX0_become_0 : decode cX0_become 0 = .ok (.aload_n 1, 1) := by decide +kernel
theorem dX0_become_1 : decode cX0_become 1 = .ok (.getfield 15, 3) := by decide +kernel
theorem dX0_become_4 : decode cX0_become 4 = .ok (.iconst 0, 1) := by decide +kernel
theorem dX0_become_5 : decode cX0_become 5 = .ok (.aload_n 0, 1) := by decide +kernel
theorem dX0_become_6 : decode cX0_become 6 = .ok (.getfield 15, 3) := by decide +kernel
theorem dX0_become_9 : decode cX0_become 9 = .ok (.iconst 0, 1) := by decide +kernel
theorem dX0_become_10 : decode cX0_become 10 = .ok (.iconst 4, 1) := by decide +kernel
theorem dX0_become_11 : decode cX0_become 11 = .ok (.invokestatic 50, 3) := by decide +kernel
theorem dX0_become_14 : decode cX0_become 14 = .ok (.aload_n 1, 1) := by decide +kernel
theorem dX0_become_15 : decode cX0_become 15 = .ok (.getfield 19, 3) := by decide +kernel
theorem dX0_become_18 : decode cX0_become 18 = .ok (.iconst 0, 1) := by decide +kernel
theorem dX0_become_19 : decode cX0_become 19 = .ok (.aload_n 0, 1) := by decide +kernel
theorem dX0_become_20 : decode cX0_become 20 = .ok (.getfield 19, 3) := by decide +kernel
theorem dX0_become_23 : decode cX0_become 23 = .ok (.iconst 0, 1) := by decide +kernel
theorem dX0_become_24 : decode cX0_become 24 = .ok (.iconst 4, 1) := by decide +kernel
theorem dX0_become_25 : decode cX0_become 25 = .ok (.invokestatic 50, 3) := by decide +kernel
theorem dX0_become_28 : decode cX0_become 28 = .ok (.aload_n 1, 1) := by decide +kernel
theorem dX0_become_29 : decode cX0_become 29 = .ok (.getfield 22, 3) := by decide +kernel
theorem dX0_become_32 : decode cX0_become 32 = .ok (.iconst 0, 1) := by decide +kernel
theorem dX0_become_33 : decode cX0_become 33 = .ok (.aload_n 0, 1) := by decide +kernel
theorem dX0_become_34 : decode cX0_become 34 = .ok (.getfield 22, 3) := by decide +kernel
theorem dX0_become_37 : decode cX0_become 37 = .ok (.iconst 0, 1) := by decide +kernel
theorem dX0_become_38 : decode cX0_become 38 = .ok (.iconst 4, 1) := by decide +kernel
theorem dX0_become_39 : decode cX0_become 39 = .ok (.invokestatic 50, 3) := by decide +kernel
theorem dX0_become_42 : decode cX0_become 42 = .ok (.aload_n 1, 1) := by decide +kernel
theorem dX0_become_43 : decode cX0_become 43 = .ok (.getfield 25, 3) := by decide +kernel
theorem dX0_become_46 : decode cX0_become 46 = .ok (.iconst 0, 1) := by decide +kernel
theorem dX0_become_47 : decode cX0_become 47 = .ok (.aload_n 0, 1) := by decide +kernel
theorem dX0_become_48 : decode cX0_become 48 = .ok (.getfield 25, 3) := by decide +kernel
theorem dX0_become_51 : decode cX0_become 51 = .ok (.iconst 0, 1) := by decide +kernel
theorem dX0_become_52 : decode cX0_become 52 = .ok (.iconst 4, 1) := by decide +kernel
theorem dX0_become_53 : decode cX0_become 53 = .ok (.invokestatic 50, 3) := by decide +kernel
theorem dX0_become_56 : decode cX0_become 56 = .ok (.aload_n 1, 1) := by decide +kernel
theorem dX0_become_57 : decode cX0_become 57 = .ok (.getfield 28, 3) := by decide +kernel
theorem dX0_become_60 : decode cX0_become 60 = .ok (.iconst 0, 1) := by decide +kernel
theorem dX0_become_61 : decode cX0_become 61 = .ok (.aload_n 0, 1) := by decide +kernel
theorem dX0_become_62 : decode cX0_become 62 = .ok (.getfield 28, 3) := by decide +kernel
theorem dX0_become_65 : decode cX0_become 65 = .ok (.iconst 0, 1) := by decide +kernel
theorem dX0_become_66 : decode cX0_become 66 = .ok (.iconst 4, 1) := by decide +kernel
theorem dX0_become_67 : decode cX0_become 67 = .ok (.invokestatic 50, 3) := by decide +kernel
theorem dX0_become_70 : decode cX0_become 70 = .ok (.aload_n 1, 1) := by decide +kernel
theorem dX0_become_71 : decode cX0_become 71 = .ok (.getfield 31, 3) := by decide +kernel
theorem dX0_become_74 : decode cX0_become 74 = .ok (.iconst 0, 1) := by decide +kernel
theorem dX0_become_75 : decode cX0_become 75 = .ok (.aload_n 0, 1) := by decide +kernel
theorem dX0_become_76 : decode cX0_become 76 = .ok (.getfield 31, 3) := by decide +kernel
theorem dX0_become_79 : decode cX0_become 79 = .ok (.iconst 0, 1) := by decide +kernel
theorem dX0_become_80 : decode cX0_become 80 = .ok (.iconst 4, 1) := by decide +kernel
theorem dX0_become_81 : decode cX0_become 81 = .ok (.invokestatic 50, 3) := by decide +kernel
theorem dX0_become_84 : decode cX0_become 84 = .ok (.aload_n 0, 1) := by decide +kernel
theorem dX0_become_85 : decode cX0_become 85 = .ok (.aload_n 1, 1) := by decide +kernel
theorem dX0_become_86 : decode cX0_become 86 = .ok (.getfield 34, 3) := by decide +kernel
theorem dX0_become_89 : decode cX0_become 89 = .ok (.putfield 34, 3) := by decide +kernel
theorem dX0_become_92 : decode cX0_become 92 = .ok (.aload_n 0, 1) := by decide +kernel
theorem dX0_become_93 : decode cX0_become 93 = .ok (.aload_n 1, 1) := by decide +kernel
theorem dX0_become_94 : decode cX0_become 94 = .ok (.getfield 37, 3) := by decide +kernel
theorem dX0_become_97 : decode cX0_become 97 = .ok (.putfield 37, 3) := by decide +kernel
theorem dX0_become_100 : decode cX0_become 100 = .ok (.aload_n 0, 1) := by decide +kernel
theorem dX0_become_101 : decode cX0_become 101 = .ok (.aload_n 1, 1) := by decide +kernel
theorem dX0_become_102 : decode cX0_become 102 = .ok (.getfield 40, 3) := by decide +kernel
theorem dX0_become_105 : decode cX0_become 105 = .ok (.putfield 40, 3) := by decide +kernel
theorem dX0_become_108 : decode cX0_become 108 = .ok (.aload_n 0, 1) := by decide +kernel
theorem dX0_become_109 : decode cX0_become 109 = .ok (.aload_n 1, 1) := by decide +kernel
theorem dX0_become_110 : decode cX0_become 110 = .ok (.getfield 44, 3) := by decide +kernel
theorem dX0_become_113 : decode cX0_become 113 = .ok (.putfield 44, 3) := by decide +kernel
theorem dX0_become_116 : decode cX0_become 116 = .ok (.aload_n 0, 1) := by decide +kernel
theorem dX0_become_117 : decode cX0_become 117 = .ok (.aload_n 1, 1) := by decide +kernel
theorem dX0_become_118 : decode cX0_become 118 = .ok (.getfield 47, 3) := by decide +kernel
theorem dX0_become_121 : decode cX0_become 121 = .ok (.putfield 47, 3) := by decide +kernel
theorem dX0_become_124 : decode cX0_become 124 = .ok (.return_, 1) := by decide +kernel
theorem dX0_changedBit_0 : decode cX0_changedBit 0 = .ok (.aload_n 0, 1) := by decide +kernel
theorem dX0_changedBit_1 : decode cX0_changedBit 1 = .ok (.getfield 40, 3) := by decide +kernel
theorem dX0_changedBit_4 : decode cX0_changedBit 4 = .ok (.iload_n 1, 1) := by decide +kernel
theorem dX0_changedBit_5 : decode cX0_changedBit 5 = .ok (.ishr, 1) := by decide +kernel
theorem dX0_changedBit_6 : decode cX0_changedBit 6 = .ok (.iconst 1, 1) := by decide +kernel
theorem dX0_changedBit_7 : decode cX0_changedBit 7 = .ok (.iand, 1) := by decide +kernel
theorem dX0_changedBit_8 : decode cX0_changedBit 8 = .ok (.ireturn, 1) := by decide +kernel
theorem dX0_valueAtLast_0 : decode cX0_valueAtLast 0 = .ok (.iload_n 1, 1) := by decide +kernel
theorem dX0_valueAtLast_1 : decode cX0_valueAtLast 1 = .ok (.ifCond .lt 8, 3) := by decide +kernel
theorem dX0_valueAtLast_4 : decode cX0_valueAtLast 4 = .ok (.iload_n 1, 1) := by decide +kernel
theorem dX0_valueAtLast_5 : decode cX0_valueAtLast 5 = .ok (.iconst 4, 1) := by decide +kernel
theorem dX0_valueAtLast_6 : decode cX0_valueAtLast 6 = .ok (.if_icmp .lt 5, 3) := by decide +kernel
theorem dX0_valueAtLast_9 : decode cX0_valueAtLast 9 = .ok (.iconst 0, 1) := by decide +kernel
theorem dX0_valueAtLast_10 : decode cX0_valueAtLast 10 = .ok (.ireturn, 1) := by decide +kernel
theorem dX0_valueAtLast_11 : decode cX0_valueAtLast 11 = .ok (.aload_n 0, 1) := by decide +kernel
theorem dX0_valueAtLast_12 : decode cX0_valueAtLast 12 = .ok (.getfield 37, 3) := by decide +kernel
theorem dX0_valueAtLast_15 : decode cX0_valueAtLast 15 = .ok (.iconst 1, 1) := by decide +kernel
theorem dX0_valueAtLast_16 : decode cX0_valueAtLast 16 = .ok (.if_icmp .eq 11, 3) := by decide +kernel
theorem dX0_valueAtLast_19 : decode cX0_valueAtLast 19 = .ok (.aload_n 0, 1) := by decide +kernel
theorem dX0_valueAtLast_20 : decode cX0_valueAtLast 20 = .ok (.getfield 37, 3) := by decide +kernel
theorem dX0_valueAtLast_23 : decode cX0_valueAtLast 23 = .ok (.iconst 2, 1) := by decide +kernel
theorem dX0_valueAtLast_24 : decode cX0_valueAtLast 24 = .ok (.if_icmp .ne 10, 3) := by decide +kernel
theorem dX0_valueAtLast_27 : decode cX0_valueAtLast 27 = .ok (.aload_n 0, 1) := by decide +kernel
theorem dX0_valueAtLast_28 : decode cX0_valueAtLast 28 = .ok (.getfield 19, 3) := by decide +kernel
theorem dX0_valueAtLast_31 : decode cX0_valueAtLast 31 = .ok (.iload_n 1, 1) := by decide +kernel
theorem dX0_valueAtLast_32 : decode cX0_valueAtLast 32 = .ok (.iaload, 1) := by decide +kernel
theorem dX0_valueAtLast_33 : decode cX0_valueAtLast 33 = .ok (.ireturn, 1) := by decide +kernel
theorem dX0_valueAtLast_34 : decode cX0_valueAtLast 34 = .ok (.aload_n 0, 1) := by decide +kernel
theorem dX0_valueAtLast_35 : decode cX0_valueAtLast 35 = .ok (.getfield 15, 3) := by decide +kernel
theorem dX0_valueAtLast_38 : decode cX0_valueAtLast 38 = .ok (.iload_n 1, 1) := by decide +kernel
theorem dX0_valueAtLast_39 : decode cX0_valueAtLast 39 = .ok (.iaload, 1) := by decide +kernel
theorem dX0_valueAtLast_40 : decode cX0_valueAtLast 40 = .ok (.istore_n 2, 1) := by decide +kernel
theorem dX0_valueAtLast_41 : decode cX0_valueAtLast 41 = .ok (.iconst 0, 1) := by decide +kernel
theorem dX0_valueAtLast_42 : decode cX0_valueAtLast 42 = .ok (.istore_n 3, 1) := by decide +kernel
theorem dX0_valueAtLast_43 : decode cX0_valueAtLast 43 = .ok (.iload_n 3, 1) := by decide +kernel
theorem dX0_valueAtLast_44 : decode cX0_valueAtLast 44 = .ok (.aload_n 0, 1) := by decide +kernel
theorem dX0_valueAtLast_45 : decode cX0_valueAtLast 45 = .ok (.getfield 34, 3) := by decide +kernel
theorem dX0_valueAtLast_48 : decode cX0_valueAtLast 48 = .ok (.if_icmp .ge 41, 3) := by decide +kernel
theorem dX0_valueAtLast_51 : decode cX0_valueAtLast 51 = .ok (.iload_n 3, 1) := by decide +kernel
theorem dX0_valueAtLast_52 : decode cX0_valueAtLast 52 = .ok (.iconst 4, 1) := by decide +kernel
theorem dX0_valueAtLast_53 : decode cX0_valueAtLast 53 = .ok (.if_icmp .ge 36, 3) := by decide +kernel
theorem dX0_valueAtLast_56 : decode cX0_valueAtLast 56 = .ok (.aload_n 0, 1) := by decide +kernel
theorem dX0_valueAtLast_57 : decode cX0_valueAtLast 57 = .ok (.getfield 22, 3) := by decide +kernel
theorem dX0_valueAtLast_60 : decode cX0_valueAtLast 60 = .ok (.iload_n 3, 1) := by decide +kernel
theorem dX0_valueAtLast_61 : decode cX0_valueAtLast 61 = .ok (.iaload, 1) := by decide +kernel
theorem dX0_valueAtLast_62 : decode cX0_valueAtLast 62 = .ok (.iload_n 1, 1) := by decide +kernel
theorem dX0_valueAtLast_63 : decode cX0_valueAtLast 63 = .ok (.if_icmp .ne 20, 3) := by decide +kernel
theorem dX0_valueAtLast_66 : decode cX0_valueAtLast 66 = .ok (.aload_n 0, 1) := by decide +kernel
theorem dX0_valueAtLast_67 : decode cX0_valueAtLast 67 = .ok (.getfield 25, 3) := by decide +kernel
theorem dX0_valueAtLast_70 : decode cX0_valueAtLast 70 = .ok (.iload_n 3, 1) := by decide +kernel
theorem dX0_valueAtLast_71 : decode cX0_valueAtLast 71 = .ok (.iaload, 1) := by decide +kernel
theorem dX0_valueAtLast_72 : decode cX0_valueAtLast 72 = .ok (.iconst (-1), 1) := by decide +kernel
theorem dX0_valueAtLast_73 : decode cX0_valueAtLast 73 = .ok (.if_icmp .eq 10, 3) := by decide +kernel
theorem dX0_valueAtLast_76 : decode cX0_valueAtLast 76 = .ok (.aload_n 0, 1) := by decide +kernel
theorem dX0_valueAtLast_77 : decode cX0_valueAtLast 77 = .ok (.getfield 25, 3) := by decide +kernel
theorem dX0_valueAtLast_80 : decode cX0_valueAtLast 80 = .ok (.iload_n 3, 1) := by decide +kernel
theorem dX0_valueAtLast_81 : decode cX0_valueAtLast 81 = .ok (.iaload, 1) := by decide +kernel
theorem dX0_valueAtLast_82 : decode cX0_valueAtLast 82 = .ok (.istore_n 2, 1) := by decide +kernel
theorem dX0_valueAtLast_83 : decode cX0_valueAtLast 83 = .ok (.iinc 3 1, 3) := by decide +kernel
theorem dX0_valueAtLast_86 : decode cX0_valueAtLast 86 = .ok (.goto (-43), 3) := by decide +kernel
theorem dX0_valueAtLast_89 : decode cX0_valueAtLast 89 = .ok (.iload_n 2, 1) := by decide +kernel
theorem dX0_valueAtLast_90 : decode cX0_valueAtLast 90 = .ok (.ireturn, 1) := by decide +kernel
theorem dX0_addAsker_0 : decode cX0_addAsker 0 = .ok (.aload_n 0, 1) := by decide +kernel
theorem dX0_addAsker_1 : decode cX0_addAsker 1 = .ok (.getfield 34, 3) := by decide +kernel
theorem dX0_addAsker_4 : decode cX0_addAsker 4 = .ok (.ifCond .lt 11, 3) := by decide +kernel
theorem dX0_addAsker_7 : decode cX0_addAsker 7 = .ok (.aload_n 0, 1) := by decide +kernel
theorem dX0_addAsker_8 : decode cX0_addAsker 8 = .ok (.getfield 34, 3) := by decide +kernel
theorem dX0_addAsker_11 : decode cX0_addAsker 11 = .ok (.iconst 4, 1) := by decide +kernel
theorem dX0_addAsker_12 : decode cX0_addAsker 12 = .ok (.if_icmp .lt 4, 3) := by decide +kernel
theorem dX0_addAsker_15 : decode cX0_addAsker 15 = .ok (.return_, 1) := by decide +kernel
theorem dX0_addAsker_16 : decode cX0_addAsker 16 = .ok (.aload_n 0, 1) := by decide +kernel
theorem dX0_addAsker_17 : decode cX0_addAsker 17 = .ok (.getfield 22, 3) := by decide +kernel
theorem dX0_addAsker_20 : decode cX0_addAsker 20 = .ok (.aload_n 0, 1) := by decide +kernel
theorem dX0_addAsker_21 : decode cX0_addAsker 21 = .ok (.getfield 34, 3) := by decide +kernel
theorem dX0_addAsker_24 : decode cX0_addAsker 24 = .ok (.iload_n 1, 1) := by decide +kernel
theorem dX0_addAsker_25 : decode cX0_addAsker 25 = .ok (.iastore, 1) := by decide +kernel
theorem dX0_addAsker_26 : decode cX0_addAsker 26 = .ok (.aload_n 0, 1) := by decide +kernel
theorem dX0_addAsker_27 : decode cX0_addAsker 27 = .ok (.getfield 25, 3) := by decide +kernel
theorem dX0_addAsker_30 : decode cX0_addAsker 30 = .ok (.aload_n 0, 1) := by decide +kernel
theorem dX0_addAsker_31 : decode cX0_addAsker 31 = .ok (.getfield 34, 3) := by decide +kernel
theorem dX0_addAsker_34 : decode cX0_addAsker 34 = .ok (.iload_n 2, 1) := by decide +kernel
theorem dX0_addAsker_35 : decode cX0_addAsker 35 = .ok (.iastore, 1) := by decide +kernel
theorem dX0_addAsker_36 : decode cX0_addAsker 36 = .ok (.aload_n 0, 1) := by decide +kernel
theorem dX0_addAsker_37 : decode cX0_addAsker 37 = .ok (.getfield 28, 3) := by decide +kernel
theorem dX0_addAsker_40 : decode cX0_addAsker 40 = .ok (.aload_n 0, 1) := by decide +kernel
theorem dX0_addAsker_41 : decode cX0_addAsker 41 = .ok (.getfield 34, 3) := by decide +kernel
theorem dX0_addAsker_44 : decode cX0_addAsker 44 = .ok (.iload_n 3, 1) := by decide +kernel
theorem dX0_addAsker_45 : decode cX0_addAsker 45 = .ok (.iastore, 1) := by decide +kernel
theorem dX0_addAsker_46 : decode cX0_addAsker 46 = .ok (.aload_n 0, 1) := by decide +kernel
theorem dX0_addAsker_47 : decode cX0_addAsker 47 = .ok (.getfield 31, 3) := by decide +kernel
theorem dX0_addAsker_50 : decode cX0_addAsker 50 = .ok (.aload_n 0, 1) := by decide +kernel
theorem dX0_addAsker_51 : decode cX0_addAsker 51 = .ok (.getfield 34, 3) := by decide +kernel
theorem dX0_addAsker_54 : decode cX0_addAsker 54 = .ok (.iload 4, 2) := by decide +kernel
theorem dX0_addAsker_56 : decode cX0_addAsker 56 = .ok (.iastore, 1) := by decide +kernel
theorem dX0_addAsker_57 : decode cX0_addAsker 57 = .ok (.aload_n 0, 1) := by decide +kernel
theorem dX0_addAsker_58 : decode cX0_addAsker 58 = .ok (.dup, 1) := by decide +kernel
theorem dX0_addAsker_59 : decode cX0_addAsker 59 = .ok (.getfield 34, 3) := by decide +kernel
theorem dX0_addAsker_62 : decode cX0_addAsker 62 = .ok (.iconst 1, 1) := by decide +kernel
theorem dX0_addAsker_63 : decode cX0_addAsker 63 = .ok (.iadd, 1) := by decide +kernel
theorem dX0_addAsker_64 : decode cX0_addAsker 64 = .ok (.putfield 34, 3) := by decide +kernel
theorem dX0_addAsker_67 : decode cX0_addAsker 67 = .ok (.return_, 1) := by decide +kernel
theorem dX0_takeFromFar_0 : decode cX0_takeFromFar 0 = .ok (.aload_n 0, 1) := by decide +kernel
theorem dX0_takeFromFar_1 : decode cX0_takeFromFar 1 = .ok (.getfield 15, 3) := by decide +kernel
theorem dX0_takeFromFar_4 : decode cX0_takeFromFar 4 = .ok (.iconst 0, 1) := by decide +kernel
theorem dX0_takeFromFar_5 : decode cX0_takeFromFar 5 = .ok (.aload_n 0, 1) := by decide +kernel
theorem dX0_takeFromFar_6 : decode cX0_takeFromFar 6 = .ok (.getfield 19, 3) := by decide +kernel
theorem dX0_takeFromFar_9 : decode cX0_takeFromFar 9 = .ok (.iconst 0, 1) := by decide +kernel
theorem dX0_takeFromFar_10 : decode cX0_takeFromFar 10 = .ok (.iconst 4, 1) := by decide +kernel
theorem dX0_takeFromFar_11 : decode cX0_takeFromFar 11 = .ok (.invokestatic 50, 3) := by decide +kernel
theorem dX0_takeFromFar_14 : decode cX0_takeFromFar 14 = .ok (.aload_n 0, 1) := by decide +kernel
theorem dX0_takeFromFar_15 : decode cX0_takeFromFar 15 = .ok (.iconst 0, 1) := by decide +kernel
theorem dX0_takeFromFar_16 : decode cX0_takeFromFar 16 = .ok (.putfield 40, 3) := by decide +kernel
theorem dX0_takeFromFar_19 : decode cX0_takeFromFar 19 = .ok (.return_, 1) := by decide +kernel
theorem dX0_goFar_0 : decode cX0_goFar 0 = .ok (.iconst 0, 1) := by decide +kernel
theorem dX0_goFar_1 : decode cX0_goFar 1 = .ok (.istore_n 1, 1) := by decide +kernel
theorem dX0_goFar_2 : decode cX0_goFar 2 = .ok (.iload_n 1, 1) := by decide +kernel
theorem dX0_goFar_3 : decode cX0_goFar 3 = .ok (.iconst 4, 1) := by decide +kernel
theorem dX0_goFar_4 : decode cX0_goFar 4 = .ok (.if_icmp .ge 33, 3) := by decide +kernel
theorem dX0_goFar_7 : decode cX0_goFar 7 = .ok (.aload_n 0, 1) := by decide +kernel
theorem dX0_goFar_8 : decode cX0_goFar 8 = .ok (.getfield 40, 3) := by decide +kernel
theorem dX0_goFar_11 : decode cX0_goFar 11 = .ok (.iload_n 1, 1) := by decide +kernel
theorem dX0_goFar_12 : decode cX0_goFar 12 = .ok (.ishr, 1) := by decide +kernel
theorem dX0_goFar_13 : decode cX0_goFar 13 = .ok (.iconst 1, 1) := by decide +kernel
theorem dX0_goFar_14 : decode cX0_goFar 14 = .ok (.iand, 1) := by decide +kernel
theorem dX0_goFar_15 : decode cX0_goFar 15 = .ok (.iconst 1, 1) := by decide +kernel
theorem dX0_goFar_16 : decode cX0_goFar 16 = .ok (.if_icmp .ne 15, 3) := by decide +kernel
theorem dX0_goFar_19 : decode cX0_goFar 19 = .ok (.aload_n 0, 1) := by decide +kernel
theorem dX0_goFar_20 : decode cX0_goFar 20 = .ok (.getfield 15, 3) := by decide +kernel
theorem dX0_goFar_23 : decode cX0_goFar 23 = .ok (.iload_n 1, 1) := by decide +kernel
theorem dX0_goFar_24 : decode cX0_goFar 24 = .ok (.aload_n 0, 1) := by decide +kernel
theorem dX0_goFar_25 : decode cX0_goFar 25 = .ok (.getfield 19, 3) := by decide +kernel
theorem dX0_goFar_28 : decode cX0_goFar 28 = .ok (.iload_n 1, 1) := by decide +kernel
theorem dX0_goFar_29 : decode cX0_goFar 29 = .ok (.iaload, 1) := by decide +kernel
theorem dX0_goFar_30 : decode cX0_goFar 30 = .ok (.iastore, 1) := by decide +kernel
theorem dX0_goFar_31 : decode cX0_goFar 31 = .ok (.iinc 1 1, 3) := by decide +kernel
theorem dX0_goFar_34 : decode cX0_goFar 34 = .ok (.goto (-32), 3) := by decide +kernel
theorem dX0_goFar_37 : decode cX0_goFar 37 = .ok (.aload_n 0, 1) := by decide +kernel
theorem dX0_goFar_38 : decode cX0_goFar 38 = .ok (.iconst 0, 1) := by decide +kernel
theorem dX0_goFar_39 : decode cX0_goFar 39 = .ok (.putfield 37, 3) := by decide +kernel
theorem dX0_goFar_42 : decode cX0_goFar 42 = .ok (.aload_n 0, 1) := by decide +kernel
theorem dX0_goFar_43 : decode cX0_goFar 43 = .ok (.iconst 0, 1) := by decide +kernel
theorem dX0_goFar_44 : decode cX0_goFar 44 = .ok (.putfield 40, 3) := by decide +kernel
theorem dX0_goFar_47 : decode cX0_goFar 47 = .ok (.aload_n 0, 1) := by decide +kernel
theorem dX0_goFar_48 : decode cX0_goFar 48 = .ok (.ldc 43, 2) := by decide +kernel
theorem dX0_goFar_50 : decode cX0_goFar 50 = .ok (.putfield 44, 3) := by decide +kernel
theorem dX0_goFar_53 : decode cX0_goFar 53 = .ok (.return_, 1) := by decide +kernel
theorem dX0_layIn_0 : decode cX0_layIn 0 = .ok (.iload_n 1, 1) := by decide +kernel
theorem dX0_layIn_1 : decode cX0_layIn 1 = .ok (.ifCond .lt 27, 3) := by decide +kernel
theorem dX0_layIn_4 : decode cX0_layIn 4 = .ok (.iload_n 1, 1) := by decide +kernel
theorem dX0_layIn_5 : decode cX0_layIn 5 = .ok (.iconst 4, 1) := by decide +kernel
theorem dX0_layIn_6 : decode cX0_layIn 6 = .ok (.if_icmp .ge 22, 3) := by decide +kernel
theorem dX0_layIn_9 : decode cX0_layIn 9 = .ok (.aload_n 0, 1) := by decide +kernel
theorem dX0_layIn_10 : decode cX0_layIn 10 = .ok (.getfield 19, 3) := by decide +kernel
theorem dX0_layIn_13 : decode cX0_layIn 13 = .ok (.iload_n 1, 1) := by decide +kernel
theorem dX0_layIn_14 : decode cX0_layIn 14 = .ok (.iload_n 2, 1) := by decide +kernel
theorem dX0_layIn_15 : decode cX0_layIn 15 = .ok (.iastore, 1) := by decide +kernel
theorem dX0_layIn_16 : decode cX0_layIn 16 = .ok (.aload_n 0, 1) := by decide +kernel
theorem dX0_layIn_17 : decode cX0_layIn 17 = .ok (.dup, 1) := by decide +kernel
theorem dX0_layIn_18 : decode cX0_layIn 18 = .ok (.getfield 40, 3) := by decide +kernel
theorem dX0_layIn_21 : decode cX0_layIn 21 = .ok (.iconst 1, 1) := by decide +kernel
theorem dX0_layIn_22 : decode cX0_layIn 22 = .ok (.iload_n 1, 1) := by decide +kernel
theorem dX0_layIn_23 : decode cX0_layIn 23 = .ok (.ishl, 1) := by decide +kernel
theorem dX0_layIn_24 : decode cX0_layIn 24 = .ok (.ior, 1) := by decide +kernel
theorem dX0_layIn_25 : decode cX0_layIn 25 = .ok (.putfield 40, 3) := by decide +kernel
theorem dX0_layIn_28 : decode cX0_layIn 28 = .ok (.return_, 1) := by decide +kernel
theorem dX1_init_0 : decode cX1_init 0 = .ok (.aload_n 0, 1) := by decide +kernel
theorem dX1_init_1 : decode cX1_init 1 = .ok (.invokespecial 3, 3) := by decide +kernel
theorem dX1_init_4 : decode cX1_init 4 = .ok (.aload_n 0, 1) := by decide +kernel
theorem dX1_init_5 : decode cX1_init 5 = .ok (.sipush 200, 3) := by decide +kernel
theorem dX1_init_8 : decode cX1_init 8 = .ok (.newarray .int, 2) := by decide +kernel
theorem dX1_init_10 : decode cX1_init 10 = .ok (.putfield 9, 3) := by decide +kernel
theorem dX1_init_13 : decode cX1_init 13 = .ok (.aload_n 0, 1) := by decide +kernel
theorem dX1_init_14 : decode cX1_init 14 = .ok (.sipush 200, 3) := by decide +kernel
theorem dX1_init_17 : decode cX1_init 17 = .ok (.newarray .int, 2) := by decide +kernel
theorem dX1_init_19 : decode cX1_init 19 = .ok (.putfield 15, 3) := by decide +kernel
theorem dX1_init_22 : decode cX1_init 22 = .ok (.aload_n 0, 1) := by decide +kernel
theorem dX1_init_23 : decode cX1_init 23 = .ok (.sipush 200, 3) := by decide +kernel
theorem dX1_init_26 : decode cX1_init 26 = .ok (.newarray .int, 2) := by decide +kernel
theorem dX1_init_28 : decode cX1_init 28 = .ok (.putfield 18, 3) := by decide +kernel
theorem dX1_init_31 : decode cX1_init 31 = .ok (.return_, 1) := by decide +kernel
theorem dX1_renew_0 : decode cX1_renew 0 = .ok (.aload_n 0, 1) := by decide +kernel
theorem dX1_renew_1 : decode cX1_renew 1 = .ok (.iconst 0, 1) := by decide +kernel
theorem dX1_renew_2 : decode cX1_renew 2 = .ok (.putfield 21, 3) := by decide +kernel
theorem dX1_renew_5 : decode cX1_renew 5 = .ok (.aload_n 0, 1) := by decide +kernel
theorem dX1_renew_6 : decode cX1_renew 6 = .ok (.iconst 0, 1) := by decide +kernel
theorem dX1_renew_7 : decode cX1_renew 7 = .ok (.putfield 25, 3) := by decide +kernel
theorem dX1_renew_10 : decode cX1_renew 10 = .ok (.aload_n 0, 1) := by decide +kernel
theorem dX1_renew_11 : decode cX1_renew 11 = .ok (.iconst 0, 1) := by decide +kernel
theorem dX1_renew_12 : decode cX1_renew 12 = .ok (.putfield 28, 3) := by decide +kernel
theorem dX1_renew_15 : decode cX1_renew 15 = .ok (.aload_n 0, 1) := by decide +kernel
theorem dX1_renew_16 : decode cX1_renew 16 = .ok (.lconst 0, 1) := by decide +kernel
theorem dX1_renew_17 : decode cX1_renew 17 = .ok (.putfield 31, 3) := by decide +kernel
theorem dX1_renew_20 : decode cX1_renew 20 = .ok (.aload_n 0, 1) := by decide +kernel
theorem dX1_renew_21 : decode cX1_renew 21 = .ok (.lconst 0, 1) := by decide +kernel
theorem dX1_renew_22 : decode cX1_renew 22 = .ok (.putfield 35, 3) := by decide +kernel
theorem dX1_renew_25 : decode cX1_renew 25 = .ok (.return_, 1) := by decide +kernel
theorem dX1_become_0 : decode cX1_become 0 = .ok (.iconst 0, 1) := by decide +kernel
theorem dX1_become_1 : decode cX1_become 1 = .ok (.aload_n 1, 1) := by decide +kernel
theorem dX1_become_2 : decode cX1_become 2 = .ok (.getfield 21, 3) := by decide +kernel
theorem dX1_become_5 : decode cX1_become 5 = .ok (.sipush 200, 3) := by decide +kernel
theorem dX1_become_8 : decode cX1_become 8 = .ok (.invokestatic 38, 3) := by decide +kernel
theorem dX1_become_11 : decode cX1_become 11 = .ok (.invokestatic 44, 3) := by decide +kernel
theorem dX1_become_14 : decode cX1_become 14 = .ok (.istore_n 2, 1) := by decide +kernel
theorem dX1_become_15 : decode cX1_become 15 = .ok (.aload_n 1, 1) := by decide +kernel
theorem dX1_become_16 : decode cX1_become 16 = .ok (.getfield 9, 3) := by decide +kernel
theorem dX1_become_19 : decode cX1_become 19 = .ok (.iconst 0, 1) := by decide +kernel
theorem dX1_become_20 : decode cX1_become 20 = .ok (.aload_n 0, 1) := by decide +kernel
theorem dX1_become_21 : decode cX1_become 21 = .ok (.getfield 9, 3) := by decide +kernel
theorem dX1_become_24 : decode cX1_become 24 = .ok (.iconst 0, 1) := by decide +kernel
theorem dX1_become_25 : decode cX1_become 25 = .ok (.iload_n 2, 1) := by decide +kernel
theorem dX1_become_26 : decode cX1_become 26 = .ok (.invokestatic 47, 3) := by decide +kernel
theorem dX1_become_29 : decode cX1_become 29 = .ok (.aload_n 1, 1) := by decide +kernel
theorem dX1_become_30 : decode cX1_become 30 = .ok (.getfield 15, 3) := by decide +kernel
theorem dX1_become_33 : decode cX1_become 33 = .ok (.iconst 0, 1) := by decide +kernel
theorem dX1_become_34 : decode cX1_become 34 = .ok (.aload_n 0, 1) := by decide +kernel
theorem dX1_become_35 : decode cX1_become 35 = .ok (.getfield 15, 3) := by decide +kernel
theorem dX1_become_38 : decode cX1_become 38 = .ok (.iconst 0, 1) := by decide +kernel
theorem dX1_become_39 : decode cX1_become 39 = .ok (.iload_n 2, 1) := by decide +kernel
theorem dX1_become_40 : decode cX1_become 40 = .ok (.invokestatic 47, 3) := by decide +kernel
theorem dX1_become_43 : decode cX1_become 43 = .ok (.aload_n 1, 1) := by decide +kernel
theorem dX1_become_44 : decode cX1_become 44 = .ok (.getfield 18, 3) := by decide +kernel
theorem dX1_become_47 : decode cX1_become 47 = .ok (.iconst 0, 1) := by decide +kernel
theorem dX1_become_48 : decode cX1_become 48 = .ok (.aload_n 0, 1) := by decide +kernel
theorem dX1_become_49 : decode cX1_become 49 = .ok (.getfield 18, 3) := by decide +kernel
theorem dX1_become_52 : decode cX1_become 52 = .ok (.iconst 0, 1) := by decide +kernel
theorem dX1_become_53 : decode cX1_become 53 = .ok (.iload_n 2, 1) := by decide +kernel
theorem dX1_become_54 : decode cX1_become 54 = .ok (.invokestatic 47, 3) := by decide +kernel
theorem dX1_become_57 : decode cX1_become 57 = .ok (.aload_n 0, 1) := by decide +kernel
theorem dX1_become_58 : decode cX1_become 58 = .ok (.aload_n 1, 1) := by decide +kernel
theorem dX1_become_59 : decode cX1_become 59 = .ok (.getfield 21, 3) := by decide +kernel
theorem dX1_become_62 : decode cX1_become 62 = .ok (.putfield 21, 3) := by decide +kernel
theorem dX1_become_65 : decode cX1_become 65 = .ok (.aload_n 0, 1) := by decide +kernel
theorem dX1_become_66 : decode cX1_become 66 = .ok (.aload_n 1, 1) := by decide +kernel
theorem dX1_become_67 : decode cX1_become 67 = .ok (.getfield 25, 3) := by decide +kernel
theorem dX1_become_70 : decode cX1_become 70 = .ok (.putfield 25, 3) := by decide +kernel
theorem dX1_become_73 : decode cX1_become 73 = .ok (.aload_n 0, 1) := by decide +kernel
theorem dX1_become_74 : decode cX1_become 74 = .ok (.aload_n 1, 1) := by decide +kernel
theorem dX1_become_75 : decode cX1_become 75 = .ok (.getfield 28, 3) := by decide +kernel
theorem dX1_become_78 : decode cX1_become 78 = .ok (.putfield 28, 3) := by decide +kernel
theorem dX1_become_81 : decode cX1_become 81 = .ok (.aload_n 0, 1) := by decide +kernel
theorem dX1_become_82 : decode cX1_become 82 = .ok (.aload_n 1, 1) := by decide +kernel
theorem dX1_become_83 : decode cX1_become 83 = .ok (.getfield 31, 3) := by decide +kernel
theorem dX1_become_86 : decode cX1_become 86 = .ok (.putfield 31, 3) := by decide +kernel
theorem dX1_become_89 : decode cX1_become 89 = .ok (.aload_n 0, 1) := by decide +kernel
theorem dX1_become_90 : decode cX1_become 90 = .ok (.aload_n 1, 1) := by decide +kernel
theorem dX1_become_91 : decode cX1_become 91 = .ok (.getfield 35, 3) := by decide +kernel
theorem dX1_become_94 : decode cX1_become 94 = .ok (.putfield 35, 3) := by decide +kernel
theorem dX1_become_97 : decode cX1_become 97 = .ok (.return_, 1) := by decide +kernel
theorem dX1_add_0 : decode cX1_add 0 = .ok (.aload_n 0, 1) := by decide +kernel
theorem dX1_add_1 : decode cX1_add 1 = .ok (.getfield 21, 3) := by decide +kernel
theorem dX1_add_4 : decode cX1_add 4 = .ok (.ifCond .lt 13, 3) := by decide +kernel
theorem dX1_add_7 : decode cX1_add 7 = .ok (.aload_n 0, 1) := by decide +kernel
theorem dX1_add_8 : decode cX1_add 8 = .ok (.getfield 21, 3) := by decide +kernel
theorem dX1_add_11 : decode cX1_add 11 = .ok (.sipush 200, 3) := by decide +kernel
theorem dX1_add_14 : decode cX1_add 14 = .ok (.if_icmp .lt 5, 3) := by decide +kernel
theorem dX1_add_17 : decode cX1_add 17 = .ok (.iconst (-1), 1) := by decide +kernel
theorem dX1_add_18 : decode cX1_add 18 = .ok (.ireturn, 1) := by decide +kernel
theorem dX1_add_19 : decode cX1_add 19 = .ok (.aload_n 0, 1) := by decide +kernel
theorem dX1_add_20 : decode cX1_add 20 = .ok (.getfield 9, 3) := by decide +kernel
theorem dX1_add_23 : decode cX1_add 23 = .ok (.aload_n 0, 1) := by decide +kernel
theorem dX1_add_24 : decode cX1_add 24 = .ok (.getfield 21, 3) := by decide +kernel
theorem dX1_add_27 : decode cX1_add 27 = .ok (.iconst (-1), 1) := by decide +kernel
theorem dX1_add_28 : decode cX1_add 28 = .ok (.iastore, 1) := by decide +kernel
theorem dX1_add_29 : decode cX1_add 29 = .ok (.aload_n 0, 1) := by decide +kernel
theorem dX1_add_30 : decode cX1_add 30 = .ok (.getfield 15, 3) := by decide +kernel
theorem dX1_add_33 : decode cX1_add 33 = .ok (.aload_n 0, 1) := by decide +kernel
theorem dX1_add_34 : decode cX1_add 34 = .ok (.getfield 21, 3) := by decide +kernel
theorem dX1_add_37 : decode cX1_add 37 = .ok (.iconst (-1), 1) := by decide +kernel
theorem dX1_add_38 : decode cX1_add 38 = .ok (.iastore, 1) := by decide +kernel
theorem dX1_add_39 : decode cX1_add 39 = .ok (.aload_n 0, 1) := by decide +kernel
theorem dX1_add_40 : decode cX1_add 40 = .ok (.getfield 18, 3) := by decide +kernel
theorem dX1_add_43 : decode cX1_add 43 = .ok (.aload_n 0, 1) := by decide +kernel
theorem dX1_add_44 : decode cX1_add 44 = .ok (.getfield 21, 3) := by decide +kernel
theorem dX1_add_47 : decode cX1_add 47 = .ok (.iload_n 1, 1) := by decide +kernel
theorem dX1_add_48 : decode cX1_add 48 = .ok (.iastore, 1) := by decide +kernel
theorem dX1_add_49 : decode cX1_add 49 = .ok (.aload_n 0, 1) := by decide +kernel
theorem dX1_add_50 : decode cX1_add 50 = .ok (.dup, 1) := by decide +kernel
theorem dX1_add_51 : decode cX1_add 51 = .ok (.getfield 21, 3) := by decide +kernel
theorem dX1_add_54 : decode cX1_add 54 = .ok (.iconst 1, 1) := by decide +kernel
theorem dX1_add_55 : decode cX1_add 55 = .ok (.iadd, 1) := by decide +kernel
theorem dX1_add_56 : decode cX1_add 56 = .ok (.putfield 21, 3) := by decide +kernel
theorem dX1_add_59 : decode cX1_add 59 = .ok (.aload_n 0, 1) := by decide +kernel
theorem dX1_add_60 : decode cX1_add 60 = .ok (.getfield 21, 3) := by decide +kernel
theorem dX1_add_63 : decode cX1_add 63 = .ok (.iconst 1, 1) := by decide +kernel
theorem dX1_add_64 : decode cX1_add 64 = .ok (.isub, 1) := by decide +kernel
theorem dX1_add_65 : decode cX1_add 65 = .ok (.ireturn, 1) := by decide +kernel
theorem dX1_answer_0 : decode cX1_answer 0 = .ok (.iload_n 1, 1) := by decide +kernel
theorem dX1_answer_1 : decode cX1_answer 1 = .ok (.ifCond .lt 24, 3) := by decide +kernel
theorem dX1_answer_4 : decode cX1_answer 4 = .ok (.iload_n 1, 1) := by decide +kernel
theorem dX1_answer_5 : decode cX1_answer 5 = .ok (.sipush 200, 3) := by decide +kernel
theorem dX1_answer_8 : decode cX1_answer 8 = .ok (.if_icmp .ge 17, 3) := by decide +kernel
theorem dX1_answer_11 : decode cX1_answer 11 = .ok (.aload_n 0, 1) := by decide +kernel
theorem dX1_answer_12 : decode cX1_answer 12 = .ok (.getfield 9, 3) := by decide +kernel
theorem dX1_answer_15 : decode cX1_answer 15 = .ok (.iload_n 1, 1) := by decide +kernel
theorem dX1_answer_16 : decode cX1_answer 16 = .ok (.iload_n 2, 1) := by decide +kernel
theorem dX1_answer_17 : decode cX1_answer 17 = .ok (.iastore, 1) := by decide +kernel
theorem dX1_answer_18 : decode cX1_answer 18 = .ok (.aload_n 0, 1) := by decide +kernel
theorem dX1_answer_19 : decode cX1_answer 19 = .ok (.getfield 15, 3) := by decide +kernel
theorem dX1_answer_22 : decode cX1_answer 22 = .ok (.iload_n 1, 1) := by decide +kernel
theorem dX1_answer_23 : decode cX1_answer 23 = .ok (.iload_n 3, 1) := by decide +kernel
theorem dX1_answer_24 : decode cX1_answer 24 = .ok (.iastore, 1) := by decide +kernel
theorem dX1_answer_25 : decode cX1_answer 25 = .ok (.aload_n 0, 1) := by decide +kernel
theorem dX1_answer_26 : decode cX1_answer 26 = .ok (.dup, 1) := by decide +kernel
theorem dX1_answer_27 : decode cX1_answer 27 = .ok (.getfield 25, 3) := by decide +kernel
theorem dX1_answer_30 : decode cX1_answer 30 = .ok (.iconst 1, 1) := by decide +kernel
theorem dX1_answer_31 : decode cX1_answer 31 = .ok (.iadd, 1) := by decide +kernel
theorem dX1_answer_32 : decode cX1_answer 32 = .ok (.putfield 25, 3) := by decide +kernel
theorem dX1_answer_35 : decode cX1_answer 35 = .ok (.aload_n 0, 1) := by decide +kernel
theorem dX1_answer_36 : decode cX1_answer 36 = .ok (.iload_n 3, 1) := by decide +kernel
theorem dX1_answer_37 : decode cX1_answer 37 = .ok (.aload_n 0, 1) := by decide +kernel
theorem dX1_answer_38 : decode cX1_answer 38 = .ok (.getfield 28, 3) := by decide +kernel
theorem dX1_answer_41 : decode cX1_answer 41 = .ok (.if_icmp .le 7, 3) := by decide +kernel
theorem dX1_answer_44 : decode cX1_answer 44 = .ok (.iload_n 3, 1) := by decide +kernel
theorem dX1_answer_45 : decode cX1_answer 45 = .ok (.goto 7, 3) := by decide +kernel
theorem dX1_answer_48 : decode cX1_answer 48 = .ok (.aload_n 0, 1) := by decide +kernel
theorem dX1_answer_49 : decode cX1_answer 49 = .ok (.getfield 28, 3) := by decide +kernel
theorem dX1_answer_52 : decode cX1_answer 52 = .ok (.putfield 28, 3) := by decide +kernel
theorem dX1_answer_55 : decode cX1_answer 55 = .ok (.aload_n 0, 1) := by decide +kernel
theorem dX1_answer_56 : decode cX1_answer 56 = .ok (.dup, 1) := by decide +kernel
theorem dX1_answer_57 : decode cX1_answer 57 = .ok (.getfield 31, 3) := by decide +kernel
theorem dX1_answer_60 : decode cX1_answer 60 = .ok (.iload_n 3, 1) := by decide +kernel
theorem dX1_answer_61 : decode cX1_answer 61 = .ok (.i2l, 1) := by decide +kernel
theorem dX1_answer_62 : decode cX1_answer 62 = .ok (.ladd, 1) := by decide +kernel
theorem dX1_answer_63 : decode cX1_answer 63 = .ok (.putfield 31, 3) := by decide +kernel
theorem dX1_answer_66 : decode cX1_answer 66 = .ok (.aload_n 0, 1) := by decide +kernel
theorem dX1_answer_67 : decode cX1_answer 67 = .ok (.dup, 1) := by decide +kernel
theorem dX1_answer_68 : decode cX1_answer 68 = .ok (.getfield 35, 3) := by decide +kernel
theorem dX1_answer_71 : decode cX1_answer 71 = .ok (.iload_n 3, 1) := by decide +kernel
theorem dX1_answer_72 : decode cX1_answer 72 = .ok (.i2l, 1) := by decide +kernel
theorem dX1_answer_73 : decode cX1_answer 73 = .ok (.iload_n 3, 1) := by decide +kernel
theorem dX1_answer_74 : decode cX1_answer 74 = .ok (.i2l, 1) := by decide +kernel
theorem dX1_answer_75 : decode cX1_answer 75 = .ok (.lmul, 1) := by decide +kernel
theorem dX1_answer_76 : decode cX1_answer 76 = .ok (.ladd, 1) := by decide +kernel
theorem dX1_answer_77 : decode cX1_answer 77 = .ok (.putfield 35, 3) := by decide +kernel
theorem dX1_answer_80 : decode cX1_answer 80 = .ok (.return_, 1) := by decide +kernel
theorem dX1_meanWait_0 : decode cX1_meanWait 0 = .ok (.aload_n 0, 1) := by decide +kernel
theorem dX1_meanWait_1 : decode cX1_meanWait 1 = .ok (.getfield 25, 3) := by decide +kernel
theorem dX1_meanWait_4 : decode cX1_meanWait 4 = .ok (.ifCond .gt 7, 3) := by decide +kernel
theorem dX1_meanWait_7 : decode cX1_meanWait 7 = .ok (.fconst 0, 1) := by decide +kernel
theorem dX1_meanWait_8 : decode cX1_meanWait 8 = .ok (.goto 14, 3) := by decide +kernel
theorem dX1_meanWait_11 : decode cX1_meanWait 11 = .ok (.aload_n 0, 1) := by decide +kernel
theorem dX1_meanWait_12 : decode cX1_meanWait 12 = .ok (.getfield 31, 3) := by decide +kernel
theorem dX1_meanWait_15 : decode cX1_meanWait 15 = .ok (.l2f, 1) := by decide +kernel
theorem dX1_meanWait_16 : decode cX1_meanWait 16 = .ok (.aload_n 0, 1) := by decide +kernel
theorem dX1_meanWait_17 : decode cX1_meanWait 17 = .ok (.getfield 25, 3) := by decide +kernel
theorem dX1_meanWait_20 : decode cX1_meanWait 20 = .ok (.i2f, 1) := by decide +kernel
theorem dX1_meanWait_21 : decode cX1_meanWait 21 = .ok (.fdiv, 1) := by decide +kernel
theorem dX1_meanWait_22 : decode cX1_meanWait 22 = .ok (.freturn, 1) := by decide +kernel
theorem dX1_spread_0 : decode cX1_spread 0 = .ok (.aload_n 0, 1) := by decide +kernel
theorem dX1_spread_1 : decode cX1_spread 1 = .ok (.getfield 25, 3) := by decide +kernel
theorem dX1_spread_4 : decode cX1_spread 4 = .ok (.ifCond .gt 5, 3) := by decide +kernel
theorem dX1_spread_7 : decode cX1_spread 7 = .ok (.dconst 0, 1) := by decide +kernel
theorem dX1_spread_8 : decode cX1_spread 8 = .ok (.dreturn, 1) := by decide +kernel
theorem dX1_spread_9 : decode cX1_spread 9 = .ok (.aload_n 0, 1) := by decide +kernel
theorem dX1_spread_10 : decode cX1_spread 10 = .ok (.getfield 31, 3) := by decide +kernel
theorem dX1_spread_13 : decode cX1_spread 13 = .ok (.l2d, 1) := by decide +kernel
theorem dX1_spread_14 : decode cX1_spread 14 = .ok (.aload_n 0, 1) := by decide +kernel
theorem dX1_spread_15 : decode cX1_spread 15 = .ok (.getfield 25, 3) := by decide +kernel
theorem dX1_spread_18 : decode cX1_spread 18 = .ok (.i2d, 1) := by decide +kernel
theorem dX1_spread_19 : decode cX1_spread 19 = .ok (.ddiv, 1) := by decide +kernel
theorem dX1_spread_20 : decode cX1_spread 20 = .ok (.dstore_n 1, 1) := by decide +kernel
theorem dX1_spread_21 : decode cX1_spread 21 = .ok (.aload_n 0, 1) := by decide +kernel
theorem dX1_spread_22 : decode cX1_spread 22 = .ok (.getfield 35, 3) := by decide +kernel
theorem dX1_spread_25 : decode cX1_spread 25 = .ok (.l2d, 1) := by decide +kernel
theorem dX1_spread_26 : decode cX1_spread 26 = .ok (.aload_n 0, 1) := by decide +kernel
theorem dX1_spread_27 : decode cX1_spread 27 = .ok (.getfield 25, 3) := by decide +kernel
theorem dX1_spread_30 : decode cX1_spread 30 = .ok (.i2d, 1) := by decide +kernel
theorem dX1_spread_31 : decode cX1_spread 31 = .ok (.ddiv, 1) := by decide +kernel
theorem dX1_spread_32 : decode cX1_spread 32 = .ok (.dload_n 1, 1) := by decide +kernel
theorem dX1_spread_33 : decode cX1_spread 33 = .ok (.dload_n 1, 1) := by decide +kernel
theorem dX1_spread_34 : decode cX1_spread 34 = .ok (.dmul, 1) := by decide +kernel
theorem dX1_spread_35 : decode cX1_spread 35 = .ok (.dsub, 1) := by decide +kernel
theorem dX1_spread_36 : decode cX1_spread 36 = .ok (.dreturn, 1) := by decide +kernel
theorem dX2_init_0 : decode cX2_init 0 = .ok (.aload_n 0, 1) := by decide +kernel
theorem dX2_init_1 : decode cX2_init 1 = .ok (.invokespecial 3, 3) := by decide +kernel
theorem dX2_init_4 : decode cX2_init 4 = .ok (.aload_n 0, 1) := by decide +kernel
theorem dX2_init_5 : decode cX2_init 5 = .ok (.getstatic 9, 3) := by decide +kernel
theorem dX2_init_8 : decode cX2_init 8 = .ok (.arraylength, 1) := by decide +kernel
theorem dX2_init_9 : decode cX2_init 9 = .ok (.newarray .int, 2) := by decide +kernel
theorem dX2_init_11 : decode cX2_init 11 = .ok (.putfield 13, 3) := by decide +kernel
theorem dX2_init_14 : decode cX2_init 14 = .ok (.getstatic 9, 3) := by decide +kernel
theorem dX2_init_17 : decode cX2_init 17 = .ok (.iconst 0, 1) := by decide +kernel
theorem dX2_init_18 : decode cX2_init 18 = .ok (.aload_n 0, 1) := by decide +kernel
theorem dX2_init_19 : decode cX2_init 19 = .ok (.getfield 13, 3) := by decide +kernel
theorem dX2_init_22 : decode cX2_init 22 = .ok (.iconst 0, 1) := by decide +kernel
theorem dX2_init_23 : decode cX2_init 23 = .ok (.getstatic 9, 3) := by decide +kernel
theorem dX2_init_26 : decode cX2_init 26 = .ok (.arraylength, 1) := by decide +kernel
theorem dX2_init_27 : decode cX2_init 27 = .ok (.invokestatic 18, 3) := by decide +kernel
theorem dX2_init_30 : decode cX2_init 30 = .ok (.aload_n 0, 1) := by decide +kernel
theorem dX2_init_31 : decode cX2_init 31 = .ok (.bipush 10, 2) := by decide +kernel
theorem dX2_init_33 : decode cX2_init 33 = .ok (.newarray .int, 2) := by decide +kernel
theorem dX2_init_35 : decode cX2_init 35 = .ok (.putfield 24, 3) := by decide +kernel
theorem dX2_init_38 : decode cX2_init 38 = .ok (.aload_n 0, 1) := by decide +kernel
theorem dX2_init_39 : decode cX2_init 39 = .ok (.bipush 16, 2) := by decide +kernel
theorem dX2_init_41 : decode cX2_init 41 = .ok (.anewarray 27, 3) := by decide +kernel
theorem dX2_init_44 : decode cX2_init 44 = .ok (.putfield 29, 3) := by decide +kernel
theorem dX2_init_47 : decode cX2_init 47 = .ok (.iconst 0, 1) := by decide +kernel
theorem dX2_init_48 : decode cX2_init 48 = .ok (.istore_n 1, 1) := by decide +kernel
theorem dX2_init_49 : decode cX2_init 49 = .ok (.iload_n 1, 1) := by decide +kernel
theorem dX2_init_50 : decode cX2_init 50 = .ok (.bipush 16, 2) := by decide +kernel
theorem dX2_init_52 : decode cX2_init 52 = .ok (.if_icmp .ge 23, 3) := by decide +kernel
theorem dX2_init_55 : decode cX2_init 55 = .ok (.aload_n 0, 1) := by decide +kernel
theorem dX2_init_56 : decode cX2_init 56 = .ok (.getfield 29, 3) := by decide +kernel
theorem dX2_init_59 : decode cX2_init 59 = .ok (.iload_n 1, 1) := by decide +kernel
theorem dX2_init_60 : decode cX2_init 60 = .ok (.new 27, 3) := by decide +kernel
theorem dX2_init_63 : decode cX2_init 63 = .ok (.dup, 1) := by decide +kernel
theorem dX2_init_64 : decode cX2_init 64 = .ok (.iload_n 1, 1) := by decide +kernel
theorem dX2_init_65 : decode cX2_init 65 = .ok (.invokespecial 33, 3) := by decide +kernel
theorem dX2_init_68 : decode cX2_init 68 = .ok (.aastore, 1) := by decide +kernel
theorem dX2_init_69 : decode cX2_init 69 = .ok (.iinc 1 1, 3) := by decide +kernel
theorem dX2_init_72 : decode cX2_init 72 = .ok (.goto (-23), 3) := by decide +kernel
theorem dX2_init_75 : decode cX2_init 75 = .ok (.aload_n 0, 1) := by decide +kernel
theorem dX2_init_76 : decode cX2_init 76 = .ok (.new 36, 3) := by decide +kernel
theorem dX2_init_79 : decode cX2_init 79 = .ok (.dup, 1) := by decide +kernel
theorem dX2_init_80 : decode cX2_init 80 = .ok (.invokespecial 38, 3) := by decide +kernel
theorem dX2_init_83 : decode cX2_init 83 = .ok (.putfield 39, 3) := by decide +kernel
theorem dX2_init_86 : decode cX2_init 86 = .ok (.aload_n 0, 1) := by decide +kernel
theorem dX2_init_87 : decode cX2_init 87 = .ok (.invokevirtual 43, 3) := by decide +kernel
theorem dX2_init_90 : decode cX2_init 90 = .ok (.return_, 1) := by decide +kernel
theorem dX2_renew_0 : decode cX2_renew 0 = .ok (.iconst 0, 1) := by decide +kernel
theorem dX2_renew_1 : decode cX2_renew 1 = .ok (.istore_n 1, 1) := by decide +kernel
theorem dX2_renew_2 : decode cX2_renew 2 = .ok (.iload_n 1, 1) := by decide +kernel
theorem dX2_renew_3 : decode cX2_renew 3 = .ok (.bipush 10, 2) := by decide +kernel
theorem dX2_renew_5 : decode cX2_renew 5 = .ok (.if_icmp .ge 16, 3) := by decide +kernel
theorem dX2_renew_8 : decode cX2_renew 8 = .ok (.aload_n 0, 1) := by decide +kernel
theorem dX2_renew_9 : decode cX2_renew 9 = .ok (.getfield 24, 3) := by decide +kernel
theorem dX2_renew_12 : decode cX2_renew 12 = .ok (.iload_n 1, 1) := by decide +kernel
theorem dX2_renew_13 : decode cX2_renew 13 = .ok (.iconst 0, 1) := by decide +kernel
theorem dX2_renew_14 : decode cX2_renew 14 = .ok (.iastore, 1) := by decide +kernel
theorem dX2_renew_15 : decode cX2_renew 15 = .ok (.iinc 1 1, 3) := by decide +kernel
theorem dX2_renew_18 : decode cX2_renew 18 = .ok (.goto (-16), 3) := by decide +kernel
theorem dX2_renew_21 : decode cX2_renew 21 = .ok (.aload_n 0, 1) := by decide +kernel
theorem dX2_renew_22 : decode cX2_renew 22 = .ok (.getfield 29, 3) := by decide +kernel
theorem dX2_renew_25 : decode cX2_renew 25 = .ok (.astore_n 1, 1) := by decide +kernel
theorem dX2_renew_26 : decode cX2_renew 26 = .ok (.aload_n 1, 1) := by decide +kernel
theorem dX2_renew_27 : decode cX2_renew 27 = .ok (.arraylength, 1) := by decide +kernel
theorem dX2_renew_28 : decode cX2_renew 28 = .ok (.istore_n 2, 1) := by decide +kernel
theorem dX2_renew_29 : decode cX2_renew 29 = .ok (.iconst 0, 1) := by decide +kernel
theorem dX2_renew_30 : decode cX2_renew 30 = .ok (.istore_n 3, 1) := by decide +kernel
theorem dX2_renew_31 : decode cX2_renew 31 = .ok (.iload_n 3, 1) := by decide +kernel
theorem dX2_renew_32 : decode cX2_renew 32 = .ok (.iload_n 2, 1) := by decide +kernel
theorem dX2_renew_33 : decode cX2_renew 33 = .ok (.if_icmp .ge 19, 3) := by decide +kernel
theorem dX2_renew_36 : decode cX2_renew 36 = .ok (.aload_n 1, 1) := by decide +kernel
theorem dX2_renew_37 : decode cX2_renew 37 = .ok (.iload_n 3, 1) := by decide +kernel
theorem dX2_renew_38 : decode cX2_renew 38 = .ok (.aaload, 1) := by decide +kernel
theorem dX2_renew_39 : decode cX2_renew 39 = .ok (.astore 4, 2) := by decide +kernel
theorem dX2_renew_41 : decode cX2_renew 41 = .ok (.aload 4, 2) := by decide +kernel
theorem dX2_renew_43 : decode cX2_renew 43 = .ok (.invokevirtual 46, 3) := by decide +kernel
theorem dX2_renew_46 : decode cX2_renew 46 = .ok (.iinc 3 1, 3) := by decide +kernel
theorem dX2_renew_49 : decode cX2_renew 49 = .ok (.goto (-18), 3) := by decide +kernel
theorem dX2_renew_52 : decode cX2_renew 52 = .ok (.aload_n 0, 1) := by decide +kernel
theorem dX2_renew_53 : decode cX2_renew 53 = .ok (.getfield 39, 3) := by decide +kernel
theorem dX2_renew_56 : decode cX2_renew 56 = .ok (.invokevirtual 47, 3) := by decide +kernel
theorem dX2_renew_59 : decode cX2_renew 59 = .ok (.aload_n 0, 1) := by decide +kernel
theorem dX2_renew_60 : decode cX2_renew 60 = .ok (.fconst 0, 1) := by decide +kernel
theorem dX2_renew_61 : decode cX2_renew 61 = .ok (.putfield 48, 3) := by decide +kernel
theorem dX2_renew_64 : decode cX2_renew 64 = .ok (.aload_n 0, 1) := by decide +kernel
theorem dX2_renew_65 : decode cX2_renew 65 = .ok (.iconst 0, 1) := by decide +kernel
theorem dX2_renew_66 : decode cX2_renew 66 = .ok (.putfield 52, 3) := by decide +kernel
theorem dX2_renew_69 : decode cX2_renew 69 = .ok (.aload_n 0, 1) := by decide +kernel
theorem dX2_renew_70 : decode cX2_renew 70 = .ok (.iconst 0, 1) := by decide +kernel
theorem dX2_renew_71 : decode cX2_renew 71 = .ok (.putfield 56, 3) := by decide +kernel
theorem dX2_renew_74 : decode cX2_renew 74 = .ok (.aload_n 0, 1) := by decide +kernel
theorem dX2_renew_75 : decode cX2_renew 75 = .ok (.iconst 0, 1) := by decide +kernel
theorem dX2_renew_76 : decode cX2_renew 76 = .ok (.putfield 59, 3) := by decide +kernel
theorem dX2_renew_79 : decode cX2_renew 79 = .ok (.aload_n 0, 1) := by decide +kernel
theorem dX2_renew_80 : decode cX2_renew 80 = .ok (.ldc 62, 2) := by decide +kernel
theorem dX2_renew_82 : decode cX2_renew 82 = .ok (.putfield 63, 3) := by decide +kernel
theorem dX2_renew_85 : decode cX2_renew 85 = .ok (.return_, 1) := by decide +kernel
theorem dX2_become_0 : decode cX2_become 0 = .ok (.aload_n 1, 1) := by decide +kernel
theorem dX2_become_1 : decode cX2_become 1 = .ok (.getfield 13, 3) := by decide +kernel
theorem dX2_become_4 : decode cX2_become 4 = .ok (.iconst 0, 1) := by decide +kernel
theorem dX2_become_5 : decode cX2_become 5 = .ok (.aload_n 0, 1) := by decide +kernel
theorem dX2_become_6 : decode cX2_become 6 = .ok (.getfield 13, 3) := by decide +kernel
theorem dX2_become_9 : decode cX2_become 9 = .ok (.iconst 0, 1) := by decide +kernel
theorem dX2_become_10 : decode cX2_become 10 = .ok (.getstatic 9, 3) := by decide +kernel
theorem dX2_become_13 : decode cX2_become 13 = .ok (.arraylength, 1) := by decide +kernel
theorem dX2_become_14 : decode cX2_become 14 = .ok (.invokestatic 18, 3) := by decide +kernel
theorem dX2_become_17 : decode cX2_become 17 = .ok (.aload_n 1, 1) := by decide +kernel
theorem dX2_become_18 : decode cX2_become 18 = .ok (.getfield 24, 3) := by decide +kernel
theorem dX2_become_21 : decode cX2_become 21 = .ok (.iconst 0, 1) := by decide +kernel
theorem dX2_become_22 : decode cX2_become 22 = .ok (.aload_n 0, 1) := by decide +kernel
theorem dX2_become_23 : decode cX2_become 23 = .ok (.getfield 24, 3) := by decide +kernel
theorem dX2_become_26 : decode cX2_become 26 = .ok (.iconst 0, 1) := by decide +kernel
theorem dX2_become_27 : decode cX2_become 27 = .ok (.bipush 10, 2) := by decide +kernel
theorem dX2_become_29 : decode cX2_become 29 = .ok (.invokestatic 18, 3) := by decide +kernel
theorem dX2_become_32 : decode cX2_become 32 = .ok (.iconst 0, 1) := by decide +kernel
theorem dX2_become_33 : decode cX2_become 33 = .ok (.istore_n 2, 1) := by decide +kernel
theorem dX2_become_34 : decode cX2_become 34 = .ok (.iload_n 2, 1) := by decide +kernel
theorem dX2_become_35 : decode cX2_become 35 = .ok (.bipush 16, 2) := by decide +kernel
theorem dX2_become_37 : decode cX2_become 37 = .ok (.if_icmp .ge 24, 3) := by decide +kernel
theorem dX2_become_40 : decode cX2_become 40 = .ok (.aload_n 0, 1) := by decide +kernel
theorem dX2_become_41 : decode cX2_become 41 = .ok (.getfield 29, 3) := by decide +kernel
theorem dX2_become_44 : decode cX2_become 44 = .ok (.iload_n 2, 1) := by decide +kernel
theorem dX2_become_45 : decode cX2_become 45 = .ok (.aaload, 1) := by decide +kernel
theorem dX2_become_46 : decode cX2_become 46 = .ok (.aload_n 1, 1) := by decide +kernel
theorem dX2_become_47 : decode cX2_become 47 = .ok (.getfield 29, 3) := by decide +kernel
theorem dX2_become_50 : decode cX2_become 50 = .ok (.iload_n 2, 1) := by decide +kernel
theorem dX2_become_51 : decode cX2_become 51 = .ok (.aaload, 1) := by decide +kernel
theorem dX2_become_52 : decode cX2_become 52 = .ok (.invokevirtual 66, 3) := by decide +kernel
theorem dX2_become_55 : decode cX2_become 55 = .ok (.iinc 2 1, 3) := by decide +kernel
theorem dX2_become_58 : decode cX2_become 58 = .ok (.goto (-24), 3) := by decide +kernel
theorem dX2_become_61 : decode cX2_become 61 = .ok (.aload_n 0, 1) := by decide +kernel
theorem dX2_become_62 : decode cX2_become 62 = .ok (.getfield 39, 3) := by decide +kernel
theorem dX2_become_65 : decode cX2_become 65 = .ok (.aload_n 1, 1) := by decide +kernel
theorem dX2_become_66 : decode cX2_become 66 = .ok (.getfield 39, 3) := by decide +kernel
theorem dX2_become_69 : decode cX2_become 69 = .ok (.invokevirtual 70, 3) := by decide +kernel
theorem dX2_become_72 : decode cX2_become 72 = .ok (.aload_n 0, 1) := by decide +kernel
theorem dX2_become_73 : decode cX2_become 73 = .ok (.aload_n 1, 1) := by decide +kernel
theorem dX2_become_74 : decode cX2_become 74 = .ok (.getfield 48, 3) := by decide +kernel
theorem dX2_become_77 : decode cX2_become 77 = .ok (.putfield 48, 3) := by decide +kernel
theorem dX2_become_80 : decode cX2_become 80 = .ok (.aload_n 0, 1) := by decide +kernel
theorem dX2_become_81 : decode cX2_become 81 = .ok (.aload_n 1, 1) := by decide +kernel
theorem dX2_become_82 : decode cX2_become 82 = .ok (.getfield 52, 3) := by decide +kernel
theorem dX2_become_85 : decode cX2_become 85 = .ok (.putfield 52, 3) := by decide +kernel
theorem dX2_become_88 : decode cX2_become 88 = .ok (.aload_n 0, 1) := by decide +kernel
theorem dX2_become_89 : decode cX2_become 89 = .ok (.aload_n 1, 1) := by decide +kernel
theorem dX2_become_90 : decode cX2_become 90 = .ok (.getfield 56, 3) := by decide +kernel
theorem dX2_become_93 : decode cX2_become 93 = .ok (.putfield 56, 3) := by decide +kernel
theorem dX2_become_96 : decode cX2_become 96 = .ok (.aload_n 0, 1) := by decide +kernel
theorem dX2_become_97 : decode cX2_become 97 = .ok (.aload_n 1, 1) := by decide +kernel
theorem dX2_become_98 : decode cX2_become 98 = .ok (.getfield 59, 3) := by decide +kernel
theorem dX2_become_101 : decode cX2_become 101 = .ok (.putfield 59, 3) := by decide +kernel
theorem dX2_become_104 : decode cX2_become 104 = .ok (.aload_n 0, 1) := by decide +kernel
theorem dX2_become_105 : decode cX2_become 105 = .ok (.aload_n 1, 1) := by decide +kernel
theorem dX2_become_106 : decode cX2_become 106 = .ok (.getfield 63, 3) := by decide +kernel
theorem dX2_become_109 : decode cX2_become 109 = .ok (.putfield 63, 3) := by decide +kernel
theorem dX2_become_112 : decode cX2_become 112 = .ok (.return_, 1) := by decide +kernel
theorem dX2_begin_0 : decode cX2_begin 0 = .ok (.iconst 0, 1) := by decide +kernel
theorem dX2_begin_1 : decode cX2_begin 1 = .ok (.istore 4, 2) := by decide +kernel
theorem dX2_begin_3 : decode cX2_begin 3 = .ok (.iload 4, 2) := by decide +kernel
theorem dX2_begin_5 : decode cX2_begin 5 = .ok (.sipush 1000, 3) := by decide +kernel
theorem dX2_begin_8 : decode cX2_begin 8 = .ok (.if_icmp .ge 68, 3) := by decide +kernel
theorem dX2_begin_11 : decode cX2_begin 11 = .ok (.aload_n 0, 1) := by decide +kernel
theorem dX2_begin_12 : decode cX2_begin 12 = .ok (.invokevirtual 73, 3) := by decide +kernel
theorem dX2_begin_15 : decode cX2_begin 15 = .ok (.aload_n 1, 1) := by decide +kernel
theorem dX2_begin_16 : decode cX2_begin 16 = .ok (.ifnonnull 25, 3) := by decide +kernel
theorem dX2_begin_19 : decode cX2_begin 19 = .ok (.aload_n 0, 1) := by decide +kernel
theorem dX2_begin_20 : decode cX2_begin 20 = .ok (.getfield 52, 3) := by decide +kernel
theorem dX2_begin_23 : decode cX2_begin 23 = .ok (.ifCond .ne 14, 3) := by decide +kernel
theorem dX2_begin_26 : decode cX2_begin 26 = .ok (.aload_n 0, 1) := by decide +kernel
theorem dX2_begin_27 : decode cX2_begin 27 = .ok (.getfield 56, 3) := by decide +kernel
theorem dX2_begin_30 : decode cX2_begin 30 = .ok (.ifCond .ne 7, 3) := by decide +kernel
theorem dX2_begin_33 : decode cX2_begin 33 = .ok (.iconst 1, 1) := by decide +kernel
theorem dX2_begin_34 : decode cX2_begin 34 = .ok (.goto 14, 3) := by decide +kernel
theorem dX2_begin_37 : decode cX2_begin 37 = .ok (.iconst 0, 1) := by decide +kernel
theorem dX2_begin_38 : decode cX2_begin 38 = .ok (.goto 10, 3) := by decide +kernel
theorem dX2_begin_41 : decode cX2_begin 41 = .ok (.aload_n 0, 1) := by decide +kernel
theorem dX2_begin_42 : decode cX2_begin 42 = .ok (.aload_n 1, 1) := by decide +kernel
theorem dX2_begin_43 : decode cX2_begin 43 = .ok (.iload_n 2, 1) := by decide +kernel
theorem dX2_begin_44 : decode cX2_begin 44 = .ok (.iload_n 3, 1) := by decide +kernel
theorem dX2_begin_45 : decode cX2_begin 45 = .ok (.invokevirtual 76, 3) := by decide +kernel
theorem dX2_begin_48 : decode cX2_begin 48 = .ok (.istore 5, 2) := by decide +kernel
theorem dX2_begin_50 : decode cX2_begin 50 = .ok (.iload 5, 2) := by decide +kernel
theorem dX2_begin_52 : decode cX2_begin 52 = .ok (.ifCond .eq 11, 3) := by decide +kernel
theorem dX2_begin_55 : decode cX2_begin 55 = .ok (.aload_n 0, 1) := by decide +kernel
theorem dX2_begin_56 : decode cX2_begin 56 = .ok (.getfield 24, 3) := by decide +kernel
theorem dX2_begin_59 : decode cX2_begin 59 = .ok (.bipush 9, 2) := by decide +kernel
theorem dX2_begin_61 : decode cX2_begin 61 = .ok (.iaload, 1) := by decide +kernel
theorem dX2_begin_62 : decode cX2_begin 62 = .ok (.ireturn, 1) := by decide +kernel
theorem dX2_begin_63 : decode cX2_begin 63 = .ok (.aload_n 0, 1) := by decide +kernel
theorem dX2_begin_64 : decode cX2_begin 64 = .ok (.iconst 4, 1) := by decide +kernel
theorem dX2_begin_65 : decode cX2_begin 65 = .ok (.ldc 80, 2) := by decide +kernel
theorem dX2_begin_67 : decode cX2_begin 67 = .ok (.invokevirtual 81, 3) := by decide +kernel
theorem dX2_begin_70 : decode cX2_begin 70 = .ok (.iinc 4 1, 3) := by decide +kernel
theorem dX2_begin_73 : decode cX2_begin 73 = .ok (.goto (-70), 3) := by decide +kernel
theorem dX2_begin_76 : decode cX2_begin 76 = .ok (.aload_n 0, 1) := by decide +kernel
theorem dX2_begin_77 : decode cX2_begin 77 = .ok (.getfield 24, 3) := by decide +kernel
theorem dX2_begin_80 : decode cX2_begin 80 = .ok (.bipush 9, 2) := by decide +kernel
theorem dX2_begin_82 : decode cX2_begin 82 = .ok (.iaload, 1) := by decide +kernel
theorem dX2_begin_83 : decode cX2_begin 83 = .ok (.ireturn, 1) := by decide +kernel
theorem dX2_pause_0 : decode cX2_pause 0 = .ok (.iconst 0, 1) := by decide +kernel
theorem dX2_pause_1 : decode cX2_pause 1 = .ok (.istore_n 2, 1) := by decide +kernel
theorem dX2_pause_2 : decode cX2_pause 2 = .ok (.iload_n 2, 1) := by decide +kernel
theorem dX2_pause_3 : decode cX2_pause 3 = .ok (.iload_n 1, 1) := by decide +kernel
theorem dX2_pause_4 : decode cX2_pause 4 = .ok (.if_icmp .ge 19, 3) := by decide +kernel
theorem dX2_pause_7 : decode cX2_pause 7 = .ok (.iload_n 2, 1) := by decide +kernel
theorem dX2_pause_8 : decode cX2_pause 8 = .ok (.bipush 99, 2) := by decide +kernel
theorem dX2_pause_10 : decode cX2_pause 10 = .ok (.if_icmp .ge 13, 3) := by decide +kernel
theorem dX2_pause_13 : decode cX2_pause 13 = .ok (.aload_n 0, 1) := by decide +kernel
theorem dX2_pause_14 : decode cX2_pause 14 = .ok (.invokevirtual 73, 3) := by decide +kernel
theorem dX2_pause_17 : decode cX2_pause 17 = .ok (.iinc 2 1, 3) := by decide +kernel
theorem dX2_pause_20 : decode cX2_pause 20 = .ok (.goto (-18), 3) := by decide +kernel
theorem dX2_pause_23 : decode cX2_pause 23 = .ok (.return_, 1) := by decide +kernel
theorem dX2_carryOut_0 : decode cX2_carryOut 0 = .ok (.iconst 0, 1) := by decide +kernel
theorem dX2_carryOut_1 : decode cX2_carryOut 1 = .ok (.istore_n 2, 1) := by decide +kernel
theorem dX2_carryOut_2 : decode cX2_carryOut 2 = .ok (.iload_n 2, 1) := by decide +kernel
theorem dX2_carryOut_3 : decode cX2_carryOut 3 = .ok (.aload_n 1, 1) := by decide +kernel
theorem dX2_carryOut_4 : decode cX2_carryOut 4 = .ok (.getfield 85, 3) := by decide +kernel
theorem dX2_carryOut_7 : decode cX2_carryOut 7 = .ok (.if_icmp .ge 75, 3) := by decide +kernel
theorem dX2_carryOut_10 : decode cX2_carryOut 10 = .ok (.iload_n 2, 1) := by decide +kernel
theorem dX2_carryOut_11 : decode cX2_carryOut 11 = .ok (.bipush 60, 2) := by decide +kernel
theorem dX2_carryOut_13 : decode cX2_carryOut 13 = .ok (.if_icmp .ge 69, 3) := by decide +kernel
theorem dX2_carryOut_16 : decode cX2_carryOut 16 = .ok (.aload_n 1, 1) := by decide +kernel
theorem dX2_carryOut_17 : decode cX2_carryOut 17 = .ok (.getfield 90, 3) := by decide +kernel
theorem dX2_carryOut_20 : decode cX2_carryOut 20 = .ok (.iload_n 2, 1) := by decide +kernel
theorem dX2_carryOut_21 : decode cX2_carryOut 21 = .ok (.iaload, 1) := by decide +kernel
theorem dX2_carryOut_22 : decode cX2_carryOut 22 = .ok (.istore_n 3, 1) := by decide +kernel
theorem dX2_carryOut_23 : decode cX2_carryOut 23 = .ok (.iload_n 3, 1) := by decide +kernel
theorem dX2_carryOut_24 : decode cX2_carryOut 24 = .ok (.bipush (-2), 2) := by decide +kernel
theorem dX2_carryOut_26 : decode cX2_carryOut 26 = .ok (.if_icmp .ne 16, 3) := by decide +kernel
theorem dX2_carryOut_29 : decode cX2_carryOut 29 = .ok (.aload_n 0, 1) := by decide +kernel
theorem dX2_carryOut_30 : decode cX2_carryOut 30 = .ok (.aload_n 1, 1) := by decide +kernel
theorem dX2_carryOut_31 : decode cX2_carryOut 31 = .ok (.getfield 93, 3) := by decide +kernel
theorem dX2_carryOut_34 : decode cX2_carryOut 34 = .ok (.iload_n 2, 1) := by decide +kernel
theorem dX2_carryOut_35 : decode cX2_carryOut 35 = .ok (.iaload, 1) := by decide +kernel
theorem dX2_carryOut_36 : decode cX2_carryOut 36 = .ok (.invokevirtual 96, 3) := by decide +kernel
theorem dX2_carryOut_39 : decode cX2_carryOut 39 = .ok (.goto 37, 3) := by decide +kernel
theorem dX2_carryOut_42 : decode cX2_carryOut 42 = .ok (.aload_n 0, 1) := by decide +kernel
theorem dX2_carryOut_43 : decode cX2_carryOut 43 = .ok (.iload_n 3, 1) := by decide +kernel
theorem dX2_carryOut_44 : decode cX2_carryOut 44 = .ok (.invokestatic 99, 3) := by decide +kernel
theorem dX2_carryOut_47 : decode cX2_carryOut 47 = .ok (.ifCond .eq 12, 3) := by decide +kernel
theorem dX2_carryOut_50 : decode cX2_carryOut 50 = .ok (.aload_n 0, 1) := by decide +kernel
theorem dX2_carryOut_51 : decode cX2_carryOut 51 = .ok (.getfield 29, 3) := by decide +kernel
theorem dX2_carryOut_54 : decode cX2_carryOut 54 = .ok (.iload_n 3, 1) := by decide +kernel
theorem dX2_carryOut_55 : decode cX2_carryOut 55 = .ok (.aaload, 1) := by decide +kernel
theorem dX2_carryOut_56 : decode cX2_carryOut 56 = .ok (.goto 4, 3) := by decide +kernel
theorem dX2_carryOut_59 : decode cX2_carryOut 59 = .ok (.aconst_null, 1) := by decide +kernel
theorem dX2_carryOut_60 : decode cX2_carryOut 60 = .ok (.aload_n 1, 1) := by decide +kernel
theorem dX2_carryOut_61 : decode cX2_carryOut 61 = .ok (.getfield 103, 3) := by decide +kernel
theorem dX2_carryOut_64 : decode cX2_carryOut 64 = .ok (.iload_n 2, 1) := by decide +kernel
theorem dX2_carryOut_65 : decode cX2_carryOut 65 = .ok (.iaload, 1) := by decide +kernel
theorem dX2_carryOut_66 : decode cX2_carryOut 66 = .ok (.aload_n 1, 1) := by decide +kernel
theorem dX2_carryOut_67 : decode cX2_carryOut 67 = .ok (.getfield 93, 3) := by decide +kernel
theorem dX2_carryOut_70 : decode cX2_carryOut 70 = .ok (.iload_n 2, 1) := by decide +kernel
theorem dX2_carryOut_71 : decode cX2_carryOut 71 = .ok (.iaload, 1) := by decide +kernel
theorem dX2_carryOut_72 : decode cX2_carryOut 72 = .ok (.invokevirtual 106, 3) := by decide +kernel
theorem dX2_carryOut_75 : decode cX2_carryOut 75 = .ok (.pop, 1) := by decide +kernel
theorem dX2_carryOut_76 : decode cX2_carryOut 76 = .ok (.iinc 2 1, 3) := by decide +kernel
theorem dX2_carryOut_79 : decode cX2_carryOut 79 = .ok (.goto (-77), 3) := by decide +kernel
theorem dX2_carryOut_82 : decode cX2_carryOut 82 = .ok (.return_, 1) := by decide +kernel
theorem dX2_startTrial_0 : decode cX2_startTrial 0 = .ok (.aload_n 1, 1) := by decide +kernel
theorem dX2_startTrial_1 : decode cX2_startTrial 1 = .ok (.iconst 0, 1) := by decide +kernel
theorem dX2_startTrial_2 : decode cX2_startTrial 2 = .ok (.aload_n 0, 1) := by decide +kernel
theorem dX2_startTrial_3 : decode cX2_startTrial 3 = .ok (.getfield 13, 3) := by decide +kernel
theorem dX2_startTrial_6 : decode cX2_startTrial 6 = .ok (.iconst 0, 1) := by decide +kernel
theorem dX2_startTrial_7 : decode cX2_startTrial 7 = .ok (.getstatic 9, 3) := by decide +kernel
theorem dX2_startTrial_10 : decode cX2_startTrial 10 = .ok (.arraylength, 1) := by decide +kernel
theorem dX2_startTrial_11 : decode cX2_startTrial 11 = .ok (.invokestatic 18, 3) := by decide +kernel
theorem dX2_startTrial_14 : decode cX2_startTrial 14 = .ok (.aload_n 0, 1) := by decide +kernel
theorem dX2_startTrial_15 : decode cX2_startTrial 15 = .ok (.getfield 13, 3) := by decide +kernel
theorem dX2_startTrial_18 : decode cX2_startTrial 18 = .ok (.iconst 2, 1) := by decide +kernel
theorem dX2_startTrial_19 : decode cX2_startTrial 19 = .ok (.iload_n 2, 1) := by decide +kernel
theorem dX2_startTrial_20 : decode cX2_startTrial 20 = .ok (.iastore, 1) := by decide +kernel
theorem dX2_startTrial_21 : decode cX2_startTrial 21 = .ok (.aload_n 0, 1) := by decide +kernel
theorem dX2_startTrial_22 : decode cX2_startTrial 22 = .ok (.invokevirtual 43, 3) := by decide +kernel
theorem dX2_startTrial_25 : decode cX2_startTrial 25 = .ok (.return_, 1) := by decide +kernel
theorem dX2_awaitFetches_0 : decode cX2_awaitFetches 0 = .ok (.iconst 0, 1) := by decide +kernel
theorem dX2_awaitFetches_1 : decode cX2_awaitFetches 1 = .ok (.istore_n 1, 1) := by decide +kernel
theorem dX2_awaitFetches_2 : decode cX2_awaitFetches 2 = .ok (.iload_n 1, 1) := by decide +kernel
theorem dX2_awaitFetches_3 : decode cX2_awaitFetches 3 = .ok (.sipush 1000, 3) := by decide +kernel
theorem dX2_awaitFetches_6 : decode cX2_awaitFetches 6 = .ok (.if_icmp .ge 20, 3) := by decide +kernel
theorem dX2_awaitFetches_9 : decode cX2_awaitFetches 9 = .ok (.aload_n 0, 1) := by decide +kernel
theorem dX2_awaitFetches_10 : decode cX2_awaitFetches 10 = .ok (.getfield 52, 3) := by decide +kernel
theorem dX2_awaitFetches_13 : decode cX2_awaitFetches 13 = .ok (.ifCond .le 13, 3) := by decide +kernel
theorem dX2_awaitFetches_16 : decode cX2_awaitFetches 16 = .ok (.aload_n 0, 1) := by decide +kernel
theorem dX2_awaitFetches_17 : decode cX2_awaitFetches 17 = .ok (.invokevirtual 73, 3) := by decide +kernel
theorem dX2_awaitFetches_20 : decode cX2_awaitFetches 20 = .ok (.iinc 1 1, 3) := by decide +kernel
theorem dX2_awaitFetches_23 : decode cX2_awaitFetches 23 = .ok (.goto (-21), 3) := by decide +kernel
theorem dX2_awaitFetches_26 : decode cX2_awaitFetches 26 = .ok (.return_, 1) := by decide +kernel
theorem dX2_tally_0 : decode cX2_tally 0 = .ok (.iload_n 1, 1) := by decide +kernel
theorem dX2_tally_1 : decode cX2_tally 1 = .ok (.ifCond .lt 19, 3) := by decide +kernel
theorem dX2_tally_4 : decode cX2_tally 4 = .ok (.iload_n 1, 1) := by decide +kernel
theorem dX2_tally_5 : decode cX2_tally 5 = .ok (.bipush 10, 2) := by decide +kernel
theorem dX2_tally_7 : decode cX2_tally 7 = .ok (.if_icmp .ge 13, 3) := by decide +kernel
theorem dX2_tally_10 : decode cX2_tally 10 = .ok (.aload_n 0, 1) := by decide +kernel
theorem dX2_tally_11 : decode cX2_tally 11 = .ok (.getfield 24, 3) := by decide +kernel
theorem dX2_tally_14 : decode cX2_tally 14 = .ok (.iload_n 1, 1) := by decide +kernel
theorem dX2_tally_15 : decode cX2_tally 15 = .ok (.dup2, 1) := by decide +kernel
theorem dX2_tally_16 : decode cX2_tally 16 = .ok (.iaload, 1) := by decide +kernel
theorem dX2_tally_17 : decode cX2_tally 17 = .ok (.iconst 1, 1) := by decide +kernel
theorem dX2_tally_18 : decode cX2_tally 18 = .ok (.iadd, 1) := by decide +kernel
theorem dX2_tally_19 : decode cX2_tally 19 = .ok (.iastore, 1) := by decide +kernel
theorem dX2_tally_20 : decode cX2_tally 20 = .ok (.aload_n 0, 1) := by decide +kernel
theorem dX2_tally_21 : decode cX2_tally 21 = .ok (.dup, 1) := by decide +kernel
theorem dX2_tally_22 : decode cX2_tally 22 = .ok (.getfield 48, 3) := by decide +kernel
theorem dX2_tally_25 : decode cX2_tally 25 = .ok (.fload_n 2, 1) := by decide +kernel
theorem dX2_tally_26 : decode cX2_tally 26 = .ok (.fadd, 1) := by decide +kernel
theorem dX2_tally_27 : decode cX2_tally 27 = .ok (.putfield 48, 3) := by decide +kernel
theorem dX2_tally_30 : decode cX2_tally 30 = .ok (.return_, 1) := by decide +kernel
theorem dX2_pass_0 : decode cX2_pass 0 = .ok (.aload_n 0, 1) := by decide +kernel
theorem dX2_pass_1 : decode cX2_pass 1 = .ok (.getfield 24, 3) := by decide +kernel
theorem dX2_pass_4 : decode cX2_pass 4 = .ok (.bipush 9, 2) := by decide +kernel
theorem dX2_pass_6 : decode cX2_pass 6 = .ok (.dup2, 1) := by decide +kernel
theorem dX2_pass_7 : decode cX2_pass 7 = .ok (.iaload, 1) := by decide +kernel
theorem dX2_pass_8 : decode cX2_pass 8 = .ok (.iconst 1, 1) := by decide +kernel
theorem dX2_pass_9 : decode cX2_pass 9 = .ok (.iadd, 1) := by decide +kernel
theorem dX2_pass_10 : decode cX2_pass 10 = .ok (.iastore, 1) := by decide +kernel
theorem dX2_pass_11 : decode cX2_pass 11 = .ok (.aload_n 0, 1) := by decide +kernel
theorem dX2_pass_12 : decode cX2_pass 12 = .ok (.getfield 24, 3) := by decide +kernel
theorem dX2_pass_15 : decode cX2_pass 15 = .ok (.bipush 9, 2) := by decide +kernel
theorem dX2_pass_17 : decode cX2_pass 17 = .ok (.iaload, 1) := by decide +kernel
theorem dX2_pass_18 : decode cX2_pass 18 = .ok (.istore_n 1, 1) := by decide +kernel
theorem dX2_pass_19 : decode cX2_pass 19 = .ok (.iload_n 1, 1) := by decide +kernel
theorem dX2_pass_20 : decode cX2_pass 20 = .ok (.aload_n 0, 1) := by decide +kernel
theorem dX2_pass_21 : decode cX2_pass 21 = .ok (.getfield 63, 3) := by decide +kernel
theorem dX2_pass_24 : decode cX2_pass 24 = .ok (.if_icmp .ge 4, 3) := by decide +kernel
theorem dX2_pass_27 : decode cX2_pass 27 = .ok (.return_, 1) := by decide +kernel
theorem dX2_pass_28 : decode cX2_pass 28 = .ok (.aload_n 0, 1) := by decide +kernel
theorem dX2_pass_29 : decode cX2_pass 29 = .ok (.getfield 29, 3) := by decide +kernel
theorem dX2_pass_32 : decode cX2_pass 32 = .ok (.astore_n 2, 1) := by decide +kernel
theorem dX2_pass_33 : decode cX2_pass 33 = .ok (.aload_n 2, 1) := by decide +kernel
theorem dX2_pass_34 : decode cX2_pass 34 = .ok (.arraylength, 1) := by decide +kernel
theorem dX2_pass_35 : decode cX2_pass 35 = .ok (.istore_n 3, 1) := by decide +kernel
theorem dX2_pass_36 : decode cX2_pass 36 = .ok (.iconst 0, 1) := by decide +kernel
theorem dX2_pass_37 : decode cX2_pass 37 = .ok (.istore 4, 2) := by decide +kernel
theorem dX2_pass_39 : decode cX2_pass 39 = .ok (.iload 4, 2) := by decide +kernel
theorem dX2_pass_41 : decode cX2_pass 41 = .ok (.iload_n 3, 1) := by decide +kernel
theorem dX2_pass_42 : decode cX2_pass 42 = .ok (.if_icmp .ge 56, 3) := by decide +kernel
theorem dX2_pass_45 : decode cX2_pass 45 = .ok (.aload_n 2, 1) := by decide +kernel
theorem dX2_pass_46 : decode cX2_pass 46 = .ok (.iload 4, 2) := by decide +kernel
theorem dX2_pass_48 : decode cX2_pass 48 = .ok (.aaload, 1) := by decide +kernel
theorem dX2_pass_49 : decode cX2_pass 49 = .ok (.astore 5, 2) := by decide +kernel
theorem dX2_pass_51 : decode cX2_pass 51 = .ok (.aload 5, 2) := by decide +kernel
theorem dX2_pass_53 : decode cX2_pass 53 = .ok (.getfield 110, 3) := by decide +kernel
theorem dX2_pass_56 : decode cX2_pass 56 = .ok (.iconst 2, 1) := by decide +kernel
theorem dX2_pass_57 : decode cX2_pass 57 = .ok (.if_icmp .ne 35, 3) := by decide +kernel
theorem dX2_pass_60 : decode cX2_pass 60 = .ok (.aload 5, 2) := by decide +kernel
theorem dX2_pass_62 : decode cX2_pass 62 = .ok (.getfield 113, 3) := by decide +kernel
theorem dX2_pass_65 : decode cX2_pass 65 = .ok (.iload_n 1, 1) := by decide +kernel
theorem dX2_pass_66 : decode cX2_pass 66 = .ok (.if_icmp .gt 26, 3) := by decide +kernel
theorem dX2_pass_69 : decode cX2_pass 69 = .ok (.aload_n 0, 1) := by decide +kernel
theorem dX2_pass_70 : decode cX2_pass 70 = .ok (.dup, 1) := by decide +kernel
theorem dX2_pass_71 : decode cX2_pass 71 = .ok (.getfield 56, 3) := by decide +kernel
theorem dX2_pass_74 : decode cX2_pass 74 = .ok (.iconst 1, 1) := by decide +kernel
theorem dX2_pass_75 : decode cX2_pass 75 = .ok (.isub, 1) := by decide +kernel
theorem dX2_pass_76 : decode cX2_pass 76 = .ok (.putfield 56, 3) := by decide +kernel
theorem dX2_pass_79 : decode cX2_pass 79 = .ok (.aload 5, 2) := by decide +kernel
theorem dX2_pass_81 : decode cX2_pass 81 = .ok (.invokevirtual 116, 3) := by decide +kernel
theorem dX2_pass_84 : decode cX2_pass 84 = .ok (.aload_n 0, 1) := by decide +kernel
theorem dX2_pass_85 : decode cX2_pass 85 = .ok (.bipush 6, 2) := by decide +kernel
theorem dX2_pass_87 : decode cX2_pass 87 = .ok (.ldc 119, 2) := by decide +kernel
theorem dX2_pass_89 : decode cX2_pass 89 = .ok (.invokevirtual 81, 3) := by decide +kernel
theorem dX2_pass_92 : decode cX2_pass 92 = .ok (.iinc 4 1, 3) := by decide +kernel
theorem dX2_pass_95 : decode cX2_pass 95 = .ok (.goto (-56), 3) := by decide +kernel
theorem dX2_pass_98 : decode cX2_pass 98 = .ok (.aload_n 0, 1) := by decide +kernel
theorem dX2_pass_99 : decode cX2_pass 99 = .ok (.getfield 29, 3) := by decide +kernel
theorem dX2_pass_102 : decode cX2_pass 102 = .ok (.astore_n 2, 1) := by decide +kernel
theorem dX2_pass_103 : decode cX2_pass 103 = .ok (.aload_n 2, 1) := by decide +kernel
theorem dX2_pass_104 : decode cX2_pass 104 = .ok (.arraylength, 1) := by decide +kernel
theorem dX2_pass_105 : decode cX2_pass 105 = .ok (.istore_n 3, 1) := by decide +kernel
theorem dX2_pass_106 : decode cX2_pass 106 = .ok (.iconst 0, 1) := by decide +kernel
theorem dX2_pass_107 : decode cX2_pass 107 = .ok (.istore 4, 2) := by decide +kernel
theorem dX2_pass_109 : decode cX2_pass 109 = .ok (.iload 4, 2) := by decide +kernel
theorem dX2_pass_111 : decode cX2_pass 111 = .ok (.iload_n 3, 1) := by decide +kernel
theorem dX2_pass_112 : decode cX2_pass 112 = .ok (.if_icmp .ge 39, 3) := by decide +kernel
theorem dX2_pass_115 : decode cX2_pass 115 = .ok (.aload_n 2, 1) := by decide +kernel
theorem dX2_pass_116 : decode cX2_pass 116 = .ok (.iload 4, 2) := by decide +kernel
theorem dX2_pass_118 : decode cX2_pass 118 = .ok (.aaload, 1) := by decide +kernel
theorem dX2_pass_119 : decode cX2_pass 119 = .ok (.astore 5, 2) := by decide +kernel
theorem dX2_pass_121 : decode cX2_pass 121 = .ok (.aload 5, 2) := by decide +kernel
theorem dX2_pass_123 : decode cX2_pass 123 = .ok (.getfield 110, 3) := by decide +kernel
theorem dX2_pass_126 : decode cX2_pass 126 = .ok (.iconst 3, 1) := by decide +kernel
theorem dX2_pass_127 : decode cX2_pass 127 = .ok (.if_icmp .ne 18, 3) := by decide +kernel
theorem dX2_pass_130 : decode cX2_pass 130 = .ok (.aload 5, 2) := by decide +kernel
theorem dX2_pass_132 : decode cX2_pass 132 = .ok (.getfield 113, 3) := by decide +kernel
theorem dX2_pass_135 : decode cX2_pass 135 = .ok (.iload_n 1, 1) := by decide +kernel
theorem dX2_pass_136 : decode cX2_pass 136 = .ok (.if_icmp .gt 9, 3) := by decide +kernel
theorem dX2_pass_139 : decode cX2_pass 139 = .ok (.aload_n 0, 1) := by decide +kernel
theorem dX2_pass_140 : decode cX2_pass 140 = .ok (.aload 5, 2) := by decide +kernel
theorem dX2_pass_142 : decode cX2_pass 142 = .ok (.invokevirtual 120, 3) := by decide +kernel
theorem dX2_pass_145 : decode cX2_pass 145 = .ok (.iinc 4 1, 3) := by decide +kernel
theorem dX2_pass_148 : decode cX2_pass 148 = .ok (.goto (-39), 3) := by decide +kernel
theorem dX2_pass_151 : decode cX2_pass 151 = .ok (.aload_n 0, 1) := by decide +kernel
theorem dX2_pass_152 : decode cX2_pass 152 = .ok (.ldc 62, 2) := by decide +kernel
theorem dX2_pass_154 : decode cX2_pass 154 = .ok (.putfield 63, 3) := by decide +kernel
theorem dX2_pass_157 : decode cX2_pass 157 = .ok (.aload_n 0, 1) := by decide +kernel
theorem dX2_pass_158 : decode cX2_pass 158 = .ok (.getfield 29, 3) := by decide +kernel
theorem dX2_pass_161 : decode cX2_pass 161 = .ok (.astore_n 2, 1) := by decide +kernel
theorem dX2_pass_162 : decode cX2_pass 162 = .ok (.aload_n 2, 1) := by decide +kernel
theorem dX2_pass_163 : decode cX2_pass 163 = .ok (.arraylength, 1) := by decide +kernel
theorem dX2_pass_164 : decode cX2_pass 164 = .ok (.istore_n 3, 1) := by decide +kernel
theorem dX2_pass_165 : decode cX2_pass 165 = .ok (.iconst 0, 1) := by decide +kernel
theorem dX2_pass_166 : decode cX2_pass 166 = .ok (.istore 4, 2) := by decide +kernel
theorem dX2_pass_168 : decode cX2_pass 168 = .ok (.iload 4, 2) := by decide +kernel
theorem dX2_pass_170 : decode cX2_pass 170 = .ok (.iload_n 3, 1) := by decide +kernel
theorem dX2_pass_171 : decode cX2_pass 171 = .ok (.if_icmp .ge 31, 3) := by decide +kernel
theorem dX2_pass_174 : decode cX2_pass 174 = .ok (.aload_n 2, 1) := by decide +kernel
theorem dX2_pass_175 : decode cX2_pass 175 = .ok (.iload 4, 2) := by decide +kernel
theorem dX2_pass_177 : decode cX2_pass 177 = .ok (.aaload, 1) := by decide +kernel
theorem dX2_pass_178 : decode cX2_pass 178 = .ok (.astore 5, 2) := by decide +kernel
theorem dX2_pass_180 : decode cX2_pass 180 = .ok (.aload_n 0, 1) := by decide +kernel
theorem dX2_pass_181 : decode cX2_pass 181 = .ok (.aload_n 0, 1) := by decide +kernel
theorem dX2_pass_182 : decode cX2_pass 182 = .ok (.getfield 63, 3) := by decide +kernel
theorem dX2_pass_185 : decode cX2_pass 185 = .ok (.aload 5, 2) := by decide +kernel
theorem dX2_pass_187 : decode cX2_pass 187 = .ok (.getfield 113, 3) := by decide +kernel
theorem dX2_pass_190 : decode cX2_pass 190 = .ok (.invokestatic 123, 3) := by decide +kernel
theorem dX2_pass_193 : decode cX2_pass 193 = .ok (.putfield 63, 3) := by decide +kernel
theorem dX2_pass_196 : decode cX2_pass 196 = .ok (.iinc 4 1, 3) := by decide +kernel
theorem dX2_pass_199 : decode cX2_pass 199 = .ok (.goto (-31), 3) := by decide +kernel
theorem dX2_pass_202 : decode cX2_pass 202 = .ok (.return_, 1) := by decide +kernel
theorem dX2_come_0 : decode cX2_come 0 = .ok (.aload_n 0, 1) := by decide +kernel
theorem dX2_come_1 : decode cX2_come 1 = .ok (.dup, 1) := by decide +kernel
theorem dX2_come_2 : decode cX2_come 2 = .ok (.getfield 52, 3) := by decide +kernel
theorem dX2_come_5 : decode cX2_come 5 = .ok (.iconst 1, 1) := by decide +kernel
theorem dX2_come_6 : decode cX2_come 6 = .ok (.isub, 1) := by decide +kernel
theorem dX2_come_7 : decode cX2_come 7 = .ok (.putfield 52, 3) := by decide +kernel
theorem dX2_come_10 : decode cX2_come 10 = .ok (.aload_n 1, 1) := by decide +kernel
theorem dX2_come_11 : decode cX2_come 11 = .ok (.invokevirtual 129, 3) := by decide +kernel
theorem dX2_come_14 : decode cX2_come 14 = .ok (.aload_n 0, 1) := by decide +kernel
theorem dX2_come_15 : decode cX2_come 15 = .ok (.aload_n 1, 1) := by decide +kernel
theorem dX2_come_16 : decode cX2_come 16 = .ok (.invokevirtual 132, 3) := by decide +kernel
theorem dX2_come_19 : decode cX2_come 19 = .ok (.iconst 0, 1) := by decide +kernel
theorem dX2_come_20 : decode cX2_come 20 = .ok (.istore_n 2, 1) := by decide +kernel
theorem dX2_come_21 : decode cX2_come 21 = .ok (.iload_n 2, 1) := by decide +kernel
theorem dX2_come_22 : decode cX2_come 22 = .ok (.aload_n 1, 1) := by decide +kernel
theorem dX2_come_23 : decode cX2_come 23 = .ok (.getfield 135, 3) := by decide +kernel
theorem dX2_come_26 : decode cX2_come 26 = .ok (.if_icmp .ge 43, 3) := by decide +kernel
theorem dX2_come_29 : decode cX2_come 29 = .ok (.iload_n 2, 1) := by decide +kernel
theorem dX2_come_30 : decode cX2_come 30 = .ok (.iconst 4, 1) := by decide +kernel
theorem dX2_come_31 : decode cX2_come 31 = .ok (.if_icmp .ge 38, 3) := by decide +kernel
theorem dX2_come_34 : decode cX2_come 34 = .ok (.aload_n 0, 1) := by decide +kernel
theorem dX2_come_35 : decode cX2_come 35 = .ok (.aload_n 1, 1) := by decide +kernel
theorem dX2_come_36 : decode cX2_come 36 = .ok (.aload_n 1, 1) := by decide +kernel
theorem dX2_come_37 : decode cX2_come 37 = .ok (.getfield 138, 3) := by decide +kernel
theorem dX2_come_40 : decode cX2_come 40 = .ok (.iload_n 2, 1) := by decide +kernel
theorem dX2_come_41 : decode cX2_come 41 = .ok (.iaload, 1) := by decide +kernel
theorem dX2_come_42 : decode cX2_come 42 = .ok (.aload_n 1, 1) := by decide +kernel
theorem dX2_come_43 : decode cX2_come 43 = .ok (.getfield 141, 3) := by decide +kernel
theorem dX2_come_46 : decode cX2_come 46 = .ok (.iload_n 2, 1) := by decide +kernel
theorem dX2_come_47 : decode cX2_come 47 = .ok (.iaload, 1) := by decide +kernel
theorem dX2_come_48 : decode cX2_come 48 = .ok (.aload_n 1, 1) := by decide +kernel
theorem dX2_come_49 : decode cX2_come 49 = .ok (.getfield 144, 3) := by decide +kernel
theorem dX2_come_52 : decode cX2_come 52 = .ok (.iload_n 2, 1) := by decide +kernel
theorem dX2_come_53 : decode cX2_come 53 = .ok (.iaload, 1) := by decide +kernel
theorem dX2_come_54 : decode cX2_come 54 = .ok (.aload_n 1, 1) := by decide +kernel
theorem dX2_come_55 : decode cX2_come 55 = .ok (.getfield 147, 3) := by decide +kernel
theorem dX2_come_58 : decode cX2_come 58 = .ok (.iload_n 2, 1) := by decide +kernel
theorem dX2_come_59 : decode cX2_come 59 = .ok (.iaload, 1) := by decide +kernel
theorem dX2_come_60 : decode cX2_come 60 = .ok (.invokevirtual 150, 3) := by decide +kernel
theorem dX2_come_63 : decode cX2_come 63 = .ok (.iinc 2 1, 3) := by decide +kernel
theorem dX2_come_66 : decode cX2_come 66 = .ok (.goto (-45), 3) := by decide +kernel
theorem dX2_come_69 : decode cX2_come 69 = .ok (.aload_n 1, 1) := by decide +kernel
theorem dX2_come_70 : decode cX2_come 70 = .ok (.iconst 0, 1) := by decide +kernel
theorem dX2_come_71 : decode cX2_come 71 = .ok (.putfield 135, 3) := by decide +kernel
theorem dX2_come_74 : decode cX2_come 74 = .ok (.return_, 1) := by decide +kernel
theorem dX2_settle_0 : decode cX2_settle 0 = .ok (.aload_n 0, 1) := by decide +kernel
theorem dX2_settle_1 : decode cX2_settle 1 = .ok (.aload_n 1, 1) := by decide +kernel
theorem dX2_settle_2 : decode cX2_settle 2 = .ok (.getfield 154, 3) := by decide +kernel
theorem dX2_settle_5 : decode cX2_settle 5 = .ok (.iconst 4, 1) := by decide +kernel
theorem dX2_settle_6 : decode cX2_settle 6 = .ok (.irem, 1) := by decide +kernel
theorem dX2_settle_7 : decode cX2_settle 7 = .ok (.invokevirtual 157, 3) := by decide +kernel
theorem dX2_settle_10 : decode cX2_settle 10 = .ok (.astore_n 2, 1) := by decide +kernel
theorem dX2_settle_11 : decode cX2_settle 11 = .ok (.aload_n 2, 1) := by decide +kernel
theorem dX2_settle_12 : decode cX2_settle 12 = .ok (.ifnull 17, 3) := by decide +kernel
theorem dX2_settle_15 : decode cX2_settle 15 = .ok (.aload_n 2, 1) := by decide +kernel
theorem dX2_settle_16 : decode cX2_settle 16 = .ok (.getfield 161, 3) := by decide +kernel
theorem dX2_settle_19 : decode cX2_settle 19 = .ok (.ifCond .ne 10, 3) := by decide +kernel
theorem dX2_settle_22 : decode cX2_settle 22 = .ok (.aload_n 2, 1) := by decide +kernel
theorem dX2_settle_23 : decode cX2_settle 23 = .ok (.invokevirtual 116, 3) := by decide +kernel
theorem dX2_settle_26 : decode cX2_settle 26 = .ok (.goto 81, 3) := by decide +kernel
theorem dX2_settle_29 : decode cX2_settle 29 = .ok (.aload_n 2, 1) := by decide +kernel
theorem dX2_settle_30 : decode cX2_settle 30 = .ok (.ifnull 51, 3) := by decide +kernel
theorem dX2_settle_33 : decode cX2_settle 33 = .ok (.aload_n 0, 1) := by decide +kernel
theorem dX2_settle_34 : decode cX2_settle 34 = .ok (.getfield 56, 3) := by decide +kernel
theorem dX2_settle_37 : decode cX2_settle 37 = .ok (.aload_n 0, 1) := by decide +kernel
theorem dX2_settle_38 : decode cX2_settle 38 = .ok (.getfield 13, 3) := by decide +kernel
theorem dX2_settle_41 : decode cX2_settle 41 = .ok (.iconst 1, 1) := by decide +kernel
theorem dX2_settle_42 : decode cX2_settle 42 = .ok (.iaload, 1) := by decide +kernel
theorem dX2_settle_43 : decode cX2_settle 43 = .ok (.if_icmp .ge 38, 3) := by decide +kernel
theorem dX2_settle_46 : decode cX2_settle 46 = .ok (.aload_n 0, 1) := by decide +kernel
theorem dX2_settle_47 : decode cX2_settle 47 = .ok (.dup, 1) := by decide +kernel
theorem dX2_settle_48 : decode cX2_settle 48 = .ok (.getfield 56, 3) := by decide +kernel
theorem dX2_settle_51 : decode cX2_settle 51 = .ok (.iconst 1, 1) := by decide +kernel
theorem dX2_settle_52 : decode cX2_settle 52 = .ok (.iadd, 1) := by decide +kernel
theorem dX2_settle_53 : decode cX2_settle 53 = .ok (.putfield 56, 3) := by decide +kernel
theorem dX2_settle_56 : decode cX2_settle 56 = .ok (.aload_n 2, 1) := by decide +kernel
theorem dX2_settle_57 : decode cX2_settle 57 = .ok (.iconst 2, 1) := by decide +kernel
theorem dX2_settle_58 : decode cX2_settle 58 = .ok (.putfield 110, 3) := by decide +kernel
theorem dX2_settle_61 : decode cX2_settle 61 = .ok (.aload_n 0, 1) := by decide +kernel
theorem dX2_settle_62 : decode cX2_settle 62 = .ok (.aload_n 2, 1) := by decide +kernel
theorem dX2_settle_63 : decode cX2_settle 63 = .ok (.iconst 1, 1) := by decide +kernel
theorem dX2_settle_64 : decode cX2_settle 64 = .ok (.aload_n 0, 1) := by decide +kernel
theorem dX2_settle_65 : decode cX2_settle 65 = .ok (.getfield 13, 3) := by decide +kernel
theorem dX2_settle_68 : decode cX2_settle 68 = .ok (.iconst 4, 1) := by decide +kernel
theorem dX2_settle_69 : decode cX2_settle 69 = .ok (.iaload, 1) := by decide +kernel
theorem dX2_settle_70 : decode cX2_settle 70 = .ok (.iconst 2, 1) := by decide +kernel
theorem dX2_settle_71 : decode cX2_settle 71 = .ok (.idiv, 1) := by decide +kernel
theorem dX2_settle_72 : decode cX2_settle 72 = .ok (.invokestatic 164, 3) := by decide +kernel
theorem dX2_settle_75 : decode cX2_settle 75 = .ok (.invokevirtual 167, 3) := by decide +kernel
theorem dX2_settle_78 : decode cX2_settle 78 = .ok (.goto 29, 3) := by decide +kernel
theorem dX2_settle_81 : decode cX2_settle 81 = .ok (.aload_n 2, 1) := by decide +kernel
theorem dX2_settle_82 : decode cX2_settle 82 = .ok (.ifnull 25, 3) := by decide +kernel
theorem dX2_settle_85 : decode cX2_settle 85 = .ok (.aload_n 0, 1) := by decide +kernel
theorem dX2_settle_86 : decode cX2_settle 86 = .ok (.getfield 24, 3) := by decide +kernel
theorem dX2_settle_89 : decode cX2_settle 89 = .ok (.iconst 5, 1) := by decide +kernel
theorem dX2_settle_90 : decode cX2_settle 90 = .ok (.dup2, 1) := by decide +kernel
theorem dX2_settle_91 : decode cX2_settle 91 = .ok (.iaload, 1) := by decide +kernel
theorem dX2_settle_92 : decode cX2_settle 92 = .ok (.iconst 1, 1) := by decide +kernel
theorem dX2_settle_93 : decode cX2_settle 93 = .ok (.iadd, 1) := by decide +kernel
theorem dX2_settle_94 : decode cX2_settle 94 = .ok (.iastore, 1) := by decide +kernel
theorem dX2_settle_95 : decode cX2_settle 95 = .ok (.aload_n 2, 1) := by decide +kernel
theorem dX2_settle_96 : decode cX2_settle 96 = .ok (.invokevirtual 116, 3) := by decide +kernel
theorem dX2_settle_99 : decode cX2_settle 99 = .ok (.aload_n 0, 1) := by decide +kernel
theorem dX2_settle_100 : decode cX2_settle 100 = .ok (.bipush 6, 2) := by decide +kernel
theorem dX2_settle_102 : decode cX2_settle 102 = .ok (.ldc 119, 2) := by decide +kernel
theorem dX2_settle_104 : decode cX2_settle 104 = .ok (.invokevirtual 81, 3) := by decide +kernel
theorem dX2_settle_107 : decode cX2_settle 107 = .ok (.aload_n 1, 1) := by decide +kernel
theorem dX2_settle_108 : decode cX2_settle 108 = .ok (.iconst 1, 1) := by decide +kernel
theorem dX2_settle_109 : decode cX2_settle 109 = .ok (.putfield 110, 3) := by decide +kernel
theorem dX2_settle_112 : decode cX2_settle 112 = .ok (.aload_n 1, 1) := by decide +kernel
theorem dX2_settle_113 : decode cX2_settle 113 = .ok (.ldc 62, 2) := by decide +kernel
theorem dX2_settle_115 : decode cX2_settle 115 = .ok (.putfield 113, 3) := by decide +kernel
theorem dX2_settle_118 : decode cX2_settle 118 = .ok (.aload_n 0, 1) := by decide +kernel
theorem dX2_settle_119 : decode cX2_settle 119 = .ok (.aload_n 1, 1) := by decide +kernel
theorem dX2_settle_120 : decode cX2_settle 120 = .ok (.invokevirtual 171, 3) := by decide +kernel
theorem dX2_settle_123 : decode cX2_settle 123 = .ok (.return_, 1) := by decide +kernel
theorem dX2_whoMustGo_0 : decode cX2_whoMustGo 0 = .ok (.iload_n 1, 1) := by decide +kernel
theorem dX2_whoMustGo_1 : decode cX2_whoMustGo 1 = .ok (.ifCond .ge 5, 3) := by decide +kernel
theorem dX2_whoMustGo_4 : decode cX2_whoMustGo 4 = .ok (.aconst_null, 1) := by decide +kernel
theorem dX2_whoMustGo_5 : decode cX2_whoMustGo 5 = .ok (.areturn, 1) := by decide +kernel
theorem dX2_whoMustGo_6 : decode cX2_whoMustGo 6 = .ok (.aconst_null, 1) := by decide +kernel
theorem dX2_whoMustGo_7 : decode cX2_whoMustGo 7 = .ok (.astore_n 2, 1) := by decide +kernel
theorem dX2_whoMustGo_8 : decode cX2_whoMustGo 8 = .ok (.iconst 0, 1) := by decide +kernel
theorem dX2_whoMustGo_9 : decode cX2_whoMustGo 9 = .ok (.istore_n 3, 1) := by decide +kernel
theorem dX2_whoMustGo_10 : decode cX2_whoMustGo 10 = .ok (.iload_n 1, 1) := by decide +kernel
theorem dX2_whoMustGo_11 : decode cX2_whoMustGo 11 = .ok (.istore 4, 2) := by decide +kernel
theorem dX2_whoMustGo_13 : decode cX2_whoMustGo 13 = .ok (.iload 4, 2) := by decide +kernel
theorem dX2_whoMustGo_15 : decode cX2_whoMustGo 15 = .ok (.bipush 16, 2) := by decide +kernel
theorem dX2_whoMustGo_17 : decode cX2_whoMustGo 17 = .ok (.if_icmp .ge 53, 3) := by decide +kernel
theorem dX2_whoMustGo_20 : decode cX2_whoMustGo 20 = .ok (.aload_n 0, 1) := by decide +kernel
theorem dX2_whoMustGo_21 : decode cX2_whoMustGo 21 = .ok (.getfield 29, 3) := by decide +kernel
theorem dX2_whoMustGo_24 : decode cX2_whoMustGo 24 = .ok (.iload 4, 2) := by decide +kernel
theorem dX2_whoMustGo_26 : decode cX2_whoMustGo 26 = .ok (.aaload, 1) := by decide +kernel
theorem dX2_whoMustGo_27 : decode cX2_whoMustGo 27 = .ok (.astore 5, 2) := by decide +kernel
theorem dX2_whoMustGo_29 : decode cX2_whoMustGo 29 = .ok (.aload 5, 2) := by decide +kernel
theorem dX2_whoMustGo_31 : decode cX2_whoMustGo 31 = .ok (.getfield 110, 3) := by decide +kernel
theorem dX2_whoMustGo_34 : decode cX2_whoMustGo 34 = .ok (.iconst 1, 1) := by decide +kernel
theorem dX2_whoMustGo_35 : decode cX2_whoMustGo 35 = .ok (.if_icmp .ne 29, 3) := by decide +kernel
theorem dX2_whoMustGo_38 : decode cX2_whoMustGo 38 = .ok (.iinc 3 1, 3) := by decide +kernel
theorem dX2_whoMustGo_41 : decode cX2_whoMustGo 41 = .ok (.aload_n 2, 1) := by decide +kernel
theorem dX2_whoMustGo_42 : decode cX2_whoMustGo 42 = .ok (.ifnull 15, 3) := by decide +kernel
theorem dX2_whoMustGo_45 : decode cX2_whoMustGo 45 = .ok (.aload 5, 2) := by decide +kernel
theorem dX2_whoMustGo_47 : decode cX2_whoMustGo 47 = .ok (.getfield 174, 3) := by decide +kernel
theorem dX2_whoMustGo_50 : decode cX2_whoMustGo 50 = .ok (.aload_n 2, 1) := by decide +kernel
theorem dX2_whoMustGo_51 : decode cX2_whoMustGo 51 = .ok (.getfield 174, 3) := by decide +kernel
theorem dX2_whoMustGo_54 : decode cX2_whoMustGo 54 = .ok (.if_icmp .ge 8, 3) := by decide +kernel
theorem dX2_whoMustGo_57 : decode cX2_whoMustGo 57 = .ok (.aload 5, 2) := by decide +kernel
theorem dX2_whoMustGo_59 : decode cX2_whoMustGo 59 = .ok (.goto 4, 3) := by decide +kernel
theorem dX2_whoMustGo_62 : decode cX2_whoMustGo 62 = .ok (.aload_n 2, 1) := by decide +kernel
theorem dX2_whoMustGo_63 : decode cX2_whoMustGo 63 = .ok (.astore_n 2, 1) := by decide +kernel
theorem dX2_whoMustGo_64 : decode cX2_whoMustGo 64 = .ok (.iinc 4 4, 3) := by decide +kernel
theorem dX2_whoMustGo_67 : decode cX2_whoMustGo 67 = .ok (.goto (-54), 3) := by decide +kernel
theorem dX2_whoMustGo_70 : decode cX2_whoMustGo 70 = .ok (.iload_n 3, 1) := by decide +kernel
theorem dX2_whoMustGo_71 : decode cX2_whoMustGo 71 = .ok (.aload_n 0, 1) := by decide +kernel
theorem dX2_whoMustGo_72 : decode cX2_whoMustGo 72 = .ok (.getfield 13, 3) := by decide +kernel
theorem dX2_whoMustGo_75 : decode cX2_whoMustGo 75 = .ok (.iconst 0, 1) := by decide +kernel
theorem dX2_whoMustGo_76 : decode cX2_whoMustGo 76 = .ok (.iaload, 1) := by decide +kernel
theorem dX2_whoMustGo_77 : decode cX2_whoMustGo 77 = .ok (.if_icmp .ge 7, 3) := by decide +kernel
theorem dX2_whoMustGo_80 : decode cX2_whoMustGo 80 = .ok (.aconst_null, 1) := by decide +kernel
theorem dX2_whoMustGo_81 : decode cX2_whoMustGo 81 = .ok (.goto 4, 3) := by decide +kernel
theorem dX2_whoMustGo_84 : decode cX2_whoMustGo 84 = .ok (.aload_n 2, 1) := by decide +kernel
theorem dX2_whoMustGo_85 : decode cX2_whoMustGo 85 = .ok (.areturn, 1) := by decide +kernel
theorem dX2_use_0 : decode cX2_use 0 = .ok (.aload_n 0, 1) := by decide +kernel
theorem dX2_use_1 : decode cX2_use 1 = .ok (.dup, 1) := by decide +kernel
theorem dX2_use_2 : decode cX2_use 2 = .ok (.getfield 59, 3) := by decide +kernel
theorem dX2_use_5 : decode cX2_use 5 = .ok (.iconst 1, 1) := by decide +kernel
theorem dX2_use_6 : decode cX2_use 6 = .ok (.iadd, 1) := by decide +kernel
theorem dX2_use_7 : decode cX2_use 7 = .ok (.putfield 59, 3) := by decide +kernel
theorem dX2_use_10 : decode cX2_use 10 = .ok (.aload_n 1, 1) := by decide +kernel
theorem dX2_use_11 : decode cX2_use 11 = .ok (.aload_n 0, 1) := by decide +kernel
theorem dX2_use_12 : decode cX2_use 12 = .ok (.getfield 59, 3) := by decide +kernel
theorem dX2_use_15 : decode cX2_use 15 = .ok (.putfield 174, 3) := by decide +kernel
theorem dX2_use_18 : decode cX2_use 18 = .ok (.return_, 1) := by decide +kernel
theorem dX2_setDue_0 : decode cX2_setDue 0 = .ok (.aload_n 1, 1) := by decide +kernel
theorem dX2_setDue_1 : decode cX2_setDue 1 = .ok (.aload_n 0, 1) := by decide +kernel
theorem dX2_setDue_2 : decode cX2_setDue 2 = .ok (.getfield 24, 3) := by decide +kernel
theorem dX2_setDue_5 : decode cX2_setDue 5 = .ok (.bipush 9, 2) := by decide +kernel
theorem dX2_setDue_7 : decode cX2_setDue 7 = .ok (.iaload, 1) := by decide +kernel
theorem dX2_setDue_8 : decode cX2_setDue 8 = .ok (.iload_n 2, 1) := by decide +kernel
theorem dX2_setDue_9 : decode cX2_setDue 9 = .ok (.iadd, 1) := by decide +kernel
theorem dX2_setDue_10 : decode cX2_setDue 10 = .ok (.putfield 113, 3) := by decide +kernel
theorem dX2_setDue_13 : decode cX2_setDue 13 = .ok (.aload_n 0, 1) := by decide +kernel
theorem dX2_setDue_14 : decode cX2_setDue 14 = .ok (.aload_n 1, 1) := by decide +kernel
theorem dX2_setDue_15 : decode cX2_setDue 15 = .ok (.getfield 113, 3) := by decide +kernel
theorem dX2_setDue_18 : decode cX2_setDue 18 = .ok (.aload_n 0, 1) := by decide +kernel
theorem dX2_setDue_19 : decode cX2_setDue 19 = .ok (.getfield 63, 3) := by decide +kernel
theorem dX2_setDue_22 : decode cX2_setDue 22 = .ok (.if_icmp .ge 10, 3) := by decide +kernel
theorem dX2_setDue_25 : decode cX2_setDue 25 = .ok (.aload_n 1, 1) := by decide +kernel
theorem dX2_setDue_26 : decode cX2_setDue 26 = .ok (.getfield 113, 3) := by decide +kernel
theorem dX2_setDue_29 : decode cX2_setDue 29 = .ok (.goto 7, 3) := by decide +kernel
theorem dX2_setDue_32 : decode cX2_setDue 32 = .ok (.aload_n 0, 1) := by decide +kernel
theorem dX2_setDue_33 : decode cX2_setDue 33 = .ok (.getfield 63, 3) := by decide +kernel
theorem dX2_setDue_36 : decode cX2_setDue 36 = .ok (.putfield 63, 3) := by decide +kernel
theorem dX2_setDue_39 : decode cX2_setDue 39 = .ok (.return_, 1) := by decide +kernel
theorem dX2_ask_0 : decode cX2_ask 0 = .ok (.aload_n 1, 1) := by decide +kernel
theorem dX2_ask_1 : decode cX2_ask 1 = .ok (.getfield 110, 3) := by decide +kernel
theorem dX2_ask_4 : decode cX2_ask 4 = .ok (.iconst 1, 1) := by decide +kernel
theorem dX2_ask_5 : decode cX2_ask 5 = .ok (.if_icmp .ne 18, 3) := by decide +kernel
theorem dX2_ask_8 : decode cX2_ask 8 = .ok (.aload_n 0, 1) := by decide +kernel
theorem dX2_ask_9 : decode cX2_ask 9 = .ok (.aload_n 1, 1) := by decide +kernel
theorem dX2_ask_10 : decode cX2_ask 10 = .ok (.invokevirtual 171, 3) := by decide +kernel
theorem dX2_ask_13 : decode cX2_ask 13 = .ok (.aload_n 0, 1) := by decide +kernel
theorem dX2_ask_14 : decode cX2_ask 14 = .ok (.iconst 0, 1) := by decide +kernel
theorem dX2_ask_15 : decode cX2_ask 15 = .ok (.ldc 177, 2) := by decide +kernel
theorem dX2_ask_17 : decode cX2_ask 17 = .ok (.invokevirtual 81, 3) := by decide +kernel
theorem dX2_ask_20 : decode cX2_ask 20 = .ok (.goto 117, 3) := by decide +kernel
theorem dX2_ask_23 : decode cX2_ask 23 = .ok (.aload_n 1, 1) := by decide +kernel
theorem dX2_ask_24 : decode cX2_ask 24 = .ok (.getfield 110, 3) := by decide +kernel
theorem dX2_ask_27 : decode cX2_ask 27 = .ok (.iconst 2, 1) := by decide +kernel
theorem dX2_ask_28 : decode cX2_ask 28 = .ok (.if_icmp .ne 28, 3) := by decide +kernel
theorem dX2_ask_31 : decode cX2_ask 31 = .ok (.aload_n 0, 1) := by decide +kernel
theorem dX2_ask_32 : decode cX2_ask 32 = .ok (.dup, 1) := by decide +kernel
theorem dX2_ask_33 : decode cX2_ask 33 = .ok (.getfield 56, 3) := by decide +kernel
theorem dX2_ask_36 : decode cX2_ask 36 = .ok (.iconst 1, 1) := by decide +kernel
theorem dX2_ask_37 : decode cX2_ask 37 = .ok (.isub, 1) := by decide +kernel
theorem dX2_ask_38 : decode cX2_ask 38 = .ok (.putfield 56, 3) := by decide +kernel
theorem dX2_ask_41 : decode cX2_ask 41 = .ok (.aload_n 0, 1) := by decide +kernel
theorem dX2_ask_42 : decode cX2_ask 42 = .ok (.aload_n 1, 1) := by decide +kernel
theorem dX2_ask_43 : decode cX2_ask 43 = .ok (.invokevirtual 132, 3) := by decide +kernel
theorem dX2_ask_46 : decode cX2_ask 46 = .ok (.aload_n 0, 1) := by decide +kernel
theorem dX2_ask_47 : decode cX2_ask 47 = .ok (.iconst 3, 1) := by decide +kernel
theorem dX2_ask_48 : decode cX2_ask 48 = .ok (.ldc 178, 2) := by decide +kernel
theorem dX2_ask_50 : decode cX2_ask 50 = .ok (.invokevirtual 81, 3) := by decide +kernel
theorem dX2_ask_53 : decode cX2_ask 53 = .ok (.goto 84, 3) := by decide +kernel
theorem dX2_ask_56 : decode cX2_ask 56 = .ok (.aload_n 1, 1) := by decide +kernel
theorem dX2_ask_57 : decode cX2_ask 57 = .ok (.getfield 110, 3) := by decide +kernel
theorem dX2_ask_60 : decode cX2_ask 60 = .ok (.iconst 3, 1) := by decide +kernel
theorem dX2_ask_61 : decode cX2_ask 61 = .ok (.if_icmp .ne 28, 3) := by decide +kernel
theorem dX2_ask_64 : decode cX2_ask 64 = .ok (.aload_n 1, 1) := by decide +kernel
theorem dX2_ask_65 : decode cX2_ask 65 = .ok (.getfield 135, 3) := by decide +kernel
theorem dX2_ask_68 : decode cX2_ask 68 = .ok (.aload_n 0, 1) := by decide +kernel
theorem dX2_ask_69 : decode cX2_ask 69 = .ok (.getfield 13, 3) := by decide +kernel
theorem dX2_ask_72 : decode cX2_ask 72 = .ok (.iconst 3, 1) := by decide +kernel
theorem dX2_ask_73 : decode cX2_ask 73 = .ok (.iaload, 1) := by decide +kernel
theorem dX2_ask_74 : decode cX2_ask 74 = .ok (.if_icmp .lt 5, 3) := by decide +kernel
theorem dX2_ask_77 : decode cX2_ask 77 = .ok (.iconst 0, 1) := by decide +kernel
theorem dX2_ask_78 : decode cX2_ask 78 = .ok (.ireturn, 1) := by decide +kernel
theorem dX2_ask_79 : decode cX2_ask 79 = .ok (.aload_n 0, 1) := by decide +kernel
theorem dX2_ask_80 : decode cX2_ask 80 = .ok (.iconst 1, 1) := by decide +kernel
theorem dX2_ask_81 : decode cX2_ask 81 = .ok (.ldc 179, 2) := by decide +kernel
theorem dX2_ask_83 : decode cX2_ask 83 = .ok (.invokevirtual 81, 3) := by decide +kernel
theorem dX2_ask_86 : decode cX2_ask 86 = .ok (.goto 51, 3) := by decide +kernel
theorem dX2_ask_89 : decode cX2_ask 89 = .ok (.aload_n 0, 1) := by decide +kernel
theorem dX2_ask_90 : decode cX2_ask 90 = .ok (.getfield 52, 3) := by decide +kernel
theorem dX2_ask_93 : decode cX2_ask 93 = .ok (.aload_n 0, 1) := by decide +kernel
theorem dX2_ask_94 : decode cX2_ask 94 = .ok (.getfield 13, 3) := by decide +kernel
theorem dX2_ask_97 : decode cX2_ask 97 = .ok (.iconst 2, 1) := by decide +kernel
theorem dX2_ask_98 : decode cX2_ask 98 = .ok (.iaload, 1) := by decide +kernel
theorem dX2_ask_99 : decode cX2_ask 99 = .ok (.if_icmp .lt 5, 3) := by decide +kernel
theorem dX2_ask_102 : decode cX2_ask 102 = .ok (.iconst 0, 1) := by decide +kernel
theorem dX2_ask_103 : decode cX2_ask 103 = .ok (.ireturn, 1) := by decide +kernel
theorem dX2_ask_104 : decode cX2_ask 104 = .ok (.aload_n 0, 1) := by decide +kernel
theorem dX2_ask_105 : decode cX2_ask 105 = .ok (.dup, 1) := by decide +kernel
theorem dX2_ask_106 : decode cX2_ask 106 = .ok (.getfield 52, 3) := by decide +kernel
theorem dX2_ask_109 : decode cX2_ask 109 = .ok (.iconst 1, 1) := by decide +kernel
theorem dX2_ask_110 : decode cX2_ask 110 = .ok (.iadd, 1) := by decide +kernel
theorem dX2_ask_111 : decode cX2_ask 111 = .ok (.putfield 52, 3) := by decide +kernel
theorem dX2_ask_114 : decode cX2_ask 114 = .ok (.aload_n 1, 1) := by decide +kernel
theorem dX2_ask_115 : decode cX2_ask 115 = .ok (.iconst 3, 1) := by decide +kernel
theorem dX2_ask_116 : decode cX2_ask 116 = .ok (.putfield 110, 3) := by decide +kernel
theorem dX2_ask_119 : decode cX2_ask 119 = .ok (.aload_n 0, 1) := by decide +kernel
theorem dX2_ask_120 : decode cX2_ask 120 = .ok (.aload_n 1, 1) := by decide +kernel
theorem dX2_ask_121 : decode cX2_ask 121 = .ok (.aload_n 0, 1) := by decide +kernel
theorem dX2_ask_122 : decode cX2_ask 122 = .ok (.getfield 13, 3) := by decide +kernel
theorem dX2_ask_125 : decode cX2_ask 125 = .ok (.iconst 4, 1) := by decide +kernel
theorem dX2_ask_126 : decode cX2_ask 126 = .ok (.iaload, 1) := by decide +kernel
theorem dX2_ask_127 : decode cX2_ask 127 = .ok (.invokevirtual 167, 3) := by decide +kernel
theorem dX2_ask_130 : decode cX2_ask 130 = .ok (.aload_n 0, 1) := by decide +kernel
theorem dX2_ask_131 : decode cX2_ask 131 = .ok (.iconst 2, 1) := by decide +kernel
theorem dX2_ask_132 : decode cX2_ask 132 = .ok (.ldc 180, 2) := by decide +kernel
theorem dX2_ask_134 : decode cX2_ask 134 = .ok (.invokevirtual 81, 3) := by decide +kernel
theorem dX2_ask_137 : decode cX2_ask 137 = .ok (.aload_n 0, 1) := by decide +kernel
theorem dX2_ask_138 : decode cX2_ask 138 = .ok (.aload_n 1, 1) := by decide +kernel
theorem dX2_ask_139 : decode cX2_ask 139 = .ok (.iload_n 2, 1) := by decide +kernel
theorem dX2_ask_140 : decode cX2_ask 140 = .ok (.iload_n 3, 1) := by decide +kernel
theorem dX2_ask_141 : decode cX2_ask 141 = .ok (.invokevirtual 181, 3) := by decide +kernel
theorem dX2_ask_144 : decode cX2_ask 144 = .ok (.iconst 1, 1) := by decide +kernel
theorem dX2_ask_145 : decode cX2_ask 145 = .ok (.ireturn, 1) := by decide +kernel
theorem dX2_takeAsker_0 : decode cX2_takeAsker 0 = .ok (.iconst (-1), 1) := by decide +kernel
theorem dX2_takeAsker_1 : decode cX2_takeAsker 1 = .ok (.istore 4, 2) := by decide +kernel
theorem dX2_takeAsker_3 : decode cX2_takeAsker 3 = .ok (.iload_n 3, 1) := by decide +kernel
theorem dX2_takeAsker_4 : decode cX2_takeAsker 4 = .ok (.iconst (-1), 1) := by decide +kernel
theorem dX2_takeAsker_5 : decode cX2_takeAsker 5 = .ok (.if_icmp .ne 30, 3) := by decide +kernel
theorem dX2_takeAsker_8 : decode cX2_takeAsker 8 = .ok (.aload_n 0, 1) := by decide +kernel
theorem dX2_takeAsker_9 : decode cX2_takeAsker 9 = .ok (.getfield 24, 3) := by decide +kernel
theorem dX2_takeAsker_12 : decode cX2_takeAsker 12 = .ok (.bipush 7, 2) := by decide +kernel
theorem dX2_takeAsker_14 : decode cX2_takeAsker 14 = .ok (.dup2, 1) := by decide +kernel
theorem dX2_takeAsker_15 : decode cX2_takeAsker 15 = .ok (.iaload, 1) := by decide +kernel
theorem dX2_takeAsker_16 : decode cX2_takeAsker 16 = .ok (.iconst 1, 1) := by decide +kernel
theorem dX2_takeAsker_17 : decode cX2_takeAsker 17 = .ok (.iadd, 1) := by decide +kernel
theorem dX2_takeAsker_18 : decode cX2_takeAsker 18 = .ok (.iastore, 1) := by decide +kernel
theorem dX2_takeAsker_19 : decode cX2_takeAsker 19 = .ok (.aload_n 0, 1) := by decide +kernel
theorem dX2_takeAsker_20 : decode cX2_takeAsker 20 = .ok (.getfield 39, 3) := by decide +kernel
theorem dX2_takeAsker_23 : decode cX2_takeAsker 23 = .ok (.aload_n 0, 1) := by decide +kernel
theorem dX2_takeAsker_24 : decode cX2_takeAsker 24 = .ok (.getfield 24, 3) := by decide +kernel
theorem dX2_takeAsker_27 : decode cX2_takeAsker 27 = .ok (.bipush 9, 2) := by decide +kernel
theorem dX2_takeAsker_29 : decode cX2_takeAsker 29 = .ok (.iaload, 1) := by decide +kernel
theorem dX2_takeAsker_30 : decode cX2_takeAsker 30 = .ok (.invokevirtual 185, 3) := by decide +kernel
theorem dX2_takeAsker_33 : decode cX2_takeAsker 33 = .ok (.istore 4, 2) := by decide +kernel
theorem dX2_takeAsker_35 : decode cX2_takeAsker 35 = .ok (.aload_n 1, 1) := by decide +kernel
theorem dX2_takeAsker_36 : decode cX2_takeAsker 36 = .ok (.getfield 110, 3) := by decide +kernel
theorem dX2_takeAsker_39 : decode cX2_takeAsker 39 = .ok (.iconst 1, 1) := by decide +kernel
theorem dX2_takeAsker_40 : decode cX2_takeAsker 40 = .ok (.if_icmp .ne 22, 3) := by decide +kernel
theorem dX2_takeAsker_43 : decode cX2_takeAsker 43 = .ok (.aload_n 0, 1) := by decide +kernel
theorem dX2_takeAsker_44 : decode cX2_takeAsker 44 = .ok (.aload_n 1, 1) := by decide +kernel
theorem dX2_takeAsker_45 : decode cX2_takeAsker 45 = .ok (.iload_n 2, 1) := by decide +kernel
theorem dX2_takeAsker_46 : decode cX2_takeAsker 46 = .ok (.iload_n 3, 1) := by decide +kernel
theorem dX2_takeAsker_47 : decode cX2_takeAsker 47 = .ok (.iload 4, 2) := by decide +kernel
theorem dX2_takeAsker_49 : decode cX2_takeAsker 49 = .ok (.aload_n 0, 1) := by decide +kernel
theorem dX2_takeAsker_50 : decode cX2_takeAsker 50 = .ok (.getfield 24, 3) := by decide +kernel
theorem dX2_takeAsker_53 : decode cX2_takeAsker 53 = .ok (.bipush 9, 2) := by decide +kernel
theorem dX2_takeAsker_55 : decode cX2_takeAsker 55 = .ok (.iaload, 1) := by decide +kernel
theorem dX2_takeAsker_56 : decode cX2_takeAsker 56 = .ok (.invokevirtual 150, 3) := by decide +kernel
theorem dX2_takeAsker_59 : decode cX2_takeAsker 59 = .ok (.goto 18, 3) := by decide +kernel
theorem dX2_takeAsker_62 : decode cX2_takeAsker 62 = .ok (.aload_n 1, 1) := by decide +kernel
theorem dX2_takeAsker_63 : decode cX2_takeAsker 63 = .ok (.iload_n 2, 1) := by decide +kernel
theorem dX2_takeAsker_64 : decode cX2_takeAsker 64 = .ok (.iload_n 3, 1) := by decide +kernel
theorem dX2_takeAsker_65 : decode cX2_takeAsker 65 = .ok (.iload 4, 2) := by decide +kernel
theorem dX2_takeAsker_67 : decode cX2_takeAsker 67 = .ok (.aload_n 0, 1) := by decide +kernel
theorem dX2_takeAsker_68 : decode cX2_takeAsker 68 = .ok (.getfield 24, 3) := by decide +kernel
theorem dX2_takeAsker_71 : decode cX2_takeAsker 71 = .ok (.bipush 9, 2) := by decide +kernel
theorem dX2_takeAsker_73 : decode cX2_takeAsker 73 = .ok (.iaload, 1) := by decide +kernel
theorem dX2_takeAsker_74 : decode cX2_takeAsker 74 = .ok (.invokevirtual 189, 3) := by decide +kernel
theorem dX2_takeAsker_77 : decode cX2_takeAsker 77 = .ok (.return_, 1) := by decide +kernel
theorem dX2_serve_0 : decode cX2_serve 0 = .ok (.iload_n 3, 1) := by decide +kernel
theorem dX2_serve_1 : decode cX2_serve 1 = .ok (.iconst (-1), 1) := by decide +kernel
theorem dX2_serve_2 : decode cX2_serve 2 = .ok (.if_icmp .ne 41, 3) := by decide +kernel
theorem dX2_serve_5 : decode cX2_serve 5 = .ok (.aload_n 0, 1) := by decide +kernel
theorem dX2_serve_6 : decode cX2_serve 6 = .ok (.getfield 24, 3) := by decide +kernel
theorem dX2_serve_9 : decode cX2_serve 9 = .ok (.bipush 8, 2) := by decide +kernel
theorem dX2_serve_11 : decode cX2_serve 11 = .ok (.dup2, 1) := by decide +kernel
theorem dX2_serve_12 : decode cX2_serve 12 = .ok (.iaload, 1) := by decide +kernel
theorem dX2_serve_13 : decode cX2_serve 13 = .ok (.iconst 1, 1) := by decide +kernel
theorem dX2_serve_14 : decode cX2_serve 14 = .ok (.iadd, 1) := by decide +kernel
theorem dX2_serve_15 : decode cX2_serve 15 = .ok (.iastore, 1) := by decide +kernel
theorem dX2_serve_16 : decode cX2_serve 16 = .ok (.aload_n 0, 1) := by decide +kernel
theorem dX2_serve_17 : decode cX2_serve 17 = .ok (.getfield 39, 3) := by decide +kernel
theorem dX2_serve_20 : decode cX2_serve 20 = .ok (.iload 4, 2) := by decide +kernel
theorem dX2_serve_22 : decode cX2_serve 22 = .ok (.aload_n 1, 1) := by decide +kernel
theorem dX2_serve_23 : decode cX2_serve 23 = .ok (.iload_n 2, 1) := by decide +kernel
theorem dX2_serve_24 : decode cX2_serve 24 = .ok (.invokevirtual 193, 3) := by decide +kernel
theorem dX2_serve_27 : decode cX2_serve 27 = .ok (.aload_n 0, 1) := by decide +kernel
theorem dX2_serve_28 : decode cX2_serve 28 = .ok (.getfield 24, 3) := by decide +kernel
theorem dX2_serve_31 : decode cX2_serve 31 = .ok (.bipush 9, 2) := by decide +kernel
theorem dX2_serve_33 : decode cX2_serve 33 = .ok (.iaload, 1) := by decide +kernel
theorem dX2_serve_34 : decode cX2_serve 34 = .ok (.iload 5, 2) := by decide +kernel
theorem dX2_serve_36 : decode cX2_serve 36 = .ok (.isub, 1) := by decide +kernel
theorem dX2_serve_37 : decode cX2_serve 37 = .ok (.invokevirtual 196, 3) := by decide +kernel
theorem dX2_serve_40 : decode cX2_serve 40 = .ok (.goto 9, 3) := by decide +kernel
theorem dX2_serve_43 : decode cX2_serve 43 = .ok (.aload_n 1, 1) := by decide +kernel
theorem dX2_serve_44 : decode cX2_serve 44 = .ok (.iload_n 2, 1) := by decide +kernel
theorem dX2_serve_45 : decode cX2_serve 45 = .ok (.iload_n 3, 1) := by decide +kernel
theorem dX2_serve_46 : decode cX2_serve 46 = .ok (.invokevirtual 200, 3) := by decide +kernel
theorem dX2_serve_49 : decode cX2_serve 49 = .ok (.return_, 1) := by decide +kernel
theorem dX2_boxInPlace_0 : decode cX2_boxInPlace 0 = .ok (.iload_n 1, 1) := by decide +kernel
theorem dX2_boxInPlace_1 : decode cX2_boxInPlace 1 = .ok (.ifCond .ge 5, 3) := by decide +kernel
theorem dX2_boxInPlace_4 : decode cX2_boxInPlace 4 = .ok (.iconst (-1), 1) := by decide +kernel
theorem dX2_boxInPlace_5 : decode cX2_boxInPlace 5 = .ok (.ireturn, 1) := by decide +kernel
theorem dX2_boxInPlace_6 : decode cX2_boxInPlace 6 = .ok (.iload_n 1, 1) := by decide +kernel
theorem dX2_boxInPlace_7 : decode cX2_boxInPlace 7 = .ok (.istore_n 3, 1) := by decide +kernel
theorem dX2_boxInPlace_8 : decode cX2_boxInPlace 8 = .ok (.iload_n 3, 1) := by decide +kernel
theorem dX2_boxInPlace_9 : decode cX2_boxInPlace 9 = .ok (.bipush 16, 2) := by decide +kernel
theorem dX2_boxInPlace_11 : decode cX2_boxInPlace 11 = .ok (.if_icmp .ge 95, 3) := by decide +kernel
theorem dX2_boxInPlace_14 : decode cX2_boxInPlace 14 = .ok (.iconst 0, 1) := by decide +kernel
theorem dX2_boxInPlace_15 : decode cX2_boxInPlace 15 = .ok (.istore 4, 2) := by decide +kernel
theorem dX2_boxInPlace_17 : decode cX2_boxInPlace 17 = .ok (.iload_n 1, 1) := by decide +kernel
theorem dX2_boxInPlace_18 : decode cX2_boxInPlace 18 = .ok (.istore 5, 2) := by decide +kernel
theorem dX2_boxInPlace_20 : decode cX2_boxInPlace 20 = .ok (.iload 5, 2) := by decide +kernel
theorem dX2_boxInPlace_22 : decode cX2_boxInPlace 22 = .ok (.bipush 16, 2) := by decide +kernel
theorem dX2_boxInPlace_24 : decode cX2_boxInPlace 24 = .ok (.if_icmp .ge 55, 3) := by decide +kernel
theorem dX2_boxInPlace_27 : decode cX2_boxInPlace 27 = .ok (.iload 4, 2) := by decide +kernel
theorem dX2_boxInPlace_29 : decode cX2_boxInPlace 29 = .ok (.aload_n 0, 1) := by decide +kernel
theorem dX2_boxInPlace_30 : decode cX2_boxInPlace 30 = .ok (.getfield 29, 3) := by decide +kernel
theorem dX2_boxInPlace_33 : decode cX2_boxInPlace 33 = .ok (.iload 5, 2) := by decide +kernel
theorem dX2_boxInPlace_35 : decode cX2_boxInPlace 35 = .ok (.aaload, 1) := by decide +kernel
theorem dX2_boxInPlace_36 : decode cX2_boxInPlace 36 = .ok (.getfield 110, 3) := by decide +kernel
theorem dX2_boxInPlace_39 : decode cX2_boxInPlace 39 = .ok (.iconst 1, 1) := by decide +kernel
theorem dX2_boxInPlace_40 : decode cX2_boxInPlace 40 = .ok (.if_icmp .ne 29, 3) := by decide +kernel
theorem dX2_boxInPlace_43 : decode cX2_boxInPlace 43 = .ok (.aload_n 0, 1) := by decide +kernel
theorem dX2_boxInPlace_44 : decode cX2_boxInPlace 44 = .ok (.getfield 29, 3) := by decide +kernel
theorem dX2_boxInPlace_47 : decode cX2_boxInPlace 47 = .ok (.iload 5, 2) := by decide +kernel
theorem dX2_boxInPlace_49 : decode cX2_boxInPlace 49 = .ok (.aaload, 1) := by decide +kernel
theorem dX2_boxInPlace_50 : decode cX2_boxInPlace 50 = .ok (.getfield 174, 3) := by decide +kernel
theorem dX2_boxInPlace_53 : decode cX2_boxInPlace 53 = .ok (.aload_n 0, 1) := by decide +kernel
theorem dX2_boxInPlace_54 : decode cX2_boxInPlace 54 = .ok (.getfield 29, 3) := by decide +kernel
theorem dX2_boxInPlace_57 : decode cX2_boxInPlace 57 = .ok (.iload_n 3, 1) := by decide +kernel
theorem dX2_boxInPlace_58 : decode cX2_boxInPlace 58 = .ok (.aaload, 1) := by decide +kernel
theorem dX2_boxInPlace_59 : decode cX2_boxInPlace 59 = .ok (.getfield 174, 3) := by decide +kernel
theorem dX2_boxInPlace_62 : decode cX2_boxInPlace 62 = .ok (.if_icmp .le 7, 3) := by decide +kernel
theorem dX2_boxInPlace_65 : decode cX2_boxInPlace 65 = .ok (.iconst 1, 1) := by decide +kernel
theorem dX2_boxInPlace_66 : decode cX2_boxInPlace 66 = .ok (.goto 4, 3) := by decide +kernel
theorem dX2_boxInPlace_69 : decode cX2_boxInPlace 69 = .ok (.iconst 0, 1) := by decide +kernel
theorem dX2_boxInPlace_70 : decode cX2_boxInPlace 70 = .ok (.iadd, 1) := by decide +kernel
theorem dX2_boxInPlace_71 : decode cX2_boxInPlace 71 = .ok (.istore 4, 2) := by decide +kernel
theorem dX2_boxInPlace_73 : decode cX2_boxInPlace 73 = .ok (.iinc 5 4, 3) := by decide +kernel
theorem dX2_boxInPlace_76 : decode cX2_boxInPlace 76 = .ok (.goto (-56), 3) := by decide +kernel
theorem dX2_boxInPlace_79 : decode cX2_boxInPlace 79 = .ok (.aload_n 0, 1) := by decide +kernel
theorem dX2_boxInPlace_80 : decode cX2_boxInPlace 80 = .ok (.getfield 29, 3) := by decide +kernel
theorem dX2_boxInPlace_83 : decode cX2_boxInPlace 83 = .ok (.iload_n 3, 1) := by decide +kernel
theorem dX2_boxInPlace_84 : decode cX2_boxInPlace 84 = .ok (.aaload, 1) := by decide +kernel
theorem dX2_boxInPlace_85 : decode cX2_boxInPlace 85 = .ok (.getfield 110, 3) := by decide +kernel
theorem dX2_boxInPlace_88 : decode cX2_boxInPlace 88 = .ok (.iconst 1, 1) := by decide +kernel
theorem dX2_boxInPlace_89 : decode cX2_boxInPlace 89 = .ok (.if_icmp .ne 11, 3) := by decide +kernel
theorem dX2_boxInPlace_92 : decode cX2_boxInPlace 92 = .ok (.iload 4, 2) := by decide +kernel
theorem dX2_boxInPlace_94 : decode cX2_boxInPlace 94 = .ok (.iload_n 2, 1) := by decide +kernel
theorem dX2_boxInPlace_95 : decode cX2_boxInPlace 95 = .ok (.if_icmp .ne 5, 3) := by decide +kernel
theorem dX2_boxInPlace_98 : decode cX2_boxInPlace 98 = .ok (.iload_n 3, 1) := by decide +kernel
theorem dX2_boxInPlace_99 : decode cX2_boxInPlace 99 = .ok (.ireturn, 1) := by decide +kernel
theorem dX2_boxInPlace_100 : decode cX2_boxInPlace 100 = .ok (.iinc 3 4, 3) := by decide +kernel
theorem dX2_boxInPlace_103 : decode cX2_boxInPlace 103 = .ok (.goto (-95), 3) := by decide +kernel
theorem dX2_boxInPlace_106 : decode cX2_boxInPlace 106 = .ok (.iconst (-1), 1) := by decide +kernel
theorem dX2_boxInPlace_107 : decode cX2_boxInPlace 107 = .ok (.ireturn, 1) := by decide +kernel
theorem dX2_boxOfFetch_0 : decode cX2_boxOfFetch 0 = .ok (.aload_n 0, 1) := by decide +kernel
theorem dX2_boxOfFetch_1 : decode cX2_boxOfFetch 1 = .ok (.getfield 29, 3) := by decide +kernel
theorem dX2_boxOfFetch_4 : decode cX2_boxOfFetch 4 = .ok (.astore_n 2, 1) := by decide +kernel
theorem dX2_boxOfFetch_5 : decode cX2_boxOfFetch 5 = .ok (.aload_n 2, 1) := by decide +kernel
theorem dX2_boxOfFetch_6 : decode cX2_boxOfFetch 6 = .ok (.arraylength, 1) := by decide +kernel
theorem dX2_boxOfFetch_7 : decode cX2_boxOfFetch 7 = .ok (.istore_n 3, 1) := by decide +kernel
theorem dX2_boxOfFetch_8 : decode cX2_boxOfFetch 8 = .ok (.iconst 0, 1) := by decide +kernel
theorem dX2_boxOfFetch_9 : decode cX2_boxOfFetch 9 = .ok (.istore 4, 2) := by decide +kernel
theorem dX2_boxOfFetch_11 : decode cX2_boxOfFetch 11 = .ok (.iload 4, 2) := by decide +kernel
theorem dX2_boxOfFetch_13 : decode cX2_boxOfFetch 13 = .ok (.iload_n 3, 1) := by decide +kernel
theorem dX2_boxOfFetch_14 : decode cX2_boxOfFetch 14 = .ok (.if_icmp .ge 102, 3) := by decide +kernel
theorem dX2_boxOfFetch_17 : decode cX2_boxOfFetch 17 = .ok (.aload_n 2, 1) := by decide +kernel
theorem dX2_boxOfFetch_18 : decode cX2_boxOfFetch 18 = .ok (.iload 4, 2) := by decide +kernel
theorem dX2_boxOfFetch_20 : decode cX2_boxOfFetch 20 = .ok (.aaload, 1) := by decide +kernel
theorem dX2_boxOfFetch_21 : decode cX2_boxOfFetch 21 = .ok (.astore 5, 2) := by decide +kernel
theorem dX2_boxOfFetch_23 : decode cX2_boxOfFetch 23 = .ok (.iconst 0, 1) := by decide +kernel
theorem dX2_boxOfFetch_24 : decode cX2_boxOfFetch 24 = .ok (.istore 6, 2) := by decide +kernel
theorem dX2_boxOfFetch_26 : decode cX2_boxOfFetch 26 = .ok (.aload_n 0, 1) := by decide +kernel
theorem dX2_boxOfFetch_27 : decode cX2_boxOfFetch 27 = .ok (.getfield 29, 3) := by decide +kernel
theorem dX2_boxOfFetch_30 : decode cX2_boxOfFetch 30 = .ok (.astore 7, 2) := by decide +kernel
theorem dX2_boxOfFetch_32 : decode cX2_boxOfFetch 32 = .ok (.aload 7, 2) := by decide +kernel
theorem dX2_boxOfFetch_34 : decode cX2_boxOfFetch 34 = .ok (.arraylength, 1) := by decide +kernel
theorem dX2_boxOfFetch_35 : decode cX2_boxOfFetch 35 = .ok (.istore 8, 2) := by decide +kernel
theorem dX2_boxOfFetch_37 : decode cX2_boxOfFetch 37 = .ok (.iconst 0, 1) := by decide +kernel
theorem dX2_boxOfFetch_38 : decode cX2_boxOfFetch 38 = .ok (.istore 9, 2) := by decide +kernel
theorem dX2_boxOfFetch_40 : decode cX2_boxOfFetch 40 = .ok (.iload 9, 2) := by decide +kernel
theorem dX2_boxOfFetch_42 : decode cX2_boxOfFetch 42 = .ok (.iload 8, 2) := by decide +kernel
theorem dX2_boxOfFetch_44 : decode cX2_boxOfFetch 44 = .ok (.if_icmp .ge 48, 3) := by decide +kernel
theorem dX2_boxOfFetch_47 : decode cX2_boxOfFetch 47 = .ok (.aload 7, 2) := by decide +kernel
theorem dX2_boxOfFetch_49 : decode cX2_boxOfFetch 49 = .ok (.iload 9, 2) := by decide +kernel
theorem dX2_boxOfFetch_51 : decode cX2_boxOfFetch 51 = .ok (.aaload, 1) := by decide +kernel
theorem dX2_boxOfFetch_52 : decode cX2_boxOfFetch 52 = .ok (.astore 10, 2) := by decide +kernel
theorem dX2_boxOfFetch_54 : decode cX2_boxOfFetch 54 = .ok (.iload 6, 2) := by decide +kernel
theorem dX2_boxOfFetch_56 : decode cX2_boxOfFetch 56 = .ok (.aload 10, 2) := by decide +kernel
theorem dX2_boxOfFetch_58 : decode cX2_boxOfFetch 58 = .ok (.getfield 110, 3) := by decide +kernel
theorem dX2_boxOfFetch_61 : decode cX2_boxOfFetch 61 = .ok (.iconst 3, 1) := by decide +kernel
theorem dX2_boxOfFetch_62 : decode cX2_boxOfFetch 62 = .ok (.if_icmp .ne 20, 3) := by decide +kernel
theorem dX2_boxOfFetch_65 : decode cX2_boxOfFetch 65 = .ok (.aload 10, 2) := by decide +kernel
theorem dX2_boxOfFetch_67 : decode cX2_boxOfFetch 67 = .ok (.getfield 113, 3) := by decide +kernel
theorem dX2_boxOfFetch_70 : decode cX2_boxOfFetch 70 = .ok (.aload 5, 2) := by decide +kernel
theorem dX2_boxOfFetch_72 : decode cX2_boxOfFetch 72 = .ok (.getfield 113, 3) := by decide +kernel
theorem dX2_boxOfFetch_75 : decode cX2_boxOfFetch 75 = .ok (.if_icmp .ge 7, 3) := by decide +kernel
theorem dX2_boxOfFetch_78 : decode cX2_boxOfFetch 78 = .ok (.iconst 1, 1) := by decide +kernel
theorem dX2_boxOfFetch_79 : decode cX2_boxOfFetch 79 = .ok (.goto 4, 3) := by decide +kernel
theorem dX2_boxOfFetch_82 : decode cX2_boxOfFetch 82 = .ok (.iconst 0, 1) := by decide +kernel
theorem dX2_boxOfFetch_83 : decode cX2_boxOfFetch 83 = .ok (.iadd, 1) := by decide +kernel
theorem dX2_boxOfFetch_84 : decode cX2_boxOfFetch 84 = .ok (.istore 6, 2) := by decide +kernel
theorem dX2_boxOfFetch_86 : decode cX2_boxOfFetch 86 = .ok (.iinc 9 1, 3) := by decide +kernel
theorem dX2_boxOfFetch_89 : decode cX2_boxOfFetch 89 = .ok (.goto (-49), 3) := by decide +kernel
theorem dX2_boxOfFetch_92 : decode cX2_boxOfFetch 92 = .ok (.aload 5, 2) := by decide +kernel
theorem dX2_boxOfFetch_94 : decode cX2_boxOfFetch 94 = .ok (.getfield 110, 3) := by decide +kernel
theorem dX2_boxOfFetch_97 : decode cX2_boxOfFetch 97 = .ok (.iconst 3, 1) := by decide +kernel
theorem dX2_boxOfFetch_98 : decode cX2_boxOfFetch 98 = .ok (.if_icmp .ne 12, 3) := by decide +kernel
theorem dX2_boxOfFetch_101 : decode cX2_boxOfFetch 101 = .ok (.iload 6, 2) := by decide +kernel
theorem dX2_boxOfFetch_103 : decode cX2_boxOfFetch 103 = .ok (.iload_n 1, 1) := by decide +kernel
theorem dX2_boxOfFetch_104 : decode cX2_boxOfFetch 104 = .ok (.if_icmp .ne 6, 3) := by decide +kernel
theorem dX2_boxOfFetch_107 : decode cX2_boxOfFetch 107 = .ok (.aload 5, 2) := by decide +kernel
theorem dX2_boxOfFetch_109 : decode cX2_boxOfFetch 109 = .ok (.areturn, 1) := by decide +kernel
theorem dX2_boxOfFetch_110 : decode cX2_boxOfFetch 110 = .ok (.iinc 4 1, 3) := by decide +kernel
theorem dX2_boxOfFetch_113 : decode cX2_boxOfFetch 113 = .ok (.goto (-102), 3) := by decide +kernel
theorem dX2_boxOfFetch_116 : decode cX2_boxOfFetch 116 = .ok (.aconst_null, 1) := by decide +kernel
theorem dX2_boxOfFetch_117 : decode cX2_boxOfFetch 117 = .ok (.areturn, 1) := by decide +kernel
theorem dX3_init_0 : decode cX3_init 0 = .ok (.aload_n 0, 1) := by decide +kernel
theorem dX3_init_1 : decode cX3_init 1 = .ok (.invokespecial 3, 3) := by decide +kernel
theorem dX3_init_4 : decode cX3_init 4 = .ok (.aload_n 0, 1) := by decide +kernel
theorem dX3_init_5 : decode cX3_init 5 = .ok (.bipush 120, 2) := by decide +kernel
theorem dX3_init_7 : decode cX3_init 7 = .ok (.newarray .int, 2) := by decide +kernel
theorem dX3_init_9 : decode cX3_init 9 = .ok (.putfield 9, 3) := by decide +kernel
theorem dX3_init_12 : decode cX3_init 12 = .ok (.aload_n 0, 1) := by decide +kernel
theorem dX3_init_13 : decode cX3_init 13 = .ok (.bipush 60, 2) := by decide +kernel
theorem dX3_init_15 : decode cX3_init 15 = .ok (.newarray .int, 2) := by decide +kernel
theorem dX3_init_17 : decode cX3_init 17 = .ok (.putfield 15, 3) := by decide +kernel
theorem dX3_init_20 : decode cX3_init 20 = .ok (.aload_n 0, 1) := by decide +kernel
theorem dX3_init_21 : decode cX3_init 21 = .ok (.bipush 60, 2) := by decide +kernel
theorem dX3_init_23 : decode cX3_init 23 = .ok (.newarray .int, 2) := by decide +kernel
theorem dX3_init_25 : decode cX3_init 25 = .ok (.putfield 18, 3) := by decide +kernel
theorem dX3_init_28 : decode cX3_init 28 = .ok (.aload_n 0, 1) := by decide +kernel
theorem dX3_init_29 : decode cX3_init 29 = .ok (.bipush 60, 2) := by decide +kernel
theorem dX3_init_31 : decode cX3_init 31 = .ok (.newarray .int, 2) := by decide +kernel
theorem dX3_init_33 : decode cX3_init 33 = .ok (.putfield 21, 3) := by decide +kernel
theorem dX3_init_36 : decode cX3_init 36 = .ok (.return_, 1) := by decide +kernel
theorem dX3_readOrders_0 : decode cX3_readOrders 0 = .ok (.aload_n 0, 1) := by decide +kernel
theorem dX3_readOrders_1 : decode cX3_readOrders 1 = .ok (.iconst 0, 1) := by decide +kernel
theorem dX3_readOrders_2 : decode cX3_readOrders 2 = .ok (.putfield 24, 3) := by decide +kernel
theorem dX3_readOrders_5 : decode cX3_readOrders 5 = .ok (.aload_n 0, 1) := by decide +kernel
theorem dX3_readOrders_6 : decode cX3_readOrders 6 = .ok (.iconst 0, 1) := by decide +kernel
theorem dX3_readOrders_7 : decode cX3_readOrders 7 = .ok (.putfield 28, 3) := by decide +kernel
theorem dX3_readOrders_10 : decode cX3_readOrders 10 = .ok (.aload_n 0, 1) := by decide +kernel
theorem dX3_readOrders_11 : decode cX3_readOrders 11 = .ok (.iconst (-1), 1) := by decide +kernel
theorem dX3_readOrders_12 : decode cX3_readOrders 12 = .ok (.putfield 31, 3) := by decide +kernel
theorem dX3_readOrders_15 : decode cX3_readOrders 15 = .ok (.aload_n 0, 1) := by decide +kernel
theorem dX3_readOrders_16 : decode cX3_readOrders 16 = .ok (.invokevirtual 34, 3) := by decide +kernel
theorem dX3_readOrders_19 : decode cX3_readOrders 19 = .ok (.ifCond .ge 11, 3) := by decide +kernel
theorem dX3_readOrders_22 : decode cX3_readOrders 22 = .ok (.aload_n 0, 1) := by decide +kernel
theorem dX3_readOrders_23 : decode cX3_readOrders 23 = .ok (.aload_n 0, 1) := by decide +kernel
theorem dX3_readOrders_24 : decode cX3_readOrders 24 = .ok (.getfield 28, 3) := by decide +kernel
theorem dX3_readOrders_27 : decode cX3_readOrders 27 = .ok (.putfield 31, 3) := by decide +kernel
theorem dX3_readOrders_30 : decode cX3_readOrders 30 = .ok (.iconst 0, 1) := by decide +kernel
theorem dX3_readOrders_31 : decode cX3_readOrders 31 = .ok (.istore_n 1, 1) := by decide +kernel
theorem dX3_readOrders_32 : decode cX3_readOrders 32 = .ok (.iload_n 1, 1) := by decide +kernel
theorem dX3_readOrders_33 : decode cX3_readOrders 33 = .ok (.bipush 120, 2) := by decide +kernel
theorem dX3_readOrders_35 : decode cX3_readOrders 35 = .ok (.if_icmp .ge 28, 3) := by decide +kernel
theorem dX3_readOrders_38 : decode cX3_readOrders 38 = .ok (.aload_n 0, 1) := by decide +kernel
theorem dX3_readOrders_39 : decode cX3_readOrders 39 = .ok (.getfield 31, 3) := by decide +kernel
theorem dX3_readOrders_42 : decode cX3_readOrders 42 = .ok (.iconst (-1), 1) := by decide +kernel
theorem dX3_readOrders_43 : decode cX3_readOrders 43 = .ok (.if_icmp .ne 20, 3) := by decide +kernel
theorem dX3_readOrders_46 : decode cX3_readOrders 46 = .ok (.aload_n 0, 1) := by decide +kernel
theorem dX3_readOrders_47 : decode cX3_readOrders 47 = .ok (.invokevirtual 34, 3) := by decide +kernel
theorem dX3_readOrders_50 : decode cX3_readOrders 50 = .ok (.ifCond .lt 13, 3) := by decide +kernel
theorem dX3_readOrders_53 : decode cX3_readOrders 53 = .ok (.aload_n 0, 1) := by decide +kernel
theorem dX3_readOrders_54 : decode cX3_readOrders 54 = .ok (.invokevirtual 38, 3) := by decide +kernel
theorem dX3_readOrders_57 : decode cX3_readOrders 57 = .ok (.iinc 1 1, 3) := by decide +kernel
theorem dX3_readOrders_60 : decode cX3_readOrders 60 = .ok (.goto (-28), 3) := by decide +kernel
theorem dX3_readOrders_63 : decode cX3_readOrders 63 = .ok (.aload_n 0, 1) := by decide +kernel
theorem dX3_readOrders_64 : decode cX3_readOrders 64 = .ok (.getfield 31, 3) := by decide +kernel
theorem dX3_readOrders_67 : decode cX3_readOrders 67 = .ok (.ireturn, 1) := by decide +kernel
theorem dX3_peek_0 : decode cX3_peek 0 = .ok (.iconst 0, 1) := by decide +kernel
theorem dX3_peek_1 : decode cX3_peek 1 = .ok (.istore_n 1, 1) := by decide +kernel
theorem dX3_peek_2 : decode cX3_peek 2 = .ok (.iload_n 1, 1) := by decide +kernel
theorem dX3_peek_3 : decode cX3_peek 3 = .ok (.bipush 120, 2) := by decide +kernel
theorem dX3_peek_5 : decode cX3_peek 5 = .ok (.if_icmp .ge 32, 3) := by decide +kernel
theorem dX3_peek_8 : decode cX3_peek 8 = .ok (.aload_n 0, 1) := by decide +kernel
theorem dX3_peek_9 : decode cX3_peek 9 = .ok (.aload_n 0, 1) := by decide +kernel
theorem dX3_peek_10 : decode cX3_peek 10 = .ok (.getfield 28, 3) := by decide +kernel
theorem dX3_peek_13 : decode cX3_peek 13 = .ok (.invokevirtual 41, 3) := by decide +kernel
theorem dX3_peek_16 : decode cX3_peek 16 = .ok (.bipush 32, 2) := by decide +kernel
theorem dX3_peek_18 : decode cX3_peek 18 = .ok (.if_icmp .ne 19, 3) := by decide +kernel
theorem dX3_peek_21 : decode cX3_peek 21 = .ok (.aload_n 0, 1) := by decide +kernel
theorem dX3_peek_22 : decode cX3_peek 22 = .ok (.dup, 1) := by decide +kernel
theorem dX3_peek_23 : decode cX3_peek 23 = .ok (.getfield 28, 3) := by decide +kernel
theorem dX3_peek_26 : decode cX3_peek 26 = .ok (.iconst 1, 1) := by decide +kernel
theorem dX3_peek_27 : decode cX3_peek 27 = .ok (.iadd, 1) := by decide +kernel
theorem dX3_peek_28 : decode cX3_peek 28 = .ok (.putfield 28, 3) := by decide +kernel
theorem dX3_peek_31 : decode cX3_peek 31 = .ok (.iinc 1 1, 3) := by decide +kernel
theorem dX3_peek_34 : decode cX3_peek 34 = .ok (.goto (-32), 3) := by decide +kernel
theorem dX3_peek_37 : decode cX3_peek 37 = .ok (.aload_n 0, 1) := by decide +kernel
theorem dX3_peek_38 : decode cX3_peek 38 = .ok (.aload_n 0, 1) := by decide +kernel
theorem dX3_peek_39 : decode cX3_peek 39 = .ok (.getfield 28, 3) := by decide +kernel
theorem dX3_peek_42 : decode cX3_peek 42 = .ok (.invokevirtual 41, 3) := by decide +kernel
theorem dX3_peek_45 : decode cX3_peek 45 = .ok (.ireturn, 1) := by decide +kernel
theorem dX3_byteAt_0 : decode cX3_byteAt 0 = .ok (.iload_n 1, 1) := by decide +kernel
theorem dX3_byteAt_1 : decode cX3_byteAt 1 = .ok (.ifCond .lt 26, 3) := by decide +kernel
theorem dX3_byteAt_4 : decode cX3_byteAt 4 = .ok (.iload_n 1, 1) := by decide +kernel
theorem dX3_byteAt_5 : decode cX3_byteAt 5 = .ok (.aload_n 0, 1) := by decide +kernel
theorem dX3_byteAt_6 : decode cX3_byteAt 6 = .ok (.getfield 45, 3) := by decide +kernel
theorem dX3_byteAt_9 : decode cX3_byteAt 9 = .ok (.if_icmp .ge 18, 3) := by decide +kernel
theorem dX3_byteAt_12 : decode cX3_byteAt 12 = .ok (.iload_n 1, 1) := by decide +kernel
theorem dX3_byteAt_13 : decode cX3_byteAt 13 = .ok (.bipush 120, 2) := by decide +kernel
theorem dX3_byteAt_15 : decode cX3_byteAt 15 = .ok (.if_icmp .ge 12, 3) := by decide +kernel
theorem dX3_byteAt_18 : decode cX3_byteAt 18 = .ok (.aload_n 0, 1) := by decide +kernel
theorem dX3_byteAt_19 : decode cX3_byteAt 19 = .ok (.getfield 9, 3) := by decide +kernel
theorem dX3_byteAt_22 : decode cX3_byteAt 22 = .ok (.iload_n 1, 1) := by decide +kernel
theorem dX3_byteAt_23 : decode cX3_byteAt 23 = .ok (.iaload, 1) := by decide +kernel
theorem dX3_byteAt_24 : decode cX3_byteAt 24 = .ok (.goto 4, 3) := by decide +kernel
theorem dX3_byteAt_27 : decode cX3_byteAt 27 = .ok (.iconst (-1), 1) := by decide +kernel
theorem dX3_byteAt_28 : decode cX3_byteAt 28 = .ok (.ireturn, 1) := by decide +kernel
theorem dX3_readOrder_0 : decode cX3_readOrder 0 = .ok (.aload_n 0, 1) := by decide +kernel
theorem dX3_readOrder_1 : decode cX3_readOrder 1 = .ok (.invokevirtual 34, 3) := by decide +kernel
theorem dX3_readOrder_4 : decode cX3_readOrder 4 = .ok (.istore_n 1, 1) := by decide +kernel
theorem dX3_readOrder_5 : decode cX3_readOrder 5 = .ok (.iload_n 1, 1) := by decide +kernel
theorem dX3_readOrder_6 : decode cX3_readOrder 6 = .ok (.bipush 97, 2) := by decide +kernel
theorem dX3_readOrder_8 : decode cX3_readOrder 8 = .ok (.if_icmp .lt 30, 3) := by decide +kernel
theorem dX3_readOrder_11 : decode cX3_readOrder 11 = .ok (.iload_n 1, 1) := by decide +kernel
theorem dX3_readOrder_12 : decode cX3_readOrder 12 = .ok (.bipush 112, 2) := by decide +kernel
theorem dX3_readOrder_14 : decode cX3_readOrder 14 = .ok (.if_icmp .gt 24, 3) := by decide +kernel
theorem dX3_readOrder_17 : decode cX3_readOrder 17 = .ok (.aload_n 0, 1) := by decide +kernel
theorem dX3_readOrder_18 : decode cX3_readOrder 18 = .ok (.dup, 1) := by decide +kernel
theorem dX3_readOrder_19 : decode cX3_readOrder 19 = .ok (.getfield 28, 3) := by decide +kernel
theorem dX3_readOrder_22 : decode cX3_readOrder 22 = .ok (.iconst 1, 1) := by decide +kernel
theorem dX3_readOrder_23 : decode cX3_readOrder 23 = .ok (.iadd, 1) := by decide +kernel
theorem dX3_readOrder_24 : decode cX3_readOrder 24 = .ok (.putfield 28, 3) := by decide +kernel
theorem dX3_readOrder_27 : decode cX3_readOrder 27 = .ok (.aload_n 0, 1) := by decide +kernel
theorem dX3_readOrder_28 : decode cX3_readOrder 28 = .ok (.iload_n 1, 1) := by decide +kernel
theorem dX3_readOrder_29 : decode cX3_readOrder 29 = .ok (.bipush 97, 2) := by decide +kernel
theorem dX3_readOrder_31 : decode cX3_readOrder 31 = .ok (.isub, 1) := by decide +kernel
theorem dX3_readOrder_32 : decode cX3_readOrder 32 = .ok (.invokevirtual 48, 3) := by decide +kernel
theorem dX3_readOrder_35 : decode cX3_readOrder 35 = .ok (.goto 67, 3) := by decide +kernel
theorem dX3_readOrder_38 : decode cX3_readOrder 38 = .ok (.iload_n 1, 1) := by decide +kernel
theorem dX3_readOrder_39 : decode cX3_readOrder 39 = .ok (.bipush 33, 2) := by decide +kernel
theorem dX3_readOrder_41 : decode cX3_readOrder 41 = .ok (.if_icmp .ne 23, 3) := by decide +kernel
theorem dX3_readOrder_44 : decode cX3_readOrder 44 = .ok (.aload_n 0, 1) := by decide +kernel
theorem dX3_readOrder_45 : decode cX3_readOrder 45 = .ok (.dup, 1) := by decide +kernel
theorem dX3_readOrder_46 : decode cX3_readOrder 46 = .ok (.getfield 28, 3) := by decide +kernel
theorem dX3_readOrder_49 : decode cX3_readOrder 49 = .ok (.iconst 1, 1) := by decide +kernel
theorem dX3_readOrder_50 : decode cX3_readOrder 50 = .ok (.iadd, 1) := by decide +kernel
theorem dX3_readOrder_51 : decode cX3_readOrder 51 = .ok (.putfield 28, 3) := by decide +kernel
theorem dX3_readOrder_54 : decode cX3_readOrder 54 = .ok (.aload_n 0, 1) := by decide +kernel
theorem dX3_readOrder_55 : decode cX3_readOrder 55 = .ok (.iconst (-1), 1) := by decide +kernel
theorem dX3_readOrder_56 : decode cX3_readOrder 56 = .ok (.iconst 0, 1) := by decide +kernel
theorem dX3_readOrder_57 : decode cX3_readOrder 57 = .ok (.iconst 0, 1) := by decide +kernel
theorem dX3_readOrder_58 : decode cX3_readOrder 58 = .ok (.invokevirtual 52, 3) := by decide +kernel
theorem dX3_readOrder_61 : decode cX3_readOrder 61 = .ok (.goto 41, 3) := by decide +kernel
theorem dX3_readOrder_64 : decode cX3_readOrder 64 = .ok (.iload_n 1, 1) := by decide +kernel
theorem dX3_readOrder_65 : decode cX3_readOrder 65 = .ok (.bipush 35, 2) := by decide +kernel
theorem dX3_readOrder_67 : decode cX3_readOrder 67 = .ok (.if_icmp .ne 27, 3) := by decide +kernel
theorem dX3_readOrder_70 : decode cX3_readOrder 70 = .ok (.aload_n 0, 1) := by decide +kernel
theorem dX3_readOrder_71 : decode cX3_readOrder 71 = .ok (.dup, 1) := by decide +kernel
theorem dX3_readOrder_72 : decode cX3_readOrder 72 = .ok (.getfield 28, 3) := by decide +kernel
theorem dX3_readOrder_75 : decode cX3_readOrder 75 = .ok (.iconst 1, 1) := by decide +kernel
theorem dX3_readOrder_76 : decode cX3_readOrder 76 = .ok (.iadd, 1) := by decide +kernel
theorem dX3_readOrder_77 : decode cX3_readOrder 77 = .ok (.putfield 28, 3) := by decide +kernel
theorem dX3_readOrder_80 : decode cX3_readOrder 80 = .ok (.aload_n 0, 1) := by decide +kernel
theorem dX3_readOrder_81 : decode cX3_readOrder 81 = .ok (.bipush (-2), 2) := by decide +kernel
theorem dX3_readOrder_83 : decode cX3_readOrder 83 = .ok (.iconst 0, 1) := by decide +kernel
theorem dX3_readOrder_84 : decode cX3_readOrder 84 = .ok (.aload_n 0, 1) := by decide +kernel
theorem dX3_readOrder_85 : decode cX3_readOrder 85 = .ok (.invokevirtual 56, 3) := by decide +kernel
theorem dX3_readOrder_88 : decode cX3_readOrder 88 = .ok (.invokevirtual 52, 3) := by decide +kernel
theorem dX3_readOrder_91 : decode cX3_readOrder 91 = .ok (.goto 11, 3) := by decide +kernel
theorem dX3_readOrder_94 : decode cX3_readOrder 94 = .ok (.aload_n 0, 1) := by decide +kernel
theorem dX3_readOrder_95 : decode cX3_readOrder 95 = .ok (.aload_n 0, 1) := by decide +kernel
theorem dX3_readOrder_96 : decode cX3_readOrder 96 = .ok (.getfield 28, 3) := by decide +kernel
theorem dX3_readOrder_99 : decode cX3_readOrder 99 = .ok (.putfield 31, 3) := by decide +kernel
theorem dX3_readOrder_102 : decode cX3_readOrder 102 = .ok (.aload_n 0, 1) := by decide +kernel
theorem dX3_readOrder_103 : decode cX3_readOrder 103 = .ok (.getfield 31, 3) := by decide +kernel
theorem dX3_readOrder_106 : decode cX3_readOrder 106 = .ok (.iconst (-1), 1) := by decide +kernel
theorem dX3_readOrder_107 : decode cX3_readOrder 107 = .ok (.if_icmp .ne 20, 3) := by decide +kernel
theorem dX3_readOrder_110 : decode cX3_readOrder 110 = .ok (.aload_n 0, 1) := by decide +kernel
theorem dX3_readOrder_111 : decode cX3_readOrder 111 = .ok (.invokevirtual 34, 3) := by decide +kernel
theorem dX3_readOrder_114 : decode cX3_readOrder 114 = .ok (.bipush 59, 2) := by decide +kernel
theorem dX3_readOrder_116 : decode cX3_readOrder 116 = .ok (.if_icmp .eq 11, 3) := by decide +kernel
theorem dX3_readOrder_119 : decode cX3_readOrder 119 = .ok (.aload_n 0, 1) := by decide +kernel
theorem dX3_readOrder_120 : decode cX3_readOrder 120 = .ok (.aload_n 0, 1) := by decide +kernel
theorem dX3_readOrder_121 : decode cX3_readOrder 121 = .ok (.getfield 28, 3) := by decide +kernel
theorem dX3_readOrder_124 : decode cX3_readOrder 124 = .ok (.putfield 31, 3) := by decide +kernel
theorem dX3_readOrder_127 : decode cX3_readOrder 127 = .ok (.aload_n 0, 1) := by decide +kernel
theorem dX3_readOrder_128 : decode cX3_readOrder 128 = .ok (.dup, 1) := by decide +kernel
theorem dX3_readOrder_129 : decode cX3_readOrder 129 = .ok (.getfield 28, 3) := by decide +kernel
theorem dX3_readOrder_132 : decode cX3_readOrder 132 = .ok (.iconst 1, 1) := by decide +kernel
theorem dX3_readOrder_133 : decode cX3_readOrder 133 = .ok (.iadd, 1) := by decide +kernel
theorem dX3_readOrder_134 : decode cX3_readOrder 134 = .ok (.putfield 28, 3) := by decide +kernel
theorem dX3_readOrder_137 : decode cX3_readOrder 137 = .ok (.return_, 1) := by decide +kernel
theorem dX3_readAsking_0 : decode cX3_readAsking 0 = .ok (.aload_n 0, 1) := by decide +kernel
theorem dX3_readAsking_1 : decode cX3_readAsking 1 = .ok (.invokevirtual 34, 3) := by decide +kernel
theorem dX3_readAsking_4 : decode cX3_readAsking 4 = .ok (.bipush 48, 2) := by decide +kernel
theorem dX3_readAsking_6 : decode cX3_readAsking 6 = .ok (.isub, 1) := by decide +kernel
theorem dX3_readAsking_7 : decode cX3_readAsking 7 = .ok (.istore_n 2, 1) := by decide +kernel
theorem dX3_readAsking_8 : decode cX3_readAsking 8 = .ok (.iload_n 2, 1) := by decide +kernel
theorem dX3_readAsking_9 : decode cX3_readAsking 9 = .ok (.invokestatic 59, 3) := by decide +kernel
theorem dX3_readAsking_12 : decode cX3_readAsking 12 = .ok (.ifCond .ne 12, 3) := by decide +kernel
theorem dX3_readAsking_15 : decode cX3_readAsking 15 = .ok (.aload_n 0, 1) := by decide +kernel
theorem dX3_readAsking_16 : decode cX3_readAsking 16 = .ok (.aload_n 0, 1) := by decide +kernel
theorem dX3_readAsking_17 : decode cX3_readAsking 17 = .ok (.getfield 28, 3) := by decide +kernel
theorem dX3_readAsking_20 : decode cX3_readAsking 20 = .ok (.putfield 31, 3) := by decide +kernel
theorem dX3_readAsking_23 : decode cX3_readAsking 23 = .ok (.return_, 1) := by decide +kernel
theorem dX3_readAsking_24 : decode cX3_readAsking 24 = .ok (.aload_n 0, 1) := by decide +kernel
theorem dX3_readAsking_25 : decode cX3_readAsking 25 = .ok (.dup, 1) := by decide +kernel
theorem dX3_readAsking_26 : decode cX3_readAsking 26 = .ok (.getfield 28, 3) := by decide +kernel
theorem dX3_readAsking_29 : decode cX3_readAsking 29 = .ok (.iconst 1, 1) := by decide +kernel
theorem dX3_readAsking_30 : decode cX3_readAsking 30 = .ok (.iadd, 1) := by decide +kernel
theorem dX3_readAsking_31 : decode cX3_readAsking 31 = .ok (.putfield 28, 3) := by decide +kernel
theorem dX3_readAsking_34 : decode cX3_readAsking 34 = .ok (.iconst (-1), 1) := by decide +kernel
theorem dX3_readAsking_35 : decode cX3_readAsking 35 = .ok (.istore_n 3, 1) := by decide +kernel
theorem dX3_readAsking_36 : decode cX3_readAsking 36 = .ok (.aload_n 0, 1) := by decide +kernel
theorem dX3_readAsking_37 : decode cX3_readAsking 37 = .ok (.invokevirtual 34, 3) := by decide +kernel
theorem dX3_readAsking_40 : decode cX3_readAsking 40 = .ok (.bipush 61, 2) := by decide +kernel
theorem dX3_readAsking_42 : decode cX3_readAsking 42 = .ok (.if_icmp .ne 18, 3) := by decide +kernel
theorem dX3_readAsking_45 : decode cX3_readAsking 45 = .ok (.aload_n 0, 1) := by decide +kernel
theorem dX3_readAsking_46 : decode cX3_readAsking 46 = .ok (.dup, 1) := by decide +kernel
theorem dX3_readAsking_47 : decode cX3_readAsking 47 = .ok (.getfield 28, 3) := by decide +kernel
theorem dX3_readAsking_50 : decode cX3_readAsking 50 = .ok (.iconst 1, 1) := by decide +kernel
theorem dX3_readAsking_51 : decode cX3_readAsking 51 = .ok (.iadd, 1) := by decide +kernel
theorem dX3_readAsking_52 : decode cX3_readAsking 52 = .ok (.putfield 28, 3) := by decide +kernel
theorem dX3_readAsking_55 : decode cX3_readAsking 55 = .ok (.aload_n 0, 1) := by decide +kernel
theorem dX3_readAsking_56 : decode cX3_readAsking 56 = .ok (.invokevirtual 56, 3) := by decide +kernel
theorem dX3_readAsking_59 : decode cX3_readAsking 59 = .ok (.istore_n 3, 1) := by decide +kernel
theorem dX3_readAsking_60 : decode cX3_readAsking 60 = .ok (.aload_n 0, 1) := by decide +kernel
theorem dX3_readAsking_61 : decode cX3_readAsking 61 = .ok (.iload_n 1, 1) := by decide +kernel
theorem dX3_readAsking_62 : decode cX3_readAsking 62 = .ok (.iload_n 2, 1) := by decide +kernel
theorem dX3_readAsking_63 : decode cX3_readAsking 63 = .ok (.iload_n 3, 1) := by decide +kernel
theorem dX3_readAsking_64 : decode cX3_readAsking 64 = .ok (.invokevirtual 52, 3) := by decide +kernel
theorem dX3_readAsking_67 : decode cX3_readAsking 67 = .ok (.return_, 1) := by decide +kernel
theorem dX3_readNumber_0 : decode cX3_readNumber 0 = .ok (.aload_n 0, 1) := by decide +kernel
theorem dX3_readNumber_1 : decode cX3_readNumber 1 = .ok (.invokevirtual 34, 3) := by decide +kernel
theorem dX3_readNumber_4 : decode cX3_readNumber 4 = .ok (.pop, 1) := by decide +kernel
theorem dX3_readNumber_5 : decode cX3_readNumber 5 = .ok (.aload_n 0, 1) := by decide +kernel
theorem dX3_readNumber_6 : decode cX3_readNumber 6 = .ok (.getfield 28, 3) := by decide +kernel
theorem dX3_readNumber_9 : decode cX3_readNumber 9 = .ok (.istore_n 1, 1) := by decide +kernel
theorem dX3_readNumber_10 : decode cX3_readNumber 10 = .ok (.iconst 0, 1) := by decide +kernel
theorem dX3_readNumber_11 : decode cX3_readNumber 11 = .ok (.istore_n 2, 1) := by decide +kernel
theorem dX3_readNumber_12 : decode cX3_readNumber 12 = .ok (.iconst 0, 1) := by decide +kernel
theorem dX3_readNumber_13 : decode cX3_readNumber 13 = .ok (.istore_n 3, 1) := by decide +kernel
theorem dX3_readNumber_14 : decode cX3_readNumber 14 = .ok (.iload_n 3, 1) := by decide +kernel
theorem dX3_readNumber_15 : decode cX3_readNumber 15 = .ok (.bipush 120, 2) := by decide +kernel
theorem dX3_readNumber_17 : decode cX3_readNumber 17 = .ok (.if_icmp .ge 59, 3) := by decide +kernel
theorem dX3_readNumber_20 : decode cX3_readNumber 20 = .ok (.aload_n 0, 1) := by decide +kernel
theorem dX3_readNumber_21 : decode cX3_readNumber 21 = .ok (.aload_n 0, 1) := by decide +kernel
theorem dX3_readNumber_22 : decode cX3_readNumber 22 = .ok (.getfield 28, 3) := by decide +kernel
theorem dX3_readNumber_25 : decode cX3_readNumber 25 = .ok (.invokevirtual 41, 3) := by decide +kernel
theorem dX3_readNumber_28 : decode cX3_readNumber 28 = .ok (.invokestatic 63, 3) := by decide +kernel
theorem dX3_readNumber_31 : decode cX3_readNumber 31 = .ok (.ifCond .eq 45, 3) := by decide +kernel
theorem dX3_readNumber_34 : decode cX3_readNumber 34 = .ok (.iload_n 3, 1) := by decide +kernel
theorem dX3_readNumber_35 : decode cX3_readNumber 35 = .ok (.iconst 2, 1) := by decide +kernel
theorem dX3_readNumber_36 : decode cX3_readNumber 36 = .ok (.if_icmp .ge 22, 3) := by decide +kernel
theorem dX3_readNumber_39 : decode cX3_readNumber 39 = .ok (.bipush 10, 2) := by decide +kernel
theorem dX3_readNumber_41 : decode cX3_readNumber 41 = .ok (.iload_n 2, 1) := by decide +kernel
theorem dX3_readNumber_42 : decode cX3_readNumber 42 = .ok (.imul, 1) := by decide +kernel
theorem dX3_readNumber_43 : decode cX3_readNumber 43 = .ok (.aload_n 0, 1) := by decide +kernel
theorem dX3_readNumber_44 : decode cX3_readNumber 44 = .ok (.aload_n 0, 1) := by decide +kernel
theorem dX3_readNumber_45 : decode cX3_readNumber 45 = .ok (.getfield 28, 3) := by decide +kernel
theorem dX3_readNumber_48 : decode cX3_readNumber 48 = .ok (.invokevirtual 41, 3) := by decide +kernel
theorem dX3_readNumber_51 : decode cX3_readNumber 51 = .ok (.iadd, 1) := by decide +kernel
theorem dX3_readNumber_52 : decode cX3_readNumber 52 = .ok (.bipush 48, 2) := by decide +kernel
theorem dX3_readNumber_54 : decode cX3_readNumber 54 = .ok (.isub, 1) := by decide +kernel
theorem dX3_readNumber_55 : decode cX3_readNumber 55 = .ok (.goto 4, 3) := by decide +kernel
theorem dX3_readNumber_58 : decode cX3_readNumber 58 = .ok (.iload_n 2, 1) := by decide +kernel
theorem dX3_readNumber_59 : decode cX3_readNumber 59 = .ok (.istore_n 2, 1) := by decide +kernel
theorem dX3_readNumber_60 : decode cX3_readNumber 60 = .ok (.aload_n 0, 1) := by decide +kernel
theorem dX3_readNumber_61 : decode cX3_readNumber 61 = .ok (.dup, 1) := by decide +kernel
theorem dX3_readNumber_62 : decode cX3_readNumber 62 = .ok (.getfield 28, 3) := by decide +kernel
theorem dX3_readNumber_65 : decode cX3_readNumber 65 = .ok (.iconst 1, 1) := by decide +kernel
theorem dX3_readNumber_66 : decode cX3_readNumber 66 = .ok (.iadd, 1) := by decide +kernel
theorem dX3_readNumber_67 : decode cX3_readNumber 67 = .ok (.putfield 28, 3) := by decide +kernel
theorem dX3_readNumber_70 : decode cX3_readNumber 70 = .ok (.iinc 3 1, 3) := by decide +kernel
theorem dX3_readNumber_73 : decode cX3_readNumber 73 = .ok (.goto (-59), 3) := by decide +kernel
theorem dX3_readNumber_76 : decode cX3_readNumber 76 = .ok (.aload_n 0, 1) := by decide +kernel
theorem dX3_readNumber_77 : decode cX3_readNumber 77 = .ok (.getfield 28, 3) := by decide +kernel
theorem dX3_readNumber_80 : decode cX3_readNumber 80 = .ok (.iload_n 1, 1) := by decide +kernel
theorem dX3_readNumber_81 : decode cX3_readNumber 81 = .ok (.if_icmp .eq 13, 3) := by decide +kernel
theorem dX3_readNumber_84 : decode cX3_readNumber 84 = .ok (.aload_n 0, 1) := by decide +kernel
theorem dX3_readNumber_85 : decode cX3_readNumber 85 = .ok (.getfield 28, 3) := by decide +kernel
theorem dX3_readNumber_88 : decode cX3_readNumber 88 = .ok (.iload_n 1, 1) := by decide +kernel
theorem dX3_readNumber_89 : decode cX3_readNumber 89 = .ok (.iconst 2, 1) := by decide +kernel
theorem dX3_readNumber_90 : decode cX3_readNumber 90 = .ok (.iadd, 1) := by decide +kernel
theorem dX3_readNumber_91 : decode cX3_readNumber 91 = .ok (.if_icmp .le 8, 3) := by decide +kernel
theorem dX3_readNumber_94 : decode cX3_readNumber 94 = .ok (.aload_n 0, 1) := by decide +kernel
theorem dX3_readNumber_95 : decode cX3_readNumber 95 = .ok (.iload_n 1, 1) := by decide +kernel
theorem dX3_readNumber_96 : decode cX3_readNumber 96 = .ok (.putfield 31, 3) := by decide +kernel
theorem dX3_readNumber_99 : decode cX3_readNumber 99 = .ok (.iload_n 2, 1) := by decide +kernel
theorem dX3_readNumber_100 : decode cX3_readNumber 100 = .ok (.ireturn, 1) := by decide +kernel
theorem dX3_isFigure_0 : decode cX3_isFigure 0 = .ok (.iload_n 0, 1) := by decide +kernel
theorem dX3_isFigure_1 : decode cX3_isFigure 1 = .ok (.bipush 48, 2) := by decide +kernel
theorem dX3_isFigure_3 : decode cX3_isFigure 3 = .ok (.if_icmp .lt 13, 3) := by decide +kernel
theorem dX3_isFigure_6 : decode cX3_isFigure 6 = .ok (.iload_n 0, 1) := by decide +kernel
theorem dX3_isFigure_7 : decode cX3_isFigure 7 = .ok (.bipush 57, 2) := by decide +kernel
theorem dX3_isFigure_9 : decode cX3_isFigure 9 = .ok (.if_icmp .gt 7, 3) := by decide +kernel
theorem dX3_isFigure_12 : decode cX3_isFigure 12 = .ok (.iconst 1, 1) := by decide +kernel
theorem dX3_isFigure_13 : decode cX3_isFigure 13 = .ok (.goto 4, 3) := by decide +kernel
theorem dX3_isFigure_16 : decode cX3_isFigure 16 = .ok (.iconst 0, 1) := by decide +kernel
theorem dX3_isFigure_17 : decode cX3_isFigure 17 = .ok (.ireturn, 1) := by decide +kernel
theorem dX3_addOrder_0 : decode cX3_addOrder 0 = .ok (.aload_n 0, 1) := by decide +kernel
theorem dX3_addOrder_1 : decode cX3_addOrder 1 = .ok (.getfield 24, 3) := by decide +kernel
theorem dX3_addOrder_4 : decode cX3_addOrder 4 = .ok (.ifCond .lt 52, 3) := by decide +kernel
theorem dX3_addOrder_7 : decode cX3_addOrder 7 = .ok (.aload_n 0, 1) := by decide +kernel
theorem dX3_addOrder_8 : decode cX3_addOrder 8 = .ok (.getfield 24, 3) := by decide +kernel
theorem dX3_addOrder_11 : decode cX3_addOrder 11 = .ok (.bipush 60, 2) := by decide +kernel
theorem dX3_addOrder_13 : decode cX3_addOrder 13 = .ok (.if_icmp .ge 43, 3) := by decide +kernel
theorem dX3_addOrder_16 : decode cX3_addOrder 16 = .ok (.aload_n 0, 1) := by decide +kernel
theorem dX3_addOrder_17 : decode cX3_addOrder 17 = .ok (.getfield 15, 3) := by decide +kernel
theorem dX3_addOrder_20 : decode cX3_addOrder 20 = .ok (.aload_n 0, 1) := by decide +kernel
theorem dX3_addOrder_21 : decode cX3_addOrder 21 = .ok (.getfield 24, 3) := by decide +kernel
theorem dX3_addOrder_24 : decode cX3_addOrder 24 = .ok (.iload_n 1, 1) := by decide +kernel
theorem dX3_addOrder_25 : decode cX3_addOrder 25 = .ok (.iastore, 1) := by decide +kernel
theorem dX3_addOrder_26 : decode cX3_addOrder 26 = .ok (.aload_n 0, 1) := by decide +kernel
theorem dX3_addOrder_27 : decode cX3_addOrder 27 = .ok (.getfield 18, 3) := by decide +kernel
theorem dX3_addOrder_30 : decode cX3_addOrder 30 = .ok (.aload_n 0, 1) := by decide +kernel
theorem dX3_addOrder_31 : decode cX3_addOrder 31 = .ok (.getfield 24, 3) := by decide +kernel
theorem dX3_addOrder_34 : decode cX3_addOrder 34 = .ok (.iload_n 2, 1) := by decide +kernel
theorem dX3_addOrder_35 : decode cX3_addOrder 35 = .ok (.iastore, 1) := by decide +kernel
theorem dX3_addOrder_36 : decode cX3_addOrder 36 = .ok (.aload_n 0, 1) := by decide +kernel
theorem dX3_addOrder_37 : decode cX3_addOrder 37 = .ok (.getfield 21, 3) := by decide +kernel
theorem dX3_addOrder_40 : decode cX3_addOrder 40 = .ok (.aload_n 0, 1) := by decide +kernel
theorem dX3_addOrder_41 : decode cX3_addOrder 41 = .ok (.getfield 24, 3) := by decide +kernel
theorem dX3_addOrder_44 : decode cX3_addOrder 44 = .ok (.iload_n 3, 1) := by decide +kernel
theorem dX3_addOrder_45 : decode cX3_addOrder 45 = .ok (.iastore, 1) := by decide +kernel
theorem dX3_addOrder_46 : decode cX3_addOrder 46 = .ok (.aload_n 0, 1) := by decide +kernel
theorem dX3_addOrder_47 : decode cX3_addOrder 47 = .ok (.dup, 1) := by decide +kernel
theorem dX3_addOrder_48 : decode cX3_addOrder 48 = .ok (.getfield 24, 3) := by decide +kernel
theorem dX3_addOrder_51 : decode cX3_addOrder 51 = .ok (.iconst 1, 1) := by decide +kernel
theorem dX3_addOrder_52 : decode cX3_addOrder 52 = .ok (.iadd, 1) := by decide +kernel
theorem dX3_addOrder_53 : decode cX3_addOrder 53 = .ok (.putfield 24, 3) := by decide +kernel
theorem dX3_addOrder_56 : decode cX3_addOrder 56 = .ok (.return_, 1) := by decide +kernel
theorem dX4_init_0 : decode cX4_init 0 = .ok (.aload_n 0, 1) := by decide +kernel
theorem dX4_init_1 : decode cX4_init 1 = .ok (.invokespecial 1, 3) := by decide +kernel
theorem dX4_init_4 : decode cX4_init 4 = .ok (.aload_n 0, 1) := by decide +kernel
theorem dX4_init_5 : decode cX4_init 5 = .ok (.new 7, 3) := by decide +kernel
theorem dX4_init_8 : decode cX4_init 8 = .ok (.dup, 1) := by decide +kernel
theorem dX4_init_9 : decode cX4_init 9 = .ok (.invokespecial 9, 3) := by decide +kernel
theorem dX4_init_12 : decode cX4_init 12 = .ok (.putfield 10, 3) := by decide +kernel
theorem dX4_init_15 : decode cX4_init 15 = .ok (.aload_n 0, 1) := by decide +kernel
theorem dX4_init_16 : decode cX4_init 16 = .ok (.new 7, 3) := by decide +kernel
theorem dX4_init_19 : decode cX4_init 19 = .ok (.dup, 1) := by decide +kernel
theorem dX4_init_20 : decode cX4_init 20 = .ok (.invokespecial 9, 3) := by decide +kernel
theorem dX4_init_23 : decode cX4_init 23 = .ok (.putfield 16, 3) := by decide +kernel
theorem dX4_init_26 : decode cX4_init 26 = .ok (.aload_n 0, 1) := by decide +kernel
theorem dX4_init_27 : decode cX4_init 27 = .ok (.bipush 6, 2) := by decide +kernel
theorem dX4_init_29 : decode cX4_init 29 = .ok (.anewarray 7, 3) := by decide +kernel
theorem dX4_init_32 : decode cX4_init 32 = .ok (.putfield 19, 3) := by decide +kernel
theorem dX4_init_35 : decode cX4_init 35 = .ok (.iconst 0, 1) := by decide +kernel
theorem dX4_init_36 : decode cX4_init 36 = .ok (.istore_n 1, 1) := by decide +kernel
theorem dX4_init_37 : decode cX4_init 37 = .ok (.iload_n 1, 1) := by decide +kernel
theorem dX4_init_38 : decode cX4_init 38 = .ok (.bipush 6, 2) := by decide +kernel
theorem dX4_init_40 : decode cX4_init 40 = .ok (.if_icmp .ge 22, 3) := by decide +kernel
theorem dX4_init_43 : decode cX4_init 43 = .ok (.aload_n 0, 1) := by decide +kernel
theorem dX4_init_44 : decode cX4_init 44 = .ok (.getfield 19, 3) := by decide +kernel
theorem dX4_init_47 : decode cX4_init 47 = .ok (.iload_n 1, 1) := by decide +kernel
theorem dX4_init_48 : decode cX4_init 48 = .ok (.new 7, 3) := by decide +kernel
theorem dX4_init_51 : decode cX4_init 51 = .ok (.dup, 1) := by decide +kernel
theorem dX4_init_52 : decode cX4_init 52 = .ok (.invokespecial 9, 3) := by decide +kernel
theorem dX4_init_55 : decode cX4_init 55 = .ok (.aastore, 1) := by decide +kernel
theorem dX4_init_56 : decode cX4_init 56 = .ok (.iinc 1 1, 3) := by decide +kernel
theorem dX4_init_59 : decode cX4_init 59 = .ok (.goto (-22), 3) := by decide +kernel
theorem dX4_init_62 : decode cX4_init 62 = .ok (.aload_n 0, 1) := by decide +kernel
theorem dX4_init_63 : decode cX4_init 63 = .ok (.new 23, 3) := by decide +kernel
theorem dX4_init_66 : decode cX4_init 66 = .ok (.dup, 1) := by decide +kernel
theorem dX4_init_67 : decode cX4_init 67 = .ok (.invokespecial 25, 3) := by decide +kernel
theorem dX4_init_70 : decode cX4_init 70 = .ok (.putfield 26, 3) := by decide +kernel
theorem dX4_init_73 : decode cX4_init 73 = .ok (.aload_n 0, 1) := by decide +kernel
theorem dX4_init_74 : decode cX4_init 74 = .ok (.iconst 3, 1) := by decide +kernel
theorem dX4_init_75 : decode cX4_init 75 = .ok (.newarray .int, 2) := by decide +kernel
theorem dX4_init_77 : decode cX4_init 77 = .ok (.putfield 30, 3) := by decide +kernel
theorem dX4_init_80 : decode cX4_init 80 = .ok (.aload_n 0, 1) := by decide +kernel
theorem dX4_init_81 : decode cX4_init 81 = .ok (.iconst 0, 1) := by decide +kernel
theorem dX4_init_82 : decode cX4_init 82 = .ok (.putfield 34, 3) := by decide +kernel
theorem dX4_init_85 : decode cX4_init 85 = .ok (.aload_n 0, 1) := by decide +kernel
theorem dX4_init_86 : decode cX4_init 86 = .ok (.iconst 0, 1) := by decide +kernel
theorem dX4_init_87 : decode cX4_init 87 = .ok (.putfield 38, 3) := by decide +kernel
theorem dX4_init_90 : decode cX4_init 90 = .ok (.return_, 1) := by decide +kernel
theorem dX4_sets_0 : decode cX4_sets 0 = .ok (.iload_n 1, 1) := by decide +kernel
theorem dX4_sets_1 : decode cX4_sets 1 = .ok (.ifCond .lt 29, 3) := by decide +kernel
theorem dX4_sets_4 : decode cX4_sets 4 = .ok (.iload_n 1, 1) := by decide +kernel
theorem dX4_sets_5 : decode cX4_sets 5 = .ok (.getstatic 41, 3) := by decide +kernel
theorem dX4_sets_8 : decode cX4_sets 8 = .ok (.arraylength, 1) := by decide +kernel
theorem dX4_sets_9 : decode cX4_sets 9 = .ok (.if_icmp .ge 21, 3) := by decide +kernel
theorem dX4_sets_12 : decode cX4_sets 12 = .ok (.iload_n 2, 1) := by decide +kernel
theorem dX4_sets_13 : decode cX4_sets 13 = .ok (.getstatic 41, 3) := by decide +kernel
theorem dX4_sets_16 : decode cX4_sets 16 = .ok (.iload_n 1, 1) := by decide +kernel
theorem dX4_sets_17 : decode cX4_sets 17 = .ok (.iaload, 1) := by decide +kernel
theorem dX4_sets_18 : decode cX4_sets 18 = .ok (.if_icmp .lt 12, 3) := by decide +kernel
theorem dX4_sets_21 : decode cX4_sets 21 = .ok (.iload_n 2, 1) := by decide +kernel
theorem dX4_sets_22 : decode cX4_sets 22 = .ok (.getstatic 44, 3) := by decide +kernel
theorem dX4_sets_25 : decode cX4_sets 25 = .ok (.iload_n 1, 1) := by decide +kernel
theorem dX4_sets_26 : decode cX4_sets 26 = .ok (.iaload, 1) := by decide +kernel
theorem dX4_sets_27 : decode cX4_sets 27 = .ok (.if_icmp .le 10, 3) := by decide +kernel
theorem dX4_sets_30 : decode cX4_sets 30 = .ok (.aload_n 0, 1) := by decide +kernel
theorem dX4_sets_31 : decode cX4_sets 31 = .ok (.bipush (-2), 2) := by decide +kernel
theorem dX4_sets_33 : decode cX4_sets 33 = .ok (.invokevirtual 47, 3) := by decide +kernel
theorem dX4_sets_36 : decode cX4_sets 36 = .ok (.ireturn, 1) := by decide +kernel
theorem dX4_sets_37 : decode cX4_sets 37 = .ok (.aload_n 0, 1) := by decide +kernel
theorem dX4_sets_38 : decode cX4_sets 38 = .ok (.invokevirtual 51, 3) := by decide +kernel
theorem dX4_sets_41 : decode cX4_sets 41 = .ok (.aload_n 0, 1) := by decide +kernel
theorem dX4_sets_42 : decode cX4_sets 42 = .ok (.getfield 10, 3) := by decide +kernel
theorem dX4_sets_45 : decode cX4_sets 45 = .ok (.getfield 54, 3) := by decide +kernel
theorem dX4_sets_48 : decode cX4_sets 48 = .ok (.iload_n 1, 1) := by decide +kernel
theorem dX4_sets_49 : decode cX4_sets 49 = .ok (.iaload, 1) := by decide +kernel
theorem dX4_sets_50 : decode cX4_sets 50 = .ok (.istore_n 3, 1) := by decide +kernel
theorem dX4_sets_51 : decode cX4_sets 51 = .ok (.aload_n 0, 1) := by decide +kernel
theorem dX4_sets_52 : decode cX4_sets 52 = .ok (.getfield 10, 3) := by decide +kernel
theorem dX4_sets_55 : decode cX4_sets 55 = .ok (.getfield 54, 3) := by decide +kernel
theorem dX4_sets_58 : decode cX4_sets 58 = .ok (.iload_n 1, 1) := by decide +kernel
theorem dX4_sets_59 : decode cX4_sets 59 = .ok (.iload_n 2, 1) := by decide +kernel
theorem dX4_sets_60 : decode cX4_sets 60 = .ok (.iastore, 1) := by decide +kernel
theorem dX4_sets_61 : decode cX4_sets 61 = .ok (.aload_n 0, 1) := by decide +kernel
theorem dX4_sets_62 : decode cX4_sets 62 = .ok (.getfield 10, 3) := by decide +kernel
theorem dX4_sets_65 : decode cX4_sets 65 = .ok (.invokevirtual 57, 3) := by decide +kernel
theorem dX4_sets_68 : decode cX4_sets 68 = .ok (.iload_n 3, 1) := by decide +kernel
theorem dX4_sets_69 : decode cX4_sets 69 = .ok (.ireturn, 1) := by decide +kernel
theorem dX4_anew_0 : decode cX4_anew 0 = .ok (.aload_n 0, 1) := by decide +kernel
theorem dX4_anew_1 : decode cX4_anew 1 = .ok (.invokevirtual 51, 3) := by decide +kernel
theorem dX4_anew_4 : decode cX4_anew 4 = .ok (.aload_n 0, 1) := by decide +kernel
theorem dX4_anew_5 : decode cX4_anew 5 = .ok (.getfield 10, 3) := by decide +kernel
theorem dX4_anew_8 : decode cX4_anew 8 = .ok (.getfield 60, 3) := by decide +kernel
theorem dX4_anew_11 : decode cX4_anew 11 = .ok (.bipush 9, 2) := by decide +kernel
theorem dX4_anew_13 : decode cX4_anew 13 = .ok (.iaload, 1) := by decide +kernel
theorem dX4_anew_14 : decode cX4_anew 14 = .ok (.istore_n 1, 1) := by decide +kernel
theorem dX4_anew_15 : decode cX4_anew 15 = .ok (.aload_n 0, 1) := by decide +kernel
theorem dX4_anew_16 : decode cX4_anew 16 = .ok (.getfield 10, 3) := by decide +kernel
theorem dX4_anew_19 : decode cX4_anew 19 = .ok (.invokevirtual 57, 3) := by decide +kernel
theorem dX4_anew_22 : decode cX4_anew 22 = .ok (.iload_n 1, 1) := by decide +kernel
theorem dX4_anew_23 : decode cX4_anew 23 = .ok (.ireturn, 1) := by decide +kernel
theorem dX4_load_0 : decode cX4_load 0 = .ok (.iload_n 1, 1) := by decide +kernel
theorem dX4_load_1 : decode cX4_load 1 = .ok (.invokestatic 63, 3) := by decide +kernel
theorem dX4_load_4 : decode cX4_load 4 = .ok (.ifCond .eq 10, 3) := by decide +kernel
theorem dX4_load_7 : decode cX4_load 7 = .ok (.iload_n 2, 1) := by decide +kernel
theorem dX4_load_8 : decode cX4_load 8 = .ok (.invokestatic 67, 3) := by decide +kernel
theorem dX4_load_11 : decode cX4_load 11 = .ok (.ifCond .ne 10, 3) := by decide +kernel
theorem dX4_load_14 : decode cX4_load 14 = .ok (.aload_n 0, 1) := by decide +kernel
theorem dX4_load_15 : decode cX4_load 15 = .ok (.bipush (-2), 2) := by decide +kernel
theorem dX4_load_17 : decode cX4_load 17 = .ok (.invokevirtual 47, 3) := by decide +kernel
theorem dX4_load_20 : decode cX4_load 20 = .ok (.ireturn, 1) := by decide +kernel
theorem dX4_load_21 : decode cX4_load 21 = .ok (.aload_n 0, 1) := by decide +kernel
theorem dX4_load_22 : decode cX4_load 22 = .ok (.invokevirtual 51, 3) := by decide +kernel
theorem dX4_load_25 : decode cX4_load 25 = .ok (.aload_n 0, 1) := by decide +kernel
theorem dX4_load_26 : decode cX4_load 26 = .ok (.getfield 10, 3) := by decide +kernel
theorem dX4_load_29 : decode cX4_load 29 = .ok (.aload_n 0, 1) := by decide +kernel
theorem dX4_load_30 : decode cX4_load 30 = .ok (.getfield 10, 3) := by decide +kernel
theorem dX4_load_33 : decode cX4_load 33 = .ok (.getfield 70, 3) := by decide +kernel
theorem dX4_load_36 : decode cX4_load 36 = .ok (.iload_n 1, 1) := by decide +kernel
theorem dX4_load_37 : decode cX4_load 37 = .ok (.aaload, 1) := by decide +kernel
theorem dX4_load_38 : decode cX4_load 38 = .ok (.iload_n 2, 1) := by decide +kernel
theorem dX4_load_39 : decode cX4_load 39 = .ok (.iconst (-1), 1) := by decide +kernel
theorem dX4_load_40 : decode cX4_load 40 = .ok (.invokevirtual 74, 3) := by decide +kernel
theorem dX4_load_43 : decode cX4_load 43 = .ok (.ireturn, 1) := by decide +kernel
theorem dX4_store_0 : decode cX4_store 0 = .ok (.iload_n 1, 1) := by decide +kernel
theorem dX4_store_1 : decode cX4_store 1 = .ok (.invokestatic 63, 3) := by decide +kernel
theorem dX4_store_4 : decode cX4_store 4 = .ok (.ifCond .eq 20, 3) := by decide +kernel
theorem dX4_store_7 : decode cX4_store 7 = .ok (.iload_n 2, 1) := by decide +kernel
theorem dX4_store_8 : decode cX4_store 8 = .ok (.invokestatic 67, 3) := by decide +kernel
theorem dX4_store_11 : decode cX4_store 11 = .ok (.ifCond .eq 13, 3) := by decide +kernel
theorem dX4_store_14 : decode cX4_store 14 = .ok (.iload_n 3, 1) := by decide +kernel
theorem dX4_store_15 : decode cX4_store 15 = .ok (.ifCond .lt 9, 3) := by decide +kernel
theorem dX4_store_18 : decode cX4_store 18 = .ok (.iload_n 3, 1) := by decide +kernel
theorem dX4_store_19 : decode cX4_store 19 = .ok (.bipush 99, 2) := by decide +kernel
theorem dX4_store_21 : decode cX4_store 21 = .ok (.if_icmp .le 10, 3) := by decide +kernel
theorem dX4_store_24 : decode cX4_store 24 = .ok (.aload_n 0, 1) := by decide +kernel
theorem dX4_store_25 : decode cX4_store 25 = .ok (.bipush (-2), 2) := by decide +kernel
theorem dX4_store_27 : decode cX4_store 27 = .ok (.invokevirtual 47, 3) := by decide +kernel
theorem dX4_store_30 : decode cX4_store 30 = .ok (.ireturn, 1) := by decide +kernel
theorem dX4_store_31 : decode cX4_store 31 = .ok (.aload_n 0, 1) := by decide +kernel
theorem dX4_store_32 : decode cX4_store 32 = .ok (.invokevirtual 51, 3) := by decide +kernel
theorem dX4_store_35 : decode cX4_store 35 = .ok (.aload_n 0, 1) := by decide +kernel
theorem dX4_store_36 : decode cX4_store 36 = .ok (.getfield 10, 3) := by decide +kernel
theorem dX4_store_39 : decode cX4_store 39 = .ok (.aload_n 0, 1) := by decide +kernel
theorem dX4_store_40 : decode cX4_store 40 = .ok (.getfield 10, 3) := by decide +kernel
theorem dX4_store_43 : decode cX4_store 43 = .ok (.getfield 70, 3) := by decide +kernel
theorem dX4_store_46 : decode cX4_store 46 = .ok (.iload_n 1, 1) := by decide +kernel
theorem dX4_store_47 : decode cX4_store 47 = .ok (.aaload, 1) := by decide +kernel
theorem dX4_store_48 : decode cX4_store 48 = .ok (.iload_n 2, 1) := by decide +kernel
theorem dX4_store_49 : decode cX4_store 49 = .ok (.iload_n 3, 1) := by decide +kernel
theorem dX4_store_50 : decode cX4_store 50 = .ok (.invokevirtual 74, 3) := by decide +kernel
theorem dX4_store_53 : decode cX4_store 53 = .ok (.ireturn, 1) := by decide +kernel
theorem dX4_fence_0 : decode cX4_fence 0 = .ok (.aload_n 0, 1) := by decide +kernel
theorem dX4_fence_1 : decode cX4_fence 1 = .ok (.invokevirtual 51, 3) := by decide +kernel
theorem dX4_fence_4 : decode cX4_fence 4 = .ok (.aload_n 0, 1) := by decide +kernel
theorem dX4_fence_5 : decode cX4_fence 5 = .ok (.getfield 10, 3) := by decide +kernel
theorem dX4_fence_8 : decode cX4_fence 8 = .ok (.aconst_null, 1) := by decide +kernel
theorem dX4_fence_9 : decode cX4_fence 9 = .ok (.iconst 0, 1) := by decide +kernel
theorem dX4_fence_10 : decode cX4_fence 10 = .ok (.iconst (-1), 1) := by decide +kernel
theorem dX4_fence_11 : decode cX4_fence 11 = .ok (.invokevirtual 74, 3) := by decide +kernel
theorem dX4_fence_14 : decode cX4_fence 14 = .ok (.ireturn, 1) := by decide +kernel
theorem dX4_ticks_0 : decode cX4_ticks 0 = .ok (.iload_n 1, 1) := by decide +kernel
theorem dX4_ticks_1 : decode cX4_ticks 1 = .ok (.ifCond .lt 9, 3) := by decide +kernel
theorem dX4_ticks_4 : decode cX4_ticks 4 = .ok (.iload_n 1, 1) := by decide +kernel
theorem dX4_ticks_5 : decode cX4_ticks 5 = .ok (.bipush 99, 2) := by decide +kernel
theorem dX4_ticks_7 : decode cX4_ticks 7 = .ok (.if_icmp .le 10, 3) := by decide +kernel
theorem dX4_ticks_10 : decode cX4_ticks 10 = .ok (.aload_n 0, 1) := by decide +kernel
theorem dX4_ticks_11 : decode cX4_ticks 11 = .ok (.bipush (-2), 2) := by decide +kernel
theorem dX4_ticks_13 : decode cX4_ticks 13 = .ok (.invokevirtual 47, 3) := by decide +kernel
theorem dX4_ticks_16 : decode cX4_ticks 16 = .ok (.ireturn, 1) := by decide +kernel
theorem dX4_ticks_17 : decode cX4_ticks 17 = .ok (.aload_n 0, 1) := by decide +kernel
theorem dX4_ticks_18 : decode cX4_ticks 18 = .ok (.invokevirtual 51, 3) := by decide +kernel
theorem dX4_ticks_21 : decode cX4_ticks 21 = .ok (.aload_n 0, 1) := by decide +kernel
theorem dX4_ticks_22 : decode cX4_ticks 22 = .ok (.getfield 10, 3) := by decide +kernel
theorem dX4_ticks_25 : decode cX4_ticks 25 = .ok (.getfield 60, 3) := by decide +kernel
theorem dX4_ticks_28 : decode cX4_ticks 28 = .ok (.bipush 8, 2) := by decide +kernel
theorem dX4_ticks_30 : decode cX4_ticks 30 = .ok (.iaload, 1) := by decide +kernel
theorem dX4_ticks_31 : decode cX4_ticks 31 = .ok (.istore_n 2, 1) := by decide +kernel
theorem dX4_ticks_32 : decode cX4_ticks 32 = .ok (.aload_n 0, 1) := by decide +kernel
theorem dX4_ticks_33 : decode cX4_ticks 33 = .ok (.getfield 10, 3) := by decide +kernel
theorem dX4_ticks_36 : decode cX4_ticks 36 = .ok (.iload_n 1, 1) := by decide +kernel
theorem dX4_ticks_37 : decode cX4_ticks 37 = .ok (.invokevirtual 78, 3) := by decide +kernel
theorem dX4_ticks_40 : decode cX4_ticks 40 = .ok (.aload_n 0, 1) := by decide +kernel
theorem dX4_ticks_41 : decode cX4_ticks 41 = .ok (.getfield 10, 3) := by decide +kernel
theorem dX4_ticks_44 : decode cX4_ticks 44 = .ok (.getfield 60, 3) := by decide +kernel
theorem dX4_ticks_47 : decode cX4_ticks 47 = .ok (.bipush 8, 2) := by decide +kernel
theorem dX4_ticks_49 : decode cX4_ticks 49 = .ok (.iaload, 1) := by decide +kernel
theorem dX4_ticks_50 : decode cX4_ticks 50 = .ok (.iload_n 2, 1) := by decide +kernel
theorem dX4_ticks_51 : decode cX4_ticks 51 = .ok (.isub, 1) := by decide +kernel
theorem dX4_ticks_52 : decode cX4_ticks 52 = .ok (.ireturn, 1) := by decide +kernel
theorem dX4_draw_0 : decode cX4_draw 0 = .ok (.iload_n 1, 1) := by decide +kernel
theorem dX4_draw_1 : decode cX4_draw 1 = .ok (.ifCond .lt 20, 3) := by decide +kernel
theorem dX4_draw_4 : decode cX4_draw 4 = .ok (.iload_n 1, 1) := by decide +kernel
theorem dX4_draw_5 : decode cX4_draw 5 = .ok (.ldc 82, 2) := by decide +kernel
theorem dX4_draw_7 : decode cX4_draw 7 = .ok (.if_icmp .gt 14, 3) := by decide +kernel
theorem dX4_draw_10 : decode cX4_draw 10 = .ok (.iload_n 2, 1) := by decide +kernel
theorem dX4_draw_11 : decode cX4_draw 11 = .ok (.iconst 1, 1) := by decide +kernel
theorem dX4_draw_12 : decode cX4_draw 12 = .ok (.if_icmp .lt 9, 3) := by decide +kernel
theorem dX4_draw_15 : decode cX4_draw 15 = .ok (.iload_n 2, 1) := by decide +kernel
theorem dX4_draw_16 : decode cX4_draw 16 = .ok (.bipush 40, 2) := by decide +kernel
theorem dX4_draw_18 : decode cX4_draw 18 = .ok (.if_icmp .le 10, 3) := by decide +kernel
theorem dX4_draw_21 : decode cX4_draw 21 = .ok (.aload_n 0, 1) := by decide +kernel
theorem dX4_draw_22 : decode cX4_draw 22 = .ok (.bipush (-2), 2) := by decide +kernel
theorem dX4_draw_24 : decode cX4_draw 24 = .ok (.invokevirtual 47, 3) := by decide +kernel
theorem dX4_draw_27 : decode cX4_draw 27 = .ok (.ireturn, 1) := by decide +kernel
theorem dX4_draw_28 : decode cX4_draw 28 = .ok (.aload_n 0, 1) := by decide +kernel
theorem dX4_draw_29 : decode cX4_draw 29 = .ok (.invokevirtual 51, 3) := by decide +kernel
theorem dX4_draw_32 : decode cX4_draw 32 = .ok (.aload_n 0, 1) := by decide +kernel
theorem dX4_draw_33 : decode cX4_draw 33 = .ok (.getfield 10, 3) := by decide +kernel
theorem dX4_draw_36 : decode cX4_draw 36 = .ok (.getfield 60, 3) := by decide +kernel
theorem dX4_draw_39 : decode cX4_draw 39 = .ok (.bipush 9, 2) := by decide +kernel
theorem dX4_draw_41 : decode cX4_draw 41 = .ok (.iaload, 1) := by decide +kernel
theorem dX4_draw_42 : decode cX4_draw 42 = .ok (.istore_n 3, 1) := by decide +kernel
theorem dX4_draw_43 : decode cX4_draw 43 = .ok (.iload_n 1, 1) := by decide +kernel
theorem dX4_draw_44 : decode cX4_draw 44 = .ok (.i2l, 1) := by decide +kernel
theorem dX4_draw_45 : decode cX4_draw 45 = .ok (.lstore 4, 2) := by decide +kernel
theorem dX4_draw_47 : decode cX4_draw 47 = .ok (.iconst 0, 1) := by decide +kernel
theorem dX4_draw_48 : decode cX4_draw 48 = .ok (.istore 6, 2) := by decide +kernel
theorem dX4_draw_50 : decode cX4_draw 50 = .ok (.iload 6, 2) := by decide +kernel
theorem dX4_draw_52 : decode cX4_draw 52 = .ok (.iload_n 2, 1) := by decide +kernel
theorem dX4_draw_53 : decode cX4_draw 53 = .ok (.if_icmp .ge 113, 3) := by decide +kernel
theorem dX4_draw_56 : decode cX4_draw 56 = .ok (.lload 4, 2) := by decide +kernel
theorem dX4_draw_58 : decode cX4_draw 58 = .ok (.ldc2_w 83, 3) := by decide +kernel
theorem dX4_draw_61 : decode cX4_draw 61 = .ok (.lmul, 1) := by decide +kernel
theorem dX4_draw_62 : decode cX4_draw 62 = .ok (.ldc2_w 85, 3) := by decide +kernel
theorem dX4_draw_65 : decode cX4_draw 65 = .ok (.ladd, 1) := by decide +kernel
theorem dX4_draw_66 : decode cX4_draw 66 = .ok (.ldc2_w 87, 3) := by decide +kernel
theorem dX4_draw_69 : decode cX4_draw 69 = .ok (.lrem, 1) := by decide +kernel
theorem dX4_draw_70 : decode cX4_draw 70 = .ok (.lstore 4, 2) := by decide +kernel
theorem dX4_draw_72 : decode cX4_draw 72 = .ok (.lload 4, 2) := by decide +kernel
theorem dX4_draw_74 : decode cX4_draw 74 = .ok (.ldc2_w 89, 3) := by decide +kernel
theorem dX4_draw_77 : decode cX4_draw 77 = .ok (.ldiv, 1) := by decide +kernel
theorem dX4_draw_78 : decode cX4_draw 78 = .ok (.ldc2_w 91, 3) := by decide +kernel
theorem dX4_draw_81 : decode cX4_draw 81 = .ok (.lrem, 1) := by decide +kernel
theorem dX4_draw_82 : decode cX4_draw 82 = .ok (.l2i, 1) := by decide +kernel
theorem dX4_draw_83 : decode cX4_draw 83 = .ok (.istore 7, 2) := by decide +kernel
theorem dX4_draw_85 : decode cX4_draw 85 = .ok (.lload 4, 2) := by decide +kernel
theorem dX4_draw_87 : decode cX4_draw 87 = .ok (.ldc2_w 93, 3) := by decide +kernel
theorem dX4_draw_90 : decode cX4_draw 90 = .ok (.ldiv, 1) := by decide +kernel
theorem dX4_draw_91 : decode cX4_draw 91 = .ok (.ldc2_w 95, 3) := by decide +kernel
theorem dX4_draw_94 : decode cX4_draw 94 = .ok (.lrem, 1) := by decide +kernel
theorem dX4_draw_95 : decode cX4_draw 95 = .ok (.l2i, 1) := by decide +kernel
theorem dX4_draw_96 : decode cX4_draw 96 = .ok (.istore 8, 2) := by decide +kernel
theorem dX4_draw_98 : decode cX4_draw 98 = .ok (.lload 4, 2) := by decide +kernel
theorem dX4_draw_100 : decode cX4_draw 100 = .ok (.ldc2_w 97, 3) := by decide +kernel
theorem dX4_draw_103 : decode cX4_draw 103 = .ok (.ldiv, 1) := by decide +kernel
theorem dX4_draw_104 : decode cX4_draw 104 = .ok (.ldc2_w 99, 3) := by decide +kernel
theorem dX4_draw_107 : decode cX4_draw 107 = .ok (.lrem, 1) := by decide +kernel
theorem dX4_draw_108 : decode cX4_draw 108 = .ok (.lconst 0, 1) := by decide +kernel
theorem dX4_draw_109 : decode cX4_draw 109 = .ok (.lcmp, 1) := by decide +kernel
theorem dX4_draw_110 : decode cX4_draw 110 = .ok (.ifCond .ne 17, 3) := by decide +kernel
theorem dX4_draw_113 : decode cX4_draw 113 = .ok (.lload 4, 2) := by decide +kernel
theorem dX4_draw_115 : decode cX4_draw 115 = .ok (.ldc2_w 101, 3) := by decide +kernel
theorem dX4_draw_118 : decode cX4_draw 118 = .ok (.ldiv, 1) := by decide +kernel
theorem dX4_draw_119 : decode cX4_draw 119 = .ok (.ldc2_w 103, 3) := by decide +kernel
theorem dX4_draw_122 : decode cX4_draw 122 = .ok (.lrem, 1) := by decide +kernel
theorem dX4_draw_123 : decode cX4_draw 123 = .ok (.l2i, 1) := by decide +kernel
theorem dX4_draw_124 : decode cX4_draw 124 = .ok (.goto 4, 3) := by decide +kernel
theorem dX4_draw_127 : decode cX4_draw 127 = .ok (.iconst (-1), 1) := by decide +kernel
theorem dX4_draw_128 : decode cX4_draw 128 = .ok (.istore 9, 2) := by decide +kernel
theorem dX4_draw_130 : decode cX4_draw 130 = .ok (.iload 7, 2) := by decide +kernel
theorem dX4_draw_132 : decode cX4_draw 132 = .ok (.invokestatic 63, 3) := by decide +kernel
theorem dX4_draw_135 : decode cX4_draw 135 = .ok (.ifCond .eq 25, 3) := by decide +kernel
theorem dX4_draw_138 : decode cX4_draw 138 = .ok (.aload_n 0, 1) := by decide +kernel
theorem dX4_draw_139 : decode cX4_draw 139 = .ok (.getfield 10, 3) := by decide +kernel
theorem dX4_draw_142 : decode cX4_draw 142 = .ok (.aload_n 0, 1) := by decide +kernel
theorem dX4_draw_143 : decode cX4_draw 143 = .ok (.getfield 10, 3) := by decide +kernel
theorem dX4_draw_146 : decode cX4_draw 146 = .ok (.getfield 70, 3) := by decide +kernel
theorem dX4_draw_149 : decode cX4_draw 149 = .ok (.iload 7, 2) := by decide +kernel
theorem dX4_draw_151 : decode cX4_draw 151 = .ok (.aaload, 1) := by decide +kernel
theorem dX4_draw_152 : decode cX4_draw 152 = .ok (.iload 8, 2) := by decide +kernel
theorem dX4_draw_154 : decode cX4_draw 154 = .ok (.iload 9, 2) := by decide +kernel
theorem dX4_draw_156 : decode cX4_draw 156 = .ok (.invokevirtual 74, 3) := by decide +kernel
theorem dX4_draw_159 : decode cX4_draw 159 = .ok (.pop, 1) := by decide +kernel
theorem dX4_draw_160 : decode cX4_draw 160 = .ok (.iinc 6 1, 3) := by decide +kernel
theorem dX4_draw_163 : decode cX4_draw 163 = .ok (.goto (-113), 3) := by decide +kernel
theorem dX4_draw_166 : decode cX4_draw 166 = .ok (.aload_n 0, 1) := by decide +kernel
theorem dX4_draw_167 : decode cX4_draw 167 = .ok (.getfield 10, 3) := by decide +kernel
theorem dX4_draw_170 : decode cX4_draw 170 = .ok (.getfield 60, 3) := by decide +kernel
theorem dX4_draw_173 : decode cX4_draw 173 = .ok (.bipush 9, 2) := by decide +kernel
theorem dX4_draw_175 : decode cX4_draw 175 = .ok (.iaload, 1) := by decide +kernel
theorem dX4_draw_176 : decode cX4_draw 176 = .ok (.iload_n 3, 1) := by decide +kernel
theorem dX4_draw_177 : decode cX4_draw 177 = .ok (.isub, 1) := by decide +kernel
theorem dX4_draw_178 : decode cX4_draw 178 = .ok (.ireturn, 1) := by decide +kernel
theorem dX4_got_0 : decode cX4_got 0 = .ok (.iload_n 1, 1) := by decide +kernel
theorem dX4_got_1 : decode cX4_got 1 = .ok (.ifCond .lt 12, 3) := by decide +kernel
theorem dX4_got_4 : decode cX4_got 4 = .ok (.iload_n 2, 1) := by decide +kernel
theorem dX4_got_5 : decode cX4_got 5 = .ok (.ifCond .lt 8, 3) := by decide +kernel
theorem dX4_got_8 : decode cX4_got 8 = .ok (.iload_n 2, 1) := by decide +kernel
theorem dX4_got_9 : decode cX4_got 9 = .ok (.iconst 2, 1) := by decide +kernel
theorem dX4_got_10 : decode cX4_got 10 = .ok (.if_icmp .le 10, 3) := by decide +kernel
theorem dX4_got_13 : decode cX4_got 13 = .ok (.aload_n 0, 1) := by decide +kernel
theorem dX4_got_14 : decode cX4_got 14 = .ok (.bipush (-2), 2) := by decide +kernel
theorem dX4_got_16 : decode cX4_got 16 = .ok (.invokevirtual 47, 3) := by decide +kernel
theorem dX4_got_19 : decode cX4_got 19 = .ok (.ireturn, 1) := by decide +kernel
theorem dX4_got_20 : decode cX4_got 20 = .ok (.aload_n 0, 1) := by decide +kernel
theorem dX4_got_21 : decode cX4_got 21 = .ok (.getfield 10, 3) := by decide +kernel
end
section
theorem dX4_got_24 : decode cX4_got 24 = .ok (.getfield 105, 3) := by decide +kernel
theorem dX4_got_27 : decode cX4_got 27 = .ok (.astore_n 3, 1) := by decide +kernel
theorem dX4_got_28 : decode cX4_got 28 = .ok (.iload_n 1, 1) := by decide +kernel
theorem dX4_got_29 : decode cX4_got 29 = .ok (.aload_n 3, 1) := by decide +kernel
theorem dX4_got_30 : decode cX4_got 30 = .ok (.getfield 109, 3) := by decide +kernel
theorem dX4_got_33 : decode cX4_got 33 = .ok (.if_icmp .ge 10, 3) := by decide +kernel
theorem dX4_got_36 : decode cX4_got 36 = .ok (.iload_n 1, 1) := by decide +kernel
theorem dX4_got_37 : decode cX4_got 37 = .ok (.sipush 200, 3) := by decide +kernel
theorem dX4_got_40 : decode cX4_got 40 = .ok (.if_icmp .lt 5, 3) := by decide +kernel
theorem dX4_got_43 : decode cX4_got 43 = .ok (.iconst (-1), 1) := by decide +kernel
theorem dX4_got_44 : decode cX4_got 44 = .ok (.ireturn, 1) := by decide +kernel
theorem dX4_got_45 : decode cX4_got 45 = .ok (.iload_n 2, 1) := by decide +kernel
theorem dX4_got_46 : decode cX4_got 46 = .ok (.ifCond .ne 12, 3) := by decide +kernel
theorem dX4_got_49 : decode cX4_got 49 = .ok (.aload_n 3, 1) := by decide +kernel
theorem dX4_got_50 : decode cX4_got 50 = .ok (.getfield 114, 3) := by decide +kernel
theorem dX4_got_53 : decode cX4_got 53 = .ok (.iload_n 1, 1) := by decide +kernel
theorem dX4_got_54 : decode cX4_got 54 = .ok (.iaload, 1) := by decide +kernel
theorem dX4_got_55 : decode cX4_got 55 = .ok (.goto 23, 3) := by decide +kernel
theorem dX4_got_58 : decode cX4_got 58 = .ok (.iload_n 2, 1) := by decide +kernel
theorem dX4_got_59 : decode cX4_got 59 = .ok (.iconst 1, 1) := by decide +kernel
theorem dX4_got_60 : decode cX4_got 60 = .ok (.if_icmp .ne 12, 3) := by decide +kernel
theorem dX4_got_63 : decode cX4_got 63 = .ok (.aload_n 3, 1) := by decide +kernel
theorem dX4_got_64 : decode cX4_got 64 = .ok (.getfield 117, 3) := by decide +kernel
theorem dX4_got_67 : decode cX4_got 67 = .ok (.iload_n 1, 1) := by decide +kernel
theorem dX4_got_68 : decode cX4_got 68 = .ok (.iaload, 1) := by decide +kernel
theorem dX4_got_69 : decode cX4_got 69 = .ok (.goto 9, 3) := by decide +kernel
theorem dX4_got_72 : decode cX4_got 72 = .ok (.aload_n 3, 1) := by decide +kernel
theorem dX4_got_73 : decode cX4_got 73 = .ok (.getfield 120, 3) := by decide +kernel
theorem dX4_got_76 : decode cX4_got 76 = .ok (.iload_n 1, 1) := by decide +kernel
theorem dX4_got_77 : decode cX4_got 77 = .ok (.iaload, 1) := by decide +kernel
theorem dX4_got_78 : decode cX4_got 78 = .ok (.ireturn, 1) := by decide +kernel
theorem dX4_often_0 : decode cX4_often 0 = .ok (.iload_n 1, 1) := by decide +kernel
theorem dX4_often_1 : decode cX4_often 1 = .ok (.ifCond .lt 9, 3) := by decide +kernel
theorem dX4_often_4 : decode cX4_often 4 = .ok (.iload_n 1, 1) := by decide +kernel
theorem dX4_often_5 : decode cX4_often 5 = .ok (.bipush 10, 2) := by decide +kernel
theorem dX4_often_7 : decode cX4_often 7 = .ok (.if_icmp .lt 10, 3) := by decide +kernel
theorem dX4_often_10 : decode cX4_often 10 = .ok (.aload_n 0, 1) := by decide +kernel
theorem dX4_often_11 : decode cX4_often 11 = .ok (.bipush (-2), 2) := by decide +kernel
theorem dX4_often_13 : decode cX4_often 13 = .ok (.invokevirtual 47, 3) := by decide +kernel
theorem dX4_often_16 : decode cX4_often 16 = .ok (.ireturn, 1) := by decide +kernel
theorem dX4_often_17 : decode cX4_often 17 = .ok (.aload_n 0, 1) := by decide +kernel
theorem dX4_often_18 : decode cX4_often 18 = .ok (.getfield 10, 3) := by decide +kernel
theorem dX4_often_21 : decode cX4_often 21 = .ok (.getfield 60, 3) := by decide +kernel
theorem dX4_often_24 : decode cX4_often 24 = .ok (.iload_n 1, 1) := by decide +kernel
theorem dX4_often_25 : decode cX4_often 25 = .ok (.iaload, 1) := by decide +kernel
theorem dX4_often_26 : decode cX4_often 26 = .ok (.ireturn, 1) := by decide +kernel
theorem dX4_where_0 : decode cX4_where 0 = .ok (.iload_n 1, 1) := by decide +kernel
theorem dX4_where_1 : decode cX4_where 1 = .ok (.invokestatic 63, 3) := by decide +kernel
theorem dX4_where_4 : decode cX4_where 4 = .ok (.ifCond .ne 10, 3) := by decide +kernel
theorem dX4_where_7 : decode cX4_where 7 = .ok (.aload_n 0, 1) := by decide +kernel
theorem dX4_where_8 : decode cX4_where 8 = .ok (.bipush (-2), 2) := by decide +kernel
theorem dX4_where_10 : decode cX4_where 10 = .ok (.invokevirtual 47, 3) := by decide +kernel
theorem dX4_where_13 : decode cX4_where 13 = .ok (.ireturn, 1) := by decide +kernel
theorem dX4_where_14 : decode cX4_where 14 = .ok (.aload_n 0, 1) := by decide +kernel
theorem dX4_where_15 : decode cX4_where 15 = .ok (.getfield 10, 3) := by decide +kernel
theorem dX4_where_18 : decode cX4_where 18 = .ok (.getfield 70, 3) := by decide +kernel
theorem dX4_where_21 : decode cX4_where 21 = .ok (.iload_n 1, 1) := by decide +kernel
theorem dX4_where_22 : decode cX4_where 22 = .ok (.aaload, 1) := by decide +kernel
theorem dX4_where_23 : decode cX4_where 23 = .ok (.getfield 123, 3) := by decide +kernel
theorem dX4_where_26 : decode cX4_where 26 = .ok (.ireturn, 1) := by decide +kernel
theorem dX4_item_0 : decode cX4_item 0 = .ok (.iload_n 1, 1) := by decide +kernel
theorem dX4_item_1 : decode cX4_item 1 = .ok (.invokestatic 63, 3) := by decide +kernel
theorem dX4_item_4 : decode cX4_item 4 = .ok (.ifCond .eq 19, 3) := by decide +kernel
theorem dX4_item_7 : decode cX4_item 7 = .ok (.iload_n 2, 1) := by decide +kernel
theorem dX4_item_8 : decode cX4_item 8 = .ok (.invokestatic 67, 3) := by decide +kernel
theorem dX4_item_11 : decode cX4_item 11 = .ok (.ifCond .eq 12, 3) := by decide +kernel
theorem dX4_item_14 : decode cX4_item 14 = .ok (.iload_n 3, 1) := by decide +kernel
theorem dX4_item_15 : decode cX4_item 15 = .ok (.ifCond .lt 8, 3) := by decide +kernel
theorem dX4_item_18 : decode cX4_item 18 = .ok (.iload_n 3, 1) := by decide +kernel
theorem dX4_item_19 : decode cX4_item 19 = .ok (.iconst 2, 1) := by decide +kernel
theorem dX4_item_20 : decode cX4_item 20 = .ok (.if_icmp .le 10, 3) := by decide +kernel
theorem dX4_item_23 : decode cX4_item 23 = .ok (.aload_n 0, 1) := by decide +kernel
theorem dX4_item_24 : decode cX4_item 24 = .ok (.bipush (-2), 2) := by decide +kernel
theorem dX4_item_26 : decode cX4_item 26 = .ok (.invokevirtual 47, 3) := by decide +kernel
theorem dX4_item_29 : decode cX4_item 29 = .ok (.ireturn, 1) := by decide +kernel
theorem dX4_item_30 : decode cX4_item 30 = .ok (.aload_n 0, 1) := by decide +kernel
theorem dX4_item_31 : decode cX4_item 31 = .ok (.getfield 10, 3) := by decide +kernel
theorem dX4_item_34 : decode cX4_item 34 = .ok (.getfield 70, 3) := by decide +kernel
theorem dX4_item_37 : decode cX4_item 37 = .ok (.iload_n 1, 1) := by decide +kernel
theorem dX4_item_38 : decode cX4_item 38 = .ok (.aaload, 1) := by decide +kernel
theorem dX4_item_39 : decode cX4_item 39 = .ok (.astore 4, 2) := by decide +kernel
theorem dX4_item_41 : decode cX4_item 41 = .ok (.iload_n 3, 1) := by decide +kernel
theorem dX4_item_42 : decode cX4_item 42 = .ok (.ifCond .ne 11, 3) := by decide +kernel
theorem dX4_item_45 : decode cX4_item 45 = .ok (.aload 4, 2) := by decide +kernel
theorem dX4_item_47 : decode cX4_item 47 = .ok (.getfield 128, 3) := by decide +kernel
theorem dX4_item_50 : decode cX4_item 50 = .ok (.iload_n 2, 1) := by decide +kernel
theorem dX4_item_51 : decode cX4_item 51 = .ok (.iaload, 1) := by decide +kernel
theorem dX4_item_52 : decode cX4_item 52 = .ok (.ireturn, 1) := by decide +kernel
theorem dX4_item_53 : decode cX4_item 53 = .ok (.iload_n 3, 1) := by decide +kernel
theorem dX4_item_54 : decode cX4_item 54 = .ok (.iconst 1, 1) := by decide +kernel
theorem dX4_item_55 : decode cX4_item 55 = .ok (.if_icmp .ne 12, 3) := by decide +kernel
theorem dX4_item_58 : decode cX4_item 58 = .ok (.aload 4, 2) := by decide +kernel
theorem dX4_item_60 : decode cX4_item 60 = .ok (.iload_n 2, 1) := by decide +kernel
theorem dX4_item_61 : decode cX4_item 61 = .ok (.invokevirtual 131, 3) := by decide +kernel
theorem dX4_item_64 : decode cX4_item 64 = .ok (.goto 9, 3) := by decide +kernel
theorem dX4_item_67 : decode cX4_item 67 = .ok (.aload 4, 2) := by decide +kernel
theorem dX4_item_69 : decode cX4_item 69 = .ok (.iload_n 2, 1) := by decide +kernel
theorem dX4_item_70 : decode cX4_item 70 = .ok (.invokevirtual 134, 3) := by decide +kernel
theorem dX4_item_73 : decode cX4_item 73 = .ok (.ireturn, 1) := by decide +kernel
theorem dX4_place_0 : decode cX4_place 0 = .ok (.iload_n 1, 1) := by decide +kernel
theorem dX4_place_1 : decode cX4_place 1 = .ok (.ifCond .lt 17, 3) := by decide +kernel
theorem dX4_place_4 : decode cX4_place 4 = .ok (.iload_n 1, 1) := by decide +kernel
theorem dX4_place_5 : decode cX4_place 5 = .ok (.iconst 4, 1) := by decide +kernel
theorem dX4_place_6 : decode cX4_place 6 = .ok (.if_icmp .ge 12, 3) := by decide +kernel
theorem dX4_place_9 : decode cX4_place 9 = .ok (.iload_n 2, 1) := by decide +kernel
theorem dX4_place_10 : decode cX4_place 10 = .ok (.ifCond .lt 8, 3) := by decide +kernel
theorem dX4_place_13 : decode cX4_place 13 = .ok (.iload_n 2, 1) := by decide +kernel
theorem dX4_place_14 : decode cX4_place 14 = .ok (.iconst 3, 1) := by decide +kernel
theorem dX4_place_15 : decode cX4_place 15 = .ok (.if_icmp .lt 10, 3) := by decide +kernel
theorem dX4_place_18 : decode cX4_place 18 = .ok (.aload_n 0, 1) := by decide +kernel
theorem dX4_place_19 : decode cX4_place 19 = .ok (.bipush (-2), 2) := by decide +kernel
theorem dX4_place_21 : decode cX4_place 21 = .ok (.invokevirtual 47, 3) := by decide +kernel
theorem dX4_place_24 : decode cX4_place 24 = .ok (.ireturn, 1) := by decide +kernel
theorem dX4_place_25 : decode cX4_place 25 = .ok (.aload_n 0, 1) := by decide +kernel
theorem dX4_place_26 : decode cX4_place 26 = .ok (.getfield 10, 3) := by decide +kernel
theorem dX4_place_29 : decode cX4_place 29 = .ok (.iload_n 1, 1) := by decide +kernel
theorem dX4_place_30 : decode cX4_place 30 = .ok (.iload_n 2, 1) := by decide +kernel
theorem dX4_place_31 : decode cX4_place 31 = .ok (.invokevirtual 137, 3) := by decide +kernel
theorem dX4_place_34 : decode cX4_place 34 = .ok (.ireturn, 1) := by decide +kernel
theorem dX4_fetch_0 : decode cX4_fetch 0 = .ok (.iload_n 1, 1) := by decide +kernel
theorem dX4_fetch_1 : decode cX4_fetch 1 = .ok (.ifCond .lt 12, 3) := by decide +kernel
theorem dX4_fetch_4 : decode cX4_fetch 4 = .ok (.iload_n 2, 1) := by decide +kernel
theorem dX4_fetch_5 : decode cX4_fetch 5 = .ok (.ifCond .lt 8, 3) := by decide +kernel
theorem dX4_fetch_8 : decode cX4_fetch 8 = .ok (.iload_n 2, 1) := by decide +kernel
theorem dX4_fetch_9 : decode cX4_fetch 9 = .ok (.iconst 2, 1) := by decide +kernel
theorem dX4_fetch_10 : decode cX4_fetch 10 = .ok (.if_icmp .le 10, 3) := by decide +kernel
theorem dX4_fetch_13 : decode cX4_fetch 13 = .ok (.aload_n 0, 1) := by decide +kernel
theorem dX4_fetch_14 : decode cX4_fetch 14 = .ok (.bipush (-2), 2) := by decide +kernel
theorem dX4_fetch_16 : decode cX4_fetch 16 = .ok (.invokevirtual 47, 3) := by decide +kernel
theorem dX4_fetch_19 : decode cX4_fetch 19 = .ok (.ireturn, 1) := by decide +kernel
theorem dX4_fetch_20 : decode cX4_fetch 20 = .ok (.aload_n 0, 1) := by decide +kernel
theorem dX4_fetch_21 : decode cX4_fetch 21 = .ok (.getfield 10, 3) := by decide +kernel
theorem dX4_fetch_24 : decode cX4_fetch 24 = .ok (.iload_n 1, 1) := by decide +kernel
theorem dX4_fetch_25 : decode cX4_fetch 25 = .ok (.invokevirtual 141, 3) := by decide +kernel
theorem dX4_fetch_28 : decode cX4_fetch 28 = .ok (.astore_n 3, 1) := by decide +kernel
theorem dX4_fetch_29 : decode cX4_fetch 29 = .ok (.aload_n 3, 1) := by decide +kernel
theorem dX4_fetch_30 : decode cX4_fetch 30 = .ok (.ifnonnull 5, 3) := by decide +kernel
theorem dX4_fetch_33 : decode cX4_fetch 33 = .ok (.iconst (-1), 1) := by decide +kernel
theorem dX4_fetch_34 : decode cX4_fetch 34 = .ok (.ireturn, 1) := by decide +kernel
theorem dX4_fetch_35 : decode cX4_fetch 35 = .ok (.iload_n 2, 1) := by decide +kernel
theorem dX4_fetch_36 : decode cX4_fetch 36 = .ok (.ifCond .ne 10, 3) := by decide +kernel
theorem dX4_fetch_39 : decode cX4_fetch 39 = .ok (.aload_n 3, 1) := by decide +kernel
theorem dX4_fetch_40 : decode cX4_fetch 40 = .ok (.getfield 145, 3) := by decide +kernel
theorem dX4_fetch_43 : decode cX4_fetch 43 = .ok (.goto 30, 3) := by decide +kernel
theorem dX4_fetch_46 : decode cX4_fetch 46 = .ok (.iload_n 2, 1) := by decide +kernel
theorem dX4_fetch_47 : decode cX4_fetch 47 = .ok (.iconst 1, 1) := by decide +kernel
theorem dX4_fetch_48 : decode cX4_fetch 48 = .ok (.if_icmp .ne 21, 3) := by decide +kernel
theorem dX4_fetch_51 : decode cX4_fetch 51 = .ok (.aload_n 3, 1) := by decide +kernel
theorem dX4_fetch_52 : decode cX4_fetch 52 = .ok (.getfield 148, 3) := by decide +kernel
theorem dX4_fetch_55 : decode cX4_fetch 55 = .ok (.aload_n 0, 1) := by decide +kernel
theorem dX4_fetch_56 : decode cX4_fetch 56 = .ok (.getfield 10, 3) := by decide +kernel
theorem dX4_fetch_59 : decode cX4_fetch 59 = .ok (.getfield 60, 3) := by decide +kernel
theorem dX4_fetch_62 : decode cX4_fetch 62 = .ok (.bipush 9, 2) := by decide +kernel
theorem dX4_fetch_64 : decode cX4_fetch 64 = .ok (.iaload, 1) := by decide +kernel
theorem dX4_fetch_65 : decode cX4_fetch 65 = .ok (.isub, 1) := by decide +kernel
theorem dX4_fetch_66 : decode cX4_fetch 66 = .ok (.goto 7, 3) := by decide +kernel
theorem dX4_fetch_69 : decode cX4_fetch 69 = .ok (.aload_n 3, 1) := by decide +kernel
theorem dX4_fetch_70 : decode cX4_fetch 70 = .ok (.getfield 151, 3) := by decide +kernel
theorem dX4_fetch_73 : decode cX4_fetch 73 = .ok (.ireturn, 1) := by decide +kernel
theorem dX4_cost_0 : decode cX4_cost 0 = .ok (.iload_n 1, 1) := by decide +kernel
theorem dX4_cost_1 : decode cX4_cost 1 = .ok (.ifCond .lt 8, 3) := by decide +kernel
theorem dX4_cost_4 : decode cX4_cost 4 = .ok (.iload_n 1, 1) := by decide +kernel
theorem dX4_cost_5 : decode cX4_cost 5 = .ok (.iconst 2, 1) := by decide +kernel
theorem dX4_cost_6 : decode cX4_cost 6 = .ok (.if_icmp .le 10, 3) := by decide +kernel
theorem dX4_cost_9 : decode cX4_cost 9 = .ok (.aload_n 0, 1) := by decide +kernel
theorem dX4_cost_10 : decode cX4_cost 10 = .ok (.bipush (-2), 2) := by decide +kernel
theorem dX4_cost_12 : decode cX4_cost 12 = .ok (.invokevirtual 47, 3) := by decide +kernel
theorem dX4_cost_15 : decode cX4_cost 15 = .ok (.ireturn, 1) := by decide +kernel
theorem dX4_cost_16 : decode cX4_cost 16 = .ok (.aload_n 0, 1) := by decide +kernel
theorem dX4_cost_17 : decode cX4_cost 17 = .ok (.getfield 10, 3) := by decide +kernel
theorem dX4_cost_20 : decode cX4_cost 20 = .ok (.getfield 105, 3) := by decide +kernel
theorem dX4_cost_23 : decode cX4_cost 23 = .ok (.astore_n 2, 1) := by decide +kernel
theorem dX4_cost_24 : decode cX4_cost 24 = .ok (.iload_n 1, 1) := by decide +kernel
theorem dX4_cost_25 : decode cX4_cost 25 = .ok (.ifCond .ne 13, 3) := by decide +kernel
theorem dX4_cost_28 : decode cX4_cost 28 = .ok (.aload_n 0, 1) := by decide +kernel
theorem dX4_cost_29 : decode cX4_cost 29 = .ok (.getfield 10, 3) := by decide +kernel
theorem dX4_cost_32 : decode cX4_cost 32 = .ok (.getfield 154, 3) := by decide +kernel
theorem dX4_cost_35 : decode cX4_cost 35 = .ok (.goto 20, 3) := by decide +kernel
theorem dX4_cost_38 : decode cX4_cost 38 = .ok (.iload_n 1, 1) := by decide +kernel
theorem dX4_cost_39 : decode cX4_cost 39 = .ok (.iconst 1, 1) := by decide +kernel
theorem dX4_cost_40 : decode cX4_cost 40 = .ok (.if_icmp .ne 10, 3) := by decide +kernel
theorem dX4_cost_43 : decode cX4_cost 43 = .ok (.aload_n 2, 1) := by decide +kernel
theorem dX4_cost_44 : decode cX4_cost 44 = .ok (.invokevirtual 158, 3) := by decide +kernel
theorem dX4_cost_47 : decode cX4_cost 47 = .ok (.goto 8, 3) := by decide +kernel
theorem dX4_cost_50 : decode cX4_cost 50 = .ok (.aload_n 2, 1) := by decide +kernel
theorem dX4_cost_51 : decode cX4_cost 51 = .ok (.getfield 162, 3) := by decide +kernel
theorem dX4_cost_54 : decode cX4_cost 54 = .ok (.i2f, 1) := by decide +kernel
theorem dX4_cost_55 : decode cX4_cost 55 = .ok (.invokestatic 165, 3) := by decide +kernel
theorem dX4_cost_58 : decode cX4_cost 58 = .ok (.ireturn, 1) := by decide +kernel
theorem dX4_even_0 : decode cX4_even 0 = .ok (.aload_n 0, 1) := by decide +kernel
theorem dX4_even_1 : decode cX4_even 1 = .ok (.getfield 10, 3) := by decide +kernel
theorem dX4_even_4 : decode cX4_even 4 = .ok (.getfield 105, 3) := by decide +kernel
theorem dX4_even_7 : decode cX4_even 7 = .ok (.invokevirtual 169, 3) := by decide +kernel
theorem dX4_even_10 : decode cX4_even 10 = .ok (.invokestatic 173, 3) := by decide +kernel
theorem dX4_even_13 : decode cX4_even 13 = .ok (.lreturn, 1) := by decide +kernel
theorem dX4_best_0 : decode cX4_best 0 = .ok (.iload_n 1, 1) := by decide +kernel
theorem dX4_best_1 : decode cX4_best 1 = .ok (.ifCond .lt 8, 3) := by decide +kernel
theorem dX4_best_4 : decode cX4_best 4 = .ok (.iload_n 1, 1) := by decide +kernel
theorem dX4_best_5 : decode cX4_best 5 = .ok (.iconst 1, 1) := by decide +kernel
theorem dX4_best_6 : decode cX4_best 6 = .ok (.if_icmp .le 10, 3) := by decide +kernel
theorem dX4_best_9 : decode cX4_best 9 = .ok (.aload_n 0, 1) := by decide +kernel
theorem dX4_best_10 : decode cX4_best 10 = .ok (.bipush (-2), 2) := by decide +kernel
theorem dX4_best_12 : decode cX4_best 12 = .ok (.invokevirtual 47, 3) := by decide +kernel
theorem dX4_best_15 : decode cX4_best 15 = .ok (.ireturn, 1) := by decide +kernel
theorem dX4_best_16 : decode cX4_best 16 = .ok (.aload_n 0, 1) := by decide +kernel
theorem dX4_best_17 : decode cX4_best 17 = .ok (.getfield 26, 3) := by decide +kernel
theorem dX4_best_20 : decode cX4_best 20 = .ok (.invokevirtual 177, 3) := by decide +kernel
theorem dX4_best_23 : decode cX4_best 23 = .ok (.istore_n 2, 1) := by decide +kernel
theorem dX4_best_24 : decode cX4_best 24 = .ok (.iload_n 2, 1) := by decide +kernel
theorem dX4_best_25 : decode cX4_best 25 = .ok (.iconst (-1), 1) := by decide +kernel
theorem dX4_best_26 : decode cX4_best 26 = .ok (.if_icmp .eq 8, 3) := by decide +kernel
theorem dX4_best_29 : decode cX4_best 29 = .ok (.bipush (-10), 2) := by decide +kernel
theorem dX4_best_31 : decode cX4_best 31 = .ok (.iload_n 2, 1) := by decide +kernel
theorem dX4_best_32 : decode cX4_best 32 = .ok (.isub, 1) := by decide +kernel
theorem dX4_best_33 : decode cX4_best 33 = .ok (.ireturn, 1) := by decide +kernel
theorem dX4_best_34 : decode cX4_best 34 = .ok (.iconst 0, 1) := by decide +kernel
theorem dX4_best_35 : decode cX4_best 35 = .ok (.istore_n 3, 1) := by decide +kernel
theorem dX4_best_36 : decode cX4_best 36 = .ok (.ldc 181, 2) := by decide +kernel
theorem dX4_best_38 : decode cX4_best 38 = .ok (.istore 4, 2) := by decide +kernel
theorem dX4_best_40 : decode cX4_best 40 = .ok (.iconst 1, 1) := by decide +kernel
theorem dX4_best_41 : decode cX4_best 41 = .ok (.istore 5, 2) := by decide +kernel
theorem dX4_best_43 : decode cX4_best 43 = .ok (.iload 5, 2) := by decide +kernel
theorem dX4_best_45 : decode cX4_best 45 = .ok (.iconst 4, 1) := by decide +kernel
theorem dX4_best_46 : decode cX4_best 46 = .ok (.if_icmp .gt 73, 3) := by decide +kernel
theorem dX4_best_49 : decode cX4_best 49 = .ok (.aload_n 0, 1) := by decide +kernel
theorem dX4_best_50 : decode cX4_best 50 = .ok (.getfield 16, 3) := by decide +kernel
theorem dX4_best_53 : decode cX4_best 53 = .ok (.aload_n 0, 1) := by decide +kernel
theorem dX4_best_54 : decode cX4_best 54 = .ok (.getfield 10, 3) := by decide +kernel
theorem dX4_best_57 : decode cX4_best 57 = .ok (.getfield 54, 3) := by decide +kernel
theorem dX4_best_60 : decode cX4_best 60 = .ok (.iload 5, 2) := by decide +kernel
theorem dX4_best_62 : decode cX4_best 62 = .ok (.invokevirtual 182, 3) := by decide +kernel
theorem dX4_best_65 : decode cX4_best 65 = .ok (.aload_n 0, 1) := by decide +kernel
theorem dX4_best_66 : decode cX4_best 66 = .ok (.getfield 16, 3) := by decide +kernel
theorem dX4_best_69 : decode cX4_best 69 = .ok (.aload_n 0, 1) := by decide +kernel
theorem dX4_best_70 : decode cX4_best 70 = .ok (.getfield 26, 3) := by decide +kernel
theorem dX4_best_73 : decode cX4_best 73 = .ok (.invokevirtual 186, 3) := by decide +kernel
theorem dX4_best_76 : decode cX4_best 76 = .ok (.aload_n 0, 1) := by decide +kernel
theorem dX4_best_77 : decode cX4_best 77 = .ok (.getfield 16, 3) := by decide +kernel
theorem dX4_best_80 : decode cX4_best 80 = .ok (.invokevirtual 190, 3) := by decide +kernel
theorem dX4_best_83 : decode cX4_best 83 = .ok (.aload_n 0, 1) := by decide +kernel
theorem dX4_best_84 : decode cX4_best 84 = .ok (.getfield 16, 3) := by decide +kernel
theorem dX4_best_87 : decode cX4_best 87 = .ok (.getfield 60, 3) := by decide +kernel
theorem dX4_best_90 : decode cX4_best 90 = .ok (.bipush 9, 2) := by decide +kernel
theorem dX4_best_92 : decode cX4_best 92 = .ok (.iaload, 1) := by decide +kernel
theorem dX4_best_93 : decode cX4_best 93 = .ok (.iload 4, 2) := by decide +kernel
theorem dX4_best_95 : decode cX4_best 95 = .ok (.if_icmp .ge 18, 3) := by decide +kernel
theorem dX4_best_98 : decode cX4_best 98 = .ok (.iload 5, 2) := by decide +kernel
theorem dX4_best_100 : decode cX4_best 100 = .ok (.istore_n 3, 1) := by decide +kernel
theorem dX4_best_101 : decode cX4_best 101 = .ok (.aload_n 0, 1) := by decide +kernel
theorem dX4_best_102 : decode cX4_best 102 = .ok (.getfield 16, 3) := by decide +kernel
theorem dX4_best_105 : decode cX4_best 105 = .ok (.getfield 60, 3) := by decide +kernel
theorem dX4_best_108 : decode cX4_best 108 = .ok (.bipush 9, 2) := by decide +kernel
theorem dX4_best_110 : decode cX4_best 110 = .ok (.iaload, 1) := by decide +kernel
theorem dX4_best_111 : decode cX4_best 111 = .ok (.istore 4, 2) := by decide +kernel
theorem dX4_best_113 : decode cX4_best 113 = .ok (.iinc 5 1, 3) := by decide +kernel
theorem dX4_best_116 : decode cX4_best 116 = .ok (.goto (-73), 3) := by decide +kernel
theorem dX4_best_119 : decode cX4_best 119 = .ok (.iload_n 1, 1) := by decide +kernel
theorem dX4_best_120 : decode cX4_best 120 = .ok (.ifCond .ne 7, 3) := by decide +kernel
theorem dX4_best_123 : decode cX4_best 123 = .ok (.iload_n 3, 1) := by decide +kernel
theorem dX4_best_124 : decode cX4_best 124 = .ok (.goto 5, 3) := by decide +kernel
theorem dX4_best_127 : decode cX4_best 127 = .ok (.iload 4, 2) := by decide +kernel
theorem dX4_best_129 : decode cX4_best 129 = .ok (.ireturn, 1) := by decide +kernel
theorem dX4_type_0 : decode cX4_type 0 = .ok (.iload_n 1, 1) := by decide +kernel
theorem dX4_type_1 : decode cX4_type 1 = .ok (.ifCond .lt 9, 3) := by decide +kernel
theorem dX4_type_4 : decode cX4_type 4 = .ok (.iload_n 1, 1) := by decide +kernel
theorem dX4_type_5 : decode cX4_type 5 = .ok (.bipush 127, 2) := by decide +kernel
theorem dX4_type_7 : decode cX4_type 7 = .ok (.if_icmp .le 10, 3) := by decide +kernel
theorem dX4_type_10 : decode cX4_type 10 = .ok (.aload_n 0, 1) := by decide +kernel
theorem dX4_type_11 : decode cX4_type 11 = .ok (.bipush (-2), 2) := by decide +kernel
theorem dX4_type_13 : decode cX4_type 13 = .ok (.invokevirtual 47, 3) := by decide +kernel
theorem dX4_type_16 : decode cX4_type 16 = .ok (.ireturn, 1) := by decide +kernel
theorem dX4_type_17 : decode cX4_type 17 = .ok (.aload_n 0, 1) := by decide +kernel
theorem dX4_type_18 : decode cX4_type 18 = .ok (.getfield 26, 3) := by decide +kernel
theorem dX4_type_21 : decode cX4_type 21 = .ok (.getfield 193, 3) := by decide +kernel
theorem dX4_type_24 : decode cX4_type 24 = .ok (.ifCond .lt 15, 3) := by decide +kernel
theorem dX4_type_27 : decode cX4_type 27 = .ok (.aload_n 0, 1) := by decide +kernel
theorem dX4_type_28 : decode cX4_type 28 = .ok (.getfield 26, 3) := by decide +kernel
theorem dX4_type_31 : decode cX4_type 31 = .ok (.getfield 193, 3) := by decide +kernel
theorem dX4_type_34 : decode cX4_type 34 = .ok (.bipush 120, 2) := by decide +kernel
theorem dX4_type_36 : decode cX4_type 36 = .ok (.if_icmp .lt 10, 3) := by decide +kernel
theorem dX4_type_39 : decode cX4_type 39 = .ok (.aload_n 0, 1) := by decide +kernel
theorem dX4_type_40 : decode cX4_type 40 = .ok (.bipush (-4), 2) := by decide +kernel
theorem dX4_type_42 : decode cX4_type 42 = .ok (.invokevirtual 47, 3) := by decide +kernel
theorem dX4_type_45 : decode cX4_type 45 = .ok (.ireturn, 1) := by decide +kernel
theorem dX4_type_46 : decode cX4_type 46 = .ok (.aload_n 0, 1) := by decide +kernel
theorem dX4_type_47 : decode cX4_type 47 = .ok (.getfield 26, 3) := by decide +kernel
theorem dX4_type_50 : decode cX4_type 50 = .ok (.getfield 196, 3) := by decide +kernel
theorem dX4_type_53 : decode cX4_type 53 = .ok (.aload_n 0, 1) := by decide +kernel
theorem dX4_type_54 : decode cX4_type 54 = .ok (.getfield 26, 3) := by decide +kernel
theorem dX4_type_57 : decode cX4_type 57 = .ok (.getfield 193, 3) := by decide +kernel
theorem dX4_type_60 : decode cX4_type 60 = .ok (.iload_n 1, 1) := by decide +kernel
theorem dX4_type_61 : decode cX4_type 61 = .ok (.iastore, 1) := by decide +kernel
theorem dX4_type_62 : decode cX4_type 62 = .ok (.aload_n 0, 1) := by decide +kernel
theorem dX4_type_63 : decode cX4_type 63 = .ok (.getfield 26, 3) := by decide +kernel
theorem dX4_type_66 : decode cX4_type 66 = .ok (.dup, 1) := by decide +kernel
theorem dX4_type_67 : decode cX4_type 67 = .ok (.getfield 193, 3) := by decide +kernel
theorem dX4_type_70 : decode cX4_type 70 = .ok (.iconst 1, 1) := by decide +kernel
theorem dX4_type_71 : decode cX4_type 71 = .ok (.iadd, 1) := by decide +kernel
theorem dX4_type_72 : decode cX4_type 72 = .ok (.putfield 193, 3) := by decide +kernel
theorem dX4_type_75 : decode cX4_type 75 = .ok (.aload_n 0, 1) := by decide +kernel
theorem dX4_type_76 : decode cX4_type 76 = .ok (.getfield 26, 3) := by decide +kernel
theorem dX4_type_79 : decode cX4_type 79 = .ok (.getfield 193, 3) := by decide +kernel
theorem dX4_type_82 : decode cX4_type 82 = .ok (.ireturn, 1) := by decide +kernel
theorem dX4_clear_0 : decode cX4_clear 0 = .ok (.aload_n 0, 1) := by decide +kernel
theorem dX4_clear_1 : decode cX4_clear 1 = .ok (.getfield 26, 3) := by decide +kernel
theorem dX4_clear_4 : decode cX4_clear 4 = .ok (.getfield 193, 3) := by decide +kernel
theorem dX4_clear_7 : decode cX4_clear 7 = .ok (.istore_n 1, 1) := by decide +kernel
theorem dX4_clear_8 : decode cX4_clear 8 = .ok (.aload_n 0, 1) := by decide +kernel
theorem dX4_clear_9 : decode cX4_clear 9 = .ok (.getfield 26, 3) := by decide +kernel
theorem dX4_clear_12 : decode cX4_clear 12 = .ok (.iconst 0, 1) := by decide +kernel
theorem dX4_clear_13 : decode cX4_clear 13 = .ok (.putfield 193, 3) := by decide +kernel
theorem dX4_clear_16 : decode cX4_clear 16 = .ok (.iload_n 1, 1) := by decide +kernel
theorem dX4_clear_17 : decode cX4_clear 17 = .ok (.ireturn, 1) := by decide +kernel
theorem dX4_runs_0 : decode cX4_runs 0 = .ok (.aload_n 0, 1) := by decide +kernel
theorem dX4_runs_1 : decode cX4_runs 1 = .ok (.getfield 26, 3) := by decide +kernel
theorem dX4_runs_4 : decode cX4_runs 4 = .ok (.invokevirtual 177, 3) := by decide +kernel
theorem dX4_runs_7 : decode cX4_runs 7 = .ok (.istore_n 1, 1) := by decide +kernel
theorem dX4_runs_8 : decode cX4_runs 8 = .ok (.iload_n 1, 1) := by decide +kernel
theorem dX4_runs_9 : decode cX4_runs 9 = .ok (.iconst (-1), 1) := by decide +kernel
theorem dX4_runs_10 : decode cX4_runs 10 = .ok (.if_icmp .eq 8, 3) := by decide +kernel
theorem dX4_runs_13 : decode cX4_runs 13 = .ok (.bipush (-10), 2) := by decide +kernel
theorem dX4_runs_15 : decode cX4_runs 15 = .ok (.iload_n 1, 1) := by decide +kernel
theorem dX4_runs_16 : decode cX4_runs 16 = .ok (.isub, 1) := by decide +kernel
theorem dX4_runs_17 : decode cX4_runs 17 = .ok (.ireturn, 1) := by decide +kernel
theorem dX4_runs_18 : decode cX4_runs 18 = .ok (.aload_n 0, 1) := by decide +kernel
theorem dX4_runs_19 : decode cX4_runs 19 = .ok (.invokevirtual 51, 3) := by decide +kernel
theorem dX4_runs_22 : decode cX4_runs 22 = .ok (.aload_n 0, 1) := by decide +kernel
theorem dX4_runs_23 : decode cX4_runs 23 = .ok (.getfield 10, 3) := by decide +kernel
theorem dX4_runs_26 : decode cX4_runs 26 = .ok (.getfield 60, 3) := by decide +kernel
theorem dX4_runs_29 : decode cX4_runs 29 = .ok (.bipush 9, 2) := by decide +kernel
theorem dX4_runs_31 : decode cX4_runs 31 = .ok (.iaload, 1) := by decide +kernel
theorem dX4_runs_32 : decode cX4_runs 32 = .ok (.istore_n 2, 1) := by decide +kernel
theorem dX4_runs_33 : decode cX4_runs 33 = .ok (.aload_n 0, 1) := by decide +kernel
theorem dX4_runs_34 : decode cX4_runs 34 = .ok (.getfield 10, 3) := by decide +kernel
theorem dX4_runs_37 : decode cX4_runs 37 = .ok (.aload_n 0, 1) := by decide +kernel
theorem dX4_runs_38 : decode cX4_runs 38 = .ok (.getfield 26, 3) := by decide +kernel
theorem dX4_runs_41 : decode cX4_runs 41 = .ok (.invokevirtual 186, 3) := by decide +kernel
theorem dX4_runs_44 : decode cX4_runs 44 = .ok (.aload_n 0, 1) := by decide +kernel
theorem dX4_runs_45 : decode cX4_runs 45 = .ok (.getfield 10, 3) := by decide +kernel
theorem dX4_runs_48 : decode cX4_runs 48 = .ok (.getfield 60, 3) := by decide +kernel
theorem dX4_runs_51 : decode cX4_runs 51 = .ok (.bipush 9, 2) := by decide +kernel
theorem dX4_runs_53 : decode cX4_runs 53 = .ok (.iaload, 1) := by decide +kernel
theorem dX4_runs_54 : decode cX4_runs 54 = .ok (.iload_n 2, 1) := by decide +kernel
theorem dX4_runs_55 : decode cX4_runs 55 = .ok (.isub, 1) := by decide +kernel
theorem dX4_runs_56 : decode cX4_runs 56 = .ok (.ireturn, 1) := by decide +kernel
theorem dX4_back_0 : decode cX4_back 0 = .ok (.aload_n 0, 1) := by decide +kernel
theorem dX4_back_1 : decode cX4_back 1 = .ok (.getfield 38, 3) := by decide +kernel
theorem dX4_back_4 : decode cX4_back 4 = .ok (.ifCond .le 19, 3) := by decide +kernel
theorem dX4_back_7 : decode cX4_back 7 = .ok (.aload_n 0, 1) := by decide +kernel
theorem dX4_back_8 : decode cX4_back 8 = .ok (.getfield 34, 3) := by decide +kernel
theorem dX4_back_11 : decode cX4_back 11 = .ok (.ifCond .lt 12, 3) := by decide +kernel
theorem dX4_back_14 : decode cX4_back 14 = .ok (.aload_n 0, 1) := by decide +kernel
theorem dX4_back_15 : decode cX4_back 15 = .ok (.getfield 34, 3) := by decide +kernel
theorem dX4_back_18 : decode cX4_back 18 = .ok (.bipush 6, 2) := by decide +kernel
theorem dX4_back_20 : decode cX4_back 20 = .ok (.if_icmp .lt 10, 3) := by decide +kernel
theorem dX4_back_23 : decode cX4_back 23 = .ok (.aload_n 0, 1) := by decide +kernel
theorem dX4_back_24 : decode cX4_back 24 = .ok (.bipush (-3), 2) := by decide +kernel
theorem dX4_back_26 : decode cX4_back 26 = .ok (.invokevirtual 47, 3) := by decide +kernel
theorem dX4_back_29 : decode cX4_back 29 = .ok (.ireturn, 1) := by decide +kernel
theorem dX4_back_30 : decode cX4_back 30 = .ok (.aload_n 0, 1) := by decide +kernel
theorem dX4_back_31 : decode cX4_back 31 = .ok (.getfield 10, 3) := by decide +kernel
theorem dX4_back_34 : decode cX4_back 34 = .ok (.aload_n 0, 1) := by decide +kernel
theorem dX4_back_35 : decode cX4_back 35 = .ok (.getfield 19, 3) := by decide +kernel
theorem dX4_back_38 : decode cX4_back 38 = .ok (.aload_n 0, 1) := by decide +kernel
theorem dX4_back_39 : decode cX4_back 39 = .ok (.getfield 34, 3) := by decide +kernel
theorem dX4_back_42 : decode cX4_back 42 = .ok (.aaload, 1) := by decide +kernel
theorem dX4_back_43 : decode cX4_back 43 = .ok (.invokevirtual 199, 3) := by decide +kernel
theorem dX4_back_46 : decode cX4_back 46 = .ok (.aload_n 0, 1) := by decide +kernel
theorem dX4_back_47 : decode cX4_back 47 = .ok (.aload_n 0, 1) := by decide +kernel
theorem dX4_back_48 : decode cX4_back 48 = .ok (.getfield 34, 3) := by decide +kernel
theorem dX4_back_51 : decode cX4_back 51 = .ok (.bipush 6, 2) := by decide +kernel
theorem dX4_back_53 : decode cX4_back 53 = .ok (.iadd, 1) := by decide +kernel
theorem dX4_back_54 : decode cX4_back 54 = .ok (.iconst 1, 1) := by decide +kernel
theorem dX4_back_55 : decode cX4_back 55 = .ok (.isub, 1) := by decide +kernel
theorem dX4_back_56 : decode cX4_back 56 = .ok (.bipush 6, 2) := by decide +kernel
theorem dX4_back_58 : decode cX4_back 58 = .ok (.irem, 1) := by decide +kernel
theorem dX4_back_59 : decode cX4_back 59 = .ok (.putfield 34, 3) := by decide +kernel
theorem dX4_back_62 : decode cX4_back 62 = .ok (.aload_n 0, 1) := by decide +kernel
theorem dX4_back_63 : decode cX4_back 63 = .ok (.dup, 1) := by decide +kernel
theorem dX4_back_64 : decode cX4_back 64 = .ok (.getfield 38, 3) := by decide +kernel
theorem dX4_back_67 : decode cX4_back 67 = .ok (.iconst 1, 1) := by decide +kernel
theorem dX4_back_68 : decode cX4_back 68 = .ok (.isub, 1) := by decide +kernel
theorem dX4_back_69 : decode cX4_back 69 = .ok (.putfield 38, 3) := by decide +kernel
theorem dX4_back_72 : decode cX4_back 72 = .ok (.aload_n 0, 1) := by decide +kernel
theorem dX4_back_73 : decode cX4_back 73 = .ok (.getfield 38, 3) := by decide +kernel
theorem dX4_back_76 : decode cX4_back 76 = .ok (.ireturn, 1) := by decide +kernel
theorem dX4_told_0 : decode cX4_told 0 = .ok (.iload_n 1, 1) := by decide +kernel
theorem dX4_told_1 : decode cX4_told 1 = .ok (.ifCond .lt 9, 3) := by decide +kernel
theorem dX4_told_4 : decode cX4_told 4 = .ok (.iload_n 1, 1) := by decide +kernel
theorem dX4_told_5 : decode cX4_told 5 = .ok (.bipush 9, 2) := by decide +kernel
theorem dX4_told_7 : decode cX4_told 7 = .ok (.if_icmp .le 10, 3) := by decide +kernel
theorem dX4_told_10 : decode cX4_told 10 = .ok (.aload_n 0, 1) := by decide +kernel
theorem dX4_told_11 : decode cX4_told 11 = .ok (.bipush (-2), 2) := by decide +kernel
theorem dX4_told_13 : decode cX4_told 13 = .ok (.invokevirtual 47, 3) := by decide +kernel
theorem dX4_told_16 : decode cX4_told 16 = .ok (.ireturn, 1) := by decide +kernel
theorem dX4_told_17 : decode cX4_told 17 = .ok (.iload_n 1, 1) := by decide +kernel
theorem dX4_told_18 : decode cX4_told 18 = .ok (.iconst 3, 1) := by decide +kernel
theorem dX4_told_19 : decode cX4_told 19 = .ok (.if_icmp .ge 10, 3) := by decide +kernel
theorem dX4_told_22 : decode cX4_told 22 = .ok (.aload_n 0, 1) := by decide +kernel
theorem dX4_told_23 : decode cX4_told 23 = .ok (.getfield 30, 3) := by decide +kernel
theorem dX4_told_26 : decode cX4_told 26 = .ok (.iload_n 1, 1) := by decide +kernel
theorem dX4_told_27 : decode cX4_told 27 = .ok (.iaload, 1) := by decide +kernel
theorem dX4_told_28 : decode cX4_told 28 = .ok (.ireturn, 1) := by decide +kernel
theorem dX4_told_29 : decode cX4_told 29 = .ok (.iload_n 1, 1) := by decide +kernel
theorem dX4_told_30 : decode cX4_told 30 = .ok (.iconst 3, 1) := by decide +kernel
theorem dX4_told_31 : decode cX4_told 31 = .ok (.if_icmp .ne 11, 3) := by decide +kernel
theorem dX4_told_34 : decode cX4_told 34 = .ok (.aload_n 0, 1) := by decide +kernel
theorem dX4_told_35 : decode cX4_told 35 = .ok (.getfield 26, 3) := by decide +kernel
theorem dX4_told_38 : decode cX4_told 38 = .ok (.getfield 193, 3) := by decide +kernel
theorem dX4_told_41 : decode cX4_told 41 = .ok (.ireturn, 1) := by decide +kernel
theorem dX4_told_42 : decode cX4_told 42 = .ok (.iload_n 1, 1) := by decide +kernel
theorem dX4_told_43 : decode cX4_told 43 = .ok (.bipush 9, 2) := by decide +kernel
theorem dX4_told_45 : decode cX4_told 45 = .ok (.if_icmp .ne 10, 3) := by decide +kernel
theorem dX4_told_48 : decode cX4_told 48 = .ok (.aload_n 0, 1) := by decide +kernel
theorem dX4_told_49 : decode cX4_told 49 = .ok (.getfield 38, 3) := by decide +kernel
theorem dX4_told_52 : decode cX4_told 52 = .ok (.goto 14, 3) := by decide +kernel
theorem dX4_told_55 : decode cX4_told 55 = .ok (.aload_n 0, 1) := by decide +kernel
theorem dX4_told_56 : decode cX4_told 56 = .ok (.getfield 10, 3) := by decide +kernel
theorem dX4_told_59 : decode cX4_told 59 = .ok (.getfield 54, 3) := by decide +kernel
theorem dX4_told_62 : decode cX4_told 62 = .ok (.iload_n 1, 1) := by decide +kernel
theorem dX4_told_63 : decode cX4_told 63 = .ok (.iconst 4, 1) := by decide +kernel
theorem dX4_told_64 : decode cX4_told 64 = .ok (.isub, 1) := by decide +kernel
theorem dX4_told_65 : decode cX4_told 65 = .ok (.iaload, 1) := by decide +kernel
theorem dX4_told_66 : decode cX4_told 66 = .ok (.ireturn, 1) := by decide +kernel
theorem dX4_digest_0 : decode cX4_digest 0 = .ok (.ldc2_w 203, 3) := by decide +kernel
theorem dX4_digest_3 : decode cX4_digest 3 = .ok (.lstore_n 1, 1) := by decide +kernel
theorem dX4_digest_4 : decode cX4_digest 4 = .ok (.iconst 0, 1) := by decide +kernel
theorem dX4_digest_5 : decode cX4_digest 5 = .ok (.istore_n 3, 1) := by decide +kernel
theorem dX4_digest_6 : decode cX4_digest 6 = .ok (.iload_n 3, 1) := by decide +kernel
theorem dX4_digest_7 : decode cX4_digest 7 = .ok (.bipush 9, 2) := by decide +kernel
theorem dX4_digest_9 : decode cX4_digest 9 = .ok (.if_icmp .gt 22, 3) := by decide +kernel
theorem dX4_digest_12 : decode cX4_digest 12 = .ok (.ldc2_w 205, 3) := by decide +kernel
theorem dX4_digest_15 : decode cX4_digest 15 = .ok (.lload_n 1, 1) := by decide +kernel
theorem dX4_digest_16 : decode cX4_digest 16 = .ok (.lmul, 1) := by decide +kernel
theorem dX4_digest_17 : decode cX4_digest 17 = .ok (.aload_n 0, 1) := by decide +kernel
theorem dX4_digest_18 : decode cX4_digest 18 = .ok (.iload_n 3, 1) := by decide +kernel
theorem dX4_digest_19 : decode cX4_digest 19 = .ok (.invokevirtual 207, 3) := by decide +kernel
theorem dX4_digest_22 : decode cX4_digest 22 = .ok (.i2l, 1) := by decide +kernel
theorem dX4_digest_23 : decode cX4_digest 23 = .ok (.ladd, 1) := by decide +kernel
theorem dX4_digest_24 : decode cX4_digest 24 = .ok (.lstore_n 1, 1) := by decide +kernel
theorem dX4_digest_25 : decode cX4_digest 25 = .ok (.iinc 3 1, 3) := by decide +kernel
theorem dX4_digest_28 : decode cX4_digest 28 = .ok (.goto (-22), 3) := by decide +kernel
theorem dX4_digest_31 : decode cX4_digest 31 = .ok (.iconst 0, 1) := by decide +kernel
theorem dX4_digest_32 : decode cX4_digest 32 = .ok (.istore_n 3, 1) := by decide +kernel
theorem dX4_digest_33 : decode cX4_digest 33 = .ok (.iload_n 3, 1) := by decide +kernel
theorem dX4_digest_34 : decode cX4_digest 34 = .ok (.bipush 10, 2) := by decide +kernel
theorem dX4_digest_36 : decode cX4_digest 36 = .ok (.if_icmp .ge 22, 3) := by decide +kernel
theorem dX4_digest_39 : decode cX4_digest 39 = .ok (.ldc2_w 205, 3) := by decide +kernel
theorem dX4_digest_42 : decode cX4_digest 42 = .ok (.lload_n 1, 1) := by decide +kernel
theorem dX4_digest_43 : decode cX4_digest 43 = .ok (.lmul, 1) := by decide +kernel
theorem dX4_digest_44 : decode cX4_digest 44 = .ok (.aload_n 0, 1) := by decide +kernel
theorem dX4_digest_45 : decode cX4_digest 45 = .ok (.iload_n 3, 1) := by decide +kernel
theorem dX4_digest_46 : decode cX4_digest 46 = .ok (.invokevirtual 210, 3) := by decide +kernel
theorem dX4_digest_49 : decode cX4_digest 49 = .ok (.i2l, 1) := by decide +kernel
theorem dX4_digest_50 : decode cX4_digest 50 = .ok (.ladd, 1) := by decide +kernel
theorem dX4_digest_51 : decode cX4_digest 51 = .ok (.lstore_n 1, 1) := by decide +kernel
theorem dX4_digest_52 : decode cX4_digest 52 = .ok (.iinc 3 1, 3) := by decide +kernel
theorem dX4_digest_55 : decode cX4_digest 55 = .ok (.goto (-22), 3) := by decide +kernel
theorem dX4_digest_58 : decode cX4_digest 58 = .ok (.iconst 0, 1) := by decide +kernel
theorem dX4_digest_59 : decode cX4_digest 59 = .ok (.istore_n 3, 1) := by decide +kernel
theorem dX4_digest_60 : decode cX4_digest 60 = .ok (.iload_n 3, 1) := by decide +kernel
theorem dX4_digest_61 : decode cX4_digest 61 = .ok (.bipush 16, 2) := by decide +kernel
theorem dX4_digest_63 : decode cX4_digest 63 = .ok (.if_icmp .ge 40, 3) := by decide +kernel
theorem dX4_digest_66 : decode cX4_digest 66 = .ok (.iconst 0, 1) := by decide +kernel
theorem dX4_digest_67 : decode cX4_digest 67 = .ok (.istore 4, 2) := by decide +kernel
theorem dX4_digest_69 : decode cX4_digest 69 = .ok (.iload 4, 2) := by decide +kernel
theorem dX4_digest_71 : decode cX4_digest 71 = .ok (.iconst 4, 1) := by decide +kernel
theorem dX4_digest_72 : decode cX4_digest 72 = .ok (.if_icmp .ge 25, 3) := by decide +kernel
theorem dX4_digest_75 : decode cX4_digest 75 = .ok (.ldc2_w 205, 3) := by decide +kernel
theorem dX4_digest_78 : decode cX4_digest 78 = .ok (.lload_n 1, 1) := by decide +kernel
theorem dX4_digest_79 : decode cX4_digest 79 = .ok (.lmul, 1) := by decide +kernel
theorem dX4_digest_80 : decode cX4_digest 80 = .ok (.aload_n 0, 1) := by decide +kernel
theorem dX4_digest_81 : decode cX4_digest 81 = .ok (.iload_n 3, 1) := by decide +kernel
theorem dX4_digest_82 : decode cX4_digest 82 = .ok (.iload 4, 2) := by decide +kernel
theorem dX4_digest_84 : decode cX4_digest 84 = .ok (.iconst 0, 1) := by decide +kernel
theorem dX4_digest_85 : decode cX4_digest 85 = .ok (.invokevirtual 213, 3) := by decide +kernel
theorem dX4_digest_88 : decode cX4_digest 88 = .ok (.i2l, 1) := by decide +kernel
theorem dX4_digest_89 : decode cX4_digest 89 = .ok (.ladd, 1) := by decide +kernel
theorem dX4_digest_90 : decode cX4_digest 90 = .ok (.lstore_n 1, 1) := by decide +kernel
theorem dX4_digest_91 : decode cX4_digest 91 = .ok (.iinc 4 1, 3) := by decide +kernel
theorem dX4_digest_94 : decode cX4_digest 94 = .ok (.goto (-25), 3) := by decide +kernel
theorem dX4_digest_97 : decode cX4_digest 97 = .ok (.iinc 3 1, 3) := by decide +kernel
theorem dX4_digest_100 : decode cX4_digest 100 = .ok (.goto (-40), 3) := by decide +kernel
theorem dX4_digest_103 : decode cX4_digest 103 = .ok (.iconst 0, 1) := by decide +kernel
theorem dX4_digest_104 : decode cX4_digest 104 = .ok (.istore_n 3, 1) := by decide +kernel
theorem dX4_digest_105 : decode cX4_digest 105 = .ok (.iload_n 3, 1) := by decide +kernel
theorem dX4_digest_106 : decode cX4_digest 106 = .ok (.bipush 16, 2) := by decide +kernel
theorem dX4_digest_108 : decode cX4_digest 108 = .ok (.if_icmp .ge 22, 3) := by decide +kernel
theorem dX4_digest_111 : decode cX4_digest 111 = .ok (.ldc2_w 205, 3) := by decide +kernel
theorem dX4_digest_114 : decode cX4_digest 114 = .ok (.lload_n 1, 1) := by decide +kernel
theorem dX4_digest_115 : decode cX4_digest 115 = .ok (.lmul, 1) := by decide +kernel
theorem dX4_digest_116 : decode cX4_digest 116 = .ok (.aload_n 0, 1) := by decide +kernel
theorem dX4_digest_117 : decode cX4_digest 117 = .ok (.iload_n 3, 1) := by decide +kernel
theorem dX4_digest_118 : decode cX4_digest 118 = .ok (.invokevirtual 217, 3) := by decide +kernel
theorem dX4_digest_121 : decode cX4_digest 121 = .ok (.i2l, 1) := by decide +kernel
theorem dX4_digest_122 : decode cX4_digest 122 = .ok (.ladd, 1) := by decide +kernel
theorem dX4_digest_123 : decode cX4_digest 123 = .ok (.lstore_n 1, 1) := by decide +kernel
theorem dX4_digest_124 : decode cX4_digest 124 = .ok (.iinc 3 1, 3) := by decide +kernel
theorem dX4_digest_127 : decode cX4_digest 127 = .ok (.goto (-22), 3) := by decide +kernel
theorem dX4_digest_130 : decode cX4_digest 130 = .ok (.ldc2_w 205, 3) := by decide +kernel
theorem dX4_digest_133 : decode cX4_digest 133 = .ok (.lload_n 1, 1) := by decide +kernel
theorem dX4_digest_134 : decode cX4_digest 134 = .ok (.lmul, 1) := by decide +kernel
theorem dX4_digest_135 : decode cX4_digest 135 = .ok (.aload_n 0, 1) := by decide +kernel
theorem dX4_digest_136 : decode cX4_digest 136 = .ok (.iconst 0, 1) := by decide +kernel
theorem dX4_digest_137 : decode cX4_digest 137 = .ok (.invokevirtual 220, 3) := by decide +kernel
theorem dX4_digest_140 : decode cX4_digest 140 = .ok (.i2l, 1) := by decide +kernel
theorem dX4_digest_141 : decode cX4_digest 141 = .ok (.ladd, 1) := by decide +kernel
theorem dX4_digest_142 : decode cX4_digest 142 = .ok (.lstore_n 1, 1) := by decide +kernel
theorem dX4_digest_143 : decode cX4_digest 143 = .ok (.ldc2_w 205, 3) := by decide +kernel
theorem dX4_digest_146 : decode cX4_digest 146 = .ok (.lload_n 1, 1) := by decide +kernel
theorem dX4_digest_147 : decode cX4_digest 147 = .ok (.lmul, 1) := by decide +kernel
theorem dX4_digest_148 : decode cX4_digest 148 = .ok (.aload_n 0, 1) := by decide +kernel
theorem dX4_digest_149 : decode cX4_digest 149 = .ok (.iconst 1, 1) := by decide +kernel
theorem dX4_digest_150 : decode cX4_digest 150 = .ok (.invokevirtual 220, 3) := by decide +kernel
theorem dX4_digest_153 : decode cX4_digest 153 = .ok (.i2l, 1) := by decide +kernel
theorem dX4_digest_154 : decode cX4_digest 154 = .ok (.ladd, 1) := by decide +kernel
theorem dX4_digest_155 : decode cX4_digest 155 = .ok (.lstore_n 1, 1) := by decide +kernel
theorem dX4_digest_156 : decode cX4_digest 156 = .ok (.ldc2_w 205, 3) := by decide +kernel
theorem dX4_digest_159 : decode cX4_digest 159 = .ok (.lload_n 1, 1) := by decide +kernel
theorem dX4_digest_160 : decode cX4_digest 160 = .ok (.lmul, 1) := by decide +kernel
theorem dX4_digest_161 : decode cX4_digest 161 = .ok (.aload_n 0, 1) := by decide +kernel
theorem dX4_digest_162 : decode cX4_digest 162 = .ok (.invokevirtual 222, 3) := by decide +kernel
theorem dX4_digest_165 : decode cX4_digest 165 = .ok (.ladd, 1) := by decide +kernel
theorem dX4_digest_166 : decode cX4_digest 166 = .ok (.lreturn, 1) := by decide +kernel
theorem dX4_isBox_0 : decode cX4_isBox 0 = .ok (.iload_n 0, 1) := by decide +kernel
theorem dX4_isBox_1 : decode cX4_isBox 1 = .ok (.ifCond .lt 13, 3) := by decide +kernel
theorem dX4_isBox_4 : decode cX4_isBox 4 = .ok (.iload_n 0, 1) := by decide +kernel
theorem dX4_isBox_5 : decode cX4_isBox 5 = .ok (.bipush 16, 2) := by decide +kernel
theorem dX4_isBox_7 : decode cX4_isBox 7 = .ok (.if_icmp .ge 7, 3) := by decide +kernel
theorem dX4_isBox_10 : decode cX4_isBox 10 = .ok (.iconst 1, 1) := by decide +kernel
theorem dX4_isBox_11 : decode cX4_isBox 11 = .ok (.goto 4, 3) := by decide +kernel
theorem dX4_isBox_14 : decode cX4_isBox 14 = .ok (.iconst 0, 1) := by decide +kernel
theorem dX4_isBox_15 : decode cX4_isBox 15 = .ok (.ireturn, 1) := by decide +kernel
theorem dX4_isItem_0 : decode cX4_isItem 0 = .ok (.iload_n 0, 1) := by decide +kernel
theorem dX4_isItem_1 : decode cX4_isItem 1 = .ok (.ifCond .lt 12, 3) := by decide +kernel
theorem dX4_isItem_4 : decode cX4_isItem 4 = .ok (.iload_n 0, 1) := by decide +kernel
theorem dX4_isItem_5 : decode cX4_isItem 5 = .ok (.iconst 4, 1) := by decide +kernel
theorem dX4_isItem_6 : decode cX4_isItem 6 = .ok (.if_icmp .ge 7, 3) := by decide +kernel
theorem dX4_isItem_9 : decode cX4_isItem 9 = .ok (.iconst 1, 1) := by decide +kernel
theorem dX4_isItem_10 : decode cX4_isItem 10 = .ok (.goto 4, 3) := by decide +kernel
theorem dX4_isItem_13 : decode cX4_isItem 13 = .ok (.iconst 0, 1) := by decide +kernel
theorem dX4_isItem_14 : decode cX4_isItem 14 = .ok (.ireturn, 1) := by decide +kernel
theorem dX4_refuse_0 : decode cX4_refuse 0 = .ok (.bipush (-2), 2) := by decide +kernel
theorem dX4_refuse_2 : decode cX4_refuse 2 = .ok (.iload_n 1, 1) := by decide +kernel
theorem dX4_refuse_3 : decode cX4_refuse 3 = .ok (.isub, 1) := by decide +kernel
theorem dX4_refuse_4 : decode cX4_refuse 4 = .ok (.istore_n 2, 1) := by decide +kernel
theorem dX4_refuse_5 : decode cX4_refuse 5 = .ok (.iload_n 2, 1) := by decide +kernel
theorem dX4_refuse_6 : decode cX4_refuse 6 = .ok (.ifCond .lt 22, 3) := by decide +kernel
theorem dX4_refuse_9 : decode cX4_refuse 9 = .ok (.iload_n 2, 1) := by decide +kernel
theorem dX4_refuse_10 : decode cX4_refuse 10 = .ok (.aload_n 0, 1) := by decide +kernel
theorem dX4_refuse_11 : decode cX4_refuse 11 = .ok (.getfield 30, 3) := by decide +kernel
theorem dX4_refuse_14 : decode cX4_refuse 14 = .ok (.arraylength, 1) := by decide +kernel
theorem dX4_refuse_15 : decode cX4_refuse 15 = .ok (.if_icmp .ge 13, 3) := by decide +kernel
theorem dX4_refuse_18 : decode cX4_refuse 18 = .ok (.aload_n 0, 1) := by decide +kernel
theorem dX4_refuse_19 : decode cX4_refuse 19 = .ok (.getfield 30, 3) := by decide +kernel
theorem dX4_refuse_22 : decode cX4_refuse 22 = .ok (.iload_n 2, 1) := by decide +kernel
theorem dX4_refuse_23 : decode cX4_refuse 23 = .ok (.dup2, 1) := by decide +kernel
theorem dX4_refuse_24 : decode cX4_refuse 24 = .ok (.iaload, 1) := by decide +kernel
theorem dX4_refuse_25 : decode cX4_refuse 25 = .ok (.iconst 1, 1) := by decide +kernel
theorem dX4_refuse_26 : decode cX4_refuse 26 = .ok (.iadd, 1) := by decide +kernel
theorem dX4_refuse_27 : decode cX4_refuse 27 = .ok (.iastore, 1) := by decide +kernel
theorem dX4_refuse_28 : decode cX4_refuse 28 = .ok (.iload_n 1, 1) := by decide +kernel
theorem dX4_refuse_29 : decode cX4_refuse 29 = .ok (.ireturn, 1) := by decide +kernel
theorem dX4_keep_0 : decode cX4_keep 0 = .ok (.aload_n 0, 1) := by decide +kernel
theorem dX4_keep_1 : decode cX4_keep 1 = .ok (.aload_n 0, 1) := by decide +kernel
theorem dX4_keep_2 : decode cX4_keep 2 = .ok (.getfield 34, 3) := by decide +kernel
theorem dX4_keep_5 : decode cX4_keep 5 = .ok (.iconst 1, 1) := by decide +kernel
theorem dX4_keep_6 : decode cX4_keep 6 = .ok (.iadd, 1) := by decide +kernel
theorem dX4_keep_7 : decode cX4_keep 7 = .ok (.bipush 6, 2) := by decide +kernel
theorem dX4_keep_9 : decode cX4_keep 9 = .ok (.irem, 1) := by decide +kernel
theorem dX4_keep_10 : decode cX4_keep 10 = .ok (.putfield 34, 3) := by decide +kernel
theorem dX4_keep_13 : decode cX4_keep 13 = .ok (.aload_n 0, 1) := by decide +kernel
theorem dX4_keep_14 : decode cX4_keep 14 = .ok (.getfield 34, 3) := by decide +kernel
theorem dX4_keep_17 : decode cX4_keep 17 = .ok (.ifCond .lt 19, 3) := by decide +kernel
theorem dX4_keep_20 : decode cX4_keep 20 = .ok (.aload_n 0, 1) := by decide +kernel
theorem dX4_keep_21 : decode cX4_keep 21 = .ok (.getfield 19, 3) := by decide +kernel
theorem dX4_keep_24 : decode cX4_keep 24 = .ok (.aload_n 0, 1) := by decide +kernel
theorem dX4_keep_25 : decode cX4_keep 25 = .ok (.getfield 34, 3) := by decide +kernel
theorem dX4_keep_28 : decode cX4_keep 28 = .ok (.aaload, 1) := by decide +kernel
theorem dX4_keep_29 : decode cX4_keep 29 = .ok (.aload_n 0, 1) := by decide +kernel
theorem dX4_keep_30 : decode cX4_keep 30 = .ok (.getfield 10, 3) := by decide +kernel
theorem dX4_keep_33 : decode cX4_keep 33 = .ok (.invokevirtual 199, 3) := by decide +kernel
theorem dX4_keep_36 : decode cX4_keep 36 = .ok (.aload_n 0, 1) := by decide +kernel
theorem dX4_keep_37 : decode cX4_keep 37 = .ok (.getfield 38, 3) := by decide +kernel
theorem dX4_keep_40 : decode cX4_keep 40 = .ok (.bipush 6, 2) := by decide +kernel
theorem dX4_keep_42 : decode cX4_keep 42 = .ok (.if_icmp .ge 13, 3) := by decide +kernel
theorem dX4_keep_45 : decode cX4_keep 45 = .ok (.aload_n 0, 1) := by decide +kernel
theorem dX4_keep_46 : decode cX4_keep 46 = .ok (.dup, 1) := by decide +kernel
theorem dX4_keep_47 : decode cX4_keep 47 = .ok (.getfield 38, 3) := by decide +kernel
theorem dX4_keep_50 : decode cX4_keep 50 = .ok (.iconst 1, 1) := by decide +kernel
theorem dX4_keep_51 : decode cX4_keep 51 = .ok (.iadd, 1) := by decide +kernel
theorem dX4_keep_52 : decode cX4_keep 52 = .ok (.putfield 38, 3) := by decide +kernel
theorem dX4_keep_55 : decode cX4_keep 55 = .ok (.return_, 1) := by decide +kernel
theorem dX4_floatBits_0 : decode cX4_floatBits 0 = .ok (.fload_n 0, 1) := by decide +kernel
theorem dX4_floatBits_1 : decode cX4_floatBits 1 = .ok (.fconst 0, 1) := by decide +kernel
theorem dX4_floatBits_2 : decode cX4_floatBits 2 = .ok (.fcmp .g, 1) := by decide +kernel
theorem dX4_floatBits_3 : decode cX4_floatBits 3 = .ok (.ifCond .ge 8, 3) := by decide +kernel
theorem dX4_floatBits_6 : decode cX4_floatBits 6 = .ok (.fload_n 0, 1) := by decide +kernel
theorem dX4_floatBits_7 : decode cX4_floatBits 7 = .ok (.fneg, 1) := by decide +kernel
theorem dX4_floatBits_8 : decode cX4_floatBits 8 = .ok (.goto 4, 3) := by decide +kernel
theorem dX4_floatBits_11 : decode cX4_floatBits 11 = .ok (.fload_n 0, 1) := by decide +kernel
theorem dX4_floatBits_12 : decode cX4_floatBits 12 = .ok (.fstore_n 1, 1) := by decide +kernel
theorem dX4_floatBits_13 : decode cX4_floatBits 13 = .ok (.bipush 127, 2) := by decide +kernel
theorem dX4_floatBits_15 : decode cX4_floatBits 15 = .ok (.istore_n 2, 1) := by decide +kernel
theorem dX4_floatBits_16 : decode cX4_floatBits 16 = .ok (.iconst 0, 1) := by decide +kernel
theorem dX4_floatBits_17 : decode cX4_floatBits 17 = .ok (.istore_n 3, 1) := by decide +kernel
theorem dX4_floatBits_18 : decode cX4_floatBits 18 = .ok (.iload_n 3, 1) := by decide +kernel
theorem dX4_floatBits_19 : decode cX4_floatBits 19 = .ok (.sipush 300, 3) := by decide +kernel
theorem dX4_floatBits_22 : decode cX4_floatBits 22 = .ok (.if_icmp .ge 23, 3) := by decide +kernel
theorem dX4_floatBits_25 : decode cX4_floatBits 25 = .ok (.fload_n 1, 1) := by decide +kernel
theorem dX4_floatBits_26 : decode cX4_floatBits 26 = .ok (.fconst 2, 1) := by decide +kernel
theorem dX4_floatBits_27 : decode cX4_floatBits 27 = .ok (.fcmp .l, 1) := by decide +kernel
theorem dX4_floatBits_28 : decode cX4_floatBits 28 = .ok (.ifCond .lt 17, 3) := by decide +kernel
theorem dX4_floatBits_31 : decode cX4_floatBits 31 = .ok (.fload_n 1, 1) := by decide +kernel
theorem dX4_floatBits_32 : decode cX4_floatBits 32 = .ok (.ldc 226, 2) := by decide +kernel
theorem dX4_floatBits_34 : decode cX4_floatBits 34 = .ok (.fmul, 1) := by decide +kernel
theorem dX4_floatBits_35 : decode cX4_floatBits 35 = .ok (.fstore_n 1, 1) := by decide +kernel
theorem dX4_floatBits_36 : decode cX4_floatBits 36 = .ok (.iinc 2 1, 3) := by decide +kernel
theorem dX4_floatBits_39 : decode cX4_floatBits 39 = .ok (.iinc 3 1, 3) := by decide +kernel
theorem dX4_floatBits_42 : decode cX4_floatBits 42 = .ok (.goto (-24), 3) := by decide +kernel
theorem dX4_floatBits_45 : decode cX4_floatBits 45 = .ok (.iconst 0, 1) := by decide +kernel
theorem dX4_floatBits_46 : decode cX4_floatBits 46 = .ok (.istore_n 3, 1) := by decide +kernel
theorem dX4_floatBits_47 : decode cX4_floatBits 47 = .ok (.iload_n 3, 1) := by decide +kernel
theorem dX4_floatBits_48 : decode cX4_floatBits 48 = .ok (.sipush 300, 3) := by decide +kernel
theorem dX4_floatBits_51 : decode cX4_floatBits 51 = .ok (.if_icmp .ge 33, 3) := by decide +kernel
theorem dX4_floatBits_54 : decode cX4_floatBits 54 = .ok (.fload_n 1, 1) := by decide +kernel
theorem dX4_floatBits_55 : decode cX4_floatBits 55 = .ok (.fconst 0, 1) := by decide +kernel
theorem dX4_floatBits_56 : decode cX4_floatBits 56 = .ok (.fcmp .l, 1) := by decide +kernel
theorem dX4_floatBits_57 : decode cX4_floatBits 57 = .ok (.ifCond .le 27, 3) := by decide +kernel
theorem dX4_floatBits_60 : decode cX4_floatBits 60 = .ok (.fload_n 1, 1) := by decide +kernel
theorem dX4_floatBits_61 : decode cX4_floatBits 61 = .ok (.fconst 1, 1) := by decide +kernel
theorem dX4_floatBits_62 : decode cX4_floatBits 62 = .ok (.fcmp .g, 1) := by decide +kernel
theorem dX4_floatBits_63 : decode cX4_floatBits 63 = .ok (.ifCond .ge 21, 3) := by decide +kernel
theorem dX4_floatBits_66 : decode cX4_floatBits 66 = .ok (.iload_n 2, 1) := by decide +kernel
theorem dX4_floatBits_67 : decode cX4_floatBits 67 = .ok (.iconst 1, 1) := by decide +kernel
theorem dX4_floatBits_68 : decode cX4_floatBits 68 = .ok (.if_icmp .le 16, 3) := by decide +kernel
theorem dX4_floatBits_71 : decode cX4_floatBits 71 = .ok (.fload_n 1, 1) := by decide +kernel
theorem dX4_floatBits_72 : decode cX4_floatBits 72 = .ok (.fconst 2, 1) := by decide +kernel
theorem dX4_floatBits_73 : decode cX4_floatBits 73 = .ok (.fmul, 1) := by decide +kernel
theorem dX4_floatBits_74 : decode cX4_floatBits 74 = .ok (.fstore_n 1, 1) := by decide +kernel
theorem dX4_floatBits_75 : decode cX4_floatBits 75 = .ok (.iinc 2 (-1), 3) := by decide +kernel
theorem dX4_floatBits_78 : decode cX4_floatBits 78 = .ok (.iinc 3 1, 3) := by decide +kernel
theorem dX4_floatBits_81 : decode cX4_floatBits 81 = .ok (.goto (-34), 3) := by decide +kernel
theorem dX4_floatBits_84 : decode cX4_floatBits 84 = .ok (.fload_n 1, 1) := by decide +kernel
theorem dX4_floatBits_85 : decode cX4_floatBits 85 = .ok (.fconst 1, 1) := by decide +kernel
theorem dX4_floatBits_86 : decode cX4_floatBits 86 = .ok (.fcmp .g, 1) := by decide +kernel
theorem dX4_floatBits_87 : decode cX4_floatBits 87 = .ok (.ifCond .ge 11, 3) := by decide +kernel
theorem dX4_floatBits_90 : decode cX4_floatBits 90 = .ok (.fload_n 1, 1) := by decide +kernel
theorem dX4_floatBits_91 : decode cX4_floatBits 91 = .ok (.ldc 227, 2) := by decide +kernel
theorem dX4_floatBits_93 : decode cX4_floatBits 93 = .ok (.fmul, 1) := by decide +kernel
theorem dX4_floatBits_94 : decode cX4_floatBits 94 = .ok (.f2i, 1) := by decide +kernel
theorem dX4_floatBits_95 : decode cX4_floatBits 95 = .ok (.goto 15, 3) := by decide +kernel
theorem dX4_floatBits_98 : decode cX4_floatBits 98 = .ok (.iload_n 2, 1) := by decide +kernel
theorem dX4_floatBits_99 : decode cX4_floatBits 99 = .ok (.bipush 23, 2) := by decide +kernel
theorem dX4_floatBits_101 : decode cX4_floatBits 101 = .ok (.ishl, 1) := by decide +kernel
theorem dX4_floatBits_102 : decode cX4_floatBits 102 = .ok (.fload_n 1, 1) := by decide +kernel
theorem dX4_floatBits_103 : decode cX4_floatBits 103 = .ok (.fconst 1, 1) := by decide +kernel
theorem dX4_floatBits_104 : decode cX4_floatBits 104 = .ok (.fsub, 1) := by decide +kernel
theorem dX4_floatBits_105 : decode cX4_floatBits 105 = .ok (.ldc 227, 2) := by decide +kernel
theorem dX4_floatBits_107 : decode cX4_floatBits 107 = .ok (.fmul, 1) := by decide +kernel
theorem dX4_floatBits_108 : decode cX4_floatBits 108 = .ok (.f2i, 1) := by decide +kernel
theorem dX4_floatBits_109 : decode cX4_floatBits 109 = .ok (.ior, 1) := by decide +kernel
theorem dX4_floatBits_110 : decode cX4_floatBits 110 = .ok (.istore_n 3, 1) := by decide +kernel
theorem dX4_floatBits_111 : decode cX4_floatBits 111 = .ok (.fload_n 0, 1) := by decide +kernel
theorem dX4_floatBits_112 : decode cX4_floatBits 112 = .ok (.fconst 0, 1) := by decide +kernel
theorem dX4_floatBits_113 : decode cX4_floatBits 113 = .ok (.fcmp .g, 1) := by decide +kernel
theorem dX4_floatBits_114 : decode cX4_floatBits 114 = .ok (.ifCond .ge 10, 3) := by decide +kernel
theorem dX4_floatBits_117 : decode cX4_floatBits 117 = .ok (.iload_n 3, 1) := by decide +kernel
theorem dX4_floatBits_118 : decode cX4_floatBits 118 = .ok (.ldc 228, 2) := by decide +kernel
theorem dX4_floatBits_120 : decode cX4_floatBits 120 = .ok (.ior, 1) := by decide +kernel
theorem dX4_floatBits_121 : decode cX4_floatBits 121 = .ok (.goto 4, 3) := by decide +kernel
theorem dX4_floatBits_124 : decode cX4_floatBits 124 = .ok (.iload_n 3, 1) := by decide +kernel
theorem dX4_floatBits_125 : decode cX4_floatBits 125 = .ok (.ireturn, 1) := by decide +kernel
theorem dX4_doubleBits_0 : decode cX4_doubleBits 0 = .ok (.dload_n 0, 1) := by decide +kernel
theorem dX4_doubleBits_1 : decode cX4_doubleBits 1 = .ok (.dconst 0, 1) := by decide +kernel
theorem dX4_doubleBits_2 : decode cX4_doubleBits 2 = .ok (.dcmp .g, 1) := by decide +kernel
theorem dX4_doubleBits_3 : decode cX4_doubleBits 3 = .ok (.ifCond .ge 8, 3) := by decide +kernel
theorem dX4_doubleBits_6 : decode cX4_doubleBits 6 = .ok (.dload_n 0, 1) := by decide +kernel
theorem dX4_doubleBits_7 : decode cX4_doubleBits 7 = .ok (.dneg, 1) := by decide +kernel
theorem dX4_doubleBits_8 : decode cX4_doubleBits 8 = .ok (.goto 4, 3) := by decide +kernel
theorem dX4_doubleBits_11 : decode cX4_doubleBits 11 = .ok (.dload_n 0, 1) := by decide +kernel
theorem dX4_doubleBits_12 : decode cX4_doubleBits 12 = .ok (.dstore_n 2, 1) := by decide +kernel
theorem dX4_doubleBits_13 : decode cX4_doubleBits 13 = .ok (.ldc2_w 229, 3) := by decide +kernel
theorem dX4_doubleBits_16 : decode cX4_doubleBits 16 = .ok (.lstore 4, 2) := by decide +kernel
theorem dX4_doubleBits_18 : decode cX4_doubleBits 18 = .ok (.iconst 0, 1) := by decide +kernel
theorem dX4_doubleBits_19 : decode cX4_doubleBits 19 = .ok (.istore 6, 2) := by decide +kernel
theorem dX4_doubleBits_21 : decode cX4_doubleBits 21 = .ok (.iload 6, 2) := by decide +kernel
theorem dX4_doubleBits_23 : decode cX4_doubleBits 23 = .ok (.sipush 1100, 3) := by decide +kernel
theorem dX4_doubleBits_26 : decode cX4_doubleBits 26 = .ok (.if_icmp .ge 29, 3) := by decide +kernel
theorem dX4_doubleBits_29 : decode cX4_doubleBits 29 = .ok (.dload_n 2, 1) := by decide +kernel
theorem dX4_doubleBits_30 : decode cX4_doubleBits 30 = .ok (.ldc2_w 231, 3) := by decide +kernel
theorem dX4_doubleBits_33 : decode cX4_doubleBits 33 = .ok (.dcmp .l, 1) := by decide +kernel
theorem dX4_doubleBits_34 : decode cX4_doubleBits 34 = .ok (.ifCond .lt 21, 3) := by decide +kernel
theorem dX4_doubleBits_37 : decode cX4_doubleBits 37 = .ok (.dload_n 2, 1) := by decide +kernel
theorem dX4_doubleBits_38 : decode cX4_doubleBits 38 = .ok (.ldc2_w 233, 3) := by decide +kernel
theorem dX4_doubleBits_41 : decode cX4_doubleBits 41 = .ok (.dmul, 1) := by decide +kernel
theorem dX4_doubleBits_42 : decode cX4_doubleBits 42 = .ok (.dstore_n 2, 1) := by decide +kernel
theorem dX4_doubleBits_43 : decode cX4_doubleBits 43 = .ok (.lload 4, 2) := by decide +kernel
theorem dX4_doubleBits_45 : decode cX4_doubleBits 45 = .ok (.lconst 1, 1) := by decide +kernel
theorem dX4_doubleBits_46 : decode cX4_doubleBits 46 = .ok (.ladd, 1) := by decide +kernel
theorem dX4_doubleBits_47 : decode cX4_doubleBits 47 = .ok (.lstore 4, 2) := by decide +kernel
theorem dX4_doubleBits_49 : decode cX4_doubleBits 49 = .ok (.iinc 6 1, 3) := by decide +kernel
theorem dX4_doubleBits_52 : decode cX4_doubleBits 52 = .ok (.goto (-31), 3) := by decide +kernel
theorem dX4_doubleBits_55 : decode cX4_doubleBits 55 = .ok (.iconst 0, 1) := by decide +kernel
theorem dX4_doubleBits_56 : decode cX4_doubleBits 56 = .ok (.istore 6, 2) := by decide +kernel
theorem dX4_doubleBits_58 : decode cX4_doubleBits 58 = .ok (.iload 6, 2) := by decide +kernel
theorem dX4_doubleBits_60 : decode cX4_doubleBits 60 = .ok (.sipush 1100, 3) := by decide +kernel
theorem dX4_doubleBits_63 : decode cX4_doubleBits 63 = .ok (.if_icmp .ge 40, 3) := by decide +kernel
theorem dX4_doubleBits_66 : decode cX4_doubleBits 66 = .ok (.dload_n 2, 1) := by decide +kernel
theorem dX4_doubleBits_67 : decode cX4_doubleBits 67 = .ok (.dconst 0, 1) := by decide +kernel
theorem dX4_doubleBits_68 : decode cX4_doubleBits 68 = .ok (.dcmp .l, 1) := by decide +kernel
theorem dX4_doubleBits_69 : decode cX4_doubleBits 69 = .ok (.ifCond .le 34, 3) := by decide +kernel
theorem dX4_doubleBits_72 : decode cX4_doubleBits 72 = .ok (.dload_n 2, 1) := by decide +kernel
theorem dX4_doubleBits_73 : decode cX4_doubleBits 73 = .ok (.dconst 1, 1) := by decide +kernel
theorem dX4_doubleBits_74 : decode cX4_doubleBits 74 = .ok (.dcmp .g, 1) := by decide +kernel
theorem dX4_doubleBits_75 : decode cX4_doubleBits 75 = .ok (.ifCond .ge 28, 3) := by decide +kernel
theorem dX4_doubleBits_78 : decode cX4_doubleBits 78 = .ok (.lload 4, 2) := by decide +kernel
theorem dX4_doubleBits_80 : decode cX4_doubleBits 80 = .ok (.lconst 1, 1) := by decide +kernel
theorem dX4_doubleBits_81 : decode cX4_doubleBits 81 = .ok (.lcmp, 1) := by decide +kernel
theorem dX4_doubleBits_82 : decode cX4_doubleBits 82 = .ok (.ifCond .le 21, 3) := by decide +kernel
theorem dX4_doubleBits_85 : decode cX4_doubleBits 85 = .ok (.dload_n 2, 1) := by decide +kernel
theorem dX4_doubleBits_86 : decode cX4_doubleBits 86 = .ok (.ldc2_w 231, 3) := by decide +kernel
theorem dX4_doubleBits_89 : decode cX4_doubleBits 89 = .ok (.dmul, 1) := by decide +kernel
theorem dX4_doubleBits_90 : decode cX4_doubleBits 90 = .ok (.dstore_n 2, 1) := by decide +kernel
theorem dX4_doubleBits_91 : decode cX4_doubleBits 91 = .ok (.lload 4, 2) := by decide +kernel
theorem dX4_doubleBits_93 : decode cX4_doubleBits 93 = .ok (.lconst 1, 1) := by decide +kernel
theorem dX4_doubleBits_94 : decode cX4_doubleBits 94 = .ok (.lsub, 1) := by decide +kernel
theorem dX4_doubleBits_95 : decode cX4_doubleBits 95 = .ok (.lstore 4, 2) := by decide +kernel
theorem dX4_doubleBits_97 : decode cX4_doubleBits 97 = .ok (.iinc 6 1, 3) := by decide +kernel
theorem dX4_doubleBits_100 : decode cX4_doubleBits 100 = .ok (.goto (-42), 3) := by decide +kernel
theorem dX4_doubleBits_103 : decode cX4_doubleBits 103 = .ok (.dload_n 2, 1) := by decide +kernel
theorem dX4_doubleBits_104 : decode cX4_doubleBits 104 = .ok (.dconst 1, 1) := by decide +kernel
theorem dX4_doubleBits_105 : decode cX4_doubleBits 105 = .ok (.dcmp .g, 1) := by decide +kernel
theorem dX4_doubleBits_106 : decode cX4_doubleBits 106 = .ok (.ifCond .ge 12, 3) := by decide +kernel
theorem dX4_doubleBits_109 : decode cX4_doubleBits 109 = .ok (.dload_n 2, 1) := by decide +kernel
theorem dX4_doubleBits_110 : decode cX4_doubleBits 110 = .ok (.ldc2_w 235, 3) := by decide +kernel
theorem dX4_doubleBits_113 : decode cX4_doubleBits 113 = .ok (.dmul, 1) := by decide +kernel
theorem dX4_doubleBits_114 : decode cX4_doubleBits 114 = .ok (.d2l, 1) := by decide +kernel
theorem dX4_doubleBits_115 : decode cX4_doubleBits 115 = .ok (.goto 17, 3) := by decide +kernel
theorem dX4_doubleBits_118 : decode cX4_doubleBits 118 = .ok (.lload 4, 2) := by decide +kernel
theorem dX4_doubleBits_120 : decode cX4_doubleBits 120 = .ok (.bipush 52, 2) := by decide +kernel
theorem dX4_doubleBits_122 : decode cX4_doubleBits 122 = .ok (.lshl, 1) := by decide +kernel
theorem dX4_doubleBits_123 : decode cX4_doubleBits 123 = .ok (.dload_n 2, 1) := by decide +kernel
theorem dX4_doubleBits_124 : decode cX4_doubleBits 124 = .ok (.dconst 1, 1) := by decide +kernel
theorem dX4_doubleBits_125 : decode cX4_doubleBits 125 = .ok (.dsub, 1) := by decide +kernel
theorem dX4_doubleBits_126 : decode cX4_doubleBits 126 = .ok (.ldc2_w 235, 3) := by decide +kernel
theorem dX4_doubleBits_129 : decode cX4_doubleBits 129 = .ok (.dmul, 1) := by decide +kernel
theorem dX4_doubleBits_130 : decode cX4_doubleBits 130 = .ok (.d2l, 1) := by decide +kernel
theorem dX4_doubleBits_131 : decode cX4_doubleBits 131 = .ok (.lor, 1) := by decide +kernel
theorem dX4_doubleBits_132 : decode cX4_doubleBits 132 = .ok (.lstore 6, 2) := by decide +kernel
theorem dX4_doubleBits_134 : decode cX4_doubleBits 134 = .ok (.dload_n 0, 1) := by decide +kernel
theorem dX4_doubleBits_135 : decode cX4_doubleBits 135 = .ok (.dconst 0, 1) := by decide +kernel
theorem dX4_doubleBits_136 : decode cX4_doubleBits 136 = .ok (.dcmp .g, 1) := by decide +kernel
theorem dX4_doubleBits_137 : decode cX4_doubleBits 137 = .ok (.ifCond .ge 12, 3) := by decide +kernel
theorem dX4_doubleBits_140 : decode cX4_doubleBits 140 = .ok (.lload 6, 2) := by decide +kernel
theorem dX4_doubleBits_142 : decode cX4_doubleBits 142 = .ok (.ldc2_w 237, 3) := by decide +kernel
theorem dX4_doubleBits_145 : decode cX4_doubleBits 145 = .ok (.lor, 1) := by decide +kernel
theorem dX4_doubleBits_146 : decode cX4_doubleBits 146 = .ok (.goto 5, 3) := by decide +kernel
theorem dX4_doubleBits_149 : decode cX4_doubleBits 149 = .ok (.lload 6, 2) := by decide +kernel
theorem dX4_doubleBits_151 : decode cX4_doubleBits 151 = .ok (.lreturn, 1) := by decide +kernel
theorem dX5_bad_0 : decode cX5_bad 0 = .ok (.aload_n 0, 1) := by decide +kernel
theorem dX5_bad_1 : decode cX5_bad 1 = .ok (.getfield 1, 3) := by decide +kernel
theorem dX5_bad_4 : decode cX5_bad 4 = .ok (.iconst 0, 1) := by decide +kernel
theorem dX5_bad_5 : decode cX5_bad 5 = .ok (.dup2, 1) := by decide +kernel
theorem dX5_bad_6 : decode cX5_bad 6 = .ok (.iaload, 1) := by decide +kernel
theorem dX5_bad_7 : decode cX5_bad 7 = .ok (.iconst 1, 1) := by decide +kernel
theorem dX5_bad_8 : decode cX5_bad 8 = .ok (.iadd, 1) := by decide +kernel
theorem dX5_bad_9 : decode cX5_bad 9 = .ok (.iastore, 1) := by decide +kernel
theorem dX5_bad_10 : decode cX5_bad 10 = .ok (.bipush (-2), 2) := by decide +kernel
theorem dX5_bad_12 : decode cX5_bad 12 = .ok (.ireturn, 1) := by decide +kernel
theorem dX5_in_0 : decode cX5_in 0 = .ok (.iload_n 0, 1) := by decide +kernel
theorem dX5_in_1 : decode cX5_in 1 = .ok (.iload_n 1, 1) := by decide +kernel
theorem dX5_in_2 : decode cX5_in 2 = .ok (.if_icmp .lt 12, 3) := by decide +kernel
theorem dX5_in_5 : decode cX5_in 5 = .ok (.iload_n 0, 1) := by decide +kernel
theorem dX5_in_6 : decode cX5_in 6 = .ok (.iload_n 2, 1) := by decide +kernel
theorem dX5_in_7 : decode cX5_in 7 = .ok (.if_icmp .gt 7, 3) := by decide +kernel
theorem dX5_in_10 : decode cX5_in 10 = .ok (.iconst 1, 1) := by decide +kernel
theorem dX5_in_11 : decode cX5_in 11 = .ok (.goto 4, 3) := by decide +kernel
theorem dX5_in_14 : decode cX5_in 14 = .ok (.iconst 0, 1) := by decide +kernel
theorem dX5_in_15 : decode cX5_in 15 = .ok (.ireturn, 1) := by decide +kernel
theorem dX5_init_0 : decode cX5_init 0 = .ok (.aload_n 0, 1) := by decide +kernel
theorem dX5_init_1 : decode cX5_init 1 = .ok (.invokespecial 7, 3) := by decide +kernel
theorem dX5_init_4 : decode cX5_init 4 = .ok (.aload_n 0, 1) := by decide +kernel
theorem dX5_init_5 : decode cX5_init 5 = .ok (.iconst 3, 1) := by decide +kernel
theorem dX5_init_6 : decode cX5_init 6 = .ok (.newarray .int, 2) := by decide +kernel
theorem dX5_init_8 : decode cX5_init 8 = .ok (.putfield 1, 3) := by decide +kernel
theorem dX5_init_11 : decode cX5_init 11 = .ok (.aload_n 0, 1) := by decide +kernel
theorem dX5_init_12 : decode cX5_init 12 = .ok (.iconst 5, 1) := by decide +kernel
theorem dX5_init_13 : decode cX5_init 13 = .ok (.newarray .int, 2) := by decide +kernel
theorem dX5_init_15 : decode cX5_init 15 = .ok (.putfield 13, 3) := by decide +kernel
theorem dX5_init_18 : decode cX5_init 18 = .ok (.aload_n 0, 1) := by decide +kernel
theorem dX5_init_19 : decode cX5_init 19 = .ok (.bipush 64, 2) := by decide +kernel
theorem dX5_init_21 : decode cX5_init 21 = .ok (.newarray .int, 2) := by decide +kernel
theorem dX5_init_23 : decode cX5_init 23 = .ok (.putfield 16, 3) := by decide +kernel
theorem dX5_init_26 : decode cX5_init 26 = .ok (.aload_n 0, 1) := by decide +kernel
theorem dX5_init_27 : decode cX5_init 27 = .ok (.bipush 64, 2) := by decide +kernel
theorem dX5_init_29 : decode cX5_init 29 = .ok (.newarray .int, 2) := by decide +kernel
theorem dX5_init_31 : decode cX5_init 31 = .ok (.putfield 19, 3) := by decide +kernel
theorem dX5_init_34 : decode cX5_init 34 = .ok (.aload_n 0, 1) := by decide +kernel
theorem dX5_init_35 : decode cX5_init 35 = .ok (.bipush 16, 2) := by decide +kernel
theorem dX5_init_37 : decode cX5_init 37 = .ok (.newarray .int, 2) := by decide +kernel
theorem dX5_init_39 : decode cX5_init 39 = .ok (.putfield 22, 3) := by decide +kernel
theorem dX5_init_42 : decode cX5_init 42 = .ok (.aload_n 0, 1) := by decide +kernel
theorem dX5_init_43 : decode cX5_init 43 = .ok (.bipush 16, 2) := by decide +kernel
theorem dX5_init_45 : decode cX5_init 45 = .ok (.newarray .int, 2) := by decide +kernel
theorem dX5_init_47 : decode cX5_init 47 = .ok (.putfield 25, 3) := by decide +kernel
theorem dX5_init_50 : decode cX5_init 50 = .ok (.aload_n 0, 1) := by decide +kernel
theorem dX5_init_51 : decode cX5_init 51 = .ok (.bipush 16, 2) := by decide +kernel
theorem dX5_init_53 : decode cX5_init 53 = .ok (.newarray .int, 2) := by decide +kernel
theorem dX5_init_55 : decode cX5_init 55 = .ok (.putfield 28, 3) := by decide +kernel
theorem dX5_init_58 : decode cX5_init 58 = .ok (.aload_n 0, 1) := by decide +kernel
theorem dX5_init_59 : decode cX5_init 59 = .ok (.iconst 4, 1) := by decide +kernel
theorem dX5_init_60 : decode cX5_init 60 = .ok (.newarray .int, 2) := by decide +kernel
theorem dX5_init_62 : decode cX5_init 62 = .ok (.putfield 31, 3) := by decide +kernel
theorem dX5_init_65 : decode cX5_init 65 = .ok (.aload_n 0, 1) := by decide +kernel
theorem dX5_init_66 : decode cX5_init 66 = .ok (.bipush 12, 2) := by decide +kernel
theorem dX5_init_68 : decode cX5_init 68 = .ok (.newarray .int, 2) := by decide +kernel
theorem dX5_init_70 : decode cX5_init 70 = .ok (.putfield 34, 3) := by decide +kernel
theorem dX5_init_73 : decode cX5_init 73 = .ok (.aload_n 0, 1) := by decide +kernel
theorem dX5_init_74 : decode cX5_init 74 = .ok (.iconst 4, 1) := by decide +kernel
theorem dX5_init_75 : decode cX5_init 75 = .ok (.newarray .int, 2) := by decide +kernel
theorem dX5_init_77 : decode cX5_init 77 = .ok (.putfield 37, 3) := by decide +kernel
theorem dX5_init_80 : decode cX5_init 80 = .ok (.aload_n 0, 1) := by decide +kernel
theorem dX5_init_81 : decode cX5_init 81 = .ok (.bipush 16, 2) := by decide +kernel
theorem dX5_init_83 : decode cX5_init 83 = .ok (.newarray .int, 2) := by decide +kernel
theorem dX5_init_85 : decode cX5_init 85 = .ok (.putfield 40, 3) := by decide +kernel
theorem dX5_init_88 : decode cX5_init 88 = .ok (.aload_n 0, 1) := by decide +kernel
theorem dX5_init_89 : decode cX5_init 89 = .ok (.bipush 64, 2) := by decide +kernel
theorem dX5_init_91 : decode cX5_init 91 = .ok (.newarray .int, 2) := by decide +kernel
theorem dX5_init_93 : decode cX5_init 93 = .ok (.putfield 43, 3) := by decide +kernel
theorem dX5_init_96 : decode cX5_init 96 = .ok (.aload_n 0, 1) := by decide +kernel
theorem dX5_init_97 : decode cX5_init 97 = .ok (.bipush 64, 2) := by decide +kernel
theorem dX5_init_99 : decode cX5_init 99 = .ok (.newarray .int, 2) := by decide +kernel
theorem dX5_init_101 : decode cX5_init 101 = .ok (.putfield 46, 3) := by decide +kernel
theorem dX5_init_104 : decode cX5_init 104 = .ok (.aload_n 0, 1) := by decide +kernel
theorem dX5_init_105 : decode cX5_init 105 = .ok (.bipush 64, 2) := by decide +kernel
theorem dX5_init_107 : decode cX5_init 107 = .ok (.newarray .int, 2) := by decide +kernel
theorem dX5_init_109 : decode cX5_init 109 = .ok (.putfield 49, 3) := by decide +kernel
theorem dX5_init_112 : decode cX5_init 112 = .ok (.aload_n 0, 1) := by decide +kernel
theorem dX5_init_113 : decode cX5_init 113 = .ok (.bipush 64, 2) := by decide +kernel
theorem dX5_init_115 : decode cX5_init 115 = .ok (.newarray .int, 2) := by decide +kernel
theorem dX5_init_117 : decode cX5_init 117 = .ok (.putfield 52, 3) := by decide +kernel
theorem dX5_init_120 : decode cX5_init 120 = .ok (.aload_n 0, 1) := by decide +kernel
theorem dX5_init_121 : decode cX5_init 121 = .ok (.iconst 3, 1) := by decide +kernel
theorem dX5_init_122 : decode cX5_init 122 = .ok (.newarray .int, 2) := by decide +kernel
theorem dX5_init_124 : decode cX5_init 124 = .ok (.putfield 55, 3) := by decide +kernel
theorem dX5_init_127 : decode cX5_init 127 = .ok (.aload_n 0, 1) := by decide +kernel
theorem dX5_init_128 : decode cX5_init 128 = .ok (.bipush 10, 2) := by decide +kernel
theorem dX5_init_130 : decode cX5_init 130 = .ok (.newarray .int, 2) := by decide +kernel
theorem dX5_init_132 : decode cX5_init 132 = .ok (.putfield 58, 3) := by decide +kernel
theorem dX5_init_135 : decode cX5_init 135 = .ok (.aload_n 0, 1) := by decide +kernel
theorem dX5_init_136 : decode cX5_init 136 = .ok (.sipush 200, 3) := by decide +kernel
theorem dX5_init_139 : decode cX5_init 139 = .ok (.newarray .int, 2) := by decide +kernel
theorem dX5_init_141 : decode cX5_init 141 = .ok (.putfield 61, 3) := by decide +kernel
theorem dX5_init_144 : decode cX5_init 144 = .ok (.aload_n 0, 1) := by decide +kernel
theorem dX5_init_145 : decode cX5_init 145 = .ok (.sipush 200, 3) := by decide +kernel
theorem dX5_init_148 : decode cX5_init 148 = .ok (.newarray .int, 2) := by decide +kernel
theorem dX5_init_150 : decode cX5_init 150 = .ok (.putfield 64, 3) := by decide +kernel
theorem dX5_init_153 : decode cX5_init 153 = .ok (.aload_n 0, 1) := by decide +kernel
theorem dX5_init_154 : decode cX5_init 154 = .ok (.sipush 200, 3) := by decide +kernel
theorem dX5_init_157 : decode cX5_init 157 = .ok (.newarray .int, 2) := by decide +kernel
theorem dX5_init_159 : decode cX5_init 159 = .ok (.putfield 67, 3) := by decide +kernel
theorem dX5_init_162 : decode cX5_init 162 = .ok (.aload_n 0, 1) := by decide +kernel
theorem dX5_init_163 : decode cX5_init 163 = .ok (.sipush 9100, 3) := by decide +kernel
theorem dX5_init_166 : decode cX5_init 166 = .ok (.newarray .int, 2) := by decide +kernel
theorem dX5_init_168 : decode cX5_init 168 = .ok (.putfield 70, 3) := by decide +kernel
theorem dX5_init_171 : decode cX5_init 171 = .ok (.aload_n 0, 1) := by decide +kernel
theorem dX5_init_172 : decode cX5_init 172 = .ok (.bipush 7, 2) := by decide +kernel
theorem dX5_init_174 : decode cX5_init 174 = .ok (.newarray .float, 2) := by decide +kernel
theorem dX5_init_176 : decode cX5_init 176 = .ok (.putfield 73, 3) := by decide +kernel
theorem dX5_init_179 : decode cX5_init 179 = .ok (.aload_n 0, 1) := by decide +kernel
theorem dX5_init_180 : decode cX5_init 180 = .ok (.bipush 7, 2) := by decide +kernel
theorem dX5_init_182 : decode cX5_init 182 = .ok (.newarray .long, 2) := by decide +kernel
theorem dX5_init_184 : decode cX5_init 184 = .ok (.putfield 77, 3) := by decide +kernel
theorem dX5_init_187 : decode cX5_init 187 = .ok (.aload_n 0, 1) := by decide +kernel
theorem dX5_init_188 : decode cX5_init 188 = .ok (.bipush 7, 2) := by decide +kernel
theorem dX5_init_190 : decode cX5_init 190 = .ok (.newarray .long, 2) := by decide +kernel
theorem dX5_init_192 : decode cX5_init 192 = .ok (.putfield 81, 3) := by decide +kernel
theorem dX5_init_195 : decode cX5_init 195 = .ok (.aload_n 0, 1) := by decide +kernel
theorem dX5_init_196 : decode cX5_init 196 = .ok (.bipush 120, 2) := by decide +kernel
theorem dX5_init_198 : decode cX5_init 198 = .ok (.newarray .int, 2) := by decide +kernel
theorem dX5_init_200 : decode cX5_init 200 = .ok (.putfield 84, 3) := by decide +kernel
theorem dX5_init_203 : decode cX5_init 203 = .ok (.aload_n 0, 1) := by decide +kernel
theorem dX5_init_204 : decode cX5_init 204 = .ok (.getfield 13, 3) := by decide +kernel
theorem dX5_init_207 : decode cX5_init 207 = .ok (.iconst 0, 1) := by decide +kernel
theorem dX5_init_208 : decode cX5_init 208 = .ok (.iconst 2, 1) := by decide +kernel
theorem dX5_init_209 : decode cX5_init 209 = .ok (.iastore, 1) := by decide +kernel
theorem dX5_init_210 : decode cX5_init 210 = .ok (.aload_n 0, 1) := by decide +kernel
theorem dX5_init_211 : decode cX5_init 211 = .ok (.getfield 13, 3) := by decide +kernel
theorem dX5_init_214 : decode cX5_init 214 = .ok (.iconst 1, 1) := by decide +kernel
theorem dX5_init_215 : decode cX5_init 215 = .ok (.iconst 1, 1) := by decide +kernel
theorem dX5_init_216 : decode cX5_init 216 = .ok (.iastore, 1) := by decide +kernel
theorem dX5_init_217 : decode cX5_init 217 = .ok (.aload_n 0, 1) := by decide +kernel
theorem dX5_init_218 : decode cX5_init 218 = .ok (.getfield 13, 3) := by decide +kernel
theorem dX5_init_221 : decode cX5_init 221 = .ok (.iconst 2, 1) := by decide +kernel
theorem dX5_init_222 : decode cX5_init 222 = .ok (.iconst 2, 1) := by decide +kernel
theorem dX5_init_223 : decode cX5_init 223 = .ok (.iastore, 1) := by decide +kernel
theorem dX5_init_224 : decode cX5_init 224 = .ok (.aload_n 0, 1) := by decide +kernel
theorem dX5_init_225 : decode cX5_init 225 = .ok (.getfield 13, 3) := by decide +kernel
theorem dX5_init_228 : decode cX5_init 228 = .ok (.iconst 3, 1) := by decide +kernel
theorem dX5_init_229 : decode cX5_init 229 = .ok (.iconst 2, 1) := by decide +kernel
theorem dX5_init_230 : decode cX5_init 230 = .ok (.iastore, 1) := by decide +kernel
theorem dX5_init_231 : decode cX5_init 231 = .ok (.aload_n 0, 1) := by decide +kernel
theorem dX5_init_232 : decode cX5_init 232 = .ok (.getfield 13, 3) := by decide +kernel
theorem dX5_init_235 : decode cX5_init 235 = .ok (.iconst 4, 1) := by decide +kernel
theorem dX5_init_236 : decode cX5_init 236 = .ok (.bipush 6, 2) := by decide +kernel
theorem dX5_init_238 : decode cX5_init 238 = .ok (.iastore, 1) := by decide +kernel
theorem dX5_init_239 : decode cX5_init 239 = .ok (.aload_n 0, 1) := by decide +kernel
theorem dX5_init_240 : decode cX5_init 240 = .ok (.invokevirtual 87, 3) := by decide +kernel
theorem dX5_init_243 : decode cX5_init 243 = .ok (.return_, 1) := by decide +kernel
theorem dX5_begins_0 : decode cX5_begins 0 = .ok (.iconst 0, 1) := by decide +kernel
theorem dX5_begins_1 : decode cX5_begins 1 = .ok (.istore_n 1, 1) := by decide +kernel
theorem dX5_begins_2 : decode cX5_begins 2 = .ok (.iload_n 1, 1) := by decide +kernel
theorem dX5_begins_3 : decode cX5_begins 3 = .ok (.bipush 64, 2) := by decide +kernel
theorem dX5_begins_5 : decode cX5_begins 5 = .ok (.if_icmp .ge 24, 3) := by decide +kernel
theorem dX5_begins_8 : decode cX5_begins 8 = .ok (.aload_n 0, 1) := by decide +kernel
theorem dX5_begins_9 : decode cX5_begins 9 = .ok (.getfield 16, 3) := by decide +kernel
theorem dX5_begins_12 : decode cX5_begins 12 = .ok (.iload_n 1, 1) := by decide +kernel
theorem dX5_begins_13 : decode cX5_begins 13 = .ok (.iconst 5, 1) := by decide +kernel
theorem dX5_begins_14 : decode cX5_begins 14 = .ok (.iload_n 1, 1) := by decide +kernel
theorem dX5_begins_15 : decode cX5_begins 15 = .ok (.iconst 4, 1) := by decide +kernel
theorem dX5_begins_16 : decode cX5_begins 16 = .ok (.idiv, 1) := by decide +kernel
theorem dX5_begins_17 : decode cX5_begins 17 = .ok (.imul, 1) := by decide +kernel
theorem dX5_begins_18 : decode cX5_begins 18 = .ok (.iload_n 1, 1) := by decide +kernel
theorem dX5_begins_19 : decode cX5_begins 19 = .ok (.iconst 4, 1) := by decide +kernel
theorem dX5_begins_20 : decode cX5_begins 20 = .ok (.irem, 1) := by decide +kernel
theorem dX5_begins_21 : decode cX5_begins 21 = .ok (.iadd, 1) := by decide +kernel
theorem dX5_begins_22 : decode cX5_begins 22 = .ok (.iastore, 1) := by decide +kernel
theorem dX5_begins_23 : decode cX5_begins 23 = .ok (.iinc 1 1, 3) := by decide +kernel
theorem dX5_begins_26 : decode cX5_begins 26 = .ok (.goto (-24), 3) := by decide +kernel
theorem dX5_begins_29 : decode cX5_begins 29 = .ok (.iconst 0, 1) := by decide +kernel
theorem dX5_begins_30 : decode cX5_begins 30 = .ok (.istore_n 1, 1) := by decide +kernel
theorem dX5_begins_31 : decode cX5_begins 31 = .ok (.iload_n 1, 1) := by decide +kernel
theorem dX5_begins_32 : decode cX5_begins 32 = .ok (.bipush 16, 2) := by decide +kernel
theorem dX5_begins_34 : decode cX5_begins 34 = .ok (.if_icmp .ge 30, 3) := by decide +kernel
theorem dX5_begins_37 : decode cX5_begins 37 = .ok (.aload_n 0, 1) := by decide +kernel
theorem dX5_begins_38 : decode cX5_begins 38 = .ok (.getfield 25, 3) := by decide +kernel
theorem dX5_begins_41 : decode cX5_begins 41 = .ok (.iload_n 1, 1) := by decide +kernel
theorem dX5_begins_42 : decode cX5_begins 42 = .ok (.iconst 0, 1) := by decide +kernel
theorem dX5_begins_43 : decode cX5_begins 43 = .ok (.iastore, 1) := by decide +kernel
theorem dX5_begins_44 : decode cX5_begins 44 = .ok (.aload_n 0, 1) := by decide +kernel
theorem dX5_begins_45 : decode cX5_begins 45 = .ok (.getfield 22, 3) := by decide +kernel
theorem dX5_begins_48 : decode cX5_begins 48 = .ok (.iload_n 1, 1) := by decide +kernel
theorem dX5_begins_49 : decode cX5_begins 49 = .ok (.iconst 0, 1) := by decide +kernel
theorem dX5_begins_50 : decode cX5_begins 50 = .ok (.iastore, 1) := by decide +kernel
theorem dX5_begins_51 : decode cX5_begins 51 = .ok (.aload_n 0, 1) := by decide +kernel
theorem dX5_begins_52 : decode cX5_begins 52 = .ok (.getfield 40, 3) := by decide +kernel
theorem dX5_begins_55 : decode cX5_begins 55 = .ok (.iload_n 1, 1) := by decide +kernel
theorem dX5_begins_56 : decode cX5_begins 56 = .ok (.iconst 0, 1) := by decide +kernel
theorem dX5_begins_57 : decode cX5_begins 57 = .ok (.iastore, 1) := by decide +kernel
theorem dX5_begins_58 : decode cX5_begins 58 = .ok (.iinc 1 1, 3) := by decide +kernel
theorem dX5_begins_61 : decode cX5_begins 61 = .ok (.goto (-30), 3) := by decide +kernel
theorem dX5_begins_64 : decode cX5_begins 64 = .ok (.iconst 0, 1) := by decide +kernel
theorem dX5_begins_65 : decode cX5_begins 65 = .ok (.istore_n 1, 1) := by decide +kernel
theorem dX5_begins_66 : decode cX5_begins 66 = .ok (.iload_n 1, 1) := by decide +kernel
theorem dX5_begins_67 : decode cX5_begins 67 = .ok (.iconst 4, 1) := by decide +kernel
theorem dX5_begins_68 : decode cX5_begins 68 = .ok (.if_icmp .ge 16, 3) := by decide +kernel
theorem dX5_begins_71 : decode cX5_begins 71 = .ok (.aload_n 0, 1) := by decide +kernel
theorem dX5_begins_72 : decode cX5_begins 72 = .ok (.getfield 31, 3) := by decide +kernel
theorem dX5_begins_75 : decode cX5_begins 75 = .ok (.iload_n 1, 1) := by decide +kernel
theorem dX5_begins_76 : decode cX5_begins 76 = .ok (.iconst 0, 1) := by decide +kernel
theorem dX5_begins_77 : decode cX5_begins 77 = .ok (.iastore, 1) := by decide +kernel
theorem dX5_begins_78 : decode cX5_begins 78 = .ok (.iinc 1 1, 3) := by decide +kernel
theorem dX5_begins_81 : decode cX5_begins 81 = .ok (.goto (-15), 3) := by decide +kernel
theorem dX5_begins_84 : decode cX5_begins 84 = .ok (.iconst 0, 1) := by decide +kernel
theorem dX5_begins_85 : decode cX5_begins 85 = .ok (.istore_n 1, 1) := by decide +kernel
theorem dX5_begins_86 : decode cX5_begins 86 = .ok (.iload_n 1, 1) := by decide +kernel
theorem dX5_begins_87 : decode cX5_begins 87 = .ok (.bipush 10, 2) := by decide +kernel
theorem dX5_begins_89 : decode cX5_begins 89 = .ok (.if_icmp .ge 16, 3) := by decide +kernel
theorem dX5_begins_92 : decode cX5_begins 92 = .ok (.aload_n 0, 1) := by decide +kernel
theorem dX5_begins_93 : decode cX5_begins 93 = .ok (.getfield 58, 3) := by decide +kernel
theorem dX5_begins_96 : decode cX5_begins 96 = .ok (.iload_n 1, 1) := by decide +kernel
theorem dX5_begins_97 : decode cX5_begins 97 = .ok (.iconst 0, 1) := by decide +kernel
theorem dX5_begins_98 : decode cX5_begins 98 = .ok (.iastore, 1) := by decide +kernel
theorem dX5_begins_99 : decode cX5_begins 99 = .ok (.iinc 1 1, 3) := by decide +kernel
theorem dX5_begins_102 : decode cX5_begins 102 = .ok (.goto (-16), 3) := by decide +kernel
theorem dX5_begins_105 : decode cX5_begins 105 = .ok (.aload_n 0, 1) := by decide +kernel
theorem dX5_begins_106 : decode cX5_begins 106 = .ok (.getfield 55, 3) := by decide +kernel
theorem dX5_begins_109 : decode cX5_begins 109 = .ok (.iconst 0, 1) := by decide +kernel
theorem dX5_begins_110 : decode cX5_begins 110 = .ok (.iconst 0, 1) := by decide +kernel
theorem dX5_begins_111 : decode cX5_begins 111 = .ok (.iastore, 1) := by decide +kernel
theorem dX5_begins_112 : decode cX5_begins 112 = .ok (.aload_n 0, 1) := by decide +kernel
theorem dX5_begins_113 : decode cX5_begins 113 = .ok (.getfield 55, 3) := by decide +kernel
theorem dX5_begins_116 : decode cX5_begins 116 = .ok (.iconst 1, 1) := by decide +kernel
theorem dX5_begins_117 : decode cX5_begins 117 = .ok (.iconst 0, 1) := by decide +kernel
theorem dX5_begins_118 : decode cX5_begins 118 = .ok (.iastore, 1) := by decide +kernel
theorem dX5_begins_119 : decode cX5_begins 119 = .ok (.aload_n 0, 1) := by decide +kernel
theorem dX5_begins_120 : decode cX5_begins 120 = .ok (.getfield 55, 3) := by decide +kernel
theorem dX5_begins_123 : decode cX5_begins 123 = .ok (.iconst 2, 1) := by decide +kernel
theorem dX5_begins_124 : decode cX5_begins 124 = .ok (.iconst 0, 1) := by decide +kernel
theorem dX5_begins_125 : decode cX5_begins 125 = .ok (.iastore, 1) := by decide +kernel
theorem dX5_begins_126 : decode cX5_begins 126 = .ok (.aload_n 0, 1) := by decide +kernel
theorem dX5_begins_127 : decode cX5_begins 127 = .ok (.fconst 0, 1) := by decide +kernel
theorem dX5_begins_128 : decode cX5_begins 128 = .ok (.putfield 90, 3) := by decide +kernel
theorem dX5_begins_131 : decode cX5_begins 131 = .ok (.aload_n 0, 1) := by decide +kernel
theorem dX5_begins_132 : decode cX5_begins 132 = .ok (.lconst 0, 1) := by decide +kernel
theorem dX5_begins_133 : decode cX5_begins 133 = .ok (.putfield 94, 3) := by decide +kernel
theorem dX5_begins_136 : decode cX5_begins 136 = .ok (.aload_n 0, 1) := by decide +kernel
theorem dX5_begins_137 : decode cX5_begins 137 = .ok (.lconst 0, 1) := by decide +kernel
theorem dX5_begins_138 : decode cX5_begins 138 = .ok (.putfield 98, 3) := by decide +kernel
theorem dX5_begins_141 : decode cX5_begins 141 = .ok (.return_, 1) := by decide +kernel
theorem dX5_isBox_0 : decode cX5_isBox 0 = .ok (.iload_n 0, 1) := by decide +kernel
theorem dX5_isBox_1 : decode cX5_isBox 1 = .ok (.iconst 0, 1) := by decide +kernel
theorem dX5_isBox_2 : decode cX5_isBox 2 = .ok (.bipush 15, 2) := by decide +kernel
theorem dX5_isBox_4 : decode cX5_isBox 4 = .ok (.invokestatic 101, 3) := by decide +kernel
theorem dX5_isBox_7 : decode cX5_isBox 7 = .ok (.ireturn, 1) := by decide +kernel
theorem dX5_lays_0 : decode cX5_lays 0 = .ok (.iconst 0, 1) := by decide +kernel
theorem dX5_lays_1 : decode cX5_lays 1 = .ok (.istore_n 3, 1) := by decide +kernel
theorem dX5_lays_2 : decode cX5_lays 2 = .ok (.iload_n 3, 1) := by decide +kernel
theorem dX5_lays_3 : decode cX5_lays 3 = .ok (.iload_n 2, 1) := by decide +kernel
theorem dX5_lays_4 : decode cX5_lays 4 = .ok (.if_icmp .ge 23, 3) := by decide +kernel
theorem dX5_lays_7 : decode cX5_lays 7 = .ok (.aload_n 0, 1) := by decide +kernel
theorem dX5_lays_8 : decode cX5_lays 8 = .ok (.getfield 70, 3) := by decide +kernel
theorem dX5_lays_11 : decode cX5_lays 11 = .ok (.aload_n 0, 1) := by decide +kernel
theorem dX5_lays_12 : decode cX5_lays 12 = .ok (.getfield 105, 3) := by decide +kernel
theorem dX5_lays_15 : decode cX5_lays 15 = .ok (.iload_n 3, 1) := by decide +kernel
theorem dX5_lays_16 : decode cX5_lays 16 = .ok (.iadd, 1) := by decide +kernel
theorem dX5_lays_17 : decode cX5_lays 17 = .ok (.aload_n 1, 1) := by decide +kernel
theorem dX5_lays_18 : decode cX5_lays 18 = .ok (.iload_n 3, 1) := by decide +kernel
theorem dX5_lays_19 : decode cX5_lays 19 = .ok (.iaload, 1) := by decide +kernel
theorem dX5_lays_20 : decode cX5_lays 20 = .ok (.iastore, 1) := by decide +kernel
theorem dX5_lays_21 : decode cX5_lays 21 = .ok (.iinc 3 1, 3) := by decide +kernel
theorem dX5_lays_24 : decode cX5_lays 24 = .ok (.goto (-22), 3) := by decide +kernel
theorem dX5_lays_27 : decode cX5_lays 27 = .ok (.aload_n 0, 1) := by decide +kernel
theorem dX5_lays_28 : decode cX5_lays 28 = .ok (.dup, 1) := by decide +kernel
theorem dX5_lays_29 : decode cX5_lays 29 = .ok (.getfield 105, 3) := by decide +kernel
theorem dX5_lays_32 : decode cX5_lays 32 = .ok (.iload_n 2, 1) := by decide +kernel
theorem dX5_lays_33 : decode cX5_lays 33 = .ok (.iadd, 1) := by decide +kernel
theorem dX5_lays_34 : decode cX5_lays 34 = .ok (.putfield 105, 3) := by decide +kernel
theorem dX5_lays_37 : decode cX5_lays 37 = .ok (.return_, 1) := by decide +kernel
theorem dX5_takes_0 : decode cX5_takes 0 = .ok (.iconst 0, 1) := by decide +kernel
theorem dX5_takes_1 : decode cX5_takes 1 = .ok (.istore_n 3, 1) := by decide +kernel
theorem dX5_takes_2 : decode cX5_takes 2 = .ok (.iload_n 3, 1) := by decide +kernel
theorem dX5_takes_3 : decode cX5_takes 3 = .ok (.iload_n 2, 1) := by decide +kernel
theorem dX5_takes_4 : decode cX5_takes 4 = .ok (.if_icmp .ge 23, 3) := by decide +kernel
theorem dX5_takes_7 : decode cX5_takes 7 = .ok (.aload_n 1, 1) := by decide +kernel
theorem dX5_takes_8 : decode cX5_takes 8 = .ok (.iload_n 3, 1) := by decide +kernel
theorem dX5_takes_9 : decode cX5_takes 9 = .ok (.aload_n 0, 1) := by decide +kernel
theorem dX5_takes_10 : decode cX5_takes 10 = .ok (.getfield 70, 3) := by decide +kernel
theorem dX5_takes_13 : decode cX5_takes 13 = .ok (.aload_n 0, 1) := by decide +kernel
theorem dX5_takes_14 : decode cX5_takes 14 = .ok (.getfield 105, 3) := by decide +kernel
theorem dX5_takes_17 : decode cX5_takes 17 = .ok (.iload_n 3, 1) := by decide +kernel
theorem dX5_takes_18 : decode cX5_takes 18 = .ok (.iadd, 1) := by decide +kernel
theorem dX5_takes_19 : decode cX5_takes 19 = .ok (.iaload, 1) := by decide +kernel
theorem dX5_takes_20 : decode cX5_takes 20 = .ok (.iastore, 1) := by decide +kernel
theorem dX5_takes_21 : decode cX5_takes 21 = .ok (.iinc 3 1, 3) := by decide +kernel
theorem dX5_takes_24 : decode cX5_takes 24 = .ok (.goto (-22), 3) := by decide +kernel
theorem dX5_takes_27 : decode cX5_takes 27 = .ok (.aload_n 0, 1) := by decide +kernel
theorem dX5_takes_28 : decode cX5_takes 28 = .ok (.dup, 1) := by decide +kernel
theorem dX5_takes_29 : decode cX5_takes 29 = .ok (.getfield 105, 3) := by decide +kernel
theorem dX5_takes_32 : decode cX5_takes 32 = .ok (.iload_n 2, 1) := by decide +kernel
theorem dX5_takes_33 : decode cX5_takes 33 = .ok (.iadd, 1) := by decide +kernel
theorem dX5_takes_34 : decode cX5_takes 34 = .ok (.putfield 105, 3) := by decide +kernel
theorem dX5_takes_37 : decode cX5_takes 37 = .ok (.return_, 1) := by decide +kernel
theorem dX5_keeps_0 : decode cX5_keeps 0 = .ok (.aload_n 0, 1) := by decide +kernel
theorem dX5_keeps_1 : decode cX5_keeps 1 = .ok (.sipush 1300, 3) := by decide +kernel
theorem dX5_keeps_4 : decode cX5_keeps 4 = .ok (.iload_n 1, 1) := by decide +kernel
theorem dX5_keeps_5 : decode cX5_keeps 5 = .ok (.imul, 1) := by decide +kernel
theorem dX5_keeps_6 : decode cX5_keeps 6 = .ok (.putfield 105, 3) := by decide +kernel
theorem dX5_keeps_9 : decode cX5_keeps 9 = .ok (.aload_n 0, 1) := by decide +kernel
theorem dX5_keeps_10 : decode cX5_keeps 10 = .ok (.aload_n 0, 1) := by decide +kernel
theorem dX5_keeps_11 : decode cX5_keeps 11 = .ok (.getfield 13, 3) := by decide +kernel
theorem dX5_keeps_14 : decode cX5_keeps 14 = .ok (.iconst 5, 1) := by decide +kernel
theorem dX5_keeps_15 : decode cX5_keeps 15 = .ok (.invokevirtual 109, 3) := by decide +kernel
theorem dX5_keeps_18 : decode cX5_keeps 18 = .ok (.aload_n 0, 1) := by decide +kernel
theorem dX5_keeps_19 : decode cX5_keeps 19 = .ok (.aload_n 0, 1) := by decide +kernel
theorem dX5_keeps_20 : decode cX5_keeps 20 = .ok (.getfield 16, 3) := by decide +kernel
theorem dX5_keeps_23 : decode cX5_keeps 23 = .ok (.bipush 64, 2) := by decide +kernel
theorem dX5_keeps_25 : decode cX5_keeps 25 = .ok (.invokevirtual 109, 3) := by decide +kernel
theorem dX5_keeps_28 : decode cX5_keeps 28 = .ok (.aload_n 0, 1) := by decide +kernel
theorem dX5_keeps_29 : decode cX5_keeps 29 = .ok (.aload_n 0, 1) := by decide +kernel
theorem dX5_keeps_30 : decode cX5_keeps 30 = .ok (.getfield 19, 3) := by decide +kernel
theorem dX5_keeps_33 : decode cX5_keeps 33 = .ok (.bipush 64, 2) := by decide +kernel
theorem dX5_keeps_35 : decode cX5_keeps 35 = .ok (.invokevirtual 109, 3) := by decide +kernel
theorem dX5_keeps_38 : decode cX5_keeps 38 = .ok (.aload_n 0, 1) := by decide +kernel
theorem dX5_keeps_39 : decode cX5_keeps 39 = .ok (.aload_n 0, 1) := by decide +kernel
theorem dX5_keeps_40 : decode cX5_keeps 40 = .ok (.getfield 22, 3) := by decide +kernel
theorem dX5_keeps_43 : decode cX5_keeps 43 = .ok (.bipush 16, 2) := by decide +kernel
theorem dX5_keeps_45 : decode cX5_keeps 45 = .ok (.invokevirtual 109, 3) := by decide +kernel
theorem dX5_keeps_48 : decode cX5_keeps 48 = .ok (.aload_n 0, 1) := by decide +kernel
theorem dX5_keeps_49 : decode cX5_keeps 49 = .ok (.aload_n 0, 1) := by decide +kernel
theorem dX5_keeps_50 : decode cX5_keeps 50 = .ok (.getfield 25, 3) := by decide +kernel
theorem dX5_keeps_53 : decode cX5_keeps 53 = .ok (.bipush 16, 2) := by decide +kernel
theorem dX5_keeps_55 : decode cX5_keeps 55 = .ok (.invokevirtual 109, 3) := by decide +kernel
theorem dX5_keeps_58 : decode cX5_keeps 58 = .ok (.aload_n 0, 1) := by decide +kernel
theorem dX5_keeps_59 : decode cX5_keeps 59 = .ok (.aload_n 0, 1) := by decide +kernel
theorem dX5_keeps_60 : decode cX5_keeps 60 = .ok (.getfield 28, 3) := by decide +kernel
theorem dX5_keeps_63 : decode cX5_keeps 63 = .ok (.bipush 16, 2) := by decide +kernel
theorem dX5_keeps_65 : decode cX5_keeps 65 = .ok (.invokevirtual 109, 3) := by decide +kernel
theorem dX5_keeps_68 : decode cX5_keeps 68 = .ok (.aload_n 0, 1) := by decide +kernel
theorem dX5_keeps_69 : decode cX5_keeps 69 = .ok (.aload_n 0, 1) := by decide +kernel
theorem dX5_keeps_70 : decode cX5_keeps 70 = .ok (.getfield 31, 3) := by decide +kernel
theorem dX5_keeps_73 : decode cX5_keeps 73 = .ok (.iconst 4, 1) := by decide +kernel
theorem dX5_keeps_74 : decode cX5_keeps 74 = .ok (.invokevirtual 109, 3) := by decide +kernel
theorem dX5_keeps_77 : decode cX5_keeps 77 = .ok (.aload_n 0, 1) := by decide +kernel
theorem dX5_keeps_78 : decode cX5_keeps 78 = .ok (.aload_n 0, 1) := by decide +kernel
theorem dX5_keeps_79 : decode cX5_keeps 79 = .ok (.getfield 34, 3) := by decide +kernel
theorem dX5_keeps_82 : decode cX5_keeps 82 = .ok (.bipush 12, 2) := by decide +kernel
theorem dX5_keeps_84 : decode cX5_keeps 84 = .ok (.invokevirtual 109, 3) := by decide +kernel
theorem dX5_keeps_87 : decode cX5_keeps 87 = .ok (.aload_n 0, 1) := by decide +kernel
theorem dX5_keeps_88 : decode cX5_keeps 88 = .ok (.aload_n 0, 1) := by decide +kernel
theorem dX5_keeps_89 : decode cX5_keeps 89 = .ok (.getfield 37, 3) := by decide +kernel
theorem dX5_keeps_92 : decode cX5_keeps 92 = .ok (.iconst 4, 1) := by decide +kernel
theorem dX5_keeps_93 : decode cX5_keeps 93 = .ok (.invokevirtual 109, 3) := by decide +kernel
theorem dX5_keeps_96 : decode cX5_keeps 96 = .ok (.aload_n 0, 1) := by decide +kernel
theorem dX5_keeps_97 : decode cX5_keeps 97 = .ok (.aload_n 0, 1) := by decide +kernel
theorem dX5_keeps_98 : decode cX5_keeps 98 = .ok (.getfield 40, 3) := by decide +kernel
theorem dX5_keeps_101 : decode cX5_keeps 101 = .ok (.bipush 16, 2) := by decide +kernel
theorem dX5_keeps_103 : decode cX5_keeps 103 = .ok (.invokevirtual 109, 3) := by decide +kernel
theorem dX5_keeps_106 : decode cX5_keeps 106 = .ok (.aload_n 0, 1) := by decide +kernel
theorem dX5_keeps_107 : decode cX5_keeps 107 = .ok (.aload_n 0, 1) := by decide +kernel
theorem dX5_keeps_108 : decode cX5_keeps 108 = .ok (.getfield 43, 3) := by decide +kernel
theorem dX5_keeps_111 : decode cX5_keeps 111 = .ok (.bipush 64, 2) := by decide +kernel
theorem dX5_keeps_113 : decode cX5_keeps 113 = .ok (.invokevirtual 109, 3) := by decide +kernel
theorem dX5_keeps_116 : decode cX5_keeps 116 = .ok (.aload_n 0, 1) := by decide +kernel
theorem dX5_keeps_117 : decode cX5_keeps 117 = .ok (.aload_n 0, 1) := by decide +kernel
theorem dX5_keeps_118 : decode cX5_keeps 118 = .ok (.getfield 46, 3) := by decide +kernel
theorem dX5_keeps_121 : decode cX5_keeps 121 = .ok (.bipush 64, 2) := by decide +kernel
theorem dX5_keeps_123 : decode cX5_keeps 123 = .ok (.invokevirtual 109, 3) := by decide +kernel
theorem dX5_keeps_126 : decode cX5_keeps 126 = .ok (.aload_n 0, 1) := by decide +kernel
theorem dX5_keeps_127 : decode cX5_keeps 127 = .ok (.aload_n 0, 1) := by decide +kernel
theorem dX5_keeps_128 : decode cX5_keeps 128 = .ok (.getfield 49, 3) := by decide +kernel
theorem dX5_keeps_131 : decode cX5_keeps 131 = .ok (.bipush 64, 2) := by decide +kernel
theorem dX5_keeps_133 : decode cX5_keeps 133 = .ok (.invokevirtual 109, 3) := by decide +kernel
theorem dX5_keeps_136 : decode cX5_keeps 136 = .ok (.aload_n 0, 1) := by decide +kernel
theorem dX5_keeps_137 : decode cX5_keeps 137 = .ok (.aload_n 0, 1) := by decide +kernel
theorem dX5_keeps_138 : decode cX5_keeps 138 = .ok (.getfield 52, 3) := by decide +kernel
theorem dX5_keeps_141 : decode cX5_keeps 141 = .ok (.bipush 64, 2) := by decide +kernel
theorem dX5_keeps_143 : decode cX5_keeps 143 = .ok (.invokevirtual 109, 3) := by decide +kernel
theorem dX5_keeps_146 : decode cX5_keeps 146 = .ok (.aload_n 0, 1) := by decide +kernel
theorem dX5_keeps_147 : decode cX5_keeps 147 = .ok (.aload_n 0, 1) := by decide +kernel
theorem dX5_keeps_148 : decode cX5_keeps 148 = .ok (.getfield 55, 3) := by decide +kernel
theorem dX5_keeps_151 : decode cX5_keeps 151 = .ok (.iconst 3, 1) := by decide +kernel
theorem dX5_keeps_152 : decode cX5_keeps 152 = .ok (.invokevirtual 109, 3) := by decide +kernel
theorem dX5_keeps_155 : decode cX5_keeps 155 = .ok (.aload_n 0, 1) := by decide +kernel
theorem dX5_keeps_156 : decode cX5_keeps 156 = .ok (.aload_n 0, 1) := by decide +kernel
theorem dX5_keeps_157 : decode cX5_keeps 157 = .ok (.getfield 58, 3) := by decide +kernel
theorem dX5_keeps_160 : decode cX5_keeps 160 = .ok (.bipush 10, 2) := by decide +kernel
theorem dX5_keeps_162 : decode cX5_keeps 162 = .ok (.invokevirtual 109, 3) := by decide +kernel
theorem dX5_keeps_165 : decode cX5_keeps 165 = .ok (.aload_n 0, 1) := by decide +kernel
theorem dX5_keeps_166 : decode cX5_keeps 166 = .ok (.aload_n 0, 1) := by decide +kernel
theorem dX5_keeps_167 : decode cX5_keeps 167 = .ok (.getfield 61, 3) := by decide +kernel
theorem dX5_keeps_170 : decode cX5_keeps 170 = .ok (.sipush 200, 3) := by decide +kernel
theorem dX5_keeps_173 : decode cX5_keeps 173 = .ok (.invokevirtual 109, 3) := by decide +kernel
theorem dX5_keeps_176 : decode cX5_keeps 176 = .ok (.aload_n 0, 1) := by decide +kernel
theorem dX5_keeps_177 : decode cX5_keeps 177 = .ok (.aload_n 0, 1) := by decide +kernel
theorem dX5_keeps_178 : decode cX5_keeps 178 = .ok (.getfield 64, 3) := by decide +kernel
theorem dX5_keeps_181 : decode cX5_keeps 181 = .ok (.sipush 200, 3) := by decide +kernel
theorem dX5_keeps_184 : decode cX5_keeps 184 = .ok (.invokevirtual 109, 3) := by decide +kernel
theorem dX5_keeps_187 : decode cX5_keeps 187 = .ok (.aload_n 0, 1) := by decide +kernel
theorem dX5_keeps_188 : decode cX5_keeps 188 = .ok (.aload_n 0, 1) := by decide +kernel
theorem dX5_keeps_189 : decode cX5_keeps 189 = .ok (.getfield 67, 3) := by decide +kernel
theorem dX5_keeps_192 : decode cX5_keeps 192 = .ok (.sipush 200, 3) := by decide +kernel
theorem dX5_keeps_195 : decode cX5_keeps 195 = .ok (.invokevirtual 109, 3) := by decide +kernel
theorem dX5_keeps_198 : decode cX5_keeps 198 = .ok (.aload_n 0, 1) := by decide +kernel
theorem dX5_keeps_199 : decode cX5_keeps 199 = .ok (.getfield 73, 3) := by decide +kernel
theorem dX5_keeps_202 : decode cX5_keeps 202 = .ok (.iload_n 1, 1) := by decide +kernel
theorem dX5_keeps_203 : decode cX5_keeps 203 = .ok (.aload_n 0, 1) := by decide +kernel
theorem dX5_keeps_204 : decode cX5_keeps 204 = .ok (.getfield 90, 3) := by decide +kernel
theorem dX5_keeps_207 : decode cX5_keeps 207 = .ok (.fastore, 1) := by decide +kernel
theorem dX5_keeps_208 : decode cX5_keeps 208 = .ok (.aload_n 0, 1) := by decide +kernel
theorem dX5_keeps_209 : decode cX5_keeps 209 = .ok (.getfield 77, 3) := by decide +kernel
theorem dX5_keeps_212 : decode cX5_keeps 212 = .ok (.iload_n 1, 1) := by decide +kernel
theorem dX5_keeps_213 : decode cX5_keeps 213 = .ok (.aload_n 0, 1) := by decide +kernel
theorem dX5_keeps_214 : decode cX5_keeps 214 = .ok (.getfield 94, 3) := by decide +kernel
theorem dX5_keeps_217 : decode cX5_keeps 217 = .ok (.lastore, 1) := by decide +kernel
theorem dX5_keeps_218 : decode cX5_keeps 218 = .ok (.aload_n 0, 1) := by decide +kernel
theorem dX5_keeps_219 : decode cX5_keeps 219 = .ok (.getfield 81, 3) := by decide +kernel
theorem dX5_keeps_222 : decode cX5_keeps 222 = .ok (.iload_n 1, 1) := by decide +kernel
theorem dX5_keeps_223 : decode cX5_keeps 223 = .ok (.aload_n 0, 1) := by decide +kernel
theorem dX5_keeps_224 : decode cX5_keeps 224 = .ok (.getfield 98, 3) := by decide +kernel
theorem dX5_keeps_227 : decode cX5_keeps 227 = .ok (.lastore, 1) := by decide +kernel
theorem dX5_keeps_228 : decode cX5_keeps 228 = .ok (.return_, 1) := by decide +kernel
theorem dX5_comesBack_0 : decode cX5_comesBack 0 = .ok (.aload_n 0, 1) := by decide +kernel
theorem dX5_comesBack_1 : decode cX5_comesBack 1 = .ok (.sipush 1300, 3) := by decide +kernel
theorem dX5_comesBack_4 : decode cX5_comesBack 4 = .ok (.iload_n 1, 1) := by decide +kernel
theorem dX5_comesBack_5 : decode cX5_comesBack 5 = .ok (.imul, 1) := by decide +kernel
theorem dX5_comesBack_6 : decode cX5_comesBack 6 = .ok (.putfield 105, 3) := by decide +kernel
theorem dX5_comesBack_9 : decode cX5_comesBack 9 = .ok (.aload_n 0, 1) := by decide +kernel
theorem dX5_comesBack_10 : decode cX5_comesBack 10 = .ok (.aload_n 0, 1) := by decide +kernel
theorem dX5_comesBack_11 : decode cX5_comesBack 11 = .ok (.getfield 13, 3) := by decide +kernel
theorem dX5_comesBack_14 : decode cX5_comesBack 14 = .ok (.iconst 5, 1) := by decide +kernel
theorem dX5_comesBack_15 : decode cX5_comesBack 15 = .ok (.invokevirtual 113, 3) := by decide +kernel
theorem dX5_comesBack_18 : decode cX5_comesBack 18 = .ok (.aload_n 0, 1) := by decide +kernel
theorem dX5_comesBack_19 : decode cX5_comesBack 19 = .ok (.aload_n 0, 1) := by decide +kernel
theorem dX5_comesBack_20 : decode cX5_comesBack 20 = .ok (.getfield 16, 3) := by decide +kernel
theorem dX5_comesBack_23 : decode cX5_comesBack 23 = .ok (.bipush 64, 2) := by decide +kernel
theorem dX5_comesBack_25 : decode cX5_comesBack 25 = .ok (.invokevirtual 113, 3) := by decide +kernel
theorem dX5_comesBack_28 : decode cX5_comesBack 28 = .ok (.aload_n 0, 1) := by decide +kernel
theorem dX5_comesBack_29 : decode cX5_comesBack 29 = .ok (.aload_n 0, 1) := by decide +kernel
theorem dX5_comesBack_30 : decode cX5_comesBack 30 = .ok (.getfield 19, 3) := by decide +kernel
theorem dX5_comesBack_33 : decode cX5_comesBack 33 = .ok (.bipush 64, 2) := by decide +kernel
theorem dX5_comesBack_35 : decode cX5_comesBack 35 = .ok (.invokevirtual 113, 3) := by decide +kernel
theorem dX5_comesBack_38 : decode cX5_comesBack 38 = .ok (.aload_n 0, 1) := by decide +kernel
theorem dX5_comesBack_39 : decode cX5_comesBack 39 = .ok (.aload_n 0, 1) := by decide +kernel
theorem dX5_comesBack_40 : decode cX5_comesBack 40 = .ok (.getfield 22, 3) := by decide +kernel
theorem dX5_comesBack_43 : decode cX5_comesBack 43 = .ok (.bipush 16, 2) := by decide +kernel
theorem dX5_comesBack_45 : decode cX5_comesBack 45 = .ok (.invokevirtual 113, 3) := by decide +kernel
theorem dX5_comesBack_48 : decode cX5_comesBack 48 = .ok (.aload_n 0, 1) := by decide +kernel
theorem dX5_comesBack_49 : decode cX5_comesBack 49 = .ok (.aload_n 0, 1) := by decide +kernel
theorem dX5_comesBack_50 : decode cX5_comesBack 50 = .ok (.getfield 25, 3) := by decide +kernel
theorem dX5_comesBack_53 : decode cX5_comesBack 53 = .ok (.bipush 16, 2) := by decide +kernel
theorem dX5_comesBack_55 : decode cX5_comesBack 55 = .ok (.invokevirtual 113, 3) := by decide +kernel
theorem dX5_comesBack_58 : decode cX5_comesBack 58 = .ok (.aload_n 0, 1) := by decide +kernel
theorem dX5_comesBack_59 : decode cX5_comesBack 59 = .ok (.aload_n 0, 1) := by decide +kernel
theorem dX5_comesBack_60 : decode cX5_comesBack 60 = .ok (.getfield 28, 3) := by decide +kernel
theorem dX5_comesBack_63 : decode cX5_comesBack 63 = .ok (.bipush 16, 2) := by decide +kernel
theorem dX5_comesBack_65 : decode cX5_comesBack 65 = .ok (.invokevirtual 113, 3) := by decide +kernel
theorem dX5_comesBack_68 : decode cX5_comesBack 68 = .ok (.aload_n 0, 1) := by decide +kernel
theorem dX5_comesBack_69 : decode cX5_comesBack 69 = .ok (.aload_n 0, 1) := by decide +kernel
theorem dX5_comesBack_70 : decode cX5_comesBack 70 = .ok (.getfield 31, 3) := by decide +kernel
theorem dX5_comesBack_73 : decode cX5_comesBack 73 = .ok (.iconst 4, 1) := by decide +kernel
theorem dX5_comesBack_74 : decode cX5_comesBack 74 = .ok (.invokevirtual 113, 3) := by decide +kernel
theorem dX5_comesBack_77 : decode cX5_comesBack 77 = .ok (.aload_n 0, 1) := by decide +kernel
theorem dX5_comesBack_78 : decode cX5_comesBack 78 = .ok (.aload_n 0, 1) := by decide +kernel
theorem dX5_comesBack_79 : decode cX5_comesBack 79 = .ok (.getfield 34, 3) := by decide +kernel
theorem dX5_comesBack_82 : decode cX5_comesBack 82 = .ok (.bipush 12, 2) := by decide +kernel
theorem dX5_comesBack_84 : decode cX5_comesBack 84 = .ok (.invokevirtual 113, 3) := by decide +kernel
theorem dX5_comesBack_87 : decode cX5_comesBack 87 = .ok (.aload_n 0, 1) := by decide +kernel
theorem dX5_comesBack_88 : decode cX5_comesBack 88 = .ok (.aload_n 0, 1) := by decide +kernel
theorem dX5_comesBack_89 : decode cX5_comesBack 89 = .ok (.getfield 37, 3) := by decide +kernel
theorem dX5_comesBack_92 : decode cX5_comesBack 92 = .ok (.iconst 4, 1) := by decide +kernel
theorem dX5_comesBack_93 : decode cX5_comesBack 93 = .ok (.invokevirtual 113, 3) := by decide +kernel
theorem dX5_comesBack_96 : decode cX5_comesBack 96 = .ok (.aload_n 0, 1) := by decide +kernel
theorem dX5_comesBack_97 : decode cX5_comesBack 97 = .ok (.aload_n 0, 1) := by decide +kernel
theorem dX5_comesBack_98 : decode cX5_comesBack 98 = .ok (.getfield 40, 3) := by decide +kernel
theorem dX5_comesBack_101 : decode cX5_comesBack 101 = .ok (.bipush 16, 2) := by decide +kernel
theorem dX5_comesBack_103 : decode cX5_comesBack 103 = .ok (.invokevirtual 113, 3) := by decide +kernel
theorem dX5_comesBack_106 : decode cX5_comesBack 106 = .ok (.aload_n 0, 1) := by decide +kernel
theorem dX5_comesBack_107 : decode cX5_comesBack 107 = .ok (.aload_n 0, 1) := by decide +kernel
theorem dX5_comesBack_108 : decode cX5_comesBack 108 = .ok (.getfield 43, 3) := by decide +kernel
theorem dX5_comesBack_111 : decode cX5_comesBack 111 = .ok (.bipush 64, 2) := by decide +kernel
theorem dX5_comesBack_113 : decode cX5_comesBack 113 = .ok (.invokevirtual 113, 3) := by decide +kernel
theorem dX5_comesBack_116 : decode cX5_comesBack 116 = .ok (.aload_n 0, 1) := by decide +kernel
theorem dX5_comesBack_117 : decode cX5_comesBack 117 = .ok (.aload_n 0, 1) := by decide +kernel
theorem dX5_comesBack_118 : decode cX5_comesBack 118 = .ok (.getfield 46, 3) := by decide +kernel
theorem dX5_comesBack_121 : decode cX5_comesBack 121 = .ok (.bipush 64, 2) := by decide +kernel
theorem dX5_comesBack_123 : decode cX5_comesBack 123 = .ok (.invokevirtual 113, 3) := by decide +kernel
theorem dX5_comesBack_126 : decode cX5_comesBack 126 = .ok (.aload_n 0, 1) := by decide +kernel
theorem dX5_comesBack_127 : decode cX5_comesBack 127 = .ok (.aload_n 0, 1) := by decide +kernel
theorem dX5_comesBack_128 : decode cX5_comesBack 128 = .ok (.getfield 49, 3) := by decide +kernel
theorem dX5_comesBack_131 : decode cX5_comesBack 131 = .ok (.bipush 64, 2) := by decide +kernel
theorem dX5_comesBack_133 : decode cX5_comesBack 133 = .ok (.invokevirtual 113, 3) := by decide +kernel
theorem dX5_comesBack_136 : decode cX5_comesBack 136 = .ok (.aload_n 0, 1) := by decide +kernel
theorem dX5_comesBack_137 : decode cX5_comesBack 137 = .ok (.aload_n 0, 1) := by decide +kernel
theorem dX5_comesBack_138 : decode cX5_comesBack 138 = .ok (.getfield 52, 3) := by decide +kernel
theorem dX5_comesBack_141 : decode cX5_comesBack 141 = .ok (.bipush 64, 2) := by decide +kernel
theorem dX5_comesBack_143 : decode cX5_comesBack 143 = .ok (.invokevirtual 113, 3) := by decide +kernel
theorem dX5_comesBack_146 : decode cX5_comesBack 146 = .ok (.aload_n 0, 1) := by decide +kernel
theorem dX5_comesBack_147 : decode cX5_comesBack 147 = .ok (.aload_n 0, 1) := by decide +kernel
theorem dX5_comesBack_148 : decode cX5_comesBack 148 = .ok (.getfield 55, 3) := by decide +kernel
theorem dX5_comesBack_151 : decode cX5_comesBack 151 = .ok (.iconst 3, 1) := by decide +kernel
theorem dX5_comesBack_152 : decode cX5_comesBack 152 = .ok (.invokevirtual 113, 3) := by decide +kernel
theorem dX5_comesBack_155 : decode cX5_comesBack 155 = .ok (.aload_n 0, 1) := by decide +kernel
theorem dX5_comesBack_156 : decode cX5_comesBack 156 = .ok (.aload_n 0, 1) := by decide +kernel
theorem dX5_comesBack_157 : decode cX5_comesBack 157 = .ok (.getfield 58, 3) := by decide +kernel
theorem dX5_comesBack_160 : decode cX5_comesBack 160 = .ok (.bipush 10, 2) := by decide +kernel
theorem dX5_comesBack_162 : decode cX5_comesBack 162 = .ok (.invokevirtual 113, 3) := by decide +kernel
theorem dX5_comesBack_165 : decode cX5_comesBack 165 = .ok (.aload_n 0, 1) := by decide +kernel
theorem dX5_comesBack_166 : decode cX5_comesBack 166 = .ok (.aload_n 0, 1) := by decide +kernel
theorem dX5_comesBack_167 : decode cX5_comesBack 167 = .ok (.getfield 61, 3) := by decide +kernel
theorem dX5_comesBack_170 : decode cX5_comesBack 170 = .ok (.sipush 200, 3) := by decide +kernel
theorem dX5_comesBack_173 : decode cX5_comesBack 173 = .ok (.invokevirtual 113, 3) := by decide +kernel
theorem dX5_comesBack_176 : decode cX5_comesBack 176 = .ok (.aload_n 0, 1) := by decide +kernel
theorem dX5_comesBack_177 : decode cX5_comesBack 177 = .ok (.aload_n 0, 1) := by decide +kernel
theorem dX5_comesBack_178 : decode cX5_comesBack 178 = .ok (.getfield 64, 3) := by decide +kernel
theorem dX5_comesBack_181 : decode cX5_comesBack 181 = .ok (.sipush 200, 3) := by decide +kernel
theorem dX5_comesBack_184 : decode cX5_comesBack 184 = .ok (.invokevirtual 113, 3) := by decide +kernel
theorem dX5_comesBack_187 : decode cX5_comesBack 187 = .ok (.aload_n 0, 1) := by decide +kernel
theorem dX5_comesBack_188 : decode cX5_comesBack 188 = .ok (.aload_n 0, 1) := by decide +kernel
theorem dX5_comesBack_189 : decode cX5_comesBack 189 = .ok (.getfield 67, 3) := by decide +kernel
theorem dX5_comesBack_192 : decode cX5_comesBack 192 = .ok (.sipush 200, 3) := by decide +kernel
theorem dX5_comesBack_195 : decode cX5_comesBack 195 = .ok (.invokevirtual 113, 3) := by decide +kernel
theorem dX5_comesBack_198 : decode cX5_comesBack 198 = .ok (.aload_n 0, 1) := by decide +kernel
theorem dX5_comesBack_199 : decode cX5_comesBack 199 = .ok (.aload_n 0, 1) := by decide +kernel
theorem dX5_comesBack_200 : decode cX5_comesBack 200 = .ok (.getfield 73, 3) := by decide +kernel
theorem dX5_comesBack_203 : decode cX5_comesBack 203 = .ok (.iload_n 1, 1) := by decide +kernel
theorem dX5_comesBack_204 : decode cX5_comesBack 204 = .ok (.faload, 1) := by decide +kernel
theorem dX5_comesBack_205 : decode cX5_comesBack 205 = .ok (.putfield 90, 3) := by decide +kernel
theorem dX5_comesBack_208 : decode cX5_comesBack 208 = .ok (.aload_n 0, 1) := by decide +kernel
theorem dX5_comesBack_209 : decode cX5_comesBack 209 = .ok (.aload_n 0, 1) := by decide +kernel
theorem dX5_comesBack_210 : decode cX5_comesBack 210 = .ok (.getfield 77, 3) := by decide +kernel
theorem dX5_comesBack_213 : decode cX5_comesBack 213 = .ok (.iload_n 1, 1) := by decide +kernel
theorem dX5_comesBack_214 : decode cX5_comesBack 214 = .ok (.laload, 1) := by decide +kernel
theorem dX5_comesBack_215 : decode cX5_comesBack 215 = .ok (.putfield 94, 3) := by decide +kernel
theorem dX5_comesBack_218 : decode cX5_comesBack 218 = .ok (.aload_n 0, 1) := by decide +kernel
theorem dX5_comesBack_219 : decode cX5_comesBack 219 = .ok (.aload_n 0, 1) := by decide +kernel
theorem dX5_comesBack_220 : decode cX5_comesBack 220 = .ok (.getfield 81, 3) := by decide +kernel
theorem dX5_comesBack_223 : decode cX5_comesBack 223 = .ok (.iload_n 1, 1) := by decide +kernel
theorem dX5_comesBack_224 : decode cX5_comesBack 224 = .ok (.laload, 1) := by decide +kernel
theorem dX5_comesBack_225 : decode cX5_comesBack 225 = .ok (.putfield 98, 3) := by decide +kernel
theorem dX5_comesBack_228 : decode cX5_comesBack 228 = .ok (.return_, 1) := by decide +kernel
theorem dX5_leavesState_0 : decode cX5_leavesState 0 = .ok (.aload_n 0, 1) := by decide +kernel
theorem dX5_leavesState_1 : decode cX5_leavesState 1 = .ok (.getfield 116, 3) := by decide +kernel
theorem dX5_leavesState_4 : decode cX5_leavesState 4 = .ok (.bipush 6, 2) := by decide +kernel
theorem dX5_leavesState_6 : decode cX5_leavesState 6 = .ok (.if_icmp .ne 99, 3) := by decide +kernel
theorem dX5_leavesState_9 : decode cX5_leavesState 9 = .ok (.iconst 0, 1) := by decide +kernel
theorem dX5_leavesState_10 : decode cX5_leavesState 10 = .ok (.istore_n 1, 1) := by decide +kernel
theorem dX5_leavesState_11 : decode cX5_leavesState 11 = .ok (.iload_n 1, 1) := by decide +kernel
theorem dX5_leavesState_12 : decode cX5_leavesState 12 = .ok (.sipush 6500, 3) := by decide +kernel
theorem dX5_leavesState_15 : decode cX5_leavesState 15 = .ok (.if_icmp .ge 25, 3) := by decide +kernel
theorem dX5_leavesState_18 : decode cX5_leavesState 18 = .ok (.aload_n 0, 1) := by decide +kernel
theorem dX5_leavesState_19 : decode cX5_leavesState 19 = .ok (.getfield 70, 3) := by decide +kernel
theorem dX5_leavesState_22 : decode cX5_leavesState 22 = .ok (.iload_n 1, 1) := by decide +kernel
theorem dX5_leavesState_23 : decode cX5_leavesState 23 = .ok (.aload_n 0, 1) := by decide +kernel
theorem dX5_leavesState_24 : decode cX5_leavesState 24 = .ok (.getfield 70, 3) := by decide +kernel
theorem dX5_leavesState_27 : decode cX5_leavesState 27 = .ok (.iload_n 1, 1) := by decide +kernel
theorem dX5_leavesState_28 : decode cX5_leavesState 28 = .ok (.sipush 1300, 3) := by decide +kernel
theorem dX5_leavesState_31 : decode cX5_leavesState 31 = .ok (.iadd, 1) := by decide +kernel
theorem dX5_leavesState_32 : decode cX5_leavesState 32 = .ok (.iaload, 1) := by decide +kernel
theorem dX5_leavesState_33 : decode cX5_leavesState 33 = .ok (.iastore, 1) := by decide +kernel
theorem dX5_leavesState_34 : decode cX5_leavesState 34 = .ok (.iinc 1 1, 3) := by decide +kernel
theorem dX5_leavesState_37 : decode cX5_leavesState 37 = .ok (.goto (-26), 3) := by decide +kernel
theorem dX5_leavesState_40 : decode cX5_leavesState 40 = .ok (.iconst 0, 1) := by decide +kernel
theorem dX5_leavesState_41 : decode cX5_leavesState 41 = .ok (.istore_n 1, 1) := by decide +kernel
theorem dX5_leavesState_42 : decode cX5_leavesState 42 = .ok (.iload_n 1, 1) := by decide +kernel
theorem dX5_leavesState_43 : decode cX5_leavesState 43 = .ok (.iconst 5, 1) := by decide +kernel
theorem dX5_leavesState_44 : decode cX5_leavesState 44 = .ok (.if_icmp .ge 51, 3) := by decide +kernel
theorem dX5_leavesState_47 : decode cX5_leavesState 47 = .ok (.aload_n 0, 1) := by decide +kernel
theorem dX5_leavesState_48 : decode cX5_leavesState 48 = .ok (.getfield 73, 3) := by decide +kernel
theorem dX5_leavesState_51 : decode cX5_leavesState 51 = .ok (.iload_n 1, 1) := by decide +kernel
theorem dX5_leavesState_52 : decode cX5_leavesState 52 = .ok (.aload_n 0, 1) := by decide +kernel
theorem dX5_leavesState_53 : decode cX5_leavesState 53 = .ok (.getfield 73, 3) := by decide +kernel
theorem dX5_leavesState_56 : decode cX5_leavesState 56 = .ok (.iload_n 1, 1) := by decide +kernel
theorem dX5_leavesState_57 : decode cX5_leavesState 57 = .ok (.iconst 1, 1) := by decide +kernel
theorem dX5_leavesState_58 : decode cX5_leavesState 58 = .ok (.iadd, 1) := by decide +kernel
theorem dX5_leavesState_59 : decode cX5_leavesState 59 = .ok (.faload, 1) := by decide +kernel
theorem dX5_leavesState_60 : decode cX5_leavesState 60 = .ok (.fastore, 1) := by decide +kernel
theorem dX5_leavesState_61 : decode cX5_leavesState 61 = .ok (.aload_n 0, 1) := by decide +kernel
theorem dX5_leavesState_62 : decode cX5_leavesState 62 = .ok (.getfield 77, 3) := by decide +kernel
theorem dX5_leavesState_65 : decode cX5_leavesState 65 = .ok (.iload_n 1, 1) := by decide +kernel
theorem dX5_leavesState_66 : decode cX5_leavesState 66 = .ok (.aload_n 0, 1) := by decide +kernel
theorem dX5_leavesState_67 : decode cX5_leavesState 67 = .ok (.getfield 77, 3) := by decide +kernel
theorem dX5_leavesState_70 : decode cX5_leavesState 70 = .ok (.iload_n 1, 1) := by decide +kernel
theorem dX5_leavesState_71 : decode cX5_leavesState 71 = .ok (.iconst 1, 1) := by decide +kernel
theorem dX5_leavesState_72 : decode cX5_leavesState 72 = .ok (.iadd, 1) := by decide +kernel
theorem dX5_leavesState_73 : decode cX5_leavesState 73 = .ok (.laload, 1) := by decide +kernel
theorem dX5_leavesState_74 : decode cX5_leavesState 74 = .ok (.lastore, 1) := by decide +kernel
theorem dX5_leavesState_75 : decode cX5_leavesState 75 = .ok (.aload_n 0, 1) := by decide +kernel
theorem dX5_leavesState_76 : decode cX5_leavesState 76 = .ok (.getfield 81, 3) := by decide +kernel
theorem dX5_leavesState_79 : decode cX5_leavesState 79 = .ok (.iload_n 1, 1) := by decide +kernel
theorem dX5_leavesState_80 : decode cX5_leavesState 80 = .ok (.aload_n 0, 1) := by decide +kernel
theorem dX5_leavesState_81 : decode cX5_leavesState 81 = .ok (.getfield 81, 3) := by decide +kernel
theorem dX5_leavesState_84 : decode cX5_leavesState 84 = .ok (.iload_n 1, 1) := by decide +kernel
theorem dX5_leavesState_85 : decode cX5_leavesState 85 = .ok (.iconst 1, 1) := by decide +kernel
theorem dX5_leavesState_86 : decode cX5_leavesState 86 = .ok (.iadd, 1) := by decide +kernel
theorem dX5_leavesState_87 : decode cX5_leavesState 87 = .ok (.laload, 1) := by decide +kernel
theorem dX5_leavesState_88 : decode cX5_leavesState 88 = .ok (.lastore, 1) := by decide +kernel
theorem dX5_leavesState_89 : decode cX5_leavesState 89 = .ok (.iinc 1 1, 3) := by decide +kernel
theorem dX5_leavesState_92 : decode cX5_leavesState 92 = .ok (.goto (-50), 3) := by decide +kernel
theorem dX5_leavesState_95 : decode cX5_leavesState 95 = .ok (.aload_n 0, 1) := by decide +kernel
theorem dX5_leavesState_96 : decode cX5_leavesState 96 = .ok (.dup, 1) := by decide +kernel
theorem dX5_leavesState_97 : decode cX5_leavesState 97 = .ok (.getfield 116, 3) := by decide +kernel
theorem dX5_leavesState_100 : decode cX5_leavesState 100 = .ok (.iconst 1, 1) := by decide +kernel
theorem dX5_leavesState_101 : decode cX5_leavesState 101 = .ok (.isub, 1) := by decide +kernel
theorem dX5_leavesState_102 : decode cX5_leavesState 102 = .ok (.putfield 116, 3) := by decide +kernel
theorem dX5_leavesState_105 : decode cX5_leavesState 105 = .ok (.aload_n 0, 1) := by decide +kernel
theorem dX5_leavesState_106 : decode cX5_leavesState 106 = .ok (.aload_n 0, 1) := by decide +kernel
theorem dX5_leavesState_107 : decode cX5_leavesState 107 = .ok (.getfield 116, 3) := by decide +kernel
theorem dX5_leavesState_110 : decode cX5_leavesState 110 = .ok (.invokevirtual 119, 3) := by decide +kernel
theorem dX5_leavesState_113 : decode cX5_leavesState 113 = .ok (.aload_n 0, 1) := by decide +kernel
theorem dX5_leavesState_114 : decode cX5_leavesState 114 = .ok (.dup, 1) := by decide +kernel
theorem dX5_leavesState_115 : decode cX5_leavesState 115 = .ok (.getfield 116, 3) := by decide +kernel
theorem dX5_leavesState_118 : decode cX5_leavesState 118 = .ok (.iconst 1, 1) := by decide +kernel
theorem dX5_leavesState_119 : decode cX5_leavesState 119 = .ok (.iadd, 1) := by decide +kernel
theorem dX5_leavesState_120 : decode cX5_leavesState 120 = .ok (.putfield 116, 3) := by decide +kernel
theorem dX5_leavesState_123 : decode cX5_leavesState 123 = .ok (.return_, 1) := by decide +kernel
theorem dX5_back_0 : decode cX5_back 0 = .ok (.aload_n 0, 1) := by decide +kernel
theorem dX5_back_1 : decode cX5_back 1 = .ok (.getfield 116, 3) := by decide +kernel
theorem dX5_back_4 : decode cX5_back 4 = .ok (.ifCond .ne 16, 3) := by decide +kernel
theorem dX5_back_7 : decode cX5_back 7 = .ok (.aload_n 0, 1) := by decide +kernel
theorem dX5_back_8 : decode cX5_back 8 = .ok (.getfield 1, 3) := by decide +kernel
theorem dX5_back_11 : decode cX5_back 11 = .ok (.iconst 1, 1) := by decide +kernel
theorem dX5_back_12 : decode cX5_back 12 = .ok (.dup2, 1) := by decide +kernel
theorem dX5_back_13 : decode cX5_back 13 = .ok (.iaload, 1) := by decide +kernel
theorem dX5_back_14 : decode cX5_back 14 = .ok (.iconst 1, 1) := by decide +kernel
theorem dX5_back_15 : decode cX5_back 15 = .ok (.iadd, 1) := by decide +kernel
theorem dX5_back_16 : decode cX5_back 16 = .ok (.iastore, 1) := by decide +kernel
theorem dX5_back_17 : decode cX5_back 17 = .ok (.bipush (-3), 2) := by decide +kernel
theorem dX5_back_19 : decode cX5_back 19 = .ok (.ireturn, 1) := by decide +kernel
theorem dX5_back_20 : decode cX5_back 20 = .ok (.aload_n 0, 1) := by decide +kernel
theorem dX5_back_21 : decode cX5_back 21 = .ok (.dup, 1) := by decide +kernel
theorem dX5_back_22 : decode cX5_back 22 = .ok (.getfield 116, 3) := by decide +kernel
theorem dX5_back_25 : decode cX5_back 25 = .ok (.iconst 1, 1) := by decide +kernel
theorem dX5_back_26 : decode cX5_back 26 = .ok (.isub, 1) := by decide +kernel
theorem dX5_back_27 : decode cX5_back 27 = .ok (.putfield 116, 3) := by decide +kernel
theorem dX5_back_30 : decode cX5_back 30 = .ok (.aload_n 0, 1) := by decide +kernel
theorem dX5_back_31 : decode cX5_back 31 = .ok (.aload_n 0, 1) := by decide +kernel
theorem dX5_back_32 : decode cX5_back 32 = .ok (.getfield 116, 3) := by decide +kernel
theorem dX5_back_35 : decode cX5_back 35 = .ok (.invokevirtual 123, 3) := by decide +kernel
theorem dX5_back_38 : decode cX5_back 38 = .ok (.aload_n 0, 1) := by decide +kernel
theorem dX5_back_39 : decode cX5_back 39 = .ok (.getfield 116, 3) := by decide +kernel
theorem dX5_back_42 : decode cX5_back 42 = .ok (.ireturn, 1) := by decide +kernel
theorem dX5_may_0 : decode cX5_may 0 = .ok (.iload_n 0, 1) := by decide +kernel
theorem dX5_may_1 : decode cX5_may 1 = .ok (.tableswitch 57 0 4 #[35, 42, 57, 57, 49], 35) := by decide +kernel
theorem dX5_may_36 : decode cX5_may 36 = .ok (.iload_n 1, 1) := by decide +kernel
theorem dX5_may_37 : decode cX5_may 37 = .ok (.iconst 1, 1) := by decide +kernel
theorem dX5_may_38 : decode cX5_may 38 = .ok (.iconst 3, 1) := by decide +kernel
theorem dX5_may_39 : decode cX5_may 39 = .ok (.invokestatic 101, 3) := by decide +kernel
theorem dX5_may_42 : decode cX5_may 42 = .ok (.ireturn, 1) := by decide +kernel
theorem dX5_may_43 : decode cX5_may 43 = .ok (.iload_n 1, 1) := by decide +kernel
theorem dX5_may_44 : decode cX5_may 44 = .ok (.iconst 0, 1) := by decide +kernel
theorem dX5_may_45 : decode cX5_may 45 = .ok (.iconst 3, 1) := by decide +kernel
theorem dX5_may_46 : decode cX5_may 46 = .ok (.invokestatic 101, 3) := by decide +kernel
theorem dX5_may_49 : decode cX5_may 49 = .ok (.ireturn, 1) := by decide +kernel
theorem dX5_may_50 : decode cX5_may 50 = .ok (.iload_n 1, 1) := by decide +kernel
theorem dX5_may_51 : decode cX5_may 51 = .ok (.iconst 1, 1) := by decide +kernel
theorem dX5_may_52 : decode cX5_may 52 = .ok (.bipush 20, 2) := by decide +kernel
theorem dX5_may_54 : decode cX5_may 54 = .ok (.invokestatic 101, 3) := by decide +kernel
theorem dX5_may_57 : decode cX5_may 57 = .ok (.ireturn, 1) := by decide +kernel
theorem dX5_may_58 : decode cX5_may 58 = .ok (.iload_n 0, 1) := by decide +kernel
theorem dX5_may_59 : decode cX5_may 59 = .ok (.iconst 2, 1) := by decide +kernel
theorem dX5_may_60 : decode cX5_may 60 = .ok (.iconst 3, 1) := by decide +kernel
theorem dX5_may_61 : decode cX5_may 61 = .ok (.invokestatic 101, 3) := by decide +kernel
theorem dX5_may_64 : decode cX5_may 64 = .ok (.ifCond .eq 16, 3) := by decide +kernel
theorem dX5_may_67 : decode cX5_may 67 = .ok (.iload_n 1, 1) := by decide +kernel
theorem dX5_may_68 : decode cX5_may 68 = .ok (.iconst 1, 1) := by decide +kernel
theorem dX5_may_69 : decode cX5_may 69 = .ok (.iconst 4, 1) := by decide +kernel
theorem dX5_may_70 : decode cX5_may 70 = .ok (.invokestatic 101, 3) := by decide +kernel
theorem dX5_may_73 : decode cX5_may 73 = .ok (.ifCond .eq 7, 3) := by decide +kernel
theorem dX5_may_76 : decode cX5_may 76 = .ok (.iconst 1, 1) := by decide +kernel
theorem dX5_may_77 : decode cX5_may 77 = .ok (.goto 4, 3) := by decide +kernel
theorem dX5_may_80 : decode cX5_may 80 = .ok (.iconst 0, 1) := by decide +kernel
theorem dX5_may_81 : decode cX5_may 81 = .ok (.ireturn, 1) := by decide +kernel
theorem dX5_sets_0 : decode cX5_sets 0 = .ok (.iload_n 1, 1) := by decide +kernel
theorem dX5_sets_1 : decode cX5_sets 1 = .ok (.iload_n 2, 1) := by decide +kernel
theorem dX5_sets_2 : decode cX5_sets 2 = .ok (.invokestatic 126, 3) := by decide +kernel
theorem dX5_sets_5 : decode cX5_sets 5 = .ok (.ifCond .ne 8, 3) := by decide +kernel
theorem dX5_sets_8 : decode cX5_sets 8 = .ok (.aload_n 0, 1) := by decide +kernel
theorem dX5_sets_9 : decode cX5_sets 9 = .ok (.invokevirtual 130, 3) := by decide +kernel
theorem dX5_sets_12 : decode cX5_sets 12 = .ok (.ireturn, 1) := by decide +kernel
theorem dX5_sets_13 : decode cX5_sets 13 = .ok (.aload_n 0, 1) := by decide +kernel
theorem dX5_sets_14 : decode cX5_sets 14 = .ok (.invokevirtual 134, 3) := by decide +kernel
theorem dX5_sets_17 : decode cX5_sets 17 = .ok (.aload_n 0, 1) := by decide +kernel
theorem dX5_sets_18 : decode cX5_sets 18 = .ok (.getfield 13, 3) := by decide +kernel
theorem dX5_sets_21 : decode cX5_sets 21 = .ok (.iload_n 1, 1) := by decide +kernel
theorem dX5_sets_22 : decode cX5_sets 22 = .ok (.iaload, 1) := by decide +kernel
theorem dX5_sets_23 : decode cX5_sets 23 = .ok (.istore_n 3, 1) := by decide +kernel
theorem dX5_sets_24 : decode cX5_sets 24 = .ok (.aload_n 0, 1) := by decide +kernel
theorem dX5_sets_25 : decode cX5_sets 25 = .ok (.getfield 13, 3) := by decide +kernel
theorem dX5_sets_28 : decode cX5_sets 28 = .ok (.iload_n 1, 1) := by decide +kernel
theorem dX5_sets_29 : decode cX5_sets 29 = .ok (.iload_n 2, 1) := by decide +kernel
theorem dX5_sets_30 : decode cX5_sets 30 = .ok (.iastore, 1) := by decide +kernel
theorem dX5_sets_31 : decode cX5_sets 31 = .ok (.aload_n 0, 1) := by decide +kernel
theorem dX5_sets_32 : decode cX5_sets 32 = .ok (.invokevirtual 87, 3) := by decide +kernel
theorem dX5_sets_35 : decode cX5_sets 35 = .ok (.iload_n 3, 1) := by decide +kernel
theorem dX5_sets_36 : decode cX5_sets 36 = .ok (.ireturn, 1) := by decide +kernel
theorem dX5_anew_0 : decode cX5_anew 0 = .ok (.aload_n 0, 1) := by decide +kernel
theorem dX5_anew_1 : decode cX5_anew 1 = .ok (.invokevirtual 134, 3) := by decide +kernel
theorem dX5_anew_4 : decode cX5_anew 4 = .ok (.aload_n 0, 1) := by decide +kernel
theorem dX5_anew_5 : decode cX5_anew 5 = .ok (.getfield 58, 3) := by decide +kernel
theorem dX5_anew_8 : decode cX5_anew 8 = .ok (.bipush 9, 2) := by decide +kernel
theorem dX5_anew_10 : decode cX5_anew 10 = .ok (.iaload, 1) := by decide +kernel
theorem dX5_anew_11 : decode cX5_anew 11 = .ok (.istore_n 1, 1) := by decide +kernel
theorem dX5_anew_12 : decode cX5_anew 12 = .ok (.aload_n 0, 1) := by decide +kernel
theorem dX5_anew_13 : decode cX5_anew 13 = .ok (.invokevirtual 87, 3) := by decide +kernel
theorem dX5_anew_16 : decode cX5_anew 16 = .ok (.iload_n 1, 1) := by decide +kernel
theorem dX5_anew_17 : decode cX5_anew 17 = .ok (.ireturn, 1) := by decide +kernel
theorem dX5_rowOf_0 : decode cX5_rowOf 0 = .ok (.iload_n 0, 1) := by decide +kernel
theorem dX5_rowOf_1 : decode cX5_rowOf 1 = .ok (.iconst 4, 1) := by decide +kernel
theorem dX5_rowOf_2 : decode cX5_rowOf 2 = .ok (.irem, 1) := by decide +kernel
theorem dX5_rowOf_3 : decode cX5_rowOf 3 = .ok (.ireturn, 1) := by decide +kernel
theorem dX5_counts_0 : decode cX5_counts 0 = .ok (.iload_n 1, 1) := by decide +kernel
theorem dX5_counts_1 : decode cX5_counts 1 = .ok (.invokestatic 137, 3) := by decide +kernel
theorem dX5_counts_4 : decode cX5_counts 4 = .ok (.istore_n 2, 1) := by decide +kernel
theorem dX5_counts_5 : decode cX5_counts 5 = .ok (.iconst 0, 1) := by decide +kernel
theorem dX5_counts_6 : decode cX5_counts 6 = .ok (.istore_n 3, 1) := by decide +kernel
theorem dX5_counts_7 : decode cX5_counts 7 = .ok (.aload_n 0, 1) := by decide +kernel
theorem dX5_counts_8 : decode cX5_counts 8 = .ok (.getfield 34, 3) := by decide +kernel
theorem dX5_counts_11 : decode cX5_counts 11 = .ok (.iconst 3, 1) := by decide +kernel
theorem dX5_counts_12 : decode cX5_counts 12 = .ok (.iload_n 2, 1) := by decide +kernel
theorem dX5_counts_13 : decode cX5_counts 13 = .ok (.imul, 1) := by decide +kernel
theorem dX5_counts_14 : decode cX5_counts 14 = .ok (.iload_n 3, 1) := by decide +kernel
theorem dX5_counts_15 : decode cX5_counts 15 = .ok (.iadd, 1) := by decide +kernel
theorem dX5_counts_16 : decode cX5_counts 16 = .ok (.iaload, 1) := by decide +kernel
theorem dX5_counts_17 : decode cX5_counts 17 = .ok (.iload_n 1, 1) := by decide +kernel
theorem dX5_counts_18 : decode cX5_counts 18 = .ok (.if_icmp .eq 9, 3) := by decide +kernel
theorem dX5_counts_21 : decode cX5_counts 21 = .ok (.iinc 3 1, 3) := by decide +kernel
theorem dX5_counts_24 : decode cX5_counts 24 = .ok (.goto (-17), 3) := by decide +kernel
theorem dX5_counts_27 : decode cX5_counts 27 = .ok (.iload_n 3, 1) := by decide +kernel
theorem dX5_counts_28 : decode cX5_counts 28 = .ok (.istore 4, 2) := by decide +kernel
theorem dX5_counts_30 : decode cX5_counts 30 = .ok (.iload 4, 2) := by decide +kernel
theorem dX5_counts_32 : decode cX5_counts 32 = .ok (.ifCond .le 33, 3) := by decide +kernel
theorem dX5_counts_35 : decode cX5_counts 35 = .ok (.aload_n 0, 1) := by decide +kernel
theorem dX5_counts_36 : decode cX5_counts 36 = .ok (.getfield 34, 3) := by decide +kernel
theorem dX5_counts_39 : decode cX5_counts 39 = .ok (.iconst 3, 1) := by decide +kernel
theorem dX5_counts_40 : decode cX5_counts 40 = .ok (.iload_n 2, 1) := by decide +kernel
theorem dX5_counts_41 : decode cX5_counts 41 = .ok (.imul, 1) := by decide +kernel
theorem dX5_counts_42 : decode cX5_counts 42 = .ok (.iload 4, 2) := by decide +kernel
theorem dX5_counts_44 : decode cX5_counts 44 = .ok (.iadd, 1) := by decide +kernel
theorem dX5_counts_45 : decode cX5_counts 45 = .ok (.aload_n 0, 1) := by decide +kernel
theorem dX5_counts_46 : decode cX5_counts 46 = .ok (.getfield 34, 3) := by decide +kernel
theorem dX5_counts_49 : decode cX5_counts 49 = .ok (.iconst 3, 1) := by decide +kernel
theorem dX5_counts_50 : decode cX5_counts 50 = .ok (.iload_n 2, 1) := by decide +kernel
theorem dX5_counts_51 : decode cX5_counts 51 = .ok (.imul, 1) := by decide +kernel
theorem dX5_counts_52 : decode cX5_counts 52 = .ok (.iload 4, 2) := by decide +kernel
theorem dX5_counts_54 : decode cX5_counts 54 = .ok (.iadd, 1) := by decide +kernel
theorem dX5_counts_55 : decode cX5_counts 55 = .ok (.iconst 1, 1) := by decide +kernel
theorem dX5_counts_56 : decode cX5_counts 56 = .ok (.isub, 1) := by decide +kernel
theorem dX5_counts_57 : decode cX5_counts 57 = .ok (.iaload, 1) := by decide +kernel
theorem dX5_counts_58 : decode cX5_counts 58 = .ok (.iastore, 1) := by decide +kernel
theorem dX5_counts_59 : decode cX5_counts 59 = .ok (.iinc 4 (-1), 3) := by decide +kernel
theorem dX5_counts_62 : decode cX5_counts 62 = .ok (.goto (-32), 3) := by decide +kernel
theorem dX5_counts_65 : decode cX5_counts 65 = .ok (.aload_n 0, 1) := by decide +kernel
theorem dX5_counts_66 : decode cX5_counts 66 = .ok (.getfield 34, 3) := by decide +kernel
theorem dX5_counts_69 : decode cX5_counts 69 = .ok (.iconst 3, 1) := by decide +kernel
theorem dX5_counts_70 : decode cX5_counts 70 = .ok (.iload_n 2, 1) := by decide +kernel
theorem dX5_counts_71 : decode cX5_counts 71 = .ok (.imul, 1) := by decide +kernel
theorem dX5_counts_72 : decode cX5_counts 72 = .ok (.iload_n 1, 1) := by decide +kernel
theorem dX5_counts_73 : decode cX5_counts 73 = .ok (.iastore, 1) := by decide +kernel
theorem dX5_counts_74 : decode cX5_counts 74 = .ok (.return_, 1) := by decide +kernel
theorem dX5_goesFar_0 : decode cX5_goesFar 0 = .ok (.iconst 0, 1) := by decide +kernel
theorem dX5_goesFar_1 : decode cX5_goesFar 1 = .ok (.istore_n 2, 1) := by decide +kernel
theorem dX5_goesFar_2 : decode cX5_goesFar 2 = .ok (.iload_n 2, 1) := by decide +kernel
theorem dX5_goesFar_3 : decode cX5_goesFar 3 = .ok (.iconst 4, 1) := by decide +kernel
theorem dX5_goesFar_4 : decode cX5_goesFar 4 = .ok (.if_icmp .ge 56, 3) := by decide +kernel
theorem dX5_goesFar_7 : decode cX5_goesFar 7 = .ok (.aload_n 0, 1) := by decide +kernel
theorem dX5_goesFar_8 : decode cX5_goesFar 8 = .ok (.getfield 16, 3) := by decide +kernel
theorem dX5_goesFar_11 : decode cX5_goesFar 11 = .ok (.iconst 4, 1) := by decide +kernel
theorem dX5_goesFar_12 : decode cX5_goesFar 12 = .ok (.iload_n 1, 1) := by decide +kernel
theorem dX5_goesFar_13 : decode cX5_goesFar 13 = .ok (.imul, 1) := by decide +kernel
theorem dX5_goesFar_14 : decode cX5_goesFar 14 = .ok (.iload_n 2, 1) := by decide +kernel
theorem dX5_goesFar_15 : decode cX5_goesFar 15 = .ok (.iadd, 1) := by decide +kernel
theorem dX5_goesFar_16 : decode cX5_goesFar 16 = .ok (.aload_n 0, 1) := by decide +kernel
theorem dX5_goesFar_17 : decode cX5_goesFar 17 = .ok (.getfield 22, 3) := by decide +kernel
theorem dX5_goesFar_20 : decode cX5_goesFar 20 = .ok (.iload_n 1, 1) := by decide +kernel
theorem dX5_goesFar_21 : decode cX5_goesFar 21 = .ok (.iaload, 1) := by decide +kernel
theorem dX5_goesFar_22 : decode cX5_goesFar 22 = .ok (.iload_n 2, 1) := by decide +kernel
theorem dX5_goesFar_23 : decode cX5_goesFar 23 = .ok (.ishr, 1) := by decide +kernel
theorem dX5_goesFar_24 : decode cX5_goesFar 24 = .ok (.iconst 1, 1) := by decide +kernel
theorem dX5_goesFar_25 : decode cX5_goesFar 25 = .ok (.iand, 1) := by decide +kernel
theorem dX5_goesFar_26 : decode cX5_goesFar 26 = .ok (.iconst 1, 1) := by decide +kernel
theorem dX5_goesFar_27 : decode cX5_goesFar 27 = .ok (.if_icmp .ne 16, 3) := by decide +kernel
theorem dX5_goesFar_30 : decode cX5_goesFar 30 = .ok (.aload_n 0, 1) := by decide +kernel
theorem dX5_goesFar_31 : decode cX5_goesFar 31 = .ok (.getfield 19, 3) := by decide +kernel
theorem dX5_goesFar_34 : decode cX5_goesFar 34 = .ok (.iconst 4, 1) := by decide +kernel
theorem dX5_goesFar_35 : decode cX5_goesFar 35 = .ok (.iload_n 1, 1) := by decide +kernel
theorem dX5_goesFar_36 : decode cX5_goesFar 36 = .ok (.imul, 1) := by decide +kernel
theorem dX5_goesFar_37 : decode cX5_goesFar 37 = .ok (.iload_n 2, 1) := by decide +kernel
theorem dX5_goesFar_38 : decode cX5_goesFar 38 = .ok (.iadd, 1) := by decide +kernel
theorem dX5_goesFar_39 : decode cX5_goesFar 39 = .ok (.iaload, 1) := by decide +kernel
theorem dX5_goesFar_40 : decode cX5_goesFar 40 = .ok (.goto 13, 3) := by decide +kernel
theorem dX5_goesFar_43 : decode cX5_goesFar 43 = .ok (.aload_n 0, 1) := by decide +kernel
theorem dX5_goesFar_44 : decode cX5_goesFar 44 = .ok (.getfield 16, 3) := by decide +kernel
theorem dX5_goesFar_47 : decode cX5_goesFar 47 = .ok (.iconst 4, 1) := by decide +kernel
theorem dX5_goesFar_48 : decode cX5_goesFar 48 = .ok (.iload_n 1, 1) := by decide +kernel
theorem dX5_goesFar_49 : decode cX5_goesFar 49 = .ok (.imul, 1) := by decide +kernel
theorem dX5_goesFar_50 : decode cX5_goesFar 50 = .ok (.iload_n 2, 1) := by decide +kernel
theorem dX5_goesFar_51 : decode cX5_goesFar 51 = .ok (.iadd, 1) := by decide +kernel
theorem dX5_goesFar_52 : decode cX5_goesFar 52 = .ok (.iaload, 1) := by decide +kernel
theorem dX5_goesFar_53 : decode cX5_goesFar 53 = .ok (.iastore, 1) := by decide +kernel
theorem dX5_goesFar_54 : decode cX5_goesFar 54 = .ok (.iinc 2 1, 3) := by decide +kernel
theorem dX5_goesFar_57 : decode cX5_goesFar 57 = .ok (.goto (-55), 3) := by decide +kernel
theorem dX5_goesFar_60 : decode cX5_goesFar 60 = .ok (.aload_n 0, 1) := by decide +kernel
theorem dX5_goesFar_61 : decode cX5_goesFar 61 = .ok (.getfield 22, 3) := by decide +kernel
theorem dX5_goesFar_64 : decode cX5_goesFar 64 = .ok (.iload_n 1, 1) := by decide +kernel
theorem dX5_goesFar_65 : decode cX5_goesFar 65 = .ok (.iconst 0, 1) := by decide +kernel
theorem dX5_goesFar_66 : decode cX5_goesFar 66 = .ok (.iastore, 1) := by decide +kernel
theorem dX5_goesFar_67 : decode cX5_goesFar 67 = .ok (.aload_n 0, 1) := by decide +kernel
theorem dX5_goesFar_68 : decode cX5_goesFar 68 = .ok (.getfield 25, 3) := by decide +kernel
theorem dX5_goesFar_71 : decode cX5_goesFar 71 = .ok (.iload_n 1, 1) := by decide +kernel
theorem dX5_goesFar_72 : decode cX5_goesFar 72 = .ok (.iconst 0, 1) := by decide +kernel
theorem dX5_goesFar_73 : decode cX5_goesFar 73 = .ok (.iastore, 1) := by decide +kernel
theorem dX5_goesFar_74 : decode cX5_goesFar 74 = .ok (.aload_n 0, 1) := by decide +kernel
theorem dX5_goesFar_75 : decode cX5_goesFar 75 = .ok (.getfield 58, 3) := by decide +kernel
theorem dX5_goesFar_78 : decode cX5_goesFar 78 = .ok (.bipush 6, 2) := by decide +kernel
theorem dX5_goesFar_80 : decode cX5_goesFar 80 = .ok (.dup2, 1) := by decide +kernel
theorem dX5_goesFar_81 : decode cX5_goesFar 81 = .ok (.iaload, 1) := by decide +kernel
theorem dX5_goesFar_82 : decode cX5_goesFar 82 = .ok (.iconst 1, 1) := by decide +kernel
theorem dX5_goesFar_83 : decode cX5_goesFar 83 = .ok (.iadd, 1) := by decide +kernel
theorem dX5_goesFar_84 : decode cX5_goesFar 84 = .ok (.iastore, 1) := by decide +kernel
theorem dX5_goesFar_85 : decode cX5_goesFar 85 = .ok (.aload_n 0, 1) := by decide +kernel
theorem dX5_goesFar_86 : decode cX5_goesFar 86 = .ok (.dup, 1) := by decide +kernel
theorem dX5_goesFar_87 : decode cX5_goesFar 87 = .ok (.getfield 90, 3) := by decide +kernel
theorem dX5_goesFar_90 : decode cX5_goesFar 90 = .ok (.ldc 141, 2) := by decide +kernel
theorem dX5_goesFar_92 : decode cX5_goesFar 92 = .ok (.fadd, 1) := by decide +kernel
theorem dX5_goesFar_93 : decode cX5_goesFar 93 = .ok (.putfield 90, 3) := by decide +kernel
theorem dX5_goesFar_96 : decode cX5_goesFar 96 = .ok (.return_, 1) := by decide +kernel
theorem dX5_halfLong_0 : decode cX5_halfLong 0 = .ok (.aload_n 0, 1) := by decide +kernel
theorem dX5_halfLong_1 : decode cX5_halfLong 1 = .ok (.getfield 13, 3) := by decide +kernel
theorem dX5_halfLong_4 : decode cX5_halfLong 4 = .ok (.iconst 4, 1) := by decide +kernel
theorem dX5_halfLong_5 : decode cX5_halfLong 5 = .ok (.iaload, 1) := by decide +kernel
theorem dX5_halfLong_6 : decode cX5_halfLong 6 = .ok (.iconst 1, 1) := by decide +kernel
theorem dX5_halfLong_7 : decode cX5_halfLong 7 = .ok (.if_icmp .le 14, 3) := by decide +kernel
theorem dX5_halfLong_10 : decode cX5_halfLong 10 = .ok (.aload_n 0, 1) := by decide +kernel
theorem dX5_halfLong_11 : decode cX5_halfLong 11 = .ok (.getfield 13, 3) := by decide +kernel
theorem dX5_halfLong_14 : decode cX5_halfLong 14 = .ok (.iconst 4, 1) := by decide +kernel
theorem dX5_halfLong_15 : decode cX5_halfLong 15 = .ok (.iaload, 1) := by decide +kernel
theorem dX5_halfLong_16 : decode cX5_halfLong 16 = .ok (.iconst 2, 1) := by decide +kernel
theorem dX5_halfLong_17 : decode cX5_halfLong 17 = .ok (.idiv, 1) := by decide +kernel
theorem dX5_halfLong_18 : decode cX5_halfLong 18 = .ok (.goto 4, 3) := by decide +kernel
theorem dX5_halfLong_21 : decode cX5_halfLong 21 = .ok (.iconst 1, 1) := by decide +kernel
theorem dX5_halfLong_22 : decode cX5_halfLong 22 = .ok (.ireturn, 1) := by decide +kernel
theorem dX5_makesRoom_0 : decode cX5_makesRoom 0 = .ok (.aload_n 0, 1) := by decide +kernel
theorem dX5_makesRoom_1 : decode cX5_makesRoom 1 = .ok (.getfield 31, 3) := by decide +kernel
theorem dX5_makesRoom_4 : decode cX5_makesRoom 4 = .ok (.iload_n 1, 1) := by decide +kernel
theorem dX5_makesRoom_5 : decode cX5_makesRoom 5 = .ok (.iaload, 1) := by decide +kernel
theorem dX5_makesRoom_6 : decode cX5_makesRoom 6 = .ok (.aload_n 0, 1) := by decide +kernel
theorem dX5_makesRoom_7 : decode cX5_makesRoom 7 = .ok (.getfield 13, 3) := by decide +kernel
theorem dX5_makesRoom_10 : decode cX5_makesRoom 10 = .ok (.iconst 0, 1) := by decide +kernel
theorem dX5_makesRoom_11 : decode cX5_makesRoom 11 = .ok (.iaload, 1) := by decide +kernel
theorem dX5_makesRoom_12 : decode cX5_makesRoom 12 = .ok (.if_icmp .ge 4, 3) := by decide +kernel
theorem dX5_makesRoom_15 : decode cX5_makesRoom 15 = .ok (.return_, 1) := by decide +kernel
theorem dX5_makesRoom_16 : decode cX5_makesRoom 16 = .ok (.aload_n 0, 1) := by decide +kernel
theorem dX5_makesRoom_17 : decode cX5_makesRoom 17 = .ok (.getfield 31, 3) := by decide +kernel
theorem dX5_makesRoom_20 : decode cX5_makesRoom 20 = .ok (.iload_n 1, 1) := by decide +kernel
theorem dX5_makesRoom_21 : decode cX5_makesRoom 21 = .ok (.dup2, 1) := by decide +kernel
theorem dX5_makesRoom_22 : decode cX5_makesRoom 22 = .ok (.iaload, 1) := by decide +kernel
theorem dX5_makesRoom_23 : decode cX5_makesRoom 23 = .ok (.iconst 1, 1) := by decide +kernel
theorem dX5_makesRoom_24 : decode cX5_makesRoom 24 = .ok (.isub, 1) := by decide +kernel
theorem dX5_makesRoom_25 : decode cX5_makesRoom 25 = .ok (.iastore, 1) := by decide +kernel
theorem dX5_makesRoom_26 : decode cX5_makesRoom 26 = .ok (.aload_n 0, 1) := by decide +kernel
theorem dX5_makesRoom_27 : decode cX5_makesRoom 27 = .ok (.getfield 34, 3) := by decide +kernel
theorem dX5_makesRoom_30 : decode cX5_makesRoom 30 = .ok (.iconst 3, 1) := by decide +kernel
theorem dX5_makesRoom_31 : decode cX5_makesRoom 31 = .ok (.iload_n 1, 1) := by decide +kernel
theorem dX5_makesRoom_32 : decode cX5_makesRoom 32 = .ok (.imul, 1) := by decide +kernel
theorem dX5_makesRoom_33 : decode cX5_makesRoom 33 = .ok (.aload_n 0, 1) := by decide +kernel
theorem dX5_makesRoom_34 : decode cX5_makesRoom 34 = .ok (.getfield 31, 3) := by decide +kernel
theorem dX5_makesRoom_37 : decode cX5_makesRoom 37 = .ok (.iload_n 1, 1) := by decide +kernel
theorem dX5_makesRoom_38 : decode cX5_makesRoom 38 = .ok (.iaload, 1) := by decide +kernel
theorem dX5_makesRoom_39 : decode cX5_makesRoom 39 = .ok (.iadd, 1) := by decide +kernel
theorem dX5_makesRoom_40 : decode cX5_makesRoom 40 = .ok (.iaload, 1) := by decide +kernel
theorem dX5_makesRoom_41 : decode cX5_makesRoom 41 = .ok (.istore_n 2, 1) := by decide +kernel
theorem dX5_makesRoom_42 : decode cX5_makesRoom 42 = .ok (.aload_n 0, 1) := by decide +kernel
theorem dX5_makesRoom_43 : decode cX5_makesRoom 43 = .ok (.getfield 22, 3) := by decide +kernel
theorem dX5_makesRoom_46 : decode cX5_makesRoom 46 = .ok (.iload_n 2, 1) := by decide +kernel
theorem dX5_makesRoom_47 : decode cX5_makesRoom 47 = .ok (.iaload, 1) := by decide +kernel
theorem dX5_makesRoom_48 : decode cX5_makesRoom 48 = .ok (.ifCond .ne 13, 3) := by decide +kernel
theorem dX5_makesRoom_51 : decode cX5_makesRoom 51 = .ok (.aload_n 0, 1) := by decide +kernel
theorem dX5_makesRoom_52 : decode cX5_makesRoom 52 = .ok (.getfield 25, 3) := by decide +kernel
theorem dX5_makesRoom_55 : decode cX5_makesRoom 55 = .ok (.iload_n 2, 1) := by decide +kernel
theorem dX5_makesRoom_56 : decode cX5_makesRoom 56 = .ok (.iconst 0, 1) := by decide +kernel
theorem dX5_makesRoom_57 : decode cX5_makesRoom 57 = .ok (.iastore, 1) := by decide +kernel
theorem dX5_makesRoom_58 : decode cX5_makesRoom 58 = .ok (.goto 71, 3) := by decide +kernel
theorem dX5_makesRoom_61 : decode cX5_makesRoom 61 = .ok (.aload_n 0, 1) := by decide +kernel
theorem dX5_makesRoom_62 : decode cX5_makesRoom 62 = .ok (.getfield 55, 3) := by decide +kernel
theorem dX5_makesRoom_65 : decode cX5_makesRoom 65 = .ok (.iconst 1, 1) := by decide +kernel
theorem dX5_makesRoom_66 : decode cX5_makesRoom 66 = .ok (.iaload, 1) := by decide +kernel
theorem dX5_makesRoom_67 : decode cX5_makesRoom 67 = .ok (.aload_n 0, 1) := by decide +kernel
theorem dX5_makesRoom_68 : decode cX5_makesRoom 68 = .ok (.getfield 13, 3) := by decide +kernel
theorem dX5_makesRoom_71 : decode cX5_makesRoom 71 = .ok (.iconst 1, 1) := by decide +kernel
theorem dX5_makesRoom_72 : decode cX5_makesRoom 72 = .ok (.iaload, 1) := by decide +kernel
theorem dX5_makesRoom_73 : decode cX5_makesRoom 73 = .ok (.if_icmp .ge 41, 3) := by decide +kernel
theorem dX5_makesRoom_76 : decode cX5_makesRoom 76 = .ok (.aload_n 0, 1) := by decide +kernel
theorem dX5_makesRoom_77 : decode cX5_makesRoom 77 = .ok (.getfield 25, 3) := by decide +kernel
theorem dX5_makesRoom_80 : decode cX5_makesRoom 80 = .ok (.iload_n 2, 1) := by decide +kernel
theorem dX5_makesRoom_81 : decode cX5_makesRoom 81 = .ok (.iconst 2, 1) := by decide +kernel
theorem dX5_makesRoom_82 : decode cX5_makesRoom 82 = .ok (.iastore, 1) := by decide +kernel
theorem dX5_makesRoom_83 : decode cX5_makesRoom 83 = .ok (.aload_n 0, 1) := by decide +kernel
theorem dX5_makesRoom_84 : decode cX5_makesRoom 84 = .ok (.getfield 28, 3) := by decide +kernel
theorem dX5_makesRoom_87 : decode cX5_makesRoom 87 = .ok (.iload_n 2, 1) := by decide +kernel
theorem dX5_makesRoom_88 : decode cX5_makesRoom 88 = .ok (.aload_n 0, 1) := by decide +kernel
theorem dX5_makesRoom_89 : decode cX5_makesRoom 89 = .ok (.getfield 58, 3) := by decide +kernel
theorem dX5_makesRoom_92 : decode cX5_makesRoom 92 = .ok (.bipush 9, 2) := by decide +kernel
theorem dX5_makesRoom_94 : decode cX5_makesRoom 94 = .ok (.iaload, 1) := by decide +kernel
theorem dX5_makesRoom_95 : decode cX5_makesRoom 95 = .ok (.aload_n 0, 1) := by decide +kernel
theorem dX5_makesRoom_96 : decode cX5_makesRoom 96 = .ok (.invokevirtual 142, 3) := by decide +kernel
theorem dX5_makesRoom_99 : decode cX5_makesRoom 99 = .ok (.iadd, 1) := by decide +kernel
theorem dX5_makesRoom_100 : decode cX5_makesRoom 100 = .ok (.iastore, 1) := by decide +kernel
theorem dX5_makesRoom_101 : decode cX5_makesRoom 101 = .ok (.aload_n 0, 1) := by decide +kernel
theorem dX5_makesRoom_102 : decode cX5_makesRoom 102 = .ok (.getfield 55, 3) := by decide +kernel
theorem dX5_makesRoom_105 : decode cX5_makesRoom 105 = .ok (.iconst 1, 1) := by decide +kernel
theorem dX5_makesRoom_106 : decode cX5_makesRoom 106 = .ok (.dup2, 1) := by decide +kernel
theorem dX5_makesRoom_107 : decode cX5_makesRoom 107 = .ok (.iaload, 1) := by decide +kernel
theorem dX5_makesRoom_108 : decode cX5_makesRoom 108 = .ok (.iconst 1, 1) := by decide +kernel
theorem dX5_makesRoom_109 : decode cX5_makesRoom 109 = .ok (.iadd, 1) := by decide +kernel
theorem dX5_makesRoom_110 : decode cX5_makesRoom 110 = .ok (.iastore, 1) := by decide +kernel
theorem dX5_makesRoom_111 : decode cX5_makesRoom 111 = .ok (.goto 18, 3) := by decide +kernel
theorem dX5_makesRoom_114 : decode cX5_makesRoom 114 = .ok (.aload_n 0, 1) := by decide +kernel
theorem dX5_makesRoom_115 : decode cX5_makesRoom 115 = .ok (.getfield 58, 3) := by decide +kernel
theorem dX5_makesRoom_118 : decode cX5_makesRoom 118 = .ok (.iconst 5, 1) := by decide +kernel
theorem dX5_makesRoom_119 : decode cX5_makesRoom 119 = .ok (.dup2, 1) := by decide +kernel
theorem dX5_makesRoom_120 : decode cX5_makesRoom 120 = .ok (.iaload, 1) := by decide +kernel
theorem dX5_makesRoom_121 : decode cX5_makesRoom 121 = .ok (.iconst 1, 1) := by decide +kernel
theorem dX5_makesRoom_122 : decode cX5_makesRoom 122 = .ok (.iadd, 1) := by decide +kernel
theorem dX5_makesRoom_123 : decode cX5_makesRoom 123 = .ok (.iastore, 1) := by decide +kernel
theorem dX5_makesRoom_124 : decode cX5_makesRoom 124 = .ok (.aload_n 0, 1) := by decide +kernel
theorem dX5_makesRoom_125 : decode cX5_makesRoom 125 = .ok (.iload_n 2, 1) := by decide +kernel
theorem dX5_makesRoom_126 : decode cX5_makesRoom 126 = .ok (.invokevirtual 145, 3) := by decide +kernel
theorem dX5_makesRoom_129 : decode cX5_makesRoom 129 = .ok (.return_, 1) := by decide +kernel
theorem dX5_comesNear_0 : decode cX5_comesNear 0 = .ok (.iload_n 1, 1) := by decide +kernel
theorem dX5_comesNear_1 : decode cX5_comesNear 1 = .ok (.invokestatic 137, 3) := by decide +kernel
theorem dX5_comesNear_4 : decode cX5_comesNear 4 = .ok (.istore_n 2, 1) := by decide +kernel
theorem dX5_comesNear_5 : decode cX5_comesNear 5 = .ok (.aload_n 0, 1) := by decide +kernel
theorem dX5_comesNear_6 : decode cX5_comesNear 6 = .ok (.iload_n 2, 1) := by decide +kernel
theorem dX5_comesNear_7 : decode cX5_comesNear 7 = .ok (.invokevirtual 148, 3) := by decide +kernel
theorem dX5_comesNear_10 : decode cX5_comesNear 10 = .ok (.aload_n 0, 1) := by decide +kernel
theorem dX5_comesNear_11 : decode cX5_comesNear 11 = .ok (.getfield 31, 3) := by decide +kernel
theorem dX5_comesNear_14 : decode cX5_comesNear 14 = .ok (.iload_n 2, 1) := by decide +kernel
theorem dX5_comesNear_15 : decode cX5_comesNear 15 = .ok (.iaload, 1) := by decide +kernel
theorem dX5_comesNear_16 : decode cX5_comesNear 16 = .ok (.istore_n 3, 1) := by decide +kernel
theorem dX5_comesNear_17 : decode cX5_comesNear 17 = .ok (.iload_n 3, 1) := by decide +kernel
theorem dX5_comesNear_18 : decode cX5_comesNear 18 = .ok (.ifCond .le 31, 3) := by decide +kernel
theorem dX5_comesNear_21 : decode cX5_comesNear 21 = .ok (.aload_n 0, 1) := by decide +kernel
theorem dX5_comesNear_22 : decode cX5_comesNear 22 = .ok (.getfield 34, 3) := by decide +kernel
theorem dX5_comesNear_25 : decode cX5_comesNear 25 = .ok (.iconst 3, 1) := by decide +kernel
theorem dX5_comesNear_26 : decode cX5_comesNear 26 = .ok (.iload_n 2, 1) := by decide +kernel
theorem dX5_comesNear_27 : decode cX5_comesNear 27 = .ok (.imul, 1) := by decide +kernel
theorem dX5_comesNear_28 : decode cX5_comesNear 28 = .ok (.iload_n 3, 1) := by decide +kernel
theorem dX5_comesNear_29 : decode cX5_comesNear 29 = .ok (.iadd, 1) := by decide +kernel
theorem dX5_comesNear_30 : decode cX5_comesNear 30 = .ok (.aload_n 0, 1) := by decide +kernel
theorem dX5_comesNear_31 : decode cX5_comesNear 31 = .ok (.getfield 34, 3) := by decide +kernel
theorem dX5_comesNear_34 : decode cX5_comesNear 34 = .ok (.iconst 3, 1) := by decide +kernel
theorem dX5_comesNear_35 : decode cX5_comesNear 35 = .ok (.iload_n 2, 1) := by decide +kernel
theorem dX5_comesNear_36 : decode cX5_comesNear 36 = .ok (.imul, 1) := by decide +kernel
theorem dX5_comesNear_37 : decode cX5_comesNear 37 = .ok (.iload_n 3, 1) := by decide +kernel
theorem dX5_comesNear_38 : decode cX5_comesNear 38 = .ok (.iadd, 1) := by decide +kernel
theorem dX5_comesNear_39 : decode cX5_comesNear 39 = .ok (.iconst 1, 1) := by decide +kernel
theorem dX5_comesNear_40 : decode cX5_comesNear 40 = .ok (.isub, 1) := by decide +kernel
theorem dX5_comesNear_41 : decode cX5_comesNear 41 = .ok (.iaload, 1) := by decide +kernel
theorem dX5_comesNear_42 : decode cX5_comesNear 42 = .ok (.iastore, 1) := by decide +kernel
theorem dX5_comesNear_43 : decode cX5_comesNear 43 = .ok (.iinc 3 (-1), 3) := by decide +kernel
theorem dX5_comesNear_46 : decode cX5_comesNear 46 = .ok (.goto (-29), 3) := by decide +kernel
theorem dX5_comesNear_49 : decode cX5_comesNear 49 = .ok (.aload_n 0, 1) := by decide +kernel
theorem dX5_comesNear_50 : decode cX5_comesNear 50 = .ok (.getfield 34, 3) := by decide +kernel
theorem dX5_comesNear_53 : decode cX5_comesNear 53 = .ok (.iconst 3, 1) := by decide +kernel
theorem dX5_comesNear_54 : decode cX5_comesNear 54 = .ok (.iload_n 2, 1) := by decide +kernel
theorem dX5_comesNear_55 : decode cX5_comesNear 55 = .ok (.imul, 1) := by decide +kernel
theorem dX5_comesNear_56 : decode cX5_comesNear 56 = .ok (.iload_n 1, 1) := by decide +kernel
theorem dX5_comesNear_57 : decode cX5_comesNear 57 = .ok (.iastore, 1) := by decide +kernel
theorem dX5_comesNear_58 : decode cX5_comesNear 58 = .ok (.aload_n 0, 1) := by decide +kernel
theorem dX5_comesNear_59 : decode cX5_comesNear 59 = .ok (.getfield 31, 3) := by decide +kernel
theorem dX5_comesNear_62 : decode cX5_comesNear 62 = .ok (.iload_n 2, 1) := by decide +kernel
theorem dX5_comesNear_63 : decode cX5_comesNear 63 = .ok (.dup2, 1) := by decide +kernel
theorem dX5_comesNear_64 : decode cX5_comesNear 64 = .ok (.iaload, 1) := by decide +kernel
theorem dX5_comesNear_65 : decode cX5_comesNear 65 = .ok (.iconst 1, 1) := by decide +kernel
theorem dX5_comesNear_66 : decode cX5_comesNear 66 = .ok (.iadd, 1) := by decide +kernel
theorem dX5_comesNear_67 : decode cX5_comesNear 67 = .ok (.iastore, 1) := by decide +kernel
theorem dX5_comesNear_68 : decode cX5_comesNear 68 = .ok (.aload_n 0, 1) := by decide +kernel
theorem dX5_comesNear_69 : decode cX5_comesNear 69 = .ok (.getfield 25, 3) := by decide +kernel
theorem dX5_comesNear_72 : decode cX5_comesNear 72 = .ok (.iload_n 1, 1) := by decide +kernel
theorem dX5_comesNear_73 : decode cX5_comesNear 73 = .ok (.iconst 1, 1) := by decide +kernel
theorem dX5_comesNear_74 : decode cX5_comesNear 74 = .ok (.iastore, 1) := by decide +kernel
theorem dX5_comesNear_75 : decode cX5_comesNear 75 = .ok (.return_, 1) := by decide +kernel
theorem dX5_getsItem_0 : decode cX5_getsItem 0 = .ok (.aload_n 0, 1) := by decide +kernel
theorem dX5_getsItem_1 : decode cX5_getsItem 1 = .ok (.getfield 58, 3) := by decide +kernel
theorem dX5_getsItem_4 : decode cX5_getsItem 4 = .ok (.bipush 9, 2) := by decide +kernel
theorem dX5_getsItem_6 : decode cX5_getsItem 6 = .ok (.iaload, 1) := by decide +kernel
theorem dX5_getsItem_7 : decode cX5_getsItem 7 = .ok (.iload 4, 2) := by decide +kernel
theorem dX5_getsItem_9 : decode cX5_getsItem 9 = .ok (.isub, 1) := by decide +kernel
theorem dX5_getsItem_10 : decode cX5_getsItem 10 = .ok (.istore 5, 2) := by decide +kernel
theorem dX5_getsItem_12 : decode cX5_getsItem 12 = .ok (.aload_n 0, 1) := by decide +kernel
theorem dX5_getsItem_13 : decode cX5_getsItem 13 = .ok (.getfield 58, 3) := by decide +kernel
theorem dX5_getsItem_16 : decode cX5_getsItem 16 = .ok (.bipush 8, 2) := by decide +kernel
theorem dX5_getsItem_18 : decode cX5_getsItem 18 = .ok (.dup2, 1) := by decide +kernel
theorem dX5_getsItem_19 : decode cX5_getsItem 19 = .ok (.iaload, 1) := by decide +kernel
theorem dX5_getsItem_20 : decode cX5_getsItem 20 = .ok (.iconst 1, 1) := by decide +kernel
theorem dX5_getsItem_21 : decode cX5_getsItem 21 = .ok (.iadd, 1) := by decide +kernel
theorem dX5_getsItem_22 : decode cX5_getsItem 22 = .ok (.iastore, 1) := by decide +kernel
theorem dX5_getsItem_23 : decode cX5_getsItem 23 = .ok (.aload_n 0, 1) := by decide +kernel
theorem dX5_getsItem_24 : decode cX5_getsItem 24 = .ok (.dup, 1) := by decide +kernel
theorem dX5_getsItem_25 : decode cX5_getsItem 25 = .ok (.getfield 94, 3) := by decide +kernel
theorem dX5_getsItem_28 : decode cX5_getsItem 28 = .ok (.iload 5, 2) := by decide +kernel
theorem dX5_getsItem_30 : decode cX5_getsItem 30 = .ok (.i2l, 1) := by decide +kernel
theorem dX5_getsItem_31 : decode cX5_getsItem 31 = .ok (.ladd, 1) := by decide +kernel
theorem dX5_getsItem_32 : decode cX5_getsItem 32 = .ok (.putfield 94, 3) := by decide +kernel
theorem dX5_getsItem_35 : decode cX5_getsItem 35 = .ok (.aload_n 0, 1) := by decide +kernel
theorem dX5_getsItem_36 : decode cX5_getsItem 36 = .ok (.dup, 1) := by decide +kernel
theorem dX5_getsItem_37 : decode cX5_getsItem 37 = .ok (.getfield 98, 3) := by decide +kernel
theorem dX5_getsItem_40 : decode cX5_getsItem 40 = .ok (.iload 5, 2) := by decide +kernel
theorem dX5_getsItem_42 : decode cX5_getsItem 42 = .ok (.i2l, 1) := by decide +kernel
theorem dX5_getsItem_43 : decode cX5_getsItem 43 = .ok (.iload 5, 2) := by decide +kernel
theorem dX5_getsItem_45 : decode cX5_getsItem 45 = .ok (.i2l, 1) := by decide +kernel
theorem dX5_getsItem_46 : decode cX5_getsItem 46 = .ok (.lmul, 1) := by decide +kernel
theorem dX5_getsItem_47 : decode cX5_getsItem 47 = .ok (.ladd, 1) := by decide +kernel
theorem dX5_getsItem_48 : decode cX5_getsItem 48 = .ok (.putfield 98, 3) := by decide +kernel
theorem dX5_getsItem_51 : decode cX5_getsItem 51 = .ok (.aload_n 0, 1) := by decide +kernel
theorem dX5_getsItem_52 : decode cX5_getsItem 52 = .ok (.getfield 55, 3) := by decide +kernel
theorem dX5_getsItem_55 : decode cX5_getsItem 55 = .ok (.iconst 2, 1) := by decide +kernel
theorem dX5_getsItem_56 : decode cX5_getsItem 56 = .ok (.iload 5, 2) := by decide +kernel
theorem dX5_getsItem_58 : decode cX5_getsItem 58 = .ok (.aload_n 0, 1) := by decide +kernel
theorem dX5_getsItem_59 : decode cX5_getsItem 59 = .ok (.getfield 55, 3) := by decide +kernel
theorem dX5_getsItem_62 : decode cX5_getsItem 62 = .ok (.iconst 2, 1) := by decide +kernel
theorem dX5_getsItem_63 : decode cX5_getsItem 63 = .ok (.iaload, 1) := by decide +kernel
theorem dX5_getsItem_64 : decode cX5_getsItem 64 = .ok (.if_icmp .le 8, 3) := by decide +kernel
theorem dX5_getsItem_67 : decode cX5_getsItem 67 = .ok (.iload 5, 2) := by decide +kernel
theorem dX5_getsItem_69 : decode cX5_getsItem 69 = .ok (.goto 9, 3) := by decide +kernel
theorem dX5_getsItem_72 : decode cX5_getsItem 72 = .ok (.aload_n 0, 1) := by decide +kernel
theorem dX5_getsItem_73 : decode cX5_getsItem 73 = .ok (.getfield 55, 3) := by decide +kernel
theorem dX5_getsItem_76 : decode cX5_getsItem 76 = .ok (.iconst 2, 1) := by decide +kernel
theorem dX5_getsItem_77 : decode cX5_getsItem 77 = .ok (.iaload, 1) := by decide +kernel
theorem dX5_getsItem_78 : decode cX5_getsItem 78 = .ok (.iastore, 1) := by decide +kernel
theorem dX5_getsItem_79 : decode cX5_getsItem 79 = .ok (.iload_n 1, 1) := by decide +kernel
theorem dX5_getsItem_80 : decode cX5_getsItem 80 = .ok (.sipush 200, 3) := by decide +kernel
theorem dX5_getsItem_83 : decode cX5_getsItem 83 = .ok (.if_icmp .ge 27, 3) := by decide +kernel
theorem dX5_getsItem_86 : decode cX5_getsItem 86 = .ok (.aload_n 0, 1) := by decide +kernel
theorem dX5_getsItem_87 : decode cX5_getsItem 87 = .ok (.getfield 61, 3) := by decide +kernel
theorem dX5_getsItem_90 : decode cX5_getsItem 90 = .ok (.iload_n 1, 1) := by decide +kernel
theorem dX5_getsItem_91 : decode cX5_getsItem 91 = .ok (.aload_n 0, 1) := by decide +kernel
theorem dX5_getsItem_92 : decode cX5_getsItem 92 = .ok (.getfield 19, 3) := by decide +kernel
theorem dX5_getsItem_95 : decode cX5_getsItem 95 = .ok (.iconst 4, 1) := by decide +kernel
theorem dX5_getsItem_96 : decode cX5_getsItem 96 = .ok (.iload_n 2, 1) := by decide +kernel
theorem dX5_getsItem_97 : decode cX5_getsItem 97 = .ok (.imul, 1) := by decide +kernel
theorem dX5_getsItem_98 : decode cX5_getsItem 98 = .ok (.iload_n 3, 1) := by decide +kernel
theorem dX5_getsItem_99 : decode cX5_getsItem 99 = .ok (.iadd, 1) := by decide +kernel
theorem dX5_getsItem_100 : decode cX5_getsItem 100 = .ok (.iaload, 1) := by decide +kernel
theorem dX5_getsItem_101 : decode cX5_getsItem 101 = .ok (.iastore, 1) := by decide +kernel
theorem dX5_getsItem_102 : decode cX5_getsItem 102 = .ok (.aload_n 0, 1) := by decide +kernel
theorem dX5_getsItem_103 : decode cX5_getsItem 103 = .ok (.getfield 64, 3) := by decide +kernel
theorem dX5_getsItem_106 : decode cX5_getsItem 106 = .ok (.iload_n 1, 1) := by decide +kernel
theorem dX5_getsItem_107 : decode cX5_getsItem 107 = .ok (.iload 5, 2) := by decide +kernel
theorem dX5_getsItem_109 : decode cX5_getsItem 109 = .ok (.iastore, 1) := by decide +kernel
theorem dX5_getsItem_110 : decode cX5_getsItem 110 = .ok (.return_, 1) := by decide +kernel
theorem dX5_laysIn_0 : decode cX5_laysIn 0 = .ok (.aload_n 0, 1) := by decide +kernel
theorem dX5_laysIn_1 : decode cX5_laysIn 1 = .ok (.getfield 19, 3) := by decide +kernel
theorem dX5_laysIn_4 : decode cX5_laysIn 4 = .ok (.iconst 4, 1) := by decide +kernel
theorem dX5_laysIn_5 : decode cX5_laysIn 5 = .ok (.iload_n 1, 1) := by decide +kernel
theorem dX5_laysIn_6 : decode cX5_laysIn 6 = .ok (.imul, 1) := by decide +kernel
theorem dX5_laysIn_7 : decode cX5_laysIn 7 = .ok (.iload_n 2, 1) := by decide +kernel
theorem dX5_laysIn_8 : decode cX5_laysIn 8 = .ok (.iadd, 1) := by decide +kernel
theorem dX5_laysIn_9 : decode cX5_laysIn 9 = .ok (.iload_n 3, 1) := by decide +kernel
theorem dX5_laysIn_10 : decode cX5_laysIn 10 = .ok (.iastore, 1) := by decide +kernel
theorem dX5_laysIn_11 : decode cX5_laysIn 11 = .ok (.aload_n 0, 1) := by decide +kernel
theorem dX5_laysIn_12 : decode cX5_laysIn 12 = .ok (.getfield 22, 3) := by decide +kernel
theorem dX5_laysIn_15 : decode cX5_laysIn 15 = .ok (.iload_n 1, 1) := by decide +kernel
theorem dX5_laysIn_16 : decode cX5_laysIn 16 = .ok (.dup2, 1) := by decide +kernel
theorem dX5_laysIn_17 : decode cX5_laysIn 17 = .ok (.iaload, 1) := by decide +kernel
theorem dX5_laysIn_18 : decode cX5_laysIn 18 = .ok (.iconst 1, 1) := by decide +kernel
theorem dX5_laysIn_19 : decode cX5_laysIn 19 = .ok (.iload_n 2, 1) := by decide +kernel
theorem dX5_laysIn_20 : decode cX5_laysIn 20 = .ok (.ishl, 1) := by decide +kernel
theorem dX5_laysIn_21 : decode cX5_laysIn 21 = .ok (.ior, 1) := by decide +kernel
theorem dX5_laysIn_22 : decode cX5_laysIn 22 = .ok (.iastore, 1) := by decide +kernel
theorem dX5_laysIn_23 : decode cX5_laysIn 23 = .ok (.return_, 1) := by decide +kernel
theorem dX5_comesFetched_0 : decode cX5_comesFetched 0 = .ok (.iconst 0, 1) := by decide +kernel
theorem dX5_comesFetched_1 : decode cX5_comesFetched 1 = .ok (.istore_n 2, 1) := by decide +kernel
theorem dX5_comesFetched_2 : decode cX5_comesFetched 2 = .ok (.aload_n 0, 1) := by decide +kernel
theorem dX5_comesFetched_3 : decode cX5_comesFetched 3 = .ok (.getfield 37, 3) := by decide +kernel
theorem dX5_comesFetched_6 : decode cX5_comesFetched 6 = .ok (.iload_n 2, 1) := by decide +kernel
theorem dX5_comesFetched_7 : decode cX5_comesFetched 7 = .ok (.iaload, 1) := by decide +kernel
theorem dX5_comesFetched_8 : decode cX5_comesFetched 8 = .ok (.iload_n 1, 1) := by decide +kernel
theorem dX5_comesFetched_9 : decode cX5_comesFetched 9 = .ok (.if_icmp .eq 9, 3) := by decide +kernel
theorem dX5_comesFetched_12 : decode cX5_comesFetched 12 = .ok (.iinc 2 1, 3) := by decide +kernel
theorem dX5_comesFetched_15 : decode cX5_comesFetched 15 = .ok (.goto (-13), 3) := by decide +kernel
theorem dX5_comesFetched_18 : decode cX5_comesFetched 18 = .ok (.aload_n 0, 1) := by decide +kernel
theorem dX5_comesFetched_19 : decode cX5_comesFetched 19 = .ok (.getfield 55, 3) := by decide +kernel
theorem dX5_comesFetched_22 : decode cX5_comesFetched 22 = .ok (.iconst 0, 1) := by decide +kernel
theorem dX5_comesFetched_23 : decode cX5_comesFetched 23 = .ok (.dup2, 1) := by decide +kernel
theorem dX5_comesFetched_24 : decode cX5_comesFetched 24 = .ok (.iaload, 1) := by decide +kernel
theorem dX5_comesFetched_25 : decode cX5_comesFetched 25 = .ok (.iconst 1, 1) := by decide +kernel
theorem dX5_comesFetched_26 : decode cX5_comesFetched 26 = .ok (.isub, 1) := by decide +kernel
theorem dX5_comesFetched_27 : decode cX5_comesFetched 27 = .ok (.iastore, 1) := by decide +kernel
theorem dX5_comesFetched_28 : decode cX5_comesFetched 28 = .ok (.iload_n 2, 1) := by decide +kernel
theorem dX5_comesFetched_29 : decode cX5_comesFetched 29 = .ok (.istore_n 3, 1) := by decide +kernel
theorem dX5_comesFetched_30 : decode cX5_comesFetched 30 = .ok (.iload_n 3, 1) := by decide +kernel
theorem dX5_comesFetched_31 : decode cX5_comesFetched 31 = .ok (.aload_n 0, 1) := by decide +kernel
theorem dX5_comesFetched_32 : decode cX5_comesFetched 32 = .ok (.getfield 55, 3) := by decide +kernel
theorem dX5_comesFetched_35 : decode cX5_comesFetched 35 = .ok (.iconst 0, 1) := by decide +kernel
theorem dX5_comesFetched_36 : decode cX5_comesFetched 36 = .ok (.iaload, 1) := by decide +kernel
theorem dX5_comesFetched_37 : decode cX5_comesFetched 37 = .ok (.if_icmp .ge 23, 3) := by decide +kernel
theorem dX5_comesFetched_40 : decode cX5_comesFetched 40 = .ok (.aload_n 0, 1) := by decide +kernel
theorem dX5_comesFetched_41 : decode cX5_comesFetched 41 = .ok (.getfield 37, 3) := by decide +kernel
theorem dX5_comesFetched_44 : decode cX5_comesFetched 44 = .ok (.iload_n 3, 1) := by decide +kernel
theorem dX5_comesFetched_45 : decode cX5_comesFetched 45 = .ok (.aload_n 0, 1) := by decide +kernel
theorem dX5_comesFetched_46 : decode cX5_comesFetched 46 = .ok (.getfield 37, 3) := by decide +kernel
theorem dX5_comesFetched_49 : decode cX5_comesFetched 49 = .ok (.iload_n 3, 1) := by decide +kernel
theorem dX5_comesFetched_50 : decode cX5_comesFetched 50 = .ok (.iconst 1, 1) := by decide +kernel
theorem dX5_comesFetched_51 : decode cX5_comesFetched 51 = .ok (.iadd, 1) := by decide +kernel
theorem dX5_comesFetched_52 : decode cX5_comesFetched 52 = .ok (.iaload, 1) := by decide +kernel
theorem dX5_comesFetched_53 : decode cX5_comesFetched 53 = .ok (.iastore, 1) := by decide +kernel
theorem dX5_comesFetched_54 : decode cX5_comesFetched 54 = .ok (.iinc 3 1, 3) := by decide +kernel
theorem dX5_comesFetched_57 : decode cX5_comesFetched 57 = .ok (.goto (-27), 3) := by decide +kernel
theorem dX5_comesFetched_60 : decode cX5_comesFetched 60 = .ok (.iconst 0, 1) := by decide +kernel
theorem dX5_comesFetched_61 : decode cX5_comesFetched 61 = .ok (.istore_n 3, 1) := by decide +kernel
theorem dX5_comesFetched_62 : decode cX5_comesFetched 62 = .ok (.iload_n 3, 1) := by decide +kernel
theorem dX5_comesFetched_63 : decode cX5_comesFetched 63 = .ok (.iconst 4, 1) := by decide +kernel
theorem dX5_comesFetched_64 : decode cX5_comesFetched 64 = .ok (.if_icmp .ge 29, 3) := by decide +kernel
theorem dX5_comesFetched_67 : decode cX5_comesFetched 67 = .ok (.aload_n 0, 1) := by decide +kernel
theorem dX5_comesFetched_68 : decode cX5_comesFetched 68 = .ok (.getfield 19, 3) := by decide +kernel
theorem dX5_comesFetched_71 : decode cX5_comesFetched 71 = .ok (.iconst 4, 1) := by decide +kernel
theorem dX5_comesFetched_72 : decode cX5_comesFetched 72 = .ok (.iload_n 1, 1) := by decide +kernel
theorem dX5_comesFetched_73 : decode cX5_comesFetched 73 = .ok (.imul, 1) := by decide +kernel
theorem dX5_comesFetched_74 : decode cX5_comesFetched 74 = .ok (.iload_n 3, 1) := by decide +kernel
theorem dX5_comesFetched_75 : decode cX5_comesFetched 75 = .ok (.iadd, 1) := by decide +kernel
theorem dX5_comesFetched_76 : decode cX5_comesFetched 76 = .ok (.aload_n 0, 1) := by decide +kernel
theorem dX5_comesFetched_77 : decode cX5_comesFetched 77 = .ok (.getfield 16, 3) := by decide +kernel
theorem dX5_comesFetched_80 : decode cX5_comesFetched 80 = .ok (.iconst 4, 1) := by decide +kernel
theorem dX5_comesFetched_81 : decode cX5_comesFetched 81 = .ok (.iload_n 1, 1) := by decide +kernel
theorem dX5_comesFetched_82 : decode cX5_comesFetched 82 = .ok (.imul, 1) := by decide +kernel
theorem dX5_comesFetched_83 : decode cX5_comesFetched 83 = .ok (.iload_n 3, 1) := by decide +kernel
theorem dX5_comesFetched_84 : decode cX5_comesFetched 84 = .ok (.iadd, 1) := by decide +kernel
theorem dX5_comesFetched_85 : decode cX5_comesFetched 85 = .ok (.iaload, 1) := by decide +kernel
theorem dX5_comesFetched_86 : decode cX5_comesFetched 86 = .ok (.iastore, 1) := by decide +kernel
theorem dX5_comesFetched_87 : decode cX5_comesFetched 87 = .ok (.iinc 3 1, 3) := by decide +kernel
theorem dX5_comesFetched_90 : decode cX5_comesFetched 90 = .ok (.goto (-28), 3) := by decide +kernel
theorem dX5_comesFetched_93 : decode cX5_comesFetched 93 = .ok (.aload_n 0, 1) := by decide +kernel
theorem dX5_comesFetched_94 : decode cX5_comesFetched 94 = .ok (.getfield 22, 3) := by decide +kernel
theorem dX5_comesFetched_97 : decode cX5_comesFetched 97 = .ok (.iload_n 1, 1) := by decide +kernel
theorem dX5_comesFetched_98 : decode cX5_comesFetched 98 = .ok (.iconst 0, 1) := by decide +kernel
theorem dX5_comesFetched_99 : decode cX5_comesFetched 99 = .ok (.iastore, 1) := by decide +kernel
theorem dX5_comesFetched_100 : decode cX5_comesFetched 100 = .ok (.aload_n 0, 1) := by decide +kernel
theorem dX5_comesFetched_101 : decode cX5_comesFetched 101 = .ok (.iload_n 1, 1) := by decide +kernel
theorem dX5_comesFetched_102 : decode cX5_comesFetched 102 = .ok (.invokevirtual 151, 3) := by decide +kernel
theorem dX5_comesFetched_105 : decode cX5_comesFetched 105 = .ok (.iconst 0, 1) := by decide +kernel
theorem dX5_comesFetched_106 : decode cX5_comesFetched 106 = .ok (.istore_n 3, 1) := by decide +kernel
theorem dX5_comesFetched_107 : decode cX5_comesFetched 107 = .ok (.iload_n 3, 1) := by decide +kernel
theorem dX5_comesFetched_108 : decode cX5_comesFetched 108 = .ok (.aload_n 0, 1) := by decide +kernel
theorem dX5_comesFetched_109 : decode cX5_comesFetched 109 = .ok (.getfield 40, 3) := by decide +kernel
theorem dX5_comesFetched_112 : decode cX5_comesFetched 112 = .ok (.iload_n 1, 1) := by decide +kernel
theorem dX5_comesFetched_113 : decode cX5_comesFetched 113 = .ok (.iaload, 1) := by decide +kernel
theorem dX5_comesFetched_114 : decode cX5_comesFetched 114 = .ok (.if_icmp .ge 75, 3) := by decide +kernel
theorem dX5_comesFetched_117 : decode cX5_comesFetched 117 = .ok (.iconst 4, 1) := by decide +kernel
theorem dX5_comesFetched_118 : decode cX5_comesFetched 118 = .ok (.iload_n 1, 1) := by decide +kernel
theorem dX5_comesFetched_119 : decode cX5_comesFetched 119 = .ok (.imul, 1) := by decide +kernel
theorem dX5_comesFetched_120 : decode cX5_comesFetched 120 = .ok (.iload_n 3, 1) := by decide +kernel
theorem dX5_comesFetched_121 : decode cX5_comesFetched 121 = .ok (.iadd, 1) := by decide +kernel
theorem dX5_comesFetched_122 : decode cX5_comesFetched 122 = .ok (.istore 4, 2) := by decide +kernel
theorem dX5_comesFetched_124 : decode cX5_comesFetched 124 = .ok (.aload_n 0, 1) := by decide +kernel
theorem dX5_comesFetched_125 : decode cX5_comesFetched 125 = .ok (.getfield 52, 3) := by decide +kernel
theorem dX5_comesFetched_128 : decode cX5_comesFetched 128 = .ok (.iload 4, 2) := by decide +kernel
theorem dX5_comesFetched_130 : decode cX5_comesFetched 130 = .ok (.iaload, 1) := by decide +kernel
theorem dX5_comesFetched_131 : decode cX5_comesFetched 131 = .ok (.iconst (-1), 1) := by decide +kernel
theorem dX5_comesFetched_132 : decode cX5_comesFetched 132 = .ok (.if_icmp .ne 25, 3) := by decide +kernel
theorem dX5_comesFetched_135 : decode cX5_comesFetched 135 = .ok (.aload_n 0, 1) := by decide +kernel
theorem dX5_comesFetched_136 : decode cX5_comesFetched 136 = .ok (.iload_n 1, 1) := by decide +kernel
theorem dX5_comesFetched_137 : decode cX5_comesFetched 137 = .ok (.aload_n 0, 1) := by decide +kernel
theorem dX5_comesFetched_138 : decode cX5_comesFetched 138 = .ok (.getfield 43, 3) := by decide +kernel
theorem dX5_comesFetched_141 : decode cX5_comesFetched 141 = .ok (.iload 4, 2) := by decide +kernel
theorem dX5_comesFetched_143 : decode cX5_comesFetched 143 = .ok (.iaload, 1) := by decide +kernel
theorem dX5_comesFetched_144 : decode cX5_comesFetched 144 = .ok (.aload_n 0, 1) := by decide +kernel
theorem dX5_comesFetched_145 : decode cX5_comesFetched 145 = .ok (.getfield 46, 3) := by decide +kernel
theorem dX5_comesFetched_148 : decode cX5_comesFetched 148 = .ok (.iload 4, 2) := by decide +kernel
theorem dX5_comesFetched_150 : decode cX5_comesFetched 150 = .ok (.iaload, 1) := by decide +kernel
theorem dX5_comesFetched_151 : decode cX5_comesFetched 151 = .ok (.invokevirtual 154, 3) := by decide +kernel
theorem dX5_comesFetched_154 : decode cX5_comesFetched 154 = .ok (.goto 29, 3) := by decide +kernel
theorem dX5_comesFetched_157 : decode cX5_comesFetched 157 = .ok (.aload_n 0, 1) := by decide +kernel
theorem dX5_comesFetched_158 : decode cX5_comesFetched 158 = .ok (.aload_n 0, 1) := by decide +kernel
theorem dX5_comesFetched_159 : decode cX5_comesFetched 159 = .ok (.getfield 52, 3) := by decide +kernel
theorem dX5_comesFetched_162 : decode cX5_comesFetched 162 = .ok (.iload 4, 2) := by decide +kernel
theorem dX5_comesFetched_164 : decode cX5_comesFetched 164 = .ok (.iaload, 1) := by decide +kernel
theorem dX5_comesFetched_165 : decode cX5_comesFetched 165 = .ok (.iload_n 1, 1) := by decide +kernel
theorem dX5_comesFetched_166 : decode cX5_comesFetched 166 = .ok (.aload_n 0, 1) := by decide +kernel
theorem dX5_comesFetched_167 : decode cX5_comesFetched 167 = .ok (.getfield 43, 3) := by decide +kernel
theorem dX5_comesFetched_170 : decode cX5_comesFetched 170 = .ok (.iload 4, 2) := by decide +kernel
theorem dX5_comesFetched_172 : decode cX5_comesFetched 172 = .ok (.iaload, 1) := by decide +kernel
theorem dX5_comesFetched_173 : decode cX5_comesFetched 173 = .ok (.aload_n 0, 1) := by decide +kernel
theorem dX5_comesFetched_174 : decode cX5_comesFetched 174 = .ok (.getfield 49, 3) := by decide +kernel
theorem dX5_comesFetched_177 : decode cX5_comesFetched 177 = .ok (.iload 4, 2) := by decide +kernel
theorem dX5_comesFetched_179 : decode cX5_comesFetched 179 = .ok (.iaload, 1) := by decide +kernel
theorem dX5_comesFetched_180 : decode cX5_comesFetched 180 = .ok (.invokevirtual 158, 3) := by decide +kernel
theorem dX5_comesFetched_183 : decode cX5_comesFetched 183 = .ok (.iinc 3 1, 3) := by decide +kernel
theorem dX5_comesFetched_186 : decode cX5_comesFetched 186 = .ok (.goto (-79), 3) := by decide +kernel
theorem dX5_comesFetched_189 : decode cX5_comesFetched 189 = .ok (.aload_n 0, 1) := by decide +kernel
theorem dX5_comesFetched_190 : decode cX5_comesFetched 190 = .ok (.getfield 40, 3) := by decide +kernel
theorem dX5_comesFetched_193 : decode cX5_comesFetched 193 = .ok (.iload_n 1, 1) := by decide +kernel
theorem dX5_comesFetched_194 : decode cX5_comesFetched 194 = .ok (.iconst 0, 1) := by decide +kernel
theorem dX5_comesFetched_195 : decode cX5_comesFetched 195 = .ok (.iastore, 1) := by decide +kernel
theorem dX5_comesFetched_196 : decode cX5_comesFetched 196 = .ok (.return_, 1) := by decide +kernel
theorem dX5_comesTime_0 : decode cX5_comesTime 0 = .ok (.aload_n 0, 1) := by decide +kernel
theorem dX5_comesTime_1 : decode cX5_comesTime 1 = .ok (.getfield 58, 3) := by decide +kernel
theorem dX5_comesTime_4 : decode cX5_comesTime 4 = .ok (.bipush 9, 2) := by decide +kernel
theorem dX5_comesTime_6 : decode cX5_comesTime 6 = .ok (.iaload, 1) := by decide +kernel
theorem dX5_comesTime_7 : decode cX5_comesTime 7 = .ok (.istore_n 1, 1) := by decide +kernel
theorem dX5_comesTime_8 : decode cX5_comesTime 8 = .ok (.iconst 0, 1) := by decide +kernel
theorem dX5_comesTime_9 : decode cX5_comesTime 9 = .ok (.istore_n 2, 1) := by decide +kernel
theorem dX5_comesTime_10 : decode cX5_comesTime 10 = .ok (.iload_n 2, 1) := by decide +kernel
theorem dX5_comesTime_11 : decode cX5_comesTime 11 = .ok (.bipush 16, 2) := by decide +kernel
theorem dX5_comesTime_13 : decode cX5_comesTime 13 = .ok (.if_icmp .ge 44, 3) := by decide +kernel
theorem dX5_comesTime_16 : decode cX5_comesTime 16 = .ok (.aload_n 0, 1) := by decide +kernel
theorem dX5_comesTime_17 : decode cX5_comesTime 17 = .ok (.getfield 25, 3) := by decide +kernel
theorem dX5_comesTime_20 : decode cX5_comesTime 20 = .ok (.iload_n 2, 1) := by decide +kernel
theorem dX5_comesTime_21 : decode cX5_comesTime 21 = .ok (.iaload, 1) := by decide +kernel
theorem dX5_comesTime_22 : decode cX5_comesTime 22 = .ok (.iconst 2, 1) := by decide +kernel
theorem dX5_comesTime_23 : decode cX5_comesTime 23 = .ok (.if_icmp .ne 28, 3) := by decide +kernel
theorem dX5_comesTime_26 : decode cX5_comesTime 26 = .ok (.aload_n 0, 1) := by decide +kernel
theorem dX5_comesTime_27 : decode cX5_comesTime 27 = .ok (.getfield 28, 3) := by decide +kernel
theorem dX5_comesTime_30 : decode cX5_comesTime 30 = .ok (.iload_n 2, 1) := by decide +kernel
theorem dX5_comesTime_31 : decode cX5_comesTime 31 = .ok (.iaload, 1) := by decide +kernel
theorem dX5_comesTime_32 : decode cX5_comesTime 32 = .ok (.iload_n 1, 1) := by decide +kernel
theorem dX5_comesTime_33 : decode cX5_comesTime 33 = .ok (.if_icmp .ne 18, 3) := by decide +kernel
theorem dX5_comesTime_36 : decode cX5_comesTime 36 = .ok (.aload_n 0, 1) := by decide +kernel
theorem dX5_comesTime_37 : decode cX5_comesTime 37 = .ok (.getfield 55, 3) := by decide +kernel
theorem dX5_comesTime_40 : decode cX5_comesTime 40 = .ok (.iconst 1, 1) := by decide +kernel
theorem dX5_comesTime_41 : decode cX5_comesTime 41 = .ok (.dup2, 1) := by decide +kernel
theorem dX5_comesTime_42 : decode cX5_comesTime 42 = .ok (.iaload, 1) := by decide +kernel
theorem dX5_comesTime_43 : decode cX5_comesTime 43 = .ok (.iconst 1, 1) := by decide +kernel
theorem dX5_comesTime_44 : decode cX5_comesTime 44 = .ok (.isub, 1) := by decide +kernel
theorem dX5_comesTime_45 : decode cX5_comesTime 45 = .ok (.iastore, 1) := by decide +kernel
theorem dX5_comesTime_46 : decode cX5_comesTime 46 = .ok (.aload_n 0, 1) := by decide +kernel
theorem dX5_comesTime_47 : decode cX5_comesTime 47 = .ok (.iload_n 2, 1) := by decide +kernel
theorem dX5_comesTime_48 : decode cX5_comesTime 48 = .ok (.invokevirtual 145, 3) := by decide +kernel
theorem dX5_comesTime_51 : decode cX5_comesTime 51 = .ok (.iinc 2 1, 3) := by decide +kernel
theorem dX5_comesTime_54 : decode cX5_comesTime 54 = .ok (.goto (-44), 3) := by decide +kernel
theorem dX5_comesTime_57 : decode cX5_comesTime 57 = .ok (.iconst 0, 1) := by decide +kernel
theorem dX5_comesTime_58 : decode cX5_comesTime 58 = .ok (.istore_n 2, 1) := by decide +kernel
theorem dX5_comesTime_59 : decode cX5_comesTime 59 = .ok (.iload_n 2, 1) := by decide +kernel
theorem dX5_comesTime_60 : decode cX5_comesTime 60 = .ok (.bipush 16, 2) := by decide +kernel
theorem dX5_comesTime_62 : decode cX5_comesTime 62 = .ok (.if_icmp .ge 34, 3) := by decide +kernel
theorem dX5_comesTime_65 : decode cX5_comesTime 65 = .ok (.aload_n 0, 1) := by decide +kernel
theorem dX5_comesTime_66 : decode cX5_comesTime 66 = .ok (.getfield 25, 3) := by decide +kernel
theorem dX5_comesTime_69 : decode cX5_comesTime 69 = .ok (.iload_n 2, 1) := by decide +kernel
theorem dX5_comesTime_70 : decode cX5_comesTime 70 = .ok (.iaload, 1) := by decide +kernel
theorem dX5_comesTime_71 : decode cX5_comesTime 71 = .ok (.iconst 3, 1) := by decide +kernel
theorem dX5_comesTime_72 : decode cX5_comesTime 72 = .ok (.if_icmp .ne 18, 3) := by decide +kernel
theorem dX5_comesTime_75 : decode cX5_comesTime 75 = .ok (.aload_n 0, 1) := by decide +kernel
theorem dX5_comesTime_76 : decode cX5_comesTime 76 = .ok (.getfield 28, 3) := by decide +kernel
theorem dX5_comesTime_79 : decode cX5_comesTime 79 = .ok (.iload_n 2, 1) := by decide +kernel
theorem dX5_comesTime_80 : decode cX5_comesTime 80 = .ok (.iaload, 1) := by decide +kernel
theorem dX5_comesTime_81 : decode cX5_comesTime 81 = .ok (.iload_n 1, 1) := by decide +kernel
theorem dX5_comesTime_82 : decode cX5_comesTime 82 = .ok (.if_icmp .ne 8, 3) := by decide +kernel
theorem dX5_comesTime_85 : decode cX5_comesTime 85 = .ok (.aload_n 0, 1) := by decide +kernel
end
section
theorem dX5_comesTime_86 : decode cX5_comesTime 86 = .ok (.iload_n 2, 1) := by decide +kernel
theorem dX5_comesTime_87 : decode cX5_comesTime 87 = .ok (.invokevirtual 162, 3) := by decide +kernel
theorem dX5_comesTime_90 : decode cX5_comesTime 90 = .ok (.iinc 2 1, 3) := by decide +kernel
theorem dX5_comesTime_93 : decode cX5_comesTime 93 = .ok (.goto (-34), 3) := by decide +kernel
theorem dX5_comesTime_96 : decode cX5_comesTime 96 = .ok (.return_, 1) := by decide +kernel
theorem dX5_numberOf_0 : decode cX5_numberOf 0 = .ok (.iload_n 1, 1) := by decide +kernel
theorem dX5_numberOf_1 : decode cX5_numberOf 1 = .ok (.iconst 1, 1) := by decide +kernel
theorem dX5_numberOf_2 : decode cX5_numberOf 2 = .ok (.if_icmp .ne 5, 3) := by decide +kernel
theorem dX5_numberOf_5 : decode cX5_numberOf 5 = .ok (.iconst (-1), 1) := by decide +kernel
theorem dX5_numberOf_6 : decode cX5_numberOf 6 = .ok (.ireturn, 1) := by decide +kernel
theorem dX5_numberOf_7 : decode cX5_numberOf 7 = .ok (.aload_n 0, 1) := by decide +kernel
theorem dX5_numberOf_8 : decode cX5_numberOf 8 = .ok (.getfield 58, 3) := by decide +kernel
theorem dX5_numberOf_11 : decode cX5_numberOf 11 = .ok (.bipush 7, 2) := by decide +kernel
theorem dX5_numberOf_13 : decode cX5_numberOf 13 = .ok (.iaload, 1) := by decide +kernel
theorem dX5_numberOf_14 : decode cX5_numberOf 14 = .ok (.istore_n 2, 1) := by decide +kernel
theorem dX5_numberOf_15 : decode cX5_numberOf 15 = .ok (.aload_n 0, 1) := by decide +kernel
theorem dX5_numberOf_16 : decode cX5_numberOf 16 = .ok (.getfield 58, 3) := by decide +kernel
theorem dX5_numberOf_19 : decode cX5_numberOf 19 = .ok (.bipush 7, 2) := by decide +kernel
theorem dX5_numberOf_21 : decode cX5_numberOf 21 = .ok (.dup2, 1) := by decide +kernel
theorem dX5_numberOf_22 : decode cX5_numberOf 22 = .ok (.iaload, 1) := by decide +kernel
theorem dX5_numberOf_23 : decode cX5_numberOf 23 = .ok (.iconst 1, 1) := by decide +kernel
theorem dX5_numberOf_24 : decode cX5_numberOf 24 = .ok (.iadd, 1) := by decide +kernel
theorem dX5_numberOf_25 : decode cX5_numberOf 25 = .ok (.iastore, 1) := by decide +kernel
theorem dX5_numberOf_26 : decode cX5_numberOf 26 = .ok (.iload_n 2, 1) := by decide +kernel
theorem dX5_numberOf_27 : decode cX5_numberOf 27 = .ok (.sipush 200, 3) := by decide +kernel
theorem dX5_numberOf_30 : decode cX5_numberOf 30 = .ok (.if_icmp .ge 30, 3) := by decide +kernel
theorem dX5_numberOf_33 : decode cX5_numberOf 33 = .ok (.aload_n 0, 1) := by decide +kernel
theorem dX5_numberOf_34 : decode cX5_numberOf 34 = .ok (.getfield 61, 3) := by decide +kernel
theorem dX5_numberOf_37 : decode cX5_numberOf 37 = .ok (.iload_n 2, 1) := by decide +kernel
theorem dX5_numberOf_38 : decode cX5_numberOf 38 = .ok (.iconst (-1), 1) := by decide +kernel
theorem dX5_numberOf_39 : decode cX5_numberOf 39 = .ok (.iastore, 1) := by decide +kernel
theorem dX5_numberOf_40 : decode cX5_numberOf 40 = .ok (.aload_n 0, 1) := by decide +kernel
theorem dX5_numberOf_41 : decode cX5_numberOf 41 = .ok (.getfield 64, 3) := by decide +kernel
theorem dX5_numberOf_44 : decode cX5_numberOf 44 = .ok (.iload_n 2, 1) := by decide +kernel
theorem dX5_numberOf_45 : decode cX5_numberOf 45 = .ok (.iconst (-1), 1) := by decide +kernel
theorem dX5_numberOf_46 : decode cX5_numberOf 46 = .ok (.iastore, 1) := by decide +kernel
theorem dX5_numberOf_47 : decode cX5_numberOf 47 = .ok (.aload_n 0, 1) := by decide +kernel
theorem dX5_numberOf_48 : decode cX5_numberOf 48 = .ok (.getfield 67, 3) := by decide +kernel
theorem dX5_numberOf_51 : decode cX5_numberOf 51 = .ok (.iload_n 2, 1) := by decide +kernel
theorem dX5_numberOf_52 : decode cX5_numberOf 52 = .ok (.aload_n 0, 1) := by decide +kernel
theorem dX5_numberOf_53 : decode cX5_numberOf 53 = .ok (.getfield 58, 3) := by decide +kernel
theorem dX5_numberOf_56 : decode cX5_numberOf 56 = .ok (.bipush 9, 2) := by decide +kernel
theorem dX5_numberOf_58 : decode cX5_numberOf 58 = .ok (.iaload, 1) := by decide +kernel
theorem dX5_numberOf_59 : decode cX5_numberOf 59 = .ok (.iastore, 1) := by decide +kernel
theorem dX5_numberOf_60 : decode cX5_numberOf 60 = .ok (.iload_n 2, 1) := by decide +kernel
theorem dX5_numberOf_61 : decode cX5_numberOf 61 = .ok (.ireturn, 1) := by decide +kernel
theorem dX5_asks_0 : decode cX5_asks 0 = .ok (.iconst 4, 1) := by decide +kernel
theorem dX5_asks_1 : decode cX5_asks 1 = .ok (.iload_n 1, 1) := by decide +kernel
theorem dX5_asks_2 : decode cX5_asks 2 = .ok (.imul, 1) := by decide +kernel
theorem dX5_asks_3 : decode cX5_asks 3 = .ok (.aload_n 0, 1) := by decide +kernel
theorem dX5_asks_4 : decode cX5_asks 4 = .ok (.getfield 40, 3) := by decide +kernel
theorem dX5_asks_7 : decode cX5_asks 7 = .ok (.iload_n 1, 1) := by decide +kernel
theorem dX5_asks_8 : decode cX5_asks 8 = .ok (.iaload, 1) := by decide +kernel
theorem dX5_asks_9 : decode cX5_asks 9 = .ok (.iadd, 1) := by decide +kernel
theorem dX5_asks_10 : decode cX5_asks 10 = .ok (.istore 5, 2) := by decide +kernel
theorem dX5_asks_12 : decode cX5_asks 12 = .ok (.aload_n 0, 1) := by decide +kernel
theorem dX5_asks_13 : decode cX5_asks 13 = .ok (.getfield 43, 3) := by decide +kernel
theorem dX5_asks_16 : decode cX5_asks 16 = .ok (.iload 5, 2) := by decide +kernel
theorem dX5_asks_18 : decode cX5_asks 18 = .ok (.iload_n 3, 1) := by decide +kernel
theorem dX5_asks_19 : decode cX5_asks 19 = .ok (.iastore, 1) := by decide +kernel
theorem dX5_asks_20 : decode cX5_asks 20 = .ok (.aload_n 0, 1) := by decide +kernel
theorem dX5_asks_21 : decode cX5_asks 21 = .ok (.getfield 46, 3) := by decide +kernel
theorem dX5_asks_24 : decode cX5_asks 24 = .ok (.iload 5, 2) := by decide +kernel
theorem dX5_asks_26 : decode cX5_asks 26 = .ok (.iload 4, 2) := by decide +kernel
theorem dX5_asks_28 : decode cX5_asks 28 = .ok (.iastore, 1) := by decide +kernel
theorem dX5_asks_29 : decode cX5_asks 29 = .ok (.aload_n 0, 1) := by decide +kernel
theorem dX5_asks_30 : decode cX5_asks 30 = .ok (.getfield 49, 3) := by decide +kernel
theorem dX5_asks_33 : decode cX5_asks 33 = .ok (.iload 5, 2) := by decide +kernel
theorem dX5_asks_35 : decode cX5_asks 35 = .ok (.aload_n 0, 1) := by decide +kernel
theorem dX5_asks_36 : decode cX5_asks 36 = .ok (.getfield 58, 3) := by decide +kernel
theorem dX5_asks_39 : decode cX5_asks 39 = .ok (.bipush 9, 2) := by decide +kernel
theorem dX5_asks_41 : decode cX5_asks 41 = .ok (.iaload, 1) := by decide +kernel
theorem dX5_asks_42 : decode cX5_asks 42 = .ok (.iastore, 1) := by decide +kernel
theorem dX5_asks_43 : decode cX5_asks 43 = .ok (.aload_n 0, 1) := by decide +kernel
theorem dX5_asks_44 : decode cX5_asks 44 = .ok (.getfield 52, 3) := by decide +kernel
theorem dX5_asks_47 : decode cX5_asks 47 = .ok (.iload 5, 2) := by decide +kernel
theorem dX5_asks_49 : decode cX5_asks 49 = .ok (.aload_n 0, 1) := by decide +kernel
theorem dX5_asks_50 : decode cX5_asks 50 = .ok (.iload_n 2, 1) := by decide +kernel
theorem dX5_asks_51 : decode cX5_asks 51 = .ok (.invokevirtual 165, 3) := by decide +kernel
theorem dX5_asks_54 : decode cX5_asks 54 = .ok (.iastore, 1) := by decide +kernel
theorem dX5_asks_55 : decode cX5_asks 55 = .ok (.aload_n 0, 1) := by decide +kernel
theorem dX5_asks_56 : decode cX5_asks 56 = .ok (.getfield 40, 3) := by decide +kernel
theorem dX5_asks_59 : decode cX5_asks 59 = .ok (.iload_n 1, 1) := by decide +kernel
theorem dX5_asks_60 : decode cX5_asks 60 = .ok (.dup2, 1) := by decide +kernel
theorem dX5_asks_61 : decode cX5_asks 61 = .ok (.iaload, 1) := by decide +kernel
theorem dX5_asks_62 : decode cX5_asks 62 = .ok (.iconst 1, 1) := by decide +kernel
theorem dX5_asks_63 : decode cX5_asks 63 = .ok (.iadd, 1) := by decide +kernel
theorem dX5_asks_64 : decode cX5_asks 64 = .ok (.iastore, 1) := by decide +kernel
theorem dX5_asks_65 : decode cX5_asks 65 = .ok (.return_, 1) := by decide +kernel
theorem dX5_does_0 : decode cX5_does 0 = .ok (.aload_n 0, 1) := by decide +kernel
theorem dX5_does_1 : decode cX5_does 1 = .ok (.iload_n 2, 1) := by decide +kernel
theorem dX5_does_2 : decode cX5_does 2 = .ok (.invokevirtual 165, 3) := by decide +kernel
theorem dX5_does_5 : decode cX5_does 5 = .ok (.istore 5, 2) := by decide +kernel
theorem dX5_does_7 : decode cX5_does 7 = .ok (.iload_n 2, 1) := by decide +kernel
theorem dX5_does_8 : decode cX5_does 8 = .ok (.iconst 1, 1) := by decide +kernel
theorem dX5_does_9 : decode cX5_does 9 = .ok (.if_icmp .ne 14, 3) := by decide +kernel
theorem dX5_does_12 : decode cX5_does 12 = .ok (.aload_n 0, 1) := by decide +kernel
theorem dX5_does_13 : decode cX5_does 13 = .ok (.iload_n 1, 1) := by decide +kernel
theorem dX5_does_14 : decode cX5_does 14 = .ok (.iload_n 3, 1) := by decide +kernel
theorem dX5_does_15 : decode cX5_does 15 = .ok (.iload 4, 2) := by decide +kernel
theorem dX5_does_17 : decode cX5_does 17 = .ok (.invokevirtual 154, 3) := by decide +kernel
theorem dX5_does_20 : decode cX5_does 20 = .ok (.goto 18, 3) := by decide +kernel
theorem dX5_does_23 : decode cX5_does 23 = .ok (.aload_n 0, 1) := by decide +kernel
theorem dX5_does_24 : decode cX5_does 24 = .ok (.iload 5, 2) := by decide +kernel
theorem dX5_does_26 : decode cX5_does 26 = .ok (.iload_n 1, 1) := by decide +kernel
theorem dX5_does_27 : decode cX5_does 27 = .ok (.iload_n 3, 1) := by decide +kernel
theorem dX5_does_28 : decode cX5_does 28 = .ok (.aload_n 0, 1) := by decide +kernel
theorem dX5_does_29 : decode cX5_does 29 = .ok (.getfield 58, 3) := by decide +kernel
theorem dX5_does_32 : decode cX5_does 32 = .ok (.bipush 9, 2) := by decide +kernel
theorem dX5_does_34 : decode cX5_does 34 = .ok (.iaload, 1) := by decide +kernel
theorem dX5_does_35 : decode cX5_does 35 = .ok (.invokevirtual 158, 3) := by decide +kernel
theorem dX5_does_38 : decode cX5_does 38 = .ok (.return_, 1) := by decide +kernel
theorem dX5_counted_0 : decode cX5_counted 0 = .ok (.aload_n 0, 1) := by decide +kernel
theorem dX5_counted_1 : decode cX5_counted 1 = .ok (.getfield 58, 3) := by decide +kernel
theorem dX5_counted_4 : decode cX5_counted 4 = .ok (.iload_n 1, 1) := by decide +kernel
theorem dX5_counted_5 : decode cX5_counted 5 = .ok (.dup2, 1) := by decide +kernel
theorem dX5_counted_6 : decode cX5_counted 6 = .ok (.iaload, 1) := by decide +kernel
theorem dX5_counted_7 : decode cX5_counted 7 = .ok (.iconst 1, 1) := by decide +kernel
theorem dX5_counted_8 : decode cX5_counted 8 = .ok (.iadd, 1) := by decide +kernel
theorem dX5_counted_9 : decode cX5_counted 9 = .ok (.iastore, 1) := by decide +kernel
theorem dX5_counted_10 : decode cX5_counted 10 = .ok (.aload_n 0, 1) := by decide +kernel
theorem dX5_counted_11 : decode cX5_counted 11 = .ok (.dup, 1) := by decide +kernel
theorem dX5_counted_12 : decode cX5_counted 12 = .ok (.getfield 90, 3) := by decide +kernel
theorem dX5_counted_15 : decode cX5_counted 15 = .ok (.fload_n 2, 1) := by decide +kernel
theorem dX5_counted_16 : decode cX5_counted 16 = .ok (.fadd, 1) := by decide +kernel
theorem dX5_counted_17 : decode cX5_counted 17 = .ok (.putfield 90, 3) := by decide +kernel
theorem dX5_counted_20 : decode cX5_counted 20 = .ok (.return_, 1) := by decide +kernel
theorem dX5_beginsNow_0 : decode cX5_beginsNow 0 = .ok (.iload_n 1, 1) := by decide +kernel
theorem dX5_beginsNow_1 : decode cX5_beginsNow 1 = .ok (.iconst 2, 1) := by decide +kernel
theorem dX5_beginsNow_2 : decode cX5_beginsNow 2 = .ok (.if_icmp .ne 27, 3) := by decide +kernel
theorem dX5_beginsNow_5 : decode cX5_beginsNow 5 = .ok (.aload_n 0, 1) := by decide +kernel
theorem dX5_beginsNow_6 : decode cX5_beginsNow 6 = .ok (.getfield 55, 3) := by decide +kernel
theorem dX5_beginsNow_9 : decode cX5_beginsNow 9 = .ok (.iconst 0, 1) := by decide +kernel
theorem dX5_beginsNow_10 : decode cX5_beginsNow 10 = .ok (.iaload, 1) := by decide +kernel
theorem dX5_beginsNow_11 : decode cX5_beginsNow 11 = .ok (.ifCond .ne 16, 3) := by decide +kernel
theorem dX5_beginsNow_14 : decode cX5_beginsNow 14 = .ok (.aload_n 0, 1) := by decide +kernel
theorem dX5_beginsNow_15 : decode cX5_beginsNow 15 = .ok (.getfield 55, 3) := by decide +kernel
theorem dX5_beginsNow_18 : decode cX5_beginsNow 18 = .ok (.iconst 1, 1) := by decide +kernel
theorem dX5_beginsNow_19 : decode cX5_beginsNow 19 = .ok (.iaload, 1) := by decide +kernel
theorem dX5_beginsNow_20 : decode cX5_beginsNow 20 = .ok (.ifCond .ne 7, 3) := by decide +kernel
theorem dX5_beginsNow_23 : decode cX5_beginsNow 23 = .ok (.iconst 1, 1) := by decide +kernel
theorem dX5_beginsNow_24 : decode cX5_beginsNow 24 = .ok (.goto 4, 3) := by decide +kernel
theorem dX5_beginsNow_27 : decode cX5_beginsNow 27 = .ok (.iconst 0, 1) := by decide +kernel
theorem dX5_beginsNow_28 : decode cX5_beginsNow 28 = .ok (.ireturn, 1) := by decide +kernel
theorem dX5_beginsNow_29 : decode cX5_beginsNow 29 = .ok (.aload_n 0, 1) := by decide +kernel
theorem dX5_beginsNow_30 : decode cX5_beginsNow 30 = .ok (.getfield 25, 3) := by decide +kernel
theorem dX5_beginsNow_33 : decode cX5_beginsNow 33 = .ok (.iload_n 2, 1) := by decide +kernel
theorem dX5_beginsNow_34 : decode cX5_beginsNow 34 = .ok (.iaload, 1) := by decide +kernel
theorem dX5_beginsNow_35 : decode cX5_beginsNow 35 = .ok (.tableswitch 116 1 3 #[25, 48, 81], 25) := by decide +kernel
theorem dX5_beginsNow_60 : decode cX5_beginsNow 60 = .ok (.aload_n 0, 1) := by decide +kernel
theorem dX5_beginsNow_61 : decode cX5_beginsNow 61 = .ok (.iload_n 2, 1) := by decide +kernel
theorem dX5_beginsNow_62 : decode cX5_beginsNow 62 = .ok (.invokevirtual 168, 3) := by decide +kernel
theorem dX5_beginsNow_65 : decode cX5_beginsNow 65 = .ok (.aload_n 0, 1) := by decide +kernel
theorem dX5_beginsNow_66 : decode cX5_beginsNow 66 = .ok (.iload_n 2, 1) := by decide +kernel
theorem dX5_beginsNow_67 : decode cX5_beginsNow 67 = .ok (.iload_n 1, 1) := by decide +kernel
theorem dX5_beginsNow_68 : decode cX5_beginsNow 68 = .ok (.iload_n 3, 1) := by decide +kernel
theorem dX5_beginsNow_69 : decode cX5_beginsNow 69 = .ok (.iload 4, 2) := by decide +kernel
theorem dX5_beginsNow_71 : decode cX5_beginsNow 71 = .ok (.invokevirtual 171, 3) := by decide +kernel
theorem dX5_beginsNow_74 : decode cX5_beginsNow 74 = .ok (.aload_n 0, 1) := by decide +kernel
theorem dX5_beginsNow_75 : decode cX5_beginsNow 75 = .ok (.iconst 0, 1) := by decide +kernel
theorem dX5_beginsNow_76 : decode cX5_beginsNow 76 = .ok (.ldc 174, 2) := by decide +kernel
theorem dX5_beginsNow_78 : decode cX5_beginsNow 78 = .ok (.invokevirtual 175, 3) := by decide +kernel
theorem dX5_beginsNow_81 : decode cX5_beginsNow 81 = .ok (.iconst 1, 1) := by decide +kernel
theorem dX5_beginsNow_82 : decode cX5_beginsNow 82 = .ok (.ireturn, 1) := by decide +kernel
theorem dX5_beginsNow_83 : decode cX5_beginsNow 83 = .ok (.aload_n 0, 1) := by decide +kernel
theorem dX5_beginsNow_84 : decode cX5_beginsNow 84 = .ok (.getfield 55, 3) := by decide +kernel
theorem dX5_beginsNow_87 : decode cX5_beginsNow 87 = .ok (.iconst 1, 1) := by decide +kernel
theorem dX5_beginsNow_88 : decode cX5_beginsNow 88 = .ok (.dup2, 1) := by decide +kernel
theorem dX5_beginsNow_89 : decode cX5_beginsNow 89 = .ok (.iaload, 1) := by decide +kernel
theorem dX5_beginsNow_90 : decode cX5_beginsNow 90 = .ok (.iconst 1, 1) := by decide +kernel
theorem dX5_beginsNow_91 : decode cX5_beginsNow 91 = .ok (.isub, 1) := by decide +kernel
theorem dX5_beginsNow_92 : decode cX5_beginsNow 92 = .ok (.iastore, 1) := by decide +kernel
theorem dX5_beginsNow_93 : decode cX5_beginsNow 93 = .ok (.aload_n 0, 1) := by decide +kernel
theorem dX5_beginsNow_94 : decode cX5_beginsNow 94 = .ok (.iload_n 2, 1) := by decide +kernel
theorem dX5_beginsNow_95 : decode cX5_beginsNow 95 = .ok (.invokevirtual 151, 3) := by decide +kernel
theorem dX5_beginsNow_98 : decode cX5_beginsNow 98 = .ok (.aload_n 0, 1) := by decide +kernel
theorem dX5_beginsNow_99 : decode cX5_beginsNow 99 = .ok (.iload_n 2, 1) := by decide +kernel
theorem dX5_beginsNow_100 : decode cX5_beginsNow 100 = .ok (.iload_n 1, 1) := by decide +kernel
theorem dX5_beginsNow_101 : decode cX5_beginsNow 101 = .ok (.iload_n 3, 1) := by decide +kernel
theorem dX5_beginsNow_102 : decode cX5_beginsNow 102 = .ok (.iload 4, 2) := by decide +kernel
theorem dX5_beginsNow_104 : decode cX5_beginsNow 104 = .ok (.invokevirtual 171, 3) := by decide +kernel
theorem dX5_beginsNow_107 : decode cX5_beginsNow 107 = .ok (.aload_n 0, 1) := by decide +kernel
theorem dX5_beginsNow_108 : decode cX5_beginsNow 108 = .ok (.iconst 3, 1) := by decide +kernel
theorem dX5_beginsNow_109 : decode cX5_beginsNow 109 = .ok (.ldc 179, 2) := by decide +kernel
theorem dX5_beginsNow_111 : decode cX5_beginsNow 111 = .ok (.invokevirtual 175, 3) := by decide +kernel
theorem dX5_beginsNow_114 : decode cX5_beginsNow 114 = .ok (.iconst 1, 1) := by decide +kernel
theorem dX5_beginsNow_115 : decode cX5_beginsNow 115 = .ok (.ireturn, 1) := by decide +kernel
theorem dX5_beginsNow_116 : decode cX5_beginsNow 116 = .ok (.aload_n 0, 1) := by decide +kernel
theorem dX5_beginsNow_117 : decode cX5_beginsNow 117 = .ok (.getfield 40, 3) := by decide +kernel
theorem dX5_beginsNow_120 : decode cX5_beginsNow 120 = .ok (.iload_n 2, 1) := by decide +kernel
theorem dX5_beginsNow_121 : decode cX5_beginsNow 121 = .ok (.iaload, 1) := by decide +kernel
theorem dX5_beginsNow_122 : decode cX5_beginsNow 122 = .ok (.aload_n 0, 1) := by decide +kernel
theorem dX5_beginsNow_123 : decode cX5_beginsNow 123 = .ok (.getfield 13, 3) := by decide +kernel
theorem dX5_beginsNow_126 : decode cX5_beginsNow 126 = .ok (.iconst 3, 1) := by decide +kernel
theorem dX5_beginsNow_127 : decode cX5_beginsNow 127 = .ok (.iaload, 1) := by decide +kernel
theorem dX5_beginsNow_128 : decode cX5_beginsNow 128 = .ok (.if_icmp .ne 5, 3) := by decide +kernel
theorem dX5_beginsNow_131 : decode cX5_beginsNow 131 = .ok (.iconst 0, 1) := by decide +kernel
theorem dX5_beginsNow_132 : decode cX5_beginsNow 132 = .ok (.ireturn, 1) := by decide +kernel
theorem dX5_beginsNow_133 : decode cX5_beginsNow 133 = .ok (.aload_n 0, 1) := by decide +kernel
theorem dX5_beginsNow_134 : decode cX5_beginsNow 134 = .ok (.iload_n 2, 1) := by decide +kernel
theorem dX5_beginsNow_135 : decode cX5_beginsNow 135 = .ok (.iload_n 1, 1) := by decide +kernel
theorem dX5_beginsNow_136 : decode cX5_beginsNow 136 = .ok (.iload_n 3, 1) := by decide +kernel
theorem dX5_beginsNow_137 : decode cX5_beginsNow 137 = .ok (.iload 4, 2) := by decide +kernel
theorem dX5_beginsNow_139 : decode cX5_beginsNow 139 = .ok (.invokevirtual 180, 3) := by decide +kernel
theorem dX5_beginsNow_142 : decode cX5_beginsNow 142 = .ok (.aload_n 0, 1) := by decide +kernel
theorem dX5_beginsNow_143 : decode cX5_beginsNow 143 = .ok (.iconst 1, 1) := by decide +kernel
theorem dX5_beginsNow_144 : decode cX5_beginsNow 144 = .ok (.ldc 183, 2) := by decide +kernel
theorem dX5_beginsNow_146 : decode cX5_beginsNow 146 = .ok (.invokevirtual 175, 3) := by decide +kernel
theorem dX5_beginsNow_149 : decode cX5_beginsNow 149 = .ok (.iconst 1, 1) := by decide +kernel
theorem dX5_beginsNow_150 : decode cX5_beginsNow 150 = .ok (.ireturn, 1) := by decide +kernel
theorem dX5_beginsNow_151 : decode cX5_beginsNow 151 = .ok (.aload_n 0, 1) := by decide +kernel
theorem dX5_beginsNow_152 : decode cX5_beginsNow 152 = .ok (.getfield 55, 3) := by decide +kernel
theorem dX5_beginsNow_155 : decode cX5_beginsNow 155 = .ok (.iconst 0, 1) := by decide +kernel
theorem dX5_beginsNow_156 : decode cX5_beginsNow 156 = .ok (.iaload, 1) := by decide +kernel
theorem dX5_beginsNow_157 : decode cX5_beginsNow 157 = .ok (.aload_n 0, 1) := by decide +kernel
theorem dX5_beginsNow_158 : decode cX5_beginsNow 158 = .ok (.getfield 13, 3) := by decide +kernel
theorem dX5_beginsNow_161 : decode cX5_beginsNow 161 = .ok (.iconst 2, 1) := by decide +kernel
theorem dX5_beginsNow_162 : decode cX5_beginsNow 162 = .ok (.iaload, 1) := by decide +kernel
theorem dX5_beginsNow_163 : decode cX5_beginsNow 163 = .ok (.if_icmp .ne 5, 3) := by decide +kernel
theorem dX5_beginsNow_166 : decode cX5_beginsNow 166 = .ok (.iconst 0, 1) := by decide +kernel
theorem dX5_beginsNow_167 : decode cX5_beginsNow 167 = .ok (.ireturn, 1) := by decide +kernel
theorem dX5_beginsNow_168 : decode cX5_beginsNow 168 = .ok (.aload_n 0, 1) := by decide +kernel
theorem dX5_beginsNow_169 : decode cX5_beginsNow 169 = .ok (.getfield 25, 3) := by decide +kernel
theorem dX5_beginsNow_172 : decode cX5_beginsNow 172 = .ok (.iload_n 2, 1) := by decide +kernel
theorem dX5_beginsNow_173 : decode cX5_beginsNow 173 = .ok (.iconst 3, 1) := by decide +kernel
theorem dX5_beginsNow_174 : decode cX5_beginsNow 174 = .ok (.iastore, 1) := by decide +kernel
theorem dX5_beginsNow_175 : decode cX5_beginsNow 175 = .ok (.aload_n 0, 1) := by decide +kernel
theorem dX5_beginsNow_176 : decode cX5_beginsNow 176 = .ok (.getfield 28, 3) := by decide +kernel
theorem dX5_beginsNow_179 : decode cX5_beginsNow 179 = .ok (.iload_n 2, 1) := by decide +kernel
theorem dX5_beginsNow_180 : decode cX5_beginsNow 180 = .ok (.aload_n 0, 1) := by decide +kernel
theorem dX5_beginsNow_181 : decode cX5_beginsNow 181 = .ok (.getfield 58, 3) := by decide +kernel
theorem dX5_beginsNow_184 : decode cX5_beginsNow 184 = .ok (.bipush 9, 2) := by decide +kernel
theorem dX5_beginsNow_186 : decode cX5_beginsNow 186 = .ok (.iaload, 1) := by decide +kernel
theorem dX5_beginsNow_187 : decode cX5_beginsNow 187 = .ok (.aload_n 0, 1) := by decide +kernel
theorem dX5_beginsNow_188 : decode cX5_beginsNow 188 = .ok (.getfield 13, 3) := by decide +kernel
theorem dX5_beginsNow_191 : decode cX5_beginsNow 191 = .ok (.iconst 4, 1) := by decide +kernel
theorem dX5_beginsNow_192 : decode cX5_beginsNow 192 = .ok (.iaload, 1) := by decide +kernel
theorem dX5_beginsNow_193 : decode cX5_beginsNow 193 = .ok (.iadd, 1) := by decide +kernel
theorem dX5_beginsNow_194 : decode cX5_beginsNow 194 = .ok (.iastore, 1) := by decide +kernel
theorem dX5_beginsNow_195 : decode cX5_beginsNow 195 = .ok (.aload_n 0, 1) := by decide +kernel
theorem dX5_beginsNow_196 : decode cX5_beginsNow 196 = .ok (.getfield 37, 3) := by decide +kernel
theorem dX5_beginsNow_199 : decode cX5_beginsNow 199 = .ok (.aload_n 0, 1) := by decide +kernel
theorem dX5_beginsNow_200 : decode cX5_beginsNow 200 = .ok (.getfield 55, 3) := by decide +kernel
theorem dX5_beginsNow_203 : decode cX5_beginsNow 203 = .ok (.iconst 0, 1) := by decide +kernel
theorem dX5_beginsNow_204 : decode cX5_beginsNow 204 = .ok (.iaload, 1) := by decide +kernel
theorem dX5_beginsNow_205 : decode cX5_beginsNow 205 = .ok (.iload_n 2, 1) := by decide +kernel
theorem dX5_beginsNow_206 : decode cX5_beginsNow 206 = .ok (.iastore, 1) := by decide +kernel
theorem dX5_beginsNow_207 : decode cX5_beginsNow 207 = .ok (.aload_n 0, 1) := by decide +kernel
theorem dX5_beginsNow_208 : decode cX5_beginsNow 208 = .ok (.getfield 55, 3) := by decide +kernel
theorem dX5_beginsNow_211 : decode cX5_beginsNow 211 = .ok (.iconst 0, 1) := by decide +kernel
theorem dX5_beginsNow_212 : decode cX5_beginsNow 212 = .ok (.dup2, 1) := by decide +kernel
theorem dX5_beginsNow_213 : decode cX5_beginsNow 213 = .ok (.iaload, 1) := by decide +kernel
theorem dX5_beginsNow_214 : decode cX5_beginsNow 214 = .ok (.iconst 1, 1) := by decide +kernel
theorem dX5_beginsNow_215 : decode cX5_beginsNow 215 = .ok (.iadd, 1) := by decide +kernel
theorem dX5_beginsNow_216 : decode cX5_beginsNow 216 = .ok (.iastore, 1) := by decide +kernel
theorem dX5_beginsNow_217 : decode cX5_beginsNow 217 = .ok (.aload_n 0, 1) := by decide +kernel
theorem dX5_beginsNow_218 : decode cX5_beginsNow 218 = .ok (.iload_n 2, 1) := by decide +kernel
theorem dX5_beginsNow_219 : decode cX5_beginsNow 219 = .ok (.iload_n 1, 1) := by decide +kernel
theorem dX5_beginsNow_220 : decode cX5_beginsNow 220 = .ok (.iload_n 3, 1) := by decide +kernel
theorem dX5_beginsNow_221 : decode cX5_beginsNow 221 = .ok (.iload 4, 2) := by decide +kernel
theorem dX5_beginsNow_223 : decode cX5_beginsNow 223 = .ok (.invokevirtual 180, 3) := by decide +kernel
theorem dX5_beginsNow_226 : decode cX5_beginsNow 226 = .ok (.aload_n 0, 1) := by decide +kernel
theorem dX5_beginsNow_227 : decode cX5_beginsNow 227 = .ok (.iconst 2, 1) := by decide +kernel
theorem dX5_beginsNow_228 : decode cX5_beginsNow 228 = .ok (.ldc 184, 2) := by decide +kernel
theorem dX5_beginsNow_230 : decode cX5_beginsNow 230 = .ok (.invokevirtual 175, 3) := by decide +kernel
theorem dX5_beginsNow_233 : decode cX5_beginsNow 233 = .ok (.iconst 1, 1) := by decide +kernel
theorem dX5_beginsNow_234 : decode cX5_beginsNow 234 = .ok (.ireturn, 1) := by decide +kernel
theorem dX5_goesBy_0 : decode cX5_goesBy 0 = .ok (.aload_n 0, 1) := by decide +kernel
theorem dX5_goesBy_1 : decode cX5_goesBy 1 = .ok (.getfield 58, 3) := by decide +kernel
theorem dX5_goesBy_4 : decode cX5_goesBy 4 = .ok (.bipush 9, 2) := by decide +kernel
theorem dX5_goesBy_6 : decode cX5_goesBy 6 = .ok (.dup2, 1) := by decide +kernel
theorem dX5_goesBy_7 : decode cX5_goesBy 7 = .ok (.iaload, 1) := by decide +kernel
theorem dX5_goesBy_8 : decode cX5_goesBy 8 = .ok (.iconst 1, 1) := by decide +kernel
theorem dX5_goesBy_9 : decode cX5_goesBy 9 = .ok (.iadd, 1) := by decide +kernel
theorem dX5_goesBy_10 : decode cX5_goesBy 10 = .ok (.iastore, 1) := by decide +kernel
theorem dX5_goesBy_11 : decode cX5_goesBy 11 = .ok (.aload_n 0, 1) := by decide +kernel
theorem dX5_goesBy_12 : decode cX5_goesBy 12 = .ok (.invokevirtual 185, 3) := by decide +kernel
theorem dX5_goesBy_15 : decode cX5_goesBy 15 = .ok (.return_, 1) := by decide +kernel
theorem dX5_done_0 : decode cX5_done 0 = .ok (.aload_n 0, 1) := by decide +kernel
theorem dX5_done_1 : decode cX5_done 1 = .ok (.invokevirtual 188, 3) := by decide +kernel
theorem dX5_done_4 : decode cX5_done 4 = .ok (.aload_n 0, 1) := by decide +kernel
theorem dX5_done_5 : decode cX5_done 5 = .ok (.iload_n 1, 1) := by decide +kernel
theorem dX5_done_6 : decode cX5_done 6 = .ok (.iload_n 2, 1) := by decide +kernel
theorem dX5_done_7 : decode cX5_done 7 = .ok (.iload_n 3, 1) := by decide +kernel
theorem dX5_done_8 : decode cX5_done 8 = .ok (.iload 4, 2) := by decide +kernel
theorem dX5_done_10 : decode cX5_done 10 = .ok (.invokevirtual 191, 3) := by decide +kernel
theorem dX5_done_13 : decode cX5_done 13 = .ok (.ifCond .ne 17, 3) := by decide +kernel
theorem dX5_done_16 : decode cX5_done 16 = .ok (.aload_n 0, 1) := by decide +kernel
theorem dX5_done_17 : decode cX5_done 17 = .ok (.iconst 4, 1) := by decide +kernel
theorem dX5_done_18 : decode cX5_done 18 = .ok (.ldc 195, 2) := by decide +kernel
theorem dX5_done_20 : decode cX5_done 20 = .ok (.invokevirtual 175, 3) := by decide +kernel
theorem dX5_done_23 : decode cX5_done 23 = .ok (.aload_n 0, 1) := by decide +kernel
theorem dX5_done_24 : decode cX5_done 24 = .ok (.invokevirtual 188, 3) := by decide +kernel
theorem dX5_done_27 : decode cX5_done 27 = .ok (.goto (-23), 3) := by decide +kernel
theorem dX5_done_30 : decode cX5_done 30 = .ok (.aload_n 0, 1) := by decide +kernel
theorem dX5_done_31 : decode cX5_done 31 = .ok (.getfield 58, 3) := by decide +kernel
theorem dX5_done_34 : decode cX5_done 34 = .ok (.bipush 9, 2) := by decide +kernel
theorem dX5_done_36 : decode cX5_done 36 = .ok (.iaload, 1) := by decide +kernel
theorem dX5_done_37 : decode cX5_done 37 = .ok (.ireturn, 1) := by decide +kernel
theorem dX5_isItem_0 : decode cX5_isItem 0 = .ok (.iload_n 0, 1) := by decide +kernel
theorem dX5_isItem_1 : decode cX5_isItem 1 = .ok (.iconst 0, 1) := by decide +kernel
theorem dX5_isItem_2 : decode cX5_isItem 2 = .ok (.iconst 3, 1) := by decide +kernel
theorem dX5_isItem_3 : decode cX5_isItem 3 = .ok (.invokestatic 101, 3) := by decide +kernel
theorem dX5_isItem_6 : decode cX5_isItem 6 = .ok (.ireturn, 1) := by decide +kernel
theorem dX5_load_0 : decode cX5_load 0 = .ok (.iload_n 1, 1) := by decide +kernel
theorem dX5_load_1 : decode cX5_load 1 = .ok (.invokestatic 196, 3) := by decide +kernel
theorem dX5_load_4 : decode cX5_load 4 = .ok (.ifCond .eq 10, 3) := by decide +kernel
theorem dX5_load_7 : decode cX5_load 7 = .ok (.iload_n 2, 1) := by decide +kernel
theorem dX5_load_8 : decode cX5_load 8 = .ok (.invokestatic 200, 3) := by decide +kernel
theorem dX5_load_11 : decode cX5_load 11 = .ok (.ifCond .ne 8, 3) := by decide +kernel
theorem dX5_load_14 : decode cX5_load 14 = .ok (.aload_n 0, 1) := by decide +kernel
theorem dX5_load_15 : decode cX5_load 15 = .ok (.invokevirtual 130, 3) := by decide +kernel
theorem dX5_load_18 : decode cX5_load 18 = .ok (.ireturn, 1) := by decide +kernel
theorem dX5_load_19 : decode cX5_load 19 = .ok (.aload_n 0, 1) := by decide +kernel
theorem dX5_load_20 : decode cX5_load 20 = .ok (.invokevirtual 134, 3) := by decide +kernel
theorem dX5_load_23 : decode cX5_load 23 = .ok (.aload_n 0, 1) := by decide +kernel
theorem dX5_load_24 : decode cX5_load 24 = .ok (.iconst 0, 1) := by decide +kernel
theorem dX5_load_25 : decode cX5_load 25 = .ok (.iload_n 1, 1) := by decide +kernel
theorem dX5_load_26 : decode cX5_load 26 = .ok (.iload_n 2, 1) := by decide +kernel
theorem dX5_load_27 : decode cX5_load 27 = .ok (.iconst 0, 1) := by decide +kernel
theorem dX5_load_28 : decode cX5_load 28 = .ok (.invokevirtual 203, 3) := by decide +kernel
theorem dX5_load_31 : decode cX5_load 31 = .ok (.ireturn, 1) := by decide +kernel
theorem dX5_store_0 : decode cX5_store 0 = .ok (.iload_n 1, 1) := by decide +kernel
theorem dX5_store_1 : decode cX5_store 1 = .ok (.invokestatic 196, 3) := by decide +kernel
theorem dX5_store_4 : decode cX5_store 4 = .ok (.ifCond .eq 20, 3) := by decide +kernel
theorem dX5_store_7 : decode cX5_store 7 = .ok (.iload_n 2, 1) := by decide +kernel
theorem dX5_store_8 : decode cX5_store 8 = .ok (.invokestatic 200, 3) := by decide +kernel
theorem dX5_store_11 : decode cX5_store 11 = .ok (.ifCond .eq 13, 3) := by decide +kernel
theorem dX5_store_14 : decode cX5_store 14 = .ok (.iload_n 3, 1) := by decide +kernel
theorem dX5_store_15 : decode cX5_store 15 = .ok (.iconst 0, 1) := by decide +kernel
theorem dX5_store_16 : decode cX5_store 16 = .ok (.bipush 99, 2) := by decide +kernel
theorem dX5_store_18 : decode cX5_store 18 = .ok (.invokestatic 101, 3) := by decide +kernel
theorem dX5_store_21 : decode cX5_store 21 = .ok (.ifCond .ne 8, 3) := by decide +kernel
theorem dX5_store_24 : decode cX5_store 24 = .ok (.aload_n 0, 1) := by decide +kernel
theorem dX5_store_25 : decode cX5_store 25 = .ok (.invokevirtual 130, 3) := by decide +kernel
theorem dX5_store_28 : decode cX5_store 28 = .ok (.ireturn, 1) := by decide +kernel
theorem dX5_store_29 : decode cX5_store 29 = .ok (.aload_n 0, 1) := by decide +kernel
theorem dX5_store_30 : decode cX5_store 30 = .ok (.invokevirtual 134, 3) := by decide +kernel
theorem dX5_store_33 : decode cX5_store 33 = .ok (.aload_n 0, 1) := by decide +kernel
theorem dX5_store_34 : decode cX5_store 34 = .ok (.iconst 1, 1) := by decide +kernel
theorem dX5_store_35 : decode cX5_store 35 = .ok (.iload_n 1, 1) := by decide +kernel
theorem dX5_store_36 : decode cX5_store 36 = .ok (.iload_n 2, 1) := by decide +kernel
theorem dX5_store_37 : decode cX5_store 37 = .ok (.iload_n 3, 1) := by decide +kernel
theorem dX5_store_38 : decode cX5_store 38 = .ok (.invokevirtual 203, 3) := by decide +kernel
theorem dX5_store_41 : decode cX5_store 41 = .ok (.ireturn, 1) := by decide +kernel
theorem dX5_fence_0 : decode cX5_fence 0 = .ok (.aload_n 0, 1) := by decide +kernel
theorem dX5_fence_1 : decode cX5_fence 1 = .ok (.invokevirtual 134, 3) := by decide +kernel
theorem dX5_fence_4 : decode cX5_fence 4 = .ok (.aload_n 0, 1) := by decide +kernel
theorem dX5_fence_5 : decode cX5_fence 5 = .ok (.iconst 2, 1) := by decide +kernel
theorem dX5_fence_6 : decode cX5_fence 6 = .ok (.iconst 0, 1) := by decide +kernel
theorem dX5_fence_7 : decode cX5_fence 7 = .ok (.iconst 0, 1) := by decide +kernel
theorem dX5_fence_8 : decode cX5_fence 8 = .ok (.iconst 0, 1) := by decide +kernel
theorem dX5_fence_9 : decode cX5_fence 9 = .ok (.invokevirtual 203, 3) := by decide +kernel
theorem dX5_fence_12 : decode cX5_fence 12 = .ok (.ireturn, 1) := by decide +kernel
theorem dX5_ticks_0 : decode cX5_ticks 0 = .ok (.iload_n 1, 1) := by decide +kernel
theorem dX5_ticks_1 : decode cX5_ticks 1 = .ok (.iconst 0, 1) := by decide +kernel
theorem dX5_ticks_2 : decode cX5_ticks 2 = .ok (.bipush 99, 2) := by decide +kernel
theorem dX5_ticks_4 : decode cX5_ticks 4 = .ok (.invokestatic 101, 3) := by decide +kernel
theorem dX5_ticks_7 : decode cX5_ticks 7 = .ok (.ifCond .ne 8, 3) := by decide +kernel
theorem dX5_ticks_10 : decode cX5_ticks 10 = .ok (.aload_n 0, 1) := by decide +kernel
theorem dX5_ticks_11 : decode cX5_ticks 11 = .ok (.invokevirtual 130, 3) := by decide +kernel
theorem dX5_ticks_14 : decode cX5_ticks 14 = .ok (.ireturn, 1) := by decide +kernel
theorem dX5_ticks_15 : decode cX5_ticks 15 = .ok (.aload_n 0, 1) := by decide +kernel
theorem dX5_ticks_16 : decode cX5_ticks 16 = .ok (.invokevirtual 134, 3) := by decide +kernel
theorem dX5_ticks_19 : decode cX5_ticks 19 = .ok (.aload_n 0, 1) := by decide +kernel
theorem dX5_ticks_20 : decode cX5_ticks 20 = .ok (.getfield 58, 3) := by decide +kernel
theorem dX5_ticks_23 : decode cX5_ticks 23 = .ok (.bipush 8, 2) := by decide +kernel
theorem dX5_ticks_25 : decode cX5_ticks 25 = .ok (.iaload, 1) := by decide +kernel
theorem dX5_ticks_26 : decode cX5_ticks 26 = .ok (.istore_n 2, 1) := by decide +kernel
theorem dX5_ticks_27 : decode cX5_ticks 27 = .ok (.iconst 0, 1) := by decide +kernel
theorem dX5_ticks_28 : decode cX5_ticks 28 = .ok (.istore_n 3, 1) := by decide +kernel
theorem dX5_ticks_29 : decode cX5_ticks 29 = .ok (.iload_n 3, 1) := by decide +kernel
theorem dX5_ticks_30 : decode cX5_ticks 30 = .ok (.iload_n 1, 1) := by decide +kernel
theorem dX5_ticks_31 : decode cX5_ticks 31 = .ok (.if_icmp .ge 13, 3) := by decide +kernel
theorem dX5_ticks_34 : decode cX5_ticks 34 = .ok (.aload_n 0, 1) := by decide +kernel
theorem dX5_ticks_35 : decode cX5_ticks 35 = .ok (.invokevirtual 188, 3) := by decide +kernel
theorem dX5_ticks_38 : decode cX5_ticks 38 = .ok (.iinc 3 1, 3) := by decide +kernel
theorem dX5_ticks_41 : decode cX5_ticks 41 = .ok (.goto (-12), 3) := by decide +kernel
theorem dX5_ticks_44 : decode cX5_ticks 44 = .ok (.aload_n 0, 1) := by decide +kernel
theorem dX5_ticks_45 : decode cX5_ticks 45 = .ok (.getfield 58, 3) := by decide +kernel
theorem dX5_ticks_48 : decode cX5_ticks 48 = .ok (.bipush 8, 2) := by decide +kernel
theorem dX5_ticks_50 : decode cX5_ticks 50 = .ok (.iaload, 1) := by decide +kernel
theorem dX5_ticks_51 : decode cX5_ticks 51 = .ok (.iload_n 2, 1) := by decide +kernel
theorem dX5_ticks_52 : decode cX5_ticks 52 = .ok (.isub, 1) := by decide +kernel
theorem dX5_ticks_53 : decode cX5_ticks 53 = .ok (.ireturn, 1) := by decide +kernel
theorem dX5_draw_0 : decode cX5_draw 0 = .ok (.iload_n 1, 1) := by decide +kernel
theorem dX5_draw_1 : decode cX5_draw 1 = .ok (.iconst 0, 1) := by decide +kernel
theorem dX5_draw_2 : decode cX5_draw 2 = .ok (.ldc 207, 2) := by decide +kernel
theorem dX5_draw_4 : decode cX5_draw 4 = .ok (.invokestatic 101, 3) := by decide +kernel
theorem dX5_draw_7 : decode cX5_draw 7 = .ok (.ifCond .eq 13, 3) := by decide +kernel
theorem dX5_draw_10 : decode cX5_draw 10 = .ok (.iload_n 2, 1) := by decide +kernel
theorem dX5_draw_11 : decode cX5_draw 11 = .ok (.iconst 1, 1) := by decide +kernel
theorem dX5_draw_12 : decode cX5_draw 12 = .ok (.bipush 40, 2) := by decide +kernel
theorem dX5_draw_14 : decode cX5_draw 14 = .ok (.invokestatic 101, 3) := by decide +kernel
theorem dX5_draw_17 : decode cX5_draw 17 = .ok (.ifCond .ne 8, 3) := by decide +kernel
theorem dX5_draw_20 : decode cX5_draw 20 = .ok (.aload_n 0, 1) := by decide +kernel
theorem dX5_draw_21 : decode cX5_draw 21 = .ok (.invokevirtual 130, 3) := by decide +kernel
theorem dX5_draw_24 : decode cX5_draw 24 = .ok (.ireturn, 1) := by decide +kernel
theorem dX5_draw_25 : decode cX5_draw 25 = .ok (.aload_n 0, 1) := by decide +kernel
theorem dX5_draw_26 : decode cX5_draw 26 = .ok (.invokevirtual 134, 3) := by decide +kernel
theorem dX5_draw_29 : decode cX5_draw 29 = .ok (.aload_n 0, 1) := by decide +kernel
theorem dX5_draw_30 : decode cX5_draw 30 = .ok (.getfield 58, 3) := by decide +kernel
theorem dX5_draw_33 : decode cX5_draw 33 = .ok (.bipush 9, 2) := by decide +kernel
theorem dX5_draw_35 : decode cX5_draw 35 = .ok (.iaload, 1) := by decide +kernel
theorem dX5_draw_36 : decode cX5_draw 36 = .ok (.istore_n 3, 1) := by decide +kernel
theorem dX5_draw_37 : decode cX5_draw 37 = .ok (.iload_n 1, 1) := by decide +kernel
theorem dX5_draw_38 : decode cX5_draw 38 = .ok (.i2l, 1) := by decide +kernel
theorem dX5_draw_39 : decode cX5_draw 39 = .ok (.lstore 4, 2) := by decide +kernel
theorem dX5_draw_41 : decode cX5_draw 41 = .ok (.iconst 0, 1) := by decide +kernel
theorem dX5_draw_42 : decode cX5_draw 42 = .ok (.istore 6, 2) := by decide +kernel
theorem dX5_draw_44 : decode cX5_draw 44 = .ok (.iload 6, 2) := by decide +kernel
theorem dX5_draw_46 : decode cX5_draw 46 = .ok (.iload_n 2, 1) := by decide +kernel
theorem dX5_draw_47 : decode cX5_draw 47 = .ok (.if_icmp .ge 87, 3) := by decide +kernel
theorem dX5_draw_50 : decode cX5_draw 50 = .ok (.lload 4, 2) := by decide +kernel
theorem dX5_draw_52 : decode cX5_draw 52 = .ok (.ldc2_w 208, 3) := by decide +kernel
theorem dX5_draw_55 : decode cX5_draw 55 = .ok (.lmul, 1) := by decide +kernel
theorem dX5_draw_56 : decode cX5_draw 56 = .ok (.ldc2_w 210, 3) := by decide +kernel
theorem dX5_draw_59 : decode cX5_draw 59 = .ok (.ladd, 1) := by decide +kernel
theorem dX5_draw_60 : decode cX5_draw 60 = .ok (.ldc2_w 212, 3) := by decide +kernel
theorem dX5_draw_63 : decode cX5_draw 63 = .ok (.lrem, 1) := by decide +kernel
theorem dX5_draw_64 : decode cX5_draw 64 = .ok (.lstore 4, 2) := by decide +kernel
theorem dX5_draw_66 : decode cX5_draw 66 = .ok (.lload 4, 2) := by decide +kernel
theorem dX5_draw_68 : decode cX5_draw 68 = .ok (.ldc2_w 214, 3) := by decide +kernel
theorem dX5_draw_71 : decode cX5_draw 71 = .ok (.ldiv, 1) := by decide +kernel
theorem dX5_draw_72 : decode cX5_draw 72 = .ok (.ldc2_w 216, 3) := by decide +kernel
theorem dX5_draw_75 : decode cX5_draw 75 = .ok (.lrem, 1) := by decide +kernel
theorem dX5_draw_76 : decode cX5_draw 76 = .ok (.lconst 0, 1) := by decide +kernel
theorem dX5_draw_77 : decode cX5_draw 77 = .ok (.lcmp, 1) := by decide +kernel
theorem dX5_draw_78 : decode cX5_draw 78 = .ok (.ifCond .ne 7, 3) := by decide +kernel
theorem dX5_draw_81 : decode cX5_draw 81 = .ok (.iconst 1, 1) := by decide +kernel
theorem dX5_draw_82 : decode cX5_draw 82 = .ok (.goto 4, 3) := by decide +kernel
theorem dX5_draw_85 : decode cX5_draw 85 = .ok (.iconst 0, 1) := by decide +kernel
theorem dX5_draw_86 : decode cX5_draw 86 = .ok (.istore 7, 2) := by decide +kernel
theorem dX5_draw_88 : decode cX5_draw 88 = .ok (.aload_n 0, 1) := by decide +kernel
theorem dX5_draw_89 : decode cX5_draw 89 = .ok (.iload 7, 2) := by decide +kernel
theorem dX5_draw_91 : decode cX5_draw 91 = .ok (.lload 4, 2) := by decide +kernel
theorem dX5_draw_93 : decode cX5_draw 93 = .ok (.ldc2_w 218, 3) := by decide +kernel
theorem dX5_draw_96 : decode cX5_draw 96 = .ok (.ldiv, 1) := by decide +kernel
theorem dX5_draw_97 : decode cX5_draw 97 = .ok (.ldc2_w 220, 3) := by decide +kernel
theorem dX5_draw_100 : decode cX5_draw 100 = .ok (.lrem, 1) := by decide +kernel
theorem dX5_draw_101 : decode cX5_draw 101 = .ok (.l2i, 1) := by decide +kernel
theorem dX5_draw_102 : decode cX5_draw 102 = .ok (.lload 4, 2) := by decide +kernel
theorem dX5_draw_104 : decode cX5_draw 104 = .ok (.ldc2_w 222, 3) := by decide +kernel
theorem dX5_draw_107 : decode cX5_draw 107 = .ok (.ldiv, 1) := by decide +kernel
theorem dX5_draw_108 : decode cX5_draw 108 = .ok (.ldc2_w 224, 3) := by decide +kernel
theorem dX5_draw_111 : decode cX5_draw 111 = .ok (.lrem, 1) := by decide +kernel
theorem dX5_draw_112 : decode cX5_draw 112 = .ok (.l2i, 1) := by decide +kernel
theorem dX5_draw_113 : decode cX5_draw 113 = .ok (.lload 4, 2) := by decide +kernel
theorem dX5_draw_115 : decode cX5_draw 115 = .ok (.ldc2_w 226, 3) := by decide +kernel
theorem dX5_draw_118 : decode cX5_draw 118 = .ok (.ldiv, 1) := by decide +kernel
theorem dX5_draw_119 : decode cX5_draw 119 = .ok (.ldc2_w 228, 3) := by decide +kernel
theorem dX5_draw_122 : decode cX5_draw 122 = .ok (.lrem, 1) := by decide +kernel
theorem dX5_draw_123 : decode cX5_draw 123 = .ok (.l2i, 1) := by decide +kernel
theorem dX5_draw_124 : decode cX5_draw 124 = .ok (.invokevirtual 203, 3) := by decide +kernel
theorem dX5_draw_127 : decode cX5_draw 127 = .ok (.pop, 1) := by decide +kernel
theorem dX5_draw_128 : decode cX5_draw 128 = .ok (.iinc 6 1, 3) := by decide +kernel
theorem dX5_draw_131 : decode cX5_draw 131 = .ok (.goto (-87), 3) := by decide +kernel
theorem dX5_draw_134 : decode cX5_draw 134 = .ok (.aload_n 0, 1) := by decide +kernel
theorem dX5_draw_135 : decode cX5_draw 135 = .ok (.getfield 58, 3) := by decide +kernel
theorem dX5_draw_138 : decode cX5_draw 138 = .ok (.bipush 9, 2) := by decide +kernel
theorem dX5_draw_140 : decode cX5_draw 140 = .ok (.iaload, 1) := by decide +kernel
theorem dX5_draw_141 : decode cX5_draw 141 = .ok (.iload_n 3, 1) := by decide +kernel
theorem dX5_draw_142 : decode cX5_draw 142 = .ok (.isub, 1) := by decide +kernel
theorem dX5_draw_143 : decode cX5_draw 143 = .ok (.ireturn, 1) := by decide +kernel
theorem dX5_got_0 : decode cX5_got 0 = .ok (.iload_n 1, 1) := by decide +kernel
theorem dX5_got_1 : decode cX5_got 1 = .ok (.ifCond .lt 12, 3) := by decide +kernel
theorem dX5_got_4 : decode cX5_got 4 = .ok (.iload_n 2, 1) := by decide +kernel
theorem dX5_got_5 : decode cX5_got 5 = .ok (.iconst 0, 1) := by decide +kernel
theorem dX5_got_6 : decode cX5_got 6 = .ok (.iconst 2, 1) := by decide +kernel
theorem dX5_got_7 : decode cX5_got 7 = .ok (.invokestatic 101, 3) := by decide +kernel
theorem dX5_got_10 : decode cX5_got 10 = .ok (.ifCond .ne 8, 3) := by decide +kernel
theorem dX5_got_13 : decode cX5_got 13 = .ok (.aload_n 0, 1) := by decide +kernel
theorem dX5_got_14 : decode cX5_got 14 = .ok (.invokevirtual 130, 3) := by decide +kernel
theorem dX5_got_17 : decode cX5_got 17 = .ok (.ireturn, 1) := by decide +kernel
theorem dX5_got_18 : decode cX5_got 18 = .ok (.iload_n 1, 1) := by decide +kernel
theorem dX5_got_19 : decode cX5_got 19 = .ok (.aload_n 0, 1) := by decide +kernel
theorem dX5_got_20 : decode cX5_got 20 = .ok (.getfield 58, 3) := by decide +kernel
theorem dX5_got_23 : decode cX5_got 23 = .ok (.bipush 7, 2) := by decide +kernel
theorem dX5_got_25 : decode cX5_got 25 = .ok (.iaload, 1) := by decide +kernel
theorem dX5_got_26 : decode cX5_got 26 = .ok (.if_icmp .ge 10, 3) := by decide +kernel
theorem dX5_got_29 : decode cX5_got 29 = .ok (.iload_n 1, 1) := by decide +kernel
theorem dX5_got_30 : decode cX5_got 30 = .ok (.sipush 200, 3) := by decide +kernel
theorem dX5_got_33 : decode cX5_got 33 = .ok (.if_icmp .lt 5, 3) := by decide +kernel
theorem dX5_got_36 : decode cX5_got 36 = .ok (.iconst (-1), 1) := by decide +kernel
theorem dX5_got_37 : decode cX5_got 37 = .ok (.ireturn, 1) := by decide +kernel
theorem dX5_got_38 : decode cX5_got 38 = .ok (.iload_n 2, 1) := by decide +kernel
theorem dX5_got_39 : decode cX5_got 39 = .ok (.ifCond .ne 12, 3) := by decide +kernel
theorem dX5_got_42 : decode cX5_got 42 = .ok (.aload_n 0, 1) := by decide +kernel
theorem dX5_got_43 : decode cX5_got 43 = .ok (.getfield 61, 3) := by decide +kernel
theorem dX5_got_46 : decode cX5_got 46 = .ok (.iload_n 1, 1) := by decide +kernel
theorem dX5_got_47 : decode cX5_got 47 = .ok (.iaload, 1) := by decide +kernel
theorem dX5_got_48 : decode cX5_got 48 = .ok (.goto 23, 3) := by decide +kernel
theorem dX5_got_51 : decode cX5_got 51 = .ok (.iload_n 2, 1) := by decide +kernel
theorem dX5_got_52 : decode cX5_got 52 = .ok (.iconst 1, 1) := by decide +kernel
theorem dX5_got_53 : decode cX5_got 53 = .ok (.if_icmp .ne 12, 3) := by decide +kernel
theorem dX5_got_56 : decode cX5_got 56 = .ok (.aload_n 0, 1) := by decide +kernel
theorem dX5_got_57 : decode cX5_got 57 = .ok (.getfield 64, 3) := by decide +kernel
theorem dX5_got_60 : decode cX5_got 60 = .ok (.iload_n 1, 1) := by decide +kernel
theorem dX5_got_61 : decode cX5_got 61 = .ok (.iaload, 1) := by decide +kernel
theorem dX5_got_62 : decode cX5_got 62 = .ok (.goto 9, 3) := by decide +kernel
theorem dX5_got_65 : decode cX5_got 65 = .ok (.aload_n 0, 1) := by decide +kernel
theorem dX5_got_66 : decode cX5_got 66 = .ok (.getfield 67, 3) := by decide +kernel
theorem dX5_got_69 : decode cX5_got 69 = .ok (.iload_n 1, 1) := by decide +kernel
theorem dX5_got_70 : decode cX5_got 70 = .ok (.iaload, 1) := by decide +kernel
theorem dX5_got_71 : decode cX5_got 71 = .ok (.ireturn, 1) := by decide +kernel
theorem dX5_often_0 : decode cX5_often 0 = .ok (.iload_n 1, 1) := by decide +kernel
theorem dX5_often_1 : decode cX5_often 1 = .ok (.iconst 0, 1) := by decide +kernel
theorem dX5_often_2 : decode cX5_often 2 = .ok (.bipush 9, 2) := by decide +kernel
theorem dX5_often_4 : decode cX5_often 4 = .ok (.invokestatic 101, 3) := by decide +kernel
theorem dX5_often_7 : decode cX5_often 7 = .ok (.ifCond .eq 12, 3) := by decide +kernel
theorem dX5_often_10 : decode cX5_often 10 = .ok (.aload_n 0, 1) := by decide +kernel
theorem dX5_often_11 : decode cX5_often 11 = .ok (.getfield 58, 3) := by decide +kernel
theorem dX5_often_14 : decode cX5_often 14 = .ok (.iload_n 1, 1) := by decide +kernel
theorem dX5_often_15 : decode cX5_often 15 = .ok (.iaload, 1) := by decide +kernel
theorem dX5_often_16 : decode cX5_often 16 = .ok (.goto 7, 3) := by decide +kernel
theorem dX5_often_19 : decode cX5_often 19 = .ok (.aload_n 0, 1) := by decide +kernel
theorem dX5_often_20 : decode cX5_often 20 = .ok (.invokevirtual 130, 3) := by decide +kernel
theorem dX5_often_23 : decode cX5_often 23 = .ok (.ireturn, 1) := by decide +kernel
theorem dX5_where_0 : decode cX5_where 0 = .ok (.iload_n 1, 1) := by decide +kernel
theorem dX5_where_1 : decode cX5_where 1 = .ok (.invokestatic 196, 3) := by decide +kernel
theorem dX5_where_4 : decode cX5_where 4 = .ok (.ifCond .eq 12, 3) := by decide +kernel
theorem dX5_where_7 : decode cX5_where 7 = .ok (.aload_n 0, 1) := by decide +kernel
theorem dX5_where_8 : decode cX5_where 8 = .ok (.getfield 25, 3) := by decide +kernel
theorem dX5_where_11 : decode cX5_where 11 = .ok (.iload_n 1, 1) := by decide +kernel
theorem dX5_where_12 : decode cX5_where 12 = .ok (.iaload, 1) := by decide +kernel
theorem dX5_where_13 : decode cX5_where 13 = .ok (.goto 7, 3) := by decide +kernel
theorem dX5_where_16 : decode cX5_where 16 = .ok (.aload_n 0, 1) := by decide +kernel
theorem dX5_where_17 : decode cX5_where 17 = .ok (.invokevirtual 130, 3) := by decide +kernel
theorem dX5_where_20 : decode cX5_where 20 = .ok (.ireturn, 1) := by decide +kernel
theorem dX5_atLast_0 : decode cX5_atLast 0 = .ok (.aload_n 0, 1) := by decide +kernel
theorem dX5_atLast_1 : decode cX5_atLast 1 = .ok (.getfield 25, 3) := by decide +kernel
theorem dX5_atLast_4 : decode cX5_atLast 4 = .ok (.iload_n 1, 1) := by decide +kernel
theorem dX5_atLast_5 : decode cX5_atLast 5 = .ok (.iaload, 1) := by decide +kernel
theorem dX5_atLast_6 : decode cX5_atLast 6 = .ok (.iconst 1, 1) := by decide +kernel
theorem dX5_atLast_7 : decode cX5_atLast 7 = .ok (.if_icmp .eq 13, 3) := by decide +kernel
theorem dX5_atLast_10 : decode cX5_atLast 10 = .ok (.aload_n 0, 1) := by decide +kernel
theorem dX5_atLast_11 : decode cX5_atLast 11 = .ok (.getfield 25, 3) := by decide +kernel
theorem dX5_atLast_14 : decode cX5_atLast 14 = .ok (.iload_n 1, 1) := by decide +kernel
theorem dX5_atLast_15 : decode cX5_atLast 15 = .ok (.iaload, 1) := by decide +kernel
theorem dX5_atLast_16 : decode cX5_atLast 16 = .ok (.iconst 2, 1) := by decide +kernel
theorem dX5_atLast_17 : decode cX5_atLast 17 = .ok (.if_icmp .ne 14, 3) := by decide +kernel
theorem dX5_atLast_20 : decode cX5_atLast 20 = .ok (.aload_n 0, 1) := by decide +kernel
theorem dX5_atLast_21 : decode cX5_atLast 21 = .ok (.getfield 19, 3) := by decide +kernel
theorem dX5_atLast_24 : decode cX5_atLast 24 = .ok (.iconst 4, 1) := by decide +kernel
theorem dX5_atLast_25 : decode cX5_atLast 25 = .ok (.iload_n 1, 1) := by decide +kernel
theorem dX5_atLast_26 : decode cX5_atLast 26 = .ok (.imul, 1) := by decide +kernel
theorem dX5_atLast_27 : decode cX5_atLast 27 = .ok (.iload_n 2, 1) := by decide +kernel
theorem dX5_atLast_28 : decode cX5_atLast 28 = .ok (.iadd, 1) := by decide +kernel
theorem dX5_atLast_29 : decode cX5_atLast 29 = .ok (.iaload, 1) := by decide +kernel
theorem dX5_atLast_30 : decode cX5_atLast 30 = .ok (.ireturn, 1) := by decide +kernel
theorem dX5_atLast_31 : decode cX5_atLast 31 = .ok (.aload_n 0, 1) := by decide +kernel
theorem dX5_atLast_32 : decode cX5_atLast 32 = .ok (.getfield 16, 3) := by decide +kernel
theorem dX5_atLast_35 : decode cX5_atLast 35 = .ok (.iconst 4, 1) := by decide +kernel
theorem dX5_atLast_36 : decode cX5_atLast 36 = .ok (.iload_n 1, 1) := by decide +kernel
theorem dX5_atLast_37 : decode cX5_atLast 37 = .ok (.imul, 1) := by decide +kernel
theorem dX5_atLast_38 : decode cX5_atLast 38 = .ok (.iload_n 2, 1) := by decide +kernel
theorem dX5_atLast_39 : decode cX5_atLast 39 = .ok (.iadd, 1) := by decide +kernel
theorem dX5_atLast_40 : decode cX5_atLast 40 = .ok (.iaload, 1) := by decide +kernel
theorem dX5_atLast_41 : decode cX5_atLast 41 = .ok (.istore_n 3, 1) := by decide +kernel
theorem dX5_atLast_42 : decode cX5_atLast 42 = .ok (.iconst 0, 1) := by decide +kernel
theorem dX5_atLast_43 : decode cX5_atLast 43 = .ok (.istore 4, 2) := by decide +kernel
theorem dX5_atLast_45 : decode cX5_atLast 45 = .ok (.iload 4, 2) := by decide +kernel
theorem dX5_atLast_47 : decode cX5_atLast 47 = .ok (.aload_n 0, 1) := by decide +kernel
theorem dX5_atLast_48 : decode cX5_atLast 48 = .ok (.getfield 40, 3) := by decide +kernel
theorem dX5_atLast_51 : decode cX5_atLast 51 = .ok (.iload_n 1, 1) := by decide +kernel
theorem dX5_atLast_52 : decode cX5_atLast 52 = .ok (.iaload, 1) := by decide +kernel
theorem dX5_atLast_53 : decode cX5_atLast 53 = .ok (.if_icmp .ge 51, 3) := by decide +kernel
theorem dX5_atLast_56 : decode cX5_atLast 56 = .ok (.iconst 4, 1) := by decide +kernel
theorem dX5_atLast_57 : decode cX5_atLast 57 = .ok (.iload_n 1, 1) := by decide +kernel
theorem dX5_atLast_58 : decode cX5_atLast 58 = .ok (.imul, 1) := by decide +kernel
theorem dX5_atLast_59 : decode cX5_atLast 59 = .ok (.iload 4, 2) := by decide +kernel
theorem dX5_atLast_61 : decode cX5_atLast 61 = .ok (.iadd, 1) := by decide +kernel
theorem dX5_atLast_62 : decode cX5_atLast 62 = .ok (.istore 5, 2) := by decide +kernel
theorem dX5_atLast_64 : decode cX5_atLast 64 = .ok (.aload_n 0, 1) := by decide +kernel
theorem dX5_atLast_65 : decode cX5_atLast 65 = .ok (.getfield 52, 3) := by decide +kernel
theorem dX5_atLast_68 : decode cX5_atLast 68 = .ok (.iload 5, 2) := by decide +kernel
theorem dX5_atLast_70 : decode cX5_atLast 70 = .ok (.iaload, 1) := by decide +kernel
theorem dX5_atLast_71 : decode cX5_atLast 71 = .ok (.iconst (-1), 1) := by decide +kernel
theorem dX5_atLast_72 : decode cX5_atLast 72 = .ok (.if_icmp .ne 24, 3) := by decide +kernel
theorem dX5_atLast_75 : decode cX5_atLast 75 = .ok (.aload_n 0, 1) := by decide +kernel
theorem dX5_atLast_76 : decode cX5_atLast 76 = .ok (.getfield 43, 3) := by decide +kernel
theorem dX5_atLast_79 : decode cX5_atLast 79 = .ok (.iload 5, 2) := by decide +kernel
theorem dX5_atLast_81 : decode cX5_atLast 81 = .ok (.iaload, 1) := by decide +kernel
theorem dX5_atLast_82 : decode cX5_atLast 82 = .ok (.iload_n 2, 1) := by decide +kernel
theorem dX5_atLast_83 : decode cX5_atLast 83 = .ok (.if_icmp .ne 13, 3) := by decide +kernel
theorem dX5_atLast_86 : decode cX5_atLast 86 = .ok (.aload_n 0, 1) := by decide +kernel
theorem dX5_atLast_87 : decode cX5_atLast 87 = .ok (.getfield 46, 3) := by decide +kernel
theorem dX5_atLast_90 : decode cX5_atLast 90 = .ok (.iload 5, 2) := by decide +kernel
theorem dX5_atLast_92 : decode cX5_atLast 92 = .ok (.iaload, 1) := by decide +kernel
theorem dX5_atLast_93 : decode cX5_atLast 93 = .ok (.goto 4, 3) := by decide +kernel
theorem dX5_atLast_96 : decode cX5_atLast 96 = .ok (.iload_n 3, 1) := by decide +kernel
theorem dX5_atLast_97 : decode cX5_atLast 97 = .ok (.istore_n 3, 1) := by decide +kernel
theorem dX5_atLast_98 : decode cX5_atLast 98 = .ok (.iinc 4 1, 3) := by decide +kernel
theorem dX5_atLast_101 : decode cX5_atLast 101 = .ok (.goto (-56), 3) := by decide +kernel
theorem dX5_atLast_104 : decode cX5_atLast 104 = .ok (.iload_n 3, 1) := by decide +kernel
theorem dX5_atLast_105 : decode cX5_atLast 105 = .ok (.ireturn, 1) := by decide +kernel
theorem dX5_item_0 : decode cX5_item 0 = .ok (.iload_n 1, 1) := by decide +kernel
theorem dX5_item_1 : decode cX5_item 1 = .ok (.invokestatic 196, 3) := by decide +kernel
theorem dX5_item_4 : decode cX5_item 4 = .ok (.ifCond .eq 19, 3) := by decide +kernel
theorem dX5_item_7 : decode cX5_item 7 = .ok (.iload_n 2, 1) := by decide +kernel
theorem dX5_item_8 : decode cX5_item 8 = .ok (.invokestatic 200, 3) := by decide +kernel
theorem dX5_item_11 : decode cX5_item 11 = .ok (.ifCond .eq 12, 3) := by decide +kernel
theorem dX5_item_14 : decode cX5_item 14 = .ok (.iload_n 3, 1) := by decide +kernel
theorem dX5_item_15 : decode cX5_item 15 = .ok (.iconst 0, 1) := by decide +kernel
theorem dX5_item_16 : decode cX5_item 16 = .ok (.iconst 2, 1) := by decide +kernel
theorem dX5_item_17 : decode cX5_item 17 = .ok (.invokestatic 101, 3) := by decide +kernel
theorem dX5_item_20 : decode cX5_item 20 = .ok (.ifCond .ne 8, 3) := by decide +kernel
theorem dX5_item_23 : decode cX5_item 23 = .ok (.aload_n 0, 1) := by decide +kernel
theorem dX5_item_24 : decode cX5_item 24 = .ok (.invokevirtual 130, 3) := by decide +kernel
theorem dX5_item_27 : decode cX5_item 27 = .ok (.ireturn, 1) := by decide +kernel
theorem dX5_item_28 : decode cX5_item 28 = .ok (.aload_n 0, 1) := by decide +kernel
theorem dX5_item_29 : decode cX5_item 29 = .ok (.getfield 25, 3) := by decide +kernel
theorem dX5_item_32 : decode cX5_item 32 = .ok (.iload_n 1, 1) := by decide +kernel
theorem dX5_item_33 : decode cX5_item 33 = .ok (.iaload, 1) := by decide +kernel
theorem dX5_item_34 : decode cX5_item 34 = .ok (.iconst 1, 1) := by decide +kernel
theorem dX5_item_35 : decode cX5_item 35 = .ok (.if_icmp .eq 13, 3) := by decide +kernel
theorem dX5_item_38 : decode cX5_item 38 = .ok (.aload_n 0, 1) := by decide +kernel
theorem dX5_item_39 : decode cX5_item 39 = .ok (.getfield 25, 3) := by decide +kernel
theorem dX5_item_42 : decode cX5_item 42 = .ok (.iload_n 1, 1) := by decide +kernel
theorem dX5_item_43 : decode cX5_item 43 = .ok (.iaload, 1) := by decide +kernel
theorem dX5_item_44 : decode cX5_item 44 = .ok (.iconst 2, 1) := by decide +kernel
theorem dX5_item_45 : decode cX5_item 45 = .ok (.if_icmp .ne 7, 3) := by decide +kernel
theorem dX5_item_48 : decode cX5_item 48 = .ok (.iconst 1, 1) := by decide +kernel
theorem dX5_item_49 : decode cX5_item 49 = .ok (.goto 4, 3) := by decide +kernel
theorem dX5_item_52 : decode cX5_item 52 = .ok (.iconst 0, 1) := by decide +kernel
theorem dX5_item_53 : decode cX5_item 53 = .ok (.istore 4, 2) := by decide +kernel
theorem dX5_item_55 : decode cX5_item 55 = .ok (.iload_n 3, 1) := by decide +kernel
theorem dX5_item_56 : decode cX5_item 56 = .ok (.ifCond .ne 16, 3) := by decide +kernel
theorem dX5_item_59 : decode cX5_item 59 = .ok (.aload_n 0, 1) := by decide +kernel
theorem dX5_item_60 : decode cX5_item 60 = .ok (.getfield 16, 3) := by decide +kernel
theorem dX5_item_63 : decode cX5_item 63 = .ok (.iconst 4, 1) := by decide +kernel
theorem dX5_item_64 : decode cX5_item 64 = .ok (.iload_n 1, 1) := by decide +kernel
theorem dX5_item_65 : decode cX5_item 65 = .ok (.imul, 1) := by decide +kernel
theorem dX5_item_66 : decode cX5_item 66 = .ok (.iload_n 2, 1) := by decide +kernel
theorem dX5_item_67 : decode cX5_item 67 = .ok (.iadd, 1) := by decide +kernel
theorem dX5_item_68 : decode cX5_item 68 = .ok (.iaload, 1) := by decide +kernel
theorem dX5_item_69 : decode cX5_item 69 = .ok (.goto 36, 3) := by decide +kernel
theorem dX5_item_72 : decode cX5_item 72 = .ok (.iload_n 3, 1) := by decide +kernel
theorem dX5_item_73 : decode cX5_item 73 = .ok (.iconst 1, 1) := by decide +kernel
theorem dX5_item_74 : decode cX5_item 74 = .ok (.if_icmp .ne 12, 3) := by decide +kernel
theorem dX5_item_77 : decode cX5_item 77 = .ok (.aload_n 0, 1) := by decide +kernel
theorem dX5_item_78 : decode cX5_item 78 = .ok (.iload_n 1, 1) := by decide +kernel
theorem dX5_item_79 : decode cX5_item 79 = .ok (.iload_n 2, 1) := by decide +kernel
theorem dX5_item_80 : decode cX5_item 80 = .ok (.invokevirtual 230, 3) := by decide +kernel
theorem dX5_item_83 : decode cX5_item 83 = .ok (.goto 22, 3) := by decide +kernel
theorem dX5_item_86 : decode cX5_item 86 = .ok (.iload 4, 2) := by decide +kernel
theorem dX5_item_88 : decode cX5_item 88 = .ok (.ifCond .eq 16, 3) := by decide +kernel
theorem dX5_item_91 : decode cX5_item 91 = .ok (.aload_n 0, 1) := by decide +kernel
theorem dX5_item_92 : decode cX5_item 92 = .ok (.getfield 22, 3) := by decide +kernel
theorem dX5_item_95 : decode cX5_item 95 = .ok (.iload_n 1, 1) := by decide +kernel
theorem dX5_item_96 : decode cX5_item 96 = .ok (.iaload, 1) := by decide +kernel
theorem dX5_item_97 : decode cX5_item 97 = .ok (.iload_n 2, 1) := by decide +kernel
theorem dX5_item_98 : decode cX5_item 98 = .ok (.ishr, 1) := by decide +kernel
theorem dX5_item_99 : decode cX5_item 99 = .ok (.iconst 1, 1) := by decide +kernel
theorem dX5_item_100 : decode cX5_item 100 = .ok (.iand, 1) := by decide +kernel
theorem dX5_item_101 : decode cX5_item 101 = .ok (.goto 4, 3) := by decide +kernel
theorem dX5_item_104 : decode cX5_item 104 = .ok (.iconst 0, 1) := by decide +kernel
theorem dX5_item_105 : decode cX5_item 105 = .ok (.ireturn, 1) := by decide +kernel
theorem dX5_place_0 : decode cX5_place 0 = .ok (.iload_n 1, 1) := by decide +kernel
theorem dX5_place_1 : decode cX5_place 1 = .ok (.iconst 0, 1) := by decide +kernel
theorem dX5_place_2 : decode cX5_place 2 = .ok (.iconst 3, 1) := by decide +kernel
theorem dX5_place_3 : decode cX5_place 3 = .ok (.invokestatic 101, 3) := by decide +kernel
theorem dX5_place_6 : decode cX5_place 6 = .ok (.ifCond .eq 12, 3) := by decide +kernel
theorem dX5_place_9 : decode cX5_place 9 = .ok (.iload_n 2, 1) := by decide +kernel
theorem dX5_place_10 : decode cX5_place 10 = .ok (.iconst 0, 1) := by decide +kernel
theorem dX5_place_11 : decode cX5_place 11 = .ok (.iconst 2, 1) := by decide +kernel
theorem dX5_place_12 : decode cX5_place 12 = .ok (.invokestatic 101, 3) := by decide +kernel
theorem dX5_place_15 : decode cX5_place 15 = .ok (.ifCond .ne 8, 3) := by decide +kernel
theorem dX5_place_18 : decode cX5_place 18 = .ok (.aload_n 0, 1) := by decide +kernel
theorem dX5_place_19 : decode cX5_place 19 = .ok (.invokevirtual 130, 3) := by decide +kernel
theorem dX5_place_22 : decode cX5_place 22 = .ok (.ireturn, 1) := by decide +kernel
theorem dX5_place_23 : decode cX5_place 23 = .ok (.iload_n 2, 1) := by decide +kernel
theorem dX5_place_24 : decode cX5_place 24 = .ok (.aload_n 0, 1) := by decide +kernel
theorem dX5_place_25 : decode cX5_place 25 = .ok (.getfield 31, 3) := by decide +kernel
theorem dX5_place_28 : decode cX5_place 28 = .ok (.iload_n 1, 1) := by decide +kernel
theorem dX5_place_29 : decode cX5_place 29 = .ok (.iaload, 1) := by decide +kernel
theorem dX5_place_30 : decode cX5_place 30 = .ok (.if_icmp .ge 16, 3) := by decide +kernel
theorem dX5_place_33 : decode cX5_place 33 = .ok (.aload_n 0, 1) := by decide +kernel
theorem dX5_place_34 : decode cX5_place 34 = .ok (.getfield 34, 3) := by decide +kernel
theorem dX5_place_37 : decode cX5_place 37 = .ok (.iconst 3, 1) := by decide +kernel
theorem dX5_place_38 : decode cX5_place 38 = .ok (.iload_n 1, 1) := by decide +kernel
theorem dX5_place_39 : decode cX5_place 39 = .ok (.imul, 1) := by decide +kernel
theorem dX5_place_40 : decode cX5_place 40 = .ok (.iload_n 2, 1) := by decide +kernel
theorem dX5_place_41 : decode cX5_place 41 = .ok (.iadd, 1) := by decide +kernel
theorem dX5_place_42 : decode cX5_place 42 = .ok (.iaload, 1) := by decide +kernel
theorem dX5_place_43 : decode cX5_place 43 = .ok (.goto 4, 3) := by decide +kernel
theorem dX5_place_46 : decode cX5_place 46 = .ok (.iconst (-1), 1) := by decide +kernel
theorem dX5_place_47 : decode cX5_place 47 = .ok (.ireturn, 1) := by decide +kernel
theorem dX5_fetch_0 : decode cX5_fetch 0 = .ok (.iload_n 1, 1) := by decide +kernel
theorem dX5_fetch_1 : decode cX5_fetch 1 = .ok (.ifCond .lt 12, 3) := by decide +kernel
theorem dX5_fetch_4 : decode cX5_fetch 4 = .ok (.iload_n 2, 1) := by decide +kernel
theorem dX5_fetch_5 : decode cX5_fetch 5 = .ok (.iconst 0, 1) := by decide +kernel
theorem dX5_fetch_6 : decode cX5_fetch 6 = .ok (.iconst 2, 1) := by decide +kernel
theorem dX5_fetch_7 : decode cX5_fetch 7 = .ok (.invokestatic 101, 3) := by decide +kernel
theorem dX5_fetch_10 : decode cX5_fetch 10 = .ok (.ifCond .ne 8, 3) := by decide +kernel
theorem dX5_fetch_13 : decode cX5_fetch 13 = .ok (.aload_n 0, 1) := by decide +kernel
theorem dX5_fetch_14 : decode cX5_fetch 14 = .ok (.invokevirtual 130, 3) := by decide +kernel
theorem dX5_fetch_17 : decode cX5_fetch 17 = .ok (.ireturn, 1) := by decide +kernel
theorem dX5_fetch_18 : decode cX5_fetch 18 = .ok (.iload_n 1, 1) := by decide +kernel
theorem dX5_fetch_19 : decode cX5_fetch 19 = .ok (.aload_n 0, 1) := by decide +kernel
theorem dX5_fetch_20 : decode cX5_fetch 20 = .ok (.getfield 55, 3) := by decide +kernel
theorem dX5_fetch_23 : decode cX5_fetch 23 = .ok (.iconst 0, 1) := by decide +kernel
theorem dX5_fetch_24 : decode cX5_fetch 24 = .ok (.iaload, 1) := by decide +kernel
theorem dX5_fetch_25 : decode cX5_fetch 25 = .ok (.if_icmp .lt 5, 3) := by decide +kernel
theorem dX5_fetch_28 : decode cX5_fetch 28 = .ok (.iconst (-1), 1) := by decide +kernel
theorem dX5_fetch_29 : decode cX5_fetch 29 = .ok (.ireturn, 1) := by decide +kernel
theorem dX5_fetch_30 : decode cX5_fetch 30 = .ok (.aload_n 0, 1) := by decide +kernel
theorem dX5_fetch_31 : decode cX5_fetch 31 = .ok (.getfield 37, 3) := by decide +kernel
theorem dX5_fetch_34 : decode cX5_fetch 34 = .ok (.iload_n 1, 1) := by decide +kernel
theorem dX5_fetch_35 : decode cX5_fetch 35 = .ok (.iaload, 1) := by decide +kernel
theorem dX5_fetch_36 : decode cX5_fetch 36 = .ok (.istore_n 3, 1) := by decide +kernel
theorem dX5_fetch_37 : decode cX5_fetch 37 = .ok (.iload_n 2, 1) := by decide +kernel
theorem dX5_fetch_38 : decode cX5_fetch 38 = .ok (.ifCond .ne 7, 3) := by decide +kernel
theorem dX5_fetch_41 : decode cX5_fetch 41 = .ok (.iload_n 3, 1) := by decide +kernel
theorem dX5_fetch_42 : decode cX5_fetch 42 = .ok (.goto 31, 3) := by decide +kernel
theorem dX5_fetch_45 : decode cX5_fetch 45 = .ok (.iload_n 2, 1) := by decide +kernel
theorem dX5_fetch_46 : decode cX5_fetch 46 = .ok (.iconst 1, 1) := by decide +kernel
theorem dX5_fetch_47 : decode cX5_fetch 47 = .ok (.if_icmp .ne 20, 3) := by decide +kernel
theorem dX5_fetch_50 : decode cX5_fetch 50 = .ok (.aload_n 0, 1) := by decide +kernel
theorem dX5_fetch_51 : decode cX5_fetch 51 = .ok (.getfield 28, 3) := by decide +kernel
theorem dX5_fetch_54 : decode cX5_fetch 54 = .ok (.iload_n 3, 1) := by decide +kernel
theorem dX5_fetch_55 : decode cX5_fetch 55 = .ok (.iaload, 1) := by decide +kernel
theorem dX5_fetch_56 : decode cX5_fetch 56 = .ok (.aload_n 0, 1) := by decide +kernel
theorem dX5_fetch_57 : decode cX5_fetch 57 = .ok (.getfield 58, 3) := by decide +kernel
theorem dX5_fetch_60 : decode cX5_fetch 60 = .ok (.bipush 9, 2) := by decide +kernel
theorem dX5_fetch_62 : decode cX5_fetch 62 = .ok (.iaload, 1) := by decide +kernel
theorem dX5_fetch_63 : decode cX5_fetch 63 = .ok (.isub, 1) := by decide +kernel
theorem dX5_fetch_64 : decode cX5_fetch 64 = .ok (.goto 9, 3) := by decide +kernel
theorem dX5_fetch_67 : decode cX5_fetch 67 = .ok (.aload_n 0, 1) := by decide +kernel
theorem dX5_fetch_68 : decode cX5_fetch 68 = .ok (.getfield 40, 3) := by decide +kernel
theorem dX5_fetch_71 : decode cX5_fetch 71 = .ok (.iload_n 3, 1) := by decide +kernel
theorem dX5_fetch_72 : decode cX5_fetch 72 = .ok (.iaload, 1) := by decide +kernel
theorem dX5_fetch_73 : decode cX5_fetch 73 = .ok (.ireturn, 1) := by decide +kernel
theorem dX5_costBy_0 : decode cX5_costBy 0 = .ok (.iload_n 1, 1) := by decide +kernel
theorem dX5_costBy_1 : decode cX5_costBy 1 = .ok (.ifCond .ne 8, 3) := by decide +kernel
theorem dX5_costBy_4 : decode cX5_costBy 4 = .ok (.aload_n 0, 1) := by decide +kernel
theorem dX5_costBy_5 : decode cX5_costBy 5 = .ok (.getfield 90, 3) := by decide +kernel
theorem dX5_costBy_8 : decode cX5_costBy 8 = .ok (.freturn, 1) := by decide +kernel
theorem dX5_costBy_9 : decode cX5_costBy 9 = .ok (.iload_n 1, 1) := by decide +kernel
theorem dX5_costBy_10 : decode cX5_costBy 10 = .ok (.iconst 2, 1) := by decide +kernel
theorem dX5_costBy_11 : decode cX5_costBy 11 = .ok (.if_icmp .ne 11, 3) := by decide +kernel
theorem dX5_costBy_14 : decode cX5_costBy 14 = .ok (.aload_n 0, 1) := by decide +kernel
theorem dX5_costBy_15 : decode cX5_costBy 15 = .ok (.getfield 55, 3) := by decide +kernel
theorem dX5_costBy_18 : decode cX5_costBy 18 = .ok (.iconst 2, 1) := by decide +kernel
theorem dX5_costBy_19 : decode cX5_costBy 19 = .ok (.iaload, 1) := by decide +kernel
theorem dX5_costBy_20 : decode cX5_costBy 20 = .ok (.i2f, 1) := by decide +kernel
theorem dX5_costBy_21 : decode cX5_costBy 21 = .ok (.freturn, 1) := by decide +kernel
theorem dX5_costBy_22 : decode cX5_costBy 22 = .ok (.aload_n 0, 1) := by decide +kernel
theorem dX5_costBy_23 : decode cX5_costBy 23 = .ok (.getfield 58, 3) := by decide +kernel
theorem dX5_costBy_26 : decode cX5_costBy 26 = .ok (.bipush 8, 2) := by decide +kernel
theorem dX5_costBy_28 : decode cX5_costBy 28 = .ok (.iaload, 1) := by decide +kernel
theorem dX5_costBy_29 : decode cX5_costBy 29 = .ok (.ifCond .ne 7, 3) := by decide +kernel
theorem dX5_costBy_32 : decode cX5_costBy 32 = .ok (.fconst 0, 1) := by decide +kernel
theorem dX5_costBy_33 : decode cX5_costBy 33 = .ok (.goto 17, 3) := by decide +kernel
theorem dX5_costBy_36 : decode cX5_costBy 36 = .ok (.aload_n 0, 1) := by decide +kernel
theorem dX5_costBy_37 : decode cX5_costBy 37 = .ok (.getfield 94, 3) := by decide +kernel
theorem dX5_costBy_40 : decode cX5_costBy 40 = .ok (.l2f, 1) := by decide +kernel
theorem dX5_costBy_41 : decode cX5_costBy 41 = .ok (.aload_n 0, 1) := by decide +kernel
theorem dX5_costBy_42 : decode cX5_costBy 42 = .ok (.getfield 58, 3) := by decide +kernel
theorem dX5_costBy_45 : decode cX5_costBy 45 = .ok (.bipush 8, 2) := by decide +kernel
theorem dX5_costBy_47 : decode cX5_costBy 47 = .ok (.iaload, 1) := by decide +kernel
theorem dX5_costBy_48 : decode cX5_costBy 48 = .ok (.i2f, 1) := by decide +kernel
theorem dX5_costBy_49 : decode cX5_costBy 49 = .ok (.fdiv, 1) := by decide +kernel
theorem dX5_costBy_50 : decode cX5_costBy 50 = .ok (.freturn, 1) := by decide +kernel
theorem dX5_cost_0 : decode cX5_cost 0 = .ok (.iload_n 1, 1) := by decide +kernel
theorem dX5_cost_1 : decode cX5_cost 1 = .ok (.iconst 0, 1) := by decide +kernel
theorem dX5_cost_2 : decode cX5_cost 2 = .ok (.iconst 2, 1) := by decide +kernel
theorem dX5_cost_3 : decode cX5_cost 3 = .ok (.invokestatic 101, 3) := by decide +kernel
theorem dX5_cost_6 : decode cX5_cost 6 = .ok (.ifCond .eq 14, 3) := by decide +kernel
theorem dX5_cost_9 : decode cX5_cost 9 = .ok (.aload_n 0, 1) := by decide +kernel
theorem dX5_cost_10 : decode cX5_cost 10 = .ok (.iload_n 1, 1) := by decide +kernel
theorem dX5_cost_11 : decode cX5_cost 11 = .ok (.invokevirtual 234, 3) := by decide +kernel
theorem dX5_cost_14 : decode cX5_cost 14 = .ok (.invokestatic 238, 3) := by decide +kernel
theorem dX5_cost_17 : decode cX5_cost 17 = .ok (.goto 7, 3) := by decide +kernel
theorem dX5_cost_20 : decode cX5_cost 20 = .ok (.aload_n 0, 1) := by decide +kernel
theorem dX5_cost_21 : decode cX5_cost 21 = .ok (.invokevirtual 130, 3) := by decide +kernel
theorem dX5_cost_24 : decode cX5_cost 24 = .ok (.ireturn, 1) := by decide +kernel
theorem dX5_even_0 : decode cX5_even 0 = .ok (.aload_n 0, 1) := by decide +kernel
theorem dX5_even_1 : decode cX5_even 1 = .ok (.getfield 58, 3) := by decide +kernel
theorem dX5_even_4 : decode cX5_even 4 = .ok (.bipush 8, 2) := by decide +kernel
theorem dX5_even_6 : decode cX5_even 6 = .ok (.iaload, 1) := by decide +kernel
theorem dX5_even_7 : decode cX5_even 7 = .ok (.ifCond .ne 8, 3) := by decide +kernel
theorem dX5_even_10 : decode cX5_even 10 = .ok (.dconst 0, 1) := by decide +kernel
theorem dX5_even_11 : decode cX5_even 11 = .ok (.invokestatic 244, 3) := by decide +kernel
theorem dX5_even_14 : decode cX5_even 14 = .ok (.lreturn, 1) := by decide +kernel
theorem dX5_even_15 : decode cX5_even 15 = .ok (.aload_n 0, 1) := by decide +kernel
theorem dX5_even_16 : decode cX5_even 16 = .ok (.getfield 58, 3) := by decide +kernel
theorem dX5_even_19 : decode cX5_even 19 = .ok (.bipush 8, 2) := by decide +kernel
theorem dX5_even_21 : decode cX5_even 21 = .ok (.iaload, 1) := by decide +kernel
theorem dX5_even_22 : decode cX5_even 22 = .ok (.i2d, 1) := by decide +kernel
theorem dX5_even_23 : decode cX5_even 23 = .ok (.dstore_n 1, 1) := by decide +kernel
theorem dX5_even_24 : decode cX5_even 24 = .ok (.aload_n 0, 1) := by decide +kernel
theorem dX5_even_25 : decode cX5_even 25 = .ok (.getfield 94, 3) := by decide +kernel
theorem dX5_even_28 : decode cX5_even 28 = .ok (.l2d, 1) := by decide +kernel
theorem dX5_even_29 : decode cX5_even 29 = .ok (.dload_n 1, 1) := by decide +kernel
theorem dX5_even_30 : decode cX5_even 30 = .ok (.ddiv, 1) := by decide +kernel
theorem dX5_even_31 : decode cX5_even 31 = .ok (.dstore_n 3, 1) := by decide +kernel
theorem dX5_even_32 : decode cX5_even 32 = .ok (.aload_n 0, 1) := by decide +kernel
theorem dX5_even_33 : decode cX5_even 33 = .ok (.getfield 98, 3) := by decide +kernel
theorem dX5_even_36 : decode cX5_even 36 = .ok (.l2d, 1) := by decide +kernel
theorem dX5_even_37 : decode cX5_even 37 = .ok (.dload_n 1, 1) := by decide +kernel
theorem dX5_even_38 : decode cX5_even 38 = .ok (.ddiv, 1) := by decide +kernel
theorem dX5_even_39 : decode cX5_even 39 = .ok (.dload_n 3, 1) := by decide +kernel
theorem dX5_even_40 : decode cX5_even 40 = .ok (.dload_n 3, 1) := by decide +kernel
theorem dX5_even_41 : decode cX5_even 41 = .ok (.dmul, 1) := by decide +kernel
theorem dX5_even_42 : decode cX5_even 42 = .ok (.dsub, 1) := by decide +kernel
theorem dX5_even_43 : decode cX5_even 43 = .ok (.invokestatic 244, 3) := by decide +kernel
theorem dX5_even_46 : decode cX5_even 46 = .ok (.lreturn, 1) := by decide +kernel
theorem dX5_type_0 : decode cX5_type 0 = .ok (.iload_n 1, 1) := by decide +kernel
theorem dX5_type_1 : decode cX5_type 1 = .ok (.iconst 0, 1) := by decide +kernel
theorem dX5_type_2 : decode cX5_type 2 = .ok (.bipush 127, 2) := by decide +kernel
theorem dX5_type_4 : decode cX5_type 4 = .ok (.invokestatic 101, 3) := by decide +kernel
theorem dX5_type_7 : decode cX5_type 7 = .ok (.ifCond .ne 8, 3) := by decide +kernel
theorem dX5_type_10 : decode cX5_type 10 = .ok (.aload_n 0, 1) := by decide +kernel
theorem dX5_type_11 : decode cX5_type 11 = .ok (.invokevirtual 130, 3) := by decide +kernel
theorem dX5_type_14 : decode cX5_type 14 = .ok (.ireturn, 1) := by decide +kernel
theorem dX5_type_15 : decode cX5_type 15 = .ok (.aload_n 0, 1) := by decide +kernel
theorem dX5_type_16 : decode cX5_type 16 = .ok (.getfield 250, 3) := by decide +kernel
theorem dX5_type_19 : decode cX5_type 19 = .ok (.bipush 120, 2) := by decide +kernel
theorem dX5_type_21 : decode cX5_type 21 = .ok (.if_icmp .ne 16, 3) := by decide +kernel
theorem dX5_type_24 : decode cX5_type 24 = .ok (.aload_n 0, 1) := by decide +kernel
theorem dX5_type_25 : decode cX5_type 25 = .ok (.getfield 1, 3) := by decide +kernel
theorem dX5_type_28 : decode cX5_type 28 = .ok (.iconst 2, 1) := by decide +kernel
theorem dX5_type_29 : decode cX5_type 29 = .ok (.dup2, 1) := by decide +kernel
theorem dX5_type_30 : decode cX5_type 30 = .ok (.iaload, 1) := by decide +kernel
theorem dX5_type_31 : decode cX5_type 31 = .ok (.iconst 1, 1) := by decide +kernel
theorem dX5_type_32 : decode cX5_type 32 = .ok (.iadd, 1) := by decide +kernel
theorem dX5_type_33 : decode cX5_type 33 = .ok (.iastore, 1) := by decide +kernel
theorem dX5_type_34 : decode cX5_type 34 = .ok (.bipush (-4), 2) := by decide +kernel
theorem dX5_type_36 : decode cX5_type 36 = .ok (.ireturn, 1) := by decide +kernel
theorem dX5_type_37 : decode cX5_type 37 = .ok (.aload_n 0, 1) := by decide +kernel
theorem dX5_type_38 : decode cX5_type 38 = .ok (.getfield 84, 3) := by decide +kernel
theorem dX5_type_41 : decode cX5_type 41 = .ok (.aload_n 0, 1) := by decide +kernel
theorem dX5_type_42 : decode cX5_type 42 = .ok (.getfield 250, 3) := by decide +kernel
theorem dX5_type_45 : decode cX5_type 45 = .ok (.iload_n 1, 1) := by decide +kernel
theorem dX5_type_46 : decode cX5_type 46 = .ok (.iastore, 1) := by decide +kernel
theorem dX5_type_47 : decode cX5_type 47 = .ok (.aload_n 0, 1) := by decide +kernel
theorem dX5_type_48 : decode cX5_type 48 = .ok (.dup, 1) := by decide +kernel
theorem dX5_type_49 : decode cX5_type 49 = .ok (.getfield 250, 3) := by decide +kernel
theorem dX5_type_52 : decode cX5_type 52 = .ok (.iconst 1, 1) := by decide +kernel
theorem dX5_type_53 : decode cX5_type 53 = .ok (.iadd, 1) := by decide +kernel
theorem dX5_type_54 : decode cX5_type 54 = .ok (.putfield 250, 3) := by decide +kernel
theorem dX5_type_57 : decode cX5_type 57 = .ok (.aload_n 0, 1) := by decide +kernel
theorem dX5_type_58 : decode cX5_type 58 = .ok (.getfield 250, 3) := by decide +kernel
theorem dX5_type_61 : decode cX5_type 61 = .ok (.ireturn, 1) := by decide +kernel
theorem dX5_clear_0 : decode cX5_clear 0 = .ok (.aload_n 0, 1) := by decide +kernel
theorem dX5_clear_1 : decode cX5_clear 1 = .ok (.getfield 250, 3) := by decide +kernel
theorem dX5_clear_4 : decode cX5_clear 4 = .ok (.istore_n 1, 1) := by decide +kernel
theorem dX5_clear_5 : decode cX5_clear 5 = .ok (.aload_n 0, 1) := by decide +kernel
theorem dX5_clear_6 : decode cX5_clear 6 = .ok (.iconst 0, 1) := by decide +kernel
theorem dX5_clear_7 : decode cX5_clear 7 = .ok (.putfield 250, 3) := by decide +kernel
theorem dX5_clear_10 : decode cX5_clear 10 = .ok (.iload_n 1, 1) := by decide +kernel
theorem dX5_clear_11 : decode cX5_clear 11 = .ok (.ireturn, 1) := by decide +kernel
theorem dX5_here_0 : decode cX5_here 0 = .ok (.aload_n 0, 1) := by decide +kernel
theorem dX5_here_1 : decode cX5_here 1 = .ok (.getfield 253, 3) := by decide +kernel
theorem dX5_here_4 : decode cX5_here 4 = .ok (.aload_n 0, 1) := by decide +kernel
theorem dX5_here_5 : decode cX5_here 5 = .ok (.getfield 250, 3) := by decide +kernel
theorem dX5_here_8 : decode cX5_here 8 = .ok (.if_icmp .ge 15, 3) := by decide +kernel
theorem dX5_here_11 : decode cX5_here 11 = .ok (.aload_n 0, 1) := by decide +kernel
theorem dX5_here_12 : decode cX5_here 12 = .ok (.getfield 84, 3) := by decide +kernel
theorem dX5_here_15 : decode cX5_here 15 = .ok (.aload_n 0, 1) := by decide +kernel
theorem dX5_here_16 : decode cX5_here 16 = .ok (.getfield 253, 3) := by decide +kernel
theorem dX5_here_19 : decode cX5_here 19 = .ok (.iaload, 1) := by decide +kernel
theorem dX5_here_20 : decode cX5_here 20 = .ok (.goto 4, 3) := by decide +kernel
theorem dX5_here_23 : decode cX5_here 23 = .ok (.iconst (-1), 1) := by decide +kernel
theorem dX5_here_24 : decode cX5_here 24 = .ok (.ireturn, 1) := by decide +kernel
theorem dX5_skips_0 : decode cX5_skips 0 = .ok (.aload_n 0, 1) := by decide +kernel
theorem dX5_skips_1 : decode cX5_skips 1 = .ok (.invokevirtual 256, 3) := by decide +kernel
theorem dX5_skips_4 : decode cX5_skips 4 = .ok (.bipush 32, 2) := by decide +kernel
theorem dX5_skips_6 : decode cX5_skips 6 = .ok (.if_icmp .ne 16, 3) := by decide +kernel
theorem dX5_skips_9 : decode cX5_skips 9 = .ok (.aload_n 0, 1) := by decide +kernel
theorem dX5_skips_10 : decode cX5_skips 10 = .ok (.dup, 1) := by decide +kernel
theorem dX5_skips_11 : decode cX5_skips 11 = .ok (.getfield 253, 3) := by decide +kernel
theorem dX5_skips_14 : decode cX5_skips 14 = .ok (.iconst 1, 1) := by decide +kernel
theorem dX5_skips_15 : decode cX5_skips 15 = .ok (.iadd, 1) := by decide +kernel
theorem dX5_skips_16 : decode cX5_skips 16 = .ok (.putfield 253, 3) := by decide +kernel
theorem dX5_skips_19 : decode cX5_skips 19 = .ok (.goto (-19), 3) := by decide +kernel
theorem dX5_skips_22 : decode cX5_skips 22 = .ok (.aload_n 0, 1) := by decide +kernel
theorem dX5_skips_23 : decode cX5_skips 23 = .ok (.aload_n 0, 1) := by decide +kernel
theorem dX5_skips_24 : decode cX5_skips 24 = .ok (.getfield 253, 3) := by decide +kernel
theorem dX5_skips_27 : decode cX5_skips 27 = .ok (.putfield 259, 3) := by decide +kernel
theorem dX5_skips_30 : decode cX5_skips 30 = .ok (.return_, 1) := by decide +kernel
theorem dX5_number_0 : decode cX5_number 0 = .ok (.aload_n 0, 1) := by decide +kernel
theorem dX5_number_1 : decode cX5_number 1 = .ok (.invokevirtual 262, 3) := by decide +kernel
theorem dX5_number_4 : decode cX5_number 4 = .ok (.iconst 0, 1) := by decide +kernel
theorem dX5_number_5 : decode cX5_number 5 = .ok (.istore_n 1, 1) := by decide +kernel
theorem dX5_number_6 : decode cX5_number 6 = .ok (.iconst 0, 1) := by decide +kernel
theorem dX5_number_7 : decode cX5_number 7 = .ok (.istore_n 2, 1) := by decide +kernel
theorem dX5_number_8 : decode cX5_number 8 = .ok (.aload_n 0, 1) := by decide +kernel
theorem dX5_number_9 : decode cX5_number 9 = .ok (.invokevirtual 256, 3) := by decide +kernel
theorem dX5_number_12 : decode cX5_number 12 = .ok (.bipush 48, 2) := by decide +kernel
theorem dX5_number_14 : decode cX5_number 14 = .ok (.bipush 57, 2) := by decide +kernel
theorem dX5_number_16 : decode cX5_number 16 = .ok (.invokestatic 101, 3) := by decide +kernel
theorem dX5_number_19 : decode cX5_number 19 = .ok (.ifCond .eq 41, 3) := by decide +kernel
theorem dX5_number_22 : decode cX5_number 22 = .ok (.iload_n 1, 1) := by decide +kernel
theorem dX5_number_23 : decode cX5_number 23 = .ok (.iconst 2, 1) := by decide +kernel
theorem dX5_number_24 : decode cX5_number 24 = .ok (.if_icmp .ge 18, 3) := by decide +kernel
theorem dX5_number_27 : decode cX5_number 27 = .ok (.bipush 10, 2) := by decide +kernel
theorem dX5_number_29 : decode cX5_number 29 = .ok (.iload_n 2, 1) := by decide +kernel
theorem dX5_number_30 : decode cX5_number 30 = .ok (.imul, 1) := by decide +kernel
theorem dX5_number_31 : decode cX5_number 31 = .ok (.aload_n 0, 1) := by decide +kernel
theorem dX5_number_32 : decode cX5_number 32 = .ok (.invokevirtual 256, 3) := by decide +kernel
theorem dX5_number_35 : decode cX5_number 35 = .ok (.iadd, 1) := by decide +kernel
theorem dX5_number_36 : decode cX5_number 36 = .ok (.bipush 48, 2) := by decide +kernel
theorem dX5_number_38 : decode cX5_number 38 = .ok (.isub, 1) := by decide +kernel
theorem dX5_number_39 : decode cX5_number 39 = .ok (.goto 4, 3) := by decide +kernel
theorem dX5_number_42 : decode cX5_number 42 = .ok (.iload_n 2, 1) := by decide +kernel
theorem dX5_number_43 : decode cX5_number 43 = .ok (.istore_n 2, 1) := by decide +kernel
theorem dX5_number_44 : decode cX5_number 44 = .ok (.iinc 1 1, 3) := by decide +kernel
theorem dX5_number_47 : decode cX5_number 47 = .ok (.aload_n 0, 1) := by decide +kernel
theorem dX5_number_48 : decode cX5_number 48 = .ok (.dup, 1) := by decide +kernel
theorem dX5_number_49 : decode cX5_number 49 = .ok (.getfield 253, 3) := by decide +kernel
theorem dX5_number_52 : decode cX5_number 52 = .ok (.iconst 1, 1) := by decide +kernel
theorem dX5_number_53 : decode cX5_number 53 = .ok (.iadd, 1) := by decide +kernel
theorem dX5_number_54 : decode cX5_number 54 = .ok (.putfield 253, 3) := by decide +kernel
theorem dX5_number_57 : decode cX5_number 57 = .ok (.goto (-49), 3) := by decide +kernel
theorem dX5_number_60 : decode cX5_number 60 = .ok (.aload_n 0, 1) := by decide +kernel
theorem dX5_number_61 : decode cX5_number 61 = .ok (.iload_n 2, 1) := by decide +kernel
theorem dX5_number_62 : decode cX5_number 62 = .ok (.putfield 265, 3) := by decide +kernel
theorem dX5_number_65 : decode cX5_number 65 = .ok (.iload_n 1, 1) := by decide +kernel
theorem dX5_number_66 : decode cX5_number 66 = .ok (.iconst 1, 1) := by decide +kernel
theorem dX5_number_67 : decode cX5_number 67 = .ok (.iconst 2, 1) := by decide +kernel
theorem dX5_number_68 : decode cX5_number 68 = .ok (.invokestatic 101, 3) := by decide +kernel
theorem dX5_number_71 : decode cX5_number 71 = .ok (.ireturn, 1) := by decide +kernel
theorem dX5_ends_0 : decode cX5_ends 0 = .ok (.aload_n 0, 1) := by decide +kernel
theorem dX5_ends_1 : decode cX5_ends 1 = .ok (.invokevirtual 262, 3) := by decide +kernel
theorem dX5_ends_4 : decode cX5_ends 4 = .ok (.aload_n 0, 1) := by decide +kernel
theorem dX5_ends_5 : decode cX5_ends 5 = .ok (.invokevirtual 256, 3) := by decide +kernel
theorem dX5_ends_8 : decode cX5_ends 8 = .ok (.bipush 59, 2) := by decide +kernel
theorem dX5_ends_10 : decode cX5_ends 10 = .ok (.if_icmp .eq 5, 3) := by decide +kernel
theorem dX5_ends_13 : decode cX5_ends 13 = .ok (.iconst 0, 1) := by decide +kernel
theorem dX5_ends_14 : decode cX5_ends 14 = .ok (.ireturn, 1) := by decide +kernel
theorem dX5_ends_15 : decode cX5_ends 15 = .ok (.aload_n 0, 1) := by decide +kernel
theorem dX5_ends_16 : decode cX5_ends 16 = .ok (.dup, 1) := by decide +kernel
theorem dX5_ends_17 : decode cX5_ends 17 = .ok (.getfield 253, 3) := by decide +kernel
theorem dX5_ends_20 : decode cX5_ends 20 = .ok (.iconst 1, 1) := by decide +kernel
theorem dX5_ends_21 : decode cX5_ends 21 = .ok (.iadd, 1) := by decide +kernel
theorem dX5_ends_22 : decode cX5_ends 22 = .ok (.putfield 253, 3) := by decide +kernel
theorem dX5_ends_25 : decode cX5_ends 25 = .ok (.iconst 1, 1) := by decide +kernel
theorem dX5_ends_26 : decode cX5_ends 26 = .ok (.ireturn, 1) := by decide +kernel
theorem dX5_readsBox_0 : decode cX5_readsBox 0 = .ok (.aload_n 0, 1) := by decide +kernel
theorem dX5_readsBox_1 : decode cX5_readsBox 1 = .ok (.invokevirtual 256, 3) := by decide +kernel
theorem dX5_readsBox_4 : decode cX5_readsBox 4 = .ok (.bipush 97, 2) := by decide +kernel
theorem dX5_readsBox_6 : decode cX5_readsBox 6 = .ok (.isub, 1) := by decide +kernel
theorem dX5_readsBox_7 : decode cX5_readsBox 7 = .ok (.istore_n 2, 1) := by decide +kernel
theorem dX5_readsBox_8 : decode cX5_readsBox 8 = .ok (.aload_n 0, 1) := by decide +kernel
theorem dX5_readsBox_9 : decode cX5_readsBox 9 = .ok (.dup, 1) := by decide +kernel
theorem dX5_readsBox_10 : decode cX5_readsBox 10 = .ok (.getfield 253, 3) := by decide +kernel
theorem dX5_readsBox_13 : decode cX5_readsBox 13 = .ok (.iconst 1, 1) := by decide +kernel
theorem dX5_readsBox_14 : decode cX5_readsBox 14 = .ok (.iadd, 1) := by decide +kernel
theorem dX5_readsBox_15 : decode cX5_readsBox 15 = .ok (.putfield 253, 3) := by decide +kernel
theorem dX5_readsBox_18 : decode cX5_readsBox 18 = .ok (.aload_n 0, 1) := by decide +kernel
theorem dX5_readsBox_19 : decode cX5_readsBox 19 = .ok (.invokevirtual 262, 3) := by decide +kernel
theorem dX5_readsBox_22 : decode cX5_readsBox 22 = .ok (.aload_n 0, 1) := by decide +kernel
theorem dX5_readsBox_23 : decode cX5_readsBox 23 = .ok (.invokevirtual 256, 3) := by decide +kernel
theorem dX5_readsBox_26 : decode cX5_readsBox 26 = .ok (.bipush 48, 2) := by decide +kernel
theorem dX5_readsBox_28 : decode cX5_readsBox 28 = .ok (.bipush 51, 2) := by decide +kernel
theorem dX5_readsBox_30 : decode cX5_readsBox 30 = .ok (.invokestatic 101, 3) := by decide +kernel
theorem dX5_readsBox_33 : decode cX5_readsBox 33 = .ok (.ifCond .ne 5, 3) := by decide +kernel
theorem dX5_readsBox_36 : decode cX5_readsBox 36 = .ok (.iconst 0, 1) := by decide +kernel
theorem dX5_readsBox_37 : decode cX5_readsBox 37 = .ok (.ireturn, 1) := by decide +kernel
theorem dX5_readsBox_38 : decode cX5_readsBox 38 = .ok (.aload_n 0, 1) := by decide +kernel
theorem dX5_readsBox_39 : decode cX5_readsBox 39 = .ok (.invokevirtual 256, 3) := by decide +kernel
theorem dX5_readsBox_42 : decode cX5_readsBox 42 = .ok (.bipush 48, 2) := by decide +kernel
theorem dX5_readsBox_44 : decode cX5_readsBox 44 = .ok (.isub, 1) := by decide +kernel
theorem dX5_readsBox_45 : decode cX5_readsBox 45 = .ok (.istore_n 3, 1) := by decide +kernel
theorem dX5_readsBox_46 : decode cX5_readsBox 46 = .ok (.aload_n 0, 1) := by decide +kernel
theorem dX5_readsBox_47 : decode cX5_readsBox 47 = .ok (.dup, 1) := by decide +kernel
theorem dX5_readsBox_48 : decode cX5_readsBox 48 = .ok (.getfield 253, 3) := by decide +kernel
theorem dX5_readsBox_51 : decode cX5_readsBox 51 = .ok (.iconst 1, 1) := by decide +kernel
theorem dX5_readsBox_52 : decode cX5_readsBox 52 = .ok (.iadd, 1) := by decide +kernel
theorem dX5_readsBox_53 : decode cX5_readsBox 53 = .ok (.putfield 253, 3) := by decide +kernel
theorem dX5_readsBox_56 : decode cX5_readsBox 56 = .ok (.aload_n 0, 1) := by decide +kernel
theorem dX5_readsBox_57 : decode cX5_readsBox 57 = .ok (.invokevirtual 262, 3) := by decide +kernel
theorem dX5_readsBox_60 : decode cX5_readsBox 60 = .ok (.aload_n 0, 1) := by decide +kernel
theorem dX5_readsBox_61 : decode cX5_readsBox 61 = .ok (.invokevirtual 256, 3) := by decide +kernel
theorem dX5_readsBox_64 : decode cX5_readsBox 64 = .ok (.bipush 61, 2) := by decide +kernel
theorem dX5_readsBox_66 : decode cX5_readsBox 66 = .ok (.if_icmp .ne 7, 3) := by decide +kernel
theorem dX5_readsBox_69 : decode cX5_readsBox 69 = .ok (.iconst 1, 1) := by decide +kernel
theorem dX5_readsBox_70 : decode cX5_readsBox 70 = .ok (.goto 4, 3) := by decide +kernel
theorem dX5_readsBox_73 : decode cX5_readsBox 73 = .ok (.iconst 0, 1) := by decide +kernel
theorem dX5_readsBox_74 : decode cX5_readsBox 74 = .ok (.istore 4, 2) := by decide +kernel
theorem dX5_readsBox_76 : decode cX5_readsBox 76 = .ok (.iload 4, 2) := by decide +kernel
theorem dX5_readsBox_78 : decode cX5_readsBox 78 = .ok (.ifCond .eq 22, 3) := by decide +kernel
theorem dX5_readsBox_81 : decode cX5_readsBox 81 = .ok (.aload_n 0, 1) := by decide +kernel
theorem dX5_readsBox_82 : decode cX5_readsBox 82 = .ok (.dup, 1) := by decide +kernel
theorem dX5_readsBox_83 : decode cX5_readsBox 83 = .ok (.getfield 253, 3) := by decide +kernel
theorem dX5_readsBox_86 : decode cX5_readsBox 86 = .ok (.iconst 1, 1) := by decide +kernel
theorem dX5_readsBox_87 : decode cX5_readsBox 87 = .ok (.iadd, 1) := by decide +kernel
theorem dX5_readsBox_88 : decode cX5_readsBox 88 = .ok (.putfield 253, 3) := by decide +kernel
theorem dX5_readsBox_91 : decode cX5_readsBox 91 = .ok (.aload_n 0, 1) := by decide +kernel
theorem dX5_readsBox_92 : decode cX5_readsBox 92 = .ok (.invokevirtual 268, 3) := by decide +kernel
theorem dX5_readsBox_95 : decode cX5_readsBox 95 = .ok (.ifCond .ne 5, 3) := by decide +kernel
theorem dX5_readsBox_98 : decode cX5_readsBox 98 = .ok (.iconst 0, 1) := by decide +kernel
theorem dX5_readsBox_99 : decode cX5_readsBox 99 = .ok (.ireturn, 1) := by decide +kernel
theorem dX5_readsBox_100 : decode cX5_readsBox 100 = .ok (.iload 4, 2) := by decide +kernel
theorem dX5_readsBox_102 : decode cX5_readsBox 102 = .ok (.ifCond .eq 10, 3) := by decide +kernel
theorem dX5_readsBox_105 : decode cX5_readsBox 105 = .ok (.aload_n 0, 1) := by decide +kernel
theorem dX5_readsBox_106 : decode cX5_readsBox 106 = .ok (.getfield 265, 3) := by decide +kernel
theorem dX5_readsBox_109 : decode cX5_readsBox 109 = .ok (.goto 4, 3) := by decide +kernel
theorem dX5_readsBox_112 : decode cX5_readsBox 112 = .ok (.iconst 0, 1) := by decide +kernel
theorem dX5_readsBox_113 : decode cX5_readsBox 113 = .ok (.istore 5, 2) := by decide +kernel
theorem dX5_readsBox_115 : decode cX5_readsBox 115 = .ok (.aload_n 0, 1) := by decide +kernel
theorem dX5_readsBox_116 : decode cX5_readsBox 116 = .ok (.invokevirtual 272, 3) := by decide +kernel
theorem dX5_readsBox_119 : decode cX5_readsBox 119 = .ok (.ifCond .ne 5, 3) := by decide +kernel
theorem dX5_readsBox_122 : decode cX5_readsBox 122 = .ok (.iconst 0, 1) := by decide +kernel
theorem dX5_readsBox_123 : decode cX5_readsBox 123 = .ok (.ireturn, 1) := by decide +kernel
theorem dX5_readsBox_124 : decode cX5_readsBox 124 = .ok (.iload_n 1, 1) := by decide +kernel
theorem dX5_readsBox_125 : decode cX5_readsBox 125 = .ok (.ifCond .eq 22, 3) := by decide +kernel
theorem dX5_readsBox_128 : decode cX5_readsBox 128 = .ok (.aload_n 0, 1) := by decide +kernel
theorem dX5_readsBox_129 : decode cX5_readsBox 129 = .ok (.iload 4, 2) := by decide +kernel
theorem dX5_readsBox_131 : decode cX5_readsBox 131 = .ok (.ifCond .eq 7, 3) := by decide +kernel
theorem dX5_readsBox_134 : decode cX5_readsBox 134 = .ok (.iconst 1, 1) := by decide +kernel
theorem dX5_readsBox_135 : decode cX5_readsBox 135 = .ok (.goto 4, 3) := by decide +kernel
theorem dX5_readsBox_138 : decode cX5_readsBox 138 = .ok (.iconst 0, 1) := by decide +kernel
theorem dX5_readsBox_139 : decode cX5_readsBox 139 = .ok (.iload_n 2, 1) := by decide +kernel
theorem dX5_readsBox_140 : decode cX5_readsBox 140 = .ok (.iload_n 3, 1) := by decide +kernel
theorem dX5_readsBox_141 : decode cX5_readsBox 141 = .ok (.iload 5, 2) := by decide +kernel
theorem dX5_readsBox_143 : decode cX5_readsBox 143 = .ok (.invokevirtual 203, 3) := by decide +kernel
theorem dX5_readsBox_146 : decode cX5_readsBox 146 = .ok (.pop, 1) := by decide +kernel
theorem dX5_readsBox_147 : decode cX5_readsBox 147 = .ok (.iconst 1, 1) := by decide +kernel
theorem dX5_readsBox_148 : decode cX5_readsBox 148 = .ok (.ireturn, 1) := by decide +kernel
theorem dX5_readsOrder_0 : decode cX5_readsOrder 0 = .ok (.aload_n 0, 1) := by decide +kernel
theorem dX5_readsOrder_1 : decode cX5_readsOrder 1 = .ok (.invokevirtual 262, 3) := by decide +kernel
theorem dX5_readsOrder_4 : decode cX5_readsOrder 4 = .ok (.aload_n 0, 1) := by decide +kernel
theorem dX5_readsOrder_5 : decode cX5_readsOrder 5 = .ok (.invokevirtual 256, 3) := by decide +kernel
theorem dX5_readsOrder_8 : decode cX5_readsOrder 8 = .ok (.istore_n 2, 1) := by decide +kernel
theorem dX5_readsOrder_9 : decode cX5_readsOrder 9 = .ok (.iload_n 2, 1) := by decide +kernel
theorem dX5_readsOrder_10 : decode cX5_readsOrder 10 = .ok (.bipush 97, 2) := by decide +kernel
theorem dX5_readsOrder_12 : decode cX5_readsOrder 12 = .ok (.bipush 112, 2) := by decide +kernel
theorem dX5_readsOrder_14 : decode cX5_readsOrder 14 = .ok (.invokestatic 101, 3) := by decide +kernel
theorem dX5_readsOrder_17 : decode cX5_readsOrder 17 = .ok (.ifCond .eq 9, 3) := by decide +kernel
theorem dX5_readsOrder_20 : decode cX5_readsOrder 20 = .ok (.aload_n 0, 1) := by decide +kernel
theorem dX5_readsOrder_21 : decode cX5_readsOrder 21 = .ok (.iload_n 1, 1) := by decide +kernel
theorem dX5_readsOrder_22 : decode cX5_readsOrder 22 = .ok (.invokevirtual 275, 3) := by decide +kernel
theorem dX5_readsOrder_25 : decode cX5_readsOrder 25 = .ok (.ireturn, 1) := by decide +kernel
theorem dX5_readsOrder_26 : decode cX5_readsOrder 26 = .ok (.iload_n 2, 1) := by decide +kernel
theorem dX5_readsOrder_27 : decode cX5_readsOrder 27 = .ok (.bipush 33, 2) := by decide +kernel
theorem dX5_readsOrder_29 : decode cX5_readsOrder 29 = .ok (.if_icmp .ne 37, 3) := by decide +kernel
theorem dX5_readsOrder_32 : decode cX5_readsOrder 32 = .ok (.aload_n 0, 1) := by decide +kernel
theorem dX5_readsOrder_33 : decode cX5_readsOrder 33 = .ok (.dup, 1) := by decide +kernel
theorem dX5_readsOrder_34 : decode cX5_readsOrder 34 = .ok (.getfield 253, 3) := by decide +kernel
theorem dX5_readsOrder_37 : decode cX5_readsOrder 37 = .ok (.iconst 1, 1) := by decide +kernel
theorem dX5_readsOrder_38 : decode cX5_readsOrder 38 = .ok (.iadd, 1) := by decide +kernel
theorem dX5_readsOrder_39 : decode cX5_readsOrder 39 = .ok (.putfield 253, 3) := by decide +kernel
theorem dX5_readsOrder_42 : decode cX5_readsOrder 42 = .ok (.aload_n 0, 1) := by decide +kernel
theorem dX5_readsOrder_43 : decode cX5_readsOrder 43 = .ok (.invokevirtual 272, 3) := by decide +kernel
theorem dX5_readsOrder_46 : decode cX5_readsOrder 46 = .ok (.ifCond .ne 5, 3) := by decide +kernel
theorem dX5_readsOrder_49 : decode cX5_readsOrder 49 = .ok (.iconst 0, 1) := by decide +kernel
theorem dX5_readsOrder_50 : decode cX5_readsOrder 50 = .ok (.ireturn, 1) := by decide +kernel
theorem dX5_readsOrder_51 : decode cX5_readsOrder 51 = .ok (.iload_n 1, 1) := by decide +kernel
theorem dX5_readsOrder_52 : decode cX5_readsOrder 52 = .ok (.ifCond .eq 12, 3) := by decide +kernel
theorem dX5_readsOrder_55 : decode cX5_readsOrder 55 = .ok (.aload_n 0, 1) := by decide +kernel
theorem dX5_readsOrder_56 : decode cX5_readsOrder 56 = .ok (.iconst 2, 1) := by decide +kernel
theorem dX5_readsOrder_57 : decode cX5_readsOrder 57 = .ok (.iconst 0, 1) := by decide +kernel
theorem dX5_readsOrder_58 : decode cX5_readsOrder 58 = .ok (.iconst 0, 1) := by decide +kernel
theorem dX5_readsOrder_59 : decode cX5_readsOrder 59 = .ok (.iconst 0, 1) := by decide +kernel
theorem dX5_readsOrder_60 : decode cX5_readsOrder 60 = .ok (.invokevirtual 203, 3) := by decide +kernel
theorem dX5_readsOrder_63 : decode cX5_readsOrder 63 = .ok (.pop, 1) := by decide +kernel
theorem dX5_readsOrder_64 : decode cX5_readsOrder 64 = .ok (.iconst 1, 1) := by decide +kernel
theorem dX5_readsOrder_65 : decode cX5_readsOrder 65 = .ok (.ireturn, 1) := by decide +kernel
theorem dX5_readsOrder_66 : decode cX5_readsOrder 66 = .ok (.iload_n 2, 1) := by decide +kernel
theorem dX5_readsOrder_67 : decode cX5_readsOrder 67 = .ok (.bipush 35, 2) := by decide +kernel
theorem dX5_readsOrder_69 : decode cX5_readsOrder 69 = .ok (.if_icmp .eq 5, 3) := by decide +kernel
theorem dX5_readsOrder_72 : decode cX5_readsOrder 72 = .ok (.iconst 0, 1) := by decide +kernel
theorem dX5_readsOrder_73 : decode cX5_readsOrder 73 = .ok (.ireturn, 1) := by decide +kernel
theorem dX5_readsOrder_74 : decode cX5_readsOrder 74 = .ok (.aload_n 0, 1) := by decide +kernel
theorem dX5_readsOrder_75 : decode cX5_readsOrder 75 = .ok (.dup, 1) := by decide +kernel
theorem dX5_readsOrder_76 : decode cX5_readsOrder 76 = .ok (.getfield 253, 3) := by decide +kernel
theorem dX5_readsOrder_79 : decode cX5_readsOrder 79 = .ok (.iconst 1, 1) := by decide +kernel
theorem dX5_readsOrder_80 : decode cX5_readsOrder 80 = .ok (.iadd, 1) := by decide +kernel
theorem dX5_readsOrder_81 : decode cX5_readsOrder 81 = .ok (.putfield 253, 3) := by decide +kernel
theorem dX5_readsOrder_84 : decode cX5_readsOrder 84 = .ok (.aload_n 0, 1) := by decide +kernel
theorem dX5_readsOrder_85 : decode cX5_readsOrder 85 = .ok (.invokevirtual 268, 3) := by decide +kernel
theorem dX5_readsOrder_88 : decode cX5_readsOrder 88 = .ok (.ifCond .ne 5, 3) := by decide +kernel
theorem dX5_readsOrder_91 : decode cX5_readsOrder 91 = .ok (.iconst 0, 1) := by decide +kernel
theorem dX5_readsOrder_92 : decode cX5_readsOrder 92 = .ok (.ireturn, 1) := by decide +kernel
theorem dX5_readsOrder_93 : decode cX5_readsOrder 93 = .ok (.aload_n 0, 1) := by decide +kernel
theorem dX5_readsOrder_94 : decode cX5_readsOrder 94 = .ok (.getfield 265, 3) := by decide +kernel
theorem dX5_readsOrder_97 : decode cX5_readsOrder 97 = .ok (.istore_n 3, 1) := by decide +kernel
theorem dX5_readsOrder_98 : decode cX5_readsOrder 98 = .ok (.aload_n 0, 1) := by decide +kernel
theorem dX5_readsOrder_99 : decode cX5_readsOrder 99 = .ok (.invokevirtual 272, 3) := by decide +kernel
theorem dX5_readsOrder_102 : decode cX5_readsOrder 102 = .ok (.ifCond .ne 5, 3) := by decide +kernel
theorem dX5_readsOrder_105 : decode cX5_readsOrder 105 = .ok (.iconst 0, 1) := by decide +kernel
theorem dX5_readsOrder_106 : decode cX5_readsOrder 106 = .ok (.ireturn, 1) := by decide +kernel
theorem dX5_readsOrder_107 : decode cX5_readsOrder 107 = .ok (.iconst 0, 1) := by decide +kernel
theorem dX5_readsOrder_108 : decode cX5_readsOrder 108 = .ok (.istore 4, 2) := by decide +kernel
theorem dX5_readsOrder_110 : decode cX5_readsOrder 110 = .ok (.iload 4, 2) := by decide +kernel
theorem dX5_readsOrder_112 : decode cX5_readsOrder 112 = .ok (.iload_n 3, 1) := by decide +kernel
theorem dX5_readsOrder_113 : decode cX5_readsOrder 113 = .ok (.if_icmp .ge 17, 3) := by decide +kernel
theorem dX5_readsOrder_116 : decode cX5_readsOrder 116 = .ok (.iload_n 1, 1) := by decide +kernel
theorem dX5_readsOrder_117 : decode cX5_readsOrder 117 = .ok (.ifCond .eq 13, 3) := by decide +kernel
theorem dX5_readsOrder_120 : decode cX5_readsOrder 120 = .ok (.aload_n 0, 1) := by decide +kernel
theorem dX5_readsOrder_121 : decode cX5_readsOrder 121 = .ok (.invokevirtual 188, 3) := by decide +kernel
theorem dX5_readsOrder_124 : decode cX5_readsOrder 124 = .ok (.iinc 4 1, 3) := by decide +kernel
theorem dX5_readsOrder_127 : decode cX5_readsOrder 127 = .ok (.goto (-17), 3) := by decide +kernel
theorem dX5_readsOrder_130 : decode cX5_readsOrder 130 = .ok (.iconst 1, 1) := by decide +kernel
theorem dX5_readsOrder_131 : decode cX5_readsOrder 131 = .ok (.ireturn, 1) := by decide +kernel
theorem dX5_goesThrough_0 : decode cX5_goesThrough 0 = .ok (.aload_n 0, 1) := by decide +kernel
theorem dX5_goesThrough_1 : decode cX5_goesThrough 1 = .ok (.iconst 0, 1) := by decide +kernel
theorem dX5_goesThrough_2 : decode cX5_goesThrough 2 = .ok (.putfield 253, 3) := by decide +kernel
theorem dX5_goesThrough_5 : decode cX5_goesThrough 5 = .ok (.aload_n 0, 1) := by decide +kernel
theorem dX5_goesThrough_6 : decode cX5_goesThrough 6 = .ok (.invokevirtual 262, 3) := by decide +kernel
theorem dX5_goesThrough_9 : decode cX5_goesThrough 9 = .ok (.aload_n 0, 1) := by decide +kernel
theorem dX5_goesThrough_10 : decode cX5_goesThrough 10 = .ok (.getfield 253, 3) := by decide +kernel
theorem dX5_goesThrough_13 : decode cX5_goesThrough 13 = .ok (.aload_n 0, 1) := by decide +kernel
theorem dX5_goesThrough_14 : decode cX5_goesThrough 14 = .ok (.getfield 250, 3) := by decide +kernel
theorem dX5_goesThrough_17 : decode cX5_goesThrough 17 = .ok (.if_icmp .ne 11, 3) := by decide +kernel
theorem dX5_goesThrough_20 : decode cX5_goesThrough 20 = .ok (.bipush (-10), 2) := by decide +kernel
theorem dX5_goesThrough_22 : decode cX5_goesThrough 22 = .ok (.aload_n 0, 1) := by decide +kernel
theorem dX5_goesThrough_23 : decode cX5_goesThrough 23 = .ok (.getfield 250, 3) := by decide +kernel
theorem dX5_goesThrough_26 : decode cX5_goesThrough 26 = .ok (.isub, 1) := by decide +kernel
theorem dX5_goesThrough_27 : decode cX5_goesThrough 27 = .ok (.ireturn, 1) := by decide +kernel
theorem dX5_goesThrough_28 : decode cX5_goesThrough 28 = .ok (.aload_n 0, 1) := by decide +kernel
theorem dX5_goesThrough_29 : decode cX5_goesThrough 29 = .ok (.getfield 253, 3) := by decide +kernel
theorem dX5_goesThrough_32 : decode cX5_goesThrough 32 = .ok (.aload_n 0, 1) := by decide +kernel
theorem dX5_goesThrough_33 : decode cX5_goesThrough 33 = .ok (.getfield 250, 3) := by decide +kernel
theorem dX5_goesThrough_36 : decode cX5_goesThrough 36 = .ok (.if_icmp .ge 26, 3) := by decide +kernel
theorem dX5_goesThrough_39 : decode cX5_goesThrough 39 = .ok (.aload_n 0, 1) := by decide +kernel
theorem dX5_goesThrough_40 : decode cX5_goesThrough 40 = .ok (.iload_n 1, 1) := by decide +kernel
theorem dX5_goesThrough_41 : decode cX5_goesThrough 41 = .ok (.invokevirtual 279, 3) := by decide +kernel
theorem dX5_goesThrough_44 : decode cX5_goesThrough 44 = .ok (.ifCond .ne 11, 3) := by decide +kernel
theorem dX5_goesThrough_47 : decode cX5_goesThrough 47 = .ok (.bipush (-10), 2) := by decide +kernel
theorem dX5_goesThrough_49 : decode cX5_goesThrough 49 = .ok (.aload_n 0, 1) := by decide +kernel
theorem dX5_goesThrough_50 : decode cX5_goesThrough 50 = .ok (.getfield 259, 3) := by decide +kernel
theorem dX5_goesThrough_53 : decode cX5_goesThrough 53 = .ok (.isub, 1) := by decide +kernel
theorem dX5_goesThrough_54 : decode cX5_goesThrough 54 = .ok (.ireturn, 1) := by decide +kernel
theorem dX5_goesThrough_55 : decode cX5_goesThrough 55 = .ok (.aload_n 0, 1) := by decide +kernel
theorem dX5_goesThrough_56 : decode cX5_goesThrough 56 = .ok (.invokevirtual 262, 3) := by decide +kernel
theorem dX5_goesThrough_59 : decode cX5_goesThrough 59 = .ok (.goto (-31), 3) := by decide +kernel
theorem dX5_goesThrough_62 : decode cX5_goesThrough 62 = .ok (.iconst 0, 1) := by decide +kernel
theorem dX5_goesThrough_63 : decode cX5_goesThrough 63 = .ok (.ireturn, 1) := by decide +kernel
theorem dX5_runs_0 : decode cX5_runs 0 = .ok (.aload_n 0, 1) := by decide +kernel
theorem dX5_runs_1 : decode cX5_runs 1 = .ok (.iconst 0, 1) := by decide +kernel
theorem dX5_runs_2 : decode cX5_runs 2 = .ok (.invokevirtual 282, 3) := by decide +kernel
theorem dX5_runs_5 : decode cX5_runs 5 = .ok (.istore_n 1, 1) := by decide +kernel
theorem dX5_runs_6 : decode cX5_runs 6 = .ok (.iload_n 1, 1) := by decide +kernel
theorem dX5_runs_7 : decode cX5_runs 7 = .ok (.ifCond .ge 5, 3) := by decide +kernel
theorem dX5_runs_10 : decode cX5_runs 10 = .ok (.iload_n 1, 1) := by decide +kernel
theorem dX5_runs_11 : decode cX5_runs 11 = .ok (.ireturn, 1) := by decide +kernel
theorem dX5_runs_12 : decode cX5_runs 12 = .ok (.aload_n 0, 1) := by decide +kernel
theorem dX5_runs_13 : decode cX5_runs 13 = .ok (.invokevirtual 134, 3) := by decide +kernel
theorem dX5_runs_16 : decode cX5_runs 16 = .ok (.aload_n 0, 1) := by decide +kernel
theorem dX5_runs_17 : decode cX5_runs 17 = .ok (.getfield 58, 3) := by decide +kernel
theorem dX5_runs_20 : decode cX5_runs 20 = .ok (.bipush 9, 2) := by decide +kernel
theorem dX5_runs_22 : decode cX5_runs 22 = .ok (.iaload, 1) := by decide +kernel
theorem dX5_runs_23 : decode cX5_runs 23 = .ok (.istore_n 2, 1) := by decide +kernel
theorem dX5_runs_24 : decode cX5_runs 24 = .ok (.aload_n 0, 1) := by decide +kernel
theorem dX5_runs_25 : decode cX5_runs 25 = .ok (.iconst 1, 1) := by decide +kernel
theorem dX5_runs_26 : decode cX5_runs 26 = .ok (.invokevirtual 282, 3) := by decide +kernel
theorem dX5_runs_29 : decode cX5_runs 29 = .ok (.pop, 1) := by decide +kernel
theorem dX5_runs_30 : decode cX5_runs 30 = .ok (.aload_n 0, 1) := by decide +kernel
theorem dX5_runs_31 : decode cX5_runs 31 = .ok (.getfield 58, 3) := by decide +kernel
theorem dX5_runs_34 : decode cX5_runs 34 = .ok (.bipush 9, 2) := by decide +kernel
theorem dX5_runs_36 : decode cX5_runs 36 = .ok (.iaload, 1) := by decide +kernel
theorem dX5_runs_37 : decode cX5_runs 37 = .ok (.iload_n 2, 1) := by decide +kernel
theorem dX5_runs_38 : decode cX5_runs 38 = .ok (.isub, 1) := by decide +kernel
theorem dX5_runs_39 : decode cX5_runs 39 = .ok (.ireturn, 1) := by decide +kernel
theorem dX5_ticksBy_0 : decode cX5_ticksBy 0 = .ok (.aload_n 0, 1) := by decide +kernel
theorem dX5_ticksBy_1 : decode cX5_ticksBy 1 = .ok (.getfield 13, 3) := by decide +kernel
theorem dX5_ticksBy_4 : decode cX5_ticksBy 4 = .ok (.iconst 2, 1) := by decide +kernel
theorem dX5_ticksBy_5 : decode cX5_ticksBy 5 = .ok (.iload_n 1, 1) := by decide +kernel
theorem dX5_ticksBy_6 : decode cX5_ticksBy 6 = .ok (.iastore, 1) := by decide +kernel
theorem dX5_ticksBy_7 : decode cX5_ticksBy 7 = .ok (.aload_n 0, 1) := by decide +kernel
theorem dX5_ticksBy_8 : decode cX5_ticksBy 8 = .ok (.invokevirtual 87, 3) := by decide +kernel
theorem dX5_ticksBy_11 : decode cX5_ticksBy 11 = .ok (.aload_n 0, 1) := by decide +kernel
theorem dX5_ticksBy_12 : decode cX5_ticksBy 12 = .ok (.iconst 1, 1) := by decide +kernel
theorem dX5_ticksBy_13 : decode cX5_ticksBy 13 = .ok (.invokevirtual 282, 3) := by decide +kernel
theorem dX5_ticksBy_16 : decode cX5_ticksBy 16 = .ok (.pop, 1) := by decide +kernel
theorem dX5_ticksBy_17 : decode cX5_ticksBy 17 = .ok (.aload_n 0, 1) := by decide +kernel
theorem dX5_ticksBy_18 : decode cX5_ticksBy 18 = .ok (.getfield 55, 3) := by decide +kernel
theorem dX5_ticksBy_21 : decode cX5_ticksBy 21 = .ok (.iconst 0, 1) := by decide +kernel
theorem dX5_ticksBy_22 : decode cX5_ticksBy 22 = .ok (.iaload, 1) := by decide +kernel
theorem dX5_ticksBy_23 : decode cX5_ticksBy 23 = .ok (.ifCond .le 10, 3) := by decide +kernel
theorem dX5_ticksBy_26 : decode cX5_ticksBy 26 = .ok (.aload_n 0, 1) := by decide +kernel
theorem dX5_ticksBy_27 : decode cX5_ticksBy 27 = .ok (.invokevirtual 188, 3) := by decide +kernel
theorem dX5_ticksBy_30 : decode cX5_ticksBy 30 = .ok (.goto (-13), 3) := by decide +kernel
theorem dX5_ticksBy_33 : decode cX5_ticksBy 33 = .ok (.aload_n 0, 1) := by decide +kernel
theorem dX5_ticksBy_34 : decode cX5_ticksBy 34 = .ok (.getfield 58, 3) := by decide +kernel
theorem dX5_ticksBy_37 : decode cX5_ticksBy 37 = .ok (.bipush 9, 2) := by decide +kernel
theorem dX5_ticksBy_39 : decode cX5_ticksBy 39 = .ok (.iaload, 1) := by decide +kernel
theorem dX5_ticksBy_40 : decode cX5_ticksBy 40 = .ok (.ireturn, 1) := by decide +kernel
theorem dX5_best_0 : decode cX5_best 0 = .ok (.iload_n 1, 1) := by decide +kernel
theorem dX5_best_1 : decode cX5_best 1 = .ok (.iconst 0, 1) := by decide +kernel
theorem dX5_best_2 : decode cX5_best 2 = .ok (.iconst 1, 1) := by decide +kernel
theorem dX5_best_3 : decode cX5_best 3 = .ok (.invokestatic 101, 3) := by decide +kernel
theorem dX5_best_6 : decode cX5_best 6 = .ok (.ifCond .ne 8, 3) := by decide +kernel
theorem dX5_best_9 : decode cX5_best 9 = .ok (.aload_n 0, 1) := by decide +kernel
theorem dX5_best_10 : decode cX5_best 10 = .ok (.invokevirtual 130, 3) := by decide +kernel
theorem dX5_best_13 : decode cX5_best 13 = .ok (.ireturn, 1) := by decide +kernel
theorem dX5_best_14 : decode cX5_best 14 = .ok (.aload_n 0, 1) := by decide +kernel
theorem dX5_best_15 : decode cX5_best 15 = .ok (.iconst 0, 1) := by decide +kernel
theorem dX5_best_16 : decode cX5_best 16 = .ok (.invokevirtual 282, 3) := by decide +kernel
theorem dX5_best_19 : decode cX5_best 19 = .ok (.istore_n 2, 1) := by decide +kernel
theorem dX5_best_20 : decode cX5_best 20 = .ok (.iload_n 2, 1) := by decide +kernel
theorem dX5_best_21 : decode cX5_best 21 = .ok (.ifCond .ge 5, 3) := by decide +kernel
theorem dX5_best_24 : decode cX5_best 24 = .ok (.iload_n 2, 1) := by decide +kernel
theorem dX5_best_25 : decode cX5_best 25 = .ok (.ireturn, 1) := by decide +kernel
theorem dX5_best_26 : decode cX5_best 26 = .ok (.aload_n 0, 1) := by decide +kernel
theorem dX5_best_27 : decode cX5_best 27 = .ok (.bipush 6, 2) := by decide +kernel
theorem dX5_best_29 : decode cX5_best 29 = .ok (.invokevirtual 119, 3) := by decide +kernel
theorem dX5_best_32 : decode cX5_best 32 = .ok (.iconst 1, 1) := by decide +kernel
theorem dX5_best_33 : decode cX5_best 33 = .ok (.istore_n 3, 1) := by decide +kernel
theorem dX5_best_34 : decode cX5_best 34 = .ok (.aload_n 0, 1) := by decide +kernel
theorem dX5_best_35 : decode cX5_best 35 = .ok (.iconst 1, 1) := by decide +kernel
theorem dX5_best_36 : decode cX5_best 36 = .ok (.invokevirtual 286, 3) := by decide +kernel
theorem dX5_best_39 : decode cX5_best 39 = .ok (.istore 4, 2) := by decide +kernel
theorem dX5_best_41 : decode cX5_best 41 = .ok (.iconst 2, 1) := by decide +kernel
theorem dX5_best_42 : decode cX5_best 42 = .ok (.istore 5, 2) := by decide +kernel
theorem dX5_best_44 : decode cX5_best 44 = .ok (.iload 5, 2) := by decide +kernel
theorem dX5_best_46 : decode cX5_best 46 = .ok (.iconst 4, 1) := by decide +kernel
theorem dX5_best_47 : decode cX5_best 47 = .ok (.if_icmp .gt 47, 3) := by decide +kernel
theorem dX5_best_50 : decode cX5_best 50 = .ok (.aload_n 0, 1) := by decide +kernel
theorem dX5_best_51 : decode cX5_best 51 = .ok (.iload 5, 2) := by decide +kernel
theorem dX5_best_53 : decode cX5_best 53 = .ok (.invokevirtual 286, 3) := by decide +kernel
theorem dX5_best_56 : decode cX5_best 56 = .ok (.istore 6, 2) := by decide +kernel
theorem dX5_best_58 : decode cX5_best 58 = .ok (.iload 6, 2) := by decide +kernel
theorem dX5_best_60 : decode cX5_best 60 = .ok (.iload 4, 2) := by decide +kernel
theorem dX5_best_62 : decode cX5_best 62 = .ok (.if_icmp .ge 8, 3) := by decide +kernel
theorem dX5_best_65 : decode cX5_best 65 = .ok (.iload 5, 2) := by decide +kernel
theorem dX5_best_67 : decode cX5_best 67 = .ok (.goto 4, 3) := by decide +kernel
theorem dX5_best_70 : decode cX5_best 70 = .ok (.iload_n 3, 1) := by decide +kernel
theorem dX5_best_71 : decode cX5_best 71 = .ok (.istore_n 3, 1) := by decide +kernel
theorem dX5_best_72 : decode cX5_best 72 = .ok (.iload 6, 2) := by decide +kernel
theorem dX5_best_74 : decode cX5_best 74 = .ok (.iload 4, 2) := by decide +kernel
theorem dX5_best_76 : decode cX5_best 76 = .ok (.if_icmp .ge 8, 3) := by decide +kernel
theorem dX5_best_79 : decode cX5_best 79 = .ok (.iload 6, 2) := by decide +kernel
theorem dX5_best_81 : decode cX5_best 81 = .ok (.goto 5, 3) := by decide +kernel
theorem dX5_best_84 : decode cX5_best 84 = .ok (.iload 4, 2) := by decide +kernel
theorem dX5_best_86 : decode cX5_best 86 = .ok (.istore 4, 2) := by decide +kernel
theorem dX5_best_88 : decode cX5_best 88 = .ok (.iinc 5 1, 3) := by decide +kernel
theorem dX5_best_91 : decode cX5_best 91 = .ok (.goto (-47), 3) := by decide +kernel
theorem dX5_best_94 : decode cX5_best 94 = .ok (.aload_n 0, 1) := by decide +kernel
theorem dX5_best_95 : decode cX5_best 95 = .ok (.bipush 6, 2) := by decide +kernel
theorem dX5_best_97 : decode cX5_best 97 = .ok (.invokevirtual 123, 3) := by decide +kernel
theorem dX5_best_100 : decode cX5_best 100 = .ok (.iload_n 1, 1) := by decide +kernel
theorem dX5_best_101 : decode cX5_best 101 = .ok (.ifCond .ne 7, 3) := by decide +kernel
theorem dX5_best_104 : decode cX5_best 104 = .ok (.iload_n 3, 1) := by decide +kernel
theorem dX5_best_105 : decode cX5_best 105 = .ok (.goto 5, 3) := by decide +kernel
theorem dX5_best_108 : decode cX5_best 108 = .ok (.iload 4, 2) := by decide +kernel
theorem dX5_best_110 : decode cX5_best 110 = .ok (.ireturn, 1) := by decide +kernel
theorem dX5_toldBy_0 : decode cX5_toldBy 0 = .ok (.iload_n 1, 1) := by decide +kernel
theorem dX5_toldBy_1 : decode cX5_toldBy 1 = .ok (.iconst 3, 1) := by decide +kernel
theorem dX5_toldBy_2 : decode cX5_toldBy 2 = .ok (.if_icmp .ge 12, 3) := by decide +kernel
theorem dX5_toldBy_5 : decode cX5_toldBy 5 = .ok (.aload_n 0, 1) := by decide +kernel
theorem dX5_toldBy_6 : decode cX5_toldBy 6 = .ok (.getfield 1, 3) := by decide +kernel
theorem dX5_toldBy_9 : decode cX5_toldBy 9 = .ok (.iload_n 1, 1) := by decide +kernel
theorem dX5_toldBy_10 : decode cX5_toldBy 10 = .ok (.iaload, 1) := by decide +kernel
theorem dX5_toldBy_11 : decode cX5_toldBy 11 = .ok (.goto 36, 3) := by decide +kernel
theorem dX5_toldBy_14 : decode cX5_toldBy 14 = .ok (.iload_n 1, 1) := by decide +kernel
theorem dX5_toldBy_15 : decode cX5_toldBy 15 = .ok (.iconst 3, 1) := by decide +kernel
theorem dX5_toldBy_16 : decode cX5_toldBy 16 = .ok (.if_icmp .ne 10, 3) := by decide +kernel
theorem dX5_toldBy_19 : decode cX5_toldBy 19 = .ok (.aload_n 0, 1) := by decide +kernel
theorem dX5_toldBy_20 : decode cX5_toldBy 20 = .ok (.getfield 250, 3) := by decide +kernel
theorem dX5_toldBy_23 : decode cX5_toldBy 23 = .ok (.goto 24, 3) := by decide +kernel
theorem dX5_toldBy_26 : decode cX5_toldBy 26 = .ok (.iload_n 1, 1) := by decide +kernel
theorem dX5_toldBy_27 : decode cX5_toldBy 27 = .ok (.bipush 9, 2) := by decide +kernel
theorem dX5_toldBy_29 : decode cX5_toldBy 29 = .ok (.if_icmp .ne 10, 3) := by decide +kernel
theorem dX5_toldBy_32 : decode cX5_toldBy 32 = .ok (.aload_n 0, 1) := by decide +kernel
theorem dX5_toldBy_33 : decode cX5_toldBy 33 = .ok (.getfield 116, 3) := by decide +kernel
theorem dX5_toldBy_36 : decode cX5_toldBy 36 = .ok (.goto 11, 3) := by decide +kernel
theorem dX5_toldBy_39 : decode cX5_toldBy 39 = .ok (.aload_n 0, 1) := by decide +kernel
theorem dX5_toldBy_40 : decode cX5_toldBy 40 = .ok (.getfield 13, 3) := by decide +kernel
theorem dX5_toldBy_43 : decode cX5_toldBy 43 = .ok (.iload_n 1, 1) := by decide +kernel
theorem dX5_toldBy_44 : decode cX5_toldBy 44 = .ok (.iconst 4, 1) := by decide +kernel
theorem dX5_toldBy_45 : decode cX5_toldBy 45 = .ok (.isub, 1) := by decide +kernel
theorem dX5_toldBy_46 : decode cX5_toldBy 46 = .ok (.iaload, 1) := by decide +kernel
theorem dX5_toldBy_47 : decode cX5_toldBy 47 = .ok (.ireturn, 1) := by decide +kernel
theorem dX5_told_0 : decode cX5_told 0 = .ok (.iload_n 1, 1) := by decide +kernel
theorem dX5_told_1 : decode cX5_told 1 = .ok (.iconst 0, 1) := by decide +kernel
theorem dX5_told_2 : decode cX5_told 2 = .ok (.bipush 9, 2) := by decide +kernel
theorem dX5_told_4 : decode cX5_told 4 = .ok (.invokestatic 101, 3) := by decide +kernel
theorem dX5_told_7 : decode cX5_told 7 = .ok (.ifCond .eq 11, 3) := by decide +kernel
theorem dX5_told_10 : decode cX5_told 10 = .ok (.aload_n 0, 1) := by decide +kernel
theorem dX5_told_11 : decode cX5_told 11 = .ok (.iload_n 1, 1) := by decide +kernel
theorem dX5_told_12 : decode cX5_told 12 = .ok (.invokevirtual 289, 3) := by decide +kernel
theorem dX5_told_15 : decode cX5_told 15 = .ok (.goto 7, 3) := by decide +kernel
theorem dX5_told_18 : decode cX5_told 18 = .ok (.aload_n 0, 1) := by decide +kernel
theorem dX5_told_19 : decode cX5_told 19 = .ok (.invokevirtual 130, 3) := by decide +kernel
theorem dX5_told_22 : decode cX5_told 22 = .ok (.ireturn, 1) := by decide +kernel
theorem dX5_digest_0 : decode cX5_digest 0 = .ok (.ldc2_w 292, 3) := by decide +kernel
theorem dX5_digest_3 : decode cX5_digest 3 = .ok (.lstore_n 1, 1) := by decide +kernel
theorem dX5_digest_4 : decode cX5_digest 4 = .ok (.iconst 0, 1) := by decide +kernel
theorem dX5_digest_5 : decode cX5_digest 5 = .ok (.istore_n 3, 1) := by decide +kernel
theorem dX5_digest_6 : decode cX5_digest 6 = .ok (.iload_n 3, 1) := by decide +kernel
theorem dX5_digest_7 : decode cX5_digest 7 = .ok (.bipush 10, 2) := by decide +kernel
theorem dX5_digest_9 : decode cX5_digest 9 = .ok (.if_icmp .ge 22, 3) := by decide +kernel
theorem dX5_digest_12 : decode cX5_digest 12 = .ok (.ldc2_w 294, 3) := by decide +kernel
theorem dX5_digest_15 : decode cX5_digest 15 = .ok (.lload_n 1, 1) := by decide +kernel
theorem dX5_digest_16 : decode cX5_digest 16 = .ok (.lmul, 1) := by decide +kernel
theorem dX5_digest_17 : decode cX5_digest 17 = .ok (.aload_n 0, 1) := by decide +kernel
theorem dX5_digest_18 : decode cX5_digest 18 = .ok (.iload_n 3, 1) := by decide +kernel
theorem dX5_digest_19 : decode cX5_digest 19 = .ok (.invokevirtual 289, 3) := by decide +kernel
theorem dX5_digest_22 : decode cX5_digest 22 = .ok (.i2l, 1) := by decide +kernel
theorem dX5_digest_23 : decode cX5_digest 23 = .ok (.ladd, 1) := by decide +kernel
theorem dX5_digest_24 : decode cX5_digest 24 = .ok (.lstore_n 1, 1) := by decide +kernel
theorem dX5_digest_25 : decode cX5_digest 25 = .ok (.iinc 3 1, 3) := by decide +kernel
theorem dX5_digest_28 : decode cX5_digest 28 = .ok (.goto (-22), 3) := by decide +kernel
theorem dX5_digest_31 : decode cX5_digest 31 = .ok (.iconst 0, 1) := by decide +kernel
theorem dX5_digest_32 : decode cX5_digest 32 = .ok (.istore_n 3, 1) := by decide +kernel
theorem dX5_digest_33 : decode cX5_digest 33 = .ok (.iload_n 3, 1) := by decide +kernel
theorem dX5_digest_34 : decode cX5_digest 34 = .ok (.bipush 10, 2) := by decide +kernel
theorem dX5_digest_36 : decode cX5_digest 36 = .ok (.if_icmp .ge 23, 3) := by decide +kernel
theorem dX5_digest_39 : decode cX5_digest 39 = .ok (.ldc2_w 294, 3) := by decide +kernel
theorem dX5_digest_42 : decode cX5_digest 42 = .ok (.lload_n 1, 1) := by decide +kernel
theorem dX5_digest_43 : decode cX5_digest 43 = .ok (.lmul, 1) := by decide +kernel
theorem dX5_digest_44 : decode cX5_digest 44 = .ok (.aload_n 0, 1) := by decide +kernel
theorem dX5_digest_45 : decode cX5_digest 45 = .ok (.getfield 58, 3) := by decide +kernel
theorem dX5_digest_48 : decode cX5_digest 48 = .ok (.iload_n 3, 1) := by decide +kernel
theorem dX5_digest_49 : decode cX5_digest 49 = .ok (.iaload, 1) := by decide +kernel
theorem dX5_digest_50 : decode cX5_digest 50 = .ok (.i2l, 1) := by decide +kernel
theorem dX5_digest_51 : decode cX5_digest 51 = .ok (.ladd, 1) := by decide +kernel
theorem dX5_digest_52 : decode cX5_digest 52 = .ok (.lstore_n 1, 1) := by decide +kernel
theorem dX5_digest_53 : decode cX5_digest 53 = .ok (.iinc 3 1, 3) := by decide +kernel
theorem dX5_digest_56 : decode cX5_digest 56 = .ok (.goto (-23), 3) := by decide +kernel
theorem dX5_digest_59 : decode cX5_digest 59 = .ok (.iconst 0, 1) := by decide +kernel
theorem dX5_digest_60 : decode cX5_digest 60 = .ok (.istore_n 3, 1) := by decide +kernel
theorem dX5_digest_61 : decode cX5_digest 61 = .ok (.iload_n 3, 1) := by decide +kernel
theorem dX5_digest_62 : decode cX5_digest 62 = .ok (.bipush 64, 2) := by decide +kernel
theorem dX5_digest_64 : decode cX5_digest 64 = .ok (.if_icmp .ge 23, 3) := by decide +kernel
theorem dX5_digest_67 : decode cX5_digest 67 = .ok (.ldc2_w 294, 3) := by decide +kernel
theorem dX5_digest_70 : decode cX5_digest 70 = .ok (.lload_n 1, 1) := by decide +kernel
theorem dX5_digest_71 : decode cX5_digest 71 = .ok (.lmul, 1) := by decide +kernel
theorem dX5_digest_72 : decode cX5_digest 72 = .ok (.aload_n 0, 1) := by decide +kernel
theorem dX5_digest_73 : decode cX5_digest 73 = .ok (.getfield 16, 3) := by decide +kernel
theorem dX5_digest_76 : decode cX5_digest 76 = .ok (.iload_n 3, 1) := by decide +kernel
theorem dX5_digest_77 : decode cX5_digest 77 = .ok (.iaload, 1) := by decide +kernel
theorem dX5_digest_78 : decode cX5_digest 78 = .ok (.i2l, 1) := by decide +kernel
theorem dX5_digest_79 : decode cX5_digest 79 = .ok (.ladd, 1) := by decide +kernel
theorem dX5_digest_80 : decode cX5_digest 80 = .ok (.lstore_n 1, 1) := by decide +kernel
theorem dX5_digest_81 : decode cX5_digest 81 = .ok (.iinc 3 1, 3) := by decide +kernel
theorem dX5_digest_84 : decode cX5_digest 84 = .ok (.goto (-23), 3) := by decide +kernel
theorem dX5_digest_87 : decode cX5_digest 87 = .ok (.iconst 0, 1) := by decide +kernel
theorem dX5_digest_88 : decode cX5_digest 88 = .ok (.istore_n 3, 1) := by decide +kernel
theorem dX5_digest_89 : decode cX5_digest 89 = .ok (.iload_n 3, 1) := by decide +kernel
theorem dX5_digest_90 : decode cX5_digest 90 = .ok (.bipush 16, 2) := by decide +kernel
theorem dX5_digest_92 : decode cX5_digest 92 = .ok (.if_icmp .ge 23, 3) := by decide +kernel
theorem dX5_digest_95 : decode cX5_digest 95 = .ok (.ldc2_w 294, 3) := by decide +kernel
theorem dX5_digest_98 : decode cX5_digest 98 = .ok (.lload_n 1, 1) := by decide +kernel
theorem dX5_digest_99 : decode cX5_digest 99 = .ok (.lmul, 1) := by decide +kernel
theorem dX5_digest_100 : decode cX5_digest 100 = .ok (.aload_n 0, 1) := by decide +kernel
theorem dX5_digest_101 : decode cX5_digest 101 = .ok (.getfield 25, 3) := by decide +kernel
theorem dX5_digest_104 : decode cX5_digest 104 = .ok (.iload_n 3, 1) := by decide +kernel
theorem dX5_digest_105 : decode cX5_digest 105 = .ok (.iaload, 1) := by decide +kernel
theorem dX5_digest_106 : decode cX5_digest 106 = .ok (.i2l, 1) := by decide +kernel
theorem dX5_digest_107 : decode cX5_digest 107 = .ok (.ladd, 1) := by decide +kernel
theorem dX5_digest_108 : decode cX5_digest 108 = .ok (.lstore_n 1, 1) := by decide +kernel
theorem dX5_digest_109 : decode cX5_digest 109 = .ok (.iinc 3 1, 3) := by decide +kernel
theorem dX5_digest_112 : decode cX5_digest 112 = .ok (.goto (-23), 3) := by decide +kernel
theorem dX5_digest_115 : decode cX5_digest 115 = .ok (.ldc2_w 294, 3) := by decide +kernel
theorem dX5_digest_118 : decode cX5_digest 118 = .ok (.lload_n 1, 1) := by decide +kernel
theorem dX5_digest_119 : decode cX5_digest 119 = .ok (.lmul, 1) := by decide +kernel
theorem dX5_digest_120 : decode cX5_digest 120 = .ok (.aload_n 0, 1) := by decide +kernel
theorem dX5_digest_121 : decode cX5_digest 121 = .ok (.iconst 0, 1) := by decide +kernel
theorem dX5_digest_122 : decode cX5_digest 122 = .ok (.invokevirtual 296, 3) := by decide +kernel
theorem dX5_digest_125 : decode cX5_digest 125 = .ok (.i2l, 1) := by decide +kernel
theorem dX5_digest_126 : decode cX5_digest 126 = .ok (.ladd, 1) := by decide +kernel
theorem dX5_digest_127 : decode cX5_digest 127 = .ok (.lstore_n 1, 1) := by decide +kernel
theorem dX5_digest_128 : decode cX5_digest 128 = .ok (.ldc2_w 294, 3) := by decide +kernel
theorem dX5_digest_131 : decode cX5_digest 131 = .ok (.lload_n 1, 1) := by decide +kernel
theorem dX5_digest_132 : decode cX5_digest 132 = .ok (.lmul, 1) := by decide +kernel
theorem dX5_digest_133 : decode cX5_digest 133 = .ok (.aload_n 0, 1) := by decide +kernel
theorem dX5_digest_134 : decode cX5_digest 134 = .ok (.iconst 1, 1) := by decide +kernel
theorem dX5_digest_135 : decode cX5_digest 135 = .ok (.invokevirtual 296, 3) := by decide +kernel
theorem dX5_digest_138 : decode cX5_digest 138 = .ok (.i2l, 1) := by decide +kernel
theorem dX5_digest_139 : decode cX5_digest 139 = .ok (.ladd, 1) := by decide +kernel
theorem dX5_digest_140 : decode cX5_digest 140 = .ok (.lstore_n 1, 1) := by decide +kernel
theorem dX5_digest_141 : decode cX5_digest 141 = .ok (.ldc2_w 294, 3) := by decide +kernel
theorem dX5_digest_144 : decode cX5_digest 144 = .ok (.lload_n 1, 1) := by decide +kernel
theorem dX5_digest_145 : decode cX5_digest 145 = .ok (.lmul, 1) := by decide +kernel
theorem dX5_digest_146 : decode cX5_digest 146 = .ok (.aload_n 0, 1) := by decide +kernel
theorem dX5_digest_147 : decode cX5_digest 147 = .ok (.invokevirtual 298, 3) := by decide +kernel
theorem dX5_digest_150 : decode cX5_digest 150 = .ok (.ladd, 1) := by decide +kernel
theorem dX5_digest_151 : decode cX5_digest 151 = .ok (.lreturn, 1) := by decide +kernel
theorem dJxe99ae_isNaN_b9ae7_0 : decode cJxe99ae_isNaN_b9ae7 0 = .ok (.dload_n 0, 1) := by decide +kernel
theorem dJxe99ae_isNaN_b9ae7_1 : decode cJxe99ae_isNaN_b9ae7 1 = .ok (.dload_n 0, 1) := by decide +kernel
theorem dJxe99ae_isNaN_b9ae7_2 : decode cJxe99ae_isNaN_b9ae7 2 = .ok (.dcmp .l, 1) := by decide +kernel
theorem dJxe99ae_isNaN_b9ae7_3 : decode cJxe99ae_isNaN_b9ae7 3 = .ok (.ifCond .eq 7, 3) := by decide +kernel
theorem dJxe99ae_isNaN_b9ae7_6 : decode cJxe99ae_isNaN_b9ae7 6 = .ok (.iconst 1, 1) := by decide +kernel
theorem dJxe99ae_isNaN_b9ae7_7 : decode cJxe99ae_isNaN_b9ae7 7 = .ok (.goto 4, 3) := by decide +kernel
theorem dJxe99ae_isNaN_b9ae7_10 : decode cJxe99ae_isNaN_b9ae7 10 = .ok (.iconst 0, 1) := by decide +kernel
theorem dJxe99ae_isNaN_b9ae7_11 : decode cJxe99ae_isNaN_b9ae7 11 = .ok (.ireturn, 1) := by decide +kernel
theorem dJxe99ae_doubleToLongBits_ccdee_0 : decode cJxe99ae_doubleToLongBits_ccdee 0 = .ok (.dload_n 0, 1) := by decide +kernel
theorem dJxe99ae_doubleToLongBits_ccdee_1 : decode cJxe99ae_doubleToLongBits_ccdee 1 = .ok (.invokestatic 122, 3) := by decide +kernel
theorem dJxe99ae_doubleToLongBits_ccdee_4 : decode cJxe99ae_doubleToLongBits_ccdee 4 = .ok (.ifCond .ne 8, 3) := by decide +kernel
theorem dJxe99ae_doubleToLongBits_ccdee_7 : decode cJxe99ae_doubleToLongBits_ccdee 7 = .ok (.dload_n 0, 1) := by decide +kernel
theorem dJxe99ae_doubleToLongBits_ccdee_8 : decode cJxe99ae_doubleToLongBits_ccdee 8 = .ok (.invokestatic 134, 3) := by decide +kernel
theorem dJxe99ae_doubleToLongBits_ccdee_11 : decode cJxe99ae_doubleToLongBits_ccdee 11 = .ok (.lreturn, 1) := by decide +kernel
theorem dJxe99ae_doubleToLongBits_ccdee_12 : decode cJxe99ae_doubleToLongBits_ccdee 12 = .ok (.ldc2_w 137, 3) := by decide +kernel
theorem dJxe99ae_doubleToLongBits_ccdee_15 : decode cJxe99ae_doubleToLongBits_ccdee 15 = .ok (.lreturn, 1) := by decide +kernel
theorem dJxf58ca_isNaN_12338_0 : decode cJxf58ca_isNaN_12338 0 = .ok (.fload_n 0, 1) := by decide +kernel
theorem dJxf58ca_isNaN_12338_1 : decode cJxf58ca_isNaN_12338 1 = .ok (.fload_n 0, 1) := by decide +kernel
theorem dJxf58ca_isNaN_12338_2 : decode cJxf58ca_isNaN_12338 2 = .ok (.fcmp .l, 1) := by decide +kernel
theorem dJxf58ca_isNaN_12338_3 : decode cJxf58ca_isNaN_12338 3 = .ok (.ifCond .eq 7, 3) := by decide +kernel
theorem dJxf58ca_isNaN_12338_6 : decode cJxf58ca_isNaN_12338 6 = .ok (.iconst 1, 1) := by decide +kernel
theorem dJxf58ca_isNaN_12338_7 : decode cJxf58ca_isNaN_12338 7 = .ok (.goto 4, 3) := by decide +kernel
theorem dJxf58ca_isNaN_12338_10 : decode cJxf58ca_isNaN_12338 10 = .ok (.iconst 0, 1) := by decide +kernel
theorem dJxf58ca_isNaN_12338_11 : decode cJxf58ca_isNaN_12338 11 = .ok (.ireturn, 1) := by decide +kernel
theorem dJxf58ca_floatToIntBits_5c35a_0 : decode cJxf58ca_floatToIntBits_5c35a 0 = .ok (.fload_n 0, 1) := by decide +kernel
theorem dJxf58ca_floatToIntBits_5c35a_1 : decode cJxf58ca_floatToIntBits_5c35a 1 = .ok (.invokestatic 59, 3) := by decide +kernel
theorem dJxf58ca_floatToIntBits_5c35a_4 : decode cJxf58ca_floatToIntBits_5c35a 4 = .ok (.ifCond .ne 8, 3) := by decide +kernel
theorem dJxf58ca_floatToIntBits_5c35a_7 : decode cJxf58ca_floatToIntBits_5c35a 7 = .ok (.fload_n 0, 1) := by decide +kernel
theorem dJxf58ca_floatToIntBits_5c35a_8 : decode cJxf58ca_floatToIntBits_5c35a 8 = .ok (.invokestatic 74, 3) := by decide +kernel
theorem dJxf58ca_floatToIntBits_5c35a_11 : decode cJxf58ca_floatToIntBits_5c35a 11 = .ok (.ireturn, 1) := by decide +kernel
theorem dJxf58ca_floatToIntBits_5c35a_12 : decode cJxf58ca_floatToIntBits_5c35a 12 = .ok (.ldc 77, 2) := by decide +kernel
theorem dJxf58ca_floatToIntBits_5c35a_14 : decode cJxf58ca_floatToIntBits_5c35a 14 = .ok (.ireturn, 1) := by decide +kernel
theorem dJ9_max_7cf53_0 : decode cJ9_max_7cf53 0 = .ok (.iload_n 0, 1) := by decide +kernel
theorem dJ9_max_7cf53_1 : decode cJ9_max_7cf53 1 = .ok (.iload_n 1, 1) := by decide +kernel
theorem dJ9_max_7cf53_2 : decode cJ9_max_7cf53 2 = .ok (.if_icmp .lt 7, 3) := by decide +kernel
theorem dJ9_max_7cf53_5 : decode cJ9_max_7cf53 5 = .ok (.iload_n 0, 1) := by decide +kernel
theorem dJ9_max_7cf53_6 : decode cJ9_max_7cf53 6 = .ok (.goto 4, 3) := by decide +kernel
theorem dJ9_max_7cf53_9 : decode cJ9_max_7cf53 9 = .ok (.iload_n 1, 1) := by decide +kernel
theorem dJ9_max_7cf53_10 : decode cJ9_max_7cf53 10 = .ok (.ireturn, 1) := by decide +kernel
theorem dJ9_min_7cf53_0 : decode cJ9_min_7cf53 0 = .ok (.iload_n 0, 1) := by decide +kernel
theorem dJ9_min_7cf53_1 : decode cJ9_min_7cf53 1 = .ok (.iload_n 1, 1) := by decide +kernel
theorem dJ9_min_7cf53_2 : decode cJ9_min_7cf53 2 = .ok (.if_icmp .gt 7, 3) := by decide +kernel
theorem dJ9_min_7cf53_5 : decode cJ9_min_7cf53 5 = .ok (.iload_n 0, 1) := by decide +kernel
theorem dJ9_min_7cf53_6 : decode cJ9_min_7cf53 6 = .ok (.goto 4, 3) := by decide +kernel
theorem dJ9_min_7cf53_9 : decode cJ9_min_7cf53 9 = .ok (.iload_n 1, 1) := by decide +kernel
theorem dJ9_min_7cf53_10 : decode cJ9_min_7cf53 10 = .ok (.ireturn, 1) := by decide +kernel
theorem dL_law_0 : decode cL_law 0 = .ok (.new 7, 3) := by decide +kernel
theorem dL_law_3 : decode cL_law 3 = .ok (.dup, 1) := by decide +kernel
theorem dL_law_4 : decode cL_law 4 = .ok (.invokespecial 9, 3) := by decide +kernel
theorem dL_law_7 : decode cL_law 7 = .ok (.astore_n 1, 1) := by decide +kernel
theorem dL_law_8 : decode cL_law 8 = .ok (.new 10, 3) := by decide +kernel
theorem dL_law_11 : decode cL_law 11 = .ok (.dup, 1) := by decide +kernel
theorem dL_law_12 : decode cL_law 12 = .ok (.invokespecial 12, 3) := by decide +kernel
theorem dL_law_15 : decode cL_law 15 = .ok (.astore_n 2, 1) := by decide +kernel
theorem dL_law_16 : decode cL_law 16 = .ok (.iconst 0, 1) := by decide +kernel
theorem dL_law_17 : decode cL_law 17 = .ok (.istore_n 3, 1) := by decide +kernel
theorem dL_law_18 : decode cL_law 18 = .ok (.iload_n 3, 1) := by decide +kernel
theorem dL_law_19 : decode cL_law 19 = .ok (.aload_n 0, 1) := by decide +kernel
theorem dL_law_20 : decode cL_law 20 = .ok (.arraylength, 1) := by decide +kernel
theorem dL_law_21 : decode cL_law 21 = .ok (.iconst 4, 1) := by decide +kernel
theorem dL_law_22 : decode cL_law 22 = .ok (.isub, 1) := by decide +kernel
theorem dL_law_23 : decode cL_law 23 = .ok (.if_icmp .gt 657, 3) := by decide +kernel
theorem dL_law_26 : decode cL_law 26 = .ok (.aload_n 0, 1) := by decide +kernel
theorem dL_law_27 : decode cL_law 27 = .ok (.iload_n 3, 1) := by decide +kernel
theorem dL_law_28 : decode cL_law 28 = .ok (.iaload, 1) := by decide +kernel
theorem dL_law_29 : decode cL_law 29 = .ok (.bipush 31, 2) := by decide +kernel
theorem dL_law_31 : decode cL_law 31 = .ok (.iand, 1) := by decide +kernel
theorem dL_law_32 : decode cL_law 32 = .ok (.tableswitch 642 0 21 #[104, 137, 150, 183, 226, 239, 262, 295, 328, 351, 374, 417, 450, 483, 506, 520, 543, 566, 579, 592, 605, 628], 104) := by decide +kernel
theorem dL_law_136 : decode cL_law 136 = .ok (.aload_n 1, 1) := by decide +kernel
theorem dL_law_137 : decode cL_law 137 = .ok (.aload_n 0, 1) := by decide +kernel
theorem dL_law_138 : decode cL_law 138 = .ok (.iload_n 3, 1) := by decide +kernel
theorem dL_law_139 : decode cL_law 139 = .ok (.iconst 1, 1) := by decide +kernel
theorem dL_law_140 : decode cL_law 140 = .ok (.iadd, 1) := by decide +kernel
theorem dL_law_141 : decode cL_law 141 = .ok (.iaload, 1) := by decide +kernel
theorem dL_law_142 : decode cL_law 142 = .ok (.aload_n 0, 1) := by decide +kernel
theorem dL_law_143 : decode cL_law 143 = .ok (.iload_n 3, 1) := by decide +kernel
theorem dL_law_144 : decode cL_law 144 = .ok (.iconst 2, 1) := by decide +kernel
theorem dL_law_145 : decode cL_law 145 = .ok (.iadd, 1) := by decide +kernel
theorem dL_law_146 : decode cL_law 146 = .ok (.iaload, 1) := by decide +kernel
theorem dL_law_147 : decode cL_law 147 = .ok (.invokevirtual 13, 3) := by decide +kernel
theorem dL_law_150 : decode cL_law 150 = .ok (.aload_n 2, 1) := by decide +kernel
theorem dL_law_151 : decode cL_law 151 = .ok (.aload_n 0, 1) := by decide +kernel
theorem dL_law_152 : decode cL_law 152 = .ok (.iload_n 3, 1) := by decide +kernel
theorem dL_law_153 : decode cL_law 153 = .ok (.iconst 1, 1) := by decide +kernel
theorem dL_law_154 : decode cL_law 154 = .ok (.iadd, 1) := by decide +kernel
theorem dL_law_155 : decode cL_law 155 = .ok (.iaload, 1) := by decide +kernel
theorem dL_law_156 : decode cL_law 156 = .ok (.aload_n 0, 1) := by decide +kernel
theorem dL_law_157 : decode cL_law 157 = .ok (.iload_n 3, 1) := by decide +kernel
theorem dL_law_158 : decode cL_law 158 = .ok (.iconst 2, 1) := by decide +kernel
theorem dL_law_159 : decode cL_law 159 = .ok (.iadd, 1) := by decide +kernel
theorem dL_law_160 : decode cL_law 160 = .ok (.iaload, 1) := by decide +kernel
theorem dL_law_161 : decode cL_law 161 = .ok (.invokevirtual 17, 3) := by decide +kernel
theorem dL_law_164 : decode cL_law 164 = .ok (.if_icmp .eq 510, 3) := by decide +kernel
theorem dL_law_167 : decode cL_law 167 = .ok (.iconst 0, 1) := by decide +kernel
theorem dL_law_168 : decode cL_law 168 = .ok (.ireturn, 1) := by decide +kernel
theorem dL_law_169 : decode cL_law 169 = .ok (.aload_n 1, 1) := by decide +kernel
theorem dL_law_170 : decode cL_law 170 = .ok (.invokevirtual 18, 3) := by decide +kernel
theorem dL_law_173 : decode cL_law 173 = .ok (.aload_n 2, 1) := by decide +kernel
theorem dL_law_174 : decode cL_law 174 = .ok (.invokevirtual 22, 3) := by decide +kernel
theorem dL_law_177 : decode cL_law 177 = .ok (.if_icmp .eq 497, 3) := by decide +kernel
theorem dL_law_180 : decode cL_law 180 = .ok (.iconst 0, 1) := by decide +kernel
theorem dL_law_181 : decode cL_law 181 = .ok (.ireturn, 1) := by decide +kernel
theorem dL_law_182 : decode cL_law 182 = .ok (.aload_n 1, 1) := by decide +kernel
theorem dL_law_183 : decode cL_law 183 = .ok (.aload_n 0, 1) := by decide +kernel
theorem dL_law_184 : decode cL_law 184 = .ok (.iload_n 3, 1) := by decide +kernel
theorem dL_law_185 : decode cL_law 185 = .ok (.iconst 1, 1) := by decide +kernel
theorem dL_law_186 : decode cL_law 186 = .ok (.iadd, 1) := by decide +kernel
theorem dL_law_187 : decode cL_law 187 = .ok (.iaload, 1) := by decide +kernel
theorem dL_law_188 : decode cL_law 188 = .ok (.aload_n 0, 1) := by decide +kernel
theorem dL_law_189 : decode cL_law 189 = .ok (.iload_n 3, 1) := by decide +kernel
theorem dL_law_190 : decode cL_law 190 = .ok (.iconst 2, 1) := by decide +kernel
theorem dL_law_191 : decode cL_law 191 = .ok (.iadd, 1) := by decide +kernel
theorem dL_law_192 : decode cL_law 192 = .ok (.iaload, 1) := by decide +kernel
theorem dL_law_193 : decode cL_law 193 = .ok (.invokevirtual 23, 3) := by decide +kernel
theorem dL_law_196 : decode cL_law 196 = .ok (.aload_n 2, 1) := by decide +kernel
theorem dL_law_197 : decode cL_law 197 = .ok (.aload_n 0, 1) := by decide +kernel
theorem dL_law_198 : decode cL_law 198 = .ok (.iload_n 3, 1) := by decide +kernel
theorem dL_law_199 : decode cL_law 199 = .ok (.iconst 1, 1) := by decide +kernel
theorem dL_law_200 : decode cL_law 200 = .ok (.iadd, 1) := by decide +kernel
theorem dL_law_201 : decode cL_law 201 = .ok (.iaload, 1) := by decide +kernel
theorem dL_law_202 : decode cL_law 202 = .ok (.aload_n 0, 1) := by decide +kernel
theorem dL_law_203 : decode cL_law 203 = .ok (.iload_n 3, 1) := by decide +kernel
theorem dL_law_204 : decode cL_law 204 = .ok (.iconst 2, 1) := by decide +kernel
theorem dL_law_205 : decode cL_law 205 = .ok (.iadd, 1) := by decide +kernel
theorem dL_law_206 : decode cL_law 206 = .ok (.iaload, 1) := by decide +kernel
theorem dL_law_207 : decode cL_law 207 = .ok (.invokevirtual 26, 3) := by decide +kernel
theorem dL_law_210 : decode cL_law 210 = .ok (.if_icmp .eq 464, 3) := by decide +kernel
theorem dL_law_213 : decode cL_law 213 = .ok (.iconst 0, 1) := by decide +kernel
theorem dL_law_214 : decode cL_law 214 = .ok (.ireturn, 1) := by decide +kernel
theorem dL_law_215 : decode cL_law 215 = .ok (.aload_n 1, 1) := by decide +kernel
theorem dL_law_216 : decode cL_law 216 = .ok (.aload_n 0, 1) := by decide +kernel
theorem dL_law_217 : decode cL_law 217 = .ok (.iload_n 3, 1) := by decide +kernel
theorem dL_law_218 : decode cL_law 218 = .ok (.iconst 1, 1) := by decide +kernel
theorem dL_law_219 : decode cL_law 219 = .ok (.iadd, 1) := by decide +kernel
theorem dL_law_220 : decode cL_law 220 = .ok (.iaload, 1) := by decide +kernel
theorem dL_law_221 : decode cL_law 221 = .ok (.aload_n 0, 1) := by decide +kernel
theorem dL_law_222 : decode cL_law 222 = .ok (.iload_n 3, 1) := by decide +kernel
theorem dL_law_223 : decode cL_law 223 = .ok (.iconst 2, 1) := by decide +kernel
theorem dL_law_224 : decode cL_law 224 = .ok (.iadd, 1) := by decide +kernel
theorem dL_law_225 : decode cL_law 225 = .ok (.iaload, 1) := by decide +kernel
theorem dL_law_226 : decode cL_law 226 = .ok (.aload_n 0, 1) := by decide +kernel
theorem dL_law_227 : decode cL_law 227 = .ok (.iload_n 3, 1) := by decide +kernel
theorem dL_law_228 : decode cL_law 228 = .ok (.iconst 3, 1) := by decide +kernel
theorem dL_law_229 : decode cL_law 229 = .ok (.iadd, 1) := by decide +kernel
theorem dL_law_230 : decode cL_law 230 = .ok (.iaload, 1) := by decide +kernel
theorem dL_law_231 : decode cL_law 231 = .ok (.invokevirtual 27, 3) := by decide +kernel
theorem dL_law_234 : decode cL_law 234 = .ok (.aload_n 2, 1) := by decide +kernel
theorem dL_law_235 : decode cL_law 235 = .ok (.aload_n 0, 1) := by decide +kernel
theorem dL_law_236 : decode cL_law 236 = .ok (.iload_n 3, 1) := by decide +kernel
theorem dL_law_237 : decode cL_law 237 = .ok (.iconst 1, 1) := by decide +kernel
theorem dL_law_238 : decode cL_law 238 = .ok (.iadd, 1) := by decide +kernel
theorem dL_law_239 : decode cL_law 239 = .ok (.iaload, 1) := by decide +kernel
theorem dL_law_240 : decode cL_law 240 = .ok (.aload_n 0, 1) := by decide +kernel
theorem dL_law_241 : decode cL_law 241 = .ok (.iload_n 3, 1) := by decide +kernel
theorem dL_law_242 : decode cL_law 242 = .ok (.iconst 2, 1) := by decide +kernel
theorem dL_law_243 : decode cL_law 243 = .ok (.iadd, 1) := by decide +kernel
theorem dL_law_244 : decode cL_law 244 = .ok (.iaload, 1) := by decide +kernel
theorem dL_law_245 : decode cL_law 245 = .ok (.aload_n 0, 1) := by decide +kernel
theorem dL_law_246 : decode cL_law 246 = .ok (.iload_n 3, 1) := by decide +kernel
theorem dL_law_247 : decode cL_law 247 = .ok (.iconst 3, 1) := by decide +kernel
theorem dL_law_248 : decode cL_law 248 = .ok (.iadd, 1) := by decide +kernel
theorem dL_law_249 : decode cL_law 249 = .ok (.iaload, 1) := by decide +kernel
theorem dL_law_250 : decode cL_law 250 = .ok (.invokevirtual 31, 3) := by decide +kernel
theorem dL_law_253 : decode cL_law 253 = .ok (.if_icmp .eq 421, 3) := by decide +kernel
theorem dL_law_256 : decode cL_law 256 = .ok (.iconst 0, 1) := by decide +kernel
theorem dL_law_257 : decode cL_law 257 = .ok (.ireturn, 1) := by decide +kernel
theorem dL_law_258 : decode cL_law 258 = .ok (.aload_n 1, 1) := by decide +kernel
theorem dL_law_259 : decode cL_law 259 = .ok (.invokevirtual 32, 3) := by decide +kernel
theorem dL_law_262 : decode cL_law 262 = .ok (.aload_n 2, 1) := by decide +kernel
theorem dL_law_263 : decode cL_law 263 = .ok (.invokevirtual 35, 3) := by decide +kernel
theorem dL_law_266 : decode cL_law 266 = .ok (.if_icmp .eq 408, 3) := by decide +kernel
theorem dL_law_269 : decode cL_law 269 = .ok (.iconst 0, 1) := by decide +kernel
theorem dL_law_270 : decode cL_law 270 = .ok (.ireturn, 1) := by decide +kernel
theorem dL_law_271 : decode cL_law 271 = .ok (.aload_n 1, 1) := by decide +kernel
theorem dL_law_272 : decode cL_law 272 = .ok (.aload_n 0, 1) := by decide +kernel
theorem dL_law_273 : decode cL_law 273 = .ok (.iload_n 3, 1) := by decide +kernel
theorem dL_law_274 : decode cL_law 274 = .ok (.iconst 1, 1) := by decide +kernel
theorem dL_law_275 : decode cL_law 275 = .ok (.iadd, 1) := by decide +kernel
theorem dL_law_276 : decode cL_law 276 = .ok (.iaload, 1) := by decide +kernel
theorem dL_law_277 : decode cL_law 277 = .ok (.invokevirtual 36, 3) := by decide +kernel
theorem dL_law_280 : decode cL_law 280 = .ok (.aload_n 2, 1) := by decide +kernel
theorem dL_law_281 : decode cL_law 281 = .ok (.aload_n 0, 1) := by decide +kernel
theorem dL_law_282 : decode cL_law 282 = .ok (.iload_n 3, 1) := by decide +kernel
theorem dL_law_283 : decode cL_law 283 = .ok (.iconst 1, 1) := by decide +kernel
theorem dL_law_284 : decode cL_law 284 = .ok (.iadd, 1) := by decide +kernel
theorem dL_law_285 : decode cL_law 285 = .ok (.iaload, 1) := by decide +kernel
theorem dL_law_286 : decode cL_law 286 = .ok (.invokevirtual 40, 3) := by decide +kernel
theorem dL_law_289 : decode cL_law 289 = .ok (.if_icmp .eq 385, 3) := by decide +kernel
theorem dL_law_292 : decode cL_law 292 = .ok (.iconst 0, 1) := by decide +kernel
theorem dL_law_293 : decode cL_law 293 = .ok (.ireturn, 1) := by decide +kernel
theorem dL_law_294 : decode cL_law 294 = .ok (.aload_n 1, 1) := by decide +kernel
theorem dL_law_295 : decode cL_law 295 = .ok (.aload_n 0, 1) := by decide +kernel
theorem dL_law_296 : decode cL_law 296 = .ok (.iload_n 3, 1) := by decide +kernel
theorem dL_law_297 : decode cL_law 297 = .ok (.iconst 1, 1) := by decide +kernel
theorem dL_law_298 : decode cL_law 298 = .ok (.iadd, 1) := by decide +kernel
theorem dL_law_299 : decode cL_law 299 = .ok (.iaload, 1) := by decide +kernel
theorem dL_law_300 : decode cL_law 300 = .ok (.aload_n 0, 1) := by decide +kernel
theorem dL_law_301 : decode cL_law 301 = .ok (.iload_n 3, 1) := by decide +kernel
theorem dL_law_302 : decode cL_law 302 = .ok (.iconst 2, 1) := by decide +kernel
theorem dL_law_303 : decode cL_law 303 = .ok (.iadd, 1) := by decide +kernel
theorem dL_law_304 : decode cL_law 304 = .ok (.iaload, 1) := by decide +kernel
theorem dL_law_305 : decode cL_law 305 = .ok (.invokevirtual 41, 3) := by decide +kernel
theorem dL_law_308 : decode cL_law 308 = .ok (.aload_n 2, 1) := by decide +kernel
theorem dL_law_309 : decode cL_law 309 = .ok (.aload_n 0, 1) := by decide +kernel
theorem dL_law_310 : decode cL_law 310 = .ok (.iload_n 3, 1) := by decide +kernel
theorem dL_law_311 : decode cL_law 311 = .ok (.iconst 1, 1) := by decide +kernel
theorem dL_law_312 : decode cL_law 312 = .ok (.iadd, 1) := by decide +kernel
theorem dL_law_313 : decode cL_law 313 = .ok (.iaload, 1) := by decide +kernel
theorem dL_law_314 : decode cL_law 314 = .ok (.aload_n 0, 1) := by decide +kernel
theorem dL_law_315 : decode cL_law 315 = .ok (.iload_n 3, 1) := by decide +kernel
theorem dL_law_316 : decode cL_law 316 = .ok (.iconst 2, 1) := by decide +kernel
theorem dL_law_317 : decode cL_law 317 = .ok (.iadd, 1) := by decide +kernel
theorem dL_law_318 : decode cL_law 318 = .ok (.iaload, 1) := by decide +kernel
theorem dL_law_319 : decode cL_law 319 = .ok (.invokevirtual 44, 3) := by decide +kernel
theorem dL_law_322 : decode cL_law 322 = .ok (.if_icmp .eq 352, 3) := by decide +kernel
theorem dL_law_325 : decode cL_law 325 = .ok (.iconst 0, 1) := by decide +kernel
theorem dL_law_326 : decode cL_law 326 = .ok (.ireturn, 1) := by decide +kernel
theorem dL_law_327 : decode cL_law 327 = .ok (.aload_n 1, 1) := by decide +kernel
theorem dL_law_328 : decode cL_law 328 = .ok (.aload_n 0, 1) := by decide +kernel
theorem dL_law_329 : decode cL_law 329 = .ok (.iload_n 3, 1) := by decide +kernel
theorem dL_law_330 : decode cL_law 330 = .ok (.iconst 1, 1) := by decide +kernel
theorem dL_law_331 : decode cL_law 331 = .ok (.iadd, 1) := by decide +kernel
theorem dL_law_332 : decode cL_law 332 = .ok (.iaload, 1) := by decide +kernel
theorem dL_law_333 : decode cL_law 333 = .ok (.aload_n 0, 1) := by decide +kernel
theorem dL_law_334 : decode cL_law 334 = .ok (.iload_n 3, 1) := by decide +kernel
theorem dL_law_335 : decode cL_law 335 = .ok (.iconst 2, 1) := by decide +kernel
theorem dL_law_336 : decode cL_law 336 = .ok (.iadd, 1) := by decide +kernel
theorem dL_law_337 : decode cL_law 337 = .ok (.iaload, 1) := by decide +kernel
theorem dL_law_338 : decode cL_law 338 = .ok (.invokevirtual 45, 3) := by decide +kernel
theorem dL_law_341 : decode cL_law 341 = .ok (.aload_n 2, 1) := by decide +kernel
theorem dL_law_342 : decode cL_law 342 = .ok (.aload_n 0, 1) := by decide +kernel
theorem dL_law_343 : decode cL_law 343 = .ok (.iload_n 3, 1) := by decide +kernel
theorem dL_law_344 : decode cL_law 344 = .ok (.iconst 1, 1) := by decide +kernel
theorem dL_law_345 : decode cL_law 345 = .ok (.iadd, 1) := by decide +kernel
theorem dL_law_346 : decode cL_law 346 = .ok (.iaload, 1) := by decide +kernel
theorem dL_law_347 : decode cL_law 347 = .ok (.aload_n 0, 1) := by decide +kernel
theorem dL_law_348 : decode cL_law 348 = .ok (.iload_n 3, 1) := by decide +kernel
theorem dL_law_349 : decode cL_law 349 = .ok (.iconst 2, 1) := by decide +kernel
theorem dL_law_350 : decode cL_law 350 = .ok (.iadd, 1) := by decide +kernel
theorem dL_law_351 : decode cL_law 351 = .ok (.iaload, 1) := by decide +kernel
theorem dL_law_352 : decode cL_law 352 = .ok (.invokevirtual 48, 3) := by decide +kernel
theorem dL_law_355 : decode cL_law 355 = .ok (.if_icmp .eq 319, 3) := by decide +kernel
theorem dL_law_358 : decode cL_law 358 = .ok (.iconst 0, 1) := by decide +kernel
theorem dL_law_359 : decode cL_law 359 = .ok (.ireturn, 1) := by decide +kernel
theorem dL_law_360 : decode cL_law 360 = .ok (.aload_n 1, 1) := by decide +kernel
theorem dL_law_361 : decode cL_law 361 = .ok (.aload_n 0, 1) := by decide +kernel
theorem dL_law_362 : decode cL_law 362 = .ok (.iload_n 3, 1) := by decide +kernel
theorem dL_law_363 : decode cL_law 363 = .ok (.iconst 1, 1) := by decide +kernel
theorem dL_law_364 : decode cL_law 364 = .ok (.iadd, 1) := by decide +kernel
theorem dL_law_365 : decode cL_law 365 = .ok (.iaload, 1) := by decide +kernel
theorem dL_law_366 : decode cL_law 366 = .ok (.invokevirtual 49, 3) := by decide +kernel
theorem dL_law_369 : decode cL_law 369 = .ok (.aload_n 2, 1) := by decide +kernel
theorem dL_law_370 : decode cL_law 370 = .ok (.aload_n 0, 1) := by decide +kernel
theorem dL_law_371 : decode cL_law 371 = .ok (.iload_n 3, 1) := by decide +kernel
theorem dL_law_372 : decode cL_law 372 = .ok (.iconst 1, 1) := by decide +kernel
theorem dL_law_373 : decode cL_law 373 = .ok (.iadd, 1) := by decide +kernel
theorem dL_law_374 : decode cL_law 374 = .ok (.iaload, 1) := by decide +kernel
theorem dL_law_375 : decode cL_law 375 = .ok (.invokevirtual 52, 3) := by decide +kernel
theorem dL_law_378 : decode cL_law 378 = .ok (.if_icmp .eq 296, 3) := by decide +kernel
theorem dL_law_381 : decode cL_law 381 = .ok (.iconst 0, 1) := by decide +kernel
theorem dL_law_382 : decode cL_law 382 = .ok (.ireturn, 1) := by decide +kernel
theorem dL_law_383 : decode cL_law 383 = .ok (.aload_n 1, 1) := by decide +kernel
theorem dL_law_384 : decode cL_law 384 = .ok (.aload_n 0, 1) := by decide +kernel
theorem dL_law_385 : decode cL_law 385 = .ok (.iload_n 3, 1) := by decide +kernel
theorem dL_law_386 : decode cL_law 386 = .ok (.iconst 1, 1) := by decide +kernel
theorem dL_law_387 : decode cL_law 387 = .ok (.iadd, 1) := by decide +kernel
theorem dL_law_388 : decode cL_law 388 = .ok (.iaload, 1) := by decide +kernel
theorem dL_law_389 : decode cL_law 389 = .ok (.invokevirtual 53, 3) := by decide +kernel
theorem dL_law_392 : decode cL_law 392 = .ok (.aload_n 2, 1) := by decide +kernel
theorem dL_law_393 : decode cL_law 393 = .ok (.aload_n 0, 1) := by decide +kernel
theorem dL_law_394 : decode cL_law 394 = .ok (.iload_n 3, 1) := by decide +kernel
theorem dL_law_395 : decode cL_law 395 = .ok (.iconst 1, 1) := by decide +kernel
theorem dL_law_396 : decode cL_law 396 = .ok (.iadd, 1) := by decide +kernel
theorem dL_law_397 : decode cL_law 397 = .ok (.iaload, 1) := by decide +kernel
theorem dL_law_398 : decode cL_law 398 = .ok (.invokevirtual 56, 3) := by decide +kernel
theorem dL_law_401 : decode cL_law 401 = .ok (.if_icmp .eq 273, 3) := by decide +kernel
theorem dL_law_404 : decode cL_law 404 = .ok (.iconst 0, 1) := by decide +kernel
theorem dL_law_405 : decode cL_law 405 = .ok (.ireturn, 1) := by decide +kernel
theorem dL_law_406 : decode cL_law 406 = .ok (.aload_n 1, 1) := by decide +kernel
theorem dL_law_407 : decode cL_law 407 = .ok (.aload_n 0, 1) := by decide +kernel
theorem dL_law_408 : decode cL_law 408 = .ok (.iload_n 3, 1) := by decide +kernel
theorem dL_law_409 : decode cL_law 409 = .ok (.iconst 1, 1) := by decide +kernel
theorem dL_law_410 : decode cL_law 410 = .ok (.iadd, 1) := by decide +kernel
theorem dL_law_411 : decode cL_law 411 = .ok (.iaload, 1) := by decide +kernel
theorem dL_law_412 : decode cL_law 412 = .ok (.aload_n 0, 1) := by decide +kernel
theorem dL_law_413 : decode cL_law 413 = .ok (.iload_n 3, 1) := by decide +kernel
theorem dL_law_414 : decode cL_law 414 = .ok (.iconst 2, 1) := by decide +kernel
theorem dL_law_415 : decode cL_law 415 = .ok (.iadd, 1) := by decide +kernel
theorem dL_law_416 : decode cL_law 416 = .ok (.iaload, 1) := by decide +kernel
theorem dL_law_417 : decode cL_law 417 = .ok (.aload_n 0, 1) := by decide +kernel
theorem dL_law_418 : decode cL_law 418 = .ok (.iload_n 3, 1) := by decide +kernel
theorem dL_law_419 : decode cL_law 419 = .ok (.iconst 3, 1) := by decide +kernel
theorem dL_law_420 : decode cL_law 420 = .ok (.iadd, 1) := by decide +kernel
theorem dL_law_421 : decode cL_law 421 = .ok (.iaload, 1) := by decide +kernel
theorem dL_law_422 : decode cL_law 422 = .ok (.invokevirtual 57, 3) := by decide +kernel
theorem dL_law_425 : decode cL_law 425 = .ok (.aload_n 2, 1) := by decide +kernel
theorem dL_law_426 : decode cL_law 426 = .ok (.aload_n 0, 1) := by decide +kernel
theorem dL_law_427 : decode cL_law 427 = .ok (.iload_n 3, 1) := by decide +kernel
theorem dL_law_428 : decode cL_law 428 = .ok (.iconst 1, 1) := by decide +kernel
theorem dL_law_429 : decode cL_law 429 = .ok (.iadd, 1) := by decide +kernel
theorem dL_law_430 : decode cL_law 430 = .ok (.iaload, 1) := by decide +kernel
theorem dL_law_431 : decode cL_law 431 = .ok (.aload_n 0, 1) := by decide +kernel
theorem dL_law_432 : decode cL_law 432 = .ok (.iload_n 3, 1) := by decide +kernel
theorem dL_law_433 : decode cL_law 433 = .ok (.iconst 2, 1) := by decide +kernel
theorem dL_law_434 : decode cL_law 434 = .ok (.iadd, 1) := by decide +kernel
theorem dL_law_435 : decode cL_law 435 = .ok (.iaload, 1) := by decide +kernel
theorem dL_law_436 : decode cL_law 436 = .ok (.aload_n 0, 1) := by decide +kernel
theorem dL_law_437 : decode cL_law 437 = .ok (.iload_n 3, 1) := by decide +kernel
theorem dL_law_438 : decode cL_law 438 = .ok (.iconst 3, 1) := by decide +kernel
theorem dL_law_439 : decode cL_law 439 = .ok (.iadd, 1) := by decide +kernel
theorem dL_law_440 : decode cL_law 440 = .ok (.iaload, 1) := by decide +kernel
theorem dL_law_441 : decode cL_law 441 = .ok (.invokevirtual 60, 3) := by decide +kernel
theorem dL_law_444 : decode cL_law 444 = .ok (.if_icmp .eq 230, 3) := by decide +kernel
theorem dL_law_447 : decode cL_law 447 = .ok (.iconst 0, 1) := by decide +kernel
theorem dL_law_448 : decode cL_law 448 = .ok (.ireturn, 1) := by decide +kernel
theorem dL_law_449 : decode cL_law 449 = .ok (.aload_n 1, 1) := by decide +kernel
theorem dL_law_450 : decode cL_law 450 = .ok (.aload_n 0, 1) := by decide +kernel
theorem dL_law_451 : decode cL_law 451 = .ok (.iload_n 3, 1) := by decide +kernel
theorem dL_law_452 : decode cL_law 452 = .ok (.iconst 1, 1) := by decide +kernel
theorem dL_law_453 : decode cL_law 453 = .ok (.iadd, 1) := by decide +kernel
theorem dL_law_454 : decode cL_law 454 = .ok (.iaload, 1) := by decide +kernel
theorem dL_law_455 : decode cL_law 455 = .ok (.aload_n 0, 1) := by decide +kernel
theorem dL_law_456 : decode cL_law 456 = .ok (.iload_n 3, 1) := by decide +kernel
theorem dL_law_457 : decode cL_law 457 = .ok (.iconst 2, 1) := by decide +kernel
theorem dL_law_458 : decode cL_law 458 = .ok (.iadd, 1) := by decide +kernel
theorem dL_law_459 : decode cL_law 459 = .ok (.iaload, 1) := by decide +kernel
theorem dL_law_460 : decode cL_law 460 = .ok (.invokevirtual 61, 3) := by decide +kernel
theorem dL_law_463 : decode cL_law 463 = .ok (.aload_n 2, 1) := by decide +kernel
theorem dL_law_464 : decode cL_law 464 = .ok (.aload_n 0, 1) := by decide +kernel
theorem dL_law_465 : decode cL_law 465 = .ok (.iload_n 3, 1) := by decide +kernel
theorem dL_law_466 : decode cL_law 466 = .ok (.iconst 1, 1) := by decide +kernel
theorem dL_law_467 : decode cL_law 467 = .ok (.iadd, 1) := by decide +kernel
theorem dL_law_468 : decode cL_law 468 = .ok (.iaload, 1) := by decide +kernel
theorem dL_law_469 : decode cL_law 469 = .ok (.aload_n 0, 1) := by decide +kernel
theorem dL_law_470 : decode cL_law 470 = .ok (.iload_n 3, 1) := by decide +kernel
theorem dL_law_471 : decode cL_law 471 = .ok (.iconst 2, 1) := by decide +kernel
theorem dL_law_472 : decode cL_law 472 = .ok (.iadd, 1) := by decide +kernel
theorem dL_law_473 : decode cL_law 473 = .ok (.iaload, 1) := by decide +kernel
theorem dL_law_474 : decode cL_law 474 = .ok (.invokevirtual 64, 3) := by decide +kernel
theorem dL_law_477 : decode cL_law 477 = .ok (.if_icmp .eq 197, 3) := by decide +kernel
theorem dL_law_480 : decode cL_law 480 = .ok (.iconst 0, 1) := by decide +kernel
theorem dL_law_481 : decode cL_law 481 = .ok (.ireturn, 1) := by decide +kernel
theorem dL_law_482 : decode cL_law 482 = .ok (.aload_n 1, 1) := by decide +kernel
theorem dL_law_483 : decode cL_law 483 = .ok (.aload_n 0, 1) := by decide +kernel
theorem dL_law_484 : decode cL_law 484 = .ok (.iload_n 3, 1) := by decide +kernel
theorem dL_law_485 : decode cL_law 485 = .ok (.iconst 1, 1) := by decide +kernel
theorem dL_law_486 : decode cL_law 486 = .ok (.iadd, 1) := by decide +kernel
theorem dL_law_487 : decode cL_law 487 = .ok (.iaload, 1) := by decide +kernel
theorem dL_law_488 : decode cL_law 488 = .ok (.aload_n 0, 1) := by decide +kernel
theorem dL_law_489 : decode cL_law 489 = .ok (.iload_n 3, 1) := by decide +kernel
theorem dL_law_490 : decode cL_law 490 = .ok (.iconst 2, 1) := by decide +kernel
theorem dL_law_491 : decode cL_law 491 = .ok (.iadd, 1) := by decide +kernel
theorem dL_law_492 : decode cL_law 492 = .ok (.iaload, 1) := by decide +kernel
theorem dL_law_493 : decode cL_law 493 = .ok (.invokevirtual 65, 3) := by decide +kernel
theorem dL_law_496 : decode cL_law 496 = .ok (.aload_n 2, 1) := by decide +kernel
theorem dL_law_497 : decode cL_law 497 = .ok (.aload_n 0, 1) := by decide +kernel
theorem dL_law_498 : decode cL_law 498 = .ok (.iload_n 3, 1) := by decide +kernel
theorem dL_law_499 : decode cL_law 499 = .ok (.iconst 1, 1) := by decide +kernel
theorem dL_law_500 : decode cL_law 500 = .ok (.iadd, 1) := by decide +kernel
theorem dL_law_501 : decode cL_law 501 = .ok (.iaload, 1) := by decide +kernel
theorem dL_law_502 : decode cL_law 502 = .ok (.aload_n 0, 1) := by decide +kernel
theorem dL_law_503 : decode cL_law 503 = .ok (.iload_n 3, 1) := by decide +kernel
theorem dL_law_504 : decode cL_law 504 = .ok (.iconst 2, 1) := by decide +kernel
theorem dL_law_505 : decode cL_law 505 = .ok (.iadd, 1) := by decide +kernel
theorem dL_law_506 : decode cL_law 506 = .ok (.iaload, 1) := by decide +kernel
theorem dL_law_507 : decode cL_law 507 = .ok (.invokevirtual 68, 3) := by decide +kernel
theorem dL_law_510 : decode cL_law 510 = .ok (.if_icmp .eq 164, 3) := by decide +kernel
theorem dL_law_513 : decode cL_law 513 = .ok (.iconst 0, 1) := by decide +kernel
theorem dL_law_514 : decode cL_law 514 = .ok (.ireturn, 1) := by decide +kernel
theorem dL_law_515 : decode cL_law 515 = .ok (.aload_n 1, 1) := by decide +kernel
theorem dL_law_516 : decode cL_law 516 = .ok (.aload_n 0, 1) := by decide +kernel
theorem dL_law_517 : decode cL_law 517 = .ok (.iload_n 3, 1) := by decide +kernel
theorem dL_law_518 : decode cL_law 518 = .ok (.iconst 1, 1) := by decide +kernel
theorem dL_law_519 : decode cL_law 519 = .ok (.iadd, 1) := by decide +kernel
theorem dL_law_520 : decode cL_law 520 = .ok (.iaload, 1) := by decide +kernel
theorem dL_law_521 : decode cL_law 521 = .ok (.invokevirtual 69, 3) := by decide +kernel
theorem dL_law_524 : decode cL_law 524 = .ok (.aload_n 2, 1) := by decide +kernel
theorem dL_law_525 : decode cL_law 525 = .ok (.aload_n 0, 1) := by decide +kernel
theorem dL_law_526 : decode cL_law 526 = .ok (.iload_n 3, 1) := by decide +kernel
theorem dL_law_527 : decode cL_law 527 = .ok (.iconst 1, 1) := by decide +kernel
theorem dL_law_528 : decode cL_law 528 = .ok (.iadd, 1) := by decide +kernel
theorem dL_law_529 : decode cL_law 529 = .ok (.iaload, 1) := by decide +kernel
theorem dL_law_530 : decode cL_law 530 = .ok (.invokevirtual 72, 3) := by decide +kernel
theorem dL_law_533 : decode cL_law 533 = .ok (.if_icmp .eq 141, 3) := by decide +kernel
theorem dL_law_536 : decode cL_law 536 = .ok (.iconst 0, 1) := by decide +kernel
theorem dL_law_537 : decode cL_law 537 = .ok (.ireturn, 1) := by decide +kernel
theorem dL_law_538 : decode cL_law 538 = .ok (.aload_n 1, 1) := by decide +kernel
theorem dL_law_539 : decode cL_law 539 = .ok (.invokevirtual 73, 3) := by decide +kernel
theorem dL_law_542 : decode cL_law 542 = .ok (.aload_n 2, 1) := by decide +kernel
theorem dL_law_543 : decode cL_law 543 = .ok (.invokevirtual 77, 3) := by decide +kernel
theorem dL_law_546 : decode cL_law 546 = .ok (.lcmp, 1) := by decide +kernel
theorem dL_law_547 : decode cL_law 547 = .ok (.ifCond .eq 127, 3) := by decide +kernel
theorem dL_law_550 : decode cL_law 550 = .ok (.iconst 0, 1) := by decide +kernel
theorem dL_law_551 : decode cL_law 551 = .ok (.ireturn, 1) := by decide +kernel
theorem dL_law_552 : decode cL_law 552 = .ok (.aload_n 1, 1) := by decide +kernel
theorem dL_law_553 : decode cL_law 553 = .ok (.aload_n 0, 1) := by decide +kernel
theorem dL_law_554 : decode cL_law 554 = .ok (.iload_n 3, 1) := by decide +kernel
theorem dL_law_555 : decode cL_law 555 = .ok (.iconst 1, 1) := by decide +kernel
theorem dL_law_556 : decode cL_law 556 = .ok (.iadd, 1) := by decide +kernel
theorem dL_law_557 : decode cL_law 557 = .ok (.iaload, 1) := by decide +kernel
theorem dL_law_558 : decode cL_law 558 = .ok (.invokevirtual 78, 3) := by decide +kernel
theorem dL_law_561 : decode cL_law 561 = .ok (.aload_n 2, 1) := by decide +kernel
theorem dL_law_562 : decode cL_law 562 = .ok (.aload_n 0, 1) := by decide +kernel
theorem dL_law_563 : decode cL_law 563 = .ok (.iload_n 3, 1) := by decide +kernel
theorem dL_law_564 : decode cL_law 564 = .ok (.iconst 1, 1) := by decide +kernel
theorem dL_law_565 : decode cL_law 565 = .ok (.iadd, 1) := by decide +kernel
theorem dL_law_566 : decode cL_law 566 = .ok (.iaload, 1) := by decide +kernel
theorem dL_law_567 : decode cL_law 567 = .ok (.invokevirtual 81, 3) := by decide +kernel
theorem dL_law_570 : decode cL_law 570 = .ok (.if_icmp .eq 104, 3) := by decide +kernel
theorem dL_law_573 : decode cL_law 573 = .ok (.iconst 0, 1) := by decide +kernel
theorem dL_law_574 : decode cL_law 574 = .ok (.ireturn, 1) := by decide +kernel
theorem dL_law_575 : decode cL_law 575 = .ok (.aload_n 1, 1) := by decide +kernel
theorem dL_law_576 : decode cL_law 576 = .ok (.aload_n 0, 1) := by decide +kernel
theorem dL_law_577 : decode cL_law 577 = .ok (.iload_n 3, 1) := by decide +kernel
theorem dL_law_578 : decode cL_law 578 = .ok (.iconst 1, 1) := by decide +kernel
theorem dL_law_579 : decode cL_law 579 = .ok (.iadd, 1) := by decide +kernel
theorem dL_law_580 : decode cL_law 580 = .ok (.iaload, 1) := by decide +kernel
theorem dL_law_581 : decode cL_law 581 = .ok (.invokevirtual 82, 3) := by decide +kernel
theorem dL_law_584 : decode cL_law 584 = .ok (.aload_n 2, 1) := by decide +kernel
theorem dL_law_585 : decode cL_law 585 = .ok (.aload_n 0, 1) := by decide +kernel
theorem dL_law_586 : decode cL_law 586 = .ok (.iload_n 3, 1) := by decide +kernel
theorem dL_law_587 : decode cL_law 587 = .ok (.iconst 1, 1) := by decide +kernel
theorem dL_law_588 : decode cL_law 588 = .ok (.iadd, 1) := by decide +kernel
theorem dL_law_589 : decode cL_law 589 = .ok (.iaload, 1) := by decide +kernel
theorem dL_law_590 : decode cL_law 590 = .ok (.invokevirtual 85, 3) := by decide +kernel
theorem dL_law_593 : decode cL_law 593 = .ok (.if_icmp .eq 81, 3) := by decide +kernel
theorem dL_law_596 : decode cL_law 596 = .ok (.iconst 0, 1) := by decide +kernel
theorem dL_law_597 : decode cL_law 597 = .ok (.ireturn, 1) := by decide +kernel
theorem dL_law_598 : decode cL_law 598 = .ok (.aload_n 1, 1) := by decide +kernel
theorem dL_law_599 : decode cL_law 599 = .ok (.invokevirtual 86, 3) := by decide +kernel
theorem dL_law_602 : decode cL_law 602 = .ok (.aload_n 2, 1) := by decide +kernel
theorem dL_law_603 : decode cL_law 603 = .ok (.invokevirtual 89, 3) := by decide +kernel
theorem dL_law_606 : decode cL_law 606 = .ok (.if_icmp .eq 68, 3) := by decide +kernel
theorem dL_law_609 : decode cL_law 609 = .ok (.iconst 0, 1) := by decide +kernel
theorem dL_law_610 : decode cL_law 610 = .ok (.ireturn, 1) := by decide +kernel
theorem dL_law_611 : decode cL_law 611 = .ok (.aload_n 1, 1) := by decide +kernel
theorem dL_law_612 : decode cL_law 612 = .ok (.invokevirtual 90, 3) := by decide +kernel
theorem dL_law_615 : decode cL_law 615 = .ok (.aload_n 2, 1) := by decide +kernel
theorem dL_law_616 : decode cL_law 616 = .ok (.invokevirtual 93, 3) := by decide +kernel
theorem dL_law_619 : decode cL_law 619 = .ok (.if_icmp .eq 55, 3) := by decide +kernel
theorem dL_law_622 : decode cL_law 622 = .ok (.iconst 0, 1) := by decide +kernel
theorem dL_law_623 : decode cL_law 623 = .ok (.ireturn, 1) := by decide +kernel
theorem dL_law_624 : decode cL_law 624 = .ok (.aload_n 1, 1) := by decide +kernel
theorem dL_law_625 : decode cL_law 625 = .ok (.invokevirtual 94, 3) := by decide +kernel
theorem dL_law_628 : decode cL_law 628 = .ok (.aload_n 2, 1) := by decide +kernel
theorem dL_law_629 : decode cL_law 629 = .ok (.invokevirtual 97, 3) := by decide +kernel
theorem dL_law_632 : decode cL_law 632 = .ok (.if_icmp .eq 42, 3) := by decide +kernel
theorem dL_law_635 : decode cL_law 635 = .ok (.iconst 0, 1) := by decide +kernel
theorem dL_law_636 : decode cL_law 636 = .ok (.ireturn, 1) := by decide +kernel
theorem dL_law_637 : decode cL_law 637 = .ok (.aload_n 1, 1) := by decide +kernel
theorem dL_law_638 : decode cL_law 638 = .ok (.aload_n 0, 1) := by decide +kernel
theorem dL_law_639 : decode cL_law 639 = .ok (.iload_n 3, 1) := by decide +kernel
theorem dL_law_640 : decode cL_law 640 = .ok (.iconst 1, 1) := by decide +kernel
theorem dL_law_641 : decode cL_law 641 = .ok (.iadd, 1) := by decide +kernel
theorem dL_law_642 : decode cL_law 642 = .ok (.iaload, 1) := by decide +kernel
theorem dL_law_643 : decode cL_law 643 = .ok (.invokevirtual 98, 3) := by decide +kernel
theorem dL_law_646 : decode cL_law 646 = .ok (.aload_n 2, 1) := by decide +kernel
theorem dL_law_647 : decode cL_law 647 = .ok (.aload_n 0, 1) := by decide +kernel
theorem dL_law_648 : decode cL_law 648 = .ok (.iload_n 3, 1) := by decide +kernel
theorem dL_law_649 : decode cL_law 649 = .ok (.iconst 1, 1) := by decide +kernel
theorem dL_law_650 : decode cL_law 650 = .ok (.iadd, 1) := by decide +kernel
theorem dL_law_651 : decode cL_law 651 = .ok (.iaload, 1) := by decide +kernel
theorem dL_law_652 : decode cL_law 652 = .ok (.invokevirtual 101, 3) := by decide +kernel
theorem dL_law_655 : decode cL_law 655 = .ok (.if_icmp .eq 19, 3) := by decide +kernel
theorem dL_law_658 : decode cL_law 658 = .ok (.iconst 0, 1) := by decide +kernel
theorem dL_law_659 : decode cL_law 659 = .ok (.ireturn, 1) := by decide +kernel
theorem dL_law_660 : decode cL_law 660 = .ok (.aload_n 1, 1) := by decide +kernel
theorem dL_law_661 : decode cL_law 661 = .ok (.invokevirtual 102, 3) := by decide +kernel
theorem dL_law_664 : decode cL_law 664 = .ok (.aload_n 2, 1) := by decide +kernel
theorem dL_law_665 : decode cL_law 665 = .ok (.invokevirtual 105, 3) := by decide +kernel
theorem dL_law_668 : decode cL_law 668 = .ok (.lcmp, 1) := by decide +kernel
theorem dL_law_669 : decode cL_law 669 = .ok (.ifCond .eq 5, 3) := by decide +kernel
theorem dL_law_672 : decode cL_law 672 = .ok (.iconst 0, 1) := by decide +kernel
theorem dL_law_673 : decode cL_law 673 = .ok (.ireturn, 1) := by decide +kernel
theorem dL_law_674 : decode cL_law 674 = .ok (.iinc 3 4, 3) := by decide +kernel
theorem dL_law_677 : decode cL_law 677 = .ok (.goto (-659), 3) := by decide +kernel
theorem dL_law_680 : decode cL_law 680 = .ok (.iconst 1, 1) := by decide +kernel
theorem dL_law_681 : decode cL_law 681 = .ok (.ireturn, 1) := by decide +kernel
end
section
/-! the memory by keys: what the system's cells hold, wherever they lie -/
abbrev zK : Type := Nat × Nat × Nat
abbrev zM : Type := Nat × (zK → va_E)
def z_sb (i : Nat) : Nat := if i < 2 then 1 + 120 * i else 2 + 120 * i
def z_lay : zK → Nat := fun q =>
  if q.1 = 0 then 0
  else if q.1 ≤ 4 then z_sb q.2.1 + (q.1 - 1)
  else if q.1 ≤ 11 then z_sb q.2.1 + 4 + 7 * q.2.2 + (q.1 - 5)
  else if q.1 ≤ 15 then z_sb q.2.1 + 116 + (q.1 - 12)
  else if q.1 = 22 then 241
  else if q.1 ≤ 21 then 962 + (q.1 - 16)
  else 968 + (q.1 - 23)
def z_sk (i r : Nat) : zK := if r < 4 then (1 + r, i, 0) else if r < 116 then (5 + (r - 4) % 7, i, (r - 4) / 7) else (12 + (r - 116), i, 0)
def z_key : Nat → zK := fun n =>
  if n = 0 then (0, 0, 0)
  else if n < 241 then z_sk ((n - 1) / 120) ((n - 1) % 120)
  else if n = 241 then (22, 0, 0)
  else if n < 962 then z_sk ((n - 2) / 120) ((n - 2) % 120)
  else if n < 968 then (16 + (n - 962), 0, 0)
  else (23 + (n - 968), 0, 0)
theorem z_key_lay : ∀ n, n < 994 → z_lay (z_key n) = n := by decide +kernel
/-- a world: where the run's cells begin, what the tables say of classes, array classes, where the static arrays lie, the script -/
abbrev zW : Type := Nat × va_G × (Nat → ClassId) × (Nat → Nat) × Nat × Nat × (Nat → Int32)
def z_adr (o : zW) (k : zK) : Nat := o.1 + z_lay k
def z_ok (n : Nat) (k : zK) : Prop := z_lay k < n ∧ z_key (z_lay k) = k
def z_ws (o : zW) (M : zM) : va_W := (List.range M.1).map fun j => (o.1 + j, M.2 (z_key j))
def z_up (e : zK → va_E) (k : zK) (x : va_E) : zK → va_E := fun q => if q = k then x else e q
abbrev z_tys (o : zW) : List (ClassId × FieldType) := [(o.2.2.1 0, .int), (o.2.2.1 1, .long), (o.2.2.1 2, .float), (o.2.2.1 3, .object "LateLines$Box"), (o.2.2.1 4, .object "LateLines$State")]
def z_A (o : zW) : Nat → Prop := fun q => o.1 ≤ q
def z_Rel (o : zW) (M : zM) (H : Heap) : Prop := va_P o.2.1 vwCl (z_ws o M) H ∧ H.size = o.1 + M.1 ∧ M.1 ≤ 994
theorem z_ws_get {o : zW} {M : zM} {k : zK} (h : z_ok M.1 k) : (z_ws o M)[z_lay k]? = some (z_adr o k, M.2 k) := by
  simp only [z_ws, List.getElem?_map, List.getElem?_range h.1, Option.map_some, h.2, z_adr]
theorem z_ws_set {o : zW} {n : Nat} {e : zK → va_E} {k : zK} {x : va_E} (h : z_ok n k) (hn : n ≤ 994) : (z_ws o (n, e)).set (z_lay k) (z_adr o k, x) = z_ws o (n, z_up e k x) := by
  apply List.ext_getElem?
  intro j
  by_cases hj : j = z_lay k
  · subst hj
    rw [z_ws_get (M := (n, z_up e k x)) h, List.getElem?_set_self (by simp [z_ws]; exact h.1)]
    simp [z_up]
  · rw [List.getElem?_set_ne (Ne.symm hj)]
    simp only [z_ws, List.getElem?_map]
    by_cases hl : j < n
    · rw [List.getElem?_range hl]
      simp only [Option.map_some, z_up]
      rw [if_neg]
      intro hk
      have := z_key_lay j (by omega)
      rw [hk] at this
      exact hj this.symm
    · rw [List.getElem?_eq_none (by simp; omega)]
      rfl
theorem z_ws_push {o : zW} {n : Nat} {e : zK → va_E} {k : zK} {x : va_E} (h : z_key n = k) (hk : z_lay k = n) (hn : n < 994) : z_ws o (n, e) ++ [(o.1 + n, x)] = z_ws o (n + 1, z_up e k x) := by
  simp only [z_ws, List.range_succ, List.map_append, List.map_cons, List.map_nil]
  congr 1
  · apply List.map_congr_left
    intro j hj
    have hj' := List.mem_range.mp hj
    simp only [z_up]
    rw [if_neg]
    intro hc
    have := z_key_lay j (by omega)
    rw [hc, hk] at this
    omega
  · simp [z_up, h]
theorem z_ws_D (o : zW) (M : zM) : va_D (z_A o) (z_ws o M) := by
  refine ⟨fun i j p q hi hj hpq => ?_, fun k q hk => ?_⟩
  · simp only [z_ws, List.getElem?_map] at hi hj
    by_cases h1 : i < M.1
    · by_cases h2 : j < M.1
      · rw [List.getElem?_range h1] at hi
        rw [List.getElem?_range h2] at hj
        simp only [Option.map_some, Option.some.injEq] at hi hj
        subst hi; subst hj
        simp at hpq
        exact hpq
      · rw [List.getElem?_eq_none (by simp; omega)] at hj; simp at hj
    · rw [List.getElem?_eq_none (by simp; omega)] at hi; simp at hi
  · have := List.mem_of_getElem? hk
    simp only [z_ws, List.mem_map] at this
    obtain ⟨j, -, rfl⟩ := this
    show o.1 ≤ o.1 + j
    omega
/-! the tables' words that stay -/
def z_good : Cond → Bool
  | .fieldLinkNest .. => true
  | .methodLinkNest .. => true
  | .arrayClass _ => true
  | .arrayOver (.object _) => true
  | w => w.onTables && w.keeps
def z_Tab (U : State) : Prop := ∀ w ∈ lw_tbl, z_good w = true → w.before #[] U = true
theorem z_Tab_moved {s U : State} (hW : s.WarmedH U.vm) (h : z_Tab s) : z_Tab U := by
  intro w hw hg
  have hb := h w hw hg
  cases w with
  | fieldLinkNest a i b n d h => exact va_Nw.warmF hW hb
  | methodLinkNest a i x h => exact va_Nw.warmM hW hb
  | arrayClass ty => exact word_at hW (Or.inr ⟨_, rfl⟩) hb
  | arrayOver t =>
    cases t with
    | object C => exact va_AO.moved hW.alike hb
    | _ => exact word_at hW (Or.inl hg) hb
  | _ => exact word_at hW (Or.inl hg) hb
theorem z_Tab_same {s U : State} (hv : s.vm = U.vm) (h : z_Tab s) : z_Tab U := by
  have hW : s.WarmedH U.vm := by rw [← hv]; exact State.WarmedH.refl s
  exact z_Tab_moved hW h
theorem z_Tab_of {A : Array Value} {s : State} (h : ∀ w ∈ lw_tbl, w.before A s = true) : z_Tab s := by
  intro w hw hg
  have hb := h w hw
  cases w with
  | fieldLinkNest a i b n d h => exact va_Nw.of rfl hb
  | methodLinkNest a i x h => exact va_Nw.of rfl hb
  | arrayClass ty => exact hb
  | arrayOver t =>
    cases t with
    | object C => exact hb
    | _ => simp [z_good, Cond.onTables, Cond.keeps, Cond.steady] at hg
  | _ => exact va_Nw.of (by simp only [z_good, Bool.and_eq_true] at hg; exact hg.1) hb
theorem z_use {w : Cond} {A : Array Value} {U : State} (h : z_Tab U) (hw : w ∈ lw_tbl) (hg : z_good w = true) (ht : w.onTables = true) : w.before A U = true := va_Nw.use ht (h w hw hg)
end
section
/-! what stays from frame to frame: classes, words, static arrays, the script -/
def z_st (i j : Nat) : Int32 := match i, j with
  | 0, 0 => 2 | 0, 1 => 1 | 0, 2 => 2 | 0, 3 => 2 | 0, 4 => 6
  | 1, 0 => 1 | 1, 1 => 0 | 1, 2 => 1 | 1, 3 => 1 | 1, 4 => 1
  | 2, 0 => 3 | 2, 1 => 3 | 2, 2 => 4 | 2, 3 => 4 | 2, 4 => 20
  | _, _ => 0
def z_sn (i : Nat) : String := if i = 0 then "AT_FIRST" else if i = 1 then "LEAST" else "GREATEST"
abbrev z_Cst (o : zW) (U : State) : Prop := va_K o.2.1 vwCl (z_tys o) U ∧ z_Tab U
def z_Ext (o : zW) (U : State) (H : Heap) : Prop :=
  (va_X o.2.2.2.2.1 o.2.2.2.2.2.1 o.2.2.2.2.2.2 U H ∧ o.2.2.2.2.1 < o.1) ∧ ∀ i, i < 3 → va_Z "LateLines" (z_sn i) "[I" (.ref (o.2.2.2.1 i)) (z_A o) U H ∧ va_T .int (o.2.2.2.1 i) 5 (fun j => .int (z_st i j)) (z_A o) U H
theorem z_Cst_moved {o : zW} {s U : State} (hW : s.WarmedH U.vm) (h : z_Cst o s) : z_Cst o U := ⟨va_K.moved hW.alike h.1, z_Tab_moved hW h.2⟩
theorem z_Ext_moved {o : zW} {s U : State} {H H1 : Heap} (hW : s.vm.Alike U.vm) (hz : o.1 ≤ H.size) (hq : ∀ a : Nat, a < H.size → ¬ z_A o a → H1[a]? = H[a]?) (h : z_Ext o s H) : z_Ext o U H1 := by
  refine ⟨⟨?_, h.1.2⟩, fun i hi => ⟨?_, ?_⟩⟩
  · exact (va_X.moved hW h.1.1).kept (hq _ (by have := h.1.2; omega) (by have := h.1.2; show ¬ o.1 ≤ _; omega))
  · exact (va_Z.moved hW (h.2 i hi).1).kept hq
  · exact (va_T.moved hW (h.2 i hi).2).kept hq
/-- a method: name, code, locals, what it returns, frames and words of locals that its calls need -/
abbrev zD : Type := MethodName × ByteArray × Nat × Option FieldType × Nat × Nat
abbrev z_y (d : zD) : MethodName := d.1
abbrev z_cc (d : zD) : ByteArray := d.2.1
abbrev z_nl (d : zD) : Nat := d.2.2.1
abbrev z_rt (d : zD) : Option FieldType := d.2.2.2.1
abbrev z_fr (d : zD) : Nat := d.2.2.2.2.1
abbrev z_lo (d : zD) : Nat := d.2.2.2.2.2
def z_CX (o : zW) (d : zD) (p : Program) (R : Room) (s : State) (m : MethodId) (meth : Method) (c : Code) : Prop :=
  p.tables.exec = Jvm.exec ∧ c.code = z_cc d ∧ meth.sig.returnType = z_rt d ∧ c.maxLocals = z_nl d ∧ s.vm.findClass (z_y d).cls = some m.cls ∧ meth.locks = false ∧ meth.name = (z_y d).name ∧
  z_Cst o s ∧ z_Ext o s s.heap ∧ z_fr d ≤ R.frames ∧ z_lo d ≤ R.locals ∧ o.1 ≤ s.heap.size
def z_Ret (d : zD) (pc : Nat) (r : Option Value) : Prop := match r with
  | none => decode (z_cc d) pc = .ok (.return_, 1) ∧ z_rt d = none
  | some (.int v) => decode (z_cc d) pc = .ok (.ireturn, 1) ∧ ∃ ty, z_rt d = some ty ∧ narrow ty (.int v) = .int v
  | some (.long _) => decode (z_cc d) pc = .ok (.lreturn, 1) ∧ z_rt d = some .long
  | some (.float _) => decode (z_cc d) pc = .ok (.freturn, 1) ∧ z_rt d = some .float
  | some (.double _) => decode (z_cc d) pc = .ok (.dreturn, 1) ∧ z_rt d = some .double
  | some .null => decode (z_cc d) pc = .ok (.areturn, 1) ∧ ∃ n, z_rt d = some (.object n)
  | some (.ref _) => decode (z_cc d) pc = .ok (.areturn, 1) ∧ ∃ n, z_rt d = some (.object n)
  | _ => False
def z_END (o : zW) (d : zD) (p : Program) (l : Launch) (e : Env) (R : Room) (s : State) (m : MethodId) (args : Array Value) (below : List Frame) (meth : Method) (c : Code) (tc ts : Nat) (Z : State → Prop) (Q : Option Value → zM → Prop) : Prop :=
  ∀ (pc : Nat) (r : Option Value) (M : zM) (H : Heap) (locs : List Loc) (ls : Array Slot), z_Ret d pc r → Q r M → z_Rel o M H → va_S (z_A o) s.heap H locs → W p l e R s m args below meth c H locs tc ts Z (F0 m pc ls r.toList)
/-- THE JUDGEMENT: from place pc of method d, with these locals, stack and memory, the method returns r in a memory M with Q r M; it makes at most mc cells of ms slots -/
def zJ (o : zW) (d : zD) (pc : Nat) (lv : List (Nat × Value)) (st : List Value) (M : zM) (mc ms : Nat) (Q : Option Value → zM → Prop) : Prop :=
  ∀ (p : Program) (l : Launch) (e : Env) (R : Room) (s : State) (m : MethodId) (args : Array Value) (below : List Frame) (meth : Method) (c : Code) (tc ts : Nat) (Z : State → Prop),
    tc ≤ R.cells ∧ ts ≤ R.slots → z_CX o d p R s m meth c → z_END o d p l e R s m args below meth c tc ts Z Q →
    ∀ (H : Heap) (locs : List Loc) (cells slots : Nat) (ls : Array Slot), z_Rel o M H → va_S (z_A o) s.heap H locs → lv_has ls (z_nl d) lv → cells + mc ≤ tc ∧ slots + ms ≤ ts → W p l e R s m args below meth c H locs cells slots Z (F0 m pc ls st)
theorem zJ.mono {o : zW} {d : zD} {pc : Nat} {lv : List (Nat × Value)} {st : List Value} {M : zM} {mc ms : Nat} {Q Q' : Option Value → zM → Prop} (h : zJ o d pc lv st M mc ms Q) (hQ : ∀ r M', Q r M' → Q' r M') : zJ o d pc lv st M mc ms Q' := by
  intro p l e R s m args below meth c tc ts Z hR C E
  exact h p l e R s m args below meth c tc ts Z hR C (fun pc r M H locs ls h1 h2 => E pc r M H locs ls h1 (hQ r M h2))
theorem zJ.sub {o : zW} {d : zD} {pc : Nat} {lv lv' : List (Nat × Value)} {st : List Value} {M : zM} {mc ms : Nat} {Q : Option Value → zM → Prop} (ks : List Nat) (hl : lv_pick lv ks = lv') (h : zJ o d pc lv' st M mc ms Q) : zJ o d pc lv st M mc ms Q := by
  intro p l e R s m args below meth c tc ts Z hR C E H locs cells slots ls h1 h2 h3 h4
  exact h p l e R s m args below meth c tc ts Z hR C E H locs cells slots ls h1 h2 (lv_sub h3 ks hl) h4
theorem zJ.ret {o : zW} {d : zD} {pc : Nat} {lv : List (Nat × Value)} {r : Option Value} {M : zM} {mc ms : Nat} {Q : Option Value → zM → Prop} (hr : z_Ret d pc r) (hQ : Q r M) : zJ o d pc lv r.toList M mc ms Q := by
  intro p l e R s m args below meth c tc ts Z hR C E H locs cells slots ls h1 h2 h3 h4
  exact W.widen (by omega) (by omega) (E pc r M H locs ls hr hQ h1 h2)
/-! a method's contract out of the judgement at its entry -/
def z_B (o : zW) (M : zM) (U : State) : Prop := z_Rel o M U.heap ∧ z_Cst o U ∧ z_Ext o U U.heap
def z_Qc (o : zW) (K : Option Value → zM → Prop) : Array Value → State → Outcome → State → Prop := fun _ st oc t => (∃ (r : Option Value) (M : zM), oc = .returned r ∧ K r M ∧ z_Rel o M t.heap) ∧ va_F (z_A o) st t
theorem z_END_met {o : zW} {d : zD} {p : Program} {l : Launch} {e : Env} {R : Room} {s : State} {m : MethodId} {args : Array Value} {below : List Frame} {meth : Method} {c : Code} {mc ms : Nat} {K : Option Value → zM → Prop} (C : z_CX o d p R s m meth c) :
    z_END o d p l e R s m args below meth c mc ms (MQ below (z_Qc o K) args s mc ms (z_A o)) K := by
  intro pc r M H locs ls hr hQ hR hS
  obtain ⟨hx, hb, hrt, hml, hown, hlk, -⟩ := C
  have hq : ∀ t : State, t.heap = H → s.WarmedH t.vm → z_Qc o K args s (.returned r) t := fun t ht hW => ⟨⟨r, M, rfl, hQ, by rw [ht]; exact hR⟩, hS.F ht⟩
  match r, hr, hq with
  | none, hr, hq => exact W.vret hx hb (hrt.trans hr.2) hq hS.2.2 hr.1 hlk
  | some (.int v), ⟨h1, ty, h2, h3⟩, hq => exact W.zret hx hb (hrt.trans h2) h3 hq hS.2.2 h1 hlk
  | some (.long v), hr, hq => exact W.lret hx hb (hrt.trans hr.2) hq hS.2.2 hr.1 hlk
  | some (.float v), hr, hq => exact W.fret hx hb (hrt.trans hr.2) hq hS.2.2 hr.1 hlk
  | some (.double v), hr, hq => exact W.dret hx hb (hrt.trans hr.2) hq hS.2.2 hr.1 hlk
  | some .null, ⟨h1, n, h2⟩, hq => exact W.aret hx hb (hrt.trans h2) (Or.inl ⟨n, rfl⟩) (Or.inl rfl) hq hS.2.2 h1 hlk
  | some (.ref a), ⟨h1, n, h2⟩, hq => exact W.aret hx hb (hrt.trans h2) (Or.inl ⟨n, rfl⟩) (Or.inr ⟨a, rfl⟩) hq hS.2.2 h1 hlk
theorem z_ofW {l : Launch} {y : MethodName} {ws ws' : List Cond} {rm : Room} {Pc : Array Value → State → Prop} {Qc : Array Value → State → Outcome → State → Prop} {mc ms : Nat} {free : Addr → Prop} {cc : ByteArray} {maxL : Nat} {ret : Option FieldType}
    (hy : plainFor y = true) (hw : ws = Cond.code y cc maxL ret :: ws')
    (body : ∀ p e s m args below meth c s₁, BodyLoose p l y (headSpec ws rm) cc maxL ret e s m args below meth c s₁ → c.maxLocals = maxL → Pc args s →
      W p l e (headSpec ws rm).room s m args below meth c s.heap [] 0 0 (MQ below Qc args s mc ms free) (entryFrame m args maxL)) : Met l y ws rm Pc Qc mc ms free := by
  refine MetFree.of_bodySF (code := cc) (maxLocals := maxL) (ret := ret) hy ?_ ?_
  · intro args s m h hn
    obtain ⟨meth, c, h1, h2, h3, h4, h5, h6, -, -⟩ := Cond.code_spec hn (atoms_spec (ws := ws) h _ (by rw [hw]; exact List.mem_cons_self))
    exact ⟨meth, c, h1, h2, h3, h4, h5, h6⟩
  · intro p e s m args below meth c s₁ B hml hP _
    have hh0 : s₁.heap = s.heap := by rw [B.state]; rfl
    obtain ⟨t, a1, o, b1, b2, b3⟩ := body p e s m args below meth c s₁ B hml hP s₁ hh0 (Stand.of_body B)
    exact ⟨t, o, a1, b1, b2, ⟨b3.1, b3.2⟩⟩
theorem z_met (l : Launch) {o : zW} {d : zD} {As : List Value} {M : zM} {mc ms : Nat} {K : Option Value → zM → Prop} (hp : plainFor (z_y d) = true) (hsz : (lg_sl As).length ≤ z_nl d) (h : zJ o d 0 (lv_args 0 As) [] M mc ms K) :
    Met l (z_y d) [.code (z_y d) (z_cc d) (z_nl d) (z_rt d)] ({ frames := z_fr d, cells := mc, slots := ms, locals := z_lo d }) (va_Pc As (z_B o M)) (z_Qc o K) mc ms (z_A o) := by
  refine z_ofW (cc := z_cc d) (maxL := z_nl d) (ret := z_rt d) hp rfl ?_
  intro p e s m args below meth c s₁ B hml hv
  obtain ⟨rfl, hR, hC, hX⟩ := hv
  have hown : s.vm.findClass (z_y d).cls = some m.cls := findClass_of_methodNamed B.named
  have hnm : meth.name = (z_y d).name := (name_of_methodNamed B.named B.method).1
  have C : z_CX o d p (headSpec [.code (z_y d) (z_cc d) (z_nl d) (z_rt d)] ({ frames := z_fr d, cells := mc, slots := ms, locals := z_lo d })).room s m meth c :=
    ⟨B.exec, B.bytes, B.returns, hml, hown, B.notSynchronized, hnm, hC, hX, Nat.le_refl _, Nat.le_refl _, by have := hR.2.1; omega⟩
  rw [lg_entry_eq]
  exact h p l e _ s m _ below meth c mc ms _ ⟨Nat.le_refl _, Nat.le_refl _⟩ C (z_END_met C) s.heap [] 0 0 _ hR va_S.rf (lv_entry As hsz) ⟨by omega, by omega⟩
theorem z_blind {o : zW} {As : List Value} {M : zM} : FrameBlind (va_Pc As (z_B o M)) := by
  intro a U g mk hq
  obtain ⟨h1, h2, ⟨h3, h4⟩, h5⟩ := hq
  exact ⟨h1, h2, ⟨va_K.moved (u := U) (U := U.calling g mk a) (Vm.Alike.refl U.vm) h3, z_Tab_same (s := U) (U := U.calling g mk a) rfl h4⟩, z_Ext_moved (s := U) (U := U.calling g mk a) (Vm.Alike.refl U.vm) (H := U.heap) (by have := h2.2.1; omega) (fun a _ _ => rfl) h5⟩
theorem z_pre {o : zW} {d : zD} {p : Program} {R : Room} {s U : State} {m : MethodId} {meth : Method} {c : Code} {M : zM} {H : Heap} {locs : List Loc} (C : z_CX o d p R s m meth c) (hR : z_Rel o M H) (hS : va_S (z_A o) s.heap H locs) (hU : U.heap = H) (hW : s.WarmedH U.vm) : z_B o M U := by
  obtain ⟨-, -, -, -, -, -, -, hC, hX, -, -, hz⟩ := C
  refine ⟨by rw [hU]; exact hR, z_Cst_moved hW hC, ?_⟩
  rw [hU]
  exact z_Ext_moved hW.alike hz hS.2.1 hX
section ZRUN
variable {p : Program} {l : Launch} {e : Env} {R : Room} {s : State} {m : MethodId} {args : Array Value} {below : List Frame} {meth : Method} {c : Code} {H : Heap} {locs : List Loc} {cells slots : Nat} {Z : State → Prop}
theorem z_run {o : zW} {K : Option Value → zM → Prop} {pc mc ms : Nat} {ls : Array Slot} {st0 rest : List Value} {a : Array Value}
    (hr : va_Run p l e R s m args below meth c H locs cells slots mc ms (F0 m pc ls st0) rest (z_Qc o K a) (z_A o)) (hS : va_S (z_A o) s.heap H locs)
    (kk : ∀ (r : Option Value) (M1 : zM) (H1 : Heap) (locs1 : List Loc), K r M1 → z_Rel o M1 H1 → va_S (z_A o) s.heap H1 locs1 → W p l e R s m args below meth c H1 locs1 (cells + mc) (slots + ms) Z (F0 m (pc + 3) ls (r.toList ++ rest))) :
    W p l e R s m args below meth c H locs cells slots Z (F0 m pc ls st0) := by
  intro T hT X
  obtain ⟨v, st₀, t, T', L, h0, X', hL, e1, e2, ⟨⟨r, M1, hv, hK, hR1⟩, hz, hk⟩, st⟩ := hr T hT X
  cases hv
  rw [h0] at hz hk
  obtain ⟨t2, a1, b1⟩ := kk v M1 T'.heap (locs ++ L) hK (by rw [e1]; exact hR1)
    ⟨Nat.le_trans hS.1 (by rw [e1]; exact hz), fun q h1 h2 => by rw [e1, hk q (Nat.lt_of_lt_of_le h1 hS.1) h2]; exact hS.2.1 q h1 h2, fun q hq => by
      rcases List.mem_append.mp hq with h | h
      · exact hS.2.2 q h
      · exact hL q h⟩ T' rfl X'
  exact ⟨t2, st t2 a1, b1⟩
end ZRUN
/-- what the tables must say of a call: of the method called (static part), its room under the caller's -/
abbrev z_LB (d d2 : zD) (n : Nat) : Prop :=
  (plainFor (z_y d2) = true ∧ (Cond.code (z_y d2) (z_cc d2) (z_nl d2) (z_rt d2)) ∈ lw_tbl ∧ (Cond.initialized (z_y d2).cls) ∈ lw_tbl) ∧
  ((z_y d2).cls ≠ "java/lang/invoke/MethodHandle" ∧ (z_y d2).cls ≠ "java/lang/invoke/VarHandle" ∧ (parseMethodDescriptor (z_y d2).desc).map (fun q => q.parameters.length) = some n) ∧
  (z_fr d2 + 1 ≤ z_fr d ∧ 8 + (z_nl d2 + 11) + z_lo d2 ≤ z_lo d)
abbrev z_ML (d : zD) (idx : Nat) (d2 : zD) : Prop := Cond.methodLink (z_y d).cls idx (z_y d2) ∈ lw_tbl ∨ Cond.methodLinkNest (z_y d).cls idx (z_y d2) "LateLines" ∈ lw_tbl
section ZCALL
variable {o : zW} {d d2 : zD} {pc idx n : Nat} {lv : List (Nat × Value)} {As rest : List Value} {M : zM} {mc ms mc1 ms1 mc2 ms2 : Nat} {Q K : Option Value → zM → Prop}
theorem z_code_word {d2 : zD} {s U : State} (hT : z_Tab s) (hc : (Cond.code (z_y d2) (z_cc d2) (z_nl d2) (z_rt d2)) ∈ lw_tbl) (hW : s.WarmedH U.vm) (a' : Array Value) : (Cond.code (z_y d2) (z_cc d2) (z_nl d2) (z_rt d2)).before a' U = true :=
  z_use (z_Tab_moved hW hT) hc rfl rfl
theorem z_cb {p : Program} {R : Room} {s : State} {m : MethodId} {args : Array Value} {meth : Method} {c : Code} (C : z_CX o d p R s m meth c) (hb : z_LB d d2 n) (hl : Cond.methodLink (z_y d).cls idx (z_y d2) ∈ lw_tbl) :
    CallB R s args (z_y d).cls idx (z_y d2) (z_cc d2) (z_nl d2) (z_rt d2) [.code (z_y d2) (z_cc d2) (z_nl d2) (z_rt d2)] ({ frames := z_fr d2, cells := mc1, slots := ms1, locals := z_lo d2 }) mc1 ms1 n := by
  obtain ⟨-, -, -, -, -, -, -, ⟨hK, hT⟩, -, hf, hlo, -⟩ := C
  obtain ⟨⟨h1, h2, h3⟩, ⟨h4, h5, h6⟩, h7, h8⟩ := hb
  refine ⟨rfl, rfl, Nat.le_trans h7 hf, Nat.le_trans h8 hlo, ?_, List.mem_cons_self, z_use hT h2 rfl rfl, z_use hT h3 rfl rfl, ⟨h4, h5⟩, fun sig h => ?_, z_use hT hl rfl rfl⟩
  · intro w hw a' U hW
    have hw' : w = _ := List.mem_singleton.mp hw
    subst hw'
    exact z_code_word hT h2 hW a'
  · rw [h] at h6
    exact (Option.some.inj h6).symm
theorem z_cn {p : Program} {R : Room} {s : State} {m : MethodId} {args : Array Value} {meth : Method} {c : Code} (C : z_CX o d p R s m meth c) (hb : z_LB d d2 n) (hl : Cond.methodLinkNest (z_y d).cls idx (z_y d2) "LateLines" ∈ lw_tbl) :
    va_CN R s args (z_y d).cls idx (z_y d2) "LateLines" (z_cc d2) (z_nl d2) (z_rt d2) [.code (z_y d2) (z_cc d2) (z_nl d2) (z_rt d2)] ({ frames := z_fr d2, cells := mc1, slots := ms1, locals := z_lo d2 }) mc1 ms1 n := by
  obtain ⟨-, -, -, -, -, -, -, ⟨hK, hT⟩, -, hf, hlo, -⟩ := C
  obtain ⟨⟨h1, h2, h3⟩, ⟨h4, h5, h6⟩, h7, h8⟩ := hb
  refine ⟨⟨rfl, rfl, Nat.le_trans h7 hf, Nat.le_trans h8 hlo, ?_, List.mem_cons_self⟩, z_use hT h2 rfl rfl, z_use hT h3 rfl rfl, ⟨h4, h5⟩, fun sig h => ?_, z_use hT hl rfl rfl⟩
  · intro w hw a' U hW
    have hw' : w = _ := List.mem_singleton.mp hw
    subst hw'
    exact z_code_word hT h2 hW a'
  · rw [h] at h6
    exact (Option.some.inj h6).symm
/-- a static method called -/
theorem zJ.callS (hd : decode (z_cc d) pc = .ok (.invokestatic idx, 3)) (hb : z_LB d d2 n) (hl : z_ML d idx d2) (hst : Cond.static (z_y d2) ∈ lw_tbl) (hn : As.length = n) (hsz : (lg_sl As).length ≤ z_nl d2) (hcat : (rest.map fun v => v.category).sum ≤ 8) (stk : List Value) (hstk : stk = As.reverse ++ rest)
    (h : zJ o d2 0 (lv_args 0 As) [] M mc1 ms1 K) (hm : mc1 + mc2 ≤ mc ∧ ms1 + ms2 ≤ ms) (kk : ∀ r M1, K r M1 → zJ o d (pc + 3) lv (r.toList ++ rest) M1 mc2 ms2 Q) : zJ o d pc lv stk M mc ms Q := by
  subst hstk
  intro p l e R s m args below meth c tc ts Z hR C E H locs cells slots ls h1 h2 h3 h4
  have C' := C
  obtain ⟨hx, hbt, hrt, hml, hown, hlk, hnm, ⟨hK, hT⟩, hX, hf, hlo, hz⟩ := C'
  have hp : PreS s H (va_Pc As (z_B o M)) As := ⟨z_blind, fun U hU hW => ⟨rfl, z_pre C h1 h2 hU hW⟩⟩
  have hcat' := lv_room (m := m) (pc := pc) (ls := ls) (rest := As.reverse ++ rest) hcat
  have fin : ∀ (r : Option Value) (M1 : zM) (H1 : Heap) (locs1 : List Loc), K r M1 → z_Rel o M1 H1 → va_S (z_A o) s.heap H1 locs1 → W p l e R s m args below meth c H1 locs1 (cells + mc1) (slots + ms1) Z (F0 m (pc + 3) ls (r.toList ++ rest)) :=
    fun r M1 H1 locs1 k1 k2 k3 => kk r M1 k1 p l e R s m args below meth c tc ts Z hR C E H1 locs1 _ _ ls k2 k3 h3 ⟨by omega, by omega⟩
  rcases hl with hl | hl
  · exact z_run (va_runS (As := As) (rest := rest) (Ts := []) ⟨hx, hbt, hml, hown, fun w hw => absurd hw List.not_mem_nil⟩ (z_met l hb.1.1 hsz h) ⟨z_cb C hb hl, z_use hT hst rfl rfl⟩ hp rfl hn h3.1 rfl hcat' hd ⟨by omega, by omega⟩) h2 fin
  · exact z_run (va_runSN (As := As) (rest := rest) (Ts := []) ⟨hx, hbt, hml, hown, fun w hw => absurd hw List.not_mem_nil⟩ (z_met l hb.1.1 hsz h) ⟨z_cn C hb hl, z_use hT hst rfl rfl, trivial⟩ hp rfl hn h3.1 rfl hcat' hd ⟨by omega, by omega⟩) h2 fin
/-- a method of an object called -/
theorem zJ.callV (hd : decode (z_cc d) pc = .ok (.invokevirtual idx, 3)) (hb : z_LB d d2 n) (hl : z_ML d idx d2) (hin : Cond.instanceMethod (z_y d2) ∈ lw_tbl) (hse : Cond.selects (z_y d2).cls (z_y d2) (z_y d2) ∈ lw_tbl) {k : zK} (hk : z_ok M.1 k) {ci : Nat} {fs : List Value} (he : M.2 k = .inr (ci, fs)) {T : u_T} {N : Nat} (hcl : vwCl[ci]? = some ((z_y d2).cls, T, N))
    (hn : As.length = n) (hsz : (lg_sl (.ref (z_adr o k) :: As)).length ≤ z_nl d2) (hcat : (rest.map fun v => v.category).sum ≤ 8) (stk : List Value) (hstk : stk = As.reverse ++ .ref (z_adr o k) :: rest)
    (h : zJ o d2 0 (lv_args 0 (.ref (z_adr o k) :: As)) [] M mc1 ms1 K) (hm : mc1 + mc2 ≤ mc ∧ ms1 + ms2 ≤ ms) (kk : ∀ r M1, K r M1 → zJ o d (pc + 3) lv (r.toList ++ rest) M1 mc2 ms2 Q) : zJ o d pc lv stk M mc ms Q := by
  subst hstk
  intro p l e R s m args below meth c tc ts Z hR C E H locs cells slots ls h1 h2 h3 h4
  have C' := C
  obtain ⟨hx, hbt, hrt, hml, hown, hlk, hnm, ⟨hK, hT⟩, hX, hf, hlo, hz⟩ := C'
  have hrec := va_recv hK h1.1 (q := ((z_y d2).cls, T, N)) hcl (q0 := z_lay k) (a := z_adr o k) (fs := fs) (by rw [z_ws_get hk, he])
  have hp : PreV s H (z_y d2).cls (z_adr o k) (va_Pc (.ref (z_adr o k) :: As) (z_B o M)) As := ⟨z_blind, hrec, fun U hU hW => ⟨rfl, z_pre C h1 h2 hU hW⟩⟩
  have hcat' := lv_room (m := m) (pc := pc) (ls := ls) (rest := As.reverse ++ .ref (z_adr o k) :: rest) hcat
  have fin : ∀ (r : Option Value) (M1 : zM) (H1 : Heap) (locs1 : List Loc), K r M1 → z_Rel o M1 H1 → va_S (z_A o) s.heap H1 locs1 → W p l e R s m args below meth c H1 locs1 (cells + mc1) (slots + ms1) Z (F0 m (pc + 3) ls (r.toList ++ rest)) :=
    fun r M1 H1 locs1 k1 k2 k3 => kk r M1 k1 p l e R s m args below meth c tc ts Z hR C E H1 locs1 _ _ ls k2 k3 h3 ⟨by omega, by omega⟩
  rcases hl with hl | hl
  · exact z_run (va_runV (As := As) (rest := rest) (Ts := []) ⟨hx, hbt, hml, hown, fun w hw => absurd hw List.not_mem_nil⟩ (z_met l hb.1.1 hsz h) ⟨z_cb C hb hl, z_use hT hin rfl rfl, z_use hT hse rfl rfl⟩ hp rfl hn h3.1 rfl hcat' hd ⟨by omega, by omega⟩) h2 fin
  · exact z_run (va_runVN (As := As) (rest := rest) (Ts := []) ⟨hx, hbt, hml, hown, fun w hw => absurd hw List.not_mem_nil⟩ (z_met l hb.1.1 hsz h) ⟨z_cn C hb hl, z_use hT hin rfl rfl, z_use hT hse rfl rfl⟩ hp rfl hn h3.1 rfl hcat' hd ⟨by omega, by omega⟩) h2 fin
/-- a constructor called -/
theorem zJ.callI (hd : decode (z_cc d) pc = .ok (.invokespecial idx, 3)) (hb : z_LB d d2 n) (hl : z_ML d idx d2) (hin : Cond.instanceMethod (z_y d2) ∈ lw_tbl) (hini : (z_y d2).name = "<init>") (hrn : z_rt d2 = none) {b : Nat}
    (hn : As.length = n) (hsz : (lg_sl (.ref b :: As)).length ≤ z_nl d2) (hcat : (rest.map fun v => v.category).sum ≤ 8) (stk : List Value) (hstk : stk = As.reverse ++ .ref b :: rest)
    (h : zJ o d2 0 (lv_args 0 (.ref b :: As)) [] M mc1 ms1 K) (hm : mc1 + mc2 ≤ mc ∧ ms1 + ms2 ≤ ms) (kk : ∀ r M1, K r M1 → zJ o d (pc + 3) lv (r.toList ++ rest) M1 mc2 ms2 Q) : zJ o d pc lv stk M mc ms Q := by
  subst hstk
  intro p l e R s m args below meth c tc ts Z hR C E H locs cells slots ls h1 h2 h3 h4
  have C' := C
  obtain ⟨hx, hbt, hrt, hml, hown, hlk, hnm, ⟨hK, hT⟩, hX, hf, hlo, hz⟩ := C'
  have hp : PreS s H (va_Pc (.ref b :: As) (z_B o M)) (.ref b :: As) := ⟨z_blind, fun U hU hW => ⟨rfl, z_pre C h1 h2 hU hW⟩⟩
  have hcat' := lv_room (m := m) (pc := pc) (ls := ls) (rest := As.reverse ++ .ref b :: rest) hcat
  have fin : ∀ (r : Option Value) (M1 : zM) (H1 : Heap) (locs1 : List Loc), K r M1 → z_Rel o M1 H1 → va_S (z_A o) s.heap H1 locs1 → W p l e R s m args below meth c H1 locs1 (cells + mc1) (slots + ms1) Z (F0 m (pc + 3) ls (r.toList ++ rest)) :=
    fun r M1 H1 locs1 k1 k2 k3 => kk r M1 k1 p l e R s m args below meth c tc ts Z hR C E H1 locs1 _ _ ls k2 k3 h3 ⟨by omega, by omega⟩
  have hmt := z_met l hb.1.1 hsz h
  rcases hl with hl | hl
  · have hcb := z_cb (mc1 := mc1) (ms1 := ms1) (args := args) C hb hl
    rw [hrn] at hcb hmt
    exact z_run (va_runI (As := As) (rest := rest) (Ts := []) ⟨hx, hbt, hml, hown, fun w hw => absurd hw List.not_mem_nil⟩ hmt ⟨hcb, hini, z_use hT hin rfl rfl⟩ hp rfl hn h3.1 rfl hcat' hd ⟨by omega, by omega⟩) h2 fin
  · have hcb := z_cn (mc1 := mc1) (ms1 := ms1) (args := args) C hb hl
    rw [hrn] at hcb hmt
    exact z_run (va_runIN (As := As) (rest := rest) (Ts := []) ⟨hx, hbt, hml, hown, fun w hw => absurd hw List.not_mem_nil⟩ hmt ⟨hcb, hini, z_use hT hin rfl rfl⟩ hp rfl hn h3.1 rfl hcat' hd ⟨by omega, by omega⟩) h2 fin
end ZCALL
end
section
section ZR
variable {o : zW} {d : zD} {pc : Nat} {lv lv' : List (Nat × Value)} {st : List Value} {M : zM} {mc ms : Nat} {Q : Option Value → zM → Prop}

theorem zJ.iconst {n : Int} {v : Int32} (hd : decode (z_cc d) pc = .ok (.iconst n, 1)) (hv : Int32.ofInt n = v) (k : zJ o d (pc + 1) lv (.int v :: st) M mc ms Q) : zJ o d pc lv st M mc ms Q := by
  intro p l e R s m args below meth c tc ts Z hR C E H locs cells slots ls h1 h2 h3 h4
  exact lv_iconst C.1 C.2.1 hd hv (k p l e R s m args below meth c tc ts Z hR C E H locs cells slots ls h1 h2 h3 h4)
theorem zJ.bipush {n : Int} {v : Int32} (hd : decode (z_cc d) pc = .ok (.bipush n, 2)) (hv : (Int8.ofInt n).toInt32 = v) (k : zJ o d (pc + 2) lv (.int v :: st) M mc ms Q) : zJ o d pc lv st M mc ms Q := by
  intro p l e R s m args below meth c tc ts Z hR C E H locs cells slots ls h1 h2 h3 h4
  exact lv_bipush C.1 C.2.1 hd hv (k p l e R s m args below meth c tc ts Z hR C E H locs cells slots ls h1 h2 h3 h4)
theorem zJ.sipush {n : Int} {v : Int32} (hd : decode (z_cc d) pc = .ok (.sipush n, 3)) (hv : (Int16.ofInt n).toInt32 = v) (k : zJ o d (pc + 3) lv (.int v :: st) M mc ms Q) : zJ o d pc lv st M mc ms Q := by
  intro p l e R s m args below meth c tc ts Z hR C E H locs cells slots ls h1 h2 h3 h4
  exact lv_sipush C.1 C.2.1 hd hv (k p l e R s m args below meth c tc ts Z hR C E H locs cells slots ls h1 h2 h3 h4)
theorem zJ.lconst {n : Fin 2} {v : Int64} (hd : decode (z_cc d) pc = .ok (.lconst n, 1)) (hv : Int64.ofNat (n : Nat) = v) (k : zJ o d (pc + 1) lv (.long v :: st) M mc ms Q) : zJ o d pc lv st M mc ms Q := by
  intro p l e R s m args below meth c tc ts Z hR C E H locs cells slots ls h1 h2 h3 h4
  exact lv_lconst C.1 C.2.1 hd hv (k p l e R s m args below meth c tc ts Z hR C E H locs cells slots ls h1 h2 h3 h4)
theorem zJ.fconst0  (hd : decode (z_cc d) pc = .ok (.fconst 0, 1)) (k : zJ o d (pc + 1) lv (.float FP.fconst0 :: st) M mc ms Q) : zJ o d pc lv st M mc ms Q := by
  intro p l e R s m args below meth c tc ts Z hR C E H locs cells slots ls h1 h2 h3 h4
  exact lv_fconst0 C.1 C.2.1 hd (k p l e R s m args below meth c tc ts Z hR C E H locs cells slots ls h1 h2 h3 h4)
theorem zJ.fconst1  (hd : decode (z_cc d) pc = .ok (.fconst 1, 1)) (k : zJ o d (pc + 1) lv (.float FP.fconst1 :: st) M mc ms Q) : zJ o d pc lv st M mc ms Q := by
  intro p l e R s m args below meth c tc ts Z hR C E H locs cells slots ls h1 h2 h3 h4
  exact lv_fconst1 C.1 C.2.1 hd (k p l e R s m args below meth c tc ts Z hR C E H locs cells slots ls h1 h2 h3 h4)
theorem zJ.fconst2  (hd : decode (z_cc d) pc = .ok (.fconst 2, 1)) (k : zJ o d (pc + 1) lv (.float FP.fconst2 :: st) M mc ms Q) : zJ o d pc lv st M mc ms Q := by
  intro p l e R s m args below meth c tc ts Z hR C E H locs cells slots ls h1 h2 h3 h4
  exact lv_fconst2 C.1 C.2.1 hd (k p l e R s m args below meth c tc ts Z hR C E H locs cells slots ls h1 h2 h3 h4)
theorem zJ.dconst0  (hd : decode (z_cc d) pc = .ok (.dconst 0, 1)) (k : zJ o d (pc + 1) lv (.double FP.dconst0 :: st) M mc ms Q) : zJ o d pc lv st M mc ms Q := by
  intro p l e R s m args below meth c tc ts Z hR C E H locs cells slots ls h1 h2 h3 h4
  exact lv_dconst0 C.1 C.2.1 hd (k p l e R s m args below meth c tc ts Z hR C E H locs cells slots ls h1 h2 h3 h4)
theorem zJ.dconst1  (hd : decode (z_cc d) pc = .ok (.dconst 1, 1)) (k : zJ o d (pc + 1) lv (.double FP.dconst1 :: st) M mc ms Q) : zJ o d pc lv st M mc ms Q := by
  intro p l e R s m args below meth c tc ts Z hR C E H locs cells slots ls h1 h2 h3 h4
  exact lv_dconst1 C.1 C.2.1 hd (k p l e R s m args below meth c tc ts Z hR C E H locs cells slots ls h1 h2 h3 h4)
theorem zJ.null  (hd : decode (z_cc d) pc = .ok (.aconst_null, 1)) (k : zJ o d (pc + 1) lv (.null :: st) M mc ms Q) : zJ o d pc lv st M mc ms Q := by
  intro p l e R s m args below meth c tc ts Z hR C E H locs cells slots ls h1 h2 h3 h4
  exact lv_null C.1 C.2.1 hd (k p l e R s m args below meth c tc ts Z hR C E H locs cells slots ls h1 h2 h3 h4)
theorem zJ.iload_n {k : Fin 4} {i : Nat} {x : Int32} (j : Nat) (hd : decode (z_cc d) pc = .ok (.iload_n k, 1)) (hi : (k : Nat) = i) (hl : lv[j]? = some (i, .int x)) (k : zJ o d (pc + 1) lv (.int x :: st) M mc ms Q) : zJ o d pc lv st M mc ms Q := by
  intro p l e R s m args below meth c tc ts Z hR C E H locs cells slots ls h1 h2 h3 h4
  exact lv_iload_n C.1 C.2.1 hd hi (lv_at h3 j hl) (k p l e R s m args below meth c tc ts Z hR C E H locs cells slots ls h1 h2 h3 h4)
theorem zJ.iload {i : Nat} {x : Int32} (j : Nat) (hd : decode (z_cc d) pc = .ok (.iload i, 2)) (hl : lv[j]? = some (i, .int x)) (k : zJ o d (pc + 2) lv (.int x :: st) M mc ms Q) : zJ o d pc lv st M mc ms Q := by
  intro p l e R s m args below meth c tc ts Z hR C E H locs cells slots ls h1 h2 h3 h4
  exact lv_iload C.1 C.2.1 hd (lv_at h3 j hl) (k p l e R s m args below meth c tc ts Z hR C E H locs cells slots ls h1 h2 h3 h4)
theorem zJ.istore_n {k : Fin 4} {i : Nat} {x : Int32} (hd : decode (z_cc d) pc = .ok (.istore_n k, 1)) (hi : (k : Nat) = i) (hn : i < z_nl d) (hl : (i, Value.int x) :: lv.filter (fun q => !(q.1 == i) && !(q.1 + 1 == i && q.2.category == 2)) = lv') (kk : zJ o d (pc + 1) lv' st M mc ms Q) : zJ o d pc lv (.int x :: st) M mc ms Q := by
  intro p l e R s m args below meth c tc ts Z hR C E H locs cells slots ls h1 h2 h3 h4
  exact lv_istore_n C.1 C.2.1 hd hi h3 hn hl (fun ls h3 => kk p l e R s m args below meth c tc ts Z hR C E H locs cells slots ls h1 h2 h3 h4)
theorem zJ.istore {i : Nat} {x : Int32} (hd : decode (z_cc d) pc = .ok (.istore i, 2))  (hn : i < z_nl d) (hl : (i, Value.int x) :: lv.filter (fun q => !(q.1 == i) && !(q.1 + 1 == i && q.2.category == 2)) = lv') (kk : zJ o d (pc + 2) lv' st M mc ms Q) : zJ o d pc lv (.int x :: st) M mc ms Q := by
  intro p l e R s m args below meth c tc ts Z hR C E H locs cells slots ls h1 h2 h3 h4
  exact lv_istore C.1 C.2.1 hd h3 hn hl (fun ls h3 => kk p l e R s m args below meth c tc ts Z hR C E H locs cells slots ls h1 h2 h3 h4)
theorem zJ.lload_n {k : Fin 4} {i : Nat} {x : Int64} (j : Nat) (hd : decode (z_cc d) pc = .ok (.lload_n k, 1)) (hi : (k : Nat) = i) (hl : lv[j]? = some (i, .long x)) (k : zJ o d (pc + 1) lv (.long x :: st) M mc ms Q) : zJ o d pc lv st M mc ms Q := by
  intro p l e R s m args below meth c tc ts Z hR C E H locs cells slots ls h1 h2 h3 h4
  exact lv_lload_n C.1 C.2.1 hd hi (lv_at h3 j hl) (k p l e R s m args below meth c tc ts Z hR C E H locs cells slots ls h1 h2 h3 h4)
theorem zJ.lload {i : Nat} {x : Int64} (j : Nat) (hd : decode (z_cc d) pc = .ok (.lload i, 2)) (hl : lv[j]? = some (i, .long x)) (k : zJ o d (pc + 2) lv (.long x :: st) M mc ms Q) : zJ o d pc lv st M mc ms Q := by
  intro p l e R s m args below meth c tc ts Z hR C E H locs cells slots ls h1 h2 h3 h4
  exact lv_lload C.1 C.2.1 hd (lv_at h3 j hl) (k p l e R s m args below meth c tc ts Z hR C E H locs cells slots ls h1 h2 h3 h4)
theorem zJ.lstore_n {k : Fin 4} {i : Nat} {x : Int64} (hd : decode (z_cc d) pc = .ok (.lstore_n k, 1)) (hi : (k : Nat) = i) (hn : i + 1 < z_nl d) (hl : (i, Value.long x) :: lv.filter (fun q => !(q.1 == i) && (!(q.1 == i + 1) && !(q.1 + 1 == i && q.2.category == 2))) = lv') (kk : zJ o d (pc + 1) lv' st M mc ms Q) : zJ o d pc lv (.long x :: st) M mc ms Q := by
  intro p l e R s m args below meth c tc ts Z hR C E H locs cells slots ls h1 h2 h3 h4
  exact lv_lstore_n C.1 C.2.1 hd hi h3 hn hl (fun ls h3 => kk p l e R s m args below meth c tc ts Z hR C E H locs cells slots ls h1 h2 h3 h4)
theorem zJ.lstore {i : Nat} {x : Int64} (hd : decode (z_cc d) pc = .ok (.lstore i, 2))  (hn : i + 1 < z_nl d) (hl : (i, Value.long x) :: lv.filter (fun q => !(q.1 == i) && (!(q.1 == i + 1) && !(q.1 + 1 == i && q.2.category == 2))) = lv') (kk : zJ o d (pc + 2) lv' st M mc ms Q) : zJ o d pc lv (.long x :: st) M mc ms Q := by
  intro p l e R s m args below meth c tc ts Z hR C E H locs cells slots ls h1 h2 h3 h4
  exact lv_lstore C.1 C.2.1 hd h3 hn hl (fun ls h3 => kk p l e R s m args below meth c tc ts Z hR C E H locs cells slots ls h1 h2 h3 h4)
theorem zJ.fload_n {k : Fin 4} {i : Nat} {x : UInt32} (j : Nat) (hd : decode (z_cc d) pc = .ok (.fload_n k, 1)) (hi : (k : Nat) = i) (hl : lv[j]? = some (i, .float x)) (k : zJ o d (pc + 1) lv (.float x :: st) M mc ms Q) : zJ o d pc lv st M mc ms Q := by
  intro p l e R s m args below meth c tc ts Z hR C E H locs cells slots ls h1 h2 h3 h4
  exact lv_fload_n C.1 C.2.1 hd hi (lv_at h3 j hl) (k p l e R s m args below meth c tc ts Z hR C E H locs cells slots ls h1 h2 h3 h4)
theorem zJ.fload {i : Nat} {x : UInt32} (j : Nat) (hd : decode (z_cc d) pc = .ok (.fload i, 2)) (hl : lv[j]? = some (i, .float x)) (k : zJ o d (pc + 2) lv (.float x :: st) M mc ms Q) : zJ o d pc lv st M mc ms Q := by
  intro p l e R s m args below meth c tc ts Z hR C E H locs cells slots ls h1 h2 h3 h4
  exact lv_fload C.1 C.2.1 hd (lv_at h3 j hl) (k p l e R s m args below meth c tc ts Z hR C E H locs cells slots ls h1 h2 h3 h4)
theorem zJ.fstore_n {k : Fin 4} {i : Nat} {x : UInt32} (hd : decode (z_cc d) pc = .ok (.fstore_n k, 1)) (hi : (k : Nat) = i) (hn : i < z_nl d) (hl : (i, Value.float x) :: lv.filter (fun q => !(q.1 == i) && !(q.1 + 1 == i && q.2.category == 2)) = lv') (kk : zJ o d (pc + 1) lv' st M mc ms Q) : zJ o d pc lv (.float x :: st) M mc ms Q := by
  intro p l e R s m args below meth c tc ts Z hR C E H locs cells slots ls h1 h2 h3 h4
  exact lv_fstore_n C.1 C.2.1 hd hi h3 hn hl (fun ls h3 => kk p l e R s m args below meth c tc ts Z hR C E H locs cells slots ls h1 h2 h3 h4)
theorem zJ.fstore {i : Nat} {x : UInt32} (hd : decode (z_cc d) pc = .ok (.fstore i, 2))  (hn : i < z_nl d) (hl : (i, Value.float x) :: lv.filter (fun q => !(q.1 == i) && !(q.1 + 1 == i && q.2.category == 2)) = lv') (kk : zJ o d (pc + 2) lv' st M mc ms Q) : zJ o d pc lv (.float x :: st) M mc ms Q := by
  intro p l e R s m args below meth c tc ts Z hR C E H locs cells slots ls h1 h2 h3 h4
  exact lv_fstore C.1 C.2.1 hd h3 hn hl (fun ls h3 => kk p l e R s m args below meth c tc ts Z hR C E H locs cells slots ls h1 h2 h3 h4)
theorem zJ.dload_n {k : Fin 4} {i : Nat} {x : UInt64} (j : Nat) (hd : decode (z_cc d) pc = .ok (.dload_n k, 1)) (hi : (k : Nat) = i) (hl : lv[j]? = some (i, .double x)) (k : zJ o d (pc + 1) lv (.double x :: st) M mc ms Q) : zJ o d pc lv st M mc ms Q := by
  intro p l e R s m args below meth c tc ts Z hR C E H locs cells slots ls h1 h2 h3 h4
  exact lv_dload_n C.1 C.2.1 hd hi (lv_at h3 j hl) (k p l e R s m args below meth c tc ts Z hR C E H locs cells slots ls h1 h2 h3 h4)
theorem zJ.dload {i : Nat} {x : UInt64} (j : Nat) (hd : decode (z_cc d) pc = .ok (.dload i, 2)) (hl : lv[j]? = some (i, .double x)) (k : zJ o d (pc + 2) lv (.double x :: st) M mc ms Q) : zJ o d pc lv st M mc ms Q := by
  intro p l e R s m args below meth c tc ts Z hR C E H locs cells slots ls h1 h2 h3 h4
  exact lv_dload C.1 C.2.1 hd (lv_at h3 j hl) (k p l e R s m args below meth c tc ts Z hR C E H locs cells slots ls h1 h2 h3 h4)
theorem zJ.dstore_n {k : Fin 4} {i : Nat} {x : UInt64} (hd : decode (z_cc d) pc = .ok (.dstore_n k, 1)) (hi : (k : Nat) = i) (hn : i + 1 < z_nl d) (hl : (i, Value.double x) :: lv.filter (fun q => !(q.1 == i) && (!(q.1 == i + 1) && !(q.1 + 1 == i && q.2.category == 2))) = lv') (kk : zJ o d (pc + 1) lv' st M mc ms Q) : zJ o d pc lv (.double x :: st) M mc ms Q := by
  intro p l e R s m args below meth c tc ts Z hR C E H locs cells slots ls h1 h2 h3 h4
  exact lv_dstore_n C.1 C.2.1 hd hi h3 hn hl (fun ls h3 => kk p l e R s m args below meth c tc ts Z hR C E H locs cells slots ls h1 h2 h3 h4)
theorem zJ.dstore {i : Nat} {x : UInt64} (hd : decode (z_cc d) pc = .ok (.dstore i, 2))  (hn : i + 1 < z_nl d) (hl : (i, Value.double x) :: lv.filter (fun q => !(q.1 == i) && (!(q.1 == i + 1) && !(q.1 + 1 == i && q.2.category == 2))) = lv') (kk : zJ o d (pc + 2) lv' st M mc ms Q) : zJ o d pc lv (.double x :: st) M mc ms Q := by
  intro p l e R s m args below meth c tc ts Z hR C E H locs cells slots ls h1 h2 h3 h4
  exact lv_dstore C.1 C.2.1 hd h3 hn hl (fun ls h3 => kk p l e R s m args below meth c tc ts Z hR C E H locs cells slots ls h1 h2 h3 h4)
theorem zJ.aload_n {k : Fin 4} {i : Nat} {x : Nat} (j : Nat) (hd : decode (z_cc d) pc = .ok (.aload_n k, 1)) (hi : (k : Nat) = i) (hl : lv[j]? = some (i, .ref x)) (k : zJ o d (pc + 1) lv (.ref x :: st) M mc ms Q) : zJ o d pc lv st M mc ms Q := by
  intro p l e R s m args below meth c tc ts Z hR C E H locs cells slots ls h1 h2 h3 h4
  exact lv_aload_n C.1 C.2.1 hd hi (lv_at h3 j hl) (k p l e R s m args below meth c tc ts Z hR C E H locs cells slots ls h1 h2 h3 h4)
theorem zJ.aload {i : Nat} {x : Nat} (j : Nat) (hd : decode (z_cc d) pc = .ok (.aload i, 2)) (hl : lv[j]? = some (i, .ref x)) (k : zJ o d (pc + 2) lv (.ref x :: st) M mc ms Q) : zJ o d pc lv st M mc ms Q := by
  intro p l e R s m args below meth c tc ts Z hR C E H locs cells slots ls h1 h2 h3 h4
  exact lv_aload C.1 C.2.1 hd (lv_at h3 j hl) (k p l e R s m args below meth c tc ts Z hR C E H locs cells slots ls h1 h2 h3 h4)
theorem zJ.astore_n {k : Fin 4} {i : Nat} {x : Nat} (hd : decode (z_cc d) pc = .ok (.astore_n k, 1)) (hi : (k : Nat) = i) (hn : i < z_nl d) (hl : (i, Value.ref x) :: lv.filter (fun q => !(q.1 == i) && !(q.1 + 1 == i && q.2.category == 2)) = lv') (kk : zJ o d (pc + 1) lv' st M mc ms Q) : zJ o d pc lv (.ref x :: st) M mc ms Q := by
  intro p l e R s m args below meth c tc ts Z hR C E H locs cells slots ls h1 h2 h3 h4
  exact lv_astore_n C.1 C.2.1 hd hi h3 hn hl (fun ls h3 => kk p l e R s m args below meth c tc ts Z hR C E H locs cells slots ls h1 h2 h3 h4)
theorem zJ.astore {i : Nat} {x : Nat} (hd : decode (z_cc d) pc = .ok (.astore i, 2))  (hn : i < z_nl d) (hl : (i, Value.ref x) :: lv.filter (fun q => !(q.1 == i) && !(q.1 + 1 == i && q.2.category == 2)) = lv') (kk : zJ o d (pc + 2) lv' st M mc ms Q) : zJ o d pc lv (.ref x :: st) M mc ms Q := by
  intro p l e R s m args below meth c tc ts Z hR C E H locs cells slots ls h1 h2 h3 h4
  exact lv_astore C.1 C.2.1 hd h3 hn hl (fun ls h3 => kk p l e R s m args below meth c tc ts Z hR C E H locs cells slots ls h1 h2 h3 h4)
theorem zJ.aloadq_n {k : Fin 4} {i : Nat} {x : Option Nat} (j : Nat) (hd : decode (z_cc d) pc = .ok (.aload_n k, 1)) (hi : (k : Nat) = i) (hl : lv[j]? = some (i, va_rf x)) (kk : zJ o d (pc + 1) lv (va_rf x :: st) M mc ms Q) : zJ o d pc lv st M mc ms Q := by
  cases x with
  | none =>
    intro p l e R s m args below meth c tc ts Z hR C E H locs cells slots ls h1 h2 h3 h4
    exact lv_aload_nN C.1 C.2.1 hd hi (lv_at h3 j hl) (kk p l e R s m args below meth c tc ts Z hR C E H locs cells slots ls h1 h2 h3 h4)
  | some a => exact zJ.aload_n j hd hi hl kk
theorem zJ.aloadq {i : Nat} {x : Option Nat} (j : Nat) (hd : decode (z_cc d) pc = .ok (.aload i, 2))  (hl : lv[j]? = some (i, va_rf x)) (kk : zJ o d (pc + 2) lv (va_rf x :: st) M mc ms Q) : zJ o d pc lv st M mc ms Q := by
  cases x with
  | none =>
    intro p l e R s m args below meth c tc ts Z hR C E H locs cells slots ls h1 h2 h3 h4
    exact lv_aloadN C.1 C.2.1 hd (lv_at h3 j hl) (kk p l e R s m args below meth c tc ts Z hR C E H locs cells slots ls h1 h2 h3 h4)
  | some a => exact zJ.aload j hd hl kk
theorem zJ.astoreq_n {k : Fin 4} {i : Nat} {x : Option Nat} (hd : decode (z_cc d) pc = .ok (.astore_n k, 1)) (hi : (k : Nat) = i) (hn : i < z_nl d) (hl : (i, va_rf x) :: lv.filter (fun q => !(q.1 == i) && !(q.1 + 1 == i && q.2.category == 2)) = lv') (kk : zJ o d (pc + 1) lv' st M mc ms Q) : zJ o d pc lv (va_rf x :: st) M mc ms Q := by
  cases x with
  | none =>
    intro p l e R s m args below meth c tc ts Z hR C E H locs cells slots ls h1 h2 h3 h4
    exact lv_astore_nN C.1 C.2.1 hd hi h3 hn hl (fun ls h3 => kk p l e R s m args below meth c tc ts Z hR C E H locs cells slots ls h1 h2 h3 h4)
  | some a => exact zJ.astore_n hd hi hn hl kk
theorem zJ.astoreq {i : Nat} {x : Option Nat} (hd : decode (z_cc d) pc = .ok (.astore i, 2))  (hn : i < z_nl d) (hl : (i, va_rf x) :: lv.filter (fun q => !(q.1 == i) && !(q.1 + 1 == i && q.2.category == 2)) = lv') (kk : zJ o d (pc + 2) lv' st M mc ms Q) : zJ o d pc lv (va_rf x :: st) M mc ms Q := by
  cases x with
  | none =>
    intro p l e R s m args below meth c tc ts Z hR C E H locs cells slots ls h1 h2 h3 h4
    exact lv_astoreN C.1 C.2.1 hd h3 hn hl (fun ls h3 => kk p l e R s m args below meth c tc ts Z hR C E H locs cells slots ls h1 h2 h3 h4)
  | some a => exact zJ.astore hd hn hl kk
theorem zJ.ifnull {x : Option Nat} {off : Int} {tgt : Nat} (hd : decode (z_cc d) pc = .ok (.ifnull off, 3)) (ht : (pc : Int) + off = (tgt : Int)) (kt : x = none → zJ o d tgt lv st M mc ms Q) (kf : ∀ a, x = some a → zJ o d (pc + 3) lv st M mc ms Q) : zJ o d pc lv (va_rf x :: st) M mc ms Q := by
  cases x with
  | none =>
    intro p l e R s m args below meth c tc ts Z hR C E H locs cells slots ls h1 h2 h3 h4
    exact lv_ifnullN C.1 C.2.1 hd ht (kt rfl p l e R s m args below meth c tc ts Z hR C E H locs cells slots ls h1 h2 h3 h4)
  | some a =>
    intro p l e R s m args below meth c tc ts Z hR C E H locs cells slots ls h1 h2 h3 h4
    exact lv_ifnull C.1 C.2.1 hd (kf a rfl p l e R s m args below meth c tc ts Z hR C E H locs cells slots ls h1 h2 h3 h4)
theorem zJ.ifnonnull {x : Option Nat} {off : Int} {tgt : Nat} (hd : decode (z_cc d) pc = .ok (.ifnonnull off, 3)) (ht : (pc : Int) + off = (tgt : Int)) (kt : ∀ a, x = some a → zJ o d tgt lv st M mc ms Q) (kf : x = none → zJ o d (pc + 3) lv st M mc ms Q) : zJ o d pc lv (va_rf x :: st) M mc ms Q := by
  cases x with
  | none =>
    intro p l e R s m args below meth c tc ts Z hR C E H locs cells slots ls h1 h2 h3 h4
    exact lv_ifnonnullN C.1 C.2.1 hd (kf rfl p l e R s m args below meth c tc ts Z hR C E H locs cells slots ls h1 h2 h3 h4)
  | some a =>
    intro p l e R s m args below meth c tc ts Z hR C E H locs cells slots ls h1 h2 h3 h4
    exact lv_ifnonnull C.1 C.2.1 hd ht (kt a rfl p l e R s m args below meth c tc ts Z hR C E H locs cells slots ls h1 h2 h3 h4)
theorem zJ.iinc {i k : Nat} {n : Int} {x v : Int32} (hd : decode (z_cc d) pc = .ok (.iinc i n, 3)) (hk : lv[k]? = some (i, .int x)) (hv : x + Int32.ofInt n = v) (hn : i < z_nl d) (hl : (i, Value.int v) :: lv.filter (fun q => !(q.1 == i) && !(q.1 + 1 == i && q.2.category == 2)) = lv') (kk : zJ o d (pc + 3) lv' st M mc ms Q) : zJ o d pc lv st M mc ms Q := by
  intro p l e R s m args below meth c tc ts Z hR C E H locs cells slots ls h1 h2 h3 h4
  exact lv_iinc C.1 C.2.1 hd h3 hk hv hn hl (fun ls h3 => kk p l e R s m args below meth c tc ts Z hR C E H locs cells slots ls h1 h2 h3 h4)
theorem zJ.iadd {x y : Int32} (hd : decode (z_cc d) pc = .ok (.iadd, 1)) (k : zJ o d (pc + 1) lv (.int (x + y) :: st) M mc ms Q) : zJ o d pc lv (.int y :: .int x :: st) M mc ms Q := by
  intro p l e R s m args below meth c tc ts Z hR C E H locs cells slots ls h1 h2 h3 h4
  exact lv_iadd C.1 C.2.1 hd (k p l e R s m args below meth c tc ts Z hR C E H locs cells slots ls h1 h2 h3 h4)
theorem zJ.isub {x y : Int32} (hd : decode (z_cc d) pc = .ok (.isub, 1)) (k : zJ o d (pc + 1) lv (.int (x - y) :: st) M mc ms Q) : zJ o d pc lv (.int y :: .int x :: st) M mc ms Q := by
  intro p l e R s m args below meth c tc ts Z hR C E H locs cells slots ls h1 h2 h3 h4
  exact lv_isub C.1 C.2.1 hd (k p l e R s m args below meth c tc ts Z hR C E H locs cells slots ls h1 h2 h3 h4)
theorem zJ.imul {x y : Int32} (hd : decode (z_cc d) pc = .ok (.imul, 1)) (k : zJ o d (pc + 1) lv (.int (x * y) :: st) M mc ms Q) : zJ o d pc lv (.int y :: .int x :: st) M mc ms Q := by
  intro p l e R s m args below meth c tc ts Z hR C E H locs cells slots ls h1 h2 h3 h4
  exact lv_imul C.1 C.2.1 hd (k p l e R s m args below meth c tc ts Z hR C E H locs cells slots ls h1 h2 h3 h4)
theorem zJ.iand {x y : Int32} (hd : decode (z_cc d) pc = .ok (.iand, 1)) (k : zJ o d (pc + 1) lv (.int (x &&& y) :: st) M mc ms Q) : zJ o d pc lv (.int y :: .int x :: st) M mc ms Q := by
  intro p l e R s m args below meth c tc ts Z hR C E H locs cells slots ls h1 h2 h3 h4
  exact lv_iand C.1 C.2.1 hd (k p l e R s m args below meth c tc ts Z hR C E H locs cells slots ls h1 h2 h3 h4)
theorem zJ.ior {x y : Int32} (hd : decode (z_cc d) pc = .ok (.ior, 1)) (k : zJ o d (pc + 1) lv (.int (x ||| y) :: st) M mc ms Q) : zJ o d pc lv (.int y :: .int x :: st) M mc ms Q := by
  intro p l e R s m args below meth c tc ts Z hR C E H locs cells slots ls h1 h2 h3 h4
  exact lv_ior C.1 C.2.1 hd (k p l e R s m args below meth c tc ts Z hR C E H locs cells slots ls h1 h2 h3 h4)
theorem zJ.ishl {x y : Int32} (hd : decode (z_cc d) pc = .ok (.ishl, 1)) (k : zJ o d (pc + 1) lv (.int (x <<< (y &&& 31)) :: st) M mc ms Q) : zJ o d pc lv (.int y :: .int x :: st) M mc ms Q := by
  intro p l e R s m args below meth c tc ts Z hR C E H locs cells slots ls h1 h2 h3 h4
  exact lv_ishl C.1 C.2.1 hd (k p l e R s m args below meth c tc ts Z hR C E H locs cells slots ls h1 h2 h3 h4)
theorem zJ.ishr {x y : Int32} (hd : decode (z_cc d) pc = .ok (.ishr, 1)) (k : zJ o d (pc + 1) lv (.int (x >>> (y &&& 31)) :: st) M mc ms Q) : zJ o d pc lv (.int y :: .int x :: st) M mc ms Q := by
  intro p l e R s m args below meth c tc ts Z hR C E H locs cells slots ls h1 h2 h3 h4
  exact lv_ishr C.1 C.2.1 hd (k p l e R s m args below meth c tc ts Z hR C E H locs cells slots ls h1 h2 h3 h4)
theorem zJ.idiv {x y : Int32} (hd : decode (z_cc d) pc = .ok (.idiv, 1)) (hne : ¬ y = 0) (k : zJ o d (pc + 1) lv (.int (x / y) :: st) M mc ms Q) : zJ o d pc lv (.int y :: .int x :: st) M mc ms Q := by
  intro p l e R s m args below meth c tc ts Z hR C E H locs cells slots ls h1 h2 h3 h4
  exact lv_idiv C.1 C.2.1 hd hne (k p l e R s m args below meth c tc ts Z hR C E H locs cells slots ls h1 h2 h3 h4)
theorem zJ.irem {x y : Int32} (hd : decode (z_cc d) pc = .ok (.irem, 1)) (hne : ¬ y = 0) (k : zJ o d (pc + 1) lv (.int (x - x / y * y) :: st) M mc ms Q) : zJ o d pc lv (.int y :: .int x :: st) M mc ms Q := by
  intro p l e R s m args below meth c tc ts Z hR C E H locs cells slots ls h1 h2 h3 h4
  exact lv_irem C.1 C.2.1 hd hne (k p l e R s m args below meth c tc ts Z hR C E H locs cells slots ls h1 h2 h3 h4)
theorem zJ.ladd {x y : Int64} (hd : decode (z_cc d) pc = .ok (.ladd, 1)) (k : zJ o d (pc + 1) lv (.long (x + y) :: st) M mc ms Q) : zJ o d pc lv (.long y :: .long x :: st) M mc ms Q := by
  intro p l e R s m args below meth c tc ts Z hR C E H locs cells slots ls h1 h2 h3 h4
  exact lv_ladd C.1 C.2.1 hd (k p l e R s m args below meth c tc ts Z hR C E H locs cells slots ls h1 h2 h3 h4)
theorem zJ.lsub {x y : Int64} (hd : decode (z_cc d) pc = .ok (.lsub, 1)) (k : zJ o d (pc + 1) lv (.long (x - y) :: st) M mc ms Q) : zJ o d pc lv (.long y :: .long x :: st) M mc ms Q := by
  intro p l e R s m args below meth c tc ts Z hR C E H locs cells slots ls h1 h2 h3 h4
  exact lv_lsub C.1 C.2.1 hd (k p l e R s m args below meth c tc ts Z hR C E H locs cells slots ls h1 h2 h3 h4)
theorem zJ.lmul {x y : Int64} (hd : decode (z_cc d) pc = .ok (.lmul, 1)) (k : zJ o d (pc + 1) lv (.long (x * y) :: st) M mc ms Q) : zJ o d pc lv (.long y :: .long x :: st) M mc ms Q := by
  intro p l e R s m args below meth c tc ts Z hR C E H locs cells slots ls h1 h2 h3 h4
  exact lv_lmul C.1 C.2.1 hd (k p l e R s m args below meth c tc ts Z hR C E H locs cells slots ls h1 h2 h3 h4)
theorem zJ.lor {x y : Int64} (hd : decode (z_cc d) pc = .ok (.lor, 1)) (k : zJ o d (pc + 1) lv (.long (x ||| y) :: st) M mc ms Q) : zJ o d pc lv (.long y :: .long x :: st) M mc ms Q := by
  intro p l e R s m args below meth c tc ts Z hR C E H locs cells slots ls h1 h2 h3 h4
  exact lv_lor C.1 C.2.1 hd (k p l e R s m args below meth c tc ts Z hR C E H locs cells slots ls h1 h2 h3 h4)
theorem zJ.ldiv {x y : Int64} (hd : decode (z_cc d) pc = .ok (.ldiv, 1)) (hne : ¬ y = 0) (k : zJ o d (pc + 1) lv (.long (x / y) :: st) M mc ms Q) : zJ o d pc lv (.long y :: .long x :: st) M mc ms Q := by
  intro p l e R s m args below meth c tc ts Z hR C E H locs cells slots ls h1 h2 h3 h4
  exact lv_ldiv C.1 C.2.1 hd hne (k p l e R s m args below meth c tc ts Z hR C E H locs cells slots ls h1 h2 h3 h4)
theorem zJ.lrem {x y : Int64} (hd : decode (z_cc d) pc = .ok (.lrem, 1)) (hne : ¬ y = 0) (k : zJ o d (pc + 1) lv (.long (x - x / y * y) :: st) M mc ms Q) : zJ o d pc lv (.long y :: .long x :: st) M mc ms Q := by
  intro p l e R s m args below meth c tc ts Z hR C E H locs cells slots ls h1 h2 h3 h4
  exact lv_lrem C.1 C.2.1 hd hne (k p l e R s m args below meth c tc ts Z hR C E H locs cells slots ls h1 h2 h3 h4)
theorem zJ.lshl {x : Int64} {y : Int32} (hd : decode (z_cc d) pc = .ok (.lshl, 1)) (k : zJ o d (pc + 1) lv (.long (x <<< (y.toInt64 &&& 63)) :: st) M mc ms Q) : zJ o d pc lv (.int y :: .long x :: st) M mc ms Q := by
  intro p l e R s m args below meth c tc ts Z hR C E H locs cells slots ls h1 h2 h3 h4
  exact lv_lshl C.1 C.2.1 hd rfl (k p l e R s m args below meth c tc ts Z hR C E H locs cells slots ls h1 h2 h3 h4)
theorem zJ.i2l {x : Int32} (hd : decode (z_cc d) pc = .ok (.i2l, 1)) (k : zJ o d (pc + 1) lv (.long x.toInt64 :: st) M mc ms Q) : zJ o d pc lv (.int x :: st) M mc ms Q := by
  intro p l e R s m args below meth c tc ts Z hR C E H locs cells slots ls h1 h2 h3 h4
  exact lv_i2l C.1 C.2.1 hd rfl (k p l e R s m args below meth c tc ts Z hR C E H locs cells slots ls h1 h2 h3 h4)
theorem zJ.l2i {x : Int64} (hd : decode (z_cc d) pc = .ok (.l2i, 1)) (k : zJ o d (pc + 1) lv (.int x.toInt32 :: st) M mc ms Q) : zJ o d pc lv (.long x :: st) M mc ms Q := by
  intro p l e R s m args below meth c tc ts Z hR C E H locs cells slots ls h1 h2 h3 h4
  exact lv_l2i C.1 C.2.1 hd rfl (k p l e R s m args below meth c tc ts Z hR C E H locs cells slots ls h1 h2 h3 h4)
theorem zJ.i2f {x : Int32} (hd : decode (z_cc d) pc = .ok (.i2f, 1)) (k : zJ o d (pc + 1) lv (.float (FP.i2f x) :: st) M mc ms Q) : zJ o d pc lv (.int x :: st) M mc ms Q := by
  intro p l e R s m args below meth c tc ts Z hR C E H locs cells slots ls h1 h2 h3 h4
  exact lv_i2f C.1 C.2.1 hd (k p l e R s m args below meth c tc ts Z hR C E H locs cells slots ls h1 h2 h3 h4)
theorem zJ.l2f {x : Int64} (hd : decode (z_cc d) pc = .ok (.l2f, 1)) (k : zJ o d (pc + 1) lv (.float (FP.l2f x) :: st) M mc ms Q) : zJ o d pc lv (.long x :: st) M mc ms Q := by
  intro p l e R s m args below meth c tc ts Z hR C E H locs cells slots ls h1 h2 h3 h4
  exact lv_l2f C.1 C.2.1 hd (k p l e R s m args below meth c tc ts Z hR C E H locs cells slots ls h1 h2 h3 h4)
theorem zJ.f2i {x : UInt32} (hd : decode (z_cc d) pc = .ok (.f2i, 1)) (k : zJ o d (pc + 1) lv (.int (FP.f2i x) :: st) M mc ms Q) : zJ o d pc lv (.float x :: st) M mc ms Q := by
  intro p l e R s m args below meth c tc ts Z hR C E H locs cells slots ls h1 h2 h3 h4
  exact lv_f2i C.1 C.2.1 hd (k p l e R s m args below meth c tc ts Z hR C E H locs cells slots ls h1 h2 h3 h4)
theorem zJ.i2d {x : Int32} (hd : decode (z_cc d) pc = .ok (.i2d, 1)) (k : zJ o d (pc + 1) lv (.double (FP.i2d x) :: st) M mc ms Q) : zJ o d pc lv (.int x :: st) M mc ms Q := by
  intro p l e R s m args below meth c tc ts Z hR C E H locs cells slots ls h1 h2 h3 h4
  exact lv_i2d C.1 C.2.1 hd (k p l e R s m args below meth c tc ts Z hR C E H locs cells slots ls h1 h2 h3 h4)
theorem zJ.l2d {x : Int64} (hd : decode (z_cc d) pc = .ok (.l2d, 1)) (k : zJ o d (pc + 1) lv (.double (FP.l2d x) :: st) M mc ms Q) : zJ o d pc lv (.long x :: st) M mc ms Q := by
  intro p l e R s m args below meth c tc ts Z hR C E H locs cells slots ls h1 h2 h3 h4
  exact lv_l2d C.1 C.2.1 hd (k p l e R s m args below meth c tc ts Z hR C E H locs cells slots ls h1 h2 h3 h4)
theorem zJ.d2l {x : UInt64} (hd : decode (z_cc d) pc = .ok (.d2l, 1)) (k : zJ o d (pc + 1) lv (.long (FP.d2l x) :: st) M mc ms Q) : zJ o d pc lv (.double x :: st) M mc ms Q := by
  intro p l e R s m args below meth c tc ts Z hR C E H locs cells slots ls h1 h2 h3 h4
  exact lv_d2l C.1 C.2.1 hd (k p l e R s m args below meth c tc ts Z hR C E H locs cells slots ls h1 h2 h3 h4)
theorem zJ.fneg {x : UInt32} (hd : decode (z_cc d) pc = .ok (.fneg, 1)) (k : zJ o d (pc + 1) lv (.float (FP.fneg x) :: st) M mc ms Q) : zJ o d pc lv (.float x :: st) M mc ms Q := by
  intro p l e R s m args below meth c tc ts Z hR C E H locs cells slots ls h1 h2 h3 h4
  exact lv_fneg C.1 C.2.1 hd (k p l e R s m args below meth c tc ts Z hR C E H locs cells slots ls h1 h2 h3 h4)
theorem zJ.dneg {x : UInt64} (hd : decode (z_cc d) pc = .ok (.dneg, 1)) (k : zJ o d (pc + 1) lv (.double (FP.dneg x) :: st) M mc ms Q) : zJ o d pc lv (.double x :: st) M mc ms Q := by
  intro p l e R s m args below meth c tc ts Z hR C E H locs cells slots ls h1 h2 h3 h4
  exact lv_dneg C.1 C.2.1 hd (k p l e R s m args below meth c tc ts Z hR C E H locs cells slots ls h1 h2 h3 h4)
theorem zJ.fadd {x y : UInt32} (hd : decode (z_cc d) pc = .ok (.fadd, 1)) (hne : vf_n32 (FP.fadd x y)) (k : zJ o d (pc + 1) lv (.float (FP.fadd x y) :: st) M mc ms Q) : zJ o d pc lv (.float y :: .float x :: st) M mc ms Q := by
  intro p l e R s m args below meth c tc ts Z hR C E H locs cells slots ls h1 h2 h3 h4
  exact lv_fadd C.1 C.2.1 hd hne (k p l e R s m args below meth c tc ts Z hR C E H locs cells slots ls h1 h2 h3 h4)
theorem zJ.fsub {x y : UInt32} (hd : decode (z_cc d) pc = .ok (.fsub, 1)) (hne : vf_n32 (FP.fsub x y)) (k : zJ o d (pc + 1) lv (.float (FP.fsub x y) :: st) M mc ms Q) : zJ o d pc lv (.float y :: .float x :: st) M mc ms Q := by
  intro p l e R s m args below meth c tc ts Z hR C E H locs cells slots ls h1 h2 h3 h4
  exact lv_fsub C.1 C.2.1 hd hne (k p l e R s m args below meth c tc ts Z hR C E H locs cells slots ls h1 h2 h3 h4)
theorem zJ.fmul {x y : UInt32} (hd : decode (z_cc d) pc = .ok (.fmul, 1)) (hne : vf_n32 (FP.fmul x y)) (k : zJ o d (pc + 1) lv (.float (FP.fmul x y) :: st) M mc ms Q) : zJ o d pc lv (.float y :: .float x :: st) M mc ms Q := by
  intro p l e R s m args below meth c tc ts Z hR C E H locs cells slots ls h1 h2 h3 h4
  exact lv_fmul C.1 C.2.1 hd hne (k p l e R s m args below meth c tc ts Z hR C E H locs cells slots ls h1 h2 h3 h4)
theorem zJ.fdiv {x y : UInt32} (hd : decode (z_cc d) pc = .ok (.fdiv, 1)) (hne : vf_n32 (FP.fdiv x y)) (k : zJ o d (pc + 1) lv (.float (FP.fdiv x y) :: st) M mc ms Q) : zJ o d pc lv (.float y :: .float x :: st) M mc ms Q := by
  intro p l e R s m args below meth c tc ts Z hR C E H locs cells slots ls h1 h2 h3 h4
  exact lv_fdiv C.1 C.2.1 hd hne (k p l e R s m args below meth c tc ts Z hR C E H locs cells slots ls h1 h2 h3 h4)
theorem zJ.dsub {x y : UInt64} (hd : decode (z_cc d) pc = .ok (.dsub, 1)) (hne : vf_n64 (FP.dsub x y)) (k : zJ o d (pc + 1) lv (.double (FP.dsub x y) :: st) M mc ms Q) : zJ o d pc lv (.double y :: .double x :: st) M mc ms Q := by
  intro p l e R s m args below meth c tc ts Z hR C E H locs cells slots ls h1 h2 h3 h4
  exact lv_dsub C.1 C.2.1 hd hne (k p l e R s m args below meth c tc ts Z hR C E H locs cells slots ls h1 h2 h3 h4)
theorem zJ.dmul {x y : UInt64} (hd : decode (z_cc d) pc = .ok (.dmul, 1)) (hne : vf_n64 (FP.dmul x y)) (k : zJ o d (pc + 1) lv (.double (FP.dmul x y) :: st) M mc ms Q) : zJ o d pc lv (.double y :: .double x :: st) M mc ms Q := by
  intro p l e R s m args below meth c tc ts Z hR C E H locs cells slots ls h1 h2 h3 h4
  exact lv_dmul C.1 C.2.1 hd hne (k p l e R s m args below meth c tc ts Z hR C E H locs cells slots ls h1 h2 h3 h4)
theorem zJ.ddiv {x y : UInt64} (hd : decode (z_cc d) pc = .ok (.ddiv, 1)) (hne : vf_n64 (FP.ddiv x y)) (k : zJ o d (pc + 1) lv (.double (FP.ddiv x y) :: st) M mc ms Q) : zJ o d pc lv (.double y :: .double x :: st) M mc ms Q := by
  intro p l e R s m args below meth c tc ts Z hR C E H locs cells slots ls h1 h2 h3 h4
  exact lv_ddiv C.1 C.2.1 hd hne (k p l e R s m args below meth c tc ts Z hR C E H locs cells slots ls h1 h2 h3 h4)
theorem zJ.fcmp {x y : UInt32} {op : CmpOp} (hd : decode (z_cc d) pc = .ok (.fcmp op, 1)) (k : zJ o d (pc + 1) lv (.int (Op.cmpValue (FP.fcmp x y) op) :: st) M mc ms Q) : zJ o d pc lv (.float y :: .float x :: st) M mc ms Q := by
  intro p l e R s m args below meth c tc ts Z hR C E H locs cells slots ls h1 h2 h3 h4
  exact lv_fcmp C.1 C.2.1 hd (k p l e R s m args below meth c tc ts Z hR C E H locs cells slots ls h1 h2 h3 h4)
theorem zJ.dcmp {x y : UInt64} {op : CmpOp} (hd : decode (z_cc d) pc = .ok (.dcmp op, 1)) (k : zJ o d (pc + 1) lv (.int (Op.cmpValue (FP.dcmp x y) op) :: st) M mc ms Q) : zJ o d pc lv (.double y :: .double x :: st) M mc ms Q := by
  intro p l e R s m args below meth c tc ts Z hR C E H locs cells slots ls h1 h2 h3 h4
  exact lv_dcmp C.1 C.2.1 hd (k p l e R s m args below meth c tc ts Z hR C E H locs cells slots ls h1 h2 h3 h4)
theorem zJ.dup {va : Value} (hd : decode (z_cc d) pc = .ok (.dup, 1)) (hva : va.category = 1) (k : zJ o d (pc + 1) lv (va :: va :: st) M mc ms Q) : zJ o d pc lv (va :: st) M mc ms Q := by
  intro p l e R s m args below meth c tc ts Z hR C E H locs cells slots ls h1 h2 h3 h4
  exact lv_dup C.1 C.2.1 hd hva (k p l e R s m args below meth c tc ts Z hR C E H locs cells slots ls h1 h2 h3 h4)
theorem zJ.pop {va : Value} (hd : decode (z_cc d) pc = .ok (.pop, 1)) (hva : va.category = 1) (k : zJ o d (pc + 1) lv st M mc ms Q) : zJ o d pc lv (va :: st) M mc ms Q := by
  intro p l e R s m args below meth c tc ts Z hR C E H locs cells slots ls h1 h2 h3 h4
  exact lv_pop C.1 C.2.1 hd hva (k p l e R s m args below meth c tc ts Z hR C E H locs cells slots ls h1 h2 h3 h4)
theorem zJ.dup2_11 {va vb : Value} (hd : decode (z_cc d) pc = .ok (.dup2, 1)) (hva : va.category = 1) (hvb : vb.category = 1) (k : zJ o d (pc + 1) lv (va :: vb :: va :: vb :: st) M mc ms Q) : zJ o d pc lv (va :: vb :: st) M mc ms Q := by
  intro p l e R s m args below meth c tc ts Z hR C E H locs cells slots ls h1 h2 h3 h4
  exact lv_dup2_11 C.1 C.2.1 hd hva hvb (k p l e R s m args below meth c tc ts Z hR C E H locs cells slots ls h1 h2 h3 h4)
theorem zJ.if_eq {x : Int32} {off : Int} {tgt : Nat} (hd : decode (z_cc d) pc = .ok (.ifCond .eq off, 3)) (ht : (pc : Int) + off = (tgt : Int)) (kt : x = 0 → zJ o d tgt lv st M mc ms Q) (kf : ¬ x = 0 → zJ o d (pc + 3) lv st M mc ms Q) : zJ o d pc lv (.int x :: st) M mc ms Q := by
  intro p l e R s m args below meth c tc ts Z hR C E H locs cells slots ls h1 h2 h3 h4
  exact lv_if_eq C.1 C.2.1 hd ht (fun q => kt q p l e R s m args below meth c tc ts Z hR C E H locs cells slots ls h1 h2 h3 h4) (fun q => kf q p l e R s m args below meth c tc ts Z hR C E H locs cells slots ls h1 h2 h3 h4)
theorem zJ.icmp_eq {x y : Int32} {off : Int} {tgt : Nat} (hd : decode (z_cc d) pc = .ok (.if_icmp .eq off, 3)) (ht : (pc : Int) + off = (tgt : Int)) (kt : x = y → zJ o d tgt lv st M mc ms Q) (kf : ¬ x = y → zJ o d (pc + 3) lv st M mc ms Q) : zJ o d pc lv (.int y :: .int x :: st) M mc ms Q := by
  intro p l e R s m args below meth c tc ts Z hR C E H locs cells slots ls h1 h2 h3 h4
  exact lv_icmp_eq C.1 C.2.1 hd ht (fun q => kt q p l e R s m args below meth c tc ts Z hR C E H locs cells slots ls h1 h2 h3 h4) (fun q => kf q p l e R s m args below meth c tc ts Z hR C E H locs cells slots ls h1 h2 h3 h4)
theorem zJ.if_ne {x : Int32} {off : Int} {tgt : Nat} (hd : decode (z_cc d) pc = .ok (.ifCond .ne off, 3)) (ht : (pc : Int) + off = (tgt : Int)) (kt : ¬ x = 0 → zJ o d tgt lv st M mc ms Q) (kf : x = 0 → zJ o d (pc + 3) lv st M mc ms Q) : zJ o d pc lv (.int x :: st) M mc ms Q := by
  intro p l e R s m args below meth c tc ts Z hR C E H locs cells slots ls h1 h2 h3 h4
  exact lv_if_ne C.1 C.2.1 hd ht (fun q => kt q p l e R s m args below meth c tc ts Z hR C E H locs cells slots ls h1 h2 h3 h4) (fun q => kf q p l e R s m args below meth c tc ts Z hR C E H locs cells slots ls h1 h2 h3 h4)
theorem zJ.icmp_ne {x y : Int32} {off : Int} {tgt : Nat} (hd : decode (z_cc d) pc = .ok (.if_icmp .ne off, 3)) (ht : (pc : Int) + off = (tgt : Int)) (kt : ¬ x = y → zJ o d tgt lv st M mc ms Q) (kf : x = y → zJ o d (pc + 3) lv st M mc ms Q) : zJ o d pc lv (.int y :: .int x :: st) M mc ms Q := by
  intro p l e R s m args below meth c tc ts Z hR C E H locs cells slots ls h1 h2 h3 h4
  exact lv_icmp_ne C.1 C.2.1 hd ht (fun q => kt q p l e R s m args below meth c tc ts Z hR C E H locs cells slots ls h1 h2 h3 h4) (fun q => kf q p l e R s m args below meth c tc ts Z hR C E H locs cells slots ls h1 h2 h3 h4)
theorem zJ.if_lt {x : Int32} {off : Int} {tgt : Nat} (hd : decode (z_cc d) pc = .ok (.ifCond .lt off, 3)) (ht : (pc : Int) + off = (tgt : Int)) (kt : x < 0 → zJ o d tgt lv st M mc ms Q) (kf : ¬ x < 0 → zJ o d (pc + 3) lv st M mc ms Q) : zJ o d pc lv (.int x :: st) M mc ms Q := by
  intro p l e R s m args below meth c tc ts Z hR C E H locs cells slots ls h1 h2 h3 h4
  exact lv_if_lt C.1 C.2.1 hd ht (fun q => kt q p l e R s m args below meth c tc ts Z hR C E H locs cells slots ls h1 h2 h3 h4) (fun q => kf q p l e R s m args below meth c tc ts Z hR C E H locs cells slots ls h1 h2 h3 h4)
theorem zJ.icmp_lt {x y : Int32} {off : Int} {tgt : Nat} (hd : decode (z_cc d) pc = .ok (.if_icmp .lt off, 3)) (ht : (pc : Int) + off = (tgt : Int)) (kt : x < y → zJ o d tgt lv st M mc ms Q) (kf : ¬ x < y → zJ o d (pc + 3) lv st M mc ms Q) : zJ o d pc lv (.int y :: .int x :: st) M mc ms Q := by
  intro p l e R s m args below meth c tc ts Z hR C E H locs cells slots ls h1 h2 h3 h4
  exact lv_icmp_lt C.1 C.2.1 hd ht (fun q => kt q p l e R s m args below meth c tc ts Z hR C E H locs cells slots ls h1 h2 h3 h4) (fun q => kf q p l e R s m args below meth c tc ts Z hR C E H locs cells slots ls h1 h2 h3 h4)
theorem zJ.if_ge {x : Int32} {off : Int} {tgt : Nat} (hd : decode (z_cc d) pc = .ok (.ifCond .ge off, 3)) (ht : (pc : Int) + off = (tgt : Int)) (kt : 0 ≤ x → zJ o d tgt lv st M mc ms Q) (kf : ¬ 0 ≤ x → zJ o d (pc + 3) lv st M mc ms Q) : zJ o d pc lv (.int x :: st) M mc ms Q := by
  intro p l e R s m args below meth c tc ts Z hR C E H locs cells slots ls h1 h2 h3 h4
  exact lv_if_ge C.1 C.2.1 hd ht (fun q => kt q p l e R s m args below meth c tc ts Z hR C E H locs cells slots ls h1 h2 h3 h4) (fun q => kf q p l e R s m args below meth c tc ts Z hR C E H locs cells slots ls h1 h2 h3 h4)
theorem zJ.icmp_ge {x y : Int32} {off : Int} {tgt : Nat} (hd : decode (z_cc d) pc = .ok (.if_icmp .ge off, 3)) (ht : (pc : Int) + off = (tgt : Int)) (kt : y ≤ x → zJ o d tgt lv st M mc ms Q) (kf : ¬ y ≤ x → zJ o d (pc + 3) lv st M mc ms Q) : zJ o d pc lv (.int y :: .int x :: st) M mc ms Q := by
  intro p l e R s m args below meth c tc ts Z hR C E H locs cells slots ls h1 h2 h3 h4
  exact lv_icmp_ge C.1 C.2.1 hd ht (fun q => kt q p l e R s m args below meth c tc ts Z hR C E H locs cells slots ls h1 h2 h3 h4) (fun q => kf q p l e R s m args below meth c tc ts Z hR C E H locs cells slots ls h1 h2 h3 h4)
theorem zJ.if_gt {x : Int32} {off : Int} {tgt : Nat} (hd : decode (z_cc d) pc = .ok (.ifCond .gt off, 3)) (ht : (pc : Int) + off = (tgt : Int)) (kt : 0 < x → zJ o d tgt lv st M mc ms Q) (kf : ¬ 0 < x → zJ o d (pc + 3) lv st M mc ms Q) : zJ o d pc lv (.int x :: st) M mc ms Q := by
  intro p l e R s m args below meth c tc ts Z hR C E H locs cells slots ls h1 h2 h3 h4
  exact lv_if_gt C.1 C.2.1 hd ht (fun q => kt q p l e R s m args below meth c tc ts Z hR C E H locs cells slots ls h1 h2 h3 h4) (fun q => kf q p l e R s m args below meth c tc ts Z hR C E H locs cells slots ls h1 h2 h3 h4)
theorem zJ.icmp_gt {x y : Int32} {off : Int} {tgt : Nat} (hd : decode (z_cc d) pc = .ok (.if_icmp .gt off, 3)) (ht : (pc : Int) + off = (tgt : Int)) (kt : y < x → zJ o d tgt lv st M mc ms Q) (kf : ¬ y < x → zJ o d (pc + 3) lv st M mc ms Q) : zJ o d pc lv (.int y :: .int x :: st) M mc ms Q := by
  intro p l e R s m args below meth c tc ts Z hR C E H locs cells slots ls h1 h2 h3 h4
  exact lv_icmp_gt C.1 C.2.1 hd ht (fun q => kt q p l e R s m args below meth c tc ts Z hR C E H locs cells slots ls h1 h2 h3 h4) (fun q => kf q p l e R s m args below meth c tc ts Z hR C E H locs cells slots ls h1 h2 h3 h4)
theorem zJ.if_le {x : Int32} {off : Int} {tgt : Nat} (hd : decode (z_cc d) pc = .ok (.ifCond .le off, 3)) (ht : (pc : Int) + off = (tgt : Int)) (kt : x ≤ 0 → zJ o d tgt lv st M mc ms Q) (kf : ¬ x ≤ 0 → zJ o d (pc + 3) lv st M mc ms Q) : zJ o d pc lv (.int x :: st) M mc ms Q := by
  intro p l e R s m args below meth c tc ts Z hR C E H locs cells slots ls h1 h2 h3 h4
  exact lv_if_le C.1 C.2.1 hd ht (fun q => kt q p l e R s m args below meth c tc ts Z hR C E H locs cells slots ls h1 h2 h3 h4) (fun q => kf q p l e R s m args below meth c tc ts Z hR C E H locs cells slots ls h1 h2 h3 h4)
theorem zJ.icmp_le {x y : Int32} {off : Int} {tgt : Nat} (hd : decode (z_cc d) pc = .ok (.if_icmp .le off, 3)) (ht : (pc : Int) + off = (tgt : Int)) (kt : x ≤ y → zJ o d tgt lv st M mc ms Q) (kf : ¬ x ≤ y → zJ o d (pc + 3) lv st M mc ms Q) : zJ o d pc lv (.int y :: .int x :: st) M mc ms Q := by
  intro p l e R s m args below meth c tc ts Z hR C E H locs cells slots ls h1 h2 h3 h4
  exact lv_icmp_le C.1 C.2.1 hd ht (fun q => kt q p l e R s m args below meth c tc ts Z hR C E H locs cells slots ls h1 h2 h3 h4) (fun q => kf q p l e R s m args below meth c tc ts Z hR C E H locs cells slots ls h1 h2 h3 h4)
theorem zJ.goto {off : Int} {tgt : Nat} (hd : decode (z_cc d) pc = .ok (.goto off, 3)) (ht : (pc : Int) + off = (tgt : Int)) (k : zJ o d tgt lv st M mc ms Q) : zJ o d pc lv st M mc ms Q := by
  intro p l e R s m args below meth c tc ts Z hR C E H locs cells slots ls h1 h2 h3 h4
  exact lv_goto C.1 C.2.1 hd ht (k p l e R s m args below meth c tc ts Z hR C E H locs cells slots ls h1 h2 h3 h4)
theorem zJ.tableOut {dflt lo hi : Int} {offs : Array Int} {len : Nat} {x : Int32} {tgt : Nat} (hd : decode (z_cc d) pc = .ok (.tableswitch dflt lo hi offs, len)) (h : x.toInt < lo ∨ hi < x.toInt) (ht : (pc : Int) + dflt = (tgt : Int)) (k : zJ o d tgt lv st M mc ms Q) : zJ o d pc lv (.int x :: st) M mc ms Q := by
  intro p l e R s m args below meth c tc ts Z hR C E H locs cells slots ls h1 h2 h3 h4
  exact lv_tableOut C.1 C.2.1 hd h ht (k p l e R s m args below meth c tc ts Z hR C E H locs cells slots ls h1 h2 h3 h4)
theorem zJ.tableIn {dflt lo hi : Int} {offs : Array Int} {len : Nat} {x : Int32} {off : Int} {tgt : Nat} (hd : decode (z_cc d) pc = .ok (.tableswitch dflt lo hi offs, len)) (g1 : ¬ x.toInt < lo) (g2 : ¬ hi < x.toInt) (ho : offs[(x.toInt - lo).toNat]? = some off) (ht : (pc : Int) + off = (tgt : Int)) (k : zJ o d tgt lv st M mc ms Q) : zJ o d pc lv (.int x :: st) M mc ms Q := by
  intro p l e R s m args below meth c tc ts Z hR C E H locs cells slots ls h1 h2 h3 h4
  exact lv_tableIn C.1 C.2.1 hd g1 g2 ho ht (k p l e R s m args below meth c tc ts Z hR C E H locs cells slots ls h1 h2 h3 h4)
theorem zJ.ldc {index : Nat} {v : Int32} (hw : Cond.constant (z_y d).cls index v ∈ lw_tbl) (hd : decode (z_cc d) pc = .ok (.ldc index, 2)) (k : zJ o d (pc + 2) lv (.int v :: st) M mc ms Q) : zJ o d pc lv st M mc ms Q := by
  intro p l e R s m args below meth c tc ts Z hR C E H locs cells slots ls h1 h2 h3 h4
  obtain ⟨hx, hb, hrt, hml, hown, hlk, hnm, ⟨hK, hT⟩, hX, hf, hlo, hz⟩ := id C
  exact lv_ldc hx hb hown (z_use hT hw rfl rfl) hd (k p l e R s m args below meth c tc ts Z hR C E H locs cells slots ls h1 h2 h3 h4)
theorem zJ.ldcw {index : Nat} {v : Int32} (hw : Cond.constant (z_y d).cls index v ∈ lw_tbl) (hd : decode (z_cc d) pc = .ok (.ldc_w index, 3)) (k : zJ o d (pc + 3) lv (.int v :: st) M mc ms Q) : zJ o d pc lv st M mc ms Q := by
  intro p l e R s m args below meth c tc ts Z hR C E H locs cells slots ls h1 h2 h3 h4
  obtain ⟨hx, hb, hrt, hml, hown, hlk, hnm, ⟨hK, hT⟩, hX, hf, hlo, hz⟩ := id C
  exact lv_ldcw hx hb hown (z_use hT hw rfl rfl) hd (k p l e R s m args below meth c tc ts Z hR C E H locs cells slots ls h1 h2 h3 h4)
theorem zJ.ldcf {index : Nat} {v : UInt32} (hw : Cond.constantFloat (z_y d).cls index v ∈ lw_tbl) (hd : decode (z_cc d) pc = .ok (.ldc index, 2)) (k : zJ o d (pc + 2) lv (.float v :: st) M mc ms Q) : zJ o d pc lv st M mc ms Q := by
  intro p l e R s m args below meth c tc ts Z hR C E H locs cells slots ls h1 h2 h3 h4
  obtain ⟨hx, hb, hrt, hml, hown, hlk, hnm, ⟨hK, hT⟩, hX, hf, hlo, hz⟩ := id C
  exact lv_ldcf hx hb hown (z_use hT hw rfl rfl) hd (k p l e R s m args below meth c tc ts Z hR C E H locs cells slots ls h1 h2 h3 h4)
theorem zJ.ldc2 {index : Nat} {v : Int64} (hw : Cond.constantLong (z_y d).cls index v ∈ lw_tbl) (hd : decode (z_cc d) pc = .ok (.ldc2_w index, 3)) (k : zJ o d (pc + 3) lv (.long v :: st) M mc ms Q) : zJ o d pc lv st M mc ms Q := by
  intro p l e R s m args below meth c tc ts Z hR C E H locs cells slots ls h1 h2 h3 h4
  obtain ⟨hx, hb, hrt, hml, hown, hlk, hnm, ⟨hK, hT⟩, hX, hf, hlo, hz⟩ := id C
  exact lv_ldc2 hx hb hown (z_use hT hw rfl rfl) hd (k p l e R s m args below meth c tc ts Z hR C E H locs cells slots ls h1 h2 h3 h4)
theorem zJ.ldc2d {index : Nat} {v : UInt64} (hw : Cond.constantDouble (z_y d).cls index v ∈ lw_tbl) (hd : decode (z_cc d) pc = .ok (.ldc2_w index, 3)) (k : zJ o d (pc + 3) lv (.double v :: st) M mc ms Q) : zJ o d pc lv st M mc ms Q := by
  intro p l e R s m args below meth c tc ts Z hR C E H locs cells slots ls h1 h2 h3 h4
  obtain ⟨hx, hb, hrt, hml, hown, hlk, hnm, ⟨hK, hT⟩, hX, hf, hlo, hz⟩ := id C
  exact lv_ldc2d hx hb hown (z_use hT hw rfl rfl) hd (k p l e R s m args below meth c tc ts Z hR C E H locs cells slots ls h1 h2 h3 h4)
/-- what is known of a class: its number, fields, words -/
def z_KI (ci : Nat) (C : String) (T : u_T) (N : Nat) (ty : Nat → FieldType) : Prop := vwCl[ci]? = some (C, T, N) ∧ (∀ w ∈ u_ws C T N, w ∈ lw_tbl ∧ z_good w = true ∧ w.onTables = true) ∧ (∀ k, k < N → parseFieldDescriptor (T k).2.2.1 = some (ty k)) ∧ (∀ a, a < N → ∀ b, b < N → a ≠ b → (T a).2.1 ≠ (T b).2.1) ∧ ∀ k, k < N → (T k).1 = C
abbrev z_FL (d : zD) (idx : Nat) (C : String) (T : u_T) (j : Nat) : Prop := Cond.fieldLink (z_y d).cls idx C (T j).2.1 (T j).2.2.1 ∈ lw_tbl ∨ Cond.fieldLinkNest (z_y d).cls idx C (T j).2.1 (T j).2.2.1 "LateLines" ∈ lw_tbl
theorem z_Rel_set {o : zW} {n : Nat} {e : zK → va_E} {k : zK} {x : va_E} {H H1 : Heap} (hk : z_ok n k) (h : z_Rel o (n, e) H) (hx : va_at o.2.1 vwCl (z_adr o k, x) H1) (oq : ∀ q : Nat, q ≠ z_adr o k → H1[q]? = H[q]?) (hz : H1.size = H.size) : z_Rel o (n, z_up e k x) H1 := by
  refine ⟨?_, hz.trans h.2.1, h.2.2⟩
  rw [← z_ws_set hk h.2.2]
  exact h.1.set (z_ws_D o (n, e)) (z_ws_get (M := (n, e)) hk) hx oq
theorem z_inA (o : zW) (k : zK) : z_A o (z_adr o k) := Nat.le_add_right _ _
theorem zJ.getf {idx ci : Nat} {C0 : String} {T : u_T} {N : Nat} {ty : Nat → FieldType} {k : zK} {fs : List Value} {v : Value} (KI : z_KI ci C0 T N ty) (j : Nat) (hj : j < N) (hl : z_FL d idx C0 T j) (hd : decode (z_cc d) pc = .ok (.getfield idx, 3)) (hk : z_ok M.1 k) (he : M.2 k = .inr (ci, fs)) (hv : fs[j]? = some v)
    (kk : zJ o d (pc + 3) lv (v :: st) M mc ms Q) : zJ o d pc lv (.ref (z_adr o k) :: st) M mc ms Q := by
  intro p l e R s m args below meth c tc ts Z hR C E H locs cells slots ls h1 h2 h3 h4
  obtain ⟨hx, hb, hrt, hml, hown, hlk, hnm, ⟨hK, hT⟩, hX, hf, hlo, hz⟩ := id C
  obtain ⟨hc, hw, hty, hnd, hdc⟩ := KI
  have hts : ∀ w ∈ u_ws C0 T N, w.before args s = true := fun w h => z_use hT (hw w h).1 (hw w h).2.1 (hw w h).2.2
  have hq : (z_ws o M)[z_lay k]? = some (z_adr o k, .inr (ci, fs)) := by rw [z_ws_get hk, he]
  rcases hl with hl | hl
  · exact va_get hx hb hts (fun w h => h) hown hK h1.1 (z_lay k) hq hc j hj (z_use hT hl rfl rfl) (fun x h => by rw [hdc j hj] at h; exact h) hv hd (kk p l e R s m args below meth c tc ts Z hR C E H locs cells slots ls h1 h2 h3 h4)
  · exact va_getN hx hb hts (fun w h => h) hown hK h1.1 (z_lay k) hq hc j hj (z_use hT hl rfl rfl) (fun x h => by rw [hdc j hj] at h; exact h) hv hd (kk p l e R s m args below meth c tc ts Z hR C E H locs cells slots ls h1 h2 h3 h4)
theorem zJ.putf {idx ci : Nat} {C0 : String} {T : u_T} {N : Nat} {ty : Nat → FieldType} {k : zK} {fs : List Value} {v : Value} (KI : z_KI ci C0 T N ty) (j : Nat) (hj : j < N) (hl : z_FL d idx C0 T j) (hd : decode (z_cc d) pc = .ok (.putfield idx, 3)) (hk : z_ok M.1 k) (he : M.2 k = .inr (ci, fs)) (hfin : (T j).2.2.2 = false) (hn : narrow (ty j) v = v) (hft : fits (ty j) v = true) (hjl : j < fs.length)
    (kk : zJ o d (pc + 3) lv st (M.1, z_up M.2 k (.inr (ci, fs.set j v))) mc ms Q) : zJ o d pc lv (v :: .ref (z_adr o k) :: st) M mc ms Q := by
  intro p l e R s m args below meth c tc ts Z hR C E H locs cells slots ls h1 h2 h3 h4
  obtain ⟨hx, hb, hrt, hml, hown, hlk, hnm, ⟨hK, hT⟩, hX, hf, hlo, hz⟩ := id C
  obtain ⟨hc, hw, hty, hnd, hdc⟩ := KI
  have hts : ∀ w ∈ u_ws C0 T N, w.before args s = true := fun w h => z_use hT (hw w h).1 (hw w h).2.1 (hw w h).2.2
  have hq : (z_ws o M)[z_lay k]? = some (z_adr o k, .inr (ci, fs)) := by rw [z_ws_get hk, he]
  have hap := va_apart (own := C0) hts (fun w h => h) ty hty hnd hK hc
  obtain ⟨r, g1, cell, q1, q2, q3, q4⟩ := h1.1 (z_lay k) _ hq
  have hr : r = (C0, T, N) := Option.some.inj (g1.symm.trans hc)
  subst hr
  obtain ⟨hSl, hfc, kC, hkC, hkind⟩ := hK.1 ci _ hc
  obtain ⟨cf, kf, fi, f, hi, hsl⟩ := hSl j hj
  have hlay := hts _ (u_in_lay hj)
  unfold u_lay at hlay
  rw [if_neg (by rw [hfin]; decide)] at hlay
  have hst := (u_facts hfc hkC (u_lays hts (fun w h => h) hj) hi).1
  have h6 := u_store hfc hkC hkind hlay hi (hty j hj) hn hft
  have fin : ∀ H' : Heap, H'[z_adr o k]? = some (cell.setSlot f.slot v) → H'.size = H.size → (∀ q, q ≠ z_adr o k → H'[q]? = H[q]?) → W p l e R s m args below meth c H' (locs ++ [⟨z_adr o k, f.slot⟩]) cells slots Z (F0 m (pc + 3) ls st) := by
    intro H' e1 e2 e3
    rw [hsl] at e1 ⊢
    exact kk p l e R s m args below meth c tc ts Z hR C E H' _ cells slots ls (z_Rel_set (n := M.1) (e := M.2) hk h1 ⟨_, hc, t_OB.to (V := updV (vp_V fs) j v) ⟨_, e1, q2, q3, t_set q4 hap hj v⟩ (fun i _ => vp_updV_set hjl v i)⟩ e3 e2) (h2.put e2 e3 (z_inA o k)) h3 h4
  have hi' : s.fieldFound? C0 (T j).2.1 (T j).2.2.1 = some (cf, kf, fi, f) := by rw [hdc j hj] at hi; exact hi
  rcases hl with hl | hl
  · exact W.putK hx hb (f := f) ⟨hown, z_use hT hl rfl rfl, ⟨_, _, _, hi'⟩, hst⟩ (by rw [q2]; exact h6) q1 q3 (by rw [hsl]; exact k2_hasslot (q4 j hj)) rfl rfl hd fin
  · exact va_WputK hx hb (f := f) hown (z_use hT hl rfl rfl) hi' hst (by rw [q2]; exact h6) q1 q3 (by rw [hsl]; exact k2_hasslot (q4 j hj)) rfl rfl hd fin
theorem zJ.putF {idx ci : Nat} {C0 : String} {T : u_T} {N : Nat} {ty : Nat → FieldType} {k : zK} {fs : List Value} {v : Value} (KI : z_KI ci C0 T N ty) (j : Nat) (hj : j < N) (hl : Cond.fieldLink (z_y d).cls idx C0 (T j).2.1 (T j).2.2.1 ∈ lw_tbl) (hd : decode (z_cc d) pc = .ok (.putfield idx, 3)) (hk : z_ok M.1 k) (he : M.2 k = .inr (ci, fs)) (hfin : (T j).2.2.2 = true) (hin2 : (z_y d).name = "<init>") (hcl : (z_y d).cls = C0) (hn : narrow (ty j) v = v) (hft : fits (ty j) v = true) (hjl : j < fs.length)
    (kk : zJ o d (pc + 3) lv st (M.1, z_up M.2 k (.inr (ci, fs.set j v))) mc ms Q) : zJ o d pc lv (v :: .ref (z_adr o k) :: st) M mc ms Q := by
  intro p l e R s m args below meth c tc ts Z hR C E H locs cells slots ls h1 h2 h3 h4
  obtain ⟨hx, hb, hrt, hml, hown, hlk, hnm, ⟨hK, hT⟩, hX, hf, hlo, hz⟩ := id C
  obtain ⟨hc, hw, hty, hnd, hdc⟩ := KI
  have hts : ∀ w ∈ u_ws C0 T N, w.before args s = true := fun w h => z_use hT (hw w h).1 (hw w h).2.1 (hw w h).2.2
  have hq : (z_ws o M)[z_lay k]? = some (z_adr o k, .inr (ci, fs)) := by rw [z_ws_get hk, he]
  have hap := va_apart (own := C0) hts (fun w h => h) ty hty hnd hK hc
  obtain ⟨r, g1, cell, q1, q2, q3, q4⟩ := h1.1 (z_lay k) _ hq
  have hr : r = (C0, T, N) := Option.some.inj (g1.symm.trans hc)
  subst hr
  obtain ⟨hSl, hfc, kC, hkC, hkind⟩ := hK.1 ci _ hc
  obtain ⟨cf, kf, fi, f, hi, hsl⟩ := hSl j hj
  have hlay := hts _ (u_in_lay hj)
  unfold u_lay at hlay
  rw [if_pos hfin] at hlay
  have hst := (u_facts hfc hkC (u_lays hts (fun w h => h) hj) hi).1
  have hcf : m.cls = cf := by
    obtain ⟨_, _, c', _, _, _, -, -, hf', -, -, -, hown2, -⟩ := Cond.laysFinal_spec hlay
    have e1 : c' = cf := by have := hi.symm.trans hf'; simp at this; exact this.1.symm
    rw [hdc j hj, ← hcl] at hown2
    rw [← e1]; exact Option.some.inj (hown.symm.trans hown2)
  have h6 := u_fits hfc hkC hkind (Or.inr hlay) hi (hty j hj) hn hft
  have hi' : s.fieldFound? C0 (T j).2.1 (T j).2.2.1 = some (cf, kf, fi, f) := by rw [hdc j hj] at hi; exact hi
  refine W.putFinK hx hb hown (z_use hT hl rfl rfl) hi' hst hcf (hnm.trans hin2) (by rw [q2]; exact h6) q1 q3 (by rw [hsl]; exact k2_hasslot (q4 j hj)) rfl rfl hd fun H' e1 e2 e3 => ?_
  rw [hsl] at e1 ⊢
  exact kk p l e R s m args below meth c tc ts Z hR C E H' _ cells slots ls (z_Rel_set (n := M.1) (e := M.2) hk h1 ⟨_, hc, t_OB.to (V := updV (vp_V fs) j v) ⟨_, e1, q2, q3, t_set q4 hap hj v⟩ (fun i _ => vp_updV_set hjl v i)⟩ e3 e2) (h2.put e2 e3 (z_inA o k)) h3 h4
theorem zJ.iald {k : zK} {n : Nat} {f : Nat → Int32} {i : Int32} (hd : decode (z_cc d) pc = .ok (.iaload, 1)) (hk : z_ok M.1 k) (he : M.2 k = .inl (o.2.2.1 0, n, .inl f)) (hin : vp_in i n)
    (kk : zJ o d (pc + 1) lv (.int (f i.toNatClampNeg) :: st) M mc ms Q) : zJ o d pc lv (.int i :: .ref (z_adr o k) :: st) M mc ms Q := by
  intro p l e R s m args below meth c tc ts Z hR C E H locs cells slots ls h1 h2 h3 h4
  obtain ⟨hx, hb, hrt, hml, hown, hlk, hnm, ⟨hK, hT⟩, hX, hf, hlo, hz⟩ := id C
  exact va_iald hx hb hK h1.1 (z_lay k) 0 (by rw [z_ws_get hk, he]) rfl hin hd (kk p l e R s m args below meth c tc ts Z hR C E H locs cells slots ls h1 h2 h3 h4)
theorem zJ.iast {k : zK} {n : Nat} {f : Nat → Int32} {i : Int32} {x : Int32} (hd : decode (z_cc d) pc = .ok (.iastore, 1)) (hk : z_ok M.1 k) (he : M.2 k = .inl (o.2.2.1 0, n, .inl f)) (hin : vp_in i n)
    (kk : zJ o d (pc + 1) lv st (M.1, z_up M.2 k (.inl (o.2.2.1 0, n, .inl (upd f i.toNatClampNeg x)))) mc ms Q) : zJ o d pc lv (.int x :: .int i :: .ref (z_adr o k) :: st) M mc ms Q := by
  intro p l e R s m args below meth c tc ts Z hR C E H locs cells slots ls h1 h2 h3 h4
  obtain ⟨hx, hb, hrt, hml, hown, hlk, hnm, ⟨hK, hT⟩, hX, hf, hlo, hz⟩ := id C
  have hq : (z_ws o M)[z_lay k]? = some (z_adr o k, .inl (o.2.2.1 0, n, .inl f)) := by rw [z_ws_get hk, he]
  refine W.iast hx hb (h1.1 (z_lay k) _ hq) ((hK.2 0 _ rfl).1 n (fun j => .int (f j))) (fun q => by cases q) (by show ¬ (i < 0 ∨ (arrV _ _ _).slots.size ≤ _); rw [arrV_size]; exact hin) rfl rfl hd fun H1 e1 z1 oq => ?_
  refine kk p l e R s m args below meth c tc ts Z hR C E H1 _ cells slots ls (z_Rel_set (n := M.1) (e := M.2) hk h1 ?_ oq z1) (h2.put z1 oq (z_inA o k)) h3 h4
  show H1[z_adr o k]? = some (vp_cell _ _)
  rw [e1, vp_cell_i, vp_cell_i, arrV_store]
  congr 2
  funext j
  by_cases hj : j = i.toNatClampNeg
  · subst hj; simp [updV, upd, vp_updL, vf_upd]
  · simp [updV, upd, vp_updL, vf_upd, hj]
theorem zJ.lald {k : zK} {n : Nat} {f : Nat → Int64} {i : Int32} (hd : decode (z_cc d) pc = .ok (.laload, 1)) (hk : z_ok M.1 k) (he : M.2 k = .inl (o.2.2.1 1, n, .inr (.inl f))) (hin : vp_in i n)
    (kk : zJ o d (pc + 1) lv (.long (f i.toNatClampNeg) :: st) M mc ms Q) : zJ o d pc lv (.int i :: .ref (z_adr o k) :: st) M mc ms Q := by
  intro p l e R s m args below meth c tc ts Z hR C E H locs cells slots ls h1 h2 h3 h4
  obtain ⟨hx, hb, hrt, hml, hown, hlk, hnm, ⟨hK, hT⟩, hX, hf, hlo, hz⟩ := id C
  exact va_lald hx hb hK h1.1 (z_lay k) 1 (by rw [z_ws_get hk, he]) rfl hin hd (kk p l e R s m args below meth c tc ts Z hR C E H locs cells slots ls h1 h2 h3 h4)
theorem zJ.last {k : zK} {n : Nat} {f : Nat → Int64} {i : Int32} {x : Int64} (hd : decode (z_cc d) pc = .ok (.lastore, 1)) (hk : z_ok M.1 k) (he : M.2 k = .inl (o.2.2.1 1, n, .inr (.inl f))) (hin : vp_in i n)
    (kk : zJ o d (pc + 1) lv st (M.1, z_up M.2 k (.inl (o.2.2.1 1, n, .inr (.inl (vp_updL f i.toNatClampNeg x))))) mc ms Q) : zJ o d pc lv (.long x :: .int i :: .ref (z_adr o k) :: st) M mc ms Q := by
  intro p l e R s m args below meth c tc ts Z hR C E H locs cells slots ls h1 h2 h3 h4
  obtain ⟨hx, hb, hrt, hml, hown, hlk, hnm, ⟨hK, hT⟩, hX, hf, hlo, hz⟩ := id C
  have hq : (z_ws o M)[z_lay k]? = some (z_adr o k, .inl (o.2.2.1 1, n, .inr (.inl f))) := by rw [z_ws_get hk, he]
  refine W.last hx hb (h1.1 (z_lay k) _ hq) ((hK.2 1 _ rfl).1 n (fun j => .long (f j))) (fun q => by cases q) (by show ¬ (i < 0 ∨ (arrV _ _ _).slots.size ≤ _); rw [arrV_size]; exact hin) rfl rfl hd fun H1 e1 z1 oq => ?_
  refine kk p l e R s m args below meth c tc ts Z hR C E H1 _ cells slots ls (z_Rel_set (n := M.1) (e := M.2) hk h1 ?_ oq z1) (h2.put z1 oq (z_inA o k)) h3 h4
  show H1[z_adr o k]? = some (vp_cell _ _)
  rw [e1, vp_cell_l, vp_cell_l, arrV_store]
  congr 2
  funext j
  by_cases hj : j = i.toNatClampNeg
  · subst hj; simp [updV, upd, vp_updL, vf_upd]
  · simp [updV, upd, vp_updL, vf_upd, hj]
theorem zJ.fald {k : zK} {n : Nat} {f : Nat → UInt32} {i : Int32} (hd : decode (z_cc d) pc = .ok (.faload, 1)) (hk : z_ok M.1 k) (he : M.2 k = .inl (o.2.2.1 2, n, .inr (.inr (.inl f)))) (hin : vp_in i n)
    (kk : zJ o d (pc + 1) lv (.float (f i.toNatClampNeg) :: st) M mc ms Q) : zJ o d pc lv (.int i :: .ref (z_adr o k) :: st) M mc ms Q := by
  intro p l e R s m args below meth c tc ts Z hR C E H locs cells slots ls h1 h2 h3 h4
  obtain ⟨hx, hb, hrt, hml, hown, hlk, hnm, ⟨hK, hT⟩, hX, hf, hlo, hz⟩ := id C
  exact va_fald hx hb hK h1.1 (z_lay k) 2 (by rw [z_ws_get hk, he]) rfl hin hd (kk p l e R s m args below meth c tc ts Z hR C E H locs cells slots ls h1 h2 h3 h4)
theorem zJ.fast {k : zK} {n : Nat} {f : Nat → UInt32} {i : Int32} {x : UInt32} (hd : decode (z_cc d) pc = .ok (.fastore, 1)) (hk : z_ok M.1 k) (he : M.2 k = .inl (o.2.2.1 2, n, .inr (.inr (.inl f)))) (hin : vp_in i n)
    (kk : zJ o d (pc + 1) lv st (M.1, z_up M.2 k (.inl (o.2.2.1 2, n, .inr (.inr (.inl (vf_upd f i.toNatClampNeg x)))))) mc ms Q) : zJ o d pc lv (.float x :: .int i :: .ref (z_adr o k) :: st) M mc ms Q := by
  intro p l e R s m args below meth c tc ts Z hR C E H locs cells slots ls h1 h2 h3 h4
  obtain ⟨hx, hb, hrt, hml, hown, hlk, hnm, ⟨hK, hT⟩, hX, hf, hlo, hz⟩ := id C
  have hq : (z_ws o M)[z_lay k]? = some (z_adr o k, .inl (o.2.2.1 2, n, .inr (.inr (.inl f)))) := by rw [z_ws_get hk, he]
  refine W.fast hx hb (h1.1 (z_lay k) _ hq) ((hK.2 2 _ rfl).1 n (fun j => .float (f j))) (fun q => by cases q) (by show ¬ (i < 0 ∨ (arrV _ _ _).slots.size ≤ _); rw [arrV_size]; exact hin) rfl rfl hd fun H1 e1 z1 oq => ?_
  refine kk p l e R s m args below meth c tc ts Z hR C E H1 _ cells slots ls (z_Rel_set (n := M.1) (e := M.2) hk h1 ?_ oq z1) (h2.put z1 oq (z_inA o k)) h3 h4
  show H1[z_adr o k]? = some (vp_cell _ _)
  rw [e1, vp_cell_f, vp_cell_f, arrV_store]
  congr 2
  funext j
  by_cases hj : j = i.toNatClampNeg
  · subst hj; simp [updV, upd, vp_updL, vf_upd]
  · simp [updV, upd, vp_updL, vf_upd, hj]
theorem zJ.aald {k : zK} {n : Nat} {f : Nat → Option Nat} {i : Int32} {t0 : Nat} {C0 : String} (ht : (z_tys o)[t0]? = some (o.2.2.1 t0, .object C0)) (hd : decode (z_cc d) pc = .ok (.aaload, 1)) (hk : z_ok M.1 k) (he : M.2 k = .inl (o.2.2.1 t0, n, .inr (.inr (.inr (.inr f))))) (hin : vp_in i n)
    (kk : zJ o d (pc + 1) lv (va_rf (f i.toNatClampNeg) :: st) M mc ms Q) : zJ o d pc lv (.int i :: .ref (z_adr o k) :: st) M mc ms Q := by
  intro p l e R s m args below meth c tc ts Z hR C E H locs cells slots ls h1 h2 h3 h4
  obtain ⟨hx, hb, hrt, hml, hown, hlk, hnm, ⟨hK, hT⟩, hX, hf, hlo, hz⟩ := id C
  exact va_aldq hx hb hK h1.1 (z_lay k) t0 (by rw [z_ws_get hk, he]) ht hin hd (kk p l e R s m args below meth c tc ts Z hR C E H locs cells slots ls h1 h2 h3 h4)
theorem zJ.aast {k kv : zK} {n : Nat} {f : Nat → Option Nat} {i : Int32} {t0 ci : Nat} {r : vw_C} {vs : List Value} (ht : (z_tys o)[t0]? = some (o.2.2.1 t0, .object r.1)) (hc : vwCl[ci]? = some r) (hd : decode (z_cc d) pc = .ok (.aastore, 1)) (hk : z_ok M.1 k) (he : M.2 k = .inl (o.2.2.1 t0, n, .inr (.inr (.inr (.inr f))))) (hkv : z_ok M.1 kv) (hev : M.2 kv = .inr (ci, vs)) (hin : vp_in i n)
    (kk : zJ o d (pc + 1) lv st (M.1, z_up M.2 k (.inl (o.2.2.1 t0, n, .inr (.inr (.inr (.inr (va_up f i.toNatClampNeg (some (z_adr o kv))))))))) mc ms Q) : zJ o d pc lv (.ref (z_adr o kv) :: .int i :: .ref (z_adr o k) :: st) M mc ms Q := by
  intro p l e R s m args below meth c tc ts Z hR C E H locs cells slots ls h1 h2 h3 h4
  obtain ⟨hx, hb, hrt, hml, hown, hlk, hnm, ⟨hK, hT⟩, hX, hf, hlo, hz⟩ := id C
  have hq : (z_ws o M)[z_lay k]? = some (z_adr o k, .inl (o.2.2.1 t0, n, .inr (.inr (.inr (.inr f))))) := by rw [z_ws_get hk, he]
  have hqv : (z_ws o M)[z_lay kv]? = some (z_adr o kv, .inr (ci, vs)) := by rw [z_ws_get hkv, hev]
  have hlt : i.toNatClampNeg < n := Nat.not_le.mp fun q => hin (Or.inr q)
  have h0 : ¬ i < 0 := fun q => hin (Or.inl q)
  obtain ⟨r', hr', cellV, g1, g2, g3, -⟩ := h1.1 (z_lay kv) _ hqv
  have hcls := (hK.1 ci r hc).2
  obtain ⟨kA, comp, k1, k2, k3, -⟩ := (hK.2 t0 _ ht).2
  have hcomp : comp = o.2.1.1 ci := Option.some.inj (k3.symm.trans hcls.1)
  subst hcomp
  obtain ⟨kC, hkC, -⟩ := hcls.2
  refine W.aast hx hb (h1.1 (z_lay k) _ hq) (fun q h => by cases h) (fun h => by cases h) k1 k2 rfl hkC ⟨h0, by show _ < (arrV _ _ _).slots.size; rw [arrV_size]; exact hlt⟩ g1 (fun q h => by rw [g3] at h; cases h) (by rw [g2]; exact hkC) (by rw [g2]; exact va_assign hcls) rfl rfl hd fun H1 e1 z1 oq => ?_
  refine kk p l e R s m args below meth c tc ts Z hR C E H1 _ cells slots ls (z_Rel_set (n := M.1) (e := M.2) hk h1 ?_ oq z1) (h2.put z1 oq (z_inA o k)) h3 h4
  show H1[z_adr o k]? = some (vp_cell _ _)
  rw [e1, vp_cell_q, vp_cell_q, arrV_store]
  congr 2
  funext q
  by_cases hq : q = i.toNatClampNeg
  · subst hq
    simp [updV, va_up, va_rf]
  · simp [updV, va_up, hq]
theorem zJ.alen {k : zK} {x : vp_A} {t0 : Nat} {ty : FieldType} {v : Int32} (ht : (z_tys o)[t0]? = some (o.2.2.1 t0, ty)) (hd : decode (z_cc d) pc = .ok (.arraylength, 1)) (hk : z_ok M.1 k) (he : M.2 k = .inl (o.2.2.1 t0, x)) (hv : Int32.ofNat x.1 = v)
    (kk : zJ o d (pc + 1) lv (.int v :: st) M mc ms Q) : zJ o d pc lv (.ref (z_adr o k) :: st) M mc ms Q := by
  intro p l e R s m args below meth c tc ts Z hR C E H locs cells slots ls h1 h2 h3 h4
  obtain ⟨hx, hb, hrt, hml, hown, hlk, hnm, ⟨hK, hT⟩, hX, hf, hlo, hz⟩ := id C
  exact va_alen hx hb hK h1.1 (z_lay k) t0 (by rw [z_ws_get hk, he]) ht hv hd (kk p l e R s m args below meth c tc ts Z hR C E H locs cells slots ls h1 h2 h3 h4)
theorem zJ.gets {idx i : Nat} (hi : i < 3) (hl : Cond.fieldLink (z_y d).cls idx "LateLines" (z_sn i) "[I" ∈ lw_tbl ∨ Cond.fieldLinkNest (z_y d).cls idx "LateLines" (z_sn i) "[I" "LateLines" ∈ lw_tbl) (hd : decode (z_cc d) pc = .ok (.getstatic idx, 3))
    (kk : zJ o d (pc + 3) lv (.ref (o.2.2.2.1 i) :: st) M mc ms Q) : zJ o d pc lv st M mc ms Q := by
  intro p l e R s m args below meth c tc ts Z hR C E H locs cells slots ls h1 h2 h3 h4
  obtain ⟨hx, hb, hrt, hml, hown, hlk, hnm, ⟨hK, hT⟩, hX, hf, hlo, hz⟩ := id C
  rcases hl with hl | hl
  · exact va_gets hx hb (hX.2 i hi).1 h2 hown (z_use hT hl rfl rfl) (fun x h => h) hd (kk p l e R s m args below meth c tc ts Z hR C E H locs cells slots ls h1 h2 h3 h4)
  · exact va_getsN hx hb (hX.2 i hi).1 h2 hown (z_use hT hl rfl rfl) (fun x h => h) hd (kk p l e R s m args below meth c tc ts Z hR C E H locs cells slots ls h1 h2 h3 h4)
theorem zJ.sald {i : Nat} {x : Int32} (hi : i < 3) (hd : decode (z_cc d) pc = .ok (.iaload, 1)) (hin : vp_in x 5)
    (kk : zJ o d (pc + 1) lv (.int (z_st i x.toNatClampNeg) :: st) M mc ms Q) : zJ o d pc lv (.int x :: .ref (o.2.2.2.1 i) :: st) M mc ms Q := by
  intro p l e R s m args below meth c tc ts Z hR C E H locs cells slots ls h1 h2 h3 h4
  obtain ⟨hx, hb, hrt, hml, hown, hlk, hnm, ⟨hK, hT⟩, hX, hf, hlo, hz⟩ := id C
  exact va_ti hx hb (hX.2 i hi).2 h2 hin rfl hd (kk p l e R s m args below meth c tc ts Z hR C E H locs cells slots ls h1 h2 h3 h4)
theorem zJ.slen {i : Nat} (hi : i < 3) (hd : decode (z_cc d) pc = .ok (.arraylength, 1))
    (kk : zJ o d (pc + 1) lv (.int 5 :: st) M mc ms Q) : zJ o d pc lv (.ref (o.2.2.2.1 i) :: st) M mc ms Q := by
  intro p l e R s m args below meth c tc ts Z hR C E H locs cells slots ls h1 h2 h3 h4
  obtain ⟨hx, hb, hrt, hml, hown, hlk, hnm, ⟨hK, hT⟩, hX, hf, hlo, hz⟩ := id C
  obtain ⟨cell, g1, g2, g3, g4, g5, g6, g7⟩ := (hX.2 i hi).2
  exact W.alen (n := 5) hx hb (by rw [h2.2.1 _ (Array.getElem?_eq_some_iff.mp g1).1 g7]; exact g1) g2 g5 rfl rfl hd (kk p l e R s m args below meth c tc ts Z hR C E H locs cells slots ls h1 h2 h3 h4)
theorem zJ.scald {x : Int32} (hd : decode (z_cc d) pc = .ok (.iaload, 1)) (hin : vp_in x o.2.2.2.2.2.1)
    (kk : zJ o d (pc + 1) lv (.int (o.2.2.2.2.2.2 x.toNatClampNeg) :: st) M mc ms Q) : zJ o d pc lv (.int x :: .ref o.2.2.2.2.1 :: st) M mc ms Q := by
  intro p l e R s m args below meth c tc ts Z hR C E H locs cells slots ls h1 h2 h3 h4
  obtain ⟨hx, hb, hrt, hml, hown, hlk, hnm, ⟨hK, hT⟩, hX, hf, hlo, hz⟩ := id C
  exact va_sld hx hb hX.1.1 (Nat.lt_of_lt_of_le hX.1.2 hz) (show ¬ o.1 ≤ _ from Nat.not_le.mpr hX.1.2) h2 hin hd (kk p l e R s m args below meth c tc ts Z hR C E H locs cells slots ls h1 h2 h3 h4)
theorem zJ.sclen (hd : decode (z_cc d) pc = .ok (.arraylength, 1))
    (kk : zJ o d (pc + 1) lv (.int (Int32.ofNat o.2.2.2.2.2.1) :: st) M mc ms Q) : zJ o d pc lv (.ref o.2.2.2.2.1 :: st) M mc ms Q := by
  intro p l e R s m args below meth c tc ts Z hR C E H locs cells slots ls h1 h2 h3 h4
  obtain ⟨hx, hb, hrt, hml, hown, hlk, hnm, ⟨hK, hT⟩, hX, hf, hlo, hz⟩ := id C
  exact va_slen hx hb hX.1.1 (Nat.lt_of_lt_of_le hX.1.2 hz) (show ¬ o.1 ≤ _ from Nat.not_le.mpr hX.1.2) h2 hd (kk p l e R s m args below meth c tc ts Z hR C E H locs cells slots ls h1 h2 h3 h4)
theorem zJ.mmax {idx : Nat} {x y : Int32} (hl : Cond.methodLink (z_y d).cls idx Lib.Math.max.name ∈ lw_tbl) (hs : Cond.static Lib.Math.max.name ∈ lw_tbl) (hi : Cond.initialized "java/lang/Math" ∈ lw_tbl) (hc : Cond.code Lib.Math.max.name Lib.Math.max.code 2 (some .int) ∈ lw_tbl) (hfr : 1 ≤ z_fr d) (hlc : (st.map fun v => v.category).sum + 13 ≤ z_lo d) (hd : decode (z_cc d) pc = .ok (.invokestatic idx, 3))
    (kk : zJ o d (pc + 3) lv (.int (if x < y then y else x) :: st) M mc ms Q) : zJ o d pc lv (.int y :: .int x :: st) M mc ms Q := by
  intro p l e R s m args below meth c tc ts Z hR C E H locs cells slots ls h1 h2 h3 h4
  obtain ⟨hx, hb, hrt, hml, hown, hlk, hnm, ⟨hK, hT⟩, hX, hf, hlo, hz⟩ := id C
  exact va_mmax hx hb (hml.trans h3.1.symm) hown (z_use hT hl rfl rfl) (z_use hT hs rfl rfl) (z_use hT hi rfl rfl) (z_use hT hc rfl rfl) (by omega) (by omega) (by omega) (by omega) hd (kk p l e R s m args below meth c tc ts Z hR C E H locs cells slots ls h1 h2 h3 h4)
theorem zJ.mmin {idx : Nat} {x y : Int32} (hl : Cond.methodLink (z_y d).cls idx Lib.Math.min.name ∈ lw_tbl) (hs : Cond.static Lib.Math.min.name ∈ lw_tbl) (hi : Cond.initialized "java/lang/Math" ∈ lw_tbl) (hc : Cond.code Lib.Math.min.name Lib.Math.min.code 2 (some .int) ∈ lw_tbl) (hfr : 1 ≤ z_fr d) (hlc : (st.map fun v => v.category).sum + 13 ≤ z_lo d) (hd : decode (z_cc d) pc = .ok (.invokestatic idx, 3))
    (kk : zJ o d (pc + 3) lv (.int (if y < x then y else x) :: st) M mc ms Q) : zJ o d pc lv (.int y :: .int x :: st) M mc ms Q := by
  intro p l e R s m args below meth c tc ts Z hR C E H locs cells slots ls h1 h2 h3 h4
  obtain ⟨hx, hb, hrt, hml, hown, hlk, hnm, ⟨hK, hT⟩, hX, hf, hlo, hz⟩ := id C
  exact va_mmin hx hb (hml.trans h3.1.symm) hown (z_use hT hl rfl rfl) (z_use hT hs rfl rfl) (z_use hT hi rfl rfl) (z_use hT hc rfl rfl) (by omega) (by omega) (by omega) (by omega) hd (kk p l e R s m args below meth c tc ts Z hR C E H locs cells slots ls h1 h2 h3 h4)
theorem zJ.f2bits {idx : Nat} {b : UInt32} (hl : Cond.methodLink (z_y d).cls idx ⟨"java/lang/Float", "floatToRawIntBits", "(F)I"⟩ ∈ lw_tbl) (hn : Cond.native ⟨"java/lang/Float", "floatToRawIntBits", "(F)I"⟩ ∈ lw_tbl) (hs : Cond.static ⟨"java/lang/Float", "floatToRawIntBits", "(F)I"⟩ ∈ lw_tbl) (hi : Cond.initialized "java/lang/Float" ∈ lw_tbl) (hfr : 1 ≤ z_fr d) (hlc : (st.map fun v => v.category).sum + 15 ≤ z_lo d) (hd : decode (z_cc d) pc = .ok (.invokestatic idx, 3))
    (kk : zJ o d (pc + 3) lv (.int b.toInt32 :: st) M mc ms Q) : zJ o d pc lv (.float b :: st) M mc ms Q := by
  intro p l e R s m args below meth c tc ts Z hR C E H locs cells slots ls h1 h2 h3 h4
  obtain ⟨hx, hb, hrt, hml, hown, hlk, hnm, ⟨hK, hT⟩, hX, hf, hlo, hz⟩ := id C
  exact vn_f2i hx hb (hml.trans h3.1.symm) hown (z_use hT hl rfl rfl) (z_use hT hn rfl rfl) (z_use hT hs rfl rfl) (z_use hT hi rfl rfl) (by omega) (by omega) hd (kk p l e R s m args below meth c tc ts Z hR C E H locs cells slots ls h1 h2 h3 h4)
theorem zJ.d2bits {idx : Nat} {b : UInt64} (hl : Cond.methodLink (z_y d).cls idx ⟨"java/lang/Double", "doubleToRawLongBits", "(D)J"⟩ ∈ lw_tbl) (hn : Cond.native ⟨"java/lang/Double", "doubleToRawLongBits", "(D)J"⟩ ∈ lw_tbl) (hs : Cond.static ⟨"java/lang/Double", "doubleToRawLongBits", "(D)J"⟩ ∈ lw_tbl) (hi : Cond.initialized "java/lang/Double" ∈ lw_tbl) (hfr : 1 ≤ z_fr d) (hlc : (st.map fun v => v.category).sum + 15 ≤ z_lo d) (hd : decode (z_cc d) pc = .ok (.invokestatic idx, 3))
    (kk : zJ o d (pc + 3) lv (.long b.toInt64 :: st) M mc ms Q) : zJ o d pc lv (.double b :: st) M mc ms Q := by
  intro p l e R s m args below meth c tc ts Z hR C E H locs cells slots ls h1 h2 h3 h4
  obtain ⟨hx, hb, hrt, hml, hown, hlk, hnm, ⟨hK, hT⟩, hX, hf, hlo, hz⟩ := id C
  exact vn_d2l hx hb (hml.trans h3.1.symm) hown (z_use hT hl rfl rfl) (z_use hT hn rfl rfl) (z_use hT hs rfl rfl) (z_use hT hi rfl rfl) (by omega) (by omega) hd (kk p l e R s m args below meth c tc ts Z hR C E H locs cells slots ls h1 h2 h3 h4)
theorem zJ.objInit {idx : Nat} {a : Nat} (hl : Cond.methodLink (z_y d).cls idx Lib.objectInit ∈ lw_tbl) (hi : Cond.instanceMethod Lib.objectInit ∈ lw_tbl) (hc : Cond.code Lib.objectInit ⟨#[0xb1]⟩ 1 none ∈ lw_tbl) (hfr : 1 ≤ z_fr d) (hlc : (st.map fun v => v.category).sum + 12 ≤ z_lo d) (hd : decode (z_cc d) pc = .ok (.invokespecial idx, 3))
    (kk : zJ o d (pc + 3) lv st M mc ms Q) : zJ o d pc lv (.ref a :: st) M mc ms Q := by
  intro p l e R s m args below meth c tc ts Z hR C E H locs cells slots ls h1 h2 h3 h4
  obtain ⟨hx, hb, hrt, hml, hown, hlk, hnm, ⟨hK, hT⟩, hX, hf, hlo, hz⟩ := id C
  exact W.objInit hx hb hown (z_use hT hl rfl rfl) (z_use hT hi rfl rfl) (z_use hT hc rfl rfl) rfl (h3.1.trans hml.symm) rfl hd (by omega) (by show 2 * 0 + _ + _ ≤ _; omega) (kk p l e R s m args below meth c tc ts Z hR C E H locs cells slots ls h1 h2 h3 h4)
theorem z_Rel_push {o : zW} {n : Nat} {e : zK → va_E} {k : zK} {x : va_E} {H H1 : Heap} (hk : z_key n = k) (hk2 : z_lay k = n) (hn : n < 994) (h : z_Rel o (n, e) H) (hx : va_at o.2.1 vwCl (o.1 + n, x) H1) (oq : ∀ q : Nat, q < H.size → H1[q]? = H[q]?) (hz : H1.size = H.size + 1) : z_Rel o (n + 1, z_up e k x) H1 := by
  refine ⟨?_, by rw [hz, h.2.1]; show o.1 + n + 1 = o.1 + (n + 1); omega, by show n + 1 ≤ 994; omega⟩
  rw [← z_ws_push hk hk2 hn]
  refine (h.1.kept (fun i q hq => oq q.1 (h.1 i q hq).lt)).app (fun i q hq => ?_)
  have hi : i < 1 := (List.getElem?_eq_some_iff.mp hq).1
  rw [show i = 0 by omega] at hq
  cases hq
  exact hx
theorem z_S_push {o : zW} {s : State} {H H1 : Heap} {locs : List Loc} (h : va_S (z_A o) s.heap H locs) (oq : ∀ q : Nat, q < H.size → H1[q]? = H[q]?) (hz : H1.size = H.size + 1) : va_S (z_A o) s.heap H1 locs :=
  ⟨Nat.le_trans h.1 (by omega), fun q a b => (oq q (Nat.lt_of_lt_of_le a h.1)).trans (h.2.1 q a b), h.2.2⟩
theorem zJ.newo {idx ci n : Nat} {e : zK → va_E} {C0 : String} {T : u_T} {N : Nat} {ty : Nat → FieldType} {k : zK} {fs : List Value} (KI : z_KI ci C0 T N ty) (hcl : Cond.classLink (z_y d).cls idx C0 ∈ lw_tbl) (hins : Cond.instantiable C0 N ∈ lw_tbl) (hini : Cond.initialized C0 ∈ lw_tbl) (hd : decode (z_cc d) pc = .ok (.new idx, 3)) (hfs : ∀ j, j < N → defaultValue (ty j) = vp_V fs j) (hk : z_key n = k) (hk2 : z_lay k = n) (hn : n < 994)
    (kk : zJ o d (pc + 3) lv (.ref (z_adr o k) :: st) (n + 1, z_up e k (.inr (ci, fs))) mc ms Q) : zJ o d pc lv st (n, e) (mc + 1) (ms + N) Q := by
  intro p l e R s m args below meth c tc ts Z hR C E H locs cells slots ls h1 h2 h3 h4
  obtain ⟨hx, hb, hrt, hml, hown, hlk, hnm, ⟨hK, hT⟩, hX, hf, hlo, hz⟩ := id C
  obtain ⟨hc, hw, hty, hnd, hdc⟩ := KI
  have hts : ∀ w ∈ u_ws C0 T N, w.before args s = true := fun w h => z_use hT (hw w h).1 (hw w h).2.1 (hw w h).2.2
  have hKn := hK.1 ci _ hc
  refine W.newcK hx hb hown (z_use hT hcl rfl rfl) (z_use hT hins rfl rfl) (z_use hT hini rfl rfl) rfl hd (by omega) (by omega) hKn.2.1 h1.2.1 fun H1 kC hkC e1 z1 o1 => ?_
  have hsz : H.size = o.1 + n := h1.2.1
  have ha : o.1 + n = z_adr o k := by show _ = o.1 + z_lay k; rw [hk2]
  have e1 : H1[o.1 + n]? = some (blank (o.2.1.1 ci) kC) := e1
  have hx1 : va_at o.2.1 vwCl (o.1 + n, .inr (ci, fs)) H1 := ⟨_, hc, (u_born ty hts (fun w h => h) hKn hkC e1 hty).to hfs⟩
  have o1' : ∀ q : Nat, q < H.size → H1[q]? = H[q]? := fun q hq => o1 q (by rw [← hsz]; exact hq)
  have z1' : H1.size = H.size + 1 := by rw [hsz]; exact z1
  have := kk p l e R s m args below meth c tc ts Z hR C E H1 locs (cells + 1) (slots + N) ls (z_Rel_push hk hk2 hn h1 hx1 o1' z1') (z_S_push h2 o1' z1') h3 ⟨by omega, by omega⟩
  rw [← ha] at this
  exact this
end ZR
end
section
section ZR
variable {o : zW} {d : zD} {pc : Nat} {lv lv' : List (Nat × Value)} {st : List Value} {M : zM} {mc ms : Nat} {Q : Option Value → zM → Prop}

theorem z_ac {ty : FieldType} {A : Array Value} {U : State} (h : (Cond.arrayClass ty).before #[] U = true) : (Cond.arrayClass ty).before A U = true := h
theorem zJ.newai {n : Nat} {e : zK → va_E} {x : Int32} {N' : Nat} {k : zK} (harr : Cond.arrayClass .int ∈ lw_tbl) (hd : decode (z_cc d) pc = .ok (.newarray .int, 2)) (hx0 : ¬ x < 0) (hN : x.toNatClampNeg = N') (hby : N' ≤ 60000000) (hk : z_key n = k) (hk2 : z_lay k = n) (hn : n < 994)
    (kk : zJ o d (pc + 2) lv (.ref (z_adr o k) :: st) (n + 1, z_up e k (.inl (o.2.2.1 0, N', .inl (fun _ => 0)))) mc ms Q) : zJ o d pc lv (.int x :: st) (n, e) (mc + 1) (ms + N') Q := by
  intro p l e R s m args below meth c tc ts Z hR C E H locs cells slots ls h1 h2 h3 h4
  obtain ⟨hx, hb, hrt, hml, hown, hlk, hnm, ⟨hK, hT⟩, hX, hf, hlo, hz⟩ := id C
  have hac : (Cond.arrayClass .int).before args s = true := z_ac (hT _ harr rfl)
  refine va_newaK (atype := .int) hx hb hac rfl hd rfl hx0 hN (by show N' * 4 ≤ 536870912; omega) (by omega) (by omega) h1.2.1 fun H1 cA e1 z1 o1 hAr hNm => ?_
  have hA1 : s.vm.findClass ("[" ++ (.int : FieldType).toString) = some (o.2.2.1 0) := (hK.2 0 (o.2.2.1 0, .int) rfl).2
  have hN1 : s.vm.findClass ("[" ++ (.int : FieldType).toString) = some cA := hNm
  have hcA : o.2.2.1 0 = cA := Option.some.inj (hA1.symm.trans hN1)
  have hsz : H.size = o.1 + n := h1.2.1
  have ha : o.1 + n = z_adr o k := by show _ = o.1 + z_lay k; rw [hk2]
  have hx1 : va_at o.2.1 vwCl (o.1 + n, .inl (o.2.2.1 0, N', .inl (fun _ => 0))) H1 := by
    show H1[o.1 + n]? = some (vp_cell _ _)
    rw [hcA]
    exact e1
  have o1' : ∀ q : Nat, q < H.size → H1[q]? = H[q]? := fun q hq => o1 q (by rw [← hsz]; exact hq)
  have z1' : H1.size = H.size + 1 := by rw [hsz]; exact z1
  have := kk p l e R s m args below meth c tc ts Z hR C E H1 locs (cells + 1) (slots + N') ls (z_Rel_push hk hk2 hn h1 hx1 o1' z1') (z_S_push h2 o1' z1') h3 ⟨by omega, by omega⟩
  rw [← ha] at this
  exact this
theorem zJ.newal {n : Nat} {e : zK → va_E} {x : Int32} {N' : Nat} {k : zK} (harr : Cond.arrayClass .long ∈ lw_tbl) (hd : decode (z_cc d) pc = .ok (.newarray .long, 2)) (hx0 : ¬ x < 0) (hN : x.toNatClampNeg = N') (hby : N' ≤ 60000000) (hk : z_key n = k) (hk2 : z_lay k = n) (hn : n < 994)
    (kk : zJ o d (pc + 2) lv (.ref (z_adr o k) :: st) (n + 1, z_up e k (.inl (o.2.2.1 1, N', .inr (.inl (fun _ => 0))))) mc ms Q) : zJ o d pc lv (.int x :: st) (n, e) (mc + 1) (ms + N') Q := by
  intro p l e R s m args below meth c tc ts Z hR C E H locs cells slots ls h1 h2 h3 h4
  obtain ⟨hx, hb, hrt, hml, hown, hlk, hnm, ⟨hK, hT⟩, hX, hf, hlo, hz⟩ := id C
  have hac : (Cond.arrayClass .long).before args s = true := z_ac (hT _ harr rfl)
  refine va_newaK (atype := .long) hx hb hac rfl hd rfl hx0 hN (by show N' * 8 ≤ 536870912; omega) (by omega) (by omega) h1.2.1 fun H1 cA e1 z1 o1 hAr hNm => ?_
  have hA1 : s.vm.findClass ("[" ++ (.long : FieldType).toString) = some (o.2.2.1 1) := (hK.2 1 (o.2.2.1 1, .long) rfl).2
  have hN1 : s.vm.findClass ("[" ++ (.long : FieldType).toString) = some cA := hNm
  have hcA : o.2.2.1 1 = cA := Option.some.inj (hA1.symm.trans hN1)
  have hsz : H.size = o.1 + n := h1.2.1
  have ha : o.1 + n = z_adr o k := by show _ = o.1 + z_lay k; rw [hk2]
  have hx1 : va_at o.2.1 vwCl (o.1 + n, .inl (o.2.2.1 1, N', .inr (.inl (fun _ => 0)))) H1 := by
    show H1[o.1 + n]? = some (vp_cell _ _)
    rw [hcA]
    exact e1
  have o1' : ∀ q : Nat, q < H.size → H1[q]? = H[q]? := fun q hq => o1 q (by rw [← hsz]; exact hq)
  have z1' : H1.size = H.size + 1 := by rw [hsz]; exact z1
  have := kk p l e R s m args below meth c tc ts Z hR C E H1 locs (cells + 1) (slots + N') ls (z_Rel_push hk hk2 hn h1 hx1 o1' z1') (z_S_push h2 o1' z1') h3 ⟨by omega, by omega⟩
  rw [← ha] at this
  exact this
theorem zJ.newaf {n : Nat} {e : zK → va_E} {x : Int32} {N' : Nat} {k : zK} (harr : Cond.arrayClass .float ∈ lw_tbl) (hd : decode (z_cc d) pc = .ok (.newarray .float, 2)) (hx0 : ¬ x < 0) (hN : x.toNatClampNeg = N') (hby : N' ≤ 60000000) (hk : z_key n = k) (hk2 : z_lay k = n) (hn : n < 994)
    (kk : zJ o d (pc + 2) lv (.ref (z_adr o k) :: st) (n + 1, z_up e k (.inl (o.2.2.1 2, N', .inr (.inr (.inl (fun _ => 0)))))) mc ms Q) : zJ o d pc lv (.int x :: st) (n, e) (mc + 1) (ms + N') Q := by
  intro p l e R s m args below meth c tc ts Z hR C E H locs cells slots ls h1 h2 h3 h4
  obtain ⟨hx, hb, hrt, hml, hown, hlk, hnm, ⟨hK, hT⟩, hX, hf, hlo, hz⟩ := id C
  have hac : (Cond.arrayClass .float).before args s = true := z_ac (hT _ harr rfl)
  refine va_newaK (atype := .float) hx hb hac rfl hd rfl hx0 hN (by show N' * 4 ≤ 536870912; omega) (by omega) (by omega) h1.2.1 fun H1 cA e1 z1 o1 hAr hNm => ?_
  have hA1 : s.vm.findClass ("[" ++ (.float : FieldType).toString) = some (o.2.2.1 2) := (hK.2 2 (o.2.2.1 2, .float) rfl).2
  have hN1 : s.vm.findClass ("[" ++ (.float : FieldType).toString) = some cA := hNm
  have hcA : o.2.2.1 2 = cA := Option.some.inj (hA1.symm.trans hN1)
  have hsz : H.size = o.1 + n := h1.2.1
  have ha : o.1 + n = z_adr o k := by show _ = o.1 + z_lay k; rw [hk2]
  have hx1 : va_at o.2.1 vwCl (o.1 + n, .inl (o.2.2.1 2, N', .inr (.inr (.inl (fun _ => 0))))) H1 := by
    show H1[o.1 + n]? = some (vp_cell _ _)
    rw [hcA]
    exact e1
  have o1' : ∀ q : Nat, q < H.size → H1[q]? = H[q]? := fun q hq => o1 q (by rw [← hsz]; exact hq)
  have z1' : H1.size = H.size + 1 := by rw [hsz]; exact z1
  have := kk p l e R s m args below meth c tc ts Z hR C E H1 locs (cells + 1) (slots + N') ls (z_Rel_push hk hk2 hn h1 hx1 o1' z1') (z_S_push h2 o1' z1') h3 ⟨by omega, by omega⟩
  rw [← ha] at this
  exact this
theorem zJ.newq {n idx t0 : Nat} {e : zK → va_E} {x : Int32} {N' : Nat} {k : zK} {C0 : String} (ht : (z_tys o)[t0]? = some (o.2.2.1 t0, .object C0)) (hcl : Cond.classLink (z_y d).cls idx C0 ∈ lw_tbl) (hov : Cond.arrayOver (.object C0) ∈ lw_tbl) (hd : decode (z_cc d) pc = .ok (.anewarray idx, 3)) (hx0 : ¬ x < 0) (hN : x.toNatClampNeg = N') (hby : N' * 4 ≤ 536870912) (hk : z_key n = k) (hk2 : z_lay k = n) (hn : n < 994)
    (kk : zJ o d (pc + 3) lv (.ref (z_adr o k) :: st) (n + 1, z_up e k (.inl (o.2.2.1 t0, N', .inr (.inr (.inr (.inr (fun _ => none))))))) mc ms Q) : zJ o d pc lv (.int x :: st) (n, e) (mc + 1) (ms + N') Q := by
  subst hN
  intro p l e R s m args below meth c tc ts Z hR C E H locs cells slots ls h1 h2 h3 h4
  obtain ⟨hx, hb, hrt, hml, hown, hlk, hnm, ⟨hK, hT⟩, hX, hf, hlo, hz⟩ := id C
  refine W.anew hx hb hown (z_use hT hcl rfl rfl) (va_AO.use (hT _ hov rfl)) rfl hd rfl hx0 hby (by omega) (by omega) fun cA kA comp f1 f2 f3 f4 => ?_
  obtain ⟨kA', comp', g1, g2, g3, g4⟩ := (hK.2 t0 _ ht).2
  have hsz : H.size = o.1 + n := h1.2.1
  have ha : o.1 + n = z_adr o k := by show _ = o.1 + z_lay k; rw [hk2]
  have hcA : o.2.2.1 t0 = cA := by
    first
    | exact Option.some.inj (g4.symm.trans f1)
    | exact Option.some.inj (g4.symm.trans f4)
    | exact Option.some.inj (g4.symm.trans f3)
  generalize hH1 : H.push ({ cls := cA, slots := Array.replicate x.toNatClampNeg .null, vm := .none } : Cell) = H1
  have z1' : H1.size = H.size + 1 := by rw [← hH1, Array.size_push]
  have e1 : H1[H.size]? = some (arrV cA x.toNatClampNeg (fun _ => .null)) := by rw [← hH1, Array.getElem?_push_size, ← arrV_new]
  have o1' : ∀ q : Nat, q < H.size → H1[q]? = H[q]? := fun q hq => by rw [← hH1, Array.getElem?_push, if_neg (Nat.ne_of_lt hq)]
  have hx1 : va_at o.2.1 vwCl (o.1 + n, .inl (o.2.2.1 t0, x.toNatClampNeg, .inr (.inr (.inr (.inr (fun _ => none)))))) H1 := by
    show H1[o.1 + n]? = some (vp_cell _ _)
    rw [hcA, vp_cell_q, ← hsz]
    exact e1
  have := kk p l e R s m args below meth c tc ts Z hR C E H1 locs (cells + 1) (slots + x.toNatClampNeg) ls (z_Rel_push hk hk2 hn h1 hx1 o1' z1') (z_S_push h2 o1' z1') h3 ⟨by omega, by omega⟩
  rw [← ha, ← hsz] at this
  exact this
theorem z_copied {c1 : ClassId} {n1 sp dp n : Nat} (cs : Cell) (f g : Nat → Int32) (hs : ∀ i, i < n → cs.slots[sp + i]? = some (.int (f (sp + i)))) :
    (arrV c1 n1 (fun j => .int (g j))).storeRun dp (cs.stretch sp n) = arrV c1 n1 (fun j => .int (va_cpy f g sp dp n j)) := by
  have e : cs.stretch sp n = (List.range n).map (fun i => .int (f (sp + i))) := by
    unfold Cell.stretch
    apply List.map_congr_left
    intro i hi
    have hi' := List.mem_range.mp hi
    rw [Array.getD_eq_getD_getElem?, hs i hi']
    rfl
  rw [e, Cell.storeRun, va_pairs]
  congr 1
  funext k
  simp only [va_cpy, List.length_map, List.length_range, Nat.add_zero]
  by_cases h : dp ≤ k ∧ k < dp + n
  · rw [if_pos h, if_pos h, List.getD_eq_getElem?_getD, List.getElem?_map, List.getElem?_range (by omega)]
    rfl
  · rw [if_neg h, if_neg h]
theorem z_nn {z : Int32} (hz : ¬ z < 0) : z.toInt = (z.toNatClampNeg : Int) := by
  have hz0 : (0 : Int) ≤ z.toInt := by
    have := Int32.not_lt.mp hz
    simpa using Int32.le_iff_toInt_le.mp this
  show z.toInt = ((z.toInt.toNat : Nat) : Int)
  omega
section ZCP
variable {p : Program} {l : Launch} {e : Env} {R : Room} {s : State} {m : MethodId} {args : Array Value} {below : List Frame} {meth : Method} {c : Code} {H : Heap} {locs : List Loc} {cells slots : Nat} {Z : State → Prop}
/-- System.arraycopy of ints, from any int array into one of the world's -/
theorem z_copyW {cc : ByteArray} {pc : Nat} {ls : Array Slot} {rest : List Value} {c1 : ClassId} {n1 : Nat} {cs : Cell} {f g : Nat → Int32} {a0 a : Nat} (hexec : p.tables.exec = Jvm.exec) (hb : c.code = cc) (hml : c.maxLocals = ls.size) {own : String} {index : Nat} (hown : s.vm.findClass own = some m.cls) (hlink : (Cond.methodLink own index arraycopyName).before args s = true) (hnat : (Cond.native arraycopyName).before args s = true) (hstat : (Cond.static arraycopyName).before args s = true) (hini : (Cond.initialized "java/lang/System").before args s = true)
    (hc0 : H[a0]? = some cs) (ht0 : s.isArrayOf cs .int) (hkn : cs.vm ≠ .unknown) (hc1 : H[a]? = some (vp_cell c1 (n1, .inl g))) (ht1 : s.isArrayOf (vp_cell c1 (n1, .inl g)) .int)
    {sp dp n : Int32} (h1 : ¬ sp < 0) (h2 : ¬ dp < 0) (h3 : ¬ n < 0) (h4 : sp.toNatClampNeg + n.toNatClampNeg ≤ cs.slots.size) (h5 : dp.toNatClampNeg + n.toNatClampNeg ≤ n1) (hs : ∀ i, i < n.toNatClampNeg → cs.slots[sp.toNatClampNeg + i]? = some (.int (f (sp.toNatClampNeg + i))))
    (hframes : 1 ≤ R.frames) (hlocals : (rest.map fun v => v.category).sum + (nativeFrameWords "java/lang/System" "arraycopy" 5 + 11) ≤ R.locals) (hdg : decode cc pc = .ok (.invokestatic index, 3))
    (kk : ∀ (H1 : Heap) (L : List Loc), H1[a]? = some (vp_cell c1 (n1, .inl (va_cpy f g sp.toNatClampNeg dp.toNatClampNeg n.toNatClampNeg))) → H1.size = H.size → (∀ q, q ≠ a → H1[q]? = H[q]?) → (∀ q ∈ L, q.base = a) → W p l e R s m args below meth c H1 (locs ++ L) cells slots Z (F0 m (pc + 3) ls rest)) : W p l e R s m args below meth c H locs cells slots Z (F0 m pc ls (.int n :: .int dp :: .ref a :: .int sp :: .ref a0 :: rest)) := by
  intro T hT X
  obtain ⟨o0, k0, hk0, cm0, hkk0⟩ := ht0
  obtain ⟨o1, k1, hk1, cm1, hkk1⟩ := ht1
  obtain ⟨vm', X', step⟩ := X.arraycopy hexec hown hlink hnat hstat hini (src := a0) (dst := a) (cs := cs) (cd := vp_cell c1 (n1, .inl g)) (srcPos := sp) (destPos := dp) (n := n) (by rw [hT]; exact hc0) (by rw [hT]; exact hc1)
    o0 o1 hkn (fun h => by cases h) hk0 hk1 hkk0 hkk1 (by decide) h1 h2 h3
    (by rw [z_nn h1, z_nn h3]; omega)
    (by rw [z_nn h2, z_nn h3]; show ¬ _ > ((arrV c1 n1 (fun j => .int (g j))).slots.size : Int); rw [arrV_size]; omega)
    (fun vm₁ _ i hi => by
      have e : cs.slots.getD (sp.toNatClampNeg + i) .null = .int (f (sp.toNatClampNeg + i)) := by
        rw [Array.getD_eq_getD_getElem?, hs i hi]
        rfl
      refine ⟨?_, ?_⟩
      · rw [e]; rfl
      · rw [e]; exact trivial)
    (g := F0 m pc ls (.int n :: .int dp :: .ref a :: .int sp :: .ref a0 :: rest)) rfl (by rw [hml]) (rest := rest) rfl (by rw [hb]; exact hdg) hframes (by show 2 * 0 + _ + _ ≤ _; omega)
  have e1 : copied cs (vp_cell c1 (n1, .inl g)) sp dp n = vp_cell c1 (n1, .inl (va_cpy f g sp.toNatClampNeg dp.toNatClampNeg n.toNatClampNeg)) := z_copied cs f g hs
  rw [e1] at X' step
  have hl : a < H.size := (Array.getElem?_eq_some_iff.mp hc1).1
  obtain ⟨t, a1, b1⟩ := kk _ _ (show ((T.setVm vm').setCell a (vp_cell c1 (n1, .inl (va_cpy f g sp.toNatClampNeg dp.toNatClampNeg n.toNatClampNeg)))).heap[a]? = _ from heapAt_setCell_self _ (by show a < T.heap.size; rw [hT]; exact hl)) (by rw [size_setCell]; show T.heap.size = _; rw [hT]) (fun q hq => by rw [heapAt_setCell_ne _ (Ne.symm hq)]; show T.heap[q]? = _; rw [hT]) (fun q hq => by
      obtain ⟨z, -, hz⟩ := List.mem_map.mp hq
      rw [← hz]) _ rfl X'
  exact ⟨t, step t a1, b1⟩
end ZCP
/-- what a call of System.arraycopy needs of the tables -/
abbrev z_AC (d : zD) (idx : Nat) : Prop := Cond.methodLink (z_y d).cls idx arraycopyName ∈ lw_tbl ∧ Cond.native arraycopyName ∈ lw_tbl ∧ Cond.static arraycopyName ∈ lw_tbl ∧ Cond.initialized "java/lang/System" ∈ lw_tbl
theorem zJ.copyi {idx : Nat} {k0 k : zK} {n0 n1 : Nat} {f g : Nat → Int32} {sp dp n : Int32} (ha : z_AC d idx) (hd : decode (z_cc d) pc = .ok (.invokestatic idx, 3)) (hk0 : z_ok M.1 k0) (he0 : M.2 k0 = .inl (o.2.2.1 0, n0, .inl f)) (hk : z_ok M.1 k) (he : M.2 k = .inl (o.2.2.1 0, n1, .inl g)) (g1 : ¬ sp < 0) (g2 : ¬ dp < 0) (g3 : ¬ n < 0) (g4 : sp.toNatClampNeg + n.toNatClampNeg ≤ n0) (g5 : dp.toNatClampNeg + n.toNatClampNeg ≤ n1) (hfr : 1 ≤ z_fr d) (hlc : (st.map fun v => v.category).sum + (nativeFrameWords "java/lang/System" "arraycopy" 5 + 11) ≤ z_lo d)
    (kk : zJ o d (pc + 3) lv st (M.1, z_up M.2 k (.inl (o.2.2.1 0, n1, .inl (va_cpy f g sp.toNatClampNeg dp.toNatClampNeg n.toNatClampNeg)))) mc ms Q) : zJ o d pc lv (.int n :: .int dp :: .ref (z_adr o k) :: .int sp :: .ref (z_adr o k0) :: st) M mc ms Q := by
  intro p l e R s m args below meth c tc ts Z hR C E H locs cells slots ls h1 h2 h3 h4
  obtain ⟨hx, hb, hrt, hml, hown, hlk, hnm, ⟨hK, hT⟩, hX, hf, hlo, hz⟩ := id C
  have hq0 := h1.1 (z_lay k0) (z_adr o k0, .inl (o.2.2.1 0, n0, .inl f)) (by rw [z_ws_get hk0, he0])
  have hq := h1.1 (z_lay k) (z_adr o k, .inl (o.2.2.1 0, n1, .inl g)) (by rw [z_ws_get hk, he])
  refine z_copyW (f := f) (g := g) hx hb (hml.trans h3.1.symm) hown (z_use hT ha.1 rfl rfl) (z_use hT ha.2.1 rfl rfl) (z_use hT ha.2.2.1 rfl rfl) (z_use hT ha.2.2.2 rfl rfl) hq0 ((hK.2 0 _ rfl).1 n0 (fun j => .int (f j))) (fun q => by cases q) hq ((hK.2 0 _ rfl).1 n1 (fun j => .int (g j))) g1 g2 g3 (by show _ ≤ (arrV _ _ _).slots.size; rw [arrV_size]; exact g4) g5 (fun i hi => by show (arrV _ _ _).slots[_]? = _; rw [arrV_read _ _ (by show _ < n0; omega)]) (by omega) (by omega) hd fun H1 L e1 z1 oq hL => ?_
  exact kk p l e R s m args below meth c tc ts Z hR C E H1 _ cells slots ls (z_Rel_set (n := M.1) (e := M.2) hk h1 e1 oq z1) ⟨by rw [z1]; exact h2.1, fun q b1 b2 => by rw [oq q (fun hc => b2 (by rw [hc]; exact z_inA o k))]; exact h2.2.1 q b1 b2, t_lL h2.2.2 (fun q hq => by rw [hL q hq]; exact z_inA o k)⟩ h3 h4
theorem zJ.copys {idx i0 : Nat} (hi0 : i0 < 3) {k : zK} {n1 : Nat} {g : Nat → Int32} {sp dp n : Int32} (ha : z_AC d idx) (hd : decode (z_cc d) pc = .ok (.invokestatic idx, 3)) (hk : z_ok M.1 k) (he : M.2 k = .inl (o.2.2.1 0, n1, .inl g)) (g1 : ¬ sp < 0) (g2 : ¬ dp < 0) (g3 : ¬ n < 0) (g4 : sp.toNatClampNeg + n.toNatClampNeg ≤ 5) (g5 : dp.toNatClampNeg + n.toNatClampNeg ≤ n1) (hfr : 1 ≤ z_fr d) (hlc : (st.map fun v => v.category).sum + (nativeFrameWords "java/lang/System" "arraycopy" 5 + 11) ≤ z_lo d)
    (kk : zJ o d (pc + 3) lv st (M.1, z_up M.2 k (.inl (o.2.2.1 0, n1, .inl (va_cpy (z_st i0) g sp.toNatClampNeg dp.toNatClampNeg n.toNatClampNeg)))) mc ms Q) : zJ o d pc lv (.int n :: .int dp :: .ref (z_adr o k) :: .int sp :: .ref (o.2.2.2.1 i0) :: st) M mc ms Q := by
  intro p l e R s m args below meth c tc ts Z hR C E H locs cells slots ls h1 h2 h3 h4
  obtain ⟨hx, hb, hrt, hml, hown, hlk, hnm, ⟨hK, hT⟩, hX, hf, hlo, hz⟩ := id C
  obtain ⟨cell, b1, b2, b3, b4, b5, b6, b7⟩ := (hX.2 i0 hi0).2
  have hq := h1.1 (z_lay k) (z_adr o k, .inl (o.2.2.1 0, n1, .inl g)) (by rw [z_ws_get hk, he])
  refine z_copyW (f := z_st i0) (g := g) (cs := cell) hx hb (hml.trans h3.1.symm) hown (z_use hT ha.1 rfl rfl) (z_use hT ha.2.1 rfl rfl) (z_use hT ha.2.2.1 rfl rfl) (z_use hT ha.2.2.2 rfl rfl) (by rw [h2.2.1 _ (Array.getElem?_eq_some_iff.mp b1).1 b7]; exact b1) b2 b3 hq ((hK.2 0 _ rfl).1 n1 (fun j => .int (g j))) g1 g2 g3 (by omega) g5 (fun i hi => b6 _ (by omega)) (by omega) (by omega) hd fun H1 L e1 z1 oq hL => ?_
  exact kk p l e R s m args below meth c tc ts Z hR C E H1 _ cells slots ls (z_Rel_set (n := M.1) (e := M.2) hk h1 e1 oq z1) ⟨by rw [z1]; exact h2.1, fun q b1 b2 => by rw [oq q (fun hc => b2 (by rw [hc]; exact z_inA o k))]; exact h2.2.1 q b1 b2, t_lL h2.2.2 (fun q hq => by rw [hL q hq]; exact z_inA o k)⟩ h3 h4

end ZR
end
section
/-! the regular memory: ints, longs, floats by key and slot; all else is fixed -/
abbrev zS : Type := (zK → Nat → Int32) × (zK → Nat → Int64) × (zK → Nat → UInt32)
def z_len : Nat → Nat := fun k => if k = 2 then 5 else if k = 3 then 10 else if k = 6 then 4 else if k = 7 then 4 else if k = 8 then 4 else if k = 9 then 4 else if k = 10 then 4 else if k = 11 then 4 else if k = 13 then 200 else if k = 14 then 200 else if k = 15 then 200 else if k = 17 then 120 else if k = 18 then 60 else if k = 19 then 60 else if k = 20 then 60 else if k = 21 then 3 else if k = 24 then 3 else if k = 25 then 5 else if k = 26 then 64 else if k = 27 then 64 else if k = 28 then 16 else if k = 29 then 16 else if k = 30 then 16 else if k = 31 then 4 else if k = 32 then 12 else if k = 33 then 4 else if k = 34 then 16 else if k = 35 then 64 else if k = 36 then 64 else if k = 37 then 64 else if k = 38 then 64 else if k = 39 then 3 else if k = 40 then 10 else if k = 41 then 200 else if k = 42 then 200 else if k = 43 then 200 else if k = 44 then 9100 else if k = 48 then 120 else 0
def z_ent (o : zW) (q : zK) (I : Nat → Int32) (L : Nat → Int64) (F : Nat → UInt32) : va_E :=
  if q.1 = 0 then .inr (4, [.ref (z_adr o (1, 0, 0)), .ref (z_adr o (1, 1, 0)), .ref (z_adr o (22, 0, 0)), .ref (z_adr o (16, 0, 0)), .ref (z_adr o (21, 0, 0)), .int (I 5), .int (I 6)]) else
  if q.1 = 1 then .inr (2, [.ref (z_adr o (2, q.2.1, 0)), .ref (z_adr o (3, q.2.1, 0)), .ref (z_adr o (4, q.2.1, 0)), .ref (z_adr o (12, q.2.1, 0)), .float (F 4), .int (I 5), .int (I 6), .int (I 7), .int (I 8)]) else
  if q.1 = 5 then .inr (0, [.int (nI q.2.2), .ref (z_adr o (6, q.2.1, q.2.2)), .ref (z_adr o (7, q.2.1, q.2.2)), .ref (z_adr o (8, q.2.1, q.2.2)), .ref (z_adr o (9, q.2.1, q.2.2)), .ref (z_adr o (10, q.2.1, q.2.2)), .ref (z_adr o (11, q.2.1, q.2.2)), .int (I 7), .int (I 8), .int (I 9), .int (I 10), .int (I 11)]) else
  if q.1 = 12 then .inr (1, [.ref (z_adr o (13, q.2.1, 0)), .ref (z_adr o (14, q.2.1, 0)), .ref (z_adr o (15, q.2.1, 0)), .int (I 3), .int (I 4), .int (I 5), .long (L 6), .long (L 7)]) else
  if q.1 = 16 then .inr (3, [.ref (z_adr o (17, 0, 0)), .ref (z_adr o (18, 0, 0)), .ref (z_adr o (19, 0, 0)), .ref (z_adr o (20, 0, 0)), .int (I 4), .int (I 5), .int (I 6), .int (I 7)]) else
  if q.1 = 23 then .inr (5, [.ref (z_adr o (24, 0, 0)), .ref (z_adr o (25, 0, 0)), .ref (z_adr o (26, 0, 0)), .ref (z_adr o (27, 0, 0)), .ref (z_adr o (28, 0, 0)), .ref (z_adr o (29, 0, 0)), .ref (z_adr o (30, 0, 0)), .ref (z_adr o (31, 0, 0)), .ref (z_adr o (32, 0, 0)), .ref (z_adr o (33, 0, 0)), .ref (z_adr o (34, 0, 0)), .ref (z_adr o (35, 0, 0)), .ref (z_adr o (36, 0, 0)), .ref (z_adr o (37, 0, 0)), .ref (z_adr o (38, 0, 0)), .ref (z_adr o (39, 0, 0)), .ref (z_adr o (40, 0, 0)), .ref (z_adr o (41, 0, 0)), .ref (z_adr o (42, 0, 0)), .ref (z_adr o (43, 0, 0)), .float (F 20), .long (L 21), .long (L 22), .int (I 23), .ref (z_adr o (44, 0, 0)), .ref (z_adr o (45, 0, 0)), .ref (z_adr o (46, 0, 0)), .ref (z_adr o (47, 0, 0)), .int (I 28), .ref (z_adr o (48, 0, 0)), .int (I 30), .int (I 31), .int (I 32), .int (I 33)]) else
  if q.1 = 4 then .inl (o.2.2.1 3, 16, .inr (.inr (.inr (.inr (fun j => some (z_adr o (5, q.2.1, j))))))) else
  if q.1 = 22 then .inl (o.2.2.1 4, 6, .inr (.inr (.inr (.inr (fun j => some (z_adr o (1, j + 2, 0))))))) else
  if q.1 = 45 then .inl (o.2.2.1 2, 7, .inr (.inr (.inl F))) else
  if q.1 = 46 then .inl (o.2.2.1 1, 7, .inr (.inl L)) else
  if q.1 = 47 then .inl (o.2.2.1 1, 7, .inr (.inl L)) else
  .inl (o.2.2.1 0, z_len q.1, .inl I)
def z_enc (o : zW) (S : zS) : zK → va_E := fun q => z_ent o q (S.1 q) (S.2.1 q) (S.2.2 q)
def sI (S : zS) (k : zK) (s : Nat) (v : Int32) : zS := (fun q t => if q = k ∧ t = s then v else S.1 q t, S.2.1, S.2.2)
def sL (S : zS) (k : zK) (s : Nat) (v : Int64) : zS := (S.1, fun q t => if q = k ∧ t = s then v else S.2.1 q t, S.2.2)
def sF (S : zS) (k : zK) (s : Nat) (v : UInt32) : zS := (S.1, S.2.1, fun q t => if q = k ∧ t = s then v else S.2.2 q t)
theorem z_up_I {o : zW} {S : zS} {k : zK} {s : Nat} {v : Int32} {x : va_E} (hx : x = z_ent o k (upd (S.1 k) s v) (S.2.1 k) (S.2.2 k)) : z_up (z_enc o S) k x = z_enc o (sI S k s v) := by
  subst hx
  funext q
  by_cases h : q = k
  · subst h
    have e : upd (S.1 q) s v = (sI S q s v).1 q := by
      funext t
      simp [upd, sI]
    show (if q = q then _ else _) = z_ent o q _ _ _
    rw [if_pos rfl, e]
    rfl
  · show (if q = k then _ else z_ent o q _ _ _) = z_ent o q _ _ _
    rw [if_neg h]
    have e : (sI S k s v).1 q = S.1 q := by
      funext t
      simp [sI, h]
    rw [e]
    rfl
theorem z_up_L {o : zW} {S : zS} {k : zK} {s : Nat} {v : Int64} {x : va_E} (hx : x = z_ent o k (S.1 k) (vp_updL (S.2.1 k) s v) (S.2.2 k)) : z_up (z_enc o S) k x = z_enc o (sL S k s v) := by
  subst hx
  funext q
  by_cases h : q = k
  · subst h
    have e : vp_updL (S.2.1 q) s v = (sL S q s v).2.1 q := by
      funext t
      simp [vp_updL, sL]
    show (if q = q then _ else _) = z_ent o q _ _ _
    rw [if_pos rfl, e]
    rfl
  · show (if q = k then _ else z_ent o q _ _ _) = z_ent o q _ _ _
    rw [if_neg h]
    have e : (sL S k s v).2.1 q = S.2.1 q := by
      funext t
      simp [sL, h]
    rw [e]
    rfl
theorem z_up_F {o : zW} {S : zS} {k : zK} {s : Nat} {v : UInt32} {x : va_E} (hx : x = z_ent o k (S.1 k) (S.2.1 k) (vf_upd (S.2.2 k) s v)) : z_up (z_enc o S) k x = z_enc o (sF S k s v) := by
  subst hx
  funext q
  by_cases h : q = k
  · subst h
    have e : vf_upd (S.2.2 q) s v = (sF S q s v).2.2 q := by
      funext t
      simp [vf_upd, sF]
    show (if q = q then _ else _) = z_ent o q _ _ _
    rw [if_pos rfl, e]
    rfl
  · show (if q = k then _ else z_ent o q _ _ _) = z_ent o q _ _ _
    rw [if_neg h]
    have e : (sF S k s v).2.2 q = S.2.2 q := by
      funext t
      simp [sF, h]
    rw [e]
    rfl
/-! keys that stand -/
def z_ch1 (i k : Nat) : Bool := !(decide (1 ≤ k) && (decide (k ≤ 4) || decide (12 ≤ k))) || (decide (z_key (z_lay (k, i, 0)) = (k, i, 0)) && decide (z_lay (k, i, 0) < z_sb i + 120))
def z_ch5 (i b k : Nat) : Bool := !decide (5 ≤ k) || (decide (z_key (z_lay (k, i, b)) = (k, i, b)) && decide (z_lay (k, i, b) < z_sb i + 120))
def z_ch0 (k : Nat) : Bool := !(decide (16 ≤ k) || decide (k = 0)) || (decide (z_key (z_lay (k, 0, 0)) = (k, 0, 0)) && decide (z_lay (k, 0, 0) < 994))
theorem z_ch1_all : (List.range 8).all (fun i => (List.range 16).all (fun k => z_ch1 i k)) = true := by decide +kernel
theorem z_ch5_all : (List.range 8).all (fun i => (List.range 16).all (fun b => (List.range 12).all (fun k => z_ch5 i b k))) = true := by decide +kernel
theorem z_ch0_all : (List.range 49).all z_ch0 = true := by decide +kernel
theorem z_kl1 {i k : Nat} (hi : i < 8) (hk : k < 16) (h1 : 1 ≤ k) (h2 : k ≤ 4 ∨ 12 ≤ k) : z_key (z_lay (k, i, 0)) = (k, i, 0) ∧ z_lay (k, i, 0) < z_sb i + 120 := by
  have h := List.all_eq_true.mp (List.all_eq_true.mp z_ch1_all i (List.mem_range.mpr hi)) k (List.mem_range.mpr hk)
  simp only [z_ch1, Bool.or_eq_true, Bool.and_eq_true, Bool.not_eq_true', Bool.and_eq_false_iff, Bool.or_eq_false_iff, decide_eq_true_eq, decide_eq_false_iff_not] at h
  rcases h with h | h
  · omega
  · exact h
theorem z_kl5 {i b k : Nat} (hi : i < 8) (hb : b < 16) (hk : k < 12) (h1 : 5 ≤ k) : z_key (z_lay (k, i, b)) = (k, i, b) ∧ z_lay (k, i, b) < z_sb i + 120 := by
  have h := List.all_eq_true.mp (List.all_eq_true.mp (List.all_eq_true.mp z_ch5_all i (List.mem_range.mpr hi)) b (List.mem_range.mpr hb)) k (List.mem_range.mpr hk)
  simp only [z_ch5, Bool.or_eq_true, Bool.and_eq_true, Bool.not_eq_true', decide_eq_true_eq, decide_eq_false_iff_not] at h
  rcases h with h | h
  · omega
  · exact h
theorem z_kl0 {k : Nat} (hk : k < 49) (h1 : 16 ≤ k ∨ k = 0) : z_key (z_lay (k, 0, 0)) = (k, 0, 0) ∧ z_lay (k, 0, 0) < 994 := by
  have h := List.all_eq_true.mp z_ch0_all k (List.mem_range.mpr hk)
  simp only [z_ch0, Bool.or_eq_true, Bool.and_eq_true, Bool.not_eq_true', Bool.or_eq_false_iff, decide_eq_true_eq, decide_eq_false_iff_not] at h
  rcases h with h | h
  · omega
  · exact h
theorem z_sb_le {i : Nat} (hi : i < 8) : z_sb i + 120 ≤ 994 := by unfold z_sb; split <;> omega
theorem z_okS {n i : Nat} (k : Nat) (hk : k < 16 ∧ 1 ≤ k ∧ (k ≤ 4 ∨ 12 ≤ k)) (hi : i < 8) (hn : z_sb i + 120 ≤ n) : z_ok n (k, i, 0) := ⟨Nat.lt_of_lt_of_le (z_kl1 hi hk.1 hk.2.1 hk.2.2).2 hn, (z_kl1 hi hk.1 hk.2.1 hk.2.2).1⟩
theorem z_okB {n i b : Nat} (k : Nat) (hk : k < 12 ∧ 5 ≤ k) (hi : i < 8) (hb : b < 16) (hn : z_sb i + 120 ≤ n) : z_ok n (k, i, b) := ⟨Nat.lt_of_lt_of_le (z_kl5 hi hb hk.1 hk.2).2 hn, (z_kl5 hi hb hk.1 hk.2).1⟩
theorem z_okG (k : Nat) (hk : k < 49 ∧ (16 ≤ k ∨ k = 0)) : z_ok 994 (k, 0, 0) := ⟨(z_kl0 hk.1 hk.2).2, (z_kl0 hk.1 hk.2).1⟩
theorem z_vlt {x : Int32} {N : Nat} (h : vp_in x N) : x.toNatClampNeg < N := Nat.not_le.mp fun q => h (Or.inr q)
/-! what a key's cell is -/
def z_OBJ (o : zW) (k : zK) (ci : Nat) : Prop := ∀ I L F, ∃ fs, z_ent o k I L F = .inr (ci, fs)
def z_fV (o : zW) (k : zK) (ci s : Nat) (v : Value) : Prop := ∀ I L F, ∃ fs, z_ent o k I L F = .inr (ci, fs) ∧ fs[s]? = some v
def z_fI (o : zW) (k : zK) (ci s : Nat) : Prop := ∀ I L F, ∃ fs, z_ent o k I L F = .inr (ci, fs) ∧ fs[s]? = some (.int (I s)) ∧ s < fs.length ∧ ∀ v, .inr (ci, fs.set s (.int v)) = z_ent o k (upd I s v) L F
def z_fL (o : zW) (k : zK) (ci s : Nat) : Prop := ∀ I L F, ∃ fs, z_ent o k I L F = .inr (ci, fs) ∧ fs[s]? = some (.long (L s)) ∧ s < fs.length ∧ ∀ v, .inr (ci, fs.set s (.long v)) = z_ent o k I (vp_updL L s v) F
def z_fF (o : zW) (k : zK) (ci s : Nat) : Prop := ∀ I L F, ∃ fs, z_ent o k I L F = .inr (ci, fs) ∧ fs[s]? = some (.float (F s)) ∧ s < fs.length ∧ ∀ v, .inr (ci, fs.set s (.float v)) = z_ent o k I L (vf_upd F s v)
def z_aI (o : zW) (k : zK) (N : Nat) : Prop := ∀ I L F, z_ent o k I L F = .inl (o.2.2.1 0, N, .inl I)
def z_aL (o : zW) (k : zK) (N : Nat) : Prop := ∀ I L F, z_ent o k I L F = .inl (o.2.2.1 1, N, .inr (.inl L))
def z_aF (o : zW) (k : zK) (N : Nat) : Prop := ∀ I L F, z_ent o k I L F = .inl (o.2.2.1 2, N, .inr (.inr (.inl F)))
theorem z_a4 (o : zW) (i : Nat) : ∀ I L F, z_ent o (4, i, 0) I L F = .inl (o.2.2.1 3, 16, .inr (.inr (.inr (.inr (fun j => some (z_adr o (5, i, j))))))) := fun _ _ _ => rfl
theorem z_a22 (o : zW) : ∀ I L F, z_ent o (22, 0, 0) I L F = .inl (o.2.2.1 4, 6, .inr (.inr (.inr (.inr (fun j => some (z_adr o (1, j + 2, 0))))))) := fun _ _ _ => rfl
theorem ia_2 (o : zW) (i : Nat) : z_aI o (2, i, 0) 5 := fun _ _ _ => rfl
theorem ia_3 (o : zW) (i : Nat) : z_aI o (3, i, 0) 10 := fun _ _ _ => rfl
theorem ia_6 (o : zW) (i b : Nat) : z_aI o (6, i, b) 4 := fun _ _ _ => rfl
theorem ia_7 (o : zW) (i b : Nat) : z_aI o (7, i, b) 4 := fun _ _ _ => rfl
theorem ia_8 (o : zW) (i b : Nat) : z_aI o (8, i, b) 4 := fun _ _ _ => rfl
theorem ia_9 (o : zW) (i b : Nat) : z_aI o (9, i, b) 4 := fun _ _ _ => rfl
theorem ia_10 (o : zW) (i b : Nat) : z_aI o (10, i, b) 4 := fun _ _ _ => rfl
theorem ia_11 (o : zW) (i b : Nat) : z_aI o (11, i, b) 4 := fun _ _ _ => rfl
theorem ia_13 (o : zW) (i : Nat) : z_aI o (13, i, 0) 200 := fun _ _ _ => rfl
theorem ia_14 (o : zW) (i : Nat) : z_aI o (14, i, 0) 200 := fun _ _ _ => rfl
theorem ia_15 (o : zW) (i : Nat) : z_aI o (15, i, 0) 200 := fun _ _ _ => rfl
theorem ia_17 (o : zW) : z_aI o (17, 0, 0) 120 := fun _ _ _ => rfl
theorem ia_18 (o : zW) : z_aI o (18, 0, 0) 60 := fun _ _ _ => rfl
theorem ia_19 (o : zW) : z_aI o (19, 0, 0) 60 := fun _ _ _ => rfl
theorem ia_20 (o : zW) : z_aI o (20, 0, 0) 60 := fun _ _ _ => rfl
theorem ia_21 (o : zW) : z_aI o (21, 0, 0) 3 := fun _ _ _ => rfl
theorem ia_24 (o : zW) : z_aI o (24, 0, 0) 3 := fun _ _ _ => rfl
theorem ia_25 (o : zW) : z_aI o (25, 0, 0) 5 := fun _ _ _ => rfl
theorem ia_26 (o : zW) : z_aI o (26, 0, 0) 64 := fun _ _ _ => rfl
theorem ia_27 (o : zW) : z_aI o (27, 0, 0) 64 := fun _ _ _ => rfl
theorem ia_28 (o : zW) : z_aI o (28, 0, 0) 16 := fun _ _ _ => rfl
theorem ia_29 (o : zW) : z_aI o (29, 0, 0) 16 := fun _ _ _ => rfl
theorem ia_30 (o : zW) : z_aI o (30, 0, 0) 16 := fun _ _ _ => rfl
theorem ia_31 (o : zW) : z_aI o (31, 0, 0) 4 := fun _ _ _ => rfl
theorem ia_32 (o : zW) : z_aI o (32, 0, 0) 12 := fun _ _ _ => rfl
theorem ia_33 (o : zW) : z_aI o (33, 0, 0) 4 := fun _ _ _ => rfl
theorem ia_34 (o : zW) : z_aI o (34, 0, 0) 16 := fun _ _ _ => rfl
theorem ia_35 (o : zW) : z_aI o (35, 0, 0) 64 := fun _ _ _ => rfl
theorem ia_36 (o : zW) : z_aI o (36, 0, 0) 64 := fun _ _ _ => rfl
theorem ia_37 (o : zW) : z_aI o (37, 0, 0) 64 := fun _ _ _ => rfl
theorem ia_38 (o : zW) : z_aI o (38, 0, 0) 64 := fun _ _ _ => rfl
theorem ia_39 (o : zW) : z_aI o (39, 0, 0) 3 := fun _ _ _ => rfl
theorem ia_40 (o : zW) : z_aI o (40, 0, 0) 10 := fun _ _ _ => rfl
theorem ia_41 (o : zW) : z_aI o (41, 0, 0) 200 := fun _ _ _ => rfl
theorem ia_42 (o : zW) : z_aI o (42, 0, 0) 200 := fun _ _ _ => rfl
theorem ia_43 (o : zW) : z_aI o (43, 0, 0) 200 := fun _ _ _ => rfl
theorem ia_44 (o : zW) : z_aI o (44, 0, 0) 9100 := fun _ _ _ => rfl
theorem ia_48 (o : zW) : z_aI o (48, 0, 0) 120 := fun _ _ _ => rfl
theorem la_46 (o : zW) : z_aL o (46, 0, 0) 7 := fun _ _ _ => rfl
theorem la_47 (o : zW) : z_aL o (47, 0, 0) 7 := fun _ _ _ => rfl
theorem fa_45 (o : zW) : z_aF o (45, 0, 0) 7 := fun _ _ _ => rfl
theorem ob_0 (o : zW) : z_OBJ o (0, 0, 0) 4 := fun _ _ _ => ⟨_, rfl⟩
theorem fd_0_0 (o : zW) : z_fV o (0, 0, 0) 4 0 (.ref (z_adr o (1, 0, 0))) := fun _ _ _ => ⟨_, rfl, rfl⟩
theorem fd_0_1 (o : zW) : z_fV o (0, 0, 0) 4 1 (.ref (z_adr o (1, 1, 0))) := fun _ _ _ => ⟨_, rfl, rfl⟩
theorem fd_0_2 (o : zW) : z_fV o (0, 0, 0) 4 2 (.ref (z_adr o (22, 0, 0))) := fun _ _ _ => ⟨_, rfl, rfl⟩
theorem fd_0_3 (o : zW) : z_fV o (0, 0, 0) 4 3 (.ref (z_adr o (16, 0, 0))) := fun _ _ _ => ⟨_, rfl, rfl⟩
theorem fd_0_4 (o : zW) : z_fV o (0, 0, 0) 4 4 (.ref (z_adr o (21, 0, 0))) := fun _ _ _ => ⟨_, rfl, rfl⟩
theorem fd_0_5 (o : zW) : z_fI o (0, 0, 0) 4 5 := fun _ _ _ => ⟨_, rfl, rfl, Nat.le_of_ble_eq_true rfl, fun _ => rfl⟩
theorem fd_0_6 (o : zW) : z_fI o (0, 0, 0) 4 6 := fun _ _ _ => ⟨_, rfl, rfl, Nat.le_of_ble_eq_true rfl, fun _ => rfl⟩
theorem ob_1 (o : zW) (i : Nat) : z_OBJ o (1, i, 0) 2 := fun _ _ _ => ⟨_, rfl⟩
theorem fd_1_0 (o : zW) (i : Nat) : z_fV o (1, i, 0) 2 0 (.ref (z_adr o (2, i, 0))) := fun _ _ _ => ⟨_, rfl, rfl⟩
theorem fd_1_1 (o : zW) (i : Nat) : z_fV o (1, i, 0) 2 1 (.ref (z_adr o (3, i, 0))) := fun _ _ _ => ⟨_, rfl, rfl⟩
theorem fd_1_2 (o : zW) (i : Nat) : z_fV o (1, i, 0) 2 2 (.ref (z_adr o (4, i, 0))) := fun _ _ _ => ⟨_, rfl, rfl⟩
theorem fd_1_3 (o : zW) (i : Nat) : z_fV o (1, i, 0) 2 3 (.ref (z_adr o (12, i, 0))) := fun _ _ _ => ⟨_, rfl, rfl⟩
theorem fd_1_4 (o : zW) (i : Nat) : z_fF o (1, i, 0) 2 4 := fun _ _ _ => ⟨_, rfl, rfl, Nat.le_of_ble_eq_true rfl, fun _ => rfl⟩
theorem fd_1_5 (o : zW) (i : Nat) : z_fI o (1, i, 0) 2 5 := fun _ _ _ => ⟨_, rfl, rfl, Nat.le_of_ble_eq_true rfl, fun _ => rfl⟩
theorem fd_1_6 (o : zW) (i : Nat) : z_fI o (1, i, 0) 2 6 := fun _ _ _ => ⟨_, rfl, rfl, Nat.le_of_ble_eq_true rfl, fun _ => rfl⟩
theorem fd_1_7 (o : zW) (i : Nat) : z_fI o (1, i, 0) 2 7 := fun _ _ _ => ⟨_, rfl, rfl, Nat.le_of_ble_eq_true rfl, fun _ => rfl⟩
theorem fd_1_8 (o : zW) (i : Nat) : z_fI o (1, i, 0) 2 8 := fun _ _ _ => ⟨_, rfl, rfl, Nat.le_of_ble_eq_true rfl, fun _ => rfl⟩
theorem ob_5 (o : zW) (i b : Nat) : z_OBJ o (5, i, b) 0 := fun _ _ _ => ⟨_, rfl⟩
theorem fd_5_0 (o : zW) (i b : Nat) : z_fV o (5, i, b) 0 0 (.int (nI b)) := fun _ _ _ => ⟨_, rfl, rfl⟩
theorem fd_5_1 (o : zW) (i b : Nat) : z_fV o (5, i, b) 0 1 (.ref (z_adr o (6, i, b))) := fun _ _ _ => ⟨_, rfl, rfl⟩
theorem fd_5_2 (o : zW) (i b : Nat) : z_fV o (5, i, b) 0 2 (.ref (z_adr o (7, i, b))) := fun _ _ _ => ⟨_, rfl, rfl⟩
theorem fd_5_3 (o : zW) (i b : Nat) : z_fV o (5, i, b) 0 3 (.ref (z_adr o (8, i, b))) := fun _ _ _ => ⟨_, rfl, rfl⟩
theorem fd_5_4 (o : zW) (i b : Nat) : z_fV o (5, i, b) 0 4 (.ref (z_adr o (9, i, b))) := fun _ _ _ => ⟨_, rfl, rfl⟩
theorem fd_5_5 (o : zW) (i b : Nat) : z_fV o (5, i, b) 0 5 (.ref (z_adr o (10, i, b))) := fun _ _ _ => ⟨_, rfl, rfl⟩
theorem fd_5_6 (o : zW) (i b : Nat) : z_fV o (5, i, b) 0 6 (.ref (z_adr o (11, i, b))) := fun _ _ _ => ⟨_, rfl, rfl⟩
theorem fd_5_7 (o : zW) (i b : Nat) : z_fI o (5, i, b) 0 7 := fun _ _ _ => ⟨_, rfl, rfl, Nat.le_of_ble_eq_true rfl, fun _ => rfl⟩
theorem fd_5_8 (o : zW) (i b : Nat) : z_fI o (5, i, b) 0 8 := fun _ _ _ => ⟨_, rfl, rfl, Nat.le_of_ble_eq_true rfl, fun _ => rfl⟩
theorem fd_5_9 (o : zW) (i b : Nat) : z_fI o (5, i, b) 0 9 := fun _ _ _ => ⟨_, rfl, rfl, Nat.le_of_ble_eq_true rfl, fun _ => rfl⟩
theorem fd_5_10 (o : zW) (i b : Nat) : z_fI o (5, i, b) 0 10 := fun _ _ _ => ⟨_, rfl, rfl, Nat.le_of_ble_eq_true rfl, fun _ => rfl⟩
theorem fd_5_11 (o : zW) (i b : Nat) : z_fI o (5, i, b) 0 11 := fun _ _ _ => ⟨_, rfl, rfl, Nat.le_of_ble_eq_true rfl, fun _ => rfl⟩
theorem ob_12 (o : zW) (i : Nat) : z_OBJ o (12, i, 0) 1 := fun _ _ _ => ⟨_, rfl⟩
theorem fd_12_0 (o : zW) (i : Nat) : z_fV o (12, i, 0) 1 0 (.ref (z_adr o (13, i, 0))) := fun _ _ _ => ⟨_, rfl, rfl⟩
theorem fd_12_1 (o : zW) (i : Nat) : z_fV o (12, i, 0) 1 1 (.ref (z_adr o (14, i, 0))) := fun _ _ _ => ⟨_, rfl, rfl⟩
theorem fd_12_2 (o : zW) (i : Nat) : z_fV o (12, i, 0) 1 2 (.ref (z_adr o (15, i, 0))) := fun _ _ _ => ⟨_, rfl, rfl⟩
theorem fd_12_3 (o : zW) (i : Nat) : z_fI o (12, i, 0) 1 3 := fun _ _ _ => ⟨_, rfl, rfl, Nat.le_of_ble_eq_true rfl, fun _ => rfl⟩
theorem fd_12_4 (o : zW) (i : Nat) : z_fI o (12, i, 0) 1 4 := fun _ _ _ => ⟨_, rfl, rfl, Nat.le_of_ble_eq_true rfl, fun _ => rfl⟩
theorem fd_12_5 (o : zW) (i : Nat) : z_fI o (12, i, 0) 1 5 := fun _ _ _ => ⟨_, rfl, rfl, Nat.le_of_ble_eq_true rfl, fun _ => rfl⟩
theorem fd_12_6 (o : zW) (i : Nat) : z_fL o (12, i, 0) 1 6 := fun _ _ _ => ⟨_, rfl, rfl, Nat.le_of_ble_eq_true rfl, fun _ => rfl⟩
theorem fd_12_7 (o : zW) (i : Nat) : z_fL o (12, i, 0) 1 7 := fun _ _ _ => ⟨_, rfl, rfl, Nat.le_of_ble_eq_true rfl, fun _ => rfl⟩
theorem ob_16 (o : zW) : z_OBJ o (16, 0, 0) 3 := fun _ _ _ => ⟨_, rfl⟩
theorem fd_16_0 (o : zW) : z_fV o (16, 0, 0) 3 0 (.ref (z_adr o (17, 0, 0))) := fun _ _ _ => ⟨_, rfl, rfl⟩
theorem fd_16_1 (o : zW) : z_fV o (16, 0, 0) 3 1 (.ref (z_adr o (18, 0, 0))) := fun _ _ _ => ⟨_, rfl, rfl⟩
theorem fd_16_2 (o : zW) : z_fV o (16, 0, 0) 3 2 (.ref (z_adr o (19, 0, 0))) := fun _ _ _ => ⟨_, rfl, rfl⟩
theorem fd_16_3 (o : zW) : z_fV o (16, 0, 0) 3 3 (.ref (z_adr o (20, 0, 0))) := fun _ _ _ => ⟨_, rfl, rfl⟩
theorem fd_16_4 (o : zW) : z_fI o (16, 0, 0) 3 4 := fun _ _ _ => ⟨_, rfl, rfl, Nat.le_of_ble_eq_true rfl, fun _ => rfl⟩
theorem fd_16_5 (o : zW) : z_fI o (16, 0, 0) 3 5 := fun _ _ _ => ⟨_, rfl, rfl, Nat.le_of_ble_eq_true rfl, fun _ => rfl⟩
theorem fd_16_6 (o : zW) : z_fI o (16, 0, 0) 3 6 := fun _ _ _ => ⟨_, rfl, rfl, Nat.le_of_ble_eq_true rfl, fun _ => rfl⟩
theorem fd_16_7 (o : zW) : z_fI o (16, 0, 0) 3 7 := fun _ _ _ => ⟨_, rfl, rfl, Nat.le_of_ble_eq_true rfl, fun _ => rfl⟩
theorem ob_23 (o : zW) : z_OBJ o (23, 0, 0) 5 := fun _ _ _ => ⟨_, rfl⟩
theorem fd_23_0 (o : zW) : z_fV o (23, 0, 0) 5 0 (.ref (z_adr o (24, 0, 0))) := fun _ _ _ => ⟨_, rfl, rfl⟩
theorem fd_23_1 (o : zW) : z_fV o (23, 0, 0) 5 1 (.ref (z_adr o (25, 0, 0))) := fun _ _ _ => ⟨_, rfl, rfl⟩
theorem fd_23_2 (o : zW) : z_fV o (23, 0, 0) 5 2 (.ref (z_adr o (26, 0, 0))) := fun _ _ _ => ⟨_, rfl, rfl⟩
theorem fd_23_3 (o : zW) : z_fV o (23, 0, 0) 5 3 (.ref (z_adr o (27, 0, 0))) := fun _ _ _ => ⟨_, rfl, rfl⟩
theorem fd_23_4 (o : zW) : z_fV o (23, 0, 0) 5 4 (.ref (z_adr o (28, 0, 0))) := fun _ _ _ => ⟨_, rfl, rfl⟩
theorem fd_23_5 (o : zW) : z_fV o (23, 0, 0) 5 5 (.ref (z_adr o (29, 0, 0))) := fun _ _ _ => ⟨_, rfl, rfl⟩
theorem fd_23_6 (o : zW) : z_fV o (23, 0, 0) 5 6 (.ref (z_adr o (30, 0, 0))) := fun _ _ _ => ⟨_, rfl, rfl⟩
theorem fd_23_7 (o : zW) : z_fV o (23, 0, 0) 5 7 (.ref (z_adr o (31, 0, 0))) := fun _ _ _ => ⟨_, rfl, rfl⟩
theorem fd_23_8 (o : zW) : z_fV o (23, 0, 0) 5 8 (.ref (z_adr o (32, 0, 0))) := fun _ _ _ => ⟨_, rfl, rfl⟩
theorem fd_23_9 (o : zW) : z_fV o (23, 0, 0) 5 9 (.ref (z_adr o (33, 0, 0))) := fun _ _ _ => ⟨_, rfl, rfl⟩
theorem fd_23_10 (o : zW) : z_fV o (23, 0, 0) 5 10 (.ref (z_adr o (34, 0, 0))) := fun _ _ _ => ⟨_, rfl, rfl⟩
theorem fd_23_11 (o : zW) : z_fV o (23, 0, 0) 5 11 (.ref (z_adr o (35, 0, 0))) := fun _ _ _ => ⟨_, rfl, rfl⟩
theorem fd_23_12 (o : zW) : z_fV o (23, 0, 0) 5 12 (.ref (z_adr o (36, 0, 0))) := fun _ _ _ => ⟨_, rfl, rfl⟩
theorem fd_23_13 (o : zW) : z_fV o (23, 0, 0) 5 13 (.ref (z_adr o (37, 0, 0))) := fun _ _ _ => ⟨_, rfl, rfl⟩
theorem fd_23_14 (o : zW) : z_fV o (23, 0, 0) 5 14 (.ref (z_adr o (38, 0, 0))) := fun _ _ _ => ⟨_, rfl, rfl⟩
theorem fd_23_15 (o : zW) : z_fV o (23, 0, 0) 5 15 (.ref (z_adr o (39, 0, 0))) := fun _ _ _ => ⟨_, rfl, rfl⟩
theorem fd_23_16 (o : zW) : z_fV o (23, 0, 0) 5 16 (.ref (z_adr o (40, 0, 0))) := fun _ _ _ => ⟨_, rfl, rfl⟩
theorem fd_23_17 (o : zW) : z_fV o (23, 0, 0) 5 17 (.ref (z_adr o (41, 0, 0))) := fun _ _ _ => ⟨_, rfl, rfl⟩
theorem fd_23_18 (o : zW) : z_fV o (23, 0, 0) 5 18 (.ref (z_adr o (42, 0, 0))) := fun _ _ _ => ⟨_, rfl, rfl⟩
theorem fd_23_19 (o : zW) : z_fV o (23, 0, 0) 5 19 (.ref (z_adr o (43, 0, 0))) := fun _ _ _ => ⟨_, rfl, rfl⟩
theorem fd_23_20 (o : zW) : z_fF o (23, 0, 0) 5 20 := fun _ _ _ => ⟨_, rfl, rfl, Nat.le_of_ble_eq_true rfl, fun _ => rfl⟩
theorem fd_23_21 (o : zW) : z_fL o (23, 0, 0) 5 21 := fun _ _ _ => ⟨_, rfl, rfl, Nat.le_of_ble_eq_true rfl, fun _ => rfl⟩
theorem fd_23_22 (o : zW) : z_fL o (23, 0, 0) 5 22 := fun _ _ _ => ⟨_, rfl, rfl, Nat.le_of_ble_eq_true rfl, fun _ => rfl⟩
theorem fd_23_23 (o : zW) : z_fI o (23, 0, 0) 5 23 := fun _ _ _ => ⟨_, rfl, rfl, Nat.le_of_ble_eq_true rfl, fun _ => rfl⟩
theorem fd_23_24 (o : zW) : z_fV o (23, 0, 0) 5 24 (.ref (z_adr o (44, 0, 0))) := fun _ _ _ => ⟨_, rfl, rfl⟩
theorem fd_23_25 (o : zW) : z_fV o (23, 0, 0) 5 25 (.ref (z_adr o (45, 0, 0))) := fun _ _ _ => ⟨_, rfl, rfl⟩
theorem fd_23_26 (o : zW) : z_fV o (23, 0, 0) 5 26 (.ref (z_adr o (46, 0, 0))) := fun _ _ _ => ⟨_, rfl, rfl⟩
theorem fd_23_27 (o : zW) : z_fV o (23, 0, 0) 5 27 (.ref (z_adr o (47, 0, 0))) := fun _ _ _ => ⟨_, rfl, rfl⟩
theorem fd_23_28 (o : zW) : z_fI o (23, 0, 0) 5 28 := fun _ _ _ => ⟨_, rfl, rfl, Nat.le_of_ble_eq_true rfl, fun _ => rfl⟩
theorem fd_23_29 (o : zW) : z_fV o (23, 0, 0) 5 29 (.ref (z_adr o (48, 0, 0))) := fun _ _ _ => ⟨_, rfl, rfl⟩
theorem fd_23_30 (o : zW) : z_fI o (23, 0, 0) 5 30 := fun _ _ _ => ⟨_, rfl, rfl, Nat.le_of_ble_eq_true rfl, fun _ => rfl⟩
theorem fd_23_31 (o : zW) : z_fI o (23, 0, 0) 5 31 := fun _ _ _ => ⟨_, rfl, rfl, Nat.le_of_ble_eq_true rfl, fun _ => rfl⟩
theorem fd_23_32 (o : zW) : z_fI o (23, 0, 0) 5 32 := fun _ _ _ => ⟨_, rfl, rfl, Nat.le_of_ble_eq_true rfl, fun _ => rfl⟩
theorem fd_23_33 (o : zW) : z_fI o (23, 0, 0) 5 33 := fun _ _ _ => ⟨_, rfl, rfl, Nat.le_of_ble_eq_true rfl, fun _ => rfl⟩
section ZE
variable {o : zW} {d : zD} {pc n : Nat} {lv : List (Nat × Value)} {st : List Value} {S : zS} {mc ms : Nat} {Q : Option Value → zM → Prop}
theorem zE.getV {idx ci : Nat} {C0 : String} {T : u_T} {N : Nat} {ty : Nat → FieldType} {k : zK} {v : Value} {j : Nat} (f : z_fV o k ci j v) (hk : z_ok n k) (KI : z_KI ci C0 T N ty) (hj : j < N) (hl : z_FL d idx C0 T j) (hd : decode (z_cc d) pc = .ok (.getfield idx, 3))
    (kk : zJ o d (pc + 3) lv (v :: st) (n, z_enc o S) mc ms Q) : zJ o d pc lv (.ref (z_adr o k) :: st) (n, z_enc o S) mc ms Q := by
  obtain ⟨fs, h1, h2⟩ := f (S.1 k) (S.2.1 k) (S.2.2 k)
  exact zJ.getf KI j hj hl hd hk h1 h2 kk
theorem zE.getI {idx ci : Nat} {C0 : String} {T : u_T} {N : Nat} {ty : Nat → FieldType} {k : zK} {j : Nat} (f : z_fI o k ci j) (hk : z_ok n k) (KI : z_KI ci C0 T N ty) (hj : j < N) (hl : z_FL d idx C0 T j) (hd : decode (z_cc d) pc = .ok (.getfield idx, 3))
    (kk : zJ o d (pc + 3) lv (.int (S.1 k j) :: st) (n, z_enc o S) mc ms Q) : zJ o d pc lv (.ref (z_adr o k) :: st) (n, z_enc o S) mc ms Q := by
  obtain ⟨fs, h1, h2, h3, h4⟩ := f (S.1 k) (S.2.1 k) (S.2.2 k)
  exact zJ.getf KI j hj hl hd hk h1 h2 kk
theorem zE.putI {idx ci : Nat} {C0 : String} {T : u_T} {N : Nat} {ty : Nat → FieldType} {k : zK} {j : Nat} {v : Int32} (f : z_fI o k ci j) (hk : z_ok n k) (KI : z_KI ci C0 T N ty) (hj : j < N) (hl : z_FL d idx C0 T j) (hfin : (T j).2.2.2 = false) (hty : ty j = .int) (hd : decode (z_cc d) pc = .ok (.putfield idx, 3))
    (kk : zJ o d (pc + 3) lv st (n, z_enc o (sI S k j v)) mc ms Q) : zJ o d pc lv (.int v :: .ref (z_adr o k) :: st) (n, z_enc o S) mc ms Q := by
  obtain ⟨fs, h1, h2, h3, h4⟩ := f (S.1 k) (S.2.1 k) (S.2.2 k)
  refine zJ.putf KI j hj hl hd hk h1 hfin (by rw [hty]; rfl) (by rw [hty]; rfl) h3 ?_
  show zJ o d (pc + 3) lv st (n, z_up (z_enc o S) k (.inr (ci, fs.set j (.int v)))) mc ms Q
  rw [z_up_I (s := j) (v := v) (h4 v)]
  exact kk
theorem zE.getL {idx ci : Nat} {C0 : String} {T : u_T} {N : Nat} {ty : Nat → FieldType} {k : zK} {j : Nat} (f : z_fL o k ci j) (hk : z_ok n k) (KI : z_KI ci C0 T N ty) (hj : j < N) (hl : z_FL d idx C0 T j) (hd : decode (z_cc d) pc = .ok (.getfield idx, 3))
    (kk : zJ o d (pc + 3) lv (.long (S.2.1 k j) :: st) (n, z_enc o S) mc ms Q) : zJ o d pc lv (.ref (z_adr o k) :: st) (n, z_enc o S) mc ms Q := by
  obtain ⟨fs, h1, h2, h3, h4⟩ := f (S.1 k) (S.2.1 k) (S.2.2 k)
  exact zJ.getf KI j hj hl hd hk h1 h2 kk
theorem zE.putL {idx ci : Nat} {C0 : String} {T : u_T} {N : Nat} {ty : Nat → FieldType} {k : zK} {j : Nat} {v : Int64} (f : z_fL o k ci j) (hk : z_ok n k) (KI : z_KI ci C0 T N ty) (hj : j < N) (hl : z_FL d idx C0 T j) (hfin : (T j).2.2.2 = false) (hty : ty j = .long) (hd : decode (z_cc d) pc = .ok (.putfield idx, 3))
    (kk : zJ o d (pc + 3) lv st (n, z_enc o (sL S k j v)) mc ms Q) : zJ o d pc lv (.long v :: .ref (z_adr o k) :: st) (n, z_enc o S) mc ms Q := by
  obtain ⟨fs, h1, h2, h3, h4⟩ := f (S.1 k) (S.2.1 k) (S.2.2 k)
  refine zJ.putf KI j hj hl hd hk h1 hfin (by rw [hty]; rfl) (by rw [hty]; rfl) h3 ?_
  show zJ o d (pc + 3) lv st (n, z_up (z_enc o S) k (.inr (ci, fs.set j (.long v)))) mc ms Q
  rw [z_up_L (s := j) (v := v) (h4 v)]
  exact kk
theorem zE.getF {idx ci : Nat} {C0 : String} {T : u_T} {N : Nat} {ty : Nat → FieldType} {k : zK} {j : Nat} (f : z_fF o k ci j) (hk : z_ok n k) (KI : z_KI ci C0 T N ty) (hj : j < N) (hl : z_FL d idx C0 T j) (hd : decode (z_cc d) pc = .ok (.getfield idx, 3))
    (kk : zJ o d (pc + 3) lv (.float (S.2.2 k j) :: st) (n, z_enc o S) mc ms Q) : zJ o d pc lv (.ref (z_adr o k) :: st) (n, z_enc o S) mc ms Q := by
  obtain ⟨fs, h1, h2, h3, h4⟩ := f (S.1 k) (S.2.1 k) (S.2.2 k)
  exact zJ.getf KI j hj hl hd hk h1 h2 kk
theorem zE.putF {idx ci : Nat} {C0 : String} {T : u_T} {N : Nat} {ty : Nat → FieldType} {k : zK} {j : Nat} {v : UInt32} (f : z_fF o k ci j) (hk : z_ok n k) (KI : z_KI ci C0 T N ty) (hj : j < N) (hl : z_FL d idx C0 T j) (hfin : (T j).2.2.2 = false) (hty : ty j = .float) (hd : decode (z_cc d) pc = .ok (.putfield idx, 3))
    (kk : zJ o d (pc + 3) lv st (n, z_enc o (sF S k j v)) mc ms Q) : zJ o d pc lv (.float v :: .ref (z_adr o k) :: st) (n, z_enc o S) mc ms Q := by
  obtain ⟨fs, h1, h2, h3, h4⟩ := f (S.1 k) (S.2.1 k) (S.2.2 k)
  refine zJ.putf KI j hj hl hd hk h1 hfin (by rw [hty]; rfl) (by rw [hty]; rfl) h3 ?_
  show zJ o d (pc + 3) lv st (n, z_up (z_enc o S) k (.inr (ci, fs.set j (.float v)))) mc ms Q
  rw [z_up_F (s := j) (v := v) (h4 v)]
  exact kk
theorem zE.aldI {k : zK} {N : Nat} {i : Int32} (f : z_aI o k N) (hk : z_ok n k) (hin : vp_in i N) (hd : decode (z_cc d) pc = .ok (.iaload, 1))
    (kk : zJ o d (pc + 1) lv (.int (S.1 k i.toNatClampNeg) :: st) (n, z_enc o S) mc ms Q) : zJ o d pc lv (.int i :: .ref (z_adr o k) :: st) (n, z_enc o S) mc ms Q := zJ.iald hd hk (f (S.1 k) (S.2.1 k) (S.2.2 k)) hin kk
theorem zE.astI {k : zK} {N : Nat} {i : Int32} {v : Int32} (f : z_aI o k N) (hk : z_ok n k) (hin : vp_in i N) (hd : decode (z_cc d) pc = .ok (.iastore, 1))
    (kk : zJ o d (pc + 1) lv st (n, z_enc o (sI S k i.toNatClampNeg v)) mc ms Q) : zJ o d pc lv (.int v :: .int i :: .ref (z_adr o k) :: st) (n, z_enc o S) mc ms Q := by
  refine zJ.iast hd hk (f (S.1 k) (S.2.1 k) (S.2.2 k)) hin ?_
  show zJ o d (pc + 1) lv st (n, z_up (z_enc o S) k _) mc ms Q
  rw [z_up_I (s := i.toNatClampNeg) (v := v) (f _ _ _).symm]
  exact kk
theorem zE.aldL {k : zK} {N : Nat} {i : Int32} (f : z_aL o k N) (hk : z_ok n k) (hin : vp_in i N) (hd : decode (z_cc d) pc = .ok (.laload, 1))
    (kk : zJ o d (pc + 1) lv (.long (S.2.1 k i.toNatClampNeg) :: st) (n, z_enc o S) mc ms Q) : zJ o d pc lv (.int i :: .ref (z_adr o k) :: st) (n, z_enc o S) mc ms Q := zJ.lald hd hk (f (S.1 k) (S.2.1 k) (S.2.2 k)) hin kk
theorem zE.astL {k : zK} {N : Nat} {i : Int32} {v : Int64} (f : z_aL o k N) (hk : z_ok n k) (hin : vp_in i N) (hd : decode (z_cc d) pc = .ok (.lastore, 1))
    (kk : zJ o d (pc + 1) lv st (n, z_enc o (sL S k i.toNatClampNeg v)) mc ms Q) : zJ o d pc lv (.long v :: .int i :: .ref (z_adr o k) :: st) (n, z_enc o S) mc ms Q := by
  refine zJ.last hd hk (f (S.1 k) (S.2.1 k) (S.2.2 k)) hin ?_
  show zJ o d (pc + 1) lv st (n, z_up (z_enc o S) k _) mc ms Q
  rw [z_up_L (s := i.toNatClampNeg) (v := v) (f _ _ _).symm]
  exact kk
theorem zE.aldF {k : zK} {N : Nat} {i : Int32} (f : z_aF o k N) (hk : z_ok n k) (hin : vp_in i N) (hd : decode (z_cc d) pc = .ok (.faload, 1))
    (kk : zJ o d (pc + 1) lv (.float (S.2.2 k i.toNatClampNeg) :: st) (n, z_enc o S) mc ms Q) : zJ o d pc lv (.int i :: .ref (z_adr o k) :: st) (n, z_enc o S) mc ms Q := zJ.fald hd hk (f (S.1 k) (S.2.1 k) (S.2.2 k)) hin kk
theorem zE.astF {k : zK} {N : Nat} {i : Int32} {v : UInt32} (f : z_aF o k N) (hk : z_ok n k) (hin : vp_in i N) (hd : decode (z_cc d) pc = .ok (.fastore, 1))
    (kk : zJ o d (pc + 1) lv st (n, z_enc o (sF S k i.toNatClampNeg v)) mc ms Q) : zJ o d pc lv (.float v :: .int i :: .ref (z_adr o k) :: st) (n, z_enc o S) mc ms Q := by
  refine zJ.fast hd hk (f (S.1 k) (S.2.1 k) (S.2.2 k)) hin ?_
  show zJ o d (pc + 1) lv st (n, z_up (z_enc o S) k _) mc ms Q
  rw [z_up_F (s := i.toNatClampNeg) (v := v) (f _ _ _).symm]
  exact kk
theorem zE.aldB {i : Nat} {x : Int32} (hk : z_ok n (4, i, 0)) (hin : vp_in x 16) (hd : decode (z_cc d) pc = .ok (.aaload, 1))
    (kk : zJ o d (pc + 1) lv (.ref (z_adr o (5, i, x.toNatClampNeg)) :: st) (n, z_enc o S) mc ms Q) : zJ o d pc lv (.int x :: .ref (z_adr o (4, i, 0)) :: st) (n, z_enc o S) mc ms Q := zJ.aald (t0 := 3) (C0 := "LateLines$Box") rfl hd hk (z_a4 o i (S.1 (4, i, 0)) (S.2.1 (4, i, 0)) (S.2.2 (4, i, 0))) hin kk
theorem zE.aldK {x : Int32} (hk : z_ok n (22, 0, 0)) (hin : vp_in x 6) (hd : decode (z_cc d) pc = .ok (.aaload, 1))
    (kk : zJ o d (pc + 1) lv (.ref (z_adr o (1, x.toNatClampNeg + 2, 0)) :: st) (n, z_enc o S) mc ms Q) : zJ o d pc lv (.int x :: .ref (z_adr o (22, 0, 0)) :: st) (n, z_enc o S) mc ms Q := zJ.aald (t0 := 4) (C0 := "LateLines$State") rfl hd hk (z_a22 o (S.1 (22, 0, 0)) (S.2.1 (22, 0, 0)) (S.2.2 (22, 0, 0))) hin kk
theorem zE.lenI {k : zK} {N : Nat} {v : Int32} (f : z_aI o k N) (hk : z_ok n k) (hv : Int32.ofNat N = v) (hd : decode (z_cc d) pc = .ok (.arraylength, 1))
    (kk : zJ o d (pc + 1) lv (.int v :: st) (n, z_enc o S) mc ms Q) : zJ o d pc lv (.ref (z_adr o k) :: st) (n, z_enc o S) mc ms Q := zJ.alen (t0 := 0) (ty := .int) rfl hd hk (f (S.1 k) (S.2.1 k) (S.2.2 k)) hv kk
theorem zE.lenB {i : Nat} {v : Int32} (hk : z_ok n (4, i, 0)) (hv : Int32.ofNat 16 = v) (hd : decode (z_cc d) pc = .ok (.arraylength, 1))
    (kk : zJ o d (pc + 1) lv (.int v :: st) (n, z_enc o S) mc ms Q) : zJ o d pc lv (.ref (z_adr o (4, i, 0)) :: st) (n, z_enc o S) mc ms Q := zJ.alen (t0 := 3) (ty := .object "LateLines$Box") rfl hd hk (z_a4 o i (S.1 (4, i, 0)) (S.2.1 (4, i, 0)) (S.2.2 (4, i, 0))) hv kk
/-- the ints of one array copied over another's -/
def sC (S : zS) (k0 k : zK) (sp dp m : Nat) : zS := (fun q t => if q = k ∧ dp ≤ t ∧ t < dp + m then S.1 k0 (sp + (t - dp)) else S.1 q t, S.2.1, S.2.2)
def sCs (S : zS) (i0 : Nat) (k : zK) (sp dp m : Nat) : zS := (fun q t => if q = k ∧ dp ≤ t ∧ t < dp + m then z_st i0 (sp + (t - dp)) else S.1 q t, S.2.1, S.2.2)
theorem z_up_C {o : zW} {S : zS} {k : zK} {N sp dp m : Nat} {f : Nat → Int32} (h : z_aI o k N) : z_up (z_enc o S) k (.inl (o.2.2.1 0, N, .inl (va_cpy f (S.1 k) sp dp m))) = z_enc o (fun q t => if q = k ∧ dp ≤ t ∧ t < dp + m then f (sp + (t - dp)) else S.1 q t, S.2.1, S.2.2) := by
  funext q
  by_cases hq : q = k
  · subst hq
    have e : va_cpy f (S.1 q) sp dp m = fun t => if q = q ∧ dp ≤ t ∧ t < dp + m then f (sp + (t - dp)) else S.1 q t := by
      funext t
      simp [va_cpy]
    show (if q = q then _ else _) = z_ent o q _ _ _
    rw [if_pos rfl, h, e]
  · show (if q = k then _ else z_ent o q _ _ _) = z_ent o q _ _ _
    rw [if_neg hq]
    have e : (fun t => if q = k ∧ dp ≤ t ∧ t < dp + m then f (sp + (t - dp)) else S.1 q t) = S.1 q := by
      funext t
      simp [hq]
    show _ = z_ent o q (fun t => if q = k ∧ dp ≤ t ∧ t < dp + m then f (sp + (t - dp)) else S.1 q t) _ _
    rw [e]
theorem zE.copy {idx : Nat} {k0 k : zK} {N0 N : Nat} {sp dp m : Int32} (ha : z_AC d idx) (f0 : z_aI o k0 N0) (f : z_aI o k N) (hk0 : z_ok n k0) (hk : z_ok n k) (g1 : ¬ sp < 0) (g2 : ¬ dp < 0) (g3 : ¬ m < 0) (g4 : sp.toNatClampNeg + m.toNatClampNeg ≤ N0) (g5 : dp.toNatClampNeg + m.toNatClampNeg ≤ N) (hfr : 1 ≤ z_fr d) (hlc : (st.map fun v => v.category).sum + (nativeFrameWords "java/lang/System" "arraycopy" 5 + 11) ≤ z_lo d) (hd : decode (z_cc d) pc = .ok (.invokestatic idx, 3))
    (kk : zJ o d (pc + 3) lv st (n, z_enc o (sC S k0 k sp.toNatClampNeg dp.toNatClampNeg m.toNatClampNeg)) mc ms Q) : zJ o d pc lv (.int m :: .int dp :: .ref (z_adr o k) :: .int sp :: .ref (z_adr o k0) :: st) (n, z_enc o S) mc ms Q := by
  refine zJ.copyi ha hd hk0 (f0 (S.1 k0) (S.2.1 k0) (S.2.2 k0)) hk (f (S.1 k) (S.2.1 k) (S.2.2 k)) g1 g2 g3 g4 g5 hfr hlc ?_
  show zJ o d (pc + 3) lv st (n, z_up (z_enc o S) k (.inl (o.2.2.1 0, N, .inl (va_cpy (S.1 k0) (S.1 k) _ _ _)))) mc ms Q
  rw [z_up_C f]
  exact kk
end ZE
/-! the judgement over the regular memory, nothing made -/
def zG (o : zW) (n : Nat) (d : zD) (pc : Nat) (lv : List (Nat × Value)) (st : List Value) (S : zS) (Q : Option Value → zS → Prop) : Prop := zJ o d pc lv st (n, z_enc o S) 0 0 (fun r M => ∃ S', M = (n, z_enc o S') ∧ Q r S')
def zGv (o : zW) (n : Nat) (d : zD) (As : List Value) (S : zS) (K : zS → Prop) : Prop := zG o n d 0 (lv_args 0 As) [] S (fun r S' => r = none ∧ K S')
def zGi (o : zW) (n : Nat) (d : zD) (As : List Value) (S : zS) (K : Int32 → zS → Prop) : Prop := zG o n d 0 (lv_args 0 As) [] S (fun r S' => ∃ x, r = some (.int x) ∧ K x S')
def zGl (o : zW) (n : Nat) (d : zD) (As : List Value) (S : zS) (K : Int64 → zS → Prop) : Prop := zG o n d 0 (lv_args 0 As) [] S (fun r S' => ∃ x, r = some (.long x) ∧ K x S')
def zGf (o : zW) (n : Nat) (d : zD) (As : List Value) (S : zS) (K : UInt32 → zS → Prop) : Prop := zG o n d 0 (lv_args 0 As) [] S (fun r S' => ∃ x, r = some (.float x) ∧ K x S')
def zGd (o : zW) (n : Nat) (d : zD) (As : List Value) (S : zS) (K : UInt64 → zS → Prop) : Prop := zG o n d 0 (lv_args 0 As) [] S (fun r S' => ∃ x, r = some (.double x) ∧ K x S')
/-- an optional box of state i -/
def z_bo (o : zW) (i : Nat) (x : Option Nat) : Option Nat := x.map fun b => z_adr o (5, i, b)
def zGq (o : zW) (n : Nat) (d : zD) (i : Nat) (As : List Value) (S : zS) (K : Option Nat → zS → Prop) : Prop := zG o n d 0 (lv_args 0 As) [] S (fun r S' => ∃ x, r = some (va_rf (z_bo o i x)) ∧ (∀ b, x = some b → b < 16) ∧ K x S')
theorem zG.mono {o : zW} {n : Nat} {d : zD} {pc : Nat} {lv : List (Nat × Value)} {st : List Value} {S : zS} {Q Q' : Option Value → zS → Prop} (h : zG o n d pc lv st S Q) (hQ : ∀ r S', Q r S' → Q' r S') : zG o n d pc lv st S Q' :=
  zJ.mono h (fun r M ⟨S', h1, h2⟩ => ⟨S', h1, hQ r S' h2⟩)
theorem zG.ret {o : zW} {n : Nat} {d : zD} {pc : Nat} {lv : List (Nat × Value)} {r : Option Value} {S : zS} {mc ms : Nat} {Q : Option Value → zS → Prop} (hr : z_Ret d pc r) (h : Q r S) : zJ o d pc lv r.toList (n, z_enc o S) mc ms (fun r M => ∃ S', M = (n, z_enc o S') ∧ Q r S') := zJ.ret hr ⟨S, rfl, h⟩
theorem zG.callSv {o : zW} {d d2 : zD} {pc idx n m : Nat} {lv : List (Nat × Value)} (As rest : List Value) {S : zS} {mc ms : Nat} {Q : Option Value → zM → Prop} {K : zS → Prop} (hd : decode (z_cc d) pc = .ok (.invokestatic idx, 3)) (hb : z_LB d d2 m) (hl : z_ML d idx d2) (hst : Cond.static (z_y d2) ∈ lw_tbl) (hn : As.length = m) (hsz : (lg_sl As).length ≤ z_nl d2) (hcat : (rest.map fun v => v.category).sum ≤ 8) {stk : List Value} (hstk : stk = As.reverse ++ rest)
    (h : zGv o n d2 As S K) (kk : ∀ S2, K S2 → zJ o d (pc + 3) lv rest (n, z_enc o S2) mc ms Q) : zJ o d pc lv stk (n, z_enc o S) mc ms Q :=
  zJ.callS hd hb hl hst hn hsz hcat stk hstk h ⟨Nat.le_of_eq (Nat.zero_add _), Nat.le_of_eq (Nat.zero_add _)⟩ (fun r M ⟨S2, h1, h2, h3⟩ => by subst h1; subst h2; exact kk S2 h3)
theorem zG.callVv {o : zW} {d d2 : zD} {pc idx n m : Nat} {lv : List (Nat × Value)} (As rest : List Value) {S : zS} {mc ms : Nat} {Q : Option Value → zM → Prop} {K : zS → Prop} {k : zK} {ci : Nat} (ho : z_OBJ o k ci) (hk : z_ok n k) {T : u_T} {N : Nat} (hcl : vwCl[ci]? = some ((z_y d2).cls, T, N)) (hd : decode (z_cc d) pc = .ok (.invokevirtual idx, 3)) (hb : z_LB d d2 m) (hl : z_ML d idx d2) (hin : Cond.instanceMethod (z_y d2) ∈ lw_tbl) (hse : Cond.selects (z_y d2).cls (z_y d2) (z_y d2) ∈ lw_tbl) (hn : As.length = m) (hsz : (lg_sl (.ref (z_adr o k) :: As)).length ≤ z_nl d2) (hcat : (rest.map fun v => v.category).sum ≤ 8) {stk : List Value} (hstk : stk = As.reverse ++ .ref (z_adr o k) :: rest)
    (h : zGv o n d2 (.ref (z_adr o k) :: As) S K) (kk : ∀ S2, K S2 → zJ o d (pc + 3) lv rest (n, z_enc o S2) mc ms Q) : zJ o d pc lv stk (n, z_enc o S) mc ms Q := by
  obtain ⟨fs, hf⟩ := ho (S.1 k) (S.2.1 k) (S.2.2 k)
  exact zJ.callV hd hb hl hin hse hk hf hcl hn hsz hcat stk hstk h ⟨Nat.le_of_eq (Nat.zero_add _), Nat.le_of_eq (Nat.zero_add _)⟩ (fun r M ⟨S2, h1, h2, h3⟩ => by subst h1; subst h2; exact kk S2 h3)
theorem zG.callSi {o : zW} {d d2 : zD} {pc idx n m : Nat} {lv : List (Nat × Value)} (As rest : List Value) {S : zS} {mc ms : Nat} {Q : Option Value → zM → Prop} {K : Int32 → zS → Prop} (hd : decode (z_cc d) pc = .ok (.invokestatic idx, 3)) (hb : z_LB d d2 m) (hl : z_ML d idx d2) (hst : Cond.static (z_y d2) ∈ lw_tbl) (hn : As.length = m) (hsz : (lg_sl As).length ≤ z_nl d2) (hcat : (rest.map fun v => v.category).sum ≤ 8) {stk : List Value} (hstk : stk = As.reverse ++ rest)
    (h : zGi o n d2 As S K) (kk : ∀ x S2, K x S2 → zJ o d (pc + 3) lv (.int x :: rest) (n, z_enc o S2) mc ms Q) : zJ o d pc lv stk (n, z_enc o S) mc ms Q :=
  zJ.callS hd hb hl hst hn hsz hcat stk hstk h ⟨Nat.le_of_eq (Nat.zero_add _), Nat.le_of_eq (Nat.zero_add _)⟩ (fun r M ⟨S2, h1, x, h2, h3⟩ => by subst h1; subst h2; exact kk x S2 h3)
theorem zG.callVi {o : zW} {d d2 : zD} {pc idx n m : Nat} {lv : List (Nat × Value)} (As rest : List Value) {S : zS} {mc ms : Nat} {Q : Option Value → zM → Prop} {K : Int32 → zS → Prop} {k : zK} {ci : Nat} (ho : z_OBJ o k ci) (hk : z_ok n k) {T : u_T} {N : Nat} (hcl : vwCl[ci]? = some ((z_y d2).cls, T, N)) (hd : decode (z_cc d) pc = .ok (.invokevirtual idx, 3)) (hb : z_LB d d2 m) (hl : z_ML d idx d2) (hin : Cond.instanceMethod (z_y d2) ∈ lw_tbl) (hse : Cond.selects (z_y d2).cls (z_y d2) (z_y d2) ∈ lw_tbl) (hn : As.length = m) (hsz : (lg_sl (.ref (z_adr o k) :: As)).length ≤ z_nl d2) (hcat : (rest.map fun v => v.category).sum ≤ 8) {stk : List Value} (hstk : stk = As.reverse ++ .ref (z_adr o k) :: rest)
    (h : zGi o n d2 (.ref (z_adr o k) :: As) S K) (kk : ∀ x S2, K x S2 → zJ o d (pc + 3) lv (.int x :: rest) (n, z_enc o S2) mc ms Q) : zJ o d pc lv stk (n, z_enc o S) mc ms Q := by
  obtain ⟨fs, hf⟩ := ho (S.1 k) (S.2.1 k) (S.2.2 k)
  exact zJ.callV hd hb hl hin hse hk hf hcl hn hsz hcat stk hstk h ⟨Nat.le_of_eq (Nat.zero_add _), Nat.le_of_eq (Nat.zero_add _)⟩ (fun r M ⟨S2, h1, x, h2, h3⟩ => by subst h1; subst h2; exact kk x S2 h3)
theorem zG.callSl {o : zW} {d d2 : zD} {pc idx n m : Nat} {lv : List (Nat × Value)} (As rest : List Value) {S : zS} {mc ms : Nat} {Q : Option Value → zM → Prop} {K : Int64 → zS → Prop} (hd : decode (z_cc d) pc = .ok (.invokestatic idx, 3)) (hb : z_LB d d2 m) (hl : z_ML d idx d2) (hst : Cond.static (z_y d2) ∈ lw_tbl) (hn : As.length = m) (hsz : (lg_sl As).length ≤ z_nl d2) (hcat : (rest.map fun v => v.category).sum ≤ 8) {stk : List Value} (hstk : stk = As.reverse ++ rest)
    (h : zGl o n d2 As S K) (kk : ∀ x S2, K x S2 → zJ o d (pc + 3) lv (.long x :: rest) (n, z_enc o S2) mc ms Q) : zJ o d pc lv stk (n, z_enc o S) mc ms Q :=
  zJ.callS hd hb hl hst hn hsz hcat stk hstk h ⟨Nat.le_of_eq (Nat.zero_add _), Nat.le_of_eq (Nat.zero_add _)⟩ (fun r M ⟨S2, h1, x, h2, h3⟩ => by subst h1; subst h2; exact kk x S2 h3)
theorem zG.callVl {o : zW} {d d2 : zD} {pc idx n m : Nat} {lv : List (Nat × Value)} (As rest : List Value) {S : zS} {mc ms : Nat} {Q : Option Value → zM → Prop} {K : Int64 → zS → Prop} {k : zK} {ci : Nat} (ho : z_OBJ o k ci) (hk : z_ok n k) {T : u_T} {N : Nat} (hcl : vwCl[ci]? = some ((z_y d2).cls, T, N)) (hd : decode (z_cc d) pc = .ok (.invokevirtual idx, 3)) (hb : z_LB d d2 m) (hl : z_ML d idx d2) (hin : Cond.instanceMethod (z_y d2) ∈ lw_tbl) (hse : Cond.selects (z_y d2).cls (z_y d2) (z_y d2) ∈ lw_tbl) (hn : As.length = m) (hsz : (lg_sl (.ref (z_adr o k) :: As)).length ≤ z_nl d2) (hcat : (rest.map fun v => v.category).sum ≤ 8) {stk : List Value} (hstk : stk = As.reverse ++ .ref (z_adr o k) :: rest)
    (h : zGl o n d2 (.ref (z_adr o k) :: As) S K) (kk : ∀ x S2, K x S2 → zJ o d (pc + 3) lv (.long x :: rest) (n, z_enc o S2) mc ms Q) : zJ o d pc lv stk (n, z_enc o S) mc ms Q := by
  obtain ⟨fs, hf⟩ := ho (S.1 k) (S.2.1 k) (S.2.2 k)
  exact zJ.callV hd hb hl hin hse hk hf hcl hn hsz hcat stk hstk h ⟨Nat.le_of_eq (Nat.zero_add _), Nat.le_of_eq (Nat.zero_add _)⟩ (fun r M ⟨S2, h1, x, h2, h3⟩ => by subst h1; subst h2; exact kk x S2 h3)
theorem zG.callSf {o : zW} {d d2 : zD} {pc idx n m : Nat} {lv : List (Nat × Value)} (As rest : List Value) {S : zS} {mc ms : Nat} {Q : Option Value → zM → Prop} {K : UInt32 → zS → Prop} (hd : decode (z_cc d) pc = .ok (.invokestatic idx, 3)) (hb : z_LB d d2 m) (hl : z_ML d idx d2) (hst : Cond.static (z_y d2) ∈ lw_tbl) (hn : As.length = m) (hsz : (lg_sl As).length ≤ z_nl d2) (hcat : (rest.map fun v => v.category).sum ≤ 8) {stk : List Value} (hstk : stk = As.reverse ++ rest)
    (h : zGf o n d2 As S K) (kk : ∀ x S2, K x S2 → zJ o d (pc + 3) lv (.float x :: rest) (n, z_enc o S2) mc ms Q) : zJ o d pc lv stk (n, z_enc o S) mc ms Q :=
  zJ.callS hd hb hl hst hn hsz hcat stk hstk h ⟨Nat.le_of_eq (Nat.zero_add _), Nat.le_of_eq (Nat.zero_add _)⟩ (fun r M ⟨S2, h1, x, h2, h3⟩ => by subst h1; subst h2; exact kk x S2 h3)
theorem zG.callVf {o : zW} {d d2 : zD} {pc idx n m : Nat} {lv : List (Nat × Value)} (As rest : List Value) {S : zS} {mc ms : Nat} {Q : Option Value → zM → Prop} {K : UInt32 → zS → Prop} {k : zK} {ci : Nat} (ho : z_OBJ o k ci) (hk : z_ok n k) {T : u_T} {N : Nat} (hcl : vwCl[ci]? = some ((z_y d2).cls, T, N)) (hd : decode (z_cc d) pc = .ok (.invokevirtual idx, 3)) (hb : z_LB d d2 m) (hl : z_ML d idx d2) (hin : Cond.instanceMethod (z_y d2) ∈ lw_tbl) (hse : Cond.selects (z_y d2).cls (z_y d2) (z_y d2) ∈ lw_tbl) (hn : As.length = m) (hsz : (lg_sl (.ref (z_adr o k) :: As)).length ≤ z_nl d2) (hcat : (rest.map fun v => v.category).sum ≤ 8) {stk : List Value} (hstk : stk = As.reverse ++ .ref (z_adr o k) :: rest)
    (h : zGf o n d2 (.ref (z_adr o k) :: As) S K) (kk : ∀ x S2, K x S2 → zJ o d (pc + 3) lv (.float x :: rest) (n, z_enc o S2) mc ms Q) : zJ o d pc lv stk (n, z_enc o S) mc ms Q := by
  obtain ⟨fs, hf⟩ := ho (S.1 k) (S.2.1 k) (S.2.2 k)
  exact zJ.callV hd hb hl hin hse hk hf hcl hn hsz hcat stk hstk h ⟨Nat.le_of_eq (Nat.zero_add _), Nat.le_of_eq (Nat.zero_add _)⟩ (fun r M ⟨S2, h1, x, h2, h3⟩ => by subst h1; subst h2; exact kk x S2 h3)
theorem zG.callSd {o : zW} {d d2 : zD} {pc idx n m : Nat} {lv : List (Nat × Value)} (As rest : List Value) {S : zS} {mc ms : Nat} {Q : Option Value → zM → Prop} {K : UInt64 → zS → Prop} (hd : decode (z_cc d) pc = .ok (.invokestatic idx, 3)) (hb : z_LB d d2 m) (hl : z_ML d idx d2) (hst : Cond.static (z_y d2) ∈ lw_tbl) (hn : As.length = m) (hsz : (lg_sl As).length ≤ z_nl d2) (hcat : (rest.map fun v => v.category).sum ≤ 8) {stk : List Value} (hstk : stk = As.reverse ++ rest)
    (h : zGd o n d2 As S K) (kk : ∀ x S2, K x S2 → zJ o d (pc + 3) lv (.double x :: rest) (n, z_enc o S2) mc ms Q) : zJ o d pc lv stk (n, z_enc o S) mc ms Q :=
  zJ.callS hd hb hl hst hn hsz hcat stk hstk h ⟨Nat.le_of_eq (Nat.zero_add _), Nat.le_of_eq (Nat.zero_add _)⟩ (fun r M ⟨S2, h1, x, h2, h3⟩ => by subst h1; subst h2; exact kk x S2 h3)
theorem zG.callVd {o : zW} {d d2 : zD} {pc idx n m : Nat} {lv : List (Nat × Value)} (As rest : List Value) {S : zS} {mc ms : Nat} {Q : Option Value → zM → Prop} {K : UInt64 → zS → Prop} {k : zK} {ci : Nat} (ho : z_OBJ o k ci) (hk : z_ok n k) {T : u_T} {N : Nat} (hcl : vwCl[ci]? = some ((z_y d2).cls, T, N)) (hd : decode (z_cc d) pc = .ok (.invokevirtual idx, 3)) (hb : z_LB d d2 m) (hl : z_ML d idx d2) (hin : Cond.instanceMethod (z_y d2) ∈ lw_tbl) (hse : Cond.selects (z_y d2).cls (z_y d2) (z_y d2) ∈ lw_tbl) (hn : As.length = m) (hsz : (lg_sl (.ref (z_adr o k) :: As)).length ≤ z_nl d2) (hcat : (rest.map fun v => v.category).sum ≤ 8) {stk : List Value} (hstk : stk = As.reverse ++ .ref (z_adr o k) :: rest)
    (h : zGd o n d2 (.ref (z_adr o k) :: As) S K) (kk : ∀ x S2, K x S2 → zJ o d (pc + 3) lv (.double x :: rest) (n, z_enc o S2) mc ms Q) : zJ o d pc lv stk (n, z_enc o S) mc ms Q := by
  obtain ⟨fs, hf⟩ := ho (S.1 k) (S.2.1 k) (S.2.2 k)
  exact zJ.callV hd hb hl hin hse hk hf hcl hn hsz hcat stk hstk h ⟨Nat.le_of_eq (Nat.zero_add _), Nat.le_of_eq (Nat.zero_add _)⟩ (fun r M ⟨S2, h1, x, h2, h3⟩ => by subst h1; subst h2; exact kk x S2 h3)
theorem zG.callVq {o : zW} {d d2 : zD} {pc idx n m : Nat} {lv : List (Nat × Value)} (i : Nat) (As rest : List Value) {S : zS} {mc ms : Nat} {Q : Option Value → zM → Prop} {K : Option Nat → zS → Prop} {k : zK} {ci : Nat} (ho : z_OBJ o k ci) (hk : z_ok n k) {T : u_T} {N : Nat} (hcl : vwCl[ci]? = some ((z_y d2).cls, T, N)) (hd : decode (z_cc d) pc = .ok (.invokevirtual idx, 3)) (hb : z_LB d d2 m) (hl : z_ML d idx d2) (hin : Cond.instanceMethod (z_y d2) ∈ lw_tbl) (hse : Cond.selects (z_y d2).cls (z_y d2) (z_y d2) ∈ lw_tbl) (hn : As.length = m) (hsz : (lg_sl (.ref (z_adr o k) :: As)).length ≤ z_nl d2) (hcat : (rest.map fun v => v.category).sum ≤ 8) {stk : List Value} (hstk : stk = As.reverse ++ .ref (z_adr o k) :: rest)
    (h : zGq o n d2 i (.ref (z_adr o k) :: As) S K) (kk : ∀ x S2, (∀ b, x = some b → b < 16) → K x S2 → zJ o d (pc + 3) lv (va_rf (z_bo o i x) :: rest) (n, z_enc o S2) mc ms Q) : zJ o d pc lv stk (n, z_enc o S) mc ms Q := by
  obtain ⟨fs, hf⟩ := ho (S.1 k) (S.2.1 k) (S.2.2 k)
  exact zJ.callV hd hb hl hin hse hk hf hcl hn hsz hcat stk hstk h ⟨Nat.le_of_eq (Nat.zero_add _), Nat.le_of_eq (Nat.zero_add _)⟩ (fun r M ⟨S2, h1, x, h2, h4, h3⟩ => by subst h1; subst h2; exact kk x S2 h4 h3)
theorem kiX0 : z_KI 0 RX0 TX0 12 tyX0 := ⟨rfl, by decide +kernel, tyX0_ok, nmX0, by decide +kernel⟩
theorem kiX1 : z_KI 1 RX1 TX1 8 tyX1 := ⟨rfl, by decide +kernel, tyX1_ok, nmX1, by decide +kernel⟩
theorem kiX2 : z_KI 2 RX2 TX2 9 tyX2 := ⟨rfl, by decide +kernel, tyX2_ok, nmX2, by decide +kernel⟩
theorem kiX3 : z_KI 3 RX3 TX3 8 tyX3 := ⟨rfl, by decide +kernel, tyX3_ok, nmX3, by decide +kernel⟩
theorem kiX4 : z_KI 4 RX4 TX4 7 tyX4 := ⟨rfl, by decide +kernel, tyX4_ok, nmX4, by decide +kernel⟩
theorem kiX5 : z_KI 5 RX5 TX5 34 tyX5 := ⟨rfl, by decide +kernel, tyX5_ok, nmX5, by decide +kernel⟩
end
section
/-! the methods; what the tables say of calls and fields -/
abbrev mdX4_init : zD := (yX4_init, cX4_init, 2, none, 3, 69)
abbrev mdX2_init : zD := (yX2_init, cX2_init, 2, none, 2, 48)
abbrev mdX0_init : zD := (yX0_init, cX0_init, 2, none, 1, 24)
abbrev mdX1_init : zD := (yX1_init, cX1_init, 1, none, 1, 24)
abbrev mdX2_renew : zD := (yX2_renew, cX2_renew, 5, none, 1, 21)
abbrev mdX0_renew : zD := (yX0_renew, cX0_renew, 2, none, 0, 0)
abbrev mdX1_renew : zD := (yX1_renew, cX1_renew, 1, none, 0, 0)
abbrev mdX3_init : zD := (yX3_init, cX3_init, 1, none, 1, 24)
abbrev mdX4_sets : zD := (yX4_sets, cX4_sets, 4, (some .int), 4, 112)
abbrev mdX4_refuse : zD := (yX4_refuse, cX4_refuse, 3, (some .int), 0, 0)
abbrev mdX4_keep : zD := (yX4_keep, cX4_keep, 1, none, 3, 92)
abbrev mdX2_become : zD := (yX2_become, cX2_become, 3, none, 2, 70)
abbrev mdX0_become : zD := (yX0_become, cX0_become, 2, none, 1, 48)
abbrev mdX1_become : zD := (yX1_become, cX1_become, 3, none, 1, 48)
abbrev mdJ9_min_7cf53 : zD := (yJ9_min_7cf53, cJ9_min_7cf53, 2, (some .int), 0, 0)
abbrev mdJ9_max_7cf53 : zD := (yJ9_max_7cf53, cJ9_max_7cf53, 2, (some .int), 0, 0)
abbrev mdX4_anew : zD := (yX4_anew, cX4_anew, 2, (some .int), 4, 112)
abbrev mdX4_load : zD := (yX4_load, cX4_load, 3, (some .int), 5, 140)
abbrev mdX4_isBox : zD := (yX4_isBox, cX4_isBox, 1, (some .boolean), 0, 0)
abbrev mdX4_isItem : zD := (yX4_isItem, cX4_isItem, 1, (some .boolean), 0, 0)
abbrev mdX2_begin : zD := (yX2_begin, cX2_begin, 6, (some .int), 4, 115)
abbrev mdX2_pass : zD := (yX2_pass, cX2_pass, 6, none, 3, 90)
abbrev mdX0_goFar : zD := (yX0_goFar, cX0_goFar, 2, none, 0, 0)
abbrev mdX2_tally : zD := (yX2_tally, cX2_tally, 3, none, 0, 0)
abbrev mdX2_come : zD := (yX2_come, cX2_come, 3, none, 2, 68)
abbrev mdX0_takeFromFar : zD := (yX0_takeFromFar, cX0_takeFromFar, 1, none, 1, 48)
abbrev mdX2_settle : zD := (yX2_settle, cX2_settle, 3, none, 1, 25)
abbrev mdX2_whoMustGo : zD := (yX2_whoMustGo, cX2_whoMustGo, 6, (some (.object "LateLines$Box")), 0, 0)
abbrev mdX2_setDue : zD := (yX2_setDue, cX2_setDue, 3, none, 0, 0)
abbrev mdX2_use : zD := (yX2_use, cX2_use, 2, none, 0, 0)
abbrev mdX2_serve : zD := (yX2_serve, cX2_serve, 6, none, 1, 23)
abbrev mdX0_valueAtLast : zD := (yX0_valueAtLast, cX0_valueAtLast, 4, (some .int), 0, 0)
abbrev mdX1_answer : zD := (yX1_answer, cX1_answer, 4, none, 0, 0)
abbrev mdX0_layIn : zD := (yX0_layIn, cX0_layIn, 3, none, 0, 0)
abbrev mdX2_ask : zD := (yX2_ask, cX2_ask, 4, (some .boolean), 3, 72)
abbrev mdX2_takeAsker : zD := (yX2_takeAsker, cX2_takeAsker, 5, none, 2, 48)
abbrev mdX1_add : zD := (yX1_add, cX1_add, 2, (some .int), 0, 0)
abbrev mdX0_addAsker : zD := (yX0_addAsker, cX0_addAsker, 5, none, 0, 0)
abbrev mdX4_store : zD := (yX4_store, cX4_store, 4, (some .int), 5, 140)
abbrev mdX4_fence : zD := (yX4_fence, cX4_fence, 1, (some .int), 5, 140)
abbrev mdX4_ticks : zD := (yX4_ticks, cX4_ticks, 3, (some .int), 5, 137)
abbrev mdX2_pause : zD := (yX2_pause, cX2_pause, 3, none, 4, 115)
abbrev mdX4_draw : zD := (yX4_draw, cX4_draw, 10, (some .int), 5, 140)
abbrev mdX4_got : zD := (yX4_got, cX4_got, 4, (some .int), 1, 22)
abbrev mdX4_often : zD := (yX4_often, cX4_often, 2, (some .int), 1, 22)
abbrev mdX4_where : zD := (yX4_where, cX4_where, 2, (some .int), 1, 22)
abbrev mdX4_item : zD := (yX4_item, cX4_item, 5, (some .int), 1, 23)
abbrev mdX0_changedBit : zD := (yX0_changedBit, cX0_changedBit, 2, (some .int), 0, 0)
abbrev mdX4_place : zD := (yX4_place, cX4_place, 3, (some .int), 1, 25)
abbrev mdX2_boxInPlace : zD := (yX2_boxInPlace, cX2_boxInPlace, 6, (some .int), 0, 0)
abbrev mdX4_fetch : zD := (yX4_fetch, cX4_fetch, 4, (some .int), 1, 30)
abbrev mdX2_boxOfFetch : zD := (yX2_boxOfFetch, cX2_boxOfFetch, 11, (some (.object "LateLines$Box")), 0, 0)
abbrev mdX4_cost : zD := (yX4_cost, cX4_cost, 3, (some .int), 1, 23)
abbrev mdX1_meanWait : zD := (yX1_meanWait, cX1_meanWait, 1, (some .float), 0, 0)
abbrev mdX4_floatBits : zD := (yX4_floatBits, cX4_floatBits, 4, (some .int), 0, 0)
abbrev mdX4_even : zD := (yX4_even, cX4_even, 1, (some .long), 1, 27)
abbrev mdX1_spread : zD := (yX1_spread, cX1_spread, 3, (some .double), 0, 0)
abbrev mdX4_doubleBits : zD := (yX4_doubleBits, cX4_doubleBits, 8, (some .long), 0, 0)
abbrev mdX4_best : zD := (yX4_best, cX4_best, 6, (some .int), 6, 163)
abbrev mdX3_readOrders : zD := (yX3_readOrders, cX3_readOrders, 2, (some .int), 5, 109)
abbrev mdX3_peek : zD := (yX3_peek, cX3_peek, 2, (some .int), 1, 21)
abbrev mdX3_byteAt : zD := (yX3_byteAt, cX3_byteAt, 2, (some .int), 0, 0)
abbrev mdX3_readOrder : zD := (yX3_readOrder, cX3_readOrder, 2, none, 4, 88)
abbrev mdX3_readAsking : zD := (yX3_readAsking, cX3_readAsking, 4, none, 3, 65)
abbrev mdX3_readNumber : zD := (yX3_readNumber, cX3_readNumber, 4, (some .int), 2, 42)
abbrev mdX3_isFigure : zD := (yX3_isFigure, cX3_isFigure, 1, (some .boolean), 0, 0)
abbrev mdX3_addOrder : zD := (yX3_addOrder, cX3_addOrder, 4, none, 0, 0)
abbrev mdX2_startTrial : zD := (yX2_startTrial, cX2_startTrial, 3, none, 2, 48)
abbrev mdX2_carryOut : zD := (yX2_carryOut, cX2_carryOut, 4, none, 5, 140)
abbrev mdX2_awaitFetches : zD := (yX2_awaitFetches, cX2_awaitFetches, 2, none, 4, 115)
abbrev mdX4_type : zD := (yX4_type, cX4_type, 2, (some .int), 1, 22)
abbrev mdX4_clear : zD := (yX4_clear, cX4_clear, 2, (some .int), 0, 0)
abbrev mdX4_runs : zD := (yX4_runs, cX4_runs, 3, (some .int), 6, 163)
abbrev mdX4_back : zD := (yX4_back, cX4_back, 1, (some .int), 3, 92)
abbrev mdX4_told : zD := (yX4_told, cX4_told, 2, (some .int), 1, 22)
abbrev mdX4_digest : zD := (yX4_digest, cX4_digest, 5, (some .long), 2, 47)
abbrev mdX5_init : zD := (yX5_init, cX5_init, 1, none, 1, 24)
abbrev mdX5_begins : zD := (yX5_begins, cX5_begins, 2, none, 0, 0)
abbrev mdX5_back : zD := (yX5_back, cX5_back, 1, (some .int), 2, 44)
abbrev mdX5_comesBack : zD := (yX5_comesBack, cX5_comesBack, 2, none, 1, 23)
abbrev mdX5_takes : zD := (yX5_takes, cX5_takes, 4, none, 0, 0)
abbrev mdX5_sets : zD := (yX5_sets, cX5_sets, 4, (some .int), 3, 65)
abbrev mdX5_may : zD := (yX5_may, cX5_may, 2, (some .boolean), 1, 22)
abbrev mdX5_in : zD := (yX5_in, cX5_in, 3, (some .boolean), 0, 0)
abbrev mdX5_bad : zD := (yX5_bad, cX5_bad, 1, (some .int), 0, 0)
abbrev mdX5_leavesState : zD := (yX5_leavesState, cX5_leavesState, 2, none, 2, 44)
abbrev mdX5_keeps : zD := (yX5_keeps, cX5_keeps, 2, none, 1, 23)
abbrev mdX5_lays : zD := (yX5_lays, cX5_lays, 4, none, 0, 0)
abbrev mdX5_anew : zD := (yX5_anew, cX5_anew, 2, (some .int), 3, 65)
abbrev mdX5_load : zD := (yX5_load, cX5_load, 3, (some .int), 7, 157)
abbrev mdX5_isBox : zD := (yX5_isBox, cX5_isBox, 1, (some .boolean), 1, 22)
abbrev mdX5_isItem : zD := (yX5_isItem, cX5_isItem, 1, (some .boolean), 1, 22)
abbrev mdX5_done : zD := (yX5_done, cX5_done, 5, (some .int), 6, 133)
abbrev mdX5_goesBy : zD := (yX5_goesBy, cX5_goesBy, 1, none, 5, 113)
abbrev mdX5_comesTime : zD := (yX5_comesTime, cX5_comesTime, 3, none, 4, 91)
abbrev mdX5_goesFar : zD := (yX5_goesFar, cX5_goesFar, 3, none, 0, 0)
abbrev mdX5_comesFetched : zD := (yX5_comesFetched, cX5_comesFetched, 5, none, 3, 67)
abbrev mdX5_comesNear : zD := (yX5_comesNear, cX5_comesNear, 4, none, 2, 44)
abbrev mdX5_rowOf : zD := (yX5_rowOf, cX5_rowOf, 1, (some .int), 0, 0)
abbrev mdX5_makesRoom : zD := (yX5_makesRoom, cX5_makesRoom, 3, none, 1, 22)
abbrev mdX5_halfLong : zD := (yX5_halfLong, cX5_halfLong, 1, (some .int), 0, 0)
abbrev mdX5_laysIn : zD := (yX5_laysIn, cX5_laysIn, 4, none, 0, 0)
abbrev mdX5_getsItem : zD := (yX5_getsItem, cX5_getsItem, 6, none, 0, 0)
abbrev mdX5_beginsNow : zD := (yX5_beginsNow, cX5_beginsNow, 5, (some .boolean), 3, 67)
abbrev mdX5_counts : zD := (yX5_counts, cX5_counts, 5, none, 1, 20)
abbrev mdX5_does : zD := (yX5_does, cX5_does, 6, none, 1, 25)
abbrev mdX5_numberOf : zD := (yX5_numberOf, cX5_numberOf, 3, (some .int), 0, 0)
abbrev mdX5_counted : zD := (yX5_counted, cX5_counted, 3, none, 0, 0)
abbrev mdX5_asks : zD := (yX5_asks, cX5_asks, 6, none, 1, 22)
abbrev mdX5_store : zD := (yX5_store, cX5_store, 4, (some .int), 7, 157)
abbrev mdX5_fence : zD := (yX5_fence, cX5_fence, 1, (some .int), 7, 157)
abbrev mdX5_ticks : zD := (yX5_ticks, cX5_ticks, 4, (some .int), 6, 133)
abbrev mdX5_draw : zD := (yX5_draw, cX5_draw, 8, (some .int), 7, 157)
abbrev mdX5_got : zD := (yX5_got, cX5_got, 3, (some .int), 1, 22)
abbrev mdX5_often : zD := (yX5_often, cX5_often, 2, (some .int), 1, 22)
abbrev mdX5_where : zD := (yX5_where, cX5_where, 2, (some .int), 2, 42)
abbrev mdX5_item : zD := (yX5_item, cX5_item, 5, (some .int), 2, 42)
abbrev mdX5_atLast : zD := (yX5_atLast, cX5_atLast, 6, (some .int), 0, 0)
abbrev mdX5_place : zD := (yX5_place, cX5_place, 3, (some .int), 1, 22)
abbrev mdX5_fetch : zD := (yX5_fetch, cX5_fetch, 4, (some .int), 1, 22)
abbrev mdX5_cost : zD := (yX5_cost, cX5_cost, 2, (some .int), 2, 44)
abbrev mdX5_costBy : zD := (yX5_costBy, cX5_costBy, 2, (some .float), 0, 0)
abbrev mdJxf58ca_floatToIntBits_5c35a : zD := (yJxf58ca_floatToIntBits_5c35a, cJxf58ca_floatToIntBits_5c35a, 1, (some .int), 1, 24)
abbrev mdJxf58ca_isNaN_12338 : zD := (yJxf58ca_isNaN_12338, cJxf58ca_isNaN_12338, 1, (some .boolean), 0, 0)
abbrev mdX5_even : zD := (yX5_even, cX5_even, 5, (some .long), 2, 45)
abbrev mdJxe99ae_doubleToLongBits_ccdee : zD := (yJxe99ae_doubleToLongBits_ccdee, cJxe99ae_doubleToLongBits_ccdee, 2, (some .long), 1, 24)
abbrev mdJxe99ae_isNaN_b9ae7 : zD := (yJxe99ae_isNaN_b9ae7, cJxe99ae_isNaN_b9ae7, 2, (some .boolean), 0, 0)
abbrev mdX5_type : zD := (yX5_type, cX5_type, 2, (some .int), 1, 22)
abbrev mdX5_clear : zD := (yX5_clear, cX5_clear, 2, (some .int), 0, 0)
abbrev mdX5_runs : zD := (yX5_runs, cX5_runs, 3, (some .int), 10, 227)
abbrev mdX5_goesThrough : zD := (yX5_goesThrough, cX5_goesThrough, 2, (some .int), 9, 206)
abbrev mdX5_skips : zD := (yX5_skips, cX5_skips, 1, none, 1, 20)
abbrev mdX5_here : zD := (yX5_here, cX5_here, 1, (some .int), 0, 0)
abbrev mdX5_readsOrder : zD := (yX5_readsOrder, cX5_readsOrder, 5, (some .boolean), 8, 182)
abbrev mdX5_readsBox : zD := (yX5_readsBox, cX5_readsBox, 6, (some .boolean), 7, 157)
abbrev mdX5_number : zD := (yX5_number, cX5_number, 3, (some .boolean), 2, 40)
abbrev mdX5_ends : zD := (yX5_ends, cX5_ends, 1, (some .boolean), 2, 40)
abbrev mdX5_best : zD := (yX5_best, cX5_best, 7, (some .int), 11, 248)
abbrev mdX5_ticksBy : zD := (yX5_ticksBy, cX5_ticksBy, 2, (some .int), 10, 227)
abbrev mdX5_told : zD := (yX5_told, cX5_told, 2, (some .int), 1, 22)
abbrev mdX5_toldBy : zD := (yX5_toldBy, cX5_toldBy, 2, (some .int), 0, 0)
abbrev mdX5_digest : zD := (yX5_digest, cX5_digest, 4, (some .long), 3, 69)
abbrev mdL_law : zD := (yL_law, cL_law, 4, (some .boolean), 12, 274)
theorem cb_X4_init : (plainFor (z_y mdX4_init) = true ∧ (Cond.code (z_y mdX4_init) (z_cc mdX4_init) (z_nl mdX4_init) (z_rt mdX4_init)) ∈ lw_tbl ∧ (Cond.initialized (z_y mdX4_init).cls) ∈ lw_tbl) ∧ ((z_y mdX4_init).cls ≠ "java/lang/invoke/MethodHandle" ∧ (z_y mdX4_init).cls ≠ "java/lang/invoke/VarHandle" ∧ (parseMethodDescriptor (z_y mdX4_init).desc).map (fun q => q.parameters.length) = some 0) := ⟨⟨by decide +kernel, List.mem_of_getElem? (i := 91) (by decide +kernel), List.mem_of_getElem? (i := 77) (by decide +kernel)⟩, by decide +kernel, by decide +kernel, by decide +kernel⟩
theorem ci_X4_init : Cond.instanceMethod (z_y mdX4_init) ∈ lw_tbl := List.mem_of_getElem? (i := 90) (by decide +kernel)
theorem cb_X2_init : (plainFor (z_y mdX2_init) = true ∧ (Cond.code (z_y mdX2_init) (z_cc mdX2_init) (z_nl mdX2_init) (z_rt mdX2_init)) ∈ lw_tbl ∧ (Cond.initialized (z_y mdX2_init).cls) ∈ lw_tbl) ∧ ((z_y mdX2_init).cls ≠ "java/lang/invoke/MethodHandle" ∧ (z_y mdX2_init).cls ≠ "java/lang/invoke/VarHandle" ∧ (parseMethodDescriptor (z_y mdX2_init).desc).map (fun q => q.parameters.length) = some 0) := ⟨⟨by decide +kernel, List.mem_of_getElem? (i := 99) (by decide +kernel), List.mem_of_getElem? (i := 78) (by decide +kernel)⟩, by decide +kernel, by decide +kernel, by decide +kernel⟩
theorem ci_X2_init : Cond.instanceMethod (z_y mdX2_init) ∈ lw_tbl := List.mem_of_getElem? (i := 98) (by decide +kernel)
theorem cb_X0_init : (plainFor (z_y mdX0_init) = true ∧ (Cond.code (z_y mdX0_init) (z_cc mdX0_init) (z_nl mdX0_init) (z_rt mdX0_init)) ∈ lw_tbl ∧ (Cond.initialized (z_y mdX0_init).cls) ∈ lw_tbl) ∧ ((z_y mdX0_init).cls ≠ "java/lang/invoke/MethodHandle" ∧ (z_y mdX0_init).cls ≠ "java/lang/invoke/VarHandle" ∧ (parseMethodDescriptor (z_y mdX0_init).desc).map (fun q => q.parameters.length) = some 1) := ⟨⟨by decide +kernel, List.mem_of_getElem? (i := 111) (by decide +kernel), List.mem_of_getElem? (i := 80) (by decide +kernel)⟩, by decide +kernel, by decide +kernel, by decide +kernel⟩
theorem ci_X0_init : Cond.instanceMethod (z_y mdX0_init) ∈ lw_tbl := List.mem_of_getElem? (i := 110) (by decide +kernel)
theorem cb_X1_init : (plainFor (z_y mdX1_init) = true ∧ (Cond.code (z_y mdX1_init) (z_cc mdX1_init) (z_nl mdX1_init) (z_rt mdX1_init)) ∈ lw_tbl ∧ (Cond.initialized (z_y mdX1_init).cls) ∈ lw_tbl) ∧ ((z_y mdX1_init).cls ≠ "java/lang/invoke/MethodHandle" ∧ (z_y mdX1_init).cls ≠ "java/lang/invoke/VarHandle" ∧ (parseMethodDescriptor (z_y mdX1_init).desc).map (fun q => q.parameters.length) = some 0) := ⟨⟨by decide +kernel, List.mem_of_getElem? (i := 170) (by decide +kernel), List.mem_of_getElem? (i := 81) (by decide +kernel)⟩, by decide +kernel, by decide +kernel, by decide +kernel⟩
theorem ci_X1_init : Cond.instanceMethod (z_y mdX1_init) ∈ lw_tbl := List.mem_of_getElem? (i := 169) (by decide +kernel)
theorem cb_X2_renew : (plainFor (z_y mdX2_renew) = true ∧ (Cond.code (z_y mdX2_renew) (z_cc mdX2_renew) (z_nl mdX2_renew) (z_rt mdX2_renew)) ∈ lw_tbl ∧ (Cond.initialized (z_y mdX2_renew).cls) ∈ lw_tbl) ∧ ((z_y mdX2_renew).cls ≠ "java/lang/invoke/MethodHandle" ∧ (z_y mdX2_renew).cls ≠ "java/lang/invoke/VarHandle" ∧ (parseMethodDescriptor (z_y mdX2_renew).desc).map (fun q => q.parameters.length) = some 0) := ⟨⟨by decide +kernel, List.mem_of_getElem? (i := 205) (by decide +kernel), List.mem_of_getElem? (i := 78) (by decide +kernel)⟩, by decide +kernel, by decide +kernel, by decide +kernel⟩
theorem ci_X2_renew : Cond.instanceMethod (z_y mdX2_renew) ∈ lw_tbl := List.mem_of_getElem? (i := 204) (by decide +kernel)
theorem cv_X2_renew : Cond.selects (z_y mdX2_renew).cls (z_y mdX2_renew) (z_y mdX2_renew) ∈ lw_tbl := List.mem_of_getElem? (i := 0) (by decide +kernel)
theorem cb_X0_renew : (plainFor (z_y mdX0_renew) = true ∧ (Cond.code (z_y mdX0_renew) (z_cc mdX0_renew) (z_nl mdX0_renew) (z_rt mdX0_renew)) ∈ lw_tbl ∧ (Cond.initialized (z_y mdX0_renew).cls) ∈ lw_tbl) ∧ ((z_y mdX0_renew).cls ≠ "java/lang/invoke/MethodHandle" ∧ (z_y mdX0_renew).cls ≠ "java/lang/invoke/VarHandle" ∧ (parseMethodDescriptor (z_y mdX0_renew).desc).map (fun q => q.parameters.length) = some 0) := ⟨⟨by decide +kernel, List.mem_of_getElem? (i := 209) (by decide +kernel), List.mem_of_getElem? (i := 80) (by decide +kernel)⟩, by decide +kernel, by decide +kernel, by decide +kernel⟩
theorem ci_X0_renew : Cond.instanceMethod (z_y mdX0_renew) ∈ lw_tbl := List.mem_of_getElem? (i := 208) (by decide +kernel)
theorem cv_X0_renew : Cond.selects (z_y mdX0_renew).cls (z_y mdX0_renew) (z_y mdX0_renew) ∈ lw_tbl := List.mem_of_getElem? (i := 1) (by decide +kernel)
theorem cb_X1_renew : (plainFor (z_y mdX1_renew) = true ∧ (Cond.code (z_y mdX1_renew) (z_cc mdX1_renew) (z_nl mdX1_renew) (z_rt mdX1_renew)) ∈ lw_tbl ∧ (Cond.initialized (z_y mdX1_renew).cls) ∈ lw_tbl) ∧ ((z_y mdX1_renew).cls ≠ "java/lang/invoke/MethodHandle" ∧ (z_y mdX1_renew).cls ≠ "java/lang/invoke/VarHandle" ∧ (parseMethodDescriptor (z_y mdX1_renew).desc).map (fun q => q.parameters.length) = some 0) := ⟨⟨by decide +kernel, List.mem_of_getElem? (i := 214) (by decide +kernel), List.mem_of_getElem? (i := 81) (by decide +kernel)⟩, by decide +kernel, by decide +kernel, by decide +kernel⟩
theorem ci_X1_renew : Cond.instanceMethod (z_y mdX1_renew) ∈ lw_tbl := List.mem_of_getElem? (i := 213) (by decide +kernel)
theorem cv_X1_renew : Cond.selects (z_y mdX1_renew).cls (z_y mdX1_renew) (z_y mdX1_renew) ∈ lw_tbl := List.mem_of_getElem? (i := 2) (by decide +kernel)
theorem cb_X3_init : (plainFor (z_y mdX3_init) = true ∧ (Cond.code (z_y mdX3_init) (z_cc mdX3_init) (z_nl mdX3_init) (z_rt mdX3_init)) ∈ lw_tbl ∧ (Cond.initialized (z_y mdX3_init).cls) ∈ lw_tbl) ∧ ((z_y mdX3_init).cls ≠ "java/lang/invoke/MethodHandle" ∧ (z_y mdX3_init).cls ≠ "java/lang/invoke/VarHandle" ∧ (parseMethodDescriptor (z_y mdX3_init).desc).map (fun q => q.parameters.length) = some 0) := ⟨⟨by decide +kernel, List.mem_of_getElem? (i := 254) (by decide +kernel), List.mem_of_getElem? (i := 82) (by decide +kernel)⟩, by decide +kernel, by decide +kernel, by decide +kernel⟩
theorem ci_X3_init : Cond.instanceMethod (z_y mdX3_init) ∈ lw_tbl := List.mem_of_getElem? (i := 253) (by decide +kernel)
theorem cb_X4_sets : (plainFor (z_y mdX4_sets) = true ∧ (Cond.code (z_y mdX4_sets) (z_cc mdX4_sets) (z_nl mdX4_sets) (z_rt mdX4_sets)) ∈ lw_tbl ∧ (Cond.initialized (z_y mdX4_sets).cls) ∈ lw_tbl) ∧ ((z_y mdX4_sets).cls ≠ "java/lang/invoke/MethodHandle" ∧ (z_y mdX4_sets).cls ≠ "java/lang/invoke/VarHandle" ∧ (parseMethodDescriptor (z_y mdX4_sets).desc).map (fun q => q.parameters.length) = some 2) := ⟨⟨by decide +kernel, List.mem_of_getElem? (i := 312) (by decide +kernel), List.mem_of_getElem? (i := 77) (by decide +kernel)⟩, by decide +kernel, by decide +kernel, by decide +kernel⟩
theorem ci_X4_sets : Cond.instanceMethod (z_y mdX4_sets) ∈ lw_tbl := List.mem_of_getElem? (i := 310) (by decide +kernel)
theorem cv_X4_sets : Cond.selects (z_y mdX4_sets).cls (z_y mdX4_sets) (z_y mdX4_sets) ∈ lw_tbl := List.mem_of_getElem? (i := 311) (by decide +kernel)
theorem cb_X4_refuse : (plainFor (z_y mdX4_refuse) = true ∧ (Cond.code (z_y mdX4_refuse) (z_cc mdX4_refuse) (z_nl mdX4_refuse) (z_rt mdX4_refuse)) ∈ lw_tbl ∧ (Cond.initialized (z_y mdX4_refuse).cls) ∈ lw_tbl) ∧ ((z_y mdX4_refuse).cls ≠ "java/lang/invoke/MethodHandle" ∧ (z_y mdX4_refuse).cls ≠ "java/lang/invoke/VarHandle" ∧ (parseMethodDescriptor (z_y mdX4_refuse).desc).map (fun q => q.parameters.length) = some 1) := ⟨⟨by decide +kernel, List.mem_of_getElem? (i := 320) (by decide +kernel), List.mem_of_getElem? (i := 77) (by decide +kernel)⟩, by decide +kernel, by decide +kernel, by decide +kernel⟩
theorem ci_X4_refuse : Cond.instanceMethod (z_y mdX4_refuse) ∈ lw_tbl := List.mem_of_getElem? (i := 319) (by decide +kernel)
theorem cv_X4_refuse : Cond.selects (z_y mdX4_refuse).cls (z_y mdX4_refuse) (z_y mdX4_refuse) ∈ lw_tbl := List.mem_of_getElem? (i := 3) (by decide +kernel)
theorem cb_X4_keep : (plainFor (z_y mdX4_keep) = true ∧ (Cond.code (z_y mdX4_keep) (z_cc mdX4_keep) (z_nl mdX4_keep) (z_rt mdX4_keep)) ∈ lw_tbl ∧ (Cond.initialized (z_y mdX4_keep).cls) ∈ lw_tbl) ∧ ((z_y mdX4_keep).cls ≠ "java/lang/invoke/MethodHandle" ∧ (z_y mdX4_keep).cls ≠ "java/lang/invoke/VarHandle" ∧ (parseMethodDescriptor (z_y mdX4_keep).desc).map (fun q => q.parameters.length) = some 0) := ⟨⟨by decide +kernel, List.mem_of_getElem? (i := 324) (by decide +kernel), List.mem_of_getElem? (i := 77) (by decide +kernel)⟩, by decide +kernel, by decide +kernel, by decide +kernel⟩
theorem ci_X4_keep : Cond.instanceMethod (z_y mdX4_keep) ∈ lw_tbl := List.mem_of_getElem? (i := 323) (by decide +kernel)
theorem cv_X4_keep : Cond.selects (z_y mdX4_keep).cls (z_y mdX4_keep) (z_y mdX4_keep) ∈ lw_tbl := List.mem_of_getElem? (i := 4) (by decide +kernel)
theorem cb_X2_become : (plainFor (z_y mdX2_become) = true ∧ (Cond.code (z_y mdX2_become) (z_cc mdX2_become) (z_nl mdX2_become) (z_rt mdX2_become)) ∈ lw_tbl ∧ (Cond.initialized (z_y mdX2_become).cls) ∈ lw_tbl) ∧ ((z_y mdX2_become).cls ≠ "java/lang/invoke/MethodHandle" ∧ (z_y mdX2_become).cls ≠ "java/lang/invoke/VarHandle" ∧ (parseMethodDescriptor (z_y mdX2_become).desc).map (fun q => q.parameters.length) = some 1) := ⟨⟨by decide +kernel, List.mem_of_getElem? (i := 328) (by decide +kernel), List.mem_of_getElem? (i := 78) (by decide +kernel)⟩, by decide +kernel, by decide +kernel, by decide +kernel⟩
theorem ci_X2_become : Cond.instanceMethod (z_y mdX2_become) ∈ lw_tbl := List.mem_of_getElem? (i := 327) (by decide +kernel)
theorem cv_X2_become : Cond.selects (z_y mdX2_become).cls (z_y mdX2_become) (z_y mdX2_become) ∈ lw_tbl := List.mem_of_getElem? (i := 5) (by decide +kernel)
theorem cb_X0_become : (plainFor (z_y mdX0_become) = true ∧ (Cond.code (z_y mdX0_become) (z_cc mdX0_become) (z_nl mdX0_become) (z_rt mdX0_become)) ∈ lw_tbl ∧ (Cond.initialized (z_y mdX0_become).cls) ∈ lw_tbl) ∧ ((z_y mdX0_become).cls ≠ "java/lang/invoke/MethodHandle" ∧ (z_y mdX0_become).cls ≠ "java/lang/invoke/VarHandle" ∧ (parseMethodDescriptor (z_y mdX0_become).desc).map (fun q => q.parameters.length) = some 1) := ⟨⟨by decide +kernel, List.mem_of_getElem? (i := 332) (by decide +kernel), List.mem_of_getElem? (i := 80) (by decide +kernel)⟩, by decide +kernel, by decide +kernel, by decide +kernel⟩
theorem ci_X0_become : Cond.instanceMethod (z_y mdX0_become) ∈ lw_tbl := List.mem_of_getElem? (i := 331) (by decide +kernel)
theorem cv_X0_become : Cond.selects (z_y mdX0_become).cls (z_y mdX0_become) (z_y mdX0_become) ∈ lw_tbl := List.mem_of_getElem? (i := 6) (by decide +kernel)
theorem cb_X1_become : (plainFor (z_y mdX1_become) = true ∧ (Cond.code (z_y mdX1_become) (z_cc mdX1_become) (z_nl mdX1_become) (z_rt mdX1_become)) ∈ lw_tbl ∧ (Cond.initialized (z_y mdX1_become).cls) ∈ lw_tbl) ∧ ((z_y mdX1_become).cls ≠ "java/lang/invoke/MethodHandle" ∧ (z_y mdX1_become).cls ≠ "java/lang/invoke/VarHandle" ∧ (parseMethodDescriptor (z_y mdX1_become).desc).map (fun q => q.parameters.length) = some 1) := ⟨⟨by decide +kernel, List.mem_of_getElem? (i := 337) (by decide +kernel), List.mem_of_getElem? (i := 81) (by decide +kernel)⟩, by decide +kernel, by decide +kernel, by decide +kernel⟩
theorem ci_X1_become : Cond.instanceMethod (z_y mdX1_become) ∈ lw_tbl := List.mem_of_getElem? (i := 336) (by decide +kernel)
theorem cv_X1_become : Cond.selects (z_y mdX1_become).cls (z_y mdX1_become) (z_y mdX1_become) ∈ lw_tbl := List.mem_of_getElem? (i := 7) (by decide +kernel)
theorem cb_X4_anew : (plainFor (z_y mdX4_anew) = true ∧ (Cond.code (z_y mdX4_anew) (z_cc mdX4_anew) (z_nl mdX4_anew) (z_rt mdX4_anew)) ∈ lw_tbl ∧ (Cond.initialized (z_y mdX4_anew).cls) ∈ lw_tbl) ∧ ((z_y mdX4_anew).cls ≠ "java/lang/invoke/MethodHandle" ∧ (z_y mdX4_anew).cls ≠ "java/lang/invoke/VarHandle" ∧ (parseMethodDescriptor (z_y mdX4_anew).desc).map (fun q => q.parameters.length) = some 0) := ⟨⟨by decide +kernel, List.mem_of_getElem? (i := 349) (by decide +kernel), List.mem_of_getElem? (i := 77) (by decide +kernel)⟩, by decide +kernel, by decide +kernel, by decide +kernel⟩
theorem ci_X4_anew : Cond.instanceMethod (z_y mdX4_anew) ∈ lw_tbl := List.mem_of_getElem? (i := 347) (by decide +kernel)
theorem cv_X4_anew : Cond.selects (z_y mdX4_anew).cls (z_y mdX4_anew) (z_y mdX4_anew) ∈ lw_tbl := List.mem_of_getElem? (i := 348) (by decide +kernel)
theorem cb_X4_load : (plainFor (z_y mdX4_load) = true ∧ (Cond.code (z_y mdX4_load) (z_cc mdX4_load) (z_nl mdX4_load) (z_rt mdX4_load)) ∈ lw_tbl ∧ (Cond.initialized (z_y mdX4_load).cls) ∈ lw_tbl) ∧ ((z_y mdX4_load).cls ≠ "java/lang/invoke/MethodHandle" ∧ (z_y mdX4_load).cls ≠ "java/lang/invoke/VarHandle" ∧ (parseMethodDescriptor (z_y mdX4_load).desc).map (fun q => q.parameters.length) = some 2) := ⟨⟨by decide +kernel, List.mem_of_getElem? (i := 353) (by decide +kernel), List.mem_of_getElem? (i := 77) (by decide +kernel)⟩, by decide +kernel, by decide +kernel, by decide +kernel⟩
theorem ci_X4_load : Cond.instanceMethod (z_y mdX4_load) ∈ lw_tbl := List.mem_of_getElem? (i := 351) (by decide +kernel)
theorem cv_X4_load : Cond.selects (z_y mdX4_load).cls (z_y mdX4_load) (z_y mdX4_load) ∈ lw_tbl := List.mem_of_getElem? (i := 352) (by decide +kernel)
theorem cb_X4_isBox : (plainFor (z_y mdX4_isBox) = true ∧ (Cond.code (z_y mdX4_isBox) (z_cc mdX4_isBox) (z_nl mdX4_isBox) (z_rt mdX4_isBox)) ∈ lw_tbl ∧ (Cond.initialized (z_y mdX4_isBox).cls) ∈ lw_tbl) ∧ ((z_y mdX4_isBox).cls ≠ "java/lang/invoke/MethodHandle" ∧ (z_y mdX4_isBox).cls ≠ "java/lang/invoke/VarHandle" ∧ (parseMethodDescriptor (z_y mdX4_isBox).desc).map (fun q => q.parameters.length) = some 1) := ⟨⟨by decide +kernel, List.mem_of_getElem? (i := 356) (by decide +kernel), List.mem_of_getElem? (i := 77) (by decide +kernel)⟩, by decide +kernel, by decide +kernel, by decide +kernel⟩
theorem cs_X4_isBox : Cond.static (z_y mdX4_isBox) ∈ lw_tbl := List.mem_of_getElem? (i := 355) (by decide +kernel)
theorem cb_X4_isItem : (plainFor (z_y mdX4_isItem) = true ∧ (Cond.code (z_y mdX4_isItem) (z_cc mdX4_isItem) (z_nl mdX4_isItem) (z_rt mdX4_isItem)) ∈ lw_tbl ∧ (Cond.initialized (z_y mdX4_isItem).cls) ∈ lw_tbl) ∧ ((z_y mdX4_isItem).cls ≠ "java/lang/invoke/MethodHandle" ∧ (z_y mdX4_isItem).cls ≠ "java/lang/invoke/VarHandle" ∧ (parseMethodDescriptor (z_y mdX4_isItem).desc).map (fun q => q.parameters.length) = some 1) := ⟨⟨by decide +kernel, List.mem_of_getElem? (i := 359) (by decide +kernel), List.mem_of_getElem? (i := 77) (by decide +kernel)⟩, by decide +kernel, by decide +kernel, by decide +kernel⟩
theorem cs_X4_isItem : Cond.static (z_y mdX4_isItem) ∈ lw_tbl := List.mem_of_getElem? (i := 358) (by decide +kernel)
theorem cb_X2_begin : (plainFor (z_y mdX2_begin) = true ∧ (Cond.code (z_y mdX2_begin) (z_cc mdX2_begin) (z_nl mdX2_begin) (z_rt mdX2_begin)) ∈ lw_tbl ∧ (Cond.initialized (z_y mdX2_begin).cls) ∈ lw_tbl) ∧ ((z_y mdX2_begin).cls ≠ "java/lang/invoke/MethodHandle" ∧ (z_y mdX2_begin).cls ≠ "java/lang/invoke/VarHandle" ∧ (parseMethodDescriptor (z_y mdX2_begin).desc).map (fun q => q.parameters.length) = some 3) := ⟨⟨by decide +kernel, List.mem_of_getElem? (i := 363) (by decide +kernel), List.mem_of_getElem? (i := 78) (by decide +kernel)⟩, by decide +kernel, by decide +kernel, by decide +kernel⟩
theorem ci_X2_begin : Cond.instanceMethod (z_y mdX2_begin) ∈ lw_tbl := List.mem_of_getElem? (i := 362) (by decide +kernel)
theorem cv_X2_begin : Cond.selects (z_y mdX2_begin).cls (z_y mdX2_begin) (z_y mdX2_begin) ∈ lw_tbl := List.mem_of_getElem? (i := 8) (by decide +kernel)
theorem cb_X2_pass : (plainFor (z_y mdX2_pass) = true ∧ (Cond.code (z_y mdX2_pass) (z_cc mdX2_pass) (z_nl mdX2_pass) (z_rt mdX2_pass)) ∈ lw_tbl ∧ (Cond.initialized (z_y mdX2_pass).cls) ∈ lw_tbl) ∧ ((z_y mdX2_pass).cls ≠ "java/lang/invoke/MethodHandle" ∧ (z_y mdX2_pass).cls ≠ "java/lang/invoke/VarHandle" ∧ (parseMethodDescriptor (z_y mdX2_pass).desc).map (fun q => q.parameters.length) = some 0) := ⟨⟨by decide +kernel, List.mem_of_getElem? (i := 367) (by decide +kernel), List.mem_of_getElem? (i := 78) (by decide +kernel)⟩, by decide +kernel, by decide +kernel, by decide +kernel⟩
theorem ci_X2_pass : Cond.instanceMethod (z_y mdX2_pass) ∈ lw_tbl := List.mem_of_getElem? (i := 366) (by decide +kernel)
theorem cv_X2_pass : Cond.selects (z_y mdX2_pass).cls (z_y mdX2_pass) (z_y mdX2_pass) ∈ lw_tbl := List.mem_of_getElem? (i := 9) (by decide +kernel)
theorem cb_X0_goFar : (plainFor (z_y mdX0_goFar) = true ∧ (Cond.code (z_y mdX0_goFar) (z_cc mdX0_goFar) (z_nl mdX0_goFar) (z_rt mdX0_goFar)) ∈ lw_tbl ∧ (Cond.initialized (z_y mdX0_goFar).cls) ∈ lw_tbl) ∧ ((z_y mdX0_goFar).cls ≠ "java/lang/invoke/MethodHandle" ∧ (z_y mdX0_goFar).cls ≠ "java/lang/invoke/VarHandle" ∧ (parseMethodDescriptor (z_y mdX0_goFar).desc).map (fun q => q.parameters.length) = some 0) := ⟨⟨by decide +kernel, List.mem_of_getElem? (i := 371) (by decide +kernel), List.mem_of_getElem? (i := 80) (by decide +kernel)⟩, by decide +kernel, by decide +kernel, by decide +kernel⟩
theorem ci_X0_goFar : Cond.instanceMethod (z_y mdX0_goFar) ∈ lw_tbl := List.mem_of_getElem? (i := 370) (by decide +kernel)
theorem cv_X0_goFar : Cond.selects (z_y mdX0_goFar).cls (z_y mdX0_goFar) (z_y mdX0_goFar) ∈ lw_tbl := List.mem_of_getElem? (i := 10) (by decide +kernel)
theorem cb_X2_tally : (plainFor (z_y mdX2_tally) = true ∧ (Cond.code (z_y mdX2_tally) (z_cc mdX2_tally) (z_nl mdX2_tally) (z_rt mdX2_tally)) ∈ lw_tbl ∧ (Cond.initialized (z_y mdX2_tally).cls) ∈ lw_tbl) ∧ ((z_y mdX2_tally).cls ≠ "java/lang/invoke/MethodHandle" ∧ (z_y mdX2_tally).cls ≠ "java/lang/invoke/VarHandle" ∧ (parseMethodDescriptor (z_y mdX2_tally).desc).map (fun q => q.parameters.length) = some 2) := ⟨⟨by decide +kernel, List.mem_of_getElem? (i := 376) (by decide +kernel), List.mem_of_getElem? (i := 78) (by decide +kernel)⟩, by decide +kernel, by decide +kernel, by decide +kernel⟩
theorem ci_X2_tally : Cond.instanceMethod (z_y mdX2_tally) ∈ lw_tbl := List.mem_of_getElem? (i := 375) (by decide +kernel)
theorem cv_X2_tally : Cond.selects (z_y mdX2_tally).cls (z_y mdX2_tally) (z_y mdX2_tally) ∈ lw_tbl := List.mem_of_getElem? (i := 11) (by decide +kernel)
theorem cb_X2_come : (plainFor (z_y mdX2_come) = true ∧ (Cond.code (z_y mdX2_come) (z_cc mdX2_come) (z_nl mdX2_come) (z_rt mdX2_come)) ∈ lw_tbl ∧ (Cond.initialized (z_y mdX2_come).cls) ∈ lw_tbl) ∧ ((z_y mdX2_come).cls ≠ "java/lang/invoke/MethodHandle" ∧ (z_y mdX2_come).cls ≠ "java/lang/invoke/VarHandle" ∧ (parseMethodDescriptor (z_y mdX2_come).desc).map (fun q => q.parameters.length) = some 1) := ⟨⟨by decide +kernel, List.mem_of_getElem? (i := 380) (by decide +kernel), List.mem_of_getElem? (i := 78) (by decide +kernel)⟩, by decide +kernel, by decide +kernel, by decide +kernel⟩
theorem ci_X2_come : Cond.instanceMethod (z_y mdX2_come) ∈ lw_tbl := List.mem_of_getElem? (i := 379) (by decide +kernel)
theorem cv_X2_come : Cond.selects (z_y mdX2_come).cls (z_y mdX2_come) (z_y mdX2_come) ∈ lw_tbl := List.mem_of_getElem? (i := 12) (by decide +kernel)
theorem cb_X0_takeFromFar : (plainFor (z_y mdX0_takeFromFar) = true ∧ (Cond.code (z_y mdX0_takeFromFar) (z_cc mdX0_takeFromFar) (z_nl mdX0_takeFromFar) (z_rt mdX0_takeFromFar)) ∈ lw_tbl ∧ (Cond.initialized (z_y mdX0_takeFromFar).cls) ∈ lw_tbl) ∧ ((z_y mdX0_takeFromFar).cls ≠ "java/lang/invoke/MethodHandle" ∧ (z_y mdX0_takeFromFar).cls ≠ "java/lang/invoke/VarHandle" ∧ (parseMethodDescriptor (z_y mdX0_takeFromFar).desc).map (fun q => q.parameters.length) = some 0) := ⟨⟨by decide +kernel, List.mem_of_getElem? (i := 384) (by decide +kernel), List.mem_of_getElem? (i := 80) (by decide +kernel)⟩, by decide +kernel, by decide +kernel, by decide +kernel⟩
theorem ci_X0_takeFromFar : Cond.instanceMethod (z_y mdX0_takeFromFar) ∈ lw_tbl := List.mem_of_getElem? (i := 383) (by decide +kernel)
theorem cv_X0_takeFromFar : Cond.selects (z_y mdX0_takeFromFar).cls (z_y mdX0_takeFromFar) (z_y mdX0_takeFromFar) ∈ lw_tbl := List.mem_of_getElem? (i := 13) (by decide +kernel)
theorem cb_X2_settle : (plainFor (z_y mdX2_settle) = true ∧ (Cond.code (z_y mdX2_settle) (z_cc mdX2_settle) (z_nl mdX2_settle) (z_rt mdX2_settle)) ∈ lw_tbl ∧ (Cond.initialized (z_y mdX2_settle).cls) ∈ lw_tbl) ∧ ((z_y mdX2_settle).cls ≠ "java/lang/invoke/MethodHandle" ∧ (z_y mdX2_settle).cls ≠ "java/lang/invoke/VarHandle" ∧ (parseMethodDescriptor (z_y mdX2_settle).desc).map (fun q => q.parameters.length) = some 1) := ⟨⟨by decide +kernel, List.mem_of_getElem? (i := 388) (by decide +kernel), List.mem_of_getElem? (i := 78) (by decide +kernel)⟩, by decide +kernel, by decide +kernel, by decide +kernel⟩
theorem ci_X2_settle : Cond.instanceMethod (z_y mdX2_settle) ∈ lw_tbl := List.mem_of_getElem? (i := 387) (by decide +kernel)
theorem cv_X2_settle : Cond.selects (z_y mdX2_settle).cls (z_y mdX2_settle) (z_y mdX2_settle) ∈ lw_tbl := List.mem_of_getElem? (i := 14) (by decide +kernel)
theorem cb_X2_whoMustGo : (plainFor (z_y mdX2_whoMustGo) = true ∧ (Cond.code (z_y mdX2_whoMustGo) (z_cc mdX2_whoMustGo) (z_nl mdX2_whoMustGo) (z_rt mdX2_whoMustGo)) ∈ lw_tbl ∧ (Cond.initialized (z_y mdX2_whoMustGo).cls) ∈ lw_tbl) ∧ ((z_y mdX2_whoMustGo).cls ≠ "java/lang/invoke/MethodHandle" ∧ (z_y mdX2_whoMustGo).cls ≠ "java/lang/invoke/VarHandle" ∧ (parseMethodDescriptor (z_y mdX2_whoMustGo).desc).map (fun q => q.parameters.length) = some 1) := ⟨⟨by decide +kernel, List.mem_of_getElem? (i := 392) (by decide +kernel), List.mem_of_getElem? (i := 78) (by decide +kernel)⟩, by decide +kernel, by decide +kernel, by decide +kernel⟩
theorem ci_X2_whoMustGo : Cond.instanceMethod (z_y mdX2_whoMustGo) ∈ lw_tbl := List.mem_of_getElem? (i := 391) (by decide +kernel)
theorem cv_X2_whoMustGo : Cond.selects (z_y mdX2_whoMustGo).cls (z_y mdX2_whoMustGo) (z_y mdX2_whoMustGo) ∈ lw_tbl := List.mem_of_getElem? (i := 15) (by decide +kernel)
theorem cb_X2_setDue : (plainFor (z_y mdX2_setDue) = true ∧ (Cond.code (z_y mdX2_setDue) (z_cc mdX2_setDue) (z_nl mdX2_setDue) (z_rt mdX2_setDue)) ∈ lw_tbl ∧ (Cond.initialized (z_y mdX2_setDue).cls) ∈ lw_tbl) ∧ ((z_y mdX2_setDue).cls ≠ "java/lang/invoke/MethodHandle" ∧ (z_y mdX2_setDue).cls ≠ "java/lang/invoke/VarHandle" ∧ (parseMethodDescriptor (z_y mdX2_setDue).desc).map (fun q => q.parameters.length) = some 2) := ⟨⟨by decide +kernel, List.mem_of_getElem? (i := 397) (by decide +kernel), List.mem_of_getElem? (i := 78) (by decide +kernel)⟩, by decide +kernel, by decide +kernel, by decide +kernel⟩
theorem ci_X2_setDue : Cond.instanceMethod (z_y mdX2_setDue) ∈ lw_tbl := List.mem_of_getElem? (i := 396) (by decide +kernel)
theorem cv_X2_setDue : Cond.selects (z_y mdX2_setDue).cls (z_y mdX2_setDue) (z_y mdX2_setDue) ∈ lw_tbl := List.mem_of_getElem? (i := 16) (by decide +kernel)
theorem cb_X2_use : (plainFor (z_y mdX2_use) = true ∧ (Cond.code (z_y mdX2_use) (z_cc mdX2_use) (z_nl mdX2_use) (z_rt mdX2_use)) ∈ lw_tbl ∧ (Cond.initialized (z_y mdX2_use).cls) ∈ lw_tbl) ∧ ((z_y mdX2_use).cls ≠ "java/lang/invoke/MethodHandle" ∧ (z_y mdX2_use).cls ≠ "java/lang/invoke/VarHandle" ∧ (parseMethodDescriptor (z_y mdX2_use).desc).map (fun q => q.parameters.length) = some 1) := ⟨⟨by decide +kernel, List.mem_of_getElem? (i := 401) (by decide +kernel), List.mem_of_getElem? (i := 78) (by decide +kernel)⟩, by decide +kernel, by decide +kernel, by decide +kernel⟩
theorem ci_X2_use : Cond.instanceMethod (z_y mdX2_use) ∈ lw_tbl := List.mem_of_getElem? (i := 400) (by decide +kernel)
theorem cv_X2_use : Cond.selects (z_y mdX2_use).cls (z_y mdX2_use) (z_y mdX2_use) ∈ lw_tbl := List.mem_of_getElem? (i := 17) (by decide +kernel)
theorem cb_X2_serve : (plainFor (z_y mdX2_serve) = true ∧ (Cond.code (z_y mdX2_serve) (z_cc mdX2_serve) (z_nl mdX2_serve) (z_rt mdX2_serve)) ∈ lw_tbl ∧ (Cond.initialized (z_y mdX2_serve).cls) ∈ lw_tbl) ∧ ((z_y mdX2_serve).cls ≠ "java/lang/invoke/MethodHandle" ∧ (z_y mdX2_serve).cls ≠ "java/lang/invoke/VarHandle" ∧ (parseMethodDescriptor (z_y mdX2_serve).desc).map (fun q => q.parameters.length) = some 5) := ⟨⟨by decide +kernel, List.mem_of_getElem? (i := 405) (by decide +kernel), List.mem_of_getElem? (i := 78) (by decide +kernel)⟩, by decide +kernel, by decide +kernel, by decide +kernel⟩
theorem ci_X2_serve : Cond.instanceMethod (z_y mdX2_serve) ∈ lw_tbl := List.mem_of_getElem? (i := 404) (by decide +kernel)
theorem cv_X2_serve : Cond.selects (z_y mdX2_serve).cls (z_y mdX2_serve) (z_y mdX2_serve) ∈ lw_tbl := List.mem_of_getElem? (i := 18) (by decide +kernel)
theorem cb_X0_valueAtLast : (plainFor (z_y mdX0_valueAtLast) = true ∧ (Cond.code (z_y mdX0_valueAtLast) (z_cc mdX0_valueAtLast) (z_nl mdX0_valueAtLast) (z_rt mdX0_valueAtLast)) ∈ lw_tbl ∧ (Cond.initialized (z_y mdX0_valueAtLast).cls) ∈ lw_tbl) ∧ ((z_y mdX0_valueAtLast).cls ≠ "java/lang/invoke/MethodHandle" ∧ (z_y mdX0_valueAtLast).cls ≠ "java/lang/invoke/VarHandle" ∧ (parseMethodDescriptor (z_y mdX0_valueAtLast).desc).map (fun q => q.parameters.length) = some 1) := ⟨⟨by decide +kernel, List.mem_of_getElem? (i := 409) (by decide +kernel), List.mem_of_getElem? (i := 80) (by decide +kernel)⟩, by decide +kernel, by decide +kernel, by decide +kernel⟩
theorem ci_X0_valueAtLast : Cond.instanceMethod (z_y mdX0_valueAtLast) ∈ lw_tbl := List.mem_of_getElem? (i := 408) (by decide +kernel)
theorem cv_X0_valueAtLast : Cond.selects (z_y mdX0_valueAtLast).cls (z_y mdX0_valueAtLast) (z_y mdX0_valueAtLast) ∈ lw_tbl := List.mem_of_getElem? (i := 19) (by decide +kernel)
theorem cb_X1_answer : (plainFor (z_y mdX1_answer) = true ∧ (Cond.code (z_y mdX1_answer) (z_cc mdX1_answer) (z_nl mdX1_answer) (z_rt mdX1_answer)) ∈ lw_tbl ∧ (Cond.initialized (z_y mdX1_answer).cls) ∈ lw_tbl) ∧ ((z_y mdX1_answer).cls ≠ "java/lang/invoke/MethodHandle" ∧ (z_y mdX1_answer).cls ≠ "java/lang/invoke/VarHandle" ∧ (parseMethodDescriptor (z_y mdX1_answer).desc).map (fun q => q.parameters.length) = some 3) := ⟨⟨by decide +kernel, List.mem_of_getElem? (i := 413) (by decide +kernel), List.mem_of_getElem? (i := 81) (by decide +kernel)⟩, by decide +kernel, by decide +kernel, by decide +kernel⟩
theorem ci_X1_answer : Cond.instanceMethod (z_y mdX1_answer) ∈ lw_tbl := List.mem_of_getElem? (i := 412) (by decide +kernel)
theorem cv_X1_answer : Cond.selects (z_y mdX1_answer).cls (z_y mdX1_answer) (z_y mdX1_answer) ∈ lw_tbl := List.mem_of_getElem? (i := 20) (by decide +kernel)
theorem cb_X0_layIn : (plainFor (z_y mdX0_layIn) = true ∧ (Cond.code (z_y mdX0_layIn) (z_cc mdX0_layIn) (z_nl mdX0_layIn) (z_rt mdX0_layIn)) ∈ lw_tbl ∧ (Cond.initialized (z_y mdX0_layIn).cls) ∈ lw_tbl) ∧ ((z_y mdX0_layIn).cls ≠ "java/lang/invoke/MethodHandle" ∧ (z_y mdX0_layIn).cls ≠ "java/lang/invoke/VarHandle" ∧ (parseMethodDescriptor (z_y mdX0_layIn).desc).map (fun q => q.parameters.length) = some 2) := ⟨⟨by decide +kernel, List.mem_of_getElem? (i := 417) (by decide +kernel), List.mem_of_getElem? (i := 80) (by decide +kernel)⟩, by decide +kernel, by decide +kernel, by decide +kernel⟩
theorem ci_X0_layIn : Cond.instanceMethod (z_y mdX0_layIn) ∈ lw_tbl := List.mem_of_getElem? (i := 416) (by decide +kernel)
theorem cv_X0_layIn : Cond.selects (z_y mdX0_layIn).cls (z_y mdX0_layIn) (z_y mdX0_layIn) ∈ lw_tbl := List.mem_of_getElem? (i := 21) (by decide +kernel)
theorem cb_X2_ask : (plainFor (z_y mdX2_ask) = true ∧ (Cond.code (z_y mdX2_ask) (z_cc mdX2_ask) (z_nl mdX2_ask) (z_rt mdX2_ask)) ∈ lw_tbl ∧ (Cond.initialized (z_y mdX2_ask).cls) ∈ lw_tbl) ∧ ((z_y mdX2_ask).cls ≠ "java/lang/invoke/MethodHandle" ∧ (z_y mdX2_ask).cls ≠ "java/lang/invoke/VarHandle" ∧ (parseMethodDescriptor (z_y mdX2_ask).desc).map (fun q => q.parameters.length) = some 3) := ⟨⟨by decide +kernel, List.mem_of_getElem? (i := 422) (by decide +kernel), List.mem_of_getElem? (i := 78) (by decide +kernel)⟩, by decide +kernel, by decide +kernel, by decide +kernel⟩
theorem ci_X2_ask : Cond.instanceMethod (z_y mdX2_ask) ∈ lw_tbl := List.mem_of_getElem? (i := 421) (by decide +kernel)
theorem cv_X2_ask : Cond.selects (z_y mdX2_ask).cls (z_y mdX2_ask) (z_y mdX2_ask) ∈ lw_tbl := List.mem_of_getElem? (i := 22) (by decide +kernel)
theorem cb_X2_takeAsker : (plainFor (z_y mdX2_takeAsker) = true ∧ (Cond.code (z_y mdX2_takeAsker) (z_cc mdX2_takeAsker) (z_nl mdX2_takeAsker) (z_rt mdX2_takeAsker)) ∈ lw_tbl ∧ (Cond.initialized (z_y mdX2_takeAsker).cls) ∈ lw_tbl) ∧ ((z_y mdX2_takeAsker).cls ≠ "java/lang/invoke/MethodHandle" ∧ (z_y mdX2_takeAsker).cls ≠ "java/lang/invoke/VarHandle" ∧ (parseMethodDescriptor (z_y mdX2_takeAsker).desc).map (fun q => q.parameters.length) = some 3) := ⟨⟨by decide +kernel, List.mem_of_getElem? (i := 430) (by decide +kernel), List.mem_of_getElem? (i := 78) (by decide +kernel)⟩, by decide +kernel, by decide +kernel, by decide +kernel⟩
theorem ci_X2_takeAsker : Cond.instanceMethod (z_y mdX2_takeAsker) ∈ lw_tbl := List.mem_of_getElem? (i := 429) (by decide +kernel)
theorem cv_X2_takeAsker : Cond.selects (z_y mdX2_takeAsker).cls (z_y mdX2_takeAsker) (z_y mdX2_takeAsker) ∈ lw_tbl := List.mem_of_getElem? (i := 23) (by decide +kernel)
theorem cb_X1_add : (plainFor (z_y mdX1_add) = true ∧ (Cond.code (z_y mdX1_add) (z_cc mdX1_add) (z_nl mdX1_add) (z_rt mdX1_add)) ∈ lw_tbl ∧ (Cond.initialized (z_y mdX1_add).cls) ∈ lw_tbl) ∧ ((z_y mdX1_add).cls ≠ "java/lang/invoke/MethodHandle" ∧ (z_y mdX1_add).cls ≠ "java/lang/invoke/VarHandle" ∧ (parseMethodDescriptor (z_y mdX1_add).desc).map (fun q => q.parameters.length) = some 1) := ⟨⟨by decide +kernel, List.mem_of_getElem? (i := 434) (by decide +kernel), List.mem_of_getElem? (i := 81) (by decide +kernel)⟩, by decide +kernel, by decide +kernel, by decide +kernel⟩
theorem ci_X1_add : Cond.instanceMethod (z_y mdX1_add) ∈ lw_tbl := List.mem_of_getElem? (i := 433) (by decide +kernel)
theorem cv_X1_add : Cond.selects (z_y mdX1_add).cls (z_y mdX1_add) (z_y mdX1_add) ∈ lw_tbl := List.mem_of_getElem? (i := 24) (by decide +kernel)
theorem cb_X0_addAsker : (plainFor (z_y mdX0_addAsker) = true ∧ (Cond.code (z_y mdX0_addAsker) (z_cc mdX0_addAsker) (z_nl mdX0_addAsker) (z_rt mdX0_addAsker)) ∈ lw_tbl ∧ (Cond.initialized (z_y mdX0_addAsker).cls) ∈ lw_tbl) ∧ ((z_y mdX0_addAsker).cls ≠ "java/lang/invoke/MethodHandle" ∧ (z_y mdX0_addAsker).cls ≠ "java/lang/invoke/VarHandle" ∧ (parseMethodDescriptor (z_y mdX0_addAsker).desc).map (fun q => q.parameters.length) = some 4) := ⟨⟨by decide +kernel, List.mem_of_getElem? (i := 438) (by decide +kernel), List.mem_of_getElem? (i := 80) (by decide +kernel)⟩, by decide +kernel, by decide +kernel, by decide +kernel⟩
theorem ci_X0_addAsker : Cond.instanceMethod (z_y mdX0_addAsker) ∈ lw_tbl := List.mem_of_getElem? (i := 437) (by decide +kernel)
theorem cv_X0_addAsker : Cond.selects (z_y mdX0_addAsker).cls (z_y mdX0_addAsker) (z_y mdX0_addAsker) ∈ lw_tbl := List.mem_of_getElem? (i := 25) (by decide +kernel)
theorem cb_X4_store : (plainFor (z_y mdX4_store) = true ∧ (Cond.code (z_y mdX4_store) (z_cc mdX4_store) (z_nl mdX4_store) (z_rt mdX4_store)) ∈ lw_tbl ∧ (Cond.initialized (z_y mdX4_store).cls) ∈ lw_tbl) ∧ ((z_y mdX4_store).cls ≠ "java/lang/invoke/MethodHandle" ∧ (z_y mdX4_store).cls ≠ "java/lang/invoke/VarHandle" ∧ (parseMethodDescriptor (z_y mdX4_store).desc).map (fun q => q.parameters.length) = some 3) := ⟨⟨by decide +kernel, List.mem_of_getElem? (i := 443) (by decide +kernel), List.mem_of_getElem? (i := 77) (by decide +kernel)⟩, by decide +kernel, by decide +kernel, by decide +kernel⟩
theorem ci_X4_store : Cond.instanceMethod (z_y mdX4_store) ∈ lw_tbl := List.mem_of_getElem? (i := 441) (by decide +kernel)
theorem cv_X4_store : Cond.selects (z_y mdX4_store).cls (z_y mdX4_store) (z_y mdX4_store) ∈ lw_tbl := List.mem_of_getElem? (i := 442) (by decide +kernel)
theorem cb_X4_fence : (plainFor (z_y mdX4_fence) = true ∧ (Cond.code (z_y mdX4_fence) (z_cc mdX4_fence) (z_nl mdX4_fence) (z_rt mdX4_fence)) ∈ lw_tbl ∧ (Cond.initialized (z_y mdX4_fence).cls) ∈ lw_tbl) ∧ ((z_y mdX4_fence).cls ≠ "java/lang/invoke/MethodHandle" ∧ (z_y mdX4_fence).cls ≠ "java/lang/invoke/VarHandle" ∧ (parseMethodDescriptor (z_y mdX4_fence).desc).map (fun q => q.parameters.length) = some 0) := ⟨⟨by decide +kernel, List.mem_of_getElem? (i := 447) (by decide +kernel), List.mem_of_getElem? (i := 77) (by decide +kernel)⟩, by decide +kernel, by decide +kernel, by decide +kernel⟩
theorem ci_X4_fence : Cond.instanceMethod (z_y mdX4_fence) ∈ lw_tbl := List.mem_of_getElem? (i := 445) (by decide +kernel)
theorem cv_X4_fence : Cond.selects (z_y mdX4_fence).cls (z_y mdX4_fence) (z_y mdX4_fence) ∈ lw_tbl := List.mem_of_getElem? (i := 446) (by decide +kernel)
theorem cb_X4_ticks : (plainFor (z_y mdX4_ticks) = true ∧ (Cond.code (z_y mdX4_ticks) (z_cc mdX4_ticks) (z_nl mdX4_ticks) (z_rt mdX4_ticks)) ∈ lw_tbl ∧ (Cond.initialized (z_y mdX4_ticks).cls) ∈ lw_tbl) ∧ ((z_y mdX4_ticks).cls ≠ "java/lang/invoke/MethodHandle" ∧ (z_y mdX4_ticks).cls ≠ "java/lang/invoke/VarHandle" ∧ (parseMethodDescriptor (z_y mdX4_ticks).desc).map (fun q => q.parameters.length) = some 1) := ⟨⟨by decide +kernel, List.mem_of_getElem? (i := 451) (by decide +kernel), List.mem_of_getElem? (i := 77) (by decide +kernel)⟩, by decide +kernel, by decide +kernel, by decide +kernel⟩
theorem ci_X4_ticks : Cond.instanceMethod (z_y mdX4_ticks) ∈ lw_tbl := List.mem_of_getElem? (i := 449) (by decide +kernel)
theorem cv_X4_ticks : Cond.selects (z_y mdX4_ticks).cls (z_y mdX4_ticks) (z_y mdX4_ticks) ∈ lw_tbl := List.mem_of_getElem? (i := 450) (by decide +kernel)
theorem cb_X2_pause : (plainFor (z_y mdX2_pause) = true ∧ (Cond.code (z_y mdX2_pause) (z_cc mdX2_pause) (z_nl mdX2_pause) (z_rt mdX2_pause)) ∈ lw_tbl ∧ (Cond.initialized (z_y mdX2_pause).cls) ∈ lw_tbl) ∧ ((z_y mdX2_pause).cls ≠ "java/lang/invoke/MethodHandle" ∧ (z_y mdX2_pause).cls ≠ "java/lang/invoke/VarHandle" ∧ (parseMethodDescriptor (z_y mdX2_pause).desc).map (fun q => q.parameters.length) = some 1) := ⟨⟨by decide +kernel, List.mem_of_getElem? (i := 455) (by decide +kernel), List.mem_of_getElem? (i := 78) (by decide +kernel)⟩, by decide +kernel, by decide +kernel, by decide +kernel⟩
theorem ci_X2_pause : Cond.instanceMethod (z_y mdX2_pause) ∈ lw_tbl := List.mem_of_getElem? (i := 454) (by decide +kernel)
theorem cv_X2_pause : Cond.selects (z_y mdX2_pause).cls (z_y mdX2_pause) (z_y mdX2_pause) ∈ lw_tbl := List.mem_of_getElem? (i := 26) (by decide +kernel)
theorem cb_X4_draw : (plainFor (z_y mdX4_draw) = true ∧ (Cond.code (z_y mdX4_draw) (z_cc mdX4_draw) (z_nl mdX4_draw) (z_rt mdX4_draw)) ∈ lw_tbl ∧ (Cond.initialized (z_y mdX4_draw).cls) ∈ lw_tbl) ∧ ((z_y mdX4_draw).cls ≠ "java/lang/invoke/MethodHandle" ∧ (z_y mdX4_draw).cls ≠ "java/lang/invoke/VarHandle" ∧ (parseMethodDescriptor (z_y mdX4_draw).desc).map (fun q => q.parameters.length) = some 2) := ⟨⟨by decide +kernel, List.mem_of_getElem? (i := 459) (by decide +kernel), List.mem_of_getElem? (i := 77) (by decide +kernel)⟩, by decide +kernel, by decide +kernel, by decide +kernel⟩
theorem ci_X4_draw : Cond.instanceMethod (z_y mdX4_draw) ∈ lw_tbl := List.mem_of_getElem? (i := 457) (by decide +kernel)
theorem cv_X4_draw : Cond.selects (z_y mdX4_draw).cls (z_y mdX4_draw) (z_y mdX4_draw) ∈ lw_tbl := List.mem_of_getElem? (i := 458) (by decide +kernel)
theorem cb_X4_got : (plainFor (z_y mdX4_got) = true ∧ (Cond.code (z_y mdX4_got) (z_cc mdX4_got) (z_nl mdX4_got) (z_rt mdX4_got)) ∈ lw_tbl ∧ (Cond.initialized (z_y mdX4_got).cls) ∈ lw_tbl) ∧ ((z_y mdX4_got).cls ≠ "java/lang/invoke/MethodHandle" ∧ (z_y mdX4_got).cls ≠ "java/lang/invoke/VarHandle" ∧ (parseMethodDescriptor (z_y mdX4_got).desc).map (fun q => q.parameters.length) = some 2) := ⟨⟨by decide +kernel, List.mem_of_getElem? (i := 475) (by decide +kernel), List.mem_of_getElem? (i := 77) (by decide +kernel)⟩, by decide +kernel, by decide +kernel, by decide +kernel⟩
theorem ci_X4_got : Cond.instanceMethod (z_y mdX4_got) ∈ lw_tbl := List.mem_of_getElem? (i := 473) (by decide +kernel)
theorem cv_X4_got : Cond.selects (z_y mdX4_got).cls (z_y mdX4_got) (z_y mdX4_got) ∈ lw_tbl := List.mem_of_getElem? (i := 474) (by decide +kernel)
theorem cb_X4_often : (plainFor (z_y mdX4_often) = true ∧ (Cond.code (z_y mdX4_often) (z_cc mdX4_often) (z_nl mdX4_often) (z_rt mdX4_often)) ∈ lw_tbl ∧ (Cond.initialized (z_y mdX4_often).cls) ∈ lw_tbl) ∧ ((z_y mdX4_often).cls ≠ "java/lang/invoke/MethodHandle" ∧ (z_y mdX4_often).cls ≠ "java/lang/invoke/VarHandle" ∧ (parseMethodDescriptor (z_y mdX4_often).desc).map (fun q => q.parameters.length) = some 1) := ⟨⟨by decide +kernel, List.mem_of_getElem? (i := 479) (by decide +kernel), List.mem_of_getElem? (i := 77) (by decide +kernel)⟩, by decide +kernel, by decide +kernel, by decide +kernel⟩
theorem ci_X4_often : Cond.instanceMethod (z_y mdX4_often) ∈ lw_tbl := List.mem_of_getElem? (i := 477) (by decide +kernel)
theorem cv_X4_often : Cond.selects (z_y mdX4_often).cls (z_y mdX4_often) (z_y mdX4_often) ∈ lw_tbl := List.mem_of_getElem? (i := 478) (by decide +kernel)
theorem cb_X4_where : (plainFor (z_y mdX4_where) = true ∧ (Cond.code (z_y mdX4_where) (z_cc mdX4_where) (z_nl mdX4_where) (z_rt mdX4_where)) ∈ lw_tbl ∧ (Cond.initialized (z_y mdX4_where).cls) ∈ lw_tbl) ∧ ((z_y mdX4_where).cls ≠ "java/lang/invoke/MethodHandle" ∧ (z_y mdX4_where).cls ≠ "java/lang/invoke/VarHandle" ∧ (parseMethodDescriptor (z_y mdX4_where).desc).map (fun q => q.parameters.length) = some 1) := ⟨⟨by decide +kernel, List.mem_of_getElem? (i := 483) (by decide +kernel), List.mem_of_getElem? (i := 77) (by decide +kernel)⟩, by decide +kernel, by decide +kernel, by decide +kernel⟩
theorem ci_X4_where : Cond.instanceMethod (z_y mdX4_where) ∈ lw_tbl := List.mem_of_getElem? (i := 481) (by decide +kernel)
theorem cv_X4_where : Cond.selects (z_y mdX4_where).cls (z_y mdX4_where) (z_y mdX4_where) ∈ lw_tbl := List.mem_of_getElem? (i := 482) (by decide +kernel)
theorem cb_X4_item : (plainFor (z_y mdX4_item) = true ∧ (Cond.code (z_y mdX4_item) (z_cc mdX4_item) (z_nl mdX4_item) (z_rt mdX4_item)) ∈ lw_tbl ∧ (Cond.initialized (z_y mdX4_item).cls) ∈ lw_tbl) ∧ ((z_y mdX4_item).cls ≠ "java/lang/invoke/MethodHandle" ∧ (z_y mdX4_item).cls ≠ "java/lang/invoke/VarHandle" ∧ (parseMethodDescriptor (z_y mdX4_item).desc).map (fun q => q.parameters.length) = some 3) := ⟨⟨by decide +kernel, List.mem_of_getElem? (i := 487) (by decide +kernel), List.mem_of_getElem? (i := 77) (by decide +kernel)⟩, by decide +kernel, by decide +kernel, by decide +kernel⟩
theorem ci_X4_item : Cond.instanceMethod (z_y mdX4_item) ∈ lw_tbl := List.mem_of_getElem? (i := 485) (by decide +kernel)
theorem cv_X4_item : Cond.selects (z_y mdX4_item).cls (z_y mdX4_item) (z_y mdX4_item) ∈ lw_tbl := List.mem_of_getElem? (i := 486) (by decide +kernel)
theorem cb_X0_changedBit : (plainFor (z_y mdX0_changedBit) = true ∧ (Cond.code (z_y mdX0_changedBit) (z_cc mdX0_changedBit) (z_nl mdX0_changedBit) (z_rt mdX0_changedBit)) ∈ lw_tbl ∧ (Cond.initialized (z_y mdX0_changedBit).cls) ∈ lw_tbl) ∧ ((z_y mdX0_changedBit).cls ≠ "java/lang/invoke/MethodHandle" ∧ (z_y mdX0_changedBit).cls ≠ "java/lang/invoke/VarHandle" ∧ (parseMethodDescriptor (z_y mdX0_changedBit).desc).map (fun q => q.parameters.length) = some 1) := ⟨⟨by decide +kernel, List.mem_of_getElem? (i := 492) (by decide +kernel), List.mem_of_getElem? (i := 80) (by decide +kernel)⟩, by decide +kernel, by decide +kernel, by decide +kernel⟩
theorem ci_X0_changedBit : Cond.instanceMethod (z_y mdX0_changedBit) ∈ lw_tbl := List.mem_of_getElem? (i := 491) (by decide +kernel)
theorem cv_X0_changedBit : Cond.selects (z_y mdX0_changedBit).cls (z_y mdX0_changedBit) (z_y mdX0_changedBit) ∈ lw_tbl := List.mem_of_getElem? (i := 27) (by decide +kernel)
theorem cb_X4_place : (plainFor (z_y mdX4_place) = true ∧ (Cond.code (z_y mdX4_place) (z_cc mdX4_place) (z_nl mdX4_place) (z_rt mdX4_place)) ∈ lw_tbl ∧ (Cond.initialized (z_y mdX4_place).cls) ∈ lw_tbl) ∧ ((z_y mdX4_place).cls ≠ "java/lang/invoke/MethodHandle" ∧ (z_y mdX4_place).cls ≠ "java/lang/invoke/VarHandle" ∧ (parseMethodDescriptor (z_y mdX4_place).desc).map (fun q => q.parameters.length) = some 2) := ⟨⟨by decide +kernel, List.mem_of_getElem? (i := 496) (by decide +kernel), List.mem_of_getElem? (i := 77) (by decide +kernel)⟩, by decide +kernel, by decide +kernel, by decide +kernel⟩
theorem ci_X4_place : Cond.instanceMethod (z_y mdX4_place) ∈ lw_tbl := List.mem_of_getElem? (i := 494) (by decide +kernel)
theorem cv_X4_place : Cond.selects (z_y mdX4_place).cls (z_y mdX4_place) (z_y mdX4_place) ∈ lw_tbl := List.mem_of_getElem? (i := 495) (by decide +kernel)
theorem cb_X2_boxInPlace : (plainFor (z_y mdX2_boxInPlace) = true ∧ (Cond.code (z_y mdX2_boxInPlace) (z_cc mdX2_boxInPlace) (z_nl mdX2_boxInPlace) (z_rt mdX2_boxInPlace)) ∈ lw_tbl ∧ (Cond.initialized (z_y mdX2_boxInPlace).cls) ∈ lw_tbl) ∧ ((z_y mdX2_boxInPlace).cls ≠ "java/lang/invoke/MethodHandle" ∧ (z_y mdX2_boxInPlace).cls ≠ "java/lang/invoke/VarHandle" ∧ (parseMethodDescriptor (z_y mdX2_boxInPlace).desc).map (fun q => q.parameters.length) = some 2) := ⟨⟨by decide +kernel, List.mem_of_getElem? (i := 500) (by decide +kernel), List.mem_of_getElem? (i := 78) (by decide +kernel)⟩, by decide +kernel, by decide +kernel, by decide +kernel⟩
theorem ci_X2_boxInPlace : Cond.instanceMethod (z_y mdX2_boxInPlace) ∈ lw_tbl := List.mem_of_getElem? (i := 499) (by decide +kernel)
theorem cv_X2_boxInPlace : Cond.selects (z_y mdX2_boxInPlace).cls (z_y mdX2_boxInPlace) (z_y mdX2_boxInPlace) ∈ lw_tbl := List.mem_of_getElem? (i := 28) (by decide +kernel)
theorem cb_X4_fetch : (plainFor (z_y mdX4_fetch) = true ∧ (Cond.code (z_y mdX4_fetch) (z_cc mdX4_fetch) (z_nl mdX4_fetch) (z_rt mdX4_fetch)) ∈ lw_tbl ∧ (Cond.initialized (z_y mdX4_fetch).cls) ∈ lw_tbl) ∧ ((z_y mdX4_fetch).cls ≠ "java/lang/invoke/MethodHandle" ∧ (z_y mdX4_fetch).cls ≠ "java/lang/invoke/VarHandle" ∧ (parseMethodDescriptor (z_y mdX4_fetch).desc).map (fun q => q.parameters.length) = some 2) := ⟨⟨by decide +kernel, List.mem_of_getElem? (i := 504) (by decide +kernel), List.mem_of_getElem? (i := 77) (by decide +kernel)⟩, by decide +kernel, by decide +kernel, by decide +kernel⟩
theorem ci_X4_fetch : Cond.instanceMethod (z_y mdX4_fetch) ∈ lw_tbl := List.mem_of_getElem? (i := 502) (by decide +kernel)
theorem cv_X4_fetch : Cond.selects (z_y mdX4_fetch).cls (z_y mdX4_fetch) (z_y mdX4_fetch) ∈ lw_tbl := List.mem_of_getElem? (i := 503) (by decide +kernel)
theorem cb_X2_boxOfFetch : (plainFor (z_y mdX2_boxOfFetch) = true ∧ (Cond.code (z_y mdX2_boxOfFetch) (z_cc mdX2_boxOfFetch) (z_nl mdX2_boxOfFetch) (z_rt mdX2_boxOfFetch)) ∈ lw_tbl ∧ (Cond.initialized (z_y mdX2_boxOfFetch).cls) ∈ lw_tbl) ∧ ((z_y mdX2_boxOfFetch).cls ≠ "java/lang/invoke/MethodHandle" ∧ (z_y mdX2_boxOfFetch).cls ≠ "java/lang/invoke/VarHandle" ∧ (parseMethodDescriptor (z_y mdX2_boxOfFetch).desc).map (fun q => q.parameters.length) = some 1) := ⟨⟨by decide +kernel, List.mem_of_getElem? (i := 508) (by decide +kernel), List.mem_of_getElem? (i := 78) (by decide +kernel)⟩, by decide +kernel, by decide +kernel, by decide +kernel⟩
theorem ci_X2_boxOfFetch : Cond.instanceMethod (z_y mdX2_boxOfFetch) ∈ lw_tbl := List.mem_of_getElem? (i := 507) (by decide +kernel)
theorem cv_X2_boxOfFetch : Cond.selects (z_y mdX2_boxOfFetch).cls (z_y mdX2_boxOfFetch) (z_y mdX2_boxOfFetch) ∈ lw_tbl := List.mem_of_getElem? (i := 29) (by decide +kernel)
theorem cb_X4_cost : (plainFor (z_y mdX4_cost) = true ∧ (Cond.code (z_y mdX4_cost) (z_cc mdX4_cost) (z_nl mdX4_cost) (z_rt mdX4_cost)) ∈ lw_tbl ∧ (Cond.initialized (z_y mdX4_cost).cls) ∈ lw_tbl) ∧ ((z_y mdX4_cost).cls ≠ "java/lang/invoke/MethodHandle" ∧ (z_y mdX4_cost).cls ≠ "java/lang/invoke/VarHandle" ∧ (parseMethodDescriptor (z_y mdX4_cost).desc).map (fun q => q.parameters.length) = some 1) := ⟨⟨by decide +kernel, List.mem_of_getElem? (i := 512) (by decide +kernel), List.mem_of_getElem? (i := 77) (by decide +kernel)⟩, by decide +kernel, by decide +kernel, by decide +kernel⟩
theorem ci_X4_cost : Cond.instanceMethod (z_y mdX4_cost) ∈ lw_tbl := List.mem_of_getElem? (i := 510) (by decide +kernel)
theorem cv_X4_cost : Cond.selects (z_y mdX4_cost).cls (z_y mdX4_cost) (z_y mdX4_cost) ∈ lw_tbl := List.mem_of_getElem? (i := 511) (by decide +kernel)
theorem cb_X1_meanWait : (plainFor (z_y mdX1_meanWait) = true ∧ (Cond.code (z_y mdX1_meanWait) (z_cc mdX1_meanWait) (z_nl mdX1_meanWait) (z_rt mdX1_meanWait)) ∈ lw_tbl ∧ (Cond.initialized (z_y mdX1_meanWait).cls) ∈ lw_tbl) ∧ ((z_y mdX1_meanWait).cls ≠ "java/lang/invoke/MethodHandle" ∧ (z_y mdX1_meanWait).cls ≠ "java/lang/invoke/VarHandle" ∧ (parseMethodDescriptor (z_y mdX1_meanWait).desc).map (fun q => q.parameters.length) = some 0) := ⟨⟨by decide +kernel, List.mem_of_getElem? (i := 516) (by decide +kernel), List.mem_of_getElem? (i := 81) (by decide +kernel)⟩, by decide +kernel, by decide +kernel, by decide +kernel⟩
theorem ci_X1_meanWait : Cond.instanceMethod (z_y mdX1_meanWait) ∈ lw_tbl := List.mem_of_getElem? (i := 515) (by decide +kernel)
theorem cv_X1_meanWait : Cond.selects (z_y mdX1_meanWait).cls (z_y mdX1_meanWait) (z_y mdX1_meanWait) ∈ lw_tbl := List.mem_of_getElem? (i := 30) (by decide +kernel)
theorem cb_X4_floatBits : (plainFor (z_y mdX4_floatBits) = true ∧ (Cond.code (z_y mdX4_floatBits) (z_cc mdX4_floatBits) (z_nl mdX4_floatBits) (z_rt mdX4_floatBits)) ∈ lw_tbl ∧ (Cond.initialized (z_y mdX4_floatBits).cls) ∈ lw_tbl) ∧ ((z_y mdX4_floatBits).cls ≠ "java/lang/invoke/MethodHandle" ∧ (z_y mdX4_floatBits).cls ≠ "java/lang/invoke/VarHandle" ∧ (parseMethodDescriptor (z_y mdX4_floatBits).desc).map (fun q => q.parameters.length) = some 1) := ⟨⟨by decide +kernel, List.mem_of_getElem? (i := 519) (by decide +kernel), List.mem_of_getElem? (i := 77) (by decide +kernel)⟩, by decide +kernel, by decide +kernel, by decide +kernel⟩
theorem cs_X4_floatBits : Cond.static (z_y mdX4_floatBits) ∈ lw_tbl := List.mem_of_getElem? (i := 518) (by decide +kernel)
theorem cb_X4_even : (plainFor (z_y mdX4_even) = true ∧ (Cond.code (z_y mdX4_even) (z_cc mdX4_even) (z_nl mdX4_even) (z_rt mdX4_even)) ∈ lw_tbl ∧ (Cond.initialized (z_y mdX4_even).cls) ∈ lw_tbl) ∧ ((z_y mdX4_even).cls ≠ "java/lang/invoke/MethodHandle" ∧ (z_y mdX4_even).cls ≠ "java/lang/invoke/VarHandle" ∧ (parseMethodDescriptor (z_y mdX4_even).desc).map (fun q => q.parameters.length) = some 0) := ⟨⟨by decide +kernel, List.mem_of_getElem? (i := 526) (by decide +kernel), List.mem_of_getElem? (i := 77) (by decide +kernel)⟩, by decide +kernel, by decide +kernel, by decide +kernel⟩
theorem ci_X4_even : Cond.instanceMethod (z_y mdX4_even) ∈ lw_tbl := List.mem_of_getElem? (i := 524) (by decide +kernel)
theorem cv_X4_even : Cond.selects (z_y mdX4_even).cls (z_y mdX4_even) (z_y mdX4_even) ∈ lw_tbl := List.mem_of_getElem? (i := 525) (by decide +kernel)
theorem cb_X1_spread : (plainFor (z_y mdX1_spread) = true ∧ (Cond.code (z_y mdX1_spread) (z_cc mdX1_spread) (z_nl mdX1_spread) (z_rt mdX1_spread)) ∈ lw_tbl ∧ (Cond.initialized (z_y mdX1_spread).cls) ∈ lw_tbl) ∧ ((z_y mdX1_spread).cls ≠ "java/lang/invoke/MethodHandle" ∧ (z_y mdX1_spread).cls ≠ "java/lang/invoke/VarHandle" ∧ (parseMethodDescriptor (z_y mdX1_spread).desc).map (fun q => q.parameters.length) = some 0) := ⟨⟨by decide +kernel, List.mem_of_getElem? (i := 530) (by decide +kernel), List.mem_of_getElem? (i := 81) (by decide +kernel)⟩, by decide +kernel, by decide +kernel, by decide +kernel⟩
theorem ci_X1_spread : Cond.instanceMethod (z_y mdX1_spread) ∈ lw_tbl := List.mem_of_getElem? (i := 529) (by decide +kernel)
theorem cv_X1_spread : Cond.selects (z_y mdX1_spread).cls (z_y mdX1_spread) (z_y mdX1_spread) ∈ lw_tbl := List.mem_of_getElem? (i := 31) (by decide +kernel)
theorem cb_X4_doubleBits : (plainFor (z_y mdX4_doubleBits) = true ∧ (Cond.code (z_y mdX4_doubleBits) (z_cc mdX4_doubleBits) (z_nl mdX4_doubleBits) (z_rt mdX4_doubleBits)) ∈ lw_tbl ∧ (Cond.initialized (z_y mdX4_doubleBits).cls) ∈ lw_tbl) ∧ ((z_y mdX4_doubleBits).cls ≠ "java/lang/invoke/MethodHandle" ∧ (z_y mdX4_doubleBits).cls ≠ "java/lang/invoke/VarHandle" ∧ (parseMethodDescriptor (z_y mdX4_doubleBits).desc).map (fun q => q.parameters.length) = some 1) := ⟨⟨by decide +kernel, List.mem_of_getElem? (i := 533) (by decide +kernel), List.mem_of_getElem? (i := 77) (by decide +kernel)⟩, by decide +kernel, by decide +kernel, by decide +kernel⟩
theorem cs_X4_doubleBits : Cond.static (z_y mdX4_doubleBits) ∈ lw_tbl := List.mem_of_getElem? (i := 532) (by decide +kernel)
theorem cb_X4_best : (plainFor (z_y mdX4_best) = true ∧ (Cond.code (z_y mdX4_best) (z_cc mdX4_best) (z_nl mdX4_best) (z_rt mdX4_best)) ∈ lw_tbl ∧ (Cond.initialized (z_y mdX4_best).cls) ∈ lw_tbl) ∧ ((z_y mdX4_best).cls ≠ "java/lang/invoke/MethodHandle" ∧ (z_y mdX4_best).cls ≠ "java/lang/invoke/VarHandle" ∧ (parseMethodDescriptor (z_y mdX4_best).desc).map (fun q => q.parameters.length) = some 1) := ⟨⟨by decide +kernel, List.mem_of_getElem? (i := 542) (by decide +kernel), List.mem_of_getElem? (i := 77) (by decide +kernel)⟩, by decide +kernel, by decide +kernel, by decide +kernel⟩
theorem ci_X4_best : Cond.instanceMethod (z_y mdX4_best) ∈ lw_tbl := List.mem_of_getElem? (i := 540) (by decide +kernel)
theorem cv_X4_best : Cond.selects (z_y mdX4_best).cls (z_y mdX4_best) (z_y mdX4_best) ∈ lw_tbl := List.mem_of_getElem? (i := 541) (by decide +kernel)
theorem cb_X3_readOrders : (plainFor (z_y mdX3_readOrders) = true ∧ (Cond.code (z_y mdX3_readOrders) (z_cc mdX3_readOrders) (z_nl mdX3_readOrders) (z_rt mdX3_readOrders)) ∈ lw_tbl ∧ (Cond.initialized (z_y mdX3_readOrders).cls) ∈ lw_tbl) ∧ ((z_y mdX3_readOrders).cls ≠ "java/lang/invoke/MethodHandle" ∧ (z_y mdX3_readOrders).cls ≠ "java/lang/invoke/VarHandle" ∧ (parseMethodDescriptor (z_y mdX3_readOrders).desc).map (fun q => q.parameters.length) = some 0) := ⟨⟨by decide +kernel, List.mem_of_getElem? (i := 546) (by decide +kernel), List.mem_of_getElem? (i := 82) (by decide +kernel)⟩, by decide +kernel, by decide +kernel, by decide +kernel⟩
theorem ci_X3_readOrders : Cond.instanceMethod (z_y mdX3_readOrders) ∈ lw_tbl := List.mem_of_getElem? (i := 545) (by decide +kernel)
theorem cv_X3_readOrders : Cond.selects (z_y mdX3_readOrders).cls (z_y mdX3_readOrders) (z_y mdX3_readOrders) ∈ lw_tbl := List.mem_of_getElem? (i := 32) (by decide +kernel)
theorem cb_X3_peek : (plainFor (z_y mdX3_peek) = true ∧ (Cond.code (z_y mdX3_peek) (z_cc mdX3_peek) (z_nl mdX3_peek) (z_rt mdX3_peek)) ∈ lw_tbl ∧ (Cond.initialized (z_y mdX3_peek).cls) ∈ lw_tbl) ∧ ((z_y mdX3_peek).cls ≠ "java/lang/invoke/MethodHandle" ∧ (z_y mdX3_peek).cls ≠ "java/lang/invoke/VarHandle" ∧ (parseMethodDescriptor (z_y mdX3_peek).desc).map (fun q => q.parameters.length) = some 0) := ⟨⟨by decide +kernel, List.mem_of_getElem? (i := 550) (by decide +kernel), List.mem_of_getElem? (i := 82) (by decide +kernel)⟩, by decide +kernel, by decide +kernel, by decide +kernel⟩
theorem ci_X3_peek : Cond.instanceMethod (z_y mdX3_peek) ∈ lw_tbl := List.mem_of_getElem? (i := 549) (by decide +kernel)
theorem cv_X3_peek : Cond.selects (z_y mdX3_peek).cls (z_y mdX3_peek) (z_y mdX3_peek) ∈ lw_tbl := List.mem_of_getElem? (i := 33) (by decide +kernel)
theorem cb_X3_byteAt : (plainFor (z_y mdX3_byteAt) = true ∧ (Cond.code (z_y mdX3_byteAt) (z_cc mdX3_byteAt) (z_nl mdX3_byteAt) (z_rt mdX3_byteAt)) ∈ lw_tbl ∧ (Cond.initialized (z_y mdX3_byteAt).cls) ∈ lw_tbl) ∧ ((z_y mdX3_byteAt).cls ≠ "java/lang/invoke/MethodHandle" ∧ (z_y mdX3_byteAt).cls ≠ "java/lang/invoke/VarHandle" ∧ (parseMethodDescriptor (z_y mdX3_byteAt).desc).map (fun q => q.parameters.length) = some 1) := ⟨⟨by decide +kernel, List.mem_of_getElem? (i := 554) (by decide +kernel), List.mem_of_getElem? (i := 82) (by decide +kernel)⟩, by decide +kernel, by decide +kernel, by decide +kernel⟩
theorem ci_X3_byteAt : Cond.instanceMethod (z_y mdX3_byteAt) ∈ lw_tbl := List.mem_of_getElem? (i := 553) (by decide +kernel)
theorem cv_X3_byteAt : Cond.selects (z_y mdX3_byteAt).cls (z_y mdX3_byteAt) (z_y mdX3_byteAt) ∈ lw_tbl := List.mem_of_getElem? (i := 34) (by decide +kernel)
theorem cb_X3_readOrder : (plainFor (z_y mdX3_readOrder) = true ∧ (Cond.code (z_y mdX3_readOrder) (z_cc mdX3_readOrder) (z_nl mdX3_readOrder) (z_rt mdX3_readOrder)) ∈ lw_tbl ∧ (Cond.initialized (z_y mdX3_readOrder).cls) ∈ lw_tbl) ∧ ((z_y mdX3_readOrder).cls ≠ "java/lang/invoke/MethodHandle" ∧ (z_y mdX3_readOrder).cls ≠ "java/lang/invoke/VarHandle" ∧ (parseMethodDescriptor (z_y mdX3_readOrder).desc).map (fun q => q.parameters.length) = some 0) := ⟨⟨by decide +kernel, List.mem_of_getElem? (i := 558) (by decide +kernel), List.mem_of_getElem? (i := 82) (by decide +kernel)⟩, by decide +kernel, by decide +kernel, by decide +kernel⟩
theorem ci_X3_readOrder : Cond.instanceMethod (z_y mdX3_readOrder) ∈ lw_tbl := List.mem_of_getElem? (i := 557) (by decide +kernel)
theorem cv_X3_readOrder : Cond.selects (z_y mdX3_readOrder).cls (z_y mdX3_readOrder) (z_y mdX3_readOrder) ∈ lw_tbl := List.mem_of_getElem? (i := 35) (by decide +kernel)
theorem cb_X3_readAsking : (plainFor (z_y mdX3_readAsking) = true ∧ (Cond.code (z_y mdX3_readAsking) (z_cc mdX3_readAsking) (z_nl mdX3_readAsking) (z_rt mdX3_readAsking)) ∈ lw_tbl ∧ (Cond.initialized (z_y mdX3_readAsking).cls) ∈ lw_tbl) ∧ ((z_y mdX3_readAsking).cls ≠ "java/lang/invoke/MethodHandle" ∧ (z_y mdX3_readAsking).cls ≠ "java/lang/invoke/VarHandle" ∧ (parseMethodDescriptor (z_y mdX3_readAsking).desc).map (fun q => q.parameters.length) = some 1) := ⟨⟨by decide +kernel, List.mem_of_getElem? (i := 562) (by decide +kernel), List.mem_of_getElem? (i := 82) (by decide +kernel)⟩, by decide +kernel, by decide +kernel, by decide +kernel⟩
theorem ci_X3_readAsking : Cond.instanceMethod (z_y mdX3_readAsking) ∈ lw_tbl := List.mem_of_getElem? (i := 561) (by decide +kernel)
theorem cv_X3_readAsking : Cond.selects (z_y mdX3_readAsking).cls (z_y mdX3_readAsking) (z_y mdX3_readAsking) ∈ lw_tbl := List.mem_of_getElem? (i := 36) (by decide +kernel)
theorem cb_X3_readNumber : (plainFor (z_y mdX3_readNumber) = true ∧ (Cond.code (z_y mdX3_readNumber) (z_cc mdX3_readNumber) (z_nl mdX3_readNumber) (z_rt mdX3_readNumber)) ∈ lw_tbl ∧ (Cond.initialized (z_y mdX3_readNumber).cls) ∈ lw_tbl) ∧ ((z_y mdX3_readNumber).cls ≠ "java/lang/invoke/MethodHandle" ∧ (z_y mdX3_readNumber).cls ≠ "java/lang/invoke/VarHandle" ∧ (parseMethodDescriptor (z_y mdX3_readNumber).desc).map (fun q => q.parameters.length) = some 0) := ⟨⟨by decide +kernel, List.mem_of_getElem? (i := 567) (by decide +kernel), List.mem_of_getElem? (i := 82) (by decide +kernel)⟩, by decide +kernel, by decide +kernel, by decide +kernel⟩
theorem ci_X3_readNumber : Cond.instanceMethod (z_y mdX3_readNumber) ∈ lw_tbl := List.mem_of_getElem? (i := 566) (by decide +kernel)
theorem cv_X3_readNumber : Cond.selects (z_y mdX3_readNumber).cls (z_y mdX3_readNumber) (z_y mdX3_readNumber) ∈ lw_tbl := List.mem_of_getElem? (i := 37) (by decide +kernel)
theorem cb_X3_isFigure : (plainFor (z_y mdX3_isFigure) = true ∧ (Cond.code (z_y mdX3_isFigure) (z_cc mdX3_isFigure) (z_nl mdX3_isFigure) (z_rt mdX3_isFigure)) ∈ lw_tbl ∧ (Cond.initialized (z_y mdX3_isFigure).cls) ∈ lw_tbl) ∧ ((z_y mdX3_isFigure).cls ≠ "java/lang/invoke/MethodHandle" ∧ (z_y mdX3_isFigure).cls ≠ "java/lang/invoke/VarHandle" ∧ (parseMethodDescriptor (z_y mdX3_isFigure).desc).map (fun q => q.parameters.length) = some 1) := ⟨⟨by decide +kernel, List.mem_of_getElem? (i := 570) (by decide +kernel), List.mem_of_getElem? (i := 82) (by decide +kernel)⟩, by decide +kernel, by decide +kernel, by decide +kernel⟩
theorem cs_X3_isFigure : Cond.static (z_y mdX3_isFigure) ∈ lw_tbl := List.mem_of_getElem? (i := 569) (by decide +kernel)
theorem cb_X3_addOrder : (plainFor (z_y mdX3_addOrder) = true ∧ (Cond.code (z_y mdX3_addOrder) (z_cc mdX3_addOrder) (z_nl mdX3_addOrder) (z_rt mdX3_addOrder)) ∈ lw_tbl ∧ (Cond.initialized (z_y mdX3_addOrder).cls) ∈ lw_tbl) ∧ ((z_y mdX3_addOrder).cls ≠ "java/lang/invoke/MethodHandle" ∧ (z_y mdX3_addOrder).cls ≠ "java/lang/invoke/VarHandle" ∧ (parseMethodDescriptor (z_y mdX3_addOrder).desc).map (fun q => q.parameters.length) = some 3) := ⟨⟨by decide +kernel, List.mem_of_getElem? (i := 574) (by decide +kernel), List.mem_of_getElem? (i := 82) (by decide +kernel)⟩, by decide +kernel, by decide +kernel, by decide +kernel⟩
theorem ci_X3_addOrder : Cond.instanceMethod (z_y mdX3_addOrder) ∈ lw_tbl := List.mem_of_getElem? (i := 573) (by decide +kernel)
theorem cv_X3_addOrder : Cond.selects (z_y mdX3_addOrder).cls (z_y mdX3_addOrder) (z_y mdX3_addOrder) ∈ lw_tbl := List.mem_of_getElem? (i := 38) (by decide +kernel)
theorem cb_X2_startTrial : (plainFor (z_y mdX2_startTrial) = true ∧ (Cond.code (z_y mdX2_startTrial) (z_cc mdX2_startTrial) (z_nl mdX2_startTrial) (z_rt mdX2_startTrial)) ∈ lw_tbl ∧ (Cond.initialized (z_y mdX2_startTrial).cls) ∈ lw_tbl) ∧ ((z_y mdX2_startTrial).cls ≠ "java/lang/invoke/MethodHandle" ∧ (z_y mdX2_startTrial).cls ≠ "java/lang/invoke/VarHandle" ∧ (parseMethodDescriptor (z_y mdX2_startTrial).desc).map (fun q => q.parameters.length) = some 2) := ⟨⟨by decide +kernel, List.mem_of_getElem? (i := 579) (by decide +kernel), List.mem_of_getElem? (i := 78) (by decide +kernel)⟩, by decide +kernel, by decide +kernel, by decide +kernel⟩
theorem ci_X2_startTrial : Cond.instanceMethod (z_y mdX2_startTrial) ∈ lw_tbl := List.mem_of_getElem? (i := 578) (by decide +kernel)
theorem cv_X2_startTrial : Cond.selects (z_y mdX2_startTrial).cls (z_y mdX2_startTrial) (z_y mdX2_startTrial) ∈ lw_tbl := List.mem_of_getElem? (i := 39) (by decide +kernel)
theorem cb_X2_carryOut : (plainFor (z_y mdX2_carryOut) = true ∧ (Cond.code (z_y mdX2_carryOut) (z_cc mdX2_carryOut) (z_nl mdX2_carryOut) (z_rt mdX2_carryOut)) ∈ lw_tbl ∧ (Cond.initialized (z_y mdX2_carryOut).cls) ∈ lw_tbl) ∧ ((z_y mdX2_carryOut).cls ≠ "java/lang/invoke/MethodHandle" ∧ (z_y mdX2_carryOut).cls ≠ "java/lang/invoke/VarHandle" ∧ (parseMethodDescriptor (z_y mdX2_carryOut).desc).map (fun q => q.parameters.length) = some 1) := ⟨⟨by decide +kernel, List.mem_of_getElem? (i := 583) (by decide +kernel), List.mem_of_getElem? (i := 78) (by decide +kernel)⟩, by decide +kernel, by decide +kernel, by decide +kernel⟩
theorem ci_X2_carryOut : Cond.instanceMethod (z_y mdX2_carryOut) ∈ lw_tbl := List.mem_of_getElem? (i := 582) (by decide +kernel)
theorem cv_X2_carryOut : Cond.selects (z_y mdX2_carryOut).cls (z_y mdX2_carryOut) (z_y mdX2_carryOut) ∈ lw_tbl := List.mem_of_getElem? (i := 40) (by decide +kernel)
theorem cb_X2_awaitFetches : (plainFor (z_y mdX2_awaitFetches) = true ∧ (Cond.code (z_y mdX2_awaitFetches) (z_cc mdX2_awaitFetches) (z_nl mdX2_awaitFetches) (z_rt mdX2_awaitFetches)) ∈ lw_tbl ∧ (Cond.initialized (z_y mdX2_awaitFetches).cls) ∈ lw_tbl) ∧ ((z_y mdX2_awaitFetches).cls ≠ "java/lang/invoke/MethodHandle" ∧ (z_y mdX2_awaitFetches).cls ≠ "java/lang/invoke/VarHandle" ∧ (parseMethodDescriptor (z_y mdX2_awaitFetches).desc).map (fun q => q.parameters.length) = some 0) := ⟨⟨by decide +kernel, List.mem_of_getElem? (i := 590) (by decide +kernel), List.mem_of_getElem? (i := 78) (by decide +kernel)⟩, by decide +kernel, by decide +kernel, by decide +kernel⟩
theorem ci_X2_awaitFetches : Cond.instanceMethod (z_y mdX2_awaitFetches) ∈ lw_tbl := List.mem_of_getElem? (i := 589) (by decide +kernel)
theorem cv_X2_awaitFetches : Cond.selects (z_y mdX2_awaitFetches).cls (z_y mdX2_awaitFetches) (z_y mdX2_awaitFetches) ∈ lw_tbl := List.mem_of_getElem? (i := 41) (by decide +kernel)
theorem cb_X4_type : (plainFor (z_y mdX4_type) = true ∧ (Cond.code (z_y mdX4_type) (z_cc mdX4_type) (z_nl mdX4_type) (z_rt mdX4_type)) ∈ lw_tbl ∧ (Cond.initialized (z_y mdX4_type).cls) ∈ lw_tbl) ∧ ((z_y mdX4_type).cls ≠ "java/lang/invoke/MethodHandle" ∧ (z_y mdX4_type).cls ≠ "java/lang/invoke/VarHandle" ∧ (parseMethodDescriptor (z_y mdX4_type).desc).map (fun q => q.parameters.length) = some 1) := ⟨⟨by decide +kernel, List.mem_of_getElem? (i := 594) (by decide +kernel), List.mem_of_getElem? (i := 77) (by decide +kernel)⟩, by decide +kernel, by decide +kernel, by decide +kernel⟩
theorem ci_X4_type : Cond.instanceMethod (z_y mdX4_type) ∈ lw_tbl := List.mem_of_getElem? (i := 592) (by decide +kernel)
theorem cv_X4_type : Cond.selects (z_y mdX4_type).cls (z_y mdX4_type) (z_y mdX4_type) ∈ lw_tbl := List.mem_of_getElem? (i := 593) (by decide +kernel)
theorem cb_X4_clear : (plainFor (z_y mdX4_clear) = true ∧ (Cond.code (z_y mdX4_clear) (z_cc mdX4_clear) (z_nl mdX4_clear) (z_rt mdX4_clear)) ∈ lw_tbl ∧ (Cond.initialized (z_y mdX4_clear).cls) ∈ lw_tbl) ∧ ((z_y mdX4_clear).cls ≠ "java/lang/invoke/MethodHandle" ∧ (z_y mdX4_clear).cls ≠ "java/lang/invoke/VarHandle" ∧ (parseMethodDescriptor (z_y mdX4_clear).desc).map (fun q => q.parameters.length) = some 0) := ⟨⟨by decide +kernel, List.mem_of_getElem? (i := 598) (by decide +kernel), List.mem_of_getElem? (i := 77) (by decide +kernel)⟩, by decide +kernel, by decide +kernel, by decide +kernel⟩
theorem ci_X4_clear : Cond.instanceMethod (z_y mdX4_clear) ∈ lw_tbl := List.mem_of_getElem? (i := 596) (by decide +kernel)
theorem cv_X4_clear : Cond.selects (z_y mdX4_clear).cls (z_y mdX4_clear) (z_y mdX4_clear) ∈ lw_tbl := List.mem_of_getElem? (i := 597) (by decide +kernel)
theorem cb_X4_runs : (plainFor (z_y mdX4_runs) = true ∧ (Cond.code (z_y mdX4_runs) (z_cc mdX4_runs) (z_nl mdX4_runs) (z_rt mdX4_runs)) ∈ lw_tbl ∧ (Cond.initialized (z_y mdX4_runs).cls) ∈ lw_tbl) ∧ ((z_y mdX4_runs).cls ≠ "java/lang/invoke/MethodHandle" ∧ (z_y mdX4_runs).cls ≠ "java/lang/invoke/VarHandle" ∧ (parseMethodDescriptor (z_y mdX4_runs).desc).map (fun q => q.parameters.length) = some 0) := ⟨⟨by decide +kernel, List.mem_of_getElem? (i := 602) (by decide +kernel), List.mem_of_getElem? (i := 77) (by decide +kernel)⟩, by decide +kernel, by decide +kernel, by decide +kernel⟩
theorem ci_X4_runs : Cond.instanceMethod (z_y mdX4_runs) ∈ lw_tbl := List.mem_of_getElem? (i := 600) (by decide +kernel)
theorem cv_X4_runs : Cond.selects (z_y mdX4_runs).cls (z_y mdX4_runs) (z_y mdX4_runs) ∈ lw_tbl := List.mem_of_getElem? (i := 601) (by decide +kernel)
theorem cb_X4_back : (plainFor (z_y mdX4_back) = true ∧ (Cond.code (z_y mdX4_back) (z_cc mdX4_back) (z_nl mdX4_back) (z_rt mdX4_back)) ∈ lw_tbl ∧ (Cond.initialized (z_y mdX4_back).cls) ∈ lw_tbl) ∧ ((z_y mdX4_back).cls ≠ "java/lang/invoke/MethodHandle" ∧ (z_y mdX4_back).cls ≠ "java/lang/invoke/VarHandle" ∧ (parseMethodDescriptor (z_y mdX4_back).desc).map (fun q => q.parameters.length) = some 0) := ⟨⟨by decide +kernel, List.mem_of_getElem? (i := 606) (by decide +kernel), List.mem_of_getElem? (i := 77) (by decide +kernel)⟩, by decide +kernel, by decide +kernel, by decide +kernel⟩
theorem ci_X4_back : Cond.instanceMethod (z_y mdX4_back) ∈ lw_tbl := List.mem_of_getElem? (i := 604) (by decide +kernel)
theorem cv_X4_back : Cond.selects (z_y mdX4_back).cls (z_y mdX4_back) (z_y mdX4_back) ∈ lw_tbl := List.mem_of_getElem? (i := 605) (by decide +kernel)
theorem cb_X4_told : (plainFor (z_y mdX4_told) = true ∧ (Cond.code (z_y mdX4_told) (z_cc mdX4_told) (z_nl mdX4_told) (z_rt mdX4_told)) ∈ lw_tbl ∧ (Cond.initialized (z_y mdX4_told).cls) ∈ lw_tbl) ∧ ((z_y mdX4_told).cls ≠ "java/lang/invoke/MethodHandle" ∧ (z_y mdX4_told).cls ≠ "java/lang/invoke/VarHandle" ∧ (parseMethodDescriptor (z_y mdX4_told).desc).map (fun q => q.parameters.length) = some 1) := ⟨⟨by decide +kernel, List.mem_of_getElem? (i := 610) (by decide +kernel), List.mem_of_getElem? (i := 77) (by decide +kernel)⟩, by decide +kernel, by decide +kernel, by decide +kernel⟩
theorem ci_X4_told : Cond.instanceMethod (z_y mdX4_told) ∈ lw_tbl := List.mem_of_getElem? (i := 608) (by decide +kernel)
theorem cv_X4_told : Cond.selects (z_y mdX4_told).cls (z_y mdX4_told) (z_y mdX4_told) ∈ lw_tbl := List.mem_of_getElem? (i := 609) (by decide +kernel)
theorem cb_X4_digest : (plainFor (z_y mdX4_digest) = true ∧ (Cond.code (z_y mdX4_digest) (z_cc mdX4_digest) (z_nl mdX4_digest) (z_rt mdX4_digest)) ∈ lw_tbl ∧ (Cond.initialized (z_y mdX4_digest).cls) ∈ lw_tbl) ∧ ((z_y mdX4_digest).cls ≠ "java/lang/invoke/MethodHandle" ∧ (z_y mdX4_digest).cls ≠ "java/lang/invoke/VarHandle" ∧ (parseMethodDescriptor (z_y mdX4_digest).desc).map (fun q => q.parameters.length) = some 0) := ⟨⟨by decide +kernel, List.mem_of_getElem? (i := 614) (by decide +kernel), List.mem_of_getElem? (i := 77) (by decide +kernel)⟩, by decide +kernel, by decide +kernel, by decide +kernel⟩
theorem ci_X4_digest : Cond.instanceMethod (z_y mdX4_digest) ∈ lw_tbl := List.mem_of_getElem? (i := 612) (by decide +kernel)
theorem cv_X4_digest : Cond.selects (z_y mdX4_digest).cls (z_y mdX4_digest) (z_y mdX4_digest) ∈ lw_tbl := List.mem_of_getElem? (i := 613) (by decide +kernel)
theorem cb_X5_init : (plainFor (z_y mdX5_init) = true ∧ (Cond.code (z_y mdX5_init) (z_cc mdX5_init) (z_nl mdX5_init) (z_rt mdX5_init)) ∈ lw_tbl ∧ (Cond.initialized (z_y mdX5_init).cls) ∈ lw_tbl) ∧ ((z_y mdX5_init).cls ≠ "java/lang/invoke/MethodHandle" ∧ (z_y mdX5_init).cls ≠ "java/lang/invoke/VarHandle" ∧ (parseMethodDescriptor (z_y mdX5_init).desc).map (fun q => q.parameters.length) = some 0) := ⟨⟨by decide +kernel, List.mem_of_getElem? (i := 627) (by decide +kernel), List.mem_of_getElem? (i := 83) (by decide +kernel)⟩, by decide +kernel, by decide +kernel, by decide +kernel⟩
theorem ci_X5_init : Cond.instanceMethod (z_y mdX5_init) ∈ lw_tbl := List.mem_of_getElem? (i := 626) (by decide +kernel)
theorem cb_X5_begins : (plainFor (z_y mdX5_begins) = true ∧ (Cond.code (z_y mdX5_begins) (z_cc mdX5_begins) (z_nl mdX5_begins) (z_rt mdX5_begins)) ∈ lw_tbl ∧ (Cond.initialized (z_y mdX5_begins).cls) ∈ lw_tbl) ∧ ((z_y mdX5_begins).cls ≠ "java/lang/invoke/MethodHandle" ∧ (z_y mdX5_begins).cls ≠ "java/lang/invoke/VarHandle" ∧ (parseMethodDescriptor (z_y mdX5_begins).desc).map (fun q => q.parameters.length) = some 0) := ⟨⟨by decide +kernel, List.mem_of_getElem? (i := 632) (by decide +kernel), List.mem_of_getElem? (i := 83) (by decide +kernel)⟩, by decide +kernel, by decide +kernel, by decide +kernel⟩
theorem ci_X5_begins : Cond.instanceMethod (z_y mdX5_begins) ∈ lw_tbl := List.mem_of_getElem? (i := 631) (by decide +kernel)
theorem cv_X5_begins : Cond.selects (z_y mdX5_begins).cls (z_y mdX5_begins) (z_y mdX5_begins) ∈ lw_tbl := List.mem_of_getElem? (i := 42) (by decide +kernel)
theorem cb_X5_back : (plainFor (z_y mdX5_back) = true ∧ (Cond.code (z_y mdX5_back) (z_cc mdX5_back) (z_nl mdX5_back) (z_rt mdX5_back)) ∈ lw_tbl ∧ (Cond.initialized (z_y mdX5_back).cls) ∈ lw_tbl) ∧ ((z_y mdX5_back).cls ≠ "java/lang/invoke/MethodHandle" ∧ (z_y mdX5_back).cls ≠ "java/lang/invoke/VarHandle" ∧ (parseMethodDescriptor (z_y mdX5_back).desc).map (fun q => q.parameters.length) = some 0) := ⟨⟨by decide +kernel, List.mem_of_getElem? (i := 741) (by decide +kernel), List.mem_of_getElem? (i := 83) (by decide +kernel)⟩, by decide +kernel, by decide +kernel, by decide +kernel⟩
theorem ci_X5_back : Cond.instanceMethod (z_y mdX5_back) ∈ lw_tbl := List.mem_of_getElem? (i := 739) (by decide +kernel)
theorem cv_X5_back : Cond.selects (z_y mdX5_back).cls (z_y mdX5_back) (z_y mdX5_back) ∈ lw_tbl := List.mem_of_getElem? (i := 740) (by decide +kernel)
theorem cb_X5_comesBack : (plainFor (z_y mdX5_comesBack) = true ∧ (Cond.code (z_y mdX5_comesBack) (z_cc mdX5_comesBack) (z_nl mdX5_comesBack) (z_rt mdX5_comesBack)) ∈ lw_tbl ∧ (Cond.initialized (z_y mdX5_comesBack).cls) ∈ lw_tbl) ∧ ((z_y mdX5_comesBack).cls ≠ "java/lang/invoke/MethodHandle" ∧ (z_y mdX5_comesBack).cls ≠ "java/lang/invoke/VarHandle" ∧ (parseMethodDescriptor (z_y mdX5_comesBack).desc).map (fun q => q.parameters.length) = some 1) := ⟨⟨by decide +kernel, List.mem_of_getElem? (i := 745) (by decide +kernel), List.mem_of_getElem? (i := 83) (by decide +kernel)⟩, by decide +kernel, by decide +kernel, by decide +kernel⟩
theorem ci_X5_comesBack : Cond.instanceMethod (z_y mdX5_comesBack) ∈ lw_tbl := List.mem_of_getElem? (i := 744) (by decide +kernel)
theorem cv_X5_comesBack : Cond.selects (z_y mdX5_comesBack).cls (z_y mdX5_comesBack) (z_y mdX5_comesBack) ∈ lw_tbl := List.mem_of_getElem? (i := 43) (by decide +kernel)
theorem cb_X5_takes : (plainFor (z_y mdX5_takes) = true ∧ (Cond.code (z_y mdX5_takes) (z_cc mdX5_takes) (z_nl mdX5_takes) (z_rt mdX5_takes)) ∈ lw_tbl ∧ (Cond.initialized (z_y mdX5_takes).cls) ∈ lw_tbl) ∧ ((z_y mdX5_takes).cls ≠ "java/lang/invoke/MethodHandle" ∧ (z_y mdX5_takes).cls ≠ "java/lang/invoke/VarHandle" ∧ (parseMethodDescriptor (z_y mdX5_takes).desc).map (fun q => q.parameters.length) = some 2) := ⟨⟨by decide +kernel, List.mem_of_getElem? (i := 749) (by decide +kernel), List.mem_of_getElem? (i := 83) (by decide +kernel)⟩, by decide +kernel, by decide +kernel, by decide +kernel⟩
theorem ci_X5_takes : Cond.instanceMethod (z_y mdX5_takes) ∈ lw_tbl := List.mem_of_getElem? (i := 748) (by decide +kernel)
theorem cv_X5_takes : Cond.selects (z_y mdX5_takes).cls (z_y mdX5_takes) (z_y mdX5_takes) ∈ lw_tbl := List.mem_of_getElem? (i := 44) (by decide +kernel)
theorem cb_X5_sets : (plainFor (z_y mdX5_sets) = true ∧ (Cond.code (z_y mdX5_sets) (z_cc mdX5_sets) (z_nl mdX5_sets) (z_rt mdX5_sets)) ∈ lw_tbl ∧ (Cond.initialized (z_y mdX5_sets).cls) ∈ lw_tbl) ∧ ((z_y mdX5_sets).cls ≠ "java/lang/invoke/MethodHandle" ∧ (z_y mdX5_sets).cls ≠ "java/lang/invoke/VarHandle" ∧ (parseMethodDescriptor (z_y mdX5_sets).desc).map (fun q => q.parameters.length) = some 2) := ⟨⟨by decide +kernel, List.mem_of_getElem? (i := 753) (by decide +kernel), List.mem_of_getElem? (i := 83) (by decide +kernel)⟩, by decide +kernel, by decide +kernel, by decide +kernel⟩
theorem ci_X5_sets : Cond.instanceMethod (z_y mdX5_sets) ∈ lw_tbl := List.mem_of_getElem? (i := 751) (by decide +kernel)
theorem cv_X5_sets : Cond.selects (z_y mdX5_sets).cls (z_y mdX5_sets) (z_y mdX5_sets) ∈ lw_tbl := List.mem_of_getElem? (i := 752) (by decide +kernel)
theorem cb_X5_may : (plainFor (z_y mdX5_may) = true ∧ (Cond.code (z_y mdX5_may) (z_cc mdX5_may) (z_nl mdX5_may) (z_rt mdX5_may)) ∈ lw_tbl ∧ (Cond.initialized (z_y mdX5_may).cls) ∈ lw_tbl) ∧ ((z_y mdX5_may).cls ≠ "java/lang/invoke/MethodHandle" ∧ (z_y mdX5_may).cls ≠ "java/lang/invoke/VarHandle" ∧ (parseMethodDescriptor (z_y mdX5_may).desc).map (fun q => q.parameters.length) = some 2) := ⟨⟨by decide +kernel, List.mem_of_getElem? (i := 756) (by decide +kernel), List.mem_of_getElem? (i := 83) (by decide +kernel)⟩, by decide +kernel, by decide +kernel, by decide +kernel⟩
theorem cs_X5_may : Cond.static (z_y mdX5_may) ∈ lw_tbl := List.mem_of_getElem? (i := 755) (by decide +kernel)
theorem cb_X5_in : (plainFor (z_y mdX5_in) = true ∧ (Cond.code (z_y mdX5_in) (z_cc mdX5_in) (z_nl mdX5_in) (z_rt mdX5_in)) ∈ lw_tbl ∧ (Cond.initialized (z_y mdX5_in).cls) ∈ lw_tbl) ∧ ((z_y mdX5_in).cls ≠ "java/lang/invoke/MethodHandle" ∧ (z_y mdX5_in).cls ≠ "java/lang/invoke/VarHandle" ∧ (parseMethodDescriptor (z_y mdX5_in).desc).map (fun q => q.parameters.length) = some 3) := ⟨⟨by decide +kernel, List.mem_of_getElem? (i := 759) (by decide +kernel), List.mem_of_getElem? (i := 83) (by decide +kernel)⟩, by decide +kernel, by decide +kernel, by decide +kernel⟩
theorem cs_X5_in : Cond.static (z_y mdX5_in) ∈ lw_tbl := List.mem_of_getElem? (i := 758) (by decide +kernel)
theorem cb_X5_bad : (plainFor (z_y mdX5_bad) = true ∧ (Cond.code (z_y mdX5_bad) (z_cc mdX5_bad) (z_nl mdX5_bad) (z_rt mdX5_bad)) ∈ lw_tbl ∧ (Cond.initialized (z_y mdX5_bad).cls) ∈ lw_tbl) ∧ ((z_y mdX5_bad).cls ≠ "java/lang/invoke/MethodHandle" ∧ (z_y mdX5_bad).cls ≠ "java/lang/invoke/VarHandle" ∧ (parseMethodDescriptor (z_y mdX5_bad).desc).map (fun q => q.parameters.length) = some 0) := ⟨⟨by decide +kernel, List.mem_of_getElem? (i := 763) (by decide +kernel), List.mem_of_getElem? (i := 83) (by decide +kernel)⟩, by decide +kernel, by decide +kernel, by decide +kernel⟩
theorem ci_X5_bad : Cond.instanceMethod (z_y mdX5_bad) ∈ lw_tbl := List.mem_of_getElem? (i := 762) (by decide +kernel)
theorem cv_X5_bad : Cond.selects (z_y mdX5_bad).cls (z_y mdX5_bad) (z_y mdX5_bad) ∈ lw_tbl := List.mem_of_getElem? (i := 45) (by decide +kernel)
theorem cb_X5_leavesState : (plainFor (z_y mdX5_leavesState) = true ∧ (Cond.code (z_y mdX5_leavesState) (z_cc mdX5_leavesState) (z_nl mdX5_leavesState) (z_rt mdX5_leavesState)) ∈ lw_tbl ∧ (Cond.initialized (z_y mdX5_leavesState).cls) ∈ lw_tbl) ∧ ((z_y mdX5_leavesState).cls ≠ "java/lang/invoke/MethodHandle" ∧ (z_y mdX5_leavesState).cls ≠ "java/lang/invoke/VarHandle" ∧ (parseMethodDescriptor (z_y mdX5_leavesState).desc).map (fun q => q.parameters.length) = some 0) := ⟨⟨by decide +kernel, List.mem_of_getElem? (i := 767) (by decide +kernel), List.mem_of_getElem? (i := 83) (by decide +kernel)⟩, by decide +kernel, by decide +kernel, by decide +kernel⟩
theorem ci_X5_leavesState : Cond.instanceMethod (z_y mdX5_leavesState) ∈ lw_tbl := List.mem_of_getElem? (i := 766) (by decide +kernel)
theorem cv_X5_leavesState : Cond.selects (z_y mdX5_leavesState).cls (z_y mdX5_leavesState) (z_y mdX5_leavesState) ∈ lw_tbl := List.mem_of_getElem? (i := 46) (by decide +kernel)
theorem cb_X5_keeps : (plainFor (z_y mdX5_keeps) = true ∧ (Cond.code (z_y mdX5_keeps) (z_cc mdX5_keeps) (z_nl mdX5_keeps) (z_rt mdX5_keeps)) ∈ lw_tbl ∧ (Cond.initialized (z_y mdX5_keeps).cls) ∈ lw_tbl) ∧ ((z_y mdX5_keeps).cls ≠ "java/lang/invoke/MethodHandle" ∧ (z_y mdX5_keeps).cls ≠ "java/lang/invoke/VarHandle" ∧ (parseMethodDescriptor (z_y mdX5_keeps).desc).map (fun q => q.parameters.length) = some 1) := ⟨⟨by decide +kernel, List.mem_of_getElem? (i := 771) (by decide +kernel), List.mem_of_getElem? (i := 83) (by decide +kernel)⟩, by decide +kernel, by decide +kernel, by decide +kernel⟩
theorem ci_X5_keeps : Cond.instanceMethod (z_y mdX5_keeps) ∈ lw_tbl := List.mem_of_getElem? (i := 770) (by decide +kernel)
theorem cv_X5_keeps : Cond.selects (z_y mdX5_keeps).cls (z_y mdX5_keeps) (z_y mdX5_keeps) ∈ lw_tbl := List.mem_of_getElem? (i := 47) (by decide +kernel)
theorem cb_X5_lays : (plainFor (z_y mdX5_lays) = true ∧ (Cond.code (z_y mdX5_lays) (z_cc mdX5_lays) (z_nl mdX5_lays) (z_rt mdX5_lays)) ∈ lw_tbl ∧ (Cond.initialized (z_y mdX5_lays).cls) ∈ lw_tbl) ∧ ((z_y mdX5_lays).cls ≠ "java/lang/invoke/MethodHandle" ∧ (z_y mdX5_lays).cls ≠ "java/lang/invoke/VarHandle" ∧ (parseMethodDescriptor (z_y mdX5_lays).desc).map (fun q => q.parameters.length) = some 2) := ⟨⟨by decide +kernel, List.mem_of_getElem? (i := 775) (by decide +kernel), List.mem_of_getElem? (i := 83) (by decide +kernel)⟩, by decide +kernel, by decide +kernel, by decide +kernel⟩
theorem ci_X5_lays : Cond.instanceMethod (z_y mdX5_lays) ∈ lw_tbl := List.mem_of_getElem? (i := 774) (by decide +kernel)
theorem cv_X5_lays : Cond.selects (z_y mdX5_lays).cls (z_y mdX5_lays) (z_y mdX5_lays) ∈ lw_tbl := List.mem_of_getElem? (i := 48) (by decide +kernel)
theorem cb_X5_anew : (plainFor (z_y mdX5_anew) = true ∧ (Cond.code (z_y mdX5_anew) (z_cc mdX5_anew) (z_nl mdX5_anew) (z_rt mdX5_anew)) ∈ lw_tbl ∧ (Cond.initialized (z_y mdX5_anew).cls) ∈ lw_tbl) ∧ ((z_y mdX5_anew).cls ≠ "java/lang/invoke/MethodHandle" ∧ (z_y mdX5_anew).cls ≠ "java/lang/invoke/VarHandle" ∧ (parseMethodDescriptor (z_y mdX5_anew).desc).map (fun q => q.parameters.length) = some 0) := ⟨⟨by decide +kernel, List.mem_of_getElem? (i := 779) (by decide +kernel), List.mem_of_getElem? (i := 83) (by decide +kernel)⟩, by decide +kernel, by decide +kernel, by decide +kernel⟩
theorem ci_X5_anew : Cond.instanceMethod (z_y mdX5_anew) ∈ lw_tbl := List.mem_of_getElem? (i := 777) (by decide +kernel)
theorem cv_X5_anew : Cond.selects (z_y mdX5_anew).cls (z_y mdX5_anew) (z_y mdX5_anew) ∈ lw_tbl := List.mem_of_getElem? (i := 778) (by decide +kernel)
theorem cb_X5_load : (plainFor (z_y mdX5_load) = true ∧ (Cond.code (z_y mdX5_load) (z_cc mdX5_load) (z_nl mdX5_load) (z_rt mdX5_load)) ∈ lw_tbl ∧ (Cond.initialized (z_y mdX5_load).cls) ∈ lw_tbl) ∧ ((z_y mdX5_load).cls ≠ "java/lang/invoke/MethodHandle" ∧ (z_y mdX5_load).cls ≠ "java/lang/invoke/VarHandle" ∧ (parseMethodDescriptor (z_y mdX5_load).desc).map (fun q => q.parameters.length) = some 2) := ⟨⟨by decide +kernel, List.mem_of_getElem? (i := 783) (by decide +kernel), List.mem_of_getElem? (i := 83) (by decide +kernel)⟩, by decide +kernel, by decide +kernel, by decide +kernel⟩
theorem ci_X5_load : Cond.instanceMethod (z_y mdX5_load) ∈ lw_tbl := List.mem_of_getElem? (i := 781) (by decide +kernel)
theorem cv_X5_load : Cond.selects (z_y mdX5_load).cls (z_y mdX5_load) (z_y mdX5_load) ∈ lw_tbl := List.mem_of_getElem? (i := 782) (by decide +kernel)
theorem cb_X5_isBox : (plainFor (z_y mdX5_isBox) = true ∧ (Cond.code (z_y mdX5_isBox) (z_cc mdX5_isBox) (z_nl mdX5_isBox) (z_rt mdX5_isBox)) ∈ lw_tbl ∧ (Cond.initialized (z_y mdX5_isBox).cls) ∈ lw_tbl) ∧ ((z_y mdX5_isBox).cls ≠ "java/lang/invoke/MethodHandle" ∧ (z_y mdX5_isBox).cls ≠ "java/lang/invoke/VarHandle" ∧ (parseMethodDescriptor (z_y mdX5_isBox).desc).map (fun q => q.parameters.length) = some 1) := ⟨⟨by decide +kernel, List.mem_of_getElem? (i := 786) (by decide +kernel), List.mem_of_getElem? (i := 83) (by decide +kernel)⟩, by decide +kernel, by decide +kernel, by decide +kernel⟩
theorem cs_X5_isBox : Cond.static (z_y mdX5_isBox) ∈ lw_tbl := List.mem_of_getElem? (i := 785) (by decide +kernel)
theorem cb_X5_isItem : (plainFor (z_y mdX5_isItem) = true ∧ (Cond.code (z_y mdX5_isItem) (z_cc mdX5_isItem) (z_nl mdX5_isItem) (z_rt mdX5_isItem)) ∈ lw_tbl ∧ (Cond.initialized (z_y mdX5_isItem).cls) ∈ lw_tbl) ∧ ((z_y mdX5_isItem).cls ≠ "java/lang/invoke/MethodHandle" ∧ (z_y mdX5_isItem).cls ≠ "java/lang/invoke/VarHandle" ∧ (parseMethodDescriptor (z_y mdX5_isItem).desc).map (fun q => q.parameters.length) = some 1) := ⟨⟨by decide +kernel, List.mem_of_getElem? (i := 789) (by decide +kernel), List.mem_of_getElem? (i := 83) (by decide +kernel)⟩, by decide +kernel, by decide +kernel, by decide +kernel⟩
theorem cs_X5_isItem : Cond.static (z_y mdX5_isItem) ∈ lw_tbl := List.mem_of_getElem? (i := 788) (by decide +kernel)
theorem cb_X5_done : (plainFor (z_y mdX5_done) = true ∧ (Cond.code (z_y mdX5_done) (z_cc mdX5_done) (z_nl mdX5_done) (z_rt mdX5_done)) ∈ lw_tbl ∧ (Cond.initialized (z_y mdX5_done).cls) ∈ lw_tbl) ∧ ((z_y mdX5_done).cls ≠ "java/lang/invoke/MethodHandle" ∧ (z_y mdX5_done).cls ≠ "java/lang/invoke/VarHandle" ∧ (parseMethodDescriptor (z_y mdX5_done).desc).map (fun q => q.parameters.length) = some 4) := ⟨⟨by decide +kernel, List.mem_of_getElem? (i := 793) (by decide +kernel), List.mem_of_getElem? (i := 83) (by decide +kernel)⟩, by decide +kernel, by decide +kernel, by decide +kernel⟩
theorem ci_X5_done : Cond.instanceMethod (z_y mdX5_done) ∈ lw_tbl := List.mem_of_getElem? (i := 792) (by decide +kernel)
theorem cv_X5_done : Cond.selects (z_y mdX5_done).cls (z_y mdX5_done) (z_y mdX5_done) ∈ lw_tbl := List.mem_of_getElem? (i := 49) (by decide +kernel)
theorem cb_X5_goesBy : (plainFor (z_y mdX5_goesBy) = true ∧ (Cond.code (z_y mdX5_goesBy) (z_cc mdX5_goesBy) (z_nl mdX5_goesBy) (z_rt mdX5_goesBy)) ∈ lw_tbl ∧ (Cond.initialized (z_y mdX5_goesBy).cls) ∈ lw_tbl) ∧ ((z_y mdX5_goesBy).cls ≠ "java/lang/invoke/MethodHandle" ∧ (z_y mdX5_goesBy).cls ≠ "java/lang/invoke/VarHandle" ∧ (parseMethodDescriptor (z_y mdX5_goesBy).desc).map (fun q => q.parameters.length) = some 0) := ⟨⟨by decide +kernel, List.mem_of_getElem? (i := 797) (by decide +kernel), List.mem_of_getElem? (i := 83) (by decide +kernel)⟩, by decide +kernel, by decide +kernel, by decide +kernel⟩
theorem ci_X5_goesBy : Cond.instanceMethod (z_y mdX5_goesBy) ∈ lw_tbl := List.mem_of_getElem? (i := 796) (by decide +kernel)
theorem cv_X5_goesBy : Cond.selects (z_y mdX5_goesBy).cls (z_y mdX5_goesBy) (z_y mdX5_goesBy) ∈ lw_tbl := List.mem_of_getElem? (i := 50) (by decide +kernel)
theorem cb_X5_comesTime : (plainFor (z_y mdX5_comesTime) = true ∧ (Cond.code (z_y mdX5_comesTime) (z_cc mdX5_comesTime) (z_nl mdX5_comesTime) (z_rt mdX5_comesTime)) ∈ lw_tbl ∧ (Cond.initialized (z_y mdX5_comesTime).cls) ∈ lw_tbl) ∧ ((z_y mdX5_comesTime).cls ≠ "java/lang/invoke/MethodHandle" ∧ (z_y mdX5_comesTime).cls ≠ "java/lang/invoke/VarHandle" ∧ (parseMethodDescriptor (z_y mdX5_comesTime).desc).map (fun q => q.parameters.length) = some 0) := ⟨⟨by decide +kernel, List.mem_of_getElem? (i := 801) (by decide +kernel), List.mem_of_getElem? (i := 83) (by decide +kernel)⟩, by decide +kernel, by decide +kernel, by decide +kernel⟩
theorem ci_X5_comesTime : Cond.instanceMethod (z_y mdX5_comesTime) ∈ lw_tbl := List.mem_of_getElem? (i := 800) (by decide +kernel)
theorem cv_X5_comesTime : Cond.selects (z_y mdX5_comesTime).cls (z_y mdX5_comesTime) (z_y mdX5_comesTime) ∈ lw_tbl := List.mem_of_getElem? (i := 51) (by decide +kernel)
theorem cb_X5_goesFar : (plainFor (z_y mdX5_goesFar) = true ∧ (Cond.code (z_y mdX5_goesFar) (z_cc mdX5_goesFar) (z_nl mdX5_goesFar) (z_rt mdX5_goesFar)) ∈ lw_tbl ∧ (Cond.initialized (z_y mdX5_goesFar).cls) ∈ lw_tbl) ∧ ((z_y mdX5_goesFar).cls ≠ "java/lang/invoke/MethodHandle" ∧ (z_y mdX5_goesFar).cls ≠ "java/lang/invoke/VarHandle" ∧ (parseMethodDescriptor (z_y mdX5_goesFar).desc).map (fun q => q.parameters.length) = some 1) := ⟨⟨by decide +kernel, List.mem_of_getElem? (i := 805) (by decide +kernel), List.mem_of_getElem? (i := 83) (by decide +kernel)⟩, by decide +kernel, by decide +kernel, by decide +kernel⟩
theorem ci_X5_goesFar : Cond.instanceMethod (z_y mdX5_goesFar) ∈ lw_tbl := List.mem_of_getElem? (i := 804) (by decide +kernel)
theorem cv_X5_goesFar : Cond.selects (z_y mdX5_goesFar).cls (z_y mdX5_goesFar) (z_y mdX5_goesFar) ∈ lw_tbl := List.mem_of_getElem? (i := 52) (by decide +kernel)
theorem cb_X5_comesFetched : (plainFor (z_y mdX5_comesFetched) = true ∧ (Cond.code (z_y mdX5_comesFetched) (z_cc mdX5_comesFetched) (z_nl mdX5_comesFetched) (z_rt mdX5_comesFetched)) ∈ lw_tbl ∧ (Cond.initialized (z_y mdX5_comesFetched).cls) ∈ lw_tbl) ∧ ((z_y mdX5_comesFetched).cls ≠ "java/lang/invoke/MethodHandle" ∧ (z_y mdX5_comesFetched).cls ≠ "java/lang/invoke/VarHandle" ∧ (parseMethodDescriptor (z_y mdX5_comesFetched).desc).map (fun q => q.parameters.length) = some 1) := ⟨⟨by decide +kernel, List.mem_of_getElem? (i := 810) (by decide +kernel), List.mem_of_getElem? (i := 83) (by decide +kernel)⟩, by decide +kernel, by decide +kernel, by decide +kernel⟩
theorem ci_X5_comesFetched : Cond.instanceMethod (z_y mdX5_comesFetched) ∈ lw_tbl := List.mem_of_getElem? (i := 809) (by decide +kernel)
theorem cv_X5_comesFetched : Cond.selects (z_y mdX5_comesFetched).cls (z_y mdX5_comesFetched) (z_y mdX5_comesFetched) ∈ lw_tbl := List.mem_of_getElem? (i := 53) (by decide +kernel)
theorem cb_X5_comesNear : (plainFor (z_y mdX5_comesNear) = true ∧ (Cond.code (z_y mdX5_comesNear) (z_cc mdX5_comesNear) (z_nl mdX5_comesNear) (z_rt mdX5_comesNear)) ∈ lw_tbl ∧ (Cond.initialized (z_y mdX5_comesNear).cls) ∈ lw_tbl) ∧ ((z_y mdX5_comesNear).cls ≠ "java/lang/invoke/MethodHandle" ∧ (z_y mdX5_comesNear).cls ≠ "java/lang/invoke/VarHandle" ∧ (parseMethodDescriptor (z_y mdX5_comesNear).desc).map (fun q => q.parameters.length) = some 1) := ⟨⟨by decide +kernel, List.mem_of_getElem? (i := 814) (by decide +kernel), List.mem_of_getElem? (i := 83) (by decide +kernel)⟩, by decide +kernel, by decide +kernel, by decide +kernel⟩
theorem ci_X5_comesNear : Cond.instanceMethod (z_y mdX5_comesNear) ∈ lw_tbl := List.mem_of_getElem? (i := 813) (by decide +kernel)
theorem cv_X5_comesNear : Cond.selects (z_y mdX5_comesNear).cls (z_y mdX5_comesNear) (z_y mdX5_comesNear) ∈ lw_tbl := List.mem_of_getElem? (i := 54) (by decide +kernel)
theorem cb_X5_rowOf : (plainFor (z_y mdX5_rowOf) = true ∧ (Cond.code (z_y mdX5_rowOf) (z_cc mdX5_rowOf) (z_nl mdX5_rowOf) (z_rt mdX5_rowOf)) ∈ lw_tbl ∧ (Cond.initialized (z_y mdX5_rowOf).cls) ∈ lw_tbl) ∧ ((z_y mdX5_rowOf).cls ≠ "java/lang/invoke/MethodHandle" ∧ (z_y mdX5_rowOf).cls ≠ "java/lang/invoke/VarHandle" ∧ (parseMethodDescriptor (z_y mdX5_rowOf).desc).map (fun q => q.parameters.length) = some 1) := ⟨⟨by decide +kernel, List.mem_of_getElem? (i := 817) (by decide +kernel), List.mem_of_getElem? (i := 83) (by decide +kernel)⟩, by decide +kernel, by decide +kernel, by decide +kernel⟩
theorem cs_X5_rowOf : Cond.static (z_y mdX5_rowOf) ∈ lw_tbl := List.mem_of_getElem? (i := 816) (by decide +kernel)
theorem cb_X5_makesRoom : (plainFor (z_y mdX5_makesRoom) = true ∧ (Cond.code (z_y mdX5_makesRoom) (z_cc mdX5_makesRoom) (z_nl mdX5_makesRoom) (z_rt mdX5_makesRoom)) ∈ lw_tbl ∧ (Cond.initialized (z_y mdX5_makesRoom).cls) ∈ lw_tbl) ∧ ((z_y mdX5_makesRoom).cls ≠ "java/lang/invoke/MethodHandle" ∧ (z_y mdX5_makesRoom).cls ≠ "java/lang/invoke/VarHandle" ∧ (parseMethodDescriptor (z_y mdX5_makesRoom).desc).map (fun q => q.parameters.length) = some 1) := ⟨⟨by decide +kernel, List.mem_of_getElem? (i := 821) (by decide +kernel), List.mem_of_getElem? (i := 83) (by decide +kernel)⟩, by decide +kernel, by decide +kernel, by decide +kernel⟩
theorem ci_X5_makesRoom : Cond.instanceMethod (z_y mdX5_makesRoom) ∈ lw_tbl := List.mem_of_getElem? (i := 820) (by decide +kernel)
theorem cv_X5_makesRoom : Cond.selects (z_y mdX5_makesRoom).cls (z_y mdX5_makesRoom) (z_y mdX5_makesRoom) ∈ lw_tbl := List.mem_of_getElem? (i := 55) (by decide +kernel)
theorem cb_X5_halfLong : (plainFor (z_y mdX5_halfLong) = true ∧ (Cond.code (z_y mdX5_halfLong) (z_cc mdX5_halfLong) (z_nl mdX5_halfLong) (z_rt mdX5_halfLong)) ∈ lw_tbl ∧ (Cond.initialized (z_y mdX5_halfLong).cls) ∈ lw_tbl) ∧ ((z_y mdX5_halfLong).cls ≠ "java/lang/invoke/MethodHandle" ∧ (z_y mdX5_halfLong).cls ≠ "java/lang/invoke/VarHandle" ∧ (parseMethodDescriptor (z_y mdX5_halfLong).desc).map (fun q => q.parameters.length) = some 0) := ⟨⟨by decide +kernel, List.mem_of_getElem? (i := 825) (by decide +kernel), List.mem_of_getElem? (i := 83) (by decide +kernel)⟩, by decide +kernel, by decide +kernel, by decide +kernel⟩
theorem ci_X5_halfLong : Cond.instanceMethod (z_y mdX5_halfLong) ∈ lw_tbl := List.mem_of_getElem? (i := 824) (by decide +kernel)
theorem cv_X5_halfLong : Cond.selects (z_y mdX5_halfLong).cls (z_y mdX5_halfLong) (z_y mdX5_halfLong) ∈ lw_tbl := List.mem_of_getElem? (i := 56) (by decide +kernel)
theorem cb_X5_laysIn : (plainFor (z_y mdX5_laysIn) = true ∧ (Cond.code (z_y mdX5_laysIn) (z_cc mdX5_laysIn) (z_nl mdX5_laysIn) (z_rt mdX5_laysIn)) ∈ lw_tbl ∧ (Cond.initialized (z_y mdX5_laysIn).cls) ∈ lw_tbl) ∧ ((z_y mdX5_laysIn).cls ≠ "java/lang/invoke/MethodHandle" ∧ (z_y mdX5_laysIn).cls ≠ "java/lang/invoke/VarHandle" ∧ (parseMethodDescriptor (z_y mdX5_laysIn).desc).map (fun q => q.parameters.length) = some 3) := ⟨⟨by decide +kernel, List.mem_of_getElem? (i := 829) (by decide +kernel), List.mem_of_getElem? (i := 83) (by decide +kernel)⟩, by decide +kernel, by decide +kernel, by decide +kernel⟩
theorem ci_X5_laysIn : Cond.instanceMethod (z_y mdX5_laysIn) ∈ lw_tbl := List.mem_of_getElem? (i := 828) (by decide +kernel)
theorem cv_X5_laysIn : Cond.selects (z_y mdX5_laysIn).cls (z_y mdX5_laysIn) (z_y mdX5_laysIn) ∈ lw_tbl := List.mem_of_getElem? (i := 57) (by decide +kernel)
theorem cb_X5_getsItem : (plainFor (z_y mdX5_getsItem) = true ∧ (Cond.code (z_y mdX5_getsItem) (z_cc mdX5_getsItem) (z_nl mdX5_getsItem) (z_rt mdX5_getsItem)) ∈ lw_tbl ∧ (Cond.initialized (z_y mdX5_getsItem).cls) ∈ lw_tbl) ∧ ((z_y mdX5_getsItem).cls ≠ "java/lang/invoke/MethodHandle" ∧ (z_y mdX5_getsItem).cls ≠ "java/lang/invoke/VarHandle" ∧ (parseMethodDescriptor (z_y mdX5_getsItem).desc).map (fun q => q.parameters.length) = some 4) := ⟨⟨by decide +kernel, List.mem_of_getElem? (i := 833) (by decide +kernel), List.mem_of_getElem? (i := 83) (by decide +kernel)⟩, by decide +kernel, by decide +kernel, by decide +kernel⟩
theorem ci_X5_getsItem : Cond.instanceMethod (z_y mdX5_getsItem) ∈ lw_tbl := List.mem_of_getElem? (i := 832) (by decide +kernel)
theorem cv_X5_getsItem : Cond.selects (z_y mdX5_getsItem).cls (z_y mdX5_getsItem) (z_y mdX5_getsItem) ∈ lw_tbl := List.mem_of_getElem? (i := 58) (by decide +kernel)
theorem cb_X5_beginsNow : (plainFor (z_y mdX5_beginsNow) = true ∧ (Cond.code (z_y mdX5_beginsNow) (z_cc mdX5_beginsNow) (z_nl mdX5_beginsNow) (z_rt mdX5_beginsNow)) ∈ lw_tbl ∧ (Cond.initialized (z_y mdX5_beginsNow).cls) ∈ lw_tbl) ∧ ((z_y mdX5_beginsNow).cls ≠ "java/lang/invoke/MethodHandle" ∧ (z_y mdX5_beginsNow).cls ≠ "java/lang/invoke/VarHandle" ∧ (parseMethodDescriptor (z_y mdX5_beginsNow).desc).map (fun q => q.parameters.length) = some 4) := ⟨⟨by decide +kernel, List.mem_of_getElem? (i := 837) (by decide +kernel), List.mem_of_getElem? (i := 83) (by decide +kernel)⟩, by decide +kernel, by decide +kernel, by decide +kernel⟩
theorem ci_X5_beginsNow : Cond.instanceMethod (z_y mdX5_beginsNow) ∈ lw_tbl := List.mem_of_getElem? (i := 836) (by decide +kernel)
theorem cv_X5_beginsNow : Cond.selects (z_y mdX5_beginsNow).cls (z_y mdX5_beginsNow) (z_y mdX5_beginsNow) ∈ lw_tbl := List.mem_of_getElem? (i := 59) (by decide +kernel)
theorem cb_X5_counts : (plainFor (z_y mdX5_counts) = true ∧ (Cond.code (z_y mdX5_counts) (z_cc mdX5_counts) (z_nl mdX5_counts) (z_rt mdX5_counts)) ∈ lw_tbl ∧ (Cond.initialized (z_y mdX5_counts).cls) ∈ lw_tbl) ∧ ((z_y mdX5_counts).cls ≠ "java/lang/invoke/MethodHandle" ∧ (z_y mdX5_counts).cls ≠ "java/lang/invoke/VarHandle" ∧ (parseMethodDescriptor (z_y mdX5_counts).desc).map (fun q => q.parameters.length) = some 1) := ⟨⟨by decide +kernel, List.mem_of_getElem? (i := 841) (by decide +kernel), List.mem_of_getElem? (i := 83) (by decide +kernel)⟩, by decide +kernel, by decide +kernel, by decide +kernel⟩
theorem ci_X5_counts : Cond.instanceMethod (z_y mdX5_counts) ∈ lw_tbl := List.mem_of_getElem? (i := 840) (by decide +kernel)
theorem cv_X5_counts : Cond.selects (z_y mdX5_counts).cls (z_y mdX5_counts) (z_y mdX5_counts) ∈ lw_tbl := List.mem_of_getElem? (i := 60) (by decide +kernel)
theorem cb_X5_does : (plainFor (z_y mdX5_does) = true ∧ (Cond.code (z_y mdX5_does) (z_cc mdX5_does) (z_nl mdX5_does) (z_rt mdX5_does)) ∈ lw_tbl ∧ (Cond.initialized (z_y mdX5_does).cls) ∈ lw_tbl) ∧ ((z_y mdX5_does).cls ≠ "java/lang/invoke/MethodHandle" ∧ (z_y mdX5_does).cls ≠ "java/lang/invoke/VarHandle" ∧ (parseMethodDescriptor (z_y mdX5_does).desc).map (fun q => q.parameters.length) = some 4) := ⟨⟨by decide +kernel, List.mem_of_getElem? (i := 845) (by decide +kernel), List.mem_of_getElem? (i := 83) (by decide +kernel)⟩, by decide +kernel, by decide +kernel, by decide +kernel⟩
theorem ci_X5_does : Cond.instanceMethod (z_y mdX5_does) ∈ lw_tbl := List.mem_of_getElem? (i := 844) (by decide +kernel)
theorem cv_X5_does : Cond.selects (z_y mdX5_does).cls (z_y mdX5_does) (z_y mdX5_does) ∈ lw_tbl := List.mem_of_getElem? (i := 61) (by decide +kernel)
theorem cb_X5_numberOf : (plainFor (z_y mdX5_numberOf) = true ∧ (Cond.code (z_y mdX5_numberOf) (z_cc mdX5_numberOf) (z_nl mdX5_numberOf) (z_rt mdX5_numberOf)) ∈ lw_tbl ∧ (Cond.initialized (z_y mdX5_numberOf).cls) ∈ lw_tbl) ∧ ((z_y mdX5_numberOf).cls ≠ "java/lang/invoke/MethodHandle" ∧ (z_y mdX5_numberOf).cls ≠ "java/lang/invoke/VarHandle" ∧ (parseMethodDescriptor (z_y mdX5_numberOf).desc).map (fun q => q.parameters.length) = some 1) := ⟨⟨by decide +kernel, List.mem_of_getElem? (i := 849) (by decide +kernel), List.mem_of_getElem? (i := 83) (by decide +kernel)⟩, by decide +kernel, by decide +kernel, by decide +kernel⟩
theorem ci_X5_numberOf : Cond.instanceMethod (z_y mdX5_numberOf) ∈ lw_tbl := List.mem_of_getElem? (i := 848) (by decide +kernel)
theorem cv_X5_numberOf : Cond.selects (z_y mdX5_numberOf).cls (z_y mdX5_numberOf) (z_y mdX5_numberOf) ∈ lw_tbl := List.mem_of_getElem? (i := 62) (by decide +kernel)
theorem cb_X5_counted : (plainFor (z_y mdX5_counted) = true ∧ (Cond.code (z_y mdX5_counted) (z_cc mdX5_counted) (z_nl mdX5_counted) (z_rt mdX5_counted)) ∈ lw_tbl ∧ (Cond.initialized (z_y mdX5_counted).cls) ∈ lw_tbl) ∧ ((z_y mdX5_counted).cls ≠ "java/lang/invoke/MethodHandle" ∧ (z_y mdX5_counted).cls ≠ "java/lang/invoke/VarHandle" ∧ (parseMethodDescriptor (z_y mdX5_counted).desc).map (fun q => q.parameters.length) = some 2) := ⟨⟨by decide +kernel, List.mem_of_getElem? (i := 854) (by decide +kernel), List.mem_of_getElem? (i := 83) (by decide +kernel)⟩, by decide +kernel, by decide +kernel, by decide +kernel⟩
theorem ci_X5_counted : Cond.instanceMethod (z_y mdX5_counted) ∈ lw_tbl := List.mem_of_getElem? (i := 853) (by decide +kernel)
theorem cv_X5_counted : Cond.selects (z_y mdX5_counted).cls (z_y mdX5_counted) (z_y mdX5_counted) ∈ lw_tbl := List.mem_of_getElem? (i := 63) (by decide +kernel)
theorem cb_X5_asks : (plainFor (z_y mdX5_asks) = true ∧ (Cond.code (z_y mdX5_asks) (z_cc mdX5_asks) (z_nl mdX5_asks) (z_rt mdX5_asks)) ∈ lw_tbl ∧ (Cond.initialized (z_y mdX5_asks).cls) ∈ lw_tbl) ∧ ((z_y mdX5_asks).cls ≠ "java/lang/invoke/MethodHandle" ∧ (z_y mdX5_asks).cls ≠ "java/lang/invoke/VarHandle" ∧ (parseMethodDescriptor (z_y mdX5_asks).desc).map (fun q => q.parameters.length) = some 4) := ⟨⟨by decide +kernel, List.mem_of_getElem? (i := 859) (by decide +kernel), List.mem_of_getElem? (i := 83) (by decide +kernel)⟩, by decide +kernel, by decide +kernel, by decide +kernel⟩
theorem ci_X5_asks : Cond.instanceMethod (z_y mdX5_asks) ∈ lw_tbl := List.mem_of_getElem? (i := 858) (by decide +kernel)
theorem cv_X5_asks : Cond.selects (z_y mdX5_asks).cls (z_y mdX5_asks) (z_y mdX5_asks) ∈ lw_tbl := List.mem_of_getElem? (i := 64) (by decide +kernel)
theorem cb_X5_store : (plainFor (z_y mdX5_store) = true ∧ (Cond.code (z_y mdX5_store) (z_cc mdX5_store) (z_nl mdX5_store) (z_rt mdX5_store)) ∈ lw_tbl ∧ (Cond.initialized (z_y mdX5_store).cls) ∈ lw_tbl) ∧ ((z_y mdX5_store).cls ≠ "java/lang/invoke/MethodHandle" ∧ (z_y mdX5_store).cls ≠ "java/lang/invoke/VarHandle" ∧ (parseMethodDescriptor (z_y mdX5_store).desc).map (fun q => q.parameters.length) = some 3) := ⟨⟨by decide +kernel, List.mem_of_getElem? (i := 866) (by decide +kernel), List.mem_of_getElem? (i := 83) (by decide +kernel)⟩, by decide +kernel, by decide +kernel, by decide +kernel⟩
theorem ci_X5_store : Cond.instanceMethod (z_y mdX5_store) ∈ lw_tbl := List.mem_of_getElem? (i := 864) (by decide +kernel)
theorem cv_X5_store : Cond.selects (z_y mdX5_store).cls (z_y mdX5_store) (z_y mdX5_store) ∈ lw_tbl := List.mem_of_getElem? (i := 865) (by decide +kernel)
theorem cb_X5_fence : (plainFor (z_y mdX5_fence) = true ∧ (Cond.code (z_y mdX5_fence) (z_cc mdX5_fence) (z_nl mdX5_fence) (z_rt mdX5_fence)) ∈ lw_tbl ∧ (Cond.initialized (z_y mdX5_fence).cls) ∈ lw_tbl) ∧ ((z_y mdX5_fence).cls ≠ "java/lang/invoke/MethodHandle" ∧ (z_y mdX5_fence).cls ≠ "java/lang/invoke/VarHandle" ∧ (parseMethodDescriptor (z_y mdX5_fence).desc).map (fun q => q.parameters.length) = some 0) := ⟨⟨by decide +kernel, List.mem_of_getElem? (i := 870) (by decide +kernel), List.mem_of_getElem? (i := 83) (by decide +kernel)⟩, by decide +kernel, by decide +kernel, by decide +kernel⟩
theorem ci_X5_fence : Cond.instanceMethod (z_y mdX5_fence) ∈ lw_tbl := List.mem_of_getElem? (i := 868) (by decide +kernel)
theorem cv_X5_fence : Cond.selects (z_y mdX5_fence).cls (z_y mdX5_fence) (z_y mdX5_fence) ∈ lw_tbl := List.mem_of_getElem? (i := 869) (by decide +kernel)
theorem cb_X5_ticks : (plainFor (z_y mdX5_ticks) = true ∧ (Cond.code (z_y mdX5_ticks) (z_cc mdX5_ticks) (z_nl mdX5_ticks) (z_rt mdX5_ticks)) ∈ lw_tbl ∧ (Cond.initialized (z_y mdX5_ticks).cls) ∈ lw_tbl) ∧ ((z_y mdX5_ticks).cls ≠ "java/lang/invoke/MethodHandle" ∧ (z_y mdX5_ticks).cls ≠ "java/lang/invoke/VarHandle" ∧ (parseMethodDescriptor (z_y mdX5_ticks).desc).map (fun q => q.parameters.length) = some 1) := ⟨⟨by decide +kernel, List.mem_of_getElem? (i := 874) (by decide +kernel), List.mem_of_getElem? (i := 83) (by decide +kernel)⟩, by decide +kernel, by decide +kernel, by decide +kernel⟩
theorem ci_X5_ticks : Cond.instanceMethod (z_y mdX5_ticks) ∈ lw_tbl := List.mem_of_getElem? (i := 872) (by decide +kernel)
theorem cv_X5_ticks : Cond.selects (z_y mdX5_ticks).cls (z_y mdX5_ticks) (z_y mdX5_ticks) ∈ lw_tbl := List.mem_of_getElem? (i := 873) (by decide +kernel)
theorem cb_X5_draw : (plainFor (z_y mdX5_draw) = true ∧ (Cond.code (z_y mdX5_draw) (z_cc mdX5_draw) (z_nl mdX5_draw) (z_rt mdX5_draw)) ∈ lw_tbl ∧ (Cond.initialized (z_y mdX5_draw).cls) ∈ lw_tbl) ∧ ((z_y mdX5_draw).cls ≠ "java/lang/invoke/MethodHandle" ∧ (z_y mdX5_draw).cls ≠ "java/lang/invoke/VarHandle" ∧ (parseMethodDescriptor (z_y mdX5_draw).desc).map (fun q => q.parameters.length) = some 2) := ⟨⟨by decide +kernel, List.mem_of_getElem? (i := 878) (by decide +kernel), List.mem_of_getElem? (i := 83) (by decide +kernel)⟩, by decide +kernel, by decide +kernel, by decide +kernel⟩
theorem ci_X5_draw : Cond.instanceMethod (z_y mdX5_draw) ∈ lw_tbl := List.mem_of_getElem? (i := 876) (by decide +kernel)
theorem cv_X5_draw : Cond.selects (z_y mdX5_draw).cls (z_y mdX5_draw) (z_y mdX5_draw) ∈ lw_tbl := List.mem_of_getElem? (i := 877) (by decide +kernel)
theorem cb_X5_got : (plainFor (z_y mdX5_got) = true ∧ (Cond.code (z_y mdX5_got) (z_cc mdX5_got) (z_nl mdX5_got) (z_rt mdX5_got)) ∈ lw_tbl ∧ (Cond.initialized (z_y mdX5_got).cls) ∈ lw_tbl) ∧ ((z_y mdX5_got).cls ≠ "java/lang/invoke/MethodHandle" ∧ (z_y mdX5_got).cls ≠ "java/lang/invoke/VarHandle" ∧ (parseMethodDescriptor (z_y mdX5_got).desc).map (fun q => q.parameters.length) = some 2) := ⟨⟨by decide +kernel, List.mem_of_getElem? (i := 894) (by decide +kernel), List.mem_of_getElem? (i := 83) (by decide +kernel)⟩, by decide +kernel, by decide +kernel, by decide +kernel⟩
theorem ci_X5_got : Cond.instanceMethod (z_y mdX5_got) ∈ lw_tbl := List.mem_of_getElem? (i := 892) (by decide +kernel)
theorem cv_X5_got : Cond.selects (z_y mdX5_got).cls (z_y mdX5_got) (z_y mdX5_got) ∈ lw_tbl := List.mem_of_getElem? (i := 893) (by decide +kernel)
theorem cb_X5_often : (plainFor (z_y mdX5_often) = true ∧ (Cond.code (z_y mdX5_often) (z_cc mdX5_often) (z_nl mdX5_often) (z_rt mdX5_often)) ∈ lw_tbl ∧ (Cond.initialized (z_y mdX5_often).cls) ∈ lw_tbl) ∧ ((z_y mdX5_often).cls ≠ "java/lang/invoke/MethodHandle" ∧ (z_y mdX5_often).cls ≠ "java/lang/invoke/VarHandle" ∧ (parseMethodDescriptor (z_y mdX5_often).desc).map (fun q => q.parameters.length) = some 1) := ⟨⟨by decide +kernel, List.mem_of_getElem? (i := 898) (by decide +kernel), List.mem_of_getElem? (i := 83) (by decide +kernel)⟩, by decide +kernel, by decide +kernel, by decide +kernel⟩
theorem ci_X5_often : Cond.instanceMethod (z_y mdX5_often) ∈ lw_tbl := List.mem_of_getElem? (i := 896) (by decide +kernel)
theorem cv_X5_often : Cond.selects (z_y mdX5_often).cls (z_y mdX5_often) (z_y mdX5_often) ∈ lw_tbl := List.mem_of_getElem? (i := 897) (by decide +kernel)
theorem cb_X5_where : (plainFor (z_y mdX5_where) = true ∧ (Cond.code (z_y mdX5_where) (z_cc mdX5_where) (z_nl mdX5_where) (z_rt mdX5_where)) ∈ lw_tbl ∧ (Cond.initialized (z_y mdX5_where).cls) ∈ lw_tbl) ∧ ((z_y mdX5_where).cls ≠ "java/lang/invoke/MethodHandle" ∧ (z_y mdX5_where).cls ≠ "java/lang/invoke/VarHandle" ∧ (parseMethodDescriptor (z_y mdX5_where).desc).map (fun q => q.parameters.length) = some 1) := ⟨⟨by decide +kernel, List.mem_of_getElem? (i := 902) (by decide +kernel), List.mem_of_getElem? (i := 83) (by decide +kernel)⟩, by decide +kernel, by decide +kernel, by decide +kernel⟩
theorem ci_X5_where : Cond.instanceMethod (z_y mdX5_where) ∈ lw_tbl := List.mem_of_getElem? (i := 900) (by decide +kernel)
theorem cv_X5_where : Cond.selects (z_y mdX5_where).cls (z_y mdX5_where) (z_y mdX5_where) ∈ lw_tbl := List.mem_of_getElem? (i := 901) (by decide +kernel)
theorem cb_X5_item : (plainFor (z_y mdX5_item) = true ∧ (Cond.code (z_y mdX5_item) (z_cc mdX5_item) (z_nl mdX5_item) (z_rt mdX5_item)) ∈ lw_tbl ∧ (Cond.initialized (z_y mdX5_item).cls) ∈ lw_tbl) ∧ ((z_y mdX5_item).cls ≠ "java/lang/invoke/MethodHandle" ∧ (z_y mdX5_item).cls ≠ "java/lang/invoke/VarHandle" ∧ (parseMethodDescriptor (z_y mdX5_item).desc).map (fun q => q.parameters.length) = some 3) := ⟨⟨by decide +kernel, List.mem_of_getElem? (i := 906) (by decide +kernel), List.mem_of_getElem? (i := 83) (by decide +kernel)⟩, by decide +kernel, by decide +kernel, by decide +kernel⟩
theorem ci_X5_item : Cond.instanceMethod (z_y mdX5_item) ∈ lw_tbl := List.mem_of_getElem? (i := 904) (by decide +kernel)
theorem cv_X5_item : Cond.selects (z_y mdX5_item).cls (z_y mdX5_item) (z_y mdX5_item) ∈ lw_tbl := List.mem_of_getElem? (i := 905) (by decide +kernel)
theorem cb_X5_atLast : (plainFor (z_y mdX5_atLast) = true ∧ (Cond.code (z_y mdX5_atLast) (z_cc mdX5_atLast) (z_nl mdX5_atLast) (z_rt mdX5_atLast)) ∈ lw_tbl ∧ (Cond.initialized (z_y mdX5_atLast).cls) ∈ lw_tbl) ∧ ((z_y mdX5_atLast).cls ≠ "java/lang/invoke/MethodHandle" ∧ (z_y mdX5_atLast).cls ≠ "java/lang/invoke/VarHandle" ∧ (parseMethodDescriptor (z_y mdX5_atLast).desc).map (fun q => q.parameters.length) = some 2) := ⟨⟨by decide +kernel, List.mem_of_getElem? (i := 910) (by decide +kernel), List.mem_of_getElem? (i := 83) (by decide +kernel)⟩, by decide +kernel, by decide +kernel, by decide +kernel⟩
theorem ci_X5_atLast : Cond.instanceMethod (z_y mdX5_atLast) ∈ lw_tbl := List.mem_of_getElem? (i := 909) (by decide +kernel)
theorem cv_X5_atLast : Cond.selects (z_y mdX5_atLast).cls (z_y mdX5_atLast) (z_y mdX5_atLast) ∈ lw_tbl := List.mem_of_getElem? (i := 65) (by decide +kernel)
theorem cb_X5_place : (plainFor (z_y mdX5_place) = true ∧ (Cond.code (z_y mdX5_place) (z_cc mdX5_place) (z_nl mdX5_place) (z_rt mdX5_place)) ∈ lw_tbl ∧ (Cond.initialized (z_y mdX5_place).cls) ∈ lw_tbl) ∧ ((z_y mdX5_place).cls ≠ "java/lang/invoke/MethodHandle" ∧ (z_y mdX5_place).cls ≠ "java/lang/invoke/VarHandle" ∧ (parseMethodDescriptor (z_y mdX5_place).desc).map (fun q => q.parameters.length) = some 2) := ⟨⟨by decide +kernel, List.mem_of_getElem? (i := 914) (by decide +kernel), List.mem_of_getElem? (i := 83) (by decide +kernel)⟩, by decide +kernel, by decide +kernel, by decide +kernel⟩
theorem ci_X5_place : Cond.instanceMethod (z_y mdX5_place) ∈ lw_tbl := List.mem_of_getElem? (i := 912) (by decide +kernel)
theorem cv_X5_place : Cond.selects (z_y mdX5_place).cls (z_y mdX5_place) (z_y mdX5_place) ∈ lw_tbl := List.mem_of_getElem? (i := 913) (by decide +kernel)
theorem cb_X5_fetch : (plainFor (z_y mdX5_fetch) = true ∧ (Cond.code (z_y mdX5_fetch) (z_cc mdX5_fetch) (z_nl mdX5_fetch) (z_rt mdX5_fetch)) ∈ lw_tbl ∧ (Cond.initialized (z_y mdX5_fetch).cls) ∈ lw_tbl) ∧ ((z_y mdX5_fetch).cls ≠ "java/lang/invoke/MethodHandle" ∧ (z_y mdX5_fetch).cls ≠ "java/lang/invoke/VarHandle" ∧ (parseMethodDescriptor (z_y mdX5_fetch).desc).map (fun q => q.parameters.length) = some 2) := ⟨⟨by decide +kernel, List.mem_of_getElem? (i := 918) (by decide +kernel), List.mem_of_getElem? (i := 83) (by decide +kernel)⟩, by decide +kernel, by decide +kernel, by decide +kernel⟩
theorem ci_X5_fetch : Cond.instanceMethod (z_y mdX5_fetch) ∈ lw_tbl := List.mem_of_getElem? (i := 916) (by decide +kernel)
theorem cv_X5_fetch : Cond.selects (z_y mdX5_fetch).cls (z_y mdX5_fetch) (z_y mdX5_fetch) ∈ lw_tbl := List.mem_of_getElem? (i := 917) (by decide +kernel)
theorem cb_X5_cost : (plainFor (z_y mdX5_cost) = true ∧ (Cond.code (z_y mdX5_cost) (z_cc mdX5_cost) (z_nl mdX5_cost) (z_rt mdX5_cost)) ∈ lw_tbl ∧ (Cond.initialized (z_y mdX5_cost).cls) ∈ lw_tbl) ∧ ((z_y mdX5_cost).cls ≠ "java/lang/invoke/MethodHandle" ∧ (z_y mdX5_cost).cls ≠ "java/lang/invoke/VarHandle" ∧ (parseMethodDescriptor (z_y mdX5_cost).desc).map (fun q => q.parameters.length) = some 1) := ⟨⟨by decide +kernel, List.mem_of_getElem? (i := 922) (by decide +kernel), List.mem_of_getElem? (i := 83) (by decide +kernel)⟩, by decide +kernel, by decide +kernel, by decide +kernel⟩
theorem ci_X5_cost : Cond.instanceMethod (z_y mdX5_cost) ∈ lw_tbl := List.mem_of_getElem? (i := 920) (by decide +kernel)
theorem cv_X5_cost : Cond.selects (z_y mdX5_cost).cls (z_y mdX5_cost) (z_y mdX5_cost) ∈ lw_tbl := List.mem_of_getElem? (i := 921) (by decide +kernel)
theorem cb_X5_costBy : (plainFor (z_y mdX5_costBy) = true ∧ (Cond.code (z_y mdX5_costBy) (z_cc mdX5_costBy) (z_nl mdX5_costBy) (z_rt mdX5_costBy)) ∈ lw_tbl ∧ (Cond.initialized (z_y mdX5_costBy).cls) ∈ lw_tbl) ∧ ((z_y mdX5_costBy).cls ≠ "java/lang/invoke/MethodHandle" ∧ (z_y mdX5_costBy).cls ≠ "java/lang/invoke/VarHandle" ∧ (parseMethodDescriptor (z_y mdX5_costBy).desc).map (fun q => q.parameters.length) = some 1) := ⟨⟨by decide +kernel, List.mem_of_getElem? (i := 926) (by decide +kernel), List.mem_of_getElem? (i := 83) (by decide +kernel)⟩, by decide +kernel, by decide +kernel, by decide +kernel⟩
theorem ci_X5_costBy : Cond.instanceMethod (z_y mdX5_costBy) ∈ lw_tbl := List.mem_of_getElem? (i := 925) (by decide +kernel)
theorem cv_X5_costBy : Cond.selects (z_y mdX5_costBy).cls (z_y mdX5_costBy) (z_y mdX5_costBy) ∈ lw_tbl := List.mem_of_getElem? (i := 66) (by decide +kernel)
theorem cb_Jxf58ca_floatToIntBits_5c35a : (plainFor (z_y mdJxf58ca_floatToIntBits_5c35a) = true ∧ (Cond.code (z_y mdJxf58ca_floatToIntBits_5c35a) (z_cc mdJxf58ca_floatToIntBits_5c35a) (z_nl mdJxf58ca_floatToIntBits_5c35a) (z_rt mdJxf58ca_floatToIntBits_5c35a)) ∈ lw_tbl ∧ (Cond.initialized (z_y mdJxf58ca_floatToIntBits_5c35a).cls) ∈ lw_tbl) ∧ ((z_y mdJxf58ca_floatToIntBits_5c35a).cls ≠ "java/lang/invoke/MethodHandle" ∧ (z_y mdJxf58ca_floatToIntBits_5c35a).cls ≠ "java/lang/invoke/VarHandle" ∧ (parseMethodDescriptor (z_y mdJxf58ca_floatToIntBits_5c35a).desc).map (fun q => q.parameters.length) = some 1) := ⟨⟨by decide +kernel, List.mem_of_getElem? (i := 929) (by decide +kernel), List.mem_of_getElem? (i := 85) (by decide +kernel)⟩, by decide +kernel, by decide +kernel, by decide +kernel⟩
theorem cs_Jxf58ca_floatToIntBits_5c35a : Cond.static (z_y mdJxf58ca_floatToIntBits_5c35a) ∈ lw_tbl := List.mem_of_getElem? (i := 928) (by decide +kernel)
theorem cb_Jxf58ca_isNaN_12338 : (plainFor (z_y mdJxf58ca_isNaN_12338) = true ∧ (Cond.code (z_y mdJxf58ca_isNaN_12338) (z_cc mdJxf58ca_isNaN_12338) (z_nl mdJxf58ca_isNaN_12338) (z_rt mdJxf58ca_isNaN_12338)) ∈ lw_tbl ∧ (Cond.initialized (z_y mdJxf58ca_isNaN_12338).cls) ∈ lw_tbl) ∧ ((z_y mdJxf58ca_isNaN_12338).cls ≠ "java/lang/invoke/MethodHandle" ∧ (z_y mdJxf58ca_isNaN_12338).cls ≠ "java/lang/invoke/VarHandle" ∧ (parseMethodDescriptor (z_y mdJxf58ca_isNaN_12338).desc).map (fun q => q.parameters.length) = some 1) := ⟨⟨by decide +kernel, List.mem_of_getElem? (i := 932) (by decide +kernel), List.mem_of_getElem? (i := 85) (by decide +kernel)⟩, by decide +kernel, by decide +kernel, by decide +kernel⟩
theorem cs_Jxf58ca_isNaN_12338 : Cond.static (z_y mdJxf58ca_isNaN_12338) ∈ lw_tbl := List.mem_of_getElem? (i := 931) (by decide +kernel)
theorem cb_X5_even : (plainFor (z_y mdX5_even) = true ∧ (Cond.code (z_y mdX5_even) (z_cc mdX5_even) (z_nl mdX5_even) (z_rt mdX5_even)) ∈ lw_tbl ∧ (Cond.initialized (z_y mdX5_even).cls) ∈ lw_tbl) ∧ ((z_y mdX5_even).cls ≠ "java/lang/invoke/MethodHandle" ∧ (z_y mdX5_even).cls ≠ "java/lang/invoke/VarHandle" ∧ (parseMethodDescriptor (z_y mdX5_even).desc).map (fun q => q.parameters.length) = some 0) := ⟨⟨by decide +kernel, List.mem_of_getElem? (i := 940) (by decide +kernel), List.mem_of_getElem? (i := 83) (by decide +kernel)⟩, by decide +kernel, by decide +kernel, by decide +kernel⟩
theorem ci_X5_even : Cond.instanceMethod (z_y mdX5_even) ∈ lw_tbl := List.mem_of_getElem? (i := 938) (by decide +kernel)
theorem cv_X5_even : Cond.selects (z_y mdX5_even).cls (z_y mdX5_even) (z_y mdX5_even) ∈ lw_tbl := List.mem_of_getElem? (i := 939) (by decide +kernel)
theorem cb_Jxe99ae_doubleToLongBits_ccdee : (plainFor (z_y mdJxe99ae_doubleToLongBits_ccdee) = true ∧ (Cond.code (z_y mdJxe99ae_doubleToLongBits_ccdee) (z_cc mdJxe99ae_doubleToLongBits_ccdee) (z_nl mdJxe99ae_doubleToLongBits_ccdee) (z_rt mdJxe99ae_doubleToLongBits_ccdee)) ∈ lw_tbl ∧ (Cond.initialized (z_y mdJxe99ae_doubleToLongBits_ccdee).cls) ∈ lw_tbl) ∧ ((z_y mdJxe99ae_doubleToLongBits_ccdee).cls ≠ "java/lang/invoke/MethodHandle" ∧ (z_y mdJxe99ae_doubleToLongBits_ccdee).cls ≠ "java/lang/invoke/VarHandle" ∧ (parseMethodDescriptor (z_y mdJxe99ae_doubleToLongBits_ccdee).desc).map (fun q => q.parameters.length) = some 1) := ⟨⟨by decide +kernel, List.mem_of_getElem? (i := 943) (by decide +kernel), List.mem_of_getElem? (i := 86) (by decide +kernel)⟩, by decide +kernel, by decide +kernel, by decide +kernel⟩
theorem cs_Jxe99ae_doubleToLongBits_ccdee : Cond.static (z_y mdJxe99ae_doubleToLongBits_ccdee) ∈ lw_tbl := List.mem_of_getElem? (i := 942) (by decide +kernel)
theorem cb_Jxe99ae_isNaN_b9ae7 : (plainFor (z_y mdJxe99ae_isNaN_b9ae7) = true ∧ (Cond.code (z_y mdJxe99ae_isNaN_b9ae7) (z_cc mdJxe99ae_isNaN_b9ae7) (z_nl mdJxe99ae_isNaN_b9ae7) (z_rt mdJxe99ae_isNaN_b9ae7)) ∈ lw_tbl ∧ (Cond.initialized (z_y mdJxe99ae_isNaN_b9ae7).cls) ∈ lw_tbl) ∧ ((z_y mdJxe99ae_isNaN_b9ae7).cls ≠ "java/lang/invoke/MethodHandle" ∧ (z_y mdJxe99ae_isNaN_b9ae7).cls ≠ "java/lang/invoke/VarHandle" ∧ (parseMethodDescriptor (z_y mdJxe99ae_isNaN_b9ae7).desc).map (fun q => q.parameters.length) = some 1) := ⟨⟨by decide +kernel, List.mem_of_getElem? (i := 946) (by decide +kernel), List.mem_of_getElem? (i := 86) (by decide +kernel)⟩, by decide +kernel, by decide +kernel, by decide +kernel⟩
theorem cs_Jxe99ae_isNaN_b9ae7 : Cond.static (z_y mdJxe99ae_isNaN_b9ae7) ∈ lw_tbl := List.mem_of_getElem? (i := 945) (by decide +kernel)
theorem cb_X5_type : (plainFor (z_y mdX5_type) = true ∧ (Cond.code (z_y mdX5_type) (z_cc mdX5_type) (z_nl mdX5_type) (z_rt mdX5_type)) ∈ lw_tbl ∧ (Cond.initialized (z_y mdX5_type).cls) ∈ lw_tbl) ∧ ((z_y mdX5_type).cls ≠ "java/lang/invoke/MethodHandle" ∧ (z_y mdX5_type).cls ≠ "java/lang/invoke/VarHandle" ∧ (parseMethodDescriptor (z_y mdX5_type).desc).map (fun q => q.parameters.length) = some 1) := ⟨⟨by decide +kernel, List.mem_of_getElem? (i := 954) (by decide +kernel), List.mem_of_getElem? (i := 83) (by decide +kernel)⟩, by decide +kernel, by decide +kernel, by decide +kernel⟩
theorem ci_X5_type : Cond.instanceMethod (z_y mdX5_type) ∈ lw_tbl := List.mem_of_getElem? (i := 952) (by decide +kernel)
theorem cv_X5_type : Cond.selects (z_y mdX5_type).cls (z_y mdX5_type) (z_y mdX5_type) ∈ lw_tbl := List.mem_of_getElem? (i := 953) (by decide +kernel)
theorem cb_X5_clear : (plainFor (z_y mdX5_clear) = true ∧ (Cond.code (z_y mdX5_clear) (z_cc mdX5_clear) (z_nl mdX5_clear) (z_rt mdX5_clear)) ∈ lw_tbl ∧ (Cond.initialized (z_y mdX5_clear).cls) ∈ lw_tbl) ∧ ((z_y mdX5_clear).cls ≠ "java/lang/invoke/MethodHandle" ∧ (z_y mdX5_clear).cls ≠ "java/lang/invoke/VarHandle" ∧ (parseMethodDescriptor (z_y mdX5_clear).desc).map (fun q => q.parameters.length) = some 0) := ⟨⟨by decide +kernel, List.mem_of_getElem? (i := 958) (by decide +kernel), List.mem_of_getElem? (i := 83) (by decide +kernel)⟩, by decide +kernel, by decide +kernel, by decide +kernel⟩
theorem ci_X5_clear : Cond.instanceMethod (z_y mdX5_clear) ∈ lw_tbl := List.mem_of_getElem? (i := 956) (by decide +kernel)
theorem cv_X5_clear : Cond.selects (z_y mdX5_clear).cls (z_y mdX5_clear) (z_y mdX5_clear) ∈ lw_tbl := List.mem_of_getElem? (i := 957) (by decide +kernel)
theorem cb_X5_runs : (plainFor (z_y mdX5_runs) = true ∧ (Cond.code (z_y mdX5_runs) (z_cc mdX5_runs) (z_nl mdX5_runs) (z_rt mdX5_runs)) ∈ lw_tbl ∧ (Cond.initialized (z_y mdX5_runs).cls) ∈ lw_tbl) ∧ ((z_y mdX5_runs).cls ≠ "java/lang/invoke/MethodHandle" ∧ (z_y mdX5_runs).cls ≠ "java/lang/invoke/VarHandle" ∧ (parseMethodDescriptor (z_y mdX5_runs).desc).map (fun q => q.parameters.length) = some 0) := ⟨⟨by decide +kernel, List.mem_of_getElem? (i := 962) (by decide +kernel), List.mem_of_getElem? (i := 83) (by decide +kernel)⟩, by decide +kernel, by decide +kernel, by decide +kernel⟩
theorem ci_X5_runs : Cond.instanceMethod (z_y mdX5_runs) ∈ lw_tbl := List.mem_of_getElem? (i := 960) (by decide +kernel)
theorem cv_X5_runs : Cond.selects (z_y mdX5_runs).cls (z_y mdX5_runs) (z_y mdX5_runs) ∈ lw_tbl := List.mem_of_getElem? (i := 961) (by decide +kernel)
theorem cb_X5_goesThrough : (plainFor (z_y mdX5_goesThrough) = true ∧ (Cond.code (z_y mdX5_goesThrough) (z_cc mdX5_goesThrough) (z_nl mdX5_goesThrough) (z_rt mdX5_goesThrough)) ∈ lw_tbl ∧ (Cond.initialized (z_y mdX5_goesThrough).cls) ∈ lw_tbl) ∧ ((z_y mdX5_goesThrough).cls ≠ "java/lang/invoke/MethodHandle" ∧ (z_y mdX5_goesThrough).cls ≠ "java/lang/invoke/VarHandle" ∧ (parseMethodDescriptor (z_y mdX5_goesThrough).desc).map (fun q => q.parameters.length) = some 1) := ⟨⟨by decide +kernel, List.mem_of_getElem? (i := 966) (by decide +kernel), List.mem_of_getElem? (i := 83) (by decide +kernel)⟩, by decide +kernel, by decide +kernel, by decide +kernel⟩
theorem ci_X5_goesThrough : Cond.instanceMethod (z_y mdX5_goesThrough) ∈ lw_tbl := List.mem_of_getElem? (i := 965) (by decide +kernel)
theorem cv_X5_goesThrough : Cond.selects (z_y mdX5_goesThrough).cls (z_y mdX5_goesThrough) (z_y mdX5_goesThrough) ∈ lw_tbl := List.mem_of_getElem? (i := 67) (by decide +kernel)
theorem cb_X5_skips : (plainFor (z_y mdX5_skips) = true ∧ (Cond.code (z_y mdX5_skips) (z_cc mdX5_skips) (z_nl mdX5_skips) (z_rt mdX5_skips)) ∈ lw_tbl ∧ (Cond.initialized (z_y mdX5_skips).cls) ∈ lw_tbl) ∧ ((z_y mdX5_skips).cls ≠ "java/lang/invoke/MethodHandle" ∧ (z_y mdX5_skips).cls ≠ "java/lang/invoke/VarHandle" ∧ (parseMethodDescriptor (z_y mdX5_skips).desc).map (fun q => q.parameters.length) = some 0) := ⟨⟨by decide +kernel, List.mem_of_getElem? (i := 970) (by decide +kernel), List.mem_of_getElem? (i := 83) (by decide +kernel)⟩, by decide +kernel, by decide +kernel, by decide +kernel⟩
theorem ci_X5_skips : Cond.instanceMethod (z_y mdX5_skips) ∈ lw_tbl := List.mem_of_getElem? (i := 969) (by decide +kernel)
theorem cv_X5_skips : Cond.selects (z_y mdX5_skips).cls (z_y mdX5_skips) (z_y mdX5_skips) ∈ lw_tbl := List.mem_of_getElem? (i := 68) (by decide +kernel)
theorem cb_X5_here : (plainFor (z_y mdX5_here) = true ∧ (Cond.code (z_y mdX5_here) (z_cc mdX5_here) (z_nl mdX5_here) (z_rt mdX5_here)) ∈ lw_tbl ∧ (Cond.initialized (z_y mdX5_here).cls) ∈ lw_tbl) ∧ ((z_y mdX5_here).cls ≠ "java/lang/invoke/MethodHandle" ∧ (z_y mdX5_here).cls ≠ "java/lang/invoke/VarHandle" ∧ (parseMethodDescriptor (z_y mdX5_here).desc).map (fun q => q.parameters.length) = some 0) := ⟨⟨by decide +kernel, List.mem_of_getElem? (i := 974) (by decide +kernel), List.mem_of_getElem? (i := 83) (by decide +kernel)⟩, by decide +kernel, by decide +kernel, by decide +kernel⟩
theorem ci_X5_here : Cond.instanceMethod (z_y mdX5_here) ∈ lw_tbl := List.mem_of_getElem? (i := 973) (by decide +kernel)
theorem cv_X5_here : Cond.selects (z_y mdX5_here).cls (z_y mdX5_here) (z_y mdX5_here) ∈ lw_tbl := List.mem_of_getElem? (i := 69) (by decide +kernel)
theorem cb_X5_readsOrder : (plainFor (z_y mdX5_readsOrder) = true ∧ (Cond.code (z_y mdX5_readsOrder) (z_cc mdX5_readsOrder) (z_nl mdX5_readsOrder) (z_rt mdX5_readsOrder)) ∈ lw_tbl ∧ (Cond.initialized (z_y mdX5_readsOrder).cls) ∈ lw_tbl) ∧ ((z_y mdX5_readsOrder).cls ≠ "java/lang/invoke/MethodHandle" ∧ (z_y mdX5_readsOrder).cls ≠ "java/lang/invoke/VarHandle" ∧ (parseMethodDescriptor (z_y mdX5_readsOrder).desc).map (fun q => q.parameters.length) = some 1) := ⟨⟨by decide +kernel, List.mem_of_getElem? (i := 978) (by decide +kernel), List.mem_of_getElem? (i := 83) (by decide +kernel)⟩, by decide +kernel, by decide +kernel, by decide +kernel⟩
theorem ci_X5_readsOrder : Cond.instanceMethod (z_y mdX5_readsOrder) ∈ lw_tbl := List.mem_of_getElem? (i := 977) (by decide +kernel)
theorem cv_X5_readsOrder : Cond.selects (z_y mdX5_readsOrder).cls (z_y mdX5_readsOrder) (z_y mdX5_readsOrder) ∈ lw_tbl := List.mem_of_getElem? (i := 70) (by decide +kernel)
theorem cb_X5_readsBox : (plainFor (z_y mdX5_readsBox) = true ∧ (Cond.code (z_y mdX5_readsBox) (z_cc mdX5_readsBox) (z_nl mdX5_readsBox) (z_rt mdX5_readsBox)) ∈ lw_tbl ∧ (Cond.initialized (z_y mdX5_readsBox).cls) ∈ lw_tbl) ∧ ((z_y mdX5_readsBox).cls ≠ "java/lang/invoke/MethodHandle" ∧ (z_y mdX5_readsBox).cls ≠ "java/lang/invoke/VarHandle" ∧ (parseMethodDescriptor (z_y mdX5_readsBox).desc).map (fun q => q.parameters.length) = some 1) := ⟨⟨by decide +kernel, List.mem_of_getElem? (i := 982) (by decide +kernel), List.mem_of_getElem? (i := 83) (by decide +kernel)⟩, by decide +kernel, by decide +kernel, by decide +kernel⟩
theorem ci_X5_readsBox : Cond.instanceMethod (z_y mdX5_readsBox) ∈ lw_tbl := List.mem_of_getElem? (i := 981) (by decide +kernel)
theorem cv_X5_readsBox : Cond.selects (z_y mdX5_readsBox).cls (z_y mdX5_readsBox) (z_y mdX5_readsBox) ∈ lw_tbl := List.mem_of_getElem? (i := 71) (by decide +kernel)
theorem cb_X5_number : (plainFor (z_y mdX5_number) = true ∧ (Cond.code (z_y mdX5_number) (z_cc mdX5_number) (z_nl mdX5_number) (z_rt mdX5_number)) ∈ lw_tbl ∧ (Cond.initialized (z_y mdX5_number).cls) ∈ lw_tbl) ∧ ((z_y mdX5_number).cls ≠ "java/lang/invoke/MethodHandle" ∧ (z_y mdX5_number).cls ≠ "java/lang/invoke/VarHandle" ∧ (parseMethodDescriptor (z_y mdX5_number).desc).map (fun q => q.parameters.length) = some 0) := ⟨⟨by decide +kernel, List.mem_of_getElem? (i := 986) (by decide +kernel), List.mem_of_getElem? (i := 83) (by decide +kernel)⟩, by decide +kernel, by decide +kernel, by decide +kernel⟩
theorem ci_X5_number : Cond.instanceMethod (z_y mdX5_number) ∈ lw_tbl := List.mem_of_getElem? (i := 985) (by decide +kernel)
theorem cv_X5_number : Cond.selects (z_y mdX5_number).cls (z_y mdX5_number) (z_y mdX5_number) ∈ lw_tbl := List.mem_of_getElem? (i := 72) (by decide +kernel)
theorem cb_X5_ends : (plainFor (z_y mdX5_ends) = true ∧ (Cond.code (z_y mdX5_ends) (z_cc mdX5_ends) (z_nl mdX5_ends) (z_rt mdX5_ends)) ∈ lw_tbl ∧ (Cond.initialized (z_y mdX5_ends).cls) ∈ lw_tbl) ∧ ((z_y mdX5_ends).cls ≠ "java/lang/invoke/MethodHandle" ∧ (z_y mdX5_ends).cls ≠ "java/lang/invoke/VarHandle" ∧ (parseMethodDescriptor (z_y mdX5_ends).desc).map (fun q => q.parameters.length) = some 0) := ⟨⟨by decide +kernel, List.mem_of_getElem? (i := 990) (by decide +kernel), List.mem_of_getElem? (i := 83) (by decide +kernel)⟩, by decide +kernel, by decide +kernel, by decide +kernel⟩
theorem ci_X5_ends : Cond.instanceMethod (z_y mdX5_ends) ∈ lw_tbl := List.mem_of_getElem? (i := 989) (by decide +kernel)
theorem cv_X5_ends : Cond.selects (z_y mdX5_ends).cls (z_y mdX5_ends) (z_y mdX5_ends) ∈ lw_tbl := List.mem_of_getElem? (i := 73) (by decide +kernel)
theorem cb_X5_best : (plainFor (z_y mdX5_best) = true ∧ (Cond.code (z_y mdX5_best) (z_cc mdX5_best) (z_nl mdX5_best) (z_rt mdX5_best)) ∈ lw_tbl ∧ (Cond.initialized (z_y mdX5_best).cls) ∈ lw_tbl) ∧ ((z_y mdX5_best).cls ≠ "java/lang/invoke/MethodHandle" ∧ (z_y mdX5_best).cls ≠ "java/lang/invoke/VarHandle" ∧ (parseMethodDescriptor (z_y mdX5_best).desc).map (fun q => q.parameters.length) = some 1) := ⟨⟨by decide +kernel, List.mem_of_getElem? (i := 994) (by decide +kernel), List.mem_of_getElem? (i := 83) (by decide +kernel)⟩, by decide +kernel, by decide +kernel, by decide +kernel⟩
theorem ci_X5_best : Cond.instanceMethod (z_y mdX5_best) ∈ lw_tbl := List.mem_of_getElem? (i := 992) (by decide +kernel)
theorem cv_X5_best : Cond.selects (z_y mdX5_best).cls (z_y mdX5_best) (z_y mdX5_best) ∈ lw_tbl := List.mem_of_getElem? (i := 993) (by decide +kernel)
theorem cb_X5_ticksBy : (plainFor (z_y mdX5_ticksBy) = true ∧ (Cond.code (z_y mdX5_ticksBy) (z_cc mdX5_ticksBy) (z_nl mdX5_ticksBy) (z_rt mdX5_ticksBy)) ∈ lw_tbl ∧ (Cond.initialized (z_y mdX5_ticksBy).cls) ∈ lw_tbl) ∧ ((z_y mdX5_ticksBy).cls ≠ "java/lang/invoke/MethodHandle" ∧ (z_y mdX5_ticksBy).cls ≠ "java/lang/invoke/VarHandle" ∧ (parseMethodDescriptor (z_y mdX5_ticksBy).desc).map (fun q => q.parameters.length) = some 1) := ⟨⟨by decide +kernel, List.mem_of_getElem? (i := 998) (by decide +kernel), List.mem_of_getElem? (i := 83) (by decide +kernel)⟩, by decide +kernel, by decide +kernel, by decide +kernel⟩
theorem ci_X5_ticksBy : Cond.instanceMethod (z_y mdX5_ticksBy) ∈ lw_tbl := List.mem_of_getElem? (i := 997) (by decide +kernel)
theorem cv_X5_ticksBy : Cond.selects (z_y mdX5_ticksBy).cls (z_y mdX5_ticksBy) (z_y mdX5_ticksBy) ∈ lw_tbl := List.mem_of_getElem? (i := 74) (by decide +kernel)
theorem cb_X5_told : (plainFor (z_y mdX5_told) = true ∧ (Cond.code (z_y mdX5_told) (z_cc mdX5_told) (z_nl mdX5_told) (z_rt mdX5_told)) ∈ lw_tbl ∧ (Cond.initialized (z_y mdX5_told).cls) ∈ lw_tbl) ∧ ((z_y mdX5_told).cls ≠ "java/lang/invoke/MethodHandle" ∧ (z_y mdX5_told).cls ≠ "java/lang/invoke/VarHandle" ∧ (parseMethodDescriptor (z_y mdX5_told).desc).map (fun q => q.parameters.length) = some 1) := ⟨⟨by decide +kernel, List.mem_of_getElem? (i := 1002) (by decide +kernel), List.mem_of_getElem? (i := 83) (by decide +kernel)⟩, by decide +kernel, by decide +kernel, by decide +kernel⟩
theorem ci_X5_told : Cond.instanceMethod (z_y mdX5_told) ∈ lw_tbl := List.mem_of_getElem? (i := 1000) (by decide +kernel)
theorem cv_X5_told : Cond.selects (z_y mdX5_told).cls (z_y mdX5_told) (z_y mdX5_told) ∈ lw_tbl := List.mem_of_getElem? (i := 1001) (by decide +kernel)
theorem cb_X5_toldBy : (plainFor (z_y mdX5_toldBy) = true ∧ (Cond.code (z_y mdX5_toldBy) (z_cc mdX5_toldBy) (z_nl mdX5_toldBy) (z_rt mdX5_toldBy)) ∈ lw_tbl ∧ (Cond.initialized (z_y mdX5_toldBy).cls) ∈ lw_tbl) ∧ ((z_y mdX5_toldBy).cls ≠ "java/lang/invoke/MethodHandle" ∧ (z_y mdX5_toldBy).cls ≠ "java/lang/invoke/VarHandle" ∧ (parseMethodDescriptor (z_y mdX5_toldBy).desc).map (fun q => q.parameters.length) = some 1) := ⟨⟨by decide +kernel, List.mem_of_getElem? (i := 1006) (by decide +kernel), List.mem_of_getElem? (i := 83) (by decide +kernel)⟩, by decide +kernel, by decide +kernel, by decide +kernel⟩
theorem ci_X5_toldBy : Cond.instanceMethod (z_y mdX5_toldBy) ∈ lw_tbl := List.mem_of_getElem? (i := 1005) (by decide +kernel)
theorem cv_X5_toldBy : Cond.selects (z_y mdX5_toldBy).cls (z_y mdX5_toldBy) (z_y mdX5_toldBy) ∈ lw_tbl := List.mem_of_getElem? (i := 75) (by decide +kernel)
theorem cb_X5_digest : (plainFor (z_y mdX5_digest) = true ∧ (Cond.code (z_y mdX5_digest) (z_cc mdX5_digest) (z_nl mdX5_digest) (z_rt mdX5_digest)) ∈ lw_tbl ∧ (Cond.initialized (z_y mdX5_digest).cls) ∈ lw_tbl) ∧ ((z_y mdX5_digest).cls ≠ "java/lang/invoke/MethodHandle" ∧ (z_y mdX5_digest).cls ≠ "java/lang/invoke/VarHandle" ∧ (parseMethodDescriptor (z_y mdX5_digest).desc).map (fun q => q.parameters.length) = some 0) := ⟨⟨by decide +kernel, List.mem_of_getElem? (i := 1010) (by decide +kernel), List.mem_of_getElem? (i := 83) (by decide +kernel)⟩, by decide +kernel, by decide +kernel, by decide +kernel⟩
theorem ci_X5_digest : Cond.instanceMethod (z_y mdX5_digest) ∈ lw_tbl := List.mem_of_getElem? (i := 1008) (by decide +kernel)
theorem cv_X5_digest : Cond.selects (z_y mdX5_digest).cls (z_y mdX5_digest) (z_y mdX5_digest) ∈ lw_tbl := List.mem_of_getElem? (i := 1009) (by decide +kernel)
theorem ml_X4_1 : Cond.methodLink "LateLines" 1 Lib.objectInit ∈ lw_tbl := List.mem_of_getElem? (i := 92) (by decide +kernel)
theorem ml_X4_9 : (Cond.methodLink "LateLines" 9 yX2_init ∈ lw_tbl ∨ Cond.methodLinkNest "LateLines" 9 yX2_init "LateLines" ∈ lw_tbl) := Or.inr (List.mem_of_getElem? (i := 97) (by decide +kernel))
theorem ml_X4_25 : (Cond.methodLink "LateLines" 25 yX3_init ∈ lw_tbl ∨ Cond.methodLinkNest "LateLines" 25 yX3_init "LateLines" ∈ lw_tbl) := Or.inr (List.mem_of_getElem? (i := 252) (by decide +kernel))
theorem ml_X2_3 : Cond.methodLink "LateLines$State" 3 Lib.objectInit ∈ lw_tbl := List.mem_of_getElem? (i := 100) (by decide +kernel)
theorem ml_X2_18 : Cond.methodLink "LateLines$State" 18 arraycopyName ∈ lw_tbl := List.mem_of_getElem? (i := 103) (by decide +kernel)
theorem ml_X2_33 : (Cond.methodLink "LateLines$State" 33 yX0_init ∈ lw_tbl ∨ Cond.methodLinkNest "LateLines$State" 33 yX0_init "LateLines" ∈ lw_tbl) := Or.inr (List.mem_of_getElem? (i := 109) (by decide +kernel))
theorem ml_X2_38 : (Cond.methodLink "LateLines$State" 38 yX1_init ∈ lw_tbl ∨ Cond.methodLinkNest "LateLines$State" 38 yX1_init "LateLines" ∈ lw_tbl) := Or.inr (List.mem_of_getElem? (i := 168) (by decide +kernel))
theorem ml_X2_43 : (Cond.methodLink "LateLines$State" 43 yX2_renew ∈ lw_tbl ∨ Cond.methodLinkNest "LateLines$State" 43 yX2_renew "LateLines" ∈ lw_tbl) := Or.inl (List.mem_of_getElem? (i := 202) (by decide +kernel))
theorem ml_X0_3 : Cond.methodLink "LateLines$Box" 3 Lib.objectInit ∈ lw_tbl := List.mem_of_getElem? (i := 112) (by decide +kernel)
theorem ml_X1_3 : Cond.methodLink "LateLines$Loads" 3 Lib.objectInit ∈ lw_tbl := List.mem_of_getElem? (i := 171) (by decide +kernel)
theorem ml_X2_46 : (Cond.methodLink "LateLines$State" 46 yX0_renew ∈ lw_tbl ∨ Cond.methodLinkNest "LateLines$State" 46 yX0_renew "LateLines" ∈ lw_tbl) := Or.inr (List.mem_of_getElem? (i := 206) (by decide +kernel))
theorem ml_X2_47 : (Cond.methodLink "LateLines$State" 47 yX1_renew ∈ lw_tbl ∨ Cond.methodLinkNest "LateLines$State" 47 yX1_renew "LateLines" ∈ lw_tbl) := Or.inr (List.mem_of_getElem? (i := 211) (by decide +kernel))
theorem ml_X3_3 : Cond.methodLink "LateLines$Text" 3 Lib.objectInit ∈ lw_tbl := List.mem_of_getElem? (i := 255) (by decide +kernel)
theorem ml_X4_47 : (Cond.methodLink "LateLines" 47 yX4_refuse ∈ lw_tbl ∨ Cond.methodLinkNest "LateLines" 47 yX4_refuse "LateLines" ∈ lw_tbl) := Or.inl (List.mem_of_getElem? (i := 317) (by decide +kernel))
theorem ml_X4_51 : (Cond.methodLink "LateLines" 51 yX4_keep ∈ lw_tbl ∨ Cond.methodLinkNest "LateLines" 51 yX4_keep "LateLines" ∈ lw_tbl) := Or.inl (List.mem_of_getElem? (i := 321) (by decide +kernel))
theorem ml_X4_57 : (Cond.methodLink "LateLines" 57 yX2_renew ∈ lw_tbl ∨ Cond.methodLinkNest "LateLines" 57 yX2_renew "LateLines" ∈ lw_tbl) := Or.inr (List.mem_of_getElem? (i := 345) (by decide +kernel))
theorem ml_X4_199 : (Cond.methodLink "LateLines" 199 yX2_become ∈ lw_tbl ∨ Cond.methodLinkNest "LateLines" 199 yX2_become "LateLines" ∈ lw_tbl) := Or.inr (List.mem_of_getElem? (i := 325) (by decide +kernel))
theorem ml_X2_66 : (Cond.methodLink "LateLines$State" 66 yX0_become ∈ lw_tbl ∨ Cond.methodLinkNest "LateLines$State" 66 yX0_become "LateLines" ∈ lw_tbl) := Or.inr (List.mem_of_getElem? (i := 329) (by decide +kernel))
theorem ml_X2_70 : (Cond.methodLink "LateLines$State" 70 yX1_become ∈ lw_tbl ∨ Cond.methodLinkNest "LateLines$State" 70 yX1_become "LateLines" ∈ lw_tbl) := Or.inr (List.mem_of_getElem? (i := 334) (by decide +kernel))
theorem ml_X0_50 : Cond.methodLink "LateLines$Box" 50 arraycopyName ∈ lw_tbl := List.mem_of_getElem? (i := 333) (by decide +kernel)
theorem ml_X1_38 : Cond.methodLink "LateLines$Loads" 38 Lib.Math.min.name ∈ lw_tbl := List.mem_of_getElem? (i := 338) (by decide +kernel)
theorem ml_X1_44 : Cond.methodLink "LateLines$Loads" 44 Lib.Math.max.name ∈ lw_tbl := List.mem_of_getElem? (i := 341) (by decide +kernel)
theorem ml_X1_47 : Cond.methodLink "LateLines$Loads" 47 arraycopyName ∈ lw_tbl := List.mem_of_getElem? (i := 344) (by decide +kernel)
theorem ml_X4_63 : (Cond.methodLink "LateLines" 63 yX4_isBox ∈ lw_tbl ∨ Cond.methodLinkNest "LateLines" 63 yX4_isBox "LateLines" ∈ lw_tbl) := Or.inl (List.mem_of_getElem? (i := 354) (by decide +kernel))
theorem ml_X4_67 : (Cond.methodLink "LateLines" 67 yX4_isItem ∈ lw_tbl ∨ Cond.methodLinkNest "LateLines" 67 yX4_isItem "LateLines" ∈ lw_tbl) := Or.inl (List.mem_of_getElem? (i := 357) (by decide +kernel))
theorem ml_X4_74 : (Cond.methodLink "LateLines" 74 yX2_begin ∈ lw_tbl ∨ Cond.methodLinkNest "LateLines" 74 yX2_begin "LateLines" ∈ lw_tbl) := Or.inr (List.mem_of_getElem? (i := 360) (by decide +kernel))
theorem ml_X2_73 : (Cond.methodLink "LateLines$State" 73 yX2_pass ∈ lw_tbl ∨ Cond.methodLinkNest "LateLines$State" 73 yX2_pass "LateLines" ∈ lw_tbl) := Or.inl (List.mem_of_getElem? (i := 364) (by decide +kernel))
theorem ml_X2_76 : (Cond.methodLink "LateLines$State" 76 yX2_ask ∈ lw_tbl ∨ Cond.methodLinkNest "LateLines$State" 76 yX2_ask "LateLines" ∈ lw_tbl) := Or.inl (List.mem_of_getElem? (i := 419) (by decide +kernel))
theorem ml_X2_81 : (Cond.methodLink "LateLines$State" 81 yX2_tally ∈ lw_tbl ∨ Cond.methodLinkNest "LateLines$State" 81 yX2_tally "LateLines" ∈ lw_tbl) := Or.inl (List.mem_of_getElem? (i := 373) (by decide +kernel))
theorem ml_X2_116 : (Cond.methodLink "LateLines$State" 116 yX0_goFar ∈ lw_tbl ∨ Cond.methodLinkNest "LateLines$State" 116 yX0_goFar "LateLines" ∈ lw_tbl) := Or.inr (List.mem_of_getElem? (i := 368) (by decide +kernel))
theorem ml_X2_120 : (Cond.methodLink "LateLines$State" 120 yX2_come ∈ lw_tbl ∨ Cond.methodLinkNest "LateLines$State" 120 yX2_come "LateLines" ∈ lw_tbl) := Or.inl (List.mem_of_getElem? (i := 377) (by decide +kernel))
theorem ml_X2_123 : Cond.methodLink "LateLines$State" 123 Lib.Math.min.name ∈ lw_tbl := List.mem_of_getElem? (i := 418) (by decide +kernel)
theorem ml_X2_129 : (Cond.methodLink "LateLines$State" 129 yX0_takeFromFar ∈ lw_tbl ∨ Cond.methodLinkNest "LateLines$State" 129 yX0_takeFromFar "LateLines" ∈ lw_tbl) := Or.inr (List.mem_of_getElem? (i := 381) (by decide +kernel))
theorem ml_X2_132 : (Cond.methodLink "LateLines$State" 132 yX2_settle ∈ lw_tbl ∨ Cond.methodLinkNest "LateLines$State" 132 yX2_settle "LateLines" ∈ lw_tbl) := Or.inl (List.mem_of_getElem? (i := 385) (by decide +kernel))
theorem ml_X2_150 : (Cond.methodLink "LateLines$State" 150 yX2_serve ∈ lw_tbl ∨ Cond.methodLinkNest "LateLines$State" 150 yX2_serve "LateLines" ∈ lw_tbl) := Or.inl (List.mem_of_getElem? (i := 402) (by decide +kernel))
theorem ml_X2_157 : (Cond.methodLink "LateLines$State" 157 yX2_whoMustGo ∈ lw_tbl ∨ Cond.methodLinkNest "LateLines$State" 157 yX2_whoMustGo "LateLines" ∈ lw_tbl) := Or.inl (List.mem_of_getElem? (i := 389) (by decide +kernel))
theorem ml_X2_164 : Cond.methodLink "LateLines$State" 164 Lib.Math.max.name ∈ lw_tbl := List.mem_of_getElem? (i := 393) (by decide +kernel)
theorem ml_X2_167 : (Cond.methodLink "LateLines$State" 167 yX2_setDue ∈ lw_tbl ∨ Cond.methodLinkNest "LateLines$State" 167 yX2_setDue "LateLines" ∈ lw_tbl) := Or.inl (List.mem_of_getElem? (i := 394) (by decide +kernel))
theorem ml_X2_171 : (Cond.methodLink "LateLines$State" 171 yX2_use ∈ lw_tbl ∨ Cond.methodLinkNest "LateLines$State" 171 yX2_use "LateLines" ∈ lw_tbl) := Or.inl (List.mem_of_getElem? (i := 398) (by decide +kernel))
theorem ml_X2_193 : (Cond.methodLink "LateLines$State" 193 yX0_valueAtLast ∈ lw_tbl ∨ Cond.methodLinkNest "LateLines$State" 193 yX0_valueAtLast "LateLines" ∈ lw_tbl) := Or.inr (List.mem_of_getElem? (i := 406) (by decide +kernel))
theorem ml_X2_196 : (Cond.methodLink "LateLines$State" 196 yX1_answer ∈ lw_tbl ∨ Cond.methodLinkNest "LateLines$State" 196 yX1_answer "LateLines" ∈ lw_tbl) := Or.inr (List.mem_of_getElem? (i := 410) (by decide +kernel))
theorem ml_X2_200 : (Cond.methodLink "LateLines$State" 200 yX0_layIn ∈ lw_tbl ∨ Cond.methodLinkNest "LateLines$State" 200 yX0_layIn "LateLines" ∈ lw_tbl) := Or.inr (List.mem_of_getElem? (i := 414) (by decide +kernel))
theorem ml_X2_181 : (Cond.methodLink "LateLines$State" 181 yX2_takeAsker ∈ lw_tbl ∨ Cond.methodLinkNest "LateLines$State" 181 yX2_takeAsker "LateLines" ∈ lw_tbl) := Or.inl (List.mem_of_getElem? (i := 427) (by decide +kernel))
theorem ml_X2_185 : (Cond.methodLink "LateLines$State" 185 yX1_add ∈ lw_tbl ∨ Cond.methodLinkNest "LateLines$State" 185 yX1_add "LateLines" ∈ lw_tbl) := Or.inr (List.mem_of_getElem? (i := 431) (by decide +kernel))
theorem ml_X2_189 : (Cond.methodLink "LateLines$State" 189 yX0_addAsker ∈ lw_tbl ∨ Cond.methodLinkNest "LateLines$State" 189 yX0_addAsker "LateLines" ∈ lw_tbl) := Or.inr (List.mem_of_getElem? (i := 435) (by decide +kernel))
theorem ml_X4_78 : (Cond.methodLink "LateLines" 78 yX2_pause ∈ lw_tbl ∨ Cond.methodLinkNest "LateLines" 78 yX2_pause "LateLines" ∈ lw_tbl) := Or.inr (List.mem_of_getElem? (i := 452) (by decide +kernel))
theorem ml_X4_131 : (Cond.methodLink "LateLines" 131 yX0_valueAtLast ∈ lw_tbl ∨ Cond.methodLinkNest "LateLines" 131 yX0_valueAtLast "LateLines" ∈ lw_tbl) := Or.inr (List.mem_of_getElem? (i := 488) (by decide +kernel))
theorem ml_X4_134 : (Cond.methodLink "LateLines" 134 yX0_changedBit ∈ lw_tbl ∨ Cond.methodLinkNest "LateLines" 134 yX0_changedBit "LateLines" ∈ lw_tbl) := Or.inr (List.mem_of_getElem? (i := 489) (by decide +kernel))
theorem ml_X4_137 : (Cond.methodLink "LateLines" 137 yX2_boxInPlace ∈ lw_tbl ∨ Cond.methodLinkNest "LateLines" 137 yX2_boxInPlace "LateLines" ∈ lw_tbl) := Or.inr (List.mem_of_getElem? (i := 497) (by decide +kernel))
theorem ml_X4_141 : (Cond.methodLink "LateLines" 141 yX2_boxOfFetch ∈ lw_tbl ∨ Cond.methodLinkNest "LateLines" 141 yX2_boxOfFetch "LateLines" ∈ lw_tbl) := Or.inr (List.mem_of_getElem? (i := 505) (by decide +kernel))
theorem ml_X4_158 : (Cond.methodLink "LateLines" 158 yX1_meanWait ∈ lw_tbl ∨ Cond.methodLinkNest "LateLines" 158 yX1_meanWait "LateLines" ∈ lw_tbl) := Or.inr (List.mem_of_getElem? (i := 513) (by decide +kernel))
theorem ml_X4_165 : (Cond.methodLink "LateLines" 165 yX4_floatBits ∈ lw_tbl ∨ Cond.methodLinkNest "LateLines" 165 yX4_floatBits "LateLines" ∈ lw_tbl) := Or.inl (List.mem_of_getElem? (i := 517) (by decide +kernel))
theorem ml_X4_169 : (Cond.methodLink "LateLines" 169 yX1_spread ∈ lw_tbl ∨ Cond.methodLinkNest "LateLines" 169 yX1_spread "LateLines" ∈ lw_tbl) := Or.inr (List.mem_of_getElem? (i := 527) (by decide +kernel))
theorem ml_X4_173 : (Cond.methodLink "LateLines" 173 yX4_doubleBits ∈ lw_tbl ∨ Cond.methodLinkNest "LateLines" 173 yX4_doubleBits "LateLines" ∈ lw_tbl) := Or.inl (List.mem_of_getElem? (i := 531) (by decide +kernel))
theorem ml_X4_177 : (Cond.methodLink "LateLines" 177 yX3_readOrders ∈ lw_tbl ∨ Cond.methodLinkNest "LateLines" 177 yX3_readOrders "LateLines" ∈ lw_tbl) := Or.inr (List.mem_of_getElem? (i := 543) (by decide +kernel))
theorem ml_X4_182 : (Cond.methodLink "LateLines" 182 yX2_startTrial ∈ lw_tbl ∨ Cond.methodLinkNest "LateLines" 182 yX2_startTrial "LateLines" ∈ lw_tbl) := Or.inr (List.mem_of_getElem? (i := 576) (by decide +kernel))
theorem ml_X4_186 : (Cond.methodLink "LateLines" 186 yX2_carryOut ∈ lw_tbl ∨ Cond.methodLinkNest "LateLines" 186 yX2_carryOut "LateLines" ∈ lw_tbl) := Or.inr (List.mem_of_getElem? (i := 580) (by decide +kernel))
theorem ml_X4_190 : (Cond.methodLink "LateLines" 190 yX2_awaitFetches ∈ lw_tbl ∨ Cond.methodLinkNest "LateLines" 190 yX2_awaitFetches "LateLines" ∈ lw_tbl) := Or.inr (List.mem_of_getElem? (i := 587) (by decide +kernel))
theorem ml_X3_34 : (Cond.methodLink "LateLines$Text" 34 yX3_peek ∈ lw_tbl ∨ Cond.methodLinkNest "LateLines$Text" 34 yX3_peek "LateLines" ∈ lw_tbl) := Or.inl (List.mem_of_getElem? (i := 547) (by decide +kernel))
theorem ml_X3_38 : (Cond.methodLink "LateLines$Text" 38 yX3_readOrder ∈ lw_tbl ∨ Cond.methodLinkNest "LateLines$Text" 38 yX3_readOrder "LateLines" ∈ lw_tbl) := Or.inl (List.mem_of_getElem? (i := 555) (by decide +kernel))
theorem ml_X3_41 : (Cond.methodLink "LateLines$Text" 41 yX3_byteAt ∈ lw_tbl ∨ Cond.methodLinkNest "LateLines$Text" 41 yX3_byteAt "LateLines" ∈ lw_tbl) := Or.inl (List.mem_of_getElem? (i := 551) (by decide +kernel))
theorem ml_X3_48 : (Cond.methodLink "LateLines$Text" 48 yX3_readAsking ∈ lw_tbl ∨ Cond.methodLinkNest "LateLines$Text" 48 yX3_readAsking "LateLines" ∈ lw_tbl) := Or.inl (List.mem_of_getElem? (i := 559) (by decide +kernel))
theorem ml_X3_52 : (Cond.methodLink "LateLines$Text" 52 yX3_addOrder ∈ lw_tbl ∨ Cond.methodLinkNest "LateLines$Text" 52 yX3_addOrder "LateLines" ∈ lw_tbl) := Or.inl (List.mem_of_getElem? (i := 571) (by decide +kernel))
theorem ml_X3_56 : (Cond.methodLink "LateLines$Text" 56 yX3_readNumber ∈ lw_tbl ∨ Cond.methodLinkNest "LateLines$Text" 56 yX3_readNumber "LateLines" ∈ lw_tbl) := Or.inl (List.mem_of_getElem? (i := 564) (by decide +kernel))
theorem ml_X3_59 : (Cond.methodLink "LateLines$Text" 59 yX4_isItem ∈ lw_tbl ∨ Cond.methodLinkNest "LateLines$Text" 59 yX4_isItem "LateLines" ∈ lw_tbl) := Or.inr (List.mem_of_getElem? (i := 563) (by decide +kernel))
theorem ml_X3_63 : (Cond.methodLink "LateLines$Text" 63 yX3_isFigure ∈ lw_tbl ∨ Cond.methodLinkNest "LateLines$Text" 63 yX3_isFigure "LateLines" ∈ lw_tbl) := Or.inl (List.mem_of_getElem? (i := 568) (by decide +kernel))
theorem ml_X2_96 : (Cond.methodLink "LateLines$State" 96 yX2_pause ∈ lw_tbl ∨ Cond.methodLinkNest "LateLines$State" 96 yX2_pause "LateLines" ∈ lw_tbl) := Or.inl (List.mem_of_getElem? (i := 584) (by decide +kernel))
theorem ml_X2_99 : (Cond.methodLink "LateLines$State" 99 yX4_isBox ∈ lw_tbl ∨ Cond.methodLinkNest "LateLines$State" 99 yX4_isBox "LateLines" ∈ lw_tbl) := Or.inr (List.mem_of_getElem? (i := 585) (by decide +kernel))
theorem ml_X2_106 : (Cond.methodLink "LateLines$State" 106 yX2_begin ∈ lw_tbl ∨ Cond.methodLinkNest "LateLines$State" 106 yX2_begin "LateLines" ∈ lw_tbl) := Or.inl (List.mem_of_getElem? (i := 586) (by decide +kernel))
theorem ml_X4_207 : (Cond.methodLink "LateLines" 207 yX4_told ∈ lw_tbl ∨ Cond.methodLinkNest "LateLines" 207 yX4_told "LateLines" ∈ lw_tbl) := Or.inl (List.mem_of_getElem? (i := 617) (by decide +kernel))
theorem ml_X4_210 : (Cond.methodLink "LateLines" 210 yX4_often ∈ lw_tbl ∨ Cond.methodLinkNest "LateLines" 210 yX4_often "LateLines" ∈ lw_tbl) := Or.inl (List.mem_of_getElem? (i := 618) (by decide +kernel))
theorem ml_X4_213 : (Cond.methodLink "LateLines" 213 yX4_item ∈ lw_tbl ∨ Cond.methodLinkNest "LateLines" 213 yX4_item "LateLines" ∈ lw_tbl) := Or.inl (List.mem_of_getElem? (i := 619) (by decide +kernel))
theorem ml_X4_217 : (Cond.methodLink "LateLines" 217 yX4_where ∈ lw_tbl ∨ Cond.methodLinkNest "LateLines" 217 yX4_where "LateLines" ∈ lw_tbl) := Or.inl (List.mem_of_getElem? (i := 620) (by decide +kernel))
theorem ml_X4_220 : (Cond.methodLink "LateLines" 220 yX4_cost ∈ lw_tbl ∨ Cond.methodLinkNest "LateLines" 220 yX4_cost "LateLines" ∈ lw_tbl) := Or.inl (List.mem_of_getElem? (i := 621) (by decide +kernel))
theorem ml_X4_222 : (Cond.methodLink "LateLines" 222 yX4_even ∈ lw_tbl ∨ Cond.methodLinkNest "LateLines" 222 yX4_even "LateLines" ∈ lw_tbl) := Or.inl (List.mem_of_getElem? (i := 622) (by decide +kernel))
theorem ml_X5_7 : Cond.methodLink "LateLinesModel" 7 Lib.objectInit ∈ lw_tbl := List.mem_of_getElem? (i := 628) (by decide +kernel)
theorem ml_X5_87 : (Cond.methodLink "LateLinesModel" 87 yX5_begins ∈ lw_tbl ∨ Cond.methodLinkNest "LateLinesModel" 87 yX5_begins "LateLines" ∈ lw_tbl) := Or.inl (List.mem_of_getElem? (i := 629) (by decide +kernel))
theorem ml_X5_123 : (Cond.methodLink "LateLinesModel" 123 yX5_comesBack ∈ lw_tbl ∨ Cond.methodLinkNest "LateLinesModel" 123 yX5_comesBack "LateLines" ∈ lw_tbl) := Or.inl (List.mem_of_getElem? (i := 742) (by decide +kernel))
theorem ml_X5_113 : (Cond.methodLink "LateLinesModel" 113 yX5_takes ∈ lw_tbl ∨ Cond.methodLinkNest "LateLinesModel" 113 yX5_takes "LateLines" ∈ lw_tbl) := Or.inl (List.mem_of_getElem? (i := 746) (by decide +kernel))
theorem ml_X5_126 : (Cond.methodLink "LateLinesModel" 126 yX5_may ∈ lw_tbl ∨ Cond.methodLinkNest "LateLinesModel" 126 yX5_may "LateLines" ∈ lw_tbl) := Or.inl (List.mem_of_getElem? (i := 754) (by decide +kernel))
theorem ml_X5_130 : (Cond.methodLink "LateLinesModel" 130 yX5_bad ∈ lw_tbl ∨ Cond.methodLinkNest "LateLinesModel" 130 yX5_bad "LateLines" ∈ lw_tbl) := Or.inl (List.mem_of_getElem? (i := 760) (by decide +kernel))
theorem ml_X5_134 : (Cond.methodLink "LateLinesModel" 134 yX5_leavesState ∈ lw_tbl ∨ Cond.methodLinkNest "LateLinesModel" 134 yX5_leavesState "LateLines" ∈ lw_tbl) := Or.inl (List.mem_of_getElem? (i := 764) (by decide +kernel))
theorem ml_X5_101 : (Cond.methodLink "LateLinesModel" 101 yX5_in ∈ lw_tbl ∨ Cond.methodLinkNest "LateLinesModel" 101 yX5_in "LateLines" ∈ lw_tbl) := Or.inl (List.mem_of_getElem? (i := 757) (by decide +kernel))
theorem ml_X5_119 : (Cond.methodLink "LateLinesModel" 119 yX5_keeps ∈ lw_tbl ∨ Cond.methodLinkNest "LateLinesModel" 119 yX5_keeps "LateLines" ∈ lw_tbl) := Or.inl (List.mem_of_getElem? (i := 768) (by decide +kernel))
theorem ml_X5_109 : (Cond.methodLink "LateLinesModel" 109 yX5_lays ∈ lw_tbl ∨ Cond.methodLinkNest "LateLinesModel" 109 yX5_lays "LateLines" ∈ lw_tbl) := Or.inl (List.mem_of_getElem? (i := 772) (by decide +kernel))
theorem ml_X5_196 : (Cond.methodLink "LateLinesModel" 196 yX5_isBox ∈ lw_tbl ∨ Cond.methodLinkNest "LateLinesModel" 196 yX5_isBox "LateLines" ∈ lw_tbl) := Or.inl (List.mem_of_getElem? (i := 784) (by decide +kernel))
theorem ml_X5_200 : (Cond.methodLink "LateLinesModel" 200 yX5_isItem ∈ lw_tbl ∨ Cond.methodLinkNest "LateLinesModel" 200 yX5_isItem "LateLines" ∈ lw_tbl) := Or.inl (List.mem_of_getElem? (i := 787) (by decide +kernel))
theorem ml_X5_203 : (Cond.methodLink "LateLinesModel" 203 yX5_done ∈ lw_tbl ∨ Cond.methodLinkNest "LateLinesModel" 203 yX5_done "LateLines" ∈ lw_tbl) := Or.inl (List.mem_of_getElem? (i := 790) (by decide +kernel))
theorem ml_X5_188 : (Cond.methodLink "LateLinesModel" 188 yX5_goesBy ∈ lw_tbl ∨ Cond.methodLinkNest "LateLinesModel" 188 yX5_goesBy "LateLines" ∈ lw_tbl) := Or.inl (List.mem_of_getElem? (i := 794) (by decide +kernel))
theorem ml_X5_191 : (Cond.methodLink "LateLinesModel" 191 yX5_beginsNow ∈ lw_tbl ∨ Cond.methodLinkNest "LateLinesModel" 191 yX5_beginsNow "LateLines" ∈ lw_tbl) := Or.inl (List.mem_of_getElem? (i := 834) (by decide +kernel))
theorem ml_X5_175 : (Cond.methodLink "LateLinesModel" 175 yX5_counted ∈ lw_tbl ∨ Cond.methodLinkNest "LateLinesModel" 175 yX5_counted "LateLines" ∈ lw_tbl) := Or.inl (List.mem_of_getElem? (i := 851) (by decide +kernel))
theorem ml_X5_185 : (Cond.methodLink "LateLinesModel" 185 yX5_comesTime ∈ lw_tbl ∨ Cond.methodLinkNest "LateLinesModel" 185 yX5_comesTime "LateLines" ∈ lw_tbl) := Or.inl (List.mem_of_getElem? (i := 798) (by decide +kernel))
theorem ml_X5_145 : (Cond.methodLink "LateLinesModel" 145 yX5_goesFar ∈ lw_tbl ∨ Cond.methodLinkNest "LateLinesModel" 145 yX5_goesFar "LateLines" ∈ lw_tbl) := Or.inl (List.mem_of_getElem? (i := 802) (by decide +kernel))
theorem ml_X5_162 : (Cond.methodLink "LateLinesModel" 162 yX5_comesFetched ∈ lw_tbl ∨ Cond.methodLinkNest "LateLinesModel" 162 yX5_comesFetched "LateLines" ∈ lw_tbl) := Or.inl (List.mem_of_getElem? (i := 807) (by decide +kernel))
theorem ml_X5_151 : (Cond.methodLink "LateLinesModel" 151 yX5_comesNear ∈ lw_tbl ∨ Cond.methodLinkNest "LateLinesModel" 151 yX5_comesNear "LateLines" ∈ lw_tbl) := Or.inl (List.mem_of_getElem? (i := 811) (by decide +kernel))
theorem ml_X5_154 : (Cond.methodLink "LateLinesModel" 154 yX5_laysIn ∈ lw_tbl ∨ Cond.methodLinkNest "LateLinesModel" 154 yX5_laysIn "LateLines" ∈ lw_tbl) := Or.inl (List.mem_of_getElem? (i := 826) (by decide +kernel))
theorem ml_X5_158 : (Cond.methodLink "LateLinesModel" 158 yX5_getsItem ∈ lw_tbl ∨ Cond.methodLinkNest "LateLinesModel" 158 yX5_getsItem "LateLines" ∈ lw_tbl) := Or.inl (List.mem_of_getElem? (i := 830) (by decide +kernel))
theorem ml_X5_137 : (Cond.methodLink "LateLinesModel" 137 yX5_rowOf ∈ lw_tbl ∨ Cond.methodLinkNest "LateLinesModel" 137 yX5_rowOf "LateLines" ∈ lw_tbl) := Or.inl (List.mem_of_getElem? (i := 815) (by decide +kernel))
theorem ml_X5_148 : (Cond.methodLink "LateLinesModel" 148 yX5_makesRoom ∈ lw_tbl ∨ Cond.methodLinkNest "LateLinesModel" 148 yX5_makesRoom "LateLines" ∈ lw_tbl) := Or.inl (List.mem_of_getElem? (i := 818) (by decide +kernel))
theorem ml_X5_142 : (Cond.methodLink "LateLinesModel" 142 yX5_halfLong ∈ lw_tbl ∨ Cond.methodLinkNest "LateLinesModel" 142 yX5_halfLong "LateLines" ∈ lw_tbl) := Or.inl (List.mem_of_getElem? (i := 822) (by decide +kernel))
theorem ml_X5_168 : (Cond.methodLink "LateLinesModel" 168 yX5_counts ∈ lw_tbl ∨ Cond.methodLinkNest "LateLinesModel" 168 yX5_counts "LateLines" ∈ lw_tbl) := Or.inl (List.mem_of_getElem? (i := 838) (by decide +kernel))
theorem ml_X5_171 : (Cond.methodLink "LateLinesModel" 171 yX5_does ∈ lw_tbl ∨ Cond.methodLinkNest "LateLinesModel" 171 yX5_does "LateLines" ∈ lw_tbl) := Or.inl (List.mem_of_getElem? (i := 842) (by decide +kernel))
theorem ml_X5_180 : (Cond.methodLink "LateLinesModel" 180 yX5_asks ∈ lw_tbl ∨ Cond.methodLinkNest "LateLinesModel" 180 yX5_asks "LateLines" ∈ lw_tbl) := Or.inl (List.mem_of_getElem? (i := 856) (by decide +kernel))
theorem ml_X5_165 : (Cond.methodLink "LateLinesModel" 165 yX5_numberOf ∈ lw_tbl ∨ Cond.methodLinkNest "LateLinesModel" 165 yX5_numberOf "LateLines" ∈ lw_tbl) := Or.inl (List.mem_of_getElem? (i := 846) (by decide +kernel))
theorem ml_X5_230 : (Cond.methodLink "LateLinesModel" 230 yX5_atLast ∈ lw_tbl ∨ Cond.methodLinkNest "LateLinesModel" 230 yX5_atLast "LateLines" ∈ lw_tbl) := Or.inl (List.mem_of_getElem? (i := 907) (by decide +kernel))
theorem ml_X5_234 : (Cond.methodLink "LateLinesModel" 234 yX5_costBy ∈ lw_tbl ∨ Cond.methodLinkNest "LateLinesModel" 234 yX5_costBy "LateLines" ∈ lw_tbl) := Or.inl (List.mem_of_getElem? (i := 923) (by decide +kernel))
theorem ml_X5_238 : (Cond.methodLink "LateLinesModel" 238 yJxf58ca_floatToIntBits_5c35a ∈ lw_tbl ∨ Cond.methodLinkNest "LateLinesModel" 238 yJxf58ca_floatToIntBits_5c35a "LateLines" ∈ lw_tbl) := Or.inl (List.mem_of_getElem? (i := 927) (by decide +kernel))
theorem ml_X5_244 : (Cond.methodLink "LateLinesModel" 244 yJxe99ae_doubleToLongBits_ccdee ∈ lw_tbl ∨ Cond.methodLinkNest "LateLinesModel" 244 yJxe99ae_doubleToLongBits_ccdee "LateLines" ∈ lw_tbl) := Or.inl (List.mem_of_getElem? (i := 941) (by decide +kernel))
theorem ml_X5_282 : (Cond.methodLink "LateLinesModel" 282 yX5_goesThrough ∈ lw_tbl ∨ Cond.methodLinkNest "LateLinesModel" 282 yX5_goesThrough "LateLines" ∈ lw_tbl) := Or.inl (List.mem_of_getElem? (i := 963) (by decide +kernel))
theorem ml_X5_262 : (Cond.methodLink "LateLinesModel" 262 yX5_skips ∈ lw_tbl ∨ Cond.methodLinkNest "LateLinesModel" 262 yX5_skips "LateLines" ∈ lw_tbl) := Or.inl (List.mem_of_getElem? (i := 967) (by decide +kernel))
theorem ml_X5_279 : (Cond.methodLink "LateLinesModel" 279 yX5_readsOrder ∈ lw_tbl ∨ Cond.methodLinkNest "LateLinesModel" 279 yX5_readsOrder "LateLines" ∈ lw_tbl) := Or.inl (List.mem_of_getElem? (i := 975) (by decide +kernel))
theorem ml_X5_256 : (Cond.methodLink "LateLinesModel" 256 yX5_here ∈ lw_tbl ∨ Cond.methodLinkNest "LateLinesModel" 256 yX5_here "LateLines" ∈ lw_tbl) := Or.inl (List.mem_of_getElem? (i := 971) (by decide +kernel))
theorem ml_X5_275 : (Cond.methodLink "LateLinesModel" 275 yX5_readsBox ∈ lw_tbl ∨ Cond.methodLinkNest "LateLinesModel" 275 yX5_readsBox "LateLines" ∈ lw_tbl) := Or.inl (List.mem_of_getElem? (i := 979) (by decide +kernel))
theorem ml_X5_272 : (Cond.methodLink "LateLinesModel" 272 yX5_ends ∈ lw_tbl ∨ Cond.methodLinkNest "LateLinesModel" 272 yX5_ends "LateLines" ∈ lw_tbl) := Or.inl (List.mem_of_getElem? (i := 987) (by decide +kernel))
theorem ml_X5_268 : (Cond.methodLink "LateLinesModel" 268 yX5_number ∈ lw_tbl ∨ Cond.methodLinkNest "LateLinesModel" 268 yX5_number "LateLines" ∈ lw_tbl) := Or.inl (List.mem_of_getElem? (i := 983) (by decide +kernel))
theorem ml_X5_286 : (Cond.methodLink "LateLinesModel" 286 yX5_ticksBy ∈ lw_tbl ∨ Cond.methodLinkNest "LateLinesModel" 286 yX5_ticksBy "LateLines" ∈ lw_tbl) := Or.inl (List.mem_of_getElem? (i := 995) (by decide +kernel))
theorem ml_X5_289 : (Cond.methodLink "LateLinesModel" 289 yX5_toldBy ∈ lw_tbl ∨ Cond.methodLinkNest "LateLinesModel" 289 yX5_toldBy "LateLines" ∈ lw_tbl) := Or.inl (List.mem_of_getElem? (i := 1003) (by decide +kernel))
theorem ml_X5_296 : (Cond.methodLink "LateLinesModel" 296 yX5_cost ∈ lw_tbl ∨ Cond.methodLinkNest "LateLinesModel" 296 yX5_cost "LateLines" ∈ lw_tbl) := Or.inl (List.mem_of_getElem? (i := 1013) (by decide +kernel))
theorem ml_X5_298 : (Cond.methodLink "LateLinesModel" 298 yX5_even ∈ lw_tbl ∨ Cond.methodLinkNest "LateLinesModel" 298 yX5_even "LateLines" ∈ lw_tbl) := Or.inl (List.mem_of_getElem? (i := 1014) (by decide +kernel))
theorem ml_L_9 : (Cond.methodLink "LateLinesLaw" 9 yX4_init ∈ lw_tbl ∨ Cond.methodLinkNest "LateLinesLaw" 9 yX4_init "LateLines" ∈ lw_tbl) := Or.inl (List.mem_of_getElem? (i := 89) (by decide +kernel))
theorem ml_L_12 : (Cond.methodLink "LateLinesLaw" 12 yX5_init ∈ lw_tbl ∨ Cond.methodLinkNest "LateLinesLaw" 12 yX5_init "LateLines" ∈ lw_tbl) := Or.inl (List.mem_of_getElem? (i := 625) (by decide +kernel))
theorem ml_L_13 : (Cond.methodLink "LateLinesLaw" 13 yX4_sets ∈ lw_tbl ∨ Cond.methodLinkNest "LateLinesLaw" 13 yX4_sets "LateLines" ∈ lw_tbl) := Or.inl (List.mem_of_getElem? (i := 309) (by decide +kernel))
theorem ml_L_17 : (Cond.methodLink "LateLinesLaw" 17 yX5_sets ∈ lw_tbl ∨ Cond.methodLinkNest "LateLinesLaw" 17 yX5_sets "LateLines" ∈ lw_tbl) := Or.inl (List.mem_of_getElem? (i := 750) (by decide +kernel))
theorem ml_L_18 : (Cond.methodLink "LateLinesLaw" 18 yX4_anew ∈ lw_tbl ∨ Cond.methodLinkNest "LateLinesLaw" 18 yX4_anew "LateLines" ∈ lw_tbl) := Or.inl (List.mem_of_getElem? (i := 346) (by decide +kernel))
theorem ml_L_22 : (Cond.methodLink "LateLinesLaw" 22 yX5_anew ∈ lw_tbl ∨ Cond.methodLinkNest "LateLinesLaw" 22 yX5_anew "LateLines" ∈ lw_tbl) := Or.inl (List.mem_of_getElem? (i := 776) (by decide +kernel))
theorem ml_L_23 : (Cond.methodLink "LateLinesLaw" 23 yX4_load ∈ lw_tbl ∨ Cond.methodLinkNest "LateLinesLaw" 23 yX4_load "LateLines" ∈ lw_tbl) := Or.inl (List.mem_of_getElem? (i := 350) (by decide +kernel))
theorem ml_L_26 : (Cond.methodLink "LateLinesLaw" 26 yX5_load ∈ lw_tbl ∨ Cond.methodLinkNest "LateLinesLaw" 26 yX5_load "LateLines" ∈ lw_tbl) := Or.inl (List.mem_of_getElem? (i := 780) (by decide +kernel))
theorem ml_L_27 : (Cond.methodLink "LateLinesLaw" 27 yX4_store ∈ lw_tbl ∨ Cond.methodLinkNest "LateLinesLaw" 27 yX4_store "LateLines" ∈ lw_tbl) := Or.inl (List.mem_of_getElem? (i := 440) (by decide +kernel))
theorem ml_L_31 : (Cond.methodLink "LateLinesLaw" 31 yX5_store ∈ lw_tbl ∨ Cond.methodLinkNest "LateLinesLaw" 31 yX5_store "LateLines" ∈ lw_tbl) := Or.inl (List.mem_of_getElem? (i := 863) (by decide +kernel))
theorem ml_L_32 : (Cond.methodLink "LateLinesLaw" 32 yX4_fence ∈ lw_tbl ∨ Cond.methodLinkNest "LateLinesLaw" 32 yX4_fence "LateLines" ∈ lw_tbl) := Or.inl (List.mem_of_getElem? (i := 444) (by decide +kernel))
theorem ml_L_35 : (Cond.methodLink "LateLinesLaw" 35 yX5_fence ∈ lw_tbl ∨ Cond.methodLinkNest "LateLinesLaw" 35 yX5_fence "LateLines" ∈ lw_tbl) := Or.inl (List.mem_of_getElem? (i := 867) (by decide +kernel))
theorem ml_L_36 : (Cond.methodLink "LateLinesLaw" 36 yX4_ticks ∈ lw_tbl ∨ Cond.methodLinkNest "LateLinesLaw" 36 yX4_ticks "LateLines" ∈ lw_tbl) := Or.inl (List.mem_of_getElem? (i := 448) (by decide +kernel))
theorem ml_L_40 : (Cond.methodLink "LateLinesLaw" 40 yX5_ticks ∈ lw_tbl ∨ Cond.methodLinkNest "LateLinesLaw" 40 yX5_ticks "LateLines" ∈ lw_tbl) := Or.inl (List.mem_of_getElem? (i := 871) (by decide +kernel))
theorem ml_L_41 : (Cond.methodLink "LateLinesLaw" 41 yX4_draw ∈ lw_tbl ∨ Cond.methodLinkNest "LateLinesLaw" 41 yX4_draw "LateLines" ∈ lw_tbl) := Or.inl (List.mem_of_getElem? (i := 456) (by decide +kernel))
theorem ml_L_44 : (Cond.methodLink "LateLinesLaw" 44 yX5_draw ∈ lw_tbl ∨ Cond.methodLinkNest "LateLinesLaw" 44 yX5_draw "LateLines" ∈ lw_tbl) := Or.inl (List.mem_of_getElem? (i := 875) (by decide +kernel))
theorem ml_L_45 : (Cond.methodLink "LateLinesLaw" 45 yX4_got ∈ lw_tbl ∨ Cond.methodLinkNest "LateLinesLaw" 45 yX4_got "LateLines" ∈ lw_tbl) := Or.inl (List.mem_of_getElem? (i := 472) (by decide +kernel))
theorem ml_L_48 : (Cond.methodLink "LateLinesLaw" 48 yX5_got ∈ lw_tbl ∨ Cond.methodLinkNest "LateLinesLaw" 48 yX5_got "LateLines" ∈ lw_tbl) := Or.inl (List.mem_of_getElem? (i := 891) (by decide +kernel))
theorem ml_L_49 : (Cond.methodLink "LateLinesLaw" 49 yX4_often ∈ lw_tbl ∨ Cond.methodLinkNest "LateLinesLaw" 49 yX4_often "LateLines" ∈ lw_tbl) := Or.inl (List.mem_of_getElem? (i := 476) (by decide +kernel))
theorem ml_L_52 : (Cond.methodLink "LateLinesLaw" 52 yX5_often ∈ lw_tbl ∨ Cond.methodLinkNest "LateLinesLaw" 52 yX5_often "LateLines" ∈ lw_tbl) := Or.inl (List.mem_of_getElem? (i := 895) (by decide +kernel))
theorem ml_L_53 : (Cond.methodLink "LateLinesLaw" 53 yX4_where ∈ lw_tbl ∨ Cond.methodLinkNest "LateLinesLaw" 53 yX4_where "LateLines" ∈ lw_tbl) := Or.inl (List.mem_of_getElem? (i := 480) (by decide +kernel))
theorem ml_L_56 : (Cond.methodLink "LateLinesLaw" 56 yX5_where ∈ lw_tbl ∨ Cond.methodLinkNest "LateLinesLaw" 56 yX5_where "LateLines" ∈ lw_tbl) := Or.inl (List.mem_of_getElem? (i := 899) (by decide +kernel))
theorem ml_L_57 : (Cond.methodLink "LateLinesLaw" 57 yX4_item ∈ lw_tbl ∨ Cond.methodLinkNest "LateLinesLaw" 57 yX4_item "LateLines" ∈ lw_tbl) := Or.inl (List.mem_of_getElem? (i := 484) (by decide +kernel))
theorem ml_L_60 : (Cond.methodLink "LateLinesLaw" 60 yX5_item ∈ lw_tbl ∨ Cond.methodLinkNest "LateLinesLaw" 60 yX5_item "LateLines" ∈ lw_tbl) := Or.inl (List.mem_of_getElem? (i := 903) (by decide +kernel))
theorem ml_L_61 : (Cond.methodLink "LateLinesLaw" 61 yX4_place ∈ lw_tbl ∨ Cond.methodLinkNest "LateLinesLaw" 61 yX4_place "LateLines" ∈ lw_tbl) := Or.inl (List.mem_of_getElem? (i := 493) (by decide +kernel))
theorem ml_L_64 : (Cond.methodLink "LateLinesLaw" 64 yX5_place ∈ lw_tbl ∨ Cond.methodLinkNest "LateLinesLaw" 64 yX5_place "LateLines" ∈ lw_tbl) := Or.inl (List.mem_of_getElem? (i := 911) (by decide +kernel))
theorem ml_L_65 : (Cond.methodLink "LateLinesLaw" 65 yX4_fetch ∈ lw_tbl ∨ Cond.methodLinkNest "LateLinesLaw" 65 yX4_fetch "LateLines" ∈ lw_tbl) := Or.inl (List.mem_of_getElem? (i := 501) (by decide +kernel))
theorem ml_L_68 : (Cond.methodLink "LateLinesLaw" 68 yX5_fetch ∈ lw_tbl ∨ Cond.methodLinkNest "LateLinesLaw" 68 yX5_fetch "LateLines" ∈ lw_tbl) := Or.inl (List.mem_of_getElem? (i := 915) (by decide +kernel))
theorem ml_L_69 : (Cond.methodLink "LateLinesLaw" 69 yX4_cost ∈ lw_tbl ∨ Cond.methodLinkNest "LateLinesLaw" 69 yX4_cost "LateLines" ∈ lw_tbl) := Or.inl (List.mem_of_getElem? (i := 509) (by decide +kernel))
theorem ml_L_72 : (Cond.methodLink "LateLinesLaw" 72 yX5_cost ∈ lw_tbl ∨ Cond.methodLinkNest "LateLinesLaw" 72 yX5_cost "LateLines" ∈ lw_tbl) := Or.inl (List.mem_of_getElem? (i := 919) (by decide +kernel))
theorem ml_L_73 : (Cond.methodLink "LateLinesLaw" 73 yX4_even ∈ lw_tbl ∨ Cond.methodLinkNest "LateLinesLaw" 73 yX4_even "LateLines" ∈ lw_tbl) := Or.inl (List.mem_of_getElem? (i := 523) (by decide +kernel))
theorem ml_L_77 : (Cond.methodLink "LateLinesLaw" 77 yX5_even ∈ lw_tbl ∨ Cond.methodLinkNest "LateLinesLaw" 77 yX5_even "LateLines" ∈ lw_tbl) := Or.inl (List.mem_of_getElem? (i := 937) (by decide +kernel))
theorem ml_L_78 : (Cond.methodLink "LateLinesLaw" 78 yX4_best ∈ lw_tbl ∨ Cond.methodLinkNest "LateLinesLaw" 78 yX4_best "LateLines" ∈ lw_tbl) := Or.inl (List.mem_of_getElem? (i := 539) (by decide +kernel))
theorem ml_L_81 : (Cond.methodLink "LateLinesLaw" 81 yX5_best ∈ lw_tbl ∨ Cond.methodLinkNest "LateLinesLaw" 81 yX5_best "LateLines" ∈ lw_tbl) := Or.inl (List.mem_of_getElem? (i := 991) (by decide +kernel))
theorem ml_L_82 : (Cond.methodLink "LateLinesLaw" 82 yX4_type ∈ lw_tbl ∨ Cond.methodLinkNest "LateLinesLaw" 82 yX4_type "LateLines" ∈ lw_tbl) := Or.inl (List.mem_of_getElem? (i := 591) (by decide +kernel))
theorem ml_L_85 : (Cond.methodLink "LateLinesLaw" 85 yX5_type ∈ lw_tbl ∨ Cond.methodLinkNest "LateLinesLaw" 85 yX5_type "LateLines" ∈ lw_tbl) := Or.inl (List.mem_of_getElem? (i := 951) (by decide +kernel))
theorem ml_L_86 : (Cond.methodLink "LateLinesLaw" 86 yX4_clear ∈ lw_tbl ∨ Cond.methodLinkNest "LateLinesLaw" 86 yX4_clear "LateLines" ∈ lw_tbl) := Or.inl (List.mem_of_getElem? (i := 595) (by decide +kernel))
theorem ml_L_89 : (Cond.methodLink "LateLinesLaw" 89 yX5_clear ∈ lw_tbl ∨ Cond.methodLinkNest "LateLinesLaw" 89 yX5_clear "LateLines" ∈ lw_tbl) := Or.inl (List.mem_of_getElem? (i := 955) (by decide +kernel))
theorem ml_L_90 : (Cond.methodLink "LateLinesLaw" 90 yX4_runs ∈ lw_tbl ∨ Cond.methodLinkNest "LateLinesLaw" 90 yX4_runs "LateLines" ∈ lw_tbl) := Or.inl (List.mem_of_getElem? (i := 599) (by decide +kernel))
theorem ml_L_93 : (Cond.methodLink "LateLinesLaw" 93 yX5_runs ∈ lw_tbl ∨ Cond.methodLinkNest "LateLinesLaw" 93 yX5_runs "LateLines" ∈ lw_tbl) := Or.inl (List.mem_of_getElem? (i := 959) (by decide +kernel))
theorem ml_L_94 : (Cond.methodLink "LateLinesLaw" 94 yX4_back ∈ lw_tbl ∨ Cond.methodLinkNest "LateLinesLaw" 94 yX4_back "LateLines" ∈ lw_tbl) := Or.inl (List.mem_of_getElem? (i := 603) (by decide +kernel))
theorem ml_L_97 : (Cond.methodLink "LateLinesLaw" 97 yX5_back ∈ lw_tbl ∨ Cond.methodLinkNest "LateLinesLaw" 97 yX5_back "LateLines" ∈ lw_tbl) := Or.inl (List.mem_of_getElem? (i := 738) (by decide +kernel))
theorem ml_L_98 : (Cond.methodLink "LateLinesLaw" 98 yX4_told ∈ lw_tbl ∨ Cond.methodLinkNest "LateLinesLaw" 98 yX4_told "LateLines" ∈ lw_tbl) := Or.inl (List.mem_of_getElem? (i := 607) (by decide +kernel))
theorem ml_L_101 : (Cond.methodLink "LateLinesLaw" 101 yX5_told ∈ lw_tbl ∨ Cond.methodLinkNest "LateLinesLaw" 101 yX5_told "LateLines" ∈ lw_tbl) := Or.inl (List.mem_of_getElem? (i := 999) (by decide +kernel))
theorem ml_L_102 : (Cond.methodLink "LateLinesLaw" 102 yX4_digest ∈ lw_tbl ∨ Cond.methodLinkNest "LateLinesLaw" 102 yX4_digest "LateLines" ∈ lw_tbl) := Or.inl (List.mem_of_getElem? (i := 611) (by decide +kernel))
theorem ml_L_105 : (Cond.methodLink "LateLinesLaw" 105 yX5_digest ∈ lw_tbl ∨ Cond.methodLinkNest "LateLinesLaw" 105 yX5_digest "LateLines" ∈ lw_tbl) := Or.inl (List.mem_of_getElem? (i := 1007) (by decide +kernel))
theorem fl_X4_10 : (Cond.fieldLink "LateLines" 10 "LateLines" "now" "LLateLines$State;" ∈ lw_tbl ∨ Cond.fieldLinkNest "LateLines" 10 "LateLines" "now" "LLateLines$State;" "LateLines" ∈ lw_tbl) := Or.inl (List.mem_of_getElem? (i := 287) (by decide +kernel))
theorem fl_X4_16 : (Cond.fieldLink "LateLines" 16 "LateLines" "trial" "LLateLines$State;" ∈ lw_tbl ∨ Cond.fieldLinkNest "LateLines" 16 "LateLines" "trial" "LLateLines$State;" "LateLines" ∈ lw_tbl) := Or.inl (List.mem_of_getElem? (i := 288) (by decide +kernel))
theorem fl_X4_19 : (Cond.fieldLink "LateLines" 19 "LateLines" "kept" "[LLateLines$State;" ∈ lw_tbl ∨ Cond.fieldLinkNest "LateLines" 19 "LateLines" "kept" "[LLateLines$State;" "LateLines" ∈ lw_tbl) := Or.inl (List.mem_of_getElem? (i := 289) (by decide +kernel))
theorem fl_X4_26 : (Cond.fieldLink "LateLines" 26 "LateLines" "text" "LLateLines$Text;" ∈ lw_tbl ∨ Cond.fieldLinkNest "LateLines" 26 "LateLines" "text" "LLateLines$Text;" "LateLines" ∈ lw_tbl) := Or.inl (List.mem_of_getElem? (i := 290) (by decide +kernel))
theorem fl_X4_30 : (Cond.fieldLink "LateLines" 30 "LateLines" "refused" "[I" ∈ lw_tbl ∨ Cond.fieldLinkNest "LateLines" 30 "LateLines" "refused" "[I" "LateLines" ∈ lw_tbl) := Or.inl (List.mem_of_getElem? (i := 291) (by decide +kernel))
theorem fl_X4_34 : (Cond.fieldLink "LateLines" 34 "LateLines" "newest" "I" ∈ lw_tbl ∨ Cond.fieldLinkNest "LateLines" 34 "LateLines" "newest" "I" "LateLines" ∈ lw_tbl) := Or.inl (List.mem_of_getElem? (i := 292) (by decide +kernel))
theorem fl_X4_38 : (Cond.fieldLink "LateLines" 38 "LateLines" "states" "I" ∈ lw_tbl ∨ Cond.fieldLinkNest "LateLines" 38 "LateLines" "states" "I" "LateLines" ∈ lw_tbl) := Or.inl (List.mem_of_getElem? (i := 293) (by decide +kernel))
theorem fl_X2_9 : (Cond.fieldLink "LateLines$State" 9 "LateLines" "AT_FIRST" "[I" ∈ lw_tbl ∨ Cond.fieldLinkNest "LateLines$State" 9 "LateLines" "AT_FIRST" "[I" "LateLines" ∈ lw_tbl) := Or.inr (List.mem_of_getElem? (i := 101) (by decide +kernel))
theorem fl_X2_13 : (Cond.fieldLink "LateLines$State" 13 "LateLines$State" "limits" "[I" ∈ lw_tbl ∨ Cond.fieldLinkNest "LateLines$State" 13 "LateLines$State" "limits" "[I" "LateLines" ∈ lw_tbl) := Or.inl (List.mem_of_getElem? (i := 216) (by decide +kernel))
theorem fl_X2_24 : (Cond.fieldLink "LateLines$State" 24 "LateLines$State" "counts" "[I" ∈ lw_tbl ∨ Cond.fieldLinkNest "LateLines$State" 24 "LateLines$State" "counts" "[I" "LateLines" ∈ lw_tbl) := Or.inl (List.mem_of_getElem? (i := 218) (by decide +kernel))
theorem fl_X2_29 : (Cond.fieldLink "LateLines$State" 29 "LateLines$State" "boxes" "[LLateLines$Box;" ∈ lw_tbl ∨ Cond.fieldLinkNest "LateLines$State" 29 "LateLines$State" "boxes" "[LLateLines$Box;" "LateLines" ∈ lw_tbl) := Or.inl (List.mem_of_getElem? (i := 220) (by decide +kernel))
theorem fl_X2_39 : (Cond.fieldLink "LateLines$State" 39 "LateLines$State" "loads" "LLateLines$Loads;" ∈ lw_tbl ∨ Cond.fieldLinkNest "LateLines$State" 39 "LateLines$State" "loads" "LLateLines$Loads;" "LateLines" ∈ lw_tbl) := Or.inl (List.mem_of_getElem? (i := 222) (by decide +kernel))
theorem fl_X0_9 : (Cond.fieldLink "LateLines$Box" 9 "LateLines$Box" "number" "I" ∈ lw_tbl ∨ Cond.fieldLinkNest "LateLines$Box" 9 "LateLines$Box" "number" "I" "LateLines" ∈ lw_tbl) := Or.inl (List.mem_of_getElem? (i := 113) (by decide +kernel))
theorem fl_X0_15 : (Cond.fieldLink "LateLines$Box" 15 "LateLines$Box" "far" "[I" ∈ lw_tbl ∨ Cond.fieldLinkNest "LateLines$Box" 15 "LateLines$Box" "far" "[I" "LateLines" ∈ lw_tbl) := Or.inl (List.mem_of_getElem? (i := 116) (by decide +kernel))
theorem fl_X0_19 : (Cond.fieldLink "LateLines$Box" 19 "LateLines$Box" "held" "[I" ∈ lw_tbl ∨ Cond.fieldLinkNest "LateLines$Box" 19 "LateLines$Box" "held" "[I" "LateLines" ∈ lw_tbl) := Or.inl (List.mem_of_getElem? (i := 118) (by decide +kernel))
theorem fl_X0_22 : (Cond.fieldLink "LateLines$Box" 22 "LateLines$Box" "askItem" "[I" ∈ lw_tbl ∨ Cond.fieldLinkNest "LateLines$Box" 22 "LateLines$Box" "askItem" "[I" "LateLines" ∈ lw_tbl) := Or.inl (List.mem_of_getElem? (i := 119) (by decide +kernel))
theorem fl_X0_25 : (Cond.fieldLink "LateLines$Box" 25 "LateLines$Box" "askValue" "[I" ∈ lw_tbl ∨ Cond.fieldLinkNest "LateLines$Box" 25 "LateLines$Box" "askValue" "[I" "LateLines" ∈ lw_tbl) := Or.inl (List.mem_of_getElem? (i := 121) (by decide +kernel))
theorem fl_X0_28 : (Cond.fieldLink "LateLines$Box" 28 "LateLines$Box" "askLoad" "[I" ∈ lw_tbl ∨ Cond.fieldLinkNest "LateLines$Box" 28 "LateLines$Box" "askLoad" "[I" "LateLines" ∈ lw_tbl) := Or.inl (List.mem_of_getElem? (i := 123) (by decide +kernel))
theorem fl_X0_31 : (Cond.fieldLink "LateLines$Box" 31 "LateLines$Box" "askTick" "[I" ∈ lw_tbl ∨ Cond.fieldLinkNest "LateLines$Box" 31 "LateLines$Box" "askTick" "[I" "LateLines" ∈ lw_tbl) := Or.inl (List.mem_of_getElem? (i := 125) (by decide +kernel))
theorem fl_X1_9 : (Cond.fieldLink "LateLines$Loads" 9 "LateLines$Loads" "gave" "[I" ∈ lw_tbl ∨ Cond.fieldLinkNest "LateLines$Loads" 9 "LateLines$Loads" "gave" "[I" "LateLines" ∈ lw_tbl) := Or.inl (List.mem_of_getElem? (i := 172) (by decide +kernel))
theorem fl_X1_15 : (Cond.fieldLink "LateLines$Loads" 15 "LateLines$Loads" "waited" "[I" ∈ lw_tbl ∨ Cond.fieldLinkNest "LateLines$Loads" 15 "LateLines$Loads" "waited" "[I" "LateLines" ∈ lw_tbl) := Or.inl (List.mem_of_getElem? (i := 174) (by decide +kernel))
theorem fl_X1_18 : (Cond.fieldLink "LateLines$Loads" 18 "LateLines$Loads" "began" "[I" ∈ lw_tbl ∨ Cond.fieldLinkNest "LateLines$Loads" 18 "LateLines$Loads" "began" "[I" "LateLines" ∈ lw_tbl) := Or.inl (List.mem_of_getElem? (i := 176) (by decide +kernel))
theorem fl_X2_48 : (Cond.fieldLink "LateLines$State" 48 "LateLines$State" "cost" "F" ∈ lw_tbl ∨ Cond.fieldLinkNest "LateLines$State" 48 "LateLines$State" "cost" "F" "LateLines" ∈ lw_tbl) := Or.inl (List.mem_of_getElem? (i := 224) (by decide +kernel))
theorem fl_X2_52 : (Cond.fieldLink "LateLines$State" 52 "LateLines$State" "fetches" "I" ∈ lw_tbl ∨ Cond.fieldLinkNest "LateLines$State" 52 "LateLines$State" "fetches" "I" "LateLines" ∈ lw_tbl) := Or.inl (List.mem_of_getElem? (i := 226) (by decide +kernel))
theorem fl_X2_56 : (Cond.fieldLink "LateLines$State" 56 "LateLines$State" "shelved" "I" ∈ lw_tbl ∨ Cond.fieldLinkNest "LateLines$State" 56 "LateLines$State" "shelved" "I" "LateLines" ∈ lw_tbl) := Or.inl (List.mem_of_getElem? (i := 227) (by decide +kernel))
theorem fl_X2_59 : (Cond.fieldLink "LateLines$State" 59 "LateLines$State" "uses" "I" ∈ lw_tbl ∨ Cond.fieldLinkNest "LateLines$State" 59 "LateLines$State" "uses" "I" "LateLines" ∈ lw_tbl) := Or.inl (List.mem_of_getElem? (i := 228) (by decide +kernel))
theorem lc_X2_62 : Cond.constant "LateLines$State" 62 (2000000000 : Int32) ∈ lw_tbl := List.mem_of_getElem? (i := 215) (by decide +kernel)
theorem fl_X2_63 : (Cond.fieldLink "LateLines$State" 63 "LateLines$State" "soonest" "I" ∈ lw_tbl ∨ Cond.fieldLinkNest "LateLines$State" 63 "LateLines$State" "soonest" "I" "LateLines" ∈ lw_tbl) := Or.inl (List.mem_of_getElem? (i := 229) (by decide +kernel))
theorem fl_X0_34 : (Cond.fieldLink "LateLines$Box" 34 "LateLines$Box" "askers" "I" ∈ lw_tbl ∨ Cond.fieldLinkNest "LateLines$Box" 34 "LateLines$Box" "askers" "I" "LateLines" ∈ lw_tbl) := Or.inl (List.mem_of_getElem? (i := 127) (by decide +kernel))
theorem fl_X0_37 : (Cond.fieldLink "LateLines$Box" 37 "LateLines$Box" "spot" "I" ∈ lw_tbl ∨ Cond.fieldLinkNest "LateLines$Box" 37 "LateLines$Box" "spot" "I" "LateLines" ∈ lw_tbl) := Or.inl (List.mem_of_getElem? (i := 130) (by decide +kernel))
theorem fl_X0_40 : (Cond.fieldLink "LateLines$Box" 40 "LateLines$Box" "changed" "I" ∈ lw_tbl ∨ Cond.fieldLinkNest "LateLines$Box" 40 "LateLines$Box" "changed" "I" "LateLines" ∈ lw_tbl) := Or.inl (List.mem_of_getElem? (i := 133) (by decide +kernel))
theorem lc_X0_43 : Cond.constant "LateLines$Box" 43 (2000000000 : Int32) ∈ lw_tbl := List.mem_of_getElem? (i := 210) (by decide +kernel)
theorem fl_X0_44 : (Cond.fieldLink "LateLines$Box" 44 "LateLines$Box" "due" "I" ∈ lw_tbl ∨ Cond.fieldLinkNest "LateLines$Box" 44 "LateLines$Box" "due" "I" "LateLines" ∈ lw_tbl) := Or.inl (List.mem_of_getElem? (i := 135) (by decide +kernel))
theorem fl_X0_47 : (Cond.fieldLink "LateLines$Box" 47 "LateLines$Box" "used" "I" ∈ lw_tbl ∨ Cond.fieldLinkNest "LateLines$Box" 47 "LateLines$Box" "used" "I" "LateLines" ∈ lw_tbl) := Or.inl (List.mem_of_getElem? (i := 138) (by decide +kernel))
theorem fl_X1_21 : (Cond.fieldLink "LateLines$Loads" 21 "LateLines$Loads" "known" "I" ∈ lw_tbl ∨ Cond.fieldLinkNest "LateLines$Loads" 21 "LateLines$Loads" "known" "I" "LateLines" ∈ lw_tbl) := Or.inl (List.mem_of_getElem? (i := 178) (by decide +kernel))
theorem fl_X1_25 : (Cond.fieldLink "LateLines$Loads" 25 "LateLines$Loads" "answered" "I" ∈ lw_tbl ∨ Cond.fieldLinkNest "LateLines$Loads" 25 "LateLines$Loads" "answered" "I" "LateLines" ∈ lw_tbl) := Or.inl (List.mem_of_getElem? (i := 180) (by decide +kernel))
theorem fl_X1_28 : (Cond.fieldLink "LateLines$Loads" 28 "LateLines$Loads" "greatest" "I" ∈ lw_tbl ∨ Cond.fieldLinkNest "LateLines$Loads" 28 "LateLines$Loads" "greatest" "I" "LateLines" ∈ lw_tbl) := Or.inl (List.mem_of_getElem? (i := 181) (by decide +kernel))
theorem fl_X1_31 : (Cond.fieldLink "LateLines$Loads" 31 "LateLines$Loads" "sum" "J" ∈ lw_tbl ∨ Cond.fieldLinkNest "LateLines$Loads" 31 "LateLines$Loads" "sum" "J" "LateLines" ∈ lw_tbl) := Or.inl (List.mem_of_getElem? (i := 183) (by decide +kernel))
theorem fl_X1_35 : (Cond.fieldLink "LateLines$Loads" 35 "LateLines$Loads" "squares" "J" ∈ lw_tbl ∨ Cond.fieldLinkNest "LateLines$Loads" 35 "LateLines$Loads" "squares" "J" "LateLines" ∈ lw_tbl) := Or.inl (List.mem_of_getElem? (i := 184) (by decide +kernel))
theorem fl_X3_9 : (Cond.fieldLink "LateLines$Text" 9 "LateLines$Text" "bytes" "[I" ∈ lw_tbl ∨ Cond.fieldLinkNest "LateLines$Text" 9 "LateLines$Text" "bytes" "[I" "LateLines" ∈ lw_tbl) := Or.inl (List.mem_of_getElem? (i := 256) (by decide +kernel))
theorem fl_X3_15 : (Cond.fieldLink "LateLines$Text" 15 "LateLines$Text" "orderBox" "[I" ∈ lw_tbl ∨ Cond.fieldLinkNest "LateLines$Text" 15 "LateLines$Text" "orderBox" "[I" "LateLines" ∈ lw_tbl) := Or.inl (List.mem_of_getElem? (i := 258) (by decide +kernel))
theorem fl_X3_18 : (Cond.fieldLink "LateLines$Text" 18 "LateLines$Text" "orderItem" "[I" ∈ lw_tbl ∨ Cond.fieldLinkNest "LateLines$Text" 18 "LateLines$Text" "orderItem" "[I" "LateLines" ∈ lw_tbl) := Or.inl (List.mem_of_getElem? (i := 260) (by decide +kernel))
theorem fl_X3_21 : (Cond.fieldLink "LateLines$Text" 21 "LateLines$Text" "orderNumber" "[I" ∈ lw_tbl ∨ Cond.fieldLinkNest "LateLines$Text" 21 "LateLines$Text" "orderNumber" "[I" "LateLines" ∈ lw_tbl) := Or.inl (List.mem_of_getElem? (i := 262) (by decide +kernel))
theorem fl_X4_41 : (Cond.fieldLink "LateLines" 41 "LateLines" "LEAST" "[I" ∈ lw_tbl ∨ Cond.fieldLinkNest "LateLines" 41 "LateLines" "LEAST" "[I" "LateLines" ∈ lw_tbl) := Or.inl (List.mem_of_getElem? (i := 313) (by decide +kernel))
theorem fl_X4_44 : (Cond.fieldLink "LateLines" 44 "LateLines" "GREATEST" "[I" ∈ lw_tbl ∨ Cond.fieldLinkNest "LateLines" 44 "LateLines" "GREATEST" "[I" "LateLines" ∈ lw_tbl) := Or.inl (List.mem_of_getElem? (i := 315) (by decide +kernel))
theorem fl_X4_54 : (Cond.fieldLink "LateLines" 54 "LateLines$State" "limits" "[I" ∈ lw_tbl ∨ Cond.fieldLinkNest "LateLines" 54 "LateLines$State" "limits" "[I" "LateLines" ∈ lw_tbl) := Or.inr (List.mem_of_getElem? (i := 217) (by decide +kernel))
theorem fl_X4_60 : (Cond.fieldLink "LateLines" 60 "LateLines$State" "counts" "[I" ∈ lw_tbl ∨ Cond.fieldLinkNest "LateLines" 60 "LateLines$State" "counts" "[I" "LateLines" ∈ lw_tbl) := Or.inr (List.mem_of_getElem? (i := 219) (by decide +kernel))
theorem fl_X4_70 : (Cond.fieldLink "LateLines" 70 "LateLines$State" "boxes" "[LLateLines$Box;" ∈ lw_tbl ∨ Cond.fieldLinkNest "LateLines" 70 "LateLines$State" "boxes" "[LLateLines$Box;" "LateLines" ∈ lw_tbl) := Or.inr (List.mem_of_getElem? (i := 221) (by decide +kernel))
theorem lc_X2_80 : Cond.constantFloat "LateLines$State" 80 (1036831949 : UInt32) ∈ lw_tbl := List.mem_of_getElem? (i := 439) (by decide +kernel)
theorem fl_X2_110 : (Cond.fieldLink "LateLines$State" 110 "LateLines$Box" "spot" "I" ∈ lw_tbl ∨ Cond.fieldLinkNest "LateLines$State" 110 "LateLines$Box" "spot" "I" "LateLines" ∈ lw_tbl) := Or.inr (List.mem_of_getElem? (i := 131) (by decide +kernel))
theorem fl_X2_113 : (Cond.fieldLink "LateLines$State" 113 "LateLines$Box" "due" "I" ∈ lw_tbl ∨ Cond.fieldLinkNest "LateLines$State" 113 "LateLines$Box" "due" "I" "LateLines" ∈ lw_tbl) := Or.inr (List.mem_of_getElem? (i := 136) (by decide +kernel))
theorem lc_X2_119 : Cond.constantFloat "LateLines$State" 119 (1079194419 : UInt32) ∈ lw_tbl := List.mem_of_getElem? (i := 372) (by decide +kernel)
theorem fl_X2_135 : (Cond.fieldLink "LateLines$State" 135 "LateLines$Box" "askers" "I" ∈ lw_tbl ∨ Cond.fieldLinkNest "LateLines$State" 135 "LateLines$Box" "askers" "I" "LateLines" ∈ lw_tbl) := Or.inr (List.mem_of_getElem? (i := 128) (by decide +kernel))
theorem fl_X2_138 : (Cond.fieldLink "LateLines$State" 138 "LateLines$Box" "askItem" "[I" ∈ lw_tbl ∨ Cond.fieldLinkNest "LateLines$State" 138 "LateLines$Box" "askItem" "[I" "LateLines" ∈ lw_tbl) := Or.inr (List.mem_of_getElem? (i := 120) (by decide +kernel))
theorem fl_X2_141 : (Cond.fieldLink "LateLines$State" 141 "LateLines$Box" "askValue" "[I" ∈ lw_tbl ∨ Cond.fieldLinkNest "LateLines$State" 141 "LateLines$Box" "askValue" "[I" "LateLines" ∈ lw_tbl) := Or.inr (List.mem_of_getElem? (i := 122) (by decide +kernel))
theorem fl_X2_144 : (Cond.fieldLink "LateLines$State" 144 "LateLines$Box" "askLoad" "[I" ∈ lw_tbl ∨ Cond.fieldLinkNest "LateLines$State" 144 "LateLines$Box" "askLoad" "[I" "LateLines" ∈ lw_tbl) := Or.inr (List.mem_of_getElem? (i := 124) (by decide +kernel))
theorem fl_X2_147 : (Cond.fieldLink "LateLines$State" 147 "LateLines$Box" "askTick" "[I" ∈ lw_tbl ∨ Cond.fieldLinkNest "LateLines$State" 147 "LateLines$Box" "askTick" "[I" "LateLines" ∈ lw_tbl) := Or.inr (List.mem_of_getElem? (i := 126) (by decide +kernel))
theorem fl_X2_154 : (Cond.fieldLink "LateLines$State" 154 "LateLines$Box" "number" "I" ∈ lw_tbl ∨ Cond.fieldLinkNest "LateLines$State" 154 "LateLines$Box" "number" "I" "LateLines" ∈ lw_tbl) := Or.inr (List.mem_of_getElem? (i := 114) (by decide +kernel))
theorem fl_X2_161 : (Cond.fieldLink "LateLines$State" 161 "LateLines$Box" "changed" "I" ∈ lw_tbl ∨ Cond.fieldLinkNest "LateLines$State" 161 "LateLines$Box" "changed" "I" "LateLines" ∈ lw_tbl) := Or.inr (List.mem_of_getElem? (i := 134) (by decide +kernel))
theorem fl_X2_174 : (Cond.fieldLink "LateLines$State" 174 "LateLines$Box" "used" "I" ∈ lw_tbl ∨ Cond.fieldLinkNest "LateLines$State" 174 "LateLines$Box" "used" "I" "LateLines" ∈ lw_tbl) := Or.inr (List.mem_of_getElem? (i := 139) (by decide +kernel))
theorem lc_X2_177 : Cond.constantFloat "LateLines$State" 177 (1069547520 : UInt32) ∈ lw_tbl := List.mem_of_getElem? (i := 423) (by decide +kernel)
theorem lc_X2_178 : Cond.constantFloat "LateLines$State" 178 (1074266112 : UInt32) ∈ lw_tbl := List.mem_of_getElem? (i := 424) (by decide +kernel)
theorem lc_X2_179 : Cond.constantFloat "LateLines$State" 179 (1048576000 : UInt32) ∈ lw_tbl := List.mem_of_getElem? (i := 425) (by decide +kernel)
theorem lc_X2_180 : Cond.constantFloat "LateLines$State" 180 (1083703296 : UInt32) ∈ lw_tbl := List.mem_of_getElem? (i := 426) (by decide +kernel)
theorem lc_X4_82 : Cond.constant "LateLines" 82 (999999 : Int32) ∈ lw_tbl := List.mem_of_getElem? (i := 460) (by decide +kernel)
theorem lc_X4_83 : Cond.constantLong "LateLines" 83 (1103515245 : Int64) ∈ lw_tbl := List.mem_of_getElem? (i := 461) (by decide +kernel)
theorem lc_X4_85 : Cond.constantLong "LateLines" 85 (12345 : Int64) ∈ lw_tbl := List.mem_of_getElem? (i := 462) (by decide +kernel)
theorem lc_X4_87 : Cond.constantLong "LateLines" 87 (2147483648 : Int64) ∈ lw_tbl := List.mem_of_getElem? (i := 463) (by decide +kernel)
theorem lc_X4_89 : Cond.constantLong "LateLines" 89 (65536 : Int64) ∈ lw_tbl := List.mem_of_getElem? (i := 464) (by decide +kernel)
theorem lc_X4_91 : Cond.constantLong "LateLines" 91 (16 : Int64) ∈ lw_tbl := List.mem_of_getElem? (i := 465) (by decide +kernel)
theorem lc_X4_93 : Cond.constantLong "LateLines" 93 (1024 : Int64) ∈ lw_tbl := List.mem_of_getElem? (i := 466) (by decide +kernel)
theorem lc_X4_95 : Cond.constantLong "LateLines" 95 (4 : Int64) ∈ lw_tbl := List.mem_of_getElem? (i := 467) (by decide +kernel)
theorem lc_X4_97 : Cond.constantLong "LateLines" 97 (32768 : Int64) ∈ lw_tbl := List.mem_of_getElem? (i := 468) (by decide +kernel)
theorem lc_X4_99 : Cond.constantLong "LateLines" 99 (3 : Int64) ∈ lw_tbl := List.mem_of_getElem? (i := 469) (by decide +kernel)
theorem lc_X4_101 : Cond.constantLong "LateLines" 101 (2048 : Int64) ∈ lw_tbl := List.mem_of_getElem? (i := 470) (by decide +kernel)
theorem lc_X4_103 : Cond.constantLong "LateLines" 103 (100 : Int64) ∈ lw_tbl := List.mem_of_getElem? (i := 471) (by decide +kernel)
theorem fl_X4_105 : (Cond.fieldLink "LateLines" 105 "LateLines$State" "loads" "LLateLines$Loads;" ∈ lw_tbl ∨ Cond.fieldLinkNest "LateLines" 105 "LateLines$State" "loads" "LLateLines$Loads;" "LateLines" ∈ lw_tbl) := Or.inr (List.mem_of_getElem? (i := 223) (by decide +kernel))
theorem fl_X4_109 : (Cond.fieldLink "LateLines" 109 "LateLines$Loads" "known" "I" ∈ lw_tbl ∨ Cond.fieldLinkNest "LateLines" 109 "LateLines$Loads" "known" "I" "LateLines" ∈ lw_tbl) := Or.inr (List.mem_of_getElem? (i := 179) (by decide +kernel))
theorem fl_X4_114 : (Cond.fieldLink "LateLines" 114 "LateLines$Loads" "gave" "[I" ∈ lw_tbl ∨ Cond.fieldLinkNest "LateLines" 114 "LateLines$Loads" "gave" "[I" "LateLines" ∈ lw_tbl) := Or.inr (List.mem_of_getElem? (i := 173) (by decide +kernel))
theorem fl_X4_117 : (Cond.fieldLink "LateLines" 117 "LateLines$Loads" "waited" "[I" ∈ lw_tbl ∨ Cond.fieldLinkNest "LateLines" 117 "LateLines$Loads" "waited" "[I" "LateLines" ∈ lw_tbl) := Or.inr (List.mem_of_getElem? (i := 175) (by decide +kernel))
theorem fl_X4_120 : (Cond.fieldLink "LateLines" 120 "LateLines$Loads" "began" "[I" ∈ lw_tbl ∨ Cond.fieldLinkNest "LateLines" 120 "LateLines$Loads" "began" "[I" "LateLines" ∈ lw_tbl) := Or.inr (List.mem_of_getElem? (i := 177) (by decide +kernel))
theorem fl_X4_123 : (Cond.fieldLink "LateLines" 123 "LateLines$Box" "spot" "I" ∈ lw_tbl ∨ Cond.fieldLinkNest "LateLines" 123 "LateLines$Box" "spot" "I" "LateLines" ∈ lw_tbl) := Or.inr (List.mem_of_getElem? (i := 132) (by decide +kernel))
theorem fl_X4_128 : (Cond.fieldLink "LateLines" 128 "LateLines$Box" "far" "[I" ∈ lw_tbl ∨ Cond.fieldLinkNest "LateLines" 128 "LateLines$Box" "far" "[I" "LateLines" ∈ lw_tbl) := Or.inr (List.mem_of_getElem? (i := 117) (by decide +kernel))
theorem fl_X4_145 : (Cond.fieldLink "LateLines" 145 "LateLines$Box" "number" "I" ∈ lw_tbl ∨ Cond.fieldLinkNest "LateLines" 145 "LateLines$Box" "number" "I" "LateLines" ∈ lw_tbl) := Or.inr (List.mem_of_getElem? (i := 115) (by decide +kernel))
theorem fl_X4_148 : (Cond.fieldLink "LateLines" 148 "LateLines$Box" "due" "I" ∈ lw_tbl ∨ Cond.fieldLinkNest "LateLines" 148 "LateLines$Box" "due" "I" "LateLines" ∈ lw_tbl) := Or.inr (List.mem_of_getElem? (i := 137) (by decide +kernel))
theorem fl_X4_151 : (Cond.fieldLink "LateLines" 151 "LateLines$Box" "askers" "I" ∈ lw_tbl ∨ Cond.fieldLinkNest "LateLines" 151 "LateLines$Box" "askers" "I" "LateLines" ∈ lw_tbl) := Or.inr (List.mem_of_getElem? (i := 129) (by decide +kernel))
theorem fl_X4_154 : (Cond.fieldLink "LateLines" 154 "LateLines$State" "cost" "F" ∈ lw_tbl ∨ Cond.fieldLinkNest "LateLines" 154 "LateLines$State" "cost" "F" "LateLines" ∈ lw_tbl) := Or.inr (List.mem_of_getElem? (i := 225) (by decide +kernel))
theorem fl_X4_162 : (Cond.fieldLink "LateLines" 162 "LateLines$Loads" "greatest" "I" ∈ lw_tbl ∨ Cond.fieldLinkNest "LateLines" 162 "LateLines$Loads" "greatest" "I" "LateLines" ∈ lw_tbl) := Or.inr (List.mem_of_getElem? (i := 182) (by decide +kernel))
theorem lc_X4_226 : Cond.constantFloat "LateLines" 226 (1056964608 : UInt32) ∈ lw_tbl := List.mem_of_getElem? (i := 520) (by decide +kernel)
theorem lc_X4_227 : Cond.constantFloat "LateLines" 227 (1258291200 : UInt32) ∈ lw_tbl := List.mem_of_getElem? (i := 521) (by decide +kernel)
theorem lc_X4_228 : Cond.constant "LateLines" 228 (-2147483648 : Int32) ∈ lw_tbl := List.mem_of_getElem? (i := 522) (by decide +kernel)
theorem lc_X4_229 : Cond.constantLong "LateLines" 229 (1023 : Int64) ∈ lw_tbl := List.mem_of_getElem? (i := 534) (by decide +kernel)
theorem lc_X4_231 : Cond.constantDouble "LateLines" 231 (4611686018427387904 : UInt64) ∈ lw_tbl := List.mem_of_getElem? (i := 535) (by decide +kernel)
theorem lc_X4_233 : Cond.constantDouble "LateLines" 233 (4602678819172646912 : UInt64) ∈ lw_tbl := List.mem_of_getElem? (i := 536) (by decide +kernel)
theorem lc_X4_235 : Cond.constantDouble "LateLines" 235 (4841369599423283200 : UInt64) ∈ lw_tbl := List.mem_of_getElem? (i := 537) (by decide +kernel)
theorem lc_X4_237 : Cond.constantLong "LateLines" 237 (-9223372036854775808 : Int64) ∈ lw_tbl := List.mem_of_getElem? (i := 538) (by decide +kernel)
theorem lc_X4_181 : Cond.constant "LateLines" 181 (2000000000 : Int32) ∈ lw_tbl := List.mem_of_getElem? (i := 575) (by decide +kernel)
theorem fl_X3_24 : (Cond.fieldLink "LateLines$Text" 24 "LateLines$Text" "orders" "I" ∈ lw_tbl ∨ Cond.fieldLinkNest "LateLines$Text" 24 "LateLines$Text" "orders" "I" "LateLines" ∈ lw_tbl) := Or.inl (List.mem_of_getElem? (i := 266) (by decide +kernel))
theorem fl_X3_28 : (Cond.fieldLink "LateLines$Text" 28 "LateLines$Text" "at" "I" ∈ lw_tbl ∨ Cond.fieldLinkNest "LateLines$Text" 28 "LateLines$Text" "at" "I" "LateLines" ∈ lw_tbl) := Or.inl (List.mem_of_getElem? (i := 268) (by decide +kernel))
theorem fl_X3_31 : (Cond.fieldLink "LateLines$Text" 31 "LateLines$Text" "fault" "I" ∈ lw_tbl ∨ Cond.fieldLinkNest "LateLines$Text" 31 "LateLines$Text" "fault" "I" "LateLines" ∈ lw_tbl) := Or.inl (List.mem_of_getElem? (i := 269) (by decide +kernel))
theorem fl_X3_45 : (Cond.fieldLink "LateLines$Text" 45 "LateLines$Text" "length" "I" ∈ lw_tbl ∨ Cond.fieldLinkNest "LateLines$Text" 45 "LateLines$Text" "length" "I" "LateLines" ∈ lw_tbl) := Or.inl (List.mem_of_getElem? (i := 264) (by decide +kernel))
theorem fl_X2_85 : (Cond.fieldLink "LateLines$State" 85 "LateLines$Text" "orders" "I" ∈ lw_tbl ∨ Cond.fieldLinkNest "LateLines$State" 85 "LateLines$Text" "orders" "I" "LateLines" ∈ lw_tbl) := Or.inr (List.mem_of_getElem? (i := 267) (by decide +kernel))
theorem fl_X2_90 : (Cond.fieldLink "LateLines$State" 90 "LateLines$Text" "orderBox" "[I" ∈ lw_tbl ∨ Cond.fieldLinkNest "LateLines$State" 90 "LateLines$Text" "orderBox" "[I" "LateLines" ∈ lw_tbl) := Or.inr (List.mem_of_getElem? (i := 259) (by decide +kernel))
theorem fl_X2_93 : (Cond.fieldLink "LateLines$State" 93 "LateLines$Text" "orderNumber" "[I" ∈ lw_tbl ∨ Cond.fieldLinkNest "LateLines$State" 93 "LateLines$Text" "orderNumber" "[I" "LateLines" ∈ lw_tbl) := Or.inr (List.mem_of_getElem? (i := 263) (by decide +kernel))
theorem fl_X2_103 : (Cond.fieldLink "LateLines$State" 103 "LateLines$Text" "orderItem" "[I" ∈ lw_tbl ∨ Cond.fieldLinkNest "LateLines$State" 103 "LateLines$Text" "orderItem" "[I" "LateLines" ∈ lw_tbl) := Or.inr (List.mem_of_getElem? (i := 261) (by decide +kernel))
theorem fl_X4_193 : (Cond.fieldLink "LateLines" 193 "LateLines$Text" "length" "I" ∈ lw_tbl ∨ Cond.fieldLinkNest "LateLines" 193 "LateLines$Text" "length" "I" "LateLines" ∈ lw_tbl) := Or.inr (List.mem_of_getElem? (i := 265) (by decide +kernel))
theorem fl_X4_196 : (Cond.fieldLink "LateLines" 196 "LateLines$Text" "bytes" "[I" ∈ lw_tbl ∨ Cond.fieldLinkNest "LateLines" 196 "LateLines$Text" "bytes" "[I" "LateLines" ∈ lw_tbl) := Or.inr (List.mem_of_getElem? (i := 257) (by decide +kernel))
theorem lc_X4_203 : Cond.constantLong "LateLines" 203 (2087 : Int64) ∈ lw_tbl := List.mem_of_getElem? (i := 615) (by decide +kernel)
theorem lc_X4_205 : Cond.constantLong "LateLines" 205 (31 : Int64) ∈ lw_tbl := List.mem_of_getElem? (i := 616) (by decide +kernel)
theorem fl_X5_1 : (Cond.fieldLink "LateLinesModel" 1 "LateLinesModel" "refused" "[I" ∈ lw_tbl ∨ Cond.fieldLinkNest "LateLinesModel" 1 "LateLinesModel" "refused" "[I" "LateLines" ∈ lw_tbl) := Or.inl (List.mem_of_getElem? (i := 633) (by decide +kernel))
theorem fl_X5_13 : (Cond.fieldLink "LateLinesModel" 13 "LateLinesModel" "told" "[I" ∈ lw_tbl ∨ Cond.fieldLinkNest "LateLinesModel" 13 "LateLinesModel" "told" "[I" "LateLines" ∈ lw_tbl) := Or.inl (List.mem_of_getElem? (i := 634) (by decide +kernel))
theorem fl_X5_16 : (Cond.fieldLink "LateLinesModel" 16 "LateLinesModel" "far" "[I" ∈ lw_tbl ∨ Cond.fieldLinkNest "LateLinesModel" 16 "LateLinesModel" "far" "[I" "LateLines" ∈ lw_tbl) := Or.inl (List.mem_of_getElem? (i := 635) (by decide +kernel))
theorem fl_X5_19 : (Cond.fieldLink "LateLinesModel" 19 "LateLinesModel" "items" "[I" ∈ lw_tbl ∨ Cond.fieldLinkNest "LateLinesModel" 19 "LateLinesModel" "items" "[I" "LateLines" ∈ lw_tbl) := Or.inl (List.mem_of_getElem? (i := 636) (by decide +kernel))
theorem fl_X5_22 : (Cond.fieldLink "LateLinesModel" 22 "LateLinesModel" "changed" "[I" ∈ lw_tbl ∨ Cond.fieldLinkNest "LateLinesModel" 22 "LateLinesModel" "changed" "[I" "LateLines" ∈ lw_tbl) := Or.inl (List.mem_of_getElem? (i := 637) (by decide +kernel))
theorem fl_X5_25 : (Cond.fieldLink "LateLinesModel" 25 "LateLinesModel" "where" "[I" ∈ lw_tbl ∨ Cond.fieldLinkNest "LateLinesModel" 25 "LateLinesModel" "where" "[I" "LateLines" ∈ lw_tbl) := Or.inl (List.mem_of_getElem? (i := 638) (by decide +kernel))
theorem fl_X5_28 : (Cond.fieldLink "LateLinesModel" 28 "LateLinesModel" "due" "[I" ∈ lw_tbl ∨ Cond.fieldLinkNest "LateLinesModel" 28 "LateLinesModel" "due" "[I" "LateLines" ∈ lw_tbl) := Or.inl (List.mem_of_getElem? (i := 639) (by decide +kernel))
theorem fl_X5_31 : (Cond.fieldLink "LateLinesModel" 31 "LateLinesModel" "rowMany" "[I" ∈ lw_tbl ∨ Cond.fieldLinkNest "LateLinesModel" 31 "LateLinesModel" "rowMany" "[I" "LateLines" ∈ lw_tbl) := Or.inl (List.mem_of_getElem? (i := 640) (by decide +kernel))
theorem fl_X5_34 : (Cond.fieldLink "LateLinesModel" 34 "LateLinesModel" "rowBox" "[I" ∈ lw_tbl ∨ Cond.fieldLinkNest "LateLinesModel" 34 "LateLinesModel" "rowBox" "[I" "LateLines" ∈ lw_tbl) := Or.inl (List.mem_of_getElem? (i := 641) (by decide +kernel))
theorem fl_X5_37 : (Cond.fieldLink "LateLinesModel" 37 "LateLinesModel" "fetch" "[I" ∈ lw_tbl ∨ Cond.fieldLinkNest "LateLinesModel" 37 "LateLinesModel" "fetch" "[I" "LateLines" ∈ lw_tbl) := Or.inl (List.mem_of_getElem? (i := 642) (by decide +kernel))
theorem fl_X5_40 : (Cond.fieldLink "LateLinesModel" 40 "LateLinesModel" "askMany" "[I" ∈ lw_tbl ∨ Cond.fieldLinkNest "LateLinesModel" 40 "LateLinesModel" "askMany" "[I" "LateLines" ∈ lw_tbl) := Or.inl (List.mem_of_getElem? (i := 643) (by decide +kernel))
theorem fl_X5_43 : (Cond.fieldLink "LateLinesModel" 43 "LateLinesModel" "askItem" "[I" ∈ lw_tbl ∨ Cond.fieldLinkNest "LateLinesModel" 43 "LateLinesModel" "askItem" "[I" "LateLines" ∈ lw_tbl) := Or.inl (List.mem_of_getElem? (i := 644) (by decide +kernel))
theorem fl_X5_46 : (Cond.fieldLink "LateLinesModel" 46 "LateLinesModel" "askValue" "[I" ∈ lw_tbl ∨ Cond.fieldLinkNest "LateLinesModel" 46 "LateLinesModel" "askValue" "[I" "LateLines" ∈ lw_tbl) := Or.inl (List.mem_of_getElem? (i := 645) (by decide +kernel))
theorem fl_X5_49 : (Cond.fieldLink "LateLinesModel" 49 "LateLinesModel" "askTick" "[I" ∈ lw_tbl ∨ Cond.fieldLinkNest "LateLinesModel" 49 "LateLinesModel" "askTick" "[I" "LateLines" ∈ lw_tbl) := Or.inl (List.mem_of_getElem? (i := 646) (by decide +kernel))
theorem fl_X5_52 : (Cond.fieldLink "LateLinesModel" 52 "LateLinesModel" "askLoad" "[I" ∈ lw_tbl ∨ Cond.fieldLinkNest "LateLinesModel" 52 "LateLinesModel" "askLoad" "[I" "LateLines" ∈ lw_tbl) := Or.inl (List.mem_of_getElem? (i := 647) (by decide +kernel))
theorem fl_X5_55 : (Cond.fieldLink "LateLinesModel" 55 "LateLinesModel" "many" "[I" ∈ lw_tbl ∨ Cond.fieldLinkNest "LateLinesModel" 55 "LateLinesModel" "many" "[I" "LateLines" ∈ lw_tbl) := Or.inl (List.mem_of_getElem? (i := 648) (by decide +kernel))
theorem fl_X5_58 : (Cond.fieldLink "LateLinesModel" 58 "LateLinesModel" "often" "[I" ∈ lw_tbl ∨ Cond.fieldLinkNest "LateLinesModel" 58 "LateLinesModel" "often" "[I" "LateLines" ∈ lw_tbl) := Or.inl (List.mem_of_getElem? (i := 649) (by decide +kernel))
theorem fl_X5_61 : (Cond.fieldLink "LateLinesModel" 61 "LateLinesModel" "loadGot" "[I" ∈ lw_tbl ∨ Cond.fieldLinkNest "LateLinesModel" 61 "LateLinesModel" "loadGot" "[I" "LateLines" ∈ lw_tbl) := Or.inl (List.mem_of_getElem? (i := 650) (by decide +kernel))
theorem fl_X5_64 : (Cond.fieldLink "LateLinesModel" 64 "LateLinesModel" "loadWait" "[I" ∈ lw_tbl ∨ Cond.fieldLinkNest "LateLinesModel" 64 "LateLinesModel" "loadWait" "[I" "LateLines" ∈ lw_tbl) := Or.inl (List.mem_of_getElem? (i := 651) (by decide +kernel))
theorem fl_X5_67 : (Cond.fieldLink "LateLinesModel" 67 "LateLinesModel" "loadTick" "[I" ∈ lw_tbl ∨ Cond.fieldLinkNest "LateLinesModel" 67 "LateLinesModel" "loadTick" "[I" "LateLines" ∈ lw_tbl) := Or.inl (List.mem_of_getElem? (i := 652) (by decide +kernel))
theorem fl_X5_70 : (Cond.fieldLink "LateLinesModel" 70 "LateLinesModel" "kept" "[I" ∈ lw_tbl ∨ Cond.fieldLinkNest "LateLinesModel" 70 "LateLinesModel" "kept" "[I" "LateLines" ∈ lw_tbl) := Or.inl (List.mem_of_getElem? (i := 657) (by decide +kernel))
theorem fl_X5_73 : (Cond.fieldLink "LateLinesModel" 73 "LateLinesModel" "keptCost" "[F" ∈ lw_tbl ∨ Cond.fieldLinkNest "LateLinesModel" 73 "LateLinesModel" "keptCost" "[F" "LateLines" ∈ lw_tbl) := Or.inl (List.mem_of_getElem? (i := 658) (by decide +kernel))
theorem fl_X5_77 : (Cond.fieldLink "LateLinesModel" 77 "LateLinesModel" "keptWaits" "[J" ∈ lw_tbl ∨ Cond.fieldLinkNest "LateLinesModel" 77 "LateLinesModel" "keptWaits" "[J" "LateLines" ∈ lw_tbl) := Or.inl (List.mem_of_getElem? (i := 659) (by decide +kernel))
theorem fl_X5_81 : (Cond.fieldLink "LateLinesModel" 81 "LateLinesModel" "keptSquares" "[J" ∈ lw_tbl ∨ Cond.fieldLinkNest "LateLinesModel" 81 "LateLinesModel" "keptSquares" "[J" "LateLines" ∈ lw_tbl) := Or.inl (List.mem_of_getElem? (i := 660) (by decide +kernel))
theorem fl_X5_84 : (Cond.fieldLink "LateLinesModel" 84 "LateLinesModel" "text" "[I" ∈ lw_tbl ∨ Cond.fieldLinkNest "LateLinesModel" 84 "LateLinesModel" "text" "[I" "LateLines" ∈ lw_tbl) := Or.inl (List.mem_of_getElem? (i := 662) (by decide +kernel))
theorem fl_X5_90 : (Cond.fieldLink "LateLinesModel" 90 "LateLinesModel" "cost" "F" ∈ lw_tbl ∨ Cond.fieldLinkNest "LateLinesModel" 90 "LateLinesModel" "cost" "F" "LateLines" ∈ lw_tbl) := Or.inl (List.mem_of_getElem? (i := 653) (by decide +kernel))
theorem fl_X5_94 : (Cond.fieldLink "LateLinesModel" 94 "LateLinesModel" "waits" "J" ∈ lw_tbl ∨ Cond.fieldLinkNest "LateLinesModel" 94 "LateLinesModel" "waits" "J" "LateLines" ∈ lw_tbl) := Or.inl (List.mem_of_getElem? (i := 654) (by decide +kernel))
theorem fl_X5_98 : (Cond.fieldLink "LateLinesModel" 98 "LateLinesModel" "squares" "J" ∈ lw_tbl ∨ Cond.fieldLinkNest "LateLinesModel" 98 "LateLinesModel" "squares" "J" "LateLines" ∈ lw_tbl) := Or.inl (List.mem_of_getElem? (i := 655) (by decide +kernel))
theorem fl_X5_116 : (Cond.fieldLink "LateLinesModel" 116 "LateLinesModel" "states" "I" ∈ lw_tbl ∨ Cond.fieldLinkNest "LateLinesModel" 116 "LateLinesModel" "states" "I" "LateLines" ∈ lw_tbl) := Or.inl (List.mem_of_getElem? (i := 656) (by decide +kernel))
theorem fl_X5_105 : (Cond.fieldLink "LateLinesModel" 105 "LateLinesModel" "cursor" "I" ∈ lw_tbl ∨ Cond.fieldLinkNest "LateLinesModel" 105 "LateLinesModel" "cursor" "I" "LateLines" ∈ lw_tbl) := Or.inl (List.mem_of_getElem? (i := 661) (by decide +kernel))
theorem lc_X5_195 : Cond.constantFloat "LateLinesModel" 195 (1036831949 : UInt32) ∈ lw_tbl := List.mem_of_getElem? (i := 862) (by decide +kernel)
theorem lc_X5_141 : Cond.constantFloat "LateLinesModel" 141 (1079194419 : UInt32) ∈ lw_tbl := List.mem_of_getElem? (i := 806) (by decide +kernel)
theorem lc_X5_174 : Cond.constantFloat "LateLinesModel" 174 (1069547520 : UInt32) ∈ lw_tbl := List.mem_of_getElem? (i := 850) (by decide +kernel)
theorem lc_X5_179 : Cond.constantFloat "LateLinesModel" 179 (1074266112 : UInt32) ∈ lw_tbl := List.mem_of_getElem? (i := 855) (by decide +kernel)
theorem lc_X5_183 : Cond.constantFloat "LateLinesModel" 183 (1048576000 : UInt32) ∈ lw_tbl := List.mem_of_getElem? (i := 860) (by decide +kernel)
theorem lc_X5_184 : Cond.constantFloat "LateLinesModel" 184 (1083703296 : UInt32) ∈ lw_tbl := List.mem_of_getElem? (i := 861) (by decide +kernel)
theorem lc_X5_207 : Cond.constant "LateLinesModel" 207 (999999 : Int32) ∈ lw_tbl := List.mem_of_getElem? (i := 879) (by decide +kernel)
theorem lc_X5_208 : Cond.constantLong "LateLinesModel" 208 (1103515245 : Int64) ∈ lw_tbl := List.mem_of_getElem? (i := 880) (by decide +kernel)
theorem lc_X5_210 : Cond.constantLong "LateLinesModel" 210 (12345 : Int64) ∈ lw_tbl := List.mem_of_getElem? (i := 881) (by decide +kernel)
theorem lc_X5_212 : Cond.constantLong "LateLinesModel" 212 (2147483648 : Int64) ∈ lw_tbl := List.mem_of_getElem? (i := 882) (by decide +kernel)
theorem lc_X5_214 : Cond.constantLong "LateLinesModel" 214 (32768 : Int64) ∈ lw_tbl := List.mem_of_getElem? (i := 883) (by decide +kernel)
theorem lc_X5_216 : Cond.constantLong "LateLinesModel" 216 (3 : Int64) ∈ lw_tbl := List.mem_of_getElem? (i := 884) (by decide +kernel)
theorem lc_X5_218 : Cond.constantLong "LateLinesModel" 218 (65536 : Int64) ∈ lw_tbl := List.mem_of_getElem? (i := 885) (by decide +kernel)
theorem lc_X5_220 : Cond.constantLong "LateLinesModel" 220 (16 : Int64) ∈ lw_tbl := List.mem_of_getElem? (i := 886) (by decide +kernel)
theorem lc_X5_222 : Cond.constantLong "LateLinesModel" 222 (1024 : Int64) ∈ lw_tbl := List.mem_of_getElem? (i := 887) (by decide +kernel)
theorem lc_X5_224 : Cond.constantLong "LateLinesModel" 224 (4 : Int64) ∈ lw_tbl := List.mem_of_getElem? (i := 888) (by decide +kernel)
theorem lc_X5_226 : Cond.constantLong "LateLinesModel" 226 (2048 : Int64) ∈ lw_tbl := List.mem_of_getElem? (i := 889) (by decide +kernel)
theorem lc_X5_228 : Cond.constantLong "LateLinesModel" 228 (100 : Int64) ∈ lw_tbl := List.mem_of_getElem? (i := 890) (by decide +kernel)
theorem fl_X5_250 : (Cond.fieldLink "LateLinesModel" 250 "LateLinesModel" "size" "I" ∈ lw_tbl ∨ Cond.fieldLinkNest "LateLinesModel" 250 "LateLinesModel" "size" "I" "LateLines" ∈ lw_tbl) := Or.inl (List.mem_of_getElem? (i := 663) (by decide +kernel))
theorem fl_X5_253 : (Cond.fieldLink "LateLinesModel" 253 "LateLinesModel" "readAt" "I" ∈ lw_tbl ∨ Cond.fieldLinkNest "LateLinesModel" 253 "LateLinesModel" "readAt" "I" "LateLines" ∈ lw_tbl) := Or.inl (List.mem_of_getElem? (i := 664) (by decide +kernel))
theorem fl_X5_259 : (Cond.fieldLink "LateLinesModel" 259 "LateLinesModel" "tokenAt" "I" ∈ lw_tbl ∨ Cond.fieldLinkNest "LateLinesModel" 259 "LateLinesModel" "tokenAt" "I" "LateLines" ∈ lw_tbl) := Or.inl (List.mem_of_getElem? (i := 665) (by decide +kernel))
theorem fl_X5_265 : (Cond.fieldLink "LateLinesModel" 265 "LateLinesModel" "readNumber" "I" ∈ lw_tbl ∨ Cond.fieldLinkNest "LateLinesModel" 265 "LateLinesModel" "readNumber" "I" "LateLines" ∈ lw_tbl) := Or.inl (List.mem_of_getElem? (i := 666) (by decide +kernel))
theorem lc_X5_292 : Cond.constantLong "LateLinesModel" 292 (2087 : Int64) ∈ lw_tbl := List.mem_of_getElem? (i := 1011) (by decide +kernel)
theorem lc_X5_294 : Cond.constantLong "LateLinesModel" 294 (31 : Int64) ∈ lw_tbl := List.mem_of_getElem? (i := 1012) (by decide +kernel)
theorem ac_n : Cond.native arraycopyName ∈ lw_tbl := List.mem_of_getElem? (i := 105) (by decide +kernel)
theorem ac_s : Cond.static arraycopyName ∈ lw_tbl := List.mem_of_getElem? (i := 104) (by decide +kernel)
theorem ac_i : Cond.initialized "java/lang/System" ∈ lw_tbl := List.mem_of_getElem? (i := 79) (by decide +kernel)
theorem mt_i : Cond.initialized "java/lang/Math" ∈ lw_tbl := List.mem_of_getElem? (i := 84) (by decide +kernel)
theorem mt_s_max : Cond.static Lib.Math.max.name ∈ lw_tbl := List.mem_of_getElem? (i := 342) (by decide +kernel)
theorem mt_c_max : Cond.code Lib.Math.max.name Lib.Math.max.code 2 (some .int) ∈ lw_tbl := List.mem_of_getElem? (i := 343) (by decide +kernel)
theorem mt_s_min : Cond.static Lib.Math.min.name ∈ lw_tbl := List.mem_of_getElem? (i := 339) (by decide +kernel)
theorem mt_c_min : Cond.code Lib.Math.min.name Lib.Math.min.code 2 (some .int) ∈ lw_tbl := List.mem_of_getElem? (i := 340) (by decide +kernel)
theorem oi_i : Cond.instanceMethod Lib.objectInit ∈ lw_tbl := List.mem_of_getElem? (i := 93) (by decide +kernel)
theorem oi_c : Cond.code Lib.objectInit ⟨#[0xb1]⟩ 1 none ∈ lw_tbl := List.mem_of_getElem? (i := 94) (by decide +kernel)
theorem ok_0 : z_ok 994 (0, 0, 0) := z_okG 0 (by decide)
theorem ok_1 {n i : Nat} (hi : i < 8) (hn : z_sb i + 120 ≤ n) : z_ok n (1, i, 0) := z_okS 1 (by decide) hi hn
theorem ok_2 {n i : Nat} (hi : i < 8) (hn : z_sb i + 120 ≤ n) : z_ok n (2, i, 0) := z_okS 2 (by decide) hi hn
theorem ok_3 {n i : Nat} (hi : i < 8) (hn : z_sb i + 120 ≤ n) : z_ok n (3, i, 0) := z_okS 3 (by decide) hi hn
theorem ok_4 {n i : Nat} (hi : i < 8) (hn : z_sb i + 120 ≤ n) : z_ok n (4, i, 0) := z_okS 4 (by decide) hi hn
theorem ok_5 {n i b : Nat} (hi : i < 8) (hb : b < 16) (hn : z_sb i + 120 ≤ n) : z_ok n (5, i, b) := z_okB 5 (by decide) hi hb hn
theorem ok_6 {n i b : Nat} (hi : i < 8) (hb : b < 16) (hn : z_sb i + 120 ≤ n) : z_ok n (6, i, b) := z_okB 6 (by decide) hi hb hn
theorem ok_7 {n i b : Nat} (hi : i < 8) (hb : b < 16) (hn : z_sb i + 120 ≤ n) : z_ok n (7, i, b) := z_okB 7 (by decide) hi hb hn
theorem ok_8 {n i b : Nat} (hi : i < 8) (hb : b < 16) (hn : z_sb i + 120 ≤ n) : z_ok n (8, i, b) := z_okB 8 (by decide) hi hb hn
theorem ok_9 {n i b : Nat} (hi : i < 8) (hb : b < 16) (hn : z_sb i + 120 ≤ n) : z_ok n (9, i, b) := z_okB 9 (by decide) hi hb hn
theorem ok_10 {n i b : Nat} (hi : i < 8) (hb : b < 16) (hn : z_sb i + 120 ≤ n) : z_ok n (10, i, b) := z_okB 10 (by decide) hi hb hn
theorem ok_11 {n i b : Nat} (hi : i < 8) (hb : b < 16) (hn : z_sb i + 120 ≤ n) : z_ok n (11, i, b) := z_okB 11 (by decide) hi hb hn
theorem ok_12 {n i : Nat} (hi : i < 8) (hn : z_sb i + 120 ≤ n) : z_ok n (12, i, 0) := z_okS 12 (by decide) hi hn
theorem ok_13 {n i : Nat} (hi : i < 8) (hn : z_sb i + 120 ≤ n) : z_ok n (13, i, 0) := z_okS 13 (by decide) hi hn
theorem ok_14 {n i : Nat} (hi : i < 8) (hn : z_sb i + 120 ≤ n) : z_ok n (14, i, 0) := z_okS 14 (by decide) hi hn
theorem ok_15 {n i : Nat} (hi : i < 8) (hn : z_sb i + 120 ≤ n) : z_ok n (15, i, 0) := z_okS 15 (by decide) hi hn
theorem ok_16 : z_ok 994 (16, 0, 0) := z_okG 16 (by decide)
theorem ok_17 : z_ok 994 (17, 0, 0) := z_okG 17 (by decide)
theorem ok_18 : z_ok 994 (18, 0, 0) := z_okG 18 (by decide)
theorem ok_19 : z_ok 994 (19, 0, 0) := z_okG 19 (by decide)
theorem ok_20 : z_ok 994 (20, 0, 0) := z_okG 20 (by decide)
theorem ok_21 : z_ok 994 (21, 0, 0) := z_okG 21 (by decide)
theorem ok_22 : z_ok 994 (22, 0, 0) := z_okG 22 (by decide)
theorem ok_23 : z_ok 994 (23, 0, 0) := z_okG 23 (by decide)
theorem ok_24 : z_ok 994 (24, 0, 0) := z_okG 24 (by decide)
theorem ok_25 : z_ok 994 (25, 0, 0) := z_okG 25 (by decide)
theorem ok_26 : z_ok 994 (26, 0, 0) := z_okG 26 (by decide)
theorem ok_27 : z_ok 994 (27, 0, 0) := z_okG 27 (by decide)
theorem ok_28 : z_ok 994 (28, 0, 0) := z_okG 28 (by decide)
theorem ok_29 : z_ok 994 (29, 0, 0) := z_okG 29 (by decide)
theorem ok_30 : z_ok 994 (30, 0, 0) := z_okG 30 (by decide)
theorem ok_31 : z_ok 994 (31, 0, 0) := z_okG 31 (by decide)
theorem ok_32 : z_ok 994 (32, 0, 0) := z_okG 32 (by decide)
theorem ok_33 : z_ok 994 (33, 0, 0) := z_okG 33 (by decide)
theorem ok_34 : z_ok 994 (34, 0, 0) := z_okG 34 (by decide)
theorem ok_35 : z_ok 994 (35, 0, 0) := z_okG 35 (by decide)
theorem ok_36 : z_ok 994 (36, 0, 0) := z_okG 36 (by decide)
theorem ok_37 : z_ok 994 (37, 0, 0) := z_okG 37 (by decide)
theorem ok_38 : z_ok 994 (38, 0, 0) := z_okG 38 (by decide)
theorem ok_39 : z_ok 994 (39, 0, 0) := z_okG 39 (by decide)
theorem ok_40 : z_ok 994 (40, 0, 0) := z_okG 40 (by decide)
theorem ok_41 : z_ok 994 (41, 0, 0) := z_okG 41 (by decide)
theorem ok_42 : z_ok 994 (42, 0, 0) := z_okG 42 (by decide)
theorem ok_43 : z_ok 994 (43, 0, 0) := z_okG 43 (by decide)
theorem ok_44 : z_ok 994 (44, 0, 0) := z_okG 44 (by decide)
theorem ok_45 : z_ok 994 (45, 0, 0) := z_okG 45 (by decide)
theorem ok_46 : z_ok 994 (46, 0, 0) := z_okG 46 (by decide)
theorem ok_47 : z_ok 994 (47, 0, 0) := z_okG 47 (by decide)
theorem ok_48 : z_ok 994 (48, 0, 0) := z_okG 48 (by decide)
theorem zE.ifnull {o : zW} {d : zD} {pc : Nat} {lv : List (Nat × Value)} {st : List Value} {M : zM} {mc ms : Nat} {Q : Option Value → zM → Prop} {i : Nat} {x : Option Nat} {off : Int} {tgt : Nat} (hd : decode (z_cc d) pc = .ok (.ifnull off, 3)) (ht : (pc : Int) + off = (tgt : Int)) (kt : x = none → zJ o d tgt lv st M mc ms Q) (kf : ∀ b, x = some b → zJ o d (pc + 3) lv st M mc ms Q) : zJ o d pc lv (va_rf (z_bo o i x) :: st) M mc ms Q :=
  zJ.ifnull hd ht (fun h => kt (by cases x with | none => rfl | some b => simp [z_bo] at h)) (fun a h => by cases x with | none => simp [z_bo] at h | some b => exact kf b rfl)
theorem zE.ifnonnull {o : zW} {d : zD} {pc : Nat} {lv : List (Nat × Value)} {st : List Value} {M : zM} {mc ms : Nat} {Q : Option Value → zM → Prop} {i : Nat} {x : Option Nat} {off : Int} {tgt : Nat} (hd : decode (z_cc d) pc = .ok (.ifnonnull off, 3)) (ht : (pc : Int) + off = (tgt : Int)) (kt : ∀ b, x = some b → zJ o d tgt lv st M mc ms Q) (kf : x = none → zJ o d (pc + 3) lv st M mc ms Q) : zJ o d pc lv (va_rf (z_bo o i x) :: st) M mc ms Q :=
  zJ.ifnonnull hd ht (fun a h => by cases x with | none => simp [z_bo] at h | some b => exact kt b rfl) (fun h => kf (by cases x with | none => rfl | some b => simp [z_bo] at h))
theorem z_swd {x : Int32} {k : Nat} (hk : k < 2 ^ 31) (h : ∀ j, j ≤ k → x ≠ Int32.ofNat j) : x.toInt < ((0 : Nat) : Int) ∨ (k : Int) < x.toInt := by
  by_cases h1 : x.toInt < 0
  · exact Or.inl h1
  · by_cases h2 : (k : Int) < x.toInt
    · exact Or.inr h2
    · refine absurd ?_ (h x.toInt.toNat (by omega))
      apply Int32.toInt_inj.mp
      have : (nI x.toInt.toNat).toInt = (x.toInt.toNat : Int) := nI_toInt (by omega)
      show x.toInt = (nI x.toInt.toNat).toInt
      rw [this]
      omega
end
section
abbrev z_lcmp (x y : Int64) : Int32 := lg_cmp x y
section ZM
variable {o : zW} {d : zD} {pc n : Nat} {lv : List (Nat × Value)} {st : List Value} {M : zM} {S : zS} {mc ms : Nat} {Q : Option Value → zM → Prop}
theorem zJ.topi {x : Int32} (k : ∀ y : Int32, y = x → zJ o d pc lv (.int y :: st) M mc ms Q) : zJ o d pc lv (.int x :: st) M mc ms Q := k x rfl
theorem zJ.nameS (k : ∀ S' : zS, S' = S → zJ o d pc lv st (n, z_enc o S') mc ms Q) : zJ o d pc lv st (n, z_enc o S) mc ms Q := k S rfl
theorem zJ.lcmp {x y : Int64} (hd : decode (z_cc d) pc = .ok (.lcmp, 1)) (k : zJ o d (pc + 1) lv (.int (z_lcmp x y) :: st) M mc ms Q) : zJ o d pc lv (.long y :: .long x :: st) M mc ms Q := by
  intro p l e R s m args below meth c tc ts Z hR C E H locs cells slots ls h1 h2 h3 h4
  exact W.lcmp C.1 C.2.1 hd (k p l e R s m args below meth c tc ts Z hR C E H locs cells slots ls h1 h2 h3 h4)
end ZM
theorem z_swe {x : Int32} {lo k : Nat} (hk : k < 2 ^ 31) (h : ∀ j, lo ≤ j → j ≤ k → x ≠ Int32.ofNat j) : x.toInt < (lo : Int) ∨ (k : Int) < x.toInt := by
  by_cases h1 : x.toInt < (lo : Int)
  · exact Or.inl h1
  · by_cases h2 : (k : Int) < x.toInt
    · exact Or.inr h2
    · refine absurd ?_ (h x.toInt.toNat (by omega) (by omega))
      apply Int32.toInt_inj.mp
      have : (nI x.toInt.toNat).toInt = (x.toInt.toNat : Int) := nI_toInt (by omega)
      show x.toInt = (nI x.toInt.toNat).toInt
      rw [this]
      omega
end
section
set_option maxRecDepth 100000 in
set_option maxHeartbeats 4000000 in
theorem w_X0_renew_0 (o : zW) (n : Nat) (i : Nat) (hi : i < 8) (hn : z_sb i + 120 ≤ n) (b : Nat) (hb : b < 16) (S : zS) (Q : Option Value → zS → Prop) (h : zG o n mdX0_renew 2 [(0, .ref (z_adr o (5, i, b))), (1, .int 0)] [] S Q) : zG o n mdX0_renew 0 [(0, .ref (z_adr o (5, i, b)))] [] S Q := by
  show zJ o mdX0_renew 0 _ [] (n, z_enc o S) 0 0 _
  refine zJ.iconst (v := 0) dX0_renew_0 (by decide) ?_
  refine zJ.istore_n (lv' := [(1, .int 0), (0, .ref (z_adr o (5, i, b)))]) dX0_renew_1 rfl (Nat.le_of_ble_eq_true rfl) rfl ?_
  exact zJ.sub [1, 0] rfl h
set_option maxRecDepth 100000 in
set_option maxHeartbeats 4000000 in
theorem w_X0_renew_2 (o : zW) (n : Nat) (i : Nat) (hi : i < 8) (hn : z_sb i + 120 ≤ n) (b : Nat) (hb : b < 16) (x1 : Int32) (S : zS) (Q : Option Value → zS → Prop) (h : (4 ≤ x1 → (∀ S2, S2 = sI (sI (sI (sI S (5, i, b) 7 0) (5, i, b) 8 0) (5, i, b) 9 0) (5, i, b) 10 (2000000000 : Int32) → (Q none (sI S2 (5, i, b) 11 0)))) ∧ (¬ 4 ≤ x1 → (vp_in x1 4 ∧ (zG o n mdX0_renew 2 [(0, .ref (z_adr o (5, i, b))), (1, .int (x1 + 1))] [] (sI S (6, i, b) (x1.toNatClampNeg) ((5 * (nI b)) + x1)) Q)))) : zG o n mdX0_renew 2 [(0, .ref (z_adr o (5, i, b))), (1, .int x1)] [] S Q := by
  show zJ o mdX0_renew 2 _ [] (n, z_enc o S) 0 0 _
  refine zJ.iload_n 1 dX0_renew_2 rfl rfl ?_
  refine zJ.iconst (v := 4) dX0_renew_3 (by decide) ?_
  refine zJ.icmp_ge (tgt := 27) dX0_renew_4 (by decide) (fun c1 => ?_) (fun c1 => ?_)
  · replace h := h.1 c1
    refine zJ.aload_n 0 dX0_renew_27 rfl rfl ?_
    refine zJ.iconst (v := 0) dX0_renew_28 (by decide) ?_
    refine zE.putI (fd_5_7 o i b) (ok_5 hi hb hn) kiX0 (Nat.le_of_ble_eq_true rfl) fl_X0_34 rfl rfl dX0_renew_29 ?_
    refine zJ.aload_n 0 dX0_renew_32 rfl rfl ?_
    refine zJ.iconst (v := 0) dX0_renew_33 (by decide) ?_
    refine zE.putI (fd_5_8 o i b) (ok_5 hi hb hn) kiX0 (Nat.le_of_ble_eq_true rfl) fl_X0_37 rfl rfl dX0_renew_34 ?_
    refine zJ.aload_n 0 dX0_renew_37 rfl rfl ?_
    refine zJ.iconst (v := 0) dX0_renew_38 (by decide) ?_
    refine zE.putI (fd_5_9 o i b) (ok_5 hi hb hn) kiX0 (Nat.le_of_ble_eq_true rfl) fl_X0_40 rfl rfl dX0_renew_39 ?_
    refine zJ.aload_n 0 dX0_renew_42 rfl rfl ?_
    refine zJ.ldc lc_X0_43 dX0_renew_43 ?_
    refine zE.putI (fd_5_10 o i b) (ok_5 hi hb hn) kiX0 (Nat.le_of_ble_eq_true rfl) fl_X0_44 rfl rfl dX0_renew_45 ?_
    refine zJ.nameS (fun S2 hyS2 => ?_)
    replace h := h S2 hyS2
    refine zJ.aload_n 0 dX0_renew_48 rfl rfl ?_
    refine zJ.iconst (v := 0) dX0_renew_49 (by decide) ?_
    refine zE.putI (fd_5_11 o i b) (ok_5 hi hb hn) kiX0 (Nat.le_of_ble_eq_true rfl) fl_X0_47 rfl rfl dX0_renew_50 ?_
    exact zG.ret (r := none) ⟨dX0_renew_53, rfl⟩ h
  · replace h := h.2 c1
    refine zJ.aload_n 0 dX0_renew_7 rfl rfl ?_
    refine zE.getV (fd_5_1 o i b) (ok_5 hi hb hn) kiX0 (Nat.le_of_ble_eq_true rfl) fl_X0_15 dX0_renew_8 ?_
    refine zJ.iload_n 1 dX0_renew_11 rfl rfl ?_
    refine zJ.iconst (v := 5) dX0_renew_12 (by decide) ?_
    refine zJ.aload_n 0 dX0_renew_13 rfl rfl ?_
    refine zE.getV (fd_5_0 o i b) (ok_5 hi hb hn) kiX0 (Nat.le_of_ble_eq_true rfl) fl_X0_9 dX0_renew_14 ?_
    refine zJ.imul dX0_renew_17 ?_
    refine zJ.iload_n 1 dX0_renew_18 rfl rfl ?_
    refine zJ.iadd dX0_renew_19 ?_
    obtain ⟨hq, h⟩ := h
    refine zE.astI (ia_6 o i b) (ok_6 hi hb hn) hq dX0_renew_20 ?_
    refine zJ.iinc (k := 1) (lv' := [(1, .int (x1 + 1)), (0, .ref (z_adr o (5, i, b)))]) dX0_renew_21 rfl rfl (Nat.le_of_ble_eq_true rfl) rfl ?_
    refine zJ.goto (tgt := 2) dX0_renew_24 (by decide) ?_
    exact zJ.sub [1, 0] rfl h
set_option maxRecDepth 100000 in
set_option maxHeartbeats 4000000 in
theorem w_X0_become_0 (o : zW) (n : Nat) (i : Nat) (hi : i < 8) (hn : z_sb i + 120 ≤ n) (b : Nat) (hb : b < 16) (i2 : Nat) (hi2 : i2 < 8) (hn2 : z_sb i2 + 120 ≤ n) (b2 : Nat) (hb2 : b2 < 16) (S : zS) (Q : Option Value → zS → Prop) (h : ∀ S4, S4 = sC (sC (sC S (6, i2, b2) (6, i, b) 0 0 4) (7, i2, b2) (7, i, b) 0 0 4) (8, i2, b2) (8, i, b) 0 0 4 → (∀ S8, S8 = sC (sC (sC S4 (9, i2, b2) (9, i, b) 0 0 4) (10, i2, b2) (10, i, b) 0 0 4) (11, i2, b2) (11, i, b) 0 0 4 → (∀ S9, S9 = sI (sI S8 (5, i, b) 7 (S8.1 (5, i2, b2) 7)) (5, i, b) 8 ((sI S8 (5, i, b) 7 (S8.1 (5, i2, b2) 7)).1 (5, i2, b2) 8) → (∀ S10, S10 = sI (sI S9 (5, i, b) 9 (S9.1 (5, i2, b2) 9)) (5, i, b) 10 ((sI S9 (5, i, b) 9 (S9.1 (5, i2, b2) 9)).1 (5, i2, b2) 10) → (Q none (sI S10 (5, i, b) 11 (S10.1 (5, i2, b2) 11))))))) : zG o n mdX0_become 0 [(0, .ref (z_adr o (5, i, b))), (1, .ref (z_adr o (5, i2, b2)))] [] S Q := by
  show zJ o mdX0_become 0 _ [] (n, z_enc o S) 0 0 _
  refine zJ.aload_n 1 dX0_become_0 rfl rfl ?_
  refine zE.getV (fd_5_1 o i2 b2) (ok_5 hi2 hb2 hn2) kiX0 (Nat.le_of_ble_eq_true rfl) fl_X0_15 dX0_become_1 ?_
  refine zJ.iconst (v := 0) dX0_become_4 (by decide) ?_
  refine zJ.aload_n 0 dX0_become_5 rfl rfl ?_
  refine zE.getV (fd_5_1 o i b) (ok_5 hi hb hn) kiX0 (Nat.le_of_ble_eq_true rfl) fl_X0_15 dX0_become_6 ?_
  refine zJ.iconst (v := 0) dX0_become_9 (by decide) ?_
  refine zJ.iconst (v := 4) dX0_become_10 (by decide) ?_
  refine zE.copy ⟨ml_X0_50, ac_n, ac_s, ac_i⟩ (ia_6 o i2 b2) (ia_6 o i b) (ok_6 hi2 hb2 hn2) (ok_6 hi hb hn) (by decide) (by decide) (by decide) (by decide) (by decide) (Nat.le_of_ble_eq_true rfl) (by decide) dX0_become_11 ?_
  refine zJ.aload_n 1 dX0_become_14 rfl rfl ?_
  refine zE.getV (fd_5_2 o i2 b2) (ok_5 hi2 hb2 hn2) kiX0 (Nat.le_of_ble_eq_true rfl) fl_X0_19 dX0_become_15 ?_
  refine zJ.iconst (v := 0) dX0_become_18 (by decide) ?_
  refine zJ.aload_n 0 dX0_become_19 rfl rfl ?_
  refine zE.getV (fd_5_2 o i b) (ok_5 hi hb hn) kiX0 (Nat.le_of_ble_eq_true rfl) fl_X0_19 dX0_become_20 ?_
  refine zJ.iconst (v := 0) dX0_become_23 (by decide) ?_
  refine zJ.iconst (v := 4) dX0_become_24 (by decide) ?_
  refine zE.copy ⟨ml_X0_50, ac_n, ac_s, ac_i⟩ (ia_7 o i2 b2) (ia_7 o i b) (ok_7 hi2 hb2 hn2) (ok_7 hi hb hn) (by decide) (by decide) (by decide) (by decide) (by decide) (Nat.le_of_ble_eq_true rfl) (by decide) dX0_become_25 ?_
  refine zJ.aload_n 1 dX0_become_28 rfl rfl ?_
  refine zE.getV (fd_5_3 o i2 b2) (ok_5 hi2 hb2 hn2) kiX0 (Nat.le_of_ble_eq_true rfl) fl_X0_22 dX0_become_29 ?_
  refine zJ.iconst (v := 0) dX0_become_32 (by decide) ?_
  refine zJ.aload_n 0 dX0_become_33 rfl rfl ?_
  refine zE.getV (fd_5_3 o i b) (ok_5 hi hb hn) kiX0 (Nat.le_of_ble_eq_true rfl) fl_X0_22 dX0_become_34 ?_
  refine zJ.iconst (v := 0) dX0_become_37 (by decide) ?_
  refine zJ.iconst (v := 4) dX0_become_38 (by decide) ?_
  refine zE.copy ⟨ml_X0_50, ac_n, ac_s, ac_i⟩ (ia_8 o i2 b2) (ia_8 o i b) (ok_8 hi2 hb2 hn2) (ok_8 hi hb hn) (by decide) (by decide) (by decide) (by decide) (by decide) (Nat.le_of_ble_eq_true rfl) (by decide) dX0_become_39 ?_
  refine zJ.nameS (fun S4 hyS4 => ?_)
  replace h := h S4 hyS4
  refine zJ.aload_n 1 dX0_become_42 rfl rfl ?_
  refine zE.getV (fd_5_4 o i2 b2) (ok_5 hi2 hb2 hn2) kiX0 (Nat.le_of_ble_eq_true rfl) fl_X0_25 dX0_become_43 ?_
  refine zJ.iconst (v := 0) dX0_become_46 (by decide) ?_
  refine zJ.aload_n 0 dX0_become_47 rfl rfl ?_
  refine zE.getV (fd_5_4 o i b) (ok_5 hi hb hn) kiX0 (Nat.le_of_ble_eq_true rfl) fl_X0_25 dX0_become_48 ?_
  refine zJ.iconst (v := 0) dX0_become_51 (by decide) ?_
  refine zJ.iconst (v := 4) dX0_become_52 (by decide) ?_
  refine zE.copy ⟨ml_X0_50, ac_n, ac_s, ac_i⟩ (ia_9 o i2 b2) (ia_9 o i b) (ok_9 hi2 hb2 hn2) (ok_9 hi hb hn) (by decide) (by decide) (by decide) (by decide) (by decide) (Nat.le_of_ble_eq_true rfl) (by decide) dX0_become_53 ?_
  refine zJ.aload_n 1 dX0_become_56 rfl rfl ?_
  refine zE.getV (fd_5_5 o i2 b2) (ok_5 hi2 hb2 hn2) kiX0 (Nat.le_of_ble_eq_true rfl) fl_X0_28 dX0_become_57 ?_
  refine zJ.iconst (v := 0) dX0_become_60 (by decide) ?_
  refine zJ.aload_n 0 dX0_become_61 rfl rfl ?_
  refine zE.getV (fd_5_5 o i b) (ok_5 hi hb hn) kiX0 (Nat.le_of_ble_eq_true rfl) fl_X0_28 dX0_become_62 ?_
  refine zJ.iconst (v := 0) dX0_become_65 (by decide) ?_
  refine zJ.iconst (v := 4) dX0_become_66 (by decide) ?_
  refine zE.copy ⟨ml_X0_50, ac_n, ac_s, ac_i⟩ (ia_10 o i2 b2) (ia_10 o i b) (ok_10 hi2 hb2 hn2) (ok_10 hi hb hn) (by decide) (by decide) (by decide) (by decide) (by decide) (Nat.le_of_ble_eq_true rfl) (by decide) dX0_become_67 ?_
  refine zJ.aload_n 1 dX0_become_70 rfl rfl ?_
  refine zE.getV (fd_5_6 o i2 b2) (ok_5 hi2 hb2 hn2) kiX0 (Nat.le_of_ble_eq_true rfl) fl_X0_31 dX0_become_71 ?_
  refine zJ.iconst (v := 0) dX0_become_74 (by decide) ?_
  refine zJ.aload_n 0 dX0_become_75 rfl rfl ?_
  refine zE.getV (fd_5_6 o i b) (ok_5 hi hb hn) kiX0 (Nat.le_of_ble_eq_true rfl) fl_X0_31 dX0_become_76 ?_
  refine zJ.iconst (v := 0) dX0_become_79 (by decide) ?_
  refine zJ.iconst (v := 4) dX0_become_80 (by decide) ?_
  refine zE.copy ⟨ml_X0_50, ac_n, ac_s, ac_i⟩ (ia_11 o i2 b2) (ia_11 o i b) (ok_11 hi2 hb2 hn2) (ok_11 hi hb hn) (by decide) (by decide) (by decide) (by decide) (by decide) (Nat.le_of_ble_eq_true rfl) (by decide) dX0_become_81 ?_
  refine zJ.nameS (fun S8 hyS8 => ?_)
  replace h := h S8 hyS8
  refine zJ.aload_n 0 dX0_become_84 rfl rfl ?_
  refine zJ.aload_n 1 dX0_become_85 rfl rfl ?_
  refine zE.getI (fd_5_7 o i2 b2) (ok_5 hi2 hb2 hn2) kiX0 (Nat.le_of_ble_eq_true rfl) fl_X0_34 dX0_become_86 ?_
  refine zE.putI (fd_5_7 o i b) (ok_5 hi hb hn) kiX0 (Nat.le_of_ble_eq_true rfl) fl_X0_34 rfl rfl dX0_become_89 ?_
  refine zJ.aload_n 0 dX0_become_92 rfl rfl ?_
  refine zJ.aload_n 1 dX0_become_93 rfl rfl ?_
  refine zE.getI (fd_5_8 o i2 b2) (ok_5 hi2 hb2 hn2) kiX0 (Nat.le_of_ble_eq_true rfl) fl_X0_37 dX0_become_94 ?_
  refine zE.putI (fd_5_8 o i b) (ok_5 hi hb hn) kiX0 (Nat.le_of_ble_eq_true rfl) fl_X0_37 rfl rfl dX0_become_97 ?_
  refine zJ.nameS (fun S9 hyS9 => ?_)
  replace h := h S9 hyS9
  refine zJ.aload_n 0 dX0_become_100 rfl rfl ?_
  refine zJ.aload_n 1 dX0_become_101 rfl rfl ?_
  refine zE.getI (fd_5_9 o i2 b2) (ok_5 hi2 hb2 hn2) kiX0 (Nat.le_of_ble_eq_true rfl) fl_X0_40 dX0_become_102 ?_
  refine zE.putI (fd_5_9 o i b) (ok_5 hi hb hn) kiX0 (Nat.le_of_ble_eq_true rfl) fl_X0_40 rfl rfl dX0_become_105 ?_
  refine zJ.aload_n 0 dX0_become_108 rfl rfl ?_
  refine zJ.aload_n 1 dX0_become_109 rfl rfl ?_
  refine zE.getI (fd_5_10 o i2 b2) (ok_5 hi2 hb2 hn2) kiX0 (Nat.le_of_ble_eq_true rfl) fl_X0_44 dX0_become_110 ?_
  refine zE.putI (fd_5_10 o i b) (ok_5 hi hb hn) kiX0 (Nat.le_of_ble_eq_true rfl) fl_X0_44 rfl rfl dX0_become_113 ?_
  refine zJ.nameS (fun S10 hyS10 => ?_)
  replace h := h S10 hyS10
  refine zJ.aload_n 0 dX0_become_116 rfl rfl ?_
  refine zJ.aload_n 1 dX0_become_117 rfl rfl ?_
  refine zE.getI (fd_5_11 o i2 b2) (ok_5 hi2 hb2 hn2) kiX0 (Nat.le_of_ble_eq_true rfl) fl_X0_47 dX0_become_118 ?_
  refine zE.putI (fd_5_11 o i b) (ok_5 hi hb hn) kiX0 (Nat.le_of_ble_eq_true rfl) fl_X0_47 rfl rfl dX0_become_121 ?_
  exact zG.ret (r := none) ⟨dX0_become_124, rfl⟩ h
set_option maxRecDepth 100000 in
set_option maxHeartbeats 4000000 in
theorem w_X0_changedBit_0 (o : zW) (n : Nat) (i : Nat) (hi : i < 8) (hn : z_sb i + 120 ≤ n) (b : Nat) (hb : b < 16) (x1 : Int32) (S : zS) (Q : Option Value → zS → Prop) (h : Q (some (.int (((S.1 (5, i, b) 9) >>> (x1 &&& 31)) &&& 1))) S) : zG o n mdX0_changedBit 0 [(0, .ref (z_adr o (5, i, b))), (1, .int x1)] [] S Q := by
  show zJ o mdX0_changedBit 0 _ [] (n, z_enc o S) 0 0 _
  refine zJ.aload_n 0 dX0_changedBit_0 rfl rfl ?_
  refine zE.getI (fd_5_9 o i b) (ok_5 hi hb hn) kiX0 (Nat.le_of_ble_eq_true rfl) fl_X0_40 dX0_changedBit_1 ?_
  refine zJ.iload_n 1 dX0_changedBit_4 rfl rfl ?_
  refine zJ.ishr dX0_changedBit_5 ?_
  refine zJ.iconst (v := 1) dX0_changedBit_6 (by decide) ?_
  refine zJ.iand dX0_changedBit_7 ?_
  exact zG.ret (r := some (.int (((S.1 (5, i, b) 9) >>> (x1 &&& 31)) &&& 1))) ⟨dX0_changedBit_8, _, rfl, rfl⟩ h
set_option maxRecDepth 100000 in
set_option maxHeartbeats 4000000 in
theorem w_X0_valueAtLast_0 (o : zW) (n : Nat) (i : Nat) (hi : i < 8) (hn : z_sb i + 120 ≤ n) (b : Nat) (hb : b < 16) (x1 : Int32) (S : zS) (Q : Option Value → zS → Prop) (h : (x1 < 0 → (Q (some (.int 0)) S)) ∧ (¬ x1 < 0 → ((x1 < 4 → (((S.1 (5, i, b) 8) = 1 → (vp_in x1 4 ∧ (Q (some (.int (S.1 (7, i, b) x1.toNatClampNeg))) S))) ∧ (¬ (S.1 (5, i, b) 8) = 1 → ((¬ (S.1 (5, i, b) 8) = 2 → (vp_in x1 4 ∧ (zG o n mdX0_valueAtLast 43 [(0, .ref (z_adr o (5, i, b))), (1, .int x1), (2, .int (S.1 (6, i, b) x1.toNatClampNeg)), (3, .int 0)] [] S Q))) ∧ ((S.1 (5, i, b) 8) = 2 → (vp_in x1 4 ∧ (Q (some (.int (S.1 (7, i, b) x1.toNatClampNeg))) S))))))) ∧ (¬ x1 < 4 → (Q (some (.int 0)) S))))) : zG o n mdX0_valueAtLast 0 [(0, .ref (z_adr o (5, i, b))), (1, .int x1)] [] S Q := by
  show zJ o mdX0_valueAtLast 0 _ [] (n, z_enc o S) 0 0 _
  refine zJ.iload_n 1 dX0_valueAtLast_0 rfl rfl ?_
  refine zJ.if_lt (tgt := 9) dX0_valueAtLast_1 (by decide) (fun c1 => ?_) (fun c1 => ?_)
  · replace h := h.1 c1
    refine zJ.iconst (v := 0) dX0_valueAtLast_9 (by decide) ?_
    exact zG.ret (r := some (.int 0)) ⟨dX0_valueAtLast_10, _, rfl, rfl⟩ h
  · replace h := h.2 c1
    refine zJ.iload_n 1 dX0_valueAtLast_4 rfl rfl ?_
    refine zJ.iconst (v := 4) dX0_valueAtLast_5 (by decide) ?_
    refine zJ.icmp_lt (tgt := 11) dX0_valueAtLast_6 (by decide) (fun c2 => ?_) (fun c2 => ?_)
    · replace h := h.1 c2
      refine zJ.aload_n 0 dX0_valueAtLast_11 rfl rfl ?_
      refine zE.getI (fd_5_8 o i b) (ok_5 hi hb hn) kiX0 (Nat.le_of_ble_eq_true rfl) fl_X0_37 dX0_valueAtLast_12 ?_
      refine zJ.iconst (v := 1) dX0_valueAtLast_15 (by decide) ?_
      refine zJ.icmp_eq (tgt := 27) dX0_valueAtLast_16 (by decide) (fun c3 => ?_) (fun c3 => ?_)
      · replace h := h.1 c3
        refine zJ.aload_n 0 dX0_valueAtLast_27 rfl rfl ?_
        refine zE.getV (fd_5_2 o i b) (ok_5 hi hb hn) kiX0 (Nat.le_of_ble_eq_true rfl) fl_X0_19 dX0_valueAtLast_28 ?_
        refine zJ.iload_n 1 dX0_valueAtLast_31 rfl rfl ?_
        obtain ⟨hq, h⟩ := h
        refine zE.aldI (ia_7 o i b) (ok_7 hi hb hn) hq dX0_valueAtLast_32 ?_
        exact zG.ret (r := some (.int (S.1 (7, i, b) x1.toNatClampNeg))) ⟨dX0_valueAtLast_33, _, rfl, rfl⟩ h
      · replace h := h.2 c3
        refine zJ.aload_n 0 dX0_valueAtLast_19 rfl rfl ?_
        refine zE.getI (fd_5_8 o i b) (ok_5 hi hb hn) kiX0 (Nat.le_of_ble_eq_true rfl) fl_X0_37 dX0_valueAtLast_20 ?_
        refine zJ.iconst (v := 2) dX0_valueAtLast_23 (by decide) ?_
        refine zJ.icmp_ne (tgt := 34) dX0_valueAtLast_24 (by decide) (fun c4 => ?_) (fun c4 => ?_)
        · replace h := h.1 c4
          refine zJ.aload_n 0 dX0_valueAtLast_34 rfl rfl ?_
          refine zE.getV (fd_5_1 o i b) (ok_5 hi hb hn) kiX0 (Nat.le_of_ble_eq_true rfl) fl_X0_15 dX0_valueAtLast_35 ?_
          refine zJ.iload_n 1 dX0_valueAtLast_38 rfl rfl ?_
          obtain ⟨hq, h⟩ := h
          refine zE.aldI (ia_6 o i b) (ok_6 hi hb hn) hq dX0_valueAtLast_39 ?_
          refine zJ.istore_n (lv' := [(2, .int (S.1 (6, i, b) x1.toNatClampNeg)), (0, .ref (z_adr o (5, i, b))), (1, .int x1)]) dX0_valueAtLast_40 rfl (Nat.le_of_ble_eq_true rfl) rfl ?_
          refine zJ.iconst (v := 0) dX0_valueAtLast_41 (by decide) ?_
          refine zJ.istore_n (lv' := [(3, .int 0), (2, .int (S.1 (6, i, b) x1.toNatClampNeg)), (0, .ref (z_adr o (5, i, b))), (1, .int x1)]) dX0_valueAtLast_42 rfl (Nat.le_of_ble_eq_true rfl) rfl ?_
          exact zJ.sub [2, 3, 1, 0] rfl h
        · replace h := h.2 c4
          refine zJ.aload_n 0 dX0_valueAtLast_27 rfl rfl ?_
          refine zE.getV (fd_5_2 o i b) (ok_5 hi hb hn) kiX0 (Nat.le_of_ble_eq_true rfl) fl_X0_19 dX0_valueAtLast_28 ?_
          refine zJ.iload_n 1 dX0_valueAtLast_31 rfl rfl ?_
          obtain ⟨hq, h⟩ := h
          refine zE.aldI (ia_7 o i b) (ok_7 hi hb hn) hq dX0_valueAtLast_32 ?_
          exact zG.ret (r := some (.int (S.1 (7, i, b) x1.toNatClampNeg))) ⟨dX0_valueAtLast_33, _, rfl, rfl⟩ h
    · replace h := h.2 c2
      refine zJ.iconst (v := 0) dX0_valueAtLast_9 (by decide) ?_
      exact zG.ret (r := some (.int 0)) ⟨dX0_valueAtLast_10, _, rfl, rfl⟩ h
set_option maxRecDepth 100000 in
set_option maxHeartbeats 4000000 in
theorem w_X0_valueAtLast_43 (o : zW) (n : Nat) (i : Nat) (hi : i < 8) (hn : z_sb i + 120 ≤ n) (b : Nat) (hb : b < 16) (x1 : Int32) (x2 : Int32) (x3 : Int32) (S : zS) (Q : Option Value → zS → Prop) (h : ((S.1 (5, i, b) 7) ≤ x3 → (Q (some (.int x2)) S)) ∧ (¬ (S.1 (5, i, b) 7) ≤ x3 → ((4 ≤ x3 → (Q (some (.int x2)) S)) ∧ (¬ 4 ≤ x3 → (vp_in x3 4 ∧ ((¬ (S.1 (8, i, b) x3.toNatClampNeg) = x1 → (zG o n mdX0_valueAtLast 43 [(0, .ref (z_adr o (5, i, b))), (1, .int x1), (2, .int x2), (3, .int (x3 + 1))] [] S Q)) ∧ ((S.1 (8, i, b) x3.toNatClampNeg) = x1 → (vp_in x3 4 ∧ (((S.1 (9, i, b) x3.toNatClampNeg) = (-1) → (zG o n mdX0_valueAtLast 43 [(0, .ref (z_adr o (5, i, b))), (1, .int x1), (2, .int x2), (3, .int (x3 + 1))] [] S Q)) ∧ (¬ (S.1 (9, i, b) x3.toNatClampNeg) = (-1) → (vp_in x3 4 ∧ (zG o n mdX0_valueAtLast 43 [(0, .ref (z_adr o (5, i, b))), (1, .int x1), (2, .int (S.1 (9, i, b) x3.toNatClampNeg)), (3, .int (x3 + 1))] [] S Q)))))))))))) : zG o n mdX0_valueAtLast 43 [(0, .ref (z_adr o (5, i, b))), (1, .int x1), (2, .int x2), (3, .int x3)] [] S Q := by
  show zJ o mdX0_valueAtLast 43 _ [] (n, z_enc o S) 0 0 _
  refine zJ.iload_n 3 dX0_valueAtLast_43 rfl rfl ?_
  refine zJ.aload_n 0 dX0_valueAtLast_44 rfl rfl ?_
  refine zE.getI (fd_5_7 o i b) (ok_5 hi hb hn) kiX0 (Nat.le_of_ble_eq_true rfl) fl_X0_34 dX0_valueAtLast_45 ?_
  refine zJ.icmp_ge (tgt := 89) dX0_valueAtLast_48 (by decide) (fun c1 => ?_) (fun c1 => ?_)
  · replace h := h.1 c1
    refine zJ.iload_n 2 dX0_valueAtLast_89 rfl rfl ?_
    exact zG.ret (r := some (.int x2)) ⟨dX0_valueAtLast_90, _, rfl, rfl⟩ h
  · replace h := h.2 c1
    refine zJ.iload_n 3 dX0_valueAtLast_51 rfl rfl ?_
    refine zJ.iconst (v := 4) dX0_valueAtLast_52 (by decide) ?_
    refine zJ.icmp_ge (tgt := 89) dX0_valueAtLast_53 (by decide) (fun c2 => ?_) (fun c2 => ?_)
    · replace h := h.1 c2
      refine zJ.iload_n 2 dX0_valueAtLast_89 rfl rfl ?_
      exact zG.ret (r := some (.int x2)) ⟨dX0_valueAtLast_90, _, rfl, rfl⟩ h
    · replace h := h.2 c2
      refine zJ.aload_n 0 dX0_valueAtLast_56 rfl rfl ?_
      refine zE.getV (fd_5_3 o i b) (ok_5 hi hb hn) kiX0 (Nat.le_of_ble_eq_true rfl) fl_X0_22 dX0_valueAtLast_57 ?_
      refine zJ.iload_n 3 dX0_valueAtLast_60 rfl rfl ?_
      obtain ⟨hq, h⟩ := h
      refine zE.aldI (ia_8 o i b) (ok_8 hi hb hn) hq dX0_valueAtLast_61 ?_
      refine zJ.iload_n 1 dX0_valueAtLast_62 rfl rfl ?_
      refine zJ.icmp_ne (tgt := 83) dX0_valueAtLast_63 (by decide) (fun c3 => ?_) (fun c3 => ?_)
      · replace h := h.1 c3
        refine zJ.iinc (k := 3) (lv' := [(3, .int (x3 + 1)), (0, .ref (z_adr o (5, i, b))), (1, .int x1), (2, .int x2)]) dX0_valueAtLast_83 rfl rfl (Nat.le_of_ble_eq_true rfl) rfl ?_
        refine zJ.goto (tgt := 43) dX0_valueAtLast_86 (by decide) ?_
        exact zJ.sub [1, 2, 3, 0] rfl h
      · replace h := h.2 c3
        refine zJ.aload_n 0 dX0_valueAtLast_66 rfl rfl ?_
        refine zE.getV (fd_5_4 o i b) (ok_5 hi hb hn) kiX0 (Nat.le_of_ble_eq_true rfl) fl_X0_25 dX0_valueAtLast_67 ?_
        refine zJ.iload_n 3 dX0_valueAtLast_70 rfl rfl ?_
        obtain ⟨hq, h⟩ := h
        refine zE.aldI (ia_9 o i b) (ok_9 hi hb hn) hq dX0_valueAtLast_71 ?_
        refine zJ.iconst (v := (-1)) dX0_valueAtLast_72 (by decide) ?_
        refine zJ.icmp_eq (tgt := 83) dX0_valueAtLast_73 (by decide) (fun c4 => ?_) (fun c4 => ?_)
        · replace h := h.1 c4
          refine zJ.iinc (k := 3) (lv' := [(3, .int (x3 + 1)), (0, .ref (z_adr o (5, i, b))), (1, .int x1), (2, .int x2)]) dX0_valueAtLast_83 rfl rfl (Nat.le_of_ble_eq_true rfl) rfl ?_
          refine zJ.goto (tgt := 43) dX0_valueAtLast_86 (by decide) ?_
          exact zJ.sub [1, 2, 3, 0] rfl h
        · replace h := h.2 c4
          refine zJ.aload_n 0 dX0_valueAtLast_76 rfl rfl ?_
          refine zE.getV (fd_5_4 o i b) (ok_5 hi hb hn) kiX0 (Nat.le_of_ble_eq_true rfl) fl_X0_25 dX0_valueAtLast_77 ?_
          refine zJ.iload_n 3 dX0_valueAtLast_80 rfl rfl ?_
          obtain ⟨hq, h⟩ := h
          refine zE.aldI (ia_9 o i b) (ok_9 hi hb hn) hq dX0_valueAtLast_81 ?_
          refine zJ.istore_n (lv' := [(2, .int (S.1 (9, i, b) x3.toNatClampNeg)), (0, .ref (z_adr o (5, i, b))), (1, .int x1), (3, .int x3)]) dX0_valueAtLast_82 rfl (Nat.le_of_ble_eq_true rfl) rfl ?_
          refine zJ.iinc (k := 3) (lv' := [(3, .int (x3 + 1)), (2, .int (S.1 (9, i, b) x3.toNatClampNeg)), (0, .ref (z_adr o (5, i, b))), (1, .int x1)]) dX0_valueAtLast_83 rfl rfl (Nat.le_of_ble_eq_true rfl) rfl ?_
          refine zJ.goto (tgt := 43) dX0_valueAtLast_86 (by decide) ?_
          exact zJ.sub [2, 3, 1, 0] rfl h
set_option maxRecDepth 100000 in
set_option maxHeartbeats 4000000 in
theorem w_X0_addAsker_0 (o : zW) (n : Nat) (i : Nat) (hi : i < 8) (hn : z_sb i + 120 ≤ n) (b : Nat) (hb : b < 16) (x1 : Int32) (x2 : Int32) (x3 : Int32) (x4 : Int32) (S : zS) (Q : Option Value → zS → Prop) (h : ((S.1 (5, i, b) 7) < 0 → (Q none S)) ∧ (¬ (S.1 (5, i, b) 7) < 0 → (((S.1 (5, i, b) 7) < 4 → (vp_in (S.1 (5, i, b) 7) 4 ∧ (∀ y3, y3 = (sI S (8, i, b) ((S.1 (5, i, b) 7).toNatClampNeg) x1).1 (5, i, b) 7 → (vp_in y3 4 ∧ (∀ S4, S4 = sI (sI S (8, i, b) ((S.1 (5, i, b) 7).toNatClampNeg) x1) (9, i, b) (y3.toNatClampNeg) x2 → (vp_in (S4.1 (5, i, b) 7) 4 ∧ (∀ y5, y5 = (sI S4 (10, i, b) ((S4.1 (5, i, b) 7).toNatClampNeg) x3).1 (5, i, b) 7 → (vp_in y5 4 ∧ (∀ S6, S6 = sI (sI S4 (10, i, b) ((S4.1 (5, i, b) 7).toNatClampNeg) x3) (11, i, b) (y5.toNatClampNeg) x4 → (Q none (sI S6 (5, i, b) 7 ((S6.1 (5, i, b) 7) + 1)))))))))))) ∧ (¬ (S.1 (5, i, b) 7) < 4 → (Q none S))))) : zG o n mdX0_addAsker 0 [(0, .ref (z_adr o (5, i, b))), (1, .int x1), (2, .int x2), (3, .int x3), (4, .int x4)] [] S Q := by
  show zJ o mdX0_addAsker 0 _ [] (n, z_enc o S) 0 0 _
  refine zJ.aload_n 0 dX0_addAsker_0 rfl rfl ?_
  refine zE.getI (fd_5_7 o i b) (ok_5 hi hb hn) kiX0 (Nat.le_of_ble_eq_true rfl) fl_X0_34 dX0_addAsker_1 ?_
  refine zJ.if_lt (tgt := 15) dX0_addAsker_4 (by decide) (fun c1 => ?_) (fun c1 => ?_)
  · replace h := h.1 c1
    exact zG.ret (r := none) ⟨dX0_addAsker_15, rfl⟩ h
  · replace h := h.2 c1
    refine zJ.aload_n 0 dX0_addAsker_7 rfl rfl ?_
    refine zE.getI (fd_5_7 o i b) (ok_5 hi hb hn) kiX0 (Nat.le_of_ble_eq_true rfl) fl_X0_34 dX0_addAsker_8 ?_
    refine zJ.iconst (v := 4) dX0_addAsker_11 (by decide) ?_
    refine zJ.icmp_lt (tgt := 16) dX0_addAsker_12 (by decide) (fun c2 => ?_) (fun c2 => ?_)
    · replace h := h.1 c2
      refine zJ.aload_n 0 dX0_addAsker_16 rfl rfl ?_
      refine zE.getV (fd_5_3 o i b) (ok_5 hi hb hn) kiX0 (Nat.le_of_ble_eq_true rfl) fl_X0_22 dX0_addAsker_17 ?_
      refine zJ.aload_n 0 dX0_addAsker_20 rfl rfl ?_
      refine zE.getI (fd_5_7 o i b) (ok_5 hi hb hn) kiX0 (Nat.le_of_ble_eq_true rfl) fl_X0_34 dX0_addAsker_21 ?_
      refine zJ.iload_n 1 dX0_addAsker_24 rfl rfl ?_
      obtain ⟨hq, h⟩ := h
      refine zE.astI (ia_8 o i b) (ok_8 hi hb hn) hq dX0_addAsker_25 ?_
      refine zJ.aload_n 0 dX0_addAsker_26 rfl rfl ?_
      refine zE.getV (fd_5_4 o i b) (ok_5 hi hb hn) kiX0 (Nat.le_of_ble_eq_true rfl) fl_X0_25 dX0_addAsker_27 ?_
      refine zJ.aload_n 0 dX0_addAsker_30 rfl rfl ?_
      refine zE.getI (fd_5_7 o i b) (ok_5 hi hb hn) kiX0 (Nat.le_of_ble_eq_true rfl) fl_X0_34 dX0_addAsker_31 ?_
      refine zJ.topi (fun y3 hyy3 => ?_)
      replace h := h y3 hyy3
      refine zJ.iload_n 2 dX0_addAsker_34 rfl rfl ?_
      obtain ⟨hq, h⟩ := h
      refine zE.astI (ia_9 o i b) (ok_9 hi hb hn) hq dX0_addAsker_35 ?_
      refine zJ.nameS (fun S4 hyS4 => ?_)
      replace h := h S4 hyS4
      refine zJ.aload_n 0 dX0_addAsker_36 rfl rfl ?_
      refine zE.getV (fd_5_5 o i b) (ok_5 hi hb hn) kiX0 (Nat.le_of_ble_eq_true rfl) fl_X0_28 dX0_addAsker_37 ?_
      refine zJ.aload_n 0 dX0_addAsker_40 rfl rfl ?_
      refine zE.getI (fd_5_7 o i b) (ok_5 hi hb hn) kiX0 (Nat.le_of_ble_eq_true rfl) fl_X0_34 dX0_addAsker_41 ?_
      refine zJ.iload_n 3 dX0_addAsker_44 rfl rfl ?_
      obtain ⟨hq, h⟩ := h
      refine zE.astI (ia_10 o i b) (ok_10 hi hb hn) hq dX0_addAsker_45 ?_
      refine zJ.aload_n 0 dX0_addAsker_46 rfl rfl ?_
      refine zE.getV (fd_5_6 o i b) (ok_5 hi hb hn) kiX0 (Nat.le_of_ble_eq_true rfl) fl_X0_31 dX0_addAsker_47 ?_
      refine zJ.aload_n 0 dX0_addAsker_50 rfl rfl ?_
      refine zE.getI (fd_5_7 o i b) (ok_5 hi hb hn) kiX0 (Nat.le_of_ble_eq_true rfl) fl_X0_34 dX0_addAsker_51 ?_
      refine zJ.topi (fun y5 hyy5 => ?_)
      replace h := h y5 hyy5
      refine zJ.iload 4 dX0_addAsker_54 rfl ?_
      obtain ⟨hq, h⟩ := h
      refine zE.astI (ia_11 o i b) (ok_11 hi hb hn) hq dX0_addAsker_56 ?_
      refine zJ.nameS (fun S6 hyS6 => ?_)
      replace h := h S6 hyS6
      refine zJ.aload_n 0 dX0_addAsker_57 rfl rfl ?_
      refine zJ.dup dX0_addAsker_58 rfl ?_
      refine zE.getI (fd_5_7 o i b) (ok_5 hi hb hn) kiX0 (Nat.le_of_ble_eq_true rfl) fl_X0_34 dX0_addAsker_59 ?_
      refine zJ.iconst (v := 1) dX0_addAsker_62 (by decide) ?_
      refine zJ.iadd dX0_addAsker_63 ?_
      refine zE.putI (fd_5_7 o i b) (ok_5 hi hb hn) kiX0 (Nat.le_of_ble_eq_true rfl) fl_X0_34 rfl rfl dX0_addAsker_64 ?_
      exact zG.ret (r := none) ⟨dX0_addAsker_67, rfl⟩ h
    · replace h := h.2 c2
      exact zG.ret (r := none) ⟨dX0_addAsker_15, rfl⟩ h
set_option maxRecDepth 100000 in
set_option maxHeartbeats 4000000 in
theorem w_X0_takeFromFar_0 (o : zW) (n : Nat) (i : Nat) (hi : i < 8) (hn : z_sb i + 120 ≤ n) (b : Nat) (hb : b < 16) (S : zS) (Q : Option Value → zS → Prop) (h : Q none (sI (sC S (6, i, b) (7, i, b) 0 0 4) (5, i, b) 9 0)) : zG o n mdX0_takeFromFar 0 [(0, .ref (z_adr o (5, i, b)))] [] S Q := by
  show zJ o mdX0_takeFromFar 0 _ [] (n, z_enc o S) 0 0 _
  refine zJ.aload_n 0 dX0_takeFromFar_0 rfl rfl ?_
  refine zE.getV (fd_5_1 o i b) (ok_5 hi hb hn) kiX0 (Nat.le_of_ble_eq_true rfl) fl_X0_15 dX0_takeFromFar_1 ?_
  refine zJ.iconst (v := 0) dX0_takeFromFar_4 (by decide) ?_
  refine zJ.aload_n 0 dX0_takeFromFar_5 rfl rfl ?_
  refine zE.getV (fd_5_2 o i b) (ok_5 hi hb hn) kiX0 (Nat.le_of_ble_eq_true rfl) fl_X0_19 dX0_takeFromFar_6 ?_
  refine zJ.iconst (v := 0) dX0_takeFromFar_9 (by decide) ?_
  refine zJ.iconst (v := 4) dX0_takeFromFar_10 (by decide) ?_
  refine zE.copy ⟨ml_X0_50, ac_n, ac_s, ac_i⟩ (ia_6 o i b) (ia_7 o i b) (ok_6 hi hb hn) (ok_7 hi hb hn) (by decide) (by decide) (by decide) (by decide) (by decide) (Nat.le_of_ble_eq_true rfl) (by decide) dX0_takeFromFar_11 ?_
  refine zJ.aload_n 0 dX0_takeFromFar_14 rfl rfl ?_
  refine zJ.iconst (v := 0) dX0_takeFromFar_15 (by decide) ?_
  refine zE.putI (fd_5_9 o i b) (ok_5 hi hb hn) kiX0 (Nat.le_of_ble_eq_true rfl) fl_X0_40 rfl rfl dX0_takeFromFar_16 ?_
  exact zG.ret (r := none) ⟨dX0_takeFromFar_19, rfl⟩ h
set_option maxRecDepth 100000 in
set_option maxHeartbeats 4000000 in
theorem w_X0_goFar_0 (o : zW) (n : Nat) (i : Nat) (hi : i < 8) (hn : z_sb i + 120 ≤ n) (b : Nat) (hb : b < 16) (S : zS) (Q : Option Value → zS → Prop) (h : zG o n mdX0_goFar 2 [(0, .ref (z_adr o (5, i, b))), (1, .int 0)] [] S Q) : zG o n mdX0_goFar 0 [(0, .ref (z_adr o (5, i, b)))] [] S Q := by
  show zJ o mdX0_goFar 0 _ [] (n, z_enc o S) 0 0 _
  refine zJ.iconst (v := 0) dX0_goFar_0 (by decide) ?_
  refine zJ.istore_n (lv' := [(1, .int 0), (0, .ref (z_adr o (5, i, b)))]) dX0_goFar_1 rfl (Nat.le_of_ble_eq_true rfl) rfl ?_
  exact zJ.sub [1, 0] rfl h
set_option maxRecDepth 100000 in
set_option maxHeartbeats 4000000 in
theorem w_X0_goFar_2 (o : zW) (n : Nat) (i : Nat) (hi : i < 8) (hn : z_sb i + 120 ≤ n) (b : Nat) (hb : b < 16) (x1 : Int32) (S : zS) (Q : Option Value → zS → Prop) (h : (4 ≤ x1 → (∀ S2, S2 = sI (sI (sI S (5, i, b) 8 0) (5, i, b) 9 0) (5, i, b) 10 (2000000000 : Int32) → (Q none S2))) ∧ (¬ 4 ≤ x1 → ((¬ (((S.1 (5, i, b) 9) >>> (x1 &&& 31)) &&& 1) = 1 → (zG o n mdX0_goFar 2 [(0, .ref (z_adr o (5, i, b))), (1, .int (x1 + 1))] [] S Q)) ∧ ((((S.1 (5, i, b) 9) >>> (x1 &&& 31)) &&& 1) = 1 → (vp_in x1 4 ∧ (vp_in x1 4 ∧ (zG o n mdX0_goFar 2 [(0, .ref (z_adr o (5, i, b))), (1, .int (x1 + 1))] [] (sI S (6, i, b) (x1.toNatClampNeg) (S.1 (7, i, b) x1.toNatClampNeg)) Q))))))) : zG o n mdX0_goFar 2 [(0, .ref (z_adr o (5, i, b))), (1, .int x1)] [] S Q := by
  show zJ o mdX0_goFar 2 _ [] (n, z_enc o S) 0 0 _
  refine zJ.iload_n 1 dX0_goFar_2 rfl rfl ?_
  refine zJ.iconst (v := 4) dX0_goFar_3 (by decide) ?_
  refine zJ.icmp_ge (tgt := 37) dX0_goFar_4 (by decide) (fun c1 => ?_) (fun c1 => ?_)
  · replace h := h.1 c1
    refine zJ.aload_n 0 dX0_goFar_37 rfl rfl ?_
    refine zJ.iconst (v := 0) dX0_goFar_38 (by decide) ?_
    refine zE.putI (fd_5_8 o i b) (ok_5 hi hb hn) kiX0 (Nat.le_of_ble_eq_true rfl) fl_X0_37 rfl rfl dX0_goFar_39 ?_
    refine zJ.aload_n 0 dX0_goFar_42 rfl rfl ?_
    refine zJ.iconst (v := 0) dX0_goFar_43 (by decide) ?_
    refine zE.putI (fd_5_9 o i b) (ok_5 hi hb hn) kiX0 (Nat.le_of_ble_eq_true rfl) fl_X0_40 rfl rfl dX0_goFar_44 ?_
    refine zJ.aload_n 0 dX0_goFar_47 rfl rfl ?_
    refine zJ.ldc lc_X0_43 dX0_goFar_48 ?_
    refine zE.putI (fd_5_10 o i b) (ok_5 hi hb hn) kiX0 (Nat.le_of_ble_eq_true rfl) fl_X0_44 rfl rfl dX0_goFar_50 ?_
    refine zJ.nameS (fun S2 hyS2 => ?_)
    replace h := h S2 hyS2
    exact zG.ret (r := none) ⟨dX0_goFar_53, rfl⟩ h
  · replace h := h.2 c1
    refine zJ.aload_n 0 dX0_goFar_7 rfl rfl ?_
    refine zE.getI (fd_5_9 o i b) (ok_5 hi hb hn) kiX0 (Nat.le_of_ble_eq_true rfl) fl_X0_40 dX0_goFar_8 ?_
    refine zJ.iload_n 1 dX0_goFar_11 rfl rfl ?_
    refine zJ.ishr dX0_goFar_12 ?_
    refine zJ.iconst (v := 1) dX0_goFar_13 (by decide) ?_
    refine zJ.iand dX0_goFar_14 ?_
    refine zJ.iconst (v := 1) dX0_goFar_15 (by decide) ?_
    refine zJ.icmp_ne (tgt := 31) dX0_goFar_16 (by decide) (fun c3 => ?_) (fun c3 => ?_)
    · replace h := h.1 c3
      refine zJ.iinc (k := 1) (lv' := [(1, .int (x1 + 1)), (0, .ref (z_adr o (5, i, b)))]) dX0_goFar_31 rfl rfl (Nat.le_of_ble_eq_true rfl) rfl ?_
      refine zJ.goto (tgt := 2) dX0_goFar_34 (by decide) ?_
      exact zJ.sub [1, 0] rfl h
    · replace h := h.2 c3
      refine zJ.aload_n 0 dX0_goFar_19 rfl rfl ?_
      refine zE.getV (fd_5_1 o i b) (ok_5 hi hb hn) kiX0 (Nat.le_of_ble_eq_true rfl) fl_X0_15 dX0_goFar_20 ?_
      refine zJ.iload_n 1 dX0_goFar_23 rfl rfl ?_
      refine zJ.aload_n 0 dX0_goFar_24 rfl rfl ?_
      refine zE.getV (fd_5_2 o i b) (ok_5 hi hb hn) kiX0 (Nat.le_of_ble_eq_true rfl) fl_X0_19 dX0_goFar_25 ?_
      refine zJ.iload_n 1 dX0_goFar_28 rfl rfl ?_
      obtain ⟨hq, h⟩ := h
      refine zE.aldI (ia_7 o i b) (ok_7 hi hb hn) hq dX0_goFar_29 ?_
      obtain ⟨hq, h⟩ := h
      refine zE.astI (ia_6 o i b) (ok_6 hi hb hn) hq dX0_goFar_30 ?_
      refine zJ.iinc (k := 1) (lv' := [(1, .int (x1 + 1)), (0, .ref (z_adr o (5, i, b)))]) dX0_goFar_31 rfl rfl (Nat.le_of_ble_eq_true rfl) rfl ?_
      refine zJ.goto (tgt := 2) dX0_goFar_34 (by decide) ?_
      exact zJ.sub [1, 0] rfl h
set_option maxRecDepth 100000 in
set_option maxHeartbeats 4000000 in
theorem w_X0_layIn_0 (o : zW) (n : Nat) (i : Nat) (hi : i < 8) (hn : z_sb i + 120 ≤ n) (b : Nat) (hb : b < 16) (x1 : Int32) (x2 : Int32) (S : zS) (Q : Option Value → zS → Prop) (h : (x1 < 0 → (Q none S)) ∧ (¬ x1 < 0 → ((4 ≤ x1 → (Q none S)) ∧ (¬ 4 ≤ x1 → (vp_in x1 4 ∧ (∀ y3, y3 = ((sI S (7, i, b) (x1.toNatClampNeg) x2).1 (5, i, b) 9) ||| (1 <<< (x1 &&& 31)) → (Q none (sI (sI S (7, i, b) (x1.toNatClampNeg) x2) (5, i, b) 9 y3)))))))) : zG o n mdX0_layIn 0 [(0, .ref (z_adr o (5, i, b))), (1, .int x1), (2, .int x2)] [] S Q := by
  show zJ o mdX0_layIn 0 _ [] (n, z_enc o S) 0 0 _
  refine zJ.iload_n 1 dX0_layIn_0 rfl rfl ?_
  refine zJ.if_lt (tgt := 28) dX0_layIn_1 (by decide) (fun c1 => ?_) (fun c1 => ?_)
  · replace h := h.1 c1
    exact zG.ret (r := none) ⟨dX0_layIn_28, rfl⟩ h
  · replace h := h.2 c1
    refine zJ.iload_n 1 dX0_layIn_4 rfl rfl ?_
    refine zJ.iconst (v := 4) dX0_layIn_5 (by decide) ?_
    refine zJ.icmp_ge (tgt := 28) dX0_layIn_6 (by decide) (fun c2 => ?_) (fun c2 => ?_)
    · replace h := h.1 c2
      exact zG.ret (r := none) ⟨dX0_layIn_28, rfl⟩ h
    · replace h := h.2 c2
      refine zJ.aload_n 0 dX0_layIn_9 rfl rfl ?_
      refine zE.getV (fd_5_2 o i b) (ok_5 hi hb hn) kiX0 (Nat.le_of_ble_eq_true rfl) fl_X0_19 dX0_layIn_10 ?_
      refine zJ.iload_n 1 dX0_layIn_13 rfl rfl ?_
      refine zJ.iload_n 2 dX0_layIn_14 rfl rfl ?_
      obtain ⟨hq, h⟩ := h
      refine zE.astI (ia_7 o i b) (ok_7 hi hb hn) hq dX0_layIn_15 ?_
      refine zJ.aload_n 0 dX0_layIn_16 rfl rfl ?_
      refine zJ.dup dX0_layIn_17 rfl ?_
      refine zE.getI (fd_5_9 o i b) (ok_5 hi hb hn) kiX0 (Nat.le_of_ble_eq_true rfl) fl_X0_40 dX0_layIn_18 ?_
      refine zJ.iconst (v := 1) dX0_layIn_21 (by decide) ?_
      refine zJ.iload_n 1 dX0_layIn_22 rfl rfl ?_
      refine zJ.ishl dX0_layIn_23 ?_
      refine zJ.ior dX0_layIn_24 ?_
      refine zJ.topi (fun y3 hyy3 => ?_)
      replace h := h y3 hyy3
      refine zE.putI (fd_5_9 o i b) (ok_5 hi hb hn) kiX0 (Nat.le_of_ble_eq_true rfl) fl_X0_40 rfl rfl dX0_layIn_25 ?_
      exact zG.ret (r := none) ⟨dX0_layIn_28, rfl⟩ h
end
