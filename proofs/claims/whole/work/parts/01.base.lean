-- ===== PART A: goes FIRST, ahead of the names: the tables' words, and 'selects' of the private methods out of them =====
/-- a private method of a class that the tables say can be made, by its rows of tables_1 -/
def lw_okq (q : MethodName × Nat) : Prop := (q.1.cls ≠ "java/lang/invoke/MethodHandle" ∧ q.1.cls ≠ "java/lang/invoke/VarHandle") ∧ Cond.instantiable q.1.cls q.2 ∈ tables_1 ∧ Cond.privateMethod q.1 ∈ tables_1 ∧ Cond.instanceMethod q.1 ∈ tables_1
theorem lw_p0 : lw_okq (⟨"GameNet$Net", "beginAnew", "(I)V"⟩, 5) := ⟨⟨by decide +kernel, by decide +kernel⟩, List.mem_of_getElem? (i := 17) (by decide +kernel), List.mem_of_getElem? (i := 124) (by decide +kernel), List.mem_of_getElem? (i := 125) (by decide +kernel)⟩
theorem lw_p1 : lw_okq (⟨"GameNet", "forgetMoves", "()V"⟩, 6) := ⟨⟨by decide +kernel, by decide +kernel⟩, List.mem_of_getElem? (i := 9) (by decide +kernel), List.mem_of_getElem? (i := 128) (by decide +kernel), List.mem_of_getElem? (i := 129) (by decide +kernel)⟩
theorem lw_p2 : lw_okq (⟨"GameNet$Moves", "forget", "()V"⟩, 4) := ⟨⟨by decide +kernel, by decide +kernel⟩, List.mem_of_getElem? (i := 45) (by decide +kernel), List.mem_of_getElem? (i := 132) (by decide +kernel), List.mem_of_getElem? (i := 133) (by decide +kernel)⟩
theorem lw_p3 : lw_okq (⟨"GameNet$Survey", "forget", "()V"⟩, 9) := ⟨⟨by decide +kernel, by decide +kernel⟩, List.mem_of_getElem? (i := 65) (by decide +kernel), List.mem_of_getElem? (i := 136) (by decide +kernel), List.mem_of_getElem? (i := 137) (by decide +kernel)⟩
theorem lw_p4 : lw_okq (⟨"GameNet$Net", "mayJoin", "(II)Z"⟩, 5) := ⟨⟨by decide +kernel, by decide +kernel⟩, List.mem_of_getElem? (i := 17) (by decide +kernel), List.mem_of_getElem? (i := 144) (by decide +kernel), List.mem_of_getElem? (i := 145) (by decide +kernel)⟩
theorem lw_p5 : lw_okq (⟨"GameNet$Net", "has", "(I)Z"⟩, 5) := ⟨⟨by decide +kernel, by decide +kernel⟩, List.mem_of_getElem? (i := 17) (by decide +kernel), List.mem_of_getElem? (i := 148) (by decide +kernel), List.mem_of_getElem? (i := 149) (by decide +kernel)⟩
theorem lw_p6 : lw_okq (⟨"GameNet$Net", "weightOf", "(II)I"⟩, 5) := ⟨⟨by decide +kernel, by decide +kernel⟩, List.mem_of_getElem? (i := 17) (by decide +kernel), List.mem_of_getElem? (i := 152) (by decide +kernel), List.mem_of_getElem? (i := 153) (by decide +kernel)⟩
theorem lw_p7 : lw_okq (⟨"GameNet$Net", "setWeight", "(III)V"⟩, 5) := ⟨⟨by decide +kernel, by decide +kernel⟩, List.mem_of_getElem? (i := 17) (by decide +kernel), List.mem_of_getElem? (i := 156) (by decide +kernel), List.mem_of_getElem? (i := 157) (by decide +kernel)⟩
theorem lw_p8 : lw_okq (⟨"GameNet$Net", "payOf", "(II)I"⟩, 5) := ⟨⟨by decide +kernel, by decide +kernel⟩, List.mem_of_getElem? (i := 17) (by decide +kernel), List.mem_of_getElem? (i := 173) (by decide +kernel), List.mem_of_getElem? (i := 174) (by decide +kernel)⟩
theorem lw_p9 : lw_okq (⟨"GameNet$Net", "setPay", "(III)V"⟩, 5) := ⟨⟨by decide +kernel, by decide +kernel⟩, List.mem_of_getElem? (i := 17) (by decide +kernel), List.mem_of_getElem? (i := 177) (by decide +kernel), List.mem_of_getElem? (i := 178) (by decide +kernel)⟩
theorem lw_p10 : lw_okq (⟨"GameNet$Net", "isState", "(I)Z"⟩, 5) := ⟨⟨by decide +kernel, by decide +kernel⟩, List.mem_of_getElem? (i := 17) (by decide +kernel), List.mem_of_getElem? (i := 197) (by decide +kernel), List.mem_of_getElem? (i := 198) (by decide +kernel)⟩
theorem lw_p11 : lw_okq (⟨"GameNet$Net", "states", "()I"⟩, 5) := ⟨⟨by decide +kernel, by decide +kernel⟩, List.mem_of_getElem? (i := 17) (by decide +kernel), List.mem_of_getElem? (i := 201) (by decide +kernel), List.mem_of_getElem? (i := 202) (by decide +kernel)⟩
theorem lw_p12 : lw_okq (⟨"GameNet$Net", "wageOf", "(III)I"⟩, 5) := ⟨⟨by decide +kernel, by decide +kernel⟩, List.mem_of_getElem? (i := 17) (by decide +kernel), List.mem_of_getElem? (i := 210) (by decide +kernel), List.mem_of_getElem? (i := 211) (by decide +kernel)⟩
theorem lw_p13 : lw_okq (⟨"GameNet$Net", "weightsInto", "(II)I"⟩, 5) := ⟨⟨by decide +kernel, by decide +kernel⟩, List.mem_of_getElem? (i := 17) (by decide +kernel), List.mem_of_getElem? (i := 214) (by decide +kernel), List.mem_of_getElem? (i := 215) (by decide +kernel)⟩
theorem lw_p14 : lw_okq (⟨"GameNet$Moves", "next", "(III)I"⟩, 4) := ⟨⟨by decide +kernel, by decide +kernel⟩, List.mem_of_getElem? (i := 45) (by decide +kernel), List.mem_of_getElem? (i := 230) (by decide +kernel), List.mem_of_getElem? (i := 231) (by decide +kernel)⟩
theorem lw_p15 : lw_okq (⟨"GameNet$Moves", "wishOf", "(II)I"⟩, 4) := ⟨⟨by decide +kernel, by decide +kernel⟩, List.mem_of_getElem? (i := 45) (by decide +kernel), List.mem_of_getElem? (i := 234) (by decide +kernel), List.mem_of_getElem? (i := 235) (by decide +kernel)⟩
def lw_privs_1 : List (MethodName × Nat) := [(⟨"GameNet$Net", "beginAnew", "(I)V"⟩, 5), (⟨"GameNet", "forgetMoves", "()V"⟩, 6), (⟨"GameNet$Moves", "forget", "()V"⟩, 4), (⟨"GameNet$Survey", "forget", "()V"⟩, 9), (⟨"GameNet$Net", "mayJoin", "(II)Z"⟩, 5), (⟨"GameNet$Net", "has", "(I)Z"⟩, 5), (⟨"GameNet$Net", "weightOf", "(II)I"⟩, 5), (⟨"GameNet$Net", "setWeight", "(III)V"⟩, 5), (⟨"GameNet$Net", "payOf", "(II)I"⟩, 5), (⟨"GameNet$Net", "setPay", "(III)V"⟩, 5), (⟨"GameNet$Net", "isState", "(I)Z"⟩, 5), (⟨"GameNet$Net", "states", "()I"⟩, 5), (⟨"GameNet$Net", "wageOf", "(III)I"⟩, 5), (⟨"GameNet$Net", "weightsInto", "(II)I"⟩, 5), (⟨"GameNet$Moves", "next", "(III)I"⟩, 4), (⟨"GameNet$Moves", "wishOf", "(II)I"⟩, 4)]
theorem lw_r1 : ∀ q ∈ lw_privs_1, lw_okq q := List.forall_mem_cons.mpr ⟨lw_p0, List.forall_mem_cons.mpr ⟨lw_p1, List.forall_mem_cons.mpr ⟨lw_p2, List.forall_mem_cons.mpr ⟨lw_p3, List.forall_mem_cons.mpr ⟨lw_p4, List.forall_mem_cons.mpr ⟨lw_p5, List.forall_mem_cons.mpr ⟨lw_p6, List.forall_mem_cons.mpr ⟨lw_p7, List.forall_mem_cons.mpr ⟨lw_p8, List.forall_mem_cons.mpr ⟨lw_p9, List.forall_mem_cons.mpr ⟨lw_p10, List.forall_mem_cons.mpr ⟨lw_p11, List.forall_mem_cons.mpr ⟨lw_p12, List.forall_mem_cons.mpr ⟨lw_p13, List.forall_mem_cons.mpr ⟨lw_p14, List.forall_mem_cons.mpr ⟨lw_p15, fun _ h => absurd h List.not_mem_nil⟩⟩⟩⟩⟩⟩⟩⟩⟩⟩⟩⟩⟩⟩⟩⟩
theorem lw_p16 : lw_okq (⟨"GameNet$Moves", "takeIntoUse", "(I)V"⟩, 4) := ⟨⟨by decide +kernel, by decide +kernel⟩, List.mem_of_getElem? (i := 45) (by decide +kernel), List.mem_of_getElem? (i := 238) (by decide +kernel), List.mem_of_getElem? (i := 239) (by decide +kernel)⟩
theorem lw_p17 : lw_okq (⟨"GameNet$Moves", "repliesTo", "(I)I"⟩, 4) := ⟨⟨by decide +kernel, by decide +kernel⟩, List.mem_of_getElem? (i := 45) (by decide +kernel), List.mem_of_getElem? (i := 243) (by decide +kernel), List.mem_of_getElem? (i := 244) (by decide +kernel)⟩
theorem lw_p18 : lw_okq (⟨"GameNet$Moves", "copiesIn", "(I)I"⟩, 4) := ⟨⟨by decide +kernel, by decide +kernel⟩, List.mem_of_getElem? (i := 45) (by decide +kernel), List.mem_of_getElem? (i := 249) (by decide +kernel), List.mem_of_getElem? (i := 250) (by decide +kernel)⟩
theorem lw_p19 : lw_okq (⟨"GameNet$Moves", "bestBeside", "(I)I"⟩, 4) := ⟨⟨by decide +kernel, by decide +kernel⟩, List.mem_of_getElem? (i := 45) (by decide +kernel), List.mem_of_getElem? (i := 253) (by decide +kernel), List.mem_of_getElem? (i := 254) (by decide +kernel)⟩
theorem lw_p20 : lw_okq (⟨"GameNet$Moves", "overBarIn", "(I)I"⟩, 4) := ⟨⟨by decide +kernel, by decide +kernel⟩, List.mem_of_getElem? (i := 45) (by decide +kernel), List.mem_of_getElem? (i := 258) (by decide +kernel), List.mem_of_getElem? (i := 259) (by decide +kernel)⟩
theorem lw_p21 : lw_okq (⟨"GameNet$Net", "reaches", "(III)Z"⟩, 5) := ⟨⟨by decide +kernel, by decide +kernel⟩, List.mem_of_getElem? (i := 17) (by decide +kernel), List.mem_of_getElem? (i := 262) (by decide +kernel), List.mem_of_getElem? (i := 263) (by decide +kernel)⟩
theorem lw_p22 : lw_okq (⟨"GameNet$Survey", "goThrough", "(III)V"⟩, 9) := ⟨⟨by decide +kernel, by decide +kernel⟩, List.mem_of_getElem? (i := 65) (by decide +kernel), List.mem_of_getElem? (i := 274) (by decide +kernel), List.mem_of_getElem? (i := 275) (by decide +kernel)⟩
theorem lw_p23 : lw_okq (⟨"GameNet$Survey", "isBeginning", "(I)Z"⟩, 9) := ⟨⟨by decide +kernel, by decide +kernel⟩, List.mem_of_getElem? (i := 65) (by decide +kernel), List.mem_of_getElem? (i := 279) (by decide +kernel), List.mem_of_getElem? (i := 280) (by decide +kernel)⟩
theorem lw_p24 : lw_okq (⟨"GameNet$Survey", "follow", "(I)V"⟩, 9) := ⟨⟨by decide +kernel, by decide +kernel⟩, List.mem_of_getElem? (i := 65) (by decide +kernel), List.mem_of_getElem? (i := 284) (by decide +kernel), List.mem_of_getElem? (i := 285) (by decide +kernel)⟩
theorem lw_p25 : lw_okq (⟨"GameNet$Survey", "closeRing", "(I)V"⟩, 9) := ⟨⟨by decide +kernel, by decide +kernel⟩, List.mem_of_getElem? (i := 65) (by decide +kernel), List.mem_of_getElem? (i := 288) (by decide +kernel), List.mem_of_getElem? (i := 289) (by decide +kernel)⟩
theorem lw_p26 : lw_okq (⟨"GameNet$Survey", "closeTail", "(I)V"⟩, 9) := ⟨⟨by decide +kernel, by decide +kernel⟩, List.mem_of_getElem? (i := 65) (by decide +kernel), List.mem_of_getElem? (i := 295) (by decide +kernel), List.mem_of_getElem? (i := 296) (by decide +kernel)⟩
theorem lw_p27 : lw_okq (⟨"GameNet$Survey", "ringLength", "(I)I"⟩, 9) := ⟨⟨by decide +kernel, by decide +kernel⟩, List.mem_of_getElem? (i := 65) (by decide +kernel), List.mem_of_getElem? (i := 299) (by decide +kernel), List.mem_of_getElem? (i := 300) (by decide +kernel)⟩
theorem lw_p28 : lw_okq (⟨"GameNet$Survey", "firstOfRing", "(I)I"⟩, 9) := ⟨⟨by decide +kernel, by decide +kernel⟩, List.mem_of_getElem? (i := 65) (by decide +kernel), List.mem_of_getElem? (i := 303) (by decide +kernel), List.mem_of_getElem? (i := 304) (by decide +kernel)⟩
theorem lw_p29 : lw_okq (⟨"GameNet$Survey", "howManyEnds", "()I"⟩, 9) := ⟨⟨by decide +kernel, by decide +kernel⟩, List.mem_of_getElem? (i := 65) (by decide +kernel), List.mem_of_getElem? (i := 311) (by decide +kernel), List.mem_of_getElem? (i := 312) (by decide +kernel)⟩
theorem lw_p30 : lw_okq (⟨"GameNet$Survey", "endAt", "(I)I"⟩, 9) := ⟨⟨by decide +kernel, by decide +kernel⟩, List.mem_of_getElem? (i := 65) (by decide +kernel), List.mem_of_getElem? (i := 315) (by decide +kernel), List.mem_of_getElem? (i := 316) (by decide +kernel)⟩
theorem lw_p31 : lw_okq (⟨"GameNet$Survey", "howManyComeTo", "(I)I"⟩, 9) := ⟨⟨by decide +kernel, by decide +kernel⟩, List.mem_of_getElem? (i := 65) (by decide +kernel), List.mem_of_getElem? (i := 323) (by decide +kernel), List.mem_of_getElem? (i := 324) (by decide +kernel)⟩
def lw_privs_2 : List (MethodName × Nat) := [(⟨"GameNet$Moves", "takeIntoUse", "(I)V"⟩, 4), (⟨"GameNet$Moves", "repliesTo", "(I)I"⟩, 4), (⟨"GameNet$Moves", "copiesIn", "(I)I"⟩, 4), (⟨"GameNet$Moves", "bestBeside", "(I)I"⟩, 4), (⟨"GameNet$Moves", "overBarIn", "(I)I"⟩, 4), (⟨"GameNet$Net", "reaches", "(III)Z"⟩, 5), (⟨"GameNet$Survey", "goThrough", "(III)V"⟩, 9), (⟨"GameNet$Survey", "isBeginning", "(I)Z"⟩, 9), (⟨"GameNet$Survey", "follow", "(I)V"⟩, 9), (⟨"GameNet$Survey", "closeRing", "(I)V"⟩, 9), (⟨"GameNet$Survey", "closeTail", "(I)V"⟩, 9), (⟨"GameNet$Survey", "ringLength", "(I)I"⟩, 9), (⟨"GameNet$Survey", "firstOfRing", "(I)I"⟩, 9), (⟨"GameNet$Survey", "howManyEnds", "()I"⟩, 9), (⟨"GameNet$Survey", "endAt", "(I)I"⟩, 9), (⟨"GameNet$Survey", "howManyComeTo", "(I)I"⟩, 9)]
theorem lw_r2 : ∀ q ∈ lw_privs_2, lw_okq q := List.forall_mem_cons.mpr ⟨lw_p16, List.forall_mem_cons.mpr ⟨lw_p17, List.forall_mem_cons.mpr ⟨lw_p18, List.forall_mem_cons.mpr ⟨lw_p19, List.forall_mem_cons.mpr ⟨lw_p20, List.forall_mem_cons.mpr ⟨lw_p21, List.forall_mem_cons.mpr ⟨lw_p22, List.forall_mem_cons.mpr ⟨lw_p23, List.forall_mem_cons.mpr ⟨lw_p24, List.forall_mem_cons.mpr ⟨lw_p25, List.forall_mem_cons.mpr ⟨lw_p26, List.forall_mem_cons.mpr ⟨lw_p27, List.forall_mem_cons.mpr ⟨lw_p28, List.forall_mem_cons.mpr ⟨lw_p29, List.forall_mem_cons.mpr ⟨lw_p30, List.forall_mem_cons.mpr ⟨lw_p31, fun _ h => absurd h List.not_mem_nil⟩⟩⟩⟩⟩⟩⟩⟩⟩⟩⟩⟩⟩⟩⟩⟩
theorem lw_p32 : lw_okq (⟨"GameNet$Survey", "greatestTail", "(I)I"⟩, 9) := ⟨⟨by decide +kernel, by decide +kernel⟩, List.mem_of_getElem? (i := 65) (by decide +kernel), List.mem_of_getElem? (i := 327) (by decide +kernel), List.mem_of_getElem? (i := 328) (by decide +kernel)⟩
theorem lw_p33 : lw_okq (⟨"GameNet", "clearMarks", "()V"⟩, 6) := ⟨⟨by decide +kernel, by decide +kernel⟩, List.mem_of_getElem? (i := 9) (by decide +kernel), List.mem_of_getElem? (i := 338) (by decide +kernel), List.mem_of_getElem? (i := 339) (by decide +kernel)⟩
theorem lw_p34 : lw_okq (⟨"GameNet", "isBeginning", "(I)Z"⟩, 6) := ⟨⟨by decide +kernel, by decide +kernel⟩, List.mem_of_getElem? (i := 9) (by decide +kernel), List.mem_of_getElem? (i := 343) (by decide +kernel), List.mem_of_getElem? (i := 344) (by decide +kernel)⟩
theorem lw_p35 : lw_okq (⟨"GameNet$Net", "riseOf", "(I)I"⟩, 5) := ⟨⟨by decide +kernel, by decide +kernel⟩, List.mem_of_getElem? (i := 17) (by decide +kernel), List.mem_of_getElem? (i := 355) (by decide +kernel), List.mem_of_getElem? (i := 356) (by decide +kernel)⟩
theorem lw_p36 : lw_okq (⟨"GameNet$Net", "gainOfOne", "()I"⟩, 5) := ⟨⟨by decide +kernel, by decide +kernel⟩, List.mem_of_getElem? (i := 17) (by decide +kernel), List.mem_of_getElem? (i := 360) (by decide +kernel), List.mem_of_getElem? (i := 361) (by decide +kernel)⟩
theorem lw_p37 : lw_okq (⟨"GameNet$Net", "gainOfZero", "()I"⟩, 5) := ⟨⟨by decide +kernel, by decide +kernel⟩, List.mem_of_getElem? (i := 17) (by decide +kernel), List.mem_of_getElem? (i := 364) (by decide +kernel), List.mem_of_getElem? (i := 365) (by decide +kernel)⟩
theorem lw_p38 : lw_okq (⟨"GameNet", "isAtRest", "(I)Z"⟩, 6) := ⟨⟨by decide +kernel, by decide +kernel⟩, List.mem_of_getElem? (i := 9) (by decide +kernel), List.mem_of_getElem? (i := 376) (by decide +kernel), List.mem_of_getElem? (i := 377) (by decide +kernel)⟩
theorem lw_p39 : lw_okq (⟨"GameNet", "tipsAll", "(II)Z"⟩, 6) := ⟨⟨by decide +kernel, by decide +kernel⟩, List.mem_of_getElem? (i := 9) (by decide +kernel), List.mem_of_getElem? (i := 394) (by decide +kernel), List.mem_of_getElem? (i := 395) (by decide +kernel)⟩
theorem lw_p40 : lw_okq (⟨"GameNet$Net", "howManyLines", "()I"⟩, 5) := ⟨⟨by decide +kernel, by decide +kernel⟩, List.mem_of_getElem? (i := 17) (by decide +kernel), List.mem_of_getElem? (i := 416) (by decide +kernel), List.mem_of_getElem? (i := 417) (by decide +kernel)⟩
theorem lw_p41 : lw_okq (⟨"GameNet", "toldPay", "(I)I"⟩, 6) := ⟨⟨by decide +kernel, by decide +kernel⟩, List.mem_of_getElem? (i := 9) (by decide +kernel), List.mem_of_getElem? (i := 420) (by decide +kernel), List.mem_of_getElem? (i := 421) (by decide +kernel)⟩
theorem lw_p42 : lw_okq (⟨"GameNetModel", "arePair", "(II)Z"⟩, 9) := ⟨⟨by decide +kernel, by decide +kernel⟩, List.mem_of_getElem? (i := 424) (by decide +kernel), List.mem_of_getElem? (i := 469) (by decide +kernel), List.mem_of_getElem? (i := 470) (by decide +kernel)⟩
theorem lw_p43 : lw_okq (⟨"GameNetModel", "isOne", "(I)Z"⟩, 9) := ⟨⟨by decide +kernel, by decide +kernel⟩, List.mem_of_getElem? (i := 424) (by decide +kernel), List.mem_of_getElem? (i := 473) (by decide +kernel), List.mem_of_getElem? (i := 474) (by decide +kernel)⟩
theorem lw_p44 : lw_okq (⟨"GameNetModel", "isState", "(I)Z"⟩, 9) := ⟨⟨by decide +kernel, by decide +kernel⟩, List.mem_of_getElem? (i := 424) (by decide +kernel), List.mem_of_getElem? (i := 498) (by decide +kernel), List.mem_of_getElem? (i := 499) (by decide +kernel)⟩
theorem lw_p45 : lw_okq (⟨"GameNetModel", "states", "()I"⟩, 9) := ⟨⟨by decide +kernel, by decide +kernel⟩, List.mem_of_getElem? (i := 424) (by decide +kernel), List.mem_of_getElem? (i := 502) (by decide +kernel), List.mem_of_getElem? (i := 503) (by decide +kernel)⟩
theorem lw_p46 : lw_okq (⟨"GameNetModel", "wageOf", "(III)I"⟩, 9) := ⟨⟨by decide +kernel, by decide +kernel⟩, List.mem_of_getElem? (i := 424) (by decide +kernel), List.mem_of_getElem? (i := 511) (by decide +kernel), List.mem_of_getElem? (i := 512) (by decide +kernel)⟩
theorem lw_p47 : lw_okq (⟨"GameNetModel", "next", "(III)I"⟩, 9) := ⟨⟨by decide +kernel, by decide +kernel⟩, List.mem_of_getElem? (i := 424) (by decide +kernel), List.mem_of_getElem? (i := 526) (by decide +kernel), List.mem_of_getElem? (i := 527) (by decide +kernel)⟩
def lw_privs_3 : List (MethodName × Nat) := [(⟨"GameNet$Survey", "greatestTail", "(I)I"⟩, 9), (⟨"GameNet", "clearMarks", "()V"⟩, 6), (⟨"GameNet", "isBeginning", "(I)Z"⟩, 6), (⟨"GameNet$Net", "riseOf", "(I)I"⟩, 5), (⟨"GameNet$Net", "gainOfOne", "()I"⟩, 5), (⟨"GameNet$Net", "gainOfZero", "()I"⟩, 5), (⟨"GameNet", "isAtRest", "(I)Z"⟩, 6), (⟨"GameNet", "tipsAll", "(II)Z"⟩, 6), (⟨"GameNet$Net", "howManyLines", "()I"⟩, 5), (⟨"GameNet", "toldPay", "(I)I"⟩, 6), (⟨"GameNetModel", "arePair", "(II)Z"⟩, 9), (⟨"GameNetModel", "isOne", "(I)Z"⟩, 9), (⟨"GameNetModel", "isState", "(I)Z"⟩, 9), (⟨"GameNetModel", "states", "()I"⟩, 9), (⟨"GameNetModel", "wageOf", "(III)I"⟩, 9), (⟨"GameNetModel", "next", "(III)I"⟩, 9)]
theorem lw_r3 : ∀ q ∈ lw_privs_3, lw_okq q := List.forall_mem_cons.mpr ⟨lw_p32, List.forall_mem_cons.mpr ⟨lw_p33, List.forall_mem_cons.mpr ⟨lw_p34, List.forall_mem_cons.mpr ⟨lw_p35, List.forall_mem_cons.mpr ⟨lw_p36, List.forall_mem_cons.mpr ⟨lw_p37, List.forall_mem_cons.mpr ⟨lw_p38, List.forall_mem_cons.mpr ⟨lw_p39, List.forall_mem_cons.mpr ⟨lw_p40, List.forall_mem_cons.mpr ⟨lw_p41, List.forall_mem_cons.mpr ⟨lw_p42, List.forall_mem_cons.mpr ⟨lw_p43, List.forall_mem_cons.mpr ⟨lw_p44, List.forall_mem_cons.mpr ⟨lw_p45, List.forall_mem_cons.mpr ⟨lw_p46, List.forall_mem_cons.mpr ⟨lw_p47, fun _ h => absurd h List.not_mem_nil⟩⟩⟩⟩⟩⟩⟩⟩⟩⟩⟩⟩⟩⟩⟩⟩
theorem lw_p48 : lw_okq (⟨"GameNetModel", "wayBehind", "(III)I"⟩, 9) := ⟨⟨by decide +kernel, by decide +kernel⟩, List.mem_of_getElem? (i := 424) (by decide +kernel), List.mem_of_getElem? (i := 530) (by decide +kernel), List.mem_of_getElem? (i := 531) (by decide +kernel)⟩
theorem lw_p49 : lw_okq (⟨"GameNetModel", "copied", "(II)I"⟩, 9) := ⟨⟨by decide +kernel, by decide +kernel⟩, List.mem_of_getElem? (i := 424) (by decide +kernel), List.mem_of_getElem? (i := 534) (by decide +kernel), List.mem_of_getElem? (i := 535) (by decide +kernel)⟩
theorem lw_p50 : lw_okq (⟨"GameNetModel", "tipped", "(II)I"⟩, 9) := ⟨⟨by decide +kernel, by decide +kernel⟩, List.mem_of_getElem? (i := 424) (by decide +kernel), List.mem_of_getElem? (i := 538) (by decide +kernel), List.mem_of_getElem? (i := 539) (by decide +kernel)⟩
theorem lw_p51 : lw_okq (⟨"GameNetModel", "gains", "(II)Z"⟩, 9) := ⟨⟨by decide +kernel, by decide +kernel⟩, List.mem_of_getElem? (i := 424) (by decide +kernel), List.mem_of_getElem? (i := 542) (by decide +kernel), List.mem_of_getElem? (i := 543) (by decide +kernel)⟩
theorem lw_p52 : lw_okq (⟨"GameNetModel", "layBehind", "(I)V"⟩, 9) := ⟨⟨by decide +kernel, by decide +kernel⟩, List.mem_of_getElem? (i := 424) (by decide +kernel), List.mem_of_getElem? (i := 554) (by decide +kernel), List.mem_of_getElem? (i := 555) (by decide +kernel)⟩
theorem lw_p53 : lw_okq (⟨"GameNetModel", "isBeginning", "(I)Z"⟩, 9) := ⟨⟨by decide +kernel, by decide +kernel⟩, List.mem_of_getElem? (i := 424) (by decide +kernel), List.mem_of_getElem? (i := 558) (by decide +kernel), List.mem_of_getElem? (i := 559) (by decide +kernel)⟩
theorem lw_p54 : lw_okq (⟨"GameNetModel", "inRing", "(I)I"⟩, 9) := ⟨⟨by decide +kernel, by decide +kernel⟩, List.mem_of_getElem? (i := 424) (by decide +kernel), List.mem_of_getElem? (i := 562) (by decide +kernel), List.mem_of_getElem? (i := 563) (by decide +kernel)⟩
theorem lw_p55 : lw_okq (⟨"GameNetModel", "isOn", "(II)Z"⟩, 9) := ⟨⟨by decide +kernel, by decide +kernel⟩, List.mem_of_getElem? (i := 424) (by decide +kernel), List.mem_of_getElem? (i := 566) (by decide +kernel), List.mem_of_getElem? (i := 567) (by decide +kernel)⟩
theorem lw_p56 : lw_okq (⟨"GameNetModel", "ringOf", "(I)I"⟩, 9) := ⟨⟨by decide +kernel, by decide +kernel⟩, List.mem_of_getElem? (i := 424) (by decide +kernel), List.mem_of_getElem? (i := 570) (by decide +kernel), List.mem_of_getElem? (i := 571) (by decide +kernel)⟩
theorem lw_p57 : lw_okq (⟨"GameNetModel", "leastOf", "(I)I"⟩, 9) := ⟨⟨by decide +kernel, by decide +kernel⟩, List.mem_of_getElem? (i := 424) (by decide +kernel), List.mem_of_getElem? (i := 574) (by decide +kernel), List.mem_of_getElem? (i := 575) (by decide +kernel)⟩
theorem lw_p58 : lw_okq (⟨"GameNetModel", "layEnds", "(I)V"⟩, 9) := ⟨⟨by decide +kernel, by decide +kernel⟩, List.mem_of_getElem? (i := 424) (by decide +kernel), List.mem_of_getElem? (i := 582) (by decide +kernel), List.mem_of_getElem? (i := 583) (by decide +kernel)⟩
theorem lw_p59 : lw_okq (⟨"GameNetModel", "endAt", "(I)I"⟩, 9) := ⟨⟨by decide +kernel, by decide +kernel⟩, List.mem_of_getElem? (i := 424) (by decide +kernel), List.mem_of_getElem? (i := 586) (by decide +kernel), List.mem_of_getElem? (i := 587) (by decide +kernel)⟩
theorem lw_p60 : lw_okq (⟨"GameNetModel", "riseOf", "(I)I"⟩, 9) := ⟨⟨by decide +kernel, by decide +kernel⟩, List.mem_of_getElem? (i := 424) (by decide +kernel), List.mem_of_getElem? (i := 606) (by decide +kernel), List.mem_of_getElem? (i := 607) (by decide +kernel)⟩
theorem lw_p61 : lw_okq (⟨"GameNetModel", "restsIn", "(I)Z"⟩, 9) := ⟨⟨by decide +kernel, by decide +kernel⟩, List.mem_of_getElem? (i := 424) (by decide +kernel), List.mem_of_getElem? (i := 618) (by decide +kernel), List.mem_of_getElem? (i := 619) (by decide +kernel)⟩
theorem lw_p62 : lw_okq (⟨"GameNetModel", "bits", "(I)I"⟩, 9) := ⟨⟨by decide +kernel, by decide +kernel⟩, List.mem_of_getElem? (i := 424) (by decide +kernel), List.mem_of_getElem? (i := 630) (by decide +kernel), List.mem_of_getElem? (i := 631) (by decide +kernel)⟩
theorem lw_p63 : lw_okq (⟨"GameNetModel", "tips", "(II)Z"⟩, 9) := ⟨⟨by decide +kernel, by decide +kernel⟩, List.mem_of_getElem? (i := 424) (by decide +kernel), List.mem_of_getElem? (i := 634) (by decide +kernel), List.mem_of_getElem? (i := 635) (by decide +kernel)⟩
def lw_privs_4 : List (MethodName × Nat) := [(⟨"GameNetModel", "wayBehind", "(III)I"⟩, 9), (⟨"GameNetModel", "copied", "(II)I"⟩, 9), (⟨"GameNetModel", "tipped", "(II)I"⟩, 9), (⟨"GameNetModel", "gains", "(II)Z"⟩, 9), (⟨"GameNetModel", "layBehind", "(I)V"⟩, 9), (⟨"GameNetModel", "isBeginning", "(I)Z"⟩, 9), (⟨"GameNetModel", "inRing", "(I)I"⟩, 9), (⟨"GameNetModel", "isOn", "(II)Z"⟩, 9), (⟨"GameNetModel", "ringOf", "(I)I"⟩, 9), (⟨"GameNetModel", "leastOf", "(I)I"⟩, 9), (⟨"GameNetModel", "layEnds", "(I)V"⟩, 9), (⟨"GameNetModel", "endAt", "(I)I"⟩, 9), (⟨"GameNetModel", "riseOf", "(I)I"⟩, 9), (⟨"GameNetModel", "restsIn", "(I)Z"⟩, 9), (⟨"GameNetModel", "bits", "(I)I"⟩, 9), (⟨"GameNetModel", "tips", "(II)Z"⟩, 9)]
theorem lw_r4 : ∀ q ∈ lw_privs_4, lw_okq q := List.forall_mem_cons.mpr ⟨lw_p48, List.forall_mem_cons.mpr ⟨lw_p49, List.forall_mem_cons.mpr ⟨lw_p50, List.forall_mem_cons.mpr ⟨lw_p51, List.forall_mem_cons.mpr ⟨lw_p52, List.forall_mem_cons.mpr ⟨lw_p53, List.forall_mem_cons.mpr ⟨lw_p54, List.forall_mem_cons.mpr ⟨lw_p55, List.forall_mem_cons.mpr ⟨lw_p56, List.forall_mem_cons.mpr ⟨lw_p57, List.forall_mem_cons.mpr ⟨lw_p58, List.forall_mem_cons.mpr ⟨lw_p59, List.forall_mem_cons.mpr ⟨lw_p60, List.forall_mem_cons.mpr ⟨lw_p61, List.forall_mem_cons.mpr ⟨lw_p62, List.forall_mem_cons.mpr ⟨lw_p63, fun _ h => absurd h List.not_mem_nil⟩⟩⟩⟩⟩⟩⟩⟩⟩⟩⟩⟩⟩⟩⟩⟩
theorem lw_p64 : lw_okq (⟨"GameNetModel", "lines", "()I"⟩, 9) := ⟨⟨by decide +kernel, by decide +kernel⟩, List.mem_of_getElem? (i := 424) (by decide +kernel), List.mem_of_getElem? (i := 653) (by decide +kernel), List.mem_of_getElem? (i := 654) (by decide +kernel)⟩
def lw_privs_5 : List (MethodName × Nat) := [(⟨"GameNetModel", "lines", "()I"⟩, 9)]
theorem lw_r5 : ∀ q ∈ lw_privs_5, lw_okq q := List.forall_mem_cons.mpr ⟨lw_p64, fun _ h => absurd h List.not_mem_nil⟩
def lw_privs : List (MethodName × Nat) := lw_privs_1 ++ (lw_privs_2 ++ (lw_privs_3 ++ (lw_privs_4 ++ (lw_privs_5))))
def lw_tbl : List Cond := k2_sels lw_privs ++ tables_1
theorem lw_privs_ok : ∀ q ∈ lw_privs, lw_okq q := by
  show ∀ q ∈ lw_privs_1 ++ (lw_privs_2 ++ (lw_privs_3 ++ (lw_privs_4 ++ (lw_privs_5)))), lw_okq q
  exact List.forall_mem_append.mpr ⟨lw_r1, List.forall_mem_append.mpr ⟨lw_r2, List.forall_mem_append.mpr ⟨lw_r3, List.forall_mem_append.mpr ⟨lw_r4, lw_r5⟩⟩⟩⟩
def RX0 : String := "GameNet$Moves"
def RX1 : String := "GameNet$Net"
def RX2 : String := "GameNet$Survey"
def RX3 : String := "GameNet"
def RX4 : String := "GameNetModel"
def RJ6 : String := "java/lang/Integer"
def RJ9 : String := "java/lang/Math"
def RL : String := "GameNetLaw"
def TX0 : u_T := fun k => match k with
  | 0 => ("GameNet$Moves", "net", "LGameNet$Net;", true)
  | 1 => ("GameNet$Moves", "wishes", "[I", true)
  | 2 => ("GameNet$Moves", "inUse", "[Z", true)
  | _ => ("GameNet$Moves", "wages", "[I", true)
def tyX0 : Nat → FieldType := fun k => match k with
  | 0 => .object "GameNet$Net"
  | 1 => .array .int
  | 2 => .array .boolean
  | _ => .array .int
theorem nmX0 : ∀ a, a < 4 → ∀ b, b < 4 → a ≠ b → (TX0 a).2.1 ≠ (TX0 b).2.1 := by decide +kernel
theorem tyX0_ok : ∀ k, k < 4 → parseFieldDescriptor (TX0 k).2.2.1 = some (tyX0 k) := by decide +kernel
def TX1 : u_T := fun k => match k with
  | 0 => ("GameNet$Net", "weights", "[I", true)
  | 1 => ("GameNet$Net", "allWeights", "[I", true)
  | 2 => ("GameNet$Net", "pays", "[I", true)
  | 3 => ("GameNet$Net", "players", "I", false)
  | _ => ("GameNet$Net", "bar", "I", false)
def tyX1 : Nat → FieldType := fun k => match k with
  | 0 => .array .int
  | 1 => .array .int
  | 2 => .array .int
  | 3 => .int
  | _ => .int
theorem nmX1 : ∀ a, a < 5 → ∀ b, b < 5 → a ≠ b → (TX1 a).2.1 ≠ (TX1 b).2.1 := by decide +kernel
theorem tyX1_ok : ∀ k, k < 5 → parseFieldDescriptor (TX1 k).2.2.1 = some (tyX1 k) := by decide +kernel
def TX2 : u_T := fun k => match k with
  | 0 => ("GameNet$Survey", "net", "LGameNet$Net;", true)
  | 1 => ("GameNet$Survey", "moves", "LGameNet$Moves;", true)
  | 2 => ("GameNet$Survey", "behind", "[I", true)
  | 3 => ("GameNet$Survey", "ends", "[I", true)
  | 4 => ("GameNet$Survey", "tails", "[I", true)
  | 5 => ("GameNet$Survey", "stands", "Z", false)
  | 6 => ("GameNet$Survey", "rule", "I", false)
  | 7 => ("GameNet$Survey", "held", "I", false)
  | _ => ("GameNet$Survey", "heldWays", "I", false)
def tyX2 : Nat → FieldType := fun k => match k with
  | 0 => .object "GameNet$Net"
  | 1 => .object "GameNet$Moves"
  | 2 => .array .int
  | 3 => .array .int
  | 4 => .array .int
  | 5 => .boolean
  | 6 => .int
  | 7 => .int
  | _ => .int
theorem nmX2 : ∀ a, a < 9 → ∀ b, b < 9 → a ≠ b → (TX2 a).2.1 ≠ (TX2 b).2.1 := by decide +kernel
theorem tyX2_ok : ∀ k, k < 9 → parseFieldDescriptor (TX2 k).2.2.1 = some (tyX2 k) := by decide +kernel
def TX3 : u_T := fun k => match k with
  | 0 => ("GameNet", "net", "LGameNet$Net;", true)
  | 1 => ("GameNet", "moves", "LGameNet$Moves;", true)
  | 2 => ("GameNet", "survey", "LGameNet$Survey;", true)
  | 3 => ("GameNet", "marks", "[I", true)
  | 4 => ("GameNet", "held", "I", false)
  | _ => ("GameNet", "now", "I", false)
def tyX3 : Nat → FieldType := fun k => match k with
  | 0 => .object "GameNet$Net"
  | 1 => .object "GameNet$Moves"
  | 2 => .object "GameNet$Survey"
  | 3 => .array .int
  | 4 => .int
  | _ => .int
theorem nmX3 : ∀ a, a < 6 → ∀ b, b < 6 → a ≠ b → (TX3 a).2.1 ≠ (TX3 b).2.1 := by decide +kernel
theorem tyX3_ok : ∀ k, k < 6 → parseFieldDescriptor (TX3 k).2.2.1 = some (tyX3 k) := by decide +kernel
def TX4 : u_T := fun k => match k with
  | 0 => ("GameNetModel", "n", "I", false)
  | 1 => ("GameNetModel", "weight", "[I", true)
  | 2 => ("GameNetModel", "pay", "[I", true)
  | 3 => ("GameNetModel", "bar", "I", false)
  | 4 => ("GameNetModel", "held", "I", false)
  | 5 => ("GameNetModel", "state", "I", false)
  | 6 => ("GameNetModel", "behind", "[I", true)
  | 7 => ("GameNetModel", "endOf", "[I", true)
  | _ => ("GameNetModel", "tail", "[I", true)
def tyX4 : Nat → FieldType := fun k => match k with
  | 0 => .int
  | 1 => .array .int
  | 2 => .array .int
  | 3 => .int
  | 4 => .int
  | 5 => .int
  | 6 => .array .int
  | 7 => .array .int
  | _ => .array .int
theorem nmX4 : ∀ a, a < 9 → ∀ b, b < 9 → a ≠ b → (TX4 a).2.1 ≠ (TX4 b).2.1 := by decide +kernel
theorem tyX4_ok : ∀ k, k < 9 → parseFieldDescriptor (TX4 k).2.2.1 = some (tyX4 k) := by decide +kernel
abbrev cX0_init : ByteArray := prog_2_method_1_code
def yX0_init : MethodName := ⟨RX0, "<init>", "(LGameNet$Net;)V"⟩
abbrev cX0_forget : ByteArray := prog_2_method_2_code
def yX0_forget : MethodName := ⟨RX0, "forget", "()V"⟩
abbrev cX0_next : ByteArray := prog_2_method_3_code
def yX0_next : MethodName := ⟨RX0, "next", "(III)I"⟩
abbrev cX0_wishOf : ByteArray := prog_2_method_4_code
def yX0_wishOf : MethodName := ⟨RX0, "wishOf", "(II)I"⟩
abbrev cX0_takeIntoUse : ByteArray := prog_2_method_5_code
def yX0_takeIntoUse : MethodName := ⟨RX0, "takeIntoUse", "(I)V"⟩
abbrev cX0_repliesTo : ByteArray := prog_2_method_6_code
def yX0_repliesTo : MethodName := ⟨RX0, "repliesTo", "(I)I"⟩
abbrev cX0_copiesIn : ByteArray := prog_2_method_7_code
def yX0_copiesIn : MethodName := ⟨RX0, "copiesIn", "(I)I"⟩
abbrev cX0_bestBeside : ByteArray := prog_2_method_8_code
def yX0_bestBeside : MethodName := ⟨RX0, "bestBeside", "(I)I"⟩
abbrev cX0_overBarIn : ByteArray := prog_2_method_9_code
def yX0_overBarIn : MethodName := ⟨RX0, "overBarIn", "(I)I"⟩
abbrev cX1_init : ByteArray := prog_3_method_1_code
def yX1_init : MethodName := ⟨RX1, "<init>", "()V"⟩
abbrev cX1_beginAnew : ByteArray := prog_3_method_2_code
def yX1_beginAnew : MethodName := ⟨RX1, "beginAnew", "(I)V"⟩
abbrev cX1_states : ByteArray := prog_3_method_3_code
def yX1_states : MethodName := ⟨RX1, "states", "()I"⟩
abbrev cX1_has : ByteArray := prog_3_method_4_code
def yX1_has : MethodName := ⟨RX1, "has", "(I)Z"⟩
abbrev cX1_mayJoin : ByteArray := prog_3_method_5_code
def yX1_mayJoin : MethodName := ⟨RX1, "mayJoin", "(II)Z"⟩
abbrev cX1_isState : ByteArray := prog_3_method_6_code
def yX1_isState : MethodName := ⟨RX1, "isState", "(I)Z"⟩
abbrev cX1_weightOf : ByteArray := prog_3_method_7_code
def yX1_weightOf : MethodName := ⟨RX1, "weightOf", "(II)I"⟩
abbrev cX1_setWeight : ByteArray := prog_3_method_8_code
def yX1_setWeight : MethodName := ⟨RX1, "setWeight", "(III)V"⟩
abbrev cX1_payOf : ByteArray := prog_3_method_9_code
def yX1_payOf : MethodName := ⟨RX1, "payOf", "(II)I"⟩
abbrev cX1_setPay : ByteArray := prog_3_method_10_code
def yX1_setPay : MethodName := ⟨RX1, "setPay", "(III)V"⟩
abbrev cX1_howManyLines : ByteArray := prog_3_method_11_code
def yX1_howManyLines : MethodName := ⟨RX1, "howManyLines", "()I"⟩
abbrev cX1_weightsInto : ByteArray := prog_3_method_12_code
def yX1_weightsInto : MethodName := ⟨RX1, "weightsInto", "(II)I"⟩
abbrev cX1_wageOf : ByteArray := prog_3_method_13_code
def yX1_wageOf : MethodName := ⟨RX1, "wageOf", "(III)I"⟩
abbrev cX1_reaches : ByteArray := prog_3_method_14_code
def yX1_reaches : MethodName := ⟨RX1, "reaches", "(III)Z"⟩
abbrev cX1_gainOfZero : ByteArray := prog_3_method_15_code
def yX1_gainOfZero : MethodName := ⟨RX1, "gainOfZero", "()I"⟩
abbrev cX1_gainOfOne : ByteArray := prog_3_method_16_code
def yX1_gainOfOne : MethodName := ⟨RX1, "gainOfOne", "()I"⟩
abbrev cX1_riseOf : ByteArray := prog_3_method_17_code
def yX1_riseOf : MethodName := ⟨RX1, "riseOf", "(I)I"⟩
abbrev cX2_init : ByteArray := prog_4_method_1_code
def yX2_init : MethodName := ⟨RX2, "<init>", "(LGameNet$Net;LGameNet$Moves;)V"⟩
abbrev cX2_forget : ByteArray := prog_4_method_2_code
def yX2_forget : MethodName := ⟨RX2, "forget", "()V"⟩
abbrev cX2_goThrough : ByteArray := prog_4_method_3_code
def yX2_goThrough : MethodName := ⟨RX2, "goThrough", "(III)V"⟩
abbrev cX2_isBeginning : ByteArray := prog_4_method_4_code
def yX2_isBeginning : MethodName := ⟨RX2, "isBeginning", "(I)Z"⟩
abbrev cX2_follow : ByteArray := prog_4_method_5_code
def yX2_follow : MethodName := ⟨RX2, "follow", "(I)V"⟩
abbrev cX2_closeRing : ByteArray := prog_4_method_6_code
def yX2_closeRing : MethodName := ⟨RX2, "closeRing", "(I)V"⟩
abbrev cX2_closeTail : ByteArray := prog_4_method_7_code
def yX2_closeTail : MethodName := ⟨RX2, "closeTail", "(I)V"⟩
abbrev cX2_howManyEnds : ByteArray := prog_4_method_8_code
def yX2_howManyEnds : MethodName := ⟨RX2, "howManyEnds", "()I"⟩
abbrev cX2_endAt : ByteArray := prog_4_method_9_code
def yX2_endAt : MethodName := ⟨RX2, "endAt", "(I)I"⟩
abbrev cX2_howManyComeTo : ByteArray := prog_4_method_10_code
def yX2_howManyComeTo : MethodName := ⟨RX2, "howManyComeTo", "(I)I"⟩
abbrev cX2_ringLength : ByteArray := prog_4_method_11_code
def yX2_ringLength : MethodName := ⟨RX2, "ringLength", "(I)I"⟩
abbrev cX2_greatestTail : ByteArray := prog_4_method_12_code
def yX2_greatestTail : MethodName := ⟨RX2, "greatestTail", "(I)I"⟩
abbrev cX2_firstOfRing : ByteArray := prog_4_method_13_code
def yX2_firstOfRing : MethodName := ⟨RX2, "firstOfRing", "(I)I"⟩
abbrev cX3_init : ByteArray := prog_1_method_1_code
def yX3_init : MethodName := ⟨RX3, "<init>", "()V"⟩
abbrev cX3_players : ByteArray := prog_1_method_2_code
def yX3_players : MethodName := ⟨RX3, "players", "(I)I"⟩
abbrev cX3_line : ByteArray := prog_1_method_3_code
def yX3_line : MethodName := ⟨RX3, "line", "(III)I"⟩
abbrev cX3_weight : ByteArray := prog_1_method_4_code
def yX3_weight : MethodName := ⟨RX3, "weight", "(II)I"⟩
abbrev cX3_pay : ByteArray := prog_1_method_5_code
def yX3_pay : MethodName := ⟨RX3, "pay", "(III)I"⟩
abbrev cX3_bar : ByteArray := prog_1_method_6_code
def yX3_bar : MethodName := ⟨RX3, "bar", "(I)I"⟩
abbrev cX3_hold : ByteArray := prog_1_method_7_code
def yX3_hold : MethodName := ⟨RX3, "hold", "(IZ)I"⟩
abbrev cX3_state : ByteArray := prog_1_method_8_code
def yX3_state : MethodName := ⟨RX3, "state", "(I)I"⟩
abbrev cX3_wage : ByteArray := prog_1_method_9_code
def yX3_wage : MethodName := ⟨RX3, "wage", "(II)I"⟩
abbrev cX3_sum : ByteArray := prog_1_method_10_code
def yX3_sum : MethodName := ⟨RX3, "sum", "()I"⟩
abbrev cX3_step : ByteArray := prog_1_method_11_code
def yX3_step : MethodName := ⟨RX3, "step", "(II)I"⟩
abbrev cX3_after : ByteArray := prog_1_method_12_code
def yX3_after : MethodName := ⟨RX3, "after", "(II)I"⟩
abbrev cX3_goes : ByteArray := prog_1_method_13_code
def yX3_goes : MethodName := ⟨RX3, "goes", "(II)I"⟩
abbrev cX3_end : ByteArray := prog_1_method_14_code
def yX3_end : MethodName := ⟨RX3, "end", "(II)I"⟩
abbrev cX3_basin : ByteArray := prog_1_method_15_code
def yX3_basin : MethodName := ⟨RX3, "basin", "(III)I"⟩
abbrev cX3_lone : ByteArray := prog_1_method_16_code
def yX3_lone : MethodName := ⟨RX3, "lone", "(I)I"⟩
abbrev cX3_before : ByteArray := prog_1_method_17_code
def yX3_before : MethodName := ⟨RX3, "before", "(II)I"⟩
abbrev cX3_rise : ByteArray := prog_1_method_18_code
def yX3_rise : MethodName := ⟨RX3, "rise", "()I"⟩
abbrev cX3_highest : ByteArray := prog_1_method_19_code
def yX3_highest : MethodName := ⟨RX3, "highest", "()I"⟩
abbrev cX3_rests : ByteArray := prog_1_method_20_code
def yX3_rests : MethodName := ⟨RX3, "rests", "()I"⟩
abbrev cX3_restMany : ByteArray := prog_1_method_21_code
def yX3_restMany : MethodName := ⟨RX3, "restMany", "()I"⟩
abbrev cX3_tip : ByteArray := prog_1_method_22_code
def yX3_tip : MethodName := ⟨RX3, "tip", "(I)I"⟩
abbrev cX3_share : ByteArray := prog_1_method_23_code
def yX3_share : MethodName := ⟨RX3, "share", "(I)I"⟩
abbrev cX3_hangs : ByteArray := prog_1_method_24_code
def yX3_hangs : MethodName := ⟨RX3, "hangs", "(II)I"⟩
abbrev cX3_told : ByteArray := prog_1_method_25_code
def yX3_told : MethodName := ⟨RX3, "told", "(I)I"⟩
abbrev cX3_toldPay : ByteArray := prog_1_method_26_code
def yX3_toldPay : MethodName := ⟨RX3, "toldPay", "(I)I"⟩
abbrev cX3_forgetMoves : ByteArray := prog_1_method_27_code
def yX3_forgetMoves : MethodName := ⟨RX3, "forgetMoves", "()V"⟩
abbrev cX3_clearMarks : ByteArray := prog_1_method_28_code
def yX3_clearMarks : MethodName := ⟨RX3, "clearMarks", "()V"⟩
abbrev cX3_isBeginning : ByteArray := prog_1_method_29_code
def yX3_isBeginning : MethodName := ⟨RX3, "isBeginning", "(I)Z"⟩
abbrev cX3_isAtRest : ByteArray := prog_1_method_30_code
def yX3_isAtRest : MethodName := ⟨RX3, "isAtRest", "(I)Z"⟩
abbrev cX3_tipsAll : ByteArray := prog_1_method_31_code
def yX3_tipsAll : MethodName := ⟨RX3, "tipsAll", "(II)Z"⟩
abbrev cX3_isRule : ByteArray := prog_1_method_32_code
def yX3_isRule : MethodName := ⟨RX3, "isRule", "(I)Z"⟩
abbrev cX3_isWay : ByteArray := prog_1_method_33_code
def yX3_isWay : MethodName := ⟨RX3, "isWay", "(I)Z"⟩
abbrev cX3_bitOf : ByteArray := prog_1_method_34_code
def yX3_bitOf : MethodName := ⟨RX3, "bitOf", "(II)I"⟩
abbrev cX3_commonDivisor : ByteArray := prog_1_method_35_code
def yX3_commonDivisor : MethodName := ⟨RX3, "commonDivisor", "(II)I"⟩
abbrev cX4_init : ByteArray := prog_6_method_1_code
def yX4_init : MethodName := ⟨RX4, "<init>", "()V"⟩
abbrev cX4_in : ByteArray := prog_6_method_2_code
def yX4_in : MethodName := ⟨RX4, "in", "(III)Z"⟩
abbrev cX4_isOne : ByteArray := prog_6_method_3_code
def yX4_isOne : MethodName := ⟨RX4, "isOne", "(I)Z"⟩
abbrev cX4_states : ByteArray := prog_6_method_4_code
def yX4_states : MethodName := ⟨RX4, "states", "()I"⟩
abbrev cX4_isState : ByteArray := prog_6_method_5_code
def yX4_isState : MethodName := ⟨RX4, "isState", "(I)Z"⟩
abbrev cX4_players : ByteArray := prog_6_method_6_code
def yX4_players : MethodName := ⟨RX4, "players", "(I)I"⟩
abbrev cX4_arePair : ByteArray := prog_6_method_7_code
def yX4_arePair : MethodName := ⟨RX4, "arePair", "(II)Z"⟩
abbrev cX4_line : ByteArray := prog_6_method_8_code
def yX4_line : MethodName := ⟨RX4, "line", "(III)I"⟩
abbrev cX4_weight : ByteArray := prog_6_method_9_code
def yX4_weight : MethodName := ⟨RX4, "weight", "(II)I"⟩
abbrev cX4_pay : ByteArray := prog_6_method_10_code
def yX4_pay : MethodName := ⟨RX4, "pay", "(III)I"⟩
abbrev cX4_bar : ByteArray := prog_6_method_11_code
def yX4_bar : MethodName := ⟨RX4, "bar", "(I)I"⟩
abbrev cX4_hold : ByteArray := prog_6_method_12_code
def yX4_hold : MethodName := ⟨RX4, "hold", "(IZ)I"⟩
abbrev cX4_state : ByteArray := prog_6_method_13_code
def yX4_state : MethodName := ⟨RX4, "state", "(I)I"⟩
abbrev cX4_wageOf : ByteArray := prog_6_method_14_code
def yX4_wageOf : MethodName := ⟨RX4, "wageOf", "(III)I"⟩
abbrev cX4_wage : ByteArray := prog_6_method_15_code
def yX4_wage : MethodName := ⟨RX4, "wage", "(II)I"⟩
abbrev cX4_sum : ByteArray := prog_6_method_16_code
def yX4_sum : MethodName := ⟨RX4, "sum", "()I"⟩
abbrev cX4_gains : ByteArray := prog_6_method_17_code
def yX4_gains : MethodName := ⟨RX4, "gains", "(II)Z"⟩
abbrev cX4_copied : ByteArray := prog_6_method_18_code
def yX4_copied : MethodName := ⟨RX4, "copied", "(II)I"⟩
abbrev cX4_tipped : ByteArray := prog_6_method_19_code
def yX4_tipped : MethodName := ⟨RX4, "tipped", "(II)I"⟩
abbrev cX4_wayBehind : ByteArray := prog_6_method_20_code
def yX4_wayBehind : MethodName := ⟨RX4, "wayBehind", "(III)I"⟩
abbrev cX4_next : ByteArray := prog_6_method_21_code
def yX4_next : MethodName := ⟨RX4, "next", "(III)I"⟩
abbrev cX4_isRule : ByteArray := prog_6_method_22_code
def yX4_isRule : MethodName := ⟨RX4, "isRule", "(I)Z"⟩
abbrev cX4_step : ByteArray := prog_6_method_23_code
def yX4_step : MethodName := ⟨RX4, "step", "(II)I"⟩
abbrev cX4_after : ByteArray := prog_6_method_24_code
def yX4_after : MethodName := ⟨RX4, "after", "(II)I"⟩
abbrev cX4_isBeginning : ByteArray := prog_6_method_25_code
def yX4_isBeginning : MethodName := ⟨RX4, "isBeginning", "(I)Z"⟩
abbrev cX4_layBehind : ByteArray := prog_6_method_26_code
def yX4_layBehind : MethodName := ⟨RX4, "layBehind", "(I)V"⟩
abbrev cX4_inRing : ByteArray := prog_6_method_27_code
def yX4_inRing : MethodName := ⟨RX4, "inRing", "(I)I"⟩
abbrev cX4_ringOf : ByteArray := prog_6_method_28_code
def yX4_ringOf : MethodName := ⟨RX4, "ringOf", "(I)I"⟩
abbrev cX4_leastOf : ByteArray := prog_6_method_29_code
def yX4_leastOf : MethodName := ⟨RX4, "leastOf", "(I)I"⟩
abbrev cX4_goes : ByteArray := prog_6_method_30_code
def yX4_goes : MethodName := ⟨RX4, "goes", "(II)I"⟩
abbrev cX4_isOn : ByteArray := prog_6_method_31_code
def yX4_isOn : MethodName := ⟨RX4, "isOn", "(II)Z"⟩
abbrev cX4_layEnds : ByteArray := prog_6_method_32_code
def yX4_layEnds : MethodName := ⟨RX4, "layEnds", "(I)V"⟩
abbrev cX4_endAt : ByteArray := prog_6_method_33_code
def yX4_endAt : MethodName := ⟨RX4, "endAt", "(I)I"⟩
abbrev cX4_end : ByteArray := prog_6_method_34_code
def yX4_end : MethodName := ⟨RX4, "end", "(II)I"⟩
abbrev cX4_basin : ByteArray := prog_6_method_35_code
def yX4_basin : MethodName := ⟨RX4, "basin", "(III)I"⟩
abbrev cX4_lone : ByteArray := prog_6_method_36_code
def yX4_lone : MethodName := ⟨RX4, "lone", "(I)I"⟩
abbrev cX4_before : ByteArray := prog_6_method_37_code
def yX4_before : MethodName := ⟨RX4, "before", "(II)I"⟩
abbrev cX4_riseOf : ByteArray := prog_6_method_38_code
def yX4_riseOf : MethodName := ⟨RX4, "riseOf", "(I)I"⟩
abbrev cX4_rise : ByteArray := prog_6_method_39_code
def yX4_rise : MethodName := ⟨RX4, "rise", "()I"⟩
abbrev cX4_highest : ByteArray := prog_6_method_40_code
def yX4_highest : MethodName := ⟨RX4, "highest", "()I"⟩
abbrev cX4_restsIn : ByteArray := prog_6_method_41_code
def yX4_restsIn : MethodName := ⟨RX4, "restsIn", "(I)Z"⟩
abbrev cX4_rests : ByteArray := prog_6_method_42_code
def yX4_rests : MethodName := ⟨RX4, "rests", "()I"⟩
abbrev cX4_restMany : ByteArray := prog_6_method_43_code
def yX4_restMany : MethodName := ⟨RX4, "restMany", "()I"⟩
abbrev cX4_bits : ByteArray := prog_6_method_44_code
def yX4_bits : MethodName := ⟨RX4, "bits", "(I)I"⟩
abbrev cX4_tips : ByteArray := prog_6_method_45_code
def yX4_tips : MethodName := ⟨RX4, "tips", "(II)Z"⟩
abbrev cX4_tip : ByteArray := prog_6_method_46_code
def yX4_tip : MethodName := ⟨RX4, "tip", "(I)I"⟩
abbrev cX4_common : ByteArray := prog_6_method_47_code
def yX4_common : MethodName := ⟨RX4, "common", "(II)I"⟩
abbrev cX4_share : ByteArray := prog_6_method_48_code
def yX4_share : MethodName := ⟨RX4, "share", "(I)I"⟩
abbrev cX4_hangs : ByteArray := prog_6_method_49_code
def yX4_hangs : MethodName := ⟨RX4, "hangs", "(II)I"⟩
abbrev cX4_lines : ByteArray := prog_6_method_50_code
def yX4_lines : MethodName := ⟨RX4, "lines", "()I"⟩
abbrev cX4_told : ByteArray := prog_6_method_51_code
def yX4_told : MethodName := ⟨RX4, "told", "(I)I"⟩
abbrev cJ6_bitCount_0f7a4 : ByteArray := prog_7_method_49_code
def yJ6_bitCount_0f7a4 : MethodName := ⟨RJ6, "bitCount", "(I)I"⟩
abbrev cJ9_max_7cf53 : ByteArray := prog_8_method_65_code
def yJ9_max_7cf53 : MethodName := ⟨RJ9, "max", "(II)I"⟩
abbrev cJ9_min_7cf53 : ByteArray := prog_8_method_69_code
def yJ9_min_7cf53 : MethodName := ⟨RJ9, "min", "(II)I"⟩
abbrev vwCl : List vw_C := [(RX0, TX0, 4), (RX1, TX1, 5), (RX2, TX2, 9), (RX3, TX3, 6), (RX4, TX4, 9)]
def isNestW : Cond → Bool
  | .fieldLinkNest .. => true
  | .methodLinkNest .. => true
  | _ => false
def bigW : List Cond := lw_tbl.filter goodWord
def nestW : List Cond := tables_1.filter isNestW
def Nst (U : State) : Prop := ∀ w ∈ nestW, va_Nw w U
theorem mem_t1 {w : Cond} (i : Nat) (h : tables_1_1[i]? = some w) : w ∈ tables_1 := List.mem_append_left _ (List.mem_of_getElem? h)
theorem mem_t2 {w : Cond} (i : Nat) (h : tables_1_2[i]? = some w) : w ∈ tables_1 := List.mem_append_right _ (List.mem_append_left _ (List.mem_of_getElem? h))
theorem mem_t3 {w : Cond} (i : Nat) (h : tables_1_3[i]? = some w) : w ∈ tables_1 := List.mem_append_right _ (List.mem_append_right _ (List.mem_of_getElem? h))
theorem mem_big {w : Cond} (h : w ∈ tables_1) (hg : goodWord w = true) : w ∈ bigW := List.mem_filter.mpr ⟨List.mem_append_right _ h, hg⟩
theorem mem_nest {w : Cond} (h : w ∈ tables_1) (hg : isNestW w = true) : w ∈ nestW := List.mem_filter.mpr ⟨h, hg⟩
theorem mem_sel {q : MethodName × Nat} (i : Nat) (h : lw_privs[i]? = some q) (hg : goodWord (Cond.selects q.1.cls q.1 q.1) = true) : Cond.selects q.1.cls q.1 q.1 ∈ bigW := List.mem_filter.mpr ⟨List.mem_append_left _ (List.mem_map.mpr ⟨q, List.mem_of_getElem? h, rfl⟩), hg⟩
theorem Nst.warm {s U : State} (hW : s.WarmedH U.vm) (h : Nst s) : Nst U := by
  intro w hw
  have h1 := h w hw
  have h2 := (List.mem_filter.mp hw).2
  cases w <;> first | exact va_Nw.warmF hW h1 | exact va_Nw.warmM hW h1 | (exact absurd h2 Bool.false_ne_true)
theorem Nst.same {u U : State} (h : u.vm = U.vm) (hZ : Nst u) : Nst U := by
  intro w hw
  have h1 := hZ w hw
  have h2 := (List.mem_filter.mp hw).2
  cases w <;> first | exact va_Nw.same rfl h h1 | (exact absurd h2 Bool.false_ne_true)
def wsM (y : MethodName) (cc : ByteArray) (n : Nat) (ret : Option FieldType) : List Cond := .code y cc n ret :: bigW
theorem good_M {y : MethodName} {cc : ByteArray} {n : Nat} {ret : Option FieldType} (h : Cond.code y cc n ret ∈ bigW) : GoodIn bigW (wsM y cc n ret) := by
  intro w hw
  have hm : w ∈ bigW := by
    rcases List.mem_cons.mp hw with e | e
    · rw [e]; exact h
    · exact e
  exact ⟨hm, good_of_word (List.mem_filter.mp hm).2⟩
theorem iwX0 : ∀ w ∈ u_ws RX0 TX0 4, w ∈ bigW := by
  intro w hw
  obtain ⟨k, hk, rfl⟩ := List.mem_map.mp hw
  have hk := List.mem_range.mp hk
  rcases (show k = 0 ∨ k = 1 ∨ k = 2 ∨ k = 3 by omega) with rfl | rfl | rfl | rfl
  · exact mem_big (mem_t1 54 rfl) rfl
  · exact mem_big (mem_t1 56 rfl) rfl
  · exact mem_big (mem_t1 58 rfl) rfl
  · exact mem_big (mem_t1 60 rfl) rfl
theorem iwX1 : ∀ w ∈ u_ws RX1 TX1 5, w ∈ bigW := by
  intro w hw
  obtain ⟨k, hk, rfl⟩ := List.mem_map.mp hw
  have hk := List.mem_range.mp hk
  rcases (show k = 0 ∨ k = 1 ∨ k = 2 ∨ k = 3 ∨ k = 4 by omega) with rfl | rfl | rfl | rfl | rfl
  · exact mem_big (mem_t1 32 rfl) rfl
  · exact mem_big (mem_t1 34 rfl) rfl
  · exact mem_big (mem_t1 36 rfl) rfl
  · exact mem_big (mem_t1 38 rfl) rfl
  · exact mem_big (mem_t1 40 rfl) rfl
theorem iwX2 : ∀ w ∈ u_ws RX2 TX2 9, w ∈ bigW := by
  intro w hw
  obtain ⟨k, hk, rfl⟩ := List.mem_map.mp hw
  have hk := List.mem_range.mp hk
  rcases (show k = 0 ∨ k = 1 ∨ k = 2 ∨ k = 3 ∨ k = 4 ∨ k = 5 ∨ k = 6 ∨ k = 7 ∨ k = 8 by omega) with rfl | rfl | rfl | rfl | rfl | rfl | rfl | rfl | rfl
  · exact mem_big (mem_t1 81 rfl) rfl
  · exact mem_big (mem_t1 83 rfl) rfl
  · exact mem_big (mem_t1 85 rfl) rfl
  · exact mem_big (mem_t1 87 rfl) rfl
  · exact mem_big (mem_t1 89 rfl) rfl
  · exact mem_big (mem_t1 91 rfl) rfl
  · exact mem_big (mem_t1 93 rfl) rfl
  · exact mem_big (mem_t1 95 rfl) rfl
  · exact mem_big (mem_t1 97 rfl) rfl
theorem iwX3 : ∀ w ∈ u_ws RX3 TX3 6, w ∈ bigW := by
  intro w hw
  obtain ⟨k, hk, rfl⟩ := List.mem_map.mp hw
  have hk := List.mem_range.mp hk
  rcases (show k = 0 ∨ k = 1 ∨ k = 2 ∨ k = 3 ∨ k = 4 ∨ k = 5 by omega) with rfl | rfl | rfl | rfl | rfl | rfl
  · exact mem_big (mem_t1 106 rfl) rfl
  · exact mem_big (mem_t1 108 rfl) rfl
  · exact mem_big (mem_t1 110 rfl) rfl
  · exact mem_big (mem_t1 112 rfl) rfl
  · exact mem_big (mem_t1 114 rfl) rfl
  · exact mem_big (mem_t1 116 rfl) rfl
theorem iwX4 : ∀ w ∈ u_ws RX4 TX4 9, w ∈ bigW := by
  intro w hw
  obtain ⟨k, hk, rfl⟩ := List.mem_map.mp hw
  have hk := List.mem_range.mp hk
  rcases (show k = 0 ∨ k = 1 ∨ k = 2 ∨ k = 3 ∨ k = 4 ∨ k = 5 ∨ k = 6 ∨ k = 7 ∨ k = 8 by omega) with rfl | rfl | rfl | rfl | rfl | rfl | rfl | rfl | rfl
  · exact mem_big (mem_t2 198 rfl) rfl
  · exact mem_big (mem_t2 200 rfl) rfl
  · exact mem_big (mem_t2 202 rfl) rfl
  · exact mem_big (mem_t2 204 rfl) rfl
  · exact mem_big (mem_t2 206 rfl) rfl
  · exact mem_big (mem_t2 208 rfl) rfl
  · exact mem_big (mem_t2 210 rfl) rfl
  · exact mem_big (mem_t2 212 rfl) rfl
  · exact mem_big (mem_t2 214 rfl) rfl
