section
-- ===== PART A: goes FIRST, ahead of the names: the tables' words, and 'selects' of the private methods out of them =====
/-- a private method of a class that the tables say can be made, by its rows of tables_1 -/
def lw_okq (q : MethodName × Nat) : Prop := (q.1.cls ≠ "java/lang/invoke/MethodHandle" ∧ q.1.cls ≠ "java/lang/invoke/VarHandle") ∧ Cond.instantiable q.1.cls q.2 ∈ tables_1 ∧ Cond.privateMethod q.1 ∈ tables_1 ∧ Cond.instanceMethod q.1 ∈ tables_1
theorem lw_p0 : lw_okq (⟨"GameNet$Net", "beginAnew", "(I)V"⟩, 5) := ⟨⟨by decide +kernel, by decide +kernel⟩, List.mem_of_getElem? (i := 17) (by decide +kernel), List.mem_of_getElem? (i := 124) (by decide +kernel), List.mem_of_getElem? (i := 125) (by decide +kernel)⟩
theorem lw_p1 : lw_okq (⟨"GameNet", "forgetMoves", "()V"⟩, 6) := ⟨⟨by decide +kernel, by decide +kernel⟩, List.mem_of_getElem? (i := 9) (by decide +kernel), List.mem_of_getElem? (i := 128) (by decide +kernel), List.mem_of_getElem? (i := 129) (by decide +kernel)⟩
theorem lw_p2 : lw_okq (⟨"GameNet$Moves", "forget", "()V"⟩, 4) := ⟨⟨by decide +kernel, by decide +kernel⟩, List.mem_of_getElem? (i := 45) (by decide +kernel), List.mem_of_getElem? (i := 132) (by decide +kernel), List.mem_of_getElem? (i := 133) (by decide +kernel)⟩
theorem lw_p3 : lw_okq (⟨"GameNet$Survey", "forget", "()V"⟩, 9) := ⟨⟨by decide +kernel, by decide +kernel⟩, List.mem_of_getElem? (i := 65) (by decide +kernel), List.mem_of_getElem? (i := 136) (by decide +kernel), List.mem_of_getElem? (i := 137) (by decide +kernel)⟩
theorem lw_p4 : lw_okq (⟨"GameNet$Net", "mayJoin", "(II)Z"⟩, 5) := ⟨⟨by decide +kernel, by decide +kernel⟩, List.mem_of_getElem? (i := 17) (by decide +kernel), List.mem_of_getElem? (i := 144) (by decide +kernel), List.mem_of_getElem? (i := 145) (by decide +kernel)⟩
theorem lw_p5 : lw_okq (⟨"GameNet$Net", "has", "(I)Z"⟩, 5) := ⟨⟨by decide +kernel, by decide +kernel⟩, List.mem_of_getElem? (i := 17) (by decide +kernel), List.mem_of_getElem? (i := 148) (by decide +kernel), List.mem_of_getElem? (i := 149) (by decide +kernel)⟩
theorem lw_p6 : lw_okq (⟨"GameNet$Net", "weightOf", "(II)I"⟩, 5) := ⟨⟨by decide +kernel, by decide +kernel⟩, List.mem_of_getElem? (i := 17) (by decide +kernel), List.mem_of_getElem? (i := 152) (by decide +kernel), List.mem_of_getElem? (i := 153) (by decide +kernel)⟩
theorem lw_p7 : lw_okq (⟨"GameNet$Net", "setWeight", "(III)V"⟩, 5) := ⟨⟨by decide +kernel, by decide +kernel⟩, List.mem_of_getElem? (i := 17) (by decide +kernel), List.mem_of_getElem? (i := 156) (by decide +kernel), List.mem_of_getElem? (i := 157) (by decide +kernel)⟩
theorem lw_p8 : lw_okq (⟨"GameNet$Net", "payOf", "(II)I"⟩, 5) := ⟨⟨by decide +kernel, by decide +kernel⟩, List.mem_of_getElem? (i := 17) (by decide +kernel), List.mem_of_getElem? (i := 173) (by decide +kernel), List.mem_of_getElem? (i := 174) (by decide +kernel)⟩
theorem lw_p9 : lw_okq (⟨"GameNet$Net", "setPay", "(III)V"⟩, 5) := ⟨⟨by decide +kernel, by decide +kernel⟩, List.mem_of_getElem? (i := 17) (by decide +kernel), List.mem_of_getElem? (i := 177) (by decide +kernel), List.mem_of_getElem? (i := 178) (by decide +kernel)⟩
theorem lw_p10 : lw_okq (⟨"GameNet$Net", "isState", "(I)Z"⟩, 5) := ⟨⟨by decide +kernel, by decide +kernel⟩, List.mem_of_getElem? (i := 17) (by decide +kernel), List.mem_of_getElem? (i := 197) (by decide +kernel), List.mem_of_getElem? (i := 198) (by decide +kernel)⟩
theorem lw_p11 : lw_okq (⟨"GameNet$Net", "states", "()I"⟩, 5) := ⟨⟨by decide +kernel, by decide +kernel⟩, List.mem_of_getElem? (i := 17) (by decide +kernel), List.mem_of_getElem? (i := 201) (by decide +kernel), List.mem_of_getElem? (i := 202) (by decide +kernel)⟩
theorem lw_p12 : lw_okq (⟨"GameNet$Net", "wageOf", "(III)I"⟩, 5) := ⟨⟨by decide +kernel, by decide +kernel⟩, List.mem_of_getElem? (i := 17) (by decide +kernel), List.mem_of_getElem? (i := 210) (by decide +kernel), List.mem_of_getElem? (i := 211) (by decide +kernel)⟩
theorem lw_p13 : lw_okq (⟨"GameNet$Net", "weightsInto", "(II)I"⟩, 5) := ⟨⟨by decide +kernel, by decide +kernel⟩, List.mem_of_getElem? (i := 17) (by decide +kernel), List.mem_of_getElem? (i := 214) (by decide +kernel), List.mem_of_getElem? (i := 215) (by decide +kernel)⟩
theorem lw_p14 : lw_okq (⟨"GameNet$Moves", "next", "(III)I"⟩, 4) := ⟨⟨by decide +kernel, by decide +kernel⟩, List.mem_of_getElem? (i := 45) (by decide +kernel), List.mem_of_getElem? (i := 230) (by decide +kernel), List.mem_of_getElem? (i := 231) (by decide +kernel)⟩
theorem lw_p15 : lw_okq (⟨"GameNet$Moves", "wishOf", "(II)I"⟩, 4) := ⟨⟨by decide +kernel, by decide +kernel⟩, List.mem_of_getElem? (i := 45) (by decide +kernel), List.mem_of_getElem? (i := 234) (by decide +kernel), List.mem_of_getElem? (i := 235) (by decide +kernel)⟩
def lw_privs_1 : List (MethodName × Nat) := [(⟨"GameNet$Net", "beginAnew", "(I)V"⟩, 5), (⟨"GameNet", "forgetMoves", "()V"⟩, 6), (⟨"GameNet$Moves", "forget", "()V"⟩, 4), (⟨"GameNet$Survey", "forget", "()V"⟩, 9), (⟨"GameNet$Net", "mayJoin", "(II)Z"⟩, 5), (⟨"GameNet$Net", "has", "(I)Z"⟩, 5), (⟨"GameNet$Net", "weightOf", "(II)I"⟩, 5), (⟨"GameNet$Net", "setWeight", "(III)V"⟩, 5), (⟨"GameNet$Net", "payOf", "(II)I"⟩, 5), (⟨"GameNet$Net", "setPay", "(III)V"⟩, 5), (⟨"GameNet$Net", "isState", "(I)Z"⟩, 5), (⟨"GameNet$Net", "states", "()I"⟩, 5), (⟨"GameNet$Net", "wageOf", "(III)I"⟩, 5), (⟨"GameNet$Net", "weightsInto", "(II)I"⟩, 5), (⟨"GameNet$Moves", "next", "(III)I"⟩, 4), (⟨"GameNet$Moves", "wishOf", "(II)I"⟩, 4)]
theorem lw_r1 : ∀ q ∈ lw_privs_1, lw_okq q := List.forall_mem_cons.mpr ⟨lw_p0, List.forall_mem_cons.mpr ⟨lw_p1, List.forall_mem_cons.mpr ⟨lw_p2, List.forall_mem_cons.mpr ⟨lw_p3, List.forall_mem_cons.mpr ⟨lw_p4, List.forall_mem_cons.mpr ⟨lw_p5, List.forall_mem_cons.mpr ⟨lw_p6, List.forall_mem_cons.mpr ⟨lw_p7, List.forall_mem_cons.mpr ⟨lw_p8, List.forall_mem_cons.mpr ⟨lw_p9, List.forall_mem_cons.mpr ⟨lw_p10, List.forall_mem_cons.mpr ⟨lw_p11, List.forall_mem_cons.mpr ⟨lw_p12, List.forall_mem_cons.mpr ⟨lw_p13, List.forall_mem_cons.mpr ⟨lw_p14, List.forall_mem_cons.mpr ⟨lw_p15, fun _ h => absurd h List.not_mem_nil⟩⟩⟩⟩⟩⟩⟩⟩⟩⟩⟩⟩⟩⟩⟩⟩
theorem lw_p16 : lw_okq (⟨"GameNet$Moves", "takeIntoUse", "(I)V"⟩, 4) := ⟨⟨by decide +kernel, by decide +kernel⟩, List.mem_of_getElem? (i := 45) (by decide +kernel), List.mem_of_getElem? (i := 238) (by decide +kernel), List.mem_of_getElem? (i := 239) (by decide +kernel)⟩
theorem lw_p17 : lw_okq (⟨"GameNet$Moves", "repliesTo", "(I)I"⟩, 4) := ⟨⟨by decide +kernel, by decide +kernel⟩, List.mem_of_getElem? (i := 45) (by decide +kernel), List.mem_of_getElem? (i := 243) (by decide +kernel), List.mem_of_getElem? (i := 244) (by decide +kernel)⟩
theorem lw_p18 : lw_okq (⟨"GameNet$Moves", "copiesIn", "(I)I"⟩, 4) := ⟨⟨by decide +kernel, by decide +kernel⟩, List.mem_of_getElem? (i := 45) (by decide +kernel), List.mem_of_getElem? (i := 249) (by decide +kernel), List.mem_of_getElem? (i := 250) (by decide +kernel)⟩
theorem lw_p19 : lw_okq (⟨"GameNet$Moves", "bestBeside", "(I)I"⟩, 4) := ⟨⟨by decide +kernel, by decide +kernel⟩, List.mem_of_getElem? (i := 45) (by decide +kernel), List.mem_of_getElem? (i := 253) (by decide +kernel), List.mem_of_getElem? (i := 254) (by decide +kernel)⟩
theorem lw_p20 : lw_okq (⟨"GameNet$Moves", "overBarIn", "(I)I"⟩, 4) := ⟨⟨by decide +kernel, by decide +kernel⟩, List.mem_of_getElem? (i := 45) (by decide +kernel), List.mem_of_getElem? (i := 258) (by decide +kernel), List.mem_of_getElem? (i := 259) (by decide +kernel)⟩
theorem lw_p21 : lw_okq (⟨"GameNet$Net", "reaches", "(III)Z"⟩, 5) := ⟨⟨by decide +kernel, by decide +kernel⟩, List.mem_of_getElem? (i := 17) (by decide +kernel), List.mem_of_getElem? (i := 262) (by decide +kernel), List.mem_of_getElem? (i := 263) (by decide +kernel)⟩
theorem lw_p22 : lw_okq (⟨"GameNet$Survey", "goThrough", "(III)V"⟩, 9) := ⟨⟨by decide +kernel, by decide +kernel⟩, List.mem_of_getElem? (i := 65) (by decide +kernel), List.mem_of_getElem? (i := 274) (by decide +kernel), List.mem_of_getElem? (i := 275) (by decide +kernel)⟩
theorem lw_p23 : lw_okq (⟨"GameNet$Survey", "isBeginning", "(I)Z"⟩, 9) := ⟨⟨by decide +kernel, by decide +kernel⟩, List.mem_of_getElem? (i := 65) (by decide +kernel), List.mem_of_getElem? (i := 279) (by decide +kernel), List.mem_of_getElem? (i := 280) (by decide +kernel)⟩
theorem lw_p24 : lw_okq (⟨"GameNet$Survey", "follow", "(I)V"⟩, 9) := ⟨⟨by decide +kernel, by decide +kernel⟩, List.mem_of_getElem? (i := 65) (by decide +kernel), List.mem_of_getElem? (i := 284) (by decide +kernel), List.mem_of_getElem? (i := 285) (by decide +kernel)⟩
theorem lw_p25 : lw_okq (⟨"GameNet$Survey", "closeRing", "(I)V"⟩, 9) := ⟨⟨by decide +kernel, by decide +kernel⟩, List.mem_of_getElem? (i := 65) (by decide +kernel), List.mem_of_getElem? (i := 288) (by decide +kernel), List.mem_of_getElem? (i := 289) (by decide +kernel)⟩
theorem lw_p26 : lw_okq (⟨"GameNet$Survey", "closeTail", "(I)V"⟩, 9) := ⟨⟨by decide +kernel, by decide +kernel⟩, List.mem_of_getElem? (i := 65) (by decide +kernel), List.mem_of_getElem? (i := 295) (by decide +kernel), List.mem_of_getElem? (i := 296) (by decide +kernel)⟩
theorem lw_p27 : lw_okq (⟨"GameNet$Survey", "ringLength", "(I)I"⟩, 9) := ⟨⟨by decide +kernel, by decide +kernel⟩, List.mem_of_getElem? (i := 65) (by decide +kernel), List.mem_of_getElem? (i := 299) (by decide +kernel), List.mem_of_getElem? (i := 300) (by decide +kernel)⟩
theorem lw_p28 : lw_okq (⟨"GameNet$Survey", "firstOfRing", "(I)I"⟩, 9) := ⟨⟨by decide +kernel, by decide +kernel⟩, List.mem_of_getElem? (i := 65) (by decide +kernel), List.mem_of_getElem? (i := 303) (by decide +kernel), List.mem_of_getElem? (i := 304) (by decide +kernel)⟩
theorem lw_p29 : lw_okq (⟨"GameNet$Survey", "howManyEnds", "()I"⟩, 9) := ⟨⟨by decide +kernel, by decide +kernel⟩, List.mem_of_getElem? (i := 65) (by decide +kernel), List.mem_of_getElem? (i := 311) (by decide +kernel), List.mem_of_getElem? (i := 312) (by decide +kernel)⟩
theorem lw_p30 : lw_okq (⟨"GameNet$Survey", "endAt", "(I)I"⟩, 9) := ⟨⟨by decide +kernel, by decide +kernel⟩, List.mem_of_getElem? (i := 65) (by decide +kernel), List.mem_of_getElem? (i := 315) (by decide +kernel), List.mem_of_getElem? (i := 316) (by decide +kernel)⟩
theorem lw_p31 : lw_okq (⟨"GameNet$Survey", "howManyComeTo", "(I)I"⟩, 9) := ⟨⟨by decide +kernel, by decide +kernel⟩, List.mem_of_getElem? (i := 65) (by decide +kernel), List.mem_of_getElem? (i := 323) (by decide +kernel), List.mem_of_getElem? (i := 324) (by decide +kernel)⟩
def lw_privs_2 : List (MethodName × Nat) := [(⟨"GameNet$Moves", "takeIntoUse", "(I)V"⟩, 4), (⟨"GameNet$Moves", "repliesTo", "(I)I"⟩, 4), (⟨"GameNet$Moves", "copiesIn", "(I)I"⟩, 4), (⟨"GameNet$Moves", "bestBeside", "(I)I"⟩, 4), (⟨"GameNet$Moves", "overBarIn", "(I)I"⟩, 4), (⟨"GameNet$Net", "reaches", "(III)Z"⟩, 5), (⟨"GameNet$Survey", "goThrough", "(III)V"⟩, 9), (⟨"GameNet$Survey", "isBeginning", "(I)Z"⟩, 9), (⟨"GameNet$Survey", "follow", "(I)V"⟩, 9), (⟨"GameNet$Survey", "closeRing", "(I)V"⟩, 9), (⟨"GameNet$Survey", "closeTail", "(I)V"⟩, 9), (⟨"GameNet$Survey", "ringLength", "(I)I"⟩, 9), (⟨"GameNet$Survey", "firstOfRing", "(I)I"⟩, 9), (⟨"GameNet$Survey", "howManyEnds", "()I"⟩, 9), (⟨"GameNet$Survey", "endAt", "(I)I"⟩, 9), (⟨"GameNet$Survey", "howManyComeTo", "(I)I"⟩, 9)]
theorem lw_r2 : ∀ q ∈ lw_privs_2, lw_okq q := List.forall_mem_cons.mpr ⟨lw_p16, List.forall_mem_cons.mpr ⟨lw_p17, List.forall_mem_cons.mpr ⟨lw_p18, List.forall_mem_cons.mpr ⟨lw_p19, List.forall_mem_cons.mpr ⟨lw_p20, List.forall_mem_cons.mpr ⟨lw_p21, List.forall_mem_cons.mpr ⟨lw_p22, List.forall_mem_cons.mpr ⟨lw_p23, List.forall_mem_cons.mpr ⟨lw_p24, List.forall_mem_cons.mpr ⟨lw_p25, List.forall_mem_cons.mpr ⟨lw_p26, List.forall_mem_cons.mpr ⟨lw_p27, List.forall_mem_cons.mpr ⟨lw_p28, List.forall_mem_cons.mpr ⟨lw_p29, List.forall_mem_cons.mpr ⟨lw_p30, List.forall_mem_cons.mpr ⟨lw_p31, fun _ h => absurd h List.not_mem_nil⟩⟩⟩⟩⟩⟩⟩⟩⟩⟩⟩⟩⟩⟩⟩⟩
theorem lw_p32 : lw_okq (⟨"GameNet$Survey", "greatestTail", "(I)I"⟩, 9) := ⟨⟨by decide +kernel, by decide +kernel⟩, List.mem_of_getElem? (i := 65) (by decide +kernel), List.mem_of_getElem? (i := 327) (by decide +kernel), List.mem_of_getElem? (i := 328) (by decide +kernel)⟩
theorem lw_p33 : lw_okq (⟨"GameNet", "clearMarks", "()V"⟩, 6) := ⟨⟨by decide +kernel, by decide +kernel⟩, List.mem_of_getElem? (i := 9) (by decide +kernel), List.mem_of_getElem? (i := 338) (by decide +kernel), List.mem_of_getElem? (i := 339) (by decide +kernel)⟩
theorem lw_p34 : lw_okq (⟨"GameNet", "isBeginning", "(I)Z"⟩, 6) := ⟨⟨by decide +kernel, by decide +kernel⟩, List.mem_of_getElem? (i := 9) (by decide +kernel), List.mem_of_getElem? (i := 343) (by decide +kernel), List.mem_of_getElem? (i := 344) (by decide +kernel)⟩
theorem lw_p35 : lw_okq (⟨"GameNet$Net", "riseOf", "(I)I"⟩, 5) := ⟨⟨by decide +kernel, by decide +kernel⟩, List.mem_of_getElem? (i := 17) (by decide +kernel), List.mem_of_getElem? (i := 355) (by decide +kernel), List.mem_of_getElem? (i := 356) (by decide +kernel)⟩
theorem lw_p36 : lw_okq (⟨"GameNet$Net", "gainOfOne", "()I"⟩, 5) := ⟨⟨by decide +kernel, by decide +kernel⟩, List.mem_of_getElem? (i := 17) (by decide +kernel), List.mem_of_getElem? (i := 360) (by decide +kernel), List.mem_of_getElem? (i := 361) (by decide +kernel)⟩
theorem lw_p37 : lw_okq (⟨"GameNet$Net", "gainOfZero", "()I"⟩, 5) := ⟨⟨by decide +kernel, by decide +kernel⟩, List.mem_of_getElem? (i := 17) (by decide +kernel), List.mem_of_getElem? (i := 364) (by decide +kernel), List.mem_of_getElem? (i := 365) (by decide +kernel)⟩
theorem lw_p38 : lw_okq (⟨"GameNet", "isAtRest", "(I)Z"⟩, 6) := ⟨⟨by decide +kernel, by decide +kernel⟩, List.mem_of_getElem? (i := 9) (by decide +kernel), List.mem_of_getElem? (i := 376) (by decide +kernel), List.mem_of_getElem? (i := 377) (by decide +kernel)⟩
theorem lw_p39 : lw_okq (⟨"GameNet", "tipsAll", "(II)Z"⟩, 6) := ⟨⟨by decide +kernel, by decide +kernel⟩, List.mem_of_getElem? (i := 9) (by decide +kernel), List.mem_of_getElem? (i := 394) (by decide +kernel), List.mem_of_getElem? (i := 395) (by decide +kernel)⟩
theorem lw_p40 : lw_okq (⟨"GameNet$Net", "howManyLines", "()I"⟩, 5) := ⟨⟨by decide +kernel, by decide +kernel⟩, List.mem_of_getElem? (i := 17) (by decide +kernel), List.mem_of_getElem? (i := 416) (by decide +kernel), List.mem_of_getElem? (i := 417) (by decide +kernel)⟩
theorem lw_p41 : lw_okq (⟨"GameNet", "toldPay", "(I)I"⟩, 6) := ⟨⟨by decide +kernel, by decide +kernel⟩, List.mem_of_getElem? (i := 9) (by decide +kernel), List.mem_of_getElem? (i := 420) (by decide +kernel), List.mem_of_getElem? (i := 421) (by decide +kernel)⟩
theorem lw_p42 : lw_okq (⟨"GameNetModel", "arePair", "(II)Z"⟩, 9) := ⟨⟨by decide +kernel, by decide +kernel⟩, List.mem_of_getElem? (i := 424) (by decide +kernel), List.mem_of_getElem? (i := 469) (by decide +kernel), List.mem_of_getElem? (i := 470) (by decide +kernel)⟩
theorem lw_p43 : lw_okq (⟨"GameNetModel", "isOne", "(I)Z"⟩, 9) := ⟨⟨by decide +kernel, by decide +kernel⟩, List.mem_of_getElem? (i := 424) (by decide +kernel), List.mem_of_getElem? (i := 473) (by decide +kernel), List.mem_of_getElem? (i := 474) (by decide +kernel)⟩
theorem lw_p44 : lw_okq (⟨"GameNetModel", "isState", "(I)Z"⟩, 9) := ⟨⟨by decide +kernel, by decide +kernel⟩, List.mem_of_getElem? (i := 424) (by decide +kernel), List.mem_of_getElem? (i := 498) (by decide +kernel), List.mem_of_getElem? (i := 499) (by decide +kernel)⟩
theorem lw_p45 : lw_okq (⟨"GameNetModel", "states", "()I"⟩, 9) := ⟨⟨by decide +kernel, by decide +kernel⟩, List.mem_of_getElem? (i := 424) (by decide +kernel), List.mem_of_getElem? (i := 502) (by decide +kernel), List.mem_of_getElem? (i := 503) (by decide +kernel)⟩
theorem lw_p46 : lw_okq (⟨"GameNetModel", "wageOf", "(III)I"⟩, 9) := ⟨⟨by decide +kernel, by decide +kernel⟩, List.mem_of_getElem? (i := 424) (by decide +kernel), List.mem_of_getElem? (i := 511) (by decide +kernel), List.mem_of_getElem? (i := 512) (by decide +kernel)⟩
theorem lw_p47 : lw_okq (⟨"GameNetModel", "next", "(III)I"⟩, 9) := ⟨⟨by decide +kernel, by decide +kernel⟩, List.mem_of_getElem? (i := 424) (by decide +kernel), List.mem_of_getElem? (i := 526) (by decide +kernel), List.mem_of_getElem? (i := 527) (by decide +kernel)⟩
def lw_privs_3 : List (MethodName × Nat) := [(⟨"GameNet$Survey", "greatestTail", "(I)I"⟩, 9), (⟨"GameNet", "clearMarks", "()V"⟩, 6), (⟨"GameNet", "isBeginning", "(I)Z"⟩, 6), (⟨"GameNet$Net", "riseOf", "(I)I"⟩, 5), (⟨"GameNet$Net", "gainOfOne", "()I"⟩, 5), (⟨"GameNet$Net", "gainOfZero", "()I"⟩, 5), (⟨"GameNet", "isAtRest", "(I)Z"⟩, 6), (⟨"GameNet", "tipsAll", "(II)Z"⟩, 6), (⟨"GameNet$Net", "howManyLines", "()I"⟩, 5), (⟨"GameNet", "toldPay", "(I)I"⟩, 6), (⟨"GameNetModel", "arePair", "(II)Z"⟩, 9), (⟨"GameNetModel", "isOne", "(I)Z"⟩, 9), (⟨"GameNetModel", "isState", "(I)Z"⟩, 9), (⟨"GameNetModel", "states", "()I"⟩, 9), (⟨"GameNetModel", "wageOf", "(III)I"⟩, 9), (⟨"GameNetModel", "next", "(III)I"⟩, 9)]
theorem lw_r3 : ∀ q ∈ lw_privs_3, lw_okq q := List.forall_mem_cons.mpr ⟨lw_p32, List.forall_mem_cons.mpr ⟨lw_p33, List.forall_mem_cons.mpr ⟨lw_p34, List.forall_mem_cons.mpr ⟨lw_p35, List.forall_mem_cons.mpr ⟨lw_p36, List.forall_mem_cons.mpr ⟨lw_p37, List.forall_mem_cons.mpr ⟨lw_p38, List.forall_mem_cons.mpr ⟨lw_p39, List.forall_mem_cons.mpr ⟨lw_p40, List.forall_mem_cons.mpr ⟨lw_p41, List.forall_mem_cons.mpr ⟨lw_p42, List.forall_mem_cons.mpr ⟨lw_p43, List.forall_mem_cons.mpr ⟨lw_p44, List.forall_mem_cons.mpr ⟨lw_p45, List.forall_mem_cons.mpr ⟨lw_p46, List.forall_mem_cons.mpr ⟨lw_p47, fun _ h => absurd h List.not_mem_nil⟩⟩⟩⟩⟩⟩⟩⟩⟩⟩⟩⟩⟩⟩⟩⟩
theorem lw_p48 : lw_okq (⟨"GameNetModel", "wayBehind", "(III)I"⟩, 9) := ⟨⟨by decide +kernel, by decide +kernel⟩, List.mem_of_getElem? (i := 424) (by decide +kernel), List.mem_of_getElem? (i := 530) (by decide +kernel), List.mem_of_getElem? (i := 531) (by decide +kernel)⟩
theorem lw_p49 : lw_okq (⟨"GameNetModel", "copied", "(II)I"⟩, 9) := ⟨⟨by decide +kernel, by decide +kernel⟩, List.mem_of_getElem? (i := 424) (by decide +kernel), List.mem_of_getElem? (i := 534) (by decide +kernel), List.mem_of_getElem? (i := 535) (by decide +kernel)⟩
theorem lw_p50 : lw_okq (⟨"GameNetModel", "tipped", "(II)I"⟩, 9) := ⟨⟨by decide +kernel, by decide +kernel⟩, List.mem_of_getElem? (i := 424) (by decide +kernel), List.mem_of_getElem? (i := 538) (by decide +kernel), List.mem_of_getElem? (i := 539) (by decide +kernel)⟩
theorem lw_p51 : lw_okq (⟨"GameNetModel", "gains", "(II)Z"⟩, 9) := ⟨⟨by decide +kernel, by decide +kernel⟩, List.mem_of_getElem? (i := 424) (by decide +kernel), List.mem_of_getElem? (i := 542) (by decide +kernel), List.mem_of_getElem? (i := 543) (by decide +kernel)⟩
theorem lw_p52 : lw_okq (⟨"GameNetModel", "layBehind", "(I)V"⟩, 9) := ⟨⟨by decide +kernel, by decide +kernel⟩, List.mem_of_getElem? (i := 424) (by decide +kernel), List.mem_of_getElem? (i := 554) (by decide +kernel), List.mem_of_getElem? (i := 555) (by decide +kernel)⟩
theorem lw_p53 : lw_okq (⟨"GameNetModel", "isBeginning", "(I)Z"⟩, 9) := ⟨⟨by decide +kernel, by decide +kernel⟩, List.mem_of_getElem? (i := 424) (by decide +kernel), List.mem_of_getElem? (i := 558) (by decide +kernel), List.mem_of_getElem? (i := 559) (by decide +kernel)⟩
theorem lw_p54 : lw_okq (⟨"GameNetModel", "inRing", "(I)I"⟩, 9) := ⟨⟨by decide +kernel, by decide +kernel⟩, List.mem_of_getElem? (i := 424) (by decide +kernel), List.mem_of_getElem? (i := 562) (by decide +kernel), List.mem_of_getElem? (i := 563) (by decide +kernel)⟩
theorem lw_p55 : lw_okq (⟨"GameNetModel", "isOn", "(II)Z"⟩, 9) := ⟨⟨by decide +kernel, by decide +kernel⟩, List.mem_of_getElem? (i := 424) (by decide +kernel), List.mem_of_getElem? (i := 566) (by decide +kernel), List.mem_of_getElem? (i := 567) (by decide +kernel)⟩
theorem lw_p56 : lw_okq (⟨"GameNetModel", "ringOf", "(I)I"⟩, 9) := ⟨⟨by decide +kernel, by decide +kernel⟩, List.mem_of_getElem? (i := 424) (by decide +kernel), List.mem_of_getElem? (i := 570) (by decide +kernel), List.mem_of_getElem? (i := 571) (by decide +kernel)⟩
theorem lw_p57 : lw_okq (⟨"GameNetModel", "leastOf", "(I)I"⟩, 9) := ⟨⟨by decide +kernel, by decide +kernel⟩, List.mem_of_getElem? (i := 424) (by decide +kernel), List.mem_of_getElem? (i := 574) (by decide +kernel), List.mem_of_getElem? (i := 575) (by decide +kernel)⟩
theorem lw_p58 : lw_okq (⟨"GameNetModel", "layEnds", "(I)V"⟩, 9) := ⟨⟨by decide +kernel, by decide +kernel⟩, List.mem_of_getElem? (i := 424) (by decide +kernel), List.mem_of_getElem? (i := 582) (by decide +kernel), List.mem_of_getElem? (i := 583) (by decide +kernel)⟩
theorem lw_p59 : lw_okq (⟨"GameNetModel", "endAt", "(I)I"⟩, 9) := ⟨⟨by decide +kernel, by decide +kernel⟩, List.mem_of_getElem? (i := 424) (by decide +kernel), List.mem_of_getElem? (i := 586) (by decide +kernel), List.mem_of_getElem? (i := 587) (by decide +kernel)⟩
theorem lw_p60 : lw_okq (⟨"GameNetModel", "riseOf", "(I)I"⟩, 9) := ⟨⟨by decide +kernel, by decide +kernel⟩, List.mem_of_getElem? (i := 424) (by decide +kernel), List.mem_of_getElem? (i := 606) (by decide +kernel), List.mem_of_getElem? (i := 607) (by decide +kernel)⟩
theorem lw_p61 : lw_okq (⟨"GameNetModel", "restsIn", "(I)Z"⟩, 9) := ⟨⟨by decide +kernel, by decide +kernel⟩, List.mem_of_getElem? (i := 424) (by decide +kernel), List.mem_of_getElem? (i := 618) (by decide +kernel), List.mem_of_getElem? (i := 619) (by decide +kernel)⟩
theorem lw_p62 : lw_okq (⟨"GameNetModel", "bits", "(I)I"⟩, 9) := ⟨⟨by decide +kernel, by decide +kernel⟩, List.mem_of_getElem? (i := 424) (by decide +kernel), List.mem_of_getElem? (i := 630) (by decide +kernel), List.mem_of_getElem? (i := 631) (by decide +kernel)⟩
theorem lw_p63 : lw_okq (⟨"GameNetModel", "tips", "(II)Z"⟩, 9) := ⟨⟨by decide +kernel, by decide +kernel⟩, List.mem_of_getElem? (i := 424) (by decide +kernel), List.mem_of_getElem? (i := 634) (by decide +kernel), List.mem_of_getElem? (i := 635) (by decide +kernel)⟩
def lw_privs_4 : List (MethodName × Nat) := [(⟨"GameNetModel", "wayBehind", "(III)I"⟩, 9), (⟨"GameNetModel", "copied", "(II)I"⟩, 9), (⟨"GameNetModel", "tipped", "(II)I"⟩, 9), (⟨"GameNetModel", "gains", "(II)Z"⟩, 9), (⟨"GameNetModel", "layBehind", "(I)V"⟩, 9), (⟨"GameNetModel", "isBeginning", "(I)Z"⟩, 9), (⟨"GameNetModel", "inRing", "(I)I"⟩, 9), (⟨"GameNetModel", "isOn", "(II)Z"⟩, 9), (⟨"GameNetModel", "ringOf", "(I)I"⟩, 9), (⟨"GameNetModel", "leastOf", "(I)I"⟩, 9), (⟨"GameNetModel", "layEnds", "(I)V"⟩, 9), (⟨"GameNetModel", "endAt", "(I)I"⟩, 9), (⟨"GameNetModel", "riseOf", "(I)I"⟩, 9), (⟨"GameNetModel", "restsIn", "(I)Z"⟩, 9), (⟨"GameNetModel", "bits", "(I)I"⟩, 9), (⟨"GameNetModel", "tips", "(II)Z"⟩, 9)]
theorem lw_r4 : ∀ q ∈ lw_privs_4, lw_okq q := List.forall_mem_cons.mpr ⟨lw_p48, List.forall_mem_cons.mpr ⟨lw_p49, List.forall_mem_cons.mpr ⟨lw_p50, List.forall_mem_cons.mpr ⟨lw_p51, List.forall_mem_cons.mpr ⟨lw_p52, List.forall_mem_cons.mpr ⟨lw_p53, List.forall_mem_cons.mpr ⟨lw_p54, List.forall_mem_cons.mpr ⟨lw_p55, List.forall_mem_cons.mpr ⟨lw_p56, List.forall_mem_cons.mpr ⟨lw_p57, List.forall_mem_cons.mpr ⟨lw_p58, List.forall_mem_cons.mpr ⟨lw_p59, List.forall_mem_cons.mpr ⟨lw_p60, List.forall_mem_cons.mpr ⟨lw_p61, List.forall_mem_cons.mpr ⟨lw_p62, List.forall_mem_cons.mpr ⟨lw_p63, fun _ h => absurd h List.not_mem_nil⟩⟩⟩⟩⟩⟩⟩⟩⟩⟩⟩⟩⟩⟩⟩⟩
theorem lw_p64 : lw_okq (⟨"GameNetModel", "lines", "()I"⟩, 9) := ⟨⟨by decide +kernel, by decide +kernel⟩, List.mem_of_getElem? (i := 424) (by decide +kernel), List.mem_of_getElem? (i := 653) (by decide +kernel), List.mem_of_getElem? (i := 654) (by decide +kernel)⟩
def lw_privs_5 : List (MethodName × Nat) := [(⟨"GameNetModel", "lines", "()I"⟩, 9)]
theorem lw_r5 : ∀ q ∈ lw_privs_5, lw_okq q := List.forall_mem_cons.mpr ⟨lw_p64, fun _ h => absurd h List.not_mem_nil⟩
def lw_privs : List (MethodName × Nat) := lw_privs_1 ++ (lw_privs_2 ++ (lw_privs_3 ++ (lw_privs_4 ++ (lw_privs_5))))
def lw_tbl : List Cond := k2_sels lw_privs ++ tables_1
theorem lw_privs_ok : ∀ q ∈ lw_privs, lw_okq q := by
  show ∀ q ∈ lw_privs_1 ++ (lw_privs_2 ++ (lw_privs_3 ++ (lw_privs_4 ++ (lw_privs_5)))), lw_okq q
  exact List.forall_mem_append.mpr ⟨lw_r1, List.forall_mem_append.mpr ⟨lw_r2, List.forall_mem_append.mpr ⟨lw_r3, List.forall_mem_append.mpr ⟨lw_r4, lw_r5⟩⟩⟩⟩
def RX0 : String := "GameNet$Moves"
def RX1 : String := "GameNet$Net"
def RX2 : String := "GameNet$Survey"
def RX3 : String := "GameNet"
def RX4 : String := "GameNetModel"
def RJ6 : String := "java/lang/Integer"
def RJ9 : String := "java/lang/Math"
def RL : String := "GameNetLaw"
def TX0 : u_T := fun k => match k with
  | 0 => ("GameNet$Moves", "net", "LGameNet$Net;", true)
  | 1 => ("GameNet$Moves", "wishes", "[I", true)
  | 2 => ("GameNet$Moves", "inUse", "[Z", true)
  | _ => ("GameNet$Moves", "wages", "[I", true)
def tyX0 : Nat → FieldType := fun k => match k with
  | 0 => .object "GameNet$Net"
  | 1 => .array .int
  | 2 => .array .boolean
  | _ => .array .int
theorem nmX0 : ∀ a, a < 4 → ∀ b, b < 4 → a ≠ b → (TX0 a).2.1 ≠ (TX0 b).2.1 := by decide +kernel
theorem tyX0_ok : ∀ k, k < 4 → parseFieldDescriptor (TX0 k).2.2.1 = some (tyX0 k) := by decide +kernel
def TX1 : u_T := fun k => match k with
  | 0 => ("GameNet$Net", "weights", "[I", true)
  | 1 => ("GameNet$Net", "allWeights", "[I", true)
  | 2 => ("GameNet$Net", "pays", "[I", true)
  | 3 => ("GameNet$Net", "players", "I", false)
  | _ => ("GameNet$Net", "bar", "I", false)
def tyX1 : Nat → FieldType := fun k => match k with
  | 0 => .array .int
  | 1 => .array .int
  | 2 => .array .int
  | 3 => .int
  | _ => .int
theorem nmX1 : ∀ a, a < 5 → ∀ b, b < 5 → a ≠ b → (TX1 a).2.1 ≠ (TX1 b).2.1 := by decide +kernel
theorem tyX1_ok : ∀ k, k < 5 → parseFieldDescriptor (TX1 k).2.2.1 = some (tyX1 k) := by decide +kernel
def TX2 : u_T := fun k => match k with
  | 0 => ("GameNet$Survey", "net", "LGameNet$Net;", true)
  | 1 => ("GameNet$Survey", "moves", "LGameNet$Moves;", true)
  | 2 => ("GameNet$Survey", "behind", "[I", true)
  | 3 => ("GameNet$Survey", "ends", "[I", true)
  | 4 => ("GameNet$Survey", "tails", "[I", true)
  | 5 => ("GameNet$Survey", "stands", "Z", false)
  | 6 => ("GameNet$Survey", "rule", "I", false)
  | 7 => ("GameNet$Survey", "held", "I", false)
  | _ => ("GameNet$Survey", "heldWays", "I", false)
def tyX2 : Nat → FieldType := fun k => match k with
  | 0 => .object "GameNet$Net"
  | 1 => .object "GameNet$Moves"
  | 2 => .array .int
  | 3 => .array .int
  | 4 => .array .int
  | 5 => .boolean
  | 6 => .int
  | 7 => .int
  | _ => .int
theorem nmX2 : ∀ a, a < 9 → ∀ b, b < 9 → a ≠ b → (TX2 a).2.1 ≠ (TX2 b).2.1 := by decide +kernel
theorem tyX2_ok : ∀ k, k < 9 → parseFieldDescriptor (TX2 k).2.2.1 = some (tyX2 k) := by decide +kernel
def TX3 : u_T := fun k => match k with
  | 0 => ("GameNet", "net", "LGameNet$Net;", true)
  | 1 => ("GameNet", "moves", "LGameNet$Moves;", true)
  | 2 => ("GameNet", "survey", "LGameNet$Survey;", true)
  | 3 => ("GameNet", "marks", "[I", true)
  | 4 => ("GameNet", "held", "I", false)
  | _ => ("GameNet", "now", "I", false)
def tyX3 : Nat → FieldType := fun k => match k with
  | 0 => .object "GameNet$Net"
  | 1 => .object "GameNet$Moves"
  | 2 => .object "GameNet$Survey"
  | 3 => .array .int
  | 4 => .int
  | _ => .int
theorem nmX3 : ∀ a, a < 6 → ∀ b, b < 6 → a ≠ b → (TX3 a).2.1 ≠ (TX3 b).2.1 := by decide +kernel
theorem tyX3_ok : ∀ k, k < 6 → parseFieldDescriptor (TX3 k).2.2.1 = some (tyX3 k) := by decide +kernel
def TX4 : u_T := fun k => match k with
  | 0 => ("GameNetModel", "n", "I", false)
  | 1 => ("GameNetModel", "weight", "[I", true)
  | 2 => ("GameNetModel", "pay", "[I", true)
  | 3 => ("GameNetModel", "bar", "I", false)
  | 4 => ("GameNetModel", "held", "I", false)
  | 5 => ("GameNetModel", "state", "I", false)
  | 6 => ("GameNetModel", "behind", "[I", true)
  | 7 => ("GameNetModel", "endOf", "[I", true)
  | _ => ("GameNetModel", "tail", "[I", true)
def tyX4 : Nat → FieldType := fun k => match k with
  | 0 => .int
  | 1 => .array .int
  | 2 => .array .int
  | 3 => .int
  | 4 => .int
  | 5 => .int
  | 6 => .array .int
  | 7 => .array .int
  | _ => .array .int
theorem nmX4 : ∀ a, a < 9 → ∀ b, b < 9 → a ≠ b → (TX4 a).2.1 ≠ (TX4 b).2.1 := by decide +kernel
theorem tyX4_ok : ∀ k, k < 9 → parseFieldDescriptor (TX4 k).2.2.1 = some (tyX4 k) := by decide +kernel
abbrev cX0_init : ByteArray := prog_2_method_1_code
def yX0_init : MethodName := ⟨RX0, "<init>", "(LGameNet$Net;)V"⟩
abbrev cX0_forget : ByteArray := prog_2_method_2_code
def yX0_forget : MethodName := ⟨RX0, "forget", "()V"⟩
abbrev cX0_next : ByteArray := prog_2_method_3_code
def yX0_next : MethodName := ⟨RX0, "next", "(III)I"⟩
abbrev cX0_wishOf : ByteArray := prog_2_method_4_code
def yX0_wishOf : MethodName := ⟨RX0, "wishOf", "(II)I"⟩
abbrev cX0_takeIntoUse : ByteArray := prog_2_method_5_code
def yX0_takeIntoUse : MethodName := ⟨RX0, "takeIntoUse", "(I)V"⟩
abbrev cX0_repliesTo : ByteArray := prog_2_method_6_code
def yX0_repliesTo : MethodName := ⟨RX0, "repliesTo", "(I)I"⟩
abbrev cX0_copiesIn : ByteArray := prog_2_method_7_code
def yX0_copiesIn : MethodName := ⟨RX0, "copiesIn", "(I)I"⟩
abbrev cX0_bestBeside : ByteArray := prog_2_method_8_code
def yX0_bestBeside : MethodName := ⟨RX0, "bestBeside", "(I)I"⟩
abbrev cX0_overBarIn : ByteArray := prog_2_method_9_code
def yX0_overBarIn : MethodName := ⟨RX0, "overBarIn", "(I)I"⟩
abbrev cX1_init : ByteArray := prog_3_method_1_code
def yX1_init : MethodName := ⟨RX1, "<init>", "()V"⟩
abbrev cX1_beginAnew : ByteArray := prog_3_method_2_code
def yX1_beginAnew : MethodName := ⟨RX1, "beginAnew", "(I)V"⟩
abbrev cX1_states : ByteArray := prog_3_method_3_code
def yX1_states : MethodName := ⟨RX1, "states", "()I"⟩
abbrev cX1_has : ByteArray := prog_3_method_4_code
def yX1_has : MethodName := ⟨RX1, "has", "(I)Z"⟩
abbrev cX1_mayJoin : ByteArray := prog_3_method_5_code
def yX1_mayJoin : MethodName := ⟨RX1, "mayJoin", "(II)Z"⟩
abbrev cX1_isState : ByteArray := prog_3_method_6_code
def yX1_isState : MethodName := ⟨RX1, "isState", "(I)Z"⟩
abbrev cX1_weightOf : ByteArray := prog_3_method_7_code
def yX1_weightOf : MethodName := ⟨RX1, "weightOf", "(II)I"⟩
abbrev cX1_setWeight : ByteArray := prog_3_method_8_code
def yX1_setWeight : MethodName := ⟨RX1, "setWeight", "(III)V"⟩
abbrev cX1_payOf : ByteArray := prog_3_method_9_code
def yX1_payOf : MethodName := ⟨RX1, "payOf", "(II)I"⟩
abbrev cX1_setPay : ByteArray := prog_3_method_10_code
def yX1_setPay : MethodName := ⟨RX1, "setPay", "(III)V"⟩
abbrev cX1_howManyLines : ByteArray := prog_3_method_11_code
def yX1_howManyLines : MethodName := ⟨RX1, "howManyLines", "()I"⟩
abbrev cX1_weightsInto : ByteArray := prog_3_method_12_code
def yX1_weightsInto : MethodName := ⟨RX1, "weightsInto", "(II)I"⟩
abbrev cX1_wageOf : ByteArray := prog_3_method_13_code
def yX1_wageOf : MethodName := ⟨RX1, "wageOf", "(III)I"⟩
abbrev cX1_reaches : ByteArray := prog_3_method_14_code
def yX1_reaches : MethodName := ⟨RX1, "reaches", "(III)Z"⟩
abbrev cX1_gainOfZero : ByteArray := prog_3_method_15_code
def yX1_gainOfZero : MethodName := ⟨RX1, "gainOfZero", "()I"⟩
abbrev cX1_gainOfOne : ByteArray := prog_3_method_16_code
def yX1_gainOfOne : MethodName := ⟨RX1, "gainOfOne", "()I"⟩
abbrev cX1_riseOf : ByteArray := prog_3_method_17_code
def yX1_riseOf : MethodName := ⟨RX1, "riseOf", "(I)I"⟩
abbrev cX2_init : ByteArray := prog_4_method_1_code
def yX2_init : MethodName := ⟨RX2, "<init>", "(LGameNet$Net;LGameNet$Moves;)V"⟩
abbrev cX2_forget : ByteArray := prog_4_method_2_code
def yX2_forget : MethodName := ⟨RX2, "forget", "()V"⟩
abbrev cX2_goThrough : ByteArray := prog_4_method_3_code
def yX2_goThrough : MethodName := ⟨RX2, "goThrough", "(III)V"⟩
abbrev cX2_isBeginning : ByteArray := prog_4_method_4_code
def yX2_isBeginning : MethodName := ⟨RX2, "isBeginning", "(I)Z"⟩
abbrev cX2_follow : ByteArray := prog_4_method_5_code
def yX2_follow : MethodName := ⟨RX2, "follow", "(I)V"⟩
abbrev cX2_closeRing : ByteArray := prog_4_method_6_code
def yX2_closeRing : MethodName := ⟨RX2, "closeRing", "(I)V"⟩
abbrev cX2_closeTail : ByteArray := prog_4_method_7_code
def yX2_closeTail : MethodName := ⟨RX2, "closeTail", "(I)V"⟩
abbrev cX2_howManyEnds : ByteArray := prog_4_method_8_code
def yX2_howManyEnds : MethodName := ⟨RX2, "howManyEnds", "()I"⟩
abbrev cX2_endAt : ByteArray := prog_4_method_9_code
def yX2_endAt : MethodName := ⟨RX2, "endAt", "(I)I"⟩
abbrev cX2_howManyComeTo : ByteArray := prog_4_method_10_code
def yX2_howManyComeTo : MethodName := ⟨RX2, "howManyComeTo", "(I)I"⟩
abbrev cX2_ringLength : ByteArray := prog_4_method_11_code
def yX2_ringLength : MethodName := ⟨RX2, "ringLength", "(I)I"⟩
abbrev cX2_greatestTail : ByteArray := prog_4_method_12_code
def yX2_greatestTail : MethodName := ⟨RX2, "greatestTail", "(I)I"⟩
abbrev cX2_firstOfRing : ByteArray := prog_4_method_13_code
def yX2_firstOfRing : MethodName := ⟨RX2, "firstOfRing", "(I)I"⟩
abbrev cX3_init : ByteArray := prog_1_method_1_code
def yX3_init : MethodName := ⟨RX3, "<init>", "()V"⟩
abbrev cX3_players : ByteArray := prog_1_method_2_code
def yX3_players : MethodName := ⟨RX3, "players", "(I)I"⟩
abbrev cX3_line : ByteArray := prog_1_method_3_code
def yX3_line : MethodName := ⟨RX3, "line", "(III)I"⟩
abbrev cX3_weight : ByteArray := prog_1_method_4_code
def yX3_weight : MethodName := ⟨RX3, "weight", "(II)I"⟩
abbrev cX3_pay : ByteArray := prog_1_method_5_code
def yX3_pay : MethodName := ⟨RX3, "pay", "(III)I"⟩
abbrev cX3_bar : ByteArray := prog_1_method_6_code
def yX3_bar : MethodName := ⟨RX3, "bar", "(I)I"⟩
abbrev cX3_hold : ByteArray := prog_1_method_7_code
def yX3_hold : MethodName := ⟨RX3, "hold", "(IZ)I"⟩
abbrev cX3_state : ByteArray := prog_1_method_8_code
def yX3_state : MethodName := ⟨RX3, "state", "(I)I"⟩
abbrev cX3_wage : ByteArray := prog_1_method_9_code
def yX3_wage : MethodName := ⟨RX3, "wage", "(II)I"⟩
abbrev cX3_sum : ByteArray := prog_1_method_10_code
def yX3_sum : MethodName := ⟨RX3, "sum", "()I"⟩
abbrev cX3_step : ByteArray := prog_1_method_11_code
def yX3_step : MethodName := ⟨RX3, "step", "(II)I"⟩
abbrev cX3_after : ByteArray := prog_1_method_12_code
def yX3_after : MethodName := ⟨RX3, "after", "(II)I"⟩
abbrev cX3_goes : ByteArray := prog_1_method_13_code
def yX3_goes : MethodName := ⟨RX3, "goes", "(II)I"⟩
abbrev cX3_end : ByteArray := prog_1_method_14_code
def yX3_end : MethodName := ⟨RX3, "end", "(II)I"⟩
abbrev cX3_basin : ByteArray := prog_1_method_15_code
def yX3_basin : MethodName := ⟨RX3, "basin", "(III)I"⟩
abbrev cX3_lone : ByteArray := prog_1_method_16_code
def yX3_lone : MethodName := ⟨RX3, "lone", "(I)I"⟩
abbrev cX3_before : ByteArray := prog_1_method_17_code
def yX3_before : MethodName := ⟨RX3, "before", "(II)I"⟩
abbrev cX3_rise : ByteArray := prog_1_method_18_code
def yX3_rise : MethodName := ⟨RX3, "rise", "()I"⟩
abbrev cX3_highest : ByteArray := prog_1_method_19_code
def yX3_highest : MethodName := ⟨RX3, "highest", "()I"⟩
abbrev cX3_rests : ByteArray := prog_1_method_20_code
def yX3_rests : MethodName := ⟨RX3, "rests", "()I"⟩
abbrev cX3_restMany : ByteArray := prog_1_method_21_code
def yX3_restMany : MethodName := ⟨RX3, "restMany", "()I"⟩
abbrev cX3_tip : ByteArray := prog_1_method_22_code
def yX3_tip : MethodName := ⟨RX3, "tip", "(I)I"⟩
abbrev cX3_share : ByteArray := prog_1_method_23_code
def yX3_share : MethodName := ⟨RX3, "share", "(I)I"⟩
abbrev cX3_hangs : ByteArray := prog_1_method_24_code
def yX3_hangs : MethodName := ⟨RX3, "hangs", "(II)I"⟩
abbrev cX3_told : ByteArray := prog_1_method_25_code
def yX3_told : MethodName := ⟨RX3, "told", "(I)I"⟩
abbrev cX3_toldPay : ByteArray := prog_1_method_26_code
def yX3_toldPay : MethodName := ⟨RX3, "toldPay", "(I)I"⟩
abbrev cX3_forgetMoves : ByteArray := prog_1_method_27_code
def yX3_forgetMoves : MethodName := ⟨RX3, "forgetMoves", "()V"⟩
abbrev cX3_clearMarks : ByteArray := prog_1_method_28_code
def yX3_clearMarks : MethodName := ⟨RX3, "clearMarks", "()V"⟩
abbrev cX3_isBeginning : ByteArray := prog_1_method_29_code
def yX3_isBeginning : MethodName := ⟨RX3, "isBeginning", "(I)Z"⟩
abbrev cX3_isAtRest : ByteArray := prog_1_method_30_code
def yX3_isAtRest : MethodName := ⟨RX3, "isAtRest", "(I)Z"⟩
abbrev cX3_tipsAll : ByteArray := prog_1_method_31_code
def yX3_tipsAll : MethodName := ⟨RX3, "tipsAll", "(II)Z"⟩
abbrev cX3_isRule : ByteArray := prog_1_method_32_code
def yX3_isRule : MethodName := ⟨RX3, "isRule", "(I)Z"⟩
abbrev cX3_isWay : ByteArray := prog_1_method_33_code
def yX3_isWay : MethodName := ⟨RX3, "isWay", "(I)Z"⟩
abbrev cX3_bitOf : ByteArray := prog_1_method_34_code
def yX3_bitOf : MethodName := ⟨RX3, "bitOf", "(II)I"⟩
abbrev cX3_commonDivisor : ByteArray := prog_1_method_35_code
def yX3_commonDivisor : MethodName := ⟨RX3, "commonDivisor", "(II)I"⟩
abbrev cX4_init : ByteArray := prog_6_method_1_code
def yX4_init : MethodName := ⟨RX4, "<init>", "()V"⟩
abbrev cX4_in : ByteArray := prog_6_method_2_code
def yX4_in : MethodName := ⟨RX4, "in", "(III)Z"⟩
abbrev cX4_isOne : ByteArray := prog_6_method_3_code
def yX4_isOne : MethodName := ⟨RX4, "isOne", "(I)Z"⟩
abbrev cX4_states : ByteArray := prog_6_method_4_code
def yX4_states : MethodName := ⟨RX4, "states", "()I"⟩
abbrev cX4_isState : ByteArray := prog_6_method_5_code
def yX4_isState : MethodName := ⟨RX4, "isState", "(I)Z"⟩
abbrev cX4_players : ByteArray := prog_6_method_6_code
def yX4_players : MethodName := ⟨RX4, "players", "(I)I"⟩
abbrev cX4_arePair : ByteArray := prog_6_method_7_code
def yX4_arePair : MethodName := ⟨RX4, "arePair", "(II)Z"⟩
abbrev cX4_line : ByteArray := prog_6_method_8_code
def yX4_line : MethodName := ⟨RX4, "line", "(III)I"⟩
abbrev cX4_weight : ByteArray := prog_6_method_9_code
def yX4_weight : MethodName := ⟨RX4, "weight", "(II)I"⟩
abbrev cX4_pay : ByteArray := prog_6_method_10_code
def yX4_pay : MethodName := ⟨RX4, "pay", "(III)I"⟩
abbrev cX4_bar : ByteArray := prog_6_method_11_code
def yX4_bar : MethodName := ⟨RX4, "bar", "(I)I"⟩
abbrev cX4_hold : ByteArray := prog_6_method_12_code
def yX4_hold : MethodName := ⟨RX4, "hold", "(IZ)I"⟩
abbrev cX4_state : ByteArray := prog_6_method_13_code
def yX4_state : MethodName := ⟨RX4, "state", "(I)I"⟩
abbrev cX4_wageOf : ByteArray := prog_6_method_14_code
def yX4_wageOf : MethodName := ⟨RX4, "wageOf", "(III)I"⟩
abbrev cX4_wage : ByteArray := prog_6_method_15_code
def yX4_wage : MethodName := ⟨RX4, "wage", "(II)I"⟩
abbrev cX4_sum : ByteArray := prog_6_method_16_code
def yX4_sum : MethodName := ⟨RX4, "sum", "()I"⟩
abbrev cX4_gains : ByteArray := prog_6_method_17_code
def yX4_gains : MethodName := ⟨RX4, "gains", "(II)Z"⟩
abbrev cX4_copied : ByteArray := prog_6_method_18_code
def yX4_copied : MethodName := ⟨RX4, "copied", "(II)I"⟩
abbrev cX4_tipped : ByteArray := prog_6_method_19_code
def yX4_tipped : MethodName := ⟨RX4, "tipped", "(II)I"⟩
abbrev cX4_wayBehind : ByteArray := prog_6_method_20_code
def yX4_wayBehind : MethodName := ⟨RX4, "wayBehind", "(III)I"⟩
abbrev cX4_next : ByteArray := prog_6_method_21_code
def yX4_next : MethodName := ⟨RX4, "next", "(III)I"⟩
abbrev cX4_isRule : ByteArray := prog_6_method_22_code
def yX4_isRule : MethodName := ⟨RX4, "isRule", "(I)Z"⟩
abbrev cX4_step : ByteArray := prog_6_method_23_code
def yX4_step : MethodName := ⟨RX4, "step", "(II)I"⟩
abbrev cX4_after : ByteArray := prog_6_method_24_code
def yX4_after : MethodName := ⟨RX4, "after", "(II)I"⟩
abbrev cX4_isBeginning : ByteArray := prog_6_method_25_code
def yX4_isBeginning : MethodName := ⟨RX4, "isBeginning", "(I)Z"⟩
abbrev cX4_layBehind : ByteArray := prog_6_method_26_code
def yX4_layBehind : MethodName := ⟨RX4, "layBehind", "(I)V"⟩
abbrev cX4_inRing : ByteArray := prog_6_method_27_code
def yX4_inRing : MethodName := ⟨RX4, "inRing", "(I)I"⟩
abbrev cX4_ringOf : ByteArray := prog_6_method_28_code
def yX4_ringOf : MethodName := ⟨RX4, "ringOf", "(I)I"⟩
abbrev cX4_leastOf : ByteArray := prog_6_method_29_code
def yX4_leastOf : MethodName := ⟨RX4, "leastOf", "(I)I"⟩
abbrev cX4_goes : ByteArray := prog_6_method_30_code
def yX4_goes : MethodName := ⟨RX4, "goes", "(II)I"⟩
abbrev cX4_isOn : ByteArray := prog_6_method_31_code
def yX4_isOn : MethodName := ⟨RX4, "isOn", "(II)Z"⟩
abbrev cX4_layEnds : ByteArray := prog_6_method_32_code
def yX4_layEnds : MethodName := ⟨RX4, "layEnds", "(I)V"⟩
abbrev cX4_endAt : ByteArray := prog_6_method_33_code
def yX4_endAt : MethodName := ⟨RX4, "endAt", "(I)I"⟩
abbrev cX4_end : ByteArray := prog_6_method_34_code
def yX4_end : MethodName := ⟨RX4, "end", "(II)I"⟩
abbrev cX4_basin : ByteArray := prog_6_method_35_code
def yX4_basin : MethodName := ⟨RX4, "basin", "(III)I"⟩
abbrev cX4_lone : ByteArray := prog_6_method_36_code
def yX4_lone : MethodName := ⟨RX4, "lone", "(I)I"⟩
abbrev cX4_before : ByteArray := prog_6_method_37_code
def yX4_before : MethodName := ⟨RX4, "before", "(II)I"⟩
abbrev cX4_riseOf : ByteArray := prog_6_method_38_code
def yX4_riseOf : MethodName := ⟨RX4, "riseOf", "(I)I"⟩
abbrev cX4_rise : ByteArray := prog_6_method_39_code
def yX4_rise : MethodName := ⟨RX4, "rise", "()I"⟩
abbrev cX4_highest : ByteArray := prog_6_method_40_code
def yX4_highest : MethodName := ⟨RX4, "highest", "()I"⟩
abbrev cX4_restsIn : ByteArray := prog_6_method_41_code
def yX4_restsIn : MethodName := ⟨RX4, "restsIn", "(I)Z"⟩
abbrev cX4_rests : ByteArray := prog_6_method_42_code
def yX4_rests : MethodName := ⟨RX4, "rests", "()I"⟩
abbrev cX4_restMany : ByteArray := prog_6_method_43_code
def yX4_restMany : MethodName := ⟨RX4, "restMany", "()I"⟩
abbrev cX4_bits : ByteArray := prog_6_method_44_code
def yX4_bits : MethodName := ⟨RX4, "bits", "(I)I"⟩
abbrev cX4_tips : ByteArray := prog_6_method_45_code
def yX4_tips : MethodName := ⟨RX4, "tips", "(II)Z"⟩
abbrev cX4_tip : ByteArray := prog_6_method_46_code
def yX4_tip : MethodName := ⟨RX4, "tip", "(I)I"⟩
abbrev cX4_common : ByteArray := prog_6_method_47_code
def yX4_common : MethodName := ⟨RX4, "common", "(II)I"⟩
abbrev cX4_share : ByteArray := prog_6_method_48_code
def yX4_share : MethodName := ⟨RX4, "share", "(I)I"⟩
abbrev cX4_hangs : ByteArray := prog_6_method_49_code
def yX4_hangs : MethodName := ⟨RX4, "hangs", "(II)I"⟩
abbrev cX4_lines : ByteArray := prog_6_method_50_code
def yX4_lines : MethodName := ⟨RX4, "lines", "()I"⟩
abbrev cX4_told : ByteArray := prog_6_method_51_code
def yX4_told : MethodName := ⟨RX4, "told", "(I)I"⟩
abbrev cJ6_bitCount_0f7a4 : ByteArray := prog_7_method_49_code
def yJ6_bitCount_0f7a4 : MethodName := ⟨RJ6, "bitCount", "(I)I"⟩
abbrev cJ9_max_7cf53 : ByteArray := prog_8_method_65_code
def yJ9_max_7cf53 : MethodName := ⟨RJ9, "max", "(II)I"⟩
abbrev cJ9_min_7cf53 : ByteArray := prog_8_method_69_code
def yJ9_min_7cf53 : MethodName := ⟨RJ9, "min", "(II)I"⟩
abbrev vwCl : List vw_C := [(RX0, TX0, 4), (RX1, TX1, 5), (RX2, TX2, 9), (RX3, TX3, 6), (RX4, TX4, 9)]
def isNestW : Cond → Bool
  | .fieldLinkNest .. => true
  | .methodLinkNest .. => true
  | _ => false
def bigW : List Cond := lw_tbl.filter goodWord
def nestW : List Cond := tables_1.filter isNestW
def Nst (U : State) : Prop := ∀ w ∈ nestW, va_Nw w U
theorem mem_t1 {w : Cond} (i : Nat) (h : tables_1_1[i]? = some w) : w ∈ tables_1 := List.mem_append_left _ (List.mem_of_getElem? h)
theorem mem_t2 {w : Cond} (i : Nat) (h : tables_1_2[i]? = some w) : w ∈ tables_1 := List.mem_append_right _ (List.mem_append_left _ (List.mem_of_getElem? h))
theorem mem_t3 {w : Cond} (i : Nat) (h : tables_1_3[i]? = some w) : w ∈ tables_1 := List.mem_append_right _ (List.mem_append_right _ (List.mem_of_getElem? h))
theorem mem_big {w : Cond} (h : w ∈ tables_1) (hg : goodWord w = true) : w ∈ bigW := List.mem_filter.mpr ⟨List.mem_append_right _ h, hg⟩
theorem mem_nest {w : Cond} (h : w ∈ tables_1) (hg : isNestW w = true) : w ∈ nestW := List.mem_filter.mpr ⟨h, hg⟩
theorem mem_sel {q : MethodName × Nat} (i : Nat) (h : lw_privs[i]? = some q) (hg : goodWord (Cond.selects q.1.cls q.1 q.1) = true) : Cond.selects q.1.cls q.1 q.1 ∈ bigW := List.mem_filter.mpr ⟨List.mem_append_left _ (List.mem_map.mpr ⟨q, List.mem_of_getElem? h, rfl⟩), hg⟩
theorem Nst.warm {s U : State} (hW : s.WarmedH U.vm) (h : Nst s) : Nst U := by
  intro w hw
  have h1 := h w hw
  have h2 := (List.mem_filter.mp hw).2
  cases w <;> first | exact va_Nw.warmF hW h1 | exact va_Nw.warmM hW h1 | (exact absurd h2 Bool.false_ne_true)
theorem Nst.same {u U : State} (h : u.vm = U.vm) (hZ : Nst u) : Nst U := by
  intro w hw
  have h1 := hZ w hw
  have h2 := (List.mem_filter.mp hw).2
  cases w <;> first | exact va_Nw.same rfl h h1 | (exact absurd h2 Bool.false_ne_true)
def wsM (y : MethodName) (cc : ByteArray) (n : Nat) (ret : Option FieldType) : List Cond := .code y cc n ret :: bigW
theorem good_M {y : MethodName} {cc : ByteArray} {n : Nat} {ret : Option FieldType} (h : Cond.code y cc n ret ∈ bigW) : GoodIn bigW (wsM y cc n ret) := by
  intro w hw
  have hm : w ∈ bigW := by
    rcases List.mem_cons.mp hw with e | e
    · rw [e]; exact h
    · exact e
  exact ⟨hm, good_of_word (List.mem_filter.mp hm).2⟩
theorem iwX0 : ∀ w ∈ u_ws RX0 TX0 4, w ∈ bigW := by
  intro w hw
  obtain ⟨k, hk, rfl⟩ := List.mem_map.mp hw
  have hk := List.mem_range.mp hk
  rcases (show k = 0 ∨ k = 1 ∨ k = 2 ∨ k = 3 by omega) with rfl | rfl | rfl | rfl
  · exact mem_big (mem_t1 54 rfl) rfl
  · exact mem_big (mem_t1 56 rfl) rfl
  · exact mem_big (mem_t1 58 rfl) rfl
  · exact mem_big (mem_t1 60 rfl) rfl
theorem iwX1 : ∀ w ∈ u_ws RX1 TX1 5, w ∈ bigW := by
  intro w hw
  obtain ⟨k, hk, rfl⟩ := List.mem_map.mp hw
  have hk := List.mem_range.mp hk
  rcases (show k = 0 ∨ k = 1 ∨ k = 2 ∨ k = 3 ∨ k = 4 by omega) with rfl | rfl | rfl | rfl | rfl
  · exact mem_big (mem_t1 32 rfl) rfl
  · exact mem_big (mem_t1 34 rfl) rfl
  · exact mem_big (mem_t1 36 rfl) rfl
  · exact mem_big (mem_t1 38 rfl) rfl
  · exact mem_big (mem_t1 40 rfl) rfl
theorem iwX2 : ∀ w ∈ u_ws RX2 TX2 9, w ∈ bigW := by
  intro w hw
  obtain ⟨k, hk, rfl⟩ := List.mem_map.mp hw
  have hk := List.mem_range.mp hk
  rcases (show k = 0 ∨ k = 1 ∨ k = 2 ∨ k = 3 ∨ k = 4 ∨ k = 5 ∨ k = 6 ∨ k = 7 ∨ k = 8 by omega) with rfl | rfl | rfl | rfl | rfl | rfl | rfl | rfl | rfl
  · exact mem_big (mem_t1 81 rfl) rfl
  · exact mem_big (mem_t1 83 rfl) rfl
  · exact mem_big (mem_t1 85 rfl) rfl
  · exact mem_big (mem_t1 87 rfl) rfl
  · exact mem_big (mem_t1 89 rfl) rfl
  · exact mem_big (mem_t1 91 rfl) rfl
  · exact mem_big (mem_t1 93 rfl) rfl
  · exact mem_big (mem_t1 95 rfl) rfl
  · exact mem_big (mem_t1 97 rfl) rfl
theorem iwX3 : ∀ w ∈ u_ws RX3 TX3 6, w ∈ bigW := by
  intro w hw
  obtain ⟨k, hk, rfl⟩ := List.mem_map.mp hw
  have hk := List.mem_range.mp hk
  rcases (show k = 0 ∨ k = 1 ∨ k = 2 ∨ k = 3 ∨ k = 4 ∨ k = 5 by omega) with rfl | rfl | rfl | rfl | rfl | rfl
  · exact mem_big (mem_t1 106 rfl) rfl
  · exact mem_big (mem_t1 108 rfl) rfl
  · exact mem_big (mem_t1 110 rfl) rfl
  · exact mem_big (mem_t1 112 rfl) rfl
  · exact mem_big (mem_t1 114 rfl) rfl
  · exact mem_big (mem_t1 116 rfl) rfl
theorem iwX4 : ∀ w ∈ u_ws RX4 TX4 9, w ∈ bigW := by
  intro w hw
  obtain ⟨k, hk, rfl⟩ := List.mem_map.mp hw
  have hk := List.mem_range.mp hk
  rcases (show k = 0 ∨ k = 1 ∨ k = 2 ∨ k = 3 ∨ k = 4 ∨ k = 5 ∨ k = 6 ∨ k = 7 ∨ k = 8 by omega) with rfl | rfl | rfl | rfl | rfl | rfl | rfl | rfl | rfl
  · exact mem_big (mem_t2 198 rfl) rfl
  · exact mem_big (mem_t2 200 rfl) rfl
  · exact mem_big (mem_t2 202 rfl) rfl
  · exact mem_big (mem_t2 204 rfl) rfl
  · exact mem_big (mem_t2 206 rfl) rfl
  · exact mem_big (mem_t2 208 rfl) rfl
  · exact mem_big (mem_t2 210 rfl) rfl
  · exact mem_big (mem_t2 212 rfl) rfl
  · exact mem_big (mem_t2 214 rfl) rfl
end
section
theorem mw_in_L : Cond.initialized RL ∈ bigW := mem_big (mem_t1 0 rfl) rfl
theorem mw_in_X3 : Cond.initialized RX3 ∈ bigW := mem_big (mem_t1 1 rfl) rfl
theorem mw_in_X1 : Cond.initialized RX1 ∈ bigW := mem_big (mem_t1 2 rfl) rfl
theorem mw_in_X0 : Cond.initialized RX0 ∈ bigW := mem_big (mem_t1 3 rfl) rfl
theorem mw_in_X2 : Cond.initialized RX2 ∈ bigW := mem_big (mem_t1 4 rfl) rfl
theorem mw_in_X4 : Cond.initialized RX4 ∈ bigW := mem_big (mem_t1 5 rfl) rfl
theorem mw_in_J9 : Cond.initialized RJ9 ∈ bigW := mem_big (mem_t1 6 rfl) rfl
theorem mw_in_J6 : Cond.initialized RJ6 ∈ bigW := mem_big (mem_t1 7 rfl) rfl
theorem mw_k_L_7 : Cond.classLink RL 7 RX3 ∈ bigW := mem_big (mem_t1 8 rfl) rfl
theorem mw_n_X3 : Cond.instantiable RX3 6 ∈ bigW := mem_big (mem_t1 9 rfl) rfl
theorem mw_m_L_9 : Cond.methodLink RL 9 yX3_init ∈ bigW := mem_big (mem_t1 10 rfl) rfl
theorem mw_i_X3_init : Cond.instanceMethod yX3_init ∈ bigW := mem_big (mem_t1 11 rfl) rfl
theorem mw_c_X3_init : Cond.code yX3_init cX3_init 1 none ∈ bigW := mem_big (mem_t1 12 rfl) rfl
theorem mw_m_X3_1 : Cond.methodLink RX3 1 objectInit ∈ bigW := mem_big (mem_t1 13 rfl) rfl
theorem mw_k_X3_7 : Cond.classLink RX3 7 RX1 ∈ bigW := mem_big (mem_t1 16 rfl) rfl
theorem mw_n_X1 : Cond.instantiable RX1 5 ∈ bigW := mem_big (mem_t1 17 rfl) rfl
theorem mw_m_X3_9 : Cond.methodLinkNest RX3 9 yX1_init "GameNet" ∈ nestW := mem_nest (mem_t1 18 rfl) rfl
theorem mw_i_X1_init : Cond.instanceMethod yX1_init ∈ bigW := mem_big (mem_t1 19 rfl) rfl
theorem mw_c_X1_init : Cond.code yX1_init cX1_init 1 none ∈ bigW := mem_big (mem_t1 20 rfl) rfl
theorem mw_m_X1_3 : Cond.methodLink RX1 3 objectInit ∈ bigW := mem_big (mem_t1 21 rfl) rfl
theorem mw_f_X1_9 : Cond.fieldLink RX1 9 "GameNet$Net" "weights" "[I" ∈ bigW := mem_big (mem_t1 22 rfl) rfl
theorem mw_f_X1_15 : Cond.fieldLink RX1 15 "GameNet$Net" "allWeights" "[I" ∈ bigW := mem_big (mem_t1 23 rfl) rfl
theorem mw_f_X0_67 : Cond.fieldLinkNest RX0 67 "GameNet$Net" "allWeights" "[I" "GameNet" ∈ nestW := mem_nest (mem_t1 24 rfl) rfl
theorem mw_f_X1_18 : Cond.fieldLink RX1 18 "GameNet$Net" "pays" "[I" ∈ bigW := mem_big (mem_t1 25 rfl) rfl
theorem mw_f_X1_21 : Cond.fieldLink RX1 21 "GameNet$Net" "players" "I" ∈ bigW := mem_big (mem_t1 26 rfl) rfl
theorem mw_f_X3_45 : Cond.fieldLinkNest RX3 45 "GameNet$Net" "players" "I" "GameNet" ∈ nestW := mem_nest (mem_t1 27 rfl) rfl
theorem mw_f_X0_30 : Cond.fieldLinkNest RX0 30 "GameNet$Net" "players" "I" "GameNet" ∈ nestW := mem_nest (mem_t1 28 rfl) rfl
theorem mw_f_X1_25 : Cond.fieldLink RX1 25 "GameNet$Net" "bar" "I" ∈ bigW := mem_big (mem_t1 29 rfl) rfl
theorem mw_f_X3_78 : Cond.fieldLinkNest RX3 78 "GameNet$Net" "bar" "I" "GameNet" ∈ nestW := mem_nest (mem_t1 30 rfl) rfl
theorem mw_f_X0_70 : Cond.fieldLinkNest RX0 70 "GameNet$Net" "bar" "I" "GameNet" ∈ nestW := mem_nest (mem_t1 31 rfl) rfl
theorem mw_ar_int : Cond.arrayClass .int ∈ bigW := mem_big (mem_t1 43 rfl) rfl
theorem mw_k_X3_16 : Cond.classLink RX3 16 RX0 ∈ bigW := mem_big (mem_t1 44 rfl) rfl
theorem mw_n_X0 : Cond.instantiable RX0 4 ∈ bigW := mem_big (mem_t1 45 rfl) rfl
theorem mw_m_X3_18 : Cond.methodLinkNest RX3 18 yX0_init "GameNet" ∈ nestW := mem_nest (mem_t1 46 rfl) rfl
theorem mw_i_X0_init : Cond.instanceMethod yX0_init ∈ bigW := mem_big (mem_t1 47 rfl) rfl
theorem mw_c_X0_init : Cond.code yX0_init cX0_init 2 none ∈ bigW := mem_big (mem_t1 48 rfl) rfl
theorem mw_m_X0_3 : Cond.methodLink RX0 3 objectInit ∈ bigW := mem_big (mem_t1 49 rfl) rfl
theorem mw_f_X0_9 : Cond.fieldLink RX0 9 "GameNet$Moves" "net" "LGameNet$Net;" ∈ bigW := mem_big (mem_t1 50 rfl) rfl
theorem mw_f_X0_15 : Cond.fieldLink RX0 15 "GameNet$Moves" "wishes" "[I" ∈ bigW := mem_big (mem_t1 51 rfl) rfl
theorem mw_f_X0_19 : Cond.fieldLink RX0 19 "GameNet$Moves" "inUse" "[Z" ∈ bigW := mem_big (mem_t1 52 rfl) rfl
theorem mw_f_X0_23 : Cond.fieldLink RX0 23 "GameNet$Moves" "wages" "[I" ∈ bigW := mem_big (mem_t1 53 rfl) rfl
theorem mw_ar_boolean : Cond.arrayClass .boolean ∈ bigW := mem_big (mem_t1 63 rfl) rfl
theorem mw_k_X3_25 : Cond.classLink RX3 25 RX2 ∈ bigW := mem_big (mem_t1 64 rfl) rfl
theorem mw_n_X2 : Cond.instantiable RX2 9 ∈ bigW := mem_big (mem_t1 65 rfl) rfl
theorem mw_m_X3_27 : Cond.methodLinkNest RX3 27 yX2_init "GameNet" ∈ nestW := mem_nest (mem_t1 66 rfl) rfl
theorem mw_i_X2_init : Cond.instanceMethod yX2_init ∈ bigW := mem_big (mem_t1 67 rfl) rfl
theorem mw_c_X2_init : Cond.code yX2_init cX2_init 3 none ∈ bigW := mem_big (mem_t1 68 rfl) rfl
theorem mw_m_X2_3 : Cond.methodLink RX2 3 objectInit ∈ bigW := mem_big (mem_t1 69 rfl) rfl
theorem mw_f_X2_9 : Cond.fieldLink RX2 9 "GameNet$Survey" "net" "LGameNet$Net;" ∈ bigW := mem_big (mem_t1 70 rfl) rfl
theorem mw_f_X2_15 : Cond.fieldLink RX2 15 "GameNet$Survey" "moves" "LGameNet$Moves;" ∈ bigW := mem_big (mem_t1 71 rfl) rfl
theorem mw_f_X2_19 : Cond.fieldLink RX2 19 "GameNet$Survey" "behind" "[I" ∈ bigW := mem_big (mem_t1 72 rfl) rfl
theorem mw_f_X2_23 : Cond.fieldLink RX2 23 "GameNet$Survey" "ends" "[I" ∈ bigW := mem_big (mem_t1 73 rfl) rfl
theorem mw_f_X3_107 : Cond.fieldLinkNest RX3 107 "GameNet$Survey" "ends" "[I" "GameNet" ∈ nestW := mem_nest (mem_t1 74 rfl) rfl
theorem mw_f_X2_26 : Cond.fieldLink RX2 26 "GameNet$Survey" "tails" "[I" ∈ bigW := mem_big (mem_t1 75 rfl) rfl
theorem mw_f_X3_104 : Cond.fieldLinkNest RX3 104 "GameNet$Survey" "tails" "[I" "GameNet" ∈ nestW := mem_nest (mem_t1 76 rfl) rfl
theorem mw_f_X2_29 : Cond.fieldLink RX2 29 "GameNet$Survey" "stands" "Z" ∈ bigW := mem_big (mem_t1 77 rfl) rfl
theorem mw_f_X2_33 : Cond.fieldLink RX2 33 "GameNet$Survey" "rule" "I" ∈ bigW := mem_big (mem_t1 78 rfl) rfl
theorem mw_f_X2_37 : Cond.fieldLink RX2 37 "GameNet$Survey" "held" "I" ∈ bigW := mem_big (mem_t1 79 rfl) rfl
theorem mw_f_X2_40 : Cond.fieldLink RX2 40 "GameNet$Survey" "heldWays" "I" ∈ bigW := mem_big (mem_t1 80 rfl) rfl
theorem mw_f_X3_10 : Cond.fieldLink RX3 10 "GameNet" "net" "LGameNet$Net;" ∈ bigW := mem_big (mem_t1 100 rfl) rfl
theorem mw_f_X3_21 : Cond.fieldLink RX3 21 "GameNet" "moves" "LGameNet$Moves;" ∈ bigW := mem_big (mem_t1 101 rfl) rfl
theorem mw_f_X3_30 : Cond.fieldLink RX3 30 "GameNet" "survey" "LGameNet$Survey;" ∈ bigW := mem_big (mem_t1 102 rfl) rfl
theorem mw_f_X3_34 : Cond.fieldLink RX3 34 "GameNet" "marks" "[I" ∈ bigW := mem_big (mem_t1 103 rfl) rfl
theorem mw_f_X3_38 : Cond.fieldLink RX3 38 "GameNet" "held" "I" ∈ bigW := mem_big (mem_t1 104 rfl) rfl
theorem mw_f_X3_42 : Cond.fieldLink RX3 42 "GameNet" "now" "I" ∈ bigW := mem_big (mem_t1 105 rfl) rfl
theorem mw_m_L_13 : Cond.methodLink RL 13 yX3_players ∈ bigW := mem_big (mem_t1 119 rfl) rfl
theorem mw_i_X3_players : Cond.instanceMethod yX3_players ∈ bigW := mem_big (mem_t1 120 rfl) rfl
theorem mw_v_X3_players : Cond.selects RX3 yX3_players yX3_players ∈ bigW := mem_big (mem_t1 121 rfl) rfl
theorem mw_c_X3_players : Cond.code yX3_players cX3_players 3 (some .int) ∈ bigW := mem_big (mem_t1 122 rfl) rfl
theorem mw_m_X3_48 : Cond.methodLinkNest RX3 48 yX1_beginAnew "GameNet" ∈ nestW := mem_nest (mem_t1 123 rfl) rfl
theorem mw_i_X1_beginAnew : Cond.instanceMethod yX1_beginAnew ∈ bigW := mem_big (mem_t1 125 rfl) rfl
theorem mw_c_X1_beginAnew : Cond.code yX1_beginAnew cX1_beginAnew 3 none ∈ bigW := mem_big (mem_t1 126 rfl) rfl
theorem mw_m_X3_52 : Cond.methodLink RX3 52 yX3_forgetMoves ∈ bigW := mem_big (mem_t1 127 rfl) rfl
theorem mw_i_X3_forgetMoves : Cond.instanceMethod yX3_forgetMoves ∈ bigW := mem_big (mem_t1 129 rfl) rfl
theorem mw_c_X3_forgetMoves : Cond.code yX3_forgetMoves cX3_forgetMoves 1 none ∈ bigW := mem_big (mem_t1 130 rfl) rfl
theorem mw_m_X3_172 : Cond.methodLinkNest RX3 172 yX0_forget "GameNet" ∈ nestW := mem_nest (mem_t1 131 rfl) rfl
theorem mw_i_X0_forget : Cond.instanceMethod yX0_forget ∈ bigW := mem_big (mem_t1 133 rfl) rfl
theorem mw_c_X0_forget : Cond.code yX0_forget cX0_forget 2 none ∈ bigW := mem_big (mem_t1 134 rfl) rfl
theorem mw_m_X3_175 : Cond.methodLinkNest RX3 175 yX2_forget "GameNet" ∈ nestW := mem_nest (mem_t1 135 rfl) rfl
theorem mw_i_X2_forget : Cond.instanceMethod yX2_forget ∈ bigW := mem_big (mem_t1 137 rfl) rfl
theorem mw_c_X2_forget : Cond.code yX2_forget cX2_forget 1 none ∈ bigW := mem_big (mem_t1 138 rfl) rfl
theorem mw_m_L_18 : Cond.methodLink RL 18 yX3_line ∈ bigW := mem_big (mem_t1 139 rfl) rfl
theorem mw_i_X3_line : Cond.instanceMethod yX3_line ∈ bigW := mem_big (mem_t1 140 rfl) rfl
theorem mw_v_X3_line : Cond.selects RX3 yX3_line yX3_line ∈ bigW := mem_big (mem_t1 141 rfl) rfl
theorem mw_c_X3_line : Cond.code yX3_line cX3_line 5 (some .int) ∈ bigW := mem_big (mem_t1 142 rfl) rfl
theorem mw_m_X3_55 : Cond.methodLinkNest RX3 55 yX1_mayJoin "GameNet" ∈ nestW := mem_nest (mem_t1 143 rfl) rfl
theorem mw_i_X1_mayJoin : Cond.instanceMethod yX1_mayJoin ∈ bigW := mem_big (mem_t1 145 rfl) rfl
theorem mw_c_X1_mayJoin : Cond.code yX1_mayJoin cX1_mayJoin 3 (some .boolean) ∈ bigW := mem_big (mem_t1 146 rfl) rfl
theorem mw_m_X1_28 : Cond.methodLink RX1 28 yX1_has ∈ bigW := mem_big (mem_t1 147 rfl) rfl
theorem mw_i_X1_has : Cond.instanceMethod yX1_has ∈ bigW := mem_big (mem_t1 149 rfl) rfl
theorem mw_c_X1_has : Cond.code yX1_has cX1_has 2 (some .boolean) ∈ bigW := mem_big (mem_t1 150 rfl) rfl
theorem mw_m_X3_59 : Cond.methodLinkNest RX3 59 yX1_weightOf "GameNet" ∈ nestW := mem_nest (mem_t1 151 rfl) rfl
theorem mw_i_X1_weightOf : Cond.instanceMethod yX1_weightOf ∈ bigW := mem_big (mem_t1 153 rfl) rfl
theorem mw_c_X1_weightOf : Cond.code yX1_weightOf cX1_weightOf 3 (some .int) ∈ bigW := mem_big (mem_t1 154 rfl) rfl
theorem mw_m_X3_63 : Cond.methodLinkNest RX3 63 yX1_setWeight "GameNet" ∈ nestW := mem_nest (mem_t1 155 rfl) rfl
theorem mw_i_X1_setWeight : Cond.instanceMethod yX1_setWeight ∈ bigW := mem_big (mem_t1 157 rfl) rfl
theorem mw_c_X1_setWeight : Cond.code yX1_setWeight cX1_setWeight 5 none ∈ bigW := mem_big (mem_t1 158 rfl) rfl
theorem mw_m_X1_36 : Cond.methodLink RX1 36 yX1_weightOf ∈ bigW := mem_big (mem_t1 159 rfl) rfl
theorem mw_m_L_23 : Cond.methodLink RL 23 yX3_weight ∈ bigW := mem_big (mem_t1 160 rfl) rfl
theorem mw_i_X3_weight : Cond.instanceMethod yX3_weight ∈ bigW := mem_big (mem_t1 161 rfl) rfl
theorem mw_v_X3_weight : Cond.selects RX3 yX3_weight yX3_weight ∈ bigW := mem_big (mem_t1 162 rfl) rfl
theorem mw_c_X3_weight : Cond.code yX3_weight cX3_weight 3 (some .int) ∈ bigW := mem_big (mem_t1 163 rfl) rfl
theorem mw_m_L_28 : Cond.methodLink RL 28 yX3_pay ∈ bigW := mem_big (mem_t1 164 rfl) rfl
theorem mw_i_X3_pay : Cond.instanceMethod yX3_pay ∈ bigW := mem_big (mem_t1 165 rfl) rfl
theorem mw_v_X3_pay : Cond.selects RX3 yX3_pay yX3_pay ∈ bigW := mem_big (mem_t1 166 rfl) rfl
theorem mw_c_X3_pay : Cond.code yX3_pay cX3_pay 5 (some .int) ∈ bigW := mem_big (mem_t1 167 rfl) rfl
theorem mw_m_X3_67 : Cond.methodLink RX3 67 yX3_isWay ∈ bigW := mem_big (mem_t1 168 rfl) rfl
theorem mw_s_X3_isWay : Cond.static yX3_isWay ∈ bigW := mem_big (mem_t1 169 rfl) rfl
theorem mw_c_X3_isWay : Cond.code yX3_isWay cX3_isWay 1 (some .boolean) ∈ bigW := mem_big (mem_t1 170 rfl) rfl
theorem mw_k_X3_71 : Cond.constant RX3 71 (-100002) ∈ bigW := mem_big (mem_t1 171 rfl) rfl
theorem mw_m_X3_72 : Cond.methodLinkNest RX3 72 yX1_payOf "GameNet" ∈ nestW := mem_nest (mem_t1 172 rfl) rfl
theorem mw_i_X1_payOf : Cond.instanceMethod yX1_payOf ∈ bigW := mem_big (mem_t1 174 rfl) rfl
theorem mw_c_X1_payOf : Cond.code yX1_payOf cX1_payOf 3 (some .int) ∈ bigW := mem_big (mem_t1 175 rfl) rfl
theorem mw_m_X3_75 : Cond.methodLinkNest RX3 75 yX1_setPay "GameNet" ∈ nestW := mem_nest (mem_t1 176 rfl) rfl
theorem mw_i_X1_setPay : Cond.instanceMethod yX1_setPay ∈ bigW := mem_big (mem_t1 178 rfl) rfl
theorem mw_c_X1_setPay : Cond.code yX1_setPay cX1_setPay 4 none ∈ bigW := mem_big (mem_t1 179 rfl) rfl
theorem mw_m_L_32 : Cond.methodLink RL 32 yX3_bar ∈ bigW := mem_big (mem_t1 180 rfl) rfl
theorem mw_i_X3_bar : Cond.instanceMethod yX3_bar ∈ bigW := mem_big (mem_t1 181 rfl) rfl
theorem mw_v_X3_bar : Cond.selects RX3 yX3_bar yX3_bar ∈ bigW := mem_big (mem_t1 182 rfl) rfl
theorem mw_c_X3_bar : Cond.code yX3_bar cX3_bar 3 (some .int) ∈ bigW := mem_big (mem_t1 183 rfl) rfl
theorem mw_m_L_36 : Cond.methodLink RL 36 yX3_hold ∈ bigW := mem_big (mem_t1 184 rfl) rfl
theorem mw_i_X3_hold : Cond.instanceMethod yX3_hold ∈ bigW := mem_big (mem_t1 185 rfl) rfl
theorem mw_v_X3_hold : Cond.selects RX3 yX3_hold yX3_hold ∈ bigW := mem_big (mem_t1 186 rfl) rfl
theorem mw_c_X3_hold : Cond.code yX3_hold cX3_hold 4 (some .int) ∈ bigW := mem_big (mem_t1 187 rfl) rfl
theorem mw_m_X3_81 : Cond.methodLinkNest RX3 81 yX1_has "GameNet" ∈ nestW := mem_nest (mem_t1 188 rfl) rfl
theorem mw_m_X3_84 : Cond.methodLink RX3 84 yX3_bitOf ∈ bigW := mem_big (mem_t1 189 rfl) rfl
theorem mw_s_X3_bitOf : Cond.static yX3_bitOf ∈ bigW := mem_big (mem_t1 190 rfl) rfl
theorem mw_c_X3_bitOf : Cond.code yX3_bitOf cX3_bitOf 2 (some .int) ∈ bigW := mem_big (mem_t1 191 rfl) rfl
theorem mw_m_L_41 : Cond.methodLink RL 41 yX3_state ∈ bigW := mem_big (mem_t1 192 rfl) rfl
theorem mw_i_X3_state : Cond.instanceMethod yX3_state ∈ bigW := mem_big (mem_t1 193 rfl) rfl
theorem mw_v_X3_state : Cond.selects RX3 yX3_state yX3_state ∈ bigW := mem_big (mem_t1 194 rfl) rfl
theorem mw_c_X3_state : Cond.code yX3_state cX3_state 3 (some .int) ∈ bigW := mem_big (mem_t1 195 rfl) rfl
theorem mw_m_X3_87 : Cond.methodLinkNest RX3 87 yX1_isState "GameNet" ∈ nestW := mem_nest (mem_t1 196 rfl) rfl
theorem mw_i_X1_isState : Cond.instanceMethod yX1_isState ∈ bigW := mem_big (mem_t1 198 rfl) rfl
theorem mw_c_X1_isState : Cond.code yX1_isState cX1_isState 2 (some .boolean) ∈ bigW := mem_big (mem_t1 199 rfl) rfl
theorem mw_m_X1_32 : Cond.methodLink RX1 32 yX1_states ∈ bigW := mem_big (mem_t1 200 rfl) rfl
theorem mw_i_X1_states : Cond.instanceMethod yX1_states ∈ bigW := mem_big (mem_t1 202 rfl) rfl
theorem mw_c_X1_states : Cond.code yX1_states cX1_states 1 (some .int) ∈ bigW := mem_big (mem_t1 203 rfl) rfl
theorem mw_m_L_45 : Cond.methodLink RL 45 yX3_wage ∈ bigW := mem_big (mem_t1 204 rfl) rfl
theorem mw_i_X3_wage : Cond.instanceMethod yX3_wage ∈ bigW := mem_big (mem_t1 205 rfl) rfl
theorem mw_v_X3_wage : Cond.selects RX3 yX3_wage yX3_wage ∈ bigW := mem_big (mem_t1 206 rfl) rfl
theorem mw_c_X3_wage : Cond.code yX3_wage cX3_wage 3 (some .int) ∈ bigW := mem_big (mem_t1 207 rfl) rfl
theorem mw_k_X3_90 : Cond.constant RX3 90 (-100001) ∈ bigW := mem_big (mem_t1 208 rfl) rfl
theorem mw_m_X3_91 : Cond.methodLinkNest RX3 91 yX1_wageOf "GameNet" ∈ nestW := mem_nest (mem_t1 209 rfl) rfl
theorem mw_i_X1_wageOf : Cond.instanceMethod yX1_wageOf ∈ bigW := mem_big (mem_t1 211 rfl) rfl
theorem mw_c_X1_wageOf : Cond.code yX1_wageOf cX1_wageOf 6 (some .int) ∈ bigW := mem_big (mem_t1 212 rfl) rfl
theorem mw_m_X1_40 : Cond.methodLink RX1 40 yX1_weightsInto ∈ bigW := mem_big (mem_t1 213 rfl) rfl
theorem mw_i_X1_weightsInto : Cond.instanceMethod yX1_weightsInto ∈ bigW := mem_big (mem_t1 215 rfl) rfl
theorem mw_c_X1_weightsInto : Cond.code yX1_weightsInto cX1_weightsInto 5 (some .int) ∈ bigW := mem_big (mem_t1 216 rfl) rfl
theorem mw_m_X1_43 : Cond.methodLink RX1 43 yX1_payOf ∈ bigW := mem_big (mem_t1 217 rfl) rfl
theorem mw_m_L_49 : Cond.methodLink RL 49 yX3_sum ∈ bigW := mem_big (mem_t1 218 rfl) rfl
theorem mw_i_X3_sum : Cond.instanceMethod yX3_sum ∈ bigW := mem_big (mem_t1 219 rfl) rfl
theorem mw_v_X3_sum : Cond.selects RX3 yX3_sum yX3_sum ∈ bigW := mem_big (mem_t1 220 rfl) rfl
theorem mw_c_X3_sum : Cond.code yX3_sum cX3_sum 3 (some .int) ∈ bigW := mem_big (mem_t1 221 rfl) rfl
theorem mw_m_L_54 : Cond.methodLink RL 54 yX3_step ∈ bigW := mem_big (mem_t1 222 rfl) rfl
theorem mw_i_X3_step : Cond.instanceMethod yX3_step ∈ bigW := mem_big (mem_t1 223 rfl) rfl
theorem mw_v_X3_step : Cond.selects RX3 yX3_step yX3_step ∈ bigW := mem_big (mem_t1 224 rfl) rfl
theorem mw_c_X3_step : Cond.code yX3_step cX3_step 4 (some .int) ∈ bigW := mem_big (mem_t1 225 rfl) rfl
theorem mw_m_X3_95 : Cond.methodLink RX3 95 yX3_isRule ∈ bigW := mem_big (mem_t1 226 rfl) rfl
theorem mw_s_X3_isRule : Cond.static yX3_isRule ∈ bigW := mem_big (mem_t1 227 rfl) rfl
theorem mw_c_X3_isRule : Cond.code yX3_isRule cX3_isRule 1 (some .boolean) ∈ bigW := mem_big (mem_t1 228 rfl) rfl
theorem mw_m_X3_98 : Cond.methodLinkNest RX3 98 yX0_next "GameNet" ∈ nestW := mem_nest (mem_t1 229 rfl) rfl
theorem mw_i_X0_next : Cond.instanceMethod yX0_next ∈ bigW := mem_big (mem_t1 231 rfl) rfl
theorem mw_c_X0_next : Cond.code yX0_next cX0_next 7 (some .int) ∈ bigW := mem_big (mem_t1 232 rfl) rfl
theorem mw_m_X0_26 : Cond.methodLink RX0 26 yX0_wishOf ∈ bigW := mem_big (mem_t1 233 rfl) rfl
theorem mw_i_X0_wishOf : Cond.instanceMethod yX0_wishOf ∈ bigW := mem_big (mem_t1 235 rfl) rfl
theorem mw_c_X0_wishOf : Cond.code yX0_wishOf cX0_wishOf 4 (some .int) ∈ bigW := mem_big (mem_t1 236 rfl) rfl
theorem mw_m_X0_36 : Cond.methodLink RX0 36 yX0_takeIntoUse ∈ bigW := mem_big (mem_t1 237 rfl) rfl
theorem mw_i_X0_takeIntoUse : Cond.instanceMethod yX0_takeIntoUse ∈ bigW := mem_big (mem_t1 239 rfl) rfl
theorem mw_c_X0_takeIntoUse : Cond.code yX0_takeIntoUse cX0_takeIntoUse 3 none ∈ bigW := mem_big (mem_t2 0 rfl) rfl
theorem mw_m_X0_50 : Cond.methodLinkNest RX0 50 yX1_states "GameNet" ∈ nestW := mem_nest (mem_t2 1 rfl) rfl
theorem mw_m_X0_40 : Cond.methodLink RX0 40 yX0_repliesTo ∈ bigW := mem_big (mem_t2 2 rfl) rfl
theorem mw_i_X0_repliesTo : Cond.instanceMethod yX0_repliesTo ∈ bigW := mem_big (mem_t2 4 rfl) rfl
theorem mw_c_X0_repliesTo : Cond.code yX0_repliesTo cX0_repliesTo 6 (some .int) ∈ bigW := mem_big (mem_t2 5 rfl) rfl
theorem mw_m_X0_54 : Cond.methodLinkNest RX0 54 yX1_wageOf "GameNet" ∈ nestW := mem_nest (mem_t2 6 rfl) rfl
theorem mw_m_X0_58 : Cond.methodLinkNest RX0 58 yX3_bitOf "GameNet" ∈ nestW := mem_nest (mem_t2 7 rfl) rfl
theorem mw_m_X0_44 : Cond.methodLink RX0 44 yX0_copiesIn ∈ bigW := mem_big (mem_t2 8 rfl) rfl
theorem mw_i_X0_copiesIn : Cond.instanceMethod yX0_copiesIn ∈ bigW := mem_big (mem_t2 10 rfl) rfl
theorem mw_c_X0_copiesIn : Cond.code yX0_copiesIn cX0_copiesIn 4 (some .int) ∈ bigW := mem_big (mem_t2 11 rfl) rfl
theorem mw_m_X0_61 : Cond.methodLink RX0 61 yX0_bestBeside ∈ bigW := mem_big (mem_t2 12 rfl) rfl
theorem mw_i_X0_bestBeside : Cond.instanceMethod yX0_bestBeside ∈ bigW := mem_big (mem_t2 14 rfl) rfl
theorem mw_c_X0_bestBeside : Cond.code yX0_bestBeside cX0_bestBeside 4 (some .int) ∈ bigW := mem_big (mem_t2 15 rfl) rfl
theorem mw_m_X0_64 : Cond.methodLinkNest RX0 64 yX1_weightOf "GameNet" ∈ nestW := mem_nest (mem_t2 16 rfl) rfl
theorem mw_m_X0_47 : Cond.methodLink RX0 47 yX0_overBarIn ∈ bigW := mem_big (mem_t2 17 rfl) rfl
theorem mw_i_X0_overBarIn : Cond.instanceMethod yX0_overBarIn ∈ bigW := mem_big (mem_t2 19 rfl) rfl
theorem mw_c_X0_overBarIn : Cond.code yX0_overBarIn cX0_overBarIn 5 (some .int) ∈ bigW := mem_big (mem_t2 20 rfl) rfl
theorem mw_m_X0_73 : Cond.methodLinkNest RX0 73 yX1_reaches "GameNet" ∈ nestW := mem_nest (mem_t2 21 rfl) rfl
theorem mw_i_X1_reaches : Cond.instanceMethod yX1_reaches ∈ bigW := mem_big (mem_t2 23 rfl) rfl
theorem mw_c_X1_reaches : Cond.code yX1_reaches cX1_reaches 4 (some .boolean) ∈ bigW := mem_big (mem_t2 24 rfl) rfl
theorem mw_m_L_58 : Cond.methodLink RL 58 yX3_after ∈ bigW := mem_big (mem_t2 25 rfl) rfl
theorem mw_i_X3_after : Cond.instanceMethod yX3_after ∈ bigW := mem_big (mem_t2 26 rfl) rfl
theorem mw_v_X3_after : Cond.selects RX3 yX3_after yX3_after ∈ bigW := mem_big (mem_t2 27 rfl) rfl
theorem mw_c_X3_after : Cond.code yX3_after cX3_after 3 (some .int) ∈ bigW := mem_big (mem_t2 28 rfl) rfl
theorem mw_m_L_62 : Cond.methodLink RL 62 yX3_goes ∈ bigW := mem_big (mem_t2 29 rfl) rfl
theorem mw_i_X3_goes : Cond.instanceMethod yX3_goes ∈ bigW := mem_big (mem_t2 30 rfl) rfl
theorem mw_v_X3_goes : Cond.selects RX3 yX3_goes yX3_goes ∈ bigW := mem_big (mem_t2 31 rfl) rfl
theorem mw_c_X3_goes : Cond.code yX3_goes cX3_goes 3 (some .int) ∈ bigW := mem_big (mem_t2 32 rfl) rfl
theorem mw_m_X3_101 : Cond.methodLinkNest RX3 101 yX2_goThrough "GameNet" ∈ nestW := mem_nest (mem_t2 33 rfl) rfl
theorem mw_i_X2_goThrough : Cond.instanceMethod yX2_goThrough ∈ bigW := mem_big (mem_t2 35 rfl) rfl
theorem mw_c_X2_goThrough : Cond.code yX2_goThrough cX2_goThrough 5 none ∈ bigW := mem_big (mem_t2 36 rfl) rfl
theorem mw_m_X2_43 : Cond.methodLinkNest RX2 43 yX1_states "GameNet" ∈ nestW := mem_nest (mem_t2 37 rfl) rfl
theorem mw_m_X2_49 : Cond.methodLink RX2 49 yX2_isBeginning ∈ bigW := mem_big (mem_t2 38 rfl) rfl
theorem mw_i_X2_isBeginning : Cond.instanceMethod yX2_isBeginning ∈ bigW := mem_big (mem_t2 40 rfl) rfl
theorem mw_c_X2_isBeginning : Cond.code yX2_isBeginning cX2_isBeginning 2 (some .boolean) ∈ bigW := mem_big (mem_t2 41 rfl) rfl
theorem mw_m_X2_53 : Cond.methodLinkNest RX2 53 yX0_next "GameNet" ∈ nestW := mem_nest (mem_t2 42 rfl) rfl
theorem mw_m_X2_59 : Cond.methodLink RX2 59 yX2_follow ∈ bigW := mem_big (mem_t2 43 rfl) rfl
theorem mw_i_X2_follow : Cond.instanceMethod yX2_follow ∈ bigW := mem_big (mem_t2 45 rfl) rfl
theorem mw_c_X2_follow : Cond.code yX2_follow cX2_follow 4 none ∈ bigW := mem_big (mem_t2 46 rfl) rfl
theorem mw_m_X2_63 : Cond.methodLink RX2 63 yX2_closeRing ∈ bigW := mem_big (mem_t2 47 rfl) rfl
theorem mw_i_X2_closeRing : Cond.instanceMethod yX2_closeRing ∈ bigW := mem_big (mem_t2 49 rfl) rfl
theorem mw_c_X2_closeRing : Cond.code yX2_closeRing cX2_closeRing 5 none ∈ bigW := mem_big (mem_t2 50 rfl) rfl
theorem mw_m_X2_69 : Cond.methodLink RX2 69 yJ9_min_7cf53 ∈ bigW := mem_big (mem_t2 51 rfl) rfl
theorem mw_s_J9_min_7cf53 : Cond.static yJ9_min_7cf53 ∈ bigW := mem_big (mem_t2 52 rfl) rfl
theorem mw_c_J9_min_7cf53 : Cond.code yJ9_min_7cf53 cJ9_min_7cf53 2 (some .int) ∈ bigW := mem_big (mem_t2 53 rfl) rfl
theorem mw_m_X2_66 : Cond.methodLink RX2 66 yX2_closeTail ∈ bigW := mem_big (mem_t2 54 rfl) rfl
theorem mw_i_X2_closeTail : Cond.instanceMethod yX2_closeTail ∈ bigW := mem_big (mem_t2 56 rfl) rfl
theorem mw_c_X2_closeTail : Cond.code yX2_closeTail cX2_closeTail 7 none ∈ bigW := mem_big (mem_t2 57 rfl) rfl
theorem mw_m_X3_110 : Cond.methodLinkNest RX3 110 yX2_ringLength "GameNet" ∈ nestW := mem_nest (mem_t2 58 rfl) rfl
theorem mw_i_X2_ringLength : Cond.instanceMethod yX2_ringLength ∈ bigW := mem_big (mem_t2 60 rfl) rfl
theorem mw_c_X2_ringLength : Cond.code yX2_ringLength cX2_ringLength 4 (some .int) ∈ bigW := mem_big (mem_t2 61 rfl) rfl
theorem mw_m_X3_114 : Cond.methodLinkNest RX3 114 yX2_firstOfRing "GameNet" ∈ nestW := mem_nest (mem_t2 62 rfl) rfl
theorem mw_i_X2_firstOfRing : Cond.instanceMethod yX2_firstOfRing ∈ bigW := mem_big (mem_t2 64 rfl) rfl
theorem mw_c_X2_firstOfRing : Cond.code yX2_firstOfRing cX2_firstOfRing 5 (some .int) ∈ bigW := mem_big (mem_t2 65 rfl) rfl
theorem mw_m_L_66 : Cond.methodLink RL 66 yX3_end ∈ bigW := mem_big (mem_t2 66 rfl) rfl
theorem mw_i_X3_end : Cond.instanceMethod yX3_end ∈ bigW := mem_big (mem_t2 67 rfl) rfl
theorem mw_v_X3_end : Cond.selects RX3 yX3_end yX3_end ∈ bigW := mem_big (mem_t2 68 rfl) rfl
theorem mw_c_X3_end : Cond.code yX3_end cX3_end 3 (some .int) ∈ bigW := mem_big (mem_t2 69 rfl) rfl
theorem mw_m_X3_117 : Cond.methodLinkNest RX3 117 yX2_howManyEnds "GameNet" ∈ nestW := mem_nest (mem_t2 70 rfl) rfl
theorem mw_i_X2_howManyEnds : Cond.instanceMethod yX2_howManyEnds ∈ bigW := mem_big (mem_t2 72 rfl) rfl
theorem mw_c_X2_howManyEnds : Cond.code yX2_howManyEnds cX2_howManyEnds 3 (some .int) ∈ bigW := mem_big (mem_t2 73 rfl) rfl
theorem mw_m_X3_121 : Cond.methodLinkNest RX3 121 yX2_endAt "GameNet" ∈ nestW := mem_nest (mem_t2 74 rfl) rfl
theorem mw_i_X2_endAt : Cond.instanceMethod yX2_endAt ∈ bigW := mem_big (mem_t2 76 rfl) rfl
theorem mw_c_X2_endAt : Cond.code yX2_endAt cX2_endAt 4 (some .int) ∈ bigW := mem_big (mem_t2 77 rfl) rfl
theorem mw_m_L_70 : Cond.methodLink RL 70 yX3_basin ∈ bigW := mem_big (mem_t2 78 rfl) rfl
theorem mw_i_X3_basin : Cond.instanceMethod yX3_basin ∈ bigW := mem_big (mem_t2 79 rfl) rfl
theorem mw_v_X3_basin : Cond.selects RX3 yX3_basin yX3_basin ∈ bigW := mem_big (mem_t2 80 rfl) rfl
theorem mw_c_X3_basin : Cond.code yX3_basin cX3_basin 5 (some .int) ∈ bigW := mem_big (mem_t2 81 rfl) rfl
theorem mw_m_X3_124 : Cond.methodLinkNest RX3 124 yX2_howManyComeTo "GameNet" ∈ nestW := mem_nest (mem_t2 82 rfl) rfl
theorem mw_i_X2_howManyComeTo : Cond.instanceMethod yX2_howManyComeTo ∈ bigW := mem_big (mem_t2 84 rfl) rfl
theorem mw_c_X2_howManyComeTo : Cond.code yX2_howManyComeTo cX2_howManyComeTo 4 (some .int) ∈ bigW := mem_big (mem_t2 85 rfl) rfl
theorem mw_m_X3_127 : Cond.methodLinkNest RX3 127 yX2_greatestTail "GameNet" ∈ nestW := mem_nest (mem_t2 86 rfl) rfl
theorem mw_i_X2_greatestTail : Cond.instanceMethod yX2_greatestTail ∈ bigW := mem_big (mem_t2 88 rfl) rfl
theorem mw_c_X2_greatestTail : Cond.code yX2_greatestTail cX2_greatestTail 4 (some .int) ∈ bigW := mem_big (mem_t2 89 rfl) rfl
theorem mw_m_X2_75 : Cond.methodLink RX2 75 yJ9_max_7cf53 ∈ bigW := mem_big (mem_t2 90 rfl) rfl
theorem mw_s_J9_max_7cf53 : Cond.static yJ9_max_7cf53 ∈ bigW := mem_big (mem_t2 91 rfl) rfl
theorem mw_c_J9_max_7cf53 : Cond.code yJ9_max_7cf53 cJ9_max_7cf53 2 (some .int) ∈ bigW := mem_big (mem_t2 92 rfl) rfl
theorem mw_m_L_74 : Cond.methodLink RL 74 yX3_lone ∈ bigW := mem_big (mem_t2 93 rfl) rfl
theorem mw_i_X3_lone : Cond.instanceMethod yX3_lone ∈ bigW := mem_big (mem_t2 94 rfl) rfl
theorem mw_v_X3_lone : Cond.selects RX3 yX3_lone yX3_lone ∈ bigW := mem_big (mem_t2 95 rfl) rfl
theorem mw_c_X3_lone : Cond.code yX3_lone cX3_lone 4 (some .int) ∈ bigW := mem_big (mem_t2 96 rfl) rfl
theorem mw_m_X3_130 : Cond.methodLink RX3 130 yX3_clearMarks ∈ bigW := mem_big (mem_t2 97 rfl) rfl
theorem mw_i_X3_clearMarks : Cond.instanceMethod yX3_clearMarks ∈ bigW := mem_big (mem_t2 99 rfl) rfl
theorem mw_c_X3_clearMarks : Cond.code yX3_clearMarks cX3_clearMarks 2 none ∈ bigW := mem_big (mem_t2 100 rfl) rfl
theorem mw_m_X3_133 : Cond.methodLinkNest RX3 133 yX1_states "GameNet" ∈ nestW := mem_nest (mem_t2 101 rfl) rfl
theorem mw_m_X3_136 : Cond.methodLink RX3 136 yX3_isBeginning ∈ bigW := mem_big (mem_t2 102 rfl) rfl
theorem mw_i_X3_isBeginning : Cond.instanceMethod yX3_isBeginning ∈ bigW := mem_big (mem_t2 104 rfl) rfl
theorem mw_c_X3_isBeginning : Cond.code yX3_isBeginning cX3_isBeginning 2 (some .boolean) ∈ bigW := mem_big (mem_t2 105 rfl) rfl
theorem mw_m_L_78 : Cond.methodLink RL 78 yX3_before ∈ bigW := mem_big (mem_t2 106 rfl) rfl
theorem mw_i_X3_before : Cond.instanceMethod yX3_before ∈ bigW := mem_big (mem_t2 107 rfl) rfl
theorem mw_v_X3_before : Cond.selects RX3 yX3_before yX3_before ∈ bigW := mem_big (mem_t2 108 rfl) rfl
theorem mw_c_X3_before : Cond.code yX3_before cX3_before 5 (some .int) ∈ bigW := mem_big (mem_t2 109 rfl) rfl
theorem mw_m_L_82 : Cond.methodLink RL 82 yX3_rise ∈ bigW := mem_big (mem_t2 110 rfl) rfl
theorem mw_i_X3_rise : Cond.instanceMethod yX3_rise ∈ bigW := mem_big (mem_t2 111 rfl) rfl
theorem mw_v_X3_rise : Cond.selects RX3 yX3_rise yX3_rise ∈ bigW := mem_big (mem_t2 112 rfl) rfl
theorem mw_c_X3_rise : Cond.code yX3_rise cX3_rise 1 (some .int) ∈ bigW := mem_big (mem_t2 113 rfl) rfl
theorem mw_m_X3_139 : Cond.methodLinkNest RX3 139 yX1_riseOf "GameNet" ∈ nestW := mem_nest (mem_t2 114 rfl) rfl
theorem mw_i_X1_riseOf : Cond.instanceMethod yX1_riseOf ∈ bigW := mem_big (mem_t2 116 rfl) rfl
theorem mw_c_X1_riseOf : Cond.code yX1_riseOf cX1_riseOf 7 (some .int) ∈ bigW := mem_big (mem_t2 117 rfl) rfl
theorem mw_m_X1_46 : Cond.methodLinkNest RX1 46 yX3_bitOf "GameNet" ∈ nestW := mem_nest (mem_t2 118 rfl) rfl
theorem mw_m_X1_49 : Cond.methodLink RX1 49 yX1_gainOfOne ∈ bigW := mem_big (mem_t2 119 rfl) rfl
theorem mw_i_X1_gainOfOne : Cond.instanceMethod yX1_gainOfOne ∈ bigW := mem_big (mem_t2 121 rfl) rfl
theorem mw_c_X1_gainOfOne : Cond.code yX1_gainOfOne cX1_gainOfOne 1 (some .int) ∈ bigW := mem_big (mem_t2 122 rfl) rfl
theorem mw_m_X1_52 : Cond.methodLink RX1 52 yX1_gainOfZero ∈ bigW := mem_big (mem_t2 123 rfl) rfl
theorem mw_i_X1_gainOfZero : Cond.instanceMethod yX1_gainOfZero ∈ bigW := mem_big (mem_t2 125 rfl) rfl
theorem mw_c_X1_gainOfZero : Cond.code yX1_gainOfZero cX1_gainOfZero 1 (some .int) ∈ bigW := mem_big (mem_t2 126 rfl) rfl
theorem mw_m_L_86 : Cond.methodLink RL 86 yX3_highest ∈ bigW := mem_big (mem_t2 127 rfl) rfl
theorem mw_i_X3_highest : Cond.instanceMethod yX3_highest ∈ bigW := mem_big (mem_t2 128 rfl) rfl
theorem mw_v_X3_highest : Cond.selects RX3 yX3_highest yX3_highest ∈ bigW := mem_big (mem_t2 129 rfl) rfl
theorem mw_c_X3_highest : Cond.code yX3_highest cX3_highest 5 (some .int) ∈ bigW := mem_big (mem_t2 130 rfl) rfl
theorem mw_m_L_90 : Cond.methodLink RL 90 yX3_rests ∈ bigW := mem_big (mem_t2 131 rfl) rfl
theorem mw_i_X3_rests : Cond.instanceMethod yX3_rests ∈ bigW := mem_big (mem_t2 132 rfl) rfl
theorem mw_v_X3_rests : Cond.selects RX3 yX3_rests yX3_rests ∈ bigW := mem_big (mem_t2 133 rfl) rfl
theorem mw_c_X3_rests : Cond.code yX3_rests cX3_rests 1 (some .int) ∈ bigW := mem_big (mem_t2 134 rfl) rfl
theorem mw_m_X3_142 : Cond.methodLink RX3 142 yX3_isAtRest ∈ bigW := mem_big (mem_t2 135 rfl) rfl
theorem mw_i_X3_isAtRest : Cond.instanceMethod yX3_isAtRest ∈ bigW := mem_big (mem_t2 137 rfl) rfl
theorem mw_c_X3_isAtRest : Cond.code yX3_isAtRest cX3_isAtRest 2 (some .boolean) ∈ bigW := mem_big (mem_t2 138 rfl) rfl
theorem mw_m_L_94 : Cond.methodLink RL 94 yX3_restMany ∈ bigW := mem_big (mem_t2 139 rfl) rfl
theorem mw_i_X3_restMany : Cond.instanceMethod yX3_restMany ∈ bigW := mem_big (mem_t2 140 rfl) rfl
theorem mw_v_X3_restMany : Cond.selects RX3 yX3_restMany yX3_restMany ∈ bigW := mem_big (mem_t2 141 rfl) rfl
theorem mw_c_X3_restMany : Cond.code yX3_restMany cX3_restMany 3 (some .int) ∈ bigW := mem_big (mem_t2 142 rfl) rfl
theorem mw_m_L_98 : Cond.methodLink RL 98 yX3_tip ∈ bigW := mem_big (mem_t2 143 rfl) rfl
theorem mw_i_X3_tip : Cond.instanceMethod yX3_tip ∈ bigW := mem_big (mem_t2 144 rfl) rfl
theorem mw_v_X3_tip : Cond.selects RX3 yX3_tip yX3_tip ∈ bigW := mem_big (mem_t2 145 rfl) rfl
theorem mw_c_X3_tip : Cond.code yX3_tip cX3_tip 4 (some .int) ∈ bigW := mem_big (mem_t2 146 rfl) rfl
theorem mw_m_X3_145 : Cond.methodLink RX3 145 yJ6_bitCount_0f7a4 ∈ bigW := mem_big (mem_t2 147 rfl) rfl
theorem mw_s_J6_bitCount_0f7a4 : Cond.static yJ6_bitCount_0f7a4 ∈ bigW := mem_big (mem_t2 148 rfl) rfl
theorem mw_c_J6_bitCount_0f7a4 : Cond.code yJ6_bitCount_0f7a4 cJ6_bitCount_0f7a4 1 (some .int) ∈ bigW := mem_big (mem_t2 149 rfl) rfl
theorem mw_k_J6_265 : Cond.constant RJ6 265 1431655765 ∈ bigW := mem_big (mem_t2 150 rfl) rfl
theorem mw_k_J6_266 : Cond.constant RJ6 266 858993459 ∈ bigW := mem_big (mem_t2 151 rfl) rfl
theorem mw_k_J6_267 : Cond.constant RJ6 267 252645135 ∈ bigW := mem_big (mem_t2 152 rfl) rfl
theorem mw_m_X3_150 : Cond.methodLink RX3 150 yX3_tipsAll ∈ bigW := mem_big (mem_t2 153 rfl) rfl
theorem mw_i_X3_tipsAll : Cond.instanceMethod yX3_tipsAll ∈ bigW := mem_big (mem_t2 155 rfl) rfl
theorem mw_c_X3_tipsAll : Cond.code yX3_tipsAll cX3_tipsAll 6 (some .boolean) ∈ bigW := mem_big (mem_t2 156 rfl) rfl
theorem mw_m_L_102 : Cond.methodLink RL 102 yX3_share ∈ bigW := mem_big (mem_t2 157 rfl) rfl
theorem mw_i_X3_share : Cond.instanceMethod yX3_share ∈ bigW := mem_big (mem_t2 158 rfl) rfl
theorem mw_v_X3_share : Cond.selects RX3 yX3_share yX3_share ∈ bigW := mem_big (mem_t2 159 rfl) rfl
theorem mw_c_X3_share : Cond.code yX3_share cX3_share 5 (some .int) ∈ bigW := mem_big (mem_t2 160 rfl) rfl
theorem mw_m_X3_153 : Cond.methodLinkNest RX3 153 yX1_gainOfZero "GameNet" ∈ nestW := mem_nest (mem_t2 161 rfl) rfl
theorem mw_m_X3_156 : Cond.methodLinkNest RX3 156 yX1_gainOfOne "GameNet" ∈ nestW := mem_nest (mem_t2 162 rfl) rfl
theorem mw_m_X3_159 : Cond.methodLink RX3 159 yX3_commonDivisor ∈ bigW := mem_big (mem_t2 163 rfl) rfl
theorem mw_s_X3_commonDivisor : Cond.static yX3_commonDivisor ∈ bigW := mem_big (mem_t2 164 rfl) rfl
theorem mw_c_X3_commonDivisor : Cond.code yX3_commonDivisor cX3_commonDivisor 6 (some .int) ∈ bigW := mem_big (mem_t2 165 rfl) rfl
theorem mw_m_L_106 : Cond.methodLink RL 106 yX3_hangs ∈ bigW := mem_big (mem_t2 166 rfl) rfl
theorem mw_i_X3_hangs : Cond.instanceMethod yX3_hangs ∈ bigW := mem_big (mem_t2 167 rfl) rfl
theorem mw_v_X3_hangs : Cond.selects RX3 yX3_hangs yX3_hangs ∈ bigW := mem_big (mem_t2 168 rfl) rfl
theorem mw_c_X3_hangs : Cond.code yX3_hangs cX3_hangs 4 (some .int) ∈ bigW := mem_big (mem_t2 169 rfl) rfl
theorem mw_m_X3_162 : Cond.methodLinkNest RX3 162 yX1_reaches "GameNet" ∈ nestW := mem_nest (mem_t2 170 rfl) rfl
theorem mw_m_L_110 : Cond.methodLink RL 110 yX3_told ∈ bigW := mem_big (mem_t2 171 rfl) rfl
theorem mw_i_X3_told : Cond.instanceMethod yX3_told ∈ bigW := mem_big (mem_t2 172 rfl) rfl
theorem mw_v_X3_told : Cond.selects RX3 yX3_told yX3_told ∈ bigW := mem_big (mem_t2 173 rfl) rfl
theorem mw_c_X3_told : Cond.code yX3_told cX3_told 2 (some .int) ∈ bigW := mem_big (mem_t2 174 rfl) rfl
theorem mw_m_X3_166 : Cond.methodLinkNest RX3 166 yX1_howManyLines "GameNet" ∈ nestW := mem_nest (mem_t2 175 rfl) rfl
theorem mw_i_X1_howManyLines : Cond.instanceMethod yX1_howManyLines ∈ bigW := mem_big (mem_t2 177 rfl) rfl
theorem mw_c_X1_howManyLines : Cond.code yX1_howManyLines cX1_howManyLines 4 (some .int) ∈ bigW := mem_big (mem_t2 178 rfl) rfl
theorem mw_m_X3_169 : Cond.methodLink RX3 169 yX3_toldPay ∈ bigW := mem_big (mem_t2 179 rfl) rfl
theorem mw_i_X3_toldPay : Cond.instanceMethod yX3_toldPay ∈ bigW := mem_big (mem_t2 181 rfl) rfl
theorem mw_c_X3_toldPay : Cond.code yX3_toldPay cX3_toldPay 3 (some .int) ∈ bigW := mem_big (mem_t2 182 rfl) rfl
theorem mw_k_L_10 : Cond.classLink RL 10 RX4 ∈ bigW := mem_big (mem_t2 183 rfl) rfl
theorem mw_n_X4 : Cond.instantiable RX4 9 ∈ bigW := mem_big (mem_t2 184 rfl) rfl
theorem mw_m_L_12 : Cond.methodLink RL 12 yX4_init ∈ bigW := mem_big (mem_t2 185 rfl) rfl
theorem mw_i_X4_init : Cond.instanceMethod yX4_init ∈ bigW := mem_big (mem_t2 186 rfl) rfl
theorem mw_c_X4_init : Cond.code yX4_init cX4_init 1 none ∈ bigW := mem_big (mem_t2 187 rfl) rfl
theorem mw_m_X4_1 : Cond.methodLink RX4 1 objectInit ∈ bigW := mem_big (mem_t2 188 rfl) rfl
theorem mw_f_X4_7 : Cond.fieldLink RX4 7 "GameNetModel" "n" "I" ∈ bigW := mem_big (mem_t2 189 rfl) rfl
theorem mw_f_X4_13 : Cond.fieldLink RX4 13 "GameNetModel" "weight" "[I" ∈ bigW := mem_big (mem_t2 190 rfl) rfl
theorem mw_f_X4_17 : Cond.fieldLink RX4 17 "GameNetModel" "pay" "[I" ∈ bigW := mem_big (mem_t2 191 rfl) rfl
theorem mw_f_X4_20 : Cond.fieldLink RX4 20 "GameNetModel" "bar" "I" ∈ bigW := mem_big (mem_t2 192 rfl) rfl
theorem mw_f_X4_40 : Cond.fieldLink RX4 40 "GameNetModel" "held" "I" ∈ bigW := mem_big (mem_t2 193 rfl) rfl
theorem mw_f_X4_43 : Cond.fieldLink RX4 43 "GameNetModel" "state" "I" ∈ bigW := mem_big (mem_t2 194 rfl) rfl
theorem mw_f_X4_23 : Cond.fieldLink RX4 23 "GameNetModel" "behind" "[I" ∈ bigW := mem_big (mem_t2 195 rfl) rfl
theorem mw_f_X4_26 : Cond.fieldLink RX4 26 "GameNetModel" "endOf" "[I" ∈ bigW := mem_big (mem_t2 196 rfl) rfl
theorem mw_f_X4_29 : Cond.fieldLink RX4 29 "GameNetModel" "tail" "[I" ∈ bigW := mem_big (mem_t2 197 rfl) rfl
theorem mw_m_L_17 : Cond.methodLink RL 17 yX4_players ∈ bigW := mem_big (mem_t2 217 rfl) rfl
theorem mw_i_X4_players : Cond.instanceMethod yX4_players ∈ bigW := mem_big (mem_t2 218 rfl) rfl
theorem mw_v_X4_players : Cond.selects RX4 yX4_players yX4_players ∈ bigW := mem_big (mem_t2 219 rfl) rfl
theorem mw_c_X4_players : Cond.code yX4_players cX4_players 4 (some .int) ∈ bigW := mem_big (mem_t2 220 rfl) rfl
theorem mw_m_X4_32 : Cond.methodLink RX4 32 yX4_in ∈ bigW := mem_big (mem_t2 221 rfl) rfl
theorem mw_s_X4_in : Cond.static yX4_in ∈ bigW := mem_big (mem_t2 222 rfl) rfl
theorem mw_c_X4_in : Cond.code yX4_in cX4_in 3 (some .boolean) ∈ bigW := mem_big (mem_t2 223 rfl) rfl
theorem mw_m_L_22 : Cond.methodLink RL 22 yX4_line ∈ bigW := mem_big (mem_t2 224 rfl) rfl
theorem mw_i_X4_line : Cond.instanceMethod yX4_line ∈ bigW := mem_big (mem_t2 225 rfl) rfl
theorem mw_v_X4_line : Cond.selects RX4 yX4_line yX4_line ∈ bigW := mem_big (mem_t2 226 rfl) rfl
theorem mw_c_X4_line : Cond.code yX4_line cX4_line 5 (some .int) ∈ bigW := mem_big (mem_t2 227 rfl) rfl
theorem mw_m_X4_50 : Cond.methodLink RX4 50 yX4_arePair ∈ bigW := mem_big (mem_t2 228 rfl) rfl
theorem mw_i_X4_arePair : Cond.instanceMethod yX4_arePair ∈ bigW := mem_big (mem_t2 230 rfl) rfl
theorem mw_c_X4_arePair : Cond.code yX4_arePair cX4_arePair 3 (some .boolean) ∈ bigW := mem_big (mem_t2 231 rfl) rfl
theorem mw_m_X4_46 : Cond.methodLink RX4 46 yX4_isOne ∈ bigW := mem_big (mem_t2 232 rfl) rfl
theorem mw_i_X4_isOne : Cond.instanceMethod yX4_isOne ∈ bigW := mem_big (mem_t2 234 rfl) rfl
theorem mw_c_X4_isOne : Cond.code yX4_isOne cX4_isOne 2 (some .boolean) ∈ bigW := mem_big (mem_t2 235 rfl) rfl
theorem mw_m_L_27 : Cond.methodLink RL 27 yX4_weight ∈ bigW := mem_big (mem_t2 236 rfl) rfl
theorem mw_i_X4_weight : Cond.instanceMethod yX4_weight ∈ bigW := mem_big (mem_t2 237 rfl) rfl
theorem mw_v_X4_weight : Cond.selects RX4 yX4_weight yX4_weight ∈ bigW := mem_big (mem_t2 238 rfl) rfl
theorem mw_c_X4_weight : Cond.code yX4_weight cX4_weight 3 (some .int) ∈ bigW := mem_big (mem_t2 239 rfl) rfl
theorem mw_m_L_31 : Cond.methodLink RL 31 yX4_pay ∈ bigW := mem_big (mem_t3 0 rfl) rfl
theorem mw_i_X4_pay : Cond.instanceMethod yX4_pay ∈ bigW := mem_big (mem_t3 1 rfl) rfl
theorem mw_v_X4_pay : Cond.selects RX4 yX4_pay yX4_pay ∈ bigW := mem_big (mem_t3 2 rfl) rfl
theorem mw_c_X4_pay : Cond.code yX4_pay cX4_pay 5 (some .int) ∈ bigW := mem_big (mem_t3 3 rfl) rfl
theorem mw_k_X4_54 : Cond.constant RX4 54 (-100002) ∈ bigW := mem_big (mem_t3 4 rfl) rfl
theorem mw_m_L_35 : Cond.methodLink RL 35 yX4_bar ∈ bigW := mem_big (mem_t3 5 rfl) rfl
theorem mw_i_X4_bar : Cond.instanceMethod yX4_bar ∈ bigW := mem_big (mem_t3 6 rfl) rfl
theorem mw_v_X4_bar : Cond.selects RX4 yX4_bar yX4_bar ∈ bigW := mem_big (mem_t3 7 rfl) rfl
theorem mw_c_X4_bar : Cond.code yX4_bar cX4_bar 3 (some .int) ∈ bigW := mem_big (mem_t3 8 rfl) rfl
theorem mw_m_L_40 : Cond.methodLink RL 40 yX4_hold ∈ bigW := mem_big (mem_t3 9 rfl) rfl
theorem mw_i_X4_hold : Cond.instanceMethod yX4_hold ∈ bigW := mem_big (mem_t3 10 rfl) rfl
theorem mw_v_X4_hold : Cond.selects RX4 yX4_hold yX4_hold ∈ bigW := mem_big (mem_t3 11 rfl) rfl
theorem mw_c_X4_hold : Cond.code yX4_hold cX4_hold 4 (some .int) ∈ bigW := mem_big (mem_t3 12 rfl) rfl
theorem mw_m_L_44 : Cond.methodLink RL 44 yX4_state ∈ bigW := mem_big (mem_t3 13 rfl) rfl
theorem mw_i_X4_state : Cond.instanceMethod yX4_state ∈ bigW := mem_big (mem_t3 14 rfl) rfl
theorem mw_v_X4_state : Cond.selects RX4 yX4_state yX4_state ∈ bigW := mem_big (mem_t3 15 rfl) rfl
theorem mw_c_X4_state : Cond.code yX4_state cX4_state 3 (some .int) ∈ bigW := mem_big (mem_t3 16 rfl) rfl
theorem mw_m_X4_55 : Cond.methodLink RX4 55 yX4_isState ∈ bigW := mem_big (mem_t3 17 rfl) rfl
theorem mw_i_X4_isState : Cond.instanceMethod yX4_isState ∈ bigW := mem_big (mem_t3 19 rfl) rfl
theorem mw_c_X4_isState : Cond.code yX4_isState cX4_isState 2 (some .boolean) ∈ bigW := mem_big (mem_t3 20 rfl) rfl
theorem mw_m_X4_36 : Cond.methodLink RX4 36 yX4_states ∈ bigW := mem_big (mem_t3 21 rfl) rfl
theorem mw_i_X4_states : Cond.instanceMethod yX4_states ∈ bigW := mem_big (mem_t3 23 rfl) rfl
theorem mw_c_X4_states : Cond.code yX4_states cX4_states 1 (some .int) ∈ bigW := mem_big (mem_t3 24 rfl) rfl
theorem mw_m_L_48 : Cond.methodLink RL 48 yX4_wage ∈ bigW := mem_big (mem_t3 25 rfl) rfl
theorem mw_i_X4_wage : Cond.instanceMethod yX4_wage ∈ bigW := mem_big (mem_t3 26 rfl) rfl
theorem mw_v_X4_wage : Cond.selects RX4 yX4_wage yX4_wage ∈ bigW := mem_big (mem_t3 27 rfl) rfl
theorem mw_c_X4_wage : Cond.code yX4_wage cX4_wage 4 (some .int) ∈ bigW := mem_big (mem_t3 28 rfl) rfl
theorem mw_k_X4_58 : Cond.constant RX4 58 (-100001) ∈ bigW := mem_big (mem_t3 29 rfl) rfl
theorem mw_m_X4_59 : Cond.methodLink RX4 59 yX4_wageOf ∈ bigW := mem_big (mem_t3 30 rfl) rfl
theorem mw_i_X4_wageOf : Cond.instanceMethod yX4_wageOf ∈ bigW := mem_big (mem_t3 32 rfl) rfl
theorem mw_c_X4_wageOf : Cond.code yX4_wageOf cX4_wageOf 6 (some .int) ∈ bigW := mem_big (mem_t3 33 rfl) rfl
theorem mw_m_L_53 : Cond.methodLink RL 53 yX4_sum ∈ bigW := mem_big (mem_t3 34 rfl) rfl
theorem mw_i_X4_sum : Cond.instanceMethod yX4_sum ∈ bigW := mem_big (mem_t3 35 rfl) rfl
theorem mw_v_X4_sum : Cond.selects RX4 yX4_sum yX4_sum ∈ bigW := mem_big (mem_t3 36 rfl) rfl
theorem mw_c_X4_sum : Cond.code yX4_sum cX4_sum 3 (some .int) ∈ bigW := mem_big (mem_t3 37 rfl) rfl
theorem mw_m_L_57 : Cond.methodLink RL 57 yX4_step ∈ bigW := mem_big (mem_t3 38 rfl) rfl
theorem mw_i_X4_step : Cond.instanceMethod yX4_step ∈ bigW := mem_big (mem_t3 39 rfl) rfl
theorem mw_v_X4_step : Cond.selects RX4 yX4_step yX4_step ∈ bigW := mem_big (mem_t3 40 rfl) rfl
theorem mw_c_X4_step : Cond.code yX4_step cX4_step 4 (some .int) ∈ bigW := mem_big (mem_t3 41 rfl) rfl
theorem mw_m_X4_76 : Cond.methodLink RX4 76 yX4_isRule ∈ bigW := mem_big (mem_t3 42 rfl) rfl
theorem mw_s_X4_isRule : Cond.static yX4_isRule ∈ bigW := mem_big (mem_t3 43 rfl) rfl
theorem mw_c_X4_isRule : Cond.code yX4_isRule cX4_isRule 1 (some .boolean) ∈ bigW := mem_big (mem_t3 44 rfl) rfl
theorem mw_m_X4_79 : Cond.methodLink RX4 79 yX4_next ∈ bigW := mem_big (mem_t3 45 rfl) rfl
theorem mw_i_X4_next : Cond.instanceMethod yX4_next ∈ bigW := mem_big (mem_t3 47 rfl) rfl
theorem mw_c_X4_next : Cond.code yX4_next cX4_next 7 (some .int) ∈ bigW := mem_big (mem_t3 48 rfl) rfl
theorem mw_m_X4_73 : Cond.methodLink RX4 73 yX4_wayBehind ∈ bigW := mem_big (mem_t3 49 rfl) rfl
theorem mw_i_X4_wayBehind : Cond.instanceMethod yX4_wayBehind ∈ bigW := mem_big (mem_t3 51 rfl) rfl
theorem mw_c_X4_wayBehind : Cond.code yX4_wayBehind cX4_wayBehind 4 (some .int) ∈ bigW := mem_big (mem_t3 52 rfl) rfl
theorem mw_m_X4_63 : Cond.methodLink RX4 63 yX4_copied ∈ bigW := mem_big (mem_t3 53 rfl) rfl
theorem mw_i_X4_copied : Cond.instanceMethod yX4_copied ∈ bigW := mem_big (mem_t3 55 rfl) rfl
theorem mw_c_X4_copied : Cond.code yX4_copied cX4_copied 7 (some .int) ∈ bigW := mem_big (mem_t3 56 rfl) rfl
theorem mw_m_X4_67 : Cond.methodLink RX4 67 yX4_tipped ∈ bigW := mem_big (mem_t3 57 rfl) rfl
theorem mw_i_X4_tipped : Cond.instanceMethod yX4_tipped ∈ bigW := mem_big (mem_t3 59 rfl) rfl
theorem mw_c_X4_tipped : Cond.code yX4_tipped cX4_tipped 6 (some .int) ∈ bigW := mem_big (mem_t3 60 rfl) rfl
theorem mw_m_X4_70 : Cond.methodLink RX4 70 yX4_gains ∈ bigW := mem_big (mem_t3 61 rfl) rfl
theorem mw_i_X4_gains : Cond.instanceMethod yX4_gains ∈ bigW := mem_big (mem_t3 63 rfl) rfl
theorem mw_c_X4_gains : Cond.code yX4_gains cX4_gains 4 (some .boolean) ∈ bigW := mem_big (mem_t3 64 rfl) rfl
theorem mw_m_L_61 : Cond.methodLink RL 61 yX4_after ∈ bigW := mem_big (mem_t3 65 rfl) rfl
theorem mw_i_X4_after : Cond.instanceMethod yX4_after ∈ bigW := mem_big (mem_t3 66 rfl) rfl
theorem mw_v_X4_after : Cond.selects RX4 yX4_after yX4_after ∈ bigW := mem_big (mem_t3 67 rfl) rfl
theorem mw_c_X4_after : Cond.code yX4_after cX4_after 3 (some .int) ∈ bigW := mem_big (mem_t3 68 rfl) rfl
theorem mw_m_L_65 : Cond.methodLink RL 65 yX4_goes ∈ bigW := mem_big (mem_t3 69 rfl) rfl
theorem mw_i_X4_goes : Cond.instanceMethod yX4_goes ∈ bigW := mem_big (mem_t3 70 rfl) rfl
theorem mw_v_X4_goes : Cond.selects RX4 yX4_goes yX4_goes ∈ bigW := mem_big (mem_t3 71 rfl) rfl
theorem mw_c_X4_goes : Cond.code yX4_goes cX4_goes 6 (some .int) ∈ bigW := mem_big (mem_t3 72 rfl) rfl
theorem mw_m_X4_85 : Cond.methodLink RX4 85 yX4_layBehind ∈ bigW := mem_big (mem_t3 73 rfl) rfl
theorem mw_i_X4_layBehind : Cond.instanceMethod yX4_layBehind ∈ bigW := mem_big (mem_t3 75 rfl) rfl
theorem mw_c_X4_layBehind : Cond.code yX4_layBehind cX4_layBehind 3 none ∈ bigW := mem_big (mem_t3 76 rfl) rfl
theorem mw_m_X4_82 : Cond.methodLink RX4 82 yX4_isBeginning ∈ bigW := mem_big (mem_t3 77 rfl) rfl
theorem mw_i_X4_isBeginning : Cond.instanceMethod yX4_isBeginning ∈ bigW := mem_big (mem_t3 79 rfl) rfl
theorem mw_c_X4_isBeginning : Cond.code yX4_isBeginning cX4_isBeginning 2 (some .boolean) ∈ bigW := mem_big (mem_t3 80 rfl) rfl
theorem mw_m_X4_89 : Cond.methodLink RX4 89 yX4_inRing ∈ bigW := mem_big (mem_t3 81 rfl) rfl
theorem mw_i_X4_inRing : Cond.instanceMethod yX4_inRing ∈ bigW := mem_big (mem_t3 83 rfl) rfl
theorem mw_c_X4_inRing : Cond.code yX4_inRing cX4_inRing 4 (some .int) ∈ bigW := mem_big (mem_t3 84 rfl) rfl
theorem mw_m_X4_93 : Cond.methodLink RX4 93 yX4_isOn ∈ bigW := mem_big (mem_t3 85 rfl) rfl
theorem mw_i_X4_isOn : Cond.instanceMethod yX4_isOn ∈ bigW := mem_big (mem_t3 87 rfl) rfl
theorem mw_c_X4_isOn : Cond.code yX4_isOn cX4_isOn 5 (some .boolean) ∈ bigW := mem_big (mem_t3 88 rfl) rfl
theorem mw_m_X4_96 : Cond.methodLink RX4 96 yX4_ringOf ∈ bigW := mem_big (mem_t3 89 rfl) rfl
theorem mw_i_X4_ringOf : Cond.instanceMethod yX4_ringOf ∈ bigW := mem_big (mem_t3 91 rfl) rfl
theorem mw_c_X4_ringOf : Cond.code yX4_ringOf cX4_ringOf 4 (some .int) ∈ bigW := mem_big (mem_t3 92 rfl) rfl
theorem mw_m_X4_99 : Cond.methodLink RX4 99 yX4_leastOf ∈ bigW := mem_big (mem_t3 93 rfl) rfl
theorem mw_i_X4_leastOf : Cond.instanceMethod yX4_leastOf ∈ bigW := mem_big (mem_t3 95 rfl) rfl
theorem mw_c_X4_leastOf : Cond.code yX4_leastOf cX4_leastOf 4 (some .int) ∈ bigW := mem_big (mem_t3 96 rfl) rfl
theorem mw_m_L_69 : Cond.methodLink RL 69 yX4_end ∈ bigW := mem_big (mem_t3 97 rfl) rfl
theorem mw_i_X4_end : Cond.instanceMethod yX4_end ∈ bigW := mem_big (mem_t3 98 rfl) rfl
theorem mw_v_X4_end : Cond.selects RX4 yX4_end yX4_end ∈ bigW := mem_big (mem_t3 99 rfl) rfl
theorem mw_c_X4_end : Cond.code yX4_end cX4_end 3 (some .int) ∈ bigW := mem_big (mem_t3 100 rfl) rfl
theorem mw_m_X4_102 : Cond.methodLink RX4 102 yX4_layEnds ∈ bigW := mem_big (mem_t3 101 rfl) rfl
theorem mw_i_X4_layEnds : Cond.instanceMethod yX4_layEnds ∈ bigW := mem_big (mem_t3 103 rfl) rfl
theorem mw_c_X4_layEnds : Cond.code yX4_layEnds cX4_layEnds 6 none ∈ bigW := mem_big (mem_t3 104 rfl) rfl
theorem mw_m_X4_105 : Cond.methodLink RX4 105 yX4_endAt ∈ bigW := mem_big (mem_t3 105 rfl) rfl
theorem mw_i_X4_endAt : Cond.instanceMethod yX4_endAt ∈ bigW := mem_big (mem_t3 107 rfl) rfl
theorem mw_c_X4_endAt : Cond.code yX4_endAt cX4_endAt 4 (some .int) ∈ bigW := mem_big (mem_t3 108 rfl) rfl
theorem mw_m_L_73 : Cond.methodLink RL 73 yX4_basin ∈ bigW := mem_big (mem_t3 109 rfl) rfl
theorem mw_i_X4_basin : Cond.instanceMethod yX4_basin ∈ bigW := mem_big (mem_t3 110 rfl) rfl
theorem mw_v_X4_basin : Cond.selects RX4 yX4_basin yX4_basin ∈ bigW := mem_big (mem_t3 111 rfl) rfl
theorem mw_c_X4_basin : Cond.code yX4_basin cX4_basin 8 (some .int) ∈ bigW := mem_big (mem_t3 112 rfl) rfl
theorem mw_m_L_77 : Cond.methodLink RL 77 yX4_lone ∈ bigW := mem_big (mem_t3 113 rfl) rfl
theorem mw_i_X4_lone : Cond.instanceMethod yX4_lone ∈ bigW := mem_big (mem_t3 114 rfl) rfl
theorem mw_v_X4_lone : Cond.selects RX4 yX4_lone yX4_lone ∈ bigW := mem_big (mem_t3 115 rfl) rfl
theorem mw_c_X4_lone : Cond.code yX4_lone cX4_lone 4 (some .int) ∈ bigW := mem_big (mem_t3 116 rfl) rfl
theorem mw_m_L_81 : Cond.methodLink RL 81 yX4_before ∈ bigW := mem_big (mem_t3 117 rfl) rfl
theorem mw_i_X4_before : Cond.instanceMethod yX4_before ∈ bigW := mem_big (mem_t3 118 rfl) rfl
theorem mw_v_X4_before : Cond.selects RX4 yX4_before yX4_before ∈ bigW := mem_big (mem_t3 119 rfl) rfl
theorem mw_c_X4_before : Cond.code yX4_before cX4_before 5 (some .int) ∈ bigW := mem_big (mem_t3 120 rfl) rfl
theorem mw_m_L_85 : Cond.methodLink RL 85 yX4_rise ∈ bigW := mem_big (mem_t3 121 rfl) rfl
theorem mw_i_X4_rise : Cond.instanceMethod yX4_rise ∈ bigW := mem_big (mem_t3 122 rfl) rfl
theorem mw_v_X4_rise : Cond.selects RX4 yX4_rise yX4_rise ∈ bigW := mem_big (mem_t3 123 rfl) rfl
theorem mw_c_X4_rise : Cond.code yX4_rise cX4_rise 1 (some .int) ∈ bigW := mem_big (mem_t3 124 rfl) rfl
theorem mw_m_X4_108 : Cond.methodLink RX4 108 yX4_riseOf ∈ bigW := mem_big (mem_t3 125 rfl) rfl
theorem mw_i_X4_riseOf : Cond.instanceMethod yX4_riseOf ∈ bigW := mem_big (mem_t3 127 rfl) rfl
theorem mw_c_X4_riseOf : Cond.code yX4_riseOf cX4_riseOf 6 (some .int) ∈ bigW := mem_big (mem_t3 128 rfl) rfl
theorem mw_m_L_89 : Cond.methodLink RL 89 yX4_highest ∈ bigW := mem_big (mem_t3 129 rfl) rfl
theorem mw_i_X4_highest : Cond.instanceMethod yX4_highest ∈ bigW := mem_big (mem_t3 130 rfl) rfl
theorem mw_v_X4_highest : Cond.selects RX4 yX4_highest yX4_highest ∈ bigW := mem_big (mem_t3 131 rfl) rfl
theorem mw_c_X4_highest : Cond.code yX4_highest cX4_highest 3 (some .int) ∈ bigW := mem_big (mem_t3 132 rfl) rfl
theorem mw_m_L_93 : Cond.methodLink RL 93 yX4_rests ∈ bigW := mem_big (mem_t3 133 rfl) rfl
theorem mw_i_X4_rests : Cond.instanceMethod yX4_rests ∈ bigW := mem_big (mem_t3 134 rfl) rfl
theorem mw_v_X4_rests : Cond.selects RX4 yX4_rests yX4_rests ∈ bigW := mem_big (mem_t3 135 rfl) rfl
theorem mw_c_X4_rests : Cond.code yX4_rests cX4_rests 1 (some .int) ∈ bigW := mem_big (mem_t3 136 rfl) rfl
theorem mw_m_X4_111 : Cond.methodLink RX4 111 yX4_restsIn ∈ bigW := mem_big (mem_t3 137 rfl) rfl
theorem mw_i_X4_restsIn : Cond.instanceMethod yX4_restsIn ∈ bigW := mem_big (mem_t3 139 rfl) rfl
theorem mw_c_X4_restsIn : Cond.code yX4_restsIn cX4_restsIn 4 (some .boolean) ∈ bigW := mem_big (mem_t3 140 rfl) rfl
theorem mw_m_L_97 : Cond.methodLink RL 97 yX4_restMany ∈ bigW := mem_big (mem_t3 141 rfl) rfl
theorem mw_i_X4_restMany : Cond.instanceMethod yX4_restMany ∈ bigW := mem_big (mem_t3 142 rfl) rfl
theorem mw_v_X4_restMany : Cond.selects RX4 yX4_restMany yX4_restMany ∈ bigW := mem_big (mem_t3 143 rfl) rfl
theorem mw_c_X4_restMany : Cond.code yX4_restMany cX4_restMany 3 (some .int) ∈ bigW := mem_big (mem_t3 144 rfl) rfl
theorem mw_m_L_101 : Cond.methodLink RL 101 yX4_tip ∈ bigW := mem_big (mem_t3 145 rfl) rfl
theorem mw_i_X4_tip : Cond.instanceMethod yX4_tip ∈ bigW := mem_big (mem_t3 146 rfl) rfl
theorem mw_v_X4_tip : Cond.selects RX4 yX4_tip yX4_tip ∈ bigW := mem_big (mem_t3 147 rfl) rfl
theorem mw_c_X4_tip : Cond.code yX4_tip cX4_tip 4 (some .int) ∈ bigW := mem_big (mem_t3 148 rfl) rfl
theorem mw_m_X4_114 : Cond.methodLink RX4 114 yX4_bits ∈ bigW := mem_big (mem_t3 149 rfl) rfl
theorem mw_i_X4_bits : Cond.instanceMethod yX4_bits ∈ bigW := mem_big (mem_t3 151 rfl) rfl
theorem mw_c_X4_bits : Cond.code yX4_bits cX4_bits 4 (some .int) ∈ bigW := mem_big (mem_t3 152 rfl) rfl
theorem mw_m_X4_117 : Cond.methodLink RX4 117 yX4_tips ∈ bigW := mem_big (mem_t3 153 rfl) rfl
theorem mw_i_X4_tips : Cond.instanceMethod yX4_tips ∈ bigW := mem_big (mem_t3 155 rfl) rfl
theorem mw_c_X4_tips : Cond.code yX4_tips cX4_tips 7 (some .boolean) ∈ bigW := mem_big (mem_t3 156 rfl) rfl
theorem mw_m_L_105 : Cond.methodLink RL 105 yX4_share ∈ bigW := mem_big (mem_t3 157 rfl) rfl
theorem mw_i_X4_share : Cond.instanceMethod yX4_share ∈ bigW := mem_big (mem_t3 158 rfl) rfl
theorem mw_v_X4_share : Cond.selects RX4 yX4_share yX4_share ∈ bigW := mem_big (mem_t3 159 rfl) rfl
theorem mw_c_X4_share : Cond.code yX4_share cX4_share 4 (some .int) ∈ bigW := mem_big (mem_t3 160 rfl) rfl
theorem mw_m_X4_120 : Cond.methodLink RX4 120 yX4_common ∈ bigW := mem_big (mem_t3 161 rfl) rfl
theorem mw_s_X4_common : Cond.static yX4_common ∈ bigW := mem_big (mem_t3 162 rfl) rfl
theorem mw_c_X4_common : Cond.code yX4_common cX4_common 5 (some .int) ∈ bigW := mem_big (mem_t3 163 rfl) rfl
theorem mw_m_L_109 : Cond.methodLink RL 109 yX4_hangs ∈ bigW := mem_big (mem_t3 164 rfl) rfl
theorem mw_i_X4_hangs : Cond.instanceMethod yX4_hangs ∈ bigW := mem_big (mem_t3 165 rfl) rfl
theorem mw_v_X4_hangs : Cond.selects RX4 yX4_hangs yX4_hangs ∈ bigW := mem_big (mem_t3 166 rfl) rfl
theorem mw_c_X4_hangs : Cond.code yX4_hangs cX4_hangs 7 (some .int) ∈ bigW := mem_big (mem_t3 167 rfl) rfl
theorem mw_m_L_113 : Cond.methodLink RL 113 yX4_told ∈ bigW := mem_big (mem_t3 168 rfl) rfl
theorem mw_i_X4_told : Cond.instanceMethod yX4_told ∈ bigW := mem_big (mem_t3 169 rfl) rfl
theorem mw_v_X4_told : Cond.selects RX4 yX4_told yX4_told ∈ bigW := mem_big (mem_t3 170 rfl) rfl
theorem mw_c_X4_told : Cond.code yX4_told cX4_told 2 (some .int) ∈ bigW := mem_big (mem_t3 171 rfl) rfl
theorem mw_m_X4_123 : Cond.methodLink RX4 123 yX4_lines ∈ bigW := mem_big (mem_t3 172 rfl) rfl
theorem mw_i_X4_lines : Cond.instanceMethod yX4_lines ∈ bigW := mem_big (mem_t3 174 rfl) rfl
theorem mw_c_X4_lines : Cond.code yX4_lines cX4_lines 4 (some .int) ∈ bigW := mem_big (mem_t3 175 rfl) rfl
theorem mw_v_X1_beginAnew : Cond.selects RX1 yX1_beginAnew yX1_beginAnew ∈ bigW := mem_sel 0 rfl rfl
theorem mw_v_X3_forgetMoves : Cond.selects RX3 yX3_forgetMoves yX3_forgetMoves ∈ bigW := mem_sel 1 rfl rfl
theorem mw_v_X0_forget : Cond.selects RX0 yX0_forget yX0_forget ∈ bigW := mem_sel 2 rfl rfl
theorem mw_v_X2_forget : Cond.selects RX2 yX2_forget yX2_forget ∈ bigW := mem_sel 3 rfl rfl
theorem mw_v_X1_mayJoin : Cond.selects RX1 yX1_mayJoin yX1_mayJoin ∈ bigW := mem_sel 4 rfl rfl
theorem mw_v_X1_has : Cond.selects RX1 yX1_has yX1_has ∈ bigW := mem_sel 5 rfl rfl
theorem mw_v_X1_weightOf : Cond.selects RX1 yX1_weightOf yX1_weightOf ∈ bigW := mem_sel 6 rfl rfl
theorem mw_v_X1_setWeight : Cond.selects RX1 yX1_setWeight yX1_setWeight ∈ bigW := mem_sel 7 rfl rfl
theorem mw_v_X1_payOf : Cond.selects RX1 yX1_payOf yX1_payOf ∈ bigW := mem_sel 8 rfl rfl
theorem mw_v_X1_setPay : Cond.selects RX1 yX1_setPay yX1_setPay ∈ bigW := mem_sel 9 rfl rfl
theorem mw_v_X1_isState : Cond.selects RX1 yX1_isState yX1_isState ∈ bigW := mem_sel 10 rfl rfl
theorem mw_v_X1_states : Cond.selects RX1 yX1_states yX1_states ∈ bigW := mem_sel 11 rfl rfl
theorem mw_v_X1_wageOf : Cond.selects RX1 yX1_wageOf yX1_wageOf ∈ bigW := mem_sel 12 rfl rfl
theorem mw_v_X1_weightsInto : Cond.selects RX1 yX1_weightsInto yX1_weightsInto ∈ bigW := mem_sel 13 rfl rfl
theorem mw_v_X0_next : Cond.selects RX0 yX0_next yX0_next ∈ bigW := mem_sel 14 rfl rfl
theorem mw_v_X0_wishOf : Cond.selects RX0 yX0_wishOf yX0_wishOf ∈ bigW := mem_sel 15 rfl rfl
theorem mw_v_X0_takeIntoUse : Cond.selects RX0 yX0_takeIntoUse yX0_takeIntoUse ∈ bigW := mem_sel 16 rfl rfl
theorem mw_v_X0_repliesTo : Cond.selects RX0 yX0_repliesTo yX0_repliesTo ∈ bigW := mem_sel 17 rfl rfl
theorem mw_v_X0_copiesIn : Cond.selects RX0 yX0_copiesIn yX0_copiesIn ∈ bigW := mem_sel 18 rfl rfl
theorem mw_v_X0_bestBeside : Cond.selects RX0 yX0_bestBeside yX0_bestBeside ∈ bigW := mem_sel 19 rfl rfl
theorem mw_v_X0_overBarIn : Cond.selects RX0 yX0_overBarIn yX0_overBarIn ∈ bigW := mem_sel 20 rfl rfl
theorem mw_v_X1_reaches : Cond.selects RX1 yX1_reaches yX1_reaches ∈ bigW := mem_sel 21 rfl rfl
theorem mw_v_X2_goThrough : Cond.selects RX2 yX2_goThrough yX2_goThrough ∈ bigW := mem_sel 22 rfl rfl
theorem mw_v_X2_isBeginning : Cond.selects RX2 yX2_isBeginning yX2_isBeginning ∈ bigW := mem_sel 23 rfl rfl
theorem mw_v_X2_follow : Cond.selects RX2 yX2_follow yX2_follow ∈ bigW := mem_sel 24 rfl rfl
theorem mw_v_X2_closeRing : Cond.selects RX2 yX2_closeRing yX2_closeRing ∈ bigW := mem_sel 25 rfl rfl
theorem mw_v_X2_closeTail : Cond.selects RX2 yX2_closeTail yX2_closeTail ∈ bigW := mem_sel 26 rfl rfl
theorem mw_v_X2_ringLength : Cond.selects RX2 yX2_ringLength yX2_ringLength ∈ bigW := mem_sel 27 rfl rfl
theorem mw_v_X2_firstOfRing : Cond.selects RX2 yX2_firstOfRing yX2_firstOfRing ∈ bigW := mem_sel 28 rfl rfl
theorem mw_v_X2_howManyEnds : Cond.selects RX2 yX2_howManyEnds yX2_howManyEnds ∈ bigW := mem_sel 29 rfl rfl
theorem mw_v_X2_endAt : Cond.selects RX2 yX2_endAt yX2_endAt ∈ bigW := mem_sel 30 rfl rfl
theorem mw_v_X2_howManyComeTo : Cond.selects RX2 yX2_howManyComeTo yX2_howManyComeTo ∈ bigW := mem_sel 31 rfl rfl
theorem mw_v_X2_greatestTail : Cond.selects RX2 yX2_greatestTail yX2_greatestTail ∈ bigW := mem_sel 32 rfl rfl
theorem mw_v_X3_clearMarks : Cond.selects RX3 yX3_clearMarks yX3_clearMarks ∈ bigW := mem_sel 33 rfl rfl
theorem mw_v_X3_isBeginning : Cond.selects RX3 yX3_isBeginning yX3_isBeginning ∈ bigW := mem_sel 34 rfl rfl
theorem mw_v_X1_riseOf : Cond.selects RX1 yX1_riseOf yX1_riseOf ∈ bigW := mem_sel 35 rfl rfl
theorem mw_v_X1_gainOfOne : Cond.selects RX1 yX1_gainOfOne yX1_gainOfOne ∈ bigW := mem_sel 36 rfl rfl
theorem mw_v_X1_gainOfZero : Cond.selects RX1 yX1_gainOfZero yX1_gainOfZero ∈ bigW := mem_sel 37 rfl rfl
theorem mw_v_X3_isAtRest : Cond.selects RX3 yX3_isAtRest yX3_isAtRest ∈ bigW := mem_sel 38 rfl rfl
theorem mw_v_X3_tipsAll : Cond.selects RX3 yX3_tipsAll yX3_tipsAll ∈ bigW := mem_sel 39 rfl rfl
theorem mw_v_X1_howManyLines : Cond.selects RX1 yX1_howManyLines yX1_howManyLines ∈ bigW := mem_sel 40 rfl rfl
theorem mw_v_X3_toldPay : Cond.selects RX3 yX3_toldPay yX3_toldPay ∈ bigW := mem_sel 41 rfl rfl
theorem mw_v_X4_arePair : Cond.selects RX4 yX4_arePair yX4_arePair ∈ bigW := mem_sel 42 rfl rfl
theorem mw_v_X4_isOne : Cond.selects RX4 yX4_isOne yX4_isOne ∈ bigW := mem_sel 43 rfl rfl
theorem mw_v_X4_isState : Cond.selects RX4 yX4_isState yX4_isState ∈ bigW := mem_sel 44 rfl rfl
theorem mw_v_X4_states : Cond.selects RX4 yX4_states yX4_states ∈ bigW := mem_sel 45 rfl rfl
theorem mw_v_X4_wageOf : Cond.selects RX4 yX4_wageOf yX4_wageOf ∈ bigW := mem_sel 46 rfl rfl
theorem mw_v_X4_next : Cond.selects RX4 yX4_next yX4_next ∈ bigW := mem_sel 47 rfl rfl
theorem mw_v_X4_wayBehind : Cond.selects RX4 yX4_wayBehind yX4_wayBehind ∈ bigW := mem_sel 48 rfl rfl
theorem mw_v_X4_copied : Cond.selects RX4 yX4_copied yX4_copied ∈ bigW := mem_sel 49 rfl rfl
theorem mw_v_X4_tipped : Cond.selects RX4 yX4_tipped yX4_tipped ∈ bigW := mem_sel 50 rfl rfl
theorem mw_v_X4_gains : Cond.selects RX4 yX4_gains yX4_gains ∈ bigW := mem_sel 51 rfl rfl
theorem mw_v_X4_layBehind : Cond.selects RX4 yX4_layBehind yX4_layBehind ∈ bigW := mem_sel 52 rfl rfl
theorem mw_v_X4_isBeginning : Cond.selects RX4 yX4_isBeginning yX4_isBeginning ∈ bigW := mem_sel 53 rfl rfl
theorem mw_v_X4_inRing : Cond.selects RX4 yX4_inRing yX4_inRing ∈ bigW := mem_sel 54 rfl rfl
theorem mw_v_X4_isOn : Cond.selects RX4 yX4_isOn yX4_isOn ∈ bigW := mem_sel 55 rfl rfl
theorem mw_v_X4_ringOf : Cond.selects RX4 yX4_ringOf yX4_ringOf ∈ bigW := mem_sel 56 rfl rfl
theorem mw_v_X4_leastOf : Cond.selects RX4 yX4_leastOf yX4_leastOf ∈ bigW := mem_sel 57 rfl rfl
theorem mw_v_X4_layEnds : Cond.selects RX4 yX4_layEnds yX4_layEnds ∈ bigW := mem_sel 58 rfl rfl
theorem mw_v_X4_endAt : Cond.selects RX4 yX4_endAt yX4_endAt ∈ bigW := mem_sel 59 rfl rfl
theorem mw_v_X4_riseOf : Cond.selects RX4 yX4_riseOf yX4_riseOf ∈ bigW := mem_sel 60 rfl rfl
theorem mw_v_X4_restsIn : Cond.selects RX4 yX4_restsIn yX4_restsIn ∈ bigW := mem_sel 61 rfl rfl
theorem mw_v_X4_bits : Cond.selects RX4 yX4_bits yX4_bits ∈ bigW := mem_sel 62 rfl rfl
theorem mw_v_X4_tips : Cond.selects RX4 yX4_tips yX4_tips ∈ bigW := mem_sel 63 rfl rfl
theorem mw_v_X4_lines : Cond.selects RX4 yX4_lines yX4_lines ∈ bigW := mem_sel 64 rfl rfl
theorem mw_c_obj : Cond.code objectInit ⟨#[0xb1]⟩ 1 none ∈ bigW := mem_big (mem_t1 15 rfl) rfl
theorem mw_i_obj : Cond.instanceMethod objectInit ∈ bigW := mem_big (mem_t1 14 rfl) rfl
end
section
theorem dX0_init_0 : decode cX0_init 0 = .ok (.aload_n 0, 1) := by decide +kernel
theorem dX0_init_1 : decode cX0_init 1 = .ok (.invokespecial 3, 3) := by decide +kernel
theorem dX0_init_4 : decode cX0_init 4 = .ok (.aload_n 0, 1) := by decide +kernel
theorem dX0_init_5 : decode cX0_init 5 = .ok (.aload_n 1, 1) := by decide +kernel
theorem dX0_init_6 : decode cX0_init 6 = .ok (.putfield 9, 3) := by decide +kernel
theorem dX0_init_9 : decode cX0_init 9 = .ok (.aload_n 0, 1) := by decide +kernel
theorem dX0_init_10 : decode cX0_init 10 = .ok (.sipush 3072, 3) := by decide +kernel
theorem dX0_init_13 : decode cX0_init 13 = .ok (.newarray .int, 2) := by decide +kernel
theorem dX0_init_15 : decode cX0_init 15 = .ok (.putfield 15, 3) := by decide +kernel
theorem dX0_init_18 : decode cX0_init 18 = .ok (.aload_n 0, 1) := by decide +kernel
theorem dX0_init_19 : decode cX0_init 19 = .ok (.iconst 3, 1) := by decide +kernel
theorem dX0_init_20 : decode cX0_init 20 = .ok (.newarray .boolean, 2) := by decide +kernel
theorem dX0_init_22 : decode cX0_init 22 = .ok (.putfield 19, 3) := by decide +kernel
theorem dX0_init_25 : decode cX0_init 25 = .ok (.aload_n 0, 1) := by decide +kernel
theorem dX0_init_26 : decode cX0_init 26 = .ok (.bipush 10, 2) := by decide +kernel
theorem dX0_init_28 : decode cX0_init 28 = .ok (.newarray .int, 2) := by decide +kernel
theorem dX0_init_30 : decode cX0_init 30 = .ok (.putfield 23, 3) := by decide +kernel
theorem dX0_init_33 : decode cX0_init 33 = .ok (.return_, 1) := by decide +kernel
theorem dX0_forget_0 : decode cX0_forget 0 = .ok (.iconst 0, 1) := by decide +kernel
theorem dX0_forget_1 : decode cX0_forget 1 = .ok (.istore_n 1, 1) := by decide +kernel
theorem dX0_forget_2 : decode cX0_forget 2 = .ok (.iload_n 1, 1) := by decide +kernel
theorem dX0_forget_3 : decode cX0_forget 3 = .ok (.iconst 3, 1) := by decide +kernel
theorem dX0_forget_4 : decode cX0_forget 4 = .ok (.if_icmp .ge 16, 3) := by decide +kernel
theorem dX0_forget_7 : decode cX0_forget 7 = .ok (.aload_n 0, 1) := by decide +kernel
theorem dX0_forget_8 : decode cX0_forget 8 = .ok (.getfield 19, 3) := by decide +kernel
theorem dX0_forget_11 : decode cX0_forget 11 = .ok (.iload_n 1, 1) := by decide +kernel
theorem dX0_forget_12 : decode cX0_forget 12 = .ok (.iconst 0, 1) := by decide +kernel
theorem dX0_forget_13 : decode cX0_forget 13 = .ok (.bastore, 1) := by decide +kernel
theorem dX0_forget_14 : decode cX0_forget 14 = .ok (.iinc 1 1, 3) := by decide +kernel
theorem dX0_forget_17 : decode cX0_forget 17 = .ok (.goto (-15), 3) := by decide +kernel
theorem dX0_forget_20 : decode cX0_forget 20 = .ok (.return_, 1) := by decide +kernel
theorem dX0_next_0 : decode cX0_next 0 = .ok (.iload_n 1, 1) := by decide +kernel
theorem dX0_next_1 : decode cX0_next 1 = .ok (.iconst 3, 1) := by decide +kernel
theorem dX0_next_2 : decode cX0_next 2 = .ok (.if_icmp .eq 18, 3) := by decide +kernel
theorem dX0_next_5 : decode cX0_next 5 = .ok (.aload_n 0, 1) := by decide +kernel
theorem dX0_next_6 : decode cX0_next 6 = .ok (.iload_n 1, 1) := by decide +kernel
theorem dX0_next_7 : decode cX0_next 7 = .ok (.iload_n 3, 1) := by decide +kernel
theorem dX0_next_8 : decode cX0_next 8 = .ok (.invokevirtual 26, 3) := by decide +kernel
theorem dX0_next_11 : decode cX0_next 11 = .ok (.iload_n 2, 1) := by decide +kernel
theorem dX0_next_12 : decode cX0_next 12 = .ok (.iconst (-1), 1) := by decide +kernel
theorem dX0_next_13 : decode cX0_next 13 = .ok (.ixor, 1) := by decide +kernel
theorem dX0_next_14 : decode cX0_next 14 = .ok (.iand, 1) := by decide +kernel
theorem dX0_next_15 : decode cX0_next 15 = .ok (.iload_n 3, 1) := by decide +kernel
theorem dX0_next_16 : decode cX0_next 16 = .ok (.iload_n 2, 1) := by decide +kernel
theorem dX0_next_17 : decode cX0_next 17 = .ok (.iand, 1) := by decide +kernel
theorem dX0_next_18 : decode cX0_next 18 = .ok (.ior, 1) := by decide +kernel
theorem dX0_next_19 : decode cX0_next 19 = .ok (.ireturn, 1) := by decide +kernel
theorem dX0_next_20 : decode cX0_next 20 = .ok (.iload_n 3, 1) := by decide +kernel
theorem dX0_next_21 : decode cX0_next 21 = .ok (.istore 4, 2) := by decide +kernel
theorem dX0_next_23 : decode cX0_next 23 = .ok (.iconst 0, 1) := by decide +kernel
theorem dX0_next_24 : decode cX0_next 24 = .ok (.istore 5, 2) := by decide +kernel
theorem dX0_next_26 : decode cX0_next 26 = .ok (.iload 5, 2) := by decide +kernel
theorem dX0_next_28 : decode cX0_next 28 = .ok (.aload_n 0, 1) := by decide +kernel
theorem dX0_next_29 : decode cX0_next 29 = .ok (.getfield 9, 3) := by decide +kernel
theorem dX0_next_32 : decode cX0_next 32 = .ok (.getfield 30, 3) := by decide +kernel
theorem dX0_next_35 : decode cX0_next 35 = .ok (.if_icmp .ge 39, 3) := by decide +kernel
theorem dX0_next_38 : decode cX0_next 38 = .ok (.iconst 1, 1) := by decide +kernel
theorem dX0_next_39 : decode cX0_next 39 = .ok (.iload 5, 2) := by decide +kernel
theorem dX0_next_41 : decode cX0_next 41 = .ok (.ishl, 1) := by decide +kernel
theorem dX0_next_42 : decode cX0_next 42 = .ok (.iload_n 2, 1) := by decide +kernel
theorem dX0_next_43 : decode cX0_next 43 = .ok (.iconst (-1), 1) := by decide +kernel
theorem dX0_next_44 : decode cX0_next 44 = .ok (.ixor, 1) := by decide +kernel
theorem dX0_next_45 : decode cX0_next 45 = .ok (.iand, 1) := by decide +kernel
theorem dX0_next_46 : decode cX0_next 46 = .ok (.istore 6, 2) := by decide +kernel
theorem dX0_next_48 : decode cX0_next 48 = .ok (.aload_n 0, 1) := by decide +kernel
theorem dX0_next_49 : decode cX0_next 49 = .ok (.iconst 0, 1) := by decide +kernel
theorem dX0_next_50 : decode cX0_next 50 = .ok (.iload 4, 2) := by decide +kernel
theorem dX0_next_52 : decode cX0_next 52 = .ok (.invokevirtual 26, 3) := by decide +kernel
theorem dX0_next_55 : decode cX0_next 55 = .ok (.iload 6, 2) := by decide +kernel
theorem dX0_next_57 : decode cX0_next 57 = .ok (.iand, 1) := by decide +kernel
theorem dX0_next_58 : decode cX0_next 58 = .ok (.iload 4, 2) := by decide +kernel
theorem dX0_next_60 : decode cX0_next 60 = .ok (.iload 6, 2) := by decide +kernel
theorem dX0_next_62 : decode cX0_next 62 = .ok (.iconst (-1), 1) := by decide +kernel
theorem dX0_next_63 : decode cX0_next 63 = .ok (.ixor, 1) := by decide +kernel
theorem dX0_next_64 : decode cX0_next 64 = .ok (.iand, 1) := by decide +kernel
theorem dX0_next_65 : decode cX0_next 65 = .ok (.ior, 1) := by decide +kernel
theorem dX0_next_66 : decode cX0_next 66 = .ok (.istore 4, 2) := by decide +kernel
theorem dX0_next_68 : decode cX0_next 68 = .ok (.iinc 5 1, 3) := by decide +kernel
theorem dX0_next_71 : decode cX0_next 71 = .ok (.goto (-45), 3) := by decide +kernel
theorem dX0_next_74 : decode cX0_next 74 = .ok (.iload 4, 2) := by decide +kernel
theorem dX0_next_76 : decode cX0_next 76 = .ok (.ireturn, 1) := by decide +kernel
theorem dX0_wishOf_0 : decode cX0_wishOf 0 = .ok (.aload_n 0, 1) := by decide +kernel
theorem dX0_wishOf_1 : decode cX0_wishOf 1 = .ok (.getfield 19, 3) := by decide +kernel
theorem dX0_wishOf_4 : decode cX0_wishOf 4 = .ok (.iload_n 1, 1) := by decide +kernel
theorem dX0_wishOf_5 : decode cX0_wishOf 5 = .ok (.baload, 1) := by decide +kernel
theorem dX0_wishOf_6 : decode cX0_wishOf 6 = .ok (.ifCond .ne 8, 3) := by decide +kernel
theorem dX0_wishOf_9 : decode cX0_wishOf 9 = .ok (.aload_n 0, 1) := by decide +kernel
theorem dX0_wishOf_10 : decode cX0_wishOf 10 = .ok (.iload_n 1, 1) := by decide +kernel
theorem dX0_wishOf_11 : decode cX0_wishOf 11 = .ok (.invokevirtual 36, 3) := by decide +kernel
theorem dX0_wishOf_14 : decode cX0_wishOf 14 = .ok (.iload_n 1, 1) := by decide +kernel
theorem dX0_wishOf_15 : decode cX0_wishOf 15 = .ok (.sipush 1024, 3) := by decide +kernel
theorem dX0_wishOf_18 : decode cX0_wishOf 18 = .ok (.imul, 1) := by decide +kernel
theorem dX0_wishOf_19 : decode cX0_wishOf 19 = .ok (.iload_n 2, 1) := by decide +kernel
theorem dX0_wishOf_20 : decode cX0_wishOf 20 = .ok (.iadd, 1) := by decide +kernel
theorem dX0_wishOf_21 : decode cX0_wishOf 21 = .ok (.istore_n 3, 1) := by decide +kernel
theorem dX0_wishOf_22 : decode cX0_wishOf 22 = .ok (.aload_n 0, 1) := by decide +kernel
theorem dX0_wishOf_23 : decode cX0_wishOf 23 = .ok (.getfield 15, 3) := by decide +kernel
theorem dX0_wishOf_26 : decode cX0_wishOf 26 = .ok (.iload_n 3, 1) := by decide +kernel
theorem dX0_wishOf_27 : decode cX0_wishOf 27 = .ok (.iaload, 1) := by decide +kernel
theorem dX0_wishOf_28 : decode cX0_wishOf 28 = .ok (.iconst (-1), 1) := by decide +kernel
theorem dX0_wishOf_29 : decode cX0_wishOf 29 = .ok (.if_icmp .ne 70, 3) := by decide +kernel
theorem dX0_wishOf_32 : decode cX0_wishOf 32 = .ok (.iload_n 1, 1) := by decide +kernel
theorem dX0_wishOf_33 : decode cX0_wishOf 33 = .ok (.lookupswitch 55 #[(0, 27), (1, 41)], 27) := by decide +kernel
theorem dX0_wishOf_60 : decode cX0_wishOf 60 = .ok (.aload_n 0, 1) := by decide +kernel
theorem dX0_wishOf_61 : decode cX0_wishOf 61 = .ok (.getfield 15, 3) := by decide +kernel
theorem dX0_wishOf_64 : decode cX0_wishOf 64 = .ok (.iload_n 3, 1) := by decide +kernel
theorem dX0_wishOf_65 : decode cX0_wishOf 65 = .ok (.aload_n 0, 1) := by decide +kernel
theorem dX0_wishOf_66 : decode cX0_wishOf 66 = .ok (.iload_n 2, 1) := by decide +kernel
theorem dX0_wishOf_67 : decode cX0_wishOf 67 = .ok (.invokevirtual 40, 3) := by decide +kernel
theorem dX0_wishOf_70 : decode cX0_wishOf 70 = .ok (.iastore, 1) := by decide +kernel
theorem dX0_wishOf_71 : decode cX0_wishOf 71 = .ok (.goto 28, 3) := by decide +kernel
theorem dX0_wishOf_74 : decode cX0_wishOf 74 = .ok (.aload_n 0, 1) := by decide +kernel
theorem dX0_wishOf_75 : decode cX0_wishOf 75 = .ok (.getfield 15, 3) := by decide +kernel
theorem dX0_wishOf_78 : decode cX0_wishOf 78 = .ok (.iload_n 3, 1) := by decide +kernel
theorem dX0_wishOf_79 : decode cX0_wishOf 79 = .ok (.aload_n 0, 1) := by decide +kernel
theorem dX0_wishOf_80 : decode cX0_wishOf 80 = .ok (.iload_n 2, 1) := by decide +kernel
theorem dX0_wishOf_81 : decode cX0_wishOf 81 = .ok (.invokevirtual 44, 3) := by decide +kernel
theorem dX0_wishOf_84 : decode cX0_wishOf 84 = .ok (.iastore, 1) := by decide +kernel
theorem dX0_wishOf_85 : decode cX0_wishOf 85 = .ok (.goto 14, 3) := by decide +kernel
theorem dX0_wishOf_88 : decode cX0_wishOf 88 = .ok (.aload_n 0, 1) := by decide +kernel
theorem dX0_wishOf_89 : decode cX0_wishOf 89 = .ok (.getfield 15, 3) := by decide +kernel
theorem dX0_wishOf_92 : decode cX0_wishOf 92 = .ok (.iload_n 3, 1) := by decide +kernel
theorem dX0_wishOf_93 : decode cX0_wishOf 93 = .ok (.aload_n 0, 1) := by decide +kernel
theorem dX0_wishOf_94 : decode cX0_wishOf 94 = .ok (.iload_n 2, 1) := by decide +kernel
theorem dX0_wishOf_95 : decode cX0_wishOf 95 = .ok (.invokevirtual 47, 3) := by decide +kernel
theorem dX0_wishOf_98 : decode cX0_wishOf 98 = .ok (.iastore, 1) := by decide +kernel
theorem dX0_wishOf_99 : decode cX0_wishOf 99 = .ok (.aload_n 0, 1) := by decide +kernel
theorem dX0_wishOf_100 : decode cX0_wishOf 100 = .ok (.getfield 15, 3) := by decide +kernel
theorem dX0_wishOf_103 : decode cX0_wishOf 103 = .ok (.iload_n 3, 1) := by decide +kernel
theorem dX0_wishOf_104 : decode cX0_wishOf 104 = .ok (.iaload, 1) := by decide +kernel
theorem dX0_wishOf_105 : decode cX0_wishOf 105 = .ok (.ireturn, 1) := by decide +kernel
theorem dX0_takeIntoUse_0 : decode cX0_takeIntoUse 0 = .ok (.iconst 0, 1) := by decide +kernel
theorem dX0_takeIntoUse_1 : decode cX0_takeIntoUse 1 = .ok (.istore_n 2, 1) := by decide +kernel
theorem dX0_takeIntoUse_2 : decode cX0_takeIntoUse 2 = .ok (.iload_n 2, 1) := by decide +kernel
theorem dX0_takeIntoUse_3 : decode cX0_takeIntoUse 3 = .ok (.aload_n 0, 1) := by decide +kernel
theorem dX0_takeIntoUse_4 : decode cX0_takeIntoUse 4 = .ok (.getfield 9, 3) := by decide +kernel
theorem dX0_takeIntoUse_7 : decode cX0_takeIntoUse 7 = .ok (.invokevirtual 50, 3) := by decide +kernel
theorem dX0_takeIntoUse_10 : decode cX0_takeIntoUse 10 = .ok (.if_icmp .ge 22, 3) := by decide +kernel
theorem dX0_takeIntoUse_13 : decode cX0_takeIntoUse 13 = .ok (.aload_n 0, 1) := by decide +kernel
theorem dX0_takeIntoUse_14 : decode cX0_takeIntoUse 14 = .ok (.getfield 15, 3) := by decide +kernel
theorem dX0_takeIntoUse_17 : decode cX0_takeIntoUse 17 = .ok (.iload_n 1, 1) := by decide +kernel
theorem dX0_takeIntoUse_18 : decode cX0_takeIntoUse 18 = .ok (.sipush 1024, 3) := by decide +kernel
theorem dX0_takeIntoUse_21 : decode cX0_takeIntoUse 21 = .ok (.imul, 1) := by decide +kernel
theorem dX0_takeIntoUse_22 : decode cX0_takeIntoUse 22 = .ok (.iload_n 2, 1) := by decide +kernel
theorem dX0_takeIntoUse_23 : decode cX0_takeIntoUse 23 = .ok (.iadd, 1) := by decide +kernel
theorem dX0_takeIntoUse_24 : decode cX0_takeIntoUse 24 = .ok (.iconst (-1), 1) := by decide +kernel
theorem dX0_takeIntoUse_25 : decode cX0_takeIntoUse 25 = .ok (.iastore, 1) := by decide +kernel
theorem dX0_takeIntoUse_26 : decode cX0_takeIntoUse 26 = .ok (.iinc 2 1, 3) := by decide +kernel
theorem dX0_takeIntoUse_29 : decode cX0_takeIntoUse 29 = .ok (.goto (-27), 3) := by decide +kernel
theorem dX0_takeIntoUse_32 : decode cX0_takeIntoUse 32 = .ok (.aload_n 0, 1) := by decide +kernel
theorem dX0_takeIntoUse_33 : decode cX0_takeIntoUse 33 = .ok (.getfield 19, 3) := by decide +kernel
theorem dX0_takeIntoUse_36 : decode cX0_takeIntoUse 36 = .ok (.iload_n 1, 1) := by decide +kernel
theorem dX0_takeIntoUse_37 : decode cX0_takeIntoUse 37 = .ok (.iconst 1, 1) := by decide +kernel
theorem dX0_takeIntoUse_38 : decode cX0_takeIntoUse 38 = .ok (.bastore, 1) := by decide +kernel
theorem dX0_takeIntoUse_39 : decode cX0_takeIntoUse 39 = .ok (.return_, 1) := by decide +kernel
theorem dX0_repliesTo_0 : decode cX0_repliesTo 0 = .ok (.iconst 0, 1) := by decide +kernel
theorem dX0_repliesTo_1 : decode cX0_repliesTo 1 = .ok (.istore_n 2, 1) := by decide +kernel
theorem dX0_repliesTo_2 : decode cX0_repliesTo 2 = .ok (.iconst 0, 1) := by decide +kernel
theorem dX0_repliesTo_3 : decode cX0_repliesTo 3 = .ok (.istore_n 3, 1) := by decide +kernel
theorem dX0_repliesTo_4 : decode cX0_repliesTo 4 = .ok (.iload_n 3, 1) := by decide +kernel
theorem dX0_repliesTo_5 : decode cX0_repliesTo 5 = .ok (.aload_n 0, 1) := by decide +kernel
theorem dX0_repliesTo_6 : decode cX0_repliesTo 6 = .ok (.getfield 9, 3) := by decide +kernel
theorem dX0_repliesTo_9 : decode cX0_repliesTo 9 = .ok (.getfield 30, 3) := by decide +kernel
theorem dX0_repliesTo_12 : decode cX0_repliesTo 12 = .ok (.if_icmp .ge 62, 3) := by decide +kernel
theorem dX0_repliesTo_15 : decode cX0_repliesTo 15 = .ok (.aload_n 0, 1) := by decide +kernel
theorem dX0_repliesTo_16 : decode cX0_repliesTo 16 = .ok (.getfield 9, 3) := by decide +kernel
theorem dX0_repliesTo_19 : decode cX0_repliesTo 19 = .ok (.iload_n 3, 1) := by decide +kernel
theorem dX0_repliesTo_20 : decode cX0_repliesTo 20 = .ok (.iconst 0, 1) := by decide +kernel
theorem dX0_repliesTo_21 : decode cX0_repliesTo 21 = .ok (.iload_n 1, 1) := by decide +kernel
theorem dX0_repliesTo_22 : decode cX0_repliesTo 22 = .ok (.invokevirtual 54, 3) := by decide +kernel
theorem dX0_repliesTo_25 : decode cX0_repliesTo 25 = .ok (.istore 4, 2) := by decide +kernel
theorem dX0_repliesTo_27 : decode cX0_repliesTo 27 = .ok (.aload_n 0, 1) := by decide +kernel
theorem dX0_repliesTo_28 : decode cX0_repliesTo 28 = .ok (.getfield 9, 3) := by decide +kernel
theorem dX0_repliesTo_31 : decode cX0_repliesTo 31 = .ok (.iload_n 3, 1) := by decide +kernel
theorem dX0_repliesTo_32 : decode cX0_repliesTo 32 = .ok (.iconst 1, 1) := by decide +kernel
theorem dX0_repliesTo_33 : decode cX0_repliesTo 33 = .ok (.iload_n 1, 1) := by decide +kernel
theorem dX0_repliesTo_34 : decode cX0_repliesTo 34 = .ok (.invokevirtual 54, 3) := by decide +kernel
theorem dX0_repliesTo_37 : decode cX0_repliesTo 37 = .ok (.istore 5, 2) := by decide +kernel
theorem dX0_repliesTo_39 : decode cX0_repliesTo 39 = .ok (.iload 5, 2) := by decide +kernel
theorem dX0_repliesTo_41 : decode cX0_repliesTo 41 = .ok (.iload 4, 2) := by decide +kernel
theorem dX0_repliesTo_43 : decode cX0_repliesTo 43 = .ok (.if_icmp .gt 19, 3) := by decide +kernel
theorem dX0_repliesTo_46 : decode cX0_repliesTo 46 = .ok (.iload 5, 2) := by decide +kernel
theorem dX0_repliesTo_48 : decode cX0_repliesTo 48 = .ok (.iload 4, 2) := by decide +kernel
theorem dX0_repliesTo_50 : decode cX0_repliesTo 50 = .ok (.if_icmp .ne 18, 3) := by decide +kernel
theorem dX0_repliesTo_53 : decode cX0_repliesTo 53 = .ok (.iload_n 3, 1) := by decide +kernel
theorem dX0_repliesTo_54 : decode cX0_repliesTo 54 = .ok (.iload_n 1, 1) := by decide +kernel
theorem dX0_repliesTo_55 : decode cX0_repliesTo 55 = .ok (.invokestatic 58, 3) := by decide +kernel
theorem dX0_repliesTo_58 : decode cX0_repliesTo 58 = .ok (.iconst 1, 1) := by decide +kernel
theorem dX0_repliesTo_59 : decode cX0_repliesTo 59 = .ok (.if_icmp .ne 9, 3) := by decide +kernel
theorem dX0_repliesTo_62 : decode cX0_repliesTo 62 = .ok (.iload_n 2, 1) := by decide +kernel
theorem dX0_repliesTo_63 : decode cX0_repliesTo 63 = .ok (.iconst 1, 1) := by decide +kernel
theorem dX0_repliesTo_64 : decode cX0_repliesTo 64 = .ok (.iload_n 3, 1) := by decide +kernel
theorem dX0_repliesTo_65 : decode cX0_repliesTo 65 = .ok (.ishl, 1) := by decide +kernel
theorem dX0_repliesTo_66 : decode cX0_repliesTo 66 = .ok (.ior, 1) := by decide +kernel
theorem dX0_repliesTo_67 : decode cX0_repliesTo 67 = .ok (.istore_n 2, 1) := by decide +kernel
theorem dX0_repliesTo_68 : decode cX0_repliesTo 68 = .ok (.iinc 3 1, 3) := by decide +kernel
theorem dX0_repliesTo_71 : decode cX0_repliesTo 71 = .ok (.goto (-67), 3) := by decide +kernel
theorem dX0_repliesTo_74 : decode cX0_repliesTo 74 = .ok (.iload_n 2, 1) := by decide +kernel
theorem dX0_repliesTo_75 : decode cX0_repliesTo 75 = .ok (.ireturn, 1) := by decide +kernel
theorem dX0_copiesIn_0 : decode cX0_copiesIn 0 = .ok (.iconst 0, 1) := by decide +kernel
theorem dX0_copiesIn_1 : decode cX0_copiesIn 1 = .ok (.istore_n 2, 1) := by decide +kernel
theorem dX0_copiesIn_2 : decode cX0_copiesIn 2 = .ok (.iload_n 2, 1) := by decide +kernel
theorem dX0_copiesIn_3 : decode cX0_copiesIn 3 = .ok (.aload_n 0, 1) := by decide +kernel
theorem dX0_copiesIn_4 : decode cX0_copiesIn 4 = .ok (.getfield 9, 3) := by decide +kernel
theorem dX0_copiesIn_7 : decode cX0_copiesIn 7 = .ok (.getfield 30, 3) := by decide +kernel
theorem dX0_copiesIn_10 : decode cX0_copiesIn 10 = .ok (.if_icmp .ge 29, 3) := by decide +kernel
theorem dX0_copiesIn_13 : decode cX0_copiesIn 13 = .ok (.aload_n 0, 1) := by decide +kernel
theorem dX0_copiesIn_14 : decode cX0_copiesIn 14 = .ok (.getfield 23, 3) := by decide +kernel
theorem dX0_copiesIn_17 : decode cX0_copiesIn 17 = .ok (.iload_n 2, 1) := by decide +kernel
theorem dX0_copiesIn_18 : decode cX0_copiesIn 18 = .ok (.aload_n 0, 1) := by decide +kernel
theorem dX0_copiesIn_19 : decode cX0_copiesIn 19 = .ok (.getfield 9, 3) := by decide +kernel
theorem dX0_copiesIn_22 : decode cX0_copiesIn 22 = .ok (.iload_n 2, 1) := by decide +kernel
theorem dX0_copiesIn_23 : decode cX0_copiesIn 23 = .ok (.iload_n 2, 1) := by decide +kernel
theorem dX0_copiesIn_24 : decode cX0_copiesIn 24 = .ok (.iload_n 1, 1) := by decide +kernel
theorem dX0_copiesIn_25 : decode cX0_copiesIn 25 = .ok (.invokestatic 58, 3) := by decide +kernel
theorem dX0_copiesIn_28 : decode cX0_copiesIn 28 = .ok (.iload_n 1, 1) := by decide +kernel
theorem dX0_copiesIn_29 : decode cX0_copiesIn 29 = .ok (.invokevirtual 54, 3) := by decide +kernel
theorem dX0_copiesIn_32 : decode cX0_copiesIn 32 = .ok (.iastore, 1) := by decide +kernel
theorem dX0_copiesIn_33 : decode cX0_copiesIn 33 = .ok (.iinc 2 1, 3) := by decide +kernel
theorem dX0_copiesIn_36 : decode cX0_copiesIn 36 = .ok (.goto (-34), 3) := by decide +kernel
theorem dX0_copiesIn_39 : decode cX0_copiesIn 39 = .ok (.iconst 0, 1) := by decide +kernel
theorem dX0_copiesIn_40 : decode cX0_copiesIn 40 = .ok (.istore_n 2, 1) := by decide +kernel
theorem dX0_copiesIn_41 : decode cX0_copiesIn 41 = .ok (.iconst 0, 1) := by decide +kernel
theorem dX0_copiesIn_42 : decode cX0_copiesIn 42 = .ok (.istore_n 3, 1) := by decide +kernel
theorem dX0_copiesIn_43 : decode cX0_copiesIn 43 = .ok (.iload_n 3, 1) := by decide +kernel
theorem dX0_copiesIn_44 : decode cX0_copiesIn 44 = .ok (.aload_n 0, 1) := by decide +kernel
theorem dX0_copiesIn_45 : decode cX0_copiesIn 45 = .ok (.getfield 9, 3) := by decide +kernel
theorem dX0_copiesIn_48 : decode cX0_copiesIn 48 = .ok (.getfield 30, 3) := by decide +kernel
theorem dX0_copiesIn_51 : decode cX0_copiesIn 51 = .ok (.if_icmp .ge 23, 3) := by decide +kernel
theorem dX0_copiesIn_54 : decode cX0_copiesIn 54 = .ok (.iload_n 2, 1) := by decide +kernel
theorem dX0_copiesIn_55 : decode cX0_copiesIn 55 = .ok (.aload_n 0, 1) := by decide +kernel
theorem dX0_copiesIn_56 : decode cX0_copiesIn 56 = .ok (.iload_n 3, 1) := by decide +kernel
theorem dX0_copiesIn_57 : decode cX0_copiesIn 57 = .ok (.invokevirtual 61, 3) := by decide +kernel
theorem dX0_copiesIn_60 : decode cX0_copiesIn 60 = .ok (.iload_n 1, 1) := by decide +kernel
theorem dX0_copiesIn_61 : decode cX0_copiesIn 61 = .ok (.invokestatic 58, 3) := by decide +kernel
theorem dX0_copiesIn_64 : decode cX0_copiesIn 64 = .ok (.iload_n 3, 1) := by decide +kernel
theorem dX0_copiesIn_65 : decode cX0_copiesIn 65 = .ok (.ishl, 1) := by decide +kernel
theorem dX0_copiesIn_66 : decode cX0_copiesIn 66 = .ok (.ior, 1) := by decide +kernel
theorem dX0_copiesIn_67 : decode cX0_copiesIn 67 = .ok (.istore_n 2, 1) := by decide +kernel
theorem dX0_copiesIn_68 : decode cX0_copiesIn 68 = .ok (.iinc 3 1, 3) := by decide +kernel
theorem dX0_copiesIn_71 : decode cX0_copiesIn 71 = .ok (.goto (-28), 3) := by decide +kernel
theorem dX0_copiesIn_74 : decode cX0_copiesIn 74 = .ok (.iload_n 2, 1) := by decide +kernel
theorem dX0_copiesIn_75 : decode cX0_copiesIn 75 = .ok (.ireturn, 1) := by decide +kernel
theorem dX0_bestBeside_0 : decode cX0_bestBeside 0 = .ok (.iload_n 1, 1) := by decide +kernel
theorem dX0_bestBeside_1 : decode cX0_bestBeside 1 = .ok (.istore_n 2, 1) := by decide +kernel
theorem dX0_bestBeside_2 : decode cX0_bestBeside 2 = .ok (.iconst 0, 1) := by decide +kernel
theorem dX0_bestBeside_3 : decode cX0_bestBeside 3 = .ok (.istore_n 3, 1) := by decide +kernel
theorem dX0_bestBeside_4 : decode cX0_bestBeside 4 = .ok (.iload_n 3, 1) := by decide +kernel
theorem dX0_bestBeside_5 : decode cX0_bestBeside 5 = .ok (.aload_n 0, 1) := by decide +kernel
theorem dX0_bestBeside_6 : decode cX0_bestBeside 6 = .ok (.getfield 9, 3) := by decide +kernel
theorem dX0_bestBeside_9 : decode cX0_bestBeside 9 = .ok (.getfield 30, 3) := by decide +kernel
theorem dX0_bestBeside_12 : decode cX0_bestBeside 12 = .ok (.if_icmp .ge 38, 3) := by decide +kernel
theorem dX0_bestBeside_15 : decode cX0_bestBeside 15 = .ok (.aload_n 0, 1) := by decide +kernel
theorem dX0_bestBeside_16 : decode cX0_bestBeside 16 = .ok (.getfield 9, 3) := by decide +kernel
theorem dX0_bestBeside_19 : decode cX0_bestBeside 19 = .ok (.iload_n 1, 1) := by decide +kernel
theorem dX0_bestBeside_20 : decode cX0_bestBeside 20 = .ok (.iload_n 3, 1) := by decide +kernel
theorem dX0_bestBeside_21 : decode cX0_bestBeside 21 = .ok (.invokevirtual 64, 3) := by decide +kernel
theorem dX0_bestBeside_24 : decode cX0_bestBeside 24 = .ok (.ifCond .eq 20, 3) := by decide +kernel
theorem dX0_bestBeside_27 : decode cX0_bestBeside 27 = .ok (.aload_n 0, 1) := by decide +kernel
theorem dX0_bestBeside_28 : decode cX0_bestBeside 28 = .ok (.getfield 23, 3) := by decide +kernel
theorem dX0_bestBeside_31 : decode cX0_bestBeside 31 = .ok (.iload_n 3, 1) := by decide +kernel
theorem dX0_bestBeside_32 : decode cX0_bestBeside 32 = .ok (.iaload, 1) := by decide +kernel
theorem dX0_bestBeside_33 : decode cX0_bestBeside 33 = .ok (.aload_n 0, 1) := by decide +kernel
theorem dX0_bestBeside_34 : decode cX0_bestBeside 34 = .ok (.getfield 23, 3) := by decide +kernel
theorem dX0_bestBeside_37 : decode cX0_bestBeside 37 = .ok (.iload_n 2, 1) := by decide +kernel
theorem dX0_bestBeside_38 : decode cX0_bestBeside 38 = .ok (.iaload, 1) := by decide +kernel
theorem dX0_bestBeside_39 : decode cX0_bestBeside 39 = .ok (.if_icmp .le 5, 3) := by decide +kernel
theorem dX0_bestBeside_42 : decode cX0_bestBeside 42 = .ok (.iload_n 3, 1) := by decide +kernel
theorem dX0_bestBeside_43 : decode cX0_bestBeside 43 = .ok (.istore_n 2, 1) := by decide +kernel
theorem dX0_bestBeside_44 : decode cX0_bestBeside 44 = .ok (.iinc 3 1, 3) := by decide +kernel
theorem dX0_bestBeside_47 : decode cX0_bestBeside 47 = .ok (.goto (-43), 3) := by decide +kernel
theorem dX0_bestBeside_50 : decode cX0_bestBeside 50 = .ok (.iload_n 2, 1) := by decide +kernel
theorem dX0_bestBeside_51 : decode cX0_bestBeside 51 = .ok (.ireturn, 1) := by decide +kernel
theorem dX0_overBarIn_0 : decode cX0_overBarIn 0 = .ok (.iconst 0, 1) := by decide +kernel
theorem dX0_overBarIn_1 : decode cX0_overBarIn 1 = .ok (.istore_n 2, 1) := by decide +kernel
theorem dX0_overBarIn_2 : decode cX0_overBarIn 2 = .ok (.iconst 0, 1) := by decide +kernel
theorem dX0_overBarIn_3 : decode cX0_overBarIn 3 = .ok (.istore_n 3, 1) := by decide +kernel
theorem dX0_overBarIn_4 : decode cX0_overBarIn 4 = .ok (.iload_n 3, 1) := by decide +kernel
theorem dX0_overBarIn_5 : decode cX0_overBarIn 5 = .ok (.aload_n 0, 1) := by decide +kernel
theorem dX0_overBarIn_6 : decode cX0_overBarIn 6 = .ok (.getfield 9, 3) := by decide +kernel
theorem dX0_overBarIn_9 : decode cX0_overBarIn 9 = .ok (.getfield 30, 3) := by decide +kernel
theorem dX0_overBarIn_12 : decode cX0_overBarIn 12 = .ok (.if_icmp .ge 67, 3) := by decide +kernel
theorem dX0_overBarIn_15 : decode cX0_overBarIn 15 = .ok (.aload_n 0, 1) := by decide +kernel
theorem dX0_overBarIn_16 : decode cX0_overBarIn 16 = .ok (.getfield 9, 3) := by decide +kernel
theorem dX0_overBarIn_19 : decode cX0_overBarIn 19 = .ok (.getfield 67, 3) := by decide +kernel
theorem dX0_overBarIn_22 : decode cX0_overBarIn 22 = .ok (.iload_n 3, 1) := by decide +kernel
theorem dX0_overBarIn_23 : decode cX0_overBarIn 23 = .ok (.iaload, 1) := by decide +kernel
theorem dX0_overBarIn_24 : decode cX0_overBarIn 24 = .ok (.ifCond .ne 20, 3) := by decide +kernel
theorem dX0_overBarIn_27 : decode cX0_overBarIn 27 = .ok (.iload_n 3, 1) := by decide +kernel
theorem dX0_overBarIn_28 : decode cX0_overBarIn 28 = .ok (.iload_n 1, 1) := by decide +kernel
theorem dX0_overBarIn_29 : decode cX0_overBarIn 29 = .ok (.invokestatic 58, 3) := by decide +kernel
theorem dX0_overBarIn_32 : decode cX0_overBarIn 32 = .ok (.iconst 1, 1) := by decide +kernel
theorem dX0_overBarIn_33 : decode cX0_overBarIn 33 = .ok (.if_icmp .ne 7, 3) := by decide +kernel
theorem dX0_overBarIn_36 : decode cX0_overBarIn 36 = .ok (.iconst 1, 1) := by decide +kernel
theorem dX0_overBarIn_37 : decode cX0_overBarIn 37 = .ok (.goto 23, 3) := by decide +kernel
theorem dX0_overBarIn_40 : decode cX0_overBarIn 40 = .ok (.iconst 0, 1) := by decide +kernel
theorem dX0_overBarIn_41 : decode cX0_overBarIn 41 = .ok (.goto 19, 3) := by decide +kernel
theorem dX0_overBarIn_44 : decode cX0_overBarIn 44 = .ok (.aload_n 0, 1) := by decide +kernel
theorem dX0_overBarIn_45 : decode cX0_overBarIn 45 = .ok (.getfield 9, 3) := by decide +kernel
theorem dX0_overBarIn_48 : decode cX0_overBarIn 48 = .ok (.iload_n 3, 1) := by decide +kernel
theorem dX0_overBarIn_49 : decode cX0_overBarIn 49 = .ok (.iload_n 1, 1) := by decide +kernel
theorem dX0_overBarIn_50 : decode cX0_overBarIn 50 = .ok (.aload_n 0, 1) := by decide +kernel
theorem dX0_overBarIn_51 : decode cX0_overBarIn 51 = .ok (.getfield 9, 3) := by decide +kernel
theorem dX0_overBarIn_54 : decode cX0_overBarIn 54 = .ok (.getfield 70, 3) := by decide +kernel
theorem dX0_overBarIn_57 : decode cX0_overBarIn 57 = .ok (.invokevirtual 73, 3) := by decide +kernel
theorem dX0_overBarIn_60 : decode cX0_overBarIn 60 = .ok (.istore 4, 2) := by decide +kernel
theorem dX0_overBarIn_62 : decode cX0_overBarIn 62 = .ok (.iload 4, 2) := by decide +kernel
theorem dX0_overBarIn_64 : decode cX0_overBarIn 64 = .ok (.ifCond .eq 9, 3) := by decide +kernel
theorem dX0_overBarIn_67 : decode cX0_overBarIn 67 = .ok (.iload_n 2, 1) := by decide +kernel
theorem dX0_overBarIn_68 : decode cX0_overBarIn 68 = .ok (.iconst 1, 1) := by decide +kernel
theorem dX0_overBarIn_69 : decode cX0_overBarIn 69 = .ok (.iload_n 3, 1) := by decide +kernel
theorem dX0_overBarIn_70 : decode cX0_overBarIn 70 = .ok (.ishl, 1) := by decide +kernel
theorem dX0_overBarIn_71 : decode cX0_overBarIn 71 = .ok (.ior, 1) := by decide +kernel
theorem dX0_overBarIn_72 : decode cX0_overBarIn 72 = .ok (.istore_n 2, 1) := by decide +kernel
theorem dX0_overBarIn_73 : decode cX0_overBarIn 73 = .ok (.iinc 3 1, 3) := by decide +kernel
theorem dX0_overBarIn_76 : decode cX0_overBarIn 76 = .ok (.goto (-72), 3) := by decide +kernel
theorem dX0_overBarIn_79 : decode cX0_overBarIn 79 = .ok (.iload_n 2, 1) := by decide +kernel
theorem dX0_overBarIn_80 : decode cX0_overBarIn 80 = .ok (.ireturn, 1) := by decide +kernel
theorem dX1_init_0 : decode cX1_init 0 = .ok (.aload_n 0, 1) := by decide +kernel
theorem dX1_init_1 : decode cX1_init 1 = .ok (.invokespecial 3, 3) := by decide +kernel
theorem dX1_init_4 : decode cX1_init 4 = .ok (.aload_n 0, 1) := by decide +kernel
theorem dX1_init_5 : decode cX1_init 5 = .ok (.bipush 100, 2) := by decide +kernel
theorem dX1_init_7 : decode cX1_init 7 = .ok (.newarray .int, 2) := by decide +kernel
theorem dX1_init_9 : decode cX1_init 9 = .ok (.putfield 9, 3) := by decide +kernel
theorem dX1_init_12 : decode cX1_init 12 = .ok (.aload_n 0, 1) := by decide +kernel
theorem dX1_init_13 : decode cX1_init 13 = .ok (.bipush 10, 2) := by decide +kernel
theorem dX1_init_15 : decode cX1_init 15 = .ok (.newarray .int, 2) := by decide +kernel
theorem dX1_init_17 : decode cX1_init 17 = .ok (.putfield 15, 3) := by decide +kernel
theorem dX1_init_20 : decode cX1_init 20 = .ok (.aload_n 0, 1) := by decide +kernel
theorem dX1_init_21 : decode cX1_init 21 = .ok (.iconst 4, 1) := by decide +kernel
theorem dX1_init_22 : decode cX1_init 22 = .ok (.newarray .int, 2) := by decide +kernel
theorem dX1_init_24 : decode cX1_init 24 = .ok (.dup, 1) := by decide +kernel
theorem dX1_init_25 : decode cX1_init 25 = .ok (.iconst 0, 1) := by decide +kernel
theorem dX1_init_26 : decode cX1_init 26 = .ok (.iconst 1, 1) := by decide +kernel
theorem dX1_init_27 : decode cX1_init 27 = .ok (.iastore, 1) := by decide +kernel
theorem dX1_init_28 : decode cX1_init 28 = .ok (.dup, 1) := by decide +kernel
theorem dX1_init_29 : decode cX1_init 29 = .ok (.iconst 1, 1) := by decide +kernel
theorem dX1_init_30 : decode cX1_init 30 = .ok (.iconst 0, 1) := by decide +kernel
theorem dX1_init_31 : decode cX1_init 31 = .ok (.iastore, 1) := by decide +kernel
theorem dX1_init_32 : decode cX1_init 32 = .ok (.dup, 1) := by decide +kernel
theorem dX1_init_33 : decode cX1_init 33 = .ok (.iconst 2, 1) := by decide +kernel
theorem dX1_init_34 : decode cX1_init 34 = .ok (.iconst 0, 1) := by decide +kernel
theorem dX1_init_35 : decode cX1_init 35 = .ok (.iastore, 1) := by decide +kernel
theorem dX1_init_36 : decode cX1_init 36 = .ok (.dup, 1) := by decide +kernel
theorem dX1_init_37 : decode cX1_init 37 = .ok (.iconst 3, 1) := by decide +kernel
theorem dX1_init_38 : decode cX1_init 38 = .ok (.iconst 1, 1) := by decide +kernel
theorem dX1_init_39 : decode cX1_init 39 = .ok (.iastore, 1) := by decide +kernel
theorem dX1_init_40 : decode cX1_init 40 = .ok (.putfield 18, 3) := by decide +kernel
theorem dX1_init_43 : decode cX1_init 43 = .ok (.aload_n 0, 1) := by decide +kernel
theorem dX1_init_44 : decode cX1_init 44 = .ok (.iconst 4, 1) := by decide +kernel
theorem dX1_init_45 : decode cX1_init 45 = .ok (.putfield 21, 3) := by decide +kernel
theorem dX1_init_48 : decode cX1_init 48 = .ok (.aload_n 0, 1) := by decide +kernel
theorem dX1_init_49 : decode cX1_init 49 = .ok (.bipush 50, 2) := by decide +kernel
theorem dX1_init_51 : decode cX1_init 51 = .ok (.putfield 25, 3) := by decide +kernel
theorem dX1_init_54 : decode cX1_init 54 = .ok (.return_, 1) := by decide +kernel
theorem dX1_beginAnew_0 : decode cX1_beginAnew 0 = .ok (.aload_n 0, 1) := by decide +kernel
theorem dX1_beginAnew_1 : decode cX1_beginAnew 1 = .ok (.iload_n 1, 1) := by decide +kernel
theorem dX1_beginAnew_2 : decode cX1_beginAnew 2 = .ok (.putfield 21, 3) := by decide +kernel
theorem dX1_beginAnew_5 : decode cX1_beginAnew 5 = .ok (.iconst 0, 1) := by decide +kernel
theorem dX1_beginAnew_6 : decode cX1_beginAnew 6 = .ok (.istore_n 2, 1) := by decide +kernel
theorem dX1_beginAnew_7 : decode cX1_beginAnew 7 = .ok (.iload_n 2, 1) := by decide +kernel
theorem dX1_beginAnew_8 : decode cX1_beginAnew 8 = .ok (.aload_n 0, 1) := by decide +kernel
theorem dX1_beginAnew_9 : decode cX1_beginAnew 9 = .ok (.getfield 9, 3) := by decide +kernel
theorem dX1_beginAnew_12 : decode cX1_beginAnew 12 = .ok (.arraylength, 1) := by decide +kernel
theorem dX1_beginAnew_13 : decode cX1_beginAnew 13 = .ok (.if_icmp .ge 16, 3) := by decide +kernel
theorem dX1_beginAnew_16 : decode cX1_beginAnew 16 = .ok (.aload_n 0, 1) := by decide +kernel
theorem dX1_beginAnew_17 : decode cX1_beginAnew 17 = .ok (.getfield 9, 3) := by decide +kernel
theorem dX1_beginAnew_20 : decode cX1_beginAnew 20 = .ok (.iload_n 2, 1) := by decide +kernel
theorem dX1_beginAnew_21 : decode cX1_beginAnew 21 = .ok (.iconst 0, 1) := by decide +kernel
theorem dX1_beginAnew_22 : decode cX1_beginAnew 22 = .ok (.iastore, 1) := by decide +kernel
theorem dX1_beginAnew_23 : decode cX1_beginAnew 23 = .ok (.iinc 2 1, 3) := by decide +kernel
theorem dX1_beginAnew_26 : decode cX1_beginAnew 26 = .ok (.goto (-19), 3) := by decide +kernel
theorem dX1_beginAnew_29 : decode cX1_beginAnew 29 = .ok (.iconst 0, 1) := by decide +kernel
theorem dX1_beginAnew_30 : decode cX1_beginAnew 30 = .ok (.istore_n 2, 1) := by decide +kernel
theorem dX1_beginAnew_31 : decode cX1_beginAnew 31 = .ok (.iload_n 2, 1) := by decide +kernel
theorem dX1_beginAnew_32 : decode cX1_beginAnew 32 = .ok (.aload_n 0, 1) := by decide +kernel
theorem dX1_beginAnew_33 : decode cX1_beginAnew 33 = .ok (.getfield 15, 3) := by decide +kernel
theorem dX1_beginAnew_36 : decode cX1_beginAnew 36 = .ok (.arraylength, 1) := by decide +kernel
theorem dX1_beginAnew_37 : decode cX1_beginAnew 37 = .ok (.if_icmp .ge 16, 3) := by decide +kernel
theorem dX1_beginAnew_40 : decode cX1_beginAnew 40 = .ok (.aload_n 0, 1) := by decide +kernel
theorem dX1_beginAnew_41 : decode cX1_beginAnew 41 = .ok (.getfield 15, 3) := by decide +kernel
theorem dX1_beginAnew_44 : decode cX1_beginAnew 44 = .ok (.iload_n 2, 1) := by decide +kernel
theorem dX1_beginAnew_45 : decode cX1_beginAnew 45 = .ok (.iconst 0, 1) := by decide +kernel
theorem dX1_beginAnew_46 : decode cX1_beginAnew 46 = .ok (.iastore, 1) := by decide +kernel
theorem dX1_beginAnew_47 : decode cX1_beginAnew 47 = .ok (.iinc 2 1, 3) := by decide +kernel
theorem dX1_beginAnew_50 : decode cX1_beginAnew 50 = .ok (.goto (-19), 3) := by decide +kernel
theorem dX1_beginAnew_53 : decode cX1_beginAnew 53 = .ok (.return_, 1) := by decide +kernel
theorem dX1_states_0 : decode cX1_states 0 = .ok (.iconst 1, 1) := by decide +kernel
theorem dX1_states_1 : decode cX1_states 1 = .ok (.aload_n 0, 1) := by decide +kernel
theorem dX1_states_2 : decode cX1_states 2 = .ok (.getfield 21, 3) := by decide +kernel
theorem dX1_states_5 : decode cX1_states 5 = .ok (.ishl, 1) := by decide +kernel
theorem dX1_states_6 : decode cX1_states 6 = .ok (.ireturn, 1) := by decide +kernel
theorem dX1_has_0 : decode cX1_has 0 = .ok (.iload_n 1, 1) := by decide +kernel
theorem dX1_has_1 : decode cX1_has 1 = .ok (.ifCond .lt 15, 3) := by decide +kernel
theorem dX1_has_4 : decode cX1_has 4 = .ok (.iload_n 1, 1) := by decide +kernel
theorem dX1_has_5 : decode cX1_has 5 = .ok (.aload_n 0, 1) := by decide +kernel
theorem dX1_has_6 : decode cX1_has 6 = .ok (.getfield 21, 3) := by decide +kernel
theorem dX1_has_9 : decode cX1_has 9 = .ok (.if_icmp .ge 7, 3) := by decide +kernel
theorem dX1_has_12 : decode cX1_has 12 = .ok (.iconst 1, 1) := by decide +kernel
theorem dX1_has_13 : decode cX1_has 13 = .ok (.goto 4, 3) := by decide +kernel
theorem dX1_has_16 : decode cX1_has 16 = .ok (.iconst 0, 1) := by decide +kernel
theorem dX1_has_17 : decode cX1_has 17 = .ok (.ireturn, 1) := by decide +kernel
theorem dX1_mayJoin_0 : decode cX1_mayJoin 0 = .ok (.aload_n 0, 1) := by decide +kernel
theorem dX1_mayJoin_1 : decode cX1_mayJoin 1 = .ok (.iload_n 1, 1) := by decide +kernel
theorem dX1_mayJoin_2 : decode cX1_mayJoin 2 = .ok (.invokevirtual 28, 3) := by decide +kernel
theorem dX1_mayJoin_5 : decode cX1_mayJoin 5 = .ok (.ifCond .eq 20, 3) := by decide +kernel
theorem dX1_mayJoin_8 : decode cX1_mayJoin 8 = .ok (.aload_n 0, 1) := by decide +kernel
theorem dX1_mayJoin_9 : decode cX1_mayJoin 9 = .ok (.iload_n 2, 1) := by decide +kernel
theorem dX1_mayJoin_10 : decode cX1_mayJoin 10 = .ok (.invokevirtual 28, 3) := by decide +kernel
theorem dX1_mayJoin_13 : decode cX1_mayJoin 13 = .ok (.ifCond .eq 12, 3) := by decide +kernel
theorem dX1_mayJoin_16 : decode cX1_mayJoin 16 = .ok (.iload_n 1, 1) := by decide +kernel
theorem dX1_mayJoin_17 : decode cX1_mayJoin 17 = .ok (.iload_n 2, 1) := by decide +kernel
theorem dX1_mayJoin_18 : decode cX1_mayJoin 18 = .ok (.if_icmp .eq 7, 3) := by decide +kernel
theorem dX1_mayJoin_21 : decode cX1_mayJoin 21 = .ok (.iconst 1, 1) := by decide +kernel
theorem dX1_mayJoin_22 : decode cX1_mayJoin 22 = .ok (.goto 4, 3) := by decide +kernel
theorem dX1_mayJoin_25 : decode cX1_mayJoin 25 = .ok (.iconst 0, 1) := by decide +kernel
theorem dX1_mayJoin_26 : decode cX1_mayJoin 26 = .ok (.ireturn, 1) := by decide +kernel
theorem dX1_isState_0 : decode cX1_isState 0 = .ok (.iload_n 1, 1) := by decide +kernel
theorem dX1_isState_1 : decode cX1_isState 1 = .ok (.ifCond .lt 15, 3) := by decide +kernel
theorem dX1_isState_4 : decode cX1_isState 4 = .ok (.iload_n 1, 1) := by decide +kernel
theorem dX1_isState_5 : decode cX1_isState 5 = .ok (.aload_n 0, 1) := by decide +kernel
theorem dX1_isState_6 : decode cX1_isState 6 = .ok (.invokevirtual 32, 3) := by decide +kernel
theorem dX1_isState_9 : decode cX1_isState 9 = .ok (.if_icmp .ge 7, 3) := by decide +kernel
theorem dX1_isState_12 : decode cX1_isState 12 = .ok (.iconst 1, 1) := by decide +kernel
theorem dX1_isState_13 : decode cX1_isState 13 = .ok (.goto 4, 3) := by decide +kernel
theorem dX1_isState_16 : decode cX1_isState 16 = .ok (.iconst 0, 1) := by decide +kernel
theorem dX1_isState_17 : decode cX1_isState 17 = .ok (.ireturn, 1) := by decide +kernel
theorem dX1_weightOf_0 : decode cX1_weightOf 0 = .ok (.aload_n 0, 1) := by decide +kernel
theorem dX1_weightOf_1 : decode cX1_weightOf 1 = .ok (.getfield 9, 3) := by decide +kernel
theorem dX1_weightOf_4 : decode cX1_weightOf 4 = .ok (.iload_n 1, 1) := by decide +kernel
theorem dX1_weightOf_5 : decode cX1_weightOf 5 = .ok (.bipush 10, 2) := by decide +kernel
theorem dX1_weightOf_7 : decode cX1_weightOf 7 = .ok (.imul, 1) := by decide +kernel
theorem dX1_weightOf_8 : decode cX1_weightOf 8 = .ok (.iload_n 2, 1) := by decide +kernel
theorem dX1_weightOf_9 : decode cX1_weightOf 9 = .ok (.iadd, 1) := by decide +kernel
theorem dX1_weightOf_10 : decode cX1_weightOf 10 = .ok (.iaload, 1) := by decide +kernel
theorem dX1_weightOf_11 : decode cX1_weightOf 11 = .ok (.ireturn, 1) := by decide +kernel
theorem dX1_setWeight_0 : decode cX1_setWeight 0 = .ok (.iload_n 3, 1) := by decide +kernel
theorem dX1_setWeight_1 : decode cX1_setWeight 1 = .ok (.aload_n 0, 1) := by decide +kernel
theorem dX1_setWeight_2 : decode cX1_setWeight 2 = .ok (.iload_n 1, 1) := by decide +kernel
theorem dX1_setWeight_3 : decode cX1_setWeight 3 = .ok (.iload_n 2, 1) := by decide +kernel
theorem dX1_setWeight_4 : decode cX1_setWeight 4 = .ok (.invokevirtual 36, 3) := by decide +kernel
theorem dX1_setWeight_7 : decode cX1_setWeight 7 = .ok (.isub, 1) := by decide +kernel
theorem dX1_setWeight_8 : decode cX1_setWeight 8 = .ok (.istore 4, 2) := by decide +kernel
theorem dX1_setWeight_10 : decode cX1_setWeight 10 = .ok (.aload_n 0, 1) := by decide +kernel
theorem dX1_setWeight_11 : decode cX1_setWeight 11 = .ok (.getfield 15, 3) := by decide +kernel
theorem dX1_setWeight_14 : decode cX1_setWeight 14 = .ok (.iload_n 1, 1) := by decide +kernel
theorem dX1_setWeight_15 : decode cX1_setWeight 15 = .ok (.dup2, 1) := by decide +kernel
theorem dX1_setWeight_16 : decode cX1_setWeight 16 = .ok (.iaload, 1) := by decide +kernel
theorem dX1_setWeight_17 : decode cX1_setWeight 17 = .ok (.iload 4, 2) := by decide +kernel
theorem dX1_setWeight_19 : decode cX1_setWeight 19 = .ok (.iadd, 1) := by decide +kernel
theorem dX1_setWeight_20 : decode cX1_setWeight 20 = .ok (.iastore, 1) := by decide +kernel
theorem dX1_setWeight_21 : decode cX1_setWeight 21 = .ok (.aload_n 0, 1) := by decide +kernel
theorem dX1_setWeight_22 : decode cX1_setWeight 22 = .ok (.getfield 15, 3) := by decide +kernel
theorem dX1_setWeight_25 : decode cX1_setWeight 25 = .ok (.iload_n 2, 1) := by decide +kernel
theorem dX1_setWeight_26 : decode cX1_setWeight 26 = .ok (.dup2, 1) := by decide +kernel
theorem dX1_setWeight_27 : decode cX1_setWeight 27 = .ok (.iaload, 1) := by decide +kernel
theorem dX1_setWeight_28 : decode cX1_setWeight 28 = .ok (.iload 4, 2) := by decide +kernel
theorem dX1_setWeight_30 : decode cX1_setWeight 30 = .ok (.iadd, 1) := by decide +kernel
theorem dX1_setWeight_31 : decode cX1_setWeight 31 = .ok (.iastore, 1) := by decide +kernel
theorem dX1_setWeight_32 : decode cX1_setWeight 32 = .ok (.aload_n 0, 1) := by decide +kernel
theorem dX1_setWeight_33 : decode cX1_setWeight 33 = .ok (.getfield 9, 3) := by decide +kernel
theorem dX1_setWeight_36 : decode cX1_setWeight 36 = .ok (.iload_n 1, 1) := by decide +kernel
theorem dX1_setWeight_37 : decode cX1_setWeight 37 = .ok (.bipush 10, 2) := by decide +kernel
theorem dX1_setWeight_39 : decode cX1_setWeight 39 = .ok (.imul, 1) := by decide +kernel
theorem dX1_setWeight_40 : decode cX1_setWeight 40 = .ok (.iload_n 2, 1) := by decide +kernel
theorem dX1_setWeight_41 : decode cX1_setWeight 41 = .ok (.iadd, 1) := by decide +kernel
theorem dX1_setWeight_42 : decode cX1_setWeight 42 = .ok (.iload_n 3, 1) := by decide +kernel
theorem dX1_setWeight_43 : decode cX1_setWeight 43 = .ok (.iastore, 1) := by decide +kernel
theorem dX1_setWeight_44 : decode cX1_setWeight 44 = .ok (.aload_n 0, 1) := by decide +kernel
theorem dX1_setWeight_45 : decode cX1_setWeight 45 = .ok (.getfield 9, 3) := by decide +kernel
theorem dX1_setWeight_48 : decode cX1_setWeight 48 = .ok (.iload_n 2, 1) := by decide +kernel
theorem dX1_setWeight_49 : decode cX1_setWeight 49 = .ok (.bipush 10, 2) := by decide +kernel
theorem dX1_setWeight_51 : decode cX1_setWeight 51 = .ok (.imul, 1) := by decide +kernel
theorem dX1_setWeight_52 : decode cX1_setWeight 52 = .ok (.iload_n 1, 1) := by decide +kernel
theorem dX1_setWeight_53 : decode cX1_setWeight 53 = .ok (.iadd, 1) := by decide +kernel
theorem dX1_setWeight_54 : decode cX1_setWeight 54 = .ok (.iload_n 3, 1) := by decide +kernel
theorem dX1_setWeight_55 : decode cX1_setWeight 55 = .ok (.iastore, 1) := by decide +kernel
theorem dX1_setWeight_56 : decode cX1_setWeight 56 = .ok (.return_, 1) := by decide +kernel
theorem dX1_payOf_0 : decode cX1_payOf 0 = .ok (.aload_n 0, 1) := by decide +kernel
theorem dX1_payOf_1 : decode cX1_payOf 1 = .ok (.getfield 18, 3) := by decide +kernel
theorem dX1_payOf_4 : decode cX1_payOf 4 = .ok (.iconst 2, 1) := by decide +kernel
theorem dX1_payOf_5 : decode cX1_payOf 5 = .ok (.iload_n 1, 1) := by decide +kernel
theorem dX1_payOf_6 : decode cX1_payOf 6 = .ok (.imul, 1) := by decide +kernel
theorem dX1_payOf_7 : decode cX1_payOf 7 = .ok (.iload_n 2, 1) := by decide +kernel
theorem dX1_payOf_8 : decode cX1_payOf 8 = .ok (.iadd, 1) := by decide +kernel
theorem dX1_payOf_9 : decode cX1_payOf 9 = .ok (.iaload, 1) := by decide +kernel
theorem dX1_payOf_10 : decode cX1_payOf 10 = .ok (.ireturn, 1) := by decide +kernel
theorem dX1_setPay_0 : decode cX1_setPay 0 = .ok (.aload_n 0, 1) := by decide +kernel
theorem dX1_setPay_1 : decode cX1_setPay 1 = .ok (.getfield 18, 3) := by decide +kernel
theorem dX1_setPay_4 : decode cX1_setPay 4 = .ok (.iconst 2, 1) := by decide +kernel
theorem dX1_setPay_5 : decode cX1_setPay 5 = .ok (.iload_n 1, 1) := by decide +kernel
theorem dX1_setPay_6 : decode cX1_setPay 6 = .ok (.imul, 1) := by decide +kernel
theorem dX1_setPay_7 : decode cX1_setPay 7 = .ok (.iload_n 2, 1) := by decide +kernel
theorem dX1_setPay_8 : decode cX1_setPay 8 = .ok (.iadd, 1) := by decide +kernel
theorem dX1_setPay_9 : decode cX1_setPay 9 = .ok (.iload_n 3, 1) := by decide +kernel
theorem dX1_setPay_10 : decode cX1_setPay 10 = .ok (.iastore, 1) := by decide +kernel
theorem dX1_setPay_11 : decode cX1_setPay 11 = .ok (.return_, 1) := by decide +kernel
theorem dX1_howManyLines_0 : decode cX1_howManyLines 0 = .ok (.iconst 0, 1) := by decide +kernel
theorem dX1_howManyLines_1 : decode cX1_howManyLines 1 = .ok (.istore_n 1, 1) := by decide +kernel
theorem dX1_howManyLines_2 : decode cX1_howManyLines 2 = .ok (.iconst 0, 1) := by decide +kernel
theorem dX1_howManyLines_3 : decode cX1_howManyLines 3 = .ok (.istore_n 2, 1) := by decide +kernel
theorem dX1_howManyLines_4 : decode cX1_howManyLines 4 = .ok (.iload_n 2, 1) := by decide +kernel
theorem dX1_howManyLines_5 : decode cX1_howManyLines 5 = .ok (.aload_n 0, 1) := by decide +kernel
theorem dX1_howManyLines_6 : decode cX1_howManyLines 6 = .ok (.getfield 21, 3) := by decide +kernel
theorem dX1_howManyLines_9 : decode cX1_howManyLines 9 = .ok (.if_icmp .ge 39, 3) := by decide +kernel
theorem dX1_howManyLines_12 : decode cX1_howManyLines 12 = .ok (.iload_n 2, 1) := by decide +kernel
theorem dX1_howManyLines_13 : decode cX1_howManyLines 13 = .ok (.iconst 1, 1) := by decide +kernel
theorem dX1_howManyLines_14 : decode cX1_howManyLines 14 = .ok (.iadd, 1) := by decide +kernel
theorem dX1_howManyLines_15 : decode cX1_howManyLines 15 = .ok (.istore_n 3, 1) := by decide +kernel
theorem dX1_howManyLines_16 : decode cX1_howManyLines 16 = .ok (.iload_n 3, 1) := by decide +kernel
theorem dX1_howManyLines_17 : decode cX1_howManyLines 17 = .ok (.aload_n 0, 1) := by decide +kernel
theorem dX1_howManyLines_18 : decode cX1_howManyLines 18 = .ok (.getfield 21, 3) := by decide +kernel
theorem dX1_howManyLines_21 : decode cX1_howManyLines 21 = .ok (.if_icmp .ge 21, 3) := by decide +kernel
theorem dX1_howManyLines_24 : decode cX1_howManyLines 24 = .ok (.aload_n 0, 1) := by decide +kernel
theorem dX1_howManyLines_25 : decode cX1_howManyLines 25 = .ok (.iload_n 2, 1) := by decide +kernel
theorem dX1_howManyLines_26 : decode cX1_howManyLines 26 = .ok (.iload_n 3, 1) := by decide +kernel
theorem dX1_howManyLines_27 : decode cX1_howManyLines 27 = .ok (.invokevirtual 36, 3) := by decide +kernel
theorem dX1_howManyLines_30 : decode cX1_howManyLines 30 = .ok (.ifCond .eq 6, 3) := by decide +kernel
theorem dX1_howManyLines_33 : decode cX1_howManyLines 33 = .ok (.iinc 1 1, 3) := by decide +kernel
theorem dX1_howManyLines_36 : decode cX1_howManyLines 36 = .ok (.iinc 3 1, 3) := by decide +kernel
theorem dX1_howManyLines_39 : decode cX1_howManyLines 39 = .ok (.goto (-23), 3) := by decide +kernel
theorem dX1_howManyLines_42 : decode cX1_howManyLines 42 = .ok (.iinc 2 1, 3) := by decide +kernel
theorem dX1_howManyLines_45 : decode cX1_howManyLines 45 = .ok (.goto (-41), 3) := by decide +kernel
theorem dX1_howManyLines_48 : decode cX1_howManyLines 48 = .ok (.iload_n 1, 1) := by decide +kernel
theorem dX1_howManyLines_49 : decode cX1_howManyLines 49 = .ok (.ireturn, 1) := by decide +kernel
theorem dX1_weightsInto_0 : decode cX1_weightsInto 0 = .ok (.iconst 0, 1) := by decide +kernel
theorem dX1_weightsInto_1 : decode cX1_weightsInto 1 = .ok (.istore_n 3, 1) := by decide +kernel
theorem dX1_weightsInto_2 : decode cX1_weightsInto 2 = .ok (.iconst 0, 1) := by decide +kernel
theorem dX1_weightsInto_3 : decode cX1_weightsInto 3 = .ok (.istore 4, 2) := by decide +kernel
theorem dX1_weightsInto_5 : decode cX1_weightsInto 5 = .ok (.iload 4, 2) := by decide +kernel
theorem dX1_weightsInto_7 : decode cX1_weightsInto 7 = .ok (.aload_n 0, 1) := by decide +kernel
theorem dX1_weightsInto_8 : decode cX1_weightsInto 8 = .ok (.getfield 21, 3) := by decide +kernel
theorem dX1_weightsInto_11 : decode cX1_weightsInto 11 = .ok (.if_icmp .ge 31, 3) := by decide +kernel
theorem dX1_weightsInto_14 : decode cX1_weightsInto 14 = .ok (.iload_n 3, 1) := by decide +kernel
theorem dX1_weightsInto_15 : decode cX1_weightsInto 15 = .ok (.aload_n 0, 1) := by decide +kernel
theorem dX1_weightsInto_16 : decode cX1_weightsInto 16 = .ok (.getfield 9, 3) := by decide +kernel
theorem dX1_weightsInto_19 : decode cX1_weightsInto 19 = .ok (.iload_n 1, 1) := by decide +kernel
theorem dX1_weightsInto_20 : decode cX1_weightsInto 20 = .ok (.bipush 10, 2) := by decide +kernel
theorem dX1_weightsInto_22 : decode cX1_weightsInto 22 = .ok (.imul, 1) := by decide +kernel
theorem dX1_weightsInto_23 : decode cX1_weightsInto 23 = .ok (.iload 4, 2) := by decide +kernel
theorem dX1_weightsInto_25 : decode cX1_weightsInto 25 = .ok (.iadd, 1) := by decide +kernel
theorem dX1_weightsInto_26 : decode cX1_weightsInto 26 = .ok (.iaload, 1) := by decide +kernel
theorem dX1_weightsInto_27 : decode cX1_weightsInto 27 = .ok (.iload_n 2, 1) := by decide +kernel
theorem dX1_weightsInto_28 : decode cX1_weightsInto 28 = .ok (.iload 4, 2) := by decide +kernel
theorem dX1_weightsInto_30 : decode cX1_weightsInto 30 = .ok (.ishr, 1) := by decide +kernel
theorem dX1_weightsInto_31 : decode cX1_weightsInto 31 = .ok (.iconst 1, 1) := by decide +kernel
theorem dX1_weightsInto_32 : decode cX1_weightsInto 32 = .ok (.iand, 1) := by decide +kernel
theorem dX1_weightsInto_33 : decode cX1_weightsInto 33 = .ok (.imul, 1) := by decide +kernel
theorem dX1_weightsInto_34 : decode cX1_weightsInto 34 = .ok (.iadd, 1) := by decide +kernel
theorem dX1_weightsInto_35 : decode cX1_weightsInto 35 = .ok (.istore_n 3, 1) := by decide +kernel
theorem dX1_weightsInto_36 : decode cX1_weightsInto 36 = .ok (.iinc 4 1, 3) := by decide +kernel
theorem dX1_weightsInto_39 : decode cX1_weightsInto 39 = .ok (.goto (-34), 3) := by decide +kernel
theorem dX1_weightsInto_42 : decode cX1_weightsInto 42 = .ok (.iload_n 3, 1) := by decide +kernel
theorem dX1_weightsInto_43 : decode cX1_weightsInto 43 = .ok (.ireturn, 1) := by decide +kernel
theorem dX1_wageOf_0 : decode cX1_wageOf 0 = .ok (.aload_n 0, 1) := by decide +kernel
theorem dX1_wageOf_1 : decode cX1_wageOf 1 = .ok (.iload_n 1, 1) := by decide +kernel
theorem dX1_wageOf_2 : decode cX1_wageOf 2 = .ok (.iload_n 3, 1) := by decide +kernel
theorem dX1_wageOf_3 : decode cX1_wageOf 3 = .ok (.invokevirtual 40, 3) := by decide +kernel
theorem dX1_wageOf_6 : decode cX1_wageOf 6 = .ok (.istore 4, 2) := by decide +kernel
theorem dX1_wageOf_8 : decode cX1_wageOf 8 = .ok (.aload_n 0, 1) := by decide +kernel
theorem dX1_wageOf_9 : decode cX1_wageOf 9 = .ok (.getfield 15, 3) := by decide +kernel
theorem dX1_wageOf_12 : decode cX1_wageOf 12 = .ok (.iload_n 1, 1) := by decide +kernel
theorem dX1_wageOf_13 : decode cX1_wageOf 13 = .ok (.iaload, 1) := by decide +kernel
theorem dX1_wageOf_14 : decode cX1_wageOf 14 = .ok (.iload 4, 2) := by decide +kernel
theorem dX1_wageOf_16 : decode cX1_wageOf 16 = .ok (.isub, 1) := by decide +kernel
theorem dX1_wageOf_17 : decode cX1_wageOf 17 = .ok (.istore 5, 2) := by decide +kernel
theorem dX1_wageOf_19 : decode cX1_wageOf 19 = .ok (.iload 4, 2) := by decide +kernel
theorem dX1_wageOf_21 : decode cX1_wageOf 21 = .ok (.aload_n 0, 1) := by decide +kernel
theorem dX1_wageOf_22 : decode cX1_wageOf 22 = .ok (.iload_n 2, 1) := by decide +kernel
theorem dX1_wageOf_23 : decode cX1_wageOf 23 = .ok (.iconst 1, 1) := by decide +kernel
theorem dX1_wageOf_24 : decode cX1_wageOf 24 = .ok (.invokevirtual 43, 3) := by decide +kernel
theorem dX1_wageOf_27 : decode cX1_wageOf 27 = .ok (.imul, 1) := by decide +kernel
theorem dX1_wageOf_28 : decode cX1_wageOf 28 = .ok (.iload 5, 2) := by decide +kernel
theorem dX1_wageOf_30 : decode cX1_wageOf 30 = .ok (.aload_n 0, 1) := by decide +kernel
theorem dX1_wageOf_31 : decode cX1_wageOf 31 = .ok (.iload_n 2, 1) := by decide +kernel
theorem dX1_wageOf_32 : decode cX1_wageOf 32 = .ok (.iconst 0, 1) := by decide +kernel
theorem dX1_wageOf_33 : decode cX1_wageOf 33 = .ok (.invokevirtual 43, 3) := by decide +kernel
theorem dX1_wageOf_36 : decode cX1_wageOf 36 = .ok (.imul, 1) := by decide +kernel
theorem dX1_wageOf_37 : decode cX1_wageOf 37 = .ok (.iadd, 1) := by decide +kernel
theorem dX1_wageOf_38 : decode cX1_wageOf 38 = .ok (.ireturn, 1) := by decide +kernel
theorem dX1_reaches_0 : decode cX1_reaches 0 = .ok (.bipush 100, 2) := by decide +kernel
theorem dX1_reaches_2 : decode cX1_reaches 2 = .ok (.aload_n 0, 1) := by decide +kernel
theorem dX1_reaches_3 : decode cX1_reaches 3 = .ok (.iload_n 1, 1) := by decide +kernel
theorem dX1_reaches_4 : decode cX1_reaches 4 = .ok (.iload_n 2, 1) := by decide +kernel
theorem dX1_reaches_5 : decode cX1_reaches 5 = .ok (.invokevirtual 40, 3) := by decide +kernel
theorem dX1_reaches_8 : decode cX1_reaches 8 = .ok (.imul, 1) := by decide +kernel
theorem dX1_reaches_9 : decode cX1_reaches 9 = .ok (.iload_n 3, 1) := by decide +kernel
theorem dX1_reaches_10 : decode cX1_reaches 10 = .ok (.aload_n 0, 1) := by decide +kernel
theorem dX1_reaches_11 : decode cX1_reaches 11 = .ok (.getfield 15, 3) := by decide +kernel
theorem dX1_reaches_14 : decode cX1_reaches 14 = .ok (.iload_n 1, 1) := by decide +kernel
theorem dX1_reaches_15 : decode cX1_reaches 15 = .ok (.iaload, 1) := by decide +kernel
theorem dX1_reaches_16 : decode cX1_reaches 16 = .ok (.imul, 1) := by decide +kernel
theorem dX1_reaches_17 : decode cX1_reaches 17 = .ok (.if_icmp .lt 7, 3) := by decide +kernel
theorem dX1_reaches_20 : decode cX1_reaches 20 = .ok (.iconst 1, 1) := by decide +kernel
theorem dX1_reaches_21 : decode cX1_reaches 21 = .ok (.goto 4, 3) := by decide +kernel
theorem dX1_reaches_24 : decode cX1_reaches 24 = .ok (.iconst 0, 1) := by decide +kernel
theorem dX1_reaches_25 : decode cX1_reaches 25 = .ok (.ireturn, 1) := by decide +kernel
theorem dX1_gainOfZero_0 : decode cX1_gainOfZero 0 = .ok (.aload_n 0, 1) := by decide +kernel
theorem dX1_gainOfZero_1 : decode cX1_gainOfZero 1 = .ok (.iconst 0, 1) := by decide +kernel
theorem dX1_gainOfZero_2 : decode cX1_gainOfZero 2 = .ok (.iconst 0, 1) := by decide +kernel
theorem dX1_gainOfZero_3 : decode cX1_gainOfZero 3 = .ok (.invokevirtual 43, 3) := by decide +kernel
theorem dX1_gainOfZero_6 : decode cX1_gainOfZero 6 = .ok (.aload_n 0, 1) := by decide +kernel
theorem dX1_gainOfZero_7 : decode cX1_gainOfZero 7 = .ok (.iconst 1, 1) := by decide +kernel
theorem dX1_gainOfZero_8 : decode cX1_gainOfZero 8 = .ok (.iconst 0, 1) := by decide +kernel
theorem dX1_gainOfZero_9 : decode cX1_gainOfZero 9 = .ok (.invokevirtual 43, 3) := by decide +kernel
theorem dX1_gainOfZero_12 : decode cX1_gainOfZero 12 = .ok (.isub, 1) := by decide +kernel
theorem dX1_gainOfZero_13 : decode cX1_gainOfZero 13 = .ok (.ireturn, 1) := by decide +kernel
theorem dX1_gainOfOne_0 : decode cX1_gainOfOne 0 = .ok (.aload_n 0, 1) := by decide +kernel
theorem dX1_gainOfOne_1 : decode cX1_gainOfOne 1 = .ok (.iconst 1, 1) := by decide +kernel
theorem dX1_gainOfOne_2 : decode cX1_gainOfOne 2 = .ok (.iconst 1, 1) := by decide +kernel
theorem dX1_gainOfOne_3 : decode cX1_gainOfOne 3 = .ok (.invokevirtual 43, 3) := by decide +kernel
theorem dX1_gainOfOne_6 : decode cX1_gainOfOne 6 = .ok (.aload_n 0, 1) := by decide +kernel
theorem dX1_gainOfOne_7 : decode cX1_gainOfOne 7 = .ok (.iconst 0, 1) := by decide +kernel
theorem dX1_gainOfOne_8 : decode cX1_gainOfOne 8 = .ok (.iconst 1, 1) := by decide +kernel
theorem dX1_gainOfOne_9 : decode cX1_gainOfOne 9 = .ok (.invokevirtual 43, 3) := by decide +kernel
theorem dX1_gainOfOne_12 : decode cX1_gainOfOne 12 = .ok (.isub, 1) := by decide +kernel
theorem dX1_gainOfOne_13 : decode cX1_gainOfOne 13 = .ok (.ireturn, 1) := by decide +kernel
theorem dX1_riseOf_0 : decode cX1_riseOf 0 = .ok (.iconst 0, 1) := by decide +kernel
theorem dX1_riseOf_1 : decode cX1_riseOf 1 = .ok (.istore_n 2, 1) := by decide +kernel
theorem dX1_riseOf_2 : decode cX1_riseOf 2 = .ok (.iconst 0, 1) := by decide +kernel
theorem dX1_riseOf_3 : decode cX1_riseOf 3 = .ok (.istore_n 3, 1) := by decide +kernel
theorem dX1_riseOf_4 : decode cX1_riseOf 4 = .ok (.iload_n 3, 1) := by decide +kernel
theorem dX1_riseOf_5 : decode cX1_riseOf 5 = .ok (.aload_n 0, 1) := by decide +kernel
theorem dX1_riseOf_6 : decode cX1_riseOf 6 = .ok (.getfield 21, 3) := by decide +kernel
theorem dX1_riseOf_9 : decode cX1_riseOf 9 = .ok (.if_icmp .ge 79, 3) := by decide +kernel
theorem dX1_riseOf_12 : decode cX1_riseOf 12 = .ok (.iload_n 3, 1) := by decide +kernel
theorem dX1_riseOf_13 : decode cX1_riseOf 13 = .ok (.iload_n 1, 1) := by decide +kernel
theorem dX1_riseOf_14 : decode cX1_riseOf 14 = .ok (.invokestatic 46, 3) := by decide +kernel
theorem dX1_riseOf_17 : decode cX1_riseOf 17 = .ok (.istore 4, 2) := by decide +kernel
theorem dX1_riseOf_19 : decode cX1_riseOf 19 = .ok (.iload 4, 2) := by decide +kernel
theorem dX1_riseOf_21 : decode cX1_riseOf 21 = .ok (.iconst 1, 1) := by decide +kernel
theorem dX1_riseOf_22 : decode cX1_riseOf 22 = .ok (.if_icmp .ne 10, 3) := by decide +kernel
theorem dX1_riseOf_25 : decode cX1_riseOf 25 = .ok (.aload_n 0, 1) := by decide +kernel
theorem dX1_riseOf_26 : decode cX1_riseOf 26 = .ok (.invokevirtual 49, 3) := by decide +kernel
theorem dX1_riseOf_29 : decode cX1_riseOf 29 = .ok (.goto 7, 3) := by decide +kernel
theorem dX1_riseOf_32 : decode cX1_riseOf 32 = .ok (.aload_n 0, 1) := by decide +kernel
theorem dX1_riseOf_33 : decode cX1_riseOf 33 = .ok (.invokevirtual 52, 3) := by decide +kernel
theorem dX1_riseOf_36 : decode cX1_riseOf 36 = .ok (.istore 5, 2) := by decide +kernel
theorem dX1_riseOf_38 : decode cX1_riseOf 38 = .ok (.iload_n 3, 1) := by decide +kernel
theorem dX1_riseOf_39 : decode cX1_riseOf 39 = .ok (.iconst 1, 1) := by decide +kernel
theorem dX1_riseOf_40 : decode cX1_riseOf 40 = .ok (.iadd, 1) := by decide +kernel
theorem dX1_riseOf_41 : decode cX1_riseOf 41 = .ok (.istore 6, 2) := by decide +kernel
theorem dX1_riseOf_43 : decode cX1_riseOf 43 = .ok (.iload 6, 2) := by decide +kernel
theorem dX1_riseOf_45 : decode cX1_riseOf 45 = .ok (.aload_n 0, 1) := by decide +kernel
theorem dX1_riseOf_46 : decode cX1_riseOf 46 = .ok (.getfield 21, 3) := by decide +kernel
theorem dX1_riseOf_49 : decode cX1_riseOf 49 = .ok (.if_icmp .ge 33, 3) := by decide +kernel
theorem dX1_riseOf_52 : decode cX1_riseOf 52 = .ok (.iload 6, 2) := by decide +kernel
theorem dX1_riseOf_54 : decode cX1_riseOf 54 = .ok (.iload_n 1, 1) := by decide +kernel
theorem dX1_riseOf_55 : decode cX1_riseOf 55 = .ok (.invokestatic 46, 3) := by decide +kernel
theorem dX1_riseOf_58 : decode cX1_riseOf 58 = .ok (.iload 4, 2) := by decide +kernel
theorem dX1_riseOf_60 : decode cX1_riseOf 60 = .ok (.if_icmp .ne 16, 3) := by decide +kernel
theorem dX1_riseOf_63 : decode cX1_riseOf 63 = .ok (.iload_n 2, 1) := by decide +kernel
theorem dX1_riseOf_64 : decode cX1_riseOf 64 = .ok (.aload_n 0, 1) := by decide +kernel
theorem dX1_riseOf_65 : decode cX1_riseOf 65 = .ok (.iload_n 3, 1) := by decide +kernel
theorem dX1_riseOf_66 : decode cX1_riseOf 66 = .ok (.iload 6, 2) := by decide +kernel
theorem dX1_riseOf_68 : decode cX1_riseOf 68 = .ok (.invokevirtual 36, 3) := by decide +kernel
theorem dX1_riseOf_71 : decode cX1_riseOf 71 = .ok (.iload 5, 2) := by decide +kernel
theorem dX1_riseOf_73 : decode cX1_riseOf 73 = .ok (.imul, 1) := by decide +kernel
theorem dX1_riseOf_74 : decode cX1_riseOf 74 = .ok (.iadd, 1) := by decide +kernel
theorem dX1_riseOf_75 : decode cX1_riseOf 75 = .ok (.istore_n 2, 1) := by decide +kernel
theorem dX1_riseOf_76 : decode cX1_riseOf 76 = .ok (.iinc 6 1, 3) := by decide +kernel
theorem dX1_riseOf_79 : decode cX1_riseOf 79 = .ok (.goto (-36), 3) := by decide +kernel
theorem dX1_riseOf_82 : decode cX1_riseOf 82 = .ok (.iinc 3 1, 3) := by decide +kernel
theorem dX1_riseOf_85 : decode cX1_riseOf 85 = .ok (.goto (-81), 3) := by decide +kernel
theorem dX1_riseOf_88 : decode cX1_riseOf 88 = .ok (.iload_n 2, 1) := by decide +kernel
theorem dX1_riseOf_89 : decode cX1_riseOf 89 = .ok (.ireturn, 1) := by decide +kernel
theorem dJ6_bitCount_0f7a4_0 : decode cJ6_bitCount_0f7a4 0 = .ok (.iload_n 0, 1) := by decide +kernel
theorem dJ6_bitCount_0f7a4_1 : decode cJ6_bitCount_0f7a4 1 = .ok (.iload_n 0, 1) := by decide +kernel
theorem dJ6_bitCount_0f7a4_2 : decode cJ6_bitCount_0f7a4 2 = .ok (.iconst 1, 1) := by decide +kernel
theorem dJ6_bitCount_0f7a4_3 : decode cJ6_bitCount_0f7a4 3 = .ok (.iushr, 1) := by decide +kernel
theorem dJ6_bitCount_0f7a4_4 : decode cJ6_bitCount_0f7a4 4 = .ok (.ldc_w 265, 3) := by decide +kernel
theorem dJ6_bitCount_0f7a4_7 : decode cJ6_bitCount_0f7a4 7 = .ok (.iand, 1) := by decide +kernel
theorem dJ6_bitCount_0f7a4_8 : decode cJ6_bitCount_0f7a4 8 = .ok (.isub, 1) := by decide +kernel
theorem dJ6_bitCount_0f7a4_9 : decode cJ6_bitCount_0f7a4 9 = .ok (.istore_n 0, 1) := by decide +kernel
theorem dJ6_bitCount_0f7a4_10 : decode cJ6_bitCount_0f7a4 10 = .ok (.iload_n 0, 1) := by decide +kernel
theorem dJ6_bitCount_0f7a4_11 : decode cJ6_bitCount_0f7a4 11 = .ok (.ldc_w 266, 3) := by decide +kernel
theorem dJ6_bitCount_0f7a4_14 : decode cJ6_bitCount_0f7a4 14 = .ok (.iand, 1) := by decide +kernel
theorem dJ6_bitCount_0f7a4_15 : decode cJ6_bitCount_0f7a4 15 = .ok (.iload_n 0, 1) := by decide +kernel
theorem dJ6_bitCount_0f7a4_16 : decode cJ6_bitCount_0f7a4 16 = .ok (.iconst 2, 1) := by decide +kernel
theorem dJ6_bitCount_0f7a4_17 : decode cJ6_bitCount_0f7a4 17 = .ok (.iushr, 1) := by decide +kernel
theorem dJ6_bitCount_0f7a4_18 : decode cJ6_bitCount_0f7a4 18 = .ok (.ldc_w 266, 3) := by decide +kernel
theorem dJ6_bitCount_0f7a4_21 : decode cJ6_bitCount_0f7a4 21 = .ok (.iand, 1) := by decide +kernel
theorem dJ6_bitCount_0f7a4_22 : decode cJ6_bitCount_0f7a4 22 = .ok (.iadd, 1) := by decide +kernel
theorem dJ6_bitCount_0f7a4_23 : decode cJ6_bitCount_0f7a4 23 = .ok (.istore_n 0, 1) := by decide +kernel
theorem dJ6_bitCount_0f7a4_24 : decode cJ6_bitCount_0f7a4 24 = .ok (.iload_n 0, 1) := by decide +kernel
theorem dJ6_bitCount_0f7a4_25 : decode cJ6_bitCount_0f7a4 25 = .ok (.iload_n 0, 1) := by decide +kernel
theorem dJ6_bitCount_0f7a4_26 : decode cJ6_bitCount_0f7a4 26 = .ok (.iconst 4, 1) := by decide +kernel
theorem dJ6_bitCount_0f7a4_27 : decode cJ6_bitCount_0f7a4 27 = .ok (.iushr, 1) := by decide +kernel
theorem dJ6_bitCount_0f7a4_28 : decode cJ6_bitCount_0f7a4 28 = .ok (.iadd, 1) := by decide +kernel
theorem dJ6_bitCount_0f7a4_29 : decode cJ6_bitCount_0f7a4 29 = .ok (.ldc_w 267, 3) := by decide +kernel
theorem dJ6_bitCount_0f7a4_32 : decode cJ6_bitCount_0f7a4 32 = .ok (.iand, 1) := by decide +kernel
theorem dJ6_bitCount_0f7a4_33 : decode cJ6_bitCount_0f7a4 33 = .ok (.istore_n 0, 1) := by decide +kernel
theorem dJ6_bitCount_0f7a4_34 : decode cJ6_bitCount_0f7a4 34 = .ok (.iload_n 0, 1) := by decide +kernel
theorem dJ6_bitCount_0f7a4_35 : decode cJ6_bitCount_0f7a4 35 = .ok (.iload_n 0, 1) := by decide +kernel
theorem dJ6_bitCount_0f7a4_36 : decode cJ6_bitCount_0f7a4 36 = .ok (.bipush 8, 2) := by decide +kernel
theorem dJ6_bitCount_0f7a4_38 : decode cJ6_bitCount_0f7a4 38 = .ok (.iushr, 1) := by decide +kernel
theorem dJ6_bitCount_0f7a4_39 : decode cJ6_bitCount_0f7a4 39 = .ok (.iadd, 1) := by decide +kernel
theorem dJ6_bitCount_0f7a4_40 : decode cJ6_bitCount_0f7a4 40 = .ok (.istore_n 0, 1) := by decide +kernel
theorem dJ6_bitCount_0f7a4_41 : decode cJ6_bitCount_0f7a4 41 = .ok (.iload_n 0, 1) := by decide +kernel
theorem dJ6_bitCount_0f7a4_42 : decode cJ6_bitCount_0f7a4 42 = .ok (.iload_n 0, 1) := by decide +kernel
theorem dJ6_bitCount_0f7a4_43 : decode cJ6_bitCount_0f7a4 43 = .ok (.bipush 16, 2) := by decide +kernel
theorem dJ6_bitCount_0f7a4_45 : decode cJ6_bitCount_0f7a4 45 = .ok (.iushr, 1) := by decide +kernel
theorem dJ6_bitCount_0f7a4_46 : decode cJ6_bitCount_0f7a4 46 = .ok (.iadd, 1) := by decide +kernel
theorem dJ6_bitCount_0f7a4_47 : decode cJ6_bitCount_0f7a4 47 = .ok (.istore_n 0, 1) := by decide +kernel
theorem dJ6_bitCount_0f7a4_48 : decode cJ6_bitCount_0f7a4 48 = .ok (.iload_n 0, 1) := by decide +kernel
theorem dJ6_bitCount_0f7a4_49 : decode cJ6_bitCount_0f7a4 49 = .ok (.bipush 63, 2) := by decide +kernel
theorem dJ6_bitCount_0f7a4_51 : decode cJ6_bitCount_0f7a4 51 = .ok (.iand, 1) := by decide +kernel
theorem dJ6_bitCount_0f7a4_52 : decode cJ6_bitCount_0f7a4 52 = .ok (.ireturn, 1) := by decide +kernel
end
section
theorem dX2_init_0 : decode cX2_init 0 = .ok (.aload_n 0, 1) := by decide +kernel
theorem dX2_init_1 : decode cX2_init 1 = .ok (.invokespecial 3, 3) := by decide +kernel
theorem dX2_init_4 : decode cX2_init 4 = .ok (.aload_n 0, 1) := by decide +kernel
theorem dX2_init_5 : decode cX2_init 5 = .ok (.aload_n 1, 1) := by decide +kernel
theorem dX2_init_6 : decode cX2_init 6 = .ok (.putfield 9, 3) := by decide +kernel
theorem dX2_init_9 : decode cX2_init 9 = .ok (.aload_n 0, 1) := by decide +kernel
theorem dX2_init_10 : decode cX2_init 10 = .ok (.aload_n 2, 1) := by decide +kernel
theorem dX2_init_11 : decode cX2_init 11 = .ok (.putfield 15, 3) := by decide +kernel
theorem dX2_init_14 : decode cX2_init 14 = .ok (.aload_n 0, 1) := by decide +kernel
theorem dX2_init_15 : decode cX2_init 15 = .ok (.sipush 1024, 3) := by decide +kernel
theorem dX2_init_18 : decode cX2_init 18 = .ok (.newarray .int, 2) := by decide +kernel
theorem dX2_init_20 : decode cX2_init 20 = .ok (.putfield 19, 3) := by decide +kernel
theorem dX2_init_23 : decode cX2_init 23 = .ok (.aload_n 0, 1) := by decide +kernel
theorem dX2_init_24 : decode cX2_init 24 = .ok (.sipush 1024, 3) := by decide +kernel
theorem dX2_init_27 : decode cX2_init 27 = .ok (.newarray .int, 2) := by decide +kernel
theorem dX2_init_29 : decode cX2_init 29 = .ok (.putfield 23, 3) := by decide +kernel
theorem dX2_init_32 : decode cX2_init 32 = .ok (.aload_n 0, 1) := by decide +kernel
theorem dX2_init_33 : decode cX2_init 33 = .ok (.sipush 1024, 3) := by decide +kernel
theorem dX2_init_36 : decode cX2_init 36 = .ok (.newarray .int, 2) := by decide +kernel
theorem dX2_init_38 : decode cX2_init 38 = .ok (.putfield 26, 3) := by decide +kernel
theorem dX2_init_41 : decode cX2_init 41 = .ok (.aload_n 0, 1) := by decide +kernel
theorem dX2_init_42 : decode cX2_init 42 = .ok (.iconst 0, 1) := by decide +kernel
theorem dX2_init_43 : decode cX2_init 43 = .ok (.putfield 29, 3) := by decide +kernel
theorem dX2_init_46 : decode cX2_init 46 = .ok (.aload_n 0, 1) := by decide +kernel
theorem dX2_init_47 : decode cX2_init 47 = .ok (.iconst 0, 1) := by decide +kernel
theorem dX2_init_48 : decode cX2_init 48 = .ok (.putfield 33, 3) := by decide +kernel
theorem dX2_init_51 : decode cX2_init 51 = .ok (.aload_n 0, 1) := by decide +kernel
theorem dX2_init_52 : decode cX2_init 52 = .ok (.iconst 0, 1) := by decide +kernel
theorem dX2_init_53 : decode cX2_init 53 = .ok (.putfield 37, 3) := by decide +kernel
theorem dX2_init_56 : decode cX2_init 56 = .ok (.aload_n 0, 1) := by decide +kernel
theorem dX2_init_57 : decode cX2_init 57 = .ok (.iconst 0, 1) := by decide +kernel
theorem dX2_init_58 : decode cX2_init 58 = .ok (.putfield 40, 3) := by decide +kernel
theorem dX2_init_61 : decode cX2_init 61 = .ok (.return_, 1) := by decide +kernel
theorem dX2_forget_0 : decode cX2_forget 0 = .ok (.aload_n 0, 1) := by decide +kernel
theorem dX2_forget_1 : decode cX2_forget 1 = .ok (.iconst 0, 1) := by decide +kernel
theorem dX2_forget_2 : decode cX2_forget 2 = .ok (.putfield 29, 3) := by decide +kernel
theorem dX2_forget_5 : decode cX2_forget 5 = .ok (.return_, 1) := by decide +kernel
theorem dX2_goThrough_0 : decode cX2_goThrough 0 = .ok (.aload_n 0, 1) := by decide +kernel
theorem dX2_goThrough_1 : decode cX2_goThrough 1 = .ok (.getfield 29, 3) := by decide +kernel
theorem dX2_goThrough_4 : decode cX2_goThrough 4 = .ok (.ifCond .eq 30, 3) := by decide +kernel
theorem dX2_goThrough_7 : decode cX2_goThrough 7 = .ok (.aload_n 0, 1) := by decide +kernel
theorem dX2_goThrough_8 : decode cX2_goThrough 8 = .ok (.getfield 33, 3) := by decide +kernel
theorem dX2_goThrough_11 : decode cX2_goThrough 11 = .ok (.iload_n 1, 1) := by decide +kernel
theorem dX2_goThrough_12 : decode cX2_goThrough 12 = .ok (.if_icmp .ne 22, 3) := by decide +kernel
theorem dX2_goThrough_15 : decode cX2_goThrough 15 = .ok (.aload_n 0, 1) := by decide +kernel
theorem dX2_goThrough_16 : decode cX2_goThrough 16 = .ok (.getfield 37, 3) := by decide +kernel
theorem dX2_goThrough_19 : decode cX2_goThrough 19 = .ok (.iload_n 2, 1) := by decide +kernel
theorem dX2_goThrough_20 : decode cX2_goThrough 20 = .ok (.if_icmp .ne 14, 3) := by decide +kernel
theorem dX2_goThrough_23 : decode cX2_goThrough 23 = .ok (.aload_n 0, 1) := by decide +kernel
theorem dX2_goThrough_24 : decode cX2_goThrough 24 = .ok (.getfield 40, 3) := by decide +kernel
theorem dX2_goThrough_27 : decode cX2_goThrough 27 = .ok (.iload_n 3, 1) := by decide +kernel
theorem dX2_goThrough_28 : decode cX2_goThrough 28 = .ok (.iload_n 2, 1) := by decide +kernel
theorem dX2_goThrough_29 : decode cX2_goThrough 29 = .ok (.iand, 1) := by decide +kernel
theorem dX2_goThrough_30 : decode cX2_goThrough 30 = .ok (.if_icmp .ne 4, 3) := by decide +kernel
theorem dX2_goThrough_33 : decode cX2_goThrough 33 = .ok (.return_, 1) := by decide +kernel
theorem dX2_goThrough_34 : decode cX2_goThrough 34 = .ok (.aload_n 0, 1) := by decide +kernel
theorem dX2_goThrough_35 : decode cX2_goThrough 35 = .ok (.iload_n 1, 1) := by decide +kernel
theorem dX2_goThrough_36 : decode cX2_goThrough 36 = .ok (.putfield 33, 3) := by decide +kernel
theorem dX2_goThrough_39 : decode cX2_goThrough 39 = .ok (.aload_n 0, 1) := by decide +kernel
theorem dX2_goThrough_40 : decode cX2_goThrough 40 = .ok (.iload_n 2, 1) := by decide +kernel
theorem dX2_goThrough_41 : decode cX2_goThrough 41 = .ok (.putfield 37, 3) := by decide +kernel
theorem dX2_goThrough_44 : decode cX2_goThrough 44 = .ok (.aload_n 0, 1) := by decide +kernel
theorem dX2_goThrough_45 : decode cX2_goThrough 45 = .ok (.iload_n 3, 1) := by decide +kernel
theorem dX2_goThrough_46 : decode cX2_goThrough 46 = .ok (.iload_n 2, 1) := by decide +kernel
theorem dX2_goThrough_47 : decode cX2_goThrough 47 = .ok (.iand, 1) := by decide +kernel
theorem dX2_goThrough_48 : decode cX2_goThrough 48 = .ok (.putfield 40, 3) := by decide +kernel
theorem dX2_goThrough_51 : decode cX2_goThrough 51 = .ok (.iconst 0, 1) := by decide +kernel
theorem dX2_goThrough_52 : decode cX2_goThrough 52 = .ok (.istore 4, 2) := by decide +kernel
theorem dX2_goThrough_54 : decode cX2_goThrough 54 = .ok (.iload 4, 2) := by decide +kernel
theorem dX2_goThrough_56 : decode cX2_goThrough 56 = .ok (.aload_n 0, 1) := by decide +kernel
theorem dX2_goThrough_57 : decode cX2_goThrough 57 = .ok (.getfield 9, 3) := by decide +kernel
theorem dX2_goThrough_60 : decode cX2_goThrough 60 = .ok (.invokevirtual 43, 3) := by decide +kernel
theorem dX2_goThrough_63 : decode cX2_goThrough 63 = .ok (.if_icmp .ge 63, 3) := by decide +kernel
theorem dX2_goThrough_66 : decode cX2_goThrough 66 = .ok (.aload_n 0, 1) := by decide +kernel
theorem dX2_goThrough_67 : decode cX2_goThrough 67 = .ok (.getfield 19, 3) := by decide +kernel
theorem dX2_goThrough_70 : decode cX2_goThrough 70 = .ok (.iload 4, 2) := by decide +kernel
theorem dX2_goThrough_72 : decode cX2_goThrough 72 = .ok (.aload_n 0, 1) := by decide +kernel
theorem dX2_goThrough_73 : decode cX2_goThrough 73 = .ok (.iload 4, 2) := by decide +kernel
theorem dX2_goThrough_75 : decode cX2_goThrough 75 = .ok (.invokevirtual 49, 3) := by decide +kernel
theorem dX2_goThrough_78 : decode cX2_goThrough 78 = .ok (.ifCond .eq 23, 3) := by decide +kernel
theorem dX2_goThrough_81 : decode cX2_goThrough 81 = .ok (.aload_n 0, 1) := by decide +kernel
theorem dX2_goThrough_82 : decode cX2_goThrough 82 = .ok (.getfield 15, 3) := by decide +kernel
theorem dX2_goThrough_85 : decode cX2_goThrough 85 = .ok (.aload_n 0, 1) := by decide +kernel
theorem dX2_goThrough_86 : decode cX2_goThrough 86 = .ok (.getfield 33, 3) := by decide +kernel
theorem dX2_goThrough_89 : decode cX2_goThrough 89 = .ok (.aload_n 0, 1) := by decide +kernel
theorem dX2_goThrough_90 : decode cX2_goThrough 90 = .ok (.getfield 37, 3) := by decide +kernel
theorem dX2_goThrough_93 : decode cX2_goThrough 93 = .ok (.iload 4, 2) := by decide +kernel
theorem dX2_goThrough_95 : decode cX2_goThrough 95 = .ok (.invokevirtual 53, 3) := by decide +kernel
theorem dX2_goThrough_98 : decode cX2_goThrough 98 = .ok (.goto 5, 3) := by decide +kernel
theorem dX2_goThrough_101 : decode cX2_goThrough 101 = .ok (.iload 4, 2) := by decide +kernel
theorem dX2_goThrough_103 : decode cX2_goThrough 103 = .ok (.iastore, 1) := by decide +kernel
theorem dX2_goThrough_104 : decode cX2_goThrough 104 = .ok (.aload_n 0, 1) := by decide +kernel
theorem dX2_goThrough_105 : decode cX2_goThrough 105 = .ok (.getfield 23, 3) := by decide +kernel
theorem dX2_goThrough_108 : decode cX2_goThrough 108 = .ok (.iload 4, 2) := by decide +kernel
theorem dX2_goThrough_110 : decode cX2_goThrough 110 = .ok (.iconst (-1), 1) := by decide +kernel
theorem dX2_goThrough_111 : decode cX2_goThrough 111 = .ok (.iastore, 1) := by decide +kernel
theorem dX2_goThrough_112 : decode cX2_goThrough 112 = .ok (.aload_n 0, 1) := by decide +kernel
theorem dX2_goThrough_113 : decode cX2_goThrough 113 = .ok (.getfield 26, 3) := by decide +kernel
theorem dX2_goThrough_116 : decode cX2_goThrough 116 = .ok (.iload 4, 2) := by decide +kernel
theorem dX2_goThrough_118 : decode cX2_goThrough 118 = .ok (.iconst 0, 1) := by decide +kernel
theorem dX2_goThrough_119 : decode cX2_goThrough 119 = .ok (.iastore, 1) := by decide +kernel
theorem dX2_goThrough_120 : decode cX2_goThrough 120 = .ok (.iinc 4 1, 3) := by decide +kernel
theorem dX2_goThrough_123 : decode cX2_goThrough 123 = .ok (.goto (-69), 3) := by decide +kernel
theorem dX2_goThrough_126 : decode cX2_goThrough 126 = .ok (.iconst 0, 1) := by decide +kernel
theorem dX2_goThrough_127 : decode cX2_goThrough 127 = .ok (.istore 4, 2) := by decide +kernel
theorem dX2_goThrough_129 : decode cX2_goThrough 129 = .ok (.iload 4, 2) := by decide +kernel
theorem dX2_goThrough_131 : decode cX2_goThrough 131 = .ok (.aload_n 0, 1) := by decide +kernel
theorem dX2_goThrough_132 : decode cX2_goThrough 132 = .ok (.getfield 9, 3) := by decide +kernel
theorem dX2_goThrough_135 : decode cX2_goThrough 135 = .ok (.invokevirtual 43, 3) := by decide +kernel
theorem dX2_goThrough_138 : decode cX2_goThrough 138 = .ok (.if_icmp .ge 24, 3) := by decide +kernel
theorem dX2_goThrough_141 : decode cX2_goThrough 141 = .ok (.aload_n 0, 1) := by decide +kernel
theorem dX2_goThrough_142 : decode cX2_goThrough 142 = .ok (.iload 4, 2) := by decide +kernel
theorem dX2_goThrough_144 : decode cX2_goThrough 144 = .ok (.invokevirtual 49, 3) := by decide +kernel
theorem dX2_goThrough_147 : decode cX2_goThrough 147 = .ok (.ifCond .eq 9, 3) := by decide +kernel
theorem dX2_goThrough_150 : decode cX2_goThrough 150 = .ok (.aload_n 0, 1) := by decide +kernel
theorem dX2_goThrough_151 : decode cX2_goThrough 151 = .ok (.iload 4, 2) := by decide +kernel
theorem dX2_goThrough_153 : decode cX2_goThrough 153 = .ok (.invokevirtual 59, 3) := by decide +kernel
theorem dX2_goThrough_156 : decode cX2_goThrough 156 = .ok (.iinc 4 1, 3) := by decide +kernel
theorem dX2_goThrough_159 : decode cX2_goThrough 159 = .ok (.goto (-30), 3) := by decide +kernel
theorem dX2_goThrough_162 : decode cX2_goThrough 162 = .ok (.aload_n 0, 1) := by decide +kernel
theorem dX2_goThrough_163 : decode cX2_goThrough 163 = .ok (.iconst 1, 1) := by decide +kernel
theorem dX2_goThrough_164 : decode cX2_goThrough 164 = .ok (.putfield 29, 3) := by decide +kernel
theorem dX2_goThrough_167 : decode cX2_goThrough 167 = .ok (.return_, 1) := by decide +kernel
theorem dX2_isBeginning_0 : decode cX2_isBeginning 0 = .ok (.iload_n 1, 1) := by decide +kernel
theorem dX2_isBeginning_1 : decode cX2_isBeginning 1 = .ok (.aload_n 0, 1) := by decide +kernel
theorem dX2_isBeginning_2 : decode cX2_isBeginning 2 = .ok (.getfield 37, 3) := by decide +kernel
theorem dX2_isBeginning_5 : decode cX2_isBeginning 5 = .ok (.iand, 1) := by decide +kernel
theorem dX2_isBeginning_6 : decode cX2_isBeginning 6 = .ok (.aload_n 0, 1) := by decide +kernel
theorem dX2_isBeginning_7 : decode cX2_isBeginning 7 = .ok (.getfield 40, 3) := by decide +kernel
theorem dX2_isBeginning_10 : decode cX2_isBeginning 10 = .ok (.if_icmp .ne 7, 3) := by decide +kernel
theorem dX2_isBeginning_13 : decode cX2_isBeginning 13 = .ok (.iconst 1, 1) := by decide +kernel
theorem dX2_isBeginning_14 : decode cX2_isBeginning 14 = .ok (.goto 4, 3) := by decide +kernel
theorem dX2_isBeginning_17 : decode cX2_isBeginning 17 = .ok (.iconst 0, 1) := by decide +kernel
theorem dX2_isBeginning_18 : decode cX2_isBeginning 18 = .ok (.ireturn, 1) := by decide +kernel
theorem dX2_follow_0 : decode cX2_follow 0 = .ok (.iload_n 1, 1) := by decide +kernel
theorem dX2_follow_1 : decode cX2_follow 1 = .ok (.istore_n 2, 1) := by decide +kernel
theorem dX2_follow_2 : decode cX2_follow 2 = .ok (.iconst 0, 1) := by decide +kernel
theorem dX2_follow_3 : decode cX2_follow 3 = .ok (.istore_n 3, 1) := by decide +kernel
theorem dX2_follow_4 : decode cX2_follow 4 = .ok (.iload_n 3, 1) := by decide +kernel
theorem dX2_follow_5 : decode cX2_follow 5 = .ok (.sipush 1024, 3) := by decide +kernel
theorem dX2_follow_8 : decode cX2_follow 8 = .ok (.if_icmp .ge 34, 3) := by decide +kernel
theorem dX2_follow_11 : decode cX2_follow 11 = .ok (.aload_n 0, 1) := by decide +kernel
theorem dX2_follow_12 : decode cX2_follow 12 = .ok (.getfield 23, 3) := by decide +kernel
theorem dX2_follow_15 : decode cX2_follow 15 = .ok (.iload_n 2, 1) := by decide +kernel
theorem dX2_follow_16 : decode cX2_follow 16 = .ok (.iaload, 1) := by decide +kernel
theorem dX2_follow_17 : decode cX2_follow 17 = .ok (.iconst (-1), 1) := by decide +kernel
theorem dX2_follow_18 : decode cX2_follow 18 = .ok (.if_icmp .ne 24, 3) := by decide +kernel
theorem dX2_follow_21 : decode cX2_follow 21 = .ok (.aload_n 0, 1) := by decide +kernel
theorem dX2_follow_22 : decode cX2_follow 22 = .ok (.getfield 23, 3) := by decide +kernel
theorem dX2_follow_25 : decode cX2_follow 25 = .ok (.iload_n 2, 1) := by decide +kernel
theorem dX2_follow_26 : decode cX2_follow 26 = .ok (.bipush (-2), 2) := by decide +kernel
theorem dX2_follow_28 : decode cX2_follow 28 = .ok (.iastore, 1) := by decide +kernel
theorem dX2_follow_29 : decode cX2_follow 29 = .ok (.aload_n 0, 1) := by decide +kernel
theorem dX2_follow_30 : decode cX2_follow 30 = .ok (.getfield 19, 3) := by decide +kernel
theorem dX2_follow_33 : decode cX2_follow 33 = .ok (.iload_n 2, 1) := by decide +kernel
theorem dX2_follow_34 : decode cX2_follow 34 = .ok (.iaload, 1) := by decide +kernel
theorem dX2_follow_35 : decode cX2_follow 35 = .ok (.istore_n 2, 1) := by decide +kernel
theorem dX2_follow_36 : decode cX2_follow 36 = .ok (.iinc 3 1, 3) := by decide +kernel
theorem dX2_follow_39 : decode cX2_follow 39 = .ok (.goto (-35), 3) := by decide +kernel
theorem dX2_follow_42 : decode cX2_follow 42 = .ok (.aload_n 0, 1) := by decide +kernel
theorem dX2_follow_43 : decode cX2_follow 43 = .ok (.getfield 23, 3) := by decide +kernel
theorem dX2_follow_46 : decode cX2_follow 46 = .ok (.iload_n 2, 1) := by decide +kernel
theorem dX2_follow_47 : decode cX2_follow 47 = .ok (.iaload, 1) := by decide +kernel
theorem dX2_follow_48 : decode cX2_follow 48 = .ok (.bipush (-2), 2) := by decide +kernel
theorem dX2_follow_50 : decode cX2_follow 50 = .ok (.if_icmp .ne 8, 3) := by decide +kernel
theorem dX2_follow_53 : decode cX2_follow 53 = .ok (.aload_n 0, 1) := by decide +kernel
theorem dX2_follow_54 : decode cX2_follow 54 = .ok (.iload_n 2, 1) := by decide +kernel
theorem dX2_follow_55 : decode cX2_follow 55 = .ok (.invokevirtual 63, 3) := by decide +kernel
theorem dX2_follow_58 : decode cX2_follow 58 = .ok (.aload_n 0, 1) := by decide +kernel
theorem dX2_follow_59 : decode cX2_follow 59 = .ok (.iload_n 1, 1) := by decide +kernel
theorem dX2_follow_60 : decode cX2_follow 60 = .ok (.invokevirtual 66, 3) := by decide +kernel
theorem dX2_follow_63 : decode cX2_follow 63 = .ok (.return_, 1) := by decide +kernel
theorem dX2_closeRing_0 : decode cX2_closeRing 0 = .ok (.iload_n 1, 1) := by decide +kernel
theorem dX2_closeRing_1 : decode cX2_closeRing 1 = .ok (.istore_n 2, 1) := by decide +kernel
theorem dX2_closeRing_2 : decode cX2_closeRing 2 = .ok (.aload_n 0, 1) := by decide +kernel
theorem dX2_closeRing_3 : decode cX2_closeRing 3 = .ok (.getfield 19, 3) := by decide +kernel
theorem dX2_closeRing_6 : decode cX2_closeRing 6 = .ok (.iload_n 1, 1) := by decide +kernel
theorem dX2_closeRing_7 : decode cX2_closeRing 7 = .ok (.iaload, 1) := by decide +kernel
theorem dX2_closeRing_8 : decode cX2_closeRing 8 = .ok (.istore_n 3, 1) := by decide +kernel
theorem dX2_closeRing_9 : decode cX2_closeRing 9 = .ok (.iconst 0, 1) := by decide +kernel
theorem dX2_closeRing_10 : decode cX2_closeRing 10 = .ok (.istore 4, 2) := by decide +kernel
theorem dX2_closeRing_12 : decode cX2_closeRing 12 = .ok (.iload 4, 2) := by decide +kernel
theorem dX2_closeRing_14 : decode cX2_closeRing 14 = .ok (.sipush 1024, 3) := by decide +kernel
theorem dX2_closeRing_17 : decode cX2_closeRing 17 = .ok (.if_icmp .ge 27, 3) := by decide +kernel
theorem dX2_closeRing_20 : decode cX2_closeRing 20 = .ok (.iload_n 3, 1) := by decide +kernel
theorem dX2_closeRing_21 : decode cX2_closeRing 21 = .ok (.iload_n 1, 1) := by decide +kernel
theorem dX2_closeRing_22 : decode cX2_closeRing 22 = .ok (.if_icmp .eq 22, 3) := by decide +kernel
theorem dX2_closeRing_25 : decode cX2_closeRing 25 = .ok (.iload_n 2, 1) := by decide +kernel
theorem dX2_closeRing_26 : decode cX2_closeRing 26 = .ok (.iload_n 3, 1) := by decide +kernel
theorem dX2_closeRing_27 : decode cX2_closeRing 27 = .ok (.invokestatic 69, 3) := by decide +kernel
theorem dX2_closeRing_30 : decode cX2_closeRing 30 = .ok (.istore_n 2, 1) := by decide +kernel
theorem dX2_closeRing_31 : decode cX2_closeRing 31 = .ok (.aload_n 0, 1) := by decide +kernel
theorem dX2_closeRing_32 : decode cX2_closeRing 32 = .ok (.getfield 19, 3) := by decide +kernel
theorem dX2_closeRing_35 : decode cX2_closeRing 35 = .ok (.iload_n 3, 1) := by decide +kernel
theorem dX2_closeRing_36 : decode cX2_closeRing 36 = .ok (.iaload, 1) := by decide +kernel
theorem dX2_closeRing_37 : decode cX2_closeRing 37 = .ok (.istore_n 3, 1) := by decide +kernel
theorem dX2_closeRing_38 : decode cX2_closeRing 38 = .ok (.iinc 4 1, 3) := by decide +kernel
theorem dX2_closeRing_41 : decode cX2_closeRing 41 = .ok (.goto (-29), 3) := by decide +kernel
theorem dX2_closeRing_44 : decode cX2_closeRing 44 = .ok (.iconst 0, 1) := by decide +kernel
theorem dX2_closeRing_45 : decode cX2_closeRing 45 = .ok (.istore 4, 2) := by decide +kernel
theorem dX2_closeRing_47 : decode cX2_closeRing 47 = .ok (.iload 4, 2) := by decide +kernel
theorem dX2_closeRing_49 : decode cX2_closeRing 49 = .ok (.sipush 1024, 3) := by decide +kernel
theorem dX2_closeRing_52 : decode cX2_closeRing 52 = .ok (.if_icmp .ge 34, 3) := by decide +kernel
theorem dX2_closeRing_55 : decode cX2_closeRing 55 = .ok (.aload_n 0, 1) := by decide +kernel
theorem dX2_closeRing_56 : decode cX2_closeRing 56 = .ok (.getfield 23, 3) := by decide +kernel
theorem dX2_closeRing_59 : decode cX2_closeRing 59 = .ok (.iload_n 3, 1) := by decide +kernel
theorem dX2_closeRing_60 : decode cX2_closeRing 60 = .ok (.iaload, 1) := by decide +kernel
theorem dX2_closeRing_61 : decode cX2_closeRing 61 = .ok (.bipush (-2), 2) := by decide +kernel
theorem dX2_closeRing_63 : decode cX2_closeRing 63 = .ok (.if_icmp .ne 23, 3) := by decide +kernel
theorem dX2_closeRing_66 : decode cX2_closeRing 66 = .ok (.aload_n 0, 1) := by decide +kernel
theorem dX2_closeRing_67 : decode cX2_closeRing 67 = .ok (.getfield 23, 3) := by decide +kernel
theorem dX2_closeRing_70 : decode cX2_closeRing 70 = .ok (.iload_n 3, 1) := by decide +kernel
theorem dX2_closeRing_71 : decode cX2_closeRing 71 = .ok (.iload_n 2, 1) := by decide +kernel
theorem dX2_closeRing_72 : decode cX2_closeRing 72 = .ok (.iastore, 1) := by decide +kernel
theorem dX2_closeRing_73 : decode cX2_closeRing 73 = .ok (.aload_n 0, 1) := by decide +kernel
theorem dX2_closeRing_74 : decode cX2_closeRing 74 = .ok (.getfield 19, 3) := by decide +kernel
theorem dX2_closeRing_77 : decode cX2_closeRing 77 = .ok (.iload_n 3, 1) := by decide +kernel
theorem dX2_closeRing_78 : decode cX2_closeRing 78 = .ok (.iaload, 1) := by decide +kernel
theorem dX2_closeRing_79 : decode cX2_closeRing 79 = .ok (.istore_n 3, 1) := by decide +kernel
theorem dX2_closeRing_80 : decode cX2_closeRing 80 = .ok (.iinc 4 1, 3) := by decide +kernel
theorem dX2_closeRing_83 : decode cX2_closeRing 83 = .ok (.goto (-36), 3) := by decide +kernel
theorem dX2_closeRing_86 : decode cX2_closeRing 86 = .ok (.return_, 1) := by decide +kernel
theorem dX2_closeTail_0 : decode cX2_closeTail 0 = .ok (.iconst 0, 1) := by decide +kernel
theorem dX2_closeTail_1 : decode cX2_closeTail 1 = .ok (.istore_n 2, 1) := by decide +kernel
theorem dX2_closeTail_2 : decode cX2_closeTail 2 = .ok (.iload_n 1, 1) := by decide +kernel
theorem dX2_closeTail_3 : decode cX2_closeTail 3 = .ok (.istore_n 3, 1) := by decide +kernel
theorem dX2_closeTail_4 : decode cX2_closeTail 4 = .ok (.iload_n 2, 1) := by decide +kernel
theorem dX2_closeTail_5 : decode cX2_closeTail 5 = .ok (.sipush 1024, 3) := by decide +kernel
theorem dX2_closeTail_8 : decode cX2_closeTail 8 = .ok (.if_icmp .ge 27, 3) := by decide +kernel
theorem dX2_closeTail_11 : decode cX2_closeTail 11 = .ok (.aload_n 0, 1) := by decide +kernel
theorem dX2_closeTail_12 : decode cX2_closeTail 12 = .ok (.getfield 23, 3) := by decide +kernel
theorem dX2_closeTail_15 : decode cX2_closeTail 15 = .ok (.iload_n 3, 1) := by decide +kernel
theorem dX2_closeTail_16 : decode cX2_closeTail 16 = .ok (.iaload, 1) := by decide +kernel
theorem dX2_closeTail_17 : decode cX2_closeTail 17 = .ok (.bipush (-2), 2) := by decide +kernel
theorem dX2_closeTail_19 : decode cX2_closeTail 19 = .ok (.if_icmp .ne 16, 3) := by decide +kernel
theorem dX2_closeTail_22 : decode cX2_closeTail 22 = .ok (.aload_n 0, 1) := by decide +kernel
theorem dX2_closeTail_23 : decode cX2_closeTail 23 = .ok (.getfield 19, 3) := by decide +kernel
theorem dX2_closeTail_26 : decode cX2_closeTail 26 = .ok (.iload_n 3, 1) := by decide +kernel
theorem dX2_closeTail_27 : decode cX2_closeTail 27 = .ok (.iaload, 1) := by decide +kernel
theorem dX2_closeTail_28 : decode cX2_closeTail 28 = .ok (.istore_n 3, 1) := by decide +kernel
theorem dX2_closeTail_29 : decode cX2_closeTail 29 = .ok (.iinc 2 1, 3) := by decide +kernel
theorem dX2_closeTail_32 : decode cX2_closeTail 32 = .ok (.goto (-28), 3) := by decide +kernel
theorem dX2_closeTail_35 : decode cX2_closeTail 35 = .ok (.aload_n 0, 1) := by decide +kernel
theorem dX2_closeTail_36 : decode cX2_closeTail 36 = .ok (.getfield 23, 3) := by decide +kernel
theorem dX2_closeTail_39 : decode cX2_closeTail 39 = .ok (.iload_n 3, 1) := by decide +kernel
theorem dX2_closeTail_40 : decode cX2_closeTail 40 = .ok (.iaload, 1) := by decide +kernel
theorem dX2_closeTail_41 : decode cX2_closeTail 41 = .ok (.istore 4, 2) := by decide +kernel
theorem dX2_closeTail_43 : decode cX2_closeTail 43 = .ok (.aload_n 0, 1) := by decide +kernel
theorem dX2_closeTail_44 : decode cX2_closeTail 44 = .ok (.getfield 26, 3) := by decide +kernel
theorem dX2_closeTail_47 : decode cX2_closeTail 47 = .ok (.iload_n 3, 1) := by decide +kernel
theorem dX2_closeTail_48 : decode cX2_closeTail 48 = .ok (.iaload, 1) := by decide +kernel
theorem dX2_closeTail_49 : decode cX2_closeTail 49 = .ok (.iload_n 2, 1) := by decide +kernel
theorem dX2_closeTail_50 : decode cX2_closeTail 50 = .ok (.iadd, 1) := by decide +kernel
theorem dX2_closeTail_51 : decode cX2_closeTail 51 = .ok (.istore 5, 2) := by decide +kernel
theorem dX2_closeTail_53 : decode cX2_closeTail 53 = .ok (.iload_n 1, 1) := by decide +kernel
theorem dX2_closeTail_54 : decode cX2_closeTail 54 = .ok (.istore_n 3, 1) := by decide +kernel
theorem dX2_closeTail_55 : decode cX2_closeTail 55 = .ok (.iconst 0, 1) := by decide +kernel
theorem dX2_closeTail_56 : decode cX2_closeTail 56 = .ok (.istore 6, 2) := by decide +kernel
theorem dX2_closeTail_58 : decode cX2_closeTail 58 = .ok (.iload 6, 2) := by decide +kernel
theorem dX2_closeTail_60 : decode cX2_closeTail 60 = .ok (.iload_n 2, 1) := by decide +kernel
theorem dX2_closeTail_61 : decode cX2_closeTail 61 = .ok (.if_icmp .ge 35, 3) := by decide +kernel
theorem dX2_closeTail_64 : decode cX2_closeTail 64 = .ok (.aload_n 0, 1) := by decide +kernel
theorem dX2_closeTail_65 : decode cX2_closeTail 65 = .ok (.getfield 23, 3) := by decide +kernel
theorem dX2_closeTail_68 : decode cX2_closeTail 68 = .ok (.iload_n 3, 1) := by decide +kernel
theorem dX2_closeTail_69 : decode cX2_closeTail 69 = .ok (.iload 4, 2) := by decide +kernel
theorem dX2_closeTail_71 : decode cX2_closeTail 71 = .ok (.iastore, 1) := by decide +kernel
theorem dX2_closeTail_72 : decode cX2_closeTail 72 = .ok (.aload_n 0, 1) := by decide +kernel
theorem dX2_closeTail_73 : decode cX2_closeTail 73 = .ok (.getfield 26, 3) := by decide +kernel
theorem dX2_closeTail_76 : decode cX2_closeTail 76 = .ok (.iload_n 3, 1) := by decide +kernel
theorem dX2_closeTail_77 : decode cX2_closeTail 77 = .ok (.iload 5, 2) := by decide +kernel
theorem dX2_closeTail_79 : decode cX2_closeTail 79 = .ok (.iload 6, 2) := by decide +kernel
theorem dX2_closeTail_81 : decode cX2_closeTail 81 = .ok (.isub, 1) := by decide +kernel
theorem dX2_closeTail_82 : decode cX2_closeTail 82 = .ok (.iastore, 1) := by decide +kernel
theorem dX2_closeTail_83 : decode cX2_closeTail 83 = .ok (.aload_n 0, 1) := by decide +kernel
theorem dX2_closeTail_84 : decode cX2_closeTail 84 = .ok (.getfield 19, 3) := by decide +kernel
theorem dX2_closeTail_87 : decode cX2_closeTail 87 = .ok (.iload_n 3, 1) := by decide +kernel
theorem dX2_closeTail_88 : decode cX2_closeTail 88 = .ok (.iaload, 1) := by decide +kernel
theorem dX2_closeTail_89 : decode cX2_closeTail 89 = .ok (.istore_n 3, 1) := by decide +kernel
theorem dX2_closeTail_90 : decode cX2_closeTail 90 = .ok (.iinc 6 1, 3) := by decide +kernel
theorem dX2_closeTail_93 : decode cX2_closeTail 93 = .ok (.goto (-35), 3) := by decide +kernel
theorem dX2_closeTail_96 : decode cX2_closeTail 96 = .ok (.return_, 1) := by decide +kernel
theorem dX2_howManyEnds_0 : decode cX2_howManyEnds 0 = .ok (.iconst 0, 1) := by decide +kernel
theorem dX2_howManyEnds_1 : decode cX2_howManyEnds 1 = .ok (.istore_n 1, 1) := by decide +kernel
theorem dX2_howManyEnds_2 : decode cX2_howManyEnds 2 = .ok (.iconst 0, 1) := by decide +kernel
theorem dX2_howManyEnds_3 : decode cX2_howManyEnds 3 = .ok (.istore_n 2, 1) := by decide +kernel
theorem dX2_howManyEnds_4 : decode cX2_howManyEnds 4 = .ok (.iload_n 2, 1) := by decide +kernel
theorem dX2_howManyEnds_5 : decode cX2_howManyEnds 5 = .ok (.aload_n 0, 1) := by decide +kernel
theorem dX2_howManyEnds_6 : decode cX2_howManyEnds 6 = .ok (.getfield 9, 3) := by decide +kernel
theorem dX2_howManyEnds_9 : decode cX2_howManyEnds 9 = .ok (.invokevirtual 43, 3) := by decide +kernel
theorem dX2_howManyEnds_12 : decode cX2_howManyEnds 12 = .ok (.if_icmp .ge 22, 3) := by decide +kernel
theorem dX2_howManyEnds_15 : decode cX2_howManyEnds 15 = .ok (.aload_n 0, 1) := by decide +kernel
theorem dX2_howManyEnds_16 : decode cX2_howManyEnds 16 = .ok (.getfield 23, 3) := by decide +kernel
theorem dX2_howManyEnds_19 : decode cX2_howManyEnds 19 = .ok (.iload_n 2, 1) := by decide +kernel
theorem dX2_howManyEnds_20 : decode cX2_howManyEnds 20 = .ok (.iaload, 1) := by decide +kernel
theorem dX2_howManyEnds_21 : decode cX2_howManyEnds 21 = .ok (.iload_n 2, 1) := by decide +kernel
theorem dX2_howManyEnds_22 : decode cX2_howManyEnds 22 = .ok (.if_icmp .ne 6, 3) := by decide +kernel
theorem dX2_howManyEnds_25 : decode cX2_howManyEnds 25 = .ok (.iinc 1 1, 3) := by decide +kernel
theorem dX2_howManyEnds_28 : decode cX2_howManyEnds 28 = .ok (.iinc 2 1, 3) := by decide +kernel
theorem dX2_howManyEnds_31 : decode cX2_howManyEnds 31 = .ok (.goto (-27), 3) := by decide +kernel
theorem dX2_howManyEnds_34 : decode cX2_howManyEnds 34 = .ok (.iload_n 1, 1) := by decide +kernel
theorem dX2_howManyEnds_35 : decode cX2_howManyEnds 35 = .ok (.ireturn, 1) := by decide +kernel
theorem dX2_endAt_0 : decode cX2_endAt 0 = .ok (.iconst 0, 1) := by decide +kernel
theorem dX2_endAt_1 : decode cX2_endAt 1 = .ok (.istore_n 2, 1) := by decide +kernel
theorem dX2_endAt_2 : decode cX2_endAt 2 = .ok (.iconst 0, 1) := by decide +kernel
theorem dX2_endAt_3 : decode cX2_endAt 3 = .ok (.istore_n 3, 1) := by decide +kernel
theorem dX2_endAt_4 : decode cX2_endAt 4 = .ok (.iload_n 3, 1) := by decide +kernel
theorem dX2_endAt_5 : decode cX2_endAt 5 = .ok (.aload_n 0, 1) := by decide +kernel
theorem dX2_endAt_6 : decode cX2_endAt 6 = .ok (.getfield 9, 3) := by decide +kernel
theorem dX2_endAt_9 : decode cX2_endAt 9 = .ok (.invokevirtual 43, 3) := by decide +kernel
theorem dX2_endAt_12 : decode cX2_endAt 12 = .ok (.if_icmp .ge 29, 3) := by decide +kernel
theorem dX2_endAt_15 : decode cX2_endAt 15 = .ok (.aload_n 0, 1) := by decide +kernel
theorem dX2_endAt_16 : decode cX2_endAt 16 = .ok (.getfield 23, 3) := by decide +kernel
theorem dX2_endAt_19 : decode cX2_endAt 19 = .ok (.iload_n 3, 1) := by decide +kernel
theorem dX2_endAt_20 : decode cX2_endAt 20 = .ok (.iaload, 1) := by decide +kernel
theorem dX2_endAt_21 : decode cX2_endAt 21 = .ok (.iload_n 3, 1) := by decide +kernel
theorem dX2_endAt_22 : decode cX2_endAt 22 = .ok (.if_icmp .ne 13, 3) := by decide +kernel
theorem dX2_endAt_25 : decode cX2_endAt 25 = .ok (.iload_n 2, 1) := by decide +kernel
theorem dX2_endAt_26 : decode cX2_endAt 26 = .ok (.iload_n 1, 1) := by decide +kernel
theorem dX2_endAt_27 : decode cX2_endAt 27 = .ok (.if_icmp .ne 5, 3) := by decide +kernel
theorem dX2_endAt_30 : decode cX2_endAt 30 = .ok (.iload_n 3, 1) := by decide +kernel
theorem dX2_endAt_31 : decode cX2_endAt 31 = .ok (.ireturn, 1) := by decide +kernel
theorem dX2_endAt_32 : decode cX2_endAt 32 = .ok (.iinc 2 1, 3) := by decide +kernel
theorem dX2_endAt_35 : decode cX2_endAt 35 = .ok (.iinc 3 1, 3) := by decide +kernel
theorem dX2_endAt_38 : decode cX2_endAt 38 = .ok (.goto (-34), 3) := by decide +kernel
theorem dX2_endAt_41 : decode cX2_endAt 41 = .ok (.bipush (-6), 2) := by decide +kernel
theorem dX2_endAt_43 : decode cX2_endAt 43 = .ok (.ireturn, 1) := by decide +kernel
theorem dX2_howManyComeTo_0 : decode cX2_howManyComeTo 0 = .ok (.iconst 0, 1) := by decide +kernel
theorem dX2_howManyComeTo_1 : decode cX2_howManyComeTo 1 = .ok (.istore_n 2, 1) := by decide +kernel
theorem dX2_howManyComeTo_2 : decode cX2_howManyComeTo 2 = .ok (.iconst 0, 1) := by decide +kernel
theorem dX2_howManyComeTo_3 : decode cX2_howManyComeTo 3 = .ok (.istore_n 3, 1) := by decide +kernel
theorem dX2_howManyComeTo_4 : decode cX2_howManyComeTo 4 = .ok (.iload_n 3, 1) := by decide +kernel
theorem dX2_howManyComeTo_5 : decode cX2_howManyComeTo 5 = .ok (.aload_n 0, 1) := by decide +kernel
theorem dX2_howManyComeTo_6 : decode cX2_howManyComeTo 6 = .ok (.getfield 9, 3) := by decide +kernel
theorem dX2_howManyComeTo_9 : decode cX2_howManyComeTo 9 = .ok (.invokevirtual 43, 3) := by decide +kernel
theorem dX2_howManyComeTo_12 : decode cX2_howManyComeTo 12 = .ok (.if_icmp .ge 22, 3) := by decide +kernel
theorem dX2_howManyComeTo_15 : decode cX2_howManyComeTo 15 = .ok (.aload_n 0, 1) := by decide +kernel
theorem dX2_howManyComeTo_16 : decode cX2_howManyComeTo 16 = .ok (.getfield 23, 3) := by decide +kernel
theorem dX2_howManyComeTo_19 : decode cX2_howManyComeTo 19 = .ok (.iload_n 3, 1) := by decide +kernel
theorem dX2_howManyComeTo_20 : decode cX2_howManyComeTo 20 = .ok (.iaload, 1) := by decide +kernel
theorem dX2_howManyComeTo_21 : decode cX2_howManyComeTo 21 = .ok (.iload_n 1, 1) := by decide +kernel
theorem dX2_howManyComeTo_22 : decode cX2_howManyComeTo 22 = .ok (.if_icmp .ne 6, 3) := by decide +kernel
theorem dX2_howManyComeTo_25 : decode cX2_howManyComeTo 25 = .ok (.iinc 2 1, 3) := by decide +kernel
theorem dX2_howManyComeTo_28 : decode cX2_howManyComeTo 28 = .ok (.iinc 3 1, 3) := by decide +kernel
theorem dX2_howManyComeTo_31 : decode cX2_howManyComeTo 31 = .ok (.goto (-27), 3) := by decide +kernel
theorem dX2_howManyComeTo_34 : decode cX2_howManyComeTo 34 = .ok (.iload_n 2, 1) := by decide +kernel
theorem dX2_howManyComeTo_35 : decode cX2_howManyComeTo 35 = .ok (.ireturn, 1) := by decide +kernel
theorem dX2_ringLength_0 : decode cX2_ringLength 0 = .ok (.iconst 0, 1) := by decide +kernel
theorem dX2_ringLength_1 : decode cX2_ringLength 1 = .ok (.istore_n 2, 1) := by decide +kernel
theorem dX2_ringLength_2 : decode cX2_ringLength 2 = .ok (.iconst 0, 1) := by decide +kernel
theorem dX2_ringLength_3 : decode cX2_ringLength 3 = .ok (.istore_n 3, 1) := by decide +kernel
theorem dX2_ringLength_4 : decode cX2_ringLength 4 = .ok (.iload_n 3, 1) := by decide +kernel
theorem dX2_ringLength_5 : decode cX2_ringLength 5 = .ok (.aload_n 0, 1) := by decide +kernel
theorem dX2_ringLength_6 : decode cX2_ringLength 6 = .ok (.getfield 9, 3) := by decide +kernel
theorem dX2_ringLength_9 : decode cX2_ringLength 9 = .ok (.invokevirtual 43, 3) := by decide +kernel
theorem dX2_ringLength_12 : decode cX2_ringLength 12 = .ok (.if_icmp .ge 31, 3) := by decide +kernel
theorem dX2_ringLength_15 : decode cX2_ringLength 15 = .ok (.aload_n 0, 1) := by decide +kernel
theorem dX2_ringLength_16 : decode cX2_ringLength 16 = .ok (.getfield 23, 3) := by decide +kernel
theorem dX2_ringLength_19 : decode cX2_ringLength 19 = .ok (.iload_n 3, 1) := by decide +kernel
theorem dX2_ringLength_20 : decode cX2_ringLength 20 = .ok (.iaload, 1) := by decide +kernel
theorem dX2_ringLength_21 : decode cX2_ringLength 21 = .ok (.iload_n 1, 1) := by decide +kernel
theorem dX2_ringLength_22 : decode cX2_ringLength 22 = .ok (.if_icmp .ne 15, 3) := by decide +kernel
theorem dX2_ringLength_25 : decode cX2_ringLength 25 = .ok (.aload_n 0, 1) := by decide +kernel
theorem dX2_ringLength_26 : decode cX2_ringLength 26 = .ok (.getfield 26, 3) := by decide +kernel
theorem dX2_ringLength_29 : decode cX2_ringLength 29 = .ok (.iload_n 3, 1) := by decide +kernel
theorem dX2_ringLength_30 : decode cX2_ringLength 30 = .ok (.iaload, 1) := by decide +kernel
theorem dX2_ringLength_31 : decode cX2_ringLength 31 = .ok (.ifCond .ne 6, 3) := by decide +kernel
theorem dX2_ringLength_34 : decode cX2_ringLength 34 = .ok (.iinc 2 1, 3) := by decide +kernel
theorem dX2_ringLength_37 : decode cX2_ringLength 37 = .ok (.iinc 3 1, 3) := by decide +kernel
theorem dX2_ringLength_40 : decode cX2_ringLength 40 = .ok (.goto (-36), 3) := by decide +kernel
theorem dX2_ringLength_43 : decode cX2_ringLength 43 = .ok (.iload_n 2, 1) := by decide +kernel
theorem dX2_ringLength_44 : decode cX2_ringLength 44 = .ok (.ireturn, 1) := by decide +kernel
theorem dX2_greatestTail_0 : decode cX2_greatestTail 0 = .ok (.iconst 0, 1) := by decide +kernel
theorem dX2_greatestTail_1 : decode cX2_greatestTail 1 = .ok (.istore_n 2, 1) := by decide +kernel
theorem dX2_greatestTail_2 : decode cX2_greatestTail 2 = .ok (.iconst 0, 1) := by decide +kernel
theorem dX2_greatestTail_3 : decode cX2_greatestTail 3 = .ok (.istore_n 3, 1) := by decide +kernel
theorem dX2_greatestTail_4 : decode cX2_greatestTail 4 = .ok (.iload_n 3, 1) := by decide +kernel
theorem dX2_greatestTail_5 : decode cX2_greatestTail 5 = .ok (.aload_n 0, 1) := by decide +kernel
theorem dX2_greatestTail_6 : decode cX2_greatestTail 6 = .ok (.getfield 9, 3) := by decide +kernel
theorem dX2_greatestTail_9 : decode cX2_greatestTail 9 = .ok (.invokevirtual 43, 3) := by decide +kernel
theorem dX2_greatestTail_12 : decode cX2_greatestTail 12 = .ok (.if_icmp .ge 30, 3) := by decide +kernel
theorem dX2_greatestTail_15 : decode cX2_greatestTail 15 = .ok (.aload_n 0, 1) := by decide +kernel
theorem dX2_greatestTail_16 : decode cX2_greatestTail 16 = .ok (.getfield 23, 3) := by decide +kernel
theorem dX2_greatestTail_19 : decode cX2_greatestTail 19 = .ok (.iload_n 3, 1) := by decide +kernel
theorem dX2_greatestTail_20 : decode cX2_greatestTail 20 = .ok (.iaload, 1) := by decide +kernel
theorem dX2_greatestTail_21 : decode cX2_greatestTail 21 = .ok (.iload_n 1, 1) := by decide +kernel
theorem dX2_greatestTail_22 : decode cX2_greatestTail 22 = .ok (.if_icmp .ne 14, 3) := by decide +kernel
theorem dX2_greatestTail_25 : decode cX2_greatestTail 25 = .ok (.iload_n 2, 1) := by decide +kernel
theorem dX2_greatestTail_26 : decode cX2_greatestTail 26 = .ok (.aload_n 0, 1) := by decide +kernel
theorem dX2_greatestTail_27 : decode cX2_greatestTail 27 = .ok (.getfield 26, 3) := by decide +kernel
theorem dX2_greatestTail_30 : decode cX2_greatestTail 30 = .ok (.iload_n 3, 1) := by decide +kernel
theorem dX2_greatestTail_31 : decode cX2_greatestTail 31 = .ok (.iaload, 1) := by decide +kernel
theorem dX2_greatestTail_32 : decode cX2_greatestTail 32 = .ok (.invokestatic 75, 3) := by decide +kernel
theorem dX2_greatestTail_35 : decode cX2_greatestTail 35 = .ok (.istore_n 2, 1) := by decide +kernel
theorem dX2_greatestTail_36 : decode cX2_greatestTail 36 = .ok (.iinc 3 1, 3) := by decide +kernel
theorem dX2_greatestTail_39 : decode cX2_greatestTail 39 = .ok (.goto (-35), 3) := by decide +kernel
theorem dX2_greatestTail_42 : decode cX2_greatestTail 42 = .ok (.iload_n 2, 1) := by decide +kernel
theorem dX2_greatestTail_43 : decode cX2_greatestTail 43 = .ok (.ireturn, 1) := by decide +kernel
theorem dX2_firstOfRing_0 : decode cX2_firstOfRing 0 = .ok (.aload_n 0, 1) := by decide +kernel
theorem dX2_firstOfRing_1 : decode cX2_firstOfRing 1 = .ok (.getfield 26, 3) := by decide +kernel
theorem dX2_firstOfRing_4 : decode cX2_firstOfRing 4 = .ok (.iload_n 1, 1) := by decide +kernel
theorem dX2_firstOfRing_5 : decode cX2_firstOfRing 5 = .ok (.iaload, 1) := by decide +kernel
theorem dX2_firstOfRing_6 : decode cX2_firstOfRing 6 = .ok (.istore_n 2, 1) := by decide +kernel
theorem dX2_firstOfRing_7 : decode cX2_firstOfRing 7 = .ok (.iload_n 1, 1) := by decide +kernel
theorem dX2_firstOfRing_8 : decode cX2_firstOfRing 8 = .ok (.istore_n 3, 1) := by decide +kernel
theorem dX2_firstOfRing_9 : decode cX2_firstOfRing 9 = .ok (.iconst 0, 1) := by decide +kernel
theorem dX2_firstOfRing_10 : decode cX2_firstOfRing 10 = .ok (.istore 4, 2) := by decide +kernel
theorem dX2_firstOfRing_12 : decode cX2_firstOfRing 12 = .ok (.iload 4, 2) := by decide +kernel
theorem dX2_firstOfRing_14 : decode cX2_firstOfRing 14 = .ok (.iload_n 2, 1) := by decide +kernel
theorem dX2_firstOfRing_15 : decode cX2_firstOfRing 15 = .ok (.if_icmp .ge 16, 3) := by decide +kernel
theorem dX2_firstOfRing_18 : decode cX2_firstOfRing 18 = .ok (.aload_n 0, 1) := by decide +kernel
theorem dX2_firstOfRing_19 : decode cX2_firstOfRing 19 = .ok (.getfield 19, 3) := by decide +kernel
theorem dX2_firstOfRing_22 : decode cX2_firstOfRing 22 = .ok (.iload_n 3, 1) := by decide +kernel
theorem dX2_firstOfRing_23 : decode cX2_firstOfRing 23 = .ok (.iaload, 1) := by decide +kernel
theorem dX2_firstOfRing_24 : decode cX2_firstOfRing 24 = .ok (.istore_n 3, 1) := by decide +kernel
theorem dX2_firstOfRing_25 : decode cX2_firstOfRing 25 = .ok (.iinc 4 1, 3) := by decide +kernel
theorem dX2_firstOfRing_28 : decode cX2_firstOfRing 28 = .ok (.goto (-16), 3) := by decide +kernel
theorem dX2_firstOfRing_31 : decode cX2_firstOfRing 31 = .ok (.iload_n 3, 1) := by decide +kernel
theorem dX2_firstOfRing_32 : decode cX2_firstOfRing 32 = .ok (.ireturn, 1) := by decide +kernel
end
section
theorem dX3_init_0 : decode cX3_init 0 = .ok (.aload_n 0, 1) := by decide +kernel
theorem dX3_init_1 : decode cX3_init 1 = .ok (.invokespecial 1, 3) := by decide +kernel
theorem dX3_init_4 : decode cX3_init 4 = .ok (.aload_n 0, 1) := by decide +kernel
theorem dX3_init_5 : decode cX3_init 5 = .ok (.new 7, 3) := by decide +kernel
theorem dX3_init_8 : decode cX3_init 8 = .ok (.dup, 1) := by decide +kernel
theorem dX3_init_9 : decode cX3_init 9 = .ok (.invokespecial 9, 3) := by decide +kernel
theorem dX3_init_12 : decode cX3_init 12 = .ok (.putfield 10, 3) := by decide +kernel
theorem dX3_init_15 : decode cX3_init 15 = .ok (.aload_n 0, 1) := by decide +kernel
theorem dX3_init_16 : decode cX3_init 16 = .ok (.new 16, 3) := by decide +kernel
theorem dX3_init_19 : decode cX3_init 19 = .ok (.dup, 1) := by decide +kernel
theorem dX3_init_20 : decode cX3_init 20 = .ok (.aload_n 0, 1) := by decide +kernel
theorem dX3_init_21 : decode cX3_init 21 = .ok (.getfield 10, 3) := by decide +kernel
theorem dX3_init_24 : decode cX3_init 24 = .ok (.invokespecial 18, 3) := by decide +kernel
theorem dX3_init_27 : decode cX3_init 27 = .ok (.putfield 21, 3) := by decide +kernel
theorem dX3_init_30 : decode cX3_init 30 = .ok (.aload_n 0, 1) := by decide +kernel
theorem dX3_init_31 : decode cX3_init 31 = .ok (.new 25, 3) := by decide +kernel
theorem dX3_init_34 : decode cX3_init 34 = .ok (.dup, 1) := by decide +kernel
theorem dX3_init_35 : decode cX3_init 35 = .ok (.aload_n 0, 1) := by decide +kernel
theorem dX3_init_36 : decode cX3_init 36 = .ok (.getfield 10, 3) := by decide +kernel
theorem dX3_init_39 : decode cX3_init 39 = .ok (.aload_n 0, 1) := by decide +kernel
theorem dX3_init_40 : decode cX3_init 40 = .ok (.getfield 21, 3) := by decide +kernel
theorem dX3_init_43 : decode cX3_init 43 = .ok (.invokespecial 27, 3) := by decide +kernel
theorem dX3_init_46 : decode cX3_init 46 = .ok (.putfield 30, 3) := by decide +kernel
theorem dX3_init_49 : decode cX3_init 49 = .ok (.aload_n 0, 1) := by decide +kernel
theorem dX3_init_50 : decode cX3_init 50 = .ok (.sipush 1024, 3) := by decide +kernel
theorem dX3_init_53 : decode cX3_init 53 = .ok (.newarray .int, 2) := by decide +kernel
theorem dX3_init_55 : decode cX3_init 55 = .ok (.putfield 34, 3) := by decide +kernel
theorem dX3_init_58 : decode cX3_init 58 = .ok (.aload_n 0, 1) := by decide +kernel
theorem dX3_init_59 : decode cX3_init 59 = .ok (.iconst 0, 1) := by decide +kernel
theorem dX3_init_60 : decode cX3_init 60 = .ok (.putfield 38, 3) := by decide +kernel
theorem dX3_init_63 : decode cX3_init 63 = .ok (.aload_n 0, 1) := by decide +kernel
theorem dX3_init_64 : decode cX3_init 64 = .ok (.iconst 0, 1) := by decide +kernel
theorem dX3_init_65 : decode cX3_init 65 = .ok (.putfield 42, 3) := by decide +kernel
theorem dX3_init_68 : decode cX3_init 68 = .ok (.return_, 1) := by decide +kernel
theorem dX3_players_0 : decode cX3_players 0 = .ok (.iload_n 1, 1) := by decide +kernel
theorem dX3_players_1 : decode cX3_players 1 = .ok (.iconst 2, 1) := by decide +kernel
theorem dX3_players_2 : decode cX3_players 2 = .ok (.if_icmp .lt 9, 3) := by decide +kernel
theorem dX3_players_5 : decode cX3_players 5 = .ok (.iload_n 1, 1) := by decide +kernel
theorem dX3_players_6 : decode cX3_players 6 = .ok (.bipush 10, 2) := by decide +kernel
theorem dX3_players_8 : decode cX3_players 8 = .ok (.if_icmp .le 6, 3) := by decide +kernel
theorem dX3_players_11 : decode cX3_players 11 = .ok (.bipush (-2), 2) := by decide +kernel
theorem dX3_players_13 : decode cX3_players 13 = .ok (.ireturn, 1) := by decide +kernel
theorem dX3_players_14 : decode cX3_players 14 = .ok (.aload_n 0, 1) := by decide +kernel
theorem dX3_players_15 : decode cX3_players 15 = .ok (.getfield 10, 3) := by decide +kernel
theorem dX3_players_18 : decode cX3_players 18 = .ok (.getfield 45, 3) := by decide +kernel
theorem dX3_players_21 : decode cX3_players 21 = .ok (.istore_n 2, 1) := by decide +kernel
theorem dX3_players_22 : decode cX3_players 22 = .ok (.aload_n 0, 1) := by decide +kernel
theorem dX3_players_23 : decode cX3_players 23 = .ok (.getfield 10, 3) := by decide +kernel
theorem dX3_players_26 : decode cX3_players 26 = .ok (.iload_n 1, 1) := by decide +kernel
theorem dX3_players_27 : decode cX3_players 27 = .ok (.invokevirtual 48, 3) := by decide +kernel
theorem dX3_players_30 : decode cX3_players 30 = .ok (.aload_n 0, 1) := by decide +kernel
theorem dX3_players_31 : decode cX3_players 31 = .ok (.iconst 0, 1) := by decide +kernel
theorem dX3_players_32 : decode cX3_players 32 = .ok (.putfield 38, 3) := by decide +kernel
theorem dX3_players_35 : decode cX3_players 35 = .ok (.aload_n 0, 1) := by decide +kernel
theorem dX3_players_36 : decode cX3_players 36 = .ok (.iconst 0, 1) := by decide +kernel
theorem dX3_players_37 : decode cX3_players 37 = .ok (.putfield 42, 3) := by decide +kernel
theorem dX3_players_40 : decode cX3_players 40 = .ok (.aload_n 0, 1) := by decide +kernel
theorem dX3_players_41 : decode cX3_players 41 = .ok (.invokevirtual 52, 3) := by decide +kernel
theorem dX3_players_44 : decode cX3_players 44 = .ok (.iload_n 2, 1) := by decide +kernel
theorem dX3_players_45 : decode cX3_players 45 = .ok (.ireturn, 1) := by decide +kernel
theorem dX3_line_0 : decode cX3_line 0 = .ok (.aload_n 0, 1) := by decide +kernel
theorem dX3_line_1 : decode cX3_line 1 = .ok (.getfield 10, 3) := by decide +kernel
theorem dX3_line_4 : decode cX3_line 4 = .ok (.iload_n 1, 1) := by decide +kernel
theorem dX3_line_5 : decode cX3_line 5 = .ok (.iload_n 2, 1) := by decide +kernel
theorem dX3_line_6 : decode cX3_line 6 = .ok (.invokevirtual 55, 3) := by decide +kernel
theorem dX3_line_9 : decode cX3_line 9 = .ok (.ifCond .ne 5, 3) := by decide +kernel
theorem dX3_line_12 : decode cX3_line 12 = .ok (.iconst (-1), 1) := by decide +kernel
theorem dX3_line_13 : decode cX3_line 13 = .ok (.ireturn, 1) := by decide +kernel
theorem dX3_line_14 : decode cX3_line 14 = .ok (.iload_n 3, 1) := by decide +kernel
theorem dX3_line_15 : decode cX3_line 15 = .ok (.ifCond .lt 9, 3) := by decide +kernel
theorem dX3_line_18 : decode cX3_line 18 = .ok (.iload_n 3, 1) := by decide +kernel
theorem dX3_line_19 : decode cX3_line 19 = .ok (.bipush 9, 2) := by decide +kernel
theorem dX3_line_21 : decode cX3_line 21 = .ok (.if_icmp .le 6, 3) := by decide +kernel
theorem dX3_line_24 : decode cX3_line 24 = .ok (.bipush (-2), 2) := by decide +kernel
theorem dX3_line_26 : decode cX3_line 26 = .ok (.ireturn, 1) := by decide +kernel
theorem dX3_line_27 : decode cX3_line 27 = .ok (.aload_n 0, 1) := by decide +kernel
theorem dX3_line_28 : decode cX3_line 28 = .ok (.getfield 10, 3) := by decide +kernel
theorem dX3_line_31 : decode cX3_line 31 = .ok (.iload_n 1, 1) := by decide +kernel
theorem dX3_line_32 : decode cX3_line 32 = .ok (.iload_n 2, 1) := by decide +kernel
theorem dX3_line_33 : decode cX3_line 33 = .ok (.invokevirtual 59, 3) := by decide +kernel
theorem dX3_line_36 : decode cX3_line 36 = .ok (.istore 4, 2) := by decide +kernel
theorem dX3_line_38 : decode cX3_line 38 = .ok (.aload_n 0, 1) := by decide +kernel
theorem dX3_line_39 : decode cX3_line 39 = .ok (.getfield 10, 3) := by decide +kernel
theorem dX3_line_42 : decode cX3_line 42 = .ok (.iload_n 1, 1) := by decide +kernel
theorem dX3_line_43 : decode cX3_line 43 = .ok (.iload_n 2, 1) := by decide +kernel
theorem dX3_line_44 : decode cX3_line 44 = .ok (.iload_n 3, 1) := by decide +kernel
theorem dX3_line_45 : decode cX3_line 45 = .ok (.invokevirtual 63, 3) := by decide +kernel
theorem dX3_line_48 : decode cX3_line 48 = .ok (.aload_n 0, 1) := by decide +kernel
theorem dX3_line_49 : decode cX3_line 49 = .ok (.invokevirtual 52, 3) := by decide +kernel
theorem dX3_line_52 : decode cX3_line 52 = .ok (.iload 4, 2) := by decide +kernel
theorem dX3_line_54 : decode cX3_line 54 = .ok (.ireturn, 1) := by decide +kernel
theorem dX3_weight_0 : decode cX3_weight 0 = .ok (.aload_n 0, 1) := by decide +kernel
theorem dX3_weight_1 : decode cX3_weight 1 = .ok (.getfield 10, 3) := by decide +kernel
theorem dX3_weight_4 : decode cX3_weight 4 = .ok (.iload_n 1, 1) := by decide +kernel
theorem dX3_weight_5 : decode cX3_weight 5 = .ok (.iload_n 2, 1) := by decide +kernel
theorem dX3_weight_6 : decode cX3_weight 6 = .ok (.invokevirtual 55, 3) := by decide +kernel
theorem dX3_weight_9 : decode cX3_weight 9 = .ok (.ifCond .eq 15, 3) := by decide +kernel
theorem dX3_weight_12 : decode cX3_weight 12 = .ok (.aload_n 0, 1) := by decide +kernel
theorem dX3_weight_13 : decode cX3_weight 13 = .ok (.getfield 10, 3) := by decide +kernel
theorem dX3_weight_16 : decode cX3_weight 16 = .ok (.iload_n 1, 1) := by decide +kernel
theorem dX3_weight_17 : decode cX3_weight 17 = .ok (.iload_n 2, 1) := by decide +kernel
theorem dX3_weight_18 : decode cX3_weight 18 = .ok (.invokevirtual 59, 3) := by decide +kernel
theorem dX3_weight_21 : decode cX3_weight 21 = .ok (.goto 4, 3) := by decide +kernel
theorem dX3_weight_24 : decode cX3_weight 24 = .ok (.iconst (-1), 1) := by decide +kernel
theorem dX3_weight_25 : decode cX3_weight 25 = .ok (.ireturn, 1) := by decide +kernel
theorem dX3_pay_0 : decode cX3_pay 0 = .ok (.iload_n 1, 1) := by decide +kernel
theorem dX3_pay_1 : decode cX3_pay 1 = .ok (.invokestatic 67, 3) := by decide +kernel
theorem dX3_pay_4 : decode cX3_pay 4 = .ok (.ifCond .eq 22, 3) := by decide +kernel
theorem dX3_pay_7 : decode cX3_pay 7 = .ok (.iload_n 2, 1) := by decide +kernel
theorem dX3_pay_8 : decode cX3_pay 8 = .ok (.invokestatic 67, 3) := by decide +kernel
theorem dX3_pay_11 : decode cX3_pay 11 = .ok (.ifCond .eq 15, 3) := by decide +kernel
theorem dX3_pay_14 : decode cX3_pay 14 = .ok (.iload_n 3, 1) := by decide +kernel
theorem dX3_pay_15 : decode cX3_pay 15 = .ok (.bipush (-9), 2) := by decide +kernel
theorem dX3_pay_17 : decode cX3_pay 17 = .ok (.if_icmp .lt 9, 3) := by decide +kernel
theorem dX3_pay_20 : decode cX3_pay 20 = .ok (.iload_n 3, 1) := by decide +kernel
theorem dX3_pay_21 : decode cX3_pay 21 = .ok (.bipush 9, 2) := by decide +kernel
theorem dX3_pay_23 : decode cX3_pay 23 = .ok (.if_icmp .le 6, 3) := by decide +kernel
theorem dX3_pay_26 : decode cX3_pay 26 = .ok (.ldc 71, 2) := by decide +kernel
theorem dX3_pay_28 : decode cX3_pay 28 = .ok (.ireturn, 1) := by decide +kernel
theorem dX3_pay_29 : decode cX3_pay 29 = .ok (.aload_n 0, 1) := by decide +kernel
theorem dX3_pay_30 : decode cX3_pay 30 = .ok (.getfield 10, 3) := by decide +kernel
theorem dX3_pay_33 : decode cX3_pay 33 = .ok (.iload_n 1, 1) := by decide +kernel
theorem dX3_pay_34 : decode cX3_pay 34 = .ok (.iload_n 2, 1) := by decide +kernel
theorem dX3_pay_35 : decode cX3_pay 35 = .ok (.invokevirtual 72, 3) := by decide +kernel
theorem dX3_pay_38 : decode cX3_pay 38 = .ok (.istore 4, 2) := by decide +kernel
theorem dX3_pay_40 : decode cX3_pay 40 = .ok (.aload_n 0, 1) := by decide +kernel
theorem dX3_pay_41 : decode cX3_pay 41 = .ok (.getfield 10, 3) := by decide +kernel
theorem dX3_pay_44 : decode cX3_pay 44 = .ok (.iload_n 1, 1) := by decide +kernel
theorem dX3_pay_45 : decode cX3_pay 45 = .ok (.iload_n 2, 1) := by decide +kernel
theorem dX3_pay_46 : decode cX3_pay 46 = .ok (.iload_n 3, 1) := by decide +kernel
theorem dX3_pay_47 : decode cX3_pay 47 = .ok (.invokevirtual 75, 3) := by decide +kernel
theorem dX3_pay_50 : decode cX3_pay 50 = .ok (.aload_n 0, 1) := by decide +kernel
theorem dX3_pay_51 : decode cX3_pay 51 = .ok (.invokevirtual 52, 3) := by decide +kernel
theorem dX3_pay_54 : decode cX3_pay 54 = .ok (.iload 4, 2) := by decide +kernel
theorem dX3_pay_56 : decode cX3_pay 56 = .ok (.ireturn, 1) := by decide +kernel
theorem dX3_bar_0 : decode cX3_bar 0 = .ok (.iload_n 1, 1) := by decide +kernel
theorem dX3_bar_1 : decode cX3_bar 1 = .ok (.ifCond .lt 9, 3) := by decide +kernel
theorem dX3_bar_4 : decode cX3_bar 4 = .ok (.iload_n 1, 1) := by decide +kernel
theorem dX3_bar_5 : decode cX3_bar 5 = .ok (.bipush 100, 2) := by decide +kernel
theorem dX3_bar_7 : decode cX3_bar 7 = .ok (.if_icmp .le 6, 3) := by decide +kernel
theorem dX3_bar_10 : decode cX3_bar 10 = .ok (.bipush (-2), 2) := by decide +kernel
theorem dX3_bar_12 : decode cX3_bar 12 = .ok (.ireturn, 1) := by decide +kernel
theorem dX3_bar_13 : decode cX3_bar 13 = .ok (.aload_n 0, 1) := by decide +kernel
theorem dX3_bar_14 : decode cX3_bar 14 = .ok (.getfield 10, 3) := by decide +kernel
theorem dX3_bar_17 : decode cX3_bar 17 = .ok (.getfield 78, 3) := by decide +kernel
theorem dX3_bar_20 : decode cX3_bar 20 = .ok (.istore_n 2, 1) := by decide +kernel
theorem dX3_bar_21 : decode cX3_bar 21 = .ok (.aload_n 0, 1) := by decide +kernel
theorem dX3_bar_22 : decode cX3_bar 22 = .ok (.getfield 10, 3) := by decide +kernel
theorem dX3_bar_25 : decode cX3_bar 25 = .ok (.iload_n 1, 1) := by decide +kernel
theorem dX3_bar_26 : decode cX3_bar 26 = .ok (.putfield 78, 3) := by decide +kernel
theorem dX3_bar_29 : decode cX3_bar 29 = .ok (.aload_n 0, 1) := by decide +kernel
theorem dX3_bar_30 : decode cX3_bar 30 = .ok (.invokevirtual 52, 3) := by decide +kernel
theorem dX3_bar_33 : decode cX3_bar 33 = .ok (.iload_n 2, 1) := by decide +kernel
theorem dX3_bar_34 : decode cX3_bar 34 = .ok (.ireturn, 1) := by decide +kernel
theorem dX3_hold_0 : decode cX3_hold 0 = .ok (.aload_n 0, 1) := by decide +kernel
theorem dX3_hold_1 : decode cX3_hold 1 = .ok (.getfield 10, 3) := by decide +kernel
theorem dX3_hold_4 : decode cX3_hold 4 = .ok (.iload_n 1, 1) := by decide +kernel
theorem dX3_hold_5 : decode cX3_hold 5 = .ok (.invokevirtual 81, 3) := by decide +kernel
theorem dX3_hold_8 : decode cX3_hold 8 = .ok (.ifCond .ne 5, 3) := by decide +kernel
theorem dX3_hold_11 : decode cX3_hold 11 = .ok (.iconst (-1), 1) := by decide +kernel
theorem dX3_hold_12 : decode cX3_hold 12 = .ok (.ireturn, 1) := by decide +kernel
theorem dX3_hold_13 : decode cX3_hold 13 = .ok (.iload_n 1, 1) := by decide +kernel
theorem dX3_hold_14 : decode cX3_hold 14 = .ok (.aload_n 0, 1) := by decide +kernel
theorem dX3_hold_15 : decode cX3_hold 15 = .ok (.getfield 38, 3) := by decide +kernel
theorem dX3_hold_18 : decode cX3_hold 18 = .ok (.invokestatic 84, 3) := by decide +kernel
theorem dX3_hold_21 : decode cX3_hold 21 = .ok (.istore_n 3, 1) := by decide +kernel
theorem dX3_hold_22 : decode cX3_hold 22 = .ok (.aload_n 0, 1) := by decide +kernel
theorem dX3_hold_23 : decode cX3_hold 23 = .ok (.iload_n 2, 1) := by decide +kernel
theorem dX3_hold_24 : decode cX3_hold 24 = .ok (.ifCond .eq 14, 3) := by decide +kernel
theorem dX3_hold_27 : decode cX3_hold 27 = .ok (.aload_n 0, 1) := by decide +kernel
theorem dX3_hold_28 : decode cX3_hold 28 = .ok (.getfield 38, 3) := by decide +kernel
theorem dX3_hold_31 : decode cX3_hold 31 = .ok (.iconst 1, 1) := by decide +kernel
theorem dX3_hold_32 : decode cX3_hold 32 = .ok (.iload_n 1, 1) := by decide +kernel
theorem dX3_hold_33 : decode cX3_hold 33 = .ok (.ishl, 1) := by decide +kernel
theorem dX3_hold_34 : decode cX3_hold 34 = .ok (.ior, 1) := by decide +kernel
theorem dX3_hold_35 : decode cX3_hold 35 = .ok (.goto 13, 3) := by decide +kernel
theorem dX3_hold_38 : decode cX3_hold 38 = .ok (.aload_n 0, 1) := by decide +kernel
theorem dX3_hold_39 : decode cX3_hold 39 = .ok (.getfield 38, 3) := by decide +kernel
theorem dX3_hold_42 : decode cX3_hold 42 = .ok (.iconst 1, 1) := by decide +kernel
theorem dX3_hold_43 : decode cX3_hold 43 = .ok (.iload_n 1, 1) := by decide +kernel
theorem dX3_hold_44 : decode cX3_hold 44 = .ok (.ishl, 1) := by decide +kernel
theorem dX3_hold_45 : decode cX3_hold 45 = .ok (.iconst (-1), 1) := by decide +kernel
theorem dX3_hold_46 : decode cX3_hold 46 = .ok (.ixor, 1) := by decide +kernel
theorem dX3_hold_47 : decode cX3_hold 47 = .ok (.iand, 1) := by decide +kernel
theorem dX3_hold_48 : decode cX3_hold 48 = .ok (.putfield 38, 3) := by decide +kernel
theorem dX3_hold_51 : decode cX3_hold 51 = .ok (.iload_n 3, 1) := by decide +kernel
theorem dX3_hold_52 : decode cX3_hold 52 = .ok (.ireturn, 1) := by decide +kernel
theorem dX3_state_0 : decode cX3_state 0 = .ok (.aload_n 0, 1) := by decide +kernel
theorem dX3_state_1 : decode cX3_state 1 = .ok (.getfield 10, 3) := by decide +kernel
theorem dX3_state_4 : decode cX3_state 4 = .ok (.iload_n 1, 1) := by decide +kernel
theorem dX3_state_5 : decode cX3_state 5 = .ok (.invokevirtual 87, 3) := by decide +kernel
theorem dX3_state_8 : decode cX3_state 8 = .ok (.ifCond .ne 6, 3) := by decide +kernel
theorem dX3_state_11 : decode cX3_state 11 = .ok (.bipush (-2), 2) := by decide +kernel
theorem dX3_state_13 : decode cX3_state 13 = .ok (.ireturn, 1) := by decide +kernel
theorem dX3_state_14 : decode cX3_state 14 = .ok (.aload_n 0, 1) := by decide +kernel
theorem dX3_state_15 : decode cX3_state 15 = .ok (.getfield 42, 3) := by decide +kernel
theorem dX3_state_18 : decode cX3_state 18 = .ok (.istore_n 2, 1) := by decide +kernel
theorem dX3_state_19 : decode cX3_state 19 = .ok (.aload_n 0, 1) := by decide +kernel
theorem dX3_state_20 : decode cX3_state 20 = .ok (.iload_n 1, 1) := by decide +kernel
theorem dX3_state_21 : decode cX3_state 21 = .ok (.putfield 42, 3) := by decide +kernel
theorem dX3_state_24 : decode cX3_state 24 = .ok (.iload_n 2, 1) := by decide +kernel
theorem dX3_state_25 : decode cX3_state 25 = .ok (.ireturn, 1) := by decide +kernel
theorem dX3_wage_0 : decode cX3_wage 0 = .ok (.aload_n 0, 1) := by decide +kernel
theorem dX3_wage_1 : decode cX3_wage 1 = .ok (.getfield 10, 3) := by decide +kernel
theorem dX3_wage_4 : decode cX3_wage 4 = .ok (.iload_n 1, 1) := by decide +kernel
theorem dX3_wage_5 : decode cX3_wage 5 = .ok (.invokevirtual 81, 3) := by decide +kernel
theorem dX3_wage_8 : decode cX3_wage 8 = .ok (.ifCond .ne 6, 3) := by decide +kernel
theorem dX3_wage_11 : decode cX3_wage 11 = .ok (.ldc 90, 2) := by decide +kernel
theorem dX3_wage_13 : decode cX3_wage 13 = .ok (.ireturn, 1) := by decide +kernel
theorem dX3_wage_14 : decode cX3_wage 14 = .ok (.iload_n 2, 1) := by decide +kernel
theorem dX3_wage_15 : decode cX3_wage 15 = .ok (.ifCond .eq 11, 3) := by decide +kernel
theorem dX3_wage_18 : decode cX3_wage 18 = .ok (.iload_n 2, 1) := by decide +kernel
theorem dX3_wage_19 : decode cX3_wage 19 = .ok (.iconst 1, 1) := by decide +kernel
theorem dX3_wage_20 : decode cX3_wage 20 = .ok (.if_icmp .eq 6, 3) := by decide +kernel
theorem dX3_wage_23 : decode cX3_wage 23 = .ok (.ldc 71, 2) := by decide +kernel
theorem dX3_wage_25 : decode cX3_wage 25 = .ok (.ireturn, 1) := by decide +kernel
theorem dX3_wage_26 : decode cX3_wage 26 = .ok (.aload_n 0, 1) := by decide +kernel
theorem dX3_wage_27 : decode cX3_wage 27 = .ok (.getfield 10, 3) := by decide +kernel
theorem dX3_wage_30 : decode cX3_wage 30 = .ok (.iload_n 1, 1) := by decide +kernel
theorem dX3_wage_31 : decode cX3_wage 31 = .ok (.iload_n 1, 1) := by decide +kernel
theorem dX3_wage_32 : decode cX3_wage 32 = .ok (.aload_n 0, 1) := by decide +kernel
theorem dX3_wage_33 : decode cX3_wage 33 = .ok (.getfield 42, 3) := by decide +kernel
theorem dX3_wage_36 : decode cX3_wage 36 = .ok (.invokestatic 84, 3) := by decide +kernel
theorem dX3_wage_39 : decode cX3_wage 39 = .ok (.iload_n 2, 1) := by decide +kernel
theorem dX3_wage_40 : decode cX3_wage 40 = .ok (.ixor, 1) := by decide +kernel
theorem dX3_wage_41 : decode cX3_wage 41 = .ok (.aload_n 0, 1) := by decide +kernel
theorem dX3_wage_42 : decode cX3_wage 42 = .ok (.getfield 42, 3) := by decide +kernel
theorem dX3_wage_45 : decode cX3_wage 45 = .ok (.invokevirtual 91, 3) := by decide +kernel
theorem dX3_wage_48 : decode cX3_wage 48 = .ok (.ireturn, 1) := by decide +kernel
theorem dX3_sum_0 : decode cX3_sum 0 = .ok (.iconst 0, 1) := by decide +kernel
theorem dX3_sum_1 : decode cX3_sum 1 = .ok (.istore_n 1, 1) := by decide +kernel
theorem dX3_sum_2 : decode cX3_sum 2 = .ok (.iconst 0, 1) := by decide +kernel
theorem dX3_sum_3 : decode cX3_sum 3 = .ok (.istore_n 2, 1) := by decide +kernel
theorem dX3_sum_4 : decode cX3_sum 4 = .ok (.iload_n 2, 1) := by decide +kernel
theorem dX3_sum_5 : decode cX3_sum 5 = .ok (.aload_n 0, 1) := by decide +kernel
theorem dX3_sum_6 : decode cX3_sum 6 = .ok (.getfield 10, 3) := by decide +kernel
theorem dX3_sum_9 : decode cX3_sum 9 = .ok (.getfield 45, 3) := by decide +kernel
theorem dX3_sum_12 : decode cX3_sum 12 = .ok (.if_icmp .ge 32, 3) := by decide +kernel
theorem dX3_sum_15 : decode cX3_sum 15 = .ok (.iload_n 1, 1) := by decide +kernel
theorem dX3_sum_16 : decode cX3_sum 16 = .ok (.aload_n 0, 1) := by decide +kernel
theorem dX3_sum_17 : decode cX3_sum 17 = .ok (.getfield 10, 3) := by decide +kernel
theorem dX3_sum_20 : decode cX3_sum 20 = .ok (.iload_n 2, 1) := by decide +kernel
theorem dX3_sum_21 : decode cX3_sum 21 = .ok (.iload_n 2, 1) := by decide +kernel
theorem dX3_sum_22 : decode cX3_sum 22 = .ok (.aload_n 0, 1) := by decide +kernel
theorem dX3_sum_23 : decode cX3_sum 23 = .ok (.getfield 42, 3) := by decide +kernel
theorem dX3_sum_26 : decode cX3_sum 26 = .ok (.invokestatic 84, 3) := by decide +kernel
theorem dX3_sum_29 : decode cX3_sum 29 = .ok (.aload_n 0, 1) := by decide +kernel
theorem dX3_sum_30 : decode cX3_sum 30 = .ok (.getfield 42, 3) := by decide +kernel
theorem dX3_sum_33 : decode cX3_sum 33 = .ok (.invokevirtual 91, 3) := by decide +kernel
theorem dX3_sum_36 : decode cX3_sum 36 = .ok (.iadd, 1) := by decide +kernel
theorem dX3_sum_37 : decode cX3_sum 37 = .ok (.istore_n 1, 1) := by decide +kernel
theorem dX3_sum_38 : decode cX3_sum 38 = .ok (.iinc 2 1, 3) := by decide +kernel
theorem dX3_sum_41 : decode cX3_sum 41 = .ok (.goto (-37), 3) := by decide +kernel
theorem dX3_sum_44 : decode cX3_sum 44 = .ok (.iload_n 1, 1) := by decide +kernel
theorem dX3_sum_45 : decode cX3_sum 45 = .ok (.ireturn, 1) := by decide +kernel
theorem dX3_step_0 : decode cX3_step 0 = .ok (.iload_n 1, 1) := by decide +kernel
theorem dX3_step_1 : decode cX3_step 1 = .ok (.invokestatic 95, 3) := by decide +kernel
theorem dX3_step_4 : decode cX3_step 4 = .ok (.ifCond .eq 14, 3) := by decide +kernel
theorem dX3_step_7 : decode cX3_step 7 = .ok (.iload_n 2, 1) := by decide +kernel
theorem dX3_step_8 : decode cX3_step 8 = .ok (.iconst 1, 1) := by decide +kernel
theorem dX3_step_9 : decode cX3_step 9 = .ok (.if_icmp .lt 9, 3) := by decide +kernel
theorem dX3_step_12 : decode cX3_step 12 = .ok (.iload_n 2, 1) := by decide +kernel
theorem dX3_step_13 : decode cX3_step 13 = .ok (.bipush 100, 2) := by decide +kernel
theorem dX3_step_15 : decode cX3_step 15 = .ok (.if_icmp .le 6, 3) := by decide +kernel
theorem dX3_step_18 : decode cX3_step 18 = .ok (.bipush (-2), 2) := by decide +kernel
theorem dX3_step_20 : decode cX3_step 20 = .ok (.ireturn, 1) := by decide +kernel
theorem dX3_step_21 : decode cX3_step 21 = .ok (.iconst 0, 1) := by decide +kernel
theorem dX3_step_22 : decode cX3_step 22 = .ok (.istore_n 3, 1) := by decide +kernel
theorem dX3_step_23 : decode cX3_step 23 = .ok (.iload_n 3, 1) := by decide +kernel
theorem dX3_step_24 : decode cX3_step 24 = .ok (.iload_n 2, 1) := by decide +kernel
theorem dX3_step_25 : decode cX3_step 25 = .ok (.if_icmp .ge 29, 3) := by decide +kernel
theorem dX3_step_28 : decode cX3_step 28 = .ok (.aload_n 0, 1) := by decide +kernel
theorem dX3_step_29 : decode cX3_step 29 = .ok (.aload_n 0, 1) := by decide +kernel
theorem dX3_step_30 : decode cX3_step 30 = .ok (.getfield 21, 3) := by decide +kernel
theorem dX3_step_33 : decode cX3_step 33 = .ok (.iload_n 1, 1) := by decide +kernel
theorem dX3_step_34 : decode cX3_step 34 = .ok (.aload_n 0, 1) := by decide +kernel
theorem dX3_step_35 : decode cX3_step 35 = .ok (.getfield 38, 3) := by decide +kernel
theorem dX3_step_38 : decode cX3_step 38 = .ok (.aload_n 0, 1) := by decide +kernel
theorem dX3_step_39 : decode cX3_step 39 = .ok (.getfield 42, 3) := by decide +kernel
theorem dX3_step_42 : decode cX3_step 42 = .ok (.invokevirtual 98, 3) := by decide +kernel
theorem dX3_step_45 : decode cX3_step 45 = .ok (.putfield 42, 3) := by decide +kernel
theorem dX3_step_48 : decode cX3_step 48 = .ok (.iinc 3 1, 3) := by decide +kernel
theorem dX3_step_51 : decode cX3_step 51 = .ok (.goto (-28), 3) := by decide +kernel
theorem dX3_step_54 : decode cX3_step 54 = .ok (.aload_n 0, 1) := by decide +kernel
theorem dX3_step_55 : decode cX3_step 55 = .ok (.getfield 42, 3) := by decide +kernel
theorem dX3_step_58 : decode cX3_step 58 = .ok (.ireturn, 1) := by decide +kernel
theorem dX3_after_0 : decode cX3_after 0 = .ok (.iload_n 1, 1) := by decide +kernel
theorem dX3_after_1 : decode cX3_after 1 = .ok (.invokestatic 95, 3) := by decide +kernel
theorem dX3_after_4 : decode cX3_after 4 = .ok (.ifCond .eq 30, 3) := by decide +kernel
theorem dX3_after_7 : decode cX3_after 7 = .ok (.aload_n 0, 1) := by decide +kernel
theorem dX3_after_8 : decode cX3_after 8 = .ok (.getfield 10, 3) := by decide +kernel
theorem dX3_after_11 : decode cX3_after 11 = .ok (.iload_n 2, 1) := by decide +kernel
theorem dX3_after_12 : decode cX3_after 12 = .ok (.invokevirtual 87, 3) := by decide +kernel
theorem dX3_after_15 : decode cX3_after 15 = .ok (.ifCond .eq 19, 3) := by decide +kernel
theorem dX3_after_18 : decode cX3_after 18 = .ok (.aload_n 0, 1) := by decide +kernel
theorem dX3_after_19 : decode cX3_after 19 = .ok (.getfield 21, 3) := by decide +kernel
theorem dX3_after_22 : decode cX3_after 22 = .ok (.iload_n 1, 1) := by decide +kernel
theorem dX3_after_23 : decode cX3_after 23 = .ok (.aload_n 0, 1) := by decide +kernel
theorem dX3_after_24 : decode cX3_after 24 = .ok (.getfield 38, 3) := by decide +kernel
theorem dX3_after_27 : decode cX3_after 27 = .ok (.iload_n 2, 1) := by decide +kernel
theorem dX3_after_28 : decode cX3_after 28 = .ok (.invokevirtual 98, 3) := by decide +kernel
theorem dX3_after_31 : decode cX3_after 31 = .ok (.goto 5, 3) := by decide +kernel
theorem dX3_after_34 : decode cX3_after 34 = .ok (.bipush (-2), 2) := by decide +kernel
theorem dX3_after_36 : decode cX3_after 36 = .ok (.ireturn, 1) := by decide +kernel
theorem dX3_goes_0 : decode cX3_goes 0 = .ok (.iload_n 1, 1) := by decide +kernel
theorem dX3_goes_1 : decode cX3_goes 1 = .ok (.invokestatic 95, 3) := by decide +kernel
theorem dX3_goes_4 : decode cX3_goes 4 = .ok (.ifCond .eq 12, 3) := by decide +kernel
theorem dX3_goes_7 : decode cX3_goes 7 = .ok (.iload_n 2, 1) := by decide +kernel
theorem dX3_goes_8 : decode cX3_goes 8 = .ok (.ifCond .lt 8, 3) := by decide +kernel
theorem dX3_goes_11 : decode cX3_goes 11 = .ok (.iload_n 2, 1) := by decide +kernel
theorem dX3_goes_12 : decode cX3_goes 12 = .ok (.iconst 3, 1) := by decide +kernel
theorem dX3_goes_13 : decode cX3_goes 13 = .ok (.if_icmp .le 6, 3) := by decide +kernel
theorem dX3_goes_16 : decode cX3_goes 16 = .ok (.bipush (-2), 2) := by decide +kernel
theorem dX3_goes_18 : decode cX3_goes 18 = .ok (.ireturn, 1) := by decide +kernel
theorem dX3_goes_19 : decode cX3_goes 19 = .ok (.aload_n 0, 1) := by decide +kernel
theorem dX3_goes_20 : decode cX3_goes 20 = .ok (.getfield 30, 3) := by decide +kernel
theorem dX3_goes_23 : decode cX3_goes 23 = .ok (.iload_n 1, 1) := by decide +kernel
theorem dX3_goes_24 : decode cX3_goes 24 = .ok (.aload_n 0, 1) := by decide +kernel
theorem dX3_goes_25 : decode cX3_goes 25 = .ok (.getfield 38, 3) := by decide +kernel
theorem dX3_goes_28 : decode cX3_goes 28 = .ok (.aload_n 0, 1) := by decide +kernel
theorem dX3_goes_29 : decode cX3_goes 29 = .ok (.getfield 42, 3) := by decide +kernel
theorem dX3_goes_32 : decode cX3_goes 32 = .ok (.invokevirtual 101, 3) := by decide +kernel
theorem dX3_goes_35 : decode cX3_goes 35 = .ok (.iload_n 2, 1) := by decide +kernel
theorem dX3_goes_36 : decode cX3_goes 36 = .ok (.tableswitch 74 0 2 #[28, 41, 61], 28) := by decide +kernel
theorem dX3_goes_64 : decode cX3_goes 64 = .ok (.aload_n 0, 1) := by decide +kernel
theorem dX3_goes_65 : decode cX3_goes 65 = .ok (.getfield 30, 3) := by decide +kernel
theorem dX3_goes_68 : decode cX3_goes 68 = .ok (.getfield 104, 3) := by decide +kernel
theorem dX3_goes_71 : decode cX3_goes 71 = .ok (.aload_n 0, 1) := by decide +kernel
theorem dX3_goes_72 : decode cX3_goes 72 = .ok (.getfield 42, 3) := by decide +kernel
theorem dX3_goes_75 : decode cX3_goes 75 = .ok (.iaload, 1) := by decide +kernel
theorem dX3_goes_76 : decode cX3_goes 76 = .ok (.ireturn, 1) := by decide +kernel
theorem dX3_goes_77 : decode cX3_goes 77 = .ok (.aload_n 0, 1) := by decide +kernel
theorem dX3_goes_78 : decode cX3_goes 78 = .ok (.getfield 30, 3) := by decide +kernel
theorem dX3_goes_81 : decode cX3_goes 81 = .ok (.aload_n 0, 1) := by decide +kernel
theorem dX3_goes_82 : decode cX3_goes 82 = .ok (.getfield 30, 3) := by decide +kernel
theorem dX3_goes_85 : decode cX3_goes 85 = .ok (.getfield 107, 3) := by decide +kernel
theorem dX3_goes_88 : decode cX3_goes 88 = .ok (.aload_n 0, 1) := by decide +kernel
theorem dX3_goes_89 : decode cX3_goes 89 = .ok (.getfield 42, 3) := by decide +kernel
theorem dX3_goes_92 : decode cX3_goes 92 = .ok (.iaload, 1) := by decide +kernel
theorem dX3_goes_93 : decode cX3_goes 93 = .ok (.invokevirtual 110, 3) := by decide +kernel
theorem dX3_goes_96 : decode cX3_goes 96 = .ok (.ireturn, 1) := by decide +kernel
theorem dX3_goes_97 : decode cX3_goes 97 = .ok (.aload_n 0, 1) := by decide +kernel
theorem dX3_goes_98 : decode cX3_goes 98 = .ok (.getfield 30, 3) := by decide +kernel
theorem dX3_goes_101 : decode cX3_goes 101 = .ok (.getfield 107, 3) := by decide +kernel
theorem dX3_goes_104 : decode cX3_goes 104 = .ok (.aload_n 0, 1) := by decide +kernel
theorem dX3_goes_105 : decode cX3_goes 105 = .ok (.getfield 42, 3) := by decide +kernel
theorem dX3_goes_108 : decode cX3_goes 108 = .ok (.iaload, 1) := by decide +kernel
theorem dX3_goes_109 : decode cX3_goes 109 = .ok (.ireturn, 1) := by decide +kernel
theorem dX3_goes_110 : decode cX3_goes 110 = .ok (.aload_n 0, 1) := by decide +kernel
theorem dX3_goes_111 : decode cX3_goes 111 = .ok (.getfield 30, 3) := by decide +kernel
theorem dX3_goes_114 : decode cX3_goes 114 = .ok (.aload_n 0, 1) := by decide +kernel
theorem dX3_goes_115 : decode cX3_goes 115 = .ok (.getfield 42, 3) := by decide +kernel
theorem dX3_goes_118 : decode cX3_goes 118 = .ok (.invokevirtual 114, 3) := by decide +kernel
theorem dX3_goes_121 : decode cX3_goes 121 = .ok (.ireturn, 1) := by decide +kernel
theorem dX3_end_0 : decode cX3_end 0 = .ok (.iload_n 1, 1) := by decide +kernel
theorem dX3_end_1 : decode cX3_end 1 = .ok (.invokestatic 95, 3) := by decide +kernel
theorem dX3_end_4 : decode cX3_end 4 = .ok (.ifCond .ne 6, 3) := by decide +kernel
theorem dX3_end_7 : decode cX3_end 7 = .ok (.bipush (-2), 2) := by decide +kernel
theorem dX3_end_9 : decode cX3_end 9 = .ok (.ireturn, 1) := by decide +kernel
theorem dX3_end_10 : decode cX3_end 10 = .ok (.aload_n 0, 1) := by decide +kernel
theorem dX3_end_11 : decode cX3_end 11 = .ok (.getfield 30, 3) := by decide +kernel
theorem dX3_end_14 : decode cX3_end 14 = .ok (.iload_n 1, 1) := by decide +kernel
theorem dX3_end_15 : decode cX3_end 15 = .ok (.aload_n 0, 1) := by decide +kernel
theorem dX3_end_16 : decode cX3_end 16 = .ok (.getfield 38, 3) := by decide +kernel
theorem dX3_end_19 : decode cX3_end 19 = .ok (.aload_n 0, 1) := by decide +kernel
theorem dX3_end_20 : decode cX3_end 20 = .ok (.getfield 42, 3) := by decide +kernel
theorem dX3_end_23 : decode cX3_end 23 = .ok (.invokevirtual 101, 3) := by decide +kernel
theorem dX3_end_26 : decode cX3_end 26 = .ok (.iload_n 2, 1) := by decide +kernel
theorem dX3_end_27 : decode cX3_end 27 = .ok (.iconst (-1), 1) := by decide +kernel
theorem dX3_end_28 : decode cX3_end 28 = .ok (.if_icmp .ne 13, 3) := by decide +kernel
theorem dX3_end_31 : decode cX3_end 31 = .ok (.aload_n 0, 1) := by decide +kernel
theorem dX3_end_32 : decode cX3_end 32 = .ok (.getfield 30, 3) := by decide +kernel
theorem dX3_end_35 : decode cX3_end 35 = .ok (.invokevirtual 117, 3) := by decide +kernel
theorem dX3_end_38 : decode cX3_end 38 = .ok (.goto 11, 3) := by decide +kernel
theorem dX3_end_41 : decode cX3_end 41 = .ok (.aload_n 0, 1) := by decide +kernel
theorem dX3_end_42 : decode cX3_end 42 = .ok (.getfield 30, 3) := by decide +kernel
theorem dX3_end_45 : decode cX3_end 45 = .ok (.iload_n 2, 1) := by decide +kernel
theorem dX3_end_46 : decode cX3_end 46 = .ok (.invokevirtual 121, 3) := by decide +kernel
theorem dX3_end_49 : decode cX3_end 49 = .ok (.ireturn, 1) := by decide +kernel
theorem dX3_basin_0 : decode cX3_basin 0 = .ok (.iload_n 1, 1) := by decide +kernel
theorem dX3_basin_1 : decode cX3_basin 1 = .ok (.invokestatic 95, 3) := by decide +kernel
theorem dX3_basin_4 : decode cX3_basin 4 = .ok (.ifCond .eq 12, 3) := by decide +kernel
theorem dX3_basin_7 : decode cX3_basin 7 = .ok (.iload_n 3, 1) := by decide +kernel
theorem dX3_basin_8 : decode cX3_basin 8 = .ok (.ifCond .lt 8, 3) := by decide +kernel
theorem dX3_basin_11 : decode cX3_basin 11 = .ok (.iload_n 3, 1) := by decide +kernel
theorem dX3_basin_12 : decode cX3_basin 12 = .ok (.iconst 2, 1) := by decide +kernel
theorem dX3_basin_13 : decode cX3_basin 13 = .ok (.if_icmp .le 6, 3) := by decide +kernel
theorem dX3_basin_16 : decode cX3_basin 16 = .ok (.bipush (-2), 2) := by decide +kernel
theorem dX3_basin_18 : decode cX3_basin 18 = .ok (.ireturn, 1) := by decide +kernel
theorem dX3_basin_19 : decode cX3_basin 19 = .ok (.aload_n 0, 1) := by decide +kernel
theorem dX3_basin_20 : decode cX3_basin 20 = .ok (.getfield 30, 3) := by decide +kernel
theorem dX3_basin_23 : decode cX3_basin 23 = .ok (.iload_n 1, 1) := by decide +kernel
theorem dX3_basin_24 : decode cX3_basin 24 = .ok (.aload_n 0, 1) := by decide +kernel
theorem dX3_basin_25 : decode cX3_basin 25 = .ok (.getfield 38, 3) := by decide +kernel
theorem dX3_basin_28 : decode cX3_basin 28 = .ok (.aload_n 0, 1) := by decide +kernel
theorem dX3_basin_29 : decode cX3_basin 29 = .ok (.getfield 42, 3) := by decide +kernel
theorem dX3_basin_32 : decode cX3_basin 32 = .ok (.invokevirtual 101, 3) := by decide +kernel
theorem dX3_basin_35 : decode cX3_basin 35 = .ok (.aload_n 0, 1) := by decide +kernel
theorem dX3_basin_36 : decode cX3_basin 36 = .ok (.getfield 30, 3) := by decide +kernel
theorem dX3_basin_39 : decode cX3_basin 39 = .ok (.iload_n 2, 1) := by decide +kernel
theorem dX3_basin_40 : decode cX3_basin 40 = .ok (.invokevirtual 121, 3) := by decide +kernel
theorem dX3_basin_43 : decode cX3_basin 43 = .ok (.istore 4, 2) := by decide +kernel
theorem dX3_basin_45 : decode cX3_basin 45 = .ok (.iload 4, 2) := by decide +kernel
theorem dX3_basin_47 : decode cX3_basin 47 = .ok (.bipush (-6), 2) := by decide +kernel
theorem dX3_basin_49 : decode cX3_basin 49 = .ok (.if_icmp .ne 6, 3) := by decide +kernel
theorem dX3_basin_52 : decode cX3_basin 52 = .ok (.bipush (-6), 2) := by decide +kernel
theorem dX3_basin_54 : decode cX3_basin 54 = .ok (.ireturn, 1) := by decide +kernel
theorem dX3_basin_55 : decode cX3_basin 55 = .ok (.iload_n 3, 1) := by decide +kernel
theorem dX3_basin_56 : decode cX3_basin 56 = .ok (.lookupswitch 48 #[(0, 28), (1, 38)], 28) := by decide +kernel
theorem dX3_basin_84 : decode cX3_basin 84 = .ok (.aload_n 0, 1) := by decide +kernel
theorem dX3_basin_85 : decode cX3_basin 85 = .ok (.getfield 30, 3) := by decide +kernel
theorem dX3_basin_88 : decode cX3_basin 88 = .ok (.iload 4, 2) := by decide +kernel
theorem dX3_basin_90 : decode cX3_basin 90 = .ok (.invokevirtual 124, 3) := by decide +kernel
theorem dX3_basin_93 : decode cX3_basin 93 = .ok (.ireturn, 1) := by decide +kernel
theorem dX3_basin_94 : decode cX3_basin 94 = .ok (.aload_n 0, 1) := by decide +kernel
theorem dX3_basin_95 : decode cX3_basin 95 = .ok (.getfield 30, 3) := by decide +kernel
theorem dX3_basin_98 : decode cX3_basin 98 = .ok (.iload 4, 2) := by decide +kernel
theorem dX3_basin_100 : decode cX3_basin 100 = .ok (.invokevirtual 110, 3) := by decide +kernel
theorem dX3_basin_103 : decode cX3_basin 103 = .ok (.ireturn, 1) := by decide +kernel
theorem dX3_basin_104 : decode cX3_basin 104 = .ok (.aload_n 0, 1) := by decide +kernel
theorem dX3_basin_105 : decode cX3_basin 105 = .ok (.getfield 30, 3) := by decide +kernel
theorem dX3_basin_108 : decode cX3_basin 108 = .ok (.iload 4, 2) := by decide +kernel
theorem dX3_basin_110 : decode cX3_basin 110 = .ok (.invokevirtual 127, 3) := by decide +kernel
theorem dX3_basin_113 : decode cX3_basin 113 = .ok (.ireturn, 1) := by decide +kernel
theorem dX3_lone_0 : decode cX3_lone 0 = .ok (.iload_n 1, 1) := by decide +kernel
theorem dX3_lone_1 : decode cX3_lone 1 = .ok (.invokestatic 95, 3) := by decide +kernel
theorem dX3_lone_4 : decode cX3_lone 4 = .ok (.ifCond .ne 6, 3) := by decide +kernel
theorem dX3_lone_7 : decode cX3_lone 7 = .ok (.bipush (-2), 2) := by decide +kernel
theorem dX3_lone_9 : decode cX3_lone 9 = .ok (.ireturn, 1) := by decide +kernel
theorem dX3_lone_10 : decode cX3_lone 10 = .ok (.aload_n 0, 1) := by decide +kernel
theorem dX3_lone_11 : decode cX3_lone 11 = .ok (.invokevirtual 130, 3) := by decide +kernel
theorem dX3_lone_14 : decode cX3_lone 14 = .ok (.iconst 0, 1) := by decide +kernel
theorem dX3_lone_15 : decode cX3_lone 15 = .ok (.istore_n 2, 1) := by decide +kernel
theorem dX3_lone_16 : decode cX3_lone 16 = .ok (.iload_n 2, 1) := by decide +kernel
theorem dX3_lone_17 : decode cX3_lone 17 = .ok (.aload_n 0, 1) := by decide +kernel
theorem dX3_lone_18 : decode cX3_lone 18 = .ok (.getfield 10, 3) := by decide +kernel
theorem dX3_lone_21 : decode cX3_lone 21 = .ok (.invokevirtual 133, 3) := by decide +kernel
theorem dX3_lone_24 : decode cX3_lone 24 = .ok (.if_icmp .ge 36, 3) := by decide +kernel
theorem dX3_lone_27 : decode cX3_lone 27 = .ok (.aload_n 0, 1) := by decide +kernel
theorem dX3_lone_28 : decode cX3_lone 28 = .ok (.iload_n 2, 1) := by decide +kernel
theorem dX3_lone_29 : decode cX3_lone 29 = .ok (.invokevirtual 136, 3) := by decide +kernel
theorem dX3_lone_32 : decode cX3_lone 32 = .ok (.ifCond .eq 22, 3) := by decide +kernel
theorem dX3_lone_35 : decode cX3_lone 35 = .ok (.aload_n 0, 1) := by decide +kernel
theorem dX3_lone_36 : decode cX3_lone 36 = .ok (.getfield 34, 3) := by decide +kernel
theorem dX3_lone_39 : decode cX3_lone 39 = .ok (.aload_n 0, 1) := by decide +kernel
theorem dX3_lone_40 : decode cX3_lone 40 = .ok (.getfield 21, 3) := by decide +kernel
theorem dX3_lone_43 : decode cX3_lone 43 = .ok (.iload_n 1, 1) := by decide +kernel
theorem dX3_lone_44 : decode cX3_lone 44 = .ok (.aload_n 0, 1) := by decide +kernel
theorem dX3_lone_45 : decode cX3_lone 45 = .ok (.getfield 38, 3) := by decide +kernel
theorem dX3_lone_48 : decode cX3_lone 48 = .ok (.iload_n 2, 1) := by decide +kernel
theorem dX3_lone_49 : decode cX3_lone 49 = .ok (.invokevirtual 98, 3) := by decide +kernel
theorem dX3_lone_52 : decode cX3_lone 52 = .ok (.iload_n 2, 1) := by decide +kernel
theorem dX3_lone_53 : decode cX3_lone 53 = .ok (.iastore, 1) := by decide +kernel
theorem dX3_lone_54 : decode cX3_lone 54 = .ok (.iinc 2 1, 3) := by decide +kernel
theorem dX3_lone_57 : decode cX3_lone 57 = .ok (.goto (-41), 3) := by decide +kernel
theorem dX3_lone_60 : decode cX3_lone 60 = .ok (.iconst 0, 1) := by decide +kernel
theorem dX3_lone_61 : decode cX3_lone 61 = .ok (.istore_n 2, 1) := by decide +kernel
theorem dX3_lone_62 : decode cX3_lone 62 = .ok (.iconst 0, 1) := by decide +kernel
theorem dX3_lone_63 : decode cX3_lone 63 = .ok (.istore_n 3, 1) := by decide +kernel
theorem dX3_lone_64 : decode cX3_lone 64 = .ok (.iload_n 3, 1) := by decide +kernel
theorem dX3_lone_65 : decode cX3_lone 65 = .ok (.aload_n 0, 1) := by decide +kernel
theorem dX3_lone_66 : decode cX3_lone 66 = .ok (.getfield 10, 3) := by decide +kernel
theorem dX3_lone_69 : decode cX3_lone 69 = .ok (.invokevirtual 133, 3) := by decide +kernel
theorem dX3_lone_72 : decode cX3_lone 72 = .ok (.if_icmp .ge 30, 3) := by decide +kernel
theorem dX3_lone_75 : decode cX3_lone 75 = .ok (.aload_n 0, 1) := by decide +kernel
theorem dX3_lone_76 : decode cX3_lone 76 = .ok (.iload_n 3, 1) := by decide +kernel
theorem dX3_lone_77 : decode cX3_lone 77 = .ok (.invokevirtual 136, 3) := by decide +kernel
theorem dX3_lone_80 : decode cX3_lone 80 = .ok (.ifCond .eq 16, 3) := by decide +kernel
theorem dX3_lone_83 : decode cX3_lone 83 = .ok (.aload_n 0, 1) := by decide +kernel
theorem dX3_lone_84 : decode cX3_lone 84 = .ok (.getfield 34, 3) := by decide +kernel
theorem dX3_lone_87 : decode cX3_lone 87 = .ok (.iload_n 3, 1) := by decide +kernel
theorem dX3_lone_88 : decode cX3_lone 88 = .ok (.iaload, 1) := by decide +kernel
theorem dX3_lone_89 : decode cX3_lone 89 = .ok (.iconst (-1), 1) := by decide +kernel
theorem dX3_lone_90 : decode cX3_lone 90 = .ok (.if_icmp .ne 6, 3) := by decide +kernel
theorem dX3_lone_93 : decode cX3_lone 93 = .ok (.iinc 2 1, 3) := by decide +kernel
theorem dX3_lone_96 : decode cX3_lone 96 = .ok (.iinc 3 1, 3) := by decide +kernel
theorem dX3_lone_99 : decode cX3_lone 99 = .ok (.goto (-35), 3) := by decide +kernel
theorem dX3_lone_102 : decode cX3_lone 102 = .ok (.iload_n 2, 1) := by decide +kernel
theorem dX3_lone_103 : decode cX3_lone 103 = .ok (.ireturn, 1) := by decide +kernel
theorem dX3_before_0 : decode cX3_before 0 = .ok (.iload_n 1, 1) := by decide +kernel
theorem dX3_before_1 : decode cX3_before 1 = .ok (.invokestatic 95, 3) := by decide +kernel
theorem dX3_before_4 : decode cX3_before 4 = .ok (.ifCond .ne 6, 3) := by decide +kernel
theorem dX3_before_7 : decode cX3_before 7 = .ok (.bipush (-2), 2) := by decide +kernel
theorem dX3_before_9 : decode cX3_before 9 = .ok (.ireturn, 1) := by decide +kernel
theorem dX3_before_10 : decode cX3_before 10 = .ok (.iconst 0, 1) := by decide +kernel
theorem dX3_before_11 : decode cX3_before 11 = .ok (.istore_n 3, 1) := by decide +kernel
theorem dX3_before_12 : decode cX3_before 12 = .ok (.iconst 0, 1) := by decide +kernel
theorem dX3_before_13 : decode cX3_before 13 = .ok (.istore 4, 2) := by decide +kernel
theorem dX3_before_15 : decode cX3_before 15 = .ok (.iload 4, 2) := by decide +kernel
theorem dX3_before_17 : decode cX3_before 17 = .ok (.aload_n 0, 1) := by decide +kernel
theorem dX3_before_18 : decode cX3_before 18 = .ok (.getfield 10, 3) := by decide +kernel
theorem dX3_before_21 : decode cX3_before 21 = .ok (.invokevirtual 133, 3) := by decide +kernel
theorem dX3_before_24 : decode cX3_before 24 = .ok (.if_icmp .ge 50, 3) := by decide +kernel
theorem dX3_before_27 : decode cX3_before 27 = .ok (.aload_n 0, 1) := by decide +kernel
theorem dX3_before_28 : decode cX3_before 28 = .ok (.iload 4, 2) := by decide +kernel
theorem dX3_before_30 : decode cX3_before 30 = .ok (.invokevirtual 136, 3) := by decide +kernel
theorem dX3_before_33 : decode cX3_before 33 = .ok (.ifCond .eq 35, 3) := by decide +kernel
theorem dX3_before_36 : decode cX3_before 36 = .ok (.aload_n 0, 1) := by decide +kernel
theorem dX3_before_37 : decode cX3_before 37 = .ok (.getfield 21, 3) := by decide +kernel
theorem dX3_before_40 : decode cX3_before 40 = .ok (.iload_n 1, 1) := by decide +kernel
theorem dX3_before_41 : decode cX3_before 41 = .ok (.aload_n 0, 1) := by decide +kernel
theorem dX3_before_42 : decode cX3_before 42 = .ok (.getfield 38, 3) := by decide +kernel
theorem dX3_before_45 : decode cX3_before 45 = .ok (.iload 4, 2) := by decide +kernel
theorem dX3_before_47 : decode cX3_before 47 = .ok (.invokevirtual 98, 3) := by decide +kernel
theorem dX3_before_50 : decode cX3_before 50 = .ok (.aload_n 0, 1) := by decide +kernel
theorem dX3_before_51 : decode cX3_before 51 = .ok (.getfield 42, 3) := by decide +kernel
theorem dX3_before_54 : decode cX3_before 54 = .ok (.if_icmp .ne 14, 3) := by decide +kernel
theorem dX3_before_57 : decode cX3_before 57 = .ok (.iload_n 3, 1) := by decide +kernel
theorem dX3_before_58 : decode cX3_before 58 = .ok (.iload_n 2, 1) := by decide +kernel
theorem dX3_before_59 : decode cX3_before 59 = .ok (.if_icmp .ne 6, 3) := by decide +kernel
theorem dX3_before_62 : decode cX3_before 62 = .ok (.iload 4, 2) := by decide +kernel
theorem dX3_before_64 : decode cX3_before 64 = .ok (.ireturn, 1) := by decide +kernel
theorem dX3_before_65 : decode cX3_before 65 = .ok (.iinc 3 1, 3) := by decide +kernel
theorem dX3_before_68 : decode cX3_before 68 = .ok (.iinc 4 1, 3) := by decide +kernel
theorem dX3_before_71 : decode cX3_before 71 = .ok (.goto (-56), 3) := by decide +kernel
theorem dX3_before_74 : decode cX3_before 74 = .ok (.iload_n 2, 1) := by decide +kernel
theorem dX3_before_75 : decode cX3_before 75 = .ok (.iconst (-1), 1) := by decide +kernel
theorem dX3_before_76 : decode cX3_before 76 = .ok (.if_icmp .ne 7, 3) := by decide +kernel
theorem dX3_before_79 : decode cX3_before 79 = .ok (.iload_n 3, 1) := by decide +kernel
theorem dX3_before_80 : decode cX3_before 80 = .ok (.goto 5, 3) := by decide +kernel
theorem dX3_before_83 : decode cX3_before 83 = .ok (.bipush (-6), 2) := by decide +kernel
theorem dX3_before_85 : decode cX3_before 85 = .ok (.ireturn, 1) := by decide +kernel
theorem dX3_rise_0 : decode cX3_rise 0 = .ok (.aload_n 0, 1) := by decide +kernel
theorem dX3_rise_1 : decode cX3_rise 1 = .ok (.getfield 10, 3) := by decide +kernel
theorem dX3_rise_4 : decode cX3_rise 4 = .ok (.aload_n 0, 1) := by decide +kernel
theorem dX3_rise_5 : decode cX3_rise 5 = .ok (.getfield 42, 3) := by decide +kernel
theorem dX3_rise_8 : decode cX3_rise 8 = .ok (.invokevirtual 139, 3) := by decide +kernel
theorem dX3_rise_11 : decode cX3_rise 11 = .ok (.ireturn, 1) := by decide +kernel
theorem dX3_highest_0 : decode cX3_highest 0 = .ok (.aload_n 0, 1) := by decide +kernel
theorem dX3_highest_1 : decode cX3_highest 1 = .ok (.getfield 42, 3) := by decide +kernel
theorem dX3_highest_4 : decode cX3_highest 4 = .ok (.istore_n 1, 1) := by decide +kernel
theorem dX3_highest_5 : decode cX3_highest 5 = .ok (.aload_n 0, 1) := by decide +kernel
theorem dX3_highest_6 : decode cX3_highest 6 = .ok (.getfield 10, 3) := by decide +kernel
theorem dX3_highest_9 : decode cX3_highest 9 = .ok (.aload_n 0, 1) := by decide +kernel
theorem dX3_highest_10 : decode cX3_highest 10 = .ok (.getfield 42, 3) := by decide +kernel
theorem dX3_highest_13 : decode cX3_highest 13 = .ok (.invokevirtual 139, 3) := by decide +kernel
theorem dX3_highest_16 : decode cX3_highest 16 = .ok (.istore_n 2, 1) := by decide +kernel
theorem dX3_highest_17 : decode cX3_highest 17 = .ok (.iconst 0, 1) := by decide +kernel
theorem dX3_highest_18 : decode cX3_highest 18 = .ok (.istore_n 3, 1) := by decide +kernel
theorem dX3_highest_19 : decode cX3_highest 19 = .ok (.iload_n 3, 1) := by decide +kernel
theorem dX3_highest_20 : decode cX3_highest 20 = .ok (.aload_n 0, 1) := by decide +kernel
theorem dX3_highest_21 : decode cX3_highest 21 = .ok (.getfield 10, 3) := by decide +kernel
theorem dX3_highest_24 : decode cX3_highest 24 = .ok (.invokevirtual 133, 3) := by decide +kernel
theorem dX3_highest_27 : decode cX3_highest 27 = .ok (.if_icmp .ge 49, 3) := by decide +kernel
theorem dX3_highest_30 : decode cX3_highest 30 = .ok (.aload_n 0, 1) := by decide +kernel
theorem dX3_highest_31 : decode cX3_highest 31 = .ok (.iload_n 3, 1) := by decide +kernel
theorem dX3_highest_32 : decode cX3_highest 32 = .ok (.invokevirtual 136, 3) := by decide +kernel
theorem dX3_highest_35 : decode cX3_highest 35 = .ok (.ifCond .eq 35, 3) := by decide +kernel
theorem dX3_highest_38 : decode cX3_highest 38 = .ok (.aload_n 0, 1) := by decide +kernel
theorem dX3_highest_39 : decode cX3_highest 39 = .ok (.getfield 10, 3) := by decide +kernel
theorem dX3_highest_42 : decode cX3_highest 42 = .ok (.iload_n 3, 1) := by decide +kernel
theorem dX3_highest_43 : decode cX3_highest 43 = .ok (.invokevirtual 139, 3) := by decide +kernel
theorem dX3_highest_46 : decode cX3_highest 46 = .ok (.istore 4, 2) := by decide +kernel
theorem dX3_highest_48 : decode cX3_highest 48 = .ok (.iload 4, 2) := by decide +kernel
theorem dX3_highest_50 : decode cX3_highest 50 = .ok (.iload_n 2, 1) := by decide +kernel
theorem dX3_highest_51 : decode cX3_highest 51 = .ok (.if_icmp .gt 14, 3) := by decide +kernel
theorem dX3_highest_54 : decode cX3_highest 54 = .ok (.iload 4, 2) := by decide +kernel
theorem dX3_highest_56 : decode cX3_highest 56 = .ok (.iload_n 2, 1) := by decide +kernel
theorem dX3_highest_57 : decode cX3_highest 57 = .ok (.if_icmp .ne 13, 3) := by decide +kernel
theorem dX3_highest_60 : decode cX3_highest 60 = .ok (.iload_n 3, 1) := by decide +kernel
theorem dX3_highest_61 : decode cX3_highest 61 = .ok (.iload_n 1, 1) := by decide +kernel
theorem dX3_highest_62 : decode cX3_highest 62 = .ok (.if_icmp .ge 8, 3) := by decide +kernel
theorem dX3_highest_65 : decode cX3_highest 65 = .ok (.iload_n 3, 1) := by decide +kernel
theorem dX3_highest_66 : decode cX3_highest 66 = .ok (.istore_n 1, 1) := by decide +kernel
theorem dX3_highest_67 : decode cX3_highest 67 = .ok (.iload 4, 2) := by decide +kernel
theorem dX3_highest_69 : decode cX3_highest 69 = .ok (.istore_n 2, 1) := by decide +kernel
theorem dX3_highest_70 : decode cX3_highest 70 = .ok (.iinc 3 1, 3) := by decide +kernel
theorem dX3_highest_73 : decode cX3_highest 73 = .ok (.goto (-54), 3) := by decide +kernel
theorem dX3_highest_76 : decode cX3_highest 76 = .ok (.iload_n 1, 1) := by decide +kernel
theorem dX3_highest_77 : decode cX3_highest 77 = .ok (.ireturn, 1) := by decide +kernel
theorem dX3_rests_0 : decode cX3_rests 0 = .ok (.aload_n 0, 1) := by decide +kernel
theorem dX3_rests_1 : decode cX3_rests 1 = .ok (.aload_n 0, 1) := by decide +kernel
theorem dX3_rests_2 : decode cX3_rests 2 = .ok (.getfield 42, 3) := by decide +kernel
theorem dX3_rests_5 : decode cX3_rests 5 = .ok (.invokevirtual 142, 3) := by decide +kernel
theorem dX3_rests_8 : decode cX3_rests 8 = .ok (.ifCond .eq 7, 3) := by decide +kernel
theorem dX3_rests_11 : decode cX3_rests 11 = .ok (.iconst 1, 1) := by decide +kernel
theorem dX3_rests_12 : decode cX3_rests 12 = .ok (.goto 4, 3) := by decide +kernel
theorem dX3_rests_15 : decode cX3_rests 15 = .ok (.iconst 0, 1) := by decide +kernel
theorem dX3_rests_16 : decode cX3_rests 16 = .ok (.ireturn, 1) := by decide +kernel
theorem dX3_restMany_0 : decode cX3_restMany 0 = .ok (.iconst 0, 1) := by decide +kernel
theorem dX3_restMany_1 : decode cX3_restMany 1 = .ok (.istore_n 1, 1) := by decide +kernel
theorem dX3_restMany_2 : decode cX3_restMany 2 = .ok (.iconst 0, 1) := by decide +kernel
theorem dX3_restMany_3 : decode cX3_restMany 3 = .ok (.istore_n 2, 1) := by decide +kernel
theorem dX3_restMany_4 : decode cX3_restMany 4 = .ok (.iload_n 2, 1) := by decide +kernel
theorem dX3_restMany_5 : decode cX3_restMany 5 = .ok (.aload_n 0, 1) := by decide +kernel
theorem dX3_restMany_6 : decode cX3_restMany 6 = .ok (.getfield 10, 3) := by decide +kernel
theorem dX3_restMany_9 : decode cX3_restMany 9 = .ok (.invokevirtual 133, 3) := by decide +kernel
theorem dX3_restMany_12 : decode cX3_restMany 12 = .ok (.if_icmp .ge 28, 3) := by decide +kernel
theorem dX3_restMany_15 : decode cX3_restMany 15 = .ok (.aload_n 0, 1) := by decide +kernel
theorem dX3_restMany_16 : decode cX3_restMany 16 = .ok (.iload_n 2, 1) := by decide +kernel
theorem dX3_restMany_17 : decode cX3_restMany 17 = .ok (.invokevirtual 136, 3) := by decide +kernel
theorem dX3_restMany_20 : decode cX3_restMany 20 = .ok (.ifCond .eq 14, 3) := by decide +kernel
theorem dX3_restMany_23 : decode cX3_restMany 23 = .ok (.aload_n 0, 1) := by decide +kernel
theorem dX3_restMany_24 : decode cX3_restMany 24 = .ok (.iload_n 2, 1) := by decide +kernel
theorem dX3_restMany_25 : decode cX3_restMany 25 = .ok (.invokevirtual 142, 3) := by decide +kernel
theorem dX3_restMany_28 : decode cX3_restMany 28 = .ok (.ifCond .eq 6, 3) := by decide +kernel
theorem dX3_restMany_31 : decode cX3_restMany 31 = .ok (.iinc 1 1, 3) := by decide +kernel
theorem dX3_restMany_34 : decode cX3_restMany 34 = .ok (.iinc 2 1, 3) := by decide +kernel
theorem dX3_restMany_37 : decode cX3_restMany 37 = .ok (.goto (-33), 3) := by decide +kernel
theorem dX3_restMany_40 : decode cX3_restMany 40 = .ok (.iload_n 1, 1) := by decide +kernel
theorem dX3_restMany_41 : decode cX3_restMany 41 = .ok (.ireturn, 1) := by decide +kernel
theorem dX3_tip_0 : decode cX3_tip 0 = .ok (.iload_n 1, 1) := by decide +kernel
theorem dX3_tip_1 : decode cX3_tip 1 = .ok (.invokestatic 95, 3) := by decide +kernel
theorem dX3_tip_4 : decode cX3_tip 4 = .ok (.ifCond .ne 6, 3) := by decide +kernel
theorem dX3_tip_7 : decode cX3_tip 7 = .ok (.bipush (-2), 2) := by decide +kernel
theorem dX3_tip_9 : decode cX3_tip 9 = .ok (.ireturn, 1) := by decide +kernel
theorem dX3_tip_10 : decode cX3_tip 10 = .ok (.aload_n 0, 1) := by decide +kernel
theorem dX3_tip_11 : decode cX3_tip 11 = .ok (.invokevirtual 130, 3) := by decide +kernel
theorem dX3_tip_14 : decode cX3_tip 14 = .ok (.iconst 0, 1) := by decide +kernel
theorem dX3_tip_15 : decode cX3_tip 15 = .ok (.istore_n 2, 1) := by decide +kernel
theorem dX3_tip_16 : decode cX3_tip 16 = .ok (.iload_n 2, 1) := by decide +kernel
theorem dX3_tip_17 : decode cX3_tip 17 = .ok (.aload_n 0, 1) := by decide +kernel
theorem dX3_tip_18 : decode cX3_tip 18 = .ok (.getfield 10, 3) := by decide +kernel
theorem dX3_tip_21 : decode cX3_tip 21 = .ok (.getfield 45, 3) := by decide +kernel
theorem dX3_tip_24 : decode cX3_tip 24 = .ok (.if_icmp .gt 47, 3) := by decide +kernel
theorem dX3_tip_27 : decode cX3_tip 27 = .ok (.iconst 0, 1) := by decide +kernel
theorem dX3_tip_28 : decode cX3_tip 28 = .ok (.istore_n 3, 1) := by decide +kernel
theorem dX3_tip_29 : decode cX3_tip 29 = .ok (.iload_n 3, 1) := by decide +kernel
theorem dX3_tip_30 : decode cX3_tip 30 = .ok (.aload_n 0, 1) := by decide +kernel
theorem dX3_tip_31 : decode cX3_tip 31 = .ok (.getfield 10, 3) := by decide +kernel
theorem dX3_tip_34 : decode cX3_tip 34 = .ok (.invokevirtual 133, 3) := by decide +kernel
theorem dX3_tip_37 : decode cX3_tip 37 = .ok (.if_icmp .ge 28, 3) := by decide +kernel
theorem dX3_tip_40 : decode cX3_tip 40 = .ok (.iload_n 3, 1) := by decide +kernel
theorem dX3_tip_41 : decode cX3_tip 41 = .ok (.invokestatic 145, 3) := by decide +kernel
theorem dX3_tip_44 : decode cX3_tip 44 = .ok (.iload_n 2, 1) := by decide +kernel
theorem dX3_tip_45 : decode cX3_tip 45 = .ok (.if_icmp .ne 14, 3) := by decide +kernel
theorem dX3_tip_48 : decode cX3_tip 48 = .ok (.aload_n 0, 1) := by decide +kernel
theorem dX3_tip_49 : decode cX3_tip 49 = .ok (.iload_n 1, 1) := by decide +kernel
theorem dX3_tip_50 : decode cX3_tip 50 = .ok (.iload_n 3, 1) := by decide +kernel
theorem dX3_tip_51 : decode cX3_tip 51 = .ok (.invokevirtual 150, 3) := by decide +kernel
theorem dX3_tip_54 : decode cX3_tip 54 = .ok (.ifCond .eq 5, 3) := by decide +kernel
theorem dX3_tip_57 : decode cX3_tip 57 = .ok (.iload_n 3, 1) := by decide +kernel
theorem dX3_tip_58 : decode cX3_tip 58 = .ok (.ireturn, 1) := by decide +kernel
theorem dX3_tip_59 : decode cX3_tip 59 = .ok (.iinc 3 1, 3) := by decide +kernel
theorem dX3_tip_62 : decode cX3_tip 62 = .ok (.goto (-33), 3) := by decide +kernel
theorem dX3_tip_65 : decode cX3_tip 65 = .ok (.iinc 2 1, 3) := by decide +kernel
theorem dX3_tip_68 : decode cX3_tip 68 = .ok (.goto (-52), 3) := by decide +kernel
theorem dX3_tip_71 : decode cX3_tip 71 = .ok (.bipush (-6), 2) := by decide +kernel
theorem dX3_tip_73 : decode cX3_tip 73 = .ok (.ireturn, 1) := by decide +kernel
theorem dX3_share_0 : decode cX3_share 0 = .ok (.iload_n 1, 1) := by decide +kernel
theorem dX3_share_1 : decode cX3_share 1 = .ok (.ifCond .eq 11, 3) := by decide +kernel
theorem dX3_share_4 : decode cX3_share 4 = .ok (.iload_n 1, 1) := by decide +kernel
theorem dX3_share_5 : decode cX3_share 5 = .ok (.iconst 1, 1) := by decide +kernel
theorem dX3_share_6 : decode cX3_share 6 = .ok (.if_icmp .eq 6, 3) := by decide +kernel
theorem dX3_share_9 : decode cX3_share 9 = .ok (.bipush (-2), 2) := by decide +kernel
theorem dX3_share_11 : decode cX3_share 11 = .ok (.ireturn, 1) := by decide +kernel
theorem dX3_share_12 : decode cX3_share 12 = .ok (.aload_n 0, 1) := by decide +kernel
theorem dX3_share_13 : decode cX3_share 13 = .ok (.getfield 10, 3) := by decide +kernel
theorem dX3_share_16 : decode cX3_share 16 = .ok (.invokevirtual 153, 3) := by decide +kernel
theorem dX3_share_19 : decode cX3_share 19 = .ok (.istore_n 2, 1) := by decide +kernel
theorem dX3_share_20 : decode cX3_share 20 = .ok (.iload_n 2, 1) := by decide +kernel
theorem dX3_share_21 : decode cX3_share 21 = .ok (.aload_n 0, 1) := by decide +kernel
theorem dX3_share_22 : decode cX3_share 22 = .ok (.getfield 10, 3) := by decide +kernel
theorem dX3_share_25 : decode cX3_share 25 = .ok (.invokevirtual 156, 3) := by decide +kernel
theorem dX3_share_28 : decode cX3_share 28 = .ok (.iadd, 1) := by decide +kernel
theorem dX3_share_29 : decode cX3_share 29 = .ok (.istore_n 3, 1) := by decide +kernel
theorem dX3_share_30 : decode cX3_share 30 = .ok (.iload_n 3, 1) := by decide +kernel
theorem dX3_share_31 : decode cX3_share 31 = .ok (.ifCond .le 12, 3) := by decide +kernel
theorem dX3_share_34 : decode cX3_share 34 = .ok (.iload_n 2, 1) := by decide +kernel
theorem dX3_share_35 : decode cX3_share 35 = .ok (.ifCond .lt 8, 3) := by decide +kernel
theorem dX3_share_38 : decode cX3_share 38 = .ok (.iload_n 2, 1) := by decide +kernel
theorem dX3_share_39 : decode cX3_share 39 = .ok (.iload_n 3, 1) := by decide +kernel
theorem dX3_share_40 : decode cX3_share 40 = .ok (.if_icmp .le 6, 3) := by decide +kernel
theorem dX3_share_43 : decode cX3_share 43 = .ok (.bipush (-3), 2) := by decide +kernel
theorem dX3_share_45 : decode cX3_share 45 = .ok (.ireturn, 1) := by decide +kernel
theorem dX3_share_46 : decode cX3_share 46 = .ok (.iload_n 3, 1) := by decide +kernel
theorem dX3_share_47 : decode cX3_share 47 = .ok (.iload_n 2, 1) := by decide +kernel
theorem dX3_share_48 : decode cX3_share 48 = .ok (.invokestatic 159, 3) := by decide +kernel
theorem dX3_share_51 : decode cX3_share 51 = .ok (.istore 4, 2) := by decide +kernel
theorem dX3_share_53 : decode cX3_share 53 = .ok (.iload 4, 2) := by decide +kernel
theorem dX3_share_55 : decode cX3_share 55 = .ok (.iconst 1, 1) := by decide +kernel
theorem dX3_share_56 : decode cX3_share 56 = .ok (.if_icmp .ge 8, 3) := by decide +kernel
theorem dX3_share_59 : decode cX3_share 59 = .ok (.bipush (-3), 2) := by decide +kernel
theorem dX3_share_61 : decode cX3_share 61 = .ok (.goto 15, 3) := by decide +kernel
theorem dX3_share_64 : decode cX3_share 64 = .ok (.iload_n 1, 1) := by decide +kernel
theorem dX3_share_65 : decode cX3_share 65 = .ok (.ifCond .ne 7, 3) := by decide +kernel
theorem dX3_share_68 : decode cX3_share 68 = .ok (.iload_n 2, 1) := by decide +kernel
theorem dX3_share_69 : decode cX3_share 69 = .ok (.goto 4, 3) := by decide +kernel
theorem dX3_share_72 : decode cX3_share 72 = .ok (.iload_n 3, 1) := by decide +kernel
theorem dX3_share_73 : decode cX3_share 73 = .ok (.iload 4, 2) := by decide +kernel
theorem dX3_share_75 : decode cX3_share 75 = .ok (.idiv, 1) := by decide +kernel
theorem dX3_share_76 : decode cX3_share 76 = .ok (.ireturn, 1) := by decide +kernel
theorem dX3_hangs_0 : decode cX3_hangs 0 = .ok (.aload_n 0, 1) := by decide +kernel
theorem dX3_hangs_1 : decode cX3_hangs 1 = .ok (.getfield 10, 3) := by decide +kernel
theorem dX3_hangs_4 : decode cX3_hangs 4 = .ok (.iload_n 1, 1) := by decide +kernel
theorem dX3_hangs_5 : decode cX3_hangs 5 = .ok (.invokevirtual 87, 3) := by decide +kernel
theorem dX3_hangs_8 : decode cX3_hangs 8 = .ok (.ifCond .eq 14, 3) := by decide +kernel
theorem dX3_hangs_11 : decode cX3_hangs 11 = .ok (.iload_n 2, 1) := by decide +kernel
theorem dX3_hangs_12 : decode cX3_hangs 12 = .ok (.iconst 1, 1) := by decide +kernel
theorem dX3_hangs_13 : decode cX3_hangs 13 = .ok (.if_icmp .lt 9, 3) := by decide +kernel
theorem dX3_hangs_16 : decode cX3_hangs 16 = .ok (.iload_n 2, 1) := by decide +kernel
theorem dX3_hangs_17 : decode cX3_hangs 17 = .ok (.bipush 100, 2) := by decide +kernel
theorem dX3_hangs_19 : decode cX3_hangs 19 = .ok (.if_icmp .le 6, 3) := by decide +kernel
theorem dX3_hangs_22 : decode cX3_hangs 22 = .ok (.bipush (-2), 2) := by decide +kernel
theorem dX3_hangs_24 : decode cX3_hangs 24 = .ok (.ireturn, 1) := by decide +kernel
theorem dX3_hangs_25 : decode cX3_hangs 25 = .ok (.iconst 0, 1) := by decide +kernel
theorem dX3_hangs_26 : decode cX3_hangs 26 = .ok (.istore_n 3, 1) := by decide +kernel
theorem dX3_hangs_27 : decode cX3_hangs 27 = .ok (.iload_n 3, 1) := by decide +kernel
theorem dX3_hangs_28 : decode cX3_hangs 28 = .ok (.aload_n 0, 1) := by decide +kernel
theorem dX3_hangs_29 : decode cX3_hangs 29 = .ok (.getfield 10, 3) := by decide +kernel
theorem dX3_hangs_32 : decode cX3_hangs 32 = .ok (.getfield 45, 3) := by decide +kernel
theorem dX3_hangs_35 : decode cX3_hangs 35 = .ok (.if_icmp .ge 33, 3) := by decide +kernel
theorem dX3_hangs_38 : decode cX3_hangs 38 = .ok (.iload_n 3, 1) := by decide +kernel
theorem dX3_hangs_39 : decode cX3_hangs 39 = .ok (.iload_n 1, 1) := by decide +kernel
theorem dX3_hangs_40 : decode cX3_hangs 40 = .ok (.invokestatic 84, 3) := by decide +kernel
theorem dX3_hangs_43 : decode cX3_hangs 43 = .ok (.iconst 1, 1) := by decide +kernel
theorem dX3_hangs_44 : decode cX3_hangs 44 = .ok (.if_icmp .ne 18, 3) := by decide +kernel
theorem dX3_hangs_47 : decode cX3_hangs 47 = .ok (.aload_n 0, 1) := by decide +kernel
theorem dX3_hangs_48 : decode cX3_hangs 48 = .ok (.getfield 10, 3) := by decide +kernel
theorem dX3_hangs_51 : decode cX3_hangs 51 = .ok (.iload_n 3, 1) := by decide +kernel
theorem dX3_hangs_52 : decode cX3_hangs 52 = .ok (.iload_n 1, 1) := by decide +kernel
theorem dX3_hangs_53 : decode cX3_hangs 53 = .ok (.iload_n 2, 1) := by decide +kernel
theorem dX3_hangs_54 : decode cX3_hangs 54 = .ok (.invokevirtual 162, 3) := by decide +kernel
theorem dX3_hangs_57 : decode cX3_hangs 57 = .ok (.ifCond .ne 5, 3) := by decide +kernel
theorem dX3_hangs_60 : decode cX3_hangs 60 = .ok (.iconst 0, 1) := by decide +kernel
theorem dX3_hangs_61 : decode cX3_hangs 61 = .ok (.ireturn, 1) := by decide +kernel
theorem dX3_hangs_62 : decode cX3_hangs 62 = .ok (.iinc 3 1, 3) := by decide +kernel
theorem dX3_hangs_65 : decode cX3_hangs 65 = .ok (.goto (-38), 3) := by decide +kernel
theorem dX3_hangs_68 : decode cX3_hangs 68 = .ok (.iconst 1, 1) := by decide +kernel
theorem dX3_hangs_69 : decode cX3_hangs 69 = .ok (.ireturn, 1) := by decide +kernel
theorem dX3_told_0 : decode cX3_told 0 = .ok (.iload_n 1, 1) := by decide +kernel
theorem dX3_told_1 : decode cX3_told 1 = .ok (.tableswitch 69 0 4 #[35, 43, 51, 56, 61], 35) := by decide +kernel
theorem dX3_told_36 : decode cX3_told 36 = .ok (.aload_n 0, 1) := by decide +kernel
theorem dX3_told_37 : decode cX3_told 37 = .ok (.getfield 10, 3) := by decide +kernel
theorem dX3_told_40 : decode cX3_told 40 = .ok (.getfield 45, 3) := by decide +kernel
theorem dX3_told_43 : decode cX3_told 43 = .ok (.ireturn, 1) := by decide +kernel
theorem dX3_told_44 : decode cX3_told 44 = .ok (.aload_n 0, 1) := by decide +kernel
theorem dX3_told_45 : decode cX3_told 45 = .ok (.getfield 10, 3) := by decide +kernel
theorem dX3_told_48 : decode cX3_told 48 = .ok (.invokevirtual 166, 3) := by decide +kernel
theorem dX3_told_51 : decode cX3_told 51 = .ok (.ireturn, 1) := by decide +kernel
theorem dX3_told_52 : decode cX3_told 52 = .ok (.aload_n 0, 1) := by decide +kernel
theorem dX3_told_53 : decode cX3_told 53 = .ok (.getfield 38, 3) := by decide +kernel
theorem dX3_told_56 : decode cX3_told 56 = .ok (.ireturn, 1) := by decide +kernel
theorem dX3_told_57 : decode cX3_told 57 = .ok (.aload_n 0, 1) := by decide +kernel
theorem dX3_told_58 : decode cX3_told 58 = .ok (.getfield 42, 3) := by decide +kernel
theorem dX3_told_61 : decode cX3_told 61 = .ok (.ireturn, 1) := by decide +kernel
theorem dX3_told_62 : decode cX3_told 62 = .ok (.aload_n 0, 1) := by decide +kernel
theorem dX3_told_63 : decode cX3_told 63 = .ok (.getfield 10, 3) := by decide +kernel
theorem dX3_told_66 : decode cX3_told 66 = .ok (.getfield 78, 3) := by decide +kernel
theorem dX3_told_69 : decode cX3_told 69 = .ok (.ireturn, 1) := by decide +kernel
theorem dX3_told_70 : decode cX3_told 70 = .ok (.aload_n 0, 1) := by decide +kernel
theorem dX3_told_71 : decode cX3_told 71 = .ok (.iload_n 1, 1) := by decide +kernel
theorem dX3_told_72 : decode cX3_told 72 = .ok (.invokevirtual 169, 3) := by decide +kernel
theorem dX3_told_75 : decode cX3_told 75 = .ok (.ireturn, 1) := by decide +kernel
theorem dX3_toldPay_0 : decode cX3_toldPay 0 = .ok (.iload_n 1, 1) := by decide +kernel
theorem dX3_toldPay_1 : decode cX3_toldPay 1 = .ok (.bipush 10, 2) := by decide +kernel
theorem dX3_toldPay_3 : decode cX3_toldPay 3 = .ok (.if_icmp .lt 9, 3) := by decide +kernel
theorem dX3_toldPay_6 : decode cX3_toldPay 6 = .ok (.iload_n 1, 1) := by decide +kernel
theorem dX3_toldPay_7 : decode cX3_toldPay 7 = .ok (.bipush 13, 2) := by decide +kernel
theorem dX3_toldPay_9 : decode cX3_toldPay 9 = .ok (.if_icmp .le 6, 3) := by decide +kernel
theorem dX3_toldPay_12 : decode cX3_toldPay 12 = .ok (.ldc 71, 2) := by decide +kernel
theorem dX3_toldPay_14 : decode cX3_toldPay 14 = .ok (.ireturn, 1) := by decide +kernel
theorem dX3_toldPay_15 : decode cX3_toldPay 15 = .ok (.iload_n 1, 1) := by decide +kernel
theorem dX3_toldPay_16 : decode cX3_toldPay 16 = .ok (.bipush 10, 2) := by decide +kernel
theorem dX3_toldPay_18 : decode cX3_toldPay 18 = .ok (.isub, 1) := by decide +kernel
theorem dX3_toldPay_19 : decode cX3_toldPay 19 = .ok (.istore_n 2, 1) := by decide +kernel
theorem dX3_toldPay_20 : decode cX3_toldPay 20 = .ok (.aload_n 0, 1) := by decide +kernel
theorem dX3_toldPay_21 : decode cX3_toldPay 21 = .ok (.getfield 10, 3) := by decide +kernel
theorem dX3_toldPay_24 : decode cX3_toldPay 24 = .ok (.iload_n 2, 1) := by decide +kernel
theorem dX3_toldPay_25 : decode cX3_toldPay 25 = .ok (.iconst 1, 1) := by decide +kernel
theorem dX3_toldPay_26 : decode cX3_toldPay 26 = .ok (.ishr, 1) := by decide +kernel
theorem dX3_toldPay_27 : decode cX3_toldPay 27 = .ok (.iload_n 2, 1) := by decide +kernel
theorem dX3_toldPay_28 : decode cX3_toldPay 28 = .ok (.iconst 1, 1) := by decide +kernel
theorem dX3_toldPay_29 : decode cX3_toldPay 29 = .ok (.iand, 1) := by decide +kernel
theorem dX3_toldPay_30 : decode cX3_toldPay 30 = .ok (.invokevirtual 72, 3) := by decide +kernel
theorem dX3_toldPay_33 : decode cX3_toldPay 33 = .ok (.ireturn, 1) := by decide +kernel
theorem dX3_forgetMoves_0 : decode cX3_forgetMoves 0 = .ok (.aload_n 0, 1) := by decide +kernel
theorem dX3_forgetMoves_1 : decode cX3_forgetMoves 1 = .ok (.getfield 21, 3) := by decide +kernel
theorem dX3_forgetMoves_4 : decode cX3_forgetMoves 4 = .ok (.invokevirtual 172, 3) := by decide +kernel
theorem dX3_forgetMoves_7 : decode cX3_forgetMoves 7 = .ok (.aload_n 0, 1) := by decide +kernel
theorem dX3_forgetMoves_8 : decode cX3_forgetMoves 8 = .ok (.getfield 30, 3) := by decide +kernel
theorem dX3_forgetMoves_11 : decode cX3_forgetMoves 11 = .ok (.invokevirtual 175, 3) := by decide +kernel
theorem dX3_forgetMoves_14 : decode cX3_forgetMoves 14 = .ok (.return_, 1) := by decide +kernel
theorem dX3_clearMarks_0 : decode cX3_clearMarks 0 = .ok (.iconst 0, 1) := by decide +kernel
theorem dX3_clearMarks_1 : decode cX3_clearMarks 1 = .ok (.istore_n 1, 1) := by decide +kernel
theorem dX3_clearMarks_2 : decode cX3_clearMarks 2 = .ok (.iload_n 1, 1) := by decide +kernel
theorem dX3_clearMarks_3 : decode cX3_clearMarks 3 = .ok (.aload_n 0, 1) := by decide +kernel
theorem dX3_clearMarks_4 : decode cX3_clearMarks 4 = .ok (.getfield 10, 3) := by decide +kernel
theorem dX3_clearMarks_7 : decode cX3_clearMarks 7 = .ok (.invokevirtual 133, 3) := by decide +kernel
theorem dX3_clearMarks_10 : decode cX3_clearMarks 10 = .ok (.if_icmp .ge 16, 3) := by decide +kernel
theorem dX3_clearMarks_13 : decode cX3_clearMarks 13 = .ok (.aload_n 0, 1) := by decide +kernel
theorem dX3_clearMarks_14 : decode cX3_clearMarks 14 = .ok (.getfield 34, 3) := by decide +kernel
theorem dX3_clearMarks_17 : decode cX3_clearMarks 17 = .ok (.iload_n 1, 1) := by decide +kernel
theorem dX3_clearMarks_18 : decode cX3_clearMarks 18 = .ok (.iconst (-1), 1) := by decide +kernel
theorem dX3_clearMarks_19 : decode cX3_clearMarks 19 = .ok (.iastore, 1) := by decide +kernel
theorem dX3_clearMarks_20 : decode cX3_clearMarks 20 = .ok (.iinc 1 1, 3) := by decide +kernel
theorem dX3_clearMarks_23 : decode cX3_clearMarks 23 = .ok (.goto (-21), 3) := by decide +kernel
theorem dX3_clearMarks_26 : decode cX3_clearMarks 26 = .ok (.return_, 1) := by decide +kernel
theorem dX3_isBeginning_0 : decode cX3_isBeginning 0 = .ok (.iload_n 1, 1) := by decide +kernel
theorem dX3_isBeginning_1 : decode cX3_isBeginning 1 = .ok (.aload_n 0, 1) := by decide +kernel
theorem dX3_isBeginning_2 : decode cX3_isBeginning 2 = .ok (.getfield 42, 3) := by decide +kernel
theorem dX3_isBeginning_5 : decode cX3_isBeginning 5 = .ok (.ixor, 1) := by decide +kernel
theorem dX3_isBeginning_6 : decode cX3_isBeginning 6 = .ok (.aload_n 0, 1) := by decide +kernel
theorem dX3_isBeginning_7 : decode cX3_isBeginning 7 = .ok (.getfield 38, 3) := by decide +kernel
theorem dX3_isBeginning_10 : decode cX3_isBeginning 10 = .ok (.iand, 1) := by decide +kernel
theorem dX3_isBeginning_11 : decode cX3_isBeginning 11 = .ok (.ifCond .ne 7, 3) := by decide +kernel
theorem dX3_isBeginning_14 : decode cX3_isBeginning 14 = .ok (.iconst 1, 1) := by decide +kernel
theorem dX3_isBeginning_15 : decode cX3_isBeginning 15 = .ok (.goto 4, 3) := by decide +kernel
theorem dX3_isBeginning_18 : decode cX3_isBeginning 18 = .ok (.iconst 0, 1) := by decide +kernel
theorem dX3_isBeginning_19 : decode cX3_isBeginning 19 = .ok (.ireturn, 1) := by decide +kernel
theorem dX3_isAtRest_0 : decode cX3_isAtRest 0 = .ok (.aload_n 0, 1) := by decide +kernel
theorem dX3_isAtRest_1 : decode cX3_isAtRest 1 = .ok (.getfield 21, 3) := by decide +kernel
theorem dX3_isAtRest_4 : decode cX3_isAtRest 4 = .ok (.iconst 0, 1) := by decide +kernel
theorem dX3_isAtRest_5 : decode cX3_isAtRest 5 = .ok (.aload_n 0, 1) := by decide +kernel
theorem dX3_isAtRest_6 : decode cX3_isAtRest 6 = .ok (.getfield 38, 3) := by decide +kernel
theorem dX3_isAtRest_9 : decode cX3_isAtRest 9 = .ok (.iload_n 1, 1) := by decide +kernel
theorem dX3_isAtRest_10 : decode cX3_isAtRest 10 = .ok (.invokevirtual 98, 3) := by decide +kernel
theorem dX3_isAtRest_13 : decode cX3_isAtRest 13 = .ok (.iload_n 1, 1) := by decide +kernel
theorem dX3_isAtRest_14 : decode cX3_isAtRest 14 = .ok (.if_icmp .ne 7, 3) := by decide +kernel
theorem dX3_isAtRest_17 : decode cX3_isAtRest 17 = .ok (.iconst 1, 1) := by decide +kernel
theorem dX3_isAtRest_18 : decode cX3_isAtRest 18 = .ok (.goto 4, 3) := by decide +kernel
theorem dX3_isAtRest_21 : decode cX3_isAtRest 21 = .ok (.iconst 0, 1) := by decide +kernel
theorem dX3_isAtRest_22 : decode cX3_isAtRest 22 = .ok (.ireturn, 1) := by decide +kernel
theorem dX3_tipsAll_0 : decode cX3_tipsAll 0 = .ok (.aload_n 0, 1) := by decide +kernel
theorem dX3_tipsAll_1 : decode cX3_tipsAll 1 = .ok (.getfield 10, 3) := by decide +kernel
theorem dX3_tipsAll_4 : decode cX3_tipsAll 4 = .ok (.invokevirtual 133, 3) := by decide +kernel
theorem dX3_tipsAll_7 : decode cX3_tipsAll 7 = .ok (.iconst 1, 1) := by decide +kernel
theorem dX3_tipsAll_8 : decode cX3_tipsAll 8 = .ok (.isub, 1) := by decide +kernel
theorem dX3_tipsAll_9 : decode cX3_tipsAll 9 = .ok (.istore_n 3, 1) := by decide +kernel
theorem dX3_tipsAll_10 : decode cX3_tipsAll 10 = .ok (.iload_n 2, 1) := by decide +kernel
theorem dX3_tipsAll_11 : decode cX3_tipsAll 11 = .ok (.istore 4, 2) := by decide +kernel
theorem dX3_tipsAll_13 : decode cX3_tipsAll 13 = .ok (.iconst 0, 1) := by decide +kernel
theorem dX3_tipsAll_14 : decode cX3_tipsAll 14 = .ok (.istore 5, 2) := by decide +kernel
theorem dX3_tipsAll_16 : decode cX3_tipsAll 16 = .ok (.iload 5, 2) := by decide +kernel
theorem dX3_tipsAll_18 : decode cX3_tipsAll 18 = .ok (.sipush 1024, 3) := by decide +kernel
theorem dX3_tipsAll_21 : decode cX3_tipsAll 21 = .ok (.if_icmp .gt 49, 3) := by decide +kernel
theorem dX3_tipsAll_24 : decode cX3_tipsAll 24 = .ok (.aload_n 0, 1) := by decide +kernel
theorem dX3_tipsAll_25 : decode cX3_tipsAll 25 = .ok (.getfield 34, 3) := by decide +kernel
theorem dX3_tipsAll_28 : decode cX3_tipsAll 28 = .ok (.iload 4, 2) := by decide +kernel
theorem dX3_tipsAll_30 : decode cX3_tipsAll 30 = .ok (.iaload, 1) := by decide +kernel
theorem dX3_tipsAll_31 : decode cX3_tipsAll 31 = .ok (.iload_n 2, 1) := by decide +kernel
theorem dX3_tipsAll_32 : decode cX3_tipsAll 32 = .ok (.if_icmp .eq 38, 3) := by decide +kernel
theorem dX3_tipsAll_35 : decode cX3_tipsAll 35 = .ok (.iload 4, 2) := by decide +kernel
theorem dX3_tipsAll_37 : decode cX3_tipsAll 37 = .ok (.iload_n 3, 1) := by decide +kernel
theorem dX3_tipsAll_38 : decode cX3_tipsAll 38 = .ok (.if_icmp .ne 5, 3) := by decide +kernel
theorem dX3_tipsAll_41 : decode cX3_tipsAll 41 = .ok (.iconst 1, 1) := by decide +kernel
theorem dX3_tipsAll_42 : decode cX3_tipsAll 42 = .ok (.ireturn, 1) := by decide +kernel
theorem dX3_tipsAll_43 : decode cX3_tipsAll 43 = .ok (.aload_n 0, 1) := by decide +kernel
theorem dX3_tipsAll_44 : decode cX3_tipsAll 44 = .ok (.getfield 34, 3) := by decide +kernel
theorem dX3_tipsAll_47 : decode cX3_tipsAll 47 = .ok (.iload 4, 2) := by decide +kernel
theorem dX3_tipsAll_49 : decode cX3_tipsAll 49 = .ok (.iload_n 2, 1) := by decide +kernel
theorem dX3_tipsAll_50 : decode cX3_tipsAll 50 = .ok (.iastore, 1) := by decide +kernel
theorem dX3_tipsAll_51 : decode cX3_tipsAll 51 = .ok (.aload_n 0, 1) := by decide +kernel
theorem dX3_tipsAll_52 : decode cX3_tipsAll 52 = .ok (.getfield 21, 3) := by decide +kernel
theorem dX3_tipsAll_55 : decode cX3_tipsAll 55 = .ok (.iload_n 1, 1) := by decide +kernel
theorem dX3_tipsAll_56 : decode cX3_tipsAll 56 = .ok (.iload_n 2, 1) := by decide +kernel
theorem dX3_tipsAll_57 : decode cX3_tipsAll 57 = .ok (.iload 4, 2) := by decide +kernel
theorem dX3_tipsAll_59 : decode cX3_tipsAll 59 = .ok (.invokevirtual 98, 3) := by decide +kernel
theorem dX3_tipsAll_62 : decode cX3_tipsAll 62 = .ok (.istore 4, 2) := by decide +kernel
theorem dX3_tipsAll_64 : decode cX3_tipsAll 64 = .ok (.iinc 5 1, 3) := by decide +kernel
theorem dX3_tipsAll_67 : decode cX3_tipsAll 67 = .ok (.goto (-51), 3) := by decide +kernel
theorem dX3_tipsAll_70 : decode cX3_tipsAll 70 = .ok (.iconst 0, 1) := by decide +kernel
theorem dX3_tipsAll_71 : decode cX3_tipsAll 71 = .ok (.ireturn, 1) := by decide +kernel
theorem dX3_isRule_0 : decode cX3_isRule 0 = .ok (.iload_n 0, 1) := by decide +kernel
theorem dX3_isRule_1 : decode cX3_isRule 1 = .ok (.ifCond .lt 12, 3) := by decide +kernel
theorem dX3_isRule_4 : decode cX3_isRule 4 = .ok (.iload_n 0, 1) := by decide +kernel
theorem dX3_isRule_5 : decode cX3_isRule 5 = .ok (.iconst 3, 1) := by decide +kernel
theorem dX3_isRule_6 : decode cX3_isRule 6 = .ok (.if_icmp .gt 7, 3) := by decide +kernel
theorem dX3_isRule_9 : decode cX3_isRule 9 = .ok (.iconst 1, 1) := by decide +kernel
theorem dX3_isRule_10 : decode cX3_isRule 10 = .ok (.goto 4, 3) := by decide +kernel
theorem dX3_isRule_13 : decode cX3_isRule 13 = .ok (.iconst 0, 1) := by decide +kernel
theorem dX3_isRule_14 : decode cX3_isRule 14 = .ok (.ireturn, 1) := by decide +kernel
theorem dX3_isWay_0 : decode cX3_isWay 0 = .ok (.iload_n 0, 1) := by decide +kernel
theorem dX3_isWay_1 : decode cX3_isWay 1 = .ok (.ifCond .eq 8, 3) := by decide +kernel
theorem dX3_isWay_4 : decode cX3_isWay 4 = .ok (.iload_n 0, 1) := by decide +kernel
theorem dX3_isWay_5 : decode cX3_isWay 5 = .ok (.iconst 1, 1) := by decide +kernel
theorem dX3_isWay_6 : decode cX3_isWay 6 = .ok (.if_icmp .ne 7, 3) := by decide +kernel
theorem dX3_isWay_9 : decode cX3_isWay 9 = .ok (.iconst 1, 1) := by decide +kernel
theorem dX3_isWay_10 : decode cX3_isWay 10 = .ok (.goto 4, 3) := by decide +kernel
theorem dX3_isWay_13 : decode cX3_isWay 13 = .ok (.iconst 0, 1) := by decide +kernel
theorem dX3_isWay_14 : decode cX3_isWay 14 = .ok (.ireturn, 1) := by decide +kernel
theorem dX3_bitOf_0 : decode cX3_bitOf 0 = .ok (.iload_n 1, 1) := by decide +kernel
theorem dX3_bitOf_1 : decode cX3_bitOf 1 = .ok (.iload_n 0, 1) := by decide +kernel
theorem dX3_bitOf_2 : decode cX3_bitOf 2 = .ok (.ishr, 1) := by decide +kernel
theorem dX3_bitOf_3 : decode cX3_bitOf 3 = .ok (.iconst 1, 1) := by decide +kernel
theorem dX3_bitOf_4 : decode cX3_bitOf 4 = .ok (.iand, 1) := by decide +kernel
theorem dX3_bitOf_5 : decode cX3_bitOf 5 = .ok (.ireturn, 1) := by decide +kernel
theorem dX3_commonDivisor_0 : decode cX3_commonDivisor 0 = .ok (.iload_n 0, 1) := by decide +kernel
theorem dX3_commonDivisor_1 : decode cX3_commonDivisor 1 = .ok (.istore_n 2, 1) := by decide +kernel
theorem dX3_commonDivisor_2 : decode cX3_commonDivisor 2 = .ok (.iload_n 1, 1) := by decide +kernel
theorem dX3_commonDivisor_3 : decode cX3_commonDivisor 3 = .ok (.istore_n 3, 1) := by decide +kernel
theorem dX3_commonDivisor_4 : decode cX3_commonDivisor 4 = .ok (.iconst 0, 1) := by decide +kernel
theorem dX3_commonDivisor_5 : decode cX3_commonDivisor 5 = .ok (.istore 4, 2) := by decide +kernel
theorem dX3_commonDivisor_7 : decode cX3_commonDivisor 7 = .ok (.iload 4, 2) := by decide +kernel
theorem dX3_commonDivisor_9 : decode cX3_commonDivisor 9 = .ok (.bipush 100, 2) := by decide +kernel
theorem dX3_commonDivisor_11 : decode cX3_commonDivisor 11 = .ok (.if_icmp .ge 23, 3) := by decide +kernel
theorem dX3_commonDivisor_14 : decode cX3_commonDivisor 14 = .ok (.iload_n 3, 1) := by decide +kernel
theorem dX3_commonDivisor_15 : decode cX3_commonDivisor 15 = .ok (.ifCond .eq 19, 3) := by decide +kernel
theorem dX3_commonDivisor_18 : decode cX3_commonDivisor 18 = .ok (.iload_n 2, 1) := by decide +kernel
theorem dX3_commonDivisor_19 : decode cX3_commonDivisor 19 = .ok (.iload_n 3, 1) := by decide +kernel
theorem dX3_commonDivisor_20 : decode cX3_commonDivisor 20 = .ok (.irem, 1) := by decide +kernel
theorem dX3_commonDivisor_21 : decode cX3_commonDivisor 21 = .ok (.istore 5, 2) := by decide +kernel
theorem dX3_commonDivisor_23 : decode cX3_commonDivisor 23 = .ok (.iload_n 3, 1) := by decide +kernel
theorem dX3_commonDivisor_24 : decode cX3_commonDivisor 24 = .ok (.istore_n 2, 1) := by decide +kernel
theorem dX3_commonDivisor_25 : decode cX3_commonDivisor 25 = .ok (.iload 5, 2) := by decide +kernel
theorem dX3_commonDivisor_27 : decode cX3_commonDivisor 27 = .ok (.istore_n 3, 1) := by decide +kernel
theorem dX3_commonDivisor_28 : decode cX3_commonDivisor 28 = .ok (.iinc 4 1, 3) := by decide +kernel
theorem dX3_commonDivisor_31 : decode cX3_commonDivisor 31 = .ok (.goto (-24), 3) := by decide +kernel
theorem dX3_commonDivisor_34 : decode cX3_commonDivisor 34 = .ok (.iload_n 2, 1) := by decide +kernel
theorem dX3_commonDivisor_35 : decode cX3_commonDivisor 35 = .ok (.ireturn, 1) := by decide +kernel
end
section
theorem dX4_init_0 : decode cX4_init 0 = .ok (.aload_n 0, 1) := by decide +kernel
theorem dX4_init_1 : decode cX4_init 1 = .ok (.invokespecial 1, 3) := by decide +kernel
theorem dX4_init_4 : decode cX4_init 4 = .ok (.aload_n 0, 1) := by decide +kernel
theorem dX4_init_5 : decode cX4_init 5 = .ok (.iconst 4, 1) := by decide +kernel
theorem dX4_init_6 : decode cX4_init 6 = .ok (.putfield 7, 3) := by decide +kernel
theorem dX4_init_9 : decode cX4_init 9 = .ok (.aload_n 0, 1) := by decide +kernel
theorem dX4_init_10 : decode cX4_init 10 = .ok (.bipush 100, 2) := by decide +kernel
theorem dX4_init_12 : decode cX4_init 12 = .ok (.newarray .int, 2) := by decide +kernel
theorem dX4_init_14 : decode cX4_init 14 = .ok (.putfield 13, 3) := by decide +kernel
theorem dX4_init_17 : decode cX4_init 17 = .ok (.aload_n 0, 1) := by decide +kernel
theorem dX4_init_18 : decode cX4_init 18 = .ok (.iconst 4, 1) := by decide +kernel
theorem dX4_init_19 : decode cX4_init 19 = .ok (.newarray .int, 2) := by decide +kernel
theorem dX4_init_21 : decode cX4_init 21 = .ok (.putfield 17, 3) := by decide +kernel
theorem dX4_init_24 : decode cX4_init 24 = .ok (.aload_n 0, 1) := by decide +kernel
theorem dX4_init_25 : decode cX4_init 25 = .ok (.bipush 50, 2) := by decide +kernel
theorem dX4_init_27 : decode cX4_init 27 = .ok (.putfield 20, 3) := by decide +kernel
theorem dX4_init_30 : decode cX4_init 30 = .ok (.aload_n 0, 1) := by decide +kernel
theorem dX4_init_31 : decode cX4_init 31 = .ok (.sipush 1024, 3) := by decide +kernel
theorem dX4_init_34 : decode cX4_init 34 = .ok (.newarray .int, 2) := by decide +kernel
theorem dX4_init_36 : decode cX4_init 36 = .ok (.putfield 23, 3) := by decide +kernel
theorem dX4_init_39 : decode cX4_init 39 = .ok (.aload_n 0, 1) := by decide +kernel
theorem dX4_init_40 : decode cX4_init 40 = .ok (.sipush 1024, 3) := by decide +kernel
theorem dX4_init_43 : decode cX4_init 43 = .ok (.newarray .int, 2) := by decide +kernel
theorem dX4_init_45 : decode cX4_init 45 = .ok (.putfield 26, 3) := by decide +kernel
theorem dX4_init_48 : decode cX4_init 48 = .ok (.aload_n 0, 1) := by decide +kernel
theorem dX4_init_49 : decode cX4_init 49 = .ok (.sipush 1024, 3) := by decide +kernel
theorem dX4_init_52 : decode cX4_init 52 = .ok (.newarray .int, 2) := by decide +kernel
theorem dX4_init_54 : decode cX4_init 54 = .ok (.putfield 29, 3) := by decide +kernel
theorem dX4_init_57 : decode cX4_init 57 = .ok (.aload_n 0, 1) := by decide +kernel
theorem dX4_init_58 : decode cX4_init 58 = .ok (.getfield 17, 3) := by decide +kernel
theorem dX4_init_61 : decode cX4_init 61 = .ok (.iconst 0, 1) := by decide +kernel
theorem dX4_init_62 : decode cX4_init 62 = .ok (.iconst 1, 1) := by decide +kernel
theorem dX4_init_63 : decode cX4_init 63 = .ok (.iastore, 1) := by decide +kernel
theorem dX4_init_64 : decode cX4_init 64 = .ok (.aload_n 0, 1) := by decide +kernel
theorem dX4_init_65 : decode cX4_init 65 = .ok (.getfield 17, 3) := by decide +kernel
theorem dX4_init_68 : decode cX4_init 68 = .ok (.iconst 3, 1) := by decide +kernel
theorem dX4_init_69 : decode cX4_init 69 = .ok (.iconst 1, 1) := by decide +kernel
theorem dX4_init_70 : decode cX4_init 70 = .ok (.iastore, 1) := by decide +kernel
theorem dX4_init_71 : decode cX4_init 71 = .ok (.return_, 1) := by decide +kernel
theorem dX4_in_0 : decode cX4_in 0 = .ok (.iload_n 0, 1) := by decide +kernel
theorem dX4_in_1 : decode cX4_in 1 = .ok (.iload_n 1, 1) := by decide +kernel
theorem dX4_in_2 : decode cX4_in 2 = .ok (.if_icmp .lt 12, 3) := by decide +kernel
theorem dX4_in_5 : decode cX4_in 5 = .ok (.iload_n 0, 1) := by decide +kernel
theorem dX4_in_6 : decode cX4_in 6 = .ok (.iload_n 2, 1) := by decide +kernel
theorem dX4_in_7 : decode cX4_in 7 = .ok (.if_icmp .gt 7, 3) := by decide +kernel
theorem dX4_in_10 : decode cX4_in 10 = .ok (.iconst 1, 1) := by decide +kernel
theorem dX4_in_11 : decode cX4_in 11 = .ok (.goto 4, 3) := by decide +kernel
theorem dX4_in_14 : decode cX4_in 14 = .ok (.iconst 0, 1) := by decide +kernel
theorem dX4_in_15 : decode cX4_in 15 = .ok (.ireturn, 1) := by decide +kernel
theorem dX4_isOne_0 : decode cX4_isOne 0 = .ok (.iload_n 1, 1) := by decide +kernel
theorem dX4_isOne_1 : decode cX4_isOne 1 = .ok (.iconst 0, 1) := by decide +kernel
theorem dX4_isOne_2 : decode cX4_isOne 2 = .ok (.aload_n 0, 1) := by decide +kernel
theorem dX4_isOne_3 : decode cX4_isOne 3 = .ok (.getfield 7, 3) := by decide +kernel
theorem dX4_isOne_6 : decode cX4_isOne 6 = .ok (.iconst 1, 1) := by decide +kernel
theorem dX4_isOne_7 : decode cX4_isOne 7 = .ok (.isub, 1) := by decide +kernel
theorem dX4_isOne_8 : decode cX4_isOne 8 = .ok (.invokestatic 32, 3) := by decide +kernel
theorem dX4_isOne_11 : decode cX4_isOne 11 = .ok (.ireturn, 1) := by decide +kernel
theorem dX4_states_0 : decode cX4_states 0 = .ok (.iconst 1, 1) := by decide +kernel
theorem dX4_states_1 : decode cX4_states 1 = .ok (.aload_n 0, 1) := by decide +kernel
theorem dX4_states_2 : decode cX4_states 2 = .ok (.getfield 7, 3) := by decide +kernel
theorem dX4_states_5 : decode cX4_states 5 = .ok (.ishl, 1) := by decide +kernel
theorem dX4_states_6 : decode cX4_states 6 = .ok (.ireturn, 1) := by decide +kernel
theorem dX4_isState_0 : decode cX4_isState 0 = .ok (.iload_n 1, 1) := by decide +kernel
theorem dX4_isState_1 : decode cX4_isState 1 = .ok (.iconst 0, 1) := by decide +kernel
theorem dX4_isState_2 : decode cX4_isState 2 = .ok (.aload_n 0, 1) := by decide +kernel
theorem dX4_isState_3 : decode cX4_isState 3 = .ok (.invokevirtual 36, 3) := by decide +kernel
theorem dX4_isState_6 : decode cX4_isState 6 = .ok (.iconst 1, 1) := by decide +kernel
theorem dX4_isState_7 : decode cX4_isState 7 = .ok (.isub, 1) := by decide +kernel
theorem dX4_isState_8 : decode cX4_isState 8 = .ok (.invokestatic 32, 3) := by decide +kernel
theorem dX4_isState_11 : decode cX4_isState 11 = .ok (.ireturn, 1) := by decide +kernel
theorem dX4_players_0 : decode cX4_players 0 = .ok (.iload_n 1, 1) := by decide +kernel
theorem dX4_players_1 : decode cX4_players 1 = .ok (.iconst 2, 1) := by decide +kernel
theorem dX4_players_2 : decode cX4_players 2 = .ok (.bipush 10, 2) := by decide +kernel
theorem dX4_players_4 : decode cX4_players 4 = .ok (.invokestatic 32, 3) := by decide +kernel
theorem dX4_players_7 : decode cX4_players 7 = .ok (.ifCond .ne 6, 3) := by decide +kernel
theorem dX4_players_10 : decode cX4_players 10 = .ok (.bipush (-2), 2) := by decide +kernel
theorem dX4_players_12 : decode cX4_players 12 = .ok (.ireturn, 1) := by decide +kernel
theorem dX4_players_13 : decode cX4_players 13 = .ok (.aload_n 0, 1) := by decide +kernel
theorem dX4_players_14 : decode cX4_players 14 = .ok (.getfield 7, 3) := by decide +kernel
theorem dX4_players_17 : decode cX4_players 17 = .ok (.istore_n 2, 1) := by decide +kernel
theorem dX4_players_18 : decode cX4_players 18 = .ok (.aload_n 0, 1) := by decide +kernel
theorem dX4_players_19 : decode cX4_players 19 = .ok (.iload_n 1, 1) := by decide +kernel
theorem dX4_players_20 : decode cX4_players 20 = .ok (.putfield 7, 3) := by decide +kernel
theorem dX4_players_23 : decode cX4_players 23 = .ok (.aload_n 0, 1) := by decide +kernel
theorem dX4_players_24 : decode cX4_players 24 = .ok (.iconst 0, 1) := by decide +kernel
theorem dX4_players_25 : decode cX4_players 25 = .ok (.putfield 40, 3) := by decide +kernel
theorem dX4_players_28 : decode cX4_players 28 = .ok (.aload_n 0, 1) := by decide +kernel
theorem dX4_players_29 : decode cX4_players 29 = .ok (.iconst 0, 1) := by decide +kernel
theorem dX4_players_30 : decode cX4_players 30 = .ok (.putfield 43, 3) := by decide +kernel
theorem dX4_players_33 : decode cX4_players 33 = .ok (.iconst 0, 1) := by decide +kernel
theorem dX4_players_34 : decode cX4_players 34 = .ok (.istore_n 3, 1) := by decide +kernel
theorem dX4_players_35 : decode cX4_players 35 = .ok (.iload_n 3, 1) := by decide +kernel
theorem dX4_players_36 : decode cX4_players 36 = .ok (.bipush 100, 2) := by decide +kernel
theorem dX4_players_38 : decode cX4_players 38 = .ok (.if_icmp .ge 16, 3) := by decide +kernel
theorem dX4_players_41 : decode cX4_players 41 = .ok (.aload_n 0, 1) := by decide +kernel
theorem dX4_players_42 : decode cX4_players 42 = .ok (.getfield 13, 3) := by decide +kernel
theorem dX4_players_45 : decode cX4_players 45 = .ok (.iload_n 3, 1) := by decide +kernel
theorem dX4_players_46 : decode cX4_players 46 = .ok (.iconst 0, 1) := by decide +kernel
theorem dX4_players_47 : decode cX4_players 47 = .ok (.iastore, 1) := by decide +kernel
theorem dX4_players_48 : decode cX4_players 48 = .ok (.iinc 3 1, 3) := by decide +kernel
theorem dX4_players_51 : decode cX4_players 51 = .ok (.goto (-16), 3) := by decide +kernel
theorem dX4_players_54 : decode cX4_players 54 = .ok (.iload_n 2, 1) := by decide +kernel
theorem dX4_players_55 : decode cX4_players 55 = .ok (.ireturn, 1) := by decide +kernel
theorem dX4_arePair_0 : decode cX4_arePair 0 = .ok (.aload_n 0, 1) := by decide +kernel
theorem dX4_arePair_1 : decode cX4_arePair 1 = .ok (.iload_n 1, 1) := by decide +kernel
theorem dX4_arePair_2 : decode cX4_arePair 2 = .ok (.invokevirtual 46, 3) := by decide +kernel
theorem dX4_arePair_5 : decode cX4_arePair 5 = .ok (.ifCond .eq 20, 3) := by decide +kernel
theorem dX4_arePair_8 : decode cX4_arePair 8 = .ok (.aload_n 0, 1) := by decide +kernel
theorem dX4_arePair_9 : decode cX4_arePair 9 = .ok (.iload_n 2, 1) := by decide +kernel
theorem dX4_arePair_10 : decode cX4_arePair 10 = .ok (.invokevirtual 46, 3) := by decide +kernel
theorem dX4_arePair_13 : decode cX4_arePair 13 = .ok (.ifCond .eq 12, 3) := by decide +kernel
theorem dX4_arePair_16 : decode cX4_arePair 16 = .ok (.iload_n 1, 1) := by decide +kernel
theorem dX4_arePair_17 : decode cX4_arePair 17 = .ok (.iload_n 2, 1) := by decide +kernel
theorem dX4_arePair_18 : decode cX4_arePair 18 = .ok (.if_icmp .eq 7, 3) := by decide +kernel
theorem dX4_arePair_21 : decode cX4_arePair 21 = .ok (.iconst 1, 1) := by decide +kernel
theorem dX4_arePair_22 : decode cX4_arePair 22 = .ok (.goto 4, 3) := by decide +kernel
theorem dX4_arePair_25 : decode cX4_arePair 25 = .ok (.iconst 0, 1) := by decide +kernel
theorem dX4_arePair_26 : decode cX4_arePair 26 = .ok (.ireturn, 1) := by decide +kernel
theorem dX4_line_0 : decode cX4_line 0 = .ok (.aload_n 0, 1) := by decide +kernel
theorem dX4_line_1 : decode cX4_line 1 = .ok (.iload_n 1, 1) := by decide +kernel
theorem dX4_line_2 : decode cX4_line 2 = .ok (.iload_n 2, 1) := by decide +kernel
theorem dX4_line_3 : decode cX4_line 3 = .ok (.invokevirtual 50, 3) := by decide +kernel
theorem dX4_line_6 : decode cX4_line 6 = .ok (.ifCond .ne 5, 3) := by decide +kernel
theorem dX4_line_9 : decode cX4_line 9 = .ok (.iconst (-1), 1) := by decide +kernel
theorem dX4_line_10 : decode cX4_line 10 = .ok (.ireturn, 1) := by decide +kernel
theorem dX4_line_11 : decode cX4_line 11 = .ok (.iload_n 3, 1) := by decide +kernel
theorem dX4_line_12 : decode cX4_line 12 = .ok (.iconst 0, 1) := by decide +kernel
theorem dX4_line_13 : decode cX4_line 13 = .ok (.bipush 9, 2) := by decide +kernel
theorem dX4_line_15 : decode cX4_line 15 = .ok (.invokestatic 32, 3) := by decide +kernel
theorem dX4_line_18 : decode cX4_line 18 = .ok (.ifCond .ne 6, 3) := by decide +kernel
theorem dX4_line_21 : decode cX4_line 21 = .ok (.bipush (-2), 2) := by decide +kernel
theorem dX4_line_23 : decode cX4_line 23 = .ok (.ireturn, 1) := by decide +kernel
theorem dX4_line_24 : decode cX4_line 24 = .ok (.aload_n 0, 1) := by decide +kernel
theorem dX4_line_25 : decode cX4_line 25 = .ok (.getfield 13, 3) := by decide +kernel
theorem dX4_line_28 : decode cX4_line 28 = .ok (.bipush 10, 2) := by decide +kernel
theorem dX4_line_30 : decode cX4_line 30 = .ok (.iload_n 1, 1) := by decide +kernel
theorem dX4_line_31 : decode cX4_line 31 = .ok (.imul, 1) := by decide +kernel
theorem dX4_line_32 : decode cX4_line 32 = .ok (.iload_n 2, 1) := by decide +kernel
theorem dX4_line_33 : decode cX4_line 33 = .ok (.iadd, 1) := by decide +kernel
theorem dX4_line_34 : decode cX4_line 34 = .ok (.iaload, 1) := by decide +kernel
theorem dX4_line_35 : decode cX4_line 35 = .ok (.istore 4, 2) := by decide +kernel
theorem dX4_line_37 : decode cX4_line 37 = .ok (.aload_n 0, 1) := by decide +kernel
theorem dX4_line_38 : decode cX4_line 38 = .ok (.getfield 13, 3) := by decide +kernel
theorem dX4_line_41 : decode cX4_line 41 = .ok (.bipush 10, 2) := by decide +kernel
theorem dX4_line_43 : decode cX4_line 43 = .ok (.iload_n 1, 1) := by decide +kernel
theorem dX4_line_44 : decode cX4_line 44 = .ok (.imul, 1) := by decide +kernel
theorem dX4_line_45 : decode cX4_line 45 = .ok (.iload_n 2, 1) := by decide +kernel
theorem dX4_line_46 : decode cX4_line 46 = .ok (.iadd, 1) := by decide +kernel
theorem dX4_line_47 : decode cX4_line 47 = .ok (.iload_n 3, 1) := by decide +kernel
theorem dX4_line_48 : decode cX4_line 48 = .ok (.iastore, 1) := by decide +kernel
theorem dX4_line_49 : decode cX4_line 49 = .ok (.aload_n 0, 1) := by decide +kernel
theorem dX4_line_50 : decode cX4_line 50 = .ok (.getfield 13, 3) := by decide +kernel
theorem dX4_line_53 : decode cX4_line 53 = .ok (.bipush 10, 2) := by decide +kernel
theorem dX4_line_55 : decode cX4_line 55 = .ok (.iload_n 2, 1) := by decide +kernel
theorem dX4_line_56 : decode cX4_line 56 = .ok (.imul, 1) := by decide +kernel
theorem dX4_line_57 : decode cX4_line 57 = .ok (.iload_n 1, 1) := by decide +kernel
theorem dX4_line_58 : decode cX4_line 58 = .ok (.iadd, 1) := by decide +kernel
theorem dX4_line_59 : decode cX4_line 59 = .ok (.iload_n 3, 1) := by decide +kernel
theorem dX4_line_60 : decode cX4_line 60 = .ok (.iastore, 1) := by decide +kernel
theorem dX4_line_61 : decode cX4_line 61 = .ok (.iload 4, 2) := by decide +kernel
theorem dX4_line_63 : decode cX4_line 63 = .ok (.ireturn, 1) := by decide +kernel
theorem dX4_weight_0 : decode cX4_weight 0 = .ok (.aload_n 0, 1) := by decide +kernel
theorem dX4_weight_1 : decode cX4_weight 1 = .ok (.iload_n 1, 1) := by decide +kernel
theorem dX4_weight_2 : decode cX4_weight 2 = .ok (.iload_n 2, 1) := by decide +kernel
theorem dX4_weight_3 : decode cX4_weight 3 = .ok (.invokevirtual 50, 3) := by decide +kernel
theorem dX4_weight_6 : decode cX4_weight 6 = .ok (.ifCond .eq 17, 3) := by decide +kernel
theorem dX4_weight_9 : decode cX4_weight 9 = .ok (.aload_n 0, 1) := by decide +kernel
theorem dX4_weight_10 : decode cX4_weight 10 = .ok (.getfield 13, 3) := by decide +kernel
theorem dX4_weight_13 : decode cX4_weight 13 = .ok (.bipush 10, 2) := by decide +kernel
theorem dX4_weight_15 : decode cX4_weight 15 = .ok (.iload_n 1, 1) := by decide +kernel
theorem dX4_weight_16 : decode cX4_weight 16 = .ok (.imul, 1) := by decide +kernel
theorem dX4_weight_17 : decode cX4_weight 17 = .ok (.iload_n 2, 1) := by decide +kernel
theorem dX4_weight_18 : decode cX4_weight 18 = .ok (.iadd, 1) := by decide +kernel
theorem dX4_weight_19 : decode cX4_weight 19 = .ok (.iaload, 1) := by decide +kernel
theorem dX4_weight_20 : decode cX4_weight 20 = .ok (.goto 4, 3) := by decide +kernel
theorem dX4_weight_23 : decode cX4_weight 23 = .ok (.iconst (-1), 1) := by decide +kernel
theorem dX4_weight_24 : decode cX4_weight 24 = .ok (.ireturn, 1) := by decide +kernel
theorem dX4_pay_0 : decode cX4_pay 0 = .ok (.iload_n 1, 1) := by decide +kernel
theorem dX4_pay_1 : decode cX4_pay 1 = .ok (.iconst 0, 1) := by decide +kernel
theorem dX4_pay_2 : decode cX4_pay 2 = .ok (.iconst 1, 1) := by decide +kernel
theorem dX4_pay_3 : decode cX4_pay 3 = .ok (.invokestatic 32, 3) := by decide +kernel
theorem dX4_pay_6 : decode cX4_pay 6 = .ok (.ifCond .eq 23, 3) := by decide +kernel
theorem dX4_pay_9 : decode cX4_pay 9 = .ok (.iload_n 2, 1) := by decide +kernel
theorem dX4_pay_10 : decode cX4_pay 10 = .ok (.iconst 0, 1) := by decide +kernel
theorem dX4_pay_11 : decode cX4_pay 11 = .ok (.iconst 1, 1) := by decide +kernel
theorem dX4_pay_12 : decode cX4_pay 12 = .ok (.invokestatic 32, 3) := by decide +kernel
theorem dX4_pay_15 : decode cX4_pay 15 = .ok (.ifCond .eq 14, 3) := by decide +kernel
theorem dX4_pay_18 : decode cX4_pay 18 = .ok (.iload_n 3, 1) := by decide +kernel
theorem dX4_pay_19 : decode cX4_pay 19 = .ok (.bipush (-9), 2) := by decide +kernel
theorem dX4_pay_21 : decode cX4_pay 21 = .ok (.bipush 9, 2) := by decide +kernel
theorem dX4_pay_23 : decode cX4_pay 23 = .ok (.invokestatic 32, 3) := by decide +kernel
theorem dX4_pay_26 : decode cX4_pay 26 = .ok (.ifCond .ne 6, 3) := by decide +kernel
theorem dX4_pay_29 : decode cX4_pay 29 = .ok (.ldc 54, 2) := by decide +kernel
theorem dX4_pay_31 : decode cX4_pay 31 = .ok (.ireturn, 1) := by decide +kernel
theorem dX4_pay_32 : decode cX4_pay 32 = .ok (.aload_n 0, 1) := by decide +kernel
theorem dX4_pay_33 : decode cX4_pay 33 = .ok (.getfield 17, 3) := by decide +kernel
theorem dX4_pay_36 : decode cX4_pay 36 = .ok (.iconst 2, 1) := by decide +kernel
theorem dX4_pay_37 : decode cX4_pay 37 = .ok (.iload_n 1, 1) := by decide +kernel
theorem dX4_pay_38 : decode cX4_pay 38 = .ok (.imul, 1) := by decide +kernel
theorem dX4_pay_39 : decode cX4_pay 39 = .ok (.iload_n 2, 1) := by decide +kernel
theorem dX4_pay_40 : decode cX4_pay 40 = .ok (.iadd, 1) := by decide +kernel
theorem dX4_pay_41 : decode cX4_pay 41 = .ok (.iaload, 1) := by decide +kernel
theorem dX4_pay_42 : decode cX4_pay 42 = .ok (.istore 4, 2) := by decide +kernel
theorem dX4_pay_44 : decode cX4_pay 44 = .ok (.aload_n 0, 1) := by decide +kernel
theorem dX4_pay_45 : decode cX4_pay 45 = .ok (.getfield 17, 3) := by decide +kernel
theorem dX4_pay_48 : decode cX4_pay 48 = .ok (.iconst 2, 1) := by decide +kernel
theorem dX4_pay_49 : decode cX4_pay 49 = .ok (.iload_n 1, 1) := by decide +kernel
theorem dX4_pay_50 : decode cX4_pay 50 = .ok (.imul, 1) := by decide +kernel
theorem dX4_pay_51 : decode cX4_pay 51 = .ok (.iload_n 2, 1) := by decide +kernel
theorem dX4_pay_52 : decode cX4_pay 52 = .ok (.iadd, 1) := by decide +kernel
theorem dX4_pay_53 : decode cX4_pay 53 = .ok (.iload_n 3, 1) := by decide +kernel
theorem dX4_pay_54 : decode cX4_pay 54 = .ok (.iastore, 1) := by decide +kernel
theorem dX4_pay_55 : decode cX4_pay 55 = .ok (.iload 4, 2) := by decide +kernel
theorem dX4_pay_57 : decode cX4_pay 57 = .ok (.ireturn, 1) := by decide +kernel
theorem dX4_bar_0 : decode cX4_bar 0 = .ok (.iload_n 1, 1) := by decide +kernel
theorem dX4_bar_1 : decode cX4_bar 1 = .ok (.iconst 0, 1) := by decide +kernel
theorem dX4_bar_2 : decode cX4_bar 2 = .ok (.bipush 100, 2) := by decide +kernel
theorem dX4_bar_4 : decode cX4_bar 4 = .ok (.invokestatic 32, 3) := by decide +kernel
theorem dX4_bar_7 : decode cX4_bar 7 = .ok (.ifCond .ne 6, 3) := by decide +kernel
theorem dX4_bar_10 : decode cX4_bar 10 = .ok (.bipush (-2), 2) := by decide +kernel
theorem dX4_bar_12 : decode cX4_bar 12 = .ok (.ireturn, 1) := by decide +kernel
theorem dX4_bar_13 : decode cX4_bar 13 = .ok (.aload_n 0, 1) := by decide +kernel
theorem dX4_bar_14 : decode cX4_bar 14 = .ok (.getfield 20, 3) := by decide +kernel
theorem dX4_bar_17 : decode cX4_bar 17 = .ok (.istore_n 2, 1) := by decide +kernel
theorem dX4_bar_18 : decode cX4_bar 18 = .ok (.aload_n 0, 1) := by decide +kernel
theorem dX4_bar_19 : decode cX4_bar 19 = .ok (.iload_n 1, 1) := by decide +kernel
theorem dX4_bar_20 : decode cX4_bar 20 = .ok (.putfield 20, 3) := by decide +kernel
theorem dX4_bar_23 : decode cX4_bar 23 = .ok (.iload_n 2, 1) := by decide +kernel
theorem dX4_bar_24 : decode cX4_bar 24 = .ok (.ireturn, 1) := by decide +kernel
theorem dX4_hold_0 : decode cX4_hold 0 = .ok (.aload_n 0, 1) := by decide +kernel
theorem dX4_hold_1 : decode cX4_hold 1 = .ok (.iload_n 1, 1) := by decide +kernel
theorem dX4_hold_2 : decode cX4_hold 2 = .ok (.invokevirtual 46, 3) := by decide +kernel
theorem dX4_hold_5 : decode cX4_hold 5 = .ok (.ifCond .ne 5, 3) := by decide +kernel
theorem dX4_hold_8 : decode cX4_hold 8 = .ok (.iconst (-1), 1) := by decide +kernel
theorem dX4_hold_9 : decode cX4_hold 9 = .ok (.ireturn, 1) := by decide +kernel
theorem dX4_hold_10 : decode cX4_hold 10 = .ok (.aload_n 0, 1) := by decide +kernel
theorem dX4_hold_11 : decode cX4_hold 11 = .ok (.getfield 40, 3) := by decide +kernel
theorem dX4_hold_14 : decode cX4_hold 14 = .ok (.iload_n 1, 1) := by decide +kernel
theorem dX4_hold_15 : decode cX4_hold 15 = .ok (.ishr, 1) := by decide +kernel
theorem dX4_hold_16 : decode cX4_hold 16 = .ok (.iconst 1, 1) := by decide +kernel
theorem dX4_hold_17 : decode cX4_hold 17 = .ok (.iand, 1) := by decide +kernel
theorem dX4_hold_18 : decode cX4_hold 18 = .ok (.istore_n 3, 1) := by decide +kernel
theorem dX4_hold_19 : decode cX4_hold 19 = .ok (.aload_n 0, 1) := by decide +kernel
theorem dX4_hold_20 : decode cX4_hold 20 = .ok (.iload_n 2, 1) := by decide +kernel
theorem dX4_hold_21 : decode cX4_hold 21 = .ok (.ifCond .eq 14, 3) := by decide +kernel
theorem dX4_hold_24 : decode cX4_hold 24 = .ok (.aload_n 0, 1) := by decide +kernel
theorem dX4_hold_25 : decode cX4_hold 25 = .ok (.getfield 40, 3) := by decide +kernel
theorem dX4_hold_28 : decode cX4_hold 28 = .ok (.iconst 1, 1) := by decide +kernel
theorem dX4_hold_29 : decode cX4_hold 29 = .ok (.iload_n 1, 1) := by decide +kernel
theorem dX4_hold_30 : decode cX4_hold 30 = .ok (.ishl, 1) := by decide +kernel
theorem dX4_hold_31 : decode cX4_hold 31 = .ok (.ior, 1) := by decide +kernel
theorem dX4_hold_32 : decode cX4_hold 32 = .ok (.goto 13, 3) := by decide +kernel
theorem dX4_hold_35 : decode cX4_hold 35 = .ok (.aload_n 0, 1) := by decide +kernel
theorem dX4_hold_36 : decode cX4_hold 36 = .ok (.getfield 40, 3) := by decide +kernel
theorem dX4_hold_39 : decode cX4_hold 39 = .ok (.iconst 1, 1) := by decide +kernel
theorem dX4_hold_40 : decode cX4_hold 40 = .ok (.iload_n 1, 1) := by decide +kernel
theorem dX4_hold_41 : decode cX4_hold 41 = .ok (.ishl, 1) := by decide +kernel
theorem dX4_hold_42 : decode cX4_hold 42 = .ok (.iconst (-1), 1) := by decide +kernel
theorem dX4_hold_43 : decode cX4_hold 43 = .ok (.ixor, 1) := by decide +kernel
theorem dX4_hold_44 : decode cX4_hold 44 = .ok (.iand, 1) := by decide +kernel
theorem dX4_hold_45 : decode cX4_hold 45 = .ok (.putfield 40, 3) := by decide +kernel
theorem dX4_hold_48 : decode cX4_hold 48 = .ok (.iload_n 3, 1) := by decide +kernel
theorem dX4_hold_49 : decode cX4_hold 49 = .ok (.ireturn, 1) := by decide +kernel
theorem dX4_state_0 : decode cX4_state 0 = .ok (.aload_n 0, 1) := by decide +kernel
theorem dX4_state_1 : decode cX4_state 1 = .ok (.iload_n 1, 1) := by decide +kernel
theorem dX4_state_2 : decode cX4_state 2 = .ok (.invokevirtual 55, 3) := by decide +kernel
theorem dX4_state_5 : decode cX4_state 5 = .ok (.ifCond .ne 6, 3) := by decide +kernel
theorem dX4_state_8 : decode cX4_state 8 = .ok (.bipush (-2), 2) := by decide +kernel
theorem dX4_state_10 : decode cX4_state 10 = .ok (.ireturn, 1) := by decide +kernel
theorem dX4_state_11 : decode cX4_state 11 = .ok (.aload_n 0, 1) := by decide +kernel
theorem dX4_state_12 : decode cX4_state 12 = .ok (.getfield 43, 3) := by decide +kernel
theorem dX4_state_15 : decode cX4_state 15 = .ok (.istore_n 2, 1) := by decide +kernel
theorem dX4_state_16 : decode cX4_state 16 = .ok (.aload_n 0, 1) := by decide +kernel
theorem dX4_state_17 : decode cX4_state 17 = .ok (.iload_n 1, 1) := by decide +kernel
theorem dX4_state_18 : decode cX4_state 18 = .ok (.putfield 43, 3) := by decide +kernel
theorem dX4_state_21 : decode cX4_state 21 = .ok (.iload_n 2, 1) := by decide +kernel
theorem dX4_state_22 : decode cX4_state 22 = .ok (.ireturn, 1) := by decide +kernel
theorem dX4_wageOf_0 : decode cX4_wageOf 0 = .ok (.iconst 0, 1) := by decide +kernel
theorem dX4_wageOf_1 : decode cX4_wageOf 1 = .ok (.istore 4, 2) := by decide +kernel
theorem dX4_wageOf_3 : decode cX4_wageOf 3 = .ok (.iconst 0, 1) := by decide +kernel
theorem dX4_wageOf_4 : decode cX4_wageOf 4 = .ok (.istore 5, 2) := by decide +kernel
theorem dX4_wageOf_6 : decode cX4_wageOf 6 = .ok (.iload 5, 2) := by decide +kernel
theorem dX4_wageOf_8 : decode cX4_wageOf 8 = .ok (.aload_n 0, 1) := by decide +kernel
theorem dX4_wageOf_9 : decode cX4_wageOf 9 = .ok (.getfield 7, 3) := by decide +kernel
theorem dX4_wageOf_12 : decode cX4_wageOf 12 = .ok (.if_icmp .ge 42, 3) := by decide +kernel
theorem dX4_wageOf_15 : decode cX4_wageOf 15 = .ok (.iload 4, 2) := by decide +kernel
theorem dX4_wageOf_17 : decode cX4_wageOf 17 = .ok (.aload_n 0, 1) := by decide +kernel
theorem dX4_wageOf_18 : decode cX4_wageOf 18 = .ok (.getfield 13, 3) := by decide +kernel
theorem dX4_wageOf_21 : decode cX4_wageOf 21 = .ok (.bipush 10, 2) := by decide +kernel
theorem dX4_wageOf_23 : decode cX4_wageOf 23 = .ok (.iload_n 2, 1) := by decide +kernel
theorem dX4_wageOf_24 : decode cX4_wageOf 24 = .ok (.imul, 1) := by decide +kernel
theorem dX4_wageOf_25 : decode cX4_wageOf 25 = .ok (.iload 5, 2) := by decide +kernel
theorem dX4_wageOf_27 : decode cX4_wageOf 27 = .ok (.iadd, 1) := by decide +kernel
theorem dX4_wageOf_28 : decode cX4_wageOf 28 = .ok (.iaload, 1) := by decide +kernel
theorem dX4_wageOf_29 : decode cX4_wageOf 29 = .ok (.aload_n 0, 1) := by decide +kernel
theorem dX4_wageOf_30 : decode cX4_wageOf 30 = .ok (.getfield 17, 3) := by decide +kernel
theorem dX4_wageOf_33 : decode cX4_wageOf 33 = .ok (.iconst 2, 1) := by decide +kernel
theorem dX4_wageOf_34 : decode cX4_wageOf 34 = .ok (.iload_n 3, 1) := by decide +kernel
theorem dX4_wageOf_35 : decode cX4_wageOf 35 = .ok (.imul, 1) := by decide +kernel
theorem dX4_wageOf_36 : decode cX4_wageOf 36 = .ok (.iload_n 1, 1) := by decide +kernel
theorem dX4_wageOf_37 : decode cX4_wageOf 37 = .ok (.iload 5, 2) := by decide +kernel
theorem dX4_wageOf_39 : decode cX4_wageOf 39 = .ok (.ishr, 1) := by decide +kernel
theorem dX4_wageOf_40 : decode cX4_wageOf 40 = .ok (.iconst 1, 1) := by decide +kernel
theorem dX4_wageOf_41 : decode cX4_wageOf 41 = .ok (.iand, 1) := by decide +kernel
theorem dX4_wageOf_42 : decode cX4_wageOf 42 = .ok (.iadd, 1) := by decide +kernel
theorem dX4_wageOf_43 : decode cX4_wageOf 43 = .ok (.iaload, 1) := by decide +kernel
theorem dX4_wageOf_44 : decode cX4_wageOf 44 = .ok (.imul, 1) := by decide +kernel
theorem dX4_wageOf_45 : decode cX4_wageOf 45 = .ok (.iadd, 1) := by decide +kernel
theorem dX4_wageOf_46 : decode cX4_wageOf 46 = .ok (.istore 4, 2) := by decide +kernel
theorem dX4_wageOf_48 : decode cX4_wageOf 48 = .ok (.iinc 5 1, 3) := by decide +kernel
theorem dX4_wageOf_51 : decode cX4_wageOf 51 = .ok (.goto (-45), 3) := by decide +kernel
theorem dX4_wageOf_54 : decode cX4_wageOf 54 = .ok (.iload 4, 2) := by decide +kernel
theorem dX4_wageOf_56 : decode cX4_wageOf 56 = .ok (.ireturn, 1) := by decide +kernel
theorem dX4_wage_0 : decode cX4_wage 0 = .ok (.aload_n 0, 1) := by decide +kernel
theorem dX4_wage_1 : decode cX4_wage 1 = .ok (.iload_n 1, 1) := by decide +kernel
theorem dX4_wage_2 : decode cX4_wage 2 = .ok (.invokevirtual 46, 3) := by decide +kernel
theorem dX4_wage_5 : decode cX4_wage 5 = .ok (.ifCond .ne 6, 3) := by decide +kernel
theorem dX4_wage_8 : decode cX4_wage 8 = .ok (.ldc 58, 2) := by decide +kernel
theorem dX4_wage_10 : decode cX4_wage 10 = .ok (.ireturn, 1) := by decide +kernel
theorem dX4_wage_11 : decode cX4_wage 11 = .ok (.iload_n 2, 1) := by decide +kernel
theorem dX4_wage_12 : decode cX4_wage 12 = .ok (.iconst 0, 1) := by decide +kernel
theorem dX4_wage_13 : decode cX4_wage 13 = .ok (.iconst 1, 1) := by decide +kernel
theorem dX4_wage_14 : decode cX4_wage 14 = .ok (.invokestatic 32, 3) := by decide +kernel
theorem dX4_wage_17 : decode cX4_wage 17 = .ok (.ifCond .ne 6, 3) := by decide +kernel
theorem dX4_wage_20 : decode cX4_wage 20 = .ok (.ldc 54, 2) := by decide +kernel
theorem dX4_wage_22 : decode cX4_wage 22 = .ok (.ireturn, 1) := by decide +kernel
theorem dX4_wage_23 : decode cX4_wage 23 = .ok (.aload_n 0, 1) := by decide +kernel
theorem dX4_wage_24 : decode cX4_wage 24 = .ok (.getfield 43, 3) := by decide +kernel
theorem dX4_wage_27 : decode cX4_wage 27 = .ok (.iload_n 1, 1) := by decide +kernel
theorem dX4_wage_28 : decode cX4_wage 28 = .ok (.ishr, 1) := by decide +kernel
theorem dX4_wage_29 : decode cX4_wage 29 = .ok (.iconst 1, 1) := by decide +kernel
theorem dX4_wage_30 : decode cX4_wage 30 = .ok (.iand, 1) := by decide +kernel
theorem dX4_wage_31 : decode cX4_wage 31 = .ok (.istore_n 3, 1) := by decide +kernel
theorem dX4_wage_32 : decode cX4_wage 32 = .ok (.aload_n 0, 1) := by decide +kernel
theorem dX4_wage_33 : decode cX4_wage 33 = .ok (.aload_n 0, 1) := by decide +kernel
theorem dX4_wage_34 : decode cX4_wage 34 = .ok (.getfield 43, 3) := by decide +kernel
theorem dX4_wage_37 : decode cX4_wage 37 = .ok (.iload_n 1, 1) := by decide +kernel
theorem dX4_wage_38 : decode cX4_wage 38 = .ok (.iload_n 2, 1) := by decide +kernel
theorem dX4_wage_39 : decode cX4_wage 39 = .ok (.ifCond .ne 7, 3) := by decide +kernel
theorem dX4_wage_42 : decode cX4_wage 42 = .ok (.iload_n 3, 1) := by decide +kernel
theorem dX4_wage_43 : decode cX4_wage 43 = .ok (.goto 6, 3) := by decide +kernel
theorem dX4_wage_46 : decode cX4_wage 46 = .ok (.iconst 1, 1) := by decide +kernel
theorem dX4_wage_47 : decode cX4_wage 47 = .ok (.iload_n 3, 1) := by decide +kernel
theorem dX4_wage_48 : decode cX4_wage 48 = .ok (.isub, 1) := by decide +kernel
theorem dX4_wage_49 : decode cX4_wage 49 = .ok (.invokevirtual 59, 3) := by decide +kernel
theorem dX4_wage_52 : decode cX4_wage 52 = .ok (.ireturn, 1) := by decide +kernel
theorem dX4_sum_0 : decode cX4_sum 0 = .ok (.iconst 0, 1) := by decide +kernel
theorem dX4_sum_1 : decode cX4_sum 1 = .ok (.istore_n 1, 1) := by decide +kernel
theorem dX4_sum_2 : decode cX4_sum 2 = .ok (.iconst 0, 1) := by decide +kernel
theorem dX4_sum_3 : decode cX4_sum 3 = .ok (.istore_n 2, 1) := by decide +kernel
theorem dX4_sum_4 : decode cX4_sum 4 = .ok (.iload_n 2, 1) := by decide +kernel
theorem dX4_sum_5 : decode cX4_sum 5 = .ok (.aload_n 0, 1) := by decide +kernel
theorem dX4_sum_6 : decode cX4_sum 6 = .ok (.getfield 7, 3) := by decide +kernel
theorem dX4_sum_9 : decode cX4_sum 9 = .ok (.if_icmp .ge 29, 3) := by decide +kernel
theorem dX4_sum_12 : decode cX4_sum 12 = .ok (.iload_n 1, 1) := by decide +kernel
theorem dX4_sum_13 : decode cX4_sum 13 = .ok (.aload_n 0, 1) := by decide +kernel
theorem dX4_sum_14 : decode cX4_sum 14 = .ok (.aload_n 0, 1) := by decide +kernel
theorem dX4_sum_15 : decode cX4_sum 15 = .ok (.getfield 43, 3) := by decide +kernel
theorem dX4_sum_18 : decode cX4_sum 18 = .ok (.iload_n 2, 1) := by decide +kernel
theorem dX4_sum_19 : decode cX4_sum 19 = .ok (.aload_n 0, 1) := by decide +kernel
theorem dX4_sum_20 : decode cX4_sum 20 = .ok (.getfield 43, 3) := by decide +kernel
theorem dX4_sum_23 : decode cX4_sum 23 = .ok (.iload_n 2, 1) := by decide +kernel
theorem dX4_sum_24 : decode cX4_sum 24 = .ok (.ishr, 1) := by decide +kernel
theorem dX4_sum_25 : decode cX4_sum 25 = .ok (.iconst 1, 1) := by decide +kernel
theorem dX4_sum_26 : decode cX4_sum 26 = .ok (.iand, 1) := by decide +kernel
theorem dX4_sum_27 : decode cX4_sum 27 = .ok (.invokevirtual 59, 3) := by decide +kernel
theorem dX4_sum_30 : decode cX4_sum 30 = .ok (.iadd, 1) := by decide +kernel
theorem dX4_sum_31 : decode cX4_sum 31 = .ok (.istore_n 1, 1) := by decide +kernel
theorem dX4_sum_32 : decode cX4_sum 32 = .ok (.iinc 2 1, 3) := by decide +kernel
theorem dX4_sum_35 : decode cX4_sum 35 = .ok (.goto (-31), 3) := by decide +kernel
theorem dX4_sum_38 : decode cX4_sum 38 = .ok (.iload_n 1, 1) := by decide +kernel
theorem dX4_sum_39 : decode cX4_sum 39 = .ok (.ireturn, 1) := by decide +kernel
theorem dX4_gains_0 : decode cX4_gains 0 = .ok (.iload_n 1, 1) := by decide +kernel
theorem dX4_gains_1 : decode cX4_gains 1 = .ok (.iload_n 2, 1) := by decide +kernel
theorem dX4_gains_2 : decode cX4_gains 2 = .ok (.ishr, 1) := by decide +kernel
theorem dX4_gains_3 : decode cX4_gains 3 = .ok (.iconst 1, 1) := by decide +kernel
theorem dX4_gains_4 : decode cX4_gains 4 = .ok (.iand, 1) := by decide +kernel
theorem dX4_gains_5 : decode cX4_gains 5 = .ok (.istore_n 3, 1) := by decide +kernel
theorem dX4_gains_6 : decode cX4_gains 6 = .ok (.aload_n 0, 1) := by decide +kernel
theorem dX4_gains_7 : decode cX4_gains 7 = .ok (.iload_n 1, 1) := by decide +kernel
theorem dX4_gains_8 : decode cX4_gains 8 = .ok (.iload_n 2, 1) := by decide +kernel
theorem dX4_gains_9 : decode cX4_gains 9 = .ok (.iconst 1, 1) := by decide +kernel
theorem dX4_gains_10 : decode cX4_gains 10 = .ok (.iload_n 3, 1) := by decide +kernel
theorem dX4_gains_11 : decode cX4_gains 11 = .ok (.isub, 1) := by decide +kernel
theorem dX4_gains_12 : decode cX4_gains 12 = .ok (.invokevirtual 59, 3) := by decide +kernel
theorem dX4_gains_15 : decode cX4_gains 15 = .ok (.aload_n 0, 1) := by decide +kernel
theorem dX4_gains_16 : decode cX4_gains 16 = .ok (.iload_n 1, 1) := by decide +kernel
theorem dX4_gains_17 : decode cX4_gains 17 = .ok (.iload_n 2, 1) := by decide +kernel
theorem dX4_gains_18 : decode cX4_gains 18 = .ok (.iload_n 3, 1) := by decide +kernel
theorem dX4_gains_19 : decode cX4_gains 19 = .ok (.invokevirtual 59, 3) := by decide +kernel
theorem dX4_gains_22 : decode cX4_gains 22 = .ok (.if_icmp .le 7, 3) := by decide +kernel
theorem dX4_gains_25 : decode cX4_gains 25 = .ok (.iconst 1, 1) := by decide +kernel
theorem dX4_gains_26 : decode cX4_gains 26 = .ok (.goto 4, 3) := by decide +kernel
theorem dX4_gains_29 : decode cX4_gains 29 = .ok (.iconst 0, 1) := by decide +kernel
theorem dX4_gains_30 : decode cX4_gains 30 = .ok (.ireturn, 1) := by decide +kernel
theorem dX4_copied_0 : decode cX4_copied 0 = .ok (.iload_n 2, 1) := by decide +kernel
theorem dX4_copied_1 : decode cX4_copied 1 = .ok (.istore_n 3, 1) := by decide +kernel
theorem dX4_copied_2 : decode cX4_copied 2 = .ok (.iconst 0, 1) := by decide +kernel
theorem dX4_copied_3 : decode cX4_copied 3 = .ok (.istore 4, 2) := by decide +kernel
theorem dX4_copied_5 : decode cX4_copied 5 = .ok (.iload 4, 2) := by decide +kernel
theorem dX4_copied_7 : decode cX4_copied 7 = .ok (.aload_n 0, 1) := by decide +kernel
theorem dX4_copied_8 : decode cX4_copied 8 = .ok (.getfield 7, 3) := by decide +kernel
theorem dX4_copied_11 : decode cX4_copied 11 = .ok (.if_icmp .ge 82, 3) := by decide +kernel
theorem dX4_copied_14 : decode cX4_copied 14 = .ok (.aload_n 0, 1) := by decide +kernel
theorem dX4_copied_15 : decode cX4_copied 15 = .ok (.getfield 13, 3) := by decide +kernel
theorem dX4_copied_18 : decode cX4_copied 18 = .ok (.bipush 10, 2) := by decide +kernel
theorem dX4_copied_20 : decode cX4_copied 20 = .ok (.iload_n 2, 1) := by decide +kernel
theorem dX4_copied_21 : decode cX4_copied 21 = .ok (.imul, 1) := by decide +kernel
theorem dX4_copied_22 : decode cX4_copied 22 = .ok (.iload 4, 2) := by decide +kernel
theorem dX4_copied_24 : decode cX4_copied 24 = .ok (.iadd, 1) := by decide +kernel
theorem dX4_copied_25 : decode cX4_copied 25 = .ok (.iaload, 1) := by decide +kernel
theorem dX4_copied_26 : decode cX4_copied 26 = .ok (.ifCond .le 7, 3) := by decide +kernel
theorem dX4_copied_29 : decode cX4_copied 29 = .ok (.iconst 1, 1) := by decide +kernel
theorem dX4_copied_30 : decode cX4_copied 30 = .ok (.goto 4, 3) := by decide +kernel
theorem dX4_copied_33 : decode cX4_copied 33 = .ok (.iconst 0, 1) := by decide +kernel
theorem dX4_copied_34 : decode cX4_copied 34 = .ok (.istore 5, 2) := by decide +kernel
theorem dX4_copied_36 : decode cX4_copied 36 = .ok (.iload 5, 2) := by decide +kernel
theorem dX4_copied_38 : decode cX4_copied 38 = .ok (.ifCond .eq 34, 3) := by decide +kernel
theorem dX4_copied_41 : decode cX4_copied 41 = .ok (.aload_n 0, 1) := by decide +kernel
theorem dX4_copied_42 : decode cX4_copied 42 = .ok (.iload_n 1, 1) := by decide +kernel
theorem dX4_copied_43 : decode cX4_copied 43 = .ok (.iload 4, 2) := by decide +kernel
theorem dX4_copied_45 : decode cX4_copied 45 = .ok (.iload_n 1, 1) := by decide +kernel
theorem dX4_copied_46 : decode cX4_copied 46 = .ok (.iload 4, 2) := by decide +kernel
theorem dX4_copied_48 : decode cX4_copied 48 = .ok (.ishr, 1) := by decide +kernel
theorem dX4_copied_49 : decode cX4_copied 49 = .ok (.iconst 1, 1) := by decide +kernel
theorem dX4_copied_50 : decode cX4_copied 50 = .ok (.iand, 1) := by decide +kernel
theorem dX4_copied_51 : decode cX4_copied 51 = .ok (.invokevirtual 59, 3) := by decide +kernel
theorem dX4_copied_54 : decode cX4_copied 54 = .ok (.aload_n 0, 1) := by decide +kernel
theorem dX4_copied_55 : decode cX4_copied 55 = .ok (.iload_n 1, 1) := by decide +kernel
theorem dX4_copied_56 : decode cX4_copied 56 = .ok (.iload_n 3, 1) := by decide +kernel
theorem dX4_copied_57 : decode cX4_copied 57 = .ok (.iload_n 1, 1) := by decide +kernel
theorem dX4_copied_58 : decode cX4_copied 58 = .ok (.iload_n 3, 1) := by decide +kernel
theorem dX4_copied_59 : decode cX4_copied 59 = .ok (.ishr, 1) := by decide +kernel
theorem dX4_copied_60 : decode cX4_copied 60 = .ok (.iconst 1, 1) := by decide +kernel
theorem dX4_copied_61 : decode cX4_copied 61 = .ok (.iand, 1) := by decide +kernel
theorem dX4_copied_62 : decode cX4_copied 62 = .ok (.invokevirtual 59, 3) := by decide +kernel
theorem dX4_copied_65 : decode cX4_copied 65 = .ok (.if_icmp .le 7, 3) := by decide +kernel
theorem dX4_copied_68 : decode cX4_copied 68 = .ok (.iconst 1, 1) := by decide +kernel
theorem dX4_copied_69 : decode cX4_copied 69 = .ok (.goto 4, 3) := by decide +kernel
theorem dX4_copied_72 : decode cX4_copied 72 = .ok (.iconst 0, 1) := by decide +kernel
theorem dX4_copied_73 : decode cX4_copied 73 = .ok (.istore 6, 2) := by decide +kernel
theorem dX4_copied_75 : decode cX4_copied 75 = .ok (.iload 6, 2) := by decide +kernel
theorem dX4_copied_77 : decode cX4_copied 77 = .ok (.ifCond .eq 8, 3) := by decide +kernel
theorem dX4_copied_80 : decode cX4_copied 80 = .ok (.iload 4, 2) := by decide +kernel
theorem dX4_copied_82 : decode cX4_copied 82 = .ok (.goto 4, 3) := by decide +kernel
theorem dX4_copied_85 : decode cX4_copied 85 = .ok (.iload_n 3, 1) := by decide +kernel
theorem dX4_copied_86 : decode cX4_copied 86 = .ok (.istore_n 3, 1) := by decide +kernel
theorem dX4_copied_87 : decode cX4_copied 87 = .ok (.iinc 4 1, 3) := by decide +kernel
theorem dX4_copied_90 : decode cX4_copied 90 = .ok (.goto (-85), 3) := by decide +kernel
theorem dX4_copied_93 : decode cX4_copied 93 = .ok (.iload_n 1, 1) := by decide +kernel
theorem dX4_copied_94 : decode cX4_copied 94 = .ok (.iload_n 3, 1) := by decide +kernel
theorem dX4_copied_95 : decode cX4_copied 95 = .ok (.ishr, 1) := by decide +kernel
theorem dX4_copied_96 : decode cX4_copied 96 = .ok (.iconst 1, 1) := by decide +kernel
theorem dX4_copied_97 : decode cX4_copied 97 = .ok (.iand, 1) := by decide +kernel
theorem dX4_copied_98 : decode cX4_copied 98 = .ok (.ireturn, 1) := by decide +kernel
theorem dX4_tipped_0 : decode cX4_tipped 0 = .ok (.iconst 0, 1) := by decide +kernel
theorem dX4_tipped_1 : decode cX4_tipped 1 = .ok (.istore_n 3, 1) := by decide +kernel
theorem dX4_tipped_2 : decode cX4_tipped 2 = .ok (.iconst 0, 1) := by decide +kernel
theorem dX4_tipped_3 : decode cX4_tipped 3 = .ok (.istore 4, 2) := by decide +kernel
theorem dX4_tipped_5 : decode cX4_tipped 5 = .ok (.iconst 0, 1) := by decide +kernel
theorem dX4_tipped_6 : decode cX4_tipped 6 = .ok (.istore 5, 2) := by decide +kernel
theorem dX4_tipped_8 : decode cX4_tipped 8 = .ok (.iload 5, 2) := by decide +kernel
theorem dX4_tipped_10 : decode cX4_tipped 10 = .ok (.aload_n 0, 1) := by decide +kernel
theorem dX4_tipped_11 : decode cX4_tipped 11 = .ok (.getfield 7, 3) := by decide +kernel
theorem dX4_tipped_14 : decode cX4_tipped 14 = .ok (.if_icmp .ge 55, 3) := by decide +kernel
theorem dX4_tipped_17 : decode cX4_tipped 17 = .ok (.iload_n 3, 1) := by decide +kernel
theorem dX4_tipped_18 : decode cX4_tipped 18 = .ok (.aload_n 0, 1) := by decide +kernel
theorem dX4_tipped_19 : decode cX4_tipped 19 = .ok (.getfield 13, 3) := by decide +kernel
theorem dX4_tipped_22 : decode cX4_tipped 22 = .ok (.bipush 10, 2) := by decide +kernel
theorem dX4_tipped_24 : decode cX4_tipped 24 = .ok (.iload_n 2, 1) := by decide +kernel
theorem dX4_tipped_25 : decode cX4_tipped 25 = .ok (.imul, 1) := by decide +kernel
theorem dX4_tipped_26 : decode cX4_tipped 26 = .ok (.iload 5, 2) := by decide +kernel
theorem dX4_tipped_28 : decode cX4_tipped 28 = .ok (.iadd, 1) := by decide +kernel
theorem dX4_tipped_29 : decode cX4_tipped 29 = .ok (.iaload, 1) := by decide +kernel
theorem dX4_tipped_30 : decode cX4_tipped 30 = .ok (.iadd, 1) := by decide +kernel
theorem dX4_tipped_31 : decode cX4_tipped 31 = .ok (.istore_n 3, 1) := by decide +kernel
theorem dX4_tipped_32 : decode cX4_tipped 32 = .ok (.iload 4, 2) := by decide +kernel
theorem dX4_tipped_34 : decode cX4_tipped 34 = .ok (.iload_n 1, 1) := by decide +kernel
theorem dX4_tipped_35 : decode cX4_tipped 35 = .ok (.iload 5, 2) := by decide +kernel
theorem dX4_tipped_37 : decode cX4_tipped 37 = .ok (.ishr, 1) := by decide +kernel
theorem dX4_tipped_38 : decode cX4_tipped 38 = .ok (.iconst 1, 1) := by decide +kernel
theorem dX4_tipped_39 : decode cX4_tipped 39 = .ok (.iand, 1) := by decide +kernel
theorem dX4_tipped_40 : decode cX4_tipped 40 = .ok (.iconst 1, 1) := by decide +kernel
theorem dX4_tipped_41 : decode cX4_tipped 41 = .ok (.if_icmp .ne 18, 3) := by decide +kernel
theorem dX4_tipped_44 : decode cX4_tipped 44 = .ok (.aload_n 0, 1) := by decide +kernel
theorem dX4_tipped_45 : decode cX4_tipped 45 = .ok (.getfield 13, 3) := by decide +kernel
theorem dX4_tipped_48 : decode cX4_tipped 48 = .ok (.bipush 10, 2) := by decide +kernel
theorem dX4_tipped_50 : decode cX4_tipped 50 = .ok (.iload_n 2, 1) := by decide +kernel
theorem dX4_tipped_51 : decode cX4_tipped 51 = .ok (.imul, 1) := by decide +kernel
theorem dX4_tipped_52 : decode cX4_tipped 52 = .ok (.iload 5, 2) := by decide +kernel
theorem dX4_tipped_54 : decode cX4_tipped 54 = .ok (.iadd, 1) := by decide +kernel
theorem dX4_tipped_55 : decode cX4_tipped 55 = .ok (.iaload, 1) := by decide +kernel
theorem dX4_tipped_56 : decode cX4_tipped 56 = .ok (.goto 4, 3) := by decide +kernel
theorem dX4_tipped_59 : decode cX4_tipped 59 = .ok (.iconst 0, 1) := by decide +kernel
theorem dX4_tipped_60 : decode cX4_tipped 60 = .ok (.iadd, 1) := by decide +kernel
theorem dX4_tipped_61 : decode cX4_tipped 61 = .ok (.istore 4, 2) := by decide +kernel
theorem dX4_tipped_63 : decode cX4_tipped 63 = .ok (.iinc 5 1, 3) := by decide +kernel
theorem dX4_tipped_66 : decode cX4_tipped 66 = .ok (.goto (-58), 3) := by decide +kernel
theorem dX4_tipped_69 : decode cX4_tipped 69 = .ok (.iload_n 3, 1) := by decide +kernel
theorem dX4_tipped_70 : decode cX4_tipped 70 = .ok (.ifCond .ne 11, 3) := by decide +kernel
theorem dX4_tipped_73 : decode cX4_tipped 73 = .ok (.iload_n 1, 1) := by decide +kernel
theorem dX4_tipped_74 : decode cX4_tipped 74 = .ok (.iload_n 2, 1) := by decide +kernel
theorem dX4_tipped_75 : decode cX4_tipped 75 = .ok (.ishr, 1) := by decide +kernel
theorem dX4_tipped_76 : decode cX4_tipped 76 = .ok (.iconst 1, 1) := by decide +kernel
theorem dX4_tipped_77 : decode cX4_tipped 77 = .ok (.iand, 1) := by decide +kernel
theorem dX4_tipped_78 : decode cX4_tipped 78 = .ok (.goto 22, 3) := by decide +kernel
theorem dX4_tipped_81 : decode cX4_tipped 81 = .ok (.bipush 100, 2) := by decide +kernel
theorem dX4_tipped_83 : decode cX4_tipped 83 = .ok (.iload 4, 2) := by decide +kernel
theorem dX4_tipped_85 : decode cX4_tipped 85 = .ok (.imul, 1) := by decide +kernel
theorem dX4_tipped_86 : decode cX4_tipped 86 = .ok (.aload_n 0, 1) := by decide +kernel
theorem dX4_tipped_87 : decode cX4_tipped 87 = .ok (.getfield 20, 3) := by decide +kernel
theorem dX4_tipped_90 : decode cX4_tipped 90 = .ok (.iload_n 3, 1) := by decide +kernel
theorem dX4_tipped_91 : decode cX4_tipped 91 = .ok (.imul, 1) := by decide +kernel
theorem dX4_tipped_92 : decode cX4_tipped 92 = .ok (.if_icmp .lt 7, 3) := by decide +kernel
theorem dX4_tipped_95 : decode cX4_tipped 95 = .ok (.iconst 1, 1) := by decide +kernel
theorem dX4_tipped_96 : decode cX4_tipped 96 = .ok (.goto 4, 3) := by decide +kernel
theorem dX4_tipped_99 : decode cX4_tipped 99 = .ok (.iconst 0, 1) := by decide +kernel
theorem dX4_tipped_100 : decode cX4_tipped 100 = .ok (.ireturn, 1) := by decide +kernel
theorem dX4_wayBehind_0 : decode cX4_wayBehind 0 = .ok (.iload_n 1, 1) := by decide +kernel
theorem dX4_wayBehind_1 : decode cX4_wayBehind 1 = .ok (.iconst 1, 1) := by decide +kernel
theorem dX4_wayBehind_2 : decode cX4_wayBehind 2 = .ok (.if_icmp .ne 10, 3) := by decide +kernel
theorem dX4_wayBehind_5 : decode cX4_wayBehind 5 = .ok (.aload_n 0, 1) := by decide +kernel
theorem dX4_wayBehind_6 : decode cX4_wayBehind 6 = .ok (.iload_n 2, 1) := by decide +kernel
theorem dX4_wayBehind_7 : decode cX4_wayBehind 7 = .ok (.iload_n 3, 1) := by decide +kernel
theorem dX4_wayBehind_8 : decode cX4_wayBehind 8 = .ok (.invokevirtual 63, 3) := by decide +kernel
theorem dX4_wayBehind_11 : decode cX4_wayBehind 11 = .ok (.ireturn, 1) := by decide +kernel
theorem dX4_wayBehind_12 : decode cX4_wayBehind 12 = .ok (.iload_n 1, 1) := by decide +kernel
theorem dX4_wayBehind_13 : decode cX4_wayBehind 13 = .ok (.iconst 2, 1) := by decide +kernel
theorem dX4_wayBehind_14 : decode cX4_wayBehind 14 = .ok (.if_icmp .ne 12, 3) := by decide +kernel
theorem dX4_wayBehind_17 : decode cX4_wayBehind 17 = .ok (.aload_n 0, 1) := by decide +kernel
theorem dX4_wayBehind_18 : decode cX4_wayBehind 18 = .ok (.iload_n 2, 1) := by decide +kernel
theorem dX4_wayBehind_19 : decode cX4_wayBehind 19 = .ok (.iload_n 3, 1) := by decide +kernel
theorem dX4_wayBehind_20 : decode cX4_wayBehind 20 = .ok (.invokevirtual 67, 3) := by decide +kernel
theorem dX4_wayBehind_23 : decode cX4_wayBehind 23 = .ok (.goto 27, 3) := by decide +kernel
theorem dX4_wayBehind_26 : decode cX4_wayBehind 26 = .ok (.aload_n 0, 1) := by decide +kernel
theorem dX4_wayBehind_27 : decode cX4_wayBehind 27 = .ok (.iload_n 2, 1) := by decide +kernel
theorem dX4_wayBehind_28 : decode cX4_wayBehind 28 = .ok (.iload_n 3, 1) := by decide +kernel
theorem dX4_wayBehind_29 : decode cX4_wayBehind 29 = .ok (.invokevirtual 70, 3) := by decide +kernel
theorem dX4_wayBehind_32 : decode cX4_wayBehind 32 = .ok (.ifCond .eq 13, 3) := by decide +kernel
theorem dX4_wayBehind_35 : decode cX4_wayBehind 35 = .ok (.iconst 1, 1) := by decide +kernel
theorem dX4_wayBehind_36 : decode cX4_wayBehind 36 = .ok (.iload_n 2, 1) := by decide +kernel
theorem dX4_wayBehind_37 : decode cX4_wayBehind 37 = .ok (.iload_n 3, 1) := by decide +kernel
theorem dX4_wayBehind_38 : decode cX4_wayBehind 38 = .ok (.ishr, 1) := by decide +kernel
theorem dX4_wayBehind_39 : decode cX4_wayBehind 39 = .ok (.iconst 1, 1) := by decide +kernel
theorem dX4_wayBehind_40 : decode cX4_wayBehind 40 = .ok (.iand, 1) := by decide +kernel
theorem dX4_wayBehind_41 : decode cX4_wayBehind 41 = .ok (.isub, 1) := by decide +kernel
theorem dX4_wayBehind_42 : decode cX4_wayBehind 42 = .ok (.goto 8, 3) := by decide +kernel
theorem dX4_wayBehind_45 : decode cX4_wayBehind 45 = .ok (.iload_n 2, 1) := by decide +kernel
theorem dX4_wayBehind_46 : decode cX4_wayBehind 46 = .ok (.iload_n 3, 1) := by decide +kernel
theorem dX4_wayBehind_47 : decode cX4_wayBehind 47 = .ok (.ishr, 1) := by decide +kernel
theorem dX4_wayBehind_48 : decode cX4_wayBehind 48 = .ok (.iconst 1, 1) := by decide +kernel
theorem dX4_wayBehind_49 : decode cX4_wayBehind 49 = .ok (.iand, 1) := by decide +kernel
theorem dX4_wayBehind_50 : decode cX4_wayBehind 50 = .ok (.ireturn, 1) := by decide +kernel
theorem dX4_next_0 : decode cX4_next 0 = .ok (.iload_n 2, 1) := by decide +kernel
theorem dX4_next_1 : decode cX4_next 1 = .ok (.istore 4, 2) := by decide +kernel
theorem dX4_next_3 : decode cX4_next 3 = .ok (.iconst 0, 1) := by decide +kernel
theorem dX4_next_4 : decode cX4_next 4 = .ok (.istore 5, 2) := by decide +kernel
theorem dX4_next_6 : decode cX4_next 6 = .ok (.iload 5, 2) := by decide +kernel
theorem dX4_next_8 : decode cX4_next 8 = .ok (.aload_n 0, 1) := by decide +kernel
theorem dX4_next_9 : decode cX4_next 9 = .ok (.getfield 7, 3) := by decide +kernel
theorem dX4_next_12 : decode cX4_next 12 = .ok (.if_icmp .ge 65, 3) := by decide +kernel
theorem dX4_next_15 : decode cX4_next 15 = .ok (.iload_n 3, 1) := by decide +kernel
theorem dX4_next_16 : decode cX4_next 16 = .ok (.iload 5, 2) := by decide +kernel
theorem dX4_next_18 : decode cX4_next 18 = .ok (.ishr, 1) := by decide +kernel
theorem dX4_next_19 : decode cX4_next 19 = .ok (.iconst 1, 1) := by decide +kernel
theorem dX4_next_20 : decode cX4_next 20 = .ok (.iand, 1) := by decide +kernel
theorem dX4_next_21 : decode cX4_next 21 = .ok (.ifCond .ne 50, 3) := by decide +kernel
theorem dX4_next_24 : decode cX4_next 24 = .ok (.aload_n 0, 1) := by decide +kernel
theorem dX4_next_25 : decode cX4_next 25 = .ok (.iload_n 1, 1) := by decide +kernel
theorem dX4_next_26 : decode cX4_next 26 = .ok (.iload_n 1, 1) := by decide +kernel
theorem dX4_next_27 : decode cX4_next 27 = .ok (.iconst 3, 1) := by decide +kernel
theorem dX4_next_28 : decode cX4_next 28 = .ok (.if_icmp .ne 8, 3) := by decide +kernel
theorem dX4_next_31 : decode cX4_next 31 = .ok (.iload 4, 2) := by decide +kernel
theorem dX4_next_33 : decode cX4_next 33 = .ok (.goto 4, 3) := by decide +kernel
theorem dX4_next_36 : decode cX4_next 36 = .ok (.iload_n 2, 1) := by decide +kernel
theorem dX4_next_37 : decode cX4_next 37 = .ok (.iload 5, 2) := by decide +kernel
theorem dX4_next_39 : decode cX4_next 39 = .ok (.invokevirtual 73, 3) := by decide +kernel
theorem dX4_next_42 : decode cX4_next 42 = .ok (.istore 6, 2) := by decide +kernel
theorem dX4_next_44 : decode cX4_next 44 = .ok (.iload 6, 2) := by decide +kernel
theorem dX4_next_46 : decode cX4_next 46 = .ok (.iconst 1, 1) := by decide +kernel
theorem dX4_next_47 : decode cX4_next 47 = .ok (.if_icmp .ne 13, 3) := by decide +kernel
theorem dX4_next_50 : decode cX4_next 50 = .ok (.iload 4, 2) := by decide +kernel
theorem dX4_next_52 : decode cX4_next 52 = .ok (.iconst 1, 1) := by decide +kernel
theorem dX4_next_53 : decode cX4_next 53 = .ok (.iload 5, 2) := by decide +kernel
theorem dX4_next_55 : decode cX4_next 55 = .ok (.ishl, 1) := by decide +kernel
theorem dX4_next_56 : decode cX4_next 56 = .ok (.ior, 1) := by decide +kernel
theorem dX4_next_57 : decode cX4_next 57 = .ok (.goto 12, 3) := by decide +kernel
theorem dX4_next_60 : decode cX4_next 60 = .ok (.iload 4, 2) := by decide +kernel
theorem dX4_next_62 : decode cX4_next 62 = .ok (.iconst 1, 1) := by decide +kernel
theorem dX4_next_63 : decode cX4_next 63 = .ok (.iload 5, 2) := by decide +kernel
theorem dX4_next_65 : decode cX4_next 65 = .ok (.ishl, 1) := by decide +kernel
theorem dX4_next_66 : decode cX4_next 66 = .ok (.iconst (-1), 1) := by decide +kernel
theorem dX4_next_67 : decode cX4_next 67 = .ok (.ixor, 1) := by decide +kernel
theorem dX4_next_68 : decode cX4_next 68 = .ok (.iand, 1) := by decide +kernel
theorem dX4_next_69 : decode cX4_next 69 = .ok (.istore 4, 2) := by decide +kernel
theorem dX4_next_71 : decode cX4_next 71 = .ok (.iinc 5 1, 3) := by decide +kernel
theorem dX4_next_74 : decode cX4_next 74 = .ok (.goto (-68), 3) := by decide +kernel
theorem dX4_next_77 : decode cX4_next 77 = .ok (.iload 4, 2) := by decide +kernel
theorem dX4_next_79 : decode cX4_next 79 = .ok (.ireturn, 1) := by decide +kernel
theorem dX4_isRule_0 : decode cX4_isRule 0 = .ok (.iload_n 0, 1) := by decide +kernel
theorem dX4_isRule_1 : decode cX4_isRule 1 = .ok (.iconst 0, 1) := by decide +kernel
theorem dX4_isRule_2 : decode cX4_isRule 2 = .ok (.iconst 3, 1) := by decide +kernel
theorem dX4_isRule_3 : decode cX4_isRule 3 = .ok (.invokestatic 32, 3) := by decide +kernel
theorem dX4_isRule_6 : decode cX4_isRule 6 = .ok (.ireturn, 1) := by decide +kernel
theorem dX4_step_0 : decode cX4_step 0 = .ok (.iload_n 1, 1) := by decide +kernel
theorem dX4_step_1 : decode cX4_step 1 = .ok (.invokestatic 76, 3) := by decide +kernel
theorem dX4_step_4 : decode cX4_step 4 = .ok (.ifCond .eq 13, 3) := by decide +kernel
theorem dX4_step_7 : decode cX4_step 7 = .ok (.iload_n 2, 1) := by decide +kernel
theorem dX4_step_8 : decode cX4_step 8 = .ok (.iconst 1, 1) := by decide +kernel
theorem dX4_step_9 : decode cX4_step 9 = .ok (.bipush 100, 2) := by decide +kernel
theorem dX4_step_11 : decode cX4_step 11 = .ok (.invokestatic 32, 3) := by decide +kernel
theorem dX4_step_14 : decode cX4_step 14 = .ok (.ifCond .ne 6, 3) := by decide +kernel
theorem dX4_step_17 : decode cX4_step 17 = .ok (.bipush (-2), 2) := by decide +kernel
theorem dX4_step_19 : decode cX4_step 19 = .ok (.ireturn, 1) := by decide +kernel
theorem dX4_step_20 : decode cX4_step 20 = .ok (.iconst 0, 1) := by decide +kernel
theorem dX4_step_21 : decode cX4_step 21 = .ok (.istore_n 3, 1) := by decide +kernel
theorem dX4_step_22 : decode cX4_step 22 = .ok (.iload_n 3, 1) := by decide +kernel
theorem dX4_step_23 : decode cX4_step 23 = .ok (.iload_n 2, 1) := by decide +kernel
theorem dX4_step_24 : decode cX4_step 24 = .ok (.if_icmp .ge 26, 3) := by decide +kernel
theorem dX4_step_27 : decode cX4_step 27 = .ok (.aload_n 0, 1) := by decide +kernel
theorem dX4_step_28 : decode cX4_step 28 = .ok (.aload_n 0, 1) := by decide +kernel
theorem dX4_step_29 : decode cX4_step 29 = .ok (.iload_n 1, 1) := by decide +kernel
theorem dX4_step_30 : decode cX4_step 30 = .ok (.aload_n 0, 1) := by decide +kernel
theorem dX4_step_31 : decode cX4_step 31 = .ok (.getfield 43, 3) := by decide +kernel
theorem dX4_step_34 : decode cX4_step 34 = .ok (.aload_n 0, 1) := by decide +kernel
theorem dX4_step_35 : decode cX4_step 35 = .ok (.getfield 40, 3) := by decide +kernel
theorem dX4_step_38 : decode cX4_step 38 = .ok (.invokevirtual 79, 3) := by decide +kernel
theorem dX4_step_41 : decode cX4_step 41 = .ok (.putfield 43, 3) := by decide +kernel
theorem dX4_step_44 : decode cX4_step 44 = .ok (.iinc 3 1, 3) := by decide +kernel
theorem dX4_step_47 : decode cX4_step 47 = .ok (.goto (-25), 3) := by decide +kernel
theorem dX4_step_50 : decode cX4_step 50 = .ok (.aload_n 0, 1) := by decide +kernel
theorem dX4_step_51 : decode cX4_step 51 = .ok (.getfield 43, 3) := by decide +kernel
theorem dX4_step_54 : decode cX4_step 54 = .ok (.ireturn, 1) := by decide +kernel
theorem dX4_after_0 : decode cX4_after 0 = .ok (.iload_n 1, 1) := by decide +kernel
theorem dX4_after_1 : decode cX4_after 1 = .ok (.invokestatic 76, 3) := by decide +kernel
theorem dX4_after_4 : decode cX4_after 4 = .ok (.ifCond .eq 24, 3) := by decide +kernel
theorem dX4_after_7 : decode cX4_after 7 = .ok (.aload_n 0, 1) := by decide +kernel
theorem dX4_after_8 : decode cX4_after 8 = .ok (.iload_n 2, 1) := by decide +kernel
theorem dX4_after_9 : decode cX4_after 9 = .ok (.invokevirtual 55, 3) := by decide +kernel
theorem dX4_after_12 : decode cX4_after 12 = .ok (.ifCond .eq 16, 3) := by decide +kernel
theorem dX4_after_15 : decode cX4_after 15 = .ok (.aload_n 0, 1) := by decide +kernel
theorem dX4_after_16 : decode cX4_after 16 = .ok (.iload_n 1, 1) := by decide +kernel
theorem dX4_after_17 : decode cX4_after 17 = .ok (.iload_n 2, 1) := by decide +kernel
theorem dX4_after_18 : decode cX4_after 18 = .ok (.aload_n 0, 1) := by decide +kernel
theorem dX4_after_19 : decode cX4_after 19 = .ok (.getfield 40, 3) := by decide +kernel
theorem dX4_after_22 : decode cX4_after 22 = .ok (.invokevirtual 79, 3) := by decide +kernel
theorem dX4_after_25 : decode cX4_after 25 = .ok (.goto 5, 3) := by decide +kernel
theorem dX4_after_28 : decode cX4_after 28 = .ok (.bipush (-2), 2) := by decide +kernel
theorem dX4_after_30 : decode cX4_after 30 = .ok (.ireturn, 1) := by decide +kernel
theorem dX4_isBeginning_0 : decode cX4_isBeginning 0 = .ok (.iload_n 1, 1) := by decide +kernel
theorem dX4_isBeginning_1 : decode cX4_isBeginning 1 = .ok (.aload_n 0, 1) := by decide +kernel
theorem dX4_isBeginning_2 : decode cX4_isBeginning 2 = .ok (.getfield 43, 3) := by decide +kernel
theorem dX4_isBeginning_5 : decode cX4_isBeginning 5 = .ok (.ixor, 1) := by decide +kernel
theorem dX4_isBeginning_6 : decode cX4_isBeginning 6 = .ok (.aload_n 0, 1) := by decide +kernel
theorem dX4_isBeginning_7 : decode cX4_isBeginning 7 = .ok (.getfield 40, 3) := by decide +kernel
theorem dX4_isBeginning_10 : decode cX4_isBeginning 10 = .ok (.iand, 1) := by decide +kernel
theorem dX4_isBeginning_11 : decode cX4_isBeginning 11 = .ok (.ifCond .ne 7, 3) := by decide +kernel
theorem dX4_isBeginning_14 : decode cX4_isBeginning 14 = .ok (.iconst 1, 1) := by decide +kernel
theorem dX4_isBeginning_15 : decode cX4_isBeginning 15 = .ok (.goto 4, 3) := by decide +kernel
theorem dX4_isBeginning_18 : decode cX4_isBeginning 18 = .ok (.iconst 0, 1) := by decide +kernel
theorem dX4_isBeginning_19 : decode cX4_isBeginning 19 = .ok (.ireturn, 1) := by decide +kernel
theorem dX4_layBehind_0 : decode cX4_layBehind 0 = .ok (.iconst 0, 1) := by decide +kernel
theorem dX4_layBehind_1 : decode cX4_layBehind 1 = .ok (.istore_n 2, 1) := by decide +kernel
theorem dX4_layBehind_2 : decode cX4_layBehind 2 = .ok (.iload_n 2, 1) := by decide +kernel
theorem dX4_layBehind_3 : decode cX4_layBehind 3 = .ok (.aload_n 0, 1) := by decide +kernel
theorem dX4_layBehind_4 : decode cX4_layBehind 4 = .ok (.invokevirtual 36, 3) := by decide +kernel
theorem dX4_layBehind_7 : decode cX4_layBehind 7 = .ok (.if_icmp .ge 38, 3) := by decide +kernel
theorem dX4_layBehind_10 : decode cX4_layBehind 10 = .ok (.aload_n 0, 1) := by decide +kernel
theorem dX4_layBehind_11 : decode cX4_layBehind 11 = .ok (.getfield 23, 3) := by decide +kernel
theorem dX4_layBehind_14 : decode cX4_layBehind 14 = .ok (.iload_n 2, 1) := by decide +kernel
theorem dX4_layBehind_15 : decode cX4_layBehind 15 = .ok (.aload_n 0, 1) := by decide +kernel
theorem dX4_layBehind_16 : decode cX4_layBehind 16 = .ok (.iload_n 2, 1) := by decide +kernel
theorem dX4_layBehind_17 : decode cX4_layBehind 17 = .ok (.invokevirtual 82, 3) := by decide +kernel
theorem dX4_layBehind_20 : decode cX4_layBehind 20 = .ok (.ifCond .eq 16, 3) := by decide +kernel
theorem dX4_layBehind_23 : decode cX4_layBehind 23 = .ok (.aload_n 0, 1) := by decide +kernel
theorem dX4_layBehind_24 : decode cX4_layBehind 24 = .ok (.iload_n 1, 1) := by decide +kernel
theorem dX4_layBehind_25 : decode cX4_layBehind 25 = .ok (.iload_n 2, 1) := by decide +kernel
theorem dX4_layBehind_26 : decode cX4_layBehind 26 = .ok (.aload_n 0, 1) := by decide +kernel
theorem dX4_layBehind_27 : decode cX4_layBehind 27 = .ok (.getfield 40, 3) := by decide +kernel
theorem dX4_layBehind_30 : decode cX4_layBehind 30 = .ok (.invokevirtual 79, 3) := by decide +kernel
theorem dX4_layBehind_33 : decode cX4_layBehind 33 = .ok (.goto 5, 3) := by decide +kernel
theorem dX4_layBehind_36 : decode cX4_layBehind 36 = .ok (.bipush (-6), 2) := by decide +kernel
theorem dX4_layBehind_38 : decode cX4_layBehind 38 = .ok (.iastore, 1) := by decide +kernel
theorem dX4_layBehind_39 : decode cX4_layBehind 39 = .ok (.iinc 2 1, 3) := by decide +kernel
theorem dX4_layBehind_42 : decode cX4_layBehind 42 = .ok (.goto (-40), 3) := by decide +kernel
theorem dX4_layBehind_45 : decode cX4_layBehind 45 = .ok (.return_, 1) := by decide +kernel
theorem dX4_inRing_0 : decode cX4_inRing 0 = .ok (.iload_n 1, 1) := by decide +kernel
theorem dX4_inRing_1 : decode cX4_inRing 1 = .ok (.istore_n 2, 1) := by decide +kernel
theorem dX4_inRing_2 : decode cX4_inRing 2 = .ok (.iconst 0, 1) := by decide +kernel
theorem dX4_inRing_3 : decode cX4_inRing 3 = .ok (.istore_n 3, 1) := by decide +kernel
theorem dX4_inRing_4 : decode cX4_inRing 4 = .ok (.iload_n 3, 1) := by decide +kernel
theorem dX4_inRing_5 : decode cX4_inRing 5 = .ok (.aload_n 0, 1) := by decide +kernel
theorem dX4_inRing_6 : decode cX4_inRing 6 = .ok (.invokevirtual 36, 3) := by decide +kernel
theorem dX4_inRing_9 : decode cX4_inRing 9 = .ok (.if_icmp .ge 16, 3) := by decide +kernel
theorem dX4_inRing_12 : decode cX4_inRing 12 = .ok (.aload_n 0, 1) := by decide +kernel
theorem dX4_inRing_13 : decode cX4_inRing 13 = .ok (.getfield 23, 3) := by decide +kernel
theorem dX4_inRing_16 : decode cX4_inRing 16 = .ok (.iload_n 2, 1) := by decide +kernel
theorem dX4_inRing_17 : decode cX4_inRing 17 = .ok (.iaload, 1) := by decide +kernel
theorem dX4_inRing_18 : decode cX4_inRing 18 = .ok (.istore_n 2, 1) := by decide +kernel
theorem dX4_inRing_19 : decode cX4_inRing 19 = .ok (.iinc 3 1, 3) := by decide +kernel
theorem dX4_inRing_22 : decode cX4_inRing 22 = .ok (.goto (-18), 3) := by decide +kernel
theorem dX4_inRing_25 : decode cX4_inRing 25 = .ok (.iload_n 2, 1) := by decide +kernel
theorem dX4_inRing_26 : decode cX4_inRing 26 = .ok (.ireturn, 1) := by decide +kernel
theorem dX4_ringOf_0 : decode cX4_ringOf 0 = .ok (.iconst 1, 1) := by decide +kernel
theorem dX4_ringOf_1 : decode cX4_ringOf 1 = .ok (.istore_n 2, 1) := by decide +kernel
theorem dX4_ringOf_2 : decode cX4_ringOf 2 = .ok (.aload_n 0, 1) := by decide +kernel
theorem dX4_ringOf_3 : decode cX4_ringOf 3 = .ok (.getfield 23, 3) := by decide +kernel
theorem dX4_ringOf_6 : decode cX4_ringOf 6 = .ok (.iload_n 1, 1) := by decide +kernel
theorem dX4_ringOf_7 : decode cX4_ringOf 7 = .ok (.iaload, 1) := by decide +kernel
theorem dX4_ringOf_8 : decode cX4_ringOf 8 = .ok (.istore_n 3, 1) := by decide +kernel
theorem dX4_ringOf_9 : decode cX4_ringOf 9 = .ok (.iload_n 3, 1) := by decide +kernel
theorem dX4_ringOf_10 : decode cX4_ringOf 10 = .ok (.iload_n 1, 1) := by decide +kernel
theorem dX4_ringOf_11 : decode cX4_ringOf 11 = .ok (.if_icmp .eq 16, 3) := by decide +kernel
theorem dX4_ringOf_14 : decode cX4_ringOf 14 = .ok (.iinc 2 1, 3) := by decide +kernel
theorem dX4_ringOf_17 : decode cX4_ringOf 17 = .ok (.aload_n 0, 1) := by decide +kernel
theorem dX4_ringOf_18 : decode cX4_ringOf 18 = .ok (.getfield 23, 3) := by decide +kernel
theorem dX4_ringOf_21 : decode cX4_ringOf 21 = .ok (.iload_n 3, 1) := by decide +kernel
theorem dX4_ringOf_22 : decode cX4_ringOf 22 = .ok (.iaload, 1) := by decide +kernel
theorem dX4_ringOf_23 : decode cX4_ringOf 23 = .ok (.istore_n 3, 1) := by decide +kernel
theorem dX4_ringOf_24 : decode cX4_ringOf 24 = .ok (.goto (-15), 3) := by decide +kernel
theorem dX4_ringOf_27 : decode cX4_ringOf 27 = .ok (.iload_n 2, 1) := by decide +kernel
theorem dX4_ringOf_28 : decode cX4_ringOf 28 = .ok (.ireturn, 1) := by decide +kernel
theorem dX4_leastOf_0 : decode cX4_leastOf 0 = .ok (.iload_n 1, 1) := by decide +kernel
theorem dX4_leastOf_1 : decode cX4_leastOf 1 = .ok (.istore_n 2, 1) := by decide +kernel
theorem dX4_leastOf_2 : decode cX4_leastOf 2 = .ok (.aload_n 0, 1) := by decide +kernel
theorem dX4_leastOf_3 : decode cX4_leastOf 3 = .ok (.getfield 23, 3) := by decide +kernel
theorem dX4_leastOf_6 : decode cX4_leastOf 6 = .ok (.iload_n 1, 1) := by decide +kernel
theorem dX4_leastOf_7 : decode cX4_leastOf 7 = .ok (.iaload, 1) := by decide +kernel
theorem dX4_leastOf_8 : decode cX4_leastOf 8 = .ok (.istore_n 3, 1) := by decide +kernel
theorem dX4_leastOf_9 : decode cX4_leastOf 9 = .ok (.iload_n 3, 1) := by decide +kernel
theorem dX4_leastOf_10 : decode cX4_leastOf 10 = .ok (.iload_n 1, 1) := by decide +kernel
theorem dX4_leastOf_11 : decode cX4_leastOf 11 = .ok (.if_icmp .eq 24, 3) := by decide +kernel
theorem dX4_leastOf_14 : decode cX4_leastOf 14 = .ok (.iload_n 3, 1) := by decide +kernel
theorem dX4_leastOf_15 : decode cX4_leastOf 15 = .ok (.iload_n 2, 1) := by decide +kernel
theorem dX4_leastOf_16 : decode cX4_leastOf 16 = .ok (.if_icmp .ge 7, 3) := by decide +kernel
theorem dX4_leastOf_19 : decode cX4_leastOf 19 = .ok (.iload_n 3, 1) := by decide +kernel
theorem dX4_leastOf_20 : decode cX4_leastOf 20 = .ok (.goto 4, 3) := by decide +kernel
theorem dX4_leastOf_23 : decode cX4_leastOf 23 = .ok (.iload_n 2, 1) := by decide +kernel
theorem dX4_leastOf_24 : decode cX4_leastOf 24 = .ok (.istore_n 2, 1) := by decide +kernel
theorem dX4_leastOf_25 : decode cX4_leastOf 25 = .ok (.aload_n 0, 1) := by decide +kernel
theorem dX4_leastOf_26 : decode cX4_leastOf 26 = .ok (.getfield 23, 3) := by decide +kernel
theorem dX4_leastOf_29 : decode cX4_leastOf 29 = .ok (.iload_n 3, 1) := by decide +kernel
theorem dX4_leastOf_30 : decode cX4_leastOf 30 = .ok (.iaload, 1) := by decide +kernel
theorem dX4_leastOf_31 : decode cX4_leastOf 31 = .ok (.istore_n 3, 1) := by decide +kernel
theorem dX4_leastOf_32 : decode cX4_leastOf 32 = .ok (.goto (-23), 3) := by decide +kernel
theorem dX4_leastOf_35 : decode cX4_leastOf 35 = .ok (.iload_n 2, 1) := by decide +kernel
theorem dX4_leastOf_36 : decode cX4_leastOf 36 = .ok (.ireturn, 1) := by decide +kernel
theorem dX4_goes_0 : decode cX4_goes 0 = .ok (.iload_n 1, 1) := by decide +kernel
theorem dX4_goes_1 : decode cX4_goes 1 = .ok (.invokestatic 76, 3) := by decide +kernel
theorem dX4_goes_4 : decode cX4_goes 4 = .ok (.ifCond .eq 12, 3) := by decide +kernel
theorem dX4_goes_7 : decode cX4_goes 7 = .ok (.iload_n 2, 1) := by decide +kernel
theorem dX4_goes_8 : decode cX4_goes 8 = .ok (.iconst 0, 1) := by decide +kernel
theorem dX4_goes_9 : decode cX4_goes 9 = .ok (.iconst 3, 1) := by decide +kernel
theorem dX4_goes_10 : decode cX4_goes 10 = .ok (.invokestatic 32, 3) := by decide +kernel
theorem dX4_goes_13 : decode cX4_goes 13 = .ok (.ifCond .ne 6, 3) := by decide +kernel
theorem dX4_goes_16 : decode cX4_goes 16 = .ok (.bipush (-2), 2) := by decide +kernel
theorem dX4_goes_18 : decode cX4_goes 18 = .ok (.ireturn, 1) := by decide +kernel
theorem dX4_goes_19 : decode cX4_goes 19 = .ok (.aload_n 0, 1) := by decide +kernel
theorem dX4_goes_20 : decode cX4_goes 20 = .ok (.iload_n 1, 1) := by decide +kernel
theorem dX4_goes_21 : decode cX4_goes 21 = .ok (.invokevirtual 85, 3) := by decide +kernel
theorem dX4_goes_24 : decode cX4_goes 24 = .ok (.aload_n 0, 1) := by decide +kernel
theorem dX4_goes_25 : decode cX4_goes 25 = .ok (.aload_n 0, 1) := by decide +kernel
theorem dX4_goes_26 : decode cX4_goes 26 = .ok (.getfield 43, 3) := by decide +kernel
theorem dX4_goes_29 : decode cX4_goes 29 = .ok (.invokevirtual 89, 3) := by decide +kernel
theorem dX4_goes_32 : decode cX4_goes 32 = .ok (.istore_n 3, 1) := by decide +kernel
theorem dX4_goes_33 : decode cX4_goes 33 = .ok (.iconst 0, 1) := by decide +kernel
theorem dX4_goes_34 : decode cX4_goes 34 = .ok (.istore 4, 2) := by decide +kernel
theorem dX4_goes_36 : decode cX4_goes 36 = .ok (.aload_n 0, 1) := by decide +kernel
theorem dX4_goes_37 : decode cX4_goes 37 = .ok (.getfield 43, 3) := by decide +kernel
theorem dX4_goes_40 : decode cX4_goes 40 = .ok (.istore 5, 2) := by decide +kernel
theorem dX4_goes_42 : decode cX4_goes 42 = .ok (.aload_n 0, 1) := by decide +kernel
theorem dX4_goes_43 : decode cX4_goes 43 = .ok (.iload 5, 2) := by decide +kernel
theorem dX4_goes_45 : decode cX4_goes 45 = .ok (.iload_n 3, 1) := by decide +kernel
theorem dX4_goes_46 : decode cX4_goes 46 = .ok (.invokevirtual 93, 3) := by decide +kernel
theorem dX4_goes_49 : decode cX4_goes 49 = .ok (.ifCond .ne 18, 3) := by decide +kernel
theorem dX4_goes_52 : decode cX4_goes 52 = .ok (.aload_n 0, 1) := by decide +kernel
theorem dX4_goes_53 : decode cX4_goes 53 = .ok (.getfield 23, 3) := by decide +kernel
theorem dX4_goes_56 : decode cX4_goes 56 = .ok (.iload 5, 2) := by decide +kernel
theorem dX4_goes_58 : decode cX4_goes 58 = .ok (.iaload, 1) := by decide +kernel
theorem dX4_goes_59 : decode cX4_goes 59 = .ok (.istore 5, 2) := by decide +kernel
theorem dX4_goes_61 : decode cX4_goes 61 = .ok (.iinc 4 1, 3) := by decide +kernel
theorem dX4_goes_64 : decode cX4_goes 64 = .ok (.goto (-22), 3) := by decide +kernel
theorem dX4_goes_67 : decode cX4_goes 67 = .ok (.iload_n 2, 1) := by decide +kernel
theorem dX4_goes_68 : decode cX4_goes 68 = .ok (.ifCond .ne 8, 3) := by decide +kernel
theorem dX4_goes_71 : decode cX4_goes 71 = .ok (.iload 4, 2) := by decide +kernel
theorem dX4_goes_73 : decode cX4_goes 73 = .ok (.goto 31, 3) := by decide +kernel
theorem dX4_goes_76 : decode cX4_goes 76 = .ok (.iload_n 2, 1) := by decide +kernel
theorem dX4_goes_77 : decode cX4_goes 77 = .ok (.iconst 1, 1) := by decide +kernel
theorem dX4_goes_78 : decode cX4_goes 78 = .ok (.if_icmp .ne 11, 3) := by decide +kernel
theorem dX4_goes_81 : decode cX4_goes 81 = .ok (.aload_n 0, 1) := by decide +kernel
theorem dX4_goes_82 : decode cX4_goes 82 = .ok (.iload_n 3, 1) := by decide +kernel
theorem dX4_goes_83 : decode cX4_goes 83 = .ok (.invokevirtual 96, 3) := by decide +kernel
theorem dX4_goes_86 : decode cX4_goes 86 = .ok (.goto 18, 3) := by decide +kernel
theorem dX4_goes_89 : decode cX4_goes 89 = .ok (.iload_n 2, 1) := by decide +kernel
theorem dX4_goes_90 : decode cX4_goes 90 = .ok (.iconst 2, 1) := by decide +kernel
theorem dX4_goes_91 : decode cX4_goes 91 = .ok (.if_icmp .ne 11, 3) := by decide +kernel
theorem dX4_goes_94 : decode cX4_goes 94 = .ok (.aload_n 0, 1) := by decide +kernel
theorem dX4_goes_95 : decode cX4_goes 95 = .ok (.iload_n 3, 1) := by decide +kernel
theorem dX4_goes_96 : decode cX4_goes 96 = .ok (.invokevirtual 99, 3) := by decide +kernel
theorem dX4_goes_99 : decode cX4_goes 99 = .ok (.goto 5, 3) := by decide +kernel
theorem dX4_goes_102 : decode cX4_goes 102 = .ok (.iload 5, 2) := by decide +kernel
theorem dX4_goes_104 : decode cX4_goes 104 = .ok (.ireturn, 1) := by decide +kernel
theorem dX4_isOn_0 : decode cX4_isOn 0 = .ok (.iload_n 1, 1) := by decide +kernel
theorem dX4_isOn_1 : decode cX4_isOn 1 = .ok (.iload_n 2, 1) := by decide +kernel
theorem dX4_isOn_2 : decode cX4_isOn 2 = .ok (.if_icmp .ne 7, 3) := by decide +kernel
theorem dX4_isOn_5 : decode cX4_isOn 5 = .ok (.iconst 1, 1) := by decide +kernel
theorem dX4_isOn_6 : decode cX4_isOn 6 = .ok (.goto 4, 3) := by decide +kernel
theorem dX4_isOn_9 : decode cX4_isOn 9 = .ok (.iconst 0, 1) := by decide +kernel
theorem dX4_isOn_10 : decode cX4_isOn 10 = .ok (.istore_n 3, 1) := by decide +kernel
theorem dX4_isOn_11 : decode cX4_isOn 11 = .ok (.aload_n 0, 1) := by decide +kernel
theorem dX4_isOn_12 : decode cX4_isOn 12 = .ok (.getfield 23, 3) := by decide +kernel
theorem dX4_isOn_15 : decode cX4_isOn 15 = .ok (.iload_n 2, 1) := by decide +kernel
theorem dX4_isOn_16 : decode cX4_isOn 16 = .ok (.iaload, 1) := by decide +kernel
theorem dX4_isOn_17 : decode cX4_isOn 17 = .ok (.istore 4, 2) := by decide +kernel
theorem dX4_isOn_19 : decode cX4_isOn 19 = .ok (.iload 4, 2) := by decide +kernel
theorem dX4_isOn_21 : decode cX4_isOn 21 = .ok (.iload_n 2, 1) := by decide +kernel
theorem dX4_isOn_22 : decode cX4_isOn 22 = .ok (.if_icmp .eq 31, 3) := by decide +kernel
theorem dX4_isOn_25 : decode cX4_isOn 25 = .ok (.iload_n 3, 1) := by decide +kernel
theorem dX4_isOn_26 : decode cX4_isOn 26 = .ok (.ifCond .ne 27, 3) := by decide +kernel
theorem dX4_isOn_29 : decode cX4_isOn 29 = .ok (.iload 4, 2) := by decide +kernel
theorem dX4_isOn_31 : decode cX4_isOn 31 = .ok (.iload_n 1, 1) := by decide +kernel
theorem dX4_isOn_32 : decode cX4_isOn 32 = .ok (.if_icmp .ne 7, 3) := by decide +kernel
theorem dX4_isOn_35 : decode cX4_isOn 35 = .ok (.iconst 1, 1) := by decide +kernel
theorem dX4_isOn_36 : decode cX4_isOn 36 = .ok (.goto 4, 3) := by decide +kernel
theorem dX4_isOn_39 : decode cX4_isOn 39 = .ok (.iconst 0, 1) := by decide +kernel
theorem dX4_isOn_40 : decode cX4_isOn 40 = .ok (.istore_n 3, 1) := by decide +kernel
theorem dX4_isOn_41 : decode cX4_isOn 41 = .ok (.aload_n 0, 1) := by decide +kernel
theorem dX4_isOn_42 : decode cX4_isOn 42 = .ok (.getfield 23, 3) := by decide +kernel
theorem dX4_isOn_45 : decode cX4_isOn 45 = .ok (.iload 4, 2) := by decide +kernel
theorem dX4_isOn_47 : decode cX4_isOn 47 = .ok (.iaload, 1) := by decide +kernel
theorem dX4_isOn_48 : decode cX4_isOn 48 = .ok (.istore 4, 2) := by decide +kernel
theorem dX4_isOn_50 : decode cX4_isOn 50 = .ok (.goto (-31), 3) := by decide +kernel
theorem dX4_isOn_53 : decode cX4_isOn 53 = .ok (.iload_n 3, 1) := by decide +kernel
theorem dX4_isOn_54 : decode cX4_isOn 54 = .ok (.ireturn, 1) := by decide +kernel
theorem dX4_layEnds_0 : decode cX4_layEnds 0 = .ok (.aload_n 0, 1) := by decide +kernel
theorem dX4_layEnds_1 : decode cX4_layEnds 1 = .ok (.iload_n 1, 1) := by decide +kernel
theorem dX4_layEnds_2 : decode cX4_layEnds 2 = .ok (.invokevirtual 85, 3) := by decide +kernel
theorem dX4_layEnds_5 : decode cX4_layEnds 5 = .ok (.iconst 0, 1) := by decide +kernel
theorem dX4_layEnds_6 : decode cX4_layEnds 6 = .ok (.istore_n 2, 1) := by decide +kernel
theorem dX4_layEnds_7 : decode cX4_layEnds 7 = .ok (.iload_n 2, 1) := by decide +kernel
theorem dX4_layEnds_8 : decode cX4_layEnds 8 = .ok (.aload_n 0, 1) := by decide +kernel
theorem dX4_layEnds_9 : decode cX4_layEnds 9 = .ok (.invokevirtual 36, 3) := by decide +kernel
theorem dX4_layEnds_12 : decode cX4_layEnds 12 = .ok (.if_icmp .ge 17, 3) := by decide +kernel
theorem dX4_layEnds_15 : decode cX4_layEnds 15 = .ok (.aload_n 0, 1) := by decide +kernel
theorem dX4_layEnds_16 : decode cX4_layEnds 16 = .ok (.getfield 26, 3) := by decide +kernel
theorem dX4_layEnds_19 : decode cX4_layEnds 19 = .ok (.iload_n 2, 1) := by decide +kernel
theorem dX4_layEnds_20 : decode cX4_layEnds 20 = .ok (.bipush (-6), 2) := by decide +kernel
theorem dX4_layEnds_22 : decode cX4_layEnds 22 = .ok (.iastore, 1) := by decide +kernel
theorem dX4_layEnds_23 : decode cX4_layEnds 23 = .ok (.iinc 2 1, 3) := by decide +kernel
theorem dX4_layEnds_26 : decode cX4_layEnds 26 = .ok (.goto (-19), 3) := by decide +kernel
theorem dX4_layEnds_29 : decode cX4_layEnds 29 = .ok (.iconst 0, 1) := by decide +kernel
theorem dX4_layEnds_30 : decode cX4_layEnds 30 = .ok (.istore_n 2, 1) := by decide +kernel
theorem dX4_layEnds_31 : decode cX4_layEnds 31 = .ok (.iload_n 2, 1) := by decide +kernel
theorem dX4_layEnds_32 : decode cX4_layEnds 32 = .ok (.aload_n 0, 1) := by decide +kernel
theorem dX4_layEnds_33 : decode cX4_layEnds 33 = .ok (.invokevirtual 36, 3) := by decide +kernel
theorem dX4_layEnds_36 : decode cX4_layEnds 36 = .ok (.if_icmp .ge 97, 3) := by decide +kernel
theorem dX4_layEnds_39 : decode cX4_layEnds 39 = .ok (.aload_n 0, 1) := by decide +kernel
theorem dX4_layEnds_40 : decode cX4_layEnds 40 = .ok (.iload_n 2, 1) := by decide +kernel
theorem dX4_layEnds_41 : decode cX4_layEnds 41 = .ok (.invokevirtual 82, 3) := by decide +kernel
theorem dX4_layEnds_44 : decode cX4_layEnds 44 = .ok (.ifCond .eq 83, 3) := by decide +kernel
theorem dX4_layEnds_47 : decode cX4_layEnds 47 = .ok (.aload_n 0, 1) := by decide +kernel
theorem dX4_layEnds_48 : decode cX4_layEnds 48 = .ok (.iload_n 2, 1) := by decide +kernel
theorem dX4_layEnds_49 : decode cX4_layEnds 49 = .ok (.invokevirtual 89, 3) := by decide +kernel
theorem dX4_layEnds_52 : decode cX4_layEnds 52 = .ok (.istore_n 3, 1) := by decide +kernel
theorem dX4_layEnds_53 : decode cX4_layEnds 53 = .ok (.aload_n 0, 1) := by decide +kernel
theorem dX4_layEnds_54 : decode cX4_layEnds 54 = .ok (.getfield 26, 3) := by decide +kernel
theorem dX4_layEnds_57 : decode cX4_layEnds 57 = .ok (.iload_n 3, 1) := by decide +kernel
theorem dX4_layEnds_58 : decode cX4_layEnds 58 = .ok (.iaload, 1) := by decide +kernel
theorem dX4_layEnds_59 : decode cX4_layEnds 59 = .ok (.ifCond .ge 68, 3) := by decide +kernel
theorem dX4_layEnds_62 : decode cX4_layEnds 62 = .ok (.aload_n 0, 1) := by decide +kernel
theorem dX4_layEnds_63 : decode cX4_layEnds 63 = .ok (.iload_n 3, 1) := by decide +kernel
theorem dX4_layEnds_64 : decode cX4_layEnds 64 = .ok (.invokevirtual 99, 3) := by decide +kernel
theorem dX4_layEnds_67 : decode cX4_layEnds 67 = .ok (.istore 4, 2) := by decide +kernel
theorem dX4_layEnds_69 : decode cX4_layEnds 69 = .ok (.aload_n 0, 1) := by decide +kernel
theorem dX4_layEnds_70 : decode cX4_layEnds 70 = .ok (.getfield 26, 3) := by decide +kernel
theorem dX4_layEnds_73 : decode cX4_layEnds 73 = .ok (.iload_n 3, 1) := by decide +kernel
theorem dX4_layEnds_74 : decode cX4_layEnds 74 = .ok (.iload 4, 2) := by decide +kernel
theorem dX4_layEnds_76 : decode cX4_layEnds 76 = .ok (.iastore, 1) := by decide +kernel
theorem dX4_layEnds_77 : decode cX4_layEnds 77 = .ok (.aload_n 0, 1) := by decide +kernel
theorem dX4_layEnds_78 : decode cX4_layEnds 78 = .ok (.getfield 29, 3) := by decide +kernel
theorem dX4_layEnds_81 : decode cX4_layEnds 81 = .ok (.iload_n 3, 1) := by decide +kernel
theorem dX4_layEnds_82 : decode cX4_layEnds 82 = .ok (.iconst 0, 1) := by decide +kernel
theorem dX4_layEnds_83 : decode cX4_layEnds 83 = .ok (.iastore, 1) := by decide +kernel
theorem dX4_layEnds_84 : decode cX4_layEnds 84 = .ok (.aload_n 0, 1) := by decide +kernel
theorem dX4_layEnds_85 : decode cX4_layEnds 85 = .ok (.getfield 23, 3) := by decide +kernel
theorem dX4_layEnds_88 : decode cX4_layEnds 88 = .ok (.iload_n 3, 1) := by decide +kernel
theorem dX4_layEnds_89 : decode cX4_layEnds 89 = .ok (.iaload, 1) := by decide +kernel
theorem dX4_layEnds_90 : decode cX4_layEnds 90 = .ok (.istore 5, 2) := by decide +kernel
theorem dX4_layEnds_92 : decode cX4_layEnds 92 = .ok (.iload 5, 2) := by decide +kernel
theorem dX4_layEnds_94 : decode cX4_layEnds 94 = .ok (.iload_n 3, 1) := by decide +kernel
theorem dX4_layEnds_95 : decode cX4_layEnds 95 = .ok (.if_icmp .eq 32, 3) := by decide +kernel
theorem dX4_layEnds_98 : decode cX4_layEnds 98 = .ok (.aload_n 0, 1) := by decide +kernel
theorem dX4_layEnds_99 : decode cX4_layEnds 99 = .ok (.getfield 26, 3) := by decide +kernel
theorem dX4_layEnds_102 : decode cX4_layEnds 102 = .ok (.iload 5, 2) := by decide +kernel
theorem dX4_layEnds_104 : decode cX4_layEnds 104 = .ok (.iload 4, 2) := by decide +kernel
theorem dX4_layEnds_106 : decode cX4_layEnds 106 = .ok (.iastore, 1) := by decide +kernel
theorem dX4_layEnds_107 : decode cX4_layEnds 107 = .ok (.aload_n 0, 1) := by decide +kernel
theorem dX4_layEnds_108 : decode cX4_layEnds 108 = .ok (.getfield 29, 3) := by decide +kernel
theorem dX4_layEnds_111 : decode cX4_layEnds 111 = .ok (.iload 5, 2) := by decide +kernel
theorem dX4_layEnds_113 : decode cX4_layEnds 113 = .ok (.iconst 0, 1) := by decide +kernel
theorem dX4_layEnds_114 : decode cX4_layEnds 114 = .ok (.iastore, 1) := by decide +kernel
theorem dX4_layEnds_115 : decode cX4_layEnds 115 = .ok (.aload_n 0, 1) := by decide +kernel
theorem dX4_layEnds_116 : decode cX4_layEnds 116 = .ok (.getfield 23, 3) := by decide +kernel
theorem dX4_layEnds_119 : decode cX4_layEnds 119 = .ok (.iload 5, 2) := by decide +kernel
theorem dX4_layEnds_121 : decode cX4_layEnds 121 = .ok (.iaload, 1) := by decide +kernel
theorem dX4_layEnds_122 : decode cX4_layEnds 122 = .ok (.istore 5, 2) := by decide +kernel
theorem dX4_layEnds_124 : decode cX4_layEnds 124 = .ok (.goto (-32), 3) := by decide +kernel
theorem dX4_layEnds_127 : decode cX4_layEnds 127 = .ok (.iinc 2 1, 3) := by decide +kernel
theorem dX4_layEnds_130 : decode cX4_layEnds 130 = .ok (.goto (-99), 3) := by decide +kernel
theorem dX4_layEnds_133 : decode cX4_layEnds 133 = .ok (.iconst 1, 1) := by decide +kernel
theorem dX4_layEnds_134 : decode cX4_layEnds 134 = .ok (.istore_n 2, 1) := by decide +kernel
theorem dX4_layEnds_135 : decode cX4_layEnds 135 = .ok (.iload_n 2, 1) := by decide +kernel
theorem dX4_layEnds_136 : decode cX4_layEnds 136 = .ok (.ifCond .eq 93, 3) := by decide +kernel
theorem dX4_layEnds_139 : decode cX4_layEnds 139 = .ok (.iconst 0, 1) := by decide +kernel
theorem dX4_layEnds_140 : decode cX4_layEnds 140 = .ok (.istore_n 2, 1) := by decide +kernel
theorem dX4_layEnds_141 : decode cX4_layEnds 141 = .ok (.iconst 0, 1) := by decide +kernel
theorem dX4_layEnds_142 : decode cX4_layEnds 142 = .ok (.istore_n 3, 1) := by decide +kernel
theorem dX4_layEnds_143 : decode cX4_layEnds 143 = .ok (.iload_n 3, 1) := by decide +kernel
theorem dX4_layEnds_144 : decode cX4_layEnds 144 = .ok (.aload_n 0, 1) := by decide +kernel
theorem dX4_layEnds_145 : decode cX4_layEnds 145 = .ok (.invokevirtual 36, 3) := by decide +kernel
theorem dX4_layEnds_148 : decode cX4_layEnds 148 = .ok (.if_icmp .ge 78, 3) := by decide +kernel
theorem dX4_layEnds_151 : decode cX4_layEnds 151 = .ok (.aload_n 0, 1) := by decide +kernel
theorem dX4_layEnds_152 : decode cX4_layEnds 152 = .ok (.iload_n 3, 1) := by decide +kernel
theorem dX4_layEnds_153 : decode cX4_layEnds 153 = .ok (.invokevirtual 82, 3) := by decide +kernel
theorem dX4_layEnds_156 : decode cX4_layEnds 156 = .ok (.ifCond .eq 64, 3) := by decide +kernel
theorem dX4_layEnds_159 : decode cX4_layEnds 159 = .ok (.aload_n 0, 1) := by decide +kernel
theorem dX4_layEnds_160 : decode cX4_layEnds 160 = .ok (.getfield 26, 3) := by decide +kernel
theorem dX4_layEnds_163 : decode cX4_layEnds 163 = .ok (.iload_n 3, 1) := by decide +kernel
theorem dX4_layEnds_164 : decode cX4_layEnds 164 = .ok (.iaload, 1) := by decide +kernel
theorem dX4_layEnds_165 : decode cX4_layEnds 165 = .ok (.ifCond .ge 55, 3) := by decide +kernel
theorem dX4_layEnds_168 : decode cX4_layEnds 168 = .ok (.aload_n 0, 1) := by decide +kernel
theorem dX4_layEnds_169 : decode cX4_layEnds 169 = .ok (.getfield 26, 3) := by decide +kernel
theorem dX4_layEnds_172 : decode cX4_layEnds 172 = .ok (.aload_n 0, 1) := by decide +kernel
theorem dX4_layEnds_173 : decode cX4_layEnds 173 = .ok (.getfield 23, 3) := by decide +kernel
theorem dX4_layEnds_176 : decode cX4_layEnds 176 = .ok (.iload_n 3, 1) := by decide +kernel
theorem dX4_layEnds_177 : decode cX4_layEnds 177 = .ok (.iaload, 1) := by decide +kernel
theorem dX4_layEnds_178 : decode cX4_layEnds 178 = .ok (.iaload, 1) := by decide +kernel
theorem dX4_layEnds_179 : decode cX4_layEnds 179 = .ok (.ifCond .lt 41, 3) := by decide +kernel
theorem dX4_layEnds_182 : decode cX4_layEnds 182 = .ok (.aload_n 0, 1) := by decide +kernel
theorem dX4_layEnds_183 : decode cX4_layEnds 183 = .ok (.getfield 26, 3) := by decide +kernel
theorem dX4_layEnds_186 : decode cX4_layEnds 186 = .ok (.iload_n 3, 1) := by decide +kernel
theorem dX4_layEnds_187 : decode cX4_layEnds 187 = .ok (.aload_n 0, 1) := by decide +kernel
theorem dX4_layEnds_188 : decode cX4_layEnds 188 = .ok (.getfield 26, 3) := by decide +kernel
theorem dX4_layEnds_191 : decode cX4_layEnds 191 = .ok (.aload_n 0, 1) := by decide +kernel
theorem dX4_layEnds_192 : decode cX4_layEnds 192 = .ok (.getfield 23, 3) := by decide +kernel
theorem dX4_layEnds_195 : decode cX4_layEnds 195 = .ok (.iload_n 3, 1) := by decide +kernel
theorem dX4_layEnds_196 : decode cX4_layEnds 196 = .ok (.iaload, 1) := by decide +kernel
theorem dX4_layEnds_197 : decode cX4_layEnds 197 = .ok (.iaload, 1) := by decide +kernel
theorem dX4_layEnds_198 : decode cX4_layEnds 198 = .ok (.iastore, 1) := by decide +kernel
theorem dX4_layEnds_199 : decode cX4_layEnds 199 = .ok (.aload_n 0, 1) := by decide +kernel
theorem dX4_layEnds_200 : decode cX4_layEnds 200 = .ok (.getfield 29, 3) := by decide +kernel
theorem dX4_layEnds_203 : decode cX4_layEnds 203 = .ok (.iload_n 3, 1) := by decide +kernel
theorem dX4_layEnds_204 : decode cX4_layEnds 204 = .ok (.aload_n 0, 1) := by decide +kernel
theorem dX4_layEnds_205 : decode cX4_layEnds 205 = .ok (.getfield 29, 3) := by decide +kernel
theorem dX4_layEnds_208 : decode cX4_layEnds 208 = .ok (.aload_n 0, 1) := by decide +kernel
theorem dX4_layEnds_209 : decode cX4_layEnds 209 = .ok (.getfield 23, 3) := by decide +kernel
theorem dX4_layEnds_212 : decode cX4_layEnds 212 = .ok (.iload_n 3, 1) := by decide +kernel
theorem dX4_layEnds_213 : decode cX4_layEnds 213 = .ok (.iaload, 1) := by decide +kernel
theorem dX4_layEnds_214 : decode cX4_layEnds 214 = .ok (.iaload, 1) := by decide +kernel
theorem dX4_layEnds_215 : decode cX4_layEnds 215 = .ok (.iconst 1, 1) := by decide +kernel
theorem dX4_layEnds_216 : decode cX4_layEnds 216 = .ok (.iadd, 1) := by decide +kernel
theorem dX4_layEnds_217 : decode cX4_layEnds 217 = .ok (.iastore, 1) := by decide +kernel
theorem dX4_layEnds_218 : decode cX4_layEnds 218 = .ok (.iconst 1, 1) := by decide +kernel
theorem dX4_layEnds_219 : decode cX4_layEnds 219 = .ok (.istore_n 2, 1) := by decide +kernel
theorem dX4_layEnds_220 : decode cX4_layEnds 220 = .ok (.iinc 3 1, 3) := by decide +kernel
theorem dX4_layEnds_223 : decode cX4_layEnds 223 = .ok (.goto (-80), 3) := by decide +kernel
theorem dX4_layEnds_226 : decode cX4_layEnds 226 = .ok (.goto (-91), 3) := by decide +kernel
theorem dX4_layEnds_229 : decode cX4_layEnds 229 = .ok (.return_, 1) := by decide +kernel
theorem dX4_endAt_0 : decode cX4_endAt 0 = .ok (.iconst 0, 1) := by decide +kernel
theorem dX4_endAt_1 : decode cX4_endAt 1 = .ok (.istore_n 2, 1) := by decide +kernel
theorem dX4_endAt_2 : decode cX4_endAt 2 = .ok (.iconst 0, 1) := by decide +kernel
theorem dX4_endAt_3 : decode cX4_endAt 3 = .ok (.istore_n 3, 1) := by decide +kernel
theorem dX4_endAt_4 : decode cX4_endAt 4 = .ok (.iload_n 3, 1) := by decide +kernel
theorem dX4_endAt_5 : decode cX4_endAt 5 = .ok (.aload_n 0, 1) := by decide +kernel
theorem dX4_endAt_6 : decode cX4_endAt 6 = .ok (.invokevirtual 36, 3) := by decide +kernel
theorem dX4_endAt_9 : decode cX4_endAt 9 = .ok (.if_icmp .ge 29, 3) := by decide +kernel
theorem dX4_endAt_12 : decode cX4_endAt 12 = .ok (.aload_n 0, 1) := by decide +kernel
theorem dX4_endAt_13 : decode cX4_endAt 13 = .ok (.getfield 26, 3) := by decide +kernel
theorem dX4_endAt_16 : decode cX4_endAt 16 = .ok (.iload_n 3, 1) := by decide +kernel
theorem dX4_endAt_17 : decode cX4_endAt 17 = .ok (.iaload, 1) := by decide +kernel
theorem dX4_endAt_18 : decode cX4_endAt 18 = .ok (.iload_n 3, 1) := by decide +kernel
theorem dX4_endAt_19 : decode cX4_endAt 19 = .ok (.if_icmp .ne 13, 3) := by decide +kernel
theorem dX4_endAt_22 : decode cX4_endAt 22 = .ok (.iload_n 2, 1) := by decide +kernel
theorem dX4_endAt_23 : decode cX4_endAt 23 = .ok (.iload_n 1, 1) := by decide +kernel
theorem dX4_endAt_24 : decode cX4_endAt 24 = .ok (.if_icmp .ne 5, 3) := by decide +kernel
theorem dX4_endAt_27 : decode cX4_endAt 27 = .ok (.iload_n 3, 1) := by decide +kernel
theorem dX4_endAt_28 : decode cX4_endAt 28 = .ok (.ireturn, 1) := by decide +kernel
theorem dX4_endAt_29 : decode cX4_endAt 29 = .ok (.iinc 2 1, 3) := by decide +kernel
theorem dX4_endAt_32 : decode cX4_endAt 32 = .ok (.iinc 3 1, 3) := by decide +kernel
theorem dX4_endAt_35 : decode cX4_endAt 35 = .ok (.goto (-31), 3) := by decide +kernel
theorem dX4_endAt_38 : decode cX4_endAt 38 = .ok (.iload_n 1, 1) := by decide +kernel
theorem dX4_endAt_39 : decode cX4_endAt 39 = .ok (.iconst (-1), 1) := by decide +kernel
theorem dX4_endAt_40 : decode cX4_endAt 40 = .ok (.if_icmp .ne 7, 3) := by decide +kernel
theorem dX4_endAt_43 : decode cX4_endAt 43 = .ok (.iload_n 2, 1) := by decide +kernel
theorem dX4_endAt_44 : decode cX4_endAt 44 = .ok (.goto 5, 3) := by decide +kernel
theorem dX4_endAt_47 : decode cX4_endAt 47 = .ok (.bipush (-6), 2) := by decide +kernel
theorem dX4_endAt_49 : decode cX4_endAt 49 = .ok (.ireturn, 1) := by decide +kernel
theorem dX4_end_0 : decode cX4_end 0 = .ok (.iload_n 1, 1) := by decide +kernel
theorem dX4_end_1 : decode cX4_end 1 = .ok (.invokestatic 76, 3) := by decide +kernel
theorem dX4_end_4 : decode cX4_end 4 = .ok (.ifCond .ne 6, 3) := by decide +kernel
theorem dX4_end_7 : decode cX4_end 7 = .ok (.bipush (-2), 2) := by decide +kernel
theorem dX4_end_9 : decode cX4_end 9 = .ok (.ireturn, 1) := by decide +kernel
theorem dX4_end_10 : decode cX4_end 10 = .ok (.aload_n 0, 1) := by decide +kernel
theorem dX4_end_11 : decode cX4_end 11 = .ok (.iload_n 1, 1) := by decide +kernel
theorem dX4_end_12 : decode cX4_end 12 = .ok (.invokevirtual 102, 3) := by decide +kernel
theorem dX4_end_15 : decode cX4_end 15 = .ok (.aload_n 0, 1) := by decide +kernel
theorem dX4_end_16 : decode cX4_end 16 = .ok (.iload_n 2, 1) := by decide +kernel
theorem dX4_end_17 : decode cX4_end 17 = .ok (.invokevirtual 105, 3) := by decide +kernel
theorem dX4_end_20 : decode cX4_end 20 = .ok (.ireturn, 1) := by decide +kernel
theorem dX4_basin_0 : decode cX4_basin 0 = .ok (.iload_n 1, 1) := by decide +kernel
theorem dX4_basin_1 : decode cX4_basin 1 = .ok (.invokestatic 76, 3) := by decide +kernel
theorem dX4_basin_4 : decode cX4_basin 4 = .ok (.ifCond .eq 12, 3) := by decide +kernel
theorem dX4_basin_7 : decode cX4_basin 7 = .ok (.iload_n 3, 1) := by decide +kernel
theorem dX4_basin_8 : decode cX4_basin 8 = .ok (.iconst 0, 1) := by decide +kernel
theorem dX4_basin_9 : decode cX4_basin 9 = .ok (.iconst 2, 1) := by decide +kernel
theorem dX4_basin_10 : decode cX4_basin 10 = .ok (.invokestatic 32, 3) := by decide +kernel
theorem dX4_basin_13 : decode cX4_basin 13 = .ok (.ifCond .ne 6, 3) := by decide +kernel
theorem dX4_basin_16 : decode cX4_basin 16 = .ok (.bipush (-2), 2) := by decide +kernel
theorem dX4_basin_18 : decode cX4_basin 18 = .ok (.ireturn, 1) := by decide +kernel
theorem dX4_basin_19 : decode cX4_basin 19 = .ok (.aload_n 0, 1) := by decide +kernel
theorem dX4_basin_20 : decode cX4_basin 20 = .ok (.iload_n 1, 1) := by decide +kernel
theorem dX4_basin_21 : decode cX4_basin 21 = .ok (.invokevirtual 102, 3) := by decide +kernel
theorem dX4_basin_24 : decode cX4_basin 24 = .ok (.iload_n 2, 1) := by decide +kernel
theorem dX4_basin_25 : decode cX4_basin 25 = .ok (.ifCond .ge 8, 3) := by decide +kernel
theorem dX4_basin_28 : decode cX4_basin 28 = .ok (.bipush (-6), 2) := by decide +kernel
theorem dX4_basin_30 : decode cX4_basin 30 = .ok (.goto 8, 3) := by decide +kernel
theorem dX4_basin_33 : decode cX4_basin 33 = .ok (.aload_n 0, 1) := by decide +kernel
theorem dX4_basin_34 : decode cX4_basin 34 = .ok (.iload_n 2, 1) := by decide +kernel
theorem dX4_basin_35 : decode cX4_basin 35 = .ok (.invokevirtual 105, 3) := by decide +kernel
theorem dX4_basin_38 : decode cX4_basin 38 = .ok (.istore 4, 2) := by decide +kernel
theorem dX4_basin_40 : decode cX4_basin 40 = .ok (.iload 4, 2) := by decide +kernel
theorem dX4_basin_42 : decode cX4_basin 42 = .ok (.ifCond .ge 6, 3) := by decide +kernel
theorem dX4_basin_45 : decode cX4_basin 45 = .ok (.bipush (-6), 2) := by decide +kernel
theorem dX4_basin_47 : decode cX4_basin 47 = .ok (.ireturn, 1) := by decide +kernel
theorem dX4_basin_48 : decode cX4_basin 48 = .ok (.iconst 0, 1) := by decide +kernel
theorem dX4_basin_49 : decode cX4_basin 49 = .ok (.istore 5, 2) := by decide +kernel
theorem dX4_basin_51 : decode cX4_basin 51 = .ok (.iconst 0, 1) := by decide +kernel
theorem dX4_basin_52 : decode cX4_basin 52 = .ok (.istore 6, 2) := by decide +kernel
theorem dX4_basin_54 : decode cX4_basin 54 = .ok (.iconst 0, 1) := by decide +kernel
theorem dX4_basin_55 : decode cX4_basin 55 = .ok (.istore 7, 2) := by decide +kernel
theorem dX4_basin_57 : decode cX4_basin 57 = .ok (.iload 7, 2) := by decide +kernel
theorem dX4_basin_59 : decode cX4_basin 59 = .ok (.aload_n 0, 1) := by decide +kernel
theorem dX4_basin_60 : decode cX4_basin 60 = .ok (.invokevirtual 36, 3) := by decide +kernel
theorem dX4_basin_63 : decode cX4_basin 63 = .ok (.if_icmp .ge 50, 3) := by decide +kernel
theorem dX4_basin_66 : decode cX4_basin 66 = .ok (.aload_n 0, 1) := by decide +kernel
theorem dX4_basin_67 : decode cX4_basin 67 = .ok (.getfield 26, 3) := by decide +kernel
theorem dX4_basin_70 : decode cX4_basin 70 = .ok (.iload 7, 2) := by decide +kernel
theorem dX4_basin_72 : decode cX4_basin 72 = .ok (.iaload, 1) := by decide +kernel
theorem dX4_basin_73 : decode cX4_basin 73 = .ok (.iload 4, 2) := by decide +kernel
theorem dX4_basin_75 : decode cX4_basin 75 = .ok (.if_icmp .ne 32, 3) := by decide +kernel
theorem dX4_basin_78 : decode cX4_basin 78 = .ok (.iinc 5 1, 3) := by decide +kernel
theorem dX4_basin_81 : decode cX4_basin 81 = .ok (.aload_n 0, 1) := by decide +kernel
theorem dX4_basin_82 : decode cX4_basin 82 = .ok (.getfield 29, 3) := by decide +kernel
theorem dX4_basin_85 : decode cX4_basin 85 = .ok (.iload 7, 2) := by decide +kernel
theorem dX4_basin_87 : decode cX4_basin 87 = .ok (.iaload, 1) := by decide +kernel
theorem dX4_basin_88 : decode cX4_basin 88 = .ok (.iload 6, 2) := by decide +kernel
theorem dX4_basin_90 : decode cX4_basin 90 = .ok (.if_icmp .le 13, 3) := by decide +kernel
theorem dX4_basin_93 : decode cX4_basin 93 = .ok (.aload_n 0, 1) := by decide +kernel
theorem dX4_basin_94 : decode cX4_basin 94 = .ok (.getfield 29, 3) := by decide +kernel
theorem dX4_basin_97 : decode cX4_basin 97 = .ok (.iload 7, 2) := by decide +kernel
theorem dX4_basin_99 : decode cX4_basin 99 = .ok (.iaload, 1) := by decide +kernel
theorem dX4_basin_100 : decode cX4_basin 100 = .ok (.goto 5, 3) := by decide +kernel
theorem dX4_basin_103 : decode cX4_basin 103 = .ok (.iload 6, 2) := by decide +kernel
theorem dX4_basin_105 : decode cX4_basin 105 = .ok (.istore 6, 2) := by decide +kernel
theorem dX4_basin_107 : decode cX4_basin 107 = .ok (.iinc 7 1, 3) := by decide +kernel
theorem dX4_basin_110 : decode cX4_basin 110 = .ok (.goto (-53), 3) := by decide +kernel
theorem dX4_basin_113 : decode cX4_basin 113 = .ok (.iload_n 3, 1) := by decide +kernel
theorem dX4_basin_114 : decode cX4_basin 114 = .ok (.ifCond .ne 8, 3) := by decide +kernel
theorem dX4_basin_117 : decode cX4_basin 117 = .ok (.iload 5, 2) := by decide +kernel
theorem dX4_basin_119 : decode cX4_basin 119 = .ok (.goto 19, 3) := by decide +kernel
theorem dX4_basin_122 : decode cX4_basin 122 = .ok (.iload_n 3, 1) := by decide +kernel
theorem dX4_basin_123 : decode cX4_basin 123 = .ok (.iconst 1, 1) := by decide +kernel
theorem dX4_basin_124 : decode cX4_basin 124 = .ok (.if_icmp .ne 12, 3) := by decide +kernel
theorem dX4_basin_127 : decode cX4_basin 127 = .ok (.aload_n 0, 1) := by decide +kernel
theorem dX4_basin_128 : decode cX4_basin 128 = .ok (.iload 4, 2) := by decide +kernel
theorem dX4_basin_130 : decode cX4_basin 130 = .ok (.invokevirtual 96, 3) := by decide +kernel
theorem dX4_basin_133 : decode cX4_basin 133 = .ok (.goto 5, 3) := by decide +kernel
theorem dX4_basin_136 : decode cX4_basin 136 = .ok (.iload 6, 2) := by decide +kernel
theorem dX4_basin_138 : decode cX4_basin 138 = .ok (.ireturn, 1) := by decide +kernel
theorem dX4_lone_0 : decode cX4_lone 0 = .ok (.iload_n 1, 1) := by decide +kernel
theorem dX4_lone_1 : decode cX4_lone 1 = .ok (.invokestatic 76, 3) := by decide +kernel
theorem dX4_lone_4 : decode cX4_lone 4 = .ok (.ifCond .ne 6, 3) := by decide +kernel
theorem dX4_lone_7 : decode cX4_lone 7 = .ok (.bipush (-2), 2) := by decide +kernel
theorem dX4_lone_9 : decode cX4_lone 9 = .ok (.ireturn, 1) := by decide +kernel
theorem dX4_lone_10 : decode cX4_lone 10 = .ok (.aload_n 0, 1) := by decide +kernel
theorem dX4_lone_11 : decode cX4_lone 11 = .ok (.iload_n 1, 1) := by decide +kernel
theorem dX4_lone_12 : decode cX4_lone 12 = .ok (.invokevirtual 85, 3) := by decide +kernel
theorem dX4_lone_15 : decode cX4_lone 15 = .ok (.iconst 0, 1) := by decide +kernel
theorem dX4_lone_16 : decode cX4_lone 16 = .ok (.istore_n 2, 1) := by decide +kernel
theorem dX4_lone_17 : decode cX4_lone 17 = .ok (.iload_n 2, 1) := by decide +kernel
theorem dX4_lone_18 : decode cX4_lone 18 = .ok (.aload_n 0, 1) := by decide +kernel
theorem dX4_lone_19 : decode cX4_lone 19 = .ok (.invokevirtual 36, 3) := by decide +kernel
theorem dX4_lone_22 : decode cX4_lone 22 = .ok (.if_icmp .ge 16, 3) := by decide +kernel
theorem dX4_lone_25 : decode cX4_lone 25 = .ok (.aload_n 0, 1) := by decide +kernel
theorem dX4_lone_26 : decode cX4_lone 26 = .ok (.getfield 26, 3) := by decide +kernel
theorem dX4_lone_29 : decode cX4_lone 29 = .ok (.iload_n 2, 1) := by decide +kernel
theorem dX4_lone_30 : decode cX4_lone 30 = .ok (.iconst 0, 1) := by decide +kernel
theorem dX4_lone_31 : decode cX4_lone 31 = .ok (.iastore, 1) := by decide +kernel
theorem dX4_lone_32 : decode cX4_lone 32 = .ok (.iinc 2 1, 3) := by decide +kernel
theorem dX4_lone_35 : decode cX4_lone 35 = .ok (.goto (-18), 3) := by decide +kernel
theorem dX4_lone_38 : decode cX4_lone 38 = .ok (.iconst 0, 1) := by decide +kernel
theorem dX4_lone_39 : decode cX4_lone 39 = .ok (.istore_n 2, 1) := by decide +kernel
theorem dX4_lone_40 : decode cX4_lone 40 = .ok (.iload_n 2, 1) := by decide +kernel
theorem dX4_lone_41 : decode cX4_lone 41 = .ok (.aload_n 0, 1) := by decide +kernel
theorem dX4_lone_42 : decode cX4_lone 42 = .ok (.invokevirtual 36, 3) := by decide +kernel
theorem dX4_lone_45 : decode cX4_lone 45 = .ok (.if_icmp .ge 29, 3) := by decide +kernel
theorem dX4_lone_48 : decode cX4_lone 48 = .ok (.aload_n 0, 1) := by decide +kernel
theorem dX4_lone_49 : decode cX4_lone 49 = .ok (.iload_n 2, 1) := by decide +kernel
theorem dX4_lone_50 : decode cX4_lone 50 = .ok (.invokevirtual 82, 3) := by decide +kernel
theorem dX4_lone_53 : decode cX4_lone 53 = .ok (.ifCond .eq 15, 3) := by decide +kernel
theorem dX4_lone_56 : decode cX4_lone 56 = .ok (.aload_n 0, 1) := by decide +kernel
theorem dX4_lone_57 : decode cX4_lone 57 = .ok (.getfield 26, 3) := by decide +kernel
theorem dX4_lone_60 : decode cX4_lone 60 = .ok (.aload_n 0, 1) := by decide +kernel
theorem dX4_lone_61 : decode cX4_lone 61 = .ok (.getfield 23, 3) := by decide +kernel
theorem dX4_lone_64 : decode cX4_lone 64 = .ok (.iload_n 2, 1) := by decide +kernel
theorem dX4_lone_65 : decode cX4_lone 65 = .ok (.iaload, 1) := by decide +kernel
theorem dX4_lone_66 : decode cX4_lone 66 = .ok (.iconst 1, 1) := by decide +kernel
theorem dX4_lone_67 : decode cX4_lone 67 = .ok (.iastore, 1) := by decide +kernel
theorem dX4_lone_68 : decode cX4_lone 68 = .ok (.iinc 2 1, 3) := by decide +kernel
theorem dX4_lone_71 : decode cX4_lone 71 = .ok (.goto (-31), 3) := by decide +kernel
theorem dX4_lone_74 : decode cX4_lone 74 = .ok (.iconst 0, 1) := by decide +kernel
theorem dX4_lone_75 : decode cX4_lone 75 = .ok (.istore_n 2, 1) := by decide +kernel
theorem dX4_lone_76 : decode cX4_lone 76 = .ok (.iconst 0, 1) := by decide +kernel
theorem dX4_lone_77 : decode cX4_lone 77 = .ok (.istore_n 3, 1) := by decide +kernel
theorem dX4_lone_78 : decode cX4_lone 78 = .ok (.iload_n 3, 1) := by decide +kernel
theorem dX4_lone_79 : decode cX4_lone 79 = .ok (.aload_n 0, 1) := by decide +kernel
theorem dX4_lone_80 : decode cX4_lone 80 = .ok (.invokevirtual 36, 3) := by decide +kernel
theorem dX4_lone_83 : decode cX4_lone 83 = .ok (.if_icmp .ge 34, 3) := by decide +kernel
theorem dX4_lone_86 : decode cX4_lone 86 = .ok (.iload_n 2, 1) := by decide +kernel
theorem dX4_lone_87 : decode cX4_lone 87 = .ok (.aload_n 0, 1) := by decide +kernel
theorem dX4_lone_88 : decode cX4_lone 88 = .ok (.iload_n 3, 1) := by decide +kernel
theorem dX4_lone_89 : decode cX4_lone 89 = .ok (.invokevirtual 82, 3) := by decide +kernel
theorem dX4_lone_92 : decode cX4_lone 92 = .ok (.ifCond .eq 16, 3) := by decide +kernel
theorem dX4_lone_95 : decode cX4_lone 95 = .ok (.aload_n 0, 1) := by decide +kernel
theorem dX4_lone_96 : decode cX4_lone 96 = .ok (.getfield 26, 3) := by decide +kernel
theorem dX4_lone_99 : decode cX4_lone 99 = .ok (.iload_n 3, 1) := by decide +kernel
theorem dX4_lone_100 : decode cX4_lone 100 = .ok (.iaload, 1) := by decide +kernel
theorem dX4_lone_101 : decode cX4_lone 101 = .ok (.ifCond .ne 7, 3) := by decide +kernel
theorem dX4_lone_104 : decode cX4_lone 104 = .ok (.iconst 1, 1) := by decide +kernel
theorem dX4_lone_105 : decode cX4_lone 105 = .ok (.goto 4, 3) := by decide +kernel
theorem dX4_lone_108 : decode cX4_lone 108 = .ok (.iconst 0, 1) := by decide +kernel
theorem dX4_lone_109 : decode cX4_lone 109 = .ok (.iadd, 1) := by decide +kernel
theorem dX4_lone_110 : decode cX4_lone 110 = .ok (.istore_n 2, 1) := by decide +kernel
theorem dX4_lone_111 : decode cX4_lone 111 = .ok (.iinc 3 1, 3) := by decide +kernel
theorem dX4_lone_114 : decode cX4_lone 114 = .ok (.goto (-36), 3) := by decide +kernel
theorem dX4_lone_117 : decode cX4_lone 117 = .ok (.iload_n 2, 1) := by decide +kernel
theorem dX4_lone_118 : decode cX4_lone 118 = .ok (.ireturn, 1) := by decide +kernel
theorem dX4_before_0 : decode cX4_before 0 = .ok (.iload_n 1, 1) := by decide +kernel
theorem dX4_before_1 : decode cX4_before 1 = .ok (.invokestatic 76, 3) := by decide +kernel
theorem dX4_before_4 : decode cX4_before 4 = .ok (.ifCond .ne 6, 3) := by decide +kernel
theorem dX4_before_7 : decode cX4_before 7 = .ok (.bipush (-2), 2) := by decide +kernel
theorem dX4_before_9 : decode cX4_before 9 = .ok (.ireturn, 1) := by decide +kernel
theorem dX4_before_10 : decode cX4_before 10 = .ok (.iconst 0, 1) := by decide +kernel
theorem dX4_before_11 : decode cX4_before 11 = .ok (.istore_n 3, 1) := by decide +kernel
theorem dX4_before_12 : decode cX4_before 12 = .ok (.iconst 0, 1) := by decide +kernel
theorem dX4_before_13 : decode cX4_before 13 = .ok (.istore 4, 2) := by decide +kernel
theorem dX4_before_15 : decode cX4_before 15 = .ok (.iload 4, 2) := by decide +kernel
theorem dX4_before_17 : decode cX4_before 17 = .ok (.aload_n 0, 1) := by decide +kernel
theorem dX4_before_18 : decode cX4_before 18 = .ok (.invokevirtual 36, 3) := by decide +kernel
theorem dX4_before_21 : decode cX4_before 21 = .ok (.if_icmp .ge 47, 3) := by decide +kernel
theorem dX4_before_24 : decode cX4_before 24 = .ok (.aload_n 0, 1) := by decide +kernel
theorem dX4_before_25 : decode cX4_before 25 = .ok (.iload 4, 2) := by decide +kernel
theorem dX4_before_27 : decode cX4_before 27 = .ok (.invokevirtual 82, 3) := by decide +kernel
theorem dX4_before_30 : decode cX4_before 30 = .ok (.ifCond .eq 32, 3) := by decide +kernel
theorem dX4_before_33 : decode cX4_before 33 = .ok (.aload_n 0, 1) := by decide +kernel
theorem dX4_before_34 : decode cX4_before 34 = .ok (.iload_n 1, 1) := by decide +kernel
theorem dX4_before_35 : decode cX4_before 35 = .ok (.iload 4, 2) := by decide +kernel
theorem dX4_before_37 : decode cX4_before 37 = .ok (.aload_n 0, 1) := by decide +kernel
theorem dX4_before_38 : decode cX4_before 38 = .ok (.getfield 40, 3) := by decide +kernel
theorem dX4_before_41 : decode cX4_before 41 = .ok (.invokevirtual 79, 3) := by decide +kernel
theorem dX4_before_44 : decode cX4_before 44 = .ok (.aload_n 0, 1) := by decide +kernel
theorem dX4_before_45 : decode cX4_before 45 = .ok (.getfield 43, 3) := by decide +kernel
theorem dX4_before_48 : decode cX4_before 48 = .ok (.if_icmp .ne 14, 3) := by decide +kernel
theorem dX4_before_51 : decode cX4_before 51 = .ok (.iload_n 3, 1) := by decide +kernel
theorem dX4_before_52 : decode cX4_before 52 = .ok (.iload_n 2, 1) := by decide +kernel
theorem dX4_before_53 : decode cX4_before 53 = .ok (.if_icmp .ne 6, 3) := by decide +kernel
theorem dX4_before_56 : decode cX4_before 56 = .ok (.iload 4, 2) := by decide +kernel
theorem dX4_before_58 : decode cX4_before 58 = .ok (.ireturn, 1) := by decide +kernel
theorem dX4_before_59 : decode cX4_before 59 = .ok (.iinc 3 1, 3) := by decide +kernel
theorem dX4_before_62 : decode cX4_before 62 = .ok (.iinc 4 1, 3) := by decide +kernel
theorem dX4_before_65 : decode cX4_before 65 = .ok (.goto (-50), 3) := by decide +kernel
theorem dX4_before_68 : decode cX4_before 68 = .ok (.iload_n 2, 1) := by decide +kernel
theorem dX4_before_69 : decode cX4_before 69 = .ok (.iconst (-1), 1) := by decide +kernel
theorem dX4_before_70 : decode cX4_before 70 = .ok (.if_icmp .ne 7, 3) := by decide +kernel
theorem dX4_before_73 : decode cX4_before 73 = .ok (.iload_n 3, 1) := by decide +kernel
theorem dX4_before_74 : decode cX4_before 74 = .ok (.goto 5, 3) := by decide +kernel
theorem dX4_before_77 : decode cX4_before 77 = .ok (.bipush (-6), 2) := by decide +kernel
theorem dX4_before_79 : decode cX4_before 79 = .ok (.ireturn, 1) := by decide +kernel
theorem dX4_riseOf_0 : decode cX4_riseOf 0 = .ok (.iconst 0, 1) := by decide +kernel
theorem dX4_riseOf_1 : decode cX4_riseOf 1 = .ok (.istore_n 2, 1) := by decide +kernel
theorem dX4_riseOf_2 : decode cX4_riseOf 2 = .ok (.iconst 0, 1) := by decide +kernel
theorem dX4_riseOf_3 : decode cX4_riseOf 3 = .ok (.istore_n 3, 1) := by decide +kernel
theorem dX4_riseOf_4 : decode cX4_riseOf 4 = .ok (.iload_n 3, 1) := by decide +kernel
theorem dX4_riseOf_5 : decode cX4_riseOf 5 = .ok (.aload_n 0, 1) := by decide +kernel
theorem dX4_riseOf_6 : decode cX4_riseOf 6 = .ok (.getfield 7, 3) := by decide +kernel
theorem dX4_riseOf_9 : decode cX4_riseOf 9 = .ok (.if_icmp .ge 103, 3) := by decide +kernel
theorem dX4_riseOf_12 : decode cX4_riseOf 12 = .ok (.iload_n 3, 1) := by decide +kernel
theorem dX4_riseOf_13 : decode cX4_riseOf 13 = .ok (.iconst 1, 1) := by decide +kernel
theorem dX4_riseOf_14 : decode cX4_riseOf 14 = .ok (.iadd, 1) := by decide +kernel
theorem dX4_riseOf_15 : decode cX4_riseOf 15 = .ok (.istore 4, 2) := by decide +kernel
theorem dX4_riseOf_17 : decode cX4_riseOf 17 = .ok (.iload 4, 2) := by decide +kernel
theorem dX4_riseOf_19 : decode cX4_riseOf 19 = .ok (.aload_n 0, 1) := by decide +kernel
theorem dX4_riseOf_20 : decode cX4_riseOf 20 = .ok (.getfield 7, 3) := by decide +kernel
theorem dX4_riseOf_23 : decode cX4_riseOf 23 = .ok (.if_icmp .ge 83, 3) := by decide +kernel
theorem dX4_riseOf_26 : decode cX4_riseOf 26 = .ok (.iload_n 1, 1) := by decide +kernel
theorem dX4_riseOf_27 : decode cX4_riseOf 27 = .ok (.iload_n 3, 1) := by decide +kernel
theorem dX4_riseOf_28 : decode cX4_riseOf 28 = .ok (.ishr, 1) := by decide +kernel
theorem dX4_riseOf_29 : decode cX4_riseOf 29 = .ok (.iconst 1, 1) := by decide +kernel
theorem dX4_riseOf_30 : decode cX4_riseOf 30 = .ok (.iand, 1) := by decide +kernel
theorem dX4_riseOf_31 : decode cX4_riseOf 31 = .ok (.iload_n 1, 1) := by decide +kernel
theorem dX4_riseOf_32 : decode cX4_riseOf 32 = .ok (.iload 4, 2) := by decide +kernel
theorem dX4_riseOf_34 : decode cX4_riseOf 34 = .ok (.ishr, 1) := by decide +kernel
theorem dX4_riseOf_35 : decode cX4_riseOf 35 = .ok (.iconst 1, 1) := by decide +kernel
theorem dX4_riseOf_36 : decode cX4_riseOf 36 = .ok (.iand, 1) := by decide +kernel
theorem dX4_riseOf_37 : decode cX4_riseOf 37 = .ok (.iadd, 1) := by decide +kernel
theorem dX4_riseOf_38 : decode cX4_riseOf 38 = .ok (.istore 5, 2) := by decide +kernel
theorem dX4_riseOf_40 : decode cX4_riseOf 40 = .ok (.iload_n 2, 1) := by decide +kernel
theorem dX4_riseOf_41 : decode cX4_riseOf 41 = .ok (.aload_n 0, 1) := by decide +kernel
theorem dX4_riseOf_42 : decode cX4_riseOf 42 = .ok (.getfield 13, 3) := by decide +kernel
theorem dX4_riseOf_45 : decode cX4_riseOf 45 = .ok (.bipush 10, 2) := by decide +kernel
theorem dX4_riseOf_47 : decode cX4_riseOf 47 = .ok (.iload_n 3, 1) := by decide +kernel
theorem dX4_riseOf_48 : decode cX4_riseOf 48 = .ok (.imul, 1) := by decide +kernel
theorem dX4_riseOf_49 : decode cX4_riseOf 49 = .ok (.iload 4, 2) := by decide +kernel
theorem dX4_riseOf_51 : decode cX4_riseOf 51 = .ok (.iadd, 1) := by decide +kernel
theorem dX4_riseOf_52 : decode cX4_riseOf 52 = .ok (.iaload, 1) := by decide +kernel
theorem dX4_riseOf_53 : decode cX4_riseOf 53 = .ok (.iload 5, 2) := by decide +kernel
theorem dX4_riseOf_55 : decode cX4_riseOf 55 = .ok (.ifCond .ne 19, 3) := by decide +kernel
theorem dX4_riseOf_58 : decode cX4_riseOf 58 = .ok (.aload_n 0, 1) := by decide +kernel
theorem dX4_riseOf_59 : decode cX4_riseOf 59 = .ok (.getfield 17, 3) := by decide +kernel
theorem dX4_riseOf_62 : decode cX4_riseOf 62 = .ok (.iconst 0, 1) := by decide +kernel
theorem dX4_riseOf_63 : decode cX4_riseOf 63 = .ok (.iaload, 1) := by decide +kernel
theorem dX4_riseOf_64 : decode cX4_riseOf 64 = .ok (.aload_n 0, 1) := by decide +kernel
theorem dX4_riseOf_65 : decode cX4_riseOf 65 = .ok (.getfield 17, 3) := by decide +kernel
theorem dX4_riseOf_68 : decode cX4_riseOf 68 = .ok (.iconst 2, 1) := by decide +kernel
theorem dX4_riseOf_69 : decode cX4_riseOf 69 = .ok (.iaload, 1) := by decide +kernel
theorem dX4_riseOf_70 : decode cX4_riseOf 70 = .ok (.isub, 1) := by decide +kernel
theorem dX4_riseOf_71 : decode cX4_riseOf 71 = .ok (.goto 26, 3) := by decide +kernel
theorem dX4_riseOf_74 : decode cX4_riseOf 74 = .ok (.iload 5, 2) := by decide +kernel
theorem dX4_riseOf_76 : decode cX4_riseOf 76 = .ok (.iconst 2, 1) := by decide +kernel
theorem dX4_riseOf_77 : decode cX4_riseOf 77 = .ok (.if_icmp .ne 19, 3) := by decide +kernel
theorem dX4_riseOf_80 : decode cX4_riseOf 80 = .ok (.aload_n 0, 1) := by decide +kernel
theorem dX4_riseOf_81 : decode cX4_riseOf 81 = .ok (.getfield 17, 3) := by decide +kernel
theorem dX4_riseOf_84 : decode cX4_riseOf 84 = .ok (.iconst 3, 1) := by decide +kernel
theorem dX4_riseOf_85 : decode cX4_riseOf 85 = .ok (.iaload, 1) := by decide +kernel
theorem dX4_riseOf_86 : decode cX4_riseOf 86 = .ok (.aload_n 0, 1) := by decide +kernel
theorem dX4_riseOf_87 : decode cX4_riseOf 87 = .ok (.getfield 17, 3) := by decide +kernel
theorem dX4_riseOf_90 : decode cX4_riseOf 90 = .ok (.iconst 1, 1) := by decide +kernel
theorem dX4_riseOf_91 : decode cX4_riseOf 91 = .ok (.iaload, 1) := by decide +kernel
theorem dX4_riseOf_92 : decode cX4_riseOf 92 = .ok (.isub, 1) := by decide +kernel
theorem dX4_riseOf_93 : decode cX4_riseOf 93 = .ok (.goto 4, 3) := by decide +kernel
theorem dX4_riseOf_96 : decode cX4_riseOf 96 = .ok (.iconst 0, 1) := by decide +kernel
theorem dX4_riseOf_97 : decode cX4_riseOf 97 = .ok (.imul, 1) := by decide +kernel
theorem dX4_riseOf_98 : decode cX4_riseOf 98 = .ok (.iadd, 1) := by decide +kernel
theorem dX4_riseOf_99 : decode cX4_riseOf 99 = .ok (.istore_n 2, 1) := by decide +kernel
theorem dX4_riseOf_100 : decode cX4_riseOf 100 = .ok (.iinc 4 1, 3) := by decide +kernel
theorem dX4_riseOf_103 : decode cX4_riseOf 103 = .ok (.goto (-86), 3) := by decide +kernel
theorem dX4_riseOf_106 : decode cX4_riseOf 106 = .ok (.iinc 3 1, 3) := by decide +kernel
theorem dX4_riseOf_109 : decode cX4_riseOf 109 = .ok (.goto (-105), 3) := by decide +kernel
theorem dX4_riseOf_112 : decode cX4_riseOf 112 = .ok (.iload_n 2, 1) := by decide +kernel
theorem dX4_riseOf_113 : decode cX4_riseOf 113 = .ok (.ireturn, 1) := by decide +kernel
theorem dX4_rise_0 : decode cX4_rise 0 = .ok (.aload_n 0, 1) := by decide +kernel
theorem dX4_rise_1 : decode cX4_rise 1 = .ok (.aload_n 0, 1) := by decide +kernel
theorem dX4_rise_2 : decode cX4_rise 2 = .ok (.getfield 43, 3) := by decide +kernel
theorem dX4_rise_5 : decode cX4_rise 5 = .ok (.invokevirtual 108, 3) := by decide +kernel
theorem dX4_rise_8 : decode cX4_rise 8 = .ok (.ireturn, 1) := by decide +kernel
theorem dX4_highest_0 : decode cX4_highest 0 = .ok (.bipush (-6), 2) := by decide +kernel
theorem dX4_highest_2 : decode cX4_highest 2 = .ok (.istore_n 1, 1) := by decide +kernel
theorem dX4_highest_3 : decode cX4_highest 3 = .ok (.iconst 0, 1) := by decide +kernel
theorem dX4_highest_4 : decode cX4_highest 4 = .ok (.istore_n 2, 1) := by decide +kernel
theorem dX4_highest_5 : decode cX4_highest 5 = .ok (.iload_n 2, 1) := by decide +kernel
theorem dX4_highest_6 : decode cX4_highest 6 = .ok (.aload_n 0, 1) := by decide +kernel
theorem dX4_highest_7 : decode cX4_highest 7 = .ok (.invokevirtual 36, 3) := by decide +kernel
theorem dX4_highest_10 : decode cX4_highest 10 = .ok (.if_icmp .ge 40, 3) := by decide +kernel
theorem dX4_highest_13 : decode cX4_highest 13 = .ok (.aload_n 0, 1) := by decide +kernel
theorem dX4_highest_14 : decode cX4_highest 14 = .ok (.iload_n 2, 1) := by decide +kernel
theorem dX4_highest_15 : decode cX4_highest 15 = .ok (.invokevirtual 82, 3) := by decide +kernel
theorem dX4_highest_18 : decode cX4_highest 18 = .ok (.ifCond .eq 24, 3) := by decide +kernel
theorem dX4_highest_21 : decode cX4_highest 21 = .ok (.iload_n 1, 1) := by decide +kernel
theorem dX4_highest_22 : decode cX4_highest 22 = .ok (.ifCond .lt 16, 3) := by decide +kernel
theorem dX4_highest_25 : decode cX4_highest 25 = .ok (.aload_n 0, 1) := by decide +kernel
theorem dX4_highest_26 : decode cX4_highest 26 = .ok (.iload_n 2, 1) := by decide +kernel
theorem dX4_highest_27 : decode cX4_highest 27 = .ok (.invokevirtual 108, 3) := by decide +kernel
theorem dX4_highest_30 : decode cX4_highest 30 = .ok (.aload_n 0, 1) := by decide +kernel
theorem dX4_highest_31 : decode cX4_highest 31 = .ok (.iload_n 1, 1) := by decide +kernel
theorem dX4_highest_32 : decode cX4_highest 32 = .ok (.invokevirtual 108, 3) := by decide +kernel
theorem dX4_highest_35 : decode cX4_highest 35 = .ok (.if_icmp .le 7, 3) := by decide +kernel
theorem dX4_highest_38 : decode cX4_highest 38 = .ok (.iload_n 2, 1) := by decide +kernel
theorem dX4_highest_39 : decode cX4_highest 39 = .ok (.goto 4, 3) := by decide +kernel
theorem dX4_highest_42 : decode cX4_highest 42 = .ok (.iload_n 1, 1) := by decide +kernel
theorem dX4_highest_43 : decode cX4_highest 43 = .ok (.istore_n 1, 1) := by decide +kernel
theorem dX4_highest_44 : decode cX4_highest 44 = .ok (.iinc 2 1, 3) := by decide +kernel
theorem dX4_highest_47 : decode cX4_highest 47 = .ok (.goto (-42), 3) := by decide +kernel
theorem dX4_highest_50 : decode cX4_highest 50 = .ok (.iload_n 1, 1) := by decide +kernel
theorem dX4_highest_51 : decode cX4_highest 51 = .ok (.ireturn, 1) := by decide +kernel
theorem dX4_restsIn_0 : decode cX4_restsIn 0 = .ok (.iconst 1, 1) := by decide +kernel
theorem dX4_restsIn_1 : decode cX4_restsIn 1 = .ok (.istore_n 2, 1) := by decide +kernel
theorem dX4_restsIn_2 : decode cX4_restsIn 2 = .ok (.iconst 0, 1) := by decide +kernel
theorem dX4_restsIn_3 : decode cX4_restsIn 3 = .ok (.istore_n 3, 1) := by decide +kernel
theorem dX4_restsIn_4 : decode cX4_restsIn 4 = .ok (.iload_n 3, 1) := by decide +kernel
theorem dX4_restsIn_5 : decode cX4_restsIn 5 = .ok (.aload_n 0, 1) := by decide +kernel
theorem dX4_restsIn_6 : decode cX4_restsIn 6 = .ok (.getfield 7, 3) := by decide +kernel
theorem dX4_restsIn_9 : decode cX4_restsIn 9 = .ok (.if_icmp .ge 40, 3) := by decide +kernel
theorem dX4_restsIn_12 : decode cX4_restsIn 12 = .ok (.iload_n 2, 1) := by decide +kernel
theorem dX4_restsIn_13 : decode cX4_restsIn 13 = .ok (.ifCond .eq 28, 3) := by decide +kernel
theorem dX4_restsIn_16 : decode cX4_restsIn 16 = .ok (.aload_n 0, 1) := by decide +kernel
theorem dX4_restsIn_17 : decode cX4_restsIn 17 = .ok (.getfield 40, 3) := by decide +kernel
theorem dX4_restsIn_20 : decode cX4_restsIn 20 = .ok (.iload_n 3, 1) := by decide +kernel
theorem dX4_restsIn_21 : decode cX4_restsIn 21 = .ok (.ishr, 1) := by decide +kernel
theorem dX4_restsIn_22 : decode cX4_restsIn 22 = .ok (.iconst 1, 1) := by decide +kernel
theorem dX4_restsIn_23 : decode cX4_restsIn 23 = .ok (.iand, 1) := by decide +kernel
theorem dX4_restsIn_24 : decode cX4_restsIn 24 = .ok (.iconst 1, 1) := by decide +kernel
theorem dX4_restsIn_25 : decode cX4_restsIn 25 = .ok (.if_icmp .eq 12, 3) := by decide +kernel
theorem dX4_restsIn_28 : decode cX4_restsIn 28 = .ok (.aload_n 0, 1) := by decide +kernel
theorem dX4_restsIn_29 : decode cX4_restsIn 29 = .ok (.iload_n 1, 1) := by decide +kernel
theorem dX4_restsIn_30 : decode cX4_restsIn 30 = .ok (.iload_n 3, 1) := by decide +kernel
theorem dX4_restsIn_31 : decode cX4_restsIn 31 = .ok (.invokevirtual 70, 3) := by decide +kernel
theorem dX4_restsIn_34 : decode cX4_restsIn 34 = .ok (.ifCond .ne 7, 3) := by decide +kernel
theorem dX4_restsIn_37 : decode cX4_restsIn 37 = .ok (.iconst 1, 1) := by decide +kernel
theorem dX4_restsIn_38 : decode cX4_restsIn 38 = .ok (.goto 4, 3) := by decide +kernel
theorem dX4_restsIn_41 : decode cX4_restsIn 41 = .ok (.iconst 0, 1) := by decide +kernel
theorem dX4_restsIn_42 : decode cX4_restsIn 42 = .ok (.istore_n 2, 1) := by decide +kernel
theorem dX4_restsIn_43 : decode cX4_restsIn 43 = .ok (.iinc 3 1, 3) := by decide +kernel
theorem dX4_restsIn_46 : decode cX4_restsIn 46 = .ok (.goto (-42), 3) := by decide +kernel
theorem dX4_restsIn_49 : decode cX4_restsIn 49 = .ok (.iload_n 2, 1) := by decide +kernel
theorem dX4_restsIn_50 : decode cX4_restsIn 50 = .ok (.ireturn, 1) := by decide +kernel
theorem dX4_rests_0 : decode cX4_rests 0 = .ok (.aload_n 0, 1) := by decide +kernel
theorem dX4_rests_1 : decode cX4_rests 1 = .ok (.aload_n 0, 1) := by decide +kernel
theorem dX4_rests_2 : decode cX4_rests 2 = .ok (.getfield 43, 3) := by decide +kernel
theorem dX4_rests_5 : decode cX4_rests 5 = .ok (.invokevirtual 111, 3) := by decide +kernel
theorem dX4_rests_8 : decode cX4_rests 8 = .ok (.ifCond .eq 7, 3) := by decide +kernel
theorem dX4_rests_11 : decode cX4_rests 11 = .ok (.iconst 1, 1) := by decide +kernel
theorem dX4_rests_12 : decode cX4_rests 12 = .ok (.goto 4, 3) := by decide +kernel
theorem dX4_rests_15 : decode cX4_rests 15 = .ok (.iconst 0, 1) := by decide +kernel
theorem dX4_rests_16 : decode cX4_rests 16 = .ok (.ireturn, 1) := by decide +kernel
theorem dX4_restMany_0 : decode cX4_restMany 0 = .ok (.iconst 0, 1) := by decide +kernel
theorem dX4_restMany_1 : decode cX4_restMany 1 = .ok (.istore_n 1, 1) := by decide +kernel
theorem dX4_restMany_2 : decode cX4_restMany 2 = .ok (.iconst 0, 1) := by decide +kernel
theorem dX4_restMany_3 : decode cX4_restMany 3 = .ok (.istore_n 2, 1) := by decide +kernel
theorem dX4_restMany_4 : decode cX4_restMany 4 = .ok (.iload_n 2, 1) := by decide +kernel
theorem dX4_restMany_5 : decode cX4_restMany 5 = .ok (.aload_n 0, 1) := by decide +kernel
theorem dX4_restMany_6 : decode cX4_restMany 6 = .ok (.invokevirtual 36, 3) := by decide +kernel
theorem dX4_restMany_9 : decode cX4_restMany 9 = .ok (.if_icmp .ge 33, 3) := by decide +kernel
theorem dX4_restMany_12 : decode cX4_restMany 12 = .ok (.iload_n 1, 1) := by decide +kernel
theorem dX4_restMany_13 : decode cX4_restMany 13 = .ok (.aload_n 0, 1) := by decide +kernel
theorem dX4_restMany_14 : decode cX4_restMany 14 = .ok (.iload_n 2, 1) := by decide +kernel
theorem dX4_restMany_15 : decode cX4_restMany 15 = .ok (.invokevirtual 82, 3) := by decide +kernel
theorem dX4_restMany_18 : decode cX4_restMany 18 = .ok (.ifCond .eq 15, 3) := by decide +kernel
theorem dX4_restMany_21 : decode cX4_restMany 21 = .ok (.aload_n 0, 1) := by decide +kernel
theorem dX4_restMany_22 : decode cX4_restMany 22 = .ok (.iload_n 2, 1) := by decide +kernel
theorem dX4_restMany_23 : decode cX4_restMany 23 = .ok (.invokevirtual 111, 3) := by decide +kernel
theorem dX4_restMany_26 : decode cX4_restMany 26 = .ok (.ifCond .eq 7, 3) := by decide +kernel
theorem dX4_restMany_29 : decode cX4_restMany 29 = .ok (.iconst 1, 1) := by decide +kernel
theorem dX4_restMany_30 : decode cX4_restMany 30 = .ok (.goto 4, 3) := by decide +kernel
theorem dX4_restMany_33 : decode cX4_restMany 33 = .ok (.iconst 0, 1) := by decide +kernel
theorem dX4_restMany_34 : decode cX4_restMany 34 = .ok (.iadd, 1) := by decide +kernel
theorem dX4_restMany_35 : decode cX4_restMany 35 = .ok (.istore_n 1, 1) := by decide +kernel
theorem dX4_restMany_36 : decode cX4_restMany 36 = .ok (.iinc 2 1, 3) := by decide +kernel
theorem dX4_restMany_39 : decode cX4_restMany 39 = .ok (.goto (-35), 3) := by decide +kernel
theorem dX4_restMany_42 : decode cX4_restMany 42 = .ok (.iload_n 1, 1) := by decide +kernel
theorem dX4_restMany_43 : decode cX4_restMany 43 = .ok (.ireturn, 1) := by decide +kernel
theorem dX4_bits_0 : decode cX4_bits 0 = .ok (.iconst 0, 1) := by decide +kernel
theorem dX4_bits_1 : decode cX4_bits 1 = .ok (.istore_n 2, 1) := by decide +kernel
theorem dX4_bits_2 : decode cX4_bits 2 = .ok (.iconst 0, 1) := by decide +kernel
theorem dX4_bits_3 : decode cX4_bits 3 = .ok (.istore_n 3, 1) := by decide +kernel
theorem dX4_bits_4 : decode cX4_bits 4 = .ok (.iload_n 3, 1) := by decide +kernel
theorem dX4_bits_5 : decode cX4_bits 5 = .ok (.aload_n 0, 1) := by decide +kernel
theorem dX4_bits_6 : decode cX4_bits 6 = .ok (.getfield 7, 3) := by decide +kernel
theorem dX4_bits_9 : decode cX4_bits 9 = .ok (.if_icmp .ge 17, 3) := by decide +kernel
theorem dX4_bits_12 : decode cX4_bits 12 = .ok (.iload_n 2, 1) := by decide +kernel
theorem dX4_bits_13 : decode cX4_bits 13 = .ok (.iload_n 1, 1) := by decide +kernel
theorem dX4_bits_14 : decode cX4_bits 14 = .ok (.iload_n 3, 1) := by decide +kernel
theorem dX4_bits_15 : decode cX4_bits 15 = .ok (.ishr, 1) := by decide +kernel
theorem dX4_bits_16 : decode cX4_bits 16 = .ok (.iconst 1, 1) := by decide +kernel
theorem dX4_bits_17 : decode cX4_bits 17 = .ok (.iand, 1) := by decide +kernel
theorem dX4_bits_18 : decode cX4_bits 18 = .ok (.iadd, 1) := by decide +kernel
theorem dX4_bits_19 : decode cX4_bits 19 = .ok (.istore_n 2, 1) := by decide +kernel
theorem dX4_bits_20 : decode cX4_bits 20 = .ok (.iinc 3 1, 3) := by decide +kernel
theorem dX4_bits_23 : decode cX4_bits 23 = .ok (.goto (-19), 3) := by decide +kernel
theorem dX4_bits_26 : decode cX4_bits 26 = .ok (.iload_n 2, 1) := by decide +kernel
theorem dX4_bits_27 : decode cX4_bits 27 = .ok (.ireturn, 1) := by decide +kernel
theorem dX4_tips_0 : decode cX4_tips 0 = .ok (.aload_n 0, 1) := by decide +kernel
theorem dX4_tips_1 : decode cX4_tips 1 = .ok (.invokevirtual 36, 3) := by decide +kernel
theorem dX4_tips_4 : decode cX4_tips 4 = .ok (.iconst 1, 1) := by decide +kernel
theorem dX4_tips_5 : decode cX4_tips 5 = .ok (.isub, 1) := by decide +kernel
theorem dX4_tips_6 : decode cX4_tips 6 = .ok (.istore_n 3, 1) := by decide +kernel
theorem dX4_tips_7 : decode cX4_tips 7 = .ok (.iload_n 2, 1) := by decide +kernel
theorem dX4_tips_8 : decode cX4_tips 8 = .ok (.istore 4, 2) := by decide +kernel
theorem dX4_tips_10 : decode cX4_tips 10 = .ok (.iconst (-1), 1) := by decide +kernel
theorem dX4_tips_11 : decode cX4_tips 11 = .ok (.istore 5, 2) := by decide +kernel
theorem dX4_tips_13 : decode cX4_tips 13 = .ok (.iconst 0, 1) := by decide +kernel
theorem dX4_tips_14 : decode cX4_tips 14 = .ok (.istore 6, 2) := by decide +kernel
theorem dX4_tips_16 : decode cX4_tips 16 = .ok (.iload 6, 2) := by decide +kernel
theorem dX4_tips_18 : decode cX4_tips 18 = .ok (.sipush 1024, 3) := by decide +kernel
theorem dX4_tips_21 : decode cX4_tips 21 = .ok (.if_icmp .ge 51, 3) := by decide +kernel
theorem dX4_tips_24 : decode cX4_tips 24 = .ok (.iload 4, 2) := by decide +kernel
theorem dX4_tips_26 : decode cX4_tips 26 = .ok (.iload_n 3, 1) := by decide +kernel
theorem dX4_tips_27 : decode cX4_tips 27 = .ok (.if_icmp .eq 45, 3) := by decide +kernel
theorem dX4_tips_30 : decode cX4_tips 30 = .ok (.iload 4, 2) := by decide +kernel
theorem dX4_tips_32 : decode cX4_tips 32 = .ok (.iload 5, 2) := by decide +kernel
theorem dX4_tips_34 : decode cX4_tips 34 = .ok (.if_icmp .eq 38, 3) := by decide +kernel
theorem dX4_tips_37 : decode cX4_tips 37 = .ok (.iload 6, 2) := by decide +kernel
theorem dX4_tips_39 : decode cX4_tips 39 = .ok (.iload 6, 2) := by decide +kernel
theorem dX4_tips_41 : decode cX4_tips 41 = .ok (.iconst 1, 1) := by decide +kernel
theorem dX4_tips_42 : decode cX4_tips 42 = .ok (.isub, 1) := by decide +kernel
theorem dX4_tips_43 : decode cX4_tips 43 = .ok (.iand, 1) := by decide +kernel
theorem dX4_tips_44 : decode cX4_tips 44 = .ok (.ifCond .ne 8, 3) := by decide +kernel
theorem dX4_tips_47 : decode cX4_tips 47 = .ok (.iload 4, 2) := by decide +kernel
theorem dX4_tips_49 : decode cX4_tips 49 = .ok (.goto 5, 3) := by decide +kernel
theorem dX4_tips_52 : decode cX4_tips 52 = .ok (.iload 5, 2) := by decide +kernel
theorem dX4_tips_54 : decode cX4_tips 54 = .ok (.istore 5, 2) := by decide +kernel
theorem dX4_tips_56 : decode cX4_tips 56 = .ok (.aload_n 0, 1) := by decide +kernel
theorem dX4_tips_57 : decode cX4_tips 57 = .ok (.iload_n 1, 1) := by decide +kernel
theorem dX4_tips_58 : decode cX4_tips 58 = .ok (.iload 4, 2) := by decide +kernel
theorem dX4_tips_60 : decode cX4_tips 60 = .ok (.iload_n 2, 1) := by decide +kernel
theorem dX4_tips_61 : decode cX4_tips 61 = .ok (.invokevirtual 79, 3) := by decide +kernel
theorem dX4_tips_64 : decode cX4_tips 64 = .ok (.istore 4, 2) := by decide +kernel
theorem dX4_tips_66 : decode cX4_tips 66 = .ok (.iinc 6 1, 3) := by decide +kernel
theorem dX4_tips_69 : decode cX4_tips 69 = .ok (.goto (-53), 3) := by decide +kernel
theorem dX4_tips_72 : decode cX4_tips 72 = .ok (.iload 4, 2) := by decide +kernel
theorem dX4_tips_74 : decode cX4_tips 74 = .ok (.iload_n 3, 1) := by decide +kernel
theorem dX4_tips_75 : decode cX4_tips 75 = .ok (.if_icmp .ne 7, 3) := by decide +kernel
theorem dX4_tips_78 : decode cX4_tips 78 = .ok (.iconst 1, 1) := by decide +kernel
theorem dX4_tips_79 : decode cX4_tips 79 = .ok (.goto 4, 3) := by decide +kernel
theorem dX4_tips_82 : decode cX4_tips 82 = .ok (.iconst 0, 1) := by decide +kernel
theorem dX4_tips_83 : decode cX4_tips 83 = .ok (.ireturn, 1) := by decide +kernel
theorem dX4_tip_0 : decode cX4_tip 0 = .ok (.iload_n 1, 1) := by decide +kernel
theorem dX4_tip_1 : decode cX4_tip 1 = .ok (.invokestatic 76, 3) := by decide +kernel
theorem dX4_tip_4 : decode cX4_tip 4 = .ok (.ifCond .ne 6, 3) := by decide +kernel
theorem dX4_tip_7 : decode cX4_tip 7 = .ok (.bipush (-2), 2) := by decide +kernel
theorem dX4_tip_9 : decode cX4_tip 9 = .ok (.ireturn, 1) := by decide +kernel
theorem dX4_tip_10 : decode cX4_tip 10 = .ok (.iconst 0, 1) := by decide +kernel
theorem dX4_tip_11 : decode cX4_tip 11 = .ok (.istore_n 2, 1) := by decide +kernel
theorem dX4_tip_12 : decode cX4_tip 12 = .ok (.iload_n 2, 1) := by decide +kernel
theorem dX4_tip_13 : decode cX4_tip 13 = .ok (.aload_n 0, 1) := by decide +kernel
theorem dX4_tip_14 : decode cX4_tip 14 = .ok (.getfield 7, 3) := by decide +kernel
theorem dX4_tip_17 : decode cX4_tip 17 = .ok (.if_icmp .gt 45, 3) := by decide +kernel
theorem dX4_tip_20 : decode cX4_tip 20 = .ok (.iconst 0, 1) := by decide +kernel
theorem dX4_tip_21 : decode cX4_tip 21 = .ok (.istore_n 3, 1) := by decide +kernel
theorem dX4_tip_22 : decode cX4_tip 22 = .ok (.iload_n 3, 1) := by decide +kernel
theorem dX4_tip_23 : decode cX4_tip 23 = .ok (.aload_n 0, 1) := by decide +kernel
theorem dX4_tip_24 : decode cX4_tip 24 = .ok (.invokevirtual 36, 3) := by decide +kernel
theorem dX4_tip_27 : decode cX4_tip 27 = .ok (.if_icmp .ge 29, 3) := by decide +kernel
theorem dX4_tip_30 : decode cX4_tip 30 = .ok (.aload_n 0, 1) := by decide +kernel
theorem dX4_tip_31 : decode cX4_tip 31 = .ok (.iload_n 3, 1) := by decide +kernel
theorem dX4_tip_32 : decode cX4_tip 32 = .ok (.invokevirtual 114, 3) := by decide +kernel
theorem dX4_tip_35 : decode cX4_tip 35 = .ok (.iload_n 2, 1) := by decide +kernel
theorem dX4_tip_36 : decode cX4_tip 36 = .ok (.if_icmp .ne 14, 3) := by decide +kernel
theorem dX4_tip_39 : decode cX4_tip 39 = .ok (.aload_n 0, 1) := by decide +kernel
theorem dX4_tip_40 : decode cX4_tip 40 = .ok (.iload_n 1, 1) := by decide +kernel
theorem dX4_tip_41 : decode cX4_tip 41 = .ok (.iload_n 3, 1) := by decide +kernel
theorem dX4_tip_42 : decode cX4_tip 42 = .ok (.invokevirtual 117, 3) := by decide +kernel
theorem dX4_tip_45 : decode cX4_tip 45 = .ok (.ifCond .eq 5, 3) := by decide +kernel
theorem dX4_tip_48 : decode cX4_tip 48 = .ok (.iload_n 3, 1) := by decide +kernel
theorem dX4_tip_49 : decode cX4_tip 49 = .ok (.ireturn, 1) := by decide +kernel
theorem dX4_tip_50 : decode cX4_tip 50 = .ok (.iinc 3 1, 3) := by decide +kernel
theorem dX4_tip_53 : decode cX4_tip 53 = .ok (.goto (-31), 3) := by decide +kernel
theorem dX4_tip_56 : decode cX4_tip 56 = .ok (.iinc 2 1, 3) := by decide +kernel
theorem dX4_tip_59 : decode cX4_tip 59 = .ok (.goto (-47), 3) := by decide +kernel
theorem dX4_tip_62 : decode cX4_tip 62 = .ok (.bipush (-6), 2) := by decide +kernel
theorem dX4_tip_64 : decode cX4_tip 64 = .ok (.ireturn, 1) := by decide +kernel
theorem dX4_common_0 : decode cX4_common 0 = .ok (.iload_n 0, 1) := by decide +kernel
theorem dX4_common_1 : decode cX4_common 1 = .ok (.istore_n 2, 1) := by decide +kernel
theorem dX4_common_2 : decode cX4_common 2 = .ok (.iload_n 1, 1) := by decide +kernel
theorem dX4_common_3 : decode cX4_common 3 = .ok (.istore_n 3, 1) := by decide +kernel
theorem dX4_common_4 : decode cX4_common 4 = .ok (.iload_n 3, 1) := by decide +kernel
theorem dX4_common_5 : decode cX4_common 5 = .ok (.ifCond .eq 16, 3) := by decide +kernel
theorem dX4_common_8 : decode cX4_common 8 = .ok (.iload_n 2, 1) := by decide +kernel
theorem dX4_common_9 : decode cX4_common 9 = .ok (.iload_n 3, 1) := by decide +kernel
theorem dX4_common_10 : decode cX4_common 10 = .ok (.irem, 1) := by decide +kernel
theorem dX4_common_11 : decode cX4_common 11 = .ok (.istore 4, 2) := by decide +kernel
theorem dX4_common_13 : decode cX4_common 13 = .ok (.iload_n 3, 1) := by decide +kernel
theorem dX4_common_14 : decode cX4_common 14 = .ok (.istore_n 2, 1) := by decide +kernel
theorem dX4_common_15 : decode cX4_common 15 = .ok (.iload 4, 2) := by decide +kernel
theorem dX4_common_17 : decode cX4_common 17 = .ok (.istore_n 3, 1) := by decide +kernel
theorem dX4_common_18 : decode cX4_common 18 = .ok (.goto (-14), 3) := by decide +kernel
theorem dX4_common_21 : decode cX4_common 21 = .ok (.iload_n 2, 1) := by decide +kernel
theorem dX4_common_22 : decode cX4_common 22 = .ok (.ireturn, 1) := by decide +kernel
theorem dX4_share_0 : decode cX4_share 0 = .ok (.iload_n 1, 1) := by decide +kernel
theorem dX4_share_1 : decode cX4_share 1 = .ok (.iconst 0, 1) := by decide +kernel
theorem dX4_share_2 : decode cX4_share 2 = .ok (.iconst 1, 1) := by decide +kernel
theorem dX4_share_3 : decode cX4_share 3 = .ok (.invokestatic 32, 3) := by decide +kernel
theorem dX4_share_6 : decode cX4_share 6 = .ok (.ifCond .ne 6, 3) := by decide +kernel
theorem dX4_share_9 : decode cX4_share 9 = .ok (.bipush (-2), 2) := by decide +kernel
theorem dX4_share_11 : decode cX4_share 11 = .ok (.ireturn, 1) := by decide +kernel
theorem dX4_share_12 : decode cX4_share 12 = .ok (.aload_n 0, 1) := by decide +kernel
theorem dX4_share_13 : decode cX4_share 13 = .ok (.getfield 17, 3) := by decide +kernel
theorem dX4_share_16 : decode cX4_share 16 = .ok (.iconst 0, 1) := by decide +kernel
theorem dX4_share_17 : decode cX4_share 17 = .ok (.iaload, 1) := by decide +kernel
theorem dX4_share_18 : decode cX4_share 18 = .ok (.aload_n 0, 1) := by decide +kernel
theorem dX4_share_19 : decode cX4_share 19 = .ok (.getfield 17, 3) := by decide +kernel
theorem dX4_share_22 : decode cX4_share 22 = .ok (.iconst 2, 1) := by decide +kernel
theorem dX4_share_23 : decode cX4_share 23 = .ok (.iaload, 1) := by decide +kernel
theorem dX4_share_24 : decode cX4_share 24 = .ok (.isub, 1) := by decide +kernel
theorem dX4_share_25 : decode cX4_share 25 = .ok (.istore_n 2, 1) := by decide +kernel
theorem dX4_share_26 : decode cX4_share 26 = .ok (.iload_n 2, 1) := by decide +kernel
theorem dX4_share_27 : decode cX4_share 27 = .ok (.aload_n 0, 1) := by decide +kernel
theorem dX4_share_28 : decode cX4_share 28 = .ok (.getfield 17, 3) := by decide +kernel
theorem dX4_share_31 : decode cX4_share 31 = .ok (.iconst 3, 1) := by decide +kernel
theorem dX4_share_32 : decode cX4_share 32 = .ok (.iaload, 1) := by decide +kernel
theorem dX4_share_33 : decode cX4_share 33 = .ok (.iadd, 1) := by decide +kernel
theorem dX4_share_34 : decode cX4_share 34 = .ok (.aload_n 0, 1) := by decide +kernel
theorem dX4_share_35 : decode cX4_share 35 = .ok (.getfield 17, 3) := by decide +kernel
theorem dX4_share_38 : decode cX4_share 38 = .ok (.iconst 1, 1) := by decide +kernel
theorem dX4_share_39 : decode cX4_share 39 = .ok (.iaload, 1) := by decide +kernel
theorem dX4_share_40 : decode cX4_share 40 = .ok (.isub, 1) := by decide +kernel
theorem dX4_share_41 : decode cX4_share 41 = .ok (.istore_n 3, 1) := by decide +kernel
theorem dX4_share_42 : decode cX4_share 42 = .ok (.iload_n 3, 1) := by decide +kernel
theorem dX4_share_43 : decode cX4_share 43 = .ok (.ifCond .le 12, 3) := by decide +kernel
theorem dX4_share_46 : decode cX4_share 46 = .ok (.iload_n 2, 1) := by decide +kernel
theorem dX4_share_47 : decode cX4_share 47 = .ok (.iconst 0, 1) := by decide +kernel
theorem dX4_share_48 : decode cX4_share 48 = .ok (.iload_n 3, 1) := by decide +kernel
theorem dX4_share_49 : decode cX4_share 49 = .ok (.invokestatic 32, 3) := by decide +kernel
theorem dX4_share_52 : decode cX4_share 52 = .ok (.ifCond .ne 6, 3) := by decide +kernel
theorem dX4_share_55 : decode cX4_share 55 = .ok (.bipush (-3), 2) := by decide +kernel
theorem dX4_share_57 : decode cX4_share 57 = .ok (.ireturn, 1) := by decide +kernel
theorem dX4_share_58 : decode cX4_share 58 = .ok (.iload_n 1, 1) := by decide +kernel
theorem dX4_share_59 : decode cX4_share 59 = .ok (.ifCond .ne 7, 3) := by decide +kernel
theorem dX4_share_62 : decode cX4_share 62 = .ok (.iload_n 2, 1) := by decide +kernel
theorem dX4_share_63 : decode cX4_share 63 = .ok (.goto 4, 3) := by decide +kernel
theorem dX4_share_66 : decode cX4_share 66 = .ok (.iload_n 3, 1) := by decide +kernel
theorem dX4_share_67 : decode cX4_share 67 = .ok (.iload_n 2, 1) := by decide +kernel
theorem dX4_share_68 : decode cX4_share 68 = .ok (.iload_n 3, 1) := by decide +kernel
theorem dX4_share_69 : decode cX4_share 69 = .ok (.invokestatic 120, 3) := by decide +kernel
theorem dX4_share_72 : decode cX4_share 72 = .ok (.idiv, 1) := by decide +kernel
theorem dX4_share_73 : decode cX4_share 73 = .ok (.ireturn, 1) := by decide +kernel
theorem dX4_hangs_0 : decode cX4_hangs 0 = .ok (.aload_n 0, 1) := by decide +kernel
theorem dX4_hangs_1 : decode cX4_hangs 1 = .ok (.iload_n 1, 1) := by decide +kernel
theorem dX4_hangs_2 : decode cX4_hangs 2 = .ok (.invokevirtual 55, 3) := by decide +kernel
theorem dX4_hangs_5 : decode cX4_hangs 5 = .ok (.ifCond .eq 13, 3) := by decide +kernel
theorem dX4_hangs_8 : decode cX4_hangs 8 = .ok (.iload_n 2, 1) := by decide +kernel
theorem dX4_hangs_9 : decode cX4_hangs 9 = .ok (.iconst 1, 1) := by decide +kernel
theorem dX4_hangs_10 : decode cX4_hangs 10 = .ok (.bipush 100, 2) := by decide +kernel
theorem dX4_hangs_12 : decode cX4_hangs 12 = .ok (.invokestatic 32, 3) := by decide +kernel
theorem dX4_hangs_15 : decode cX4_hangs 15 = .ok (.ifCond .ne 6, 3) := by decide +kernel
theorem dX4_hangs_18 : decode cX4_hangs 18 = .ok (.bipush (-2), 2) := by decide +kernel
theorem dX4_hangs_20 : decode cX4_hangs 20 = .ok (.ireturn, 1) := by decide +kernel
theorem dX4_hangs_21 : decode cX4_hangs 21 = .ok (.iconst 0, 1) := by decide +kernel
theorem dX4_hangs_22 : decode cX4_hangs 22 = .ok (.istore_n 3, 1) := by decide +kernel
theorem dX4_hangs_23 : decode cX4_hangs 23 = .ok (.iload_n 3, 1) := by decide +kernel
theorem dX4_hangs_24 : decode cX4_hangs 24 = .ok (.aload_n 0, 1) := by decide +kernel
theorem dX4_hangs_25 : decode cX4_hangs 25 = .ok (.getfield 7, 3) := by decide +kernel
theorem dX4_hangs_28 : decode cX4_hangs 28 = .ok (.if_icmp .ge 109, 3) := by decide +kernel
theorem dX4_hangs_31 : decode cX4_hangs 31 = .ok (.iconst 0, 1) := by decide +kernel
theorem dX4_hangs_32 : decode cX4_hangs 32 = .ok (.istore 4, 2) := by decide +kernel
theorem dX4_hangs_34 : decode cX4_hangs 34 = .ok (.iconst 0, 1) := by decide +kernel
theorem dX4_hangs_35 : decode cX4_hangs 35 = .ok (.istore 5, 2) := by decide +kernel
theorem dX4_hangs_37 : decode cX4_hangs 37 = .ok (.iconst 0, 1) := by decide +kernel
theorem dX4_hangs_38 : decode cX4_hangs 38 = .ok (.istore 6, 2) := by decide +kernel
theorem dX4_hangs_40 : decode cX4_hangs 40 = .ok (.iload 6, 2) := by decide +kernel
theorem dX4_hangs_42 : decode cX4_hangs 42 = .ok (.aload_n 0, 1) := by decide +kernel
theorem dX4_hangs_43 : decode cX4_hangs 43 = .ok (.getfield 7, 3) := by decide +kernel
theorem dX4_hangs_46 : decode cX4_hangs 46 = .ok (.if_icmp .ge 57, 3) := by decide +kernel
theorem dX4_hangs_49 : decode cX4_hangs 49 = .ok (.iload 4, 2) := by decide +kernel
theorem dX4_hangs_51 : decode cX4_hangs 51 = .ok (.aload_n 0, 1) := by decide +kernel
theorem dX4_hangs_52 : decode cX4_hangs 52 = .ok (.getfield 13, 3) := by decide +kernel
theorem dX4_hangs_55 : decode cX4_hangs 55 = .ok (.bipush 10, 2) := by decide +kernel
theorem dX4_hangs_57 : decode cX4_hangs 57 = .ok (.iload_n 3, 1) := by decide +kernel
theorem dX4_hangs_58 : decode cX4_hangs 58 = .ok (.imul, 1) := by decide +kernel
theorem dX4_hangs_59 : decode cX4_hangs 59 = .ok (.iload 6, 2) := by decide +kernel
theorem dX4_hangs_61 : decode cX4_hangs 61 = .ok (.iadd, 1) := by decide +kernel
theorem dX4_hangs_62 : decode cX4_hangs 62 = .ok (.iaload, 1) := by decide +kernel
theorem dX4_hangs_63 : decode cX4_hangs 63 = .ok (.iadd, 1) := by decide +kernel
theorem dX4_hangs_64 : decode cX4_hangs 64 = .ok (.istore 4, 2) := by decide +kernel
theorem dX4_hangs_66 : decode cX4_hangs 66 = .ok (.iload 5, 2) := by decide +kernel
theorem dX4_hangs_68 : decode cX4_hangs 68 = .ok (.iload_n 1, 1) := by decide +kernel
theorem dX4_hangs_69 : decode cX4_hangs 69 = .ok (.iload 6, 2) := by decide +kernel
theorem dX4_hangs_71 : decode cX4_hangs 71 = .ok (.ishr, 1) := by decide +kernel
theorem dX4_hangs_72 : decode cX4_hangs 72 = .ok (.iconst 1, 1) := by decide +kernel
theorem dX4_hangs_73 : decode cX4_hangs 73 = .ok (.iand, 1) := by decide +kernel
theorem dX4_hangs_74 : decode cX4_hangs 74 = .ok (.iconst 1, 1) := by decide +kernel
theorem dX4_hangs_75 : decode cX4_hangs 75 = .ok (.if_icmp .ne 18, 3) := by decide +kernel
theorem dX4_hangs_78 : decode cX4_hangs 78 = .ok (.aload_n 0, 1) := by decide +kernel
theorem dX4_hangs_79 : decode cX4_hangs 79 = .ok (.getfield 13, 3) := by decide +kernel
theorem dX4_hangs_82 : decode cX4_hangs 82 = .ok (.bipush 10, 2) := by decide +kernel
theorem dX4_hangs_84 : decode cX4_hangs 84 = .ok (.iload_n 3, 1) := by decide +kernel
theorem dX4_hangs_85 : decode cX4_hangs 85 = .ok (.imul, 1) := by decide +kernel
theorem dX4_hangs_86 : decode cX4_hangs 86 = .ok (.iload 6, 2) := by decide +kernel
theorem dX4_hangs_88 : decode cX4_hangs 88 = .ok (.iadd, 1) := by decide +kernel
theorem dX4_hangs_89 : decode cX4_hangs 89 = .ok (.iaload, 1) := by decide +kernel
theorem dX4_hangs_90 : decode cX4_hangs 90 = .ok (.goto 4, 3) := by decide +kernel
theorem dX4_hangs_93 : decode cX4_hangs 93 = .ok (.iconst 0, 1) := by decide +kernel
theorem dX4_hangs_94 : decode cX4_hangs 94 = .ok (.iadd, 1) := by decide +kernel
theorem dX4_hangs_95 : decode cX4_hangs 95 = .ok (.istore 5, 2) := by decide +kernel
theorem dX4_hangs_97 : decode cX4_hangs 97 = .ok (.iinc 6 1, 3) := by decide +kernel
theorem dX4_hangs_100 : decode cX4_hangs 100 = .ok (.goto (-60), 3) := by decide +kernel
theorem dX4_hangs_103 : decode cX4_hangs 103 = .ok (.iload_n 1, 1) := by decide +kernel
theorem dX4_hangs_104 : decode cX4_hangs 104 = .ok (.iload_n 3, 1) := by decide +kernel
theorem dX4_hangs_105 : decode cX4_hangs 105 = .ok (.ishr, 1) := by decide +kernel
theorem dX4_hangs_106 : decode cX4_hangs 106 = .ok (.iconst 1, 1) := by decide +kernel
theorem dX4_hangs_107 : decode cX4_hangs 107 = .ok (.iand, 1) := by decide +kernel
theorem dX4_hangs_108 : decode cX4_hangs 108 = .ok (.iconst 1, 1) := by decide +kernel
theorem dX4_hangs_109 : decode cX4_hangs 109 = .ok (.if_icmp .ne 22, 3) := by decide +kernel
theorem dX4_hangs_112 : decode cX4_hangs 112 = .ok (.iload 4, 2) := by decide +kernel
theorem dX4_hangs_114 : decode cX4_hangs 114 = .ok (.ifCond .le 17, 3) := by decide +kernel
theorem dX4_hangs_117 : decode cX4_hangs 117 = .ok (.bipush 100, 2) := by decide +kernel
theorem dX4_hangs_119 : decode cX4_hangs 119 = .ok (.iload 5, 2) := by decide +kernel
theorem dX4_hangs_121 : decode cX4_hangs 121 = .ok (.imul, 1) := by decide +kernel
theorem dX4_hangs_122 : decode cX4_hangs 122 = .ok (.iload_n 2, 1) := by decide +kernel
theorem dX4_hangs_123 : decode cX4_hangs 123 = .ok (.iload 4, 2) := by decide +kernel
theorem dX4_hangs_125 : decode cX4_hangs 125 = .ok (.imul, 1) := by decide +kernel
theorem dX4_hangs_126 : decode cX4_hangs 126 = .ok (.if_icmp .ge 5, 3) := by decide +kernel
theorem dX4_hangs_129 : decode cX4_hangs 129 = .ok (.iconst 0, 1) := by decide +kernel
theorem dX4_hangs_130 : decode cX4_hangs 130 = .ok (.ireturn, 1) := by decide +kernel
theorem dX4_hangs_131 : decode cX4_hangs 131 = .ok (.iinc 3 1, 3) := by decide +kernel
theorem dX4_hangs_134 : decode cX4_hangs 134 = .ok (.goto (-111), 3) := by decide +kernel
theorem dX4_hangs_137 : decode cX4_hangs 137 = .ok (.iconst 1, 1) := by decide +kernel
theorem dX4_hangs_138 : decode cX4_hangs 138 = .ok (.ireturn, 1) := by decide +kernel
theorem dX4_lines_0 : decode cX4_lines 0 = .ok (.iconst 0, 1) := by decide +kernel
theorem dX4_lines_1 : decode cX4_lines 1 = .ok (.istore_n 1, 1) := by decide +kernel
theorem dX4_lines_2 : decode cX4_lines 2 = .ok (.iconst 0, 1) := by decide +kernel
theorem dX4_lines_3 : decode cX4_lines 3 = .ok (.istore_n 2, 1) := by decide +kernel
theorem dX4_lines_4 : decode cX4_lines 4 = .ok (.iload_n 2, 1) := by decide +kernel
theorem dX4_lines_5 : decode cX4_lines 5 = .ok (.aload_n 0, 1) := by decide +kernel
theorem dX4_lines_6 : decode cX4_lines 6 = .ok (.getfield 7, 3) := by decide +kernel
theorem dX4_lines_9 : decode cX4_lines 9 = .ok (.if_icmp .ge 44, 3) := by decide +kernel
theorem dX4_lines_12 : decode cX4_lines 12 = .ok (.iconst 0, 1) := by decide +kernel
theorem dX4_lines_13 : decode cX4_lines 13 = .ok (.istore_n 3, 1) := by decide +kernel
theorem dX4_lines_14 : decode cX4_lines 14 = .ok (.iload_n 3, 1) := by decide +kernel
theorem dX4_lines_15 : decode cX4_lines 15 = .ok (.iload_n 2, 1) := by decide +kernel
theorem dX4_lines_16 : decode cX4_lines 16 = .ok (.if_icmp .ge 31, 3) := by decide +kernel
theorem dX4_lines_19 : decode cX4_lines 19 = .ok (.iload_n 1, 1) := by decide +kernel
theorem dX4_lines_20 : decode cX4_lines 20 = .ok (.aload_n 0, 1) := by decide +kernel
theorem dX4_lines_21 : decode cX4_lines 21 = .ok (.getfield 13, 3) := by decide +kernel
theorem dX4_lines_24 : decode cX4_lines 24 = .ok (.bipush 10, 2) := by decide +kernel
theorem dX4_lines_26 : decode cX4_lines 26 = .ok (.iload_n 2, 1) := by decide +kernel
theorem dX4_lines_27 : decode cX4_lines 27 = .ok (.imul, 1) := by decide +kernel
theorem dX4_lines_28 : decode cX4_lines 28 = .ok (.iload_n 3, 1) := by decide +kernel
theorem dX4_lines_29 : decode cX4_lines 29 = .ok (.iadd, 1) := by decide +kernel
theorem dX4_lines_30 : decode cX4_lines 30 = .ok (.iaload, 1) := by decide +kernel
theorem dX4_lines_31 : decode cX4_lines 31 = .ok (.ifCond .le 7, 3) := by decide +kernel
theorem dX4_lines_34 : decode cX4_lines 34 = .ok (.iconst 1, 1) := by decide +kernel
theorem dX4_lines_35 : decode cX4_lines 35 = .ok (.goto 4, 3) := by decide +kernel
theorem dX4_lines_38 : decode cX4_lines 38 = .ok (.iconst 0, 1) := by decide +kernel
theorem dX4_lines_39 : decode cX4_lines 39 = .ok (.iadd, 1) := by decide +kernel
theorem dX4_lines_40 : decode cX4_lines 40 = .ok (.istore_n 1, 1) := by decide +kernel
theorem dX4_lines_41 : decode cX4_lines 41 = .ok (.iinc 3 1, 3) := by decide +kernel
theorem dX4_lines_44 : decode cX4_lines 44 = .ok (.goto (-30), 3) := by decide +kernel
theorem dX4_lines_47 : decode cX4_lines 47 = .ok (.iinc 2 1, 3) := by decide +kernel
theorem dX4_lines_50 : decode cX4_lines 50 = .ok (.goto (-46), 3) := by decide +kernel
theorem dX4_lines_53 : decode cX4_lines 53 = .ok (.iload_n 1, 1) := by decide +kernel
theorem dX4_lines_54 : decode cX4_lines 54 = .ok (.ireturn, 1) := by decide +kernel
theorem dX4_told_0 : decode cX4_told 0 = .ok (.iload_n 1, 1) := by decide +kernel
theorem dX4_told_1 : decode cX4_told 1 = .ok (.tableswitch 60 0 4 #[35, 40, 45, 50, 55], 35) := by decide +kernel
theorem dX4_told_36 : decode cX4_told 36 = .ok (.aload_n 0, 1) := by decide +kernel
theorem dX4_told_37 : decode cX4_told 37 = .ok (.getfield 7, 3) := by decide +kernel
theorem dX4_told_40 : decode cX4_told 40 = .ok (.ireturn, 1) := by decide +kernel
theorem dX4_told_41 : decode cX4_told 41 = .ok (.aload_n 0, 1) := by decide +kernel
theorem dX4_told_42 : decode cX4_told 42 = .ok (.invokevirtual 123, 3) := by decide +kernel
theorem dX4_told_45 : decode cX4_told 45 = .ok (.ireturn, 1) := by decide +kernel
theorem dX4_told_46 : decode cX4_told 46 = .ok (.aload_n 0, 1) := by decide +kernel
theorem dX4_told_47 : decode cX4_told 47 = .ok (.getfield 40, 3) := by decide +kernel
theorem dX4_told_50 : decode cX4_told 50 = .ok (.ireturn, 1) := by decide +kernel
theorem dX4_told_51 : decode cX4_told 51 = .ok (.aload_n 0, 1) := by decide +kernel
theorem dX4_told_52 : decode cX4_told 52 = .ok (.getfield 43, 3) := by decide +kernel
theorem dX4_told_55 : decode cX4_told 55 = .ok (.ireturn, 1) := by decide +kernel
theorem dX4_told_56 : decode cX4_told 56 = .ok (.aload_n 0, 1) := by decide +kernel
theorem dX4_told_57 : decode cX4_told 57 = .ok (.getfield 20, 3) := by decide +kernel
theorem dX4_told_60 : decode cX4_told 60 = .ok (.ireturn, 1) := by decide +kernel
theorem dX4_told_61 : decode cX4_told 61 = .ok (.iload_n 1, 1) := by decide +kernel
theorem dX4_told_62 : decode cX4_told 62 = .ok (.bipush 10, 2) := by decide +kernel
theorem dX4_told_64 : decode cX4_told 64 = .ok (.bipush 13, 2) := by decide +kernel
theorem dX4_told_66 : decode cX4_told 66 = .ok (.invokestatic 32, 3) := by decide +kernel
theorem dX4_told_69 : decode cX4_told 69 = .ok (.ifCond .eq 15, 3) := by decide +kernel
theorem dX4_told_72 : decode cX4_told 72 = .ok (.aload_n 0, 1) := by decide +kernel
theorem dX4_told_73 : decode cX4_told 73 = .ok (.getfield 17, 3) := by decide +kernel
theorem dX4_told_76 : decode cX4_told 76 = .ok (.iload_n 1, 1) := by decide +kernel
theorem dX4_told_77 : decode cX4_told 77 = .ok (.bipush 10, 2) := by decide +kernel
theorem dX4_told_79 : decode cX4_told 79 = .ok (.isub, 1) := by decide +kernel
theorem dX4_told_80 : decode cX4_told 80 = .ok (.iaload, 1) := by decide +kernel
theorem dX4_told_81 : decode cX4_told 81 = .ok (.goto 5, 3) := by decide +kernel
theorem dX4_told_84 : decode cX4_told 84 = .ok (.ldc 54, 2) := by decide +kernel
theorem dX4_told_86 : decode cX4_told 86 = .ok (.ireturn, 1) := by decide +kernel
end
section
theorem dL_law_0 : decode code 0 = .ok (.new 7, 3) := by decide +kernel
theorem dL_law_3 : decode code 3 = .ok (.dup, 1) := by decide +kernel
theorem dL_law_4 : decode code 4 = .ok (.invokespecial 9, 3) := by decide +kernel
theorem dL_law_7 : decode code 7 = .ok (.astore_n 1, 1) := by decide +kernel
theorem dL_law_8 : decode code 8 = .ok (.new 10, 3) := by decide +kernel
theorem dL_law_11 : decode code 11 = .ok (.dup, 1) := by decide +kernel
theorem dL_law_12 : decode code 12 = .ok (.invokespecial 12, 3) := by decide +kernel
theorem dL_law_15 : decode code 15 = .ok (.astore_n 2, 1) := by decide +kernel
theorem dL_law_16 : decode code 16 = .ok (.iconst 0, 1) := by decide +kernel
theorem dL_law_17 : decode code 17 = .ok (.istore_n 3, 1) := by decide +kernel
theorem dL_law_18 : decode code 18 = .ok (.iload_n 3, 1) := by decide +kernel
theorem dL_law_19 : decode code 19 = .ok (.aload_n 0, 1) := by decide +kernel
theorem dL_law_20 : decode code 20 = .ok (.arraylength, 1) := by decide +kernel
theorem dL_law_21 : decode code 21 = .ok (.iconst 4, 1) := by decide +kernel
theorem dL_law_22 : decode code 22 = .ok (.isub, 1) := by decide +kernel
theorem dL_law_23 : decode code 23 = .ok (.if_icmp .gt 795, 3) := by decide +kernel
theorem dL_law_26 : decode code 26 = .ok (.aload_n 0, 1) := by decide +kernel
theorem dL_law_27 : decode code 27 = .ok (.iload_n 3, 1) := by decide +kernel
theorem dL_law_28 : decode code 28 = .ok (.iaload, 1) := by decide +kernel
theorem dL_law_29 : decode code 29 = .ok (.bipush 31, 2) := by decide +kernel
theorem dL_law_31 : decode code 31 = .ok (.iand, 1) := by decide +kernel
theorem dL_law_32 : decode code 32 = .ok (.tableswitch 780 0 23 #[112, 135, 178, 211, 254, 277, 326, 349, 382, 395, 428, 461, 494, 527, 570, 593, 626, 639, 652, 665, 678, 701, 724, 757], 112) := by decide +kernel
theorem dL_law_144 : decode code 144 = .ok (.aload_n 1, 1) := by decide +kernel
theorem dL_law_145 : decode code 145 = .ok (.aload_n 0, 1) := by decide +kernel
theorem dL_law_146 : decode code 146 = .ok (.iload_n 3, 1) := by decide +kernel
theorem dL_law_147 : decode code 147 = .ok (.iconst 1, 1) := by decide +kernel
theorem dL_law_148 : decode code 148 = .ok (.iadd, 1) := by decide +kernel
theorem dL_law_149 : decode code 149 = .ok (.iaload, 1) := by decide +kernel
theorem dL_law_150 : decode code 150 = .ok (.invokevirtual 13, 3) := by decide +kernel
theorem dL_law_153 : decode code 153 = .ok (.aload_n 2, 1) := by decide +kernel
theorem dL_law_154 : decode code 154 = .ok (.aload_n 0, 1) := by decide +kernel
theorem dL_law_155 : decode code 155 = .ok (.iload_n 3, 1) := by decide +kernel
theorem dL_law_156 : decode code 156 = .ok (.iconst 1, 1) := by decide +kernel
theorem dL_law_157 : decode code 157 = .ok (.iadd, 1) := by decide +kernel
theorem dL_law_158 : decode code 158 = .ok (.iaload, 1) := by decide +kernel
theorem dL_law_159 : decode code 159 = .ok (.invokevirtual 17, 3) := by decide +kernel
theorem dL_law_162 : decode code 162 = .ok (.if_icmp .eq 650, 3) := by decide +kernel
theorem dL_law_165 : decode code 165 = .ok (.iconst 0, 1) := by decide +kernel
theorem dL_law_166 : decode code 166 = .ok (.ireturn, 1) := by decide +kernel
theorem dL_law_167 : decode code 167 = .ok (.aload_n 1, 1) := by decide +kernel
theorem dL_law_168 : decode code 168 = .ok (.aload_n 0, 1) := by decide +kernel
theorem dL_law_169 : decode code 169 = .ok (.iload_n 3, 1) := by decide +kernel
theorem dL_law_170 : decode code 170 = .ok (.iconst 1, 1) := by decide +kernel
theorem dL_law_171 : decode code 171 = .ok (.iadd, 1) := by decide +kernel
theorem dL_law_172 : decode code 172 = .ok (.iaload, 1) := by decide +kernel
theorem dL_law_173 : decode code 173 = .ok (.aload_n 0, 1) := by decide +kernel
theorem dL_law_174 : decode code 174 = .ok (.iload_n 3, 1) := by decide +kernel
theorem dL_law_175 : decode code 175 = .ok (.iconst 2, 1) := by decide +kernel
theorem dL_law_176 : decode code 176 = .ok (.iadd, 1) := by decide +kernel
theorem dL_law_177 : decode code 177 = .ok (.iaload, 1) := by decide +kernel
theorem dL_law_178 : decode code 178 = .ok (.aload_n 0, 1) := by decide +kernel
theorem dL_law_179 : decode code 179 = .ok (.iload_n 3, 1) := by decide +kernel
theorem dL_law_180 : decode code 180 = .ok (.iconst 3, 1) := by decide +kernel
theorem dL_law_181 : decode code 181 = .ok (.iadd, 1) := by decide +kernel
theorem dL_law_182 : decode code 182 = .ok (.iaload, 1) := by decide +kernel
theorem dL_law_183 : decode code 183 = .ok (.invokevirtual 18, 3) := by decide +kernel
theorem dL_law_186 : decode code 186 = .ok (.aload_n 2, 1) := by decide +kernel
theorem dL_law_187 : decode code 187 = .ok (.aload_n 0, 1) := by decide +kernel
theorem dL_law_188 : decode code 188 = .ok (.iload_n 3, 1) := by decide +kernel
theorem dL_law_189 : decode code 189 = .ok (.iconst 1, 1) := by decide +kernel
theorem dL_law_190 : decode code 190 = .ok (.iadd, 1) := by decide +kernel
theorem dL_law_191 : decode code 191 = .ok (.iaload, 1) := by decide +kernel
theorem dL_law_192 : decode code 192 = .ok (.aload_n 0, 1) := by decide +kernel
theorem dL_law_193 : decode code 193 = .ok (.iload_n 3, 1) := by decide +kernel
theorem dL_law_194 : decode code 194 = .ok (.iconst 2, 1) := by decide +kernel
theorem dL_law_195 : decode code 195 = .ok (.iadd, 1) := by decide +kernel
theorem dL_law_196 : decode code 196 = .ok (.iaload, 1) := by decide +kernel
theorem dL_law_197 : decode code 197 = .ok (.aload_n 0, 1) := by decide +kernel
theorem dL_law_198 : decode code 198 = .ok (.iload_n 3, 1) := by decide +kernel
theorem dL_law_199 : decode code 199 = .ok (.iconst 3, 1) := by decide +kernel
theorem dL_law_200 : decode code 200 = .ok (.iadd, 1) := by decide +kernel
theorem dL_law_201 : decode code 201 = .ok (.iaload, 1) := by decide +kernel
theorem dL_law_202 : decode code 202 = .ok (.invokevirtual 22, 3) := by decide +kernel
theorem dL_law_205 : decode code 205 = .ok (.if_icmp .eq 607, 3) := by decide +kernel
theorem dL_law_208 : decode code 208 = .ok (.iconst 0, 1) := by decide +kernel
theorem dL_law_209 : decode code 209 = .ok (.ireturn, 1) := by decide +kernel
theorem dL_law_210 : decode code 210 = .ok (.aload_n 1, 1) := by decide +kernel
theorem dL_law_211 : decode code 211 = .ok (.aload_n 0, 1) := by decide +kernel
theorem dL_law_212 : decode code 212 = .ok (.iload_n 3, 1) := by decide +kernel
theorem dL_law_213 : decode code 213 = .ok (.iconst 1, 1) := by decide +kernel
theorem dL_law_214 : decode code 214 = .ok (.iadd, 1) := by decide +kernel
theorem dL_law_215 : decode code 215 = .ok (.iaload, 1) := by decide +kernel
theorem dL_law_216 : decode code 216 = .ok (.aload_n 0, 1) := by decide +kernel
theorem dL_law_217 : decode code 217 = .ok (.iload_n 3, 1) := by decide +kernel
theorem dL_law_218 : decode code 218 = .ok (.iconst 2, 1) := by decide +kernel
theorem dL_law_219 : decode code 219 = .ok (.iadd, 1) := by decide +kernel
theorem dL_law_220 : decode code 220 = .ok (.iaload, 1) := by decide +kernel
theorem dL_law_221 : decode code 221 = .ok (.invokevirtual 23, 3) := by decide +kernel
theorem dL_law_224 : decode code 224 = .ok (.aload_n 2, 1) := by decide +kernel
theorem dL_law_225 : decode code 225 = .ok (.aload_n 0, 1) := by decide +kernel
theorem dL_law_226 : decode code 226 = .ok (.iload_n 3, 1) := by decide +kernel
theorem dL_law_227 : decode code 227 = .ok (.iconst 1, 1) := by decide +kernel
theorem dL_law_228 : decode code 228 = .ok (.iadd, 1) := by decide +kernel
theorem dL_law_229 : decode code 229 = .ok (.iaload, 1) := by decide +kernel
theorem dL_law_230 : decode code 230 = .ok (.aload_n 0, 1) := by decide +kernel
theorem dL_law_231 : decode code 231 = .ok (.iload_n 3, 1) := by decide +kernel
theorem dL_law_232 : decode code 232 = .ok (.iconst 2, 1) := by decide +kernel
theorem dL_law_233 : decode code 233 = .ok (.iadd, 1) := by decide +kernel
theorem dL_law_234 : decode code 234 = .ok (.iaload, 1) := by decide +kernel
theorem dL_law_235 : decode code 235 = .ok (.invokevirtual 27, 3) := by decide +kernel
theorem dL_law_238 : decode code 238 = .ok (.if_icmp .eq 574, 3) := by decide +kernel
theorem dL_law_241 : decode code 241 = .ok (.iconst 0, 1) := by decide +kernel
theorem dL_law_242 : decode code 242 = .ok (.ireturn, 1) := by decide +kernel
theorem dL_law_243 : decode code 243 = .ok (.aload_n 1, 1) := by decide +kernel
theorem dL_law_244 : decode code 244 = .ok (.aload_n 0, 1) := by decide +kernel
theorem dL_law_245 : decode code 245 = .ok (.iload_n 3, 1) := by decide +kernel
theorem dL_law_246 : decode code 246 = .ok (.iconst 1, 1) := by decide +kernel
theorem dL_law_247 : decode code 247 = .ok (.iadd, 1) := by decide +kernel
theorem dL_law_248 : decode code 248 = .ok (.iaload, 1) := by decide +kernel
theorem dL_law_249 : decode code 249 = .ok (.aload_n 0, 1) := by decide +kernel
theorem dL_law_250 : decode code 250 = .ok (.iload_n 3, 1) := by decide +kernel
theorem dL_law_251 : decode code 251 = .ok (.iconst 2, 1) := by decide +kernel
theorem dL_law_252 : decode code 252 = .ok (.iadd, 1) := by decide +kernel
theorem dL_law_253 : decode code 253 = .ok (.iaload, 1) := by decide +kernel
theorem dL_law_254 : decode code 254 = .ok (.aload_n 0, 1) := by decide +kernel
theorem dL_law_255 : decode code 255 = .ok (.iload_n 3, 1) := by decide +kernel
theorem dL_law_256 : decode code 256 = .ok (.iconst 3, 1) := by decide +kernel
theorem dL_law_257 : decode code 257 = .ok (.iadd, 1) := by decide +kernel
theorem dL_law_258 : decode code 258 = .ok (.iaload, 1) := by decide +kernel
theorem dL_law_259 : decode code 259 = .ok (.invokevirtual 28, 3) := by decide +kernel
theorem dL_law_262 : decode code 262 = .ok (.aload_n 2, 1) := by decide +kernel
theorem dL_law_263 : decode code 263 = .ok (.aload_n 0, 1) := by decide +kernel
theorem dL_law_264 : decode code 264 = .ok (.iload_n 3, 1) := by decide +kernel
theorem dL_law_265 : decode code 265 = .ok (.iconst 1, 1) := by decide +kernel
theorem dL_law_266 : decode code 266 = .ok (.iadd, 1) := by decide +kernel
theorem dL_law_267 : decode code 267 = .ok (.iaload, 1) := by decide +kernel
theorem dL_law_268 : decode code 268 = .ok (.aload_n 0, 1) := by decide +kernel
theorem dL_law_269 : decode code 269 = .ok (.iload_n 3, 1) := by decide +kernel
theorem dL_law_270 : decode code 270 = .ok (.iconst 2, 1) := by decide +kernel
theorem dL_law_271 : decode code 271 = .ok (.iadd, 1) := by decide +kernel
theorem dL_law_272 : decode code 272 = .ok (.iaload, 1) := by decide +kernel
theorem dL_law_273 : decode code 273 = .ok (.aload_n 0, 1) := by decide +kernel
theorem dL_law_274 : decode code 274 = .ok (.iload_n 3, 1) := by decide +kernel
theorem dL_law_275 : decode code 275 = .ok (.iconst 3, 1) := by decide +kernel
theorem dL_law_276 : decode code 276 = .ok (.iadd, 1) := by decide +kernel
theorem dL_law_277 : decode code 277 = .ok (.iaload, 1) := by decide +kernel
theorem dL_law_278 : decode code 278 = .ok (.invokevirtual 31, 3) := by decide +kernel
theorem dL_law_281 : decode code 281 = .ok (.if_icmp .eq 531, 3) := by decide +kernel
theorem dL_law_284 : decode code 284 = .ok (.iconst 0, 1) := by decide +kernel
theorem dL_law_285 : decode code 285 = .ok (.ireturn, 1) := by decide +kernel
theorem dL_law_286 : decode code 286 = .ok (.aload_n 1, 1) := by decide +kernel
theorem dL_law_287 : decode code 287 = .ok (.aload_n 0, 1) := by decide +kernel
theorem dL_law_288 : decode code 288 = .ok (.iload_n 3, 1) := by decide +kernel
theorem dL_law_289 : decode code 289 = .ok (.iconst 1, 1) := by decide +kernel
theorem dL_law_290 : decode code 290 = .ok (.iadd, 1) := by decide +kernel
theorem dL_law_291 : decode code 291 = .ok (.iaload, 1) := by decide +kernel
theorem dL_law_292 : decode code 292 = .ok (.invokevirtual 32, 3) := by decide +kernel
theorem dL_law_295 : decode code 295 = .ok (.aload_n 2, 1) := by decide +kernel
theorem dL_law_296 : decode code 296 = .ok (.aload_n 0, 1) := by decide +kernel
theorem dL_law_297 : decode code 297 = .ok (.iload_n 3, 1) := by decide +kernel
theorem dL_law_298 : decode code 298 = .ok (.iconst 1, 1) := by decide +kernel
theorem dL_law_299 : decode code 299 = .ok (.iadd, 1) := by decide +kernel
theorem dL_law_300 : decode code 300 = .ok (.iaload, 1) := by decide +kernel
theorem dL_law_301 : decode code 301 = .ok (.invokevirtual 35, 3) := by decide +kernel
theorem dL_law_304 : decode code 304 = .ok (.if_icmp .eq 508, 3) := by decide +kernel
theorem dL_law_307 : decode code 307 = .ok (.iconst 0, 1) := by decide +kernel
theorem dL_law_308 : decode code 308 = .ok (.ireturn, 1) := by decide +kernel
theorem dL_law_309 : decode code 309 = .ok (.aload_n 1, 1) := by decide +kernel
theorem dL_law_310 : decode code 310 = .ok (.aload_n 0, 1) := by decide +kernel
theorem dL_law_311 : decode code 311 = .ok (.iload_n 3, 1) := by decide +kernel
theorem dL_law_312 : decode code 312 = .ok (.iconst 1, 1) := by decide +kernel
theorem dL_law_313 : decode code 313 = .ok (.iadd, 1) := by decide +kernel
theorem dL_law_314 : decode code 314 = .ok (.iaload, 1) := by decide +kernel
theorem dL_law_315 : decode code 315 = .ok (.aload_n 0, 1) := by decide +kernel
theorem dL_law_316 : decode code 316 = .ok (.iload_n 3, 1) := by decide +kernel
theorem dL_law_317 : decode code 317 = .ok (.iconst 2, 1) := by decide +kernel
theorem dL_law_318 : decode code 318 = .ok (.iadd, 1) := by decide +kernel
theorem dL_law_319 : decode code 319 = .ok (.iaload, 1) := by decide +kernel
theorem dL_law_320 : decode code 320 = .ok (.ifCond .eq 7, 3) := by decide +kernel
theorem dL_law_323 : decode code 323 = .ok (.iconst 1, 1) := by decide +kernel
theorem dL_law_324 : decode code 324 = .ok (.goto 4, 3) := by decide +kernel
theorem dL_law_327 : decode code 327 = .ok (.iconst 0, 1) := by decide +kernel
theorem dL_law_328 : decode code 328 = .ok (.invokevirtual 36, 3) := by decide +kernel
theorem dL_law_331 : decode code 331 = .ok (.aload_n 2, 1) := by decide +kernel
theorem dL_law_332 : decode code 332 = .ok (.aload_n 0, 1) := by decide +kernel
theorem dL_law_333 : decode code 333 = .ok (.iload_n 3, 1) := by decide +kernel
theorem dL_law_334 : decode code 334 = .ok (.iconst 1, 1) := by decide +kernel
theorem dL_law_335 : decode code 335 = .ok (.iadd, 1) := by decide +kernel
theorem dL_law_336 : decode code 336 = .ok (.iaload, 1) := by decide +kernel
theorem dL_law_337 : decode code 337 = .ok (.aload_n 0, 1) := by decide +kernel
theorem dL_law_338 : decode code 338 = .ok (.iload_n 3, 1) := by decide +kernel
theorem dL_law_339 : decode code 339 = .ok (.iconst 2, 1) := by decide +kernel
theorem dL_law_340 : decode code 340 = .ok (.iadd, 1) := by decide +kernel
theorem dL_law_341 : decode code 341 = .ok (.iaload, 1) := by decide +kernel
theorem dL_law_342 : decode code 342 = .ok (.ifCond .eq 7, 3) := by decide +kernel
theorem dL_law_345 : decode code 345 = .ok (.iconst 1, 1) := by decide +kernel
theorem dL_law_346 : decode code 346 = .ok (.goto 4, 3) := by decide +kernel
theorem dL_law_349 : decode code 349 = .ok (.iconst 0, 1) := by decide +kernel
theorem dL_law_350 : decode code 350 = .ok (.invokevirtual 40, 3) := by decide +kernel
theorem dL_law_353 : decode code 353 = .ok (.if_icmp .eq 459, 3) := by decide +kernel
theorem dL_law_356 : decode code 356 = .ok (.iconst 0, 1) := by decide +kernel
theorem dL_law_357 : decode code 357 = .ok (.ireturn, 1) := by decide +kernel
theorem dL_law_358 : decode code 358 = .ok (.aload_n 1, 1) := by decide +kernel
theorem dL_law_359 : decode code 359 = .ok (.aload_n 0, 1) := by decide +kernel
theorem dL_law_360 : decode code 360 = .ok (.iload_n 3, 1) := by decide +kernel
theorem dL_law_361 : decode code 361 = .ok (.iconst 1, 1) := by decide +kernel
theorem dL_law_362 : decode code 362 = .ok (.iadd, 1) := by decide +kernel
theorem dL_law_363 : decode code 363 = .ok (.iaload, 1) := by decide +kernel
theorem dL_law_364 : decode code 364 = .ok (.invokevirtual 41, 3) := by decide +kernel
theorem dL_law_367 : decode code 367 = .ok (.aload_n 2, 1) := by decide +kernel
theorem dL_law_368 : decode code 368 = .ok (.aload_n 0, 1) := by decide +kernel
theorem dL_law_369 : decode code 369 = .ok (.iload_n 3, 1) := by decide +kernel
theorem dL_law_370 : decode code 370 = .ok (.iconst 1, 1) := by decide +kernel
theorem dL_law_371 : decode code 371 = .ok (.iadd, 1) := by decide +kernel
theorem dL_law_372 : decode code 372 = .ok (.iaload, 1) := by decide +kernel
theorem dL_law_373 : decode code 373 = .ok (.invokevirtual 44, 3) := by decide +kernel
theorem dL_law_376 : decode code 376 = .ok (.if_icmp .eq 436, 3) := by decide +kernel
theorem dL_law_379 : decode code 379 = .ok (.iconst 0, 1) := by decide +kernel
theorem dL_law_380 : decode code 380 = .ok (.ireturn, 1) := by decide +kernel
theorem dL_law_381 : decode code 381 = .ok (.aload_n 1, 1) := by decide +kernel
theorem dL_law_382 : decode code 382 = .ok (.aload_n 0, 1) := by decide +kernel
theorem dL_law_383 : decode code 383 = .ok (.iload_n 3, 1) := by decide +kernel
theorem dL_law_384 : decode code 384 = .ok (.iconst 1, 1) := by decide +kernel
theorem dL_law_385 : decode code 385 = .ok (.iadd, 1) := by decide +kernel
theorem dL_law_386 : decode code 386 = .ok (.iaload, 1) := by decide +kernel
theorem dL_law_387 : decode code 387 = .ok (.aload_n 0, 1) := by decide +kernel
theorem dL_law_388 : decode code 388 = .ok (.iload_n 3, 1) := by decide +kernel
theorem dL_law_389 : decode code 389 = .ok (.iconst 2, 1) := by decide +kernel
theorem dL_law_390 : decode code 390 = .ok (.iadd, 1) := by decide +kernel
theorem dL_law_391 : decode code 391 = .ok (.iaload, 1) := by decide +kernel
theorem dL_law_392 : decode code 392 = .ok (.invokevirtual 45, 3) := by decide +kernel
theorem dL_law_395 : decode code 395 = .ok (.aload_n 2, 1) := by decide +kernel
theorem dL_law_396 : decode code 396 = .ok (.aload_n 0, 1) := by decide +kernel
theorem dL_law_397 : decode code 397 = .ok (.iload_n 3, 1) := by decide +kernel
theorem dL_law_398 : decode code 398 = .ok (.iconst 1, 1) := by decide +kernel
theorem dL_law_399 : decode code 399 = .ok (.iadd, 1) := by decide +kernel
theorem dL_law_400 : decode code 400 = .ok (.iaload, 1) := by decide +kernel
theorem dL_law_401 : decode code 401 = .ok (.aload_n 0, 1) := by decide +kernel
theorem dL_law_402 : decode code 402 = .ok (.iload_n 3, 1) := by decide +kernel
theorem dL_law_403 : decode code 403 = .ok (.iconst 2, 1) := by decide +kernel
theorem dL_law_404 : decode code 404 = .ok (.iadd, 1) := by decide +kernel
theorem dL_law_405 : decode code 405 = .ok (.iaload, 1) := by decide +kernel
theorem dL_law_406 : decode code 406 = .ok (.invokevirtual 48, 3) := by decide +kernel
theorem dL_law_409 : decode code 409 = .ok (.if_icmp .eq 403, 3) := by decide +kernel
theorem dL_law_412 : decode code 412 = .ok (.iconst 0, 1) := by decide +kernel
theorem dL_law_413 : decode code 413 = .ok (.ireturn, 1) := by decide +kernel
theorem dL_law_414 : decode code 414 = .ok (.aload_n 1, 1) := by decide +kernel
theorem dL_law_415 : decode code 415 = .ok (.invokevirtual 49, 3) := by decide +kernel
theorem dL_law_418 : decode code 418 = .ok (.aload_n 2, 1) := by decide +kernel
theorem dL_law_419 : decode code 419 = .ok (.invokevirtual 53, 3) := by decide +kernel
theorem dL_law_422 : decode code 422 = .ok (.if_icmp .eq 390, 3) := by decide +kernel
theorem dL_law_425 : decode code 425 = .ok (.iconst 0, 1) := by decide +kernel
theorem dL_law_426 : decode code 426 = .ok (.ireturn, 1) := by decide +kernel
theorem dL_law_427 : decode code 427 = .ok (.aload_n 1, 1) := by decide +kernel
theorem dL_law_428 : decode code 428 = .ok (.aload_n 0, 1) := by decide +kernel
theorem dL_law_429 : decode code 429 = .ok (.iload_n 3, 1) := by decide +kernel
theorem dL_law_430 : decode code 430 = .ok (.iconst 1, 1) := by decide +kernel
theorem dL_law_431 : decode code 431 = .ok (.iadd, 1) := by decide +kernel
theorem dL_law_432 : decode code 432 = .ok (.iaload, 1) := by decide +kernel
theorem dL_law_433 : decode code 433 = .ok (.aload_n 0, 1) := by decide +kernel
theorem dL_law_434 : decode code 434 = .ok (.iload_n 3, 1) := by decide +kernel
theorem dL_law_435 : decode code 435 = .ok (.iconst 2, 1) := by decide +kernel
theorem dL_law_436 : decode code 436 = .ok (.iadd, 1) := by decide +kernel
theorem dL_law_437 : decode code 437 = .ok (.iaload, 1) := by decide +kernel
theorem dL_law_438 : decode code 438 = .ok (.invokevirtual 54, 3) := by decide +kernel
theorem dL_law_441 : decode code 441 = .ok (.aload_n 2, 1) := by decide +kernel
theorem dL_law_442 : decode code 442 = .ok (.aload_n 0, 1) := by decide +kernel
theorem dL_law_443 : decode code 443 = .ok (.iload_n 3, 1) := by decide +kernel
theorem dL_law_444 : decode code 444 = .ok (.iconst 1, 1) := by decide +kernel
theorem dL_law_445 : decode code 445 = .ok (.iadd, 1) := by decide +kernel
theorem dL_law_446 : decode code 446 = .ok (.iaload, 1) := by decide +kernel
theorem dL_law_447 : decode code 447 = .ok (.aload_n 0, 1) := by decide +kernel
theorem dL_law_448 : decode code 448 = .ok (.iload_n 3, 1) := by decide +kernel
theorem dL_law_449 : decode code 449 = .ok (.iconst 2, 1) := by decide +kernel
theorem dL_law_450 : decode code 450 = .ok (.iadd, 1) := by decide +kernel
theorem dL_law_451 : decode code 451 = .ok (.iaload, 1) := by decide +kernel
theorem dL_law_452 : decode code 452 = .ok (.invokevirtual 57, 3) := by decide +kernel
theorem dL_law_455 : decode code 455 = .ok (.if_icmp .eq 357, 3) := by decide +kernel
theorem dL_law_458 : decode code 458 = .ok (.iconst 0, 1) := by decide +kernel
theorem dL_law_459 : decode code 459 = .ok (.ireturn, 1) := by decide +kernel
theorem dL_law_460 : decode code 460 = .ok (.aload_n 1, 1) := by decide +kernel
theorem dL_law_461 : decode code 461 = .ok (.aload_n 0, 1) := by decide +kernel
theorem dL_law_462 : decode code 462 = .ok (.iload_n 3, 1) := by decide +kernel
theorem dL_law_463 : decode code 463 = .ok (.iconst 1, 1) := by decide +kernel
theorem dL_law_464 : decode code 464 = .ok (.iadd, 1) := by decide +kernel
theorem dL_law_465 : decode code 465 = .ok (.iaload, 1) := by decide +kernel
theorem dL_law_466 : decode code 466 = .ok (.aload_n 0, 1) := by decide +kernel
theorem dL_law_467 : decode code 467 = .ok (.iload_n 3, 1) := by decide +kernel
theorem dL_law_468 : decode code 468 = .ok (.iconst 2, 1) := by decide +kernel
theorem dL_law_469 : decode code 469 = .ok (.iadd, 1) := by decide +kernel
theorem dL_law_470 : decode code 470 = .ok (.iaload, 1) := by decide +kernel
theorem dL_law_471 : decode code 471 = .ok (.invokevirtual 58, 3) := by decide +kernel
theorem dL_law_474 : decode code 474 = .ok (.aload_n 2, 1) := by decide +kernel
theorem dL_law_475 : decode code 475 = .ok (.aload_n 0, 1) := by decide +kernel
theorem dL_law_476 : decode code 476 = .ok (.iload_n 3, 1) := by decide +kernel
theorem dL_law_477 : decode code 477 = .ok (.iconst 1, 1) := by decide +kernel
theorem dL_law_478 : decode code 478 = .ok (.iadd, 1) := by decide +kernel
theorem dL_law_479 : decode code 479 = .ok (.iaload, 1) := by decide +kernel
theorem dL_law_480 : decode code 480 = .ok (.aload_n 0, 1) := by decide +kernel
theorem dL_law_481 : decode code 481 = .ok (.iload_n 3, 1) := by decide +kernel
theorem dL_law_482 : decode code 482 = .ok (.iconst 2, 1) := by decide +kernel
theorem dL_law_483 : decode code 483 = .ok (.iadd, 1) := by decide +kernel
theorem dL_law_484 : decode code 484 = .ok (.iaload, 1) := by decide +kernel
theorem dL_law_485 : decode code 485 = .ok (.invokevirtual 61, 3) := by decide +kernel
theorem dL_law_488 : decode code 488 = .ok (.if_icmp .eq 324, 3) := by decide +kernel
theorem dL_law_491 : decode code 491 = .ok (.iconst 0, 1) := by decide +kernel
theorem dL_law_492 : decode code 492 = .ok (.ireturn, 1) := by decide +kernel
theorem dL_law_493 : decode code 493 = .ok (.aload_n 1, 1) := by decide +kernel
theorem dL_law_494 : decode code 494 = .ok (.aload_n 0, 1) := by decide +kernel
theorem dL_law_495 : decode code 495 = .ok (.iload_n 3, 1) := by decide +kernel
theorem dL_law_496 : decode code 496 = .ok (.iconst 1, 1) := by decide +kernel
theorem dL_law_497 : decode code 497 = .ok (.iadd, 1) := by decide +kernel
theorem dL_law_498 : decode code 498 = .ok (.iaload, 1) := by decide +kernel
theorem dL_law_499 : decode code 499 = .ok (.aload_n 0, 1) := by decide +kernel
theorem dL_law_500 : decode code 500 = .ok (.iload_n 3, 1) := by decide +kernel
theorem dL_law_501 : decode code 501 = .ok (.iconst 2, 1) := by decide +kernel
theorem dL_law_502 : decode code 502 = .ok (.iadd, 1) := by decide +kernel
theorem dL_law_503 : decode code 503 = .ok (.iaload, 1) := by decide +kernel
theorem dL_law_504 : decode code 504 = .ok (.invokevirtual 62, 3) := by decide +kernel
theorem dL_law_507 : decode code 507 = .ok (.aload_n 2, 1) := by decide +kernel
theorem dL_law_508 : decode code 508 = .ok (.aload_n 0, 1) := by decide +kernel
theorem dL_law_509 : decode code 509 = .ok (.iload_n 3, 1) := by decide +kernel
theorem dL_law_510 : decode code 510 = .ok (.iconst 1, 1) := by decide +kernel
theorem dL_law_511 : decode code 511 = .ok (.iadd, 1) := by decide +kernel
theorem dL_law_512 : decode code 512 = .ok (.iaload, 1) := by decide +kernel
theorem dL_law_513 : decode code 513 = .ok (.aload_n 0, 1) := by decide +kernel
theorem dL_law_514 : decode code 514 = .ok (.iload_n 3, 1) := by decide +kernel
theorem dL_law_515 : decode code 515 = .ok (.iconst 2, 1) := by decide +kernel
theorem dL_law_516 : decode code 516 = .ok (.iadd, 1) := by decide +kernel
theorem dL_law_517 : decode code 517 = .ok (.iaload, 1) := by decide +kernel
theorem dL_law_518 : decode code 518 = .ok (.invokevirtual 65, 3) := by decide +kernel
theorem dL_law_521 : decode code 521 = .ok (.if_icmp .eq 291, 3) := by decide +kernel
theorem dL_law_524 : decode code 524 = .ok (.iconst 0, 1) := by decide +kernel
theorem dL_law_525 : decode code 525 = .ok (.ireturn, 1) := by decide +kernel
theorem dL_law_526 : decode code 526 = .ok (.aload_n 1, 1) := by decide +kernel
theorem dL_law_527 : decode code 527 = .ok (.aload_n 0, 1) := by decide +kernel
theorem dL_law_528 : decode code 528 = .ok (.iload_n 3, 1) := by decide +kernel
theorem dL_law_529 : decode code 529 = .ok (.iconst 1, 1) := by decide +kernel
theorem dL_law_530 : decode code 530 = .ok (.iadd, 1) := by decide +kernel
theorem dL_law_531 : decode code 531 = .ok (.iaload, 1) := by decide +kernel
theorem dL_law_532 : decode code 532 = .ok (.aload_n 0, 1) := by decide +kernel
theorem dL_law_533 : decode code 533 = .ok (.iload_n 3, 1) := by decide +kernel
theorem dL_law_534 : decode code 534 = .ok (.iconst 2, 1) := by decide +kernel
theorem dL_law_535 : decode code 535 = .ok (.iadd, 1) := by decide +kernel
theorem dL_law_536 : decode code 536 = .ok (.iaload, 1) := by decide +kernel
theorem dL_law_537 : decode code 537 = .ok (.invokevirtual 66, 3) := by decide +kernel
theorem dL_law_540 : decode code 540 = .ok (.aload_n 2, 1) := by decide +kernel
theorem dL_law_541 : decode code 541 = .ok (.aload_n 0, 1) := by decide +kernel
theorem dL_law_542 : decode code 542 = .ok (.iload_n 3, 1) := by decide +kernel
theorem dL_law_543 : decode code 543 = .ok (.iconst 1, 1) := by decide +kernel
theorem dL_law_544 : decode code 544 = .ok (.iadd, 1) := by decide +kernel
theorem dL_law_545 : decode code 545 = .ok (.iaload, 1) := by decide +kernel
theorem dL_law_546 : decode code 546 = .ok (.aload_n 0, 1) := by decide +kernel
theorem dL_law_547 : decode code 547 = .ok (.iload_n 3, 1) := by decide +kernel
theorem dL_law_548 : decode code 548 = .ok (.iconst 2, 1) := by decide +kernel
theorem dL_law_549 : decode code 549 = .ok (.iadd, 1) := by decide +kernel
theorem dL_law_550 : decode code 550 = .ok (.iaload, 1) := by decide +kernel
theorem dL_law_551 : decode code 551 = .ok (.invokevirtual 69, 3) := by decide +kernel
theorem dL_law_554 : decode code 554 = .ok (.if_icmp .eq 258, 3) := by decide +kernel
theorem dL_law_557 : decode code 557 = .ok (.iconst 0, 1) := by decide +kernel
theorem dL_law_558 : decode code 558 = .ok (.ireturn, 1) := by decide +kernel
theorem dL_law_559 : decode code 559 = .ok (.aload_n 1, 1) := by decide +kernel
theorem dL_law_560 : decode code 560 = .ok (.aload_n 0, 1) := by decide +kernel
theorem dL_law_561 : decode code 561 = .ok (.iload_n 3, 1) := by decide +kernel
theorem dL_law_562 : decode code 562 = .ok (.iconst 1, 1) := by decide +kernel
theorem dL_law_563 : decode code 563 = .ok (.iadd, 1) := by decide +kernel
theorem dL_law_564 : decode code 564 = .ok (.iaload, 1) := by decide +kernel
theorem dL_law_565 : decode code 565 = .ok (.aload_n 0, 1) := by decide +kernel
theorem dL_law_566 : decode code 566 = .ok (.iload_n 3, 1) := by decide +kernel
theorem dL_law_567 : decode code 567 = .ok (.iconst 2, 1) := by decide +kernel
theorem dL_law_568 : decode code 568 = .ok (.iadd, 1) := by decide +kernel
theorem dL_law_569 : decode code 569 = .ok (.iaload, 1) := by decide +kernel
theorem dL_law_570 : decode code 570 = .ok (.aload_n 0, 1) := by decide +kernel
theorem dL_law_571 : decode code 571 = .ok (.iload_n 3, 1) := by decide +kernel
theorem dL_law_572 : decode code 572 = .ok (.iconst 3, 1) := by decide +kernel
theorem dL_law_573 : decode code 573 = .ok (.iadd, 1) := by decide +kernel
theorem dL_law_574 : decode code 574 = .ok (.iaload, 1) := by decide +kernel
theorem dL_law_575 : decode code 575 = .ok (.invokevirtual 70, 3) := by decide +kernel
theorem dL_law_578 : decode code 578 = .ok (.aload_n 2, 1) := by decide +kernel
theorem dL_law_579 : decode code 579 = .ok (.aload_n 0, 1) := by decide +kernel
theorem dL_law_580 : decode code 580 = .ok (.iload_n 3, 1) := by decide +kernel
theorem dL_law_581 : decode code 581 = .ok (.iconst 1, 1) := by decide +kernel
theorem dL_law_582 : decode code 582 = .ok (.iadd, 1) := by decide +kernel
theorem dL_law_583 : decode code 583 = .ok (.iaload, 1) := by decide +kernel
theorem dL_law_584 : decode code 584 = .ok (.aload_n 0, 1) := by decide +kernel
theorem dL_law_585 : decode code 585 = .ok (.iload_n 3, 1) := by decide +kernel
theorem dL_law_586 : decode code 586 = .ok (.iconst 2, 1) := by decide +kernel
theorem dL_law_587 : decode code 587 = .ok (.iadd, 1) := by decide +kernel
theorem dL_law_588 : decode code 588 = .ok (.iaload, 1) := by decide +kernel
theorem dL_law_589 : decode code 589 = .ok (.aload_n 0, 1) := by decide +kernel
theorem dL_law_590 : decode code 590 = .ok (.iload_n 3, 1) := by decide +kernel
theorem dL_law_591 : decode code 591 = .ok (.iconst 3, 1) := by decide +kernel
theorem dL_law_592 : decode code 592 = .ok (.iadd, 1) := by decide +kernel
theorem dL_law_593 : decode code 593 = .ok (.iaload, 1) := by decide +kernel
theorem dL_law_594 : decode code 594 = .ok (.invokevirtual 73, 3) := by decide +kernel
theorem dL_law_597 : decode code 597 = .ok (.if_icmp .eq 215, 3) := by decide +kernel
theorem dL_law_600 : decode code 600 = .ok (.iconst 0, 1) := by decide +kernel
theorem dL_law_601 : decode code 601 = .ok (.ireturn, 1) := by decide +kernel
theorem dL_law_602 : decode code 602 = .ok (.aload_n 1, 1) := by decide +kernel
theorem dL_law_603 : decode code 603 = .ok (.aload_n 0, 1) := by decide +kernel
theorem dL_law_604 : decode code 604 = .ok (.iload_n 3, 1) := by decide +kernel
theorem dL_law_605 : decode code 605 = .ok (.iconst 1, 1) := by decide +kernel
theorem dL_law_606 : decode code 606 = .ok (.iadd, 1) := by decide +kernel
theorem dL_law_607 : decode code 607 = .ok (.iaload, 1) := by decide +kernel
theorem dL_law_608 : decode code 608 = .ok (.invokevirtual 74, 3) := by decide +kernel
theorem dL_law_611 : decode code 611 = .ok (.aload_n 2, 1) := by decide +kernel
theorem dL_law_612 : decode code 612 = .ok (.aload_n 0, 1) := by decide +kernel
theorem dL_law_613 : decode code 613 = .ok (.iload_n 3, 1) := by decide +kernel
theorem dL_law_614 : decode code 614 = .ok (.iconst 1, 1) := by decide +kernel
theorem dL_law_615 : decode code 615 = .ok (.iadd, 1) := by decide +kernel
theorem dL_law_616 : decode code 616 = .ok (.iaload, 1) := by decide +kernel
theorem dL_law_617 : decode code 617 = .ok (.invokevirtual 77, 3) := by decide +kernel
theorem dL_law_620 : decode code 620 = .ok (.if_icmp .eq 192, 3) := by decide +kernel
theorem dL_law_623 : decode code 623 = .ok (.iconst 0, 1) := by decide +kernel
theorem dL_law_624 : decode code 624 = .ok (.ireturn, 1) := by decide +kernel
theorem dL_law_625 : decode code 625 = .ok (.aload_n 1, 1) := by decide +kernel
theorem dL_law_626 : decode code 626 = .ok (.aload_n 0, 1) := by decide +kernel
theorem dL_law_627 : decode code 627 = .ok (.iload_n 3, 1) := by decide +kernel
theorem dL_law_628 : decode code 628 = .ok (.iconst 1, 1) := by decide +kernel
theorem dL_law_629 : decode code 629 = .ok (.iadd, 1) := by decide +kernel
theorem dL_law_630 : decode code 630 = .ok (.iaload, 1) := by decide +kernel
theorem dL_law_631 : decode code 631 = .ok (.aload_n 0, 1) := by decide +kernel
theorem dL_law_632 : decode code 632 = .ok (.iload_n 3, 1) := by decide +kernel
theorem dL_law_633 : decode code 633 = .ok (.iconst 2, 1) := by decide +kernel
theorem dL_law_634 : decode code 634 = .ok (.iadd, 1) := by decide +kernel
theorem dL_law_635 : decode code 635 = .ok (.iaload, 1) := by decide +kernel
theorem dL_law_636 : decode code 636 = .ok (.invokevirtual 78, 3) := by decide +kernel
theorem dL_law_639 : decode code 639 = .ok (.aload_n 2, 1) := by decide +kernel
theorem dL_law_640 : decode code 640 = .ok (.aload_n 0, 1) := by decide +kernel
theorem dL_law_641 : decode code 641 = .ok (.iload_n 3, 1) := by decide +kernel
theorem dL_law_642 : decode code 642 = .ok (.iconst 1, 1) := by decide +kernel
theorem dL_law_643 : decode code 643 = .ok (.iadd, 1) := by decide +kernel
theorem dL_law_644 : decode code 644 = .ok (.iaload, 1) := by decide +kernel
theorem dL_law_645 : decode code 645 = .ok (.aload_n 0, 1) := by decide +kernel
theorem dL_law_646 : decode code 646 = .ok (.iload_n 3, 1) := by decide +kernel
theorem dL_law_647 : decode code 647 = .ok (.iconst 2, 1) := by decide +kernel
theorem dL_law_648 : decode code 648 = .ok (.iadd, 1) := by decide +kernel
theorem dL_law_649 : decode code 649 = .ok (.iaload, 1) := by decide +kernel
theorem dL_law_650 : decode code 650 = .ok (.invokevirtual 81, 3) := by decide +kernel
theorem dL_law_653 : decode code 653 = .ok (.if_icmp .eq 159, 3) := by decide +kernel
theorem dL_law_656 : decode code 656 = .ok (.iconst 0, 1) := by decide +kernel
theorem dL_law_657 : decode code 657 = .ok (.ireturn, 1) := by decide +kernel
theorem dL_law_658 : decode code 658 = .ok (.aload_n 1, 1) := by decide +kernel
theorem dL_law_659 : decode code 659 = .ok (.invokevirtual 82, 3) := by decide +kernel
theorem dL_law_662 : decode code 662 = .ok (.aload_n 2, 1) := by decide +kernel
theorem dL_law_663 : decode code 663 = .ok (.invokevirtual 85, 3) := by decide +kernel
theorem dL_law_666 : decode code 666 = .ok (.if_icmp .eq 146, 3) := by decide +kernel
theorem dL_law_669 : decode code 669 = .ok (.iconst 0, 1) := by decide +kernel
theorem dL_law_670 : decode code 670 = .ok (.ireturn, 1) := by decide +kernel
theorem dL_law_671 : decode code 671 = .ok (.aload_n 1, 1) := by decide +kernel
theorem dL_law_672 : decode code 672 = .ok (.invokevirtual 86, 3) := by decide +kernel
theorem dL_law_675 : decode code 675 = .ok (.aload_n 2, 1) := by decide +kernel
theorem dL_law_676 : decode code 676 = .ok (.invokevirtual 89, 3) := by decide +kernel
theorem dL_law_679 : decode code 679 = .ok (.if_icmp .eq 133, 3) := by decide +kernel
theorem dL_law_682 : decode code 682 = .ok (.iconst 0, 1) := by decide +kernel
theorem dL_law_683 : decode code 683 = .ok (.ireturn, 1) := by decide +kernel
theorem dL_law_684 : decode code 684 = .ok (.aload_n 1, 1) := by decide +kernel
theorem dL_law_685 : decode code 685 = .ok (.invokevirtual 90, 3) := by decide +kernel
theorem dL_law_688 : decode code 688 = .ok (.aload_n 2, 1) := by decide +kernel
theorem dL_law_689 : decode code 689 = .ok (.invokevirtual 93, 3) := by decide +kernel
theorem dL_law_692 : decode code 692 = .ok (.if_icmp .eq 120, 3) := by decide +kernel
theorem dL_law_695 : decode code 695 = .ok (.iconst 0, 1) := by decide +kernel
theorem dL_law_696 : decode code 696 = .ok (.ireturn, 1) := by decide +kernel
theorem dL_law_697 : decode code 697 = .ok (.aload_n 1, 1) := by decide +kernel
theorem dL_law_698 : decode code 698 = .ok (.invokevirtual 94, 3) := by decide +kernel
theorem dL_law_701 : decode code 701 = .ok (.aload_n 2, 1) := by decide +kernel
theorem dL_law_702 : decode code 702 = .ok (.invokevirtual 97, 3) := by decide +kernel
theorem dL_law_705 : decode code 705 = .ok (.if_icmp .eq 107, 3) := by decide +kernel
theorem dL_law_708 : decode code 708 = .ok (.iconst 0, 1) := by decide +kernel
theorem dL_law_709 : decode code 709 = .ok (.ireturn, 1) := by decide +kernel
theorem dL_law_710 : decode code 710 = .ok (.aload_n 1, 1) := by decide +kernel
theorem dL_law_711 : decode code 711 = .ok (.aload_n 0, 1) := by decide +kernel
theorem dL_law_712 : decode code 712 = .ok (.iload_n 3, 1) := by decide +kernel
theorem dL_law_713 : decode code 713 = .ok (.iconst 1, 1) := by decide +kernel
theorem dL_law_714 : decode code 714 = .ok (.iadd, 1) := by decide +kernel
theorem dL_law_715 : decode code 715 = .ok (.iaload, 1) := by decide +kernel
theorem dL_law_716 : decode code 716 = .ok (.invokevirtual 98, 3) := by decide +kernel
theorem dL_law_719 : decode code 719 = .ok (.aload_n 2, 1) := by decide +kernel
theorem dL_law_720 : decode code 720 = .ok (.aload_n 0, 1) := by decide +kernel
theorem dL_law_721 : decode code 721 = .ok (.iload_n 3, 1) := by decide +kernel
theorem dL_law_722 : decode code 722 = .ok (.iconst 1, 1) := by decide +kernel
theorem dL_law_723 : decode code 723 = .ok (.iadd, 1) := by decide +kernel
theorem dL_law_724 : decode code 724 = .ok (.iaload, 1) := by decide +kernel
theorem dL_law_725 : decode code 725 = .ok (.invokevirtual 101, 3) := by decide +kernel
theorem dL_law_728 : decode code 728 = .ok (.if_icmp .eq 84, 3) := by decide +kernel
theorem dL_law_731 : decode code 731 = .ok (.iconst 0, 1) := by decide +kernel
theorem dL_law_732 : decode code 732 = .ok (.ireturn, 1) := by decide +kernel
theorem dL_law_733 : decode code 733 = .ok (.aload_n 1, 1) := by decide +kernel
theorem dL_law_734 : decode code 734 = .ok (.aload_n 0, 1) := by decide +kernel
theorem dL_law_735 : decode code 735 = .ok (.iload_n 3, 1) := by decide +kernel
theorem dL_law_736 : decode code 736 = .ok (.iconst 1, 1) := by decide +kernel
theorem dL_law_737 : decode code 737 = .ok (.iadd, 1) := by decide +kernel
theorem dL_law_738 : decode code 738 = .ok (.iaload, 1) := by decide +kernel
theorem dL_law_739 : decode code 739 = .ok (.invokevirtual 102, 3) := by decide +kernel
theorem dL_law_742 : decode code 742 = .ok (.aload_n 2, 1) := by decide +kernel
theorem dL_law_743 : decode code 743 = .ok (.aload_n 0, 1) := by decide +kernel
theorem dL_law_744 : decode code 744 = .ok (.iload_n 3, 1) := by decide +kernel
theorem dL_law_745 : decode code 745 = .ok (.iconst 1, 1) := by decide +kernel
theorem dL_law_746 : decode code 746 = .ok (.iadd, 1) := by decide +kernel
theorem dL_law_747 : decode code 747 = .ok (.iaload, 1) := by decide +kernel
theorem dL_law_748 : decode code 748 = .ok (.invokevirtual 105, 3) := by decide +kernel
theorem dL_law_751 : decode code 751 = .ok (.if_icmp .eq 61, 3) := by decide +kernel
theorem dL_law_754 : decode code 754 = .ok (.iconst 0, 1) := by decide +kernel
theorem dL_law_755 : decode code 755 = .ok (.ireturn, 1) := by decide +kernel
theorem dL_law_756 : decode code 756 = .ok (.aload_n 1, 1) := by decide +kernel
theorem dL_law_757 : decode code 757 = .ok (.aload_n 0, 1) := by decide +kernel
theorem dL_law_758 : decode code 758 = .ok (.iload_n 3, 1) := by decide +kernel
theorem dL_law_759 : decode code 759 = .ok (.iconst 1, 1) := by decide +kernel
theorem dL_law_760 : decode code 760 = .ok (.iadd, 1) := by decide +kernel
theorem dL_law_761 : decode code 761 = .ok (.iaload, 1) := by decide +kernel
theorem dL_law_762 : decode code 762 = .ok (.aload_n 0, 1) := by decide +kernel
theorem dL_law_763 : decode code 763 = .ok (.iload_n 3, 1) := by decide +kernel
theorem dL_law_764 : decode code 764 = .ok (.iconst 2, 1) := by decide +kernel
theorem dL_law_765 : decode code 765 = .ok (.iadd, 1) := by decide +kernel
theorem dL_law_766 : decode code 766 = .ok (.iaload, 1) := by decide +kernel
theorem dL_law_767 : decode code 767 = .ok (.invokevirtual 106, 3) := by decide +kernel
theorem dL_law_770 : decode code 770 = .ok (.aload_n 2, 1) := by decide +kernel
theorem dL_law_771 : decode code 771 = .ok (.aload_n 0, 1) := by decide +kernel
theorem dL_law_772 : decode code 772 = .ok (.iload_n 3, 1) := by decide +kernel
theorem dL_law_773 : decode code 773 = .ok (.iconst 1, 1) := by decide +kernel
theorem dL_law_774 : decode code 774 = .ok (.iadd, 1) := by decide +kernel
theorem dL_law_775 : decode code 775 = .ok (.iaload, 1) := by decide +kernel
theorem dL_law_776 : decode code 776 = .ok (.aload_n 0, 1) := by decide +kernel
theorem dL_law_777 : decode code 777 = .ok (.iload_n 3, 1) := by decide +kernel
theorem dL_law_778 : decode code 778 = .ok (.iconst 2, 1) := by decide +kernel
theorem dL_law_779 : decode code 779 = .ok (.iadd, 1) := by decide +kernel
theorem dL_law_780 : decode code 780 = .ok (.iaload, 1) := by decide +kernel
theorem dL_law_781 : decode code 781 = .ok (.invokevirtual 109, 3) := by decide +kernel
theorem dL_law_784 : decode code 784 = .ok (.if_icmp .eq 28, 3) := by decide +kernel
theorem dL_law_787 : decode code 787 = .ok (.iconst 0, 1) := by decide +kernel
theorem dL_law_788 : decode code 788 = .ok (.ireturn, 1) := by decide +kernel
theorem dL_law_789 : decode code 789 = .ok (.aload_n 1, 1) := by decide +kernel
theorem dL_law_790 : decode code 790 = .ok (.aload_n 0, 1) := by decide +kernel
theorem dL_law_791 : decode code 791 = .ok (.iload_n 3, 1) := by decide +kernel
theorem dL_law_792 : decode code 792 = .ok (.iconst 1, 1) := by decide +kernel
theorem dL_law_793 : decode code 793 = .ok (.iadd, 1) := by decide +kernel
theorem dL_law_794 : decode code 794 = .ok (.iaload, 1) := by decide +kernel
theorem dL_law_795 : decode code 795 = .ok (.invokevirtual 110, 3) := by decide +kernel
theorem dL_law_798 : decode code 798 = .ok (.aload_n 2, 1) := by decide +kernel
theorem dL_law_799 : decode code 799 = .ok (.aload_n 0, 1) := by decide +kernel
theorem dL_law_800 : decode code 800 = .ok (.iload_n 3, 1) := by decide +kernel
theorem dL_law_801 : decode code 801 = .ok (.iconst 1, 1) := by decide +kernel
theorem dL_law_802 : decode code 802 = .ok (.iadd, 1) := by decide +kernel
theorem dL_law_803 : decode code 803 = .ok (.iaload, 1) := by decide +kernel
theorem dL_law_804 : decode code 804 = .ok (.invokevirtual 113, 3) := by decide +kernel
theorem dL_law_807 : decode code 807 = .ok (.if_icmp .eq 5, 3) := by decide +kernel
theorem dL_law_810 : decode code 810 = .ok (.iconst 0, 1) := by decide +kernel
theorem dL_law_811 : decode code 811 = .ok (.ireturn, 1) := by decide +kernel
theorem dL_law_812 : decode code 812 = .ok (.iinc 3 4, 3) := by decide +kernel
theorem dL_law_815 : decode code 815 = .ok (.goto (-797), 3) := by decide +kernel
theorem dL_law_818 : decode code 818 = .ok (.iconst 1, 1) := by decide +kernel
theorem dL_law_819 : decode code 819 = .ok (.ireturn, 1) := by decide +kernel
end
section
/-! what a run of a method is, as a function: guards, loops -/
def FU : Nat := 4000
def gd {α : Type} (i : Int32) (n : Nat) (k : Option α) : Option α := if i < 0 ∨ n ≤ i.toNatClampNeg then none else k
theorem gd_some {α : Type} {i : Int32} {n : Nat} {k : Option α} {r : α} (h : gd i n k = some r) : vp_in i n ∧ k = some r := by
  unfold gd at h
  split at h
  · cases h
  · rename_i hc; exact ⟨hc, h⟩
theorem gd_in {α : Type} {i : Int32} {n : Nat} {k : Option α} (h : vp_in i n) : gd i n k = k := by
  unfold gd; exact if_neg h
def gz {α : Type} (d : Int32) (k : Option α) : Option α := if d = 0 then none else k
theorem gz_some {α : Type} {d : Int32} {k : Option α} {r : α} (h : gz d k = some r) : ¬ d = 0 ∧ k = some r := by
  unfold gz at h
  split at h
  · cases h
  · rename_i hc; exact ⟨hc, h⟩
theorem gz_ne {α : Type} {d : Int32} {k : Option α} (h : ¬ d = 0) : gz d k = k := if_neg h
def itr {S X : Type} (f : S → Option (S ⊕ X)) : Nat → S → Option X
  | 0, _ => none
  | n + 1, s => (f s).bind (fun o => match o with
    | .inl s' => itr f n s'
    | .inr x => some x)
def nxt {S X : Type} (f : S → Option (S ⊕ X)) (n : Nat) (o : S ⊕ X) (x : X) : Prop := match o with
  | .inl s' => itr f n s' = some x
  | .inr y => y = x
theorem itr_step {S X : Type} {f : S → Option (S ⊕ X)} {n : Nat} {s : S} {x : X} (h : itr f (n + 1) s = some x) : ∃ o, f s = some o ∧ nxt f n o x := by
  simp only [itr] at h
  cases ho : f s with
  | none => rw [ho] at h; cases h
  | some o =>
    rw [ho] at h
    refine ⟨o, rfl, ?_⟩
    cases o with
    | inl s' => exact h
    | inr y => exact Option.some.inj h
theorem itr_0 {S X : Type} {f : S → Option (S ⊕ X)} {s : S} {x : X} {P : Prop} (h : itr f 0 s = some x) : P := by cases h
theorem nxt_l {S X : Type} {f : S → Option (S ⊕ X)} {n : Nat} {o : S ⊕ X} {s' : S} {x : X} (h : some (Sum.inl s') = some o) (h2 : nxt f n o x) : itr f n s' = some x := by
  cases h; exact h2
theorem nxt_r {S X : Type} {f : S → Option (S ⊕ X)} {n : Nat} {o : S ⊕ X} {x y : X} (h : some (Sum.inr y) = some o) (h2 : nxt f n o x) : x = y := by
  cases h; exact h2.symm
theorem bnd {α β : Type} {o : Option α} {k : α → Option β} {y : β} (h : o.bind k = some y) : ∃ a, o = some a ∧ k a = some y := by
  cases o with
  | none => cases h
  | some a => exact ⟨a, rfl, h⟩
section GB
variable {p : Program} {l : Launch} {e : Env} {R : Room} {s : State} {m : MethodId} {args : Array Value} {below : List Frame} {meth : Method} {c : Code} {H : Heap} {locs : List Loc} {cells slots : Nat} {Q : State → Prop} {cc : ByteArray} {pc : Nat} {ls : Array Slot} {rest : List Value}
theorem gb_icmp_eq (hx : p.tables.exec = Jvm.exec) (hb : c.code = cc) {x y : Int32} {off : Int} {tgt : Nat} (hdg : decode cc pc = .ok (.if_icmp .eq off, 3)) (ht : (pc : Int) + off = (tgt : Int)) {α : Type} {a b : Option α} {r : α} (h : (if x = y then a else b) = some r) (kt : a = some r → W p l e R s m args below meth c H locs cells slots Q (F0 m tgt ls rest)) (kf : b = some r → W p l e R s m args below meth c H locs cells slots Q (F0 m (pc + 3) ls rest)) : W p l e R s m args below meth c H locs cells slots Q (F0 m pc ls (.int y :: .int x :: rest)) :=
  lv_icmp_eq hx hb hdg ht (fun q => kt (by rw [if_pos q] at h; exact h)) (fun q => kf (by rw [if_neg q] at h; exact h))
theorem gb_if_eq (hx : p.tables.exec = Jvm.exec) (hb : c.code = cc) {x : Int32} {off : Int} {tgt : Nat} (hdg : decode cc pc = .ok (.ifCond .eq off, 3)) (ht : (pc : Int) + off = (tgt : Int)) {α : Type} {a b : Option α} {r : α} (h : (if x = 0 then a else b) = some r) (kt : a = some r → W p l e R s m args below meth c H locs cells slots Q (F0 m tgt ls rest)) (kf : b = some r → W p l e R s m args below meth c H locs cells slots Q (F0 m (pc + 3) ls rest)) : W p l e R s m args below meth c H locs cells slots Q (F0 m pc ls (.int x :: rest)) :=
  lv_if_eq hx hb hdg ht (fun q => kt (by rw [if_pos q] at h; exact h)) (fun q => kf (by rw [if_neg q] at h; exact h))
theorem gb_icmp_ne (hx : p.tables.exec = Jvm.exec) (hb : c.code = cc) {x y : Int32} {off : Int} {tgt : Nat} (hdg : decode cc pc = .ok (.if_icmp .ne off, 3)) (ht : (pc : Int) + off = (tgt : Int)) {α : Type} {a b : Option α} {r : α} (h : (if x = y then b else a) = some r) (kt : a = some r → W p l e R s m args below meth c H locs cells slots Q (F0 m tgt ls rest)) (kf : b = some r → W p l e R s m args below meth c H locs cells slots Q (F0 m (pc + 3) ls rest)) : W p l e R s m args below meth c H locs cells slots Q (F0 m pc ls (.int y :: .int x :: rest)) :=
  lv_icmp_ne hx hb hdg ht (fun q => kt (by rw [if_neg q] at h; exact h)) (fun q => kf (by rw [if_pos q] at h; exact h))
theorem gb_if_ne (hx : p.tables.exec = Jvm.exec) (hb : c.code = cc) {x : Int32} {off : Int} {tgt : Nat} (hdg : decode cc pc = .ok (.ifCond .ne off, 3)) (ht : (pc : Int) + off = (tgt : Int)) {α : Type} {a b : Option α} {r : α} (h : (if x = 0 then b else a) = some r) (kt : a = some r → W p l e R s m args below meth c H locs cells slots Q (F0 m tgt ls rest)) (kf : b = some r → W p l e R s m args below meth c H locs cells slots Q (F0 m (pc + 3) ls rest)) : W p l e R s m args below meth c H locs cells slots Q (F0 m pc ls (.int x :: rest)) :=
  lv_if_ne hx hb hdg ht (fun q => kt (by rw [if_neg q] at h; exact h)) (fun q => kf (by rw [if_pos q] at h; exact h))
theorem gb_icmp_lt (hx : p.tables.exec = Jvm.exec) (hb : c.code = cc) {x y : Int32} {off : Int} {tgt : Nat} (hdg : decode cc pc = .ok (.if_icmp .lt off, 3)) (ht : (pc : Int) + off = (tgt : Int)) {α : Type} {a b : Option α} {r : α} (h : (if x < y then a else b) = some r) (kt : a = some r → W p l e R s m args below meth c H locs cells slots Q (F0 m tgt ls rest)) (kf : b = some r → W p l e R s m args below meth c H locs cells slots Q (F0 m (pc + 3) ls rest)) : W p l e R s m args below meth c H locs cells slots Q (F0 m pc ls (.int y :: .int x :: rest)) :=
  lv_icmp_lt hx hb hdg ht (fun q => kt (by rw [if_pos q] at h; exact h)) (fun q => kf (by rw [if_neg q] at h; exact h))
theorem gb_if_lt (hx : p.tables.exec = Jvm.exec) (hb : c.code = cc) {x : Int32} {off : Int} {tgt : Nat} (hdg : decode cc pc = .ok (.ifCond .lt off, 3)) (ht : (pc : Int) + off = (tgt : Int)) {α : Type} {a b : Option α} {r : α} (h : (if x < 0 then a else b) = some r) (kt : a = some r → W p l e R s m args below meth c H locs cells slots Q (F0 m tgt ls rest)) (kf : b = some r → W p l e R s m args below meth c H locs cells slots Q (F0 m (pc + 3) ls rest)) : W p l e R s m args below meth c H locs cells slots Q (F0 m pc ls (.int x :: rest)) :=
  lv_if_lt hx hb hdg ht (fun q => kt (by rw [if_pos q] at h; exact h)) (fun q => kf (by rw [if_neg q] at h; exact h))
theorem gb_icmp_ge (hx : p.tables.exec = Jvm.exec) (hb : c.code = cc) {x y : Int32} {off : Int} {tgt : Nat} (hdg : decode cc pc = .ok (.if_icmp .ge off, 3)) (ht : (pc : Int) + off = (tgt : Int)) {α : Type} {a b : Option α} {r : α} (h : (if y ≤ x then a else b) = some r) (kt : a = some r → W p l e R s m args below meth c H locs cells slots Q (F0 m tgt ls rest)) (kf : b = some r → W p l e R s m args below meth c H locs cells slots Q (F0 m (pc + 3) ls rest)) : W p l e R s m args below meth c H locs cells slots Q (F0 m pc ls (.int y :: .int x :: rest)) :=
  lv_icmp_ge hx hb hdg ht (fun q => kt (by rw [if_pos q] at h; exact h)) (fun q => kf (by rw [if_neg q] at h; exact h))
theorem gb_if_ge (hx : p.tables.exec = Jvm.exec) (hb : c.code = cc) {x : Int32} {off : Int} {tgt : Nat} (hdg : decode cc pc = .ok (.ifCond .ge off, 3)) (ht : (pc : Int) + off = (tgt : Int)) {α : Type} {a b : Option α} {r : α} (h : (if 0 ≤ x then a else b) = some r) (kt : a = some r → W p l e R s m args below meth c H locs cells slots Q (F0 m tgt ls rest)) (kf : b = some r → W p l e R s m args below meth c H locs cells slots Q (F0 m (pc + 3) ls rest)) : W p l e R s m args below meth c H locs cells slots Q (F0 m pc ls (.int x :: rest)) :=
  lv_if_ge hx hb hdg ht (fun q => kt (by rw [if_pos q] at h; exact h)) (fun q => kf (by rw [if_neg q] at h; exact h))
theorem gb_icmp_gt (hx : p.tables.exec = Jvm.exec) (hb : c.code = cc) {x y : Int32} {off : Int} {tgt : Nat} (hdg : decode cc pc = .ok (.if_icmp .gt off, 3)) (ht : (pc : Int) + off = (tgt : Int)) {α : Type} {a b : Option α} {r : α} (h : (if y < x then a else b) = some r) (kt : a = some r → W p l e R s m args below meth c H locs cells slots Q (F0 m tgt ls rest)) (kf : b = some r → W p l e R s m args below meth c H locs cells slots Q (F0 m (pc + 3) ls rest)) : W p l e R s m args below meth c H locs cells slots Q (F0 m pc ls (.int y :: .int x :: rest)) :=
  lv_icmp_gt hx hb hdg ht (fun q => kt (by rw [if_pos q] at h; exact h)) (fun q => kf (by rw [if_neg q] at h; exact h))
theorem gb_if_gt (hx : p.tables.exec = Jvm.exec) (hb : c.code = cc) {x : Int32} {off : Int} {tgt : Nat} (hdg : decode cc pc = .ok (.ifCond .gt off, 3)) (ht : (pc : Int) + off = (tgt : Int)) {α : Type} {a b : Option α} {r : α} (h : (if 0 < x then a else b) = some r) (kt : a = some r → W p l e R s m args below meth c H locs cells slots Q (F0 m tgt ls rest)) (kf : b = some r → W p l e R s m args below meth c H locs cells slots Q (F0 m (pc + 3) ls rest)) : W p l e R s m args below meth c H locs cells slots Q (F0 m pc ls (.int x :: rest)) :=
  lv_if_gt hx hb hdg ht (fun q => kt (by rw [if_pos q] at h; exact h)) (fun q => kf (by rw [if_neg q] at h; exact h))
theorem gb_icmp_le (hx : p.tables.exec = Jvm.exec) (hb : c.code = cc) {x y : Int32} {off : Int} {tgt : Nat} (hdg : decode cc pc = .ok (.if_icmp .le off, 3)) (ht : (pc : Int) + off = (tgt : Int)) {α : Type} {a b : Option α} {r : α} (h : (if x ≤ y then a else b) = some r) (kt : a = some r → W p l e R s m args below meth c H locs cells slots Q (F0 m tgt ls rest)) (kf : b = some r → W p l e R s m args below meth c H locs cells slots Q (F0 m (pc + 3) ls rest)) : W p l e R s m args below meth c H locs cells slots Q (F0 m pc ls (.int y :: .int x :: rest)) :=
  lv_icmp_le hx hb hdg ht (fun q => kt (by rw [if_pos q] at h; exact h)) (fun q => kf (by rw [if_neg q] at h; exact h))
theorem gb_if_le (hx : p.tables.exec = Jvm.exec) (hb : c.code = cc) {x : Int32} {off : Int} {tgt : Nat} (hdg : decode cc pc = .ok (.ifCond .le off, 3)) (ht : (pc : Int) + off = (tgt : Int)) {α : Type} {a b : Option α} {r : α} (h : (if x ≤ 0 then a else b) = some r) (kt : a = some r → W p l e R s m args below meth c H locs cells slots Q (F0 m tgt ls rest)) (kf : b = some r → W p l e R s m args below meth c H locs cells slots Q (F0 m (pc + 3) ls rest)) : W p l e R s m args below meth c H locs cells slots Q (F0 m pc ls (.int x :: rest)) :=
  lv_if_le hx hb hdg ht (fun q => kt (by rw [if_pos q] at h; exact h)) (fun q => kf (by rw [if_neg q] at h; exact h))
theorem gb_sw {P : Prop} {α : Type} {x k : Int32} {a b : Option α} {r : α} (h : (if x = k then a else b) = some r) (kt : x = k → a = some r → P) (kf : ¬ x = k → b = some r → P) : P := by
  by_cases q : x = k
  · exact kt q (by rw [if_pos q] at h; exact h)
  · exact kf q (by rw [if_neg q] at h; exact h)
end GB
section GL
variable {p : Program} {l : Launch} {e : Env} {R : Room} {s : State} {m : MethodId} {args : Array Value} {below : List Frame} {meth : Method} {c : Code} {H : Heap} {locs : List Loc} {cells slots : Nat} {Q : State → Prop} {cc : ByteArray} {pc nL : Nat} {ls : Array Slot} {rest : List Value} {own : String}
variable {S : Type} {wf : S → va_W} {A : Nat → Prop} {D : va_G} {tys : List (ClassId × FieldType)}
def gC (p : Program) (m : MethodId) (c : Code) (cc : ByteArray) (nL : Nat) (s : State) (args : Array Value) (own : String) (D : va_G) (tys : List (ClassId × FieldType)) {S : Type} (wf : S → va_W) (A : Nat → Prop) : Prop :=
  CallFix p m c cc nL s args bigW own ∧ va_K D vwCl tys s ∧ Nst s ∧ ∀ σ, va_D A (wf σ)
def gH (s : State) (D : va_G) {S : Type} (wf : S → va_W) (A : Nat → Prop) (σ : S) (H : Heap) (locs : List Loc) : Prop := va_P D vwCl (wf σ) H ∧ va_S A s.heap H locs
def gPc (D : va_G) (tys : List (ClassId × FieldType)) {S : Type} (wf : S → va_W) (As : List Value) (σ : S) : Array Value → State → Prop := va_Pc As (fun U => va_P D vwCl (wf σ) U.heap ∧ va_K D vwCl tys U ∧ Nst U)
def gQi (D : va_G) {S : Type} (wf : S → va_W) (A : Nat → Prop) (σ0 : S) (r0 : Int32) : Array Value → State → Outcome → State → Prop := va_Qi (fun r σ' => r = r0 ∧ σ' = σ0) (fun σ' t => va_P D vwCl (wf σ') t.heap) A
def gQv (D : va_G) {S : Type} (wf : S → va_W) (A : Nat → Prop) (σ0 : S) : Array Value → State → Outcome → State → Prop := va_Qv (fun σ' => σ' = σ0) (fun σ' t => va_P D vwCl (wf σ') t.heap) A
def gMi (l : Launch) (y : MethodName) (ws : List Cond) (rm : Room) (D : va_G) (tys : List (ClassId × FieldType)) {S : Type} (wf : S → va_W) (A : Nat → Prop) (As : List Value) (σ σ0 : S) (r0 : Int32) : Prop := Met l y ws rm (gPc D tys wf As σ) (gQi D wf A σ0 r0) 0 0 A
def gMv (l : Launch) (y : MethodName) (ws : List Cond) (rm : Room) (D : va_G) (tys : List (ClassId × FieldType)) {S : Type} (wf : S → va_W) (A : Nat → Prop) (As : List Value) (σ σ0 : S) : Prop := Met l y ws rm (gPc D tys wf As σ) (gQv D wf A σ0) 0 0 A
theorem g_blind {As : List Value} {σ : S} : FrameBlind (gPc D tys wf As σ) := by
  intro a U g mk q
  obtain ⟨q0, qP, qK, qN⟩ := q
  exact ⟨q0, qP, va_K.moved (u := U) (U := U.calling g mk a) (Vm.Alike.refl U.vm) qK, Nst.same (u := U) (U := U.calling g mk a) rfl qN⟩
theorem g_pre {As : List Value} {σ : S} (hK : va_K D vwCl tys s) (hN : Nst s) (hP : va_P D vwCl (wf σ) H) : ∀ U : State, U.heap = H → s.WarmedH U.vm → gPc D tys wf As σ As.toArray U :=
  fun U hU hW => ⟨rfl, by rw [hU]; exact hP, va_K.moved hW.alike hK, Nst.warm hW hN⟩
theorem gMi.of {y : MethodName} {maxL : Nat} {ret : Option FieldType} {rm : Room} {As : List Value} {σ σ0 : S} {r0 : Int32} (ho : y.cls = own) (hy : plainName y.cls = true) (hA : (lg_sl As).length ≤ maxL) (hD : ∀ σ, va_D A (wf σ))
    (k : ∀ (p : Program) (e : Env) (s : State) (m : MethodId) (below : List Frame) (meth : Method) (c : Code) (ls : Array Slot), gC p m c cc maxL s As.toArray own D tys wf A → p.tables.exec = Jvm.exec → c.code = cc → meth.sig.returnType = ret → meth.locks = false → gH s D wf A σ s.heap [] → lv_has ls maxL (lv_args 0 As) → W p l e rm s m As.toArray below meth c s.heap [] 0 0 (MQ below (gQi D wf A σ0 r0) As.toArray s 0 0 A) (F0 m 0 ls [])) : gMi l y (wsM y cc maxL ret) rm D tys wf A As σ σ0 r0 := by
  refine Met.ofW (cc := cc) (maxL := maxL) (ret := ret) hy rfl ?_
  intro p e s m args below meth c s₁ B hml hv
  obtain ⟨rfl, hP, hK, hN⟩ := hv
  subst ho
  rw [lg_entry_eq]
  exact k p e s m below meth c _ ⟨⟨B.exec, B.bytes, hml, findClass_of_methodNamed B.named, fun w hw => atoms_spec (ws := wsM y cc maxL ret) B.pre w (List.mem_cons_of_mem _ hw)⟩, hK, hN, hD⟩ B.exec B.bytes B.returns B.notSynchronized ⟨hP, va_S.rf⟩ (lv_entry As (n := maxL) hA)
theorem gMv.of {y : MethodName} {maxL : Nat} {ret : Option FieldType} {rm : Room} {As : List Value} {σ σ0 : S} (ho : y.cls = own) (hy : plainName y.cls = true) (hA : (lg_sl As).length ≤ maxL) (hD : ∀ σ, va_D A (wf σ))
    (k : ∀ (p : Program) (e : Env) (s : State) (m : MethodId) (below : List Frame) (meth : Method) (c : Code) (ls : Array Slot), gC p m c cc maxL s As.toArray own D tys wf A → p.tables.exec = Jvm.exec → c.code = cc → meth.sig.returnType = ret → meth.locks = false → gH s D wf A σ s.heap [] → lv_has ls maxL (lv_args 0 As) → W p l e rm s m As.toArray below meth c s.heap [] 0 0 (MQ below (gQv D wf A σ0) As.toArray s 0 0 A) (F0 m 0 ls [])) : gMv l y (wsM y cc maxL ret) rm D tys wf A As σ σ0 := by
  refine Met.ofW (cc := cc) (maxL := maxL) (ret := ret) hy rfl ?_
  intro p e s m args below meth c s₁ B hml hv
  obtain ⟨rfl, hP, hK, hN⟩ := hv
  subst ho
  rw [lg_entry_eq]
  exact k p e s m below meth c _ ⟨⟨B.exec, B.bytes, hml, findClass_of_methodNamed B.named, fun w hw => atoms_spec (ws := wsM y cc maxL ret) B.pre w (List.mem_cons_of_mem _ hw)⟩, hK, hN, hD⟩ B.exec B.bytes B.returns B.notSynchronized ⟨hP, va_S.rf⟩ (lv_entry As (n := maxL) hA)
theorem g_iret {σ σ0 : S} {v r0 : Int32} (hx : p.tables.exec = Jvm.exec) (hb : c.code = cc) (hr : meth.sig.returnType = some .int) (hlk : meth.locks = false) (hH : gH s D wf A σ H locs) (hv : v = r0 ∧ σ = σ0) (hdg : decode cc pc = .ok (.ireturn, 1)) : W p l e R s m args below meth c H locs 0 0 (MQ below (gQi D wf A σ0 r0) args s 0 0 A) (F0 m pc ls [.int v]) := by
  obtain ⟨rfl, rfl⟩ := hv
  exact W.iret hx hb hr (fun t ht hW => ⟨⟨v, σ, rfl, ⟨rfl, rfl⟩, by show va_P D vwCl (wf σ) t.heap; rw [ht]; exact hH.1⟩, hH.2.F ht⟩) hH.2.2.2 hdg hlk
theorem g_zret {σ σ0 : S} {v r0 : Int32} (hx : p.tables.exec = Jvm.exec) (hb : c.code = cc) (hr : meth.sig.returnType = some .boolean) (hlk : meth.locks = false) (hH : gH s D wf A σ H locs) (hv : v = r0 ∧ σ = σ0) (hn : narrow .boolean (.int v) = .int v) (hdg : decode cc pc = .ok (.ireturn, 1)) : W p l e R s m args below meth c H locs 0 0 (MQ below (gQi D wf A σ0 r0) args s 0 0 A) (F0 m pc ls [.int v]) := by
  obtain ⟨rfl, rfl⟩ := hv
  exact W.zret hx hb hr hn (fun t ht hW => ⟨⟨v, σ, rfl, ⟨rfl, rfl⟩, by show va_P D vwCl (wf σ) t.heap; rw [ht]; exact hH.1⟩, hH.2.F ht⟩) hH.2.2.2 hdg hlk
theorem g_vret {σ σ0 : S} (hx : p.tables.exec = Jvm.exec) (hb : c.code = cc) (hr : meth.sig.returnType = none) (hlk : meth.locks = false) (hH : gH s D wf A σ H locs) (hv : σ = σ0) (hdg : decode cc pc = .ok (.return_, 1)) : W p l e R s m args below meth c H locs 0 0 (MQ below (gQv D wf A σ0) args s 0 0 A) (F0 m pc ls []) := by
  subst hv
  exact W.vret hx hb hr (fun t ht hW => ⟨⟨σ, rfl, rfl, by show va_P D vwCl (wf σ) t.heap; rw [ht]; exact hH.1⟩, hH.2.F ht⟩) hH.2.2.2 hdg hlk
theorem g_get (C : gC p m c cc nL s args own D tys wf A) {σ : S} (hH : gH s D wf A σ H locs) {a ci N index : Nat} {Cn : String} {T : u_T} {fs : List Value} {v : Value} (q0 : Nat) (he : (wf σ)[q0]? = some (a, .inr (ci, fs))) (hc : vwCl[ci]? = some (Cn, T, N)) (hin : ∀ w ∈ u_ws Cn T N, w ∈ bigW) (k : Nat) (hk : k < N) (hlink : Cond.fieldLink own index (T k).1 (T k).2.1 (T k).2.2.1 ∈ bigW) (hv : fs[k]? = some v) (hdg : decode cc pc = .ok (.getfield index, 3)) (kk : W p l e R s m args below meth c H locs cells slots Q (F0 m (pc + 3) ls (v :: rest))) : W p l e R s m args below meth c H locs cells slots Q (F0 m pc ls (.ref a :: rest)) :=
  va_get C.1.1 C.1.2.1 C.1.2.2.2.2 hin C.1.2.2.2.1 C.2.1 hH.1 q0 he hc k hk (C.1.2.2.2.2 _ hlink) (fun _ h => h) hv hdg kk
theorem g_getN (C : gC p m c cc nL s args own D tys wf A) {σ : S} (hH : gH s D wf A σ H locs) {a ci N index : Nat} {Cn host : String} {T : u_T} {fs : List Value} {v : Value} (q0 : Nat) (he : (wf σ)[q0]? = some (a, .inr (ci, fs))) (hc : vwCl[ci]? = some (Cn, T, N)) (hin : ∀ w ∈ u_ws Cn T N, w ∈ bigW) (k : Nat) (hk : k < N) (hlink : Cond.fieldLinkNest own index (T k).1 (T k).2.1 (T k).2.2.1 host ∈ nestW) (hv : fs[k]? = some v) (hdg : decode cc pc = .ok (.getfield index, 3)) (kk : W p l e R s m args below meth c H locs cells slots Q (F0 m (pc + 3) ls (v :: rest))) : W p l e R s m args below meth c H locs cells slots Q (F0 m pc ls (.ref a :: rest)) :=
  va_getN C.1.1 C.1.2.1 C.1.2.2.2.2 hin C.1.2.2.2.1 C.2.1 hH.1 q0 he hc k hk (va_Nw.use rfl (C.2.2.1 _ hlink)) (fun _ h => h) hv hdg kk
theorem g_put (C : gC p m c cc nL s args own D tys wf A) {σ σ' : S} (hH : gH s D wf A σ H locs) {a ci N index : Nat} {Cn : String} {T : u_T} {fs : List Value} {v : Value} {ty : FieldType} (q0 : Nat) (he : (wf σ)[q0]? = some (a, .inr (ci, fs))) (hc : vwCl[ci]? = some (Cn, T, N)) (hin : ∀ w ∈ u_ws Cn T N, w ∈ bigW) (ty0 : Nat → FieldType) (hty : ∀ k, k < N → parseFieldDescriptor (T k).2.2.1 = some (ty0 k)) (hnm : ∀ a, a < N → ∀ b, b < N → a ≠ b → (T a).2.1 ≠ (T b).2.1) (k : Nat) (hk : k < N) (hlink : Cond.fieldLink own index (T k).1 (T k).2.1 (T k).2.2.1 ∈ bigW) (hfin : (T k).2.2.2 = false) (hd : parseFieldDescriptor (T k).2.2.1 = some ty) (hn : narrow ty v = v) (hfit : fits ty v = true) (hlen : k < fs.length) (hσ : (wf σ).set q0 (a, .inr (ci, fs.set k v)) = wf σ') (hdg : decode cc pc = .ok (.putfield index, 3)) (kk : ∀ (H1 : Heap) (locs1 : List Loc), gH s D wf A σ' H1 locs1 → W p l e R s m args below meth c H1 locs1 cells slots Q (F0 m (pc + 3) ls rest)) : W p l e R s m args below meth c H locs cells slots Q (F0 m pc ls (v :: .ref a :: rest)) :=
  va_put C.1.1 C.1.2.1 C.1.2.2.2.2 hin ty0 hty hnm C.1.2.2.2.1 C.2.1 hH.1 (C.2.2.2 σ) hH.2 q0 he hc k hk (C.1.2.2.2.2 _ hlink) (fun _ h => h) hfin hd hn hfit hlen hdg (fun H1 locs1 hP _ hS => kk H1 locs1 ⟨hσ ▸ hP, hS⟩)
theorem g_putN (C : gC p m c cc nL s args own D tys wf A) {σ σ' : S} (hH : gH s D wf A σ H locs) {a ci N index : Nat} {Cn host : String} {T : u_T} {fs : List Value} {v : Value} {ty : FieldType} (q0 : Nat) (he : (wf σ)[q0]? = some (a, .inr (ci, fs))) (hc : vwCl[ci]? = some (Cn, T, N)) (hin : ∀ w ∈ u_ws Cn T N, w ∈ bigW) (ty0 : Nat → FieldType) (hty : ∀ k, k < N → parseFieldDescriptor (T k).2.2.1 = some (ty0 k)) (hnm : ∀ a, a < N → ∀ b, b < N → a ≠ b → (T a).2.1 ≠ (T b).2.1) (k : Nat) (hk : k < N) (hlink : Cond.fieldLinkNest own index (T k).1 (T k).2.1 (T k).2.2.1 host ∈ nestW) (hfin : (T k).2.2.2 = false) (hd : parseFieldDescriptor (T k).2.2.1 = some ty) (hn : narrow ty v = v) (hfit : fits ty v = true) (hlen : k < fs.length) (hσ : (wf σ).set q0 (a, .inr (ci, fs.set k v)) = wf σ') (hdg : decode cc pc = .ok (.putfield index, 3)) (kk : ∀ (H1 : Heap) (locs1 : List Loc), gH s D wf A σ' H1 locs1 → W p l e R s m args below meth c H1 locs1 cells slots Q (F0 m (pc + 3) ls rest)) : W p l e R s m args below meth c H locs cells slots Q (F0 m pc ls (v :: .ref a :: rest)) :=
  va_putN C.1.1 C.1.2.1 C.1.2.2.2.2 hin ty0 hty hnm C.1.2.2.2.1 C.2.1 hH.1 (C.2.2.2 σ) hH.2 q0 he hc k hk (va_Nw.use rfl (C.2.2.1 _ hlink)) (fun _ h => h) hfin hd hn hfit hlen hdg (fun H1 locs1 hP _ hS => kk H1 locs1 ⟨hσ ▸ hP, hS⟩)
theorem g_ald (C : gC p m c cc nL s args own D tys wf A) {σ : S} (hH : gH s D wf A σ H locs) {a n : Nat} {cA : ClassId} {f : Nat → Int32} {i : Int32} {α : Type} {k : Option α} {r : α} (q0 t0 : Nat) (ha : (wf σ)[q0]? = some (a, .inl (cA, n, .inl f))) (ht : tys[t0]? = some (cA, .int)) (h : gd i n k = some r) (hdg : decode cc pc = .ok (.iaload, 1)) (kk : k = some r → W p l e R s m args below meth c H locs cells slots Q (F0 m (pc + 1) ls (.int (f i.toNatClampNeg) :: rest))) : W p l e R s m args below meth c H locs cells slots Q (F0 m pc ls (.int i :: .ref a :: rest)) :=
  va_iald C.1.1 C.1.2.1 C.2.1 hH.1 q0 t0 ha ht (gd_some h).1 hdg (kk (gd_some h).2)
theorem g_zld (C : gC p m c cc nL s args own D tys wf A) {σ : S} (hH : gH s D wf A σ H locs) {a n : Nat} {cA : ClassId} {f : Nat → Int32} {i : Int32} {α : Type} {k : Option α} {r : α} (q0 t0 : Nat) (ha : (wf σ)[q0]? = some (a, .inl (cA, n, .inl f))) (ht : tys[t0]? = some (cA, .boolean)) (h : gd i n k = some r) (hdg : decode cc pc = .ok (.baload, 1)) (kk : k = some r → W p l e R s m args below meth c H locs cells slots Q (F0 m (pc + 1) ls (.int (f i.toNatClampNeg) :: rest))) : W p l e R s m args below meth c H locs cells slots Q (F0 m pc ls (.int i :: .ref a :: rest)) :=
  va_zald C.1.1 C.1.2.1 C.2.1 hH.1 q0 t0 ha ht (gd_some h).1 hdg (kk (gd_some h).2)
theorem g_ast (C : gC p m c cc nL s args own D tys wf A) {σ σ' : S} (hH : gH s D wf A σ H locs) {a n : Nat} {cA : ClassId} {f : Nat → Int32} {i x : Int32} {α : Type} {k : Option α} {r : α} (q0 t0 : Nat) (ha : (wf σ)[q0]? = some (a, .inl (cA, n, .inl f))) (ht : tys[t0]? = some (cA, .int)) (hσ : (wf σ).set q0 (a, .inl (cA, n, .inl (upd f i.toNatClampNeg x))) = wf σ') (h : gd i n k = some r) (hdg : decode cc pc = .ok (.iastore, 1)) (kk : k = some r → ∀ (H1 : Heap) (locs1 : List Loc), gH s D wf A σ' H1 locs1 → W p l e R s m args below meth c H1 locs1 cells slots Q (F0 m (pc + 1) ls rest)) : W p l e R s m args below meth c H locs cells slots Q (F0 m pc ls (.int x :: .int i :: .ref a :: rest)) :=
  va_iast C.1.1 C.1.2.1 C.2.1 hH.1 (C.2.2.2 σ) hH.2 q0 t0 ha ht (gd_some h).1 hdg (fun H1 locs1 hP _ hS => kk (gd_some h).2 H1 locs1 ⟨hσ ▸ hP, hS⟩)
theorem g_zst (C : gC p m c cc nL s args own D tys wf A) {σ σ' : S} (hH : gH s D wf A σ H locs) {a n : Nat} {cA : ClassId} {f : Nat → Int32} {i x : Int32} {α : Type} {k : Option α} {r : α} (q0 t0 : Nat) (ha : (wf σ)[q0]? = some (a, .inl (cA, n, .inl f))) (ht : tys[t0]? = some (cA, .boolean)) (hn : vp_nar .boolean x = x) (hσ : (wf σ).set q0 (a, .inl (cA, n, .inl (upd f i.toNatClampNeg x))) = wf σ') (h : gd i n k = some r) (hdg : decode cc pc = .ok (.bastore, 1)) (kk : k = some r → ∀ (H1 : Heap) (locs1 : List Loc), gH s D wf A σ' H1 locs1 → W p l e R s m args below meth c H1 locs1 cells slots Q (F0 m (pc + 1) ls rest)) : W p l e R s m args below meth c H locs cells slots Q (F0 m pc ls (.int x :: .int i :: .ref a :: rest)) :=
  va_zast C.1.1 C.1.2.1 C.2.1 hH.1 (C.2.2.2 σ) hH.2 q0 t0 ha ht (gd_some h).1 hdg (fun H1 locs1 hP _ hS => kk (gd_some h).2 H1 locs1 ⟨hσ ▸ (by rw [hn] at hP; exact hP), hS⟩)
theorem g_div (hx : p.tables.exec = Jvm.exec) (hb : c.code = cc) {x y : Int32} {α : Type} {k : Option α} {r : α} (h : gz y k = some r) (hdg : decode cc pc = .ok (.idiv, 1)) (kk : k = some r → W p l e R s m args below meth c H locs cells slots Q (F0 m (pc + 1) ls (.int (x / y) :: rest))) : W p l e R s m args below meth c H locs cells slots Q (F0 m pc ls (.int y :: .int x :: rest)) :=
  lv_idiv hx hb hdg (gz_some h).1 (kk (gz_some h).2)
theorem g_rem (hx : p.tables.exec = Jvm.exec) (hb : c.code = cc) {x y : Int32} {α : Type} {k : Option α} {r : α} (h : gz y k = some r) (hdg : decode cc pc = .ok (.irem, 1)) (kk : k = some r → W p l e R s m args below meth c H locs cells slots Q (F0 m (pc + 1) ls (.int (x - x / y * y) :: rest))) : W p l e R s m args below meth c H locs cells slots Q (F0 m pc ls (.int y :: .int x :: rest)) :=
  lv_irem hx hb hdg (gz_some h).1 (kk (gz_some h).2)
theorem g_fi {σ0 : S} {r0 : Int32} {a : Array Value} {st0 : List Value} (hrun : va_Run p l e R s m args below meth c H locs cells slots 0 0 (F0 m pc ls st0) rest (gQi D wf A σ0 r0 a) A) (hS : va_S A s.heap H locs) (kk : ∀ (H1 : Heap) (locs1 : List Loc), gH s D wf A σ0 H1 locs1 → W p l e R s m args below meth c H1 locs1 cells slots Q (F0 m (pc + 3) ls (.int r0 :: rest))) : W p l e R s m args below meth c H locs cells slots Q (F0 m pc ls st0) := by
  refine va_calli (S := S) hrun hS (fun q _ h => h) (fun q h => h) (fun r u t H1 locs1 ht hvm hw hB hz hk hS => ?_)
  obtain ⟨rfl, rfl⟩ := hw
  exact kk H1 locs1 ⟨by rw [← ht]; exact hB, hS⟩
theorem g_fv {σ0 : S} {a : Array Value} {st0 : List Value} (hrun : va_Run p l e R s m args below meth c H locs cells slots 0 0 (F0 m pc ls st0) rest (gQv D wf A σ0 a) A) (hS : va_S A s.heap H locs) (kk : ∀ (H1 : Heap) (locs1 : List Loc), gH s D wf A σ0 H1 locs1 → W p l e R s m args below meth c H1 locs1 cells slots Q (F0 m (pc + 3) ls rest)) : W p l e R s m args below meth c H locs cells slots Q (F0 m pc ls st0) := by
  refine va_callv (S := S) hrun hS (fun q _ h => h) (fun q h => h) (fun u t H1 locs1 ht hvm hw hB hz hk hS => ?_)
  subst hw
  exact kk H1 locs1 ⟨by rw [← ht]; exact hB, hS⟩
def okName (y : MethodName) (n : Nat) : Prop := y.cls ≠ "java/lang/invoke/MethodHandle" ∧ y.cls ≠ "java/lang/invoke/VarHandle" ∧ (parseMethodDescriptor y.desc).map (fun d => d.parameters.length) = some n
section GR
variable {y : MethodName} {bytes : ByteArray} {maxL n index : Nat} {ret : Option FieldType} {rm : Room} {Qc : Array Value → State → Outcome → State → Prop} {σ : S} {b q0 ci N : Nat} {Cn host : String} {T : u_T} {fs As st0 : List Value}
theorem g_rV (C : gC p m c cc nL s args own D tys wf A) (hH : gH s D wf A σ H locs) (hM : Met l y (wsM y bytes maxL ret) rm (gPc D tys wf (.ref b :: As) σ) Qc 0 0 A) (hcode : Cond.code y bytes maxL ret ∈ bigW) (hlink : Cond.methodLink own index y ∈ bigW) (hinst : Cond.instanceMethod y ∈ bigW) (hsel : Cond.selects Cn y y ∈ bigW) (hini : Cond.initialized y.cls ∈ bigW) (hd : okName y n) (hrm : rm.cells = 0 ∧ rm.slots = 0) (he : (wf σ)[q0]? = some (b, .inr (ci, fs))) (hc : vwCl[ci]? = some (Cn, T, N)) (hn : As.length = n) (hR : rm.frames + 1 ≤ R.frames ∧ 8 + (maxL + 11) + rm.locals ≤ R.locals) (hcs : cells ≤ R.cells ∧ slots ≤ R.slots) (hl : ls.size = nL) (hst : st0 = As.reverse ++ .ref b :: rest) (hW : (rest.map fun v => v.category).sum ≤ 8) (hdg : decode cc pc = .ok (.invokevirtual index, 3)) : va_Run p l e R s m args below meth c H locs cells slots 0 0 (F0 m pc ls st0) rest (Qc (Value.ref b :: As).toArray) A :=
  va_runV (As := As) (rest := rest) C.1 hM ⟨callB_of n C.1.2.2.2.2 (good_M hcode) rfl hrm.1 hrm.2 (C.1.2.2.2.2 _ hini) (C.1.2.2.2.2 _ hlink) hd hR, C.1.2.2.2.2 _ hinst, C.1.2.2.2.2 _ hsel⟩ ⟨g_blind, va_recv C.2.1 hH.1 hc he, g_pre C.2.1 C.2.2.1 hH.1⟩ rfl hn hl hst (lv_room hW) hdg hcs
theorem g_rVN (C : gC p m c cc nL s args own D tys wf A) (hH : gH s D wf A σ H locs) (hM : Met l y (wsM y bytes maxL ret) rm (gPc D tys wf (.ref b :: As) σ) Qc 0 0 A) (hcode : Cond.code y bytes maxL ret ∈ bigW) (hlink : Cond.methodLinkNest own index y host ∈ nestW) (hinst : Cond.instanceMethod y ∈ bigW) (hsel : Cond.selects Cn y y ∈ bigW) (hini : Cond.initialized y.cls ∈ bigW) (hd : okName y n) (hrm : rm.cells = 0 ∧ rm.slots = 0) (he : (wf σ)[q0]? = some (b, .inr (ci, fs))) (hc : vwCl[ci]? = some (Cn, T, N)) (hn : As.length = n) (hR : rm.frames + 1 ≤ R.frames ∧ 8 + (maxL + 11) + rm.locals ≤ R.locals) (hcs : cells ≤ R.cells ∧ slots ≤ R.slots) (hl : ls.size = nL) (hst : st0 = As.reverse ++ .ref b :: rest) (hW : (rest.map fun v => v.category).sum ≤ 8) (hdg : decode cc pc = .ok (.invokevirtual index, 3)) : va_Run p l e R s m args below meth c H locs cells slots 0 0 (F0 m pc ls st0) rest (Qc (Value.ref b :: As).toArray) A :=
  va_runVN (As := As) (rest := rest) C.1 hM ⟨va_cnB n C.1.2.2.2.2 (good_M hcode) rfl hrm.1 hrm.2 (C.2.2.1 _ hlink) (C.1.2.2.2.2 _ hini) hd hR, C.1.2.2.2.2 _ hinst, C.1.2.2.2.2 _ hsel⟩ ⟨g_blind, va_recv C.2.1 hH.1 hc he, g_pre C.2.1 C.2.2.1 hH.1⟩ rfl hn hl hst (lv_room hW) hdg hcs
theorem g_rS (C : gC p m c cc nL s args own D tys wf A) (hH : gH s D wf A σ H locs) (hM : Met l y (wsM y bytes maxL ret) rm (gPc D tys wf As σ) Qc 0 0 A) (hcode : Cond.code y bytes maxL ret ∈ bigW) (hlink : Cond.methodLink own index y ∈ bigW) (hstat : Cond.static y ∈ bigW) (hini : Cond.initialized y.cls ∈ bigW) (hd : okName y n) (hrm : rm.cells = 0 ∧ rm.slots = 0) (hn : As.length = n) (hR : rm.frames + 1 ≤ R.frames ∧ 8 + (maxL + 11) + rm.locals ≤ R.locals) (hcs : cells ≤ R.cells ∧ slots ≤ R.slots) (hl : ls.size = nL) (hst : st0 = As.reverse ++ rest) (hW : (rest.map fun v => v.category).sum ≤ 8) (hdg : decode cc pc = .ok (.invokestatic index, 3)) : va_Run p l e R s m args below meth c H locs cells slots 0 0 (F0 m pc ls st0) rest (Qc As.toArray) A :=
  va_runS (As := As) (rest := rest) C.1 hM ⟨callB_of n C.1.2.2.2.2 (good_M hcode) rfl hrm.1 hrm.2 (C.1.2.2.2.2 _ hini) (C.1.2.2.2.2 _ hlink) hd hR, C.1.2.2.2.2 _ hstat⟩ ⟨g_blind, g_pre C.2.1 C.2.2.1 hH.1⟩ rfl hn hl hst (lv_room hW) hdg hcs
theorem g_rSN (C : gC p m c cc nL s args own D tys wf A) (hH : gH s D wf A σ H locs) (hM : Met l y (wsM y bytes maxL ret) rm (gPc D tys wf As σ) Qc 0 0 A) (hcode : Cond.code y bytes maxL ret ∈ bigW) (hlink : Cond.methodLinkNest own index y host ∈ nestW) (hstat : Cond.static y ∈ bigW) (hini : Cond.initialized y.cls ∈ bigW) (hd : okName y n) (hrm : rm.cells = 0 ∧ rm.slots = 0) (hn : As.length = n) (hR : rm.frames + 1 ≤ R.frames ∧ 8 + (maxL + 11) + rm.locals ≤ R.locals) (hcs : cells ≤ R.cells ∧ slots ≤ R.slots) (hl : ls.size = nL) (hst : st0 = As.reverse ++ rest) (hW : (rest.map fun v => v.category).sum ≤ 8) (hdg : decode cc pc = .ok (.invokestatic index, 3)) : va_Run p l e R s m args below meth c H locs cells slots 0 0 (F0 m pc ls st0) rest (Qc As.toArray) A :=
  va_runSN (As := As) (rest := rest) C.1 hM ⟨va_cnB n C.1.2.2.2.2 (good_M hcode) rfl hrm.1 hrm.2 (C.2.2.1 _ hlink) (C.1.2.2.2.2 _ hini) hd hR, C.1.2.2.2.2 _ hstat, trivial⟩ ⟨g_blind, g_pre C.2.1 C.2.2.1 hH.1⟩ rfl hn hl hst (lv_room hW) hdg hcs
end GR
end GL
end
section
abbrev GS : Type := Int32 × Int32 × Int32 × Int32 × Int32 × Int32 × Int32 × Int32 × (Nat → Int32) × (Nat → Int32) × (Nat → Int32) × (Nat → Int32) × (Nat → Int32) × (Nat → Int32) × (Nat → Int32) × (Nat → Int32) × (Nat → Int32) × (Nat → Int32)
def gpl (σ : GS) : Int32 := σ.1
def gspl (σ : GS) (v : Int32) : GS := (v, σ.2.1, σ.2.2.1, σ.2.2.2.1, σ.2.2.2.2.1, σ.2.2.2.2.2.1, σ.2.2.2.2.2.2.1, σ.2.2.2.2.2.2.2.1, σ.2.2.2.2.2.2.2.2.1, σ.2.2.2.2.2.2.2.2.2.1, σ.2.2.2.2.2.2.2.2.2.2.1, σ.2.2.2.2.2.2.2.2.2.2.2.1, σ.2.2.2.2.2.2.2.2.2.2.2.2.1, σ.2.2.2.2.2.2.2.2.2.2.2.2.2.1, σ.2.2.2.2.2.2.2.2.2.2.2.2.2.2.1, σ.2.2.2.2.2.2.2.2.2.2.2.2.2.2.2.1, σ.2.2.2.2.2.2.2.2.2.2.2.2.2.2.2.2.1, σ.2.2.2.2.2.2.2.2.2.2.2.2.2.2.2.2.2)
def gbr (σ : GS) : Int32 := σ.2.1
def gsbr (σ : GS) (v : Int32) : GS := (σ.1, v, σ.2.2.1, σ.2.2.2.1, σ.2.2.2.2.1, σ.2.2.2.2.2.1, σ.2.2.2.2.2.2.1, σ.2.2.2.2.2.2.2.1, σ.2.2.2.2.2.2.2.2.1, σ.2.2.2.2.2.2.2.2.2.1, σ.2.2.2.2.2.2.2.2.2.2.1, σ.2.2.2.2.2.2.2.2.2.2.2.1, σ.2.2.2.2.2.2.2.2.2.2.2.2.1, σ.2.2.2.2.2.2.2.2.2.2.2.2.2.1, σ.2.2.2.2.2.2.2.2.2.2.2.2.2.2.1, σ.2.2.2.2.2.2.2.2.2.2.2.2.2.2.2.1, σ.2.2.2.2.2.2.2.2.2.2.2.2.2.2.2.2.1, σ.2.2.2.2.2.2.2.2.2.2.2.2.2.2.2.2.2)
def ghd (σ : GS) : Int32 := σ.2.2.1
def gshd (σ : GS) (v : Int32) : GS := (σ.1, σ.2.1, v, σ.2.2.2.1, σ.2.2.2.2.1, σ.2.2.2.2.2.1, σ.2.2.2.2.2.2.1, σ.2.2.2.2.2.2.2.1, σ.2.2.2.2.2.2.2.2.1, σ.2.2.2.2.2.2.2.2.2.1, σ.2.2.2.2.2.2.2.2.2.2.1, σ.2.2.2.2.2.2.2.2.2.2.2.1, σ.2.2.2.2.2.2.2.2.2.2.2.2.1, σ.2.2.2.2.2.2.2.2.2.2.2.2.2.1, σ.2.2.2.2.2.2.2.2.2.2.2.2.2.2.1, σ.2.2.2.2.2.2.2.2.2.2.2.2.2.2.2.1, σ.2.2.2.2.2.2.2.2.2.2.2.2.2.2.2.2.1, σ.2.2.2.2.2.2.2.2.2.2.2.2.2.2.2.2.2)
def gnw (σ : GS) : Int32 := σ.2.2.2.1
def gsnw (σ : GS) (v : Int32) : GS := (σ.1, σ.2.1, σ.2.2.1, v, σ.2.2.2.2.1, σ.2.2.2.2.2.1, σ.2.2.2.2.2.2.1, σ.2.2.2.2.2.2.2.1, σ.2.2.2.2.2.2.2.2.1, σ.2.2.2.2.2.2.2.2.2.1, σ.2.2.2.2.2.2.2.2.2.2.1, σ.2.2.2.2.2.2.2.2.2.2.2.1, σ.2.2.2.2.2.2.2.2.2.2.2.2.1, σ.2.2.2.2.2.2.2.2.2.2.2.2.2.1, σ.2.2.2.2.2.2.2.2.2.2.2.2.2.2.1, σ.2.2.2.2.2.2.2.2.2.2.2.2.2.2.2.1, σ.2.2.2.2.2.2.2.2.2.2.2.2.2.2.2.2.1, σ.2.2.2.2.2.2.2.2.2.2.2.2.2.2.2.2.2)
def gst (σ : GS) : Int32 := σ.2.2.2.2.1
def gsst (σ : GS) (v : Int32) : GS := (σ.1, σ.2.1, σ.2.2.1, σ.2.2.2.1, v, σ.2.2.2.2.2.1, σ.2.2.2.2.2.2.1, σ.2.2.2.2.2.2.2.1, σ.2.2.2.2.2.2.2.2.1, σ.2.2.2.2.2.2.2.2.2.1, σ.2.2.2.2.2.2.2.2.2.2.1, σ.2.2.2.2.2.2.2.2.2.2.2.1, σ.2.2.2.2.2.2.2.2.2.2.2.2.1, σ.2.2.2.2.2.2.2.2.2.2.2.2.2.1, σ.2.2.2.2.2.2.2.2.2.2.2.2.2.2.1, σ.2.2.2.2.2.2.2.2.2.2.2.2.2.2.2.1, σ.2.2.2.2.2.2.2.2.2.2.2.2.2.2.2.2.1, σ.2.2.2.2.2.2.2.2.2.2.2.2.2.2.2.2.2)
def gru (σ : GS) : Int32 := σ.2.2.2.2.2.1
def gsru (σ : GS) (v : Int32) : GS := (σ.1, σ.2.1, σ.2.2.1, σ.2.2.2.1, σ.2.2.2.2.1, v, σ.2.2.2.2.2.2.1, σ.2.2.2.2.2.2.2.1, σ.2.2.2.2.2.2.2.2.1, σ.2.2.2.2.2.2.2.2.2.1, σ.2.2.2.2.2.2.2.2.2.2.1, σ.2.2.2.2.2.2.2.2.2.2.2.1, σ.2.2.2.2.2.2.2.2.2.2.2.2.1, σ.2.2.2.2.2.2.2.2.2.2.2.2.2.1, σ.2.2.2.2.2.2.2.2.2.2.2.2.2.2.1, σ.2.2.2.2.2.2.2.2.2.2.2.2.2.2.2.1, σ.2.2.2.2.2.2.2.2.2.2.2.2.2.2.2.2.1, σ.2.2.2.2.2.2.2.2.2.2.2.2.2.2.2.2.2)
def gsh (σ : GS) : Int32 := σ.2.2.2.2.2.2.1
def gssh (σ : GS) (v : Int32) : GS := (σ.1, σ.2.1, σ.2.2.1, σ.2.2.2.1, σ.2.2.2.2.1, σ.2.2.2.2.2.1, v, σ.2.2.2.2.2.2.2.1, σ.2.2.2.2.2.2.2.2.1, σ.2.2.2.2.2.2.2.2.2.1, σ.2.2.2.2.2.2.2.2.2.2.1, σ.2.2.2.2.2.2.2.2.2.2.2.1, σ.2.2.2.2.2.2.2.2.2.2.2.2.1, σ.2.2.2.2.2.2.2.2.2.2.2.2.2.1, σ.2.2.2.2.2.2.2.2.2.2.2.2.2.2.1, σ.2.2.2.2.2.2.2.2.2.2.2.2.2.2.2.1, σ.2.2.2.2.2.2.2.2.2.2.2.2.2.2.2.2.1, σ.2.2.2.2.2.2.2.2.2.2.2.2.2.2.2.2.2)
def gsw (σ : GS) : Int32 := σ.2.2.2.2.2.2.2.1
def gssw (σ : GS) (v : Int32) : GS := (σ.1, σ.2.1, σ.2.2.1, σ.2.2.2.1, σ.2.2.2.2.1, σ.2.2.2.2.2.1, σ.2.2.2.2.2.2.1, v, σ.2.2.2.2.2.2.2.2.1, σ.2.2.2.2.2.2.2.2.2.1, σ.2.2.2.2.2.2.2.2.2.2.1, σ.2.2.2.2.2.2.2.2.2.2.2.1, σ.2.2.2.2.2.2.2.2.2.2.2.2.1, σ.2.2.2.2.2.2.2.2.2.2.2.2.2.1, σ.2.2.2.2.2.2.2.2.2.2.2.2.2.2.1, σ.2.2.2.2.2.2.2.2.2.2.2.2.2.2.2.1, σ.2.2.2.2.2.2.2.2.2.2.2.2.2.2.2.2.1, σ.2.2.2.2.2.2.2.2.2.2.2.2.2.2.2.2.2)
def gwe (σ : GS) : Nat → Int32 := σ.2.2.2.2.2.2.2.2.1
def gtwe (σ : GS) (i x : Int32) : GS := (σ.1, σ.2.1, σ.2.2.1, σ.2.2.2.1, σ.2.2.2.2.1, σ.2.2.2.2.2.1, σ.2.2.2.2.2.2.1, σ.2.2.2.2.2.2.2.1, upd (σ.2.2.2.2.2.2.2.2.1) i.toNatClampNeg x, σ.2.2.2.2.2.2.2.2.2.1, σ.2.2.2.2.2.2.2.2.2.2.1, σ.2.2.2.2.2.2.2.2.2.2.2.1, σ.2.2.2.2.2.2.2.2.2.2.2.2.1, σ.2.2.2.2.2.2.2.2.2.2.2.2.2.1, σ.2.2.2.2.2.2.2.2.2.2.2.2.2.2.1, σ.2.2.2.2.2.2.2.2.2.2.2.2.2.2.2.1, σ.2.2.2.2.2.2.2.2.2.2.2.2.2.2.2.2.1, σ.2.2.2.2.2.2.2.2.2.2.2.2.2.2.2.2.2)
def gal (σ : GS) : Nat → Int32 := σ.2.2.2.2.2.2.2.2.2.1
def gtal (σ : GS) (i x : Int32) : GS := (σ.1, σ.2.1, σ.2.2.1, σ.2.2.2.1, σ.2.2.2.2.1, σ.2.2.2.2.2.1, σ.2.2.2.2.2.2.1, σ.2.2.2.2.2.2.2.1, σ.2.2.2.2.2.2.2.2.1, upd (σ.2.2.2.2.2.2.2.2.2.1) i.toNatClampNeg x, σ.2.2.2.2.2.2.2.2.2.2.1, σ.2.2.2.2.2.2.2.2.2.2.2.1, σ.2.2.2.2.2.2.2.2.2.2.2.2.1, σ.2.2.2.2.2.2.2.2.2.2.2.2.2.1, σ.2.2.2.2.2.2.2.2.2.2.2.2.2.2.1, σ.2.2.2.2.2.2.2.2.2.2.2.2.2.2.2.1, σ.2.2.2.2.2.2.2.2.2.2.2.2.2.2.2.2.1, σ.2.2.2.2.2.2.2.2.2.2.2.2.2.2.2.2.2)
def gpa (σ : GS) : Nat → Int32 := σ.2.2.2.2.2.2.2.2.2.2.1
def gtpa (σ : GS) (i x : Int32) : GS := (σ.1, σ.2.1, σ.2.2.1, σ.2.2.2.1, σ.2.2.2.2.1, σ.2.2.2.2.2.1, σ.2.2.2.2.2.2.1, σ.2.2.2.2.2.2.2.1, σ.2.2.2.2.2.2.2.2.1, σ.2.2.2.2.2.2.2.2.2.1, upd (σ.2.2.2.2.2.2.2.2.2.2.1) i.toNatClampNeg x, σ.2.2.2.2.2.2.2.2.2.2.2.1, σ.2.2.2.2.2.2.2.2.2.2.2.2.1, σ.2.2.2.2.2.2.2.2.2.2.2.2.2.1, σ.2.2.2.2.2.2.2.2.2.2.2.2.2.2.1, σ.2.2.2.2.2.2.2.2.2.2.2.2.2.2.2.1, σ.2.2.2.2.2.2.2.2.2.2.2.2.2.2.2.2.1, σ.2.2.2.2.2.2.2.2.2.2.2.2.2.2.2.2.2)
def gwi (σ : GS) : Nat → Int32 := σ.2.2.2.2.2.2.2.2.2.2.2.1
def gtwi (σ : GS) (i x : Int32) : GS := (σ.1, σ.2.1, σ.2.2.1, σ.2.2.2.1, σ.2.2.2.2.1, σ.2.2.2.2.2.1, σ.2.2.2.2.2.2.1, σ.2.2.2.2.2.2.2.1, σ.2.2.2.2.2.2.2.2.1, σ.2.2.2.2.2.2.2.2.2.1, σ.2.2.2.2.2.2.2.2.2.2.1, upd (σ.2.2.2.2.2.2.2.2.2.2.2.1) i.toNatClampNeg x, σ.2.2.2.2.2.2.2.2.2.2.2.2.1, σ.2.2.2.2.2.2.2.2.2.2.2.2.2.1, σ.2.2.2.2.2.2.2.2.2.2.2.2.2.2.1, σ.2.2.2.2.2.2.2.2.2.2.2.2.2.2.2.1, σ.2.2.2.2.2.2.2.2.2.2.2.2.2.2.2.2.1, σ.2.2.2.2.2.2.2.2.2.2.2.2.2.2.2.2.2)
def gus (σ : GS) : Nat → Int32 := σ.2.2.2.2.2.2.2.2.2.2.2.2.1
def gtus (σ : GS) (i x : Int32) : GS := (σ.1, σ.2.1, σ.2.2.1, σ.2.2.2.1, σ.2.2.2.2.1, σ.2.2.2.2.2.1, σ.2.2.2.2.2.2.1, σ.2.2.2.2.2.2.2.1, σ.2.2.2.2.2.2.2.2.1, σ.2.2.2.2.2.2.2.2.2.1, σ.2.2.2.2.2.2.2.2.2.2.1, σ.2.2.2.2.2.2.2.2.2.2.2.1, upd (σ.2.2.2.2.2.2.2.2.2.2.2.2.1) i.toNatClampNeg x, σ.2.2.2.2.2.2.2.2.2.2.2.2.2.1, σ.2.2.2.2.2.2.2.2.2.2.2.2.2.2.1, σ.2.2.2.2.2.2.2.2.2.2.2.2.2.2.2.1, σ.2.2.2.2.2.2.2.2.2.2.2.2.2.2.2.2.1, σ.2.2.2.2.2.2.2.2.2.2.2.2.2.2.2.2.2)
def gwg (σ : GS) : Nat → Int32 := σ.2.2.2.2.2.2.2.2.2.2.2.2.2.1
def gtwg (σ : GS) (i x : Int32) : GS := (σ.1, σ.2.1, σ.2.2.1, σ.2.2.2.1, σ.2.2.2.2.1, σ.2.2.2.2.2.1, σ.2.2.2.2.2.2.1, σ.2.2.2.2.2.2.2.1, σ.2.2.2.2.2.2.2.2.1, σ.2.2.2.2.2.2.2.2.2.1, σ.2.2.2.2.2.2.2.2.2.2.1, σ.2.2.2.2.2.2.2.2.2.2.2.1, σ.2.2.2.2.2.2.2.2.2.2.2.2.1, upd (σ.2.2.2.2.2.2.2.2.2.2.2.2.2.1) i.toNatClampNeg x, σ.2.2.2.2.2.2.2.2.2.2.2.2.2.2.1, σ.2.2.2.2.2.2.2.2.2.2.2.2.2.2.2.1, σ.2.2.2.2.2.2.2.2.2.2.2.2.2.2.2.2.1, σ.2.2.2.2.2.2.2.2.2.2.2.2.2.2.2.2.2)
def gbe (σ : GS) : Nat → Int32 := σ.2.2.2.2.2.2.2.2.2.2.2.2.2.2.1
def gtbe (σ : GS) (i x : Int32) : GS := (σ.1, σ.2.1, σ.2.2.1, σ.2.2.2.1, σ.2.2.2.2.1, σ.2.2.2.2.2.1, σ.2.2.2.2.2.2.1, σ.2.2.2.2.2.2.2.1, σ.2.2.2.2.2.2.2.2.1, σ.2.2.2.2.2.2.2.2.2.1, σ.2.2.2.2.2.2.2.2.2.2.1, σ.2.2.2.2.2.2.2.2.2.2.2.1, σ.2.2.2.2.2.2.2.2.2.2.2.2.1, σ.2.2.2.2.2.2.2.2.2.2.2.2.2.1, upd (σ.2.2.2.2.2.2.2.2.2.2.2.2.2.2.1) i.toNatClampNeg x, σ.2.2.2.2.2.2.2.2.2.2.2.2.2.2.2.1, σ.2.2.2.2.2.2.2.2.2.2.2.2.2.2.2.2.1, σ.2.2.2.2.2.2.2.2.2.2.2.2.2.2.2.2.2)
def gen (σ : GS) : Nat → Int32 := σ.2.2.2.2.2.2.2.2.2.2.2.2.2.2.2.1
def gten (σ : GS) (i x : Int32) : GS := (σ.1, σ.2.1, σ.2.2.1, σ.2.2.2.1, σ.2.2.2.2.1, σ.2.2.2.2.2.1, σ.2.2.2.2.2.2.1, σ.2.2.2.2.2.2.2.1, σ.2.2.2.2.2.2.2.2.1, σ.2.2.2.2.2.2.2.2.2.1, σ.2.2.2.2.2.2.2.2.2.2.1, σ.2.2.2.2.2.2.2.2.2.2.2.1, σ.2.2.2.2.2.2.2.2.2.2.2.2.1, σ.2.2.2.2.2.2.2.2.2.2.2.2.2.1, σ.2.2.2.2.2.2.2.2.2.2.2.2.2.2.1, upd (σ.2.2.2.2.2.2.2.2.2.2.2.2.2.2.2.1) i.toNatClampNeg x, σ.2.2.2.2.2.2.2.2.2.2.2.2.2.2.2.2.1, σ.2.2.2.2.2.2.2.2.2.2.2.2.2.2.2.2.2)
def gta (σ : GS) : Nat → Int32 := σ.2.2.2.2.2.2.2.2.2.2.2.2.2.2.2.2.1
def gtta (σ : GS) (i x : Int32) : GS := (σ.1, σ.2.1, σ.2.2.1, σ.2.2.2.1, σ.2.2.2.2.1, σ.2.2.2.2.2.1, σ.2.2.2.2.2.2.1, σ.2.2.2.2.2.2.2.1, σ.2.2.2.2.2.2.2.2.1, σ.2.2.2.2.2.2.2.2.2.1, σ.2.2.2.2.2.2.2.2.2.2.1, σ.2.2.2.2.2.2.2.2.2.2.2.1, σ.2.2.2.2.2.2.2.2.2.2.2.2.1, σ.2.2.2.2.2.2.2.2.2.2.2.2.2.1, σ.2.2.2.2.2.2.2.2.2.2.2.2.2.2.1, σ.2.2.2.2.2.2.2.2.2.2.2.2.2.2.2.1, upd (σ.2.2.2.2.2.2.2.2.2.2.2.2.2.2.2.2.1) i.toNatClampNeg x, σ.2.2.2.2.2.2.2.2.2.2.2.2.2.2.2.2.2)
def gma (σ : GS) : Nat → Int32 := σ.2.2.2.2.2.2.2.2.2.2.2.2.2.2.2.2.2
def gtma (σ : GS) (i x : Int32) : GS := (σ.1, σ.2.1, σ.2.2.1, σ.2.2.2.1, σ.2.2.2.2.1, σ.2.2.2.2.2.1, σ.2.2.2.2.2.2.1, σ.2.2.2.2.2.2.2.1, σ.2.2.2.2.2.2.2.2.1, σ.2.2.2.2.2.2.2.2.2.1, σ.2.2.2.2.2.2.2.2.2.2.1, σ.2.2.2.2.2.2.2.2.2.2.2.1, σ.2.2.2.2.2.2.2.2.2.2.2.2.1, σ.2.2.2.2.2.2.2.2.2.2.2.2.2.1, σ.2.2.2.2.2.2.2.2.2.2.2.2.2.2.1, σ.2.2.2.2.2.2.2.2.2.2.2.2.2.2.2.1, σ.2.2.2.2.2.2.2.2.2.2.2.2.2.2.2.2.1, upd (σ.2.2.2.2.2.2.2.2.2.2.2.2.2.2.2.2.2) i.toNatClampNeg x)
def gw (cy : Nat → ClassId) (ad : Nat → Nat) (σ : GS) : va_W := [(ad 0, .inr (3, [.ref (ad 1), .ref (ad 5), .ref (ad 9), .ref (ad 13), .int (ghd σ), .int (gnw σ)])), (ad 1, .inr (1, [.ref (ad 2), .ref (ad 3), .ref (ad 4), .int (gpl σ), .int (gbr σ)])), (ad 2, .inl (cy 2, 100, .inl (gwe σ))), (ad 3, .inl (cy 3, 10, .inl (gal σ))), (ad 4, .inl (cy 4, 4, .inl (gpa σ))), (ad 5, .inr (0, [.ref (ad 1), .ref (ad 6), .ref (ad 7), .ref (ad 8)])), (ad 6, .inl (cy 6, 3072, .inl (gwi σ))), (ad 7, .inl (cy 7, 3, .inl (gus σ))), (ad 8, .inl (cy 8, 10, .inl (gwg σ))), (ad 9, .inr (2, [.ref (ad 1), .ref (ad 5), .ref (ad 10), .ref (ad 11), .ref (ad 12), .int (gst σ), .int (gru σ), .int (gsh σ), .int (gsw σ)])), (ad 10, .inl (cy 10, 1024, .inl (gbe σ))), (ad 11, .inl (cy 11, 1024, .inl (gen σ))), (ad 12, .inl (cy 12, 1024, .inl (gta σ))), (ad 13, .inl (cy 13, 1024, .inl (gma σ)))]
def gT (cy : Nat → ClassId) : List (ClassId × FieldType) := [(cy 2, .int), (cy 3, .int), (cy 4, .int), (cy 6, .int), (cy 7, .boolean), (cy 8, .int), (cy 10, .int), (cy 11, .int), (cy 12, .int), (cy 13, .int)]
section WS
variable {p : Program} {l : Launch} {e : Env} {R : Room} {s : State} {m : MethodId} {args : Array Value} {below : List Frame} {meth : Method} {c : Code} {H : Heap} {locs : List Loc} {cells slots : Nat} {Q : State → Prop} {cc : ByteArray} {pc nL : Nat} {ls : Array Slot} {rest : List Value} {own : String}
variable {A : Nat → Prop} {D : va_G} {cy : Nat → ClassId} {ad : Nat → Nat}
theorem gf_X1_9 (C : gC p m c cc nL s args RX1 D (gT cy) (gw cy ad) A) {σ : GS} (hH : gH s D (gw cy ad) A σ H locs) (hdg : decode cc pc = .ok (.getfield 9, 3)) (kk : W p l e R s m args below meth c H locs cells slots Q (F0 m (pc + 3) ls (.ref (ad 2) :: rest))) : W p l e R s m args below meth c H locs cells slots Q (F0 m pc ls (.ref (ad 1) :: rest)) :=
  g_get C hH 1 rfl rfl iwX1 0 (by decide) mw_f_X1_9 rfl hdg kk
theorem gf_X1_15 (C : gC p m c cc nL s args RX1 D (gT cy) (gw cy ad) A) {σ : GS} (hH : gH s D (gw cy ad) A σ H locs) (hdg : decode cc pc = .ok (.getfield 15, 3)) (kk : W p l e R s m args below meth c H locs cells slots Q (F0 m (pc + 3) ls (.ref (ad 3) :: rest))) : W p l e R s m args below meth c H locs cells slots Q (F0 m pc ls (.ref (ad 1) :: rest)) :=
  g_get C hH 1 rfl rfl iwX1 1 (by decide) mw_f_X1_15 rfl hdg kk
theorem gf_X0_67 (C : gC p m c cc nL s args RX0 D (gT cy) (gw cy ad) A) {σ : GS} (hH : gH s D (gw cy ad) A σ H locs) (hdg : decode cc pc = .ok (.getfield 67, 3)) (kk : W p l e R s m args below meth c H locs cells slots Q (F0 m (pc + 3) ls (.ref (ad 3) :: rest))) : W p l e R s m args below meth c H locs cells slots Q (F0 m pc ls (.ref (ad 1) :: rest)) :=
  g_getN C hH 1 rfl rfl iwX1 1 (by decide) mw_f_X0_67 rfl hdg kk
theorem gf_X1_18 (C : gC p m c cc nL s args RX1 D (gT cy) (gw cy ad) A) {σ : GS} (hH : gH s D (gw cy ad) A σ H locs) (hdg : decode cc pc = .ok (.getfield 18, 3)) (kk : W p l e R s m args below meth c H locs cells slots Q (F0 m (pc + 3) ls (.ref (ad 4) :: rest))) : W p l e R s m args below meth c H locs cells slots Q (F0 m pc ls (.ref (ad 1) :: rest)) :=
  g_get C hH 1 rfl rfl iwX1 2 (by decide) mw_f_X1_18 rfl hdg kk
theorem gf_X1_21 (C : gC p m c cc nL s args RX1 D (gT cy) (gw cy ad) A) {σ : GS} (hH : gH s D (gw cy ad) A σ H locs) (hdg : decode cc pc = .ok (.getfield 21, 3)) (kk : W p l e R s m args below meth c H locs cells slots Q (F0 m (pc + 3) ls (.int (gpl σ) :: rest))) : W p l e R s m args below meth c H locs cells slots Q (F0 m pc ls (.ref (ad 1) :: rest)) :=
  g_get C hH 1 rfl rfl iwX1 3 (by decide) mw_f_X1_21 rfl hdg kk
theorem pf_X1_21 (C : gC p m c cc nL s args RX1 D (gT cy) (gw cy ad) A) {σ : GS} (hH : gH s D (gw cy ad) A σ H locs) {x : Int32} (hdg : decode cc pc = .ok (.putfield 21, 3)) (kk : ∀ (H1 : Heap) (locs1 : List Loc), gH s D (gw cy ad) A (gspl σ x) H1 locs1 → W p l e R s m args below meth c H1 locs1 cells slots Q (F0 m (pc + 3) ls rest)) : W p l e R s m args below meth c H locs cells slots Q (F0 m pc ls (.int x :: .ref (ad 1) :: rest)) :=
  g_put (ty := .int) C hH 1 rfl rfl iwX1 tyX1 tyX1_ok nmX1 3 (by decide) mw_f_X1_21 rfl (by decide +kernel) rfl rfl (Nat.le_of_ble_eq_true rfl) rfl hdg kk
theorem gf_X3_45 (C : gC p m c cc nL s args RX3 D (gT cy) (gw cy ad) A) {σ : GS} (hH : gH s D (gw cy ad) A σ H locs) (hdg : decode cc pc = .ok (.getfield 45, 3)) (kk : W p l e R s m args below meth c H locs cells slots Q (F0 m (pc + 3) ls (.int (gpl σ) :: rest))) : W p l e R s m args below meth c H locs cells slots Q (F0 m pc ls (.ref (ad 1) :: rest)) :=
  g_getN C hH 1 rfl rfl iwX1 3 (by decide) mw_f_X3_45 rfl hdg kk
theorem pf_X3_45 (C : gC p m c cc nL s args RX3 D (gT cy) (gw cy ad) A) {σ : GS} (hH : gH s D (gw cy ad) A σ H locs) {x : Int32} (hdg : decode cc pc = .ok (.putfield 45, 3)) (kk : ∀ (H1 : Heap) (locs1 : List Loc), gH s D (gw cy ad) A (gspl σ x) H1 locs1 → W p l e R s m args below meth c H1 locs1 cells slots Q (F0 m (pc + 3) ls rest)) : W p l e R s m args below meth c H locs cells slots Q (F0 m pc ls (.int x :: .ref (ad 1) :: rest)) :=
  g_putN (ty := .int) C hH 1 rfl rfl iwX1 tyX1 tyX1_ok nmX1 3 (by decide) mw_f_X3_45 rfl (by decide +kernel) rfl rfl (Nat.le_of_ble_eq_true rfl) rfl hdg kk
theorem gf_X0_30 (C : gC p m c cc nL s args RX0 D (gT cy) (gw cy ad) A) {σ : GS} (hH : gH s D (gw cy ad) A σ H locs) (hdg : decode cc pc = .ok (.getfield 30, 3)) (kk : W p l e R s m args below meth c H locs cells slots Q (F0 m (pc + 3) ls (.int (gpl σ) :: rest))) : W p l e R s m args below meth c H locs cells slots Q (F0 m pc ls (.ref (ad 1) :: rest)) :=
  g_getN C hH 1 rfl rfl iwX1 3 (by decide) mw_f_X0_30 rfl hdg kk
theorem pf_X0_30 (C : gC p m c cc nL s args RX0 D (gT cy) (gw cy ad) A) {σ : GS} (hH : gH s D (gw cy ad) A σ H locs) {x : Int32} (hdg : decode cc pc = .ok (.putfield 30, 3)) (kk : ∀ (H1 : Heap) (locs1 : List Loc), gH s D (gw cy ad) A (gspl σ x) H1 locs1 → W p l e R s m args below meth c H1 locs1 cells slots Q (F0 m (pc + 3) ls rest)) : W p l e R s m args below meth c H locs cells slots Q (F0 m pc ls (.int x :: .ref (ad 1) :: rest)) :=
  g_putN (ty := .int) C hH 1 rfl rfl iwX1 tyX1 tyX1_ok nmX1 3 (by decide) mw_f_X0_30 rfl (by decide +kernel) rfl rfl (Nat.le_of_ble_eq_true rfl) rfl hdg kk
theorem gf_X1_25 (C : gC p m c cc nL s args RX1 D (gT cy) (gw cy ad) A) {σ : GS} (hH : gH s D (gw cy ad) A σ H locs) (hdg : decode cc pc = .ok (.getfield 25, 3)) (kk : W p l e R s m args below meth c H locs cells slots Q (F0 m (pc + 3) ls (.int (gbr σ) :: rest))) : W p l e R s m args below meth c H locs cells slots Q (F0 m pc ls (.ref (ad 1) :: rest)) :=
  g_get C hH 1 rfl rfl iwX1 4 (by decide) mw_f_X1_25 rfl hdg kk
theorem pf_X1_25 (C : gC p m c cc nL s args RX1 D (gT cy) (gw cy ad) A) {σ : GS} (hH : gH s D (gw cy ad) A σ H locs) {x : Int32} (hdg : decode cc pc = .ok (.putfield 25, 3)) (kk : ∀ (H1 : Heap) (locs1 : List Loc), gH s D (gw cy ad) A (gsbr σ x) H1 locs1 → W p l e R s m args below meth c H1 locs1 cells slots Q (F0 m (pc + 3) ls rest)) : W p l e R s m args below meth c H locs cells slots Q (F0 m pc ls (.int x :: .ref (ad 1) :: rest)) :=
  g_put (ty := .int) C hH 1 rfl rfl iwX1 tyX1 tyX1_ok nmX1 4 (by decide) mw_f_X1_25 rfl (by decide +kernel) rfl rfl (Nat.le_of_ble_eq_true rfl) rfl hdg kk
theorem gf_X3_78 (C : gC p m c cc nL s args RX3 D (gT cy) (gw cy ad) A) {σ : GS} (hH : gH s D (gw cy ad) A σ H locs) (hdg : decode cc pc = .ok (.getfield 78, 3)) (kk : W p l e R s m args below meth c H locs cells slots Q (F0 m (pc + 3) ls (.int (gbr σ) :: rest))) : W p l e R s m args below meth c H locs cells slots Q (F0 m pc ls (.ref (ad 1) :: rest)) :=
  g_getN C hH 1 rfl rfl iwX1 4 (by decide) mw_f_X3_78 rfl hdg kk
theorem pf_X3_78 (C : gC p m c cc nL s args RX3 D (gT cy) (gw cy ad) A) {σ : GS} (hH : gH s D (gw cy ad) A σ H locs) {x : Int32} (hdg : decode cc pc = .ok (.putfield 78, 3)) (kk : ∀ (H1 : Heap) (locs1 : List Loc), gH s D (gw cy ad) A (gsbr σ x) H1 locs1 → W p l e R s m args below meth c H1 locs1 cells slots Q (F0 m (pc + 3) ls rest)) : W p l e R s m args below meth c H locs cells slots Q (F0 m pc ls (.int x :: .ref (ad 1) :: rest)) :=
  g_putN (ty := .int) C hH 1 rfl rfl iwX1 tyX1 tyX1_ok nmX1 4 (by decide) mw_f_X3_78 rfl (by decide +kernel) rfl rfl (Nat.le_of_ble_eq_true rfl) rfl hdg kk
theorem gf_X0_70 (C : gC p m c cc nL s args RX0 D (gT cy) (gw cy ad) A) {σ : GS} (hH : gH s D (gw cy ad) A σ H locs) (hdg : decode cc pc = .ok (.getfield 70, 3)) (kk : W p l e R s m args below meth c H locs cells slots Q (F0 m (pc + 3) ls (.int (gbr σ) :: rest))) : W p l e R s m args below meth c H locs cells slots Q (F0 m pc ls (.ref (ad 1) :: rest)) :=
  g_getN C hH 1 rfl rfl iwX1 4 (by decide) mw_f_X0_70 rfl hdg kk
theorem pf_X0_70 (C : gC p m c cc nL s args RX0 D (gT cy) (gw cy ad) A) {σ : GS} (hH : gH s D (gw cy ad) A σ H locs) {x : Int32} (hdg : decode cc pc = .ok (.putfield 70, 3)) (kk : ∀ (H1 : Heap) (locs1 : List Loc), gH s D (gw cy ad) A (gsbr σ x) H1 locs1 → W p l e R s m args below meth c H1 locs1 cells slots Q (F0 m (pc + 3) ls rest)) : W p l e R s m args below meth c H locs cells slots Q (F0 m pc ls (.int x :: .ref (ad 1) :: rest)) :=
  g_putN (ty := .int) C hH 1 rfl rfl iwX1 tyX1 tyX1_ok nmX1 4 (by decide) mw_f_X0_70 rfl (by decide +kernel) rfl rfl (Nat.le_of_ble_eq_true rfl) rfl hdg kk
theorem gf_X0_9 (C : gC p m c cc nL s args RX0 D (gT cy) (gw cy ad) A) {σ : GS} (hH : gH s D (gw cy ad) A σ H locs) (hdg : decode cc pc = .ok (.getfield 9, 3)) (kk : W p l e R s m args below meth c H locs cells slots Q (F0 m (pc + 3) ls (.ref (ad 1) :: rest))) : W p l e R s m args below meth c H locs cells slots Q (F0 m pc ls (.ref (ad 5) :: rest)) :=
  g_get C hH 5 rfl rfl iwX0 0 (by decide) mw_f_X0_9 rfl hdg kk
theorem gf_X0_15 (C : gC p m c cc nL s args RX0 D (gT cy) (gw cy ad) A) {σ : GS} (hH : gH s D (gw cy ad) A σ H locs) (hdg : decode cc pc = .ok (.getfield 15, 3)) (kk : W p l e R s m args below meth c H locs cells slots Q (F0 m (pc + 3) ls (.ref (ad 6) :: rest))) : W p l e R s m args below meth c H locs cells slots Q (F0 m pc ls (.ref (ad 5) :: rest)) :=
  g_get C hH 5 rfl rfl iwX0 1 (by decide) mw_f_X0_15 rfl hdg kk
theorem gf_X0_19 (C : gC p m c cc nL s args RX0 D (gT cy) (gw cy ad) A) {σ : GS} (hH : gH s D (gw cy ad) A σ H locs) (hdg : decode cc pc = .ok (.getfield 19, 3)) (kk : W p l e R s m args below meth c H locs cells slots Q (F0 m (pc + 3) ls (.ref (ad 7) :: rest))) : W p l e R s m args below meth c H locs cells slots Q (F0 m pc ls (.ref (ad 5) :: rest)) :=
  g_get C hH 5 rfl rfl iwX0 2 (by decide) mw_f_X0_19 rfl hdg kk
theorem gf_X0_23 (C : gC p m c cc nL s args RX0 D (gT cy) (gw cy ad) A) {σ : GS} (hH : gH s D (gw cy ad) A σ H locs) (hdg : decode cc pc = .ok (.getfield 23, 3)) (kk : W p l e R s m args below meth c H locs cells slots Q (F0 m (pc + 3) ls (.ref (ad 8) :: rest))) : W p l e R s m args below meth c H locs cells slots Q (F0 m pc ls (.ref (ad 5) :: rest)) :=
  g_get C hH 5 rfl rfl iwX0 3 (by decide) mw_f_X0_23 rfl hdg kk
theorem gf_X2_9 (C : gC p m c cc nL s args RX2 D (gT cy) (gw cy ad) A) {σ : GS} (hH : gH s D (gw cy ad) A σ H locs) (hdg : decode cc pc = .ok (.getfield 9, 3)) (kk : W p l e R s m args below meth c H locs cells slots Q (F0 m (pc + 3) ls (.ref (ad 1) :: rest))) : W p l e R s m args below meth c H locs cells slots Q (F0 m pc ls (.ref (ad 9) :: rest)) :=
  g_get C hH 9 rfl rfl iwX2 0 (by decide) mw_f_X2_9 rfl hdg kk
theorem gf_X2_15 (C : gC p m c cc nL s args RX2 D (gT cy) (gw cy ad) A) {σ : GS} (hH : gH s D (gw cy ad) A σ H locs) (hdg : decode cc pc = .ok (.getfield 15, 3)) (kk : W p l e R s m args below meth c H locs cells slots Q (F0 m (pc + 3) ls (.ref (ad 5) :: rest))) : W p l e R s m args below meth c H locs cells slots Q (F0 m pc ls (.ref (ad 9) :: rest)) :=
  g_get C hH 9 rfl rfl iwX2 1 (by decide) mw_f_X2_15 rfl hdg kk
theorem gf_X2_19 (C : gC p m c cc nL s args RX2 D (gT cy) (gw cy ad) A) {σ : GS} (hH : gH s D (gw cy ad) A σ H locs) (hdg : decode cc pc = .ok (.getfield 19, 3)) (kk : W p l e R s m args below meth c H locs cells slots Q (F0 m (pc + 3) ls (.ref (ad 10) :: rest))) : W p l e R s m args below meth c H locs cells slots Q (F0 m pc ls (.ref (ad 9) :: rest)) :=
  g_get C hH 9 rfl rfl iwX2 2 (by decide) mw_f_X2_19 rfl hdg kk
theorem gf_X2_23 (C : gC p m c cc nL s args RX2 D (gT cy) (gw cy ad) A) {σ : GS} (hH : gH s D (gw cy ad) A σ H locs) (hdg : decode cc pc = .ok (.getfield 23, 3)) (kk : W p l e R s m args below meth c H locs cells slots Q (F0 m (pc + 3) ls (.ref (ad 11) :: rest))) : W p l e R s m args below meth c H locs cells slots Q (F0 m pc ls (.ref (ad 9) :: rest)) :=
  g_get C hH 9 rfl rfl iwX2 3 (by decide) mw_f_X2_23 rfl hdg kk
theorem gf_X3_107 (C : gC p m c cc nL s args RX3 D (gT cy) (gw cy ad) A) {σ : GS} (hH : gH s D (gw cy ad) A σ H locs) (hdg : decode cc pc = .ok (.getfield 107, 3)) (kk : W p l e R s m args below meth c H locs cells slots Q (F0 m (pc + 3) ls (.ref (ad 11) :: rest))) : W p l e R s m args below meth c H locs cells slots Q (F0 m pc ls (.ref (ad 9) :: rest)) :=
  g_getN C hH 9 rfl rfl iwX2 3 (by decide) mw_f_X3_107 rfl hdg kk
theorem gf_X2_26 (C : gC p m c cc nL s args RX2 D (gT cy) (gw cy ad) A) {σ : GS} (hH : gH s D (gw cy ad) A σ H locs) (hdg : decode cc pc = .ok (.getfield 26, 3)) (kk : W p l e R s m args below meth c H locs cells slots Q (F0 m (pc + 3) ls (.ref (ad 12) :: rest))) : W p l e R s m args below meth c H locs cells slots Q (F0 m pc ls (.ref (ad 9) :: rest)) :=
  g_get C hH 9 rfl rfl iwX2 4 (by decide) mw_f_X2_26 rfl hdg kk
theorem gf_X3_104 (C : gC p m c cc nL s args RX3 D (gT cy) (gw cy ad) A) {σ : GS} (hH : gH s D (gw cy ad) A σ H locs) (hdg : decode cc pc = .ok (.getfield 104, 3)) (kk : W p l e R s m args below meth c H locs cells slots Q (F0 m (pc + 3) ls (.ref (ad 12) :: rest))) : W p l e R s m args below meth c H locs cells slots Q (F0 m pc ls (.ref (ad 9) :: rest)) :=
  g_getN C hH 9 rfl rfl iwX2 4 (by decide) mw_f_X3_104 rfl hdg kk
theorem gf_X2_29 (C : gC p m c cc nL s args RX2 D (gT cy) (gw cy ad) A) {σ : GS} (hH : gH s D (gw cy ad) A σ H locs) (hdg : decode cc pc = .ok (.getfield 29, 3)) (kk : W p l e R s m args below meth c H locs cells slots Q (F0 m (pc + 3) ls (.int (gst σ) :: rest))) : W p l e R s m args below meth c H locs cells slots Q (F0 m pc ls (.ref (ad 9) :: rest)) :=
  g_get C hH 9 rfl rfl iwX2 5 (by decide) mw_f_X2_29 rfl hdg kk
theorem pf_X2_29 (C : gC p m c cc nL s args RX2 D (gT cy) (gw cy ad) A) {σ : GS} (hH : gH s D (gw cy ad) A σ H locs) {x : Int32} (hn : narrow .boolean (.int x) = .int x) (hf : fits .boolean (.int x) = true) (hdg : decode cc pc = .ok (.putfield 29, 3)) (kk : ∀ (H1 : Heap) (locs1 : List Loc), gH s D (gw cy ad) A (gsst σ x) H1 locs1 → W p l e R s m args below meth c H1 locs1 cells slots Q (F0 m (pc + 3) ls rest)) : W p l e R s m args below meth c H locs cells slots Q (F0 m pc ls (.int x :: .ref (ad 9) :: rest)) :=
  g_put (ty := .boolean) C hH 9 rfl rfl iwX2 tyX2 tyX2_ok nmX2 5 (by decide) mw_f_X2_29 rfl (by decide +kernel) hn hf (Nat.le_of_ble_eq_true rfl) rfl hdg kk
theorem gf_X2_33 (C : gC p m c cc nL s args RX2 D (gT cy) (gw cy ad) A) {σ : GS} (hH : gH s D (gw cy ad) A σ H locs) (hdg : decode cc pc = .ok (.getfield 33, 3)) (kk : W p l e R s m args below meth c H locs cells slots Q (F0 m (pc + 3) ls (.int (gru σ) :: rest))) : W p l e R s m args below meth c H locs cells slots Q (F0 m pc ls (.ref (ad 9) :: rest)) :=
  g_get C hH 9 rfl rfl iwX2 6 (by decide) mw_f_X2_33 rfl hdg kk
theorem pf_X2_33 (C : gC p m c cc nL s args RX2 D (gT cy) (gw cy ad) A) {σ : GS} (hH : gH s D (gw cy ad) A σ H locs) {x : Int32} (hdg : decode cc pc = .ok (.putfield 33, 3)) (kk : ∀ (H1 : Heap) (locs1 : List Loc), gH s D (gw cy ad) A (gsru σ x) H1 locs1 → W p l e R s m args below meth c H1 locs1 cells slots Q (F0 m (pc + 3) ls rest)) : W p l e R s m args below meth c H locs cells slots Q (F0 m pc ls (.int x :: .ref (ad 9) :: rest)) :=
  g_put (ty := .int) C hH 9 rfl rfl iwX2 tyX2 tyX2_ok nmX2 6 (by decide) mw_f_X2_33 rfl (by decide +kernel) rfl rfl (Nat.le_of_ble_eq_true rfl) rfl hdg kk
theorem gf_X2_37 (C : gC p m c cc nL s args RX2 D (gT cy) (gw cy ad) A) {σ : GS} (hH : gH s D (gw cy ad) A σ H locs) (hdg : decode cc pc = .ok (.getfield 37, 3)) (kk : W p l e R s m args below meth c H locs cells slots Q (F0 m (pc + 3) ls (.int (gsh σ) :: rest))) : W p l e R s m args below meth c H locs cells slots Q (F0 m pc ls (.ref (ad 9) :: rest)) :=
  g_get C hH 9 rfl rfl iwX2 7 (by decide) mw_f_X2_37 rfl hdg kk
theorem pf_X2_37 (C : gC p m c cc nL s args RX2 D (gT cy) (gw cy ad) A) {σ : GS} (hH : gH s D (gw cy ad) A σ H locs) {x : Int32} (hdg : decode cc pc = .ok (.putfield 37, 3)) (kk : ∀ (H1 : Heap) (locs1 : List Loc), gH s D (gw cy ad) A (gssh σ x) H1 locs1 → W p l e R s m args below meth c H1 locs1 cells slots Q (F0 m (pc + 3) ls rest)) : W p l e R s m args below meth c H locs cells slots Q (F0 m pc ls (.int x :: .ref (ad 9) :: rest)) :=
  g_put (ty := .int) C hH 9 rfl rfl iwX2 tyX2 tyX2_ok nmX2 7 (by decide) mw_f_X2_37 rfl (by decide +kernel) rfl rfl (Nat.le_of_ble_eq_true rfl) rfl hdg kk
theorem gf_X2_40 (C : gC p m c cc nL s args RX2 D (gT cy) (gw cy ad) A) {σ : GS} (hH : gH s D (gw cy ad) A σ H locs) (hdg : decode cc pc = .ok (.getfield 40, 3)) (kk : W p l e R s m args below meth c H locs cells slots Q (F0 m (pc + 3) ls (.int (gsw σ) :: rest))) : W p l e R s m args below meth c H locs cells slots Q (F0 m pc ls (.ref (ad 9) :: rest)) :=
  g_get C hH 9 rfl rfl iwX2 8 (by decide) mw_f_X2_40 rfl hdg kk
theorem pf_X2_40 (C : gC p m c cc nL s args RX2 D (gT cy) (gw cy ad) A) {σ : GS} (hH : gH s D (gw cy ad) A σ H locs) {x : Int32} (hdg : decode cc pc = .ok (.putfield 40, 3)) (kk : ∀ (H1 : Heap) (locs1 : List Loc), gH s D (gw cy ad) A (gssw σ x) H1 locs1 → W p l e R s m args below meth c H1 locs1 cells slots Q (F0 m (pc + 3) ls rest)) : W p l e R s m args below meth c H locs cells slots Q (F0 m pc ls (.int x :: .ref (ad 9) :: rest)) :=
  g_put (ty := .int) C hH 9 rfl rfl iwX2 tyX2 tyX2_ok nmX2 8 (by decide) mw_f_X2_40 rfl (by decide +kernel) rfl rfl (Nat.le_of_ble_eq_true rfl) rfl hdg kk
theorem gf_X3_10 (C : gC p m c cc nL s args RX3 D (gT cy) (gw cy ad) A) {σ : GS} (hH : gH s D (gw cy ad) A σ H locs) (hdg : decode cc pc = .ok (.getfield 10, 3)) (kk : W p l e R s m args below meth c H locs cells slots Q (F0 m (pc + 3) ls (.ref (ad 1) :: rest))) : W p l e R s m args below meth c H locs cells slots Q (F0 m pc ls (.ref (ad 0) :: rest)) :=
  g_get C hH 0 rfl rfl iwX3 0 (by decide) mw_f_X3_10 rfl hdg kk
theorem gf_X3_21 (C : gC p m c cc nL s args RX3 D (gT cy) (gw cy ad) A) {σ : GS} (hH : gH s D (gw cy ad) A σ H locs) (hdg : decode cc pc = .ok (.getfield 21, 3)) (kk : W p l e R s m args below meth c H locs cells slots Q (F0 m (pc + 3) ls (.ref (ad 5) :: rest))) : W p l e R s m args below meth c H locs cells slots Q (F0 m pc ls (.ref (ad 0) :: rest)) :=
  g_get C hH 0 rfl rfl iwX3 1 (by decide) mw_f_X3_21 rfl hdg kk
theorem gf_X3_30 (C : gC p m c cc nL s args RX3 D (gT cy) (gw cy ad) A) {σ : GS} (hH : gH s D (gw cy ad) A σ H locs) (hdg : decode cc pc = .ok (.getfield 30, 3)) (kk : W p l e R s m args below meth c H locs cells slots Q (F0 m (pc + 3) ls (.ref (ad 9) :: rest))) : W p l e R s m args below meth c H locs cells slots Q (F0 m pc ls (.ref (ad 0) :: rest)) :=
  g_get C hH 0 rfl rfl iwX3 2 (by decide) mw_f_X3_30 rfl hdg kk
theorem gf_X3_34 (C : gC p m c cc nL s args RX3 D (gT cy) (gw cy ad) A) {σ : GS} (hH : gH s D (gw cy ad) A σ H locs) (hdg : decode cc pc = .ok (.getfield 34, 3)) (kk : W p l e R s m args below meth c H locs cells slots Q (F0 m (pc + 3) ls (.ref (ad 13) :: rest))) : W p l e R s m args below meth c H locs cells slots Q (F0 m pc ls (.ref (ad 0) :: rest)) :=
  g_get C hH 0 rfl rfl iwX3 3 (by decide) mw_f_X3_34 rfl hdg kk
theorem gf_X3_38 (C : gC p m c cc nL s args RX3 D (gT cy) (gw cy ad) A) {σ : GS} (hH : gH s D (gw cy ad) A σ H locs) (hdg : decode cc pc = .ok (.getfield 38, 3)) (kk : W p l e R s m args below meth c H locs cells slots Q (F0 m (pc + 3) ls (.int (ghd σ) :: rest))) : W p l e R s m args below meth c H locs cells slots Q (F0 m pc ls (.ref (ad 0) :: rest)) :=
  g_get C hH 0 rfl rfl iwX3 4 (by decide) mw_f_X3_38 rfl hdg kk
theorem pf_X3_38 (C : gC p m c cc nL s args RX3 D (gT cy) (gw cy ad) A) {σ : GS} (hH : gH s D (gw cy ad) A σ H locs) {x : Int32} (hdg : decode cc pc = .ok (.putfield 38, 3)) (kk : ∀ (H1 : Heap) (locs1 : List Loc), gH s D (gw cy ad) A (gshd σ x) H1 locs1 → W p l e R s m args below meth c H1 locs1 cells slots Q (F0 m (pc + 3) ls rest)) : W p l e R s m args below meth c H locs cells slots Q (F0 m pc ls (.int x :: .ref (ad 0) :: rest)) :=
  g_put (ty := .int) C hH 0 rfl rfl iwX3 tyX3 tyX3_ok nmX3 4 (by decide) mw_f_X3_38 rfl (by decide +kernel) rfl rfl (Nat.le_of_ble_eq_true rfl) rfl hdg kk
theorem gf_X3_42 (C : gC p m c cc nL s args RX3 D (gT cy) (gw cy ad) A) {σ : GS} (hH : gH s D (gw cy ad) A σ H locs) (hdg : decode cc pc = .ok (.getfield 42, 3)) (kk : W p l e R s m args below meth c H locs cells slots Q (F0 m (pc + 3) ls (.int (gnw σ) :: rest))) : W p l e R s m args below meth c H locs cells slots Q (F0 m pc ls (.ref (ad 0) :: rest)) :=
  g_get C hH 0 rfl rfl iwX3 5 (by decide) mw_f_X3_42 rfl hdg kk
theorem pf_X3_42 (C : gC p m c cc nL s args RX3 D (gT cy) (gw cy ad) A) {σ : GS} (hH : gH s D (gw cy ad) A σ H locs) {x : Int32} (hdg : decode cc pc = .ok (.putfield 42, 3)) (kk : ∀ (H1 : Heap) (locs1 : List Loc), gH s D (gw cy ad) A (gsnw σ x) H1 locs1 → W p l e R s m args below meth c H1 locs1 cells slots Q (F0 m (pc + 3) ls rest)) : W p l e R s m args below meth c H locs cells slots Q (F0 m pc ls (.int x :: .ref (ad 0) :: rest)) :=
  g_put (ty := .int) C hH 0 rfl rfl iwX3 tyX3 tyX3_ok nmX3 5 (by decide) mw_f_X3_42 rfl (by decide +kernel) rfl rfl (Nat.le_of_ble_eq_true rfl) rfl hdg kk
theorem gal_we (C : gC p m c cc nL s args own D (gT cy) (gw cy ad) A) {σ : GS} (hH : gH s D (gw cy ad) A σ H locs) {i : Int32} {α : Type} {k : Option α} {r : α} (h : gd i 100 k = some r) (hdg : decode cc pc = .ok (.iaload, 1)) (kk : k = some r → W p l e R s m args below meth c H locs cells slots Q (F0 m (pc + 1) ls (.int (gwe σ i.toNatClampNeg) :: rest))) : W p l e R s m args below meth c H locs cells slots Q (F0 m pc ls (.int i :: .ref (ad 2) :: rest)) :=
  g_ald C hH 2 0 rfl rfl h hdg kk
theorem gas_we (C : gC p m c cc nL s args own D (gT cy) (gw cy ad) A) {σ : GS} (hH : gH s D (gw cy ad) A σ H locs) {i x : Int32} {α : Type} {k : Option α} {r : α} (h : gd i 100 k = some r) (hdg : decode cc pc = .ok (.iastore, 1)) (kk : k = some r → ∀ (H1 : Heap) (locs1 : List Loc), gH s D (gw cy ad) A (gtwe σ i x) H1 locs1 → W p l e R s m args below meth c H1 locs1 cells slots Q (F0 m (pc + 1) ls rest)) : W p l e R s m args below meth c H locs cells slots Q (F0 m pc ls (.int x :: .int i :: .ref (ad 2) :: rest)) :=
  g_ast C hH 2 0 rfl rfl rfl h hdg kk
theorem gan_we (C : gC p m c cc nL s args own D (gT cy) (gw cy ad) A) {σ : GS} (hH : gH s D (gw cy ad) A σ H locs) (hdg : decode cc pc = .ok (.arraylength, 1)) (kk : W p l e R s m args below meth c H locs cells slots Q (F0 m (pc + 1) ls (.int 100 :: rest))) : W p l e R s m args below meth c H locs cells slots Q (F0 m pc ls (.ref (ad 2) :: rest)) :=
  va_alen C.1.1 C.1.2.1 C.2.1 hH.1 2 0 rfl rfl rfl hdg kk
theorem gal_al (C : gC p m c cc nL s args own D (gT cy) (gw cy ad) A) {σ : GS} (hH : gH s D (gw cy ad) A σ H locs) {i : Int32} {α : Type} {k : Option α} {r : α} (h : gd i 10 k = some r) (hdg : decode cc pc = .ok (.iaload, 1)) (kk : k = some r → W p l e R s m args below meth c H locs cells slots Q (F0 m (pc + 1) ls (.int (gal σ i.toNatClampNeg) :: rest))) : W p l e R s m args below meth c H locs cells slots Q (F0 m pc ls (.int i :: .ref (ad 3) :: rest)) :=
  g_ald C hH 3 1 rfl rfl h hdg kk
theorem gas_al (C : gC p m c cc nL s args own D (gT cy) (gw cy ad) A) {σ : GS} (hH : gH s D (gw cy ad) A σ H locs) {i x : Int32} {α : Type} {k : Option α} {r : α} (h : gd i 10 k = some r) (hdg : decode cc pc = .ok (.iastore, 1)) (kk : k = some r → ∀ (H1 : Heap) (locs1 : List Loc), gH s D (gw cy ad) A (gtal σ i x) H1 locs1 → W p l e R s m args below meth c H1 locs1 cells slots Q (F0 m (pc + 1) ls rest)) : W p l e R s m args below meth c H locs cells slots Q (F0 m pc ls (.int x :: .int i :: .ref (ad 3) :: rest)) :=
  g_ast C hH 3 1 rfl rfl rfl h hdg kk
theorem gan_al (C : gC p m c cc nL s args own D (gT cy) (gw cy ad) A) {σ : GS} (hH : gH s D (gw cy ad) A σ H locs) (hdg : decode cc pc = .ok (.arraylength, 1)) (kk : W p l e R s m args below meth c H locs cells slots Q (F0 m (pc + 1) ls (.int 10 :: rest))) : W p l e R s m args below meth c H locs cells slots Q (F0 m pc ls (.ref (ad 3) :: rest)) :=
  va_alen C.1.1 C.1.2.1 C.2.1 hH.1 3 1 rfl rfl rfl hdg kk
theorem gal_pa (C : gC p m c cc nL s args own D (gT cy) (gw cy ad) A) {σ : GS} (hH : gH s D (gw cy ad) A σ H locs) {i : Int32} {α : Type} {k : Option α} {r : α} (h : gd i 4 k = some r) (hdg : decode cc pc = .ok (.iaload, 1)) (kk : k = some r → W p l e R s m args below meth c H locs cells slots Q (F0 m (pc + 1) ls (.int (gpa σ i.toNatClampNeg) :: rest))) : W p l e R s m args below meth c H locs cells slots Q (F0 m pc ls (.int i :: .ref (ad 4) :: rest)) :=
  g_ald C hH 4 2 rfl rfl h hdg kk
theorem gas_pa (C : gC p m c cc nL s args own D (gT cy) (gw cy ad) A) {σ : GS} (hH : gH s D (gw cy ad) A σ H locs) {i x : Int32} {α : Type} {k : Option α} {r : α} (h : gd i 4 k = some r) (hdg : decode cc pc = .ok (.iastore, 1)) (kk : k = some r → ∀ (H1 : Heap) (locs1 : List Loc), gH s D (gw cy ad) A (gtpa σ i x) H1 locs1 → W p l e R s m args below meth c H1 locs1 cells slots Q (F0 m (pc + 1) ls rest)) : W p l e R s m args below meth c H locs cells slots Q (F0 m pc ls (.int x :: .int i :: .ref (ad 4) :: rest)) :=
  g_ast C hH 4 2 rfl rfl rfl h hdg kk
theorem gan_pa (C : gC p m c cc nL s args own D (gT cy) (gw cy ad) A) {σ : GS} (hH : gH s D (gw cy ad) A σ H locs) (hdg : decode cc pc = .ok (.arraylength, 1)) (kk : W p l e R s m args below meth c H locs cells slots Q (F0 m (pc + 1) ls (.int 4 :: rest))) : W p l e R s m args below meth c H locs cells slots Q (F0 m pc ls (.ref (ad 4) :: rest)) :=
  va_alen C.1.1 C.1.2.1 C.2.1 hH.1 4 2 rfl rfl rfl hdg kk
theorem gal_wi (C : gC p m c cc nL s args own D (gT cy) (gw cy ad) A) {σ : GS} (hH : gH s D (gw cy ad) A σ H locs) {i : Int32} {α : Type} {k : Option α} {r : α} (h : gd i 3072 k = some r) (hdg : decode cc pc = .ok (.iaload, 1)) (kk : k = some r → W p l e R s m args below meth c H locs cells slots Q (F0 m (pc + 1) ls (.int (gwi σ i.toNatClampNeg) :: rest))) : W p l e R s m args below meth c H locs cells slots Q (F0 m pc ls (.int i :: .ref (ad 6) :: rest)) :=
  g_ald C hH 6 3 rfl rfl h hdg kk
theorem gas_wi (C : gC p m c cc nL s args own D (gT cy) (gw cy ad) A) {σ : GS} (hH : gH s D (gw cy ad) A σ H locs) {i x : Int32} {α : Type} {k : Option α} {r : α} (h : gd i 3072 k = some r) (hdg : decode cc pc = .ok (.iastore, 1)) (kk : k = some r → ∀ (H1 : Heap) (locs1 : List Loc), gH s D (gw cy ad) A (gtwi σ i x) H1 locs1 → W p l e R s m args below meth c H1 locs1 cells slots Q (F0 m (pc + 1) ls rest)) : W p l e R s m args below meth c H locs cells slots Q (F0 m pc ls (.int x :: .int i :: .ref (ad 6) :: rest)) :=
  g_ast C hH 6 3 rfl rfl rfl h hdg kk
theorem gan_wi (C : gC p m c cc nL s args own D (gT cy) (gw cy ad) A) {σ : GS} (hH : gH s D (gw cy ad) A σ H locs) (hdg : decode cc pc = .ok (.arraylength, 1)) (kk : W p l e R s m args below meth c H locs cells slots Q (F0 m (pc + 1) ls (.int 3072 :: rest))) : W p l e R s m args below meth c H locs cells slots Q (F0 m pc ls (.ref (ad 6) :: rest)) :=
  va_alen C.1.1 C.1.2.1 C.2.1 hH.1 6 3 rfl rfl rfl hdg kk
theorem gal_us (C : gC p m c cc nL s args own D (gT cy) (gw cy ad) A) {σ : GS} (hH : gH s D (gw cy ad) A σ H locs) {i : Int32} {α : Type} {k : Option α} {r : α} (h : gd i 3 k = some r) (hdg : decode cc pc = .ok (.baload, 1)) (kk : k = some r → W p l e R s m args below meth c H locs cells slots Q (F0 m (pc + 1) ls (.int (gus σ i.toNatClampNeg) :: rest))) : W p l e R s m args below meth c H locs cells slots Q (F0 m pc ls (.int i :: .ref (ad 7) :: rest)) :=
  g_zld C hH 7 4 rfl rfl h hdg kk
theorem gas_us (C : gC p m c cc nL s args own D (gT cy) (gw cy ad) A) {σ : GS} (hH : gH s D (gw cy ad) A σ H locs) {i x : Int32} {α : Type} {k : Option α} {r : α} (hn : vp_nar .boolean x = x) (h : gd i 3 k = some r) (hdg : decode cc pc = .ok (.bastore, 1)) (kk : k = some r → ∀ (H1 : Heap) (locs1 : List Loc), gH s D (gw cy ad) A (gtus σ i x) H1 locs1 → W p l e R s m args below meth c H1 locs1 cells slots Q (F0 m (pc + 1) ls rest)) : W p l e R s m args below meth c H locs cells slots Q (F0 m pc ls (.int x :: .int i :: .ref (ad 7) :: rest)) :=
  g_zst C hH 7 4 rfl rfl hn rfl h hdg kk
theorem gan_us (C : gC p m c cc nL s args own D (gT cy) (gw cy ad) A) {σ : GS} (hH : gH s D (gw cy ad) A σ H locs) (hdg : decode cc pc = .ok (.arraylength, 1)) (kk : W p l e R s m args below meth c H locs cells slots Q (F0 m (pc + 1) ls (.int 3 :: rest))) : W p l e R s m args below meth c H locs cells slots Q (F0 m pc ls (.ref (ad 7) :: rest)) :=
  va_alen C.1.1 C.1.2.1 C.2.1 hH.1 7 4 rfl rfl rfl hdg kk
theorem gal_wg (C : gC p m c cc nL s args own D (gT cy) (gw cy ad) A) {σ : GS} (hH : gH s D (gw cy ad) A σ H locs) {i : Int32} {α : Type} {k : Option α} {r : α} (h : gd i 10 k = some r) (hdg : decode cc pc = .ok (.iaload, 1)) (kk : k = some r → W p l e R s m args below meth c H locs cells slots Q (F0 m (pc + 1) ls (.int (gwg σ i.toNatClampNeg) :: rest))) : W p l e R s m args below meth c H locs cells slots Q (F0 m pc ls (.int i :: .ref (ad 8) :: rest)) :=
  g_ald C hH 8 5 rfl rfl h hdg kk
theorem gas_wg (C : gC p m c cc nL s args own D (gT cy) (gw cy ad) A) {σ : GS} (hH : gH s D (gw cy ad) A σ H locs) {i x : Int32} {α : Type} {k : Option α} {r : α} (h : gd i 10 k = some r) (hdg : decode cc pc = .ok (.iastore, 1)) (kk : k = some r → ∀ (H1 : Heap) (locs1 : List Loc), gH s D (gw cy ad) A (gtwg σ i x) H1 locs1 → W p l e R s m args below meth c H1 locs1 cells slots Q (F0 m (pc + 1) ls rest)) : W p l e R s m args below meth c H locs cells slots Q (F0 m pc ls (.int x :: .int i :: .ref (ad 8) :: rest)) :=
  g_ast C hH 8 5 rfl rfl rfl h hdg kk
theorem gan_wg (C : gC p m c cc nL s args own D (gT cy) (gw cy ad) A) {σ : GS} (hH : gH s D (gw cy ad) A σ H locs) (hdg : decode cc pc = .ok (.arraylength, 1)) (kk : W p l e R s m args below meth c H locs cells slots Q (F0 m (pc + 1) ls (.int 10 :: rest))) : W p l e R s m args below meth c H locs cells slots Q (F0 m pc ls (.ref (ad 8) :: rest)) :=
  va_alen C.1.1 C.1.2.1 C.2.1 hH.1 8 5 rfl rfl rfl hdg kk
theorem gal_be (C : gC p m c cc nL s args own D (gT cy) (gw cy ad) A) {σ : GS} (hH : gH s D (gw cy ad) A σ H locs) {i : Int32} {α : Type} {k : Option α} {r : α} (h : gd i 1024 k = some r) (hdg : decode cc pc = .ok (.iaload, 1)) (kk : k = some r → W p l e R s m args below meth c H locs cells slots Q (F0 m (pc + 1) ls (.int (gbe σ i.toNatClampNeg) :: rest))) : W p l e R s m args below meth c H locs cells slots Q (F0 m pc ls (.int i :: .ref (ad 10) :: rest)) :=
  g_ald C hH 10 6 rfl rfl h hdg kk
theorem gas_be (C : gC p m c cc nL s args own D (gT cy) (gw cy ad) A) {σ : GS} (hH : gH s D (gw cy ad) A σ H locs) {i x : Int32} {α : Type} {k : Option α} {r : α} (h : gd i 1024 k = some r) (hdg : decode cc pc = .ok (.iastore, 1)) (kk : k = some r → ∀ (H1 : Heap) (locs1 : List Loc), gH s D (gw cy ad) A (gtbe σ i x) H1 locs1 → W p l e R s m args below meth c H1 locs1 cells slots Q (F0 m (pc + 1) ls rest)) : W p l e R s m args below meth c H locs cells slots Q (F0 m pc ls (.int x :: .int i :: .ref (ad 10) :: rest)) :=
  g_ast C hH 10 6 rfl rfl rfl h hdg kk
theorem gan_be (C : gC p m c cc nL s args own D (gT cy) (gw cy ad) A) {σ : GS} (hH : gH s D (gw cy ad) A σ H locs) (hdg : decode cc pc = .ok (.arraylength, 1)) (kk : W p l e R s m args below meth c H locs cells slots Q (F0 m (pc + 1) ls (.int 1024 :: rest))) : W p l e R s m args below meth c H locs cells slots Q (F0 m pc ls (.ref (ad 10) :: rest)) :=
  va_alen C.1.1 C.1.2.1 C.2.1 hH.1 10 6 rfl rfl rfl hdg kk
theorem gal_en (C : gC p m c cc nL s args own D (gT cy) (gw cy ad) A) {σ : GS} (hH : gH s D (gw cy ad) A σ H locs) {i : Int32} {α : Type} {k : Option α} {r : α} (h : gd i 1024 k = some r) (hdg : decode cc pc = .ok (.iaload, 1)) (kk : k = some r → W p l e R s m args below meth c H locs cells slots Q (F0 m (pc + 1) ls (.int (gen σ i.toNatClampNeg) :: rest))) : W p l e R s m args below meth c H locs cells slots Q (F0 m pc ls (.int i :: .ref (ad 11) :: rest)) :=
  g_ald C hH 11 7 rfl rfl h hdg kk
theorem gas_en (C : gC p m c cc nL s args own D (gT cy) (gw cy ad) A) {σ : GS} (hH : gH s D (gw cy ad) A σ H locs) {i x : Int32} {α : Type} {k : Option α} {r : α} (h : gd i 1024 k = some r) (hdg : decode cc pc = .ok (.iastore, 1)) (kk : k = some r → ∀ (H1 : Heap) (locs1 : List Loc), gH s D (gw cy ad) A (gten σ i x) H1 locs1 → W p l e R s m args below meth c H1 locs1 cells slots Q (F0 m (pc + 1) ls rest)) : W p l e R s m args below meth c H locs cells slots Q (F0 m pc ls (.int x :: .int i :: .ref (ad 11) :: rest)) :=
  g_ast C hH 11 7 rfl rfl rfl h hdg kk
theorem gan_en (C : gC p m c cc nL s args own D (gT cy) (gw cy ad) A) {σ : GS} (hH : gH s D (gw cy ad) A σ H locs) (hdg : decode cc pc = .ok (.arraylength, 1)) (kk : W p l e R s m args below meth c H locs cells slots Q (F0 m (pc + 1) ls (.int 1024 :: rest))) : W p l e R s m args below meth c H locs cells slots Q (F0 m pc ls (.ref (ad 11) :: rest)) :=
  va_alen C.1.1 C.1.2.1 C.2.1 hH.1 11 7 rfl rfl rfl hdg kk
theorem gal_ta (C : gC p m c cc nL s args own D (gT cy) (gw cy ad) A) {σ : GS} (hH : gH s D (gw cy ad) A σ H locs) {i : Int32} {α : Type} {k : Option α} {r : α} (h : gd i 1024 k = some r) (hdg : decode cc pc = .ok (.iaload, 1)) (kk : k = some r → W p l e R s m args below meth c H locs cells slots Q (F0 m (pc + 1) ls (.int (gta σ i.toNatClampNeg) :: rest))) : W p l e R s m args below meth c H locs cells slots Q (F0 m pc ls (.int i :: .ref (ad 12) :: rest)) :=
  g_ald C hH 12 8 rfl rfl h hdg kk
theorem gas_ta (C : gC p m c cc nL s args own D (gT cy) (gw cy ad) A) {σ : GS} (hH : gH s D (gw cy ad) A σ H locs) {i x : Int32} {α : Type} {k : Option α} {r : α} (h : gd i 1024 k = some r) (hdg : decode cc pc = .ok (.iastore, 1)) (kk : k = some r → ∀ (H1 : Heap) (locs1 : List Loc), gH s D (gw cy ad) A (gtta σ i x) H1 locs1 → W p l e R s m args below meth c H1 locs1 cells slots Q (F0 m (pc + 1) ls rest)) : W p l e R s m args below meth c H locs cells slots Q (F0 m pc ls (.int x :: .int i :: .ref (ad 12) :: rest)) :=
  g_ast C hH 12 8 rfl rfl rfl h hdg kk
theorem gan_ta (C : gC p m c cc nL s args own D (gT cy) (gw cy ad) A) {σ : GS} (hH : gH s D (gw cy ad) A σ H locs) (hdg : decode cc pc = .ok (.arraylength, 1)) (kk : W p l e R s m args below meth c H locs cells slots Q (F0 m (pc + 1) ls (.int 1024 :: rest))) : W p l e R s m args below meth c H locs cells slots Q (F0 m pc ls (.ref (ad 12) :: rest)) :=
  va_alen C.1.1 C.1.2.1 C.2.1 hH.1 12 8 rfl rfl rfl hdg kk
theorem gal_ma (C : gC p m c cc nL s args own D (gT cy) (gw cy ad) A) {σ : GS} (hH : gH s D (gw cy ad) A σ H locs) {i : Int32} {α : Type} {k : Option α} {r : α} (h : gd i 1024 k = some r) (hdg : decode cc pc = .ok (.iaload, 1)) (kk : k = some r → W p l e R s m args below meth c H locs cells slots Q (F0 m (pc + 1) ls (.int (gma σ i.toNatClampNeg) :: rest))) : W p l e R s m args below meth c H locs cells slots Q (F0 m pc ls (.int i :: .ref (ad 13) :: rest)) :=
  g_ald C hH 13 9 rfl rfl h hdg kk
theorem gas_ma (C : gC p m c cc nL s args own D (gT cy) (gw cy ad) A) {σ : GS} (hH : gH s D (gw cy ad) A σ H locs) {i x : Int32} {α : Type} {k : Option α} {r : α} (h : gd i 1024 k = some r) (hdg : decode cc pc = .ok (.iastore, 1)) (kk : k = some r → ∀ (H1 : Heap) (locs1 : List Loc), gH s D (gw cy ad) A (gtma σ i x) H1 locs1 → W p l e R s m args below meth c H1 locs1 cells slots Q (F0 m (pc + 1) ls rest)) : W p l e R s m args below meth c H locs cells slots Q (F0 m pc ls (.int x :: .int i :: .ref (ad 13) :: rest)) :=
  g_ast C hH 13 9 rfl rfl rfl h hdg kk
theorem gan_ma (C : gC p m c cc nL s args own D (gT cy) (gw cy ad) A) {σ : GS} (hH : gH s D (gw cy ad) A σ H locs) (hdg : decode cc pc = .ok (.arraylength, 1)) (kk : W p l e R s m args below meth c H locs cells slots Q (F0 m (pc + 1) ls (.int 1024 :: rest))) : W p l e R s m args below meth c H locs cells slots Q (F0 m pc ls (.ref (ad 13) :: rest)) :=
  va_alen C.1.1 C.1.2.1 C.2.1 hH.1 13 9 rfl rfl rfl hdg kk
end WS
abbrev MS : Type := Int32 × Int32 × Int32 × Int32 × (Nat → Int32) × (Nat → Int32) × (Nat → Int32) × (Nat → Int32) × (Nat → Int32)
def mpl (σ : MS) : Int32 := σ.1
def mspl (σ : MS) (v : Int32) : MS := (v, σ.2.1, σ.2.2.1, σ.2.2.2.1, σ.2.2.2.2.1, σ.2.2.2.2.2.1, σ.2.2.2.2.2.2.1, σ.2.2.2.2.2.2.2.1, σ.2.2.2.2.2.2.2.2)
def mbr (σ : MS) : Int32 := σ.2.1
def msbr (σ : MS) (v : Int32) : MS := (σ.1, v, σ.2.2.1, σ.2.2.2.1, σ.2.2.2.2.1, σ.2.2.2.2.2.1, σ.2.2.2.2.2.2.1, σ.2.2.2.2.2.2.2.1, σ.2.2.2.2.2.2.2.2)
def mhd (σ : MS) : Int32 := σ.2.2.1
def mshd (σ : MS) (v : Int32) : MS := (σ.1, σ.2.1, v, σ.2.2.2.1, σ.2.2.2.2.1, σ.2.2.2.2.2.1, σ.2.2.2.2.2.2.1, σ.2.2.2.2.2.2.2.1, σ.2.2.2.2.2.2.2.2)
def mnw (σ : MS) : Int32 := σ.2.2.2.1
def msnw (σ : MS) (v : Int32) : MS := (σ.1, σ.2.1, σ.2.2.1, v, σ.2.2.2.2.1, σ.2.2.2.2.2.1, σ.2.2.2.2.2.2.1, σ.2.2.2.2.2.2.2.1, σ.2.2.2.2.2.2.2.2)
def mwe (σ : MS) : Nat → Int32 := σ.2.2.2.2.1
def mtwe (σ : MS) (i x : Int32) : MS := (σ.1, σ.2.1, σ.2.2.1, σ.2.2.2.1, upd (σ.2.2.2.2.1) i.toNatClampNeg x, σ.2.2.2.2.2.1, σ.2.2.2.2.2.2.1, σ.2.2.2.2.2.2.2.1, σ.2.2.2.2.2.2.2.2)
def mpa (σ : MS) : Nat → Int32 := σ.2.2.2.2.2.1
def mtpa (σ : MS) (i x : Int32) : MS := (σ.1, σ.2.1, σ.2.2.1, σ.2.2.2.1, σ.2.2.2.2.1, upd (σ.2.2.2.2.2.1) i.toNatClampNeg x, σ.2.2.2.2.2.2.1, σ.2.2.2.2.2.2.2.1, σ.2.2.2.2.2.2.2.2)
def mbe (σ : MS) : Nat → Int32 := σ.2.2.2.2.2.2.1
def mtbe (σ : MS) (i x : Int32) : MS := (σ.1, σ.2.1, σ.2.2.1, σ.2.2.2.1, σ.2.2.2.2.1, σ.2.2.2.2.2.1, upd (σ.2.2.2.2.2.2.1) i.toNatClampNeg x, σ.2.2.2.2.2.2.2.1, σ.2.2.2.2.2.2.2.2)
def men (σ : MS) : Nat → Int32 := σ.2.2.2.2.2.2.2.1
def mten (σ : MS) (i x : Int32) : MS := (σ.1, σ.2.1, σ.2.2.1, σ.2.2.2.1, σ.2.2.2.2.1, σ.2.2.2.2.2.1, σ.2.2.2.2.2.2.1, upd (σ.2.2.2.2.2.2.2.1) i.toNatClampNeg x, σ.2.2.2.2.2.2.2.2)
def mta (σ : MS) : Nat → Int32 := σ.2.2.2.2.2.2.2.2
def mtta (σ : MS) (i x : Int32) : MS := (σ.1, σ.2.1, σ.2.2.1, σ.2.2.2.1, σ.2.2.2.2.1, σ.2.2.2.2.2.1, σ.2.2.2.2.2.2.1, σ.2.2.2.2.2.2.2.1, upd (σ.2.2.2.2.2.2.2.2) i.toNatClampNeg x)
def mw (cy : Nat → ClassId) (ad : Nat → Nat) (σ : MS) : va_W := [(ad 0, .inr (4, [.int (mpl σ), .ref (ad 1), .ref (ad 2), .int (mbr σ), .int (mhd σ), .int (mnw σ), .ref (ad 3), .ref (ad 4), .ref (ad 5)])), (ad 1, .inl (cy 1, 100, .inl (mwe σ))), (ad 2, .inl (cy 2, 4, .inl (mpa σ))), (ad 3, .inl (cy 3, 1024, .inl (mbe σ))), (ad 4, .inl (cy 4, 1024, .inl (men σ))), (ad 5, .inl (cy 5, 1024, .inl (mta σ)))]
def mT (cy : Nat → ClassId) : List (ClassId × FieldType) := [(cy 1, .int), (cy 2, .int), (cy 3, .int), (cy 4, .int), (cy 5, .int)]
section WS
variable {p : Program} {l : Launch} {e : Env} {R : Room} {s : State} {m : MethodId} {args : Array Value} {below : List Frame} {meth : Method} {c : Code} {H : Heap} {locs : List Loc} {cells slots : Nat} {Q : State → Prop} {cc : ByteArray} {pc nL : Nat} {ls : Array Slot} {rest : List Value} {own : String}
variable {A : Nat → Prop} {D : va_G} {cy : Nat → ClassId} {ad : Nat → Nat}
theorem gf_X4_7 (C : gC p m c cc nL s args RX4 D (mT cy) (mw cy ad) A) {σ : MS} (hH : gH s D (mw cy ad) A σ H locs) (hdg : decode cc pc = .ok (.getfield 7, 3)) (kk : W p l e R s m args below meth c H locs cells slots Q (F0 m (pc + 3) ls (.int (mpl σ) :: rest))) : W p l e R s m args below meth c H locs cells slots Q (F0 m pc ls (.ref (ad 0) :: rest)) :=
  g_get C hH 0 rfl rfl iwX4 0 (by decide) mw_f_X4_7 rfl hdg kk
theorem pf_X4_7 (C : gC p m c cc nL s args RX4 D (mT cy) (mw cy ad) A) {σ : MS} (hH : gH s D (mw cy ad) A σ H locs) {x : Int32} (hdg : decode cc pc = .ok (.putfield 7, 3)) (kk : ∀ (H1 : Heap) (locs1 : List Loc), gH s D (mw cy ad) A (mspl σ x) H1 locs1 → W p l e R s m args below meth c H1 locs1 cells slots Q (F0 m (pc + 3) ls rest)) : W p l e R s m args below meth c H locs cells slots Q (F0 m pc ls (.int x :: .ref (ad 0) :: rest)) :=
  g_put (ty := .int) C hH 0 rfl rfl iwX4 tyX4 tyX4_ok nmX4 0 (by decide) mw_f_X4_7 rfl (by decide +kernel) rfl rfl (Nat.le_of_ble_eq_true rfl) rfl hdg kk
theorem gf_X4_13 (C : gC p m c cc nL s args RX4 D (mT cy) (mw cy ad) A) {σ : MS} (hH : gH s D (mw cy ad) A σ H locs) (hdg : decode cc pc = .ok (.getfield 13, 3)) (kk : W p l e R s m args below meth c H locs cells slots Q (F0 m (pc + 3) ls (.ref (ad 1) :: rest))) : W p l e R s m args below meth c H locs cells slots Q (F0 m pc ls (.ref (ad 0) :: rest)) :=
  g_get C hH 0 rfl rfl iwX4 1 (by decide) mw_f_X4_13 rfl hdg kk
theorem gf_X4_17 (C : gC p m c cc nL s args RX4 D (mT cy) (mw cy ad) A) {σ : MS} (hH : gH s D (mw cy ad) A σ H locs) (hdg : decode cc pc = .ok (.getfield 17, 3)) (kk : W p l e R s m args below meth c H locs cells slots Q (F0 m (pc + 3) ls (.ref (ad 2) :: rest))) : W p l e R s m args below meth c H locs cells slots Q (F0 m pc ls (.ref (ad 0) :: rest)) :=
  g_get C hH 0 rfl rfl iwX4 2 (by decide) mw_f_X4_17 rfl hdg kk
theorem gf_X4_20 (C : gC p m c cc nL s args RX4 D (mT cy) (mw cy ad) A) {σ : MS} (hH : gH s D (mw cy ad) A σ H locs) (hdg : decode cc pc = .ok (.getfield 20, 3)) (kk : W p l e R s m args below meth c H locs cells slots Q (F0 m (pc + 3) ls (.int (mbr σ) :: rest))) : W p l e R s m args below meth c H locs cells slots Q (F0 m pc ls (.ref (ad 0) :: rest)) :=
  g_get C hH 0 rfl rfl iwX4 3 (by decide) mw_f_X4_20 rfl hdg kk
theorem pf_X4_20 (C : gC p m c cc nL s args RX4 D (mT cy) (mw cy ad) A) {σ : MS} (hH : gH s D (mw cy ad) A σ H locs) {x : Int32} (hdg : decode cc pc = .ok (.putfield 20, 3)) (kk : ∀ (H1 : Heap) (locs1 : List Loc), gH s D (mw cy ad) A (msbr σ x) H1 locs1 → W p l e R s m args below meth c H1 locs1 cells slots Q (F0 m (pc + 3) ls rest)) : W p l e R s m args below meth c H locs cells slots Q (F0 m pc ls (.int x :: .ref (ad 0) :: rest)) :=
  g_put (ty := .int) C hH 0 rfl rfl iwX4 tyX4 tyX4_ok nmX4 3 (by decide) mw_f_X4_20 rfl (by decide +kernel) rfl rfl (Nat.le_of_ble_eq_true rfl) rfl hdg kk
theorem gf_X4_40 (C : gC p m c cc nL s args RX4 D (mT cy) (mw cy ad) A) {σ : MS} (hH : gH s D (mw cy ad) A σ H locs) (hdg : decode cc pc = .ok (.getfield 40, 3)) (kk : W p l e R s m args below meth c H locs cells slots Q (F0 m (pc + 3) ls (.int (mhd σ) :: rest))) : W p l e R s m args below meth c H locs cells slots Q (F0 m pc ls (.ref (ad 0) :: rest)) :=
  g_get C hH 0 rfl rfl iwX4 4 (by decide) mw_f_X4_40 rfl hdg kk
theorem pf_X4_40 (C : gC p m c cc nL s args RX4 D (mT cy) (mw cy ad) A) {σ : MS} (hH : gH s D (mw cy ad) A σ H locs) {x : Int32} (hdg : decode cc pc = .ok (.putfield 40, 3)) (kk : ∀ (H1 : Heap) (locs1 : List Loc), gH s D (mw cy ad) A (mshd σ x) H1 locs1 → W p l e R s m args below meth c H1 locs1 cells slots Q (F0 m (pc + 3) ls rest)) : W p l e R s m args below meth c H locs cells slots Q (F0 m pc ls (.int x :: .ref (ad 0) :: rest)) :=
  g_put (ty := .int) C hH 0 rfl rfl iwX4 tyX4 tyX4_ok nmX4 4 (by decide) mw_f_X4_40 rfl (by decide +kernel) rfl rfl (Nat.le_of_ble_eq_true rfl) rfl hdg kk
theorem gf_X4_43 (C : gC p m c cc nL s args RX4 D (mT cy) (mw cy ad) A) {σ : MS} (hH : gH s D (mw cy ad) A σ H locs) (hdg : decode cc pc = .ok (.getfield 43, 3)) (kk : W p l e R s m args below meth c H locs cells slots Q (F0 m (pc + 3) ls (.int (mnw σ) :: rest))) : W p l e R s m args below meth c H locs cells slots Q (F0 m pc ls (.ref (ad 0) :: rest)) :=
  g_get C hH 0 rfl rfl iwX4 5 (by decide) mw_f_X4_43 rfl hdg kk
theorem pf_X4_43 (C : gC p m c cc nL s args RX4 D (mT cy) (mw cy ad) A) {σ : MS} (hH : gH s D (mw cy ad) A σ H locs) {x : Int32} (hdg : decode cc pc = .ok (.putfield 43, 3)) (kk : ∀ (H1 : Heap) (locs1 : List Loc), gH s D (mw cy ad) A (msnw σ x) H1 locs1 → W p l e R s m args below meth c H1 locs1 cells slots Q (F0 m (pc + 3) ls rest)) : W p l e R s m args below meth c H locs cells slots Q (F0 m pc ls (.int x :: .ref (ad 0) :: rest)) :=
  g_put (ty := .int) C hH 0 rfl rfl iwX4 tyX4 tyX4_ok nmX4 5 (by decide) mw_f_X4_43 rfl (by decide +kernel) rfl rfl (Nat.le_of_ble_eq_true rfl) rfl hdg kk
theorem gf_X4_23 (C : gC p m c cc nL s args RX4 D (mT cy) (mw cy ad) A) {σ : MS} (hH : gH s D (mw cy ad) A σ H locs) (hdg : decode cc pc = .ok (.getfield 23, 3)) (kk : W p l e R s m args below meth c H locs cells slots Q (F0 m (pc + 3) ls (.ref (ad 3) :: rest))) : W p l e R s m args below meth c H locs cells slots Q (F0 m pc ls (.ref (ad 0) :: rest)) :=
  g_get C hH 0 rfl rfl iwX4 6 (by decide) mw_f_X4_23 rfl hdg kk
theorem gf_X4_26 (C : gC p m c cc nL s args RX4 D (mT cy) (mw cy ad) A) {σ : MS} (hH : gH s D (mw cy ad) A σ H locs) (hdg : decode cc pc = .ok (.getfield 26, 3)) (kk : W p l e R s m args below meth c H locs cells slots Q (F0 m (pc + 3) ls (.ref (ad 4) :: rest))) : W p l e R s m args below meth c H locs cells slots Q (F0 m pc ls (.ref (ad 0) :: rest)) :=
  g_get C hH 0 rfl rfl iwX4 7 (by decide) mw_f_X4_26 rfl hdg kk
theorem gf_X4_29 (C : gC p m c cc nL s args RX4 D (mT cy) (mw cy ad) A) {σ : MS} (hH : gH s D (mw cy ad) A σ H locs) (hdg : decode cc pc = .ok (.getfield 29, 3)) (kk : W p l e R s m args below meth c H locs cells slots Q (F0 m (pc + 3) ls (.ref (ad 5) :: rest))) : W p l e R s m args below meth c H locs cells slots Q (F0 m pc ls (.ref (ad 0) :: rest)) :=
  g_get C hH 0 rfl rfl iwX4 8 (by decide) mw_f_X4_29 rfl hdg kk
theorem mal_we (C : gC p m c cc nL s args own D (mT cy) (mw cy ad) A) {σ : MS} (hH : gH s D (mw cy ad) A σ H locs) {i : Int32} {α : Type} {k : Option α} {r : α} (h : gd i 100 k = some r) (hdg : decode cc pc = .ok (.iaload, 1)) (kk : k = some r → W p l e R s m args below meth c H locs cells slots Q (F0 m (pc + 1) ls (.int (mwe σ i.toNatClampNeg) :: rest))) : W p l e R s m args below meth c H locs cells slots Q (F0 m pc ls (.int i :: .ref (ad 1) :: rest)) :=
  g_ald C hH 1 0 rfl rfl h hdg kk
theorem mas_we (C : gC p m c cc nL s args own D (mT cy) (mw cy ad) A) {σ : MS} (hH : gH s D (mw cy ad) A σ H locs) {i x : Int32} {α : Type} {k : Option α} {r : α} (h : gd i 100 k = some r) (hdg : decode cc pc = .ok (.iastore, 1)) (kk : k = some r → ∀ (H1 : Heap) (locs1 : List Loc), gH s D (mw cy ad) A (mtwe σ i x) H1 locs1 → W p l e R s m args below meth c H1 locs1 cells slots Q (F0 m (pc + 1) ls rest)) : W p l e R s m args below meth c H locs cells slots Q (F0 m pc ls (.int x :: .int i :: .ref (ad 1) :: rest)) :=
  g_ast C hH 1 0 rfl rfl rfl h hdg kk
theorem man_we (C : gC p m c cc nL s args own D (mT cy) (mw cy ad) A) {σ : MS} (hH : gH s D (mw cy ad) A σ H locs) (hdg : decode cc pc = .ok (.arraylength, 1)) (kk : W p l e R s m args below meth c H locs cells slots Q (F0 m (pc + 1) ls (.int 100 :: rest))) : W p l e R s m args below meth c H locs cells slots Q (F0 m pc ls (.ref (ad 1) :: rest)) :=
  va_alen C.1.1 C.1.2.1 C.2.1 hH.1 1 0 rfl rfl rfl hdg kk
theorem mal_pa (C : gC p m c cc nL s args own D (mT cy) (mw cy ad) A) {σ : MS} (hH : gH s D (mw cy ad) A σ H locs) {i : Int32} {α : Type} {k : Option α} {r : α} (h : gd i 4 k = some r) (hdg : decode cc pc = .ok (.iaload, 1)) (kk : k = some r → W p l e R s m args below meth c H locs cells slots Q (F0 m (pc + 1) ls (.int (mpa σ i.toNatClampNeg) :: rest))) : W p l e R s m args below meth c H locs cells slots Q (F0 m pc ls (.int i :: .ref (ad 2) :: rest)) :=
  g_ald C hH 2 1 rfl rfl h hdg kk
theorem mas_pa (C : gC p m c cc nL s args own D (mT cy) (mw cy ad) A) {σ : MS} (hH : gH s D (mw cy ad) A σ H locs) {i x : Int32} {α : Type} {k : Option α} {r : α} (h : gd i 4 k = some r) (hdg : decode cc pc = .ok (.iastore, 1)) (kk : k = some r → ∀ (H1 : Heap) (locs1 : List Loc), gH s D (mw cy ad) A (mtpa σ i x) H1 locs1 → W p l e R s m args below meth c H1 locs1 cells slots Q (F0 m (pc + 1) ls rest)) : W p l e R s m args below meth c H locs cells slots Q (F0 m pc ls (.int x :: .int i :: .ref (ad 2) :: rest)) :=
  g_ast C hH 2 1 rfl rfl rfl h hdg kk
theorem man_pa (C : gC p m c cc nL s args own D (mT cy) (mw cy ad) A) {σ : MS} (hH : gH s D (mw cy ad) A σ H locs) (hdg : decode cc pc = .ok (.arraylength, 1)) (kk : W p l e R s m args below meth c H locs cells slots Q (F0 m (pc + 1) ls (.int 4 :: rest))) : W p l e R s m args below meth c H locs cells slots Q (F0 m pc ls (.ref (ad 2) :: rest)) :=
  va_alen C.1.1 C.1.2.1 C.2.1 hH.1 2 1 rfl rfl rfl hdg kk
theorem mal_be (C : gC p m c cc nL s args own D (mT cy) (mw cy ad) A) {σ : MS} (hH : gH s D (mw cy ad) A σ H locs) {i : Int32} {α : Type} {k : Option α} {r : α} (h : gd i 1024 k = some r) (hdg : decode cc pc = .ok (.iaload, 1)) (kk : k = some r → W p l e R s m args below meth c H locs cells slots Q (F0 m (pc + 1) ls (.int (mbe σ i.toNatClampNeg) :: rest))) : W p l e R s m args below meth c H locs cells slots Q (F0 m pc ls (.int i :: .ref (ad 3) :: rest)) :=
  g_ald C hH 3 2 rfl rfl h hdg kk
theorem mas_be (C : gC p m c cc nL s args own D (mT cy) (mw cy ad) A) {σ : MS} (hH : gH s D (mw cy ad) A σ H locs) {i x : Int32} {α : Type} {k : Option α} {r : α} (h : gd i 1024 k = some r) (hdg : decode cc pc = .ok (.iastore, 1)) (kk : k = some r → ∀ (H1 : Heap) (locs1 : List Loc), gH s D (mw cy ad) A (mtbe σ i x) H1 locs1 → W p l e R s m args below meth c H1 locs1 cells slots Q (F0 m (pc + 1) ls rest)) : W p l e R s m args below meth c H locs cells slots Q (F0 m pc ls (.int x :: .int i :: .ref (ad 3) :: rest)) :=
  g_ast C hH 3 2 rfl rfl rfl h hdg kk
theorem man_be (C : gC p m c cc nL s args own D (mT cy) (mw cy ad) A) {σ : MS} (hH : gH s D (mw cy ad) A σ H locs) (hdg : decode cc pc = .ok (.arraylength, 1)) (kk : W p l e R s m args below meth c H locs cells slots Q (F0 m (pc + 1) ls (.int 1024 :: rest))) : W p l e R s m args below meth c H locs cells slots Q (F0 m pc ls (.ref (ad 3) :: rest)) :=
  va_alen C.1.1 C.1.2.1 C.2.1 hH.1 3 2 rfl rfl rfl hdg kk
theorem mal_en (C : gC p m c cc nL s args own D (mT cy) (mw cy ad) A) {σ : MS} (hH : gH s D (mw cy ad) A σ H locs) {i : Int32} {α : Type} {k : Option α} {r : α} (h : gd i 1024 k = some r) (hdg : decode cc pc = .ok (.iaload, 1)) (kk : k = some r → W p l e R s m args below meth c H locs cells slots Q (F0 m (pc + 1) ls (.int (men σ i.toNatClampNeg) :: rest))) : W p l e R s m args below meth c H locs cells slots Q (F0 m pc ls (.int i :: .ref (ad 4) :: rest)) :=
  g_ald C hH 4 3 rfl rfl h hdg kk
theorem mas_en (C : gC p m c cc nL s args own D (mT cy) (mw cy ad) A) {σ : MS} (hH : gH s D (mw cy ad) A σ H locs) {i x : Int32} {α : Type} {k : Option α} {r : α} (h : gd i 1024 k = some r) (hdg : decode cc pc = .ok (.iastore, 1)) (kk : k = some r → ∀ (H1 : Heap) (locs1 : List Loc), gH s D (mw cy ad) A (mten σ i x) H1 locs1 → W p l e R s m args below meth c H1 locs1 cells slots Q (F0 m (pc + 1) ls rest)) : W p l e R s m args below meth c H locs cells slots Q (F0 m pc ls (.int x :: .int i :: .ref (ad 4) :: rest)) :=
  g_ast C hH 4 3 rfl rfl rfl h hdg kk
theorem man_en (C : gC p m c cc nL s args own D (mT cy) (mw cy ad) A) {σ : MS} (hH : gH s D (mw cy ad) A σ H locs) (hdg : decode cc pc = .ok (.arraylength, 1)) (kk : W p l e R s m args below meth c H locs cells slots Q (F0 m (pc + 1) ls (.int 1024 :: rest))) : W p l e R s m args below meth c H locs cells slots Q (F0 m pc ls (.ref (ad 4) :: rest)) :=
  va_alen C.1.1 C.1.2.1 C.2.1 hH.1 4 3 rfl rfl rfl hdg kk
theorem mal_ta (C : gC p m c cc nL s args own D (mT cy) (mw cy ad) A) {σ : MS} (hH : gH s D (mw cy ad) A σ H locs) {i : Int32} {α : Type} {k : Option α} {r : α} (h : gd i 1024 k = some r) (hdg : decode cc pc = .ok (.iaload, 1)) (kk : k = some r → W p l e R s m args below meth c H locs cells slots Q (F0 m (pc + 1) ls (.int (mta σ i.toNatClampNeg) :: rest))) : W p l e R s m args below meth c H locs cells slots Q (F0 m pc ls (.int i :: .ref (ad 5) :: rest)) :=
  g_ald C hH 5 4 rfl rfl h hdg kk
theorem mas_ta (C : gC p m c cc nL s args own D (mT cy) (mw cy ad) A) {σ : MS} (hH : gH s D (mw cy ad) A σ H locs) {i x : Int32} {α : Type} {k : Option α} {r : α} (h : gd i 1024 k = some r) (hdg : decode cc pc = .ok (.iastore, 1)) (kk : k = some r → ∀ (H1 : Heap) (locs1 : List Loc), gH s D (mw cy ad) A (mtta σ i x) H1 locs1 → W p l e R s m args below meth c H1 locs1 cells slots Q (F0 m (pc + 1) ls rest)) : W p l e R s m args below meth c H locs cells slots Q (F0 m pc ls (.int x :: .int i :: .ref (ad 5) :: rest)) :=
  g_ast C hH 5 4 rfl rfl rfl h hdg kk
theorem man_ta (C : gC p m c cc nL s args own D (mT cy) (mw cy ad) A) {σ : MS} (hH : gH s D (mw cy ad) A σ H locs) (hdg : decode cc pc = .ok (.arraylength, 1)) (kk : W p l e R s m args below meth c H locs cells slots Q (F0 m (pc + 1) ls (.int 1024 :: rest))) : W p l e R s m args below meth c H locs cells slots Q (F0 m pc ls (.ref (ad 5) :: rest)) :=
  va_alen C.1.1 C.1.2.1 C.2.1 hH.1 5 4 rfl rfl rfl hdg kk
end WS
end
