section
-- ===== PART A: goes FIRST, ahead of the names: the tables' words, and 'selects' of the private methods out of them =====
/-- a private method of a class that the tables say can be made, by its rows of tables_1 -/
def lw_okq (q : MethodName × Nat) : Prop := (q.1.cls ≠ "java/lang/invoke/MethodHandle" ∧ q.1.cls ≠ "java/lang/invoke/VarHandle") ∧ Cond.instantiable q.1.cls q.2 ∈ tables_1 ∧ Cond.privateMethod q.1 ∈ tables_1 ∧ Cond.instanceMethod q.1 ∈ tables_1
theorem lw_p0 : lw_okq (⟨"NeedOnce$Cells", "putToSleep", "()V"⟩, 16) := ⟨⟨by decide +kernel, by decide +kernel⟩, List.mem_of_getElem? (i := 19) (by decide +kernel), List.mem_of_getElem? (i := 25) (by decide +kernel), List.mem_of_getElem? (i := 26) (by decide +kernel)⟩
theorem lw_p1 : lw_okq (⟨"NeedOnce$Sheets", "has", "(I)Z"⟩, 3) := ⟨⟨by decide +kernel, by decide +kernel⟩, List.mem_of_getElem? (i := 129) (by decide +kernel), List.mem_of_getElem? (i := 174) (by decide +kernel), List.mem_of_getElem? (i := 175) (by decide +kernel)⟩
theorem lw_p2 : lw_okq (⟨"NeedOnce$Sheets", "rangeFault", "(IIII)I"⟩, 3) := ⟨⟨by decide +kernel, by decide +kernel⟩, List.mem_of_getElem? (i := 129) (by decide +kernel), List.mem_of_getElem? (i := 181) (by decide +kernel), List.mem_of_getElem? (i := 182) (by decide +kernel)⟩
theorem lw_p3 : lw_okq (⟨"NeedOnce$Sheets", "isRange", "(III)Z"⟩, 3) := ⟨⟨by decide +kernel, by decide +kernel⟩, List.mem_of_getElem? (i := 129) (by decide +kernel), List.mem_of_getElem? (i := 185) (by decide +kernel), List.mem_of_getElem? (i := 186) (by decide +kernel)⟩
theorem lw_p4 : lw_okq (⟨"NeedOnce", "faulted", "(I)I"⟩, 7) := ⟨⟨by decide +kernel, by decide +kernel⟩, List.mem_of_getElem? (i := 11) (by decide +kernel), List.mem_of_getElem? (i := 189) (by decide +kernel), List.mem_of_getElem? (i := 190) (by decide +kernel)⟩
theorem lw_p5 : lw_okq (⟨"NeedOnce$TextReader", "readInto", "(LNeedOnce$Cells;LNeedOnce$Sheets;III)I"⟩, 2) := ⟨⟨by decide +kernel, by decide +kernel⟩, List.mem_of_getElem? (i := 99) (by decide +kernel), List.mem_of_getElem? (i := 193) (by decide +kernel), List.mem_of_getElem? (i := 194) (by decide +kernel)⟩
theorem lw_p6 : lw_okq (⟨"NeedOnce$Cells", "forgetAll", "()V"⟩, 16) := ⟨⟨by decide +kernel, by decide +kernel⟩, List.mem_of_getElem? (i := 19) (by decide +kernel), List.mem_of_getElem? (i := 197) (by decide +kernel), List.mem_of_getElem? (i := 198) (by decide +kernel)⟩
theorem lw_p7 : lw_okq (⟨"NeedOnce$Sheets", "at", "(II)I"⟩, 3) := ⟨⟨by decide +kernel, by decide +kernel⟩, List.mem_of_getElem? (i := 129) (by decide +kernel), List.mem_of_getElem? (i := 201) (by decide +kernel), List.mem_of_getElem? (i := 202) (by decide +kernel)⟩
theorem lw_p8 : lw_okq (⟨"NeedOnce$TextReader", "goesOn", "(LNeedOnce$Cells;I)Z"⟩, 2) := ⟨⟨by decide +kernel, by decide +kernel⟩, List.mem_of_getElem? (i := 99) (by decide +kernel), List.mem_of_getElem? (i := 205) (by decide +kernel), List.mem_of_getElem? (i := 206) (by decide +kernel)⟩
theorem lw_p9 : lw_okq (⟨"NeedOnce$TextReader", "takesKind", "(LNeedOnce$Cells;II)Z"⟩, 2) := ⟨⟨by decide +kernel, by decide +kernel⟩, List.mem_of_getElem? (i := 99) (by decide +kernel), List.mem_of_getElem? (i := 209) (by decide +kernel), List.mem_of_getElem? (i := 210) (by decide +kernel)⟩
theorem lw_p10 : lw_okq (⟨"NeedOnce$TextReader", "takesPrice", "(LNeedOnce$Cells;II)Z"⟩, 2) := ⟨⟨by decide +kernel, by decide +kernel⟩, List.mem_of_getElem? (i := 99) (by decide +kernel), List.mem_of_getElem? (i := 218) (by decide +kernel), List.mem_of_getElem? (i := 219) (by decide +kernel)⟩
theorem lw_p11 : lw_okq (⟨"NeedOnce$TextReader", "takesSign", "(LNeedOnce$Cells;II)Z"⟩, 2) := ⟨⟨by decide +kernel, by decide +kernel⟩, List.mem_of_getElem? (i := 99) (by decide +kernel), List.mem_of_getElem? (i := 222) (by decide +kernel), List.mem_of_getElem? (i := 223) (by decide +kernel)⟩
theorem lw_p12 : lw_okq (⟨"NeedOnce$TextReader", "takesPart", "(LNeedOnce$Cells;II)Z"⟩, 2) := ⟨⟨by decide +kernel, by decide +kernel⟩, List.mem_of_getElem? (i := 99) (by decide +kernel), List.mem_of_getElem? (i := 228) (by decide +kernel), List.mem_of_getElem? (i := 229) (by decide +kernel)⟩
theorem lw_p13 : lw_okq (⟨"NeedOnce$Cells", "tellPart", "(III)V"⟩, 16) := ⟨⟨by decide +kernel, by decide +kernel⟩, List.mem_of_getElem? (i := 19) (by decide +kernel), List.mem_of_getElem? (i := 232) (by decide +kernel), List.mem_of_getElem? (i := 233) (by decide +kernel)⟩
theorem lw_p14 : lw_okq (⟨"NeedOnce$Cells", "firstLoose", "()I"⟩, 16) := ⟨⟨by decide +kernel, by decide +kernel⟩, List.mem_of_getElem? (i := 19) (by decide +kernel), List.mem_of_getElem? (i := 238) (by decide +kernel), List.mem_of_getElem? (i := 239) (by decide +kernel)⟩
theorem lw_p15 : lw_okq (⟨"NeedOnce$Cells", "partSet", "(I)I"⟩, 16) := ⟨⟨by decide +kernel, by decide +kernel⟩, List.mem_of_getElem? (i := 19) (by decide +kernel), List.mem_of_getElem? (i := 242) (by decide +kernel), List.mem_of_getElem? (i := 243) (by decide +kernel)⟩
def lw_privs_1 : List (MethodName × Nat) := [(⟨"NeedOnce$Cells", "putToSleep", "()V"⟩, 16), (⟨"NeedOnce$Sheets", "has", "(I)Z"⟩, 3), (⟨"NeedOnce$Sheets", "rangeFault", "(IIII)I"⟩, 3), (⟨"NeedOnce$Sheets", "isRange", "(III)Z"⟩, 3), (⟨"NeedOnce", "faulted", "(I)I"⟩, 7), (⟨"NeedOnce$TextReader", "readInto", "(LNeedOnce$Cells;LNeedOnce$Sheets;III)I"⟩, 2), (⟨"NeedOnce$Cells", "forgetAll", "()V"⟩, 16), (⟨"NeedOnce$Sheets", "at", "(II)I"⟩, 3), (⟨"NeedOnce$TextReader", "goesOn", "(LNeedOnce$Cells;I)Z"⟩, 2), (⟨"NeedOnce$TextReader", "takesKind", "(LNeedOnce$Cells;II)Z"⟩, 2), (⟨"NeedOnce$TextReader", "takesPrice", "(LNeedOnce$Cells;II)Z"⟩, 2), (⟨"NeedOnce$TextReader", "takesSign", "(LNeedOnce$Cells;II)Z"⟩, 2), (⟨"NeedOnce$TextReader", "takesPart", "(LNeedOnce$Cells;II)Z"⟩, 2), (⟨"NeedOnce$Cells", "tellPart", "(III)V"⟩, 16), (⟨"NeedOnce$Cells", "firstLoose", "()I"⟩, 16), (⟨"NeedOnce$Cells", "partSet", "(I)I"⟩, 16)]
theorem lw_r1 : ∀ q ∈ lw_privs_1, lw_okq q := List.forall_mem_cons.mpr ⟨lw_p0, List.forall_mem_cons.mpr ⟨lw_p1, List.forall_mem_cons.mpr ⟨lw_p2, List.forall_mem_cons.mpr ⟨lw_p3, List.forall_mem_cons.mpr ⟨lw_p4, List.forall_mem_cons.mpr ⟨lw_p5, List.forall_mem_cons.mpr ⟨lw_p6, List.forall_mem_cons.mpr ⟨lw_p7, List.forall_mem_cons.mpr ⟨lw_p8, List.forall_mem_cons.mpr ⟨lw_p9, List.forall_mem_cons.mpr ⟨lw_p10, List.forall_mem_cons.mpr ⟨lw_p11, List.forall_mem_cons.mpr ⟨lw_p12, List.forall_mem_cons.mpr ⟨lw_p13, List.forall_mem_cons.mpr ⟨lw_p14, List.forall_mem_cons.mpr ⟨lw_p15, fun _ h => absurd h List.not_mem_nil⟩⟩⟩⟩⟩⟩⟩⟩⟩⟩⟩⟩⟩⟩⟩⟩
theorem lw_p16 : lw_okq (⟨"NeedOnce$Cells", "partAsTold", "(II)I"⟩, 16) := ⟨⟨by decide +kernel, by decide +kernel⟩, List.mem_of_getElem? (i := 19) (by decide +kernel), List.mem_of_getElem? (i := 247) (by decide +kernel), List.mem_of_getElem? (i := 248) (by decide +kernel)⟩
theorem lw_p17 : lw_okq (⟨"NeedOnce$Cells", "becomeLike", "(LNeedOnce$Cells;)V"⟩, 16) := ⟨⟨by decide +kernel, by decide +kernel⟩, List.mem_of_getElem? (i := 19) (by decide +kernel), List.mem_of_getElem? (i := 251) (by decide +kernel), List.mem_of_getElem? (i := 252) (by decide +kernel)⟩
theorem lw_p18 : lw_okq (⟨"NeedOnce$Cells", "startLatest", "()V"⟩, 16) := ⟨⟨by decide +kernel, by decide +kernel⟩, List.mem_of_getElem? (i := 19) (by decide +kernel), List.mem_of_getElem? (i := 258) (by decide +kernel), List.mem_of_getElem? (i := 259) (by decide +kernel)⟩
theorem lw_p19 : lw_okq (⟨"NeedOnce$Cells", "has", "(I)Z"⟩, 16) := ⟨⟨by decide +kernel, by decide +kernel⟩, List.mem_of_getElem? (i := 19) (by decide +kernel), List.mem_of_getElem? (i := 266) (by decide +kernel), List.mem_of_getElem? (i := 267) (by decide +kernel)⟩
theorem lw_p20 : lw_okq (⟨"NeedOnce$Cells", "costOf", "(I)I"⟩, 16) := ⟨⟨by decide +kernel, by decide +kernel⟩, List.mem_of_getElem? (i := 19) (by decide +kernel), List.mem_of_getElem? (i := 270) (by decide +kernel), List.mem_of_getElem? (i := 271) (by decide +kernel)⟩
theorem lw_p21 : lw_okq (⟨"NeedOnce$Cells", "formNow", "(I)I"⟩, 16) := ⟨⟨by decide +kernel, by decide +kernel⟩, List.mem_of_getElem? (i := 19) (by decide +kernel), List.mem_of_getElem? (i := 274) (by decide +kernel), List.mem_of_getElem? (i := 275) (by decide +kernel)⟩
theorem lw_p22 : lw_okq (⟨"NeedOnce$Cells", "isAwake", "(I)Z"⟩, 16) := ⟨⟨by decide +kernel, by decide +kernel⟩, List.mem_of_getElem? (i := 19) (by decide +kernel), List.mem_of_getElem? (i := 278) (by decide +kernel), List.mem_of_getElem? (i := 279) (by decide +kernel)⟩
theorem lw_p23 : lw_okq (⟨"NeedOnce$Cells", "needAnew", "(I)I"⟩, 16) := ⟨⟨by decide +kernel, by decide +kernel⟩, List.mem_of_getElem? (i := 19) (by decide +kernel), List.mem_of_getElem? (i := 291) (by decide +kernel), List.mem_of_getElem? (i := 292) (by decide +kernel)⟩
theorem lw_p24 : lw_okq (⟨"NeedOnce$Cells", "comeTo", "(II)I"⟩, 16) := ⟨⟨by decide +kernel, by decide +kernel⟩, List.mem_of_getElem? (i := 19) (by decide +kernel), List.mem_of_getElem? (i := 296) (by decide +kernel), List.mem_of_getElem? (i := 297) (by decide +kernel)⟩
theorem lw_p25 : lw_okq (⟨"NeedOnce$Cells", "payFor", "(I)V"⟩, 16) := ⟨⟨by decide +kernel, by decide +kernel⟩, List.mem_of_getElem? (i := 19) (by decide +kernel), List.mem_of_getElem? (i := 304) (by decide +kernel), List.mem_of_getElem? (i := 305) (by decide +kernel)⟩
theorem lw_p26 : lw_okq (⟨"NeedOnce$Cells", "workOut", "(II)I"⟩, 16) := ⟨⟨by decide +kernel, by decide +kernel⟩, List.mem_of_getElem? (i := 19) (by decide +kernel), List.mem_of_getElem? (i := 309) (by decide +kernel), List.mem_of_getElem? (i := 310) (by decide +kernel)⟩
theorem lw_p27 : lw_okq (⟨"NeedOnce$Cells", "workOutBoth", "(II)I"⟩, 16) := ⟨⟨by decide +kernel, by decide +kernel⟩, List.mem_of_getElem? (i := 19) (by decide +kernel), List.mem_of_getElem? (i := 314) (by decide +kernel), List.mem_of_getElem? (i := 315) (by decide +kernel)⟩
theorem lw_p28 : lw_okq (⟨"NeedOnce$Cells", "comeToNumber", "(II)I"⟩, 16) := ⟨⟨by decide +kernel, by decide +kernel⟩, List.mem_of_getElem? (i := 19) (by decide +kernel), List.mem_of_getElem? (i := 318) (by decide +kernel), List.mem_of_getElem? (i := 319) (by decide +kernel)⟩
theorem lw_p29 : lw_okq (⟨"NeedOnce$Cells", "workOutChoice", "(II)I"⟩, 16) := ⟨⟨by decide +kernel, by decide +kernel⟩, List.mem_of_getElem? (i := 19) (by decide +kernel), List.mem_of_getElem? (i := 322) (by decide +kernel), List.mem_of_getElem? (i := 323) (by decide +kernel)⟩
theorem lw_p30 : lw_okq (⟨"NeedOnce$Cells", "passOn", "(III)I"⟩, 16) := ⟨⟨by decide +kernel, by decide +kernel⟩, List.mem_of_getElem? (i := 19) (by decide +kernel), List.mem_of_getElem? (i := 326) (by decide +kernel), List.mem_of_getElem? (i := 327) (by decide +kernel)⟩
theorem lw_p31 : lw_okq (⟨"NeedOnce$Cells", "workOutOfPair", "(II)I"⟩, 16) := ⟨⟨by decide +kernel, by decide +kernel⟩, List.mem_of_getElem? (i := 19) (by decide +kernel), List.mem_of_getElem? (i := 330) (by decide +kernel), List.mem_of_getElem? (i := 331) (by decide +kernel)⟩
def lw_privs_2 : List (MethodName × Nat) := [(⟨"NeedOnce$Cells", "partAsTold", "(II)I"⟩, 16), (⟨"NeedOnce$Cells", "becomeLike", "(LNeedOnce$Cells;)V"⟩, 16), (⟨"NeedOnce$Cells", "startLatest", "()V"⟩, 16), (⟨"NeedOnce$Cells", "has", "(I)Z"⟩, 16), (⟨"NeedOnce$Cells", "costOf", "(I)I"⟩, 16), (⟨"NeedOnce$Cells", "formNow", "(I)I"⟩, 16), (⟨"NeedOnce$Cells", "isAwake", "(I)Z"⟩, 16), (⟨"NeedOnce$Cells", "needAnew", "(I)I"⟩, 16), (⟨"NeedOnce$Cells", "comeTo", "(II)I"⟩, 16), (⟨"NeedOnce$Cells", "payFor", "(I)V"⟩, 16), (⟨"NeedOnce$Cells", "workOut", "(II)I"⟩, 16), (⟨"NeedOnce$Cells", "workOutBoth", "(II)I"⟩, 16), (⟨"NeedOnce$Cells", "comeToNumber", "(II)I"⟩, 16), (⟨"NeedOnce$Cells", "workOutChoice", "(II)I"⟩, 16), (⟨"NeedOnce$Cells", "passOn", "(III)I"⟩, 16), (⟨"NeedOnce$Cells", "workOutOfPair", "(II)I"⟩, 16)]
theorem lw_r2 : ∀ q ∈ lw_privs_2, lw_okq q := List.forall_mem_cons.mpr ⟨lw_p16, List.forall_mem_cons.mpr ⟨lw_p17, List.forall_mem_cons.mpr ⟨lw_p18, List.forall_mem_cons.mpr ⟨lw_p19, List.forall_mem_cons.mpr ⟨lw_p20, List.forall_mem_cons.mpr ⟨lw_p21, List.forall_mem_cons.mpr ⟨lw_p22, List.forall_mem_cons.mpr ⟨lw_p23, List.forall_mem_cons.mpr ⟨lw_p24, List.forall_mem_cons.mpr ⟨lw_p25, List.forall_mem_cons.mpr ⟨lw_p26, List.forall_mem_cons.mpr ⟨lw_p27, List.forall_mem_cons.mpr ⟨lw_p28, List.forall_mem_cons.mpr ⟨lw_p29, List.forall_mem_cons.mpr ⟨lw_p30, List.forall_mem_cons.mpr ⟨lw_p31, fun _ h => absurd h List.not_mem_nil⟩⟩⟩⟩⟩⟩⟩⟩⟩⟩⟩⟩⟩⟩⟩⟩
theorem lw_p32 : lw_okq (⟨"NeedOnce$Cells", "partOfPair", "(II)I"⟩, 16) := ⟨⟨by decide +kernel, by decide +kernel⟩, List.mem_of_getElem? (i := 19) (by decide +kernel), List.mem_of_getElem? (i := 334) (by decide +kernel), List.mem_of_getElem? (i := 335) (by decide +kernel)⟩
theorem lw_p33 : lw_okq (⟨"NeedOnce$Cells", "keep", "(II)V"⟩, 16) := ⟨⟨by decide +kernel, by decide +kernel⟩, List.mem_of_getElem? (i := 19) (by decide +kernel), List.mem_of_getElem? (i := 338) (by decide +kernel), List.mem_of_getElem? (i := 339) (by decide +kernel)⟩
theorem lw_p34 : lw_okq (⟨"NeedOnce$Cells", "howManyAwake", "()I"⟩, 16) := ⟨⟨by decide +kernel, by decide +kernel⟩, List.mem_of_getElem? (i := 19) (by decide +kernel), List.mem_of_getElem? (i := 354) (by decide +kernel), List.mem_of_getElem? (i := 355) (by decide +kernel)⟩
theorem lw_p35 : lw_okq (⟨"NeedOnce$Cells", "makeLinks", "()I"⟩, 16) := ⟨⟨by decide +kernel, by decide +kernel⟩, List.mem_of_getElem? (i := 19) (by decide +kernel), List.mem_of_getElem? (i := 363) (by decide +kernel), List.mem_of_getElem? (i := 364) (by decide +kernel)⟩
theorem lw_p36 : lw_okq (⟨"NeedOnce$Cells", "canBeLink", "(I)Z"⟩, 16) := ⟨⟨by decide +kernel, by decide +kernel⟩, List.mem_of_getElem? (i := 19) (by decide +kernel), List.mem_of_getElem? (i := 367) (by decide +kernel), List.mem_of_getElem? (i := 368) (by decide +kernel)⟩
theorem lw_p37 : lw_okq (⟨"NeedOnce$Cells", "heldBy", "(I)I"⟩, 16) := ⟨⟨by decide +kernel, by decide +kernel⟩, List.mem_of_getElem? (i := 19) (by decide +kernel), List.mem_of_getElem? (i := 375) (by decide +kernel), List.mem_of_getElem? (i := 376) (by decide +kernel)⟩
theorem lw_p38 : lw_okq (⟨"NeedOnce$Cells", "heldDirectly", "(I)I"⟩, 16) := ⟨⟨by decide +kernel, by decide +kernel⟩, List.mem_of_getElem? (i := 19) (by decide +kernel), List.mem_of_getElem? (i := 379) (by decide +kernel), List.mem_of_getElem? (i := 380) (by decide +kernel)⟩
theorem lw_p39 : lw_okq (⟨"NeedOnce$Cells", "timesPlainly", "(I)I"⟩, 16) := ⟨⟨by decide +kernel, by decide +kernel⟩, List.mem_of_getElem? (i := 19) (by decide +kernel), List.mem_of_getElem? (i := 387) (by decide +kernel), List.mem_of_getElem? (i := 388) (by decide +kernel)⟩
theorem lw_p40 : lw_okq (⟨"NeedOnce", "areActs", "(III)Z"⟩, 7) := ⟨⟨by decide +kernel, by decide +kernel⟩, List.mem_of_getElem? (i := 11) (by decide +kernel), List.mem_of_getElem? (i := 399) (by decide +kernel), List.mem_of_getElem? (i := 400) (by decide +kernel)⟩
theorem lw_p41 : lw_okq (⟨"NeedOnce", "doActs", "(III)I"⟩, 7) := ⟨⟨by decide +kernel, by decide +kernel⟩, List.mem_of_getElem? (i := 11) (by decide +kernel), List.mem_of_getElem? (i := 407) (by decide +kernel), List.mem_of_getElem? (i := 408) (by decide +kernel)⟩
theorem lw_p42 : lw_okq (⟨"NeedOnce", "canDo", "(II)Z"⟩, 7) := ⟨⟨by decide +kernel, by decide +kernel⟩, List.mem_of_getElem? (i := 11) (by decide +kernel), List.mem_of_getElem? (i := 411) (by decide +kernel), List.mem_of_getElem? (i := 412) (by decide +kernel)⟩
theorem lw_p43 : lw_okq (⟨"NeedOnce", "afterDay", "(I)I"⟩, 7) := ⟨⟨by decide +kernel, by decide +kernel⟩, List.mem_of_getElem? (i := 11) (by decide +kernel), List.mem_of_getElem? (i := 415) (by decide +kernel), List.mem_of_getElem? (i := 416) (by decide +kernel)⟩
theorem lw_p44 : lw_okq (⟨"NeedOnce$Cells", "howManyLinks", "()I"⟩, 16) := ⟨⟨by decide +kernel, by decide +kernel⟩, List.mem_of_getElem? (i := 19) (by decide +kernel), List.mem_of_getElem? (i := 419) (by decide +kernel), List.mem_of_getElem? (i := 420) (by decide +kernel)⟩
theorem lw_p45 : lw_okq (⟨"NeedOnce$Readings", "add", "(II)I"⟩, 3) := ⟨⟨by decide +kernel, by decide +kernel⟩, List.mem_of_getElem? (i := 112) (by decide +kernel), List.mem_of_getElem? (i := 427) (by decide +kernel), List.mem_of_getElem? (i := 428) (by decide +kernel)⟩
theorem lw_p46 : lw_okq (⟨"NeedOnce$Readings", "areSo", "(LNeedOnce$Cells;)Z"⟩, 3) := ⟨⟨by decide +kernel, by decide +kernel⟩, List.mem_of_getElem? (i := 112) (by decide +kernel), List.mem_of_getElem? (i := 439) (by decide +kernel), List.mem_of_getElem? (i := 440) (by decide +kernel)⟩
theorem lw_p47 : lw_okq (⟨"NeedOnce$Cells", "costFromAsleep", "(I)I"⟩, 16) := ⟨⟨by decide +kernel, by decide +kernel⟩, List.mem_of_getElem? (i := 19) (by decide +kernel), List.mem_of_getElem? (i := 443) (by decide +kernel), List.mem_of_getElem? (i := 444) (by decide +kernel)⟩
def lw_privs_3 : List (MethodName × Nat) := [(⟨"NeedOnce$Cells", "partOfPair", "(II)I"⟩, 16), (⟨"NeedOnce$Cells", "keep", "(II)V"⟩, 16), (⟨"NeedOnce$Cells", "howManyAwake", "()I"⟩, 16), (⟨"NeedOnce$Cells", "makeLinks", "()I"⟩, 16), (⟨"NeedOnce$Cells", "canBeLink", "(I)Z"⟩, 16), (⟨"NeedOnce$Cells", "heldBy", "(I)I"⟩, 16), (⟨"NeedOnce$Cells", "heldDirectly", "(I)I"⟩, 16), (⟨"NeedOnce$Cells", "timesPlainly", "(I)I"⟩, 16), (⟨"NeedOnce", "areActs", "(III)Z"⟩, 7), (⟨"NeedOnce", "doActs", "(III)I"⟩, 7), (⟨"NeedOnce", "canDo", "(II)Z"⟩, 7), (⟨"NeedOnce", "afterDay", "(I)I"⟩, 7), (⟨"NeedOnce$Cells", "howManyLinks", "()I"⟩, 16), (⟨"NeedOnce$Readings", "add", "(II)I"⟩, 3), (⟨"NeedOnce$Readings", "areSo", "(LNeedOnce$Cells;)Z"⟩, 3), (⟨"NeedOnce$Cells", "costFromAsleep", "(I)I"⟩, 16)]
theorem lw_r3 : ∀ q ∈ lw_privs_3, lw_okq q := List.forall_mem_cons.mpr ⟨lw_p32, List.forall_mem_cons.mpr ⟨lw_p33, List.forall_mem_cons.mpr ⟨lw_p34, List.forall_mem_cons.mpr ⟨lw_p35, List.forall_mem_cons.mpr ⟨lw_p36, List.forall_mem_cons.mpr ⟨lw_p37, List.forall_mem_cons.mpr ⟨lw_p38, List.forall_mem_cons.mpr ⟨lw_p39, List.forall_mem_cons.mpr ⟨lw_p40, List.forall_mem_cons.mpr ⟨lw_p41, List.forall_mem_cons.mpr ⟨lw_p42, List.forall_mem_cons.mpr ⟨lw_p43, List.forall_mem_cons.mpr ⟨lw_p44, List.forall_mem_cons.mpr ⟨lw_p45, List.forall_mem_cons.mpr ⟨lw_p46, List.forall_mem_cons.mpr ⟨lw_p47, fun _ h => absurd h List.not_mem_nil⟩⟩⟩⟩⟩⟩⟩⟩⟩⟩⟩⟩⟩⟩⟩⟩
theorem lw_p48 : lw_okq (⟨"NeedOnce", "timesItComesTo", "(III)I"⟩, 7) := ⟨⟨by decide +kernel, by decide +kernel⟩, List.mem_of_getElem? (i := 11) (by decide +kernel), List.mem_of_getElem? (i := 456) (by decide +kernel), List.mem_of_getElem? (i := 457) (by decide +kernel)⟩
theorem lw_p49 : lw_okq (⟨"NeedOnce$Sheets", "makeRow", "(III)V"⟩, 3) := ⟨⟨by decide +kernel, by decide +kernel⟩, List.mem_of_getElem? (i := 129) (by decide +kernel), List.mem_of_getElem? (i := 468) (by decide +kernel), List.mem_of_getElem? (i := 469) (by decide +kernel)⟩
theorem lw_p50 : lw_okq (⟨"NeedOnce$Sheets", "setCut", "(III)V"⟩, 3) := ⟨⟨by decide +kernel, by decide +kernel⟩, List.mem_of_getElem? (i := 129) (by decide +kernel), List.mem_of_getElem? (i := 481) (by decide +kernel), List.mem_of_getElem? (i := 482) (by decide +kernel)⟩
theorem lw_p51 : lw_okq (⟨"NeedOnce$Sheets", "moveFault", "(IIIII)I"⟩, 3) := ⟨⟨by decide +kernel, by decide +kernel⟩, List.mem_of_getElem? (i := 129) (by decide +kernel), List.mem_of_getElem? (i := 493) (by decide +kernel), List.mem_of_getElem? (i := 494) (by decide +kernel)⟩
theorem lw_p52 : lw_okq (⟨"NeedOnce$Sheets", "move", "(IIIII)V"⟩, 3) := ⟨⟨by decide +kernel, by decide +kernel⟩, List.mem_of_getElem? (i := 129) (by decide +kernel), List.mem_of_getElem? (i := 497) (by decide +kernel), List.mem_of_getElem? (i := 498) (by decide +kernel)⟩
theorem lw_p53 : lw_okq (⟨"NeedOnce", "tellDouble", "(I)I"⟩, 7) := ⟨⟨by decide +kernel, by decide +kernel⟩, List.mem_of_getElem? (i := 11) (by decide +kernel), List.mem_of_getElem? (i := 506) (by decide +kernel), List.mem_of_getElem? (i := 507) (by decide +kernel)⟩
theorem lw_p54 : lw_okq (⟨"NeedOnce", "leaveTrace", "(I)V"⟩, 7) := ⟨⟨by decide +kernel, by decide +kernel⟩, List.mem_of_getElem? (i := 11) (by decide +kernel), List.mem_of_getElem? (i := 510) (by decide +kernel), List.mem_of_getElem? (i := 511) (by decide +kernel)⟩
theorem lw_p55 : lw_okq (⟨"NeedOnce", "tellDear", "(I)I"⟩, 7) := ⟨⟨by decide +kernel, by decide +kernel⟩, List.mem_of_getElem? (i := 11) (by decide +kernel), List.mem_of_getElem? (i := 514) (by decide +kernel), List.mem_of_getElem? (i := 515) (by decide +kernel)⟩
theorem lw_p56 : lw_okq (⟨"NeedOnce", "tellPlain", "(I)I"⟩, 7) := ⟨⟨by decide +kernel, by decide +kernel⟩, List.mem_of_getElem? (i := 11) (by decide +kernel), List.mem_of_getElem? (i := 518) (by decide +kernel), List.mem_of_getElem? (i := 519) (by decide +kernel)⟩
theorem lw_p57 : lw_okq (⟨"NeedOnceModel", "refused", "(I)I"⟩, 49) := ⟨⟨by decide +kernel, by decide +kernel⟩, List.mem_of_getElem? (i := 542) (by decide +kernel), List.mem_of_getElem? (i := 707) (by decide +kernel), List.mem_of_getElem? (i := 708) (by decide +kernel)⟩
theorem lw_p58 : lw_okq (⟨"NeedOnceModel", "cellsBarred", "(IIIJ)I"⟩, 49) := ⟨⟨by decide +kernel, by decide +kernel⟩, List.mem_of_getElem? (i := 542) (by decide +kernel), List.mem_of_getElem? (i := 712) (by decide +kernel), List.mem_of_getElem? (i := 713) (by decide +kernel)⟩
theorem lw_p59 : lw_okq (⟨"NeedOnceModel", "failed", "(I)I"⟩, 49) := ⟨⟨by decide +kernel, by decide +kernel⟩, List.mem_of_getElem? (i := 542) (by decide +kernel), List.mem_of_getElem? (i := 716) (by decide +kernel), List.mem_of_getElem? (i := 717) (by decide +kernel)⟩
theorem lw_p60 : lw_okq (⟨"NeedOnceModel", "readsCells", "(II)Z"⟩, 49) := ⟨⟨by decide +kernel, by decide +kernel⟩, List.mem_of_getElem? (i := 542) (by decide +kernel), List.mem_of_getElem? (i := 723) (by decide +kernel), List.mem_of_getElem? (i := 724) (by decide +kernel)⟩
theorem lw_p61 : lw_okq (⟨"NeedOnceModel", "codeAt", "(II)I"⟩, 49) := ⟨⟨by decide +kernel, by decide +kernel⟩, List.mem_of_getElem? (i := 542) (by decide +kernel), List.mem_of_getElem? (i := 727) (by decide +kernel), List.mem_of_getElem? (i := 728) (by decide +kernel)⟩
theorem lw_p62 : lw_okq (⟨"NeedOnceModel", "readsCell", "(II)Z"⟩, 49) := ⟨⟨by decide +kernel, by decide +kernel⟩, List.mem_of_getElem? (i := 542) (by decide +kernel), List.mem_of_getElem? (i := 731) (by decide +kernel), List.mem_of_getElem? (i := 732) (by decide +kernel)⟩
theorem lw_p63 : lw_okq (⟨"NeedOnceModel", "readsForm", "(II)Z"⟩, 49) := ⟨⟨by decide +kernel, by decide +kernel⟩, List.mem_of_getElem? (i := 542) (by decide +kernel), List.mem_of_getElem? (i := 736) (by decide +kernel), List.mem_of_getElem? (i := 737) (by decide +kernel)⟩
def lw_privs_4 : List (MethodName × Nat) := [(⟨"NeedOnce", "timesItComesTo", "(III)I"⟩, 7), (⟨"NeedOnce$Sheets", "makeRow", "(III)V"⟩, 3), (⟨"NeedOnce$Sheets", "setCut", "(III)V"⟩, 3), (⟨"NeedOnce$Sheets", "moveFault", "(IIIII)I"⟩, 3), (⟨"NeedOnce$Sheets", "move", "(IIIII)V"⟩, 3), (⟨"NeedOnce", "tellDouble", "(I)I"⟩, 7), (⟨"NeedOnce", "leaveTrace", "(I)V"⟩, 7), (⟨"NeedOnce", "tellDear", "(I)I"⟩, 7), (⟨"NeedOnce", "tellPlain", "(I)I"⟩, 7), (⟨"NeedOnceModel", "refused", "(I)I"⟩, 49), (⟨"NeedOnceModel", "cellsBarred", "(IIIJ)I"⟩, 49), (⟨"NeedOnceModel", "failed", "(I)I"⟩, 49), (⟨"NeedOnceModel", "readsCells", "(II)Z"⟩, 49), (⟨"NeedOnceModel", "codeAt", "(II)I"⟩, 49), (⟨"NeedOnceModel", "readsCell", "(II)Z"⟩, 49), (⟨"NeedOnceModel", "readsForm", "(II)Z"⟩, 49)]
theorem lw_r4 : ∀ q ∈ lw_privs_4, lw_okq q := List.forall_mem_cons.mpr ⟨lw_p48, List.forall_mem_cons.mpr ⟨lw_p49, List.forall_mem_cons.mpr ⟨lw_p50, List.forall_mem_cons.mpr ⟨lw_p51, List.forall_mem_cons.mpr ⟨lw_p52, List.forall_mem_cons.mpr ⟨lw_p53, List.forall_mem_cons.mpr ⟨lw_p54, List.forall_mem_cons.mpr ⟨lw_p55, List.forall_mem_cons.mpr ⟨lw_p56, List.forall_mem_cons.mpr ⟨lw_p57, List.forall_mem_cons.mpr ⟨lw_p58, List.forall_mem_cons.mpr ⟨lw_p59, List.forall_mem_cons.mpr ⟨lw_p60, List.forall_mem_cons.mpr ⟨lw_p61, List.forall_mem_cons.mpr ⟨lw_p62, List.forall_mem_cons.mpr ⟨lw_p63, fun _ h => absurd h List.not_mem_nil⟩⟩⟩⟩⟩⟩⟩⟩⟩⟩⟩⟩⟩⟩⟩⟩
theorem lw_p64 : lw_okq (⟨"NeedOnceModel", "looseOne", "()I"⟩, 49) := ⟨⟨by decide +kernel, by decide +kernel⟩, List.mem_of_getElem? (i := 542) (by decide +kernel), List.mem_of_getElem? (i := 747) (by decide +kernel), List.mem_of_getElem? (i := 748) (by decide +kernel)⟩
theorem lw_p65 : lw_okq (⟨"NeedOnceModel", "allAsleep", "()V"⟩, 49) := ⟨⟨by decide +kernel, by decide +kernel⟩, List.mem_of_getElem? (i := 542) (by decide +kernel), List.mem_of_getElem? (i := 751) (by decide +kernel), List.mem_of_getElem? (i := 752) (by decide +kernel)⟩
theorem lw_p66 : lw_okq (⟨"NeedOnceModel", "noOne", "(I)Z"⟩, 49) := ⟨⟨by decide +kernel, by decide +kernel⟩, List.mem_of_getElem? (i := 542) (by decide +kernel), List.mem_of_getElem? (i := 759) (by decide +kernel), List.mem_of_getElem? (i := 760) (by decide +kernel)⟩
theorem lw_p67 : lw_okq (⟨"NeedOnceModel", "cost", "(I)I"⟩, 49) := ⟨⟨by decide +kernel, by decide +kernel⟩, List.mem_of_getElem? (i := 542) (by decide +kernel), List.mem_of_getElem? (i := 765) (by decide +kernel), List.mem_of_getElem? (i := 766) (by decide +kernel)⟩
theorem lw_p68 : lw_okq (⟨"NeedOnceModel", "needs", "(I)I"⟩, 49) := ⟨⟨by decide +kernel, by decide +kernel⟩, List.mem_of_getElem? (i := 542) (by decide +kernel), List.mem_of_getElem? (i := 780) (by decide +kernel), List.mem_of_getElem? (i := 781) (by decide +kernel)⟩
theorem lw_p69 : lw_okq (⟨"NeedOnceModel", "wants", "(I)V"⟩, 49) := ⟨⟨by decide +kernel, by decide +kernel⟩, List.mem_of_getElem? (i := 542) (by decide +kernel), List.mem_of_getElem? (i := 784) (by decide +kernel), List.mem_of_getElem? (i := 785) (by decide +kernel)⟩
theorem lw_p70 : lw_okq (⟨"NeedOnceModel", "isOn", "(I)Z"⟩, 49) := ⟨⟨by decide +kernel, by decide +kernel⟩, List.mem_of_getElem? (i := 542) (by decide +kernel), List.mem_of_getElem? (i := 788) (by decide +kernel), List.mem_of_getElem? (i := 789) (by decide +kernel)⟩
theorem lw_p71 : lw_okq (⟨"NeedOnceModel", "goesOn", "()V"⟩, 49) := ⟨⟨by decide +kernel, by decide +kernel⟩, List.mem_of_getElem? (i := 542) (by decide +kernel), List.mem_of_getElem? (i := 792) (by decide +kernel), List.mem_of_getElem? (i := 793) (by decide +kernel)⟩
theorem lw_p72 : lw_okq (⟨"NeedOnceModel", "begins", "(I)V"⟩, 49) := ⟨⟨by decide +kernel, by decide +kernel⟩, List.mem_of_getElem? (i := 542) (by decide +kernel), List.mem_of_getElem? (i := 796) (by decide +kernel), List.mem_of_getElem? (i := 797) (by decide +kernel)⟩
theorem lw_p73 : lw_okq (⟨"NeedOnceModel", "isDone", "(I)V"⟩, 49) := ⟨⟨by decide +kernel, by decide +kernel⟩, List.mem_of_getElem? (i := 542) (by decide +kernel), List.mem_of_getElem? (i := 800) (by decide +kernel), List.mem_of_getElem? (i := 801) (by decide +kernel)⟩
theorem lw_p74 : lw_okq (⟨"NeedOnceModel", "hasFirst", "(I)V"⟩, 49) := ⟨⟨by decide +kernel, by decide +kernel⟩, List.mem_of_getElem? (i := 542) (by decide +kernel), List.mem_of_getElem? (i := 804) (by decide +kernel), List.mem_of_getElem? (i := 805) (by decide +kernel)⟩
theorem lw_p75 : lw_okq (⟨"NeedOnceModel", "hasSecond", "(I)V"⟩, 49) := ⟨⟨by decide +kernel, by decide +kernel⟩, List.mem_of_getElem? (i := 542) (by decide +kernel), List.mem_of_getElem? (i := 808) (by decide +kernel), List.mem_of_getElem? (i := 809) (by decide +kernel)⟩
theorem lw_p76 : lw_okq (⟨"NeedOnceModel", "awakeOnes", "()I"⟩, 49) := ⟨⟨by decide +kernel, by decide +kernel⟩, List.mem_of_getElem? (i := 542) (by decide +kernel), List.mem_of_getElem? (i := 825) (by decide +kernel), List.mem_of_getElem? (i := 826) (by decide +kernel)⟩
theorem lw_p77 : lw_okq (⟨"NeedOnceModel", "nextToShorten", "()I"⟩, 49) := ⟨⟨by decide +kernel, by decide +kernel⟩, List.mem_of_getElem? (i := 542) (by decide +kernel), List.mem_of_getElem? (i := 833) (by decide +kernel), List.mem_of_getElem? (i := 834) (by decide +kernel)⟩
theorem lw_p78 : lw_okq (⟨"NeedOnceModel", "heldBy", "(I)I"⟩, 49) := ⟨⟨by decide +kernel, by decide +kernel⟩, List.mem_of_getElem? (i := 542) (by decide +kernel), List.mem_of_getElem? (i := 842) (by decide +kernel), List.mem_of_getElem? (i := 843) (by decide +kernel)⟩
theorem lw_p79 : lw_okq (⟨"NeedOnceModel", "holds", "(I)I"⟩, 49) := ⟨⟨by decide +kernel, by decide +kernel⟩, List.mem_of_getElem? (i := 542) (by decide +kernel), List.mem_of_getElem? (i := 846) (by decide +kernel), List.mem_of_getElem? (i := 847) (by decide +kernel)⟩
def lw_privs_5 : List (MethodName × Nat) := [(⟨"NeedOnceModel", "looseOne", "()I"⟩, 49), (⟨"NeedOnceModel", "allAsleep", "()V"⟩, 49), (⟨"NeedOnceModel", "noOne", "(I)Z"⟩, 49), (⟨"NeedOnceModel", "cost", "(I)I"⟩, 49), (⟨"NeedOnceModel", "needs", "(I)I"⟩, 49), (⟨"NeedOnceModel", "wants", "(I)V"⟩, 49), (⟨"NeedOnceModel", "isOn", "(I)Z"⟩, 49), (⟨"NeedOnceModel", "goesOn", "()V"⟩, 49), (⟨"NeedOnceModel", "begins", "(I)V"⟩, 49), (⟨"NeedOnceModel", "isDone", "(I)V"⟩, 49), (⟨"NeedOnceModel", "hasFirst", "(I)V"⟩, 49), (⟨"NeedOnceModel", "hasSecond", "(I)V"⟩, 49), (⟨"NeedOnceModel", "awakeOnes", "()I"⟩, 49), (⟨"NeedOnceModel", "nextToShorten", "()I"⟩, 49), (⟨"NeedOnceModel", "heldBy", "(I)I"⟩, 49), (⟨"NeedOnceModel", "holds", "(I)I"⟩, 49)]
theorem lw_r5 : ∀ q ∈ lw_privs_5, lw_okq q := List.forall_mem_cons.mpr ⟨lw_p64, List.forall_mem_cons.mpr ⟨lw_p65, List.forall_mem_cons.mpr ⟨lw_p66, List.forall_mem_cons.mpr ⟨lw_p67, List.forall_mem_cons.mpr ⟨lw_p68, List.forall_mem_cons.mpr ⟨lw_p69, List.forall_mem_cons.mpr ⟨lw_p70, List.forall_mem_cons.mpr ⟨lw_p71, List.forall_mem_cons.mpr ⟨lw_p72, List.forall_mem_cons.mpr ⟨lw_p73, List.forall_mem_cons.mpr ⟨lw_p74, List.forall_mem_cons.mpr ⟨lw_p75, List.forall_mem_cons.mpr ⟨lw_p76, List.forall_mem_cons.mpr ⟨lw_p77, List.forall_mem_cons.mpr ⟨lw_p78, List.forall_mem_cons.mpr ⟨lw_p79, fun _ h => absurd h List.not_mem_nil⟩⟩⟩⟩⟩⟩⟩⟩⟩⟩⟩⟩⟩⟩⟩⟩
theorem lw_p80 : lw_okq (⟨"NeedOnceModel", "keeps", "()V"⟩, 49) := ⟨⟨by decide +kernel, by decide +kernel⟩, List.mem_of_getElem? (i := 542) (by decide +kernel), List.mem_of_getElem? (i := 864) (by decide +kernel), List.mem_of_getElem? (i := 865) (by decide +kernel)⟩
theorem lw_p81 : lw_okq (⟨"NeedOnceModel", "dayOf", "(III)I"⟩, 49) := ⟨⟨by decide +kernel, by decide +kernel⟩, List.mem_of_getElem? (i := 542) (by decide +kernel), List.mem_of_getElem? (i := 868) (by decide +kernel), List.mem_of_getElem? (i := 869) (by decide +kernel)⟩
theorem lw_p82 : lw_okq (⟨"NeedOnceModel", "doesPair", "(II)Z"⟩, 49) := ⟨⟨by decide +kernel, by decide +kernel⟩, List.mem_of_getElem? (i := 542) (by decide +kernel), List.mem_of_getElem? (i := 872) (by decide +kernel), List.mem_of_getElem? (i := 873) (by decide +kernel)⟩
theorem lw_p83 : lw_okq (⟨"NeedOnceModel", "needsOnly", "(I)Z"⟩, 49) := ⟨⟨by decide +kernel, by decide +kernel⟩, List.mem_of_getElem? (i := 542) (by decide +kernel), List.mem_of_getElem? (i := 876) (by decide +kernel), List.mem_of_getElem? (i := 877) (by decide +kernel)⟩
theorem lw_p84 : lw_okq (⟨"NeedOnceModel", "links", "()I"⟩, 49) := ⟨⟨by decide +kernel, by decide +kernel⟩, List.mem_of_getElem? (i := 542) (by decide +kernel), List.mem_of_getElem? (i := 883) (by decide +kernel), List.mem_of_getElem? (i := 884) (by decide +kernel)⟩
theorem lw_p85 : lw_okq (⟨"NeedOnceModel", "bringsBack", "()V"⟩, 49) := ⟨⟨by decide +kernel, by decide +kernel⟩, List.mem_of_getElem? (i := 542) (by decide +kernel), List.mem_of_getElem? (i := 887) (by decide +kernel), List.mem_of_getElem? (i := 888) (by decide +kernel)⟩
theorem lw_p86 : lw_okq (⟨"NeedOnceModel", "areSo", "()Z"⟩, 49) := ⟨⟨by decide +kernel, by decide +kernel⟩, List.mem_of_getElem? (i := 542) (by decide +kernel), List.mem_of_getElem? (i := 904) (by decide +kernel), List.mem_of_getElem? (i := 905) (by decide +kernel)⟩
theorem lw_p87 : lw_okq (⟨"NeedOnceModel", "noCell", "(II)I"⟩, 49) := ⟨⟨by decide +kernel, by decide +kernel⟩, List.mem_of_getElem? (i := 542) (by decide +kernel), List.mem_of_getElem? (i := 936) (by decide +kernel), List.mem_of_getElem? (i := 937) (by decide +kernel)⟩
theorem lw_p88 : lw_okq (⟨"NeedOnceModel", "failedLong", "(I)J"⟩, 49) := ⟨⟨by decide +kernel, by decide +kernel⟩, List.mem_of_getElem? (i := 542) (by decide +kernel), List.mem_of_getElem? (i := 944) (by decide +kernel), List.mem_of_getElem? (i := 945) (by decide +kernel)⟩
theorem lw_p89 : lw_okq (⟨"NeedOnceModel", "traced", "(I)V"⟩, 49) := ⟨⟨by decide +kernel, by decide +kernel⟩, List.mem_of_getElem? (i := 542) (by decide +kernel), List.mem_of_getElem? (i := 956) (by decide +kernel), List.mem_of_getElem? (i := 957) (by decide +kernel)⟩
def lw_privs_6 : List (MethodName × Nat) := [(⟨"NeedOnceModel", "keeps", "()V"⟩, 49), (⟨"NeedOnceModel", "dayOf", "(III)I"⟩, 49), (⟨"NeedOnceModel", "doesPair", "(II)Z"⟩, 49), (⟨"NeedOnceModel", "needsOnly", "(I)Z"⟩, 49), (⟨"NeedOnceModel", "links", "()I"⟩, 49), (⟨"NeedOnceModel", "bringsBack", "()V"⟩, 49), (⟨"NeedOnceModel", "areSo", "()Z"⟩, 49), (⟨"NeedOnceModel", "noCell", "(II)I"⟩, 49), (⟨"NeedOnceModel", "failedLong", "(I)J"⟩, 49), (⟨"NeedOnceModel", "traced", "(I)V"⟩, 49)]
theorem lw_r6 : ∀ q ∈ lw_privs_6, lw_okq q := List.forall_mem_cons.mpr ⟨lw_p80, List.forall_mem_cons.mpr ⟨lw_p81, List.forall_mem_cons.mpr ⟨lw_p82, List.forall_mem_cons.mpr ⟨lw_p83, List.forall_mem_cons.mpr ⟨lw_p84, List.forall_mem_cons.mpr ⟨lw_p85, List.forall_mem_cons.mpr ⟨lw_p86, List.forall_mem_cons.mpr ⟨lw_p87, List.forall_mem_cons.mpr ⟨lw_p88, List.forall_mem_cons.mpr ⟨lw_p89, fun _ h => absurd h List.not_mem_nil⟩⟩⟩⟩⟩⟩⟩⟩⟩⟩
def lw_privs : List (MethodName × Nat) := lw_privs_1 ++ (lw_privs_2 ++ (lw_privs_3 ++ (lw_privs_4 ++ (lw_privs_5 ++ (lw_privs_6)))))
def lw_tbl : List Cond := k2_sels lw_privs ++ tables_1
theorem lw_privs_ok : ∀ q ∈ lw_privs, lw_okq q := by
  show ∀ q ∈ lw_privs_1 ++ (lw_privs_2 ++ (lw_privs_3 ++ (lw_privs_4 ++ (lw_privs_5 ++ (lw_privs_6))))), lw_okq q
  exact List.forall_mem_append.mpr ⟨lw_r1, List.forall_mem_append.mpr ⟨lw_r2, List.forall_mem_append.mpr ⟨lw_r3, List.forall_mem_append.mpr ⟨lw_r4, List.forall_mem_append.mpr ⟨lw_r5, lw_r6⟩⟩⟩⟩⟩
-- ===== end of PART A; then your names; then what follows =====
end
section
/-! ===== 01: a world of fixed shape, its memory, the judgement nk_Sim, contracts nk_Ct ===== -/
/-- what the cells of a world hold: cell, slot -/
abbrev nk_M : Type := Nat → Nat → Int32
def nk_upA (μ : nk_M) (k : Nat) (f : Nat → Int32) : nk_M := fun a => if a = k then f else μ a
def nk_up (μ : nk_M) (k j : Nat) (v : Int32) : nk_M := nk_upA μ k (upd (μ k) j v)
/-- a cell's shape: an object (class, its fields: an int, or a fixed reference), a row of numbers (type, length), a row of rows (length, the first row's cell) -/
abbrev nk_S : Type := (Nat × List (Option Nat)) ⊕ ((FieldType × Nat) ⊕ (Nat × Nat))
/-- a static table: class, name, descriptor, type, length, contents -/
abbrev nk_T : Type := String × String × String × FieldType × Nat × (Nat → Int32)
/-- a world's description: classes, shapes, how many cells, static tables -/
abbrev nk_D : Type := List vw_C × (Nat → nk_S) × Nat × List nk_T
/-- where a world lies: class numbers, addresses, array classes, addresses of static tables, the cells that may change -/
abbrev nk_V : Type := va_G × (Nat → Nat) × (Nat → ClassId) × (Nat → Nat) × (Nat → Prop)
/-- the machine in a method -/
abbrev nk_X : Type := Program × Launch × Env × Room × State × MethodId × Array Value × List Frame × Method × Code
abbrev nk_r (G : nk_V) (k : Nat) : Value := .ref (G.2.1 k)
def nk_fv (G : nk_V) (f : Nat → Int32) (fl : List (Option Nat)) (j : Nat) : Value := match fl.getD j none with
  | none => .int (f j)
  | some r => .ref (G.2.1 r)
def nk_flds (G : nk_V) (fl : List (Option Nat)) (f : Nat → Int32) : List Value := (List.range fl.length).map (nk_fv G f fl)
def nk_cell (G : nk_V) (s : nk_S) (k : Nat) (f : Nat → Int32) : va_E := match s with
  | .inl q => .inr (q.1, nk_flds G q.2 f)
  | .inr (.inl q) => .inl (G.2.2.1 k, q.2, .inl f)
  | .inr (.inr q) => .inl (G.2.2.1 k, q.1, .inr (.inr (.inr (.inr (fun i => some (G.2.1 (q.2 + i)))))))
def nk_wl (w : nk_D) (G : nk_V) (μ : nk_M) : va_W := (List.range w.2.2.1).map (fun k => (G.2.1 k, nk_cell G (w.2.1 k) k (μ k)))
def nk_ty (s : nk_S) : FieldType := match s with
  | .inl _ => .int
  | .inr (.inl q) => q.1
  | .inr (.inr _) => .array .int
def nk_tys (w : nk_D) (G : nk_V) : List (ClassId × FieldType) := (List.range w.2.2.1).map (fun k => (G.2.2.1 k, nk_ty (w.2.1 k)))
theorem nk_wl_get {w : nk_D} {G : nk_V} {μ : nk_M} {k : Nat} (h : k < w.2.2.1) : (nk_wl w G μ)[k]? = some (G.2.1 k, nk_cell G (w.2.1 k) k (μ k)) := by
  simp [nk_wl, h]
theorem nk_tys_get {w : nk_D} {G : nk_V} {k : Nat} (h : k < w.2.2.1) : (nk_tys w G)[k]? = some (G.2.2.1 k, nk_ty (w.2.1 k)) := by
  simp [nk_tys, h]
theorem nk_wl_set {w : nk_D} {G : nk_V} {μ : nk_M} {k : Nat} (f : Nat → Int32) : (nk_wl w G μ).set k (G.2.1 k, nk_cell G (w.2.1 k) k f) = nk_wl w G (nk_upA μ k f) := by
  apply List.ext_getElem?
  intro j
  rw [List.getElem?_set]
  by_cases hj : k = j
  · subst hj
    by_cases hk : k < w.2.2.1
    · rw [nk_wl_get hk]
      simp [nk_wl, hk, nk_upA]
    · simp [nk_wl, hk]
  · simp only [hj, if_false]
    by_cases hk : j < w.2.2.1
    · rw [nk_wl_get hk, nk_wl_get hk]
      simp [nk_upA, Ne.symm hj]
    · simp [nk_wl, hk]
theorem nk_wl_D {w : nk_D} {G : nk_V} {μ : nk_M} {A : Nat → Prop} (h1 : ∀ i j, i < w.2.2.1 → j < w.2.2.1 → G.2.1 i = G.2.1 j → i = j) (h2 : ∀ k, k < w.2.2.1 → A (G.2.1 k)) : va_D A (nk_wl w G μ) := by
  have g : ∀ (k : Nat) (q : Nat × va_E), (nk_wl w G μ)[k]? = some q → k < w.2.2.1 ∧ q.1 = G.2.1 k := fun k q hq => by
    by_cases hk : k < w.2.2.1
    · rw [nk_wl_get hk] at hq
      cases hq
      exact ⟨hk, rfl⟩
    · simp [nk_wl, hk] at hq
  refine ⟨fun i j p q hi hj hpq => ?_, fun k q hk => ?_⟩
  · obtain ⟨a1, a2⟩ := g i p hi
    obtain ⟨b1, b2⟩ := g j q hj
    exact h1 i j a1 b1 (by rw [← a2, ← b2]; exact hpq)
  · obtain ⟨a1, a2⟩ := g k q hk
    rw [a2]
    exact h2 k a1
theorem nk_flds_get {G : nk_V} {fl : List (Option Nat)} {f : Nat → Int32} {j : Nat} {q : Option Nat} (h : fl[j]? = some q) : (nk_flds G fl f)[j]? = some (nk_fv G f fl j) := by
  have hj : j < fl.length := (List.getElem?_eq_some_iff.mp h).1
  simp [nk_flds, hj]
theorem nk_flds_i {G : nk_V} {fl : List (Option Nat)} {f : Nat → Int32} {j : Nat} (h : fl[j]? = some none) : (nk_flds G fl f)[j]? = some (.int (f j)) := by
  rw [nk_flds_get h]
  simp [nk_fv, List.getD, h]
theorem nk_flds_r {G : nk_V} {fl : List (Option Nat)} {f : Nat → Int32} {j r : Nat} (h : fl[j]? = some (some r)) : (nk_flds G fl f)[j]? = some (.ref (G.2.1 r)) := by
  rw [nk_flds_get h]
  simp [nk_fv, List.getD, h]
theorem nk_flds_set {G : nk_V} {fl : List (Option Nat)} {f : Nat → Int32} {j : Nat} (h : fl[j]? = some none) (v : Int32) : (nk_flds G fl f).set j (.int v) = nk_flds G fl (upd f j v) := by
  apply List.ext_getElem?
  intro i
  rw [List.getElem?_set]
  by_cases hj : j = i
  · subst hj
    have hl : j < fl.length := (List.getElem?_eq_some_iff.mp h).1
    rw [nk_flds_i (f := upd f j v) h]
    simp [nk_flds, hl, upd]
  · simp only [hj, if_false]
    by_cases hk : i < fl.length
    · simp only [nk_flds, List.getElem?_map, List.getElem?_range hk, Option.map_some]
      unfold nk_fv
      cases fl.getD i none <;> simp [upd, Ne.symm hj]
    · simp [nk_flds, hk]
/-- the tables' good words -/
def nk_GT : List Cond := lw_tbl.filter goodWord
def nk_nest : Cond → Bool
  | .fieldLinkNest .. => true
  | .methodLinkNest .. => true
  | _ => false
def nk_K (w : nk_D) (G : nk_V) (U : State) : Prop :=
  va_K G.1 w.1 (nk_tys w G) U ∧ (∀ c ∈ tables_1, nk_nest c = true → va_Nw c U) ∧
  (∀ (i : Nat) (q : nk_T), w.2.2.2[i]? = some q → va_Z q.1 q.2.1 q.2.2.1 (.ref (G.2.2.2.1 i)) G.2.2.2.2 U U.heap ∧ va_T q.2.2.2.1 (G.2.2.2.1 i) q.2.2.2.2.1 (fun j => .int (q.2.2.2.2.2 j)) G.2.2.2.2 U U.heap) ∧
  (∀ i j, i < w.2.2.1 → j < w.2.2.1 → G.2.1 i = G.2.1 j → i = j) ∧ ∀ k, k < w.2.2.1 → G.2.2.2.2 (G.2.1 k)
theorem nk_Nw_warm {c : Cond} (hc : nk_nest c = true) {s U : State} (hW : s.WarmedH U.vm) (h : va_Nw c s) : va_Nw c U := by
  cases c <;> first | exact va_Nw.warmF hW h | exact va_Nw.warmM hW h | cases hc
theorem nk_Nw_same {c : Cond} (hc : nk_nest c = true) {u U : State} (hv : u.vm = U.vm) (h : va_Nw c u) : va_Nw c U := by
  cases c <;> first | exact va_Nw.same rfl hv h | cases hc
theorem nk_K.warm {w : nk_D} {G : nk_V} {s U : State} {H : Heap} {locs : List Loc} (hW : s.WarmedH U.vm) (hU : U.heap = H) (hS : va_S G.2.2.2.2 s.heap H locs) (h : nk_K w G s) : nk_K w G U := by
  obtain ⟨h1, h2, h3, h4, h5⟩ := h
  refine ⟨va_K.moved hW.alike h1, fun c hc hn => nk_Nw_warm hn hW (h2 c hc hn), fun i q hq => ?_, h4, h5⟩
  obtain ⟨a, b⟩ := h3 i q hq
  rw [hU]
  exact ⟨(va_Z.moved hW.alike a).kept hS.2.1, (va_T.moved hW.alike b).kept hS.2.1⟩
theorem nk_K.calling {w : nk_D} {G : nk_V} {U : State} {g : JFrame} {mk : MethodId} {a : Array Value} (h : nk_K w G U) : nk_K w G (U.calling g mk a) := by
  obtain ⟨h1, h2, h3, h4, h5⟩ := h
  refine ⟨va_K.moved (u := U) (U := U.calling g mk a) (Vm.Alike.refl U.vm) h1, fun c hc hn => nk_Nw_same hn (u := U) (U := U.calling g mk a) rfl (h2 c hc hn), fun i q hq => ?_, h4, h5⟩
  obtain ⟨x, y⟩ := h3 i q hq
  exact ⟨va_Z.moved (u := U) (U := U.calling g mk a) (Vm.Alike.refl U.vm) x, va_T.moved (u := U) (U := U.calling g mk a) (Vm.Alike.refl U.vm) y⟩
/-- the world stands in a state -/
def nk_W (w : nk_D) (G : nk_V) (μ : nk_M) (U : State) : Prop := va_P G.1 w.1 (nk_wl w G μ) U.heap ∧ nk_K w G U
theorem nk_blind {w : nk_D} {G : nk_V} {μ : nk_M} {av : List Value} : FrameBlind (va_Pc av (nk_W w G μ)) := fun _ _ _ _ h => ⟨h.1, h.2.1, h.2.2.calling⟩
/-- a method's end: this answer, this memory, nothing else changed -/
def nk_Q (w : nk_D) (G : nk_V) (o : Option Value) (μ' : nk_M) : Array Value → State → Outcome → State → Prop := fun _ st oc t => (oc = .returned o ∧ nk_W w G μ' t) ∧ va_F G.2.2.2.2 st t
def nk_rm (h : Nat) : Room := { frames := h, cells := 0, slots := 0, locals := 64 * h }
/-- a method's contract at a call's height: with these arguments and this memory it comes to what F says, if F says something -/
def nk_Ct {α : Type} (l : Launch) (w : nk_D) (G : nk_V) (h : Nat) (y : MethodName) (b : ByteArray) (nL : Nat) (ret : Option FieldType) (inj : α → Option Value) (av : List Value) (μ : nk_M) (F : Option (α × nk_M)) : Prop :=
  ∀ (v : α) (μ' : nk_M), F = some (v, μ') → Met l y (Cond.code y b nL ret :: nk_GT) (nk_rm h) (va_Pc av (nk_W w G μ)) (nk_Q w G (inj v) μ') 0 0 G.2.2.2.2
/-- what holds throughout a method's body -/
def nk_C (own : String) (cc : ByteArray) (nL : Nat) (w : nk_D) (G : nk_V) (X : nk_X) : Prop :=
  X.1.tables.exec = Jvm.exec ∧ X.2.2.2.2.2.2.2.2.2.code = cc ∧ X.2.2.2.2.2.2.2.2.2.maxLocals = nL ∧ X.2.2.2.2.1.vm.findClass own = some X.2.2.2.2.2.1.cls ∧ (∀ c ∈ nk_GT, c.before X.2.2.2.2.2.2.1 X.2.2.2.2.1 = true) ∧ nk_K w G X.2.2.2.2.1 ∧ X.2.2.2.2.2.2.2.2.1.locks = false
def nk_lv (ls : Array Slot) (nL : Nat) (lv : List Value) : Prop := ls.size = nL ∧ lv_wf ls ∧ ∀ (i : Nat) (v : Value), lv[i]? = some v → v ≠ .null → ls[i]? = some (.val v)
def nk_J (w : nk_D) (G : nk_V) (X : nk_X) (nL : Nat) (Q : State → Prop) (pc : Nat) (lv st : List Value) (μ : nk_M) : Prop :=
  ∀ (H : Heap) (locs : List Loc) (ls : Array Slot), va_P G.1 w.1 (nk_wl w G μ) H → va_S G.2.2.2.2 X.2.2.2.2.1.heap H locs → nk_lv ls nL lv →
    W X.1 X.2.1 X.2.2.1 X.2.2.2.1 X.2.2.2.2.1 X.2.2.2.2.2.1 X.2.2.2.2.2.2.1 X.2.2.2.2.2.2.2.1 X.2.2.2.2.2.2.2.2.1 X.2.2.2.2.2.2.2.2.2 H locs 0 0 Q (F0 X.2.2.2.2.2.1 pc ls st)
/-- from here the method comes to what F says, if F says something -/
def nk_Sim {α : Type} (w : nk_D) (G : nk_V) (X : nk_X) (nL : Nat) (inj : α → Option Value) (pc : Nat) (lv st : List Value) (μ : nk_M) (F : Option (α × nk_M)) : Prop :=
  ∀ (v : α) (μ' : nk_M), F = some (v, μ') → nk_J w G X nL (MQ X.2.2.2.2.2.2.2.1 (nk_Q w G (inj v) μ') X.2.2.2.2.2.2.1 X.2.2.2.2.1 0 0 G.2.2.2.2) pc lv st μ
/-- answers: an int, a long, none -/
abbrev nk_oi : Int32 → Option Value := fun x => some (.int x)
abbrev nk_ol : Int64 → Option Value := fun x => some (.long x)
abbrev nk_ov : Unit → Option Value := fun _ => none
/-- arguments as locals -/
def nk_lo : List Value → List Value
  | [] => []
  | v :: r => if v.category = 2 then v :: .null :: nk_lo r else v :: nk_lo r
theorem nk_lo_mem : ∀ (av : List Value) (j i : Nat) (v : Value), (nk_lo av)[i]? = some v → v ≠ .null → (j + i, v) ∈ lv_args j av
  | [], j, i, v, h, hn => by simp [nk_lo] at h
  | a :: r, j, i, v, h, hn => by
    unfold nk_lo at h
    unfold lv_args
    by_cases hc : a.category = 2
    · rw [if_pos hc] at h ⊢
      match i, h with
      | 0, h => simp at h; subst h; exact List.mem_cons_self
      | 1, h => simp at h; exact absurd h.symm hn
      | i + 2, h =>
        have := nk_lo_mem r (j + 2) i v (by simpa using h) hn
        rw [show j + 2 + i = j + (i + 2) by omega] at this
        exact List.mem_cons_of_mem _ this
    · rw [if_neg hc] at h ⊢
      match i, h with
      | 0, h => simp at h; subst h; exact List.mem_cons_self
      | i + 1, h =>
        have := nk_lo_mem r (j + 1) i v (by simpa using h) hn
        rw [show j + 1 + i = j + (i + 1) by omega] at this
        exact List.mem_cons_of_mem _ this
theorem nk_lv_of {av : List Value} {n k : Nat} {lv : List Value} (h : (lg_sl av).length ≤ n) (hl : lv = nk_lo av ++ List.replicate k .null) : nk_lv ((lg_sl av ++ List.replicate (n - (lg_sl av).length) Slot.unset).toArray) n lv := by
  obtain ⟨h1, h2, h3⟩ := lv_entry av h
  refine ⟨h1, h2, fun i v hi hn => ?_⟩
  subst hl
  by_cases hk : i < (nk_lo av).length
  · rw [List.getElem?_append_left hk] at hi
    have := nk_lo_mem av 0 i v hi hn
    rw [Nat.zero_add] at this
    exact h3 _ this
  · rw [List.getElem?_append_right (by omega)] at hi
    have := List.mem_of_getElem? hi
    rw [List.mem_replicate] at this
    exact absurd this.2 hn
theorem nk_ent {α : Type} {l : Launch} {w : nk_D} {G : nk_V} {h : Nat} {y : MethodName} {b : ByteArray} {nL : Nat} {ret : Option FieldType} {inj : α → Option Value} {av lv : List Value} {μ : nk_M} {F : Option (α × nk_M)} (k : Nat) (hy : plainName y.cls = true) (hn : (lg_sl av).length ≤ nL) (hl : lv = nk_lo av ++ List.replicate k .null)
    (body : ∀ X : nk_X, X.2.1 = l → X.2.2.2.1 = nk_rm h → nk_C y.cls b nL w G X → X.2.2.2.2.2.2.2.2.1.sig.returnType = ret → nk_Sim w G X nL inj 0 lv [] μ F) : nk_Ct l w G h y b nL ret inj av μ F := by
  intro v μ' hF
  refine Met.ofW (cc := b) (maxL := nL) (ret := ret) hy rfl ?_
  intro p e s m args below meth c s₁ B hml hv
  obtain ⟨rfl, hP, hK⟩ := hv
  have hts := atoms_spec (ws := Cond.code y b nL ret :: nk_GT) B.pre
  have hown : s.vm.findClass y.cls = some m.cls := findClass_of_methodNamed B.named
  rw [lg_entry_eq]
  exact body (p, l, e, nk_rm h, s, m, av.toArray, below, meth, c) rfl rfl ⟨B.exec, B.bytes, hml, hown, fun c hc => hts c (List.mem_cons_of_mem _ hc), hK, B.notSynchronized⟩ B.returns v μ' hF s.heap [] _ hP va_S.rf (nk_lv_of hn hl)
end
section
/-! ===== 02: rows, an instruction each, for nk_Sim ===== -/
section NKR
variable {own : String} {cc : ByteArray} {nL : Nat} {w : nk_D} {G : nk_V} {X : nk_X} {α : Type} {inj : α → Option Value} {pc : Nat} {lv st : List Value} {μ : nk_M} {F : Option (α × nk_M)}
theorem nk_none : nk_Sim w G X nL inj pc lv st μ none := fun _ _ e => by cases e
theorem nk_go {pc' : Nat} {st' : List Value} (h : ∀ (H : Heap) (locs : List Loc) (ls : Array Slot), va_P G.1 w.1 (nk_wl w G μ) H → va_S G.2.2.2.2 X.2.2.2.2.1.heap H locs → nk_lv ls nL lv → ∀ Q : State → Prop,
    W X.1 X.2.1 X.2.2.1 X.2.2.2.1 X.2.2.2.2.1 X.2.2.2.2.2.1 X.2.2.2.2.2.2.1 X.2.2.2.2.2.2.2.1 X.2.2.2.2.2.2.2.2.1 X.2.2.2.2.2.2.2.2.2 H locs 0 0 Q (F0 X.2.2.2.2.2.1 pc' ls st') →
    W X.1 X.2.1 X.2.2.1 X.2.2.2.1 X.2.2.2.2.1 X.2.2.2.2.2.1 X.2.2.2.2.2.2.1 X.2.2.2.2.2.2.2.1 X.2.2.2.2.2.2.2.2.1 X.2.2.2.2.2.2.2.2.2 H locs 0 0 Q (F0 X.2.2.2.2.2.1 pc ls st))
    (k : nk_Sim w G X nL inj pc' lv st' μ F) : nk_Sim w G X nL inj pc lv st μ F := fun v μ' e H locs ls hP hS hl => h H locs ls hP hS hl _ (k v μ' e H locs ls hP hS hl)
/-- a name for a computed number -/
def nk_nm {β : Type} (x : β) (K : β → Option (α × nk_M)) : Option (α × nk_M) := K x
theorem nk_named {x : Int32} {K : Int32 → Option (α × nk_M)} (h : ∀ z : Int32, nk_Sim w G X nL inj pc lv (.int z :: st) μ (K z)) : nk_Sim w G X nL inj pc lv (.int x :: st) μ (nk_nm x K) := h x
theorem nk_namedL {x : Int64} {K : Int64 → Option (α × nk_M)} (h : ∀ z : Int64, nk_Sim w G X nL inj pc lv (.long z :: st) μ (K z)) : nk_Sim w G X nL inj pc lv (.long x :: st) μ (nk_nm x K) := h x
theorem nk_iconst (C : nk_C own cc nL w G X) {n : Int} {v : Int32} (hd : decode cc pc = .ok (.iconst n, 1)) (hv : Int32.ofInt n = v) (h : nk_Sim w G X nL inj (pc + 1) lv (.int v :: st) μ F) : nk_Sim w G X nL inj pc lv st μ F := nk_go (fun _ _ _ _ _ _ _ q => lv_iconst C.1 C.2.1 hd hv q) h
theorem nk_bipush (C : nk_C own cc nL w G X) {n : Int} {v : Int32} (hd : decode cc pc = .ok (.bipush n, 2)) (hv : (Int8.ofInt n).toInt32 = v) (h : nk_Sim w G X nL inj (pc + 2) lv (.int v :: st) μ F) : nk_Sim w G X nL inj pc lv st μ F := nk_go (fun _ _ _ _ _ _ _ q => lv_bipush C.1 C.2.1 hd hv q) h
theorem nk_sipush (C : nk_C own cc nL w G X) {n : Int} {v : Int32} (hd : decode cc pc = .ok (.sipush n, 3)) (hv : (Int16.ofInt n).toInt32 = v) (h : nk_Sim w G X nL inj (pc + 3) lv (.int v :: st) μ F) : nk_Sim w G X nL inj pc lv st μ F := nk_go (fun _ _ _ _ _ _ _ q => lv_sipush C.1 C.2.1 hd hv q) h
theorem nk_lconst (C : nk_C own cc nL w G X) {n : Fin 2} {v : Int64} (hd : decode cc pc = .ok (.lconst n, 1)) (hv : Int64.ofNat (n : Nat) = v) (h : nk_Sim w G X nL inj (pc + 1) lv (.long v :: st) μ F) : nk_Sim w G X nL inj pc lv st μ F := nk_go (fun _ _ _ _ _ _ _ q => lv_lconst C.1 C.2.1 hd hv q) h
theorem nk_ldc2 (C : nk_C own cc nL w G X) {index : Nat} {v : Int64} (hc : Cond.constantLong own index v ∈ nk_GT) (hd : decode cc pc = .ok (.ldc2_w index, 3)) (h : nk_Sim w G X nL inj (pc + 3) lv (.long v :: st) μ F) : nk_Sim w G X nL inj pc lv st μ F := nk_go (fun _ _ _ _ _ _ _ q => lv_ldc2 C.1 C.2.1 C.2.2.2.1 (C.2.2.2.2.1 _ hc) hd q) h
theorem nk_iload_n (C : nk_C own cc nL w G X) {k : Fin 4} {i : Nat} {x : Int32} (hd : decode cc pc = .ok (.iload_n k, 1)) (hi : (k : Nat) = i) (hl : lv[i]? = some (.int x)) (h : nk_Sim w G X nL inj (pc + 1) lv (.int x :: st) μ F) : nk_Sim w G X nL inj pc lv st μ F := nk_go (fun _ _ _ _ _ hv _ q => lv_iload_n C.1 C.2.1 hd hi (hv.2.2 i _ hl (by intro e; cases e)) q) h
theorem nk_iload (C : nk_C own cc nL w G X) {i : Nat} {x : Int32} (hd : decode cc pc = .ok (.iload i, 2)) (hl : lv[i]? = some (.int x)) (h : nk_Sim w G X nL inj (pc + 2) lv (.int x :: st) μ F) : nk_Sim w G X nL inj pc lv st μ F := nk_go (fun _ _ _ _ _ hv _ q => lv_iload C.1 C.2.1 hd (hv.2.2 i _ hl (by intro e; cases e)) q) h
theorem nk_lload_n (C : nk_C own cc nL w G X) {k : Fin 4} {i : Nat} {x : Int64} (hd : decode cc pc = .ok (.lload_n k, 1)) (hi : (k : Nat) = i) (hl : lv[i]? = some (.long x)) (h : nk_Sim w G X nL inj (pc + 1) lv (.long x :: st) μ F) : nk_Sim w G X nL inj pc lv st μ F := nk_go (fun _ _ _ _ _ hv _ q => lv_lload_n C.1 C.2.1 hd hi (hv.2.2 i _ hl (by intro e; cases e)) q) h
theorem nk_lload (C : nk_C own cc nL w G X) {i : Nat} {x : Int64} (hd : decode cc pc = .ok (.lload i, 2)) (hl : lv[i]? = some (.long x)) (h : nk_Sim w G X nL inj (pc + 2) lv (.long x :: st) μ F) : nk_Sim w G X nL inj pc lv st μ F := nk_go (fun _ _ _ _ _ hv _ q => lv_lload C.1 C.2.1 hd (hv.2.2 i _ hl (by intro e; cases e)) q) h
theorem nk_aload_n (C : nk_C own cc nL w G X) {k : Fin 4} {i : Nat} {x : Nat} (hd : decode cc pc = .ok (.aload_n k, 1)) (hi : (k : Nat) = i) (hl : lv[i]? = some (.ref x)) (h : nk_Sim w G X nL inj (pc + 1) lv (.ref x :: st) μ F) : nk_Sim w G X nL inj pc lv st μ F := nk_go (fun _ _ _ _ _ hv _ q => lv_aload_n C.1 C.2.1 hd hi (hv.2.2 i _ hl (by intro e; cases e)) q) h
theorem nk_aload (C : nk_C own cc nL w G X) {i : Nat} {x : Nat} (hd : decode cc pc = .ok (.aload i, 2)) (hl : lv[i]? = some (.ref x)) (h : nk_Sim w G X nL inj (pc + 2) lv (.ref x :: st) μ F) : nk_Sim w G X nL inj pc lv st μ F := nk_go (fun _ _ _ _ _ hv _ q => lv_aload C.1 C.2.1 hd (hv.2.2 i _ hl (by intro e; cases e)) q) h
/-- no long stands just before slot i -/
def nk_c2 (lv : List Value) : Nat → Bool
  | 0 => true
  | i + 1 => match lv[i]? with
    | some v => v.category != 2
    | none => true
def nk_as (lv : List Value) : List (Nat × Value) := (List.range lv.length).filterMap (fun i => match lv[i]? with
  | some v => if v = .null then none else some (i, v)
  | none => none)
theorem nk_as_mem {lv : List Value} {i : Nat} {v : Value} : (i, v) ∈ nk_as lv ↔ lv[i]? = some v ∧ v ≠ .null := by
  unfold nk_as
  rw [List.mem_filterMap]
  constructor
  · rintro ⟨j, hj, h⟩
    cases hl : lv[j]? with
    | none => rw [hl] at h; cases h
    | some x =>
      rw [hl] at h
      by_cases hx : x = .null
      · simp [hx] at h
      · simp [hx] at h
        obtain ⟨rfl, rfl⟩ := h
        exact ⟨hl, hx⟩
  · rintro ⟨h, hn⟩
    refine ⟨i, ?_, ?_⟩
    · have := (List.getElem?_eq_some_iff.mp h).1
      simp [this]
    · simp [h, hn]
theorem nk_lv_has {ls : Array Slot} {lv : List Value} (h : nk_lv ls nL lv) : lv_has ls nL (nk_as lv) := ⟨h.1, h.2.1, fun q hq => by
  obtain ⟨i, v⟩ := q
  obtain ⟨a, b⟩ := nk_as_mem.mp hq
  exact h.2.2 i v a b⟩
theorem nk_lv_put {ls : Array Slot} {lv : List Value} {i : Nat} {x : Value} (h : lv_has ls nL ((i, x) :: (nk_as lv).filter (fun q => !(q.1 == i) && !(q.1 + 1 == i && q.2.category == 2)))) (hc : nk_c2 lv i = true) : nk_lv ls nL (lv.set i x) := by
  refine ⟨h.1, h.2.1, fun j v hj hn => ?_⟩
  rw [List.getElem?_set] at hj
  by_cases e : i = j
  · subst e
    rw [if_pos rfl] at hj
    by_cases hl : i < lv.length
    · rw [if_pos hl] at hj
      cases hj
      exact h.2.2 (i, x) List.mem_cons_self
    · rw [if_neg hl] at hj
      cases hj
  · rw [if_neg e] at hj
    refine h.2.2 (j, v) (List.mem_cons_of_mem _ (List.mem_filter.mpr ⟨nk_as_mem.mpr ⟨hj, hn⟩, ?_⟩))
    have e1 : (j == i) = false := by simp; omega
    by_cases e2 : j + 1 = i
    · subst e2
      simp only [nk_c2, hj] at hc
      simp_all
    · have e3 : (j + 1 == i) = false := by simp; omega
      simp [e1, e3]
theorem nk_lv_putL {ls : Array Slot} {lv : List Value} {i : Nat} {x : Value} (h : lv_has ls nL ((i, x) :: (nk_as lv).filter (fun q => !(q.1 == i) && (!(q.1 == i + 1) && !(q.1 + 1 == i && q.2.category == 2))))) (hc : nk_c2 lv i = true) : nk_lv ls nL ((lv.set i x).set (i + 1) .null) := by
  refine ⟨h.1, h.2.1, fun j v hj hn => ?_⟩
  rw [List.getElem?_set] at hj
  by_cases e0 : i + 1 = j
  · rw [if_pos e0] at hj
    by_cases hl : i + 1 < (lv.set i x).length
    · rw [if_pos hl] at hj
      cases hj
      exact absurd rfl hn
    · rw [if_neg hl] at hj
      cases hj
  rw [if_neg e0] at hj
  rw [List.getElem?_set] at hj
  by_cases e : i = j
  · subst e
    rw [if_pos rfl] at hj
    by_cases hl : i < lv.length
    · rw [if_pos hl] at hj
      cases hj
      exact h.2.2 (i, x) List.mem_cons_self
    · rw [if_neg hl] at hj
      cases hj
  · rw [if_neg e] at hj
    refine h.2.2 (j, v) (List.mem_cons_of_mem _ (List.mem_filter.mpr ⟨nk_as_mem.mpr ⟨hj, hn⟩, ?_⟩))
    have e1 : (j == i) = false := by simp; omega
    have e4 : (j == i + 1) = false := by simp; omega
    by_cases e2 : j + 1 = i
    · subst e2
      simp only [nk_c2, hj] at hc
      simp_all
    · have e3 : (j + 1 == i) = false := by simp; omega
      simp [e1, e3, e4]
theorem nk_istore_n (C : nk_C own cc nL w G X) {k : Fin 4} {i : Nat} {x : Int32} (hd : decode cc pc = .ok (.istore_n k, 1)) (hi : (k : Nat) = i) (hn : i < nL) (hc : nk_c2 lv i = true) (h : nk_Sim w G X nL inj (pc + 1) (lv.set i (.int x)) st μ F) : nk_Sim w G X nL inj pc lv (.int x :: st) μ F := fun v μ' e H locs ls hP hS hl => lv_istore_n C.1 C.2.1 hd hi (nk_lv_has hl) hn rfl (fun ls' h2 => h v μ' e H locs ls' hP hS (nk_lv_put h2 hc))
theorem nk_istore (C : nk_C own cc nL w G X) {i : Nat} {x : Int32} (hd : decode cc pc = .ok (.istore i, 2)) (hn : i < nL) (hc : nk_c2 lv i = true) (h : nk_Sim w G X nL inj (pc + 2) (lv.set i (.int x)) st μ F) : nk_Sim w G X nL inj pc lv (.int x :: st) μ F := fun v μ' e H locs ls hP hS hl => lv_istore C.1 C.2.1 hd (nk_lv_has hl) hn rfl (fun ls' h2 => h v μ' e H locs ls' hP hS (nk_lv_put h2 hc))
theorem nk_astore_n (C : nk_C own cc nL w G X) {k : Fin 4} {i : Nat} {x : Nat} (hd : decode cc pc = .ok (.astore_n k, 1)) (hi : (k : Nat) = i) (hn : i < nL) (hc : nk_c2 lv i = true) (h : nk_Sim w G X nL inj (pc + 1) (lv.set i (.ref x)) st μ F) : nk_Sim w G X nL inj pc lv (.ref x :: st) μ F := fun v μ' e H locs ls hP hS hl => lv_astore_n C.1 C.2.1 hd hi (nk_lv_has hl) hn rfl (fun ls' h2 => h v μ' e H locs ls' hP hS (nk_lv_put h2 hc))
theorem nk_astore (C : nk_C own cc nL w G X) {i : Nat} {x : Nat} (hd : decode cc pc = .ok (.astore i, 2)) (hn : i < nL) (hc : nk_c2 lv i = true) (h : nk_Sim w G X nL inj (pc + 2) (lv.set i (.ref x)) st μ F) : nk_Sim w G X nL inj pc lv (.ref x :: st) μ F := fun v μ' e H locs ls hP hS hl => lv_astore C.1 C.2.1 hd (nk_lv_has hl) hn rfl (fun ls' h2 => h v μ' e H locs ls' hP hS (nk_lv_put h2 hc))
theorem nk_lstore_n (C : nk_C own cc nL w G X) {k : Fin 4} {i : Nat} {x : Int64} (hd : decode cc pc = .ok (.lstore_n k, 1)) (hi : (k : Nat) = i) (hn : i + 1 < nL) (hc : nk_c2 lv i = true) (h : nk_Sim w G X nL inj (pc + 1) ((lv.set i (.long x)).set (i + 1) .null) st μ F) : nk_Sim w G X nL inj pc lv (.long x :: st) μ F := fun v μ' e H locs ls hP hS hl => lv_lstore_n C.1 C.2.1 hd hi (nk_lv_has hl) hn rfl (fun ls' h2 => h v μ' e H locs ls' hP hS (nk_lv_putL h2 hc))
theorem nk_lstore (C : nk_C own cc nL w G X) {i : Nat} {x : Int64} (hd : decode cc pc = .ok (.lstore i, 2)) (hn : i + 1 < nL) (hc : nk_c2 lv i = true) (h : nk_Sim w G X nL inj (pc + 2) ((lv.set i (.long x)).set (i + 1) .null) st μ F) : nk_Sim w G X nL inj pc lv (.long x :: st) μ F := fun v μ' e H locs ls hP hS hl => lv_lstore C.1 C.2.1 hd (nk_lv_has hl) hn rfl (fun ls' h2 => h v μ' e H locs ls' hP hS (nk_lv_putL h2 hc))
theorem nk_iinc (C : nk_C own cc nL w G X) {i : Nat} {n : Int} {x v0 : Int32} (hd : decode cc pc = .ok (.iinc i n, 3)) (hx : lv[i]? = some (.int x)) (hv : x + Int32.ofInt n = v0) (hn : i < nL) (hc : nk_c2 lv i = true) (h : nk_Sim w G X nL inj (pc + 3) (lv.set i (.int v0)) st μ F) : nk_Sim w G X nL inj pc lv st μ F := fun v μ' e H locs ls hP hS hl => by
  obtain ⟨k, hk⟩ := List.getElem?_of_mem (nk_as_mem.mpr ⟨hx, (by intro q; cases q)⟩ : (i, Value.int x) ∈ nk_as lv)
  exact lv_iinc C.1 C.2.1 hd (nk_lv_has hl) hk hv hn rfl (fun ls' h2 => h v μ' e H locs ls' hP hS (nk_lv_put h2 hc))
theorem nk_iadd (C : nk_C own cc nL w G X) {x y : Int32} (hd : decode cc pc = .ok (.iadd, 1)) (h : nk_Sim w G X nL inj (pc + 1) lv (.int (x + y) :: st) μ F) : nk_Sim w G X nL inj pc lv (.int y :: .int x :: st) μ F := nk_go (fun _ _ _ _ _ _ _ q => lv_iadd C.1 C.2.1 hd q) h
theorem nk_isub (C : nk_C own cc nL w G X) {x y : Int32} (hd : decode cc pc = .ok (.isub, 1)) (h : nk_Sim w G X nL inj (pc + 1) lv (.int (x - y) :: st) μ F) : nk_Sim w G X nL inj pc lv (.int y :: .int x :: st) μ F := nk_go (fun _ _ _ _ _ _ _ q => lv_isub C.1 C.2.1 hd q) h
theorem nk_imul (C : nk_C own cc nL w G X) {x y : Int32} (hd : decode cc pc = .ok (.imul, 1)) (h : nk_Sim w G X nL inj (pc + 1) lv (.int (x * y) :: st) μ F) : nk_Sim w G X nL inj pc lv (.int y :: .int x :: st) μ F := nk_go (fun _ _ _ _ _ _ _ q => lv_imul C.1 C.2.1 hd q) h
theorem nk_iand (C : nk_C own cc nL w G X) {x y : Int32} (hd : decode cc pc = .ok (.iand, 1)) (h : nk_Sim w G X nL inj (pc + 1) lv (.int (x &&& y) :: st) μ F) : nk_Sim w G X nL inj pc lv (.int y :: .int x :: st) μ F := nk_go (fun _ _ _ _ _ _ _ q => lv_iand C.1 C.2.1 hd q) h
theorem nk_ior (C : nk_C own cc nL w G X) {x y : Int32} (hd : decode cc pc = .ok (.ior, 1)) (h : nk_Sim w G X nL inj (pc + 1) lv (.int (x ||| y) :: st) μ F) : nk_Sim w G X nL inj pc lv (.int y :: .int x :: st) μ F := nk_go (fun _ _ _ _ _ _ _ q => lv_ior C.1 C.2.1 hd q) h
theorem nk_ishl (C : nk_C own cc nL w G X) {x y : Int32} (hd : decode cc pc = .ok (.ishl, 1)) (h : nk_Sim w G X nL inj (pc + 1) lv (.int (x <<< (y &&& 31)) :: st) μ F) : nk_Sim w G X nL inj pc lv (.int y :: .int x :: st) μ F := nk_go (fun _ _ _ _ _ _ _ q => lv_ishl C.1 C.2.1 hd q) h
theorem nk_ishr (C : nk_C own cc nL w G X) {x y : Int32} (hd : decode cc pc = .ok (.ishr, 1)) (h : nk_Sim w G X nL inj (pc + 1) lv (.int (x >>> (y &&& 31)) :: st) μ F) : nk_Sim w G X nL inj pc lv (.int y :: .int x :: st) μ F := nk_go (fun _ _ _ _ _ _ _ q => lv_ishr C.1 C.2.1 hd q) h
theorem nk_ladd (C : nk_C own cc nL w G X) {x y : Int64} (hd : decode cc pc = .ok (.ladd, 1)) (h : nk_Sim w G X nL inj (pc + 1) lv (.long (x + y) :: st) μ F) : nk_Sim w G X nL inj pc lv (.long y :: .long x :: st) μ F := nk_go (fun _ _ _ _ _ _ _ q => lv_ladd C.1 C.2.1 hd q) h
theorem nk_lsub (C : nk_C own cc nL w G X) {x y : Int64} (hd : decode cc pc = .ok (.lsub, 1)) (h : nk_Sim w G X nL inj (pc + 1) lv (.long (x - y) :: st) μ F) : nk_Sim w G X nL inj pc lv (.long y :: .long x :: st) μ F := nk_go (fun _ _ _ _ _ _ _ q => lv_lsub C.1 C.2.1 hd q) h
theorem nk_lmul (C : nk_C own cc nL w G X) {x y : Int64} (hd : decode cc pc = .ok (.lmul, 1)) (h : nk_Sim w G X nL inj (pc + 1) lv (.long (x * y) :: st) μ F) : nk_Sim w G X nL inj pc lv (.long y :: .long x :: st) μ F := nk_go (fun _ _ _ _ _ _ _ q => lv_lmul C.1 C.2.1 hd q) h
/-- a division: nothing is said where the divisor is 0 -/
def nk_Didiv (x y : Int32) (K : Int32 → Option (α × nk_M)) : Option (α × nk_M) := if y = 0 then none else K (x / y)
theorem nk_idiv (C : nk_C own cc nL w G X) {x y : Int32} {K : Int32 → Option (α × nk_M)} (hd : decode cc pc = .ok (.idiv, 1)) (h : ∀ z : Int32, nk_Sim w G X nL inj (pc + 1) lv (.int z :: st) μ (K z)) : nk_Sim w G X nL inj pc lv (.int y :: .int x :: st) μ (nk_Didiv x y K) := fun v μ' e H locs ls hP hS hl => by
  by_cases hy : y = 0
  · simp [nk_Didiv, hy] at e
  · simp only [nk_Didiv, hy, if_false] at e
    exact lv_idiv C.1 C.2.1 hd hy (h _ v μ' e H locs ls hP hS hl)
def nk_Direm (x y : Int32) (K : Int32 → Option (α × nk_M)) : Option (α × nk_M) := if y = 0 then none else K (x - x / y * y)
theorem nk_irem (C : nk_C own cc nL w G X) {x y : Int32} {K : Int32 → Option (α × nk_M)} (hd : decode cc pc = .ok (.irem, 1)) (h : ∀ z : Int32, nk_Sim w G X nL inj (pc + 1) lv (.int z :: st) μ (K z)) : nk_Sim w G X nL inj pc lv (.int y :: .int x :: st) μ (nk_Direm x y K) := fun v μ' e H locs ls hP hS hl => by
  by_cases hy : y = 0
  · simp [nk_Direm, hy] at e
  · simp only [nk_Direm, hy, if_false] at e
    exact lv_irem C.1 C.2.1 hd hy (h _ v μ' e H locs ls hP hS hl)
def nk_Dldiv (x y : Int64) (K : Int64 → Option (α × nk_M)) : Option (α × nk_M) := if y = 0 then none else K (x / y)
theorem nk_ldiv (C : nk_C own cc nL w G X) {x y : Int64} {K : Int64 → Option (α × nk_M)} (hd : decode cc pc = .ok (.ldiv, 1)) (h : ∀ z : Int64, nk_Sim w G X nL inj (pc + 1) lv (.long z :: st) μ (K z)) : nk_Sim w G X nL inj pc lv (.long y :: .long x :: st) μ (nk_Dldiv x y K) := fun v μ' e H locs ls hP hS hl => by
  by_cases hy : y = 0
  · simp [nk_Dldiv, hy] at e
  · simp only [nk_Dldiv, hy, if_false] at e
    exact lv_ldiv C.1 C.2.1 hd hy (h _ v μ' e H locs ls hP hS hl)
def nk_Dlrem (x y : Int64) (K : Int64 → Option (α × nk_M)) : Option (α × nk_M) := if y = 0 then none else K (x - x / y * y)
theorem nk_lrem (C : nk_C own cc nL w G X) {x y : Int64} {K : Int64 → Option (α × nk_M)} (hd : decode cc pc = .ok (.lrem, 1)) (h : ∀ z : Int64, nk_Sim w G X nL inj (pc + 1) lv (.long z :: st) μ (K z)) : nk_Sim w G X nL inj pc lv (.long y :: .long x :: st) μ (nk_Dlrem x y K) := fun v μ' e H locs ls hP hS hl => by
  by_cases hy : y = 0
  · simp [nk_Dlrem, hy] at e
  · simp only [nk_Dlrem, hy, if_false] at e
    exact lv_lrem C.1 C.2.1 hd hy (h _ v μ' e H locs ls hP hS hl)
theorem nk_i2l (C : nk_C own cc nL w G X) {x : Int32} (hd : decode cc pc = .ok (.i2l, 1)) (h : nk_Sim w G X nL inj (pc + 1) lv (.long (x.toInt64) :: st) μ F) : nk_Sim w G X nL inj pc lv (.int x :: st) μ F := nk_go (fun _ _ _ _ _ _ _ q => lv_i2l C.1 C.2.1 hd rfl q) h
theorem nk_i2b (C : nk_C own cc nL w G X) {x : Int32} (hd : decode cc pc = .ok (.i2b, 1)) (h : nk_Sim w G X nL inj (pc + 1) lv (.int (x.toInt8.toInt32) :: st) μ F) : nk_Sim w G X nL inj pc lv (.int x :: st) μ F := nk_go (fun _ _ _ _ _ _ _ q => lv_i2b C.1 C.2.1 hd rfl q) h
theorem nk_i2s (C : nk_C own cc nL w G X) {x : Int32} (hd : decode cc pc = .ok (.i2s, 1)) (h : nk_Sim w G X nL inj (pc + 1) lv (.int (x.toInt16.toInt32) :: st) μ F) : nk_Sim w G X nL inj pc lv (.int x :: st) μ F := nk_go (fun _ _ _ _ _ _ _ q => lv_i2s C.1 C.2.1 hd rfl q) h
theorem nk_lcmp (C : nk_C own cc nL w G X) {x y : Int64} (hd : decode cc pc = .ok (.lcmp, 1)) (h : nk_Sim w G X nL inj (pc + 1) lv (.int (lg_cmp x y) :: st) μ F) : nk_Sim w G X nL inj pc lv (.long y :: .long x :: st) μ F := nk_go (fun _ _ _ _ _ _ _ q => W.lcmp C.1 C.2.1 hd q) h
theorem nk_dup (C : nk_C own cc nL w G X) {va : Value} (hd : decode cc pc = .ok (.dup, 1)) (hva : va.category = 1) (h : nk_Sim w G X nL inj (pc + 1) lv (va :: va :: st) μ F) : nk_Sim w G X nL inj pc lv (va :: st) μ F := nk_go (fun _ _ _ _ _ _ _ q => lv_dup C.1 C.2.1 hd hva q) h
theorem nk_pop (C : nk_C own cc nL w G X) {va : Value} (hd : decode cc pc = .ok (.pop, 1)) (hva : va.category = 1) (h : nk_Sim w G X nL inj (pc + 1) lv st μ F) : nk_Sim w G X nL inj pc lv (va :: st) μ F := nk_go (fun _ _ _ _ _ _ _ q => lv_pop C.1 C.2.1 hd hva q) h
theorem nk_goto (C : nk_C own cc nL w G X) {off : Int} {tgt : Nat} (hd : decode cc pc = .ok (.goto off, 3)) (ht : (pc : Int) + off = (tgt : Int)) (h : nk_Sim w G X nL inj tgt lv st μ F) : nk_Sim w G X nL inj pc lv st μ F := nk_go (fun _ _ _ _ _ _ _ q => lv_goto C.1 C.2.1 hd ht q) h
theorem nk_if_eq (C : nk_C own cc nL w G X) {x : Int32} {off : Int} {tgt : Nat} {F1 F2 : Option (α × nk_M)} (hd : decode cc pc = .ok (.ifCond .eq off, 3)) (ht : (pc : Int) + off = (tgt : Int)) (h1 : nk_Sim w G X nL inj tgt lv st μ F1) (h2 : nk_Sim w G X nL inj (pc + 3) lv st μ F2) : nk_Sim w G X nL inj pc lv (.int x :: st) μ (if x = 0 then F1 else F2) := fun v μ' e H locs ls hP hS hl =>
  lv_if_eq C.1 C.2.1 hd ht (fun c => h1 v μ' (by rw [if_pos c] at e; exact e) H locs ls hP hS hl) (fun c => h2 v μ' (by rw [if_neg c] at e; exact e) H locs ls hP hS hl)
theorem nk_if_lt (C : nk_C own cc nL w G X) {x : Int32} {off : Int} {tgt : Nat} {F1 F2 : Option (α × nk_M)} (hd : decode cc pc = .ok (.ifCond .lt off, 3)) (ht : (pc : Int) + off = (tgt : Int)) (h1 : nk_Sim w G X nL inj tgt lv st μ F1) (h2 : nk_Sim w G X nL inj (pc + 3) lv st μ F2) : nk_Sim w G X nL inj pc lv (.int x :: st) μ (if x < 0 then F1 else F2) := fun v μ' e H locs ls hP hS hl =>
  lv_if_lt C.1 C.2.1 hd ht (fun c => h1 v μ' (by rw [if_pos c] at e; exact e) H locs ls hP hS hl) (fun c => h2 v μ' (by rw [if_neg c] at e; exact e) H locs ls hP hS hl)
theorem nk_if_ge (C : nk_C own cc nL w G X) {x : Int32} {off : Int} {tgt : Nat} {F1 F2 : Option (α × nk_M)} (hd : decode cc pc = .ok (.ifCond .ge off, 3)) (ht : (pc : Int) + off = (tgt : Int)) (h1 : nk_Sim w G X nL inj tgt lv st μ F1) (h2 : nk_Sim w G X nL inj (pc + 3) lv st μ F2) : nk_Sim w G X nL inj pc lv (.int x :: st) μ (if 0 ≤ x then F1 else F2) := fun v μ' e H locs ls hP hS hl =>
  lv_if_ge C.1 C.2.1 hd ht (fun c => h1 v μ' (by rw [if_pos c] at e; exact e) H locs ls hP hS hl) (fun c => h2 v μ' (by rw [if_neg c] at e; exact e) H locs ls hP hS hl)
theorem nk_if_gt (C : nk_C own cc nL w G X) {x : Int32} {off : Int} {tgt : Nat} {F1 F2 : Option (α × nk_M)} (hd : decode cc pc = .ok (.ifCond .gt off, 3)) (ht : (pc : Int) + off = (tgt : Int)) (h1 : nk_Sim w G X nL inj tgt lv st μ F1) (h2 : nk_Sim w G X nL inj (pc + 3) lv st μ F2) : nk_Sim w G X nL inj pc lv (.int x :: st) μ (if 0 < x then F1 else F2) := fun v μ' e H locs ls hP hS hl =>
  lv_if_gt C.1 C.2.1 hd ht (fun c => h1 v μ' (by rw [if_pos c] at e; exact e) H locs ls hP hS hl) (fun c => h2 v μ' (by rw [if_neg c] at e; exact e) H locs ls hP hS hl)
theorem nk_if_le (C : nk_C own cc nL w G X) {x : Int32} {off : Int} {tgt : Nat} {F1 F2 : Option (α × nk_M)} (hd : decode cc pc = .ok (.ifCond .le off, 3)) (ht : (pc : Int) + off = (tgt : Int)) (h1 : nk_Sim w G X nL inj tgt lv st μ F1) (h2 : nk_Sim w G X nL inj (pc + 3) lv st μ F2) : nk_Sim w G X nL inj pc lv (.int x :: st) μ (if x ≤ 0 then F1 else F2) := fun v μ' e H locs ls hP hS hl =>
  lv_if_le C.1 C.2.1 hd ht (fun c => h1 v μ' (by rw [if_pos c] at e; exact e) H locs ls hP hS hl) (fun c => h2 v μ' (by rw [if_neg c] at e; exact e) H locs ls hP hS hl)
theorem nk_if_ne (C : nk_C own cc nL w G X) {x : Int32} {off : Int} {tgt : Nat} {F1 F2 : Option (α × nk_M)} (hd : decode cc pc = .ok (.ifCond .ne off, 3)) (ht : (pc : Int) + off = (tgt : Int)) (h1 : nk_Sim w G X nL inj tgt lv st μ F1) (h2 : nk_Sim w G X nL inj (pc + 3) lv st μ F2) : nk_Sim w G X nL inj pc lv (.int x :: st) μ (if x = 0 then F2 else F1) := fun v μ' e H locs ls hP hS hl =>
  lv_if_ne C.1 C.2.1 hd ht (fun c => h1 v μ' (by rw [if_neg c] at e; exact e) H locs ls hP hS hl) (fun c => h2 v μ' (by rw [if_pos c] at e; exact e) H locs ls hP hS hl)
theorem nk_icmp_eq (C : nk_C own cc nL w G X) {x y : Int32} {off : Int} {tgt : Nat} {F1 F2 : Option (α × nk_M)} (hd : decode cc pc = .ok (.if_icmp .eq off, 3)) (ht : (pc : Int) + off = (tgt : Int)) (h1 : nk_Sim w G X nL inj tgt lv st μ F1) (h2 : nk_Sim w G X nL inj (pc + 3) lv st μ F2) : nk_Sim w G X nL inj pc lv (.int y :: .int x :: st) μ (if x = y then F1 else F2) := fun v μ' e H locs ls hP hS hl =>
  lv_icmp_eq C.1 C.2.1 hd ht (fun c => h1 v μ' (by rw [if_pos c] at e; exact e) H locs ls hP hS hl) (fun c => h2 v μ' (by rw [if_neg c] at e; exact e) H locs ls hP hS hl)
theorem nk_icmp_lt (C : nk_C own cc nL w G X) {x y : Int32} {off : Int} {tgt : Nat} {F1 F2 : Option (α × nk_M)} (hd : decode cc pc = .ok (.if_icmp .lt off, 3)) (ht : (pc : Int) + off = (tgt : Int)) (h1 : nk_Sim w G X nL inj tgt lv st μ F1) (h2 : nk_Sim w G X nL inj (pc + 3) lv st μ F2) : nk_Sim w G X nL inj pc lv (.int y :: .int x :: st) μ (if x < y then F1 else F2) := fun v μ' e H locs ls hP hS hl =>
  lv_icmp_lt C.1 C.2.1 hd ht (fun c => h1 v μ' (by rw [if_pos c] at e; exact e) H locs ls hP hS hl) (fun c => h2 v μ' (by rw [if_neg c] at e; exact e) H locs ls hP hS hl)
theorem nk_icmp_ge (C : nk_C own cc nL w G X) {x y : Int32} {off : Int} {tgt : Nat} {F1 F2 : Option (α × nk_M)} (hd : decode cc pc = .ok (.if_icmp .ge off, 3)) (ht : (pc : Int) + off = (tgt : Int)) (h1 : nk_Sim w G X nL inj tgt lv st μ F1) (h2 : nk_Sim w G X nL inj (pc + 3) lv st μ F2) : nk_Sim w G X nL inj pc lv (.int y :: .int x :: st) μ (if y ≤ x then F1 else F2) := fun v μ' e H locs ls hP hS hl =>
  lv_icmp_ge C.1 C.2.1 hd ht (fun c => h1 v μ' (by rw [if_pos c] at e; exact e) H locs ls hP hS hl) (fun c => h2 v μ' (by rw [if_neg c] at e; exact e) H locs ls hP hS hl)
theorem nk_icmp_gt (C : nk_C own cc nL w G X) {x y : Int32} {off : Int} {tgt : Nat} {F1 F2 : Option (α × nk_M)} (hd : decode cc pc = .ok (.if_icmp .gt off, 3)) (ht : (pc : Int) + off = (tgt : Int)) (h1 : nk_Sim w G X nL inj tgt lv st μ F1) (h2 : nk_Sim w G X nL inj (pc + 3) lv st μ F2) : nk_Sim w G X nL inj pc lv (.int y :: .int x :: st) μ (if y < x then F1 else F2) := fun v μ' e H locs ls hP hS hl =>
  lv_icmp_gt C.1 C.2.1 hd ht (fun c => h1 v μ' (by rw [if_pos c] at e; exact e) H locs ls hP hS hl) (fun c => h2 v μ' (by rw [if_neg c] at e; exact e) H locs ls hP hS hl)
theorem nk_icmp_le (C : nk_C own cc nL w G X) {x y : Int32} {off : Int} {tgt : Nat} {F1 F2 : Option (α × nk_M)} (hd : decode cc pc = .ok (.if_icmp .le off, 3)) (ht : (pc : Int) + off = (tgt : Int)) (h1 : nk_Sim w G X nL inj tgt lv st μ F1) (h2 : nk_Sim w G X nL inj (pc + 3) lv st μ F2) : nk_Sim w G X nL inj pc lv (.int y :: .int x :: st) μ (if x ≤ y then F1 else F2) := fun v μ' e H locs ls hP hS hl =>
  lv_icmp_le C.1 C.2.1 hd ht (fun c => h1 v μ' (by rw [if_pos c] at e; exact e) H locs ls hP hS hl) (fun c => h2 v μ' (by rw [if_neg c] at e; exact e) H locs ls hP hS hl)
theorem nk_icmp_ne (C : nk_C own cc nL w G X) {x y : Int32} {off : Int} {tgt : Nat} {F1 F2 : Option (α × nk_M)} (hd : decode cc pc = .ok (.if_icmp .ne off, 3)) (ht : (pc : Int) + off = (tgt : Int)) (h1 : nk_Sim w G X nL inj tgt lv st μ F1) (h2 : nk_Sim w G X nL inj (pc + 3) lv st μ F2) : nk_Sim w G X nL inj pc lv (.int y :: .int x :: st) μ (if x = y then F2 else F1) := fun v μ' e H locs ls hP hS hl =>
  lv_icmp_ne C.1 C.2.1 hd ht (fun c => h1 v μ' (by rw [if_neg c] at e; exact e) H locs ls hP hS hl) (fun c => h2 v μ' (by rw [if_pos c] at e; exact e) H locs ls hP hS hl)
/-- a switch: one arm after the other -/
theorem nk_tbl (C : nk_C own cc nL w G X) {dflt lo hi : Int} {offs : Array Int} {len : Nat} {x : Int32} (k : Int32) {off : Int} {tgt : Nat} {F1 F2 : Option (α × nk_M)} (hd : decode cc pc = .ok (.tableswitch dflt lo hi offs, len)) (h0 : ¬ k.toInt < lo ∧ ¬ hi < k.toInt ∧ offs[(k.toInt - lo).toNat]? = some off ∧ (pc : Int) + off = (tgt : Int)) (h1 : nk_Sim w G X nL inj tgt lv st μ F1) (h2 : x ≠ k → nk_Sim w G X nL inj pc lv (.int x :: st) μ F2) : nk_Sim w G X nL inj pc lv (.int x :: st) μ (if x = k then F1 else F2) := fun v μ' e H locs ls hP hS hl => by
  by_cases hx : x = k
  · rw [if_pos hx] at e
    subst hx
    exact lv_tableIn C.1 C.2.1 hd h0.1 h0.2.1 h0.2.2.1 h0.2.2.2 (h1 v μ' e H locs ls hP hS hl)
  · rw [if_neg hx] at e
    exact h2 hx v μ' e H locs ls hP hS hl
theorem nk_tblD (C : nk_C own cc nL w G X) {dflt lo hi : Int} {offs : Array Int} {len : Nat} {x : Int32} {tgt : Nat} (hd : decode cc pc = .ok (.tableswitch dflt lo hi offs, len)) (hx : x.toInt < lo ∨ hi < x.toInt ∨ offs[(x.toInt - lo).toNat]? = some dflt) (ht : (pc : Int) + dflt = (tgt : Int)) (h1 : nk_Sim w G X nL inj tgt lv st μ F) : nk_Sim w G X nL inj pc lv (.int x :: st) μ F := nk_go (fun _ _ _ _ _ _ _ q => by
  by_cases a : x.toInt < lo ∨ hi < x.toInt
  · exact lv_tableOut C.1 C.2.1 hd a ht q
  · have b : ¬ x.toInt < lo ∧ ¬ hi < x.toInt := ⟨fun z => a (Or.inl z), fun z => a (Or.inr z)⟩
    rcases hx with z | z | z
    · exact absurd z b.1
    · exact absurd z b.2
    · exact lv_tableIn C.1 C.2.1 hd b.1 b.2 z ht q) h1
theorem nk_lku (C : nk_C own cc nL w G X) {dflt : Int} {ps : Array (Int × Int)} {len : Nat} {x : Int32} (k : Int32) {off : Int} {tgt : Nat} {F1 F2 : Option (α × nk_M)} (hd : decode cc pc = .ok (.lookupswitch dflt ps, len)) (h0 : (ps.toList.zip (ps.toList.drop 1)).all (fun (a, next) => a.1 < next.1) = true ∧ Op.lookupswitch.offset ps.toList dflt k.toInt = off ∧ (pc : Int) + off = (tgt : Int)) (h1 : nk_Sim w G X nL inj tgt lv st μ F1) (h2 : x ≠ k → nk_Sim w G X nL inj pc lv (.int x :: st) μ F2) : nk_Sim w G X nL inj pc lv (.int x :: st) μ (if x = k then F1 else F2) := fun v μ' e H locs ls hP hS hl => by
  by_cases hx : x = k
  · rw [if_pos hx] at e
    subst hx
    exact lv_lookup C.1 C.2.1 hd h0.1 h0.2.1 h0.2.2 (h1 v μ' e H locs ls hP hS hl)
  · rw [if_neg hx] at e
    exact h2 hx v μ' e H locs ls hP hS hl
theorem nk_lkuD (C : nk_C own cc nL w G X) {dflt : Int} {ps : Array (Int × Int)} {len : Nat} {x : Int32} {tgt : Nat} (hd : decode cc pc = .ok (.lookupswitch dflt ps, len)) (h0 : (ps.toList.zip (ps.toList.drop 1)).all (fun (a, next) => a.1 < next.1) = true) (hx : Op.lookupswitch.offset ps.toList dflt x.toInt = dflt) (ht : (pc : Int) + dflt = (tgt : Int)) (h1 : nk_Sim w G X nL inj tgt lv st μ F) : nk_Sim w G X nL inj pc lv (.int x :: st) μ F := nk_go (fun _ _ _ _ _ _ _ q => lv_lookup C.1 C.2.1 hd h0 hx ht q) h1
theorem nk_neI {x k : Int32} (h : x ≠ k) : x.toInt ≠ k.toInt := fun e => h (Int32.toInt_inj.mp e)
end NKR
end
section
/-! ===== 03: rows for fields, rows of numbers, static tables, calls, returns ===== -/
def nk_fa (own : String) (index : Nat) (w : nk_D) (ci j : Nat) : Prop := ∃ (Cn : String) (T : u_T) (n : Nat), (∀ c ∈ u_ws Cn T n, c ∈ nk_GT) ∧ w.1[ci]? = some (Cn, T, n) ∧ j < n ∧ (Cond.fieldLink own index (T j).1 (T j).2.1 (T j).2.2.1 ∈ nk_GT ∨ ∃ host, Cond.fieldLinkNest own index (T j).1 (T j).2.1 (T j).2.2.1 host ∈ tables_1)
def nk_fp (own : String) (index : Nat) (w : nk_D) (ci j : Nat) (ty : FieldType) : Prop := ∃ (Cn : String) (T : u_T) (n : Nat) (ty0 : Nat → FieldType), (∀ c ∈ u_ws Cn T n, c ∈ nk_GT) ∧ w.1[ci]? = some (Cn, T, n) ∧ j < n ∧ (Cond.fieldLink own index (T j).1 (T j).2.1 (T j).2.2.1 ∈ nk_GT ∨ ∃ host, Cond.fieldLinkNest own index (T j).1 (T j).2.1 (T j).2.2.1 host ∈ tables_1) ∧
  (∀ k, k < n → parseFieldDescriptor (T k).2.2.1 = some (ty0 k)) ∧ (∀ a, a < n → ∀ b, b < n → a ≠ b → (T a).2.1 ≠ (T b).2.1) ∧ (T j).2.2.2 = false ∧ ty0 j = ty
section NKM
variable {own : String} {cc : ByteArray} {nL : Nat} {w : nk_D} {G : nk_V} {X : nk_X} {α : Type} {inj : α → Option Value} {pc : Nat} {lv st : List Value} {μ : nk_M} {F : Option (α × nk_M)}
theorem nk_get0 (C : nk_C own cc nL w G X) {index ci j k : Nat} {fl : List (Option Nat)} {v : Value} (hfa : nk_fa own index w ci j) (hk : k < w.2.2.1) (hs : w.2.1 k = .inl (ci, fl)) (hv : (nk_flds G fl (μ k))[j]? = some v) (hd : decode cc pc = .ok (.getfield index, 3)) (h : nk_Sim w G X nL inj (pc + 3) lv (v :: st) μ F) : nk_Sim w G X nL inj pc lv (nk_r G k :: st) μ F := by
  obtain ⟨Cn, T, n, h1, h2, h3, h4⟩ := hfa
  refine nk_go (fun H locs ls hP hS hl Q q => ?_) h
  have he : (nk_wl w G μ)[k]? = some (G.2.1 k, .inr (ci, nk_flds G fl (μ k))) := by rw [nk_wl_get hk, hs]; rfl
  rcases h4 with h4 | ⟨host, h4⟩
  · exact va_get C.1 C.2.1 C.2.2.2.2.1 h1 C.2.2.2.1 C.2.2.2.2.2.1.1 hP k he h2 j h3 (C.2.2.2.2.1 _ h4) (fun x hx => hx) hv hd q
  · exact va_getN C.1 C.2.1 C.2.2.2.2.1 h1 C.2.2.2.1 C.2.2.2.2.2.1.1 hP k he h2 j h3 (va_Nw.use rfl (C.2.2.2.2.2.1.2.1 _ h4 rfl)) (fun x hx => hx) hv hd q
theorem nk_getI (C : nk_C own cc nL w G X) {index ci j k : Nat} {fl : List (Option Nat)} (hfa : nk_fa own index w ci j) (hk : k < w.2.2.1) (hs : w.2.1 k = .inl (ci, fl)) (hf : fl[j]? = some none) (hd : decode cc pc = .ok (.getfield index, 3)) (h : nk_Sim w G X nL inj (pc + 3) lv (.int (μ k j) :: st) μ F) : nk_Sim w G X nL inj pc lv (nk_r G k :: st) μ F := nk_get0 C hfa hk hs (nk_flds_i hf) hd h
theorem nk_getR (C : nk_C own cc nL w G X) {index ci j k r : Nat} {fl : List (Option Nat)} (hfa : nk_fa own index w ci j) (hk : k < w.2.2.1) (hs : w.2.1 k = .inl (ci, fl)) (hf : fl[j]? = some (some r)) (hd : decode cc pc = .ok (.getfield index, 3)) (h : nk_Sim w G X nL inj (pc + 3) lv (nk_r G r :: st) μ F) : nk_Sim w G X nL inj pc lv (nk_r G k :: st) μ F := nk_get0 C hfa hk hs (nk_flds_r hf) hd h
def nk_pf (μ : nk_M) (k j : Nat) (v : Int32) (K : nk_M → Option (α × nk_M)) : Option (α × nk_M) := K (nk_up μ k j v)
theorem nk_hD (C : nk_C own cc nL w G X) : va_D G.2.2.2.2 (nk_wl w G μ) := nk_wl_D C.2.2.2.2.2.1.2.2.2.1 C.2.2.2.2.2.1.2.2.2.2
theorem nk_put (C : nk_C own cc nL w G X) {index ci j k : Nat} {fl : List (Option Nat)} {x : Int32} {ty : FieldType} {K : nk_M → Option (α × nk_M)} (hfp : nk_fp own index w ci j ty) (hk : k < w.2.2.1) (hs : w.2.1 k = .inl (ci, fl)) (hf : fl[j]? = some none) (hn : narrow ty (.int x) = .int x) (hfit : fits ty (.int x) = true) (hd : decode cc pc = .ok (.putfield index, 3)) (h : ∀ μ1 : nk_M, nk_Sim w G X nL inj (pc + 3) lv st μ1 (K μ1)) : nk_Sim w G X nL inj pc lv (.int x :: nk_r G k :: st) μ (nk_pf μ k j x K) := by
  obtain ⟨Cn, T, n, ty0, h1, h2, h3, h4, h5, h6, h7, h8⟩ := hfp
  intro v μ' e H locs ls hP hS hl
  have he : (nk_wl w G μ)[k]? = some (G.2.1 k, .inr (ci, nk_flds G fl (μ k))) := by rw [nk_wl_get hk, hs]; rfl
  have hpd : parseFieldDescriptor (T j).2.2.1 = some ty := by rw [h5 j h3, h8]
  have hlen : j < (nk_flds G fl (μ k)).length := by
    have := (List.getElem?_eq_some_iff.mp hf).1
    simpa [nk_flds] using this
  have hset : (nk_wl w G μ).set k (G.2.1 k, .inr (ci, (nk_flds G fl (μ k)).set j (.int x))) = nk_wl w G (nk_up μ k j x) := by
    rw [nk_flds_set hf]
    have := nk_wl_set (w := w) (G := G) (μ := μ) (k := k) (upd (μ k) j x)
    rw [hs] at this
    exact this
  have kk : ∀ (H1 : Heap) (locs1 : List Loc), va_P G.1 w.1 ((nk_wl w G μ).set k (G.2.1 k, .inr (ci, (nk_flds G fl (μ k)).set j (.int x)))) H1 → va_D G.2.2.2.2 ((nk_wl w G μ).set k (G.2.1 k, .inr (ci, (nk_flds G fl (μ k)).set j (.int x)))) → va_S G.2.2.2.2 X.2.2.2.2.1.heap H1 locs1 → W X.1 X.2.1 X.2.2.1 X.2.2.2.1 X.2.2.2.2.1 X.2.2.2.2.2.1 X.2.2.2.2.2.2.1 X.2.2.2.2.2.2.2.1 X.2.2.2.2.2.2.2.2.1 X.2.2.2.2.2.2.2.2.2 H1 locs1 0 0 (MQ X.2.2.2.2.2.2.2.1 (nk_Q w G (inj v) μ') X.2.2.2.2.2.2.1 X.2.2.2.2.1 0 0 G.2.2.2.2) (F0 X.2.2.2.2.2.1 (pc + 3) ls st) := fun H1 locs1 hP1 _ hS1 => by
    rw [hset] at hP1
    exact h _ v μ' e H1 locs1 ls hP1 hS1 hl
  rcases h4 with h4 | ⟨host, h4⟩
  · exact va_put C.1 C.2.1 C.2.2.2.2.1 h1 ty0 h5 h6 C.2.2.2.1 C.2.2.2.2.2.1.1 hP (nk_hD C) hS k he h2 j h3 (C.2.2.2.2.1 _ h4) (fun x hx => hx) h7 hpd hn hfit hlen hd kk
  · exact va_putN C.1 C.2.1 C.2.2.2.2.1 h1 ty0 h5 h6 C.2.2.2.1 C.2.2.2.2.2.1.1 hP (nk_hD C) hS k he h2 j h3 (va_Nw.use rfl (C.2.2.2.2.2.1.2.1 _ h4 rfl)) (fun x hx => hx) h7 hpd hn hfit hlen hd kk
theorem nk_putI (C : nk_C own cc nL w G X) {index ci j k : Nat} {fl : List (Option Nat)} {x : Int32} {K : nk_M → Option (α × nk_M)} (hfp : nk_fp own index w ci j .int) (hk : k < w.2.2.1) (hs : w.2.1 k = .inl (ci, fl)) (hf : fl[j]? = some none) (hd : decode cc pc = .ok (.putfield index, 3)) (h : ∀ μ1 : nk_M, nk_Sim w G X nL inj (pc + 3) lv st μ1 (K μ1)) : nk_Sim w G X nL inj pc lv (.int x :: nk_r G k :: st) μ (nk_pf μ k j x K) := nk_put C hfp hk hs hf rfl rfl hd h
/-- rows of numbers -/
def nk_ald (μ : nk_M) (k n : Nat) (i : Int32) (K : Int32 → Option (α × nk_M)) : Option (α × nk_M) := if i < 0 ∨ n ≤ i.toNatClampNeg then none else K (μ k i.toNatClampNeg)
def nk_ast (μ : nk_M) (k n : Nat) (i x : Int32) (K : nk_M → Option (α × nk_M)) : Option (α × nk_M) := if i < 0 ∨ n ≤ i.toNatClampNeg then none else K (nk_up μ k i.toNatClampNeg x)
theorem nk_iald (C : nk_C own cc nL w G X) {k n : Nat} {i : Int32} {K : Int32 → Option (α × nk_M)} (hk : k < w.2.2.1) (hs : w.2.1 k = .inr (.inl (.int, n))) (hd : decode cc pc = .ok (.iaload, 1)) (h : ∀ z : Int32, nk_Sim w G X nL inj (pc + 1) lv (.int z :: st) μ (K z)) : nk_Sim w G X nL inj pc lv (.int i :: nk_r G k :: st) μ (nk_ald μ k n i K) := by
  intro v μ' e H locs ls hP hS hl
  by_cases hin : i < 0 ∨ n ≤ i.toNatClampNeg
  · simp [nk_ald, hin] at e
  · simp only [nk_ald, hin, if_false] at e
    exact va_iald C.1 C.2.1 C.2.2.2.2.2.1.1 hP k k (by rw [nk_wl_get hk, hs]; rfl) (by rw [nk_tys_get hk, hs]; rfl) hin hd (h _ v μ' e H locs ls hP hS hl)
theorem nk_zald (C : nk_C own cc nL w G X) {k n : Nat} {i : Int32} {K : Int32 → Option (α × nk_M)} (hk : k < w.2.2.1) (hs : w.2.1 k = .inr (.inl (.boolean, n))) (hd : decode cc pc = .ok (.baload, 1)) (h : ∀ z : Int32, nk_Sim w G X nL inj (pc + 1) lv (.int z :: st) μ (K z)) : nk_Sim w G X nL inj pc lv (.int i :: nk_r G k :: st) μ (nk_ald μ k n i K) := by
  intro v μ' e H locs ls hP hS hl
  by_cases hin : i < 0 ∨ n ≤ i.toNatClampNeg
  · simp [nk_ald, hin] at e
  · simp only [nk_ald, hin, if_false] at e
    exact va_zald C.1 C.2.1 C.2.2.2.2.2.1.1 hP k k (by rw [nk_wl_get hk, hs]; rfl) (by rw [nk_tys_get hk, hs]; rfl) hin hd (h _ v μ' e H locs ls hP hS hl)
theorem nk_aset {k n : Nat} {ty : FieldType} {f : Nat → Int32} (hs : w.2.1 k = .inr (.inl (ty, n))) : (nk_wl w G μ).set k (G.2.1 k, .inl (G.2.2.1 k, n, .inl f)) = nk_wl w G (nk_upA μ k f) := by
  have := nk_wl_set (w := w) (G := G) (μ := μ) (k := k) f
  rw [hs] at this
  exact this
theorem nk_iast (C : nk_C own cc nL w G X) {k n : Nat} {i x : Int32} {K : nk_M → Option (α × nk_M)} (hk : k < w.2.2.1) (hs : w.2.1 k = .inr (.inl (.int, n))) (hd : decode cc pc = .ok (.iastore, 1)) (h : ∀ μ1 : nk_M, nk_Sim w G X nL inj (pc + 1) lv st μ1 (K μ1)) : nk_Sim w G X nL inj pc lv (.int x :: .int i :: nk_r G k :: st) μ (nk_ast μ k n i x K) := by
  intro v μ' e H locs ls hP hS hl
  by_cases hin : i < 0 ∨ n ≤ i.toNatClampNeg
  · simp [nk_ast, hin] at e
  · simp only [nk_ast, hin, if_false] at e
    refine va_iast C.1 C.2.1 C.2.2.2.2.2.1.1 hP (nk_hD C) hS k k (cA := G.2.2.1 k) (n := n) (f := μ k) (by rw [nk_wl_get hk, hs]; rfl) (by rw [nk_tys_get hk, hs]; rfl) hin hd (fun H1 locs1 hP1 _ hS1 => ?_)
    rw [nk_aset hs] at hP1
    exact h _ v μ' e H1 locs1 ls hP1 hS1 hl
theorem nk_zast (C : nk_C own cc nL w G X) {k n : Nat} {i x : Int32} {K : nk_M → Option (α × nk_M)} (hk : k < w.2.2.1) (hs : w.2.1 k = .inr (.inl (.boolean, n))) (hx : vp_nar .boolean x = x) (hd : decode cc pc = .ok (.bastore, 1)) (h : ∀ μ1 : nk_M, nk_Sim w G X nL inj (pc + 1) lv st μ1 (K μ1)) : nk_Sim w G X nL inj pc lv (.int x :: .int i :: nk_r G k :: st) μ (nk_ast μ k n i x K) := by
  intro v μ' e H locs ls hP hS hl
  by_cases hin : i < 0 ∨ n ≤ i.toNatClampNeg
  · simp [nk_ast, hin] at e
  · simp only [nk_ast, hin, if_false] at e
    refine va_zast C.1 C.2.1 C.2.2.2.2.2.1.1 hP (nk_hD C) hS k k (cA := G.2.2.1 k) (n := n) (f := μ k) (by rw [nk_wl_get hk, hs]; rfl) (by rw [nk_tys_get hk, hs]; rfl) hin hd (fun H1 locs1 hP1 _ hS1 => ?_)
    rw [hx, nk_aset hs] at hP1
    exact h _ v μ' e H1 locs1 ls hP1 hS1 hl
theorem nk_alen (C : nk_C own cc nL w G X) {k n : Nat} {ty : FieldType} (hk : k < w.2.2.1) (hs : w.2.1 k = .inr (.inl (ty, n))) (hd : decode cc pc = .ok (.arraylength, 1)) (h : nk_Sim w G X nL inj (pc + 1) lv (.int (nI n) :: st) μ F) : nk_Sim w G X nL inj pc lv (nk_r G k :: st) μ F := by
  refine nk_go (fun H locs ls hP hS hl Q q => ?_) h
  exact va_alen C.1 C.2.1 C.2.2.2.2.2.1.1 hP k k (cA := G.2.2.1 k) (x := (n, .inl (μ k))) (by rw [nk_wl_get hk, hs]; try rfl) (by rw [nk_tys_get hk, hs]; try rfl) rfl hd q
/-- a row of rows: its rows are cells of their own -/
def nk_ard (n : Nat) (i : Int32) (K : Option (α × nk_M)) : Option (α × nk_M) := if i < 0 ∨ n ≤ i.toNatClampNeg then none else K
theorem nk_aald (C : nk_C own cc nL w G X) {k n b0 : Nat} {i : Int32} (hk : k < w.2.2.1) (hs : w.2.1 k = .inr (.inr (n, b0))) (hd : decode cc pc = .ok (.aaload, 1)) (h : ¬ (i < 0 ∨ n ≤ i.toNatClampNeg) → nk_Sim w G X nL inj (pc + 1) lv (nk_r G (b0 + i.toNatClampNeg) :: st) μ F) : nk_Sim w G X nL inj pc lv (.int i :: nk_r G k :: st) μ (nk_ard n i F) := by
  intro v μ' e H locs ls hP hS hl
  by_cases hin : i < 0 ∨ n ≤ i.toNatClampNeg
  · simp [nk_ard, hin] at e
  · simp only [nk_ard, hin, if_false] at e
    have ha : (nk_wl w G μ)[k]? = some (G.2.1 k, .inl (G.2.2.1 k, n, .inr (.inr (.inr (.inr (fun i => some (G.2.1 (b0 + i)))))))) := by rw [nk_wl_get hk, hs]; rfl
    have ht : (nk_tys w G)[k]? = some (G.2.2.1 k, .array .int) := by rw [nk_tys_get hk, hs]; rfl
    have hlt : i.toNatClampNeg < n := Nat.not_le.mp fun q => hin (Or.inr q)
    exact W.aald (v := va_rf (some (G.2.1 (b0 + i.toNatClampNeg)))) (ty := .array .int) C.1 C.2.1 (hP k _ ha) ((C.2.2.2.2.2.1.1.2 k _ ht).1 n (fun j => va_rf (some (G.2.1 (b0 + j))))) rfl (fun q => by cases q) (by show ¬ (i < 0 ∨ (arrV _ _ _).slots.size ≤ _); rw [arrV_size]; exact hin) (by show (arrV _ _ _).slots[_]? = _; rw [arrV_read _ _ hlt]) rfl rfl hd (h hin v μ' e H locs ls hP hS hl)
/-- static tables -/
abbrev nk_ts (G : nk_V) (i : Nat) : Value := .ref (G.2.2.2.1 i)
theorem nk_gets (C : nk_C own cc nL w G X) {index i : Nat} {q : nk_T} (hq : w.2.2.2[i]? = some q) (hlink : ∃ host, Cond.fieldLinkNest own index q.1 q.2.1 q.2.2.1 host ∈ tables_1) (hd : decode cc pc = .ok (.getstatic index, 3)) (h : nk_Sim w G X nL inj (pc + 3) lv (nk_ts G i :: st) μ F) : nk_Sim w G X nL inj pc lv st μ F := by
  obtain ⟨host, hl0⟩ := hlink
  refine nk_go (fun H locs ls hP hS hl Q k => ?_) h
  exact va_getsN C.1 C.2.1 (C.2.2.2.2.2.1.2.2.1 i q hq).1 hS C.2.2.2.1 (va_Nw.use rfl (C.2.2.2.2.2.1.2.1 _ hl0 rfl)) (fun x hx => hx) hd k
def nk_tld (n : Nat) (f : Nat → Int32) (i : Int32) (K : Int32 → Option (α × nk_M)) : Option (α × nk_M) := if i < 0 ∨ n ≤ i.toNatClampNeg then none else K (f i.toNatClampNeg)
theorem nk_ti (C : nk_C own cc nL w G X) {i : Nat} {a1 a2 a3 : String} {n : Nat} {f : Nat → Int32} {j : Int32} {K : Int32 → Option (α × nk_M)} (hq : w.2.2.2[i]? = some (a1, a2, a3, .int, n, f)) (hd : decode cc pc = .ok (.iaload, 1)) (h : ∀ z : Int32, nk_Sim w G X nL inj (pc + 1) lv (.int z :: st) μ (K z)) : nk_Sim w G X nL inj pc lv (.int j :: nk_ts G i :: st) μ (nk_tld n f j K) := by
  intro v μ' e H locs ls hP hS hl
  by_cases hin : j < 0 ∨ n ≤ j.toNatClampNeg
  · simp [nk_tld, hin] at e
  · simp only [nk_tld, hin, if_false] at e
    exact va_ti C.1 C.2.1 (C.2.2.2.2.2.1.2.2.1 i _ hq).2 hS hin rfl hd (h _ v μ' e H locs ls hP hS hl)
theorem nk_tc (C : nk_C own cc nL w G X) {i : Nat} {a1 a2 a3 : String} {n : Nat} {f : Nat → Int32} {j : Int32} {K : Int32 → Option (α × nk_M)} (hq : w.2.2.2[i]? = some (a1, a2, a3, .char, n, f)) (hd : decode cc pc = .ok (.caload, 1)) (h : ∀ z : Int32, nk_Sim w G X nL inj (pc + 1) lv (.int z :: st) μ (K z)) : nk_Sim w G X nL inj pc lv (.int j :: nk_ts G i :: st) μ (nk_tld n f j K) := by
  intro v μ' e H locs ls hP hS hl
  by_cases hin : j < 0 ∨ n ≤ j.toNatClampNeg
  · simp [nk_tld, hin] at e
  · simp only [nk_tld, hin, if_false] at e
    exact va_tc C.1 C.2.1 (C.2.2.2.2.2.1.2.2.1 i _ hq).2 hS hin rfl hd (h _ v μ' e H locs ls hP hS hl)
theorem nk_tlen (C : nk_C own cc nL w G X) {i : Nat} {a1 a2 a3 : String} {ty : FieldType} {n : Nat} {f : Nat → Int32} (hq : w.2.2.2[i]? = some (a1, a2, a3, ty, n, f)) (hd : decode cc pc = .ok (.arraylength, 1)) (h : nk_Sim w G X nL inj (pc + 1) lv (.int (nI n) :: st) μ F) : nk_Sim w G X nL inj pc lv (nk_ts G i :: st) μ F := by
  refine nk_go (fun H locs ls hP hS hl Q k => ?_) h
  exact va_tlen C.1 C.2.1 (C.2.2.2.2.2.1.2.2.1 i _ hq).2 hS rfl hd k
/-- System.arraycopy between rows of ints -/
def nk_cpy (μ : nk_M) (k0 n0 : Nat) (sp : Int32) (k1 n1 : Nat) (dp n : Int32) (K : nk_M → Option (α × nk_M)) : Option (α × nk_M) :=
  if sp < 0 ∨ dp < 0 ∨ n < 0 ∨ n0 < sp.toNatClampNeg + n.toNatClampNeg ∨ n1 < dp.toNatClampNeg + n.toNatClampNeg then none else K (nk_upA μ k1 (va_cpy (μ k0) (μ k1) sp.toNatClampNeg dp.toNatClampNeg n.toNatClampNeg))
theorem nk_acopy (C : nk_C own cc nL w G X) {index k0 n0 k1 n1 hh : Nat} {sp dp n : Int32} {K : nk_M → Option (α × nk_M)} (hR : X.2.2.2.1 = nk_rm (hh + 1)) (hlink : Cond.methodLink own index arraycopyName ∈ nk_GT) (hnat : Cond.native arraycopyName ∈ nk_GT) (hstat : Cond.static arraycopyName ∈ nk_GT) (hini : Cond.initialized "java/lang/System" ∈ nk_GT) (hk0 : k0 < w.2.2.1) (hs0 : w.2.1 k0 = .inr (.inl (.int, n0))) (hk1 : k1 < w.2.2.1) (hs1 : w.2.1 k1 = .inr (.inl (.int, n1))) (hst : (st.map fun v => v.category).sum ≤ 8) (hd : decode cc pc = .ok (.invokestatic index, 3)) (h : ∀ μ1 : nk_M, nk_Sim w G X nL inj (pc + 3) lv st μ1 (K μ1)) : nk_Sim w G X nL inj pc lv (.int n :: .int dp :: nk_r G k1 :: .int sp :: nk_r G k0 :: st) μ (nk_cpy μ k0 n0 sp k1 n1 dp n K) := by
  intro v μ' e H locs ls hP hS hl
  by_cases hin : sp < 0 ∨ dp < 0 ∨ n < 0 ∨ n0 < sp.toNatClampNeg + n.toNatClampNeg ∨ n1 < dp.toNatClampNeg + n.toNatClampNeg
  · simp [nk_cpy, hin] at e
  · simp only [nk_cpy, hin, if_false] at e
    have b1 : ¬ sp < 0 := fun z => hin (Or.inl z)
    have b2 : ¬ dp < 0 := fun z => hin (Or.inr (Or.inl z))
    have b3 : ¬ n < 0 := fun z => hin (Or.inr (Or.inr (Or.inl z)))
    have b4 : sp.toNatClampNeg + n.toNatClampNeg ≤ n0 := Nat.not_lt.mp fun z => hin (Or.inr (Or.inr (Or.inr (Or.inl z))))
    have b5 : dp.toNatClampNeg + n.toNatClampNeg ≤ n1 := Nat.not_lt.mp fun z => hin (Or.inr (Or.inr (Or.inr (Or.inr z))))
    refine va_copyi C.1 C.2.1 (C.2.2.1.trans hl.1.symm) C.2.2.2.1 (C.2.2.2.2.1 _ hlink) (C.2.2.2.2.1 _ hnat) (C.2.2.2.2.1 _ hstat) (C.2.2.2.2.1 _ hini) C.2.2.2.2.2.1.1 hP (nk_hD C) hS k0 k1 k0 k1 (c0 := G.2.2.1 k0) (c1 := G.2.2.1 k1) (n0 := n0) (n1 := n1) (f := μ k0) (g := μ k1) (ty := .int) (by rw [nk_wl_get hk0, hs0]; rfl) (by rw [nk_wl_get hk1, hs1]; rfl) (by rw [nk_tys_get hk0, hs0]; rfl) (by rw [nk_tys_get hk1, hs1]; rfl) rfl b1 b2 b3 b4 b5 (fun _ _ => rfl) (by rw [hR]; exact Nat.succ_le_succ (Nat.zero_le _)) ?_ hd (fun H1 locs1 hP1 _ hS1 => ?_)
    · rw [hR]
      have e1 : nativeFrameWords "java/lang/System" "arraycopy" 5 + 11 ≤ 56 := by decide +kernel
      show _ ≤ 64 * (hh + 1)
      omega
    · rw [nk_aset hs1] at hP1
      exact h _ v μ' e H1 locs1 ls hP1 hS1 hl
theorem nk_mmax (C : nk_C own cc nL w G X) {index hh : Nat} {x y : Int32} (hR : X.2.2.2.1 = nk_rm (hh + 1)) (hlink : Cond.methodLink own index Lib.Math.max.name ∈ nk_GT) (hstat : Cond.static Lib.Math.max.name ∈ nk_GT) (hini : Cond.initialized "java/lang/Math" ∈ nk_GT) (hcode : Cond.code Lib.Math.max.name Lib.Math.max.code 2 (some .int) ∈ nk_GT) (hst : (st.map fun v => v.category).sum ≤ 8) (hd : decode cc pc = .ok (.invokestatic index, 3)) (h : nk_Sim w G X nL inj (pc + 3) lv (.int (if x < y then y else x) :: st) μ F) : nk_Sim w G X nL inj pc lv (.int y :: .int x :: st) μ F := by
  refine nk_go (fun H locs ls hP hS hl Q k => ?_) h
  refine va_mmax C.1 C.2.1 (C.2.2.1.trans hl.1.symm) C.2.2.2.1 (C.2.2.2.2.1 _ hlink) (C.2.2.2.2.1 _ hstat) (C.2.2.2.2.1 _ hini) (C.2.2.2.2.1 _ hcode) (by rw [hR]; exact Nat.succ_le_succ (Nat.zero_le _)) ?_ (by rw [hR]; exact Nat.le_refl _) (by rw [hR]; exact Nat.le_refl _) hd k
  rw [hR]
  show _ ≤ 64 * (hh + 1)
  omega
/-- calls -/
def nk_bd {β : Type} (Fc : Option (β × nk_M)) (K : β → nk_M → Option (α × nk_M)) : Option (α × nk_M) := match Fc with
  | none => none
  | some q => K q.1 q.2
def nk_cB (own : String) (index : Nat) (y : MethodName) (b : ByteArray) (nL' : Nat) (ret : Option FieldType) (n : Nat) : Prop :=
  Cond.code y b nL' ret ∈ nk_GT ∧ Cond.initialized y.cls ∈ nk_GT ∧ (y.cls ≠ "java/lang/invoke/MethodHandle" ∧ y.cls ≠ "java/lang/invoke/VarHandle" ∧ (parseMethodDescriptor y.desc).map (fun d => d.parameters.length) = some n) ∧ nL' ≤ 45 ∧ (Cond.methodLink own index y ∈ nk_GT ∨ ∃ host, Cond.methodLinkNest own index y host ∈ tables_1)
def nk_cV (own : String) (index : Nat) (y : MethodName) (b : ByteArray) (nL' : Nat) (ret : Option FieldType) (n : Nat) : Prop := nk_cB own index y b nL' ret n ∧ Cond.instanceMethod y ∈ nk_GT ∧ Cond.selects y.cls y y ∈ nk_GT
def nk_cS (own : String) (index : Nat) (y : MethodName) (b : ByteArray) (nL' : Nat) (ret : Option FieldType) (n : Nat) : Prop := nk_cB own index y b nL' ret n ∧ Cond.static y ∈ nk_GT
theorem nk_GT_good {c : Cond} (h : c ∈ nk_GT) : (c.onTables && c.keeps) = true ∨ ∃ ty, c = .arrayClass ty := good_of_word (List.mem_filter.mp h).2
theorem nk_ws {y : MethodName} {b : ByteArray} {nL' : Nat} {ret : Option FieldType} (h : Cond.code y b nL' ret ∈ nk_GT) : GoodIn nk_GT (Cond.code y b nL' ret :: nk_GT) := fun c hc => by
  rcases List.mem_cons.mp hc with rfl | hc
  · exact ⟨h, nk_GT_good h⟩
  · exact ⟨hc, nk_GT_good hc⟩
theorem nk_rmle {hh H nL' : Nat} (h : hh + 1 ≤ H) (hn : nL' ≤ 45) : (nk_rm hh).frames + 1 ≤ (nk_rm H).frames ∧ 8 + (nL' + 11) + (nk_rm hh).locals ≤ (nk_rm H).locals := ⟨h, by show 8 + (nL' + 11) + 64 * hh ≤ 64 * H; omega⟩
theorem nk_called (C : nk_C own cc nL w G X) {β : Type} {inj' : β → Option Value} {Fc : Option (β × nk_M)} {K : β → nk_M → Option (α × nk_M)} {y : MethodName} {b : ByteArray} {nL' hh : Nat} {ret : Option FieldType} {av stk : List Value} (hct : nk_Ct X.2.1 w G hh y b nL' ret inj' av μ Fc)
    (run : ∀ (H : Heap) (locs : List Loc) (ls : Array Slot), va_P G.1 w.1 (nk_wl w G μ) H → va_S G.2.2.2.2 X.2.2.2.2.1.heap H locs → ls.size = nL → ∀ (Qc : Array Value → State → Outcome → State → Prop), Met X.2.1 y (Cond.code y b nL' ret :: nk_GT) (nk_rm hh) (va_Pc av (nk_W w G μ)) Qc 0 0 G.2.2.2.2 → va_Run X.1 X.2.1 X.2.2.1 X.2.2.2.1 X.2.2.2.2.1 X.2.2.2.2.2.1 X.2.2.2.2.2.2.1 X.2.2.2.2.2.2.2.1 X.2.2.2.2.2.2.2.2.1 X.2.2.2.2.2.2.2.2.2 H locs 0 0 0 0 (F0 X.2.2.2.2.2.1 pc ls stk) st (Qc av.toArray) G.2.2.2.2)
    (h : ∀ (r : β) (μ1 : nk_M), nk_Sim w G X nL inj (pc + 3) lv ((inj' r).toList ++ st) μ1 (K r μ1)) : nk_Sim w G X nL inj pc lv stk μ (nk_bd Fc K) := by
  intro v μ' e H locs ls hP hS hl
  cases hF : Fc with
  | none => rw [hF] at e; cases e
  | some q =>
    obtain ⟨r, μ1⟩ := q
    rw [hF] at e
    have hr := run H locs ls hP hS hl.1 _ (hct r μ1 hF)
    intro T hT Xs
    obtain ⟨v1, st₀, t, T', L, h0, X', hL, e1, e2, ⟨⟨hv, hb⟩, hz, hk⟩, stp⟩ := hr T hT Xs
    cases hv
    rw [h0] at hz hk
    obtain ⟨t2, a1, b1⟩ := h r μ1 v μ' e T'.heap (locs ++ L) ls (by rw [e1]; exact hb.1)
      ⟨Nat.le_trans hS.1 (by rw [e1]; exact hz), fun q h1 h2 => by rw [e1, hk q (Nat.lt_of_lt_of_le h1 hS.1) h2]; exact hS.2.1 q h1 h2, fun q hq => by
        rcases List.mem_append.mp hq with h | h
        · exact hS.2.2 q h
        · exact hL q h⟩ hl T' rfl X'
    exact ⟨t2, stp t2 a1, b1⟩
theorem nk_callV (C : nk_C own cc nL w G X) {β : Type} {inj' : β → Option Value} {Fc : Option (β × nk_M)} {K : β → nk_M → Option (α × nk_M)} {y : MethodName} {b : ByteArray} {nL' hh HH n index k ci nn : Nat} {T : u_T} {fl : List (Option Nat)} {ret : Option FieldType} (As : List Value) {stk : List Value} (hcV : nk_cV own index y b nL' ret n) (hR : X.2.2.2.1 = nk_rm HH) (hct : nk_Ct X.2.1 w G hh y b nL' ret inj' (nk_r G k :: As) μ Fc) (hH : hh + 1 ≤ HH) (hk : k < w.2.2.1) (hs : w.2.1 k = .inl (ci, fl)) (hc : w.1[ci]? = some (y.cls, T, nn)) (hn : As.length = n) (hstk : stk = As.reverse ++ nk_r G k :: st) (hst : (st.map fun v => v.category).sum ≤ 8) (hd : decode cc pc = .ok (.invokevirtual index, 3))
    (h : ∀ (r : β) (μ1 : nk_M), nk_Sim w G X nL inj (pc + 3) lv ((inj' r).toList ++ st) μ1 (K r μ1)) : nk_Sim w G X nL inj pc lv stk μ (nk_bd Fc K) := by
  obtain ⟨⟨c1, c2, c3, c4, c5⟩, c6, c7⟩ := hcV
  have hS' : CallFix X.1 X.2.2.2.2.2.1 X.2.2.2.2.2.2.2.2.2 cc nL X.2.2.2.2.1 X.2.2.2.2.2.2.1 nk_GT own := ⟨C.1, C.2.1, C.2.2.1, C.2.2.2.1, C.2.2.2.2.1⟩
  refine nk_called C hct (fun H locs ls hP hS hl Qc hM => ?_) h
  have hpre : PreV X.2.2.2.2.1 H y.cls (G.2.1 k) (va_Pc (nk_r G k :: As) (nk_W w G μ)) As := ⟨nk_blind, va_recv C.2.2.2.2.2.1.1 hP hc (q0 := k) (fs := nk_flds G fl (μ k)) (by rw [nk_wl_get hk, hs]; rfl), fun U hU hW => ⟨rfl, by rw [hU]; exact hP, nk_K.warm hW hU hS C.2.2.2.2.2.1⟩⟩
  have hlm := nk_rmle hH c4
  rcases c5 with c5 | ⟨host, c5⟩
  · exact va_runV hS' hM ⟨callB_of n C.2.2.2.2.1 (nk_ws c1) rfl rfl rfl (C.2.2.2.2.1 _ c2) (C.2.2.2.2.1 _ c5) c3 (by rw [hR]; exact hlm), C.2.2.2.2.1 _ c6, C.2.2.2.2.1 _ c7⟩ hpre rfl hn hl hstk (lv_room hst) hd (by rw [hR]; exact ⟨Nat.le_refl _, Nat.le_refl _⟩)
  · exact va_runVN hS' hM ⟨va_cnB n C.2.2.2.2.1 (nk_ws c1) rfl rfl rfl (C.2.2.2.2.2.1.2.1 _ c5 rfl) (C.2.2.2.2.1 _ c2) c3 (by rw [hR]; exact hlm), C.2.2.2.2.1 _ c6, C.2.2.2.2.1 _ c7⟩ hpre rfl hn hl hstk (lv_room hst) hd (by rw [hR]; exact ⟨Nat.le_refl _, Nat.le_refl _⟩)
theorem nk_callS (C : nk_C own cc nL w G X) {β : Type} {inj' : β → Option Value} {Fc : Option (β × nk_M)} {K : β → nk_M → Option (α × nk_M)} {y : MethodName} {b : ByteArray} {nL' hh HH n index : Nat} {ret : Option FieldType} (As : List Value) {stk : List Value} (hcS : nk_cS own index y b nL' ret n) (hR : X.2.2.2.1 = nk_rm HH) (hct : nk_Ct X.2.1 w G hh y b nL' ret inj' As μ Fc) (hH : hh + 1 ≤ HH) (hn : As.length = n) (hstk : stk = As.reverse ++ st) (hst : (st.map fun v => v.category).sum ≤ 8) (hd : decode cc pc = .ok (.invokestatic index, 3))
    (h : ∀ (r : β) (μ1 : nk_M), nk_Sim w G X nL inj (pc + 3) lv ((inj' r).toList ++ st) μ1 (K r μ1)) : nk_Sim w G X nL inj pc lv stk μ (nk_bd Fc K) := by
  obtain ⟨⟨c1, c2, c3, c4, c5⟩, c6⟩ := hcS
  have hS' : CallFix X.1 X.2.2.2.2.2.1 X.2.2.2.2.2.2.2.2.2 cc nL X.2.2.2.2.1 X.2.2.2.2.2.2.1 nk_GT own := ⟨C.1, C.2.1, C.2.2.1, C.2.2.2.1, C.2.2.2.2.1⟩
  refine nk_called C hct (fun H locs ls hP hS hl Qc hM => ?_) h
  have hpre : PreS X.2.2.2.2.1 H (va_Pc As (nk_W w G μ)) As := ⟨nk_blind, fun U hU hW => ⟨rfl, by rw [hU]; exact hP, nk_K.warm hW hU hS C.2.2.2.2.2.1⟩⟩
  have hlm := nk_rmle hH c4
  rcases c5 with c5 | ⟨host, c5⟩
  · exact va_runS hS' hM ⟨callB_of n C.2.2.2.2.1 (nk_ws c1) rfl rfl rfl (C.2.2.2.2.1 _ c2) (C.2.2.2.2.1 _ c5) c3 (by rw [hR]; exact hlm), C.2.2.2.2.1 _ c6⟩ hpre rfl hn hl hstk (lv_room hst) hd (by rw [hR]; exact ⟨Nat.le_refl _, Nat.le_refl _⟩)
  · exact va_runSN hS' hM ⟨va_cnB n C.2.2.2.2.1 (nk_ws c1) rfl rfl rfl (C.2.2.2.2.2.1.2.1 _ c5 rfl) (C.2.2.2.2.1 _ c2) c3 (by rw [hR]; exact hlm), C.2.2.2.2.1 _ c6, trivial⟩ hpre rfl hn hl hstk (lv_room hst) hd (by rw [hR]; exact ⟨Nat.le_refl _, Nat.le_refl _⟩)
/-- returns -/
theorem nk_end (C : nk_C own cc nL w G X) {o : Option Value} {H : Heap} {locs : List Loc} (hP : va_P G.1 w.1 (nk_wl w G μ) H) (hS : va_S G.2.2.2.2 X.2.2.2.2.1.heap H locs) : ∀ t : State, t.heap = H → X.2.2.2.2.1.WarmedH t.vm → nk_Q w G o μ X.2.2.2.2.2.2.1 X.2.2.2.2.1 (.returned o) t := fun t ht hW => ⟨⟨rfl, by rw [ht]; exact hP, nk_K.warm hW ht hS C.2.2.2.2.2.1⟩, hS.F ht⟩
theorem nk_iret (C : nk_C own cc nL w G X) {x : Int32} (hr : X.2.2.2.2.2.2.2.2.1.sig.returnType = some .int) (hd : decode cc pc = .ok (.ireturn, 1)) : nk_Sim w G X nL nk_oi pc lv [.int x] μ (some (x, μ)) := by
  intro v μ' e H locs ls hP hS hl
  cases e
  exact W.iret C.1 C.2.1 hr (nk_end C hP hS) hS.2.2 hd C.2.2.2.2.2.2
/-- a boolean's answer -/
def nk_zr (x : Int32) (μ : nk_M) : Option (Int32 × nk_M) := if x = 0 ∨ x = 1 then some (x, μ) else none
theorem nk_zret (C : nk_C own cc nL w G X) {x : Int32} (hr : X.2.2.2.2.2.2.2.2.1.sig.returnType = some .boolean) (hd : decode cc pc = .ok (.ireturn, 1)) : nk_Sim w G X nL nk_oi pc lv [.int x] μ (nk_zr x μ) := by
  intro v μ' e H locs ls hP hS hl
  unfold nk_zr at e
  by_cases hx : x = 0 ∨ x = 1
  · rw [if_pos hx] at e
    cases e
    exact W.zret C.1 C.2.1 hr (by rcases hx with rfl | rfl <;> decide) (nk_end C hP hS) hS.2.2 hd C.2.2.2.2.2.2
  · rw [if_neg hx] at e
    cases e
theorem nk_lret (C : nk_C own cc nL w G X) {x : Int64} (hr : X.2.2.2.2.2.2.2.2.1.sig.returnType = some .long) (hd : decode cc pc = .ok (.lreturn, 1)) : nk_Sim w G X nL nk_ol pc lv [.long x] μ (some (x, μ)) := by
  intro v μ' e H locs ls hP hS hl
  cases e
  exact W.lret C.1 C.2.1 hr (nk_end C hP hS) hS.2.2 hd C.2.2.2.2.2.2
theorem nk_vret (C : nk_C own cc nL w G X) (hr : X.2.2.2.2.2.2.2.2.1.sig.returnType = none) (hd : decode cc pc = .ok (.return_, 1)) : nk_Sim w G X nL nk_ov pc lv [] μ (some ((), μ)) := by
  intro v μ' e H locs ls hP hS hl
  cases e
  exact W.vret C.1 C.2.1 hr (nk_end C hP hS) hS.2.2 hd C.2.2.2.2.2.2
end NKM
end
section
theorem i_vc : Claimed_1_1 ∧ Claimed_1_2 := sorry
end
