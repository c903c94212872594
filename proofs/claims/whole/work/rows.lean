section
-- ===== PART A: goes FIRST, ahead of the names: the tables' words, and 'selects' of the private methods out of them =====
/-- a private method of a class that the tables say can be made, by its rows of tables_1 -/
def lw_okq (q : MethodName × Nat) : Prop := (q.1.cls ≠ "java/lang/invoke/MethodHandle" ∧ q.1.cls ≠ "java/lang/invoke/VarHandle") ∧ Cond.instantiable q.1.cls q.2 ∈ tables_1 ∧ Cond.privateMethod q.1 ∈ tables_1 ∧ Cond.instanceMethod q.1 ∈ tables_1
theorem lw_p0 : lw_okq (⟨"NeedOnce$Cells", "putToSleep", "()V"⟩, 16) := ⟨⟨by decide +kernel, by decide +kernel⟩, List.mem_of_getElem? (i := 19) (by decide +kernel), List.mem_of_getElem? (i := 25) (by decide +kernel), List.mem_of_getElem? (i := 26) (by decide +kernel)⟩
theorem lw_p1 : lw_okq (⟨"NeedOnce$Sheets", "has", "(I)Z"⟩, 3) := ⟨⟨by decide +kernel, by decide +kernel⟩, List.mem_of_getElem? (i := 129) (by decide +kernel), List.mem_of_getElem? (i := 174) (by decide +kernel), List.mem_of_getElem? (i := 175) (by decide +kernel)⟩
theorem lw_p2 : lw_okq (⟨"NeedOnce$Sheets", "rangeFault", "(IIII)I"⟩, 3) := ⟨⟨by decide +kernel, by decide +kernel⟩, List.mem_of_getElem? (i := 129) (by decide +kernel), List.mem_of_getElem? (i := 181) (by decide +kernel), List.mem_of_getElem? (i := 182) (by decide +kernel)⟩
theorem lw_p3 : lw_okq (⟨"NeedOnce$Sheets", "isRange", "(III)Z"⟩, 3) := ⟨⟨by decide +kernel, by decide +kernel⟩, List.mem_of_getElem? (i := 129) (by decide +kernel), List.mem_of_getElem? (i := 185) (by decide +kernel), List.mem_of_getElem? (i := 186) (by decide +kernel)⟩
theorem lw_p4 : lw_okq (⟨"NeedOnce", "faulted", "(I)I"⟩, 7) := ⟨⟨by decide +kernel, by decide +kernel⟩, List.mem_of_getElem? (i := 11) (by decide +kernel), List.mem_of_getElem? (i := 189) (by decide +kernel), List.mem_of_getElem? (i := 190) (by decide +kernel)⟩
theorem lw_p5 : lw_okq (⟨"NeedOnce$TextReader", "readInto", "(LNeedOnce$Cells;LNeedOnce$Sheets;III)I"⟩, 2) := ⟨⟨by decide +kernel, by decide +kernel⟩, List.mem_of_getElem? (i := 99) (by decide +kernel), List.mem_of_getElem? (i := 193) (by decide +kernel), List.mem_of_getElem? (i := 194) (by decide +kernel)⟩
theorem lw_p6 : lw_okq (⟨"NeedOnce$Cells", "forgetAll", "()V"⟩, 16) := ⟨⟨by decide +kernel, by decide +kernel⟩, List.mem_of_getElem? (i := 19) (by decide +kernel), List.mem_of_getElem? (i := 197) (by decide +kernel), List.mem_of_getElem? (i := 198) (by decide +kernel)⟩
theorem lw_p7 : lw_okq (⟨"NeedOnce$Sheets", "at", "(II)I"⟩, 3) := ⟨⟨by decide +kernel, by decide +kernel⟩, List.mem_of_getElem? (i := 129) (by decide +kernel), List.mem_of_getElem? (i := 201) (by decide +kernel), List.mem_of_getElem? (i := 202) (by decide +kernel)⟩
theorem lw_p8 : lw_okq (⟨"NeedOnce$TextReader", "goesOn", "(LNeedOnce$Cells;I)Z"⟩, 2) := ⟨⟨by decide +kernel, by decide +kernel⟩, List.mem_of_getElem? (i := 99) (by decide +kernel), List.mem_of_getElem? (i := 205) (by decide +kernel), List.mem_of_getElem? (i := 206) (by decide +kernel)⟩
theorem lw_p9 : lw_okq (⟨"NeedOnce$TextReader", "takesKind", "(LNeedOnce$Cells;II)Z"⟩, 2) := ⟨⟨by decide +kernel, by decide +kernel⟩, List.mem_of_getElem? (i := 99) (by decide +kernel), List.mem_of_getElem? (i := 209) (by decide +kernel), List.mem_of_getElem? (i := 210) (by decide +kernel)⟩
theorem lw_p10 : lw_okq (⟨"NeedOnce$TextReader", "takesPrice", "(LNeedOnce$Cells;II)Z"⟩, 2) := ⟨⟨by decide +kernel, by decide +kernel⟩, List.mem_of_getElem? (i := 99) (by decide +kernel), List.mem_of_getElem? (i := 218) (by decide +kernel), List.mem_of_getElem? (i := 219) (by decide +kernel)⟩
theorem lw_p11 : lw_okq (⟨"NeedOnce$TextReader", "takesSign", "(LNeedOnce$Cells;II)Z"⟩, 2) := ⟨⟨by decide +kernel, by decide +kernel⟩, List.mem_of_getElem? (i := 99) (by decide +kernel), List.mem_of_getElem? (i := 222) (by decide +kernel), List.mem_of_getElem? (i := 223) (by decide +kernel)⟩
theorem lw_p12 : lw_okq (⟨"NeedOnce$TextReader", "takesPart", "(LNeedOnce$Cells;II)Z"⟩, 2) := ⟨⟨by decide +kernel, by decide +kernel⟩, List.mem_of_getElem? (i := 99) (by decide +kernel), List.mem_of_getElem? (i := 228) (by decide +kernel), List.mem_of_getElem? (i := 229) (by decide +kernel)⟩
theorem lw_p13 : lw_okq (⟨"NeedOnce$Cells", "tellPart", "(III)V"⟩, 16) := ⟨⟨by decide +kernel, by decide +kernel⟩, List.mem_of_getElem? (i := 19) (by decide +kernel), List.mem_of_getElem? (i := 232) (by decide +kernel), List.mem_of_getElem? (i := 233) (by decide +kernel)⟩
theorem lw_p14 : lw_okq (⟨"NeedOnce$Cells", "firstLoose", "()I"⟩, 16) := ⟨⟨by decide +kernel, by decide +kernel⟩, List.mem_of_getElem? (i := 19) (by decide +kernel), List.mem_of_getElem? (i := 238) (by decide +kernel), List.mem_of_getElem? (i := 239) (by decide +kernel)⟩
theorem lw_p15 : lw_okq (⟨"NeedOnce$Cells", "partSet", "(I)I"⟩, 16) := ⟨⟨by decide +kernel, by decide +kernel⟩, List.mem_of_getElem? (i := 19) (by decide +kernel), List.mem_of_getElem? (i := 242) (by decide +kernel), List.mem_of_getElem? (i := 243) (by decide +kernel)⟩
def lw_privs_1 : List (MethodName × Nat) := [(⟨"NeedOnce$Cells", "putToSleep", "()V"⟩, 16), (⟨"NeedOnce$Sheets", "has", "(I)Z"⟩, 3), (⟨"NeedOnce$Sheets", "rangeFault", "(IIII)I"⟩, 3), (⟨"NeedOnce$Sheets", "isRange", "(III)Z"⟩, 3), (⟨"NeedOnce", "faulted", "(I)I"⟩, 7), (⟨"NeedOnce$TextReader", "readInto", "(LNeedOnce$Cells;LNeedOnce$Sheets;III)I"⟩, 2), (⟨"NeedOnce$Cells", "forgetAll", "()V"⟩, 16), (⟨"NeedOnce$Sheets", "at", "(II)I"⟩, 3), (⟨"NeedOnce$TextReader", "goesOn", "(LNeedOnce$Cells;I)Z"⟩, 2), (⟨"NeedOnce$TextReader", "takesKind", "(LNeedOnce$Cells;II)Z"⟩, 2), (⟨"NeedOnce$TextReader", "takesPrice", "(LNeedOnce$Cells;II)Z"⟩, 2), (⟨"NeedOnce$TextReader", "takesSign", "(LNeedOnce$Cells;II)Z"⟩, 2), (⟨"NeedOnce$TextReader", "takesPart", "(LNeedOnce$Cells;II)Z"⟩, 2), (⟨"NeedOnce$Cells", "tellPart", "(III)V"⟩, 16), (⟨"NeedOnce$Cells", "firstLoose", "()I"⟩, 16), (⟨"NeedOnce$Cells", "partSet", "(I)I"⟩, 16)]
theorem lw_r1 : ∀ q ∈ lw_privs_1, lw_okq q := List.forall_mem_cons.mpr ⟨lw_p0, List.forall_mem_cons.mpr ⟨lw_p1, List.forall_mem_cons.mpr ⟨lw_p2, List.forall_mem_cons.mpr ⟨lw_p3, List.forall_mem_cons.mpr ⟨lw_p4, List.forall_mem_cons.mpr ⟨lw_p5, List.forall_mem_cons.mpr ⟨lw_p6, List.forall_mem_cons.mpr ⟨lw_p7, List.forall_mem_cons.mpr ⟨lw_p8, List.forall_mem_cons.mpr ⟨lw_p9, List.forall_mem_cons.mpr ⟨lw_p10, List.forall_mem_cons.mpr ⟨lw_p11, List.forall_mem_cons.mpr ⟨lw_p12, List.forall_mem_cons.mpr ⟨lw_p13, List.forall_mem_cons.mpr ⟨lw_p14, List.forall_mem_cons.mpr ⟨lw_p15, fun _ h => absurd h List.not_mem_nil⟩⟩⟩⟩⟩⟩⟩⟩⟩⟩⟩⟩⟩⟩⟩⟩
theorem lw_p16 : lw_okq (⟨"NeedOnce$Cells", "partAsTold", "(II)I"⟩, 16) := ⟨⟨by decide +kernel, by decide +kernel⟩, List.mem_of_getElem? (i := 19) (by decide +kernel), List.mem_of_getElem? (i := 247) (by decide +kernel), List.mem_of_getElem? (i := 248) (by decide +kernel)⟩
theorem lw_p17 : lw_okq (⟨"NeedOnce$Cells", "becomeLike", "(LNeedOnce$Cells;)V"⟩, 16) := ⟨⟨by decide +kernel, by decide +kernel⟩, List.mem_of_getElem? (i := 19) (by decide +kernel), List.mem_of_getElem? (i := 251) (by decide +kernel), List.mem_of_getElem? (i := 252) (by decide +kernel)⟩
theorem lw_p18 : lw_okq (⟨"NeedOnce$Cells", "startLatest", "()V"⟩, 16) := ⟨⟨by decide +kernel, by decide +kernel⟩, List.mem_of_getElem? (i := 19) (by decide +kernel), List.mem_of_getElem? (i := 258) (by decide +kernel), List.mem_of_getElem? (i := 259) (by decide +kernel)⟩
theorem lw_p19 : lw_okq (⟨"NeedOnce$Cells", "has", "(I)Z"⟩, 16) := ⟨⟨by decide +kernel, by decide +kernel⟩, List.mem_of_getElem? (i := 19) (by decide +kernel), List.mem_of_getElem? (i := 266) (by decide +kernel), List.mem_of_getElem? (i := 267) (by decide +kernel)⟩
theorem lw_p20 : lw_okq (⟨"NeedOnce$Cells", "costOf", "(I)I"⟩, 16) := ⟨⟨by decide +kernel, by decide +kernel⟩, List.mem_of_getElem? (i := 19) (by decide +kernel), List.mem_of_getElem? (i := 270) (by decide +kernel), List.mem_of_getElem? (i := 271) (by decide +kernel)⟩
theorem lw_p21 : lw_okq (⟨"NeedOnce$Cells", "formNow", "(I)I"⟩, 16) := ⟨⟨by decide +kernel, by decide +kernel⟩, List.mem_of_getElem? (i := 19) (by decide +kernel), List.mem_of_getElem? (i := 274) (by decide +kernel), List.mem_of_getElem? (i := 275) (by decide +kernel)⟩
theorem lw_p22 : lw_okq (⟨"NeedOnce$Cells", "isAwake", "(I)Z"⟩, 16) := ⟨⟨by decide +kernel, by decide +kernel⟩, List.mem_of_getElem? (i := 19) (by decide +kernel), List.mem_of_getElem? (i := 278) (by decide +kernel), List.mem_of_getElem? (i := 279) (by decide +kernel)⟩
theorem lw_p23 : lw_okq (⟨"NeedOnce$Cells", "needAnew", "(I)I"⟩, 16) := ⟨⟨by decide +kernel, by decide +kernel⟩, List.mem_of_getElem? (i := 19) (by decide +kernel), List.mem_of_getElem? (i := 291) (by decide +kernel), List.mem_of_getElem? (i := 292) (by decide +kernel)⟩
theorem lw_p24 : lw_okq (⟨"NeedOnce$Cells", "comeTo", "(II)I"⟩, 16) := ⟨⟨by decide +kernel, by decide +kernel⟩, List.mem_of_getElem? (i := 19) (by decide +kernel), List.mem_of_getElem? (i := 296) (by decide +kernel), List.mem_of_getElem? (i := 297) (by decide +kernel)⟩
theorem lw_p25 : lw_okq (⟨"NeedOnce$Cells", "payFor", "(I)V"⟩, 16) := ⟨⟨by decide +kernel, by decide +kernel⟩, List.mem_of_getElem? (i := 19) (by decide +kernel), List.mem_of_getElem? (i := 304) (by decide +kernel), List.mem_of_getElem? (i := 305) (by decide +kernel)⟩
theorem lw_p26 : lw_okq (⟨"NeedOnce$Cells", "workOut", "(II)I"⟩, 16) := ⟨⟨by decide +kernel, by decide +kernel⟩, List.mem_of_getElem? (i := 19) (by decide +kernel), List.mem_of_getElem? (i := 309) (by decide +kernel), List.mem_of_getElem? (i := 310) (by decide +kernel)⟩
theorem lw_p27 : lw_okq (⟨"NeedOnce$Cells", "workOutBoth", "(II)I"⟩, 16) := ⟨⟨by decide +kernel, by decide +kernel⟩, List.mem_of_getElem? (i := 19) (by decide +kernel), List.mem_of_getElem? (i := 314) (by decide +kernel), List.mem_of_getElem? (i := 315) (by decide +kernel)⟩
theorem lw_p28 : lw_okq (⟨"NeedOnce$Cells", "comeToNumber", "(II)I"⟩, 16) := ⟨⟨by decide +kernel, by decide +kernel⟩, List.mem_of_getElem? (i := 19) (by decide +kernel), List.mem_of_getElem? (i := 318) (by decide +kernel), List.mem_of_getElem? (i := 319) (by decide +kernel)⟩
theorem lw_p29 : lw_okq (⟨"NeedOnce$Cells", "workOutChoice", "(II)I"⟩, 16) := ⟨⟨by decide +kernel, by decide +kernel⟩, List.mem_of_getElem? (i := 19) (by decide +kernel), List.mem_of_getElem? (i := 322) (by decide +kernel), List.mem_of_getElem? (i := 323) (by decide +kernel)⟩
theorem lw_p30 : lw_okq (⟨"NeedOnce$Cells", "passOn", "(III)I"⟩, 16) := ⟨⟨by decide +kernel, by decide +kernel⟩, List.mem_of_getElem? (i := 19) (by decide +kernel), List.mem_of_getElem? (i := 326) (by decide +kernel), List.mem_of_getElem? (i := 327) (by decide +kernel)⟩
theorem lw_p31 : lw_okq (⟨"NeedOnce$Cells", "workOutOfPair", "(II)I"⟩, 16) := ⟨⟨by decide +kernel, by decide +kernel⟩, List.mem_of_getElem? (i := 19) (by decide +kernel), List.mem_of_getElem? (i := 330) (by decide +kernel), List.mem_of_getElem? (i := 331) (by decide +kernel)⟩
def lw_privs_2 : List (MethodName × Nat) := [(⟨"NeedOnce$Cells", "partAsTold", "(II)I"⟩, 16), (⟨"NeedOnce$Cells", "becomeLike", "(LNeedOnce$Cells;)V"⟩, 16), (⟨"NeedOnce$Cells", "startLatest", "()V"⟩, 16), (⟨"NeedOnce$Cells", "has", "(I)Z"⟩, 16), (⟨"NeedOnce$Cells", "costOf", "(I)I"⟩, 16), (⟨"NeedOnce$Cells", "formNow", "(I)I"⟩, 16), (⟨"NeedOnce$Cells", "isAwake", "(I)Z"⟩, 16), (⟨"NeedOnce$Cells", "needAnew", "(I)I"⟩, 16), (⟨"NeedOnce$Cells", "comeTo", "(II)I"⟩, 16), (⟨"NeedOnce$Cells", "payFor", "(I)V"⟩, 16), (⟨"NeedOnce$Cells", "workOut", "(II)I"⟩, 16), (⟨"NeedOnce$Cells", "workOutBoth", "(II)I"⟩, 16), (⟨"NeedOnce$Cells", "comeToNumber", "(II)I"⟩, 16), (⟨"NeedOnce$Cells", "workOutChoice", "(II)I"⟩, 16), (⟨"NeedOnce$Cells", "passOn", "(III)I"⟩, 16), (⟨"NeedOnce$Cells", "workOutOfPair", "(II)I"⟩, 16)]
theorem lw_r2 : ∀ q ∈ lw_privs_2, lw_okq q := List.forall_mem_cons.mpr ⟨lw_p16, List.forall_mem_cons.mpr ⟨lw_p17, List.forall_mem_cons.mpr ⟨lw_p18, List.forall_mem_cons.mpr ⟨lw_p19, List.forall_mem_cons.mpr ⟨lw_p20, List.forall_mem_cons.mpr ⟨lw_p21, List.forall_mem_cons.mpr ⟨lw_p22, List.forall_mem_cons.mpr ⟨lw_p23, List.forall_mem_cons.mpr ⟨lw_p24, List.forall_mem_cons.mpr ⟨lw_p25, List.forall_mem_cons.mpr ⟨lw_p26, List.forall_mem_cons.mpr ⟨lw_p27, List.forall_mem_cons.mpr ⟨lw_p28, List.forall_mem_cons.mpr ⟨lw_p29, List.forall_mem_cons.mpr ⟨lw_p30, List.forall_mem_cons.mpr ⟨lw_p31, fun _ h => absurd h List.not_mem_nil⟩⟩⟩⟩⟩⟩⟩⟩⟩⟩⟩⟩⟩⟩⟩⟩
theorem lw_p32 : lw_okq (⟨"NeedOnce$Cells", "partOfPair", "(II)I"⟩, 16) := ⟨⟨by decide +kernel, by decide +kernel⟩, List.mem_of_getElem? (i := 19) (by decide +kernel), List.mem_of_getElem? (i := 334) (by decide +kernel), List.mem_of_getElem? (i := 335) (by decide +kernel)⟩
theorem lw_p33 : lw_okq (⟨"NeedOnce$Cells", "keep", "(II)V"⟩, 16) := ⟨⟨by decide +kernel, by decide +kernel⟩, List.mem_of_getElem? (i := 19) (by decide +kernel), List.mem_of_getElem? (i := 338) (by decide +kernel), List.mem_of_getElem? (i := 339) (by decide +kernel)⟩
theorem lw_p34 : lw_okq (⟨"NeedOnce$Cells", "howManyAwake", "()I"⟩, 16) := ⟨⟨by decide +kernel, by decide +kernel⟩, List.mem_of_getElem? (i := 19) (by decide +kernel), List.mem_of_getElem? (i := 354) (by decide +kernel), List.mem_of_getElem? (i := 355) (by decide +kernel)⟩
theorem lw_p35 : lw_okq (⟨"NeedOnce$Cells", "makeLinks", "()I"⟩, 16) := ⟨⟨by decide +kernel, by decide +kernel⟩, List.mem_of_getElem? (i := 19) (by decide +kernel), List.mem_of_getElem? (i := 363) (by decide +kernel), List.mem_of_getElem? (i := 364) (by decide +kernel)⟩
theorem lw_p36 : lw_okq (⟨"NeedOnce$Cells", "canBeLink", "(I)Z"⟩, 16) := ⟨⟨by decide +kernel, by decide +kernel⟩, List.mem_of_getElem? (i := 19) (by decide +kernel), List.mem_of_getElem? (i := 367) (by decide +kernel), List.mem_of_getElem? (i := 368) (by decide +kernel)⟩
theorem lw_p37 : lw_okq (⟨"NeedOnce$Cells", "heldBy", "(I)I"⟩, 16) := ⟨⟨by decide +kernel, by decide +kernel⟩, List.mem_of_getElem? (i := 19) (by decide +kernel), List.mem_of_getElem? (i := 375) (by decide +kernel), List.mem_of_getElem? (i := 376) (by decide +kernel)⟩
theorem lw_p38 : lw_okq (⟨"NeedOnce$Cells", "heldDirectly", "(I)I"⟩, 16) := ⟨⟨by decide +kernel, by decide +kernel⟩, List.mem_of_getElem? (i := 19) (by decide +kernel), List.mem_of_getElem? (i := 379) (by decide +kernel), List.mem_of_getElem? (i := 380) (by decide +kernel)⟩
theorem lw_p39 : lw_okq (⟨"NeedOnce$Cells", "timesPlainly", "(I)I"⟩, 16) := ⟨⟨by decide +kernel, by decide +kernel⟩, List.mem_of_getElem? (i := 19) (by decide +kernel), List.mem_of_getElem? (i := 387) (by decide +kernel), List.mem_of_getElem? (i := 388) (by decide +kernel)⟩
theorem lw_p40 : lw_okq (⟨"NeedOnce", "areActs", "(III)Z"⟩, 7) := ⟨⟨by decide +kernel, by decide +kernel⟩, List.mem_of_getElem? (i := 11) (by decide +kernel), List.mem_of_getElem? (i := 399) (by decide +kernel), List.mem_of_getElem? (i := 400) (by decide +kernel)⟩
theorem lw_p41 : lw_okq (⟨"NeedOnce", "doActs", "(III)I"⟩, 7) := ⟨⟨by decide +kernel, by decide +kernel⟩, List.mem_of_getElem? (i := 11) (by decide +kernel), List.mem_of_getElem? (i := 407) (by decide +kernel), List.mem_of_getElem? (i := 408) (by decide +kernel)⟩
theorem lw_p42 : lw_okq (⟨"NeedOnce", "canDo", "(II)Z"⟩, 7) := ⟨⟨by decide +kernel, by decide +kernel⟩, List.mem_of_getElem? (i := 11) (by decide +kernel), List.mem_of_getElem? (i := 411) (by decide +kernel), List.mem_of_getElem? (i := 412) (by decide +kernel)⟩
theorem lw_p43 : lw_okq (⟨"NeedOnce", "afterDay", "(I)I"⟩, 7) := ⟨⟨by decide +kernel, by decide +kernel⟩, List.mem_of_getElem? (i := 11) (by decide +kernel), List.mem_of_getElem? (i := 415) (by decide +kernel), List.mem_of_getElem? (i := 416) (by decide +kernel)⟩
theorem lw_p44 : lw_okq (⟨"NeedOnce$Cells", "howManyLinks", "()I"⟩, 16) := ⟨⟨by decide +kernel, by decide +kernel⟩, List.mem_of_getElem? (i := 19) (by decide +kernel), List.mem_of_getElem? (i := 419) (by decide +kernel), List.mem_of_getElem? (i := 420) (by decide +kernel)⟩
theorem lw_p45 : lw_okq (⟨"NeedOnce$Readings", "add", "(II)I"⟩, 3) := ⟨⟨by decide +kernel, by decide +kernel⟩, List.mem_of_getElem? (i := 112) (by decide +kernel), List.mem_of_getElem? (i := 427) (by decide +kernel), List.mem_of_getElem? (i := 428) (by decide +kernel)⟩
theorem lw_p46 : lw_okq (⟨"NeedOnce$Readings", "areSo", "(LNeedOnce$Cells;)Z"⟩, 3) := ⟨⟨by decide +kernel, by decide +kernel⟩, List.mem_of_getElem? (i := 112) (by decide +kernel), List.mem_of_getElem? (i := 439) (by decide +kernel), List.mem_of_getElem? (i := 440) (by decide +kernel)⟩
theorem lw_p47 : lw_okq (⟨"NeedOnce$Cells", "costFromAsleep", "(I)I"⟩, 16) := ⟨⟨by decide +kernel, by decide +kernel⟩, List.mem_of_getElem? (i := 19) (by decide +kernel), List.mem_of_getElem? (i := 443) (by decide +kernel), List.mem_of_getElem? (i := 444) (by decide +kernel)⟩
def lw_privs_3 : List (MethodName × Nat) := [(⟨"NeedOnce$Cells", "partOfPair", "(II)I"⟩, 16), (⟨"NeedOnce$Cells", "keep", "(II)V"⟩, 16), (⟨"NeedOnce$Cells", "howManyAwake", "()I"⟩, 16), (⟨"NeedOnce$Cells", "makeLinks", "()I"⟩, 16), (⟨"NeedOnce$Cells", "canBeLink", "(I)Z"⟩, 16), (⟨"NeedOnce$Cells", "heldBy", "(I)I"⟩, 16), (⟨"NeedOnce$Cells", "heldDirectly", "(I)I"⟩, 16), (⟨"NeedOnce$Cells", "timesPlainly", "(I)I"⟩, 16), (⟨"NeedOnce", "areActs", "(III)Z"⟩, 7), (⟨"NeedOnce", "doActs", "(III)I"⟩, 7), (⟨"NeedOnce", "canDo", "(II)Z"⟩, 7), (⟨"NeedOnce", "afterDay", "(I)I"⟩, 7), (⟨"NeedOnce$Cells", "howManyLinks", "()I"⟩, 16), (⟨"NeedOnce$Readings", "add", "(II)I"⟩, 3), (⟨"NeedOnce$Readings", "areSo", "(LNeedOnce$Cells;)Z"⟩, 3), (⟨"NeedOnce$Cells", "costFromAsleep", "(I)I"⟩, 16)]
theorem lw_r3 : ∀ q ∈ lw_privs_3, lw_okq q := List.forall_mem_cons.mpr ⟨lw_p32, List.forall_mem_cons.mpr ⟨lw_p33, List.forall_mem_cons.mpr ⟨lw_p34, List.forall_mem_cons.mpr ⟨lw_p35, List.forall_mem_cons.mpr ⟨lw_p36, List.forall_mem_cons.mpr ⟨lw_p37, List.forall_mem_cons.mpr ⟨lw_p38, List.forall_mem_cons.mpr ⟨lw_p39, List.forall_mem_cons.mpr ⟨lw_p40, List.forall_mem_cons.mpr ⟨lw_p41, List.forall_mem_cons.mpr ⟨lw_p42, List.forall_mem_cons.mpr ⟨lw_p43, List.forall_mem_cons.mpr ⟨lw_p44, List.forall_mem_cons.mpr ⟨lw_p45, List.forall_mem_cons.mpr ⟨lw_p46, List.forall_mem_cons.mpr ⟨lw_p47, fun _ h => absurd h List.not_mem_nil⟩⟩⟩⟩⟩⟩⟩⟩⟩⟩⟩⟩⟩⟩⟩⟩
theorem lw_p48 : lw_okq (⟨"NeedOnce", "timesItComesTo", "(III)I"⟩, 7) := ⟨⟨by decide +kernel, by decide +kernel⟩, List.mem_of_getElem? (i := 11) (by decide +kernel), List.mem_of_getElem? (i := 456) (by decide +kernel), List.mem_of_getElem? (i := 457) (by decide +kernel)⟩
theorem lw_p49 : lw_okq (⟨"NeedOnce$Sheets", "makeRow", "(III)V"⟩, 3) := ⟨⟨by decide +kernel, by decide +kernel⟩, List.mem_of_getElem? (i := 129) (by decide +kernel), List.mem_of_getElem? (i := 468) (by decide +kernel), List.mem_of_getElem? (i := 469) (by decide +kernel)⟩
theorem lw_p50 : lw_okq (⟨"NeedOnce$Sheets", "setCut", "(III)V"⟩, 3) := ⟨⟨by decide +kernel, by decide +kernel⟩, List.mem_of_getElem? (i := 129) (by decide +kernel), List.mem_of_getElem? (i := 481) (by decide +kernel), List.mem_of_getElem? (i := 482) (by decide +kernel)⟩
theorem lw_p51 : lw_okq (⟨"NeedOnce$Sheets", "moveFault", "(IIIII)I"⟩, 3) := ⟨⟨by decide +kernel, by decide +kernel⟩, List.mem_of_getElem? (i := 129) (by decide +kernel), List.mem_of_getElem? (i := 493) (by decide +kernel), List.mem_of_getElem? (i := 494) (by decide +kernel)⟩
theorem lw_p52 : lw_okq (⟨"NeedOnce$Sheets", "move", "(IIIII)V"⟩, 3) := ⟨⟨by decide +kernel, by decide +kernel⟩, List.mem_of_getElem? (i := 129) (by decide +kernel), List.mem_of_getElem? (i := 497) (by decide +kernel), List.mem_of_getElem? (i := 498) (by decide +kernel)⟩
theorem lw_p53 : lw_okq (⟨"NeedOnce", "tellDouble", "(I)I"⟩, 7) := ⟨⟨by decide +kernel, by decide +kernel⟩, List.mem_of_getElem? (i := 11) (by decide +kernel), List.mem_of_getElem? (i := 506) (by decide +kernel), List.mem_of_getElem? (i := 507) (by decide +kernel)⟩
theorem lw_p54 : lw_okq (⟨"NeedOnce", "leaveTrace", "(I)V"⟩, 7) := ⟨⟨by decide +kernel, by decide +kernel⟩, List.mem_of_getElem? (i := 11) (by decide +kernel), List.mem_of_getElem? (i := 510) (by decide +kernel), List.mem_of_getElem? (i := 511) (by decide +kernel)⟩
theorem lw_p55 : lw_okq (⟨"NeedOnce", "tellDear", "(I)I"⟩, 7) := ⟨⟨by decide +kernel, by decide +kernel⟩, List.mem_of_getElem? (i := 11) (by decide +kernel), List.mem_of_getElem? (i := 514) (by decide +kernel), List.mem_of_getElem? (i := 515) (by decide +kernel)⟩
theorem lw_p56 : lw_okq (⟨"NeedOnce", "tellPlain", "(I)I"⟩, 7) := ⟨⟨by decide +kernel, by decide +kernel⟩, List.mem_of_getElem? (i := 11) (by decide +kernel), List.mem_of_getElem? (i := 518) (by decide +kernel), List.mem_of_getElem? (i := 519) (by decide +kernel)⟩
theorem lw_p57 : lw_okq (⟨"NeedOnceModel", "refused", "(I)I"⟩, 49) := ⟨⟨by decide +kernel, by decide +kernel⟩, List.mem_of_getElem? (i := 542) (by decide +kernel), List.mem_of_getElem? (i := 707) (by decide +kernel), List.mem_of_getElem? (i := 708) (by decide +kernel)⟩
theorem lw_p58 : lw_okq (⟨"NeedOnceModel", "cellsBarred", "(IIIJ)I"⟩, 49) := ⟨⟨by decide +kernel, by decide +kernel⟩, List.mem_of_getElem? (i := 542) (by decide +kernel), List.mem_of_getElem? (i := 712) (by decide +kernel), List.mem_of_getElem? (i := 713) (by decide +kernel)⟩
theorem lw_p59 : lw_okq (⟨"NeedOnceModel", "failed", "(I)I"⟩, 49) := ⟨⟨by decide +kernel, by decide +kernel⟩, List.mem_of_getElem? (i := 542) (by decide +kernel), List.mem_of_getElem? (i := 716) (by decide +kernel), List.mem_of_getElem? (i := 717) (by decide +kernel)⟩
theorem lw_p60 : lw_okq (⟨"NeedOnceModel", "readsCells", "(II)Z"⟩, 49) := ⟨⟨by decide +kernel, by decide +kernel⟩, List.mem_of_getElem? (i := 542) (by decide +kernel), List.mem_of_getElem? (i := 723) (by decide +kernel), List.mem_of_getElem? (i := 724) (by decide +kernel)⟩
theorem lw_p61 : lw_okq (⟨"NeedOnceModel", "codeAt", "(II)I"⟩, 49) := ⟨⟨by decide +kernel, by decide +kernel⟩, List.mem_of_getElem? (i := 542) (by decide +kernel), List.mem_of_getElem? (i := 727) (by decide +kernel), List.mem_of_getElem? (i := 728) (by decide +kernel)⟩
theorem lw_p62 : lw_okq (⟨"NeedOnceModel", "readsCell", "(II)Z"⟩, 49) := ⟨⟨by decide +kernel, by decide +kernel⟩, List.mem_of_getElem? (i := 542) (by decide +kernel), List.mem_of_getElem? (i := 731) (by decide +kernel), List.mem_of_getElem? (i := 732) (by decide +kernel)⟩
theorem lw_p63 : lw_okq (⟨"NeedOnceModel", "readsForm", "(II)Z"⟩, 49) := ⟨⟨by decide +kernel, by decide +kernel⟩, List.mem_of_getElem? (i := 542) (by decide +kernel), List.mem_of_getElem? (i := 736) (by decide +kernel), List.mem_of_getElem? (i := 737) (by decide +kernel)⟩
def lw_privs_4 : List (MethodName × Nat) := [(⟨"NeedOnce", "timesItComesTo", "(III)I"⟩, 7), (⟨"NeedOnce$Sheets", "makeRow", "(III)V"⟩, 3), (⟨"NeedOnce$Sheets", "setCut", "(III)V"⟩, 3), (⟨"NeedOnce$Sheets", "moveFault", "(IIIII)I"⟩, 3), (⟨"NeedOnce$Sheets", "move", "(IIIII)V"⟩, 3), (⟨"NeedOnce", "tellDouble", "(I)I"⟩, 7), (⟨"NeedOnce", "leaveTrace", "(I)V"⟩, 7), (⟨"NeedOnce", "tellDear", "(I)I"⟩, 7), (⟨"NeedOnce", "tellPlain", "(I)I"⟩, 7), (⟨"NeedOnceModel", "refused", "(I)I"⟩, 49), (⟨"NeedOnceModel", "cellsBarred", "(IIIJ)I"⟩, 49), (⟨"NeedOnceModel", "failed", "(I)I"⟩, 49), (⟨"NeedOnceModel", "readsCells", "(II)Z"⟩, 49), (⟨"NeedOnceModel", "codeAt", "(II)I"⟩, 49), (⟨"NeedOnceModel", "readsCell", "(II)Z"⟩, 49), (⟨"NeedOnceModel", "readsForm", "(II)Z"⟩, 49)]
theorem lw_r4 : ∀ q ∈ lw_privs_4, lw_okq q := List.forall_mem_cons.mpr ⟨lw_p48, List.forall_mem_cons.mpr ⟨lw_p49, List.forall_mem_cons.mpr ⟨lw_p50, List.forall_mem_cons.mpr ⟨lw_p51, List.forall_mem_cons.mpr ⟨lw_p52, List.forall_mem_cons.mpr ⟨lw_p53, List.forall_mem_cons.mpr ⟨lw_p54, List.forall_mem_cons.mpr ⟨lw_p55, List.forall_mem_cons.mpr ⟨lw_p56, List.forall_mem_cons.mpr ⟨lw_p57, List.forall_mem_cons.mpr ⟨lw_p58, List.forall_mem_cons.mpr ⟨lw_p59, List.forall_mem_cons.mpr ⟨lw_p60, List.forall_mem_cons.mpr ⟨lw_p61, List.forall_mem_cons.mpr ⟨lw_p62, List.forall_mem_cons.mpr ⟨lw_p63, fun _ h => absurd h List.not_mem_nil⟩⟩⟩⟩⟩⟩⟩⟩⟩⟩⟩⟩⟩⟩⟩⟩
theorem lw_p64 : lw_okq (⟨"NeedOnceModel", "looseOne", "()I"⟩, 49) := ⟨⟨by decide +kernel, by decide +kernel⟩, List.mem_of_getElem? (i := 542) (by decide +kernel), List.mem_of_getElem? (i := 747) (by decide +kernel), List.mem_of_getElem? (i := 748) (by decide +kernel)⟩
theorem lw_p65 : lw_okq (⟨"NeedOnceModel", "allAsleep", "()V"⟩, 49) := ⟨⟨by decide +kernel, by decide +kernel⟩, List.mem_of_getElem? (i := 542) (by decide +kernel), List.mem_of_getElem? (i := 751) (by decide +kernel), List.mem_of_getElem? (i := 752) (by decide +kernel)⟩
theorem lw_p66 : lw_okq (⟨"NeedOnceModel", "noOne", "(I)Z"⟩, 49) := ⟨⟨by decide +kernel, by decide +kernel⟩, List.mem_of_getElem? (i := 542) (by decide +kernel), List.mem_of_getElem? (i := 759) (by decide +kernel), List.mem_of_getElem? (i := 760) (by decide +kernel)⟩
theorem lw_p67 : lw_okq (⟨"NeedOnceModel", "cost", "(I)I"⟩, 49) := ⟨⟨by decide +kernel, by decide +kernel⟩, List.mem_of_getElem? (i := 542) (by decide +kernel), List.mem_of_getElem? (i := 765) (by decide +kernel), List.mem_of_getElem? (i := 766) (by decide +kernel)⟩
theorem lw_p68 : lw_okq (⟨"NeedOnceModel", "needs", "(I)I"⟩, 49) := ⟨⟨by decide +kernel, by decide +kernel⟩, List.mem_of_getElem? (i := 542) (by decide +kernel), List.mem_of_getElem? (i := 780) (by decide +kernel), List.mem_of_getElem? (i := 781) (by decide +kernel)⟩
theorem lw_p69 : lw_okq (⟨"NeedOnceModel", "wants", "(I)V"⟩, 49) := ⟨⟨by decide +kernel, by decide +kernel⟩, List.mem_of_getElem? (i := 542) (by decide +kernel), List.mem_of_getElem? (i := 784) (by decide +kernel), List.mem_of_getElem? (i := 785) (by decide +kernel)⟩
theorem lw_p70 : lw_okq (⟨"NeedOnceModel", "isOn", "(I)Z"⟩, 49) := ⟨⟨by decide +kernel, by decide +kernel⟩, List.mem_of_getElem? (i := 542) (by decide +kernel), List.mem_of_getElem? (i := 788) (by decide +kernel), List.mem_of_getElem? (i := 789) (by decide +kernel)⟩
theorem lw_p71 : lw_okq (⟨"NeedOnceModel", "goesOn", "()V"⟩, 49) := ⟨⟨by decide +kernel, by decide +kernel⟩, List.mem_of_getElem? (i := 542) (by decide +kernel), List.mem_of_getElem? (i := 792) (by decide +kernel), List.mem_of_getElem? (i := 793) (by decide +kernel)⟩
theorem lw_p72 : lw_okq (⟨"NeedOnceModel", "begins", "(I)V"⟩, 49) := ⟨⟨by decide +kernel, by decide +kernel⟩, List.mem_of_getElem? (i := 542) (by decide +kernel), List.mem_of_getElem? (i := 796) (by decide +kernel), List.mem_of_getElem? (i := 797) (by decide +kernel)⟩
theorem lw_p73 : lw_okq (⟨"NeedOnceModel", "isDone", "(I)V"⟩, 49) := ⟨⟨by decide +kernel, by decide +kernel⟩, List.mem_of_getElem? (i := 542) (by decide +kernel), List.mem_of_getElem? (i := 800) (by decide +kernel), List.mem_of_getElem? (i := 801) (by decide +kernel)⟩
theorem lw_p74 : lw_okq (⟨"NeedOnceModel", "hasFirst", "(I)V"⟩, 49) := ⟨⟨by decide +kernel, by decide +kernel⟩, List.mem_of_getElem? (i := 542) (by decide +kernel), List.mem_of_getElem? (i := 804) (by decide +kernel), List.mem_of_getElem? (i := 805) (by decide +kernel)⟩
theorem lw_p75 : lw_okq (⟨"NeedOnceModel", "hasSecond", "(I)V"⟩, 49) := ⟨⟨by decide +kernel, by decide +kernel⟩, List.mem_of_getElem? (i := 542) (by decide +kernel), List.mem_of_getElem? (i := 808) (by decide +kernel), List.mem_of_getElem? (i := 809) (by decide +kernel)⟩
theorem lw_p76 : lw_okq (⟨"NeedOnceModel", "awakeOnes", "()I"⟩, 49) := ⟨⟨by decide +kernel, by decide +kernel⟩, List.mem_of_getElem? (i := 542) (by decide +kernel), List.mem_of_getElem? (i := 825) (by decide +kernel), List.mem_of_getElem? (i := 826) (by decide +kernel)⟩
theorem lw_p77 : lw_okq (⟨"NeedOnceModel", "nextToShorten", "()I"⟩, 49) := ⟨⟨by decide +kernel, by decide +kernel⟩, List.mem_of_getElem? (i := 542) (by decide +kernel), List.mem_of_getElem? (i := 833) (by decide +kernel), List.mem_of_getElem? (i := 834) (by decide +kernel)⟩
theorem lw_p78 : lw_okq (⟨"NeedOnceModel", "heldBy", "(I)I"⟩, 49) := ⟨⟨by decide +kernel, by decide +kernel⟩, List.mem_of_getElem? (i := 542) (by decide +kernel), List.mem_of_getElem? (i := 842) (by decide +kernel), List.mem_of_getElem? (i := 843) (by decide +kernel)⟩
theorem lw_p79 : lw_okq (⟨"NeedOnceModel", "holds", "(I)I"⟩, 49) := ⟨⟨by decide +kernel, by decide +kernel⟩, List.mem_of_getElem? (i := 542) (by decide +kernel), List.mem_of_getElem? (i := 846) (by decide +kernel), List.mem_of_getElem? (i := 847) (by decide +kernel)⟩
def lw_privs_5 : List (MethodName × Nat) := [(⟨"NeedOnceModel", "looseOne", "()I"⟩, 49), (⟨"NeedOnceModel", "allAsleep", "()V"⟩, 49), (⟨"NeedOnceModel", "noOne", "(I)Z"⟩, 49), (⟨"NeedOnceModel", "cost", "(I)I"⟩, 49), (⟨"NeedOnceModel", "needs", "(I)I"⟩, 49), (⟨"NeedOnceModel", "wants", "(I)V"⟩, 49), (⟨"NeedOnceModel", "isOn", "(I)Z"⟩, 49), (⟨"NeedOnceModel", "goesOn", "()V"⟩, 49), (⟨"NeedOnceModel", "begins", "(I)V"⟩, 49), (⟨"NeedOnceModel", "isDone", "(I)V"⟩, 49), (⟨"NeedOnceModel", "hasFirst", "(I)V"⟩, 49), (⟨"NeedOnceModel", "hasSecond", "(I)V"⟩, 49), (⟨"NeedOnceModel", "awakeOnes", "()I"⟩, 49), (⟨"NeedOnceModel", "nextToShorten", "()I"⟩, 49), (⟨"NeedOnceModel", "heldBy", "(I)I"⟩, 49), (⟨"NeedOnceModel", "holds", "(I)I"⟩, 49)]
theorem lw_r5 : ∀ q ∈ lw_privs_5, lw_okq q := List.forall_mem_cons.mpr ⟨lw_p64, List.forall_mem_cons.mpr ⟨lw_p65, List.forall_mem_cons.mpr ⟨lw_p66, List.forall_mem_cons.mpr ⟨lw_p67, List.forall_mem_cons.mpr ⟨lw_p68, List.forall_mem_cons.mpr ⟨lw_p69, List.forall_mem_cons.mpr ⟨lw_p70, List.forall_mem_cons.mpr ⟨lw_p71, List.forall_mem_cons.mpr ⟨lw_p72, List.forall_mem_cons.mpr ⟨lw_p73, List.forall_mem_cons.mpr ⟨lw_p74, List.forall_mem_cons.mpr ⟨lw_p75, List.forall_mem_cons.mpr ⟨lw_p76, List.forall_mem_cons.mpr ⟨lw_p77, List.forall_mem_cons.mpr ⟨lw_p78, List.forall_mem_cons.mpr ⟨lw_p79, fun _ h => absurd h List.not_mem_nil⟩⟩⟩⟩⟩⟩⟩⟩⟩⟩⟩⟩⟩⟩⟩⟩
theorem lw_p80 : lw_okq (⟨"NeedOnceModel", "keeps", "()V"⟩, 49) := ⟨⟨by decide +kernel, by decide +kernel⟩, List.mem_of_getElem? (i := 542) (by decide +kernel), List.mem_of_getElem? (i := 864) (by decide +kernel), List.mem_of_getElem? (i := 865) (by decide +kernel)⟩
theorem lw_p81 : lw_okq (⟨"NeedOnceModel", "dayOf", "(III)I"⟩, 49) := ⟨⟨by decide +kernel, by decide +kernel⟩, List.mem_of_getElem? (i := 542) (by decide +kernel), List.mem_of_getElem? (i := 868) (by decide +kernel), List.mem_of_getElem? (i := 869) (by decide +kernel)⟩
theorem lw_p82 : lw_okq (⟨"NeedOnceModel", "doesPair", "(II)Z"⟩, 49) := ⟨⟨by decide +kernel, by decide +kernel⟩, List.mem_of_getElem? (i := 542) (by decide +kernel), List.mem_of_getElem? (i := 872) (by decide +kernel), List.mem_of_getElem? (i := 873) (by decide +kernel)⟩
theorem lw_p83 : lw_okq (⟨"NeedOnceModel", "needsOnly", "(I)Z"⟩, 49) := ⟨⟨by decide +kernel, by decide +kernel⟩, List.mem_of_getElem? (i := 542) (by decide +kernel), List.mem_of_getElem? (i := 876) (by decide +kernel), List.mem_of_getElem? (i := 877) (by decide +kernel)⟩
theorem lw_p84 : lw_okq (⟨"NeedOnceModel", "links", "()I"⟩, 49) := ⟨⟨by decide +kernel, by decide +kernel⟩, List.mem_of_getElem? (i := 542) (by decide +kernel), List.mem_of_getElem? (i := 883) (by decide +kernel), List.mem_of_getElem? (i := 884) (by decide +kernel)⟩
theorem lw_p85 : lw_okq (⟨"NeedOnceModel", "bringsBack", "()V"⟩, 49) := ⟨⟨by decide +kernel, by decide +kernel⟩, List.mem_of_getElem? (i := 542) (by decide +kernel), List.mem_of_getElem? (i := 887) (by decide +kernel), List.mem_of_getElem? (i := 888) (by decide +kernel)⟩
theorem lw_p86 : lw_okq (⟨"NeedOnceModel", "areSo", "()Z"⟩, 49) := ⟨⟨by decide +kernel, by decide +kernel⟩, List.mem_of_getElem? (i := 542) (by decide +kernel), List.mem_of_getElem? (i := 904) (by decide +kernel), List.mem_of_getElem? (i := 905) (by decide +kernel)⟩
theorem lw_p87 : lw_okq (⟨"NeedOnceModel", "noCell", "(II)I"⟩, 49) := ⟨⟨by decide +kernel, by decide +kernel⟩, List.mem_of_getElem? (i := 542) (by decide +kernel), List.mem_of_getElem? (i := 936) (by decide +kernel), List.mem_of_getElem? (i := 937) (by decide +kernel)⟩
theorem lw_p88 : lw_okq (⟨"NeedOnceModel", "failedLong", "(I)J"⟩, 49) := ⟨⟨by decide +kernel, by decide +kernel⟩, List.mem_of_getElem? (i := 542) (by decide +kernel), List.mem_of_getElem? (i := 944) (by decide +kernel), List.mem_of_getElem? (i := 945) (by decide +kernel)⟩
theorem lw_p89 : lw_okq (⟨"NeedOnceModel", "traced", "(I)V"⟩, 49) := ⟨⟨by decide +kernel, by decide +kernel⟩, List.mem_of_getElem? (i := 542) (by decide +kernel), List.mem_of_getElem? (i := 956) (by decide +kernel), List.mem_of_getElem? (i := 957) (by decide +kernel)⟩
def lw_privs_6 : List (MethodName × Nat) := [(⟨"NeedOnceModel", "keeps", "()V"⟩, 49), (⟨"NeedOnceModel", "dayOf", "(III)I"⟩, 49), (⟨"NeedOnceModel", "doesPair", "(II)Z"⟩, 49), (⟨"NeedOnceModel", "needsOnly", "(I)Z"⟩, 49), (⟨"NeedOnceModel", "links", "()I"⟩, 49), (⟨"NeedOnceModel", "bringsBack", "()V"⟩, 49), (⟨"NeedOnceModel", "areSo", "()Z"⟩, 49), (⟨"NeedOnceModel", "noCell", "(II)I"⟩, 49), (⟨"NeedOnceModel", "failedLong", "(I)J"⟩, 49), (⟨"NeedOnceModel", "traced", "(I)V"⟩, 49)]
theorem lw_r6 : ∀ q ∈ lw_privs_6, lw_okq q := List.forall_mem_cons.mpr ⟨lw_p80, List.forall_mem_cons.mpr ⟨lw_p81, List.forall_mem_cons.mpr ⟨lw_p82, List.forall_mem_cons.mpr ⟨lw_p83, List.forall_mem_cons.mpr ⟨lw_p84, List.forall_mem_cons.mpr ⟨lw_p85, List.forall_mem_cons.mpr ⟨lw_p86, List.forall_mem_cons.mpr ⟨lw_p87, List.forall_mem_cons.mpr ⟨lw_p88, List.forall_mem_cons.mpr ⟨lw_p89, fun _ h => absurd h List.not_mem_nil⟩⟩⟩⟩⟩⟩⟩⟩⟩⟩
def lw_privs : List (MethodName × Nat) := lw_privs_1 ++ (lw_privs_2 ++ (lw_privs_3 ++ (lw_privs_4 ++ (lw_privs_5 ++ (lw_privs_6)))))
def lw_tbl : List Cond := k2_sels lw_privs ++ tables_1
theorem lw_privs_ok : ∀ q ∈ lw_privs, lw_okq q := by
  show ∀ q ∈ lw_privs_1 ++ (lw_privs_2 ++ (lw_privs_3 ++ (lw_privs_4 ++ (lw_privs_5 ++ (lw_privs_6))))), lw_okq q
  exact List.forall_mem_append.mpr ⟨lw_r1, List.forall_mem_append.mpr ⟨lw_r2, List.forall_mem_append.mpr ⟨lw_r3, List.forall_mem_append.mpr ⟨lw_r4, List.forall_mem_append.mpr ⟨lw_r5, lw_r6⟩⟩⟩⟩⟩
-- ===== end of PART A; then your names; then what follows =====
end
section
/-! ===== 01: a world of fixed shape, its memory, the judgement nk_Sim, contracts nk_Ct ===== -/
/-- what the cells of a world hold: cell, slot -/
abbrev nk_M : Type := Nat → Nat → Int32
def nk_upA (μ : nk_M) (k : Nat) (f : Nat → Int32) : nk_M := fun a => if a = k then f else μ a
def nk_up (μ : nk_M) (k j : Nat) (v : Int32) : nk_M := nk_upA μ k (upd (μ k) j v)
/-- a cell's shape: an object (class, its fields: an int, or a fixed reference), a row of numbers (type, length), a row of rows (length, the first row's cell) -/
abbrev nk_S : Type := (Nat × List (Option Nat)) ⊕ ((FieldType × Nat) ⊕ (Nat × Nat))
/-- a static table: class, name, descriptor, type, length, contents -/
abbrev nk_T : Type := String × String × String × FieldType × Nat × (Nat → Int32)
/-- a world's description: classes, shapes, how many cells, static tables -/
abbrev nk_D : Type := List vw_C × (Nat → nk_S) × Nat × List nk_T
/-- where a world lies: class numbers, addresses, array classes, addresses of static tables, the cells that may change -/
abbrev nk_V : Type := va_G × (Nat → Nat) × (Nat → ClassId) × (Nat → Nat) × (Nat → Prop)
/-- the machine in a method -/
abbrev nk_X : Type := Program × Launch × Env × Room × State × MethodId × Array Value × List Frame × Method × Code
abbrev nk_r (G : nk_V) (k : Nat) : Value := .ref (G.2.1 k)
def nk_fv (G : nk_V) (f : Nat → Int32) (fl : List (Option Nat)) (j : Nat) : Value := match fl.getD j none with
  | none => .int (f j)
  | some r => .ref (G.2.1 r)
def nk_flds (G : nk_V) (fl : List (Option Nat)) (f : Nat → Int32) : List Value := (List.range fl.length).map (nk_fv G f fl)
def nk_cell (G : nk_V) (s : nk_S) (k : Nat) (f : Nat → Int32) : va_E := match s with
  | .inl q => .inr (q.1, nk_flds G q.2 f)
  | .inr (.inl q) => .inl (G.2.2.1 k, q.2, .inl f)
  | .inr (.inr q) => .inl (G.2.2.1 k, q.1, .inr (.inr (.inr (.inr (fun i => some (G.2.1 (q.2 + i)))))))
def nk_wl (w : nk_D) (G : nk_V) (μ : nk_M) : va_W := (List.range w.2.2.1).map (fun k => (G.2.1 k, nk_cell G (w.2.1 k) k (μ k)))
def nk_ty (s : nk_S) : FieldType := match s with
  | .inl _ => .int
  | .inr (.inl q) => q.1
  | .inr (.inr _) => .array .int
def nk_tys (w : nk_D) (G : nk_V) : List (ClassId × FieldType) := (List.range w.2.2.1).map (fun k => (G.2.2.1 k, nk_ty (w.2.1 k)))
theorem nk_wl_get {w : nk_D} {G : nk_V} {μ : nk_M} {k : Nat} (h : k < w.2.2.1) : (nk_wl w G μ)[k]? = some (G.2.1 k, nk_cell G (w.2.1 k) k (μ k)) := by
  simp [nk_wl, h]
theorem nk_tys_get {w : nk_D} {G : nk_V} {k : Nat} (h : k < w.2.2.1) : (nk_tys w G)[k]? = some (G.2.2.1 k, nk_ty (w.2.1 k)) := by
  simp [nk_tys, h]
theorem nk_wl_set {w : nk_D} {G : nk_V} {μ : nk_M} {k : Nat} (f : Nat → Int32) : (nk_wl w G μ).set k (G.2.1 k, nk_cell G (w.2.1 k) k f) = nk_wl w G (nk_upA μ k f) := by
  apply List.ext_getElem?
  intro j
  rw [List.getElem?_set]
  by_cases hj : k = j
  · subst hj
    by_cases hk : k < w.2.2.1
    · rw [nk_wl_get hk]
      simp [nk_wl, hk, nk_upA]
    · simp [nk_wl, hk]
  · simp only [hj, if_false]
    by_cases hk : j < w.2.2.1
    · rw [nk_wl_get hk, nk_wl_get hk]
      simp [nk_upA, Ne.symm hj]
    · simp [nk_wl, hk]
theorem nk_wl_D {w : nk_D} {G : nk_V} {μ : nk_M} {A : Nat → Prop} (h1 : ∀ i j, i < w.2.2.1 → j < w.2.2.1 → G.2.1 i = G.2.1 j → i = j) (h2 : ∀ k, k < w.2.2.1 → A (G.2.1 k)) : va_D A (nk_wl w G μ) := by
  have g : ∀ (k : Nat) (q : Nat × va_E), (nk_wl w G μ)[k]? = some q → k < w.2.2.1 ∧ q.1 = G.2.1 k := fun k q hq => by
    by_cases hk : k < w.2.2.1
    · rw [nk_wl_get hk] at hq
      cases hq
      exact ⟨hk, rfl⟩
    · simp [nk_wl, hk] at hq
  refine ⟨fun i j p q hi hj hpq => ?_, fun k q hk => ?_⟩
  · obtain ⟨a1, a2⟩ := g i p hi
    obtain ⟨b1, b2⟩ := g j q hj
    exact h1 i j a1 b1 (by rw [← a2, ← b2]; exact hpq)
  · obtain ⟨a1, a2⟩ := g k q hk
    rw [a2]
    exact h2 k a1
theorem nk_flds_get {G : nk_V} {fl : List (Option Nat)} {f : Nat → Int32} {j : Nat} {q : Option Nat} (h : fl[j]? = some q) : (nk_flds G fl f)[j]? = some (nk_fv G f fl j) := by
  have hj : j < fl.length := (List.getElem?_eq_some_iff.mp h).1
  simp [nk_flds, hj]
theorem nk_flds_i {G : nk_V} {fl : List (Option Nat)} {f : Nat → Int32} {j : Nat} (h : fl[j]? = some none) : (nk_flds G fl f)[j]? = some (.int (f j)) := by
  rw [nk_flds_get h]
  simp [nk_fv, List.getD, h]
theorem nk_flds_r {G : nk_V} {fl : List (Option Nat)} {f : Nat → Int32} {j r : Nat} (h : fl[j]? = some (some r)) : (nk_flds G fl f)[j]? = some (.ref (G.2.1 r)) := by
  rw [nk_flds_get h]
  simp [nk_fv, List.getD, h]
theorem nk_flds_set {G : nk_V} {fl : List (Option Nat)} {f : Nat → Int32} {j : Nat} (h : fl[j]? = some none) (v : Int32) : (nk_flds G fl f).set j (.int v) = nk_flds G fl (upd f j v) := by
  apply List.ext_getElem?
  intro i
  rw [List.getElem?_set]
  by_cases hj : j = i
  · subst hj
    have hl : j < fl.length := (List.getElem?_eq_some_iff.mp h).1
    rw [nk_flds_i (f := upd f j v) h]
    simp [nk_flds, hl, upd]
  · simp only [hj, if_false]
    by_cases hk : i < fl.length
    · simp only [nk_flds, List.getElem?_map, List.getElem?_range hk, Option.map_some]
      unfold nk_fv
      cases fl.getD i none <;> simp [upd, Ne.symm hj]
    · simp [nk_flds, hk]
/-- the tables' good words -/
def nk_GT : List Cond := lw_tbl.filter goodWord
def nk_nest : Cond → Bool
  | .fieldLinkNest .. => true
  | .methodLinkNest .. => true
  | _ => false
def nk_K (w : nk_D) (G : nk_V) (U : State) : Prop :=
  va_K G.1 w.1 (nk_tys w G) U ∧ (∀ c ∈ tables_1, nk_nest c = true → va_Nw c U) ∧
  (∀ (i : Nat) (q : nk_T), w.2.2.2[i]? = some q → va_Z q.1 q.2.1 q.2.2.1 (.ref (G.2.2.2.1 i)) G.2.2.2.2 U U.heap ∧ va_T q.2.2.2.1 (G.2.2.2.1 i) q.2.2.2.2.1 (fun j => .int (q.2.2.2.2.2 j)) G.2.2.2.2 U U.heap) ∧
  (∀ i j, i < w.2.2.1 → j < w.2.2.1 → G.2.1 i = G.2.1 j → i = j) ∧ ∀ k, k < w.2.2.1 → G.2.2.2.2 (G.2.1 k)
theorem nk_Nw_warm {c : Cond} (hc : nk_nest c = true) {s U : State} (hW : s.WarmedH U.vm) (h : va_Nw c s) : va_Nw c U := by
  cases c <;> first | exact va_Nw.warmF hW h | exact va_Nw.warmM hW h | cases hc
theorem nk_Nw_same {c : Cond} (hc : nk_nest c = true) {u U : State} (hv : u.vm = U.vm) (h : va_Nw c u) : va_Nw c U := by
  cases c <;> first | exact va_Nw.same rfl hv h | cases hc
theorem nk_K.warm {w : nk_D} {G : nk_V} {s U : State} {H : Heap} {locs : List Loc} (hW : s.WarmedH U.vm) (hU : U.heap = H) (hS : va_S G.2.2.2.2 s.heap H locs) (h : nk_K w G s) : nk_K w G U := by
  obtain ⟨h1, h2, h3, h4, h5⟩ := h
  refine ⟨va_K.moved hW.alike h1, fun c hc hn => nk_Nw_warm hn hW (h2 c hc hn), fun i q hq => ?_, h4, h5⟩
  obtain ⟨a, b⟩ := h3 i q hq
  rw [hU]
  exact ⟨(va_Z.moved hW.alike a).kept hS.2.1, (va_T.moved hW.alike b).kept hS.2.1⟩
theorem nk_K.calling {w : nk_D} {G : nk_V} {U : State} {g : JFrame} {mk : MethodId} {a : Array Value} (h : nk_K w G U) : nk_K w G (U.calling g mk a) := by
  obtain ⟨h1, h2, h3, h4, h5⟩ := h
  refine ⟨va_K.moved (u := U) (U := U.calling g mk a) (Vm.Alike.refl U.vm) h1, fun c hc hn => nk_Nw_same hn (u := U) (U := U.calling g mk a) rfl (h2 c hc hn), fun i q hq => ?_, h4, h5⟩
  obtain ⟨x, y⟩ := h3 i q hq
  exact ⟨va_Z.moved (u := U) (U := U.calling g mk a) (Vm.Alike.refl U.vm) x, va_T.moved (u := U) (U := U.calling g mk a) (Vm.Alike.refl U.vm) y⟩
/-- the world stands in a state -/
def nk_W (w : nk_D) (G : nk_V) (μ : nk_M) (U : State) : Prop := va_P G.1 w.1 (nk_wl w G μ) U.heap ∧ nk_K w G U
theorem nk_blind {w : nk_D} {G : nk_V} {μ : nk_M} {av : List Value} : FrameBlind (va_Pc av (nk_W w G μ)) := fun _ _ _ _ h => ⟨h.1, h.2.1, h.2.2.calling⟩
/-- a method's end: this answer, this memory, nothing else changed -/
def nk_Q (w : nk_D) (G : nk_V) (o : Option Value) (μ' : nk_M) : Array Value → State → Outcome → State → Prop := fun _ st oc t => (oc = .returned o ∧ nk_W w G μ' t) ∧ va_F G.2.2.2.2 st t
def nk_rm (h : Nat) : Room := { frames := h, cells := 0, slots := 0, locals := 64 * h }
/-- a method's contract at a call's height: with these arguments and this memory it comes to what F says, if F says something -/
def nk_Ct {α : Type} (l : Launch) (w : nk_D) (G : nk_V) (h : Nat) (y : MethodName) (b : ByteArray) (nL : Nat) (ret : Option FieldType) (inj : α → Option Value) (av : List Value) (μ : nk_M) (F : Option (α × nk_M)) : Prop :=
  ∀ (v : α) (μ' : nk_M), F = some (v, μ') → Met l y (Cond.code y b nL ret :: nk_GT) (nk_rm h) (va_Pc av (nk_W w G μ)) (nk_Q w G (inj v) μ') 0 0 G.2.2.2.2
/-- what holds throughout a method's body -/
def nk_C (own : String) (cc : ByteArray) (nL : Nat) (w : nk_D) (G : nk_V) (X : nk_X) : Prop :=
  X.1.tables.exec = Jvm.exec ∧ X.2.2.2.2.2.2.2.2.2.code = cc ∧ X.2.2.2.2.2.2.2.2.2.maxLocals = nL ∧ X.2.2.2.2.1.vm.findClass own = some X.2.2.2.2.2.1.cls ∧ (∀ c ∈ nk_GT, c.before X.2.2.2.2.2.2.1 X.2.2.2.2.1 = true) ∧ nk_K w G X.2.2.2.2.1 ∧ X.2.2.2.2.2.2.2.2.1.locks = false
def nk_lv (ls : Array Slot) (nL : Nat) (lv : List Value) : Prop := ls.size = nL ∧ lv_wf ls ∧ ∀ (i : Nat) (v : Value), lv[i]? = some v → v ≠ .null → ls[i]? = some (.val v)
def nk_J (w : nk_D) (G : nk_V) (X : nk_X) (nL : Nat) (Q : State → Prop) (pc : Nat) (lv st : List Value) (μ : nk_M) : Prop :=
  ∀ (H : Heap) (locs : List Loc) (ls : Array Slot), va_P G.1 w.1 (nk_wl w G μ) H → va_S G.2.2.2.2 X.2.2.2.2.1.heap H locs → nk_lv ls nL lv →
    W X.1 X.2.1 X.2.2.1 X.2.2.2.1 X.2.2.2.2.1 X.2.2.2.2.2.1 X.2.2.2.2.2.2.1 X.2.2.2.2.2.2.2.1 X.2.2.2.2.2.2.2.2.1 X.2.2.2.2.2.2.2.2.2 H locs 0 0 Q (F0 X.2.2.2.2.2.1 pc ls st)
/-- from here the method comes to what F says, if F says something -/
def nk_Sim {α : Type} (w : nk_D) (G : nk_V) (X : nk_X) (nL : Nat) (inj : α → Option Value) (pc : Nat) (lv st : List Value) (μ : nk_M) (F : Option (α × nk_M)) : Prop :=
  ∀ (v : α) (μ' : nk_M), F = some (v, μ') → nk_J w G X nL (MQ X.2.2.2.2.2.2.2.1 (nk_Q w G (inj v) μ') X.2.2.2.2.2.2.1 X.2.2.2.2.1 0 0 G.2.2.2.2) pc lv st μ
/-- answers: an int, a long, none -/
abbrev nk_oi : Int32 → Option Value := fun x => some (.int x)
abbrev nk_ol : Int64 → Option Value := fun x => some (.long x)
abbrev nk_ov : Unit → Option Value := fun _ => none
/-- arguments as locals -/
def nk_lo : List Value → List Value
  | [] => []
  | v :: r => if v.category = 2 then v :: .null :: nk_lo r else v :: nk_lo r
theorem nk_lo_mem : ∀ (av : List Value) (j i : Nat) (v : Value), (nk_lo av)[i]? = some v → v ≠ .null → (j + i, v) ∈ lv_args j av
  | [], j, i, v, h, hn => by simp [nk_lo] at h
  | a :: r, j, i, v, h, hn => by
    unfold nk_lo at h
    unfold lv_args
    by_cases hc : a.category = 2
    · rw [if_pos hc] at h ⊢
      match i, h with
      | 0, h => simp at h; subst h; exact List.mem_cons_self
      | 1, h => simp at h; exact absurd h.symm hn
      | i + 2, h =>
        have := nk_lo_mem r (j + 2) i v (by simpa using h) hn
        rw [show j + 2 + i = j + (i + 2) by omega] at this
        exact List.mem_cons_of_mem _ this
    · rw [if_neg hc] at h ⊢
      match i, h with
      | 0, h => simp at h; subst h; exact List.mem_cons_self
      | i + 1, h =>
        have := nk_lo_mem r (j + 1) i v (by simpa using h) hn
        rw [show j + 1 + i = j + (i + 1) by omega] at this
        exact List.mem_cons_of_mem _ this
theorem nk_lv_of {av : List Value} {n k : Nat} {lv : List Value} (h : (lg_sl av).length ≤ n) (hl : lv = nk_lo av ++ List.replicate k .null) : nk_lv ((lg_sl av ++ List.replicate (n - (lg_sl av).length) Slot.unset).toArray) n lv := by
  obtain ⟨h1, h2, h3⟩ := lv_entry av h
  refine ⟨h1, h2, fun i v hi hn => ?_⟩
  subst hl
  by_cases hk : i < (nk_lo av).length
  · rw [List.getElem?_append_left hk] at hi
    have := nk_lo_mem av 0 i v hi hn
    rw [Nat.zero_add] at this
    exact h3 _ this
  · rw [List.getElem?_append_right (by omega)] at hi
    have := List.mem_of_getElem? hi
    rw [List.mem_replicate] at this
    exact absurd this.2 hn
theorem nk_ent {α : Type} {l : Launch} {w : nk_D} {G : nk_V} {h : Nat} {y : MethodName} {b : ByteArray} {nL : Nat} {ret : Option FieldType} {inj : α → Option Value} {av lv : List Value} {μ : nk_M} {F : Option (α × nk_M)} {own : String} (k : Nat) (ho : y.cls = own) (hy : plainName y.cls = true) (hn : (lg_sl av).length ≤ nL) (hl : lv = nk_lo av ++ List.replicate k .null)
    (body : ∀ X : nk_X, X.2.1 = l → X.2.2.2.1 = nk_rm h → nk_C own b nL w G X → X.2.2.2.2.2.2.2.2.1.sig.returnType = ret → nk_Sim w G X nL inj 0 lv [] μ F) : nk_Ct l w G h y b nL ret inj av μ F := by
  intro v μ' hF
  refine Met.ofW (cc := b) (maxL := nL) (ret := ret) hy rfl ?_
  intro p e s m args below meth c s₁ B hml hv
  obtain ⟨rfl, hP, hK⟩ := hv
  have hts := atoms_spec (ws := Cond.code y b nL ret :: nk_GT) B.pre
  have hown : s.vm.findClass own = some m.cls := by rw [← ho]; exact findClass_of_methodNamed B.named
  rw [lg_entry_eq]
  exact body (p, l, e, nk_rm h, s, m, av.toArray, below, meth, c) rfl rfl ⟨B.exec, B.bytes, hml, hown, fun c hc => hts c (List.mem_cons_of_mem _ hc), hK, B.notSynchronized⟩ B.returns v μ' hF s.heap [] _ hP va_S.rf (nk_lv_of hn hl)
end
section
/-! ===== 02: rows, an instruction each, for nk_Sim ===== -/
section NKR
variable {own : String} {cc : ByteArray} {nL : Nat} {w : nk_D} {G : nk_V} {X : nk_X} {α : Type} {inj : α → Option Value} {pc : Nat} {lv st : List Value} {μ : nk_M} {F : Option (α × nk_M)}
theorem nk_none : nk_Sim w G X nL inj pc lv st μ none := fun _ _ e => by cases e
theorem nk_go {pc' : Nat} {st' : List Value} (h : ∀ (H : Heap) (locs : List Loc) (ls : Array Slot), va_P G.1 w.1 (nk_wl w G μ) H → va_S G.2.2.2.2 X.2.2.2.2.1.heap H locs → nk_lv ls nL lv → ∀ Q : State → Prop,
    W X.1 X.2.1 X.2.2.1 X.2.2.2.1 X.2.2.2.2.1 X.2.2.2.2.2.1 X.2.2.2.2.2.2.1 X.2.2.2.2.2.2.2.1 X.2.2.2.2.2.2.2.2.1 X.2.2.2.2.2.2.2.2.2 H locs 0 0 Q (F0 X.2.2.2.2.2.1 pc' ls st') →
    W X.1 X.2.1 X.2.2.1 X.2.2.2.1 X.2.2.2.2.1 X.2.2.2.2.2.1 X.2.2.2.2.2.2.1 X.2.2.2.2.2.2.2.1 X.2.2.2.2.2.2.2.2.1 X.2.2.2.2.2.2.2.2.2 H locs 0 0 Q (F0 X.2.2.2.2.2.1 pc ls st))
    (k : nk_Sim w G X nL inj pc' lv st' μ F) : nk_Sim w G X nL inj pc lv st μ F := fun v μ' e H locs ls hP hS hl => h H locs ls hP hS hl _ (k v μ' e H locs ls hP hS hl)
/-- a name for a computed number -/
def nk_nm {β : Type} (x : β) (K : β → Option (α × nk_M)) : Option (α × nk_M) := K x
theorem nk_named {x : Int32} {K : Int32 → Option (α × nk_M)} (h : ∀ z : Int32, nk_Sim w G X nL inj pc lv (.int z :: st) μ (K z)) : nk_Sim w G X nL inj pc lv (.int x :: st) μ (nk_nm x K) := h x
theorem nk_namedL {x : Int64} {K : Int64 → Option (α × nk_M)} (h : ∀ z : Int64, nk_Sim w G X nL inj pc lv (.long z :: st) μ (K z)) : nk_Sim w G X nL inj pc lv (.long x :: st) μ (nk_nm x K) := h x
theorem nk_iconst (C : nk_C own cc nL w G X) {n : Int} {v : Int32} (hd : decode cc pc = .ok (.iconst n, 1)) (hv : Int32.ofInt n = v) (h : nk_Sim w G X nL inj (pc + 1) lv (.int v :: st) μ F) : nk_Sim w G X nL inj pc lv st μ F := nk_go (fun _ _ _ _ _ _ _ q => lv_iconst C.1 C.2.1 hd hv q) h
theorem nk_bipush (C : nk_C own cc nL w G X) {n : Int} {v : Int32} (hd : decode cc pc = .ok (.bipush n, 2)) (hv : (Int8.ofInt n).toInt32 = v) (h : nk_Sim w G X nL inj (pc + 2) lv (.int v :: st) μ F) : nk_Sim w G X nL inj pc lv st μ F := nk_go (fun _ _ _ _ _ _ _ q => lv_bipush C.1 C.2.1 hd hv q) h
theorem nk_sipush (C : nk_C own cc nL w G X) {n : Int} {v : Int32} (hd : decode cc pc = .ok (.sipush n, 3)) (hv : (Int16.ofInt n).toInt32 = v) (h : nk_Sim w G X nL inj (pc + 3) lv (.int v :: st) μ F) : nk_Sim w G X nL inj pc lv st μ F := nk_go (fun _ _ _ _ _ _ _ q => lv_sipush C.1 C.2.1 hd hv q) h
theorem nk_lconst (C : nk_C own cc nL w G X) {n : Fin 2} {v : Int64} (hd : decode cc pc = .ok (.lconst n, 1)) (hv : Int64.ofNat (n : Nat) = v) (h : nk_Sim w G X nL inj (pc + 1) lv (.long v :: st) μ F) : nk_Sim w G X nL inj pc lv st μ F := nk_go (fun _ _ _ _ _ _ _ q => lv_lconst C.1 C.2.1 hd hv q) h
theorem nk_ldc2 (C : nk_C own cc nL w G X) {index : Nat} {v : Int64} (hc : Cond.constantLong own index v ∈ nk_GT) (hd : decode cc pc = .ok (.ldc2_w index, 3)) (h : nk_Sim w G X nL inj (pc + 3) lv (.long v :: st) μ F) : nk_Sim w G X nL inj pc lv st μ F := nk_go (fun _ _ _ _ _ _ _ q => lv_ldc2 C.1 C.2.1 C.2.2.2.1 (C.2.2.2.2.1 _ hc) hd q) h
theorem nk_iload_n (C : nk_C own cc nL w G X) {k : Fin 4} {i : Nat} {x : Int32} (hd : decode cc pc = .ok (.iload_n k, 1)) (hi : (k : Nat) = i) (hl : lv[i]? = some (.int x)) (h : nk_Sim w G X nL inj (pc + 1) lv (.int x :: st) μ F) : nk_Sim w G X nL inj pc lv st μ F := nk_go (fun _ _ _ _ _ hv _ q => lv_iload_n C.1 C.2.1 hd hi (hv.2.2 i _ hl (by intro e; cases e)) q) h
theorem nk_iload (C : nk_C own cc nL w G X) {i : Nat} {x : Int32} (hd : decode cc pc = .ok (.iload i, 2)) (hl : lv[i]? = some (.int x)) (h : nk_Sim w G X nL inj (pc + 2) lv (.int x :: st) μ F) : nk_Sim w G X nL inj pc lv st μ F := nk_go (fun _ _ _ _ _ hv _ q => lv_iload C.1 C.2.1 hd (hv.2.2 i _ hl (by intro e; cases e)) q) h
theorem nk_lload_n (C : nk_C own cc nL w G X) {k : Fin 4} {i : Nat} {x : Int64} (hd : decode cc pc = .ok (.lload_n k, 1)) (hi : (k : Nat) = i) (hl : lv[i]? = some (.long x)) (h : nk_Sim w G X nL inj (pc + 1) lv (.long x :: st) μ F) : nk_Sim w G X nL inj pc lv st μ F := nk_go (fun _ _ _ _ _ hv _ q => lv_lload_n C.1 C.2.1 hd hi (hv.2.2 i _ hl (by intro e; cases e)) q) h
theorem nk_lload (C : nk_C own cc nL w G X) {i : Nat} {x : Int64} (hd : decode cc pc = .ok (.lload i, 2)) (hl : lv[i]? = some (.long x)) (h : nk_Sim w G X nL inj (pc + 2) lv (.long x :: st) μ F) : nk_Sim w G X nL inj pc lv st μ F := nk_go (fun _ _ _ _ _ hv _ q => lv_lload C.1 C.2.1 hd (hv.2.2 i _ hl (by intro e; cases e)) q) h
theorem nk_aload_n (C : nk_C own cc nL w G X) {k : Fin 4} {i : Nat} {x : Nat} (hd : decode cc pc = .ok (.aload_n k, 1)) (hi : (k : Nat) = i) (hl : lv[i]? = some (.ref x)) (h : nk_Sim w G X nL inj (pc + 1) lv (.ref x :: st) μ F) : nk_Sim w G X nL inj pc lv st μ F := nk_go (fun _ _ _ _ _ hv _ q => lv_aload_n C.1 C.2.1 hd hi (hv.2.2 i _ hl (by intro e; cases e)) q) h
theorem nk_aload (C : nk_C own cc nL w G X) {i : Nat} {x : Nat} (hd : decode cc pc = .ok (.aload i, 2)) (hl : lv[i]? = some (.ref x)) (h : nk_Sim w G X nL inj (pc + 2) lv (.ref x :: st) μ F) : nk_Sim w G X nL inj pc lv st μ F := nk_go (fun _ _ _ _ _ hv _ q => lv_aload C.1 C.2.1 hd (hv.2.2 i _ hl (by intro e; cases e)) q) h
/-- no long stands just before slot i -/
def nk_c2 (lv : List Value) : Nat → Bool
  | 0 => true
  | i + 1 => match lv[i]? with
    | some v => v.category != 2
    | none => true
def nk_as (lv : List Value) : List (Nat × Value) := (List.range lv.length).filterMap (fun i => match lv[i]? with
  | some v => if v = .null then none else some (i, v)
  | none => none)
theorem nk_as_mem {lv : List Value} {i : Nat} {v : Value} : (i, v) ∈ nk_as lv ↔ lv[i]? = some v ∧ v ≠ .null := by
  unfold nk_as
  rw [List.mem_filterMap]
  constructor
  · rintro ⟨j, hj, h⟩
    cases hl : lv[j]? with
    | none => rw [hl] at h; cases h
    | some x =>
      rw [hl] at h
      by_cases hx : x = .null
      · simp [hx] at h
      · simp [hx] at h
        obtain ⟨rfl, rfl⟩ := h
        exact ⟨hl, hx⟩
  · rintro ⟨h, hn⟩
    refine ⟨i, ?_, ?_⟩
    · have := (List.getElem?_eq_some_iff.mp h).1
      simp [this]
    · simp [h, hn]
theorem nk_lv_has {ls : Array Slot} {lv : List Value} (h : nk_lv ls nL lv) : lv_has ls nL (nk_as lv) := ⟨h.1, h.2.1, fun q hq => by
  obtain ⟨i, v⟩ := q
  obtain ⟨a, b⟩ := nk_as_mem.mp hq
  exact h.2.2 i v a b⟩
theorem nk_lv_put {ls : Array Slot} {lv : List Value} {i : Nat} {x : Value} (h : lv_has ls nL ((i, x) :: (nk_as lv).filter (fun q => !(q.1 == i) && !(q.1 + 1 == i && q.2.category == 2)))) (hc : nk_c2 lv i = true) : nk_lv ls nL (lv.set i x) := by
  refine ⟨h.1, h.2.1, fun j v hj hn => ?_⟩
  rw [List.getElem?_set] at hj
  by_cases e : i = j
  · subst e
    rw [if_pos rfl] at hj
    by_cases hl : i < lv.length
    · rw [if_pos hl] at hj
      cases hj
      exact h.2.2 (i, x) List.mem_cons_self
    · rw [if_neg hl] at hj
      cases hj
  · rw [if_neg e] at hj
    refine h.2.2 (j, v) (List.mem_cons_of_mem _ (List.mem_filter.mpr ⟨nk_as_mem.mpr ⟨hj, hn⟩, ?_⟩))
    have e1 : (j == i) = false := by simp; omega
    by_cases e2 : j + 1 = i
    · subst e2
      simp only [nk_c2, hj] at hc
      simp_all
    · have e3 : (j + 1 == i) = false := by simp; omega
      simp [e1, e3]
theorem nk_lv_putL {ls : Array Slot} {lv : List Value} {i : Nat} {x : Value} (h : lv_has ls nL ((i, x) :: (nk_as lv).filter (fun q => !(q.1 == i) && (!(q.1 == i + 1) && !(q.1 + 1 == i && q.2.category == 2))))) (hc : nk_c2 lv i = true) : nk_lv ls nL ((lv.set i x).set (i + 1) .null) := by
  refine ⟨h.1, h.2.1, fun j v hj hn => ?_⟩
  rw [List.getElem?_set] at hj
  by_cases e0 : i + 1 = j
  · rw [if_pos e0] at hj
    by_cases hl : i + 1 < (lv.set i x).length
    · rw [if_pos hl] at hj
      cases hj
      exact absurd rfl hn
    · rw [if_neg hl] at hj
      cases hj
  rw [if_neg e0] at hj
  rw [List.getElem?_set] at hj
  by_cases e : i = j
  · subst e
    rw [if_pos rfl] at hj
    by_cases hl : i < lv.length
    · rw [if_pos hl] at hj
      cases hj
      exact h.2.2 (i, x) List.mem_cons_self
    · rw [if_neg hl] at hj
      cases hj
  · rw [if_neg e] at hj
    refine h.2.2 (j, v) (List.mem_cons_of_mem _ (List.mem_filter.mpr ⟨nk_as_mem.mpr ⟨hj, hn⟩, ?_⟩))
    have e1 : (j == i) = false := by simp; omega
    have e4 : (j == i + 1) = false := by simp; omega
    by_cases e2 : j + 1 = i
    · subst e2
      simp only [nk_c2, hj] at hc
      simp_all
    · have e3 : (j + 1 == i) = false := by simp; omega
      simp [e1, e3, e4]
theorem nk_istore_n (C : nk_C own cc nL w G X) {k : Fin 4} {i : Nat} {x : Int32} (hd : decode cc pc = .ok (.istore_n k, 1)) (hi : (k : Nat) = i) (hn : i < nL) (hc : nk_c2 lv i = true) (h : nk_Sim w G X nL inj (pc + 1) (lv.set i (.int x)) st μ F) : nk_Sim w G X nL inj pc lv (.int x :: st) μ F := fun v μ' e H locs ls hP hS hl => lv_istore_n C.1 C.2.1 hd hi (nk_lv_has hl) hn rfl (fun ls' h2 => h v μ' e H locs ls' hP hS (nk_lv_put h2 hc))
theorem nk_istore (C : nk_C own cc nL w G X) {i : Nat} {x : Int32} (hd : decode cc pc = .ok (.istore i, 2)) (hn : i < nL) (hc : nk_c2 lv i = true) (h : nk_Sim w G X nL inj (pc + 2) (lv.set i (.int x)) st μ F) : nk_Sim w G X nL inj pc lv (.int x :: st) μ F := fun v μ' e H locs ls hP hS hl => lv_istore C.1 C.2.1 hd (nk_lv_has hl) hn rfl (fun ls' h2 => h v μ' e H locs ls' hP hS (nk_lv_put h2 hc))
theorem nk_astore_n (C : nk_C own cc nL w G X) {k : Fin 4} {i : Nat} {x : Nat} (hd : decode cc pc = .ok (.astore_n k, 1)) (hi : (k : Nat) = i) (hn : i < nL) (hc : nk_c2 lv i = true) (h : nk_Sim w G X nL inj (pc + 1) (lv.set i (.ref x)) st μ F) : nk_Sim w G X nL inj pc lv (.ref x :: st) μ F := fun v μ' e H locs ls hP hS hl => lv_astore_n C.1 C.2.1 hd hi (nk_lv_has hl) hn rfl (fun ls' h2 => h v μ' e H locs ls' hP hS (nk_lv_put h2 hc))
theorem nk_astore (C : nk_C own cc nL w G X) {i : Nat} {x : Nat} (hd : decode cc pc = .ok (.astore i, 2)) (hn : i < nL) (hc : nk_c2 lv i = true) (h : nk_Sim w G X nL inj (pc + 2) (lv.set i (.ref x)) st μ F) : nk_Sim w G X nL inj pc lv (.ref x :: st) μ F := fun v μ' e H locs ls hP hS hl => lv_astore C.1 C.2.1 hd (nk_lv_has hl) hn rfl (fun ls' h2 => h v μ' e H locs ls' hP hS (nk_lv_put h2 hc))
theorem nk_lstore_n (C : nk_C own cc nL w G X) {k : Fin 4} {i : Nat} {x : Int64} (hd : decode cc pc = .ok (.lstore_n k, 1)) (hi : (k : Nat) = i) (hn : i + 1 < nL) (hc : nk_c2 lv i = true) (h : nk_Sim w G X nL inj (pc + 1) ((lv.set i (.long x)).set (i + 1) .null) st μ F) : nk_Sim w G X nL inj pc lv (.long x :: st) μ F := fun v μ' e H locs ls hP hS hl => lv_lstore_n C.1 C.2.1 hd hi (nk_lv_has hl) hn rfl (fun ls' h2 => h v μ' e H locs ls' hP hS (nk_lv_putL h2 hc))
theorem nk_lstore (C : nk_C own cc nL w G X) {i : Nat} {x : Int64} (hd : decode cc pc = .ok (.lstore i, 2)) (hn : i + 1 < nL) (hc : nk_c2 lv i = true) (h : nk_Sim w G X nL inj (pc + 2) ((lv.set i (.long x)).set (i + 1) .null) st μ F) : nk_Sim w G X nL inj pc lv (.long x :: st) μ F := fun v μ' e H locs ls hP hS hl => lv_lstore C.1 C.2.1 hd (nk_lv_has hl) hn rfl (fun ls' h2 => h v μ' e H locs ls' hP hS (nk_lv_putL h2 hc))
theorem nk_iinc (C : nk_C own cc nL w G X) {i : Nat} {n : Int} {x v0 : Int32} (hd : decode cc pc = .ok (.iinc i n, 3)) (hx : lv[i]? = some (.int x)) (hv : x + Int32.ofInt n = v0) (hn : i < nL) (hc : nk_c2 lv i = true) (h : nk_Sim w G X nL inj (pc + 3) (lv.set i (.int v0)) st μ F) : nk_Sim w G X nL inj pc lv st μ F := fun v μ' e H locs ls hP hS hl => by
  obtain ⟨k, hk⟩ := List.getElem?_of_mem (nk_as_mem.mpr ⟨hx, (by intro q; cases q)⟩ : (i, Value.int x) ∈ nk_as lv)
  exact lv_iinc C.1 C.2.1 hd (nk_lv_has hl) hk hv hn rfl (fun ls' h2 => h v μ' e H locs ls' hP hS (nk_lv_put h2 hc))
theorem nk_iadd (C : nk_C own cc nL w G X) {x y : Int32} (hd : decode cc pc = .ok (.iadd, 1)) (h : nk_Sim w G X nL inj (pc + 1) lv (.int (x + y) :: st) μ F) : nk_Sim w G X nL inj pc lv (.int y :: .int x :: st) μ F := nk_go (fun _ _ _ _ _ _ _ q => lv_iadd C.1 C.2.1 hd q) h
theorem nk_isub (C : nk_C own cc nL w G X) {x y : Int32} (hd : decode cc pc = .ok (.isub, 1)) (h : nk_Sim w G X nL inj (pc + 1) lv (.int (x - y) :: st) μ F) : nk_Sim w G X nL inj pc lv (.int y :: .int x :: st) μ F := nk_go (fun _ _ _ _ _ _ _ q => lv_isub C.1 C.2.1 hd q) h
theorem nk_imul (C : nk_C own cc nL w G X) {x y : Int32} (hd : decode cc pc = .ok (.imul, 1)) (h : nk_Sim w G X nL inj (pc + 1) lv (.int (x * y) :: st) μ F) : nk_Sim w G X nL inj pc lv (.int y :: .int x :: st) μ F := nk_go (fun _ _ _ _ _ _ _ q => lv_imul C.1 C.2.1 hd q) h
theorem nk_iand (C : nk_C own cc nL w G X) {x y : Int32} (hd : decode cc pc = .ok (.iand, 1)) (h : nk_Sim w G X nL inj (pc + 1) lv (.int (x &&& y) :: st) μ F) : nk_Sim w G X nL inj pc lv (.int y :: .int x :: st) μ F := nk_go (fun _ _ _ _ _ _ _ q => lv_iand C.1 C.2.1 hd q) h
theorem nk_ior (C : nk_C own cc nL w G X) {x y : Int32} (hd : decode cc pc = .ok (.ior, 1)) (h : nk_Sim w G X nL inj (pc + 1) lv (.int (x ||| y) :: st) μ F) : nk_Sim w G X nL inj pc lv (.int y :: .int x :: st) μ F := nk_go (fun _ _ _ _ _ _ _ q => lv_ior C.1 C.2.1 hd q) h
theorem nk_ishl (C : nk_C own cc nL w G X) {x y : Int32} (hd : decode cc pc = .ok (.ishl, 1)) (h : nk_Sim w G X nL inj (pc + 1) lv (.int (x <<< (y &&& 31)) :: st) μ F) : nk_Sim w G X nL inj pc lv (.int y :: .int x :: st) μ F := nk_go (fun _ _ _ _ _ _ _ q => lv_ishl C.1 C.2.1 hd q) h
theorem nk_ishr (C : nk_C own cc nL w G X) {x y : Int32} (hd : decode cc pc = .ok (.ishr, 1)) (h : nk_Sim w G X nL inj (pc + 1) lv (.int (x >>> (y &&& 31)) :: st) μ F) : nk_Sim w G X nL inj pc lv (.int y :: .int x :: st) μ F := nk_go (fun _ _ _ _ _ _ _ q => lv_ishr C.1 C.2.1 hd q) h
theorem nk_ladd (C : nk_C own cc nL w G X) {x y : Int64} (hd : decode cc pc = .ok (.ladd, 1)) (h : nk_Sim w G X nL inj (pc + 1) lv (.long (x + y) :: st) μ F) : nk_Sim w G X nL inj pc lv (.long y :: .long x :: st) μ F := nk_go (fun _ _ _ _ _ _ _ q => lv_ladd C.1 C.2.1 hd q) h
theorem nk_lsub (C : nk_C own cc nL w G X) {x y : Int64} (hd : decode cc pc = .ok (.lsub, 1)) (h : nk_Sim w G X nL inj (pc + 1) lv (.long (x - y) :: st) μ F) : nk_Sim w G X nL inj pc lv (.long y :: .long x :: st) μ F := nk_go (fun _ _ _ _ _ _ _ q => lv_lsub C.1 C.2.1 hd q) h
theorem nk_lmul (C : nk_C own cc nL w G X) {x y : Int64} (hd : decode cc pc = .ok (.lmul, 1)) (h : nk_Sim w G X nL inj (pc + 1) lv (.long (x * y) :: st) μ F) : nk_Sim w G X nL inj pc lv (.long y :: .long x :: st) μ F := nk_go (fun _ _ _ _ _ _ _ q => lv_lmul C.1 C.2.1 hd q) h
/-- a division: nothing is said where the divisor is 0 -/
def nk_Didiv (x y : Int32) (K : Int32 → Option (α × nk_M)) : Option (α × nk_M) := if y = 0 then none else K (x / y)
theorem nk_idiv (C : nk_C own cc nL w G X) {x y : Int32} {K : Int32 → Option (α × nk_M)} (hd : decode cc pc = .ok (.idiv, 1)) (h : ∀ z : Int32, nk_Sim w G X nL inj (pc + 1) lv (.int z :: st) μ (K z)) : nk_Sim w G X nL inj pc lv (.int y :: .int x :: st) μ (nk_Didiv x y K) := fun v μ' e H locs ls hP hS hl => by
  by_cases hy : y = 0
  · simp [nk_Didiv, hy] at e
  · simp only [nk_Didiv, hy, if_false] at e
    exact lv_idiv C.1 C.2.1 hd hy (h _ v μ' e H locs ls hP hS hl)
def nk_Direm (x y : Int32) (K : Int32 → Option (α × nk_M)) : Option (α × nk_M) := if y = 0 then none else K (x - x / y * y)
theorem nk_irem (C : nk_C own cc nL w G X) {x y : Int32} {K : Int32 → Option (α × nk_M)} (hd : decode cc pc = .ok (.irem, 1)) (h : ∀ z : Int32, nk_Sim w G X nL inj (pc + 1) lv (.int z :: st) μ (K z)) : nk_Sim w G X nL inj pc lv (.int y :: .int x :: st) μ (nk_Direm x y K) := fun v μ' e H locs ls hP hS hl => by
  by_cases hy : y = 0
  · simp [nk_Direm, hy] at e
  · simp only [nk_Direm, hy, if_false] at e
    exact lv_irem C.1 C.2.1 hd hy (h _ v μ' e H locs ls hP hS hl)
def nk_Dldiv (x y : Int64) (K : Int64 → Option (α × nk_M)) : Option (α × nk_M) := if y = 0 then none else K (x / y)
theorem nk_ldiv (C : nk_C own cc nL w G X) {x y : Int64} {K : Int64 → Option (α × nk_M)} (hd : decode cc pc = .ok (.ldiv, 1)) (h : ∀ z : Int64, nk_Sim w G X nL inj (pc + 1) lv (.long z :: st) μ (K z)) : nk_Sim w G X nL inj pc lv (.long y :: .long x :: st) μ (nk_Dldiv x y K) := fun v μ' e H locs ls hP hS hl => by
  by_cases hy : y = 0
  · simp [nk_Dldiv, hy] at e
  · simp only [nk_Dldiv, hy, if_false] at e
    exact lv_ldiv C.1 C.2.1 hd hy (h _ v μ' e H locs ls hP hS hl)
def nk_Dlrem (x y : Int64) (K : Int64 → Option (α × nk_M)) : Option (α × nk_M) := if y = 0 then none else K (x - x / y * y)
theorem nk_lrem (C : nk_C own cc nL w G X) {x y : Int64} {K : Int64 → Option (α × nk_M)} (hd : decode cc pc = .ok (.lrem, 1)) (h : ∀ z : Int64, nk_Sim w G X nL inj (pc + 1) lv (.long z :: st) μ (K z)) : nk_Sim w G X nL inj pc lv (.long y :: .long x :: st) μ (nk_Dlrem x y K) := fun v μ' e H locs ls hP hS hl => by
  by_cases hy : y = 0
  · simp [nk_Dlrem, hy] at e
  · simp only [nk_Dlrem, hy, if_false] at e
    exact lv_lrem C.1 C.2.1 hd hy (h _ v μ' e H locs ls hP hS hl)
theorem nk_i2l (C : nk_C own cc nL w G X) {x : Int32} (hd : decode cc pc = .ok (.i2l, 1)) (h : nk_Sim w G X nL inj (pc + 1) lv (.long (x.toInt64) :: st) μ F) : nk_Sim w G X nL inj pc lv (.int x :: st) μ F := nk_go (fun _ _ _ _ _ _ _ q => lv_i2l C.1 C.2.1 hd rfl q) h
theorem nk_i2b (C : nk_C own cc nL w G X) {x : Int32} (hd : decode cc pc = .ok (.i2b, 1)) (h : nk_Sim w G X nL inj (pc + 1) lv (.int (x.toInt8.toInt32) :: st) μ F) : nk_Sim w G X nL inj pc lv (.int x :: st) μ F := nk_go (fun _ _ _ _ _ _ _ q => lv_i2b C.1 C.2.1 hd rfl q) h
theorem nk_i2s (C : nk_C own cc nL w G X) {x : Int32} (hd : decode cc pc = .ok (.i2s, 1)) (h : nk_Sim w G X nL inj (pc + 1) lv (.int (x.toInt16.toInt32) :: st) μ F) : nk_Sim w G X nL inj pc lv (.int x :: st) μ F := nk_go (fun _ _ _ _ _ _ _ q => lv_i2s C.1 C.2.1 hd rfl q) h
theorem nk_lcmp (C : nk_C own cc nL w G X) {x y : Int64} (hd : decode cc pc = .ok (.lcmp, 1)) (h : nk_Sim w G X nL inj (pc + 1) lv (.int (lg_cmp x y) :: st) μ F) : nk_Sim w G X nL inj pc lv (.long y :: .long x :: st) μ F := nk_go (fun _ _ _ _ _ _ _ q => W.lcmp C.1 C.2.1 hd q) h
theorem nk_dup (C : nk_C own cc nL w G X) {va : Value} (hd : decode cc pc = .ok (.dup, 1)) (hva : va.category = 1) (h : nk_Sim w G X nL inj (pc + 1) lv (va :: va :: st) μ F) : nk_Sim w G X nL inj pc lv (va :: st) μ F := nk_go (fun _ _ _ _ _ _ _ q => lv_dup C.1 C.2.1 hd hva q) h
theorem nk_pop (C : nk_C own cc nL w G X) {va : Value} (hd : decode cc pc = .ok (.pop, 1)) (hva : va.category = 1) (h : nk_Sim w G X nL inj (pc + 1) lv st μ F) : nk_Sim w G X nL inj pc lv (va :: st) μ F := nk_go (fun _ _ _ _ _ _ _ q => lv_pop C.1 C.2.1 hd hva q) h
theorem nk_goto (C : nk_C own cc nL w G X) {off : Int} {tgt : Nat} (hd : decode cc pc = .ok (.goto off, 3)) (ht : (pc : Int) + off = (tgt : Int)) (h : nk_Sim w G X nL inj tgt lv st μ F) : nk_Sim w G X nL inj pc lv st μ F := nk_go (fun _ _ _ _ _ _ _ q => lv_goto C.1 C.2.1 hd ht q) h
theorem nk_if_eq (C : nk_C own cc nL w G X) {x : Int32} {off : Int} {tgt : Nat} {F1 F2 : Option (α × nk_M)} (hd : decode cc pc = .ok (.ifCond .eq off, 3)) (ht : (pc : Int) + off = (tgt : Int)) (h1 : nk_Sim w G X nL inj tgt lv st μ F1) (h2 : nk_Sim w G X nL inj (pc + 3) lv st μ F2) : nk_Sim w G X nL inj pc lv (.int x :: st) μ (if x = 0 then F1 else F2) := fun v μ' e H locs ls hP hS hl =>
  lv_if_eq C.1 C.2.1 hd ht (fun c => h1 v μ' (by rw [if_pos c] at e; exact e) H locs ls hP hS hl) (fun c => h2 v μ' (by rw [if_neg c] at e; exact e) H locs ls hP hS hl)
theorem nk_if_lt (C : nk_C own cc nL w G X) {x : Int32} {off : Int} {tgt : Nat} {F1 F2 : Option (α × nk_M)} (hd : decode cc pc = .ok (.ifCond .lt off, 3)) (ht : (pc : Int) + off = (tgt : Int)) (h1 : nk_Sim w G X nL inj tgt lv st μ F1) (h2 : nk_Sim w G X nL inj (pc + 3) lv st μ F2) : nk_Sim w G X nL inj pc lv (.int x :: st) μ (if x < 0 then F1 else F2) := fun v μ' e H locs ls hP hS hl =>
  lv_if_lt C.1 C.2.1 hd ht (fun c => h1 v μ' (by rw [if_pos c] at e; exact e) H locs ls hP hS hl) (fun c => h2 v μ' (by rw [if_neg c] at e; exact e) H locs ls hP hS hl)
theorem nk_if_ge (C : nk_C own cc nL w G X) {x : Int32} {off : Int} {tgt : Nat} {F1 F2 : Option (α × nk_M)} (hd : decode cc pc = .ok (.ifCond .ge off, 3)) (ht : (pc : Int) + off = (tgt : Int)) (h1 : nk_Sim w G X nL inj tgt lv st μ F1) (h2 : nk_Sim w G X nL inj (pc + 3) lv st μ F2) : nk_Sim w G X nL inj pc lv (.int x :: st) μ (if 0 ≤ x then F1 else F2) := fun v μ' e H locs ls hP hS hl =>
  lv_if_ge C.1 C.2.1 hd ht (fun c => h1 v μ' (by rw [if_pos c] at e; exact e) H locs ls hP hS hl) (fun c => h2 v μ' (by rw [if_neg c] at e; exact e) H locs ls hP hS hl)
theorem nk_if_gt (C : nk_C own cc nL w G X) {x : Int32} {off : Int} {tgt : Nat} {F1 F2 : Option (α × nk_M)} (hd : decode cc pc = .ok (.ifCond .gt off, 3)) (ht : (pc : Int) + off = (tgt : Int)) (h1 : nk_Sim w G X nL inj tgt lv st μ F1) (h2 : nk_Sim w G X nL inj (pc + 3) lv st μ F2) : nk_Sim w G X nL inj pc lv (.int x :: st) μ (if 0 < x then F1 else F2) := fun v μ' e H locs ls hP hS hl =>
  lv_if_gt C.1 C.2.1 hd ht (fun c => h1 v μ' (by rw [if_pos c] at e; exact e) H locs ls hP hS hl) (fun c => h2 v μ' (by rw [if_neg c] at e; exact e) H locs ls hP hS hl)
theorem nk_if_le (C : nk_C own cc nL w G X) {x : Int32} {off : Int} {tgt : Nat} {F1 F2 : Option (α × nk_M)} (hd : decode cc pc = .ok (.ifCond .le off, 3)) (ht : (pc : Int) + off = (tgt : Int)) (h1 : nk_Sim w G X nL inj tgt lv st μ F1) (h2 : nk_Sim w G X nL inj (pc + 3) lv st μ F2) : nk_Sim w G X nL inj pc lv (.int x :: st) μ (if x ≤ 0 then F1 else F2) := fun v μ' e H locs ls hP hS hl =>
  lv_if_le C.1 C.2.1 hd ht (fun c => h1 v μ' (by rw [if_pos c] at e; exact e) H locs ls hP hS hl) (fun c => h2 v μ' (by rw [if_neg c] at e; exact e) H locs ls hP hS hl)
theorem nk_if_ne (C : nk_C own cc nL w G X) {x : Int32} {off : Int} {tgt : Nat} {F1 F2 : Option (α × nk_M)} (hd : decode cc pc = .ok (.ifCond .ne off, 3)) (ht : (pc : Int) + off = (tgt : Int)) (h1 : nk_Sim w G X nL inj tgt lv st μ F1) (h2 : nk_Sim w G X nL inj (pc + 3) lv st μ F2) : nk_Sim w G X nL inj pc lv (.int x :: st) μ (if x = 0 then F2 else F1) := fun v μ' e H locs ls hP hS hl =>
  lv_if_ne C.1 C.2.1 hd ht (fun c => h1 v μ' (by rw [if_neg c] at e; exact e) H locs ls hP hS hl) (fun c => h2 v μ' (by rw [if_pos c] at e; exact e) H locs ls hP hS hl)
theorem nk_icmp_eq (C : nk_C own cc nL w G X) {x y : Int32} {off : Int} {tgt : Nat} {F1 F2 : Option (α × nk_M)} (hd : decode cc pc = .ok (.if_icmp .eq off, 3)) (ht : (pc : Int) + off = (tgt : Int)) (h1 : nk_Sim w G X nL inj tgt lv st μ F1) (h2 : nk_Sim w G X nL inj (pc + 3) lv st μ F2) : nk_Sim w G X nL inj pc lv (.int y :: .int x :: st) μ (if x = y then F1 else F2) := fun v μ' e H locs ls hP hS hl =>
  lv_icmp_eq C.1 C.2.1 hd ht (fun c => h1 v μ' (by rw [if_pos c] at e; exact e) H locs ls hP hS hl) (fun c => h2 v μ' (by rw [if_neg c] at e; exact e) H locs ls hP hS hl)
theorem nk_icmp_lt (C : nk_C own cc nL w G X) {x y : Int32} {off : Int} {tgt : Nat} {F1 F2 : Option (α × nk_M)} (hd : decode cc pc = .ok (.if_icmp .lt off, 3)) (ht : (pc : Int) + off = (tgt : Int)) (h1 : nk_Sim w G X nL inj tgt lv st μ F1) (h2 : nk_Sim w G X nL inj (pc + 3) lv st μ F2) : nk_Sim w G X nL inj pc lv (.int y :: .int x :: st) μ (if x < y then F1 else F2) := fun v μ' e H locs ls hP hS hl =>
  lv_icmp_lt C.1 C.2.1 hd ht (fun c => h1 v μ' (by rw [if_pos c] at e; exact e) H locs ls hP hS hl) (fun c => h2 v μ' (by rw [if_neg c] at e; exact e) H locs ls hP hS hl)
theorem nk_icmp_ge (C : nk_C own cc nL w G X) {x y : Int32} {off : Int} {tgt : Nat} {F1 F2 : Option (α × nk_M)} (hd : decode cc pc = .ok (.if_icmp .ge off, 3)) (ht : (pc : Int) + off = (tgt : Int)) (h1 : nk_Sim w G X nL inj tgt lv st μ F1) (h2 : nk_Sim w G X nL inj (pc + 3) lv st μ F2) : nk_Sim w G X nL inj pc lv (.int y :: .int x :: st) μ (if y ≤ x then F1 else F2) := fun v μ' e H locs ls hP hS hl =>
  lv_icmp_ge C.1 C.2.1 hd ht (fun c => h1 v μ' (by rw [if_pos c] at e; exact e) H locs ls hP hS hl) (fun c => h2 v μ' (by rw [if_neg c] at e; exact e) H locs ls hP hS hl)
theorem nk_icmp_gt (C : nk_C own cc nL w G X) {x y : Int32} {off : Int} {tgt : Nat} {F1 F2 : Option (α × nk_M)} (hd : decode cc pc = .ok (.if_icmp .gt off, 3)) (ht : (pc : Int) + off = (tgt : Int)) (h1 : nk_Sim w G X nL inj tgt lv st μ F1) (h2 : nk_Sim w G X nL inj (pc + 3) lv st μ F2) : nk_Sim w G X nL inj pc lv (.int y :: .int x :: st) μ (if y < x then F1 else F2) := fun v μ' e H locs ls hP hS hl =>
  lv_icmp_gt C.1 C.2.1 hd ht (fun c => h1 v μ' (by rw [if_pos c] at e; exact e) H locs ls hP hS hl) (fun c => h2 v μ' (by rw [if_neg c] at e; exact e) H locs ls hP hS hl)
theorem nk_icmp_le (C : nk_C own cc nL w G X) {x y : Int32} {off : Int} {tgt : Nat} {F1 F2 : Option (α × nk_M)} (hd : decode cc pc = .ok (.if_icmp .le off, 3)) (ht : (pc : Int) + off = (tgt : Int)) (h1 : nk_Sim w G X nL inj tgt lv st μ F1) (h2 : nk_Sim w G X nL inj (pc + 3) lv st μ F2) : nk_Sim w G X nL inj pc lv (.int y :: .int x :: st) μ (if x ≤ y then F1 else F2) := fun v μ' e H locs ls hP hS hl =>
  lv_icmp_le C.1 C.2.1 hd ht (fun c => h1 v μ' (by rw [if_pos c] at e; exact e) H locs ls hP hS hl) (fun c => h2 v μ' (by rw [if_neg c] at e; exact e) H locs ls hP hS hl)
theorem nk_icmp_ne (C : nk_C own cc nL w G X) {x y : Int32} {off : Int} {tgt : Nat} {F1 F2 : Option (α × nk_M)} (hd : decode cc pc = .ok (.if_icmp .ne off, 3)) (ht : (pc : Int) + off = (tgt : Int)) (h1 : nk_Sim w G X nL inj tgt lv st μ F1) (h2 : nk_Sim w G X nL inj (pc + 3) lv st μ F2) : nk_Sim w G X nL inj pc lv (.int y :: .int x :: st) μ (if x = y then F2 else F1) := fun v μ' e H locs ls hP hS hl =>
  lv_icmp_ne C.1 C.2.1 hd ht (fun c => h1 v μ' (by rw [if_neg c] at e; exact e) H locs ls hP hS hl) (fun c => h2 v μ' (by rw [if_pos c] at e; exact e) H locs ls hP hS hl)
/-- a switch: one arm after the other -/
theorem nk_tbl (C : nk_C own cc nL w G X) {dflt lo hi : Int} {offs : Array Int} {len : Nat} {x : Int32} (k : Int32) {off : Int} {tgt : Nat} {F1 F2 : Option (α × nk_M)} (hd : decode cc pc = .ok (.tableswitch dflt lo hi offs, len)) (h0 : ¬ k.toInt < lo ∧ ¬ hi < k.toInt ∧ offs[(k.toInt - lo).toNat]? = some off ∧ (pc : Int) + off = (tgt : Int)) (h1 : nk_Sim w G X nL inj tgt lv st μ F1) (h2 : x ≠ k → nk_Sim w G X nL inj pc lv (.int x :: st) μ F2) : nk_Sim w G X nL inj pc lv (.int x :: st) μ (if x = k then F1 else F2) := fun v μ' e H locs ls hP hS hl => by
  by_cases hx : x = k
  · rw [if_pos hx] at e
    subst hx
    exact lv_tableIn C.1 C.2.1 hd h0.1 h0.2.1 h0.2.2.1 h0.2.2.2 (h1 v μ' e H locs ls hP hS hl)
  · rw [if_neg hx] at e
    exact h2 hx v μ' e H locs ls hP hS hl
theorem nk_tblD (C : nk_C own cc nL w G X) {dflt lo hi : Int} {offs : Array Int} {len : Nat} {x : Int32} {tgt : Nat} (hd : decode cc pc = .ok (.tableswitch dflt lo hi offs, len)) (hx : x.toInt < lo ∨ hi < x.toInt ∨ offs[(x.toInt - lo).toNat]? = some dflt) (ht : (pc : Int) + dflt = (tgt : Int)) (h1 : nk_Sim w G X nL inj tgt lv st μ F) : nk_Sim w G X nL inj pc lv (.int x :: st) μ F := nk_go (fun _ _ _ _ _ _ _ q => by
  by_cases a : x.toInt < lo ∨ hi < x.toInt
  · exact lv_tableOut C.1 C.2.1 hd a ht q
  · have b : ¬ x.toInt < lo ∧ ¬ hi < x.toInt := ⟨fun z => a (Or.inl z), fun z => a (Or.inr z)⟩
    rcases hx with z | z | z
    · exact absurd z b.1
    · exact absurd z b.2
    · exact lv_tableIn C.1 C.2.1 hd b.1 b.2 z ht q) h1
theorem nk_lku (C : nk_C own cc nL w G X) {dflt : Int} {ps : Array (Int × Int)} {len : Nat} {x : Int32} (k : Int32) {off : Int} {tgt : Nat} {F1 F2 : Option (α × nk_M)} (hd : decode cc pc = .ok (.lookupswitch dflt ps, len)) (h0 : (ps.toList.zip (ps.toList.drop 1)).all (fun (a, next) => a.1 < next.1) = true ∧ Op.lookupswitch.offset ps.toList dflt k.toInt = off ∧ (pc : Int) + off = (tgt : Int)) (h1 : nk_Sim w G X nL inj tgt lv st μ F1) (h2 : x ≠ k → nk_Sim w G X nL inj pc lv (.int x :: st) μ F2) : nk_Sim w G X nL inj pc lv (.int x :: st) μ (if x = k then F1 else F2) := fun v μ' e H locs ls hP hS hl => by
  by_cases hx : x = k
  · rw [if_pos hx] at e
    subst hx
    exact lv_lookup C.1 C.2.1 hd h0.1 h0.2.1 h0.2.2 (h1 v μ' e H locs ls hP hS hl)
  · rw [if_neg hx] at e
    exact h2 hx v μ' e H locs ls hP hS hl
theorem nk_lkuD (C : nk_C own cc nL w G X) {dflt : Int} {ps : Array (Int × Int)} {len : Nat} {x : Int32} {tgt : Nat} (hd : decode cc pc = .ok (.lookupswitch dflt ps, len)) (h0 : (ps.toList.zip (ps.toList.drop 1)).all (fun (a, next) => a.1 < next.1) = true) (hx : Op.lookupswitch.offset ps.toList dflt x.toInt = dflt) (ht : (pc : Int) + dflt = (tgt : Int)) (h1 : nk_Sim w G X nL inj tgt lv st μ F) : nk_Sim w G X nL inj pc lv (.int x :: st) μ F := nk_go (fun _ _ _ _ _ _ _ q => lv_lookup C.1 C.2.1 hd h0 hx ht q) h1
theorem nk_neI {x k : Int32} (h : x ≠ k) : x.toInt ≠ k.toInt := fun e => h (Int32.toInt_inj.mp e)
end NKR
end
section
/-! ===== 03: rows for fields, rows of numbers, static tables, calls, returns ===== -/
def nk_fa (own : String) (index : Nat) (w : nk_D) (ci j : Nat) : Prop := ∃ (Cn : String) (T : u_T) (n : Nat), (∀ c ∈ u_ws Cn T n, c ∈ nk_GT) ∧ w.1[ci]? = some (Cn, T, n) ∧ j < n ∧ (Cond.fieldLink own index (T j).1 (T j).2.1 (T j).2.2.1 ∈ nk_GT ∨ ∃ host, Cond.fieldLinkNest own index (T j).1 (T j).2.1 (T j).2.2.1 host ∈ tables_1)
def nk_fp (own : String) (index : Nat) (w : nk_D) (ci j : Nat) (ty : FieldType) : Prop := ∃ (Cn : String) (T : u_T) (n : Nat) (ty0 : Nat → FieldType), (∀ c ∈ u_ws Cn T n, c ∈ nk_GT) ∧ w.1[ci]? = some (Cn, T, n) ∧ j < n ∧ (Cond.fieldLink own index (T j).1 (T j).2.1 (T j).2.2.1 ∈ nk_GT ∨ ∃ host, Cond.fieldLinkNest own index (T j).1 (T j).2.1 (T j).2.2.1 host ∈ tables_1) ∧
  (∀ k, k < n → parseFieldDescriptor (T k).2.2.1 = some (ty0 k)) ∧ (∀ a, a < n → ∀ b, b < n → a ≠ b → (T a).2.1 ≠ (T b).2.1) ∧ (T j).2.2.2 = false ∧ ty0 j = ty
section NKM
variable {own : String} {cc : ByteArray} {nL : Nat} {w : nk_D} {G : nk_V} {X : nk_X} {α : Type} {inj : α → Option Value} {pc : Nat} {lv st : List Value} {μ : nk_M} {F : Option (α × nk_M)}
theorem nk_get0 (C : nk_C own cc nL w G X) {index ci j k : Nat} {fl : List (Option Nat)} {v : Value} (hfa : nk_fa own index w ci j) (hk : k < w.2.2.1) (hs : w.2.1 k = .inl (ci, fl)) (hv : (nk_flds G fl (μ k))[j]? = some v) (hd : decode cc pc = .ok (.getfield index, 3)) (h : nk_Sim w G X nL inj (pc + 3) lv (v :: st) μ F) : nk_Sim w G X nL inj pc lv (nk_r G k :: st) μ F := by
  obtain ⟨Cn, T, n, h1, h2, h3, h4⟩ := hfa
  refine nk_go (fun H locs ls hP hS hl Q q => ?_) h
  have he : (nk_wl w G μ)[k]? = some (G.2.1 k, .inr (ci, nk_flds G fl (μ k))) := by rw [nk_wl_get hk, hs]; rfl
  rcases h4 with h4 | ⟨host, h4⟩
  · exact va_get C.1 C.2.1 C.2.2.2.2.1 h1 C.2.2.2.1 C.2.2.2.2.2.1.1 hP k he h2 j h3 (C.2.2.2.2.1 _ h4) (fun x hx => hx) hv hd q
  · exact va_getN C.1 C.2.1 C.2.2.2.2.1 h1 C.2.2.2.1 C.2.2.2.2.2.1.1 hP k he h2 j h3 (va_Nw.use rfl (C.2.2.2.2.2.1.2.1 _ h4 rfl)) (fun x hx => hx) hv hd q
theorem nk_getI (C : nk_C own cc nL w G X) {index ci j k : Nat} {fl : List (Option Nat)} (hfa : nk_fa own index w ci j) (hk : k < w.2.2.1) (hs : w.2.1 k = .inl (ci, fl)) (hf : fl[j]? = some none) (hd : decode cc pc = .ok (.getfield index, 3)) (h : nk_Sim w G X nL inj (pc + 3) lv (.int (μ k j) :: st) μ F) : nk_Sim w G X nL inj pc lv (nk_r G k :: st) μ F := nk_get0 C hfa hk hs (nk_flds_i hf) hd h
theorem nk_getR (C : nk_C own cc nL w G X) {index ci j k r : Nat} {fl : List (Option Nat)} (hfa : nk_fa own index w ci j) (hk : k < w.2.2.1) (hs : w.2.1 k = .inl (ci, fl)) (hf : fl[j]? = some (some r)) (hd : decode cc pc = .ok (.getfield index, 3)) (h : nk_Sim w G X nL inj (pc + 3) lv (nk_r G r :: st) μ F) : nk_Sim w G X nL inj pc lv (nk_r G k :: st) μ F := nk_get0 C hfa hk hs (nk_flds_r hf) hd h
def nk_pf (μ : nk_M) (k j : Nat) (v : Int32) (K : nk_M → Option (α × nk_M)) : Option (α × nk_M) := K (nk_up μ k j v)
theorem nk_hD (C : nk_C own cc nL w G X) : va_D G.2.2.2.2 (nk_wl w G μ) := nk_wl_D C.2.2.2.2.2.1.2.2.2.1 C.2.2.2.2.2.1.2.2.2.2
theorem nk_put (C : nk_C own cc nL w G X) {index ci j k : Nat} {fl : List (Option Nat)} {x : Int32} {ty : FieldType} {K : nk_M → Option (α × nk_M)} (hfp : nk_fp own index w ci j ty) (hk : k < w.2.2.1) (hs : w.2.1 k = .inl (ci, fl)) (hf : fl[j]? = some none) (hn : narrow ty (.int x) = .int x) (hfit : fits ty (.int x) = true) (hd : decode cc pc = .ok (.putfield index, 3)) (h : ∀ μ1 : nk_M, nk_Sim w G X nL inj (pc + 3) lv st μ1 (K μ1)) : nk_Sim w G X nL inj pc lv (.int x :: nk_r G k :: st) μ (nk_pf μ k j x K) := by
  obtain ⟨Cn, T, n, ty0, h1, h2, h3, h4, h5, h6, h7, h8⟩ := hfp
  intro v μ' e H locs ls hP hS hl
  have he : (nk_wl w G μ)[k]? = some (G.2.1 k, .inr (ci, nk_flds G fl (μ k))) := by rw [nk_wl_get hk, hs]; rfl
  have hpd : parseFieldDescriptor (T j).2.2.1 = some ty := by rw [h5 j h3, h8]
  have hlen : j < (nk_flds G fl (μ k)).length := by
    have := (List.getElem?_eq_some_iff.mp hf).1
    simpa [nk_flds] using this
  have hset : (nk_wl w G μ).set k (G.2.1 k, .inr (ci, (nk_flds G fl (μ k)).set j (.int x))) = nk_wl w G (nk_up μ k j x) := by
    rw [nk_flds_set hf]
    have := nk_wl_set (w := w) (G := G) (μ := μ) (k := k) (upd (μ k) j x)
    rw [hs] at this
    exact this
  have kk : ∀ (H1 : Heap) (locs1 : List Loc), va_P G.1 w.1 ((nk_wl w G μ).set k (G.2.1 k, .inr (ci, (nk_flds G fl (μ k)).set j (.int x)))) H1 → va_D G.2.2.2.2 ((nk_wl w G μ).set k (G.2.1 k, .inr (ci, (nk_flds G fl (μ k)).set j (.int x)))) → va_S G.2.2.2.2 X.2.2.2.2.1.heap H1 locs1 → W X.1 X.2.1 X.2.2.1 X.2.2.2.1 X.2.2.2.2.1 X.2.2.2.2.2.1 X.2.2.2.2.2.2.1 X.2.2.2.2.2.2.2.1 X.2.2.2.2.2.2.2.2.1 X.2.2.2.2.2.2.2.2.2 H1 locs1 0 0 (MQ X.2.2.2.2.2.2.2.1 (nk_Q w G (inj v) μ') X.2.2.2.2.2.2.1 X.2.2.2.2.1 0 0 G.2.2.2.2) (F0 X.2.2.2.2.2.1 (pc + 3) ls st) := fun H1 locs1 hP1 _ hS1 => by
    rw [hset] at hP1
    exact h _ v μ' e H1 locs1 ls hP1 hS1 hl
  rcases h4 with h4 | ⟨host, h4⟩
  · exact va_put C.1 C.2.1 C.2.2.2.2.1 h1 ty0 h5 h6 C.2.2.2.1 C.2.2.2.2.2.1.1 hP (nk_hD C) hS k he h2 j h3 (C.2.2.2.2.1 _ h4) (fun x hx => hx) h7 hpd hn hfit hlen hd kk
  · exact va_putN C.1 C.2.1 C.2.2.2.2.1 h1 ty0 h5 h6 C.2.2.2.1 C.2.2.2.2.2.1.1 hP (nk_hD C) hS k he h2 j h3 (va_Nw.use rfl (C.2.2.2.2.2.1.2.1 _ h4 rfl)) (fun x hx => hx) h7 hpd hn hfit hlen hd kk
theorem nk_putI (C : nk_C own cc nL w G X) {index ci j k : Nat} {fl : List (Option Nat)} {x : Int32} {K : nk_M → Option (α × nk_M)} (hfp : nk_fp own index w ci j .int) (hk : k < w.2.2.1) (hs : w.2.1 k = .inl (ci, fl)) (hf : fl[j]? = some none) (hd : decode cc pc = .ok (.putfield index, 3)) (h : ∀ μ1 : nk_M, nk_Sim w G X nL inj (pc + 3) lv st μ1 (K μ1)) : nk_Sim w G X nL inj pc lv (.int x :: nk_r G k :: st) μ (nk_pf μ k j x K) := nk_put C hfp hk hs hf rfl rfl hd h
/-- rows of numbers -/
def nk_ald (μ : nk_M) (k n : Nat) (i : Int32) (K : Int32 → Option (α × nk_M)) : Option (α × nk_M) := if i < 0 ∨ n ≤ i.toNatClampNeg then none else K (μ k i.toNatClampNeg)
def nk_ast (μ : nk_M) (k n : Nat) (i x : Int32) (K : nk_M → Option (α × nk_M)) : Option (α × nk_M) := if i < 0 ∨ n ≤ i.toNatClampNeg then none else K (nk_up μ k i.toNatClampNeg x)
theorem nk_iald (C : nk_C own cc nL w G X) {k n : Nat} {i : Int32} {K : Int32 → Option (α × nk_M)} (hk : k < w.2.2.1) (hs : w.2.1 k = .inr (.inl (.int, n))) (hd : decode cc pc = .ok (.iaload, 1)) (h : ∀ z : Int32, nk_Sim w G X nL inj (pc + 1) lv (.int z :: st) μ (K z)) : nk_Sim w G X nL inj pc lv (.int i :: nk_r G k :: st) μ (nk_ald μ k n i K) := by
  intro v μ' e H locs ls hP hS hl
  by_cases hin : i < 0 ∨ n ≤ i.toNatClampNeg
  · simp [nk_ald, hin] at e
  · simp only [nk_ald, hin, if_false] at e
    exact va_iald C.1 C.2.1 C.2.2.2.2.2.1.1 hP k k (by rw [nk_wl_get hk, hs]; rfl) (by rw [nk_tys_get hk, hs]; rfl) hin hd (h _ v μ' e H locs ls hP hS hl)
theorem nk_zald (C : nk_C own cc nL w G X) {k n : Nat} {i : Int32} {K : Int32 → Option (α × nk_M)} (hk : k < w.2.2.1) (hs : w.2.1 k = .inr (.inl (.boolean, n))) (hd : decode cc pc = .ok (.baload, 1)) (h : ∀ z : Int32, nk_Sim w G X nL inj (pc + 1) lv (.int z :: st) μ (K z)) : nk_Sim w G X nL inj pc lv (.int i :: nk_r G k :: st) μ (nk_ald μ k n i K) := by
  intro v μ' e H locs ls hP hS hl
  by_cases hin : i < 0 ∨ n ≤ i.toNatClampNeg
  · simp [nk_ald, hin] at e
  · simp only [nk_ald, hin, if_false] at e
    exact va_zald C.1 C.2.1 C.2.2.2.2.2.1.1 hP k k (by rw [nk_wl_get hk, hs]; rfl) (by rw [nk_tys_get hk, hs]; rfl) hin hd (h _ v μ' e H locs ls hP hS hl)
theorem nk_aset {k n : Nat} {ty : FieldType} {f : Nat → Int32} (hs : w.2.1 k = .inr (.inl (ty, n))) : (nk_wl w G μ).set k (G.2.1 k, .inl (G.2.2.1 k, n, .inl f)) = nk_wl w G (nk_upA μ k f) := by
  have := nk_wl_set (w := w) (G := G) (μ := μ) (k := k) f
  rw [hs] at this
  exact this
theorem nk_iast (C : nk_C own cc nL w G X) {k n : Nat} {i x : Int32} {K : nk_M → Option (α × nk_M)} (hk : k < w.2.2.1) (hs : w.2.1 k = .inr (.inl (.int, n))) (hd : decode cc pc = .ok (.iastore, 1)) (h : ∀ μ1 : nk_M, nk_Sim w G X nL inj (pc + 1) lv st μ1 (K μ1)) : nk_Sim w G X nL inj pc lv (.int x :: .int i :: nk_r G k :: st) μ (nk_ast μ k n i x K) := by
  intro v μ' e H locs ls hP hS hl
  by_cases hin : i < 0 ∨ n ≤ i.toNatClampNeg
  · simp [nk_ast, hin] at e
  · simp only [nk_ast, hin, if_false] at e
    refine va_iast C.1 C.2.1 C.2.2.2.2.2.1.1 hP (nk_hD C) hS k k (cA := G.2.2.1 k) (n := n) (f := μ k) (by rw [nk_wl_get hk, hs]; rfl) (by rw [nk_tys_get hk, hs]; rfl) hin hd (fun H1 locs1 hP1 _ hS1 => ?_)
    rw [nk_aset hs] at hP1
    exact h _ v μ' e H1 locs1 ls hP1 hS1 hl
theorem nk_zast (C : nk_C own cc nL w G X) {k n : Nat} {i x : Int32} {K : nk_M → Option (α × nk_M)} (hk : k < w.2.2.1) (hs : w.2.1 k = .inr (.inl (.boolean, n))) (hx : vp_nar .boolean x = x) (hd : decode cc pc = .ok (.bastore, 1)) (h : ∀ μ1 : nk_M, nk_Sim w G X nL inj (pc + 1) lv st μ1 (K μ1)) : nk_Sim w G X nL inj pc lv (.int x :: .int i :: nk_r G k :: st) μ (nk_ast μ k n i x K) := by
  intro v μ' e H locs ls hP hS hl
  by_cases hin : i < 0 ∨ n ≤ i.toNatClampNeg
  · simp [nk_ast, hin] at e
  · simp only [nk_ast, hin, if_false] at e
    refine va_zast C.1 C.2.1 C.2.2.2.2.2.1.1 hP (nk_hD C) hS k k (cA := G.2.2.1 k) (n := n) (f := μ k) (by rw [nk_wl_get hk, hs]; rfl) (by rw [nk_tys_get hk, hs]; rfl) hin hd (fun H1 locs1 hP1 _ hS1 => ?_)
    rw [hx, nk_aset hs] at hP1
    exact h _ v μ' e H1 locs1 ls hP1 hS1 hl
theorem nk_alen (C : nk_C own cc nL w G X) {k n : Nat} {ty : FieldType} (hk : k < w.2.2.1) (hs : w.2.1 k = .inr (.inl (ty, n))) (hd : decode cc pc = .ok (.arraylength, 1)) (h : nk_Sim w G X nL inj (pc + 1) lv (.int (nI n) :: st) μ F) : nk_Sim w G X nL inj pc lv (nk_r G k :: st) μ F := by
  refine nk_go (fun H locs ls hP hS hl Q q => ?_) h
  exact va_alen C.1 C.2.1 C.2.2.2.2.2.1.1 hP k k (cA := G.2.2.1 k) (x := (n, .inl (μ k))) (by rw [nk_wl_get hk, hs]; try rfl) (by rw [nk_tys_get hk, hs]; try rfl) rfl hd q
/-- a row of rows: its rows are cells of their own -/
def nk_ard (n : Nat) (i : Int32) (K : Option (α × nk_M)) : Option (α × nk_M) := if i < 0 ∨ n ≤ i.toNatClampNeg then none else K
theorem nk_aald (C : nk_C own cc nL w G X) {k n b0 : Nat} {i : Int32} (hk : k < w.2.2.1) (hs : w.2.1 k = .inr (.inr (n, b0))) (hd : decode cc pc = .ok (.aaload, 1)) (h : ¬ (i < 0 ∨ n ≤ i.toNatClampNeg) → nk_Sim w G X nL inj (pc + 1) lv (nk_r G (b0 + i.toNatClampNeg) :: st) μ F) : nk_Sim w G X nL inj pc lv (.int i :: nk_r G k :: st) μ (nk_ard n i F) := by
  intro v μ' e H locs ls hP hS hl
  by_cases hin : i < 0 ∨ n ≤ i.toNatClampNeg
  · simp [nk_ard, hin] at e
  · simp only [nk_ard, hin, if_false] at e
    have ha : (nk_wl w G μ)[k]? = some (G.2.1 k, .inl (G.2.2.1 k, n, .inr (.inr (.inr (.inr (fun i => some (G.2.1 (b0 + i)))))))) := by rw [nk_wl_get hk, hs]; rfl
    have ht : (nk_tys w G)[k]? = some (G.2.2.1 k, .array .int) := by rw [nk_tys_get hk, hs]; rfl
    have hlt : i.toNatClampNeg < n := Nat.not_le.mp fun q => hin (Or.inr q)
    exact W.aald (v := va_rf (some (G.2.1 (b0 + i.toNatClampNeg)))) (ty := .array .int) C.1 C.2.1 (hP k _ ha) ((C.2.2.2.2.2.1.1.2 k _ ht).1 n (fun j => va_rf (some (G.2.1 (b0 + j))))) rfl (fun q => by cases q) (by show ¬ (i < 0 ∨ (arrV _ _ _).slots.size ≤ _); rw [arrV_size]; exact hin) (by show (arrV _ _ _).slots[_]? = _; rw [arrV_read _ _ hlt]) rfl rfl hd (h hin v μ' e H locs ls hP hS hl)
/-- static tables -/
abbrev nk_ts (G : nk_V) (i : Nat) : Value := .ref (G.2.2.2.1 i)
theorem nk_gets (C : nk_C own cc nL w G X) {index i : Nat} {q : nk_T} (hq : w.2.2.2[i]? = some q) (hlink : ∃ host, Cond.fieldLinkNest own index q.1 q.2.1 q.2.2.1 host ∈ tables_1) (hd : decode cc pc = .ok (.getstatic index, 3)) (h : nk_Sim w G X nL inj (pc + 3) lv (nk_ts G i :: st) μ F) : nk_Sim w G X nL inj pc lv st μ F := by
  obtain ⟨host, hl0⟩ := hlink
  refine nk_go (fun H locs ls hP hS hl Q k => ?_) h
  exact va_getsN C.1 C.2.1 (C.2.2.2.2.2.1.2.2.1 i q hq).1 hS C.2.2.2.1 (va_Nw.use rfl (C.2.2.2.2.2.1.2.1 _ hl0 rfl)) (fun x hx => hx) hd k
def nk_tld (n : Nat) (f : Nat → Int32) (i : Int32) (K : Int32 → Option (α × nk_M)) : Option (α × nk_M) := if i < 0 ∨ n ≤ i.toNatClampNeg then none else K (f i.toNatClampNeg)
theorem nk_ti (C : nk_C own cc nL w G X) {i : Nat} {a1 a2 a3 : String} {n : Nat} {f : Nat → Int32} {j : Int32} {K : Int32 → Option (α × nk_M)} (hq : w.2.2.2[i]? = some (a1, a2, a3, .int, n, f)) (hd : decode cc pc = .ok (.iaload, 1)) (h : ∀ z : Int32, nk_Sim w G X nL inj (pc + 1) lv (.int z :: st) μ (K z)) : nk_Sim w G X nL inj pc lv (.int j :: nk_ts G i :: st) μ (nk_tld n f j K) := by
  intro v μ' e H locs ls hP hS hl
  by_cases hin : j < 0 ∨ n ≤ j.toNatClampNeg
  · simp [nk_tld, hin] at e
  · simp only [nk_tld, hin, if_false] at e
    exact va_ti C.1 C.2.1 (C.2.2.2.2.2.1.2.2.1 i _ hq).2 hS hin rfl hd (h _ v μ' e H locs ls hP hS hl)
theorem nk_tc (C : nk_C own cc nL w G X) {i : Nat} {a1 a2 a3 : String} {n : Nat} {f : Nat → Int32} {j : Int32} {K : Int32 → Option (α × nk_M)} (hq : w.2.2.2[i]? = some (a1, a2, a3, .char, n, f)) (hd : decode cc pc = .ok (.caload, 1)) (h : ∀ z : Int32, nk_Sim w G X nL inj (pc + 1) lv (.int z :: st) μ (K z)) : nk_Sim w G X nL inj pc lv (.int j :: nk_ts G i :: st) μ (nk_tld n f j K) := by
  intro v μ' e H locs ls hP hS hl
  by_cases hin : j < 0 ∨ n ≤ j.toNatClampNeg
  · simp [nk_tld, hin] at e
  · simp only [nk_tld, hin, if_false] at e
    exact va_tc C.1 C.2.1 (C.2.2.2.2.2.1.2.2.1 i _ hq).2 hS hin rfl hd (h _ v μ' e H locs ls hP hS hl)
theorem nk_tlen (C : nk_C own cc nL w G X) {i : Nat} {a1 a2 a3 : String} {ty : FieldType} {n : Nat} {f : Nat → Int32} (hq : w.2.2.2[i]? = some (a1, a2, a3, ty, n, f)) (hd : decode cc pc = .ok (.arraylength, 1)) (h : nk_Sim w G X nL inj (pc + 1) lv (.int (nI n) :: st) μ F) : nk_Sim w G X nL inj pc lv (nk_ts G i :: st) μ F := by
  refine nk_go (fun H locs ls hP hS hl Q k => ?_) h
  exact va_tlen C.1 C.2.1 (C.2.2.2.2.2.1.2.2.1 i _ hq).2 hS rfl hd k
/-- System.arraycopy between rows of ints -/
def nk_cpy (μ : nk_M) (k0 n0 : Nat) (sp : Int32) (k1 n1 : Nat) (dp n : Int32) (K : nk_M → Option (α × nk_M)) : Option (α × nk_M) :=
  if sp < 0 ∨ dp < 0 ∨ n < 0 ∨ n0 < sp.toNatClampNeg + n.toNatClampNeg ∨ n1 < dp.toNatClampNeg + n.toNatClampNeg then none else K (nk_upA μ k1 (va_cpy (μ k0) (μ k1) sp.toNatClampNeg dp.toNatClampNeg n.toNatClampNeg))
theorem nk_acopy (C : nk_C own cc nL w G X) {index k0 n0 k1 n1 hh : Nat} {sp dp n : Int32} {K : nk_M → Option (α × nk_M)} (hR : X.2.2.2.1 = nk_rm (hh + 1)) (hlink : Cond.methodLink own index arraycopyName ∈ nk_GT) (hnat : Cond.native arraycopyName ∈ nk_GT) (hstat : Cond.static arraycopyName ∈ nk_GT) (hini : Cond.initialized "java/lang/System" ∈ nk_GT) (hk0 : k0 < w.2.2.1) (hs0 : w.2.1 k0 = .inr (.inl (.int, n0))) (hk1 : k1 < w.2.2.1) (hs1 : w.2.1 k1 = .inr (.inl (.int, n1))) (hst : (st.map fun v => v.category).sum ≤ 8) (hd : decode cc pc = .ok (.invokestatic index, 3)) (h : ∀ μ1 : nk_M, nk_Sim w G X nL inj (pc + 3) lv st μ1 (K μ1)) : nk_Sim w G X nL inj pc lv (.int n :: .int dp :: nk_r G k1 :: .int sp :: nk_r G k0 :: st) μ (nk_cpy μ k0 n0 sp k1 n1 dp n K) := by
  intro v μ' e H locs ls hP hS hl
  by_cases hin : sp < 0 ∨ dp < 0 ∨ n < 0 ∨ n0 < sp.toNatClampNeg + n.toNatClampNeg ∨ n1 < dp.toNatClampNeg + n.toNatClampNeg
  · simp [nk_cpy, hin] at e
  · simp only [nk_cpy, hin, if_false] at e
    have b1 : ¬ sp < 0 := fun z => hin (Or.inl z)
    have b2 : ¬ dp < 0 := fun z => hin (Or.inr (Or.inl z))
    have b3 : ¬ n < 0 := fun z => hin (Or.inr (Or.inr (Or.inl z)))
    have b4 : sp.toNatClampNeg + n.toNatClampNeg ≤ n0 := Nat.not_lt.mp fun z => hin (Or.inr (Or.inr (Or.inr (Or.inl z))))
    have b5 : dp.toNatClampNeg + n.toNatClampNeg ≤ n1 := Nat.not_lt.mp fun z => hin (Or.inr (Or.inr (Or.inr (Or.inr z))))
    refine va_copyi C.1 C.2.1 (C.2.2.1.trans hl.1.symm) C.2.2.2.1 (C.2.2.2.2.1 _ hlink) (C.2.2.2.2.1 _ hnat) (C.2.2.2.2.1 _ hstat) (C.2.2.2.2.1 _ hini) C.2.2.2.2.2.1.1 hP (nk_hD C) hS k0 k1 k0 k1 (c0 := G.2.2.1 k0) (c1 := G.2.2.1 k1) (n0 := n0) (n1 := n1) (f := μ k0) (g := μ k1) (ty := .int) (by rw [nk_wl_get hk0, hs0]; rfl) (by rw [nk_wl_get hk1, hs1]; rfl) (by rw [nk_tys_get hk0, hs0]; rfl) (by rw [nk_tys_get hk1, hs1]; rfl) rfl b1 b2 b3 b4 b5 (fun _ _ => rfl) (by rw [hR]; exact Nat.succ_le_succ (Nat.zero_le _)) ?_ hd (fun H1 locs1 hP1 _ hS1 => ?_)
    · rw [hR]
      have e1 : nativeFrameWords "java/lang/System" "arraycopy" 5 + 11 ≤ 56 := by decide +kernel
      show _ ≤ 64 * (hh + 1)
      omega
    · rw [nk_aset hs1] at hP1
      exact h _ v μ' e H1 locs1 ls hP1 hS1 hl
theorem nk_mmax (C : nk_C own cc nL w G X) {index hh : Nat} {x y : Int32} (hR : X.2.2.2.1 = nk_rm (hh + 1)) (hlink : Cond.methodLink own index Lib.Math.max.name ∈ nk_GT) (hstat : Cond.static Lib.Math.max.name ∈ nk_GT) (hini : Cond.initialized "java/lang/Math" ∈ nk_GT) (hcode : Cond.code Lib.Math.max.name Lib.Math.max.code 2 (some .int) ∈ nk_GT) (hst : (st.map fun v => v.category).sum ≤ 8) (hd : decode cc pc = .ok (.invokestatic index, 3)) (h : nk_Sim w G X nL inj (pc + 3) lv (.int (if x < y then y else x) :: st) μ F) : nk_Sim w G X nL inj pc lv (.int y :: .int x :: st) μ F := by
  refine nk_go (fun H locs ls hP hS hl Q k => ?_) h
  refine va_mmax C.1 C.2.1 (C.2.2.1.trans hl.1.symm) C.2.2.2.1 (C.2.2.2.2.1 _ hlink) (C.2.2.2.2.1 _ hstat) (C.2.2.2.2.1 _ hini) (C.2.2.2.2.1 _ hcode) (by rw [hR]; exact Nat.succ_le_succ (Nat.zero_le _)) ?_ (by rw [hR]; exact Nat.le_refl _) (by rw [hR]; exact Nat.le_refl _) hd k
  rw [hR]
  show _ ≤ 64 * (hh + 1)
  omega
/-- calls -/
def nk_bd {β : Type} (Fc : Option (β × nk_M)) (K : β → nk_M → Option (α × nk_M)) : Option (α × nk_M) := match Fc with
  | none => none
  | some q => K q.1 q.2
def nk_cB (own : String) (index : Nat) (y : MethodName) (b : ByteArray) (nL' : Nat) (ret : Option FieldType) (n : Nat) : Prop :=
  Cond.code y b nL' ret ∈ nk_GT ∧ Cond.initialized y.cls ∈ nk_GT ∧ (y.cls ≠ "java/lang/invoke/MethodHandle" ∧ y.cls ≠ "java/lang/invoke/VarHandle" ∧ (parseMethodDescriptor y.desc).map (fun d => d.parameters.length) = some n) ∧ nL' ≤ 45 ∧ (Cond.methodLink own index y ∈ nk_GT ∨ ∃ host, Cond.methodLinkNest own index y host ∈ tables_1)
def nk_cV (own : String) (index : Nat) (y : MethodName) (b : ByteArray) (nL' : Nat) (ret : Option FieldType) (n : Nat) : Prop := nk_cB own index y b nL' ret n ∧ Cond.instanceMethod y ∈ nk_GT ∧ Cond.selects y.cls y y ∈ nk_GT
def nk_cS (own : String) (index : Nat) (y : MethodName) (b : ByteArray) (nL' : Nat) (ret : Option FieldType) (n : Nat) : Prop := nk_cB own index y b nL' ret n ∧ Cond.static y ∈ nk_GT
theorem nk_GT_good {c : Cond} (h : c ∈ nk_GT) : (c.onTables && c.keeps) = true ∨ ∃ ty, c = .arrayClass ty := good_of_word (List.mem_filter.mp h).2
theorem nk_ws {y : MethodName} {b : ByteArray} {nL' : Nat} {ret : Option FieldType} (h : Cond.code y b nL' ret ∈ nk_GT) : GoodIn nk_GT (Cond.code y b nL' ret :: nk_GT) := fun c hc => by
  rcases List.mem_cons.mp hc with rfl | hc
  · exact ⟨h, nk_GT_good h⟩
  · exact ⟨hc, nk_GT_good hc⟩
theorem nk_rmle {hh H nL' : Nat} (h : hh + 1 ≤ H) (hn : nL' ≤ 45) : (nk_rm hh).frames + 1 ≤ (nk_rm H).frames ∧ 8 + (nL' + 11) + (nk_rm hh).locals ≤ (nk_rm H).locals := ⟨h, by show 8 + (nL' + 11) + 64 * hh ≤ 64 * H; omega⟩
theorem nk_called (C : nk_C own cc nL w G X) {β : Type} {inj' : β → Option Value} {Fc : Option (β × nk_M)} {K : β → nk_M → Option (α × nk_M)} {y : MethodName} {b : ByteArray} {nL' hh : Nat} {ret : Option FieldType} {av stk : List Value} (hct : nk_Ct X.2.1 w G hh y b nL' ret inj' av μ Fc)
    (run : ∀ (H : Heap) (locs : List Loc) (ls : Array Slot), va_P G.1 w.1 (nk_wl w G μ) H → va_S G.2.2.2.2 X.2.2.2.2.1.heap H locs → ls.size = nL → ∀ (Qc : Array Value → State → Outcome → State → Prop), Met X.2.1 y (Cond.code y b nL' ret :: nk_GT) (nk_rm hh) (va_Pc av (nk_W w G μ)) Qc 0 0 G.2.2.2.2 → va_Run X.1 X.2.1 X.2.2.1 X.2.2.2.1 X.2.2.2.2.1 X.2.2.2.2.2.1 X.2.2.2.2.2.2.1 X.2.2.2.2.2.2.2.1 X.2.2.2.2.2.2.2.2.1 X.2.2.2.2.2.2.2.2.2 H locs 0 0 0 0 (F0 X.2.2.2.2.2.1 pc ls stk) st (Qc av.toArray) G.2.2.2.2)
    (h : ∀ (r : β) (μ1 : nk_M), nk_Sim w G X nL inj (pc + 3) lv ((inj' r).toList ++ st) μ1 (K r μ1)) : nk_Sim w G X nL inj pc lv stk μ (nk_bd Fc K) := by
  intro v μ' e H locs ls hP hS hl
  cases hF : Fc with
  | none => rw [hF] at e; cases e
  | some q =>
    obtain ⟨r, μ1⟩ := q
    rw [hF] at e
    have hr := run H locs ls hP hS hl.1 _ (hct r μ1 hF)
    intro T hT Xs
    obtain ⟨v1, st₀, t, T', L, h0, X', hL, e1, e2, ⟨⟨hv, hb⟩, hz, hk⟩, stp⟩ := hr T hT Xs
    cases hv
    rw [h0] at hz hk
    obtain ⟨t2, a1, b1⟩ := h r μ1 v μ' e T'.heap (locs ++ L) ls (by rw [e1]; exact hb.1)
      ⟨Nat.le_trans hS.1 (by rw [e1]; exact hz), fun q h1 h2 => by rw [e1, hk q (Nat.lt_of_lt_of_le h1 hS.1) h2]; exact hS.2.1 q h1 h2, fun q hq => by
        rcases List.mem_append.mp hq with h | h
        · exact hS.2.2 q h
        · exact hL q h⟩ hl T' rfl X'
    exact ⟨t2, stp t2 a1, b1⟩
theorem nk_callV (C : nk_C own cc nL w G X) {β : Type} {inj' : β → Option Value} {Fc : Option (β × nk_M)} {K : β → nk_M → Option (α × nk_M)} {y : MethodName} {b : ByteArray} {nL' hh HH n index k ci nn : Nat} {T : u_T} {fl : List (Option Nat)} {ret : Option FieldType} (As : List Value) {stk : List Value} (hcV : nk_cV own index y b nL' ret n) (hR : X.2.2.2.1 = nk_rm HH) (hct : nk_Ct X.2.1 w G hh y b nL' ret inj' (nk_r G k :: As) μ Fc) (hH : hh + 1 ≤ HH) (hk : k < w.2.2.1) (hs : w.2.1 k = .inl (ci, fl)) (hc : w.1[ci]? = some (y.cls, T, nn)) (hn : As.length = n) (hstk : stk = As.reverse ++ nk_r G k :: st) (hst : (st.map fun v => v.category).sum ≤ 8) (hd : decode cc pc = .ok (.invokevirtual index, 3))
    (h : ∀ (r : β) (μ1 : nk_M), nk_Sim w G X nL inj (pc + 3) lv ((inj' r).toList ++ st) μ1 (K r μ1)) : nk_Sim w G X nL inj pc lv stk μ (nk_bd Fc K) := by
  obtain ⟨⟨c1, c2, c3, c4, c5⟩, c6, c7⟩ := hcV
  have hS' : CallFix X.1 X.2.2.2.2.2.1 X.2.2.2.2.2.2.2.2.2 cc nL X.2.2.2.2.1 X.2.2.2.2.2.2.1 nk_GT own := ⟨C.1, C.2.1, C.2.2.1, C.2.2.2.1, C.2.2.2.2.1⟩
  refine nk_called C hct (fun H locs ls hP hS hl Qc hM => ?_) h
  have hpre : PreV X.2.2.2.2.1 H y.cls (G.2.1 k) (va_Pc (nk_r G k :: As) (nk_W w G μ)) As := ⟨nk_blind, va_recv C.2.2.2.2.2.1.1 hP hc (q0 := k) (fs := nk_flds G fl (μ k)) (by rw [nk_wl_get hk, hs]; rfl), fun U hU hW => ⟨rfl, by rw [hU]; exact hP, nk_K.warm hW hU hS C.2.2.2.2.2.1⟩⟩
  have hlm := nk_rmle hH c4
  rcases c5 with c5 | ⟨host, c5⟩
  · exact va_runV hS' hM ⟨callB_of n C.2.2.2.2.1 (nk_ws c1) rfl rfl rfl (C.2.2.2.2.1 _ c2) (C.2.2.2.2.1 _ c5) c3 (by rw [hR]; exact hlm), C.2.2.2.2.1 _ c6, C.2.2.2.2.1 _ c7⟩ hpre rfl hn hl hstk (lv_room hst) hd (by rw [hR]; exact ⟨Nat.le_refl _, Nat.le_refl _⟩)
  · exact va_runVN hS' hM ⟨va_cnB n C.2.2.2.2.1 (nk_ws c1) rfl rfl rfl (C.2.2.2.2.2.1.2.1 _ c5 rfl) (C.2.2.2.2.1 _ c2) c3 (by rw [hR]; exact hlm), C.2.2.2.2.1 _ c6, C.2.2.2.2.1 _ c7⟩ hpre rfl hn hl hstk (lv_room hst) hd (by rw [hR]; exact ⟨Nat.le_refl _, Nat.le_refl _⟩)
theorem nk_callS (C : nk_C own cc nL w G X) {β : Type} {inj' : β → Option Value} {Fc : Option (β × nk_M)} {K : β → nk_M → Option (α × nk_M)} {y : MethodName} {b : ByteArray} {nL' hh HH n index : Nat} {ret : Option FieldType} (As : List Value) {stk : List Value} (hcS : nk_cS own index y b nL' ret n) (hR : X.2.2.2.1 = nk_rm HH) (hct : nk_Ct X.2.1 w G hh y b nL' ret inj' As μ Fc) (hH : hh + 1 ≤ HH) (hn : As.length = n) (hstk : stk = As.reverse ++ st) (hst : (st.map fun v => v.category).sum ≤ 8) (hd : decode cc pc = .ok (.invokestatic index, 3))
    (h : ∀ (r : β) (μ1 : nk_M), nk_Sim w G X nL inj (pc + 3) lv ((inj' r).toList ++ st) μ1 (K r μ1)) : nk_Sim w G X nL inj pc lv stk μ (nk_bd Fc K) := by
  obtain ⟨⟨c1, c2, c3, c4, c5⟩, c6⟩ := hcS
  have hS' : CallFix X.1 X.2.2.2.2.2.1 X.2.2.2.2.2.2.2.2.2 cc nL X.2.2.2.2.1 X.2.2.2.2.2.2.1 nk_GT own := ⟨C.1, C.2.1, C.2.2.1, C.2.2.2.1, C.2.2.2.2.1⟩
  refine nk_called C hct (fun H locs ls hP hS hl Qc hM => ?_) h
  have hpre : PreS X.2.2.2.2.1 H (va_Pc As (nk_W w G μ)) As := ⟨nk_blind, fun U hU hW => ⟨rfl, by rw [hU]; exact hP, nk_K.warm hW hU hS C.2.2.2.2.2.1⟩⟩
  have hlm := nk_rmle hH c4
  rcases c5 with c5 | ⟨host, c5⟩
  · exact va_runS hS' hM ⟨callB_of n C.2.2.2.2.1 (nk_ws c1) rfl rfl rfl (C.2.2.2.2.1 _ c2) (C.2.2.2.2.1 _ c5) c3 (by rw [hR]; exact hlm), C.2.2.2.2.1 _ c6⟩ hpre rfl hn hl hstk (lv_room hst) hd (by rw [hR]; exact ⟨Nat.le_refl _, Nat.le_refl _⟩)
  · exact va_runSN hS' hM ⟨va_cnB n C.2.2.2.2.1 (nk_ws c1) rfl rfl rfl (C.2.2.2.2.2.1.2.1 _ c5 rfl) (C.2.2.2.2.1 _ c2) c3 (by rw [hR]; exact hlm), C.2.2.2.2.1 _ c6, trivial⟩ hpre rfl hn hl hstk (lv_room hst) hd (by rw [hR]; exact ⟨Nat.le_refl _, Nat.le_refl _⟩)
/-- returns -/
theorem nk_end (C : nk_C own cc nL w G X) {o : Option Value} {H : Heap} {locs : List Loc} (hP : va_P G.1 w.1 (nk_wl w G μ) H) (hS : va_S G.2.2.2.2 X.2.2.2.2.1.heap H locs) : ∀ t : State, t.heap = H → X.2.2.2.2.1.WarmedH t.vm → nk_Q w G o μ X.2.2.2.2.2.2.1 X.2.2.2.2.1 (.returned o) t := fun t ht hW => ⟨⟨rfl, by rw [ht]; exact hP, nk_K.warm hW ht hS C.2.2.2.2.2.1⟩, hS.F ht⟩
theorem nk_iret (C : nk_C own cc nL w G X) {x : Int32} (hr : X.2.2.2.2.2.2.2.2.1.sig.returnType = some .int) (hd : decode cc pc = .ok (.ireturn, 1)) : nk_Sim w G X nL nk_oi pc lv [.int x] μ (some (x, μ)) := by
  intro v μ' e H locs ls hP hS hl
  cases e
  exact W.iret C.1 C.2.1 hr (nk_end C hP hS) hS.2.2 hd C.2.2.2.2.2.2
/-- a boolean's answer -/
def nk_zr (x : Int32) (μ : nk_M) : Option (Int32 × nk_M) := if x = 0 ∨ x = 1 then some (x, μ) else none
theorem nk_zret (C : nk_C own cc nL w G X) {x : Int32} (hr : X.2.2.2.2.2.2.2.2.1.sig.returnType = some .boolean) (hd : decode cc pc = .ok (.ireturn, 1)) : nk_Sim w G X nL nk_oi pc lv [.int x] μ (nk_zr x μ) := by
  intro v μ' e H locs ls hP hS hl
  unfold nk_zr at e
  by_cases hx : x = 0 ∨ x = 1
  · rw [if_pos hx] at e
    cases e
    exact W.zret C.1 C.2.1 hr (by rcases hx with rfl | rfl <;> decide) (nk_end C hP hS) hS.2.2 hd C.2.2.2.2.2.2
  · rw [if_neg hx] at e
    cases e
theorem nk_lret (C : nk_C own cc nL w G X) {x : Int64} (hr : X.2.2.2.2.2.2.2.2.1.sig.returnType = some .long) (hd : decode cc pc = .ok (.lreturn, 1)) : nk_Sim w G X nL nk_ol pc lv [.long x] μ (some (x, μ)) := by
  intro v μ' e H locs ls hP hS hl
  cases e
  exact W.lret C.1 C.2.1 hr (nk_end C hP hS) hS.2.2 hd C.2.2.2.2.2.2
theorem nk_vret (C : nk_C own cc nL w G X) (hr : X.2.2.2.2.2.2.2.2.1.sig.returnType = none) (hd : decode cc pc = .ok (.return_, 1)) : nk_Sim w G X nL nk_ov pc lv [] μ (some ((), μ)) := by
  intro v μ' e H locs ls hP hS hl
  cases e
  exact W.vret C.1 C.2.1 hr (nk_end C hP hS) hS.2.2 hd C.2.2.2.2.2.2
end NKM
end
section
/-! ===== 04: names, the words of the tables that are used, by their places (written by program) ===== -/
def nk_fu : Nat := 4096
theorem nk_inc (x : Int32) {n : Int} {k : Int32} (h : Int32.ofInt n = k) : x + Int32.ofInt n = x + k := by rw [h]
theorem nk_neK {x k : Int32} {i : Int} (hk : k.toInt = i) (h : x ≠ k) : x.toInt ≠ i := fun e => h (Int32.toInt_inj.mp (e.trans hk.symm))
theorem nk_tm {c : Cond} (i : Nat) (h : tables_1[i]? = some c) (hg : goodWord c = true) : c ∈ nk_GT := List.mem_filter.mpr ⟨List.mem_append_right _ (List.mem_of_getElem? h), hg⟩
theorem nk_tn {c : Cond} (i : Nat) (h : tables_1[i]? = some c) : c ∈ tables_1 := List.mem_of_getElem? h
theorem nk_tp {q : MethodName × Nat} (i : Nat) (h : lw_privs[i]? = some q) : Cond.selects q.1.cls q.1 q.1 ∈ nk_GT := List.mem_filter.mpr ⟨List.mem_append_left _ (List.mem_map.mpr ⟨q, List.mem_of_getElem? h, rfl⟩), rfl⟩
abbrev zb_J_fill : ByteArray := prog_10_method_103_code
abbrev zy_J_fill : MethodName := ⟨"java/util/Arrays", "fill", "([II)V"⟩
abbrev zb_C_putToSleep : ByteArray := prog_2_method_12_code
abbrev zy_C_putToSleep : MethodName := ⟨"NeedOnce$Cells", "putToSleep", "()V"⟩
abbrev zb_S_has : ByteArray := prog_4_method_2_code
abbrev zy_S_has : MethodName := ⟨"NeedOnce$Sheets", "has", "(I)Z"⟩
abbrev zb_N_isLane : ByteArray := prog_1_method_42_code
abbrev zy_N_isLane : MethodName := ⟨"NeedOnce", "isLane", "(I)Z"⟩
abbrev zb_S_isRange : ByteArray := prog_4_method_7_code
abbrev zy_S_isRange : MethodName := ⟨"NeedOnce$Sheets", "isRange", "(III)Z"⟩
abbrev zb_S_rangeFault : ByteArray := prog_4_method_6_code
abbrev zy_S_rangeFault : MethodName := ⟨"NeedOnce$Sheets", "rangeFault", "(IIII)I"⟩
abbrev zb_N_faulted : ByteArray := prog_1_method_41_code
abbrev zy_N_faulted : MethodName := ⟨"NeedOnce", "faulted", "(I)I"⟩
abbrev zb_C_forgetAll : ByteArray := prog_2_method_9_code
abbrev zy_C_forgetAll : MethodName := ⟨"NeedOnce$Cells", "forgetAll", "()V"⟩
abbrev zb_S_at : ByteArray := prog_4_method_3_code
abbrev zy_S_at : MethodName := ⟨"NeedOnce$Sheets", "at", "(II)I"⟩
abbrev zb_T_placeIn : ByteArray := prog_5_method_8_code
abbrev zy_T_placeIn : MethodName := ⟨"NeedOnce$TextReader", "placeIn", "([CI)I"⟩
abbrev zb_T_takesKind : ByteArray := prog_5_method_4_code
abbrev zy_T_takesKind : MethodName := ⟨"NeedOnce$TextReader", "takesKind", "(LNeedOnce$Cells;II)Z"⟩
abbrev zb_T_takesPrice : ByteArray := prog_5_method_5_code
abbrev zy_T_takesPrice : MethodName := ⟨"NeedOnce$TextReader", "takesPrice", "(LNeedOnce$Cells;II)Z"⟩
abbrev zb_T_takesSign : ByteArray := prog_5_method_6_code
abbrev zy_T_takesSign : MethodName := ⟨"NeedOnce$TextReader", "takesSign", "(LNeedOnce$Cells;II)Z"⟩
abbrev zb_C_tellPart : ByteArray := prog_2_method_6_code
abbrev zy_C_tellPart : MethodName := ⟨"NeedOnce$Cells", "tellPart", "(III)V"⟩
abbrev zb_T_takesPart : ByteArray := prog_5_method_7_code
abbrev zy_T_takesPart : MethodName := ⟨"NeedOnce$TextReader", "takesPart", "(LNeedOnce$Cells;II)Z"⟩
abbrev zb_T_goesOn : ByteArray := prog_5_method_3_code
abbrev zy_T_goesOn : MethodName := ⟨"NeedOnce$TextReader", "goesOn", "(LNeedOnce$Cells;I)Z"⟩
abbrev zb_T_readInto : ByteArray := prog_5_method_2_code
abbrev zy_T_readInto : MethodName := ⟨"NeedOnce$TextReader", "readInto", "(LNeedOnce$Cells;LNeedOnce$Sheets;III)I"⟩
abbrev zb_C_partAsTold : ByteArray := prog_2_method_5_code
abbrev zy_C_partAsTold : MethodName := ⟨"NeedOnce$Cells", "partAsTold", "(II)I"⟩
abbrev zb_C_partSet : ByteArray := prog_2_method_11_code
abbrev zy_C_partSet : MethodName := ⟨"NeedOnce$Cells", "partSet", "(I)I"⟩
abbrev zb_C_firstLoose : ByteArray := prog_2_method_10_code
abbrev zy_C_firstLoose : MethodName := ⟨"NeedOnce$Cells", "firstLoose", "()I"⟩
abbrev zb_C_becomeLike : ByteArray := prog_2_method_8_code
abbrev zy_C_becomeLike : MethodName := ⟨"NeedOnce$Cells", "becomeLike", "(LNeedOnce$Cells;)V"⟩
abbrev zb_C_startLatest : ByteArray := prog_2_method_15_code
abbrev zy_C_startLatest : MethodName := ⟨"NeedOnce$Cells", "startLatest", "()V"⟩
abbrev zb_N_heap : ByteArray := prog_1_method_2_code
abbrev zy_N_heap : MethodName := ⟨"NeedOnce", "heap", "(IIII)I"⟩
abbrev zb_C_has : ByteArray := prog_2_method_2_code
abbrev zy_C_has : MethodName := ⟨"NeedOnce$Cells", "has", "(I)Z"⟩
abbrev zb_C_costOf : ByteArray := prog_2_method_7_code
abbrev zy_C_costOf : MethodName := ⟨"NeedOnce$Cells", "costOf", "(I)I"⟩
abbrev zb_C_formNow : ByteArray := prog_2_method_4_code
abbrev zy_C_formNow : MethodName := ⟨"NeedOnce$Cells", "formNow", "(I)I"⟩
abbrev zb_C_isAwake : ByteArray := prog_2_method_3_code
abbrev zy_C_isAwake : MethodName := ⟨"NeedOnce$Cells", "isAwake", "(I)Z"⟩
abbrev zb_N_ofCell : ByteArray := prog_1_method_3_code
abbrev zy_N_ofCell : MethodName := ⟨"NeedOnce", "ofCell", "(II)I"⟩
abbrev zb_N_price : ByteArray := prog_1_method_4_code
abbrev zy_N_price : MethodName := ⟨"NeedOnce", "price", "(II)I"⟩
abbrev zb_C_payFor : ByteArray := prog_2_method_18_code
abbrev zy_C_payFor : MethodName := ⟨"NeedOnce$Cells", "payFor", "(I)V"⟩
abbrev zb_C_comeToNumber : ByteArray := prog_2_method_23_code
abbrev zy_C_comeToNumber : MethodName := ⟨"NeedOnce$Cells", "comeToNumber", "(II)I"⟩
abbrev zb_C_workOutBoth : ByteArray := prog_2_method_21_code
abbrev zy_C_workOutBoth : MethodName := ⟨"NeedOnce$Cells", "workOutBoth", "(II)I"⟩
abbrev zb_C_passOn : ByteArray := prog_2_method_26_code
abbrev zy_C_passOn : MethodName := ⟨"NeedOnce$Cells", "passOn", "(III)I"⟩
abbrev zb_C_workOutChoice : ByteArray := prog_2_method_22_code
abbrev zy_C_workOutChoice : MethodName := ⟨"NeedOnce$Cells", "workOutChoice", "(II)I"⟩
abbrev zb_C_partOfPair : ByteArray := prog_2_method_25_code
abbrev zy_C_partOfPair : MethodName := ⟨"NeedOnce$Cells", "partOfPair", "(II)I"⟩
abbrev zb_C_workOutOfPair : ByteArray := prog_2_method_24_code
abbrev zy_C_workOutOfPair : MethodName := ⟨"NeedOnce$Cells", "workOutOfPair", "(II)I"⟩
abbrev zb_C_workOut : ByteArray := prog_2_method_20_code
abbrev zy_C_workOut : MethodName := ⟨"NeedOnce$Cells", "workOut", "(II)I"⟩
abbrev zb_C_keep : ByteArray := prog_2_method_19_code
abbrev zy_C_keep : MethodName := ⟨"NeedOnce$Cells", "keep", "(II)V"⟩
abbrev zb_C_comeTo : ByteArray := prog_2_method_17_code
abbrev zy_C_comeTo : MethodName := ⟨"NeedOnce$Cells", "comeTo", "(II)I"⟩
abbrev zb_C_needAnew : ByteArray := prog_2_method_16_code
abbrev zy_C_needAnew : MethodName := ⟨"NeedOnce$Cells", "needAnew", "(I)I"⟩
abbrev zb_N_need : ByteArray := prog_1_method_5_code
abbrev zy_N_need : MethodName := ⟨"NeedOnce", "need", "(I)I"⟩
abbrev zb_N_latest : ByteArray := prog_1_method_6_code
abbrev zy_N_latest : MethodName := ⟨"NeedOnce", "latest", "(I)I"⟩
abbrev zb_N_spent : ByteArray := prog_1_method_7_code
abbrev zy_N_spent : MethodName := ⟨"NeedOnce", "spent", "()I"⟩
abbrev zb_C_howManyAwake : ByteArray := prog_2_method_13_code
abbrev zy_C_howManyAwake : MethodName := ⟨"NeedOnce$Cells", "howManyAwake", "()I"⟩
abbrev zb_N_sleep : ByteArray := prog_1_method_8_code
abbrev zy_N_sleep : MethodName := ⟨"NeedOnce", "sleep", "()I"⟩
abbrev zb_C_canBeLink : ByteArray := prog_2_method_28_code
abbrev zy_C_canBeLink : MethodName := ⟨"NeedOnce$Cells", "canBeLink", "(I)Z"⟩
abbrev zb_C_makeLinks : ByteArray := prog_2_method_27_code
abbrev zy_C_makeLinks : MethodName := ⟨"NeedOnce$Cells", "makeLinks", "()I"⟩
abbrev zb_N_shorten : ByteArray := prog_1_method_9_code
abbrev zy_N_shorten : MethodName := ⟨"NeedOnce", "shorten", "()I"⟩
abbrev zb_C_heldDirectly : ByteArray := prog_2_method_30_code
abbrev zy_C_heldDirectly : MethodName := ⟨"NeedOnce$Cells", "heldDirectly", "(I)I"⟩
abbrev zb_C_heldBy : ByteArray := prog_2_method_29_code
abbrev zy_C_heldBy : MethodName := ⟨"NeedOnce$Cells", "heldBy", "(I)I"⟩
abbrev zb_N_held : ByteArray := prog_1_method_10_code
abbrev zy_N_held : MethodName := ⟨"NeedOnce", "held", "(I)I"⟩
abbrev zb_C_timesPlainly : ByteArray := prog_2_method_31_code
abbrev zy_C_timesPlainly : MethodName := ⟨"NeedOnce$Cells", "timesPlainly", "(I)I"⟩
abbrev zb_N_plainly : ByteArray := prog_1_method_11_code
abbrev zy_N_plainly : MethodName := ⟨"NeedOnce", "plainly", "(I)I"⟩
abbrev zb_N_isOfDay : ByteArray := prog_1_method_13_code
abbrev zy_N_isOfDay : MethodName := ⟨"NeedOnce", "isOfDay", "(I)Z"⟩
abbrev zb_N_isAct : ByteArray := prog_1_method_15_code
abbrev zy_N_isAct : MethodName := ⟨"NeedOnce", "isAct", "(II)Z"⟩
abbrev zb_N_areActs : ByteArray := prog_1_method_14_code
abbrev zy_N_areActs : MethodName := ⟨"NeedOnce", "areActs", "(III)Z"⟩
abbrev zb_N_canDo : ByteArray := prog_1_method_17_code
abbrev zy_N_canDo : MethodName := ⟨"NeedOnce", "canDo", "(II)Z"⟩
abbrev zb_N_doActs : ByteArray := prog_1_method_16_code
abbrev zy_N_doActs : MethodName := ⟨"NeedOnce", "doActs", "(III)I"⟩
abbrev zb_C_howManyLinks : ByteArray := prog_2_method_14_code
abbrev zy_C_howManyLinks : MethodName := ⟨"NeedOnce$Cells", "howManyLinks", "()I"⟩
abbrev zb_N_afterDay : ByteArray := prog_1_method_18_code
abbrev zy_N_afterDay : MethodName := ⟨"NeedOnce", "afterDay", "(I)I"⟩
abbrev zb_N_day : ByteArray := prog_1_method_12_code
abbrev zy_N_day : MethodName := ⟨"NeedOnce", "day", "(IIIII)I"⟩
abbrev zb_R_add : ByteArray := prog_3_method_2_code
abbrev zy_R_add : MethodName := ⟨"NeedOnce$Readings", "add", "(II)I"⟩
abbrev zb_N_reading : ByteArray := prog_1_method_19_code
abbrev zy_N_reading : MethodName := ⟨"NeedOnce", "reading", "(II)I"⟩
abbrev zb_N_back : ByteArray := prog_1_method_20_code
abbrev zy_N_back : MethodName := ⟨"NeedOnce", "back", "(I)I"⟩
abbrev zb_C_costFromAsleep : ByteArray := prog_2_method_32_code
abbrev zy_C_costFromAsleep : MethodName := ⟨"NeedOnce$Cells", "costFromAsleep", "(I)I"⟩
abbrev zb_R_areSo : ByteArray := prog_3_method_3_code
abbrev zy_R_areSo : MethodName := ⟨"NeedOnce$Readings", "areSo", "(LNeedOnce$Cells;)Z"⟩
abbrev zb_N_kinds : ByteArray := prog_1_method_21_code
abbrev zy_N_kinds : MethodName := ⟨"NeedOnce", "kinds", "(I)I"⟩
abbrev zb_N_prices : ByteArray := prog_1_method_22_code
abbrev zy_N_prices : MethodName := ⟨"NeedOnce", "prices", "(I)I"⟩
abbrev zb_N_timesItComesTo : ByteArray := prog_1_method_24_code
abbrev zy_N_timesItComesTo : MethodName := ⟨"NeedOnce", "timesItComesTo", "(III)I"⟩
abbrev zb_N_commonWithTen : ByteArray := prog_1_method_25_code
abbrev zy_N_commonWithTen : MethodName := ⟨"NeedOnce", "commonWithTen", "(I)I"⟩
abbrev zb_N_odds : ByteArray := prog_1_method_23_code
abbrev zy_N_odds : MethodName := ⟨"NeedOnce", "odds", "(IIII)J"⟩
abbrev zb_S_makeRow : ByteArray := prog_4_method_4_code
abbrev zy_S_makeRow : MethodName := ⟨"NeedOnce$Sheets", "makeRow", "(III)V"⟩
abbrev zb_N_sheet : ByteArray := prog_1_method_26_code
abbrev zy_N_sheet : MethodName := ⟨"NeedOnce", "sheet", "(III)I"⟩
abbrev zb_N_lose : ByteArray := prog_1_method_27_code
abbrev zy_N_lose : MethodName := ⟨"NeedOnce", "lose", "(I)I"⟩
abbrev zb_S_setCut : ByteArray := prog_4_method_5_code
abbrev zy_S_setCut : MethodName := ⟨"NeedOnce$Sheets", "setCut", "(III)V"⟩
abbrev zb_N_put : ByteArray := prog_1_method_28_code
abbrev zy_N_put : MethodName := ⟨"NeedOnce", "put", "(III)I"⟩
abbrev zb_N_cell : ByteArray := prog_1_method_29_code
abbrev zy_N_cell : MethodName := ⟨"NeedOnce", "cell", "(III)J"⟩
abbrev zb_S_moveFault : ByteArray := prog_4_method_8_code
abbrev zy_S_moveFault : MethodName := ⟨"NeedOnce$Sheets", "moveFault", "(IIIII)I"⟩
abbrev zb_S_move : ByteArray := prog_4_method_9_code
abbrev zy_S_move : MethodName := ⟨"NeedOnce$Sheets", "move", "(IIIII)V"⟩
abbrev zb_N_copy : ByteArray := prog_1_method_30_code
abbrev zy_N_copy : MethodName := ⟨"NeedOnce", "copy", "(IIIII)I"⟩
abbrev zb_N_leaveTrace : ByteArray := prog_1_method_36_code
abbrev zy_N_leaveTrace : MethodName := ⟨"NeedOnce", "leaveTrace", "(I)V"⟩
abbrev zb_N_tellPlain : ByteArray := prog_1_method_32_code
abbrev zy_N_tellPlain : MethodName := ⟨"NeedOnce", "tellPlain", "(I)I"⟩
abbrev zb_N_tellDear : ByteArray := prog_1_method_33_code
abbrev zy_N_tellDear : MethodName := ⟨"NeedOnce", "tellDear", "(I)I"⟩
abbrev zb_N_tellDouble : ByteArray := prog_1_method_34_code
abbrev zy_N_tellDouble : MethodName := ⟨"NeedOnce", "tellDouble", "(I)I"⟩
abbrev zb_N_tell : ByteArray := prog_1_method_31_code
abbrev zy_N_tell : MethodName := ⟨"NeedOnce", "tell", "(I)I"⟩
abbrev zb_N_point : ByteArray := prog_1_method_35_code
abbrev zy_N_point : MethodName := ⟨"NeedOnce", "point", "(I)I"⟩
abbrev zb_N_as : ByteArray := prog_1_method_37_code
abbrev zy_N_as : MethodName := ⟨"NeedOnce", "as", "(II)I"⟩
abbrev zb_N_trace : ByteArray := prog_1_method_38_code
abbrev zy_N_trace : MethodName := ⟨"NeedOnce", "trace", "()I"⟩
abbrev zb_N_fault : ByteArray := prog_1_method_39_code
abbrev zy_N_fault : MethodName := ⟨"NeedOnce", "fault", "()I"⟩
abbrev zb_N_many : ByteArray := prog_1_method_40_code
abbrev zy_N_many : MethodName := ⟨"NeedOnce", "many", "(I)I"⟩
abbrev zb_M_in : ByteArray := prog_7_method_2_code
abbrev zy_M_in : MethodName := ⟨"NeedOnceModel", "in", "(JJJ)Z"⟩
abbrev zb_M_noSheet : ByteArray := prog_7_method_56_code
abbrev zy_M_noSheet : MethodName := ⟨"NeedOnceModel", "noSheet", "(I)Z"⟩
abbrev zb_M_refused : ByteArray := prog_7_method_5_code
abbrev zy_M_refused : MethodName := ⟨"NeedOnceModel", "refused", "(I)I"⟩
abbrev zb_M_failed : ByteArray := prog_7_method_6_code
abbrev zy_M_failed : MethodName := ⟨"NeedOnceModel", "failed", "(I)I"⟩
abbrev zb_M_isBeyond : ByteArray := prog_7_method_62_code
abbrev zy_M_isBeyond : MethodName := ⟨"NeedOnceModel", "isBeyond", "(IJI)Z"⟩
abbrev zb_M_cellsBarred : ByteArray := prog_7_method_16_code
abbrev zy_M_cellsBarred : MethodName := ⟨"NeedOnceModel", "cellsBarred", "(IIIJ)I"⟩
abbrev zb_M_codeAt : ByteArray := prog_7_method_10_code
abbrev zy_M_codeAt : MethodName := ⟨"NeedOnceModel", "codeAt", "(II)I"⟩
abbrev zb_M_formBy : ByteArray := prog_7_method_11_code
abbrev zy_M_formBy : MethodName := ⟨"NeedOnceModel", "formBy", "(I)I"⟩
abbrev zb_M_partsOf : ByteArray := prog_7_method_9_code
abbrev zy_M_partsOf : MethodName := ⟨"NeedOnceModel", "partsOf", "(I)I"⟩
abbrev zb_M_readsForm : ByteArray := prog_7_method_12_code
abbrev zy_M_readsForm : MethodName := ⟨"NeedOnceModel", "readsForm", "(II)Z"⟩
abbrev zb_M_readsCell : ByteArray := prog_7_method_13_code
abbrev zy_M_readsCell : MethodName := ⟨"NeedOnceModel", "readsCell", "(II)Z"⟩
abbrev zb_M_readsCells : ByteArray := prog_7_method_14_code
abbrev zy_M_readsCells : MethodName := ⟨"NeedOnceModel", "readsCells", "(II)Z"⟩
abbrev zb_M_looseOne : ByteArray := prog_7_method_15_code
abbrev zy_M_looseOne : MethodName := ⟨"NeedOnceModel", "looseOne", "()I"⟩
abbrev zb_M_allAsleep : ByteArray := prog_7_method_19_code
abbrev zy_M_allAsleep : MethodName := ⟨"NeedOnceModel", "allAsleep", "()V"⟩
abbrev zb_M_heap : ByteArray := prog_7_method_17_code
abbrev zy_M_heap : MethodName := ⟨"NeedOnceModel", "heap", "(IIII)I"⟩
abbrev zb_M_noOne : ByteArray := prog_7_method_8_code
abbrev zy_M_noOne : MethodName := ⟨"NeedOnceModel", "noOne", "(I)Z"⟩
abbrev zb_M_cost : ByteArray := prog_7_method_18_code
abbrev zy_M_cost : MethodName := ⟨"NeedOnceModel", "cost", "(I)I"⟩
abbrev zb_M_ofCell : ByteArray := prog_7_method_28_code
abbrev zy_M_ofCell : MethodName := ⟨"NeedOnceModel", "ofCell", "(II)I"⟩
abbrev zb_M_isPrice : ByteArray := prog_7_method_29_code
abbrev zy_M_isPrice : MethodName := ⟨"NeedOnceModel", "isPrice", "(I)Z"⟩
abbrev zb_M_price : ByteArray := prog_7_method_30_code
abbrev zy_M_price : MethodName := ⟨"NeedOnceModel", "price", "(II)I"⟩
abbrev zb_M_isOn : ByteArray := prog_7_method_20_code
abbrev zy_M_isOn : MethodName := ⟨"NeedOnceModel", "isOn", "(I)Z"⟩
abbrev zb_M_wants : ByteArray := prog_7_method_21_code
abbrev zy_M_wants : MethodName := ⟨"NeedOnceModel", "wants", "(I)V"⟩
abbrev zb_M_isDone : ByteArray := prog_7_method_22_code
abbrev zy_M_isDone : MethodName := ⟨"NeedOnceModel", "isDone", "(I)V"⟩
abbrev zb_M_begins : ByteArray := prog_7_method_23_code
abbrev zy_M_begins : MethodName := ⟨"NeedOnceModel", "begins", "(I)V"⟩
abbrev zb_M_hasFirst : ByteArray := prog_7_method_24_code
abbrev zy_M_hasFirst : MethodName := ⟨"NeedOnceModel", "hasFirst", "(I)V"⟩
abbrev zb_M_hasSecond : ByteArray := prog_7_method_25_code
abbrev zy_M_hasSecond : MethodName := ⟨"NeedOnceModel", "hasSecond", "(I)V"⟩
abbrev zb_M_goesOn : ByteArray := prog_7_method_26_code
abbrev zy_M_goesOn : MethodName := ⟨"NeedOnceModel", "goesOn", "()V"⟩
abbrev zb_M_needs : ByteArray := prog_7_method_27_code
abbrev zy_M_needs : MethodName := ⟨"NeedOnceModel", "needs", "(I)I"⟩
abbrev zb_M_need : ByteArray := prog_7_method_31_code
abbrev zy_M_need : MethodName := ⟨"NeedOnceModel", "need", "(I)I"⟩
abbrev zb_M_latest : ByteArray := prog_7_method_32_code
abbrev zy_M_latest : MethodName := ⟨"NeedOnceModel", "latest", "(I)I"⟩
abbrev zb_M_spent : ByteArray := prog_7_method_33_code
abbrev zy_M_spent : MethodName := ⟨"NeedOnceModel", "spent", "()I"⟩
abbrev zb_M_awakeOnes : ByteArray := prog_7_method_34_code
abbrev zy_M_awakeOnes : MethodName := ⟨"NeedOnceModel", "awakeOnes", "()I"⟩
abbrev zb_M_sleep : ByteArray := prog_7_method_36_code
abbrev zy_M_sleep : MethodName := ⟨"NeedOnceModel", "sleep", "()I"⟩
abbrev zb_M_nextToShorten : ByteArray := prog_7_method_37_code
abbrev zy_M_nextToShorten : MethodName := ⟨"NeedOnceModel", "nextToShorten", "()I"⟩
abbrev zb_M_shorten : ByteArray := prog_7_method_38_code
abbrev zy_M_shorten : MethodName := ⟨"NeedOnceModel", "shorten", "()I"⟩
abbrev zb_M_holds : ByteArray := prog_7_method_39_code
abbrev zy_M_holds : MethodName := ⟨"NeedOnceModel", "holds", "(I)I"⟩
abbrev zb_M_heldBy : ByteArray := prog_7_method_40_code
abbrev zy_M_heldBy : MethodName := ⟨"NeedOnceModel", "heldBy", "(I)I"⟩
abbrev zb_M_held : ByteArray := prog_7_method_41_code
abbrev zy_M_held : MethodName := ⟨"NeedOnceModel", "held", "(I)I"⟩
abbrev zb_M_plainly : ByteArray := prog_7_method_42_code
abbrev zy_M_plainly : MethodName := ⟨"NeedOnceModel", "plainly", "(I)I"⟩
abbrev zb_M_isAsTold : ByteArray := prog_7_method_45_code
abbrev zy_M_isAsTold : MethodName := ⟨"NeedOnceModel", "isAsTold", "(II)Z"⟩
abbrev zb_M_keeps : ByteArray := prog_7_method_43_code
abbrev zy_M_keeps : MethodName := ⟨"NeedOnceModel", "keeps", "()V"⟩
abbrev zb_M_needsOnly : ByteArray := prog_7_method_46_code
abbrev zy_M_needsOnly : MethodName := ⟨"NeedOnceModel", "needsOnly", "(I)Z"⟩
abbrev zb_M_doesPair : ByteArray := prog_7_method_47_code
abbrev zy_M_doesPair : MethodName := ⟨"NeedOnceModel", "doesPair", "(II)Z"⟩
abbrev zb_M_links : ByteArray := prog_7_method_35_code
abbrev zy_M_links : MethodName := ⟨"NeedOnceModel", "links", "()I"⟩
abbrev zb_M_dayOf : ByteArray := prog_7_method_48_code
abbrev zy_M_dayOf : MethodName := ⟨"NeedOnceModel", "dayOf", "(III)I"⟩
abbrev zb_M_bringsBack : ByteArray := prog_7_method_44_code
abbrev zy_M_bringsBack : MethodName := ⟨"NeedOnceModel", "bringsBack", "()V"⟩
abbrev zb_M_day : ByteArray := prog_7_method_49_code
abbrev zy_M_day : MethodName := ⟨"NeedOnceModel", "day", "(IIIII)I"⟩
abbrev zb_M_reading : ByteArray := prog_7_method_50_code
abbrev zy_M_reading : MethodName := ⟨"NeedOnceModel", "reading", "(II)I"⟩
abbrev zb_M_back : ByteArray := prog_7_method_51_code
abbrev zy_M_back : MethodName := ⟨"NeedOnceModel", "back", "(I)I"⟩
abbrev zb_M_areSo : ByteArray := prog_7_method_52_code
abbrev zy_M_areSo : MethodName := ⟨"NeedOnceModel", "areSo", "()Z"⟩
abbrev zb_M_kinds : ByteArray := prog_7_method_53_code
abbrev zy_M_kinds : MethodName := ⟨"NeedOnceModel", "kinds", "(I)I"⟩
abbrev zb_M_prices : ByteArray := prog_7_method_54_code
abbrev zy_M_prices : MethodName := ⟨"NeedOnceModel", "prices", "(I)I"⟩
abbrev zb_M_lost : ByteArray := prog_7_method_3_code
abbrev zy_M_lost : MethodName := ⟨"NeedOnceModel", "lost", "()J"⟩
abbrev zb_M_share : ByteArray := prog_7_method_4_code
abbrev zy_M_share : MethodName := ⟨"NeedOnceModel", "share", "(JJI)J"⟩
abbrev zb_M_odds : ByteArray := prog_7_method_55_code
abbrev zy_M_odds : MethodName := ⟨"NeedOnceModel", "odds", "(IIII)J"⟩
abbrev zb_M_sheet : ByteArray := prog_7_method_57_code
abbrev zy_M_sheet : MethodName := ⟨"NeedOnceModel", "sheet", "(III)I"⟩
abbrev zb_M_lose : ByteArray := prog_7_method_58_code
abbrev zy_M_lose : MethodName := ⟨"NeedOnceModel", "lose", "(I)I"⟩
abbrev zb_M_noCell : ByteArray := prog_7_method_59_code
abbrev zy_M_noCell : MethodName := ⟨"NeedOnceModel", "noCell", "(II)I"⟩
abbrev zb_M_put : ByteArray := prog_7_method_60_code
abbrev zy_M_put : MethodName := ⟨"NeedOnceModel", "put", "(III)I"⟩
abbrev zb_M_failedLong : ByteArray := prog_7_method_7_code
abbrev zy_M_failedLong : MethodName := ⟨"NeedOnceModel", "failedLong", "(I)J"⟩
abbrev zb_M_cell : ByteArray := prog_7_method_61_code
abbrev zy_M_cell : MethodName := ⟨"NeedOnceModel", "cell", "(III)J"⟩
abbrev zb_M_copy : ByteArray := prog_7_method_63_code
abbrev zy_M_copy : MethodName := ⟨"NeedOnceModel", "copy", "(IIIII)I"⟩
abbrev zb_M_traced : ByteArray := prog_7_method_64_code
abbrev zy_M_traced : MethodName := ⟨"NeedOnceModel", "traced", "(I)V"⟩
abbrev zb_M_tell : ByteArray := prog_7_method_65_code
abbrev zy_M_tell : MethodName := ⟨"NeedOnceModel", "tell", "(I)I"⟩
abbrev zb_M_point : ByteArray := prog_7_method_66_code
abbrev zy_M_point : MethodName := ⟨"NeedOnceModel", "point", "(I)I"⟩
abbrev zb_M_as : ByteArray := prog_7_method_67_code
abbrev zy_M_as : MethodName := ⟨"NeedOnceModel", "as", "(II)I"⟩
abbrev zb_M_trace : ByteArray := prog_7_method_68_code
abbrev zy_M_trace : MethodName := ⟨"NeedOnceModel", "trace", "()I"⟩
abbrev zb_M_fault : ByteArray := prog_7_method_69_code
abbrev zy_M_fault : MethodName := ⟨"NeedOnceModel", "fault", "()I"⟩
abbrev zb_M_many : ByteArray := prog_7_method_70_code
abbrev zy_M_many : MethodName := ⟨"NeedOnceModel", "many", "(I)I"⟩
def zt_C : u_T := fun k => match k with
  | 0 => ("NeedOnce$Cells", "count", "I", false)
  | 1 => ("NeedOnce$Cells", "kindOf", "[I", true)
  | 2 => ("NeedOnce$Cells", "priceOf", "[I", true)
  | 3 => ("NeedOnce$Cells", "formOf", "[I", true)
  | 4 => ("NeedOnce$Cells", "partOf", "[I", true)
  | 5 => ("NeedOnce$Cells", "cameTo", "[I", true)
  | 6 => ("NeedOnce$Cells", "pairOf", "[I", true)
  | 7 => ("NeedOnce$Cells", "linkTo", "[I", true)
  | 8 => ("NeedOnce$Cells", "beingWorked", "[Z", true)
  | 9 => ("NeedOnce$Cells", "keeps", "Z", false)
  | 10 => ("NeedOnce$Cells", "spentSoFar", "I", false)
  | 11 => ("NeedOnce$Cells", "worked", "I", false)
  | 12 => ("NeedOnce$Cells", "deep", "I", false)
  | 13 => ("NeedOnce$Cells", "workedCost", "I", false)
  | 14 => ("NeedOnce$Cells", "doneCount", "I", false)
  | _ => ("NeedOnce$Cells", "done", "[I", true)
def zq_C : Nat → FieldType := fun k => match k with
  | 0 => .int
  | 1 => .array .int
  | 2 => .array .int
  | 3 => .array .int
  | 4 => .array .int
  | 5 => .array .int
  | 6 => .array .int
  | 7 => .array .int
  | 8 => .array .boolean
  | 9 => .boolean
  | 10 => .int
  | 11 => .int
  | 12 => .int
  | 13 => .int
  | 14 => .int
  | _ => .array .int
theorem zk_C : ∀ k, k < 16 → parseFieldDescriptor (zt_C k).2.2.1 = some (zq_C k) := by decide +kernel
theorem zm_C : ∀ a, a < 16 → ∀ b, b < 16 → a ≠ b → (zt_C a).2.1 ≠ (zt_C b).2.1 := by decide +kernel
theorem zu_C : ∀ c ∈ u_ws "NeedOnce$Cells" zt_C 16, c ∈ nk_GT := by
  intro c hc
  have h : (u_ws "NeedOnce$Cells" zt_C 16).all (fun c => decide (c ∈ tables_1) && goodWord c) = true := by decide +kernel
  have h1 := List.all_eq_true.mp h c hc
  simp only [Bool.and_eq_true, decide_eq_true_eq] at h1
  exact List.mem_filter.mpr ⟨List.mem_append_right _ h1.1, h1.2⟩
def zt_R : u_T := fun k => match k with
  | 0 => ("NeedOnce$Readings", "count", "I", false)
  | 1 => ("NeedOnce$Readings", "cellOf", "[I", true)
  | _ => ("NeedOnce$Readings", "costOf", "[I", true)
def zq_R : Nat → FieldType := fun k => match k with
  | 0 => .int
  | 1 => .array .int
  | _ => .array .int
theorem zk_R : ∀ k, k < 3 → parseFieldDescriptor (zt_R k).2.2.1 = some (zq_R k) := by decide +kernel
theorem zm_R : ∀ a, a < 3 → ∀ b, b < 3 → a ≠ b → (zt_R a).2.1 ≠ (zt_R b).2.1 := by decide +kernel
theorem zu_R : ∀ c ∈ u_ws "NeedOnce$Readings" zt_R 3, c ∈ nk_GT := by
  intro c hc
  have h : (u_ws "NeedOnce$Readings" zt_R 3).all (fun c => decide (c ∈ tables_1) && goodWord c) = true := by decide +kernel
  have h1 := List.all_eq_true.mp h c hc
  simp only [Bool.and_eq_true, decide_eq_true_eq] at h1
  exact List.mem_filter.mpr ⟨List.mem_append_right _ h1.1, h1.2⟩
def zt_S : u_T := fun k => match k with
  | 0 => ("NeedOnce$Sheets", "rows", "[[I", true)
  | 1 => ("NeedOnce$Sheets", "laneOf", "[I", true)
  | _ => ("NeedOnce$Sheets", "lengthOf", "[I", true)
def zq_S : Nat → FieldType := fun k => match k with
  | 0 => .array (.array .int)
  | 1 => .array .int
  | _ => .array .int
theorem zk_S : ∀ k, k < 3 → parseFieldDescriptor (zt_S k).2.2.1 = some (zq_S k) := by decide +kernel
theorem zm_S : ∀ a, a < 3 → ∀ b, b < 3 → a ≠ b → (zt_S a).2.1 ≠ (zt_S b).2.1 := by decide +kernel
theorem zu_S : ∀ c ∈ u_ws "NeedOnce$Sheets" zt_S 3, c ∈ nk_GT := by
  intro c hc
  have h : (u_ws "NeedOnce$Sheets" zt_S 3).all (fun c => decide (c ∈ tables_1) && goodWord c) = true := by decide +kernel
  have h1 := List.all_eq_true.mp h c hc
  simp only [Bool.and_eq_true, decide_eq_true_eq] at h1
  exact List.mem_filter.mpr ⟨List.mem_append_right _ h1.1, h1.2⟩
def zt_T : u_T := fun k => match k with
  | 0 => ("NeedOnce$TextReader", "stage", "I", false)
  | _ => ("NeedOnce$TextReader", "part", "I", false)
def zq_T : Nat → FieldType := fun k => match k with
  | 0 => .int
  | _ => .int
theorem zk_T : ∀ k, k < 2 → parseFieldDescriptor (zt_T k).2.2.1 = some (zq_T k) := by decide +kernel
theorem zm_T : ∀ a, a < 2 → ∀ b, b < 2 → a ≠ b → (zt_T a).2.1 ≠ (zt_T b).2.1 := by decide +kernel
theorem zu_T : ∀ c ∈ u_ws "NeedOnce$TextReader" zt_T 2, c ∈ nk_GT := by
  intro c hc
  have h : (u_ws "NeedOnce$TextReader" zt_T 2).all (fun c => decide (c ∈ tables_1) && goodWord c) = true := by decide +kernel
  have h1 := List.all_eq_true.mp h c hc
  simp only [Bool.and_eq_true, decide_eq_true_eq] at h1
  exact List.mem_filter.mpr ⟨List.mem_append_right _ h1.1, h1.2⟩
def zt_N : u_T := fun k => match k with
  | 0 => ("NeedOnce", "cells", "LNeedOnce$Cells;", true)
  | 1 => ("NeedOnce", "trial", "LNeedOnce$Cells;", true)
  | 2 => ("NeedOnce", "reader", "LNeedOnce$TextReader;", true)
  | 3 => ("NeedOnce", "readings", "LNeedOnce$Readings;", true)
  | 4 => ("NeedOnce", "sheets", "LNeedOnce$Sheets;", true)
  | 5 => ("NeedOnce", "traced", "I", false)
  | _ => ("NeedOnce", "latestFault", "I", false)
def zq_N : Nat → FieldType := fun k => match k with
  | 0 => .object "NeedOnce$Cells"
  | 1 => .object "NeedOnce$Cells"
  | 2 => .object "NeedOnce$TextReader"
  | 3 => .object "NeedOnce$Readings"
  | 4 => .object "NeedOnce$Sheets"
  | 5 => .int
  | _ => .int
theorem zk_N : ∀ k, k < 7 → parseFieldDescriptor (zt_N k).2.2.1 = some (zq_N k) := by decide +kernel
theorem zm_N : ∀ a, a < 7 → ∀ b, b < 7 → a ≠ b → (zt_N a).2.1 ≠ (zt_N b).2.1 := by decide +kernel
theorem zu_N : ∀ c ∈ u_ws "NeedOnce" zt_N 7, c ∈ nk_GT := by
  intro c hc
  have h : (u_ws "NeedOnce" zt_N 7).all (fun c => decide (c ∈ tables_1) && goodWord c) = true := by decide +kernel
  have h1 := List.all_eq_true.mp h c hc
  simp only [Bool.and_eq_true, decide_eq_true_eq] at h1
  exact List.mem_filter.mpr ⟨List.mem_append_right _ h1.1, h1.2⟩
def zt_M : u_T := fun k => match k with
  | 0 => ("NeedOnceModel", "fault", "I", false)
  | 1 => ("NeedOnceModel", "cells", "I", false)
  | 2 => ("NeedOnceModel", "kindOf", "[I", true)
  | 3 => ("NeedOnceModel", "priceOf", "[I", true)
  | 4 => ("NeedOnceModel", "formOf", "[I", true)
  | 5 => ("NeedOnceModel", "partOf", "[I", true)
  | 6 => ("NeedOnceModel", "readAt", "I", false)
  | 7 => ("NeedOnceModel", "readCells", "I", false)
  | 8 => ("NeedOnceModel", "readKind", "[I", true)
  | 9 => ("NeedOnceModel", "readPrice", "[I", true)
  | 10 => ("NeedOnceModel", "readForm", "[I", true)
  | 11 => ("NeedOnceModel", "readPart", "[I", true)
  | 12 => ("NeedOnceModel", "cameOf", "[I", true)
  | 13 => ("NeedOnceModel", "pairOne", "[I", true)
  | 14 => ("NeedOnceModel", "pairTwo", "[I", true)
  | 15 => ("NeedOnceModel", "linkOf", "[I", true)
  | 16 => ("NeedOnceModel", "spentNow", "I", false)
  | 17 => ("NeedOnceModel", "depth", "I", false)
  | 18 => ("NeedOnceModel", "onCell", "[I", true)
  | 19 => ("NeedOnceModel", "onStage", "[I", true)
  | 20 => ("NeedOnceModel", "onNumber", "[I", true)
  | 21 => ("NeedOnceModel", "come", "I", false)
  | 22 => ("NeedOnceModel", "comeOne", "I", false)
  | 23 => ("NeedOnceModel", "comeTwo", "I", false)
  | 24 => ("NeedOnceModel", "worked", "I", false)
  | 25 => ("NeedOnceModel", "deep", "I", false)
  | 26 => ("NeedOnceModel", "costs", "I", false)
  | 27 => ("NeedOnceModel", "done", "I", false)
  | 28 => ("NeedOnceModel", "doneOf", "[I", true)
  | 29 => ("NeedOnceModel", "keepsNone", "Z", false)
  | 30 => ("NeedOnceModel", "endless", "Z", false)
  | 31 => ("NeedOnceModel", "latestWorked", "I", false)
  | 32 => ("NeedOnceModel", "latestDeep", "I", false)
  | 33 => ("NeedOnceModel", "latestCost", "I", false)
  | 34 => ("NeedOnceModel", "latestDone", "[I", true)
  | 35 => ("NeedOnceModel", "hadCame", "[I", true)
  | 36 => ("NeedOnceModel", "hadOne", "[I", true)
  | 37 => ("NeedOnceModel", "hadTwo", "[I", true)
  | 38 => ("NeedOnceModel", "hadLink", "[I", true)
  | 39 => ("NeedOnceModel", "hadPrice", "[I", true)
  | 40 => ("NeedOnceModel", "daySpent", "I", false)
  | 41 => ("NeedOnceModel", "readings", "I", false)
  | 42 => ("NeedOnceModel", "readingOf", "[I", true)
  | 43 => ("NeedOnceModel", "readingIs", "[I", true)
  | 44 => ("NeedOnceModel", "sheetSize", "[I", true)
  | 45 => ("NeedOnceModel", "sheetLane", "[I", true)
  | 46 => ("NeedOnceModel", "sheet", "[I", true)
  | 47 => ("NeedOnceModel", "hands", "[I", true)
  | _ => ("NeedOnceModel", "traceNow", "I", false)
def zq_M : Nat → FieldType := fun k => match k with
  | 0 => .int
  | 1 => .int
  | 2 => .array .int
  | 3 => .array .int
  | 4 => .array .int
  | 5 => .array .int
  | 6 => .int
  | 7 => .int
  | 8 => .array .int
  | 9 => .array .int
  | 10 => .array .int
  | 11 => .array .int
  | 12 => .array .int
  | 13 => .array .int
  | 14 => .array .int
  | 15 => .array .int
  | 16 => .int
  | 17 => .int
  | 18 => .array .int
  | 19 => .array .int
  | 20 => .array .int
  | 21 => .int
  | 22 => .int
  | 23 => .int
  | 24 => .int
  | 25 => .int
  | 26 => .int
  | 27 => .int
  | 28 => .array .int
  | 29 => .boolean
  | 30 => .boolean
  | 31 => .int
  | 32 => .int
  | 33 => .int
  | 34 => .array .int
  | 35 => .array .int
  | 36 => .array .int
  | 37 => .array .int
  | 38 => .array .int
  | 39 => .array .int
  | 40 => .int
  | 41 => .int
  | 42 => .array .int
  | 43 => .array .int
  | 44 => .array .int
  | 45 => .array .int
  | 46 => .array .int
  | 47 => .array .int
  | _ => .int
theorem zk_M : ∀ k, k < 49 → parseFieldDescriptor (zt_M k).2.2.1 = some (zq_M k) := by decide +kernel
theorem zm_M : ∀ a, a < 49 → ∀ b, b < 49 → a ≠ b → (zt_M a).2.1 ≠ (zt_M b).2.1 := by decide +kernel
theorem zu_M : ∀ c ∈ u_ws "NeedOnceModel" zt_M 49, c ∈ nk_GT := by
  intro c hc
  have h : (u_ws "NeedOnceModel" zt_M 49).all (fun c => decide (c ∈ tables_1) && goodWord c) = true := by decide +kernel
  have h1 := List.all_eq_true.mp h c hc
  simp only [Bool.and_eq_true, decide_eq_true_eq] at h1
  exact List.mem_filter.mpr ⟨List.mem_append_right _ h1.1, h1.2⟩
def nk_cfl (B : Nat) : List (Option Nat) := [none, some B, some (B + 1), some (B + 2), some (B + 3), some (B + 4), some (B + 5), some (B + 6), some (B + 7), none, none, none, none, none, none, some (B + 8)]
def nk_shC : List nk_S := [.inl (4, [some 1, some 2, some 3, some 4, some 5, none, none]), .inl (0, nk_cfl 6), .inl (0, nk_cfl 15), .inl (3, [none, none]), .inl (1, [none, some 24, some 25]), .inl (2, [some 26, some 31, some 32]), .inr (.inl (.int, 8)), .inr (.inl (.int, 8)), .inr (.inl (.int, 8)), .inr (.inl (.int, 24)), .inr (.inl (.int, 8)), .inr (.inl (.int, 8)), .inr (.inl (.int, 8)), .inr (.inl (.boolean, 8)), .inr (.inl (.int, 8)), .inr (.inl (.int, 8)), .inr (.inl (.int, 8)), .inr (.inl (.int, 8)), .inr (.inl (.int, 24)), .inr (.inl (.int, 8)), .inr (.inl (.int, 8)), .inr (.inl (.int, 8)), .inr (.inl (.boolean, 8)), .inr (.inl (.int, 8)), .inr (.inl (.int, 8)), .inr (.inl (.int, 8)), .inr (.inr (4, 27)), .inr (.inl (.int, 60)), .inr (.inl (.int, 60)), .inr (.inl (.int, 60)), .inr (.inl (.int, 60)), .inr (.inl (.int, 4)), .inr (.inl (.int, 4))]
def nk_t0 : Nat → Int32 := fun j => ([112, 100, 119] : List Int32).getD j 0
def nk_t1 : Nat → Int32 := fun j => ([110, 97, 109, 105, 116, 102, 114] : List Int32).getD j 0
def nk_t2 : Nat → Int32 := fun j => ([1, 2, 2, 3, 2, 1, 1] : List Int32).getD j 0
abbrev nk_clC : List vw_C := [("NeedOnce$Cells", zt_C, 16), ("NeedOnce$Readings", zt_R, 3), ("NeedOnce$Sheets", zt_S, 3), ("NeedOnce$TextReader", zt_T, 2), ("NeedOnce", zt_N, 7)]
def nk_wC : nk_D := (nk_clC, fun k => nk_shC.getD k (.inl (0, [])), 33, [("NeedOnce", "KIND_LETTERS", "[C", .char, 3, nk_t0), ("NeedOnce", "FORM_SIGNS", "[C", .char, 7, nk_t1), ("NeedOnce", "HOW_MANY_PARTS", "[I", .int, 7, nk_t2)])
def nk_shR : List nk_S := [.inl (0, [none, none, some 1, some 2, some 3, some 4, none, none, some 5, some 6, some 7, some 8, some 9, some 10, some 11, some 12, none, none, some 13, some 14, some 15, none, none, none, none, none, none, none, some 16, none, none, none, none, none, some 17, some 18, some 19, some 20, some 21, some 22, none, none, some 23, some 24, some 25, some 26, some 27, some 28, none]), .inr (.inl (.int, 8)), .inr (.inl (.int, 8)), .inr (.inl (.int, 8)), .inr (.inl (.int, 24)), .inr (.inl (.int, 8)), .inr (.inl (.int, 8)), .inr (.inl (.int, 8)), .inr (.inl (.int, 24)), .inr (.inl (.int, 8)), .inr (.inl (.int, 8)), .inr (.inl (.int, 8)), .inr (.inl (.int, 8)), .inr (.inl (.int, 8)), .inr (.inl (.int, 8)), .inr (.inl (.int, 8)), .inr (.inl (.int, 8)), .inr (.inl (.int, 8)), .inr (.inl (.int, 8)), .inr (.inl (.int, 8)), .inr (.inl (.int, 8)), .inr (.inl (.int, 8)), .inr (.inl (.int, 8)), .inr (.inl (.int, 8)), .inr (.inl (.int, 8)), .inr (.inl (.int, 4)), .inr (.inl (.int, 4)), .inr (.inl (.int, 240)), .inr (.inl (.int, 60))]
abbrev nk_clR : List vw_C := [("NeedOnceModel", zt_M, 49)]
def nk_wR : nk_D := (nk_clR, fun k => nk_shR.getD k (.inl (0, [])), 29, [])
/-- the two Cells objects and where their rows begin -/
def nk_isC (o B : Nat) : Prop := (o = 1 ∧ B = 6) ∨ (o = 2 ∧ B = 15)
theorem nkc_ok {o B : Nat} (h : nk_isC o B) : o < nk_wC.2.2.1 := by rcases h with ⟨rfl, rfl⟩ | ⟨rfl, rfl⟩ <;> decide
theorem nkc_os {o B : Nat} (h : nk_isC o B) : nk_wC.2.1 o = .inl (0, nk_cfl B) := by rcases h with ⟨rfl, rfl⟩ | ⟨rfl, rfl⟩ <;> rfl
theorem nkc_bk0 {o B : Nat} (h : nk_isC o B) : B < nk_wC.2.2.1 := by rcases h with ⟨rfl, rfl⟩ | ⟨rfl, rfl⟩ <;> decide
theorem nkc_bs0 {o B : Nat} (h : nk_isC o B) : nk_wC.2.1 B = .inr (.inl (.int, 8)) := by rcases h with ⟨rfl, rfl⟩ | ⟨rfl, rfl⟩ <;> rfl
theorem nkc_bk1 {o B : Nat} (h : nk_isC o B) : (B + 1) < nk_wC.2.2.1 := by rcases h with ⟨rfl, rfl⟩ | ⟨rfl, rfl⟩ <;> decide
theorem nkc_bs1 {o B : Nat} (h : nk_isC o B) : nk_wC.2.1 (B + 1) = .inr (.inl (.int, 8)) := by rcases h with ⟨rfl, rfl⟩ | ⟨rfl, rfl⟩ <;> rfl
theorem nkc_bk2 {o B : Nat} (h : nk_isC o B) : (B + 2) < nk_wC.2.2.1 := by rcases h with ⟨rfl, rfl⟩ | ⟨rfl, rfl⟩ <;> decide
theorem nkc_bs2 {o B : Nat} (h : nk_isC o B) : nk_wC.2.1 (B + 2) = .inr (.inl (.int, 8)) := by rcases h with ⟨rfl, rfl⟩ | ⟨rfl, rfl⟩ <;> rfl
theorem nkc_bk3 {o B : Nat} (h : nk_isC o B) : (B + 3) < nk_wC.2.2.1 := by rcases h with ⟨rfl, rfl⟩ | ⟨rfl, rfl⟩ <;> decide
theorem nkc_bs3 {o B : Nat} (h : nk_isC o B) : nk_wC.2.1 (B + 3) = .inr (.inl (.int, 24)) := by rcases h with ⟨rfl, rfl⟩ | ⟨rfl, rfl⟩ <;> rfl
theorem nkc_bk4 {o B : Nat} (h : nk_isC o B) : (B + 4) < nk_wC.2.2.1 := by rcases h with ⟨rfl, rfl⟩ | ⟨rfl, rfl⟩ <;> decide
theorem nkc_bs4 {o B : Nat} (h : nk_isC o B) : nk_wC.2.1 (B + 4) = .inr (.inl (.int, 8)) := by rcases h with ⟨rfl, rfl⟩ | ⟨rfl, rfl⟩ <;> rfl
theorem nkc_bk5 {o B : Nat} (h : nk_isC o B) : (B + 5) < nk_wC.2.2.1 := by rcases h with ⟨rfl, rfl⟩ | ⟨rfl, rfl⟩ <;> decide
theorem nkc_bs5 {o B : Nat} (h : nk_isC o B) : nk_wC.2.1 (B + 5) = .inr (.inl (.int, 8)) := by rcases h with ⟨rfl, rfl⟩ | ⟨rfl, rfl⟩ <;> rfl
theorem nkc_bk6 {o B : Nat} (h : nk_isC o B) : (B + 6) < nk_wC.2.2.1 := by rcases h with ⟨rfl, rfl⟩ | ⟨rfl, rfl⟩ <;> decide
theorem nkc_bs6 {o B : Nat} (h : nk_isC o B) : nk_wC.2.1 (B + 6) = .inr (.inl (.int, 8)) := by rcases h with ⟨rfl, rfl⟩ | ⟨rfl, rfl⟩ <;> rfl
theorem nkc_bk7 {o B : Nat} (h : nk_isC o B) : (B + 7) < nk_wC.2.2.1 := by rcases h with ⟨rfl, rfl⟩ | ⟨rfl, rfl⟩ <;> decide
theorem nkc_bs7 {o B : Nat} (h : nk_isC o B) : nk_wC.2.1 (B + 7) = .inr (.inl (.boolean, 8)) := by rcases h with ⟨rfl, rfl⟩ | ⟨rfl, rfl⟩ <;> rfl
theorem nkc_bk8 {o B : Nat} (h : nk_isC o B) : (B + 8) < nk_wC.2.2.1 := by rcases h with ⟨rfl, rfl⟩ | ⟨rfl, rfl⟩ <;> decide
theorem nkc_bs8 {o B : Nat} (h : nk_isC o B) : nk_wC.2.1 (B + 8) = .inr (.inl (.int, 8)) := by rcases h with ⟨rfl, rfl⟩ | ⟨rfl, rfl⟩ <;> rfl
theorem nkc_rk {i : Int32} (h : ¬ (i < 0 ∨ 4 ≤ i.toNatClampNeg)) : 27 + i.toNatClampNeg < nk_wC.2.2.1 := by show _ < 33; omega
theorem nkc_rs {i : Int32} (h : ¬ (i < 0 ∨ 4 ≤ i.toNatClampNeg)) : nk_wC.2.1 (27 + i.toNatClampNeg) = .inr (.inl (.int, 60)) := by
  have hj : i.toNatClampNeg < 4 := Nat.not_le.mp fun q => h (Or.inr q)
  generalize i.toNatClampNeg = j at hj
  rcases (show j = 0 ∨ j = 1 ∨ j = 2 ∨ j = 3 by omega) with rfl | rfl | rfl | rfl <;> rfl
section NKW
variable {own : String} {cc : ByteArray} {nL : Nat} {w : nk_D} {G : nk_V} {X : nk_X} {α : Type} {inj : α → Option Value} {pc : Nat} {lv st : List Value} {μ : nk_M} {F : Option (α × nk_M)}
def nk_mask : List Bool → List Value → List Value
  | true :: m, v :: r => v :: nk_mask m r
  | false :: m, _ :: r => .null :: nk_mask m r
  | _, _ => []
theorem nk_mask_get : ∀ (m : List Bool) (lv : List Value) (i : Nat) (v : Value), (nk_mask m lv)[i]? = some v → v ≠ .null → lv[i]? = some v
  | [], _, i, v, h, _ => by simp [nk_mask] at h
  | true :: m, [], i, v, h, _ => by simp [nk_mask] at h
  | false :: m, [], i, v, h, _ => by simp [nk_mask] at h
  | true :: m, u :: r, 0, v, h, _ => by simpa [nk_mask] using h
  | true :: m, u :: r, i + 1, v, h, hn => by
    have h' : (nk_mask m r)[i]? = some v := by simpa [nk_mask] using h
    simpa using nk_mask_get m r i v h' hn
  | false :: m, u :: r, 0, v, h, hn => by simp [nk_mask] at h; exact absurd h.symm hn
  | false :: m, u :: r, i + 1, v, h, hn => by
    have h' : (nk_mask m r)[i]? = some v := by simpa [nk_mask] using h
    simpa using nk_mask_get m r i v h' hn
theorem nk_wk (m : List Bool) (h : nk_Sim w G X nL inj pc (nk_mask m lv) st μ F) : nk_Sim w G X nL inj pc lv st μ F := fun v μ' e H locs ls hP hS hl => h v μ' e H locs ls hP hS ⟨hl.1, hl.2.1, fun i v hi hn => hl.2.2 i v (nk_mask_get m lv i v hi hn) hn⟩
theorem nk_callVi {Fc : Option (Int32 × nk_M)} (C : nk_C own cc nL w G X) {K : Int32 → nk_M → Option (α × nk_M)} {y : MethodName} {b : ByteArray} {nL' hh HH n index k ci nn : Nat} {T : u_T} {fl : List (Option Nat)} {ret : Option FieldType} (As : List Value) {stk : List Value} (hcV : nk_cV own index y b nL' ret n) (hR : X.2.2.2.1 = nk_rm HH) (hct : nk_Ct X.2.1 w G hh y b nL' ret nk_oi (nk_r G k :: As) μ Fc) (hH : hh + 1 ≤ HH) (hk : k < w.2.2.1) (hs : w.2.1 k = .inl (ci, fl)) (hc : w.1[ci]? = some (y.cls, T, nn)) (hn : As.length = n) (hstk : stk = As.reverse ++ nk_r G k :: st) (hst : (st.map fun v => v.category).sum ≤ 8) (hd : decode cc pc = .ok (.invokevirtual index, 3)) (h : ∀ (r : Int32) (μ1 : nk_M), nk_Sim w G X nL inj (pc + 3) lv (.int r :: st) μ1 (K r μ1)) : nk_Sim w G X nL inj pc lv stk μ (nk_bd Fc K) := nk_callV C As hcV hR hct hH hk hs hc hn hstk hst hd h
theorem nk_callVl {Fc : Option (Int64 × nk_M)} (C : nk_C own cc nL w G X) {K : Int64 → nk_M → Option (α × nk_M)} {y : MethodName} {b : ByteArray} {nL' hh HH n index k ci nn : Nat} {T : u_T} {fl : List (Option Nat)} {ret : Option FieldType} (As : List Value) {stk : List Value} (hcV : nk_cV own index y b nL' ret n) (hR : X.2.2.2.1 = nk_rm HH) (hct : nk_Ct X.2.1 w G hh y b nL' ret nk_ol (nk_r G k :: As) μ Fc) (hH : hh + 1 ≤ HH) (hk : k < w.2.2.1) (hs : w.2.1 k = .inl (ci, fl)) (hc : w.1[ci]? = some (y.cls, T, nn)) (hn : As.length = n) (hstk : stk = As.reverse ++ nk_r G k :: st) (hst : (st.map fun v => v.category).sum ≤ 8) (hd : decode cc pc = .ok (.invokevirtual index, 3)) (h : ∀ (r : Int64) (μ1 : nk_M), nk_Sim w G X nL inj (pc + 3) lv (.long r :: st) μ1 (K r μ1)) : nk_Sim w G X nL inj pc lv stk μ (nk_bd Fc K) := nk_callV C As hcV hR hct hH hk hs hc hn hstk hst hd h
theorem nk_callVv {Fc : Option (Unit × nk_M)} (C : nk_C own cc nL w G X) {K : Unit → nk_M → Option (α × nk_M)} {y : MethodName} {b : ByteArray} {nL' hh HH n index k ci nn : Nat} {T : u_T} {fl : List (Option Nat)} {ret : Option FieldType} (As : List Value) {stk : List Value} (hcV : nk_cV own index y b nL' ret n) (hR : X.2.2.2.1 = nk_rm HH) (hct : nk_Ct X.2.1 w G hh y b nL' ret nk_ov (nk_r G k :: As) μ Fc) (hH : hh + 1 ≤ HH) (hk : k < w.2.2.1) (hs : w.2.1 k = .inl (ci, fl)) (hc : w.1[ci]? = some (y.cls, T, nn)) (hn : As.length = n) (hstk : stk = As.reverse ++ nk_r G k :: st) (hst : (st.map fun v => v.category).sum ≤ 8) (hd : decode cc pc = .ok (.invokevirtual index, 3)) (h : ∀ (μ1 : nk_M), nk_Sim w G X nL inj (pc + 3) lv st μ1 (K () μ1)) : nk_Sim w G X nL inj pc lv stk μ (nk_bd Fc K) := nk_callV C As hcV hR hct hH hk hs hc hn hstk hst hd (fun _ μ1 => h μ1)
theorem nk_callSi {Fc : Option (Int32 × nk_M)} (C : nk_C own cc nL w G X) {K : Int32 → nk_M → Option (α × nk_M)} {y : MethodName} {b : ByteArray} {nL' hh HH n index : Nat} {ret : Option FieldType} (As : List Value) {stk : List Value} (hcS : nk_cS own index y b nL' ret n) (hR : X.2.2.2.1 = nk_rm HH) (hct : nk_Ct X.2.1 w G hh y b nL' ret nk_oi As μ Fc) (hH : hh + 1 ≤ HH) (hn : As.length = n) (hstk : stk = As.reverse ++ st) (hst : (st.map fun v => v.category).sum ≤ 8) (hd : decode cc pc = .ok (.invokestatic index, 3)) (h : ∀ (r : Int32) (μ1 : nk_M), nk_Sim w G X nL inj (pc + 3) lv (.int r :: st) μ1 (K r μ1)) : nk_Sim w G X nL inj pc lv stk μ (nk_bd Fc K) := nk_callS C As hcS hR hct hH hn hstk hst hd h
theorem nk_callSl {Fc : Option (Int64 × nk_M)} (C : nk_C own cc nL w G X) {K : Int64 → nk_M → Option (α × nk_M)} {y : MethodName} {b : ByteArray} {nL' hh HH n index : Nat} {ret : Option FieldType} (As : List Value) {stk : List Value} (hcS : nk_cS own index y b nL' ret n) (hR : X.2.2.2.1 = nk_rm HH) (hct : nk_Ct X.2.1 w G hh y b nL' ret nk_ol As μ Fc) (hH : hh + 1 ≤ HH) (hn : As.length = n) (hstk : stk = As.reverse ++ st) (hst : (st.map fun v => v.category).sum ≤ 8) (hd : decode cc pc = .ok (.invokestatic index, 3)) (h : ∀ (r : Int64) (μ1 : nk_M), nk_Sim w G X nL inj (pc + 3) lv (.long r :: st) μ1 (K r μ1)) : nk_Sim w G X nL inj pc lv stk μ (nk_bd Fc K) := nk_callS C As hcS hR hct hH hn hstk hst hd h
theorem nk_callSv {Fc : Option (Unit × nk_M)} (C : nk_C own cc nL w G X) {K : Unit → nk_M → Option (α × nk_M)} {y : MethodName} {b : ByteArray} {nL' hh HH n index : Nat} {ret : Option FieldType} (As : List Value) {stk : List Value} (hcS : nk_cS own index y b nL' ret n) (hR : X.2.2.2.1 = nk_rm HH) (hct : nk_Ct X.2.1 w G hh y b nL' ret nk_ov As μ Fc) (hH : hh + 1 ≤ HH) (hn : As.length = n) (hstk : stk = As.reverse ++ st) (hst : (st.map fun v => v.category).sum ≤ 8) (hd : decode cc pc = .ok (.invokestatic index, 3)) (h : ∀ (μ1 : nk_M), nk_Sim w G X nL inj (pc + 3) lv st μ1 (K () μ1)) : nk_Sim w G X nL inj pc lv stk μ (nk_bd Fc K) := nk_callS C As hcS hR hct hH hn hstk hst hd (fun _ μ1 => h μ1)
end NKW
end
section
/-! ===== 05: words by their places, links (written by program) ===== -/
theorem zw_1 : Cond.initialized "NeedOnce" ∈ nk_GT := nk_tm 1 (by decide +kernel) rfl
theorem zw_2 : Cond.initialized "NeedOnce$Cells" ∈ nk_GT := nk_tm 2 (by decide +kernel) rfl
theorem zw_3 : Cond.initialized "java/util/Arrays" ∈ nk_GT := nk_tm 3 (by decide +kernel) rfl
theorem zw_4 : Cond.initialized "NeedOnce$TextReader" ∈ nk_GT := nk_tm 4 (by decide +kernel) rfl
theorem zw_5 : Cond.initialized "NeedOnce$Readings" ∈ nk_GT := nk_tm 5 (by decide +kernel) rfl
theorem zw_6 : Cond.initialized "NeedOnce$Sheets" ∈ nk_GT := nk_tm 6 (by decide +kernel) rfl
theorem zw_7 : Cond.initialized "NeedOnceModel" ∈ nk_GT := nk_tm 7 (by decide +kernel) rfl
theorem zw_8 : Cond.initialized "java/lang/System" ∈ nk_GT := nk_tm 8 (by decide +kernel) rfl
theorem zw_9 : Cond.initialized "java/lang/Math" ∈ nk_GT := nk_tm 9 (by decide +kernel) rfl
theorem zw_24 : Cond.methodLink "NeedOnce$Cells" 44 zy_C_putToSleep ∈ nk_GT := nk_tm 24 (by decide +kernel) rfl
theorem zw_26 : Cond.instanceMethod zy_C_putToSleep ∈ nk_GT := nk_tm 26 (by decide +kernel) rfl
set_option maxRecDepth 100000 in
theorem zw_27 : Cond.code zy_C_putToSleep zb_C_putToSleep 1 none ∈ nk_GT := nk_tm 27 rfl rfl
theorem zw_28 : Cond.methodLink "NeedOnce$Cells" 71 zy_J_fill ∈ nk_GT := nk_tm 28 (by decide +kernel) rfl
theorem zw_29 : Cond.static zy_J_fill ∈ nk_GT := nk_tm 29 (by decide +kernel) rfl
set_option maxRecDepth 100000 in
theorem zw_30 : Cond.code zy_J_fill zb_J_fill 4 none ∈ nk_GT := nk_tm 30 rfl rfl
theorem zw_31 : Cond.fieldLink "NeedOnce$Cells" 47 "NeedOnce$Cells" "count" "I" ∈ nk_GT := nk_tm 31 (by decide +kernel) rfl
theorem zw_34 : Cond.fieldLink "NeedOnce$Cells" 9 "NeedOnce$Cells" "kindOf" "[I" ∈ nk_GT := nk_tm 34 (by decide +kernel) rfl
theorem zw_37 : Cond.fieldLink "NeedOnce$Cells" 15 "NeedOnce$Cells" "priceOf" "[I" ∈ nk_GT := nk_tm 37 (by decide +kernel) rfl
theorem zw_40 : Cond.fieldLink "NeedOnce$Cells" 18 "NeedOnce$Cells" "formOf" "[I" ∈ nk_GT := nk_tm 40 (by decide +kernel) rfl
theorem zw_43 : Cond.fieldLink "NeedOnce$Cells" 21 "NeedOnce$Cells" "partOf" "[I" ∈ nk_GT := nk_tm 43 (by decide +kernel) rfl
theorem zw_44 : Cond.fieldLink "NeedOnce$Cells" 24 "NeedOnce$Cells" "cameTo" "[I" ∈ nk_GT := nk_tm 44 (by decide +kernel) rfl
theorem zw_46 : Cond.fieldLink "NeedOnce$Cells" 27 "NeedOnce$Cells" "pairOf" "[I" ∈ nk_GT := nk_tm 46 (by decide +kernel) rfl
theorem zw_47 : Cond.fieldLink "NeedOnce$Cells" 30 "NeedOnce$Cells" "linkTo" "[I" ∈ nk_GT := nk_tm 47 (by decide +kernel) rfl
theorem zw_49 : Cond.fieldLink "NeedOnce$Cells" 33 "NeedOnce$Cells" "beingWorked" "[Z" ∈ nk_GT := nk_tm 49 (by decide +kernel) rfl
theorem zw_50 : Cond.fieldLink "NeedOnce$Cells" 37 "NeedOnce$Cells" "keeps" "Z" ∈ nk_GT := nk_tm 50 (by decide +kernel) rfl
theorem zw_52 : Cond.fieldLink "NeedOnce$Cells" 60 "NeedOnce$Cells" "spentSoFar" "I" ∈ nk_GT := nk_tm 52 (by decide +kernel) rfl
theorem zw_54 : Cond.fieldLink "NeedOnce$Cells" 81 "NeedOnce$Cells" "worked" "I" ∈ nk_GT := nk_tm 54 (by decide +kernel) rfl
theorem zw_56 : Cond.fieldLink "NeedOnce$Cells" 84 "NeedOnce$Cells" "deep" "I" ∈ nk_GT := nk_tm 56 (by decide +kernel) rfl
theorem zw_58 : Cond.fieldLink "NeedOnce$Cells" 87 "NeedOnce$Cells" "workedCost" "I" ∈ nk_GT := nk_tm 58 (by decide +kernel) rfl
theorem zw_60 : Cond.fieldLink "NeedOnce$Cells" 90 "NeedOnce$Cells" "doneCount" "I" ∈ nk_GT := nk_tm 60 (by decide +kernel) rfl
theorem zw_61 : Cond.fieldLink "NeedOnce$Cells" 41 "NeedOnce$Cells" "done" "[I" ∈ nk_GT := nk_tm 61 (by decide +kernel) rfl
theorem zw_104 : Cond.fieldLink "NeedOnce$TextReader" 16 "NeedOnce$TextReader" "stage" "I" ∈ nk_GT := nk_tm 104 (by decide +kernel) rfl
theorem zw_105 : Cond.fieldLink "NeedOnce$TextReader" 67 "NeedOnce$TextReader" "part" "I" ∈ nk_GT := nk_tm 105 (by decide +kernel) rfl
theorem zw_117 : Cond.fieldLink "NeedOnce$Readings" 18 "NeedOnce$Readings" "count" "I" ∈ nk_GT := nk_tm 117 (by decide +kernel) rfl
theorem zw_119 : Cond.fieldLink "NeedOnce$Readings" 9 "NeedOnce$Readings" "cellOf" "[I" ∈ nk_GT := nk_tm 119 (by decide +kernel) rfl
theorem zw_120 : Cond.fieldLink "NeedOnce$Readings" 15 "NeedOnce$Readings" "costOf" "[I" ∈ nk_GT := nk_tm 120 (by decide +kernel) rfl
theorem zw_136 : Cond.fieldLink "NeedOnce$Sheets" 11 "NeedOnce$Sheets" "rows" "[[I" ∈ nk_GT := nk_tm 136 (by decide +kernel) rfl
theorem zw_137 : Cond.fieldLink "NeedOnce$Sheets" 16 "NeedOnce$Sheets" "laneOf" "[I" ∈ nk_GT := nk_tm 137 (by decide +kernel) rfl
theorem zw_139 : Cond.fieldLink "NeedOnce$Sheets" 20 "NeedOnce$Sheets" "lengthOf" "[I" ∈ nk_GT := nk_tm 139 (by decide +kernel) rfl
theorem zw_147 : Cond.fieldLink "NeedOnce" 12 "NeedOnce" "cells" "LNeedOnce$Cells;" ∈ nk_GT := nk_tm 147 (by decide +kernel) rfl
theorem zw_148 : Cond.fieldLink "NeedOnce" 18 "NeedOnce" "trial" "LNeedOnce$Cells;" ∈ nk_GT := nk_tm 148 (by decide +kernel) rfl
theorem zw_149 : Cond.fieldLink "NeedOnce" 24 "NeedOnce" "reader" "LNeedOnce$TextReader;" ∈ nk_GT := nk_tm 149 (by decide +kernel) rfl
theorem zw_150 : Cond.fieldLink "NeedOnce" 31 "NeedOnce" "readings" "LNeedOnce$Readings;" ∈ nk_GT := nk_tm 150 (by decide +kernel) rfl
theorem zw_151 : Cond.fieldLink "NeedOnce" 38 "NeedOnce" "sheets" "LNeedOnce$Sheets;" ∈ nk_GT := nk_tm 151 (by decide +kernel) rfl
theorem zw_152 : Cond.fieldLink "NeedOnce" 222 "NeedOnce" "traced" "I" ∈ nk_GT := nk_tm 152 (by decide +kernel) rfl
theorem zw_153 : Cond.fieldLink "NeedOnce" 42 "NeedOnce" "latestFault" "I" ∈ nk_GT := nk_tm 153 (by decide +kernel) rfl
theorem zw_175 : Cond.instanceMethod zy_S_has ∈ nk_GT := nk_tm 175 (by decide +kernel) rfl
set_option maxRecDepth 100000 in
theorem zw_176 : Cond.code zy_S_has zb_S_has 2 (some .boolean) ∈ nk_GT := nk_tm 176 rfl rfl
theorem zw_177 : Cond.methodLink "NeedOnce" 50 zy_N_isLane ∈ nk_GT := nk_tm 177 (by decide +kernel) rfl
theorem zw_178 : Cond.static zy_N_isLane ∈ nk_GT := nk_tm 178 (by decide +kernel) rfl
set_option maxRecDepth 100000 in
theorem zw_179 : Cond.code zy_N_isLane zb_N_isLane 1 (some .boolean) ∈ nk_GT := nk_tm 179 rfl rfl
theorem zw_182 : Cond.instanceMethod zy_S_rangeFault ∈ nk_GT := nk_tm 182 (by decide +kernel) rfl
set_option maxRecDepth 100000 in
theorem zw_183 : Cond.code zy_S_rangeFault zb_S_rangeFault 5 (some .int) ∈ nk_GT := nk_tm 183 rfl rfl
theorem zw_184 : Cond.methodLink "NeedOnce$Sheets" 29 zy_S_isRange ∈ nk_GT := nk_tm 184 (by decide +kernel) rfl
theorem zw_186 : Cond.instanceMethod zy_S_isRange ∈ nk_GT := nk_tm 186 (by decide +kernel) rfl
set_option maxRecDepth 100000 in
theorem zw_187 : Cond.code zy_S_isRange zb_S_isRange 4 (some .boolean) ∈ nk_GT := nk_tm 187 rfl rfl
theorem zw_188 : Cond.methodLink "NeedOnce" 57 zy_N_faulted ∈ nk_GT := nk_tm 188 (by decide +kernel) rfl
theorem zw_190 : Cond.instanceMethod zy_N_faulted ∈ nk_GT := nk_tm 190 (by decide +kernel) rfl
set_option maxRecDepth 100000 in
theorem zw_191 : Cond.code zy_N_faulted zb_N_faulted 2 (some .int) ∈ nk_GT := nk_tm 191 rfl rfl
theorem zw_194 : Cond.instanceMethod zy_T_readInto ∈ nk_GT := nk_tm 194 (by decide +kernel) rfl
set_option maxRecDepth 100000 in
theorem zw_195 : Cond.code zy_T_readInto zb_T_readInto 7 (some .int) ∈ nk_GT := nk_tm 195 rfl rfl
theorem zw_198 : Cond.instanceMethod zy_C_forgetAll ∈ nk_GT := nk_tm 198 (by decide +kernel) rfl
set_option maxRecDepth 100000 in
theorem zw_199 : Cond.code zy_C_forgetAll zb_C_forgetAll 1 none ∈ nk_GT := nk_tm 199 rfl rfl
theorem zw_202 : Cond.instanceMethod zy_S_at ∈ nk_GT := nk_tm 202 (by decide +kernel) rfl
set_option maxRecDepth 100000 in
theorem zw_203 : Cond.code zy_S_at zb_S_at 3 (some .int) ∈ nk_GT := nk_tm 203 rfl rfl
theorem zw_204 : Cond.methodLink "NeedOnce$TextReader" 26 zy_T_goesOn ∈ nk_GT := nk_tm 204 (by decide +kernel) rfl
theorem zw_206 : Cond.instanceMethod zy_T_goesOn ∈ nk_GT := nk_tm 206 (by decide +kernel) rfl
set_option maxRecDepth 100000 in
theorem zw_207 : Cond.code zy_T_goesOn zb_T_goesOn 4 (some .boolean) ∈ nk_GT := nk_tm 207 rfl rfl
theorem zw_208 : Cond.methodLink "NeedOnce$TextReader" 33 zy_T_takesKind ∈ nk_GT := nk_tm 208 (by decide +kernel) rfl
theorem zw_210 : Cond.instanceMethod zy_T_takesKind ∈ nk_GT := nk_tm 210 (by decide +kernel) rfl
set_option maxRecDepth 100000 in
theorem zw_211 : Cond.code zy_T_takesKind zb_T_takesKind 5 (some .boolean) ∈ nk_GT := nk_tm 211 rfl rfl
theorem zw_214 : Cond.methodLink "NeedOnce$TextReader" 50 zy_T_placeIn ∈ nk_GT := nk_tm 214 (by decide +kernel) rfl
theorem zw_215 : Cond.static zy_T_placeIn ∈ nk_GT := nk_tm 215 (by decide +kernel) rfl
set_option maxRecDepth 100000 in
theorem zw_216 : Cond.code zy_T_placeIn zb_T_placeIn 3 (some .int) ∈ nk_GT := nk_tm 216 rfl rfl
theorem zw_217 : Cond.methodLink "NeedOnce$TextReader" 37 zy_T_takesPrice ∈ nk_GT := nk_tm 217 (by decide +kernel) rfl
theorem zw_219 : Cond.instanceMethod zy_T_takesPrice ∈ nk_GT := nk_tm 219 (by decide +kernel) rfl
set_option maxRecDepth 100000 in
theorem zw_220 : Cond.code zy_T_takesPrice zb_T_takesPrice 4 (some .boolean) ∈ nk_GT := nk_tm 220 rfl rfl
theorem zw_221 : Cond.methodLink "NeedOnce$TextReader" 40 zy_T_takesSign ∈ nk_GT := nk_tm 221 (by decide +kernel) rfl
theorem zw_223 : Cond.instanceMethod zy_T_takesSign ∈ nk_GT := nk_tm 223 (by decide +kernel) rfl
set_option maxRecDepth 100000 in
theorem zw_224 : Cond.code zy_T_takesSign zb_T_takesSign 5 (some .boolean) ∈ nk_GT := nk_tm 224 rfl rfl
theorem zw_227 : Cond.methodLink "NeedOnce$TextReader" 43 zy_T_takesPart ∈ nk_GT := nk_tm 227 (by decide +kernel) rfl
theorem zw_229 : Cond.instanceMethod zy_T_takesPart ∈ nk_GT := nk_tm 229 (by decide +kernel) rfl
set_option maxRecDepth 100000 in
theorem zw_230 : Cond.code zy_T_takesPart zb_T_takesPart 5 (some .boolean) ∈ nk_GT := nk_tm 230 rfl rfl
theorem zw_233 : Cond.instanceMethod zy_C_tellPart ∈ nk_GT := nk_tm 233 (by decide +kernel) rfl
set_option maxRecDepth 100000 in
theorem zw_234 : Cond.code zy_C_tellPart zb_C_tellPart 4 none ∈ nk_GT := nk_tm 234 rfl rfl
theorem zw_239 : Cond.instanceMethod zy_C_firstLoose ∈ nk_GT := nk_tm 239 (by decide +kernel) rfl
set_option maxRecDepth 100000 in
theorem zw_240 : Cond.code zy_C_firstLoose zb_C_firstLoose 2 (some .int) ∈ nk_GT := nk_tm 240 rfl rfl
theorem zw_241 : Cond.methodLink "NeedOnce$Cells" 63 zy_C_partSet ∈ nk_GT := nk_tm 241 (by decide +kernel) rfl
theorem zw_243 : Cond.instanceMethod zy_C_partSet ∈ nk_GT := nk_tm 243 (by decide +kernel) rfl
set_option maxRecDepth 100000 in
theorem zw_244 : Cond.code zy_C_partSet zb_C_partSet 4 (some .int) ∈ nk_GT := nk_tm 244 rfl rfl
theorem zw_246 : Cond.methodLink "NeedOnce$Cells" 67 zy_C_partAsTold ∈ nk_GT := nk_tm 246 (by decide +kernel) rfl
theorem zw_248 : Cond.instanceMethod zy_C_partAsTold ∈ nk_GT := nk_tm 248 (by decide +kernel) rfl
set_option maxRecDepth 100000 in
theorem zw_249 : Cond.code zy_C_partAsTold zb_C_partAsTold 3 (some .int) ∈ nk_GT := nk_tm 249 rfl rfl
theorem zw_252 : Cond.instanceMethod zy_C_becomeLike ∈ nk_GT := nk_tm 252 (by decide +kernel) rfl
set_option maxRecDepth 100000 in
theorem zw_253 : Cond.code zy_C_becomeLike zb_C_becomeLike 2 none ∈ nk_GT := nk_tm 253 rfl rfl
theorem zw_254 : Cond.methodLink "NeedOnce$Cells" 54 arraycopyName ∈ nk_GT := nk_tm 254 (by decide +kernel) rfl
theorem zw_255 : Cond.static arraycopyName ∈ nk_GT := nk_tm 255 (by decide +kernel) rfl
theorem zw_256 : Cond.native arraycopyName ∈ nk_GT := nk_tm 256 (by decide +kernel) rfl
theorem zw_259 : Cond.instanceMethod zy_C_startLatest ∈ nk_GT := nk_tm 259 (by decide +kernel) rfl
set_option maxRecDepth 100000 in
theorem zw_260 : Cond.code zy_C_startLatest zb_C_startLatest 1 none ∈ nk_GT := nk_tm 260 rfl rfl
theorem zw_267 : Cond.instanceMethod zy_C_has ∈ nk_GT := nk_tm 267 (by decide +kernel) rfl
set_option maxRecDepth 100000 in
theorem zw_268 : Cond.code zy_C_has zb_C_has 2 (some .boolean) ∈ nk_GT := nk_tm 268 rfl rfl
theorem zw_271 : Cond.instanceMethod zy_C_costOf ∈ nk_GT := nk_tm 271 (by decide +kernel) rfl
set_option maxRecDepth 100000 in
theorem zw_272 : Cond.code zy_C_costOf zb_C_costOf 2 (some .int) ∈ nk_GT := nk_tm 272 rfl rfl
theorem zw_275 : Cond.instanceMethod zy_C_formNow ∈ nk_GT := nk_tm 275 (by decide +kernel) rfl
set_option maxRecDepth 100000 in
theorem zw_276 : Cond.code zy_C_formNow zb_C_formNow 2 (some .int) ∈ nk_GT := nk_tm 276 rfl rfl
theorem zw_279 : Cond.instanceMethod zy_C_isAwake ∈ nk_GT := nk_tm 279 (by decide +kernel) rfl
set_option maxRecDepth 100000 in
theorem zw_280 : Cond.code zy_C_isAwake zb_C_isAwake 2 (some .boolean) ∈ nk_GT := nk_tm 280 rfl rfl
theorem zw_292 : Cond.instanceMethod zy_C_needAnew ∈ nk_GT := nk_tm 292 (by decide +kernel) rfl
set_option maxRecDepth 100000 in
theorem zw_293 : Cond.code zy_C_needAnew zb_C_needAnew 2 (some .int) ∈ nk_GT := nk_tm 293 rfl rfl
theorem zw_294 : Cond.methodLink "NeedOnce$Cells" 93 zy_C_startLatest ∈ nk_GT := nk_tm 294 (by decide +kernel) rfl
theorem zw_295 : Cond.methodLink "NeedOnce$Cells" 96 zy_C_comeTo ∈ nk_GT := nk_tm 295 (by decide +kernel) rfl
theorem zw_297 : Cond.instanceMethod zy_C_comeTo ∈ nk_GT := nk_tm 297 (by decide +kernel) rfl
set_option maxRecDepth 100000 in
theorem zw_298 : Cond.code zy_C_comeTo zb_C_comeTo 4 (some .int) ∈ nk_GT := nk_tm 298 rfl rfl
theorem zw_299 : Cond.methodLink "NeedOnce$Cells" 77 zy_C_isAwake ∈ nk_GT := nk_tm 299 (by decide +kernel) rfl
theorem zw_300 : Cond.methodLink "NeedOnce$Cells" 99 Lib.Math.max.name ∈ nk_GT := nk_tm 300 (by decide +kernel) rfl
theorem zw_301 : Cond.static Lib.Math.max.name ∈ nk_GT := nk_tm 301 (by decide +kernel) rfl
set_option maxRecDepth 100000 in
theorem zw_302 : Cond.code Lib.Math.max.name Lib.Math.max.code 2 (some .int) ∈ nk_GT := nk_tm 302 rfl rfl
theorem zw_303 : Cond.methodLink "NeedOnce$Cells" 104 zy_C_payFor ∈ nk_GT := nk_tm 303 (by decide +kernel) rfl
theorem zw_305 : Cond.instanceMethod zy_C_payFor ∈ nk_GT := nk_tm 305 (by decide +kernel) rfl
set_option maxRecDepth 100000 in
theorem zw_306 : Cond.code zy_C_payFor zb_C_payFor 2 none ∈ nk_GT := nk_tm 306 rfl rfl
theorem zw_307 : Cond.methodLink "NeedOnce$Cells" 115 zy_C_costOf ∈ nk_GT := nk_tm 307 (by decide +kernel) rfl
theorem zw_308 : Cond.methodLink "NeedOnce$Cells" 108 zy_C_workOut ∈ nk_GT := nk_tm 308 (by decide +kernel) rfl
theorem zw_310 : Cond.instanceMethod zy_C_workOut ∈ nk_GT := nk_tm 310 (by decide +kernel) rfl
set_option maxRecDepth 100000 in
theorem zw_311 : Cond.code zy_C_workOut zb_C_workOut 3 (some .int) ∈ nk_GT := nk_tm 311 rfl rfl
theorem zw_312 : Cond.methodLink "NeedOnce$Cells" 118 zy_C_formNow ∈ nk_GT := nk_tm 312 (by decide +kernel) rfl
theorem zw_313 : Cond.methodLink "NeedOnce$Cells" 121 zy_C_workOutBoth ∈ nk_GT := nk_tm 313 (by decide +kernel) rfl
theorem zw_315 : Cond.instanceMethod zy_C_workOutBoth ∈ nk_GT := nk_tm 315 (by decide +kernel) rfl
set_option maxRecDepth 100000 in
theorem zw_316 : Cond.code zy_C_workOutBoth zb_C_workOutBoth 5 (some .int) ∈ nk_GT := nk_tm 316 rfl rfl
theorem zw_317 : Cond.methodLink "NeedOnce$Cells" 134 zy_C_comeToNumber ∈ nk_GT := nk_tm 317 (by decide +kernel) rfl
theorem zw_319 : Cond.instanceMethod zy_C_comeToNumber ∈ nk_GT := nk_tm 319 (by decide +kernel) rfl
set_option maxRecDepth 100000 in
theorem zw_320 : Cond.code zy_C_comeToNumber zb_C_comeToNumber 4 (some .int) ∈ nk_GT := nk_tm 320 rfl rfl
theorem zw_321 : Cond.methodLink "NeedOnce$Cells" 124 zy_C_workOutChoice ∈ nk_GT := nk_tm 321 (by decide +kernel) rfl
theorem zw_323 : Cond.instanceMethod zy_C_workOutChoice ∈ nk_GT := nk_tm 323 (by decide +kernel) rfl
set_option maxRecDepth 100000 in
theorem zw_324 : Cond.code zy_C_workOutChoice zb_C_workOutChoice 4 (some .int) ∈ nk_GT := nk_tm 324 rfl rfl
theorem zw_325 : Cond.methodLink "NeedOnce$Cells" 130 zy_C_passOn ∈ nk_GT := nk_tm 325 (by decide +kernel) rfl
theorem zw_327 : Cond.instanceMethod zy_C_passOn ∈ nk_GT := nk_tm 327 (by decide +kernel) rfl
set_option maxRecDepth 100000 in
theorem zw_328 : Cond.code zy_C_passOn zb_C_passOn 5 (some .int) ∈ nk_GT := nk_tm 328 rfl rfl
theorem zw_329 : Cond.methodLink "NeedOnce$Cells" 127 zy_C_workOutOfPair ∈ nk_GT := nk_tm 329 (by decide +kernel) rfl
theorem zw_331 : Cond.instanceMethod zy_C_workOutOfPair ∈ nk_GT := nk_tm 331 (by decide +kernel) rfl
set_option maxRecDepth 100000 in
theorem zw_332 : Cond.code zy_C_workOutOfPair zb_C_workOutOfPair 5 (some .int) ∈ nk_GT := nk_tm 332 rfl rfl
theorem zw_333 : Cond.methodLink "NeedOnce$Cells" 137 zy_C_partOfPair ∈ nk_GT := nk_tm 333 (by decide +kernel) rfl
theorem zw_335 : Cond.instanceMethod zy_C_partOfPair ∈ nk_GT := nk_tm 335 (by decide +kernel) rfl
set_option maxRecDepth 100000 in
theorem zw_336 : Cond.code zy_C_partOfPair zb_C_partOfPair 3 (some .int) ∈ nk_GT := nk_tm 336 rfl rfl
theorem zw_337 : Cond.methodLink "NeedOnce$Cells" 111 zy_C_keep ∈ nk_GT := nk_tm 337 (by decide +kernel) rfl
theorem zw_339 : Cond.instanceMethod zy_C_keep ∈ nk_GT := nk_tm 339 (by decide +kernel) rfl
set_option maxRecDepth 100000 in
theorem zw_340 : Cond.code zy_C_keep zb_C_keep 3 none ∈ nk_GT := nk_tm 340 rfl rfl
theorem zw_355 : Cond.instanceMethod zy_C_howManyAwake ∈ nk_GT := nk_tm 355 (by decide +kernel) rfl
set_option maxRecDepth 100000 in
theorem zw_356 : Cond.code zy_C_howManyAwake zb_C_howManyAwake 3 (some .int) ∈ nk_GT := nk_tm 356 rfl rfl
theorem zw_364 : Cond.instanceMethod zy_C_makeLinks ∈ nk_GT := nk_tm 364 (by decide +kernel) rfl
set_option maxRecDepth 100000 in
theorem zw_365 : Cond.code zy_C_makeLinks zb_C_makeLinks 3 (some .int) ∈ nk_GT := nk_tm 365 rfl rfl
theorem zw_366 : Cond.methodLink "NeedOnce$Cells" 140 zy_C_canBeLink ∈ nk_GT := nk_tm 366 (by decide +kernel) rfl
theorem zw_368 : Cond.instanceMethod zy_C_canBeLink ∈ nk_GT := nk_tm 368 (by decide +kernel) rfl
set_option maxRecDepth 100000 in
theorem zw_369 : Cond.code zy_C_canBeLink zb_C_canBeLink 3 (some .boolean) ∈ nk_GT := nk_tm 369 rfl rfl
theorem zw_376 : Cond.instanceMethod zy_C_heldBy ∈ nk_GT := nk_tm 376 (by decide +kernel) rfl
set_option maxRecDepth 100000 in
theorem zw_377 : Cond.code zy_C_heldBy zb_C_heldBy 6 (some .int) ∈ nk_GT := nk_tm 377 rfl rfl
theorem zw_378 : Cond.methodLink "NeedOnce$Cells" 143 zy_C_heldDirectly ∈ nk_GT := nk_tm 378 (by decide +kernel) rfl
theorem zw_380 : Cond.instanceMethod zy_C_heldDirectly ∈ nk_GT := nk_tm 380 (by decide +kernel) rfl
set_option maxRecDepth 100000 in
theorem zw_381 : Cond.code zy_C_heldDirectly zb_C_heldDirectly 2 (some .int) ∈ nk_GT := nk_tm 381 rfl rfl
theorem zw_388 : Cond.instanceMethod zy_C_timesPlainly ∈ nk_GT := nk_tm 388 (by decide +kernel) rfl
set_option maxRecDepth 100000 in
theorem zw_389 : Cond.code zy_C_timesPlainly zb_C_timesPlainly 3 (some .int) ∈ nk_GT := nk_tm 389 rfl rfl
theorem zw_390 : Cond.methodLink "NeedOnce$Cells" 146 zy_C_needAnew ∈ nk_GT := nk_tm 390 (by decide +kernel) rfl
theorem zw_395 : Cond.methodLink "NeedOnce" 143 zy_N_isOfDay ∈ nk_GT := nk_tm 395 (by decide +kernel) rfl
theorem zw_396 : Cond.static zy_N_isOfDay ∈ nk_GT := nk_tm 396 (by decide +kernel) rfl
set_option maxRecDepth 100000 in
theorem zw_397 : Cond.code zy_N_isOfDay zb_N_isOfDay 1 (some .boolean) ∈ nk_GT := nk_tm 397 rfl rfl
theorem zw_398 : Cond.methodLink "NeedOnce" 146 zy_N_areActs ∈ nk_GT := nk_tm 398 (by decide +kernel) rfl
theorem zw_400 : Cond.instanceMethod zy_N_areActs ∈ nk_GT := nk_tm 400 (by decide +kernel) rfl
set_option maxRecDepth 100000 in
theorem zw_401 : Cond.code zy_N_areActs zb_N_areActs 6 (some .boolean) ∈ nk_GT := nk_tm 401 rfl rfl
theorem zw_403 : Cond.methodLink "NeedOnce" 160 zy_N_isAct ∈ nk_GT := nk_tm 403 (by decide +kernel) rfl
theorem zw_404 : Cond.static zy_N_isAct ∈ nk_GT := nk_tm 404 (by decide +kernel) rfl
set_option maxRecDepth 100000 in
theorem zw_405 : Cond.code zy_N_isAct zb_N_isAct 3 (some .boolean) ∈ nk_GT := nk_tm 405 rfl rfl
theorem zw_406 : Cond.methodLink "NeedOnce" 150 zy_N_doActs ∈ nk_GT := nk_tm 406 (by decide +kernel) rfl
theorem zw_408 : Cond.instanceMethod zy_N_doActs ∈ nk_GT := nk_tm 408 (by decide +kernel) rfl
set_option maxRecDepth 100000 in
theorem zw_409 : Cond.code zy_N_doActs zb_N_doActs 6 (some .int) ∈ nk_GT := nk_tm 409 rfl rfl
theorem zw_410 : Cond.methodLink "NeedOnce" 164 zy_N_canDo ∈ nk_GT := nk_tm 410 (by decide +kernel) rfl
theorem zw_412 : Cond.instanceMethod zy_N_canDo ∈ nk_GT := nk_tm 412 (by decide +kernel) rfl
set_option maxRecDepth 100000 in
theorem zw_413 : Cond.code zy_N_canDo zb_N_canDo 5 (some .boolean) ∈ nk_GT := nk_tm 413 rfl rfl
theorem zw_414 : Cond.methodLink "NeedOnce" 154 zy_N_afterDay ∈ nk_GT := nk_tm 414 (by decide +kernel) rfl
theorem zw_416 : Cond.instanceMethod zy_N_afterDay ∈ nk_GT := nk_tm 416 (by decide +kernel) rfl
set_option maxRecDepth 100000 in
theorem zw_417 : Cond.code zy_N_afterDay zb_N_afterDay 2 (some .int) ∈ nk_GT := nk_tm 417 rfl rfl
theorem zw_420 : Cond.instanceMethod zy_C_howManyLinks ∈ nk_GT := nk_tm 420 (by decide +kernel) rfl
set_option maxRecDepth 100000 in
theorem zw_421 : Cond.code zy_C_howManyLinks zb_C_howManyLinks 3 (some .int) ∈ nk_GT := nk_tm 421 rfl rfl
theorem zw_428 : Cond.instanceMethod zy_R_add ∈ nk_GT := nk_tm 428 (by decide +kernel) rfl
set_option maxRecDepth 100000 in
theorem zw_429 : Cond.code zy_R_add zb_R_add 3 (some .int) ∈ nk_GT := nk_tm 429 rfl rfl
theorem zw_440 : Cond.instanceMethod zy_R_areSo ∈ nk_GT := nk_tm 440 (by decide +kernel) rfl
set_option maxRecDepth 100000 in
theorem zw_441 : Cond.code zy_R_areSo zb_R_areSo 3 (some .boolean) ∈ nk_GT := nk_tm 441 rfl rfl
theorem zw_444 : Cond.instanceMethod zy_C_costFromAsleep ∈ nk_GT := nk_tm 444 (by decide +kernel) rfl
set_option maxRecDepth 100000 in
theorem zw_445 : Cond.code zy_C_costFromAsleep zb_C_costFromAsleep 2 (some .int) ∈ nk_GT := nk_tm 445 rfl rfl
theorem zw_454 : Cond.constantLong "NeedOnce" 177 (-9223372036854775808 : Int64) ∈ nk_GT := nk_tm 454 (by decide +kernel) rfl
theorem zw_455 : Cond.methodLink "NeedOnce" 182 zy_N_timesItComesTo ∈ nk_GT := nk_tm 455 (by decide +kernel) rfl
theorem zw_457 : Cond.instanceMethod zy_N_timesItComesTo ∈ nk_GT := nk_tm 457 (by decide +kernel) rfl
set_option maxRecDepth 100000 in
theorem zw_458 : Cond.code zy_N_timesItComesTo zb_N_timesItComesTo 6 (some .int) ∈ nk_GT := nk_tm 458 rfl rfl
theorem zw_460 : Cond.methodLink "NeedOnce" 185 zy_N_commonWithTen ∈ nk_GT := nk_tm 460 (by decide +kernel) rfl
theorem zw_461 : Cond.static zy_N_commonWithTen ∈ nk_GT := nk_tm 461 (by decide +kernel) rfl
set_option maxRecDepth 100000 in
theorem zw_462 : Cond.code zy_N_commonWithTen zb_N_commonWithTen 3 (some .int) ∈ nk_GT := nk_tm 462 rfl rfl
theorem zw_469 : Cond.instanceMethod zy_S_makeRow ∈ nk_GT := nk_tm 469 (by decide +kernel) rfl
set_option maxRecDepth 100000 in
theorem zw_470 : Cond.code zy_S_makeRow zb_S_makeRow 4 none ∈ nk_GT := nk_tm 470 rfl rfl
theorem zw_471 : Cond.methodLink "NeedOnce$Sheets" 23 zy_J_fill ∈ nk_GT := nk_tm 471 (by decide +kernel) rfl
theorem zw_482 : Cond.instanceMethod zy_S_setCut ∈ nk_GT := nk_tm 482 (by decide +kernel) rfl
set_option maxRecDepth 100000 in
theorem zw_483 : Cond.code zy_S_setCut zb_S_setCut 4 none ∈ nk_GT := nk_tm 483 rfl rfl
theorem zw_494 : Cond.instanceMethod zy_S_moveFault ∈ nk_GT := nk_tm 494 (by decide +kernel) rfl
set_option maxRecDepth 100000 in
theorem zw_495 : Cond.code zy_S_moveFault zb_S_moveFault 6 (some .int) ∈ nk_GT := nk_tm 495 rfl rfl
theorem zw_498 : Cond.instanceMethod zy_S_move ∈ nk_GT := nk_tm 498 (by decide +kernel) rfl
set_option maxRecDepth 100000 in
theorem zw_499 : Cond.code zy_S_move zb_S_move 6 none ∈ nk_GT := nk_tm 499 rfl rfl
theorem zw_500 : Cond.methodLink "NeedOnce$Sheets" 33 arraycopyName ∈ nk_GT := nk_tm 500 (by decide +kernel) rfl
theorem zw_505 : Cond.methodLink "NeedOnce" 209 zy_N_tellDouble ∈ nk_GT := nk_tm 505 (by decide +kernel) rfl
theorem zw_507 : Cond.instanceMethod zy_N_tellDouble ∈ nk_GT := nk_tm 507 (by decide +kernel) rfl
set_option maxRecDepth 100000 in
theorem zw_508 : Cond.code zy_N_tellDouble zb_N_tellDouble 3 (some .int) ∈ nk_GT := nk_tm 508 rfl rfl
theorem zw_509 : Cond.methodLink "NeedOnce" 218 zy_N_leaveTrace ∈ nk_GT := nk_tm 509 (by decide +kernel) rfl
theorem zw_511 : Cond.instanceMethod zy_N_leaveTrace ∈ nk_GT := nk_tm 511 (by decide +kernel) rfl
set_option maxRecDepth 100000 in
theorem zw_512 : Cond.code zy_N_leaveTrace zb_N_leaveTrace 2 none ∈ nk_GT := nk_tm 512 rfl rfl
theorem zw_513 : Cond.methodLink "NeedOnce" 212 zy_N_tellDear ∈ nk_GT := nk_tm 513 (by decide +kernel) rfl
theorem zw_515 : Cond.instanceMethod zy_N_tellDear ∈ nk_GT := nk_tm 515 (by decide +kernel) rfl
set_option maxRecDepth 100000 in
theorem zw_516 : Cond.code zy_N_tellDear zb_N_tellDear 2 (some .int) ∈ nk_GT := nk_tm 516 rfl rfl
theorem zw_517 : Cond.methodLink "NeedOnce" 215 zy_N_tellPlain ∈ nk_GT := nk_tm 517 (by decide +kernel) rfl
theorem zw_519 : Cond.instanceMethod zy_N_tellPlain ∈ nk_GT := nk_tm 519 (by decide +kernel) rfl
set_option maxRecDepth 100000 in
theorem zw_520 : Cond.code zy_N_tellPlain zb_N_tellPlain 2 (some .int) ∈ nk_GT := nk_tm 520 rfl rfl
theorem zw_547 : Cond.fieldLink "NeedOnceModel" 96 "NeedOnceModel" "fault" "I" ∈ nk_GT := nk_tm 547 (by decide +kernel) rfl
theorem zw_548 : Cond.fieldLink "NeedOnceModel" 104 "NeedOnceModel" "cells" "I" ∈ nk_GT := nk_tm 548 (by decide +kernel) rfl
theorem zw_549 : Cond.fieldLink "NeedOnceModel" 7 "NeedOnceModel" "kindOf" "[I" ∈ nk_GT := nk_tm 549 (by decide +kernel) rfl
theorem zw_550 : Cond.fieldLink "NeedOnceModel" 13 "NeedOnceModel" "priceOf" "[I" ∈ nk_GT := nk_tm 550 (by decide +kernel) rfl
theorem zw_551 : Cond.fieldLink "NeedOnceModel" 16 "NeedOnceModel" "formOf" "[I" ∈ nk_GT := nk_tm 551 (by decide +kernel) rfl
theorem zw_552 : Cond.fieldLink "NeedOnceModel" 19 "NeedOnceModel" "partOf" "[I" ∈ nk_GT := nk_tm 552 (by decide +kernel) rfl
theorem zw_553 : Cond.fieldLink "NeedOnceModel" 111 "NeedOnceModel" "readAt" "I" ∈ nk_GT := nk_tm 553 (by decide +kernel) rfl
theorem zw_554 : Cond.fieldLink "NeedOnceModel" 122 "NeedOnceModel" "readCells" "I" ∈ nk_GT := nk_tm 554 (by decide +kernel) rfl
theorem zw_555 : Cond.fieldLink "NeedOnceModel" 22 "NeedOnceModel" "readKind" "[I" ∈ nk_GT := nk_tm 555 (by decide +kernel) rfl
theorem zw_556 : Cond.fieldLink "NeedOnceModel" 25 "NeedOnceModel" "readPrice" "[I" ∈ nk_GT := nk_tm 556 (by decide +kernel) rfl
theorem zw_557 : Cond.fieldLink "NeedOnceModel" 28 "NeedOnceModel" "readForm" "[I" ∈ nk_GT := nk_tm 557 (by decide +kernel) rfl
theorem zw_558 : Cond.fieldLink "NeedOnceModel" 31 "NeedOnceModel" "readPart" "[I" ∈ nk_GT := nk_tm 558 (by decide +kernel) rfl
theorem zw_559 : Cond.fieldLink "NeedOnceModel" 34 "NeedOnceModel" "cameOf" "[I" ∈ nk_GT := nk_tm 559 (by decide +kernel) rfl
theorem zw_560 : Cond.fieldLink "NeedOnceModel" 37 "NeedOnceModel" "pairOne" "[I" ∈ nk_GT := nk_tm 560 (by decide +kernel) rfl
theorem zw_561 : Cond.fieldLink "NeedOnceModel" 40 "NeedOnceModel" "pairTwo" "[I" ∈ nk_GT := nk_tm 561 (by decide +kernel) rfl
theorem zw_562 : Cond.fieldLink "NeedOnceModel" 43 "NeedOnceModel" "linkOf" "[I" ∈ nk_GT := nk_tm 562 (by decide +kernel) rfl
theorem zw_563 : Cond.fieldLink "NeedOnceModel" 169 "NeedOnceModel" "spentNow" "I" ∈ nk_GT := nk_tm 563 (by decide +kernel) rfl
theorem zw_564 : Cond.fieldLink "NeedOnceModel" 184 "NeedOnceModel" "depth" "I" ∈ nk_GT := nk_tm 564 (by decide +kernel) rfl
theorem zw_565 : Cond.fieldLink "NeedOnceModel" 46 "NeedOnceModel" "onCell" "[I" ∈ nk_GT := nk_tm 565 (by decide +kernel) rfl
theorem zw_566 : Cond.fieldLink "NeedOnceModel" 49 "NeedOnceModel" "onStage" "[I" ∈ nk_GT := nk_tm 566 (by decide +kernel) rfl
theorem zw_567 : Cond.fieldLink "NeedOnceModel" 52 "NeedOnceModel" "onNumber" "[I" ∈ nk_GT := nk_tm 567 (by decide +kernel) rfl
theorem zw_568 : Cond.fieldLink "NeedOnceModel" 191 "NeedOnceModel" "come" "I" ∈ nk_GT := nk_tm 568 (by decide +kernel) rfl
theorem zw_569 : Cond.fieldLink "NeedOnceModel" 194 "NeedOnceModel" "comeOne" "I" ∈ nk_GT := nk_tm 569 (by decide +kernel) rfl
theorem zw_570 : Cond.fieldLink "NeedOnceModel" 197 "NeedOnceModel" "comeTwo" "I" ∈ nk_GT := nk_tm 570 (by decide +kernel) rfl
theorem zw_571 : Cond.fieldLink "NeedOnceModel" 206 "NeedOnceModel" "worked" "I" ∈ nk_GT := nk_tm 571 (by decide +kernel) rfl
theorem zw_572 : Cond.fieldLink "NeedOnceModel" 209 "NeedOnceModel" "deep" "I" ∈ nk_GT := nk_tm 572 (by decide +kernel) rfl
theorem zw_573 : Cond.fieldLink "NeedOnceModel" 212 "NeedOnceModel" "costs" "I" ∈ nk_GT := nk_tm 573 (by decide +kernel) rfl
theorem zw_574 : Cond.fieldLink "NeedOnceModel" 218 "NeedOnceModel" "done" "I" ∈ nk_GT := nk_tm 574 (by decide +kernel) rfl
theorem zw_575 : Cond.fieldLink "NeedOnceModel" 55 "NeedOnceModel" "doneOf" "[I" ∈ nk_GT := nk_tm 575 (by decide +kernel) rfl
theorem zw_576 : Cond.fieldLink "NeedOnceModel" 187 "NeedOnceModel" "keepsNone" "Z" ∈ nk_GT := nk_tm 576 (by decide +kernel) rfl
theorem zw_577 : Cond.fieldLink "NeedOnceModel" 203 "NeedOnceModel" "endless" "Z" ∈ nk_GT := nk_tm 577 (by decide +kernel) rfl
theorem zw_578 : Cond.fieldLink "NeedOnceModel" 172 "NeedOnceModel" "latestWorked" "I" ∈ nk_GT := nk_tm 578 (by decide +kernel) rfl
theorem zw_579 : Cond.fieldLink "NeedOnceModel" 175 "NeedOnceModel" "latestDeep" "I" ∈ nk_GT := nk_tm 579 (by decide +kernel) rfl
theorem zw_580 : Cond.fieldLink "NeedOnceModel" 178 "NeedOnceModel" "latestCost" "I" ∈ nk_GT := nk_tm 580 (by decide +kernel) rfl
theorem zw_581 : Cond.fieldLink "NeedOnceModel" 58 "NeedOnceModel" "latestDone" "[I" ∈ nk_GT := nk_tm 581 (by decide +kernel) rfl
theorem zw_582 : Cond.fieldLink "NeedOnceModel" 61 "NeedOnceModel" "hadCame" "[I" ∈ nk_GT := nk_tm 582 (by decide +kernel) rfl
theorem zw_583 : Cond.fieldLink "NeedOnceModel" 64 "NeedOnceModel" "hadOne" "[I" ∈ nk_GT := nk_tm 583 (by decide +kernel) rfl
theorem zw_584 : Cond.fieldLink "NeedOnceModel" 67 "NeedOnceModel" "hadTwo" "[I" ∈ nk_GT := nk_tm 584 (by decide +kernel) rfl
theorem zw_585 : Cond.fieldLink "NeedOnceModel" 70 "NeedOnceModel" "hadLink" "[I" ∈ nk_GT := nk_tm 585 (by decide +kernel) rfl
theorem zw_586 : Cond.fieldLink "NeedOnceModel" 73 "NeedOnceModel" "hadPrice" "[I" ∈ nk_GT := nk_tm 586 (by decide +kernel) rfl
theorem zw_587 : Cond.fieldLink "NeedOnceModel" 273 "NeedOnceModel" "daySpent" "I" ∈ nk_GT := nk_tm 587 (by decide +kernel) rfl
theorem zw_588 : Cond.fieldLink "NeedOnceModel" 166 "NeedOnceModel" "readings" "I" ∈ nk_GT := nk_tm 588 (by decide +kernel) rfl
theorem zw_589 : Cond.fieldLink "NeedOnceModel" 76 "NeedOnceModel" "readingOf" "[I" ∈ nk_GT := nk_tm 589 (by decide +kernel) rfl
theorem zw_590 : Cond.fieldLink "NeedOnceModel" 79 "NeedOnceModel" "readingIs" "[I" ∈ nk_GT := nk_tm 590 (by decide +kernel) rfl
theorem zw_591 : Cond.fieldLink "NeedOnceModel" 82 "NeedOnceModel" "sheetSize" "[I" ∈ nk_GT := nk_tm 591 (by decide +kernel) rfl
theorem zw_592 : Cond.fieldLink "NeedOnceModel" 85 "NeedOnceModel" "sheetLane" "[I" ∈ nk_GT := nk_tm 592 (by decide +kernel) rfl
theorem zw_593 : Cond.fieldLink "NeedOnceModel" 88 "NeedOnceModel" "sheet" "[I" ∈ nk_GT := nk_tm 593 (by decide +kernel) rfl
theorem zw_594 : Cond.fieldLink "NeedOnceModel" 91 "NeedOnceModel" "hands" "[I" ∈ nk_GT := nk_tm 594 (by decide +kernel) rfl
theorem zw_595 : Cond.fieldLink "NeedOnceModel" 330 "NeedOnceModel" "traceNow" "I" ∈ nk_GT := nk_tm 595 (by decide +kernel) rfl
theorem zw_699 : Cond.methodLink "NeedOnceModel" 146 zy_M_noSheet ∈ nk_GT := nk_tm 699 (by decide +kernel) rfl
theorem zw_700 : Cond.static zy_M_noSheet ∈ nk_GT := nk_tm 700 (by decide +kernel) rfl
set_option maxRecDepth 100000 in
theorem zw_701 : Cond.code zy_M_noSheet zb_M_noSheet 1 (some .boolean) ∈ nk_GT := nk_tm 701 rfl rfl
theorem zw_702 : Cond.constantLong "NeedOnceModel" 321 (3 : Int64) ∈ nk_GT := nk_tm 702 (by decide +kernel) rfl
theorem zw_703 : Cond.methodLink "NeedOnceModel" 107 zy_M_in ∈ nk_GT := nk_tm 703 (by decide +kernel) rfl
theorem zw_704 : Cond.static zy_M_in ∈ nk_GT := nk_tm 704 (by decide +kernel) rfl
set_option maxRecDepth 100000 in
theorem zw_705 : Cond.code zy_M_in zb_M_in 6 (some .boolean) ∈ nk_GT := nk_tm 705 rfl rfl
theorem zw_706 : Cond.methodLink "NeedOnceModel" 150 zy_M_refused ∈ nk_GT := nk_tm 706 (by decide +kernel) rfl
theorem zw_708 : Cond.instanceMethod zy_M_refused ∈ nk_GT := nk_tm 708 (by decide +kernel) rfl
set_option maxRecDepth 100000 in
theorem zw_709 : Cond.code zy_M_refused zb_M_refused 2 (some .int) ∈ nk_GT := nk_tm 709 rfl rfl
theorem zw_710 : Cond.constantLong "NeedOnceModel" 153 (2 : Int64) ∈ nk_GT := nk_tm 710 (by decide +kernel) rfl
theorem zw_711 : Cond.methodLink "NeedOnceModel" 155 zy_M_cellsBarred ∈ nk_GT := nk_tm 711 (by decide +kernel) rfl
theorem zw_713 : Cond.instanceMethod zy_M_cellsBarred ∈ nk_GT := nk_tm 713 (by decide +kernel) rfl
set_option maxRecDepth 100000 in
theorem zw_714 : Cond.code zy_M_cellsBarred zb_M_cellsBarred 6 (some .int) ∈ nk_GT := nk_tm 714 rfl rfl
theorem zw_715 : Cond.methodLink "NeedOnceModel" 139 zy_M_failed ∈ nk_GT := nk_tm 715 (by decide +kernel) rfl
theorem zw_717 : Cond.instanceMethod zy_M_failed ∈ nk_GT := nk_tm 717 (by decide +kernel) rfl
set_option maxRecDepth 100000 in
theorem zw_718 : Cond.code zy_M_failed zb_M_failed 2 (some .int) ∈ nk_GT := nk_tm 718 rfl rfl
theorem zw_719 : Cond.methodLink "NeedOnceModel" 142 zy_M_isBeyond ∈ nk_GT := nk_tm 719 (by decide +kernel) rfl
theorem zw_720 : Cond.static zy_M_isBeyond ∈ nk_GT := nk_tm 720 (by decide +kernel) rfl
set_option maxRecDepth 100000 in
theorem zw_721 : Cond.code zy_M_isBeyond zb_M_isBeyond 4 (some .boolean) ∈ nk_GT := nk_tm 721 rfl rfl
theorem zw_722 : Cond.methodLink "NeedOnceModel" 159 zy_M_readsCells ∈ nk_GT := nk_tm 722 (by decide +kernel) rfl
theorem zw_724 : Cond.instanceMethod zy_M_readsCells ∈ nk_GT := nk_tm 724 (by decide +kernel) rfl
set_option maxRecDepth 100000 in
theorem zw_725 : Cond.code zy_M_readsCells zb_M_readsCells 4 (some .boolean) ∈ nk_GT := nk_tm 725 rfl rfl
theorem zw_726 : Cond.methodLink "NeedOnceModel" 114 zy_M_codeAt ∈ nk_GT := nk_tm 726 (by decide +kernel) rfl
theorem zw_728 : Cond.instanceMethod zy_M_codeAt ∈ nk_GT := nk_tm 728 (by decide +kernel) rfl
set_option maxRecDepth 100000 in
theorem zw_729 : Cond.code zy_M_codeAt zb_M_codeAt 3 (some .int) ∈ nk_GT := nk_tm 729 rfl rfl
theorem zw_730 : Cond.methodLink "NeedOnceModel" 136 zy_M_readsCell ∈ nk_GT := nk_tm 730 (by decide +kernel) rfl
theorem zw_732 : Cond.instanceMethod zy_M_readsCell ∈ nk_GT := nk_tm 732 (by decide +kernel) rfl
set_option maxRecDepth 100000 in
theorem zw_733 : Cond.code zy_M_readsCell zb_M_readsCell 6 (some .boolean) ∈ nk_GT := nk_tm 733 rfl rfl
theorem zw_734 : Cond.constantLong "NeedOnceModel" 128 (9 : Int64) ∈ nk_GT := nk_tm 734 (by decide +kernel) rfl
theorem zw_735 : Cond.methodLink "NeedOnceModel" 132 zy_M_readsForm ∈ nk_GT := nk_tm 735 (by decide +kernel) rfl
theorem zw_737 : Cond.instanceMethod zy_M_readsForm ∈ nk_GT := nk_tm 737 (by decide +kernel) rfl
set_option maxRecDepth 100000 in
theorem zw_738 : Cond.code zy_M_readsForm zb_M_readsForm 6 (some .boolean) ∈ nk_GT := nk_tm 738 rfl rfl
theorem zw_739 : Cond.methodLink "NeedOnceModel" 118 zy_M_formBy ∈ nk_GT := nk_tm 739 (by decide +kernel) rfl
theorem zw_740 : Cond.static zy_M_formBy ∈ nk_GT := nk_tm 740 (by decide +kernel) rfl
set_option maxRecDepth 100000 in
theorem zw_741 : Cond.code zy_M_formBy zb_M_formBy 1 (some .int) ∈ nk_GT := nk_tm 741 rfl rfl
theorem zw_742 : Cond.methodLink "NeedOnceModel" 125 zy_M_partsOf ∈ nk_GT := nk_tm 742 (by decide +kernel) rfl
theorem zw_743 : Cond.static zy_M_partsOf ∈ nk_GT := nk_tm 743 (by decide +kernel) rfl
set_option maxRecDepth 100000 in
theorem zw_744 : Cond.code zy_M_partsOf zb_M_partsOf 1 (some .int) ∈ nk_GT := nk_tm 744 rfl rfl
theorem zw_745 : Cond.constantLong "NeedOnceModel" 130 (7 : Int64) ∈ nk_GT := nk_tm 745 (by decide +kernel) rfl
theorem zw_746 : Cond.methodLink "NeedOnceModel" 162 zy_M_looseOne ∈ nk_GT := nk_tm 746 (by decide +kernel) rfl
theorem zw_748 : Cond.instanceMethod zy_M_looseOne ∈ nk_GT := nk_tm 748 (by decide +kernel) rfl
set_option maxRecDepth 100000 in
theorem zw_749 : Cond.code zy_M_looseOne zb_M_looseOne 4 (some .int) ∈ nk_GT := nk_tm 749 rfl rfl
theorem zw_750 : Cond.methodLink "NeedOnceModel" 181 zy_M_allAsleep ∈ nk_GT := nk_tm 750 (by decide +kernel) rfl
theorem zw_752 : Cond.instanceMethod zy_M_allAsleep ∈ nk_GT := nk_tm 752 (by decide +kernel) rfl
set_option maxRecDepth 100000 in
theorem zw_753 : Cond.code zy_M_allAsleep zb_M_allAsleep 2 none ∈ nk_GT := nk_tm 753 rfl rfl
theorem zw_758 : Cond.methodLink "NeedOnceModel" 240 zy_M_noOne ∈ nk_GT := nk_tm 758 (by decide +kernel) rfl
theorem zw_760 : Cond.instanceMethod zy_M_noOne ∈ nk_GT := nk_tm 760 (by decide +kernel) rfl
set_option maxRecDepth 100000 in
theorem zw_761 : Cond.code zy_M_noOne zb_M_noOne 2 (some .boolean) ∈ nk_GT := nk_tm 761 rfl rfl
theorem zw_762 : Cond.constantLong "NeedOnceModel" 243 (10 : Int64) ∈ nk_GT := nk_tm 762 (by decide +kernel) rfl
theorem zw_763 : Cond.constantLong "NeedOnceModel" 245 (12 : Int64) ∈ nk_GT := nk_tm 763 (by decide +kernel) rfl
theorem zw_764 : Cond.methodLink "NeedOnceModel" 215 zy_M_cost ∈ nk_GT := nk_tm 764 (by decide +kernel) rfl
theorem zw_766 : Cond.instanceMethod zy_M_cost ∈ nk_GT := nk_tm 766 (by decide +kernel) rfl
set_option maxRecDepth 100000 in
theorem zw_767 : Cond.code zy_M_cost zb_M_cost 2 (some .int) ∈ nk_GT := nk_tm 767 rfl rfl
theorem zw_769 : Cond.instanceMethod zy_M_price ∈ nk_GT := nk_tm 769 (by decide +kernel) rfl
theorem zw_770 : Cond.selects "NeedOnceModel" zy_M_price zy_M_price ∈ nk_GT := nk_tm 770 (by decide +kernel) rfl
set_option maxRecDepth 100000 in
theorem zw_771 : Cond.code zy_M_price zb_M_price 4 (some .int) ∈ nk_GT := nk_tm 771 rfl rfl
theorem zw_772 : Cond.methodLink "NeedOnceModel" 247 zy_M_isPrice ∈ nk_GT := nk_tm 772 (by decide +kernel) rfl
theorem zw_773 : Cond.static zy_M_isPrice ∈ nk_GT := nk_tm 773 (by decide +kernel) rfl
set_option maxRecDepth 100000 in
theorem zw_774 : Cond.code zy_M_isPrice zb_M_isPrice 1 (some .boolean) ∈ nk_GT := nk_tm 774 rfl rfl
theorem zw_779 : Cond.methodLink "NeedOnceModel" 250 zy_M_needs ∈ nk_GT := nk_tm 779 (by decide +kernel) rfl
theorem zw_781 : Cond.instanceMethod zy_M_needs ∈ nk_GT := nk_tm 781 (by decide +kernel) rfl
set_option maxRecDepth 100000 in
theorem zw_782 : Cond.code zy_M_needs zb_M_needs 2 (some .int) ∈ nk_GT := nk_tm 782 rfl rfl
theorem zw_783 : Cond.methodLink "NeedOnceModel" 221 zy_M_wants ∈ nk_GT := nk_tm 783 (by decide +kernel) rfl
theorem zw_785 : Cond.instanceMethod zy_M_wants ∈ nk_GT := nk_tm 785 (by decide +kernel) rfl
set_option maxRecDepth 100000 in
theorem zw_786 : Cond.code zy_M_wants zb_M_wants 2 none ∈ nk_GT := nk_tm 786 rfl rfl
theorem zw_787 : Cond.methodLink "NeedOnceModel" 200 zy_M_isOn ∈ nk_GT := nk_tm 787 (by decide +kernel) rfl
theorem zw_789 : Cond.instanceMethod zy_M_isOn ∈ nk_GT := nk_tm 789 (by decide +kernel) rfl
set_option maxRecDepth 100000 in
theorem zw_790 : Cond.code zy_M_isOn zb_M_isOn 4 (some .boolean) ∈ nk_GT := nk_tm 790 rfl rfl
theorem zw_791 : Cond.methodLink "NeedOnceModel" 237 zy_M_goesOn ∈ nk_GT := nk_tm 791 (by decide +kernel) rfl
theorem zw_793 : Cond.instanceMethod zy_M_goesOn ∈ nk_GT := nk_tm 793 (by decide +kernel) rfl
set_option maxRecDepth 100000 in
theorem zw_794 : Cond.code zy_M_goesOn zb_M_goesOn 3 none ∈ nk_GT := nk_tm 794 rfl rfl
theorem zw_795 : Cond.methodLink "NeedOnceModel" 228 zy_M_begins ∈ nk_GT := nk_tm 795 (by decide +kernel) rfl
theorem zw_797 : Cond.instanceMethod zy_M_begins ∈ nk_GT := nk_tm 797 (by decide +kernel) rfl
set_option maxRecDepth 100000 in
theorem zw_798 : Cond.code zy_M_begins zb_M_begins 3 none ∈ nk_GT := nk_tm 798 rfl rfl
theorem zw_799 : Cond.methodLink "NeedOnceModel" 225 zy_M_isDone ∈ nk_GT := nk_tm 799 (by decide +kernel) rfl
theorem zw_801 : Cond.instanceMethod zy_M_isDone ∈ nk_GT := nk_tm 801 (by decide +kernel) rfl
set_option maxRecDepth 100000 in
theorem zw_802 : Cond.code zy_M_isDone zb_M_isDone 3 none ∈ nk_GT := nk_tm 802 rfl rfl
theorem zw_803 : Cond.methodLink "NeedOnceModel" 231 zy_M_hasFirst ∈ nk_GT := nk_tm 803 (by decide +kernel) rfl
theorem zw_805 : Cond.instanceMethod zy_M_hasFirst ∈ nk_GT := nk_tm 805 (by decide +kernel) rfl
set_option maxRecDepth 100000 in
theorem zw_806 : Cond.code zy_M_hasFirst zb_M_hasFirst 3 none ∈ nk_GT := nk_tm 806 rfl rfl
theorem zw_807 : Cond.methodLink "NeedOnceModel" 234 zy_M_hasSecond ∈ nk_GT := nk_tm 807 (by decide +kernel) rfl
theorem zw_809 : Cond.instanceMethod zy_M_hasSecond ∈ nk_GT := nk_tm 809 (by decide +kernel) rfl
set_option maxRecDepth 100000 in
theorem zw_810 : Cond.code zy_M_hasSecond zb_M_hasSecond 3 none ∈ nk_GT := nk_tm 810 rfl rfl
theorem zw_815 : Cond.constantLong "NeedOnceModel" 253 (17 : Int64) ∈ nk_GT := nk_tm 815 (by decide +kernel) rfl
theorem zw_821 : Cond.instanceMethod zy_M_sleep ∈ nk_GT := nk_tm 821 (by decide +kernel) rfl
theorem zw_822 : Cond.selects "NeedOnceModel" zy_M_sleep zy_M_sleep ∈ nk_GT := nk_tm 822 (by decide +kernel) rfl
set_option maxRecDepth 100000 in
theorem zw_823 : Cond.code zy_M_sleep zb_M_sleep 2 (some .int) ∈ nk_GT := nk_tm 823 rfl rfl
theorem zw_824 : Cond.methodLink "NeedOnceModel" 255 zy_M_awakeOnes ∈ nk_GT := nk_tm 824 (by decide +kernel) rfl
theorem zw_826 : Cond.instanceMethod zy_M_awakeOnes ∈ nk_GT := nk_tm 826 (by decide +kernel) rfl
set_option maxRecDepth 100000 in
theorem zw_827 : Cond.code zy_M_awakeOnes zb_M_awakeOnes 3 (some .int) ∈ nk_GT := nk_tm 827 rfl rfl
theorem zw_829 : Cond.instanceMethod zy_M_shorten ∈ nk_GT := nk_tm 829 (by decide +kernel) rfl
theorem zw_830 : Cond.selects "NeedOnceModel" zy_M_shorten zy_M_shorten ∈ nk_GT := nk_tm 830 (by decide +kernel) rfl
set_option maxRecDepth 100000 in
theorem zw_831 : Cond.code zy_M_shorten zb_M_shorten 4 (some .int) ∈ nk_GT := nk_tm 831 rfl rfl
theorem zw_832 : Cond.methodLink "NeedOnceModel" 258 zy_M_nextToShorten ∈ nk_GT := nk_tm 832 (by decide +kernel) rfl
theorem zw_834 : Cond.instanceMethod zy_M_nextToShorten ∈ nk_GT := nk_tm 834 (by decide +kernel) rfl
set_option maxRecDepth 100000 in
theorem zw_835 : Cond.code zy_M_nextToShorten zb_M_nextToShorten 4 (some .int) ∈ nk_GT := nk_tm 835 rfl rfl
theorem zw_840 : Cond.constantLong "NeedOnceModel" 264 (255 : Int64) ∈ nk_GT := nk_tm 840 (by decide +kernel) rfl
theorem zw_841 : Cond.methodLink "NeedOnceModel" 266 zy_M_heldBy ∈ nk_GT := nk_tm 841 (by decide +kernel) rfl
theorem zw_843 : Cond.instanceMethod zy_M_heldBy ∈ nk_GT := nk_tm 843 (by decide +kernel) rfl
set_option maxRecDepth 100000 in
theorem zw_844 : Cond.code zy_M_heldBy zb_M_heldBy 5 (some .int) ∈ nk_GT := nk_tm 844 rfl rfl
theorem zw_845 : Cond.methodLink "NeedOnceModel" 261 zy_M_holds ∈ nk_GT := nk_tm 845 (by decide +kernel) rfl
theorem zw_847 : Cond.instanceMethod zy_M_holds ∈ nk_GT := nk_tm 847 (by decide +kernel) rfl
set_option maxRecDepth 100000 in
theorem zw_848 : Cond.code zy_M_holds zb_M_holds 4 (some .int) ∈ nk_GT := nk_tm 848 rfl rfl
theorem zw_857 : Cond.constantLong "NeedOnceModel" 269 (20 : Int64) ∈ nk_GT := nk_tm 857 (by decide +kernel) rfl
theorem zw_858 : Cond.constantLong "NeedOnceModel" 294 (4 : Int64) ∈ nk_GT := nk_tm 858 (by decide +kernel) rfl
theorem zw_859 : Cond.methodLink "NeedOnceModel" 296 zy_M_isAsTold ∈ nk_GT := nk_tm 859 (by decide +kernel) rfl
theorem zw_860 : Cond.static zy_M_isAsTold ∈ nk_GT := nk_tm 860 (by decide +kernel) rfl
set_option maxRecDepth 100000 in
theorem zw_861 : Cond.code zy_M_isAsTold zb_M_isAsTold 2 (some .boolean) ∈ nk_GT := nk_tm 861 rfl rfl
theorem zw_862 : Cond.constantLong "NeedOnceModel" 271 (21 : Int64) ∈ nk_GT := nk_tm 862 (by decide +kernel) rfl
theorem zw_863 : Cond.methodLink "NeedOnceModel" 299 zy_M_keeps ∈ nk_GT := nk_tm 863 (by decide +kernel) rfl
theorem zw_865 : Cond.instanceMethod zy_M_keeps ∈ nk_GT := nk_tm 865 (by decide +kernel) rfl
set_option maxRecDepth 100000 in
theorem zw_866 : Cond.code zy_M_keeps zb_M_keeps 2 none ∈ nk_GT := nk_tm 866 rfl rfl
theorem zw_867 : Cond.methodLink "NeedOnceModel" 302 zy_M_dayOf ∈ nk_GT := nk_tm 867 (by decide +kernel) rfl
theorem zw_869 : Cond.instanceMethod zy_M_dayOf ∈ nk_GT := nk_tm 869 (by decide +kernel) rfl
set_option maxRecDepth 100000 in
theorem zw_870 : Cond.code zy_M_dayOf zb_M_dayOf 6 (some .int) ∈ nk_GT := nk_tm 870 rfl rfl
theorem zw_871 : Cond.methodLink "NeedOnceModel" 288 zy_M_doesPair ∈ nk_GT := nk_tm 871 (by decide +kernel) rfl
theorem zw_873 : Cond.instanceMethod zy_M_doesPair ∈ nk_GT := nk_tm 873 (by decide +kernel) rfl
set_option maxRecDepth 100000 in
theorem zw_874 : Cond.code zy_M_doesPair zb_M_doesPair 3 (some .boolean) ∈ nk_GT := nk_tm 874 rfl rfl
theorem zw_875 : Cond.methodLink "NeedOnceModel" 276 zy_M_needsOnly ∈ nk_GT := nk_tm 875 (by decide +kernel) rfl
theorem zw_877 : Cond.instanceMethod zy_M_needsOnly ∈ nk_GT := nk_tm 877 (by decide +kernel) rfl
set_option maxRecDepth 100000 in
theorem zw_878 : Cond.code zy_M_needsOnly zb_M_needsOnly 3 (some .boolean) ∈ nk_GT := nk_tm 878 rfl rfl
theorem zw_879 : Cond.methodLink "NeedOnceModel" 279 zy_M_price ∈ nk_GT := nk_tm 879 (by decide +kernel) rfl
theorem zw_880 : Cond.methodLink "NeedOnceModel" 282 zy_M_shorten ∈ nk_GT := nk_tm 880 (by decide +kernel) rfl
theorem zw_881 : Cond.methodLink "NeedOnceModel" 285 zy_M_sleep ∈ nk_GT := nk_tm 881 (by decide +kernel) rfl
theorem zw_882 : Cond.methodLink "NeedOnceModel" 291 zy_M_links ∈ nk_GT := nk_tm 882 (by decide +kernel) rfl
theorem zw_884 : Cond.instanceMethod zy_M_links ∈ nk_GT := nk_tm 884 (by decide +kernel) rfl
set_option maxRecDepth 100000 in
theorem zw_885 : Cond.code zy_M_links zb_M_links 3 (some .int) ∈ nk_GT := nk_tm 885 rfl rfl
theorem zw_886 : Cond.methodLink "NeedOnceModel" 306 zy_M_bringsBack ∈ nk_GT := nk_tm 886 (by decide +kernel) rfl
theorem zw_888 : Cond.instanceMethod zy_M_bringsBack ∈ nk_GT := nk_tm 888 (by decide +kernel) rfl
set_option maxRecDepth 100000 in
theorem zw_889 : Cond.code zy_M_bringsBack zb_M_bringsBack 2 none ∈ nk_GT := nk_tm 889 rfl rfl
theorem zw_894 : Cond.constantLong "NeedOnceModel" 309 (200 : Int64) ∈ nk_GT := nk_tm 894 (by decide +kernel) rfl
theorem zw_903 : Cond.methodLink "NeedOnceModel" 311 zy_M_areSo ∈ nk_GT := nk_tm 903 (by decide +kernel) rfl
theorem zw_905 : Cond.instanceMethod zy_M_areSo ∈ nk_GT := nk_tm 905 (by decide +kernel) rfl
set_option maxRecDepth 100000 in
theorem zw_906 : Cond.code zy_M_areSo zb_M_areSo 4 (some .boolean) ∈ nk_GT := nk_tm 906 rfl rfl
theorem zw_915 : Cond.constantLong "NeedOnceModel" 315 (102 : Int64) ∈ nk_GT := nk_tm 915 (by decide +kernel) rfl
theorem zw_916 : Cond.methodLink "NeedOnceModel" 100 zy_M_lost ∈ nk_GT := nk_tm 916 (by decide +kernel) rfl
theorem zw_917 : Cond.static zy_M_lost ∈ nk_GT := nk_tm 917 (by decide +kernel) rfl
set_option maxRecDepth 100000 in
theorem zw_918 : Cond.code zy_M_lost zb_M_lost 0 (some .long) ∈ nk_GT := nk_tm 918 rfl rfl
theorem zw_919 : Cond.constantLong "NeedOnceModel" 94 (-9223372036854775808 : Int64) ∈ nk_GT := nk_tm 919 (by decide +kernel) rfl
theorem zw_920 : Cond.methodLink "NeedOnceModel" 317 zy_M_share ∈ nk_GT := nk_tm 920 (by decide +kernel) rfl
theorem zw_921 : Cond.static zy_M_share ∈ nk_GT := nk_tm 921 (by decide +kernel) rfl
set_option maxRecDepth 100000 in
theorem zw_922 : Cond.code zy_M_share zb_M_share 11 (some .long) ∈ nk_GT := nk_tm 922 rfl rfl
theorem zw_935 : Cond.methodLink "NeedOnceModel" 323 zy_M_noCell ∈ nk_GT := nk_tm 935 (by decide +kernel) rfl
theorem zw_937 : Cond.instanceMethod zy_M_noCell ∈ nk_GT := nk_tm 937 (by decide +kernel) rfl
set_option maxRecDepth 100000 in
theorem zw_938 : Cond.code zy_M_noCell zb_M_noCell 3 (some .int) ∈ nk_GT := nk_tm 938 rfl rfl
theorem zw_943 : Cond.methodLink "NeedOnceModel" 326 zy_M_failedLong ∈ nk_GT := nk_tm 943 (by decide +kernel) rfl
theorem zw_945 : Cond.instanceMethod zy_M_failedLong ∈ nk_GT := nk_tm 945 (by decide +kernel) rfl
set_option maxRecDepth 100000 in
theorem zw_946 : Cond.code zy_M_failedLong zb_M_failedLong 2 (some .long) ∈ nk_GT := nk_tm 946 rfl rfl
theorem zw_955 : Cond.methodLink "NeedOnceModel" 333 zy_M_traced ∈ nk_GT := nk_tm 955 (by decide +kernel) rfl
theorem zw_957 : Cond.instanceMethod zy_M_traced ∈ nk_GT := nk_tm 957 (by decide +kernel) rfl
set_option maxRecDepth 100000 in
theorem zw_958 : Cond.code zy_M_traced zb_M_traced 2 none ∈ nk_GT := nk_tm 958 rfl rfl
theorem za_N_12 : nk_fa "NeedOnce" 12 nk_wC 4 0 := ⟨"NeedOnce", zt_N, 7, zu_N, rfl, by decide, Or.inl zw_147⟩
theorem za_N_18 : nk_fa "NeedOnce" 18 nk_wC 4 1 := ⟨"NeedOnce", zt_N, 7, zu_N, rfl, by decide, Or.inl zw_148⟩
theorem za_N_24 : nk_fa "NeedOnce" 24 nk_wC 4 2 := ⟨"NeedOnce", zt_N, 7, zu_N, rfl, by decide, Or.inl zw_149⟩
theorem za_N_31 : nk_fa "NeedOnce" 31 nk_wC 4 3 := ⟨"NeedOnce", zt_N, 7, zu_N, rfl, by decide, Or.inl zw_150⟩
theorem za_N_38 : nk_fa "NeedOnce" 38 nk_wC 4 4 := ⟨"NeedOnce", zt_N, 7, zu_N, rfl, by decide, Or.inl zw_151⟩
theorem za_N_42 : nk_fa "NeedOnce" 42 nk_wC 4 6 := ⟨"NeedOnce", zt_N, 7, zu_N, rfl, by decide, Or.inl zw_153⟩
theorem zp_N_42 : nk_fp "NeedOnce" 42 nk_wC 4 6 .int := ⟨"NeedOnce", zt_N, 7, zq_N, zu_N, rfl, by decide, Or.inl zw_153, zk_N, zm_N, rfl, rfl⟩
theorem za_N_76 : nk_fa "NeedOnce" 76 nk_wC 1 0 := ⟨"NeedOnce$Readings", zt_R, 3, zu_R, rfl, by decide, Or.inr ⟨"NeedOnce", nk_tn 118 (by decide +kernel)⟩⟩
theorem zp_N_76 : nk_fp "NeedOnce" 76 nk_wC 1 0 .int := ⟨"NeedOnce$Readings", zt_R, 3, zq_R, zu_R, rfl, by decide, Or.inr ⟨"NeedOnce", nk_tn 118 (by decide +kernel)⟩, zk_R, zm_R, rfl, rfl⟩
theorem za_N_79 : nk_fa "NeedOnce" 79 nk_wC 0 0 := ⟨"NeedOnce$Cells", zt_C, 16, zu_C, rfl, by decide, Or.inr ⟨"NeedOnce", nk_tn 33 (by decide +kernel)⟩⟩
theorem za_N_81 : nk_fa "NeedOnce" 81 nk_wC 0 1 := ⟨"NeedOnce$Cells", zt_C, 16, zu_C, rfl, by decide, Or.inr ⟨"NeedOnce", nk_tn 35 (by decide +kernel)⟩⟩
theorem za_N_85 : nk_fa "NeedOnce" 85 nk_wC 0 2 := ⟨"NeedOnce$Cells", zt_C, 16, zu_C, rfl, by decide, Or.inr ⟨"NeedOnce", nk_tn 38 (by decide +kernel)⟩⟩
theorem za_N_97 : nk_fa "NeedOnce" 97 nk_wC 0 5 := ⟨"NeedOnce$Cells", zt_C, 16, zu_C, rfl, by decide, Or.inr ⟨"NeedOnce", nk_tn 45 (by decide +kernel)⟩⟩
theorem za_N_100 : nk_fa "NeedOnce" 100 nk_wC 0 7 := ⟨"NeedOnce$Cells", zt_C, 16, zu_C, rfl, by decide, Or.inr ⟨"NeedOnce", nk_tn 48 (by decide +kernel)⟩⟩
theorem za_N_110 : nk_fa "NeedOnce" 110 nk_wC 0 11 := ⟨"NeedOnce$Cells", zt_C, 16, zu_C, rfl, by decide, Or.inr ⟨"NeedOnce", nk_tn 53 (by decide +kernel)⟩⟩
theorem za_N_113 : nk_fa "NeedOnce" 113 nk_wC 0 12 := ⟨"NeedOnce$Cells", zt_C, 16, zu_C, rfl, by decide, Or.inr ⟨"NeedOnce", nk_tn 55 (by decide +kernel)⟩⟩
theorem za_N_116 : nk_fa "NeedOnce" 116 nk_wC 0 13 := ⟨"NeedOnce$Cells", zt_C, 16, zu_C, rfl, by decide, Or.inr ⟨"NeedOnce", nk_tn 57 (by decide +kernel)⟩⟩
theorem za_N_119 : nk_fa "NeedOnce" 119 nk_wC 0 14 := ⟨"NeedOnce$Cells", zt_C, 16, zu_C, rfl, by decide, Or.inr ⟨"NeedOnce", nk_tn 59 (by decide +kernel)⟩⟩
theorem za_N_122 : nk_fa "NeedOnce" 122 nk_wC 0 15 := ⟨"NeedOnce$Cells", zt_C, 16, zu_C, rfl, by decide, Or.inr ⟨"NeedOnce", nk_tn 62 (by decide +kernel)⟩⟩
theorem za_N_125 : nk_fa "NeedOnce" 125 nk_wC 0 10 := ⟨"NeedOnce$Cells", zt_C, 16, zu_C, rfl, by decide, Or.inr ⟨"NeedOnce", nk_tn 51 (by decide +kernel)⟩⟩
theorem za_N_179 : nk_fa "NeedOnce" 179 nk_wC 0 3 := ⟨"NeedOnce$Cells", zt_C, 16, zu_C, rfl, by decide, Or.inr ⟨"NeedOnce", nk_tn 42 (by decide +kernel)⟩⟩
theorem za_N_195 : nk_fa "NeedOnce" 195 nk_wC 2 1 := ⟨"NeedOnce$Sheets", zt_S, 3, zu_S, rfl, by decide, Or.inr ⟨"NeedOnce", nk_tn 138 (by decide +kernel)⟩⟩
theorem za_N_222 : nk_fa "NeedOnce" 222 nk_wC 4 5 := ⟨"NeedOnce", zt_N, 7, zu_N, rfl, by decide, Or.inl zw_152⟩
theorem zp_N_222 : nk_fp "NeedOnce" 222 nk_wC 4 5 .int := ⟨"NeedOnce", zt_N, 7, zq_N, zu_N, rfl, by decide, Or.inl zw_152, zk_N, zm_N, rfl, rfl⟩
theorem za_C_9 : nk_fa "NeedOnce$Cells" 9 nk_wC 0 1 := ⟨"NeedOnce$Cells", zt_C, 16, zu_C, rfl, by decide, Or.inl zw_34⟩
theorem za_C_15 : nk_fa "NeedOnce$Cells" 15 nk_wC 0 2 := ⟨"NeedOnce$Cells", zt_C, 16, zu_C, rfl, by decide, Or.inl zw_37⟩
theorem za_C_18 : nk_fa "NeedOnce$Cells" 18 nk_wC 0 3 := ⟨"NeedOnce$Cells", zt_C, 16, zu_C, rfl, by decide, Or.inl zw_40⟩
theorem za_C_21 : nk_fa "NeedOnce$Cells" 21 nk_wC 0 4 := ⟨"NeedOnce$Cells", zt_C, 16, zu_C, rfl, by decide, Or.inl zw_43⟩
theorem za_C_24 : nk_fa "NeedOnce$Cells" 24 nk_wC 0 5 := ⟨"NeedOnce$Cells", zt_C, 16, zu_C, rfl, by decide, Or.inl zw_44⟩
theorem za_C_27 : nk_fa "NeedOnce$Cells" 27 nk_wC 0 6 := ⟨"NeedOnce$Cells", zt_C, 16, zu_C, rfl, by decide, Or.inl zw_46⟩
theorem za_C_30 : nk_fa "NeedOnce$Cells" 30 nk_wC 0 7 := ⟨"NeedOnce$Cells", zt_C, 16, zu_C, rfl, by decide, Or.inl zw_47⟩
theorem za_C_33 : nk_fa "NeedOnce$Cells" 33 nk_wC 0 8 := ⟨"NeedOnce$Cells", zt_C, 16, zu_C, rfl, by decide, Or.inl zw_49⟩
theorem za_C_37 : nk_fa "NeedOnce$Cells" 37 nk_wC 0 9 := ⟨"NeedOnce$Cells", zt_C, 16, zu_C, rfl, by decide, Or.inl zw_50⟩
theorem zp_C_37 : nk_fp "NeedOnce$Cells" 37 nk_wC 0 9 .boolean := ⟨"NeedOnce$Cells", zt_C, 16, zq_C, zu_C, rfl, by decide, Or.inl zw_50, zk_C, zm_C, rfl, rfl⟩
theorem za_C_41 : nk_fa "NeedOnce$Cells" 41 nk_wC 0 15 := ⟨"NeedOnce$Cells", zt_C, 16, zu_C, rfl, by decide, Or.inl zw_61⟩
theorem za_C_47 : nk_fa "NeedOnce$Cells" 47 nk_wC 0 0 := ⟨"NeedOnce$Cells", zt_C, 16, zu_C, rfl, by decide, Or.inl zw_31⟩
theorem zp_C_47 : nk_fp "NeedOnce$Cells" 47 nk_wC 0 0 .int := ⟨"NeedOnce$Cells", zt_C, 16, zq_C, zu_C, rfl, by decide, Or.inl zw_31, zk_C, zm_C, rfl, rfl⟩
theorem zn_C_51 : Cond.fieldLinkNest "NeedOnce$Cells" 51 "NeedOnce" "HOW_MANY_PARTS" "[I" "NeedOnce" ∈ tables_1 := nk_tn 245 (by decide +kernel)
theorem za_C_60 : nk_fa "NeedOnce$Cells" 60 nk_wC 0 10 := ⟨"NeedOnce$Cells", zt_C, 16, zu_C, rfl, by decide, Or.inl zw_52⟩
theorem zp_C_60 : nk_fp "NeedOnce$Cells" 60 nk_wC 0 10 .int := ⟨"NeedOnce$Cells", zt_C, 16, zq_C, zu_C, rfl, by decide, Or.inl zw_52, zk_C, zm_C, rfl, rfl⟩
theorem za_C_81 : nk_fa "NeedOnce$Cells" 81 nk_wC 0 11 := ⟨"NeedOnce$Cells", zt_C, 16, zu_C, rfl, by decide, Or.inl zw_54⟩
theorem zp_C_81 : nk_fp "NeedOnce$Cells" 81 nk_wC 0 11 .int := ⟨"NeedOnce$Cells", zt_C, 16, zq_C, zu_C, rfl, by decide, Or.inl zw_54, zk_C, zm_C, rfl, rfl⟩
theorem za_C_84 : nk_fa "NeedOnce$Cells" 84 nk_wC 0 12 := ⟨"NeedOnce$Cells", zt_C, 16, zu_C, rfl, by decide, Or.inl zw_56⟩
theorem zp_C_84 : nk_fp "NeedOnce$Cells" 84 nk_wC 0 12 .int := ⟨"NeedOnce$Cells", zt_C, 16, zq_C, zu_C, rfl, by decide, Or.inl zw_56, zk_C, zm_C, rfl, rfl⟩
theorem za_C_87 : nk_fa "NeedOnce$Cells" 87 nk_wC 0 13 := ⟨"NeedOnce$Cells", zt_C, 16, zu_C, rfl, by decide, Or.inl zw_58⟩
theorem zp_C_87 : nk_fp "NeedOnce$Cells" 87 nk_wC 0 13 .int := ⟨"NeedOnce$Cells", zt_C, 16, zq_C, zu_C, rfl, by decide, Or.inl zw_58, zk_C, zm_C, rfl, rfl⟩
theorem za_C_90 : nk_fa "NeedOnce$Cells" 90 nk_wC 0 14 := ⟨"NeedOnce$Cells", zt_C, 16, zu_C, rfl, by decide, Or.inl zw_60⟩
theorem zp_C_90 : nk_fp "NeedOnce$Cells" 90 nk_wC 0 14 .int := ⟨"NeedOnce$Cells", zt_C, 16, zq_C, zu_C, rfl, by decide, Or.inl zw_60, zk_C, zm_C, rfl, rfl⟩
theorem za_R_9 : nk_fa "NeedOnce$Readings" 9 nk_wC 1 1 := ⟨"NeedOnce$Readings", zt_R, 3, zu_R, rfl, by decide, Or.inl zw_119⟩
theorem za_R_15 : nk_fa "NeedOnce$Readings" 15 nk_wC 1 2 := ⟨"NeedOnce$Readings", zt_R, 3, zu_R, rfl, by decide, Or.inl zw_120⟩
theorem za_R_18 : nk_fa "NeedOnce$Readings" 18 nk_wC 1 0 := ⟨"NeedOnce$Readings", zt_R, 3, zu_R, rfl, by decide, Or.inl zw_117⟩
theorem zp_R_18 : nk_fp "NeedOnce$Readings" 18 nk_wC 1 0 .int := ⟨"NeedOnce$Readings", zt_R, 3, zq_R, zu_R, rfl, by decide, Or.inl zw_117, zk_R, zm_R, rfl, rfl⟩
theorem za_S_11 : nk_fa "NeedOnce$Sheets" 11 nk_wC 2 0 := ⟨"NeedOnce$Sheets", zt_S, 3, zu_S, rfl, by decide, Or.inl zw_136⟩
theorem za_S_16 : nk_fa "NeedOnce$Sheets" 16 nk_wC 2 1 := ⟨"NeedOnce$Sheets", zt_S, 3, zu_S, rfl, by decide, Or.inl zw_137⟩
theorem za_S_20 : nk_fa "NeedOnce$Sheets" 20 nk_wC 2 2 := ⟨"NeedOnce$Sheets", zt_S, 3, zu_S, rfl, by decide, Or.inl zw_139⟩
theorem za_T_16 : nk_fa "NeedOnce$TextReader" 16 nk_wC 3 0 := ⟨"NeedOnce$TextReader", zt_T, 2, zu_T, rfl, by decide, Or.inl zw_104⟩
theorem zp_T_16 : nk_fp "NeedOnce$TextReader" 16 nk_wC 3 0 .int := ⟨"NeedOnce$TextReader", zt_T, 2, zq_T, zu_T, rfl, by decide, Or.inl zw_104, zk_T, zm_T, rfl, rfl⟩
theorem za_T_30 : nk_fa "NeedOnce$TextReader" 30 nk_wC 0 0 := ⟨"NeedOnce$Cells", zt_C, 16, zu_C, rfl, by decide, Or.inr ⟨"NeedOnce", nk_tn 32 (by decide +kernel)⟩⟩
theorem zp_T_30 : nk_fp "NeedOnce$TextReader" 30 nk_wC 0 0 .int := ⟨"NeedOnce$Cells", zt_C, 16, zq_C, zu_C, rfl, by decide, Or.inr ⟨"NeedOnce", nk_tn 32 (by decide +kernel)⟩, zk_C, zm_C, rfl, rfl⟩
theorem zn_T_46 : Cond.fieldLinkNest "NeedOnce$TextReader" 46 "NeedOnce" "KIND_LETTERS" "[C" "NeedOnce" ∈ tables_1 := nk_tn 212 (by decide +kernel)
theorem za_T_54 : nk_fa "NeedOnce$TextReader" 54 nk_wC 0 1 := ⟨"NeedOnce$Cells", zt_C, 16, zu_C, rfl, by decide, Or.inr ⟨"NeedOnce", nk_tn 36 (by decide +kernel)⟩⟩
theorem za_T_58 : nk_fa "NeedOnce$TextReader" 58 nk_wC 0 2 := ⟨"NeedOnce$Cells", zt_C, 16, zu_C, rfl, by decide, Or.inr ⟨"NeedOnce", nk_tn 39 (by decide +kernel)⟩⟩
theorem zn_T_61 : Cond.fieldLinkNest "NeedOnce$TextReader" 61 "NeedOnce" "FORM_SIGNS" "[C" "NeedOnce" ∈ tables_1 := nk_tn 225 (by decide +kernel)
theorem za_T_64 : nk_fa "NeedOnce$TextReader" 64 nk_wC 0 3 := ⟨"NeedOnce$Cells", zt_C, 16, zu_C, rfl, by decide, Or.inr ⟨"NeedOnce", nk_tn 41 (by decide +kernel)⟩⟩
theorem za_T_67 : nk_fa "NeedOnce$TextReader" 67 nk_wC 3 1 := ⟨"NeedOnce$TextReader", zt_T, 2, zu_T, rfl, by decide, Or.inl zw_105⟩
theorem zp_T_67 : nk_fp "NeedOnce$TextReader" 67 nk_wC 3 1 .int := ⟨"NeedOnce$TextReader", zt_T, 2, zq_T, zu_T, rfl, by decide, Or.inl zw_105, zk_T, zm_T, rfl, rfl⟩
theorem zn_T_74 : Cond.fieldLinkNest "NeedOnce$TextReader" 74 "NeedOnce" "HOW_MANY_PARTS" "[I" "NeedOnce" ∈ tables_1 := nk_tn 235 (by decide +kernel)
theorem za_M_7 : nk_fa "NeedOnceModel" 7 nk_wR 0 2 := ⟨"NeedOnceModel", zt_M, 49, zu_M, rfl, by decide, Or.inl zw_549⟩
theorem za_M_13 : nk_fa "NeedOnceModel" 13 nk_wR 0 3 := ⟨"NeedOnceModel", zt_M, 49, zu_M, rfl, by decide, Or.inl zw_550⟩
theorem za_M_16 : nk_fa "NeedOnceModel" 16 nk_wR 0 4 := ⟨"NeedOnceModel", zt_M, 49, zu_M, rfl, by decide, Or.inl zw_551⟩
theorem za_M_19 : nk_fa "NeedOnceModel" 19 nk_wR 0 5 := ⟨"NeedOnceModel", zt_M, 49, zu_M, rfl, by decide, Or.inl zw_552⟩
theorem za_M_22 : nk_fa "NeedOnceModel" 22 nk_wR 0 8 := ⟨"NeedOnceModel", zt_M, 49, zu_M, rfl, by decide, Or.inl zw_555⟩
theorem za_M_25 : nk_fa "NeedOnceModel" 25 nk_wR 0 9 := ⟨"NeedOnceModel", zt_M, 49, zu_M, rfl, by decide, Or.inl zw_556⟩
theorem za_M_28 : nk_fa "NeedOnceModel" 28 nk_wR 0 10 := ⟨"NeedOnceModel", zt_M, 49, zu_M, rfl, by decide, Or.inl zw_557⟩
theorem za_M_31 : nk_fa "NeedOnceModel" 31 nk_wR 0 11 := ⟨"NeedOnceModel", zt_M, 49, zu_M, rfl, by decide, Or.inl zw_558⟩
theorem za_M_34 : nk_fa "NeedOnceModel" 34 nk_wR 0 12 := ⟨"NeedOnceModel", zt_M, 49, zu_M, rfl, by decide, Or.inl zw_559⟩
theorem za_M_37 : nk_fa "NeedOnceModel" 37 nk_wR 0 13 := ⟨"NeedOnceModel", zt_M, 49, zu_M, rfl, by decide, Or.inl zw_560⟩
theorem za_M_40 : nk_fa "NeedOnceModel" 40 nk_wR 0 14 := ⟨"NeedOnceModel", zt_M, 49, zu_M, rfl, by decide, Or.inl zw_561⟩
theorem za_M_43 : nk_fa "NeedOnceModel" 43 nk_wR 0 15 := ⟨"NeedOnceModel", zt_M, 49, zu_M, rfl, by decide, Or.inl zw_562⟩
theorem za_M_46 : nk_fa "NeedOnceModel" 46 nk_wR 0 18 := ⟨"NeedOnceModel", zt_M, 49, zu_M, rfl, by decide, Or.inl zw_565⟩
theorem za_M_49 : nk_fa "NeedOnceModel" 49 nk_wR 0 19 := ⟨"NeedOnceModel", zt_M, 49, zu_M, rfl, by decide, Or.inl zw_566⟩
theorem za_M_52 : nk_fa "NeedOnceModel" 52 nk_wR 0 20 := ⟨"NeedOnceModel", zt_M, 49, zu_M, rfl, by decide, Or.inl zw_567⟩
theorem za_M_55 : nk_fa "NeedOnceModel" 55 nk_wR 0 28 := ⟨"NeedOnceModel", zt_M, 49, zu_M, rfl, by decide, Or.inl zw_575⟩
theorem za_M_58 : nk_fa "NeedOnceModel" 58 nk_wR 0 34 := ⟨"NeedOnceModel", zt_M, 49, zu_M, rfl, by decide, Or.inl zw_581⟩
theorem za_M_61 : nk_fa "NeedOnceModel" 61 nk_wR 0 35 := ⟨"NeedOnceModel", zt_M, 49, zu_M, rfl, by decide, Or.inl zw_582⟩
theorem za_M_64 : nk_fa "NeedOnceModel" 64 nk_wR 0 36 := ⟨"NeedOnceModel", zt_M, 49, zu_M, rfl, by decide, Or.inl zw_583⟩
theorem za_M_67 : nk_fa "NeedOnceModel" 67 nk_wR 0 37 := ⟨"NeedOnceModel", zt_M, 49, zu_M, rfl, by decide, Or.inl zw_584⟩
theorem za_M_70 : nk_fa "NeedOnceModel" 70 nk_wR 0 38 := ⟨"NeedOnceModel", zt_M, 49, zu_M, rfl, by decide, Or.inl zw_585⟩
theorem za_M_73 : nk_fa "NeedOnceModel" 73 nk_wR 0 39 := ⟨"NeedOnceModel", zt_M, 49, zu_M, rfl, by decide, Or.inl zw_586⟩
theorem za_M_76 : nk_fa "NeedOnceModel" 76 nk_wR 0 42 := ⟨"NeedOnceModel", zt_M, 49, zu_M, rfl, by decide, Or.inl zw_589⟩
theorem za_M_79 : nk_fa "NeedOnceModel" 79 nk_wR 0 43 := ⟨"NeedOnceModel", zt_M, 49, zu_M, rfl, by decide, Or.inl zw_590⟩
theorem za_M_82 : nk_fa "NeedOnceModel" 82 nk_wR 0 44 := ⟨"NeedOnceModel", zt_M, 49, zu_M, rfl, by decide, Or.inl zw_591⟩
theorem za_M_85 : nk_fa "NeedOnceModel" 85 nk_wR 0 45 := ⟨"NeedOnceModel", zt_M, 49, zu_M, rfl, by decide, Or.inl zw_592⟩
theorem za_M_88 : nk_fa "NeedOnceModel" 88 nk_wR 0 46 := ⟨"NeedOnceModel", zt_M, 49, zu_M, rfl, by decide, Or.inl zw_593⟩
theorem za_M_91 : nk_fa "NeedOnceModel" 91 nk_wR 0 47 := ⟨"NeedOnceModel", zt_M, 49, zu_M, rfl, by decide, Or.inl zw_594⟩
theorem za_M_96 : nk_fa "NeedOnceModel" 96 nk_wR 0 0 := ⟨"NeedOnceModel", zt_M, 49, zu_M, rfl, by decide, Or.inl zw_547⟩
theorem zp_M_96 : nk_fp "NeedOnceModel" 96 nk_wR 0 0 .int := ⟨"NeedOnceModel", zt_M, 49, zq_M, zu_M, rfl, by decide, Or.inl zw_547, zk_M, zm_M, rfl, rfl⟩
theorem za_M_104 : nk_fa "NeedOnceModel" 104 nk_wR 0 1 := ⟨"NeedOnceModel", zt_M, 49, zu_M, rfl, by decide, Or.inl zw_548⟩
theorem zp_M_104 : nk_fp "NeedOnceModel" 104 nk_wR 0 1 .int := ⟨"NeedOnceModel", zt_M, 49, zq_M, zu_M, rfl, by decide, Or.inl zw_548, zk_M, zm_M, rfl, rfl⟩
theorem za_M_111 : nk_fa "NeedOnceModel" 111 nk_wR 0 6 := ⟨"NeedOnceModel", zt_M, 49, zu_M, rfl, by decide, Or.inl zw_553⟩
theorem zp_M_111 : nk_fp "NeedOnceModel" 111 nk_wR 0 6 .int := ⟨"NeedOnceModel", zt_M, 49, zq_M, zu_M, rfl, by decide, Or.inl zw_553, zk_M, zm_M, rfl, rfl⟩
theorem za_M_122 : nk_fa "NeedOnceModel" 122 nk_wR 0 7 := ⟨"NeedOnceModel", zt_M, 49, zu_M, rfl, by decide, Or.inl zw_554⟩
theorem zp_M_122 : nk_fp "NeedOnceModel" 122 nk_wR 0 7 .int := ⟨"NeedOnceModel", zt_M, 49, zq_M, zu_M, rfl, by decide, Or.inl zw_554, zk_M, zm_M, rfl, rfl⟩
theorem za_M_166 : nk_fa "NeedOnceModel" 166 nk_wR 0 41 := ⟨"NeedOnceModel", zt_M, 49, zu_M, rfl, by decide, Or.inl zw_588⟩
theorem zp_M_166 : nk_fp "NeedOnceModel" 166 nk_wR 0 41 .int := ⟨"NeedOnceModel", zt_M, 49, zq_M, zu_M, rfl, by decide, Or.inl zw_588, zk_M, zm_M, rfl, rfl⟩
theorem za_M_169 : nk_fa "NeedOnceModel" 169 nk_wR 0 16 := ⟨"NeedOnceModel", zt_M, 49, zu_M, rfl, by decide, Or.inl zw_563⟩
theorem zp_M_169 : nk_fp "NeedOnceModel" 169 nk_wR 0 16 .int := ⟨"NeedOnceModel", zt_M, 49, zq_M, zu_M, rfl, by decide, Or.inl zw_563, zk_M, zm_M, rfl, rfl⟩
theorem za_M_172 : nk_fa "NeedOnceModel" 172 nk_wR 0 31 := ⟨"NeedOnceModel", zt_M, 49, zu_M, rfl, by decide, Or.inl zw_578⟩
theorem zp_M_172 : nk_fp "NeedOnceModel" 172 nk_wR 0 31 .int := ⟨"NeedOnceModel", zt_M, 49, zq_M, zu_M, rfl, by decide, Or.inl zw_578, zk_M, zm_M, rfl, rfl⟩
theorem za_M_175 : nk_fa "NeedOnceModel" 175 nk_wR 0 32 := ⟨"NeedOnceModel", zt_M, 49, zu_M, rfl, by decide, Or.inl zw_579⟩
theorem zp_M_175 : nk_fp "NeedOnceModel" 175 nk_wR 0 32 .int := ⟨"NeedOnceModel", zt_M, 49, zq_M, zu_M, rfl, by decide, Or.inl zw_579, zk_M, zm_M, rfl, rfl⟩
theorem za_M_178 : nk_fa "NeedOnceModel" 178 nk_wR 0 33 := ⟨"NeedOnceModel", zt_M, 49, zu_M, rfl, by decide, Or.inl zw_580⟩
theorem zp_M_178 : nk_fp "NeedOnceModel" 178 nk_wR 0 33 .int := ⟨"NeedOnceModel", zt_M, 49, zq_M, zu_M, rfl, by decide, Or.inl zw_580, zk_M, zm_M, rfl, rfl⟩
theorem za_M_184 : nk_fa "NeedOnceModel" 184 nk_wR 0 17 := ⟨"NeedOnceModel", zt_M, 49, zu_M, rfl, by decide, Or.inl zw_564⟩
theorem zp_M_184 : nk_fp "NeedOnceModel" 184 nk_wR 0 17 .int := ⟨"NeedOnceModel", zt_M, 49, zq_M, zu_M, rfl, by decide, Or.inl zw_564, zk_M, zm_M, rfl, rfl⟩
theorem za_M_187 : nk_fa "NeedOnceModel" 187 nk_wR 0 29 := ⟨"NeedOnceModel", zt_M, 49, zu_M, rfl, by decide, Or.inl zw_576⟩
theorem zp_M_187 : nk_fp "NeedOnceModel" 187 nk_wR 0 29 .boolean := ⟨"NeedOnceModel", zt_M, 49, zq_M, zu_M, rfl, by decide, Or.inl zw_576, zk_M, zm_M, rfl, rfl⟩
theorem za_M_191 : nk_fa "NeedOnceModel" 191 nk_wR 0 21 := ⟨"NeedOnceModel", zt_M, 49, zu_M, rfl, by decide, Or.inl zw_568⟩
theorem zp_M_191 : nk_fp "NeedOnceModel" 191 nk_wR 0 21 .int := ⟨"NeedOnceModel", zt_M, 49, zq_M, zu_M, rfl, by decide, Or.inl zw_568, zk_M, zm_M, rfl, rfl⟩
theorem za_M_194 : nk_fa "NeedOnceModel" 194 nk_wR 0 22 := ⟨"NeedOnceModel", zt_M, 49, zu_M, rfl, by decide, Or.inl zw_569⟩
theorem zp_M_194 : nk_fp "NeedOnceModel" 194 nk_wR 0 22 .int := ⟨"NeedOnceModel", zt_M, 49, zq_M, zu_M, rfl, by decide, Or.inl zw_569, zk_M, zm_M, rfl, rfl⟩
theorem za_M_197 : nk_fa "NeedOnceModel" 197 nk_wR 0 23 := ⟨"NeedOnceModel", zt_M, 49, zu_M, rfl, by decide, Or.inl zw_570⟩
theorem zp_M_197 : nk_fp "NeedOnceModel" 197 nk_wR 0 23 .int := ⟨"NeedOnceModel", zt_M, 49, zq_M, zu_M, rfl, by decide, Or.inl zw_570, zk_M, zm_M, rfl, rfl⟩
theorem za_M_203 : nk_fa "NeedOnceModel" 203 nk_wR 0 30 := ⟨"NeedOnceModel", zt_M, 49, zu_M, rfl, by decide, Or.inl zw_577⟩
theorem zp_M_203 : nk_fp "NeedOnceModel" 203 nk_wR 0 30 .boolean := ⟨"NeedOnceModel", zt_M, 49, zq_M, zu_M, rfl, by decide, Or.inl zw_577, zk_M, zm_M, rfl, rfl⟩
theorem za_M_206 : nk_fa "NeedOnceModel" 206 nk_wR 0 24 := ⟨"NeedOnceModel", zt_M, 49, zu_M, rfl, by decide, Or.inl zw_571⟩
theorem zp_M_206 : nk_fp "NeedOnceModel" 206 nk_wR 0 24 .int := ⟨"NeedOnceModel", zt_M, 49, zq_M, zu_M, rfl, by decide, Or.inl zw_571, zk_M, zm_M, rfl, rfl⟩
theorem za_M_209 : nk_fa "NeedOnceModel" 209 nk_wR 0 25 := ⟨"NeedOnceModel", zt_M, 49, zu_M, rfl, by decide, Or.inl zw_572⟩
theorem zp_M_209 : nk_fp "NeedOnceModel" 209 nk_wR 0 25 .int := ⟨"NeedOnceModel", zt_M, 49, zq_M, zu_M, rfl, by decide, Or.inl zw_572, zk_M, zm_M, rfl, rfl⟩
theorem za_M_212 : nk_fa "NeedOnceModel" 212 nk_wR 0 26 := ⟨"NeedOnceModel", zt_M, 49, zu_M, rfl, by decide, Or.inl zw_573⟩
theorem zp_M_212 : nk_fp "NeedOnceModel" 212 nk_wR 0 26 .int := ⟨"NeedOnceModel", zt_M, 49, zq_M, zu_M, rfl, by decide, Or.inl zw_573, zk_M, zm_M, rfl, rfl⟩
theorem za_M_218 : nk_fa "NeedOnceModel" 218 nk_wR 0 27 := ⟨"NeedOnceModel", zt_M, 49, zu_M, rfl, by decide, Or.inl zw_574⟩
theorem zp_M_218 : nk_fp "NeedOnceModel" 218 nk_wR 0 27 .int := ⟨"NeedOnceModel", zt_M, 49, zq_M, zu_M, rfl, by decide, Or.inl zw_574, zk_M, zm_M, rfl, rfl⟩
theorem za_M_273 : nk_fa "NeedOnceModel" 273 nk_wR 0 40 := ⟨"NeedOnceModel", zt_M, 49, zu_M, rfl, by decide, Or.inl zw_587⟩
theorem zp_M_273 : nk_fp "NeedOnceModel" 273 nk_wR 0 40 .int := ⟨"NeedOnceModel", zt_M, 49, zq_M, zu_M, rfl, by decide, Or.inl zw_587, zk_M, zm_M, rfl, rfl⟩
theorem za_M_330 : nk_fa "NeedOnceModel" 330 nk_wR 0 48 := ⟨"NeedOnceModel", zt_M, 49, zu_M, rfl, by decide, Or.inl zw_595⟩
theorem zp_M_330 : nk_fp "NeedOnceModel" 330 nk_wR 0 48 .int := ⟨"NeedOnceModel", zt_M, 49, zq_M, zu_M, rfl, by decide, Or.inl zw_595, zk_M, zm_M, rfl, rfl⟩
theorem zv_N_46 : nk_cV "NeedOnce" 46 zy_S_has zb_S_has 2 (some .boolean) 1 := ⟨⟨zw_176, zw_6, ⟨by decide, by decide, by decide +kernel⟩, by decide, Or.inr ⟨"NeedOnce", nk_tn 173 (by decide +kernel)⟩⟩, zw_175, nk_tp (q := (zy_S_has, 3)) 1 (by decide +kernel)⟩
theorem zv_N_50 : nk_cS "NeedOnce" 50 zy_N_isLane zb_N_isLane 1 (some .boolean) 1 := ⟨⟨zw_179, zw_1, ⟨by decide, by decide, by decide +kernel⟩, by decide, Or.inl zw_177⟩, zw_178⟩
theorem zv_N_53 : nk_cV "NeedOnce" 53 zy_S_rangeFault zb_S_rangeFault 5 (some .int) 4 := ⟨⟨zw_183, zw_6, ⟨by decide, by decide, by decide +kernel⟩, by decide, Or.inr ⟨"NeedOnce", nk_tn 180 (by decide +kernel)⟩⟩, zw_182, nk_tp (q := (zy_S_rangeFault, 3)) 2 (by decide +kernel)⟩
theorem zv_N_57 : nk_cV "NeedOnce" 57 zy_N_faulted zb_N_faulted 2 (some .int) 1 := ⟨⟨zw_191, zw_1, ⟨by decide, by decide, by decide +kernel⟩, by decide, Or.inl zw_188⟩, zw_190, nk_tp (q := (zy_N_faulted, 7)) 4 (by decide +kernel)⟩
theorem zv_N_61 : nk_cV "NeedOnce" 61 zy_T_readInto zb_T_readInto 7 (some .int) 5 := ⟨⟨zw_195, zw_4, ⟨by decide, by decide, by decide +kernel⟩, by decide, Or.inr ⟨"NeedOnce", nk_tn 192 (by decide +kernel)⟩⟩, zw_194, nk_tp (q := (zy_T_readInto, 2)) 5 (by decide +kernel)⟩
theorem zv_N_65 : nk_cV "NeedOnce" 65 zy_C_firstLoose zb_C_firstLoose 2 (some .int) 0 := ⟨⟨zw_240, zw_2, ⟨by decide, by decide, by decide +kernel⟩, by decide, Or.inr ⟨"NeedOnce", nk_tn 237 (by decide +kernel)⟩⟩, zw_239, nk_tp (q := (zy_C_firstLoose, 16)) 14 (by decide +kernel)⟩
theorem zv_N_69 : nk_cV "NeedOnce" 69 zy_C_becomeLike zb_C_becomeLike 2 none 1 := ⟨⟨zw_253, zw_2, ⟨by decide, by decide, by decide +kernel⟩, by decide, Or.inr ⟨"NeedOnce", nk_tn 250 (by decide +kernel)⟩⟩, zw_252, nk_tp (q := (zy_C_becomeLike, 16)) 17 (by decide +kernel)⟩
theorem zv_N_73 : nk_cV "NeedOnce" 73 zy_C_startLatest zb_C_startLatest 1 none 0 := ⟨⟨zw_260, zw_2, ⟨by decide, by decide, by decide +kernel⟩, by decide, Or.inr ⟨"NeedOnce", nk_tn 257 (by decide +kernel)⟩⟩, zw_259, nk_tp (q := (zy_C_startLatest, 16)) 18 (by decide +kernel)⟩
theorem zv_N_80 : nk_cV "NeedOnce" 80 zy_C_has zb_C_has 2 (some .boolean) 1 := ⟨⟨zw_268, zw_2, ⟨by decide, by decide, by decide +kernel⟩, by decide, Or.inr ⟨"NeedOnce", nk_tn 265 (by decide +kernel)⟩⟩, zw_267, nk_tp (q := (zy_C_has, 16)) 19 (by decide +kernel)⟩
theorem zv_N_88 : nk_cV "NeedOnce" 88 zy_C_costOf zb_C_costOf 2 (some .int) 1 := ⟨⟨zw_272, zw_2, ⟨by decide, by decide, by decide +kernel⟩, by decide, Or.inr ⟨"NeedOnce", nk_tn 269 (by decide +kernel)⟩⟩, zw_271, nk_tp (q := (zy_C_costOf, 16)) 20 (by decide +kernel)⟩
theorem zv_N_91 : nk_cV "NeedOnce" 91 zy_C_formNow zb_C_formNow 2 (some .int) 1 := ⟨⟨zw_276, zw_2, ⟨by decide, by decide, by decide +kernel⟩, by decide, Or.inr ⟨"NeedOnce", nk_tn 273 (by decide +kernel)⟩⟩, zw_275, nk_tp (q := (zy_C_formNow, 16)) 21 (by decide +kernel)⟩
theorem zv_N_94 : nk_cV "NeedOnce" 94 zy_C_isAwake zb_C_isAwake 2 (some .boolean) 1 := ⟨⟨zw_280, zw_2, ⟨by decide, by decide, by decide +kernel⟩, by decide, Or.inr ⟨"NeedOnce", nk_tn 277 (by decide +kernel)⟩⟩, zw_279, nk_tp (q := (zy_C_isAwake, 16)) 22 (by decide +kernel)⟩
theorem zv_N_103 : nk_cV "NeedOnce" 103 zy_C_partAsTold zb_C_partAsTold 3 (some .int) 2 := ⟨⟨zw_249, zw_2, ⟨by decide, by decide, by decide +kernel⟩, by decide, Or.inr ⟨"NeedOnce", nk_tn 281 (by decide +kernel)⟩⟩, zw_248, nk_tp (q := (zy_C_partAsTold, 16)) 16 (by decide +kernel)⟩
theorem zv_N_107 : nk_cV "NeedOnce" 107 zy_C_needAnew zb_C_needAnew 2 (some .int) 1 := ⟨⟨zw_293, zw_2, ⟨by decide, by decide, by decide +kernel⟩, by decide, Or.inr ⟨"NeedOnce", nk_tn 290 (by decide +kernel)⟩⟩, zw_292, nk_tp (q := (zy_C_needAnew, 16)) 23 (by decide +kernel)⟩
theorem zv_N_128 : nk_cV "NeedOnce" 128 zy_C_howManyAwake zb_C_howManyAwake 3 (some .int) 0 := ⟨⟨zw_356, zw_2, ⟨by decide, by decide, by decide +kernel⟩, by decide, Or.inr ⟨"NeedOnce", nk_tn 353 (by decide +kernel)⟩⟩, zw_355, nk_tp (q := (zy_C_howManyAwake, 16)) 34 (by decide +kernel)⟩
theorem zv_N_131 : nk_cV "NeedOnce" 131 zy_C_putToSleep zb_C_putToSleep 1 none 0 := ⟨⟨zw_27, zw_2, ⟨by decide, by decide, by decide +kernel⟩, by decide, Or.inr ⟨"NeedOnce", nk_tn 357 (by decide +kernel)⟩⟩, zw_26, nk_tp (q := (zy_C_putToSleep, 16)) 0 (by decide +kernel)⟩
theorem zv_N_134 : nk_cV "NeedOnce" 134 zy_C_makeLinks zb_C_makeLinks 3 (some .int) 0 := ⟨⟨zw_365, zw_2, ⟨by decide, by decide, by decide +kernel⟩, by decide, Or.inr ⟨"NeedOnce", nk_tn 362 (by decide +kernel)⟩⟩, zw_364, nk_tp (q := (zy_C_makeLinks, 16)) 35 (by decide +kernel)⟩
theorem zv_N_137 : nk_cV "NeedOnce" 137 zy_C_heldBy zb_C_heldBy 6 (some .int) 1 := ⟨⟨zw_377, zw_2, ⟨by decide, by decide, by decide +kernel⟩, by decide, Or.inr ⟨"NeedOnce", nk_tn 374 (by decide +kernel)⟩⟩, zw_376, nk_tp (q := (zy_C_heldBy, 16)) 37 (by decide +kernel)⟩
theorem zv_N_140 : nk_cV "NeedOnce" 140 zy_C_timesPlainly zb_C_timesPlainly 3 (some .int) 1 := ⟨⟨zw_389, zw_2, ⟨by decide, by decide, by decide +kernel⟩, by decide, Or.inr ⟨"NeedOnce", nk_tn 386 (by decide +kernel)⟩⟩, zw_388, nk_tp (q := (zy_C_timesPlainly, 16)) 39 (by decide +kernel)⟩
theorem zv_N_143 : nk_cS "NeedOnce" 143 zy_N_isOfDay zb_N_isOfDay 1 (some .boolean) 1 := ⟨⟨zw_397, zw_1, ⟨by decide, by decide, by decide +kernel⟩, by decide, Or.inl zw_395⟩, zw_396⟩
theorem zv_N_146 : nk_cV "NeedOnce" 146 zy_N_areActs zb_N_areActs 6 (some .boolean) 3 := ⟨⟨zw_401, zw_1, ⟨by decide, by decide, by decide +kernel⟩, by decide, Or.inl zw_398⟩, zw_400, nk_tp (q := (zy_N_areActs, 7)) 40 (by decide +kernel)⟩
theorem zv_N_150 : nk_cV "NeedOnce" 150 zy_N_doActs zb_N_doActs 6 (some .int) 3 := ⟨⟨zw_409, zw_1, ⟨by decide, by decide, by decide +kernel⟩, by decide, Or.inl zw_406⟩, zw_408, nk_tp (q := (zy_N_doActs, 7)) 41 (by decide +kernel)⟩
theorem zv_N_154 : nk_cV "NeedOnce" 154 zy_N_afterDay zb_N_afterDay 2 (some .int) 1 := ⟨⟨zw_417, zw_1, ⟨by decide, by decide, by decide +kernel⟩, by decide, Or.inl zw_414⟩, zw_416, nk_tp (q := (zy_N_afterDay, 7)) 43 (by decide +kernel)⟩
theorem zv_N_157 : nk_cV "NeedOnce" 157 zy_S_at zb_S_at 3 (some .int) 2 := ⟨⟨zw_203, zw_6, ⟨by decide, by decide, by decide +kernel⟩, by decide, Or.inr ⟨"NeedOnce", nk_tn 402 (by decide +kernel)⟩⟩, zw_202, nk_tp (q := (zy_S_at, 3)) 7 (by decide +kernel)⟩
theorem zv_N_160 : nk_cS "NeedOnce" 160 zy_N_isAct zb_N_isAct 3 (some .boolean) 2 := ⟨⟨zw_405, zw_1, ⟨by decide, by decide, by decide +kernel⟩, by decide, Or.inl zw_403⟩, zw_404⟩
theorem zv_N_164 : nk_cV "NeedOnce" 164 zy_N_canDo zb_N_canDo 5 (some .boolean) 2 := ⟨⟨zw_413, zw_1, ⟨by decide, by decide, by decide +kernel⟩, by decide, Or.inl zw_410⟩, zw_412, nk_tp (q := (zy_N_canDo, 7)) 42 (by decide +kernel)⟩
theorem zv_N_167 : nk_cV "NeedOnce" 167 zy_C_howManyLinks zb_C_howManyLinks 3 (some .int) 0 := ⟨⟨zw_421, zw_2, ⟨by decide, by decide, by decide +kernel⟩, by decide, Or.inr ⟨"NeedOnce", nk_tn 418 (by decide +kernel)⟩⟩, zw_420, nk_tp (q := (zy_C_howManyLinks, 16)) 44 (by decide +kernel)⟩
theorem zv_N_170 : nk_cV "NeedOnce" 170 zy_R_add zb_R_add 3 (some .int) 2 := ⟨⟨zw_429, zw_5, ⟨by decide, by decide, by decide +kernel⟩, by decide, Or.inr ⟨"NeedOnce", nk_tn 426 (by decide +kernel)⟩⟩, zw_428, nk_tp (q := (zy_R_add, 3)) 45 (by decide +kernel)⟩
theorem zv_N_173 : nk_cV "NeedOnce" 173 zy_R_areSo zb_R_areSo 3 (some .boolean) 1 := ⟨⟨zw_441, zw_5, ⟨by decide, by decide, by decide +kernel⟩, by decide, Or.inr ⟨"NeedOnce", nk_tn 438 (by decide +kernel)⟩⟩, zw_440, nk_tp (q := (zy_R_areSo, 3)) 46 (by decide +kernel)⟩
theorem zv_N_182 : nk_cV "NeedOnce" 182 zy_N_timesItComesTo zb_N_timesItComesTo 6 (some .int) 3 := ⟨⟨zw_458, zw_1, ⟨by decide, by decide, by decide +kernel⟩, by decide, Or.inl zw_455⟩, zw_457, nk_tp (q := (zy_N_timesItComesTo, 7)) 48 (by decide +kernel)⟩
theorem zv_N_185 : nk_cS "NeedOnce" 185 zy_N_commonWithTen zb_N_commonWithTen 3 (some .int) 1 := ⟨⟨zw_462, zw_1, ⟨by decide, by decide, by decide +kernel⟩, by decide, Or.inl zw_460⟩, zw_461⟩
theorem zv_N_188 : nk_cV "NeedOnce" 188 zy_C_tellPart zb_C_tellPart 4 none 3 := ⟨⟨zw_234, zw_2, ⟨by decide, by decide, by decide +kernel⟩, by decide, Or.inr ⟨"NeedOnce", nk_tn 459 (by decide +kernel)⟩⟩, zw_233, nk_tp (q := (zy_C_tellPart, 16)) 13 (by decide +kernel)⟩
theorem zv_N_192 : nk_cV "NeedOnce" 192 zy_S_makeRow zb_S_makeRow 4 none 3 := ⟨⟨zw_470, zw_6, ⟨by decide, by decide, by decide +kernel⟩, by decide, Or.inr ⟨"NeedOnce", nk_tn 467 (by decide +kernel)⟩⟩, zw_469, nk_tp (q := (zy_S_makeRow, 3)) 49 (by decide +kernel)⟩
theorem zv_N_198 : nk_cV "NeedOnce" 198 zy_S_setCut zb_S_setCut 4 none 3 := ⟨⟨zw_483, zw_6, ⟨by decide, by decide, by decide +kernel⟩, by decide, Or.inr ⟨"NeedOnce", nk_tn 480 (by decide +kernel)⟩⟩, zw_482, nk_tp (q := (zy_S_setCut, 3)) 50 (by decide +kernel)⟩
theorem zv_N_201 : nk_cV "NeedOnce" 201 zy_S_moveFault zb_S_moveFault 6 (some .int) 5 := ⟨⟨zw_495, zw_6, ⟨by decide, by decide, by decide +kernel⟩, by decide, Or.inr ⟨"NeedOnce", nk_tn 492 (by decide +kernel)⟩⟩, zw_494, nk_tp (q := (zy_S_moveFault, 3)) 51 (by decide +kernel)⟩
theorem zv_N_205 : nk_cV "NeedOnce" 205 zy_S_move zb_S_move 6 none 5 := ⟨⟨zw_499, zw_6, ⟨by decide, by decide, by decide +kernel⟩, by decide, Or.inr ⟨"NeedOnce", nk_tn 496 (by decide +kernel)⟩⟩, zw_498, nk_tp (q := (zy_S_move, 3)) 52 (by decide +kernel)⟩
theorem zv_N_209 : nk_cV "NeedOnce" 209 zy_N_tellDouble zb_N_tellDouble 3 (some .int) 1 := ⟨⟨zw_508, zw_1, ⟨by decide, by decide, by decide +kernel⟩, by decide, Or.inl zw_505⟩, zw_507, nk_tp (q := (zy_N_tellDouble, 7)) 53 (by decide +kernel)⟩
theorem zv_N_212 : nk_cV "NeedOnce" 212 zy_N_tellDear zb_N_tellDear 2 (some .int) 1 := ⟨⟨zw_516, zw_1, ⟨by decide, by decide, by decide +kernel⟩, by decide, Or.inl zw_513⟩, zw_515, nk_tp (q := (zy_N_tellDear, 7)) 55 (by decide +kernel)⟩
theorem zv_N_215 : nk_cV "NeedOnce" 215 zy_N_tellPlain zb_N_tellPlain 2 (some .int) 1 := ⟨⟨zw_520, zw_1, ⟨by decide, by decide, by decide +kernel⟩, by decide, Or.inl zw_517⟩, zw_519, nk_tp (q := (zy_N_tellPlain, 7)) 56 (by decide +kernel)⟩
theorem zv_N_218 : nk_cV "NeedOnce" 218 zy_N_leaveTrace zb_N_leaveTrace 2 none 1 := ⟨⟨zw_512, zw_1, ⟨by decide, by decide, by decide +kernel⟩, by decide, Or.inl zw_509⟩, zw_511, nk_tp (q := (zy_N_leaveTrace, 7)) 54 (by decide +kernel)⟩
theorem zv_C_44 : nk_cV "NeedOnce$Cells" 44 zy_C_putToSleep zb_C_putToSleep 1 none 0 := ⟨⟨zw_27, zw_2, ⟨by decide, by decide, by decide +kernel⟩, by decide, Or.inl zw_24⟩, zw_26, nk_tp (q := (zy_C_putToSleep, 16)) 0 (by decide +kernel)⟩
theorem zv_C_63 : nk_cV "NeedOnce$Cells" 63 zy_C_partSet zb_C_partSet 4 (some .int) 1 := ⟨⟨zw_244, zw_2, ⟨by decide, by decide, by decide +kernel⟩, by decide, Or.inl zw_241⟩, zw_243, nk_tp (q := (zy_C_partSet, 16)) 15 (by decide +kernel)⟩
theorem zv_C_67 : nk_cV "NeedOnce$Cells" 67 zy_C_partAsTold zb_C_partAsTold 3 (some .int) 2 := ⟨⟨zw_249, zw_2, ⟨by decide, by decide, by decide +kernel⟩, by decide, Or.inl zw_246⟩, zw_248, nk_tp (q := (zy_C_partAsTold, 16)) 16 (by decide +kernel)⟩
theorem zv_C_71 : nk_cS "NeedOnce$Cells" 71 zy_J_fill zb_J_fill 4 none 2 := ⟨⟨zw_30, zw_3, ⟨by decide, by decide, by decide +kernel⟩, by decide, Or.inl zw_28⟩, zw_29⟩
theorem zv_C_77 : nk_cV "NeedOnce$Cells" 77 zy_C_isAwake zb_C_isAwake 2 (some .boolean) 1 := ⟨⟨zw_280, zw_2, ⟨by decide, by decide, by decide +kernel⟩, by decide, Or.inl zw_299⟩, zw_279, nk_tp (q := (zy_C_isAwake, 16)) 22 (by decide +kernel)⟩
theorem zv_C_93 : nk_cV "NeedOnce$Cells" 93 zy_C_startLatest zb_C_startLatest 1 none 0 := ⟨⟨zw_260, zw_2, ⟨by decide, by decide, by decide +kernel⟩, by decide, Or.inl zw_294⟩, zw_259, nk_tp (q := (zy_C_startLatest, 16)) 18 (by decide +kernel)⟩
theorem zv_C_96 : nk_cV "NeedOnce$Cells" 96 zy_C_comeTo zb_C_comeTo 4 (some .int) 2 := ⟨⟨zw_298, zw_2, ⟨by decide, by decide, by decide +kernel⟩, by decide, Or.inl zw_295⟩, zw_297, nk_tp (q := (zy_C_comeTo, 16)) 24 (by decide +kernel)⟩
theorem zv_C_104 : nk_cV "NeedOnce$Cells" 104 zy_C_payFor zb_C_payFor 2 none 1 := ⟨⟨zw_306, zw_2, ⟨by decide, by decide, by decide +kernel⟩, by decide, Or.inl zw_303⟩, zw_305, nk_tp (q := (zy_C_payFor, 16)) 25 (by decide +kernel)⟩
theorem zv_C_108 : nk_cV "NeedOnce$Cells" 108 zy_C_workOut zb_C_workOut 3 (some .int) 2 := ⟨⟨zw_311, zw_2, ⟨by decide, by decide, by decide +kernel⟩, by decide, Or.inl zw_308⟩, zw_310, nk_tp (q := (zy_C_workOut, 16)) 26 (by decide +kernel)⟩
theorem zv_C_111 : nk_cV "NeedOnce$Cells" 111 zy_C_keep zb_C_keep 3 none 2 := ⟨⟨zw_340, zw_2, ⟨by decide, by decide, by decide +kernel⟩, by decide, Or.inl zw_337⟩, zw_339, nk_tp (q := (zy_C_keep, 16)) 33 (by decide +kernel)⟩
theorem zv_C_115 : nk_cV "NeedOnce$Cells" 115 zy_C_costOf zb_C_costOf 2 (some .int) 1 := ⟨⟨zw_272, zw_2, ⟨by decide, by decide, by decide +kernel⟩, by decide, Or.inl zw_307⟩, zw_271, nk_tp (q := (zy_C_costOf, 16)) 20 (by decide +kernel)⟩
theorem zv_C_118 : nk_cV "NeedOnce$Cells" 118 zy_C_formNow zb_C_formNow 2 (some .int) 1 := ⟨⟨zw_276, zw_2, ⟨by decide, by decide, by decide +kernel⟩, by decide, Or.inl zw_312⟩, zw_275, nk_tp (q := (zy_C_formNow, 16)) 21 (by decide +kernel)⟩
theorem zv_C_121 : nk_cV "NeedOnce$Cells" 121 zy_C_workOutBoth zb_C_workOutBoth 5 (some .int) 2 := ⟨⟨zw_316, zw_2, ⟨by decide, by decide, by decide +kernel⟩, by decide, Or.inl zw_313⟩, zw_315, nk_tp (q := (zy_C_workOutBoth, 16)) 27 (by decide +kernel)⟩
theorem zv_C_124 : nk_cV "NeedOnce$Cells" 124 zy_C_workOutChoice zb_C_workOutChoice 4 (some .int) 2 := ⟨⟨zw_324, zw_2, ⟨by decide, by decide, by decide +kernel⟩, by decide, Or.inl zw_321⟩, zw_323, nk_tp (q := (zy_C_workOutChoice, 16)) 29 (by decide +kernel)⟩
theorem zv_C_127 : nk_cV "NeedOnce$Cells" 127 zy_C_workOutOfPair zb_C_workOutOfPair 5 (some .int) 2 := ⟨⟨zw_332, zw_2, ⟨by decide, by decide, by decide +kernel⟩, by decide, Or.inl zw_329⟩, zw_331, nk_tp (q := (zy_C_workOutOfPair, 16)) 31 (by decide +kernel)⟩
theorem zv_C_130 : nk_cV "NeedOnce$Cells" 130 zy_C_passOn zb_C_passOn 5 (some .int) 3 := ⟨⟨zw_328, zw_2, ⟨by decide, by decide, by decide +kernel⟩, by decide, Or.inl zw_325⟩, zw_327, nk_tp (q := (zy_C_passOn, 16)) 30 (by decide +kernel)⟩
theorem zv_C_134 : nk_cV "NeedOnce$Cells" 134 zy_C_comeToNumber zb_C_comeToNumber 4 (some .int) 2 := ⟨⟨zw_320, zw_2, ⟨by decide, by decide, by decide +kernel⟩, by decide, Or.inl zw_317⟩, zw_319, nk_tp (q := (zy_C_comeToNumber, 16)) 28 (by decide +kernel)⟩
theorem zv_C_137 : nk_cV "NeedOnce$Cells" 137 zy_C_partOfPair zb_C_partOfPair 3 (some .int) 2 := ⟨⟨zw_336, zw_2, ⟨by decide, by decide, by decide +kernel⟩, by decide, Or.inl zw_333⟩, zw_335, nk_tp (q := (zy_C_partOfPair, 16)) 32 (by decide +kernel)⟩
theorem zv_C_140 : nk_cV "NeedOnce$Cells" 140 zy_C_canBeLink zb_C_canBeLink 3 (some .boolean) 1 := ⟨⟨zw_369, zw_2, ⟨by decide, by decide, by decide +kernel⟩, by decide, Or.inl zw_366⟩, zw_368, nk_tp (q := (zy_C_canBeLink, 16)) 36 (by decide +kernel)⟩
theorem zv_C_143 : nk_cV "NeedOnce$Cells" 143 zy_C_heldDirectly zb_C_heldDirectly 2 (some .int) 1 := ⟨⟨zw_381, zw_2, ⟨by decide, by decide, by decide +kernel⟩, by decide, Or.inl zw_378⟩, zw_380, nk_tp (q := (zy_C_heldDirectly, 16)) 38 (by decide +kernel)⟩
theorem zv_C_146 : nk_cV "NeedOnce$Cells" 146 zy_C_needAnew zb_C_needAnew 2 (some .int) 1 := ⟨⟨zw_293, zw_2, ⟨by decide, by decide, by decide +kernel⟩, by decide, Or.inl zw_390⟩, zw_292, nk_tp (q := (zy_C_needAnew, 16)) 23 (by decide +kernel)⟩
theorem zv_R_22 : nk_cV "NeedOnce$Readings" 22 zy_C_costFromAsleep zb_C_costFromAsleep 2 (some .int) 1 := ⟨⟨zw_445, zw_2, ⟨by decide, by decide, by decide +kernel⟩, by decide, Or.inr ⟨"NeedOnce", nk_tn 442 (by decide +kernel)⟩⟩, zw_444, nk_tp (q := (zy_C_costFromAsleep, 16)) 47 (by decide +kernel)⟩
theorem zv_S_23 : nk_cS "NeedOnce$Sheets" 23 zy_J_fill zb_J_fill 4 none 2 := ⟨⟨zw_30, zw_3, ⟨by decide, by decide, by decide +kernel⟩, by decide, Or.inl zw_471⟩, zw_29⟩
theorem zv_S_29 : nk_cV "NeedOnce$Sheets" 29 zy_S_isRange zb_S_isRange 4 (some .boolean) 3 := ⟨⟨zw_187, zw_6, ⟨by decide, by decide, by decide +kernel⟩, by decide, Or.inl zw_184⟩, zw_186, nk_tp (q := (zy_S_isRange, 3)) 3 (by decide +kernel)⟩
theorem zv_T_9 : nk_cV "NeedOnce$TextReader" 9 zy_C_forgetAll zb_C_forgetAll 1 none 0 := ⟨⟨zw_199, zw_2, ⟨by decide, by decide, by decide +kernel⟩, by decide, Or.inr ⟨"NeedOnce", nk_tn 196 (by decide +kernel)⟩⟩, zw_198, nk_tp (q := (zy_C_forgetAll, 16)) 6 (by decide +kernel)⟩
theorem zv_T_20 : nk_cV "NeedOnce$TextReader" 20 zy_S_at zb_S_at 3 (some .int) 2 := ⟨⟨zw_203, zw_6, ⟨by decide, by decide, by decide +kernel⟩, by decide, Or.inr ⟨"NeedOnce", nk_tn 200 (by decide +kernel)⟩⟩, zw_202, nk_tp (q := (zy_S_at, 3)) 7 (by decide +kernel)⟩
theorem zv_T_26 : nk_cV "NeedOnce$TextReader" 26 zy_T_goesOn zb_T_goesOn 4 (some .boolean) 2 := ⟨⟨zw_207, zw_4, ⟨by decide, by decide, by decide +kernel⟩, by decide, Or.inl zw_204⟩, zw_206, nk_tp (q := (zy_T_goesOn, 2)) 8 (by decide +kernel)⟩
theorem zv_T_33 : nk_cV "NeedOnce$TextReader" 33 zy_T_takesKind zb_T_takesKind 5 (some .boolean) 3 := ⟨⟨zw_211, zw_4, ⟨by decide, by decide, by decide +kernel⟩, by decide, Or.inl zw_208⟩, zw_210, nk_tp (q := (zy_T_takesKind, 2)) 9 (by decide +kernel)⟩
theorem zv_T_37 : nk_cV "NeedOnce$TextReader" 37 zy_T_takesPrice zb_T_takesPrice 4 (some .boolean) 3 := ⟨⟨zw_220, zw_4, ⟨by decide, by decide, by decide +kernel⟩, by decide, Or.inl zw_217⟩, zw_219, nk_tp (q := (zy_T_takesPrice, 2)) 10 (by decide +kernel)⟩
theorem zv_T_40 : nk_cV "NeedOnce$TextReader" 40 zy_T_takesSign zb_T_takesSign 5 (some .boolean) 3 := ⟨⟨zw_224, zw_4, ⟨by decide, by decide, by decide +kernel⟩, by decide, Or.inl zw_221⟩, zw_223, nk_tp (q := (zy_T_takesSign, 2)) 11 (by decide +kernel)⟩
theorem zv_T_43 : nk_cV "NeedOnce$TextReader" 43 zy_T_takesPart zb_T_takesPart 5 (some .boolean) 3 := ⟨⟨zw_230, zw_4, ⟨by decide, by decide, by decide +kernel⟩, by decide, Or.inl zw_227⟩, zw_229, nk_tp (q := (zy_T_takesPart, 2)) 12 (by decide +kernel)⟩
theorem zv_T_50 : nk_cS "NeedOnce$TextReader" 50 zy_T_placeIn zb_T_placeIn 3 (some .int) 2 := ⟨⟨zw_216, zw_4, ⟨by decide, by decide, by decide +kernel⟩, by decide, Or.inl zw_214⟩, zw_215⟩
theorem zv_T_70 : nk_cV "NeedOnce$TextReader" 70 zy_C_tellPart zb_C_tellPart 4 none 3 := ⟨⟨zw_234, zw_2, ⟨by decide, by decide, by decide +kernel⟩, by decide, Or.inr ⟨"NeedOnce", nk_tn 231 (by decide +kernel)⟩⟩, zw_233, nk_tp (q := (zy_C_tellPart, 16)) 13 (by decide +kernel)⟩
theorem zv_M_100 : nk_cS "NeedOnceModel" 100 zy_M_lost zb_M_lost 0 (some .long) 0 := ⟨⟨zw_918, zw_7, ⟨by decide, by decide, by decide +kernel⟩, by decide, Or.inl zw_916⟩, zw_917⟩
theorem zv_M_107 : nk_cS "NeedOnceModel" 107 zy_M_in zb_M_in 6 (some .boolean) 3 := ⟨⟨zw_705, zw_7, ⟨by decide, by decide, by decide +kernel⟩, by decide, Or.inl zw_703⟩, zw_704⟩
theorem zv_M_114 : nk_cV "NeedOnceModel" 114 zy_M_codeAt zb_M_codeAt 3 (some .int) 2 := ⟨⟨zw_729, zw_7, ⟨by decide, by decide, by decide +kernel⟩, by decide, Or.inl zw_726⟩, zw_728, nk_tp (q := (zy_M_codeAt, 49)) 61 (by decide +kernel)⟩
theorem zv_M_118 : nk_cS "NeedOnceModel" 118 zy_M_formBy zb_M_formBy 1 (some .int) 1 := ⟨⟨zw_741, zw_7, ⟨by decide, by decide, by decide +kernel⟩, by decide, Or.inl zw_739⟩, zw_740⟩
theorem zv_M_125 : nk_cS "NeedOnceModel" 125 zy_M_partsOf zb_M_partsOf 1 (some .int) 1 := ⟨⟨zw_744, zw_7, ⟨by decide, by decide, by decide +kernel⟩, by decide, Or.inl zw_742⟩, zw_743⟩
theorem zv_M_132 : nk_cV "NeedOnceModel" 132 zy_M_readsForm zb_M_readsForm 6 (some .boolean) 2 := ⟨⟨zw_738, zw_7, ⟨by decide, by decide, by decide +kernel⟩, by decide, Or.inl zw_735⟩, zw_737, nk_tp (q := (zy_M_readsForm, 49)) 63 (by decide +kernel)⟩
theorem zv_M_136 : nk_cV "NeedOnceModel" 136 zy_M_readsCell zb_M_readsCell 6 (some .boolean) 2 := ⟨⟨zw_733, zw_7, ⟨by decide, by decide, by decide +kernel⟩, by decide, Or.inl zw_730⟩, zw_732, nk_tp (q := (zy_M_readsCell, 49)) 62 (by decide +kernel)⟩
theorem zv_M_139 : nk_cV "NeedOnceModel" 139 zy_M_failed zb_M_failed 2 (some .int) 1 := ⟨⟨zw_718, zw_7, ⟨by decide, by decide, by decide +kernel⟩, by decide, Or.inl zw_715⟩, zw_717, nk_tp (q := (zy_M_failed, 49)) 59 (by decide +kernel)⟩
theorem zv_M_142 : nk_cS "NeedOnceModel" 142 zy_M_isBeyond zb_M_isBeyond 4 (some .boolean) 3 := ⟨⟨zw_721, zw_7, ⟨by decide, by decide, by decide +kernel⟩, by decide, Or.inl zw_719⟩, zw_720⟩
theorem zv_M_146 : nk_cS "NeedOnceModel" 146 zy_M_noSheet zb_M_noSheet 1 (some .boolean) 1 := ⟨⟨zw_701, zw_7, ⟨by decide, by decide, by decide +kernel⟩, by decide, Or.inl zw_699⟩, zw_700⟩
theorem zv_M_150 : nk_cV "NeedOnceModel" 150 zy_M_refused zb_M_refused 2 (some .int) 1 := ⟨⟨zw_709, zw_7, ⟨by decide, by decide, by decide +kernel⟩, by decide, Or.inl zw_706⟩, zw_708, nk_tp (q := (zy_M_refused, 49)) 57 (by decide +kernel)⟩
theorem zv_M_155 : nk_cV "NeedOnceModel" 155 zy_M_cellsBarred zb_M_cellsBarred 6 (some .int) 4 := ⟨⟨zw_714, zw_7, ⟨by decide, by decide, by decide +kernel⟩, by decide, Or.inl zw_711⟩, zw_713, nk_tp (q := (zy_M_cellsBarred, 49)) 58 (by decide +kernel)⟩
theorem zv_M_159 : nk_cV "NeedOnceModel" 159 zy_M_readsCells zb_M_readsCells 4 (some .boolean) 2 := ⟨⟨zw_725, zw_7, ⟨by decide, by decide, by decide +kernel⟩, by decide, Or.inl zw_722⟩, zw_724, nk_tp (q := (zy_M_readsCells, 49)) 60 (by decide +kernel)⟩
theorem zv_M_162 : nk_cV "NeedOnceModel" 162 zy_M_looseOne zb_M_looseOne 4 (some .int) 0 := ⟨⟨zw_749, zw_7, ⟨by decide, by decide, by decide +kernel⟩, by decide, Or.inl zw_746⟩, zw_748, nk_tp (q := (zy_M_looseOne, 49)) 64 (by decide +kernel)⟩
theorem zv_M_181 : nk_cV "NeedOnceModel" 181 zy_M_allAsleep zb_M_allAsleep 2 none 0 := ⟨⟨zw_753, zw_7, ⟨by decide, by decide, by decide +kernel⟩, by decide, Or.inl zw_750⟩, zw_752, nk_tp (q := (zy_M_allAsleep, 49)) 65 (by decide +kernel)⟩
theorem zv_M_200 : nk_cV "NeedOnceModel" 200 zy_M_isOn zb_M_isOn 4 (some .boolean) 1 := ⟨⟨zw_790, zw_7, ⟨by decide, by decide, by decide +kernel⟩, by decide, Or.inl zw_787⟩, zw_789, nk_tp (q := (zy_M_isOn, 49)) 70 (by decide +kernel)⟩
theorem zv_M_215 : nk_cV "NeedOnceModel" 215 zy_M_cost zb_M_cost 2 (some .int) 1 := ⟨⟨zw_767, zw_7, ⟨by decide, by decide, by decide +kernel⟩, by decide, Or.inl zw_764⟩, zw_766, nk_tp (q := (zy_M_cost, 49)) 67 (by decide +kernel)⟩
theorem zv_M_221 : nk_cV "NeedOnceModel" 221 zy_M_wants zb_M_wants 2 none 1 := ⟨⟨zw_786, zw_7, ⟨by decide, by decide, by decide +kernel⟩, by decide, Or.inl zw_783⟩, zw_785, nk_tp (q := (zy_M_wants, 49)) 69 (by decide +kernel)⟩
theorem zv_M_225 : nk_cV "NeedOnceModel" 225 zy_M_isDone zb_M_isDone 3 none 1 := ⟨⟨zw_802, zw_7, ⟨by decide, by decide, by decide +kernel⟩, by decide, Or.inl zw_799⟩, zw_801, nk_tp (q := (zy_M_isDone, 49)) 73 (by decide +kernel)⟩
theorem zv_M_228 : nk_cV "NeedOnceModel" 228 zy_M_begins zb_M_begins 3 none 1 := ⟨⟨zw_798, zw_7, ⟨by decide, by decide, by decide +kernel⟩, by decide, Or.inl zw_795⟩, zw_797, nk_tp (q := (zy_M_begins, 49)) 72 (by decide +kernel)⟩
theorem zv_M_231 : nk_cV "NeedOnceModel" 231 zy_M_hasFirst zb_M_hasFirst 3 none 1 := ⟨⟨zw_806, zw_7, ⟨by decide, by decide, by decide +kernel⟩, by decide, Or.inl zw_803⟩, zw_805, nk_tp (q := (zy_M_hasFirst, 49)) 74 (by decide +kernel)⟩
theorem zv_M_234 : nk_cV "NeedOnceModel" 234 zy_M_hasSecond zb_M_hasSecond 3 none 1 := ⟨⟨zw_810, zw_7, ⟨by decide, by decide, by decide +kernel⟩, by decide, Or.inl zw_807⟩, zw_809, nk_tp (q := (zy_M_hasSecond, 49)) 75 (by decide +kernel)⟩
theorem zv_M_237 : nk_cV "NeedOnceModel" 237 zy_M_goesOn zb_M_goesOn 3 none 0 := ⟨⟨zw_794, zw_7, ⟨by decide, by decide, by decide +kernel⟩, by decide, Or.inl zw_791⟩, zw_793, nk_tp (q := (zy_M_goesOn, 49)) 71 (by decide +kernel)⟩
theorem zv_M_240 : nk_cV "NeedOnceModel" 240 zy_M_noOne zb_M_noOne 2 (some .boolean) 1 := ⟨⟨zw_761, zw_7, ⟨by decide, by decide, by decide +kernel⟩, by decide, Or.inl zw_758⟩, zw_760, nk_tp (q := (zy_M_noOne, 49)) 66 (by decide +kernel)⟩
theorem zv_M_247 : nk_cS "NeedOnceModel" 247 zy_M_isPrice zb_M_isPrice 1 (some .boolean) 1 := ⟨⟨zw_774, zw_7, ⟨by decide, by decide, by decide +kernel⟩, by decide, Or.inl zw_772⟩, zw_773⟩
theorem zv_M_250 : nk_cV "NeedOnceModel" 250 zy_M_needs zb_M_needs 2 (some .int) 1 := ⟨⟨zw_782, zw_7, ⟨by decide, by decide, by decide +kernel⟩, by decide, Or.inl zw_779⟩, zw_781, nk_tp (q := (zy_M_needs, 49)) 68 (by decide +kernel)⟩
theorem zv_M_255 : nk_cV "NeedOnceModel" 255 zy_M_awakeOnes zb_M_awakeOnes 3 (some .int) 0 := ⟨⟨zw_827, zw_7, ⟨by decide, by decide, by decide +kernel⟩, by decide, Or.inl zw_824⟩, zw_826, nk_tp (q := (zy_M_awakeOnes, 49)) 76 (by decide +kernel)⟩
theorem zv_M_258 : nk_cV "NeedOnceModel" 258 zy_M_nextToShorten zb_M_nextToShorten 4 (some .int) 0 := ⟨⟨zw_835, zw_7, ⟨by decide, by decide, by decide +kernel⟩, by decide, Or.inl zw_832⟩, zw_834, nk_tp (q := (zy_M_nextToShorten, 49)) 77 (by decide +kernel)⟩
theorem zv_M_261 : nk_cV "NeedOnceModel" 261 zy_M_holds zb_M_holds 4 (some .int) 1 := ⟨⟨zw_848, zw_7, ⟨by decide, by decide, by decide +kernel⟩, by decide, Or.inl zw_845⟩, zw_847, nk_tp (q := (zy_M_holds, 49)) 79 (by decide +kernel)⟩
theorem zv_M_266 : nk_cV "NeedOnceModel" 266 zy_M_heldBy zb_M_heldBy 5 (some .int) 1 := ⟨⟨zw_844, zw_7, ⟨by decide, by decide, by decide +kernel⟩, by decide, Or.inl zw_841⟩, zw_843, nk_tp (q := (zy_M_heldBy, 49)) 78 (by decide +kernel)⟩
theorem zv_M_276 : nk_cV "NeedOnceModel" 276 zy_M_needsOnly zb_M_needsOnly 3 (some .boolean) 1 := ⟨⟨zw_878, zw_7, ⟨by decide, by decide, by decide +kernel⟩, by decide, Or.inl zw_875⟩, zw_877, nk_tp (q := (zy_M_needsOnly, 49)) 83 (by decide +kernel)⟩
theorem zv_M_279 : nk_cV "NeedOnceModel" 279 zy_M_price zb_M_price 4 (some .int) 2 := ⟨⟨zw_771, zw_7, ⟨by decide, by decide, by decide +kernel⟩, by decide, Or.inl zw_879⟩, zw_769, zw_770⟩
theorem zv_M_282 : nk_cV "NeedOnceModel" 282 zy_M_shorten zb_M_shorten 4 (some .int) 0 := ⟨⟨zw_831, zw_7, ⟨by decide, by decide, by decide +kernel⟩, by decide, Or.inl zw_880⟩, zw_829, zw_830⟩
theorem zv_M_285 : nk_cV "NeedOnceModel" 285 zy_M_sleep zb_M_sleep 2 (some .int) 0 := ⟨⟨zw_823, zw_7, ⟨by decide, by decide, by decide +kernel⟩, by decide, Or.inl zw_881⟩, zw_821, zw_822⟩
theorem zv_M_288 : nk_cV "NeedOnceModel" 288 zy_M_doesPair zb_M_doesPair 3 (some .boolean) 2 := ⟨⟨zw_874, zw_7, ⟨by decide, by decide, by decide +kernel⟩, by decide, Or.inl zw_871⟩, zw_873, nk_tp (q := (zy_M_doesPair, 49)) 82 (by decide +kernel)⟩
theorem zv_M_291 : nk_cV "NeedOnceModel" 291 zy_M_links zb_M_links 3 (some .int) 0 := ⟨⟨zw_885, zw_7, ⟨by decide, by decide, by decide +kernel⟩, by decide, Or.inl zw_882⟩, zw_884, nk_tp (q := (zy_M_links, 49)) 84 (by decide +kernel)⟩
theorem zv_M_296 : nk_cS "NeedOnceModel" 296 zy_M_isAsTold zb_M_isAsTold 2 (some .boolean) 2 := ⟨⟨zw_861, zw_7, ⟨by decide, by decide, by decide +kernel⟩, by decide, Or.inl zw_859⟩, zw_860⟩
theorem zv_M_299 : nk_cV "NeedOnceModel" 299 zy_M_keeps zb_M_keeps 2 none 0 := ⟨⟨zw_866, zw_7, ⟨by decide, by decide, by decide +kernel⟩, by decide, Or.inl zw_863⟩, zw_865, nk_tp (q := (zy_M_keeps, 49)) 80 (by decide +kernel)⟩
theorem zv_M_302 : nk_cV "NeedOnceModel" 302 zy_M_dayOf zb_M_dayOf 6 (some .int) 3 := ⟨⟨zw_870, zw_7, ⟨by decide, by decide, by decide +kernel⟩, by decide, Or.inl zw_867⟩, zw_869, nk_tp (q := (zy_M_dayOf, 49)) 81 (by decide +kernel)⟩
theorem zv_M_306 : nk_cV "NeedOnceModel" 306 zy_M_bringsBack zb_M_bringsBack 2 none 0 := ⟨⟨zw_889, zw_7, ⟨by decide, by decide, by decide +kernel⟩, by decide, Or.inl zw_886⟩, zw_888, nk_tp (q := (zy_M_bringsBack, 49)) 85 (by decide +kernel)⟩
theorem zv_M_311 : nk_cV "NeedOnceModel" 311 zy_M_areSo zb_M_areSo 4 (some .boolean) 0 := ⟨⟨zw_906, zw_7, ⟨by decide, by decide, by decide +kernel⟩, by decide, Or.inl zw_903⟩, zw_905, nk_tp (q := (zy_M_areSo, 49)) 86 (by decide +kernel)⟩
theorem zv_M_317 : nk_cS "NeedOnceModel" 317 zy_M_share zb_M_share 11 (some .long) 3 := ⟨⟨zw_922, zw_7, ⟨by decide, by decide, by decide +kernel⟩, by decide, Or.inl zw_920⟩, zw_921⟩
theorem zv_M_323 : nk_cV "NeedOnceModel" 323 zy_M_noCell zb_M_noCell 3 (some .int) 2 := ⟨⟨zw_938, zw_7, ⟨by decide, by decide, by decide +kernel⟩, by decide, Or.inl zw_935⟩, zw_937, nk_tp (q := (zy_M_noCell, 49)) 87 (by decide +kernel)⟩
theorem zv_M_326 : nk_cV "NeedOnceModel" 326 zy_M_failedLong zb_M_failedLong 2 (some .long) 1 := ⟨⟨zw_946, zw_7, ⟨by decide, by decide, by decide +kernel⟩, by decide, Or.inl zw_943⟩, zw_945, nk_tp (q := (zy_M_failedLong, 49)) 88 (by decide +kernel)⟩
theorem zv_M_333 : nk_cV "NeedOnceModel" 333 zy_M_traced zb_M_traced 2 none 1 := ⟨⟨zw_958, zw_7, ⟨by decide, by decide, by decide +kernel⟩, by decide, Or.inl zw_955⟩, zw_957, nk_tp (q := (zy_M_traced, 49)) 89 (by decide +kernel)⟩
end
section
theorem i_vc : Claimed_1_1 ∧ Claimed_1_2 := sorry
end
