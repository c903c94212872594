/-! ===== 04: names, the words of the tables that are used, by their places (written by program) ===== -/
def nk_fu : Nat := 4096
theorem nk_inc (x : Int32) {n : Int} {k : Int32} (h : Int32.ofInt n = k) : x + Int32.ofInt n = x + k := by rw [h]
theorem nk_neK {x k : Int32} {i : Int} (hk : k.toInt = i) (h : x ≠ k) : x.toInt ≠ i := fun e => h (Int32.toInt_inj.mp (e.trans hk.symm))
theorem nk_tm {c : Cond} (i : Nat) (h : tables_1[i]? = some c) (hg : goodWord c = true) : c ∈ nk_GT := List.mem_filter.mpr ⟨List.mem_append_right _ (List.mem_of_getElem? h), hg⟩
theorem nk_tn {c : Cond} (i : Nat) (h : tables_1[i]? = some c) : c ∈ tables_1 := List.mem_of_getElem? h
theorem nk_tp {q : MethodName × Nat} (i : Nat) (h : lw_privs[i]? = some q) : Cond.selects q.1.cls q.1 q.1 ∈ nk_GT := List.mem_filter.mpr ⟨List.mem_append_left _ (List.mem_map.mpr ⟨q, List.mem_of_getElem? h, rfl⟩), rfl⟩
abbrev zb_J_fill : ByteArray := prog_10_method_103_code
abbrev zy_J_fill : MethodName := ⟨"java/util/Arrays", "fill", "([II)V"⟩
abbrev zb_C_putToSleep : ByteArray := prog_2_method_12_code
abbrev zy_C_putToSleep : MethodName := ⟨"NeedOnce$Cells", "putToSleep", "()V"⟩
abbrev zb_S_has : ByteArray := prog_4_method_2_code
abbrev zy_S_has : MethodName := ⟨"NeedOnce$Sheets", "has", "(I)Z"⟩
abbrev zb_N_isLane : ByteArray := prog_1_method_42_code
abbrev zy_N_isLane : MethodName := ⟨"NeedOnce", "isLane", "(I)Z"⟩
abbrev zb_S_isRange : ByteArray := prog_4_method_7_code
abbrev zy_S_isRange : MethodName := ⟨"NeedOnce$Sheets", "isRange", "(III)Z"⟩
abbrev zb_S_rangeFault : ByteArray := prog_4_method_6_code
abbrev zy_S_rangeFault : MethodName := ⟨"NeedOnce$Sheets", "rangeFault", "(IIII)I"⟩
abbrev zb_N_faulted : ByteArray := prog_1_method_41_code
abbrev zy_N_faulted : MethodName := ⟨"NeedOnce", "faulted", "(I)I"⟩
abbrev zb_C_forgetAll : ByteArray := prog_2_method_9_code
abbrev zy_C_forgetAll : MethodName := ⟨"NeedOnce$Cells", "forgetAll", "()V"⟩
abbrev zb_S_at : ByteArray := prog_4_method_3_code
abbrev zy_S_at : MethodName := ⟨"NeedOnce$Sheets", "at", "(II)I"⟩
abbrev zb_T_placeIn : ByteArray := prog_5_method_8_code
abbrev zy_T_placeIn : MethodName := ⟨"NeedOnce$TextReader", "placeIn", "([CI)I"⟩
abbrev zb_T_takesKind : ByteArray := prog_5_method_4_code
abbrev zy_T_takesKind : MethodName := ⟨"NeedOnce$TextReader", "takesKind", "(LNeedOnce$Cells;II)Z"⟩
abbrev zb_T_takesPrice : ByteArray := prog_5_method_5_code
abbrev zy_T_takesPrice : MethodName := ⟨"NeedOnce$TextReader", "takesPrice", "(LNeedOnce$Cells;II)Z"⟩
abbrev zb_T_takesSign : ByteArray := prog_5_method_6_code
abbrev zy_T_takesSign : MethodName := ⟨"NeedOnce$TextReader", "takesSign", "(LNeedOnce$Cells;II)Z"⟩
abbrev zb_C_tellPart : ByteArray := prog_2_method_6_code
abbrev zy_C_tellPart : MethodName := ⟨"NeedOnce$Cells", "tellPart", "(III)V"⟩
abbrev zb_T_takesPart : ByteArray := prog_5_method_7_code
abbrev zy_T_takesPart : MethodName := ⟨"NeedOnce$TextReader", "takesPart", "(LNeedOnce$Cells;II)Z"⟩
abbrev zb_T_goesOn : ByteArray := prog_5_method_3_code
abbrev zy_T_goesOn : MethodName := ⟨"NeedOnce$TextReader", "goesOn", "(LNeedOnce$Cells;I)Z"⟩
abbrev zb_T_readInto : ByteArray := prog_5_method_2_code
abbrev zy_T_readInto : MethodName := ⟨"NeedOnce$TextReader", "readInto", "(LNeedOnce$Cells;LNeedOnce$Sheets;III)I"⟩
abbrev zb_C_partAsTold : ByteArray := prog_2_method_5_code
abbrev zy_C_partAsTold : MethodName := ⟨"NeedOnce$Cells", "partAsTold", "(II)I"⟩
abbrev zb_C_partSet : ByteArray := prog_2_method_11_code
abbrev zy_C_partSet : MethodName := ⟨"NeedOnce$Cells", "partSet", "(I)I"⟩
abbrev zb_C_firstLoose : ByteArray := prog_2_method_10_code
abbrev zy_C_firstLoose : MethodName := ⟨"NeedOnce$Cells", "firstLoose", "()I"⟩
abbrev zb_C_becomeLike : ByteArray := prog_2_method_8_code
abbrev zy_C_becomeLike : MethodName := ⟨"NeedOnce$Cells", "becomeLike", "(LNeedOnce$Cells;)V"⟩
abbrev zb_C_startLatest : ByteArray := prog_2_method_15_code
abbrev zy_C_startLatest : MethodName := ⟨"NeedOnce$Cells", "startLatest", "()V"⟩
abbrev zb_N_heap : ByteArray := prog_1_method_2_code
abbrev zy_N_heap : MethodName := ⟨"NeedOnce", "heap", "(IIII)I"⟩
abbrev zb_C_has : ByteArray := prog_2_method_2_code
abbrev zy_C_has : MethodName := ⟨"NeedOnce$Cells", "has", "(I)Z"⟩
abbrev zb_C_costOf : ByteArray := prog_2_method_7_code
abbrev zy_C_costOf : MethodName := ⟨"NeedOnce$Cells", "costOf", "(I)I"⟩
abbrev zb_C_formNow : ByteArray := prog_2_method_4_code
abbrev zy_C_formNow : MethodName := ⟨"NeedOnce$Cells", "formNow", "(I)I"⟩
abbrev zb_C_isAwake : ByteArray := prog_2_method_3_code
abbrev zy_C_isAwake : MethodName := ⟨"NeedOnce$Cells", "isAwake", "(I)Z"⟩
abbrev zb_N_ofCell : ByteArray := prog_1_method_3_code
abbrev zy_N_ofCell : MethodName := ⟨"NeedOnce", "ofCell", "(II)I"⟩
abbrev zb_N_price : ByteArray := prog_1_method_4_code
abbrev zy_N_price : MethodName := ⟨"NeedOnce", "price", "(II)I"⟩
abbrev zb_C_payFor : ByteArray := prog_2_method_18_code
abbrev zy_C_payFor : MethodName := ⟨"NeedOnce$Cells", "payFor", "(I)V"⟩
abbrev zb_C_comeToNumber : ByteArray := prog_2_method_23_code
abbrev zy_C_comeToNumber : MethodName := ⟨"NeedOnce$Cells", "comeToNumber", "(II)I"⟩
abbrev zb_C_workOutBoth : ByteArray := prog_2_method_21_code
abbrev zy_C_workOutBoth : MethodName := ⟨"NeedOnce$Cells", "workOutBoth", "(II)I"⟩
abbrev zb_C_passOn : ByteArray := prog_2_method_26_code
abbrev zy_C_passOn : MethodName := ⟨"NeedOnce$Cells", "passOn", "(III)I"⟩
abbrev zb_C_workOutChoice : ByteArray := prog_2_method_22_code
abbrev zy_C_workOutChoice : MethodName := ⟨"NeedOnce$Cells", "workOutChoice", "(II)I"⟩
abbrev zb_C_partOfPair : ByteArray := prog_2_method_25_code
abbrev zy_C_partOfPair : MethodName := ⟨"NeedOnce$Cells", "partOfPair", "(II)I"⟩
abbrev zb_C_workOutOfPair : ByteArray := prog_2_method_24_code
abbrev zy_C_workOutOfPair : MethodName := ⟨"NeedOnce$Cells", "workOutOfPair", "(II)I"⟩
abbrev zb_C_workOut : ByteArray := prog_2_method_20_code
abbrev zy_C_workOut : MethodName := ⟨"NeedOnce$Cells", "workOut", "(II)I"⟩
abbrev zb_C_keep : ByteArray := prog_2_method_19_code
abbrev zy_C_keep : MethodName := ⟨"NeedOnce$Cells", "keep", "(II)V"⟩
abbrev zb_C_comeTo : ByteArray := prog_2_method_17_code
abbrev zy_C_comeTo : MethodName := ⟨"NeedOnce$Cells", "comeTo", "(II)I"⟩
abbrev zb_C_needAnew : ByteArray := prog_2_method_16_code
abbrev zy_C_needAnew : MethodName := ⟨"NeedOnce$Cells", "needAnew", "(I)I"⟩
abbrev zb_N_need : ByteArray := prog_1_method_5_code
abbrev zy_N_need : MethodName := ⟨"NeedOnce", "need", "(I)I"⟩
abbrev zb_N_latest : ByteArray := prog_1_method_6_code
abbrev zy_N_latest : MethodName := ⟨"NeedOnce", "latest", "(I)I"⟩
abbrev zb_N_spent : ByteArray := prog_1_method_7_code
abbrev zy_N_spent : MethodName := ⟨"NeedOnce", "spent", "()I"⟩
abbrev zb_C_howManyAwake : ByteArray := prog_2_method_13_code
abbrev zy_C_howManyAwake : MethodName := ⟨"NeedOnce$Cells", "howManyAwake", "()I"⟩
abbrev zb_N_sleep : ByteArray := prog_1_method_8_code
abbrev zy_N_sleep : MethodName := ⟨"NeedOnce", "sleep", "()I"⟩
abbrev zb_C_canBeLink : ByteArray := prog_2_method_28_code
abbrev zy_C_canBeLink : MethodName := ⟨"NeedOnce$Cells", "canBeLink", "(I)Z"⟩
abbrev zb_C_makeLinks : ByteArray := prog_2_method_27_code
abbrev zy_C_makeLinks : MethodName := ⟨"NeedOnce$Cells", "makeLinks", "()I"⟩
abbrev zb_N_shorten : ByteArray := prog_1_method_9_code
abbrev zy_N_shorten : MethodName := ⟨"NeedOnce", "shorten", "()I"⟩
abbrev zb_C_heldDirectly : ByteArray := prog_2_method_30_code
abbrev zy_C_heldDirectly : MethodName := ⟨"NeedOnce$Cells", "heldDirectly", "(I)I"⟩
abbrev zb_C_heldBy : ByteArray := prog_2_method_29_code
abbrev zy_C_heldBy : MethodName := ⟨"NeedOnce$Cells", "heldBy", "(I)I"⟩
abbrev zb_N_held : ByteArray := prog_1_method_10_code
abbrev zy_N_held : MethodName := ⟨"NeedOnce", "held", "(I)I"⟩
abbrev zb_C_timesPlainly : ByteArray := prog_2_method_31_code
abbrev zy_C_timesPlainly : MethodName := ⟨"NeedOnce$Cells", "timesPlainly", "(I)I"⟩
abbrev zb_N_plainly : ByteArray := prog_1_method_11_code
abbrev zy_N_plainly : MethodName := ⟨"NeedOnce", "plainly", "(I)I"⟩
abbrev zb_N_isOfDay : ByteArray := prog_1_method_13_code
abbrev zy_N_isOfDay : MethodName := ⟨"NeedOnce", "isOfDay", "(I)Z"⟩
abbrev zb_N_isAct : ByteArray := prog_1_method_15_code
abbrev zy_N_isAct : MethodName := ⟨"NeedOnce", "isAct", "(II)Z"⟩
abbrev zb_N_areActs : ByteArray := prog_1_method_14_code
abbrev zy_N_areActs : MethodName := ⟨"NeedOnce", "areActs", "(III)Z"⟩
abbrev zb_N_canDo : ByteArray := prog_1_method_17_code
abbrev zy_N_canDo : MethodName := ⟨"NeedOnce", "canDo", "(II)Z"⟩
abbrev zb_N_doActs : ByteArray := prog_1_method_16_code
abbrev zy_N_doActs : MethodName := ⟨"NeedOnce", "doActs", "(III)I"⟩
abbrev zb_C_howManyLinks : ByteArray := prog_2_method_14_code
abbrev zy_C_howManyLinks : MethodName := ⟨"NeedOnce$Cells", "howManyLinks", "()I"⟩
abbrev zb_N_afterDay : ByteArray := prog_1_method_18_code
abbrev zy_N_afterDay : MethodName := ⟨"NeedOnce", "afterDay", "(I)I"⟩
abbrev zb_N_day : ByteArray := prog_1_method_12_code
abbrev zy_N_day : MethodName := ⟨"NeedOnce", "day", "(IIIII)I"⟩
abbrev zb_R_add : ByteArray := prog_3_method_2_code
abbrev zy_R_add : MethodName := ⟨"NeedOnce$Readings", "add", "(II)I"⟩
abbrev zb_N_reading : ByteArray := prog_1_method_19_code
abbrev zy_N_reading : MethodName := ⟨"NeedOnce", "reading", "(II)I"⟩
abbrev zb_N_back : ByteArray := prog_1_method_20_code
abbrev zy_N_back : MethodName := ⟨"NeedOnce", "back", "(I)I"⟩
abbrev zb_C_costFromAsleep : ByteArray := prog_2_method_32_code
abbrev zy_C_costFromAsleep : MethodName := ⟨"NeedOnce$Cells", "costFromAsleep", "(I)I"⟩
abbrev zb_R_areSo : ByteArray := prog_3_method_3_code
abbrev zy_R_areSo : MethodName := ⟨"NeedOnce$Readings", "areSo", "(LNeedOnce$Cells;)Z"⟩
abbrev zb_N_kinds : ByteArray := prog_1_method_21_code
abbrev zy_N_kinds : MethodName := ⟨"NeedOnce", "kinds", "(I)I"⟩
abbrev zb_N_prices : ByteArray := prog_1_method_22_code
abbrev zy_N_prices : MethodName := ⟨"NeedOnce", "prices", "(I)I"⟩
abbrev zb_N_timesItComesTo : ByteArray := prog_1_method_24_code
abbrev zy_N_timesItComesTo : MethodName := ⟨"NeedOnce", "timesItComesTo", "(III)I"⟩
abbrev zb_N_commonWithTen : ByteArray := prog_1_method_25_code
abbrev zy_N_commonWithTen : MethodName := ⟨"NeedOnce", "commonWithTen", "(I)I"⟩
abbrev zb_N_odds : ByteArray := prog_1_method_23_code
abbrev zy_N_odds : MethodName := ⟨"NeedOnce", "odds", "(IIII)J"⟩
abbrev zb_S_makeRow : ByteArray := prog_4_method_4_code
abbrev zy_S_makeRow : MethodName := ⟨"NeedOnce$Sheets", "makeRow", "(III)V"⟩
abbrev zb_N_sheet : ByteArray := prog_1_method_26_code
abbrev zy_N_sheet : MethodName := ⟨"NeedOnce", "sheet", "(III)I"⟩
abbrev zb_N_lose : ByteArray := prog_1_method_27_code
abbrev zy_N_lose : MethodName := ⟨"NeedOnce", "lose", "(I)I"⟩
abbrev zb_S_setCut : ByteArray := prog_4_method_5_code
abbrev zy_S_setCut : MethodName := ⟨"NeedOnce$Sheets", "setCut", "(III)V"⟩
abbrev zb_N_put : ByteArray := prog_1_method_28_code
abbrev zy_N_put : MethodName := ⟨"NeedOnce", "put", "(III)I"⟩
abbrev zb_N_cell : ByteArray := prog_1_method_29_code
abbrev zy_N_cell : MethodName := ⟨"NeedOnce", "cell", "(III)J"⟩
abbrev zb_S_moveFault : ByteArray := prog_4_method_8_code
abbrev zy_S_moveFault : MethodName := ⟨"NeedOnce$Sheets", "moveFault", "(IIIII)I"⟩
abbrev zb_S_move : ByteArray := prog_4_method_9_code
abbrev zy_S_move : MethodName := ⟨"NeedOnce$Sheets", "move", "(IIIII)V"⟩
abbrev zb_N_copy : ByteArray := prog_1_method_30_code
abbrev zy_N_copy : MethodName := ⟨"NeedOnce", "copy", "(IIIII)I"⟩
abbrev zb_N_leaveTrace : ByteArray := prog_1_method_36_code
abbrev zy_N_leaveTrace : MethodName := ⟨"NeedOnce", "leaveTrace", "(I)V"⟩
abbrev zb_N_tellPlain : ByteArray := prog_1_method_32_code
abbrev zy_N_tellPlain : MethodName := ⟨"NeedOnce", "tellPlain", "(I)I"⟩
abbrev zb_N_tellDear : ByteArray := prog_1_method_33_code
abbrev zy_N_tellDear : MethodName := ⟨"NeedOnce", "tellDear", "(I)I"⟩
abbrev zb_N_tellDouble : ByteArray := prog_1_method_34_code
abbrev zy_N_tellDouble : MethodName := ⟨"NeedOnce", "tellDouble", "(I)I"⟩
abbrev zb_N_tell : ByteArray := prog_1_method_31_code
abbrev zy_N_tell : MethodName := ⟨"NeedOnce", "tell", "(I)I"⟩
abbrev zb_N_point : ByteArray := prog_1_method_35_code
abbrev zy_N_point : MethodName := ⟨"NeedOnce", "point", "(I)I"⟩
abbrev zb_N_as : ByteArray := prog_1_method_37_code
abbrev zy_N_as : MethodName := ⟨"NeedOnce", "as", "(II)I"⟩
abbrev zb_N_trace : ByteArray := prog_1_method_38_code
abbrev zy_N_trace : MethodName := ⟨"NeedOnce", "trace", "()I"⟩
abbrev zb_N_fault : ByteArray := prog_1_method_39_code
abbrev zy_N_fault : MethodName := ⟨"NeedOnce", "fault", "()I"⟩
abbrev zb_N_many : ByteArray := prog_1_method_40_code
abbrev zy_N_many : MethodName := ⟨"NeedOnce", "many", "(I)I"⟩
abbrev zb_M_in : ByteArray := prog_7_method_2_code
abbrev zy_M_in : MethodName := ⟨"NeedOnceModel", "in", "(JJJ)Z"⟩
abbrev zb_M_noSheet : ByteArray := prog_7_method_56_code
abbrev zy_M_noSheet : MethodName := ⟨"NeedOnceModel", "noSheet", "(I)Z"⟩
abbrev zb_M_refused : ByteArray := prog_7_method_5_code
abbrev zy_M_refused : MethodName := ⟨"NeedOnceModel", "refused", "(I)I"⟩
abbrev zb_M_failed : ByteArray := prog_7_method_6_code
abbrev zy_M_failed : MethodName := ⟨"NeedOnceModel", "failed", "(I)I"⟩
abbrev zb_M_isBeyond : ByteArray := prog_7_method_62_code
abbrev zy_M_isBeyond : MethodName := ⟨"NeedOnceModel", "isBeyond", "(IJI)Z"⟩
abbrev zb_M_cellsBarred : ByteArray := prog_7_method_16_code
abbrev zy_M_cellsBarred : MethodName := ⟨"NeedOnceModel", "cellsBarred", "(IIIJ)I"⟩
abbrev zb_M_codeAt : ByteArray := prog_7_method_10_code
abbrev zy_M_codeAt : MethodName := ⟨"NeedOnceModel", "codeAt", "(II)I"⟩
abbrev zb_M_formBy : ByteArray := prog_7_method_11_code
abbrev zy_M_formBy : MethodName := ⟨"NeedOnceModel", "formBy", "(I)I"⟩
abbrev zb_M_partsOf : ByteArray := prog_7_method_9_code
abbrev zy_M_partsOf : MethodName := ⟨"NeedOnceModel", "partsOf", "(I)I"⟩
abbrev zb_M_readsForm : ByteArray := prog_7_method_12_code
abbrev zy_M_readsForm : MethodName := ⟨"NeedOnceModel", "readsForm", "(II)Z"⟩
abbrev zb_M_readsCell : ByteArray := prog_7_method_13_code
abbrev zy_M_readsCell : MethodName := ⟨"NeedOnceModel", "readsCell", "(II)Z"⟩
abbrev zb_M_readsCells : ByteArray := prog_7_method_14_code
abbrev zy_M_readsCells : MethodName := ⟨"NeedOnceModel", "readsCells", "(II)Z"⟩
abbrev zb_M_looseOne : ByteArray := prog_7_method_15_code
abbrev zy_M_looseOne : MethodName := ⟨"NeedOnceModel", "looseOne", "()I"⟩
abbrev zb_M_allAsleep : ByteArray := prog_7_method_19_code
abbrev zy_M_allAsleep : MethodName := ⟨"NeedOnceModel", "allAsleep", "()V"⟩
abbrev zb_M_heap : ByteArray := prog_7_method_17_code
abbrev zy_M_heap : MethodName := ⟨"NeedOnceModel", "heap", "(IIII)I"⟩
abbrev zb_M_noOne : ByteArray := prog_7_method_8_code
abbrev zy_M_noOne : MethodName := ⟨"NeedOnceModel", "noOne", "(I)Z"⟩
abbrev zb_M_cost : ByteArray := prog_7_method_18_code
abbrev zy_M_cost : MethodName := ⟨"NeedOnceModel", "cost", "(I)I"⟩
abbrev zb_M_ofCell : ByteArray := prog_7_method_28_code
abbrev zy_M_ofCell : MethodName := ⟨"NeedOnceModel", "ofCell", "(II)I"⟩
abbrev zb_M_isPrice : ByteArray := prog_7_method_29_code
abbrev zy_M_isPrice : MethodName := ⟨"NeedOnceModel", "isPrice", "(I)Z"⟩
abbrev zb_M_price : ByteArray := prog_7_method_30_code
abbrev zy_M_price : MethodName := ⟨"NeedOnceModel", "price", "(II)I"⟩
abbrev zb_M_isOn : ByteArray := prog_7_method_20_code
abbrev zy_M_isOn : MethodName := ⟨"NeedOnceModel", "isOn", "(I)Z"⟩
abbrev zb_M_wants : ByteArray := prog_7_method_21_code
abbrev zy_M_wants : MethodName := ⟨"NeedOnceModel", "wants", "(I)V"⟩
abbrev zb_M_isDone : ByteArray := prog_7_method_22_code
abbrev zy_M_isDone : MethodName := ⟨"NeedOnceModel", "isDone", "(I)V"⟩
abbrev zb_M_begins : ByteArray := prog_7_method_23_code
abbrev zy_M_begins : MethodName := ⟨"NeedOnceModel", "begins", "(I)V"⟩
abbrev zb_M_hasFirst : ByteArray := prog_7_method_24_code
abbrev zy_M_hasFirst : MethodName := ⟨"NeedOnceModel", "hasFirst", "(I)V"⟩
abbrev zb_M_hasSecond : ByteArray := prog_7_method_25_code
abbrev zy_M_hasSecond : MethodName := ⟨"NeedOnceModel", "hasSecond", "(I)V"⟩
abbrev zb_M_goesOn : ByteArray := prog_7_method_26_code
abbrev zy_M_goesOn : MethodName := ⟨"NeedOnceModel", "goesOn", "()V"⟩
abbrev zb_M_needs : ByteArray := prog_7_method_27_code
abbrev zy_M_needs : MethodName := ⟨"NeedOnceModel", "needs", "(I)I"⟩
abbrev zb_M_need : ByteArray := prog_7_method_31_code
abbrev zy_M_need : MethodName := ⟨"NeedOnceModel", "need", "(I)I"⟩
abbrev zb_M_latest : ByteArray := prog_7_method_32_code
abbrev zy_M_latest : MethodName := ⟨"NeedOnceModel", "latest", "(I)I"⟩
abbrev zb_M_spent : ByteArray := prog_7_method_33_code
abbrev zy_M_spent : MethodName := ⟨"NeedOnceModel", "spent", "()I"⟩
abbrev zb_M_awakeOnes : ByteArray := prog_7_method_34_code
abbrev zy_M_awakeOnes : MethodName := ⟨"NeedOnceModel", "awakeOnes", "()I"⟩
abbrev zb_M_sleep : ByteArray := prog_7_method_36_code
abbrev zy_M_sleep : MethodName := ⟨"NeedOnceModel", "sleep", "()I"⟩
abbrev zb_M_nextToShorten : ByteArray := prog_7_method_37_code
abbrev zy_M_nextToShorten : MethodName := ⟨"NeedOnceModel", "nextToShorten", "()I"⟩
abbrev zb_M_shorten : ByteArray := prog_7_method_38_code
abbrev zy_M_shorten : MethodName := ⟨"NeedOnceModel", "shorten", "()I"⟩
abbrev zb_M_holds : ByteArray := prog_7_method_39_code
abbrev zy_M_holds : MethodName := ⟨"NeedOnceModel", "holds", "(I)I"⟩
abbrev zb_M_heldBy : ByteArray := prog_7_method_40_code
abbrev zy_M_heldBy : MethodName := ⟨"NeedOnceModel", "heldBy", "(I)I"⟩
abbrev zb_M_held : ByteArray := prog_7_method_41_code
abbrev zy_M_held : MethodName := ⟨"NeedOnceModel", "held", "(I)I"⟩
abbrev zb_M_plainly : ByteArray := prog_7_method_42_code
abbrev zy_M_plainly : MethodName := ⟨"NeedOnceModel", "plainly", "(I)I"⟩
abbrev zb_M_isAsTold : ByteArray := prog_7_method_45_code
abbrev zy_M_isAsTold : MethodName := ⟨"NeedOnceModel", "isAsTold", "(II)Z"⟩
abbrev zb_M_keeps : ByteArray := prog_7_method_43_code
abbrev zy_M_keeps : MethodName := ⟨"NeedOnceModel", "keeps", "()V"⟩
abbrev zb_M_needsOnly : ByteArray := prog_7_method_46_code
abbrev zy_M_needsOnly : MethodName := ⟨"NeedOnceModel", "needsOnly", "(I)Z"⟩
abbrev zb_M_doesPair : ByteArray := prog_7_method_47_code
abbrev zy_M_doesPair : MethodName := ⟨"NeedOnceModel", "doesPair", "(II)Z"⟩
abbrev zb_M_links : ByteArray := prog_7_method_35_code
abbrev zy_M_links : MethodName := ⟨"NeedOnceModel", "links", "()I"⟩
abbrev zb_M_dayOf : ByteArray := prog_7_method_48_code
abbrev zy_M_dayOf : MethodName := ⟨"NeedOnceModel", "dayOf", "(III)I"⟩
abbrev zb_M_bringsBack : ByteArray := prog_7_method_44_code
abbrev zy_M_bringsBack : MethodName := ⟨"NeedOnceModel", "bringsBack", "()V"⟩
abbrev zb_M_day : ByteArray := prog_7_method_49_code
abbrev zy_M_day : MethodName := ⟨"NeedOnceModel", "day", "(IIIII)I"⟩
abbrev zb_M_reading : ByteArray := prog_7_method_50_code
abbrev zy_M_reading : MethodName := ⟨"NeedOnceModel", "reading", "(II)I"⟩
abbrev zb_M_back : ByteArray := prog_7_method_51_code
abbrev zy_M_back : MethodName := ⟨"NeedOnceModel", "back", "(I)I"⟩
abbrev zb_M_areSo : ByteArray := prog_7_method_52_code
abbrev zy_M_areSo : MethodName := ⟨"NeedOnceModel", "areSo", "()Z"⟩
abbrev zb_M_kinds : ByteArray := prog_7_method_53_code
abbrev zy_M_kinds : MethodName := ⟨"NeedOnceModel", "kinds", "(I)I"⟩
abbrev zb_M_prices : ByteArray := prog_7_method_54_code
abbrev zy_M_prices : MethodName := ⟨"NeedOnceModel", "prices", "(I)I"⟩
abbrev zb_M_lost : ByteArray := prog_7_method_3_code
abbrev zy_M_lost : MethodName := ⟨"NeedOnceModel", "lost", "()J"⟩
abbrev zb_M_share : ByteArray := prog_7_method_4_code
abbrev zy_M_share : MethodName := ⟨"NeedOnceModel", "share", "(JJI)J"⟩
abbrev zb_M_odds : ByteArray := prog_7_method_55_code
abbrev zy_M_odds : MethodName := ⟨"NeedOnceModel", "odds", "(IIII)J"⟩
abbrev zb_M_sheet : ByteArray := prog_7_method_57_code
abbrev zy_M_sheet : MethodName := ⟨"NeedOnceModel", "sheet", "(III)I"⟩
abbrev zb_M_lose : ByteArray := prog_7_method_58_code
abbrev zy_M_lose : MethodName := ⟨"NeedOnceModel", "lose", "(I)I"⟩
abbrev zb_M_noCell : ByteArray := prog_7_method_59_code
abbrev zy_M_noCell : MethodName := ⟨"NeedOnceModel", "noCell", "(II)I"⟩
abbrev zb_M_put : ByteArray := prog_7_method_60_code
abbrev zy_M_put : MethodName := ⟨"NeedOnceModel", "put", "(III)I"⟩
abbrev zb_M_failedLong : ByteArray := prog_7_method_7_code
abbrev zy_M_failedLong : MethodName := ⟨"NeedOnceModel", "failedLong", "(I)J"⟩
abbrev zb_M_cell : ByteArray := prog_7_method_61_code
abbrev zy_M_cell : MethodName := ⟨"NeedOnceModel", "cell", "(III)J"⟩
abbrev zb_M_copy : ByteArray := prog_7_method_63_code
abbrev zy_M_copy : MethodName := ⟨"NeedOnceModel", "copy", "(IIIII)I"⟩
abbrev zb_M_traced : ByteArray := prog_7_method_64_code
abbrev zy_M_traced : MethodName := ⟨"NeedOnceModel", "traced", "(I)V"⟩
abbrev zb_M_tell : ByteArray := prog_7_method_65_code
abbrev zy_M_tell : MethodName := ⟨"NeedOnceModel", "tell", "(I)I"⟩
abbrev zb_M_point : ByteArray := prog_7_method_66_code
abbrev zy_M_point : MethodName := ⟨"NeedOnceModel", "point", "(I)I"⟩
abbrev zb_M_as : ByteArray := prog_7_method_67_code
abbrev zy_M_as : MethodName := ⟨"NeedOnceModel", "as", "(II)I"⟩
abbrev zb_M_trace : ByteArray := prog_7_method_68_code
abbrev zy_M_trace : MethodName := ⟨"NeedOnceModel", "trace", "()I"⟩
abbrev zb_M_fault : ByteArray := prog_7_method_69_code
abbrev zy_M_fault : MethodName := ⟨"NeedOnceModel", "fault", "()I"⟩
abbrev zb_M_many : ByteArray := prog_7_method_70_code
abbrev zy_M_many : MethodName := ⟨"NeedOnceModel", "many", "(I)I"⟩
def zt_C : u_T := fun k => match k with
  | 0 => ("NeedOnce$Cells", "count", "I", false)
  | 1 => ("NeedOnce$Cells", "kindOf", "[I", true)
  | 2 => ("NeedOnce$Cells", "priceOf", "[I", true)
  | 3 => ("NeedOnce$Cells", "formOf", "[I", true)
  | 4 => ("NeedOnce$Cells", "partOf", "[I", true)
  | 5 => ("NeedOnce$Cells", "cameTo", "[I", true)
  | 6 => ("NeedOnce$Cells", "pairOf", "[I", true)
  | 7 => ("NeedOnce$Cells", "linkTo", "[I", true)
  | 8 => ("NeedOnce$Cells", "beingWorked", "[Z", true)
  | 9 => ("NeedOnce$Cells", "keeps", "Z", false)
  | 10 => ("NeedOnce$Cells", "spentSoFar", "I", false)
  | 11 => ("NeedOnce$Cells", "worked", "I", false)
  | 12 => ("NeedOnce$Cells", "deep", "I", false)
  | 13 => ("NeedOnce$Cells", "workedCost", "I", false)
  | 14 => ("NeedOnce$Cells", "doneCount", "I", false)
  | _ => ("NeedOnce$Cells", "done", "[I", true)
def zq_C : Nat → FieldType := fun k => match k with
  | 0 => .int
  | 1 => .array .int
  | 2 => .array .int
  | 3 => .array .int
  | 4 => .array .int
  | 5 => .array .int
  | 6 => .array .int
  | 7 => .array .int
  | 8 => .array .boolean
  | 9 => .boolean
  | 10 => .int
  | 11 => .int
  | 12 => .int
  | 13 => .int
  | 14 => .int
  | _ => .array .int
theorem zk_C : ∀ k, k < 16 → parseFieldDescriptor (zt_C k).2.2.1 = some (zq_C k) := by decide +kernel
theorem zm_C : ∀ a, a < 16 → ∀ b, b < 16 → a ≠ b → (zt_C a).2.1 ≠ (zt_C b).2.1 := by decide +kernel
theorem zu_C : ∀ c ∈ u_ws "NeedOnce$Cells" zt_C 16, c ∈ nk_GT := by
  intro c hc
  have h : (u_ws "NeedOnce$Cells" zt_C 16).all (fun c => decide (c ∈ tables_1) && goodWord c) = true := by decide +kernel
  have h1 := List.all_eq_true.mp h c hc
  simp only [Bool.and_eq_true, decide_eq_true_eq] at h1
  exact List.mem_filter.mpr ⟨List.mem_append_right _ h1.1, h1.2⟩
def zt_R : u_T := fun k => match k with
  | 0 => ("NeedOnce$Readings", "count", "I", false)
  | 1 => ("NeedOnce$Readings", "cellOf", "[I", true)
  | _ => ("NeedOnce$Readings", "costOf", "[I", true)
def zq_R : Nat → FieldType := fun k => match k with
  | 0 => .int
  | 1 => .array .int
  | _ => .array .int
theorem zk_R : ∀ k, k < 3 → parseFieldDescriptor (zt_R k).2.2.1 = some (zq_R k) := by decide +kernel
theorem zm_R : ∀ a, a < 3 → ∀ b, b < 3 → a ≠ b → (zt_R a).2.1 ≠ (zt_R b).2.1 := by decide +kernel
theorem zu_R : ∀ c ∈ u_ws "NeedOnce$Readings" zt_R 3, c ∈ nk_GT := by
  intro c hc
  have h : (u_ws "NeedOnce$Readings" zt_R 3).all (fun c => decide (c ∈ tables_1) && goodWord c) = true := by decide +kernel
  have h1 := List.all_eq_true.mp h c hc
  simp only [Bool.and_eq_true, decide_eq_true_eq] at h1
  exact List.mem_filter.mpr ⟨List.mem_append_right _ h1.1, h1.2⟩
def zt_S : u_T := fun k => match k with
  | 0 => ("NeedOnce$Sheets", "rows", "[[I", true)
  | 1 => ("NeedOnce$Sheets", "laneOf", "[I", true)
  | _ => ("NeedOnce$Sheets", "lengthOf", "[I", true)
def zq_S : Nat → FieldType := fun k => match k with
  | 0 => .array (.array .int)
  | 1 => .array .int
  | _ => .array .int
theorem zk_S : ∀ k, k < 3 → parseFieldDescriptor (zt_S k).2.2.1 = some (zq_S k) := by decide +kernel
theorem zm_S : ∀ a, a < 3 → ∀ b, b < 3 → a ≠ b → (zt_S a).2.1 ≠ (zt_S b).2.1 := by decide +kernel
theorem zu_S : ∀ c ∈ u_ws "NeedOnce$Sheets" zt_S 3, c ∈ nk_GT := by
  intro c hc
  have h : (u_ws "NeedOnce$Sheets" zt_S 3).all (fun c => decide (c ∈ tables_1) && goodWord c) = true := by decide +kernel
  have h1 := List.all_eq_true.mp h c hc
  simp only [Bool.and_eq_true, decide_eq_true_eq] at h1
  exact List.mem_filter.mpr ⟨List.mem_append_right _ h1.1, h1.2⟩
def zt_T : u_T := fun k => match k with
  | 0 => ("NeedOnce$TextReader", "stage", "I", false)
  | _ => ("NeedOnce$TextReader", "part", "I", false)
def zq_T : Nat → FieldType := fun k => match k with
  | 0 => .int
  | _ => .int
theorem zk_T : ∀ k, k < 2 → parseFieldDescriptor (zt_T k).2.2.1 = some (zq_T k) := by decide +kernel
theorem zm_T : ∀ a, a < 2 → ∀ b, b < 2 → a ≠ b → (zt_T a).2.1 ≠ (zt_T b).2.1 := by decide +kernel
theorem zu_T : ∀ c ∈ u_ws "NeedOnce$TextReader" zt_T 2, c ∈ nk_GT := by
  intro c hc
  have h : (u_ws "NeedOnce$TextReader" zt_T 2).all (fun c => decide (c ∈ tables_1) && goodWord c) = true := by decide +kernel
  have h1 := List.all_eq_true.mp h c hc
  simp only [Bool.and_eq_true, decide_eq_true_eq] at h1
  exact List.mem_filter.mpr ⟨List.mem_append_right _ h1.1, h1.2⟩
def zt_N : u_T := fun k => match k with
  | 0 => ("NeedOnce", "cells", "LNeedOnce$Cells;", true)
  | 1 => ("NeedOnce", "trial", "LNeedOnce$Cells;", true)
  | 2 => ("NeedOnce", "reader", "LNeedOnce$TextReader;", true)
  | 3 => ("NeedOnce", "readings", "LNeedOnce$Readings;", true)
  | 4 => ("NeedOnce", "sheets", "LNeedOnce$Sheets;", true)
  | 5 => ("NeedOnce", "traced", "I", false)
  | _ => ("NeedOnce", "latestFault", "I", false)
def zq_N : Nat → FieldType := fun k => match k with
  | 0 => .object "NeedOnce$Cells"
  | 1 => .object "NeedOnce$Cells"
  | 2 => .object "NeedOnce$TextReader"
  | 3 => .object "NeedOnce$Readings"
  | 4 => .object "NeedOnce$Sheets"
  | 5 => .int
  | _ => .int
theorem zk_N : ∀ k, k < 7 → parseFieldDescriptor (zt_N k).2.2.1 = some (zq_N k) := by decide +kernel
theorem zm_N : ∀ a, a < 7 → ∀ b, b < 7 → a ≠ b → (zt_N a).2.1 ≠ (zt_N b).2.1 := by decide +kernel
theorem zu_N : ∀ c ∈ u_ws "NeedOnce" zt_N 7, c ∈ nk_GT := by
  intro c hc
  have h : (u_ws "NeedOnce" zt_N 7).all (fun c => decide (c ∈ tables_1) && goodWord c) = true := by decide +kernel
  have h1 := List.all_eq_true.mp h c hc
  simp only [Bool.and_eq_true, decide_eq_true_eq] at h1
  exact List.mem_filter.mpr ⟨List.mem_append_right _ h1.1, h1.2⟩
def zt_M : u_T := fun k => match k with
  | 0 => ("NeedOnceModel", "fault", "I", false)
  | 1 => ("NeedOnceModel", "cells", "I", false)
  | 2 => ("NeedOnceModel", "kindOf", "[I", true)
  | 3 => ("NeedOnceModel", "priceOf", "[I", true)
  | 4 => ("NeedOnceModel", "formOf", "[I", true)
  | 5 => ("NeedOnceModel", "partOf", "[I", true)
  | 6 => ("NeedOnceModel", "readAt", "I", false)
  | 7 => ("NeedOnceModel", "readCells", "I", false)
  | 8 => ("NeedOnceModel", "readKind", "[I", true)
  | 9 => ("NeedOnceModel", "readPrice", "[I", true)
  | 10 => ("NeedOnceModel", "readForm", "[I", true)
  | 11 => ("NeedOnceModel", "readPart", "[I", true)
  | 12 => ("NeedOnceModel", "cameOf", "[I", true)
  | 13 => ("NeedOnceModel", "pairOne", "[I", true)
  | 14 => ("NeedOnceModel", "pairTwo", "[I", true)
  | 15 => ("NeedOnceModel", "linkOf", "[I", true)
  | 16 => ("NeedOnceModel", "spentNow", "I", false)
  | 17 => ("NeedOnceModel", "depth", "I", false)
  | 18 => ("NeedOnceModel", "onCell", "[I", true)
  | 19 => ("NeedOnceModel", "onStage", "[I", true)
  | 20 => ("NeedOnceModel", "onNumber", "[I", true)
  | 21 => ("NeedOnceModel", "come", "I", false)
  | 22 => ("NeedOnceModel", "comeOne", "I", false)
  | 23 => ("NeedOnceModel", "comeTwo", "I", false)
  | 24 => ("NeedOnceModel", "worked", "I", false)
  | 25 => ("NeedOnceModel", "deep", "I", false)
  | 26 => ("NeedOnceModel", "costs", "I", false)
  | 27 => ("NeedOnceModel", "done", "I", false)
  | 28 => ("NeedOnceModel", "doneOf", "[I", true)
  | 29 => ("NeedOnceModel", "keepsNone", "Z", false)
  | 30 => ("NeedOnceModel", "endless", "Z", false)
  | 31 => ("NeedOnceModel", "latestWorked", "I", false)
  | 32 => ("NeedOnceModel", "latestDeep", "I", false)
  | 33 => ("NeedOnceModel", "latestCost", "I", false)
  | 34 => ("NeedOnceModel", "latestDone", "[I", true)
  | 35 => ("NeedOnceModel", "hadCame", "[I", true)
  | 36 => ("NeedOnceModel", "hadOne", "[I", true)
  | 37 => ("NeedOnceModel", "hadTwo", "[I", true)
  | 38 => ("NeedOnceModel", "hadLink", "[I", true)
  | 39 => ("NeedOnceModel", "hadPrice", "[I", true)
  | 40 => ("NeedOnceModel", "daySpent", "I", false)
  | 41 => ("NeedOnceModel", "readings", "I", false)
  | 42 => ("NeedOnceModel", "readingOf", "[I", true)
  | 43 => ("NeedOnceModel", "readingIs", "[I", true)
  | 44 => ("NeedOnceModel", "sheetSize", "[I", true)
  | 45 => ("NeedOnceModel", "sheetLane", "[I", true)
  | 46 => ("NeedOnceModel", "sheet", "[I", true)
  | 47 => ("NeedOnceModel", "hands", "[I", true)
  | _ => ("NeedOnceModel", "traceNow", "I", false)
def zq_M : Nat → FieldType := fun k => match k with
  | 0 => .int
  | 1 => .int
  | 2 => .array .int
  | 3 => .array .int
  | 4 => .array .int
  | 5 => .array .int
  | 6 => .int
  | 7 => .int
  | 8 => .array .int
  | 9 => .array .int
  | 10 => .array .int
  | 11 => .array .int
  | 12 => .array .int
  | 13 => .array .int
  | 14 => .array .int
  | 15 => .array .int
  | 16 => .int
  | 17 => .int
  | 18 => .array .int
  | 19 => .array .int
  | 20 => .array .int
  | 21 => .int
  | 22 => .int
  | 23 => .int
  | 24 => .int
  | 25 => .int
  | 26 => .int
  | 27 => .int
  | 28 => .array .int
  | 29 => .boolean
  | 30 => .boolean
  | 31 => .int
  | 32 => .int
  | 33 => .int
  | 34 => .array .int
  | 35 => .array .int
  | 36 => .array .int
  | 37 => .array .int
  | 38 => .array .int
  | 39 => .array .int
  | 40 => .int
  | 41 => .int
  | 42 => .array .int
  | 43 => .array .int
  | 44 => .array .int
  | 45 => .array .int
  | 46 => .array .int
  | 47 => .array .int
  | _ => .int
theorem zk_M : ∀ k, k < 49 → parseFieldDescriptor (zt_M k).2.2.1 = some (zq_M k) := by decide +kernel
theorem zm_M : ∀ a, a < 49 → ∀ b, b < 49 → a ≠ b → (zt_M a).2.1 ≠ (zt_M b).2.1 := by decide +kernel
theorem zu_M : ∀ c ∈ u_ws "NeedOnceModel" zt_M 49, c ∈ nk_GT := by
  intro c hc
  have h : (u_ws "NeedOnceModel" zt_M 49).all (fun c => decide (c ∈ tables_1) && goodWord c) = true := by decide +kernel
  have h1 := List.all_eq_true.mp h c hc
  simp only [Bool.and_eq_true, decide_eq_true_eq] at h1
  exact List.mem_filter.mpr ⟨List.mem_append_right _ h1.1, h1.2⟩
def nk_cfl (B : Nat) : List (Option Nat) := [none, some B, some (B + 1), some (B + 2), some (B + 3), some (B + 4), some (B + 5), some (B + 6), some (B + 7), none, none, none, none, none, none, some (B + 8)]
def nk_shC : List nk_S := [.inl (4, [some 1, some 2, some 3, some 4, some 5, none, none]), .inl (0, nk_cfl 6), .inl (0, nk_cfl 15), .inl (3, [none, none]), .inl (1, [none, some 24, some 25]), .inl (2, [some 26, some 31, some 32]), .inr (.inl (.int, 8)), .inr (.inl (.int, 8)), .inr (.inl (.int, 8)), .inr (.inl (.int, 24)), .inr (.inl (.int, 8)), .inr (.inl (.int, 8)), .inr (.inl (.int, 8)), .inr (.inl (.boolean, 8)), .inr (.inl (.int, 8)), .inr (.inl (.int, 8)), .inr (.inl (.int, 8)), .inr (.inl (.int, 8)), .inr (.inl (.int, 24)), .inr (.inl (.int, 8)), .inr (.inl (.int, 8)), .inr (.inl (.int, 8)), .inr (.inl (.boolean, 8)), .inr (.inl (.int, 8)), .inr (.inl (.int, 8)), .inr (.inl (.int, 8)), .inr (.inr (4, 27)), .inr (.inl (.int, 60)), .inr (.inl (.int, 60)), .inr (.inl (.int, 60)), .inr (.inl (.int, 60)), .inr (.inl (.int, 4)), .inr (.inl (.int, 4))]
def nk_t0 : Nat → Int32 := fun j => ([112, 100, 119] : List Int32).getD j 0
def nk_t1 : Nat → Int32 := fun j => ([110, 97, 109, 105, 116, 102, 114] : List Int32).getD j 0
def nk_t2 : Nat → Int32 := fun j => ([1, 2, 2, 3, 2, 1, 1] : List Int32).getD j 0
abbrev nk_clC : List vw_C := [("NeedOnce$Cells", zt_C, 16), ("NeedOnce$Readings", zt_R, 3), ("NeedOnce$Sheets", zt_S, 3), ("NeedOnce$TextReader", zt_T, 2), ("NeedOnce", zt_N, 7)]
def nk_wC : nk_D := (nk_clC, fun k => nk_shC.getD k (.inl (0, [])), 33, [("NeedOnce", "KIND_LETTERS", "[C", .char, 3, nk_t0), ("NeedOnce", "FORM_SIGNS", "[C", .char, 7, nk_t1), ("NeedOnce", "HOW_MANY_PARTS", "[I", .int, 7, nk_t2)])
def nk_shR : List nk_S := [.inl (0, [none, none, some 1, some 2, some 3, some 4, none, none, some 5, some 6, some 7, some 8, some 9, some 10, some 11, some 12, none, none, some 13, some 14, some 15, none, none, none, none, none, none, none, some 16, none, none, none, none, none, some 17, some 18, some 19, some 20, some 21, some 22, none, none, some 23, some 24, some 25, some 26, some 27, some 28, none]), .inr (.inl (.int, 8)), .inr (.inl (.int, 8)), .inr (.inl (.int, 8)), .inr (.inl (.int, 24)), .inr (.inl (.int, 8)), .inr (.inl (.int, 8)), .inr (.inl (.int, 8)), .inr (.inl (.int, 24)), .inr (.inl (.int, 8)), .inr (.inl (.int, 8)), .inr (.inl (.int, 8)), .inr (.inl (.int, 8)), .inr (.inl (.int, 8)), .inr (.inl (.int, 8)), .inr (.inl (.int, 8)), .inr (.inl (.int, 8)), .inr (.inl (.int, 8)), .inr (.inl (.int, 8)), .inr (.inl (.int, 8)), .inr (.inl (.int, 8)), .inr (.inl (.int, 8)), .inr (.inl (.int, 8)), .inr (.inl (.int, 8)), .inr (.inl (.int, 8)), .inr (.inl (.int, 4)), .inr (.inl (.int, 4)), .inr (.inl (.int, 240)), .inr (.inl (.int, 60))]
abbrev nk_clR : List vw_C := [("NeedOnceModel", zt_M, 49)]
def nk_wR : nk_D := (nk_clR, fun k => nk_shR.getD k (.inl (0, [])), 29, [])
/-- the two Cells objects and where their rows begin -/
def nk_isC (o B : Nat) : Prop := (o = 1 ∧ B = 6) ∨ (o = 2 ∧ B = 15)
theorem nkc_ok {o B : Nat} (h : nk_isC o B) : o < nk_wC.2.2.1 := by rcases h with ⟨rfl, rfl⟩ | ⟨rfl, rfl⟩ <;> decide
theorem nkc_os {o B : Nat} (h : nk_isC o B) : nk_wC.2.1 o = .inl (0, nk_cfl B) := by rcases h with ⟨rfl, rfl⟩ | ⟨rfl, rfl⟩ <;> rfl
theorem nkc_bk0 {o B : Nat} (h : nk_isC o B) : B < nk_wC.2.2.1 := by rcases h with ⟨rfl, rfl⟩ | ⟨rfl, rfl⟩ <;> decide
theorem nkc_bs0 {o B : Nat} (h : nk_isC o B) : nk_wC.2.1 B = .inr (.inl (.int, 8)) := by rcases h with ⟨rfl, rfl⟩ | ⟨rfl, rfl⟩ <;> rfl
theorem nkc_bk1 {o B : Nat} (h : nk_isC o B) : (B + 1) < nk_wC.2.2.1 := by rcases h with ⟨rfl, rfl⟩ | ⟨rfl, rfl⟩ <;> decide
theorem nkc_bs1 {o B : Nat} (h : nk_isC o B) : nk_wC.2.1 (B + 1) = .inr (.inl (.int, 8)) := by rcases h with ⟨rfl, rfl⟩ | ⟨rfl, rfl⟩ <;> rfl
theorem nkc_bk2 {o B : Nat} (h : nk_isC o B) : (B + 2) < nk_wC.2.2.1 := by rcases h with ⟨rfl, rfl⟩ | ⟨rfl, rfl⟩ <;> decide
theorem nkc_bs2 {o B : Nat} (h : nk_isC o B) : nk_wC.2.1 (B + 2) = .inr (.inl (.int, 8)) := by rcases h with ⟨rfl, rfl⟩ | ⟨rfl, rfl⟩ <;> rfl
theorem nkc_bk3 {o B : Nat} (h : nk_isC o B) : (B + 3) < nk_wC.2.2.1 := by rcases h with ⟨rfl, rfl⟩ | ⟨rfl, rfl⟩ <;> decide
theorem nkc_bs3 {o B : Nat} (h : nk_isC o B) : nk_wC.2.1 (B + 3) = .inr (.inl (.int, 24)) := by rcases h with ⟨rfl, rfl⟩ | ⟨rfl, rfl⟩ <;> rfl
theorem nkc_bk4 {o B : Nat} (h : nk_isC o B) : (B + 4) < nk_wC.2.2.1 := by rcases h with ⟨rfl, rfl⟩ | ⟨rfl, rfl⟩ <;> decide
theorem nkc_bs4 {o B : Nat} (h : nk_isC o B) : nk_wC.2.1 (B + 4) = .inr (.inl (.int, 8)) := by rcases h with ⟨rfl, rfl⟩ | ⟨rfl, rfl⟩ <;> rfl
theorem nkc_bk5 {o B : Nat} (h : nk_isC o B) : (B + 5) < nk_wC.2.2.1 := by rcases h with ⟨rfl, rfl⟩ | ⟨rfl, rfl⟩ <;> decide
theorem nkc_bs5 {o B : Nat} (h : nk_isC o B) : nk_wC.2.1 (B + 5) = .inr (.inl (.int, 8)) := by rcases h with ⟨rfl, rfl⟩ | ⟨rfl, rfl⟩ <;> rfl
theorem nkc_bk6 {o B : Nat} (h : nk_isC o B) : (B + 6) < nk_wC.2.2.1 := by rcases h with ⟨rfl, rfl⟩ | ⟨rfl, rfl⟩ <;> decide
theorem nkc_bs6 {o B : Nat} (h : nk_isC o B) : nk_wC.2.1 (B + 6) = .inr (.inl (.int, 8)) := by rcases h with ⟨rfl, rfl⟩ | ⟨rfl, rfl⟩ <;> rfl
theorem nkc_bk7 {o B : Nat} (h : nk_isC o B) : (B + 7) < nk_wC.2.2.1 := by rcases h with ⟨rfl, rfl⟩ | ⟨rfl, rfl⟩ <;> decide
theorem nkc_bs7 {o B : Nat} (h : nk_isC o B) : nk_wC.2.1 (B + 7) = .inr (.inl (.boolean, 8)) := by rcases h with ⟨rfl, rfl⟩ | ⟨rfl, rfl⟩ <;> rfl
theorem nkc_bk8 {o B : Nat} (h : nk_isC o B) : (B + 8) < nk_wC.2.2.1 := by rcases h with ⟨rfl, rfl⟩ | ⟨rfl, rfl⟩ <;> decide
theorem nkc_bs8 {o B : Nat} (h : nk_isC o B) : nk_wC.2.1 (B + 8) = .inr (.inl (.int, 8)) := by rcases h with ⟨rfl, rfl⟩ | ⟨rfl, rfl⟩ <;> rfl
theorem nkc_rk {i : Int32} (h : ¬ (i < 0 ∨ 4 ≤ i.toNatClampNeg)) : 27 + i.toNatClampNeg < nk_wC.2.2.1 := by show _ < 33; omega
theorem nkc_rs {i : Int32} (h : ¬ (i < 0 ∨ 4 ≤ i.toNatClampNeg)) : nk_wC.2.1 (27 + i.toNatClampNeg) = .inr (.inl (.int, 60)) := by
  have hj : i.toNatClampNeg < 4 := Nat.not_le.mp fun q => h (Or.inr q)
  generalize i.toNatClampNeg = j at hj
  rcases (show j = 0 ∨ j = 1 ∨ j = 2 ∨ j = 3 by omega) with rfl | rfl | rfl | rfl <;> rfl
section NKW
variable {own : String} {cc : ByteArray} {nL : Nat} {w : nk_D} {G : nk_V} {X : nk_X} {α : Type} {inj : α → Option Value} {pc : Nat} {lv st : List Value} {μ : nk_M} {F : Option (α × nk_M)}
def nk_mask : List Bool → List Value → List Value
  | true :: m, v :: r => v :: nk_mask m r
  | false :: m, _ :: r => .null :: nk_mask m r
  | _, _ => []
theorem nk_mask_get : ∀ (m : List Bool) (lv : List Value) (i : Nat) (v : Value), (nk_mask m lv)[i]? = some v → v ≠ .null → lv[i]? = some v
  | [], _, i, v, h, _ => by simp [nk_mask] at h
  | true :: m, [], i, v, h, _ => by simp [nk_mask] at h
  | false :: m, [], i, v, h, _ => by simp [nk_mask] at h
  | true :: m, u :: r, 0, v, h, _ => by simpa [nk_mask] using h
  | true :: m, u :: r, i + 1, v, h, hn => by
    have h' : (nk_mask m r)[i]? = some v := by simpa [nk_mask] using h
    simpa using nk_mask_get m r i v h' hn
  | false :: m, u :: r, 0, v, h, hn => by simp [nk_mask] at h; exact absurd h.symm hn
  | false :: m, u :: r, i + 1, v, h, hn => by
    have h' : (nk_mask m r)[i]? = some v := by simpa [nk_mask] using h
    simpa using nk_mask_get m r i v h' hn
theorem nk_wk (m : List Bool) (h : nk_Sim w G X nL inj pc (nk_mask m lv) st μ F) : nk_Sim w G X nL inj pc lv st μ F := fun v μ' e H locs ls hP hS hl => h v μ' e H locs ls hP hS ⟨hl.1, hl.2.1, fun i v hi hn => hl.2.2 i v (nk_mask_get m lv i v hi hn) hn⟩
theorem nk_callVi {Fc : Option (Int32 × nk_M)} (C : nk_C own cc nL w G X) {K : Int32 → nk_M → Option (α × nk_M)} {y : MethodName} {b : ByteArray} {nL' hh HH n index k ci nn : Nat} {T : u_T} {fl : List (Option Nat)} {ret : Option FieldType} (As : List Value) {stk : List Value} (hcV : nk_cV own index y b nL' ret n) (hR : X.2.2.2.1 = nk_rm HH) (hct : nk_Ct X.2.1 w G hh y b nL' ret nk_oi (nk_r G k :: As) μ Fc) (hH : hh + 1 ≤ HH) (hk : k < w.2.2.1) (hs : w.2.1 k = .inl (ci, fl)) (hc : w.1[ci]? = some (y.cls, T, nn)) (hn : As.length = n) (hstk : stk = As.reverse ++ nk_r G k :: st) (hst : (st.map fun v => v.category).sum ≤ 8) (hd : decode cc pc = .ok (.invokevirtual index, 3)) (h : ∀ (r : Int32) (μ1 : nk_M), nk_Sim w G X nL inj (pc + 3) lv (.int r :: st) μ1 (K r μ1)) : nk_Sim w G X nL inj pc lv stk μ (nk_bd Fc K) := nk_callV C As hcV hR hct hH hk hs hc hn hstk hst hd h
theorem nk_callVl {Fc : Option (Int64 × nk_M)} (C : nk_C own cc nL w G X) {K : Int64 → nk_M → Option (α × nk_M)} {y : MethodName} {b : ByteArray} {nL' hh HH n index k ci nn : Nat} {T : u_T} {fl : List (Option Nat)} {ret : Option FieldType} (As : List Value) {stk : List Value} (hcV : nk_cV own index y b nL' ret n) (hR : X.2.2.2.1 = nk_rm HH) (hct : nk_Ct X.2.1 w G hh y b nL' ret nk_ol (nk_r G k :: As) μ Fc) (hH : hh + 1 ≤ HH) (hk : k < w.2.2.1) (hs : w.2.1 k = .inl (ci, fl)) (hc : w.1[ci]? = some (y.cls, T, nn)) (hn : As.length = n) (hstk : stk = As.reverse ++ nk_r G k :: st) (hst : (st.map fun v => v.category).sum ≤ 8) (hd : decode cc pc = .ok (.invokevirtual index, 3)) (h : ∀ (r : Int64) (μ1 : nk_M), nk_Sim w G X nL inj (pc + 3) lv (.long r :: st) μ1 (K r μ1)) : nk_Sim w G X nL inj pc lv stk μ (nk_bd Fc K) := nk_callV C As hcV hR hct hH hk hs hc hn hstk hst hd h
theorem nk_callVv {Fc : Option (Unit × nk_M)} (C : nk_C own cc nL w G X) {K : Unit → nk_M → Option (α × nk_M)} {y : MethodName} {b : ByteArray} {nL' hh HH n index k ci nn : Nat} {T : u_T} {fl : List (Option Nat)} {ret : Option FieldType} (As : List Value) {stk : List Value} (hcV : nk_cV own index y b nL' ret n) (hR : X.2.2.2.1 = nk_rm HH) (hct : nk_Ct X.2.1 w G hh y b nL' ret nk_ov (nk_r G k :: As) μ Fc) (hH : hh + 1 ≤ HH) (hk : k < w.2.2.1) (hs : w.2.1 k = .inl (ci, fl)) (hc : w.1[ci]? = some (y.cls, T, nn)) (hn : As.length = n) (hstk : stk = As.reverse ++ nk_r G k :: st) (hst : (st.map fun v => v.category).sum ≤ 8) (hd : decode cc pc = .ok (.invokevirtual index, 3)) (h : ∀ (μ1 : nk_M), nk_Sim w G X nL inj (pc + 3) lv st μ1 (K () μ1)) : nk_Sim w G X nL inj pc lv stk μ (nk_bd Fc K) := nk_callV C As hcV hR hct hH hk hs hc hn hstk hst hd (fun _ μ1 => h μ1)
theorem nk_callSi {Fc : Option (Int32 × nk_M)} (C : nk_C own cc nL w G X) {K : Int32 → nk_M → Option (α × nk_M)} {y : MethodName} {b : ByteArray} {nL' hh HH n index : Nat} {ret : Option FieldType} (As : List Value) {stk : List Value} (hcS : nk_cS own index y b nL' ret n) (hR : X.2.2.2.1 = nk_rm HH) (hct : nk_Ct X.2.1 w G hh y b nL' ret nk_oi As μ Fc) (hH : hh + 1 ≤ HH) (hn : As.length = n) (hstk : stk = As.reverse ++ st) (hst : (st.map fun v => v.category).sum ≤ 8) (hd : decode cc pc = .ok (.invokestatic index, 3)) (h : ∀ (r : Int32) (μ1 : nk_M), nk_Sim w G X nL inj (pc + 3) lv (.int r :: st) μ1 (K r μ1)) : nk_Sim w G X nL inj pc lv stk μ (nk_bd Fc K) := nk_callS C As hcS hR hct hH hn hstk hst hd h
theorem nk_callSl {Fc : Option (Int64 × nk_M)} (C : nk_C own cc nL w G X) {K : Int64 → nk_M → Option (α × nk_M)} {y : MethodName} {b : ByteArray} {nL' hh HH n index : Nat} {ret : Option FieldType} (As : List Value) {stk : List Value} (hcS : nk_cS own index y b nL' ret n) (hR : X.2.2.2.1 = nk_rm HH) (hct : nk_Ct X.2.1 w G hh y b nL' ret nk_ol As μ Fc) (hH : hh + 1 ≤ HH) (hn : As.length = n) (hstk : stk = As.reverse ++ st) (hst : (st.map fun v => v.category).sum ≤ 8) (hd : decode cc pc = .ok (.invokestatic index, 3)) (h : ∀ (r : Int64) (μ1 : nk_M), nk_Sim w G X nL inj (pc + 3) lv (.long r :: st) μ1 (K r μ1)) : nk_Sim w G X nL inj pc lv stk μ (nk_bd Fc K) := nk_callS C As hcS hR hct hH hn hstk hst hd h
theorem nk_callSv {Fc : Option (Unit × nk_M)} (C : nk_C own cc nL w G X) {K : Unit → nk_M → Option (α × nk_M)} {y : MethodName} {b : ByteArray} {nL' hh HH n index : Nat} {ret : Option FieldType} (As : List Value) {stk : List Value} (hcS : nk_cS own index y b nL' ret n) (hR : X.2.2.2.1 = nk_rm HH) (hct : nk_Ct X.2.1 w G hh y b nL' ret nk_ov As μ Fc) (hH : hh + 1 ≤ HH) (hn : As.length = n) (hstk : stk = As.reverse ++ st) (hst : (st.map fun v => v.category).sum ≤ 8) (hd : decode cc pc = .ok (.invokestatic index, 3)) (h : ∀ (μ1 : nk_M), nk_Sim w G X nL inj (pc + 3) lv st μ1 (K () μ1)) : nk_Sim w G X nL inj pc lv stk μ (nk_bd Fc K) := nk_callS C As hcS hR hct hH hn hstk hst hd (fun _ μ1 => h μ1)
end NKW
