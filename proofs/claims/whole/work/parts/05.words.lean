/-! ===== 05: words by their places, links (written by program) ===== -/
theorem zw_1 : Cond.initialized "NeedOnce" ∈ nk_GT := nk_tm 1 (by decide +kernel) rfl
theorem zw_2 : Cond.initialized "NeedOnce$Cells" ∈ nk_GT := nk_tm 2 (by decide +kernel) rfl
theorem zw_3 : Cond.initialized "java/util/Arrays" ∈ nk_GT := nk_tm 3 (by decide +kernel) rfl
theorem zw_4 : Cond.initialized "NeedOnce$TextReader" ∈ nk_GT := nk_tm 4 (by decide +kernel) rfl
theorem zw_5 : Cond.initialized "NeedOnce$Readings" ∈ nk_GT := nk_tm 5 (by decide +kernel) rfl
theorem zw_6 : Cond.initialized "NeedOnce$Sheets" ∈ nk_GT := nk_tm 6 (by decide +kernel) rfl
theorem zw_7 : Cond.initialized "NeedOnceModel" ∈ nk_GT := nk_tm 7 (by decide +kernel) rfl
theorem zw_8 : Cond.initialized "java/lang/System" ∈ nk_GT := nk_tm 8 (by decide +kernel) rfl
theorem zw_9 : Cond.initialized "java/lang/Math" ∈ nk_GT := nk_tm 9 (by decide +kernel) rfl
theorem zw_24 : Cond.methodLink "NeedOnce$Cells" 44 zy_C_putToSleep ∈ nk_GT := nk_tm 24 (by decide +kernel) rfl
theorem zw_26 : Cond.instanceMethod zy_C_putToSleep ∈ nk_GT := nk_tm 26 (by decide +kernel) rfl
set_option maxRecDepth 100000 in
theorem zw_27 : Cond.code zy_C_putToSleep zb_C_putToSleep 1 none ∈ nk_GT := nk_tm 27 rfl rfl
theorem zw_28 : Cond.methodLink "NeedOnce$Cells" 71 zy_J_fill ∈ nk_GT := nk_tm 28 (by decide +kernel) rfl
theorem zw_29 : Cond.static zy_J_fill ∈ nk_GT := nk_tm 29 (by decide +kernel) rfl
set_option maxRecDepth 100000 in
theorem zw_30 : Cond.code zy_J_fill zb_J_fill 4 none ∈ nk_GT := nk_tm 30 rfl rfl
theorem zw_31 : Cond.fieldLink "NeedOnce$Cells" 47 "NeedOnce$Cells" "count" "I" ∈ nk_GT := nk_tm 31 (by decide +kernel) rfl
theorem zw_34 : Cond.fieldLink "NeedOnce$Cells" 9 "NeedOnce$Cells" "kindOf" "[I" ∈ nk_GT := nk_tm 34 (by decide +kernel) rfl
theorem zw_37 : Cond.fieldLink "NeedOnce$Cells" 15 "NeedOnce$Cells" "priceOf" "[I" ∈ nk_GT := nk_tm 37 (by decide +kernel) rfl
theorem zw_40 : Cond.fieldLink "NeedOnce$Cells" 18 "NeedOnce$Cells" "formOf" "[I" ∈ nk_GT := nk_tm 40 (by decide +kernel) rfl
theorem zw_43 : Cond.fieldLink "NeedOnce$Cells" 21 "NeedOnce$Cells" "partOf" "[I" ∈ nk_GT := nk_tm 43 (by decide +kernel) rfl
theorem zw_44 : Cond.fieldLink "NeedOnce$Cells" 24 "NeedOnce$Cells" "cameTo" "[I" ∈ nk_GT := nk_tm 44 (by decide +kernel) rfl
theorem zw_46 : Cond.fieldLink "NeedOnce$Cells" 27 "NeedOnce$Cells" "pairOf" "[I" ∈ nk_GT := nk_tm 46 (by decide +kernel) rfl
theorem zw_47 : Cond.fieldLink "NeedOnce$Cells" 30 "NeedOnce$Cells" "linkTo" "[I" ∈ nk_GT := nk_tm 47 (by decide +kernel) rfl
theorem zw_49 : Cond.fieldLink "NeedOnce$Cells" 33 "NeedOnce$Cells" "beingWorked" "[Z" ∈ nk_GT := nk_tm 49 (by decide +kernel) rfl
theorem zw_50 : Cond.fieldLink "NeedOnce$Cells" 37 "NeedOnce$Cells" "keeps" "Z" ∈ nk_GT := nk_tm 50 (by decide +kernel) rfl
theorem zw_52 : Cond.fieldLink "NeedOnce$Cells" 60 "NeedOnce$Cells" "spentSoFar" "I" ∈ nk_GT := nk_tm 52 (by decide +kernel) rfl
theorem zw_54 : Cond.fieldLink "NeedOnce$Cells" 81 "NeedOnce$Cells" "worked" "I" ∈ nk_GT := nk_tm 54 (by decide +kernel) rfl
theorem zw_56 : Cond.fieldLink "NeedOnce$Cells" 84 "NeedOnce$Cells" "deep" "I" ∈ nk_GT := nk_tm 56 (by decide +kernel) rfl
theorem zw_58 : Cond.fieldLink "NeedOnce$Cells" 87 "NeedOnce$Cells" "workedCost" "I" ∈ nk_GT := nk_tm 58 (by decide +kernel) rfl
theorem zw_60 : Cond.fieldLink "NeedOnce$Cells" 90 "NeedOnce$Cells" "doneCount" "I" ∈ nk_GT := nk_tm 60 (by decide +kernel) rfl
theorem zw_61 : Cond.fieldLink "NeedOnce$Cells" 41 "NeedOnce$Cells" "done" "[I" ∈ nk_GT := nk_tm 61 (by decide +kernel) rfl
theorem zw_104 : Cond.fieldLink "NeedOnce$TextReader" 16 "NeedOnce$TextReader" "stage" "I" ∈ nk_GT := nk_tm 104 (by decide +kernel) rfl
theorem zw_105 : Cond.fieldLink "NeedOnce$TextReader" 67 "NeedOnce$TextReader" "part" "I" ∈ nk_GT := nk_tm 105 (by decide +kernel) rfl
theorem zw_117 : Cond.fieldLink "NeedOnce$Readings" 18 "NeedOnce$Readings" "count" "I" ∈ nk_GT := nk_tm 117 (by decide +kernel) rfl
theorem zw_119 : Cond.fieldLink "NeedOnce$Readings" 9 "NeedOnce$Readings" "cellOf" "[I" ∈ nk_GT := nk_tm 119 (by decide +kernel) rfl
theorem zw_120 : Cond.fieldLink "NeedOnce$Readings" 15 "NeedOnce$Readings" "costOf" "[I" ∈ nk_GT := nk_tm 120 (by decide +kernel) rfl
theorem zw_136 : Cond.fieldLink "NeedOnce$Sheets" 11 "NeedOnce$Sheets" "rows" "[[I" ∈ nk_GT := nk_tm 136 (by decide +kernel) rfl
theorem zw_137 : Cond.fieldLink "NeedOnce$Sheets" 16 "NeedOnce$Sheets" "laneOf" "[I" ∈ nk_GT := nk_tm 137 (by decide +kernel) rfl
theorem zw_139 : Cond.fieldLink "NeedOnce$Sheets" 20 "NeedOnce$Sheets" "lengthOf" "[I" ∈ nk_GT := nk_tm 139 (by decide +kernel) rfl
theorem zw_147 : Cond.fieldLink "NeedOnce" 12 "NeedOnce" "cells" "LNeedOnce$Cells;" ∈ nk_GT := nk_tm 147 (by decide +kernel) rfl
theorem zw_148 : Cond.fieldLink "NeedOnce" 18 "NeedOnce" "trial" "LNeedOnce$Cells;" ∈ nk_GT := nk_tm 148 (by decide +kernel) rfl
theorem zw_149 : Cond.fieldLink "NeedOnce" 24 "NeedOnce" "reader" "LNeedOnce$TextReader;" ∈ nk_GT := nk_tm 149 (by decide +kernel) rfl
theorem zw_150 : Cond.fieldLink "NeedOnce" 31 "NeedOnce" "readings" "LNeedOnce$Readings;" ∈ nk_GT := nk_tm 150 (by decide +kernel) rfl
theorem zw_151 : Cond.fieldLink "NeedOnce" 38 "NeedOnce" "sheets" "LNeedOnce$Sheets;" ∈ nk_GT := nk_tm 151 (by decide +kernel) rfl
theorem zw_152 : Cond.fieldLink "NeedOnce" 222 "NeedOnce" "traced" "I" ∈ nk_GT := nk_tm 152 (by decide +kernel) rfl
theorem zw_153 : Cond.fieldLink "NeedOnce" 42 "NeedOnce" "latestFault" "I" ∈ nk_GT := nk_tm 153 (by decide +kernel) rfl
theorem zw_175 : Cond.instanceMethod zy_S_has ∈ nk_GT := nk_tm 175 (by decide +kernel) rfl
set_option maxRecDepth 100000 in
theorem zw_176 : Cond.code zy_S_has zb_S_has 2 (some .boolean) ∈ nk_GT := nk_tm 176 rfl rfl
theorem zw_177 : Cond.methodLink "NeedOnce" 50 zy_N_isLane ∈ nk_GT := nk_tm 177 (by decide +kernel) rfl
theorem zw_178 : Cond.static zy_N_isLane ∈ nk_GT := nk_tm 178 (by decide +kernel) rfl
set_option maxRecDepth 100000 in
theorem zw_179 : Cond.code zy_N_isLane zb_N_isLane 1 (some .boolean) ∈ nk_GT := nk_tm 179 rfl rfl
theorem zw_182 : Cond.instanceMethod zy_S_rangeFault ∈ nk_GT := nk_tm 182 (by decide +kernel) rfl
set_option maxRecDepth 100000 in
theorem zw_183 : Cond.code zy_S_rangeFault zb_S_rangeFault 5 (some .int) ∈ nk_GT := nk_tm 183 rfl rfl
theorem zw_184 : Cond.methodLink "NeedOnce$Sheets" 29 zy_S_isRange ∈ nk_GT := nk_tm 184 (by decide +kernel) rfl
theorem zw_186 : Cond.instanceMethod zy_S_isRange ∈ nk_GT := nk_tm 186 (by decide +kernel) rfl
set_option maxRecDepth 100000 in
theorem zw_187 : Cond.code zy_S_isRange zb_S_isRange 4 (some .boolean) ∈ nk_GT := nk_tm 187 rfl rfl
theorem zw_188 : Cond.methodLink "NeedOnce" 57 zy_N_faulted ∈ nk_GT := nk_tm 188 (by decide +kernel) rfl
theorem zw_190 : Cond.instanceMethod zy_N_faulted ∈ nk_GT := nk_tm 190 (by decide +kernel) rfl
set_option maxRecDepth 100000 in
theorem zw_191 : Cond.code zy_N_faulted zb_N_faulted 2 (some .int) ∈ nk_GT := nk_tm 191 rfl rfl
theorem zw_194 : Cond.instanceMethod zy_T_readInto ∈ nk_GT := nk_tm 194 (by decide +kernel) rfl
set_option maxRecDepth 100000 in
theorem zw_195 : Cond.code zy_T_readInto zb_T_readInto 7 (some .int) ∈ nk_GT := nk_tm 195 rfl rfl
theorem zw_198 : Cond.instanceMethod zy_C_forgetAll ∈ nk_GT := nk_tm 198 (by decide +kernel) rfl
set_option maxRecDepth 100000 in
theorem zw_199 : Cond.code zy_C_forgetAll zb_C_forgetAll 1 none ∈ nk_GT := nk_tm 199 rfl rfl
theorem zw_202 : Cond.instanceMethod zy_S_at ∈ nk_GT := nk_tm 202 (by decide +kernel) rfl
set_option maxRecDepth 100000 in
theorem zw_203 : Cond.code zy_S_at zb_S_at 3 (some .int) ∈ nk_GT := nk_tm 203 rfl rfl
theorem zw_204 : Cond.methodLink "NeedOnce$TextReader" 26 zy_T_goesOn ∈ nk_GT := nk_tm 204 (by decide +kernel) rfl
theorem zw_206 : Cond.instanceMethod zy_T_goesOn ∈ nk_GT := nk_tm 206 (by decide +kernel) rfl
set_option maxRecDepth 100000 in
theorem zw_207 : Cond.code zy_T_goesOn zb_T_goesOn 4 (some .boolean) ∈ nk_GT := nk_tm 207 rfl rfl
theorem zw_208 : Cond.methodLink "NeedOnce$TextReader" 33 zy_T_takesKind ∈ nk_GT := nk_tm 208 (by decide +kernel) rfl
theorem zw_210 : Cond.instanceMethod zy_T_takesKind ∈ nk_GT := nk_tm 210 (by decide +kernel) rfl
set_option maxRecDepth 100000 in
theorem zw_211 : Cond.code zy_T_takesKind zb_T_takesKind 5 (some .boolean) ∈ nk_GT := nk_tm 211 rfl rfl
theorem zw_214 : Cond.methodLink "NeedOnce$TextReader" 50 zy_T_placeIn ∈ nk_GT := nk_tm 214 (by decide +kernel) rfl
theorem zw_215 : Cond.static zy_T_placeIn ∈ nk_GT := nk_tm 215 (by decide +kernel) rfl
set_option maxRecDepth 100000 in
theorem zw_216 : Cond.code zy_T_placeIn zb_T_placeIn 3 (some .int) ∈ nk_GT := nk_tm 216 rfl rfl
theorem zw_217 : Cond.methodLink "NeedOnce$TextReader" 37 zy_T_takesPrice ∈ nk_GT := nk_tm 217 (by decide +kernel) rfl
theorem zw_219 : Cond.instanceMethod zy_T_takesPrice ∈ nk_GT := nk_tm 219 (by decide +kernel) rfl
set_option maxRecDepth 100000 in
theorem zw_220 : Cond.code zy_T_takesPrice zb_T_takesPrice 4 (some .boolean) ∈ nk_GT := nk_tm 220 rfl rfl
theorem zw_221 : Cond.methodLink "NeedOnce$TextReader" 40 zy_T_takesSign ∈ nk_GT := nk_tm 221 (by decide +kernel) rfl
theorem zw_223 : Cond.instanceMethod zy_T_takesSign ∈ nk_GT := nk_tm 223 (by decide +kernel) rfl
set_option maxRecDepth 100000 in
theorem zw_224 : Cond.code zy_T_takesSign zb_T_takesSign 5 (some .boolean) ∈ nk_GT := nk_tm 224 rfl rfl
theorem zw_227 : Cond.methodLink "NeedOnce$TextReader" 43 zy_T_takesPart ∈ nk_GT := nk_tm 227 (by decide +kernel) rfl
theorem zw_229 : Cond.instanceMethod zy_T_takesPart ∈ nk_GT := nk_tm 229 (by decide +kernel) rfl
set_option maxRecDepth 100000 in
theorem zw_230 : Cond.code zy_T_takesPart zb_T_takesPart 5 (some .boolean) ∈ nk_GT := nk_tm 230 rfl rfl
theorem zw_233 : Cond.instanceMethod zy_C_tellPart ∈ nk_GT := nk_tm 233 (by decide +kernel) rfl
set_option maxRecDepth 100000 in
theorem zw_234 : Cond.code zy_C_tellPart zb_C_tellPart 4 none ∈ nk_GT := nk_tm 234 rfl rfl
theorem zw_239 : Cond.instanceMethod zy_C_firstLoose ∈ nk_GT := nk_tm 239 (by decide +kernel) rfl
set_option maxRecDepth 100000 in
theorem zw_240 : Cond.code zy_C_firstLoose zb_C_firstLoose 2 (some .int) ∈ nk_GT := nk_tm 240 rfl rfl
theorem zw_241 : Cond.methodLink "NeedOnce$Cells" 63 zy_C_partSet ∈ nk_GT := nk_tm 241 (by decide +kernel) rfl
theorem zw_243 : Cond.instanceMethod zy_C_partSet ∈ nk_GT := nk_tm 243 (by decide +kernel) rfl
set_option maxRecDepth 100000 in
theorem zw_244 : Cond.code zy_C_partSet zb_C_partSet 4 (some .int) ∈ nk_GT := nk_tm 244 rfl rfl
theorem zw_246 : Cond.methodLink "NeedOnce$Cells" 67 zy_C_partAsTold ∈ nk_GT := nk_tm 246 (by decide +kernel) rfl
theorem zw_248 : Cond.instanceMethod zy_C_partAsTold ∈ nk_GT := nk_tm 248 (by decide +kernel) rfl
set_option maxRecDepth 100000 in
theorem zw_249 : Cond.code zy_C_partAsTold zb_C_partAsTold 3 (some .int) ∈ nk_GT := nk_tm 249 rfl rfl
theorem zw_252 : Cond.instanceMethod zy_C_becomeLike ∈ nk_GT := nk_tm 252 (by decide +kernel) rfl
set_option maxRecDepth 100000 in
theorem zw_253 : Cond.code zy_C_becomeLike zb_C_becomeLike 2 none ∈ nk_GT := nk_tm 253 rfl rfl
theorem zw_254 : Cond.methodLink "NeedOnce$Cells" 54 arraycopyName ∈ nk_GT := nk_tm 254 (by decide +kernel) rfl
theorem zw_255 : Cond.static arraycopyName ∈ nk_GT := nk_tm 255 (by decide +kernel) rfl
theorem zw_256 : Cond.native arraycopyName ∈ nk_GT := nk_tm 256 (by decide +kernel) rfl
theorem zw_259 : Cond.instanceMethod zy_C_startLatest ∈ nk_GT := nk_tm 259 (by decide +kernel) rfl
set_option maxRecDepth 100000 in
theorem zw_260 : Cond.code zy_C_startLatest zb_C_startLatest 1 none ∈ nk_GT := nk_tm 260 rfl rfl
theorem zw_267 : Cond.instanceMethod zy_C_has ∈ nk_GT := nk_tm 267 (by decide +kernel) rfl
set_option maxRecDepth 100000 in
theorem zw_268 : Cond.code zy_C_has zb_C_has 2 (some .boolean) ∈ nk_GT := nk_tm 268 rfl rfl
theorem zw_271 : Cond.instanceMethod zy_C_costOf ∈ nk_GT := nk_tm 271 (by decide +kernel) rfl
set_option maxRecDepth 100000 in
theorem zw_272 : Cond.code zy_C_costOf zb_C_costOf 2 (some .int) ∈ nk_GT := nk_tm 272 rfl rfl
theorem zw_275 : Cond.instanceMethod zy_C_formNow ∈ nk_GT := nk_tm 275 (by decide +kernel) rfl
set_option maxRecDepth 100000 in
theorem zw_276 : Cond.code zy_C_formNow zb_C_formNow 2 (some .int) ∈ nk_GT := nk_tm 276 rfl rfl
theorem zw_279 : Cond.instanceMethod zy_C_isAwake ∈ nk_GT := nk_tm 279 (by decide +kernel) rfl
set_option maxRecDepth 100000 in
theorem zw_280 : Cond.code zy_C_isAwake zb_C_isAwake 2 (some .boolean) ∈ nk_GT := nk_tm 280 rfl rfl
theorem zw_292 : Cond.instanceMethod zy_C_needAnew ∈ nk_GT := nk_tm 292 (by decide +kernel) rfl
set_option maxRecDepth 100000 in
theorem zw_293 : Cond.code zy_C_needAnew zb_C_needAnew 2 (some .int) ∈ nk_GT := nk_tm 293 rfl rfl
theorem zw_294 : Cond.methodLink "NeedOnce$Cells" 93 zy_C_startLatest ∈ nk_GT := nk_tm 294 (by decide +kernel) rfl
theorem zw_295 : Cond.methodLink "NeedOnce$Cells" 96 zy_C_comeTo ∈ nk_GT := nk_tm 295 (by decide +kernel) rfl
theorem zw_297 : Cond.instanceMethod zy_C_comeTo ∈ nk_GT := nk_tm 297 (by decide +kernel) rfl
set_option maxRecDepth 100000 in
theorem zw_298 : Cond.code zy_C_comeTo zb_C_comeTo 4 (some .int) ∈ nk_GT := nk_tm 298 rfl rfl
theorem zw_299 : Cond.methodLink "NeedOnce$Cells" 77 zy_C_isAwake ∈ nk_GT := nk_tm 299 (by decide +kernel) rfl
theorem zw_300 : Cond.methodLink "NeedOnce$Cells" 99 Lib.Math.max.name ∈ nk_GT := nk_tm 300 (by decide +kernel) rfl
theorem zw_301 : Cond.static Lib.Math.max.name ∈ nk_GT := nk_tm 301 (by decide +kernel) rfl
set_option maxRecDepth 100000 in
theorem zw_302 : Cond.code Lib.Math.max.name Lib.Math.max.code 2 (some .int) ∈ nk_GT := nk_tm 302 rfl rfl
theorem zw_303 : Cond.methodLink "NeedOnce$Cells" 104 zy_C_payFor ∈ nk_GT := nk_tm 303 (by decide +kernel) rfl
theorem zw_305 : Cond.instanceMethod zy_C_payFor ∈ nk_GT := nk_tm 305 (by decide +kernel) rfl
set_option maxRecDepth 100000 in
theorem zw_306 : Cond.code zy_C_payFor zb_C_payFor 2 none ∈ nk_GT := nk_tm 306 rfl rfl
theorem zw_307 : Cond.methodLink "NeedOnce$Cells" 115 zy_C_costOf ∈ nk_GT := nk_tm 307 (by decide +kernel) rfl
theorem zw_308 : Cond.methodLink "NeedOnce$Cells" 108 zy_C_workOut ∈ nk_GT := nk_tm 308 (by decide +kernel) rfl
theorem zw_310 : Cond.instanceMethod zy_C_workOut ∈ nk_GT := nk_tm 310 (by decide +kernel) rfl
set_option maxRecDepth 100000 in
theorem zw_311 : Cond.code zy_C_workOut zb_C_workOut 3 (some .int) ∈ nk_GT := nk_tm 311 rfl rfl
theorem zw_312 : Cond.methodLink "NeedOnce$Cells" 118 zy_C_formNow ∈ nk_GT := nk_tm 312 (by decide +kernel) rfl
theorem zw_313 : Cond.methodLink "NeedOnce$Cells" 121 zy_C_workOutBoth ∈ nk_GT := nk_tm 313 (by decide +kernel) rfl
theorem zw_315 : Cond.instanceMethod zy_C_workOutBoth ∈ nk_GT := nk_tm 315 (by decide +kernel) rfl
set_option maxRecDepth 100000 in
theorem zw_316 : Cond.code zy_C_workOutBoth zb_C_workOutBoth 5 (some .int) ∈ nk_GT := nk_tm 316 rfl rfl
theorem zw_317 : Cond.methodLink "NeedOnce$Cells" 134 zy_C_comeToNumber ∈ nk_GT := nk_tm 317 (by decide +kernel) rfl
theorem zw_319 : Cond.instanceMethod zy_C_comeToNumber ∈ nk_GT := nk_tm 319 (by decide +kernel) rfl
set_option maxRecDepth 100000 in
theorem zw_320 : Cond.code zy_C_comeToNumber zb_C_comeToNumber 4 (some .int) ∈ nk_GT := nk_tm 320 rfl rfl
theorem zw_321 : Cond.methodLink "NeedOnce$Cells" 124 zy_C_workOutChoice ∈ nk_GT := nk_tm 321 (by decide +kernel) rfl
theorem zw_323 : Cond.instanceMethod zy_C_workOutChoice ∈ nk_GT := nk_tm 323 (by decide +kernel) rfl
set_option maxRecDepth 100000 in
theorem zw_324 : Cond.code zy_C_workOutChoice zb_C_workOutChoice 4 (some .int) ∈ nk_GT := nk_tm 324 rfl rfl
theorem zw_325 : Cond.methodLink "NeedOnce$Cells" 130 zy_C_passOn ∈ nk_GT := nk_tm 325 (by decide +kernel) rfl
theorem zw_327 : Cond.instanceMethod zy_C_passOn ∈ nk_GT := nk_tm 327 (by decide +kernel) rfl
set_option maxRecDepth 100000 in
theorem zw_328 : Cond.code zy_C_passOn zb_C_passOn 5 (some .int) ∈ nk_GT := nk_tm 328 rfl rfl
theorem zw_329 : Cond.methodLink "NeedOnce$Cells" 127 zy_C_workOutOfPair ∈ nk_GT := nk_tm 329 (by decide +kernel) rfl
theorem zw_331 : Cond.instanceMethod zy_C_workOutOfPair ∈ nk_GT := nk_tm 331 (by decide +kernel) rfl
set_option maxRecDepth 100000 in
theorem zw_332 : Cond.code zy_C_workOutOfPair zb_C_workOutOfPair 5 (some .int) ∈ nk_GT := nk_tm 332 rfl rfl
theorem zw_333 : Cond.methodLink "NeedOnce$Cells" 137 zy_C_partOfPair ∈ nk_GT := nk_tm 333 (by decide +kernel) rfl
theorem zw_335 : Cond.instanceMethod zy_C_partOfPair ∈ nk_GT := nk_tm 335 (by decide +kernel) rfl
set_option maxRecDepth 100000 in
theorem zw_336 : Cond.code zy_C_partOfPair zb_C_partOfPair 3 (some .int) ∈ nk_GT := nk_tm 336 rfl rfl
theorem zw_337 : Cond.methodLink "NeedOnce$Cells" 111 zy_C_keep ∈ nk_GT := nk_tm 337 (by decide +kernel) rfl
theorem zw_339 : Cond.instanceMethod zy_C_keep ∈ nk_GT := nk_tm 339 (by decide +kernel) rfl
set_option maxRecDepth 100000 in
theorem zw_340 : Cond.code zy_C_keep zb_C_keep 3 none ∈ nk_GT := nk_tm 340 rfl rfl
theorem zw_355 : Cond.instanceMethod zy_C_howManyAwake ∈ nk_GT := nk_tm 355 (by decide +kernel) rfl
set_option maxRecDepth 100000 in
theorem zw_356 : Cond.code zy_C_howManyAwake zb_C_howManyAwake 3 (some .int) ∈ nk_GT := nk_tm 356 rfl rfl
theorem zw_364 : Cond.instanceMethod zy_C_makeLinks ∈ nk_GT := nk_tm 364 (by decide +kernel) rfl
set_option maxRecDepth 100000 in
theorem zw_365 : Cond.code zy_C_makeLinks zb_C_makeLinks 3 (some .int) ∈ nk_GT := nk_tm 365 rfl rfl
theorem zw_366 : Cond.methodLink "NeedOnce$Cells" 140 zy_C_canBeLink ∈ nk_GT := nk_tm 366 (by decide +kernel) rfl
theorem zw_368 : Cond.instanceMethod zy_C_canBeLink ∈ nk_GT := nk_tm 368 (by decide +kernel) rfl
set_option maxRecDepth 100000 in
theorem zw_369 : Cond.code zy_C_canBeLink zb_C_canBeLink 3 (some .boolean) ∈ nk_GT := nk_tm 369 rfl rfl
theorem zw_376 : Cond.instanceMethod zy_C_heldBy ∈ nk_GT := nk_tm 376 (by decide +kernel) rfl
set_option maxRecDepth 100000 in
theorem zw_377 : Cond.code zy_C_heldBy zb_C_heldBy 6 (some .int) ∈ nk_GT := nk_tm 377 rfl rfl
theorem zw_378 : Cond.methodLink "NeedOnce$Cells" 143 zy_C_heldDirectly ∈ nk_GT := nk_tm 378 (by decide +kernel) rfl
theorem zw_380 : Cond.instanceMethod zy_C_heldDirectly ∈ nk_GT := nk_tm 380 (by decide +kernel) rfl
set_option maxRecDepth 100000 in
theorem zw_381 : Cond.code zy_C_heldDirectly zb_C_heldDirectly 2 (some .int) ∈ nk_GT := nk_tm 381 rfl rfl
theorem zw_388 : Cond.instanceMethod zy_C_timesPlainly ∈ nk_GT := nk_tm 388 (by decide +kernel) rfl
set_option maxRecDepth 100000 in
theorem zw_389 : Cond.code zy_C_timesPlainly zb_C_timesPlainly 3 (some .int) ∈ nk_GT := nk_tm 389 rfl rfl
theorem zw_390 : Cond.methodLink "NeedOnce$Cells" 146 zy_C_needAnew ∈ nk_GT := nk_tm 390 (by decide +kernel) rfl
theorem zw_395 : Cond.methodLink "NeedOnce" 143 zy_N_isOfDay ∈ nk_GT := nk_tm 395 (by decide +kernel) rfl
theorem zw_396 : Cond.static zy_N_isOfDay ∈ nk_GT := nk_tm 396 (by decide +kernel) rfl
set_option maxRecDepth 100000 in
theorem zw_397 : Cond.code zy_N_isOfDay zb_N_isOfDay 1 (some .boolean) ∈ nk_GT := nk_tm 397 rfl rfl
theorem zw_398 : Cond.methodLink "NeedOnce" 146 zy_N_areActs ∈ nk_GT := nk_tm 398 (by decide +kernel) rfl
theorem zw_400 : Cond.instanceMethod zy_N_areActs ∈ nk_GT := nk_tm 400 (by decide +kernel) rfl
set_option maxRecDepth 100000 in
theorem zw_401 : Cond.code zy_N_areActs zb_N_areActs 6 (some .boolean) ∈ nk_GT := nk_tm 401 rfl rfl
theorem zw_403 : Cond.methodLink "NeedOnce" 160 zy_N_isAct ∈ nk_GT := nk_tm 403 (by decide +kernel) rfl
theorem zw_404 : Cond.static zy_N_isAct ∈ nk_GT := nk_tm 404 (by decide +kernel) rfl
set_option maxRecDepth 100000 in
theorem zw_405 : Cond.code zy_N_isAct zb_N_isAct 3 (some .boolean) ∈ nk_GT := nk_tm 405 rfl rfl
theorem zw_406 : Cond.methodLink "NeedOnce" 150 zy_N_doActs ∈ nk_GT := nk_tm 406 (by decide +kernel) rfl
theorem zw_408 : Cond.instanceMethod zy_N_doActs ∈ nk_GT := nk_tm 408 (by decide +kernel) rfl
set_option maxRecDepth 100000 in
theorem zw_409 : Cond.code zy_N_doActs zb_N_doActs 6 (some .int) ∈ nk_GT := nk_tm 409 rfl rfl
theorem zw_410 : Cond.methodLink "NeedOnce" 164 zy_N_canDo ∈ nk_GT := nk_tm 410 (by decide +kernel) rfl
theorem zw_412 : Cond.instanceMethod zy_N_canDo ∈ nk_GT := nk_tm 412 (by decide +kernel) rfl
set_option maxRecDepth 100000 in
theorem zw_413 : Cond.code zy_N_canDo zb_N_canDo 5 (some .boolean) ∈ nk_GT := nk_tm 413 rfl rfl
theorem zw_414 : Cond.methodLink "NeedOnce" 154 zy_N_afterDay ∈ nk_GT := nk_tm 414 (by decide +kernel) rfl
theorem zw_416 : Cond.instanceMethod zy_N_afterDay ∈ nk_GT := nk_tm 416 (by decide +kernel) rfl
set_option maxRecDepth 100000 in
theorem zw_417 : Cond.code zy_N_afterDay zb_N_afterDay 2 (some .int) ∈ nk_GT := nk_tm 417 rfl rfl
theorem zw_420 : Cond.instanceMethod zy_C_howManyLinks ∈ nk_GT := nk_tm 420 (by decide +kernel) rfl
set_option maxRecDepth 100000 in
theorem zw_421 : Cond.code zy_C_howManyLinks zb_C_howManyLinks 3 (some .int) ∈ nk_GT := nk_tm 421 rfl rfl
theorem zw_428 : Cond.instanceMethod zy_R_add ∈ nk_GT := nk_tm 428 (by decide +kernel) rfl
set_option maxRecDepth 100000 in
theorem zw_429 : Cond.code zy_R_add zb_R_add 3 (some .int) ∈ nk_GT := nk_tm 429 rfl rfl
theorem zw_440 : Cond.instanceMethod zy_R_areSo ∈ nk_GT := nk_tm 440 (by decide +kernel) rfl
set_option maxRecDepth 100000 in
theorem zw_441 : Cond.code zy_R_areSo zb_R_areSo 3 (some .boolean) ∈ nk_GT := nk_tm 441 rfl rfl
theorem zw_444 : Cond.instanceMethod zy_C_costFromAsleep ∈ nk_GT := nk_tm 444 (by decide +kernel) rfl
set_option maxRecDepth 100000 in
theorem zw_445 : Cond.code zy_C_costFromAsleep zb_C_costFromAsleep 2 (some .int) ∈ nk_GT := nk_tm 445 rfl rfl
theorem zw_454 : Cond.constantLong "NeedOnce" 177 (-9223372036854775808 : Int64) ∈ nk_GT := nk_tm 454 (by decide +kernel) rfl
theorem zw_455 : Cond.methodLink "NeedOnce" 182 zy_N_timesItComesTo ∈ nk_GT := nk_tm 455 (by decide +kernel) rfl
theorem zw_457 : Cond.instanceMethod zy_N_timesItComesTo ∈ nk_GT := nk_tm 457 (by decide +kernel) rfl
set_option maxRecDepth 100000 in
theorem zw_458 : Cond.code zy_N_timesItComesTo zb_N_timesItComesTo 6 (some .int) ∈ nk_GT := nk_tm 458 rfl rfl
theorem zw_460 : Cond.methodLink "NeedOnce" 185 zy_N_commonWithTen ∈ nk_GT := nk_tm 460 (by decide +kernel) rfl
theorem zw_461 : Cond.static zy_N_commonWithTen ∈ nk_GT := nk_tm 461 (by decide +kernel) rfl
set_option maxRecDepth 100000 in
theorem zw_462 : Cond.code zy_N_commonWithTen zb_N_commonWithTen 3 (some .int) ∈ nk_GT := nk_tm 462 rfl rfl
theorem zw_469 : Cond.instanceMethod zy_S_makeRow ∈ nk_GT := nk_tm 469 (by decide +kernel) rfl
set_option maxRecDepth 100000 in
theorem zw_470 : Cond.code zy_S_makeRow zb_S_makeRow 4 none ∈ nk_GT := nk_tm 470 rfl rfl
theorem zw_471 : Cond.methodLink "NeedOnce$Sheets" 23 zy_J_fill ∈ nk_GT := nk_tm 471 (by decide +kernel) rfl
theorem zw_482 : Cond.instanceMethod zy_S_setCut ∈ nk_GT := nk_tm 482 (by decide +kernel) rfl
set_option maxRecDepth 100000 in
theorem zw_483 : Cond.code zy_S_setCut zb_S_setCut 4 none ∈ nk_GT := nk_tm 483 rfl rfl
theorem zw_494 : Cond.instanceMethod zy_S_moveFault ∈ nk_GT := nk_tm 494 (by decide +kernel) rfl
set_option maxRecDepth 100000 in
theorem zw_495 : Cond.code zy_S_moveFault zb_S_moveFault 6 (some .int) ∈ nk_GT := nk_tm 495 rfl rfl
theorem zw_498 : Cond.instanceMethod zy_S_move ∈ nk_GT := nk_tm 498 (by decide +kernel) rfl
set_option maxRecDepth 100000 in
theorem zw_499 : Cond.code zy_S_move zb_S_move 6 none ∈ nk_GT := nk_tm 499 rfl rfl
theorem zw_500 : Cond.methodLink "NeedOnce$Sheets" 33 arraycopyName ∈ nk_GT := nk_tm 500 (by decide +kernel) rfl
theorem zw_505 : Cond.methodLink "NeedOnce" 209 zy_N_tellDouble ∈ nk_GT := nk_tm 505 (by decide +kernel) rfl
theorem zw_507 : Cond.instanceMethod zy_N_tellDouble ∈ nk_GT := nk_tm 507 (by decide +kernel) rfl
set_option maxRecDepth 100000 in
theorem zw_508 : Cond.code zy_N_tellDouble zb_N_tellDouble 3 (some .int) ∈ nk_GT := nk_tm 508 rfl rfl
theorem zw_509 : Cond.methodLink "NeedOnce" 218 zy_N_leaveTrace ∈ nk_GT := nk_tm 509 (by decide +kernel) rfl
theorem zw_511 : Cond.instanceMethod zy_N_leaveTrace ∈ nk_GT := nk_tm 511 (by decide +kernel) rfl
set_option maxRecDepth 100000 in
theorem zw_512 : Cond.code zy_N_leaveTrace zb_N_leaveTrace 2 none ∈ nk_GT := nk_tm 512 rfl rfl
theorem zw_513 : Cond.methodLink "NeedOnce" 212 zy_N_tellDear ∈ nk_GT := nk_tm 513 (by decide +kernel) rfl
theorem zw_515 : Cond.instanceMethod zy_N_tellDear ∈ nk_GT := nk_tm 515 (by decide +kernel) rfl
set_option maxRecDepth 100000 in
theorem zw_516 : Cond.code zy_N_tellDear zb_N_tellDear 2 (some .int) ∈ nk_GT := nk_tm 516 rfl rfl
theorem zw_517 : Cond.methodLink "NeedOnce" 215 zy_N_tellPlain ∈ nk_GT := nk_tm 517 (by decide +kernel) rfl
theorem zw_519 : Cond.instanceMethod zy_N_tellPlain ∈ nk_GT := nk_tm 519 (by decide +kernel) rfl
set_option maxRecDepth 100000 in
theorem zw_520 : Cond.code zy_N_tellPlain zb_N_tellPlain 2 (some .int) ∈ nk_GT := nk_tm 520 rfl rfl
theorem zw_547 : Cond.fieldLink "NeedOnceModel" 96 "NeedOnceModel" "fault" "I" ∈ nk_GT := nk_tm 547 (by decide +kernel) rfl
theorem zw_548 : Cond.fieldLink "NeedOnceModel" 104 "NeedOnceModel" "cells" "I" ∈ nk_GT := nk_tm 548 (by decide +kernel) rfl
theorem zw_549 : Cond.fieldLink "NeedOnceModel" 7 "NeedOnceModel" "kindOf" "[I" ∈ nk_GT := nk_tm 549 (by decide +kernel) rfl
theorem zw_550 : Cond.fieldLink "NeedOnceModel" 13 "NeedOnceModel" "priceOf" "[I" ∈ nk_GT := nk_tm 550 (by decide +kernel) rfl
theorem zw_551 : Cond.fieldLink "NeedOnceModel" 16 "NeedOnceModel" "formOf" "[I" ∈ nk_GT := nk_tm 551 (by decide +kernel) rfl
theorem zw_552 : Cond.fieldLink "NeedOnceModel" 19 "NeedOnceModel" "partOf" "[I" ∈ nk_GT := nk_tm 552 (by decide +kernel) rfl
theorem zw_553 : Cond.fieldLink "NeedOnceModel" 111 "NeedOnceModel" "readAt" "I" ∈ nk_GT := nk_tm 553 (by decide +kernel) rfl
theorem zw_554 : Cond.fieldLink "NeedOnceModel" 122 "NeedOnceModel" "readCells" "I" ∈ nk_GT := nk_tm 554 (by decide +kernel) rfl
theorem zw_555 : Cond.fieldLink "NeedOnceModel" 22 "NeedOnceModel" "readKind" "[I" ∈ nk_GT := nk_tm 555 (by decide +kernel) rfl
theorem zw_556 : Cond.fieldLink "NeedOnceModel" 25 "NeedOnceModel" "readPrice" "[I" ∈ nk_GT := nk_tm 556 (by decide +kernel) rfl
theorem zw_557 : Cond.fieldLink "NeedOnceModel" 28 "NeedOnceModel" "readForm" "[I" ∈ nk_GT := nk_tm 557 (by decide +kernel) rfl
theorem zw_558 : Cond.fieldLink "NeedOnceModel" 31 "NeedOnceModel" "readPart" "[I" ∈ nk_GT := nk_tm 558 (by decide +kernel) rfl
theorem zw_559 : Cond.fieldLink "NeedOnceModel" 34 "NeedOnceModel" "cameOf" "[I" ∈ nk_GT := nk_tm 559 (by decide +kernel) rfl
theorem zw_560 : Cond.fieldLink "NeedOnceModel" 37 "NeedOnceModel" "pairOne" "[I" ∈ nk_GT := nk_tm 560 (by decide +kernel) rfl
theorem zw_561 : Cond.fieldLink "NeedOnceModel" 40 "NeedOnceModel" "pairTwo" "[I" ∈ nk_GT := nk_tm 561 (by decide +kernel) rfl
theorem zw_562 : Cond.fieldLink "NeedOnceModel" 43 "NeedOnceModel" "linkOf" "[I" ∈ nk_GT := nk_tm 562 (by decide +kernel) rfl
theorem zw_563 : Cond.fieldLink "NeedOnceModel" 169 "NeedOnceModel" "spentNow" "I" ∈ nk_GT := nk_tm 563 (by decide +kernel) rfl
theorem zw_564 : Cond.fieldLink "NeedOnceModel" 184 "NeedOnceModel" "depth" "I" ∈ nk_GT := nk_tm 564 (by decide +kernel) rfl
theorem zw_565 : Cond.fieldLink "NeedOnceModel" 46 "NeedOnceModel" "onCell" "[I" ∈ nk_GT := nk_tm 565 (by decide +kernel) rfl
theorem zw_566 : Cond.fieldLink "NeedOnceModel" 49 "NeedOnceModel" "onStage" "[I" ∈ nk_GT := nk_tm 566 (by decide +kernel) rfl
theorem zw_567 : Cond.fieldLink "NeedOnceModel" 52 "NeedOnceModel" "onNumber" "[I" ∈ nk_GT := nk_tm 567 (by decide +kernel) rfl
theorem zw_568 : Cond.fieldLink "NeedOnceModel" 191 "NeedOnceModel" "come" "I" ∈ nk_GT := nk_tm 568 (by decide +kernel) rfl
theorem zw_569 : Cond.fieldLink "NeedOnceModel" 194 "NeedOnceModel" "comeOne" "I" ∈ nk_GT := nk_tm 569 (by decide +kernel) rfl
theorem zw_570 : Cond.fieldLink "NeedOnceModel" 197 "NeedOnceModel" "comeTwo" "I" ∈ nk_GT := nk_tm 570 (by decide +kernel) rfl
theorem zw_571 : Cond.fieldLink "NeedOnceModel" 206 "NeedOnceModel" "worked" "I" ∈ nk_GT := nk_tm 571 (by decide +kernel) rfl
theorem zw_572 : Cond.fieldLink "NeedOnceModel" 209 "NeedOnceModel" "deep" "I" ∈ nk_GT := nk_tm 572 (by decide +kernel) rfl
theorem zw_573 : Cond.fieldLink "NeedOnceModel" 212 "NeedOnceModel" "costs" "I" ∈ nk_GT := nk_tm 573 (by decide +kernel) rfl
theorem zw_574 : Cond.fieldLink "NeedOnceModel" 218 "NeedOnceModel" "done" "I" ∈ nk_GT := nk_tm 574 (by decide +kernel) rfl
theorem zw_575 : Cond.fieldLink "NeedOnceModel" 55 "NeedOnceModel" "doneOf" "[I" ∈ nk_GT := nk_tm 575 (by decide +kernel) rfl
theorem zw_576 : Cond.fieldLink "NeedOnceModel" 187 "NeedOnceModel" "keepsNone" "Z" ∈ nk_GT := nk_tm 576 (by decide +kernel) rfl
theorem zw_577 : Cond.fieldLink "NeedOnceModel" 203 "NeedOnceModel" "endless" "Z" ∈ nk_GT := nk_tm 577 (by decide +kernel) rfl
theorem zw_578 : Cond.fieldLink "NeedOnceModel" 172 "NeedOnceModel" "latestWorked" "I" ∈ nk_GT := nk_tm 578 (by decide +kernel) rfl
theorem zw_579 : Cond.fieldLink "NeedOnceModel" 175 "NeedOnceModel" "latestDeep" "I" ∈ nk_GT := nk_tm 579 (by decide +kernel) rfl
theorem zw_580 : Cond.fieldLink "NeedOnceModel" 178 "NeedOnceModel" "latestCost" "I" ∈ nk_GT := nk_tm 580 (by decide +kernel) rfl
theorem zw_581 : Cond.fieldLink "NeedOnceModel" 58 "NeedOnceModel" "latestDone" "[I" ∈ nk_GT := nk_tm 581 (by decide +kernel) rfl
theorem zw_582 : Cond.fieldLink "NeedOnceModel" 61 "NeedOnceModel" "hadCame" "[I" ∈ nk_GT := nk_tm 582 (by decide +kernel) rfl
theorem zw_583 : Cond.fieldLink "NeedOnceModel" 64 "NeedOnceModel" "hadOne" "[I" ∈ nk_GT := nk_tm 583 (by decide +kernel) rfl
theorem zw_584 : Cond.fieldLink "NeedOnceModel" 67 "NeedOnceModel" "hadTwo" "[I" ∈ nk_GT := nk_tm 584 (by decide +kernel) rfl
theorem zw_585 : Cond.fieldLink "NeedOnceModel" 70 "NeedOnceModel" "hadLink" "[I" ∈ nk_GT := nk_tm 585 (by decide +kernel) rfl
theorem zw_586 : Cond.fieldLink "NeedOnceModel" 73 "NeedOnceModel" "hadPrice" "[I" ∈ nk_GT := nk_tm 586 (by decide +kernel) rfl
theorem zw_587 : Cond.fieldLink "NeedOnceModel" 273 "NeedOnceModel" "daySpent" "I" ∈ nk_GT := nk_tm 587 (by decide +kernel) rfl
theorem zw_588 : Cond.fieldLink "NeedOnceModel" 166 "NeedOnceModel" "readings" "I" ∈ nk_GT := nk_tm 588 (by decide +kernel) rfl
theorem zw_589 : Cond.fieldLink "NeedOnceModel" 76 "NeedOnceModel" "readingOf" "[I" ∈ nk_GT := nk_tm 589 (by decide +kernel) rfl
theorem zw_590 : Cond.fieldLink "NeedOnceModel" 79 "NeedOnceModel" "readingIs" "[I" ∈ nk_GT := nk_tm 590 (by decide +kernel) rfl
theorem zw_591 : Cond.fieldLink "NeedOnceModel" 82 "NeedOnceModel" "sheetSize" "[I" ∈ nk_GT := nk_tm 591 (by decide +kernel) rfl
theorem zw_592 : Cond.fieldLink "NeedOnceModel" 85 "NeedOnceModel" "sheetLane" "[I" ∈ nk_GT := nk_tm 592 (by decide +kernel) rfl
theorem zw_593 : Cond.fieldLink "NeedOnceModel" 88 "NeedOnceModel" "sheet" "[I" ∈ nk_GT := nk_tm 593 (by decide +kernel) rfl
theorem zw_594 : Cond.fieldLink "NeedOnceModel" 91 "NeedOnceModel" "hands" "[I" ∈ nk_GT := nk_tm 594 (by decide +kernel) rfl
theorem zw_595 : Cond.fieldLink "NeedOnceModel" 330 "NeedOnceModel" "traceNow" "I" ∈ nk_GT := nk_tm 595 (by decide +kernel) rfl
theorem zw_699 : Cond.methodLink "NeedOnceModel" 146 zy_M_noSheet ∈ nk_GT := nk_tm 699 (by decide +kernel) rfl
theorem zw_700 : Cond.static zy_M_noSheet ∈ nk_GT := nk_tm 700 (by decide +kernel) rfl
set_option maxRecDepth 100000 in
theorem zw_701 : Cond.code zy_M_noSheet zb_M_noSheet 1 (some .boolean) ∈ nk_GT := nk_tm 701 rfl rfl
theorem zw_702 : Cond.constantLong "NeedOnceModel" 321 (3 : Int64) ∈ nk_GT := nk_tm 702 (by decide +kernel) rfl
theorem zw_703 : Cond.methodLink "NeedOnceModel" 107 zy_M_in ∈ nk_GT := nk_tm 703 (by decide +kernel) rfl
theorem zw_704 : Cond.static zy_M_in ∈ nk_GT := nk_tm 704 (by decide +kernel) rfl
set_option maxRecDepth 100000 in
theorem zw_705 : Cond.code zy_M_in zb_M_in 6 (some .boolean) ∈ nk_GT := nk_tm 705 rfl rfl
theorem zw_706 : Cond.methodLink "NeedOnceModel" 150 zy_M_refused ∈ nk_GT := nk_tm 706 (by decide +kernel) rfl
theorem zw_708 : Cond.instanceMethod zy_M_refused ∈ nk_GT := nk_tm 708 (by decide +kernel) rfl
set_option maxRecDepth 100000 in
theorem zw_709 : Cond.code zy_M_refused zb_M_refused 2 (some .int) ∈ nk_GT := nk_tm 709 rfl rfl
theorem zw_710 : Cond.constantLong "NeedOnceModel" 153 (2 : Int64) ∈ nk_GT := nk_tm 710 (by decide +kernel) rfl
theorem zw_711 : Cond.methodLink "NeedOnceModel" 155 zy_M_cellsBarred ∈ nk_GT := nk_tm 711 (by decide +kernel) rfl
theorem zw_713 : Cond.instanceMethod zy_M_cellsBarred ∈ nk_GT := nk_tm 713 (by decide +kernel) rfl
set_option maxRecDepth 100000 in
theorem zw_714 : Cond.code zy_M_cellsBarred zb_M_cellsBarred 6 (some .int) ∈ nk_GT := nk_tm 714 rfl rfl
theorem zw_715 : Cond.methodLink "NeedOnceModel" 139 zy_M_failed ∈ nk_GT := nk_tm 715 (by decide +kernel) rfl
theorem zw_717 : Cond.instanceMethod zy_M_failed ∈ nk_GT := nk_tm 717 (by decide +kernel) rfl
set_option maxRecDepth 100000 in
theorem zw_718 : Cond.code zy_M_failed zb_M_failed 2 (some .int) ∈ nk_GT := nk_tm 718 rfl rfl
theorem zw_719 : Cond.methodLink "NeedOnceModel" 142 zy_M_isBeyond ∈ nk_GT := nk_tm 719 (by decide +kernel) rfl
theorem zw_720 : Cond.static zy_M_isBeyond ∈ nk_GT := nk_tm 720 (by decide +kernel) rfl
set_option maxRecDepth 100000 in
theorem zw_721 : Cond.code zy_M_isBeyond zb_M_isBeyond 4 (some .boolean) ∈ nk_GT := nk_tm 721 rfl rfl
theorem zw_722 : Cond.methodLink "NeedOnceModel" 159 zy_M_readsCells ∈ nk_GT := nk_tm 722 (by decide +kernel) rfl
theorem zw_724 : Cond.instanceMethod zy_M_readsCells ∈ nk_GT := nk_tm 724 (by decide +kernel) rfl
set_option maxRecDepth 100000 in
theorem zw_725 : Cond.code zy_M_readsCells zb_M_readsCells 4 (some .boolean) ∈ nk_GT := nk_tm 725 rfl rfl
theorem zw_726 : Cond.methodLink "NeedOnceModel" 114 zy_M_codeAt ∈ nk_GT := nk_tm 726 (by decide +kernel) rfl
theorem zw_728 : Cond.instanceMethod zy_M_codeAt ∈ nk_GT := nk_tm 728 (by decide +kernel) rfl
set_option maxRecDepth 100000 in
theorem zw_729 : Cond.code zy_M_codeAt zb_M_codeAt 3 (some .int) ∈ nk_GT := nk_tm 729 rfl rfl
theorem zw_730 : Cond.methodLink "NeedOnceModel" 136 zy_M_readsCell ∈ nk_GT := nk_tm 730 (by decide +kernel) rfl
theorem zw_732 : Cond.instanceMethod zy_M_readsCell ∈ nk_GT := nk_tm 732 (by decide +kernel) rfl
set_option maxRecDepth 100000 in
theorem zw_733 : Cond.code zy_M_readsCell zb_M_readsCell 6 (some .boolean) ∈ nk_GT := nk_tm 733 rfl rfl
theorem zw_734 : Cond.constantLong "NeedOnceModel" 128 (9 : Int64) ∈ nk_GT := nk_tm 734 (by decide +kernel) rfl
theorem zw_735 : Cond.methodLink "NeedOnceModel" 132 zy_M_readsForm ∈ nk_GT := nk_tm 735 (by decide +kernel) rfl
theorem zw_737 : Cond.instanceMethod zy_M_readsForm ∈ nk_GT := nk_tm 737 (by decide +kernel) rfl
set_option maxRecDepth 100000 in
theorem zw_738 : Cond.code zy_M_readsForm zb_M_readsForm 6 (some .boolean) ∈ nk_GT := nk_tm 738 rfl rfl
theorem zw_739 : Cond.methodLink "NeedOnceModel" 118 zy_M_formBy ∈ nk_GT := nk_tm 739 (by decide +kernel) rfl
theorem zw_740 : Cond.static zy_M_formBy ∈ nk_GT := nk_tm 740 (by decide +kernel) rfl
set_option maxRecDepth 100000 in
theorem zw_741 : Cond.code zy_M_formBy zb_M_formBy 1 (some .int) ∈ nk_GT := nk_tm 741 rfl rfl
theorem zw_742 : Cond.methodLink "NeedOnceModel" 125 zy_M_partsOf ∈ nk_GT := nk_tm 742 (by decide +kernel) rfl
theorem zw_743 : Cond.static zy_M_partsOf ∈ nk_GT := nk_tm 743 (by decide +kernel) rfl
set_option maxRecDepth 100000 in
theorem zw_744 : Cond.code zy_M_partsOf zb_M_partsOf 1 (some .int) ∈ nk_GT := nk_tm 744 rfl rfl
theorem zw_745 : Cond.constantLong "NeedOnceModel" 130 (7 : Int64) ∈ nk_GT := nk_tm 745 (by decide +kernel) rfl
theorem zw_746 : Cond.methodLink "NeedOnceModel" 162 zy_M_looseOne ∈ nk_GT := nk_tm 746 (by decide +kernel) rfl
theorem zw_748 : Cond.instanceMethod zy_M_looseOne ∈ nk_GT := nk_tm 748 (by decide +kernel) rfl
set_option maxRecDepth 100000 in
theorem zw_749 : Cond.code zy_M_looseOne zb_M_looseOne 4 (some .int) ∈ nk_GT := nk_tm 749 rfl rfl
theorem zw_750 : Cond.methodLink "NeedOnceModel" 181 zy_M_allAsleep ∈ nk_GT := nk_tm 750 (by decide +kernel) rfl
theorem zw_752 : Cond.instanceMethod zy_M_allAsleep ∈ nk_GT := nk_tm 752 (by decide +kernel) rfl
set_option maxRecDepth 100000 in
theorem zw_753 : Cond.code zy_M_allAsleep zb_M_allAsleep 2 none ∈ nk_GT := nk_tm 753 rfl rfl
theorem zw_758 : Cond.methodLink "NeedOnceModel" 240 zy_M_noOne ∈ nk_GT := nk_tm 758 (by decide +kernel) rfl
theorem zw_760 : Cond.instanceMethod zy_M_noOne ∈ nk_GT := nk_tm 760 (by decide +kernel) rfl
set_option maxRecDepth 100000 in
theorem zw_761 : Cond.code zy_M_noOne zb_M_noOne 2 (some .boolean) ∈ nk_GT := nk_tm 761 rfl rfl
theorem zw_762 : Cond.constantLong "NeedOnceModel" 243 (10 : Int64) ∈ nk_GT := nk_tm 762 (by decide +kernel) rfl
theorem zw_763 : Cond.constantLong "NeedOnceModel" 245 (12 : Int64) ∈ nk_GT := nk_tm 763 (by decide +kernel) rfl
theorem zw_764 : Cond.methodLink "NeedOnceModel" 215 zy_M_cost ∈ nk_GT := nk_tm 764 (by decide +kernel) rfl
theorem zw_766 : Cond.instanceMethod zy_M_cost ∈ nk_GT := nk_tm 766 (by decide +kernel) rfl
set_option maxRecDepth 100000 in
theorem zw_767 : Cond.code zy_M_cost zb_M_cost 2 (some .int) ∈ nk_GT := nk_tm 767 rfl rfl
theorem zw_769 : Cond.instanceMethod zy_M_price ∈ nk_GT := nk_tm 769 (by decide +kernel) rfl
theorem zw_770 : Cond.selects "NeedOnceModel" zy_M_price zy_M_price ∈ nk_GT := nk_tm 770 (by decide +kernel) rfl
set_option maxRecDepth 100000 in
theorem zw_771 : Cond.code zy_M_price zb_M_price 4 (some .int) ∈ nk_GT := nk_tm 771 rfl rfl
theorem zw_772 : Cond.methodLink "NeedOnceModel" 247 zy_M_isPrice ∈ nk_GT := nk_tm 772 (by decide +kernel) rfl
theorem zw_773 : Cond.static zy_M_isPrice ∈ nk_GT := nk_tm 773 (by decide +kernel) rfl
set_option maxRecDepth 100000 in
theorem zw_774 : Cond.code zy_M_isPrice zb_M_isPrice 1 (some .boolean) ∈ nk_GT := nk_tm 774 rfl rfl
theorem zw_779 : Cond.methodLink "NeedOnceModel" 250 zy_M_needs ∈ nk_GT := nk_tm 779 (by decide +kernel) rfl
theorem zw_781 : Cond.instanceMethod zy_M_needs ∈ nk_GT := nk_tm 781 (by decide +kernel) rfl
set_option maxRecDepth 100000 in
theorem zw_782 : Cond.code zy_M_needs zb_M_needs 2 (some .int) ∈ nk_GT := nk_tm 782 rfl rfl
theorem zw_783 : Cond.methodLink "NeedOnceModel" 221 zy_M_wants ∈ nk_GT := nk_tm 783 (by decide +kernel) rfl
theorem zw_785 : Cond.instanceMethod zy_M_wants ∈ nk_GT := nk_tm 785 (by decide +kernel) rfl
set_option maxRecDepth 100000 in
theorem zw_786 : Cond.code zy_M_wants zb_M_wants 2 none ∈ nk_GT := nk_tm 786 rfl rfl
theorem zw_787 : Cond.methodLink "NeedOnceModel" 200 zy_M_isOn ∈ nk_GT := nk_tm 787 (by decide +kernel) rfl
theorem zw_789 : Cond.instanceMethod zy_M_isOn ∈ nk_GT := nk_tm 789 (by decide +kernel) rfl
set_option maxRecDepth 100000 in
theorem zw_790 : Cond.code zy_M_isOn zb_M_isOn 4 (some .boolean) ∈ nk_GT := nk_tm 790 rfl rfl
theorem zw_791 : Cond.methodLink "NeedOnceModel" 237 zy_M_goesOn ∈ nk_GT := nk_tm 791 (by decide +kernel) rfl
theorem zw_793 : Cond.instanceMethod zy_M_goesOn ∈ nk_GT := nk_tm 793 (by decide +kernel) rfl
set_option maxRecDepth 100000 in
theorem zw_794 : Cond.code zy_M_goesOn zb_M_goesOn 3 none ∈ nk_GT := nk_tm 794 rfl rfl
theorem zw_795 : Cond.methodLink "NeedOnceModel" 228 zy_M_begins ∈ nk_GT := nk_tm 795 (by decide +kernel) rfl
theorem zw_797 : Cond.instanceMethod zy_M_begins ∈ nk_GT := nk_tm 797 (by decide +kernel) rfl
set_option maxRecDepth 100000 in
theorem zw_798 : Cond.code zy_M_begins zb_M_begins 3 none ∈ nk_GT := nk_tm 798 rfl rfl
theorem zw_799 : Cond.methodLink "NeedOnceModel" 225 zy_M_isDone ∈ nk_GT := nk_tm 799 (by decide +kernel) rfl
theorem zw_801 : Cond.instanceMethod zy_M_isDone ∈ nk_GT := nk_tm 801 (by decide +kernel) rfl
set_option maxRecDepth 100000 in
theorem zw_802 : Cond.code zy_M_isDone zb_M_isDone 3 none ∈ nk_GT := nk_tm 802 rfl rfl
theorem zw_803 : Cond.methodLink "NeedOnceModel" 231 zy_M_hasFirst ∈ nk_GT := nk_tm 803 (by decide +kernel) rfl
theorem zw_805 : Cond.instanceMethod zy_M_hasFirst ∈ nk_GT := nk_tm 805 (by decide +kernel) rfl
set_option maxRecDepth 100000 in
theorem zw_806 : Cond.code zy_M_hasFirst zb_M_hasFirst 3 none ∈ nk_GT := nk_tm 806 rfl rfl
theorem zw_807 : Cond.methodLink "NeedOnceModel" 234 zy_M_hasSecond ∈ nk_GT := nk_tm 807 (by decide +kernel) rfl
theorem zw_809 : Cond.instanceMethod zy_M_hasSecond ∈ nk_GT := nk_tm 809 (by decide +kernel) rfl
set_option maxRecDepth 100000 in
theorem zw_810 : Cond.code zy_M_hasSecond zb_M_hasSecond 3 none ∈ nk_GT := nk_tm 810 rfl rfl
theorem zw_815 : Cond.constantLong "NeedOnceModel" 253 (17 : Int64) ∈ nk_GT := nk_tm 815 (by decide +kernel) rfl
theorem zw_821 : Cond.instanceMethod zy_M_sleep ∈ nk_GT := nk_tm 821 (by decide +kernel) rfl
theorem zw_822 : Cond.selects "NeedOnceModel" zy_M_sleep zy_M_sleep ∈ nk_GT := nk_tm 822 (by decide +kernel) rfl
set_option maxRecDepth 100000 in
theorem zw_823 : Cond.code zy_M_sleep zb_M_sleep 2 (some .int) ∈ nk_GT := nk_tm 823 rfl rfl
theorem zw_824 : Cond.methodLink "NeedOnceModel" 255 zy_M_awakeOnes ∈ nk_GT := nk_tm 824 (by decide +kernel) rfl
theorem zw_826 : Cond.instanceMethod zy_M_awakeOnes ∈ nk_GT := nk_tm 826 (by decide +kernel) rfl
set_option maxRecDepth 100000 in
theorem zw_827 : Cond.code zy_M_awakeOnes zb_M_awakeOnes 3 (some .int) ∈ nk_GT := nk_tm 827 rfl rfl
theorem zw_829 : Cond.instanceMethod zy_M_shorten ∈ nk_GT := nk_tm 829 (by decide +kernel) rfl
theorem zw_830 : Cond.selects "NeedOnceModel" zy_M_shorten zy_M_shorten ∈ nk_GT := nk_tm 830 (by decide +kernel) rfl
set_option maxRecDepth 100000 in
theorem zw_831 : Cond.code zy_M_shorten zb_M_shorten 4 (some .int) ∈ nk_GT := nk_tm 831 rfl rfl
theorem zw_832 : Cond.methodLink "NeedOnceModel" 258 zy_M_nextToShorten ∈ nk_GT := nk_tm 832 (by decide +kernel) rfl
theorem zw_834 : Cond.instanceMethod zy_M_nextToShorten ∈ nk_GT := nk_tm 834 (by decide +kernel) rfl
set_option maxRecDepth 100000 in
theorem zw_835 : Cond.code zy_M_nextToShorten zb_M_nextToShorten 4 (some .int) ∈ nk_GT := nk_tm 835 rfl rfl
theorem zw_840 : Cond.constantLong "NeedOnceModel" 264 (255 : Int64) ∈ nk_GT := nk_tm 840 (by decide +kernel) rfl
theorem zw_841 : Cond.methodLink "NeedOnceModel" 266 zy_M_heldBy ∈ nk_GT := nk_tm 841 (by decide +kernel) rfl
theorem zw_843 : Cond.instanceMethod zy_M_heldBy ∈ nk_GT := nk_tm 843 (by decide +kernel) rfl
set_option maxRecDepth 100000 in
theorem zw_844 : Cond.code zy_M_heldBy zb_M_heldBy 5 (some .int) ∈ nk_GT := nk_tm 844 rfl rfl
theorem zw_845 : Cond.methodLink "NeedOnceModel" 261 zy_M_holds ∈ nk_GT := nk_tm 845 (by decide +kernel) rfl
theorem zw_847 : Cond.instanceMethod zy_M_holds ∈ nk_GT := nk_tm 847 (by decide +kernel) rfl
set_option maxRecDepth 100000 in
theorem zw_848 : Cond.code zy_M_holds zb_M_holds 4 (some .int) ∈ nk_GT := nk_tm 848 rfl rfl
theorem zw_857 : Cond.constantLong "NeedOnceModel" 269 (20 : Int64) ∈ nk_GT := nk_tm 857 (by decide +kernel) rfl
theorem zw_858 : Cond.constantLong "NeedOnceModel" 294 (4 : Int64) ∈ nk_GT := nk_tm 858 (by decide +kernel) rfl
theorem zw_859 : Cond.methodLink "NeedOnceModel" 296 zy_M_isAsTold ∈ nk_GT := nk_tm 859 (by decide +kernel) rfl
theorem zw_860 : Cond.static zy_M_isAsTold ∈ nk_GT := nk_tm 860 (by decide +kernel) rfl
set_option maxRecDepth 100000 in
theorem zw_861 : Cond.code zy_M_isAsTold zb_M_isAsTold 2 (some .boolean) ∈ nk_GT := nk_tm 861 rfl rfl
theorem zw_862 : Cond.constantLong "NeedOnceModel" 271 (21 : Int64) ∈ nk_GT := nk_tm 862 (by decide +kernel) rfl
theorem zw_863 : Cond.methodLink "NeedOnceModel" 299 zy_M_keeps ∈ nk_GT := nk_tm 863 (by decide +kernel) rfl
theorem zw_865 : Cond.instanceMethod zy_M_keeps ∈ nk_GT := nk_tm 865 (by decide +kernel) rfl
set_option maxRecDepth 100000 in
theorem zw_866 : Cond.code zy_M_keeps zb_M_keeps 2 none ∈ nk_GT := nk_tm 866 rfl rfl
theorem zw_867 : Cond.methodLink "NeedOnceModel" 302 zy_M_dayOf ∈ nk_GT := nk_tm 867 (by decide +kernel) rfl
theorem zw_869 : Cond.instanceMethod zy_M_dayOf ∈ nk_GT := nk_tm 869 (by decide +kernel) rfl
set_option maxRecDepth 100000 in
theorem zw_870 : Cond.code zy_M_dayOf zb_M_dayOf 6 (some .int) ∈ nk_GT := nk_tm 870 rfl rfl
theorem zw_871 : Cond.methodLink "NeedOnceModel" 288 zy_M_doesPair ∈ nk_GT := nk_tm 871 (by decide +kernel) rfl
theorem zw_873 : Cond.instanceMethod zy_M_doesPair ∈ nk_GT := nk_tm 873 (by decide +kernel) rfl
set_option maxRecDepth 100000 in
theorem zw_874 : Cond.code zy_M_doesPair zb_M_doesPair 3 (some .boolean) ∈ nk_GT := nk_tm 874 rfl rfl
theorem zw_875 : Cond.methodLink "NeedOnceModel" 276 zy_M_needsOnly ∈ nk_GT := nk_tm 875 (by decide +kernel) rfl
theorem zw_877 : Cond.instanceMethod zy_M_needsOnly ∈ nk_GT := nk_tm 877 (by decide +kernel) rfl
set_option maxRecDepth 100000 in
theorem zw_878 : Cond.code zy_M_needsOnly zb_M_needsOnly 3 (some .boolean) ∈ nk_GT := nk_tm 878 rfl rfl
theorem zw_879 : Cond.methodLink "NeedOnceModel" 279 zy_M_price ∈ nk_GT := nk_tm 879 (by decide +kernel) rfl
theorem zw_880 : Cond.methodLink "NeedOnceModel" 282 zy_M_shorten ∈ nk_GT := nk_tm 880 (by decide +kernel) rfl
theorem zw_881 : Cond.methodLink "NeedOnceModel" 285 zy_M_sleep ∈ nk_GT := nk_tm 881 (by decide +kernel) rfl
theorem zw_882 : Cond.methodLink "NeedOnceModel" 291 zy_M_links ∈ nk_GT := nk_tm 882 (by decide +kernel) rfl
theorem zw_884 : Cond.instanceMethod zy_M_links ∈ nk_GT := nk_tm 884 (by decide +kernel) rfl
set_option maxRecDepth 100000 in
theorem zw_885 : Cond.code zy_M_links zb_M_links 3 (some .int) ∈ nk_GT := nk_tm 885 rfl rfl
theorem zw_886 : Cond.methodLink "NeedOnceModel" 306 zy_M_bringsBack ∈ nk_GT := nk_tm 886 (by decide +kernel) rfl
theorem zw_888 : Cond.instanceMethod zy_M_bringsBack ∈ nk_GT := nk_tm 888 (by decide +kernel) rfl
set_option maxRecDepth 100000 in
theorem zw_889 : Cond.code zy_M_bringsBack zb_M_bringsBack 2 none ∈ nk_GT := nk_tm 889 rfl rfl
theorem zw_894 : Cond.constantLong "NeedOnceModel" 309 (200 : Int64) ∈ nk_GT := nk_tm 894 (by decide +kernel) rfl
theorem zw_903 : Cond.methodLink "NeedOnceModel" 311 zy_M_areSo ∈ nk_GT := nk_tm 903 (by decide +kernel) rfl
theorem zw_905 : Cond.instanceMethod zy_M_areSo ∈ nk_GT := nk_tm 905 (by decide +kernel) rfl
set_option maxRecDepth 100000 in
theorem zw_906 : Cond.code zy_M_areSo zb_M_areSo 4 (some .boolean) ∈ nk_GT := nk_tm 906 rfl rfl
theorem zw_915 : Cond.constantLong "NeedOnceModel" 315 (102 : Int64) ∈ nk_GT := nk_tm 915 (by decide +kernel) rfl
theorem zw_916 : Cond.methodLink "NeedOnceModel" 100 zy_M_lost ∈ nk_GT := nk_tm 916 (by decide +kernel) rfl
theorem zw_917 : Cond.static zy_M_lost ∈ nk_GT := nk_tm 917 (by decide +kernel) rfl
set_option maxRecDepth 100000 in
theorem zw_918 : Cond.code zy_M_lost zb_M_lost 0 (some .long) ∈ nk_GT := nk_tm 918 rfl rfl
theorem zw_919 : Cond.constantLong "NeedOnceModel" 94 (-9223372036854775808 : Int64) ∈ nk_GT := nk_tm 919 (by decide +kernel) rfl
theorem zw_920 : Cond.methodLink "NeedOnceModel" 317 zy_M_share ∈ nk_GT := nk_tm 920 (by decide +kernel) rfl
theorem zw_921 : Cond.static zy_M_share ∈ nk_GT := nk_tm 921 (by decide +kernel) rfl
set_option maxRecDepth 100000 in
theorem zw_922 : Cond.code zy_M_share zb_M_share 11 (some .long) ∈ nk_GT := nk_tm 922 rfl rfl
theorem zw_935 : Cond.methodLink "NeedOnceModel" 323 zy_M_noCell ∈ nk_GT := nk_tm 935 (by decide +kernel) rfl
theorem zw_937 : Cond.instanceMethod zy_M_noCell ∈ nk_GT := nk_tm 937 (by decide +kernel) rfl
set_option maxRecDepth 100000 in
theorem zw_938 : Cond.code zy_M_noCell zb_M_noCell 3 (some .int) ∈ nk_GT := nk_tm 938 rfl rfl
theorem zw_943 : Cond.methodLink "NeedOnceModel" 326 zy_M_failedLong ∈ nk_GT := nk_tm 943 (by decide +kernel) rfl
theorem zw_945 : Cond.instanceMethod zy_M_failedLong ∈ nk_GT := nk_tm 945 (by decide +kernel) rfl
set_option maxRecDepth 100000 in
theorem zw_946 : Cond.code zy_M_failedLong zb_M_failedLong 2 (some .long) ∈ nk_GT := nk_tm 946 rfl rfl
theorem zw_955 : Cond.methodLink "NeedOnceModel" 333 zy_M_traced ∈ nk_GT := nk_tm 955 (by decide +kernel) rfl
theorem zw_957 : Cond.instanceMethod zy_M_traced ∈ nk_GT := nk_tm 957 (by decide +kernel) rfl
set_option maxRecDepth 100000 in
theorem zw_958 : Cond.code zy_M_traced zb_M_traced 2 none ∈ nk_GT := nk_tm 958 rfl rfl
theorem za_N_12 : nk_fa "NeedOnce" 12 nk_wC 4 0 := ⟨"NeedOnce", zt_N, 7, zu_N, rfl, by decide, Or.inl zw_147⟩
theorem za_N_18 : nk_fa "NeedOnce" 18 nk_wC 4 1 := ⟨"NeedOnce", zt_N, 7, zu_N, rfl, by decide, Or.inl zw_148⟩
theorem za_N_24 : nk_fa "NeedOnce" 24 nk_wC 4 2 := ⟨"NeedOnce", zt_N, 7, zu_N, rfl, by decide, Or.inl zw_149⟩
theorem za_N_31 : nk_fa "NeedOnce" 31 nk_wC 4 3 := ⟨"NeedOnce", zt_N, 7, zu_N, rfl, by decide, Or.inl zw_150⟩
theorem za_N_38 : nk_fa "NeedOnce" 38 nk_wC 4 4 := ⟨"NeedOnce", zt_N, 7, zu_N, rfl, by decide, Or.inl zw_151⟩
theorem za_N_42 : nk_fa "NeedOnce" 42 nk_wC 4 6 := ⟨"NeedOnce", zt_N, 7, zu_N, rfl, by decide, Or.inl zw_153⟩
theorem zp_N_42 : nk_fp "NeedOnce" 42 nk_wC 4 6 .int := ⟨"NeedOnce", zt_N, 7, zq_N, zu_N, rfl, by decide, Or.inl zw_153, zk_N, zm_N, rfl, rfl⟩
theorem za_N_76 : nk_fa "NeedOnce" 76 nk_wC 1 0 := ⟨"NeedOnce$Readings", zt_R, 3, zu_R, rfl, by decide, Or.inr ⟨"NeedOnce", nk_tn 118 (by decide +kernel)⟩⟩
theorem zp_N_76 : nk_fp "NeedOnce" 76 nk_wC 1 0 .int := ⟨"NeedOnce$Readings", zt_R, 3, zq_R, zu_R, rfl, by decide, Or.inr ⟨"NeedOnce", nk_tn 118 (by decide +kernel)⟩, zk_R, zm_R, rfl, rfl⟩
theorem za_N_79 : nk_fa "NeedOnce" 79 nk_wC 0 0 := ⟨"NeedOnce$Cells", zt_C, 16, zu_C, rfl, by decide, Or.inr ⟨"NeedOnce", nk_tn 33 (by decide +kernel)⟩⟩
theorem za_N_81 : nk_fa "NeedOnce" 81 nk_wC 0 1 := ⟨"NeedOnce$Cells", zt_C, 16, zu_C, rfl, by decide, Or.inr ⟨"NeedOnce", nk_tn 35 (by decide +kernel)⟩⟩
theorem za_N_85 : nk_fa "NeedOnce" 85 nk_wC 0 2 := ⟨"NeedOnce$Cells", zt_C, 16, zu_C, rfl, by decide, Or.inr ⟨"NeedOnce", nk_tn 38 (by decide +kernel)⟩⟩
theorem za_N_97 : nk_fa "NeedOnce" 97 nk_wC 0 5 := ⟨"NeedOnce$Cells", zt_C, 16, zu_C, rfl, by decide, Or.inr ⟨"NeedOnce", nk_tn 45 (by decide +kernel)⟩⟩
theorem za_N_100 : nk_fa "NeedOnce" 100 nk_wC 0 7 := ⟨"NeedOnce$Cells", zt_C, 16, zu_C, rfl, by decide, Or.inr ⟨"NeedOnce", nk_tn 48 (by decide +kernel)⟩⟩
theorem za_N_110 : nk_fa "NeedOnce" 110 nk_wC 0 11 := ⟨"NeedOnce$Cells", zt_C, 16, zu_C, rfl, by decide, Or.inr ⟨"NeedOnce", nk_tn 53 (by decide +kernel)⟩⟩
theorem za_N_113 : nk_fa "NeedOnce" 113 nk_wC 0 12 := ⟨"NeedOnce$Cells", zt_C, 16, zu_C, rfl, by decide, Or.inr ⟨"NeedOnce", nk_tn 55 (by decide +kernel)⟩⟩
theorem za_N_116 : nk_fa "NeedOnce" 116 nk_wC 0 13 := ⟨"NeedOnce$Cells", zt_C, 16, zu_C, rfl, by decide, Or.inr ⟨"NeedOnce", nk_tn 57 (by decide +kernel)⟩⟩
theorem za_N_119 : nk_fa "NeedOnce" 119 nk_wC 0 14 := ⟨"NeedOnce$Cells", zt_C, 16, zu_C, rfl, by decide, Or.inr ⟨"NeedOnce", nk_tn 59 (by decide +kernel)⟩⟩
theorem za_N_122 : nk_fa "NeedOnce" 122 nk_wC 0 15 := ⟨"NeedOnce$Cells", zt_C, 16, zu_C, rfl, by decide, Or.inr ⟨"NeedOnce", nk_tn 62 (by decide +kernel)⟩⟩
theorem za_N_125 : nk_fa "NeedOnce" 125 nk_wC 0 10 := ⟨"NeedOnce$Cells", zt_C, 16, zu_C, rfl, by decide, Or.inr ⟨"NeedOnce", nk_tn 51 (by decide +kernel)⟩⟩
theorem za_N_179 : nk_fa "NeedOnce" 179 nk_wC 0 3 := ⟨"NeedOnce$Cells", zt_C, 16, zu_C, rfl, by decide, Or.inr ⟨"NeedOnce", nk_tn 42 (by decide +kernel)⟩⟩
theorem za_N_195 : nk_fa "NeedOnce" 195 nk_wC 2 1 := ⟨"NeedOnce$Sheets", zt_S, 3, zu_S, rfl, by decide, Or.inr ⟨"NeedOnce", nk_tn 138 (by decide +kernel)⟩⟩
theorem za_N_222 : nk_fa "NeedOnce" 222 nk_wC 4 5 := ⟨"NeedOnce", zt_N, 7, zu_N, rfl, by decide, Or.inl zw_152⟩
theorem zp_N_222 : nk_fp "NeedOnce" 222 nk_wC 4 5 .int := ⟨"NeedOnce", zt_N, 7, zq_N, zu_N, rfl, by decide, Or.inl zw_152, zk_N, zm_N, rfl, rfl⟩
theorem za_C_9 : nk_fa "NeedOnce$Cells" 9 nk_wC 0 1 := ⟨"NeedOnce$Cells", zt_C, 16, zu_C, rfl, by decide, Or.inl zw_34⟩
theorem za_C_15 : nk_fa "NeedOnce$Cells" 15 nk_wC 0 2 := ⟨"NeedOnce$Cells", zt_C, 16, zu_C, rfl, by decide, Or.inl zw_37⟩
theorem za_C_18 : nk_fa "NeedOnce$Cells" 18 nk_wC 0 3 := ⟨"NeedOnce$Cells", zt_C, 16, zu_C, rfl, by decide, Or.inl zw_40⟩
theorem za_C_21 : nk_fa "NeedOnce$Cells" 21 nk_wC 0 4 := ⟨"NeedOnce$Cells", zt_C, 16, zu_C, rfl, by decide, Or.inl zw_43⟩
theorem za_C_24 : nk_fa "NeedOnce$Cells" 24 nk_wC 0 5 := ⟨"NeedOnce$Cells", zt_C, 16, zu_C, rfl, by decide, Or.inl zw_44⟩
theorem za_C_27 : nk_fa "NeedOnce$Cells" 27 nk_wC 0 6 := ⟨"NeedOnce$Cells", zt_C, 16, zu_C, rfl, by decide, Or.inl zw_46⟩
theorem za_C_30 : nk_fa "NeedOnce$Cells" 30 nk_wC 0 7 := ⟨"NeedOnce$Cells", zt_C, 16, zu_C, rfl, by decide, Or.inl zw_47⟩
theorem za_C_33 : nk_fa "NeedOnce$Cells" 33 nk_wC 0 8 := ⟨"NeedOnce$Cells", zt_C, 16, zu_C, rfl, by decide, Or.inl zw_49⟩
theorem za_C_37 : nk_fa "NeedOnce$Cells" 37 nk_wC 0 9 := ⟨"NeedOnce$Cells", zt_C, 16, zu_C, rfl, by decide, Or.inl zw_50⟩
theorem zp_C_37 : nk_fp "NeedOnce$Cells" 37 nk_wC 0 9 .boolean := ⟨"NeedOnce$Cells", zt_C, 16, zq_C, zu_C, rfl, by decide, Or.inl zw_50, zk_C, zm_C, rfl, rfl⟩
theorem za_C_41 : nk_fa "NeedOnce$Cells" 41 nk_wC 0 15 := ⟨"NeedOnce$Cells", zt_C, 16, zu_C, rfl, by decide, Or.inl zw_61⟩
theorem za_C_47 : nk_fa "NeedOnce$Cells" 47 nk_wC 0 0 := ⟨"NeedOnce$Cells", zt_C, 16, zu_C, rfl, by decide, Or.inl zw_31⟩
theorem zp_C_47 : nk_fp "NeedOnce$Cells" 47 nk_wC 0 0 .int := ⟨"NeedOnce$Cells", zt_C, 16, zq_C, zu_C, rfl, by decide, Or.inl zw_31, zk_C, zm_C, rfl, rfl⟩
theorem zn_C_51 : Cond.fieldLinkNest "NeedOnce$Cells" 51 "NeedOnce" "HOW_MANY_PARTS" "[I" "NeedOnce" ∈ tables_1 := nk_tn 245 (by decide +kernel)
theorem za_C_60 : nk_fa "NeedOnce$Cells" 60 nk_wC 0 10 := ⟨"NeedOnce$Cells", zt_C, 16, zu_C, rfl, by decide, Or.inl zw_52⟩
theorem zp_C_60 : nk_fp "NeedOnce$Cells" 60 nk_wC 0 10 .int := ⟨"NeedOnce$Cells", zt_C, 16, zq_C, zu_C, rfl, by decide, Or.inl zw_52, zk_C, zm_C, rfl, rfl⟩
theorem za_C_81 : nk_fa "NeedOnce$Cells" 81 nk_wC 0 11 := ⟨"NeedOnce$Cells", zt_C, 16, zu_C, rfl, by decide, Or.inl zw_54⟩
theorem zp_C_81 : nk_fp "NeedOnce$Cells" 81 nk_wC 0 11 .int := ⟨"NeedOnce$Cells", zt_C, 16, zq_C, zu_C, rfl, by decide, Or.inl zw_54, zk_C, zm_C, rfl, rfl⟩
theorem za_C_84 : nk_fa "NeedOnce$Cells" 84 nk_wC 0 12 := ⟨"NeedOnce$Cells", zt_C, 16, zu_C, rfl, by decide, Or.inl zw_56⟩
theorem zp_C_84 : nk_fp "NeedOnce$Cells" 84 nk_wC 0 12 .int := ⟨"NeedOnce$Cells", zt_C, 16, zq_C, zu_C, rfl, by decide, Or.inl zw_56, zk_C, zm_C, rfl, rfl⟩
theorem za_C_87 : nk_fa "NeedOnce$Cells" 87 nk_wC 0 13 := ⟨"NeedOnce$Cells", zt_C, 16, zu_C, rfl, by decide, Or.inl zw_58⟩
theorem zp_C_87 : nk_fp "NeedOnce$Cells" 87 nk_wC 0 13 .int := ⟨"NeedOnce$Cells", zt_C, 16, zq_C, zu_C, rfl, by decide, Or.inl zw_58, zk_C, zm_C, rfl, rfl⟩
theorem za_C_90 : nk_fa "NeedOnce$Cells" 90 nk_wC 0 14 := ⟨"NeedOnce$Cells", zt_C, 16, zu_C, rfl, by decide, Or.inl zw_60⟩
theorem zp_C_90 : nk_fp "NeedOnce$Cells" 90 nk_wC 0 14 .int := ⟨"NeedOnce$Cells", zt_C, 16, zq_C, zu_C, rfl, by decide, Or.inl zw_60, zk_C, zm_C, rfl, rfl⟩
theorem za_R_9 : nk_fa "NeedOnce$Readings" 9 nk_wC 1 1 := ⟨"NeedOnce$Readings", zt_R, 3, zu_R, rfl, by decide, Or.inl zw_119⟩
theorem za_R_15 : nk_fa "NeedOnce$Readings" 15 nk_wC 1 2 := ⟨"NeedOnce$Readings", zt_R, 3, zu_R, rfl, by decide, Or.inl zw_120⟩
theorem za_R_18 : nk_fa "NeedOnce$Readings" 18 nk_wC 1 0 := ⟨"NeedOnce$Readings", zt_R, 3, zu_R, rfl, by decide, Or.inl zw_117⟩
theorem zp_R_18 : nk_fp "NeedOnce$Readings" 18 nk_wC 1 0 .int := ⟨"NeedOnce$Readings", zt_R, 3, zq_R, zu_R, rfl, by decide, Or.inl zw_117, zk_R, zm_R, rfl, rfl⟩
theorem za_S_11 : nk_fa "NeedOnce$Sheets" 11 nk_wC 2 0 := ⟨"NeedOnce$Sheets", zt_S, 3, zu_S, rfl, by decide, Or.inl zw_136⟩
theorem za_S_16 : nk_fa "NeedOnce$Sheets" 16 nk_wC 2 1 := ⟨"NeedOnce$Sheets", zt_S, 3, zu_S, rfl, by decide, Or.inl zw_137⟩
theorem za_S_20 : nk_fa "NeedOnce$Sheets" 20 nk_wC 2 2 := ⟨"NeedOnce$Sheets", zt_S, 3, zu_S, rfl, by decide, Or.inl zw_139⟩
theorem za_T_16 : nk_fa "NeedOnce$TextReader" 16 nk_wC 3 0 := ⟨"NeedOnce$TextReader", zt_T, 2, zu_T, rfl, by decide, Or.inl zw_104⟩
theorem zp_T_16 : nk_fp "NeedOnce$TextReader" 16 nk_wC 3 0 .int := ⟨"NeedOnce$TextReader", zt_T, 2, zq_T, zu_T, rfl, by decide, Or.inl zw_104, zk_T, zm_T, rfl, rfl⟩
theorem za_T_30 : nk_fa "NeedOnce$TextReader" 30 nk_wC 0 0 := ⟨"NeedOnce$Cells", zt_C, 16, zu_C, rfl, by decide, Or.inr ⟨"NeedOnce", nk_tn 32 (by decide +kernel)⟩⟩
theorem zp_T_30 : nk_fp "NeedOnce$TextReader" 30 nk_wC 0 0 .int := ⟨"NeedOnce$Cells", zt_C, 16, zq_C, zu_C, rfl, by decide, Or.inr ⟨"NeedOnce", nk_tn 32 (by decide +kernel)⟩, zk_C, zm_C, rfl, rfl⟩
theorem zn_T_46 : Cond.fieldLinkNest "NeedOnce$TextReader" 46 "NeedOnce" "KIND_LETTERS" "[C" "NeedOnce" ∈ tables_1 := nk_tn 212 (by decide +kernel)
theorem za_T_54 : nk_fa "NeedOnce$TextReader" 54 nk_wC 0 1 := ⟨"NeedOnce$Cells", zt_C, 16, zu_C, rfl, by decide, Or.inr ⟨"NeedOnce", nk_tn 36 (by decide +kernel)⟩⟩
theorem za_T_58 : nk_fa "NeedOnce$TextReader" 58 nk_wC 0 2 := ⟨"NeedOnce$Cells", zt_C, 16, zu_C, rfl, by decide, Or.inr ⟨"NeedOnce", nk_tn 39 (by decide +kernel)⟩⟩
theorem zn_T_61 : Cond.fieldLinkNest "NeedOnce$TextReader" 61 "NeedOnce" "FORM_SIGNS" "[C" "NeedOnce" ∈ tables_1 := nk_tn 225 (by decide +kernel)
theorem za_T_64 : nk_fa "NeedOnce$TextReader" 64 nk_wC 0 3 := ⟨"NeedOnce$Cells", zt_C, 16, zu_C, rfl, by decide, Or.inr ⟨"NeedOnce", nk_tn 41 (by decide +kernel)⟩⟩
theorem za_T_67 : nk_fa "NeedOnce$TextReader" 67 nk_wC 3 1 := ⟨"NeedOnce$TextReader", zt_T, 2, zu_T, rfl, by decide, Or.inl zw_105⟩
theorem zp_T_67 : nk_fp "NeedOnce$TextReader" 67 nk_wC 3 1 .int := ⟨"NeedOnce$TextReader", zt_T, 2, zq_T, zu_T, rfl, by decide, Or.inl zw_105, zk_T, zm_T, rfl, rfl⟩
theorem zn_T_74 : Cond.fieldLinkNest "NeedOnce$TextReader" 74 "NeedOnce" "HOW_MANY_PARTS" "[I" "NeedOnce" ∈ tables_1 := nk_tn 235 (by decide +kernel)
theorem za_M_7 : nk_fa "NeedOnceModel" 7 nk_wR 0 2 := ⟨"NeedOnceModel", zt_M, 49, zu_M, rfl, by decide, Or.inl zw_549⟩
theorem za_M_13 : nk_fa "NeedOnceModel" 13 nk_wR 0 3 := ⟨"NeedOnceModel", zt_M, 49, zu_M, rfl, by decide, Or.inl zw_550⟩
theorem za_M_16 : nk_fa "NeedOnceModel" 16 nk_wR 0 4 := ⟨"NeedOnceModel", zt_M, 49, zu_M, rfl, by decide, Or.inl zw_551⟩
theorem za_M_19 : nk_fa "NeedOnceModel" 19 nk_wR 0 5 := ⟨"NeedOnceModel", zt_M, 49, zu_M, rfl, by decide, Or.inl zw_552⟩
theorem za_M_22 : nk_fa "NeedOnceModel" 22 nk_wR 0 8 := ⟨"NeedOnceModel", zt_M, 49, zu_M, rfl, by decide, Or.inl zw_555⟩
theorem za_M_25 : nk_fa "NeedOnceModel" 25 nk_wR 0 9 := ⟨"NeedOnceModel", zt_M, 49, zu_M, rfl, by decide, Or.inl zw_556⟩
theorem za_M_28 : nk_fa "NeedOnceModel" 28 nk_wR 0 10 := ⟨"NeedOnceModel", zt_M, 49, zu_M, rfl, by decide, Or.inl zw_557⟩
theorem za_M_31 : nk_fa "NeedOnceModel" 31 nk_wR 0 11 := ⟨"NeedOnceModel", zt_M, 49, zu_M, rfl, by decide, Or.inl zw_558⟩
theorem za_M_34 : nk_fa "NeedOnceModel" 34 nk_wR 0 12 := ⟨"NeedOnceModel", zt_M, 49, zu_M, rfl, by decide, Or.inl zw_559⟩
theorem za_M_37 : nk_fa "NeedOnceModel" 37 nk_wR 0 13 := ⟨"NeedOnceModel", zt_M, 49, zu_M, rfl, by decide, Or.inl zw_560⟩
theorem za_M_40 : nk_fa "NeedOnceModel" 40 nk_wR 0 14 := ⟨"NeedOnceModel", zt_M, 49, zu_M, rfl, by decide, Or.inl zw_561⟩
theorem za_M_43 : nk_fa "NeedOnceModel" 43 nk_wR 0 15 := ⟨"NeedOnceModel", zt_M, 49, zu_M, rfl, by decide, Or.inl zw_562⟩
theorem za_M_46 : nk_fa "NeedOnceModel" 46 nk_wR 0 18 := ⟨"NeedOnceModel", zt_M, 49, zu_M, rfl, by decide, Or.inl zw_565⟩
theorem za_M_49 : nk_fa "NeedOnceModel" 49 nk_wR 0 19 := ⟨"NeedOnceModel", zt_M, 49, zu_M, rfl, by decide, Or.inl zw_566⟩
theorem za_M_52 : nk_fa "NeedOnceModel" 52 nk_wR 0 20 := ⟨"NeedOnceModel", zt_M, 49, zu_M, rfl, by decide, Or.inl zw_567⟩
theorem za_M_55 : nk_fa "NeedOnceModel" 55 nk_wR 0 28 := ⟨"NeedOnceModel", zt_M, 49, zu_M, rfl, by decide, Or.inl zw_575⟩
theorem za_M_58 : nk_fa "NeedOnceModel" 58 nk_wR 0 34 := ⟨"NeedOnceModel", zt_M, 49, zu_M, rfl, by decide, Or.inl zw_581⟩
theorem za_M_61 : nk_fa "NeedOnceModel" 61 nk_wR 0 35 := ⟨"NeedOnceModel", zt_M, 49, zu_M, rfl, by decide, Or.inl zw_582⟩
theorem za_M_64 : nk_fa "NeedOnceModel" 64 nk_wR 0 36 := ⟨"NeedOnceModel", zt_M, 49, zu_M, rfl, by decide, Or.inl zw_583⟩
theorem za_M_67 : nk_fa "NeedOnceModel" 67 nk_wR 0 37 := ⟨"NeedOnceModel", zt_M, 49, zu_M, rfl, by decide, Or.inl zw_584⟩
theorem za_M_70 : nk_fa "NeedOnceModel" 70 nk_wR 0 38 := ⟨"NeedOnceModel", zt_M, 49, zu_M, rfl, by decide, Or.inl zw_585⟩
theorem za_M_73 : nk_fa "NeedOnceModel" 73 nk_wR 0 39 := ⟨"NeedOnceModel", zt_M, 49, zu_M, rfl, by decide, Or.inl zw_586⟩
theorem za_M_76 : nk_fa "NeedOnceModel" 76 nk_wR 0 42 := ⟨"NeedOnceModel", zt_M, 49, zu_M, rfl, by decide, Or.inl zw_589⟩
theorem za_M_79 : nk_fa "NeedOnceModel" 79 nk_wR 0 43 := ⟨"NeedOnceModel", zt_M, 49, zu_M, rfl, by decide, Or.inl zw_590⟩
theorem za_M_82 : nk_fa "NeedOnceModel" 82 nk_wR 0 44 := ⟨"NeedOnceModel", zt_M, 49, zu_M, rfl, by decide, Or.inl zw_591⟩
theorem za_M_85 : nk_fa "NeedOnceModel" 85 nk_wR 0 45 := ⟨"NeedOnceModel", zt_M, 49, zu_M, rfl, by decide, Or.inl zw_592⟩
theorem za_M_88 : nk_fa "NeedOnceModel" 88 nk_wR 0 46 := ⟨"NeedOnceModel", zt_M, 49, zu_M, rfl, by decide, Or.inl zw_593⟩
theorem za_M_91 : nk_fa "NeedOnceModel" 91 nk_wR 0 47 := ⟨"NeedOnceModel", zt_M, 49, zu_M, rfl, by decide, Or.inl zw_594⟩
theorem za_M_96 : nk_fa "NeedOnceModel" 96 nk_wR 0 0 := ⟨"NeedOnceModel", zt_M, 49, zu_M, rfl, by decide, Or.inl zw_547⟩
theorem zp_M_96 : nk_fp "NeedOnceModel" 96 nk_wR 0 0 .int := ⟨"NeedOnceModel", zt_M, 49, zq_M, zu_M, rfl, by decide, Or.inl zw_547, zk_M, zm_M, rfl, rfl⟩
theorem za_M_104 : nk_fa "NeedOnceModel" 104 nk_wR 0 1 := ⟨"NeedOnceModel", zt_M, 49, zu_M, rfl, by decide, Or.inl zw_548⟩
theorem zp_M_104 : nk_fp "NeedOnceModel" 104 nk_wR 0 1 .int := ⟨"NeedOnceModel", zt_M, 49, zq_M, zu_M, rfl, by decide, Or.inl zw_548, zk_M, zm_M, rfl, rfl⟩
theorem za_M_111 : nk_fa "NeedOnceModel" 111 nk_wR 0 6 := ⟨"NeedOnceModel", zt_M, 49, zu_M, rfl, by decide, Or.inl zw_553⟩
theorem zp_M_111 : nk_fp "NeedOnceModel" 111 nk_wR 0 6 .int := ⟨"NeedOnceModel", zt_M, 49, zq_M, zu_M, rfl, by decide, Or.inl zw_553, zk_M, zm_M, rfl, rfl⟩
theorem za_M_122 : nk_fa "NeedOnceModel" 122 nk_wR 0 7 := ⟨"NeedOnceModel", zt_M, 49, zu_M, rfl, by decide, Or.inl zw_554⟩
theorem zp_M_122 : nk_fp "NeedOnceModel" 122 nk_wR 0 7 .int := ⟨"NeedOnceModel", zt_M, 49, zq_M, zu_M, rfl, by decide, Or.inl zw_554, zk_M, zm_M, rfl, rfl⟩
theorem za_M_166 : nk_fa "NeedOnceModel" 166 nk_wR 0 41 := ⟨"NeedOnceModel", zt_M, 49, zu_M, rfl, by decide, Or.inl zw_588⟩
theorem zp_M_166 : nk_fp "NeedOnceModel" 166 nk_wR 0 41 .int := ⟨"NeedOnceModel", zt_M, 49, zq_M, zu_M, rfl, by decide, Or.inl zw_588, zk_M, zm_M, rfl, rfl⟩
theorem za_M_169 : nk_fa "NeedOnceModel" 169 nk_wR 0 16 := ⟨"NeedOnceModel", zt_M, 49, zu_M, rfl, by decide, Or.inl zw_563⟩
theorem zp_M_169 : nk_fp "NeedOnceModel" 169 nk_wR 0 16 .int := ⟨"NeedOnceModel", zt_M, 49, zq_M, zu_M, rfl, by decide, Or.inl zw_563, zk_M, zm_M, rfl, rfl⟩
theorem za_M_172 : nk_fa "NeedOnceModel" 172 nk_wR 0 31 := ⟨"NeedOnceModel", zt_M, 49, zu_M, rfl, by decide, Or.inl zw_578⟩
theorem zp_M_172 : nk_fp "NeedOnceModel" 172 nk_wR 0 31 .int := ⟨"NeedOnceModel", zt_M, 49, zq_M, zu_M, rfl, by decide, Or.inl zw_578, zk_M, zm_M, rfl, rfl⟩
theorem za_M_175 : nk_fa "NeedOnceModel" 175 nk_wR 0 32 := ⟨"NeedOnceModel", zt_M, 49, zu_M, rfl, by decide, Or.inl zw_579⟩
theorem zp_M_175 : nk_fp "NeedOnceModel" 175 nk_wR 0 32 .int := ⟨"NeedOnceModel", zt_M, 49, zq_M, zu_M, rfl, by decide, Or.inl zw_579, zk_M, zm_M, rfl, rfl⟩
theorem za_M_178 : nk_fa "NeedOnceModel" 178 nk_wR 0 33 := ⟨"NeedOnceModel", zt_M, 49, zu_M, rfl, by decide, Or.inl zw_580⟩
theorem zp_M_178 : nk_fp "NeedOnceModel" 178 nk_wR 0 33 .int := ⟨"NeedOnceModel", zt_M, 49, zq_M, zu_M, rfl, by decide, Or.inl zw_580, zk_M, zm_M, rfl, rfl⟩
theorem za_M_184 : nk_fa "NeedOnceModel" 184 nk_wR 0 17 := ⟨"NeedOnceModel", zt_M, 49, zu_M, rfl, by decide, Or.inl zw_564⟩
theorem zp_M_184 : nk_fp "NeedOnceModel" 184 nk_wR 0 17 .int := ⟨"NeedOnceModel", zt_M, 49, zq_M, zu_M, rfl, by decide, Or.inl zw_564, zk_M, zm_M, rfl, rfl⟩
theorem za_M_187 : nk_fa "NeedOnceModel" 187 nk_wR 0 29 := ⟨"NeedOnceModel", zt_M, 49, zu_M, rfl, by decide, Or.inl zw_576⟩
theorem zp_M_187 : nk_fp "NeedOnceModel" 187 nk_wR 0 29 .boolean := ⟨"NeedOnceModel", zt_M, 49, zq_M, zu_M, rfl, by decide, Or.inl zw_576, zk_M, zm_M, rfl, rfl⟩
theorem za_M_191 : nk_fa "NeedOnceModel" 191 nk_wR 0 21 := ⟨"NeedOnceModel", zt_M, 49, zu_M, rfl, by decide, Or.inl zw_568⟩
theorem zp_M_191 : nk_fp "NeedOnceModel" 191 nk_wR 0 21 .int := ⟨"NeedOnceModel", zt_M, 49, zq_M, zu_M, rfl, by decide, Or.inl zw_568, zk_M, zm_M, rfl, rfl⟩
theorem za_M_194 : nk_fa "NeedOnceModel" 194 nk_wR 0 22 := ⟨"NeedOnceModel", zt_M, 49, zu_M, rfl, by decide, Or.inl zw_569⟩
theorem zp_M_194 : nk_fp "NeedOnceModel" 194 nk_wR 0 22 .int := ⟨"NeedOnceModel", zt_M, 49, zq_M, zu_M, rfl, by decide, Or.inl zw_569, zk_M, zm_M, rfl, rfl⟩
theorem za_M_197 : nk_fa "NeedOnceModel" 197 nk_wR 0 23 := ⟨"NeedOnceModel", zt_M, 49, zu_M, rfl, by decide, Or.inl zw_570⟩
theorem zp_M_197 : nk_fp "NeedOnceModel" 197 nk_wR 0 23 .int := ⟨"NeedOnceModel", zt_M, 49, zq_M, zu_M, rfl, by decide, Or.inl zw_570, zk_M, zm_M, rfl, rfl⟩
theorem za_M_203 : nk_fa "NeedOnceModel" 203 nk_wR 0 30 := ⟨"NeedOnceModel", zt_M, 49, zu_M, rfl, by decide, Or.inl zw_577⟩
theorem zp_M_203 : nk_fp "NeedOnceModel" 203 nk_wR 0 30 .boolean := ⟨"NeedOnceModel", zt_M, 49, zq_M, zu_M, rfl, by decide, Or.inl zw_577, zk_M, zm_M, rfl, rfl⟩
theorem za_M_206 : nk_fa "NeedOnceModel" 206 nk_wR 0 24 := ⟨"NeedOnceModel", zt_M, 49, zu_M, rfl, by decide, Or.inl zw_571⟩
theorem zp_M_206 : nk_fp "NeedOnceModel" 206 nk_wR 0 24 .int := ⟨"NeedOnceModel", zt_M, 49, zq_M, zu_M, rfl, by decide, Or.inl zw_571, zk_M, zm_M, rfl, rfl⟩
theorem za_M_209 : nk_fa "NeedOnceModel" 209 nk_wR 0 25 := ⟨"NeedOnceModel", zt_M, 49, zu_M, rfl, by decide, Or.inl zw_572⟩
theorem zp_M_209 : nk_fp "NeedOnceModel" 209 nk_wR 0 25 .int := ⟨"NeedOnceModel", zt_M, 49, zq_M, zu_M, rfl, by decide, Or.inl zw_572, zk_M, zm_M, rfl, rfl⟩
theorem za_M_212 : nk_fa "NeedOnceModel" 212 nk_wR 0 26 := ⟨"NeedOnceModel", zt_M, 49, zu_M, rfl, by decide, Or.inl zw_573⟩
theorem zp_M_212 : nk_fp "NeedOnceModel" 212 nk_wR 0 26 .int := ⟨"NeedOnceModel", zt_M, 49, zq_M, zu_M, rfl, by decide, Or.inl zw_573, zk_M, zm_M, rfl, rfl⟩
theorem za_M_218 : nk_fa "NeedOnceModel" 218 nk_wR 0 27 := ⟨"NeedOnceModel", zt_M, 49, zu_M, rfl, by decide, Or.inl zw_574⟩
theorem zp_M_218 : nk_fp "NeedOnceModel" 218 nk_wR 0 27 .int := ⟨"NeedOnceModel", zt_M, 49, zq_M, zu_M, rfl, by decide, Or.inl zw_574, zk_M, zm_M, rfl, rfl⟩
theorem za_M_273 : nk_fa "NeedOnceModel" 273 nk_wR 0 40 := ⟨"NeedOnceModel", zt_M, 49, zu_M, rfl, by decide, Or.inl zw_587⟩
theorem zp_M_273 : nk_fp "NeedOnceModel" 273 nk_wR 0 40 .int := ⟨"NeedOnceModel", zt_M, 49, zq_M, zu_M, rfl, by decide, Or.inl zw_587, zk_M, zm_M, rfl, rfl⟩
theorem za_M_330 : nk_fa "NeedOnceModel" 330 nk_wR 0 48 := ⟨"NeedOnceModel", zt_M, 49, zu_M, rfl, by decide, Or.inl zw_595⟩
theorem zp_M_330 : nk_fp "NeedOnceModel" 330 nk_wR 0 48 .int := ⟨"NeedOnceModel", zt_M, 49, zq_M, zu_M, rfl, by decide, Or.inl zw_595, zk_M, zm_M, rfl, rfl⟩
theorem zv_N_46 : nk_cV "NeedOnce" 46 zy_S_has zb_S_has 2 (some .boolean) 1 := ⟨⟨zw_176, zw_6, ⟨by decide, by decide, by decide +kernel⟩, by decide, Or.inr ⟨"NeedOnce", nk_tn 173 (by decide +kernel)⟩⟩, zw_175, nk_tp (q := (zy_S_has, 3)) 1 (by decide +kernel)⟩
theorem zv_N_50 : nk_cS "NeedOnce" 50 zy_N_isLane zb_N_isLane 1 (some .boolean) 1 := ⟨⟨zw_179, zw_1, ⟨by decide, by decide, by decide +kernel⟩, by decide, Or.inl zw_177⟩, zw_178⟩
theorem zv_N_53 : nk_cV "NeedOnce" 53 zy_S_rangeFault zb_S_rangeFault 5 (some .int) 4 := ⟨⟨zw_183, zw_6, ⟨by decide, by decide, by decide +kernel⟩, by decide, Or.inr ⟨"NeedOnce", nk_tn 180 (by decide +kernel)⟩⟩, zw_182, nk_tp (q := (zy_S_rangeFault, 3)) 2 (by decide +kernel)⟩
theorem zv_N_57 : nk_cV "NeedOnce" 57 zy_N_faulted zb_N_faulted 2 (some .int) 1 := ⟨⟨zw_191, zw_1, ⟨by decide, by decide, by decide +kernel⟩, by decide, Or.inl zw_188⟩, zw_190, nk_tp (q := (zy_N_faulted, 7)) 4 (by decide +kernel)⟩
theorem zv_N_61 : nk_cV "NeedOnce" 61 zy_T_readInto zb_T_readInto 7 (some .int) 5 := ⟨⟨zw_195, zw_4, ⟨by decide, by decide, by decide +kernel⟩, by decide, Or.inr ⟨"NeedOnce", nk_tn 192 (by decide +kernel)⟩⟩, zw_194, nk_tp (q := (zy_T_readInto, 2)) 5 (by decide +kernel)⟩
theorem zv_N_65 : nk_cV "NeedOnce" 65 zy_C_firstLoose zb_C_firstLoose 2 (some .int) 0 := ⟨⟨zw_240, zw_2, ⟨by decide, by decide, by decide +kernel⟩, by decide, Or.inr ⟨"NeedOnce", nk_tn 237 (by decide +kernel)⟩⟩, zw_239, nk_tp (q := (zy_C_firstLoose, 16)) 14 (by decide +kernel)⟩
theorem zv_N_69 : nk_cV "NeedOnce" 69 zy_C_becomeLike zb_C_becomeLike 2 none 1 := ⟨⟨zw_253, zw_2, ⟨by decide, by decide, by decide +kernel⟩, by decide, Or.inr ⟨"NeedOnce", nk_tn 250 (by decide +kernel)⟩⟩, zw_252, nk_tp (q := (zy_C_becomeLike, 16)) 17 (by decide +kernel)⟩
theorem zv_N_73 : nk_cV "NeedOnce" 73 zy_C_startLatest zb_C_startLatest 1 none 0 := ⟨⟨zw_260, zw_2, ⟨by decide, by decide, by decide +kernel⟩, by decide, Or.inr ⟨"NeedOnce", nk_tn 257 (by decide +kernel)⟩⟩, zw_259, nk_tp (q := (zy_C_startLatest, 16)) 18 (by decide +kernel)⟩
theorem zv_N_80 : nk_cV "NeedOnce" 80 zy_C_has zb_C_has 2 (some .boolean) 1 := ⟨⟨zw_268, zw_2, ⟨by decide, by decide, by decide +kernel⟩, by decide, Or.inr ⟨"NeedOnce", nk_tn 265 (by decide +kernel)⟩⟩, zw_267, nk_tp (q := (zy_C_has, 16)) 19 (by decide +kernel)⟩
theorem zv_N_88 : nk_cV "NeedOnce" 88 zy_C_costOf zb_C_costOf 2 (some .int) 1 := ⟨⟨zw_272, zw_2, ⟨by decide, by decide, by decide +kernel⟩, by decide, Or.inr ⟨"NeedOnce", nk_tn 269 (by decide +kernel)⟩⟩, zw_271, nk_tp (q := (zy_C_costOf, 16)) 20 (by decide +kernel)⟩
theorem zv_N_91 : nk_cV "NeedOnce" 91 zy_C_formNow zb_C_formNow 2 (some .int) 1 := ⟨⟨zw_276, zw_2, ⟨by decide, by decide, by decide +kernel⟩, by decide, Or.inr ⟨"NeedOnce", nk_tn 273 (by decide +kernel)⟩⟩, zw_275, nk_tp (q := (zy_C_formNow, 16)) 21 (by decide +kernel)⟩
theorem zv_N_94 : nk_cV "NeedOnce" 94 zy_C_isAwake zb_C_isAwake 2 (some .boolean) 1 := ⟨⟨zw_280, zw_2, ⟨by decide, by decide, by decide +kernel⟩, by decide, Or.inr ⟨"NeedOnce", nk_tn 277 (by decide +kernel)⟩⟩, zw_279, nk_tp (q := (zy_C_isAwake, 16)) 22 (by decide +kernel)⟩
theorem zv_N_103 : nk_cV "NeedOnce" 103 zy_C_partAsTold zb_C_partAsTold 3 (some .int) 2 := ⟨⟨zw_249, zw_2, ⟨by decide, by decide, by decide +kernel⟩, by decide, Or.inr ⟨"NeedOnce", nk_tn 281 (by decide +kernel)⟩⟩, zw_248, nk_tp (q := (zy_C_partAsTold, 16)) 16 (by decide +kernel)⟩
theorem zv_N_107 : nk_cV "NeedOnce" 107 zy_C_needAnew zb_C_needAnew 2 (some .int) 1 := ⟨⟨zw_293, zw_2, ⟨by decide, by decide, by decide +kernel⟩, by decide, Or.inr ⟨"NeedOnce", nk_tn 290 (by decide +kernel)⟩⟩, zw_292, nk_tp (q := (zy_C_needAnew, 16)) 23 (by decide +kernel)⟩
theorem zv_N_128 : nk_cV "NeedOnce" 128 zy_C_howManyAwake zb_C_howManyAwake 3 (some .int) 0 := ⟨⟨zw_356, zw_2, ⟨by decide, by decide, by decide +kernel⟩, by decide, Or.inr ⟨"NeedOnce", nk_tn 353 (by decide +kernel)⟩⟩, zw_355, nk_tp (q := (zy_C_howManyAwake, 16)) 34 (by decide +kernel)⟩
theorem zv_N_131 : nk_cV "NeedOnce" 131 zy_C_putToSleep zb_C_putToSleep 1 none 0 := ⟨⟨zw_27, zw_2, ⟨by decide, by decide, by decide +kernel⟩, by decide, Or.inr ⟨"NeedOnce", nk_tn 357 (by decide +kernel)⟩⟩, zw_26, nk_tp (q := (zy_C_putToSleep, 16)) 0 (by decide +kernel)⟩
theorem zv_N_134 : nk_cV "NeedOnce" 134 zy_C_makeLinks zb_C_makeLinks 3 (some .int) 0 := ⟨⟨zw_365, zw_2, ⟨by decide, by decide, by decide +kernel⟩, by decide, Or.inr ⟨"NeedOnce", nk_tn 362 (by decide +kernel)⟩⟩, zw_364, nk_tp (q := (zy_C_makeLinks, 16)) 35 (by decide +kernel)⟩
theorem zv_N_137 : nk_cV "NeedOnce" 137 zy_C_heldBy zb_C_heldBy 6 (some .int) 1 := ⟨⟨zw_377, zw_2, ⟨by decide, by decide, by decide +kernel⟩, by decide, Or.inr ⟨"NeedOnce", nk_tn 374 (by decide +kernel)⟩⟩, zw_376, nk_tp (q := (zy_C_heldBy, 16)) 37 (by decide +kernel)⟩
theorem zv_N_140 : nk_cV "NeedOnce" 140 zy_C_timesPlainly zb_C_timesPlainly 3 (some .int) 1 := ⟨⟨zw_389, zw_2, ⟨by decide, by decide, by decide +kernel⟩, by decide, Or.inr ⟨"NeedOnce", nk_tn 386 (by decide +kernel)⟩⟩, zw_388, nk_tp (q := (zy_C_timesPlainly, 16)) 39 (by decide +kernel)⟩
theorem zv_N_143 : nk_cS "NeedOnce" 143 zy_N_isOfDay zb_N_isOfDay 1 (some .boolean) 1 := ⟨⟨zw_397, zw_1, ⟨by decide, by decide, by decide +kernel⟩, by decide, Or.inl zw_395⟩, zw_396⟩
theorem zv_N_146 : nk_cV "NeedOnce" 146 zy_N_areActs zb_N_areActs 6 (some .boolean) 3 := ⟨⟨zw_401, zw_1, ⟨by decide, by decide, by decide +kernel⟩, by decide, Or.inl zw_398⟩, zw_400, nk_tp (q := (zy_N_areActs, 7)) 40 (by decide +kernel)⟩
theorem zv_N_150 : nk_cV "NeedOnce" 150 zy_N_doActs zb_N_doActs 6 (some .int) 3 := ⟨⟨zw_409, zw_1, ⟨by decide, by decide, by decide +kernel⟩, by decide, Or.inl zw_406⟩, zw_408, nk_tp (q := (zy_N_doActs, 7)) 41 (by decide +kernel)⟩
theorem zv_N_154 : nk_cV "NeedOnce" 154 zy_N_afterDay zb_N_afterDay 2 (some .int) 1 := ⟨⟨zw_417, zw_1, ⟨by decide, by decide, by decide +kernel⟩, by decide, Or.inl zw_414⟩, zw_416, nk_tp (q := (zy_N_afterDay, 7)) 43 (by decide +kernel)⟩
theorem zv_N_157 : nk_cV "NeedOnce" 157 zy_S_at zb_S_at 3 (some .int) 2 := ⟨⟨zw_203, zw_6, ⟨by decide, by decide, by decide +kernel⟩, by decide, Or.inr ⟨"NeedOnce", nk_tn 402 (by decide +kernel)⟩⟩, zw_202, nk_tp (q := (zy_S_at, 3)) 7 (by decide +kernel)⟩
theorem zv_N_160 : nk_cS "NeedOnce" 160 zy_N_isAct zb_N_isAct 3 (some .boolean) 2 := ⟨⟨zw_405, zw_1, ⟨by decide, by decide, by decide +kernel⟩, by decide, Or.inl zw_403⟩, zw_404⟩
theorem zv_N_164 : nk_cV "NeedOnce" 164 zy_N_canDo zb_N_canDo 5 (some .boolean) 2 := ⟨⟨zw_413, zw_1, ⟨by decide, by decide, by decide +kernel⟩, by decide, Or.inl zw_410⟩, zw_412, nk_tp (q := (zy_N_canDo, 7)) 42 (by decide +kernel)⟩
theorem zv_N_167 : nk_cV "NeedOnce" 167 zy_C_howManyLinks zb_C_howManyLinks 3 (some .int) 0 := ⟨⟨zw_421, zw_2, ⟨by decide, by decide, by decide +kernel⟩, by decide, Or.inr ⟨"NeedOnce", nk_tn 418 (by decide +kernel)⟩⟩, zw_420, nk_tp (q := (zy_C_howManyLinks, 16)) 44 (by decide +kernel)⟩
theorem zv_N_170 : nk_cV "NeedOnce" 170 zy_R_add zb_R_add 3 (some .int) 2 := ⟨⟨zw_429, zw_5, ⟨by decide, by decide, by decide +kernel⟩, by decide, Or.inr ⟨"NeedOnce", nk_tn 426 (by decide +kernel)⟩⟩, zw_428, nk_tp (q := (zy_R_add, 3)) 45 (by decide +kernel)⟩
theorem zv_N_173 : nk_cV "NeedOnce" 173 zy_R_areSo zb_R_areSo 3 (some .boolean) 1 := ⟨⟨zw_441, zw_5, ⟨by decide, by decide, by decide +kernel⟩, by decide, Or.inr ⟨"NeedOnce", nk_tn 438 (by decide +kernel)⟩⟩, zw_440, nk_tp (q := (zy_R_areSo, 3)) 46 (by decide +kernel)⟩
theorem zv_N_182 : nk_cV "NeedOnce" 182 zy_N_timesItComesTo zb_N_timesItComesTo 6 (some .int) 3 := ⟨⟨zw_458, zw_1, ⟨by decide, by decide, by decide +kernel⟩, by decide, Or.inl zw_455⟩, zw_457, nk_tp (q := (zy_N_timesItComesTo, 7)) 48 (by decide +kernel)⟩
theorem zv_N_185 : nk_cS "NeedOnce" 185 zy_N_commonWithTen zb_N_commonWithTen 3 (some .int) 1 := ⟨⟨zw_462, zw_1, ⟨by decide, by decide, by decide +kernel⟩, by decide, Or.inl zw_460⟩, zw_461⟩
theorem zv_N_188 : nk_cV "NeedOnce" 188 zy_C_tellPart zb_C_tellPart 4 none 3 := ⟨⟨zw_234, zw_2, ⟨by decide, by decide, by decide +kernel⟩, by decide, Or.inr ⟨"NeedOnce", nk_tn 459 (by decide +kernel)⟩⟩, zw_233, nk_tp (q := (zy_C_tellPart, 16)) 13 (by decide +kernel)⟩
theorem zv_N_192 : nk_cV "NeedOnce" 192 zy_S_makeRow zb_S_makeRow 4 none 3 := ⟨⟨zw_470, zw_6, ⟨by decide, by decide, by decide +kernel⟩, by decide, Or.inr ⟨"NeedOnce", nk_tn 467 (by decide +kernel)⟩⟩, zw_469, nk_tp (q := (zy_S_makeRow, 3)) 49 (by decide +kernel)⟩
theorem zv_N_198 : nk_cV "NeedOnce" 198 zy_S_setCut zb_S_setCut 4 none 3 := ⟨⟨zw_483, zw_6, ⟨by decide, by decide, by decide +kernel⟩, by decide, Or.inr ⟨"NeedOnce", nk_tn 480 (by decide +kernel)⟩⟩, zw_482, nk_tp (q := (zy_S_setCut, 3)) 50 (by decide +kernel)⟩
theorem zv_N_201 : nk_cV "NeedOnce" 201 zy_S_moveFault zb_S_moveFault 6 (some .int) 5 := ⟨⟨zw_495, zw_6, ⟨by decide, by decide, by decide +kernel⟩, by decide, Or.inr ⟨"NeedOnce", nk_tn 492 (by decide +kernel)⟩⟩, zw_494, nk_tp (q := (zy_S_moveFault, 3)) 51 (by decide +kernel)⟩
theorem zv_N_205 : nk_cV "NeedOnce" 205 zy_S_move zb_S_move 6 none 5 := ⟨⟨zw_499, zw_6, ⟨by decide, by decide, by decide +kernel⟩, by decide, Or.inr ⟨"NeedOnce", nk_tn 496 (by decide +kernel)⟩⟩, zw_498, nk_tp (q := (zy_S_move, 3)) 52 (by decide +kernel)⟩
theorem zv_N_209 : nk_cV "NeedOnce" 209 zy_N_tellDouble zb_N_tellDouble 3 (some .int) 1 := ⟨⟨zw_508, zw_1, ⟨by decide, by decide, by decide +kernel⟩, by decide, Or.inl zw_505⟩, zw_507, nk_tp (q := (zy_N_tellDouble, 7)) 53 (by decide +kernel)⟩
theorem zv_N_212 : nk_cV "NeedOnce" 212 zy_N_tellDear zb_N_tellDear 2 (some .int) 1 := ⟨⟨zw_516, zw_1, ⟨by decide, by decide, by decide +kernel⟩, by decide, Or.inl zw_513⟩, zw_515, nk_tp (q := (zy_N_tellDear, 7)) 55 (by decide +kernel)⟩
theorem zv_N_215 : nk_cV "NeedOnce" 215 zy_N_tellPlain zb_N_tellPlain 2 (some .int) 1 := ⟨⟨zw_520, zw_1, ⟨by decide, by decide, by decide +kernel⟩, by decide, Or.inl zw_517⟩, zw_519, nk_tp (q := (zy_N_tellPlain, 7)) 56 (by decide +kernel)⟩
theorem zv_N_218 : nk_cV "NeedOnce" 218 zy_N_leaveTrace zb_N_leaveTrace 2 none 1 := ⟨⟨zw_512, zw_1, ⟨by decide, by decide, by decide +kernel⟩, by decide, Or.inl zw_509⟩, zw_511, nk_tp (q := (zy_N_leaveTrace, 7)) 54 (by decide +kernel)⟩
theorem zv_C_44 : nk_cV "NeedOnce$Cells" 44 zy_C_putToSleep zb_C_putToSleep 1 none 0 := ⟨⟨zw_27, zw_2, ⟨by decide, by decide, by decide +kernel⟩, by decide, Or.inl zw_24⟩, zw_26, nk_tp (q := (zy_C_putToSleep, 16)) 0 (by decide +kernel)⟩
theorem zv_C_63 : nk_cV "NeedOnce$Cells" 63 zy_C_partSet zb_C_partSet 4 (some .int) 1 := ⟨⟨zw_244, zw_2, ⟨by decide, by decide, by decide +kernel⟩, by decide, Or.inl zw_241⟩, zw_243, nk_tp (q := (zy_C_partSet, 16)) 15 (by decide +kernel)⟩
theorem zv_C_67 : nk_cV "NeedOnce$Cells" 67 zy_C_partAsTold zb_C_partAsTold 3 (some .int) 2 := ⟨⟨zw_249, zw_2, ⟨by decide, by decide, by decide +kernel⟩, by decide, Or.inl zw_246⟩, zw_248, nk_tp (q := (zy_C_partAsTold, 16)) 16 (by decide +kernel)⟩
theorem zv_C_71 : nk_cS "NeedOnce$Cells" 71 zy_J_fill zb_J_fill 4 none 2 := ⟨⟨zw_30, zw_3, ⟨by decide, by decide, by decide +kernel⟩, by decide, Or.inl zw_28⟩, zw_29⟩
theorem zv_C_77 : nk_cV "NeedOnce$Cells" 77 zy_C_isAwake zb_C_isAwake 2 (some .boolean) 1 := ⟨⟨zw_280, zw_2, ⟨by decide, by decide, by decide +kernel⟩, by decide, Or.inl zw_299⟩, zw_279, nk_tp (q := (zy_C_isAwake, 16)) 22 (by decide +kernel)⟩
theorem zv_C_93 : nk_cV "NeedOnce$Cells" 93 zy_C_startLatest zb_C_startLatest 1 none 0 := ⟨⟨zw_260, zw_2, ⟨by decide, by decide, by decide +kernel⟩, by decide, Or.inl zw_294⟩, zw_259, nk_tp (q := (zy_C_startLatest, 16)) 18 (by decide +kernel)⟩
theorem zv_C_96 : nk_cV "NeedOnce$Cells" 96 zy_C_comeTo zb_C_comeTo 4 (some .int) 2 := ⟨⟨zw_298, zw_2, ⟨by decide, by decide, by decide +kernel⟩, by decide, Or.inl zw_295⟩, zw_297, nk_tp (q := (zy_C_comeTo, 16)) 24 (by decide +kernel)⟩
theorem zv_C_104 : nk_cV "NeedOnce$Cells" 104 zy_C_payFor zb_C_payFor 2 none 1 := ⟨⟨zw_306, zw_2, ⟨by decide, by decide, by decide +kernel⟩, by decide, Or.inl zw_303⟩, zw_305, nk_tp (q := (zy_C_payFor, 16)) 25 (by decide +kernel)⟩
theorem zv_C_108 : nk_cV "NeedOnce$Cells" 108 zy_C_workOut zb_C_workOut 3 (some .int) 2 := ⟨⟨zw_311, zw_2, ⟨by decide, by decide, by decide +kernel⟩, by decide, Or.inl zw_308⟩, zw_310, nk_tp (q := (zy_C_workOut, 16)) 26 (by decide +kernel)⟩
theorem zv_C_111 : nk_cV "NeedOnce$Cells" 111 zy_C_keep zb_C_keep 3 none 2 := ⟨⟨zw_340, zw_2, ⟨by decide, by decide, by decide +kernel⟩, by decide, Or.inl zw_337⟩, zw_339, nk_tp (q := (zy_C_keep, 16)) 33 (by decide +kernel)⟩
theorem zv_C_115 : nk_cV "NeedOnce$Cells" 115 zy_C_costOf zb_C_costOf 2 (some .int) 1 := ⟨⟨zw_272, zw_2, ⟨by decide, by decide, by decide +kernel⟩, by decide, Or.inl zw_307⟩, zw_271, nk_tp (q := (zy_C_costOf, 16)) 20 (by decide +kernel)⟩
theorem zv_C_118 : nk_cV "NeedOnce$Cells" 118 zy_C_formNow zb_C_formNow 2 (some .int) 1 := ⟨⟨zw_276, zw_2, ⟨by decide, by decide, by decide +kernel⟩, by decide, Or.inl zw_312⟩, zw_275, nk_tp (q := (zy_C_formNow, 16)) 21 (by decide +kernel)⟩
theorem zv_C_121 : nk_cV "NeedOnce$Cells" 121 zy_C_workOutBoth zb_C_workOutBoth 5 (some .int) 2 := ⟨⟨zw_316, zw_2, ⟨by decide, by decide, by decide +kernel⟩, by decide, Or.inl zw_313⟩, zw_315, nk_tp (q := (zy_C_workOutBoth, 16)) 27 (by decide +kernel)⟩
theorem zv_C_124 : nk_cV "NeedOnce$Cells" 124 zy_C_workOutChoice zb_C_workOutChoice 4 (some .int) 2 := ⟨⟨zw_324, zw_2, ⟨by decide, by decide, by decide +kernel⟩, by decide, Or.inl zw_321⟩, zw_323, nk_tp (q := (zy_C_workOutChoice, 16)) 29 (by decide +kernel)⟩
theorem zv_C_127 : nk_cV "NeedOnce$Cells" 127 zy_C_workOutOfPair zb_C_workOutOfPair 5 (some .int) 2 := ⟨⟨zw_332, zw_2, ⟨by decide, by decide, by decide +kernel⟩, by decide, Or.inl zw_329⟩, zw_331, nk_tp (q := (zy_C_workOutOfPair, 16)) 31 (by decide +kernel)⟩
theorem zv_C_130 : nk_cV "NeedOnce$Cells" 130 zy_C_passOn zb_C_passOn 5 (some .int) 3 := ⟨⟨zw_328, zw_2, ⟨by decide, by decide, by decide +kernel⟩, by decide, Or.inl zw_325⟩, zw_327, nk_tp (q := (zy_C_passOn, 16)) 30 (by decide +kernel)⟩
theorem zv_C_134 : nk_cV "NeedOnce$Cells" 134 zy_C_comeToNumber zb_C_comeToNumber 4 (some .int) 2 := ⟨⟨zw_320, zw_2, ⟨by decide, by decide, by decide +kernel⟩, by decide, Or.inl zw_317⟩, zw_319, nk_tp (q := (zy_C_comeToNumber, 16)) 28 (by decide +kernel)⟩
theorem zv_C_137 : nk_cV "NeedOnce$Cells" 137 zy_C_partOfPair zb_C_partOfPair 3 (some .int) 2 := ⟨⟨zw_336, zw_2, ⟨by decide, by decide, by decide +kernel⟩, by decide, Or.inl zw_333⟩, zw_335, nk_tp (q := (zy_C_partOfPair, 16)) 32 (by decide +kernel)⟩
theorem zv_C_140 : nk_cV "NeedOnce$Cells" 140 zy_C_canBeLink zb_C_canBeLink 3 (some .boolean) 1 := ⟨⟨zw_369, zw_2, ⟨by decide, by decide, by decide +kernel⟩, by decide, Or.inl zw_366⟩, zw_368, nk_tp (q := (zy_C_canBeLink, 16)) 36 (by decide +kernel)⟩
theorem zv_C_143 : nk_cV "NeedOnce$Cells" 143 zy_C_heldDirectly zb_C_heldDirectly 2 (some .int) 1 := ⟨⟨zw_381, zw_2, ⟨by decide, by decide, by decide +kernel⟩, by decide, Or.inl zw_378⟩, zw_380, nk_tp (q := (zy_C_heldDirectly, 16)) 38 (by decide +kernel)⟩
theorem zv_C_146 : nk_cV "NeedOnce$Cells" 146 zy_C_needAnew zb_C_needAnew 2 (some .int) 1 := ⟨⟨zw_293, zw_2, ⟨by decide, by decide, by decide +kernel⟩, by decide, Or.inl zw_390⟩, zw_292, nk_tp (q := (zy_C_needAnew, 16)) 23 (by decide +kernel)⟩
theorem zv_R_22 : nk_cV "NeedOnce$Readings" 22 zy_C_costFromAsleep zb_C_costFromAsleep 2 (some .int) 1 := ⟨⟨zw_445, zw_2, ⟨by decide, by decide, by decide +kernel⟩, by decide, Or.inr ⟨"NeedOnce", nk_tn 442 (by decide +kernel)⟩⟩, zw_444, nk_tp (q := (zy_C_costFromAsleep, 16)) 47 (by decide +kernel)⟩
theorem zv_S_23 : nk_cS "NeedOnce$Sheets" 23 zy_J_fill zb_J_fill 4 none 2 := ⟨⟨zw_30, zw_3, ⟨by decide, by decide, by decide +kernel⟩, by decide, Or.inl zw_471⟩, zw_29⟩
theorem zv_S_29 : nk_cV "NeedOnce$Sheets" 29 zy_S_isRange zb_S_isRange 4 (some .boolean) 3 := ⟨⟨zw_187, zw_6, ⟨by decide, by decide, by decide +kernel⟩, by decide, Or.inl zw_184⟩, zw_186, nk_tp (q := (zy_S_isRange, 3)) 3 (by decide +kernel)⟩
theorem zv_T_9 : nk_cV "NeedOnce$TextReader" 9 zy_C_forgetAll zb_C_forgetAll 1 none 0 := ⟨⟨zw_199, zw_2, ⟨by decide, by decide, by decide +kernel⟩, by decide, Or.inr ⟨"NeedOnce", nk_tn 196 (by decide +kernel)⟩⟩, zw_198, nk_tp (q := (zy_C_forgetAll, 16)) 6 (by decide +kernel)⟩
theorem zv_T_20 : nk_cV "NeedOnce$TextReader" 20 zy_S_at zb_S_at 3 (some .int) 2 := ⟨⟨zw_203, zw_6, ⟨by decide, by decide, by decide +kernel⟩, by decide, Or.inr ⟨"NeedOnce", nk_tn 200 (by decide +kernel)⟩⟩, zw_202, nk_tp (q := (zy_S_at, 3)) 7 (by decide +kernel)⟩
theorem zv_T_26 : nk_cV "NeedOnce$TextReader" 26 zy_T_goesOn zb_T_goesOn 4 (some .boolean) 2 := ⟨⟨zw_207, zw_4, ⟨by decide, by decide, by decide +kernel⟩, by decide, Or.inl zw_204⟩, zw_206, nk_tp (q := (zy_T_goesOn, 2)) 8 (by decide +kernel)⟩
theorem zv_T_33 : nk_cV "NeedOnce$TextReader" 33 zy_T_takesKind zb_T_takesKind 5 (some .boolean) 3 := ⟨⟨zw_211, zw_4, ⟨by decide, by decide, by decide +kernel⟩, by decide, Or.inl zw_208⟩, zw_210, nk_tp (q := (zy_T_takesKind, 2)) 9 (by decide +kernel)⟩
theorem zv_T_37 : nk_cV "NeedOnce$TextReader" 37 zy_T_takesPrice zb_T_takesPrice 4 (some .boolean) 3 := ⟨⟨zw_220, zw_4, ⟨by decide, by decide, by decide +kernel⟩, by decide, Or.inl zw_217⟩, zw_219, nk_tp (q := (zy_T_takesPrice, 2)) 10 (by decide +kernel)⟩
theorem zv_T_40 : nk_cV "NeedOnce$TextReader" 40 zy_T_takesSign zb_T_takesSign 5 (some .boolean) 3 := ⟨⟨zw_224, zw_4, ⟨by decide, by decide, by decide +kernel⟩, by decide, Or.inl zw_221⟩, zw_223, nk_tp (q := (zy_T_takesSign, 2)) 11 (by decide +kernel)⟩
theorem zv_T_43 : nk_cV "NeedOnce$TextReader" 43 zy_T_takesPart zb_T_takesPart 5 (some .boolean) 3 := ⟨⟨zw_230, zw_4, ⟨by decide, by decide, by decide +kernel⟩, by decide, Or.inl zw_227⟩, zw_229, nk_tp (q := (zy_T_takesPart, 2)) 12 (by decide +kernel)⟩
theorem zv_T_50 : nk_cS "NeedOnce$TextReader" 50 zy_T_placeIn zb_T_placeIn 3 (some .int) 2 := ⟨⟨zw_216, zw_4, ⟨by decide, by decide, by decide +kernel⟩, by decide, Or.inl zw_214⟩, zw_215⟩
theorem zv_T_70 : nk_cV "NeedOnce$TextReader" 70 zy_C_tellPart zb_C_tellPart 4 none 3 := ⟨⟨zw_234, zw_2, ⟨by decide, by decide, by decide +kernel⟩, by decide, Or.inr ⟨"NeedOnce", nk_tn 231 (by decide +kernel)⟩⟩, zw_233, nk_tp (q := (zy_C_tellPart, 16)) 13 (by decide +kernel)⟩
theorem zv_M_100 : nk_cS "NeedOnceModel" 100 zy_M_lost zb_M_lost 0 (some .long) 0 := ⟨⟨zw_918, zw_7, ⟨by decide, by decide, by decide +kernel⟩, by decide, Or.inl zw_916⟩, zw_917⟩
theorem zv_M_107 : nk_cS "NeedOnceModel" 107 zy_M_in zb_M_in 6 (some .boolean) 3 := ⟨⟨zw_705, zw_7, ⟨by decide, by decide, by decide +kernel⟩, by decide, Or.inl zw_703⟩, zw_704⟩
theorem zv_M_114 : nk_cV "NeedOnceModel" 114 zy_M_codeAt zb_M_codeAt 3 (some .int) 2 := ⟨⟨zw_729, zw_7, ⟨by decide, by decide, by decide +kernel⟩, by decide, Or.inl zw_726⟩, zw_728, nk_tp (q := (zy_M_codeAt, 49)) 61 (by decide +kernel)⟩
theorem zv_M_118 : nk_cS "NeedOnceModel" 118 zy_M_formBy zb_M_formBy 1 (some .int) 1 := ⟨⟨zw_741, zw_7, ⟨by decide, by decide, by decide +kernel⟩, by decide, Or.inl zw_739⟩, zw_740⟩
theorem zv_M_125 : nk_cS "NeedOnceModel" 125 zy_M_partsOf zb_M_partsOf 1 (some .int) 1 := ⟨⟨zw_744, zw_7, ⟨by decide, by decide, by decide +kernel⟩, by decide, Or.inl zw_742⟩, zw_743⟩
theorem zv_M_132 : nk_cV "NeedOnceModel" 132 zy_M_readsForm zb_M_readsForm 6 (some .boolean) 2 := ⟨⟨zw_738, zw_7, ⟨by decide, by decide, by decide +kernel⟩, by decide, Or.inl zw_735⟩, zw_737, nk_tp (q := (zy_M_readsForm, 49)) 63 (by decide +kernel)⟩
theorem zv_M_136 : nk_cV "NeedOnceModel" 136 zy_M_readsCell zb_M_readsCell 6 (some .boolean) 2 := ⟨⟨zw_733, zw_7, ⟨by decide, by decide, by decide +kernel⟩, by decide, Or.inl zw_730⟩, zw_732, nk_tp (q := (zy_M_readsCell, 49)) 62 (by decide +kernel)⟩
theorem zv_M_139 : nk_cV "NeedOnceModel" 139 zy_M_failed zb_M_failed 2 (some .int) 1 := ⟨⟨zw_718, zw_7, ⟨by decide, by decide, by decide +kernel⟩, by decide, Or.inl zw_715⟩, zw_717, nk_tp (q := (zy_M_failed, 49)) 59 (by decide +kernel)⟩
theorem zv_M_142 : nk_cS "NeedOnceModel" 142 zy_M_isBeyond zb_M_isBeyond 4 (some .boolean) 3 := ⟨⟨zw_721, zw_7, ⟨by decide, by decide, by decide +kernel⟩, by decide, Or.inl zw_719⟩, zw_720⟩
theorem zv_M_146 : nk_cS "NeedOnceModel" 146 zy_M_noSheet zb_M_noSheet 1 (some .boolean) 1 := ⟨⟨zw_701, zw_7, ⟨by decide, by decide, by decide +kernel⟩, by decide, Or.inl zw_699⟩, zw_700⟩
theorem zv_M_150 : nk_cV "NeedOnceModel" 150 zy_M_refused zb_M_refused 2 (some .int) 1 := ⟨⟨zw_709, zw_7, ⟨by decide, by decide, by decide +kernel⟩, by decide, Or.inl zw_706⟩, zw_708, nk_tp (q := (zy_M_refused, 49)) 57 (by decide +kernel)⟩
theorem zv_M_155 : nk_cV "NeedOnceModel" 155 zy_M_cellsBarred zb_M_cellsBarred 6 (some .int) 4 := ⟨⟨zw_714, zw_7, ⟨by decide, by decide, by decide +kernel⟩, by decide, Or.inl zw_711⟩, zw_713, nk_tp (q := (zy_M_cellsBarred, 49)) 58 (by decide +kernel)⟩
theorem zv_M_159 : nk_cV "NeedOnceModel" 159 zy_M_readsCells zb_M_readsCells 4 (some .boolean) 2 := ⟨⟨zw_725, zw_7, ⟨by decide, by decide, by decide +kernel⟩, by decide, Or.inl zw_722⟩, zw_724, nk_tp (q := (zy_M_readsCells, 49)) 60 (by decide +kernel)⟩
theorem zv_M_162 : nk_cV "NeedOnceModel" 162 zy_M_looseOne zb_M_looseOne 4 (some .int) 0 := ⟨⟨zw_749, zw_7, ⟨by decide, by decide, by decide +kernel⟩, by decide, Or.inl zw_746⟩, zw_748, nk_tp (q := (zy_M_looseOne, 49)) 64 (by decide +kernel)⟩
theorem zv_M_181 : nk_cV "NeedOnceModel" 181 zy_M_allAsleep zb_M_allAsleep 2 none 0 := ⟨⟨zw_753, zw_7, ⟨by decide, by decide, by decide +kernel⟩, by decide, Or.inl zw_750⟩, zw_752, nk_tp (q := (zy_M_allAsleep, 49)) 65 (by decide +kernel)⟩
theorem zv_M_200 : nk_cV "NeedOnceModel" 200 zy_M_isOn zb_M_isOn 4 (some .boolean) 1 := ⟨⟨zw_790, zw_7, ⟨by decide, by decide, by decide +kernel⟩, by decide, Or.inl zw_787⟩, zw_789, nk_tp (q := (zy_M_isOn, 49)) 70 (by decide +kernel)⟩
theorem zv_M_215 : nk_cV "NeedOnceModel" 215 zy_M_cost zb_M_cost 2 (some .int) 1 := ⟨⟨zw_767, zw_7, ⟨by decide, by decide, by decide +kernel⟩, by decide, Or.inl zw_764⟩, zw_766, nk_tp (q := (zy_M_cost, 49)) 67 (by decide +kernel)⟩
theorem zv_M_221 : nk_cV "NeedOnceModel" 221 zy_M_wants zb_M_wants 2 none 1 := ⟨⟨zw_786, zw_7, ⟨by decide, by decide, by decide +kernel⟩, by decide, Or.inl zw_783⟩, zw_785, nk_tp (q := (zy_M_wants, 49)) 69 (by decide +kernel)⟩
theorem zv_M_225 : nk_cV "NeedOnceModel" 225 zy_M_isDone zb_M_isDone 3 none 1 := ⟨⟨zw_802, zw_7, ⟨by decide, by decide, by decide +kernel⟩, by decide, Or.inl zw_799⟩, zw_801, nk_tp (q := (zy_M_isDone, 49)) 73 (by decide +kernel)⟩
theorem zv_M_228 : nk_cV "NeedOnceModel" 228 zy_M_begins zb_M_begins 3 none 1 := ⟨⟨zw_798, zw_7, ⟨by decide, by decide, by decide +kernel⟩, by decide, Or.inl zw_795⟩, zw_797, nk_tp (q := (zy_M_begins, 49)) 72 (by decide +kernel)⟩
theorem zv_M_231 : nk_cV "NeedOnceModel" 231 zy_M_hasFirst zb_M_hasFirst 3 none 1 := ⟨⟨zw_806, zw_7, ⟨by decide, by decide, by decide +kernel⟩, by decide, Or.inl zw_803⟩, zw_805, nk_tp (q := (zy_M_hasFirst, 49)) 74 (by decide +kernel)⟩
theorem zv_M_234 : nk_cV "NeedOnceModel" 234 zy_M_hasSecond zb_M_hasSecond 3 none 1 := ⟨⟨zw_810, zw_7, ⟨by decide, by decide, by decide +kernel⟩, by decide, Or.inl zw_807⟩, zw_809, nk_tp (q := (zy_M_hasSecond, 49)) 75 (by decide +kernel)⟩
theorem zv_M_237 : nk_cV "NeedOnceModel" 237 zy_M_goesOn zb_M_goesOn 3 none 0 := ⟨⟨zw_794, zw_7, ⟨by decide, by decide, by decide +kernel⟩, by decide, Or.inl zw_791⟩, zw_793, nk_tp (q := (zy_M_goesOn, 49)) 71 (by decide +kernel)⟩
theorem zv_M_240 : nk_cV "NeedOnceModel" 240 zy_M_noOne zb_M_noOne 2 (some .boolean) 1 := ⟨⟨zw_761, zw_7, ⟨by decide, by decide, by decide +kernel⟩, by decide, Or.inl zw_758⟩, zw_760, nk_tp (q := (zy_M_noOne, 49)) 66 (by decide +kernel)⟩
theorem zv_M_247 : nk_cS "NeedOnceModel" 247 zy_M_isPrice zb_M_isPrice 1 (some .boolean) 1 := ⟨⟨zw_774, zw_7, ⟨by decide, by decide, by decide +kernel⟩, by decide, Or.inl zw_772⟩, zw_773⟩
theorem zv_M_250 : nk_cV "NeedOnceModel" 250 zy_M_needs zb_M_needs 2 (some .int) 1 := ⟨⟨zw_782, zw_7, ⟨by decide, by decide, by decide +kernel⟩, by decide, Or.inl zw_779⟩, zw_781, nk_tp (q := (zy_M_needs, 49)) 68 (by decide +kernel)⟩
theorem zv_M_255 : nk_cV "NeedOnceModel" 255 zy_M_awakeOnes zb_M_awakeOnes 3 (some .int) 0 := ⟨⟨zw_827, zw_7, ⟨by decide, by decide, by decide +kernel⟩, by decide, Or.inl zw_824⟩, zw_826, nk_tp (q := (zy_M_awakeOnes, 49)) 76 (by decide +kernel)⟩
theorem zv_M_258 : nk_cV "NeedOnceModel" 258 zy_M_nextToShorten zb_M_nextToShorten 4 (some .int) 0 := ⟨⟨zw_835, zw_7, ⟨by decide, by decide, by decide +kernel⟩, by decide, Or.inl zw_832⟩, zw_834, nk_tp (q := (zy_M_nextToShorten, 49)) 77 (by decide +kernel)⟩
theorem zv_M_261 : nk_cV "NeedOnceModel" 261 zy_M_holds zb_M_holds 4 (some .int) 1 := ⟨⟨zw_848, zw_7, ⟨by decide, by decide, by decide +kernel⟩, by decide, Or.inl zw_845⟩, zw_847, nk_tp (q := (zy_M_holds, 49)) 79 (by decide +kernel)⟩
theorem zv_M_266 : nk_cV "NeedOnceModel" 266 zy_M_heldBy zb_M_heldBy 5 (some .int) 1 := ⟨⟨zw_844, zw_7, ⟨by decide, by decide, by decide +kernel⟩, by decide, Or.inl zw_841⟩, zw_843, nk_tp (q := (zy_M_heldBy, 49)) 78 (by decide +kernel)⟩
theorem zv_M_276 : nk_cV "NeedOnceModel" 276 zy_M_needsOnly zb_M_needsOnly 3 (some .boolean) 1 := ⟨⟨zw_878, zw_7, ⟨by decide, by decide, by decide +kernel⟩, by decide, Or.inl zw_875⟩, zw_877, nk_tp (q := (zy_M_needsOnly, 49)) 83 (by decide +kernel)⟩
theorem zv_M_279 : nk_cV "NeedOnceModel" 279 zy_M_price zb_M_price 4 (some .int) 2 := ⟨⟨zw_771, zw_7, ⟨by decide, by decide, by decide +kernel⟩, by decide, Or.inl zw_879⟩, zw_769, zw_770⟩
theorem zv_M_282 : nk_cV "NeedOnceModel" 282 zy_M_shorten zb_M_shorten 4 (some .int) 0 := ⟨⟨zw_831, zw_7, ⟨by decide, by decide, by decide +kernel⟩, by decide, Or.inl zw_880⟩, zw_829, zw_830⟩
theorem zv_M_285 : nk_cV "NeedOnceModel" 285 zy_M_sleep zb_M_sleep 2 (some .int) 0 := ⟨⟨zw_823, zw_7, ⟨by decide, by decide, by decide +kernel⟩, by decide, Or.inl zw_881⟩, zw_821, zw_822⟩
theorem zv_M_288 : nk_cV "NeedOnceModel" 288 zy_M_doesPair zb_M_doesPair 3 (some .boolean) 2 := ⟨⟨zw_874, zw_7, ⟨by decide, by decide, by decide +kernel⟩, by decide, Or.inl zw_871⟩, zw_873, nk_tp (q := (zy_M_doesPair, 49)) 82 (by decide +kernel)⟩
theorem zv_M_291 : nk_cV "NeedOnceModel" 291 zy_M_links zb_M_links 3 (some .int) 0 := ⟨⟨zw_885, zw_7, ⟨by decide, by decide, by decide +kernel⟩, by decide, Or.inl zw_882⟩, zw_884, nk_tp (q := (zy_M_links, 49)) 84 (by decide +kernel)⟩
theorem zv_M_296 : nk_cS "NeedOnceModel" 296 zy_M_isAsTold zb_M_isAsTold 2 (some .boolean) 2 := ⟨⟨zw_861, zw_7, ⟨by decide, by decide, by decide +kernel⟩, by decide, Or.inl zw_859⟩, zw_860⟩
theorem zv_M_299 : nk_cV "NeedOnceModel" 299 zy_M_keeps zb_M_keeps 2 none 0 := ⟨⟨zw_866, zw_7, ⟨by decide, by decide, by decide +kernel⟩, by decide, Or.inl zw_863⟩, zw_865, nk_tp (q := (zy_M_keeps, 49)) 80 (by decide +kernel)⟩
theorem zv_M_302 : nk_cV "NeedOnceModel" 302 zy_M_dayOf zb_M_dayOf 6 (some .int) 3 := ⟨⟨zw_870, zw_7, ⟨by decide, by decide, by decide +kernel⟩, by decide, Or.inl zw_867⟩, zw_869, nk_tp (q := (zy_M_dayOf, 49)) 81 (by decide +kernel)⟩
theorem zv_M_306 : nk_cV "NeedOnceModel" 306 zy_M_bringsBack zb_M_bringsBack 2 none 0 := ⟨⟨zw_889, zw_7, ⟨by decide, by decide, by decide +kernel⟩, by decide, Or.inl zw_886⟩, zw_888, nk_tp (q := (zy_M_bringsBack, 49)) 85 (by decide +kernel)⟩
theorem zv_M_311 : nk_cV "NeedOnceModel" 311 zy_M_areSo zb_M_areSo 4 (some .boolean) 0 := ⟨⟨zw_906, zw_7, ⟨by decide, by decide, by decide +kernel⟩, by decide, Or.inl zw_903⟩, zw_905, nk_tp (q := (zy_M_areSo, 49)) 86 (by decide +kernel)⟩
theorem zv_M_317 : nk_cS "NeedOnceModel" 317 zy_M_share zb_M_share 11 (some .long) 3 := ⟨⟨zw_922, zw_7, ⟨by decide, by decide, by decide +kernel⟩, by decide, Or.inl zw_920⟩, zw_921⟩
theorem zv_M_323 : nk_cV "NeedOnceModel" 323 zy_M_noCell zb_M_noCell 3 (some .int) 2 := ⟨⟨zw_938, zw_7, ⟨by decide, by decide, by decide +kernel⟩, by decide, Or.inl zw_935⟩, zw_937, nk_tp (q := (zy_M_noCell, 49)) 87 (by decide +kernel)⟩
theorem zv_M_326 : nk_cV "NeedOnceModel" 326 zy_M_failedLong zb_M_failedLong 2 (some .long) 1 := ⟨⟨zw_946, zw_7, ⟨by decide, by decide, by decide +kernel⟩, by decide, Or.inl zw_943⟩, zw_945, nk_tp (q := (zy_M_failedLong, 49)) 88 (by decide +kernel)⟩
theorem zv_M_333 : nk_cV "NeedOnceModel" 333 zy_M_traced zb_M_traced 2 none 1 := ⟨⟨zw_958, zw_7, ⟨by decide, by decide, by decide +kernel⟩, by decide, Or.inl zw_955⟩, zw_957, nk_tp (q := (zy_M_traced, 49)) 89 (by decide +kernel)⟩
