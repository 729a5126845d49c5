theorem kX11_1 : Cond.methodLink "JoinRouter" 1 objectInit ∈ lw_u := tb1 (List.mem_of_getElem? (i := 25) (by decide +kernel))
theorem kX11_7 : Cond.classLink "JoinRouter" 7 "JoinRouter$Kept" ∈ lw_u := tb1 (List.mem_of_getElem? (i := 28) (by decide +kernel))
theorem kX11_9 : Cond.methodLinkNest "JoinRouter" 9 mX1_init.1 "JoinRouter" ∈ lw_u := tb1 (List.mem_of_getElem? (i := 30) (by decide +kernel))
theorem kX11_10 : pFL "JoinRouter" 10 11 0 := ⟨by decide, by decide, tb2 (List.mem_of_getElem? (i := 93) (by decide +kernel))⟩
theorem kX11_16 : pFL "JoinRouter" 16 11 1 := ⟨by decide, by decide, tb2 (List.mem_of_getElem? (i := 94) (by decide +kernel))⟩
theorem kX11_20 : pFL "JoinRouter" 20 11 2 := ⟨by decide, by decide, tb2 (List.mem_of_getElem? (i := 95) (by decide +kernel))⟩
theorem kX11_24 : Cond.classLink "JoinRouter" 24 "JoinRouter$Log" ∈ lw_u := tb1 (List.mem_of_getElem? (i := 82) (by decide +kernel))
theorem kX11_26 : Cond.methodLinkNest "JoinRouter" 26 mX3_init.1 "JoinRouter" ∈ lw_u := tb1 (List.mem_of_getElem? (i := 84) (by decide +kernel))
theorem kX11_27 : pFL "JoinRouter" 27 11 3 := ⟨by decide, by decide, tb2 (List.mem_of_getElem? (i := 96) (by decide +kernel))⟩
theorem kX11_31 : pFL "JoinRouter" 31 11 4 := ⟨by decide, by decide, tb2 (List.mem_of_getElem? (i := 97) (by decide +kernel))⟩
theorem kX11_34 : Cond.classLink "JoinRouter" 34 "JoinRouter$Core" ∈ lw_u := tb1 (List.mem_of_getElem? (i := 103) (by decide +kernel))
theorem kX11_36 : Cond.methodLink "JoinRouter" 36 mX0_init.1 ∈ lw_u := tb1 (List.mem_of_getElem? (i := 104) (by decide +kernel))
theorem kX11_37 : pFL "JoinRouter" 37 11 5 := ⟨by decide, by decide, tb2 (List.mem_of_getElem? (i := 98) (by decide +kernel))⟩
theorem kX11_41 : pFL "JoinRouter" 41 11 6 := ⟨by decide, by decide, tb2 (List.mem_of_getElem? (i := 99) (by decide +kernel))⟩
theorem kX11_44 : pFL "JoinRouter" 44 11 7 := ⟨by decide, by decide, tb2 (List.mem_of_getElem? (i := 100) (by decide +kernel))⟩
theorem kX11_48 : Cond.classLink "JoinRouter" 48 "JoinRouter$Reader" ∈ lw_u := tb1 (List.mem_of_getElem? (i := 105) (by decide +kernel))
theorem kX11_50 : Cond.methodLinkNest "JoinRouter" 50 mX5_init.1 "JoinRouter" ∈ lw_u := tb1 (List.mem_of_getElem? (i := 107) (by decide +kernel))
theorem kX11_51 : pFL "JoinRouter" 51 11 8 := ⟨by decide, by decide, tb2 (List.mem_of_getElem? (i := 101) (by decide +kernel))⟩
theorem kX11_55 : pFL "JoinRouter" 55 5 0 := ⟨by decide, by decide, tb1 (List.mem_of_getElem? (i := 176) (by decide +kernel))⟩
theorem kX11_59 : pFL "JoinRouter" 59 10 0 := ⟨by decide, by decide, tb1 (List.mem_of_getElem? (i := 134) (by decide +kernel))⟩
theorem kX11_65 : pFL "JoinRouter" 65 11 9 := ⟨by decide, by decide, tb2 (List.mem_of_getElem? (i := 102) (by decide +kernel))⟩
theorem kX11_66 : Cond.classLink "JoinRouter" 66 "JoinRouter$Route" ∈ lw_u := tb1 (List.mem_of_getElem? (i := 193) (by decide +kernel))
theorem kX11_68 : Cond.methodLinkNest "JoinRouter" 68 mX6_init.1 "JoinRouter" ∈ lw_u := tb1 (List.mem_of_getElem? (i := 195) (by decide +kernel))
theorem kX11_69 : pFL "JoinRouter" 69 11 10 := ⟨by decide, by decide, tb2 (List.mem_of_getElem? (i := 103) (by decide +kernel))⟩
theorem kX11_73 : Cond.classLink "JoinRouter" 73 "JoinRouter$Latest" ∈ lw_u := tb2 (List.mem_of_getElem? (i := 33) (by decide +kernel))
theorem kX11_75 : Cond.methodLinkNest "JoinRouter" 75 mX2_init.1 "JoinRouter" ∈ lw_u := tb2 (List.mem_of_getElem? (i := 35) (by decide +kernel))
theorem kX11_76 : pFL "JoinRouter" 76 11 11 := ⟨by decide, by decide, tb2 (List.mem_of_getElem? (i := 104) (by decide +kernel))⟩
theorem kX11_80 : Cond.classLink "JoinRouter" 80 "JoinRouter$Running" ∈ lw_u := tb2 (List.mem_of_getElem? (i := 60) (by decide +kernel))
theorem kX11_82 : Cond.methodLinkNest "JoinRouter" 82 mX7_init.1 "JoinRouter" ∈ lw_u := tb2 (List.mem_of_getElem? (i := 62) (by decide +kernel))
theorem kX11_83 : pFL "JoinRouter" 83 11 12 := ⟨by decide, by decide, tb2 (List.mem_of_getElem? (i := 105) (by decide +kernel))⟩
theorem kX11_87 : pFL "JoinRouter" 87 11 13 := ⟨by decide, by decide, tb2 (List.mem_of_getElem? (i := 106) (by decide +kernel))⟩
theorem kX11_91 : pFL "JoinRouter" 91 11 14 := ⟨by decide, by decide, tb2 (List.mem_of_getElem? (i := 107) (by decide +kernel))⟩
theorem kX11_94 : pFL "JoinRouter" 94 11 15 := ⟨by decide, by decide, tb2 (List.mem_of_getElem? (i := 108) (by decide +kernel))⟩
theorem kX11_97 : pFL "JoinRouter" 97 11 16 := ⟨by decide, by decide, tb2 (List.mem_of_getElem? (i := 109) (by decide +kernel))⟩
theorem kX11_101 : pFL "JoinRouter" 101 11 17 := ⟨by decide, by decide, tb2 (List.mem_of_getElem? (i := 110) (by decide +kernel))⟩
theorem kX11_104 : pFL "JoinRouter" 104 11 18 := ⟨by decide, by decide, tb2 (List.mem_of_getElem? (i := 111) (by decide +kernel))⟩
theorem kX11_107 : Cond.methodLink "JoinRouter" 107 mX11_isRelation.1 ∈ lw_u := tb2 (List.mem_of_getElem? (i := 155) (by decide +kernel))
theorem kX11_111 : Cond.methodLink "JoinRouter" 111 mX11_isField.1 ∈ lw_u := tb2 (List.mem_of_getElem? (i := 158) (by decide +kernel))
theorem kX11_114 : Cond.methodLink "JoinRouter" 114 mX11_refuse.1 ∈ lw_u := tb2 (List.mem_of_getElem? (i := 161) (by decide +kernel))
theorem kX11_118 : Cond.methodLink "JoinRouter" 118 mX11_tell.1 ∈ lw_u := tb2 (List.mem_of_getElem? (i := 165) (by decide +kernel))
theorem kX11_122 : Cond.methodLink "JoinRouter" 122 mX11_isDigit.1 ∈ lw_u := tb2 (List.mem_of_getElem? (i := 192) (by decide +kernel))
theorem kX11_125 : pFL "JoinRouter" 125 1 0 := ⟨by decide, by decide, tb1 (List.mem_of_getElem? (i := 49) (by decide +kernel))⟩
theorem kX11_128 : Cond.methodLink "JoinRouter" 128 mX0_hasOperator.1 ∈ lw_u := tb2 (List.mem_of_getElem? (i := 199) (by decide +kernel))
theorem kX11_131 : Cond.methodLink "JoinRouter" 131 mX0_part.1 ∈ lw_u := tb2 (List.mem_of_getElem? (i := 203) (by decide +kernel))
theorem kX11_135 : Cond.methodLink "JoinRouter" 135 mX0_windowOf.1 ∈ lw_u := tb2 (List.mem_of_getElem? (i := 211) (by decide +kernel))
theorem kX11_138 : Cond.methodLink "JoinRouter" 138 mX0_indexOn.1 ∈ lw_u := tb2 (List.mem_of_getElem? (i := 215) (by decide +kernel))
theorem kX11_141 : Cond.methodLink "JoinRouter" 141 mX0_held.1 ∈ lw_u := tb2 (List.mem_of_getElem? (i := 219) (by decide +kernel))
theorem kX11_144 : Cond.methodLink "JoinRouter" 144 mX0_cell.1 ∈ lw_u := tb2 (List.mem_of_getElem? (i := 227) (by decide +kernel))
theorem kX11_148 : Cond.fieldLink "JoinRouter" 148 "JoinRouter" "LEAST_TERM" "[I" ∈ lw_u := tb2 (List.mem_of_getElem? (i := 235) (by decide +kernel))
theorem kX11_151 : Cond.fieldLink "JoinRouter" 151 "JoinRouter" "MOST_TERM" "[I" ∈ lw_u := tb2 (List.mem_of_getElem? (i := 237) (by decide +kernel))
theorem kX11_154 : pFL "JoinRouter" 154 1 1 := ⟨by decide, by decide, tb1 (List.mem_of_getElem? (i := 51) (by decide +kernel))⟩
theorem kX11_157 : Cond.methodLink "JoinRouter" 157 mX11_accept.1 ∈ lw_u := tb2 (List.mem_of_getElem? (i := 184) (by decide +kernel))
theorem kX11_160 : pFL "JoinRouter" 160 8 1 := ⟨by decide, by decide, tb1 (List.mem_of_getElem? (i := 126) (by decide +kernel))⟩
theorem kX11_165 : Cond.methodLink "JoinRouter" 165 mX8_put.1 ∈ lw_u := tb3 (List.mem_of_getElem? (i := 3) (by decide +kernel))
theorem kX11_169 : Cond.methodLink "JoinRouter" 169 mX8_at.1 ∈ lw_u := tb3 (List.mem_of_getElem? (i := 15) (by decide +kernel))
theorem kX11_172 : Cond.methodLink "JoinRouter" 172 mX11_comeTo.1 ∈ lw_u := tb3 (List.mem_of_getElem? (i := 19) (by decide +kernel))
theorem kX11_176 : pFL "JoinRouter" 176 3 3 := ⟨by decide, by decide, tb1 (List.mem_of_getElem? (i := 92) (by decide +kernel))⟩
theorem kX11_179 : pFL "JoinRouter" 179 1 6 := ⟨by decide, by decide, tb1 (List.mem_of_getElem? (i := 61) (by decide +kernel))⟩
theorem kX11_182 : Cond.methodLink "JoinRouter" 182 mX5_read.1 ∈ lw_u := tb3 (List.mem_of_getElem? (i := 157) (by decide +kernel))
theorem kX11_186 : pFL "JoinRouter" 186 1 5 := ⟨by decide, by decide, tb1 (List.mem_of_getElem? (i := 59) (by decide +kernel))⟩
theorem kX11_190 : Cond.classLink "JoinRouter" 190 "JoinRouter$Text" ∈ lw_u := tb4 (List.mem_of_getElem? (i := 69) (by decide +kernel))
theorem kX11_192 : pFL "JoinRouter" 192 5 1 := ⟨by decide, by decide, tb1 (List.mem_of_getElem? (i := 178) (by decide +kernel))⟩
theorem kX11_196 : Cond.methodLink "JoinRouter" 196 mX9_init_.1 ∈ lw_u := tb4 (List.mem_of_getElem? (i := 70) (by decide +kernel))
theorem kX11_199 : Cond.methodLink "JoinRouter" 199 mX7_begin.1 ∈ lw_u := tb4 (List.mem_of_getElem? (i := 78) (by decide +kernel))
theorem kX11_202 : Cond.methodLink "JoinRouter" 202 mX0_copy.1 ∈ lw_u := tb4 (List.mem_of_getElem? (i := 82) (by decide +kernel))
theorem kX11_206 : Cond.methodLink "JoinRouter" 206 mX3_copy.1 ∈ lw_u := tb4 (List.mem_of_getElem? (i := 87) (by decide +kernel))
theorem kX11_209 : pFL "JoinRouter" 209 9 2 := ⟨by decide, by decide, tb1 (List.mem_of_getElem? (i := 163) (by decide +kernel))⟩
theorem kX11_212 : pFL "JoinRouter" 212 7 5 := ⟨by decide, by decide, tb2 (List.mem_of_getElem? (i := 79) (by decide +kernel))⟩
theorem kX11_215 : Cond.methodLink "JoinRouter" 215 mX11_runClause.1 ∈ lw_u := tb4 (List.mem_of_getElem? (i := 91) (by decide +kernel))
theorem kX11_219 : pFL "JoinRouter" 219 7 3 := ⟨by decide, by decide, tb2 (List.mem_of_getElem? (i := 75) (by decide +kernel))⟩
theorem kX11_222 : Cond.methodLink "JoinRouter" 222 mX11_hasLaw.1 ∈ lw_u := tb4 (List.mem_of_getElem? (i := 151) (by decide +kernel))
theorem kX11_225 : pFL "JoinRouter" 225 1 7 := ⟨by decide, by decide, tb1 (List.mem_of_getElem? (i := 63) (by decide +kernel))⟩
theorem kX11_228 : Cond.methodLink "JoinRouter" 228 mX2_keepResults.1 ∈ lw_u := tb4 (List.mem_of_getElem? (i := 159) (by decide +kernel))
theorem kX11_232 : Cond.methodLink "JoinRouter" 232 mX2_keepShut.1 ∈ lw_u := tb4 (List.mem_of_getElem? (i := 164) (by decide +kernel))
theorem kX11_235 : Cond.methodLink "JoinRouter" 235 mX11_settle.1 ∈ lw_u := tb4 (List.mem_of_getElem? (i := 168) (by decide +kernel))
theorem kX11_238 : Cond.methodLink "JoinRouter" 238 mX11_strikeOut.1 ∈ lw_u := tb4 (List.mem_of_getElem? (i := 114) (by decide +kernel))
theorem kX11_241 : Cond.methodLink "JoinRouter" 241 mX11_changeWindow.1 ∈ lw_u := tb4 (List.mem_of_getElem? (i := 122) (by decide +kernel))
theorem kX11_244 : Cond.methodLink "JoinRouter" 244 mX11_changeIndex.1 ∈ lw_u := tb4 (List.mem_of_getElem? (i := 131) (by decide +kernel))
theorem kX11_247 : Cond.methodLink "JoinRouter" 247 mX3_pop.1 ∈ lw_u := tb4 (List.mem_of_getElem? (i := 188) (by decide +kernel))
theorem kX11_251 : pFL "JoinRouter" 251 2 1 := ⟨by decide, by decide, tb2 (List.mem_of_getElem? (i := 42) (by decide +kernel))⟩
theorem kX11_254 : pFL "JoinRouter" 254 2 0 := ⟨by decide, by decide, tb2 (List.mem_of_getElem? (i := 40) (by decide +kernel))⟩
theorem kX11_257 : pFL "JoinRouter" 257 2 3 := ⟨by decide, by decide, tb2 (List.mem_of_getElem? (i := 46) (by decide +kernel))⟩
theorem kX11_260 : pFL "JoinRouter" 260 2 2 := ⟨by decide, by decide, tb2 (List.mem_of_getElem? (i := 44) (by decide +kernel))⟩
theorem kX11_263 : pFL "JoinRouter" 263 2 4 := ⟨by decide, by decide, tb2 (List.mem_of_getElem? (i := 48) (by decide +kernel))⟩
theorem kX11_266 : Cond.methodLink "JoinRouter" 266 mX11_isTuple.1 ∈ lw_u := tb3 (List.mem_of_getElem? (i := 23) (by decide +kernel))
theorem kX11_270 : Cond.methodLink "JoinRouter" 270 mX1_lawInForce.1 ∈ lw_u := tb3 (List.mem_of_getElem? (i := 26) (by decide +kernel))
theorem kX11_274 : Cond.methodLink "JoinRouter" 274 mX11_costOnPaper.1 ∈ lw_u := tb4 (List.mem_of_getElem? (i := 208) (by decide +kernel))
theorem kX11_278 : pFL "JoinRouter" 278 6 12 := ⟨by decide, by decide, tb1 (List.mem_of_getElem? (i := 229) (by decide +kernel))⟩
theorem kX11_279 : Cond.methodLink "JoinRouter" 279 mX0_operators.1 ∈ lw_u := tb2 (List.mem_of_getElem? (i := 169) (by decide +kernel))
theorem kX11_283 : Cond.methodLink "JoinRouter" 283 mX11_findCheapest.1 ∈ lw_u := tb4 (List.mem_of_getElem? (i := 217) (by decide +kernel))
theorem kX11_286 : Cond.constant "JoinRouter" 286 1000000000 ∈ lw_u := tb4 (List.mem_of_getElem? (i := 212) (by decide +kernel))
theorem kX11_287 : Cond.methodLink "JoinRouter" 287 mX0_setIndex.1 ∈ lw_u := tb4 (List.mem_of_getElem? (i := 135) (by decide +kernel))
theorem kX11_291 : pFL "JoinRouter" 291 1 4 := ⟨by decide, by decide, tb1 (List.mem_of_getElem? (i := 57) (by decide +kernel))⟩
theorem kX11_294 : pFL "JoinRouter" 294 1 2 := ⟨by decide, by decide, tb1 (List.mem_of_getElem? (i := 53) (by decide +kernel))⟩
theorem kX11_297 : pFL "JoinRouter" 297 1 3 := ⟨by decide, by decide, tb1 (List.mem_of_getElem? (i := 55) (by decide +kernel))⟩
theorem kX11_300 : Cond.methodLink "JoinRouter" 300 mX1_agrees.1 ∈ lw_u := tb5 (List.mem_of_getElem? (i := 8) (by decide +kernel))
theorem kX11_304 : Cond.methodLink "JoinRouter" 304 mX11_mostAlike.1 ∈ lw_u := tb5 (List.mem_of_getElem? (i := 21) (by decide +kernel))
theorem kX11_307 : Cond.constantLong "JoinRouter" 307 (-1) ∈ lw_u := tb5 (List.mem_of_getElem? (i := 31) (by decide +kernel))
theorem kX11_309 : Cond.constantLong "JoinRouter" 309 1000000000000 ∈ lw_u := tb5 (List.mem_of_getElem? (i := 32) (by decide +kernel))
theorem kX11_311 : Cond.constantLong "JoinRouter" 311 10 ∈ lw_u := tb5 (List.mem_of_getElem? (i := 33) (by decide +kernel))
theorem kX11_313 : Cond.constant "JoinRouter" 313 1000000 ∈ lw_u := tb5 (List.mem_of_getElem? (i := 42) (by decide +kernel))
theorem kX11_314 : Cond.methodLink "JoinRouter" 314 mX11_drawBehind.1 ∈ lw_u := tb5 (List.mem_of_getElem? (i := 43) (by decide +kernel))
theorem kX11_317 : Cond.methodLink "JoinRouter" 317 mX0_setWindow.1 ∈ lw_u := tb4 (List.mem_of_getElem? (i := 126) (by decide +kernel))
theorem kX11_320 : Cond.methodLink "JoinRouter" 320 mX0_resultsEver.1 ∈ lw_u := tb5 (List.mem_of_getElem? (i := 49) (by decide +kernel))
theorem kX11_323 : Cond.methodLink "JoinRouter" 323 mX1_copy.1 ∈ lw_u := tb5 (List.mem_of_getElem? (i := 58) (by decide +kernel))
theorem kX11_326 : Cond.methodLink "JoinRouter" 326 mX0_latestStamp.1 ∈ lw_u := tb3 (List.mem_of_getElem? (i := 48) (by decide +kernel))
theorem kX11_329 : Cond.methodLink "JoinRouter" 329 mX3_push.1 ∈ lw_u := tb2 (List.mem_of_getElem? (i := 173) (by decide +kernel))
theorem kX11_333 : Cond.methodLink "JoinRouter" 333 mX0_addOperator.1 ∈ lw_u := tb2 (List.mem_of_getElem? (i := 180) (by decide +kernel))
theorem kX11_336 : Cond.methodLink "JoinRouter" 336 mX6_setTerms.1 ∈ lw_u := tb3 (List.mem_of_getElem? (i := 30) (by decide +kernel))
theorem kX11_340 : Cond.methodLink "JoinRouter" 340 mX6_setTuple.1 ∈ lw_u := tb3 (List.mem_of_getElem? (i := 34) (by decide +kernel))
theorem kX11_344 : Cond.methodLink "JoinRouter" 344 mX6_isBarred.1 ∈ lw_u := tb3 (List.mem_of_getElem? (i := 49) (by decide +kernel))
theorem kX11_348 : Cond.methodLinkNest "JoinRouter" 348 mX6_pass.1 "JoinRouter" ∈ lw_u := tb3 (List.mem_of_getElem? (i := 75) (by decide +kernel))
theorem kX11_351 : pFL "JoinRouter" 351 6 16 := ⟨by decide, by decide, tb1 (List.mem_of_getElem? (i := 237) (by decide +kernel))⟩
theorem kX11_354 : pFL "JoinRouter" 354 6 9 := ⟨by decide, by decide, tb1 (List.mem_of_getElem? (i := 222) (by decide +kernel))⟩
theorem kX11_357 : Cond.methodLink "JoinRouter" 357 mX0_setTickets.1 ∈ lw_u := tb3 (List.mem_of_getElem? (i := 137) (by decide +kernel))
theorem kX11_361 : Cond.methodLink "JoinRouter" 361 mX0_addTuple.1 ∈ lw_u := tb3 (List.mem_of_getElem? (i := 141) (by decide +kernel))
theorem kX11_365 : Cond.methodLink "JoinRouter" 365 mX0_removeOperator.1 ∈ lw_u := tb4 (List.mem_of_getElem? (i := 118) (by decide +kernel))
theorem kX11_368 : pFL "JoinRouter" 368 7 2 := ⟨by decide, by decide, tb2 (List.mem_of_getElem? (i := 73) (by decide +kernel))⟩
theorem kX11_371 : Cond.methodLink "JoinRouter" 371 mX9_part.1 ∈ lw_u := tb4 (List.mem_of_getElem? (i := 95) (by decide +kernel))
theorem kX11_372 : Cond.methodLink "JoinRouter" 372 mX7_setWords.1 ∈ lw_u := tb4 (List.mem_of_getElem? (i := 96) (by decide +kernel))
theorem kX11_375 : pFL "JoinRouter" 375 7 0 := ⟨by decide, by decide, tb2 (List.mem_of_getElem? (i := 69) (by decide +kernel))⟩
theorem kX11_379 : pFL "JoinRouter" 379 7 1 := ⟨by decide, by decide, tb2 (List.mem_of_getElem? (i := 71) (by decide +kernel))⟩
theorem kX11_382 : Cond.methodLink "JoinRouter" 382 mX4_isSo.1 ∈ lw_u := tb4 (List.mem_of_getElem? (i := 109) (by decide +kernel))
theorem kX11_388 : Cond.methodLink "JoinRouter" 388 mX4_setSums.1 ∈ lw_u := tb4 (List.mem_of_getElem? (i := 110) (by decide +kernel))
theorem kX11_392 : pFL "JoinRouter" 392 7 4 := ⟨by decide, by decide, tb2 (List.mem_of_getElem? (i := 77) (by decide +kernel))⟩
theorem kX11_395 : pFL "JoinRouter" 395 6 15 := ⟨by decide, by decide, tb1 (List.mem_of_getElem? (i := 235) (by decide +kernel))⟩
theorem kX11_398 : Cond.methodLink "JoinRouter" 398 arraycopyName ∈ lw_u := tb4 (List.mem_of_getElem? (i := 221) (by decide +kernel))
theorem kX11_404 : Cond.methodLink "JoinRouter" 404 mX11_nextOrder.1 ∈ lw_u := tb4 (List.mem_of_getElem? (i := 222) (by decide +kernel))
theorem kX11_408 : Cond.methodLink "JoinRouter" 408 mX11_swap.1 ∈ lw_u := tb4 (List.mem_of_getElem? (i := 225) (by decide +kernel))
theorem kX11_412 : Cond.methodLink "JoinRouter" 412 mX0_fact.1 ∈ lw_u := tb5 (List.mem_of_getElem? (i := 25) (by decide +kernel))
theorem kX11_415 : Cond.methodLink "JoinRouter" 415 ⟨"java/lang/Math", "max", "(II)I"⟩ ∈ lw_u := tb5 (List.mem_of_getElem? (i := 26) (by decide +kernel))
theorem kX11_420 : Cond.constantLong "JoinRouter" 420 1103 ∈ lw_u := tb5 (List.mem_of_getElem? (i := 46) (by decide +kernel))
theorem kX11_422 : Cond.constantLong "JoinRouter" 422 12345 ∈ lw_u := tb5 (List.mem_of_getElem? (i := 47) (by decide +kernel))
theorem kX11_424 : Cond.constantLong "JoinRouter" 424 1000003 ∈ lw_u := tb5 (List.mem_of_getElem? (i := 48) (by decide +kernel))
theorem kX0_3 : Cond.methodLink "JoinRouter$Core" 3 objectInit ∈ lw_u := tb1 (List.mem_of_getElem? (i := 39) (by decide +kernel))
theorem kX0_11 : pFL "JoinRouter$Core" 11 0 0 := ⟨by decide, by decide, tb1 (List.mem_of_getElem? (i := 40) (by decide +kernel))⟩
theorem kX0_15 : Cond.methodLink "JoinRouter$Core" 15 arraycopyName ∈ lw_u := tb4 (List.mem_of_getElem? (i := 86) (by decide +kernel))
theorem kX0_21 : Cond.methodLink "JoinRouter$Core" 21 mX0_cell.1 ∈ lw_u := tb5 (List.mem_of_getElem? (i := 16) (by decide +kernel))
theorem kX0_25 : Cond.methodLink "JoinRouter$Core" 25 ⟨"java/lang/Math", "max", "(II)I"⟩ ∈ lw_u := tb4 (List.mem_of_getElem? (i := 130) (by decide +kernel))
theorem kX0_31 : Cond.methodLink "JoinRouter$Core" 31 mX0_dropOldest.1 ∈ lw_u := tb3 (List.mem_of_getElem? (i := 145) (by decide +kernel))
theorem kX1_3 : Cond.methodLink "JoinRouter$Kept" 3 objectInit ∈ lw_u := tb1 (List.mem_of_getElem? (i := 33) (by decide +kernel))
theorem kX1_9 : Cond.classLink "JoinRouter$Kept" 9 "JoinRouter$Core" ∈ lw_u := tb1 (List.mem_of_getElem? (i := 34) (by decide +kernel))
theorem kX1_11 : Cond.methodLink "JoinRouter$Kept" 11 mX0_init.1 ∈ lw_u := tb1 (List.mem_of_getElem? (i := 36) (by decide +kernel))
theorem kX1_12 : pFL "JoinRouter$Kept" 12 1 0 := ⟨by decide, by decide, tb1 (List.mem_of_getElem? (i := 48) (by decide +kernel))⟩
theorem kX1_18 : pFL "JoinRouter$Kept" 18 1 1 := ⟨by decide, by decide, tb1 (List.mem_of_getElem? (i := 50) (by decide +kernel))⟩
theorem kX1_22 : pFL "JoinRouter$Kept" 22 1 2 := ⟨by decide, by decide, tb1 (List.mem_of_getElem? (i := 52) (by decide +kernel))⟩
theorem kX1_25 : pFL "JoinRouter$Kept" 25 1 3 := ⟨by decide, by decide, tb1 (List.mem_of_getElem? (i := 54) (by decide +kernel))⟩
theorem kX1_28 : pFL "JoinRouter$Kept" 28 1 4 := ⟨by decide, by decide, tb1 (List.mem_of_getElem? (i := 56) (by decide +kernel))⟩
theorem kX1_32 : Cond.classLink "JoinRouter$Kept" 32 "JoinRouter$Text" ∈ lw_u := tb1 (List.mem_of_getElem? (i := 46) (by decide +kernel))
theorem kX1_34 : pFL "JoinRouter$Kept" 34 1 5 := ⟨by decide, by decide, tb1 (List.mem_of_getElem? (i := 58) (by decide +kernel))⟩
theorem kX1_38 : pFL "JoinRouter$Kept" 38 1 6 := ⟨by decide, by decide, tb1 (List.mem_of_getElem? (i := 60) (by decide +kernel))⟩
theorem kX1_41 : pFL "JoinRouter$Kept" 41 1 7 := ⟨by decide, by decide, tb1 (List.mem_of_getElem? (i := 62) (by decide +kernel))⟩
theorem kX1_44 : Cond.methodLink "JoinRouter$Kept" 44 mX0_copy.1 ∈ lw_u := tb5 (List.mem_of_getElem? (i := 62) (by decide +kernel))
theorem kX1_48 : Cond.methodLink "JoinRouter$Kept" 48 arraycopyName ∈ lw_u := tb5 (List.mem_of_getElem? (i := 63) (by decide +kernel))
theorem kX1_54 : Cond.methodLink "JoinRouter$Kept" 54 mX0_fact.1 ∈ lw_u := tb5 (List.mem_of_getElem? (i := 12) (by decide +kernel))
theorem kX2_3 : Cond.methodLink "JoinRouter$Latest" 3 objectInit ∈ lw_u := tb2 (List.mem_of_getElem? (i := 38) (by decide +kernel))
theorem kX2_9 : pFL "JoinRouter$Latest" 9 2 0 := ⟨by decide, by decide, tb2 (List.mem_of_getElem? (i := 39) (by decide +kernel))⟩
theorem kX2_15 : pFL "JoinRouter$Latest" 15 2 1 := ⟨by decide, by decide, tb2 (List.mem_of_getElem? (i := 41) (by decide +kernel))⟩
theorem kX2_19 : pFL "JoinRouter$Latest" 19 2 2 := ⟨by decide, by decide, tb2 (List.mem_of_getElem? (i := 43) (by decide +kernel))⟩
theorem kX2_22 : pFL "JoinRouter$Latest" 22 2 3 := ⟨by decide, by decide, tb2 (List.mem_of_getElem? (i := 45) (by decide +kernel))⟩
theorem kX2_25 : pFL "JoinRouter$Latest" 25 2 4 := ⟨by decide, by decide, tb2 (List.mem_of_getElem? (i := 47) (by decide +kernel))⟩
theorem kX2_28 : pFL "JoinRouter$Latest" 28 6 12 := ⟨by decide, by decide, tb1 (List.mem_of_getElem? (i := 228) (by decide +kernel))⟩
theorem kX2_31 : pFL "JoinRouter$Latest" 31 6 10 := ⟨by decide, by decide, tb1 (List.mem_of_getElem? (i := 224) (by decide +kernel))⟩
theorem kX2_32 : Cond.methodLink "JoinRouter$Latest" 32 arraycopyName ∈ lw_u := tb4 (List.mem_of_getElem? (i := 163) (by decide +kernel))
theorem kX2_38 : pFL "JoinRouter$Latest" 38 6 13 := ⟨by decide, by decide, tb1 (List.mem_of_getElem? (i := 231) (by decide +kernel))⟩
theorem kX2_39 : pFL "JoinRouter$Latest" 39 6 14 := ⟨by decide, by decide, tb1 (List.mem_of_getElem? (i := 233) (by decide +kernel))⟩
theorem kX2_40 : pFL "JoinRouter$Latest" 40 6 11 := ⟨by decide, by decide, tb1 (List.mem_of_getElem? (i := 226) (by decide +kernel))⟩
theorem kX3_3 : Cond.methodLink "JoinRouter$Log" 3 objectInit ∈ lw_u := tb1 (List.mem_of_getElem? (i := 87) (by decide +kernel))
theorem kX3_9 : pFL "JoinRouter$Log" 9 3 0 := ⟨by decide, by decide, tb1 (List.mem_of_getElem? (i := 88) (by decide +kernel))⟩
theorem kX3_17 : pFL "JoinRouter$Log" 17 3 1 := ⟨by decide, by decide, tb1 (List.mem_of_getElem? (i := 89) (by decide +kernel))⟩
theorem kX3_20 : pFL "JoinRouter$Log" 20 3 2 := ⟨by decide, by decide, tb1 (List.mem_of_getElem? (i := 90) (by decide +kernel))⟩
theorem kX3_24 : pFL "JoinRouter$Log" 24 3 3 := ⟨by decide, by decide, tb1 (List.mem_of_getElem? (i := 91) (by decide +kernel))⟩
theorem kX3_27 : pFL "JoinRouter$Log" 27 0 0 := ⟨by decide, by decide, tb1 (List.mem_of_getElem? (i := 41) (by decide +kernel))⟩
theorem kX3_28 : Cond.methodLink "JoinRouter$Log" 28 arraycopyName ∈ lw_u := tb2 (List.mem_of_getElem? (i := 177) (by decide +kernel))
theorem kX4_3 : Cond.methodLink "JoinRouter$Machine" 3 objectInit ∈ lw_u := tb1 (List.mem_of_getElem? (i := 204) (by decide +kernel))
theorem kX4_11 : pFL "JoinRouter$Machine" 11 4 0 := ⟨by decide, by decide, tb1 (List.mem_of_getElem? (i := 205) (by decide +kernel))⟩
theorem kX4_17 : Cond.methodLink "JoinRouter$Machine" 17 mX9_part.1 ∈ lw_u := tb3 (List.mem_of_getElem? (i := 61) (by decide +kernel))
theorem kX4_21 : pFL "JoinRouter$Machine" 21 9 1 := ⟨by decide, by decide, tb1 (List.mem_of_getElem? (i := 158) (by decide +kernel))⟩
theorem kX4_25 : Cond.methodLink "JoinRouter$Machine" 25 mX4_value.1 ∈ lw_u := tb3 (List.mem_of_getElem? (i := 62) (by decide +kernel))
theorem kX4_29 : Cond.constantLong "JoinRouter$Machine" 29 2000000000 ∈ lw_u := tb3 (List.mem_of_getElem? (i := 66) (by decide +kernel))
theorem kX4_31 : Cond.methodLink "JoinRouter$Machine" 31 ⟨"java/lang/Math", "max", "(II)I"⟩ ∈ lw_u := tb3 (List.mem_of_getElem? (i := 67) (by decide +kernel))
theorem kX4_36 : Cond.methodLink "JoinRouter$Machine" 36 mX4_joined.1 ∈ lw_u := tb3 (List.mem_of_getElem? (i := 70) (by decide +kernel))
theorem kX4_40 : Cond.constantLong "JoinRouter$Machine" 40 1000000000 ∈ lw_u := tb3 (List.mem_of_getElem? (i := 73) (by decide +kernel))
theorem kX4_42 : Cond.constantLong "JoinRouter$Machine" 42 (-1000000000) ∈ lw_u := tb3 (List.mem_of_getElem? (i := 74) (by decide +kernel))
theorem kX5_3 : Cond.methodLink "JoinRouter$Reader" 3 objectInit ∈ lw_u := tb1 (List.mem_of_getElem? (i := 110) (by decide +kernel))
theorem kX5_9 : Cond.classLink "JoinRouter$Reader" 9 "JoinRouter$Tokens" ∈ lw_u := tb1 (List.mem_of_getElem? (i := 111) (by decide +kernel))
theorem kX5_11 : Cond.methodLinkNest "JoinRouter$Reader" 11 mX10_init.1 "JoinRouter" ∈ lw_u := tb1 (List.mem_of_getElem? (i := 113) (by decide +kernel))
theorem kX5_12 : pFL "JoinRouter$Reader" 12 5 0 := ⟨by decide, by decide, tb1 (List.mem_of_getElem? (i := 175) (by decide +kernel))⟩
theorem kX5_18 : Cond.classLink "JoinRouter$Reader" 18 "JoinRouter$Text" ∈ lw_u := tb1 (List.mem_of_getElem? (i := 150) (by decide +kernel))
theorem kX5_20 : Cond.methodLink "JoinRouter$Reader" 20 mX9_init.1 ∈ lw_u := tb1 (List.mem_of_getElem? (i := 152) (by decide +kernel))
theorem kX5_21 : pFL "JoinRouter$Reader" 21 5 1 := ⟨by decide, by decide, tb1 (List.mem_of_getElem? (i := 177) (by decide +kernel))⟩
theorem kX5_25 : pFL "JoinRouter$Reader" 25 5 2 := ⟨by decide, by decide, tb1 (List.mem_of_getElem? (i := 179) (by decide +kernel))⟩
theorem kX5_29 : pFL "JoinRouter$Reader" 29 5 3 := ⟨by decide, by decide, tb1 (List.mem_of_getElem? (i := 180) (by decide +kernel))⟩
theorem kX5_33 : pFL "JoinRouter$Reader" 33 5 4 := ⟨by decide, by decide, tb1 (List.mem_of_getElem? (i := 181) (by decide +kernel))⟩
theorem kX5_36 : pFL "JoinRouter$Reader" 36 9 2 := ⟨by decide, by decide, tb1 (List.mem_of_getElem? (i := 161) (by decide +kernel))⟩
theorem kX5_39 : pFL "JoinRouter$Reader" 39 9 3 := ⟨by decide, by decide, tb1 (List.mem_of_getElem? (i := 165) (by decide +kernel))⟩
theorem kX5_42 : Cond.methodLink "JoinRouter$Reader" 42 mX10_readAll.1 ∈ lw_u := tb3 (List.mem_of_getElem? (i := 161) (by decide +kernel))
theorem kX5_45 : Cond.methodLink "JoinRouter$Reader" 45 mX5_readClause.1 ∈ lw_u := tb3 (List.mem_of_getElem? (i := 237) (by decide +kernel))
theorem kX5_49 : pFL "JoinRouter$Reader" 49 10 2 := ⟨by decide, by decide, tb1 (List.mem_of_getElem? (i := 138) (by decide +kernel))⟩
theorem kX5_53 : Cond.methodLink "JoinRouter$Reader" 53 mX5_is.1 ∈ lw_u := tb4 (List.mem_of_getElem? (i := 25) (by decide +kernel))
theorem kX5_57 : Cond.methodLink "JoinRouter$Reader" 57 mX5_skip.1 ∈ lw_u := tb4 (List.mem_of_getElem? (i := 41) (by decide +kernel))
theorem kX5_60 : pFL "JoinRouter$Reader" 60 10 1 := ⟨by decide, by decide, tb1 (List.mem_of_getElem? (i := 136) (by decide +kernel))⟩
theorem kX5_63 : Cond.methodLink "JoinRouter$Reader" 63 mX9_beginClause.1 ∈ lw_u := tb4 (List.mem_of_getElem? (i := 1) (by decide +kernel))
theorem kX5_67 : Cond.methodLink "JoinRouter$Reader" 67 mX5_readWhole.1 ∈ lw_u := tb4 (List.mem_of_getElem? (i := 5) (by decide +kernel))
theorem kX5_70 : Cond.methodLink "JoinRouter$Reader" 70 mX5_readOrder.1 ∈ lw_u := tb4 (List.mem_of_getElem? (i := 45) (by decide +kernel))
theorem kX5_73 : Cond.methodLink "JoinRouter$Reader" 73 mX9_setPart.1 ∈ lw_u := tb4 (List.mem_of_getElem? (i := 9) (by decide +kernel))
theorem kX5_77 : Cond.methodLink "JoinRouter$Reader" 77 mX5_readTest.1 ∈ lw_u := tb4 (List.mem_of_getElem? (i := 49) (by decide +kernel))
theorem kX5_82 : Cond.methodLink "JoinRouter$Reader" 82 mX9_emit.1 ∈ lw_u := tb4 (List.mem_of_getElem? (i := 37) (by decide +kernel))
theorem kX5_86 : Cond.methodLink "JoinRouter$Reader" 86 mX5_numberTo.1 ∈ lw_u := tb4 (List.mem_of_getElem? (i := 33) (by decide +kernel))
theorem kX5_90 : Cond.methodLink "JoinRouter$Reader" 90 mX5_readSum.1 ∈ lw_u := tb4 (List.mem_of_getElem? (i := 13) (by decide +kernel))
theorem kX5_93 : Cond.methodLink "JoinRouter$Reader" 93 mX5_readBoth.1 ∈ lw_u := tb4 (List.mem_of_getElem? (i := 53) (by decide +kernel))
theorem kX5_96 : Cond.methodLink "JoinRouter$Reader" 96 mX9_landLeap.1 ∈ lw_u := tb4 (List.mem_of_getElem? (i := 65) (by decide +kernel))
theorem kX5_99 : Cond.methodLink "JoinRouter$Reader" 99 mX5_readPlain.1 ∈ lw_u := tb4 (List.mem_of_getElem? (i := 57) (by decide +kernel))
theorem kX5_102 : Cond.methodLink "JoinRouter$Reader" 102 mX5_readCompared.1 ∈ lw_u := tb4 (List.mem_of_getElem? (i := 61) (by decide +kernel))
theorem kX5_105 : Cond.methodLink "JoinRouter$Reader" 105 mX5_readTerm.1 ∈ lw_u := tb4 (List.mem_of_getElem? (i := 17) (by decide +kernel))
theorem kX5_108 : Cond.methodLink "JoinRouter$Reader" 108 mX5_readPart.1 ∈ lw_u := tb4 (List.mem_of_getElem? (i := 21) (by decide +kernel))
theorem kX5_111 : Cond.methodLink "JoinRouter$Reader" 111 mX5_readSingle.1 ∈ lw_u := tb4 (List.mem_of_getElem? (i := 29) (by decide +kernel))
theorem kX5_116 : pFL "JoinRouter$Reader" 116 10 3 := ⟨by decide, by decide, tb1 (List.mem_of_getElem? (i := 140) (by decide +kernel))⟩
theorem kX6_3 : Cond.methodLink "JoinRouter$Route" 3 objectInit ∈ lw_u := tb1 (List.mem_of_getElem? (i := 198) (by decide +kernel))
theorem kX6_9 : Cond.classLink "JoinRouter$Route" 9 "JoinRouter$Machine" ∈ lw_u := tb1 (List.mem_of_getElem? (i := 199) (by decide +kernel))
theorem kX6_11 : Cond.methodLinkNest "JoinRouter$Route" 11 mX4_init.1 "JoinRouter" ∈ lw_u := tb1 (List.mem_of_getElem? (i := 201) (by decide +kernel))
theorem kX6_12 : pFL "JoinRouter$Route" 12 6 0 := ⟨by decide, by decide, tb1 (List.mem_of_getElem? (i := 212) (by decide +kernel))⟩
theorem kX6_18 : pFL "JoinRouter$Route" 18 6 1 := ⟨by decide, by decide, tb1 (List.mem_of_getElem? (i := 213) (by decide +kernel))⟩
theorem kX6_22 : Cond.classLink "JoinRouter$Route" 22 "JoinRouter$Core" ∈ lw_u := tb1 (List.mem_of_getElem? (i := 210) (by decide +kernel))
theorem kX6_24 : Cond.methodLink "JoinRouter$Route" 24 mX0_init.1 ∈ lw_u := tb1 (List.mem_of_getElem? (i := 211) (by decide +kernel))
theorem kX6_25 : pFL "JoinRouter$Route" 25 6 2 := ⟨by decide, by decide, tb1 (List.mem_of_getElem? (i := 214) (by decide +kernel))⟩
theorem kX6_29 : pFL "JoinRouter$Route" 29 6 3 := ⟨by decide, by decide, tb1 (List.mem_of_getElem? (i := 215) (by decide +kernel))⟩
theorem kX6_33 : pFL "JoinRouter$Route" 33 6 4 := ⟨by decide, by decide, tb1 (List.mem_of_getElem? (i := 216) (by decide +kernel))⟩
theorem kX6_36 : pFL "JoinRouter$Route" 36 6 5 := ⟨by decide, by decide, tb1 (List.mem_of_getElem? (i := 217) (by decide +kernel))⟩
theorem kX6_40 : pFL "JoinRouter$Route" 40 6 6 := ⟨by decide, by decide, tb1 (List.mem_of_getElem? (i := 218) (by decide +kernel))⟩
theorem kX6_43 : pFL "JoinRouter$Route" 43 6 7 := ⟨by decide, by decide, tb1 (List.mem_of_getElem? (i := 219) (by decide +kernel))⟩
theorem kX6_46 : pFL "JoinRouter$Route" 46 6 8 := ⟨by decide, by decide, tb1 (List.mem_of_getElem? (i := 220) (by decide +kernel))⟩
theorem kX6_49 : pFL "JoinRouter$Route" 49 6 9 := ⟨by decide, by decide, tb1 (List.mem_of_getElem? (i := 221) (by decide +kernel))⟩
theorem kX6_52 : pFL "JoinRouter$Route" 52 6 10 := ⟨by decide, by decide, tb1 (List.mem_of_getElem? (i := 223) (by decide +kernel))⟩
theorem kX6_55 : pFL "JoinRouter$Route" 55 6 11 := ⟨by decide, by decide, tb1 (List.mem_of_getElem? (i := 225) (by decide +kernel))⟩
theorem kX6_58 : pFL "JoinRouter$Route" 58 6 12 := ⟨by decide, by decide, tb1 (List.mem_of_getElem? (i := 227) (by decide +kernel))⟩
theorem kX6_61 : pFL "JoinRouter$Route" 61 6 13 := ⟨by decide, by decide, tb1 (List.mem_of_getElem? (i := 230) (by decide +kernel))⟩
theorem kX6_64 : pFL "JoinRouter$Route" 64 6 14 := ⟨by decide, by decide, tb1 (List.mem_of_getElem? (i := 232) (by decide +kernel))⟩
theorem kX6_67 : pFL "JoinRouter$Route" 67 6 15 := ⟨by decide, by decide, tb1 (List.mem_of_getElem? (i := 234) (by decide +kernel))⟩
theorem kX6_70 : pFL "JoinRouter$Route" 70 6 16 := ⟨by decide, by decide, tb1 (List.mem_of_getElem? (i := 236) (by decide +kernel))⟩
theorem kX6_74 : Cond.methodLink "JoinRouter$Route" 74 mX0_latestStamp.1 ∈ lw_u := tb3 (List.mem_of_getElem? (i := 38) (by decide +kernel))
theorem kX6_78 : Cond.methodLink "JoinRouter$Route" 78 mX6_hold.1 ∈ lw_u := tb3 (List.mem_of_getElem? (i := 42) (by decide +kernel))
theorem kX6_82 : Cond.methodLink "JoinRouter$Route" 82 mX0_operators.1 ∈ lw_u := tb3 (List.mem_of_getElem? (i := 46) (by decide +kernel))
theorem kX6_85 : Cond.methodLink "JoinRouter$Route" 85 mX0_part.1 ∈ lw_u := tb3 (List.mem_of_getElem? (i := 47) (by decide +kernel))
theorem kX6_89 : pFL "JoinRouter$Route" 89 9 2 := ⟨by decide, by decide, tb1 (List.mem_of_getElem? (i := 162) (by decide +kernel))⟩
theorem kX6_94 : Cond.methodLink "JoinRouter$Route" 94 mX9_part.1 ∈ lw_u := tb3 (List.mem_of_getElem? (i := 53) (by decide +kernel))
theorem kX6_95 : Cond.methodLink "JoinRouter$Route" 95 mX4_isSo.1 ∈ lw_u := tb3 (List.mem_of_getElem? (i := 57) (by decide +kernel))
theorem kX6_99 : Cond.methodLink "JoinRouter$Route" 99 mX6_addResult.1 ∈ lw_u := tb3 (List.mem_of_getElem? (i := 79) (by decide +kernel))
theorem kX6_102 : Cond.methodLink "JoinRouter$Route" 102 mX6_chosen.1 ∈ lw_u := tb3 (List.mem_of_getElem? (i := 84) (by decide +kernel))
theorem kX6_106 : Cond.methodLink "JoinRouter$Route" 106 mX6_relationToOpen.1 ∈ lw_u := tb3 (List.mem_of_getElem? (i := 92) (by decide +kernel))
theorem kX6_109 : Cond.methodLink "JoinRouter$Route" 109 mX6_looksAt.1 ∈ lw_u := tb3 (List.mem_of_getElem? (i := 96) (by decide +kernel))
theorem kX6_112 : Cond.methodLink "JoinRouter$Route" 112 mX6_costOf.1 ∈ lw_u := tb3 (List.mem_of_getElem? (i := 114) (by decide +kernel))
theorem kX6_116 : Cond.methodLink "JoinRouter$Route" 116 mX6_passAll.1 ∈ lw_u := tb3 (List.mem_of_getElem? (i := 127) (by decide +kernel))
theorem kX6_119 : Cond.methodLink "JoinRouter$Route" 119 mX6_isSo.1 ∈ lw_u := tb3 (List.mem_of_getElem? (i := 133) (by decide +kernel))
theorem kX6_122 : Cond.methodLink "JoinRouter$Route" 122 mX6_pass.1 ∈ lw_u := tb3 (List.mem_of_getElem? (i := 132) (by decide +kernel))
theorem kX6_126 : Cond.methodLink "JoinRouter$Route" 126 mX6_fieldIn.1 ∈ lw_u := tb3 (List.mem_of_getElem? (i := 100) (by decide +kernel))
theorem kX6_129 : Cond.methodLink "JoinRouter$Route" 129 mX6_valueThere.1 ∈ lw_u := tb3 (List.mem_of_getElem? (i := 106) (by decide +kernel))
theorem kX6_132 : Cond.methodLink "JoinRouter$Route" 132 ⟨"java/lang/Math", "max", "(II)I"⟩ ∈ lw_u := tb3 (List.mem_of_getElem? (i := 131) (by decide +kernel))
theorem kX6_137 : Cond.methodLink "JoinRouter$Route" 137 mX0_held.1 ∈ lw_u := tb3 (List.mem_of_getElem? (i := 105) (by decide +kernel))
theorem kX6_140 : Cond.methodLink "JoinRouter$Route" 140 mX0_cell.1 ∈ lw_u := tb3 (List.mem_of_getElem? (i := 113) (by decide +kernel))
theorem kX6_143 : Cond.methodLink "JoinRouter$Route" 143 arraycopyName ∈ lw_u := tb3 (List.mem_of_getElem? (i := 83) (by decide +kernel))
theorem kX6_149 : Cond.methodLink "JoinRouter$Route" 149 mX6_isOpen.1 ∈ lw_u := tb3 (List.mem_of_getElem? (i := 88) (by decide +kernel))
theorem kX6_153 : Cond.methodLink "JoinRouter$Route" 153 mX0_indexOn.1 ∈ lw_u := tb3 (List.mem_of_getElem? (i := 104) (by decide +kernel))
theorem kX6_156 : Cond.methodLink "JoinRouter$Route" 156 mX6_bucketOf.1 ∈ lw_u := tb3 (List.mem_of_getElem? (i := 110) (by decide +kernel))
theorem kX6_159 : pFL "JoinRouter$Route" 159 9 1 := ⟨by decide, by decide, tb1 (List.mem_of_getElem? (i := 159) (by decide +kernel))⟩
theorem kX6_162 : Cond.methodLink "JoinRouter$Route" 162 mX4_value.1 ∈ lw_u := tb3 (List.mem_of_getElem? (i := 118) (by decide +kernel))
theorem kX6_166 : Cond.constantLong "JoinRouter$Route" 166 2000000000 ∈ lw_u := tb3 (List.mem_of_getElem? (i := 119) (by decide +kernel))
theorem kX6_168 : Cond.constantLong "JoinRouter$Route" 168 99 ∈ lw_u := tb3 (List.mem_of_getElem? (i := 120) (by decide +kernel))
theorem kX6_170 : Cond.methodLink "JoinRouter$Route" 170 ⟨"java/lang/Math", "min", "(JJ)J"⟩ ∈ lw_u := tb3 (List.mem_of_getElem? (i := 121) (by decide +kernel))
theorem kX6_174 : Cond.methodLink "JoinRouter$Route" 174 ⟨"java/lang/Math", "max", "(JJ)J"⟩ ∈ lw_u := tb3 (List.mem_of_getElem? (i := 124) (by decide +kernel))
theorem kX7_3 : Cond.methodLink "JoinRouter$Running" 3 objectInit ∈ lw_u := tb2 (List.mem_of_getElem? (i := 65) (by decide +kernel))
theorem kX7_9 : Cond.classLink "JoinRouter$Running" 9 "JoinRouter$Machine" ∈ lw_u := tb2 (List.mem_of_getElem? (i := 66) (by decide +kernel))
theorem kX7_11 : Cond.methodLinkNest "JoinRouter$Running" 11 mX4_init.1 "JoinRouter" ∈ lw_u := tb2 (List.mem_of_getElem? (i := 67) (by decide +kernel))
theorem kX7_12 : pFL "JoinRouter$Running" 12 7 0 := ⟨by decide, by decide, tb2 (List.mem_of_getElem? (i := 68) (by decide +kernel))⟩
theorem kX7_18 : pFL "JoinRouter$Running" 18 7 1 := ⟨by decide, by decide, tb2 (List.mem_of_getElem? (i := 70) (by decide +kernel))⟩
theorem kX7_24 : pFL "JoinRouter$Running" 24 7 2 := ⟨by decide, by decide, tb2 (List.mem_of_getElem? (i := 72) (by decide +kernel))⟩
theorem kX7_27 : pFL "JoinRouter$Running" 27 7 3 := ⟨by decide, by decide, tb2 (List.mem_of_getElem? (i := 74) (by decide +kernel))⟩
theorem kX7_31 : pFL "JoinRouter$Running" 31 7 4 := ⟨by decide, by decide, tb2 (List.mem_of_getElem? (i := 76) (by decide +kernel))⟩
theorem kX7_34 : pFL "JoinRouter$Running" 34 7 5 := ⟨by decide, by decide, tb2 (List.mem_of_getElem? (i := 78) (by decide +kernel))⟩
theorem kX7_37 : Cond.methodLink "JoinRouter$Running" 37 mX0_latestStamp.1 ∈ lw_u := tb4 (List.mem_of_getElem? (i := 100) (by decide +kernel))
theorem kX7_43 : Cond.methodLink "JoinRouter$Running" 43 mX0_resultsEver.1 ∈ lw_u := tb4 (List.mem_of_getElem? (i := 101) (by decide +kernel))
theorem kX7_46 : Cond.methodLink "JoinRouter$Running" 46 mX0_operators.1 ∈ lw_u := tb4 (List.mem_of_getElem? (i := 105) (by decide +kernel))
theorem kX7_49 : Cond.methodLink "JoinRouter$Running" 49 mX0_held.1 ∈ lw_u := tb4 (List.mem_of_getElem? (i := 106) (by decide +kernel))
theorem kX7_53 : Cond.methodLink "JoinRouter$Running" 53 mX0_hasOperator.1 ∈ lw_u := tb4 (List.mem_of_getElem? (i := 107) (by decide +kernel))
theorem kX7_57 : Cond.methodLink "JoinRouter$Running" 57 mX0_part.1 ∈ lw_u := tb4 (List.mem_of_getElem? (i := 108) (by decide +kernel))
theorem kX8_3 : Cond.methodLink "JoinRouter$Tape" 3 objectInit ∈ lw_u := tb1 (List.mem_of_getElem? (i := 122) (by decide +kernel))
theorem kX8_9 : pFL "JoinRouter$Tape" 9 8 0 := ⟨by decide, by decide, tb1 (List.mem_of_getElem? (i := 123) (by decide +kernel))⟩
theorem kX8_15 : pFL "JoinRouter$Tape" 15 8 1 := ⟨by decide, by decide, tb1 (List.mem_of_getElem? (i := 124) (by decide +kernel))⟩
theorem kX9_3 : Cond.methodLink "JoinRouter$Text" 3 objectInit ∈ lw_u := tb1 (List.mem_of_getElem? (i := 155) (by decide +kernel))
theorem kX9_11 : pFL "JoinRouter$Text" 11 9 0 := ⟨by decide, by decide, tb1 (List.mem_of_getElem? (i := 156) (by decide +kernel))⟩
theorem kX9_15 : pFL "JoinRouter$Text" 15 9 1 := ⟨by decide, by decide, tb1 (List.mem_of_getElem? (i := 157) (by decide +kernel))⟩
theorem kX9_18 : pFL "JoinRouter$Text" 18 9 2 := ⟨by decide, by decide, tb1 (List.mem_of_getElem? (i := 160) (by decide +kernel))⟩
theorem kX9_22 : pFL "JoinRouter$Text" 22 9 3 := ⟨by decide, by decide, tb1 (List.mem_of_getElem? (i := 164) (by decide +kernel))⟩
theorem kX9_25 : Cond.methodLink "JoinRouter$Text" 25 arraycopyName ∈ lw_u := tb4 (List.mem_of_getElem? (i := 73) (by decide +kernel))
theorem kX10_3 : Cond.methodLink "JoinRouter$Tokens" 3 objectInit ∈ lw_u := tb1 (List.mem_of_getElem? (i := 116) (by decide +kernel))
theorem kX10_9 : Cond.classLink "JoinRouter$Tokens" 9 "JoinRouter$Tape" ∈ lw_u := tb1 (List.mem_of_getElem? (i := 117) (by decide +kernel))
theorem kX10_11 : Cond.methodLinkNest "JoinRouter$Tokens" 11 mX8_init.1 "JoinRouter" ∈ lw_u := tb1 (List.mem_of_getElem? (i := 119) (by decide +kernel))
theorem kX10_12 : pFL "JoinRouter$Tokens" 12 10 0 := ⟨by decide, by decide, tb1 (List.mem_of_getElem? (i := 133) (by decide +kernel))⟩
theorem kX10_18 : pFL "JoinRouter$Tokens" 18 10 1 := ⟨by decide, by decide, tb1 (List.mem_of_getElem? (i := 135) (by decide +kernel))⟩
theorem kX10_22 : pFL "JoinRouter$Tokens" 22 10 2 := ⟨by decide, by decide, tb1 (List.mem_of_getElem? (i := 137) (by decide +kernel))⟩
theorem kX10_25 : pFL "JoinRouter$Tokens" 25 10 3 := ⟨by decide, by decide, tb1 (List.mem_of_getElem? (i := 139) (by decide +kernel))⟩
theorem kX10_28 : pFL "JoinRouter$Tokens" 28 8 1 := ⟨by decide, by decide, tb1 (List.mem_of_getElem? (i := 125) (by decide +kernel))⟩
theorem kX10_32 : Cond.methodLink "JoinRouter$Tokens" 32 mX8_at.1 ∈ lw_u := tb3 (List.mem_of_getElem? (i := 165) (by decide +kernel))
theorem kX10_36 : Cond.methodLink "JoinRouter$Tokens" 36 mX10_readOne.1 ∈ lw_u := tb3 (List.mem_of_getElem? (i := 166) (by decide +kernel))
theorem kX10_40 : Cond.methodLink "JoinRouter$Tokens" 40 mX10_isFigure.1 ∈ lw_u := tb3 (List.mem_of_getElem? (i := 170) (by decide +kernel))
theorem kX10_44 : Cond.methodLink "JoinRouter$Tokens" 44 ⟨"java/lang/Math", "min", "(II)I"⟩ ∈ lw_u := tb3 (List.mem_of_getElem? (i := 173) (by decide +kernel))
theorem kX10_49 : Cond.methodLink "JoinRouter$Tokens" 49 mX10_isLetter.1 ∈ lw_u := tb3 (List.mem_of_getElem? (i := 176) (by decide +kernel))
theorem kX10_52 : Cond.methodLink "JoinRouter$Tokens" 52 mX10_wordAt.1 ∈ lw_u := tb3 (List.mem_of_getElem? (i := 179) (by decide +kernel))
theorem kX10_55 : Cond.methodLink "JoinRouter$Tokens" 55 ⟨"java/lang/Math", "max", "(II)I"⟩ ∈ lw_u := tb3 (List.mem_of_getElem? (i := 236) (by decide +kernel))
