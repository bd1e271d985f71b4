/-! the words by their places; the fields; the methods -/
theorem k_RJ6_265 : Cond.constant RJ6 265 (1431655765) ∈ wsL_law := v_r37 _ (List.mem_of_getElem? (i := 3) rfl)
theorem k_RJ6_266 : Cond.constant RJ6 266 (858993459) ∈ wsL_law := v_r37 _ (List.mem_of_getElem? (i := 4) rfl)
theorem k_RJ6_267 : Cond.constant RJ6 267 (252645135) ∈ wsL_law := v_r37 _ (List.mem_of_getElem? (i := 5) rfl)
theorem k_RL_13 : Cond.methodLink RL 13 yL_four ∈ wsL_law := v_r11 _ (List.mem_of_getElem? (i := 1) rfl)
theorem k_RL_17 : Cond.methodLink RL 17 yX10_feed ∈ wsL_law := v_r11 _ (List.mem_of_getElem? (i := 4) rfl)
theorem k_RL_22 : Cond.methodLink RL 22 yJ0_length_8abf5 ∈ wsL_law := v_r8 _ (List.mem_of_getElem? (i := 18) rfl)
theorem k_RL_28 : Cond.methodLink RL 28 yJ0_charAt_5068e ∈ wsL_law := v_r9 _ (List.mem_of_getElem? (i := 6) rfl)
theorem k_RL_32 : Cond.methodLink RL 32 yL_put ∈ wsL_law := v_r10 _ (List.mem_of_getElem? (i := 19) rfl)
theorem k_RL_36 : Cond.methodLink RL 36 yX10_city ∈ wsL_law := v_r12 _ (List.mem_of_getElem? (i := 3) rfl)
theorem k_RL_40 : Cond.methodLink RL 40 yX10_years ∈ wsL_law := v_r19 _ (List.mem_of_getElem? (i := 11) rfl)
theorem k_RL_45 : Cond.methodLink RL 45 yL_say ∈ wsL_law := v_r8 _ (List.mem_of_getElem? (i := 15) rfl)
theorem k_RL_49 : Cond.methodLink RL 49 yL_number ∈ wsL_law := v_r11 _ (List.mem_of_getElem? (i := 18) rfl)
theorem k_RL_62 : Cond.methodLink RL 62 yL_name ∈ wsL_law := v_r11 _ (List.mem_of_getElem? (i := 21) rfl)
theorem k_RL_7 : Cond.methodLink RL 7 yL_feed ∈ wsL_law := v_r10 _ (List.mem_of_getElem? (i := 22) rfl)
theorem k_RL_78 : Cond.methodLink RL 78 yL_load ∈ wsL_law := v_r12 _ (List.mem_of_getElem? (i := 0) rfl)
theorem k_RX0_107 : Cond.methodLink RX0 107 yX0_isOpen ∈ wsL_law := v_r27 _ (List.mem_of_getElem? (i := 4) rfl)
theorem k_RX0_111 : Cond.methodLink RX0 111 yX0_isOwn ∈ wsL_law := v_r24 _ (List.mem_of_getElem? (i := 14) rfl)
theorem k_RX0_118 : Cond.methodLink RX0 118 yX0_isRuined ∈ wsL_law := v_r23 _ (List.mem_of_getElem? (i := 14) rfl)
theorem k_RX0_121 : Cond.methodLink RX0 121 yX0_mayCharge ∈ wsL_law := v_r44 _ (List.mem_of_getElem? (i := 2) rfl)
theorem k_RX0_128 : Cond.constant RX0 128 (-99999) ∈ wsL_law := v_r43 _ (List.mem_of_getElem? (i := 0) rfl)
theorem k_RX0_129 : Cond.constant RX0 129 (99999) ∈ wsL_law := v_r43 _ (List.mem_of_getElem? (i := 1) rfl)
theorem k_RX0_130 : Cond.methodLink RX0 130 Lib.Math.min.name ∈ wsL_law := v_r43 _ (List.mem_of_getElem? (i := 2) rfl)
theorem k_RX0_135 : Cond.methodLink RX0 135 Lib.Math.max.name ∈ wsL_law := v_r43 _ (List.mem_of_getElem? (i := 3) rfl)
theorem k_RX0_138 : Cond.methodLink RX0 138 yX0_ruleOf ∈ wsL_law := v_r23 _ (List.mem_of_getElem? (i := 18) rfl)
theorem k_RX0_142 : Cond.methodLink RX0 142 yX0_partOf ∈ wsL_law := v_r42 _ (List.mem_of_getElem? (i := 19) rfl)
theorem k_RX0_145 : Cond.methodLink RX0 145 yX0_give ∈ wsL_law := v_r42 _ (List.mem_of_getElem? (i := 20) rfl)
theorem k_RX0_149 : Cond.methodLink RX0 149 yX0_fillTreasury ∈ wsL_law := v_r43 _ (List.mem_of_getElem? (i := 4) rfl)
theorem k_RX0_15 : Cond.fieldLink RX0 15 "HalfAccuser$City" "personNames" "[J" ∈ wsL_law := v_r4 _ (List.mem_of_getElem? (i := 6) rfl)
theorem k_RX0_153 : Cond.methodLink RX0 153 yX0_deedsThat ∈ wsL_law := v_r23 _ (List.mem_of_getElem? (i := 6) rfl)
theorem k_RX0_156 : Cond.methodLink RX0 156 yX0_ruinedPeople ∈ wsL_law := v_r23 _ (List.mem_of_getElem? (i := 10) rfl)
theorem k_RX0_160 : Cond.methodLink RX0 160 yX0_deedsOf ∈ wsL_law := v_r24 _ (List.mem_of_getElem? (i := 10) rfl)
theorem k_RX0_19 : Cond.fieldLink RX0 19 "HalfAccuser$City" "coins" "[I" ∈ wsL_law := v_r4 _ (List.mem_of_getElem? (i := 7) rfl)
theorem k_RX0_22 : Cond.fieldLink RX0 22 "HalfAccuser$City" "skills" "[I" ∈ wsL_law := v_r4 _ (List.mem_of_getElem? (i := 8) rfl)
theorem k_RX0_25 : Cond.fieldLink RX0 25 "HalfAccuser$City" "wonCounts" "[I" ∈ wsL_law := v_r4 _ (List.mem_of_getElem? (i := 9) rfl)
theorem k_RX0_28 : Cond.fieldLink RX0 28 "HalfAccuser$City" "owedCounts" "[I" ∈ wsL_law := v_r4 _ (List.mem_of_getElem? (i := 10) rfl)
theorem k_RX0_31 : Cond.fieldLink RX0 31 "HalfAccuser$City" "dropped" "[I" ∈ wsL_law := v_r4 _ (List.mem_of_getElem? (i := 11) rfl)
theorem k_RX0_34 : Cond.fieldLink RX0 34 "HalfAccuser$City" "deedNames" "[J" ∈ wsL_law := v_r4 _ (List.mem_of_getElem? (i := 12) rfl)
theorem k_RX0_37 : Cond.fieldLink RX0 37 "HalfAccuser$City" "owners" "[I" ∈ wsL_law := v_r4 _ (List.mem_of_getElem? (i := 13) rfl)
theorem k_RX0_40 : Cond.fieldLink RX0 40 "HalfAccuser$City" "fines" "[I" ∈ wsL_law := v_r4 _ (List.mem_of_getElem? (i := 14) rfl)
theorem k_RX0_43 : Cond.fieldLink RX0 43 "HalfAccuser$City" "odds" "[I" ∈ wsL_law := v_r4 _ (List.mem_of_getElem? (i := 15) rfl)
theorem k_RX0_46 : Cond.fieldLink RX0 46 "HalfAccuser$City" "states" "[I" ∈ wsL_law := v_r4 _ (List.mem_of_getElem? (i := 16) rfl)
theorem k_RX0_49 : Cond.fieldLink RX0 49 "HalfAccuser$City" "accusers" "[I" ∈ wsL_law := v_r4 _ (List.mem_of_getElem? (i := 17) rfl)
theorem k_RX0_52 : Cond.fieldLink RX0 52 "HalfAccuser$City" "votesFor" "[I" ∈ wsL_law := v_r4 _ (List.mem_of_getElem? (i := 18) rfl)
theorem k_RX0_58 : Cond.fieldLink RX0 58 "HalfAccuser$City" "years" "LHalfAccuser$Years;" ∈ wsL_law := v_r4 _ (List.mem_of_getElem? (i := 22) rfl)
theorem k_RX0_72 : Cond.fieldLink RX0 72 "HalfAccuser$City" "people" "I" ∈ wsL_law := v_r5 _ (List.mem_of_getElem? (i := 12) rfl)
theorem k_RX0_76 : Cond.fieldLink RX0 76 "HalfAccuser$City" "deeds" "I" ∈ wsL_law := v_r5 _ (List.mem_of_getElem? (i := 13) rfl)
theorem k_RX0_79 : Cond.fieldLink RX0 79 "HalfAccuser$City" "treasury" "I" ∈ wsL_law := v_r5 _ (List.mem_of_getElem? (i := 14) rfl)
theorem k_RX0_82 : Cond.fieldLink RX0 82 "HalfAccuser$City" "heard" "I" ∈ wsL_law := v_r5 _ (List.mem_of_getElem? (i := 15) rfl)
theorem k_RX0_85 : Cond.methodLink RX0 85 yX8_clear ∈ wsL_law := v_r6 _ (List.mem_of_getElem? (i := 2) rfl)
theorem k_RX0_89 : Cond.methodLink RX0 89 yX8_copyFrom ∈ wsL_law := v_r19 _ (List.mem_of_getElem? (i := 3) rfl)
theorem k_RX0_9 : Cond.fieldLink RX0 9 "HalfAccuser$City" "rules" "[I" ∈ wsL_law := v_r4 _ (List.mem_of_getElem? (i := 5) rfl)
theorem k_RX10_102 : Cond.fieldLink RX10 102 "HalfAccuser" "fractionBottom" "J" ∈ wsL_law := v_r3 _ (List.mem_of_getElem? (i := 4) rfl)
theorem k_RX10_106 : Cond.fieldLink RX10 106 "HalfAccuser" "latestStatus" "I" ∈ wsL_law := v_r12 _ (List.mem_of_getElem? (i := 12) rfl)
theorem k_RX10_109 : Cond.fieldLink RX10 109 "HalfAccuser" "fractionTop" "J" ∈ wsL_law := v_r32 _ (List.mem_of_getElem? (i := 13) rfl)
theorem k_RX10_116 : Cond.methodLink RX10 116 yX10_settled ∈ wsL_law := v_r31 _ (List.mem_of_getElem? (i := 19) rfl)
theorem k_RX10_142 : Cond.methodLink RX10 142 yX6_hasRoom ∈ wsL_law := v_r11 _ (List.mem_of_getElem? (i := 9) rfl)
theorem k_RX10_146 : Cond.methodLink RX10 146 yX6_add ∈ wsL_law := v_r11 _ (List.mem_of_getElem? (i := 14) rfl)
theorem k_RX10_150 : Cond.fieldLink RX10 150 "HalfAccuser$Tape" "length" "I" ∈ wsL_law := v_r11 _ (List.mem_of_getElem? (i := 8) rfl)
theorem k_RX10_153 : Cond.methodLink RX10 153 yX10_refused ∈ wsL_law := v_r12 _ (List.mem_of_getElem? (i := 8) rfl)
theorem k_RX10_157 : Cond.methodLink RX10 157 yX6_split ∈ wsL_law := v_r12 _ (List.mem_of_getElem? (i := 13) rfl)
theorem k_RX10_160 : Cond.methodLink RX10 160 yX1_readText ∈ wsL_law := v_r15 _ (List.mem_of_getElem? (i := 1) rfl)
theorem k_RX10_163 : Cond.methodLink RX10 163 yX10_tellFault ∈ wsL_law := v_r18 _ (List.mem_of_getElem? (i := 15) rfl)
theorem k_RX10_167 : Cond.methodLink RX10 167 yX0_copyFrom ∈ wsL_law := v_r18 _ (List.mem_of_getElem? (i := 21) rfl)
theorem k_RX10_170 : Cond.fieldLink RX10 170 "HalfAccuser$City" "deeds" "I" ∈ wsL_law := v_r12 _ (List.mem_of_getElem? (i := 7) rfl)
theorem k_RX10_173 : Cond.methodLink RX10 173 yX10_told ∈ wsL_law := v_r19 _ (List.mem_of_getElem? (i := 7) rfl)
theorem k_RX10_176 : Cond.methodLink RX10 176 yX9_readText ∈ wsL_law := v_r19 _ (List.mem_of_getElem? (i := 16) rfl)
theorem k_RX10_177 : Cond.methodLink RX10 177 yX8_copyFrom ∈ wsL_law := v_r22 _ (List.mem_of_getElem? (i := 21) rfl)
theorem k_RX10_182 : Cond.fieldLink RX10 182 "HalfAccuser$Years" "steps" "I" ∈ wsL_law := v_r19 _ (List.mem_of_getElem? (i := 15) rfl)
theorem k_RX10_185 : Cond.methodLink RX10 185 yX0_fact ∈ wsL_law := v_r23 _ (List.mem_of_getElem? (i := 2) rfl)
theorem k_RX10_188 : Cond.methodLink RX10 188 yX0_hasPerson ∈ wsL_law := v_r24 _ (List.mem_of_getElem? (i := 2) rfl)
theorem k_RX10_19 : Cond.fieldLink RX10 19 "HalfAccuser" "tape" "LHalfAccuser$Tape;" ∈ wsL_law := v_r1 _ (List.mem_of_getElem? (i := 17) rfl)
theorem k_RX10_191 : Cond.methodLink RX10 191 yX0_personFact ∈ wsL_law := v_r24 _ (List.mem_of_getElem? (i := 6) rfl)
theorem k_RX10_194 : Cond.methodLink RX10 194 yX0_hasDeed ∈ wsL_law := v_r28 _ (List.mem_of_getElem? (i := 5) rfl)
theorem k_RX10_197 : Cond.methodLink RX10 197 yX0_isOpen ∈ wsL_law := v_r30 _ (List.mem_of_getElem? (i := 8) rfl)
theorem k_RX10_200 : Cond.methodLink RX10 200 yX0_deedFact ∈ wsL_law := v_r30 _ (List.mem_of_getElem? (i := 9) rfl)
theorem k_RX10_209 : Cond.fieldLink RX10 209 "HalfAccuser$City" "coins" "[I" ∈ wsL_law := v_r43 _ (List.mem_of_getElem? (i := 16) rfl)
theorem k_RX10_212 : Cond.methodLink RX10 212 yX10_at ∈ wsL_law := v_r43 _ (List.mem_of_getElem? (i := 17) rfl)
theorem k_RX10_216 : Cond.methodLink RX10 216 yX10_areThere ∈ wsL_law := v_r31 _ (List.mem_of_getElem? (i := 5) rfl)
theorem k_RX10_220 : Cond.methodLink RX10 220 yX0_ruleOf ∈ wsL_law := v_r27 _ (List.mem_of_getElem? (i := 8) rfl)
theorem k_RX10_223 : Cond.methodLink RX10 223 yX0_mayCharge ∈ wsL_law := v_r31 _ (List.mem_of_getElem? (i := 9) rfl)
theorem k_RX10_226 : Cond.methodLink RX10 226 yX0_decide ∈ wsL_law := v_r42 _ (List.mem_of_getElem? (i := 15) rfl)
theorem k_RX10_229 : Cond.methodLink RX10 229 yX4_sow ∈ wsL_law := v_r41 _ (List.mem_of_getElem? (i := 23) rfl)
theorem k_RX10_232 : Cond.methodLink RX10 232 yX4_jury ∈ wsL_law := v_r42 _ (List.mem_of_getElem? (i := 4) rfl)
theorem k_RX10_236 : Cond.methodLink RX10 236 yX0_mayDrop ∈ wsL_law := v_r43 _ (List.mem_of_getElem? (i := 22) rfl)
theorem k_RX10_240 : Cond.methodLink RX10 240 yX0_settle ∈ wsL_law := v_r44 _ (List.mem_of_getElem? (i := 3) rfl)
theorem k_RX10_244 : Cond.methodLink RX10 244 yX0_addDeed ∈ wsL_law := v_r44 _ (List.mem_of_getElem? (i := 19) rfl)
theorem k_RX10_248 : Cond.methodLink RX10 248 yX0_openAgain ∈ wsL_law := v_r44 _ (List.mem_of_getElem? (i := 11) rfl)
theorem k_RX10_26 : Cond.fieldLink RX10 26 "HalfAccuser" "city" "LHalfAccuser$City;" ∈ wsL_law := v_r1 _ (List.mem_of_getElem? (i := 21) rfl)
theorem k_RX10_271 : Cond.methodLink RX10 271 yX10_voteStatus ∈ wsL_law := v_r31 _ (List.mem_of_getElem? (i := 14) rfl)
theorem k_RX10_274 : Cond.methodLink RX10 274 yX0_chanceOf ∈ wsL_law := v_r31 _ (List.mem_of_getElem? (i := 23) rfl)
theorem k_RX10_277 : Cond.methodLink RX10 277 yX0_isOwn ∈ wsL_law := v_r31 _ (List.mem_of_getElem? (i := 18) rfl)
theorem k_RX10_280 : Cond.methodLink RX10 280 yX3_weigh ∈ wsL_law := v_r32 _ (List.mem_of_getElem? (i := 0) rfl)
theorem k_RX10_290 : Cond.methodLink RX10 290 yX3_whole ∈ wsL_law := v_r32 _ (List.mem_of_getElem? (i := 2) rfl)
theorem k_RX10_294 : Cond.methodLink RX10 294 yX10_tell ∈ wsL_law := v_r32 _ (List.mem_of_getElem? (i := 6) rfl)
theorem k_RX10_298 : Cond.methodLink RX10 298 yX3_waysToWin ∈ wsL_law := v_r32 _ (List.mem_of_getElem? (i := 1) rfl)
theorem k_RX10_30 : Cond.fieldLink RX10 30 "HalfAccuser" "spare" "LHalfAccuser$City;" ∈ wsL_law := v_r1 _ (List.mem_of_getElem? (i := 22) rfl)
theorem k_RX10_301 : Cond.methodLink RX10 301 yX3_waysToOwe ∈ wsL_law := v_r33 _ (List.mem_of_getElem? (i := 5) rfl)
theorem k_RX10_304 : Cond.methodLink RX10 304 yX10_meanStatus ∈ wsL_law := v_r33 _ (List.mem_of_getElem? (i := 10) rfl)
theorem k_RX10_307 : Cond.methodLink RX10 307 yX10_seen ∈ wsL_law := v_r25 _ (List.mem_of_getElem? (i := 2) rfl)
theorem k_RX10_311 : Cond.methodLink RX10 311 yX3_gainOf ∈ wsL_law := v_r33 _ (List.mem_of_getElem? (i := 15) rfl)
theorem k_RX10_314 : Cond.methodLink RX10 314 yX3_lossOf ∈ wsL_law := v_r33 _ (List.mem_of_getElem? (i := 20) rfl)
theorem k_RX10_317 : Cond.methodLink RX10 317 yX3_bestDeed ∈ wsL_law := v_r34 _ (List.mem_of_getElem? (i := 14) rfl)
theorem k_RX10_320 : Cond.methodLink RX10 320 yX10_toldIfAny ∈ wsL_law := v_r29 _ (List.mem_of_getElem? (i := 0) rfl)
theorem k_RX10_323 : Cond.methodLink RX10 323 yX3_bestSum ∈ wsL_law := v_r34 _ (List.mem_of_getElem? (i := 22) rfl)
theorem k_RX10_326 : Cond.methodLink RX10 326 yX3_bestAccuser ∈ wsL_law := v_r28 _ (List.mem_of_getElem? (i := 9) rfl)
theorem k_RX10_329 : Cond.methodLink RX10 329 yX3_worstDeed ∈ wsL_law := v_r37 _ (List.mem_of_getElem? (i := 22) rfl)
theorem k_RX10_33 : Cond.fieldLink RX10 33 "HalfAccuser" "marks" "[LHalfAccuser$City;" ∈ wsL_law := v_r1 _ (List.mem_of_getElem? (i := 23) rfl)
theorem k_RX10_332 : Cond.methodLink RX10 332 yX3_dreadOf ∈ wsL_law := v_r38 _ (List.mem_of_getElem? (i := 11) rfl)
theorem k_RX10_336 : Cond.methodLink RX10 336 yX3_mildestAccuser ∈ wsL_law := v_r30 _ (List.mem_of_getElem? (i := 17) rfl)
theorem k_RX10_339 : Cond.methodLink RX10 339 yX0_openDeeds ∈ wsL_law := v_r24 _ (List.mem_of_getElem? (i := 22) rfl)
theorem k_RX10_343 : Cond.methodLink RX10 343 yX3_gladSet ∈ wsL_law := v_r27 _ (List.mem_of_getElem? (i := 9) rfl)
theorem k_RX10_346 : Cond.methodLink RX10 346 yX3_fewestCoins ∈ wsL_law := v_r34 _ (List.mem_of_getElem? (i := 1) rfl)
theorem k_RX10_349 : Cond.methodLink RX10 349 yX3_mostCoins ∈ wsL_law := v_r34 _ (List.mem_of_getElem? (i := 6) rfl)
theorem k_RX10_352 : Cond.methodLink RX10 352 yX3_leastGladShare ∈ wsL_law := v_r29 _ (List.mem_of_getElem? (i := 8) rfl)
theorem k_RX10_355 : Cond.methodLink RX10 355 yX3_leastGladFine ∈ wsL_law := v_r30 _ (List.mem_of_getElem? (i := 0) rfl)
theorem k_RX10_358 : Cond.methodLink RX10 358 yX3_mostGladPenalty ∈ wsL_law := v_r29 _ (List.mem_of_getElem? (i := 16) rfl)
theorem k_RX10_361 : Cond.methodLink RX10 361 yX10_gameStatus ∈ wsL_law := v_r40 _ (List.mem_of_getElem? (i := 4) rfl)
theorem k_RX10_365 : Cond.methodLink RX10 365 yX3_see ∈ wsL_law := v_r25 _ (List.mem_of_getElem? (i := 6) rfl)
theorem k_RX10_368 : Cond.methodLink RX10 368 yX2_setGame ∈ wsL_law := v_r40 _ (List.mem_of_getElem? (i := 8) rfl)
theorem k_RX10_371 : Cond.methodLink RX10 371 yX2_outcome ∈ wsL_law := v_r40 _ (List.mem_of_getElem? (i := 18) rfl)
theorem k_RX10_374 : Cond.methodLink RX10 374 yX2_firstMove ∈ wsL_law := v_r41 _ (List.mem_of_getElem? (i := 9) rfl)
theorem k_RX10_377 : Cond.methodLink RX10 377 yX0_isSet ∈ wsL_law := v_r38 _ (List.mem_of_getElem? (i := 19) rfl)
theorem k_RX10_380 : Cond.methodLink RX10 380 yX2_setClub ∈ wsL_law := v_r38 _ (List.mem_of_getElem? (i := 23) rfl)
theorem k_RX10_383 : Cond.methodLink RX10 383 yX2_stayers ∈ wsL_law := v_r39 _ (List.mem_of_getElem? (i := 5) rfl)
theorem k_RX10_386 : Cond.methodLink RX10 386 yX2_sumOfDreads ∈ wsL_law := v_r39 _ (List.mem_of_getElem? (i := 22) rfl)
theorem k_RX10_389 : Cond.methodLink RX10 389 yJ6_bitCount_0f7a4 ∈ wsL_law := v_r39 _ (List.mem_of_getElem? (i := 23) rfl)
theorem k_RX10_394 : Cond.methodLink RX10 394 yX10_pastStatus ∈ wsL_law := v_r36 _ (List.mem_of_getElem? (i := 13) rfl)
theorem k_RX10_397 : Cond.methodLink RX10 397 yX5_look ∈ wsL_law := v_r36 _ (List.mem_of_getElem? (i := 17) rfl)
theorem k_RX10_400 : Cond.fieldLink RX10 400 "HalfAccuser$Past" "ways" "I" ∈ wsL_law := v_r36 _ (List.mem_of_getElem? (i := 12) rfl)
theorem k_RX10_402 : Cond.fieldLink RX10 402 "HalfAccuser$Past" "always" "I" ∈ wsL_law := v_r37 _ (List.mem_of_getElem? (i := 17) rfl)
theorem k_RX10_405 : Cond.methodLink RX10 405 yX5_most ∈ wsL_law := v_r35 _ (List.mem_of_getElem? (i := 10) rfl)
theorem k_RX10_408 : Cond.methodLink RX10 408 yX5_least ∈ wsL_law := v_r36 _ (List.mem_of_getElem? (i := 4) rfl)
theorem k_RX10_42 : Cond.fieldLink RX10 42 "HalfAccuser" "cityReader" "LHalfAccuser$CityReader;" ∈ wsL_law := v_r2 _ (List.mem_of_getElem? (i := 3) rfl)
theorem k_RX10_433 : Cond.fieldLink RX10 433 "HalfAccuser" "marked" "I" ∈ wsL_law := v_r41 _ (List.mem_of_getElem? (i := 18) rfl)
theorem k_RX10_436 : Cond.methodLink RX10 436 Lib.MathLoose.abs_long.x ∈ wsL_law := v_r32 _ (List.mem_of_getElem? (i := 10) rfl)
theorem k_RX10_442 : Cond.methodLink RX10 442 yX10_commonDivisor ∈ wsL_law := v_r32 _ (List.mem_of_getElem? (i := 14) rfl)
theorem k_RX10_446 : Cond.fieldLink RX10 446 "HalfAccuser$Tape" "fault" "I" ∈ wsL_law := v_r18 _ (List.mem_of_getElem? (i := 19) rfl)
theorem k_RX10_449 : Cond.fieldLink RX10 449 "HalfAccuser$Tape" "faultPlace" "I" ∈ wsL_law := v_r18 _ (List.mem_of_getElem? (i := 20) rfl)
theorem k_RX10_452 : Cond.methodLink RX10 452 yX0_isRuined ∈ wsL_law := v_r33 _ (List.mem_of_getElem? (i := 14) rfl)
theorem k_RX10_455 : Cond.methodLink RX10 455 Lib.Math.min.name ∈ wsL_law := v_r5 _ (List.mem_of_getElem? (i := 18) rfl)
theorem k_RX10_458 : Cond.methodLink RX10 458 arraycopyName ∈ wsL_law := v_r5 _ (List.mem_of_getElem? (i := 22) rfl)
theorem k_RX10_464 : Cond.methodLink RX10 464 Lib.Math.max.name ∈ wsL_law := v_r26 _ (List.mem_of_getElem? (i := 18) rfl)
theorem k_RX10_48 : Cond.fieldLink RX10 48 "HalfAccuser$City" "years" "LHalfAccuser$Years;" ∈ wsL_law := v_r2 _ (List.mem_of_getElem? (i := 7) rfl)
theorem k_RX10_55 : Cond.fieldLink RX10 55 "HalfAccuser" "yearsReader" "LHalfAccuser$YearsReader;" ∈ wsL_law := v_r2 _ (List.mem_of_getElem? (i := 8) rfl)
theorem k_RX10_64 : Cond.fieldLink RX10 64 "HalfAccuser" "hopes" "LHalfAccuser$Hopes;" ∈ wsL_law := v_r2 _ (List.mem_of_getElem? (i := 12) rfl)
theorem k_RX10_73 : Cond.fieldLink RX10 73 "HalfAccuser" "games" "LHalfAccuser$Games;" ∈ wsL_law := v_r2 _ (List.mem_of_getElem? (i := 16) rfl)
theorem k_RX10_80 : Cond.fieldLink RX10 80 "HalfAccuser" "past" "LHalfAccuser$Past;" ∈ wsL_law := v_r2 _ (List.mem_of_getElem? (i := 20) rfl)
theorem k_RX10_87 : Cond.fieldLink RX10 87 "HalfAccuser" "life" "LHalfAccuser$Life;" ∈ wsL_law := v_r3 _ (List.mem_of_getElem? (i := 0) rfl)
theorem k_RX10_95 : Cond.fieldLink RX10 95 "HalfAccuser" "latestFault" "I" ∈ wsL_law := v_r3 _ (List.mem_of_getElem? (i := 2) rfl)
theorem k_RX10_99 : Cond.fieldLink RX10 99 "HalfAccuser" "latestFaultPlace" "I" ∈ wsL_law := v_r3 _ (List.mem_of_getElem? (i := 3) rfl)
theorem k_RX1_102 : Cond.methodLink RX1 102 yX1_takeWordAndNumber ∈ wsL_law := v_r17 _ (List.mem_of_getElem? (i := 21) rfl)
theorem k_RX1_106 : Cond.fieldLink RX1 106 "HalfAccuser$City" "coins" "[I" ∈ wsL_law := v_r16 _ (List.mem_of_getElem? (i := 22) rfl)
theorem k_RX1_109 : Cond.fieldLink RX1 109 "HalfAccuser$City" "skills" "[I" ∈ wsL_law := v_r16 _ (List.mem_of_getElem? (i := 23) rfl)
theorem k_RX1_112 : Cond.fieldLink RX1 112 "HalfAccuser$City" "deeds" "I" ∈ wsL_law := v_r18 _ (List.mem_of_getElem? (i := 10) rfl)
theorem k_RX1_115 : Cond.methodLink RX1 115 yX6_takeWord ∈ wsL_law := v_r18 _ (List.mem_of_getElem? (i := 1) rfl)
theorem k_RX1_118 : Cond.fieldLink RX1 118 "HalfAccuser$Tape" "value" "J" ∈ wsL_law := v_r17 _ (List.mem_of_getElem? (i := 4) rfl)
theorem k_RX1_121 : Cond.methodLink RX1 121 yX0_personBy ∈ wsL_law := v_r17 _ (List.mem_of_getElem? (i := 5) rfl)
theorem k_RX1_124 : Cond.methodLink RX1 124 yX0_addDeed ∈ wsL_law := v_r18 _ (List.mem_of_getElem? (i := 11) rfl)
theorem k_RX1_128 : Cond.methodLink RX1 128 yX0_deedBy ∈ wsL_law := v_r17 _ (List.mem_of_getElem? (i := 9) rfl)
theorem k_RX1_15 : Cond.fieldLink RX1 15 "HalfAccuser$CityReader" "draft" "LHalfAccuser$City;" ∈ wsL_law := v_r6 _ (List.mem_of_getElem? (i := 14) rfl)
theorem k_RX1_19 : Cond.methodLink RX1 19 yX0_clear ∈ wsL_law := v_r15 _ (List.mem_of_getElem? (i := 7) rfl)
theorem k_RX1_24 : Cond.fieldLink RX1 24 "HalfAccuser$CityReader" "rulesTold" "I" ∈ wsL_law := v_r15 _ (List.mem_of_getElem? (i := 5) rfl)
theorem k_RX1_30 : Cond.fieldLink RX1 30 "HalfAccuser$Tape" "kind" "I" ∈ wsL_law := v_r15 _ (List.mem_of_getElem? (i := 6) rfl)
theorem k_RX1_33 : Cond.methodLink RX1 33 yX6_wordNow ∈ wsL_law := v_r15 _ (List.mem_of_getElem? (i := 8) rfl)
theorem k_RX1_37 : Cond.methodLink RX1 37 yX1_readRule ∈ wsL_law := v_r15 _ (List.mem_of_getElem? (i := 12) rfl)
theorem k_RX1_41 : Cond.methodLink RX1 41 yX1_readPerson ∈ wsL_law := v_r16 _ (List.mem_of_getElem? (i := 16) rfl)
theorem k_RX1_45 : Cond.methodLink RX1 45 yX1_readDeed ∈ wsL_law := v_r18 _ (List.mem_of_getElem? (i := 6) rfl)
theorem k_RX1_48 : Cond.methodLink RX1 48 yX6_blame ∈ wsL_law := v_r15 _ (List.mem_of_getElem? (i := 19) rfl)
theorem k_RX1_55 : Cond.methodLink RX1 55 yX6_pass ∈ wsL_law := v_r16 _ (List.mem_of_getElem? (i := 1) rfl)
theorem k_RX1_69 : Cond.methodLink RX1 69 yX6_takeNumber ∈ wsL_law := v_r16 _ (List.mem_of_getElem? (i := 2) rfl)
theorem k_RX1_72 : Cond.fieldLink RX1 72 "HalfAccuser$City" "rules" "[I" ∈ wsL_law := v_r15 _ (List.mem_of_getElem? (i := 16) rfl)
theorem k_RX1_75 : Cond.methodLink RX1 75 yX6_number ∈ wsL_law := v_r16 _ (List.mem_of_getElem? (i := 7) rfl)
theorem k_RX1_82 : Cond.methodLink RX1 82 yX6_takeSemicolon ∈ wsL_law := v_r16 _ (List.mem_of_getElem? (i := 11) rfl)
theorem k_RX1_85 : Cond.fieldLink RX1 85 "HalfAccuser$City" "people" "I" ∈ wsL_law := v_r16 _ (List.mem_of_getElem? (i := 20) rfl)
theorem k_RX1_88 : Cond.methodLink RX1 88 yX1_takeNewName ∈ wsL_law := v_r17 _ (List.mem_of_getElem? (i := 0) rfl)
theorem k_RX1_9 : Cond.fieldLink RX1 9 "HalfAccuser$CityReader" "tape" "LHalfAccuser$Tape;" ∈ wsL_law := v_r6 _ (List.mem_of_getElem? (i := 13) rfl)
theorem k_RX1_91 : Cond.fieldLink RX1 91 "HalfAccuser$Tape" "taken" "J" ∈ wsL_law := v_r16 _ (List.mem_of_getElem? (i := 21) rfl)
theorem k_RX1_95 : Cond.methodLink RX1 95 yX0_addPerson ∈ wsL_law := v_r17 _ (List.mem_of_getElem? (i := 13) rfl)
theorem k_RX1_99 : Cond.methodLink RX1 99 yX6_isWord ∈ wsL_law := v_r17 _ (List.mem_of_getElem? (i := 17) rfl)
theorem k_RX2_100 : Cond.methodLink RX2 100 yX2_sumOfDreads ∈ wsL_law := v_r39 _ (List.mem_of_getElem? (i := 13) rfl)
theorem k_RX2_103 : Cond.methodLink RX2 103 yJ6_bitCount_0f7a4 ∈ wsL_law := v_r39 _ (List.mem_of_getElem? (i := 17) rfl)
theorem k_RX2_15 : Cond.fieldLink RX2 15 "HalfAccuser$Games" "worths" "[J" ∈ wsL_law := v_r7 _ (List.mem_of_getElem? (i := 18) rfl)
theorem k_RX2_19 : Cond.fieldLink RX2 19 "HalfAccuser$Games" "dreads" "[J" ∈ wsL_law := v_r7 _ (List.mem_of_getElem? (i := 19) rfl)
theorem k_RX2_22 : Cond.fieldLink RX2 22 "HalfAccuser$Games" "city" "LHalfAccuser$City;" ∈ wsL_law := v_r7 _ (List.mem_of_getElem? (i := 20) rfl)
theorem k_RX2_26 : Cond.fieldLink RX2 26 "HalfAccuser$Games" "hopes" "LHalfAccuser$Hopes;" ∈ wsL_law := v_r7 _ (List.mem_of_getElem? (i := 21) rfl)
theorem k_RX2_30 : Cond.fieldLink RX2 30 "HalfAccuser$Games" "turns" "I" ∈ wsL_law := v_r40 _ (List.mem_of_getElem? (i := 12) rfl)
theorem k_RX2_34 : Cond.fieldLink RX2 34 "HalfAccuser$City" "deeds" "I" ∈ wsL_law := v_r40 _ (List.mem_of_getElem? (i := 13) rfl)
theorem k_RX2_43 : Cond.methodLink RX2 43 yX0_isOwn ∈ wsL_law := v_r40 _ (List.mem_of_getElem? (i := 14) rfl)
theorem k_RX2_47 : Cond.methodLink RX2 47 yX0_mayCharge ∈ wsL_law := v_r40 _ (List.mem_of_getElem? (i := 15) rfl)
theorem k_RX2_50 : Cond.methodLink RX2 50 yX3_gainOf ∈ wsL_law := v_r40 _ (List.mem_of_getElem? (i := 16) rfl)
theorem k_RX2_56 : Cond.methodLink RX2 56 yX3_lossOf ∈ wsL_law := v_r40 _ (List.mem_of_getElem? (i := 17) rfl)
theorem k_RX2_62 : Cond.methodLink RX2 62 yX2_play ∈ wsL_law := v_r40 _ (List.mem_of_getElem? (i := 22) rfl)
theorem k_RX2_76 : Cond.methodLink RX2 76 Lib.MathLoose.max_long.x ∈ wsL_law := v_r41 _ (List.mem_of_getElem? (i := 1) rfl)
theorem k_RX2_82 : Cond.methodLink RX2 82 Lib.MathLoose.min_long.x ∈ wsL_law := v_r41 _ (List.mem_of_getElem? (i := 2) rfl)
theorem k_RX2_85 : Cond.methodLink RX2 85 yX2_outcome ∈ wsL_law := v_r41 _ (List.mem_of_getElem? (i := 13) rfl)
theorem k_RX2_89 : Cond.fieldLink RX2 89 "HalfAccuser$City" "people" "I" ∈ wsL_law := v_r39 _ (List.mem_of_getElem? (i := 3) rfl)
theorem k_RX2_9 : Cond.fieldLink RX2 9 "HalfAccuser$Games" "movers" "[I" ∈ wsL_law := v_r7 _ (List.mem_of_getElem? (i := 17) rfl)
theorem k_RX2_92 : Cond.methodLink RX2 92 yX3_dreadOf ∈ wsL_law := v_r39 _ (List.mem_of_getElem? (i := 4) rfl)
theorem k_RX2_96 : Cond.methodLink RX2 96 yX2_leavers ∈ wsL_law := v_r39 _ (List.mem_of_getElem? (i := 9) rfl)
theorem k_RX3_102 : Cond.methodLink RX3 102 yX0_partOf ∈ wsL_law := v_r26 _ (List.mem_of_getElem? (i := 21) rfl)
theorem k_RX3_105 : Cond.methodLink RX3 105 yX0_mayCharge ∈ wsL_law := v_r27 _ (List.mem_of_getElem? (i := 0) rfl)
theorem k_RX3_112 : Cond.methodLink RX3 112 yX3_isWithin ∈ wsL_law := v_r27 _ (List.mem_of_getElem? (i := 17) rfl)
theorem k_RX3_115 : Cond.methodLink RX3 115 yX3_gainOf ∈ wsL_law := v_r28 _ (List.mem_of_getElem? (i := 20) rfl)
theorem k_RX3_119 : Cond.methodLink RX3 119 Lib.MathLoose.max_long.x ∈ wsL_law := v_r28 _ (List.mem_of_getElem? (i := 17) rfl)
theorem k_RX3_125 : Cond.methodLink RX3 125 yX3_gainToHave ∈ wsL_law := v_r28 _ (List.mem_of_getElem? (i := 13) rfl)
theorem k_RX3_128 : Cond.methodLink RX3 128 yX3_sortIn ∈ wsL_law := v_r35 _ (List.mem_of_getElem? (i := 2) rfl)
theorem k_RX3_132 : Cond.methodLink RX3 132 yX3_lossOf ∈ wsL_law := v_r30 _ (List.mem_of_getElem? (i := 21) rfl)
theorem k_RX3_135 : Cond.methodLink RX3 135 yX0_isOwn ∈ wsL_law := v_r38 _ (List.mem_of_getElem? (i := 2) rfl)
theorem k_RX3_138 : Cond.methodLink RX3 138 yX3_worstLoss ∈ wsL_law := v_r38 _ (List.mem_of_getElem? (i := 3) rfl)
theorem k_RX3_142 : Cond.methodLink RX3 142 yX3_whole ∈ wsL_law := v_r34 _ (List.mem_of_getElem? (i := 5) rfl)
theorem k_RX3_145 : Cond.methodLink RX3 145 yX3_isAnyGlad ∈ wsL_law := v_r27 _ (List.mem_of_getElem? (i := 13) rfl)
theorem k_RX3_15 : Cond.fieldLink RX3 15 "HalfAccuser$Hopes" "winsBy" "[J" ∈ wsL_law := v_r7 _ (List.mem_of_getElem? (i := 4) rfl)
theorem k_RX3_18 : Cond.fieldLink RX3 18 "HalfAccuser$Hopes" "debtsBy" "[J" ∈ wsL_law := v_r7 _ (List.mem_of_getElem? (i := 5) rfl)
theorem k_RX3_21 : Cond.fieldLink RX3 21 "HalfAccuser$Hopes" "wins" "[J" ∈ wsL_law := v_r7 _ (List.mem_of_getElem? (i := 6) rfl)
theorem k_RX3_24 : Cond.fieldLink RX3 24 "HalfAccuser$Hopes" "debts" "[J" ∈ wsL_law := v_r7 _ (List.mem_of_getElem? (i := 7) rfl)
theorem k_RX3_27 : Cond.fieldLink RX3 27 "HalfAccuser$Hopes" "gains" "[J" ∈ wsL_law := v_r7 _ (List.mem_of_getElem? (i := 8) rfl)
theorem k_RX3_30 : Cond.fieldLink RX3 30 "HalfAccuser$Hopes" "losses" "[J" ∈ wsL_law := v_r7 _ (List.mem_of_getElem? (i := 9) rfl)
theorem k_RX3_33 : Cond.fieldLink RX3 33 "HalfAccuser$Hopes" "within" "[I" ∈ wsL_law := v_r7 _ (List.mem_of_getElem? (i := 10) rfl)
theorem k_RX3_37 : Cond.fieldLink RX3 37 "HalfAccuser$Hopes" "sorted" "[J" ∈ wsL_law := v_r7 _ (List.mem_of_getElem? (i := 11) rfl)
theorem k_RX3_40 : Cond.fieldLink RX3 40 "HalfAccuser$Hopes" "city" "LHalfAccuser$City;" ∈ wsL_law := v_r7 _ (List.mem_of_getElem? (i := 12) rfl)
theorem k_RX3_44 : Cond.methodLink RX3 44 yX0_ruleOf ∈ wsL_law := v_r25 _ (List.mem_of_getElem? (i := 19) rfl)
theorem k_RX3_50 : Cond.methodLink RX3 50 yJ7_fill_d0a16 ∈ wsL_law := v_r25 _ (List.mem_of_getElem? (i := 16) rfl)
theorem k_RX3_64 : Cond.methodLink RX3 64 yX3_weigh ∈ wsL_law := v_r25 _ (List.mem_of_getElem? (i := 12) rfl)
theorem k_RX3_68 : Cond.methodLink RX3 68 yX3_waysToWin ∈ wsL_law := v_r25 _ (List.mem_of_getElem? (i := 20) rfl)
theorem k_RX3_72 : Cond.methodLink RX3 72 yX3_waysToOwe ∈ wsL_law := v_r26 _ (List.mem_of_getElem? (i := 0) rfl)
theorem k_RX3_75 : Cond.fieldLink RX3 75 "HalfAccuser$City" "people" "I" ∈ wsL_law := v_r25 _ (List.mem_of_getElem? (i := 10) rfl)
theorem k_RX3_82 : Cond.fieldLink RX3 82 "HalfAccuser$City" "deeds" "I" ∈ wsL_law := v_r25 _ (List.mem_of_getElem? (i := 11) rfl)
theorem k_RX3_85 : Cond.methodLink RX3 85 yX3_seeCharge ∈ wsL_law := v_r26 _ (List.mem_of_getElem? (i := 4) rfl)
theorem k_RX3_89 : Cond.methodLink RX3 89 yX3_cellOf ∈ wsL_law := v_r26 _ (List.mem_of_getElem? (i := 9) rfl)
theorem k_RX3_9 : Cond.fieldLink RX3 9 "HalfAccuser$Hopes" "ways" "[J" ∈ wsL_law := v_r7 _ (List.mem_of_getElem? (i := 3) rfl)
theorem k_RX3_93 : Cond.methodLink RX3 93 yX0_chanceOf ∈ wsL_law := v_r26 _ (List.mem_of_getElem? (i := 12) rfl)
theorem k_RX3_96 : Cond.fieldLink RX3 96 "HalfAccuser$City" "fines" "[I" ∈ wsL_law := v_r26 _ (List.mem_of_getElem? (i := 8) rfl)
theorem k_RX4_15 : Cond.fieldLink RX4 15 "HalfAccuser$Life" "s" "I" ∈ wsL_law := v_r42 _ (List.mem_of_getElem? (i := 3) rfl)
theorem k_RX4_19 : Cond.constant RX4 19 (65535) ∈ wsL_law := v_r42 _ (List.mem_of_getElem? (i := 14) rfl)
theorem k_RX4_20 : Cond.methodLink RX4 20 yX0_chanceOf ∈ wsL_law := v_r42 _ (List.mem_of_getElem? (i := 8) rfl)
theorem k_RX4_26 : Cond.methodLink RX4 26 yX0_ruleOf ∈ wsL_law := v_r42 _ (List.mem_of_getElem? (i := 9) rfl)
theorem k_RX4_30 : Cond.methodLink RX4 30 yX4_draw ∈ wsL_law := v_r42 _ (List.mem_of_getElem? (i := 10) rfl)
theorem k_RX5_15 : Cond.fieldLink RX5 15 "HalfAccuser$Past" "city" "LHalfAccuser$City;" ∈ wsL_law := v_r8 _ (List.mem_of_getElem? (i := 3) rfl)
theorem k_RX5_19 : Cond.fieldLink RX5 19 "HalfAccuser$Past" "many" "I" ∈ wsL_law := v_r35 _ (List.mem_of_getElem? (i := 14) rfl)
theorem k_RX5_23 : Cond.fieldLink RX5 23 "HalfAccuser$City" "deeds" "I" ∈ wsL_law := v_r35 _ (List.mem_of_getElem? (i := 19) rfl)
theorem k_RX5_28 : Cond.methodLink RX5 28 yX0_isOwn ∈ wsL_law := v_r35 _ (List.mem_of_getElem? (i := 20) rfl)
theorem k_RX5_36 : Cond.fieldLink RX5 36 "HalfAccuser$City" "fines" "[I" ∈ wsL_law := v_r36 _ (List.mem_of_getElem? (i := 1) rfl)
theorem k_RX5_43 : Cond.methodLink RX5 43 yX0_ruleOf ∈ wsL_law := v_r36 _ (List.mem_of_getElem? (i := 2) rfl)
theorem k_RX5_47 : Cond.methodLink RX5 47 yX0_partOf ∈ wsL_law := v_r36 _ (List.mem_of_getElem? (i := 3) rfl)
theorem k_RX5_51 : Cond.methodLink RX5 51 yX5_gather ∈ wsL_law := v_r35 _ (List.mem_of_getElem? (i := 15) rfl)
theorem k_RX5_55 : Cond.methodLink RX5 55 yX5_prize ∈ wsL_law := v_r35 _ (List.mem_of_getElem? (i := 21) rfl)
theorem k_RX5_58 : Cond.fieldLink RX5 58 "HalfAccuser$Past" "ways" "I" ∈ wsL_law := v_r36 _ (List.mem_of_getElem? (i := 21) rfl)
theorem k_RX5_61 : Cond.fieldLink RX5 61 "HalfAccuser$Past" "always" "I" ∈ wsL_law := v_r36 _ (List.mem_of_getElem? (i := 22) rfl)
theorem k_RX5_67 : Cond.methodLink RX5 67 yJ6_bitCount_0f7a4 ∈ wsL_law := v_r36 _ (List.mem_of_getElem? (i := 23) rfl)
theorem k_RX5_72 : Cond.methodLink RX5 72 yX5_waysToPay ∈ wsL_law := v_r37 _ (List.mem_of_getElem? (i := 6) rfl)
theorem k_RX5_75 : Cond.methodLink RX5 75 yX5_choices ∈ wsL_law := v_r37 _ (List.mem_of_getElem? (i := 10) rfl)
theorem k_RX5_9 : Cond.fieldLink RX5 9 "HalfAccuser$Past" "others" "[I" ∈ wsL_law := v_r8 _ (List.mem_of_getElem? (i := 2) rfl)
theorem k_RX6_102 : Cond.fieldLink RX6 102 "HalfAccuser$Tape" "fault" "I" ∈ wsL_law := v_r15 _ (List.mem_of_getElem? (i := 23) rfl)
theorem k_RX6_105 : Cond.fieldLink RX6 105 "HalfAccuser$Tape" "place" "I" ∈ wsL_law := v_r14 _ (List.mem_of_getElem? (i := 20) rfl)
theorem k_RX6_108 : Cond.fieldLink RX6 108 "HalfAccuser$Tape" "faultPlace" "I" ∈ wsL_law := v_r16 _ (List.mem_of_getElem? (i := 0) rfl)
theorem k_RX6_11 : Cond.fieldLink RX6 11 "HalfAccuser$Tape" "bytes" "[B" ∈ wsL_law := v_r3 _ (List.mem_of_getElem? (i := 21) rfl)
theorem k_RX6_111 : Cond.fieldLink RX6 111 "HalfAccuser$Tape" "taken" "J" ∈ wsL_law := v_r14 _ (List.mem_of_getElem? (i := 18) rfl)
theorem k_RX6_121 : Cond.methodLink RX6 121 yX6_isWord ∈ wsL_law := v_r18 _ (List.mem_of_getElem? (i := 5) rfl)
theorem k_RX6_124 : Cond.methodLink RX6 124 yX6_blame ∈ wsL_law := v_r16 _ (List.mem_of_getElem? (i := 6) rfl)
theorem k_RX6_127 : Cond.constantLong RX6 127 (59) ∈ wsL_law := v_r16 _ (List.mem_of_getElem? (i := 15) rfl)
theorem k_RX6_15 : Cond.fieldLink RX6 15 "HalfAccuser$Tape" "kinds" "[I" ∈ wsL_law := v_r3 _ (List.mem_of_getElem? (i := 22) rfl)
theorem k_RX6_19 : Cond.fieldLink RX6 19 "HalfAccuser$Tape" "places" "[I" ∈ wsL_law := v_r3 _ (List.mem_of_getElem? (i := 23) rfl)
theorem k_RX6_22 : Cond.fieldLink RX6 22 "HalfAccuser$Tape" "values" "[J" ∈ wsL_law := v_r4 _ (List.mem_of_getElem? (i := 0) rfl)
theorem k_RX6_26 : Cond.fieldLink RX6 26 "HalfAccuser$Tape" "length" "I" ∈ wsL_law := v_r11 _ (List.mem_of_getElem? (i := 13) rfl)
theorem k_RX6_30 : Cond.fieldLink RX6 30 "HalfAccuser$Tape" "tokens" "I" ∈ wsL_law := v_r12 _ (List.mem_of_getElem? (i := 17) rfl)
theorem k_RX6_33 : Cond.methodLink RX6 33 yX6_byteAt ∈ wsL_law := v_r12 _ (List.mem_of_getElem? (i := 19) rfl)
theorem k_RX6_37 : Cond.methodLink RX6 37 yX6_isLetter ∈ wsL_law := v_r12 _ (List.mem_of_getElem? (i := 23) rfl)
theorem k_RX6_41 : Cond.methodLink RX6 41 yX6_runEnd ∈ wsL_law := v_r13 _ (List.mem_of_getElem? (i := 2) rfl)
theorem k_RX6_45 : Cond.methodLink RX6 45 yX6_addWord ∈ wsL_law := v_r13 _ (List.mem_of_getElem? (i := 9) rfl)
theorem k_RX6_49 : Cond.methodLink RX6 49 yX6_isDigit ∈ wsL_law := v_r13 _ (List.mem_of_getElem? (i := 6) rfl)
theorem k_RX6_52 : Cond.methodLink RX6 52 yX6_addNumber ∈ wsL_law := v_r14 _ (List.mem_of_getElem? (i := 9) rfl)
theorem k_RX6_55 : Cond.methodLink RX6 55 yX6_addToken ∈ wsL_law := v_r13 _ (List.mem_of_getElem? (i := 19) rfl)
theorem k_RX6_59 : Cond.fieldLink RX6 59 "HalfAccuser$Tape" "now" "I" ∈ wsL_law := v_r12 _ (List.mem_of_getElem? (i := 18) rfl)
theorem k_RX6_62 : Cond.methodLink RX6 62 yX6_pass ∈ wsL_law := v_r14 _ (List.mem_of_getElem? (i := 13) rfl)
theorem k_RX6_72 : Cond.methodLink RX6 72 yX6_keywordOf ∈ wsL_law := v_r13 _ (List.mem_of_getElem? (i := 13) rfl)
theorem k_RX6_76 : Cond.methodLink RX6 76 yX6_nameOf ∈ wsL_law := v_r14 _ (List.mem_of_getElem? (i := 3) rfl)
theorem k_RX6_91 : Cond.constantLong RX6 91 (32) ∈ wsL_law := v_r14 _ (List.mem_of_getElem? (i := 7) rfl)
theorem k_RX6_93 : Cond.constantLong RX6 93 (97) ∈ wsL_law := v_r14 _ (List.mem_of_getElem? (i := 8) rfl)
theorem k_RX6_95 : Cond.fieldLink RX6 95 "HalfAccuser$Tape" "kind" "I" ∈ wsL_law := v_r14 _ (List.mem_of_getElem? (i := 19) rfl)
theorem k_RX6_98 : Cond.fieldLink RX6 98 "HalfAccuser$Tape" "value" "J" ∈ wsL_law := v_r14 _ (List.mem_of_getElem? (i := 17) rfl)
theorem k_RX8_11 : Cond.fieldLink RX8 11 "HalfAccuser$Years" "words" "[I" ∈ wsL_law := v_r5 _ (List.mem_of_getElem? (i := 2) rfl)
theorem k_RX8_15 : Cond.fieldLink RX8 15 "HalfAccuser$Years" "firsts" "[I" ∈ wsL_law := v_r5 _ (List.mem_of_getElem? (i := 3) rfl)
theorem k_RX8_18 : Cond.fieldLink RX8 18 "HalfAccuser$Years" "seconds" "[I" ∈ wsL_law := v_r5 _ (List.mem_of_getElem? (i := 4) rfl)
theorem k_RX8_21 : Cond.fieldLink RX8 21 "HalfAccuser$Years" "numbers" "[I" ∈ wsL_law := v_r5 _ (List.mem_of_getElem? (i := 5) rfl)
theorem k_RX8_24 : Cond.fieldLink RX8 24 "HalfAccuser$Years" "partners" "[I" ∈ wsL_law := v_r5 _ (List.mem_of_getElem? (i := 6) rfl)
theorem k_RX8_30 : Cond.fieldLink RX8 30 "HalfAccuser$Years" "lines" "I" ∈ wsL_law := v_r6 _ (List.mem_of_getElem? (i := 6) rfl)
theorem k_RX8_34 : Cond.fieldLink RX8 34 "HalfAccuser$Years" "steps" "I" ∈ wsL_law := v_r6 _ (List.mem_of_getElem? (i := 7) rfl)
theorem k_RX8_37 : Cond.fieldLink RX8 37 "HalfAccuser$Years" "there" "Z" ∈ wsL_law := v_r6 _ (List.mem_of_getElem? (i := 8) rfl)
theorem k_RX9_102 : Cond.methodLink RX9 102 yX9_personNow ∈ wsL_law := v_r21 _ (List.mem_of_getElem? (i := 6) rfl)
theorem k_RX9_105 : Cond.methodLink RX9 105 yX9_takeNamed ∈ wsL_law := v_r21 _ (List.mem_of_getElem? (i := 12) rfl)
theorem k_RX9_108 : Cond.fieldLink RX9 108 "HalfAccuser$YearsReader" "named" "I" ∈ wsL_law := v_r21 _ (List.mem_of_getElem? (i := 5) rfl)
theorem k_RX9_11 : Cond.fieldLink RX9 11 "HalfAccuser$YearsReader" "opened" "[I" ∈ wsL_law := v_r6 _ (List.mem_of_getElem? (i := 19) rfl)
theorem k_RX9_111 : Cond.methodLink RX9 111 yX9_deedNow ∈ wsL_law := v_r21 _ (List.mem_of_getElem? (i := 16) rfl)
theorem k_RX9_114 : Cond.methodLink RX9 114 yX6_takeWord ∈ wsL_law := v_r22 _ (List.mem_of_getElem? (i := 1) rfl)
theorem k_RX9_117 : Cond.methodLink RX9 117 yX6_takeNumber ∈ wsL_law := v_r22 _ (List.mem_of_getElem? (i := 2) rfl)
theorem k_RX9_121 : Cond.methodLink RX9 121 yX6_number ∈ wsL_law := v_r22 _ (List.mem_of_getElem? (i := 3) rfl)
theorem k_RX9_124 : Cond.methodLink RX9 124 yX9_open ∈ wsL_law := v_r22 _ (List.mem_of_getElem? (i := 13) rfl)
theorem k_RX9_128 : Cond.fieldLink RX9 128 "HalfAccuser$Tape" "value" "J" ∈ wsL_law := v_r21 _ (List.mem_of_getElem? (i := 10) rfl)
theorem k_RX9_132 : Cond.constantLong RX9 132 (59) ∈ wsL_law := v_r22 _ (List.mem_of_getElem? (i := 12) rfl)
theorem k_RX9_138 : Cond.methodLink RX9 138 yX0_personBy ∈ wsL_law := v_r21 _ (List.mem_of_getElem? (i := 11) rfl)
theorem k_RX9_144 : Cond.methodLink RX9 144 yX0_deedBy ∈ wsL_law := v_r21 _ (List.mem_of_getElem? (i := 20) rfl)
theorem k_RX9_15 : Cond.fieldLink RX9 15 "HalfAccuser$YearsReader" "tape" "LHalfAccuser$Tape;" ∈ wsL_law := v_r6 _ (List.mem_of_getElem? (i := 20) rfl)
theorem k_RX9_19 : Cond.fieldLink RX9 19 "HalfAccuser$YearsReader" "city" "LHalfAccuser$City;" ∈ wsL_law := v_r6 _ (List.mem_of_getElem? (i := 21) rfl)
theorem k_RX9_23 : Cond.fieldLink RX9 23 "HalfAccuser$YearsReader" "draft" "LHalfAccuser$Years;" ∈ wsL_law := v_r6 _ (List.mem_of_getElem? (i := 22) rfl)
theorem k_RX9_27 : Cond.methodLink RX9 27 yX8_clear ∈ wsL_law := v_r19 _ (List.mem_of_getElem? (i := 23) rfl)
theorem k_RX9_32 : Cond.fieldLink RX9 32 "HalfAccuser$Years" "there" "Z" ∈ wsL_law := v_r19 _ (List.mem_of_getElem? (i := 20) rfl)
theorem k_RX9_36 : Cond.fieldLink RX9 36 "HalfAccuser$YearsReader" "depth" "I" ∈ wsL_law := v_r19 _ (List.mem_of_getElem? (i := 21) rfl)
theorem k_RX9_42 : Cond.fieldLink RX9 42 "HalfAccuser$Tape" "kind" "I" ∈ wsL_law := v_r19 _ (List.mem_of_getElem? (i := 22) rfl)
theorem k_RX9_45 : Cond.methodLink RX9 45 yX6_isWord ∈ wsL_law := v_r20 _ (List.mem_of_getElem? (i := 0) rfl)
theorem k_RX9_49 : Cond.methodLink RX9 49 yX9_readEnd ∈ wsL_law := v_r20 _ (List.mem_of_getElem? (i := 1) rfl)
theorem k_RX9_53 : Cond.methodLink RX9 53 yX9_readStep ∈ wsL_law := v_r20 _ (List.mem_of_getElem? (i := 16) rfl)
theorem k_RX9_56 : Cond.methodLink RX9 56 yX6_blame ∈ wsL_law := v_r20 _ (List.mem_of_getElem? (i := 5) rfl)
theorem k_RX9_63 : Cond.methodLink RX9 63 yX8_add ∈ wsL_law := v_r20 _ (List.mem_of_getElem? (i := 6) rfl)
theorem k_RX9_67 : Cond.methodLink RX9 67 yX8_join ∈ wsL_law := v_r20 _ (List.mem_of_getElem? (i := 10) rfl)
theorem k_RX9_71 : Cond.methodLink RX9 71 yX6_pass ∈ wsL_law := v_r20 _ (List.mem_of_getElem? (i := 14) rfl)
theorem k_RX9_74 : Cond.methodLink RX9 74 yX6_takeSemicolon ∈ wsL_law := v_r20 _ (List.mem_of_getElem? (i := 15) rfl)
theorem k_RX9_77 : Cond.methodLink RX9 77 yX6_wordNow ∈ wsL_law := v_r20 _ (List.mem_of_getElem? (i := 21) rfl)
theorem k_RX9_81 : Cond.methodLink RX9 81 yX9_beginsStep ∈ wsL_law := v_r20 _ (List.mem_of_getElem? (i := 22) rfl)
theorem k_RX9_84 : Cond.fieldLink RX9 84 "HalfAccuser$Years" "steps" "I" ∈ wsL_law := v_r20 _ (List.mem_of_getElem? (i := 20) rfl)
theorem k_RX9_87 : Cond.methodLink RX9 87 yX9_readCharge ∈ wsL_law := v_r21 _ (List.mem_of_getElem? (i := 1) rfl)
theorem k_RX9_90 : Cond.methodLink RX9 90 yX9_readDrop ∈ wsL_law := v_r21 _ (List.mem_of_getElem? (i := 21) rfl)
theorem k_RX9_93 : Cond.methodLink RX9 93 yX9_readEarn ∈ wsL_law := v_r22 _ (List.mem_of_getElem? (i := 4) rfl)
theorem k_RX9_96 : Cond.methodLink RX9 96 yX9_readTest ∈ wsL_law := v_r22 _ (List.mem_of_getElem? (i := 8) rfl)
theorem k_RX9_99 : Cond.methodLink RX9 99 yX9_readLoop ∈ wsL_law := v_r22 _ (List.mem_of_getElem? (i := 17) rfl)
theorem F_0_0 : v_FI 0 0 2 1 RX0 TX0 19 "HalfAccuser$City" "rules" "[I" := ⟨by decide, rfl, rfl, inlX0, by decide, rfl, rfl, rfl⟩
theorem F_0_1 : v_FI 0 1 2 2 RX0 TX0 19 "HalfAccuser$City" "personNames" "[J" := ⟨by decide, rfl, rfl, inlX0, by decide, rfl, rfl, rfl⟩
theorem F_0_2 : v_FI 0 2 2 3 RX0 TX0 19 "HalfAccuser$City" "coins" "[I" := ⟨by decide, rfl, rfl, inlX0, by decide, rfl, rfl, rfl⟩
theorem F_0_3 : v_FI 0 3 2 4 RX0 TX0 19 "HalfAccuser$City" "skills" "[I" := ⟨by decide, rfl, rfl, inlX0, by decide, rfl, rfl, rfl⟩
theorem F_0_4 : v_FI 0 4 2 5 RX0 TX0 19 "HalfAccuser$City" "wonCounts" "[I" := ⟨by decide, rfl, rfl, inlX0, by decide, rfl, rfl, rfl⟩
theorem F_0_5 : v_FI 0 5 2 6 RX0 TX0 19 "HalfAccuser$City" "owedCounts" "[I" := ⟨by decide, rfl, rfl, inlX0, by decide, rfl, rfl, rfl⟩
theorem F_0_6 : v_FI 0 6 2 7 RX0 TX0 19 "HalfAccuser$City" "dropped" "[I" := ⟨by decide, rfl, rfl, inlX0, by decide, rfl, rfl, rfl⟩
theorem F_0_7 : v_FI 0 7 2 8 RX0 TX0 19 "HalfAccuser$City" "deedNames" "[J" := ⟨by decide, rfl, rfl, inlX0, by decide, rfl, rfl, rfl⟩
theorem F_0_8 : v_FI 0 8 2 9 RX0 TX0 19 "HalfAccuser$City" "owners" "[I" := ⟨by decide, rfl, rfl, inlX0, by decide, rfl, rfl, rfl⟩
theorem F_0_9 : v_FI 0 9 2 10 RX0 TX0 19 "HalfAccuser$City" "fines" "[I" := ⟨by decide, rfl, rfl, inlX0, by decide, rfl, rfl, rfl⟩
theorem F_0_10 : v_FI 0 10 2 11 RX0 TX0 19 "HalfAccuser$City" "odds" "[I" := ⟨by decide, rfl, rfl, inlX0, by decide, rfl, rfl, rfl⟩
theorem F_0_11 : v_FI 0 11 2 12 RX0 TX0 19 "HalfAccuser$City" "states" "[I" := ⟨by decide, rfl, rfl, inlX0, by decide, rfl, rfl, rfl⟩
theorem F_0_12 : v_FI 0 12 2 13 RX0 TX0 19 "HalfAccuser$City" "accusers" "[I" := ⟨by decide, rfl, rfl, inlX0, by decide, rfl, rfl, rfl⟩
theorem F_0_13 : v_FI 0 13 2 14 RX0 TX0 19 "HalfAccuser$City" "votesFor" "[I" := ⟨by decide, rfl, rfl, inlX0, by decide, rfl, rfl, rfl⟩
theorem F_0_14 : v_FI 0 14 2 15 RX0 TX0 19 "HalfAccuser$City" "years" "LHalfAccuser$Years;" := ⟨by decide, rfl, rfl, inlX0, by decide, rfl, rfl, rfl⟩
theorem F_0_15 : v_FI 0 15 0 15 RX0 TX0 19 "HalfAccuser$City" "people" "I" := ⟨by decide, rfl, rfl, inlX0, by decide, rfl, rfl, rfl⟩
theorem P_0_15 : v_FI 0 15 0 15 RX0 TX0 19 "HalfAccuser$City" "people" "I" ∧ v_FP 15 TX0 19 tyX0 .int := ⟨F_0_15, tyX0_ok, nmX0, rfl, rfl⟩
theorem F_0_16 : v_FI 0 16 0 16 RX0 TX0 19 "HalfAccuser$City" "deeds" "I" := ⟨by decide, rfl, rfl, inlX0, by decide, rfl, rfl, rfl⟩
theorem P_0_16 : v_FI 0 16 0 16 RX0 TX0 19 "HalfAccuser$City" "deeds" "I" ∧ v_FP 16 TX0 19 tyX0 .int := ⟨F_0_16, tyX0_ok, nmX0, rfl, rfl⟩
theorem F_0_17 : v_FI 0 17 0 17 RX0 TX0 19 "HalfAccuser$City" "treasury" "I" := ⟨by decide, rfl, rfl, inlX0, by decide, rfl, rfl, rfl⟩
theorem P_0_17 : v_FI 0 17 0 17 RX0 TX0 19 "HalfAccuser$City" "treasury" "I" ∧ v_FP 17 TX0 19 tyX0 .int := ⟨F_0_17, tyX0_ok, nmX0, rfl, rfl⟩
theorem F_0_18 : v_FI 0 18 0 18 RX0 TX0 19 "HalfAccuser$City" "heard" "I" := ⟨by decide, rfl, rfl, inlX0, by decide, rfl, rfl, rfl⟩
theorem P_0_18 : v_FI 0 18 0 18 RX0 TX0 19 "HalfAccuser$City" "heard" "I" ∧ v_FP 18 TX0 19 tyX0 .int := ⟨F_0_18, tyX0_ok, nmX0, rfl, rfl⟩
theorem F_1_0 : v_FI 1 0 3 5 RX1 TX1 3 "HalfAccuser$CityReader" "tape" "LHalfAccuser$Tape;" := ⟨by decide, rfl, rfl, inlX1, by decide, rfl, rfl, rfl⟩
theorem F_1_1 : v_FI 1 1 3 32 RX1 TX1 3 "HalfAccuser$CityReader" "draft" "LHalfAccuser$City;" := ⟨by decide, rfl, rfl, inlX1, by decide, rfl, rfl, rfl⟩
theorem F_1_2 : v_FI 1 2 0 2 RX1 TX1 3 "HalfAccuser$CityReader" "rulesTold" "I" := ⟨by decide, rfl, rfl, inlX1, by decide, rfl, rfl, rfl⟩
theorem P_1_2 : v_FI 1 2 0 2 RX1 TX1 3 "HalfAccuser$CityReader" "rulesTold" "I" ∧ v_FP 2 TX1 3 tyX1 .int := ⟨F_1_2, tyX1_ok, nmX1, rfl, rfl⟩
theorem F_2_0 : v_FI 2 0 3 10 RX2 TX2 6 "HalfAccuser$Games" "city" "LHalfAccuser$City;" := ⟨by decide, rfl, rfl, inlX2, by decide, rfl, rfl, rfl⟩
theorem F_2_1 : v_FI 2 1 3 58 RX2 TX2 6 "HalfAccuser$Games" "hopes" "LHalfAccuser$Hopes;" := ⟨by decide, rfl, rfl, inlX2, by decide, rfl, rfl, rfl⟩
theorem F_2_2 : v_FI 2 2 3 69 RX2 TX2 6 "HalfAccuser$Games" "movers" "[I" := ⟨by decide, rfl, rfl, inlX2, by decide, rfl, rfl, rfl⟩
theorem F_2_3 : v_FI 2 3 3 70 RX2 TX2 6 "HalfAccuser$Games" "worths" "[J" := ⟨by decide, rfl, rfl, inlX2, by decide, rfl, rfl, rfl⟩
theorem F_2_4 : v_FI 2 4 3 71 RX2 TX2 6 "HalfAccuser$Games" "dreads" "[J" := ⟨by decide, rfl, rfl, inlX2, by decide, rfl, rfl, rfl⟩
theorem F_2_5 : v_FI 2 5 0 5 RX2 TX2 6 "HalfAccuser$Games" "turns" "I" := ⟨by decide, rfl, rfl, inlX2, by decide, rfl, rfl, rfl⟩
theorem P_2_5 : v_FI 2 5 0 5 RX2 TX2 6 "HalfAccuser$Games" "turns" "I" ∧ v_FP 5 TX2 6 tyX2 .int := ⟨F_2_5, tyX2_ok, nmX2, rfl, rfl⟩
theorem F_3_0 : v_FI 3 0 3 10 RX3 TX3 10 "HalfAccuser$Hopes" "city" "LHalfAccuser$City;" := ⟨by decide, rfl, rfl, inlX3, by decide, rfl, rfl, rfl⟩
theorem F_3_1 : v_FI 3 1 3 59 RX3 TX3 10 "HalfAccuser$Hopes" "ways" "[J" := ⟨by decide, rfl, rfl, inlX3, by decide, rfl, rfl, rfl⟩
theorem F_3_2 : v_FI 3 2 3 60 RX3 TX3 10 "HalfAccuser$Hopes" "winsBy" "[J" := ⟨by decide, rfl, rfl, inlX3, by decide, rfl, rfl, rfl⟩
theorem F_3_3 : v_FI 3 3 3 61 RX3 TX3 10 "HalfAccuser$Hopes" "debtsBy" "[J" := ⟨by decide, rfl, rfl, inlX3, by decide, rfl, rfl, rfl⟩
theorem F_3_4 : v_FI 3 4 3 62 RX3 TX3 10 "HalfAccuser$Hopes" "wins" "[J" := ⟨by decide, rfl, rfl, inlX3, by decide, rfl, rfl, rfl⟩
theorem F_3_5 : v_FI 3 5 3 63 RX3 TX3 10 "HalfAccuser$Hopes" "debts" "[J" := ⟨by decide, rfl, rfl, inlX3, by decide, rfl, rfl, rfl⟩
theorem F_3_6 : v_FI 3 6 3 64 RX3 TX3 10 "HalfAccuser$Hopes" "gains" "[J" := ⟨by decide, rfl, rfl, inlX3, by decide, rfl, rfl, rfl⟩
theorem F_3_7 : v_FI 3 7 3 65 RX3 TX3 10 "HalfAccuser$Hopes" "losses" "[J" := ⟨by decide, rfl, rfl, inlX3, by decide, rfl, rfl, rfl⟩
theorem F_3_8 : v_FI 3 8 3 66 RX3 TX3 10 "HalfAccuser$Hopes" "within" "[I" := ⟨by decide, rfl, rfl, inlX3, by decide, rfl, rfl, rfl⟩
theorem F_3_9 : v_FI 3 9 3 67 RX3 TX3 10 "HalfAccuser$Hopes" "sorted" "[J" := ⟨by decide, rfl, rfl, inlX3, by decide, rfl, rfl, rfl⟩
theorem F_4_2 : v_FI 4 2 0 2 RX4 TX4 3 "HalfAccuser$Life" "s" "I" := ⟨by decide, rfl, rfl, inlX4, by decide, rfl, rfl, rfl⟩
theorem P_4_2 : v_FI 4 2 0 2 RX4 TX4 3 "HalfAccuser$Life" "s" "I" ∧ v_FP 2 TX4 3 tyX4 .int := ⟨F_4_2, tyX4_ok, nmX4, rfl, rfl⟩
theorem F_5_0 : v_FI 5 0 3 10 RX5 TX5 5 "HalfAccuser$Past" "city" "LHalfAccuser$City;" := ⟨by decide, rfl, rfl, inlX5, by decide, rfl, rfl, rfl⟩
theorem F_5_1 : v_FI 5 1 3 73 RX5 TX5 5 "HalfAccuser$Past" "others" "[I" := ⟨by decide, rfl, rfl, inlX5, by decide, rfl, rfl, rfl⟩
theorem F_5_2 : v_FI 5 2 0 2 RX5 TX5 5 "HalfAccuser$Past" "many" "I" := ⟨by decide, rfl, rfl, inlX5, by decide, rfl, rfl, rfl⟩
theorem P_5_2 : v_FI 5 2 0 2 RX5 TX5 5 "HalfAccuser$Past" "many" "I" ∧ v_FP 2 TX5 5 tyX5 .int := ⟨F_5_2, tyX5_ok, nmX5, rfl, rfl⟩
theorem F_5_3 : v_FI 5 3 0 3 RX5 TX5 5 "HalfAccuser$Past" "ways" "I" := ⟨by decide, rfl, rfl, inlX5, by decide, rfl, rfl, rfl⟩
theorem P_5_3 : v_FI 5 3 0 3 RX5 TX5 5 "HalfAccuser$Past" "ways" "I" ∧ v_FP 3 TX5 5 tyX5 .int := ⟨F_5_3, tyX5_ok, nmX5, rfl, rfl⟩
theorem F_5_4 : v_FI 5 4 0 4 RX5 TX5 5 "HalfAccuser$Past" "always" "I" := ⟨by decide, rfl, rfl, inlX5, by decide, rfl, rfl, rfl⟩
theorem P_5_4 : v_FI 5 4 0 4 RX5 TX5 5 "HalfAccuser$Past" "always" "I" ∧ v_FP 4 TX5 5 tyX5 .int := ⟨F_5_4, tyX5_ok, nmX5, rfl, rfl⟩
theorem F_6_0 : v_FI 6 0 3 6 RX6 TX6 13 "HalfAccuser$Tape" "bytes" "[B" := ⟨by decide, rfl, rfl, inlX6, by decide, rfl, rfl, rfl⟩
theorem F_6_1 : v_FI 6 1 0 1 RX6 TX6 13 "HalfAccuser$Tape" "length" "I" := ⟨by decide, rfl, rfl, inlX6, by decide, rfl, rfl, rfl⟩
theorem P_6_1 : v_FI 6 1 0 1 RX6 TX6 13 "HalfAccuser$Tape" "length" "I" ∧ v_FP 1 TX6 13 tyX6 .int := ⟨F_6_1, tyX6_ok, nmX6, rfl, rfl⟩
theorem F_6_2 : v_FI 6 2 3 7 RX6 TX6 13 "HalfAccuser$Tape" "kinds" "[I" := ⟨by decide, rfl, rfl, inlX6, by decide, rfl, rfl, rfl⟩
theorem F_6_3 : v_FI 6 3 3 8 RX6 TX6 13 "HalfAccuser$Tape" "places" "[I" := ⟨by decide, rfl, rfl, inlX6, by decide, rfl, rfl, rfl⟩
theorem F_6_4 : v_FI 6 4 3 9 RX6 TX6 13 "HalfAccuser$Tape" "values" "[J" := ⟨by decide, rfl, rfl, inlX6, by decide, rfl, rfl, rfl⟩
theorem F_6_5 : v_FI 6 5 0 5 RX6 TX6 13 "HalfAccuser$Tape" "tokens" "I" := ⟨by decide, rfl, rfl, inlX6, by decide, rfl, rfl, rfl⟩
theorem P_6_5 : v_FI 6 5 0 5 RX6 TX6 13 "HalfAccuser$Tape" "tokens" "I" ∧ v_FP 5 TX6 13 tyX6 .int := ⟨F_6_5, tyX6_ok, nmX6, rfl, rfl⟩
theorem F_6_6 : v_FI 6 6 0 6 RX6 TX6 13 "HalfAccuser$Tape" "now" "I" := ⟨by decide, rfl, rfl, inlX6, by decide, rfl, rfl, rfl⟩
theorem P_6_6 : v_FI 6 6 0 6 RX6 TX6 13 "HalfAccuser$Tape" "now" "I" ∧ v_FP 6 TX6 13 tyX6 .int := ⟨F_6_6, tyX6_ok, nmX6, rfl, rfl⟩
theorem F_6_7 : v_FI 6 7 0 7 RX6 TX6 13 "HalfAccuser$Tape" "kind" "I" := ⟨by decide, rfl, rfl, inlX6, by decide, rfl, rfl, rfl⟩
theorem P_6_7 : v_FI 6 7 0 7 RX6 TX6 13 "HalfAccuser$Tape" "kind" "I" ∧ v_FP 7 TX6 13 tyX6 .int := ⟨F_6_7, tyX6_ok, nmX6, rfl, rfl⟩
theorem F_6_8 : v_FI 6 8 0 8 RX6 TX6 13 "HalfAccuser$Tape" "place" "I" := ⟨by decide, rfl, rfl, inlX6, by decide, rfl, rfl, rfl⟩
theorem P_6_8 : v_FI 6 8 0 8 RX6 TX6 13 "HalfAccuser$Tape" "place" "I" ∧ v_FP 8 TX6 13 tyX6 .int := ⟨F_6_8, tyX6_ok, nmX6, rfl, rfl⟩
theorem F_6_9 : v_FI 6 9 1 9 RX6 TX6 13 "HalfAccuser$Tape" "value" "J" := ⟨by decide, rfl, rfl, inlX6, by decide, rfl, rfl, rfl⟩
theorem P_6_9 : v_FI 6 9 1 9 RX6 TX6 13 "HalfAccuser$Tape" "value" "J" ∧ v_FP 9 TX6 13 tyX6 .long := ⟨F_6_9, tyX6_ok, nmX6, rfl, rfl⟩
theorem F_6_10 : v_FI 6 10 1 10 RX6 TX6 13 "HalfAccuser$Tape" "taken" "J" := ⟨by decide, rfl, rfl, inlX6, by decide, rfl, rfl, rfl⟩
theorem P_6_10 : v_FI 6 10 1 10 RX6 TX6 13 "HalfAccuser$Tape" "taken" "J" ∧ v_FP 10 TX6 13 tyX6 .long := ⟨F_6_10, tyX6_ok, nmX6, rfl, rfl⟩
theorem F_6_11 : v_FI 6 11 0 11 RX6 TX6 13 "HalfAccuser$Tape" "fault" "I" := ⟨by decide, rfl, rfl, inlX6, by decide, rfl, rfl, rfl⟩
theorem P_6_11 : v_FI 6 11 0 11 RX6 TX6 13 "HalfAccuser$Tape" "fault" "I" ∧ v_FP 11 TX6 13 tyX6 .int := ⟨F_6_11, tyX6_ok, nmX6, rfl, rfl⟩
theorem F_6_12 : v_FI 6 12 0 12 RX6 TX6 13 "HalfAccuser$Tape" "faultPlace" "I" := ⟨by decide, rfl, rfl, inlX6, by decide, rfl, rfl, rfl⟩
theorem P_6_12 : v_FI 6 12 0 12 RX6 TX6 13 "HalfAccuser$Tape" "faultPlace" "I" ∧ v_FP 12 TX6 13 tyX6 .int := ⟨F_6_12, tyX6_ok, nmX6, rfl, rfl⟩
theorem F_8_0 : v_FI 8 0 2 1 RX8 TX8 9 "HalfAccuser$Years" "words" "[I" := ⟨by decide, rfl, rfl, inlX8, by decide, rfl, rfl, rfl⟩
theorem F_8_1 : v_FI 8 1 2 2 RX8 TX8 9 "HalfAccuser$Years" "firsts" "[I" := ⟨by decide, rfl, rfl, inlX8, by decide, rfl, rfl, rfl⟩
theorem F_8_2 : v_FI 8 2 2 3 RX8 TX8 9 "HalfAccuser$Years" "seconds" "[I" := ⟨by decide, rfl, rfl, inlX8, by decide, rfl, rfl, rfl⟩
theorem F_8_3 : v_FI 8 3 2 4 RX8 TX8 9 "HalfAccuser$Years" "numbers" "[I" := ⟨by decide, rfl, rfl, inlX8, by decide, rfl, rfl, rfl⟩
theorem F_8_4 : v_FI 8 4 2 5 RX8 TX8 9 "HalfAccuser$Years" "partners" "[I" := ⟨by decide, rfl, rfl, inlX8, by decide, rfl, rfl, rfl⟩
theorem F_8_6 : v_FI 8 6 0 6 RX8 TX8 9 "HalfAccuser$Years" "lines" "I" := ⟨by decide, rfl, rfl, inlX8, by decide, rfl, rfl, rfl⟩
theorem P_8_6 : v_FI 8 6 0 6 RX8 TX8 9 "HalfAccuser$Years" "lines" "I" ∧ v_FP 6 TX8 9 tyX8 .int := ⟨F_8_6, tyX8_ok, nmX8, rfl, rfl⟩
theorem F_8_7 : v_FI 8 7 0 7 RX8 TX8 9 "HalfAccuser$Years" "steps" "I" := ⟨by decide, rfl, rfl, inlX8, by decide, rfl, rfl, rfl⟩
theorem P_8_7 : v_FI 8 7 0 7 RX8 TX8 9 "HalfAccuser$Years" "steps" "I" ∧ v_FP 7 TX8 9 tyX8 .int := ⟨F_8_7, tyX8_ok, nmX8, rfl, rfl⟩
theorem F_8_8 : v_FI 8 8 0 8 RX8 TX8 9 "HalfAccuser$Years" "there" "Z" := ⟨by decide, rfl, rfl, inlX8, by decide, rfl, rfl, rfl⟩
theorem P_8_8 : v_FI 8 8 0 8 RX8 TX8 9 "HalfAccuser$Years" "there" "Z" ∧ v_FP 8 TX8 9 tyX8 .boolean := ⟨F_8_8, tyX8_ok, nmX8, rfl, rfl⟩
theorem F_9_0 : v_FI 9 0 3 5 RX9 TX9 6 "HalfAccuser$YearsReader" "tape" "LHalfAccuser$Tape;" := ⟨by decide, rfl, rfl, inlX9, by decide, rfl, rfl, rfl⟩
theorem F_9_1 : v_FI 9 1 3 10 RX9 TX9 6 "HalfAccuser$YearsReader" "city" "LHalfAccuser$City;" := ⟨by decide, rfl, rfl, inlX9, by decide, rfl, rfl, rfl⟩
theorem F_9_2 : v_FI 9 2 3 47 RX9 TX9 6 "HalfAccuser$YearsReader" "draft" "LHalfAccuser$Years;" := ⟨by decide, rfl, rfl, inlX9, by decide, rfl, rfl, rfl⟩
theorem F_9_3 : v_FI 9 3 3 57 RX9 TX9 6 "HalfAccuser$YearsReader" "opened" "[I" := ⟨by decide, rfl, rfl, inlX9, by decide, rfl, rfl, rfl⟩
theorem F_9_4 : v_FI 9 4 0 4 RX9 TX9 6 "HalfAccuser$YearsReader" "depth" "I" := ⟨by decide, rfl, rfl, inlX9, by decide, rfl, rfl, rfl⟩
theorem P_9_4 : v_FI 9 4 0 4 RX9 TX9 6 "HalfAccuser$YearsReader" "depth" "I" ∧ v_FP 4 TX9 6 tyX9 .int := ⟨F_9_4, tyX9_ok, nmX9, rfl, rfl⟩
theorem F_9_5 : v_FI 9 5 0 5 RX9 TX9 6 "HalfAccuser$YearsReader" "named" "I" := ⟨by decide, rfl, rfl, inlX9, by decide, rfl, rfl, rfl⟩
theorem P_9_5 : v_FI 9 5 0 5 RX9 TX9 6 "HalfAccuser$YearsReader" "named" "I" ∧ v_FP 5 TX9 6 tyX9 .int := ⟨F_9_5, tyX9_ok, nmX9, rfl, rfl⟩
theorem F_10_1 : v_FI 10 1 3 5 RX10 TX10 19 "HalfAccuser" "tape" "LHalfAccuser$Tape;" := ⟨by decide, rfl, rfl, inlX10, by decide, rfl, rfl, rfl⟩
theorem F_10_2 : v_FI 10 2 3 10 RX10 TX10 19 "HalfAccuser" "city" "LHalfAccuser$City;" := ⟨by decide, rfl, rfl, inlX10, by decide, rfl, rfl, rfl⟩
theorem F_10_3 : v_FI 10 3 3 32 RX10 TX10 19 "HalfAccuser" "spare" "LHalfAccuser$City;" := ⟨by decide, rfl, rfl, inlX10, by decide, rfl, rfl, rfl⟩
theorem F_10_4 : v_FI 10 4 3 54 RX10 TX10 19 "HalfAccuser" "marks" "[LHalfAccuser$City;" := ⟨by decide, rfl, rfl, inlX10, by decide, rfl, rfl, rfl⟩
theorem F_10_5 : v_FI 10 5 3 55 RX10 TX10 19 "HalfAccuser" "cityReader" "LHalfAccuser$CityReader;" := ⟨by decide, rfl, rfl, inlX10, by decide, rfl, rfl, rfl⟩
theorem F_10_6 : v_FI 10 6 3 56 RX10 TX10 19 "HalfAccuser" "yearsReader" "LHalfAccuser$YearsReader;" := ⟨by decide, rfl, rfl, inlX10, by decide, rfl, rfl, rfl⟩
theorem F_10_7 : v_FI 10 7 3 58 RX10 TX10 19 "HalfAccuser" "hopes" "LHalfAccuser$Hopes;" := ⟨by decide, rfl, rfl, inlX10, by decide, rfl, rfl, rfl⟩
theorem F_10_8 : v_FI 10 8 3 68 RX10 TX10 19 "HalfAccuser" "games" "LHalfAccuser$Games;" := ⟨by decide, rfl, rfl, inlX10, by decide, rfl, rfl, rfl⟩
theorem F_10_9 : v_FI 10 9 3 72 RX10 TX10 19 "HalfAccuser" "past" "LHalfAccuser$Past;" := ⟨by decide, rfl, rfl, inlX10, by decide, rfl, rfl, rfl⟩
theorem F_10_10 : v_FI 10 10 3 74 RX10 TX10 19 "HalfAccuser" "life" "LHalfAccuser$Life;" := ⟨by decide, rfl, rfl, inlX10, by decide, rfl, rfl, rfl⟩
theorem F_10_13 : v_FI 10 13 0 13 RX10 TX10 19 "HalfAccuser" "marked" "I" := ⟨by decide, rfl, rfl, inlX10, by decide, rfl, rfl, rfl⟩
theorem P_10_13 : v_FI 10 13 0 13 RX10 TX10 19 "HalfAccuser" "marked" "I" ∧ v_FP 13 TX10 19 tyX10 .int := ⟨F_10_13, tyX10_ok, nmX10, rfl, rfl⟩
theorem F_10_14 : v_FI 10 14 0 14 RX10 TX10 19 "HalfAccuser" "latestStatus" "I" := ⟨by decide, rfl, rfl, inlX10, by decide, rfl, rfl, rfl⟩
theorem P_10_14 : v_FI 10 14 0 14 RX10 TX10 19 "HalfAccuser" "latestStatus" "I" ∧ v_FP 14 TX10 19 tyX10 .int := ⟨F_10_14, tyX10_ok, nmX10, rfl, rfl⟩
theorem F_10_15 : v_FI 10 15 0 15 RX10 TX10 19 "HalfAccuser" "latestFault" "I" := ⟨by decide, rfl, rfl, inlX10, by decide, rfl, rfl, rfl⟩
theorem P_10_15 : v_FI 10 15 0 15 RX10 TX10 19 "HalfAccuser" "latestFault" "I" ∧ v_FP 15 TX10 19 tyX10 .int := ⟨F_10_15, tyX10_ok, nmX10, rfl, rfl⟩
theorem F_10_16 : v_FI 10 16 0 16 RX10 TX10 19 "HalfAccuser" "latestFaultPlace" "I" := ⟨by decide, rfl, rfl, inlX10, by decide, rfl, rfl, rfl⟩
theorem P_10_16 : v_FI 10 16 0 16 RX10 TX10 19 "HalfAccuser" "latestFaultPlace" "I" ∧ v_FP 16 TX10 19 tyX10 .int := ⟨F_10_16, tyX10_ok, nmX10, rfl, rfl⟩
theorem F_10_17 : v_FI 10 17 1 17 RX10 TX10 19 "HalfAccuser" "fractionTop" "J" := ⟨by decide, rfl, rfl, inlX10, by decide, rfl, rfl, rfl⟩
theorem P_10_17 : v_FI 10 17 1 17 RX10 TX10 19 "HalfAccuser" "fractionTop" "J" ∧ v_FP 17 TX10 19 tyX10 .long := ⟨F_10_17, tyX10_ok, nmX10, rfl, rfl⟩
theorem F_10_18 : v_FI 10 18 1 18 RX10 TX10 19 "HalfAccuser" "fractionBottom" "J" := ⟨by decide, rfl, rfl, inlX10, by decide, rfl, rfl, rfl⟩
theorem P_10_18 : v_FI 10 18 1 18 RX10 TX10 19 "HalfAccuser" "fractionBottom" "J" ∧ v_FP 18 TX10 19 tyX10 .long := ⟨F_10_18, tyX10_ok, nmX10, rfl, rfl⟩
theorem KV_J6_bitCount_0f7a4 : v_KS yJ6_bitCount_0f7a4 cJ6_bitCount_0f7a4 1 (some .int) 1 := ⟨v_r37 _ (List.mem_of_getElem? (i := 0) rfl), v_r37 _ (List.mem_of_getElem? (i := 1) rfl), v_r37 _ (List.mem_of_getElem? (i := 2) rfl), by decide +kernel⟩
theorem KV_J7_fill_d0a16 : v_KS yJ7_fill_d0a16 cJ7_fill_d0a16 5 none 2 := ⟨v_r25 _ (List.mem_of_getElem? (i := 17) rfl), v_r3 _ (List.mem_of_getElem? (i := 15) rfl), v_r25 _ (List.mem_of_getElem? (i := 18) rfl), by decide +kernel⟩
theorem KV_L_feed : v_KS yL_feed cL_feed 3 none 2 := ⟨v_r10 _ (List.mem_of_getElem? (i := 23) rfl), v_r8 _ (List.mem_of_getElem? (i := 10) rfl), v_r11 _ (List.mem_of_getElem? (i := 0) rfl), by decide +kernel⟩
theorem KV_L_four : v_KS yL_four cL_four 2 (some .int) 2 := ⟨v_r11 _ (List.mem_of_getElem? (i := 2) rfl), v_r8 _ (List.mem_of_getElem? (i := 10) rfl), v_r11 _ (List.mem_of_getElem? (i := 3) rfl), by decide +kernel⟩
theorem KV_L_load : v_KS yL_load cL_load 3 (some .int) 2 := ⟨v_r12 _ (List.mem_of_getElem? (i := 1) rfl), v_r8 _ (List.mem_of_getElem? (i := 10) rfl), v_r12 _ (List.mem_of_getElem? (i := 2) rfl), by decide +kernel⟩
theorem KV_L_name : v_KS yL_name cL_name 4 none 4 := ⟨v_r11 _ (List.mem_of_getElem? (i := 22) rfl), v_r8 _ (List.mem_of_getElem? (i := 10) rfl), v_r11 _ (List.mem_of_getElem? (i := 23) rfl), by decide +kernel⟩
theorem KV_L_number : v_KS yL_number cL_number 3 none 3 := ⟨v_r11 _ (List.mem_of_getElem? (i := 19) rfl), v_r8 _ (List.mem_of_getElem? (i := 10) rfl), v_r11 _ (List.mem_of_getElem? (i := 20) rfl), by decide +kernel⟩
theorem KV_L_put : v_KS yL_put cL_put 3 none 3 := ⟨v_r10 _ (List.mem_of_getElem? (i := 20) rfl), v_r8 _ (List.mem_of_getElem? (i := 10) rfl), v_r10 _ (List.mem_of_getElem? (i := 21) rfl), by decide +kernel⟩
theorem KV_L_say : v_KS yL_say cL_say 4 none 3 := ⟨v_r8 _ (List.mem_of_getElem? (i := 16) rfl), v_r8 _ (List.mem_of_getElem? (i := 10) rfl), v_r8 _ (List.mem_of_getElem? (i := 17) rfl), by decide +kernel⟩
theorem KV_X0_addDeed : v_KV RX0 yX0_addDeed cX0_addDeed 7 (some .int) 4 := ⟨v_r18 _ (List.mem_of_getElem? (i := 12) rfl), v_r18 _ (List.mem_of_getElem? (i := 13) rfl), v_r1 _ (List.mem_of_getElem? (i := 20) rfl), v_r18 _ (List.mem_of_getElem? (i := 14) rfl), by decide +kernel⟩
theorem KV_X0_addPerson : v_KV RX0 yX0_addPerson cX0_addPerson 4 (some .int) 1 := ⟨v_r17 _ (List.mem_of_getElem? (i := 14) rfl), v_r17 _ (List.mem_of_getElem? (i := 15) rfl), v_r1 _ (List.mem_of_getElem? (i := 20) rfl), v_r17 _ (List.mem_of_getElem? (i := 16) rfl), by decide +kernel⟩
theorem KV_X0_chanceOf : v_KV RX0 yX0_chanceOf cX0_chanceOf 3 (some .int) 2 := ⟨v_r26 _ (List.mem_of_getElem? (i := 13) rfl), v_r26 _ (List.mem_of_getElem? (i := 14) rfl), v_r1 _ (List.mem_of_getElem? (i := 20) rfl), v_r26 _ (List.mem_of_getElem? (i := 15) rfl), by decide +kernel⟩
theorem KV_X0_clear : v_KV RX0 yX0_clear cX0_clear 1 none 0 := ⟨v_r5 _ (List.mem_of_getElem? (i := 9) rfl), v_r5 _ (List.mem_of_getElem? (i := 10) rfl), v_r1 _ (List.mem_of_getElem? (i := 20) rfl), v_r5 _ (List.mem_of_getElem? (i := 11) rfl), by decide +kernel⟩
theorem KV_X0_copyFrom : v_KV RX0 yX0_copyFrom cX0_copyFrom 2 none 1 := ⟨v_r18 _ (List.mem_of_getElem? (i := 22) rfl), v_r18 _ (List.mem_of_getElem? (i := 23) rfl), v_r1 _ (List.mem_of_getElem? (i := 20) rfl), v_r19 _ (List.mem_of_getElem? (i := 0) rfl), by decide +kernel⟩
theorem KV_X0_decide : v_KV RX0 yX0_decide cX0_decide 6 (some .int) 3 := ⟨v_r42 _ (List.mem_of_getElem? (i := 16) rfl), v_r42 _ (List.mem_of_getElem? (i := 17) rfl), v_r1 _ (List.mem_of_getElem? (i := 20) rfl), v_r42 _ (List.mem_of_getElem? (i := 18) rfl), by decide +kernel⟩
theorem KV_X0_deedBy : v_KV RX0 yX0_deedBy cX0_deedBy 4 (some .int) 1 := ⟨v_r17 _ (List.mem_of_getElem? (i := 10) rfl), v_r17 _ (List.mem_of_getElem? (i := 11) rfl), v_r1 _ (List.mem_of_getElem? (i := 20) rfl), v_r17 _ (List.mem_of_getElem? (i := 12) rfl), by decide +kernel⟩
theorem KV_X0_deedFact : v_KV RX0 yX0_deedFact cX0_deedFact 3 (some .int) 2 := ⟨v_r30 _ (List.mem_of_getElem? (i := 10) rfl), v_r30 _ (List.mem_of_getElem? (i := 11) rfl), v_r1 _ (List.mem_of_getElem? (i := 20) rfl), v_r30 _ (List.mem_of_getElem? (i := 12) rfl), by decide +kernel⟩
theorem KV_X0_deedsOf : v_KV RX0 yX0_deedsOf cX0_deedsOf 4 (some .int) 1 := ⟨v_r24 _ (List.mem_of_getElem? (i := 11) rfl), v_r24 _ (List.mem_of_getElem? (i := 12) rfl), v_r1 _ (List.mem_of_getElem? (i := 20) rfl), v_r24 _ (List.mem_of_getElem? (i := 13) rfl), by decide +kernel⟩
theorem KV_X0_deedsThat : v_KV RX0 yX0_deedsThat cX0_deedsThat 4 (some .int) 1 := ⟨v_r23 _ (List.mem_of_getElem? (i := 7) rfl), v_r23 _ (List.mem_of_getElem? (i := 8) rfl), v_r1 _ (List.mem_of_getElem? (i := 20) rfl), v_r23 _ (List.mem_of_getElem? (i := 9) rfl), by decide +kernel⟩
theorem KV_X0_fact : v_KV RX0 yX0_fact cX0_fact 2 (some .int) 1 := ⟨v_r23 _ (List.mem_of_getElem? (i := 3) rfl), v_r23 _ (List.mem_of_getElem? (i := 4) rfl), v_r1 _ (List.mem_of_getElem? (i := 20) rfl), v_r23 _ (List.mem_of_getElem? (i := 5) rfl), by decide +kernel⟩
theorem KV_X0_fillTreasury : v_KV RX0 yX0_fillTreasury cX0_fillTreasury 2 none 1 := ⟨v_r43 _ (List.mem_of_getElem? (i := 5) rfl), v_r43 _ (List.mem_of_getElem? (i := 6) rfl), v_r1 _ (List.mem_of_getElem? (i := 20) rfl), v_r43 _ (List.mem_of_getElem? (i := 7) rfl), by decide +kernel⟩
theorem KV_X0_give : v_KV RX0 yX0_give cX0_give 3 none 2 := ⟨v_r42 _ (List.mem_of_getElem? (i := 21) rfl), v_r42 _ (List.mem_of_getElem? (i := 22) rfl), v_r1 _ (List.mem_of_getElem? (i := 20) rfl), v_r42 _ (List.mem_of_getElem? (i := 23) rfl), by decide +kernel⟩
theorem KV_X0_hasDeed : v_KV RX0 yX0_hasDeed cX0_hasDeed 2 (some .boolean) 1 := ⟨v_r28 _ (List.mem_of_getElem? (i := 6) rfl), v_r28 _ (List.mem_of_getElem? (i := 7) rfl), v_r1 _ (List.mem_of_getElem? (i := 20) rfl), v_r28 _ (List.mem_of_getElem? (i := 8) rfl), by decide +kernel⟩
theorem KV_X0_hasPerson : v_KV RX0 yX0_hasPerson cX0_hasPerson 2 (some .boolean) 1 := ⟨v_r24 _ (List.mem_of_getElem? (i := 3) rfl), v_r24 _ (List.mem_of_getElem? (i := 4) rfl), v_r1 _ (List.mem_of_getElem? (i := 20) rfl), v_r24 _ (List.mem_of_getElem? (i := 5) rfl), by decide +kernel⟩
theorem KV_X0_isOpen : v_KV RX0 yX0_isOpen cX0_isOpen 2 (some .boolean) 1 := ⟨v_r27 _ (List.mem_of_getElem? (i := 5) rfl), v_r27 _ (List.mem_of_getElem? (i := 6) rfl), v_r1 _ (List.mem_of_getElem? (i := 20) rfl), v_r27 _ (List.mem_of_getElem? (i := 7) rfl), by decide +kernel⟩
theorem KV_X0_isOwn : v_KV RX0 yX0_isOwn cX0_isOwn 3 (some .boolean) 2 := ⟨v_r24 _ (List.mem_of_getElem? (i := 15) rfl), v_r24 _ (List.mem_of_getElem? (i := 16) rfl), v_r1 _ (List.mem_of_getElem? (i := 20) rfl), v_r24 _ (List.mem_of_getElem? (i := 17) rfl), by decide +kernel⟩
theorem KV_X0_isRuined : v_KV RX0 yX0_isRuined cX0_isRuined 2 (some .boolean) 1 := ⟨v_r23 _ (List.mem_of_getElem? (i := 15) rfl), v_r23 _ (List.mem_of_getElem? (i := 16) rfl), v_r1 _ (List.mem_of_getElem? (i := 20) rfl), v_r23 _ (List.mem_of_getElem? (i := 17) rfl), by decide +kernel⟩
theorem KV_X0_isSet : v_KV RX0 yX0_isSet cX0_isSet 2 (some .boolean) 1 := ⟨v_r38 _ (List.mem_of_getElem? (i := 20) rfl), v_r38 _ (List.mem_of_getElem? (i := 21) rfl), v_r1 _ (List.mem_of_getElem? (i := 20) rfl), v_r38 _ (List.mem_of_getElem? (i := 22) rfl), by decide +kernel⟩
theorem KV_X0_mayCharge : v_KV RX0 yX0_mayCharge cX0_mayCharge 3 (some .boolean) 2 := ⟨v_r27 _ (List.mem_of_getElem? (i := 1) rfl), v_r27 _ (List.mem_of_getElem? (i := 2) rfl), v_r1 _ (List.mem_of_getElem? (i := 20) rfl), v_r27 _ (List.mem_of_getElem? (i := 3) rfl), by decide +kernel⟩
theorem KV_X0_mayDrop : v_KV RX0 yX0_mayDrop cX0_mayDrop 4 (some .boolean) 3 := ⟨v_r43 _ (List.mem_of_getElem? (i := 23) rfl), v_r44 _ (List.mem_of_getElem? (i := 0) rfl), v_r1 _ (List.mem_of_getElem? (i := 20) rfl), v_r44 _ (List.mem_of_getElem? (i := 1) rfl), by decide +kernel⟩
theorem KV_X0_openAgain : v_KV RX0 yX0_openAgain cX0_openAgain 3 none 1 := ⟨v_r44 _ (List.mem_of_getElem? (i := 12) rfl), v_r44 _ (List.mem_of_getElem? (i := 13) rfl), v_r1 _ (List.mem_of_getElem? (i := 20) rfl), v_r44 _ (List.mem_of_getElem? (i := 14) rfl), by decide +kernel⟩
theorem KV_X0_openDeeds : v_KV RX0 yX0_openDeeds cX0_openDeeds 1 (some .int) 0 := ⟨v_r24 _ (List.mem_of_getElem? (i := 23) rfl), v_r25 _ (List.mem_of_getElem? (i := 0) rfl), v_r1 _ (List.mem_of_getElem? (i := 20) rfl), v_r25 _ (List.mem_of_getElem? (i := 1) rfl), by decide +kernel⟩
theorem KV_X0_partOf : v_KS yX0_partOf cX0_partOf 2 (some .int) 2 := ⟨v_r26 _ (List.mem_of_getElem? (i := 22) rfl), v_r1 _ (List.mem_of_getElem? (i := 20) rfl), v_r26 _ (List.mem_of_getElem? (i := 23) rfl), by decide +kernel⟩
theorem KV_X0_personBy : v_KV RX0 yX0_personBy cX0_personBy 4 (some .int) 1 := ⟨v_r17 _ (List.mem_of_getElem? (i := 6) rfl), v_r17 _ (List.mem_of_getElem? (i := 7) rfl), v_r1 _ (List.mem_of_getElem? (i := 20) rfl), v_r17 _ (List.mem_of_getElem? (i := 8) rfl), by decide +kernel⟩
theorem KV_X0_personFact : v_KV RX0 yX0_personFact cX0_personFact 3 (some .int) 2 := ⟨v_r24 _ (List.mem_of_getElem? (i := 7) rfl), v_r24 _ (List.mem_of_getElem? (i := 8) rfl), v_r1 _ (List.mem_of_getElem? (i := 20) rfl), v_r24 _ (List.mem_of_getElem? (i := 9) rfl), by decide +kernel⟩
theorem KV_X0_ruinedPeople : v_KV RX0 yX0_ruinedPeople cX0_ruinedPeople 3 (some .int) 0 := ⟨v_r23 _ (List.mem_of_getElem? (i := 11) rfl), v_r23 _ (List.mem_of_getElem? (i := 12) rfl), v_r1 _ (List.mem_of_getElem? (i := 20) rfl), v_r23 _ (List.mem_of_getElem? (i := 13) rfl), by decide +kernel⟩
theorem KV_X0_ruleOf : v_KV RX0 yX0_ruleOf cX0_ruleOf 2 (some .int) 1 := ⟨v_r23 _ (List.mem_of_getElem? (i := 19) rfl), v_r23 _ (List.mem_of_getElem? (i := 20) rfl), v_r1 _ (List.mem_of_getElem? (i := 20) rfl), v_r23 _ (List.mem_of_getElem? (i := 21) rfl), by decide +kernel⟩
theorem KV_X0_settle : v_KV RX0 yX0_settle cX0_settle 4 none 3 := ⟨v_r44 _ (List.mem_of_getElem? (i := 4) rfl), v_r44 _ (List.mem_of_getElem? (i := 5) rfl), v_r1 _ (List.mem_of_getElem? (i := 20) rfl), v_r44 _ (List.mem_of_getElem? (i := 6) rfl), by decide +kernel⟩
theorem KV_X10_areThere : v_KV RX10 yX10_areThere cX10_areThere 3 (some .boolean) 2 := ⟨v_r31 _ (List.mem_of_getElem? (i := 6) rfl), v_r31 _ (List.mem_of_getElem? (i := 7) rfl), v_r1 _ (List.mem_of_getElem? (i := 2) rfl), v_r31 _ (List.mem_of_getElem? (i := 8) rfl), by decide +kernel⟩
theorem KV_X10_at : v_KS yX10_at cX10_at 2 (some .int) 2 := ⟨v_r14 _ (List.mem_of_getElem? (i := 21) rfl), v_r1 _ (List.mem_of_getElem? (i := 2) rfl), v_r14 _ (List.mem_of_getElem? (i := 22) rfl), by decide +kernel⟩
theorem KV_X10_at_ : v_KS yX10_at_ cX10_at_ 2 (some .long) 2 := ⟨v_r14 _ (List.mem_of_getElem? (i := 23) rfl), v_r1 _ (List.mem_of_getElem? (i := 2) rfl), v_r15 _ (List.mem_of_getElem? (i := 0) rfl), by decide +kernel⟩
theorem KV_X10_city : v_KV RX10 yX10_city cX10_city 2 (some .int) 1 := ⟨v_r12 _ (List.mem_of_getElem? (i := 4) rfl), v_r12 _ (List.mem_of_getElem? (i := 5) rfl), v_r1 _ (List.mem_of_getElem? (i := 2) rfl), v_r12 _ (List.mem_of_getElem? (i := 6) rfl), by decide +kernel⟩
theorem KV_X10_commonDivisor : v_KS yX10_commonDivisor cX10_commonDivisor 11 (some .long) 2 := ⟨v_r32 _ (List.mem_of_getElem? (i := 15) rfl), v_r1 _ (List.mem_of_getElem? (i := 2) rfl), v_r32 _ (List.mem_of_getElem? (i := 16) rfl), by decide +kernel⟩
theorem KV_X10_copy : v_KS yX10_copy cX10_copy 2 none 2 := ⟨v_r5 _ (List.mem_of_getElem? (i := 16) rfl), v_r1 _ (List.mem_of_getElem? (i := 2) rfl), v_r5 _ (List.mem_of_getElem? (i := 17) rfl), by decide +kernel⟩
theorem KV_X10_copy_ : v_KS yX10_copy_ cX10_copy_ 2 none 2 := ⟨v_r19 _ (List.mem_of_getElem? (i := 1) rfl), v_r1 _ (List.mem_of_getElem? (i := 2) rfl), v_r19 _ (List.mem_of_getElem? (i := 2) rfl), by decide +kernel⟩
theorem KV_X10_feed : v_KV RX10 yX10_feed cX10_feed 6 (some .int) 5 := ⟨v_r11 _ (List.mem_of_getElem? (i := 5) rfl), v_r11 _ (List.mem_of_getElem? (i := 6) rfl), v_r1 _ (List.mem_of_getElem? (i := 2) rfl), v_r11 _ (List.mem_of_getElem? (i := 7) rfl), by decide +kernel⟩
theorem KV_X10_gameStatus : v_KV RX10 yX10_gameStatus cX10_gameStatus 5 (some .int) 4 := ⟨v_r40 _ (List.mem_of_getElem? (i := 5) rfl), v_r40 _ (List.mem_of_getElem? (i := 6) rfl), v_r1 _ (List.mem_of_getElem? (i := 2) rfl), v_r40 _ (List.mem_of_getElem? (i := 7) rfl), by decide +kernel⟩
theorem KV_X10_isIn : v_KS yX10_isIn cX10_isIn 2 (some .boolean) 2 := ⟨v_r15 _ (List.mem_of_getElem? (i := 17) rfl), v_r1 _ (List.mem_of_getElem? (i := 2) rfl), v_r15 _ (List.mem_of_getElem? (i := 18) rfl), by decide +kernel⟩
theorem KV_X10_limited : v_KS yX10_limited cX10_limited 2 (some .int) 2 := ⟨v_r26 _ (List.mem_of_getElem? (i := 16) rfl), v_r1 _ (List.mem_of_getElem? (i := 2) rfl), v_r26 _ (List.mem_of_getElem? (i := 17) rfl), by decide +kernel⟩
theorem KV_X10_meanStatus : v_KV RX10 yX10_meanStatus cX10_meanStatus 4 (some .int) 2 := ⟨v_r33 _ (List.mem_of_getElem? (i := 11) rfl), v_r33 _ (List.mem_of_getElem? (i := 12) rfl), v_r1 _ (List.mem_of_getElem? (i := 2) rfl), v_r33 _ (List.mem_of_getElem? (i := 13) rfl), by decide +kernel⟩
theorem KV_X10_pastStatus : v_KV RX10 yX10_pastStatus cX10_pastStatus 3 (some .int) 2 := ⟨v_r36 _ (List.mem_of_getElem? (i := 14) rfl), v_r36 _ (List.mem_of_getElem? (i := 15) rfl), v_r1 _ (List.mem_of_getElem? (i := 2) rfl), v_r36 _ (List.mem_of_getElem? (i := 16) rfl), by decide +kernel⟩
theorem KV_X10_put : v_KS yX10_put cX10_put 3 none 3 := ⟨v_r13 _ (List.mem_of_getElem? (i := 23) rfl), v_r1 _ (List.mem_of_getElem? (i := 2) rfl), v_r14 _ (List.mem_of_getElem? (i := 0) rfl), by decide +kernel⟩
theorem KV_X10_put_ : v_KS yX10_put_ cX10_put_ 4 none 3 := ⟨v_r14 _ (List.mem_of_getElem? (i := 1) rfl), v_r1 _ (List.mem_of_getElem? (i := 2) rfl), v_r14 _ (List.mem_of_getElem? (i := 2) rfl), by decide +kernel⟩
theorem KV_X10_refused : v_KV RX10 yX10_refused cX10_refused 2 (some .int) 1 := ⟨v_r12 _ (List.mem_of_getElem? (i := 9) rfl), v_r12 _ (List.mem_of_getElem? (i := 10) rfl), v_r1 _ (List.mem_of_getElem? (i := 2) rfl), v_r12 _ (List.mem_of_getElem? (i := 11) rfl), by decide +kernel⟩
theorem KV_X10_seen : v_KV RX10 yX10_seen cX10_seen 1 (some (.object "HalfAccuser$Hopes")) 0 := ⟨v_r25 _ (List.mem_of_getElem? (i := 3) rfl), v_r25 _ (List.mem_of_getElem? (i := 4) rfl), v_r1 _ (List.mem_of_getElem? (i := 2) rfl), v_r25 _ (List.mem_of_getElem? (i := 5) rfl), by decide +kernel⟩
theorem KV_X10_settled : v_KV RX10 yX10_settled cX10_settled 2 (some .boolean) 1 := ⟨v_r31 _ (List.mem_of_getElem? (i := 20) rfl), v_r31 _ (List.mem_of_getElem? (i := 21) rfl), v_r1 _ (List.mem_of_getElem? (i := 2) rfl), v_r31 _ (List.mem_of_getElem? (i := 22) rfl), by decide +kernel⟩
theorem KV_X10_tell : v_KV RX10 yX10_tell cX10_tell 7 (some .boolean) 2 := ⟨v_r32 _ (List.mem_of_getElem? (i := 7) rfl), v_r32 _ (List.mem_of_getElem? (i := 8) rfl), v_r1 _ (List.mem_of_getElem? (i := 2) rfl), v_r32 _ (List.mem_of_getElem? (i := 9) rfl), by decide +kernel⟩
theorem KV_X10_tellFault : v_KV RX10 yX10_tellFault cX10_tellFault 2 (some .boolean) 1 := ⟨v_r18 _ (List.mem_of_getElem? (i := 16) rfl), v_r18 _ (List.mem_of_getElem? (i := 17) rfl), v_r1 _ (List.mem_of_getElem? (i := 2) rfl), v_r18 _ (List.mem_of_getElem? (i := 18) rfl), by decide +kernel⟩
theorem KV_X10_told : v_KV RX10 yX10_told cX10_told 2 (some .int) 1 := ⟨v_r19 _ (List.mem_of_getElem? (i := 8) rfl), v_r19 _ (List.mem_of_getElem? (i := 9) rfl), v_r1 _ (List.mem_of_getElem? (i := 2) rfl), v_r19 _ (List.mem_of_getElem? (i := 10) rfl), by decide +kernel⟩
theorem KV_X10_toldIfAny : v_KV RX10 yX10_toldIfAny cX10_toldIfAny 2 (some .int) 1 := ⟨v_r29 _ (List.mem_of_getElem? (i := 1) rfl), v_r29 _ (List.mem_of_getElem? (i := 2) rfl), v_r1 _ (List.mem_of_getElem? (i := 2) rfl), v_r29 _ (List.mem_of_getElem? (i := 3) rfl), by decide +kernel⟩
theorem KV_X10_voteStatus : v_KV RX10 yX10_voteStatus cX10_voteStatus 3 (some .int) 2 := ⟨v_r31 _ (List.mem_of_getElem? (i := 15) rfl), v_r31 _ (List.mem_of_getElem? (i := 16) rfl), v_r1 _ (List.mem_of_getElem? (i := 2) rfl), v_r31 _ (List.mem_of_getElem? (i := 17) rfl), by decide +kernel⟩
theorem KV_X10_years : v_KV RX10 yX10_years cX10_years 2 (some .int) 1 := ⟨v_r19 _ (List.mem_of_getElem? (i := 12) rfl), v_r19 _ (List.mem_of_getElem? (i := 13) rfl), v_r1 _ (List.mem_of_getElem? (i := 2) rfl), v_r19 _ (List.mem_of_getElem? (i := 14) rfl), by decide +kernel⟩
theorem KV_X1_readDeed : v_KV RX1 yX1_readDeed cX1_readDeed 5 (some .boolean) 0 := ⟨v_r18 _ (List.mem_of_getElem? (i := 7) rfl), v_r18 _ (List.mem_of_getElem? (i := 8) rfl), v_r2 _ (List.mem_of_getElem? (i := 2) rfl), v_r18 _ (List.mem_of_getElem? (i := 9) rfl), by decide +kernel⟩
theorem KV_X1_readPerson : v_KV RX1 yX1_readPerson cX1_readPerson 2 (some .boolean) 0 := ⟨v_r16 _ (List.mem_of_getElem? (i := 17) rfl), v_r16 _ (List.mem_of_getElem? (i := 18) rfl), v_r2 _ (List.mem_of_getElem? (i := 2) rfl), v_r16 _ (List.mem_of_getElem? (i := 19) rfl), by decide +kernel⟩
theorem KV_X1_readRule : v_KV RX1 yX1_readRule cX1_readRule 2 (some .boolean) 1 := ⟨v_r15 _ (List.mem_of_getElem? (i := 13) rfl), v_r15 _ (List.mem_of_getElem? (i := 14) rfl), v_r2 _ (List.mem_of_getElem? (i := 2) rfl), v_r15 _ (List.mem_of_getElem? (i := 15) rfl), by decide +kernel⟩
theorem KV_X1_readText : v_KV RX1 yX1_readText cX1_readText 4 (some .boolean) 0 := ⟨v_r15 _ (List.mem_of_getElem? (i := 2) rfl), v_r15 _ (List.mem_of_getElem? (i := 3) rfl), v_r2 _ (List.mem_of_getElem? (i := 2) rfl), v_r15 _ (List.mem_of_getElem? (i := 4) rfl), by decide +kernel⟩
theorem KV_X1_takeNewName : v_KV RX1 yX1_takeNewName cX1_takeNewName 1 (some .boolean) 0 := ⟨v_r17 _ (List.mem_of_getElem? (i := 1) rfl), v_r17 _ (List.mem_of_getElem? (i := 2) rfl), v_r2 _ (List.mem_of_getElem? (i := 2) rfl), v_r17 _ (List.mem_of_getElem? (i := 3) rfl), by decide +kernel⟩
theorem KV_X1_takeWordAndNumber : v_KV RX1 yX1_takeWordAndNumber cX1_takeWordAndNumber 4 (some .boolean) 3 := ⟨v_r17 _ (List.mem_of_getElem? (i := 22) rfl), v_r17 _ (List.mem_of_getElem? (i := 23) rfl), v_r2 _ (List.mem_of_getElem? (i := 2) rfl), v_r18 _ (List.mem_of_getElem? (i := 0) rfl), by decide +kernel⟩
theorem KV_X2_firstMove : v_KV RX2 yX2_firstMove cX2_firstMove 4 (some .int) 0 := ⟨v_r41 _ (List.mem_of_getElem? (i := 10) rfl), v_r41 _ (List.mem_of_getElem? (i := 11) rfl), v_r2 _ (List.mem_of_getElem? (i := 15) rfl), v_r41 _ (List.mem_of_getElem? (i := 12) rfl), by decide +kernel⟩
theorem KV_X2_leavers : v_KV RX2 yX2_leavers cX2_leavers 7 (some .int) 1 := ⟨v_r39 _ (List.mem_of_getElem? (i := 10) rfl), v_r39 _ (List.mem_of_getElem? (i := 11) rfl), v_r2 _ (List.mem_of_getElem? (i := 15) rfl), v_r39 _ (List.mem_of_getElem? (i := 12) rfl), by decide +kernel⟩
theorem KV_X2_outcome : v_KV RX2 yX2_outcome cX2_outcome 1 (some .long) 0 := ⟨v_r40 _ (List.mem_of_getElem? (i := 19) rfl), v_r40 _ (List.mem_of_getElem? (i := 20) rfl), v_r2 _ (List.mem_of_getElem? (i := 15) rfl), v_r40 _ (List.mem_of_getElem? (i := 21) rfl), by decide +kernel⟩
theorem KV_X2_play : v_KS yX2_play cX2_play 9 (some .long) 3 := ⟨v_r40 _ (List.mem_of_getElem? (i := 23) rfl), v_r2 _ (List.mem_of_getElem? (i := 15) rfl), v_r41 _ (List.mem_of_getElem? (i := 0) rfl), by decide +kernel⟩
theorem KV_X2_setClub : v_KV RX2 yX2_setClub cX2_setClub 2 none 0 := ⟨v_r39 _ (List.mem_of_getElem? (i := 0) rfl), v_r39 _ (List.mem_of_getElem? (i := 1) rfl), v_r2 _ (List.mem_of_getElem? (i := 15) rfl), v_r39 _ (List.mem_of_getElem? (i := 2) rfl), by decide +kernel⟩
theorem KV_X2_setGame : v_KV RX2 yX2_setGame cX2_setGame 5 none 3 := ⟨v_r40 _ (List.mem_of_getElem? (i := 9) rfl), v_r40 _ (List.mem_of_getElem? (i := 10) rfl), v_r2 _ (List.mem_of_getElem? (i := 15) rfl), v_r40 _ (List.mem_of_getElem? (i := 11) rfl), by decide +kernel⟩
theorem KV_X2_stayers : v_KV RX2 yX2_stayers cX2_stayers 5 (some .int) 1 := ⟨v_r39 _ (List.mem_of_getElem? (i := 6) rfl), v_r39 _ (List.mem_of_getElem? (i := 7) rfl), v_r2 _ (List.mem_of_getElem? (i := 15) rfl), v_r39 _ (List.mem_of_getElem? (i := 8) rfl), by decide +kernel⟩
theorem KV_X2_sumOfDreads : v_KV RX2 yX2_sumOfDreads cX2_sumOfDreads 5 (some .long) 1 := ⟨v_r39 _ (List.mem_of_getElem? (i := 14) rfl), v_r39 _ (List.mem_of_getElem? (i := 15) rfl), v_r2 _ (List.mem_of_getElem? (i := 15) rfl), v_r39 _ (List.mem_of_getElem? (i := 16) rfl), by decide +kernel⟩
theorem KV_X3_bestAccuser : v_KV RX3 yX3_bestAccuser cX3_bestAccuser 8 (some .int) 1 := ⟨v_r28 _ (List.mem_of_getElem? (i := 10) rfl), v_r28 _ (List.mem_of_getElem? (i := 11) rfl), v_r2 _ (List.mem_of_getElem? (i := 11) rfl), v_r28 _ (List.mem_of_getElem? (i := 12) rfl), by decide +kernel⟩
theorem KV_X3_bestDeed : v_KV RX3 yX3_bestDeed cX3_bestDeed 8 (some .int) 1 := ⟨v_r34 _ (List.mem_of_getElem? (i := 15) rfl), v_r34 _ (List.mem_of_getElem? (i := 16) rfl), v_r2 _ (List.mem_of_getElem? (i := 11) rfl), v_r34 _ (List.mem_of_getElem? (i := 17) rfl), by decide +kernel⟩
theorem KV_X3_bestSum : v_KV RX3 yX3_bestSum cX3_bestSum 6 (some .long) 2 := ⟨v_r34 _ (List.mem_of_getElem? (i := 23) rfl), v_r35 _ (List.mem_of_getElem? (i := 0) rfl), v_r2 _ (List.mem_of_getElem? (i := 11) rfl), v_r35 _ (List.mem_of_getElem? (i := 1) rfl), by decide +kernel⟩
theorem KV_X3_cellOf : v_KS yX3_cellOf cX3_cellOf 2 (some .int) 2 := ⟨v_r26 _ (List.mem_of_getElem? (i := 10) rfl), v_r2 _ (List.mem_of_getElem? (i := 11) rfl), v_r26 _ (List.mem_of_getElem? (i := 11) rfl), by decide +kernel⟩
theorem KV_X3_dreadOf : v_KV RX3 yX3_dreadOf cX3_dreadOf 5 (some .long) 1 := ⟨v_r38 _ (List.mem_of_getElem? (i := 12) rfl), v_r38 _ (List.mem_of_getElem? (i := 13) rfl), v_r2 _ (List.mem_of_getElem? (i := 11) rfl), v_r38 _ (List.mem_of_getElem? (i := 14) rfl), by decide +kernel⟩
theorem KV_X3_fewestCoins : v_KV RX3 yX3_fewestCoins cX3_fewestCoins 5 (some .int) 2 := ⟨v_r34 _ (List.mem_of_getElem? (i := 2) rfl), v_r34 _ (List.mem_of_getElem? (i := 3) rfl), v_r2 _ (List.mem_of_getElem? (i := 11) rfl), v_r34 _ (List.mem_of_getElem? (i := 4) rfl), by decide +kernel⟩
theorem KV_X3_gainOf : v_KV RX3 yX3_gainOf cX3_gainOf 3 (some .long) 2 := ⟨v_r28 _ (List.mem_of_getElem? (i := 21) rfl), v_r28 _ (List.mem_of_getElem? (i := 22) rfl), v_r2 _ (List.mem_of_getElem? (i := 11) rfl), v_r28 _ (List.mem_of_getElem? (i := 23) rfl), by decide +kernel⟩
theorem KV_X3_gainToHave : v_KV RX3 yX3_gainToHave cX3_gainToHave 3 (some .long) 2 := ⟨v_r28 _ (List.mem_of_getElem? (i := 14) rfl), v_r28 _ (List.mem_of_getElem? (i := 15) rfl), v_r2 _ (List.mem_of_getElem? (i := 11) rfl), v_r28 _ (List.mem_of_getElem? (i := 16) rfl), by decide +kernel⟩
theorem KV_X3_gladSet : v_KV RX3 yX3_gladSet cX3_gladSet 5 (some .int) 2 := ⟨v_r27 _ (List.mem_of_getElem? (i := 10) rfl), v_r27 _ (List.mem_of_getElem? (i := 11) rfl), v_r2 _ (List.mem_of_getElem? (i := 11) rfl), v_r27 _ (List.mem_of_getElem? (i := 12) rfl), by decide +kernel⟩
theorem KV_X3_isAnyGlad : v_KV RX3 yX3_isAnyGlad cX3_isAnyGlad 6 (some .boolean) 3 := ⟨v_r27 _ (List.mem_of_getElem? (i := 14) rfl), v_r27 _ (List.mem_of_getElem? (i := 15) rfl), v_r2 _ (List.mem_of_getElem? (i := 11) rfl), v_r27 _ (List.mem_of_getElem? (i := 16) rfl), by decide +kernel⟩
theorem KV_X3_isWithin : v_KV RX3 yX3_isWithin cX3_isWithin 3 (some .boolean) 2 := ⟨v_r27 _ (List.mem_of_getElem? (i := 18) rfl), v_r27 _ (List.mem_of_getElem? (i := 19) rfl), v_r2 _ (List.mem_of_getElem? (i := 11) rfl), v_r27 _ (List.mem_of_getElem? (i := 20) rfl), by decide +kernel⟩
theorem KV_X3_leastGladFine : v_KV RX3 yX3_leastGladFine cX3_leastGladFine 4 (some .int) 1 := ⟨v_r30 _ (List.mem_of_getElem? (i := 1) rfl), v_r30 _ (List.mem_of_getElem? (i := 2) rfl), v_r2 _ (List.mem_of_getElem? (i := 11) rfl), v_r30 _ (List.mem_of_getElem? (i := 3) rfl), by decide +kernel⟩
theorem KV_X3_leastGladShare : v_KV RX3 yX3_leastGladShare cX3_leastGladShare 4 (some .int) 1 := ⟨v_r29 _ (List.mem_of_getElem? (i := 9) rfl), v_r29 _ (List.mem_of_getElem? (i := 10) rfl), v_r2 _ (List.mem_of_getElem? (i := 11) rfl), v_r29 _ (List.mem_of_getElem? (i := 11) rfl), by decide +kernel⟩
theorem KV_X3_lossOf : v_KV RX3 yX3_lossOf cX3_lossOf 3 (some .long) 2 := ⟨v_r30 _ (List.mem_of_getElem? (i := 22) rfl), v_r30 _ (List.mem_of_getElem? (i := 23) rfl), v_r2 _ (List.mem_of_getElem? (i := 11) rfl), v_r31 _ (List.mem_of_getElem? (i := 0) rfl), by decide +kernel⟩
theorem KV_X3_mildestAccuser : v_KV RX3 yX3_mildestAccuser cX3_mildestAccuser 6 (some .int) 1 := ⟨v_r30 _ (List.mem_of_getElem? (i := 18) rfl), v_r30 _ (List.mem_of_getElem? (i := 19) rfl), v_r2 _ (List.mem_of_getElem? (i := 11) rfl), v_r30 _ (List.mem_of_getElem? (i := 20) rfl), by decide +kernel⟩
theorem KV_X3_mostCoins : v_KV RX3 yX3_mostCoins cX3_mostCoins 3 (some .int) 2 := ⟨v_r34 _ (List.mem_of_getElem? (i := 7) rfl), v_r34 _ (List.mem_of_getElem? (i := 8) rfl), v_r2 _ (List.mem_of_getElem? (i := 11) rfl), v_r34 _ (List.mem_of_getElem? (i := 9) rfl), by decide +kernel⟩
theorem KV_X3_mostGladPenalty : v_KV RX3 yX3_mostGladPenalty cX3_mostGladPenalty 4 (some .int) 1 := ⟨v_r29 _ (List.mem_of_getElem? (i := 17) rfl), v_r29 _ (List.mem_of_getElem? (i := 18) rfl), v_r2 _ (List.mem_of_getElem? (i := 11) rfl), v_r29 _ (List.mem_of_getElem? (i := 19) rfl), by decide +kernel⟩
theorem KV_X3_see : v_KV RX3 yX3_see cX3_see 3 none 0 := ⟨v_r25 _ (List.mem_of_getElem? (i := 7) rfl), v_r25 _ (List.mem_of_getElem? (i := 8) rfl), v_r2 _ (List.mem_of_getElem? (i := 11) rfl), v_r25 _ (List.mem_of_getElem? (i := 9) rfl), by decide +kernel⟩
theorem KV_X3_seeCharge : v_KV RX3 yX3_seeCharge cX3_seeCharge 10 none 2 := ⟨v_r26 _ (List.mem_of_getElem? (i := 5) rfl), v_r26 _ (List.mem_of_getElem? (i := 6) rfl), v_r2 _ (List.mem_of_getElem? (i := 11) rfl), v_r26 _ (List.mem_of_getElem? (i := 7) rfl), by decide +kernel⟩
theorem KV_X3_sortIn : v_KV RX3 yX3_sortIn cX3_sortIn 5 none 2 := ⟨v_r35 _ (List.mem_of_getElem? (i := 3) rfl), v_r35 _ (List.mem_of_getElem? (i := 4) rfl), v_r2 _ (List.mem_of_getElem? (i := 11) rfl), v_r35 _ (List.mem_of_getElem? (i := 5) rfl), by decide +kernel⟩
theorem KV_X3_waysToOwe : v_KV RX3 yX3_waysToOwe cX3_waysToOwe 5 (some .long) 0 := ⟨v_r26 _ (List.mem_of_getElem? (i := 1) rfl), v_r26 _ (List.mem_of_getElem? (i := 2) rfl), v_r2 _ (List.mem_of_getElem? (i := 11) rfl), v_r26 _ (List.mem_of_getElem? (i := 3) rfl), by decide +kernel⟩
theorem KV_X3_waysToWin : v_KV RX3 yX3_waysToWin cX3_waysToWin 5 (some .long) 0 := ⟨v_r25 _ (List.mem_of_getElem? (i := 21) rfl), v_r25 _ (List.mem_of_getElem? (i := 22) rfl), v_r2 _ (List.mem_of_getElem? (i := 11) rfl), v_r25 _ (List.mem_of_getElem? (i := 23) rfl), by decide +kernel⟩
theorem KV_X3_weigh : v_KV RX3 yX3_weigh cX3_weigh 4 none 1 := ⟨v_r25 _ (List.mem_of_getElem? (i := 13) rfl), v_r25 _ (List.mem_of_getElem? (i := 14) rfl), v_r2 _ (List.mem_of_getElem? (i := 11) rfl), v_r25 _ (List.mem_of_getElem? (i := 15) rfl), by decide +kernel⟩
theorem KV_X3_whole : v_KV RX3 yX3_whole cX3_whole 1 (some .long) 0 := ⟨v_r32 _ (List.mem_of_getElem? (i := 3) rfl), v_r32 _ (List.mem_of_getElem? (i := 4) rfl), v_r2 _ (List.mem_of_getElem? (i := 11) rfl), v_r32 _ (List.mem_of_getElem? (i := 5) rfl), by decide +kernel⟩
theorem KV_X3_worstDeed : v_KV RX3 yX3_worstDeed cX3_worstDeed 8 (some .int) 1 := ⟨v_r37 _ (List.mem_of_getElem? (i := 23) rfl), v_r38 _ (List.mem_of_getElem? (i := 0) rfl), v_r2 _ (List.mem_of_getElem? (i := 11) rfl), v_r38 _ (List.mem_of_getElem? (i := 1) rfl), by decide +kernel⟩
theorem KV_X3_worstLoss : v_KV RX3 yX3_worstLoss cX3_worstLoss 5 (some .long) 1 := ⟨v_r38 _ (List.mem_of_getElem? (i := 4) rfl), v_r38 _ (List.mem_of_getElem? (i := 5) rfl), v_r2 _ (List.mem_of_getElem? (i := 11) rfl), v_r38 _ (List.mem_of_getElem? (i := 6) rfl), by decide +kernel⟩
theorem KV_X4_draw : v_KV RX4 yX4_draw cX4_draw 2 (some .int) 1 := ⟨v_r42 _ (List.mem_of_getElem? (i := 11) rfl), v_r42 _ (List.mem_of_getElem? (i := 12) rfl), v_r2 _ (List.mem_of_getElem? (i := 23) rfl), v_r42 _ (List.mem_of_getElem? (i := 13) rfl), by decide +kernel⟩
theorem KV_X4_jury : v_KV RX4 yX4_jury cX4_jury 7 (some .int) 3 := ⟨v_r42 _ (List.mem_of_getElem? (i := 5) rfl), v_r42 _ (List.mem_of_getElem? (i := 6) rfl), v_r2 _ (List.mem_of_getElem? (i := 23) rfl), v_r42 _ (List.mem_of_getElem? (i := 7) rfl), by decide +kernel⟩
theorem KV_X4_sow : v_KV RX4 yX4_sow cX4_sow 2 none 1 := ⟨v_r42 _ (List.mem_of_getElem? (i := 0) rfl), v_r42 _ (List.mem_of_getElem? (i := 1) rfl), v_r2 _ (List.mem_of_getElem? (i := 23) rfl), v_r42 _ (List.mem_of_getElem? (i := 2) rfl), by decide +kernel⟩
theorem KV_X5_choices : v_KS yX5_choices cX5_choices 4 (some .int) 2 := ⟨v_r37 _ (List.mem_of_getElem? (i := 11) rfl), v_r2 _ (List.mem_of_getElem? (i := 19) rfl), v_r37 _ (List.mem_of_getElem? (i := 12) rfl), by decide +kernel⟩
theorem KV_X5_gather : v_KV RX5 yX5_gather cX5_gather 3 none 1 := ⟨v_r35 _ (List.mem_of_getElem? (i := 16) rfl), v_r35 _ (List.mem_of_getElem? (i := 17) rfl), v_r2 _ (List.mem_of_getElem? (i := 19) rfl), v_r35 _ (List.mem_of_getElem? (i := 18) rfl), by decide +kernel⟩
theorem KV_X5_least : v_KV RX5 yX5_least cX5_least 2 (some .int) 1 := ⟨v_r36 _ (List.mem_of_getElem? (i := 5) rfl), v_r36 _ (List.mem_of_getElem? (i := 6) rfl), v_r2 _ (List.mem_of_getElem? (i := 19) rfl), v_r36 _ (List.mem_of_getElem? (i := 7) rfl), by decide +kernel⟩
theorem KV_X5_look : v_KV RX5 yX5_look cX5_look 7 none 2 := ⟨v_r36 _ (List.mem_of_getElem? (i := 18) rfl), v_r36 _ (List.mem_of_getElem? (i := 19) rfl), v_r2 _ (List.mem_of_getElem? (i := 19) rfl), v_r36 _ (List.mem_of_getElem? (i := 20) rfl), by decide +kernel⟩
theorem KV_X5_most : v_KV RX5 yX5_most cX5_most 4 (some .int) 1 := ⟨v_r35 _ (List.mem_of_getElem? (i := 11) rfl), v_r35 _ (List.mem_of_getElem? (i := 12) rfl), v_r2 _ (List.mem_of_getElem? (i := 19) rfl), v_r35 _ (List.mem_of_getElem? (i := 13) rfl), by decide +kernel⟩
theorem KV_X5_prize : v_KV RX5 yX5_prize cX5_prize 2 (some .int) 1 := ⟨v_r35 _ (List.mem_of_getElem? (i := 22) rfl), v_r35 _ (List.mem_of_getElem? (i := 23) rfl), v_r2 _ (List.mem_of_getElem? (i := 19) rfl), v_r36 _ (List.mem_of_getElem? (i := 0) rfl), by decide +kernel⟩
theorem KV_X5_waysToPay : v_KV RX5 yX5_waysToPay cX5_waysToPay 4 (some .int) 2 := ⟨v_r37 _ (List.mem_of_getElem? (i := 7) rfl), v_r37 _ (List.mem_of_getElem? (i := 8) rfl), v_r2 _ (List.mem_of_getElem? (i := 19) rfl), v_r37 _ (List.mem_of_getElem? (i := 9) rfl), by decide +kernel⟩
theorem KV_X6_add : v_KV RX6 yX6_add cX6_add 3 none 1 := ⟨v_r11 _ (List.mem_of_getElem? (i := 15) rfl), v_r11 _ (List.mem_of_getElem? (i := 16) rfl), v_r1 _ (List.mem_of_getElem? (i := 16) rfl), v_r11 _ (List.mem_of_getElem? (i := 17) rfl), by decide +kernel⟩
theorem KV_X6_addNumber : v_KV RX6 yX6_addNumber cX6_addNumber 5 none 2 := ⟨v_r14 _ (List.mem_of_getElem? (i := 10) rfl), v_r14 _ (List.mem_of_getElem? (i := 11) rfl), v_r1 _ (List.mem_of_getElem? (i := 16) rfl), v_r14 _ (List.mem_of_getElem? (i := 12) rfl), by decide +kernel⟩
theorem KV_X6_addToken : v_KV RX6 yX6_addToken cX6_addToken 5 none 3 := ⟨v_r13 _ (List.mem_of_getElem? (i := 20) rfl), v_r13 _ (List.mem_of_getElem? (i := 21) rfl), v_r1 _ (List.mem_of_getElem? (i := 16) rfl), v_r13 _ (List.mem_of_getElem? (i := 22) rfl), by decide +kernel⟩
theorem KV_X6_addWord : v_KV RX6 yX6_addWord cX6_addWord 4 none 2 := ⟨v_r13 _ (List.mem_of_getElem? (i := 10) rfl), v_r13 _ (List.mem_of_getElem? (i := 11) rfl), v_r1 _ (List.mem_of_getElem? (i := 16) rfl), v_r13 _ (List.mem_of_getElem? (i := 12) rfl), by decide +kernel⟩
theorem KV_X6_blame : v_KV RX6 yX6_blame cX6_blame 2 (some .boolean) 1 := ⟨v_r15 _ (List.mem_of_getElem? (i := 20) rfl), v_r15 _ (List.mem_of_getElem? (i := 21) rfl), v_r1 _ (List.mem_of_getElem? (i := 16) rfl), v_r15 _ (List.mem_of_getElem? (i := 22) rfl), by decide +kernel⟩
theorem KV_X6_byteAt : v_KV RX6 yX6_byteAt cX6_byteAt 2 (some .int) 1 := ⟨v_r12 _ (List.mem_of_getElem? (i := 20) rfl), v_r12 _ (List.mem_of_getElem? (i := 21) rfl), v_r1 _ (List.mem_of_getElem? (i := 16) rfl), v_r12 _ (List.mem_of_getElem? (i := 22) rfl), by decide +kernel⟩
theorem KV_X6_hasRoom : v_KV RX6 yX6_hasRoom cX6_hasRoom 1 (some .boolean) 0 := ⟨v_r11 _ (List.mem_of_getElem? (i := 10) rfl), v_r11 _ (List.mem_of_getElem? (i := 11) rfl), v_r1 _ (List.mem_of_getElem? (i := 16) rfl), v_r11 _ (List.mem_of_getElem? (i := 12) rfl), by decide +kernel⟩
theorem KV_X6_isDigit : v_KS yX6_isDigit cX6_isDigit 1 (some .boolean) 1 := ⟨v_r13 _ (List.mem_of_getElem? (i := 7) rfl), v_r1 _ (List.mem_of_getElem? (i := 16) rfl), v_r13 _ (List.mem_of_getElem? (i := 8) rfl), by decide +kernel⟩
theorem KV_X6_isLetter : v_KS yX6_isLetter cX6_isLetter 1 (some .boolean) 1 := ⟨v_r13 _ (List.mem_of_getElem? (i := 0) rfl), v_r1 _ (List.mem_of_getElem? (i := 16) rfl), v_r13 _ (List.mem_of_getElem? (i := 1) rfl), by decide +kernel⟩
theorem KV_X6_isWord : v_KV RX6 yX6_isWord cX6_isWord 2 (some .boolean) 1 := ⟨v_r17 _ (List.mem_of_getElem? (i := 18) rfl), v_r17 _ (List.mem_of_getElem? (i := 19) rfl), v_r1 _ (List.mem_of_getElem? (i := 16) rfl), v_r17 _ (List.mem_of_getElem? (i := 20) rfl), by decide +kernel⟩
theorem KV_X6_keywordOf : v_KV RX6 yX6_keywordOf cX6_keywordOf 8 (some .int) 2 := ⟨v_r13 _ (List.mem_of_getElem? (i := 14) rfl), v_r13 _ (List.mem_of_getElem? (i := 15) rfl), v_r1 _ (List.mem_of_getElem? (i := 16) rfl), v_r13 _ (List.mem_of_getElem? (i := 16) rfl), by decide +kernel⟩
theorem KV_X6_nameOf : v_KV RX6 yX6_nameOf cX6_nameOf 6 (some .long) 2 := ⟨v_r14 _ (List.mem_of_getElem? (i := 4) rfl), v_r14 _ (List.mem_of_getElem? (i := 5) rfl), v_r1 _ (List.mem_of_getElem? (i := 16) rfl), v_r14 _ (List.mem_of_getElem? (i := 6) rfl), by decide +kernel⟩
theorem KV_X6_number : v_KV RX6 yX6_number cX6_number 1 (some .int) 0 := ⟨v_r16 _ (List.mem_of_getElem? (i := 8) rfl), v_r16 _ (List.mem_of_getElem? (i := 9) rfl), v_r1 _ (List.mem_of_getElem? (i := 16) rfl), v_r16 _ (List.mem_of_getElem? (i := 10) rfl), by decide +kernel⟩
theorem KV_X6_pass : v_KV RX6 yX6_pass cX6_pass 1 none 0 := ⟨v_r14 _ (List.mem_of_getElem? (i := 14) rfl), v_r14 _ (List.mem_of_getElem? (i := 15) rfl), v_r1 _ (List.mem_of_getElem? (i := 16) rfl), v_r14 _ (List.mem_of_getElem? (i := 16) rfl), by decide +kernel⟩
theorem KV_X6_runEnd : v_KV RX6 yX6_runEnd cX6_runEnd 5 (some .int) 3 := ⟨v_r13 _ (List.mem_of_getElem? (i := 3) rfl), v_r13 _ (List.mem_of_getElem? (i := 4) rfl), v_r1 _ (List.mem_of_getElem? (i := 16) rfl), v_r13 _ (List.mem_of_getElem? (i := 5) rfl), by decide +kernel⟩
theorem KV_X6_split : v_KV RX6 yX6_split cX6_split 6 none 1 := ⟨v_r12 _ (List.mem_of_getElem? (i := 14) rfl), v_r12 _ (List.mem_of_getElem? (i := 15) rfl), v_r1 _ (List.mem_of_getElem? (i := 16) rfl), v_r12 _ (List.mem_of_getElem? (i := 16) rfl), by decide +kernel⟩
theorem KV_X6_takeNumber : v_KV RX6 yX6_takeNumber cX6_takeNumber 3 (some .boolean) 2 := ⟨v_r16 _ (List.mem_of_getElem? (i := 3) rfl), v_r16 _ (List.mem_of_getElem? (i := 4) rfl), v_r1 _ (List.mem_of_getElem? (i := 16) rfl), v_r16 _ (List.mem_of_getElem? (i := 5) rfl), by decide +kernel⟩
theorem KV_X6_takeSemicolon : v_KV RX6 yX6_takeSemicolon cX6_takeSemicolon 1 (some .boolean) 0 := ⟨v_r16 _ (List.mem_of_getElem? (i := 12) rfl), v_r16 _ (List.mem_of_getElem? (i := 13) rfl), v_r1 _ (List.mem_of_getElem? (i := 16) rfl), v_r16 _ (List.mem_of_getElem? (i := 14) rfl), by decide +kernel⟩
theorem KV_X6_takeWord : v_KV RX6 yX6_takeWord cX6_takeWord 2 (some .boolean) 1 := ⟨v_r18 _ (List.mem_of_getElem? (i := 2) rfl), v_r18 _ (List.mem_of_getElem? (i := 3) rfl), v_r1 _ (List.mem_of_getElem? (i := 16) rfl), v_r18 _ (List.mem_of_getElem? (i := 4) rfl), by decide +kernel⟩
theorem KV_X6_wordNow : v_KV RX6 yX6_wordNow cX6_wordNow 1 (some .int) 0 := ⟨v_r15 _ (List.mem_of_getElem? (i := 9) rfl), v_r15 _ (List.mem_of_getElem? (i := 10) rfl), v_r1 _ (List.mem_of_getElem? (i := 16) rfl), v_r15 _ (List.mem_of_getElem? (i := 11) rfl), by decide +kernel⟩
theorem KV_X8_add : v_KV RX8 yX8_add cX8_add 6 (some .int) 4 := ⟨v_r20 _ (List.mem_of_getElem? (i := 7) rfl), v_r20 _ (List.mem_of_getElem? (i := 8) rfl), v_r4 _ (List.mem_of_getElem? (i := 21) rfl), v_r20 _ (List.mem_of_getElem? (i := 9) rfl), by decide +kernel⟩
theorem KV_X8_clear : v_KV RX8 yX8_clear cX8_clear 1 none 0 := ⟨v_r6 _ (List.mem_of_getElem? (i := 3) rfl), v_r6 _ (List.mem_of_getElem? (i := 4) rfl), v_r4 _ (List.mem_of_getElem? (i := 21) rfl), v_r6 _ (List.mem_of_getElem? (i := 5) rfl), by decide +kernel⟩
theorem KV_X8_copyFrom : v_KV RX8 yX8_copyFrom cX8_copyFrom 2 none 1 := ⟨v_r19 _ (List.mem_of_getElem? (i := 4) rfl), v_r19 _ (List.mem_of_getElem? (i := 5) rfl), v_r4 _ (List.mem_of_getElem? (i := 21) rfl), v_r19 _ (List.mem_of_getElem? (i := 6) rfl), by decide +kernel⟩
theorem KV_X8_join : v_KV RX8 yX8_join cX8_join 3 none 2 := ⟨v_r20 _ (List.mem_of_getElem? (i := 11) rfl), v_r20 _ (List.mem_of_getElem? (i := 12) rfl), v_r4 _ (List.mem_of_getElem? (i := 21) rfl), v_r20 _ (List.mem_of_getElem? (i := 13) rfl), by decide +kernel⟩
theorem KV_X9_beginsStep : v_KS yX9_beginsStep cX9_beginsStep 1 (some .boolean) 1 := ⟨v_r20 _ (List.mem_of_getElem? (i := 23) rfl), v_r2 _ (List.mem_of_getElem? (i := 6) rfl), v_r21 _ (List.mem_of_getElem? (i := 0) rfl), by decide +kernel⟩
theorem KV_X9_deedNow : v_KV RX9 yX9_deedNow cX9_deedNow 1 (some .int) 0 := ⟨v_r21 _ (List.mem_of_getElem? (i := 17) rfl), v_r21 _ (List.mem_of_getElem? (i := 18) rfl), v_r2 _ (List.mem_of_getElem? (i := 6) rfl), v_r21 _ (List.mem_of_getElem? (i := 19) rfl), by decide +kernel⟩
theorem KV_X9_open : v_KV RX9 yX9_open cX9_open 2 none 1 := ⟨v_r22 _ (List.mem_of_getElem? (i := 14) rfl), v_r22 _ (List.mem_of_getElem? (i := 15) rfl), v_r2 _ (List.mem_of_getElem? (i := 6) rfl), v_r22 _ (List.mem_of_getElem? (i := 16) rfl), by decide +kernel⟩
theorem KV_X9_personNow : v_KV RX9 yX9_personNow cX9_personNow 1 (some .int) 0 := ⟨v_r21 _ (List.mem_of_getElem? (i := 7) rfl), v_r21 _ (List.mem_of_getElem? (i := 8) rfl), v_r2 _ (List.mem_of_getElem? (i := 6) rfl), v_r21 _ (List.mem_of_getElem? (i := 9) rfl), by decide +kernel⟩
theorem KV_X9_readCharge : v_KV RX9 yX9_readCharge cX9_readCharge 2 (some .boolean) 0 := ⟨v_r21 _ (List.mem_of_getElem? (i := 2) rfl), v_r21 _ (List.mem_of_getElem? (i := 3) rfl), v_r2 _ (List.mem_of_getElem? (i := 6) rfl), v_r21 _ (List.mem_of_getElem? (i := 4) rfl), by decide +kernel⟩
theorem KV_X9_readDrop : v_KV RX9 yX9_readDrop cX9_readDrop 2 (some .boolean) 0 := ⟨v_r21 _ (List.mem_of_getElem? (i := 22) rfl), v_r21 _ (List.mem_of_getElem? (i := 23) rfl), v_r2 _ (List.mem_of_getElem? (i := 6) rfl), v_r22 _ (List.mem_of_getElem? (i := 0) rfl), by decide +kernel⟩
theorem KV_X9_readEarn : v_KV RX9 yX9_readEarn cX9_readEarn 1 (some .boolean) 0 := ⟨v_r22 _ (List.mem_of_getElem? (i := 5) rfl), v_r22 _ (List.mem_of_getElem? (i := 6) rfl), v_r2 _ (List.mem_of_getElem? (i := 6) rfl), v_r22 _ (List.mem_of_getElem? (i := 7) rfl), by decide +kernel⟩
theorem KV_X9_readEnd : v_KV RX9 yX9_readEnd cX9_readEnd 1 (some .boolean) 0 := ⟨v_r20 _ (List.mem_of_getElem? (i := 2) rfl), v_r20 _ (List.mem_of_getElem? (i := 3) rfl), v_r2 _ (List.mem_of_getElem? (i := 6) rfl), v_r20 _ (List.mem_of_getElem? (i := 4) rfl), by decide +kernel⟩
theorem KV_X9_readLoop : v_KV RX9 yX9_readLoop cX9_readLoop 1 (some .boolean) 0 := ⟨v_r22 _ (List.mem_of_getElem? (i := 18) rfl), v_r22 _ (List.mem_of_getElem? (i := 19) rfl), v_r2 _ (List.mem_of_getElem? (i := 6) rfl), v_r22 _ (List.mem_of_getElem? (i := 20) rfl), by decide +kernel⟩
theorem KV_X9_readStep : v_KV RX9 yX9_readStep cX9_readStep 3 (some .boolean) 0 := ⟨v_r20 _ (List.mem_of_getElem? (i := 17) rfl), v_r20 _ (List.mem_of_getElem? (i := 18) rfl), v_r2 _ (List.mem_of_getElem? (i := 6) rfl), v_r20 _ (List.mem_of_getElem? (i := 19) rfl), by decide +kernel⟩
theorem KV_X9_readTest : v_KV RX9 yX9_readTest cX9_readTest 3 (some .boolean) 0 := ⟨v_r22 _ (List.mem_of_getElem? (i := 9) rfl), v_r22 _ (List.mem_of_getElem? (i := 10) rfl), v_r2 _ (List.mem_of_getElem? (i := 6) rfl), v_r22 _ (List.mem_of_getElem? (i := 11) rfl), by decide +kernel⟩
theorem KV_X9_readText : v_KV RX9 yX9_readText cX9_readText 3 (some .boolean) 0 := ⟨v_r19 _ (List.mem_of_getElem? (i := 17) rfl), v_r19 _ (List.mem_of_getElem? (i := 18) rfl), v_r2 _ (List.mem_of_getElem? (i := 6) rfl), v_r19 _ (List.mem_of_getElem? (i := 19) rfl), by decide +kernel⟩
theorem KV_X9_takeNamed : v_KV RX9 yX9_takeNamed cX9_takeNamed 2 (some .boolean) 1 := ⟨v_r21 _ (List.mem_of_getElem? (i := 13) rfl), v_r21 _ (List.mem_of_getElem? (i := 14) rfl), v_r2 _ (List.mem_of_getElem? (i := 6) rfl), v_r21 _ (List.mem_of_getElem? (i := 15) rfl), by decide +kernel⟩
