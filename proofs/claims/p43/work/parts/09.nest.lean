/-! the words between nest mates: they ride in the state's own facts -/
def nestL : List Cond := [(Cond.methodLinkNest RX10 9 yX5_init RX10), (Cond.methodLinkNest RX5 9 yX8_init RX10), (Cond.fieldLinkNest RX7 31 RX8 "tilts" "[I" RX10), (Cond.fieldLinkNest RX5 137 RX8 "tilts" "[I" RX10), (Cond.fieldLinkNest RX10 110 RX8 "tilts" "[I" RX10), (Cond.fieldLinkNest RX7 44 RX8 "habits" "[I" RX10), (Cond.fieldLinkNest RX5 140 RX8 "habits" "[I" RX10), (Cond.fieldLinkNest RX10 114 RX8 "habits" "[I" RX10), (Cond.fieldLinkNest RX7 17 RX8 "stubborn" "[Z" RX10), (Cond.fieldLinkNest RX10 117 RX8 "stubborn" "[Z" RX10), (Cond.fieldLinkNest RX10 131 RX8 "facts" "[I" RX10), (Cond.fieldLinkNest RX10 134 RX8 "went" "[I" RX10), (Cond.fieldLinkNest RX2 15 RX8 "weights" "[[I" RX10), (Cond.fieldLinkNest RX7 50 RX8 "weights" "[[I" RX10), (Cond.fieldLinkNest RX5 117 RX8 "weights" "[[I" RX10), (Cond.fieldLinkNest RX10 144 RX8 "weights" "[[I" RX10), (Cond.fieldLinkNest RX7 47 RX8 "count" "I" RX10), (Cond.fieldLinkNest RX2 23 RX8 "count" "I" RX10), (Cond.fieldLinkNest RX5 111 RX8 "count" "I" RX10), (Cond.fieldLinkNest RX10 218 RX8 "count" "I" RX10), (Cond.methodLinkNest RX5 18 yX1_init RX10), (Cond.fieldLinkNest RX7 57 RX1 "lows" "[I" RX10), (Cond.fieldLinkNest RX10 155 RX1 "lows" "[I" RX10), (Cond.fieldLinkNest RX7 60 RX1 "highs" "[I" RX10), (Cond.fieldLinkNest RX10 160 RX1 "highs" "[I" RX10), (Cond.fieldLinkNest RX7 63 RX1 "limits" "[I" RX10), (Cond.fieldLinkNest RX10 163 RX1 "limits" "[I" RX10), (Cond.fieldLinkNest RX7 66 RX1 "creaks" "[I" RX10), (Cond.fieldLinkNest RX10 166 RX1 "creaks" "[I" RX10), (Cond.fieldLinkNest RX7 54 RX1 "count" "I" RX10), (Cond.fieldLinkNest RX5 160 RX1 "count" "I" RX10), (Cond.fieldLinkNest RX10 355 RX1 "count" "I" RX10), (Cond.fieldLinkNest RX10 107 RX5 "people" "LPlumbOpinions$People;" RX10), (Cond.fieldLinkNest RX10 151 RX5 "beams" "LPlumbOpinions$Beams;" RX10), (Cond.fieldLinkNest RX10 356 RX5 "rounds" "I" RX10), (Cond.fieldLinkNest RX10 362 RX5 "creaked" "I" RX10), (Cond.fieldLinkNest RX10 365 RX5 "broken" "I" RX10), (Cond.methodLinkNest RX10 24 yX8_init RX10), (Cond.methodLinkNest RX10 31 yX2_init RX10), (Cond.methodLinkNest RX4 15 yX5_init RX10), (Cond.fieldLinkNest RX10 368 RX4 "count" "I" RX10), (Cond.methodLinkNest RX9 23 yX3_init RX10), (Cond.fieldLinkNest RX5 46 RX3 "kind" "LPlumbOpinions$Kind;" RX10), (Cond.fieldLinkNest RX5 81 RX3 "first" "I" RX10), (Cond.fieldLinkNest RX5 102 RX3 "second" "I" RX10), (Cond.fieldLinkNest RX5 105 RX3 "third" "I" RX10), (Cond.fieldLinkNest RX5 99 RX3 "answer" "I" RX10), (Cond.fieldLinkNest RX10 402 RX3 "answer" "I" RX10), (Cond.fieldLinkNest RX10 408 RX3 "reason" "I" RX10), (Cond.fieldLinkNest RX10 411 RX3 "detail" "I" RX10), (Cond.fieldLinkNest RX10 288 RX9 "changes" "[LPlumbOpinions$Change;" RX10), (Cond.fieldLinkNest RX10 369 RX9 "length" "I" RX10), (Cond.fieldLinkNest RX10 285 RX9 "changeCount" "I" RX10), (Cond.methodLinkNest RX10 52 yX3_init RX10), (Cond.methodLinkNest RX10 59 yX7_init RX10), (Cond.fieldLinkNest RX10 339 RX7 "signs" "[C" RX10), (Cond.fieldLinkNest RX10 331 RX7 "length" "I" RX10), (Cond.fieldLinkNest RX9 42 RX6 "ALL" "[LPlumbOpinions$Kind;" RX10), (Cond.fieldLinkNest RX9 48 RX6 "pattern" "Ljava/lang/String;" RX10)]
theorem nest_in : ∀ w ∈ nestL, w ∈ lw_tbl := by decide +kernel
theorem nw_RX10_9 : (Cond.methodLinkNest RX10 9 yX5_init RX10) ∈ nestL := List.mem_of_getElem? (i := 0) rfl
theorem nw_RX5_9 : (Cond.methodLinkNest RX5 9 yX8_init RX10) ∈ nestL := List.mem_of_getElem? (i := 1) rfl
theorem nw_RX7_31 : (Cond.fieldLinkNest RX7 31 RX8 "tilts" "[I" RX10) ∈ nestL := List.mem_of_getElem? (i := 2) rfl
theorem nw_RX5_137 : (Cond.fieldLinkNest RX5 137 RX8 "tilts" "[I" RX10) ∈ nestL := List.mem_of_getElem? (i := 3) rfl
theorem nw_RX10_110 : (Cond.fieldLinkNest RX10 110 RX8 "tilts" "[I" RX10) ∈ nestL := List.mem_of_getElem? (i := 4) rfl
theorem nw_RX7_44 : (Cond.fieldLinkNest RX7 44 RX8 "habits" "[I" RX10) ∈ nestL := List.mem_of_getElem? (i := 5) rfl
theorem nw_RX5_140 : (Cond.fieldLinkNest RX5 140 RX8 "habits" "[I" RX10) ∈ nestL := List.mem_of_getElem? (i := 6) rfl
theorem nw_RX10_114 : (Cond.fieldLinkNest RX10 114 RX8 "habits" "[I" RX10) ∈ nestL := List.mem_of_getElem? (i := 7) rfl
theorem nw_RX7_17 : (Cond.fieldLinkNest RX7 17 RX8 "stubborn" "[Z" RX10) ∈ nestL := List.mem_of_getElem? (i := 8) rfl
theorem nw_RX10_117 : (Cond.fieldLinkNest RX10 117 RX8 "stubborn" "[Z" RX10) ∈ nestL := List.mem_of_getElem? (i := 9) rfl
theorem nw_RX10_131 : (Cond.fieldLinkNest RX10 131 RX8 "facts" "[I" RX10) ∈ nestL := List.mem_of_getElem? (i := 10) rfl
theorem nw_RX10_134 : (Cond.fieldLinkNest RX10 134 RX8 "went" "[I" RX10) ∈ nestL := List.mem_of_getElem? (i := 11) rfl
theorem nw_RX2_15 : (Cond.fieldLinkNest RX2 15 RX8 "weights" "[[I" RX10) ∈ nestL := List.mem_of_getElem? (i := 12) rfl
theorem nw_RX7_50 : (Cond.fieldLinkNest RX7 50 RX8 "weights" "[[I" RX10) ∈ nestL := List.mem_of_getElem? (i := 13) rfl
theorem nw_RX5_117 : (Cond.fieldLinkNest RX5 117 RX8 "weights" "[[I" RX10) ∈ nestL := List.mem_of_getElem? (i := 14) rfl
theorem nw_RX10_144 : (Cond.fieldLinkNest RX10 144 RX8 "weights" "[[I" RX10) ∈ nestL := List.mem_of_getElem? (i := 15) rfl
theorem nw_RX7_47 : (Cond.fieldLinkNest RX7 47 RX8 "count" "I" RX10) ∈ nestL := List.mem_of_getElem? (i := 16) rfl
theorem nw_RX2_23 : (Cond.fieldLinkNest RX2 23 RX8 "count" "I" RX10) ∈ nestL := List.mem_of_getElem? (i := 17) rfl
theorem nw_RX5_111 : (Cond.fieldLinkNest RX5 111 RX8 "count" "I" RX10) ∈ nestL := List.mem_of_getElem? (i := 18) rfl
theorem nw_RX10_218 : (Cond.fieldLinkNest RX10 218 RX8 "count" "I" RX10) ∈ nestL := List.mem_of_getElem? (i := 19) rfl
theorem nw_RX5_18 : (Cond.methodLinkNest RX5 18 yX1_init RX10) ∈ nestL := List.mem_of_getElem? (i := 20) rfl
theorem nw_RX7_57 : (Cond.fieldLinkNest RX7 57 RX1 "lows" "[I" RX10) ∈ nestL := List.mem_of_getElem? (i := 21) rfl
theorem nw_RX10_155 : (Cond.fieldLinkNest RX10 155 RX1 "lows" "[I" RX10) ∈ nestL := List.mem_of_getElem? (i := 22) rfl
theorem nw_RX7_60 : (Cond.fieldLinkNest RX7 60 RX1 "highs" "[I" RX10) ∈ nestL := List.mem_of_getElem? (i := 23) rfl
theorem nw_RX10_160 : (Cond.fieldLinkNest RX10 160 RX1 "highs" "[I" RX10) ∈ nestL := List.mem_of_getElem? (i := 24) rfl
theorem nw_RX7_63 : (Cond.fieldLinkNest RX7 63 RX1 "limits" "[I" RX10) ∈ nestL := List.mem_of_getElem? (i := 25) rfl
theorem nw_RX10_163 : (Cond.fieldLinkNest RX10 163 RX1 "limits" "[I" RX10) ∈ nestL := List.mem_of_getElem? (i := 26) rfl
theorem nw_RX7_66 : (Cond.fieldLinkNest RX7 66 RX1 "creaks" "[I" RX10) ∈ nestL := List.mem_of_getElem? (i := 27) rfl
theorem nw_RX10_166 : (Cond.fieldLinkNest RX10 166 RX1 "creaks" "[I" RX10) ∈ nestL := List.mem_of_getElem? (i := 28) rfl
theorem nw_RX7_54 : (Cond.fieldLinkNest RX7 54 RX1 "count" "I" RX10) ∈ nestL := List.mem_of_getElem? (i := 29) rfl
theorem nw_RX5_160 : (Cond.fieldLinkNest RX5 160 RX1 "count" "I" RX10) ∈ nestL := List.mem_of_getElem? (i := 30) rfl
theorem nw_RX10_355 : (Cond.fieldLinkNest RX10 355 RX1 "count" "I" RX10) ∈ nestL := List.mem_of_getElem? (i := 31) rfl
theorem nw_RX10_107 : (Cond.fieldLinkNest RX10 107 RX5 "people" "LPlumbOpinions$People;" RX10) ∈ nestL := List.mem_of_getElem? (i := 32) rfl
theorem nw_RX10_151 : (Cond.fieldLinkNest RX10 151 RX5 "beams" "LPlumbOpinions$Beams;" RX10) ∈ nestL := List.mem_of_getElem? (i := 33) rfl
theorem nw_RX10_356 : (Cond.fieldLinkNest RX10 356 RX5 "rounds" "I" RX10) ∈ nestL := List.mem_of_getElem? (i := 34) rfl
theorem nw_RX10_362 : (Cond.fieldLinkNest RX10 362 RX5 "creaked" "I" RX10) ∈ nestL := List.mem_of_getElem? (i := 35) rfl
theorem nw_RX10_365 : (Cond.fieldLinkNest RX10 365 RX5 "broken" "I" RX10) ∈ nestL := List.mem_of_getElem? (i := 36) rfl
theorem nw_RX10_24 : (Cond.methodLinkNest RX10 24 yX8_init RX10) ∈ nestL := List.mem_of_getElem? (i := 37) rfl
theorem nw_RX10_31 : (Cond.methodLinkNest RX10 31 yX2_init RX10) ∈ nestL := List.mem_of_getElem? (i := 38) rfl
theorem nw_RX4_15 : (Cond.methodLinkNest RX4 15 yX5_init RX10) ∈ nestL := List.mem_of_getElem? (i := 39) rfl
theorem nw_RX10_368 : (Cond.fieldLinkNest RX10 368 RX4 "count" "I" RX10) ∈ nestL := List.mem_of_getElem? (i := 40) rfl
theorem nw_RX9_23 : (Cond.methodLinkNest RX9 23 yX3_init RX10) ∈ nestL := List.mem_of_getElem? (i := 41) rfl
theorem nw_RX5_46 : (Cond.fieldLinkNest RX5 46 RX3 "kind" "LPlumbOpinions$Kind;" RX10) ∈ nestL := List.mem_of_getElem? (i := 42) rfl
theorem nw_RX5_81 : (Cond.fieldLinkNest RX5 81 RX3 "first" "I" RX10) ∈ nestL := List.mem_of_getElem? (i := 43) rfl
theorem nw_RX5_102 : (Cond.fieldLinkNest RX5 102 RX3 "second" "I" RX10) ∈ nestL := List.mem_of_getElem? (i := 44) rfl
theorem nw_RX5_105 : (Cond.fieldLinkNest RX5 105 RX3 "third" "I" RX10) ∈ nestL := List.mem_of_getElem? (i := 45) rfl
theorem nw_RX5_99 : (Cond.fieldLinkNest RX5 99 RX3 "answer" "I" RX10) ∈ nestL := List.mem_of_getElem? (i := 46) rfl
theorem nw_RX10_402 : (Cond.fieldLinkNest RX10 402 RX3 "answer" "I" RX10) ∈ nestL := List.mem_of_getElem? (i := 47) rfl
theorem nw_RX10_408 : (Cond.fieldLinkNest RX10 408 RX3 "reason" "I" RX10) ∈ nestL := List.mem_of_getElem? (i := 48) rfl
theorem nw_RX10_411 : (Cond.fieldLinkNest RX10 411 RX3 "detail" "I" RX10) ∈ nestL := List.mem_of_getElem? (i := 49) rfl
theorem nw_RX10_288 : (Cond.fieldLinkNest RX10 288 RX9 "changes" "[LPlumbOpinions$Change;" RX10) ∈ nestL := List.mem_of_getElem? (i := 50) rfl
theorem nw_RX10_369 : (Cond.fieldLinkNest RX10 369 RX9 "length" "I" RX10) ∈ nestL := List.mem_of_getElem? (i := 51) rfl
theorem nw_RX10_285 : (Cond.fieldLinkNest RX10 285 RX9 "changeCount" "I" RX10) ∈ nestL := List.mem_of_getElem? (i := 52) rfl
theorem nw_RX10_52 : (Cond.methodLinkNest RX10 52 yX3_init RX10) ∈ nestL := List.mem_of_getElem? (i := 53) rfl
theorem nw_RX10_59 : (Cond.methodLinkNest RX10 59 yX7_init RX10) ∈ nestL := List.mem_of_getElem? (i := 54) rfl
theorem nw_RX10_339 : (Cond.fieldLinkNest RX10 339 RX7 "signs" "[C" RX10) ∈ nestL := List.mem_of_getElem? (i := 55) rfl
theorem nw_RX10_331 : (Cond.fieldLinkNest RX10 331 RX7 "length" "I" RX10) ∈ nestL := List.mem_of_getElem? (i := 56) rfl
theorem nw_RX9_42 : (Cond.fieldLinkNest RX9 42 RX6 "ALL" "[LPlumbOpinions$Kind;" RX10) ∈ nestL := List.mem_of_getElem? (i := 57) rfl
theorem nw_RX9_48 : (Cond.fieldLinkNest RX9 48 RX6 "pattern" "Ljava/lang/String;" RX10) ∈ nestL := List.mem_of_getElem? (i := 58) rfl
