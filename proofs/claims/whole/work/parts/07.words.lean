theorem tw0 : Cond.selects RX10 yX10_layText yX10_layText ∈ tb := tb_at 0 (by decide +kernel) (by decide +kernel)
theorem tw1 : Cond.selects RX8 yX8_readItem yX8_readItem ∈ tb := tb_at 1 (by decide +kernel) (by decide +kernel)
theorem tw2 : Cond.selects RX8 yX8_take yX8_take ∈ tb := tb_at 2 (by decide +kernel) (by decide +kernel)
theorem tw3 : Cond.selects RX8 yX8_readSizes yX8_readSizes ∈ tb := tb_at 3 (by decide +kernel) (by decide +kernel)
theorem tw4 : Cond.selects RX8 yX8_readNumbers yX8_readNumbers ∈ tb := tb_at 4 (by decide +kernel) (by decide +kernel)
theorem tw5 : Cond.selects RX8 yX8_readNumber yX8_readNumber ∈ tb := tb_at 5 (by decide +kernel) (by decide +kernel)
theorem tw6 : Cond.selects RX8 yX8_readJoint yX8_readJoint ∈ tb := tb_at 6 (by decide +kernel) (by decide +kernel)
theorem tw7 : Cond.selects RX8 yX8_readBag yX8_readBag ∈ tb := tb_at 7 (by decide +kernel) (by decide +kernel)
theorem tw8 : Cond.selects RX8 yX8_readLine yX8_readLine ∈ tb := tb_at 8 (by decide +kernel) (by decide +kernel)
theorem tw9 : Cond.selects RX8 yX8_readRun yX8_readRun ∈ tb := tb_at 9 (by decide +kernel) (by decide +kernel)
theorem tw10 : Cond.selects RX1 yX1_strip yX1_strip ∈ tb := tb_at 10 (by decide +kernel) (by decide +kernel)
theorem tw11 : Cond.selects RX10 yX10_forgetAnswers yX10_forgetAnswers ∈ tb := tb_at 11 (by decide +kernel) (by decide +kernel)
theorem tw12 : Cond.selects RX10 yX10_beginChange yX10_beginChange ∈ tb := tb_at 12 (by decide +kernel) (by decide +kernel)
theorem tw13 : Cond.selects RX4 yX4_dropOldest yX4_dropOldest ∈ tb := tb_at 13 (by decide +kernel) (by decide +kernel)
theorem tw14 : Cond.selects RX10 yX10_isLine yX10_isLine ∈ tb := tb_at 14 (by decide +kernel) (by decide +kernel)
theorem tw15 : Cond.selects RX6 yX6_add yX6_add ∈ tb := tb_at 15 (by decide +kernel) (by decide +kernel)
theorem tw18 : Cond.selects RX0 yX0_layingsOf yX0_layingsOf ∈ tb := tb_at 18 (by decide +kernel) (by decide +kernel)
theorem tw19 : Cond.selects RX2 yX2_listCut yX2_listCut ∈ tb := tb_at 19 (by decide +kernel) (by decide +kernel)
theorem tw20 : Cond.selects RX2 yX2_add yX2_add ∈ tb := tb_at 20 (by decide +kernel) (by decide +kernel)
theorem tw22 : Cond.selects RX0 yX0_cellsOf yX0_cellsOf ∈ tb := tb_at 22 (by decide +kernel) (by decide +kernel)
theorem tw23 : Cond.selects RX0 yX0_worthOf yX0_worthOf ∈ tb := tb_at 23 (by decide +kernel) (by decide +kernel)
theorem tw25 : Cond.selects RX0 yX0_isNext yX0_isNext ∈ tb := tb_at 25 (by decide +kernel) (by decide +kernel)
theorem tw26 : Cond.selects RX0 yX0_ownWorth yX0_ownWorth ∈ tb := tb_at 26 (by decide +kernel) (by decide +kernel)
theorem tw27 : Cond.selects RX0 yX0_isAslant yX0_isAslant ∈ tb := tb_at 27 (by decide +kernel) (by decide +kernel)
theorem tw28 : Cond.selects RX0 yX0_goBehind yX0_goBehind ∈ tb := tb_at 28 (by decide +kernel) (by decide +kernel)
theorem tw29 : Cond.selects RX1 yX1_handOver yX1_handOver ∈ tb := tb_at 29 (by decide +kernel) (by decide +kernel)
theorem tw31 : Cond.selects RX10 yX10_uncovered yX10_uncovered ∈ tb := tb_at 31 (by decide +kernel) (by decide +kernel)
theorem tw32 : Cond.selects RX11 yX11_begin yX11_begin ∈ tb := tb_at 32 (by decide +kernel) (by decide +kernel)
theorem tw33 : Cond.selects RX11 yX11_beginLine yX11_beginLine ∈ tb := tb_at 33 (by decide +kernel) (by decide +kernel)
theorem tw34 : Cond.selects RX11 yX11_goRun yX11_goRun ∈ tb := tb_at 34 (by decide +kernel) (by decide +kernel)
theorem tw35 : Cond.selects RX11 yX11_addCell yX11_addCell ∈ tb := tb_at 35 (by decide +kernel) (by decide +kernel)
theorem tw36 : Cond.selects RX11 yX11_takeRead yX11_takeRead ∈ tb := tb_at 36 (by decide +kernel) (by decide +kernel)
theorem tw37 : Cond.selects RX11 yX11_readText yX11_readText ∈ tb := tb_at 37 (by decide +kernel) (by decide +kernel)
theorem tw38 : Cond.selects RX11 yX11_readItem yX11_readItem ∈ tb := tb_at 38 (by decide +kernel) (by decide +kernel)
theorem tw39 : Cond.selects RX11 yX11_readSizes yX11_readSizes ∈ tb := tb_at 39 (by decide +kernel) (by decide +kernel)
theorem tw40 : Cond.selects RX11 yX11_takeNumber yX11_takeNumber ∈ tb := tb_at 40 (by decide +kernel) (by decide +kernel)
theorem tw41 : Cond.selects RX11 yX11_takeSign yX11_takeSign ∈ tb := tb_at 41 (by decide +kernel) (by decide +kernel)
theorem tw42 : Cond.selects RX11 yX11_readTheBag yX11_readTheBag ∈ tb := tb_at 42 (by decide +kernel) (by decide +kernel)
theorem tw43 : Cond.selects RX11 yX11_readLine yX11_readLine ∈ tb := tb_at 43 (by decide +kernel) (by decide +kernel)
theorem tw44 : Cond.selects RX11 yX11_note yX11_note ∈ tb := tb_at 44 (by decide +kernel) (by decide +kernel)
theorem tw45 : Cond.selects RX11 yX11_isLine yX11_isLine ∈ tb := tb_at 45 (by decide +kernel) (by decide +kernel)
theorem tw46 : Cond.selects RX11 yX11_ownMany yX11_ownMany ∈ tb := tb_at 46 (by decide +kernel) (by decide +kernel)
theorem tw47 : Cond.selects RX11 yX11_isCovered yX11_isCovered ∈ tb := tb_at 47 (by decide +kernel) (by decide +kernel)
theorem tw48 : Cond.selects RX11 yX11_findPieces yX11_findPieces ∈ tb := tb_at 48 (by decide +kernel) (by decide +kernel)
theorem tw49 : Cond.selects RX11 yX11_endPiece yX11_endPiece ∈ tb := tb_at 49 (by decide +kernel) (by decide +kernel)
theorem tw50 : Cond.selects RX11 yX11_findWay yX11_findWay ∈ tb := tb_at 50 (by decide +kernel) (by decide +kernel)
theorem tw51 : Cond.selects RX11 yX11_layRest yX11_layRest ∈ tb := tb_at 51 (by decide +kernel) (by decide +kernel)
theorem tw52 : Cond.selects RX11 yX11_leastAt yX11_leastAt ∈ tb := tb_at 52 (by decide +kernel) (by decide +kernel)
theorem tw53 : Cond.selects RX11 yX11_costBy yX11_costBy ∈ tb := tb_at 53 (by decide +kernel) (by decide +kernel)
theorem tw54 : Cond.selects RX11 yX11_costAt yX11_costAt ∈ tb := tb_at 54 (by decide +kernel) (by decide +kernel)
theorem tw55 : Cond.selects RX11 yX11_isCutAslant yX11_isCutAslant ∈ tb := tb_at 55 (by decide +kernel) (by decide +kernel)
theorem tw56 : Cond.selects RX11 yX11_firstStone yX11_firstStone ∈ tb := tb_at 56 (by decide +kernel) (by decide +kernel)
theorem tw57 : Cond.selects RX11 yX11_coverBy yX11_coverBy ∈ tb := tb_at 57 (by decide +kernel) (by decide +kernel)
theorem tw58 : Cond.selects RX11 yX11_layTurns yX11_layTurns ∈ tb := tb_at 58 (by decide +kernel) (by decide +kernel)
theorem tw59 : Cond.selects RX11 yX11_isTurns yX11_isTurns ∈ tb := tb_at 59 (by decide +kernel) (by decide +kernel)
theorem tw60 : Cond.selects RX11 yX11_cutsByTurns yX11_cutsByTurns ∈ tb := tb_at 60 (by decide +kernel) (by decide +kernel)
theorem tw61 : Cond.selects RX11 yX11_isOn yX11_isOn ∈ tb := tb_at 61 (by decide +kernel) (by decide +kernel)
theorem tw62 : Cond.selects RX11 yX11_sharedCells yX11_sharedCells ∈ tb := tb_at 62 (by decide +kernel) (by decide +kernel)
theorem tw64 : Cond.initialized RX10 ∈ tb := tb_at 64 (by decide +kernel) (by decide +kernel)
theorem tw65 : Cond.initialized RX8 ∈ tb := tb_at 65 (by decide +kernel) (by decide +kernel)
theorem tw66 : Cond.initialized RX0 ∈ tb := tb_at 66 (by decide +kernel) (by decide +kernel)
theorem tw67 : Cond.initialized RX6 ∈ tb := tb_at 67 (by decide +kernel) (by decide +kernel)
theorem tw68 : Cond.initialized RX2 ∈ tb := tb_at 68 (by decide +kernel) (by decide +kernel)
theorem tw69 : Cond.initialized RX1 ∈ tb := tb_at 69 (by decide +kernel) (by decide +kernel)
theorem tw70 : Cond.initialized RX4 ∈ tb := tb_at 70 (by decide +kernel) (by decide +kernel)
theorem tw72 : Cond.initialized RX9 ∈ tb := tb_at 72 (by decide +kernel) (by decide +kernel)
theorem tw73 : Cond.initialized RX7 ∈ tb := tb_at 73 (by decide +kernel) (by decide +kernel)
theorem tw74 : Cond.initialized RX5 ∈ tb := tb_at 74 (by decide +kernel) (by decide +kernel)
theorem tw79 : Cond.initialized RJ7 ∈ tb := tb_at 79 (by decide +kernel) (by decide +kernel)
theorem tw80 : Cond.initialized RJ10 ∈ tb := tb_at 80 (by decide +kernel) (by decide +kernel)
theorem tw81 : Cond.initialized RX11 ∈ tb := tb_at 81 (by decide +kernel) (by decide +kernel)
theorem tw82 : Cond.initialized RJ9 ∈ tb := tb_at 82 (by decide +kernel) (by decide +kernel)
theorem tw83 : Cond.initialized RJ6 ∈ tb := tb_at 83 (by decide +kernel) (by decide +kernel)
theorem tw98 : Cond.fieldLink RX8 9 RX8 "letters" "[C" ∈ tb := tb_at 98 (by decide +kernel) (by decide +kernel)
theorem tw99 : Cond.fieldLink RX8 15 RX8 "numbers" "[I" ∈ tb := tb_at 99 (by decide +kernel) (by decide +kernel)
theorem tw100 : Cond.fieldLink RX8 28 RX8 "at" "I" ∈ tb := tb_at 100 (by decide +kernel) (by decide +kernel)
theorem tw101 : Cond.fieldLink RX10 80 RX8 "length" "I" ∈ tb := tb_at 101 (by decide +kernel) (by decide +kernel)
theorem tw102 : Cond.fieldLink RX8 19 RX8 "length" "I" ∈ tb := tb_at 102 (by decide +kernel) (by decide +kernel)
theorem tw126 : Cond.fieldLink RX6 9 RX6 "cells" "[I" ∈ tb := tb_at 126 (by decide +kernel) (by decide +kernel)
theorem tw127 : Cond.fieldLink RX0 60 RX6 "cells" "[I" ∈ tb := tb_at 127 (by decide +kernel) (by decide +kernel)
theorem tw128 : Cond.fieldLink RX10 149 RX6 "cells" "[I" ∈ tb := tb_at 128 (by decide +kernel) (by decide +kernel)
theorem tw129 : Cond.fieldLink RX6 15 RX6 "atBend" "[Z" ∈ tb := tb_at 129 (by decide +kernel) (by decide +kernel)
theorem tw130 : Cond.fieldLink RX0 63 RX6 "atBend" "[Z" ∈ tb := tb_at 130 (by decide +kernel) (by decide +kernel)
theorem tw131 : Cond.fieldLink RX6 19 RX6 "count" "I" ∈ tb := tb_at 131 (by decide +kernel) (by decide +kernel)
theorem tw132 : Cond.fieldLink RX0 49 RX6 "count" "I" ∈ tb := tb_at 132 (by decide +kernel) (by decide +kernel)
theorem tw133 : Cond.fieldLink RX10 146 RX6 "count" "I" ∈ tb := tb_at 133 (by decide +kernel) (by decide +kernel)
theorem tw149 : Cond.fieldLink RX2 11 RX2 "taken" "[I" ∈ tb := tb_at 149 (by decide +kernel) (by decide +kernel)
theorem tw150 : Cond.fieldLink RX0 137 RX2 "taken" "[I" ∈ tb := tb_at 150 (by decide +kernel) (by decide +kernel)
theorem tw151 : Cond.fieldLink RX2 15 RX2 "costs" "[I" ∈ tb := tb_at 151 (by decide +kernel) (by decide +kernel)
theorem tw152 : Cond.fieldLink RX0 127 RX2 "costs" "[I" ∈ tb := tb_at 152 (by decide +kernel) (by decide +kernel)
theorem tw153 : Cond.fieldLink RX2 18 RX2 "count" "I" ∈ tb := tb_at 153 (by decide +kernel) (by decide +kernel)
theorem tw154 : Cond.fieldLink RX0 126 RX2 "count" "I" ∈ tb := tb_at 154 (by decide +kernel) (by decide +kernel)
theorem tw155 : Cond.fieldLink RX2 22 RX2 "known" "Z" ∈ tb := tb_at 155 (by decide +kernel) (by decide +kernel)
theorem tw156 : Cond.fieldLink RX0 71 RX2 "known" "Z" ∈ tb := tb_at 156 (by decide +kernel) (by decide +kernel)
theorem tw166 : Cond.fieldLink RX0 14 RX0 "pieces" "LStoneFloors$Pieces;" ∈ tb := tb_at 166 (by decide +kernel) (by decide +kernel)
theorem tw167 : Cond.fieldLink RX10 136 RX0 "pieces" "LStoneFloors$Pieces;" ∈ tb := tb_at 167 (by decide +kernel) (by decide +kernel)
theorem tw168 : Cond.fieldLink RX0 20 RX0 "layings" "[LStoneFloors$Layings;" ∈ tb := tb_at 168 (by decide +kernel) (by decide +kernel)
theorem tw169 : Cond.fieldLink RX0 24 RX0 "worths" "[I" ∈ tb := tb_at 169 (by decide +kernel) (by decide +kernel)
theorem tw170 : Cond.fieldLink RX0 28 RX0 "sizes" "[I" ∈ tb := tb_at 170 (by decide +kernel) (by decide +kernel)
theorem tw171 : Cond.fieldLink RX0 31 RX0 "left" "[I" ∈ tb := tb_at 171 (by decide +kernel) (by decide +kernel)
theorem tw172 : Cond.fieldLink RX0 75 RX0 "joint" "I" ∈ tb := tb_at 172 (by decide +kernel) (by decide +kernel)
theorem tw173 : Cond.fieldLink RX0 92 RX0 "piece" "I" ∈ tb := tb_at 173 (by decide +kernel) (by decide +kernel)
theorem tw174 : Cond.fieldLink RX0 99 RX0 "room" "I" ∈ tb := tb_at 174 (by decide +kernel) (by decide +kernel)
theorem tw175 : Cond.fieldLink RX0 106 RX0 "worth" "I" ∈ tb := tb_at 175 (by decide +kernel) (by decide +kernel)
theorem tw201 : Cond.fieldLink RX1 9 RX1 "owners" "[I" ∈ tb := tb_at 201 (by decide +kernel) (by decide +kernel)
theorem tw203 : Cond.fieldLink RX10 130 RX1 "owners" "[I" ∈ tb := tb_at 203 (by decide +kernel) (by decide +kernel)
theorem tw204 : Cond.fieldLink RX1 15 RX1 "bags" "[I" ∈ tb := tb_at 204 (by decide +kernel) (by decide +kernel)
theorem tw206 : Cond.fieldLink RX10 199 RX1 "bags" "[I" ∈ tb := tb_at 206 (by decide +kernel) (by decide +kernel)
theorem tw207 : Cond.fieldLink RX1 18 RX1 "colours" "[I" ∈ tb := tb_at 207 (by decide +kernel) (by decide +kernel)
theorem tw208 : Cond.fieldLink RX10 109 RX1 "colours" "[I" ∈ tb := tb_at 208 (by decide +kernel) (by decide +kernel)
theorem tw209 : Cond.fieldLink RX1 21 RX1 "stones" "[I" ∈ tb := tb_at 209 (by decide +kernel) (by decide +kernel)
theorem tw210 : Cond.fieldLink RX10 117 RX1 "stones" "[I" ∈ tb := tb_at 210 (by decide +kernel) (by decide +kernel)
theorem tw211 : Cond.fieldLink RX1 24 RX1 "cuts" "[I" ∈ tb := tb_at 211 (by decide +kernel) (by decide +kernel)
theorem tw212 : Cond.fieldLink RX10 120 RX1 "cuts" "[I" ∈ tb := tb_at 212 (by decide +kernel) (by decide +kernel)
theorem tw213 : Cond.fieldLink RX1 27 RX1 "sound" "[I" ∈ tb := tb_at 213 (by decide +kernel) (by decide +kernel)
theorem tw214 : Cond.fieldLink RX1 30 RX1 "spoiled" "[I" ∈ tb := tb_at 214 (by decide +kernel) (by decide +kernel)
theorem tw216 : Cond.fieldLink RX1 56 RX1 "joint" "I" ∈ tb := tb_at 216 (by decide +kernel) (by decide +kernel)
theorem tw217 : Cond.fieldLink RX10 87 RX1 "joint" "I" ∈ tb := tb_at 217 (by decide +kernel) (by decide +kernel)
theorem tw218 : Cond.fieldLink RX1 57 RX1 "cutsSoFar" "I" ∈ tb := tb_at 218 (by decide +kernel) (by decide +kernel)
theorem tw219 : Cond.fieldLink RX10 220 RX1 "cutsSoFar" "I" ∈ tb := tb_at 219 (by decide +kernel) (by decide +kernel)
theorem tw220 : Cond.fieldLink RX1 60 RX1 "thrownAway" "I" ∈ tb := tb_at 220 (by decide +kernel) (by decide +kernel)
theorem tw221 : Cond.fieldLink RX10 223 RX1 "thrownAway" "I" ∈ tb := tb_at 221 (by decide +kernel) (by decide +kernel)
theorem tw252 : Cond.fieldLink RX4 11 RX4 "floors" "[LStoneFloors$Floor;" ∈ tb := tb_at 252 (by decide +kernel) (by decide +kernel)
theorem tw253 : Cond.fieldLink RX4 18 RX4 "count" "I" ∈ tb := tb_at 253 (by decide +kernel) (by decide +kernel)
theorem tw254 : Cond.fieldLink RX10 206 RX4 "count" "I" ∈ tb := tb_at 254 (by decide +kernel) (by decide +kernel)
theorem tw273 : Cond.fieldLink RX9 9 RX9 "stones" "[I" ∈ tb := tb_at 273 (by decide +kernel) (by decide +kernel)
theorem tw275 : Cond.fieldLink RX9 15 RX9 "used" "[I" ∈ tb := tb_at 275 (by decide +kernel) (by decide +kernel)
theorem tw276 : Cond.fieldLink RX1 75 RX9 "used" "[I" ∈ tb := tb_at 276 (by decide +kernel) (by decide +kernel)
theorem tw277 : Cond.fieldLink RX9 18 RX9 "sound" "[I" ∈ tb := tb_at 277 (by decide +kernel) (by decide +kernel)
theorem tw278 : Cond.fieldLink RX1 80 RX9 "sound" "[I" ∈ tb := tb_at 278 (by decide +kernel) (by decide +kernel)
theorem tw279 : Cond.fieldLink RX9 27 RX9 "spoiled" "I" ∈ tb := tb_at 279 (by decide +kernel) (by decide +kernel)
theorem tw280 : Cond.fieldLink RX1 86 RX9 "spoiled" "I" ∈ tb := tb_at 280 (by decide +kernel) (by decide +kernel)
theorem tw281 : Cond.fieldLink RX9 31 RX9 "count" "I" ∈ tb := tb_at 281 (by decide +kernel) (by decide +kernel)
theorem tw282 : Cond.fieldLink RX1 81 RX9 "count" "I" ∈ tb := tb_at 282 (by decide +kernel) (by decide +kernel)
theorem tw284 : Cond.fieldLink RX9 34 RX9 "cuts" "I" ∈ tb := tb_at 284 (by decide +kernel) (by decide +kernel)
theorem tw286 : Cond.fieldLink RX1 84 RX9 "cuts" "I" ∈ tb := tb_at 286 (by decide +kernel) (by decide +kernel)
theorem tw288 : Cond.fieldLink RX9 37 RX9 "cutOff" "I" ∈ tb := tb_at 288 (by decide +kernel) (by decide +kernel)
theorem tw289 : Cond.fieldLink RX1 88 RX9 "cutOff" "I" ∈ tb := tb_at 289 (by decide +kernel) (by decide +kernel)
theorem tw290 : Cond.fieldLink RX9 40 RX9 "exists" "Z" ∈ tb := tb_at 290 (by decide +kernel) (by decide +kernel)
theorem tw293 : Cond.fieldLink RX10 238 RX9 "known" "Z" ∈ tb := tb_at 293 (by decide +kernel) (by decide +kernel)
theorem tw314 : Cond.fieldLink RX3 9 RX3 "colours" "[I" ∈ tb := tb_at 314 (by decide +kernel) (by decide +kernel)
theorem tw316 : Cond.fieldLink RX3 15 RX3 "trial" "[I" ∈ tb := tb_at 316 (by decide +kernel) (by decide +kernel)
theorem tw318 : Cond.fieldLink RX3 18 RX3 "first" "[I" ∈ tb := tb_at 318 (by decide +kernel) (by decide +kernel)
theorem tw324 : Cond.fieldLink RX3 39 RX3 "count" "I" ∈ tb := tb_at 324 (by decide +kernel) (by decide +kernel)
theorem tw326 : Cond.fieldLink RX3 43 RX3 "fewest" "I" ∈ tb := tb_at 326 (by decide +kernel) (by decide +kernel)
theorem tw328 : Cond.fieldLink RX3 46 RX3 "found" "Z" ∈ tb := tb_at 328 (by decide +kernel) (by decide +kernel)
theorem tw330 : Cond.fieldLink RX3 35 RX3 "known" "Z" ∈ tb := tb_at 330 (by decide +kernel) (by decide +kernel)
theorem tw331 : Cond.fieldLink RX10 241 RX3 "known" "Z" ∈ tb := tb_at 331 (by decide +kernel) (by decide +kernel)
theorem tw366 : Cond.fieldLink RX5 9 RX5 "spots" "[I" ∈ tb := tb_at 366 (by decide +kernel) (by decide +kernel)
theorem tw367 : Cond.fieldLink RX6 31 RX5 "spots" "[I" ∈ tb := tb_at 367 (by decide +kernel) (by decide +kernel)
theorem tw368 : Cond.fieldLink RX1 68 RX5 "spots" "[I" ∈ tb := tb_at 368 (by decide +kernel) (by decide +kernel)
theorem tw369 : Cond.fieldLink RX10 123 RX5 "spots" "[I" ∈ tb := tb_at 369 (by decide +kernel) (by decide +kernel)
theorem tw370 : Cond.fieldLink RX5 15 RX5 "runEnds" "[I" ∈ tb := tb_at 370 (by decide +kernel) (by decide +kernel)
theorem tw371 : Cond.fieldLink RX6 28 RX5 "runEnds" "[I" ∈ tb := tb_at 371 (by decide +kernel) (by decide +kernel)
theorem tw372 : Cond.fieldLink RX5 18 RX5 "cells" "I" ∈ tb := tb_at 372 (by decide +kernel) (by decide +kernel)
theorem tw373 : Cond.fieldLink RX1 63 RX5 "cells" "I" ∈ tb := tb_at 373 (by decide +kernel) (by decide +kernel)
theorem tw374 : Cond.fieldLink RX10 106 RX5 "cells" "I" ∈ tb := tb_at 374 (by decide +kernel) (by decide +kernel)
theorem tw375 : Cond.fieldLink RX5 22 RX5 "runs" "I" ∈ tb := tb_at 375 (by decide +kernel) (by decide +kernel)
theorem tw376 : Cond.fieldLink RX6 23 RX5 "runs" "I" ∈ tb := tb_at 376 (by decide +kernel) (by decide +kernel)
theorem tw377 : Cond.fieldLink RX10 101 RX5 "runs" "I" ∈ tb := tb_at 377 (by decide +kernel) (by decide +kernel)
theorem tw378 : Cond.fieldLink RX5 25 RX5 "headX" "I" ∈ tb := tb_at 378 (by decide +kernel) (by decide +kernel)
theorem tw379 : Cond.fieldLink RX5 28 RX5 "headY" "I" ∈ tb := tb_at 379 (by decide +kernel) (by decide +kernel)
theorem tw380 : Cond.fieldLink RX5 31 RX5 "wentAcross" "Z" ∈ tb := tb_at 380 (by decide +kernel) (by decide +kernel)
theorem tw396 : Cond.fieldLink RX7 9 RX7 "sizes" "[I" ∈ tb := tb_at 396 (by decide +kernel) (by decide +kernel)
theorem tw397 : Cond.fieldLink RX8 55 RX7 "sizes" "[I" ∈ tb := tb_at 397 (by decide +kernel) (by decide +kernel)
theorem tw398 : Cond.fieldLink RX10 170 RX7 "sizes" "[I" ∈ tb := tb_at 398 (by decide +kernel) (by decide +kernel)
theorem tw399 : Cond.fieldLink RX7 15 RX7 "bags" "[I" ∈ tb := tb_at 399 (by decide +kernel) (by decide +kernel)
theorem tw400 : Cond.fieldLink RX1 39 RX7 "bags" "[I" ∈ tb := tb_at 400 (by decide +kernel) (by decide +kernel)
theorem tw401 : Cond.fieldLink RX8 71 RX7 "bags" "[I" ∈ tb := tb_at 401 (by decide +kernel) (by decide +kernel)
theorem tw403 : Cond.fieldLink RX10 97 RX7 "paths" "[LStoneFloors$Path;" ∈ tb := tb_at 403 (by decide +kernel) (by decide +kernel)
theorem tw404 : Cond.fieldLink RX8 77 RX7 "paths" "[LStoneFloors$Path;" ∈ tb := tb_at 404 (by decide +kernel) (by decide +kernel)
theorem tw405 : Cond.fieldLink RX7 24 RX7 "over" "[I" ∈ tb := tb_at 405 (by decide +kernel) (by decide +kernel)
theorem tw406 : Cond.fieldLink RX8 87 RX7 "over" "[I" ∈ tb := tb_at 406 (by decide +kernel) (by decide +kernel)
theorem tw407 : Cond.fieldLink RX7 34 RX7 "joint" "I" ∈ tb := tb_at 407 (by decide +kernel) (by decide +kernel)
theorem tw408 : Cond.fieldLink RX1 52 RX7 "joint" "I" ∈ tb := tb_at 408 (by decide +kernel) (by decide +kernel)
theorem tw409 : Cond.fieldLink RX8 64 RX7 "joint" "I" ∈ tb := tb_at 409 (by decide +kernel) (by decide +kernel)
theorem tw410 : Cond.fieldLink RX7 38 RX7 "lines" "I" ∈ tb := tb_at 410 (by decide +kernel) (by decide +kernel)
theorem tw411 : Cond.fieldLink RX8 74 RX7 "lines" "I" ∈ tb := tb_at 411 (by decide +kernel) (by decide +kernel)
theorem tw412 : Cond.fieldLink RX10 214 RX7 "lines" "I" ∈ tb := tb_at 412 (by decide +kernel) (by decide +kernel)
theorem tw476 : Cond.methodLink RX10 73 yX8_append ∈ tb := tb_at 476 (by decide +kernel) (by decide +kernel)
theorem tw477 : Cond.instanceMethod yX8_append ∈ tb := tb_at 477 (by decide +kernel) (by decide +kernel)
theorem tw478 : Cond.selects RX8 yX8_append yX8_append ∈ tb := tb_at 478 (by decide +kernel) (by decide +kernel)
theorem tw479 : Cond.code yX8_append cX8_append 2 (Option.none : Option Jvm.ClassFile.FieldType) ∈ tb := tb_at 479 (by decide +kernel) (by decide +kernel)
theorem tw480 : Cond.methodLink RX10 77 yX10_layText ∈ tb := tb_at 480 (by decide +kernel) (by decide +kernel)
theorem tw482 : Cond.instanceMethod yX10_layText ∈ tb := tb_at 482 (by decide +kernel) (by decide +kernel)
theorem tw483 : Cond.code yX10_layText cX10_layText 2 (Option.some Jvm.ClassFile.FieldType.int) ∈ tb := tb_at 483 (by decide +kernel) (by decide +kernel)
theorem tw484 : Cond.methodLink RX10 83 yX8_firstFault ∈ tb := tb_at 484 (by decide +kernel) (by decide +kernel)
theorem tw485 : Cond.instanceMethod yX8_firstFault ∈ tb := tb_at 485 (by decide +kernel) (by decide +kernel)
theorem tw486 : Cond.selects RX8 yX8_firstFault yX8_firstFault ∈ tb := tb_at 486 (by decide +kernel) (by decide +kernel)
theorem tw487 : Cond.code yX8_firstFault cX8_firstFault 4 (Option.some Jvm.ClassFile.FieldType.int) ∈ tb := tb_at 487 (by decide +kernel) (by decide +kernel)
theorem tw488 : Cond.methodLink RX8 23 yX7_clear ∈ tb := tb_at 488 (by decide +kernel) (by decide +kernel)
theorem tw489 : Cond.instanceMethod yX7_clear ∈ tb := tb_at 489 (by decide +kernel) (by decide +kernel)
theorem tw490 : Cond.selects RX7 yX7_clear yX7_clear ∈ tb := tb_at 490 (by decide +kernel) (by decide +kernel)
theorem tw491 : Cond.code yX7_clear cX7_clear 1 (Option.none : Option Jvm.ClassFile.FieldType) ∈ tb := tb_at 491 (by decide +kernel) (by decide +kernel)
theorem tw492 : Cond.methodLink RX7 28 yJ7_fill_53178 ∈ tb := tb_at 492 (by decide +kernel) (by decide +kernel)
theorem tw493 : Cond.static yJ7_fill_53178 ∈ tb := tb_at 493 (by decide +kernel) (by decide +kernel)
theorem tw494 : Cond.code yJ7_fill_53178 cJ7_fill_53178 4 (Option.none : Option Jvm.ClassFile.FieldType) ∈ tb := tb_at 494 (by decide +kernel) (by decide +kernel)
theorem tw495 : Cond.methodLink RX8 31 yX8_readItem ∈ tb := tb_at 495 (by decide +kernel) (by decide +kernel)
theorem tw497 : Cond.instanceMethod yX8_readItem ∈ tb := tb_at 497 (by decide +kernel) (by decide +kernel)
theorem tw498 : Cond.code yX8_readItem cX8_readItem 3 (Option.some Jvm.ClassFile.FieldType.boolean) ∈ tb := tb_at 498 (by decide +kernel) (by decide +kernel)
theorem tw499 : Cond.methodLink RX8 35 yX8_take ∈ tb := tb_at 499 (by decide +kernel) (by decide +kernel)
theorem tw501 : Cond.instanceMethod yX8_take ∈ tb := tb_at 501 (by decide +kernel) (by decide +kernel)
theorem tw502 : Cond.code yX8_take cX8_take 2 (Option.some Jvm.ClassFile.FieldType.boolean) ∈ tb := tb_at 502 (by decide +kernel) (by decide +kernel)
theorem tw503 : Cond.methodLink RX8 39 yX8_readSizes ∈ tb := tb_at 503 (by decide +kernel) (by decide +kernel)
theorem tw505 : Cond.instanceMethod yX8_readSizes ∈ tb := tb_at 505 (by decide +kernel) (by decide +kernel)
theorem tw506 : Cond.code yX8_readSizes cX8_readSizes 2 (Option.some Jvm.ClassFile.FieldType.boolean) ∈ tb := tb_at 506 (by decide +kernel) (by decide +kernel)
theorem tw507 : Cond.methodLink RX8 51 yX8_readNumbers ∈ tb := tb_at 507 (by decide +kernel) (by decide +kernel)
theorem tw509 : Cond.instanceMethod yX8_readNumbers ∈ tb := tb_at 509 (by decide +kernel) (by decide +kernel)
theorem tw510 : Cond.code yX8_readNumbers cX8_readNumbers 5 (Option.some Jvm.ClassFile.FieldType.boolean) ∈ tb := tb_at 510 (by decide +kernel) (by decide +kernel)
theorem tw511 : Cond.methodLink RX8 94 yX8_readNumber ∈ tb := tb_at 511 (by decide +kernel) (by decide +kernel)
theorem tw513 : Cond.instanceMethod yX8_readNumber ∈ tb := tb_at 513 (by decide +kernel) (by decide +kernel)
theorem tw514 : Cond.code yX8_readNumber cX8_readNumber 5 (Option.some Jvm.ClassFile.FieldType.int) ∈ tb := tb_at 514 (by decide +kernel) (by decide +kernel)
theorem tw515 : Cond.methodLink RX8 58 ⟨"java/lang/System", "arraycopy", "(Ljava/lang/Object;ILjava/lang/Object;II)V"⟩ ∈ tb := tb_at 515 (by decide +kernel) (by decide +kernel)
theorem tw516 : Cond.static ⟨"java/lang/System", "arraycopy", "(Ljava/lang/Object;ILjava/lang/Object;II)V"⟩ ∈ tb := tb_at 516 (by decide +kernel) (by decide +kernel)
theorem tw517 : Cond.native ⟨"java/lang/System", "arraycopy", "(Ljava/lang/Object;ILjava/lang/Object;II)V"⟩ ∈ tb := tb_at 517 (by decide +kernel) (by decide +kernel)
theorem tw518 : Cond.methodLink RX8 42 yX8_readJoint ∈ tb := tb_at 518 (by decide +kernel) (by decide +kernel)
theorem tw520 : Cond.instanceMethod yX8_readJoint ∈ tb := tb_at 520 (by decide +kernel) (by decide +kernel)
theorem tw521 : Cond.code yX8_readJoint cX8_readJoint 2 (Option.some Jvm.ClassFile.FieldType.boolean) ∈ tb := tb_at 521 (by decide +kernel) (by decide +kernel)
theorem tw522 : Cond.methodLink RX8 45 yX8_readBag ∈ tb := tb_at 522 (by decide +kernel) (by decide +kernel)
theorem tw524 : Cond.instanceMethod yX8_readBag ∈ tb := tb_at 524 (by decide +kernel) (by decide +kernel)
theorem tw525 : Cond.code yX8_readBag cX8_readBag 2 (Option.some Jvm.ClassFile.FieldType.boolean) ∈ tb := tb_at 525 (by decide +kernel) (by decide +kernel)
theorem tw527 : Cond.static yX10_isColour ∈ tb := tb_at 527 (by decide +kernel) (by decide +kernel)
theorem tw528 : Cond.code yX10_isColour cX10_isColour 1 (Option.some Jvm.ClassFile.FieldType.boolean) ∈ tb := tb_at 528 (by decide +kernel) (by decide +kernel)
theorem tw529 : Cond.methodLink RX8 48 yX8_readLine ∈ tb := tb_at 529 (by decide +kernel) (by decide +kernel)
theorem tw531 : Cond.instanceMethod yX8_readLine ∈ tb := tb_at 531 (by decide +kernel) (by decide +kernel)
theorem tw532 : Cond.code yX8_readLine cX8_readLine 4 (Option.some Jvm.ClassFile.FieldType.boolean) ∈ tb := tb_at 532 (by decide +kernel) (by decide +kernel)
theorem tw533 : Cond.methodLink RX8 81 yX5_begin ∈ tb := tb_at 533 (by decide +kernel) (by decide +kernel)
theorem tw534 : Cond.instanceMethod yX5_begin ∈ tb := tb_at 534 (by decide +kernel) (by decide +kernel)
theorem tw535 : Cond.selects RX5 yX5_begin yX5_begin ∈ tb := tb_at 535 (by decide +kernel) (by decide +kernel)
theorem tw536 : Cond.code yX5_begin cX5_begin 3 (Option.none : Option Jvm.ClassFile.FieldType) ∈ tb := tb_at 536 (by decide +kernel) (by decide +kernel)
theorem tw537 : Cond.methodLink RX8 90 yX8_readRun ∈ tb := tb_at 537 (by decide +kernel) (by decide +kernel)
theorem tw539 : Cond.instanceMethod yX8_readRun ∈ tb := tb_at 539 (by decide +kernel) (by decide +kernel)
theorem tw540 : Cond.code yX8_readRun cX8_readRun 7 (Option.some Jvm.ClassFile.FieldType.boolean) ∈ tb := tb_at 540 (by decide +kernel) (by decide +kernel)
theorem tw541 : Cond.methodLink RX8 98 yX5_go ∈ tb := tb_at 541 (by decide +kernel) (by decide +kernel)
theorem tw542 : Cond.instanceMethod yX5_go ∈ tb := tb_at 542 (by decide +kernel) (by decide +kernel)
theorem tw543 : Cond.selects RX5 yX5_go yX5_go ∈ tb := tb_at 543 (by decide +kernel) (by decide +kernel)
theorem tw544 : Cond.code yX5_go cX5_go 9 (Option.some Jvm.ClassFile.FieldType.boolean) ∈ tb := tb_at 544 (by decide +kernel) (by decide +kernel)
theorem tw546 : Cond.static yX10_isOnGround ∈ tb := tb_at 546 (by decide +kernel) (by decide +kernel)
theorem tw547 : Cond.code yX10_isOnGround cX10_isOnGround 2 (Option.some Jvm.ClassFile.FieldType.boolean) ∈ tb := tb_at 547 (by decide +kernel) (by decide +kernel)
theorem tw548 : Cond.methodLink RX10 232 yX1_begin ∈ tb := tb_at 548 (by decide +kernel) (by decide +kernel)
theorem tw549 : Cond.instanceMethod yX1_begin ∈ tb := tb_at 549 (by decide +kernel) (by decide +kernel)
theorem tw550 : Cond.selects RX1 yX1_begin yX1_begin ∈ tb := tb_at 550 (by decide +kernel) (by decide +kernel)
theorem tw551 : Cond.code yX1_begin cX1_begin 3 (Option.none : Option Jvm.ClassFile.FieldType) ∈ tb := tb_at 551 (by decide +kernel) (by decide +kernel)
theorem tw552 : Cond.methodLink RX1 33 yJ7_fill_53178 ∈ tb := tb_at 552 (by decide +kernel) (by decide +kernel)
theorem tw553 : Cond.methodLink RX1 42 ⟨"java/lang/System", "arraycopy", "(Ljava/lang/Object;ILjava/lang/Object;II)V"⟩ ∈ tb := tb_at 553 (by decide +kernel) (by decide +kernel)
theorem tw554 : Cond.methodLink RX1 48 yX1_strip ∈ tb := tb_at 554 (by decide +kernel) (by decide +kernel)
theorem tw556 : Cond.instanceMethod yX1_strip ∈ tb := tb_at 556 (by decide +kernel) (by decide +kernel)
theorem tw557 : Cond.code yX1_strip cX1_strip 2 (Option.none : Option Jvm.ClassFile.FieldType) ∈ tb := tb_at 557 (by decide +kernel) (by decide +kernel)
theorem tw558 : Cond.methodLink RX1 97 yJ7_fill_fda19 ∈ tb := tb_at 558 (by decide +kernel) (by decide +kernel)
theorem tw559 : Cond.static yJ7_fill_fda19 ∈ tb := tb_at 559 (by decide +kernel) (by decide +kernel)
theorem tw560 : Cond.code yJ7_fill_fda19 cJ7_fill_fda19 5 (Option.none : Option Jvm.ClassFile.FieldType) ∈ tb := tb_at 560 (by decide +kernel) (by decide +kernel)
theorem tw561 : Cond.methodLink RJ7 13 yJ7_rangeCheck_23922 ∈ tb := tb_at 561 (by decide +kernel) (by decide +kernel)
theorem tw562 : Cond.static yJ7_rangeCheck_23922 ∈ tb := tb_at 562 (by decide +kernel) (by decide +kernel)
theorem tw563 : Cond.code yJ7_rangeCheck_23922 cJ7_rangeCheck_23922 3 (Option.none : Option Jvm.ClassFile.FieldType) ∈ tb := tb_at 563 (by decide +kernel) (by decide +kernel)
theorem tw564 : Cond.methodLink RX10 211 yX10_forgetAnswers ∈ tb := tb_at 564 (by decide +kernel) (by decide +kernel)
theorem tw566 : Cond.instanceMethod yX10_forgetAnswers ∈ tb := tb_at 566 (by decide +kernel) (by decide +kernel)
theorem tw567 : Cond.code yX10_forgetAnswers cX10_forgetAnswers 2 (Option.none : Option Jvm.ClassFile.FieldType) ∈ tb := tb_at 567 (by decide +kernel) (by decide +kernel)
theorem tw568 : Cond.fieldLink RX10 12 RX10 "reader" "LStoneFloors$Reader;" ∈ tb := tb_at 568 (by decide +kernel) (by decide +kernel)
theorem tw569 : Cond.fieldLink RX10 19 RX10 "finder" "LStoneFloors$Finder;" ∈ tb := tb_at 569 (by decide +kernel) (by decide +kernel)
theorem tw570 : Cond.fieldLink RX10 26 RX10 "floor" "LStoneFloors$Floor;" ∈ tb := tb_at 570 (by decide +kernel) (by decide +kernel)
theorem tw571 : Cond.fieldLink RX10 33 RX10 "past" "LStoneFloors$Past;" ∈ tb := tb_at 571 (by decide +kernel) (by decide +kernel)
theorem tw572 : Cond.fieldLink RX10 40 RX10 "orders" "LStoneFloors$Orders;" ∈ tb := tb_at 572 (by decide +kernel) (by decide +kernel)
theorem tw573 : Cond.fieldLink RX10 46 RX10 "ways" "[LStoneFloors$Way;" ∈ tb := tb_at 573 (by decide +kernel) (by decide +kernel)
theorem tw574 : Cond.fieldLink RX10 53 RX10 "plan" "LStoneFloors$Plan;" ∈ tb := tb_at 574 (by decide +kernel) (by decide +kernel)
theorem tw575 : Cond.fieldLink RX10 57 RX10 "draft" "LStoneFloors$Plan;" ∈ tb := tb_at 575 (by decide +kernel) (by decide +kernel)
theorem tw614 : Cond.methodLink RX10 90 yX10_beginChange ∈ tb := tb_at 614 (by decide +kernel) (by decide +kernel)
theorem tw616 : Cond.instanceMethod yX10_beginChange ∈ tb := tb_at 616 (by decide +kernel) (by decide +kernel)
theorem tw617 : Cond.code yX10_beginChange cX10_beginChange 1 (Option.none : Option Jvm.ClassFile.FieldType) ∈ tb := tb_at 617 (by decide +kernel) (by decide +kernel)
theorem tw618 : Cond.methodLink RX10 235 yX4_keep ∈ tb := tb_at 618 (by decide +kernel) (by decide +kernel)
theorem tw619 : Cond.instanceMethod yX4_keep ∈ tb := tb_at 619 (by decide +kernel) (by decide +kernel)
theorem tw620 : Cond.selects RX4 yX4_keep yX4_keep ∈ tb := tb_at 620 (by decide +kernel) (by decide +kernel)
theorem tw621 : Cond.code yX4_keep cX4_keep 2 (Option.none : Option Jvm.ClassFile.FieldType) ∈ tb := tb_at 621 (by decide +kernel) (by decide +kernel)
theorem tw622 : Cond.methodLink RX4 22 yX4_dropOldest ∈ tb := tb_at 622 (by decide +kernel) (by decide +kernel)
theorem tw624 : Cond.instanceMethod yX4_dropOldest ∈ tb := tb_at 624 (by decide +kernel) (by decide +kernel)
theorem tw625 : Cond.code yX4_dropOldest cX4_dropOldest 3 (Option.none : Option Jvm.ClassFile.FieldType) ∈ tb := tb_at 625 (by decide +kernel) (by decide +kernel)
theorem tw626 : Cond.methodLink RX4 25 yX1_copy ∈ tb := tb_at 626 (by decide +kernel) (by decide +kernel)
theorem tw627 : Cond.instanceMethod yX1_copy ∈ tb := tb_at 627 (by decide +kernel) (by decide +kernel)
theorem tw628 : Cond.selects RX1 yX1_copy yX1_copy ∈ tb := tb_at 628 (by decide +kernel) (by decide +kernel)
theorem tw629 : Cond.code yX1_copy cX1_copy 2 (Option.none : Option Jvm.ClassFile.FieldType) ∈ tb := tb_at 629 (by decide +kernel) (by decide +kernel)
theorem tw634 : Cond.methodLink RX10 93 yX10_isLine ∈ tb := tb_at 634 (by decide +kernel) (by decide +kernel)
theorem tw636 : Cond.instanceMethod yX10_isLine ∈ tb := tb_at 636 (by decide +kernel) (by decide +kernel)
theorem tw637 : Cond.code yX10_isLine cX10_isLine 2 (Option.some Jvm.ClassFile.FieldType.boolean) ∈ tb := tb_at 637 (by decide +kernel) (by decide +kernel)
theorem tw638 : Cond.methodLink RX10 113 yX1_cellsOf ∈ tb := tb_at 638 (by decide +kernel) (by decide +kernel)
theorem tw639 : Cond.instanceMethod yX1_cellsOf ∈ tb := tb_at 639 (by decide +kernel) (by decide +kernel)
theorem tw640 : Cond.selects RX1 yX1_cellsOf yX1_cellsOf ∈ tb := tb_at 640 (by decide +kernel) (by decide +kernel)
theorem tw641 : Cond.code yX1_cellsOf cX1_cellsOf 5 (Option.some Jvm.ClassFile.FieldType.int) ∈ tb := tb_at 641 (by decide +kernel) (by decide +kernel)
theorem tw650 : Cond.methodLink RX10 126 yX10_isOnGround ∈ tb := tb_at 650 (by decide +kernel) (by decide +kernel)
theorem tw655 : Cond.methodLink RX10 133 yX1_isCovered ∈ tb := tb_at 655 (by decide +kernel) (by decide +kernel)
theorem tw656 : Cond.instanceMethod yX1_isCovered ∈ tb := tb_at 656 (by decide +kernel) (by decide +kernel)
theorem tw657 : Cond.selects RX1 yX1_isCovered yX1_isCovered ∈ tb := tb_at 657 (by decide +kernel) (by decide +kernel)
theorem tw658 : Cond.code yX1_isCovered cX1_isCovered 2 (Option.some Jvm.ClassFile.FieldType.boolean) ∈ tb := tb_at 658 (by decide +kernel) (by decide +kernel)
theorem tw659 : Cond.methodLink RX10 140 yX6_split ∈ tb := tb_at 659 (by decide +kernel) (by decide +kernel)
theorem tw660 : Cond.instanceMethod yX6_split ∈ tb := tb_at 660 (by decide +kernel) (by decide +kernel)
theorem tw661 : Cond.selects RX6 yX6_split yX6_split ∈ tb := tb_at 661 (by decide +kernel) (by decide +kernel)
theorem tw662 : Cond.code yX6_split cX6_split 6 (Option.none : Option Jvm.ClassFile.FieldType) ∈ tb := tb_at 662 (by decide +kernel) (by decide +kernel)
theorem tw663 : Cond.methodLink RX6 34 yX6_add ∈ tb := tb_at 663 (by decide +kernel) (by decide +kernel)
theorem tw665 : Cond.instanceMethod yX6_add ∈ tb := tb_at 665 (by decide +kernel) (by decide +kernel)
theorem tw666 : Cond.code yX6_add cX6_add 3 (Option.none : Option Jvm.ClassFile.FieldType) ∈ tb := tb_at 666 (by decide +kernel) (by decide +kernel)
theorem tw671 : Cond.methodLink RX10 151 yX10_isColour ∈ tb := tb_at 671 (by decide +kernel) (by decide +kernel)
theorem tw684 : Cond.methodLink RX9 21 yJ7_fill_53178 ∈ tb := tb_at 684 (by decide +kernel) (by decide +kernel)
theorem tw690 : Cond.methodLink RX0 86 ⟨"java/lang/System", "arraycopy", "(Ljava/lang/Object;ILjava/lang/Object;II)V"⟩ ∈ tb := tb_at 690 (by decide +kernel) (by decide +kernel)
theorem tw691 : Cond.methodLink RX0 67 yX0_layingsOf ∈ tb := tb_at 691 (by decide +kernel) (by decide +kernel)
theorem tw693 : Cond.instanceMethod yX0_layingsOf ∈ tb := tb_at 693 (by decide +kernel) (by decide +kernel)
theorem tw694 : Cond.code yX0_layingsOf cX0_layingsOf 3 (Option.some (Jvm.ClassFile.FieldType.object "StoneFloors$Layings")) ∈ tb := tb_at 694 (by decide +kernel) (by decide +kernel)
theorem tw699 : Cond.methodLink RX2 26 yX2_listCut ∈ tb := tb_at 699 (by decide +kernel) (by decide +kernel)
theorem tw701 : Cond.instanceMethod yX2_listCut ∈ tb := tb_at 701 (by decide +kernel) (by decide +kernel)
theorem tw702 : Cond.code yX2_listCut cX2_listCut 13 (Option.none : Option Jvm.ClassFile.FieldType) ∈ tb := tb_at 702 (by decide +kernel) (by decide +kernel)
theorem tw703 : Cond.methodLink RX2 30 yX2_add ∈ tb := tb_at 703 (by decide +kernel) (by decide +kernel)
theorem tw705 : Cond.instanceMethod yX2_add ∈ tb := tb_at 705 (by decide +kernel) (by decide +kernel)
theorem tw706 : Cond.code yX2_add cX2_add 6 (Option.none : Option Jvm.ClassFile.FieldType) ∈ tb := tb_at 706 (by decide +kernel) (by decide +kernel)
theorem tw707 : Cond.methodLink RX2 34 yX2_canBeTakenFrom ∈ tb := tb_at 707 (by decide +kernel) (by decide +kernel)
theorem tw708 : Cond.instanceMethod yX2_canBeTakenFrom ∈ tb := tb_at 708 (by decide +kernel) (by decide +kernel)
theorem tw709 : Cond.selects RX2 yX2_canBeTakenFrom yX2_canBeTakenFrom ∈ tb := tb_at 709 (by decide +kernel) (by decide +kernel)
theorem tw710 : Cond.code yX2_canBeTakenFrom cX2_canBeTakenFrom 6 (Option.some Jvm.ClassFile.FieldType.boolean) ∈ tb := tb_at 710 (by decide +kernel) (by decide +kernel)
theorem tw716 : Cond.methodLink RX0 95 yX0_cellsOf ∈ tb := tb_at 716 (by decide +kernel) (by decide +kernel)
theorem tw718 : Cond.instanceMethod yX0_cellsOf ∈ tb := tb_at 718 (by decide +kernel) (by decide +kernel)
theorem tw719 : Cond.code yX0_cellsOf cX0_cellsOf 2 (Option.some Jvm.ClassFile.FieldType.int) ∈ tb := tb_at 719 (by decide +kernel) (by decide +kernel)
theorem tw720 : Cond.methodLink RX0 102 yX0_worthOf ∈ tb := tb_at 720 (by decide +kernel) (by decide +kernel)
theorem tw722 : Cond.instanceMethod yX0_worthOf ∈ tb := tb_at 722 (by decide +kernel) (by decide +kernel)
theorem tw723 : Cond.code yX0_worthOf cX0_worthOf 14 (Option.some Jvm.ClassFile.FieldType.int) ∈ tb := tb_at 723 (by decide +kernel) (by decide +kernel)
theorem tw724 : Cond.constant RX0 109 1048576 ∈ tb := tb_at 724 (by decide +kernel) (by decide +kernel)
theorem tw725 : Cond.methodLink RX0 130 yX2_stones ∈ tb := tb_at 725 (by decide +kernel) (by decide +kernel)
theorem tw726 : Cond.instanceMethod yX2_stones ∈ tb := tb_at 726 (by decide +kernel) (by decide +kernel)
theorem tw727 : Cond.selects RX2 yX2_stones yX2_stones ∈ tb := tb_at 727 (by decide +kernel) (by decide +kernel)
theorem tw728 : Cond.code yX2_stones cX2_stones 3 (Option.some Jvm.ClassFile.FieldType.int) ∈ tb := tb_at 728 (by decide +kernel) (by decide +kernel)
theorem tw729 : Cond.methodLink RX0 133 yX2_canBeTakenFrom ∈ tb := tb_at 729 (by decide +kernel) (by decide +kernel)
theorem tw730 : Cond.methodLink RX0 140 yJ9_min_7cf53 ∈ tb := tb_at 730 (by decide +kernel) (by decide +kernel)
theorem tw731 : Cond.static yJ9_min_7cf53 ∈ tb := tb_at 731 (by decide +kernel) (by decide +kernel)
theorem tw732 : Cond.code yJ9_min_7cf53 cJ9_min_7cf53 2 (Option.some Jvm.ClassFile.FieldType.int) ∈ tb := tb_at 732 (by decide +kernel) (by decide +kernel)
theorem tw737 : Cond.methodLink RX0 146 yX0_isNext ∈ tb := tb_at 737 (by decide +kernel) (by decide +kernel)
theorem tw739 : Cond.instanceMethod yX0_isNext ∈ tb := tb_at 739 (by decide +kernel) (by decide +kernel)
theorem tw740 : Cond.code yX0_isNext cX0_isNext 5 (Option.some Jvm.ClassFile.FieldType.boolean) ∈ tb := tb_at 740 (by decide +kernel) (by decide +kernel)
theorem tw741 : Cond.methodLink RX0 153 yX0_ownWorth ∈ tb := tb_at 741 (by decide +kernel) (by decide +kernel)
theorem tw743 : Cond.instanceMethod yX0_ownWorth ∈ tb := tb_at 743 (by decide +kernel) (by decide +kernel)
theorem tw744 : Cond.code yX0_ownWorth cX0_ownWorth 4 (Option.some Jvm.ClassFile.FieldType.int) ∈ tb := tb_at 744 (by decide +kernel) (by decide +kernel)
theorem tw745 : Cond.methodLink RX0 150 yX0_isAslant ∈ tb := tb_at 745 (by decide +kernel) (by decide +kernel)
theorem tw747 : Cond.instanceMethod yX0_isAslant ∈ tb := tb_at 747 (by decide +kernel) (by decide +kernel)
theorem tw748 : Cond.code yX0_isAslant cX0_isAslant 4 (Option.some Jvm.ClassFile.FieldType.boolean) ∈ tb := tb_at 748 (by decide +kernel) (by decide +kernel)
theorem tw749 : Cond.methodLink RX0 156 yX9_add ∈ tb := tb_at 749 (by decide +kernel) (by decide +kernel)
theorem tw750 : Cond.instanceMethod yX9_add ∈ tb := tb_at 750 (by decide +kernel) (by decide +kernel)
theorem tw751 : Cond.selects RX9 yX9_add yX9_add ∈ tb := tb_at 751 (by decide +kernel) (by decide +kernel)
theorem tw752 : Cond.code yX9_add cX9_add 6 (Option.none : Option Jvm.ClassFile.FieldType) ∈ tb := tb_at 752 (by decide +kernel) (by decide +kernel)
theorem tw753 : Cond.methodLink RX0 160 yX0_goBehind ∈ tb := tb_at 753 (by decide +kernel) (by decide +kernel)
theorem tw755 : Cond.instanceMethod yX0_goBehind ∈ tb := tb_at 755 (by decide +kernel) (by decide +kernel)
theorem tw756 : Cond.code yX0_goBehind cX0_goBehind 2 (Option.none : Option Jvm.ClassFile.FieldType) ∈ tb := tb_at 756 (by decide +kernel) (by decide +kernel)
theorem tw769 : Cond.methodLink RX1 71 yX1_handOver ∈ tb := tb_at 769 (by decide +kernel) (by decide +kernel)
theorem tw771 : Cond.instanceMethod yX1_handOver ∈ tb := tb_at 771 (by decide +kernel) (by decide +kernel)
theorem tw772 : Cond.code yX1_handOver cX1_handOver 5 (Option.none : Option Jvm.ClassFile.FieldType) ∈ tb := tb_at 772 (by decide +kernel) (by decide +kernel)
theorem tw777 : Cond.methodLink RX10 173 yX1_pickUp ∈ tb := tb_at 777 (by decide +kernel) (by decide +kernel)
theorem tw778 : Cond.instanceMethod yX1_pickUp ∈ tb := tb_at 778 (by decide +kernel) (by decide +kernel)
theorem tw779 : Cond.selects RX1 yX1_pickUp yX1_pickUp ∈ tb := tb_at 779 (by decide +kernel) (by decide +kernel)
theorem tw780 : Cond.code yX1_pickUp cX1_pickUp 9 (Option.some Jvm.ClassFile.FieldType.int) ∈ tb := tb_at 780 (by decide +kernel) (by decide +kernel)
theorem tw781 : Cond.methodLink RX1 91 yJ9_min_7cf53 ∈ tb := tb_at 781 (by decide +kernel) (by decide +kernel)
theorem tw807 : Cond.methodLink RX3 49 ⟨"java/lang/System", "arraycopy", "(Ljava/lang/Object;ILjava/lang/Object;II)V"⟩ ∈ tb := tb_at 807 (by decide +kernel) (by decide +kernel)
theorem tw816 : Cond.methodLink RX10 202 yX1_missingIn ∈ tb := tb_at 816 (by decide +kernel) (by decide +kernel)
theorem tw817 : Cond.instanceMethod yX1_missingIn ∈ tb := tb_at 817 (by decide +kernel) (by decide +kernel)
theorem tw818 : Cond.selects RX1 yX1_missingIn yX1_missingIn ∈ tb := tb_at 818 (by decide +kernel) (by decide +kernel)
theorem tw819 : Cond.code yX1_missingIn cX1_missingIn 4 (Option.some Jvm.ClassFile.FieldType.int) ∈ tb := tb_at 819 (by decide +kernel) (by decide +kernel)
theorem tw824 : Cond.methodLink RX10 207 yX4_giveBack ∈ tb := tb_at 824 (by decide +kernel) (by decide +kernel)
theorem tw825 : Cond.instanceMethod yX4_giveBack ∈ tb := tb_at 825 (by decide +kernel) (by decide +kernel)
theorem tw826 : Cond.selects RX4 yX4_giveBack yX4_giveBack ∈ tb := tb_at 826 (by decide +kernel) (by decide +kernel)
theorem tw827 : Cond.code yX4_giveBack cX4_giveBack 2 (Option.none : Option Jvm.ClassFile.FieldType) ∈ tb := tb_at 827 (by decide +kernel) (by decide +kernel)
theorem tw832 : Cond.methodLink RX10 217 yX7_goesOver ∈ tb := tb_at 832 (by decide +kernel) (by decide +kernel)
theorem tw833 : Cond.instanceMethod yX7_goesOver ∈ tb := tb_at 833 (by decide +kernel) (by decide +kernel)
theorem tw834 : Cond.selects RX7 yX7_goesOver yX7_goesOver ∈ tb := tb_at 834 (by decide +kernel) (by decide +kernel)
theorem tw835 : Cond.code yX7_goesOver cX7_goesOver 3 (Option.some Jvm.ClassFile.FieldType.boolean) ∈ tb := tb_at 835 (by decide +kernel) (by decide +kernel)
theorem tw840 : Cond.methodLink RX10 226 yX10_uncovered ∈ tb := tb_at 840 (by decide +kernel) (by decide +kernel)
theorem tw842 : Cond.instanceMethod yX10_uncovered ∈ tb := tb_at 842 (by decide +kernel) (by decide +kernel)
theorem tw843 : Cond.code yX10_uncovered cX10_uncovered 3 (Option.some Jvm.ClassFile.FieldType.int) ∈ tb := tb_at 843 (by decide +kernel) (by decide +kernel)
theorem tw844 : Cond.methodLink RX10 229 yX7_sharedCells ∈ tb := tb_at 844 (by decide +kernel) (by decide +kernel)
theorem tw845 : Cond.instanceMethod yX7_sharedCells ∈ tb := tb_at 845 (by decide +kernel) (by decide +kernel)
theorem tw846 : Cond.selects RX7 yX7_sharedCells yX7_sharedCells ∈ tb := tb_at 846 (by decide +kernel) (by decide +kernel)
theorem tw847 : Cond.code yX7_sharedCells cX7_sharedCells 3 (Option.some Jvm.ClassFile.FieldType.int) ∈ tb := tb_at 847 (by decide +kernel) (by decide +kernel)
theorem tw848 : Cond.methodLink RX7 41 yJ6_bitCount_0f7a4 ∈ tb := tb_at 848 (by decide +kernel) (by decide +kernel)
theorem tw849 : Cond.static yJ6_bitCount_0f7a4 ∈ tb := tb_at 849 (by decide +kernel) (by decide +kernel)
theorem tw850 : Cond.code yJ6_bitCount_0f7a4 cJ6_bitCount_0f7a4 1 (Option.some Jvm.ClassFile.FieldType.int) ∈ tb := tb_at 850 (by decide +kernel) (by decide +kernel)
theorem tw851 : Cond.constant RJ6 265 1431655765 ∈ tb := tb_at 851 (by decide +kernel) (by decide +kernel)
theorem tw852 : Cond.constant RJ6 266 858993459 ∈ tb := tb_at 852 (by decide +kernel) (by decide +kernel)
theorem tw853 : Cond.constant RJ6 267 252645135 ∈ tb := tb_at 853 (by decide +kernel) (by decide +kernel)
theorem tw860 : Cond.methodLink RX11 89 yX11_begin ∈ tb := tb_at 860 (by decide +kernel) (by decide +kernel)
theorem tw862 : Cond.instanceMethod yX11_begin ∈ tb := tb_at 862 (by decide +kernel) (by decide +kernel)
theorem tw863 : Cond.code yX11_begin cX11_begin 2 (Option.none : Option Jvm.ClassFile.FieldType) ∈ tb := tb_at 863 (by decide +kernel) (by decide +kernel)
theorem tw864 : Cond.methodLink RX11 92 yX11_beginLine ∈ tb := tb_at 864 (by decide +kernel) (by decide +kernel)
theorem tw866 : Cond.instanceMethod yX11_beginLine ∈ tb := tb_at 866 (by decide +kernel) (by decide +kernel)
theorem tw867 : Cond.code yX11_beginLine cX11_beginLine 3 (Option.none : Option Jvm.ClassFile.FieldType) ∈ tb := tb_at 867 (by decide +kernel) (by decide +kernel)
theorem tw868 : Cond.methodLink RX11 96 yX11_goRun ∈ tb := tb_at 868 (by decide +kernel) (by decide +kernel)
theorem tw870 : Cond.instanceMethod yX11_goRun ∈ tb := tb_at 870 (by decide +kernel) (by decide +kernel)
theorem tw871 : Cond.code yX11_goRun cX11_goRun 7 (Option.some Jvm.ClassFile.FieldType.boolean) ∈ tb := tb_at 871 (by decide +kernel) (by decide +kernel)
theorem tw872 : Cond.methodLink RX11 110 yX11_in ∈ tb := tb_at 872 (by decide +kernel) (by decide +kernel)
theorem tw873 : Cond.static yX11_in ∈ tb := tb_at 873 (by decide +kernel) (by decide +kernel)
theorem tw874 : Cond.code yX11_in cX11_in 3 (Option.some Jvm.ClassFile.FieldType.boolean) ∈ tb := tb_at 874 (by decide +kernel) (by decide +kernel)
theorem tw875 : Cond.methodLink RX11 130 yX11_addCell ∈ tb := tb_at 875 (by decide +kernel) (by decide +kernel)
theorem tw877 : Cond.instanceMethod yX11_addCell ∈ tb := tb_at 877 (by decide +kernel) (by decide +kernel)
theorem tw878 : Cond.code yX11_addCell cX11_addCell 5 (Option.some Jvm.ClassFile.FieldType.boolean) ∈ tb := tb_at 878 (by decide +kernel) (by decide +kernel)
theorem tw879 : Cond.methodLink RX11 104 yX11_takeRead ∈ tb := tb_at 879 (by decide +kernel) (by decide +kernel)
theorem tw881 : Cond.instanceMethod yX11_takeRead ∈ tb := tb_at 881 (by decide +kernel) (by decide +kernel)
theorem tw882 : Cond.code yX11_takeRead cX11_takeRead 2 (Option.none : Option Jvm.ClassFile.FieldType) ∈ tb := tb_at 882 (by decide +kernel) (by decide +kernel)
theorem tw883 : Cond.fieldLink RX11 7 RX11 "now" "[I" ∈ tb := tb_at 883 (by decide +kernel) (by decide +kernel)
theorem tw884 : Cond.fieldLink RX11 13 RX11 "aside" "[I" ∈ tb := tb_at 884 (by decide +kernel) (by decide +kernel)
theorem tw885 : Cond.fieldLink RX11 16 RX11 "past" "[I" ∈ tb := tb_at 885 (by decide +kernel) (by decide +kernel)
theorem tw886 : Cond.fieldLink RX11 163 RX11 "deeds" "I" ∈ tb := tb_at 886 (by decide +kernel) (by decide +kernel)
theorem tw887 : Cond.fieldLink RX11 19 RX11 "text" "[I" ∈ tb := tb_at 887 (by decide +kernel) (by decide +kernel)
theorem tw888 : Cond.fieldLink RX11 137 RX11 "letters" "I" ∈ tb := tb_at 888 (by decide +kernel) (by decide +kernel)
theorem tw889 : Cond.fieldLink RX11 134 RX11 "at" "I" ∈ tb := tb_at 889 (by decide +kernel) (by decide +kernel)
theorem tw890 : Cond.fieldLink RX11 22 RX11 "readSize" "[I" ∈ tb := tb_at 890 (by decide +kernel) (by decide +kernel)
theorem tw891 : Cond.fieldLink RX11 114 RX11 "readJoint" "I" ∈ tb := tb_at 891 (by decide +kernel) (by decide +kernel)
theorem tw892 : Cond.fieldLink RX11 25 RX11 "readBag" "[I" ∈ tb := tb_at 892 (by decide +kernel) (by decide +kernel)
theorem tw893 : Cond.fieldLink RX11 100 RX11 "readLines" "I" ∈ tb := tb_at 893 (by decide +kernel) (by decide +kernel)
theorem tw894 : Cond.fieldLink RX11 28 RX11 "readRuns" "[I" ∈ tb := tb_at 894 (by decide +kernel) (by decide +kernel)
theorem tw895 : Cond.fieldLink RX11 31 RX11 "readLong" "[I" ∈ tb := tb_at 895 (by decide +kernel) (by decide +kernel)
theorem tw896 : Cond.fieldLink RX11 34 RX11 "readMany" "[I" ∈ tb := tb_at 896 (by decide +kernel) (by decide +kernel)
theorem tw897 : Cond.fieldLink RX11 37 RX11 "readCell" "[I" ∈ tb := tb_at 897 (by decide +kernel) (by decide +kernel)
theorem tw898 : Cond.fieldLink RX11 117 RX11 "headX" "I" ∈ tb := tb_at 898 (by decide +kernel) (by decide +kernel)
theorem tw899 : Cond.fieldLink RX11 120 RX11 "headY" "I" ∈ tb := tb_at 899 (by decide +kernel) (by decide +kernel)
theorem tw900 : Cond.fieldLink RX11 123 RX11 "isFirst" "Z" ∈ tb := tb_at 900 (by decide +kernel) (by decide +kernel)
theorem tw901 : Cond.fieldLink RX11 127 RX11 "wasAcross" "Z" ∈ tb := tb_at 901 (by decide +kernel) (by decide +kernel)
theorem tw902 : Cond.fieldLink RX11 40 RX11 "size" "[I" ∈ tb := tb_at 902 (by decide +kernel) (by decide +kernel)
theorem tw903 : Cond.fieldLink RX11 107 RX11 "lines" "I" ∈ tb := tb_at 903 (by decide +kernel) (by decide +kernel)
theorem tw904 : Cond.fieldLink RX11 43 RX11 "runs" "[I" ∈ tb := tb_at 904 (by decide +kernel) (by decide +kernel)
theorem tw905 : Cond.fieldLink RX11 46 RX11 "runLong" "[I" ∈ tb := tb_at 905 (by decide +kernel) (by decide +kernel)
theorem tw906 : Cond.fieldLink RX11 49 RX11 "cellMany" "[I" ∈ tb := tb_at 906 (by decide +kernel) (by decide +kernel)
theorem tw907 : Cond.fieldLink RX11 52 RX11 "cellAt" "[I" ∈ tb := tb_at 907 (by decide +kernel) (by decide +kernel)
theorem tw908 : Cond.fieldLink RX11 55 RX11 "pieceLong" "[I" ∈ tb := tb_at 908 (by decide +kernel) (by decide +kernel)
theorem tw909 : Cond.fieldLink RX11 58 RX11 "isBent" "[Z" ∈ tb := tb_at 909 (by decide +kernel) (by decide +kernel)
theorem tw910 : Cond.fieldLink RX11 183 RX11 "pieces" "I" ∈ tb := tb_at 910 (by decide +kernel) (by decide +kernel)
theorem tw911 : Cond.fieldLink RX11 62 RX11 "leftEven" "[I" ∈ tb := tb_at 911 (by decide +kernel) (by decide +kernel)
theorem tw912 : Cond.fieldLink RX11 65 RX11 "leftOdd" "[I" ∈ tb := tb_at 912 (by decide +kernel) (by decide +kernel)
theorem tw913 : Cond.fieldLink RX11 68 RX11 "leftOfPiece" "[I" ∈ tb := tb_at 913 (by decide +kernel) (by decide +kernel)
theorem tw914 : Cond.fieldLink RX11 71 RX11 "isBentAt" "[Z" ∈ tb := tb_at 914 (by decide +kernel) (by decide +kernel)
theorem tw915 : Cond.fieldLink RX11 74 RX11 "wayLong" "[I" ∈ tb := tb_at 915 (by decide +kernel) (by decide +kernel)
theorem tw916 : Cond.fieldLink RX11 77 RX11 "waySize" "[I" ∈ tb := tb_at 916 (by decide +kernel) (by decide +kernel)
theorem tw917 : Cond.fieldLink RX11 80 RX11 "isAslant" "[Z" ∈ tb := tb_at 917 (by decide +kernel) (by decide +kernel)
theorem tw918 : Cond.fieldLink RX11 221 RX11 "wayStones" "I" ∈ tb := tb_at 918 (by decide +kernel) (by decide +kernel)
theorem tw919 : Cond.fieldLink RX11 218 RX11 "wayCuts" "I" ∈ tb := tb_at 919 (by decide +kernel) (by decide +kernel)
theorem tw920 : Cond.fieldLink RX11 83 RX11 "asked" "[I" ∈ tb := tb_at 920 (by decide +kernel) (by decide +kernel)
theorem tw921 : Cond.fieldLink RX11 86 RX11 "turn" "[I" ∈ tb := tb_at 921 (by decide +kernel) (by decide +kernel)
theorem tw1013 : Cond.methodLink RX11 166 yX11_readText ∈ tb := tb_at 1013 (by decide +kernel) (by decide +kernel)
theorem tw1015 : Cond.instanceMethod yX11_readText ∈ tb := tb_at 1015 (by decide +kernel) (by decide +kernel)
theorem tw1016 : Cond.code yX11_readText cX11_readText 2 (Option.some Jvm.ClassFile.FieldType.int) ∈ tb := tb_at 1016 (by decide +kernel) (by decide +kernel)
theorem tw1017 : Cond.methodLink RX11 160 yX11_readItem ∈ tb := tb_at 1017 (by decide +kernel) (by decide +kernel)
theorem tw1019 : Cond.instanceMethod yX11_readItem ∈ tb := tb_at 1019 (by decide +kernel) (by decide +kernel)
theorem tw1020 : Cond.code yX11_readItem cX11_readItem 3 (Option.some Jvm.ClassFile.FieldType.boolean) ∈ tb := tb_at 1020 (by decide +kernel) (by decide +kernel)
theorem tw1021 : Cond.methodLink RX11 151 yX11_readSizes ∈ tb := tb_at 1021 (by decide +kernel) (by decide +kernel)
theorem tw1023 : Cond.instanceMethod yX11_readSizes ∈ tb := tb_at 1023 (by decide +kernel) (by decide +kernel)
theorem tw1024 : Cond.code yX11_readSizes cX11_readSizes 6 (Option.some Jvm.ClassFile.FieldType.boolean) ∈ tb := tb_at 1024 (by decide +kernel) (by decide +kernel)
theorem tw1025 : Cond.methodLink RX11 140 yX11_takeNumber ∈ tb := tb_at 1025 (by decide +kernel) (by decide +kernel)
theorem tw1027 : Cond.instanceMethod yX11_takeNumber ∈ tb := tb_at 1027 (by decide +kernel) (by decide +kernel)
theorem tw1028 : Cond.code yX11_takeNumber cX11_takeNumber 3 (Option.some Jvm.ClassFile.FieldType.int) ∈ tb := tb_at 1028 (by decide +kernel) (by decide +kernel)
theorem tw1029 : Cond.methodLink RX11 144 yX11_takeSign ∈ tb := tb_at 1029 (by decide +kernel) (by decide +kernel)
theorem tw1031 : Cond.instanceMethod yX11_takeSign ∈ tb := tb_at 1031 (by decide +kernel) (by decide +kernel)
theorem tw1032 : Cond.code yX11_takeSign cX11_takeSign 3 (Option.some Jvm.ClassFile.FieldType.boolean) ∈ tb := tb_at 1032 (by decide +kernel) (by decide +kernel)
theorem tw1033 : Cond.methodLink RX11 154 yX11_readTheBag ∈ tb := tb_at 1033 (by decide +kernel) (by decide +kernel)
theorem tw1035 : Cond.instanceMethod yX11_readTheBag ∈ tb := tb_at 1035 (by decide +kernel) (by decide +kernel)
theorem tw1036 : Cond.code yX11_readTheBag cX11_readTheBag 6 (Option.some Jvm.ClassFile.FieldType.boolean) ∈ tb := tb_at 1036 (by decide +kernel) (by decide +kernel)
theorem tw1037 : Cond.methodLink RX11 148 yX11_isColour ∈ tb := tb_at 1037 (by decide +kernel) (by decide +kernel)
theorem tw1038 : Cond.static yX11_isColour ∈ tb := tb_at 1038 (by decide +kernel) (by decide +kernel)
theorem tw1039 : Cond.code yX11_isColour cX11_isColour 1 (Option.some Jvm.ClassFile.FieldType.boolean) ∈ tb := tb_at 1039 (by decide +kernel) (by decide +kernel)
theorem tw1040 : Cond.methodLink RX11 157 yX11_readLine ∈ tb := tb_at 1040 (by decide +kernel) (by decide +kernel)
theorem tw1042 : Cond.instanceMethod yX11_readLine ∈ tb := tb_at 1042 (by decide +kernel) (by decide +kernel)
theorem tw1043 : Cond.code yX11_readLine cX11_readLine 7 (Option.some Jvm.ClassFile.FieldType.boolean) ∈ tb := tb_at 1043 (by decide +kernel) (by decide +kernel)
theorem tw1052 : Cond.methodLink RX11 169 yX11_bring ∈ tb := tb_at 1052 (by decide +kernel) (by decide +kernel)
theorem tw1053 : Cond.static yX11_bring ∈ tb := tb_at 1053 (by decide +kernel) (by decide +kernel)
theorem tw1054 : Cond.code yX11_bring cX11_bring 5 (Option.none : Option Jvm.ClassFile.FieldType) ∈ tb := tb_at 1054 (by decide +kernel) (by decide +kernel)
theorem tw1059 : Cond.methodLink RX11 173 yX11_note ∈ tb := tb_at 1059 (by decide +kernel) (by decide +kernel)
theorem tw1061 : Cond.instanceMethod yX11_note ∈ tb := tb_at 1061 (by decide +kernel) (by decide +kernel)
theorem tw1062 : Cond.code yX11_note cX11_note 2 (Option.none : Option Jvm.ClassFile.FieldType) ∈ tb := tb_at 1062 (by decide +kernel) (by decide +kernel)
theorem tw1067 : Cond.methodLink RX11 176 yX11_isLine ∈ tb := tb_at 1067 (by decide +kernel) (by decide +kernel)
theorem tw1069 : Cond.instanceMethod yX11_isLine ∈ tb := tb_at 1069 (by decide +kernel) (by decide +kernel)
theorem tw1070 : Cond.code yX11_isLine cX11_isLine 2 (Option.some Jvm.ClassFile.FieldType.boolean) ∈ tb := tb_at 1070 (by decide +kernel) (by decide +kernel)
theorem tw1071 : Cond.methodLink RX11 179 yX11_ownMany ∈ tb := tb_at 1071 (by decide +kernel) (by decide +kernel)
theorem tw1073 : Cond.instanceMethod yX11_ownMany ∈ tb := tb_at 1073 (by decide +kernel) (by decide +kernel)
theorem tw1074 : Cond.code yX11_ownMany cX11_ownMany 4 (Option.some Jvm.ClassFile.FieldType.int) ∈ tb := tb_at 1074 (by decide +kernel) (by decide +kernel)
theorem tw1087 : Cond.methodLink RX11 190 yX11_isCovered ∈ tb := tb_at 1087 (by decide +kernel) (by decide +kernel)
theorem tw1089 : Cond.instanceMethod yX11_isCovered ∈ tb := tb_at 1089 (by decide +kernel) (by decide +kernel)
theorem tw1090 : Cond.code yX11_isCovered cX11_isCovered 2 (Option.some Jvm.ClassFile.FieldType.boolean) ∈ tb := tb_at 1090 (by decide +kernel) (by decide +kernel)
theorem tw1091 : Cond.methodLink RX11 193 yX11_findPieces ∈ tb := tb_at 1091 (by decide +kernel) (by decide +kernel)
theorem tw1093 : Cond.instanceMethod yX11_findPieces ∈ tb := tb_at 1093 (by decide +kernel) (by decide +kernel)
theorem tw1094 : Cond.code yX11_findPieces cX11_findPieces 7 (Option.none : Option Jvm.ClassFile.FieldType) ∈ tb := tb_at 1094 (by decide +kernel) (by decide +kernel)
theorem tw1095 : Cond.methodLink RX11 186 yX11_endPiece ∈ tb := tb_at 1095 (by decide +kernel) (by decide +kernel)
theorem tw1097 : Cond.instanceMethod yX11_endPiece ∈ tb := tb_at 1097 (by decide +kernel) (by decide +kernel)
theorem tw1098 : Cond.code yX11_endPiece cX11_endPiece 3 (Option.none : Option Jvm.ClassFile.FieldType) ∈ tb := tb_at 1098 (by decide +kernel) (by decide +kernel)
theorem tw1103 : Cond.methodLink RX11 228 yX11_findWay ∈ tb := tb_at 1103 (by decide +kernel) (by decide +kernel)
theorem tw1105 : Cond.instanceMethod yX11_findWay ∈ tb := tb_at 1105 (by decide +kernel) (by decide +kernel)
theorem tw1106 : Cond.code yX11_findWay cX11_findWay 11 (Option.some Jvm.ClassFile.FieldType.boolean) ∈ tb := tb_at 1106 (by decide +kernel) (by decide +kernel)
theorem tw1107 : Cond.methodLink RX11 212 yX11_layRest ∈ tb := tb_at 1107 (by decide +kernel) (by decide +kernel)
theorem tw1109 : Cond.instanceMethod yX11_layRest ∈ tb := tb_at 1109 (by decide +kernel) (by decide +kernel)
theorem tw1110 : Cond.code yX11_layRest cX11_layRest 4 (Option.some Jvm.ClassFile.FieldType.int) ∈ tb := tb_at 1110 (by decide +kernel) (by decide +kernel)
theorem tw1111 : Cond.methodLink RX11 215 yX11_leastAt ∈ tb := tb_at 1111 (by decide +kernel) (by decide +kernel)
theorem tw1113 : Cond.instanceMethod yX11_leastAt ∈ tb := tb_at 1113 (by decide +kernel) (by decide +kernel)
theorem tw1114 : Cond.code yX11_leastAt cX11_leastAt 7 (Option.some Jvm.ClassFile.FieldType.int) ∈ tb := tb_at 1114 (by decide +kernel) (by decide +kernel)
theorem tw1115 : Cond.constant RX11 200 1000000 ∈ tb := tb_at 1115 (by decide +kernel) (by decide +kernel)
theorem tw1116 : Cond.methodLink RX11 208 yX11_costBy ∈ tb := tb_at 1116 (by decide +kernel) (by decide +kernel)
theorem tw1118 : Cond.instanceMethod yX11_costBy ∈ tb := tb_at 1118 (by decide +kernel) (by decide +kernel)
theorem tw1119 : Cond.code yX11_costBy cX11_costBy 8 (Option.some Jvm.ClassFile.FieldType.int) ∈ tb := tb_at 1119 (by decide +kernel) (by decide +kernel)
theorem tw1120 : Cond.methodLink RX11 197 yX11_oneOf ∈ tb := tb_at 1120 (by decide +kernel) (by decide +kernel)
theorem tw1121 : Cond.static yX11_oneOf ∈ tb := tb_at 1121 (by decide +kernel) (by decide +kernel)
theorem tw1122 : Cond.code yX11_oneOf cX11_oneOf 1 (Option.some Jvm.ClassFile.FieldType.int) ∈ tb := tb_at 1122 (by decide +kernel) (by decide +kernel)
theorem tw1123 : Cond.methodLink RX11 201 yX11_costAt ∈ tb := tb_at 1123 (by decide +kernel) (by decide +kernel)
theorem tw1125 : Cond.instanceMethod yX11_costAt ∈ tb := tb_at 1125 (by decide +kernel) (by decide +kernel)
theorem tw1126 : Cond.code yX11_costAt cX11_costAt 4 (Option.some Jvm.ClassFile.FieldType.int) ∈ tb := tb_at 1126 (by decide +kernel) (by decide +kernel)
theorem tw1127 : Cond.methodLink RX11 205 yX11_isCutAslant ∈ tb := tb_at 1127 (by decide +kernel) (by decide +kernel)
theorem tw1129 : Cond.instanceMethod yX11_isCutAslant ∈ tb := tb_at 1129 (by decide +kernel) (by decide +kernel)
theorem tw1130 : Cond.code yX11_isCutAslant cX11_isCutAslant 4 (Option.some Jvm.ClassFile.FieldType.boolean) ∈ tb := tb_at 1130 (by decide +kernel) (by decide +kernel)
theorem tw1131 : Cond.methodLink RX11 224 yX11_firstStone ∈ tb := tb_at 1131 (by decide +kernel) (by decide +kernel)
theorem tw1133 : Cond.instanceMethod yX11_firstStone ∈ tb := tb_at 1133 (by decide +kernel) (by decide +kernel)
theorem tw1134 : Cond.code yX11_firstStone cX11_firstStone 8 (Option.some Jvm.ClassFile.FieldType.int) ∈ tb := tb_at 1134 (by decide +kernel) (by decide +kernel)
theorem tw1143 : Cond.methodLink RX11 231 yX11_coverBy ∈ tb := tb_at 1143 (by decide +kernel) (by decide +kernel)
theorem tw1145 : Cond.instanceMethod yX11_coverBy ∈ tb := tb_at 1145 (by decide +kernel) (by decide +kernel)
theorem tw1146 : Cond.code yX11_coverBy cX11_coverBy 7 (Option.none : Option Jvm.ClassFile.FieldType) ∈ tb := tb_at 1146 (by decide +kernel) (by decide +kernel)
theorem tw1155 : Cond.methodLink RX11 234 yX11_layTurns ∈ tb := tb_at 1155 (by decide +kernel) (by decide +kernel)
theorem tw1157 : Cond.instanceMethod yX11_layTurns ∈ tb := tb_at 1157 (by decide +kernel) (by decide +kernel)
theorem tw1158 : Cond.code yX11_layTurns cX11_layTurns 2 (Option.none : Option Jvm.ClassFile.FieldType) ∈ tb := tb_at 1158 (by decide +kernel) (by decide +kernel)
theorem tw1159 : Cond.methodLink RX11 237 yX11_isTurns ∈ tb := tb_at 1159 (by decide +kernel) (by decide +kernel)
theorem tw1161 : Cond.instanceMethod yX11_isTurns ∈ tb := tb_at 1161 (by decide +kernel) (by decide +kernel)
theorem tw1162 : Cond.code yX11_isTurns cX11_isTurns 5 (Option.some Jvm.ClassFile.FieldType.boolean) ∈ tb := tb_at 1162 (by decide +kernel) (by decide +kernel)
theorem tw1163 : Cond.methodLink RX11 240 yX11_cutsByTurns ∈ tb := tb_at 1163 (by decide +kernel) (by decide +kernel)
theorem tw1165 : Cond.instanceMethod yX11_cutsByTurns ∈ tb := tb_at 1165 (by decide +kernel) (by decide +kernel)
theorem tw1166 : Cond.code yX11_cutsByTurns cX11_cutsByTurns 4 (Option.some Jvm.ClassFile.FieldType.int) ∈ tb := tb_at 1166 (by decide +kernel) (by decide +kernel)
theorem tw1179 : Cond.methodLink RX11 243 yX11_isOn ∈ tb := tb_at 1179 (by decide +kernel) (by decide +kernel)
theorem tw1181 : Cond.instanceMethod yX11_isOn ∈ tb := tb_at 1181 (by decide +kernel) (by decide +kernel)
theorem tw1182 : Cond.code yX11_isOn cX11_isOn 5 (Option.some Jvm.ClassFile.FieldType.boolean) ∈ tb := tb_at 1182 (by decide +kernel) (by decide +kernel)
theorem tw1187 : Cond.methodLink RX11 246 yX11_sharedCells ∈ tb := tb_at 1187 (by decide +kernel) (by decide +kernel)
theorem tw1189 : Cond.instanceMethod yX11_sharedCells ∈ tb := tb_at 1189 (by decide +kernel) (by decide +kernel)
theorem tw1190 : Cond.code yX11_sharedCells cX11_sharedCells 5 (Option.some Jvm.ClassFile.FieldType.int) ∈ tb := tb_at 1190 (by decide +kernel) (by decide +kernel)
theorem iRX0 : ∀ w ∈ u_ws RX0 TX0 9, w ∈ tb := by
  have h : (u_ws RX0 TX0 9).all (fun w => decide (w ∈ lw_tbl) && goodWord w) = true := by decide +kernel
  intro w hw
  have h1 := List.all_eq_true.mp h w hw
  simp only [Bool.and_eq_true, decide_eq_true_eq] at h1
  exact tb_of h1.1 h1.2
theorem iRX1 : ∀ w ∈ u_ws RX1 TX1 10, w ∈ tb := by
  have h : (u_ws RX1 TX1 10).all (fun w => decide (w ∈ lw_tbl) && goodWord w) = true := by decide +kernel
  intro w hw
  have h1 := List.all_eq_true.mp h w hw
  simp only [Bool.and_eq_true, decide_eq_true_eq] at h1
  exact tb_of h1.1 h1.2
theorem iRX2 : ∀ w ∈ u_ws RX2 TX2 4, w ∈ tb := by
  have h : (u_ws RX2 TX2 4).all (fun w => decide (w ∈ lw_tbl) && goodWord w) = true := by decide +kernel
  intro w hw
  have h1 := List.all_eq_true.mp h w hw
  simp only [Bool.and_eq_true, decide_eq_true_eq] at h1
  exact tb_of h1.1 h1.2
theorem iRX3 : ∀ w ∈ u_ws RX3 TX3 9, w ∈ tb := by
  have h : (u_ws RX3 TX3 9).all (fun w => decide (w ∈ lw_tbl) && goodWord w) = true := by decide +kernel
  intro w hw
  have h1 := List.all_eq_true.mp h w hw
  simp only [Bool.and_eq_true, decide_eq_true_eq] at h1
  exact tb_of h1.1 h1.2
theorem iRX4 : ∀ w ∈ u_ws RX4 TX4 2, w ∈ tb := by
  have h : (u_ws RX4 TX4 2).all (fun w => decide (w ∈ lw_tbl) && goodWord w) = true := by decide +kernel
  intro w hw
  have h1 := List.all_eq_true.mp h w hw
  simp only [Bool.and_eq_true, decide_eq_true_eq] at h1
  exact tb_of h1.1 h1.2
theorem iRX5 : ∀ w ∈ u_ws RX5 TX5 7, w ∈ tb := by
  have h : (u_ws RX5 TX5 7).all (fun w => decide (w ∈ lw_tbl) && goodWord w) = true := by decide +kernel
  intro w hw
  have h1 := List.all_eq_true.mp h w hw
  simp only [Bool.and_eq_true, decide_eq_true_eq] at h1
  exact tb_of h1.1 h1.2
theorem iRX6 : ∀ w ∈ u_ws RX6 TX6 3, w ∈ tb := by
  have h : (u_ws RX6 TX6 3).all (fun w => decide (w ∈ lw_tbl) && goodWord w) = true := by decide +kernel
  intro w hw
  have h1 := List.all_eq_true.mp h w hw
  simp only [Bool.and_eq_true, decide_eq_true_eq] at h1
  exact tb_of h1.1 h1.2
theorem iRX7 : ∀ w ∈ u_ws RX7 TX7 6, w ∈ tb := by
  have h : (u_ws RX7 TX7 6).all (fun w => decide (w ∈ lw_tbl) && goodWord w) = true := by decide +kernel
  intro w hw
  have h1 := List.all_eq_true.mp h w hw
  simp only [Bool.and_eq_true, decide_eq_true_eq] at h1
  exact tb_of h1.1 h1.2
theorem iRX8 : ∀ w ∈ u_ws RX8 TX8 4, w ∈ tb := by
  have h : (u_ws RX8 TX8 4).all (fun w => decide (w ∈ lw_tbl) && goodWord w) = true := by decide +kernel
  intro w hw
  have h1 := List.all_eq_true.mp h w hw
  simp only [Bool.and_eq_true, decide_eq_true_eq] at h1
  exact tb_of h1.1 h1.2
theorem iRX9 : ∀ w ∈ u_ws RX9 TX9 9, w ∈ tb := by
  have h : (u_ws RX9 TX9 9).all (fun w => decide (w ∈ lw_tbl) && goodWord w) = true := by decide +kernel
  intro w hw
  have h1 := List.all_eq_true.mp h w hw
  simp only [Bool.and_eq_true, decide_eq_true_eq] at h1
  exact tb_of h1.1 h1.2
theorem iRX10 : ∀ w ∈ u_ws RX10 TX10 8, w ∈ tb := by
  have h : (u_ws RX10 TX10 8).all (fun w => decide (w ∈ lw_tbl) && goodWord w) = true := by decide +kernel
  intro w hw
  have h1 := List.all_eq_true.mp h w hw
  simp only [Bool.and_eq_true, decide_eq_true_eq] at h1
  exact tb_of h1.1 h1.2
theorem iRX11 : ∀ w ∈ u_ws RX11 TX11 39, w ∈ tb := by
  have h : (u_ws RX11 TX11 39).all (fun w => decide (w ∈ lw_tbl) && goodWord w) = true := by decide +kernel
  intro w hw
  have h1 := List.all_eq_true.mp h w hw
  simp only [Bool.and_eq_true, decide_eq_true_eq] at h1
  exact tb_of h1.1 h1.2
theorem fo_RX11_107 : FOK RX11 107 12 20 := ⟨RX11, TX11, 39, rfl, iRX11, by decide, by decide, tw903⟩
theorem fo_RX11_7 : FOK RX11 7 12 0 := ⟨RX11, TX11, 39, rfl, iRX11, by decide, by decide, tw883⟩
theorem fo_RX11_22 : FOK RX11 22 12 7 := ⟨RX11, TX11, 39, rfl, iRX11, by decide, by decide, tw890⟩
theorem fo_RX11_25 : FOK RX11 25 12 9 := ⟨RX11, TX11, 39, rfl, iRX11, by decide, by decide, tw892⟩
theorem fo_RX11_100 : FOK RX11 100 12 10 := ⟨RX11, TX11, 39, rfl, iRX11, by decide, by decide, tw893⟩
theorem fo_RX11_114 : FOK RX11 114 12 8 := ⟨RX11, TX11, 39, rfl, iRX11, by decide, by decide, tw891⟩
theorem fo_RX11_28 : FOK RX11 28 12 11 := ⟨RX11, TX11, 39, rfl, iRX11, by decide, by decide, tw894⟩
theorem fo_RX11_34 : FOK RX11 34 12 13 := ⟨RX11, TX11, 39, rfl, iRX11, by decide, by decide, tw896⟩
theorem fo_RX11_117 : FOK RX11 117 12 15 := ⟨RX11, TX11, 39, rfl, iRX11, by decide, by decide, tw898⟩
theorem fo_RX11_120 : FOK RX11 120 12 16 := ⟨RX11, TX11, 39, rfl, iRX11, by decide, by decide, tw899⟩
theorem fo_RX11_123 : FOK RX11 123 12 17 := ⟨RX11, TX11, 39, rfl, iRX11, by decide, by decide, tw900⟩
theorem fo_RX11_37 : FOK RX11 37 12 14 := ⟨RX11, TX11, 39, rfl, iRX11, by decide, by decide, tw897⟩
theorem fo_RX11_127 : FOK RX11 127 12 18 := ⟨RX11, TX11, 39, rfl, iRX11, by decide, by decide, tw901⟩
theorem fo_RX11_31 : FOK RX11 31 12 12 := ⟨RX11, TX11, 39, rfl, iRX11, by decide, by decide, tw895⟩
theorem fo_RX11_134 : FOK RX11 134 12 6 := ⟨RX11, TX11, 39, rfl, iRX11, by decide, by decide, tw889⟩
theorem fo_RX11_137 : FOK RX11 137 12 5 := ⟨RX11, TX11, 39, rfl, iRX11, by decide, by decide, tw888⟩
theorem fo_RX11_19 : FOK RX11 19 12 4 := ⟨RX11, TX11, 39, rfl, iRX11, by decide, by decide, tw887⟩
theorem fo_RX11_40 : FOK RX11 40 12 19 := ⟨RX11, TX11, 39, rfl, iRX11, by decide, by decide, tw902⟩
theorem fo_RX11_43 : FOK RX11 43 12 21 := ⟨RX11, TX11, 39, rfl, iRX11, by decide, by decide, tw904⟩
theorem fo_RX11_49 : FOK RX11 49 12 23 := ⟨RX11, TX11, 39, rfl, iRX11, by decide, by decide, tw906⟩
theorem fo_RX11_46 : FOK RX11 46 12 22 := ⟨RX11, TX11, 39, rfl, iRX11, by decide, by decide, tw905⟩
theorem fo_RX11_52 : FOK RX11 52 12 24 := ⟨RX11, TX11, 39, rfl, iRX11, by decide, by decide, tw907⟩
theorem fo_RX11_163 : FOK RX11 163 12 3 := ⟨RX11, TX11, 39, rfl, iRX11, by decide, by decide, tw886⟩
theorem fo_RX11_16 : FOK RX11 16 12 2 := ⟨RX11, TX11, 39, rfl, iRX11, by decide, by decide, tw885⟩
theorem fo_RX11_55 : FOK RX11 55 12 25 := ⟨RX11, TX11, 39, rfl, iRX11, by decide, by decide, tw908⟩
theorem fo_RX11_183 : FOK RX11 183 12 27 := ⟨RX11, TX11, 39, rfl, iRX11, by decide, by decide, tw910⟩
theorem fo_RX11_58 : FOK RX11 58 12 26 := ⟨RX11, TX11, 39, rfl, iRX11, by decide, by decide, tw909⟩
theorem fo_RX11_62 : FOK RX11 62 12 28 := ⟨RX11, TX11, 39, rfl, iRX11, by decide, by decide, tw911⟩
theorem fo_RX11_65 : FOK RX11 65 12 29 := ⟨RX11, TX11, 39, rfl, iRX11, by decide, by decide, tw912⟩
theorem fo_RX11_68 : FOK RX11 68 12 30 := ⟨RX11, TX11, 39, rfl, iRX11, by decide, by decide, tw913⟩
theorem fo_RX11_71 : FOK RX11 71 12 31 := ⟨RX11, TX11, 39, rfl, iRX11, by decide, by decide, tw914⟩
theorem fo_RX11_221 : FOK RX11 221 12 35 := ⟨RX11, TX11, 39, rfl, iRX11, by decide, by decide, tw918⟩
theorem fo_RX11_74 : FOK RX11 74 12 32 := ⟨RX11, TX11, 39, rfl, iRX11, by decide, by decide, tw915⟩
theorem fo_RX11_77 : FOK RX11 77 12 33 := ⟨RX11, TX11, 39, rfl, iRX11, by decide, by decide, tw916⟩
theorem fo_RX11_80 : FOK RX11 80 12 34 := ⟨RX11, TX11, 39, rfl, iRX11, by decide, by decide, tw917⟩
theorem fo_RX11_218 : FOK RX11 218 12 36 := ⟨RX11, TX11, 39, rfl, iRX11, by decide, by decide, tw919⟩
theorem fo_RX11_86 : FOK RX11 86 12 38 := ⟨RX11, TX11, 39, rfl, iRX11, by decide, by decide, tw921⟩
theorem fo_RX11_13 : FOK RX11 13 12 1 := ⟨RX11, TX11, 39, rfl, iRX11, by decide, by decide, tw884⟩
theorem fo_RX11_83 : FOK RX11 83 12 37 := ⟨RX11, TX11, 39, rfl, iRX11, by decide, by decide, tw920⟩
theorem fo_RX0_75 : FOK RX0 75 1 5 := ⟨RX0, TX0, 9, rfl, iRX0, by decide, by decide, tw172⟩
theorem fo_RX0_28 : FOK RX0 28 1 3 := ⟨RX0, TX0, 9, rfl, iRX0, by decide, by decide, tw170⟩
theorem fo_RX0_20 : FOK RX0 20 1 1 := ⟨RX0, TX0, 9, rfl, iRX0, by decide, by decide, tw168⟩
theorem fo_RX0_71 : FOK RX0 71 3 3 := ⟨RX2, TX2, 4, rfl, iRX2, by decide, by decide, tw156⟩
theorem fo_RX0_14 : FOK RX0 14 1 0 := ⟨RX0, TX0, 9, rfl, iRX0, by decide, by decide, tw166⟩
theorem fo_RX0_49 : FOK RX0 49 7 2 := ⟨RX6, TX6, 3, rfl, iRX6, by decide, by decide, tw132⟩
theorem fo_RX0_60 : FOK RX0 60 7 0 := ⟨RX6, TX6, 3, rfl, iRX6, by decide, by decide, tw127⟩
theorem fo_RX2_11 : FOK RX2 11 3 0 := ⟨RX2, TX2, 4, rfl, iRX2, by decide, by decide, tw149⟩
theorem fo_RX0_24 : FOK RX0 24 1 2 := ⟨RX0, TX0, 9, rfl, iRX0, by decide, by decide, tw169⟩
theorem fo_RX0_63 : FOK RX0 63 7 1 := ⟨RX6, TX6, 3, rfl, iRX6, by decide, by decide, tw130⟩
theorem fo_RX0_126 : FOK RX0 126 3 2 := ⟨RX2, TX2, 4, rfl, iRX2, by decide, by decide, tw154⟩
theorem fo_RX0_127 : FOK RX0 127 3 1 := ⟨RX2, TX2, 4, rfl, iRX2, by decide, by decide, tw152⟩
theorem fo_RX0_137 : FOK RX0 137 3 0 := ⟨RX2, TX2, 4, rfl, iRX2, by decide, by decide, tw150⟩
theorem fo_RX0_99 : FOK RX0 99 1 7 := ⟨RX0, TX0, 9, rfl, iRX0, by decide, by decide, tw174⟩
theorem fo_RX0_92 : FOK RX0 92 1 6 := ⟨RX0, TX0, 9, rfl, iRX0, by decide, by decide, tw173⟩
theorem fo_RX0_31 : FOK RX0 31 1 4 := ⟨RX0, TX0, 9, rfl, iRX0, by decide, by decide, tw171⟩
theorem fo_RX0_106 : FOK RX0 106 1 8 := ⟨RX0, TX0, 9, rfl, iRX0, by decide, by decide, tw175⟩
theorem fo_RX9_31 : FOK RX9 31 10 4 := ⟨RX9, TX9, 9, rfl, iRX9, by decide, by decide, tw281⟩
theorem fo_RX9_9 : FOK RX9 9 10 0 := ⟨RX9, TX9, 9, rfl, iRX9, by decide, by decide, tw273⟩
theorem fo_RX9_15 : FOK RX9 15 10 1 := ⟨RX9, TX9, 9, rfl, iRX9, by decide, by decide, tw275⟩
theorem fo_RX9_37 : FOK RX9 37 10 6 := ⟨RX9, TX9, 9, rfl, iRX9, by decide, by decide, tw288⟩
theorem fo_RX9_18 : FOK RX9 18 10 2 := ⟨RX9, TX9, 9, rfl, iRX9, by decide, by decide, tw277⟩
theorem fo_RX9_27 : FOK RX9 27 10 3 := ⟨RX9, TX9, 9, rfl, iRX9, by decide, by decide, tw279⟩
theorem fo_RX1_18 : FOK RX1 18 2 2 := ⟨RX1, TX1, 10, rfl, iRX1, by decide, by decide, tw207⟩
theorem fo_RX1_21 : FOK RX1 21 2 3 := ⟨RX1, TX1, 10, rfl, iRX1, by decide, by decide, tw209⟩
theorem fo_RX1_24 : FOK RX1 24 2 4 := ⟨RX1, TX1, 10, rfl, iRX1, by decide, by decide, tw211⟩
theorem fo_RX1_30 : FOK RX1 30 2 6 := ⟨RX1, TX1, 10, rfl, iRX1, by decide, by decide, tw214⟩
theorem fo_RX1_27 : FOK RX1 27 2 5 := ⟨RX1, TX1, 10, rfl, iRX1, by decide, by decide, tw213⟩
theorem fo_RX1_9 : FOK RX1 9 2 0 := ⟨RX1, TX1, 10, rfl, iRX1, by decide, by decide, tw201⟩
theorem fo_RX1_39 : FOK RX1 39 8 1 := ⟨RX7, TX7, 6, rfl, iRX7, by decide, by decide, tw400⟩
theorem fo_RX1_15 : FOK RX1 15 2 1 := ⟨RX1, TX1, 10, rfl, iRX1, by decide, by decide, tw204⟩
theorem fo_RX1_52 : FOK RX1 52 8 4 := ⟨RX7, TX7, 6, rfl, iRX7, by decide, by decide, tw408⟩
theorem fo_RX1_56 : FOK RX1 56 2 7 := ⟨RX1, TX1, 10, rfl, iRX1, by decide, by decide, tw216⟩
theorem fo_RX1_57 : FOK RX1 57 2 8 := ⟨RX1, TX1, 10, rfl, iRX1, by decide, by decide, tw218⟩
theorem fo_RX1_60 : FOK RX1 60 2 9 := ⟨RX1, TX1, 10, rfl, iRX1, by decide, by decide, tw220⟩
theorem fo_RX1_63 : FOK RX1 63 6 2 := ⟨RX5, TX5, 7, rfl, iRX5, by decide, by decide, tw373⟩
theorem fo_RX1_68 : FOK RX1 68 6 0 := ⟨RX5, TX5, 7, rfl, iRX5, by decide, by decide, tw368⟩
theorem fo_RX1_75 : FOK RX1 75 10 1 := ⟨RX9, TX9, 9, rfl, iRX9, by decide, by decide, tw276⟩
theorem fo_RX1_80 : FOK RX1 80 10 2 := ⟨RX9, TX9, 9, rfl, iRX9, by decide, by decide, tw278⟩
theorem fo_RX1_81 : FOK RX1 81 10 4 := ⟨RX9, TX9, 9, rfl, iRX9, by decide, by decide, tw282⟩
theorem fo_RX1_84 : FOK RX1 84 10 5 := ⟨RX9, TX9, 9, rfl, iRX9, by decide, by decide, tw286⟩
theorem fo_RX1_86 : FOK RX1 86 10 3 := ⟨RX9, TX9, 9, rfl, iRX9, by decide, by decide, tw280⟩
theorem fo_RX1_88 : FOK RX1 88 10 6 := ⟨RX9, TX9, 9, rfl, iRX9, by decide, by decide, tw289⟩
theorem fo_RX2_18 : FOK RX2 18 3 2 := ⟨RX2, TX2, 4, rfl, iRX2, by decide, by decide, tw153⟩
theorem fo_RX2_15 : FOK RX2 15 3 1 := ⟨RX2, TX2, 4, rfl, iRX2, by decide, by decide, tw151⟩
theorem fo_RX2_22 : FOK RX2 22 3 3 := ⟨RX2, TX2, 4, rfl, iRX2, by decide, by decide, tw155⟩
theorem fo_RX3_35 : FOK RX3 35 4 8 := ⟨RX3, TX3, 9, rfl, iRX3, by decide, by decide, tw330⟩
theorem fo_RX3_9 : FOK RX3 9 4 0 := ⟨RX3, TX3, 9, rfl, iRX3, by decide, by decide, tw314⟩
theorem fo_RX3_39 : FOK RX3 39 4 5 := ⟨RX3, TX3, 9, rfl, iRX3, by decide, by decide, tw324⟩
theorem fo_RX3_43 : FOK RX3 43 4 6 := ⟨RX3, TX3, 9, rfl, iRX3, by decide, by decide, tw326⟩
theorem fo_RX3_46 : FOK RX3 46 4 7 := ⟨RX3, TX3, 9, rfl, iRX3, by decide, by decide, tw328⟩
theorem fo_RX3_15 : FOK RX3 15 4 1 := ⟨RX3, TX3, 9, rfl, iRX3, by decide, by decide, tw316⟩
theorem fo_RX3_18 : FOK RX3 18 4 2 := ⟨RX3, TX3, 9, rfl, iRX3, by decide, by decide, tw318⟩
theorem fo_RX4_11 : FOK RX4 11 5 0 := ⟨RX4, TX4, 2, rfl, iRX4, by decide, by decide, tw252⟩
theorem fo_RX4_18 : FOK RX4 18 5 1 := ⟨RX4, TX4, 2, rfl, iRX4, by decide, by decide, tw253⟩
theorem fo_RX5_18 : FOK RX5 18 6 2 := ⟨RX5, TX5, 7, rfl, iRX5, by decide, by decide, tw372⟩
theorem fo_RX5_22 : FOK RX5 22 6 3 := ⟨RX5, TX5, 7, rfl, iRX5, by decide, by decide, tw375⟩
theorem fo_RX5_25 : FOK RX5 25 6 4 := ⟨RX5, TX5, 7, rfl, iRX5, by decide, by decide, tw378⟩
theorem fo_RX5_28 : FOK RX5 28 6 5 := ⟨RX5, TX5, 7, rfl, iRX5, by decide, by decide, tw379⟩
theorem fo_RX5_31 : FOK RX5 31 6 6 := ⟨RX5, TX5, 7, rfl, iRX5, by decide, by decide, tw380⟩
theorem fo_RX5_9 : FOK RX5 9 6 0 := ⟨RX5, TX5, 7, rfl, iRX5, by decide, by decide, tw366⟩
theorem fo_RX5_15 : FOK RX5 15 6 1 := ⟨RX5, TX5, 7, rfl, iRX5, by decide, by decide, tw370⟩
theorem fo_RX6_19 : FOK RX6 19 7 2 := ⟨RX6, TX6, 3, rfl, iRX6, by decide, by decide, tw131⟩
theorem fo_RX6_9 : FOK RX6 9 7 0 := ⟨RX6, TX6, 3, rfl, iRX6, by decide, by decide, tw126⟩
theorem fo_RX6_15 : FOK RX6 15 7 1 := ⟨RX6, TX6, 3, rfl, iRX6, by decide, by decide, tw129⟩
theorem fo_RX6_23 : FOK RX6 23 6 3 := ⟨RX5, TX5, 7, rfl, iRX5, by decide, by decide, tw376⟩
theorem fo_RX6_28 : FOK RX6 28 6 1 := ⟨RX5, TX5, 7, rfl, iRX5, by decide, by decide, tw371⟩
theorem fo_RX6_31 : FOK RX6 31 6 0 := ⟨RX5, TX5, 7, rfl, iRX5, by decide, by decide, tw367⟩
theorem fo_RX7_9 : FOK RX7 9 8 0 := ⟨RX7, TX7, 6, rfl, iRX7, by decide, by decide, tw396⟩
theorem fo_RX7_15 : FOK RX7 15 8 1 := ⟨RX7, TX7, 6, rfl, iRX7, by decide, by decide, tw399⟩
theorem fo_RX7_24 : FOK RX7 24 8 3 := ⟨RX7, TX7, 6, rfl, iRX7, by decide, by decide, tw405⟩
theorem fo_RX7_34 : FOK RX7 34 8 4 := ⟨RX7, TX7, 6, rfl, iRX7, by decide, by decide, tw407⟩
theorem fo_RX7_38 : FOK RX7 38 8 5 := ⟨RX7, TX7, 6, rfl, iRX7, by decide, by decide, tw410⟩
theorem fo_RX8_19 : FOK RX8 19 9 3 := ⟨RX8, TX8, 4, rfl, iRX8, by decide, by decide, tw102⟩
theorem fo_RX8_9 : FOK RX8 9 9 0 := ⟨RX8, TX8, 4, rfl, iRX8, by decide, by decide, tw98⟩
theorem fo_RX8_28 : FOK RX8 28 9 2 := ⟨RX8, TX8, 4, rfl, iRX8, by decide, by decide, tw100⟩
theorem fo_RX8_15 : FOK RX8 15 9 1 := ⟨RX8, TX8, 4, rfl, iRX8, by decide, by decide, tw99⟩
theorem fo_RX8_55 : FOK RX8 55 8 0 := ⟨RX7, TX7, 6, rfl, iRX7, by decide, by decide, tw397⟩
theorem fo_RX8_64 : FOK RX8 64 8 4 := ⟨RX7, TX7, 6, rfl, iRX7, by decide, by decide, tw409⟩
theorem fo_RX8_71 : FOK RX8 71 8 1 := ⟨RX7, TX7, 6, rfl, iRX7, by decide, by decide, tw401⟩
theorem fo_RX8_74 : FOK RX8 74 8 5 := ⟨RX7, TX7, 6, rfl, iRX7, by decide, by decide, tw411⟩
theorem fo_RX8_77 : FOK RX8 77 8 2 := ⟨RX7, TX7, 6, rfl, iRX7, by decide, by decide, tw404⟩
theorem fo_RX8_87 : FOK RX8 87 8 3 := ⟨RX7, TX7, 6, rfl, iRX7, by decide, by decide, tw406⟩
theorem fo_RX9_34 : FOK RX9 34 10 5 := ⟨RX9, TX9, 9, rfl, iRX9, by decide, by decide, tw284⟩
theorem fo_RX9_40 : FOK RX9 40 10 7 := ⟨RX9, TX9, 9, rfl, iRX9, by decide, by decide, tw290⟩
theorem fo_RX10_12 : FOK RX10 12 11 0 := ⟨RX10, TX10, 8, rfl, iRX10, by decide, by decide, tw568⟩
theorem fo_RX10_80 : FOK RX10 80 9 3 := ⟨RX8, TX8, 4, rfl, iRX8, by decide, by decide, tw101⟩
theorem fo_RX10_57 : FOK RX10 57 11 7 := ⟨RX10, TX10, 8, rfl, iRX10, by decide, by decide, tw575⟩
theorem fo_RX10_46 : FOK RX10 46 11 5 := ⟨RX10, TX10, 8, rfl, iRX10, by decide, by decide, tw573⟩
theorem fo_RX10_40 : FOK RX10 40 11 4 := ⟨RX10, TX10, 8, rfl, iRX10, by decide, by decide, tw572⟩
theorem fo_RX10_238 : FOK RX10 238 10 8 := ⟨RX9, TX9, 9, rfl, iRX9, by decide, by decide, tw293⟩
theorem fo_RX10_241 : FOK RX10 241 4 8 := ⟨RX3, TX3, 9, rfl, iRX3, by decide, by decide, tw331⟩
theorem fo_RX10_214 : FOK RX10 214 8 5 := ⟨RX7, TX7, 6, rfl, iRX7, by decide, by decide, tw412⟩
theorem fo_RX10_53 : FOK RX10 53 11 6 := ⟨RX10, TX10, 8, rfl, iRX10, by decide, by decide, tw574⟩
theorem fo_RX10_26 : FOK RX10 26 11 2 := ⟨RX10, TX10, 8, rfl, iRX10, by decide, by decide, tw570⟩
theorem fo_RX10_33 : FOK RX10 33 11 3 := ⟨RX10, TX10, 8, rfl, iRX10, by decide, by decide, tw571⟩
theorem fo_RX10_206 : FOK RX10 206 5 1 := ⟨RX4, TX4, 2, rfl, iRX4, by decide, by decide, tw254⟩
theorem fo_RX10_87 : FOK RX10 87 2 7 := ⟨RX1, TX1, 10, rfl, iRX1, by decide, by decide, tw217⟩
theorem fo_RX10_120 : FOK RX10 120 2 4 := ⟨RX1, TX1, 10, rfl, iRX1, by decide, by decide, tw212⟩
theorem fo_RX10_117 : FOK RX10 117 2 3 := ⟨RX1, TX1, 10, rfl, iRX1, by decide, by decide, tw210⟩
theorem fo_RX10_97 : FOK RX10 97 8 2 := ⟨RX7, TX7, 6, rfl, iRX7, by decide, by decide, tw403⟩
theorem fo_RX10_109 : FOK RX10 109 2 2 := ⟨RX1, TX1, 10, rfl, iRX1, by decide, by decide, tw208⟩
theorem fo_RX10_101 : FOK RX10 101 6 3 := ⟨RX5, TX5, 7, rfl, iRX5, by decide, by decide, tw377⟩
theorem fo_RX10_106 : FOK RX10 106 6 2 := ⟨RX5, TX5, 7, rfl, iRX5, by decide, by decide, tw374⟩
theorem fo_RX10_123 : FOK RX10 123 6 0 := ⟨RX5, TX5, 7, rfl, iRX5, by decide, by decide, tw369⟩
theorem fo_RX10_130 : FOK RX10 130 2 0 := ⟨RX1, TX1, 10, rfl, iRX1, by decide, by decide, tw203⟩
theorem fo_RX10_19 : FOK RX10 19 11 1 := ⟨RX10, TX10, 8, rfl, iRX10, by decide, by decide, tw569⟩
theorem fo_RX10_136 : FOK RX10 136 1 0 := ⟨RX0, TX0, 9, rfl, iRX0, by decide, by decide, tw167⟩
theorem fo_RX10_146 : FOK RX10 146 7 2 := ⟨RX6, TX6, 3, rfl, iRX6, by decide, by decide, tw133⟩
theorem fo_RX10_149 : FOK RX10 149 7 0 := ⟨RX6, TX6, 3, rfl, iRX6, by decide, by decide, tw128⟩
theorem fo_RX10_170 : FOK RX10 170 8 0 := ⟨RX7, TX7, 6, rfl, iRX7, by decide, by decide, tw398⟩
theorem fo_RX10_199 : FOK RX10 199 2 1 := ⟨RX1, TX1, 10, rfl, iRX1, by decide, by decide, tw206⟩
theorem fo_RX10_223 : FOK RX10 223 2 9 := ⟨RX1, TX1, 10, rfl, iRX1, by decide, by decide, tw221⟩
theorem fo_RX10_220 : FOK RX10 220 2 8 := ⟨RX1, TX1, 10, rfl, iRX1, by decide, by decide, tw219⟩
theorem fp_12_10 : FPK 12 10 false (.int) := ⟨RX11, TX11, 39, rfl, ⟨tyX11, tyX11_ok, rfl⟩, nmX11, rfl, rfl⟩
theorem fp_12_8 : FPK 12 8 false (.int) := ⟨RX11, TX11, 39, rfl, ⟨tyX11, tyX11_ok, rfl⟩, nmX11, rfl, rfl⟩
theorem fp_12_15 : FPK 12 15 false (.int) := ⟨RX11, TX11, 39, rfl, ⟨tyX11, tyX11_ok, rfl⟩, nmX11, rfl, rfl⟩
theorem fp_12_16 : FPK 12 16 false (.int) := ⟨RX11, TX11, 39, rfl, ⟨tyX11, tyX11_ok, rfl⟩, nmX11, rfl, rfl⟩
theorem fp_12_17 : FPK 12 17 false (.boolean) := ⟨RX11, TX11, 39, rfl, ⟨tyX11, tyX11_ok, rfl⟩, nmX11, rfl, rfl⟩
theorem fp_12_18 : FPK 12 18 false (.boolean) := ⟨RX11, TX11, 39, rfl, ⟨tyX11, tyX11_ok, rfl⟩, nmX11, rfl, rfl⟩
theorem fp_12_6 : FPK 12 6 false (.int) := ⟨RX11, TX11, 39, rfl, ⟨tyX11, tyX11_ok, rfl⟩, nmX11, rfl, rfl⟩
theorem fp_12_3 : FPK 12 3 false (.int) := ⟨RX11, TX11, 39, rfl, ⟨tyX11, tyX11_ok, rfl⟩, nmX11, rfl, rfl⟩
theorem fp_12_20 : FPK 12 20 false (.int) := ⟨RX11, TX11, 39, rfl, ⟨tyX11, tyX11_ok, rfl⟩, nmX11, rfl, rfl⟩
theorem fp_12_5 : FPK 12 5 false (.int) := ⟨RX11, TX11, 39, rfl, ⟨tyX11, tyX11_ok, rfl⟩, nmX11, rfl, rfl⟩
theorem fp_12_27 : FPK 12 27 false (.int) := ⟨RX11, TX11, 39, rfl, ⟨tyX11, tyX11_ok, rfl⟩, nmX11, rfl, rfl⟩
theorem fp_12_36 : FPK 12 36 false (.int) := ⟨RX11, TX11, 39, rfl, ⟨tyX11, tyX11_ok, rfl⟩, nmX11, rfl, rfl⟩
theorem fp_12_35 : FPK 12 35 false (.int) := ⟨RX11, TX11, 39, rfl, ⟨tyX11, tyX11_ok, rfl⟩, nmX11, rfl, rfl⟩
theorem fp_3_3 : FPK 3 3 false (.boolean) := ⟨RX2, TX2, 4, rfl, ⟨tyX2, tyX2_ok, rfl⟩, nmX2, rfl, rfl⟩
theorem fp_1_5 : FPK 1 5 false (.int) := ⟨RX0, TX0, 9, rfl, ⟨tyX0, tyX0_ok, rfl⟩, nmX0, rfl, rfl⟩
theorem fp_10_3 : FPK 10 3 false (.int) := ⟨RX9, TX9, 9, rfl, ⟨tyX9, tyX9_ok, rfl⟩, nmX9, rfl, rfl⟩
theorem fp_10_4 : FPK 10 4 false (.int) := ⟨RX9, TX9, 9, rfl, ⟨tyX9, tyX9_ok, rfl⟩, nmX9, rfl, rfl⟩
theorem fp_10_6 : FPK 10 6 false (.int) := ⟨RX9, TX9, 9, rfl, ⟨tyX9, tyX9_ok, rfl⟩, nmX9, rfl, rfl⟩
theorem fp_1_6 : FPK 1 6 false (.int) := ⟨RX0, TX0, 9, rfl, ⟨tyX0, tyX0_ok, rfl⟩, nmX0, rfl, rfl⟩
theorem fp_1_7 : FPK 1 7 false (.int) := ⟨RX0, TX0, 9, rfl, ⟨tyX0, tyX0_ok, rfl⟩, nmX0, rfl, rfl⟩
theorem fp_1_8 : FPK 1 8 false (.int) := ⟨RX0, TX0, 9, rfl, ⟨tyX0, tyX0_ok, rfl⟩, nmX0, rfl, rfl⟩
theorem fp_2_7 : FPK 2 7 false (.int) := ⟨RX1, TX1, 10, rfl, ⟨tyX1, tyX1_ok, rfl⟩, nmX1, rfl, rfl⟩
theorem fp_2_8 : FPK 2 8 false (.int) := ⟨RX1, TX1, 10, rfl, ⟨tyX1, tyX1_ok, rfl⟩, nmX1, rfl, rfl⟩
theorem fp_2_9 : FPK 2 9 false (.int) := ⟨RX1, TX1, 10, rfl, ⟨tyX1, tyX1_ok, rfl⟩, nmX1, rfl, rfl⟩
theorem fp_3_2 : FPK 3 2 false (.int) := ⟨RX2, TX2, 4, rfl, ⟨tyX2, tyX2_ok, rfl⟩, nmX2, rfl, rfl⟩
theorem fp_4_5 : FPK 4 5 false (.int) := ⟨RX3, TX3, 9, rfl, ⟨tyX3, tyX3_ok, rfl⟩, nmX3, rfl, rfl⟩
theorem fp_4_6 : FPK 4 6 false (.int) := ⟨RX3, TX3, 9, rfl, ⟨tyX3, tyX3_ok, rfl⟩, nmX3, rfl, rfl⟩
theorem fp_4_7 : FPK 4 7 false (.boolean) := ⟨RX3, TX3, 9, rfl, ⟨tyX3, tyX3_ok, rfl⟩, nmX3, rfl, rfl⟩
theorem fp_4_8 : FPK 4 8 false (.boolean) := ⟨RX3, TX3, 9, rfl, ⟨tyX3, tyX3_ok, rfl⟩, nmX3, rfl, rfl⟩
theorem fp_5_1 : FPK 5 1 false (.int) := ⟨RX4, TX4, 2, rfl, ⟨tyX4, tyX4_ok, rfl⟩, nmX4, rfl, rfl⟩
theorem fp_6_2 : FPK 6 2 false (.int) := ⟨RX5, TX5, 7, rfl, ⟨tyX5, tyX5_ok, rfl⟩, nmX5, rfl, rfl⟩
theorem fp_6_3 : FPK 6 3 false (.int) := ⟨RX5, TX5, 7, rfl, ⟨tyX5, tyX5_ok, rfl⟩, nmX5, rfl, rfl⟩
theorem fp_6_4 : FPK 6 4 false (.int) := ⟨RX5, TX5, 7, rfl, ⟨tyX5, tyX5_ok, rfl⟩, nmX5, rfl, rfl⟩
theorem fp_6_5 : FPK 6 5 false (.int) := ⟨RX5, TX5, 7, rfl, ⟨tyX5, tyX5_ok, rfl⟩, nmX5, rfl, rfl⟩
theorem fp_6_6 : FPK 6 6 false (.boolean) := ⟨RX5, TX5, 7, rfl, ⟨tyX5, tyX5_ok, rfl⟩, nmX5, rfl, rfl⟩
theorem fp_7_2 : FPK 7 2 false (.int) := ⟨RX6, TX6, 3, rfl, ⟨tyX6, tyX6_ok, rfl⟩, nmX6, rfl, rfl⟩
theorem fp_8_4 : FPK 8 4 false (.int) := ⟨RX7, TX7, 6, rfl, ⟨tyX7, tyX7_ok, rfl⟩, nmX7, rfl, rfl⟩
theorem fp_8_5 : FPK 8 5 false (.int) := ⟨RX7, TX7, 6, rfl, ⟨tyX7, tyX7_ok, rfl⟩, nmX7, rfl, rfl⟩
theorem fp_9_3 : FPK 9 3 false (.int) := ⟨RX8, TX8, 4, rfl, ⟨tyX8, tyX8_ok, rfl⟩, nmX8, rfl, rfl⟩
theorem fp_9_2 : FPK 9 2 false (.int) := ⟨RX8, TX8, 4, rfl, ⟨tyX8, tyX8_ok, rfl⟩, nmX8, rfl, rfl⟩
theorem fp_10_5 : FPK 10 5 false (.int) := ⟨RX9, TX9, 9, rfl, ⟨tyX9, tyX9_ok, rfl⟩, nmX9, rfl, rfl⟩
theorem fp_10_7 : FPK 10 7 false (.boolean) := ⟨RX9, TX9, 9, rfl, ⟨tyX9, tyX9_ok, rfl⟩, nmX9, rfl, rfl⟩
theorem fp_10_8 : FPK 10 8 false (.boolean) := ⟨RX9, TX9, 9, rfl, ⟨tyX9, tyX9_ok, rfl⟩, nmX9, rfl, rfl⟩
theorem fp_11_6 : FPK 11 6 false (.object "StoneFloors$Plan") := ⟨RX10, TX10, 8, rfl, ⟨tyX10, tyX10_ok, rfl⟩, nmX10, rfl, rfl⟩
theorem fp_11_7 : FPK 11 7 false (.object "StoneFloors$Plan") := ⟨RX10, TX10, 8, rfl, ⟨tyX10, tyX10_ok, rfl⟩, nmX10, rfl, rfl⟩
theorem hd_X11_in : yX11_in.cls ≠ "java/lang/invoke/MethodHandle" ∧ yX11_in.cls ≠ "java/lang/invoke/VarHandle" ∧ (parseMethodDescriptor yX11_in.desc).map (fun d => d.parameters.length) = some 3 := by decide +kernel
theorem hdV_X11_addCell : yX11_addCell.cls = RX11 ∧ yX11_addCell.cls ≠ "java/lang/invoke/MethodHandle" ∧ yX11_addCell.cls ≠ "java/lang/invoke/VarHandle" ∧ (parseMethodDescriptor yX11_addCell.desc).map (fun d => d.parameters.length) = some 0 := by decide +kernel
theorem hdV_X11_takeNumber : yX11_takeNumber.cls = RX11 ∧ yX11_takeNumber.cls ≠ "java/lang/invoke/MethodHandle" ∧ yX11_takeNumber.cls ≠ "java/lang/invoke/VarHandle" ∧ (parseMethodDescriptor yX11_takeNumber.desc).map (fun d => d.parameters.length) = some 0 := by decide +kernel
theorem hdV_X11_takeSign : yX11_takeSign.cls = RX11 ∧ yX11_takeSign.cls ≠ "java/lang/invoke/MethodHandle" ∧ yX11_takeSign.cls ≠ "java/lang/invoke/VarHandle" ∧ (parseMethodDescriptor yX11_takeSign.desc).map (fun d => d.parameters.length) = some 1 := by decide +kernel
theorem hd_X11_isColour : yX11_isColour.cls ≠ "java/lang/invoke/MethodHandle" ∧ yX11_isColour.cls ≠ "java/lang/invoke/VarHandle" ∧ (parseMethodDescriptor yX11_isColour.desc).map (fun d => d.parameters.length) = some 1 := by decide +kernel
theorem hdV_X11_goRun : yX11_goRun.cls = RX11 ∧ yX11_goRun.cls ≠ "java/lang/invoke/MethodHandle" ∧ yX11_goRun.cls ≠ "java/lang/invoke/VarHandle" ∧ (parseMethodDescriptor yX11_goRun.desc).map (fun d => d.parameters.length) = some 2 := by decide +kernel
theorem hdV_X11_beginLine : yX11_beginLine.cls = RX11 ∧ yX11_beginLine.cls ≠ "java/lang/invoke/MethodHandle" ∧ yX11_beginLine.cls ≠ "java/lang/invoke/VarHandle" ∧ (parseMethodDescriptor yX11_beginLine.desc).map (fun d => d.parameters.length) = some 2 := by decide +kernel
theorem hdV_X11_readTheBag : yX11_readTheBag.cls = RX11 ∧ yX11_readTheBag.cls ≠ "java/lang/invoke/MethodHandle" ∧ yX11_readTheBag.cls ≠ "java/lang/invoke/VarHandle" ∧ (parseMethodDescriptor yX11_readTheBag.desc).map (fun d => d.parameters.length) = some 0 := by decide +kernel
theorem hdV_X11_readLine : yX11_readLine.cls = RX11 ∧ yX11_readLine.cls ≠ "java/lang/invoke/MethodHandle" ∧ yX11_readLine.cls ≠ "java/lang/invoke/VarHandle" ∧ (parseMethodDescriptor yX11_readLine.desc).map (fun d => d.parameters.length) = some 0 := by decide +kernel
theorem hdV_X11_readSizes : yX11_readSizes.cls = RX11 ∧ yX11_readSizes.cls ≠ "java/lang/invoke/MethodHandle" ∧ yX11_readSizes.cls ≠ "java/lang/invoke/VarHandle" ∧ (parseMethodDescriptor yX11_readSizes.desc).map (fun d => d.parameters.length) = some 0 := by decide +kernel
theorem hdV_X11_readItem : yX11_readItem.cls = RX11 ∧ yX11_readItem.cls ≠ "java/lang/invoke/MethodHandle" ∧ yX11_readItem.cls ≠ "java/lang/invoke/VarHandle" ∧ (parseMethodDescriptor yX11_readItem.desc).map (fun d => d.parameters.length) = some 0 := by decide +kernel
theorem hdV_X11_begin : yX11_begin.cls = RX11 ∧ yX11_begin.cls ≠ "java/lang/invoke/MethodHandle" ∧ yX11_begin.cls ≠ "java/lang/invoke/VarHandle" ∧ (parseMethodDescriptor yX11_begin.desc).map (fun d => d.parameters.length) = some 0 := by decide +kernel
theorem hdV_X11_readText : yX11_readText.cls = RX11 ∧ yX11_readText.cls ≠ "java/lang/invoke/MethodHandle" ∧ yX11_readText.cls ≠ "java/lang/invoke/VarHandle" ∧ (parseMethodDescriptor yX11_readText.desc).map (fun d => d.parameters.length) = some 0 := by decide +kernel
theorem hdV_X11_takeRead : yX11_takeRead.cls = RX11 ∧ yX11_takeRead.cls ≠ "java/lang/invoke/MethodHandle" ∧ yX11_takeRead.cls ≠ "java/lang/invoke/VarHandle" ∧ (parseMethodDescriptor yX11_takeRead.desc).map (fun d => d.parameters.length) = some 0 := by decide +kernel
theorem hd_X11_bring : yX11_bring.cls ≠ "java/lang/invoke/MethodHandle" ∧ yX11_bring.cls ≠ "java/lang/invoke/VarHandle" ∧ (parseMethodDescriptor yX11_bring.desc).map (fun d => d.parameters.length) = some 4 := by decide +kernel
theorem hdV_X11_note : yX11_note.cls = RX11 ∧ yX11_note.cls ≠ "java/lang/invoke/MethodHandle" ∧ yX11_note.cls ≠ "java/lang/invoke/VarHandle" ∧ (parseMethodDescriptor yX11_note.desc).map (fun d => d.parameters.length) = some 0 := by decide +kernel
theorem hdV_X11_isLine : yX11_isLine.cls = RX11 ∧ yX11_isLine.cls ≠ "java/lang/invoke/MethodHandle" ∧ yX11_isLine.cls ≠ "java/lang/invoke/VarHandle" ∧ (parseMethodDescriptor yX11_isLine.desc).map (fun d => d.parameters.length) = some 1 := by decide +kernel
theorem hdV_X11_ownMany : yX11_ownMany.cls = RX11 ∧ yX11_ownMany.cls ≠ "java/lang/invoke/MethodHandle" ∧ yX11_ownMany.cls ≠ "java/lang/invoke/VarHandle" ∧ (parseMethodDescriptor yX11_ownMany.desc).map (fun d => d.parameters.length) = some 1 := by decide +kernel
theorem hdV_X11_endPiece : yX11_endPiece.cls = RX11 ∧ yX11_endPiece.cls ≠ "java/lang/invoke/MethodHandle" ∧ yX11_endPiece.cls ≠ "java/lang/invoke/VarHandle" ∧ (parseMethodDescriptor yX11_endPiece.desc).map (fun d => d.parameters.length) = some 2 := by decide +kernel
theorem hdV_X11_isCovered : yX11_isCovered.cls = RX11 ∧ yX11_isCovered.cls ≠ "java/lang/invoke/MethodHandle" ∧ yX11_isCovered.cls ≠ "java/lang/invoke/VarHandle" ∧ (parseMethodDescriptor yX11_isCovered.desc).map (fun d => d.parameters.length) = some 1 := by decide +kernel
theorem hdV_X11_findPieces : yX11_findPieces.cls = RX11 ∧ yX11_findPieces.cls ≠ "java/lang/invoke/MethodHandle" ∧ yX11_findPieces.cls ≠ "java/lang/invoke/VarHandle" ∧ (parseMethodDescriptor yX11_findPieces.desc).map (fun d => d.parameters.length) = some 1 := by decide +kernel
theorem hdV_X11_isCutAslant : yX11_isCutAslant.cls = RX11 ∧ yX11_isCutAslant.cls ≠ "java/lang/invoke/MethodHandle" ∧ yX11_isCutAslant.cls ≠ "java/lang/invoke/VarHandle" ∧ (parseMethodDescriptor yX11_isCutAslant.desc).map (fun d => d.parameters.length) = some 3 := by decide +kernel
theorem hd_X11_oneOf : yX11_oneOf.cls ≠ "java/lang/invoke/MethodHandle" ∧ yX11_oneOf.cls ≠ "java/lang/invoke/VarHandle" ∧ (parseMethodDescriptor yX11_oneOf.desc).map (fun d => d.parameters.length) = some 1 := by decide +kernel
theorem hdV_X11_costAt : yX11_costAt.cls = RX11 ∧ yX11_costAt.cls ≠ "java/lang/invoke/MethodHandle" ∧ yX11_costAt.cls ≠ "java/lang/invoke/VarHandle" ∧ (parseMethodDescriptor yX11_costAt.desc).map (fun d => d.parameters.length) = some 2 := by decide +kernel
theorem hdV_X11_costBy : yX11_costBy.cls = RX11 ∧ yX11_costBy.cls ≠ "java/lang/invoke/MethodHandle" ∧ yX11_costBy.cls ≠ "java/lang/invoke/VarHandle" ∧ (parseMethodDescriptor yX11_costBy.desc).map (fun d => d.parameters.length) = some 4 := by decide +kernel
theorem hdV_X11_leastAt : yX11_leastAt.cls = RX11 ∧ yX11_leastAt.cls ≠ "java/lang/invoke/MethodHandle" ∧ yX11_leastAt.cls ≠ "java/lang/invoke/VarHandle" ∧ (parseMethodDescriptor yX11_leastAt.desc).map (fun d => d.parameters.length) = some 2 := by decide +kernel
theorem hdV_X11_firstStone : yX11_firstStone.cls = RX11 ∧ yX11_firstStone.cls ≠ "java/lang/invoke/MethodHandle" ∧ yX11_firstStone.cls ≠ "java/lang/invoke/VarHandle" ∧ (parseMethodDescriptor yX11_firstStone.desc).map (fun d => d.parameters.length) = some 3 := by decide +kernel
theorem hdV_X11_layRest : yX11_layRest.cls = RX11 ∧ yX11_layRest.cls ≠ "java/lang/invoke/MethodHandle" ∧ yX11_layRest.cls ≠ "java/lang/invoke/VarHandle" ∧ (parseMethodDescriptor yX11_layRest.desc).map (fun d => d.parameters.length) = some 0 := by decide +kernel
theorem hdV_X11_findWay : yX11_findWay.cls = RX11 ∧ yX11_findWay.cls ≠ "java/lang/invoke/MethodHandle" ∧ yX11_findWay.cls ≠ "java/lang/invoke/VarHandle" ∧ (parseMethodDescriptor yX11_findWay.desc).map (fun d => d.parameters.length) = some 2 := by decide +kernel
theorem hdV_X11_coverBy : yX11_coverBy.cls = RX11 ∧ yX11_coverBy.cls ≠ "java/lang/invoke/MethodHandle" ∧ yX11_coverBy.cls ≠ "java/lang/invoke/VarHandle" ∧ (parseMethodDescriptor yX11_coverBy.desc).map (fun d => d.parameters.length) = some 2 := by decide +kernel
theorem hdV_X11_layTurns : yX11_layTurns.cls = RX11 ∧ yX11_layTurns.cls ≠ "java/lang/invoke/MethodHandle" ∧ yX11_layTurns.cls ≠ "java/lang/invoke/VarHandle" ∧ (parseMethodDescriptor yX11_layTurns.desc).map (fun d => d.parameters.length) = some 1 := by decide +kernel
theorem hdV_X11_isTurns : yX11_isTurns.cls = RX11 ∧ yX11_isTurns.cls ≠ "java/lang/invoke/MethodHandle" ∧ yX11_isTurns.cls ≠ "java/lang/invoke/VarHandle" ∧ (parseMethodDescriptor yX11_isTurns.desc).map (fun d => d.parameters.length) = some 1 := by decide +kernel
theorem hdV_X11_cutsByTurns : yX11_cutsByTurns.cls = RX11 ∧ yX11_cutsByTurns.cls ≠ "java/lang/invoke/MethodHandle" ∧ yX11_cutsByTurns.cls ≠ "java/lang/invoke/VarHandle" ∧ (parseMethodDescriptor yX11_cutsByTurns.desc).map (fun d => d.parameters.length) = some 1 := by decide +kernel
theorem hdV_X11_isOn : yX11_isOn.cls = RX11 ∧ yX11_isOn.cls ≠ "java/lang/invoke/MethodHandle" ∧ yX11_isOn.cls ≠ "java/lang/invoke/VarHandle" ∧ (parseMethodDescriptor yX11_isOn.desc).map (fun d => d.parameters.length) = some 2 := by decide +kernel
theorem hdV_X11_sharedCells : yX11_sharedCells.cls = RX11 ∧ yX11_sharedCells.cls ≠ "java/lang/invoke/MethodHandle" ∧ yX11_sharedCells.cls ≠ "java/lang/invoke/VarHandle" ∧ (parseMethodDescriptor yX11_sharedCells.desc).map (fun d => d.parameters.length) = some 0 := by decide +kernel
theorem hdV_X2_stones : yX2_stones.cls = RX2 ∧ yX2_stones.cls ≠ "java/lang/invoke/MethodHandle" ∧ yX2_stones.cls ≠ "java/lang/invoke/VarHandle" ∧ (parseMethodDescriptor yX2_stones.desc).map (fun d => d.parameters.length) = some 1 := by decide +kernel
theorem hdV_X2_canBeTakenFrom : yX2_canBeTakenFrom.cls = RX2 ∧ yX2_canBeTakenFrom.cls ≠ "java/lang/invoke/MethodHandle" ∧ yX2_canBeTakenFrom.cls ≠ "java/lang/invoke/VarHandle" ∧ (parseMethodDescriptor yX2_canBeTakenFrom.desc).map (fun d => d.parameters.length) = some 4 := by decide +kernel
theorem hdV_X0_cellsOf : yX0_cellsOf.cls = RX0 ∧ yX0_cellsOf.cls ≠ "java/lang/invoke/MethodHandle" ∧ yX0_cellsOf.cls ≠ "java/lang/invoke/VarHandle" ∧ (parseMethodDescriptor yX0_cellsOf.desc).map (fun d => d.parameters.length) = some 1 := by decide +kernel
theorem hdV_X0_worthOf : yX0_worthOf.cls = RX0 ∧ yX0_worthOf.cls ≠ "java/lang/invoke/MethodHandle" ∧ yX0_worthOf.cls ≠ "java/lang/invoke/VarHandle" ∧ (parseMethodDescriptor yX0_worthOf.desc).map (fun d => d.parameters.length) = some 5 := by decide +kernel
theorem hdV_X0_layingsOf : yX0_layingsOf.cls = RX0 ∧ yX0_layingsOf.cls ≠ "java/lang/invoke/MethodHandle" ∧ yX0_layingsOf.cls ≠ "java/lang/invoke/VarHandle" ∧ (parseMethodDescriptor yX0_layingsOf.desc).map (fun d => d.parameters.length) = some 2 := by decide +kernel
theorem hdV_X0_isAslant : yX0_isAslant.cls = RX0 ∧ yX0_isAslant.cls ≠ "java/lang/invoke/MethodHandle" ∧ yX0_isAslant.cls ≠ "java/lang/invoke/VarHandle" ∧ (parseMethodDescriptor yX0_isAslant.desc).map (fun d => d.parameters.length) = some 2 := by decide +kernel
theorem hdV_X0_ownWorth : yX0_ownWorth.cls = RX0 ∧ yX0_ownWorth.cls ≠ "java/lang/invoke/MethodHandle" ∧ yX0_ownWorth.cls ≠ "java/lang/invoke/VarHandle" ∧ (parseMethodDescriptor yX0_ownWorth.desc).map (fun d => d.parameters.length) = some 2 := by decide +kernel
theorem hdV_X0_isNext : yX0_isNext.cls = RX0 ∧ yX0_isNext.cls ≠ "java/lang/invoke/MethodHandle" ∧ yX0_isNext.cls ≠ "java/lang/invoke/VarHandle" ∧ (parseMethodDescriptor yX0_isNext.desc).map (fun d => d.parameters.length) = some 2 := by decide +kernel
theorem hdV_X9_add : yX9_add.cls = RX9 ∧ yX9_add.cls ≠ "java/lang/invoke/MethodHandle" ∧ yX9_add.cls ≠ "java/lang/invoke/VarHandle" ∧ (parseMethodDescriptor yX9_add.desc).map (fun d => d.parameters.length) = some 4 := by decide +kernel
theorem hdV_X0_goBehind : yX0_goBehind.cls = RX0 ∧ yX0_goBehind.cls ≠ "java/lang/invoke/MethodHandle" ∧ yX0_goBehind.cls ≠ "java/lang/invoke/VarHandle" ∧ (parseMethodDescriptor yX0_goBehind.desc).map (fun d => d.parameters.length) = some 1 := by decide +kernel
theorem hd_J7_rangeCheck_23922 : yJ7_rangeCheck_23922.cls ≠ "java/lang/invoke/MethodHandle" ∧ yJ7_rangeCheck_23922.cls ≠ "java/lang/invoke/VarHandle" ∧ (parseMethodDescriptor yJ7_rangeCheck_23922.desc).map (fun d => d.parameters.length) = some 3 := by decide +kernel
theorem hd_J7_fill_fda19 : yJ7_fill_fda19.cls ≠ "java/lang/invoke/MethodHandle" ∧ yJ7_fill_fda19.cls ≠ "java/lang/invoke/VarHandle" ∧ (parseMethodDescriptor yJ7_fill_fda19.desc).map (fun d => d.parameters.length) = some 4 := by decide +kernel
theorem hdV_X1_strip : yX1_strip.cls = RX1 ∧ yX1_strip.cls ≠ "java/lang/invoke/MethodHandle" ∧ yX1_strip.cls ≠ "java/lang/invoke/VarHandle" ∧ (parseMethodDescriptor yX1_strip.desc).map (fun d => d.parameters.length) = some 1 := by decide +kernel
theorem hd_J7_fill_53178 : yJ7_fill_53178.cls ≠ "java/lang/invoke/MethodHandle" ∧ yJ7_fill_53178.cls ≠ "java/lang/invoke/VarHandle" ∧ (parseMethodDescriptor yJ7_fill_53178.desc).map (fun d => d.parameters.length) = some 2 := by decide +kernel
theorem hdV_X1_handOver : yX1_handOver.cls = RX1 ∧ yX1_handOver.cls ≠ "java/lang/invoke/MethodHandle" ∧ yX1_handOver.cls ≠ "java/lang/invoke/VarHandle" ∧ (parseMethodDescriptor yX1_handOver.desc).map (fun d => d.parameters.length) = some 3 := by decide +kernel
theorem hdV_X2_add : yX2_add.cls = RX2 ∧ yX2_add.cls ≠ "java/lang/invoke/MethodHandle" ∧ yX2_add.cls ≠ "java/lang/invoke/VarHandle" ∧ (parseMethodDescriptor yX2_add.desc).map (fun d => d.parameters.length) = some 4 := by decide +kernel
theorem hdV_X2_listCut : yX2_listCut.cls = RX2 ∧ yX2_listCut.cls ≠ "java/lang/invoke/MethodHandle" ∧ yX2_listCut.cls ≠ "java/lang/invoke/VarHandle" ∧ (parseMethodDescriptor yX2_listCut.desc).map (fun d => d.parameters.length) = some 7 := by decide +kernel
theorem hdV_X1_copy : yX1_copy.cls = RX1 ∧ yX1_copy.cls ≠ "java/lang/invoke/MethodHandle" ∧ yX1_copy.cls ≠ "java/lang/invoke/VarHandle" ∧ (parseMethodDescriptor yX1_copy.desc).map (fun d => d.parameters.length) = some 1 := by decide +kernel
theorem hdV_X4_dropOldest : yX4_dropOldest.cls = RX4 ∧ yX4_dropOldest.cls ≠ "java/lang/invoke/MethodHandle" ∧ yX4_dropOldest.cls ≠ "java/lang/invoke/VarHandle" ∧ (parseMethodDescriptor yX4_dropOldest.desc).map (fun d => d.parameters.length) = some 0 := by decide +kernel
theorem hd_X10_isOnGround : yX10_isOnGround.cls ≠ "java/lang/invoke/MethodHandle" ∧ yX10_isOnGround.cls ≠ "java/lang/invoke/VarHandle" ∧ (parseMethodDescriptor yX10_isOnGround.desc).map (fun d => d.parameters.length) = some 2 := by decide +kernel
theorem hdV_X6_add : yX6_add.cls = RX6 ∧ yX6_add.cls ≠ "java/lang/invoke/MethodHandle" ∧ yX6_add.cls ≠ "java/lang/invoke/VarHandle" ∧ (parseMethodDescriptor yX6_add.desc).map (fun d => d.parameters.length) = some 2 := by decide +kernel
theorem hd_J6_bitCount_0f7a4 : yJ6_bitCount_0f7a4.cls ≠ "java/lang/invoke/MethodHandle" ∧ yJ6_bitCount_0f7a4.cls ≠ "java/lang/invoke/VarHandle" ∧ (parseMethodDescriptor yJ6_bitCount_0f7a4.desc).map (fun d => d.parameters.length) = some 1 := by decide +kernel
theorem hdV_X8_readNumber : yX8_readNumber.cls = RX8 ∧ yX8_readNumber.cls ≠ "java/lang/invoke/MethodHandle" ∧ yX8_readNumber.cls ≠ "java/lang/invoke/VarHandle" ∧ (parseMethodDescriptor yX8_readNumber.desc).map (fun d => d.parameters.length) = some 2 := by decide +kernel
theorem hdV_X8_take : yX8_take.cls = RX8 ∧ yX8_take.cls ≠ "java/lang/invoke/MethodHandle" ∧ yX8_take.cls ≠ "java/lang/invoke/VarHandle" ∧ (parseMethodDescriptor yX8_take.desc).map (fun d => d.parameters.length) = some 1 := by decide +kernel
theorem hdV_X8_readNumbers : yX8_readNumbers.cls = RX8 ∧ yX8_readNumbers.cls ≠ "java/lang/invoke/MethodHandle" ∧ yX8_readNumbers.cls ≠ "java/lang/invoke/VarHandle" ∧ (parseMethodDescriptor yX8_readNumbers.desc).map (fun d => d.parameters.length) = some 3 := by decide +kernel
theorem hd_X10_isColour : yX10_isColour.cls ≠ "java/lang/invoke/MethodHandle" ∧ yX10_isColour.cls ≠ "java/lang/invoke/VarHandle" ∧ (parseMethodDescriptor yX10_isColour.desc).map (fun d => d.parameters.length) = some 1 := by decide +kernel
theorem hdV_X5_go : yX5_go.cls = RX5 ∧ yX5_go.cls ≠ "java/lang/invoke/MethodHandle" ∧ yX5_go.cls ≠ "java/lang/invoke/VarHandle" ∧ (parseMethodDescriptor yX5_go.desc).map (fun d => d.parameters.length) = some 5 := by decide +kernel
theorem hdV_X8_readRun : yX8_readRun.cls = RX8 ∧ yX8_readRun.cls ≠ "java/lang/invoke/MethodHandle" ∧ yX8_readRun.cls ≠ "java/lang/invoke/VarHandle" ∧ (parseMethodDescriptor yX8_readRun.desc).map (fun d => d.parameters.length) = some 3 := by decide +kernel
theorem hdV_X5_begin : yX5_begin.cls = RX5 ∧ yX5_begin.cls ≠ "java/lang/invoke/MethodHandle" ∧ yX5_begin.cls ≠ "java/lang/invoke/VarHandle" ∧ (parseMethodDescriptor yX5_begin.desc).map (fun d => d.parameters.length) = some 2 := by decide +kernel
theorem hdV_X8_readLine : yX8_readLine.cls = RX8 ∧ yX8_readLine.cls ≠ "java/lang/invoke/MethodHandle" ∧ yX8_readLine.cls ≠ "java/lang/invoke/VarHandle" ∧ (parseMethodDescriptor yX8_readLine.desc).map (fun d => d.parameters.length) = some 1 := by decide +kernel
theorem hdV_X8_readBag : yX8_readBag.cls = RX8 ∧ yX8_readBag.cls ≠ "java/lang/invoke/MethodHandle" ∧ yX8_readBag.cls ≠ "java/lang/invoke/VarHandle" ∧ (parseMethodDescriptor yX8_readBag.desc).map (fun d => d.parameters.length) = some 1 := by decide +kernel
theorem hdV_X8_readJoint : yX8_readJoint.cls = RX8 ∧ yX8_readJoint.cls ≠ "java/lang/invoke/MethodHandle" ∧ yX8_readJoint.cls ≠ "java/lang/invoke/VarHandle" ∧ (parseMethodDescriptor yX8_readJoint.desc).map (fun d => d.parameters.length) = some 1 := by decide +kernel
theorem hdV_X8_readSizes : yX8_readSizes.cls = RX8 ∧ yX8_readSizes.cls ≠ "java/lang/invoke/MethodHandle" ∧ yX8_readSizes.cls ≠ "java/lang/invoke/VarHandle" ∧ (parseMethodDescriptor yX8_readSizes.desc).map (fun d => d.parameters.length) = some 1 := by decide +kernel
theorem hdV_X8_readItem : yX8_readItem.cls = RX8 ∧ yX8_readItem.cls ≠ "java/lang/invoke/MethodHandle" ∧ yX8_readItem.cls ≠ "java/lang/invoke/VarHandle" ∧ (parseMethodDescriptor yX8_readItem.desc).map (fun d => d.parameters.length) = some 1 := by decide +kernel
theorem hdV_X7_clear : yX7_clear.cls = RX7 ∧ yX7_clear.cls ≠ "java/lang/invoke/MethodHandle" ∧ yX7_clear.cls ≠ "java/lang/invoke/VarHandle" ∧ (parseMethodDescriptor yX7_clear.desc).map (fun d => d.parameters.length) = some 0 := by decide +kernel
theorem hdV_X8_append : yX8_append.cls = RX8 ∧ yX8_append.cls ≠ "java/lang/invoke/MethodHandle" ∧ yX8_append.cls ≠ "java/lang/invoke/VarHandle" ∧ (parseMethodDescriptor yX8_append.desc).map (fun d => d.parameters.length) = some 1 := by decide +kernel
theorem hdV_X8_firstFault : yX8_firstFault.cls = RX8 ∧ yX8_firstFault.cls ≠ "java/lang/invoke/MethodHandle" ∧ yX8_firstFault.cls ≠ "java/lang/invoke/VarHandle" ∧ (parseMethodDescriptor yX8_firstFault.desc).map (fun d => d.parameters.length) = some 1 := by decide +kernel
theorem hdV_X1_begin : yX1_begin.cls = RX1 ∧ yX1_begin.cls ≠ "java/lang/invoke/MethodHandle" ∧ yX1_begin.cls ≠ "java/lang/invoke/VarHandle" ∧ (parseMethodDescriptor yX1_begin.desc).map (fun d => d.parameters.length) = some 1 := by decide +kernel
theorem hdV_X10_forgetAnswers : yX10_forgetAnswers.cls = RX10 ∧ yX10_forgetAnswers.cls ≠ "java/lang/invoke/MethodHandle" ∧ yX10_forgetAnswers.cls ≠ "java/lang/invoke/VarHandle" ∧ (parseMethodDescriptor yX10_forgetAnswers.desc).map (fun d => d.parameters.length) = some 0 := by decide +kernel
theorem hdV_X10_layText : yX10_layText.cls = RX10 ∧ yX10_layText.cls ≠ "java/lang/invoke/MethodHandle" ∧ yX10_layText.cls ≠ "java/lang/invoke/VarHandle" ∧ (parseMethodDescriptor yX10_layText.desc).map (fun d => d.parameters.length) = some 0 := by decide +kernel
theorem hdV_X4_keep : yX4_keep.cls = RX4 ∧ yX4_keep.cls ≠ "java/lang/invoke/MethodHandle" ∧ yX4_keep.cls ≠ "java/lang/invoke/VarHandle" ∧ (parseMethodDescriptor yX4_keep.desc).map (fun d => d.parameters.length) = some 1 := by decide +kernel
theorem hdV_X10_beginChange : yX10_beginChange.cls = RX10 ∧ yX10_beginChange.cls ≠ "java/lang/invoke/MethodHandle" ∧ yX10_beginChange.cls ≠ "java/lang/invoke/VarHandle" ∧ (parseMethodDescriptor yX10_beginChange.desc).map (fun d => d.parameters.length) = some 0 := by decide +kernel
theorem hdV_X10_isLine : yX10_isLine.cls = RX10 ∧ yX10_isLine.cls ≠ "java/lang/invoke/MethodHandle" ∧ yX10_isLine.cls ≠ "java/lang/invoke/VarHandle" ∧ (parseMethodDescriptor yX10_isLine.desc).map (fun d => d.parameters.length) = some 1 := by decide +kernel
theorem hdV_X1_cellsOf : yX1_cellsOf.cls = RX1 ∧ yX1_cellsOf.cls ≠ "java/lang/invoke/MethodHandle" ∧ yX1_cellsOf.cls ≠ "java/lang/invoke/VarHandle" ∧ (parseMethodDescriptor yX1_cellsOf.desc).map (fun d => d.parameters.length) = some 2 := by decide +kernel
theorem hdV_X1_isCovered : yX1_isCovered.cls = RX1 ∧ yX1_isCovered.cls ≠ "java/lang/invoke/MethodHandle" ∧ yX1_isCovered.cls ≠ "java/lang/invoke/VarHandle" ∧ (parseMethodDescriptor yX1_isCovered.desc).map (fun d => d.parameters.length) = some 1 := by decide +kernel
theorem hdV_X6_split : yX6_split.cls = RX6 ∧ yX6_split.cls ≠ "java/lang/invoke/MethodHandle" ∧ yX6_split.cls ≠ "java/lang/invoke/VarHandle" ∧ (parseMethodDescriptor yX6_split.desc).map (fun d => d.parameters.length) = some 2 := by decide +kernel
theorem hdV_X1_pickUp : yX1_pickUp.cls = RX1 ∧ yX1_pickUp.cls ≠ "java/lang/invoke/MethodHandle" ∧ yX1_pickUp.cls ≠ "java/lang/invoke/VarHandle" ∧ (parseMethodDescriptor yX1_pickUp.desc).map (fun d => d.parameters.length) = some 3 := by decide +kernel
theorem hdV_X1_missingIn : yX1_missingIn.cls = RX1 ∧ yX1_missingIn.cls ≠ "java/lang/invoke/MethodHandle" ∧ yX1_missingIn.cls ≠ "java/lang/invoke/VarHandle" ∧ (parseMethodDescriptor yX1_missingIn.desc).map (fun d => d.parameters.length) = some 1 := by decide +kernel
theorem hdV_X4_giveBack : yX4_giveBack.cls = RX4 ∧ yX4_giveBack.cls ≠ "java/lang/invoke/MethodHandle" ∧ yX4_giveBack.cls ≠ "java/lang/invoke/VarHandle" ∧ (parseMethodDescriptor yX4_giveBack.desc).map (fun d => d.parameters.length) = some 1 := by decide +kernel
theorem hdV_X7_goesOver : yX7_goesOver.cls = RX7 ∧ yX7_goesOver.cls ≠ "java/lang/invoke/MethodHandle" ∧ yX7_goesOver.cls ≠ "java/lang/invoke/VarHandle" ∧ (parseMethodDescriptor yX7_goesOver.desc).map (fun d => d.parameters.length) = some 2 := by decide +kernel
theorem hdV_X10_uncovered : yX10_uncovered.cls = RX10 ∧ yX10_uncovered.cls ≠ "java/lang/invoke/MethodHandle" ∧ yX10_uncovered.cls ≠ "java/lang/invoke/VarHandle" ∧ (parseMethodDescriptor yX10_uncovered.desc).map (fun d => d.parameters.length) = some 0 := by decide +kernel
theorem hdV_X7_sharedCells : yX7_sharedCells.cls = RX7 ∧ yX7_sharedCells.cls ≠ "java/lang/invoke/MethodHandle" ∧ yX7_sharedCells.cls ≠ "java/lang/invoke/VarHandle" ∧ (parseMethodDescriptor yX7_sharedCells.desc).map (fun d => d.parameters.length) = some 0 := by decide +kernel
theorem gd_RX11_110 : GoodIn tb (va_wsS RX11 110 yX11_in (wT yX11_in cX11_in 3 (Option.some Jvm.ClassFile.FieldType.boolean))) := good_app (in3 tw872 tw873 tw81) (wT_good tw874)
theorem gd_RX11_130 : GoodIn tb (wsV RX11 130 RX11 yX11_addCell (wT yX11_addCell cX11_addCell 5 (Option.some Jvm.ClassFile.FieldType.boolean))) := good_app (in4 tw875 tw877 tw35 tw81) (wT_good tw878)
theorem gd_RX11_140 : GoodIn tb (wsV RX11 140 RX11 yX11_takeNumber (wT yX11_takeNumber cX11_takeNumber 3 (Option.some Jvm.ClassFile.FieldType.int))) := good_app (in4 tw1025 tw1027 tw40 tw81) (wT_good tw1028)
theorem gd_RX11_144 : GoodIn tb (wsV RX11 144 RX11 yX11_takeSign (wT yX11_takeSign cX11_takeSign 3 (Option.some Jvm.ClassFile.FieldType.boolean))) := good_app (in4 tw1029 tw1031 tw41 tw81) (wT_good tw1032)
theorem gd_RX11_148 : GoodIn tb (va_wsS RX11 148 yX11_isColour (wT yX11_isColour cX11_isColour 1 (Option.some Jvm.ClassFile.FieldType.boolean))) := good_app (in3 tw1037 tw1038 tw81) (wT_good tw1039)
theorem gd_RX11_96 : GoodIn tb (wsV RX11 96 RX11 yX11_goRun (wT yX11_goRun cX11_goRun 7 (Option.some Jvm.ClassFile.FieldType.boolean))) := good_app (in4 tw868 tw870 tw34 tw81) (wT_good tw871)
theorem gd_RX11_92 : GoodIn tb (wsV RX11 92 RX11 yX11_beginLine (wT yX11_beginLine cX11_beginLine 3 (Option.none : Option Jvm.ClassFile.FieldType))) := good_app (in4 tw864 tw866 tw33 tw81) (wT_good tw867)
theorem gd_RX11_154 : GoodIn tb (wsV RX11 154 RX11 yX11_readTheBag (wT yX11_readTheBag cX11_readTheBag 6 (Option.some Jvm.ClassFile.FieldType.boolean))) := good_app (in4 tw1033 tw1035 tw42 tw81) (wT_good tw1036)
theorem gd_RX11_157 : GoodIn tb (wsV RX11 157 RX11 yX11_readLine (wT yX11_readLine cX11_readLine 7 (Option.some Jvm.ClassFile.FieldType.boolean))) := good_app (in4 tw1040 tw1042 tw43 tw81) (wT_good tw1043)
theorem gd_RX11_151 : GoodIn tb (wsV RX11 151 RX11 yX11_readSizes (wT yX11_readSizes cX11_readSizes 6 (Option.some Jvm.ClassFile.FieldType.boolean))) := good_app (in4 tw1021 tw1023 tw39 tw81) (wT_good tw1024)
theorem gd_RX11_160 : GoodIn tb (wsV RX11 160 RX11 yX11_readItem (wT yX11_readItem cX11_readItem 3 (Option.some Jvm.ClassFile.FieldType.boolean))) := good_app (in4 tw1017 tw1019 tw38 tw81) (wT_good tw1020)
theorem gd_RX11_89 : GoodIn tb (wsV RX11 89 RX11 yX11_begin (wT yX11_begin cX11_begin 2 (Option.none : Option Jvm.ClassFile.FieldType))) := good_app (in4 tw860 tw862 tw32 tw81) (wT_good tw863)
theorem gd_RX11_166 : GoodIn tb (wsV RX11 166 RX11 yX11_readText (wT yX11_readText cX11_readText 2 (Option.some Jvm.ClassFile.FieldType.int))) := good_app (in4 tw1013 tw1015 tw37 tw81) (wT_good tw1016)
theorem gd_RX11_104 : GoodIn tb (wsV RX11 104 RX11 yX11_takeRead (wT yX11_takeRead cX11_takeRead 2 (Option.none : Option Jvm.ClassFile.FieldType))) := good_app (in4 tw879 tw881 tw36 tw81) (wT_good tw882)
theorem gd_RX11_169 : GoodIn tb (va_wsS RX11 169 yX11_bring (wT yX11_bring cX11_bring 5 (Option.none : Option Jvm.ClassFile.FieldType))) := good_app (in3 tw1052 tw1053 tw81) (wT_good tw1054)
theorem gd_RX11_173 : GoodIn tb (wsV RX11 173 RX11 yX11_note (wT yX11_note cX11_note 2 (Option.none : Option Jvm.ClassFile.FieldType))) := good_app (in4 tw1059 tw1061 tw44 tw81) (wT_good tw1062)
theorem gd_RX11_176 : GoodIn tb (wsV RX11 176 RX11 yX11_isLine (wT yX11_isLine cX11_isLine 2 (Option.some Jvm.ClassFile.FieldType.boolean))) := good_app (in4 tw1067 tw1069 tw45 tw81) (wT_good tw1070)
theorem gd_RX11_179 : GoodIn tb (wsV RX11 179 RX11 yX11_ownMany (wT yX11_ownMany cX11_ownMany 4 (Option.some Jvm.ClassFile.FieldType.int))) := good_app (in4 tw1071 tw1073 tw46 tw81) (wT_good tw1074)
theorem gd_RX11_186 : GoodIn tb (wsV RX11 186 RX11 yX11_endPiece (wT yX11_endPiece cX11_endPiece 3 (Option.none : Option Jvm.ClassFile.FieldType))) := good_app (in4 tw1095 tw1097 tw49 tw81) (wT_good tw1098)
theorem gd_RX11_190 : GoodIn tb (wsV RX11 190 RX11 yX11_isCovered (wT yX11_isCovered cX11_isCovered 2 (Option.some Jvm.ClassFile.FieldType.boolean))) := good_app (in4 tw1087 tw1089 tw47 tw81) (wT_good tw1090)
theorem gd_RX11_193 : GoodIn tb (wsV RX11 193 RX11 yX11_findPieces (wT yX11_findPieces cX11_findPieces 7 (Option.none : Option Jvm.ClassFile.FieldType))) := good_app (in4 tw1091 tw1093 tw48 tw81) (wT_good tw1094)
theorem gd_RX11_205 : GoodIn tb (wsV RX11 205 RX11 yX11_isCutAslant (wT yX11_isCutAslant cX11_isCutAslant 4 (Option.some Jvm.ClassFile.FieldType.boolean))) := good_app (in4 tw1127 tw1129 tw55 tw81) (wT_good tw1130)
theorem gd_RX11_197 : GoodIn tb (va_wsS RX11 197 yX11_oneOf (wT yX11_oneOf cX11_oneOf 1 (Option.some Jvm.ClassFile.FieldType.int))) := good_app (in3 tw1120 tw1121 tw81) (wT_good tw1122)
theorem gd_RX11_201 : GoodIn tb (wsV RX11 201 RX11 yX11_costAt (wT yX11_costAt cX11_costAt 4 (Option.some Jvm.ClassFile.FieldType.int))) := good_app (in4 tw1123 tw1125 tw54 tw81) (wT_good tw1126)
theorem gd_RX11_208 : GoodIn tb (wsV RX11 208 RX11 yX11_costBy (wT yX11_costBy cX11_costBy 8 (Option.some Jvm.ClassFile.FieldType.int))) := good_app (in4 tw1116 tw1118 tw53 tw81) (wT_good tw1119)
theorem gd_RX11_215 : GoodIn tb (wsV RX11 215 RX11 yX11_leastAt (wT yX11_leastAt cX11_leastAt 7 (Option.some Jvm.ClassFile.FieldType.int))) := good_app (in4 tw1111 tw1113 tw52 tw81) (wT_good tw1114)
theorem gd_RX11_224 : GoodIn tb (wsV RX11 224 RX11 yX11_firstStone (wT yX11_firstStone cX11_firstStone 8 (Option.some Jvm.ClassFile.FieldType.int))) := good_app (in4 tw1131 tw1133 tw56 tw81) (wT_good tw1134)
theorem gd_RX11_212 : GoodIn tb (wsV RX11 212 RX11 yX11_layRest (wT yX11_layRest cX11_layRest 4 (Option.some Jvm.ClassFile.FieldType.int))) := good_app (in4 tw1107 tw1109 tw51 tw81) (wT_good tw1110)
theorem gd_RX11_228 : GoodIn tb (wsV RX11 228 RX11 yX11_findWay (wT yX11_findWay cX11_findWay 11 (Option.some Jvm.ClassFile.FieldType.boolean))) := good_app (in4 tw1103 tw1105 tw50 tw81) (wT_good tw1106)
theorem gd_RX11_231 : GoodIn tb (wsV RX11 231 RX11 yX11_coverBy (wT yX11_coverBy cX11_coverBy 7 (Option.none : Option Jvm.ClassFile.FieldType))) := good_app (in4 tw1143 tw1145 tw57 tw81) (wT_good tw1146)
theorem gd_RX11_234 : GoodIn tb (wsV RX11 234 RX11 yX11_layTurns (wT yX11_layTurns cX11_layTurns 2 (Option.none : Option Jvm.ClassFile.FieldType))) := good_app (in4 tw1155 tw1157 tw58 tw81) (wT_good tw1158)
theorem gd_RX11_237 : GoodIn tb (wsV RX11 237 RX11 yX11_isTurns (wT yX11_isTurns cX11_isTurns 5 (Option.some Jvm.ClassFile.FieldType.boolean))) := good_app (in4 tw1159 tw1161 tw59 tw81) (wT_good tw1162)
theorem gd_RX11_240 : GoodIn tb (wsV RX11 240 RX11 yX11_cutsByTurns (wT yX11_cutsByTurns cX11_cutsByTurns 4 (Option.some Jvm.ClassFile.FieldType.int))) := good_app (in4 tw1163 tw1165 tw60 tw81) (wT_good tw1166)
theorem gd_RX11_243 : GoodIn tb (wsV RX11 243 RX11 yX11_isOn (wT yX11_isOn cX11_isOn 5 (Option.some Jvm.ClassFile.FieldType.boolean))) := good_app (in4 tw1179 tw1181 tw61 tw81) (wT_good tw1182)
theorem gd_RX11_246 : GoodIn tb (wsV RX11 246 RX11 yX11_sharedCells (wT yX11_sharedCells cX11_sharedCells 5 (Option.some Jvm.ClassFile.FieldType.int))) := good_app (in4 tw1187 tw1189 tw62 tw81) (wT_good tw1190)
theorem gd_RX0_130 : GoodIn tb (wsV RX0 130 RX2 yX2_stones (wT yX2_stones cX2_stones 3 (Option.some Jvm.ClassFile.FieldType.int))) := good_app (in4 tw725 tw726 tw727 tw68) (wT_good tw728)
theorem gd_RX0_133 : GoodIn tb (wsV RX0 133 RX2 yX2_canBeTakenFrom (wT yX2_canBeTakenFrom cX2_canBeTakenFrom 6 (Option.some Jvm.ClassFile.FieldType.boolean))) := good_app (in4 tw729 tw708 tw709 tw68) (wT_good tw710)
theorem gd_RX0_95 : GoodIn tb (wsV RX0 95 RX0 yX0_cellsOf (wT yX0_cellsOf cX0_cellsOf 2 (Option.some Jvm.ClassFile.FieldType.int))) := good_app (in4 tw716 tw718 tw22 tw66) (wT_good tw719)
theorem gd_RX0_102 : GoodIn tb (wsV RX0 102 RX0 yX0_worthOf (wT yX0_worthOf cX0_worthOf 14 (Option.some Jvm.ClassFile.FieldType.int))) := good_app (in4 tw720 tw722 tw23 tw66) (wT_good tw723)
theorem gd_RX0_67 : GoodIn tb (wsV RX0 67 RX0 yX0_layingsOf (wT yX0_layingsOf cX0_layingsOf 3 (Option.some (Jvm.ClassFile.FieldType.object "StoneFloors$Layings")))) := good_app (in4 tw691 tw693 tw18 tw66) (wT_good tw694)
theorem gd_RX0_150 : GoodIn tb (wsV RX0 150 RX0 yX0_isAslant (wT yX0_isAslant cX0_isAslant 4 (Option.some Jvm.ClassFile.FieldType.boolean))) := good_app (in4 tw745 tw747 tw27 tw66) (wT_good tw748)
theorem gd_RX0_153 : GoodIn tb (wsV RX0 153 RX0 yX0_ownWorth (wT yX0_ownWorth cX0_ownWorth 4 (Option.some Jvm.ClassFile.FieldType.int))) := good_app (in4 tw741 tw743 tw26 tw66) (wT_good tw744)
theorem gd_RX0_146 : GoodIn tb (wsV RX0 146 RX0 yX0_isNext (wT yX0_isNext cX0_isNext 5 (Option.some Jvm.ClassFile.FieldType.boolean))) := good_app (in4 tw737 tw739 tw25 tw66) (wT_good tw740)
theorem gd_RX0_156 : GoodIn tb (wsV RX0 156 RX9 yX9_add (wT yX9_add cX9_add 6 (Option.none : Option Jvm.ClassFile.FieldType))) := good_app (in4 tw749 tw750 tw751 tw72) (wT_good tw752)
theorem gd_RX0_160 : GoodIn tb (wsV RX0 160 RX0 yX0_goBehind (wT yX0_goBehind cX0_goBehind 2 (Option.none : Option Jvm.ClassFile.FieldType))) := good_app (in4 tw753 tw755 tw28 tw66) (wT_good tw756)
theorem gd_RJ7_13 : GoodIn tb (va_wsS RJ7 13 yJ7_rangeCheck_23922 (wT yJ7_rangeCheck_23922 cJ7_rangeCheck_23922 3 (Option.none : Option Jvm.ClassFile.FieldType))) := good_app (in3 tw561 tw562 tw79) (wT_good tw563)
theorem gd_RX1_97 : GoodIn tb (va_wsS RX1 97 yJ7_fill_fda19 (wT yJ7_fill_fda19 cJ7_fill_fda19 5 (Option.none : Option Jvm.ClassFile.FieldType))) := good_app (in3 tw558 tw559 tw79) (wT_good tw560)
theorem gd_RX1_48 : GoodIn tb (wsV RX1 48 RX1 yX1_strip (wT yX1_strip cX1_strip 2 (Option.none : Option Jvm.ClassFile.FieldType))) := good_app (in4 tw554 tw556 tw10 tw69) (wT_good tw557)
theorem gd_RX1_33 : GoodIn tb (va_wsS RX1 33 yJ7_fill_53178 (wT yJ7_fill_53178 cJ7_fill_53178 4 (Option.none : Option Jvm.ClassFile.FieldType))) := good_app (in3 tw552 tw493 tw79) (wT_good tw494)
theorem gd_RX1_71 : GoodIn tb (wsV RX1 71 RX1 yX1_handOver (wT yX1_handOver cX1_handOver 5 (Option.none : Option Jvm.ClassFile.FieldType))) := good_app (in4 tw769 tw771 tw29 tw69) (wT_good tw772)
theorem gd_RX2_34 : GoodIn tb (wsV RX2 34 RX2 yX2_canBeTakenFrom (wT yX2_canBeTakenFrom cX2_canBeTakenFrom 6 (Option.some Jvm.ClassFile.FieldType.boolean))) := good_app (in4 tw707 tw708 tw709 tw68) (wT_good tw710)
theorem gd_RX2_30 : GoodIn tb (wsV RX2 30 RX2 yX2_add (wT yX2_add cX2_add 6 (Option.none : Option Jvm.ClassFile.FieldType))) := good_app (in4 tw703 tw705 tw20 tw68) (wT_good tw706)
theorem gd_RX2_26 : GoodIn tb (wsV RX2 26 RX2 yX2_listCut (wT yX2_listCut cX2_listCut 13 (Option.none : Option Jvm.ClassFile.FieldType))) := good_app (in4 tw699 tw701 tw19 tw68) (wT_good tw702)
theorem gd_RX4_25 : GoodIn tb (wsV RX4 25 RX1 yX1_copy (wT yX1_copy cX1_copy 2 (Option.none : Option Jvm.ClassFile.FieldType))) := good_app (in4 tw626 tw627 tw628 tw69) (wT_good tw629)
theorem gd_RX4_22 : GoodIn tb (wsV RX4 22 RX4 yX4_dropOldest (wT yX4_dropOldest cX4_dropOldest 3 (Option.none : Option Jvm.ClassFile.FieldType))) := good_app (in4 tw622 tw624 tw13 tw70) (wT_good tw625)
theorem gd_RX6_34 : GoodIn tb (wsV RX6 34 RX6 yX6_add (wT yX6_add cX6_add 3 (Option.none : Option Jvm.ClassFile.FieldType))) := good_app (in4 tw663 tw665 tw15 tw67) (wT_good tw666)
theorem gd_RX7_28 : GoodIn tb (va_wsS RX7 28 yJ7_fill_53178 (wT yJ7_fill_53178 cJ7_fill_53178 4 (Option.none : Option Jvm.ClassFile.FieldType))) := good_app (in3 tw492 tw493 tw79) (wT_good tw494)
theorem gd_RX7_41 : GoodIn tb (va_wsS RX7 41 yJ6_bitCount_0f7a4 (wT yJ6_bitCount_0f7a4 cJ6_bitCount_0f7a4 1 (Option.some Jvm.ClassFile.FieldType.int))) := good_app (in3 tw848 tw849 tw83) (wT_good tw850)
theorem gd_RX8_94 : GoodIn tb (wsV RX8 94 RX8 yX8_readNumber (wT yX8_readNumber cX8_readNumber 5 (Option.some Jvm.ClassFile.FieldType.int))) := good_app (in4 tw511 tw513 tw5 tw65) (wT_good tw514)
theorem gd_RX8_35 : GoodIn tb (wsV RX8 35 RX8 yX8_take (wT yX8_take cX8_take 2 (Option.some Jvm.ClassFile.FieldType.boolean))) := good_app (in4 tw499 tw501 tw2 tw65) (wT_good tw502)
theorem gd_RX8_51 : GoodIn tb (wsV RX8 51 RX8 yX8_readNumbers (wT yX8_readNumbers cX8_readNumbers 5 (Option.some Jvm.ClassFile.FieldType.boolean))) := good_app (in4 tw507 tw509 tw4 tw65) (wT_good tw510)
theorem gd_RX8_98 : GoodIn tb (wsV RX8 98 RX5 yX5_go (wT yX5_go cX5_go 9 (Option.some Jvm.ClassFile.FieldType.boolean))) := good_app (in4 tw541 tw542 tw543 tw74) (wT_good tw544)
theorem gd_RX8_90 : GoodIn tb (wsV RX8 90 RX8 yX8_readRun (wT yX8_readRun cX8_readRun 7 (Option.some Jvm.ClassFile.FieldType.boolean))) := good_app (in4 tw537 tw539 tw9 tw65) (wT_good tw540)
theorem gd_RX8_81 : GoodIn tb (wsV RX8 81 RX5 yX5_begin (wT yX5_begin cX5_begin 3 (Option.none : Option Jvm.ClassFile.FieldType))) := good_app (in4 tw533 tw534 tw535 tw74) (wT_good tw536)
theorem gd_RX8_48 : GoodIn tb (wsV RX8 48 RX8 yX8_readLine (wT yX8_readLine cX8_readLine 4 (Option.some Jvm.ClassFile.FieldType.boolean))) := good_app (in4 tw529 tw531 tw8 tw65) (wT_good tw532)
theorem gd_RX8_45 : GoodIn tb (wsV RX8 45 RX8 yX8_readBag (wT yX8_readBag cX8_readBag 2 (Option.some Jvm.ClassFile.FieldType.boolean))) := good_app (in4 tw522 tw524 tw7 tw65) (wT_good tw525)
theorem gd_RX8_42 : GoodIn tb (wsV RX8 42 RX8 yX8_readJoint (wT yX8_readJoint cX8_readJoint 2 (Option.some Jvm.ClassFile.FieldType.boolean))) := good_app (in4 tw518 tw520 tw6 tw65) (wT_good tw521)
theorem gd_RX8_39 : GoodIn tb (wsV RX8 39 RX8 yX8_readSizes (wT yX8_readSizes cX8_readSizes 2 (Option.some Jvm.ClassFile.FieldType.boolean))) := good_app (in4 tw503 tw505 tw3 tw65) (wT_good tw506)
theorem gd_RX8_31 : GoodIn tb (wsV RX8 31 RX8 yX8_readItem (wT yX8_readItem cX8_readItem 3 (Option.some Jvm.ClassFile.FieldType.boolean))) := good_app (in4 tw495 tw497 tw1 tw65) (wT_good tw498)
theorem gd_RX8_23 : GoodIn tb (wsV RX8 23 RX7 yX7_clear (wT yX7_clear cX7_clear 1 (Option.none : Option Jvm.ClassFile.FieldType))) := good_app (in4 tw488 tw489 tw490 tw73) (wT_good tw491)
theorem gd_RX9_21 : GoodIn tb (va_wsS RX9 21 yJ7_fill_53178 (wT yJ7_fill_53178 cJ7_fill_53178 4 (Option.none : Option Jvm.ClassFile.FieldType))) := good_app (in3 tw684 tw493 tw79) (wT_good tw494)
theorem gd_RX10_73 : GoodIn tb (wsV RX10 73 RX8 yX8_append (wT yX8_append cX8_append 2 (Option.none : Option Jvm.ClassFile.FieldType))) := good_app (in4 tw476 tw477 tw478 tw65) (wT_good tw479)
theorem gd_RX10_83 : GoodIn tb (wsV RX10 83 RX8 yX8_firstFault (wT yX8_firstFault cX8_firstFault 4 (Option.some Jvm.ClassFile.FieldType.int))) := good_app (in4 tw484 tw485 tw486 tw65) (wT_good tw487)
theorem gd_RX10_232 : GoodIn tb (wsV RX10 232 RX1 yX1_begin (wT yX1_begin cX1_begin 3 (Option.none : Option Jvm.ClassFile.FieldType))) := good_app (in4 tw548 tw549 tw550 tw69) (wT_good tw551)
theorem gd_RX10_211 : GoodIn tb (wsV RX10 211 RX10 yX10_forgetAnswers (wT yX10_forgetAnswers cX10_forgetAnswers 2 (Option.none : Option Jvm.ClassFile.FieldType))) := good_app (in4 tw564 tw566 tw11 tw64) (wT_good tw567)
theorem gd_RX10_77 : GoodIn tb (wsV RX10 77 RX10 yX10_layText (wT yX10_layText cX10_layText 2 (Option.some Jvm.ClassFile.FieldType.int))) := good_app (in4 tw480 tw482 tw0 tw64) (wT_good tw483)
theorem gd_RX10_235 : GoodIn tb (wsV RX10 235 RX4 yX4_keep (wT yX4_keep cX4_keep 2 (Option.none : Option Jvm.ClassFile.FieldType))) := good_app (in4 tw618 tw619 tw620 tw70) (wT_good tw621)
theorem gd_RX10_90 : GoodIn tb (wsV RX10 90 RX10 yX10_beginChange (wT yX10_beginChange cX10_beginChange 1 (Option.none : Option Jvm.ClassFile.FieldType))) := good_app (in4 tw614 tw616 tw12 tw64) (wT_good tw617)
theorem gd_RX10_93 : GoodIn tb (wsV RX10 93 RX10 yX10_isLine (wT yX10_isLine cX10_isLine 2 (Option.some Jvm.ClassFile.FieldType.boolean))) := good_app (in4 tw634 tw636 tw14 tw64) (wT_good tw637)
theorem gd_RX10_113 : GoodIn tb (wsV RX10 113 RX1 yX1_cellsOf (wT yX1_cellsOf cX1_cellsOf 5 (Option.some Jvm.ClassFile.FieldType.int))) := good_app (in4 tw638 tw639 tw640 tw69) (wT_good tw641)
theorem gd_RX10_126 : GoodIn tb (va_wsS RX10 126 yX10_isOnGround (wT yX10_isOnGround cX10_isOnGround 2 (Option.some Jvm.ClassFile.FieldType.boolean))) := good_app (in3 tw650 tw546 tw64) (wT_good tw547)
theorem gd_RX10_133 : GoodIn tb (wsV RX10 133 RX1 yX1_isCovered (wT yX1_isCovered cX1_isCovered 2 (Option.some Jvm.ClassFile.FieldType.boolean))) := good_app (in4 tw655 tw656 tw657 tw69) (wT_good tw658)
theorem gd_RX10_140 : GoodIn tb (wsV RX10 140 RX6 yX6_split (wT yX6_split cX6_split 6 (Option.none : Option Jvm.ClassFile.FieldType))) := good_app (in4 tw659 tw660 tw661 tw67) (wT_good tw662)
theorem gd_RX10_173 : GoodIn tb (wsV RX10 173 RX1 yX1_pickUp (wT yX1_pickUp cX1_pickUp 9 (Option.some Jvm.ClassFile.FieldType.int))) := good_app (in4 tw777 tw778 tw779 tw69) (wT_good tw780)
theorem gd_RX10_151 : GoodIn tb (va_wsS RX10 151 yX10_isColour (wT yX10_isColour cX10_isColour 1 (Option.some Jvm.ClassFile.FieldType.boolean))) := good_app (in3 tw671 tw527 tw64) (wT_good tw528)
theorem gd_RX10_202 : GoodIn tb (wsV RX10 202 RX1 yX1_missingIn (wT yX1_missingIn cX1_missingIn 4 (Option.some Jvm.ClassFile.FieldType.int))) := good_app (in4 tw816 tw817 tw818 tw69) (wT_good tw819)
theorem gd_RX10_207 : GoodIn tb (wsV RX10 207 RX4 yX4_giveBack (wT yX4_giveBack cX4_giveBack 2 (Option.none : Option Jvm.ClassFile.FieldType))) := good_app (in4 tw824 tw825 tw826 tw70) (wT_good tw827)
theorem gd_RX10_217 : GoodIn tb (wsV RX10 217 RX7 yX7_goesOver (wT yX7_goesOver cX7_goesOver 3 (Option.some Jvm.ClassFile.FieldType.boolean))) := good_app (in4 tw832 tw833 tw834 tw73) (wT_good tw835)
theorem gd_RX10_226 : GoodIn tb (wsV RX10 226 RX10 yX10_uncovered (wT yX10_uncovered cX10_uncovered 3 (Option.some Jvm.ClassFile.FieldType.int))) := good_app (in4 tw840 tw842 tw31 tw64) (wT_good tw843)
theorem gd_RX10_229 : GoodIn tb (wsV RX10 229 RX7 yX7_sharedCells (wT yX7_sharedCells cX7_sharedCells 3 (Option.some Jvm.ClassFile.FieldType.int))) := good_app (in4 tw844 tw845 tw846 tw73) (wT_good tw847)
abbrev rX11_in : Room := { frames := 0, cells := 0, slots := 0, locals := 0 }
abbrev rX11_isLine : Room := { frames := 1, cells := 0, slots := 0, locals := 22 }
abbrev rX11_isColour : Room := { frames := 1, cells := 0, slots := 0, locals := 22 }
abbrev rX11_isCovered : Room := { frames := 0, cells := 0, slots := 0, locals := 0 }
abbrev rX11_begin : Room := { frames := 0, cells := 0, slots := 0, locals := 0 }
abbrev rX11_beginLine : Room := { frames := 0, cells := 0, slots := 0, locals := 0 }
abbrev rX11_addCell : Room := { frames := 1, cells := 0, slots := 0, locals := 22 }
abbrev rX11_goRun : Room := { frames := 2, cells := 0, slots := 0, locals := 46 }
abbrev rX11_takeSign : Room := { frames := 0, cells := 0, slots := 0, locals := 0 }
abbrev rX11_takeNumber : Room := { frames := 1, cells := 0, slots := 0, locals := 22 }
abbrev rX11_readSizes : Room := { frames := 2, cells := 0, slots := 0, locals := 44 }
abbrev rX11_readTheBag : Room := { frames := 2, cells := 0, slots := 0, locals := 44 }
abbrev rX11_readLine : Room := { frames := 3, cells := 0, slots := 0, locals := 72 }
abbrev rX11_readItem : Room := { frames := 4, cells := 0, slots := 0, locals := 98 }
abbrev rX11_readText : Room := { frames := 5, cells := 0, slots := 0, locals := 120 }
abbrev rX11_takeRead : Room := { frames := 0, cells := 0, slots := 0, locals := 0 }
abbrev rX11_write : Room := { frames := 1, cells := 0, slots := 0, locals := 22 }
abbrev rX11_wipe : Room := { frames := 0, cells := 0, slots := 0, locals := 0 }
abbrev rX11_fault : Room := { frames := 6, cells := 0, slots := 0, locals := 141 }
abbrev rX11_lay : Room := { frames := 6, cells := 0, slots := 0, locals := 141 }
abbrev rX11_bring : Room := { frames := 0, cells := 0, slots := 0, locals := 0 }
abbrev rX11_note : Room := { frames := 1, cells := 0, slots := 0, locals := 24 }
abbrev rX11_undo : Room := { frames := 1, cells := 0, slots := 0, locals := 24 }
abbrev rX11_joint : Room := { frames := 2, cells := 0, slots := 0, locals := 45 }
abbrev rX11_ownMany : Room := { frames := 0, cells := 0, slots := 0, locals := 0 }
abbrev rX11_line : Room := { frames := 2, cells := 0, slots := 0, locals := 43 }
abbrev rX11_cell : Room := { frames := 2, cells := 0, slots := 0, locals := 43 }
abbrev rX11_whose : Room := { frames := 1, cells := 0, slots := 0, locals := 22 }
abbrev rX11_endPiece : Room := { frames := 0, cells := 0, slots := 0, locals := 0 }
abbrev rX11_findPieces : Room := { frames := 1, cells := 0, slots := 0, locals := 22 }
abbrev rX11_piece : Room := { frames := 2, cells := 0, slots := 0, locals := 48 }
abbrev rX11_costAt : Room := { frames := 0, cells := 0, slots := 0, locals := 0 }
abbrev rX11_oneOf : Room := { frames := 0, cells := 0, slots := 0, locals := 0 }
abbrev rX11_isCutAslant : Room := { frames := 0, cells := 0, slots := 0, locals := 0 }
abbrev rX11_costBy : Room := { frames := 1, cells := 0, slots := 0, locals := 23 }
abbrev rX11_leastAt : Room := { frames := 2, cells := 0, slots := 0, locals := 50 }
abbrev rX11_firstStone : Room := { frames := 2, cells := 0, slots := 0, locals := 50 }
abbrev rX11_layRest : Room := { frames := 0, cells := 0, slots := 0, locals := 0 }
abbrev rX11_findWay : Room := { frames := 3, cells := 0, slots := 0, locals := 77 }
abbrev rX11_way : Room := { frames := 4, cells := 0, slots := 0, locals := 107 }
abbrev rX11_best : Room := { frames := 4, cells := 0, slots := 0, locals := 107 }
abbrev rX11_coverBy : Room := { frames := 0, cells := 0, slots := 0, locals := 0 }
abbrev rX11_cover : Room := { frames := 4, cells := 0, slots := 0, locals := 107 }
abbrev rX11_takeUp : Room := { frames := 2, cells := 0, slots := 0, locals := 45 }
abbrev rX11_isTurns : Room := { frames := 2, cells := 0, slots := 0, locals := 43 }
abbrev rX11_cutsByTurns : Room := { frames := 4, cells := 0, slots := 0, locals := 107 }
abbrev rX11_layTurns : Room := { frames := 0, cells := 0, slots := 0, locals := 0 }
abbrev rX11_order : Room := { frames := 5, cells := 0, slots := 0, locals := 130 }
abbrev rX11_bag : Room := { frames := 2, cells := 0, slots := 0, locals := 42 }
abbrev rX11_fill : Room := { frames := 2, cells := 0, slots := 0, locals := 45 }
abbrev rX11_isOn : Room := { frames := 0, cells := 0, slots := 0, locals := 0 }
abbrev rX11_drawn : Room := { frames := 1, cells := 0, slots := 0, locals := 24 }
abbrev rX11_sharedCells : Room := { frames := 1, cells := 0, slots := 0, locals := 24 }
abbrev rX11_count : Room := { frames := 2, cells := 0, slots := 0, locals := 48 }
abbrev rX0_keepSizes : Room := { frames := 1, cells := 0, slots := 0, locals := 60 }
abbrev rX0_layingsOf : Room := { frames := 0, cells := 0, slots := 0, locals := 0 }
abbrev rX0_cellsOf : Room := { frames := 0, cells := 0, slots := 0, locals := 0 }
abbrev rX2_stones : Room := { frames := 0, cells := 0, slots := 0, locals := 0 }
abbrev rX2_canBeTakenFrom : Room := { frames := 0, cells := 0, slots := 0, locals := 0 }
abbrev rX0_worthOf (d : Nat) : Room := { frames := 1 + d, cells := 0, slots := 0, locals := 60 + 33 * d }
abbrev rX0_isAslant : Room := { frames := 0, cells := 0, slots := 0, locals := 0 }
abbrev rX0_ownWorth : Room := { frames := 1, cells := 0, slots := 0, locals := 23 }
abbrev rX0_isNext : Room := { frames := 26, cells := 0, slots := 0, locals := 885 }
abbrev rX9_add : Room := { frames := 0, cells := 0, slots := 0, locals := 0 }
abbrev rX0_goBehind : Room := { frames := 1, cells := 0, slots := 0, locals := 21 }
abbrev rX0_setStone : Room := { frames := 27, cells := 0, slots := 0, locals := 909 }
abbrev rJ7_fill_53178 : Room := { frames := 0, cells := 0, slots := 0, locals := 0 }
abbrev rJ7_rangeCheck_23922 : Room := { frames := 0, cells := 0, slots := 0, locals := 0 }
abbrev rJ7_fill_fda19 : Room := { frames := 1, cells := 0, slots := 0, locals := 22 }
abbrev rX1_strip : Room := { frames := 2, cells := 0, slots := 0, locals := 46 }
abbrev rX1_begin : Room := { frames := 3, cells := 0, slots := 0, locals := 67 }
abbrev rX1_copy : Room := { frames := 1, cells := 0, slots := 0, locals := 60 }
abbrev rX1_isCovered : Room := { frames := 0, cells := 0, slots := 0, locals := 0 }
abbrev rX1_cellsOf : Room := { frames := 0, cells := 0, slots := 0, locals := 0 }
abbrev rX1_missingIn : Room := { frames := 0, cells := 0, slots := 0, locals := 0 }
abbrev rX1_handOver : Room := { frames := 0, cells := 0, slots := 0, locals := 0 }
abbrev rX1_putDown : Room := { frames := 1, cells := 0, slots := 0, locals := 24 }
abbrev rX1_pickUp : Room := { frames := 3, cells := 0, slots := 0, locals := 67 }
abbrev rX2_add : Room := { frames := 1, cells := 0, slots := 0, locals := 25 }
abbrev rX2_listCut : Room := { frames := 2, cells := 0, slots := 0, locals := 50 }
abbrev rX2_list : Room := { frames := 3, cells := 0, slots := 0, locals := 82 }
abbrev rX3_isFor : Room := { frames := 0, cells := 0, slots := 0, locals := 0 }
abbrev rX3_begin : Room := { frames := 0, cells := 0, slots := 0, locals := 0 }
abbrev rX3_isFewer : Room := { frames := 0, cells := 0, slots := 0, locals := 0 }
abbrev rX3_keepTrial : Room := { frames := 1, cells := 0, slots := 0, locals := 60 }
abbrev rX4_dropOldest : Room := { frames := 0, cells := 0, slots := 0, locals := 0 }
abbrev rX4_keep : Room := { frames := 2, cells := 0, slots := 0, locals := 81 }
abbrev rX4_giveBack : Room := { frames := 2, cells := 0, slots := 0, locals := 81 }
abbrev rX5_begin : Room := { frames := 0, cells := 0, slots := 0, locals := 0 }
abbrev rX10_isOnGround : Room := { frames := 0, cells := 0, slots := 0, locals := 0 }
abbrev rX5_go : Room := { frames := 1, cells := 0, slots := 0, locals := 21 }
abbrev rX6_add : Room := { frames := 0, cells := 0, slots := 0, locals := 0 }
abbrev rX6_split : Room := { frames := 1, cells := 0, slots := 0, locals := 22 }
abbrev rX7_clear : Room := { frames := 1, cells := 0, slots := 0, locals := 23 }
abbrev rX7_goesOver : Room := { frames := 0, cells := 0, slots := 0, locals := 0 }
abbrev rJ6_bitCount_0f7a4 : Room := { frames := 0, cells := 0, slots := 0, locals := 0 }
abbrev rX7_sharedCells : Room := { frames := 1, cells := 0, slots := 0, locals := 20 }
abbrev rX8_append : Room := { frames := 0, cells := 0, slots := 0, locals := 0 }
abbrev rX8_take : Room := { frames := 0, cells := 0, slots := 0, locals := 0 }
abbrev rX8_readNumber : Room := { frames := 0, cells := 0, slots := 0, locals := 0 }
abbrev rX8_readNumbers : Room := { frames := 1, cells := 0, slots := 0, locals := 24 }
abbrev rX8_readSizes : Room := { frames := 2, cells := 0, slots := 0, locals := 60 }
abbrev rX8_readJoint : Room := { frames := 2, cells := 0, slots := 0, locals := 48 }
abbrev rX10_isColour : Room := { frames := 0, cells := 0, slots := 0, locals := 0 }
abbrev rX8_readBag : Room := { frames := 2, cells := 0, slots := 0, locals := 60 }
abbrev rX8_readRun : Room := { frames := 2, cells := 0, slots := 0, locals := 49 }
abbrev rX8_readLine : Room := { frames := 3, cells := 0, slots := 0, locals := 75 }
abbrev rX8_readItem : Room := { frames := 4, cells := 0, slots := 0, locals := 98 }
abbrev rX8_firstFault : Room := { frames := 5, cells := 0, slots := 0, locals := 120 }
abbrev rX9_clear : Room := { frames := 1, cells := 0, slots := 0, locals := 23 }
abbrev rX10_write : Room := { frames := 1, cells := 0, slots := 0, locals := 21 }
abbrev rX10_wipe : Room := { frames := 0, cells := 0, slots := 0, locals := 0 }
abbrev rX10_fault : Room := { frames := 6, cells := 0, slots := 0, locals := 143 }
abbrev rX10_forgetAnswers : Room := { frames := 0, cells := 0, slots := 0, locals := 0 }
abbrev rX10_layText : Room := { frames := 6, cells := 0, slots := 0, locals := 143 }
abbrev rX10_lay : Room := { frames := 7, cells := 0, slots := 0, locals := 164 }
abbrev rX10_beginChange : Room := { frames := 3, cells := 0, slots := 0, locals := 102 }
abbrev rX10_joint : Room := { frames := 4, cells := 0, slots := 0, locals := 122 }
abbrev rX10_isLine : Room := { frames := 0, cells := 0, slots := 0, locals := 0 }
abbrev rX10_line : Room := { frames := 1, cells := 0, slots := 0, locals := 24 }
abbrev rX10_cell : Room := { frames := 1, cells := 0, slots := 0, locals := 21 }
abbrev rX10_whose : Room := { frames := 1, cells := 0, slots := 0, locals := 21 }
abbrev rX10_piece : Room := { frames := 2, cells := 0, slots := 0, locals := 47 }
abbrev rX10_takeUp : Room := { frames := 4, cells := 0, slots := 0, locals := 122 }
abbrev rX10_bag : Room := { frames := 1, cells := 0, slots := 0, locals := 20 }
abbrev rX10_fill : Room := { frames := 4, cells := 0, slots := 0, locals := 122 }
abbrev rX10_undo : Room := { frames := 3, cells := 0, slots := 0, locals := 102 }
abbrev rX10_drawn : Room := { frames := 1, cells := 0, slots := 0, locals := 22 }
abbrev rX10_uncovered : Room := { frames := 1, cells := 0, slots := 0, locals := 21 }
abbrev rX10_count : Room := { frames := 2, cells := 0, slots := 0, locals := 43 }
