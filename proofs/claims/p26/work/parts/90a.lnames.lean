def wsL_cell : List Cond := .code yL_cell cL_cell 2 (some .int) :: ([.constant RL 7 (40503)])
def wsL_low : List Cond := .code yL_low cL_low 2 (some .int) :: ([.constant RL 8 (2147483647)])
def wsL_change_r1 : List Cond := [Cond.methodLink RL 9 yL_low, Cond.static yL_low, Cond.initialized RL, Cond.code yL_low cL_low 2 (some .int), Cond.constant RL 8 (2147483647), Cond.methodLink RL 15 yX6_tide, Cond.instanceMethod yX6_tide, Cond.selects RX6 yX6_tide yX6_tide, Cond.initialized RX6, Cond.code yX6_tide cX6_tide 5 (some .int), Cond.fieldLink RX6 10 "TideWords" "now" "LTideWords$World;", Cond.fieldLink RX6 56 "TideWords$World" "tides" "LTideWords$Tides;", Cond.fieldLink RX6 66 "TideWords$World" "steps" "I", Cond.methodLink RX6 45 yX6_isStore, Cond.static yX6_isStore, Cond.code yX6_isStore cX6_isStore 1 (some .boolean), Cond.methodLink RX6 49 yX6_isWithin, Cond.static yX6_isWithin, Cond.code yX6_isWithin cX6_isWithin 3 (some .boolean), Cond.methodLink RX6 53 yX6_record, Cond.instanceMethod yX6_record, Cond.selects RX6 yX6_record yX6_record, Cond.code yX6_record cX6_record 1 none, Cond.fieldLink RX6 26 "TideWords" "history" "[LTideWords$World;"]
def wsL_change_r2 : List Cond := [Cond.fieldLink RX6 259 "TideWords" "nextRecord" "I", Cond.fieldLink RX6 219 "TideWords" "records" "I", Cond.methodLink RX6 270 Lib.Math.min.name, Cond.static Lib.Math.min.name, Cond.initialized "java/lang/Math", Cond.code Lib.Math.min.name Lib.Math.min.code 2 (some .int), Cond.methodLink RX6 266 yX6_copyInto, Cond.instanceMethod yX6_copyInto, Cond.selects RX6 yX6_copyInto yX6_copyInto, Cond.code yX6_copyInto cX6_copyInto 4 none, Cond.methodLink RX6 262 yX6_worldIn, Cond.static yX6_worldIn, Cond.code yX6_worldIn cX6_worldIn 2 (some (.object "TideWords$World")), Cond.methodLink RX6 228 yX5_copyFrom, Cond.instanceMethod yX5_copyFrom, Cond.selects RX5 yX5_copyFrom yX5_copyFrom, Cond.initialized RX5, Cond.code yX5_copyFrom cX5_copyFrom 2 none, Cond.fieldLink RX5 12 "TideWords$World" "tides" "LTideWords$Tides;", Cond.fieldLink RX5 21 "TideWords$World" "gates" "LTideWords$Gates;", Cond.fieldLink RX5 28 "TideWords$World" "words" "LTideWords$Words;", Cond.fieldLink RX5 40 "TideWords$World" "steps" "I", Cond.fieldLink RX5 93 "TideWords$World" "letters" "I", Cond.fieldLink RX5 67 "TideWords$World" "idleSteps" "I"]
def wsL_change_r3 : List Cond := [Cond.methodLink RX5 134 yX3_copyFrom, Cond.instanceMethod yX3_copyFrom, Cond.selects RX3 yX3_copyFrom yX3_copyFrom, Cond.initialized RX3, Cond.code yX3_copyFrom cX3_copyFrom 2 none, Cond.fieldLink RX3 14 "TideWords$Tides" "means" "LTideWords$Cells;", Cond.fieldLink RX3 20 "TideWords$Tides" "swings" "LTideWords$Cells;", Cond.fieldLink RX3 23 "TideWords$Tides" "periods" "LTideWords$Cells;", Cond.fieldLink RX3 26 "TideWords$Tides" "lies" "LTideWords$Cells;", Cond.methodLink RX3 53 yX0_copyFrom, Cond.instanceMethod yX0_copyFrom, Cond.selects RX0 yX0_copyFrom yX0_copyFrom, Cond.initialized RX0, Cond.code yX0_copyFrom cX0_copyFrom 2 none, Cond.fieldLink RX0 13 "TideWords$Cells" "cells" "[I", Cond.methodLink RX0 19 Lib.Math.min.name, Cond.methodLink RX0 22 arraycopyName, Cond.native arraycopyName, Cond.static arraycopyName, Cond.initialized "java/lang/System", Cond.methodLink RX5 138 yX1_copyFrom, Cond.instanceMethod yX1_copyFrom, Cond.selects RX1 yX1_copyFrom yX1_copyFrom, Cond.initialized RX1]
def wsL_change_r4 : List Cond := [Cond.code yX1_copyFrom cX1_copyFrom 2 none, Cond.fieldLink RX1 14 "TideWords$Gates" "sides" "LTideWords$Cells;", Cond.fieldLink RX1 20 "TideWords$Gates" "slacks" "LTideWords$Cells;", Cond.fieldLink RX1 23 "TideWords$Gates" "ways" "LTideWords$Cells;", Cond.fieldLink RX1 26 "TideWords$Gates" "shuts" "LTideWords$Cells;", Cond.fieldLink RX1 29 "TideWords$Gates" "held" "LTideWords$Cells;", Cond.fieldLink RX1 32 "TideWords$Gates" "lettersDone" "LTideWords$Cells;", Cond.fieldLink RX1 35 "TideWords$Gates" "passedWords" "LTideWords$Cells;", Cond.fieldLink RX1 38 "TideWords$Gates" "vainLetters" "LTideWords$Cells;", Cond.methodLink RX1 65 yX0_copyFrom, Cond.methodLink RX5 141 yX4_copyFrom, Cond.instanceMethod yX4_copyFrom, Cond.selects RX4 yX4_copyFrom yX4_copyFrom, Cond.initialized RX4, Cond.code yX4_copyFrom cX4_copyFrom 2 none, Cond.fieldLink RX4 14 "TideWords$Words" "lengths" "LTideWords$Cells;", Cond.fieldLink RX4 20 "TideWords$Words" "letters" "LTideWords$Cells;", Cond.fieldLink RX4 23 "TideWords$Words" "passedSteps" "LTideWords$Cells;", Cond.fieldLink RX4 26 "TideWords$Words" "passedGates" "LTideWords$Cells;", Cond.fieldLink RX4 29 "TideWords$Words" "timesBack" "LTideWords$Cells;", Cond.fieldLink RX4 32 "TideWords$Words" "rows" "LTideWords$Cells;", Cond.fieldLink RX4 35 "TideWords$Words" "rowLengths" "LTideWords$Cells;", Cond.fieldLink RX4 38 "TideWords$Words" "total" "I", Cond.methodLink RX4 70 yX0_copyFrom]
def wsL_change_r5 : List Cond := [Cond.methodLink RX6 60 yX3_change, Cond.instanceMethod yX3_change, Cond.selects RX3 yX3_change yX3_change, Cond.code yX3_change cX3_change 5 none, Cond.methodLink RX3 33 yX0_set, Cond.instanceMethod yX0_set, Cond.selects RX0 yX0_set yX0_set, Cond.code yX0_set cX0_set 3 none, Cond.methodLink RX6 70 yX3_levelAt, Cond.instanceMethod yX3_levelAt, Cond.selects RX3 yX3_levelAt yX3_levelAt, Cond.code yX3_levelAt cX3_levelAt 6 (some .int), Cond.methodLink RX3 41 Lib.Math.min.name, Cond.methodLink RX3 37 yX0_get, Cond.instanceMethod yX0_get, Cond.selects RX0 yX0_get yX0_get, Cond.code yX0_get cX0_get 2 (some .int), Cond.methodLink RL 21 yX6_gauge, Cond.instanceMethod yX6_gauge, Cond.selects RX6 yX6_gauge yX6_gauge, Cond.code yX6_gauge cX6_gauge 4 (some .int), Cond.fieldLink RX6 74 "TideWords$Tides" "lies" "LTideWords$Cells;", Cond.methodLink RX6 77 yX0_get, Cond.methodLink RX6 81 yX0_set]
def wsL_change_r6 : List Cond := [Cond.methodLink RL 24 yX6_gate, Cond.instanceMethod yX6_gate, Cond.selects RX6 yX6_gate yX6_gate, Cond.code yX6_gate cX6_gate 6 (some .int), Cond.fieldLink RX6 88 "TideWords$World" "gates" "LTideWords$Gates;", Cond.fieldLink RX6 97 "TideWords$Gates" "sides" "LTideWords$Cells;", Cond.fieldLink RX6 100 "TideWords$Gates" "slacks" "LTideWords$Cells;", Cond.methodLink RX6 85 yX6_isGate, Cond.static yX6_isGate, Cond.code yX6_isGate cX6_isGate 1 (some .boolean), Cond.methodLink RX6 92 yX1_hasWord, Cond.instanceMethod yX1_hasWord, Cond.selects RX1 yX1_hasWord yX1_hasWord, Cond.code yX1_hasWord cX1_hasWord 2 (some .boolean), Cond.methodLink RX1 49 yX0_get, Cond.methodLink RX6 103 yX1_change, Cond.instanceMethod yX1_change, Cond.selects RX1 yX1_change yX1_change, Cond.code yX1_change cX1_change 5 none, Cond.methodLink RX1 45 yX0_set, Cond.methodLink RL 27 yX6_shut, Cond.instanceMethod yX6_shut, Cond.selects RX6 yX6_shut yX6_shut, Cond.code yX6_shut cX6_shut 3 (some .int)]
def wsL_change_r7 : List Cond := [Cond.fieldLink RX6 107 "TideWords$Gates" "shuts" "LTideWords$Cells;", Cond.methodLink RX6 104 yX1_isShut, Cond.instanceMethod yX1_isShut, Cond.selects RX1 yX1_isShut yX1_isShut, Cond.code yX1_isShut cX1_isShut 2 (some .boolean), Cond.methodLink RX6 110 yX0_sum, Cond.instanceMethod yX0_sum, Cond.selects RX0 yX0_sum yX0_sum, Cond.code yX0_sum cX0_sum 3 (some .int), Cond.methodLink RL 31 yX6_write, Cond.instanceMethod yX6_write, Cond.selects RX6 yX6_write yX6_write, Cond.code yX6_write cX6_write 5 (some .int), Cond.fieldLink RX6 22 "TideWords" "pad" "LTideWords$Pad;", Cond.fieldLink RX6 132 "TideWords$Pad" "length" "I", Cond.methodLink RX6 248 yX6_codesIn, Cond.static yX6_codesIn, Cond.code yX6_codesIn cX6_codesIn 6 (some .int), Cond.constantLong RX6 284 (255), Cond.methodLink RX6 252 yX6_codeAt, Cond.static yX6_codeAt, Cond.code yX6_codeAt cX6_codeAt 3 (some .int), Cond.methodLink RX6 256 yX2_append, Cond.instanceMethod yX2_append]
def wsL_change_r8 : List Cond := [Cond.selects RX2 yX2_append yX2_append, Cond.initialized RX2, Cond.code yX2_append cX2_append 2 none, Cond.fieldLink RX2 20 "TideWords$Pad" "length" "I", Cond.fieldLink RX2 14 "TideWords$Pad" "codes" "LTideWords$Cells;", Cond.methodLink RX2 24 yX0_set, Cond.methodLink RL 35 yX6_put, Cond.instanceMethod yX6_put, Cond.selects RX6 yX6_put yX6_put, Cond.code yX6_put cX6_put 2 (some .int), Cond.fieldLink RX6 117 "TideWords$World" "words" "LTideWords$Words;", Cond.fieldLink RX6 121 "TideWords$Words" "total" "I", Cond.methodLink RX6 114 yX2_faultPlace, Cond.instanceMethod yX2_faultPlace, Cond.selects RX2 yX2_faultPlace yX2_faultPlace, Cond.code yX2_faultPlace cX2_faultPlace 6 (some .int), Cond.methodLink RX2 28 yX0_get, Cond.methodLink RX6 126 yX2_wordsInside, Cond.instanceMethod yX2_wordsInside, Cond.selects RX2 yX2_wordsInside yX2_wordsInside, Cond.code yX2_wordsInside cX2_wordsInside 3 (some .int), Cond.methodLink RX6 129 yX6_bringWords, Cond.instanceMethod yX6_bringWords, Cond.selects RX6 yX6_bringWords yX6_bringWords]
def wsL_change_r9 : List Cond := [Cond.code yX6_bringWords cX6_bringWords 4 none, Cond.fieldLink RX6 278 "TideWords$Pad" "codes" "LTideWords$Cells;", Cond.methodLink RX6 275 yX4_startWord, Cond.instanceMethod yX4_startWord, Cond.selects RX4 yX4_startWord yX4_startWord, Cond.code yX4_startWord cX4_startWord 3 none, Cond.methodLink RX4 42 yX0_set, Cond.methodLink RX4 46 yX4_addLast, Cond.instanceMethod yX4_addLast, Cond.selects RX4 yX4_addLast yX4_addLast, Cond.code yX4_addLast cX4_addLast 4 none, Cond.methodLink RX4 49 yX0_get, Cond.methodLink RX6 281 yX4_addLetter, Cond.instanceMethod yX4_addLetter, Cond.selects RX4 yX4_addLetter yX4_addLetter, Cond.code yX4_addLetter cX4_addLetter 4 none, Cond.methodLink RX4 53 yX0_add, Cond.instanceMethod yX0_add, Cond.selects RX0 yX0_add yX0_add, Cond.code yX0_add cX0_add 3 none, Cond.methodLink RL 39 yX6_wipe, Cond.instanceMethod yX6_wipe, Cond.selects RX6 yX6_wipe yX6_wipe, Cond.code yX6_wipe cX6_wipe 2 (some .int)]
def wsL_change_r10 : List Cond := [Cond.methodLink RL 43 yX6_run, Cond.instanceMethod yX6_run, Cond.selects RX6 yX6_run yX6_run, Cond.code yX6_run cX6_run 3 (some .int), Cond.constant RX6 135 (99999), Cond.fieldLink RX6 136 "TideWords$Gates" "passedWords" "LTideWords$Cells;", Cond.methodLink RX6 139 yX5_makeSteps, Cond.instanceMethod yX5_makeSteps, Cond.selects RX5 yX5_makeSteps yX5_makeSteps, Cond.code yX5_makeSteps cX5_makeSteps 3 none, Cond.methodLink RX5 32 yX3_gapAt, Cond.instanceMethod yX3_gapAt, Cond.selects RX3 yX3_gapAt yX3_gapAt, Cond.code yX3_gapAt cX3_gapAt 2 (some .int), Cond.methodLink RX3 50 yX3_toldAt, Cond.instanceMethod yX3_toldAt, Cond.selects RX3 yX3_toldAt yX3_toldAt, Cond.code yX3_toldAt cX3_toldAt 3 (some .int), Cond.methodLink RX3 47 yX3_levelAt, Cond.methodLink RX5 54 yX5_stepAcross, Cond.instanceMethod yX5_stepAcross, Cond.selects RX5 yX5_stepAcross yX5_stepAcross, Cond.code yX5_stepAcross cX5_stepAcross 4 none, Cond.methodLink RX5 36 yX1_isOpenAcross]
def wsL_change_r11 : List Cond := [Cond.instanceMethod yX1_isOpenAcross, Cond.selects RX1 yX1_isOpenAcross yX1_isOpenAcross, Cond.code yX1_isOpenAcross cX1_isOpenAcross 3 (some .boolean), Cond.methodLink RX1 57 Lib.Math.abs.name, Cond.static Lib.Math.abs.name, Cond.code Lib.Math.abs.name Lib.Math.abs.code 1 (some .int), Cond.methodLink RX1 53 yX1_isShut, Cond.methodLink RX5 58 yX5_takeWord, Cond.instanceMethod yX5_takeWord, Cond.selects RX5 yX5_takeWord yX5_takeWord, Cond.code yX5_takeWord cX5_takeWord 2 none, Cond.fieldLink RX5 74 "TideWords$Gates" "held" "LTideWords$Cells;", Cond.fieldLink RX5 78 "TideWords$Gates" "sides" "LTideWords$Cells;", Cond.methodLink RX5 70 yX1_hasWord, Cond.methodLink RX5 81 yX0_get, Cond.methodLink RX5 86 yX4_takeWaiting, Cond.instanceMethod yX4_takeWaiting, Cond.selects RX4 yX4_takeWaiting yX4_takeWaiting, Cond.code yX4_takeWaiting cX4_takeWaiting 5 (some .int), Cond.methodLink RX4 56 yX4_wordAt, Cond.instanceMethod yX4_wordAt, Cond.selects RX4 yX4_wordAt yX4_wordAt, Cond.code yX4_wordAt cX4_wordAt 3 (some .int), Cond.methodLink RX4 63 yX4_hasPassed]
def wsL_change_r12 : List Cond := [Cond.instanceMethod yX4_hasPassed, Cond.selects RX4 yX4_hasPassed yX4_hasPassed, Cond.code yX4_hasPassed cX4_hasPassed 2 (some .boolean), Cond.methodLink RX4 67 yX4_removeFrom, Cond.instanceMethod yX4_removeFrom, Cond.selects RX4 yX4_removeFrom yX4_removeFrom, Cond.code yX4_removeFrom cX4_removeFrom 6 none, Cond.methodLink RX5 89 yX0_set, Cond.methodLink RX5 61 yX5_passLetter, Cond.instanceMethod yX5_passLetter, Cond.selects RX5 yX5_passLetter yX5_passLetter, Cond.code yX5_passLetter cX5_passLetter 3 none, Cond.fieldLink RX5 96 "TideWords$Gates" "lettersDone" "LTideWords$Cells;", Cond.fieldLink RX5 102 "TideWords$Words" "lengths" "LTideWords$Cells;", Cond.fieldLink RX5 108 "TideWords$Gates" "passedWords" "LTideWords$Cells;", Cond.methodLink RX5 99 yX0_add, Cond.methodLink RX5 105 yX1_release, Cond.instanceMethod yX1_release, Cond.selects RX1 yX1_release yX1_release, Cond.code yX1_release cX1_release 2 none, Cond.methodLink RX5 111 yX4_markPassed, Cond.instanceMethod yX4_markPassed, Cond.selects RX4 yX4_markPassed yX4_markPassed, Cond.code yX4_markPassed cX4_markPassed 4 none]
def wsL_change_r13 : List Cond := [Cond.methodLink RX5 115 yX4_addLast, Cond.methodLink RX5 64 yX5_sendBack, Cond.instanceMethod yX5_sendBack, Cond.selects RX5 yX5_sendBack yX5_sendBack, Cond.code yX5_sendBack cX5_sendBack 3 none, Cond.fieldLink RX5 118 "TideWords$Gates" "ways" "LTideWords$Cells;", Cond.fieldLink RX5 121 "TideWords$Gates" "vainLetters" "LTideWords$Cells;", Cond.fieldLink RX5 124 "TideWords$Words" "timesBack" "LTideWords$Cells;", Cond.methodLink RX5 127 yX4_addFirst, Cond.instanceMethod yX4_addFirst, Cond.selects RX4 yX4_addFirst yX4_addFirst, Cond.code yX4_addFirst cX4_addFirst 6 none]
def wsL_change : List Cond := .code yL_change cL_change 6 (some .int) :: ((wsL_change_r1 ++ (wsL_change_r2 ++ (wsL_change_r3 ++ (wsL_change_r4 ++ (wsL_change_r5 ++ (wsL_change_r6 ++ (wsL_change_r7 ++ (wsL_change_r8 ++ (wsL_change_r9 ++ (wsL_change_r10 ++ (wsL_change_r11 ++ (wsL_change_r12 ++ wsL_change_r13)))))))))))) ++ wsX60 ++ wsX50 ++ wsX30 ++ wsX00 ++ wsX10 ++ wsX40 ++ wsX20)
def wsL_level_r1 : List Cond := [Cond.methodLink RL 46 yX6_store, Cond.instanceMethod yX6_store, Cond.selects RX6 yX6_store yX6_store, Cond.initialized RX6, Cond.code yX6_store cX6_store 3 (some .int), Cond.fieldLink RX6 10 "TideWords" "now" "LTideWords$World;", Cond.fieldLink RX6 56 "TideWords$World" "tides" "LTideWords$Tides;", Cond.fieldLink RX6 142 "TideWords$Tides" "means" "LTideWords$Cells;", Cond.fieldLink RX6 145 "TideWords$Tides" "swings" "LTideWords$Cells;", Cond.fieldLink RX6 148 "TideWords$Tides" "periods" "LTideWords$Cells;", Cond.fieldLink RX6 74 "TideWords$Tides" "lies" "LTideWords$Cells;", Cond.fieldLink RX6 66 "TideWords$World" "steps" "I", Cond.fieldLink RX6 117 "TideWords$World" "words" "LTideWords$Words;", Cond.fieldLink RX6 154 "TideWords$Words" "rowLengths" "LTideWords$Cells;", Cond.methodLink RX6 45 yX6_isStore, Cond.static yX6_isStore, Cond.code yX6_isStore cX6_isStore 1 (some .boolean), Cond.methodLink RX6 49 yX6_isWithin, Cond.static yX6_isWithin, Cond.code yX6_isWithin cX6_isWithin 3 (some .boolean), Cond.methodLink RX6 77 yX0_get, Cond.instanceMethod yX0_get, Cond.selects RX0 yX0_get yX0_get, Cond.initialized RX0]
def wsL_level_r2 : List Cond := [Cond.code yX0_get cX0_get 2 (some .int), Cond.fieldLink RX0 13 "TideWords$Cells" "cells" "[I", Cond.methodLink RX6 70 yX3_levelAt, Cond.instanceMethod yX3_levelAt, Cond.selects RX3 yX3_levelAt yX3_levelAt, Cond.initialized RX3, Cond.code yX3_levelAt cX3_levelAt 6 (some .int), Cond.fieldLink RX3 23 "TideWords$Tides" "periods" "LTideWords$Cells;", Cond.fieldLink RX3 14 "TideWords$Tides" "means" "LTideWords$Cells;", Cond.fieldLink RX3 20 "TideWords$Tides" "swings" "LTideWords$Cells;", Cond.methodLink RX3 41 Lib.Math.min.name, Cond.static Lib.Math.min.name, Cond.initialized "java/lang/Math", Cond.code Lib.Math.min.name Lib.Math.min.code 2 (some .int), Cond.methodLink RX3 37 yX0_get, Cond.methodLink RX6 151 yX3_toldAt, Cond.instanceMethod yX3_toldAt, Cond.selects RX3 yX3_toldAt yX3_toldAt, Cond.code yX3_toldAt cX3_toldAt 3 (some .int), Cond.fieldLink RX3 26 "TideWords$Tides" "lies" "LTideWords$Cells;", Cond.methodLink RX3 47 yX3_levelAt, Cond.methodLink RX6 157 yX4_lettersInRow, Cond.instanceMethod yX4_lettersInRow, Cond.selects RX4 yX4_lettersInRow yX4_lettersInRow]
def wsL_level_r3 : List Cond := [Cond.initialized RX4, Cond.code yX4_lettersInRow cX4_lettersInRow 5 (some .int), Cond.fieldLink RX4 35 "TideWords$Words" "rowLengths" "LTideWords$Cells;", Cond.fieldLink RX4 14 "TideWords$Words" "lengths" "LTideWords$Cells;", Cond.methodLink RX4 49 yX0_get, Cond.methodLink RX4 56 yX4_wordAt, Cond.instanceMethod yX4_wordAt, Cond.selects RX4 yX4_wordAt yX4_wordAt, Cond.code yX4_wordAt cX4_wordAt 3 (some .int), Cond.fieldLink RX4 32 "TideWords$Words" "rows" "LTideWords$Cells;", Cond.methodLink RX6 160 yX4_waitingInRow, Cond.instanceMethod yX4_waitingInRow, Cond.selects RX4 yX4_waitingInRow yX4_waitingInRow, Cond.code yX4_waitingInRow cX4_waitingInRow 5 (some .int), Cond.methodLink RX4 63 yX4_hasPassed, Cond.instanceMethod yX4_hasPassed, Cond.selects RX4 yX4_hasPassed yX4_hasPassed, Cond.code yX4_hasPassed cX4_hasPassed 2 (some .boolean), Cond.fieldLink RX4 23 "TideWords$Words" "passedSteps" "LTideWords$Cells;"]
def wsL_level : List Cond := .code yL_level cL_level 5 (some .int) :: ((wsL_level_r1 ++ (wsL_level_r2 ++ wsL_level_r3)) ++ wsX60 ++ wsX50 ++ wsX30 ++ wsX40 ++ wsX00)
def wsL_off_r1 : List Cond := [Cond.methodLink RL 49 yL_level, Cond.static yL_level, Cond.initialized RL, Cond.code yL_level cL_level 5 (some .int), Cond.methodLink RL 46 yX6_store, Cond.instanceMethod yX6_store, Cond.selects RX6 yX6_store yX6_store, Cond.initialized RX6, Cond.code yX6_store cX6_store 3 (some .int), Cond.fieldLink RX6 10 "TideWords" "now" "LTideWords$World;", Cond.fieldLink RX6 56 "TideWords$World" "tides" "LTideWords$Tides;", Cond.fieldLink RX6 142 "TideWords$Tides" "means" "LTideWords$Cells;", Cond.fieldLink RX6 145 "TideWords$Tides" "swings" "LTideWords$Cells;", Cond.fieldLink RX6 148 "TideWords$Tides" "periods" "LTideWords$Cells;", Cond.fieldLink RX6 74 "TideWords$Tides" "lies" "LTideWords$Cells;", Cond.fieldLink RX6 66 "TideWords$World" "steps" "I", Cond.fieldLink RX6 117 "TideWords$World" "words" "LTideWords$Words;", Cond.fieldLink RX6 154 "TideWords$Words" "rowLengths" "LTideWords$Cells;", Cond.methodLink RX6 45 yX6_isStore, Cond.static yX6_isStore, Cond.code yX6_isStore cX6_isStore 1 (some .boolean), Cond.methodLink RX6 49 yX6_isWithin, Cond.static yX6_isWithin, Cond.code yX6_isWithin cX6_isWithin 3 (some .boolean)]
def wsL_off_r2 : List Cond := [Cond.methodLink RX6 77 yX0_get, Cond.instanceMethod yX0_get, Cond.selects RX0 yX0_get yX0_get, Cond.initialized RX0, Cond.code yX0_get cX0_get 2 (some .int), Cond.fieldLink RX0 13 "TideWords$Cells" "cells" "[I", Cond.methodLink RX6 70 yX3_levelAt, Cond.instanceMethod yX3_levelAt, Cond.selects RX3 yX3_levelAt yX3_levelAt, Cond.initialized RX3, Cond.code yX3_levelAt cX3_levelAt 6 (some .int), Cond.fieldLink RX3 23 "TideWords$Tides" "periods" "LTideWords$Cells;", Cond.fieldLink RX3 14 "TideWords$Tides" "means" "LTideWords$Cells;", Cond.fieldLink RX3 20 "TideWords$Tides" "swings" "LTideWords$Cells;", Cond.methodLink RX3 41 Lib.Math.min.name, Cond.static Lib.Math.min.name, Cond.initialized "java/lang/Math", Cond.code Lib.Math.min.name Lib.Math.min.code 2 (some .int), Cond.methodLink RX3 37 yX0_get, Cond.methodLink RX6 151 yX3_toldAt, Cond.instanceMethod yX3_toldAt, Cond.selects RX3 yX3_toldAt yX3_toldAt, Cond.code yX3_toldAt cX3_toldAt 3 (some .int), Cond.fieldLink RX3 26 "TideWords$Tides" "lies" "LTideWords$Cells;"]
def wsL_off_r3 : List Cond := [Cond.methodLink RX3 47 yX3_levelAt, Cond.methodLink RX6 157 yX4_lettersInRow, Cond.instanceMethod yX4_lettersInRow, Cond.selects RX4 yX4_lettersInRow yX4_lettersInRow, Cond.initialized RX4, Cond.code yX4_lettersInRow cX4_lettersInRow 5 (some .int), Cond.fieldLink RX4 35 "TideWords$Words" "rowLengths" "LTideWords$Cells;", Cond.fieldLink RX4 14 "TideWords$Words" "lengths" "LTideWords$Cells;", Cond.methodLink RX4 49 yX0_get, Cond.methodLink RX4 56 yX4_wordAt, Cond.instanceMethod yX4_wordAt, Cond.selects RX4 yX4_wordAt yX4_wordAt, Cond.code yX4_wordAt cX4_wordAt 3 (some .int), Cond.fieldLink RX4 32 "TideWords$Words" "rows" "LTideWords$Cells;", Cond.methodLink RX6 160 yX4_waitingInRow, Cond.instanceMethod yX4_waitingInRow, Cond.selects RX4 yX4_waitingInRow yX4_waitingInRow, Cond.code yX4_waitingInRow cX4_waitingInRow 5 (some .int), Cond.methodLink RX4 63 yX4_hasPassed, Cond.instanceMethod yX4_hasPassed, Cond.selects RX4 yX4_hasPassed yX4_hasPassed, Cond.code yX4_hasPassed cX4_hasPassed 2 (some .boolean), Cond.fieldLink RX4 23 "TideWords$Words" "passedSteps" "LTideWords$Cells;"]
def wsL_off : List Cond := .code yL_off cL_off 3 (some .int) :: ((wsL_off_r1 ++ (wsL_off_r2 ++ wsL_off_r3)) ++ wsX60 ++ wsX50 ++ wsX30 ++ wsX40 ++ wsX00)
def wsL_isGate_r1 : List Cond := [Cond.methodLink RL 53 yX6_count, Cond.instanceMethod yX6_count, Cond.selects RX6 yX6_count yX6_count, Cond.initialized RX6, Cond.code yX6_count cX6_count 2 (some .int), Cond.fieldLink RX6 10 "TideWords" "now" "LTideWords$World;", Cond.fieldLink RX6 66 "TideWords$World" "steps" "I", Cond.fieldLink RX6 117 "TideWords$World" "words" "LTideWords$Words;", Cond.fieldLink RX6 121 "TideWords$Words" "total" "I", Cond.fieldLink RX6 88 "TideWords$World" "gates" "LTideWords$Gates;", Cond.fieldLink RX6 136 "TideWords$Gates" "passedWords" "LTideWords$Cells;", Cond.fieldLink RX6 210 "TideWords$World" "letters" "I", Cond.fieldLink RX6 176 "TideWords$Gates" "vainLetters" "LTideWords$Cells;", Cond.fieldLink RX6 216 "TideWords$World" "idleSteps" "I", Cond.fieldLink RX6 22 "TideWords" "pad" "LTideWords$Pad;", Cond.fieldLink RX6 132 "TideWords$Pad" "length" "I", Cond.fieldLink RX6 219 "TideWords" "records" "I", Cond.methodLink RX6 110 yX0_sum, Cond.instanceMethod yX0_sum, Cond.selects RX0 yX0_sum yX0_sum, Cond.initialized RX0, Cond.code yX0_sum cX0_sum 3 (some .int), Cond.fieldLink RX0 13 "TideWords$Cells" "cells" "[I", Cond.methodLink RX6 160 yX4_waitingInRow]
def wsL_isGate_r2 : List Cond := [Cond.instanceMethod yX4_waitingInRow, Cond.selects RX4 yX4_waitingInRow yX4_waitingInRow, Cond.initialized RX4, Cond.code yX4_waitingInRow cX4_waitingInRow 5 (some .int), Cond.fieldLink RX4 35 "TideWords$Words" "rowLengths" "LTideWords$Cells;", Cond.methodLink RX4 49 yX0_get, Cond.instanceMethod yX0_get, Cond.selects RX0 yX0_get yX0_get, Cond.code yX0_get cX0_get 2 (some .int), Cond.methodLink RX4 56 yX4_wordAt, Cond.instanceMethod yX4_wordAt, Cond.selects RX4 yX4_wordAt yX4_wordAt, Cond.code yX4_wordAt cX4_wordAt 3 (some .int), Cond.fieldLink RX4 32 "TideWords$Words" "rows" "LTideWords$Cells;", Cond.methodLink RX4 63 yX4_hasPassed, Cond.instanceMethod yX4_hasPassed, Cond.selects RX4 yX4_hasPassed yX4_hasPassed, Cond.code yX4_hasPassed cX4_hasPassed 2 (some .boolean), Cond.fieldLink RX4 23 "TideWords$Words" "passedSteps" "LTideWords$Cells;", Cond.methodLink RX6 209 yX1_wordsInside, Cond.instanceMethod yX1_wordsInside, Cond.selects RX1 yX1_wordsInside yX1_wordsInside, Cond.initialized RX1, Cond.code yX1_wordsInside cX1_wordsInside 3 (some .int)]
def wsL_isGate_r3 : List Cond := [Cond.methodLink RX1 62 yX1_hasWord, Cond.instanceMethod yX1_hasWord, Cond.selects RX1 yX1_hasWord yX1_hasWord, Cond.code yX1_hasWord cX1_hasWord 2 (some .boolean), Cond.fieldLink RX1 29 "TideWords$Gates" "held" "LTideWords$Cells;", Cond.methodLink RX1 49 yX0_get, Cond.methodLink RX6 213 yX5_openMask, Cond.instanceMethod yX5_openMask, Cond.selects RX5 yX5_openMask yX5_openMask, Cond.initialized RX5, Cond.code yX5_openMask cX5_openMask 3 (some .int), Cond.fieldLink RX5 40 "TideWords$World" "steps" "I", Cond.methodLink RX5 44 yX5_isOpenAt, Cond.instanceMethod yX5_isOpenAt, Cond.selects RX5 yX5_isOpenAt yX5_isOpenAt, Cond.code yX5_isOpenAt cX5_isOpenAt 3 (some .boolean), Cond.fieldLink RX5 21 "TideWords$World" "gates" "LTideWords$Gates;", Cond.fieldLink RX5 12 "TideWords$World" "tides" "LTideWords$Tides;", Cond.methodLink RX5 32 yX3_gapAt, Cond.instanceMethod yX3_gapAt, Cond.selects RX3 yX3_gapAt yX3_gapAt, Cond.initialized RX3, Cond.code yX3_gapAt cX3_gapAt 2 (some .int), Cond.methodLink RX3 50 yX3_toldAt]
def wsL_isGate_r4 : List Cond := [Cond.instanceMethod yX3_toldAt, Cond.selects RX3 yX3_toldAt yX3_toldAt, Cond.code yX3_toldAt cX3_toldAt 3 (some .int), Cond.fieldLink RX3 26 "TideWords$Tides" "lies" "LTideWords$Cells;", Cond.methodLink RX3 47 yX3_levelAt, Cond.instanceMethod yX3_levelAt, Cond.selects RX3 yX3_levelAt yX3_levelAt, Cond.code yX3_levelAt cX3_levelAt 6 (some .int), Cond.fieldLink RX3 23 "TideWords$Tides" "periods" "LTideWords$Cells;", Cond.fieldLink RX3 14 "TideWords$Tides" "means" "LTideWords$Cells;", Cond.fieldLink RX3 20 "TideWords$Tides" "swings" "LTideWords$Cells;", Cond.methodLink RX3 41 Lib.Math.min.name, Cond.static Lib.Math.min.name, Cond.initialized "java/lang/Math", Cond.code Lib.Math.min.name Lib.Math.min.code 2 (some .int), Cond.methodLink RX3 37 yX0_get, Cond.methodLink RX5 36 yX1_isOpenAcross, Cond.instanceMethod yX1_isOpenAcross, Cond.selects RX1 yX1_isOpenAcross yX1_isOpenAcross, Cond.code yX1_isOpenAcross cX1_isOpenAcross 3 (some .boolean), Cond.methodLink RX1 57 Lib.Math.abs.name, Cond.static Lib.Math.abs.name, Cond.code Lib.Math.abs.name Lib.Math.abs.code 1 (some .int), Cond.fieldLink RX1 20 "TideWords$Gates" "slacks" "LTideWords$Cells;"]
def wsL_isGate_r5 : List Cond := [Cond.methodLink RX1 53 yX1_isShut, Cond.instanceMethod yX1_isShut, Cond.selects RX1 yX1_isShut yX1_isShut, Cond.code yX1_isShut cX1_isShut 2 (some .boolean), Cond.fieldLink RX1 26 "TideWords$Gates" "shuts" "LTideWords$Cells;", Cond.methodLink RL 56 yX6_gateOf, Cond.instanceMethod yX6_gateOf, Cond.selects RX6 yX6_gateOf yX6_gateOf, Cond.code yX6_gateOf cX6_gateOf 3 (some .int), Cond.fieldLink RX6 97 "TideWords$Gates" "sides" "LTideWords$Cells;", Cond.fieldLink RX6 100 "TideWords$Gates" "slacks" "LTideWords$Cells;", Cond.fieldLink RX6 163 "TideWords$Gates" "ways" "LTideWords$Cells;", Cond.fieldLink RX6 107 "TideWords$Gates" "shuts" "LTideWords$Cells;", Cond.fieldLink RX6 170 "TideWords$Gates" "held" "LTideWords$Cells;", Cond.fieldLink RX6 173 "TideWords$Gates" "lettersDone" "LTideWords$Cells;", Cond.methodLink RX6 85 yX6_isGate, Cond.static yX6_isGate, Cond.code yX6_isGate cX6_isGate 1 (some .boolean), Cond.methodLink RX6 49 yX6_isWithin, Cond.static yX6_isWithin, Cond.code yX6_isWithin cX6_isWithin 3 (some .boolean), Cond.methodLink RX6 77 yX0_get, Cond.methodLink RX6 166 yX5_isOpenAt, Cond.methodLink RL 59 yL_off]
def wsL_isGate_r6 : List Cond := [Cond.static yL_off, Cond.initialized RL, Cond.code yL_off cL_off 3 (some .int), Cond.methodLink RL 49 yL_level, Cond.static yL_level, Cond.code yL_level cL_level 5 (some .int), Cond.methodLink RL 46 yX6_store, Cond.instanceMethod yX6_store, Cond.selects RX6 yX6_store yX6_store, Cond.code yX6_store cX6_store 3 (some .int), Cond.fieldLink RX6 56 "TideWords$World" "tides" "LTideWords$Tides;", Cond.fieldLink RX6 142 "TideWords$Tides" "means" "LTideWords$Cells;", Cond.fieldLink RX6 145 "TideWords$Tides" "swings" "LTideWords$Cells;", Cond.fieldLink RX6 148 "TideWords$Tides" "periods" "LTideWords$Cells;", Cond.fieldLink RX6 74 "TideWords$Tides" "lies" "LTideWords$Cells;", Cond.fieldLink RX6 154 "TideWords$Words" "rowLengths" "LTideWords$Cells;", Cond.methodLink RX6 45 yX6_isStore, Cond.static yX6_isStore, Cond.code yX6_isStore cX6_isStore 1 (some .boolean), Cond.methodLink RX6 70 yX3_levelAt, Cond.methodLink RX6 151 yX3_toldAt, Cond.methodLink RX6 157 yX4_lettersInRow, Cond.instanceMethod yX4_lettersInRow, Cond.selects RX4 yX4_lettersInRow yX4_lettersInRow]
def wsL_isGate_r7 : List Cond := [Cond.code yX4_lettersInRow cX4_lettersInRow 5 (some .int), Cond.fieldLink RX4 14 "TideWords$Words" "lengths" "LTideWords$Cells;", Cond.methodLink RL 63 yX6_word, Cond.instanceMethod yX6_word, Cond.selects RX6 yX6_word yX6_word, Cond.code yX6_word cX6_word 3 (some .int), Cond.fieldLink RX6 188 "TideWords$Words" "lengths" "LTideWords$Cells;", Cond.fieldLink RX6 194 "TideWords$Words" "passedSteps" "LTideWords$Cells;", Cond.fieldLink RX6 197 "TideWords$Words" "passedGates" "LTideWords$Cells;", Cond.fieldLink RX6 200 "TideWords$Words" "timesBack" "LTideWords$Cells;", Cond.methodLink RX6 179 yX6_isWord, Cond.instanceMethod yX6_isWord, Cond.selects RX6 yX6_isWord yX6_isWord, Cond.code yX6_isWord cX6_isWord 2 (some .boolean), Cond.methodLink RX6 182 yX5_whereIs, Cond.instanceMethod yX5_whereIs, Cond.selects RX5 yX5_whereIs yX5_whereIs, Cond.code yX5_whereIs cX5_whereIs 3 (some .int), Cond.fieldLink RX5 28 "TideWords$World" "words" "LTideWords$Words;", Cond.methodLink RX5 47 yX1_gateWith, Cond.instanceMethod yX1_gateWith, Cond.selects RX1 yX1_gateWith yX1_gateWith, Cond.code yX1_gateWith cX1_gateWith 3 (some .int), Cond.methodLink RX5 50 yX4_placeIn]
def wsL_isGate_r8 : List Cond := [Cond.instanceMethod yX4_placeIn, Cond.selects RX4 yX4_placeIn yX4_placeIn, Cond.code yX4_placeIn cX4_placeIn 5 (some .int), Cond.methodLink RX6 185 yX4_placeOf, Cond.instanceMethod yX4_placeOf, Cond.selects RX4 yX4_placeOf yX4_placeOf, Cond.code yX4_placeOf cX4_placeOf 3 (some .int), Cond.methodLink RX4 60 yX4_placeIn, Cond.methodLink RX6 191 yX4_hasPassed, Cond.methodLink RX6 203 yX4_letterOf, Cond.instanceMethod yX4_letterOf, Cond.selects RX4 yX4_letterOf yX4_letterOf, Cond.code yX4_letterOf cX4_letterOf 4 (some .int), Cond.fieldLink RX4 20 "TideWords$Words" "letters" "LTideWords$Cells;", Cond.methodLink RL 66 yX6_untilOpen, Cond.instanceMethod yX6_untilOpen, Cond.selects RX6 yX6_untilOpen yX6_untilOpen, Cond.code yX6_untilOpen cX6_untilOpen 2 (some .int), Cond.methodLink RX6 222 yX5_stepsUntilOpen, Cond.instanceMethod yX5_stepsUntilOpen, Cond.selects RX5 yX5_stepsUntilOpen yX5_stepsUntilOpen, Cond.code yX5_stepsUntilOpen cX5_stepsUntilOpen 3 (some .int), Cond.methodLink RL 69 yX6_openFor, Cond.instanceMethod yX6_openFor]
def wsL_isGate_r9 : List Cond := [Cond.selects RX6 yX6_openFor yX6_openFor, Cond.code yX6_openFor cX6_openFor 3 (some .int), Cond.methodLink RX6 225 yX5_openStepsFrom, Cond.instanceMethod yX5_openStepsFrom, Cond.selects RX5 yX5_openStepsFrom yX5_openStepsFrom, Cond.code yX5_openStepsFrom cX5_openStepsFrom 4 (some .int)]
def wsL_isGate : List Cond := .code yL_isGate cL_isGate 10 (some .boolean) :: ((wsL_isGate_r1 ++ (wsL_isGate_r2 ++ (wsL_isGate_r3 ++ (wsL_isGate_r4 ++ (wsL_isGate_r5 ++ (wsL_isGate_r6 ++ (wsL_isGate_r7 ++ (wsL_isGate_r8 ++ wsL_isGate_r9)))))))) ++ wsX60 ++ wsX50 ++ wsX40 ++ wsX10 ++ wsX20 ++ wsX00 ++ wsX30)
def wsL_isWord_r1 : List Cond := [Cond.methodLink RL 63 yX6_word, Cond.instanceMethod yX6_word, Cond.selects RX6 yX6_word yX6_word, Cond.initialized RX6, Cond.code yX6_word cX6_word 3 (some .int), Cond.fieldLink RX6 10 "TideWords" "now" "LTideWords$World;", Cond.fieldLink RX6 117 "TideWords$World" "words" "LTideWords$Words;", Cond.fieldLink RX6 188 "TideWords$Words" "lengths" "LTideWords$Cells;", Cond.fieldLink RX6 194 "TideWords$Words" "passedSteps" "LTideWords$Cells;", Cond.fieldLink RX6 197 "TideWords$Words" "passedGates" "LTideWords$Cells;", Cond.fieldLink RX6 200 "TideWords$Words" "timesBack" "LTideWords$Cells;", Cond.methodLink RX6 179 yX6_isWord, Cond.instanceMethod yX6_isWord, Cond.selects RX6 yX6_isWord yX6_isWord, Cond.code yX6_isWord cX6_isWord 2 (some .boolean), Cond.fieldLink RX6 121 "TideWords$Words" "total" "I", Cond.methodLink RX6 49 yX6_isWithin, Cond.static yX6_isWithin, Cond.code yX6_isWithin cX6_isWithin 3 (some .boolean), Cond.methodLink RX6 182 yX5_whereIs, Cond.instanceMethod yX5_whereIs, Cond.selects RX5 yX5_whereIs yX5_whereIs, Cond.initialized RX5, Cond.code yX5_whereIs cX5_whereIs 3 (some .int)]
def wsL_isWord_r2 : List Cond := [Cond.fieldLink RX5 21 "TideWords$World" "gates" "LTideWords$Gates;", Cond.fieldLink RX5 28 "TideWords$World" "words" "LTideWords$Words;", Cond.methodLink RX5 47 yX1_gateWith, Cond.instanceMethod yX1_gateWith, Cond.selects RX1 yX1_gateWith yX1_gateWith, Cond.initialized RX1, Cond.code yX1_gateWith cX1_gateWith 3 (some .int), Cond.fieldLink RX1 29 "TideWords$Gates" "held" "LTideWords$Cells;", Cond.methodLink RX1 49 yX0_get, Cond.instanceMethod yX0_get, Cond.selects RX0 yX0_get yX0_get, Cond.initialized RX0, Cond.code yX0_get cX0_get 2 (some .int), Cond.fieldLink RX0 13 "TideWords$Cells" "cells" "[I", Cond.methodLink RX5 50 yX4_placeIn, Cond.instanceMethod yX4_placeIn, Cond.selects RX4 yX4_placeIn yX4_placeIn, Cond.initialized RX4, Cond.code yX4_placeIn cX4_placeIn 5 (some .int), Cond.fieldLink RX4 35 "TideWords$Words" "rowLengths" "LTideWords$Cells;", Cond.methodLink RX4 49 yX0_get, Cond.methodLink RX4 56 yX4_wordAt, Cond.instanceMethod yX4_wordAt, Cond.selects RX4 yX4_wordAt yX4_wordAt]
def wsL_isWord_r3 : List Cond := [Cond.code yX4_wordAt cX4_wordAt 3 (some .int), Cond.fieldLink RX4 32 "TideWords$Words" "rows" "LTideWords$Cells;", Cond.methodLink RX6 185 yX4_placeOf, Cond.instanceMethod yX4_placeOf, Cond.selects RX4 yX4_placeOf yX4_placeOf, Cond.code yX4_placeOf cX4_placeOf 3 (some .int), Cond.methodLink RX4 60 yX4_placeIn, Cond.methodLink RX6 77 yX0_get, Cond.methodLink RX6 191 yX4_hasPassed, Cond.instanceMethod yX4_hasPassed, Cond.selects RX4 yX4_hasPassed yX4_hasPassed, Cond.code yX4_hasPassed cX4_hasPassed 2 (some .boolean), Cond.fieldLink RX4 23 "TideWords$Words" "passedSteps" "LTideWords$Cells;", Cond.methodLink RX6 203 yX4_letterOf, Cond.instanceMethod yX4_letterOf, Cond.selects RX4 yX4_letterOf yX4_letterOf, Cond.code yX4_letterOf cX4_letterOf 4 (some .int), Cond.fieldLink RX4 14 "TideWords$Words" "lengths" "LTideWords$Cells;", Cond.fieldLink RX4 20 "TideWords$Words" "letters" "LTideWords$Cells;", Cond.methodLink RL 72 yX6_at, Cond.instanceMethod yX6_at, Cond.selects RX6 yX6_at yX6_at, Cond.code yX6_at cX6_at 3 (some .int), Cond.fieldLink RX6 154 "TideWords$Words" "rowLengths" "LTideWords$Cells;"]
def wsL_isWord_r4 : List Cond := [Cond.methodLink RX6 45 yX6_isStore, Cond.static yX6_isStore, Cond.code yX6_isStore cX6_isStore 1 (some .boolean), Cond.methodLink RX6 206 yX4_wordAt, Cond.methodLink RL 56 yX6_gateOf, Cond.instanceMethod yX6_gateOf, Cond.selects RX6 yX6_gateOf yX6_gateOf, Cond.code yX6_gateOf cX6_gateOf 3 (some .int), Cond.fieldLink RX6 88 "TideWords$World" "gates" "LTideWords$Gates;", Cond.fieldLink RX6 97 "TideWords$Gates" "sides" "LTideWords$Cells;", Cond.fieldLink RX6 100 "TideWords$Gates" "slacks" "LTideWords$Cells;", Cond.fieldLink RX6 163 "TideWords$Gates" "ways" "LTideWords$Cells;", Cond.fieldLink RX6 107 "TideWords$Gates" "shuts" "LTideWords$Cells;", Cond.fieldLink RX6 66 "TideWords$World" "steps" "I", Cond.fieldLink RX6 170 "TideWords$Gates" "held" "LTideWords$Cells;", Cond.fieldLink RX6 173 "TideWords$Gates" "lettersDone" "LTideWords$Cells;", Cond.fieldLink RX6 136 "TideWords$Gates" "passedWords" "LTideWords$Cells;", Cond.fieldLink RX6 176 "TideWords$Gates" "vainLetters" "LTideWords$Cells;", Cond.methodLink RX6 85 yX6_isGate, Cond.static yX6_isGate, Cond.code yX6_isGate cX6_isGate 1 (some .boolean), Cond.methodLink RX6 166 yX5_isOpenAt, Cond.instanceMethod yX5_isOpenAt, Cond.selects RX5 yX5_isOpenAt yX5_isOpenAt]
def wsL_isWord_r5 : List Cond := [Cond.code yX5_isOpenAt cX5_isOpenAt 3 (some .boolean), Cond.fieldLink RX5 12 "TideWords$World" "tides" "LTideWords$Tides;", Cond.methodLink RX5 32 yX3_gapAt, Cond.instanceMethod yX3_gapAt, Cond.selects RX3 yX3_gapAt yX3_gapAt, Cond.initialized RX3, Cond.code yX3_gapAt cX3_gapAt 2 (some .int), Cond.methodLink RX3 50 yX3_toldAt, Cond.instanceMethod yX3_toldAt, Cond.selects RX3 yX3_toldAt yX3_toldAt, Cond.code yX3_toldAt cX3_toldAt 3 (some .int), Cond.fieldLink RX3 26 "TideWords$Tides" "lies" "LTideWords$Cells;", Cond.methodLink RX3 47 yX3_levelAt, Cond.instanceMethod yX3_levelAt, Cond.selects RX3 yX3_levelAt yX3_levelAt, Cond.code yX3_levelAt cX3_levelAt 6 (some .int), Cond.fieldLink RX3 23 "TideWords$Tides" "periods" "LTideWords$Cells;", Cond.fieldLink RX3 14 "TideWords$Tides" "means" "LTideWords$Cells;", Cond.fieldLink RX3 20 "TideWords$Tides" "swings" "LTideWords$Cells;", Cond.methodLink RX3 41 Lib.Math.min.name, Cond.static Lib.Math.min.name, Cond.initialized "java/lang/Math", Cond.code Lib.Math.min.name Lib.Math.min.code 2 (some .int), Cond.methodLink RX3 37 yX0_get]
def wsL_isWord_r6 : List Cond := [Cond.methodLink RX5 36 yX1_isOpenAcross, Cond.instanceMethod yX1_isOpenAcross, Cond.selects RX1 yX1_isOpenAcross yX1_isOpenAcross, Cond.code yX1_isOpenAcross cX1_isOpenAcross 3 (some .boolean), Cond.methodLink RX1 57 Lib.Math.abs.name, Cond.static Lib.Math.abs.name, Cond.code Lib.Math.abs.name Lib.Math.abs.code 1 (some .int), Cond.fieldLink RX1 20 "TideWords$Gates" "slacks" "LTideWords$Cells;", Cond.methodLink RX1 53 yX1_isShut, Cond.instanceMethod yX1_isShut, Cond.selects RX1 yX1_isShut yX1_isShut, Cond.code yX1_isShut cX1_isShut 2 (some .boolean), Cond.fieldLink RX1 26 "TideWords$Gates" "shuts" "LTideWords$Cells;", Cond.methodLink RL 53 yX6_count, Cond.instanceMethod yX6_count, Cond.selects RX6 yX6_count yX6_count, Cond.code yX6_count cX6_count 2 (some .int), Cond.fieldLink RX6 210 "TideWords$World" "letters" "I", Cond.fieldLink RX6 216 "TideWords$World" "idleSteps" "I", Cond.fieldLink RX6 22 "TideWords" "pad" "LTideWords$Pad;", Cond.fieldLink RX6 132 "TideWords$Pad" "length" "I", Cond.fieldLink RX6 219 "TideWords" "records" "I", Cond.methodLink RX6 110 yX0_sum, Cond.instanceMethod yX0_sum]
def wsL_isWord_r7 : List Cond := [Cond.selects RX0 yX0_sum yX0_sum, Cond.code yX0_sum cX0_sum 3 (some .int), Cond.methodLink RX6 160 yX4_waitingInRow, Cond.instanceMethod yX4_waitingInRow, Cond.selects RX4 yX4_waitingInRow yX4_waitingInRow, Cond.code yX4_waitingInRow cX4_waitingInRow 5 (some .int), Cond.methodLink RX4 63 yX4_hasPassed, Cond.methodLink RX6 209 yX1_wordsInside, Cond.instanceMethod yX1_wordsInside, Cond.selects RX1 yX1_wordsInside yX1_wordsInside, Cond.code yX1_wordsInside cX1_wordsInside 3 (some .int), Cond.methodLink RX1 62 yX1_hasWord, Cond.instanceMethod yX1_hasWord, Cond.selects RX1 yX1_hasWord yX1_hasWord, Cond.code yX1_hasWord cX1_hasWord 2 (some .boolean), Cond.methodLink RX6 213 yX5_openMask, Cond.instanceMethod yX5_openMask, Cond.selects RX5 yX5_openMask yX5_openMask, Cond.code yX5_openMask cX5_openMask 3 (some .int), Cond.fieldLink RX5 40 "TideWords$World" "steps" "I", Cond.methodLink RX5 44 yX5_isOpenAt, Cond.methodLink RL 75 yX6_untilPassed, Cond.instanceMethod yX6_untilPassed, Cond.selects RX6 yX6_untilPassed yX6_untilPassed]
def wsL_isWord_r8 : List Cond := [Cond.code yX6_untilPassed cX6_untilPassed 3 (some .int), Cond.fieldLink RX6 16 "TideWords" "trial" "LTideWords$World;", Cond.methodLink RX6 228 yX5_copyFrom, Cond.instanceMethod yX5_copyFrom, Cond.selects RX5 yX5_copyFrom yX5_copyFrom, Cond.code yX5_copyFrom cX5_copyFrom 2 none, Cond.fieldLink RX5 93 "TideWords$World" "letters" "I", Cond.fieldLink RX5 67 "TideWords$World" "idleSteps" "I", Cond.methodLink RX5 134 yX3_copyFrom, Cond.instanceMethod yX3_copyFrom, Cond.selects RX3 yX3_copyFrom yX3_copyFrom, Cond.code yX3_copyFrom cX3_copyFrom 2 none, Cond.methodLink RX3 53 yX0_copyFrom, Cond.instanceMethod yX0_copyFrom, Cond.selects RX0 yX0_copyFrom yX0_copyFrom, Cond.code yX0_copyFrom cX0_copyFrom 2 none, Cond.methodLink RX0 19 Lib.Math.min.name, Cond.methodLink RX0 22 arraycopyName, Cond.native arraycopyName, Cond.static arraycopyName, Cond.initialized "java/lang/System", Cond.methodLink RX5 138 yX1_copyFrom, Cond.instanceMethod yX1_copyFrom, Cond.selects RX1 yX1_copyFrom yX1_copyFrom]
def wsL_isWord_r9 : List Cond := [Cond.code yX1_copyFrom cX1_copyFrom 2 none, Cond.fieldLink RX1 14 "TideWords$Gates" "sides" "LTideWords$Cells;", Cond.fieldLink RX1 23 "TideWords$Gates" "ways" "LTideWords$Cells;", Cond.fieldLink RX1 32 "TideWords$Gates" "lettersDone" "LTideWords$Cells;", Cond.fieldLink RX1 35 "TideWords$Gates" "passedWords" "LTideWords$Cells;", Cond.fieldLink RX1 38 "TideWords$Gates" "vainLetters" "LTideWords$Cells;", Cond.methodLink RX1 65 yX0_copyFrom, Cond.methodLink RX5 141 yX4_copyFrom, Cond.instanceMethod yX4_copyFrom, Cond.selects RX4 yX4_copyFrom yX4_copyFrom, Cond.code yX4_copyFrom cX4_copyFrom 2 none, Cond.fieldLink RX4 26 "TideWords$Words" "passedGates" "LTideWords$Cells;", Cond.fieldLink RX4 29 "TideWords$Words" "timesBack" "LTideWords$Cells;", Cond.fieldLink RX4 38 "TideWords$Words" "total" "I", Cond.methodLink RX4 70 yX0_copyFrom, Cond.methodLink RX6 139 yX5_makeSteps, Cond.instanceMethod yX5_makeSteps, Cond.selects RX5 yX5_makeSteps yX5_makeSteps, Cond.code yX5_makeSteps cX5_makeSteps 3 none, Cond.methodLink RX5 54 yX5_stepAcross, Cond.instanceMethod yX5_stepAcross, Cond.selects RX5 yX5_stepAcross yX5_stepAcross, Cond.code yX5_stepAcross cX5_stepAcross 4 none, Cond.methodLink RX5 58 yX5_takeWord]
def wsL_isWord_r10 : List Cond := [Cond.instanceMethod yX5_takeWord, Cond.selects RX5 yX5_takeWord yX5_takeWord, Cond.code yX5_takeWord cX5_takeWord 2 none, Cond.fieldLink RX5 74 "TideWords$Gates" "held" "LTideWords$Cells;", Cond.fieldLink RX5 78 "TideWords$Gates" "sides" "LTideWords$Cells;", Cond.methodLink RX5 70 yX1_hasWord, Cond.methodLink RX5 81 yX0_get, Cond.methodLink RX5 86 yX4_takeWaiting, Cond.instanceMethod yX4_takeWaiting, Cond.selects RX4 yX4_takeWaiting yX4_takeWaiting, Cond.code yX4_takeWaiting cX4_takeWaiting 5 (some .int), Cond.methodLink RX4 67 yX4_removeFrom, Cond.instanceMethod yX4_removeFrom, Cond.selects RX4 yX4_removeFrom yX4_removeFrom, Cond.code yX4_removeFrom cX4_removeFrom 6 none, Cond.methodLink RX4 42 yX0_set, Cond.instanceMethod yX0_set, Cond.selects RX0 yX0_set yX0_set, Cond.code yX0_set cX0_set 3 none, Cond.methodLink RX5 89 yX0_set, Cond.methodLink RX5 61 yX5_passLetter, Cond.instanceMethod yX5_passLetter, Cond.selects RX5 yX5_passLetter yX5_passLetter, Cond.code yX5_passLetter cX5_passLetter 3 none]
def wsL_isWord_r11 : List Cond := [Cond.fieldLink RX5 96 "TideWords$Gates" "lettersDone" "LTideWords$Cells;", Cond.fieldLink RX5 102 "TideWords$Words" "lengths" "LTideWords$Cells;", Cond.fieldLink RX5 108 "TideWords$Gates" "passedWords" "LTideWords$Cells;", Cond.methodLink RX5 99 yX0_add, Cond.instanceMethod yX0_add, Cond.selects RX0 yX0_add yX0_add, Cond.code yX0_add cX0_add 3 none, Cond.methodLink RX5 105 yX1_release, Cond.instanceMethod yX1_release, Cond.selects RX1 yX1_release yX1_release, Cond.code yX1_release cX1_release 2 none, Cond.methodLink RX1 45 yX0_set, Cond.methodLink RX5 111 yX4_markPassed, Cond.instanceMethod yX4_markPassed, Cond.selects RX4 yX4_markPassed yX4_markPassed, Cond.code yX4_markPassed cX4_markPassed 4 none, Cond.methodLink RX5 115 yX4_addLast, Cond.instanceMethod yX4_addLast, Cond.selects RX4 yX4_addLast yX4_addLast, Cond.code yX4_addLast cX4_addLast 4 none, Cond.methodLink RX5 64 yX5_sendBack, Cond.instanceMethod yX5_sendBack, Cond.selects RX5 yX5_sendBack yX5_sendBack, Cond.code yX5_sendBack cX5_sendBack 3 none]
def wsL_isWord_r12 : List Cond := [Cond.fieldLink RX5 118 "TideWords$Gates" "ways" "LTideWords$Cells;", Cond.fieldLink RX5 121 "TideWords$Gates" "vainLetters" "LTideWords$Cells;", Cond.fieldLink RX5 124 "TideWords$Words" "timesBack" "LTideWords$Cells;", Cond.methodLink RX5 127 yX4_addFirst, Cond.instanceMethod yX4_addFirst, Cond.selects RX4 yX4_addFirst yX4_addFirst, Cond.code yX4_addFirst cX4_addFirst 6 none]
def wsL_isWord : List Cond := .code yL_isWord cL_isWord 8 (some .boolean) :: ((wsL_isWord_r1 ++ (wsL_isWord_r2 ++ (wsL_isWord_r3 ++ (wsL_isWord_r4 ++ (wsL_isWord_r5 ++ (wsL_isWord_r6 ++ (wsL_isWord_r7 ++ (wsL_isWord_r8 ++ (wsL_isWord_r9 ++ (wsL_isWord_r10 ++ (wsL_isWord_r11 ++ wsL_isWord_r12))))))))))) ++ wsX60 ++ wsX50 ++ wsX40 ++ wsX10 ++ wsX00 ++ wsX30 ++ wsX20)
def wsL_holds_r1 : List Cond := [Cond.methodLink RL 53 yX6_count, Cond.instanceMethod yX6_count, Cond.selects RX6 yX6_count yX6_count, Cond.initialized RX6, Cond.code yX6_count cX6_count 2 (some .int), Cond.fieldLink RX6 10 "TideWords" "now" "LTideWords$World;", Cond.fieldLink RX6 66 "TideWords$World" "steps" "I", Cond.fieldLink RX6 117 "TideWords$World" "words" "LTideWords$Words;", Cond.fieldLink RX6 121 "TideWords$Words" "total" "I", Cond.fieldLink RX6 88 "TideWords$World" "gates" "LTideWords$Gates;", Cond.fieldLink RX6 136 "TideWords$Gates" "passedWords" "LTideWords$Cells;", Cond.fieldLink RX6 210 "TideWords$World" "letters" "I", Cond.fieldLink RX6 176 "TideWords$Gates" "vainLetters" "LTideWords$Cells;", Cond.fieldLink RX6 216 "TideWords$World" "idleSteps" "I", Cond.fieldLink RX6 22 "TideWords" "pad" "LTideWords$Pad;", Cond.fieldLink RX6 132 "TideWords$Pad" "length" "I", Cond.fieldLink RX6 219 "TideWords" "records" "I", Cond.methodLink RX6 110 yX0_sum, Cond.instanceMethod yX0_sum, Cond.selects RX0 yX0_sum yX0_sum, Cond.initialized RX0, Cond.code yX0_sum cX0_sum 3 (some .int), Cond.fieldLink RX0 13 "TideWords$Cells" "cells" "[I", Cond.methodLink RX6 160 yX4_waitingInRow]
def wsL_holds_r2 : List Cond := [Cond.instanceMethod yX4_waitingInRow, Cond.selects RX4 yX4_waitingInRow yX4_waitingInRow, Cond.initialized RX4, Cond.code yX4_waitingInRow cX4_waitingInRow 5 (some .int), Cond.fieldLink RX4 35 "TideWords$Words" "rowLengths" "LTideWords$Cells;", Cond.methodLink RX4 49 yX0_get, Cond.instanceMethod yX0_get, Cond.selects RX0 yX0_get yX0_get, Cond.code yX0_get cX0_get 2 (some .int), Cond.methodLink RX4 56 yX4_wordAt, Cond.instanceMethod yX4_wordAt, Cond.selects RX4 yX4_wordAt yX4_wordAt, Cond.code yX4_wordAt cX4_wordAt 3 (some .int), Cond.fieldLink RX4 32 "TideWords$Words" "rows" "LTideWords$Cells;", Cond.methodLink RX4 63 yX4_hasPassed, Cond.instanceMethod yX4_hasPassed, Cond.selects RX4 yX4_hasPassed yX4_hasPassed, Cond.code yX4_hasPassed cX4_hasPassed 2 (some .boolean), Cond.fieldLink RX4 23 "TideWords$Words" "passedSteps" "LTideWords$Cells;", Cond.methodLink RX6 209 yX1_wordsInside, Cond.instanceMethod yX1_wordsInside, Cond.selects RX1 yX1_wordsInside yX1_wordsInside, Cond.initialized RX1, Cond.code yX1_wordsInside cX1_wordsInside 3 (some .int)]
def wsL_holds_r3 : List Cond := [Cond.methodLink RX1 62 yX1_hasWord, Cond.instanceMethod yX1_hasWord, Cond.selects RX1 yX1_hasWord yX1_hasWord, Cond.code yX1_hasWord cX1_hasWord 2 (some .boolean), Cond.fieldLink RX1 29 "TideWords$Gates" "held" "LTideWords$Cells;", Cond.methodLink RX1 49 yX0_get, Cond.methodLink RX6 213 yX5_openMask, Cond.instanceMethod yX5_openMask, Cond.selects RX5 yX5_openMask yX5_openMask, Cond.initialized RX5, Cond.code yX5_openMask cX5_openMask 3 (some .int), Cond.fieldLink RX5 40 "TideWords$World" "steps" "I", Cond.methodLink RX5 44 yX5_isOpenAt, Cond.instanceMethod yX5_isOpenAt, Cond.selects RX5 yX5_isOpenAt yX5_isOpenAt, Cond.code yX5_isOpenAt cX5_isOpenAt 3 (some .boolean), Cond.fieldLink RX5 21 "TideWords$World" "gates" "LTideWords$Gates;", Cond.fieldLink RX5 12 "TideWords$World" "tides" "LTideWords$Tides;", Cond.methodLink RX5 32 yX3_gapAt, Cond.instanceMethod yX3_gapAt, Cond.selects RX3 yX3_gapAt yX3_gapAt, Cond.initialized RX3, Cond.code yX3_gapAt cX3_gapAt 2 (some .int), Cond.methodLink RX3 50 yX3_toldAt]
def wsL_holds_r4 : List Cond := [Cond.instanceMethod yX3_toldAt, Cond.selects RX3 yX3_toldAt yX3_toldAt, Cond.code yX3_toldAt cX3_toldAt 3 (some .int), Cond.fieldLink RX3 26 "TideWords$Tides" "lies" "LTideWords$Cells;", Cond.methodLink RX3 47 yX3_levelAt, Cond.instanceMethod yX3_levelAt, Cond.selects RX3 yX3_levelAt yX3_levelAt, Cond.code yX3_levelAt cX3_levelAt 6 (some .int), Cond.fieldLink RX3 23 "TideWords$Tides" "periods" "LTideWords$Cells;", Cond.fieldLink RX3 14 "TideWords$Tides" "means" "LTideWords$Cells;", Cond.fieldLink RX3 20 "TideWords$Tides" "swings" "LTideWords$Cells;", Cond.methodLink RX3 41 Lib.Math.min.name, Cond.static Lib.Math.min.name, Cond.initialized "java/lang/Math", Cond.code Lib.Math.min.name Lib.Math.min.code 2 (some .int), Cond.methodLink RX3 37 yX0_get, Cond.methodLink RX5 36 yX1_isOpenAcross, Cond.instanceMethod yX1_isOpenAcross, Cond.selects RX1 yX1_isOpenAcross yX1_isOpenAcross, Cond.code yX1_isOpenAcross cX1_isOpenAcross 3 (some .boolean), Cond.methodLink RX1 57 Lib.Math.abs.name, Cond.static Lib.Math.abs.name, Cond.code Lib.Math.abs.name Lib.Math.abs.code 1 (some .int), Cond.fieldLink RX1 20 "TideWords$Gates" "slacks" "LTideWords$Cells;"]
def wsL_holds_r5 : List Cond := [Cond.methodLink RX1 53 yX1_isShut, Cond.instanceMethod yX1_isShut, Cond.selects RX1 yX1_isShut yX1_isShut, Cond.code yX1_isShut cX1_isShut 2 (some .boolean), Cond.fieldLink RX1 26 "TideWords$Gates" "shuts" "LTideWords$Cells;", Cond.methodLink RL 63 yX6_word, Cond.instanceMethod yX6_word, Cond.selects RX6 yX6_word yX6_word, Cond.code yX6_word cX6_word 3 (some .int), Cond.fieldLink RX6 188 "TideWords$Words" "lengths" "LTideWords$Cells;", Cond.fieldLink RX6 194 "TideWords$Words" "passedSteps" "LTideWords$Cells;", Cond.fieldLink RX6 197 "TideWords$Words" "passedGates" "LTideWords$Cells;", Cond.fieldLink RX6 200 "TideWords$Words" "timesBack" "LTideWords$Cells;", Cond.methodLink RX6 179 yX6_isWord, Cond.instanceMethod yX6_isWord, Cond.selects RX6 yX6_isWord yX6_isWord, Cond.code yX6_isWord cX6_isWord 2 (some .boolean), Cond.methodLink RX6 49 yX6_isWithin, Cond.static yX6_isWithin, Cond.code yX6_isWithin cX6_isWithin 3 (some .boolean), Cond.methodLink RX6 182 yX5_whereIs, Cond.instanceMethod yX5_whereIs, Cond.selects RX5 yX5_whereIs yX5_whereIs, Cond.code yX5_whereIs cX5_whereIs 3 (some .int)]
def wsL_holds_r6 : List Cond := [Cond.fieldLink RX5 28 "TideWords$World" "words" "LTideWords$Words;", Cond.methodLink RX5 47 yX1_gateWith, Cond.instanceMethod yX1_gateWith, Cond.selects RX1 yX1_gateWith yX1_gateWith, Cond.code yX1_gateWith cX1_gateWith 3 (some .int), Cond.methodLink RX5 50 yX4_placeIn, Cond.instanceMethod yX4_placeIn, Cond.selects RX4 yX4_placeIn yX4_placeIn, Cond.code yX4_placeIn cX4_placeIn 5 (some .int), Cond.methodLink RX6 185 yX4_placeOf, Cond.instanceMethod yX4_placeOf, Cond.selects RX4 yX4_placeOf yX4_placeOf, Cond.code yX4_placeOf cX4_placeOf 3 (some .int), Cond.methodLink RX4 60 yX4_placeIn, Cond.methodLink RX6 77 yX0_get, Cond.methodLink RX6 191 yX4_hasPassed, Cond.methodLink RX6 203 yX4_letterOf, Cond.instanceMethod yX4_letterOf, Cond.selects RX4 yX4_letterOf yX4_letterOf, Cond.code yX4_letterOf cX4_letterOf 4 (some .int), Cond.fieldLink RX4 14 "TideWords$Words" "lengths" "LTideWords$Cells;", Cond.fieldLink RX4 20 "TideWords$Words" "letters" "LTideWords$Cells;", Cond.methodLink RL 78 yL_isWord, Cond.static yL_isWord]
def wsL_holds_r7 : List Cond := [Cond.initialized RL, Cond.code yL_isWord cL_isWord 8 (some .boolean), Cond.methodLink RL 72 yX6_at, Cond.instanceMethod yX6_at, Cond.selects RX6 yX6_at yX6_at, Cond.code yX6_at cX6_at 3 (some .int), Cond.fieldLink RX6 154 "TideWords$Words" "rowLengths" "LTideWords$Cells;", Cond.methodLink RX6 45 yX6_isStore, Cond.static yX6_isStore, Cond.code yX6_isStore cX6_isStore 1 (some .boolean), Cond.methodLink RX6 206 yX4_wordAt, Cond.methodLink RL 56 yX6_gateOf, Cond.instanceMethod yX6_gateOf, Cond.selects RX6 yX6_gateOf yX6_gateOf, Cond.code yX6_gateOf cX6_gateOf 3 (some .int), Cond.fieldLink RX6 97 "TideWords$Gates" "sides" "LTideWords$Cells;", Cond.fieldLink RX6 100 "TideWords$Gates" "slacks" "LTideWords$Cells;", Cond.fieldLink RX6 163 "TideWords$Gates" "ways" "LTideWords$Cells;", Cond.fieldLink RX6 107 "TideWords$Gates" "shuts" "LTideWords$Cells;", Cond.fieldLink RX6 170 "TideWords$Gates" "held" "LTideWords$Cells;", Cond.fieldLink RX6 173 "TideWords$Gates" "lettersDone" "LTideWords$Cells;", Cond.methodLink RX6 85 yX6_isGate, Cond.static yX6_isGate, Cond.code yX6_isGate cX6_isGate 1 (some .boolean)]
def wsL_holds_r8 : List Cond := [Cond.methodLink RX6 166 yX5_isOpenAt, Cond.methodLink RL 75 yX6_untilPassed, Cond.instanceMethod yX6_untilPassed, Cond.selects RX6 yX6_untilPassed yX6_untilPassed, Cond.code yX6_untilPassed cX6_untilPassed 3 (some .int), Cond.fieldLink RX6 16 "TideWords" "trial" "LTideWords$World;", Cond.methodLink RX6 228 yX5_copyFrom, Cond.instanceMethod yX5_copyFrom, Cond.selects RX5 yX5_copyFrom yX5_copyFrom, Cond.code yX5_copyFrom cX5_copyFrom 2 none, Cond.fieldLink RX5 93 "TideWords$World" "letters" "I", Cond.fieldLink RX5 67 "TideWords$World" "idleSteps" "I", Cond.methodLink RX5 134 yX3_copyFrom, Cond.instanceMethod yX3_copyFrom, Cond.selects RX3 yX3_copyFrom yX3_copyFrom, Cond.code yX3_copyFrom cX3_copyFrom 2 none, Cond.methodLink RX3 53 yX0_copyFrom, Cond.instanceMethod yX0_copyFrom, Cond.selects RX0 yX0_copyFrom yX0_copyFrom, Cond.code yX0_copyFrom cX0_copyFrom 2 none, Cond.methodLink RX0 19 Lib.Math.min.name, Cond.methodLink RX0 22 arraycopyName, Cond.native arraycopyName, Cond.static arraycopyName]
def wsL_holds_r9 : List Cond := [Cond.initialized "java/lang/System", Cond.methodLink RX5 138 yX1_copyFrom, Cond.instanceMethod yX1_copyFrom, Cond.selects RX1 yX1_copyFrom yX1_copyFrom, Cond.code yX1_copyFrom cX1_copyFrom 2 none, Cond.fieldLink RX1 14 "TideWords$Gates" "sides" "LTideWords$Cells;", Cond.fieldLink RX1 23 "TideWords$Gates" "ways" "LTideWords$Cells;", Cond.fieldLink RX1 32 "TideWords$Gates" "lettersDone" "LTideWords$Cells;", Cond.fieldLink RX1 35 "TideWords$Gates" "passedWords" "LTideWords$Cells;", Cond.fieldLink RX1 38 "TideWords$Gates" "vainLetters" "LTideWords$Cells;", Cond.methodLink RX1 65 yX0_copyFrom, Cond.methodLink RX5 141 yX4_copyFrom, Cond.instanceMethod yX4_copyFrom, Cond.selects RX4 yX4_copyFrom yX4_copyFrom, Cond.code yX4_copyFrom cX4_copyFrom 2 none, Cond.fieldLink RX4 26 "TideWords$Words" "passedGates" "LTideWords$Cells;", Cond.fieldLink RX4 29 "TideWords$Words" "timesBack" "LTideWords$Cells;", Cond.fieldLink RX4 38 "TideWords$Words" "total" "I", Cond.methodLink RX4 70 yX0_copyFrom, Cond.methodLink RX6 139 yX5_makeSteps, Cond.instanceMethod yX5_makeSteps, Cond.selects RX5 yX5_makeSteps yX5_makeSteps, Cond.code yX5_makeSteps cX5_makeSteps 3 none, Cond.methodLink RX5 54 yX5_stepAcross]
def wsL_holds_r10 : List Cond := [Cond.instanceMethod yX5_stepAcross, Cond.selects RX5 yX5_stepAcross yX5_stepAcross, Cond.code yX5_stepAcross cX5_stepAcross 4 none, Cond.methodLink RX5 58 yX5_takeWord, Cond.instanceMethod yX5_takeWord, Cond.selects RX5 yX5_takeWord yX5_takeWord, Cond.code yX5_takeWord cX5_takeWord 2 none, Cond.fieldLink RX5 74 "TideWords$Gates" "held" "LTideWords$Cells;", Cond.fieldLink RX5 78 "TideWords$Gates" "sides" "LTideWords$Cells;", Cond.methodLink RX5 70 yX1_hasWord, Cond.methodLink RX5 81 yX0_get, Cond.methodLink RX5 86 yX4_takeWaiting, Cond.instanceMethod yX4_takeWaiting, Cond.selects RX4 yX4_takeWaiting yX4_takeWaiting, Cond.code yX4_takeWaiting cX4_takeWaiting 5 (some .int), Cond.methodLink RX4 67 yX4_removeFrom, Cond.instanceMethod yX4_removeFrom, Cond.selects RX4 yX4_removeFrom yX4_removeFrom, Cond.code yX4_removeFrom cX4_removeFrom 6 none, Cond.methodLink RX4 42 yX0_set, Cond.instanceMethod yX0_set, Cond.selects RX0 yX0_set yX0_set, Cond.code yX0_set cX0_set 3 none, Cond.methodLink RX5 89 yX0_set]
def wsL_holds_r11 : List Cond := [Cond.methodLink RX5 61 yX5_passLetter, Cond.instanceMethod yX5_passLetter, Cond.selects RX5 yX5_passLetter yX5_passLetter, Cond.code yX5_passLetter cX5_passLetter 3 none, Cond.fieldLink RX5 96 "TideWords$Gates" "lettersDone" "LTideWords$Cells;", Cond.fieldLink RX5 102 "TideWords$Words" "lengths" "LTideWords$Cells;", Cond.fieldLink RX5 108 "TideWords$Gates" "passedWords" "LTideWords$Cells;", Cond.methodLink RX5 99 yX0_add, Cond.instanceMethod yX0_add, Cond.selects RX0 yX0_add yX0_add, Cond.code yX0_add cX0_add 3 none, Cond.methodLink RX5 105 yX1_release, Cond.instanceMethod yX1_release, Cond.selects RX1 yX1_release yX1_release, Cond.code yX1_release cX1_release 2 none, Cond.methodLink RX1 45 yX0_set, Cond.methodLink RX5 111 yX4_markPassed, Cond.instanceMethod yX4_markPassed, Cond.selects RX4 yX4_markPassed yX4_markPassed, Cond.code yX4_markPassed cX4_markPassed 4 none, Cond.methodLink RX5 115 yX4_addLast, Cond.instanceMethod yX4_addLast, Cond.selects RX4 yX4_addLast yX4_addLast, Cond.code yX4_addLast cX4_addLast 4 none]
def wsL_holds_r12 : List Cond := [Cond.methodLink RX5 64 yX5_sendBack, Cond.instanceMethod yX5_sendBack, Cond.selects RX5 yX5_sendBack yX5_sendBack, Cond.code yX5_sendBack cX5_sendBack 3 none, Cond.fieldLink RX5 118 "TideWords$Gates" "ways" "LTideWords$Cells;", Cond.fieldLink RX5 121 "TideWords$Gates" "vainLetters" "LTideWords$Cells;", Cond.fieldLink RX5 124 "TideWords$Words" "timesBack" "LTideWords$Cells;", Cond.methodLink RX5 127 yX4_addFirst, Cond.instanceMethod yX4_addFirst, Cond.selects RX4 yX4_addFirst yX4_addFirst, Cond.code yX4_addFirst cX4_addFirst 6 none, Cond.methodLink RL 82 yL_isGate, Cond.static yL_isGate, Cond.code yL_isGate cL_isGate 10 (some .boolean), Cond.methodLink RL 59 yL_off, Cond.static yL_off, Cond.code yL_off cL_off 3 (some .int), Cond.methodLink RL 49 yL_level, Cond.static yL_level, Cond.code yL_level cL_level 5 (some .int), Cond.methodLink RL 46 yX6_store, Cond.instanceMethod yX6_store, Cond.selects RX6 yX6_store yX6_store, Cond.code yX6_store cX6_store 3 (some .int)]
def wsL_holds_r13 : List Cond := [Cond.fieldLink RX6 56 "TideWords$World" "tides" "LTideWords$Tides;", Cond.fieldLink RX6 142 "TideWords$Tides" "means" "LTideWords$Cells;", Cond.fieldLink RX6 145 "TideWords$Tides" "swings" "LTideWords$Cells;", Cond.fieldLink RX6 148 "TideWords$Tides" "periods" "LTideWords$Cells;", Cond.fieldLink RX6 74 "TideWords$Tides" "lies" "LTideWords$Cells;", Cond.methodLink RX6 70 yX3_levelAt, Cond.methodLink RX6 151 yX3_toldAt, Cond.methodLink RX6 157 yX4_lettersInRow, Cond.instanceMethod yX4_lettersInRow, Cond.selects RX4 yX4_lettersInRow yX4_lettersInRow, Cond.code yX4_lettersInRow cX4_lettersInRow 5 (some .int), Cond.methodLink RL 66 yX6_untilOpen, Cond.instanceMethod yX6_untilOpen, Cond.selects RX6 yX6_untilOpen yX6_untilOpen, Cond.code yX6_untilOpen cX6_untilOpen 2 (some .int), Cond.methodLink RX6 222 yX5_stepsUntilOpen, Cond.instanceMethod yX5_stepsUntilOpen, Cond.selects RX5 yX5_stepsUntilOpen yX5_stepsUntilOpen, Cond.code yX5_stepsUntilOpen cX5_stepsUntilOpen 3 (some .int), Cond.methodLink RL 69 yX6_openFor, Cond.instanceMethod yX6_openFor, Cond.selects RX6 yX6_openFor yX6_openFor, Cond.code yX6_openFor cX6_openFor 3 (some .int), Cond.methodLink RX6 225 yX5_openStepsFrom]
def wsL_holds_r14 : List Cond := [Cond.instanceMethod yX5_openStepsFrom, Cond.selects RX5 yX5_openStepsFrom yX5_openStepsFrom, Cond.code yX5_openStepsFrom cX5_openStepsFrom 4 (some .int)]
def wsL_holds : List Cond := .code yL_holds cL_holds 13 (some .boolean) :: ((wsL_holds_r1 ++ (wsL_holds_r2 ++ (wsL_holds_r3 ++ (wsL_holds_r4 ++ (wsL_holds_r5 ++ (wsL_holds_r6 ++ (wsL_holds_r7 ++ (wsL_holds_r8 ++ (wsL_holds_r9 ++ (wsL_holds_r10 ++ (wsL_holds_r11 ++ (wsL_holds_r12 ++ (wsL_holds_r13 ++ wsL_holds_r14))))))))))))) ++ wsX60 ++ wsX50 ++ wsX40 ++ wsX10 ++ wsX20 ++ wsX00 ++ wsX30)
def wsL_opens_r1 : List Cond := [Cond.methodLink RL 53 yX6_count, Cond.instanceMethod yX6_count, Cond.selects RX6 yX6_count yX6_count, Cond.initialized RX6, Cond.code yX6_count cX6_count 2 (some .int), Cond.fieldLink RX6 10 "TideWords" "now" "LTideWords$World;", Cond.fieldLink RX6 66 "TideWords$World" "steps" "I", Cond.fieldLink RX6 117 "TideWords$World" "words" "LTideWords$Words;", Cond.fieldLink RX6 121 "TideWords$Words" "total" "I", Cond.fieldLink RX6 88 "TideWords$World" "gates" "LTideWords$Gates;", Cond.fieldLink RX6 136 "TideWords$Gates" "passedWords" "LTideWords$Cells;", Cond.fieldLink RX6 210 "TideWords$World" "letters" "I", Cond.fieldLink RX6 176 "TideWords$Gates" "vainLetters" "LTideWords$Cells;", Cond.fieldLink RX6 216 "TideWords$World" "idleSteps" "I", Cond.fieldLink RX6 22 "TideWords" "pad" "LTideWords$Pad;", Cond.fieldLink RX6 132 "TideWords$Pad" "length" "I", Cond.fieldLink RX6 219 "TideWords" "records" "I", Cond.methodLink RX6 110 yX0_sum, Cond.instanceMethod yX0_sum, Cond.selects RX0 yX0_sum yX0_sum, Cond.initialized RX0, Cond.code yX0_sum cX0_sum 3 (some .int), Cond.fieldLink RX0 13 "TideWords$Cells" "cells" "[I", Cond.methodLink RX6 160 yX4_waitingInRow]
def wsL_opens_r2 : List Cond := [Cond.instanceMethod yX4_waitingInRow, Cond.selects RX4 yX4_waitingInRow yX4_waitingInRow, Cond.initialized RX4, Cond.code yX4_waitingInRow cX4_waitingInRow 5 (some .int), Cond.fieldLink RX4 35 "TideWords$Words" "rowLengths" "LTideWords$Cells;", Cond.methodLink RX4 49 yX0_get, Cond.instanceMethod yX0_get, Cond.selects RX0 yX0_get yX0_get, Cond.code yX0_get cX0_get 2 (some .int), Cond.methodLink RX4 56 yX4_wordAt, Cond.instanceMethod yX4_wordAt, Cond.selects RX4 yX4_wordAt yX4_wordAt, Cond.code yX4_wordAt cX4_wordAt 3 (some .int), Cond.fieldLink RX4 32 "TideWords$Words" "rows" "LTideWords$Cells;", Cond.methodLink RX4 63 yX4_hasPassed, Cond.instanceMethod yX4_hasPassed, Cond.selects RX4 yX4_hasPassed yX4_hasPassed, Cond.code yX4_hasPassed cX4_hasPassed 2 (some .boolean), Cond.fieldLink RX4 23 "TideWords$Words" "passedSteps" "LTideWords$Cells;", Cond.methodLink RX6 209 yX1_wordsInside, Cond.instanceMethod yX1_wordsInside, Cond.selects RX1 yX1_wordsInside yX1_wordsInside, Cond.initialized RX1, Cond.code yX1_wordsInside cX1_wordsInside 3 (some .int)]
def wsL_opens_r3 : List Cond := [Cond.methodLink RX1 62 yX1_hasWord, Cond.instanceMethod yX1_hasWord, Cond.selects RX1 yX1_hasWord yX1_hasWord, Cond.code yX1_hasWord cX1_hasWord 2 (some .boolean), Cond.fieldLink RX1 29 "TideWords$Gates" "held" "LTideWords$Cells;", Cond.methodLink RX1 49 yX0_get, Cond.methodLink RX6 213 yX5_openMask, Cond.instanceMethod yX5_openMask, Cond.selects RX5 yX5_openMask yX5_openMask, Cond.initialized RX5, Cond.code yX5_openMask cX5_openMask 3 (some .int), Cond.fieldLink RX5 40 "TideWords$World" "steps" "I", Cond.methodLink RX5 44 yX5_isOpenAt, Cond.instanceMethod yX5_isOpenAt, Cond.selects RX5 yX5_isOpenAt yX5_isOpenAt, Cond.code yX5_isOpenAt cX5_isOpenAt 3 (some .boolean), Cond.fieldLink RX5 21 "TideWords$World" "gates" "LTideWords$Gates;", Cond.fieldLink RX5 12 "TideWords$World" "tides" "LTideWords$Tides;", Cond.methodLink RX5 32 yX3_gapAt, Cond.instanceMethod yX3_gapAt, Cond.selects RX3 yX3_gapAt yX3_gapAt, Cond.initialized RX3, Cond.code yX3_gapAt cX3_gapAt 2 (some .int), Cond.methodLink RX3 50 yX3_toldAt]
def wsL_opens_r4 : List Cond := [Cond.instanceMethod yX3_toldAt, Cond.selects RX3 yX3_toldAt yX3_toldAt, Cond.code yX3_toldAt cX3_toldAt 3 (some .int), Cond.fieldLink RX3 26 "TideWords$Tides" "lies" "LTideWords$Cells;", Cond.methodLink RX3 47 yX3_levelAt, Cond.instanceMethod yX3_levelAt, Cond.selects RX3 yX3_levelAt yX3_levelAt, Cond.code yX3_levelAt cX3_levelAt 6 (some .int), Cond.fieldLink RX3 23 "TideWords$Tides" "periods" "LTideWords$Cells;", Cond.fieldLink RX3 14 "TideWords$Tides" "means" "LTideWords$Cells;", Cond.fieldLink RX3 20 "TideWords$Tides" "swings" "LTideWords$Cells;", Cond.methodLink RX3 41 Lib.Math.min.name, Cond.static Lib.Math.min.name, Cond.initialized "java/lang/Math", Cond.code Lib.Math.min.name Lib.Math.min.code 2 (some .int), Cond.methodLink RX3 37 yX0_get, Cond.methodLink RX5 36 yX1_isOpenAcross, Cond.instanceMethod yX1_isOpenAcross, Cond.selects RX1 yX1_isOpenAcross yX1_isOpenAcross, Cond.code yX1_isOpenAcross cX1_isOpenAcross 3 (some .boolean), Cond.methodLink RX1 57 Lib.Math.abs.name, Cond.static Lib.Math.abs.name, Cond.code Lib.Math.abs.name Lib.Math.abs.code 1 (some .int), Cond.fieldLink RX1 20 "TideWords$Gates" "slacks" "LTideWords$Cells;"]
def wsL_opens_r5 : List Cond := [Cond.methodLink RX1 53 yX1_isShut, Cond.instanceMethod yX1_isShut, Cond.selects RX1 yX1_isShut yX1_isShut, Cond.code yX1_isShut cX1_isShut 2 (some .boolean), Cond.fieldLink RX1 26 "TideWords$Gates" "shuts" "LTideWords$Cells;", Cond.methodLink RL 59 yL_off, Cond.static yL_off, Cond.initialized RL, Cond.code yL_off cL_off 3 (some .int), Cond.methodLink RL 49 yL_level, Cond.static yL_level, Cond.code yL_level cL_level 5 (some .int), Cond.methodLink RL 46 yX6_store, Cond.instanceMethod yX6_store, Cond.selects RX6 yX6_store yX6_store, Cond.code yX6_store cX6_store 3 (some .int), Cond.fieldLink RX6 56 "TideWords$World" "tides" "LTideWords$Tides;", Cond.fieldLink RX6 142 "TideWords$Tides" "means" "LTideWords$Cells;", Cond.fieldLink RX6 145 "TideWords$Tides" "swings" "LTideWords$Cells;", Cond.fieldLink RX6 148 "TideWords$Tides" "periods" "LTideWords$Cells;", Cond.fieldLink RX6 74 "TideWords$Tides" "lies" "LTideWords$Cells;", Cond.fieldLink RX6 154 "TideWords$Words" "rowLengths" "LTideWords$Cells;", Cond.methodLink RX6 45 yX6_isStore, Cond.static yX6_isStore]
def wsL_opens_r6 : List Cond := [Cond.code yX6_isStore cX6_isStore 1 (some .boolean), Cond.methodLink RX6 49 yX6_isWithin, Cond.static yX6_isWithin, Cond.code yX6_isWithin cX6_isWithin 3 (some .boolean), Cond.methodLink RX6 77 yX0_get, Cond.methodLink RX6 70 yX3_levelAt, Cond.methodLink RX6 151 yX3_toldAt, Cond.methodLink RX6 157 yX4_lettersInRow, Cond.instanceMethod yX4_lettersInRow, Cond.selects RX4 yX4_lettersInRow yX4_lettersInRow, Cond.code yX4_lettersInRow cX4_lettersInRow 5 (some .int), Cond.fieldLink RX4 14 "TideWords$Words" "lengths" "LTideWords$Cells;"]
def wsL_opens : List Cond := .code yL_opens cL_opens 4 (some .int) :: ((wsL_opens_r1 ++ (wsL_opens_r2 ++ (wsL_opens_r3 ++ (wsL_opens_r4 ++ (wsL_opens_r5 ++ wsL_opens_r6))))) ++ wsX60 ++ wsX50 ++ wsX40 ++ wsX10 ++ wsX20 ++ wsX00 ++ wsX30)
def wsL_tries_r1 : List Cond := [Cond.methodLink RL 9 yL_low, Cond.static yL_low, Cond.initialized RL, Cond.code yL_low cL_low 2 (some .int), Cond.constant RL 8 (2147483647), Cond.methodLink RL 85 yX6_ifRun, Cond.instanceMethod yX6_ifRun, Cond.selects RX6 yX6_ifRun yX6_ifRun, Cond.initialized RX6, Cond.code yX6_ifRun cX6_ifRun 3 (some .int), Cond.fieldLink RX6 16 "TideWords" "trial" "LTideWords$World;", Cond.fieldLink RX6 10 "TideWords" "now" "LTideWords$World;", Cond.methodLink RX6 49 yX6_isWithin, Cond.static yX6_isWithin, Cond.code yX6_isWithin cX6_isWithin 3 (some .boolean), Cond.methodLink RX6 228 yX5_copyFrom, Cond.instanceMethod yX5_copyFrom, Cond.selects RX5 yX5_copyFrom yX5_copyFrom, Cond.initialized RX5, Cond.code yX5_copyFrom cX5_copyFrom 2 none, Cond.fieldLink RX5 12 "TideWords$World" "tides" "LTideWords$Tides;", Cond.fieldLink RX5 21 "TideWords$World" "gates" "LTideWords$Gates;", Cond.fieldLink RX5 28 "TideWords$World" "words" "LTideWords$Words;", Cond.fieldLink RX5 40 "TideWords$World" "steps" "I"]
def wsL_tries_r2 : List Cond := [Cond.fieldLink RX5 93 "TideWords$World" "letters" "I", Cond.fieldLink RX5 67 "TideWords$World" "idleSteps" "I", Cond.methodLink RX5 134 yX3_copyFrom, Cond.instanceMethod yX3_copyFrom, Cond.selects RX3 yX3_copyFrom yX3_copyFrom, Cond.initialized RX3, Cond.code yX3_copyFrom cX3_copyFrom 2 none, Cond.fieldLink RX3 14 "TideWords$Tides" "means" "LTideWords$Cells;", Cond.fieldLink RX3 20 "TideWords$Tides" "swings" "LTideWords$Cells;", Cond.fieldLink RX3 23 "TideWords$Tides" "periods" "LTideWords$Cells;", Cond.fieldLink RX3 26 "TideWords$Tides" "lies" "LTideWords$Cells;", Cond.methodLink RX3 53 yX0_copyFrom, Cond.instanceMethod yX0_copyFrom, Cond.selects RX0 yX0_copyFrom yX0_copyFrom, Cond.initialized RX0, Cond.code yX0_copyFrom cX0_copyFrom 2 none, Cond.fieldLink RX0 13 "TideWords$Cells" "cells" "[I", Cond.methodLink RX0 19 Lib.Math.min.name, Cond.static Lib.Math.min.name, Cond.initialized "java/lang/Math", Cond.code Lib.Math.min.name Lib.Math.min.code 2 (some .int), Cond.methodLink RX0 22 arraycopyName, Cond.native arraycopyName, Cond.static arraycopyName]
def wsL_tries_r3 : List Cond := [Cond.initialized "java/lang/System", Cond.methodLink RX5 138 yX1_copyFrom, Cond.instanceMethod yX1_copyFrom, Cond.selects RX1 yX1_copyFrom yX1_copyFrom, Cond.initialized RX1, Cond.code yX1_copyFrom cX1_copyFrom 2 none, Cond.fieldLink RX1 14 "TideWords$Gates" "sides" "LTideWords$Cells;", Cond.fieldLink RX1 20 "TideWords$Gates" "slacks" "LTideWords$Cells;", Cond.fieldLink RX1 23 "TideWords$Gates" "ways" "LTideWords$Cells;", Cond.fieldLink RX1 26 "TideWords$Gates" "shuts" "LTideWords$Cells;", Cond.fieldLink RX1 29 "TideWords$Gates" "held" "LTideWords$Cells;", Cond.fieldLink RX1 32 "TideWords$Gates" "lettersDone" "LTideWords$Cells;", Cond.fieldLink RX1 35 "TideWords$Gates" "passedWords" "LTideWords$Cells;", Cond.fieldLink RX1 38 "TideWords$Gates" "vainLetters" "LTideWords$Cells;", Cond.methodLink RX1 65 yX0_copyFrom, Cond.methodLink RX5 141 yX4_copyFrom, Cond.instanceMethod yX4_copyFrom, Cond.selects RX4 yX4_copyFrom yX4_copyFrom, Cond.initialized RX4, Cond.code yX4_copyFrom cX4_copyFrom 2 none, Cond.fieldLink RX4 14 "TideWords$Words" "lengths" "LTideWords$Cells;", Cond.fieldLink RX4 20 "TideWords$Words" "letters" "LTideWords$Cells;", Cond.fieldLink RX4 23 "TideWords$Words" "passedSteps" "LTideWords$Cells;", Cond.fieldLink RX4 26 "TideWords$Words" "passedGates" "LTideWords$Cells;"]
def wsL_tries_r4 : List Cond := [Cond.fieldLink RX4 29 "TideWords$Words" "timesBack" "LTideWords$Cells;", Cond.fieldLink RX4 32 "TideWords$Words" "rows" "LTideWords$Cells;", Cond.fieldLink RX4 35 "TideWords$Words" "rowLengths" "LTideWords$Cells;", Cond.fieldLink RX4 38 "TideWords$Words" "total" "I", Cond.methodLink RX4 70 yX0_copyFrom, Cond.methodLink RX6 139 yX5_makeSteps, Cond.instanceMethod yX5_makeSteps, Cond.selects RX5 yX5_makeSteps yX5_makeSteps, Cond.code yX5_makeSteps cX5_makeSteps 3 none, Cond.methodLink RX5 32 yX3_gapAt, Cond.instanceMethod yX3_gapAt, Cond.selects RX3 yX3_gapAt yX3_gapAt, Cond.code yX3_gapAt cX3_gapAt 2 (some .int), Cond.methodLink RX3 50 yX3_toldAt, Cond.instanceMethod yX3_toldAt, Cond.selects RX3 yX3_toldAt yX3_toldAt, Cond.code yX3_toldAt cX3_toldAt 3 (some .int), Cond.methodLink RX3 47 yX3_levelAt, Cond.instanceMethod yX3_levelAt, Cond.selects RX3 yX3_levelAt yX3_levelAt, Cond.code yX3_levelAt cX3_levelAt 6 (some .int), Cond.methodLink RX3 41 Lib.Math.min.name, Cond.methodLink RX3 37 yX0_get, Cond.instanceMethod yX0_get]
def wsL_tries_r5 : List Cond := [Cond.selects RX0 yX0_get yX0_get, Cond.code yX0_get cX0_get 2 (some .int), Cond.methodLink RX5 54 yX5_stepAcross, Cond.instanceMethod yX5_stepAcross, Cond.selects RX5 yX5_stepAcross yX5_stepAcross, Cond.code yX5_stepAcross cX5_stepAcross 4 none, Cond.methodLink RX5 36 yX1_isOpenAcross, Cond.instanceMethod yX1_isOpenAcross, Cond.selects RX1 yX1_isOpenAcross yX1_isOpenAcross, Cond.code yX1_isOpenAcross cX1_isOpenAcross 3 (some .boolean), Cond.methodLink RX1 57 Lib.Math.abs.name, Cond.static Lib.Math.abs.name, Cond.code Lib.Math.abs.name Lib.Math.abs.code 1 (some .int), Cond.methodLink RX1 53 yX1_isShut, Cond.instanceMethod yX1_isShut, Cond.selects RX1 yX1_isShut yX1_isShut, Cond.code yX1_isShut cX1_isShut 2 (some .boolean), Cond.methodLink RX1 49 yX0_get, Cond.methodLink RX5 58 yX5_takeWord, Cond.instanceMethod yX5_takeWord, Cond.selects RX5 yX5_takeWord yX5_takeWord, Cond.code yX5_takeWord cX5_takeWord 2 none, Cond.fieldLink RX5 74 "TideWords$Gates" "held" "LTideWords$Cells;", Cond.fieldLink RX5 78 "TideWords$Gates" "sides" "LTideWords$Cells;"]
def wsL_tries_r6 : List Cond := [Cond.methodLink RX5 70 yX1_hasWord, Cond.instanceMethod yX1_hasWord, Cond.selects RX1 yX1_hasWord yX1_hasWord, Cond.code yX1_hasWord cX1_hasWord 2 (some .boolean), Cond.methodLink RX5 81 yX0_get, Cond.methodLink RX5 86 yX4_takeWaiting, Cond.instanceMethod yX4_takeWaiting, Cond.selects RX4 yX4_takeWaiting yX4_takeWaiting, Cond.code yX4_takeWaiting cX4_takeWaiting 5 (some .int), Cond.methodLink RX4 49 yX0_get, Cond.methodLink RX4 56 yX4_wordAt, Cond.instanceMethod yX4_wordAt, Cond.selects RX4 yX4_wordAt yX4_wordAt, Cond.code yX4_wordAt cX4_wordAt 3 (some .int), Cond.methodLink RX4 63 yX4_hasPassed, Cond.instanceMethod yX4_hasPassed, Cond.selects RX4 yX4_hasPassed yX4_hasPassed, Cond.code yX4_hasPassed cX4_hasPassed 2 (some .boolean), Cond.methodLink RX4 67 yX4_removeFrom, Cond.instanceMethod yX4_removeFrom, Cond.selects RX4 yX4_removeFrom yX4_removeFrom, Cond.code yX4_removeFrom cX4_removeFrom 6 none, Cond.methodLink RX4 42 yX0_set, Cond.instanceMethod yX0_set]
def wsL_tries_r7 : List Cond := [Cond.selects RX0 yX0_set yX0_set, Cond.code yX0_set cX0_set 3 none, Cond.methodLink RX5 89 yX0_set, Cond.methodLink RX5 61 yX5_passLetter, Cond.instanceMethod yX5_passLetter, Cond.selects RX5 yX5_passLetter yX5_passLetter, Cond.code yX5_passLetter cX5_passLetter 3 none, Cond.fieldLink RX5 96 "TideWords$Gates" "lettersDone" "LTideWords$Cells;", Cond.fieldLink RX5 102 "TideWords$Words" "lengths" "LTideWords$Cells;", Cond.fieldLink RX5 108 "TideWords$Gates" "passedWords" "LTideWords$Cells;", Cond.methodLink RX5 99 yX0_add, Cond.instanceMethod yX0_add, Cond.selects RX0 yX0_add yX0_add, Cond.code yX0_add cX0_add 3 none, Cond.methodLink RX5 105 yX1_release, Cond.instanceMethod yX1_release, Cond.selects RX1 yX1_release yX1_release, Cond.code yX1_release cX1_release 2 none, Cond.methodLink RX1 45 yX0_set, Cond.methodLink RX5 111 yX4_markPassed, Cond.instanceMethod yX4_markPassed, Cond.selects RX4 yX4_markPassed yX4_markPassed, Cond.code yX4_markPassed cX4_markPassed 4 none, Cond.methodLink RX5 115 yX4_addLast]
def wsL_tries_r8 : List Cond := [Cond.instanceMethod yX4_addLast, Cond.selects RX4 yX4_addLast yX4_addLast, Cond.code yX4_addLast cX4_addLast 4 none, Cond.methodLink RX5 64 yX5_sendBack, Cond.instanceMethod yX5_sendBack, Cond.selects RX5 yX5_sendBack yX5_sendBack, Cond.code yX5_sendBack cX5_sendBack 3 none, Cond.fieldLink RX5 118 "TideWords$Gates" "ways" "LTideWords$Cells;", Cond.fieldLink RX5 121 "TideWords$Gates" "vainLetters" "LTideWords$Cells;", Cond.fieldLink RX5 124 "TideWords$Words" "timesBack" "LTideWords$Cells;", Cond.methodLink RX5 127 yX4_addFirst, Cond.instanceMethod yX4_addFirst, Cond.selects RX4 yX4_addFirst yX4_addFirst, Cond.code yX4_addFirst cX4_addFirst 6 none, Cond.methodLink RX6 232 yX5_tally, Cond.instanceMethod yX5_tally, Cond.selects RX5 yX5_tally yX5_tally, Cond.code yX5_tally cX5_tally 2 (some .int), Cond.methodLink RX5 130 yX0_sum, Cond.instanceMethod yX0_sum, Cond.selects RX0 yX0_sum yX0_sum, Cond.code yX0_sum cX0_sum 3 (some .int), Cond.methodLink RL 53 yX6_count, Cond.instanceMethod yX6_count]
def wsL_tries_r9 : List Cond := [Cond.selects RX6 yX6_count yX6_count, Cond.code yX6_count cX6_count 2 (some .int), Cond.fieldLink RX6 66 "TideWords$World" "steps" "I", Cond.fieldLink RX6 117 "TideWords$World" "words" "LTideWords$Words;", Cond.fieldLink RX6 121 "TideWords$Words" "total" "I", Cond.fieldLink RX6 88 "TideWords$World" "gates" "LTideWords$Gates;", Cond.fieldLink RX6 136 "TideWords$Gates" "passedWords" "LTideWords$Cells;", Cond.fieldLink RX6 210 "TideWords$World" "letters" "I", Cond.fieldLink RX6 176 "TideWords$Gates" "vainLetters" "LTideWords$Cells;", Cond.fieldLink RX6 216 "TideWords$World" "idleSteps" "I", Cond.fieldLink RX6 22 "TideWords" "pad" "LTideWords$Pad;", Cond.fieldLink RX6 132 "TideWords$Pad" "length" "I", Cond.fieldLink RX6 219 "TideWords" "records" "I", Cond.methodLink RX6 110 yX0_sum, Cond.methodLink RX6 160 yX4_waitingInRow, Cond.instanceMethod yX4_waitingInRow, Cond.selects RX4 yX4_waitingInRow yX4_waitingInRow, Cond.code yX4_waitingInRow cX4_waitingInRow 5 (some .int), Cond.methodLink RX6 209 yX1_wordsInside, Cond.instanceMethod yX1_wordsInside, Cond.selects RX1 yX1_wordsInside yX1_wordsInside, Cond.code yX1_wordsInside cX1_wordsInside 3 (some .int), Cond.methodLink RX1 62 yX1_hasWord, Cond.methodLink RX6 213 yX5_openMask]
def wsL_tries_r10 : List Cond := [Cond.instanceMethod yX5_openMask, Cond.selects RX5 yX5_openMask yX5_openMask, Cond.code yX5_openMask cX5_openMask 3 (some .int), Cond.methodLink RX5 44 yX5_isOpenAt, Cond.instanceMethod yX5_isOpenAt, Cond.selects RX5 yX5_isOpenAt yX5_isOpenAt, Cond.code yX5_isOpenAt cX5_isOpenAt 3 (some .boolean), Cond.methodLink RL 43 yX6_run, Cond.instanceMethod yX6_run, Cond.selects RX6 yX6_run yX6_run, Cond.code yX6_run cX6_run 3 (some .int), Cond.constant RX6 135 (99999), Cond.methodLink RX6 53 yX6_record, Cond.instanceMethod yX6_record, Cond.selects RX6 yX6_record yX6_record, Cond.code yX6_record cX6_record 1 none, Cond.fieldLink RX6 26 "TideWords" "history" "[LTideWords$World;", Cond.fieldLink RX6 259 "TideWords" "nextRecord" "I", Cond.methodLink RX6 270 Lib.Math.min.name, Cond.methodLink RX6 266 yX6_copyInto, Cond.instanceMethod yX6_copyInto, Cond.selects RX6 yX6_copyInto yX6_copyInto, Cond.code yX6_copyInto cX6_copyInto 4 none, Cond.methodLink RX6 262 yX6_worldIn]
def wsL_tries_r11 : List Cond := [Cond.static yX6_worldIn, Cond.code yX6_worldIn cX6_worldIn 2 (some (.object "TideWords$World")), Cond.methodLink RL 88 yX6_undo, Cond.instanceMethod yX6_undo, Cond.selects RX6 yX6_undo yX6_undo, Cond.code yX6_undo cX6_undo 1 (some .int), Cond.methodLink RL 75 yX6_untilPassed, Cond.instanceMethod yX6_untilPassed, Cond.selects RX6 yX6_untilPassed yX6_untilPassed, Cond.code yX6_untilPassed cX6_untilPassed 3 (some .int), Cond.methodLink RX6 179 yX6_isWord, Cond.instanceMethod yX6_isWord, Cond.selects RX6 yX6_isWord yX6_isWord, Cond.code yX6_isWord cX6_isWord 2 (some .boolean), Cond.methodLink RX6 191 yX4_hasPassed, Cond.methodLink RL 63 yX6_word, Cond.instanceMethod yX6_word, Cond.selects RX6 yX6_word yX6_word, Cond.code yX6_word cX6_word 3 (some .int), Cond.fieldLink RX6 188 "TideWords$Words" "lengths" "LTideWords$Cells;", Cond.fieldLink RX6 194 "TideWords$Words" "passedSteps" "LTideWords$Cells;", Cond.fieldLink RX6 197 "TideWords$Words" "passedGates" "LTideWords$Cells;", Cond.fieldLink RX6 200 "TideWords$Words" "timesBack" "LTideWords$Cells;", Cond.methodLink RX6 182 yX5_whereIs]
def wsL_tries_r12 : List Cond := [Cond.instanceMethod yX5_whereIs, Cond.selects RX5 yX5_whereIs yX5_whereIs, Cond.code yX5_whereIs cX5_whereIs 3 (some .int), Cond.methodLink RX5 47 yX1_gateWith, Cond.instanceMethod yX1_gateWith, Cond.selects RX1 yX1_gateWith yX1_gateWith, Cond.code yX1_gateWith cX1_gateWith 3 (some .int), Cond.methodLink RX5 50 yX4_placeIn, Cond.instanceMethod yX4_placeIn, Cond.selects RX4 yX4_placeIn yX4_placeIn, Cond.code yX4_placeIn cX4_placeIn 5 (some .int), Cond.methodLink RX6 185 yX4_placeOf, Cond.instanceMethod yX4_placeOf, Cond.selects RX4 yX4_placeOf yX4_placeOf, Cond.code yX4_placeOf cX4_placeOf 3 (some .int), Cond.methodLink RX4 60 yX4_placeIn, Cond.methodLink RX6 77 yX0_get, Cond.methodLink RX6 203 yX4_letterOf, Cond.instanceMethod yX4_letterOf, Cond.selects RX4 yX4_letterOf yX4_letterOf, Cond.code yX4_letterOf cX4_letterOf 4 (some .int), Cond.methodLink RL 56 yX6_gateOf, Cond.instanceMethod yX6_gateOf, Cond.selects RX6 yX6_gateOf yX6_gateOf]
def wsL_tries_r13 : List Cond := [Cond.code yX6_gateOf cX6_gateOf 3 (some .int), Cond.fieldLink RX6 97 "TideWords$Gates" "sides" "LTideWords$Cells;", Cond.fieldLink RX6 100 "TideWords$Gates" "slacks" "LTideWords$Cells;", Cond.fieldLink RX6 163 "TideWords$Gates" "ways" "LTideWords$Cells;", Cond.fieldLink RX6 107 "TideWords$Gates" "shuts" "LTideWords$Cells;", Cond.fieldLink RX6 170 "TideWords$Gates" "held" "LTideWords$Cells;", Cond.fieldLink RX6 173 "TideWords$Gates" "lettersDone" "LTideWords$Cells;", Cond.methodLink RX6 85 yX6_isGate, Cond.static yX6_isGate, Cond.code yX6_isGate cX6_isGate 1 (some .boolean), Cond.methodLink RX6 166 yX5_isOpenAt, Cond.methodLink RL 91 yX6_leastSlack, Cond.instanceMethod yX6_leastSlack, Cond.selects RX6 yX6_leastSlack yX6_leastSlack, Cond.code yX6_leastSlack cX6_leastSlack 8 (some .int), Cond.methodLink RX6 235 yX6_findGapsAhead, Cond.instanceMethod yX6_findGapsAhead, Cond.selects RX6 yX6_findGapsAhead yX6_findGapsAhead, Cond.code yX6_findGapsAhead cX6_findGapsAhead 2 none, Cond.fieldLink RX6 42 "TideWords" "gapsAhead" "LTideWords$Cells;", Cond.fieldLink RX6 56 "TideWords$World" "tides" "LTideWords$Tides;", Cond.methodLink RX6 286 yX3_gapAt, Cond.methodLink RX6 81 yX0_set, Cond.methodLink RX6 238 yX6_wordsPassingWith]
def wsL_tries_r14 : List Cond := [Cond.instanceMethod yX6_wordsPassingWith, Cond.selects RX6 yX6_wordsPassingWith yX6_wordsPassingWith, Cond.code yX6_wordsPassingWith cX6_wordsPassingWith 4 (some .int), Cond.methodLink RX6 292 yX5_stepAcross, Cond.methodLink RX6 241 yX6_hasGapAhead, Cond.instanceMethod yX6_hasGapAhead, Cond.selects RX6 yX6_hasGapAhead yX6_hasGapAhead, Cond.code yX6_hasGapAhead cX6_hasGapAhead 3 (some .boolean), Cond.methodLink RX6 289 Lib.Math.abs.name, Cond.methodLink RL 24 yX6_gate, Cond.instanceMethod yX6_gate, Cond.selects RX6 yX6_gate yX6_gate, Cond.code yX6_gate cX6_gate 6 (some .int), Cond.methodLink RX6 92 yX1_hasWord, Cond.methodLink RX6 103 yX1_change, Cond.instanceMethod yX1_change, Cond.selects RX1 yX1_change yX1_change, Cond.code yX1_change cX1_change 5 none, Cond.methodLink RL 46 yX6_store, Cond.instanceMethod yX6_store, Cond.selects RX6 yX6_store yX6_store, Cond.code yX6_store cX6_store 3 (some .int), Cond.fieldLink RX6 142 "TideWords$Tides" "means" "LTideWords$Cells;", Cond.fieldLink RX6 145 "TideWords$Tides" "swings" "LTideWords$Cells;"]
def wsL_tries_r15 : List Cond := [Cond.fieldLink RX6 148 "TideWords$Tides" "periods" "LTideWords$Cells;", Cond.fieldLink RX6 74 "TideWords$Tides" "lies" "LTideWords$Cells;", Cond.fieldLink RX6 154 "TideWords$Words" "rowLengths" "LTideWords$Cells;", Cond.methodLink RX6 45 yX6_isStore, Cond.static yX6_isStore, Cond.code yX6_isStore cX6_isStore 1 (some .boolean), Cond.methodLink RX6 70 yX3_levelAt, Cond.methodLink RX6 151 yX3_toldAt, Cond.methodLink RX6 157 yX4_lettersInRow, Cond.instanceMethod yX4_lettersInRow, Cond.selects RX4 yX4_lettersInRow yX4_lettersInRow, Cond.code yX4_lettersInRow cX4_lettersInRow 5 (some .int), Cond.methodLink RL 94 yX6_bestLie, Cond.instanceMethod yX6_bestLie, Cond.selects RX6 yX6_bestLie yX6_bestLie, Cond.code yX6_bestLie cX6_bestLie 8 (some .int), Cond.methodLink RX6 244 yX6_openStepsWith, Cond.instanceMethod yX6_openStepsWith, Cond.selects RX6 yX6_openStepsWith yX6_openStepsWith, Cond.code yX6_openStepsWith cX6_openStepsWith 9 (some .int), Cond.methodLink RL 21 yX6_gauge, Cond.instanceMethod yX6_gauge, Cond.selects RX6 yX6_gauge yX6_gauge, Cond.code yX6_gauge cX6_gauge 4 (some .int)]
def wsL_tries_r16 : List Cond := [Cond.methodLink RL 97 yL_opens, Cond.static yL_opens, Cond.code yL_opens cL_opens 4 (some .int), Cond.methodLink RL 59 yL_off, Cond.static yL_off, Cond.code yL_off cL_off 3 (some .int), Cond.methodLink RL 49 yL_level, Cond.static yL_level, Cond.code yL_level cL_level 5 (some .int)]
def wsL_tries : List Cond := .code yL_tries cL_tries 26 (some .boolean) :: ((wsL_tries_r1 ++ (wsL_tries_r2 ++ (wsL_tries_r3 ++ (wsL_tries_r4 ++ (wsL_tries_r5 ++ (wsL_tries_r6 ++ (wsL_tries_r7 ++ (wsL_tries_r8 ++ (wsL_tries_r9 ++ (wsL_tries_r10 ++ (wsL_tries_r11 ++ (wsL_tries_r12 ++ (wsL_tries_r13 ++ (wsL_tries_r14 ++ (wsL_tries_r15 ++ wsL_tries_r16))))))))))))))) ++ wsX60 ++ wsX50 ++ wsX30 ++ wsX00 ++ wsX10 ++ wsX40 ++ wsX20)
theorem dL_cell_0 : decode cL_cell 0 = .ok (.iload_n 1, 1) := by decide +kernel
theorem dL_cell_1 : decode cL_cell 1 = .ok (.aload_n 0, 1) := by decide +kernel
theorem dL_cell_2 : decode cL_cell 2 = .ok (.arraylength, 1) := by decide +kernel
theorem dL_cell_3 : decode cL_cell 3 = .ok (.if_icmp .ge 9, 3) := by decide +kernel
theorem dL_cell_6 : decode cL_cell 6 = .ok (.aload_n 0, 1) := by decide +kernel
theorem dL_cell_7 : decode cL_cell 7 = .ok (.iload_n 1, 1) := by decide +kernel
theorem dL_cell_8 : decode cL_cell 8 = .ok (.iaload, 1) := by decide +kernel
theorem dL_cell_9 : decode cL_cell 9 = .ok (.goto 11, 3) := by decide +kernel
theorem dL_cell_12 : decode cL_cell 12 = .ok (.ldc 7, 2) := by decide +kernel
theorem dL_cell_14 : decode cL_cell 14 = .ok (.iload_n 1, 1) := by decide +kernel
theorem dL_cell_15 : decode cL_cell 15 = .ok (.imul, 1) := by decide +kernel
theorem dL_cell_16 : decode cL_cell 16 = .ok (.sipush 977, 3) := by decide +kernel
theorem dL_cell_19 : decode cL_cell 19 = .ok (.iadd, 1) := by decide +kernel
theorem dL_cell_20 : decode cL_cell 20 = .ok (.ireturn, 1) := by decide +kernel
theorem dL_low_0 : decode cL_low 0 = .ok (.iload_n 0, 1) := by decide +kernel
theorem dL_low_1 : decode cL_low 1 = .ok (.ldc 8, 2) := by decide +kernel
theorem dL_low_3 : decode cL_low 3 = .ok (.iand, 1) := by decide +kernel
theorem dL_low_4 : decode cL_low 4 = .ok (.iload_n 1, 1) := by decide +kernel
theorem dL_low_5 : decode cL_low 5 = .ok (.irem, 1) := by decide +kernel
theorem dL_low_6 : decode cL_low 6 = .ok (.ireturn, 1) := by decide +kernel
set_option maxRecDepth 20000 in
theorem ggL_change_L_low : GoodIn wsL_change wsL_low := goodIn_r _ [4, 5] (by decide +kernel) (by decide +kernel)
set_option maxRecDepth 20000 in
theorem gL_change_L_low : GoodIn wsL_change (va_wsS RL 9 yL_low wsL_low) := goodIn_app (goodIn_of _ (by decide +kernel)) ggL_change_L_low
set_option maxRecDepth 20000 in
theorem ggL_change_X6_tide : GoodIn wsL_change wsX6_tide := goodIn_r _ [10, 11, 12, 13, 14, 15, 9, 16, 17, 18, 19, 20, 21, 22, 23, 24, 25, 26, 27, 28, 29, 30, 31, 32, 33, 34, 35, 36, 37, 38, 39, 40, 41, 42, 43, 44, 45, 46, 47, 48, 49, 50, 51, 52, 53, 54, 55, 56, 57, 58, 59, 60, 61, 62, 63, 64, 65, 66, 67, 68, 69, 70, 71, 72, 73, 74, 75, 76, 77, 78, 79, 80, 81, 82, 83, 84, 85, 86, 87, 88, 89, 90, 91, 92, 93, 94, 95, 96, 97, 98, 99, 100, 101, 102, 103, 104, 105, 106, 107, 108, 109, 110, 111, 112, 113, 301, 302, 303, 304, 305, 306, 307, 308, 309, 310, 311, 312, 313, 314, 315, 316, 317, 318, 319, 320, 321, 322, 323, 324, 325, 326, 327, 328, 329, 330, 331, 332, 333, 334, 335, 336] (by decide +kernel) (by decide +kernel)
set_option maxRecDepth 20000 in
theorem gL_change_X6_tide : GoodIn wsL_change (wsV RL 15 RX6 yX6_tide wsX6_tide) := goodIn_app (goodIn_of _ (by decide +kernel)) ggL_change_X6_tide
set_option maxRecDepth 20000 in
theorem ggL_change_X6_gauge : GoodIn wsL_change wsX6_gauge := goodIn_r _ [117, 11, 12, 118, 14, 15, 9, 16, 17, 18, 19, 20, 21, 22, 23, 24, 25, 26, 27, 28, 29, 30, 31, 32, 33, 34, 35, 36, 37, 38, 39, 40, 41, 42, 43, 44, 45, 46, 47, 48, 49, 50, 51, 52, 53, 54, 55, 56, 57, 58, 59, 60, 61, 62, 63, 64, 65, 66, 67, 68, 69, 70, 71, 72, 73, 74, 75, 76, 77, 78, 79, 80, 81, 82, 83, 84, 85, 86, 87, 88, 89, 90, 91, 92, 93, 94, 95, 96, 119, 111, 112, 113, 120, 102, 103, 104, 301, 302, 303, 304, 305, 306, 307, 308, 309, 310, 311, 312, 313, 314, 315, 316, 317, 318, 319, 320, 321, 322, 323, 324, 325, 326, 327, 328, 329, 330, 331, 332, 333, 334, 335, 336] (by decide +kernel) (by decide +kernel)
set_option maxRecDepth 20000 in
theorem gL_change_X6_gauge : GoodIn wsL_change (wsV RL 21 RX6 yX6_gauge wsX6_gauge) := goodIn_app (goodIn_of _ (by decide +kernel)) ggL_change_X6_gauge
set_option maxRecDepth 20000 in
theorem ggL_change_X6_gate : GoodIn wsL_change wsX6_gate := goodIn_r _ [124, 11, 125, 126, 127, 128, 129, 9, 130, 17, 18, 19, 131, 132, 133, 72, 134, 78, 135, 111, 112, 61, 113, 63, 119, 20, 21, 22, 23, 24, 25, 26, 27, 28, 29, 30, 31, 32, 33, 34, 35, 36, 37, 38, 39, 40, 41, 42, 43, 44, 45, 46, 47, 48, 49, 50, 51, 52, 53, 54, 55, 56, 57, 58, 59, 60, 62, 64, 65, 66, 67, 68, 69, 70, 71, 73, 74, 75, 76, 77, 79, 80, 81, 82, 83, 84, 85, 86, 87, 88, 89, 90, 91, 92, 93, 94, 95, 96, 136, 137, 138, 139, 140, 102, 103, 104, 301, 302, 303, 304, 305, 306, 307, 308, 309, 310, 311, 312, 313, 314, 315, 321, 322, 323, 324, 325, 326, 327, 328, 320, 316, 317, 318, 319, 329, 330, 331, 332, 333, 334, 335, 336] (by decide +kernel) (by decide +kernel)
set_option maxRecDepth 20000 in
theorem gL_change_X6_gate : GoodIn wsL_change (wsV RL 24 RX6 yX6_gate wsX6_gate) := goodIn_app (goodIn_of _ (by decide +kernel)) ggL_change_X6_gate
set_option maxRecDepth 20000 in
theorem ggL_change_X6_shut : GoodIn wsL_change wsX6_shut := goodIn_r _ [144, 11, 125, 145, 128, 129, 9, 130, 17, 18, 19, 146, 147, 148, 72, 149, 77, 135, 111, 112, 61, 113, 63, 20, 21, 22, 23, 24, 25, 26, 27, 28, 29, 30, 31, 32, 33, 34, 35, 36, 37, 38, 39, 40, 41, 42, 43, 44, 45, 46, 47, 48, 49, 50, 51, 52, 53, 54, 55, 56, 57, 58, 59, 60, 62, 64, 65, 66, 67, 68, 69, 70, 71, 73, 74, 75, 76, 78, 79, 80, 81, 82, 83, 84, 85, 86, 87, 88, 89, 90, 91, 92, 93, 94, 95, 96, 120, 102, 103, 104, 150, 151, 152, 153, 301, 302, 303, 304, 305, 306, 307, 308, 309, 310, 311, 312, 313, 314, 315, 321, 322, 323, 324, 325, 326, 327, 328, 320, 316, 317, 318, 319, 329, 330, 331, 332, 333, 334, 335, 336] (by decide +kernel) (by decide +kernel)
set_option maxRecDepth 20000 in
theorem gL_change_X6_shut : GoodIn wsL_change (wsV RL 27 RX6 yX6_shut wsX6_shut) := goodIn_app (goodIn_of _ (by decide +kernel)) ggL_change_X6_shut
set_option maxRecDepth 20000 in
theorem ggL_change_X6_write : GoodIn wsL_change wsX6_write := goodIn_r _ [157, 158, 159, 160, 161, 9, 162, 163, 17, 18, 19, 164, 165, 166, 167, 168, 169, 170, 171, 172, 173, 174, 102, 103, 61, 104, 63, 301, 302, 303, 304, 305, 306, 307, 308, 309, 337, 338, 320] (by decide +kernel) (by decide +kernel)
set_option maxRecDepth 20000 in
theorem gL_change_X6_write : GoodIn wsL_change (wsV RL 31 RX6 yX6_write wsX6_write) := goodIn_app (goodIn_of _ (by decide +kernel)) ggL_change_X6_write
set_option maxRecDepth 20000 in
theorem ggL_change_X6_put : GoodIn wsL_change wsX6_put := goodIn_r _ [178, 158, 11, 179, 180, 159, 14, 15, 9, 16, 17, 18, 19, 181, 182, 183, 170, 184, 172, 173, 185, 111, 112, 61, 113, 63, 186, 187, 188, 189, 20, 21, 22, 23, 24, 25, 26, 27, 28, 29, 30, 31, 32, 33, 34, 35, 36, 37, 38, 39, 40, 41, 42, 43, 44, 45, 46, 47, 48, 49, 50, 51, 52, 53, 54, 55, 56, 57, 58, 59, 60, 62, 64, 65, 66, 67, 68, 69, 70, 71, 72, 73, 74, 75, 76, 77, 78, 79, 80, 81, 82, 83, 84, 85, 86, 87, 88, 89, 90, 91, 92, 93, 94, 95, 96, 190, 191, 192, 193, 194, 195, 196, 197, 198, 199, 102, 103, 104, 200, 201, 202, 203, 204, 119, 205, 206, 207, 208, 209, 210, 211, 212, 301, 302, 303, 304, 305, 306, 307, 308, 309, 310, 311, 312, 313, 314, 315, 329, 330, 331, 332, 333, 334, 335, 336, 337, 338, 320, 316, 317, 318, 319, 321, 322, 323, 324, 325, 326, 327, 328] (by decide +kernel) (by decide +kernel)
set_option maxRecDepth 20000 in
theorem gL_change_X6_put : GoodIn wsL_change (wsV RL 35 RX6 yX6_put wsX6_put) := goodIn_app (goodIn_of _ (by decide +kernel)) ggL_change_X6_put
set_option maxRecDepth 20000 in
theorem ggL_change_X6_wipe : GoodIn wsL_change wsX6_wipe := goodIn_r _ [216, 158, 159, 301, 302, 303, 304, 305, 306, 307, 308, 309, 337, 338] (by decide +kernel) (by decide +kernel)
set_option maxRecDepth 20000 in
theorem gL_change_X6_wipe : GoodIn wsL_change (wsV RL 39 RX6 yX6_wipe wsX6_wipe) := goodIn_app (goodIn_of _ (by decide +kernel)) ggL_change_X6_wipe
set_option maxRecDepth 20000 in
theorem ggL_change_X6_run : GoodIn wsL_change wsX6_run := goodIn_r _ [220, 11, 13, 221, 125, 222, 17, 18, 9, 19, 20, 21, 22, 23, 24, 25, 26, 27, 28, 29, 30, 31, 32, 33, 34, 35, 36, 37, 38, 39, 40, 41, 42, 43, 44, 45, 46, 47, 48, 49, 50, 51, 52, 53, 54, 55, 56, 57, 58, 59, 60, 61, 62, 63, 64, 65, 66, 67, 68, 69, 70, 71, 72, 73, 74, 75, 76, 77, 78, 79, 80, 81, 82, 83, 84, 85, 86, 87, 88, 89, 90, 91, 92, 93, 94, 95, 96, 150, 151, 152, 153, 223, 224, 225, 226, 227, 228, 229, 230, 231, 232, 233, 234, 235, 106, 107, 108, 109, 110, 111, 112, 113, 236, 237, 238, 239, 240, 241, 242, 243, 244, 245, 246, 247, 147, 148, 149, 135, 248, 249, 250, 251, 252, 253, 254, 132, 133, 134, 255, 256, 257, 258, 259, 204, 260, 261, 262, 263, 264, 265, 266, 267, 268, 269, 270, 271, 199, 102, 103, 104, 272, 273, 274, 275, 276, 277, 278, 279, 280, 210, 211, 212, 281, 282, 283, 284, 140, 285, 286, 287, 288, 289, 201, 202, 203, 290, 291, 292, 293, 294, 295, 296, 297, 298, 299, 300, 301, 302, 303, 304, 305, 306, 307, 308, 309, 310, 311, 312, 313, 314, 315, 321, 322, 323, 324, 325, 326, 327, 328, 316, 317, 318, 319, 320, 329, 330, 331, 332, 333, 334, 335, 336] (by decide +kernel) (by decide +kernel)
set_option maxRecDepth 20000 in
theorem gL_change_X6_run : GoodIn wsL_change (wsV RL 43 RX6 yX6_run wsX6_run) := goodIn_app (goodIn_of _ (by decide +kernel)) ggL_change_X6_run
theorem dL_change_0 : decode cL_change 0 = .ok (.iload_n 1, 1) := by decide +kernel
theorem dL_change_1 : decode cL_change 1 = .ok (.tableswitch 217 0 7 #[47, 86, 105, 105, 132, 153, 153, 153], 47) := by decide +kernel
theorem dL_change_48 : decode cL_change 48 = .ok (.aload_n 0, 1) := by decide +kernel
theorem dL_change_49 : decode cL_change 49 = .ok (.iload_n 2, 1) := by decide +kernel
theorem dL_change_50 : decode cL_change 50 = .ok (.iconst 3, 1) := by decide +kernel
theorem dL_change_51 : decode cL_change 51 = .ok (.invokestatic 9, 3) := by decide +kernel
theorem dL_change_54 : decode cL_change 54 = .ok (.bipush 80, 2) := by decide +kernel
theorem dL_change_56 : decode cL_change 56 = .ok (.iload_n 3, 1) := by decide +kernel
theorem dL_change_57 : decode cL_change 57 = .ok (.bipush 40, 2) := by decide +kernel
theorem dL_change_59 : decode cL_change 59 = .ok (.invokestatic 9, 3) := by decide +kernel
theorem dL_change_62 : decode cL_change 62 = .ok (.iadd, 1) := by decide +kernel
theorem dL_change_63 : decode cL_change 63 = .ok (.iload_n 3, 1) := by decide +kernel
theorem dL_change_64 : decode cL_change 64 = .ok (.bipush 6, 2) := by decide +kernel
theorem dL_change_66 : decode cL_change 66 = .ok (.ishr, 1) := by decide +kernel
theorem dL_change_67 : decode cL_change 67 = .ok (.bipush 60, 2) := by decide +kernel
theorem dL_change_69 : decode cL_change 69 = .ok (.invokestatic 9, 3) := by decide +kernel
theorem dL_change_72 : decode cL_change 72 = .ok (.iconst 1, 1) := by decide +kernel
theorem dL_change_73 : decode cL_change 73 = .ok (.iload_n 3, 1) := by decide +kernel
theorem dL_change_74 : decode cL_change 74 = .ok (.bipush 12, 2) := by decide +kernel
theorem dL_change_76 : decode cL_change 76 = .ok (.ishr, 1) := by decide +kernel
theorem dL_change_77 : decode cL_change 77 = .ok (.bipush 30, 2) := by decide +kernel
theorem dL_change_79 : decode cL_change 79 = .ok (.invokestatic 9, 3) := by decide +kernel
theorem dL_change_82 : decode cL_change 82 = .ok (.iadd, 1) := by decide +kernel
theorem dL_change_83 : decode cL_change 83 = .ok (.invokevirtual 15, 3) := by decide +kernel
theorem dL_change_86 : decode cL_change 86 = .ok (.ireturn, 1) := by decide +kernel
theorem dL_change_87 : decode cL_change 87 = .ok (.aload_n 0, 1) := by decide +kernel
theorem dL_change_88 : decode cL_change 88 = .ok (.iload_n 2, 1) := by decide +kernel
theorem dL_change_89 : decode cL_change 89 = .ok (.iconst 2, 1) := by decide +kernel
theorem dL_change_90 : decode cL_change 90 = .ok (.invokestatic 9, 3) := by decide +kernel
theorem dL_change_93 : decode cL_change 93 = .ok (.iload_n 3, 1) := by decide +kernel
theorem dL_change_94 : decode cL_change 94 = .ok (.bipush 104, 2) := by decide +kernel
theorem dL_change_96 : decode cL_change 96 = .ok (.invokestatic 9, 3) := by decide +kernel
theorem dL_change_99 : decode cL_change 99 = .ok (.bipush 52, 2) := by decide +kernel
theorem dL_change_101 : decode cL_change 101 = .ok (.isub, 1) := by decide +kernel
theorem dL_change_102 : decode cL_change 102 = .ok (.invokevirtual 21, 3) := by decide +kernel
theorem dL_change_105 : decode cL_change 105 = .ok (.ireturn, 1) := by decide +kernel
theorem dL_change_106 : decode cL_change 106 = .ok (.aload_n 0, 1) := by decide +kernel
theorem dL_change_107 : decode cL_change 107 = .ok (.iload_n 2, 1) := by decide +kernel
theorem dL_change_108 : decode cL_change 108 = .ok (.iconst 5, 1) := by decide +kernel
theorem dL_change_109 : decode cL_change 109 = .ok (.invokestatic 9, 3) := by decide +kernel
theorem dL_change_112 : decode cL_change 112 = .ok (.iload_n 3, 1) := by decide +kernel
theorem dL_change_113 : decode cL_change 113 = .ok (.iconst 1, 1) := by decide +kernel
theorem dL_change_114 : decode cL_change 114 = .ok (.iand, 1) := by decide +kernel
theorem dL_change_115 : decode cL_change 115 = .ok (.iload_n 3, 1) := by decide +kernel
theorem dL_change_116 : decode cL_change 116 = .ok (.iconst 1, 1) := by decide +kernel
theorem dL_change_117 : decode cL_change 117 = .ok (.ishr, 1) := by decide +kernel
theorem dL_change_118 : decode cL_change 118 = .ok (.bipush 40, 2) := by decide +kernel
theorem dL_change_120 : decode cL_change 120 = .ok (.invokestatic 9, 3) := by decide +kernel
theorem dL_change_123 : decode cL_change 123 = .ok (.iload_n 3, 1) := by decide +kernel
theorem dL_change_124 : decode cL_change 124 = .ok (.bipush 7, 2) := by decide +kernel
theorem dL_change_126 : decode cL_change 126 = .ok (.ishr, 1) := by decide +kernel
theorem dL_change_127 : decode cL_change 127 = .ok (.iconst 1, 1) := by decide +kernel
theorem dL_change_128 : decode cL_change 128 = .ok (.iand, 1) := by decide +kernel
theorem dL_change_129 : decode cL_change 129 = .ok (.invokevirtual 24, 3) := by decide +kernel
theorem dL_change_132 : decode cL_change 132 = .ok (.ireturn, 1) := by decide +kernel
theorem dL_change_133 : decode cL_change 133 = .ok (.aload_n 0, 1) := by decide +kernel
theorem dL_change_134 : decode cL_change 134 = .ok (.iload_n 2, 1) := by decide +kernel
theorem dL_change_135 : decode cL_change 135 = .ok (.iconst 4, 1) := by decide +kernel
theorem dL_change_136 : decode cL_change 136 = .ok (.invokestatic 9, 3) := by decide +kernel
theorem dL_change_139 : decode cL_change 139 = .ok (.iload_n 3, 1) := by decide +kernel
theorem dL_change_140 : decode cL_change 140 = .ok (.iconst 3, 1) := by decide +kernel
theorem dL_change_141 : decode cL_change 141 = .ok (.iand, 1) := by decide +kernel
theorem dL_change_142 : decode cL_change 142 = .ok (.ifCond .ne 7, 3) := by decide +kernel
theorem dL_change_145 : decode cL_change 145 = .ok (.iconst 1, 1) := by decide +kernel
theorem dL_change_146 : decode cL_change 146 = .ok (.goto 4, 3) := by decide +kernel
theorem dL_change_149 : decode cL_change 149 = .ok (.iconst 0, 1) := by decide +kernel
theorem dL_change_150 : decode cL_change 150 = .ok (.invokevirtual 27, 3) := by decide +kernel
theorem dL_change_153 : decode cL_change 153 = .ok (.ireturn, 1) := by decide +kernel
theorem dL_change_154 : decode cL_change 154 = .ok (.iconst 0, 1) := by decide +kernel
theorem dL_change_155 : decode cL_change 155 = .ok (.istore 4, 2) := by decide +kernel
theorem dL_change_157 : decode cL_change 157 = .ok (.iload 4, 2) := by decide +kernel
theorem dL_change_159 : decode cL_change 159 = .ok (.iconst 1, 1) := by decide +kernel
theorem dL_change_160 : decode cL_change 160 = .ok (.iload_n 2, 1) := by decide +kernel
theorem dL_change_161 : decode cL_change 161 = .ok (.bipush 6, 2) := by decide +kernel
theorem dL_change_163 : decode cL_change 163 = .ok (.invokestatic 9, 3) := by decide +kernel
theorem dL_change_166 : decode cL_change 166 = .ok (.iadd, 1) := by decide +kernel
theorem dL_change_167 : decode cL_change 167 = .ok (.if_icmp .ge 29, 3) := by decide +kernel
theorem dL_change_170 : decode cL_change 170 = .ok (.aload_n 0, 1) := by decide +kernel
theorem dL_change_171 : decode cL_change 171 = .ok (.bipush 97, 2) := by decide +kernel
theorem dL_change_173 : decode cL_change 173 = .ok (.iload_n 3, 1) := by decide +kernel
theorem dL_change_174 : decode cL_change 174 = .ok (.iconst 2, 1) := by decide +kernel
theorem dL_change_175 : decode cL_change 175 = .ok (.iload 4, 2) := by decide +kernel
theorem dL_change_177 : decode cL_change 177 = .ok (.imul, 1) := by decide +kernel
theorem dL_change_178 : decode cL_change 178 = .ok (.ishr, 1) := by decide +kernel
theorem dL_change_179 : decode cL_change 179 = .ok (.bipush 26, 2) := by decide +kernel
theorem dL_change_181 : decode cL_change 181 = .ok (.invokestatic 9, 3) := by decide +kernel
theorem dL_change_184 : decode cL_change 184 = .ok (.iadd, 1) := by decide +kernel
theorem dL_change_185 : decode cL_change 185 = .ok (.i2l, 1) := by decide +kernel
theorem dL_change_186 : decode cL_change 186 = .ok (.invokevirtual 31, 3) := by decide +kernel
theorem dL_change_189 : decode cL_change 189 = .ok (.pop, 1) := by decide +kernel
theorem dL_change_190 : decode cL_change 190 = .ok (.iinc 4 1, 3) := by decide +kernel
theorem dL_change_193 : decode cL_change 193 = .ok (.goto (-36), 3) := by decide +kernel
theorem dL_change_196 : decode cL_change 196 = .ok (.aload_n 0, 1) := by decide +kernel
theorem dL_change_197 : decode cL_change 197 = .ok (.iload_n 2, 1) := by decide +kernel
theorem dL_change_198 : decode cL_change 198 = .ok (.iconst 4, 1) := by decide +kernel
theorem dL_change_199 : decode cL_change 199 = .ok (.ishr, 1) := by decide +kernel
theorem dL_change_200 : decode cL_change 200 = .ok (.iconst 2, 1) := by decide +kernel
theorem dL_change_201 : decode cL_change 201 = .ok (.invokestatic 9, 3) := by decide +kernel
theorem dL_change_204 : decode cL_change 204 = .ok (.invokevirtual 35, 3) := by decide +kernel
theorem dL_change_207 : decode cL_change 207 = .ok (.istore 4, 2) := by decide +kernel
theorem dL_change_209 : decode cL_change 209 = .ok (.aload_n 0, 1) := by decide +kernel
theorem dL_change_210 : decode cL_change 210 = .ok (.invokevirtual 39, 3) := by decide +kernel
theorem dL_change_213 : decode cL_change 213 = .ok (.istore 5, 2) := by decide +kernel
theorem dL_change_215 : decode cL_change 215 = .ok (.iload 4, 2) := by decide +kernel
theorem dL_change_217 : decode cL_change 217 = .ok (.ireturn, 1) := by decide +kernel
theorem dL_change_218 : decode cL_change 218 = .ok (.aload_n 0, 1) := by decide +kernel
theorem dL_change_219 : decode cL_change 219 = .ok (.iconst 1, 1) := by decide +kernel
theorem dL_change_220 : decode cL_change 220 = .ok (.iload_n 2, 1) := by decide +kernel
theorem dL_change_221 : decode cL_change 221 = .ok (.bipush 30, 2) := by decide +kernel
theorem dL_change_223 : decode cL_change 223 = .ok (.invokestatic 9, 3) := by decide +kernel
theorem dL_change_226 : decode cL_change 226 = .ok (.iadd, 1) := by decide +kernel
theorem dL_change_227 : decode cL_change 227 = .ok (.invokevirtual 43, 3) := by decide +kernel
theorem dL_change_230 : decode cL_change 230 = .ok (.ireturn, 1) := by decide +kernel
set_option maxRecDepth 20000 in
theorem ggL_level_X6_store : GoodIn wsL_level wsX6_store := goodIn_r _ [5, 6, 7, 8, 9, 10, 11, 12, 13, 14, 15, 16, 4, 17, 18, 19, 20, 21, 22, 23, 24, 25, 26, 27, 28, 29, 30, 31, 32, 33, 34, 35, 36, 37, 38, 39, 40, 41, 42, 43, 44, 45, 46, 47, 48, 49, 50, 51, 52, 53, 54, 55, 56, 57, 58, 59, 60, 61, 62, 63, 64, 65, 66, 67, 68, 69, 70, 71, 72, 73, 74, 75, 76, 77, 78, 79, 80, 81, 82, 83, 84, 85, 86, 87, 88, 89, 90, 91, 92, 93, 94, 95] (by decide +kernel) (by decide +kernel)
set_option maxRecDepth 20000 in
theorem gL_level_X6_store : GoodIn wsL_level (wsV RL 46 RX6 yX6_store wsX6_store) := goodIn_app (goodIn_of _ (by decide +kernel)) ggL_level_X6_store
theorem dL_level_0 : decode cL_level 0 = .ok (.aload_n 0, 1) := by decide +kernel
theorem dL_level_1 : decode cL_level 1 = .ok (.iload_n 1, 1) := by decide +kernel
theorem dL_level_2 : decode cL_level 2 = .ok (.iconst 2, 1) := by decide +kernel
theorem dL_level_3 : decode cL_level 3 = .ok (.invokevirtual 46, 3) := by decide +kernel
theorem dL_level_6 : decode cL_level 6 = .ok (.istore_n 3, 1) := by decide +kernel
theorem dL_level_7 : decode cL_level 7 = .ok (.iload_n 2, 1) := by decide +kernel
theorem dL_level_8 : decode cL_level 8 = .ok (.iload_n 3, 1) := by decide +kernel
theorem dL_level_9 : decode cL_level 9 = .ok (.irem, 1) := by decide +kernel
theorem dL_level_10 : decode cL_level 10 = .ok (.istore 4, 2) := by decide +kernel
theorem dL_level_12 : decode cL_level 12 = .ok (.iload 4, 2) := by decide +kernel
theorem dL_level_14 : decode cL_level 14 = .ok (.iload 4, 2) := by decide +kernel
theorem dL_level_16 : decode cL_level 16 = .ok (.iadd, 1) := by decide +kernel
theorem dL_level_17 : decode cL_level 17 = .ok (.iload_n 3, 1) := by decide +kernel
theorem dL_level_18 : decode cL_level 18 = .ok (.if_icmp .le 10, 3) := by decide +kernel
theorem dL_level_21 : decode cL_level 21 = .ok (.iload_n 3, 1) := by decide +kernel
theorem dL_level_22 : decode cL_level 22 = .ok (.iload 4, 2) := by decide +kernel
theorem dL_level_24 : decode cL_level 24 = .ok (.isub, 1) := by decide +kernel
theorem dL_level_25 : decode cL_level 25 = .ok (.goto 5, 3) := by decide +kernel
theorem dL_level_28 : decode cL_level 28 = .ok (.iload 4, 2) := by decide +kernel
theorem dL_level_30 : decode cL_level 30 = .ok (.istore 4, 2) := by decide +kernel
theorem dL_level_32 : decode cL_level 32 = .ok (.aload_n 0, 1) := by decide +kernel
theorem dL_level_33 : decode cL_level 33 = .ok (.iload_n 1, 1) := by decide +kernel
theorem dL_level_34 : decode cL_level 34 = .ok (.iconst 0, 1) := by decide +kernel
theorem dL_level_35 : decode cL_level 35 = .ok (.invokevirtual 46, 3) := by decide +kernel
theorem dL_level_38 : decode cL_level 38 = .ok (.aload_n 0, 1) := by decide +kernel
theorem dL_level_39 : decode cL_level 39 = .ok (.iload_n 1, 1) := by decide +kernel
theorem dL_level_40 : decode cL_level 40 = .ok (.iconst 1, 1) := by decide +kernel
theorem dL_level_41 : decode cL_level 41 = .ok (.invokevirtual 46, 3) := by decide +kernel
theorem dL_level_44 : decode cL_level 44 = .ok (.isub, 1) := by decide +kernel
theorem dL_level_45 : decode cL_level 45 = .ok (.iconst 4, 1) := by decide +kernel
theorem dL_level_46 : decode cL_level 46 = .ok (.aload_n 0, 1) := by decide +kernel
theorem dL_level_47 : decode cL_level 47 = .ok (.iload_n 1, 1) := by decide +kernel
theorem dL_level_48 : decode cL_level 48 = .ok (.iconst 1, 1) := by decide +kernel
theorem dL_level_49 : decode cL_level 49 = .ok (.invokevirtual 46, 3) := by decide +kernel
theorem dL_level_52 : decode cL_level 52 = .ok (.imul, 1) := by decide +kernel
theorem dL_level_53 : decode cL_level 53 = .ok (.iload 4, 2) := by decide +kernel
theorem dL_level_55 : decode cL_level 55 = .ok (.imul, 1) := by decide +kernel
theorem dL_level_56 : decode cL_level 56 = .ok (.iload_n 3, 1) := by decide +kernel
theorem dL_level_57 : decode cL_level 57 = .ok (.idiv, 1) := by decide +kernel
theorem dL_level_58 : decode cL_level 58 = .ok (.iadd, 1) := by decide +kernel
theorem dL_level_59 : decode cL_level 59 = .ok (.ireturn, 1) := by decide +kernel
set_option maxRecDepth 20000 in
theorem ggL_off_L_level : GoodIn wsL_off wsL_level := goodIn_r _ [4, 5, 6, 7, 8, 9, 10, 11, 12, 13, 14, 15, 16, 17, 18, 19, 20, 21, 22, 23, 24, 25, 26, 27, 28, 29, 30, 31, 32, 33, 34, 35, 36, 37, 38, 39, 40, 41, 42, 43, 44, 45, 46, 47, 48, 49, 50, 51, 52, 53, 54, 55, 56, 57, 58, 59, 60, 61, 62, 63, 64, 65, 66, 67, 68, 69, 70, 71, 72, 73, 74, 75, 76, 77, 78, 79, 80, 81, 82, 83, 84, 85, 86, 87, 88, 89, 90, 91, 92, 93, 94, 95, 96, 97, 98, 99] (by decide +kernel) (by decide +kernel)
set_option maxRecDepth 20000 in
theorem gL_off_L_level : GoodIn wsL_off (va_wsS RL 49 yL_level wsL_level) := goodIn_app (goodIn_of _ (by decide +kernel)) ggL_off_L_level
set_option maxRecDepth 20000 in
theorem ggL_off_X6_store : GoodIn wsL_off wsX6_store := goodIn_r _ [9, 10, 11, 12, 13, 14, 15, 16, 17, 18, 19, 20, 8, 21, 22, 23, 24, 25, 26, 27, 28, 29, 30, 31, 32, 33, 34, 35, 36, 37, 38, 39, 40, 41, 42, 43, 44, 45, 46, 47, 48, 49, 50, 51, 52, 53, 54, 55, 56, 57, 58, 59, 60, 61, 62, 63, 64, 65, 66, 67, 68, 69, 70, 71, 72, 73, 74, 75, 76, 77, 78, 79, 80, 81, 82, 83, 84, 85, 86, 87, 88, 89, 90, 91, 92, 93, 94, 95, 96, 97, 98, 99] (by decide +kernel) (by decide +kernel)
set_option maxRecDepth 20000 in
theorem gL_off_X6_store : GoodIn wsL_off (wsV RL 46 RX6 yX6_store wsX6_store) := goodIn_app (goodIn_of _ (by decide +kernel)) ggL_off_X6_store
theorem dL_off_0 : decode cL_off 0 = .ok (.aload_n 0, 1) := by decide +kernel
theorem dL_off_1 : decode cL_off 1 = .ok (.iconst 0, 1) := by decide +kernel
theorem dL_off_2 : decode cL_off 2 = .ok (.iload_n 1, 1) := by decide +kernel
theorem dL_off_3 : decode cL_off 3 = .ok (.invokestatic 49, 3) := by decide +kernel
theorem dL_off_6 : decode cL_off 6 = .ok (.aload_n 0, 1) := by decide +kernel
theorem dL_off_7 : decode cL_off 7 = .ok (.iconst 0, 1) := by decide +kernel
theorem dL_off_8 : decode cL_off 8 = .ok (.iconst 3, 1) := by decide +kernel
theorem dL_off_9 : decode cL_off 9 = .ok (.invokevirtual 46, 3) := by decide +kernel
theorem dL_off_12 : decode cL_off 12 = .ok (.iadd, 1) := by decide +kernel
theorem dL_off_13 : decode cL_off 13 = .ok (.aload_n 0, 1) := by decide +kernel
theorem dL_off_14 : decode cL_off 14 = .ok (.iconst 1, 1) := by decide +kernel
theorem dL_off_15 : decode cL_off 15 = .ok (.iload_n 1, 1) := by decide +kernel
theorem dL_off_16 : decode cL_off 16 = .ok (.invokestatic 49, 3) := by decide +kernel
theorem dL_off_19 : decode cL_off 19 = .ok (.isub, 1) := by decide +kernel
theorem dL_off_20 : decode cL_off 20 = .ok (.aload_n 0, 1) := by decide +kernel
theorem dL_off_21 : decode cL_off 21 = .ok (.iconst 1, 1) := by decide +kernel
theorem dL_off_22 : decode cL_off 22 = .ok (.iconst 3, 1) := by decide +kernel
theorem dL_off_23 : decode cL_off 23 = .ok (.invokevirtual 46, 3) := by decide +kernel
theorem dL_off_26 : decode cL_off 26 = .ok (.isub, 1) := by decide +kernel
theorem dL_off_27 : decode cL_off 27 = .ok (.istore_n 2, 1) := by decide +kernel
theorem dL_off_28 : decode cL_off 28 = .ok (.iload_n 2, 1) := by decide +kernel
theorem dL_off_29 : decode cL_off 29 = .ok (.ifCond .ge 8, 3) := by decide +kernel
theorem dL_off_32 : decode cL_off 32 = .ok (.iload_n 2, 1) := by decide +kernel
theorem dL_off_33 : decode cL_off 33 = .ok (.ineg, 1) := by decide +kernel
theorem dL_off_34 : decode cL_off 34 = .ok (.goto 4, 3) := by decide +kernel
theorem dL_off_37 : decode cL_off 37 = .ok (.iload_n 2, 1) := by decide +kernel
theorem dL_off_38 : decode cL_off 38 = .ok (.ireturn, 1) := by decide +kernel
set_option maxRecDepth 20000 in
theorem ggL_isGate_X6_count : GoodIn wsL_isGate wsX6_count := goodIn_r _ [5, 6, 7, 8, 9, 10, 11, 12, 13, 14, 15, 16, 17, 18, 19, 20, 21, 22, 23, 24, 25, 26, 27, 28, 29, 30, 31, 32, 33, 34, 35, 36, 37, 38, 39, 40, 41, 42, 43, 44, 45, 46, 47, 48, 49, 50, 51, 52, 53, 54, 55, 56, 57, 58, 59, 60, 61, 62, 63, 64, 65, 66, 67, 68, 69, 70, 71, 72, 73, 74, 75, 76, 77, 78, 79, 80, 81, 82, 83, 84, 85, 86, 87, 88, 89, 90, 91, 92, 93, 94, 95, 96, 97, 98, 99, 100, 101, 199, 200, 201, 202, 203, 204, 205, 206, 207, 208, 209, 210, 211, 212, 213, 214, 215, 216, 217, 218, 219, 220, 221, 222, 223, 224, 225, 226, 227, 228, 229, 230, 231, 232, 233, 234, 235, 236] (by decide +kernel) (by decide +kernel)
set_option maxRecDepth 20000 in
theorem gL_isGate_X6_count : GoodIn wsL_isGate (wsV RL 53 RX6 yX6_count wsX6_count) := goodIn_app (goodIn_of _ (by decide +kernel)) ggL_isGate_X6_count
set_option maxRecDepth 20000 in
theorem ggL_isGate_X6_gateOf : GoodIn wsL_isGate wsX6_gateOf := goodIn_r _ [105, 6, 10, 106, 107, 108, 109, 7, 110, 111, 11, 13, 112, 113, 4, 114, 115, 116, 117, 118, 31, 32, 21, 33, 23, 119, 62, 63, 58, 64, 65, 66, 67, 68, 69, 70, 71, 72, 73, 74, 75, 76, 77, 78, 79, 80, 81, 82, 83, 84, 85, 86, 87, 88, 89, 90, 91, 47, 92, 93, 94, 95, 96, 97, 98, 99, 100, 101, 54, 199, 200, 201, 202, 203, 204, 205, 206, 207, 208, 209, 210, 211, 212, 213, 222, 223, 224, 225, 226, 227, 228, 229, 232, 233, 234, 235, 236] (by decide +kernel) (by decide +kernel)
set_option maxRecDepth 20000 in
theorem gL_isGate_X6_gateOf : GoodIn wsL_isGate (wsV RL 56 RX6 yX6_gateOf wsX6_gateOf) := goodIn_app (goodIn_of _ (by decide +kernel)) ggL_isGate_X6_gateOf
set_option maxRecDepth 20000 in
theorem ggL_isGate_L_off : GoodIn wsL_isGate wsL_off := goodIn_r _ [123, 124, 125, 122, 126, 127, 128, 129, 4, 130, 6, 131, 132, 133, 134, 135, 7, 8, 136, 137, 138, 139, 115, 116, 117, 118, 31, 32, 21, 33, 23, 140, 78, 79, 70, 80, 81, 82, 83, 84, 85, 86, 87, 88, 141, 73, 74, 75, 76, 77, 142, 143, 144, 27, 145, 29, 146, 30, 34, 35, 36, 37, 38, 24, 25, 26, 28, 39, 40, 41, 42, 43, 199, 200, 201, 202, 203, 204, 205, 206, 207, 208, 209, 210, 211, 212, 213, 233, 234, 235, 236, 214, 215, 216, 217, 218, 219, 220, 221, 232] (by decide +kernel) (by decide +kernel)
set_option maxRecDepth 20000 in
theorem gL_isGate_L_off : GoodIn wsL_isGate (va_wsS RL 59 yL_off wsL_off) := goodIn_app (goodIn_of _ (by decide +kernel)) ggL_isGate_L_off
set_option maxRecDepth 20000 in
theorem ggL_isGate_X6_word : GoodIn wsL_isGate wsX6_word := goodIn_r _ [150, 6, 8, 151, 152, 153, 154, 155, 156, 157, 4, 158, 9, 115, 116, 117, 159, 160, 161, 58, 162, 65, 163, 164, 165, 166, 47, 167, 53, 54, 31, 32, 21, 33, 23, 168, 169, 170, 27, 171, 29, 30, 34, 35, 36, 37, 38, 172, 173, 174, 175, 176, 118, 177, 40, 41, 42, 43, 178, 179, 180, 181, 146, 182, 199, 200, 201, 202, 203, 204, 205, 206, 207, 208, 209, 210, 211, 212, 213, 214, 215, 216, 217, 218, 219, 220, 221, 222, 223, 224, 225, 226, 227, 228, 229, 232] (by decide +kernel) (by decide +kernel)
set_option maxRecDepth 20000 in
theorem gL_isGate_X6_word : GoodIn wsL_isGate (wsV RL 63 RX6 yX6_word wsX6_word) := goodIn_app (goodIn_of _ (by decide +kernel)) ggL_isGate_X6_word
set_option maxRecDepth 20000 in
theorem ggL_isGate_X6_untilOpen : GoodIn wsL_isGate wsX6_untilOpen := goodIn_r _ [186, 6, 112, 113, 4, 114, 115, 116, 117, 187, 188, 189, 58, 190, 60, 61, 62, 63, 64, 65, 66, 67, 68, 69, 70, 71, 72, 73, 74, 75, 76, 77, 78, 79, 80, 81, 82, 83, 84, 85, 86, 87, 88, 31, 32, 21, 33, 23, 89, 90, 91, 47, 92, 93, 94, 95, 96, 97, 98, 99, 100, 101, 54, 199, 200, 201, 202, 203, 204, 205, 206, 207, 208, 209, 210, 211, 212, 213, 233, 234, 235, 236, 232, 222, 223, 224, 225, 226, 227, 228, 229] (by decide +kernel) (by decide +kernel)
set_option maxRecDepth 20000 in
theorem gL_isGate_X6_untilOpen : GoodIn wsL_isGate (wsV RL 66 RX6 yX6_untilOpen wsX6_untilOpen) := goodIn_app (goodIn_of _ (by decide +kernel)) ggL_isGate_X6_untilOpen
set_option maxRecDepth 20000 in
theorem ggL_isGate_X6_openFor : GoodIn wsL_isGate wsX6_openFor := goodIn_r _ [194, 6, 7, 112, 113, 4, 114, 115, 116, 117, 187, 188, 189, 58, 190, 60, 61, 62, 63, 64, 65, 66, 67, 68, 69, 70, 71, 72, 73, 74, 75, 76, 77, 78, 79, 80, 81, 82, 83, 84, 85, 86, 87, 88, 31, 32, 21, 33, 23, 89, 90, 91, 47, 92, 93, 94, 95, 96, 97, 98, 99, 100, 101, 54, 195, 196, 197, 198, 199, 200, 201, 202, 203, 204, 205, 206, 207, 208, 209, 210, 211, 212, 213, 233, 234, 235, 236, 232, 222, 223, 224, 225, 226, 227, 228, 229] (by decide +kernel) (by decide +kernel)
set_option maxRecDepth 20000 in
theorem gL_isGate_X6_openFor : GoodIn wsL_isGate (wsV RL 69 RX6 yX6_openFor wsX6_openFor) := goodIn_app (goodIn_of _ (by decide +kernel)) ggL_isGate_X6_openFor
theorem dL_isGate_0 : decode cL_isGate 0 = .ok (.aload_n 0, 1) := by decide +kernel
theorem dL_isGate_1 : decode cL_isGate 1 = .ok (.iconst 0, 1) := by decide +kernel
theorem dL_isGate_2 : decode cL_isGate 2 = .ok (.invokevirtual 53, 3) := by decide +kernel
theorem dL_isGate_5 : decode cL_isGate 5 = .ok (.istore_n 2, 1) := by decide +kernel
theorem dL_isGate_6 : decode cL_isGate 6 = .ok (.aload_n 0, 1) := by decide +kernel
theorem dL_isGate_7 : decode cL_isGate 7 = .ok (.iload_n 1, 1) := by decide +kernel
theorem dL_isGate_8 : decode cL_isGate 8 = .ok (.iconst 3, 1) := by decide +kernel
theorem dL_isGate_9 : decode cL_isGate 9 = .ok (.invokevirtual 56, 3) := by decide +kernel
theorem dL_isGate_12 : decode cL_isGate 12 = .ok (.iconst 1, 1) := by decide +kernel
theorem dL_isGate_13 : decode cL_isGate 13 = .ok (.if_icmp .ne 7, 3) := by decide +kernel
theorem dL_isGate_16 : decode cL_isGate 16 = .ok (.iconst 1, 1) := by decide +kernel
theorem dL_isGate_17 : decode cL_isGate 17 = .ok (.goto 4, 3) := by decide +kernel
theorem dL_isGate_20 : decode cL_isGate 20 = .ok (.iconst 0, 1) := by decide +kernel
theorem dL_isGate_21 : decode cL_isGate 21 = .ok (.istore_n 3, 1) := by decide +kernel
theorem dL_isGate_22 : decode cL_isGate 22 = .ok (.iload_n 3, 1) := by decide +kernel
theorem dL_isGate_23 : decode cL_isGate 23 = .ok (.ifCond .ne 21, 3) := by decide +kernel
theorem dL_isGate_26 : decode cL_isGate 26 = .ok (.aload_n 0, 1) := by decide +kernel
theorem dL_isGate_27 : decode cL_isGate 27 = .ok (.iload_n 2, 1) := by decide +kernel
theorem dL_isGate_28 : decode cL_isGate 28 = .ok (.invokestatic 59, 3) := by decide +kernel
theorem dL_isGate_31 : decode cL_isGate 31 = .ok (.aload_n 0, 1) := by decide +kernel
theorem dL_isGate_32 : decode cL_isGate 32 = .ok (.iload_n 1, 1) := by decide +kernel
theorem dL_isGate_33 : decode cL_isGate 33 = .ok (.iconst 1, 1) := by decide +kernel
theorem dL_isGate_34 : decode cL_isGate 34 = .ok (.invokevirtual 56, 3) := by decide +kernel
theorem dL_isGate_37 : decode cL_isGate 37 = .ok (.if_icmp .gt 7, 3) := by decide +kernel
theorem dL_isGate_40 : decode cL_isGate 40 = .ok (.iconst 1, 1) := by decide +kernel
theorem dL_isGate_41 : decode cL_isGate 41 = .ok (.goto 4, 3) := by decide +kernel
theorem dL_isGate_44 : decode cL_isGate 44 = .ok (.iconst 0, 1) := by decide +kernel
theorem dL_isGate_45 : decode cL_isGate 45 = .ok (.istore 4, 2) := by decide +kernel
theorem dL_isGate_47 : decode cL_isGate 47 = .ok (.aload_n 0, 1) := by decide +kernel
theorem dL_isGate_48 : decode cL_isGate 48 = .ok (.iload_n 1, 1) := by decide +kernel
theorem dL_isGate_49 : decode cL_isGate 49 = .ok (.iconst 5, 1) := by decide +kernel
theorem dL_isGate_50 : decode cL_isGate 50 = .ok (.invokevirtual 56, 3) := by decide +kernel
theorem dL_isGate_53 : decode cL_isGate 53 = .ok (.istore 5, 2) := by decide +kernel
theorem dL_isGate_55 : decode cL_isGate 55 = .ok (.aload_n 0, 1) := by decide +kernel
theorem dL_isGate_56 : decode cL_isGate 56 = .ok (.iload_n 1, 1) := by decide +kernel
theorem dL_isGate_57 : decode cL_isGate 57 = .ok (.iconst 4, 1) := by decide +kernel
theorem dL_isGate_58 : decode cL_isGate 58 = .ok (.invokevirtual 56, 3) := by decide +kernel
theorem dL_isGate_61 : decode cL_isGate 61 = .ok (.iconst 1, 1) := by decide +kernel
theorem dL_isGate_62 : decode cL_isGate 62 = .ok (.if_icmp .ne 7, 3) := by decide +kernel
theorem dL_isGate_65 : decode cL_isGate 65 = .ok (.iconst 1, 1) := by decide +kernel
theorem dL_isGate_66 : decode cL_isGate 66 = .ok (.goto 4, 3) := by decide +kernel
theorem dL_isGate_69 : decode cL_isGate 69 = .ok (.iconst 0, 1) := by decide +kernel
theorem dL_isGate_70 : decode cL_isGate 70 = .ok (.iload 4, 2) := by decide +kernel
theorem dL_isGate_72 : decode cL_isGate 72 = .ok (.if_icmp .ne 104, 3) := by decide +kernel
theorem dL_isGate_75 : decode cL_isGate 75 = .ok (.aload_n 0, 1) := by decide +kernel
theorem dL_isGate_76 : decode cL_isGate 76 = .ok (.bipush 7, 2) := by decide +kernel
theorem dL_isGate_78 : decode cL_isGate 78 = .ok (.invokevirtual 53, 3) := by decide +kernel
theorem dL_isGate_81 : decode cL_isGate 81 = .ok (.iload_n 1, 1) := by decide +kernel
theorem dL_isGate_82 : decode cL_isGate 82 = .ok (.ishr, 1) := by decide +kernel
theorem dL_isGate_83 : decode cL_isGate 83 = .ok (.iconst 1, 1) := by decide +kernel
theorem dL_isGate_84 : decode cL_isGate 84 = .ok (.iand, 1) := by decide +kernel
theorem dL_isGate_85 : decode cL_isGate 85 = .ok (.iload 4, 2) := by decide +kernel
theorem dL_isGate_87 : decode cL_isGate 87 = .ok (.ifCond .eq 7, 3) := by decide +kernel
theorem dL_isGate_90 : decode cL_isGate 90 = .ok (.iconst 1, 1) := by decide +kernel
theorem dL_isGate_91 : decode cL_isGate 91 = .ok (.goto 4, 3) := by decide +kernel
theorem dL_isGate_94 : decode cL_isGate 94 = .ok (.iconst 0, 1) := by decide +kernel
theorem dL_isGate_95 : decode cL_isGate 95 = .ok (.if_icmp .ne 81, 3) := by decide +kernel
theorem dL_isGate_98 : decode cL_isGate 98 = .ok (.iload 5, 2) := by decide +kernel
theorem dL_isGate_100 : decode cL_isGate 100 = .ok (.sipush (-1006), 3) := by decide +kernel
theorem dL_isGate_103 : decode cL_isGate 103 = .ok (.if_icmp .ne 16, 3) := by decide +kernel
theorem dL_isGate_106 : decode cL_isGate 106 = .ok (.aload_n 0, 1) := by decide +kernel
theorem dL_isGate_107 : decode cL_isGate 107 = .ok (.iload_n 1, 1) := by decide +kernel
theorem dL_isGate_108 : decode cL_isGate 108 = .ok (.bipush 6, 2) := by decide +kernel
theorem dL_isGate_110 : decode cL_isGate 110 = .ok (.invokevirtual 56, 3) := by decide +kernel
theorem dL_isGate_113 : decode cL_isGate 113 = .ok (.ifCond .ne 63, 3) := by decide +kernel
theorem dL_isGate_116 : decode cL_isGate 116 = .ok (.goto 56, 3) := by decide +kernel
theorem dL_isGate_119 : decode cL_isGate 119 = .ok (.aload_n 0, 1) := by decide +kernel
theorem dL_isGate_120 : decode cL_isGate 120 = .ok (.iload 5, 2) := by decide +kernel
theorem dL_isGate_122 : decode cL_isGate 122 = .ok (.iconst 0, 1) := by decide +kernel
theorem dL_isGate_123 : decode cL_isGate 123 = .ok (.invokevirtual 63, 3) := by decide +kernel
theorem dL_isGate_126 : decode cL_isGate 126 = .ok (.iconst 2, 1) := by decide +kernel
theorem dL_isGate_127 : decode cL_isGate 127 = .ok (.iload_n 1, 1) := by decide +kernel
theorem dL_isGate_128 : decode cL_isGate 128 = .ok (.iadd, 1) := by decide +kernel
theorem dL_isGate_129 : decode cL_isGate 129 = .ok (.if_icmp .ne 47, 3) := by decide +kernel
theorem dL_isGate_132 : decode cL_isGate 132 = .ok (.aload_n 0, 1) := by decide +kernel
theorem dL_isGate_133 : decode cL_isGate 133 = .ok (.iload 5, 2) := by decide +kernel
theorem dL_isGate_135 : decode cL_isGate 135 = .ok (.iconst 1, 1) := by decide +kernel
theorem dL_isGate_136 : decode cL_isGate 136 = .ok (.invokevirtual 63, 3) := by decide +kernel
theorem dL_isGate_139 : decode cL_isGate 139 = .ok (.sipush (-1006), 3) := by decide +kernel
theorem dL_isGate_142 : decode cL_isGate 142 = .ok (.if_icmp .ne 34, 3) := by decide +kernel
theorem dL_isGate_145 : decode cL_isGate 145 = .ok (.aload_n 0, 1) := by decide +kernel
theorem dL_isGate_146 : decode cL_isGate 146 = .ok (.iload_n 1, 1) := by decide +kernel
theorem dL_isGate_147 : decode cL_isGate 147 = .ok (.bipush 6, 2) := by decide +kernel
theorem dL_isGate_149 : decode cL_isGate 149 = .ok (.invokevirtual 56, 3) := by decide +kernel
theorem dL_isGate_152 : decode cL_isGate 152 = .ok (.aload_n 0, 1) := by decide +kernel
theorem dL_isGate_153 : decode cL_isGate 153 = .ok (.iload 5, 2) := by decide +kernel
theorem dL_isGate_155 : decode cL_isGate 155 = .ok (.iconst 2, 1) := by decide +kernel
theorem dL_isGate_156 : decode cL_isGate 156 = .ok (.invokevirtual 63, 3) := by decide +kernel
theorem dL_isGate_159 : decode cL_isGate 159 = .ok (.if_icmp .ge 17, 3) := by decide +kernel
theorem dL_isGate_162 : decode cL_isGate 162 = .ok (.aload_n 0, 1) := by decide +kernel
theorem dL_isGate_163 : decode cL_isGate 163 = .ok (.iload_n 1, 1) := by decide +kernel
theorem dL_isGate_164 : decode cL_isGate 164 = .ok (.bipush 6, 2) := by decide +kernel
theorem dL_isGate_166 : decode cL_isGate 166 = .ok (.invokevirtual 56, 3) := by decide +kernel
theorem dL_isGate_169 : decode cL_isGate 169 = .ok (.ifCond .le 7, 3) := by decide +kernel
theorem dL_isGate_172 : decode cL_isGate 172 = .ok (.iconst 1, 1) := by decide +kernel
theorem dL_isGate_173 : decode cL_isGate 173 = .ok (.goto 4, 3) := by decide +kernel
theorem dL_isGate_176 : decode cL_isGate 176 = .ok (.iconst 0, 1) := by decide +kernel
theorem dL_isGate_177 : decode cL_isGate 177 = .ok (.istore 6, 2) := by decide +kernel
theorem dL_isGate_179 : decode cL_isGate 179 = .ok (.aload_n 0, 1) := by decide +kernel
theorem dL_isGate_180 : decode cL_isGate 180 = .ok (.iload_n 1, 1) := by decide +kernel
theorem dL_isGate_181 : decode cL_isGate 181 = .ok (.invokevirtual 66, 3) := by decide +kernel
theorem dL_isGate_184 : decode cL_isGate 184 = .ok (.istore 7, 2) := by decide +kernel
theorem dL_isGate_186 : decode cL_isGate 186 = .ok (.sipush (-1006), 3) := by decide +kernel
theorem dL_isGate_189 : decode cL_isGate 189 = .ok (.istore 8, 2) := by decide +kernel
theorem dL_isGate_191 : decode cL_isGate 191 = .ok (.sipush 3599, 3) := by decide +kernel
theorem dL_isGate_194 : decode cL_isGate 194 = .ok (.istore 9, 2) := by decide +kernel
theorem dL_isGate_196 : decode cL_isGate 196 = .ok (.iload 9, 2) := by decide +kernel
theorem dL_isGate_198 : decode cL_isGate 198 = .ok (.ifCond .lt 39, 3) := by decide +kernel
theorem dL_isGate_201 : decode cL_isGate 201 = .ok (.iload_n 3, 1) := by decide +kernel
theorem dL_isGate_202 : decode cL_isGate 202 = .ok (.ifCond .ne 35, 3) := by decide +kernel
theorem dL_isGate_205 : decode cL_isGate 205 = .ok (.aload_n 0, 1) := by decide +kernel
theorem dL_isGate_206 : decode cL_isGate 206 = .ok (.iload_n 2, 1) := by decide +kernel
theorem dL_isGate_207 : decode cL_isGate 207 = .ok (.iload 9, 2) := by decide +kernel
theorem dL_isGate_209 : decode cL_isGate 209 = .ok (.iadd, 1) := by decide +kernel
theorem dL_isGate_210 : decode cL_isGate 210 = .ok (.invokestatic 59, 3) := by decide +kernel
theorem dL_isGate_213 : decode cL_isGate 213 = .ok (.aload_n 0, 1) := by decide +kernel
theorem dL_isGate_214 : decode cL_isGate 214 = .ok (.iload_n 1, 1) := by decide +kernel
theorem dL_isGate_215 : decode cL_isGate 215 = .ok (.iconst 1, 1) := by decide +kernel
theorem dL_isGate_216 : decode cL_isGate 216 = .ok (.invokevirtual 56, 3) := by decide +kernel
theorem dL_isGate_219 : decode cL_isGate 219 = .ok (.if_icmp .gt 8, 3) := by decide +kernel
theorem dL_isGate_222 : decode cL_isGate 222 = .ok (.iload 9, 2) := by decide +kernel
theorem dL_isGate_224 : decode cL_isGate 224 = .ok (.goto 5, 3) := by decide +kernel
theorem dL_isGate_227 : decode cL_isGate 227 = .ok (.iload 8, 2) := by decide +kernel
theorem dL_isGate_229 : decode cL_isGate 229 = .ok (.istore 8, 2) := by decide +kernel
theorem dL_isGate_231 : decode cL_isGate 231 = .ok (.iinc 9 (-1), 3) := by decide +kernel
theorem dL_isGate_234 : decode cL_isGate 234 = .ok (.goto (-38), 3) := by decide +kernel
theorem dL_isGate_237 : decode cL_isGate 237 = .ok (.iconst 0, 1) := by decide +kernel
theorem dL_isGate_238 : decode cL_isGate 238 = .ok (.istore 9, 2) := by decide +kernel
theorem dL_isGate_240 : decode cL_isGate 240 = .ok (.iload 8, 2) := by decide +kernel
theorem dL_isGate_242 : decode cL_isGate 242 = .ok (.sipush (-1006), 3) := by decide +kernel
theorem dL_isGate_245 : decode cL_isGate 245 = .ok (.if_icmp .eq 37, 3) := by decide +kernel
theorem dL_isGate_248 : decode cL_isGate 248 = .ok (.iload 9, 2) := by decide +kernel
theorem dL_isGate_250 : decode cL_isGate 250 = .ok (.sipush 4000, 3) := by decide +kernel
theorem dL_isGate_253 : decode cL_isGate 253 = .ok (.if_icmp .ge 29, 3) := by decide +kernel
theorem dL_isGate_256 : decode cL_isGate 256 = .ok (.aload_n 0, 1) := by decide +kernel
theorem dL_isGate_257 : decode cL_isGate 257 = .ok (.iload_n 2, 1) := by decide +kernel
theorem dL_isGate_258 : decode cL_isGate 258 = .ok (.iload 8, 2) := by decide +kernel
theorem dL_isGate_260 : decode cL_isGate 260 = .ok (.iadd, 1) := by decide +kernel
theorem dL_isGate_261 : decode cL_isGate 261 = .ok (.iload 9, 2) := by decide +kernel
theorem dL_isGate_263 : decode cL_isGate 263 = .ok (.iadd, 1) := by decide +kernel
theorem dL_isGate_264 : decode cL_isGate 264 = .ok (.invokestatic 59, 3) := by decide +kernel
theorem dL_isGate_267 : decode cL_isGate 267 = .ok (.aload_n 0, 1) := by decide +kernel
theorem dL_isGate_268 : decode cL_isGate 268 = .ok (.iload_n 1, 1) := by decide +kernel
theorem dL_isGate_269 : decode cL_isGate 269 = .ok (.iconst 1, 1) := by decide +kernel
theorem dL_isGate_270 : decode cL_isGate 270 = .ok (.invokevirtual 56, 3) := by decide +kernel
theorem dL_isGate_273 : decode cL_isGate 273 = .ok (.if_icmp .gt 9, 3) := by decide +kernel
theorem dL_isGate_276 : decode cL_isGate 276 = .ok (.iinc 9 1, 3) := by decide +kernel
theorem dL_isGate_279 : decode cL_isGate 279 = .ok (.goto (-39), 3) := by decide +kernel
theorem dL_isGate_282 : decode cL_isGate 282 = .ok (.iload 6, 2) := by decide +kernel
theorem dL_isGate_284 : decode cL_isGate 284 = .ok (.ifCond .eq 38, 3) := by decide +kernel
theorem dL_isGate_287 : decode cL_isGate 287 = .ok (.iload 7, 2) := by decide +kernel
theorem dL_isGate_289 : decode cL_isGate 289 = .ok (.iload 8, 2) := by decide +kernel
theorem dL_isGate_291 : decode cL_isGate 291 = .ok (.if_icmp .ne 31, 3) := by decide +kernel
theorem dL_isGate_294 : decode cL_isGate 294 = .ok (.aload_n 0, 1) := by decide +kernel
theorem dL_isGate_295 : decode cL_isGate 295 = .ok (.iload_n 1, 1) := by decide +kernel
theorem dL_isGate_296 : decode cL_isGate 296 = .ok (.invokevirtual 69, 3) := by decide +kernel
theorem dL_isGate_299 : decode cL_isGate 299 = .ok (.iload 8, 2) := by decide +kernel
theorem dL_isGate_301 : decode cL_isGate 301 = .ok (.sipush (-1006), 3) := by decide +kernel
theorem dL_isGate_304 : decode cL_isGate 304 = .ok (.if_icmp .ne 9, 3) := by decide +kernel
theorem dL_isGate_307 : decode cL_isGate 307 = .ok (.sipush (-1006), 3) := by decide +kernel
theorem dL_isGate_310 : decode cL_isGate 310 = .ok (.goto 5, 3) := by decide +kernel
theorem dL_isGate_313 : decode cL_isGate 313 = .ok (.iload 9, 2) := by decide +kernel
theorem dL_isGate_315 : decode cL_isGate 315 = .ok (.if_icmp .ne 7, 3) := by decide +kernel
theorem dL_isGate_318 : decode cL_isGate 318 = .ok (.iconst 1, 1) := by decide +kernel
theorem dL_isGate_319 : decode cL_isGate 319 = .ok (.goto 4, 3) := by decide +kernel
theorem dL_isGate_322 : decode cL_isGate 322 = .ok (.iconst 0, 1) := by decide +kernel
theorem dL_isGate_323 : decode cL_isGate 323 = .ok (.ireturn, 1) := by decide +kernel
set_option maxRecDepth 20000 in
theorem ggL_isWord_X6_word : GoodIn wsL_isWord wsX6_word := goodIn_r _ [5, 6, 7, 8, 9, 10, 11, 12, 13, 14, 4, 15, 16, 17, 18, 19, 20, 21, 22, 23, 24, 25, 26, 27, 28, 29, 30, 31, 32, 33, 34, 35, 36, 37, 38, 39, 40, 41, 42, 43, 44, 45, 46, 47, 48, 49, 50, 51, 52, 53, 54, 55, 56, 57, 58, 59, 60, 61, 62, 63, 64, 65, 66, 67, 272, 273, 274, 275, 276, 277, 278, 279, 280, 281, 282, 283, 284, 285, 286, 287, 288, 289, 290, 291, 292, 293, 294, 295, 296, 297, 298, 299, 300, 301, 302, 303] (by decide +kernel) (by decide +kernel)
set_option maxRecDepth 20000 in
theorem gL_isWord_X6_word : GoodIn wsL_isWord (wsV RL 63 RX6 yX6_word wsX6_word) := goodIn_app (goodIn_of _ (by decide +kernel)) ggL_isWord_X6_word
set_option maxRecDepth 20000 in
theorem ggL_isWord_X6_at : GoodIn wsL_isWord wsX6_at := goodIn_r _ [71, 6, 7, 72, 73, 74, 4, 75, 17, 18, 19, 56, 34, 35, 36, 37, 38, 76, 47, 48, 42, 49, 50, 45, 272, 273, 274, 275, 276, 277, 278, 279, 280, 281, 282, 283, 284, 285, 286, 287, 288, 289, 290, 291, 292, 293, 294, 303] (by decide +kernel) (by decide +kernel)
set_option maxRecDepth 20000 in
theorem gL_isWord_X6_at : GoodIn wsL_isWord (wsV RL 72 RX6 yX6_at wsX6_at) := goodIn_app (goodIn_of _ (by decide +kernel)) ggL_isWord_X6_at
set_option maxRecDepth 20000 in
theorem ggL_isWord_X6_gateOf : GoodIn wsL_isWord wsX6_gateOf := goodIn_r _ [80, 6, 81, 82, 83, 84, 85, 86, 87, 88, 89, 90, 91, 92, 4, 93, 17, 18, 19, 56, 34, 35, 36, 37, 38, 94, 95, 96, 23, 97, 25, 98, 99, 100, 101, 102, 103, 104, 105, 106, 107, 108, 109, 110, 111, 112, 113, 114, 115, 116, 117, 118, 119, 120, 121, 122, 123, 30, 124, 125, 126, 127, 128, 129, 130, 131, 132, 133, 33, 272, 273, 274, 275, 276, 277, 278, 279, 280, 281, 282, 283, 284, 285, 286, 295, 296, 297, 298, 299, 300, 301, 302, 303, 304, 305, 306, 307] (by decide +kernel) (by decide +kernel)
set_option maxRecDepth 20000 in
theorem gL_isWord_X6_gateOf : GoodIn wsL_isWord (wsV RL 56 RX6 yX6_gateOf wsX6_gateOf) := goodIn_app (goodIn_of _ (by decide +kernel)) ggL_isWord_X6_gateOf
set_option maxRecDepth 20000 in
theorem ggL_isWord_X6_count : GoodIn wsL_isWord wsX6_count := goodIn_r _ [137, 6, 86, 7, 16, 81, 89, 138, 90, 139, 140, 141, 142, 143, 144, 145, 36, 146, 38, 147, 148, 149, 42, 150, 44, 45, 34, 35, 37, 46, 47, 48, 49, 50, 151, 58, 59, 60, 61, 152, 153, 154, 30, 155, 156, 157, 158, 159, 32, 33, 160, 161, 162, 23, 163, 164, 165, 95, 96, 97, 25, 98, 99, 100, 101, 102, 103, 104, 105, 106, 107, 108, 109, 110, 111, 112, 113, 114, 115, 116, 117, 118, 119, 120, 121, 122, 123, 124, 125, 126, 127, 128, 129, 130, 131, 132, 133, 272, 273, 274, 275, 276, 277, 278, 279, 280, 281, 282, 283, 284, 285, 286, 287, 288, 289, 290, 291, 292, 293, 294, 295, 296, 297, 298, 299, 300, 301, 302, 308, 309, 303, 304, 305, 306, 307] (by decide +kernel) (by decide +kernel)
set_option maxRecDepth 20000 in
theorem gL_isWord_X6_count : GoodIn wsL_isWord (wsV RL 53 RX6 yX6_count wsX6_count) := goodIn_app (goodIn_of _ (by decide +kernel)) ggL_isWord_X6_count
set_option maxRecDepth 20000 in
theorem ggL_isWord_X6_untilPassed : GoodIn wsL_isWord wsX6_untilPassed := goodIn_r _ [169, 170, 6, 7, 12, 13, 14, 4, 15, 16, 17, 18, 19, 171, 172, 173, 23, 174, 98, 25, 26, 164, 175, 176, 177, 178, 179, 102, 180, 114, 115, 113, 108, 181, 182, 183, 36, 184, 38, 185, 117, 118, 119, 186, 187, 188, 189, 190, 191, 192, 30, 193, 194, 128, 195, 133, 32, 196, 197, 198, 199, 200, 201, 202, 42, 203, 66, 67, 61, 204, 205, 50, 44, 206, 207, 57, 58, 59, 60, 45, 34, 35, 37, 208, 209, 210, 211, 99, 100, 101, 103, 104, 105, 106, 107, 109, 110, 111, 112, 116, 120, 212, 213, 214, 215, 121, 122, 123, 124, 125, 126, 127, 129, 130, 131, 132, 33, 216, 217, 218, 219, 220, 221, 222, 157, 158, 159, 223, 224, 225, 226, 227, 46, 47, 48, 49, 151, 228, 229, 230, 231, 232, 233, 234, 235, 236, 237, 238, 239, 240, 241, 242, 243, 244, 245, 246, 247, 248, 249, 250, 251, 252, 253, 254, 255, 256, 257, 258, 259, 260, 261, 262, 263, 264, 265, 266, 267, 268, 269, 270, 271, 272, 273, 274, 275, 276, 277, 278, 279, 280, 281, 282, 283, 284, 285, 286, 287, 288, 289, 290, 291, 292, 293, 294, 304, 305, 306, 307, 303, 295, 296, 297, 298, 299, 300, 301, 302] (by decide +kernel) (by decide +kernel)
set_option maxRecDepth 20000 in
theorem gL_isWord_X6_untilPassed : GoodIn wsL_isWord (wsV RL 75 RX6 yX6_untilPassed wsX6_untilPassed) := goodIn_app (goodIn_of _ (by decide +kernel)) ggL_isWord_X6_untilPassed
theorem dL_isWord_0 : decode cL_isWord 0 = .ok (.aload_n 0, 1) := by decide +kernel
theorem dL_isWord_1 : decode cL_isWord 1 = .ok (.iload_n 1, 1) := by decide +kernel
theorem dL_isWord_2 : decode cL_isWord 2 = .ok (.iconst 0, 1) := by decide +kernel
theorem dL_isWord_3 : decode cL_isWord 3 = .ok (.invokevirtual 63, 3) := by decide +kernel
theorem dL_isWord_6 : decode cL_isWord 6 = .ok (.istore_n 2, 1) := by decide +kernel
theorem dL_isWord_7 : decode cL_isWord 7 = .ok (.aload_n 0, 1) := by decide +kernel
theorem dL_isWord_8 : decode cL_isWord 8 = .ok (.iload_n 1, 1) := by decide +kernel
theorem dL_isWord_9 : decode cL_isWord 9 = .ok (.iconst 1, 1) := by decide +kernel
theorem dL_isWord_10 : decode cL_isWord 10 = .ok (.invokevirtual 63, 3) := by decide +kernel
theorem dL_isWord_13 : decode cL_isWord 13 = .ok (.istore_n 3, 1) := by decide +kernel
theorem dL_isWord_14 : decode cL_isWord 14 = .ok (.aload_n 0, 1) := by decide +kernel
theorem dL_isWord_15 : decode cL_isWord 15 = .ok (.iload_n 1, 1) := by decide +kernel
theorem dL_isWord_16 : decode cL_isWord 16 = .ok (.iconst 2, 1) := by decide +kernel
theorem dL_isWord_17 : decode cL_isWord 17 = .ok (.invokevirtual 63, 3) := by decide +kernel
theorem dL_isWord_20 : decode cL_isWord 20 = .ok (.istore 4, 2) := by decide +kernel
theorem dL_isWord_22 : decode cL_isWord 22 = .ok (.aload_n 0, 1) := by decide +kernel
theorem dL_isWord_23 : decode cL_isWord 23 = .ok (.iload_n 1, 1) := by decide +kernel
theorem dL_isWord_24 : decode cL_isWord 24 = .ok (.iconst 3, 1) := by decide +kernel
theorem dL_isWord_25 : decode cL_isWord 25 = .ok (.invokevirtual 63, 3) := by decide +kernel
theorem dL_isWord_28 : decode cL_isWord 28 = .ok (.iconst 1, 1) := by decide +kernel
theorem dL_isWord_29 : decode cL_isWord 29 = .ok (.if_icmp .ne 7, 3) := by decide +kernel
theorem dL_isWord_32 : decode cL_isWord 32 = .ok (.iconst 1, 1) := by decide +kernel
theorem dL_isWord_33 : decode cL_isWord 33 = .ok (.goto 4, 3) := by decide +kernel
theorem dL_isWord_36 : decode cL_isWord 36 = .ok (.iconst 0, 1) := by decide +kernel
theorem dL_isWord_37 : decode cL_isWord 37 = .ok (.istore 5, 2) := by decide +kernel
theorem dL_isWord_39 : decode cL_isWord 39 = .ok (.iload 4, 2) := by decide +kernel
theorem dL_isWord_41 : decode cL_isWord 41 = .ok (.iconst 1, 1) := by decide +kernel
theorem dL_isWord_42 : decode cL_isWord 42 = .ok (.if_icmp .lt 109, 3) := by decide +kernel
theorem dL_isWord_45 : decode cL_isWord 45 = .ok (.iload 4, 2) := by decide +kernel
theorem dL_isWord_47 : decode cL_isWord 47 = .ok (.bipush 6, 2) := by decide +kernel
theorem dL_isWord_49 : decode cL_isWord 49 = .ok (.if_icmp .gt 102, 3) := by decide +kernel
theorem dL_isWord_52 : decode cL_isWord 52 = .ok (.iload_n 2, 1) := by decide +kernel
theorem dL_isWord_53 : decode cL_isWord 53 = .ok (.iconst 2, 1) := by decide +kernel
theorem dL_isWord_54 : decode cL_isWord 54 = .ok (.if_icmp .ge 16, 3) := by decide +kernel
theorem dL_isWord_57 : decode cL_isWord 57 = .ok (.aload_n 0, 1) := by decide +kernel
theorem dL_isWord_58 : decode cL_isWord 58 = .ok (.iload_n 2, 1) := by decide +kernel
theorem dL_isWord_59 : decode cL_isWord 59 = .ok (.iload_n 3, 1) := by decide +kernel
theorem dL_isWord_60 : decode cL_isWord 60 = .ok (.invokevirtual 72, 3) := by decide +kernel
theorem dL_isWord_63 : decode cL_isWord 63 = .ok (.iload_n 1, 1) := by decide +kernel
theorem dL_isWord_64 : decode cL_isWord 64 = .ok (.if_icmp .ne 87, 3) := by decide +kernel
theorem dL_isWord_67 : decode cL_isWord 67 = .ok (.goto 20, 3) := by decide +kernel
theorem dL_isWord_70 : decode cL_isWord 70 = .ok (.aload_n 0, 1) := by decide +kernel
theorem dL_isWord_71 : decode cL_isWord 71 = .ok (.iload_n 2, 1) := by decide +kernel
theorem dL_isWord_72 : decode cL_isWord 72 = .ok (.iconst 2, 1) := by decide +kernel
theorem dL_isWord_73 : decode cL_isWord 73 = .ok (.isub, 1) := by decide +kernel
theorem dL_isWord_74 : decode cL_isWord 74 = .ok (.iconst 5, 1) := by decide +kernel
theorem dL_isWord_75 : decode cL_isWord 75 = .ok (.invokevirtual 56, 3) := by decide +kernel
theorem dL_isWord_78 : decode cL_isWord 78 = .ok (.iload_n 1, 1) := by decide +kernel
theorem dL_isWord_79 : decode cL_isWord 79 = .ok (.if_icmp .ne 72, 3) := by decide +kernel
theorem dL_isWord_82 : decode cL_isWord 82 = .ok (.iload 5, 2) := by decide +kernel
theorem dL_isWord_84 : decode cL_isWord 84 = .ok (.ifCond .ne 67, 3) := by decide +kernel
theorem dL_isWord_87 : decode cL_isWord 87 = .ok (.iload 5, 2) := by decide +kernel
theorem dL_isWord_89 : decode cL_isWord 89 = .ok (.aload_n 0, 1) := by decide +kernel
theorem dL_isWord_90 : decode cL_isWord 90 = .ok (.iload_n 1, 1) := by decide +kernel
theorem dL_isWord_91 : decode cL_isWord 91 = .ok (.iconst 4, 1) := by decide +kernel
theorem dL_isWord_92 : decode cL_isWord 92 = .ok (.invokevirtual 63, 3) := by decide +kernel
theorem dL_isWord_95 : decode cL_isWord 95 = .ok (.sipush (-1006), 3) := by decide +kernel
theorem dL_isWord_98 : decode cL_isWord 98 = .ok (.if_icmp .eq 7, 3) := by decide +kernel
theorem dL_isWord_101 : decode cL_isWord 101 = .ok (.iconst 1, 1) := by decide +kernel
theorem dL_isWord_102 : decode cL_isWord 102 = .ok (.goto 4, 3) := by decide +kernel
theorem dL_isWord_105 : decode cL_isWord 105 = .ok (.iconst 0, 1) := by decide +kernel
theorem dL_isWord_106 : decode cL_isWord 106 = .ok (.if_icmp .ne 45, 3) := by decide +kernel
theorem dL_isWord_109 : decode cL_isWord 109 = .ok (.iload 5, 2) := by decide +kernel
theorem dL_isWord_111 : decode cL_isWord 111 = .ok (.aload_n 0, 1) := by decide +kernel
theorem dL_isWord_112 : decode cL_isWord 112 = .ok (.iload_n 1, 1) := by decide +kernel
theorem dL_isWord_113 : decode cL_isWord 113 = .ok (.iconst 5, 1) := by decide +kernel
theorem dL_isWord_114 : decode cL_isWord 114 = .ok (.invokevirtual 63, 3) := by decide +kernel
theorem dL_isWord_117 : decode cL_isWord 117 = .ok (.sipush (-1006), 3) := by decide +kernel
theorem dL_isWord_120 : decode cL_isWord 120 = .ok (.if_icmp .eq 7, 3) := by decide +kernel
theorem dL_isWord_123 : decode cL_isWord 123 = .ok (.iconst 1, 1) := by decide +kernel
theorem dL_isWord_124 : decode cL_isWord 124 = .ok (.goto 4, 3) := by decide +kernel
theorem dL_isWord_127 : decode cL_isWord 127 = .ok (.iconst 0, 1) := by decide +kernel
theorem dL_isWord_128 : decode cL_isWord 128 = .ok (.if_icmp .ne 23, 3) := by decide +kernel
theorem dL_isWord_131 : decode cL_isWord 131 = .ok (.aload_n 0, 1) := by decide +kernel
theorem dL_isWord_132 : decode cL_isWord 132 = .ok (.iload_n 1, 1) := by decide +kernel
theorem dL_isWord_133 : decode cL_isWord 133 = .ok (.bipush 7, 2) := by decide +kernel
theorem dL_isWord_135 : decode cL_isWord 135 = .ok (.iload 4, 2) := by decide +kernel
theorem dL_isWord_137 : decode cL_isWord 137 = .ok (.iadd, 1) := by decide +kernel
theorem dL_isWord_138 : decode cL_isWord 138 = .ok (.invokevirtual 63, 3) := by decide +kernel
theorem dL_isWord_141 : decode cL_isWord 141 = .ok (.sipush (-1006), 3) := by decide +kernel
theorem dL_isWord_144 : decode cL_isWord 144 = .ok (.if_icmp .ne 7, 3) := by decide +kernel
theorem dL_isWord_147 : decode cL_isWord 147 = .ok (.iconst 1, 1) := by decide +kernel
theorem dL_isWord_148 : decode cL_isWord 148 = .ok (.goto 4, 3) := by decide +kernel
theorem dL_isWord_151 : decode cL_isWord 151 = .ok (.iconst 0, 1) := by decide +kernel
theorem dL_isWord_152 : decode cL_isWord 152 = .ok (.istore 6, 2) := by decide +kernel
theorem dL_isWord_154 : decode cL_isWord 154 = .ok (.iconst 0, 1) := by decide +kernel
theorem dL_isWord_155 : decode cL_isWord 155 = .ok (.istore 7, 2) := by decide +kernel
theorem dL_isWord_157 : decode cL_isWord 157 = .ok (.iload 7, 2) := by decide +kernel
theorem dL_isWord_159 : decode cL_isWord 159 = .ok (.iload 4, 2) := by decide +kernel
theorem dL_isWord_161 : decode cL_isWord 161 = .ok (.if_icmp .ge 51, 3) := by decide +kernel
theorem dL_isWord_164 : decode cL_isWord 164 = .ok (.iload 6, 2) := by decide +kernel
theorem dL_isWord_166 : decode cL_isWord 166 = .ok (.ifCond .eq 46, 3) := by decide +kernel
theorem dL_isWord_169 : decode cL_isWord 169 = .ok (.aload_n 0, 1) := by decide +kernel
theorem dL_isWord_170 : decode cL_isWord 170 = .ok (.iload_n 1, 1) := by decide +kernel
theorem dL_isWord_171 : decode cL_isWord 171 = .ok (.bipush 7, 2) := by decide +kernel
theorem dL_isWord_173 : decode cL_isWord 173 = .ok (.iload 7, 2) := by decide +kernel
theorem dL_isWord_175 : decode cL_isWord 175 = .ok (.iadd, 1) := by decide +kernel
theorem dL_isWord_176 : decode cL_isWord 176 = .ok (.invokevirtual 63, 3) := by decide +kernel
theorem dL_isWord_179 : decode cL_isWord 179 = .ok (.bipush 97, 2) := by decide +kernel
theorem dL_isWord_181 : decode cL_isWord 181 = .ok (.if_icmp .lt 22, 3) := by decide +kernel
theorem dL_isWord_184 : decode cL_isWord 184 = .ok (.aload_n 0, 1) := by decide +kernel
theorem dL_isWord_185 : decode cL_isWord 185 = .ok (.iload_n 1, 1) := by decide +kernel
theorem dL_isWord_186 : decode cL_isWord 186 = .ok (.bipush 7, 2) := by decide +kernel
theorem dL_isWord_188 : decode cL_isWord 188 = .ok (.iload 7, 2) := by decide +kernel
theorem dL_isWord_190 : decode cL_isWord 190 = .ok (.iadd, 1) := by decide +kernel
theorem dL_isWord_191 : decode cL_isWord 191 = .ok (.invokevirtual 63, 3) := by decide +kernel
theorem dL_isWord_194 : decode cL_isWord 194 = .ok (.bipush 122, 2) := by decide +kernel
theorem dL_isWord_196 : decode cL_isWord 196 = .ok (.if_icmp .gt 7, 3) := by decide +kernel
theorem dL_isWord_199 : decode cL_isWord 199 = .ok (.iconst 1, 1) := by decide +kernel
theorem dL_isWord_200 : decode cL_isWord 200 = .ok (.goto 4, 3) := by decide +kernel
theorem dL_isWord_203 : decode cL_isWord 203 = .ok (.iconst 0, 1) := by decide +kernel
theorem dL_isWord_204 : decode cL_isWord 204 = .ok (.istore 6, 2) := by decide +kernel
theorem dL_isWord_206 : decode cL_isWord 206 = .ok (.iinc 7 1, 3) := by decide +kernel
theorem dL_isWord_209 : decode cL_isWord 209 = .ok (.goto (-52), 3) := by decide +kernel
theorem dL_isWord_212 : decode cL_isWord 212 = .ok (.iload 6, 2) := by decide +kernel
theorem dL_isWord_214 : decode cL_isWord 214 = .ok (.ifCond .eq 74, 3) := by decide +kernel
theorem dL_isWord_217 : decode cL_isWord 217 = .ok (.iload 5, 2) := by decide +kernel
theorem dL_isWord_219 : decode cL_isWord 219 = .ok (.ifCond .eq 25, 3) := by decide +kernel
theorem dL_isWord_222 : decode cL_isWord 222 = .ok (.iload_n 2, 1) := by decide +kernel
theorem dL_isWord_223 : decode cL_isWord 223 = .ok (.iconst 1, 1) := by decide +kernel
theorem dL_isWord_224 : decode cL_isWord 224 = .ok (.aload_n 0, 1) := by decide +kernel
theorem dL_isWord_225 : decode cL_isWord 225 = .ok (.aload_n 0, 1) := by decide +kernel
theorem dL_isWord_226 : decode cL_isWord 226 = .ok (.iload_n 1, 1) := by decide +kernel
theorem dL_isWord_227 : decode cL_isWord 227 = .ok (.iconst 5, 1) := by decide +kernel
theorem dL_isWord_228 : decode cL_isWord 228 = .ok (.invokevirtual 63, 3) := by decide +kernel
theorem dL_isWord_231 : decode cL_isWord 231 = .ok (.iconst 0, 1) := by decide +kernel
theorem dL_isWord_232 : decode cL_isWord 232 = .ok (.invokevirtual 56, 3) := by decide +kernel
theorem dL_isWord_235 : decode cL_isWord 235 = .ok (.isub, 1) := by decide +kernel
theorem dL_isWord_236 : decode cL_isWord 236 = .ok (.if_icmp .eq 8, 3) := by decide +kernel
theorem dL_isWord_239 : decode cL_isWord 239 = .ok (.iload_n 2, 1) := by decide +kernel
theorem dL_isWord_240 : decode cL_isWord 240 = .ok (.iconst 2, 1) := by decide +kernel
theorem dL_isWord_241 : decode cL_isWord 241 = .ok (.if_icmp .ge 47, 3) := by decide +kernel
theorem dL_isWord_244 : decode cL_isWord 244 = .ok (.iload 5, 2) := by decide +kernel
theorem dL_isWord_246 : decode cL_isWord 246 = .ok (.ifCond .eq 25, 3) := by decide +kernel
theorem dL_isWord_249 : decode cL_isWord 249 = .ok (.aload_n 0, 1) := by decide +kernel
theorem dL_isWord_250 : decode cL_isWord 250 = .ok (.iload_n 1, 1) := by decide +kernel
theorem dL_isWord_251 : decode cL_isWord 251 = .ok (.iconst 4, 1) := by decide +kernel
theorem dL_isWord_252 : decode cL_isWord 252 = .ok (.invokevirtual 63, 3) := by decide +kernel
theorem dL_isWord_255 : decode cL_isWord 255 = .ok (.aload_n 0, 1) := by decide +kernel
theorem dL_isWord_256 : decode cL_isWord 256 = .ok (.iconst 0, 1) := by decide +kernel
theorem dL_isWord_257 : decode cL_isWord 257 = .ok (.invokevirtual 53, 3) := by decide +kernel
theorem dL_isWord_260 : decode cL_isWord 260 = .ok (.if_icmp .ge 28, 3) := by decide +kernel
theorem dL_isWord_263 : decode cL_isWord 263 = .ok (.aload_n 0, 1) := by decide +kernel
theorem dL_isWord_264 : decode cL_isWord 264 = .ok (.iload_n 1, 1) := by decide +kernel
theorem dL_isWord_265 : decode cL_isWord 265 = .ok (.invokevirtual 75, 3) := by decide +kernel
theorem dL_isWord_268 : decode cL_isWord 268 = .ok (.ifCond .ne 20, 3) := by decide +kernel
theorem dL_isWord_271 : decode cL_isWord 271 = .ok (.iload 5, 2) := by decide +kernel
theorem dL_isWord_273 : decode cL_isWord 273 = .ok (.ifCond .ne 11, 3) := by decide +kernel
theorem dL_isWord_276 : decode cL_isWord 276 = .ok (.aload_n 0, 1) := by decide +kernel
theorem dL_isWord_277 : decode cL_isWord 277 = .ok (.iload_n 1, 1) := by decide +kernel
theorem dL_isWord_278 : decode cL_isWord 278 = .ok (.invokevirtual 75, 3) := by decide +kernel
theorem dL_isWord_281 : decode cL_isWord 281 = .ok (.ifCond .eq 7, 3) := by decide +kernel
theorem dL_isWord_284 : decode cL_isWord 284 = .ok (.iconst 1, 1) := by decide +kernel
theorem dL_isWord_285 : decode cL_isWord 285 = .ok (.goto 4, 3) := by decide +kernel
theorem dL_isWord_288 : decode cL_isWord 288 = .ok (.iconst 0, 1) := by decide +kernel
theorem dL_isWord_289 : decode cL_isWord 289 = .ok (.ireturn, 1) := by decide +kernel
set_option maxRecDepth 20000 in
theorem ggL_holds_X6_count : GoodIn wsL_holds wsX6_count := goodIn_r _ [5, 6, 7, 8, 9, 10, 11, 12, 13, 14, 15, 16, 17, 18, 19, 20, 21, 22, 23, 24, 25, 26, 27, 28, 29, 30, 31, 32, 33, 34, 35, 36, 37, 38, 39, 40, 41, 42, 43, 44, 45, 46, 47, 48, 49, 50, 51, 52, 53, 54, 55, 56, 57, 58, 59, 60, 61, 62, 63, 64, 65, 66, 67, 68, 69, 70, 71, 72, 73, 74, 75, 76, 77, 78, 79, 80, 81, 82, 83, 84, 85, 86, 87, 88, 89, 90, 91, 92, 93, 94, 95, 96, 97, 98, 99, 100, 101, 316, 317, 318, 319, 320, 321, 322, 323, 324, 325, 326, 327, 328, 329, 330, 331, 332, 333, 334, 335, 336, 337, 338, 339, 340, 341, 342, 343, 344, 345, 346, 347, 348, 349, 350, 351, 352, 353] (by decide +kernel) (by decide +kernel)
set_option maxRecDepth 20000 in
theorem gL_holds_X6_count : GoodIn wsL_holds (wsV RL 53 RX6 yX6_count wsX6_count) := goodIn_app (goodIn_of _ (by decide +kernel)) ggL_holds_X6_count
set_option maxRecDepth 20000 in
theorem ggL_holds_X6_word : GoodIn wsL_holds wsX6_word := goodIn_r _ [105, 6, 8, 106, 107, 108, 109, 110, 111, 112, 4, 113, 9, 114, 115, 116, 117, 118, 119, 58, 120, 65, 121, 122, 123, 124, 47, 125, 53, 54, 31, 32, 21, 33, 23, 126, 127, 128, 27, 129, 29, 30, 34, 35, 36, 37, 38, 130, 131, 132, 133, 134, 135, 136, 40, 41, 42, 43, 137, 138, 139, 140, 141, 142, 316, 317, 318, 319, 320, 321, 322, 323, 324, 325, 326, 327, 328, 329, 330, 331, 332, 333, 334, 335, 336, 337, 338, 339, 340, 341, 342, 343, 344, 345, 346, 349] (by decide +kernel) (by decide +kernel)
set_option maxRecDepth 20000 in
theorem gL_holds_X6_word : GoodIn wsL_holds (wsV RL 63 RX6 yX6_word wsX6_word) := goodIn_app (goodIn_of _ (by decide +kernel)) ggL_holds_X6_word
set_option maxRecDepth 20000 in
theorem ggL_holds_L_isWord : GoodIn wsL_holds wsL_isWord := goodIn_r _ [146, 102, 103, 104, 4, 105, 6, 8, 106, 107, 108, 109, 110, 111, 112, 113, 9, 114, 115, 116, 117, 118, 119, 58, 120, 65, 121, 122, 123, 124, 47, 125, 53, 54, 31, 32, 21, 33, 23, 126, 127, 128, 27, 129, 29, 30, 34, 35, 36, 37, 38, 130, 131, 132, 133, 134, 135, 136, 40, 41, 42, 43, 137, 138, 139, 140, 141, 142, 147, 148, 149, 150, 151, 152, 153, 154, 155, 156, 157, 158, 159, 10, 160, 161, 162, 163, 7, 164, 165, 11, 13, 166, 167, 168, 169, 62, 63, 64, 66, 67, 68, 69, 70, 71, 72, 73, 74, 75, 76, 77, 78, 79, 80, 81, 82, 83, 84, 85, 86, 87, 88, 89, 90, 91, 92, 93, 94, 95, 96, 97, 98, 99, 100, 101, 1, 2, 3, 5, 12, 14, 15, 16, 17, 18, 19, 20, 22, 24, 25, 26, 28, 39, 44, 45, 46, 48, 49, 50, 51, 52, 55, 56, 57, 59, 60, 61, 170, 171, 172, 173, 174, 175, 176, 177, 178, 179, 180, 181, 182, 183, 184, 185, 186, 187, 188, 189, 190, 191, 192, 193, 194, 195, 196, 197, 198, 199, 200, 201, 202, 203, 204, 205, 206, 207, 208, 209, 210, 211, 212, 213, 214, 215, 216, 217, 218, 219, 220, 221, 222, 223, 224, 225, 226, 227, 228, 229, 230, 231, 232, 233, 234, 235, 236, 237, 238, 239, 240, 241, 242, 243, 244, 245, 246, 247, 248, 249, 250, 251, 252, 253, 254, 255, 256, 257, 258, 259, 260, 261, 262, 263, 264, 265, 266, 267, 268, 269, 270, 271, 272, 273, 274, 275, 316, 317, 318, 319, 320, 321, 322, 323, 324, 325, 326, 327, 328, 329, 330, 331, 332, 333, 334, 335, 336, 337, 338, 339, 340, 341, 342, 343, 344, 345, 346, 349, 350, 351, 352, 353, 347, 348] (by decide +kernel) (by decide +kernel)
set_option maxRecDepth 20000 in
theorem gL_holds_L_isWord : GoodIn wsL_holds (va_wsS RL 78 yL_isWord wsL_isWord) := goodIn_app (goodIn_of _ (by decide +kernel)) ggL_holds_L_isWord
set_option maxRecDepth 20000 in
theorem ggL_holds_L_isGate : GoodIn wsL_holds wsL_isGate := goodIn_r _ [278, 1, 2, 3, 4, 5, 6, 7, 8, 9, 10, 11, 12, 13, 14, 15, 16, 17, 18, 19, 20, 21, 22, 23, 24, 25, 26, 27, 28, 29, 30, 31, 32, 33, 34, 35, 36, 37, 38, 39, 40, 41, 42, 43, 44, 45, 46, 47, 48, 49, 50, 51, 52, 53, 54, 55, 56, 57, 58, 59, 60, 61, 62, 63, 64, 65, 66, 67, 68, 69, 70, 71, 72, 73, 74, 75, 76, 77, 78, 79, 80, 81, 82, 83, 84, 85, 86, 87, 88, 89, 90, 91, 92, 93, 94, 95, 96, 97, 98, 99, 100, 101, 156, 157, 158, 159, 160, 161, 162, 163, 164, 165, 166, 167, 168, 114, 115, 116, 135, 169, 279, 280, 145, 281, 282, 283, 284, 285, 286, 287, 288, 289, 290, 291, 292, 293, 151, 152, 153, 154, 294, 295, 296, 297, 298, 299, 141, 102, 103, 104, 105, 106, 107, 108, 109, 110, 111, 112, 113, 117, 118, 119, 120, 121, 122, 123, 124, 125, 126, 127, 128, 129, 130, 131, 132, 133, 134, 136, 137, 138, 139, 140, 142, 300, 301, 302, 303, 304, 305, 306, 307, 308, 309, 310, 311, 312, 313, 314, 315, 316, 317, 318, 319, 320, 321, 322, 323, 324, 325, 326, 327, 328, 329, 330, 331, 332, 333, 334, 335, 336, 337, 338, 339, 340, 341, 342, 343, 344, 345, 346, 347, 348, 349, 350, 351, 352, 353] (by decide +kernel) (by decide +kernel)
set_option maxRecDepth 20000 in
theorem gL_holds_L_isGate : GoodIn wsL_holds (va_wsS RL 82 yL_isGate wsL_isGate) := goodIn_app (goodIn_of _ (by decide +kernel)) ggL_holds_L_isGate
set_option maxRecDepth 20000 in
theorem ggL_holds_X6_gateOf : GoodIn wsL_holds wsX6_gateOf := goodIn_r _ [159, 6, 10, 160, 161, 162, 163, 7, 164, 165, 11, 13, 166, 167, 4, 168, 114, 115, 116, 135, 31, 32, 21, 33, 23, 169, 62, 63, 58, 64, 65, 66, 67, 68, 69, 70, 71, 72, 73, 74, 75, 76, 77, 78, 79, 80, 81, 82, 83, 84, 85, 86, 87, 88, 89, 90, 91, 47, 92, 93, 94, 95, 96, 97, 98, 99, 100, 101, 54, 316, 317, 318, 319, 320, 321, 322, 323, 324, 325, 326, 327, 328, 329, 330, 339, 340, 341, 342, 343, 344, 345, 346, 349, 350, 351, 352, 353] (by decide +kernel) (by decide +kernel)
set_option maxRecDepth 20000 in
theorem gL_holds_X6_gateOf : GoodIn wsL_holds (wsV RL 56 RX6 yX6_gateOf wsX6_gateOf) := goodIn_app (goodIn_of _ (by decide +kernel)) ggL_holds_X6_gateOf
set_option maxRecDepth 20000 in
theorem ggL_holds_X6_store : GoodIn wsL_holds wsX6_store := goodIn_r _ [288, 6, 289, 290, 291, 292, 293, 7, 8, 151, 152, 153, 4, 154, 114, 115, 116, 135, 31, 32, 21, 33, 23, 294, 78, 79, 70, 80, 81, 82, 83, 84, 85, 86, 87, 88, 295, 73, 74, 75, 76, 77, 296, 297, 298, 27, 299, 29, 141, 30, 34, 35, 36, 37, 38, 24, 25, 26, 28, 39, 40, 41, 42, 43, 316, 317, 318, 319, 320, 321, 322, 323, 324, 325, 326, 327, 328, 329, 330, 350, 351, 352, 353, 331, 332, 333, 334, 335, 336, 337, 338, 349] (by decide +kernel) (by decide +kernel)
set_option maxRecDepth 20000 in
theorem gL_holds_X6_store : GoodIn wsL_holds (wsV RL 46 RX6 yX6_store wsX6_store) := goodIn_app (goodIn_of _ (by decide +kernel)) ggL_holds_X6_store
set_option maxRecDepth 20000 in
theorem ggL_holds_X6_at : GoodIn wsL_holds wsX6_at := goodIn_r _ [150, 6, 8, 151, 152, 153, 4, 154, 114, 115, 116, 135, 31, 32, 21, 33, 23, 155, 35, 36, 27, 37, 38, 30, 316, 317, 318, 319, 320, 321, 322, 323, 324, 325, 326, 327, 328, 329, 330, 331, 332, 333, 334, 335, 336, 337, 338, 349] (by decide +kernel) (by decide +kernel)
set_option maxRecDepth 20000 in
theorem gL_holds_X6_at : GoodIn wsL_holds (wsV RL 72 RX6 yX6_at wsX6_at) := goodIn_app (goodIn_of _ (by decide +kernel)) ggL_holds_X6_at
set_option maxRecDepth 20000 in
theorem ggL_holds_L_level : GoodIn wsL_holds wsL_level := goodIn_r _ [284, 285, 286, 287, 4, 288, 6, 289, 290, 291, 292, 293, 7, 8, 151, 152, 153, 154, 114, 115, 116, 135, 31, 32, 21, 33, 23, 294, 78, 79, 70, 80, 81, 82, 83, 84, 85, 86, 87, 88, 295, 73, 74, 75, 76, 77, 296, 297, 298, 27, 299, 29, 141, 30, 34, 35, 36, 37, 38, 24, 25, 26, 28, 39, 40, 41, 42, 43, 316, 317, 318, 319, 320, 321, 322, 323, 324, 325, 326, 327, 328, 329, 330, 350, 351, 352, 353, 331, 332, 333, 334, 335, 336, 337, 338, 349] (by decide +kernel) (by decide +kernel)
set_option maxRecDepth 20000 in
theorem gL_holds_L_level : GoodIn wsL_holds (va_wsS RL 49 yL_level wsL_level) := goodIn_app (goodIn_of _ (by decide +kernel)) ggL_holds_L_level
theorem dL_holds_0 : decode cL_holds 0 = .ok (.aload_n 0, 1) := by decide +kernel
theorem dL_holds_1 : decode cL_holds 1 = .ok (.iconst 1, 1) := by decide +kernel
theorem dL_holds_2 : decode cL_holds 2 = .ok (.invokevirtual 53, 3) := by decide +kernel
theorem dL_holds_5 : decode cL_holds 5 = .ok (.istore_n 1, 1) := by decide +kernel
theorem dL_holds_6 : decode cL_holds 6 = .ok (.iconst 0, 1) := by decide +kernel
theorem dL_holds_7 : decode cL_holds 7 = .ok (.istore_n 2, 1) := by decide +kernel
theorem dL_holds_8 : decode cL_holds 8 = .ok (.iconst 0, 1) := by decide +kernel
theorem dL_holds_9 : decode cL_holds 9 = .ok (.istore_n 3, 1) := by decide +kernel
theorem dL_holds_10 : decode cL_holds 10 = .ok (.iconst 0, 1) := by decide +kernel
theorem dL_holds_11 : decode cL_holds 11 = .ok (.istore 4, 2) := by decide +kernel
theorem dL_holds_13 : decode cL_holds 13 = .ok (.iconst 0, 1) := by decide +kernel
theorem dL_holds_14 : decode cL_holds 14 = .ok (.istore 5, 2) := by decide +kernel
theorem dL_holds_16 : decode cL_holds 16 = .ok (.iconst 0, 1) := by decide +kernel
theorem dL_holds_17 : decode cL_holds 17 = .ok (.istore 6, 2) := by decide +kernel
theorem dL_holds_19 : decode cL_holds 19 = .ok (.iconst 0, 1) := by decide +kernel
theorem dL_holds_20 : decode cL_holds 20 = .ok (.istore 7, 2) := by decide +kernel
theorem dL_holds_22 : decode cL_holds 22 = .ok (.iconst 0, 1) := by decide +kernel
theorem dL_holds_23 : decode cL_holds 23 = .ok (.istore 8, 2) := by decide +kernel
theorem dL_holds_25 : decode cL_holds 25 = .ok (.aload_n 0, 1) := by decide +kernel
theorem dL_holds_26 : decode cL_holds 26 = .ok (.iload_n 1, 1) := by decide +kernel
theorem dL_holds_27 : decode cL_holds 27 = .ok (.iconst 0, 1) := by decide +kernel
theorem dL_holds_28 : decode cL_holds 28 = .ok (.invokevirtual 63, 3) := by decide +kernel
theorem dL_holds_31 : decode cL_holds 31 = .ok (.sipush (-1001), 3) := by decide +kernel
theorem dL_holds_34 : decode cL_holds 34 = .ok (.if_icmp .ne 13, 3) := by decide +kernel
theorem dL_holds_37 : decode cL_holds 37 = .ok (.iload_n 1, 1) := by decide +kernel
theorem dL_holds_38 : decode cL_holds 38 = .ok (.bipush 12, 2) := by decide +kernel
theorem dL_holds_40 : decode cL_holds 40 = .ok (.if_icmp .gt 7, 3) := by decide +kernel
theorem dL_holds_43 : decode cL_holds 43 = .ok (.iconst 1, 1) := by decide +kernel
theorem dL_holds_44 : decode cL_holds 44 = .ok (.goto 4, 3) := by decide +kernel
theorem dL_holds_47 : decode cL_holds 47 = .ok (.iconst 0, 1) := by decide +kernel
theorem dL_holds_48 : decode cL_holds 48 = .ok (.istore 9, 2) := by decide +kernel
theorem dL_holds_50 : decode cL_holds 50 = .ok (.iconst 0, 1) := by decide +kernel
theorem dL_holds_51 : decode cL_holds 51 = .ok (.istore 10, 2) := by decide +kernel
theorem dL_holds_53 : decode cL_holds 53 = .ok (.iload 10, 2) := by decide +kernel
theorem dL_holds_55 : decode cL_holds 55 = .ok (.iload_n 1, 1) := by decide +kernel
theorem dL_holds_56 : decode cL_holds 56 = .ok (.if_icmp .ge 50, 3) := by decide +kernel
theorem dL_holds_59 : decode cL_holds 59 = .ok (.iload 9, 2) := by decide +kernel
theorem dL_holds_61 : decode cL_holds 61 = .ok (.ifCond .eq 45, 3) := by decide +kernel
theorem dL_holds_64 : decode cL_holds 64 = .ok (.aload_n 0, 1) := by decide +kernel
theorem dL_holds_65 : decode cL_holds 65 = .ok (.iload 10, 2) := by decide +kernel
theorem dL_holds_67 : decode cL_holds 67 = .ok (.invokestatic 78, 3) := by decide +kernel
theorem dL_holds_70 : decode cL_holds 70 = .ok (.istore 9, 2) := by decide +kernel
theorem dL_holds_72 : decode cL_holds 72 = .ok (.iload_n 2, 1) := by decide +kernel
theorem dL_holds_73 : decode cL_holds 73 = .ok (.aload_n 0, 1) := by decide +kernel
theorem dL_holds_74 : decode cL_holds 74 = .ok (.iload 10, 2) := by decide +kernel
theorem dL_holds_76 : decode cL_holds 76 = .ok (.iconst 3, 1) := by decide +kernel
theorem dL_holds_77 : decode cL_holds 77 = .ok (.invokevirtual 63, 3) := by decide +kernel
theorem dL_holds_80 : decode cL_holds 80 = .ok (.iadd, 1) := by decide +kernel
theorem dL_holds_81 : decode cL_holds 81 = .ok (.istore_n 2, 1) := by decide +kernel
theorem dL_holds_82 : decode cL_holds 82 = .ok (.iload_n 3, 1) := by decide +kernel
theorem dL_holds_83 : decode cL_holds 83 = .ok (.aload_n 0, 1) := by decide +kernel
theorem dL_holds_84 : decode cL_holds 84 = .ok (.iload 10, 2) := by decide +kernel
theorem dL_holds_86 : decode cL_holds 86 = .ok (.iconst 3, 1) := by decide +kernel
theorem dL_holds_87 : decode cL_holds 87 = .ok (.invokevirtual 63, 3) := by decide +kernel
theorem dL_holds_90 : decode cL_holds 90 = .ok (.aload_n 0, 1) := by decide +kernel
theorem dL_holds_91 : decode cL_holds 91 = .ok (.iload 10, 2) := by decide +kernel
theorem dL_holds_93 : decode cL_holds 93 = .ok (.iconst 2, 1) := by decide +kernel
theorem dL_holds_94 : decode cL_holds 94 = .ok (.invokevirtual 63, 3) := by decide +kernel
theorem dL_holds_97 : decode cL_holds 97 = .ok (.imul, 1) := by decide +kernel
theorem dL_holds_98 : decode cL_holds 98 = .ok (.iadd, 1) := by decide +kernel
theorem dL_holds_99 : decode cL_holds 99 = .ok (.istore_n 3, 1) := by decide +kernel
theorem dL_holds_100 : decode cL_holds 100 = .ok (.iinc 10 1, 3) := by decide +kernel
theorem dL_holds_103 : decode cL_holds 103 = .ok (.goto (-50), 3) := by decide +kernel
theorem dL_holds_106 : decode cL_holds 106 = .ok (.iconst 0, 1) := by decide +kernel
theorem dL_holds_107 : decode cL_holds 107 = .ok (.istore 10, 2) := by decide +kernel
theorem dL_holds_109 : decode cL_holds 109 = .ok (.iload 10, 2) := by decide +kernel
theorem dL_holds_111 : decode cL_holds 111 = .ok (.iconst 4, 1) := by decide +kernel
theorem dL_holds_112 : decode cL_holds 112 = .ok (.if_icmp .ge 82, 3) := by decide +kernel
theorem dL_holds_115 : decode cL_holds 115 = .ok (.iload 9, 2) := by decide +kernel
theorem dL_holds_117 : decode cL_holds 117 = .ok (.ifCond .eq 77, 3) := by decide +kernel
theorem dL_holds_120 : decode cL_holds 120 = .ok (.aload_n 0, 1) := by decide +kernel
theorem dL_holds_121 : decode cL_holds 121 = .ok (.iload 10, 2) := by decide +kernel
theorem dL_holds_123 : decode cL_holds 123 = .ok (.invokestatic 82, 3) := by decide +kernel
theorem dL_holds_126 : decode cL_holds 126 = .ok (.istore 9, 2) := by decide +kernel
theorem dL_holds_128 : decode cL_holds 128 = .ok (.iload 6, 2) := by decide +kernel
theorem dL_holds_130 : decode cL_holds 130 = .ok (.aload_n 0, 1) := by decide +kernel
theorem dL_holds_131 : decode cL_holds 131 = .ok (.iload 10, 2) := by decide +kernel
theorem dL_holds_133 : decode cL_holds 133 = .ok (.bipush 7, 2) := by decide +kernel
theorem dL_holds_135 : decode cL_holds 135 = .ok (.invokevirtual 56, 3) := by decide +kernel
theorem dL_holds_138 : decode cL_holds 138 = .ok (.iadd, 1) := by decide +kernel
theorem dL_holds_139 : decode cL_holds 139 = .ok (.istore 6, 2) := by decide +kernel
theorem dL_holds_141 : decode cL_holds 141 = .ok (.iload 7, 2) := by decide +kernel
theorem dL_holds_143 : decode cL_holds 143 = .ok (.aload_n 0, 1) := by decide +kernel
theorem dL_holds_144 : decode cL_holds 144 = .ok (.iload 10, 2) := by decide +kernel
theorem dL_holds_146 : decode cL_holds 146 = .ok (.bipush 8, 2) := by decide +kernel
theorem dL_holds_148 : decode cL_holds 148 = .ok (.invokevirtual 56, 3) := by decide +kernel
theorem dL_holds_151 : decode cL_holds 151 = .ok (.iadd, 1) := by decide +kernel
theorem dL_holds_152 : decode cL_holds 152 = .ok (.istore 7, 2) := by decide +kernel
theorem dL_holds_154 : decode cL_holds 154 = .ok (.iload_n 3, 1) := by decide +kernel
theorem dL_holds_155 : decode cL_holds 155 = .ok (.aload_n 0, 1) := by decide +kernel
theorem dL_holds_156 : decode cL_holds 156 = .ok (.iload 10, 2) := by decide +kernel
theorem dL_holds_158 : decode cL_holds 158 = .ok (.bipush 6, 2) := by decide +kernel
theorem dL_holds_160 : decode cL_holds 160 = .ok (.invokevirtual 56, 3) := by decide +kernel
theorem dL_holds_163 : decode cL_holds 163 = .ok (.iadd, 1) := by decide +kernel
theorem dL_holds_164 : decode cL_holds 164 = .ok (.istore_n 3, 1) := by decide +kernel
theorem dL_holds_165 : decode cL_holds 165 = .ok (.iload 8, 2) := by decide +kernel
theorem dL_holds_167 : decode cL_holds 167 = .ok (.aload_n 0, 1) := by decide +kernel
theorem dL_holds_168 : decode cL_holds 168 = .ok (.iload 10, 2) := by decide +kernel
theorem dL_holds_170 : decode cL_holds 170 = .ok (.iconst 5, 1) := by decide +kernel
theorem dL_holds_171 : decode cL_holds 171 = .ok (.invokevirtual 56, 3) := by decide +kernel
theorem dL_holds_174 : decode cL_holds 174 = .ok (.sipush (-1006), 3) := by decide +kernel
theorem dL_holds_177 : decode cL_holds 177 = .ok (.if_icmp .ne 7, 3) := by decide +kernel
theorem dL_holds_180 : decode cL_holds 180 = .ok (.iconst 0, 1) := by decide +kernel
theorem dL_holds_181 : decode cL_holds 181 = .ok (.goto 4, 3) := by decide +kernel
theorem dL_holds_184 : decode cL_holds 184 = .ok (.iconst 1, 1) := by decide +kernel
theorem dL_holds_185 : decode cL_holds 185 = .ok (.iadd, 1) := by decide +kernel
theorem dL_holds_186 : decode cL_holds 186 = .ok (.istore 8, 2) := by decide +kernel
theorem dL_holds_188 : decode cL_holds 188 = .ok (.iinc 10 1, 3) := by decide +kernel
theorem dL_holds_191 : decode cL_holds 191 = .ok (.goto (-82), 3) := by decide +kernel
theorem dL_holds_194 : decode cL_holds 194 = .ok (.iconst 0, 1) := by decide +kernel
theorem dL_holds_195 : decode cL_holds 195 = .ok (.istore 10, 2) := by decide +kernel
theorem dL_holds_197 : decode cL_holds 197 = .ok (.iload 10, 2) := by decide +kernel
theorem dL_holds_199 : decode cL_holds 199 = .ok (.iconst 2, 1) := by decide +kernel
theorem dL_holds_200 : decode cL_holds 200 = .ok (.if_icmp .ge 169, 3) := by decide +kernel
theorem dL_holds_203 : decode cL_holds 203 = .ok (.iload 9, 2) := by decide +kernel
theorem dL_holds_205 : decode cL_holds 205 = .ok (.ifCond .eq 164, 3) := by decide +kernel
theorem dL_holds_208 : decode cL_holds 208 = .ok (.iconst 0, 1) := by decide +kernel
theorem dL_holds_209 : decode cL_holds 209 = .ok (.istore 11, 2) := by decide +kernel
theorem dL_holds_211 : decode cL_holds 211 = .ok (.iconst 0, 1) := by decide +kernel
theorem dL_holds_212 : decode cL_holds 212 = .ok (.istore 12, 2) := by decide +kernel
theorem dL_holds_214 : decode cL_holds 214 = .ok (.iload 12, 2) := by decide +kernel
theorem dL_holds_216 : decode cL_holds 216 = .ok (.aload_n 0, 1) := by decide +kernel
theorem dL_holds_217 : decode cL_holds 217 = .ok (.iload 10, 2) := by decide +kernel
theorem dL_holds_219 : decode cL_holds 219 = .ok (.bipush 6, 2) := by decide +kernel
theorem dL_holds_221 : decode cL_holds 221 = .ok (.invokevirtual 46, 3) := by decide +kernel
theorem dL_holds_224 : decode cL_holds 224 = .ok (.if_icmp .ge 27, 3) := by decide +kernel
theorem dL_holds_227 : decode cL_holds 227 = .ok (.iload 11, 2) := by decide +kernel
theorem dL_holds_229 : decode cL_holds 229 = .ok (.aload_n 0, 1) := by decide +kernel
theorem dL_holds_230 : decode cL_holds 230 = .ok (.aload_n 0, 1) := by decide +kernel
theorem dL_holds_231 : decode cL_holds 231 = .ok (.iload 10, 2) := by decide +kernel
theorem dL_holds_233 : decode cL_holds 233 = .ok (.iload 12, 2) := by decide +kernel
theorem dL_holds_235 : decode cL_holds 235 = .ok (.invokevirtual 72, 3) := by decide +kernel
theorem dL_holds_238 : decode cL_holds 238 = .ok (.iconst 2, 1) := by decide +kernel
theorem dL_holds_239 : decode cL_holds 239 = .ok (.invokevirtual 63, 3) := by decide +kernel
theorem dL_holds_242 : decode cL_holds 242 = .ok (.iadd, 1) := by decide +kernel
theorem dL_holds_243 : decode cL_holds 243 = .ok (.istore 11, 2) := by decide +kernel
theorem dL_holds_245 : decode cL_holds 245 = .ok (.iinc 12 1, 3) := by decide +kernel
theorem dL_holds_248 : decode cL_holds 248 = .ok (.goto (-34), 3) := by decide +kernel
theorem dL_holds_251 : decode cL_holds 251 = .ok (.iload 4, 2) := by decide +kernel
theorem dL_holds_253 : decode cL_holds 253 = .ok (.aload_n 0, 1) := by decide +kernel
theorem dL_holds_254 : decode cL_holds 254 = .ok (.iload 10, 2) := by decide +kernel
theorem dL_holds_256 : decode cL_holds 256 = .ok (.bipush 6, 2) := by decide +kernel
theorem dL_holds_258 : decode cL_holds 258 = .ok (.invokevirtual 46, 3) := by decide +kernel
theorem dL_holds_261 : decode cL_holds 261 = .ok (.iadd, 1) := by decide +kernel
theorem dL_holds_262 : decode cL_holds 262 = .ok (.istore 4, 2) := by decide +kernel
theorem dL_holds_264 : decode cL_holds 264 = .ok (.iload 5, 2) := by decide +kernel
theorem dL_holds_266 : decode cL_holds 266 = .ok (.aload_n 0, 1) := by decide +kernel
theorem dL_holds_267 : decode cL_holds 267 = .ok (.iload 10, 2) := by decide +kernel
theorem dL_holds_269 : decode cL_holds 269 = .ok (.bipush 8, 2) := by decide +kernel
theorem dL_holds_271 : decode cL_holds 271 = .ok (.invokevirtual 46, 3) := by decide +kernel
theorem dL_holds_274 : decode cL_holds 274 = .ok (.iadd, 1) := by decide +kernel
theorem dL_holds_275 : decode cL_holds 275 = .ok (.istore 5, 2) := by decide +kernel
theorem dL_holds_277 : decode cL_holds 277 = .ok (.aload_n 0, 1) := by decide +kernel
theorem dL_holds_278 : decode cL_holds 278 = .ok (.iload 10, 2) := by decide +kernel
theorem dL_holds_280 : decode cL_holds 280 = .ok (.iconst 4, 1) := by decide +kernel
theorem dL_holds_281 : decode cL_holds 281 = .ok (.invokevirtual 46, 3) := by decide +kernel
theorem dL_holds_284 : decode cL_holds 284 = .ok (.aload_n 0, 1) := by decide +kernel
theorem dL_holds_285 : decode cL_holds 285 = .ok (.iload 10, 2) := by decide +kernel
theorem dL_holds_287 : decode cL_holds 287 = .ok (.aload_n 0, 1) := by decide +kernel
theorem dL_holds_288 : decode cL_holds 288 = .ok (.iconst 0, 1) := by decide +kernel
theorem dL_holds_289 : decode cL_holds 289 = .ok (.invokevirtual 53, 3) := by decide +kernel
theorem dL_holds_292 : decode cL_holds 292 = .ok (.invokestatic 49, 3) := by decide +kernel
theorem dL_holds_295 : decode cL_holds 295 = .ok (.if_icmp .ne 65, 3) := by decide +kernel
theorem dL_holds_298 : decode cL_holds 298 = .ok (.aload_n 0, 1) := by decide +kernel
theorem dL_holds_299 : decode cL_holds 299 = .ok (.iload 10, 2) := by decide +kernel
theorem dL_holds_301 : decode cL_holds 301 = .ok (.iconst 5, 1) := by decide +kernel
theorem dL_holds_302 : decode cL_holds 302 = .ok (.invokevirtual 46, 3) := by decide +kernel
theorem dL_holds_305 : decode cL_holds 305 = .ok (.aload_n 0, 1) := by decide +kernel
theorem dL_holds_306 : decode cL_holds 306 = .ok (.iload 10, 2) := by decide +kernel
theorem dL_holds_308 : decode cL_holds 308 = .ok (.iconst 4, 1) := by decide +kernel
theorem dL_holds_309 : decode cL_holds 309 = .ok (.invokevirtual 46, 3) := by decide +kernel
theorem dL_holds_312 : decode cL_holds 312 = .ok (.aload_n 0, 1) := by decide +kernel
theorem dL_holds_313 : decode cL_holds 313 = .ok (.iload 10, 2) := by decide +kernel
theorem dL_holds_315 : decode cL_holds 315 = .ok (.iconst 3, 1) := by decide +kernel
theorem dL_holds_316 : decode cL_holds 316 = .ok (.invokevirtual 46, 3) := by decide +kernel
theorem dL_holds_319 : decode cL_holds 319 = .ok (.iadd, 1) := by decide +kernel
theorem dL_holds_320 : decode cL_holds 320 = .ok (.if_icmp .ne 40, 3) := by decide +kernel
theorem dL_holds_323 : decode cL_holds 323 = .ok (.iload 11, 2) := by decide +kernel
theorem dL_holds_325 : decode cL_holds 325 = .ok (.aload_n 0, 1) := by decide +kernel
theorem dL_holds_326 : decode cL_holds 326 = .ok (.iload 10, 2) := by decide +kernel
theorem dL_holds_328 : decode cL_holds 328 = .ok (.bipush 7, 2) := by decide +kernel
theorem dL_holds_330 : decode cL_holds 330 = .ok (.invokevirtual 46, 3) := by decide +kernel
theorem dL_holds_333 : decode cL_holds 333 = .ok (.if_icmp .ne 27, 3) := by decide +kernel
theorem dL_holds_336 : decode cL_holds 336 = .ok (.aload_n 0, 1) := by decide +kernel
theorem dL_holds_337 : decode cL_holds 337 = .ok (.iload 10, 2) := by decide +kernel
theorem dL_holds_339 : decode cL_holds 339 = .ok (.aload_n 0, 1) := by decide +kernel
theorem dL_holds_340 : decode cL_holds 340 = .ok (.iload 10, 2) := by decide +kernel
theorem dL_holds_342 : decode cL_holds 342 = .ok (.bipush 6, 2) := by decide +kernel
theorem dL_holds_344 : decode cL_holds 344 = .ok (.invokevirtual 46, 3) := by decide +kernel
theorem dL_holds_347 : decode cL_holds 347 = .ok (.invokevirtual 72, 3) := by decide +kernel
theorem dL_holds_350 : decode cL_holds 350 = .ok (.sipush (-1001), 3) := by decide +kernel
theorem dL_holds_353 : decode cL_holds 353 = .ok (.if_icmp .ne 7, 3) := by decide +kernel
theorem dL_holds_356 : decode cL_holds 356 = .ok (.iconst 1, 1) := by decide +kernel
theorem dL_holds_357 : decode cL_holds 357 = .ok (.goto 4, 3) := by decide +kernel
theorem dL_holds_360 : decode cL_holds 360 = .ok (.iconst 0, 1) := by decide +kernel
theorem dL_holds_361 : decode cL_holds 361 = .ok (.istore 9, 2) := by decide +kernel
theorem dL_holds_363 : decode cL_holds 363 = .ok (.iinc 10 1, 3) := by decide +kernel
theorem dL_holds_366 : decode cL_holds 366 = .ok (.goto (-169), 3) := by decide +kernel
theorem dL_holds_369 : decode cL_holds 369 = .ok (.iload 9, 2) := by decide +kernel
theorem dL_holds_371 : decode cL_holds 371 = .ok (.ifCond .eq 88, 3) := by decide +kernel
theorem dL_holds_374 : decode cL_holds 374 = .ok (.iload_n 2, 1) := by decide +kernel
theorem dL_holds_375 : decode cL_holds 375 = .ok (.aload_n 0, 1) := by decide +kernel
theorem dL_holds_376 : decode cL_holds 376 = .ok (.iconst 2, 1) := by decide +kernel
theorem dL_holds_377 : decode cL_holds 377 = .ok (.invokevirtual 53, 3) := by decide +kernel
theorem dL_holds_380 : decode cL_holds 380 = .ok (.if_icmp .ne 79, 3) := by decide +kernel
theorem dL_holds_383 : decode cL_holds 383 = .ok (.iload_n 2, 1) := by decide +kernel
theorem dL_holds_384 : decode cL_holds 384 = .ok (.iload 6, 2) := by decide +kernel
theorem dL_holds_386 : decode cL_holds 386 = .ok (.if_icmp .ne 73, 3) := by decide +kernel
theorem dL_holds_389 : decode cL_holds 389 = .ok (.iload 7, 2) := by decide +kernel
theorem dL_holds_391 : decode cL_holds 391 = .ok (.aload_n 0, 1) := by decide +kernel
theorem dL_holds_392 : decode cL_holds 392 = .ok (.bipush 6, 2) := by decide +kernel
theorem dL_holds_394 : decode cL_holds 394 = .ok (.invokevirtual 53, 3) := by decide +kernel
theorem dL_holds_397 : decode cL_holds 397 = .ok (.if_icmp .ne 62, 3) := by decide +kernel
theorem dL_holds_400 : decode cL_holds 400 = .ok (.iload_n 3, 1) := by decide +kernel
theorem dL_holds_401 : decode cL_holds 401 = .ok (.iload 7, 2) := by decide +kernel
theorem dL_holds_403 : decode cL_holds 403 = .ok (.iadd, 1) := by decide +kernel
theorem dL_holds_404 : decode cL_holds 404 = .ok (.aload_n 0, 1) := by decide +kernel
theorem dL_holds_405 : decode cL_holds 405 = .ok (.iconst 5, 1) := by decide +kernel
theorem dL_holds_406 : decode cL_holds 406 = .ok (.invokevirtual 53, 3) := by decide +kernel
theorem dL_holds_409 : decode cL_holds 409 = .ok (.if_icmp .ne 50, 3) := by decide +kernel
theorem dL_holds_412 : decode cL_holds 412 = .ok (.iload 4, 2) := by decide +kernel
theorem dL_holds_414 : decode cL_holds 414 = .ok (.iload 8, 2) := by decide +kernel
theorem dL_holds_416 : decode cL_holds 416 = .ok (.iadd, 1) := by decide +kernel
theorem dL_holds_417 : decode cL_holds 417 = .ok (.iload_n 1, 1) := by decide +kernel
theorem dL_holds_418 : decode cL_holds 418 = .ok (.if_icmp .ne 41, 3) := by decide +kernel
theorem dL_holds_421 : decode cL_holds 421 = .ok (.iload 5, 2) := by decide +kernel
theorem dL_holds_423 : decode cL_holds 423 = .ok (.aload_n 0, 1) := by decide +kernel
theorem dL_holds_424 : decode cL_holds 424 = .ok (.iconst 3, 1) := by decide +kernel
theorem dL_holds_425 : decode cL_holds 425 = .ok (.invokevirtual 53, 3) := by decide +kernel
theorem dL_holds_428 : decode cL_holds 428 = .ok (.if_icmp .ne 31, 3) := by decide +kernel
theorem dL_holds_431 : decode cL_holds 431 = .ok (.iload 8, 2) := by decide +kernel
theorem dL_holds_433 : decode cL_holds 433 = .ok (.aload_n 0, 1) := by decide +kernel
theorem dL_holds_434 : decode cL_holds 434 = .ok (.iconst 4, 1) := by decide +kernel
theorem dL_holds_435 : decode cL_holds 435 = .ok (.invokevirtual 53, 3) := by decide +kernel
theorem dL_holds_438 : decode cL_holds 438 = .ok (.if_icmp .ne 21, 3) := by decide +kernel
theorem dL_holds_441 : decode cL_holds 441 = .ok (.aload_n 0, 1) := by decide +kernel
theorem dL_holds_442 : decode cL_holds 442 = .ok (.bipush 8, 2) := by decide +kernel
theorem dL_holds_444 : decode cL_holds 444 = .ok (.invokevirtual 53, 3) := by decide +kernel
theorem dL_holds_447 : decode cL_holds 447 = .ok (.aload_n 0, 1) := by decide +kernel
theorem dL_holds_448 : decode cL_holds 448 = .ok (.iconst 0, 1) := by decide +kernel
theorem dL_holds_449 : decode cL_holds 449 = .ok (.invokevirtual 53, 3) := by decide +kernel
theorem dL_holds_452 : decode cL_holds 452 = .ok (.if_icmp .gt 7, 3) := by decide +kernel
theorem dL_holds_455 : decode cL_holds 455 = .ok (.iconst 1, 1) := by decide +kernel
theorem dL_holds_456 : decode cL_holds 456 = .ok (.goto 4, 3) := by decide +kernel
theorem dL_holds_459 : decode cL_holds 459 = .ok (.iconst 0, 1) := by decide +kernel
theorem dL_holds_460 : decode cL_holds 460 = .ok (.ireturn, 1) := by decide +kernel
set_option maxRecDepth 20000 in
theorem ggL_tries_L_low : GoodIn wsL_tries wsL_low := goodIn_r _ [4, 5] (by decide +kernel) (by decide +kernel)
set_option maxRecDepth 20000 in
theorem gL_tries_L_low : GoodIn wsL_tries (va_wsS RL 9 yL_low wsL_low) := goodIn_app (goodIn_of _ (by decide +kernel)) ggL_tries_L_low
set_option maxRecDepth 20000 in
theorem ggL_tries_X6_ifRun : GoodIn wsL_tries wsX6_ifRun := goodIn_r _ [10, 11, 12, 13, 14, 9, 15, 16, 17, 18, 19, 20, 21, 22, 23, 24, 25, 26, 27, 28, 29, 30, 31, 32, 33, 34, 35, 36, 37, 38, 39, 40, 41, 42, 43, 44, 45, 46, 47, 48, 49, 50, 51, 52, 53, 54, 55, 56, 57, 58, 59, 60, 61, 62, 63, 64, 65, 66, 67, 68, 69, 70, 71, 72, 73, 74, 75, 76, 77, 78, 79, 80, 81, 82, 83, 84, 85, 86, 87, 88, 89, 90, 91, 92, 93, 94, 95, 96, 97, 98, 99, 100, 101, 102, 103, 104, 105, 106, 107, 108, 109, 110, 111, 112, 113, 114, 115, 116, 117, 118, 119, 120, 121, 122, 123, 124, 125, 126, 127, 128, 129, 130, 131, 132, 133, 134, 135, 136, 137, 138, 139, 140, 141, 142, 143, 144, 145, 146, 147, 148, 149, 150, 151, 152, 153, 154, 155, 156, 157, 158, 159, 160, 161, 162, 163, 164, 165, 166, 167, 168, 169, 170, 171, 172, 173, 174, 175, 176, 177, 178, 179, 180, 181, 182, 183, 184, 185, 186, 187, 188, 189, 190, 370, 371, 372, 373, 374, 375, 376, 377, 378, 379, 380, 381, 382, 383, 384, 385, 386, 387, 388, 389, 390, 391, 392, 393, 394, 395, 396, 397, 398, 399, 400, 401, 402, 403, 404, 405] (by decide +kernel) (by decide +kernel)
set_option maxRecDepth 20000 in
theorem gL_tries_X6_ifRun : GoodIn wsL_tries (wsV RL 85 RX6 yX6_ifRun wsX6_ifRun) := goodIn_app (goodIn_of _ (by decide +kernel)) ggL_tries_X6_ifRun
set_option maxRecDepth 20000 in
theorem ggL_tries_X6_count : GoodIn wsL_tries wsX6_count := goodIn_r _ [194, 12, 195, 196, 197, 198, 199, 200, 201, 202, 203, 204, 205, 206, 188, 189, 39, 190, 41, 207, 208, 209, 67, 210, 75, 130, 96, 97, 98, 131, 132, 133, 134, 74, 135, 136, 137, 138, 71, 211, 212, 213, 53, 214, 215, 122, 123, 124, 59, 114, 216, 217, 218, 19, 219, 24, 220, 221, 222, 223, 22, 21, 82, 83, 84, 30, 85, 86, 87, 88, 89, 35, 90, 91, 92, 93, 34, 32, 33, 94, 43, 44, 45, 95, 103, 104, 105, 106, 107, 108, 109, 56, 110, 111, 112, 113, 58, 370, 371, 372, 373, 374, 375, 376, 377, 378, 379, 380, 381, 382, 383, 384, 398, 399, 400, 401, 402, 403, 404, 405, 390, 391, 392, 393, 394, 395, 396, 397, 406, 407, 389, 385, 386, 387, 388] (by decide +kernel) (by decide +kernel)
set_option maxRecDepth 20000 in
theorem gL_tries_X6_count : GoodIn wsL_tries (wsV RL 53 RX6 yX6_count wsX6_count) := goodIn_app (goodIn_of _ (by decide +kernel)) ggL_tries_X6_count
set_option maxRecDepth 20000 in
theorem ggL_tries_X6_run : GoodIn wsL_tries wsX6_run := goodIn_r _ [227, 12, 195, 228, 198, 199, 13, 14, 9, 15, 229, 230, 231, 232, 233, 234, 205, 235, 43, 44, 45, 236, 237, 238, 239, 240, 241, 242, 16, 17, 18, 19, 20, 21, 22, 23, 24, 25, 26, 27, 28, 29, 30, 31, 32, 33, 34, 35, 36, 37, 38, 39, 40, 41, 42, 46, 47, 48, 49, 50, 51, 52, 53, 54, 55, 56, 57, 58, 59, 60, 61, 62, 63, 64, 65, 66, 67, 68, 69, 70, 71, 72, 73, 74, 75, 76, 77, 206, 188, 189, 190, 78, 79, 80, 81, 82, 83, 84, 85, 86, 87, 88, 89, 90, 91, 92, 93, 94, 95, 96, 97, 98, 99, 100, 101, 102, 103, 104, 105, 106, 107, 108, 109, 110, 111, 112, 113, 114, 115, 116, 117, 118, 119, 120, 121, 122, 123, 124, 125, 126, 127, 128, 129, 130, 131, 132, 133, 134, 135, 136, 137, 138, 139, 140, 141, 142, 143, 144, 145, 146, 147, 148, 149, 150, 151, 152, 153, 154, 155, 156, 157, 158, 159, 160, 161, 162, 163, 164, 165, 166, 167, 168, 169, 170, 171, 172, 173, 174, 175, 176, 177, 178, 179, 180, 181, 182, 370, 371, 372, 373, 374, 375, 376, 377, 378, 379, 380, 381, 382, 383, 384, 390, 391, 392, 393, 394, 395, 396, 397, 385, 386, 387, 388, 389, 398, 399, 400, 401, 402, 403, 404, 405] (by decide +kernel) (by decide +kernel)
set_option maxRecDepth 20000 in
theorem gL_tries_X6_run : GoodIn wsL_tries (wsV RL 43 RX6 yX6_run wsX6_run) := goodIn_app (goodIn_of _ (by decide +kernel)) ggL_tries_X6_run
set_option maxRecDepth 20000 in
theorem ggL_tries_X6_undo : GoodIn wsL_tries wsX6_undo := goodIn_r _ [246, 205, 234, 12, 233, 240, 241, 9, 242, 16, 17, 18, 19, 20, 21, 22, 23, 24, 25, 26, 27, 28, 29, 30, 31, 32, 33, 34, 35, 36, 37, 38, 39, 40, 41, 42, 43, 44, 45, 46, 47, 48, 49, 50, 51, 52, 53, 54, 55, 56, 57, 58, 59, 60, 61, 62, 63, 64, 65, 66, 67, 68, 69, 70, 71, 72, 73, 74, 75, 76, 77, 370, 371, 372, 373, 374, 375, 376, 377, 378, 379, 380, 381, 382, 383, 384, 385, 386, 387, 388, 389, 390, 391, 392, 393, 394, 395, 396, 397, 398, 399, 400, 401, 402, 403, 404, 405] (by decide +kernel) (by decide +kernel)
set_option maxRecDepth 20000 in
theorem gL_tries_X6_undo : GoodIn wsL_tries (wsV RL 88 RX6 yX6_undo wsX6_undo) := goodIn_app (goodIn_of _ (by decide +kernel)) ggL_tries_X6_undo
set_option maxRecDepth 20000 in
theorem ggL_tries_X6_untilPassed : GoodIn wsL_tries wsX6_untilPassed := goodIn_r _ [250, 11, 12, 196, 251, 252, 253, 9, 254, 197, 13, 14, 15, 16, 17, 18, 19, 20, 21, 22, 23, 24, 25, 26, 27, 28, 29, 30, 31, 32, 33, 34, 35, 36, 37, 38, 39, 40, 41, 42, 43, 44, 45, 46, 47, 48, 49, 50, 51, 52, 53, 54, 55, 56, 57, 58, 59, 60, 61, 62, 63, 64, 65, 66, 67, 68, 69, 70, 71, 72, 73, 74, 75, 76, 77, 255, 136, 137, 138, 130, 96, 97, 98, 78, 79, 80, 81, 82, 83, 84, 85, 86, 87, 88, 89, 90, 91, 92, 93, 94, 95, 99, 100, 101, 102, 103, 104, 105, 106, 107, 108, 109, 110, 111, 112, 113, 114, 115, 116, 117, 118, 119, 120, 121, 122, 123, 124, 125, 126, 127, 128, 129, 131, 132, 133, 134, 135, 139, 140, 141, 142, 143, 144, 145, 146, 147, 148, 149, 150, 151, 152, 153, 154, 155, 156, 157, 158, 159, 160, 161, 162, 163, 164, 165, 166, 167, 168, 169, 170, 171, 172, 173, 174, 175, 176, 177, 178, 179, 180, 181, 182, 370, 371, 372, 373, 374, 375, 376, 377, 378, 379, 380, 381, 382, 383, 384, 398, 399, 400, 401, 402, 403, 404, 405, 385, 386, 387, 388, 389, 390, 391, 392, 393, 394, 395, 396, 397] (by decide +kernel) (by decide +kernel)
set_option maxRecDepth 20000 in
theorem gL_tries_X6_untilPassed : GoodIn wsL_tries (wsV RL 75 RX6 yX6_untilPassed wsX6_untilPassed) := goodIn_app (goodIn_of _ (by decide +kernel)) ggL_tries_X6_untilPassed
set_option maxRecDepth 20000 in
theorem ggL_tries_X6_word : GoodIn wsL_tries wsX6_word := goodIn_r _ [259, 12, 196, 260, 261, 262, 263, 251, 252, 253, 9, 254, 197, 13, 14, 15, 264, 265, 266, 19, 267, 22, 23, 268, 269, 270, 53, 271, 59, 114, 96, 97, 39, 98, 41, 272, 273, 274, 67, 275, 75, 130, 131, 132, 133, 134, 74, 276, 277, 278, 279, 280, 281, 255, 136, 137, 138, 71, 282, 283, 284, 285, 69, 70, 370, 371, 372, 373, 374, 375, 376, 377, 378, 379, 380, 381, 382, 383, 384, 398, 399, 400, 401, 402, 403, 404, 405, 390, 391, 392, 393, 394, 395, 396, 397, 389] (by decide +kernel) (by decide +kernel)
set_option maxRecDepth 20000 in
theorem gL_tries_X6_word : GoodIn wsL_tries (wsV RL 63 RX6 yX6_word wsX6_word) := goodIn_app (goodIn_of _ (by decide +kernel)) ggL_tries_X6_word
set_option maxRecDepth 20000 in
theorem ggL_tries_X6_gateOf : GoodIn wsL_tries wsX6_gateOf := goodIn_r _ [289, 12, 198, 290, 291, 292, 293, 195, 294, 295, 199, 201, 296, 297, 9, 298, 13, 14, 15, 281, 96, 97, 39, 98, 41, 299, 221, 222, 19, 223, 22, 21, 82, 83, 84, 30, 85, 86, 87, 88, 89, 35, 90, 91, 92, 93, 34, 32, 33, 94, 43, 44, 45, 95, 103, 104, 105, 53, 106, 107, 108, 109, 56, 110, 111, 112, 113, 58, 114, 370, 371, 372, 373, 374, 375, 376, 377, 378, 379, 380, 381, 382, 383, 384, 390, 391, 392, 393, 394, 395, 396, 397, 389, 385, 386, 387, 388] (by decide +kernel) (by decide +kernel)
set_option maxRecDepth 20000 in
theorem gL_tries_X6_gateOf : GoodIn wsL_tries (wsV RL 56 RX6 yX6_gateOf wsX6_gateOf) := goodIn_app (goodIn_of _ (by decide +kernel)) ggL_tries_X6_gateOf
set_option maxRecDepth 20000 in
theorem ggL_tries_X6_leastSlack : GoodIn wsL_tries wsX6_leastSlack := goodIn_r _ [303, 12, 196, 197, 198, 199, 296, 297, 9, 298, 13, 14, 15, 304, 305, 306, 307, 308, 309, 195, 310, 83, 84, 30, 85, 86, 87, 88, 89, 35, 90, 91, 92, 93, 34, 32, 33, 94, 43, 44, 45, 95, 96, 97, 39, 98, 41, 311, 144, 145, 146, 206, 188, 189, 190, 312, 313, 314, 315, 11, 291, 16, 17, 18, 19, 20, 21, 22, 23, 24, 25, 26, 27, 28, 29, 31, 36, 37, 38, 40, 42, 46, 47, 48, 49, 50, 51, 52, 53, 54, 55, 56, 57, 58, 59, 60, 61, 62, 63, 64, 65, 66, 67, 68, 69, 70, 71, 72, 73, 74, 75, 76, 77, 281, 316, 100, 101, 102, 103, 104, 105, 106, 107, 108, 109, 110, 111, 112, 113, 114, 115, 116, 117, 118, 119, 120, 121, 122, 123, 124, 125, 126, 127, 128, 129, 130, 131, 132, 133, 134, 135, 136, 137, 138, 139, 140, 141, 142, 143, 147, 148, 149, 150, 151, 152, 153, 154, 155, 156, 157, 158, 159, 160, 161, 162, 163, 164, 165, 166, 167, 168, 169, 170, 171, 172, 173, 174, 175, 176, 177, 178, 179, 180, 181, 182, 317, 318, 319, 320, 321, 370, 371, 372, 373, 374, 375, 376, 377, 378, 379, 380, 381, 382, 383, 384, 398, 399, 400, 401, 402, 403, 404, 405, 390, 391, 392, 393, 394, 395, 396, 397, 385, 386, 387, 388, 389] (by decide +kernel) (by decide +kernel)
set_option maxRecDepth 20000 in
theorem gL_tries_X6_leastSlack : GoodIn wsL_tries (wsV RL 91 RX6 yX6_leastSlack wsX6_leastSlack) := goodIn_app (goodIn_of _ (by decide +kernel)) ggL_tries_X6_leastSlack
set_option maxRecDepth 20000 in
theorem ggL_tries_X6_gate : GoodIn wsL_tries wsX6_gate := goodIn_r _ [325, 12, 198, 290, 291, 296, 297, 9, 298, 13, 14, 15, 326, 122, 123, 53, 124, 59, 114, 96, 97, 39, 98, 41, 281, 229, 230, 231, 232, 233, 234, 205, 235, 43, 44, 45, 236, 237, 238, 239, 240, 241, 242, 16, 17, 18, 19, 20, 21, 22, 23, 24, 25, 26, 27, 28, 29, 30, 31, 32, 33, 34, 35, 36, 37, 38, 40, 42, 46, 47, 48, 49, 50, 51, 52, 54, 55, 56, 57, 58, 60, 61, 62, 63, 64, 65, 66, 67, 68, 69, 70, 71, 72, 73, 74, 75, 76, 77, 327, 328, 329, 330, 163, 144, 145, 146, 370, 371, 372, 373, 374, 375, 376, 377, 378, 379, 380, 381, 382, 383, 384, 390, 391, 392, 393, 394, 395, 396, 397, 389, 385, 386, 387, 388, 398, 399, 400, 401, 402, 403, 404, 405] (by decide +kernel) (by decide +kernel)
set_option maxRecDepth 20000 in
theorem gL_tries_X6_gate : GoodIn wsL_tries (wsV RL 24 RX6 yX6_gate wsX6_gate) := goodIn_app (goodIn_of _ (by decide +kernel)) ggL_tries_X6_gate
set_option maxRecDepth 20000 in
theorem ggL_tries_X6_store : GoodIn wsL_tries wsX6_store := goodIn_r _ [334, 12, 309, 335, 336, 337, 338, 195, 196, 339, 340, 341, 9, 342, 13, 14, 15, 281, 96, 97, 39, 98, 41, 343, 91, 92, 30, 93, 34, 32, 33, 94, 43, 44, 45, 95, 344, 87, 88, 89, 35, 90, 345, 346, 347, 67, 348, 75, 69, 130, 131, 132, 133, 134, 74, 207, 208, 209, 210, 135, 136, 137, 138, 71, 370, 371, 372, 373, 374, 375, 376, 377, 378, 379, 380, 381, 382, 383, 384, 385, 386, 387, 388, 398, 399, 400, 401, 402, 403, 404, 405, 389] (by decide +kernel) (by decide +kernel)
set_option maxRecDepth 20000 in
theorem gL_tries_X6_store : GoodIn wsL_tries (wsV RL 46 RX6 yX6_store wsX6_store) := goodIn_app (goodIn_of _ (by decide +kernel)) ggL_tries_X6_store
set_option maxRecDepth 20000 in
theorem ggL_tries_X6_bestLie : GoodIn wsL_tries wsX6_bestLie := goodIn_r _ [352, 340, 341, 9, 342, 13, 14, 15, 296, 297, 298, 304, 305, 306, 307, 308, 12, 309, 195, 310, 83, 84, 30, 85, 86, 87, 88, 89, 35, 90, 91, 92, 93, 34, 32, 33, 94, 43, 44, 45, 95, 96, 97, 39, 98, 41, 311, 144, 145, 146, 353, 354, 355, 356, 338, 198, 291, 321, 108, 109, 281, 370, 371, 372, 373, 374, 375, 376, 377, 378, 379, 380, 381, 382, 383, 384, 385, 386, 387, 388, 389, 390, 391, 392, 393, 394, 395, 396, 397] (by decide +kernel) (by decide +kernel)
set_option maxRecDepth 20000 in
theorem gL_tries_X6_bestLie : GoodIn wsL_tries (wsV RL 94 RX6 yX6_bestLie wsX6_bestLie) := goodIn_app (goodIn_of _ (by decide +kernel)) ggL_tries_X6_bestLie
set_option maxRecDepth 20000 in
theorem ggL_tries_X6_gauge : GoodIn wsL_tries wsX6_gauge := goodIn_r _ [360, 12, 309, 338, 340, 341, 9, 342, 13, 14, 15, 229, 230, 231, 232, 233, 234, 205, 235, 43, 44, 45, 236, 237, 238, 239, 240, 241, 242, 16, 17, 18, 19, 20, 21, 22, 23, 24, 25, 26, 27, 28, 29, 30, 31, 32, 33, 34, 35, 36, 37, 38, 39, 40, 41, 42, 46, 47, 48, 49, 50, 51, 52, 53, 54, 55, 56, 57, 58, 59, 60, 61, 62, 63, 64, 65, 66, 67, 68, 69, 70, 71, 72, 73, 74, 75, 76, 77, 281, 96, 97, 98, 311, 144, 145, 146, 370, 371, 372, 373, 374, 375, 376, 377, 378, 379, 380, 381, 382, 383, 384, 385, 386, 387, 388, 389, 390, 391, 392, 393, 394, 395, 396, 397, 398, 399, 400, 401, 402, 403, 404, 405] (by decide +kernel) (by decide +kernel)
set_option maxRecDepth 20000 in
theorem gL_tries_X6_gauge : GoodIn wsL_tries (wsV RL 21 RX6 yX6_gauge wsX6_gauge) := goodIn_app (goodIn_of _ (by decide +kernel)) ggL_tries_X6_gauge
set_option maxRecDepth 20000 in
theorem ggL_tries_L_opens : GoodIn wsL_tries wsL_opens := goodIn_r _ [363, 191, 192, 193, 9, 194, 12, 195, 196, 197, 198, 199, 200, 201, 202, 203, 204, 205, 206, 188, 189, 39, 190, 41, 207, 208, 209, 67, 210, 75, 130, 96, 97, 98, 131, 132, 133, 134, 74, 135, 136, 137, 138, 71, 211, 212, 213, 53, 214, 215, 122, 123, 124, 59, 114, 216, 217, 218, 19, 219, 24, 220, 221, 222, 223, 22, 21, 82, 83, 84, 30, 85, 86, 87, 88, 89, 35, 90, 91, 92, 93, 34, 32, 33, 94, 43, 44, 45, 95, 103, 104, 105, 106, 107, 108, 109, 56, 110, 111, 112, 113, 58, 364, 365, 3, 366, 367, 368, 369, 331, 332, 333, 334, 309, 335, 336, 337, 338, 339, 340, 341, 342, 13, 14, 15, 281, 343, 344, 345, 346, 347, 348, 69, 370, 371, 372, 373, 374, 375, 376, 377, 378, 379, 380, 381, 382, 383, 384, 398, 399, 400, 401, 402, 403, 404, 405, 390, 391, 392, 393, 394, 395, 396, 397, 406, 407, 389, 385, 386, 387, 388] (by decide +kernel) (by decide +kernel)
set_option maxRecDepth 20000 in
theorem gL_tries_L_opens : GoodIn wsL_tries (va_wsS RL 97 yL_opens wsL_opens) := goodIn_app (goodIn_of _ (by decide +kernel)) ggL_tries_L_opens
theorem dL_tries_0 : decode cL_tries 0 = .ok (.iconst 1, 1) := by decide +kernel
theorem dL_tries_1 : decode cL_tries 1 = .ok (.iload_n 1, 1) := by decide +kernel
theorem dL_tries_2 : decode cL_tries 2 = .ok (.bipush 120, 2) := by decide +kernel
theorem dL_tries_4 : decode cL_tries 4 = .ok (.invokestatic 9, 3) := by decide +kernel
theorem dL_tries_7 : decode cL_tries 7 = .ok (.iadd, 1) := by decide +kernel
theorem dL_tries_8 : decode cL_tries 8 = .ok (.istore_n 2, 1) := by decide +kernel
theorem dL_tries_9 : decode cL_tries 9 = .ok (.aload_n 0, 1) := by decide +kernel
theorem dL_tries_10 : decode cL_tries 10 = .ok (.iload_n 2, 1) := by decide +kernel
theorem dL_tries_11 : decode cL_tries 11 = .ok (.iconst 0, 1) := by decide +kernel
theorem dL_tries_12 : decode cL_tries 12 = .ok (.invokevirtual 85, 3) := by decide +kernel
theorem dL_tries_15 : decode cL_tries 15 = .ok (.istore_n 3, 1) := by decide +kernel
theorem dL_tries_16 : decode cL_tries 16 = .ok (.aload_n 0, 1) := by decide +kernel
theorem dL_tries_17 : decode cL_tries 17 = .ok (.iload_n 2, 1) := by decide +kernel
theorem dL_tries_18 : decode cL_tries 18 = .ok (.iconst 1, 1) := by decide +kernel
theorem dL_tries_19 : decode cL_tries 19 = .ok (.invokevirtual 85, 3) := by decide +kernel
theorem dL_tries_22 : decode cL_tries 22 = .ok (.istore 4, 2) := by decide +kernel
theorem dL_tries_24 : decode cL_tries 24 = .ok (.aload_n 0, 1) := by decide +kernel
theorem dL_tries_25 : decode cL_tries 25 = .ok (.iload_n 2, 1) := by decide +kernel
theorem dL_tries_26 : decode cL_tries 26 = .ok (.iconst 3, 1) := by decide +kernel
theorem dL_tries_27 : decode cL_tries 27 = .ok (.invokevirtual 85, 3) := by decide +kernel
theorem dL_tries_30 : decode cL_tries 30 = .ok (.istore 5, 2) := by decide +kernel
theorem dL_tries_32 : decode cL_tries 32 = .ok (.aload_n 0, 1) := by decide +kernel
theorem dL_tries_33 : decode cL_tries 33 = .ok (.bipush 6, 2) := by decide +kernel
theorem dL_tries_35 : decode cL_tries 35 = .ok (.invokevirtual 53, 3) := by decide +kernel
theorem dL_tries_38 : decode cL_tries 38 = .ok (.istore 6, 2) := by decide +kernel
theorem dL_tries_40 : decode cL_tries 40 = .ok (.aload_n 0, 1) := by decide +kernel
theorem dL_tries_41 : decode cL_tries 41 = .ok (.bipush 8, 2) := by decide +kernel
theorem dL_tries_43 : decode cL_tries 43 = .ok (.invokevirtual 53, 3) := by decide +kernel
theorem dL_tries_46 : decode cL_tries 46 = .ok (.istore 7, 2) := by decide +kernel
theorem dL_tries_48 : decode cL_tries 48 = .ok (.aload_n 0, 1) := by decide +kernel
theorem dL_tries_49 : decode cL_tries 49 = .ok (.iconst 0, 1) := by decide +kernel
theorem dL_tries_50 : decode cL_tries 50 = .ok (.invokevirtual 53, 3) := by decide +kernel
theorem dL_tries_53 : decode cL_tries 53 = .ok (.istore 8, 2) := by decide +kernel
theorem dL_tries_55 : decode cL_tries 55 = .ok (.aload_n 0, 1) := by decide +kernel
theorem dL_tries_56 : decode cL_tries 56 = .ok (.iload_n 2, 1) := by decide +kernel
theorem dL_tries_57 : decode cL_tries 57 = .ok (.invokevirtual 43, 3) := by decide +kernel
theorem dL_tries_60 : decode cL_tries 60 = .ok (.iload_n 3, 1) := by decide +kernel
theorem dL_tries_61 : decode cL_tries 61 = .ok (.if_icmp .ne 52, 3) := by decide +kernel
theorem dL_tries_64 : decode cL_tries 64 = .ok (.aload_n 0, 1) := by decide +kernel
theorem dL_tries_65 : decode cL_tries 65 = .ok (.bipush 6, 2) := by decide +kernel
theorem dL_tries_67 : decode cL_tries 67 = .ok (.invokevirtual 53, 3) := by decide +kernel
theorem dL_tries_70 : decode cL_tries 70 = .ok (.iload 6, 2) := by decide +kernel
theorem dL_tries_72 : decode cL_tries 72 = .ok (.iload 4, 2) := by decide +kernel
theorem dL_tries_74 : decode cL_tries 74 = .ok (.iadd, 1) := by decide +kernel
theorem dL_tries_75 : decode cL_tries 75 = .ok (.if_icmp .ne 38, 3) := by decide +kernel
theorem dL_tries_78 : decode cL_tries 78 = .ok (.aload_n 0, 1) := by decide +kernel
theorem dL_tries_79 : decode cL_tries 79 = .ok (.bipush 8, 2) := by decide +kernel
theorem dL_tries_81 : decode cL_tries 81 = .ok (.invokevirtual 53, 3) := by decide +kernel
theorem dL_tries_84 : decode cL_tries 84 = .ok (.iload 7, 2) := by decide +kernel
theorem dL_tries_86 : decode cL_tries 86 = .ok (.iload 5, 2) := by decide +kernel
theorem dL_tries_88 : decode cL_tries 88 = .ok (.iadd, 1) := by decide +kernel
theorem dL_tries_89 : decode cL_tries 89 = .ok (.if_icmp .ne 24, 3) := by decide +kernel
theorem dL_tries_92 : decode cL_tries 92 = .ok (.aload_n 0, 1) := by decide +kernel
theorem dL_tries_93 : decode cL_tries 93 = .ok (.invokevirtual 88, 3) := by decide +kernel
theorem dL_tries_96 : decode cL_tries 96 = .ok (.ifCond .lt 17, 3) := by decide +kernel
theorem dL_tries_99 : decode cL_tries 99 = .ok (.aload_n 0, 1) := by decide +kernel
theorem dL_tries_100 : decode cL_tries 100 = .ok (.iconst 0, 1) := by decide +kernel
theorem dL_tries_101 : decode cL_tries 101 = .ok (.invokevirtual 53, 3) := by decide +kernel
theorem dL_tries_104 : decode cL_tries 104 = .ok (.iload 8, 2) := by decide +kernel
theorem dL_tries_106 : decode cL_tries 106 = .ok (.if_icmp .ne 7, 3) := by decide +kernel
theorem dL_tries_109 : decode cL_tries 109 = .ok (.iconst 1, 1) := by decide +kernel
theorem dL_tries_110 : decode cL_tries 110 = .ok (.goto 4, 3) := by decide +kernel
theorem dL_tries_113 : decode cL_tries 113 = .ok (.iconst 0, 1) := by decide +kernel
theorem dL_tries_114 : decode cL_tries 114 = .ok (.istore 9, 2) := by decide +kernel
theorem dL_tries_116 : decode cL_tries 116 = .ok (.iload_n 1, 1) := by decide +kernel
theorem dL_tries_117 : decode cL_tries 117 = .ok (.bipush 7, 2) := by decide +kernel
theorem dL_tries_119 : decode cL_tries 119 = .ok (.ishr, 1) := by decide +kernel
theorem dL_tries_120 : decode cL_tries 120 = .ok (.aload_n 0, 1) := by decide +kernel
theorem dL_tries_121 : decode cL_tries 121 = .ok (.iconst 1, 1) := by decide +kernel
theorem dL_tries_122 : decode cL_tries 122 = .ok (.invokevirtual 53, 3) := by decide +kernel
theorem dL_tries_125 : decode cL_tries 125 = .ok (.iconst 1, 1) := by decide +kernel
theorem dL_tries_126 : decode cL_tries 126 = .ok (.iadd, 1) := by decide +kernel
theorem dL_tries_127 : decode cL_tries 127 = .ok (.invokestatic 9, 3) := by decide +kernel
theorem dL_tries_130 : decode cL_tries 130 = .ok (.istore 10, 2) := by decide +kernel
theorem dL_tries_132 : decode cL_tries 132 = .ok (.aload_n 0, 1) := by decide +kernel
theorem dL_tries_133 : decode cL_tries 133 = .ok (.iload 10, 2) := by decide +kernel
theorem dL_tries_135 : decode cL_tries 135 = .ok (.invokevirtual 75, 3) := by decide +kernel
theorem dL_tries_138 : decode cL_tries 138 = .ok (.istore 11, 2) := by decide +kernel
theorem dL_tries_140 : decode cL_tries 140 = .ok (.iload 9, 2) := by decide +kernel
theorem dL_tries_142 : decode cL_tries 142 = .ok (.ifCond .eq 102, 3) := by decide +kernel
theorem dL_tries_145 : decode cL_tries 145 = .ok (.iload 11, 2) := by decide +kernel
theorem dL_tries_147 : decode cL_tries 147 = .ok (.ifCond .le 97, 3) := by decide +kernel
theorem dL_tries_150 : decode cL_tries 150 = .ok (.iload 11, 2) := by decide +kernel
theorem dL_tries_152 : decode cL_tries 152 = .ok (.sipush 500, 3) := by decide +kernel
theorem dL_tries_155 : decode cL_tries 155 = .ok (.if_icmp .gt 89, 3) := by decide +kernel
theorem dL_tries_158 : decode cL_tries 158 = .ok (.aload_n 0, 1) := by decide +kernel
theorem dL_tries_159 : decode cL_tries 159 = .ok (.iload 11, 2) := by decide +kernel
theorem dL_tries_161 : decode cL_tries 161 = .ok (.invokevirtual 43, 3) := by decide +kernel
theorem dL_tries_164 : decode cL_tries 164 = .ok (.iconst 1, 1) := by decide +kernel
theorem dL_tries_165 : decode cL_tries 165 = .ok (.if_icmp .lt 76, 3) := by decide +kernel
theorem dL_tries_168 : decode cL_tries 168 = .ok (.aload_n 0, 1) := by decide +kernel
theorem dL_tries_169 : decode cL_tries 169 = .ok (.iload 10, 2) := by decide +kernel
theorem dL_tries_171 : decode cL_tries 171 = .ok (.iconst 3, 1) := by decide +kernel
theorem dL_tries_172 : decode cL_tries 172 = .ok (.invokevirtual 63, 3) := by decide +kernel
theorem dL_tries_175 : decode cL_tries 175 = .ok (.iconst 1, 1) := by decide +kernel
theorem dL_tries_176 : decode cL_tries 176 = .ok (.if_icmp .ne 65, 3) := by decide +kernel
theorem dL_tries_179 : decode cL_tries 179 = .ok (.aload_n 0, 1) := by decide +kernel
theorem dL_tries_180 : decode cL_tries 180 = .ok (.iload 10, 2) := by decide +kernel
theorem dL_tries_182 : decode cL_tries 182 = .ok (.iconst 4, 1) := by decide +kernel
theorem dL_tries_183 : decode cL_tries 183 = .ok (.invokevirtual 63, 3) := by decide +kernel
theorem dL_tries_186 : decode cL_tries 186 = .ok (.iload 8, 2) := by decide +kernel
theorem dL_tries_188 : decode cL_tries 188 = .ok (.iload 11, 2) := by decide +kernel
theorem dL_tries_190 : decode cL_tries 190 = .ok (.iadd, 1) := by decide +kernel
theorem dL_tries_191 : decode cL_tries 191 = .ok (.iconst 1, 1) := by decide +kernel
theorem dL_tries_192 : decode cL_tries 192 = .ok (.isub, 1) := by decide +kernel
theorem dL_tries_193 : decode cL_tries 193 = .ok (.if_icmp .ne 48, 3) := by decide +kernel
theorem dL_tries_196 : decode cL_tries 196 = .ok (.aload_n 0, 1) := by decide +kernel
theorem dL_tries_197 : decode cL_tries 197 = .ok (.invokevirtual 88, 3) := by decide +kernel
theorem dL_tries_200 : decode cL_tries 200 = .ok (.ifCond .lt 41, 3) := by decide +kernel
theorem dL_tries_203 : decode cL_tries 203 = .ok (.iload 11, 2) := by decide +kernel
theorem dL_tries_205 : decode cL_tries 205 = .ok (.iconst 1, 1) := by decide +kernel
theorem dL_tries_206 : decode cL_tries 206 = .ok (.if_icmp .eq 31, 3) := by decide +kernel
theorem dL_tries_209 : decode cL_tries 209 = .ok (.aload_n 0, 1) := by decide +kernel
theorem dL_tries_210 : decode cL_tries 210 = .ok (.iload 11, 2) := by decide +kernel
theorem dL_tries_212 : decode cL_tries 212 = .ok (.iconst 1, 1) := by decide +kernel
theorem dL_tries_213 : decode cL_tries 213 = .ok (.isub, 1) := by decide +kernel
theorem dL_tries_214 : decode cL_tries 214 = .ok (.invokevirtual 43, 3) := by decide +kernel
theorem dL_tries_217 : decode cL_tries 217 = .ok (.ifCond .lt 24, 3) := by decide +kernel
theorem dL_tries_220 : decode cL_tries 220 = .ok (.aload_n 0, 1) := by decide +kernel
theorem dL_tries_221 : decode cL_tries 221 = .ok (.iload 10, 2) := by decide +kernel
theorem dL_tries_223 : decode cL_tries 223 = .ok (.iconst 3, 1) := by decide +kernel
theorem dL_tries_224 : decode cL_tries 224 = .ok (.invokevirtual 63, 3) := by decide +kernel
theorem dL_tries_227 : decode cL_tries 227 = .ok (.ifCond .ne 14, 3) := by decide +kernel
theorem dL_tries_230 : decode cL_tries 230 = .ok (.aload_n 0, 1) := by decide +kernel
theorem dL_tries_231 : decode cL_tries 231 = .ok (.invokevirtual 88, 3) := by decide +kernel
theorem dL_tries_234 : decode cL_tries 234 = .ok (.ifCond .lt 7, 3) := by decide +kernel
theorem dL_tries_237 : decode cL_tries 237 = .ok (.iconst 1, 1) := by decide +kernel
theorem dL_tries_238 : decode cL_tries 238 = .ok (.goto 4, 3) := by decide +kernel
theorem dL_tries_241 : decode cL_tries 241 = .ok (.iconst 0, 1) := by decide +kernel
theorem dL_tries_242 : decode cL_tries 242 = .ok (.istore 9, 2) := by decide +kernel
theorem dL_tries_244 : decode cL_tries 244 = .ok (.iload_n 1, 1) := by decide +kernel
theorem dL_tries_245 : decode cL_tries 245 = .ok (.bipush 11, 2) := by decide +kernel
theorem dL_tries_247 : decode cL_tries 247 = .ok (.ishr, 1) := by decide +kernel
theorem dL_tries_248 : decode cL_tries 248 = .ok (.iconst 4, 1) := by decide +kernel
theorem dL_tries_249 : decode cL_tries 249 = .ok (.invokestatic 9, 3) := by decide +kernel
theorem dL_tries_252 : decode cL_tries 252 = .ok (.istore 12, 2) := by decide +kernel
theorem dL_tries_254 : decode cL_tries 254 = .ok (.aload_n 0, 1) := by decide +kernel
theorem dL_tries_255 : decode cL_tries 255 = .ok (.iload 12, 2) := by decide +kernel
theorem dL_tries_257 : decode cL_tries 257 = .ok (.iconst 0, 1) := by decide +kernel
theorem dL_tries_258 : decode cL_tries 258 = .ok (.invokevirtual 56, 3) := by decide +kernel
theorem dL_tries_261 : decode cL_tries 261 = .ok (.istore 13, 2) := by decide +kernel
theorem dL_tries_263 : decode cL_tries 263 = .ok (.aload_n 0, 1) := by decide +kernel
theorem dL_tries_264 : decode cL_tries 264 = .ok (.iload 12, 2) := by decide +kernel
theorem dL_tries_266 : decode cL_tries 266 = .ok (.iconst 1, 1) := by decide +kernel
theorem dL_tries_267 : decode cL_tries 267 = .ok (.invokevirtual 56, 3) := by decide +kernel
theorem dL_tries_270 : decode cL_tries 270 = .ok (.istore 14, 2) := by decide +kernel
theorem dL_tries_272 : decode cL_tries 272 = .ok (.aload_n 0, 1) := by decide +kernel
theorem dL_tries_273 : decode cL_tries 273 = .ok (.iload 12, 2) := by decide +kernel
theorem dL_tries_275 : decode cL_tries 275 = .ok (.iconst 2, 1) := by decide +kernel
theorem dL_tries_276 : decode cL_tries 276 = .ok (.invokevirtual 56, 3) := by decide +kernel
theorem dL_tries_279 : decode cL_tries 279 = .ok (.istore 15, 2) := by decide +kernel
theorem dL_tries_281 : decode cL_tries 281 = .ok (.aload_n 0, 1) := by decide +kernel
theorem dL_tries_282 : decode cL_tries 282 = .ok (.iload 12, 2) := by decide +kernel
theorem dL_tries_284 : decode cL_tries 284 = .ok (.iconst 0, 1) := by decide +kernel
theorem dL_tries_285 : decode cL_tries 285 = .ok (.invokevirtual 91, 3) := by decide +kernel
theorem dL_tries_288 : decode cL_tries 288 = .ok (.istore 16, 2) := by decide +kernel
theorem dL_tries_290 : decode cL_tries 290 = .ok (.aload_n 0, 1) := by decide +kernel
theorem dL_tries_291 : decode cL_tries 291 = .ok (.iload 12, 2) := by decide +kernel
theorem dL_tries_293 : decode cL_tries 293 = .ok (.iconst 1, 1) := by decide +kernel
theorem dL_tries_294 : decode cL_tries 294 = .ok (.invokevirtual 91, 3) := by decide +kernel
theorem dL_tries_297 : decode cL_tries 297 = .ok (.istore 17, 2) := by decide +kernel
theorem dL_tries_299 : decode cL_tries 299 = .ok (.iload_n 1, 1) := by decide +kernel
theorem dL_tries_300 : decode cL_tries 300 = .ok (.bipush 13, 2) := by decide +kernel
theorem dL_tries_302 : decode cL_tries 302 = .ok (.ishr, 1) := by decide +kernel
theorem dL_tries_303 : decode cL_tries 303 = .ok (.bipush 100, 2) := by decide +kernel
theorem dL_tries_305 : decode cL_tries 305 = .ok (.invokestatic 9, 3) := by decide +kernel
theorem dL_tries_308 : decode cL_tries 308 = .ok (.istore 18, 2) := by decide +kernel
theorem dL_tries_310 : decode cL_tries 310 = .ok (.iload 9, 2) := by decide +kernel
theorem dL_tries_312 : decode cL_tries 312 = .ok (.ifCond .eq 101, 3) := by decide +kernel
theorem dL_tries_315 : decode cL_tries 315 = .ok (.aload_n 0, 1) := by decide +kernel
theorem dL_tries_316 : decode cL_tries 316 = .ok (.iload 12, 2) := by decide +kernel
theorem dL_tries_318 : decode cL_tries 318 = .ok (.iload 13, 2) := by decide +kernel
theorem dL_tries_320 : decode cL_tries 320 = .ok (.iload 16, 2) := by decide +kernel
theorem dL_tries_322 : decode cL_tries 322 = .ok (.iload 15, 2) := by decide +kernel
theorem dL_tries_324 : decode cL_tries 324 = .ok (.invokevirtual 24, 3) := by decide +kernel
theorem dL_tries_327 : decode cL_tries 327 = .ok (.iload 14, 2) := by decide +kernel
theorem dL_tries_329 : decode cL_tries 329 = .ok (.if_icmp .ne 84, 3) := by decide +kernel
theorem dL_tries_332 : decode cL_tries 332 = .ok (.aload_n 0, 1) := by decide +kernel
theorem dL_tries_333 : decode cL_tries 333 = .ok (.sipush 200, 3) := by decide +kernel
theorem dL_tries_336 : decode cL_tries 336 = .ok (.iconst 0, 1) := by decide +kernel
theorem dL_tries_337 : decode cL_tries 337 = .ok (.invokevirtual 85, 3) := by decide +kernel
theorem dL_tries_340 : decode cL_tries 340 = .ok (.iload 17, 2) := by decide +kernel
theorem dL_tries_342 : decode cL_tries 342 = .ok (.if_icmp .ne 71, 3) := by decide +kernel
theorem dL_tries_345 : decode cL_tries 345 = .ok (.aload_n 0, 1) := by decide +kernel
theorem dL_tries_346 : decode cL_tries 346 = .ok (.iload 12, 2) := by decide +kernel
theorem dL_tries_348 : decode cL_tries 348 = .ok (.iload 13, 2) := by decide +kernel
theorem dL_tries_350 : decode cL_tries 350 = .ok (.iload 18, 2) := by decide +kernel
theorem dL_tries_352 : decode cL_tries 352 = .ok (.iload 15, 2) := by decide +kernel
theorem dL_tries_354 : decode cL_tries 354 = .ok (.invokevirtual 24, 3) := by decide +kernel
theorem dL_tries_357 : decode cL_tries 357 = .ok (.iload 16, 2) := by decide +kernel
theorem dL_tries_359 : decode cL_tries 359 = .ok (.if_icmp .ne 54, 3) := by decide +kernel
theorem dL_tries_362 : decode cL_tries 362 = .ok (.aload_n 0, 1) := by decide +kernel
theorem dL_tries_363 : decode cL_tries 363 = .ok (.sipush 200, 3) := by decide +kernel
theorem dL_tries_366 : decode cL_tries 366 = .ok (.iconst 0, 1) := by decide +kernel
theorem dL_tries_367 : decode cL_tries 367 = .ok (.invokevirtual 85, 3) := by decide +kernel
theorem dL_tries_370 : decode cL_tries 370 = .ok (.iload 17, 2) := by decide +kernel
theorem dL_tries_372 : decode cL_tries 372 = .ok (.if_icmp .lt 23, 3) := by decide +kernel
theorem dL_tries_375 : decode cL_tries 375 = .ok (.aload_n 0, 1) := by decide +kernel
theorem dL_tries_376 : decode cL_tries 376 = .ok (.sipush 200, 3) := by decide +kernel
theorem dL_tries_379 : decode cL_tries 379 = .ok (.iconst 0, 1) := by decide +kernel
theorem dL_tries_380 : decode cL_tries 380 = .ok (.invokevirtual 85, 3) := by decide +kernel
theorem dL_tries_383 : decode cL_tries 383 = .ok (.iload 17, 2) := by decide +kernel
theorem dL_tries_385 : decode cL_tries 385 = .ok (.if_icmp .ne 28, 3) := by decide +kernel
theorem dL_tries_388 : decode cL_tries 388 = .ok (.iload 18, 2) := by decide +kernel
theorem dL_tries_390 : decode cL_tries 390 = .ok (.iload 16, 2) := by decide +kernel
theorem dL_tries_392 : decode cL_tries 392 = .ok (.if_icmp .lt 21, 3) := by decide +kernel
theorem dL_tries_395 : decode cL_tries 395 = .ok (.aload_n 0, 1) := by decide +kernel
theorem dL_tries_396 : decode cL_tries 396 = .ok (.invokevirtual 88, 3) := by decide +kernel
theorem dL_tries_399 : decode cL_tries 399 = .ok (.ifCond .lt 14, 3) := by decide +kernel
theorem dL_tries_402 : decode cL_tries 402 = .ok (.aload_n 0, 1) := by decide +kernel
theorem dL_tries_403 : decode cL_tries 403 = .ok (.invokevirtual 88, 3) := by decide +kernel
theorem dL_tries_406 : decode cL_tries 406 = .ok (.ifCond .lt 7, 3) := by decide +kernel
theorem dL_tries_409 : decode cL_tries 409 = .ok (.iconst 1, 1) := by decide +kernel
theorem dL_tries_410 : decode cL_tries 410 = .ok (.goto 4, 3) := by decide +kernel
theorem dL_tries_413 : decode cL_tries 413 = .ok (.iconst 0, 1) := by decide +kernel
theorem dL_tries_414 : decode cL_tries 414 = .ok (.istore 9, 2) := by decide +kernel
theorem dL_tries_416 : decode cL_tries 416 = .ok (.iload_n 1, 1) := by decide +kernel
theorem dL_tries_417 : decode cL_tries 417 = .ok (.bipush 20, 2) := by decide +kernel
theorem dL_tries_419 : decode cL_tries 419 = .ok (.ishr, 1) := by decide +kernel
theorem dL_tries_420 : decode cL_tries 420 = .ok (.iconst 1, 1) := by decide +kernel
theorem dL_tries_421 : decode cL_tries 421 = .ok (.iand, 1) := by decide +kernel
theorem dL_tries_422 : decode cL_tries 422 = .ok (.istore 19, 2) := by decide +kernel
theorem dL_tries_424 : decode cL_tries 424 = .ok (.aload_n 0, 1) := by decide +kernel
theorem dL_tries_425 : decode cL_tries 425 = .ok (.iload 19, 2) := by decide +kernel
theorem dL_tries_427 : decode cL_tries 427 = .ok (.iconst 3, 1) := by decide +kernel
theorem dL_tries_428 : decode cL_tries 428 = .ok (.invokevirtual 46, 3) := by decide +kernel
theorem dL_tries_431 : decode cL_tries 431 = .ok (.istore 20, 2) := by decide +kernel
theorem dL_tries_433 : decode cL_tries 433 = .ok (.aload_n 0, 1) := by decide +kernel
theorem dL_tries_434 : decode cL_tries 434 = .ok (.iload 19, 2) := by decide +kernel
theorem dL_tries_436 : decode cL_tries 436 = .ok (.iload 12, 2) := by decide +kernel
theorem dL_tries_438 : decode cL_tries 438 = .ok (.invokevirtual 94, 3) := by decide +kernel
theorem dL_tries_441 : decode cL_tries 441 = .ok (.istore 21, 2) := by decide +kernel
theorem dL_tries_443 : decode cL_tries 443 = .ok (.iload_n 1, 1) := by decide +kernel
theorem dL_tries_444 : decode cL_tries 444 = .ok (.bipush 13, 2) := by decide +kernel
theorem dL_tries_446 : decode cL_tries 446 = .ok (.ishr, 1) := by decide +kernel
theorem dL_tries_447 : decode cL_tries 447 = .ok (.bipush 101, 2) := by decide +kernel
theorem dL_tries_449 : decode cL_tries 449 = .ok (.invokestatic 9, 3) := by decide +kernel
theorem dL_tries_452 : decode cL_tries 452 = .ok (.bipush 50, 2) := by decide +kernel
theorem dL_tries_454 : decode cL_tries 454 = .ok (.isub, 1) := by decide +kernel
theorem dL_tries_455 : decode cL_tries 455 = .ok (.istore 22, 2) := by decide +kernel
theorem dL_tries_457 : decode cL_tries 457 = .ok (.iload 9, 2) := by decide +kernel
theorem dL_tries_459 : decode cL_tries 459 = .ok (.ifCond .eq 20, 3) := by decide +kernel
theorem dL_tries_462 : decode cL_tries 462 = .ok (.aload_n 0, 1) := by decide +kernel
theorem dL_tries_463 : decode cL_tries 463 = .ok (.iload 19, 2) := by decide +kernel
theorem dL_tries_465 : decode cL_tries 465 = .ok (.iload 21, 2) := by decide +kernel
theorem dL_tries_467 : decode cL_tries 467 = .ok (.invokevirtual 21, 3) := by decide +kernel
theorem dL_tries_470 : decode cL_tries 470 = .ok (.iload 20, 2) := by decide +kernel
theorem dL_tries_472 : decode cL_tries 472 = .ok (.if_icmp .ne 7, 3) := by decide +kernel
theorem dL_tries_475 : decode cL_tries 475 = .ok (.iconst 1, 1) := by decide +kernel
theorem dL_tries_476 : decode cL_tries 476 = .ok (.goto 4, 3) := by decide +kernel
theorem dL_tries_479 : decode cL_tries 479 = .ok (.iconst 0, 1) := by decide +kernel
theorem dL_tries_480 : decode cL_tries 480 = .ok (.istore 9, 2) := by decide +kernel
theorem dL_tries_482 : decode cL_tries 482 = .ok (.aload_n 0, 1) := by decide +kernel
theorem dL_tries_483 : decode cL_tries 483 = .ok (.iload 14, 2) := by decide +kernel
theorem dL_tries_485 : decode cL_tries 485 = .ok (.invokestatic 97, 3) := by decide +kernel
theorem dL_tries_488 : decode cL_tries 488 = .ok (.istore 23, 2) := by decide +kernel
theorem dL_tries_490 : decode cL_tries 490 = .ok (.iload 9, 2) := by decide +kernel
theorem dL_tries_492 : decode cL_tries 492 = .ok (.ifCond .eq 20, 3) := by decide +kernel
theorem dL_tries_495 : decode cL_tries 495 = .ok (.aload_n 0, 1) := by decide +kernel
theorem dL_tries_496 : decode cL_tries 496 = .ok (.iload 19, 2) := by decide +kernel
theorem dL_tries_498 : decode cL_tries 498 = .ok (.iload 22, 2) := by decide +kernel
theorem dL_tries_500 : decode cL_tries 500 = .ok (.invokevirtual 21, 3) := by decide +kernel
theorem dL_tries_503 : decode cL_tries 503 = .ok (.iload 21, 2) := by decide +kernel
theorem dL_tries_505 : decode cL_tries 505 = .ok (.if_icmp .ne 7, 3) := by decide +kernel
theorem dL_tries_508 : decode cL_tries 508 = .ok (.iconst 1, 1) := by decide +kernel
theorem dL_tries_509 : decode cL_tries 509 = .ok (.goto 4, 3) := by decide +kernel
theorem dL_tries_512 : decode cL_tries 512 = .ok (.iconst 0, 1) := by decide +kernel
theorem dL_tries_513 : decode cL_tries 513 = .ok (.istore 9, 2) := by decide +kernel
theorem dL_tries_515 : decode cL_tries 515 = .ok (.aload_n 0, 1) := by decide +kernel
theorem dL_tries_516 : decode cL_tries 516 = .ok (.iload 14, 2) := by decide +kernel
theorem dL_tries_518 : decode cL_tries 518 = .ok (.invokestatic 97, 3) := by decide +kernel
theorem dL_tries_521 : decode cL_tries 521 = .ok (.istore 24, 2) := by decide +kernel
theorem dL_tries_523 : decode cL_tries 523 = .ok (.iload 22, 2) := by decide +kernel
theorem dL_tries_525 : decode cL_tries 525 = .ok (.iload 22, 2) := by decide +kernel
theorem dL_tries_527 : decode cL_tries 527 = .ok (.imul, 1) := by decide +kernel
theorem dL_tries_528 : decode cL_tries 528 = .ok (.iload 21, 2) := by decide +kernel
theorem dL_tries_530 : decode cL_tries 530 = .ok (.iload 21, 2) := by decide +kernel
theorem dL_tries_532 : decode cL_tries 532 = .ok (.imul, 1) := by decide +kernel
theorem dL_tries_533 : decode cL_tries 533 = .ok (.if_icmp .gt 23, 3) := by decide +kernel
theorem dL_tries_536 : decode cL_tries 536 = .ok (.iload 22, 2) := by decide +kernel
theorem dL_tries_538 : decode cL_tries 538 = .ok (.iload 22, 2) := by decide +kernel
theorem dL_tries_540 : decode cL_tries 540 = .ok (.imul, 1) := by decide +kernel
theorem dL_tries_541 : decode cL_tries 541 = .ok (.iload 21, 2) := by decide +kernel
theorem dL_tries_543 : decode cL_tries 543 = .ok (.iload 21, 2) := by decide +kernel
theorem dL_tries_545 : decode cL_tries 545 = .ok (.imul, 1) := by decide +kernel
theorem dL_tries_546 : decode cL_tries 546 = .ok (.if_icmp .ne 14, 3) := by decide +kernel
theorem dL_tries_549 : decode cL_tries 549 = .ok (.iload 22, 2) := by decide +kernel
theorem dL_tries_551 : decode cL_tries 551 = .ok (.iload 21, 2) := by decide +kernel
theorem dL_tries_553 : decode cL_tries 553 = .ok (.if_icmp .lt 7, 3) := by decide +kernel
theorem dL_tries_556 : decode cL_tries 556 = .ok (.iconst 1, 1) := by decide +kernel
theorem dL_tries_557 : decode cL_tries 557 = .ok (.goto 4, 3) := by decide +kernel
theorem dL_tries_560 : decode cL_tries 560 = .ok (.iconst 0, 1) := by decide +kernel
theorem dL_tries_561 : decode cL_tries 561 = .ok (.istore 25, 2) := by decide +kernel
theorem dL_tries_563 : decode cL_tries 563 = .ok (.iload 9, 2) := by decide +kernel
theorem dL_tries_565 : decode cL_tries 565 = .ok (.ifCond .eq 52, 3) := by decide +kernel
theorem dL_tries_568 : decode cL_tries 568 = .ok (.iload 24, 2) := by decide +kernel
theorem dL_tries_570 : decode cL_tries 570 = .ok (.iload 23, 2) := by decide +kernel
theorem dL_tries_572 : decode cL_tries 572 = .ok (.if_icmp .lt 15, 3) := by decide +kernel
theorem dL_tries_575 : decode cL_tries 575 = .ok (.iload 24, 2) := by decide +kernel
theorem dL_tries_577 : decode cL_tries 577 = .ok (.iload 23, 2) := by decide +kernel
theorem dL_tries_579 : decode cL_tries 579 = .ok (.if_icmp .ne 38, 3) := by decide +kernel
theorem dL_tries_582 : decode cL_tries 582 = .ok (.iload 25, 2) := by decide +kernel
theorem dL_tries_584 : decode cL_tries 584 = .ok (.ifCond .eq 33, 3) := by decide +kernel
theorem dL_tries_587 : decode cL_tries 587 = .ok (.aload_n 0, 1) := by decide +kernel
theorem dL_tries_588 : decode cL_tries 588 = .ok (.invokevirtual 88, 3) := by decide +kernel
theorem dL_tries_591 : decode cL_tries 591 = .ok (.ifCond .lt 26, 3) := by decide +kernel
theorem dL_tries_594 : decode cL_tries 594 = .ok (.aload_n 0, 1) := by decide +kernel
theorem dL_tries_595 : decode cL_tries 595 = .ok (.invokevirtual 88, 3) := by decide +kernel
theorem dL_tries_598 : decode cL_tries 598 = .ok (.ifCond .lt 19, 3) := by decide +kernel
theorem dL_tries_601 : decode cL_tries 601 = .ok (.aload_n 0, 1) := by decide +kernel
theorem dL_tries_602 : decode cL_tries 602 = .ok (.iload 19, 2) := by decide +kernel
theorem dL_tries_604 : decode cL_tries 604 = .ok (.iconst 3, 1) := by decide +kernel
theorem dL_tries_605 : decode cL_tries 605 = .ok (.invokevirtual 46, 3) := by decide +kernel
theorem dL_tries_608 : decode cL_tries 608 = .ok (.iload 20, 2) := by decide +kernel
theorem dL_tries_610 : decode cL_tries 610 = .ok (.if_icmp .ne 7, 3) := by decide +kernel
theorem dL_tries_613 : decode cL_tries 613 = .ok (.iconst 1, 1) := by decide +kernel
theorem dL_tries_614 : decode cL_tries 614 = .ok (.goto 4, 3) := by decide +kernel
theorem dL_tries_617 : decode cL_tries 617 = .ok (.iconst 0, 1) := by decide +kernel
theorem dL_tries_618 : decode cL_tries 618 = .ok (.ireturn, 1) := by decide +kernel
set_option maxRecDepth 20000 in
theorem ggL_opens_X6_count : GoodIn wsL_opens wsX6_count := goodIn_r _ [5, 6, 7, 8, 9, 10, 11, 12, 13, 14, 15, 16, 17, 18, 19, 20, 21, 22, 23, 24, 25, 26, 27, 28, 29, 30, 31, 32, 33, 34, 35, 36, 37, 38, 39, 40, 41, 42, 43, 44, 45, 46, 47, 48, 49, 50, 51, 52, 53, 54, 55, 56, 57, 58, 59, 60, 61, 62, 63, 64, 65, 66, 67, 68, 69, 70, 71, 72, 73, 74, 75, 76, 77, 78, 79, 80, 81, 82, 83, 84, 85, 86, 87, 88, 89, 90, 91, 92, 93, 94, 95, 96, 97, 98, 99, 100, 101, 133, 134, 135, 136, 137, 138, 139, 140, 141, 142, 143, 144, 145, 146, 147, 148, 149, 150, 151, 152, 153, 154, 155, 156, 157, 158, 159, 160, 161, 162, 163, 164, 165, 166, 167, 168, 169, 170] (by decide +kernel) (by decide +kernel)
set_option maxRecDepth 20000 in
theorem gL_opens_X6_count : GoodIn wsL_opens (wsV RL 53 RX6 yX6_count wsX6_count) := goodIn_app (goodIn_of _ (by decide +kernel)) ggL_opens_X6_count
set_option maxRecDepth 20000 in
theorem ggL_opens_L_off : GoodIn wsL_opens wsL_off := goodIn_r _ [105, 106, 107, 104, 108, 109, 110, 111, 4, 112, 6, 113, 114, 115, 116, 117, 7, 8, 118, 119, 120, 121, 122, 123, 124, 125, 31, 32, 21, 33, 23, 126, 78, 79, 70, 80, 81, 82, 83, 84, 85, 86, 87, 88, 127, 73, 74, 75, 76, 77, 128, 129, 130, 27, 131, 29, 132, 30, 34, 35, 36, 37, 38, 24, 25, 26, 28, 39, 40, 41, 42, 43, 133, 134, 135, 136, 137, 138, 139, 140, 141, 142, 143, 144, 145, 146, 147, 167, 168, 169, 170, 148, 149, 150, 151, 152, 153, 154, 155, 166] (by decide +kernel) (by decide +kernel)
set_option maxRecDepth 20000 in
theorem gL_opens_L_off : GoodIn wsL_opens (va_wsS RL 59 yL_off wsL_off) := goodIn_app (goodIn_of _ (by decide +kernel)) ggL_opens_L_off
theorem dL_opens_0 : decode cL_opens 0 = .ok (.iconst 0, 1) := by decide +kernel
theorem dL_opens_1 : decode cL_opens 1 = .ok (.istore_n 2, 1) := by decide +kernel
theorem dL_opens_2 : decode cL_opens 2 = .ok (.iconst 0, 1) := by decide +kernel
theorem dL_opens_3 : decode cL_opens 3 = .ok (.istore_n 3, 1) := by decide +kernel
theorem dL_opens_4 : decode cL_opens 4 = .ok (.iload_n 3, 1) := by decide +kernel
theorem dL_opens_5 : decode cL_opens 5 = .ok (.sipush 200, 3) := by decide +kernel
theorem dL_opens_8 : decode cL_opens 8 = .ok (.if_icmp .ge 32, 3) := by decide +kernel
theorem dL_opens_11 : decode cL_opens 11 = .ok (.iload_n 2, 1) := by decide +kernel
theorem dL_opens_12 : decode cL_opens 12 = .ok (.aload_n 0, 1) := by decide +kernel
theorem dL_opens_13 : decode cL_opens 13 = .ok (.aload_n 0, 1) := by decide +kernel
theorem dL_opens_14 : decode cL_opens 14 = .ok (.iconst 0, 1) := by decide +kernel
theorem dL_opens_15 : decode cL_opens 15 = .ok (.invokevirtual 53, 3) := by decide +kernel
theorem dL_opens_18 : decode cL_opens 18 = .ok (.iload_n 3, 1) := by decide +kernel
theorem dL_opens_19 : decode cL_opens 19 = .ok (.iadd, 1) := by decide +kernel
theorem dL_opens_20 : decode cL_opens 20 = .ok (.invokestatic 59, 3) := by decide +kernel
theorem dL_opens_23 : decode cL_opens 23 = .ok (.iload_n 1, 1) := by decide +kernel
theorem dL_opens_24 : decode cL_opens 24 = .ok (.if_icmp .gt 7, 3) := by decide +kernel
theorem dL_opens_27 : decode cL_opens 27 = .ok (.iconst 1, 1) := by decide +kernel
theorem dL_opens_28 : decode cL_opens 28 = .ok (.goto 4, 3) := by decide +kernel
theorem dL_opens_31 : decode cL_opens 31 = .ok (.iconst 0, 1) := by decide +kernel
theorem dL_opens_32 : decode cL_opens 32 = .ok (.iadd, 1) := by decide +kernel
theorem dL_opens_33 : decode cL_opens 33 = .ok (.istore_n 2, 1) := by decide +kernel
theorem dL_opens_34 : decode cL_opens 34 = .ok (.iinc 3 1, 3) := by decide +kernel
theorem dL_opens_37 : decode cL_opens 37 = .ok (.goto (-33), 3) := by decide +kernel
theorem dL_opens_40 : decode cL_opens 40 = .ok (.iload_n 2, 1) := by decide +kernel
theorem dL_opens_41 : decode cL_opens 41 = .ok (.ireturn, 1) := by decide +kernel
