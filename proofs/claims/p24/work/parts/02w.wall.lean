section
/-- the words of all methods, in one list -/
def wl_0 : List Cond := [.fieldLink RX8 7 "WornLinesModel" "tape" "[I", .fieldLink RX8 159 "WornLinesModel" "taped" "I", .constantLong RX8 157 (255), .fieldLink RX8 153 "WornLinesModel" "thrown" "I", .fieldLink RX8 162 "WornLinesModel" "size" "I", .fieldLink RX8 178 "WornLinesModel" "token" "I", .fieldLink RX8 165 "WornLinesModel" "place" "I", .fieldLink RX8 168 "WornLinesModel" "begin" "I", .fieldLink RX8 175 "WornLinesModel" "told" "I", .fieldLink RX8 171 "WornLinesModel" "word" "J", .constantLong RX8 185 (27), .constantLong RX8 187 (96), .methodLink RX8 181 yX8_signAt, .instanceMethod yX8_signAt, .selects RX8 yX8_signAt yX8_signAt, .initialized RX8, .fieldLink RX8 189 "WornLinesModel" "wrong" "I", .fieldLink RX8 68 "WornLinesModel" "codes" "[I", .fieldLink RX8 192 "WornLinesModel" "code" "I", .constantLong RX8 195 (10506516), .constantLong RX8 197 (1162531), .constantLong RX8 199 (1903978), .constantLong RX8 201 (63030), .constantLong RX8 203 (5070782), .constantLong RX8 205 (243140), .constantLong RX8 207 (14006), .constantLong RX8 209 (12584543), .constantLong RX8 211 (204), .constantLong RX8 213 (249), .constantLong RX8 215 (60114), .constantLong RX8 217 (220309), .constantLong RX8 219 (259906), .constantLong RX8 221 (79), .constantLong RX8 223 (158537), .constantLong RX8 225 (464144), .constantLong RX8 227 (10631), .constantLong RX8 229 (1111), .constantLong RX8 231 (423), .fieldLink RX8 16 "WornLinesModel" "cells" "[I", .fieldLink RX8 29 "WornLinesModel" "cellName" "[J"]
def wl_1 : List Cond := [.fieldLink RX8 13 "WornLinesModel" "stuffs" "[I", .fieldLink RX8 25 "WornLinesModel" "stuffName" "[J", .fieldLink RX8 74 "WornLinesModel" "compared" "[Z", .fieldLink RX8 65 "WornLinesModel" "lineTo" "[I", .fieldLink RX8 71 "WornLinesModel" "opened" "[I", .fieldLink RX8 62 "WornLinesModel" "lineFrom" "[I", .methodLink RX8 241 yX8_isSign, .instanceMethod yX8_isSign, .selects RX8 yX8_isSign yX8_isSign, .methodLink RX8 252 yX8_puts, .instanceMethod yX8_puts, .selects RX8 yX8_puts yX8_puts, .methodLink RX8 256 yX8_nextToken, .instanceMethod yX8_nextToken, .selects RX8 yX8_nextToken yX8_nextToken, .methodLink RX8 237 yX8_isWord, .instanceMethod yX8_isWord, .selects RX8 yX8_isWord yX8_isWord, .methodLink RX8 245 yX8_fails, .instanceMethod yX8_fails, .selects RX8 yX8_fails yX8_fails, .methodLink RX8 248 yX8_cellOf, .instanceMethod yX8_cellOf, .selects RX8 yX8_cellOf yX8_cellOf, .methodLink RX8 233 yX8_isKept, .instanceMethod yX8_isKept, .selects RX8 yX8_isKept yX8_isKept, .fieldLink RX8 81 "WornLinesModel" "keptBy" "[I", .fieldLink RX8 87 "WornLinesModel" "against" "[I", .fieldLink RX8 90 "WornLinesModel" "sum" "[I", .fieldLink RX8 93 "WornLinesModel" "sumBy" "[I", .fieldLink RX8 99 "WornLinesModel" "termBy" "[I", .fieldLink RX8 96 "WornLinesModel" "term" "[I", .fieldLink RX8 78 "WornLinesModel" "kept" "[I", .fieldLink RX8 84 "WornLinesModel" "ahead" "[I", .fieldLink RX8 22 "WornLinesModel" "lines" "[I", .fieldLink RX8 352 "WornLinesModel" "at" "I", .fieldLink RX8 355 "WornLinesModel" "way" "I", .fieldLink RX8 111 "WornLinesModel" "wear" "[I", .methodLink RX8 259 yX8_sums]
def wl_2 : List Cond := [.instanceMethod yX8_sums, .selects RX8 yX8_sums yX8_sums, .methodLink RX8 358 yX8_lineOf, .instanceMethod yX8_lineOf, .selects RX8 yX8_lineOf yX8_lineOf, .fieldLink RX8 102 "WornLinesModel" "byNot" "[I", .fieldLink RX8 105 "WornLinesModel" "valueOf" "[I", .methodLink RX8 262 yX8_opens, .instanceMethod yX8_opens, .selects RX8 yX8_opens yX8_opens, .methodLink RX8 265 yX8_tests, .instanceMethod yX8_tests, .selects RX8 yX8_tests yX8_tests, .methodLink RX8 268 yX8_wornness, .instanceMethod yX8_wornness, .selects RX8 yX8_wornness yX8_wornness, .fieldLink RX8 32 "WornLinesModel" "bears" "[I", .fieldLink RX8 35 "WornLinesModel" "costs" "[I", .fieldLink RX8 38 "WornLinesModel" "cellAt" "[I", .methodLink RX8 271 yX8_within, .static yX8_within, .methodLink RX8 275 yX8_stuffOf, .instanceMethod yX8_stuffOf, .selects RX8 yX8_stuffOf yX8_stuffOf, .methodLink RX8 278 yX8_needsNew, .instanceMethod yX8_needsNew, .selects RX8 yX8_needsNew yX8_needsNew, .methodLink RX8 281 yX8_needsWord, .instanceMethod yX8_needsWord, .selects RX8 yX8_needsWord yX8_needsWord, .methodLink RX8 284 yX8_needsNumber, .instanceMethod yX8_needsNumber, .selects RX8 yX8_needsNumber yX8_needsNumber, .methodLink RX8 288 yX8_ends, .instanceMethod yX8_ends, .selects RX8 yX8_ends yX8_ends, .fieldLink RX8 19 "WornLinesModel" "inputs" "[I", .fieldLink RX8 44 "WornLinesModel" "inputLeast" "[I", .fieldLink RX8 47 "WornLinesModel" "inputMost" "[I", .fieldLink RX8 41 "WornLinesModel" "inputCell" "[I"]
def wl_3 : List Cond := [.fieldLink RX8 53 "WornLinesModel" "actCell" "[I", .fieldLink RX8 50 "WornLinesModel" "act" "[I", .fieldLink RX8 56 "WornLinesModel" "lineStuff" "[I", .fieldLink RX8 59 "WornLinesModel" "twins" "[I", .methodLink RX8 297 yX8_readsE, .instanceMethod yX8_readsE, .selects RX8 yX8_readsE yX8_readsE, .methodLink RX8 294 yX8_needsCell, .instanceMethod yX8_needsCell, .selects RX8 yX8_needsCell yX8_needsCell, .methodLink RX8 291 yX8_actAt, .instanceMethod yX8_actAt, .selects RX8 yX8_actAt yX8_actAt, .methodLink RX8 300 yX8_readsAct, .instanceMethod yX8_readsAct, .selects RX8 yX8_readsAct yX8_readsAct, .methodLink RX8 312 yX8_readsLine, .instanceMethod yX8_readsLine, .selects RX8 yX8_readsLine yX8_readsLine, .methodLink RX8 309 yX8_readsInput, .instanceMethod yX8_readsInput, .selects RX8 yX8_readsInput yX8_readsInput, .methodLink RX8 306 yX8_readsCell, .instanceMethod yX8_readsCell, .selects RX8 yX8_readsCell yX8_readsCell, .methodLink RX8 303 yX8_readsStuff, .instanceMethod yX8_readsStuff, .selects RX8 yX8_readsStuff yX8_readsStuff, .methodLink RX8 315 yX8_moves, .static yX8_moves, .fieldLink RX8 126 "WornLinesModel" "worn" "[I", .fieldLink RX8 326 "WornLinesModel" "state" "I", .methodLink RX8 319 yX8_readsAll, .instanceMethod yX8_readsAll, .selects RX8 yX8_readsAll yX8_readsAll, .methodLink RX8 322 yX8_lays, .instanceMethod yX8_lays, .selects RX8 yX8_lays yX8_lays, .methodLink RX8 329 yX8_isStuff, .instanceMethod yX8_isStuff]
def wl_4 : List Cond := [.selects RX8 yX8_isStuff yX8_isStuff, .methodLink RX8 332 yX8_isLine, .instanceMethod yX8_isLine, .selects RX8 yX8_isLine yX8_isLine, .methodLink RX8 335 yX8_bearsOf, .instanceMethod yX8_bearsOf, .selects RX8 yX8_bearsOf yX8_bearsOf, .methodLink RX8 338 yX8_manyOf, .instanceMethod yX8_manyOf, .selects RX8 yX8_manyOf yX8_manyOf, .methodLink RX8 342 yX8_inputsOf, .instanceMethod yX8_inputsOf, .selects RX8 yX8_inputsOf yX8_inputsOf, .methodLink RX8 345 yX8_isCell, .instanceMethod yX8_isCell, .selects RX8 yX8_isCell yX8_isCell, .methodLink RX8 348 yX8_beginsWith, .instanceMethod yX8_beginsWith, .selects RX8 yX8_beginsWith yX8_beginsWith, .fieldLink RX8 108 "WornLinesModel" "here" "[I", .fieldLink RX8 382 "WornLinesModel" "isEnd" "Z", .fieldLink RX8 364 "WornLinesModel" "next" "I", .methodLink RX8 377 Lib.Math.max.name, .static Lib.Math.max.name, .initialized "java/lang/Math", .code Lib.Math.max.name Lib.Math.max.code 2 (some .int), .fieldLink RX8 374 "WornLinesModel" "written" "I", .fieldLink RX8 114 "WornLinesModel" "strip" "[I", .fieldLink RX8 367 "WornLinesModel" "isFallen" "Z", .methodLink RX8 361 yX8_worked, .instanceMethod yX8_worked, .selects RX8 yX8_worked yX8_worked, .methodLink RX8 371 yX8_works, .instanceMethod yX8_works, .selects RX8 yX8_works yX8_works, .fieldLink RX8 385 "WornLinesModel" "made" "I", .fieldLink RX8 117 "WornLinesModel" "gone" "[I", .fieldLink RX8 120 "WornLinesModel" "peak" "[I", .fieldLink RX8 123 "WornLinesModel" "handCell" "[I", .fieldLink RX8 401 "WornLinesModel" "handNext" "I"]
def wl_5 : List Cond := [.fieldLink RX8 404 "WornLinesModel" "handSteps" "I", .fieldLink RX8 407 "WornLinesModel" "handWritten" "I", .methodLink RX8 388 yX8_stepsOn, .instanceMethod yX8_stepsOn, .selects RX8 yX8_stepsOn yX8_stepsOn, .methodLink RX8 391 yX8_freshens, .instanceMethod yX8_freshens, .selects RX8 yX8_freshens yX8_freshens, .methodLink RX8 394 yX8_begins, .instanceMethod yX8_begins, .selects RX8 yX8_begins yX8_begins, .methodLink RX8 398 yX8_goesOn, .instanceMethod yX8_goesOn, .selects RX8 yX8_goesOn yX8_goesOn, .constant RX8 410 (1000000), .fieldLink RX8 129 "WornLinesModel" "handStrip" "[I", .methodLink RX8 414 Lib.Math.min.name, .static Lib.Math.min.name, .code Lib.Math.min.name Lib.Math.min.code 2 (some .int), .methodLink RX8 411 yX8_takesUp, .instanceMethod yX8_takesUp, .selects RX8 yX8_takesUp yX8_takesUp, .methodLink RX8 417 yX8_isInput, .instanceMethod yX8_isInput, .selects RX8 yX8_isInput yX8_isInput, .methodLink RX8 420 yX8_tries, .instanceMethod yX8_tries, .selects RX8 yX8_tries yX8_tries, .methodLink RX8 423 yX8_isEndless, .instanceMethod yX8_isEndless, .selects RX8 yX8_isEndless yX8_isEndless, .fieldLink RX8 138 "WornLinesModel" "mostPeak" "[I", .fieldLink RX8 132 "WornLinesModel" "mostGone" "[I", .fieldLink RX8 135 "WornLinesModel" "mostBy" "[I", .methodLink RX8 426 yX8_wears, .instanceMethod yX8_wears, .selects RX8 yX8_wears yX8_wears, .fieldLink RX8 141 "WornLinesModel" "other" "[I", .methodLink RX8 429 yX8_writeAlike, .instanceMethod yX8_writeAlike]
def wl_6 : List Cond := [.selects RX8 yX8_writeAlike yX8_writeAlike, .fieldLink RX8 144 "WornLinesModel" "least" "[I", .methodLink RX8 433 yX8_layCost, .instanceMethod yX8_layCost, .selects RX8 yX8_layCost yX8_layCost, .methodLink RX8 436 yX8_lastsBy, .instanceMethod yX8_lastsBy, .selects RX8 yX8_lastsBy yX8_lastsBy, .methodLink RX8 440 yX8_isLasting, .instanceMethod yX8_isLasting, .selects RX8 yX8_isLasting yX8_isLasting, .fieldLink RX8 443 "WornLinesModel" "markAt" "I", .fieldLink RX8 150 "WornLinesModel" "marked" "[I", .fieldLink RX8 147 "WornLinesModel" "isLaid" "[Z", .methodLink RX8 446 yX8_keeps, .instanceMethod yX8_keeps, .selects RX8 yX8_keeps yX8_keeps, .methodLink RX8 450 yX8_keepsRow, .instanceMethod yX8_keepsRow, .selects RX8 yX8_keepsRow yX8_keepsRow, .methodLink RX5 3 objectInit, .instanceMethod objectInit, .code objectInit ⟨#[0xb1]⟩ 1 none, .arrayClass .char, .fieldLink RX5 9 "WornLines$Tape" "signs" "[C", .classLink RX5 15 RX6, .fieldLink RX5 17 "WornLines$Tape" "tokens" "[LWornLines$Token;", .arrayClass .int, .fieldLink RX5 21 "WornLines$Tape" "places" "[I", .arrayClass .long, .fieldLink RX5 25 "WornLines$Tape" "values" "[J", .methodLink RX2 3 objectInit, .fieldLink RX2 9 "WornLines$Programme" "bears" "[I", .fieldLink RX2 15 "WornLines$Programme" "costs" "[I", .fieldLink RX2 18 "WornLines$Programme" "told" "[I", .fieldLink RX2 21 "WornLines$Programme" "givenCell" "[I", .fieldLink RX2 24 "WornLines$Programme" "least" "[I", .fieldLink RX2 27 "WornLines$Programme" "greatest" "[I", .fieldLink RX2 30 "WornLines$Programme" "act" "[I", .fieldLink RX2 33 "WornLines$Programme" "stuffOf" "[I"]
def wl_7 : List Cond := [.fieldLink RX2 36 "WornLines$Programme" "target" "[I", .fieldLink RX2 39 "WornLines$Programme" "from" "[I", .fieldLink RX2 42 "WornLines$Programme" "middle" "[I", .fieldLink RX2 45 "WornLines$Programme" "end" "[I", .fieldLink RX2 48 "WornLines$Programme" "code" "[I", .methodLink RX3 3 objectInit, .fieldLink RX3 9 "WornLines$Reader" "stuffNames" "[J", .fieldLink RX3 15 "WornLines$Reader" "cellNames" "[J", .fieldLink RX3 18 "WornLines$Reader" "code" "[I", .fieldLink RX3 22 "WornLines$Token" "END" "LWornLines$Token;", .fieldLink RX3 28 "WornLines$Reader" "token" "LWornLines$Token;", .fieldLink RX3 31 "WornLines$Reader" "tape" "LWornLines$Tape;", .fieldLink RX3 35 "WornLines$Reader" "told" "LWornLines$Programme;", .methodLink RX1 3 objectInit, .fieldLink RX1 9 "WornLines$Machine" "stuffs" "[I", .fieldLink RX1 15 "WornLines$Machine" "twins" "[I", .fieldLink RX1 18 "WornLines$Machine" "worn" "[I", .fieldLink RX1 21 "WornLines$Machine" "cells" "[I", .fieldLink RX1 24 "WornLines$Machine" "stack" "[I", .fieldLink RX1 27 "WornLines$Machine" "way" "I", .fieldLink RX1 31 "WornLines$Machine" "state" "I", .fieldLink RX1 34 "WornLines$Machine" "programme" "LWornLines$Programme;", .fieldLink RX1 38 "WornLines$Machine" "kept" "[I", .methodLink RX4 3 objectInit, .fieldLink RX4 9 "WornLines$Survey" "often" "[I", .fieldLink RX4 15 "WornLines$Survey" "by" "[I", .fieldLink RX4 18 "WornLines$Survey" "peak" "[I", .fieldLink RX4 21 "WornLines$Survey" "over" "[I", .methodLink RX0 3 objectInit, .fieldLink RX0 9 "WornLines$Layout" "peak" "[I", .classLink RX0 15 "[[I", .fieldLink RX0 17 "WornLines$Layout" "least" "[[I", .fieldLink RX0 20 "WornLines$Layout" "programme" "LWornLines$Programme;", .methodLink RX2 59 Lib.Math.max.name, .fieldLink RX2 51 "WornLines$Programme" "given" "I", .methodLink RX2 55 yX2_width, .instanceMethod yX2_width, .selects RX2 yX2_width yX2_width, .initialized RX2, .fieldLink RX1 92 "WornLines$Programme" "lines" "I"]
def wl_8 : List Cond := [.fieldLink RX1 64 "WornLines$Machine" "written" "I", .methodLink RX1 135 Lib.Math.max.name, .fieldLink RX1 82 "WornLines$Programme" "bears" "[I", .fieldLink RX1 58 "WornLines$Machine" "next" "I", .initialized RX7, .static yX7_within, .fieldLink RX1 77 "WornLines$Programme" "cells" "I", .fieldLink RX1 61 "WornLines$Machine" "steps" "I", .methodLink RX1 103 yX1_bearing, .instanceMethod yX1_bearing, .selects RX1 yX1_bearing yX1_bearing, .initialized RX1, .methodLink RX1 79 yX2_atFirst, .instanceMethod yX2_atFirst, .selects RX2 yX2_atFirst yX2_atFirst, .fieldLink RX1 138 "WornLines$Programme" "code" "[I", .methodLink RX1 71 Lib.Math.min.name, .methodLink RX1 141 yX1_joined, .static yX1_joined, .methodLink RX1 128 yX1_lineOf, .instanceMethod yX1_lineOf, .selects RX1 yX1_lineOf yX1_lineOf, .fieldLink RX1 106 "WornLines$Programme" "from" "[I", .fieldLink RX1 109 "WornLines$Programme" "middle" "[I", .fieldLink RX1 115 "WornLines$Programme" "end" "[I", .fieldLink RX1 118 "WornLines$Programme" "act" "[I", .fieldLink RX1 121 "WornLines$Programme" "target" "[I", .methodLink RX1 112 yX1_reckon, .instanceMethod yX1_reckon, .selects RX1 yX1_reckon yX1_reckon, .methodLink RX1 124 yX1_write, .instanceMethod yX1_write, .selects RX1 yX1_write yX1_write, .methodLink RX1 131 yX1_mend, .instanceMethod yX1_mend, .selects RX1 yX1_mend yX1_mend, .methodLink RX1 99 yX1_work, .instanceMethod yX1_work, .selects RX1 yX1_work yX1_work, .methodLink RX1 89 yX1_fallIfHole]
def wl_9 : List Cond := [.instanceMethod yX1_fallIfHole, .selects RX1 yX1_fallIfHole yX1_fallIfHole, .methodLink RX1 85 yX1_step, .instanceMethod yX1_step, .selects RX1 yX1_step yX1_step, .methodLink RX1 46 arraycopyName, .native arraycopyName, .static arraycopyName, .initialized "java/lang/System", .fieldLink RX1 41 "WornLines$Programme" "stuffOf" "[I", .methodLink RX1 52 yJ7_fill_53178, .static yJ7_fill_53178, .initialized "java/util/Arrays", .methodLink RX1 67 yX1_layLike, .instanceMethod yX1_layLike, .selects RX1 yX1_layLike yX1_layLike, .fieldLink RX4 24 "WornLines$Survey" "of" "LWornLines$Programme;", .fieldLink RX4 28 "WornLines$Survey" "endless" "Z", .fieldLink RX4 54 "WornLines$Machine" "programme" "LWornLines$Programme;", .fieldLink RX4 57 "WornLines$Programme" "lines" "I", .fieldLink RX4 51 "WornLines$Machine" "next" "I", .fieldLink RX4 38 "WornLines$Machine" "worn" "[I", .methodLink RX4 66 Lib.Math.max.name, .fieldLink RX4 43 "WornLines$Machine" "way" "I", .methodLink RX4 32 yJ7_fill_53178, .methodLink RX4 76 yX1_isEndless, .instanceMethod yX1_isEndless, .selects RX1 yX1_isEndless yX1_isEndless, .methodLink RX4 72 yX1_step, .methodLink RX4 47 yX1_start, .instanceMethod yX1_start, .selects RX1 yX1_start yX1_start, .fieldLink RX5 29 "WornLines$Tape" "length" "I", .fieldLink RX5 33 "WornLines$Tape" "count" "I", .fieldLink RX5 81 "WornLines$Token" "spelling" "J", .fieldLink RX5 70 "WornLines$Token" "A_NAME" "LWornLines$Token;", .fieldLink RX5 63 "WornLines$Token" "NO_TOKEN" "LWornLines$Token;", .fieldLink RX5 75 "WornLines$Token" "A_NUMBER" "LWornLines$Token;", .constantLong RX5 73 (10), .methodLink RX5 66 yX5_spelled]
def wl_10 : List Cond := [.static yX5_spelled, .initialized RX5, .methodLink RX5 48 yX5_add, .instanceMethod yX5_add, .selects RX5 yX5_add yX5_add, .fieldLink RX5 44 "WornLines$Token" "END" "LWornLines$Token;", .methodLink RX5 60 yX5_addNumber, .instanceMethod yX5_addNumber, .selects RX5 yX5_addNumber yX5_addNumber, .methodLink RX5 56 yX5_addWord, .instanceMethod yX5_addWord, .selects RX5 yX5_addWord yX5_addWord, .methodLink RX5 52 yX5_kindOf, .static yX5_kindOf, .methodLink RX5 36 yX5_isBlank, .static yX5_isBlank, .methodLink RX5 40 yX5_splitOne, .instanceMethod yX5_splitOne, .selects RX5 yX5_splitOne yX5_splitOne, .fieldLink RX3 228 "WornLines$Token" "A_NUMBER" "LWornLines$Token;", .fieldLink RX3 217 "WornLines$Token" "A_NAME" "LWornLines$Token;", .fieldLink RX3 231 "WornLines$Token" "OPEN" "LWornLines$Token;", .fieldLink RX3 237 "WornLines$Token" "WORN_WORD" "LWornLines$Token;", .fieldLink RX3 240 "WornLines$Token" "NOT_WORD" "LWornLines$Token;", .fieldLink RX3 51 "WornLines$Reader" "coded" "I", .fieldLink RX3 57 "WornLines$Reader" "taken" "I", .fieldLink RX3 243 "WornLines$Tape" "count" "I", .fieldLink RX3 246 "WornLines$Tape" "tokens" "[LWornLines$Token;", .fieldLink RX3 250 "WornLines$Tape" "places" "[I", .fieldLink RX3 253 "WornLines$Reader" "place" "I", .fieldLink RX3 256 "WornLines$Tape" "values" "[J", .fieldLink RX3 224 "WornLines$Reader" "value" "J", .fieldLink RX3 54 "WornLines$Reader" "fault" "I", .fieldLink RX3 105 "WornLines$Programme" "stuffs" "I", .fieldLink RX3 128 "WornLines$Programme" "cells" "I", .fieldLink RX3 133 "WornLines$Programme" "given" "I", .fieldLink RX3 151 "WornLines$Programme" "givenCell" "[I", .methodLink RX3 60 yX3_advance, .instanceMethod yX3_advance, .selects RX3 yX3_advance yX3_advance]
def wl_11 : List Cond := [.initialized RX3, .methodLink RX3 87 yX3_fail, .instanceMethod yX3_fail, .selects RX3 yX3_fail yX3_fail, .methodLink RX3 144 yX3_numberHere, .instanceMethod yX3_numberHere, .selects RX3 yX3_numberHere yX3_numberHere, .methodLink RX3 259 yX3_find, .instanceMethod yX3_find, .selects RX3 yX3_find yX3_find, .methodLink RX3 136 yX3_toldHere, .instanceMethod yX3_toldHere, .selects RX3 yX3_toldHere yX3_toldHere, .fieldLink RX3 112 "WornLines$Token" "BEARS_WORD" "LWornLines$Token;", .fieldLink RX3 115 "WornLines$Programme" "bears" "[I", .fieldLink RX3 122 "WornLines$Token" "COSTS_WORD" "LWornLines$Token;", .fieldLink RX3 125 "WornLines$Programme" "costs" "[I", .fieldLink RX3 131 "WornLines$Programme" "told" "[I", .fieldLink RX3 154 "WornLines$Programme" "least" "[I", .fieldLink RX3 157 "WornLines$Programme" "greatest" "[I", .methodLink RX3 108 yX3_takeNewName, .instanceMethod yX3_takeNewName, .selects RX3 yX3_takeNewName yX3_takeNewName, .methodLink RX3 94 yX3_expect, .instanceMethod yX3_expect, .selects RX3 yX3_expect yX3_expect, .methodLink RX3 118 yX3_takeNumber, .instanceMethod yX3_takeNumber, .selects RX3 yX3_takeNumber yX3_takeNumber, .methodLink RX3 147 yX2_inputCount, .instanceMethod yX2_inputCount, .selects RX2 yX2_inputCount yX2_inputCount, .methodLink RX3 140 yX3_isGiven, .instanceMethod yX3_isGiven, .selects RX3 yX3_isGiven yX3_isGiven, .fieldLink RX3 208 "WornLines$Token" "level" "I", .fieldLink RX3 211 "WornLines$Token" "operation" "I", .fieldLink RX3 234 "WornLines$Token" "CLOSE" "LWornLines$Token;", .methodLink RX3 189 yX3_expression, .instanceMethod yX3_expression]
def wl_12 : List Cond := [.selects RX3 yX3_expression yX3_expression, .methodLink RX3 214 yX3_put, .instanceMethod yX3_put, .selects RX3 yX3_put yX3_put, .methodLink RX3 205 yX3_part, .instanceMethod yX3_part, .selects RX3 yX3_part yX3_part, .methodLink RX3 220 yX3_beginsPart, .static yX3_beginsPart, .fieldLink RX3 193 "WornLines$Programme" "middle" "[I", .fieldLink RX3 202 "WornLines$Token" "KEEP_WORD" "LWornLines$Token;", .fieldLink RX3 183 "WornLines$Programme" "target" "[I", .fieldLink RX3 199 "WornLines$Token" "BY_WORD" "LWornLines$Token;", .fieldLink RX3 196 "WornLines$Token" "GO_WORD" "LWornLines$Token;", .fieldLink RX3 178 "WornLines$Token" "act" "I", .fieldLink RX3 181 "WornLines$Programme" "act" "[I", .fieldLink RX3 160 "WornLines$Programme" "lines" "I", .fieldLink RX3 163 "WornLines$Programme" "stuffOf" "[I", .fieldLink RX3 169 "WornLines$Programme" "from" "[I", .fieldLink RX3 175 "WornLines$Programme" "end" "[I", .methodLink RX3 186 yX3_takeCell, .instanceMethod yX3_takeCell, .selects RX3 yX3_takeCell yX3_takeCell, .methodLink RX3 166 yX3_takeStuff, .instanceMethod yX3_takeStuff, .selects RX3 yX3_takeStuff yX3_takeStuff, .methodLink RX3 172 yX3_tellAct, .instanceMethod yX3_tellAct, .selects RX3 yX3_tellAct yX3_tellAct, .methodLink RJ7 304 Lib.Math.min.name, .methodLink RJ7 150 arraycopyName, .fieldLink RX3 104 "WornLines$Programme" "code" "[I", .fieldLink RX3 63 "WornLines$Token" "STUFF_WORD" "LWornLines$Token;", .fieldLink RX3 69 "WornLines$Token" "CELL_WORD" "LWornLines$Token;", .fieldLink RX3 75 "WornLines$Token" "INPUT_WORD" "LWornLines$Token;", .fieldLink RX3 81 "WornLines$Token" "LINE_WORD" "LWornLines$Token;", .fieldLink RX3 91 "WornLines$Token" "SEMICOLON" "LWornLines$Token;", .fieldLink RX3 44 "WornLines$Tape" "length" "I", .classLink RX3 48 RX2, .instantiable RX2 17]
def wl_13 : List Cond := [.instanceMethod yX2_init, .methodLink RX3 98 yJ7_copyOf_59c91, .static yJ7_copyOf_59c91, .methodLink RX3 84 yX3_tellLine, .instanceMethod yX3_tellLine, .selects RX3 yX3_tellLine yX3_tellLine, .methodLink RX3 78 yX3_tellInput, .instanceMethod yX3_tellInput, .selects RX3 yX3_tellInput yX3_tellInput, .methodLink RX3 72 yX3_tellCell, .instanceMethod yX3_tellCell, .selects RX3 yX3_tellCell yX3_tellCell, .methodLink RX3 66 yX3_tellStuff, .instanceMethod yX3_tellStuff, .selects RX3 yX3_tellStuff yX3_tellStuff, .methodLink RX3 39 yX5_split, .instanceMethod yX5_split, .selects RX5 yX5_split yX5_split, .fieldLink RX7 28 "WornLines" "reader" "LWornLines$Reader;", .fieldLink RX7 83 "WornLines$Reader" "fault" "I", .fieldLink RX7 37 "WornLines" "hand" "LWornLines$Machine;", .methodLink RX7 79 yX3_read, .instanceMethod yX3_read, .selects RX3 yX3_read yX3_read, .methodLink RX7 86 yX1_takeAsTold, .instanceMethod yX1_takeAsTold, .selects RX1 yX1_takeAsTold yX1_takeAsTold, .fieldLink RX7 10 "WornLines" "tape" "LWornLines$Tape;", .fieldLink RX7 75 "WornLines$Tape" "length" "I", .fieldLink RX7 89 "WornLines$Machine" "programme" "LWornLines$Programme;", .fieldLink RX7 92 "WornLines$Programme" "stuffs" "I", .fieldLink RX7 99 "WornLines$Programme" "bears" "[I", .fieldLink RX7 103 "WornLines$Programme" "costs" "[I", .fieldLink RX7 106 "WornLines$Programme" "lines" "I", .fieldLink RX7 109 "WornLines$Programme" "act" "[I", .fieldLink RX7 112 "WornLines$Machine" "stuffs" "[I", .fieldLink RX7 114 "WornLines$Machine" "twins" "[I", .fieldLink RX7 121 "WornLines$Machine" "worn" "[I", .fieldLink RX7 128 "WornLines$Programme" "cells" "I", .fieldLink RX7 155 "WornLines$Machine" "state" "I"]
def wl_14 : List Cond := [.fieldLink RX7 158 "WornLines$Machine" "next" "I", .fieldLink RX7 144 "WornLines$Machine" "steps" "I", .fieldLink RX7 161 "WornLines$Machine" "written" "I", .fieldLink RX7 243 "WornLines$Programme" "given" "I", .methodLink RX7 71 yX5_addBytes, .instanceMethod yX5_addBytes, .selects RX5 yX5_addBytes yX5_addBytes, .methodLink RX7 95 yX7_within, .methodLink RX7 117 yX1_bearing, .methodLink RX7 124 yX2_inputCount, .methodLink RX7 131 yX2_atFirst, .methodLink RX7 135 yX7_canWalk, .instanceMethod yX7_canWalk, .selects RX7 yX7_canWalk yX7_canWalk, .methodLink RX7 139 yX1_start, .methodLink RX7 178 yJ7_fill_53178, .constant RX7 143 (1000000), .methodLink RX7 147 Lib.Math.min.name, .fieldLink RX7 215 "WornLines$Machine" "way" "I", .fieldLink RX7 41 "WornLines" "walker" "LWornLines$Machine;", .methodLink RX7 152 yX1_go, .instanceMethod yX1_go, .selects RX1 yX1_go yX1_go, .methodLink RX7 211 yX1_layLike, .methodLink RX7 246 yX1_fallIfHole, .methodLink RX7 184 yX7_walk, .static yX7_walk, .methodLink RX7 188 yX1_isEndless, .methodLink RX7 204 yX7_firstToFall, .instanceMethod yX7_firstToFall, .selects RX7 yX7_firstToFall yX7_firstToFall, .fieldLink RX7 44 "WornLines" "fellow" "LWornLines$Machine;", .methodLink RX7 207 yX1_wroteLike, .instanceMethod yX1_wroteLike, .selects RX1 yX1_wroteLike yX1_wroteLike, .methodLink RX7 240 yX1_copy, .instanceMethod yX1_copy, .selects RX1 yX1_copy yX1_copy, .methodLink RX7 233 yX7_stepsIfMended, .instanceMethod yX7_stepsIfMended]
def wl_15 : List Cond := [.selects RX7 yX7_stepsIfMended yX7_stepsIfMended, .fieldLink RX7 47 "WornLines" "marks" "[LWornLines$Machine;", .fieldLink RX7 51 "WornLines" "marked" "[Z", .methodLink RX7 236 yX7_comparable, .instanceMethod yX7_comparable, .selects RX7 yX7_comparable yX7_comparable, .constant RX0 46 (1000000000), .fieldLink RX0 56 "WornLines$Programme" "costs" "[I", .fieldLink RX0 59 "WornLines$Programme" "bears" "[I", .fieldLink RX0 50 "WornLines$Layout" "stuff" "I", .fieldLink RX0 47 "WornLines$Layout" "twins" "I", .fieldLink RX0 53 "WornLines$Programme" "stuffs" "I", .methodLink RX0 42 yX0_find, .instanceMethod yX0_find, .selects RX0 yX0_find yX0_find, .initialized RX0, .methodLink RX0 24 arraycopyName, .fieldLink RX0 30 "WornLines$Programme" "lines" "I", .methodLink RX0 36 yJ7_fill_53178, .fieldLink RX7 67 "WornLines" "layout" "LWornLines$Layout;", .fieldLink RX7 58 "WornLines" "survey" "LWornLines$Survey;", .fieldLink RX7 201 "WornLines$Survey" "peak" "[I", .fieldLink RX7 255 "WornLines$Survey" "endless" "Z", .fieldLink RX7 249 "WornLines$Survey" "of" "LWornLines$Programme;", .fieldLink RX7 195 "WornLines$Survey" "often" "[I", .fieldLink RX7 198 "WornLines$Survey" "by" "[I", .methodLink RX7 263 yX0_make, .instanceMethod yX0_make, .selects RX0 yX0_make yX0_make, .methodLink RX7 259 yX4_add, .instanceMethod yX4_add, .selects RX4 yX4_add yX4_add, .initialized RX4, .methodLink RX7 252 yX4_open, .instanceMethod yX4_open, .selects RX4 yX4_open yX4_open, .methodLink RX7 192 yX7_surveyed, .instanceMethod yX7_surveyed, .selects RX7 yX7_surveyed yX7_surveyed, .fieldLink RX7 228 "WornLines$Layout" "stuff" "I"]
def wl_16 : List Cond := [.fieldLink RX7 231 "WornLines$Layout" "twins" "I", .methodLink RX7 221 yX0_leastCost, .instanceMethod yX0_leastCost, .selects RX0 yX0_leastCost yX0_leastCost, .methodLink RX7 218 yX7_canLast, .instanceMethod yX7_canLast, .selects RX7 yX7_canLast yX7_canLast, .methodLink RX7 224 yX0_choose, .instanceMethod yX0_choose, .selects RX0 yX0_choose yX0_choose, .methodLink RX8 1 objectInit, .arrayClass .boolean, .methodLink RX7 1 objectInit, .classLink RX7 7 RX5, .instantiable RX5 6, .instanceMethod yX5_init, .classLink RX7 16 RX2, .fieldLink RX7 19 "WornLines" "empty" "LWornLines$Programme;", .classLink RX7 23 RX3, .instantiable RX3 11, .methodLink RX7 25 yX3_init, .instanceMethod yX3_init, .classLink RX7 32 RX1, .instantiable RX1 12, .methodLink RX7 34 yX1_init, .instanceMethod yX1_init, .classLink RX7 55 RX4, .instantiable RX4 6, .instanceMethod yX4_init, .classLink RX7 62 RX0, .instantiable RX0 5, .methodLink RX7 64 yX0_init, .instanceMethod yX0_init, .code yJ7_copyOf_59c91 cJ7_copyOf_59c91 3 (some (.array .int)), .code yJ7_fill_53178 cJ7_fill_53178 4 none, .code yX0_choose cX0_choose 5 none, .code yX0_find cX0_find 7 (some .int), .code yX0_init cX0_init 2 none, .code yX0_leastCost cX0_leastCost 2 (some .int), .code yX0_make cX0_make 5 none]
def wl_17 : List Cond := [.code yX1_bearing cX1_bearing 2 (some .int), .code yX1_copy cX1_copy 2 none, .code yX1_fallIfHole cX1_fallIfHole 1 none, .code yX1_go cX1_go 4 (some .int), .code yX1_init cX1_init 3 none, .code yX1_isEndless cX1_isEndless 1 (some .boolean), .code yX1_joined cX1_joined 3 (some .int), .code yX1_layLike cX1_layLike 2 none, .code yX1_lineOf cX1_lineOf 3 (some .int), .code yX1_mend cX1_mend 3 none, .code yX1_reckon cX1_reckon 8 (some .int), .code yX1_start cX1_start 3 none, .code yX1_step cX1_step 1 (some .boolean), .code yX1_takeAsTold cX1_takeAsTold 2 none, .code yX1_work cX1_work 4 (some .int), .code yX1_write cX1_write 2 none, .code yX1_wroteLike cX1_wroteLike 3 (some .boolean), .code yX2_atFirst cX2_atFirst 7 (some .int), .code yX2_init cX2_init 1 none, .code yX2_inputCount cX2_inputCount 3 (some .int), .code yX2_width cX2_width 2 (some .int), .code yX3_advance cX3_advance 1 none, .code yX3_beginsPart cX3_beginsPart 1 (some .boolean), .code yX3_expect cX3_expect 2 none, .code yX3_expression cX3_expression 6 none, .code yX3_fail cX3_fail 2 none, .code yX3_find cX3_find 4 (some .int), .code yX3_init cX3_init 3 none, .code yX3_isGiven cX3_isGiven 3 (some .boolean), .code yX3_numberHere cX3_numberHere 3 (some .int), .code yX3_part cX3_part 5 none, .code yX3_put cX3_put 3 none, .code yX3_read cX3_read 2 (some (.object "WornLines$Programme")), .code yX3_takeCell cX3_takeCell 2 (some .int), .code yX3_takeNewName cX3_takeNewName 3 (some .long), .code yX3_takeNumber cX3_takeNumber 4 (some .int), .code yX3_takeStuff cX3_takeStuff 2 (some .int), .code yX3_tellAct cX3_tellAct 3 none, .code yX3_tellCell cX3_tellCell 2 none, .code yX3_tellInput cX3_tellInput 5 none]
def wl_18 : List Cond := [.code yX3_tellLine cX3_tellLine 2 none, .code yX3_tellStuff cX3_tellStuff 2 none, .code yX3_toldHere cX3_toldHere 4 (some .int), .code yX4_add cX4_add 5 none, .code yX4_init cX4_init 1 none, .code yX4_open cX4_open 2 none, .code yX5_add cX5_add 5 none, .code yX5_addBytes cX5_addBytes 5 none, .code yX5_addNumber cX5_addNumber 6 none, .code yX5_addWord cX5_addWord 6 none, .code yX5_init cX5_init 1 none, .code yX5_isBlank cX5_isBlank 1 (some .boolean), .code yX5_kindOf cX5_kindOf 1 (some .int), .code yX5_spelled cX5_spelled 7 (some (.object "WornLines$Token")), .code yX5_split cX5_split 3 none, .code yX5_splitOne cX5_splitOne 5 (some .int), .code yX7_canLast cX7_canLast 2 (some .boolean), .code yX7_canWalk cX7_canWalk 2 (some .boolean), .code yX7_comparable cX7_comparable 2 (some .boolean), .code yX7_firstToFall cX7_firstToFall 5 (some .int), .code yX7_stepsIfMended cX7_stepsIfMended 2 (some .int), .code yX7_surveyed cX7_surveyed 3 (some .boolean), .code yX7_walk cX7_walk 4 none, .code yX7_within cX7_within 2 (some .boolean), .code yX8_actAt cX8_actAt 1 (some .int), .code yX8_bearsOf cX8_bearsOf 2 (some .int), .code yX8_begins cX8_begins 5 none, .code yX8_beginsWith cX8_beginsWith 5 (some .int), .code yX8_cellOf cX8_cellOf 2 (some .int), .code yX8_ends cX8_ends 1 (some .boolean), .code yX8_fails cX8_fails 2 (some .boolean), .code yX8_freshens cX8_freshens 2 none, .code yX8_goesOn cX8_goesOn 3 none, .code yX8_inputsOf cX8_inputsOf 2 (some .int), .code yX8_isCell cX8_isCell 2 (some .boolean), .code yX8_isEndless cX8_isEndless 1 (some .boolean), .code yX8_isInput cX8_isInput 2 (some .boolean), .code yX8_isKept cX8_isKept 1 (some .boolean), .code yX8_isLasting cX8_isLasting 8 (some .boolean), .code yX8_isLine cX8_isLine 2 (some .boolean)]
def wl_19 : List Cond := [.code yX8_isSign cX8_isSign 2 (some .boolean), .code yX8_isStuff cX8_isStuff 2 (some .boolean), .code yX8_isWord cX8_isWord 3 (some .boolean), .code yX8_keeps cX8_keeps 4 (some .int), .code yX8_keepsRow cX8_keepsRow 5 none, .code yX8_lastsBy cX8_lastsBy 5 (some .int), .code yX8_layCost cX8_layCost 4 (some .int), .code yX8_lays cX8_lays 4 none, .code yX8_lineOf cX8_lineOf 4 (some .int), .code yX8_manyOf cX8_manyOf 3 (some .int), .code yX8_moves cX8_moves 5 none, .code yX8_needsCell cX8_needsCell 2 (some .boolean), .code yX8_needsNew cX8_needsNew 1 (some .boolean), .code yX8_needsNumber cX8_needsNumber 3 (some .boolean), .code yX8_needsWord cX8_needsWord 3 (some .boolean), .code yX8_nextToken cX8_nextToken 2 none, .code yX8_opens cX8_opens 2 none, .code yX8_puts cX8_puts 2 none, .code yX8_readsAct cX8_readsAct 3 (some .boolean), .code yX8_readsAll cX8_readsAll 2 (some .boolean), .code yX8_readsCell cX8_readsCell 1 (some .boolean), .code yX8_readsE cX8_readsE 7 (some .boolean), .code yX8_readsInput cX8_readsInput 3 (some .boolean), .code yX8_readsLine cX8_readsLine 2 (some .boolean), .code yX8_readsStuff cX8_readsStuff 2 (some .boolean), .code yX8_signAt cX8_signAt 2 (some .int), .code yX8_stepsOn cX8_stepsOn 6 none, .code yX8_stuffOf cX8_stuffOf 2 (some .int), .code yX8_sums cX8_sums 2 none, .code yX8_takesUp cX8_takesUp 2 none, .code yX8_tests cX8_tests 3 none, .code yX8_tries cX8_tries 4 none, .code yX8_wears cX8_wears 3 (some .boolean), .code yX8_within cX8_within 3 (some .boolean), .code yX8_worked cX8_worked 6 (some .int), .code yX8_works cX8_works 4 (some .int), .code yX8_wornness cX8_wornness 2 (some .int), .code yX8_writeAlike cX8_writeAlike 10 (some .boolean)]
def wALL : List Cond := wl_0 ++ (wl_1 ++ (wl_2 ++ (wl_3 ++ (wl_4 ++ (wl_5 ++ (wl_6 ++ (wl_7 ++ (wl_8 ++ (wl_9 ++ (wl_10 ++ (wl_11 ++ (wl_12 ++ (wl_13 ++ (wl_14 ++ (wl_15 ++ (wl_16 ++ (wl_17 ++ (wl_18 ++ (wl_19 ++ (wsX00 ++ (wsX10 ++ (wsX20 ++ (wsX30 ++ (wsX40 ++ (wsX50 ++ (wsX70 ++ (wsX80)))))))))))))))))))))))))))
theorem wm_0 : ∀ w ∈ wl_0, w ∈ wALL := fun _ h => List.mem_append_left _ h
theorem wm_1 : ∀ w ∈ wl_1, w ∈ wALL := fun _ h => List.mem_append_right _ (List.mem_append_left _ h)
theorem wm_2 : ∀ w ∈ wl_2, w ∈ wALL := fun _ h => List.mem_append_right _ (List.mem_append_right _ (List.mem_append_left _ h))
theorem wm_3 : ∀ w ∈ wl_3, w ∈ wALL := fun _ h => List.mem_append_right _ (List.mem_append_right _ (List.mem_append_right _ (List.mem_append_left _ h)))
theorem wm_4 : ∀ w ∈ wl_4, w ∈ wALL := fun _ h => List.mem_append_right _ (List.mem_append_right _ (List.mem_append_right _ (List.mem_append_right _ (List.mem_append_left _ h))))
theorem wm_5 : ∀ w ∈ wl_5, w ∈ wALL := fun _ h => List.mem_append_right _ (List.mem_append_right _ (List.mem_append_right _ (List.mem_append_right _ (List.mem_append_right _ (List.mem_append_left _ h)))))
theorem wm_6 : ∀ w ∈ wl_6, w ∈ wALL := fun _ h => List.mem_append_right _ (List.mem_append_right _ (List.mem_append_right _ (List.mem_append_right _ (List.mem_append_right _ (List.mem_append_right _ (List.mem_append_left _ h))))))
theorem wm_7 : ∀ w ∈ wl_7, w ∈ wALL := fun _ h => List.mem_append_right _ (List.mem_append_right _ (List.mem_append_right _ (List.mem_append_right _ (List.mem_append_right _ (List.mem_append_right _ (List.mem_append_right _ (List.mem_append_left _ h)))))))
theorem wm_8 : ∀ w ∈ wl_8, w ∈ wALL := fun _ h => List.mem_append_right _ (List.mem_append_right _ (List.mem_append_right _ (List.mem_append_right _ (List.mem_append_right _ (List.mem_append_right _ (List.mem_append_right _ (List.mem_append_right _ (List.mem_append_left _ h))))))))
theorem wm_9 : ∀ w ∈ wl_9, w ∈ wALL := fun _ h => List.mem_append_right _ (List.mem_append_right _ (List.mem_append_right _ (List.mem_append_right _ (List.mem_append_right _ (List.mem_append_right _ (List.mem_append_right _ (List.mem_append_right _ (List.mem_append_right _ (List.mem_append_left _ h)))))))))
theorem wm_10 : ∀ w ∈ wl_10, w ∈ wALL := fun _ h => List.mem_append_right _ (List.mem_append_right _ (List.mem_append_right _ (List.mem_append_right _ (List.mem_append_right _ (List.mem_append_right _ (List.mem_append_right _ (List.mem_append_right _ (List.mem_append_right _ (List.mem_append_right _ (List.mem_append_left _ h))))))))))
theorem wm_11 : ∀ w ∈ wl_11, w ∈ wALL := fun _ h => List.mem_append_right _ (List.mem_append_right _ (List.mem_append_right _ (List.mem_append_right _ (List.mem_append_right _ (List.mem_append_right _ (List.mem_append_right _ (List.mem_append_right _ (List.mem_append_right _ (List.mem_append_right _ (List.mem_append_right _ (List.mem_append_left _ h)))))))))))
theorem wm_12 : ∀ w ∈ wl_12, w ∈ wALL := fun _ h => List.mem_append_right _ (List.mem_append_right _ (List.mem_append_right _ (List.mem_append_right _ (List.mem_append_right _ (List.mem_append_right _ (List.mem_append_right _ (List.mem_append_right _ (List.mem_append_right _ (List.mem_append_right _ (List.mem_append_right _ (List.mem_append_right _ (List.mem_append_left _ h))))))))))))
theorem wm_13 : ∀ w ∈ wl_13, w ∈ wALL := fun _ h => List.mem_append_right _ (List.mem_append_right _ (List.mem_append_right _ (List.mem_append_right _ (List.mem_append_right _ (List.mem_append_right _ (List.mem_append_right _ (List.mem_append_right _ (List.mem_append_right _ (List.mem_append_right _ (List.mem_append_right _ (List.mem_append_right _ (List.mem_append_right _ (List.mem_append_left _ h)))))))))))))
theorem wm_14 : ∀ w ∈ wl_14, w ∈ wALL := fun _ h => List.mem_append_right _ (List.mem_append_right _ (List.mem_append_right _ (List.mem_append_right _ (List.mem_append_right _ (List.mem_append_right _ (List.mem_append_right _ (List.mem_append_right _ (List.mem_append_right _ (List.mem_append_right _ (List.mem_append_right _ (List.mem_append_right _ (List.mem_append_right _ (List.mem_append_right _ (List.mem_append_left _ h))))))))))))))
theorem wm_15 : ∀ w ∈ wl_15, w ∈ wALL := fun _ h => List.mem_append_right _ (List.mem_append_right _ (List.mem_append_right _ (List.mem_append_right _ (List.mem_append_right _ (List.mem_append_right _ (List.mem_append_right _ (List.mem_append_right _ (List.mem_append_right _ (List.mem_append_right _ (List.mem_append_right _ (List.mem_append_right _ (List.mem_append_right _ (List.mem_append_right _ (List.mem_append_right _ (List.mem_append_left _ h)))))))))))))))
theorem wm_16 : ∀ w ∈ wl_16, w ∈ wALL := fun _ h => List.mem_append_right _ (List.mem_append_right _ (List.mem_append_right _ (List.mem_append_right _ (List.mem_append_right _ (List.mem_append_right _ (List.mem_append_right _ (List.mem_append_right _ (List.mem_append_right _ (List.mem_append_right _ (List.mem_append_right _ (List.mem_append_right _ (List.mem_append_right _ (List.mem_append_right _ (List.mem_append_right _ (List.mem_append_right _ (List.mem_append_left _ h))))))))))))))))
theorem wm_17 : ∀ w ∈ wl_17, w ∈ wALL := fun _ h => List.mem_append_right _ (List.mem_append_right _ (List.mem_append_right _ (List.mem_append_right _ (List.mem_append_right _ (List.mem_append_right _ (List.mem_append_right _ (List.mem_append_right _ (List.mem_append_right _ (List.mem_append_right _ (List.mem_append_right _ (List.mem_append_right _ (List.mem_append_right _ (List.mem_append_right _ (List.mem_append_right _ (List.mem_append_right _ (List.mem_append_right _ (List.mem_append_left _ h)))))))))))))))))
theorem wm_18 : ∀ w ∈ wl_18, w ∈ wALL := fun _ h => List.mem_append_right _ (List.mem_append_right _ (List.mem_append_right _ (List.mem_append_right _ (List.mem_append_right _ (List.mem_append_right _ (List.mem_append_right _ (List.mem_append_right _ (List.mem_append_right _ (List.mem_append_right _ (List.mem_append_right _ (List.mem_append_right _ (List.mem_append_right _ (List.mem_append_right _ (List.mem_append_right _ (List.mem_append_right _ (List.mem_append_right _ (List.mem_append_right _ (List.mem_append_left _ h))))))))))))))))))
theorem wm_19 : ∀ w ∈ wl_19, w ∈ wALL := fun _ h => List.mem_append_right _ (List.mem_append_right _ (List.mem_append_right _ (List.mem_append_right _ (List.mem_append_right _ (List.mem_append_right _ (List.mem_append_right _ (List.mem_append_right _ (List.mem_append_right _ (List.mem_append_right _ (List.mem_append_right _ (List.mem_append_right _ (List.mem_append_right _ (List.mem_append_right _ (List.mem_append_right _ (List.mem_append_right _ (List.mem_append_right _ (List.mem_append_right _ (List.mem_append_right _ (List.mem_append_left _ h)))))))))))))))))))
theorem wc_X0 : ∀ w ∈ wsX00, w ∈ wALL := fun _ h => List.mem_append_right _ (List.mem_append_right _ (List.mem_append_right _ (List.mem_append_right _ (List.mem_append_right _ (List.mem_append_right _ (List.mem_append_right _ (List.mem_append_right _ (List.mem_append_right _ (List.mem_append_right _ (List.mem_append_right _ (List.mem_append_right _ (List.mem_append_right _ (List.mem_append_right _ (List.mem_append_right _ (List.mem_append_right _ (List.mem_append_right _ (List.mem_append_right _ (List.mem_append_right _ (List.mem_append_right _ (List.mem_append_left _ h))))))))))))))))))))
theorem wc_X1 : ∀ w ∈ wsX10, w ∈ wALL := fun _ h => List.mem_append_right _ (List.mem_append_right _ (List.mem_append_right _ (List.mem_append_right _ (List.mem_append_right _ (List.mem_append_right _ (List.mem_append_right _ (List.mem_append_right _ (List.mem_append_right _ (List.mem_append_right _ (List.mem_append_right _ (List.mem_append_right _ (List.mem_append_right _ (List.mem_append_right _ (List.mem_append_right _ (List.mem_append_right _ (List.mem_append_right _ (List.mem_append_right _ (List.mem_append_right _ (List.mem_append_right _ (List.mem_append_right _ (List.mem_append_left _ h)))))))))))))))))))))
theorem wc_X2 : ∀ w ∈ wsX20, w ∈ wALL := fun _ h => List.mem_append_right _ (List.mem_append_right _ (List.mem_append_right _ (List.mem_append_right _ (List.mem_append_right _ (List.mem_append_right _ (List.mem_append_right _ (List.mem_append_right _ (List.mem_append_right _ (List.mem_append_right _ (List.mem_append_right _ (List.mem_append_right _ (List.mem_append_right _ (List.mem_append_right _ (List.mem_append_right _ (List.mem_append_right _ (List.mem_append_right _ (List.mem_append_right _ (List.mem_append_right _ (List.mem_append_right _ (List.mem_append_right _ (List.mem_append_right _ (List.mem_append_left _ h))))))))))))))))))))))
theorem wc_X3 : ∀ w ∈ wsX30, w ∈ wALL := fun _ h => List.mem_append_right _ (List.mem_append_right _ (List.mem_append_right _ (List.mem_append_right _ (List.mem_append_right _ (List.mem_append_right _ (List.mem_append_right _ (List.mem_append_right _ (List.mem_append_right _ (List.mem_append_right _ (List.mem_append_right _ (List.mem_append_right _ (List.mem_append_right _ (List.mem_append_right _ (List.mem_append_right _ (List.mem_append_right _ (List.mem_append_right _ (List.mem_append_right _ (List.mem_append_right _ (List.mem_append_right _ (List.mem_append_right _ (List.mem_append_right _ (List.mem_append_right _ (List.mem_append_left _ h)))))))))))))))))))))))
theorem wc_X4 : ∀ w ∈ wsX40, w ∈ wALL := fun _ h => List.mem_append_right _ (List.mem_append_right _ (List.mem_append_right _ (List.mem_append_right _ (List.mem_append_right _ (List.mem_append_right _ (List.mem_append_right _ (List.mem_append_right _ (List.mem_append_right _ (List.mem_append_right _ (List.mem_append_right _ (List.mem_append_right _ (List.mem_append_right _ (List.mem_append_right _ (List.mem_append_right _ (List.mem_append_right _ (List.mem_append_right _ (List.mem_append_right _ (List.mem_append_right _ (List.mem_append_right _ (List.mem_append_right _ (List.mem_append_right _ (List.mem_append_right _ (List.mem_append_right _ (List.mem_append_left _ h))))))))))))))))))))))))
theorem wc_X5 : ∀ w ∈ wsX50, w ∈ wALL := fun _ h => List.mem_append_right _ (List.mem_append_right _ (List.mem_append_right _ (List.mem_append_right _ (List.mem_append_right _ (List.mem_append_right _ (List.mem_append_right _ (List.mem_append_right _ (List.mem_append_right _ (List.mem_append_right _ (List.mem_append_right _ (List.mem_append_right _ (List.mem_append_right _ (List.mem_append_right _ (List.mem_append_right _ (List.mem_append_right _ (List.mem_append_right _ (List.mem_append_right _ (List.mem_append_right _ (List.mem_append_right _ (List.mem_append_right _ (List.mem_append_right _ (List.mem_append_right _ (List.mem_append_right _ (List.mem_append_right _ (List.mem_append_left _ h)))))))))))))))))))))))))
theorem wc_X7 : ∀ w ∈ wsX70, w ∈ wALL := fun _ h => List.mem_append_right _ (List.mem_append_right _ (List.mem_append_right _ (List.mem_append_right _ (List.mem_append_right _ (List.mem_append_right _ (List.mem_append_right _ (List.mem_append_right _ (List.mem_append_right _ (List.mem_append_right _ (List.mem_append_right _ (List.mem_append_right _ (List.mem_append_right _ (List.mem_append_right _ (List.mem_append_right _ (List.mem_append_right _ (List.mem_append_right _ (List.mem_append_right _ (List.mem_append_right _ (List.mem_append_right _ (List.mem_append_right _ (List.mem_append_right _ (List.mem_append_right _ (List.mem_append_right _ (List.mem_append_right _ (List.mem_append_right _ (List.mem_append_left _ h))))))))))))))))))))))))))
theorem wc_X8 : ∀ w ∈ wsX80, w ∈ wALL := fun _ h => List.mem_append_right _ (List.mem_append_right _ (List.mem_append_right _ (List.mem_append_right _ (List.mem_append_right _ (List.mem_append_right _ (List.mem_append_right _ (List.mem_append_right _ (List.mem_append_right _ (List.mem_append_right _ (List.mem_append_right _ (List.mem_append_right _ (List.mem_append_right _ (List.mem_append_right _ (List.mem_append_right _ (List.mem_append_right _ (List.mem_append_right _ (List.mem_append_right _ (List.mem_append_right _ (List.mem_append_right _ (List.mem_append_right _ (List.mem_append_right _ (List.mem_append_right _ (List.mem_append_right _ (List.mem_append_right _ (List.mem_append_right _ (List.mem_append_right _ (h)))))))))))))))))))))))))))
theorem hw_0 : (.fieldLink RX8 7 "WornLinesModel" "tape" "[I" : Cond) ∈ wALL := wm_0 _ (List.mem_of_getElem? (i := 0) rfl)
theorem hw_1 : (.fieldLink RX8 159 "WornLinesModel" "taped" "I" : Cond) ∈ wALL := wm_0 _ (List.mem_of_getElem? (i := 1) rfl)
theorem hw_2 : (.constantLong RX8 157 (255) : Cond) ∈ wALL := wm_0 _ (List.mem_of_getElem? (i := 2) rfl)
theorem hw_3 : (.fieldLink RX8 153 "WornLinesModel" "thrown" "I" : Cond) ∈ wALL := wm_0 _ (List.mem_of_getElem? (i := 3) rfl)
theorem hw_4 : (.fieldLink RX8 162 "WornLinesModel" "size" "I" : Cond) ∈ wALL := wm_0 _ (List.mem_of_getElem? (i := 4) rfl)
theorem hw_5 : (.fieldLink RX8 178 "WornLinesModel" "token" "I" : Cond) ∈ wALL := wm_0 _ (List.mem_of_getElem? (i := 5) rfl)
theorem hw_6 : (.fieldLink RX8 165 "WornLinesModel" "place" "I" : Cond) ∈ wALL := wm_0 _ (List.mem_of_getElem? (i := 6) rfl)
theorem hw_7 : (.fieldLink RX8 168 "WornLinesModel" "begin" "I" : Cond) ∈ wALL := wm_0 _ (List.mem_of_getElem? (i := 7) rfl)
theorem hw_8 : (.fieldLink RX8 175 "WornLinesModel" "told" "I" : Cond) ∈ wALL := wm_0 _ (List.mem_of_getElem? (i := 8) rfl)
theorem hw_9 : (.fieldLink RX8 171 "WornLinesModel" "word" "J" : Cond) ∈ wALL := wm_0 _ (List.mem_of_getElem? (i := 9) rfl)
theorem hw_10 : (.constantLong RX8 185 (27) : Cond) ∈ wALL := wm_0 _ (List.mem_of_getElem? (i := 10) rfl)
theorem hw_11 : (.constantLong RX8 187 (96) : Cond) ∈ wALL := wm_0 _ (List.mem_of_getElem? (i := 11) rfl)
theorem hw_12 : (.methodLink RX8 181 yX8_signAt : Cond) ∈ wALL := wm_0 _ (List.mem_of_getElem? (i := 12) rfl)
theorem hw_13 : (.instanceMethod yX8_signAt : Cond) ∈ wALL := wm_0 _ (List.mem_of_getElem? (i := 13) rfl)
theorem hw_14 : (.selects RX8 yX8_signAt yX8_signAt : Cond) ∈ wALL := wm_0 _ (List.mem_of_getElem? (i := 14) rfl)
theorem hw_15 : (.initialized RX8 : Cond) ∈ wALL := wm_0 _ (List.mem_of_getElem? (i := 15) rfl)
theorem hw_16 : (.fieldLink RX8 189 "WornLinesModel" "wrong" "I" : Cond) ∈ wALL := wm_0 _ (List.mem_of_getElem? (i := 16) rfl)
theorem hw_17 : (.fieldLink RX8 68 "WornLinesModel" "codes" "[I" : Cond) ∈ wALL := wm_0 _ (List.mem_of_getElem? (i := 17) rfl)
theorem hw_18 : (.fieldLink RX8 192 "WornLinesModel" "code" "I" : Cond) ∈ wALL := wm_0 _ (List.mem_of_getElem? (i := 18) rfl)
theorem hw_19 : (.constantLong RX8 195 (10506516) : Cond) ∈ wALL := wm_0 _ (List.mem_of_getElem? (i := 19) rfl)
theorem hw_20 : (.constantLong RX8 197 (1162531) : Cond) ∈ wALL := wm_0 _ (List.mem_of_getElem? (i := 20) rfl)
theorem hw_21 : (.constantLong RX8 199 (1903978) : Cond) ∈ wALL := wm_0 _ (List.mem_of_getElem? (i := 21) rfl)
theorem hw_22 : (.constantLong RX8 201 (63030) : Cond) ∈ wALL := wm_0 _ (List.mem_of_getElem? (i := 22) rfl)
theorem hw_23 : (.constantLong RX8 203 (5070782) : Cond) ∈ wALL := wm_0 _ (List.mem_of_getElem? (i := 23) rfl)
theorem hw_24 : (.constantLong RX8 205 (243140) : Cond) ∈ wALL := wm_0 _ (List.mem_of_getElem? (i := 24) rfl)
theorem hw_25 : (.constantLong RX8 207 (14006) : Cond) ∈ wALL := wm_0 _ (List.mem_of_getElem? (i := 25) rfl)
theorem hw_26 : (.constantLong RX8 209 (12584543) : Cond) ∈ wALL := wm_0 _ (List.mem_of_getElem? (i := 26) rfl)
theorem hw_27 : (.constantLong RX8 211 (204) : Cond) ∈ wALL := wm_0 _ (List.mem_of_getElem? (i := 27) rfl)
theorem hw_28 : (.constantLong RX8 213 (249) : Cond) ∈ wALL := wm_0 _ (List.mem_of_getElem? (i := 28) rfl)
theorem hw_29 : (.constantLong RX8 215 (60114) : Cond) ∈ wALL := wm_0 _ (List.mem_of_getElem? (i := 29) rfl)
theorem hw_30 : (.constantLong RX8 217 (220309) : Cond) ∈ wALL := wm_0 _ (List.mem_of_getElem? (i := 30) rfl)
theorem hw_31 : (.constantLong RX8 219 (259906) : Cond) ∈ wALL := wm_0 _ (List.mem_of_getElem? (i := 31) rfl)
theorem hw_32 : (.constantLong RX8 221 (79) : Cond) ∈ wALL := wm_0 _ (List.mem_of_getElem? (i := 32) rfl)
theorem hw_33 : (.constantLong RX8 223 (158537) : Cond) ∈ wALL := wm_0 _ (List.mem_of_getElem? (i := 33) rfl)
theorem hw_34 : (.constantLong RX8 225 (464144) : Cond) ∈ wALL := wm_0 _ (List.mem_of_getElem? (i := 34) rfl)
theorem hw_35 : (.constantLong RX8 227 (10631) : Cond) ∈ wALL := wm_0 _ (List.mem_of_getElem? (i := 35) rfl)
theorem hw_36 : (.constantLong RX8 229 (1111) : Cond) ∈ wALL := wm_0 _ (List.mem_of_getElem? (i := 36) rfl)
theorem hw_37 : (.constantLong RX8 231 (423) : Cond) ∈ wALL := wm_0 _ (List.mem_of_getElem? (i := 37) rfl)
theorem hw_38 : (.fieldLink RX8 16 "WornLinesModel" "cells" "[I" : Cond) ∈ wALL := wm_0 _ (List.mem_of_getElem? (i := 38) rfl)
theorem hw_39 : (.fieldLink RX8 29 "WornLinesModel" "cellName" "[J" : Cond) ∈ wALL := wm_0 _ (List.mem_of_getElem? (i := 39) rfl)
theorem hw_40 : (.fieldLink RX8 13 "WornLinesModel" "stuffs" "[I" : Cond) ∈ wALL := wm_1 _ (List.mem_of_getElem? (i := 0) rfl)
theorem hw_41 : (.fieldLink RX8 25 "WornLinesModel" "stuffName" "[J" : Cond) ∈ wALL := wm_1 _ (List.mem_of_getElem? (i := 1) rfl)
theorem hw_42 : (.fieldLink RX8 74 "WornLinesModel" "compared" "[Z" : Cond) ∈ wALL := wm_1 _ (List.mem_of_getElem? (i := 2) rfl)
theorem hw_43 : (.fieldLink RX8 65 "WornLinesModel" "lineTo" "[I" : Cond) ∈ wALL := wm_1 _ (List.mem_of_getElem? (i := 3) rfl)
theorem hw_44 : (.fieldLink RX8 71 "WornLinesModel" "opened" "[I" : Cond) ∈ wALL := wm_1 _ (List.mem_of_getElem? (i := 4) rfl)
theorem hw_45 : (.fieldLink RX8 62 "WornLinesModel" "lineFrom" "[I" : Cond) ∈ wALL := wm_1 _ (List.mem_of_getElem? (i := 5) rfl)
theorem hw_46 : (.methodLink RX8 241 yX8_isSign : Cond) ∈ wALL := wm_1 _ (List.mem_of_getElem? (i := 6) rfl)
theorem hw_47 : (.instanceMethod yX8_isSign : Cond) ∈ wALL := wm_1 _ (List.mem_of_getElem? (i := 7) rfl)
theorem hw_48 : (.selects RX8 yX8_isSign yX8_isSign : Cond) ∈ wALL := wm_1 _ (List.mem_of_getElem? (i := 8) rfl)
theorem hw_49 : (.methodLink RX8 252 yX8_puts : Cond) ∈ wALL := wm_1 _ (List.mem_of_getElem? (i := 9) rfl)
theorem hw_50 : (.instanceMethod yX8_puts : Cond) ∈ wALL := wm_1 _ (List.mem_of_getElem? (i := 10) rfl)
theorem hw_51 : (.selects RX8 yX8_puts yX8_puts : Cond) ∈ wALL := wm_1 _ (List.mem_of_getElem? (i := 11) rfl)
theorem hw_52 : (.methodLink RX8 256 yX8_nextToken : Cond) ∈ wALL := wm_1 _ (List.mem_of_getElem? (i := 12) rfl)
theorem hw_53 : (.instanceMethod yX8_nextToken : Cond) ∈ wALL := wm_1 _ (List.mem_of_getElem? (i := 13) rfl)
theorem hw_54 : (.selects RX8 yX8_nextToken yX8_nextToken : Cond) ∈ wALL := wm_1 _ (List.mem_of_getElem? (i := 14) rfl)
theorem hw_55 : (.methodLink RX8 237 yX8_isWord : Cond) ∈ wALL := wm_1 _ (List.mem_of_getElem? (i := 15) rfl)
theorem hw_56 : (.instanceMethod yX8_isWord : Cond) ∈ wALL := wm_1 _ (List.mem_of_getElem? (i := 16) rfl)
theorem hw_57 : (.selects RX8 yX8_isWord yX8_isWord : Cond) ∈ wALL := wm_1 _ (List.mem_of_getElem? (i := 17) rfl)
theorem hw_58 : (.methodLink RX8 245 yX8_fails : Cond) ∈ wALL := wm_1 _ (List.mem_of_getElem? (i := 18) rfl)
theorem hw_59 : (.instanceMethod yX8_fails : Cond) ∈ wALL := wm_1 _ (List.mem_of_getElem? (i := 19) rfl)
theorem hw_60 : (.selects RX8 yX8_fails yX8_fails : Cond) ∈ wALL := wm_1 _ (List.mem_of_getElem? (i := 20) rfl)
theorem hw_61 : (.methodLink RX8 248 yX8_cellOf : Cond) ∈ wALL := wm_1 _ (List.mem_of_getElem? (i := 21) rfl)
theorem hw_62 : (.instanceMethod yX8_cellOf : Cond) ∈ wALL := wm_1 _ (List.mem_of_getElem? (i := 22) rfl)
theorem hw_63 : (.selects RX8 yX8_cellOf yX8_cellOf : Cond) ∈ wALL := wm_1 _ (List.mem_of_getElem? (i := 23) rfl)
theorem hw_64 : (.methodLink RX8 233 yX8_isKept : Cond) ∈ wALL := wm_1 _ (List.mem_of_getElem? (i := 24) rfl)
theorem hw_65 : (.instanceMethod yX8_isKept : Cond) ∈ wALL := wm_1 _ (List.mem_of_getElem? (i := 25) rfl)
theorem hw_66 : (.selects RX8 yX8_isKept yX8_isKept : Cond) ∈ wALL := wm_1 _ (List.mem_of_getElem? (i := 26) rfl)
theorem hw_67 : (.fieldLink RX8 81 "WornLinesModel" "keptBy" "[I" : Cond) ∈ wALL := wm_1 _ (List.mem_of_getElem? (i := 27) rfl)
theorem hw_68 : (.fieldLink RX8 87 "WornLinesModel" "against" "[I" : Cond) ∈ wALL := wm_1 _ (List.mem_of_getElem? (i := 28) rfl)
theorem hw_69 : (.fieldLink RX8 90 "WornLinesModel" "sum" "[I" : Cond) ∈ wALL := wm_1 _ (List.mem_of_getElem? (i := 29) rfl)
theorem hw_70 : (.fieldLink RX8 93 "WornLinesModel" "sumBy" "[I" : Cond) ∈ wALL := wm_1 _ (List.mem_of_getElem? (i := 30) rfl)
theorem hw_71 : (.fieldLink RX8 99 "WornLinesModel" "termBy" "[I" : Cond) ∈ wALL := wm_1 _ (List.mem_of_getElem? (i := 31) rfl)
theorem hw_72 : (.fieldLink RX8 96 "WornLinesModel" "term" "[I" : Cond) ∈ wALL := wm_1 _ (List.mem_of_getElem? (i := 32) rfl)
theorem hw_73 : (.fieldLink RX8 78 "WornLinesModel" "kept" "[I" : Cond) ∈ wALL := wm_1 _ (List.mem_of_getElem? (i := 33) rfl)
theorem hw_74 : (.fieldLink RX8 84 "WornLinesModel" "ahead" "[I" : Cond) ∈ wALL := wm_1 _ (List.mem_of_getElem? (i := 34) rfl)
theorem hw_75 : (.fieldLink RX8 22 "WornLinesModel" "lines" "[I" : Cond) ∈ wALL := wm_1 _ (List.mem_of_getElem? (i := 35) rfl)
theorem hw_76 : (.fieldLink RX8 352 "WornLinesModel" "at" "I" : Cond) ∈ wALL := wm_1 _ (List.mem_of_getElem? (i := 36) rfl)
theorem hw_77 : (.fieldLink RX8 355 "WornLinesModel" "way" "I" : Cond) ∈ wALL := wm_1 _ (List.mem_of_getElem? (i := 37) rfl)
theorem hw_78 : (.fieldLink RX8 111 "WornLinesModel" "wear" "[I" : Cond) ∈ wALL := wm_1 _ (List.mem_of_getElem? (i := 38) rfl)
theorem hw_79 : (.methodLink RX8 259 yX8_sums : Cond) ∈ wALL := wm_1 _ (List.mem_of_getElem? (i := 39) rfl)
theorem hw_80 : (.instanceMethod yX8_sums : Cond) ∈ wALL := wm_2 _ (List.mem_of_getElem? (i := 0) rfl)
theorem hw_81 : (.selects RX8 yX8_sums yX8_sums : Cond) ∈ wALL := wm_2 _ (List.mem_of_getElem? (i := 1) rfl)
theorem hw_82 : (.methodLink RX8 358 yX8_lineOf : Cond) ∈ wALL := wm_2 _ (List.mem_of_getElem? (i := 2) rfl)
theorem hw_83 : (.instanceMethod yX8_lineOf : Cond) ∈ wALL := wm_2 _ (List.mem_of_getElem? (i := 3) rfl)
theorem hw_84 : (.selects RX8 yX8_lineOf yX8_lineOf : Cond) ∈ wALL := wm_2 _ (List.mem_of_getElem? (i := 4) rfl)
theorem hw_85 : (.fieldLink RX8 102 "WornLinesModel" "byNot" "[I" : Cond) ∈ wALL := wm_2 _ (List.mem_of_getElem? (i := 5) rfl)
theorem hw_86 : (.fieldLink RX8 105 "WornLinesModel" "valueOf" "[I" : Cond) ∈ wALL := wm_2 _ (List.mem_of_getElem? (i := 6) rfl)
theorem hw_87 : (.methodLink RX8 262 yX8_opens : Cond) ∈ wALL := wm_2 _ (List.mem_of_getElem? (i := 7) rfl)
theorem hw_88 : (.instanceMethod yX8_opens : Cond) ∈ wALL := wm_2 _ (List.mem_of_getElem? (i := 8) rfl)
theorem hw_89 : (.selects RX8 yX8_opens yX8_opens : Cond) ∈ wALL := wm_2 _ (List.mem_of_getElem? (i := 9) rfl)
theorem hw_90 : (.methodLink RX8 265 yX8_tests : Cond) ∈ wALL := wm_2 _ (List.mem_of_getElem? (i := 10) rfl)
theorem hw_91 : (.instanceMethod yX8_tests : Cond) ∈ wALL := wm_2 _ (List.mem_of_getElem? (i := 11) rfl)
theorem hw_92 : (.selects RX8 yX8_tests yX8_tests : Cond) ∈ wALL := wm_2 _ (List.mem_of_getElem? (i := 12) rfl)
theorem hw_93 : (.methodLink RX8 268 yX8_wornness : Cond) ∈ wALL := wm_2 _ (List.mem_of_getElem? (i := 13) rfl)
theorem hw_94 : (.instanceMethod yX8_wornness : Cond) ∈ wALL := wm_2 _ (List.mem_of_getElem? (i := 14) rfl)
theorem hw_95 : (.selects RX8 yX8_wornness yX8_wornness : Cond) ∈ wALL := wm_2 _ (List.mem_of_getElem? (i := 15) rfl)
theorem hw_96 : (.fieldLink RX8 32 "WornLinesModel" "bears" "[I" : Cond) ∈ wALL := wm_2 _ (List.mem_of_getElem? (i := 16) rfl)
theorem hw_97 : (.fieldLink RX8 35 "WornLinesModel" "costs" "[I" : Cond) ∈ wALL := wm_2 _ (List.mem_of_getElem? (i := 17) rfl)
theorem hw_98 : (.fieldLink RX8 38 "WornLinesModel" "cellAt" "[I" : Cond) ∈ wALL := wm_2 _ (List.mem_of_getElem? (i := 18) rfl)
theorem hw_99 : (.methodLink RX8 271 yX8_within : Cond) ∈ wALL := wm_2 _ (List.mem_of_getElem? (i := 19) rfl)
theorem hw_100 : (.static yX8_within : Cond) ∈ wALL := wm_2 _ (List.mem_of_getElem? (i := 20) rfl)
theorem hw_101 : (.methodLink RX8 275 yX8_stuffOf : Cond) ∈ wALL := wm_2 _ (List.mem_of_getElem? (i := 21) rfl)
theorem hw_102 : (.instanceMethod yX8_stuffOf : Cond) ∈ wALL := wm_2 _ (List.mem_of_getElem? (i := 22) rfl)
theorem hw_103 : (.selects RX8 yX8_stuffOf yX8_stuffOf : Cond) ∈ wALL := wm_2 _ (List.mem_of_getElem? (i := 23) rfl)
theorem hw_104 : (.methodLink RX8 278 yX8_needsNew : Cond) ∈ wALL := wm_2 _ (List.mem_of_getElem? (i := 24) rfl)
theorem hw_105 : (.instanceMethod yX8_needsNew : Cond) ∈ wALL := wm_2 _ (List.mem_of_getElem? (i := 25) rfl)
theorem hw_106 : (.selects RX8 yX8_needsNew yX8_needsNew : Cond) ∈ wALL := wm_2 _ (List.mem_of_getElem? (i := 26) rfl)
theorem hw_107 : (.methodLink RX8 281 yX8_needsWord : Cond) ∈ wALL := wm_2 _ (List.mem_of_getElem? (i := 27) rfl)
theorem hw_108 : (.instanceMethod yX8_needsWord : Cond) ∈ wALL := wm_2 _ (List.mem_of_getElem? (i := 28) rfl)
theorem hw_109 : (.selects RX8 yX8_needsWord yX8_needsWord : Cond) ∈ wALL := wm_2 _ (List.mem_of_getElem? (i := 29) rfl)
theorem hw_110 : (.methodLink RX8 284 yX8_needsNumber : Cond) ∈ wALL := wm_2 _ (List.mem_of_getElem? (i := 30) rfl)
theorem hw_111 : (.instanceMethod yX8_needsNumber : Cond) ∈ wALL := wm_2 _ (List.mem_of_getElem? (i := 31) rfl)
theorem hw_112 : (.selects RX8 yX8_needsNumber yX8_needsNumber : Cond) ∈ wALL := wm_2 _ (List.mem_of_getElem? (i := 32) rfl)
theorem hw_113 : (.methodLink RX8 288 yX8_ends : Cond) ∈ wALL := wm_2 _ (List.mem_of_getElem? (i := 33) rfl)
theorem hw_114 : (.instanceMethod yX8_ends : Cond) ∈ wALL := wm_2 _ (List.mem_of_getElem? (i := 34) rfl)
theorem hw_115 : (.selects RX8 yX8_ends yX8_ends : Cond) ∈ wALL := wm_2 _ (List.mem_of_getElem? (i := 35) rfl)
theorem hw_116 : (.fieldLink RX8 19 "WornLinesModel" "inputs" "[I" : Cond) ∈ wALL := wm_2 _ (List.mem_of_getElem? (i := 36) rfl)
theorem hw_117 : (.fieldLink RX8 44 "WornLinesModel" "inputLeast" "[I" : Cond) ∈ wALL := wm_2 _ (List.mem_of_getElem? (i := 37) rfl)
theorem hw_118 : (.fieldLink RX8 47 "WornLinesModel" "inputMost" "[I" : Cond) ∈ wALL := wm_2 _ (List.mem_of_getElem? (i := 38) rfl)
theorem hw_119 : (.fieldLink RX8 41 "WornLinesModel" "inputCell" "[I" : Cond) ∈ wALL := wm_2 _ (List.mem_of_getElem? (i := 39) rfl)
theorem hw_120 : (.fieldLink RX8 53 "WornLinesModel" "actCell" "[I" : Cond) ∈ wALL := wm_3 _ (List.mem_of_getElem? (i := 0) rfl)
theorem hw_121 : (.fieldLink RX8 50 "WornLinesModel" "act" "[I" : Cond) ∈ wALL := wm_3 _ (List.mem_of_getElem? (i := 1) rfl)
theorem hw_122 : (.fieldLink RX8 56 "WornLinesModel" "lineStuff" "[I" : Cond) ∈ wALL := wm_3 _ (List.mem_of_getElem? (i := 2) rfl)
theorem hw_123 : (.fieldLink RX8 59 "WornLinesModel" "twins" "[I" : Cond) ∈ wALL := wm_3 _ (List.mem_of_getElem? (i := 3) rfl)
theorem hw_124 : (.methodLink RX8 297 yX8_readsE : Cond) ∈ wALL := wm_3 _ (List.mem_of_getElem? (i := 4) rfl)
theorem hw_125 : (.instanceMethod yX8_readsE : Cond) ∈ wALL := wm_3 _ (List.mem_of_getElem? (i := 5) rfl)
theorem hw_126 : (.selects RX8 yX8_readsE yX8_readsE : Cond) ∈ wALL := wm_3 _ (List.mem_of_getElem? (i := 6) rfl)
theorem hw_127 : (.methodLink RX8 294 yX8_needsCell : Cond) ∈ wALL := wm_3 _ (List.mem_of_getElem? (i := 7) rfl)
theorem hw_128 : (.instanceMethod yX8_needsCell : Cond) ∈ wALL := wm_3 _ (List.mem_of_getElem? (i := 8) rfl)
theorem hw_129 : (.selects RX8 yX8_needsCell yX8_needsCell : Cond) ∈ wALL := wm_3 _ (List.mem_of_getElem? (i := 9) rfl)
theorem hw_130 : (.methodLink RX8 291 yX8_actAt : Cond) ∈ wALL := wm_3 _ (List.mem_of_getElem? (i := 10) rfl)
theorem hw_131 : (.instanceMethod yX8_actAt : Cond) ∈ wALL := wm_3 _ (List.mem_of_getElem? (i := 11) rfl)
theorem hw_132 : (.selects RX8 yX8_actAt yX8_actAt : Cond) ∈ wALL := wm_3 _ (List.mem_of_getElem? (i := 12) rfl)
theorem hw_133 : (.methodLink RX8 300 yX8_readsAct : Cond) ∈ wALL := wm_3 _ (List.mem_of_getElem? (i := 13) rfl)
theorem hw_134 : (.instanceMethod yX8_readsAct : Cond) ∈ wALL := wm_3 _ (List.mem_of_getElem? (i := 14) rfl)
theorem hw_135 : (.selects RX8 yX8_readsAct yX8_readsAct : Cond) ∈ wALL := wm_3 _ (List.mem_of_getElem? (i := 15) rfl)
theorem hw_136 : (.methodLink RX8 312 yX8_readsLine : Cond) ∈ wALL := wm_3 _ (List.mem_of_getElem? (i := 16) rfl)
theorem hw_137 : (.instanceMethod yX8_readsLine : Cond) ∈ wALL := wm_3 _ (List.mem_of_getElem? (i := 17) rfl)
theorem hw_138 : (.selects RX8 yX8_readsLine yX8_readsLine : Cond) ∈ wALL := wm_3 _ (List.mem_of_getElem? (i := 18) rfl)
theorem hw_139 : (.methodLink RX8 309 yX8_readsInput : Cond) ∈ wALL := wm_3 _ (List.mem_of_getElem? (i := 19) rfl)
theorem hw_140 : (.instanceMethod yX8_readsInput : Cond) ∈ wALL := wm_3 _ (List.mem_of_getElem? (i := 20) rfl)
theorem hw_141 : (.selects RX8 yX8_readsInput yX8_readsInput : Cond) ∈ wALL := wm_3 _ (List.mem_of_getElem? (i := 21) rfl)
theorem hw_142 : (.methodLink RX8 306 yX8_readsCell : Cond) ∈ wALL := wm_3 _ (List.mem_of_getElem? (i := 22) rfl)
theorem hw_143 : (.instanceMethod yX8_readsCell : Cond) ∈ wALL := wm_3 _ (List.mem_of_getElem? (i := 23) rfl)
theorem hw_144 : (.selects RX8 yX8_readsCell yX8_readsCell : Cond) ∈ wALL := wm_3 _ (List.mem_of_getElem? (i := 24) rfl)
theorem hw_145 : (.methodLink RX8 303 yX8_readsStuff : Cond) ∈ wALL := wm_3 _ (List.mem_of_getElem? (i := 25) rfl)
theorem hw_146 : (.instanceMethod yX8_readsStuff : Cond) ∈ wALL := wm_3 _ (List.mem_of_getElem? (i := 26) rfl)
theorem hw_147 : (.selects RX8 yX8_readsStuff yX8_readsStuff : Cond) ∈ wALL := wm_3 _ (List.mem_of_getElem? (i := 27) rfl)
theorem hw_148 : (.methodLink RX8 315 yX8_moves : Cond) ∈ wALL := wm_3 _ (List.mem_of_getElem? (i := 28) rfl)
theorem hw_149 : (.static yX8_moves : Cond) ∈ wALL := wm_3 _ (List.mem_of_getElem? (i := 29) rfl)
theorem hw_150 : (.fieldLink RX8 126 "WornLinesModel" "worn" "[I" : Cond) ∈ wALL := wm_3 _ (List.mem_of_getElem? (i := 30) rfl)
theorem hw_151 : (.fieldLink RX8 326 "WornLinesModel" "state" "I" : Cond) ∈ wALL := wm_3 _ (List.mem_of_getElem? (i := 31) rfl)
theorem hw_152 : (.methodLink RX8 319 yX8_readsAll : Cond) ∈ wALL := wm_3 _ (List.mem_of_getElem? (i := 32) rfl)
theorem hw_153 : (.instanceMethod yX8_readsAll : Cond) ∈ wALL := wm_3 _ (List.mem_of_getElem? (i := 33) rfl)
theorem hw_154 : (.selects RX8 yX8_readsAll yX8_readsAll : Cond) ∈ wALL := wm_3 _ (List.mem_of_getElem? (i := 34) rfl)
theorem hw_155 : (.methodLink RX8 322 yX8_lays : Cond) ∈ wALL := wm_3 _ (List.mem_of_getElem? (i := 35) rfl)
theorem hw_156 : (.instanceMethod yX8_lays : Cond) ∈ wALL := wm_3 _ (List.mem_of_getElem? (i := 36) rfl)
theorem hw_157 : (.selects RX8 yX8_lays yX8_lays : Cond) ∈ wALL := wm_3 _ (List.mem_of_getElem? (i := 37) rfl)
theorem hw_158 : (.methodLink RX8 329 yX8_isStuff : Cond) ∈ wALL := wm_3 _ (List.mem_of_getElem? (i := 38) rfl)
theorem hw_159 : (.instanceMethod yX8_isStuff : Cond) ∈ wALL := wm_3 _ (List.mem_of_getElem? (i := 39) rfl)
theorem hw_160 : (.selects RX8 yX8_isStuff yX8_isStuff : Cond) ∈ wALL := wm_4 _ (List.mem_of_getElem? (i := 0) rfl)
theorem hw_161 : (.methodLink RX8 332 yX8_isLine : Cond) ∈ wALL := wm_4 _ (List.mem_of_getElem? (i := 1) rfl)
theorem hw_162 : (.instanceMethod yX8_isLine : Cond) ∈ wALL := wm_4 _ (List.mem_of_getElem? (i := 2) rfl)
theorem hw_163 : (.selects RX8 yX8_isLine yX8_isLine : Cond) ∈ wALL := wm_4 _ (List.mem_of_getElem? (i := 3) rfl)
theorem hw_164 : (.methodLink RX8 335 yX8_bearsOf : Cond) ∈ wALL := wm_4 _ (List.mem_of_getElem? (i := 4) rfl)
theorem hw_165 : (.instanceMethod yX8_bearsOf : Cond) ∈ wALL := wm_4 _ (List.mem_of_getElem? (i := 5) rfl)
theorem hw_166 : (.selects RX8 yX8_bearsOf yX8_bearsOf : Cond) ∈ wALL := wm_4 _ (List.mem_of_getElem? (i := 6) rfl)
theorem hw_167 : (.methodLink RX8 338 yX8_manyOf : Cond) ∈ wALL := wm_4 _ (List.mem_of_getElem? (i := 7) rfl)
theorem hw_168 : (.instanceMethod yX8_manyOf : Cond) ∈ wALL := wm_4 _ (List.mem_of_getElem? (i := 8) rfl)
theorem hw_169 : (.selects RX8 yX8_manyOf yX8_manyOf : Cond) ∈ wALL := wm_4 _ (List.mem_of_getElem? (i := 9) rfl)
theorem hw_170 : (.methodLink RX8 342 yX8_inputsOf : Cond) ∈ wALL := wm_4 _ (List.mem_of_getElem? (i := 10) rfl)
theorem hw_171 : (.instanceMethod yX8_inputsOf : Cond) ∈ wALL := wm_4 _ (List.mem_of_getElem? (i := 11) rfl)
theorem hw_172 : (.selects RX8 yX8_inputsOf yX8_inputsOf : Cond) ∈ wALL := wm_4 _ (List.mem_of_getElem? (i := 12) rfl)
theorem hw_173 : (.methodLink RX8 345 yX8_isCell : Cond) ∈ wALL := wm_4 _ (List.mem_of_getElem? (i := 13) rfl)
theorem hw_174 : (.instanceMethod yX8_isCell : Cond) ∈ wALL := wm_4 _ (List.mem_of_getElem? (i := 14) rfl)
theorem hw_175 : (.selects RX8 yX8_isCell yX8_isCell : Cond) ∈ wALL := wm_4 _ (List.mem_of_getElem? (i := 15) rfl)
theorem hw_176 : (.methodLink RX8 348 yX8_beginsWith : Cond) ∈ wALL := wm_4 _ (List.mem_of_getElem? (i := 16) rfl)
theorem hw_177 : (.instanceMethod yX8_beginsWith : Cond) ∈ wALL := wm_4 _ (List.mem_of_getElem? (i := 17) rfl)
theorem hw_178 : (.selects RX8 yX8_beginsWith yX8_beginsWith : Cond) ∈ wALL := wm_4 _ (List.mem_of_getElem? (i := 18) rfl)
theorem hw_179 : (.fieldLink RX8 108 "WornLinesModel" "here" "[I" : Cond) ∈ wALL := wm_4 _ (List.mem_of_getElem? (i := 19) rfl)
theorem hw_180 : (.fieldLink RX8 382 "WornLinesModel" "isEnd" "Z" : Cond) ∈ wALL := wm_4 _ (List.mem_of_getElem? (i := 20) rfl)
theorem hw_181 : (.fieldLink RX8 364 "WornLinesModel" "next" "I" : Cond) ∈ wALL := wm_4 _ (List.mem_of_getElem? (i := 21) rfl)
theorem hw_182 : (.methodLink RX8 377 Lib.Math.max.name : Cond) ∈ wALL := wm_4 _ (List.mem_of_getElem? (i := 22) rfl)
theorem hw_183 : (.static Lib.Math.max.name : Cond) ∈ wALL := wm_4 _ (List.mem_of_getElem? (i := 23) rfl)
theorem hw_184 : (.initialized "java/lang/Math" : Cond) ∈ wALL := wm_4 _ (List.mem_of_getElem? (i := 24) rfl)
theorem hw_185 : (.code Lib.Math.max.name Lib.Math.max.code 2 (some .int) : Cond) ∈ wALL := wm_4 _ (List.mem_of_getElem? (i := 25) rfl)
theorem hw_186 : (.fieldLink RX8 374 "WornLinesModel" "written" "I" : Cond) ∈ wALL := wm_4 _ (List.mem_of_getElem? (i := 26) rfl)
theorem hw_187 : (.fieldLink RX8 114 "WornLinesModel" "strip" "[I" : Cond) ∈ wALL := wm_4 _ (List.mem_of_getElem? (i := 27) rfl)
theorem hw_188 : (.fieldLink RX8 367 "WornLinesModel" "isFallen" "Z" : Cond) ∈ wALL := wm_4 _ (List.mem_of_getElem? (i := 28) rfl)
theorem hw_189 : (.methodLink RX8 361 yX8_worked : Cond) ∈ wALL := wm_4 _ (List.mem_of_getElem? (i := 29) rfl)
theorem hw_190 : (.instanceMethod yX8_worked : Cond) ∈ wALL := wm_4 _ (List.mem_of_getElem? (i := 30) rfl)
theorem hw_191 : (.selects RX8 yX8_worked yX8_worked : Cond) ∈ wALL := wm_4 _ (List.mem_of_getElem? (i := 31) rfl)
theorem hw_192 : (.methodLink RX8 371 yX8_works : Cond) ∈ wALL := wm_4 _ (List.mem_of_getElem? (i := 32) rfl)
theorem hw_193 : (.instanceMethod yX8_works : Cond) ∈ wALL := wm_4 _ (List.mem_of_getElem? (i := 33) rfl)
theorem hw_194 : (.selects RX8 yX8_works yX8_works : Cond) ∈ wALL := wm_4 _ (List.mem_of_getElem? (i := 34) rfl)
theorem hw_195 : (.fieldLink RX8 385 "WornLinesModel" "made" "I" : Cond) ∈ wALL := wm_4 _ (List.mem_of_getElem? (i := 35) rfl)
theorem hw_196 : (.fieldLink RX8 117 "WornLinesModel" "gone" "[I" : Cond) ∈ wALL := wm_4 _ (List.mem_of_getElem? (i := 36) rfl)
theorem hw_197 : (.fieldLink RX8 120 "WornLinesModel" "peak" "[I" : Cond) ∈ wALL := wm_4 _ (List.mem_of_getElem? (i := 37) rfl)
theorem hw_198 : (.fieldLink RX8 123 "WornLinesModel" "handCell" "[I" : Cond) ∈ wALL := wm_4 _ (List.mem_of_getElem? (i := 38) rfl)
theorem hw_199 : (.fieldLink RX8 401 "WornLinesModel" "handNext" "I" : Cond) ∈ wALL := wm_4 _ (List.mem_of_getElem? (i := 39) rfl)
theorem hw_200 : (.fieldLink RX8 404 "WornLinesModel" "handSteps" "I" : Cond) ∈ wALL := wm_5 _ (List.mem_of_getElem? (i := 0) rfl)
theorem hw_201 : (.fieldLink RX8 407 "WornLinesModel" "handWritten" "I" : Cond) ∈ wALL := wm_5 _ (List.mem_of_getElem? (i := 1) rfl)
theorem hw_202 : (.methodLink RX8 388 yX8_stepsOn : Cond) ∈ wALL := wm_5 _ (List.mem_of_getElem? (i := 2) rfl)
theorem hw_203 : (.instanceMethod yX8_stepsOn : Cond) ∈ wALL := wm_5 _ (List.mem_of_getElem? (i := 3) rfl)
theorem hw_204 : (.selects RX8 yX8_stepsOn yX8_stepsOn : Cond) ∈ wALL := wm_5 _ (List.mem_of_getElem? (i := 4) rfl)
theorem hw_205 : (.methodLink RX8 391 yX8_freshens : Cond) ∈ wALL := wm_5 _ (List.mem_of_getElem? (i := 5) rfl)
theorem hw_206 : (.instanceMethod yX8_freshens : Cond) ∈ wALL := wm_5 _ (List.mem_of_getElem? (i := 6) rfl)
theorem hw_207 : (.selects RX8 yX8_freshens yX8_freshens : Cond) ∈ wALL := wm_5 _ (List.mem_of_getElem? (i := 7) rfl)
theorem hw_208 : (.methodLink RX8 394 yX8_begins : Cond) ∈ wALL := wm_5 _ (List.mem_of_getElem? (i := 8) rfl)
theorem hw_209 : (.instanceMethod yX8_begins : Cond) ∈ wALL := wm_5 _ (List.mem_of_getElem? (i := 9) rfl)
theorem hw_210 : (.selects RX8 yX8_begins yX8_begins : Cond) ∈ wALL := wm_5 _ (List.mem_of_getElem? (i := 10) rfl)
theorem hw_211 : (.methodLink RX8 398 yX8_goesOn : Cond) ∈ wALL := wm_5 _ (List.mem_of_getElem? (i := 11) rfl)
theorem hw_212 : (.instanceMethod yX8_goesOn : Cond) ∈ wALL := wm_5 _ (List.mem_of_getElem? (i := 12) rfl)
theorem hw_213 : (.selects RX8 yX8_goesOn yX8_goesOn : Cond) ∈ wALL := wm_5 _ (List.mem_of_getElem? (i := 13) rfl)
theorem hw_214 : (.constant RX8 410 (1000000) : Cond) ∈ wALL := wm_5 _ (List.mem_of_getElem? (i := 14) rfl)
theorem hw_215 : (.fieldLink RX8 129 "WornLinesModel" "handStrip" "[I" : Cond) ∈ wALL := wm_5 _ (List.mem_of_getElem? (i := 15) rfl)
theorem hw_216 : (.methodLink RX8 414 Lib.Math.min.name : Cond) ∈ wALL := wm_5 _ (List.mem_of_getElem? (i := 16) rfl)
theorem hw_217 : (.static Lib.Math.min.name : Cond) ∈ wALL := wm_5 _ (List.mem_of_getElem? (i := 17) rfl)
theorem hw_218 : (.code Lib.Math.min.name Lib.Math.min.code 2 (some .int) : Cond) ∈ wALL := wm_5 _ (List.mem_of_getElem? (i := 18) rfl)
theorem hw_219 : (.methodLink RX8 411 yX8_takesUp : Cond) ∈ wALL := wm_5 _ (List.mem_of_getElem? (i := 19) rfl)
theorem hw_220 : (.instanceMethod yX8_takesUp : Cond) ∈ wALL := wm_5 _ (List.mem_of_getElem? (i := 20) rfl)
theorem hw_221 : (.selects RX8 yX8_takesUp yX8_takesUp : Cond) ∈ wALL := wm_5 _ (List.mem_of_getElem? (i := 21) rfl)
theorem hw_222 : (.methodLink RX8 417 yX8_isInput : Cond) ∈ wALL := wm_5 _ (List.mem_of_getElem? (i := 22) rfl)
theorem hw_223 : (.instanceMethod yX8_isInput : Cond) ∈ wALL := wm_5 _ (List.mem_of_getElem? (i := 23) rfl)
theorem hw_224 : (.selects RX8 yX8_isInput yX8_isInput : Cond) ∈ wALL := wm_5 _ (List.mem_of_getElem? (i := 24) rfl)
theorem hw_225 : (.methodLink RX8 420 yX8_tries : Cond) ∈ wALL := wm_5 _ (List.mem_of_getElem? (i := 25) rfl)
theorem hw_226 : (.instanceMethod yX8_tries : Cond) ∈ wALL := wm_5 _ (List.mem_of_getElem? (i := 26) rfl)
theorem hw_227 : (.selects RX8 yX8_tries yX8_tries : Cond) ∈ wALL := wm_5 _ (List.mem_of_getElem? (i := 27) rfl)
theorem hw_228 : (.methodLink RX8 423 yX8_isEndless : Cond) ∈ wALL := wm_5 _ (List.mem_of_getElem? (i := 28) rfl)
theorem hw_229 : (.instanceMethod yX8_isEndless : Cond) ∈ wALL := wm_5 _ (List.mem_of_getElem? (i := 29) rfl)
theorem hw_230 : (.selects RX8 yX8_isEndless yX8_isEndless : Cond) ∈ wALL := wm_5 _ (List.mem_of_getElem? (i := 30) rfl)
theorem hw_231 : (.fieldLink RX8 138 "WornLinesModel" "mostPeak" "[I" : Cond) ∈ wALL := wm_5 _ (List.mem_of_getElem? (i := 31) rfl)
theorem hw_232 : (.fieldLink RX8 132 "WornLinesModel" "mostGone" "[I" : Cond) ∈ wALL := wm_5 _ (List.mem_of_getElem? (i := 32) rfl)
theorem hw_233 : (.fieldLink RX8 135 "WornLinesModel" "mostBy" "[I" : Cond) ∈ wALL := wm_5 _ (List.mem_of_getElem? (i := 33) rfl)
theorem hw_234 : (.methodLink RX8 426 yX8_wears : Cond) ∈ wALL := wm_5 _ (List.mem_of_getElem? (i := 34) rfl)
theorem hw_235 : (.instanceMethod yX8_wears : Cond) ∈ wALL := wm_5 _ (List.mem_of_getElem? (i := 35) rfl)
theorem hw_236 : (.selects RX8 yX8_wears yX8_wears : Cond) ∈ wALL := wm_5 _ (List.mem_of_getElem? (i := 36) rfl)
theorem hw_237 : (.fieldLink RX8 141 "WornLinesModel" "other" "[I" : Cond) ∈ wALL := wm_5 _ (List.mem_of_getElem? (i := 37) rfl)
theorem hw_238 : (.methodLink RX8 429 yX8_writeAlike : Cond) ∈ wALL := wm_5 _ (List.mem_of_getElem? (i := 38) rfl)
theorem hw_239 : (.instanceMethod yX8_writeAlike : Cond) ∈ wALL := wm_5 _ (List.mem_of_getElem? (i := 39) rfl)
theorem hw_240 : (.selects RX8 yX8_writeAlike yX8_writeAlike : Cond) ∈ wALL := wm_6 _ (List.mem_of_getElem? (i := 0) rfl)
theorem hw_241 : (.fieldLink RX8 144 "WornLinesModel" "least" "[I" : Cond) ∈ wALL := wm_6 _ (List.mem_of_getElem? (i := 1) rfl)
theorem hw_242 : (.methodLink RX8 433 yX8_layCost : Cond) ∈ wALL := wm_6 _ (List.mem_of_getElem? (i := 2) rfl)
theorem hw_243 : (.instanceMethod yX8_layCost : Cond) ∈ wALL := wm_6 _ (List.mem_of_getElem? (i := 3) rfl)
theorem hw_244 : (.selects RX8 yX8_layCost yX8_layCost : Cond) ∈ wALL := wm_6 _ (List.mem_of_getElem? (i := 4) rfl)
theorem hw_245 : (.methodLink RX8 436 yX8_lastsBy : Cond) ∈ wALL := wm_6 _ (List.mem_of_getElem? (i := 5) rfl)
theorem hw_246 : (.instanceMethod yX8_lastsBy : Cond) ∈ wALL := wm_6 _ (List.mem_of_getElem? (i := 6) rfl)
theorem hw_247 : (.selects RX8 yX8_lastsBy yX8_lastsBy : Cond) ∈ wALL := wm_6 _ (List.mem_of_getElem? (i := 7) rfl)
theorem hw_248 : (.methodLink RX8 440 yX8_isLasting : Cond) ∈ wALL := wm_6 _ (List.mem_of_getElem? (i := 8) rfl)
theorem hw_249 : (.instanceMethod yX8_isLasting : Cond) ∈ wALL := wm_6 _ (List.mem_of_getElem? (i := 9) rfl)
theorem hw_250 : (.selects RX8 yX8_isLasting yX8_isLasting : Cond) ∈ wALL := wm_6 _ (List.mem_of_getElem? (i := 10) rfl)
theorem hw_251 : (.fieldLink RX8 443 "WornLinesModel" "markAt" "I" : Cond) ∈ wALL := wm_6 _ (List.mem_of_getElem? (i := 11) rfl)
theorem hw_252 : (.fieldLink RX8 150 "WornLinesModel" "marked" "[I" : Cond) ∈ wALL := wm_6 _ (List.mem_of_getElem? (i := 12) rfl)
theorem hw_253 : (.fieldLink RX8 147 "WornLinesModel" "isLaid" "[Z" : Cond) ∈ wALL := wm_6 _ (List.mem_of_getElem? (i := 13) rfl)
theorem hw_254 : (.methodLink RX8 446 yX8_keeps : Cond) ∈ wALL := wm_6 _ (List.mem_of_getElem? (i := 14) rfl)
theorem hw_255 : (.instanceMethod yX8_keeps : Cond) ∈ wALL := wm_6 _ (List.mem_of_getElem? (i := 15) rfl)
theorem hw_256 : (.selects RX8 yX8_keeps yX8_keeps : Cond) ∈ wALL := wm_6 _ (List.mem_of_getElem? (i := 16) rfl)
theorem hw_257 : (.methodLink RX8 450 yX8_keepsRow : Cond) ∈ wALL := wm_6 _ (List.mem_of_getElem? (i := 17) rfl)
theorem hw_258 : (.instanceMethod yX8_keepsRow : Cond) ∈ wALL := wm_6 _ (List.mem_of_getElem? (i := 18) rfl)
theorem hw_259 : (.selects RX8 yX8_keepsRow yX8_keepsRow : Cond) ∈ wALL := wm_6 _ (List.mem_of_getElem? (i := 19) rfl)
theorem hw_260 : (.methodLink RX5 3 objectInit : Cond) ∈ wALL := wm_6 _ (List.mem_of_getElem? (i := 20) rfl)
theorem hw_261 : (.instanceMethod objectInit : Cond) ∈ wALL := wm_6 _ (List.mem_of_getElem? (i := 21) rfl)
theorem hw_262 : (.code objectInit ⟨#[0xb1]⟩ 1 none : Cond) ∈ wALL := wm_6 _ (List.mem_of_getElem? (i := 22) rfl)
theorem hw_263 : (.arrayClass .char : Cond) ∈ wALL := wm_6 _ (List.mem_of_getElem? (i := 23) rfl)
theorem hw_264 : (.fieldLink RX5 9 "WornLines$Tape" "signs" "[C" : Cond) ∈ wALL := wm_6 _ (List.mem_of_getElem? (i := 24) rfl)
theorem hw_265 : (.classLink RX5 15 RX6 : Cond) ∈ wALL := wm_6 _ (List.mem_of_getElem? (i := 25) rfl)
theorem hw_266 : (.fieldLink RX5 17 "WornLines$Tape" "tokens" "[LWornLines$Token;" : Cond) ∈ wALL := wm_6 _ (List.mem_of_getElem? (i := 26) rfl)
theorem hw_267 : (.arrayClass .int : Cond) ∈ wALL := wm_6 _ (List.mem_of_getElem? (i := 27) rfl)
theorem hw_268 : (.fieldLink RX5 21 "WornLines$Tape" "places" "[I" : Cond) ∈ wALL := wm_6 _ (List.mem_of_getElem? (i := 28) rfl)
theorem hw_269 : (.arrayClass .long : Cond) ∈ wALL := wm_6 _ (List.mem_of_getElem? (i := 29) rfl)
theorem hw_270 : (.fieldLink RX5 25 "WornLines$Tape" "values" "[J" : Cond) ∈ wALL := wm_6 _ (List.mem_of_getElem? (i := 30) rfl)
theorem hw_271 : (.methodLink RX2 3 objectInit : Cond) ∈ wALL := wm_6 _ (List.mem_of_getElem? (i := 31) rfl)
theorem hw_272 : (.fieldLink RX2 9 "WornLines$Programme" "bears" "[I" : Cond) ∈ wALL := wm_6 _ (List.mem_of_getElem? (i := 32) rfl)
theorem hw_273 : (.fieldLink RX2 15 "WornLines$Programme" "costs" "[I" : Cond) ∈ wALL := wm_6 _ (List.mem_of_getElem? (i := 33) rfl)
theorem hw_274 : (.fieldLink RX2 18 "WornLines$Programme" "told" "[I" : Cond) ∈ wALL := wm_6 _ (List.mem_of_getElem? (i := 34) rfl)
theorem hw_275 : (.fieldLink RX2 21 "WornLines$Programme" "givenCell" "[I" : Cond) ∈ wALL := wm_6 _ (List.mem_of_getElem? (i := 35) rfl)
theorem hw_276 : (.fieldLink RX2 24 "WornLines$Programme" "least" "[I" : Cond) ∈ wALL := wm_6 _ (List.mem_of_getElem? (i := 36) rfl)
theorem hw_277 : (.fieldLink RX2 27 "WornLines$Programme" "greatest" "[I" : Cond) ∈ wALL := wm_6 _ (List.mem_of_getElem? (i := 37) rfl)
theorem hw_278 : (.fieldLink RX2 30 "WornLines$Programme" "act" "[I" : Cond) ∈ wALL := wm_6 _ (List.mem_of_getElem? (i := 38) rfl)
theorem hw_279 : (.fieldLink RX2 33 "WornLines$Programme" "stuffOf" "[I" : Cond) ∈ wALL := wm_6 _ (List.mem_of_getElem? (i := 39) rfl)
theorem hw_280 : (.fieldLink RX2 36 "WornLines$Programme" "target" "[I" : Cond) ∈ wALL := wm_7 _ (List.mem_of_getElem? (i := 0) rfl)
theorem hw_281 : (.fieldLink RX2 39 "WornLines$Programme" "from" "[I" : Cond) ∈ wALL := wm_7 _ (List.mem_of_getElem? (i := 1) rfl)
theorem hw_282 : (.fieldLink RX2 42 "WornLines$Programme" "middle" "[I" : Cond) ∈ wALL := wm_7 _ (List.mem_of_getElem? (i := 2) rfl)
theorem hw_283 : (.fieldLink RX2 45 "WornLines$Programme" "end" "[I" : Cond) ∈ wALL := wm_7 _ (List.mem_of_getElem? (i := 3) rfl)
theorem hw_284 : (.fieldLink RX2 48 "WornLines$Programme" "code" "[I" : Cond) ∈ wALL := wm_7 _ (List.mem_of_getElem? (i := 4) rfl)
theorem hw_285 : (.methodLink RX3 3 objectInit : Cond) ∈ wALL := wm_7 _ (List.mem_of_getElem? (i := 5) rfl)
theorem hw_286 : (.fieldLink RX3 9 "WornLines$Reader" "stuffNames" "[J" : Cond) ∈ wALL := wm_7 _ (List.mem_of_getElem? (i := 6) rfl)
theorem hw_287 : (.fieldLink RX3 15 "WornLines$Reader" "cellNames" "[J" : Cond) ∈ wALL := wm_7 _ (List.mem_of_getElem? (i := 7) rfl)
theorem hw_288 : (.fieldLink RX3 18 "WornLines$Reader" "code" "[I" : Cond) ∈ wALL := wm_7 _ (List.mem_of_getElem? (i := 8) rfl)
theorem hw_289 : (.fieldLink RX3 22 "WornLines$Token" "END" "LWornLines$Token;" : Cond) ∈ wALL := wm_7 _ (List.mem_of_getElem? (i := 9) rfl)
theorem hw_290 : (.fieldLink RX3 28 "WornLines$Reader" "token" "LWornLines$Token;" : Cond) ∈ wALL := wm_7 _ (List.mem_of_getElem? (i := 10) rfl)
theorem hw_291 : (.fieldLink RX3 31 "WornLines$Reader" "tape" "LWornLines$Tape;" : Cond) ∈ wALL := wm_7 _ (List.mem_of_getElem? (i := 11) rfl)
theorem hw_292 : (.fieldLink RX3 35 "WornLines$Reader" "told" "LWornLines$Programme;" : Cond) ∈ wALL := wm_7 _ (List.mem_of_getElem? (i := 12) rfl)
theorem hw_293 : (.methodLink RX1 3 objectInit : Cond) ∈ wALL := wm_7 _ (List.mem_of_getElem? (i := 13) rfl)
theorem hw_294 : (.fieldLink RX1 9 "WornLines$Machine" "stuffs" "[I" : Cond) ∈ wALL := wm_7 _ (List.mem_of_getElem? (i := 14) rfl)
theorem hw_295 : (.fieldLink RX1 15 "WornLines$Machine" "twins" "[I" : Cond) ∈ wALL := wm_7 _ (List.mem_of_getElem? (i := 15) rfl)
theorem hw_296 : (.fieldLink RX1 18 "WornLines$Machine" "worn" "[I" : Cond) ∈ wALL := wm_7 _ (List.mem_of_getElem? (i := 16) rfl)
theorem hw_297 : (.fieldLink RX1 21 "WornLines$Machine" "cells" "[I" : Cond) ∈ wALL := wm_7 _ (List.mem_of_getElem? (i := 17) rfl)
theorem hw_298 : (.fieldLink RX1 24 "WornLines$Machine" "stack" "[I" : Cond) ∈ wALL := wm_7 _ (List.mem_of_getElem? (i := 18) rfl)
theorem hw_299 : (.fieldLink RX1 27 "WornLines$Machine" "way" "I" : Cond) ∈ wALL := wm_7 _ (List.mem_of_getElem? (i := 19) rfl)
theorem hw_300 : (.fieldLink RX1 31 "WornLines$Machine" "state" "I" : Cond) ∈ wALL := wm_7 _ (List.mem_of_getElem? (i := 20) rfl)
theorem hw_301 : (.fieldLink RX1 34 "WornLines$Machine" "programme" "LWornLines$Programme;" : Cond) ∈ wALL := wm_7 _ (List.mem_of_getElem? (i := 21) rfl)
theorem hw_302 : (.fieldLink RX1 38 "WornLines$Machine" "kept" "[I" : Cond) ∈ wALL := wm_7 _ (List.mem_of_getElem? (i := 22) rfl)
theorem hw_303 : (.methodLink RX4 3 objectInit : Cond) ∈ wALL := wm_7 _ (List.mem_of_getElem? (i := 23) rfl)
theorem hw_304 : (.fieldLink RX4 9 "WornLines$Survey" "often" "[I" : Cond) ∈ wALL := wm_7 _ (List.mem_of_getElem? (i := 24) rfl)
theorem hw_305 : (.fieldLink RX4 15 "WornLines$Survey" "by" "[I" : Cond) ∈ wALL := wm_7 _ (List.mem_of_getElem? (i := 25) rfl)
theorem hw_306 : (.fieldLink RX4 18 "WornLines$Survey" "peak" "[I" : Cond) ∈ wALL := wm_7 _ (List.mem_of_getElem? (i := 26) rfl)
theorem hw_307 : (.fieldLink RX4 21 "WornLines$Survey" "over" "[I" : Cond) ∈ wALL := wm_7 _ (List.mem_of_getElem? (i := 27) rfl)
theorem hw_308 : (.methodLink RX0 3 objectInit : Cond) ∈ wALL := wm_7 _ (List.mem_of_getElem? (i := 28) rfl)
theorem hw_309 : (.fieldLink RX0 9 "WornLines$Layout" "peak" "[I" : Cond) ∈ wALL := wm_7 _ (List.mem_of_getElem? (i := 29) rfl)
theorem hw_310 : (.classLink RX0 15 "[[I" : Cond) ∈ wALL := wm_7 _ (List.mem_of_getElem? (i := 30) rfl)
theorem hw_311 : (.fieldLink RX0 17 "WornLines$Layout" "least" "[[I" : Cond) ∈ wALL := wm_7 _ (List.mem_of_getElem? (i := 31) rfl)
theorem hw_312 : (.fieldLink RX0 20 "WornLines$Layout" "programme" "LWornLines$Programme;" : Cond) ∈ wALL := wm_7 _ (List.mem_of_getElem? (i := 32) rfl)
theorem hw_313 : (.methodLink RX2 59 Lib.Math.max.name : Cond) ∈ wALL := wm_7 _ (List.mem_of_getElem? (i := 33) rfl)
theorem hw_314 : (.fieldLink RX2 51 "WornLines$Programme" "given" "I" : Cond) ∈ wALL := wm_7 _ (List.mem_of_getElem? (i := 34) rfl)
theorem hw_315 : (.methodLink RX2 55 yX2_width : Cond) ∈ wALL := wm_7 _ (List.mem_of_getElem? (i := 35) rfl)
theorem hw_316 : (.instanceMethod yX2_width : Cond) ∈ wALL := wm_7 _ (List.mem_of_getElem? (i := 36) rfl)
theorem hw_317 : (.selects RX2 yX2_width yX2_width : Cond) ∈ wALL := wm_7 _ (List.mem_of_getElem? (i := 37) rfl)
theorem hw_318 : (.initialized RX2 : Cond) ∈ wALL := wm_7 _ (List.mem_of_getElem? (i := 38) rfl)
theorem hw_319 : (.fieldLink RX1 92 "WornLines$Programme" "lines" "I" : Cond) ∈ wALL := wm_7 _ (List.mem_of_getElem? (i := 39) rfl)
theorem hw_320 : (.fieldLink RX1 64 "WornLines$Machine" "written" "I" : Cond) ∈ wALL := wm_8 _ (List.mem_of_getElem? (i := 0) rfl)
theorem hw_321 : (.methodLink RX1 135 Lib.Math.max.name : Cond) ∈ wALL := wm_8 _ (List.mem_of_getElem? (i := 1) rfl)
theorem hw_322 : (.fieldLink RX1 82 "WornLines$Programme" "bears" "[I" : Cond) ∈ wALL := wm_8 _ (List.mem_of_getElem? (i := 2) rfl)
theorem hw_323 : (.fieldLink RX1 58 "WornLines$Machine" "next" "I" : Cond) ∈ wALL := wm_8 _ (List.mem_of_getElem? (i := 3) rfl)
theorem hw_324 : (.initialized RX7 : Cond) ∈ wALL := wm_8 _ (List.mem_of_getElem? (i := 4) rfl)
theorem hw_325 : (.static yX7_within : Cond) ∈ wALL := wm_8 _ (List.mem_of_getElem? (i := 5) rfl)
theorem hw_326 : (.fieldLink RX1 77 "WornLines$Programme" "cells" "I" : Cond) ∈ wALL := wm_8 _ (List.mem_of_getElem? (i := 6) rfl)
theorem hw_327 : (.fieldLink RX1 61 "WornLines$Machine" "steps" "I" : Cond) ∈ wALL := wm_8 _ (List.mem_of_getElem? (i := 7) rfl)
theorem hw_328 : (.methodLink RX1 103 yX1_bearing : Cond) ∈ wALL := wm_8 _ (List.mem_of_getElem? (i := 8) rfl)
theorem hw_329 : (.instanceMethod yX1_bearing : Cond) ∈ wALL := wm_8 _ (List.mem_of_getElem? (i := 9) rfl)
theorem hw_330 : (.selects RX1 yX1_bearing yX1_bearing : Cond) ∈ wALL := wm_8 _ (List.mem_of_getElem? (i := 10) rfl)
theorem hw_331 : (.initialized RX1 : Cond) ∈ wALL := wm_8 _ (List.mem_of_getElem? (i := 11) rfl)
theorem hw_332 : (.methodLink RX1 79 yX2_atFirst : Cond) ∈ wALL := wm_8 _ (List.mem_of_getElem? (i := 12) rfl)
theorem hw_333 : (.instanceMethod yX2_atFirst : Cond) ∈ wALL := wm_8 _ (List.mem_of_getElem? (i := 13) rfl)
theorem hw_334 : (.selects RX2 yX2_atFirst yX2_atFirst : Cond) ∈ wALL := wm_8 _ (List.mem_of_getElem? (i := 14) rfl)
theorem hw_335 : (.fieldLink RX1 138 "WornLines$Programme" "code" "[I" : Cond) ∈ wALL := wm_8 _ (List.mem_of_getElem? (i := 15) rfl)
theorem hw_336 : (.methodLink RX1 71 Lib.Math.min.name : Cond) ∈ wALL := wm_8 _ (List.mem_of_getElem? (i := 16) rfl)
theorem hw_337 : (.methodLink RX1 141 yX1_joined : Cond) ∈ wALL := wm_8 _ (List.mem_of_getElem? (i := 17) rfl)
theorem hw_338 : (.static yX1_joined : Cond) ∈ wALL := wm_8 _ (List.mem_of_getElem? (i := 18) rfl)
theorem hw_339 : (.methodLink RX1 128 yX1_lineOf : Cond) ∈ wALL := wm_8 _ (List.mem_of_getElem? (i := 19) rfl)
theorem hw_340 : (.instanceMethod yX1_lineOf : Cond) ∈ wALL := wm_8 _ (List.mem_of_getElem? (i := 20) rfl)
theorem hw_341 : (.selects RX1 yX1_lineOf yX1_lineOf : Cond) ∈ wALL := wm_8 _ (List.mem_of_getElem? (i := 21) rfl)
theorem hw_342 : (.fieldLink RX1 106 "WornLines$Programme" "from" "[I" : Cond) ∈ wALL := wm_8 _ (List.mem_of_getElem? (i := 22) rfl)
theorem hw_343 : (.fieldLink RX1 109 "WornLines$Programme" "middle" "[I" : Cond) ∈ wALL := wm_8 _ (List.mem_of_getElem? (i := 23) rfl)
theorem hw_344 : (.fieldLink RX1 115 "WornLines$Programme" "end" "[I" : Cond) ∈ wALL := wm_8 _ (List.mem_of_getElem? (i := 24) rfl)
theorem hw_345 : (.fieldLink RX1 118 "WornLines$Programme" "act" "[I" : Cond) ∈ wALL := wm_8 _ (List.mem_of_getElem? (i := 25) rfl)
theorem hw_346 : (.fieldLink RX1 121 "WornLines$Programme" "target" "[I" : Cond) ∈ wALL := wm_8 _ (List.mem_of_getElem? (i := 26) rfl)
theorem hw_347 : (.methodLink RX1 112 yX1_reckon : Cond) ∈ wALL := wm_8 _ (List.mem_of_getElem? (i := 27) rfl)
theorem hw_348 : (.instanceMethod yX1_reckon : Cond) ∈ wALL := wm_8 _ (List.mem_of_getElem? (i := 28) rfl)
theorem hw_349 : (.selects RX1 yX1_reckon yX1_reckon : Cond) ∈ wALL := wm_8 _ (List.mem_of_getElem? (i := 29) rfl)
theorem hw_350 : (.methodLink RX1 124 yX1_write : Cond) ∈ wALL := wm_8 _ (List.mem_of_getElem? (i := 30) rfl)
theorem hw_351 : (.instanceMethod yX1_write : Cond) ∈ wALL := wm_8 _ (List.mem_of_getElem? (i := 31) rfl)
theorem hw_352 : (.selects RX1 yX1_write yX1_write : Cond) ∈ wALL := wm_8 _ (List.mem_of_getElem? (i := 32) rfl)
theorem hw_353 : (.methodLink RX1 131 yX1_mend : Cond) ∈ wALL := wm_8 _ (List.mem_of_getElem? (i := 33) rfl)
theorem hw_354 : (.instanceMethod yX1_mend : Cond) ∈ wALL := wm_8 _ (List.mem_of_getElem? (i := 34) rfl)
theorem hw_355 : (.selects RX1 yX1_mend yX1_mend : Cond) ∈ wALL := wm_8 _ (List.mem_of_getElem? (i := 35) rfl)
theorem hw_356 : (.methodLink RX1 99 yX1_work : Cond) ∈ wALL := wm_8 _ (List.mem_of_getElem? (i := 36) rfl)
theorem hw_357 : (.instanceMethod yX1_work : Cond) ∈ wALL := wm_8 _ (List.mem_of_getElem? (i := 37) rfl)
theorem hw_358 : (.selects RX1 yX1_work yX1_work : Cond) ∈ wALL := wm_8 _ (List.mem_of_getElem? (i := 38) rfl)
theorem hw_359 : (.methodLink RX1 89 yX1_fallIfHole : Cond) ∈ wALL := wm_8 _ (List.mem_of_getElem? (i := 39) rfl)
theorem hw_360 : (.instanceMethod yX1_fallIfHole : Cond) ∈ wALL := wm_9 _ (List.mem_of_getElem? (i := 0) rfl)
theorem hw_361 : (.selects RX1 yX1_fallIfHole yX1_fallIfHole : Cond) ∈ wALL := wm_9 _ (List.mem_of_getElem? (i := 1) rfl)
theorem hw_362 : (.methodLink RX1 85 yX1_step : Cond) ∈ wALL := wm_9 _ (List.mem_of_getElem? (i := 2) rfl)
theorem hw_363 : (.instanceMethod yX1_step : Cond) ∈ wALL := wm_9 _ (List.mem_of_getElem? (i := 3) rfl)
theorem hw_364 : (.selects RX1 yX1_step yX1_step : Cond) ∈ wALL := wm_9 _ (List.mem_of_getElem? (i := 4) rfl)
theorem hw_365 : (.methodLink RX1 46 arraycopyName : Cond) ∈ wALL := wm_9 _ (List.mem_of_getElem? (i := 5) rfl)
theorem hw_366 : (.native arraycopyName : Cond) ∈ wALL := wm_9 _ (List.mem_of_getElem? (i := 6) rfl)
theorem hw_367 : (.static arraycopyName : Cond) ∈ wALL := wm_9 _ (List.mem_of_getElem? (i := 7) rfl)
theorem hw_368 : (.initialized "java/lang/System" : Cond) ∈ wALL := wm_9 _ (List.mem_of_getElem? (i := 8) rfl)
theorem hw_369 : (.fieldLink RX1 41 "WornLines$Programme" "stuffOf" "[I" : Cond) ∈ wALL := wm_9 _ (List.mem_of_getElem? (i := 9) rfl)
theorem hw_370 : (.methodLink RX1 52 yJ7_fill_53178 : Cond) ∈ wALL := wm_9 _ (List.mem_of_getElem? (i := 10) rfl)
theorem hw_371 : (.static yJ7_fill_53178 : Cond) ∈ wALL := wm_9 _ (List.mem_of_getElem? (i := 11) rfl)
theorem hw_372 : (.initialized "java/util/Arrays" : Cond) ∈ wALL := wm_9 _ (List.mem_of_getElem? (i := 12) rfl)
theorem hw_373 : (.methodLink RX1 67 yX1_layLike : Cond) ∈ wALL := wm_9 _ (List.mem_of_getElem? (i := 13) rfl)
theorem hw_374 : (.instanceMethod yX1_layLike : Cond) ∈ wALL := wm_9 _ (List.mem_of_getElem? (i := 14) rfl)
theorem hw_375 : (.selects RX1 yX1_layLike yX1_layLike : Cond) ∈ wALL := wm_9 _ (List.mem_of_getElem? (i := 15) rfl)
theorem hw_376 : (.fieldLink RX4 24 "WornLines$Survey" "of" "LWornLines$Programme;" : Cond) ∈ wALL := wm_9 _ (List.mem_of_getElem? (i := 16) rfl)
theorem hw_377 : (.fieldLink RX4 28 "WornLines$Survey" "endless" "Z" : Cond) ∈ wALL := wm_9 _ (List.mem_of_getElem? (i := 17) rfl)
theorem hw_378 : (.fieldLink RX4 54 "WornLines$Machine" "programme" "LWornLines$Programme;" : Cond) ∈ wALL := wm_9 _ (List.mem_of_getElem? (i := 18) rfl)
theorem hw_379 : (.fieldLink RX4 57 "WornLines$Programme" "lines" "I" : Cond) ∈ wALL := wm_9 _ (List.mem_of_getElem? (i := 19) rfl)
theorem hw_380 : (.fieldLink RX4 51 "WornLines$Machine" "next" "I" : Cond) ∈ wALL := wm_9 _ (List.mem_of_getElem? (i := 20) rfl)
theorem hw_381 : (.fieldLink RX4 38 "WornLines$Machine" "worn" "[I" : Cond) ∈ wALL := wm_9 _ (List.mem_of_getElem? (i := 21) rfl)
theorem hw_382 : (.methodLink RX4 66 Lib.Math.max.name : Cond) ∈ wALL := wm_9 _ (List.mem_of_getElem? (i := 22) rfl)
theorem hw_383 : (.fieldLink RX4 43 "WornLines$Machine" "way" "I" : Cond) ∈ wALL := wm_9 _ (List.mem_of_getElem? (i := 23) rfl)
theorem hw_384 : (.methodLink RX4 32 yJ7_fill_53178 : Cond) ∈ wALL := wm_9 _ (List.mem_of_getElem? (i := 24) rfl)
theorem hw_385 : (.methodLink RX4 76 yX1_isEndless : Cond) ∈ wALL := wm_9 _ (List.mem_of_getElem? (i := 25) rfl)
theorem hw_386 : (.instanceMethod yX1_isEndless : Cond) ∈ wALL := wm_9 _ (List.mem_of_getElem? (i := 26) rfl)
theorem hw_387 : (.selects RX1 yX1_isEndless yX1_isEndless : Cond) ∈ wALL := wm_9 _ (List.mem_of_getElem? (i := 27) rfl)
theorem hw_388 : (.methodLink RX4 72 yX1_step : Cond) ∈ wALL := wm_9 _ (List.mem_of_getElem? (i := 28) rfl)
theorem hw_389 : (.methodLink RX4 47 yX1_start : Cond) ∈ wALL := wm_9 _ (List.mem_of_getElem? (i := 29) rfl)
theorem hw_390 : (.instanceMethod yX1_start : Cond) ∈ wALL := wm_9 _ (List.mem_of_getElem? (i := 30) rfl)
theorem hw_391 : (.selects RX1 yX1_start yX1_start : Cond) ∈ wALL := wm_9 _ (List.mem_of_getElem? (i := 31) rfl)
theorem hw_392 : (.fieldLink RX5 29 "WornLines$Tape" "length" "I" : Cond) ∈ wALL := wm_9 _ (List.mem_of_getElem? (i := 32) rfl)
theorem hw_393 : (.fieldLink RX5 33 "WornLines$Tape" "count" "I" : Cond) ∈ wALL := wm_9 _ (List.mem_of_getElem? (i := 33) rfl)
theorem hw_394 : (.fieldLink RX5 81 "WornLines$Token" "spelling" "J" : Cond) ∈ wALL := wm_9 _ (List.mem_of_getElem? (i := 34) rfl)
theorem hw_395 : (.fieldLink RX5 70 "WornLines$Token" "A_NAME" "LWornLines$Token;" : Cond) ∈ wALL := wm_9 _ (List.mem_of_getElem? (i := 35) rfl)
theorem hw_396 : (.fieldLink RX5 63 "WornLines$Token" "NO_TOKEN" "LWornLines$Token;" : Cond) ∈ wALL := wm_9 _ (List.mem_of_getElem? (i := 36) rfl)
theorem hw_397 : (.fieldLink RX5 75 "WornLines$Token" "A_NUMBER" "LWornLines$Token;" : Cond) ∈ wALL := wm_9 _ (List.mem_of_getElem? (i := 37) rfl)
theorem hw_398 : (.constantLong RX5 73 (10) : Cond) ∈ wALL := wm_9 _ (List.mem_of_getElem? (i := 38) rfl)
theorem hw_399 : (.methodLink RX5 66 yX5_spelled : Cond) ∈ wALL := wm_9 _ (List.mem_of_getElem? (i := 39) rfl)
theorem hw_400 : (.static yX5_spelled : Cond) ∈ wALL := wm_10 _ (List.mem_of_getElem? (i := 0) rfl)
theorem hw_401 : (.initialized RX5 : Cond) ∈ wALL := wm_10 _ (List.mem_of_getElem? (i := 1) rfl)
theorem hw_402 : (.methodLink RX5 48 yX5_add : Cond) ∈ wALL := wm_10 _ (List.mem_of_getElem? (i := 2) rfl)
theorem hw_403 : (.instanceMethod yX5_add : Cond) ∈ wALL := wm_10 _ (List.mem_of_getElem? (i := 3) rfl)
theorem hw_404 : (.selects RX5 yX5_add yX5_add : Cond) ∈ wALL := wm_10 _ (List.mem_of_getElem? (i := 4) rfl)
theorem hw_405 : (.fieldLink RX5 44 "WornLines$Token" "END" "LWornLines$Token;" : Cond) ∈ wALL := wm_10 _ (List.mem_of_getElem? (i := 5) rfl)
theorem hw_406 : (.methodLink RX5 60 yX5_addNumber : Cond) ∈ wALL := wm_10 _ (List.mem_of_getElem? (i := 6) rfl)
theorem hw_407 : (.instanceMethod yX5_addNumber : Cond) ∈ wALL := wm_10 _ (List.mem_of_getElem? (i := 7) rfl)
theorem hw_408 : (.selects RX5 yX5_addNumber yX5_addNumber : Cond) ∈ wALL := wm_10 _ (List.mem_of_getElem? (i := 8) rfl)
theorem hw_409 : (.methodLink RX5 56 yX5_addWord : Cond) ∈ wALL := wm_10 _ (List.mem_of_getElem? (i := 9) rfl)
theorem hw_410 : (.instanceMethod yX5_addWord : Cond) ∈ wALL := wm_10 _ (List.mem_of_getElem? (i := 10) rfl)
theorem hw_411 : (.selects RX5 yX5_addWord yX5_addWord : Cond) ∈ wALL := wm_10 _ (List.mem_of_getElem? (i := 11) rfl)
theorem hw_412 : (.methodLink RX5 52 yX5_kindOf : Cond) ∈ wALL := wm_10 _ (List.mem_of_getElem? (i := 12) rfl)
theorem hw_413 : (.static yX5_kindOf : Cond) ∈ wALL := wm_10 _ (List.mem_of_getElem? (i := 13) rfl)
theorem hw_414 : (.methodLink RX5 36 yX5_isBlank : Cond) ∈ wALL := wm_10 _ (List.mem_of_getElem? (i := 14) rfl)
theorem hw_415 : (.static yX5_isBlank : Cond) ∈ wALL := wm_10 _ (List.mem_of_getElem? (i := 15) rfl)
theorem hw_416 : (.methodLink RX5 40 yX5_splitOne : Cond) ∈ wALL := wm_10 _ (List.mem_of_getElem? (i := 16) rfl)
theorem hw_417 : (.instanceMethod yX5_splitOne : Cond) ∈ wALL := wm_10 _ (List.mem_of_getElem? (i := 17) rfl)
theorem hw_418 : (.selects RX5 yX5_splitOne yX5_splitOne : Cond) ∈ wALL := wm_10 _ (List.mem_of_getElem? (i := 18) rfl)
theorem hw_419 : (.fieldLink RX3 228 "WornLines$Token" "A_NUMBER" "LWornLines$Token;" : Cond) ∈ wALL := wm_10 _ (List.mem_of_getElem? (i := 19) rfl)
theorem hw_420 : (.fieldLink RX3 217 "WornLines$Token" "A_NAME" "LWornLines$Token;" : Cond) ∈ wALL := wm_10 _ (List.mem_of_getElem? (i := 20) rfl)
theorem hw_421 : (.fieldLink RX3 231 "WornLines$Token" "OPEN" "LWornLines$Token;" : Cond) ∈ wALL := wm_10 _ (List.mem_of_getElem? (i := 21) rfl)
theorem hw_422 : (.fieldLink RX3 237 "WornLines$Token" "WORN_WORD" "LWornLines$Token;" : Cond) ∈ wALL := wm_10 _ (List.mem_of_getElem? (i := 22) rfl)
theorem hw_423 : (.fieldLink RX3 240 "WornLines$Token" "NOT_WORD" "LWornLines$Token;" : Cond) ∈ wALL := wm_10 _ (List.mem_of_getElem? (i := 23) rfl)
theorem hw_424 : (.fieldLink RX3 51 "WornLines$Reader" "coded" "I" : Cond) ∈ wALL := wm_10 _ (List.mem_of_getElem? (i := 24) rfl)
theorem hw_425 : (.fieldLink RX3 57 "WornLines$Reader" "taken" "I" : Cond) ∈ wALL := wm_10 _ (List.mem_of_getElem? (i := 25) rfl)
theorem hw_426 : (.fieldLink RX3 243 "WornLines$Tape" "count" "I" : Cond) ∈ wALL := wm_10 _ (List.mem_of_getElem? (i := 26) rfl)
theorem hw_427 : (.fieldLink RX3 246 "WornLines$Tape" "tokens" "[LWornLines$Token;" : Cond) ∈ wALL := wm_10 _ (List.mem_of_getElem? (i := 27) rfl)
theorem hw_428 : (.fieldLink RX3 250 "WornLines$Tape" "places" "[I" : Cond) ∈ wALL := wm_10 _ (List.mem_of_getElem? (i := 28) rfl)
theorem hw_429 : (.fieldLink RX3 253 "WornLines$Reader" "place" "I" : Cond) ∈ wALL := wm_10 _ (List.mem_of_getElem? (i := 29) rfl)
theorem hw_430 : (.fieldLink RX3 256 "WornLines$Tape" "values" "[J" : Cond) ∈ wALL := wm_10 _ (List.mem_of_getElem? (i := 30) rfl)
theorem hw_431 : (.fieldLink RX3 224 "WornLines$Reader" "value" "J" : Cond) ∈ wALL := wm_10 _ (List.mem_of_getElem? (i := 31) rfl)
theorem hw_432 : (.fieldLink RX3 54 "WornLines$Reader" "fault" "I" : Cond) ∈ wALL := wm_10 _ (List.mem_of_getElem? (i := 32) rfl)
theorem hw_433 : (.fieldLink RX3 105 "WornLines$Programme" "stuffs" "I" : Cond) ∈ wALL := wm_10 _ (List.mem_of_getElem? (i := 33) rfl)
theorem hw_434 : (.fieldLink RX3 128 "WornLines$Programme" "cells" "I" : Cond) ∈ wALL := wm_10 _ (List.mem_of_getElem? (i := 34) rfl)
theorem hw_435 : (.fieldLink RX3 133 "WornLines$Programme" "given" "I" : Cond) ∈ wALL := wm_10 _ (List.mem_of_getElem? (i := 35) rfl)
theorem hw_436 : (.fieldLink RX3 151 "WornLines$Programme" "givenCell" "[I" : Cond) ∈ wALL := wm_10 _ (List.mem_of_getElem? (i := 36) rfl)
theorem hw_437 : (.methodLink RX3 60 yX3_advance : Cond) ∈ wALL := wm_10 _ (List.mem_of_getElem? (i := 37) rfl)
theorem hw_438 : (.instanceMethod yX3_advance : Cond) ∈ wALL := wm_10 _ (List.mem_of_getElem? (i := 38) rfl)
theorem hw_439 : (.selects RX3 yX3_advance yX3_advance : Cond) ∈ wALL := wm_10 _ (List.mem_of_getElem? (i := 39) rfl)
theorem hw_440 : (.initialized RX3 : Cond) ∈ wALL := wm_11 _ (List.mem_of_getElem? (i := 0) rfl)
theorem hw_441 : (.methodLink RX3 87 yX3_fail : Cond) ∈ wALL := wm_11 _ (List.mem_of_getElem? (i := 1) rfl)
theorem hw_442 : (.instanceMethod yX3_fail : Cond) ∈ wALL := wm_11 _ (List.mem_of_getElem? (i := 2) rfl)
theorem hw_443 : (.selects RX3 yX3_fail yX3_fail : Cond) ∈ wALL := wm_11 _ (List.mem_of_getElem? (i := 3) rfl)
theorem hw_444 : (.methodLink RX3 144 yX3_numberHere : Cond) ∈ wALL := wm_11 _ (List.mem_of_getElem? (i := 4) rfl)
theorem hw_445 : (.instanceMethod yX3_numberHere : Cond) ∈ wALL := wm_11 _ (List.mem_of_getElem? (i := 5) rfl)
theorem hw_446 : (.selects RX3 yX3_numberHere yX3_numberHere : Cond) ∈ wALL := wm_11 _ (List.mem_of_getElem? (i := 6) rfl)
theorem hw_447 : (.methodLink RX3 259 yX3_find : Cond) ∈ wALL := wm_11 _ (List.mem_of_getElem? (i := 7) rfl)
theorem hw_448 : (.instanceMethod yX3_find : Cond) ∈ wALL := wm_11 _ (List.mem_of_getElem? (i := 8) rfl)
theorem hw_449 : (.selects RX3 yX3_find yX3_find : Cond) ∈ wALL := wm_11 _ (List.mem_of_getElem? (i := 9) rfl)
theorem hw_450 : (.methodLink RX3 136 yX3_toldHere : Cond) ∈ wALL := wm_11 _ (List.mem_of_getElem? (i := 10) rfl)
theorem hw_451 : (.instanceMethod yX3_toldHere : Cond) ∈ wALL := wm_11 _ (List.mem_of_getElem? (i := 11) rfl)
theorem hw_452 : (.selects RX3 yX3_toldHere yX3_toldHere : Cond) ∈ wALL := wm_11 _ (List.mem_of_getElem? (i := 12) rfl)
theorem hw_453 : (.fieldLink RX3 112 "WornLines$Token" "BEARS_WORD" "LWornLines$Token;" : Cond) ∈ wALL := wm_11 _ (List.mem_of_getElem? (i := 13) rfl)
theorem hw_454 : (.fieldLink RX3 115 "WornLines$Programme" "bears" "[I" : Cond) ∈ wALL := wm_11 _ (List.mem_of_getElem? (i := 14) rfl)
theorem hw_455 : (.fieldLink RX3 122 "WornLines$Token" "COSTS_WORD" "LWornLines$Token;" : Cond) ∈ wALL := wm_11 _ (List.mem_of_getElem? (i := 15) rfl)
theorem hw_456 : (.fieldLink RX3 125 "WornLines$Programme" "costs" "[I" : Cond) ∈ wALL := wm_11 _ (List.mem_of_getElem? (i := 16) rfl)
theorem hw_457 : (.fieldLink RX3 131 "WornLines$Programme" "told" "[I" : Cond) ∈ wALL := wm_11 _ (List.mem_of_getElem? (i := 17) rfl)
theorem hw_458 : (.fieldLink RX3 154 "WornLines$Programme" "least" "[I" : Cond) ∈ wALL := wm_11 _ (List.mem_of_getElem? (i := 18) rfl)
theorem hw_459 : (.fieldLink RX3 157 "WornLines$Programme" "greatest" "[I" : Cond) ∈ wALL := wm_11 _ (List.mem_of_getElem? (i := 19) rfl)
theorem hw_460 : (.methodLink RX3 108 yX3_takeNewName : Cond) ∈ wALL := wm_11 _ (List.mem_of_getElem? (i := 20) rfl)
theorem hw_461 : (.instanceMethod yX3_takeNewName : Cond) ∈ wALL := wm_11 _ (List.mem_of_getElem? (i := 21) rfl)
theorem hw_462 : (.selects RX3 yX3_takeNewName yX3_takeNewName : Cond) ∈ wALL := wm_11 _ (List.mem_of_getElem? (i := 22) rfl)
theorem hw_463 : (.methodLink RX3 94 yX3_expect : Cond) ∈ wALL := wm_11 _ (List.mem_of_getElem? (i := 23) rfl)
theorem hw_464 : (.instanceMethod yX3_expect : Cond) ∈ wALL := wm_11 _ (List.mem_of_getElem? (i := 24) rfl)
theorem hw_465 : (.selects RX3 yX3_expect yX3_expect : Cond) ∈ wALL := wm_11 _ (List.mem_of_getElem? (i := 25) rfl)
theorem hw_466 : (.methodLink RX3 118 yX3_takeNumber : Cond) ∈ wALL := wm_11 _ (List.mem_of_getElem? (i := 26) rfl)
theorem hw_467 : (.instanceMethod yX3_takeNumber : Cond) ∈ wALL := wm_11 _ (List.mem_of_getElem? (i := 27) rfl)
theorem hw_468 : (.selects RX3 yX3_takeNumber yX3_takeNumber : Cond) ∈ wALL := wm_11 _ (List.mem_of_getElem? (i := 28) rfl)
theorem hw_469 : (.methodLink RX3 147 yX2_inputCount : Cond) ∈ wALL := wm_11 _ (List.mem_of_getElem? (i := 29) rfl)
theorem hw_470 : (.instanceMethod yX2_inputCount : Cond) ∈ wALL := wm_11 _ (List.mem_of_getElem? (i := 30) rfl)
theorem hw_471 : (.selects RX2 yX2_inputCount yX2_inputCount : Cond) ∈ wALL := wm_11 _ (List.mem_of_getElem? (i := 31) rfl)
theorem hw_472 : (.methodLink RX3 140 yX3_isGiven : Cond) ∈ wALL := wm_11 _ (List.mem_of_getElem? (i := 32) rfl)
theorem hw_473 : (.instanceMethod yX3_isGiven : Cond) ∈ wALL := wm_11 _ (List.mem_of_getElem? (i := 33) rfl)
theorem hw_474 : (.selects RX3 yX3_isGiven yX3_isGiven : Cond) ∈ wALL := wm_11 _ (List.mem_of_getElem? (i := 34) rfl)
theorem hw_475 : (.fieldLink RX3 208 "WornLines$Token" "level" "I" : Cond) ∈ wALL := wm_11 _ (List.mem_of_getElem? (i := 35) rfl)
theorem hw_476 : (.fieldLink RX3 211 "WornLines$Token" "operation" "I" : Cond) ∈ wALL := wm_11 _ (List.mem_of_getElem? (i := 36) rfl)
theorem hw_477 : (.fieldLink RX3 234 "WornLines$Token" "CLOSE" "LWornLines$Token;" : Cond) ∈ wALL := wm_11 _ (List.mem_of_getElem? (i := 37) rfl)
theorem hw_478 : (.methodLink RX3 189 yX3_expression : Cond) ∈ wALL := wm_11 _ (List.mem_of_getElem? (i := 38) rfl)
theorem hw_479 : (.instanceMethod yX3_expression : Cond) ∈ wALL := wm_11 _ (List.mem_of_getElem? (i := 39) rfl)
theorem hw_480 : (.selects RX3 yX3_expression yX3_expression : Cond) ∈ wALL := wm_12 _ (List.mem_of_getElem? (i := 0) rfl)
theorem hw_481 : (.methodLink RX3 214 yX3_put : Cond) ∈ wALL := wm_12 _ (List.mem_of_getElem? (i := 1) rfl)
theorem hw_482 : (.instanceMethod yX3_put : Cond) ∈ wALL := wm_12 _ (List.mem_of_getElem? (i := 2) rfl)
theorem hw_483 : (.selects RX3 yX3_put yX3_put : Cond) ∈ wALL := wm_12 _ (List.mem_of_getElem? (i := 3) rfl)
theorem hw_484 : (.methodLink RX3 205 yX3_part : Cond) ∈ wALL := wm_12 _ (List.mem_of_getElem? (i := 4) rfl)
theorem hw_485 : (.instanceMethod yX3_part : Cond) ∈ wALL := wm_12 _ (List.mem_of_getElem? (i := 5) rfl)
theorem hw_486 : (.selects RX3 yX3_part yX3_part : Cond) ∈ wALL := wm_12 _ (List.mem_of_getElem? (i := 6) rfl)
theorem hw_487 : (.methodLink RX3 220 yX3_beginsPart : Cond) ∈ wALL := wm_12 _ (List.mem_of_getElem? (i := 7) rfl)
theorem hw_488 : (.static yX3_beginsPart : Cond) ∈ wALL := wm_12 _ (List.mem_of_getElem? (i := 8) rfl)
theorem hw_489 : (.fieldLink RX3 193 "WornLines$Programme" "middle" "[I" : Cond) ∈ wALL := wm_12 _ (List.mem_of_getElem? (i := 9) rfl)
theorem hw_490 : (.fieldLink RX3 202 "WornLines$Token" "KEEP_WORD" "LWornLines$Token;" : Cond) ∈ wALL := wm_12 _ (List.mem_of_getElem? (i := 10) rfl)
theorem hw_491 : (.fieldLink RX3 183 "WornLines$Programme" "target" "[I" : Cond) ∈ wALL := wm_12 _ (List.mem_of_getElem? (i := 11) rfl)
theorem hw_492 : (.fieldLink RX3 199 "WornLines$Token" "BY_WORD" "LWornLines$Token;" : Cond) ∈ wALL := wm_12 _ (List.mem_of_getElem? (i := 12) rfl)
theorem hw_493 : (.fieldLink RX3 196 "WornLines$Token" "GO_WORD" "LWornLines$Token;" : Cond) ∈ wALL := wm_12 _ (List.mem_of_getElem? (i := 13) rfl)
theorem hw_494 : (.fieldLink RX3 178 "WornLines$Token" "act" "I" : Cond) ∈ wALL := wm_12 _ (List.mem_of_getElem? (i := 14) rfl)
theorem hw_495 : (.fieldLink RX3 181 "WornLines$Programme" "act" "[I" : Cond) ∈ wALL := wm_12 _ (List.mem_of_getElem? (i := 15) rfl)
theorem hw_496 : (.fieldLink RX3 160 "WornLines$Programme" "lines" "I" : Cond) ∈ wALL := wm_12 _ (List.mem_of_getElem? (i := 16) rfl)
theorem hw_497 : (.fieldLink RX3 163 "WornLines$Programme" "stuffOf" "[I" : Cond) ∈ wALL := wm_12 _ (List.mem_of_getElem? (i := 17) rfl)
theorem hw_498 : (.fieldLink RX3 169 "WornLines$Programme" "from" "[I" : Cond) ∈ wALL := wm_12 _ (List.mem_of_getElem? (i := 18) rfl)
theorem hw_499 : (.fieldLink RX3 175 "WornLines$Programme" "end" "[I" : Cond) ∈ wALL := wm_12 _ (List.mem_of_getElem? (i := 19) rfl)
theorem hw_500 : (.methodLink RX3 186 yX3_takeCell : Cond) ∈ wALL := wm_12 _ (List.mem_of_getElem? (i := 20) rfl)
theorem hw_501 : (.instanceMethod yX3_takeCell : Cond) ∈ wALL := wm_12 _ (List.mem_of_getElem? (i := 21) rfl)
theorem hw_502 : (.selects RX3 yX3_takeCell yX3_takeCell : Cond) ∈ wALL := wm_12 _ (List.mem_of_getElem? (i := 22) rfl)
theorem hw_503 : (.methodLink RX3 166 yX3_takeStuff : Cond) ∈ wALL := wm_12 _ (List.mem_of_getElem? (i := 23) rfl)
theorem hw_504 : (.instanceMethod yX3_takeStuff : Cond) ∈ wALL := wm_12 _ (List.mem_of_getElem? (i := 24) rfl)
theorem hw_505 : (.selects RX3 yX3_takeStuff yX3_takeStuff : Cond) ∈ wALL := wm_12 _ (List.mem_of_getElem? (i := 25) rfl)
theorem hw_506 : (.methodLink RX3 172 yX3_tellAct : Cond) ∈ wALL := wm_12 _ (List.mem_of_getElem? (i := 26) rfl)
theorem hw_507 : (.instanceMethod yX3_tellAct : Cond) ∈ wALL := wm_12 _ (List.mem_of_getElem? (i := 27) rfl)
theorem hw_508 : (.selects RX3 yX3_tellAct yX3_tellAct : Cond) ∈ wALL := wm_12 _ (List.mem_of_getElem? (i := 28) rfl)
theorem hw_509 : (.methodLink RJ7 304 Lib.Math.min.name : Cond) ∈ wALL := wm_12 _ (List.mem_of_getElem? (i := 29) rfl)
theorem hw_510 : (.methodLink RJ7 150 arraycopyName : Cond) ∈ wALL := wm_12 _ (List.mem_of_getElem? (i := 30) rfl)
theorem hw_511 : (.fieldLink RX3 104 "WornLines$Programme" "code" "[I" : Cond) ∈ wALL := wm_12 _ (List.mem_of_getElem? (i := 31) rfl)
theorem hw_512 : (.fieldLink RX3 63 "WornLines$Token" "STUFF_WORD" "LWornLines$Token;" : Cond) ∈ wALL := wm_12 _ (List.mem_of_getElem? (i := 32) rfl)
theorem hw_513 : (.fieldLink RX3 69 "WornLines$Token" "CELL_WORD" "LWornLines$Token;" : Cond) ∈ wALL := wm_12 _ (List.mem_of_getElem? (i := 33) rfl)
theorem hw_514 : (.fieldLink RX3 75 "WornLines$Token" "INPUT_WORD" "LWornLines$Token;" : Cond) ∈ wALL := wm_12 _ (List.mem_of_getElem? (i := 34) rfl)
theorem hw_515 : (.fieldLink RX3 81 "WornLines$Token" "LINE_WORD" "LWornLines$Token;" : Cond) ∈ wALL := wm_12 _ (List.mem_of_getElem? (i := 35) rfl)
theorem hw_516 : (.fieldLink RX3 91 "WornLines$Token" "SEMICOLON" "LWornLines$Token;" : Cond) ∈ wALL := wm_12 _ (List.mem_of_getElem? (i := 36) rfl)
theorem hw_517 : (.fieldLink RX3 44 "WornLines$Tape" "length" "I" : Cond) ∈ wALL := wm_12 _ (List.mem_of_getElem? (i := 37) rfl)
theorem hw_518 : (.classLink RX3 48 RX2 : Cond) ∈ wALL := wm_12 _ (List.mem_of_getElem? (i := 38) rfl)
theorem hw_519 : (.instantiable RX2 17 : Cond) ∈ wALL := wm_12 _ (List.mem_of_getElem? (i := 39) rfl)
theorem hw_520 : (.instanceMethod yX2_init : Cond) ∈ wALL := wm_13 _ (List.mem_of_getElem? (i := 0) rfl)
theorem hw_521 : (.methodLink RX3 98 yJ7_copyOf_59c91 : Cond) ∈ wALL := wm_13 _ (List.mem_of_getElem? (i := 1) rfl)
theorem hw_522 : (.static yJ7_copyOf_59c91 : Cond) ∈ wALL := wm_13 _ (List.mem_of_getElem? (i := 2) rfl)
theorem hw_523 : (.methodLink RX3 84 yX3_tellLine : Cond) ∈ wALL := wm_13 _ (List.mem_of_getElem? (i := 3) rfl)
theorem hw_524 : (.instanceMethod yX3_tellLine : Cond) ∈ wALL := wm_13 _ (List.mem_of_getElem? (i := 4) rfl)
theorem hw_525 : (.selects RX3 yX3_tellLine yX3_tellLine : Cond) ∈ wALL := wm_13 _ (List.mem_of_getElem? (i := 5) rfl)
theorem hw_526 : (.methodLink RX3 78 yX3_tellInput : Cond) ∈ wALL := wm_13 _ (List.mem_of_getElem? (i := 6) rfl)
theorem hw_527 : (.instanceMethod yX3_tellInput : Cond) ∈ wALL := wm_13 _ (List.mem_of_getElem? (i := 7) rfl)
theorem hw_528 : (.selects RX3 yX3_tellInput yX3_tellInput : Cond) ∈ wALL := wm_13 _ (List.mem_of_getElem? (i := 8) rfl)
theorem hw_529 : (.methodLink RX3 72 yX3_tellCell : Cond) ∈ wALL := wm_13 _ (List.mem_of_getElem? (i := 9) rfl)
theorem hw_530 : (.instanceMethod yX3_tellCell : Cond) ∈ wALL := wm_13 _ (List.mem_of_getElem? (i := 10) rfl)
theorem hw_531 : (.selects RX3 yX3_tellCell yX3_tellCell : Cond) ∈ wALL := wm_13 _ (List.mem_of_getElem? (i := 11) rfl)
theorem hw_532 : (.methodLink RX3 66 yX3_tellStuff : Cond) ∈ wALL := wm_13 _ (List.mem_of_getElem? (i := 12) rfl)
theorem hw_533 : (.instanceMethod yX3_tellStuff : Cond) ∈ wALL := wm_13 _ (List.mem_of_getElem? (i := 13) rfl)
theorem hw_534 : (.selects RX3 yX3_tellStuff yX3_tellStuff : Cond) ∈ wALL := wm_13 _ (List.mem_of_getElem? (i := 14) rfl)
theorem hw_535 : (.methodLink RX3 39 yX5_split : Cond) ∈ wALL := wm_13 _ (List.mem_of_getElem? (i := 15) rfl)
theorem hw_536 : (.instanceMethod yX5_split : Cond) ∈ wALL := wm_13 _ (List.mem_of_getElem? (i := 16) rfl)
theorem hw_537 : (.selects RX5 yX5_split yX5_split : Cond) ∈ wALL := wm_13 _ (List.mem_of_getElem? (i := 17) rfl)
theorem hw_538 : (.fieldLink RX7 28 "WornLines" "reader" "LWornLines$Reader;" : Cond) ∈ wALL := wm_13 _ (List.mem_of_getElem? (i := 18) rfl)
theorem hw_539 : (.fieldLink RX7 83 "WornLines$Reader" "fault" "I" : Cond) ∈ wALL := wm_13 _ (List.mem_of_getElem? (i := 19) rfl)
theorem hw_540 : (.fieldLink RX7 37 "WornLines" "hand" "LWornLines$Machine;" : Cond) ∈ wALL := wm_13 _ (List.mem_of_getElem? (i := 20) rfl)
theorem hw_541 : (.methodLink RX7 79 yX3_read : Cond) ∈ wALL := wm_13 _ (List.mem_of_getElem? (i := 21) rfl)
theorem hw_542 : (.instanceMethod yX3_read : Cond) ∈ wALL := wm_13 _ (List.mem_of_getElem? (i := 22) rfl)
theorem hw_543 : (.selects RX3 yX3_read yX3_read : Cond) ∈ wALL := wm_13 _ (List.mem_of_getElem? (i := 23) rfl)
theorem hw_544 : (.methodLink RX7 86 yX1_takeAsTold : Cond) ∈ wALL := wm_13 _ (List.mem_of_getElem? (i := 24) rfl)
theorem hw_545 : (.instanceMethod yX1_takeAsTold : Cond) ∈ wALL := wm_13 _ (List.mem_of_getElem? (i := 25) rfl)
theorem hw_546 : (.selects RX1 yX1_takeAsTold yX1_takeAsTold : Cond) ∈ wALL := wm_13 _ (List.mem_of_getElem? (i := 26) rfl)
theorem hw_547 : (.fieldLink RX7 10 "WornLines" "tape" "LWornLines$Tape;" : Cond) ∈ wALL := wm_13 _ (List.mem_of_getElem? (i := 27) rfl)
theorem hw_548 : (.fieldLink RX7 75 "WornLines$Tape" "length" "I" : Cond) ∈ wALL := wm_13 _ (List.mem_of_getElem? (i := 28) rfl)
theorem hw_549 : (.fieldLink RX7 89 "WornLines$Machine" "programme" "LWornLines$Programme;" : Cond) ∈ wALL := wm_13 _ (List.mem_of_getElem? (i := 29) rfl)
theorem hw_550 : (.fieldLink RX7 92 "WornLines$Programme" "stuffs" "I" : Cond) ∈ wALL := wm_13 _ (List.mem_of_getElem? (i := 30) rfl)
theorem hw_551 : (.fieldLink RX7 99 "WornLines$Programme" "bears" "[I" : Cond) ∈ wALL := wm_13 _ (List.mem_of_getElem? (i := 31) rfl)
theorem hw_552 : (.fieldLink RX7 103 "WornLines$Programme" "costs" "[I" : Cond) ∈ wALL := wm_13 _ (List.mem_of_getElem? (i := 32) rfl)
theorem hw_553 : (.fieldLink RX7 106 "WornLines$Programme" "lines" "I" : Cond) ∈ wALL := wm_13 _ (List.mem_of_getElem? (i := 33) rfl)
theorem hw_554 : (.fieldLink RX7 109 "WornLines$Programme" "act" "[I" : Cond) ∈ wALL := wm_13 _ (List.mem_of_getElem? (i := 34) rfl)
theorem hw_555 : (.fieldLink RX7 112 "WornLines$Machine" "stuffs" "[I" : Cond) ∈ wALL := wm_13 _ (List.mem_of_getElem? (i := 35) rfl)
theorem hw_556 : (.fieldLink RX7 114 "WornLines$Machine" "twins" "[I" : Cond) ∈ wALL := wm_13 _ (List.mem_of_getElem? (i := 36) rfl)
theorem hw_557 : (.fieldLink RX7 121 "WornLines$Machine" "worn" "[I" : Cond) ∈ wALL := wm_13 _ (List.mem_of_getElem? (i := 37) rfl)
theorem hw_558 : (.fieldLink RX7 128 "WornLines$Programme" "cells" "I" : Cond) ∈ wALL := wm_13 _ (List.mem_of_getElem? (i := 38) rfl)
theorem hw_559 : (.fieldLink RX7 155 "WornLines$Machine" "state" "I" : Cond) ∈ wALL := wm_13 _ (List.mem_of_getElem? (i := 39) rfl)
theorem hw_560 : (.fieldLink RX7 158 "WornLines$Machine" "next" "I" : Cond) ∈ wALL := wm_14 _ (List.mem_of_getElem? (i := 0) rfl)
theorem hw_561 : (.fieldLink RX7 144 "WornLines$Machine" "steps" "I" : Cond) ∈ wALL := wm_14 _ (List.mem_of_getElem? (i := 1) rfl)
theorem hw_562 : (.fieldLink RX7 161 "WornLines$Machine" "written" "I" : Cond) ∈ wALL := wm_14 _ (List.mem_of_getElem? (i := 2) rfl)
theorem hw_563 : (.fieldLink RX7 243 "WornLines$Programme" "given" "I" : Cond) ∈ wALL := wm_14 _ (List.mem_of_getElem? (i := 3) rfl)
theorem hw_564 : (.methodLink RX7 71 yX5_addBytes : Cond) ∈ wALL := wm_14 _ (List.mem_of_getElem? (i := 4) rfl)
theorem hw_565 : (.instanceMethod yX5_addBytes : Cond) ∈ wALL := wm_14 _ (List.mem_of_getElem? (i := 5) rfl)
theorem hw_566 : (.selects RX5 yX5_addBytes yX5_addBytes : Cond) ∈ wALL := wm_14 _ (List.mem_of_getElem? (i := 6) rfl)
theorem hw_567 : (.methodLink RX7 95 yX7_within : Cond) ∈ wALL := wm_14 _ (List.mem_of_getElem? (i := 7) rfl)
theorem hw_568 : (.methodLink RX7 117 yX1_bearing : Cond) ∈ wALL := wm_14 _ (List.mem_of_getElem? (i := 8) rfl)
theorem hw_569 : (.methodLink RX7 124 yX2_inputCount : Cond) ∈ wALL := wm_14 _ (List.mem_of_getElem? (i := 9) rfl)
theorem hw_570 : (.methodLink RX7 131 yX2_atFirst : Cond) ∈ wALL := wm_14 _ (List.mem_of_getElem? (i := 10) rfl)
theorem hw_571 : (.methodLink RX7 135 yX7_canWalk : Cond) ∈ wALL := wm_14 _ (List.mem_of_getElem? (i := 11) rfl)
theorem hw_572 : (.instanceMethod yX7_canWalk : Cond) ∈ wALL := wm_14 _ (List.mem_of_getElem? (i := 12) rfl)
theorem hw_573 : (.selects RX7 yX7_canWalk yX7_canWalk : Cond) ∈ wALL := wm_14 _ (List.mem_of_getElem? (i := 13) rfl)
theorem hw_574 : (.methodLink RX7 139 yX1_start : Cond) ∈ wALL := wm_14 _ (List.mem_of_getElem? (i := 14) rfl)
theorem hw_575 : (.methodLink RX7 178 yJ7_fill_53178 : Cond) ∈ wALL := wm_14 _ (List.mem_of_getElem? (i := 15) rfl)
theorem hw_576 : (.constant RX7 143 (1000000) : Cond) ∈ wALL := wm_14 _ (List.mem_of_getElem? (i := 16) rfl)
theorem hw_577 : (.methodLink RX7 147 Lib.Math.min.name : Cond) ∈ wALL := wm_14 _ (List.mem_of_getElem? (i := 17) rfl)
theorem hw_578 : (.fieldLink RX7 215 "WornLines$Machine" "way" "I" : Cond) ∈ wALL := wm_14 _ (List.mem_of_getElem? (i := 18) rfl)
theorem hw_579 : (.fieldLink RX7 41 "WornLines" "walker" "LWornLines$Machine;" : Cond) ∈ wALL := wm_14 _ (List.mem_of_getElem? (i := 19) rfl)
theorem hw_580 : (.methodLink RX7 152 yX1_go : Cond) ∈ wALL := wm_14 _ (List.mem_of_getElem? (i := 20) rfl)
theorem hw_581 : (.instanceMethod yX1_go : Cond) ∈ wALL := wm_14 _ (List.mem_of_getElem? (i := 21) rfl)
theorem hw_582 : (.selects RX1 yX1_go yX1_go : Cond) ∈ wALL := wm_14 _ (List.mem_of_getElem? (i := 22) rfl)
theorem hw_583 : (.methodLink RX7 211 yX1_layLike : Cond) ∈ wALL := wm_14 _ (List.mem_of_getElem? (i := 23) rfl)
theorem hw_584 : (.methodLink RX7 246 yX1_fallIfHole : Cond) ∈ wALL := wm_14 _ (List.mem_of_getElem? (i := 24) rfl)
theorem hw_585 : (.methodLink RX7 184 yX7_walk : Cond) ∈ wALL := wm_14 _ (List.mem_of_getElem? (i := 25) rfl)
theorem hw_586 : (.static yX7_walk : Cond) ∈ wALL := wm_14 _ (List.mem_of_getElem? (i := 26) rfl)
theorem hw_587 : (.methodLink RX7 188 yX1_isEndless : Cond) ∈ wALL := wm_14 _ (List.mem_of_getElem? (i := 27) rfl)
theorem hw_588 : (.methodLink RX7 204 yX7_firstToFall : Cond) ∈ wALL := wm_14 _ (List.mem_of_getElem? (i := 28) rfl)
theorem hw_589 : (.instanceMethod yX7_firstToFall : Cond) ∈ wALL := wm_14 _ (List.mem_of_getElem? (i := 29) rfl)
theorem hw_590 : (.selects RX7 yX7_firstToFall yX7_firstToFall : Cond) ∈ wALL := wm_14 _ (List.mem_of_getElem? (i := 30) rfl)
theorem hw_591 : (.fieldLink RX7 44 "WornLines" "fellow" "LWornLines$Machine;" : Cond) ∈ wALL := wm_14 _ (List.mem_of_getElem? (i := 31) rfl)
theorem hw_592 : (.methodLink RX7 207 yX1_wroteLike : Cond) ∈ wALL := wm_14 _ (List.mem_of_getElem? (i := 32) rfl)
theorem hw_593 : (.instanceMethod yX1_wroteLike : Cond) ∈ wALL := wm_14 _ (List.mem_of_getElem? (i := 33) rfl)
theorem hw_594 : (.selects RX1 yX1_wroteLike yX1_wroteLike : Cond) ∈ wALL := wm_14 _ (List.mem_of_getElem? (i := 34) rfl)
theorem hw_595 : (.methodLink RX7 240 yX1_copy : Cond) ∈ wALL := wm_14 _ (List.mem_of_getElem? (i := 35) rfl)
theorem hw_596 : (.instanceMethod yX1_copy : Cond) ∈ wALL := wm_14 _ (List.mem_of_getElem? (i := 36) rfl)
theorem hw_597 : (.selects RX1 yX1_copy yX1_copy : Cond) ∈ wALL := wm_14 _ (List.mem_of_getElem? (i := 37) rfl)
theorem hw_598 : (.methodLink RX7 233 yX7_stepsIfMended : Cond) ∈ wALL := wm_14 _ (List.mem_of_getElem? (i := 38) rfl)
theorem hw_599 : (.instanceMethod yX7_stepsIfMended : Cond) ∈ wALL := wm_14 _ (List.mem_of_getElem? (i := 39) rfl)
theorem hw_600 : (.selects RX7 yX7_stepsIfMended yX7_stepsIfMended : Cond) ∈ wALL := wm_15 _ (List.mem_of_getElem? (i := 0) rfl)
theorem hw_601 : (.fieldLink RX7 47 "WornLines" "marks" "[LWornLines$Machine;" : Cond) ∈ wALL := wm_15 _ (List.mem_of_getElem? (i := 1) rfl)
theorem hw_602 : (.fieldLink RX7 51 "WornLines" "marked" "[Z" : Cond) ∈ wALL := wm_15 _ (List.mem_of_getElem? (i := 2) rfl)
theorem hw_603 : (.methodLink RX7 236 yX7_comparable : Cond) ∈ wALL := wm_15 _ (List.mem_of_getElem? (i := 3) rfl)
theorem hw_604 : (.instanceMethod yX7_comparable : Cond) ∈ wALL := wm_15 _ (List.mem_of_getElem? (i := 4) rfl)
theorem hw_605 : (.selects RX7 yX7_comparable yX7_comparable : Cond) ∈ wALL := wm_15 _ (List.mem_of_getElem? (i := 5) rfl)
theorem hw_606 : (.constant RX0 46 (1000000000) : Cond) ∈ wALL := wm_15 _ (List.mem_of_getElem? (i := 6) rfl)
theorem hw_607 : (.fieldLink RX0 56 "WornLines$Programme" "costs" "[I" : Cond) ∈ wALL := wm_15 _ (List.mem_of_getElem? (i := 7) rfl)
theorem hw_608 : (.fieldLink RX0 59 "WornLines$Programme" "bears" "[I" : Cond) ∈ wALL := wm_15 _ (List.mem_of_getElem? (i := 8) rfl)
theorem hw_609 : (.fieldLink RX0 50 "WornLines$Layout" "stuff" "I" : Cond) ∈ wALL := wm_15 _ (List.mem_of_getElem? (i := 9) rfl)
theorem hw_610 : (.fieldLink RX0 47 "WornLines$Layout" "twins" "I" : Cond) ∈ wALL := wm_15 _ (List.mem_of_getElem? (i := 10) rfl)
theorem hw_611 : (.fieldLink RX0 53 "WornLines$Programme" "stuffs" "I" : Cond) ∈ wALL := wm_15 _ (List.mem_of_getElem? (i := 11) rfl)
theorem hw_612 : (.methodLink RX0 42 yX0_find : Cond) ∈ wALL := wm_15 _ (List.mem_of_getElem? (i := 12) rfl)
theorem hw_613 : (.instanceMethod yX0_find : Cond) ∈ wALL := wm_15 _ (List.mem_of_getElem? (i := 13) rfl)
theorem hw_614 : (.selects RX0 yX0_find yX0_find : Cond) ∈ wALL := wm_15 _ (List.mem_of_getElem? (i := 14) rfl)
theorem hw_615 : (.initialized RX0 : Cond) ∈ wALL := wm_15 _ (List.mem_of_getElem? (i := 15) rfl)
theorem hw_616 : (.methodLink RX0 24 arraycopyName : Cond) ∈ wALL := wm_15 _ (List.mem_of_getElem? (i := 16) rfl)
theorem hw_617 : (.fieldLink RX0 30 "WornLines$Programme" "lines" "I" : Cond) ∈ wALL := wm_15 _ (List.mem_of_getElem? (i := 17) rfl)
theorem hw_618 : (.methodLink RX0 36 yJ7_fill_53178 : Cond) ∈ wALL := wm_15 _ (List.mem_of_getElem? (i := 18) rfl)
theorem hw_619 : (.fieldLink RX7 67 "WornLines" "layout" "LWornLines$Layout;" : Cond) ∈ wALL := wm_15 _ (List.mem_of_getElem? (i := 19) rfl)
theorem hw_620 : (.fieldLink RX7 58 "WornLines" "survey" "LWornLines$Survey;" : Cond) ∈ wALL := wm_15 _ (List.mem_of_getElem? (i := 20) rfl)
theorem hw_621 : (.fieldLink RX7 201 "WornLines$Survey" "peak" "[I" : Cond) ∈ wALL := wm_15 _ (List.mem_of_getElem? (i := 21) rfl)
theorem hw_622 : (.fieldLink RX7 255 "WornLines$Survey" "endless" "Z" : Cond) ∈ wALL := wm_15 _ (List.mem_of_getElem? (i := 22) rfl)
theorem hw_623 : (.fieldLink RX7 249 "WornLines$Survey" "of" "LWornLines$Programme;" : Cond) ∈ wALL := wm_15 _ (List.mem_of_getElem? (i := 23) rfl)
theorem hw_624 : (.fieldLink RX7 195 "WornLines$Survey" "often" "[I" : Cond) ∈ wALL := wm_15 _ (List.mem_of_getElem? (i := 24) rfl)
theorem hw_625 : (.fieldLink RX7 198 "WornLines$Survey" "by" "[I" : Cond) ∈ wALL := wm_15 _ (List.mem_of_getElem? (i := 25) rfl)
theorem hw_626 : (.methodLink RX7 263 yX0_make : Cond) ∈ wALL := wm_15 _ (List.mem_of_getElem? (i := 26) rfl)
theorem hw_627 : (.instanceMethod yX0_make : Cond) ∈ wALL := wm_15 _ (List.mem_of_getElem? (i := 27) rfl)
theorem hw_628 : (.selects RX0 yX0_make yX0_make : Cond) ∈ wALL := wm_15 _ (List.mem_of_getElem? (i := 28) rfl)
theorem hw_629 : (.methodLink RX7 259 yX4_add : Cond) ∈ wALL := wm_15 _ (List.mem_of_getElem? (i := 29) rfl)
theorem hw_630 : (.instanceMethod yX4_add : Cond) ∈ wALL := wm_15 _ (List.mem_of_getElem? (i := 30) rfl)
theorem hw_631 : (.selects RX4 yX4_add yX4_add : Cond) ∈ wALL := wm_15 _ (List.mem_of_getElem? (i := 31) rfl)
theorem hw_632 : (.initialized RX4 : Cond) ∈ wALL := wm_15 _ (List.mem_of_getElem? (i := 32) rfl)
theorem hw_633 : (.methodLink RX7 252 yX4_open : Cond) ∈ wALL := wm_15 _ (List.mem_of_getElem? (i := 33) rfl)
theorem hw_634 : (.instanceMethod yX4_open : Cond) ∈ wALL := wm_15 _ (List.mem_of_getElem? (i := 34) rfl)
theorem hw_635 : (.selects RX4 yX4_open yX4_open : Cond) ∈ wALL := wm_15 _ (List.mem_of_getElem? (i := 35) rfl)
theorem hw_636 : (.methodLink RX7 192 yX7_surveyed : Cond) ∈ wALL := wm_15 _ (List.mem_of_getElem? (i := 36) rfl)
theorem hw_637 : (.instanceMethod yX7_surveyed : Cond) ∈ wALL := wm_15 _ (List.mem_of_getElem? (i := 37) rfl)
theorem hw_638 : (.selects RX7 yX7_surveyed yX7_surveyed : Cond) ∈ wALL := wm_15 _ (List.mem_of_getElem? (i := 38) rfl)
theorem hw_639 : (.fieldLink RX7 228 "WornLines$Layout" "stuff" "I" : Cond) ∈ wALL := wm_15 _ (List.mem_of_getElem? (i := 39) rfl)
theorem hw_640 : (.fieldLink RX7 231 "WornLines$Layout" "twins" "I" : Cond) ∈ wALL := wm_16 _ (List.mem_of_getElem? (i := 0) rfl)
theorem hw_641 : (.methodLink RX7 221 yX0_leastCost : Cond) ∈ wALL := wm_16 _ (List.mem_of_getElem? (i := 1) rfl)
theorem hw_642 : (.instanceMethod yX0_leastCost : Cond) ∈ wALL := wm_16 _ (List.mem_of_getElem? (i := 2) rfl)
theorem hw_643 : (.selects RX0 yX0_leastCost yX0_leastCost : Cond) ∈ wALL := wm_16 _ (List.mem_of_getElem? (i := 3) rfl)
theorem hw_644 : (.methodLink RX7 218 yX7_canLast : Cond) ∈ wALL := wm_16 _ (List.mem_of_getElem? (i := 4) rfl)
theorem hw_645 : (.instanceMethod yX7_canLast : Cond) ∈ wALL := wm_16 _ (List.mem_of_getElem? (i := 5) rfl)
theorem hw_646 : (.selects RX7 yX7_canLast yX7_canLast : Cond) ∈ wALL := wm_16 _ (List.mem_of_getElem? (i := 6) rfl)
theorem hw_647 : (.methodLink RX7 224 yX0_choose : Cond) ∈ wALL := wm_16 _ (List.mem_of_getElem? (i := 7) rfl)
theorem hw_648 : (.instanceMethod yX0_choose : Cond) ∈ wALL := wm_16 _ (List.mem_of_getElem? (i := 8) rfl)
theorem hw_649 : (.selects RX0 yX0_choose yX0_choose : Cond) ∈ wALL := wm_16 _ (List.mem_of_getElem? (i := 9) rfl)
theorem hw_650 : (.methodLink RX8 1 objectInit : Cond) ∈ wALL := wm_16 _ (List.mem_of_getElem? (i := 10) rfl)
theorem hw_651 : (.arrayClass .boolean : Cond) ∈ wALL := wm_16 _ (List.mem_of_getElem? (i := 11) rfl)
theorem hw_652 : (.methodLink RX7 1 objectInit : Cond) ∈ wALL := wm_16 _ (List.mem_of_getElem? (i := 12) rfl)
theorem hw_653 : (.classLink RX7 7 RX5 : Cond) ∈ wALL := wm_16 _ (List.mem_of_getElem? (i := 13) rfl)
theorem hw_654 : (.instantiable RX5 6 : Cond) ∈ wALL := wm_16 _ (List.mem_of_getElem? (i := 14) rfl)
theorem hw_655 : (.instanceMethod yX5_init : Cond) ∈ wALL := wm_16 _ (List.mem_of_getElem? (i := 15) rfl)
theorem hw_656 : (.classLink RX7 16 RX2 : Cond) ∈ wALL := wm_16 _ (List.mem_of_getElem? (i := 16) rfl)
theorem hw_657 : (.fieldLink RX7 19 "WornLines" "empty" "LWornLines$Programme;" : Cond) ∈ wALL := wm_16 _ (List.mem_of_getElem? (i := 17) rfl)
theorem hw_658 : (.classLink RX7 23 RX3 : Cond) ∈ wALL := wm_16 _ (List.mem_of_getElem? (i := 18) rfl)
theorem hw_659 : (.instantiable RX3 11 : Cond) ∈ wALL := wm_16 _ (List.mem_of_getElem? (i := 19) rfl)
theorem hw_660 : (.methodLink RX7 25 yX3_init : Cond) ∈ wALL := wm_16 _ (List.mem_of_getElem? (i := 20) rfl)
theorem hw_661 : (.instanceMethod yX3_init : Cond) ∈ wALL := wm_16 _ (List.mem_of_getElem? (i := 21) rfl)
theorem hw_662 : (.classLink RX7 32 RX1 : Cond) ∈ wALL := wm_16 _ (List.mem_of_getElem? (i := 22) rfl)
theorem hw_663 : (.instantiable RX1 12 : Cond) ∈ wALL := wm_16 _ (List.mem_of_getElem? (i := 23) rfl)
theorem hw_664 : (.methodLink RX7 34 yX1_init : Cond) ∈ wALL := wm_16 _ (List.mem_of_getElem? (i := 24) rfl)
theorem hw_665 : (.instanceMethod yX1_init : Cond) ∈ wALL := wm_16 _ (List.mem_of_getElem? (i := 25) rfl)
theorem hw_666 : (.classLink RX7 55 RX4 : Cond) ∈ wALL := wm_16 _ (List.mem_of_getElem? (i := 26) rfl)
theorem hw_667 : (.instantiable RX4 6 : Cond) ∈ wALL := wm_16 _ (List.mem_of_getElem? (i := 27) rfl)
theorem hw_668 : (.instanceMethod yX4_init : Cond) ∈ wALL := wm_16 _ (List.mem_of_getElem? (i := 28) rfl)
theorem hw_669 : (.classLink RX7 62 RX0 : Cond) ∈ wALL := wm_16 _ (List.mem_of_getElem? (i := 29) rfl)
theorem hw_670 : (.instantiable RX0 5 : Cond) ∈ wALL := wm_16 _ (List.mem_of_getElem? (i := 30) rfl)
theorem hw_671 : (.methodLink RX7 64 yX0_init : Cond) ∈ wALL := wm_16 _ (List.mem_of_getElem? (i := 31) rfl)
theorem hw_672 : (.instanceMethod yX0_init : Cond) ∈ wALL := wm_16 _ (List.mem_of_getElem? (i := 32) rfl)
theorem hw_673 : (.code yJ7_copyOf_59c91 cJ7_copyOf_59c91 3 (some (.array .int)) : Cond) ∈ wALL := wm_16 _ (List.mem_of_getElem? (i := 33) rfl)
theorem hw_674 : (.code yJ7_fill_53178 cJ7_fill_53178 4 none : Cond) ∈ wALL := wm_16 _ (List.mem_of_getElem? (i := 34) rfl)
theorem hw_675 : (.code yX0_choose cX0_choose 5 none : Cond) ∈ wALL := wm_16 _ (List.mem_of_getElem? (i := 35) rfl)
theorem hw_676 : (.code yX0_find cX0_find 7 (some .int) : Cond) ∈ wALL := wm_16 _ (List.mem_of_getElem? (i := 36) rfl)
theorem hw_677 : (.code yX0_init cX0_init 2 none : Cond) ∈ wALL := wm_16 _ (List.mem_of_getElem? (i := 37) rfl)
theorem hw_678 : (.code yX0_leastCost cX0_leastCost 2 (some .int) : Cond) ∈ wALL := wm_16 _ (List.mem_of_getElem? (i := 38) rfl)
theorem hw_679 : (.code yX0_make cX0_make 5 none : Cond) ∈ wALL := wm_16 _ (List.mem_of_getElem? (i := 39) rfl)
theorem hw_680 : (.code yX1_bearing cX1_bearing 2 (some .int) : Cond) ∈ wALL := wm_17 _ (List.mem_of_getElem? (i := 0) rfl)
theorem hw_681 : (.code yX1_copy cX1_copy 2 none : Cond) ∈ wALL := wm_17 _ (List.mem_of_getElem? (i := 1) rfl)
theorem hw_682 : (.code yX1_fallIfHole cX1_fallIfHole 1 none : Cond) ∈ wALL := wm_17 _ (List.mem_of_getElem? (i := 2) rfl)
theorem hw_683 : (.code yX1_go cX1_go 4 (some .int) : Cond) ∈ wALL := wm_17 _ (List.mem_of_getElem? (i := 3) rfl)
theorem hw_684 : (.code yX1_init cX1_init 3 none : Cond) ∈ wALL := wm_17 _ (List.mem_of_getElem? (i := 4) rfl)
theorem hw_685 : (.code yX1_isEndless cX1_isEndless 1 (some .boolean) : Cond) ∈ wALL := wm_17 _ (List.mem_of_getElem? (i := 5) rfl)
theorem hw_686 : (.code yX1_joined cX1_joined 3 (some .int) : Cond) ∈ wALL := wm_17 _ (List.mem_of_getElem? (i := 6) rfl)
theorem hw_687 : (.code yX1_layLike cX1_layLike 2 none : Cond) ∈ wALL := wm_17 _ (List.mem_of_getElem? (i := 7) rfl)
theorem hw_688 : (.code yX1_lineOf cX1_lineOf 3 (some .int) : Cond) ∈ wALL := wm_17 _ (List.mem_of_getElem? (i := 8) rfl)
theorem hw_689 : (.code yX1_mend cX1_mend 3 none : Cond) ∈ wALL := wm_17 _ (List.mem_of_getElem? (i := 9) rfl)
theorem hw_690 : (.code yX1_reckon cX1_reckon 8 (some .int) : Cond) ∈ wALL := wm_17 _ (List.mem_of_getElem? (i := 10) rfl)
theorem hw_691 : (.code yX1_start cX1_start 3 none : Cond) ∈ wALL := wm_17 _ (List.mem_of_getElem? (i := 11) rfl)
theorem hw_692 : (.code yX1_step cX1_step 1 (some .boolean) : Cond) ∈ wALL := wm_17 _ (List.mem_of_getElem? (i := 12) rfl)
theorem hw_693 : (.code yX1_takeAsTold cX1_takeAsTold 2 none : Cond) ∈ wALL := wm_17 _ (List.mem_of_getElem? (i := 13) rfl)
theorem hw_694 : (.code yX1_work cX1_work 4 (some .int) : Cond) ∈ wALL := wm_17 _ (List.mem_of_getElem? (i := 14) rfl)
theorem hw_695 : (.code yX1_write cX1_write 2 none : Cond) ∈ wALL := wm_17 _ (List.mem_of_getElem? (i := 15) rfl)
theorem hw_696 : (.code yX1_wroteLike cX1_wroteLike 3 (some .boolean) : Cond) ∈ wALL := wm_17 _ (List.mem_of_getElem? (i := 16) rfl)
theorem hw_697 : (.code yX2_atFirst cX2_atFirst 7 (some .int) : Cond) ∈ wALL := wm_17 _ (List.mem_of_getElem? (i := 17) rfl)
theorem hw_698 : (.code yX2_init cX2_init 1 none : Cond) ∈ wALL := wm_17 _ (List.mem_of_getElem? (i := 18) rfl)
theorem hw_699 : (.code yX2_inputCount cX2_inputCount 3 (some .int) : Cond) ∈ wALL := wm_17 _ (List.mem_of_getElem? (i := 19) rfl)
theorem hw_700 : (.code yX2_width cX2_width 2 (some .int) : Cond) ∈ wALL := wm_17 _ (List.mem_of_getElem? (i := 20) rfl)
theorem hw_701 : (.code yX3_advance cX3_advance 1 none : Cond) ∈ wALL := wm_17 _ (List.mem_of_getElem? (i := 21) rfl)
theorem hw_702 : (.code yX3_beginsPart cX3_beginsPart 1 (some .boolean) : Cond) ∈ wALL := wm_17 _ (List.mem_of_getElem? (i := 22) rfl)
theorem hw_703 : (.code yX3_expect cX3_expect 2 none : Cond) ∈ wALL := wm_17 _ (List.mem_of_getElem? (i := 23) rfl)
theorem hw_704 : (.code yX3_expression cX3_expression 6 none : Cond) ∈ wALL := wm_17 _ (List.mem_of_getElem? (i := 24) rfl)
theorem hw_705 : (.code yX3_fail cX3_fail 2 none : Cond) ∈ wALL := wm_17 _ (List.mem_of_getElem? (i := 25) rfl)
theorem hw_706 : (.code yX3_find cX3_find 4 (some .int) : Cond) ∈ wALL := wm_17 _ (List.mem_of_getElem? (i := 26) rfl)
theorem hw_707 : (.code yX3_init cX3_init 3 none : Cond) ∈ wALL := wm_17 _ (List.mem_of_getElem? (i := 27) rfl)
theorem hw_708 : (.code yX3_isGiven cX3_isGiven 3 (some .boolean) : Cond) ∈ wALL := wm_17 _ (List.mem_of_getElem? (i := 28) rfl)
theorem hw_709 : (.code yX3_numberHere cX3_numberHere 3 (some .int) : Cond) ∈ wALL := wm_17 _ (List.mem_of_getElem? (i := 29) rfl)
theorem hw_710 : (.code yX3_part cX3_part 5 none : Cond) ∈ wALL := wm_17 _ (List.mem_of_getElem? (i := 30) rfl)
theorem hw_711 : (.code yX3_put cX3_put 3 none : Cond) ∈ wALL := wm_17 _ (List.mem_of_getElem? (i := 31) rfl)
theorem hw_712 : (.code yX3_read cX3_read 2 (some (.object "WornLines$Programme")) : Cond) ∈ wALL := wm_17 _ (List.mem_of_getElem? (i := 32) rfl)
theorem hw_713 : (.code yX3_takeCell cX3_takeCell 2 (some .int) : Cond) ∈ wALL := wm_17 _ (List.mem_of_getElem? (i := 33) rfl)
theorem hw_714 : (.code yX3_takeNewName cX3_takeNewName 3 (some .long) : Cond) ∈ wALL := wm_17 _ (List.mem_of_getElem? (i := 34) rfl)
theorem hw_715 : (.code yX3_takeNumber cX3_takeNumber 4 (some .int) : Cond) ∈ wALL := wm_17 _ (List.mem_of_getElem? (i := 35) rfl)
theorem hw_716 : (.code yX3_takeStuff cX3_takeStuff 2 (some .int) : Cond) ∈ wALL := wm_17 _ (List.mem_of_getElem? (i := 36) rfl)
theorem hw_717 : (.code yX3_tellAct cX3_tellAct 3 none : Cond) ∈ wALL := wm_17 _ (List.mem_of_getElem? (i := 37) rfl)
theorem hw_718 : (.code yX3_tellCell cX3_tellCell 2 none : Cond) ∈ wALL := wm_17 _ (List.mem_of_getElem? (i := 38) rfl)
theorem hw_719 : (.code yX3_tellInput cX3_tellInput 5 none : Cond) ∈ wALL := wm_17 _ (List.mem_of_getElem? (i := 39) rfl)
theorem hw_720 : (.code yX3_tellLine cX3_tellLine 2 none : Cond) ∈ wALL := wm_18 _ (List.mem_of_getElem? (i := 0) rfl)
theorem hw_721 : (.code yX3_tellStuff cX3_tellStuff 2 none : Cond) ∈ wALL := wm_18 _ (List.mem_of_getElem? (i := 1) rfl)
theorem hw_722 : (.code yX3_toldHere cX3_toldHere 4 (some .int) : Cond) ∈ wALL := wm_18 _ (List.mem_of_getElem? (i := 2) rfl)
theorem hw_723 : (.code yX4_add cX4_add 5 none : Cond) ∈ wALL := wm_18 _ (List.mem_of_getElem? (i := 3) rfl)
theorem hw_724 : (.code yX4_init cX4_init 1 none : Cond) ∈ wALL := wm_18 _ (List.mem_of_getElem? (i := 4) rfl)
theorem hw_725 : (.code yX4_open cX4_open 2 none : Cond) ∈ wALL := wm_18 _ (List.mem_of_getElem? (i := 5) rfl)
theorem hw_726 : (.code yX5_add cX5_add 5 none : Cond) ∈ wALL := wm_18 _ (List.mem_of_getElem? (i := 6) rfl)
theorem hw_727 : (.code yX5_addBytes cX5_addBytes 5 none : Cond) ∈ wALL := wm_18 _ (List.mem_of_getElem? (i := 7) rfl)
theorem hw_728 : (.code yX5_addNumber cX5_addNumber 6 none : Cond) ∈ wALL := wm_18 _ (List.mem_of_getElem? (i := 8) rfl)
theorem hw_729 : (.code yX5_addWord cX5_addWord 6 none : Cond) ∈ wALL := wm_18 _ (List.mem_of_getElem? (i := 9) rfl)
theorem hw_730 : (.code yX5_init cX5_init 1 none : Cond) ∈ wALL := wm_18 _ (List.mem_of_getElem? (i := 10) rfl)
theorem hw_731 : (.code yX5_isBlank cX5_isBlank 1 (some .boolean) : Cond) ∈ wALL := wm_18 _ (List.mem_of_getElem? (i := 11) rfl)
theorem hw_732 : (.code yX5_kindOf cX5_kindOf 1 (some .int) : Cond) ∈ wALL := wm_18 _ (List.mem_of_getElem? (i := 12) rfl)
theorem hw_733 : (.code yX5_spelled cX5_spelled 7 (some (.object "WornLines$Token")) : Cond) ∈ wALL := wm_18 _ (List.mem_of_getElem? (i := 13) rfl)
theorem hw_734 : (.code yX5_split cX5_split 3 none : Cond) ∈ wALL := wm_18 _ (List.mem_of_getElem? (i := 14) rfl)
theorem hw_735 : (.code yX5_splitOne cX5_splitOne 5 (some .int) : Cond) ∈ wALL := wm_18 _ (List.mem_of_getElem? (i := 15) rfl)
theorem hw_736 : (.code yX7_canLast cX7_canLast 2 (some .boolean) : Cond) ∈ wALL := wm_18 _ (List.mem_of_getElem? (i := 16) rfl)
theorem hw_737 : (.code yX7_canWalk cX7_canWalk 2 (some .boolean) : Cond) ∈ wALL := wm_18 _ (List.mem_of_getElem? (i := 17) rfl)
theorem hw_738 : (.code yX7_comparable cX7_comparable 2 (some .boolean) : Cond) ∈ wALL := wm_18 _ (List.mem_of_getElem? (i := 18) rfl)
theorem hw_739 : (.code yX7_firstToFall cX7_firstToFall 5 (some .int) : Cond) ∈ wALL := wm_18 _ (List.mem_of_getElem? (i := 19) rfl)
theorem hw_740 : (.code yX7_stepsIfMended cX7_stepsIfMended 2 (some .int) : Cond) ∈ wALL := wm_18 _ (List.mem_of_getElem? (i := 20) rfl)
theorem hw_741 : (.code yX7_surveyed cX7_surveyed 3 (some .boolean) : Cond) ∈ wALL := wm_18 _ (List.mem_of_getElem? (i := 21) rfl)
theorem hw_742 : (.code yX7_walk cX7_walk 4 none : Cond) ∈ wALL := wm_18 _ (List.mem_of_getElem? (i := 22) rfl)
theorem hw_743 : (.code yX7_within cX7_within 2 (some .boolean) : Cond) ∈ wALL := wm_18 _ (List.mem_of_getElem? (i := 23) rfl)
theorem hw_744 : (.code yX8_actAt cX8_actAt 1 (some .int) : Cond) ∈ wALL := wm_18 _ (List.mem_of_getElem? (i := 24) rfl)
theorem hw_745 : (.code yX8_bearsOf cX8_bearsOf 2 (some .int) : Cond) ∈ wALL := wm_18 _ (List.mem_of_getElem? (i := 25) rfl)
theorem hw_746 : (.code yX8_begins cX8_begins 5 none : Cond) ∈ wALL := wm_18 _ (List.mem_of_getElem? (i := 26) rfl)
theorem hw_747 : (.code yX8_beginsWith cX8_beginsWith 5 (some .int) : Cond) ∈ wALL := wm_18 _ (List.mem_of_getElem? (i := 27) rfl)
theorem hw_748 : (.code yX8_cellOf cX8_cellOf 2 (some .int) : Cond) ∈ wALL := wm_18 _ (List.mem_of_getElem? (i := 28) rfl)
theorem hw_749 : (.code yX8_ends cX8_ends 1 (some .boolean) : Cond) ∈ wALL := wm_18 _ (List.mem_of_getElem? (i := 29) rfl)
theorem hw_750 : (.code yX8_fails cX8_fails 2 (some .boolean) : Cond) ∈ wALL := wm_18 _ (List.mem_of_getElem? (i := 30) rfl)
theorem hw_751 : (.code yX8_freshens cX8_freshens 2 none : Cond) ∈ wALL := wm_18 _ (List.mem_of_getElem? (i := 31) rfl)
theorem hw_752 : (.code yX8_goesOn cX8_goesOn 3 none : Cond) ∈ wALL := wm_18 _ (List.mem_of_getElem? (i := 32) rfl)
theorem hw_753 : (.code yX8_inputsOf cX8_inputsOf 2 (some .int) : Cond) ∈ wALL := wm_18 _ (List.mem_of_getElem? (i := 33) rfl)
theorem hw_754 : (.code yX8_isCell cX8_isCell 2 (some .boolean) : Cond) ∈ wALL := wm_18 _ (List.mem_of_getElem? (i := 34) rfl)
theorem hw_755 : (.code yX8_isEndless cX8_isEndless 1 (some .boolean) : Cond) ∈ wALL := wm_18 _ (List.mem_of_getElem? (i := 35) rfl)
theorem hw_756 : (.code yX8_isInput cX8_isInput 2 (some .boolean) : Cond) ∈ wALL := wm_18 _ (List.mem_of_getElem? (i := 36) rfl)
theorem hw_757 : (.code yX8_isKept cX8_isKept 1 (some .boolean) : Cond) ∈ wALL := wm_18 _ (List.mem_of_getElem? (i := 37) rfl)
theorem hw_758 : (.code yX8_isLasting cX8_isLasting 8 (some .boolean) : Cond) ∈ wALL := wm_18 _ (List.mem_of_getElem? (i := 38) rfl)
theorem hw_759 : (.code yX8_isLine cX8_isLine 2 (some .boolean) : Cond) ∈ wALL := wm_18 _ (List.mem_of_getElem? (i := 39) rfl)
theorem hw_760 : (.code yX8_isSign cX8_isSign 2 (some .boolean) : Cond) ∈ wALL := wm_19 _ (List.mem_of_getElem? (i := 0) rfl)
theorem hw_761 : (.code yX8_isStuff cX8_isStuff 2 (some .boolean) : Cond) ∈ wALL := wm_19 _ (List.mem_of_getElem? (i := 1) rfl)
theorem hw_762 : (.code yX8_isWord cX8_isWord 3 (some .boolean) : Cond) ∈ wALL := wm_19 _ (List.mem_of_getElem? (i := 2) rfl)
theorem hw_763 : (.code yX8_keeps cX8_keeps 4 (some .int) : Cond) ∈ wALL := wm_19 _ (List.mem_of_getElem? (i := 3) rfl)
theorem hw_764 : (.code yX8_keepsRow cX8_keepsRow 5 none : Cond) ∈ wALL := wm_19 _ (List.mem_of_getElem? (i := 4) rfl)
theorem hw_765 : (.code yX8_lastsBy cX8_lastsBy 5 (some .int) : Cond) ∈ wALL := wm_19 _ (List.mem_of_getElem? (i := 5) rfl)
theorem hw_766 : (.code yX8_layCost cX8_layCost 4 (some .int) : Cond) ∈ wALL := wm_19 _ (List.mem_of_getElem? (i := 6) rfl)
theorem hw_767 : (.code yX8_lays cX8_lays 4 none : Cond) ∈ wALL := wm_19 _ (List.mem_of_getElem? (i := 7) rfl)
theorem hw_768 : (.code yX8_lineOf cX8_lineOf 4 (some .int) : Cond) ∈ wALL := wm_19 _ (List.mem_of_getElem? (i := 8) rfl)
theorem hw_769 : (.code yX8_manyOf cX8_manyOf 3 (some .int) : Cond) ∈ wALL := wm_19 _ (List.mem_of_getElem? (i := 9) rfl)
theorem hw_770 : (.code yX8_moves cX8_moves 5 none : Cond) ∈ wALL := wm_19 _ (List.mem_of_getElem? (i := 10) rfl)
theorem hw_771 : (.code yX8_needsCell cX8_needsCell 2 (some .boolean) : Cond) ∈ wALL := wm_19 _ (List.mem_of_getElem? (i := 11) rfl)
theorem hw_772 : (.code yX8_needsNew cX8_needsNew 1 (some .boolean) : Cond) ∈ wALL := wm_19 _ (List.mem_of_getElem? (i := 12) rfl)
theorem hw_773 : (.code yX8_needsNumber cX8_needsNumber 3 (some .boolean) : Cond) ∈ wALL := wm_19 _ (List.mem_of_getElem? (i := 13) rfl)
theorem hw_774 : (.code yX8_needsWord cX8_needsWord 3 (some .boolean) : Cond) ∈ wALL := wm_19 _ (List.mem_of_getElem? (i := 14) rfl)
theorem hw_775 : (.code yX8_nextToken cX8_nextToken 2 none : Cond) ∈ wALL := wm_19 _ (List.mem_of_getElem? (i := 15) rfl)
theorem hw_776 : (.code yX8_opens cX8_opens 2 none : Cond) ∈ wALL := wm_19 _ (List.mem_of_getElem? (i := 16) rfl)
theorem hw_777 : (.code yX8_puts cX8_puts 2 none : Cond) ∈ wALL := wm_19 _ (List.mem_of_getElem? (i := 17) rfl)
theorem hw_778 : (.code yX8_readsAct cX8_readsAct 3 (some .boolean) : Cond) ∈ wALL := wm_19 _ (List.mem_of_getElem? (i := 18) rfl)
theorem hw_779 : (.code yX8_readsAll cX8_readsAll 2 (some .boolean) : Cond) ∈ wALL := wm_19 _ (List.mem_of_getElem? (i := 19) rfl)
theorem hw_780 : (.code yX8_readsCell cX8_readsCell 1 (some .boolean) : Cond) ∈ wALL := wm_19 _ (List.mem_of_getElem? (i := 20) rfl)
theorem hw_781 : (.code yX8_readsE cX8_readsE 7 (some .boolean) : Cond) ∈ wALL := wm_19 _ (List.mem_of_getElem? (i := 21) rfl)
theorem hw_782 : (.code yX8_readsInput cX8_readsInput 3 (some .boolean) : Cond) ∈ wALL := wm_19 _ (List.mem_of_getElem? (i := 22) rfl)
theorem hw_783 : (.code yX8_readsLine cX8_readsLine 2 (some .boolean) : Cond) ∈ wALL := wm_19 _ (List.mem_of_getElem? (i := 23) rfl)
theorem hw_784 : (.code yX8_readsStuff cX8_readsStuff 2 (some .boolean) : Cond) ∈ wALL := wm_19 _ (List.mem_of_getElem? (i := 24) rfl)
theorem hw_785 : (.code yX8_signAt cX8_signAt 2 (some .int) : Cond) ∈ wALL := wm_19 _ (List.mem_of_getElem? (i := 25) rfl)
theorem hw_786 : (.code yX8_stepsOn cX8_stepsOn 6 none : Cond) ∈ wALL := wm_19 _ (List.mem_of_getElem? (i := 26) rfl)
theorem hw_787 : (.code yX8_stuffOf cX8_stuffOf 2 (some .int) : Cond) ∈ wALL := wm_19 _ (List.mem_of_getElem? (i := 27) rfl)
theorem hw_788 : (.code yX8_sums cX8_sums 2 none : Cond) ∈ wALL := wm_19 _ (List.mem_of_getElem? (i := 28) rfl)
theorem hw_789 : (.code yX8_takesUp cX8_takesUp 2 none : Cond) ∈ wALL := wm_19 _ (List.mem_of_getElem? (i := 29) rfl)
theorem hw_790 : (.code yX8_tests cX8_tests 3 none : Cond) ∈ wALL := wm_19 _ (List.mem_of_getElem? (i := 30) rfl)
theorem hw_791 : (.code yX8_tries cX8_tries 4 none : Cond) ∈ wALL := wm_19 _ (List.mem_of_getElem? (i := 31) rfl)
theorem hw_792 : (.code yX8_wears cX8_wears 3 (some .boolean) : Cond) ∈ wALL := wm_19 _ (List.mem_of_getElem? (i := 32) rfl)
theorem hw_793 : (.code yX8_within cX8_within 3 (some .boolean) : Cond) ∈ wALL := wm_19 _ (List.mem_of_getElem? (i := 33) rfl)
theorem hw_794 : (.code yX8_worked cX8_worked 6 (some .int) : Cond) ∈ wALL := wm_19 _ (List.mem_of_getElem? (i := 34) rfl)
theorem hw_795 : (.code yX8_works cX8_works 4 (some .int) : Cond) ∈ wALL := wm_19 _ (List.mem_of_getElem? (i := 35) rfl)
theorem hw_796 : (.code yX8_wornness cX8_wornness 2 (some .int) : Cond) ∈ wALL := wm_19 _ (List.mem_of_getElem? (i := 36) rfl)
theorem hw_797 : (.code yX8_writeAlike cX8_writeAlike 10 (some .boolean) : Cond) ∈ wALL := wm_19 _ (List.mem_of_getElem? (i := 37) rfl)
theorem wm_c {w c : Cond} (h : w ∈ wALL) : w ∈ c :: wALL := List.mem_cons_of_mem _ h
set_option maxRecDepth 20000 in
theorem gv_0 : wl_0.all goodWord = true := by decide +kernel
set_option maxRecDepth 20000 in
theorem gv_1 : wl_1.all goodWord = true := by decide +kernel
set_option maxRecDepth 20000 in
theorem gv_2 : wl_2.all goodWord = true := by decide +kernel
set_option maxRecDepth 20000 in
theorem gv_3 : wl_3.all goodWord = true := by decide +kernel
set_option maxRecDepth 20000 in
theorem gv_4 : wl_4.all goodWord = true := by decide +kernel
set_option maxRecDepth 20000 in
theorem gv_5 : wl_5.all goodWord = true := by decide +kernel
set_option maxRecDepth 20000 in
theorem gv_6 : wl_6.all goodWord = true := by decide +kernel
set_option maxRecDepth 20000 in
theorem gv_7 : wl_7.all goodWord = true := by decide +kernel
set_option maxRecDepth 20000 in
theorem gv_8 : wl_8.all goodWord = true := by decide +kernel
set_option maxRecDepth 20000 in
theorem gv_9 : wl_9.all goodWord = true := by decide +kernel
set_option maxRecDepth 20000 in
theorem gv_10 : wl_10.all goodWord = true := by decide +kernel
set_option maxRecDepth 20000 in
theorem gv_11 : wl_11.all goodWord = true := by decide +kernel
set_option maxRecDepth 20000 in
theorem gv_12 : wl_12.all goodWord = true := by decide +kernel
set_option maxRecDepth 20000 in
theorem gv_13 : wl_13.all goodWord = true := by decide +kernel
set_option maxRecDepth 20000 in
theorem gv_14 : wl_14.all goodWord = true := by decide +kernel
set_option maxRecDepth 20000 in
theorem gv_15 : wl_15.all goodWord = true := by decide +kernel
set_option maxRecDepth 20000 in
theorem gv_16 : wl_16.all goodWord = true := by decide +kernel
set_option maxRecDepth 20000 in
theorem gv_17 : wl_17.all goodWord = true := by decide +kernel
set_option maxRecDepth 20000 in
theorem gv_18 : wl_18.all goodWord = true := by decide +kernel
set_option maxRecDepth 20000 in
theorem gv_19 : wl_19.all goodWord = true := by decide +kernel
set_option maxRecDepth 20000 in
theorem gv_20 : wsX00.all goodWord = true := by decide +kernel
set_option maxRecDepth 20000 in
theorem gv_21 : wsX10.all goodWord = true := by decide +kernel
set_option maxRecDepth 20000 in
theorem gv_22 : wsX20.all goodWord = true := by decide +kernel
set_option maxRecDepth 20000 in
theorem gv_23 : wsX30.all goodWord = true := by decide +kernel
set_option maxRecDepth 20000 in
theorem gv_24 : wsX40.all goodWord = true := by decide +kernel
set_option maxRecDepth 20000 in
theorem gv_25 : wsX50.all goodWord = true := by decide +kernel
set_option maxRecDepth 20000 in
theorem gv_26 : wsX70.all goodWord = true := by decide +kernel
set_option maxRecDepth 20000 in
theorem gv_27 : wsX80.all goodWord = true := by decide +kernel
theorem gv_app {a b : List Cond} (ha : a.all goodWord = true) (hb : b.all goodWord = true) : (a ++ b).all goodWord = true := by rw [List.all_append, ha, hb]; rfl
theorem gv : wALL.all goodWord = true := gv_app gv_0 (gv_app gv_1 (gv_app gv_2 (gv_app gv_3 (gv_app gv_4 (gv_app gv_5 (gv_app gv_6 (gv_app gv_7 (gv_app gv_8 (gv_app gv_9 (gv_app gv_10 (gv_app gv_11 (gv_app gv_12 (gv_app gv_13 (gv_app gv_14 (gv_app gv_15 (gv_app gv_16 (gv_app gv_17 (gv_app gv_18 (gv_app gv_19 (gv_app gv_20 (gv_app gv_21 (gv_app gv_22 (gv_app gv_23 (gv_app gv_24 (gv_app gv_25 (gv_app gv_26 (gv_27)))))))))))))))))))))))))))
theorem gmem {w : Cond} (h : w ∈ wALL) : w ∈ wALL ∧ ((w.onTables && w.keeps) = true ∨ ∃ ty, w = .arrayClass ty) := ⟨h, good_of_word (List.all_eq_true.mp gv w h)⟩
theorem gup {c : Cond} {ws : List Cond} (h : GoodIn wALL ws) : GoodIn (c :: wALL) ws := fun w hw => ⟨List.mem_cons_of_mem _ (h w hw).1, (h w hw).2⟩
theorem gcc {c : Cond} (h : c ∈ wALL) : GoodIn wALL (c :: wALL) := fun w hw => (List.mem_cons.mp hw).elim (fun e => by rw [e]; exact gmem h) gmem
theorem gc1 {c : Cond} (h : c ∈ wALL) : GoodIn wALL [c] := fun w hw => by rw [List.mem_singleton.mp hw]; exact gmem h
theorem glV {own C : String} {ix : Nat} {y : MethodName} {ws : List Cond} (h1 : Cond.methodLink own ix y ∈ wALL) (h2 : Cond.instanceMethod y ∈ wALL) (h3 : Cond.selects C y y ∈ wALL) (h4 : Cond.initialized C ∈ wALL) (h : GoodIn wALL ws) : GoodIn wALL (wsV own ix C y ws) := goodIn_app (fun w hw => by
  simp only [List.mem_cons, List.not_mem_nil, or_false] at hw
  rcases hw with rfl | rfl | rfl | rfl
  · exact gmem h1
  · exact gmem h2
  · exact gmem h3
  · exact gmem h4) h
theorem glS {own : String} {ix : Nat} {y : MethodName} {ws : List Cond} (h1 : Cond.methodLink own ix y ∈ wALL) (h2 : Cond.static y ∈ wALL) (h3 : Cond.initialized y.cls ∈ wALL) (h : GoodIn wALL ws) : GoodIn wALL (va_wsS own ix y ws) := goodIn_app (fun w hw => by
  simp only [List.mem_cons, List.not_mem_nil, or_false] at hw
  rcases hw with rfl | rfl | rfl
  · exact gmem h1
  · exact gmem h2
  · exact gmem h3) h
def wsJ7_copyOf_59c91 : List Cond := .code yJ7_copyOf_59c91 cJ7_copyOf_59c91 3 (some (.array .int)) :: wALL
def wsJ7_fill_53178 : List Cond := .code yJ7_fill_53178 cJ7_fill_53178 4 none :: []
def wsJ9_max_7cf53 : List Cond := .code yJ9_max_7cf53 cJ9_max_7cf53 2 (some .int) :: []
def wsJ9_min_7cf53 : List Cond := .code yJ9_min_7cf53 cJ9_min_7cf53 2 (some .int) :: []
def wsX0_choose : List Cond := .code yX0_choose cX0_choose 5 none :: wALL
def wsX0_find : List Cond := .code yX0_find cX0_find 7 (some .int) :: wALL
def wsX0_init : List Cond := .code yX0_init cX0_init 2 none :: wALL
def wsX0_leastCost : List Cond := .code yX0_leastCost cX0_leastCost 2 (some .int) :: wALL
def wsX0_make : List Cond := .code yX0_make cX0_make 5 none :: wALL
def wsX1_bearing : List Cond := .code yX1_bearing cX1_bearing 2 (some .int) :: wALL
def wsX1_copy : List Cond := .code yX1_copy cX1_copy 2 none :: wALL
def wsX1_fallIfHole : List Cond := .code yX1_fallIfHole cX1_fallIfHole 1 none :: wALL
def wsX1_go : List Cond := .code yX1_go cX1_go 4 (some .int) :: wALL
def wsX1_init : List Cond := .code yX1_init cX1_init 3 none :: wALL
def wsX1_isEndless : List Cond := .code yX1_isEndless cX1_isEndless 1 (some .boolean) :: wALL
def wsX1_joined : List Cond := .code yX1_joined cX1_joined 3 (some .int) :: []
def wsX1_layLike : List Cond := .code yX1_layLike cX1_layLike 2 none :: wALL
def wsX1_lineOf : List Cond := .code yX1_lineOf cX1_lineOf 3 (some .int) :: wALL
def wsX1_mend : List Cond := .code yX1_mend cX1_mend 3 none :: wALL
def wsX1_reckon : List Cond := .code yX1_reckon cX1_reckon 8 (some .int) :: wALL
def wsX1_start : List Cond := .code yX1_start cX1_start 3 none :: wALL
def wsX1_step : List Cond := .code yX1_step cX1_step 1 (some .boolean) :: wALL
def wsX1_takeAsTold : List Cond := .code yX1_takeAsTold cX1_takeAsTold 2 none :: wALL
def wsX1_work : List Cond := .code yX1_work cX1_work 4 (some .int) :: wALL
def wsX1_write : List Cond := .code yX1_write cX1_write 2 none :: wALL
def wsX1_wroteLike : List Cond := .code yX1_wroteLike cX1_wroteLike 3 (some .boolean) :: wALL
def wsX2_atFirst : List Cond := .code yX2_atFirst cX2_atFirst 7 (some .int) :: wALL
def wsX2_init : List Cond := .code yX2_init cX2_init 1 none :: wALL
def wsX2_inputCount : List Cond := .code yX2_inputCount cX2_inputCount 3 (some .int) :: wALL
def wsX2_width : List Cond := .code yX2_width cX2_width 2 (some .int) :: wALL
def wsX3_advance : List Cond := .code yX3_advance cX3_advance 1 none :: wALL
def wsX3_beginsPart : List Cond := .code yX3_beginsPart cX3_beginsPart 1 (some .boolean) :: wALL
def wsX3_expect : List Cond := .code yX3_expect cX3_expect 2 none :: wALL
def wsX3_expression : List Cond := .code yX3_expression cX3_expression 6 none :: wALL
def wsX3_fail : List Cond := .code yX3_fail cX3_fail 2 none :: wALL
def wsX3_find : List Cond := .code yX3_find cX3_find 4 (some .int) :: wALL
def wsX3_init : List Cond := .code yX3_init cX3_init 3 none :: wALL
def wsX3_isGiven : List Cond := .code yX3_isGiven cX3_isGiven 3 (some .boolean) :: wALL
def wsX3_numberHere : List Cond := .code yX3_numberHere cX3_numberHere 3 (some .int) :: wALL
def wsX3_part : List Cond := .code yX3_part cX3_part 5 none :: wALL
def wsX3_put : List Cond := .code yX3_put cX3_put 3 none :: wALL
def wsX3_read : List Cond := .code yX3_read cX3_read 2 (some (.object "WornLines$Programme")) :: wALL
def wsX3_takeCell : List Cond := .code yX3_takeCell cX3_takeCell 2 (some .int) :: wALL
def wsX3_takeNewName : List Cond := .code yX3_takeNewName cX3_takeNewName 3 (some .long) :: wALL
def wsX3_takeNumber : List Cond := .code yX3_takeNumber cX3_takeNumber 4 (some .int) :: wALL
def wsX3_takeStuff : List Cond := .code yX3_takeStuff cX3_takeStuff 2 (some .int) :: wALL
def wsX3_tellAct : List Cond := .code yX3_tellAct cX3_tellAct 3 none :: wALL
def wsX3_tellCell : List Cond := .code yX3_tellCell cX3_tellCell 2 none :: wALL
def wsX3_tellInput : List Cond := .code yX3_tellInput cX3_tellInput 5 none :: wALL
def wsX3_tellLine : List Cond := .code yX3_tellLine cX3_tellLine 2 none :: wALL
def wsX3_tellStuff : List Cond := .code yX3_tellStuff cX3_tellStuff 2 none :: wALL
def wsX3_toldHere : List Cond := .code yX3_toldHere cX3_toldHere 4 (some .int) :: wALL
def wsX4_add : List Cond := .code yX4_add cX4_add 5 none :: wALL
def wsX4_init : List Cond := .code yX4_init cX4_init 1 none :: wALL
def wsX4_open : List Cond := .code yX4_open cX4_open 2 none :: wALL
def wsX5_add : List Cond := .code yX5_add cX5_add 5 none :: wALL
def wsX5_addBytes : List Cond := .code yX5_addBytes cX5_addBytes 5 none :: wALL
def wsX5_addNumber : List Cond := .code yX5_addNumber cX5_addNumber 6 none :: wALL
def wsX5_addWord : List Cond := .code yX5_addWord cX5_addWord 6 none :: wALL
def wsX5_init : List Cond := .code yX5_init cX5_init 1 none :: wALL
def wsX5_isBlank : List Cond := .code yX5_isBlank cX5_isBlank 1 (some .boolean) :: []
def wsX5_kindOf : List Cond := .code yX5_kindOf cX5_kindOf 1 (some .int) :: []
def wsX5_spelled : List Cond := .code yX5_spelled cX5_spelled 7 (some (.object "WornLines$Token")) :: wALL
def wsX5_split : List Cond := .code yX5_split cX5_split 3 none :: wALL
def wsX5_splitOne : List Cond := .code yX5_splitOne cX5_splitOne 5 (some .int) :: wALL
def wsX7_apart : List Cond := .code yX7_apart cX7_apart 3 (some .int) :: wALL
def wsX7_begin : List Cond := .code yX7_begin cX7_begin 2 (some .boolean) :: wALL
def wsX7_better : List Cond := .code yX7_better cX7_better 6 (some .int) :: wALL
def wsX7_canLast : List Cond := .code yX7_canLast cX7_canLast 2 (some .boolean) :: wALL
def wsX7_canWalk : List Cond := .code yX7_canWalk cX7_canWalk 2 (some .boolean) :: wALL
def wsX7_cell : List Cond := .code yX7_cell cX7_cell 2 (some .int) :: wALL
def wsX7_comparable : List Cond := .code yX7_comparable cX7_comparable 2 (some .boolean) :: wALL
def wsX7_cost : List Cond := .code yX7_cost cX7_cost 3 (some .int) :: wALL
def wsX7_count : List Cond := .code yX7_count cX7_count 2 (some .int) :: wALL
def wsX7_falls : List Cond := .code yX7_falls cX7_falls 2 (some .int) :: wALL
def wsX7_feed : List Cond := .code yX7_feed cX7_feed 7 (some .int) :: wALL
def wsX7_first : List Cond := .code yX7_first cX7_first 3 (some .int) :: wALL
def wsX7_firstToFall : List Cond := .code yX7_firstToFall cX7_firstToFall 5 (some .int) :: wALL
def wsX7_fresh : List Cond := .code yX7_fresh cX7_fresh 1 (some .boolean) :: wALL
def wsX7_init : List Cond := .code yX7_init cX7_init 2 none :: wALL
def wsX7_input : List Cond := .code yX7_input cX7_input 3 (some .int) :: wALL
def wsX7_inputs : List Cond := .code yX7_inputs cX7_inputs 1 (some .int) :: wALL
def wsX7_lasting : List Cond := .code yX7_lasting cX7_lasting 2 (some .int) :: wALL
def wsX7_lasts : List Cond := .code yX7_lasts cX7_lasts 4 (some .int) :: wALL
def wsX7_lay : List Cond := .code yX7_lay cX7_lay 4 (some .boolean) :: wALL
def wsX7_line : List Cond := .code yX7_line cX7_line 3 (some .int) :: wALL
def wsX7_mark : List Cond := .code yX7_mark cX7_mark 3 (some .boolean) :: wALL
def wsX7_most : List Cond := .code yX7_most cX7_most 3 (some .int) :: wALL
def wsX7_never : List Cond := .code yX7_never cX7_never 3 (some .int) :: wALL
def wsX7_programme : List Cond := .code yX7_programme cX7_programme 2 (some .int) :: wALL
def wsX7_rounds : List Cond := .code yX7_rounds cX7_rounds 3 (some .int) :: wALL
def wsX7_run : List Cond := .code yX7_run cX7_run 3 (some .int) :: wALL
def wsX7_same : List Cond := .code yX7_same cX7_same 4 (some .int) :: wALL
def wsX7_state : List Cond := .code yX7_state cX7_state 2 (some .int) :: wALL
def wsX7_steps : List Cond := .code yX7_steps cX7_steps 2 (some .int) :: wALL
def wsX7_stepsIfMended : List Cond := .code yX7_stepsIfMended cX7_stepsIfMended 2 (some .int) :: wALL
def wsX7_stuff : List Cond := .code yX7_stuff cX7_stuff 3 (some .int) :: wALL
def wsX7_surveyed : List Cond := .code yX7_surveyed cX7_surveyed 3 (some .boolean) :: wALL
def wsX7_walk : List Cond := .code yX7_walk cX7_walk 4 none :: wALL
def wsX7_within : List Cond := .code yX7_within cX7_within 2 (some .boolean) :: []
def wsX7_wrote : List Cond := .code yX7_wrote cX7_wrote 2 (some .int) :: wALL
def wsX8_actAt : List Cond := .code yX8_actAt cX8_actAt 1 (some .int) :: wALL
def wsX8_apart : List Cond := .code yX8_apart cX8_apart 2 (some .int) :: wALL
def wsX8_bearsOf : List Cond := .code yX8_bearsOf cX8_bearsOf 2 (some .int) :: wALL
def wsX8_begin : List Cond := .code yX8_begin cX8_begin 3 (some .boolean) :: wALL
def wsX8_begins : List Cond := .code yX8_begins cX8_begins 5 none :: wALL
def wsX8_beginsWith : List Cond := .code yX8_beginsWith cX8_beginsWith 5 (some .int) :: wALL
def wsX8_better : List Cond := .code yX8_better cX8_better 5 (some .int) :: wALL
def wsX8_cell : List Cond := .code yX8_cell cX8_cell 2 (some .int) :: wALL
def wsX8_cellOf : List Cond := .code yX8_cellOf cX8_cellOf 2 (some .int) :: wALL
def wsX8_cost : List Cond := .code yX8_cost cX8_cost 3 (some .int) :: wALL
def wsX8_count : List Cond := .code yX8_count cX8_count 2 (some .int) :: wALL
def wsX8_ends : List Cond := .code yX8_ends cX8_ends 1 (some .boolean) :: wALL
def wsX8_fails : List Cond := .code yX8_fails cX8_fails 2 (some .boolean) :: wALL
def wsX8_falls : List Cond := .code yX8_falls cX8_falls 2 (some .int) :: wALL
def wsX8_feed : List Cond := .code yX8_feed cX8_feed 11 (some .int) :: wALL
def wsX8_first : List Cond := .code yX8_first cX8_first 6 (some .int) :: wALL
def wsX8_fresh : List Cond := .code yX8_fresh cX8_fresh 2 (some .boolean) :: wALL
def wsX8_freshens : List Cond := .code yX8_freshens cX8_freshens 2 none :: wALL
def wsX8_goesOn : List Cond := .code yX8_goesOn cX8_goesOn 3 none :: wALL
def wsX8_init : List Cond := .code yX8_init cX8_init 1 none :: wALL
def wsX8_input : List Cond := .code yX8_input cX8_input 3 (some .int) :: wALL
def wsX8_inputs : List Cond := .code yX8_inputs cX8_inputs 1 (some .int) :: wALL
def wsX8_inputsOf : List Cond := .code yX8_inputsOf cX8_inputsOf 2 (some .int) :: wALL
def wsX8_isCell : List Cond := .code yX8_isCell cX8_isCell 2 (some .boolean) :: wALL
def wsX8_isEndless : List Cond := .code yX8_isEndless cX8_isEndless 1 (some .boolean) :: wALL
def wsX8_isInput : List Cond := .code yX8_isInput cX8_isInput 2 (some .boolean) :: wALL
def wsX8_isKept : List Cond := .code yX8_isKept cX8_isKept 1 (some .boolean) :: wALL
def wsX8_isLasting : List Cond := .code yX8_isLasting cX8_isLasting 8 (some .boolean) :: wALL
def wsX8_isLine : List Cond := .code yX8_isLine cX8_isLine 2 (some .boolean) :: wALL
def wsX8_isSign : List Cond := .code yX8_isSign cX8_isSign 2 (some .boolean) :: wALL
def wsX8_isStuff : List Cond := .code yX8_isStuff cX8_isStuff 2 (some .boolean) :: wALL
def wsX8_isWord : List Cond := .code yX8_isWord cX8_isWord 3 (some .boolean) :: wALL
def wsX8_keeps : List Cond := .code yX8_keeps cX8_keeps 4 (some .int) :: wALL
def wsX8_keepsRow : List Cond := .code yX8_keepsRow cX8_keepsRow 5 none :: wALL
def wsX8_lasting : List Cond := .code yX8_lasting cX8_lasting 2 (some .int) :: wALL
def wsX8_lasts : List Cond := .code yX8_lasts cX8_lasts 7 (some .int) :: wALL
def wsX8_lastsBy : List Cond := .code yX8_lastsBy cX8_lastsBy 5 (some .int) :: wALL
def wsX8_lay : List Cond := .code yX8_lay cX8_lay 4 (some .boolean) :: wALL
def wsX8_layCost : List Cond := .code yX8_layCost cX8_layCost 4 (some .int) :: wALL
def wsX8_lays : List Cond := .code yX8_lays cX8_lays 4 none :: wALL
def wsX8_line : List Cond := .code yX8_line cX8_line 3 (some .int) :: wALL
def wsX8_lineOf : List Cond := .code yX8_lineOf cX8_lineOf 4 (some .int) :: wALL
def wsX8_manyOf : List Cond := .code yX8_manyOf cX8_manyOf 3 (some .int) :: wALL
def wsX8_mark : List Cond := .code yX8_mark cX8_mark 3 (some .boolean) :: wALL
def wsX8_most : List Cond := .code yX8_most cX8_most 3 (some .int) :: wALL
def wsX8_moves : List Cond := .code yX8_moves cX8_moves 5 none :: []
def wsX8_needsCell : List Cond := .code yX8_needsCell cX8_needsCell 2 (some .boolean) :: wALL
def wsX8_needsNew : List Cond := .code yX8_needsNew cX8_needsNew 1 (some .boolean) :: wALL
def wsX8_needsNumber : List Cond := .code yX8_needsNumber cX8_needsNumber 3 (some .boolean) :: wALL
def wsX8_needsWord : List Cond := .code yX8_needsWord cX8_needsWord 3 (some .boolean) :: wALL
def wsX8_never : List Cond := .code yX8_never cX8_never 3 (some .int) :: wALL
def wsX8_nextToken : List Cond := .code yX8_nextToken cX8_nextToken 2 none :: wALL
def wsX8_opens : List Cond := .code yX8_opens cX8_opens 2 none :: wALL
def wsX8_programme : List Cond := .code yX8_programme cX8_programme 2 (some .int) :: wALL
def wsX8_puts : List Cond := .code yX8_puts cX8_puts 2 none :: wALL
def wsX8_readsAct : List Cond := .code yX8_readsAct cX8_readsAct 3 (some .boolean) :: wALL
def wsX8_readsAll : List Cond := .code yX8_readsAll cX8_readsAll 2 (some .boolean) :: wALL
def wsX8_readsCell : List Cond := .code yX8_readsCell cX8_readsCell 1 (some .boolean) :: wALL
def wsX8_readsE : List Cond := .code yX8_readsE cX8_readsE 7 (some .boolean) :: wALL
def wsX8_readsInput : List Cond := .code yX8_readsInput cX8_readsInput 3 (some .boolean) :: wALL
def wsX8_readsLine : List Cond := .code yX8_readsLine cX8_readsLine 2 (some .boolean) :: wALL
def wsX8_readsStuff : List Cond := .code yX8_readsStuff cX8_readsStuff 2 (some .boolean) :: wALL
def wsX8_rounds : List Cond := .code yX8_rounds cX8_rounds 3 (some .int) :: wALL
def wsX8_run : List Cond := .code yX8_run cX8_run 4 (some .int) :: wALL
def wsX8_same : List Cond := .code yX8_same cX8_same 4 (some .int) :: wALL
def wsX8_signAt : List Cond := .code yX8_signAt cX8_signAt 2 (some .int) :: wALL
def wsX8_state : List Cond := .code yX8_state cX8_state 2 (some .int) :: wALL
def wsX8_steps : List Cond := .code yX8_steps cX8_steps 2 (some .int) :: wALL
def wsX8_stepsOn : List Cond := .code yX8_stepsOn cX8_stepsOn 6 none :: wALL
def wsX8_stuff : List Cond := .code yX8_stuff cX8_stuff 3 (some .int) :: wALL
def wsX8_stuffOf : List Cond := .code yX8_stuffOf cX8_stuffOf 2 (some .int) :: wALL
def wsX8_sums : List Cond := .code yX8_sums cX8_sums 2 none :: wALL
def wsX8_takesUp : List Cond := .code yX8_takesUp cX8_takesUp 2 none :: wALL
def wsX8_tests : List Cond := .code yX8_tests cX8_tests 3 none :: wALL
def wsX8_tries : List Cond := .code yX8_tries cX8_tries 4 none :: wALL
def wsX8_wears : List Cond := .code yX8_wears cX8_wears 3 (some .boolean) :: wALL
def wsX8_within : List Cond := .code yX8_within cX8_within 3 (some .boolean) :: []
def wsX8_worked : List Cond := .code yX8_worked cX8_worked 6 (some .int) :: wALL
def wsX8_works : List Cond := .code yX8_works cX8_works 4 (some .int) :: wALL
def wsX8_wornness : List Cond := .code yX8_wornness cX8_wornness 2 (some .int) :: wALL
def wsX8_writeAlike : List Cond := .code yX8_writeAlike cX8_writeAlike 10 (some .boolean) :: wALL
def wsX8_wrote : List Cond := .code yX8_wrote cX8_wrote 2 (some .int) :: wALL
theorem gc_J7_copyOf_59c91 : GoodIn wALL wsJ7_copyOf_59c91 := gcc hw_673
theorem gc_J7_fill_53178 : GoodIn wALL wsJ7_fill_53178 := gc1 hw_674
theorem gc_X0_choose : GoodIn wALL wsX0_choose := gcc hw_675
theorem gc_X0_find : GoodIn wALL wsX0_find := gcc hw_676
theorem gc_X0_init : GoodIn wALL wsX0_init := gcc hw_677
theorem gc_X0_leastCost : GoodIn wALL wsX0_leastCost := gcc hw_678
theorem gc_X0_make : GoodIn wALL wsX0_make := gcc hw_679
theorem gc_X1_bearing : GoodIn wALL wsX1_bearing := gcc hw_680
theorem gc_X1_copy : GoodIn wALL wsX1_copy := gcc hw_681
theorem gc_X1_fallIfHole : GoodIn wALL wsX1_fallIfHole := gcc hw_682
theorem gc_X1_go : GoodIn wALL wsX1_go := gcc hw_683
theorem gc_X1_init : GoodIn wALL wsX1_init := gcc hw_684
theorem gc_X1_isEndless : GoodIn wALL wsX1_isEndless := gcc hw_685
theorem gc_X1_joined : GoodIn wALL wsX1_joined := gc1 hw_686
theorem gc_X1_layLike : GoodIn wALL wsX1_layLike := gcc hw_687
theorem gc_X1_lineOf : GoodIn wALL wsX1_lineOf := gcc hw_688
theorem gc_X1_mend : GoodIn wALL wsX1_mend := gcc hw_689
theorem gc_X1_reckon : GoodIn wALL wsX1_reckon := gcc hw_690
theorem gc_X1_start : GoodIn wALL wsX1_start := gcc hw_691
theorem gc_X1_step : GoodIn wALL wsX1_step := gcc hw_692
theorem gc_X1_takeAsTold : GoodIn wALL wsX1_takeAsTold := gcc hw_693
theorem gc_X1_work : GoodIn wALL wsX1_work := gcc hw_694
theorem gc_X1_write : GoodIn wALL wsX1_write := gcc hw_695
theorem gc_X1_wroteLike : GoodIn wALL wsX1_wroteLike := gcc hw_696
theorem gc_X2_atFirst : GoodIn wALL wsX2_atFirst := gcc hw_697
theorem gc_X2_init : GoodIn wALL wsX2_init := gcc hw_698
theorem gc_X2_inputCount : GoodIn wALL wsX2_inputCount := gcc hw_699
theorem gc_X2_width : GoodIn wALL wsX2_width := gcc hw_700
theorem gc_X3_advance : GoodIn wALL wsX3_advance := gcc hw_701
theorem gc_X3_beginsPart : GoodIn wALL wsX3_beginsPart := gcc hw_702
theorem gc_X3_expect : GoodIn wALL wsX3_expect := gcc hw_703
theorem gc_X3_expression : GoodIn wALL wsX3_expression := gcc hw_704
theorem gc_X3_fail : GoodIn wALL wsX3_fail := gcc hw_705
theorem gc_X3_find : GoodIn wALL wsX3_find := gcc hw_706
theorem gc_X3_init : GoodIn wALL wsX3_init := gcc hw_707
theorem gc_X3_isGiven : GoodIn wALL wsX3_isGiven := gcc hw_708
theorem gc_X3_numberHere : GoodIn wALL wsX3_numberHere := gcc hw_709
theorem gc_X3_part : GoodIn wALL wsX3_part := gcc hw_710
theorem gc_X3_put : GoodIn wALL wsX3_put := gcc hw_711
theorem gc_X3_read : GoodIn wALL wsX3_read := gcc hw_712
theorem gc_X3_takeCell : GoodIn wALL wsX3_takeCell := gcc hw_713
theorem gc_X3_takeNewName : GoodIn wALL wsX3_takeNewName := gcc hw_714
theorem gc_X3_takeNumber : GoodIn wALL wsX3_takeNumber := gcc hw_715
theorem gc_X3_takeStuff : GoodIn wALL wsX3_takeStuff := gcc hw_716
theorem gc_X3_tellAct : GoodIn wALL wsX3_tellAct := gcc hw_717
theorem gc_X3_tellCell : GoodIn wALL wsX3_tellCell := gcc hw_718
theorem gc_X3_tellInput : GoodIn wALL wsX3_tellInput := gcc hw_719
theorem gc_X3_tellLine : GoodIn wALL wsX3_tellLine := gcc hw_720
theorem gc_X3_tellStuff : GoodIn wALL wsX3_tellStuff := gcc hw_721
theorem gc_X3_toldHere : GoodIn wALL wsX3_toldHere := gcc hw_722
theorem gc_X4_add : GoodIn wALL wsX4_add := gcc hw_723
theorem gc_X4_init : GoodIn wALL wsX4_init := gcc hw_724
theorem gc_X4_open : GoodIn wALL wsX4_open := gcc hw_725
theorem gc_X5_add : GoodIn wALL wsX5_add := gcc hw_726
theorem gc_X5_addBytes : GoodIn wALL wsX5_addBytes := gcc hw_727
theorem gc_X5_addNumber : GoodIn wALL wsX5_addNumber := gcc hw_728
theorem gc_X5_addWord : GoodIn wALL wsX5_addWord := gcc hw_729
theorem gc_X5_init : GoodIn wALL wsX5_init := gcc hw_730
theorem gc_X5_isBlank : GoodIn wALL wsX5_isBlank := gc1 hw_731
theorem gc_X5_kindOf : GoodIn wALL wsX5_kindOf := gc1 hw_732
theorem gc_X5_spelled : GoodIn wALL wsX5_spelled := gcc hw_733
theorem gc_X5_split : GoodIn wALL wsX5_split := gcc hw_734
theorem gc_X5_splitOne : GoodIn wALL wsX5_splitOne := gcc hw_735
theorem gc_X7_canLast : GoodIn wALL wsX7_canLast := gcc hw_736
theorem gc_X7_canWalk : GoodIn wALL wsX7_canWalk := gcc hw_737
theorem gc_X7_comparable : GoodIn wALL wsX7_comparable := gcc hw_738
theorem gc_X7_firstToFall : GoodIn wALL wsX7_firstToFall := gcc hw_739
theorem gc_X7_stepsIfMended : GoodIn wALL wsX7_stepsIfMended := gcc hw_740
theorem gc_X7_surveyed : GoodIn wALL wsX7_surveyed := gcc hw_741
theorem gc_X7_walk : GoodIn wALL wsX7_walk := gcc hw_742
theorem gc_X7_within : GoodIn wALL wsX7_within := gc1 hw_743
theorem gc_X8_actAt : GoodIn wALL wsX8_actAt := gcc hw_744
theorem gc_X8_bearsOf : GoodIn wALL wsX8_bearsOf := gcc hw_745
theorem gc_X8_begins : GoodIn wALL wsX8_begins := gcc hw_746
theorem gc_X8_beginsWith : GoodIn wALL wsX8_beginsWith := gcc hw_747
theorem gc_X8_cellOf : GoodIn wALL wsX8_cellOf := gcc hw_748
theorem gc_X8_ends : GoodIn wALL wsX8_ends := gcc hw_749
theorem gc_X8_fails : GoodIn wALL wsX8_fails := gcc hw_750
theorem gc_X8_freshens : GoodIn wALL wsX8_freshens := gcc hw_751
theorem gc_X8_goesOn : GoodIn wALL wsX8_goesOn := gcc hw_752
theorem gc_X8_inputsOf : GoodIn wALL wsX8_inputsOf := gcc hw_753
theorem gc_X8_isCell : GoodIn wALL wsX8_isCell := gcc hw_754
theorem gc_X8_isEndless : GoodIn wALL wsX8_isEndless := gcc hw_755
theorem gc_X8_isInput : GoodIn wALL wsX8_isInput := gcc hw_756
theorem gc_X8_isKept : GoodIn wALL wsX8_isKept := gcc hw_757
theorem gc_X8_isLasting : GoodIn wALL wsX8_isLasting := gcc hw_758
theorem gc_X8_isLine : GoodIn wALL wsX8_isLine := gcc hw_759
theorem gc_X8_isSign : GoodIn wALL wsX8_isSign := gcc hw_760
theorem gc_X8_isStuff : GoodIn wALL wsX8_isStuff := gcc hw_761
theorem gc_X8_isWord : GoodIn wALL wsX8_isWord := gcc hw_762
theorem gc_X8_keeps : GoodIn wALL wsX8_keeps := gcc hw_763
theorem gc_X8_keepsRow : GoodIn wALL wsX8_keepsRow := gcc hw_764
theorem gc_X8_lastsBy : GoodIn wALL wsX8_lastsBy := gcc hw_765
theorem gc_X8_layCost : GoodIn wALL wsX8_layCost := gcc hw_766
theorem gc_X8_lays : GoodIn wALL wsX8_lays := gcc hw_767
theorem gc_X8_lineOf : GoodIn wALL wsX8_lineOf := gcc hw_768
theorem gc_X8_manyOf : GoodIn wALL wsX8_manyOf := gcc hw_769
theorem gc_X8_moves : GoodIn wALL wsX8_moves := gc1 hw_770
theorem gc_X8_needsCell : GoodIn wALL wsX8_needsCell := gcc hw_771
theorem gc_X8_needsNew : GoodIn wALL wsX8_needsNew := gcc hw_772
theorem gc_X8_needsNumber : GoodIn wALL wsX8_needsNumber := gcc hw_773
theorem gc_X8_needsWord : GoodIn wALL wsX8_needsWord := gcc hw_774
theorem gc_X8_nextToken : GoodIn wALL wsX8_nextToken := gcc hw_775
theorem gc_X8_opens : GoodIn wALL wsX8_opens := gcc hw_776
theorem gc_X8_puts : GoodIn wALL wsX8_puts := gcc hw_777
theorem gc_X8_readsAct : GoodIn wALL wsX8_readsAct := gcc hw_778
theorem gc_X8_readsAll : GoodIn wALL wsX8_readsAll := gcc hw_779
theorem gc_X8_readsCell : GoodIn wALL wsX8_readsCell := gcc hw_780
theorem gc_X8_readsE : GoodIn wALL wsX8_readsE := gcc hw_781
theorem gc_X8_readsInput : GoodIn wALL wsX8_readsInput := gcc hw_782
theorem gc_X8_readsLine : GoodIn wALL wsX8_readsLine := gcc hw_783
theorem gc_X8_readsStuff : GoodIn wALL wsX8_readsStuff := gcc hw_784
theorem gc_X8_signAt : GoodIn wALL wsX8_signAt := gcc hw_785
theorem gc_X8_stepsOn : GoodIn wALL wsX8_stepsOn := gcc hw_786
theorem gc_X8_stuffOf : GoodIn wALL wsX8_stuffOf := gcc hw_787
theorem gc_X8_sums : GoodIn wALL wsX8_sums := gcc hw_788
theorem gc_X8_takesUp : GoodIn wALL wsX8_takesUp := gcc hw_789
theorem gc_X8_tests : GoodIn wALL wsX8_tests := gcc hw_790
theorem gc_X8_tries : GoodIn wALL wsX8_tries := gcc hw_791
theorem gc_X8_wears : GoodIn wALL wsX8_wears := gcc hw_792
theorem gc_X8_within : GoodIn wALL wsX8_within := gc1 hw_793
theorem gc_X8_worked : GoodIn wALL wsX8_worked := gcc hw_794
theorem gc_X8_works : GoodIn wALL wsX8_works := gcc hw_795
theorem gc_X8_wornness : GoodIn wALL wsX8_wornness := gcc hw_796
theorem gc_X8_writeAlike : GoodIn wALL wsX8_writeAlike := gcc hw_797
end
section
theorem hv_X0_choose : yX0_choose.cls = RX0 ∧ yX0_choose.cls ≠ "java/lang/invoke/MethodHandle" ∧ yX0_choose.cls ≠ "java/lang/invoke/VarHandle" ∧ (parseMethodDescriptor yX0_choose.desc).map (fun d => d.parameters.length) = some 2 := by decide +kernel
theorem hv_X0_find : yX0_find.cls = RX0 ∧ yX0_find.cls ≠ "java/lang/invoke/MethodHandle" ∧ yX0_find.cls ≠ "java/lang/invoke/VarHandle" ∧ (parseMethodDescriptor yX0_find.desc).map (fun d => d.parameters.length) = some 2 := by decide +kernel
theorem hv_X0_leastCost : yX0_leastCost.cls = RX0 ∧ yX0_leastCost.cls ≠ "java/lang/invoke/MethodHandle" ∧ yX0_leastCost.cls ≠ "java/lang/invoke/VarHandle" ∧ (parseMethodDescriptor yX0_leastCost.desc).map (fun d => d.parameters.length) = some 1 := by decide +kernel
theorem hv_X0_make : yX0_make.cls = RX0 ∧ yX0_make.cls ≠ "java/lang/invoke/MethodHandle" ∧ yX0_make.cls ≠ "java/lang/invoke/VarHandle" ∧ (parseMethodDescriptor yX0_make.desc).map (fun d => d.parameters.length) = some 2 := by decide +kernel
theorem hv_X1_bearing : yX1_bearing.cls = RX1 ∧ yX1_bearing.cls ≠ "java/lang/invoke/MethodHandle" ∧ yX1_bearing.cls ≠ "java/lang/invoke/VarHandle" ∧ (parseMethodDescriptor yX1_bearing.desc).map (fun d => d.parameters.length) = some 1 := by decide +kernel
theorem hv_X1_copy : yX1_copy.cls = RX1 ∧ yX1_copy.cls ≠ "java/lang/invoke/MethodHandle" ∧ yX1_copy.cls ≠ "java/lang/invoke/VarHandle" ∧ (parseMethodDescriptor yX1_copy.desc).map (fun d => d.parameters.length) = some 1 := by decide +kernel
theorem hv_X1_fallIfHole : yX1_fallIfHole.cls = RX1 ∧ yX1_fallIfHole.cls ≠ "java/lang/invoke/MethodHandle" ∧ yX1_fallIfHole.cls ≠ "java/lang/invoke/VarHandle" ∧ (parseMethodDescriptor yX1_fallIfHole.desc).map (fun d => d.parameters.length) = some 0 := by decide +kernel
theorem hv_X1_go : yX1_go.cls = RX1 ∧ yX1_go.cls ≠ "java/lang/invoke/MethodHandle" ∧ yX1_go.cls ≠ "java/lang/invoke/VarHandle" ∧ (parseMethodDescriptor yX1_go.desc).map (fun d => d.parameters.length) = some 1 := by decide +kernel
theorem hv_X1_isEndless : yX1_isEndless.cls = RX1 ∧ yX1_isEndless.cls ≠ "java/lang/invoke/MethodHandle" ∧ yX1_isEndless.cls ≠ "java/lang/invoke/VarHandle" ∧ (parseMethodDescriptor yX1_isEndless.desc).map (fun d => d.parameters.length) = some 0 := by decide +kernel
theorem hv_X1_layLike : yX1_layLike.cls = RX1 ∧ yX1_layLike.cls ≠ "java/lang/invoke/MethodHandle" ∧ yX1_layLike.cls ≠ "java/lang/invoke/VarHandle" ∧ (parseMethodDescriptor yX1_layLike.desc).map (fun d => d.parameters.length) = some 1 := by decide +kernel
theorem hv_X1_lineOf : yX1_lineOf.cls = RX1 ∧ yX1_lineOf.cls ≠ "java/lang/invoke/MethodHandle" ∧ yX1_lineOf.cls ≠ "java/lang/invoke/VarHandle" ∧ (parseMethodDescriptor yX1_lineOf.desc).map (fun d => d.parameters.length) = some 1 := by decide +kernel
theorem hv_X1_mend : yX1_mend.cls = RX1 ∧ yX1_mend.cls ≠ "java/lang/invoke/MethodHandle" ∧ yX1_mend.cls ≠ "java/lang/invoke/VarHandle" ∧ (parseMethodDescriptor yX1_mend.desc).map (fun d => d.parameters.length) = some 2 := by decide +kernel
theorem hv_X1_reckon : yX1_reckon.cls = RX1 ∧ yX1_reckon.cls ≠ "java/lang/invoke/MethodHandle" ∧ yX1_reckon.cls ≠ "java/lang/invoke/VarHandle" ∧ (parseMethodDescriptor yX1_reckon.desc).map (fun d => d.parameters.length) = some 2 := by decide +kernel
theorem hv_X1_start : yX1_start.cls = RX1 ∧ yX1_start.cls ≠ "java/lang/invoke/MethodHandle" ∧ yX1_start.cls ≠ "java/lang/invoke/VarHandle" ∧ (parseMethodDescriptor yX1_start.desc).map (fun d => d.parameters.length) = some 1 := by decide +kernel
theorem hv_X1_step : yX1_step.cls = RX1 ∧ yX1_step.cls ≠ "java/lang/invoke/MethodHandle" ∧ yX1_step.cls ≠ "java/lang/invoke/VarHandle" ∧ (parseMethodDescriptor yX1_step.desc).map (fun d => d.parameters.length) = some 0 := by decide +kernel
theorem hv_X1_takeAsTold : yX1_takeAsTold.cls = RX1 ∧ yX1_takeAsTold.cls ≠ "java/lang/invoke/MethodHandle" ∧ yX1_takeAsTold.cls ≠ "java/lang/invoke/VarHandle" ∧ (parseMethodDescriptor yX1_takeAsTold.desc).map (fun d => d.parameters.length) = some 1 := by decide +kernel
theorem hv_X1_work : yX1_work.cls = RX1 ∧ yX1_work.cls ≠ "java/lang/invoke/MethodHandle" ∧ yX1_work.cls ≠ "java/lang/invoke/VarHandle" ∧ (parseMethodDescriptor yX1_work.desc).map (fun d => d.parameters.length) = some 1 := by decide +kernel
theorem hv_X1_write : yX1_write.cls = RX1 ∧ yX1_write.cls ≠ "java/lang/invoke/MethodHandle" ∧ yX1_write.cls ≠ "java/lang/invoke/VarHandle" ∧ (parseMethodDescriptor yX1_write.desc).map (fun d => d.parameters.length) = some 1 := by decide +kernel
theorem hv_X1_wroteLike : yX1_wroteLike.cls = RX1 ∧ yX1_wroteLike.cls ≠ "java/lang/invoke/MethodHandle" ∧ yX1_wroteLike.cls ≠ "java/lang/invoke/VarHandle" ∧ (parseMethodDescriptor yX1_wroteLike.desc).map (fun d => d.parameters.length) = some 1 := by decide +kernel
theorem hv_X2_atFirst : yX2_atFirst.cls = RX2 ∧ yX2_atFirst.cls ≠ "java/lang/invoke/MethodHandle" ∧ yX2_atFirst.cls ≠ "java/lang/invoke/VarHandle" ∧ (parseMethodDescriptor yX2_atFirst.desc).map (fun d => d.parameters.length) = some 2 := by decide +kernel
theorem hv_X2_inputCount : yX2_inputCount.cls = RX2 ∧ yX2_inputCount.cls ≠ "java/lang/invoke/MethodHandle" ∧ yX2_inputCount.cls ≠ "java/lang/invoke/VarHandle" ∧ (parseMethodDescriptor yX2_inputCount.desc).map (fun d => d.parameters.length) = some 0 := by decide +kernel
theorem hv_X2_width : yX2_width.cls = RX2 ∧ yX2_width.cls ≠ "java/lang/invoke/MethodHandle" ∧ yX2_width.cls ≠ "java/lang/invoke/VarHandle" ∧ (parseMethodDescriptor yX2_width.desc).map (fun d => d.parameters.length) = some 1 := by decide +kernel
theorem hv_X3_advance : yX3_advance.cls = RX3 ∧ yX3_advance.cls ≠ "java/lang/invoke/MethodHandle" ∧ yX3_advance.cls ≠ "java/lang/invoke/VarHandle" ∧ (parseMethodDescriptor yX3_advance.desc).map (fun d => d.parameters.length) = some 0 := by decide +kernel
theorem hv_X3_expect : yX3_expect.cls = RX3 ∧ yX3_expect.cls ≠ "java/lang/invoke/MethodHandle" ∧ yX3_expect.cls ≠ "java/lang/invoke/VarHandle" ∧ (parseMethodDescriptor yX3_expect.desc).map (fun d => d.parameters.length) = some 1 := by decide +kernel
theorem hv_X3_expression : yX3_expression.cls = RX3 ∧ yX3_expression.cls ≠ "java/lang/invoke/MethodHandle" ∧ yX3_expression.cls ≠ "java/lang/invoke/VarHandle" ∧ (parseMethodDescriptor yX3_expression.desc).map (fun d => d.parameters.length) = some 2 := by decide +kernel
theorem hv_X3_fail : yX3_fail.cls = RX3 ∧ yX3_fail.cls ≠ "java/lang/invoke/MethodHandle" ∧ yX3_fail.cls ≠ "java/lang/invoke/VarHandle" ∧ (parseMethodDescriptor yX3_fail.desc).map (fun d => d.parameters.length) = some 1 := by decide +kernel
theorem hv_X3_find : yX3_find.cls = RX3 ∧ yX3_find.cls ≠ "java/lang/invoke/MethodHandle" ∧ yX3_find.cls ≠ "java/lang/invoke/VarHandle" ∧ (parseMethodDescriptor yX3_find.desc).map (fun d => d.parameters.length) = some 2 := by decide +kernel
theorem hv_X3_isGiven : yX3_isGiven.cls = RX3 ∧ yX3_isGiven.cls ≠ "java/lang/invoke/MethodHandle" ∧ yX3_isGiven.cls ≠ "java/lang/invoke/VarHandle" ∧ (parseMethodDescriptor yX3_isGiven.desc).map (fun d => d.parameters.length) = some 1 := by decide +kernel
theorem hv_X3_numberHere : yX3_numberHere.cls = RX3 ∧ yX3_numberHere.cls ≠ "java/lang/invoke/MethodHandle" ∧ yX3_numberHere.cls ≠ "java/lang/invoke/VarHandle" ∧ (parseMethodDescriptor yX3_numberHere.desc).map (fun d => d.parameters.length) = some 2 := by decide +kernel
theorem hv_X3_part : yX3_part.cls = RX3 ∧ yX3_part.cls ≠ "java/lang/invoke/MethodHandle" ∧ yX3_part.cls ≠ "java/lang/invoke/VarHandle" ∧ (parseMethodDescriptor yX3_part.desc).map (fun d => d.parameters.length) = some 1 := by decide +kernel
theorem hv_X3_put : yX3_put.cls = RX3 ∧ yX3_put.cls ≠ "java/lang/invoke/MethodHandle" ∧ yX3_put.cls ≠ "java/lang/invoke/VarHandle" ∧ (parseMethodDescriptor yX3_put.desc).map (fun d => d.parameters.length) = some 2 := by decide +kernel
theorem hv_X3_read : yX3_read.cls = RX3 ∧ yX3_read.cls ≠ "java/lang/invoke/MethodHandle" ∧ yX3_read.cls ≠ "java/lang/invoke/VarHandle" ∧ (parseMethodDescriptor yX3_read.desc).map (fun d => d.parameters.length) = some 0 := by decide +kernel
theorem hv_X3_takeCell : yX3_takeCell.cls = RX3 ∧ yX3_takeCell.cls ≠ "java/lang/invoke/MethodHandle" ∧ yX3_takeCell.cls ≠ "java/lang/invoke/VarHandle" ∧ (parseMethodDescriptor yX3_takeCell.desc).map (fun d => d.parameters.length) = some 0 := by decide +kernel
theorem hv_X3_takeNewName : yX3_takeNewName.cls = RX3 ∧ yX3_takeNewName.cls ≠ "java/lang/invoke/MethodHandle" ∧ yX3_takeNewName.cls ≠ "java/lang/invoke/VarHandle" ∧ (parseMethodDescriptor yX3_takeNewName.desc).map (fun d => d.parameters.length) = some 0 := by decide +kernel
theorem hv_X3_takeNumber : yX3_takeNumber.cls = RX3 ∧ yX3_takeNumber.cls ≠ "java/lang/invoke/MethodHandle" ∧ yX3_takeNumber.cls ≠ "java/lang/invoke/VarHandle" ∧ (parseMethodDescriptor yX3_takeNumber.desc).map (fun d => d.parameters.length) = some 2 := by decide +kernel
theorem hv_X3_takeStuff : yX3_takeStuff.cls = RX3 ∧ yX3_takeStuff.cls ≠ "java/lang/invoke/MethodHandle" ∧ yX3_takeStuff.cls ≠ "java/lang/invoke/VarHandle" ∧ (parseMethodDescriptor yX3_takeStuff.desc).map (fun d => d.parameters.length) = some 0 := by decide +kernel
theorem hv_X3_tellAct : yX3_tellAct.cls = RX3 ∧ yX3_tellAct.cls ≠ "java/lang/invoke/MethodHandle" ∧ yX3_tellAct.cls ≠ "java/lang/invoke/VarHandle" ∧ (parseMethodDescriptor yX3_tellAct.desc).map (fun d => d.parameters.length) = some 1 := by decide +kernel
theorem hv_X3_tellCell : yX3_tellCell.cls = RX3 ∧ yX3_tellCell.cls ≠ "java/lang/invoke/MethodHandle" ∧ yX3_tellCell.cls ≠ "java/lang/invoke/VarHandle" ∧ (parseMethodDescriptor yX3_tellCell.desc).map (fun d => d.parameters.length) = some 0 := by decide +kernel
theorem hv_X3_tellInput : yX3_tellInput.cls = RX3 ∧ yX3_tellInput.cls ≠ "java/lang/invoke/MethodHandle" ∧ yX3_tellInput.cls ≠ "java/lang/invoke/VarHandle" ∧ (parseMethodDescriptor yX3_tellInput.desc).map (fun d => d.parameters.length) = some 0 := by decide +kernel
theorem hv_X3_tellLine : yX3_tellLine.cls = RX3 ∧ yX3_tellLine.cls ≠ "java/lang/invoke/MethodHandle" ∧ yX3_tellLine.cls ≠ "java/lang/invoke/VarHandle" ∧ (parseMethodDescriptor yX3_tellLine.desc).map (fun d => d.parameters.length) = some 0 := by decide +kernel
theorem hv_X3_tellStuff : yX3_tellStuff.cls = RX3 ∧ yX3_tellStuff.cls ≠ "java/lang/invoke/MethodHandle" ∧ yX3_tellStuff.cls ≠ "java/lang/invoke/VarHandle" ∧ (parseMethodDescriptor yX3_tellStuff.desc).map (fun d => d.parameters.length) = some 0 := by decide +kernel
theorem hv_X3_toldHere : yX3_toldHere.cls = RX3 ∧ yX3_toldHere.cls ≠ "java/lang/invoke/MethodHandle" ∧ yX3_toldHere.cls ≠ "java/lang/invoke/VarHandle" ∧ (parseMethodDescriptor yX3_toldHere.desc).map (fun d => d.parameters.length) = some 2 := by decide +kernel
theorem hv_X4_add : yX4_add.cls = RX4 ∧ yX4_add.cls ≠ "java/lang/invoke/MethodHandle" ∧ yX4_add.cls ≠ "java/lang/invoke/VarHandle" ∧ (parseMethodDescriptor yX4_add.desc).map (fun d => d.parameters.length) = some 2 := by decide +kernel
theorem hv_X4_open : yX4_open.cls = RX4 ∧ yX4_open.cls ≠ "java/lang/invoke/MethodHandle" ∧ yX4_open.cls ≠ "java/lang/invoke/VarHandle" ∧ (parseMethodDescriptor yX4_open.desc).map (fun d => d.parameters.length) = some 1 := by decide +kernel
theorem hv_X5_add : yX5_add.cls = RX5 ∧ yX5_add.cls ≠ "java/lang/invoke/MethodHandle" ∧ yX5_add.cls ≠ "java/lang/invoke/VarHandle" ∧ (parseMethodDescriptor yX5_add.desc).map (fun d => d.parameters.length) = some 3 := by decide +kernel
theorem hv_X5_addBytes : yX5_addBytes.cls = RX5 ∧ yX5_addBytes.cls ≠ "java/lang/invoke/MethodHandle" ∧ yX5_addBytes.cls ≠ "java/lang/invoke/VarHandle" ∧ (parseMethodDescriptor yX5_addBytes.desc).map (fun d => d.parameters.length) = some 1 := by decide +kernel
theorem hv_X5_addNumber : yX5_addNumber.cls = RX5 ∧ yX5_addNumber.cls ≠ "java/lang/invoke/MethodHandle" ∧ yX5_addNumber.cls ≠ "java/lang/invoke/VarHandle" ∧ (parseMethodDescriptor yX5_addNumber.desc).map (fun d => d.parameters.length) = some 2 := by decide +kernel
theorem hv_X5_addWord : yX5_addWord.cls = RX5 ∧ yX5_addWord.cls ≠ "java/lang/invoke/MethodHandle" ∧ yX5_addWord.cls ≠ "java/lang/invoke/VarHandle" ∧ (parseMethodDescriptor yX5_addWord.desc).map (fun d => d.parameters.length) = some 2 := by decide +kernel
theorem hv_X5_split : yX5_split.cls = RX5 ∧ yX5_split.cls ≠ "java/lang/invoke/MethodHandle" ∧ yX5_split.cls ≠ "java/lang/invoke/VarHandle" ∧ (parseMethodDescriptor yX5_split.desc).map (fun d => d.parameters.length) = some 0 := by decide +kernel
theorem hv_X5_splitOne : yX5_splitOne.cls = RX5 ∧ yX5_splitOne.cls ≠ "java/lang/invoke/MethodHandle" ∧ yX5_splitOne.cls ≠ "java/lang/invoke/VarHandle" ∧ (parseMethodDescriptor yX5_splitOne.desc).map (fun d => d.parameters.length) = some 1 := by decide +kernel
theorem hv_X7_apart : yX7_apart.cls = RX7 ∧ yX7_apart.cls ≠ "java/lang/invoke/MethodHandle" ∧ yX7_apart.cls ≠ "java/lang/invoke/VarHandle" ∧ (parseMethodDescriptor yX7_apart.desc).map (fun d => d.parameters.length) = some 0 := by decide +kernel
theorem hv_X7_begin : yX7_begin.cls = RX7 ∧ yX7_begin.cls ≠ "java/lang/invoke/MethodHandle" ∧ yX7_begin.cls ≠ "java/lang/invoke/VarHandle" ∧ (parseMethodDescriptor yX7_begin.desc).map (fun d => d.parameters.length) = some 1 := by decide +kernel
theorem hv_X7_better : yX7_better.cls = RX7 ∧ yX7_better.cls ≠ "java/lang/invoke/MethodHandle" ∧ yX7_better.cls ≠ "java/lang/invoke/VarHandle" ∧ (parseMethodDescriptor yX7_better.desc).map (fun d => d.parameters.length) = some 1 := by decide +kernel
theorem hv_X7_canLast : yX7_canLast.cls = RX7 ∧ yX7_canLast.cls ≠ "java/lang/invoke/MethodHandle" ∧ yX7_canLast.cls ≠ "java/lang/invoke/VarHandle" ∧ (parseMethodDescriptor yX7_canLast.desc).map (fun d => d.parameters.length) = some 1 := by decide +kernel
theorem hv_X7_canWalk : yX7_canWalk.cls = RX7 ∧ yX7_canWalk.cls ≠ "java/lang/invoke/MethodHandle" ∧ yX7_canWalk.cls ≠ "java/lang/invoke/VarHandle" ∧ (parseMethodDescriptor yX7_canWalk.desc).map (fun d => d.parameters.length) = some 1 := by decide +kernel
theorem hv_X7_cell : yX7_cell.cls = RX7 ∧ yX7_cell.cls ≠ "java/lang/invoke/MethodHandle" ∧ yX7_cell.cls ≠ "java/lang/invoke/VarHandle" ∧ (parseMethodDescriptor yX7_cell.desc).map (fun d => d.parameters.length) = some 1 := by decide +kernel
theorem hv_X7_comparable : yX7_comparable.cls = RX7 ∧ yX7_comparable.cls ≠ "java/lang/invoke/MethodHandle" ∧ yX7_comparable.cls ≠ "java/lang/invoke/VarHandle" ∧ (parseMethodDescriptor yX7_comparable.desc).map (fun d => d.parameters.length) = some 1 := by decide +kernel
theorem hv_X7_cost : yX7_cost.cls = RX7 ∧ yX7_cost.cls ≠ "java/lang/invoke/MethodHandle" ∧ yX7_cost.cls ≠ "java/lang/invoke/VarHandle" ∧ (parseMethodDescriptor yX7_cost.desc).map (fun d => d.parameters.length) = some 0 := by decide +kernel
theorem hv_X7_count : yX7_count.cls = RX7 ∧ yX7_count.cls ≠ "java/lang/invoke/MethodHandle" ∧ yX7_count.cls ≠ "java/lang/invoke/VarHandle" ∧ (parseMethodDescriptor yX7_count.desc).map (fun d => d.parameters.length) = some 1 := by decide +kernel
theorem hv_X7_falls : yX7_falls.cls = RX7 ∧ yX7_falls.cls ≠ "java/lang/invoke/MethodHandle" ∧ yX7_falls.cls ≠ "java/lang/invoke/VarHandle" ∧ (parseMethodDescriptor yX7_falls.desc).map (fun d => d.parameters.length) = some 1 := by decide +kernel
theorem hv_X7_feed : yX7_feed.cls = RX7 ∧ yX7_feed.cls ≠ "java/lang/invoke/MethodHandle" ∧ yX7_feed.cls ≠ "java/lang/invoke/VarHandle" ∧ (parseMethodDescriptor yX7_feed.desc).map (fun d => d.parameters.length) = some 3 := by decide +kernel
theorem hv_X7_first : yX7_first.cls = RX7 ∧ yX7_first.cls ≠ "java/lang/invoke/MethodHandle" ∧ yX7_first.cls ≠ "java/lang/invoke/VarHandle" ∧ (parseMethodDescriptor yX7_first.desc).map (fun d => d.parameters.length) = some 1 := by decide +kernel
theorem hv_X7_firstToFall : yX7_firstToFall.cls = RX7 ∧ yX7_firstToFall.cls ≠ "java/lang/invoke/MethodHandle" ∧ yX7_firstToFall.cls ≠ "java/lang/invoke/VarHandle" ∧ (parseMethodDescriptor yX7_firstToFall.desc).map (fun d => d.parameters.length) = some 0 := by decide +kernel
theorem hv_X7_fresh : yX7_fresh.cls = RX7 ∧ yX7_fresh.cls ≠ "java/lang/invoke/MethodHandle" ∧ yX7_fresh.cls ≠ "java/lang/invoke/VarHandle" ∧ (parseMethodDescriptor yX7_fresh.desc).map (fun d => d.parameters.length) = some 0 := by decide +kernel
theorem hv_X7_input : yX7_input.cls = RX7 ∧ yX7_input.cls ≠ "java/lang/invoke/MethodHandle" ∧ yX7_input.cls ≠ "java/lang/invoke/VarHandle" ∧ (parseMethodDescriptor yX7_input.desc).map (fun d => d.parameters.length) = some 2 := by decide +kernel
theorem hv_X7_inputs : yX7_inputs.cls = RX7 ∧ yX7_inputs.cls ≠ "java/lang/invoke/MethodHandle" ∧ yX7_inputs.cls ≠ "java/lang/invoke/VarHandle" ∧ (parseMethodDescriptor yX7_inputs.desc).map (fun d => d.parameters.length) = some 0 := by decide +kernel
theorem hv_X7_lasting : yX7_lasting.cls = RX7 ∧ yX7_lasting.cls ≠ "java/lang/invoke/MethodHandle" ∧ yX7_lasting.cls ≠ "java/lang/invoke/VarHandle" ∧ (parseMethodDescriptor yX7_lasting.desc).map (fun d => d.parameters.length) = some 1 := by decide +kernel
theorem hv_X7_lasts : yX7_lasts.cls = RX7 ∧ yX7_lasts.cls ≠ "java/lang/invoke/MethodHandle" ∧ yX7_lasts.cls ≠ "java/lang/invoke/VarHandle" ∧ (parseMethodDescriptor yX7_lasts.desc).map (fun d => d.parameters.length) = some 3 := by decide +kernel
theorem hv_X7_lay : yX7_lay.cls = RX7 ∧ yX7_lay.cls ≠ "java/lang/invoke/MethodHandle" ∧ yX7_lay.cls ≠ "java/lang/invoke/VarHandle" ∧ (parseMethodDescriptor yX7_lay.desc).map (fun d => d.parameters.length) = some 3 := by decide +kernel
theorem hv_X7_line : yX7_line.cls = RX7 ∧ yX7_line.cls ≠ "java/lang/invoke/MethodHandle" ∧ yX7_line.cls ≠ "java/lang/invoke/VarHandle" ∧ (parseMethodDescriptor yX7_line.desc).map (fun d => d.parameters.length) = some 2 := by decide +kernel
theorem hv_X7_mark : yX7_mark.cls = RX7 ∧ yX7_mark.cls ≠ "java/lang/invoke/MethodHandle" ∧ yX7_mark.cls ≠ "java/lang/invoke/VarHandle" ∧ (parseMethodDescriptor yX7_mark.desc).map (fun d => d.parameters.length) = some 2 := by decide +kernel
theorem hv_X7_most : yX7_most.cls = RX7 ∧ yX7_most.cls ≠ "java/lang/invoke/MethodHandle" ∧ yX7_most.cls ≠ "java/lang/invoke/VarHandle" ∧ (parseMethodDescriptor yX7_most.desc).map (fun d => d.parameters.length) = some 2 := by decide +kernel
theorem hv_X7_never : yX7_never.cls = RX7 ∧ yX7_never.cls ≠ "java/lang/invoke/MethodHandle" ∧ yX7_never.cls ≠ "java/lang/invoke/VarHandle" ∧ (parseMethodDescriptor yX7_never.desc).map (fun d => d.parameters.length) = some 0 := by decide +kernel
theorem hv_X7_programme : yX7_programme.cls = RX7 ∧ yX7_programme.cls ≠ "java/lang/invoke/MethodHandle" ∧ yX7_programme.cls ≠ "java/lang/invoke/VarHandle" ∧ (parseMethodDescriptor yX7_programme.desc).map (fun d => d.parameters.length) = some 0 := by decide +kernel
theorem hv_X7_rounds : yX7_rounds.cls = RX7 ∧ yX7_rounds.cls ≠ "java/lang/invoke/MethodHandle" ∧ yX7_rounds.cls ≠ "java/lang/invoke/VarHandle" ∧ (parseMethodDescriptor yX7_rounds.desc).map (fun d => d.parameters.length) = some 1 := by decide +kernel
theorem hv_X7_run : yX7_run.cls = RX7 ∧ yX7_run.cls ≠ "java/lang/invoke/MethodHandle" ∧ yX7_run.cls ≠ "java/lang/invoke/VarHandle" ∧ (parseMethodDescriptor yX7_run.desc).map (fun d => d.parameters.length) = some 1 := by decide +kernel
theorem hv_X7_same : yX7_same.cls = RX7 ∧ yX7_same.cls ≠ "java/lang/invoke/MethodHandle" ∧ yX7_same.cls ≠ "java/lang/invoke/VarHandle" ∧ (parseMethodDescriptor yX7_same.desc).map (fun d => d.parameters.length) = some 1 := by decide +kernel
theorem hv_X7_state : yX7_state.cls = RX7 ∧ yX7_state.cls ≠ "java/lang/invoke/MethodHandle" ∧ yX7_state.cls ≠ "java/lang/invoke/VarHandle" ∧ (parseMethodDescriptor yX7_state.desc).map (fun d => d.parameters.length) = some 1 := by decide +kernel
theorem hv_X7_steps : yX7_steps.cls = RX7 ∧ yX7_steps.cls ≠ "java/lang/invoke/MethodHandle" ∧ yX7_steps.cls ≠ "java/lang/invoke/VarHandle" ∧ (parseMethodDescriptor yX7_steps.desc).map (fun d => d.parameters.length) = some 1 := by decide +kernel
theorem hv_X7_stepsIfMended : yX7_stepsIfMended.cls = RX7 ∧ yX7_stepsIfMended.cls ≠ "java/lang/invoke/MethodHandle" ∧ yX7_stepsIfMended.cls ≠ "java/lang/invoke/VarHandle" ∧ (parseMethodDescriptor yX7_stepsIfMended.desc).map (fun d => d.parameters.length) = some 1 := by decide +kernel
theorem hv_X7_stuff : yX7_stuff.cls = RX7 ∧ yX7_stuff.cls ≠ "java/lang/invoke/MethodHandle" ∧ yX7_stuff.cls ≠ "java/lang/invoke/VarHandle" ∧ (parseMethodDescriptor yX7_stuff.desc).map (fun d => d.parameters.length) = some 2 := by decide +kernel
theorem hv_X7_surveyed : yX7_surveyed.cls = RX7 ∧ yX7_surveyed.cls ≠ "java/lang/invoke/MethodHandle" ∧ yX7_surveyed.cls ≠ "java/lang/invoke/VarHandle" ∧ (parseMethodDescriptor yX7_surveyed.desc).map (fun d => d.parameters.length) = some 0 := by decide +kernel
theorem hv_X7_wrote : yX7_wrote.cls = RX7 ∧ yX7_wrote.cls ≠ "java/lang/invoke/MethodHandle" ∧ yX7_wrote.cls ≠ "java/lang/invoke/VarHandle" ∧ (parseMethodDescriptor yX7_wrote.desc).map (fun d => d.parameters.length) = some 1 := by decide +kernel
theorem hv_X8_actAt : yX8_actAt.cls = RX8 ∧ yX8_actAt.cls ≠ "java/lang/invoke/MethodHandle" ∧ yX8_actAt.cls ≠ "java/lang/invoke/VarHandle" ∧ (parseMethodDescriptor yX8_actAt.desc).map (fun d => d.parameters.length) = some 0 := by decide +kernel
theorem hv_X8_apart : yX8_apart.cls = RX8 ∧ yX8_apart.cls ≠ "java/lang/invoke/MethodHandle" ∧ yX8_apart.cls ≠ "java/lang/invoke/VarHandle" ∧ (parseMethodDescriptor yX8_apart.desc).map (fun d => d.parameters.length) = some 0 := by decide +kernel
theorem hv_X8_bearsOf : yX8_bearsOf.cls = RX8 ∧ yX8_bearsOf.cls ≠ "java/lang/invoke/MethodHandle" ∧ yX8_bearsOf.cls ≠ "java/lang/invoke/VarHandle" ∧ (parseMethodDescriptor yX8_bearsOf.desc).map (fun d => d.parameters.length) = some 1 := by decide +kernel
theorem hv_X8_begin : yX8_begin.cls = RX8 ∧ yX8_begin.cls ≠ "java/lang/invoke/MethodHandle" ∧ yX8_begin.cls ≠ "java/lang/invoke/VarHandle" ∧ (parseMethodDescriptor yX8_begin.desc).map (fun d => d.parameters.length) = some 1 := by decide +kernel
theorem hv_X8_begins : yX8_begins.cls = RX8 ∧ yX8_begins.cls ≠ "java/lang/invoke/MethodHandle" ∧ yX8_begins.cls ≠ "java/lang/invoke/VarHandle" ∧ (parseMethodDescriptor yX8_begins.desc).map (fun d => d.parameters.length) = some 3 := by decide +kernel
theorem hv_X8_beginsWith : yX8_beginsWith.cls = RX8 ∧ yX8_beginsWith.cls ≠ "java/lang/invoke/MethodHandle" ∧ yX8_beginsWith.cls ≠ "java/lang/invoke/VarHandle" ∧ (parseMethodDescriptor yX8_beginsWith.desc).map (fun d => d.parameters.length) = some 3 := by decide +kernel
theorem hv_X8_better : yX8_better.cls = RX8 ∧ yX8_better.cls ≠ "java/lang/invoke/MethodHandle" ∧ yX8_better.cls ≠ "java/lang/invoke/VarHandle" ∧ (parseMethodDescriptor yX8_better.desc).map (fun d => d.parameters.length) = some 1 := by decide +kernel
theorem hv_X8_cell : yX8_cell.cls = RX8 ∧ yX8_cell.cls ≠ "java/lang/invoke/MethodHandle" ∧ yX8_cell.cls ≠ "java/lang/invoke/VarHandle" ∧ (parseMethodDescriptor yX8_cell.desc).map (fun d => d.parameters.length) = some 1 := by decide +kernel
theorem hv_X8_cellOf : yX8_cellOf.cls = RX8 ∧ yX8_cellOf.cls ≠ "java/lang/invoke/MethodHandle" ∧ yX8_cellOf.cls ≠ "java/lang/invoke/VarHandle" ∧ (parseMethodDescriptor yX8_cellOf.desc).map (fun d => d.parameters.length) = some 0 := by decide +kernel
theorem hv_X8_cost : yX8_cost.cls = RX8 ∧ yX8_cost.cls ≠ "java/lang/invoke/MethodHandle" ∧ yX8_cost.cls ≠ "java/lang/invoke/VarHandle" ∧ (parseMethodDescriptor yX8_cost.desc).map (fun d => d.parameters.length) = some 0 := by decide +kernel
theorem hv_X8_count : yX8_count.cls = RX8 ∧ yX8_count.cls ≠ "java/lang/invoke/MethodHandle" ∧ yX8_count.cls ≠ "java/lang/invoke/VarHandle" ∧ (parseMethodDescriptor yX8_count.desc).map (fun d => d.parameters.length) = some 1 := by decide +kernel
theorem hv_X8_ends : yX8_ends.cls = RX8 ∧ yX8_ends.cls ≠ "java/lang/invoke/MethodHandle" ∧ yX8_ends.cls ≠ "java/lang/invoke/VarHandle" ∧ (parseMethodDescriptor yX8_ends.desc).map (fun d => d.parameters.length) = some 0 := by decide +kernel
theorem hv_X8_fails : yX8_fails.cls = RX8 ∧ yX8_fails.cls ≠ "java/lang/invoke/MethodHandle" ∧ yX8_fails.cls ≠ "java/lang/invoke/VarHandle" ∧ (parseMethodDescriptor yX8_fails.desc).map (fun d => d.parameters.length) = some 1 := by decide +kernel
theorem hv_X8_falls : yX8_falls.cls = RX8 ∧ yX8_falls.cls ≠ "java/lang/invoke/MethodHandle" ∧ yX8_falls.cls ≠ "java/lang/invoke/VarHandle" ∧ (parseMethodDescriptor yX8_falls.desc).map (fun d => d.parameters.length) = some 1 := by decide +kernel
theorem hv_X8_feed : yX8_feed.cls = RX8 ∧ yX8_feed.cls ≠ "java/lang/invoke/MethodHandle" ∧ yX8_feed.cls ≠ "java/lang/invoke/VarHandle" ∧ (parseMethodDescriptor yX8_feed.desc).map (fun d => d.parameters.length) = some 3 := by decide +kernel
theorem hv_X8_first : yX8_first.cls = RX8 ∧ yX8_first.cls ≠ "java/lang/invoke/MethodHandle" ∧ yX8_first.cls ≠ "java/lang/invoke/VarHandle" ∧ (parseMethodDescriptor yX8_first.desc).map (fun d => d.parameters.length) = some 1 := by decide +kernel
theorem hv_X8_fresh : yX8_fresh.cls = RX8 ∧ yX8_fresh.cls ≠ "java/lang/invoke/MethodHandle" ∧ yX8_fresh.cls ≠ "java/lang/invoke/VarHandle" ∧ (parseMethodDescriptor yX8_fresh.desc).map (fun d => d.parameters.length) = some 0 := by decide +kernel
theorem hv_X8_freshens : yX8_freshens.cls = RX8 ∧ yX8_freshens.cls ≠ "java/lang/invoke/MethodHandle" ∧ yX8_freshens.cls ≠ "java/lang/invoke/VarHandle" ∧ (parseMethodDescriptor yX8_freshens.desc).map (fun d => d.parameters.length) = some 0 := by decide +kernel
theorem hv_X8_goesOn : yX8_goesOn.cls = RX8 ∧ yX8_goesOn.cls ≠ "java/lang/invoke/MethodHandle" ∧ yX8_goesOn.cls ≠ "java/lang/invoke/VarHandle" ∧ (parseMethodDescriptor yX8_goesOn.desc).map (fun d => d.parameters.length) = some 0 := by decide +kernel
theorem hv_X8_input : yX8_input.cls = RX8 ∧ yX8_input.cls ≠ "java/lang/invoke/MethodHandle" ∧ yX8_input.cls ≠ "java/lang/invoke/VarHandle" ∧ (parseMethodDescriptor yX8_input.desc).map (fun d => d.parameters.length) = some 2 := by decide +kernel
theorem hv_X8_inputs : yX8_inputs.cls = RX8 ∧ yX8_inputs.cls ≠ "java/lang/invoke/MethodHandle" ∧ yX8_inputs.cls ≠ "java/lang/invoke/VarHandle" ∧ (parseMethodDescriptor yX8_inputs.desc).map (fun d => d.parameters.length) = some 0 := by decide +kernel
theorem hv_X8_inputsOf : yX8_inputsOf.cls = RX8 ∧ yX8_inputsOf.cls ≠ "java/lang/invoke/MethodHandle" ∧ yX8_inputsOf.cls ≠ "java/lang/invoke/VarHandle" ∧ (parseMethodDescriptor yX8_inputsOf.desc).map (fun d => d.parameters.length) = some 1 := by decide +kernel
theorem hv_X8_isCell : yX8_isCell.cls = RX8 ∧ yX8_isCell.cls ≠ "java/lang/invoke/MethodHandle" ∧ yX8_isCell.cls ≠ "java/lang/invoke/VarHandle" ∧ (parseMethodDescriptor yX8_isCell.desc).map (fun d => d.parameters.length) = some 1 := by decide +kernel
theorem hv_X8_isEndless : yX8_isEndless.cls = RX8 ∧ yX8_isEndless.cls ≠ "java/lang/invoke/MethodHandle" ∧ yX8_isEndless.cls ≠ "java/lang/invoke/VarHandle" ∧ (parseMethodDescriptor yX8_isEndless.desc).map (fun d => d.parameters.length) = some 0 := by decide +kernel
theorem hv_X8_isInput : yX8_isInput.cls = RX8 ∧ yX8_isInput.cls ≠ "java/lang/invoke/MethodHandle" ∧ yX8_isInput.cls ≠ "java/lang/invoke/VarHandle" ∧ (parseMethodDescriptor yX8_isInput.desc).map (fun d => d.parameters.length) = some 1 := by decide +kernel
theorem hv_X8_isKept : yX8_isKept.cls = RX8 ∧ yX8_isKept.cls ≠ "java/lang/invoke/MethodHandle" ∧ yX8_isKept.cls ≠ "java/lang/invoke/VarHandle" ∧ (parseMethodDescriptor yX8_isKept.desc).map (fun d => d.parameters.length) = some 0 := by decide +kernel
theorem hv_X8_isLasting : yX8_isLasting.cls = RX8 ∧ yX8_isLasting.cls ≠ "java/lang/invoke/MethodHandle" ∧ yX8_isLasting.cls ≠ "java/lang/invoke/VarHandle" ∧ (parseMethodDescriptor yX8_isLasting.desc).map (fun d => d.parameters.length) = some 1 := by decide +kernel
theorem hv_X8_isLine : yX8_isLine.cls = RX8 ∧ yX8_isLine.cls ≠ "java/lang/invoke/MethodHandle" ∧ yX8_isLine.cls ≠ "java/lang/invoke/VarHandle" ∧ (parseMethodDescriptor yX8_isLine.desc).map (fun d => d.parameters.length) = some 1 := by decide +kernel
theorem hv_X8_isSign : yX8_isSign.cls = RX8 ∧ yX8_isSign.cls ≠ "java/lang/invoke/MethodHandle" ∧ yX8_isSign.cls ≠ "java/lang/invoke/VarHandle" ∧ (parseMethodDescriptor yX8_isSign.desc).map (fun d => d.parameters.length) = some 1 := by decide +kernel
theorem hv_X8_isStuff : yX8_isStuff.cls = RX8 ∧ yX8_isStuff.cls ≠ "java/lang/invoke/MethodHandle" ∧ yX8_isStuff.cls ≠ "java/lang/invoke/VarHandle" ∧ (parseMethodDescriptor yX8_isStuff.desc).map (fun d => d.parameters.length) = some 1 := by decide +kernel
theorem hv_X8_isWord : yX8_isWord.cls = RX8 ∧ yX8_isWord.cls ≠ "java/lang/invoke/MethodHandle" ∧ yX8_isWord.cls ≠ "java/lang/invoke/VarHandle" ∧ (parseMethodDescriptor yX8_isWord.desc).map (fun d => d.parameters.length) = some 1 := by decide +kernel
theorem hv_X8_keeps : yX8_keeps.cls = RX8 ∧ yX8_keeps.cls ≠ "java/lang/invoke/MethodHandle" ∧ yX8_keeps.cls ≠ "java/lang/invoke/VarHandle" ∧ (parseMethodDescriptor yX8_keeps.desc).map (fun d => d.parameters.length) = some 2 := by decide +kernel
theorem hv_X8_keepsRow : yX8_keepsRow.cls = RX8 ∧ yX8_keepsRow.cls ≠ "java/lang/invoke/MethodHandle" ∧ yX8_keepsRow.cls ≠ "java/lang/invoke/VarHandle" ∧ (parseMethodDescriptor yX8_keepsRow.desc).map (fun d => d.parameters.length) = some 3 := by decide +kernel
theorem hv_X8_lasting : yX8_lasting.cls = RX8 ∧ yX8_lasting.cls ≠ "java/lang/invoke/MethodHandle" ∧ yX8_lasting.cls ≠ "java/lang/invoke/VarHandle" ∧ (parseMethodDescriptor yX8_lasting.desc).map (fun d => d.parameters.length) = some 1 := by decide +kernel
theorem hv_X8_lasts : yX8_lasts.cls = RX8 ∧ yX8_lasts.cls ≠ "java/lang/invoke/MethodHandle" ∧ yX8_lasts.cls ≠ "java/lang/invoke/VarHandle" ∧ (parseMethodDescriptor yX8_lasts.desc).map (fun d => d.parameters.length) = some 3 := by decide +kernel
theorem hv_X8_lastsBy : yX8_lastsBy.cls = RX8 ∧ yX8_lastsBy.cls ≠ "java/lang/invoke/MethodHandle" ∧ yX8_lastsBy.cls ≠ "java/lang/invoke/VarHandle" ∧ (parseMethodDescriptor yX8_lastsBy.desc).map (fun d => d.parameters.length) = some 4 := by decide +kernel
theorem hv_X8_lay : yX8_lay.cls = RX8 ∧ yX8_lay.cls ≠ "java/lang/invoke/MethodHandle" ∧ yX8_lay.cls ≠ "java/lang/invoke/VarHandle" ∧ (parseMethodDescriptor yX8_lay.desc).map (fun d => d.parameters.length) = some 3 := by decide +kernel
theorem hv_X8_layCost : yX8_layCost.cls = RX8 ∧ yX8_layCost.cls ≠ "java/lang/invoke/MethodHandle" ∧ yX8_layCost.cls ≠ "java/lang/invoke/VarHandle" ∧ (parseMethodDescriptor yX8_layCost.desc).map (fun d => d.parameters.length) = some 3 := by decide +kernel
theorem hv_X8_lays : yX8_lays.cls = RX8 ∧ yX8_lays.cls ≠ "java/lang/invoke/MethodHandle" ∧ yX8_lays.cls ≠ "java/lang/invoke/VarHandle" ∧ (parseMethodDescriptor yX8_lays.desc).map (fun d => d.parameters.length) = some 2 := by decide +kernel
theorem hv_X8_line : yX8_line.cls = RX8 ∧ yX8_line.cls ≠ "java/lang/invoke/MethodHandle" ∧ yX8_line.cls ≠ "java/lang/invoke/VarHandle" ∧ (parseMethodDescriptor yX8_line.desc).map (fun d => d.parameters.length) = some 2 := by decide +kernel
theorem hv_X8_lineOf : yX8_lineOf.cls = RX8 ∧ yX8_lineOf.cls ≠ "java/lang/invoke/MethodHandle" ∧ yX8_lineOf.cls ≠ "java/lang/invoke/VarHandle" ∧ (parseMethodDescriptor yX8_lineOf.desc).map (fun d => d.parameters.length) = some 1 := by decide +kernel
theorem hv_X8_manyOf : yX8_manyOf.cls = RX8 ∧ yX8_manyOf.cls ≠ "java/lang/invoke/MethodHandle" ∧ yX8_manyOf.cls ≠ "java/lang/invoke/VarHandle" ∧ (parseMethodDescriptor yX8_manyOf.desc).map (fun d => d.parameters.length) = some 2 := by decide +kernel
theorem hv_X8_mark : yX8_mark.cls = RX8 ∧ yX8_mark.cls ≠ "java/lang/invoke/MethodHandle" ∧ yX8_mark.cls ≠ "java/lang/invoke/VarHandle" ∧ (parseMethodDescriptor yX8_mark.desc).map (fun d => d.parameters.length) = some 2 := by decide +kernel
theorem hv_X8_most : yX8_most.cls = RX8 ∧ yX8_most.cls ≠ "java/lang/invoke/MethodHandle" ∧ yX8_most.cls ≠ "java/lang/invoke/VarHandle" ∧ (parseMethodDescriptor yX8_most.desc).map (fun d => d.parameters.length) = some 2 := by decide +kernel
theorem hv_X8_needsCell : yX8_needsCell.cls = RX8 ∧ yX8_needsCell.cls ≠ "java/lang/invoke/MethodHandle" ∧ yX8_needsCell.cls ≠ "java/lang/invoke/VarHandle" ∧ (parseMethodDescriptor yX8_needsCell.desc).map (fun d => d.parameters.length) = some 1 := by decide +kernel
theorem hv_X8_needsNew : yX8_needsNew.cls = RX8 ∧ yX8_needsNew.cls ≠ "java/lang/invoke/MethodHandle" ∧ yX8_needsNew.cls ≠ "java/lang/invoke/VarHandle" ∧ (parseMethodDescriptor yX8_needsNew.desc).map (fun d => d.parameters.length) = some 0 := by decide +kernel
theorem hv_X8_needsNumber : yX8_needsNumber.cls = RX8 ∧ yX8_needsNumber.cls ≠ "java/lang/invoke/MethodHandle" ∧ yX8_needsNumber.cls ≠ "java/lang/invoke/VarHandle" ∧ (parseMethodDescriptor yX8_needsNumber.desc).map (fun d => d.parameters.length) = some 2 := by decide +kernel
theorem hv_X8_needsWord : yX8_needsWord.cls = RX8 ∧ yX8_needsWord.cls ≠ "java/lang/invoke/MethodHandle" ∧ yX8_needsWord.cls ≠ "java/lang/invoke/VarHandle" ∧ (parseMethodDescriptor yX8_needsWord.desc).map (fun d => d.parameters.length) = some 1 := by decide +kernel
theorem hv_X8_never : yX8_never.cls = RX8 ∧ yX8_never.cls ≠ "java/lang/invoke/MethodHandle" ∧ yX8_never.cls ≠ "java/lang/invoke/VarHandle" ∧ (parseMethodDescriptor yX8_never.desc).map (fun d => d.parameters.length) = some 0 := by decide +kernel
theorem hv_X8_nextToken : yX8_nextToken.cls = RX8 ∧ yX8_nextToken.cls ≠ "java/lang/invoke/MethodHandle" ∧ yX8_nextToken.cls ≠ "java/lang/invoke/VarHandle" ∧ (parseMethodDescriptor yX8_nextToken.desc).map (fun d => d.parameters.length) = some 0 := by decide +kernel
theorem hv_X8_opens : yX8_opens.cls = RX8 ∧ yX8_opens.cls ≠ "java/lang/invoke/MethodHandle" ∧ yX8_opens.cls ≠ "java/lang/invoke/VarHandle" ∧ (parseMethodDescriptor yX8_opens.desc).map (fun d => d.parameters.length) = some 1 := by decide +kernel
theorem hv_X8_programme : yX8_programme.cls = RX8 ∧ yX8_programme.cls ≠ "java/lang/invoke/MethodHandle" ∧ yX8_programme.cls ≠ "java/lang/invoke/VarHandle" ∧ (parseMethodDescriptor yX8_programme.desc).map (fun d => d.parameters.length) = some 0 := by decide +kernel
theorem hv_X8_puts : yX8_puts.cls = RX8 ∧ yX8_puts.cls ≠ "java/lang/invoke/MethodHandle" ∧ yX8_puts.cls ≠ "java/lang/invoke/VarHandle" ∧ (parseMethodDescriptor yX8_puts.desc).map (fun d => d.parameters.length) = some 1 := by decide +kernel
theorem hv_X8_readsAct : yX8_readsAct.cls = RX8 ∧ yX8_readsAct.cls ≠ "java/lang/invoke/MethodHandle" ∧ yX8_readsAct.cls ≠ "java/lang/invoke/VarHandle" ∧ (parseMethodDescriptor yX8_readsAct.desc).map (fun d => d.parameters.length) = some 1 := by decide +kernel
theorem hv_X8_readsAll : yX8_readsAll.cls = RX8 ∧ yX8_readsAll.cls ≠ "java/lang/invoke/MethodHandle" ∧ yX8_readsAll.cls ≠ "java/lang/invoke/VarHandle" ∧ (parseMethodDescriptor yX8_readsAll.desc).map (fun d => d.parameters.length) = some 0 := by decide +kernel
theorem hv_X8_readsCell : yX8_readsCell.cls = RX8 ∧ yX8_readsCell.cls ≠ "java/lang/invoke/MethodHandle" ∧ yX8_readsCell.cls ≠ "java/lang/invoke/VarHandle" ∧ (parseMethodDescriptor yX8_readsCell.desc).map (fun d => d.parameters.length) = some 0 := by decide +kernel
theorem hv_X8_readsE : yX8_readsE.cls = RX8 ∧ yX8_readsE.cls ≠ "java/lang/invoke/MethodHandle" ∧ yX8_readsE.cls ≠ "java/lang/invoke/VarHandle" ∧ (parseMethodDescriptor yX8_readsE.desc).map (fun d => d.parameters.length) = some 1 := by decide +kernel
theorem hv_X8_readsInput : yX8_readsInput.cls = RX8 ∧ yX8_readsInput.cls ≠ "java/lang/invoke/MethodHandle" ∧ yX8_readsInput.cls ≠ "java/lang/invoke/VarHandle" ∧ (parseMethodDescriptor yX8_readsInput.desc).map (fun d => d.parameters.length) = some 0 := by decide +kernel
theorem hv_X8_readsLine : yX8_readsLine.cls = RX8 ∧ yX8_readsLine.cls ≠ "java/lang/invoke/MethodHandle" ∧ yX8_readsLine.cls ≠ "java/lang/invoke/VarHandle" ∧ (parseMethodDescriptor yX8_readsLine.desc).map (fun d => d.parameters.length) = some 0 := by decide +kernel
theorem hv_X8_readsStuff : yX8_readsStuff.cls = RX8 ∧ yX8_readsStuff.cls ≠ "java/lang/invoke/MethodHandle" ∧ yX8_readsStuff.cls ≠ "java/lang/invoke/VarHandle" ∧ (parseMethodDescriptor yX8_readsStuff.desc).map (fun d => d.parameters.length) = some 0 := by decide +kernel
theorem hv_X8_rounds : yX8_rounds.cls = RX8 ∧ yX8_rounds.cls ≠ "java/lang/invoke/MethodHandle" ∧ yX8_rounds.cls ≠ "java/lang/invoke/VarHandle" ∧ (parseMethodDescriptor yX8_rounds.desc).map (fun d => d.parameters.length) = some 1 := by decide +kernel
theorem hv_X8_run : yX8_run.cls = RX8 ∧ yX8_run.cls ≠ "java/lang/invoke/MethodHandle" ∧ yX8_run.cls ≠ "java/lang/invoke/VarHandle" ∧ (parseMethodDescriptor yX8_run.desc).map (fun d => d.parameters.length) = some 1 := by decide +kernel
theorem hv_X8_same : yX8_same.cls = RX8 ∧ yX8_same.cls ≠ "java/lang/invoke/MethodHandle" ∧ yX8_same.cls ≠ "java/lang/invoke/VarHandle" ∧ (parseMethodDescriptor yX8_same.desc).map (fun d => d.parameters.length) = some 1 := by decide +kernel
theorem hv_X8_signAt : yX8_signAt.cls = RX8 ∧ yX8_signAt.cls ≠ "java/lang/invoke/MethodHandle" ∧ yX8_signAt.cls ≠ "java/lang/invoke/VarHandle" ∧ (parseMethodDescriptor yX8_signAt.desc).map (fun d => d.parameters.length) = some 1 := by decide +kernel
theorem hv_X8_state : yX8_state.cls = RX8 ∧ yX8_state.cls ≠ "java/lang/invoke/MethodHandle" ∧ yX8_state.cls ≠ "java/lang/invoke/VarHandle" ∧ (parseMethodDescriptor yX8_state.desc).map (fun d => d.parameters.length) = some 1 := by decide +kernel
theorem hv_X8_steps : yX8_steps.cls = RX8 ∧ yX8_steps.cls ≠ "java/lang/invoke/MethodHandle" ∧ yX8_steps.cls ≠ "java/lang/invoke/VarHandle" ∧ (parseMethodDescriptor yX8_steps.desc).map (fun d => d.parameters.length) = some 1 := by decide +kernel
theorem hv_X8_stepsOn : yX8_stepsOn.cls = RX8 ∧ yX8_stepsOn.cls ≠ "java/lang/invoke/MethodHandle" ∧ yX8_stepsOn.cls ≠ "java/lang/invoke/VarHandle" ∧ (parseMethodDescriptor yX8_stepsOn.desc).map (fun d => d.parameters.length) = some 0 := by decide +kernel
theorem hv_X8_stuff : yX8_stuff.cls = RX8 ∧ yX8_stuff.cls ≠ "java/lang/invoke/MethodHandle" ∧ yX8_stuff.cls ≠ "java/lang/invoke/VarHandle" ∧ (parseMethodDescriptor yX8_stuff.desc).map (fun d => d.parameters.length) = some 2 := by decide +kernel
theorem hv_X8_stuffOf : yX8_stuffOf.cls = RX8 ∧ yX8_stuffOf.cls ≠ "java/lang/invoke/MethodHandle" ∧ yX8_stuffOf.cls ≠ "java/lang/invoke/VarHandle" ∧ (parseMethodDescriptor yX8_stuffOf.desc).map (fun d => d.parameters.length) = some 0 := by decide +kernel
theorem hv_X8_sums : yX8_sums.cls = RX8 ∧ yX8_sums.cls ≠ "java/lang/invoke/MethodHandle" ∧ yX8_sums.cls ≠ "java/lang/invoke/VarHandle" ∧ (parseMethodDescriptor yX8_sums.desc).map (fun d => d.parameters.length) = some 1 := by decide +kernel
theorem hv_X8_takesUp : yX8_takesUp.cls = RX8 ∧ yX8_takesUp.cls ≠ "java/lang/invoke/MethodHandle" ∧ yX8_takesUp.cls ≠ "java/lang/invoke/VarHandle" ∧ (parseMethodDescriptor yX8_takesUp.desc).map (fun d => d.parameters.length) = some 0 := by decide +kernel
theorem hv_X8_tests : yX8_tests.cls = RX8 ∧ yX8_tests.cls ≠ "java/lang/invoke/MethodHandle" ∧ yX8_tests.cls ≠ "java/lang/invoke/VarHandle" ∧ (parseMethodDescriptor yX8_tests.desc).map (fun d => d.parameters.length) = some 1 := by decide +kernel
theorem hv_X8_tries : yX8_tries.cls = RX8 ∧ yX8_tries.cls ≠ "java/lang/invoke/MethodHandle" ∧ yX8_tries.cls ≠ "java/lang/invoke/VarHandle" ∧ (parseMethodDescriptor yX8_tries.desc).map (fun d => d.parameters.length) = some 3 := by decide +kernel
theorem hv_X8_wears : yX8_wears.cls = RX8 ∧ yX8_wears.cls ≠ "java/lang/invoke/MethodHandle" ∧ yX8_wears.cls ≠ "java/lang/invoke/VarHandle" ∧ (parseMethodDescriptor yX8_wears.desc).map (fun d => d.parameters.length) = some 0 := by decide +kernel
theorem hv_X8_worked : yX8_worked.cls = RX8 ∧ yX8_worked.cls ≠ "java/lang/invoke/MethodHandle" ∧ yX8_worked.cls ≠ "java/lang/invoke/VarHandle" ∧ (parseMethodDescriptor yX8_worked.desc).map (fun d => d.parameters.length) = some 1 := by decide +kernel
theorem hv_X8_works : yX8_works.cls = RX8 ∧ yX8_works.cls ≠ "java/lang/invoke/MethodHandle" ∧ yX8_works.cls ≠ "java/lang/invoke/VarHandle" ∧ (parseMethodDescriptor yX8_works.desc).map (fun d => d.parameters.length) = some 2 := by decide +kernel
theorem hv_X8_wornness : yX8_wornness.cls = RX8 ∧ yX8_wornness.cls ≠ "java/lang/invoke/MethodHandle" ∧ yX8_wornness.cls ≠ "java/lang/invoke/VarHandle" ∧ (parseMethodDescriptor yX8_wornness.desc).map (fun d => d.parameters.length) = some 1 := by decide +kernel
theorem hv_X8_writeAlike : yX8_writeAlike.cls = RX8 ∧ yX8_writeAlike.cls ≠ "java/lang/invoke/MethodHandle" ∧ yX8_writeAlike.cls ≠ "java/lang/invoke/VarHandle" ∧ (parseMethodDescriptor yX8_writeAlike.desc).map (fun d => d.parameters.length) = some 6 := by decide +kernel
theorem hv_X8_wrote : yX8_wrote.cls = RX8 ∧ yX8_wrote.cls ≠ "java/lang/invoke/MethodHandle" ∧ yX8_wrote.cls ≠ "java/lang/invoke/VarHandle" ∧ (parseMethodDescriptor yX8_wrote.desc).map (fun d => d.parameters.length) = some 1 := by decide +kernel
theorem hz_J7_copyOf_59c91 : yJ7_copyOf_59c91.cls ≠ "java/lang/invoke/MethodHandle" ∧ yJ7_copyOf_59c91.cls ≠ "java/lang/invoke/VarHandle" ∧ (parseMethodDescriptor yJ7_copyOf_59c91.desc).map (fun d => d.parameters.length) = some 2 := by decide +kernel
theorem hz_J7_fill_53178 : yJ7_fill_53178.cls ≠ "java/lang/invoke/MethodHandle" ∧ yJ7_fill_53178.cls ≠ "java/lang/invoke/VarHandle" ∧ (parseMethodDescriptor yJ7_fill_53178.desc).map (fun d => d.parameters.length) = some 2 := by decide +kernel
theorem hz_X0_init : yX0_init.cls ≠ "java/lang/invoke/MethodHandle" ∧ yX0_init.cls ≠ "java/lang/invoke/VarHandle" ∧ (parseMethodDescriptor yX0_init.desc).map (fun d => d.parameters.length) = some 1 := by decide +kernel
theorem hz_X1_init : yX1_init.cls ≠ "java/lang/invoke/MethodHandle" ∧ yX1_init.cls ≠ "java/lang/invoke/VarHandle" ∧ (parseMethodDescriptor yX1_init.desc).map (fun d => d.parameters.length) = some 2 := by decide +kernel
theorem hz_X1_joined : yX1_joined.cls ≠ "java/lang/invoke/MethodHandle" ∧ yX1_joined.cls ≠ "java/lang/invoke/VarHandle" ∧ (parseMethodDescriptor yX1_joined.desc).map (fun d => d.parameters.length) = some 3 := by decide +kernel
theorem hz_X3_beginsPart : yX3_beginsPart.cls ≠ "java/lang/invoke/MethodHandle" ∧ yX3_beginsPart.cls ≠ "java/lang/invoke/VarHandle" ∧ (parseMethodDescriptor yX3_beginsPart.desc).map (fun d => d.parameters.length) = some 1 := by decide +kernel
theorem hz_X3_init : yX3_init.cls ≠ "java/lang/invoke/MethodHandle" ∧ yX3_init.cls ≠ "java/lang/invoke/VarHandle" ∧ (parseMethodDescriptor yX3_init.desc).map (fun d => d.parameters.length) = some 2 := by decide +kernel
theorem hz_X5_isBlank : yX5_isBlank.cls ≠ "java/lang/invoke/MethodHandle" ∧ yX5_isBlank.cls ≠ "java/lang/invoke/VarHandle" ∧ (parseMethodDescriptor yX5_isBlank.desc).map (fun d => d.parameters.length) = some 1 := by decide +kernel
theorem hz_X5_kindOf : yX5_kindOf.cls ≠ "java/lang/invoke/MethodHandle" ∧ yX5_kindOf.cls ≠ "java/lang/invoke/VarHandle" ∧ (parseMethodDescriptor yX5_kindOf.desc).map (fun d => d.parameters.length) = some 1 := by decide +kernel
theorem hz_X5_spelled : yX5_spelled.cls ≠ "java/lang/invoke/MethodHandle" ∧ yX5_spelled.cls ≠ "java/lang/invoke/VarHandle" ∧ (parseMethodDescriptor yX5_spelled.desc).map (fun d => d.parameters.length) = some 2 := by decide +kernel
theorem hz_X7_init : yX7_init.cls ≠ "java/lang/invoke/MethodHandle" ∧ yX7_init.cls ≠ "java/lang/invoke/VarHandle" ∧ (parseMethodDescriptor yX7_init.desc).map (fun d => d.parameters.length) = some 0 := by decide +kernel
theorem hz_X7_walk : yX7_walk.cls ≠ "java/lang/invoke/MethodHandle" ∧ yX7_walk.cls ≠ "java/lang/invoke/VarHandle" ∧ (parseMethodDescriptor yX7_walk.desc).map (fun d => d.parameters.length) = some 4 := by decide +kernel
theorem hz_X7_within : yX7_within.cls ≠ "java/lang/invoke/MethodHandle" ∧ yX7_within.cls ≠ "java/lang/invoke/VarHandle" ∧ (parseMethodDescriptor yX7_within.desc).map (fun d => d.parameters.length) = some 2 := by decide +kernel
theorem hz_X8_init : yX8_init.cls ≠ "java/lang/invoke/MethodHandle" ∧ yX8_init.cls ≠ "java/lang/invoke/VarHandle" ∧ (parseMethodDescriptor yX8_init.desc).map (fun d => d.parameters.length) = some 0 := by decide +kernel
theorem hz_X8_moves : yX8_moves.cls ≠ "java/lang/invoke/MethodHandle" ∧ yX8_moves.cls ≠ "java/lang/invoke/VarHandle" ∧ (parseMethodDescriptor yX8_moves.desc).map (fun d => d.parameters.length) = some 4 := by decide +kernel
theorem hz_X8_within : yX8_within.cls ≠ "java/lang/invoke/MethodHandle" ∧ yX8_within.cls ≠ "java/lang/invoke/VarHandle" ∧ (parseMethodDescriptor yX8_within.desc).map (fun d => d.parameters.length) = some 3 := by decide +kernel
theorem pf_0 : parseFieldDescriptor "I" = some (.int) := by decide +kernel
theorem pf_1 : parseFieldDescriptor "J" = some (.long) := by decide +kernel
theorem pf_2 : parseFieldDescriptor "Z" = some (.boolean) := by decide +kernel
theorem pf_3 : parseFieldDescriptor "[C" = some (.array .char) := by decide +kernel
theorem pf_4 : parseFieldDescriptor "[LWornLines$Token;" = some (.array (.object "WornLines$Token")) := by decide +kernel
theorem pf_5 : parseFieldDescriptor "[I" = some (.array .int) := by decide +kernel
theorem pf_6 : parseFieldDescriptor "[J" = some (.array .long) := by decide +kernel
theorem pf_7 : parseFieldDescriptor "LWornLines$Token;" = some (.object "WornLines$Token") := by decide +kernel
theorem pf_8 : parseFieldDescriptor "LWornLines$Tape;" = some (.object "WornLines$Tape") := by decide +kernel
theorem pf_9 : parseFieldDescriptor "LWornLines$Programme;" = some (.object "WornLines$Programme") := by decide +kernel
theorem pf_10 : parseFieldDescriptor "[[I" = some (.array (.array .int)) := by decide +kernel
theorem pf_11 : parseFieldDescriptor "[Z" = some (.array .boolean) := by decide +kernel
theorem pf_12 : parseFieldDescriptor "LWornLines$Reader;" = some (.object "WornLines$Reader") := by decide +kernel
theorem pf_13 : parseFieldDescriptor "LWornLines$Machine;" = some (.object "WornLines$Machine") := by decide +kernel
theorem pf_14 : parseFieldDescriptor "[LWornLines$Machine;" = some (.array (.object "WornLines$Machine")) := by decide +kernel
theorem pf_15 : parseFieldDescriptor "LWornLines$Survey;" = some (.object "WornLines$Survey") := by decide +kernel
theorem pf_16 : parseFieldDescriptor "LWornLines$Layout;" = some (.object "WornLines$Layout") := by decide +kernel
theorem tX0_0 : TX0 0 = ("WornLines$Layout", "programme", "LWornLines$Programme;", false) := rfl
theorem tX0_1 : TX0 1 = ("WornLines$Layout", "peak", "[I", true) := rfl
theorem tX0_2 : TX0 2 = ("WornLines$Layout", "least", "[[I", true) := rfl
theorem tX0_3 : TX0 3 = ("WornLines$Layout", "stuff", "I", false) := rfl
theorem tX1_0 : TX1 0 = ("WornLines$Machine", "programme", "LWornLines$Programme;", false) := rfl
theorem tX1_1 : TX1 1 = ("WornLines$Machine", "stuffs", "[I", true) := rfl
theorem tX1_10 : TX1 10 = ("WornLines$Machine", "steps", "I", false) := rfl
theorem tX1_2 : TX1 2 = ("WornLines$Machine", "twins", "[I", true) := rfl
theorem tX1_3 : TX1 3 = ("WornLines$Machine", "worn", "[I", true) := rfl
theorem tX1_4 : TX1 4 = ("WornLines$Machine", "cells", "[I", true) := rfl
theorem tX1_5 : TX1 5 = ("WornLines$Machine", "kept", "[I", true) := rfl
theorem tX1_6 : TX1 6 = ("WornLines$Machine", "stack", "[I", true) := rfl
theorem tX1_7 : TX1 7 = ("WornLines$Machine", "way", "I", false) := rfl
theorem tX1_8 : TX1 8 = ("WornLines$Machine", "state", "I", false) := rfl
theorem tX1_9 : TX1 9 = ("WornLines$Machine", "next", "I", false) := rfl
theorem tX2_0 : TX2 0 = ("WornLines$Programme", "stuffs", "I", false) := rfl
theorem tX2_1 : TX2 1 = ("WornLines$Programme", "bears", "[I", true) := rfl
theorem tX2_10 : TX2 10 = ("WornLines$Programme", "act", "[I", true) := rfl
theorem tX2_11 : TX2 11 = ("WornLines$Programme", "stuffOf", "[I", true) := rfl
theorem tX2_12 : TX2 12 = ("WornLines$Programme", "target", "[I", true) := rfl
theorem tX2_13 : TX2 13 = ("WornLines$Programme", "from", "[I", true) := rfl
theorem tX2_14 : TX2 14 = ("WornLines$Programme", "middle", "[I", true) := rfl
theorem tX2_15 : TX2 15 = ("WornLines$Programme", "end", "[I", true) := rfl
theorem tX2_2 : TX2 2 = ("WornLines$Programme", "costs", "[I", true) := rfl
theorem tX2_3 : TX2 3 = ("WornLines$Programme", "cells", "I", false) := rfl
theorem tX2_4 : TX2 4 = ("WornLines$Programme", "told", "[I", true) := rfl
theorem tX2_5 : TX2 5 = ("WornLines$Programme", "given", "I", false) := rfl
theorem tX2_6 : TX2 6 = ("WornLines$Programme", "givenCell", "[I", true) := rfl
theorem tX2_7 : TX2 7 = ("WornLines$Programme", "least", "[I", true) := rfl
theorem tX2_8 : TX2 8 = ("WornLines$Programme", "greatest", "[I", true) := rfl
theorem tX2_9 : TX2 9 = ("WornLines$Programme", "lines", "I", false) := rfl
theorem tX3_0 : TX3 0 = ("WornLines$Reader", "tape", "LWornLines$Tape;", true) := rfl
theorem tX3_1 : TX3 1 = ("WornLines$Reader", "stuffNames", "[J", true) := rfl
theorem tX3_2 : TX3 2 = ("WornLines$Reader", "cellNames", "[J", true) := rfl
theorem tX3_3 : TX3 3 = ("WornLines$Reader", "code", "[I", true) := rfl
theorem tX3_4 : TX3 4 = ("WornLines$Reader", "coded", "I", false) := rfl
theorem tX3_5 : TX3 5 = ("WornLines$Reader", "told", "LWornLines$Programme;", false) := rfl
theorem tX3_6 : TX3 6 = ("WornLines$Reader", "taken", "I", false) := rfl
theorem tX3_7 : TX3 7 = ("WornLines$Reader", "token", "LWornLines$Token;", false) := rfl
theorem tX3_8 : TX3 8 = ("WornLines$Reader", "place", "I", false) := rfl
theorem tX3_9 : TX3 9 = ("WornLines$Reader", "value", "J", false) := rfl
theorem tX4_0 : TX4 0 = ("WornLines$Survey", "of", "LWornLines$Programme;", false) := rfl
theorem tX4_1 : TX4 1 = ("WornLines$Survey", "endless", "Z", false) := rfl
theorem tX4_2 : TX4 2 = ("WornLines$Survey", "often", "[I", true) := rfl
theorem tX4_3 : TX4 3 = ("WornLines$Survey", "by", "[I", true) := rfl
theorem tX4_4 : TX4 4 = ("WornLines$Survey", "peak", "[I", true) := rfl
theorem tX5_0 : TX5 0 = ("WornLines$Tape", "signs", "[C", true) := rfl
theorem tX5_1 : TX5 1 = ("WornLines$Tape", "length", "I", false) := rfl
theorem tX5_2 : TX5 2 = ("WornLines$Tape", "tokens", "[LWornLines$Token;", true) := rfl
theorem tX5_3 : TX5 3 = ("WornLines$Tape", "places", "[I", true) := rfl
theorem tX5_4 : TX5 4 = ("WornLines$Tape", "values", "[J", true) := rfl
theorem tX7_0 : TX7 0 = ("WornLines", "tape", "LWornLines$Tape;", true) := rfl
theorem tX7_1 : TX7 1 = ("WornLines", "empty", "LWornLines$Programme;", true) := rfl
theorem tX7_2 : TX7 2 = ("WornLines", "reader", "LWornLines$Reader;", true) := rfl
theorem tX7_3 : TX7 3 = ("WornLines", "hand", "LWornLines$Machine;", true) := rfl
theorem tX7_4 : TX7 4 = ("WornLines", "walker", "LWornLines$Machine;", true) := rfl
theorem tX7_5 : TX7 5 = ("WornLines", "fellow", "LWornLines$Machine;", true) := rfl
theorem tX7_6 : TX7 6 = ("WornLines", "marks", "[LWornLines$Machine;", true) := rfl
theorem tX7_7 : TX7 7 = ("WornLines", "marked", "[Z", true) := rfl
theorem tX7_8 : TX7 8 = ("WornLines", "survey", "LWornLines$Survey;", true) := rfl
theorem tX8_0 : TX8 0 = ("WornLinesModel", "thrown", "I", false) := rfl
theorem tX8_1 : TX8 1 = ("WornLinesModel", "taped", "I", false) := rfl
theorem tX8_10 : TX8 10 = ("WornLinesModel", "stuffs", "[I", true) := rfl
theorem tX8_11 : TX8 11 = ("WornLinesModel", "cells", "[I", true) := rfl
theorem tX8_12 : TX8 12 = ("WornLinesModel", "inputs", "[I", true) := rfl
theorem tX8_13 : TX8 13 = ("WornLinesModel", "lines", "[I", true) := rfl
theorem tX8_14 : TX8 14 = ("WornLinesModel", "stuffName", "[J", true) := rfl
theorem tX8_15 : TX8 15 = ("WornLinesModel", "cellName", "[J", true) := rfl
theorem tX8_16 : TX8 16 = ("WornLinesModel", "bears", "[I", true) := rfl
theorem tX8_17 : TX8 17 = ("WornLinesModel", "costs", "[I", true) := rfl
theorem tX8_18 : TX8 18 = ("WornLinesModel", "cellAt", "[I", true) := rfl
theorem tX8_19 : TX8 19 = ("WornLinesModel", "inputCell", "[I", true) := rfl
theorem tX8_2 : TX8 2 = ("WornLinesModel", "tape", "[I", true) := rfl
theorem tX8_20 : TX8 20 = ("WornLinesModel", "inputLeast", "[I", true) := rfl
theorem tX8_21 : TX8 21 = ("WornLinesModel", "inputMost", "[I", true) := rfl
theorem tX8_22 : TX8 22 = ("WornLinesModel", "act", "[I", true) := rfl
theorem tX8_23 : TX8 23 = ("WornLinesModel", "actCell", "[I", true) := rfl
theorem tX8_24 : TX8 24 = ("WornLinesModel", "lineStuff", "[I", true) := rfl
theorem tX8_25 : TX8 25 = ("WornLinesModel", "twins", "[I", true) := rfl
theorem tX8_26 : TX8 26 = ("WornLinesModel", "lineFrom", "[I", true) := rfl
theorem tX8_27 : TX8 27 = ("WornLinesModel", "lineTo", "[I", true) := rfl
theorem tX8_28 : TX8 28 = ("WornLinesModel", "codes", "[I", true) := rfl
theorem tX8_29 : TX8 29 = ("WornLinesModel", "code", "I", false) := rfl
theorem tX8_3 : TX8 3 = ("WornLinesModel", "size", "I", false) := rfl
theorem tX8_30 : TX8 30 = ("WornLinesModel", "opened", "[I", true) := rfl
theorem tX8_31 : TX8 31 = ("WornLinesModel", "compared", "[Z", true) := rfl
theorem tX8_32 : TX8 32 = ("WornLinesModel", "kept", "[I", true) := rfl
theorem tX8_33 : TX8 33 = ("WornLinesModel", "keptBy", "[I", true) := rfl
theorem tX8_34 : TX8 34 = ("WornLinesModel", "ahead", "[I", true) := rfl
theorem tX8_35 : TX8 35 = ("WornLinesModel", "against", "[I", true) := rfl
theorem tX8_36 : TX8 36 = ("WornLinesModel", "sum", "[I", true) := rfl
theorem tX8_37 : TX8 37 = ("WornLinesModel", "sumBy", "[I", true) := rfl
theorem tX8_38 : TX8 38 = ("WornLinesModel", "term", "[I", true) := rfl
theorem tX8_39 : TX8 39 = ("WornLinesModel", "termBy", "[I", true) := rfl
theorem tX8_4 : TX8 4 = ("WornLinesModel", "place", "I", false) := rfl
theorem tX8_40 : TX8 40 = ("WornLinesModel", "byNot", "[I", true) := rfl
theorem tX8_41 : TX8 41 = ("WornLinesModel", "valueOf", "[I", true) := rfl
theorem tX8_42 : TX8 42 = ("WornLinesModel", "at", "I", false) := rfl
theorem tX8_43 : TX8 43 = ("WornLinesModel", "way", "I", false) := rfl
theorem tX8_44 : TX8 44 = ("WornLinesModel", "next", "I", false) := rfl
theorem tX8_45 : TX8 45 = ("WornLinesModel", "isEnd", "Z", false) := rfl
theorem tX8_46 : TX8 46 = ("WornLinesModel", "isFallen", "Z", false) := rfl
theorem tX8_47 : TX8 47 = ("WornLinesModel", "here", "[I", true) := rfl
theorem tX8_48 : TX8 48 = ("WornLinesModel", "wear", "[I", true) := rfl
theorem tX8_49 : TX8 49 = ("WornLinesModel", "written", "I", false) := rfl
theorem tX8_5 : TX8 5 = ("WornLinesModel", "begin", "I", false) := rfl
theorem tX8_50 : TX8 50 = ("WornLinesModel", "strip", "[I", true) := rfl
theorem tX8_51 : TX8 51 = ("WornLinesModel", "gone", "[I", true) := rfl
theorem tX8_52 : TX8 52 = ("WornLinesModel", "peak", "[I", true) := rfl
theorem tX8_53 : TX8 53 = ("WornLinesModel", "made", "I", false) := rfl
theorem tX8_54 : TX8 54 = ("WornLinesModel", "state", "I", false) := rfl
theorem tX8_55 : TX8 55 = ("WornLinesModel", "handNext", "I", false) := rfl
theorem tX8_56 : TX8 56 = ("WornLinesModel", "handSteps", "I", false) := rfl
theorem tX8_57 : TX8 57 = ("WornLinesModel", "handWritten", "I", false) := rfl
theorem tX8_58 : TX8 58 = ("WornLinesModel", "handCell", "[I", true) := rfl
theorem tX8_59 : TX8 59 = ("WornLinesModel", "worn", "[I", true) := rfl
theorem tX8_6 : TX8 6 = ("WornLinesModel", "token", "I", false) := rfl
theorem tX8_60 : TX8 60 = ("WornLinesModel", "handStrip", "[I", true) := rfl
theorem tX8_61 : TX8 61 = ("WornLinesModel", "mostGone", "[I", true) := rfl
theorem tX8_62 : TX8 62 = ("WornLinesModel", "mostBy", "[I", true) := rfl
theorem tX8_63 : TX8 63 = ("WornLinesModel", "mostPeak", "[I", true) := rfl
theorem tX8_64 : TX8 64 = ("WornLinesModel", "other", "[I", true) := rfl
theorem tX8_65 : TX8 65 = ("WornLinesModel", "least", "[I", true) := rfl
theorem tX8_66 : TX8 66 = ("WornLinesModel", "isLaid", "[Z", true) := rfl
theorem tX8_67 : TX8 67 = ("WornLinesModel", "marked", "[I", true) := rfl
theorem tX8_7 : TX8 7 = ("WornLinesModel", "word", "J", false) := rfl
theorem tX8_8 : TX8 8 = ("WornLinesModel", "told", "I", false) := rfl
theorem tX8_9 : TX8 9 = ("WornLinesModel", "wrong", "I", false) := rfl
section VT
variable {p : Program} {l : Launch} {e : Env} {R : Room} {s : State} {m : MethodId} {args : Array Value} {below : List Frame} {meth : Method} {c : Code} {H : Heap} {locs : List Loc} {cells slots : Nat} {Q : State → Prop}
variable {cc : ByteArray} {pc : Nat} {ls : Array Slot} {rest : List Value} {D : va_G} {cl : List vw_C} {A : Nat → Prop} {a : Nat} {tys : List (ClassId × FieldType)} {ws : va_W} {H0 : Heap}
/-- a field read, the field's row of the class's table told once -/
theorem vt_get (hexec : p.tables.exec = Jvm.exec) (hb : c.code = cc) {own ref C : String} {T : u_T} {N ci index : Nat} {Ts : List Cond} (hts : ∀ w ∈ Ts, w.before args s = true) (hin : ∀ w ∈ u_ws C T N, w ∈ Ts) (hown : s.vm.findClass own = some m.cls) (hK : va_K D cl tys s) (hP : va_P D cl ws H) (q0 : Nat) {fs : List Value} (he : ws[q0]? = some (a, .inr (ci, fs))) (hc : cl[ci]? = some (C, T, N)) (k : Nat) (hk : k < N) {o f d : String} {fin : Bool} (hT : T k = (o, f, d, fin)) (hlink : (Cond.fieldLink own index ref f d).before args s = true) (hsame : ∀ x, s.fieldFound? o f d = some x → s.fieldFound? ref f d = some x) {v : Value} (hv : fs[k]? = some v) (hdg : decode cc pc = .ok (.getfield index, 3)) (kk : W p l e R s m args below meth c H locs cells slots Q (F0 m (pc + 3) ls (v :: rest))) : W p l e R s m args below meth c H locs cells slots Q (F0 m pc ls (.ref a :: rest)) :=
  va_get hexec hb hts hin hown hK hP q0 he hc k hk (by rw [hT]; exact hlink) (by rw [hT]; exact hsame) hv hdg kk
theorem vt_put (hexec : p.tables.exec = Jvm.exec) (hb : c.code = cc) {own ref C : String} {T : u_T} {N ci index : Nat} {Ts : List Cond} (hts : ∀ w ∈ Ts, w.before args s = true) (hin : ∀ w ∈ u_ws C T N, w ∈ Ts) (ty0 : Nat → FieldType) (hty : ∀ k, k < N → parseFieldDescriptor (T k).2.2.1 = some (ty0 k)) (hnm : ∀ a, a < N → ∀ b, b < N → a ≠ b → (T a).2.1 ≠ (T b).2.1) (hown : s.vm.findClass own = some m.cls) (hK : va_K D cl tys s) (hP : va_P D cl ws H) (hD : va_D A ws) (hS0 : va_S A H0 H locs) (q0 : Nat) {fs : List Value} (he : ws[q0]? = some (a, .inr (ci, fs))) (hc : cl[ci]? = some (C, T, N)) (k : Nat) (hk : k < N) {o f d : String} {fin : Bool} (hT : T k = (o, f, d, fin)) (hlink : (Cond.fieldLink own index ref f d).before args s = true) (hsame : ∀ x, s.fieldFound? o f d = some x → s.fieldFound? ref f d = some x) (hfin : fin = false) {ty : FieldType} {v : Value} (hd : parseFieldDescriptor d = some ty) (hn : narrow ty v = v) (hfit : fits ty v = true) (hl : k < fs.length) (hdg : decode cc pc = .ok (.putfield index, 3)) (kk : ∀ (H1 : Heap) (locs1 : List Loc), va_P D cl (ws.set q0 (a, .inr (ci, fs.set k v))) H1 → va_D A (ws.set q0 (a, .inr (ci, fs.set k v))) → va_S A H0 H1 locs1 → W p l e R s m args below meth c H1 locs1 cells slots Q (F0 m (pc + 3) ls rest)) : W p l e R s m args below meth c H locs cells slots Q (F0 m pc ls (v :: .ref a :: rest)) :=
  va_put hexec hb hts hin ty0 hty hnm hown hK hP hD hS0 q0 he hc k hk (by rw [hT]; exact hlink) (by rw [hT]; exact hsame) (by rw [hT]; exact hfin) (by rw [hT]; exact hd) hn hfit hl hdg kk
theorem vt_putF (hexec : p.tables.exec = Jvm.exec) (hb : c.code = cc) {own ref C : String} {T : u_T} {N ci index : Nat} {Ts : List Cond} (hts : ∀ w ∈ Ts, w.before args s = true) (hin : ∀ w ∈ u_ws C T N, w ∈ Ts) (ty0 : Nat → FieldType) (hty : ∀ k, k < N → parseFieldDescriptor (T k).2.2.1 = some (ty0 k)) (hnm : ∀ a, a < N → ∀ b, b < N → a ≠ b → (T a).2.1 ≠ (T b).2.1) (hown : s.vm.findClass own = some m.cls) (hK : va_K D cl tys s) (hP : va_P D cl ws H) (hD : va_D A ws) (hS0 : va_S A H0 H locs) (q0 : Nat) {fs : List Value} (he : ws[q0]? = some (a, .inr (ci, fs))) (hc : cl[ci]? = some (C, T, N)) (k : Nat) (hk : k < N) {o f d : String} {fin : Bool} (hT : T k = (o, f, d, fin)) (hlink : (Cond.fieldLink own index ref f d).before args s = true) (hsame : ∀ x, s.fieldFound? o f d = some x → s.fieldFound? ref f d = some x) (hfin : fin = true) (hin2 : meth.name = "<init>") (hdecl : o = own) {ty : FieldType} {v : Value} (hd : parseFieldDescriptor d = some ty) (hn : narrow ty v = v) (hfit : fits ty v = true) (hl : k < fs.length) (hdg : decode cc pc = .ok (.putfield index, 3)) (kk : ∀ (H1 : Heap) (locs1 : List Loc), va_P D cl (ws.set q0 (a, .inr (ci, fs.set k v))) H1 → va_D A (ws.set q0 (a, .inr (ci, fs.set k v))) → va_S A H0 H1 locs1 → W p l e R s m args below meth c H1 locs1 cells slots Q (F0 m (pc + 3) ls rest)) : W p l e R s m args below meth c H locs cells slots Q (F0 m pc ls (v :: .ref a :: rest)) :=
  va_putF hexec hb hts hin ty0 hty hnm hown hK hP hD hS0 q0 he hc k hk (by rw [hT]; exact hlink) (by rw [hT]; exact hsame) (by rw [hT]; exact hfin) hin2 (by rw [hT]; exact hdecl) (by rw [hT]; exact hd) hn hfit hl hdg kk
end VT
end
section
-- the array rows' types that the worlds hold, the tables' words beside va_K, the enum's constants
abbrev AT (ak : Nat → ClassId) : List (ClassId × FieldType) := [(ak 0, .int), (ak 1, .long), (ak 2, .char), (ak 3, .boolean), (ak 4, .object "WornLines$Token"), (ak 5, .object "WornLines$Machine"), (ak 6, .array .int)]
def nwM : List (String × Nat × MethodName) := [(RX7, 9, yX5_init), (RX7, 18, yX2_init), (RX7, 57, yX4_init), (RX1, 95, yX7_within), (RX3, 50, yX2_init), (RX4, 62, yX7_within)]
def GK (ak : Nat → ClassId) (U : State) : Prop := ∃ kG : Class, U.vm.classes[ak 6]? = some kG ∧ kG.kind = .array (ak 0) (.array .int)
theorem GK.moved {ak : Nat → ClassId} {u U : State} (hvm : u.vm.Alike U.vm) (h : GK ak u) : GK ak U := by
  obtain ⟨k, h1, h2⟩ := h
  obtain ⟨k', hk', he⟩ := hvm.2.2 _ _ h1
  exact ⟨k', hk', by rw [he]; exact h2⟩
def EV (D : va_G) (ak : Nat → ClassId) (U : State) : Prop := va_K D vwCl (AT ak) U ∧ va_AO RX6 U ∧ va_AO RX1 U ∧ (∀ w ∈ nwM, va_Nw (.methodLinkNest w.1 w.2.1 w.2.2 RX7) U) ∧ va_Nw (.fieldLinkNest RX5 78 RX7 "TOKENS" "[LWornLines$Token;" RX7) U ∧ GK ak U
theorem EV.warm {D : va_G} {ak : Nat → ClassId} {s U : State} (hW : s.WarmedH U.vm) (h : EV D ak s) : EV D ak U :=
  ⟨va_K.moved hW.alike h.1, va_AO.moved hW.alike h.2.1, va_AO.moved hW.alike h.2.2.1, fun w hw => va_Nw.warmM hW (h.2.2.2.1 w hw), va_Nw.warmF hW h.2.2.2.2.1, GK.moved hW.alike h.2.2.2.2.2⟩
theorem EV.same {D : va_G} {ak : Nat → ClassId} {s U : State} (hv : s.vm = U.vm) (h : EV D ak s) : EV D ak U :=
  ⟨va_K.moved (hv ▸ Vm.Alike.refl s.vm) h.1, va_AO.moved (hv ▸ Vm.Alike.refl s.vm) h.2.1, va_AO.moved (hv ▸ Vm.Alike.refl s.vm) h.2.2.1, fun w hw => va_Nw.same rfl hv (h.2.2.2.1 w hw), va_Nw.same rfl hv h.2.2.2.2.1, GK.moved (hv ▸ Vm.Alike.refl s.vm) h.2.2.2.2.2⟩
def tkN : List String := ["END", "NO_TOKEN", "A_NUMBER", "A_NAME", "OPEN", "CLOSE", "SEMICOLON", "IS_LESS", "IS_EQUAL", "PLUS_SIGN", "MINUS_SIGN", "TIMES_SIGN", "STUFF_WORD", "BEARS_WORD", "COSTS_WORD", "CELL_WORD", "INPUT_WORD", "LINE_WORD", "KEEP_WORD", "BY_WORD", "SET_WORD", "WRITE_WORD", "GO_WORD", "IF_WORD", "CALL_WORD", "MEND_WORD", "HALT_WORD", "WORN_WORD", "NOT_WORD", "AND_WORD", "OR_WORD"]
def tkSl : List Int64 := [0, 0, 0, 0, 40, 41, 59, 60, 61, 43, 45, 42, 495875090022, 422607680115, 427071599731, 1667591276, 452824429940, 1818848869, 1801807216, 25209, 7562612, 513020621925, 26479, 26982, 1667329132, 1835363940, 1751215220, 2003792494, 7237492, 6385252, 28530]
def tkLl : List Int32 := [4, 4, 4, 4, 4, 4, 4, 1, 1, 2, 2, 3, 4, 4, 4, 4, 4, 4, 4, 4, 4, 4, 4, 4, 4, 4, 4, 4, 4, 0, 0]
def tkOl : List Int32 := [-1, -1, -1, -1, -1, -1, -1, 6, 7, 8, 9, 10, -1, -1, -1, -1, -1, -1, -1, -1, -1, -1, -1, -1, -1, -1, -1, -1, -1, 4, 5]
def tkAl : List Int32 := [-1, -1, -1, -1, -1, -1, -1, -1, -1, -1, -1, -1, -1, -1, -1, -1, -1, -1, -1, -1, 0, 1, 2, 3, 4, 5, 6, -1, -1, -1, -1]
def tkS (i : Nat) : Int64 := tkSl.getD i 0
def tkL (i : Nat) : Int32 := tkLl.getD i 0
def tkO (i : Nat) : Int32 := tkOl.getD i 0
def tkA (i : Nat) : Int32 := tkAl.getD i 0
/-- the constants: their statics, their objects, their fields; they differ; the array of all, at ad 31 -/
def TKc (ad : Nat → Nat) (A : Nat → Prop) (U : State) (H : Heap) (i : Nat) : Prop := va_Z RX6 (tkN.getD i "") "LWornLines$Token;" (.ref (ad i)) A U H ∧ va_O RX6 (ad i) A U H ∧ va_OF RX6 "spelling" "J" (.long (tkS i)) (ad i) A U H ∧ va_OF RX6 "level" "I" (.int (tkL i)) (ad i) A U H ∧ va_OF RX6 "operation" "I" (.int (tkO i)) (ad i) A U H ∧ va_OF RX6 "act" "I" (.int (tkA i)) (ad i) A U H
def ST (D : va_G) (ak : Nat → ClassId) (ad : Nat → Nat) (A : Nat → Prop) (U : State) (H : Heap) : Prop := (∀ i, i < 31 → TKc ad A U H i) ∧ (∀ i j, i < 31 → j < 31 → ad i = ad j → i = j) ∧ va_Z RX7 "TOKENS" "[LWornLines$Token;" (.ref (ad 31)) A U H ∧ va_T (.object RX6) (ad 31) 31 (fun j => .ref (ad j)) A U H
theorem TKc.moved {ad : Nat → Nat} {A : Nat → Prop} {u U : State} {H : Heap} {i : Nat} (hvm : u.vm.Alike U.vm) (h : TKc ad A u H i) : TKc ad A U H i := ⟨va_Z.moved hvm h.1, va_O.moved hvm h.2.1, va_OF.moved hvm h.2.2.1, va_OF.moved hvm h.2.2.2.1, va_OF.moved hvm h.2.2.2.2.1, va_OF.moved hvm h.2.2.2.2.2⟩
theorem TKc.kept {ad : Nat → Nat} {A : Nat → Prop} {U : State} {H H1 : Heap} {i : Nat} (h : TKc ad A U H i) (hq : ∀ a : Nat, a < H.size → ¬ A a → H1[a]? = H[a]?) : TKc ad A U H1 i := ⟨h.1.kept hq, h.2.1.kept hq, h.2.2.1.kept hq, h.2.2.2.1.kept hq, h.2.2.2.2.1.kept hq, h.2.2.2.2.2.kept hq⟩
theorem TKc.narrow {ad : Nat → Nat} {A B : Nat → Prop} {U : State} {H : Heap} {i : Nat} (h : TKc ad A U H i) (hAB : ∀ q, B q → A q) : TKc ad B U H i := ⟨h.1.narrow hAB, h.2.1.narrow hAB, h.2.2.1.narrow hAB, h.2.2.2.1.narrow hAB, h.2.2.2.2.1.narrow hAB, h.2.2.2.2.2.narrow hAB⟩
section STS
variable {D : va_G} {ak : Nat → ClassId} {ad : Nat → Nat} {A B : Nat → Prop} {u U : State} {H H1 : Heap}
theorem ST.moved (hvm : u.vm.Alike U.vm) (h : ST D ak ad A u H) : ST D ak ad A U H := ⟨fun i hi => (h.1 i hi).moved hvm, h.2.1, va_Z.moved hvm h.2.2.1, h.2.2.2.moved hvm⟩
theorem ST.kept (h : ST D ak ad A U H) (hq : ∀ a : Nat, a < H.size → ¬ A a → H1[a]? = H[a]?) : ST D ak ad A U H1 := ⟨fun i hi => (h.1 i hi).kept hq, h.2.1, h.2.2.1.kept hq, h.2.2.2.kept hq⟩
theorem ST.narrow (h : ST D ak ad A U H) (hAB : ∀ q, B q → A q) : ST D ak ad B U H := ⟨fun i hi => (h.1 i hi).narrow hAB, h.2.1, h.2.2.1.narrow hAB, h.2.2.2.narrow hAB⟩
end STS
/-- a contract's start: the arguments, the cells, the tables, the constants -/
def cPre (D : va_G) (ak : Nat → ClassId) (ad : Nat → Nat) (av : List Value) (ws : va_W) (sz : Nat) : Array Value → State → Prop := va_Pc av (fun U => U.heap.size = sz ∧ va_P D vwCl ws U.heap ∧ EV D ak U ∧ va_D (fun _ => True) ws ∧ ST D ak ad (va_A ws sz) U U.heap)
abbrev cEnd (D : va_G) {S : Type} (w : S → va_W) (ws : va_W) (sz : Nat) : S → State → Prop := fun u t => va_P D vwCl (w u) t.heap ∧ va_D (va_A ws sz) (w u)
abbrev cEndR (D : va_G) {S : Type} (w : S → Nat → va_W) (ws : va_W) (sz : Nat) : S → Nat → State → Prop := fun u a t => va_P D vwCl (w u a) t.heap ∧ va_D (va_A ws sz) (w u a)
abbrev cI (D : va_G) {S : Type} (post : Int32 → S → Prop) (w : S → va_W) (ws : va_W) (sz : Nat) := va_Qi post (cEnd D w ws sz) (va_A ws sz)
abbrev cL (D : va_G) {S : Type} (post : Int64 → S → Prop) (w : S → va_W) (ws : va_W) (sz : Nat) := va_Ql post (cEnd D w ws sz) (va_A ws sz)
abbrev cV (D : va_G) {S : Type} (post : S → Prop) (w : S → va_W) (ws : va_W) (sz : Nat) := va_Qv post (cEnd D w ws sz) (va_A ws sz)
abbrev cR (D : va_G) {S : Type} (post : S → Prop) (w : S → Nat → va_W) (ws : va_W) (sz : Nat) := va_Qr post (cEndR D w ws sz) (va_A ws sz)
theorem cPre.blind {D : va_G} {ak : Nat → ClassId} {ad : Nat → Nat} {av : List Value} {ws : va_W} {sz : Nat} : FrameBlind (cPre D ak ad av ws sz) := by
  intro a U g mk q
  obtain ⟨q0, q1, q2, q3, q4, q5⟩ := q
  exact ⟨q0, q1, q2, EV.same (s := U) (U := U.calling g mk a) rfl q3, q4, ST.moved (u := U) (U := U.calling g mk a) (Vm.Alike.refl U.vm) q5⟩
section KC
variable {D : va_G} {ak : Nat → ClassId} {ad : Nat → Nat} {s : State} {H : Heap} {A : Nat → Prop} {ws : va_W} {locs : List Loc}
/-- the callee's start out of the caller's world -/
theorem kc_pre {wc : va_W} {As : List Value} (hE : EV D ak s) (hT : ST D ak ad A s s.heap) (hP : va_P D vwCl ws H) (hD : va_D A ws) (hS : va_S A s.heap H locs) (hA : ∀ q, s.heap.size ≤ q → A q) (isC : List Nat) (hn : va_nd isC = true) (hC : isC.map (fun i => ws[i]?) = wc.map some) (hC2 : isC.filterMap (fun i => ws[i]?) = wc) : PreS s H (cPre D ak ad As wc H.size) As := by
  refine ⟨cPre.blind, fun U hU hW => ⟨rfl, by rw [hU], by rw [hU]; exact hP.sub isC hC2, hE.warm hW, (hD.sub isC hn hC).weaken (fun _ _ _ _ => trivial), ?_⟩⟩
  rw [hU]
  exact ((hT.kept hS.2.1).narrow (va_free hD hS hA isC hC)).moved hW.alike
theorem kc_preV {wc : va_W} {As : List Value} {C : String} {b : Nat} (hE : EV D ak s) (hT : ST D ak ad A s s.heap) (hP : va_P D vwCl ws H) (hD : va_D A ws) (hS : va_S A s.heap H locs) (hA : ∀ q, s.heap.size ≤ q → A q) (isC : List Nat) (hn : va_nd isC = true) (hC : isC.map (fun i => ws[i]?) = wc.map some) (hC2 : isC.filterMap (fun i => ws[i]?) = wc) (q0 ci : Nat) {fs : List Value} {q : vw_C} (hc : vwCl[ci]? = some q) (hq : q.1 = C) (he : ws[q0]? = some (b, .inr (ci, fs))) : PreV s H C b (cPre D ak ad (.ref b :: As) wc H.size) As := by
  subst hq
  have h := kc_pre (As := .ref b :: As) hE hT hP hD hS hA isC hn hC hC2
  exact ⟨h.1, va_recv hE.1 hP hc he, h.2⟩
end KC
section KD
variable {p : Program} {l : Launch} {e : Env} {R : Room} {s : State} {m : MethodId} {args : Array Value} {below : List Frame} {meth : Method} {c : Code} {H : Heap} {locs : List Loc} {cells slots : Nat} {Q : State → Prop}
variable {pc : Nat} {ls : Array Slot} {rest st0 : List Value} {a : Array Value} {A : Nat → Prop} {mc ms : Nat} {D : va_G} {ws wc wr : va_W}
theorem kc_i {S : Type} {post : Int32 → S → Prop} {w : S → va_W} (hP : va_P D vwCl ws H) (hD : va_D A ws) (hS : va_S A s.heap H locs) (hA : ∀ q, s.heap.size ≤ q → A q) (isC isR : List Nat) (hC : isC.map (fun i => ws[i]?) = wc.map some) (hR : isR.map (fun i => ws[i]?) = wr.map some) (hn : va_nd isR = true) (hdis : ∀ i ∈ isR, i ∉ isC)
    (hr : va_Run p l e R s m args below meth c H locs cells slots mc ms (F0 m pc ls st0) rest (cI D post w wc H.size a) (va_A wc H.size))
    (kk : ∀ (r : Int32) (u : S) (H1 : Heap) (locs1 : List Loc), post r u → va_P D vwCl (wr ++ w u) H1 → va_D A (wr ++ w u) → va_S A s.heap H1 locs1 → W p l e R s m args below meth c H1 locs1 (cells + mc) (slots + ms) Q (F0 m (pc + 3) ls (.int r :: rest))) : W p l e R s m args below meth c H locs cells slots Q (F0 m pc ls st0) := by
  have hF := va_free hD hS hA isC hC
  refine va_calli hr hS (fun q _ h => hF q h) hF (fun r u t H1 locs1 ht hvm hw hB hz hk hS1 => ?_)
  obtain ⟨hP1, hD1⟩ := hB
  rw [ht] at hP1
  obtain ⟨h1, h2⟩ := va_join hP hD isC isR hC hR hn hdis hk hF hP1 hD1
  exact kk r u H1 locs1 hw h1 h2 hS1
theorem kc_l {S : Type} {post : Int64 → S → Prop} {w : S → va_W} (hP : va_P D vwCl ws H) (hD : va_D A ws) (hS : va_S A s.heap H locs) (hA : ∀ q, s.heap.size ≤ q → A q) (isC isR : List Nat) (hC : isC.map (fun i => ws[i]?) = wc.map some) (hR : isR.map (fun i => ws[i]?) = wr.map some) (hn : va_nd isR = true) (hdis : ∀ i ∈ isR, i ∉ isC)
    (hr : va_Run p l e R s m args below meth c H locs cells slots mc ms (F0 m pc ls st0) rest (cL D post w wc H.size a) (va_A wc H.size))
    (kk : ∀ (r : Int64) (u : S) (H1 : Heap) (locs1 : List Loc), post r u → va_P D vwCl (wr ++ w u) H1 → va_D A (wr ++ w u) → va_S A s.heap H1 locs1 → W p l e R s m args below meth c H1 locs1 (cells + mc) (slots + ms) Q (F0 m (pc + 3) ls (.long r :: rest))) : W p l e R s m args below meth c H locs cells slots Q (F0 m pc ls st0) := by
  have hF := va_free hD hS hA isC hC
  refine va_calll hr hS (fun q _ h => hF q h) hF (fun r u t H1 locs1 ht hvm hw hB hz hk hS1 => ?_)
  obtain ⟨hP1, hD1⟩ := hB
  rw [ht] at hP1
  obtain ⟨h1, h2⟩ := va_join hP hD isC isR hC hR hn hdis hk hF hP1 hD1
  exact kk r u H1 locs1 hw h1 h2 hS1
theorem kc_v {S : Type} {post : S → Prop} {w : S → va_W} (hP : va_P D vwCl ws H) (hD : va_D A ws) (hS : va_S A s.heap H locs) (hA : ∀ q, s.heap.size ≤ q → A q) (isC isR : List Nat) (hC : isC.map (fun i => ws[i]?) = wc.map some) (hR : isR.map (fun i => ws[i]?) = wr.map some) (hn : va_nd isR = true) (hdis : ∀ i ∈ isR, i ∉ isC)
    (hr : va_Run p l e R s m args below meth c H locs cells slots mc ms (F0 m pc ls st0) rest (cV D post w wc H.size a) (va_A wc H.size))
    (kk : ∀ (u : S) (H1 : Heap) (locs1 : List Loc), post u → va_P D vwCl (wr ++ w u) H1 → va_D A (wr ++ w u) → va_S A s.heap H1 locs1 → W p l e R s m args below meth c H1 locs1 (cells + mc) (slots + ms) Q (F0 m (pc + 3) ls rest)) : W p l e R s m args below meth c H locs cells slots Q (F0 m pc ls st0) := by
  have hF := va_free hD hS hA isC hC
  refine va_callv hr hS (fun q _ h => hF q h) hF (fun u t H1 locs1 ht hvm hw hB hz hk hS1 => ?_)
  obtain ⟨hP1, hD1⟩ := hB
  rw [ht] at hP1
  obtain ⟨h1, h2⟩ := va_join hP hD isC isR hC hR hn hdis hk hF hP1 hD1
  exact kk u H1 locs1 hw h1 h2 hS1
theorem kc_r {S : Type} {post : S → Prop} {w : S → Nat → va_W} (hP : va_P D vwCl ws H) (hD : va_D A ws) (hS : va_S A s.heap H locs) (hA : ∀ q, s.heap.size ≤ q → A q) (isC isR : List Nat) (hC : isC.map (fun i => ws[i]?) = wc.map some) (hR : isR.map (fun i => ws[i]?) = wr.map some) (hn : va_nd isR = true) (hdis : ∀ i ∈ isR, i ∉ isC)
    (hr : va_Run p l e R s m args below meth c H locs cells slots mc ms (F0 m pc ls st0) rest (cR D post w wc H.size a) (va_A wc H.size))
    (kk : ∀ (u : S) (ra : Nat) (H1 : Heap) (locs1 : List Loc), post u → va_P D vwCl (wr ++ w u ra) H1 → va_D A (wr ++ w u ra) → va_S A s.heap H1 locs1 → W p l e R s m args below meth c H1 locs1 (cells + mc) (slots + ms) Q (F0 m (pc + 3) ls (.ref ra :: rest))) : W p l e R s m args below meth c H locs cells slots Q (F0 m pc ls st0) := by
  have hF := va_free hD hS hA isC hC
  refine va_callr hr hS (fun q _ h => hF q h) hF (fun u ra t H1 locs1 ht hvm hw hB hz hk hS1 => ?_)
  obtain ⟨hP1, hD1⟩ := hB
  rw [ht] at hP1
  obtain ⟨h1, h2⟩ := va_join hP hD isC isR hC hR hn hdis hk hF hP1 hD1
  exact kk u ra H1 locs1 hw h1 h2 hS1
/-- a new array of a kind that the tables know -/
theorem kn_a {cc : ByteArray} {ak : Nat → ClassId} (hexec : p.tables.exec = Jvm.exec) (hb : c.code = cc) {atype : ArrayType} (harr : (Cond.arrayClass (newarray.typeOf atype)).before args s = true) (hE : EV D ak s) (k : Nat) {ty : FieldType} (hk : (AT ak)[k]? = some (ak k, ty)) (hty : newarray.typeOf atype = ty) (hnm : ∀ cA : ClassId, va_RA s cA ty → s.vm.findClass ("[" ++ ty.toString) = some cA) (hP : va_P D vwCl ws H) (hD : va_D A ws) (hS : va_S A s.heap H locs) (hA : ∀ q, s.heap.size ≤ q → A q)
    {n : Int32} {N' : Nat} {a0 : vp_A} (ha : ∀ cA : ClassId, vp_cell cA a0 = arrV cA N' (fun _ => defaultValue ty)) (hn : ¬ n < 0) (hN : n.toNatClampNeg = N') (hbytes : N' * componentBytes ty ≤ 536870912) (hcells : cells + 1 ≤ R.cells) (hslots : slots + N' ≤ R.slots) (hdg : decode cc pc = .ok (.newarray atype, 2))
    (kk : ∀ (q : Nat) (H1 : Heap), va_P D vwCl (ws ++ [(q, .inl (ak k, a0))]) H1 → va_D A (ws ++ [(q, .inl (ak k, a0))]) → va_S A s.heap H1 locs →
      W p l e R s m args below meth c H1 locs (cells + 1) (slots + N') Q (F0 m (pc + 2) ls (.ref q :: rest))) : W p l e R s m args below meth c H locs cells slots Q (F0 m pc ls (.int n :: rest)) := by
  refine va_newa hexec hb harr hty hE.1 hP hD hS hA ha hn hN hbytes hcells hslots hdg (fun q cA H1 hK1 hP1 hD1 hS1 => ?_)
  have e1 := hnm _ (hK1.2 (AT ak).length (cA, ty) (by rw [List.getElem?_append_right (Nat.le_refl _), Nat.sub_self]; rfl)).2
  have e2 := hnm _ (hE.1.2 k _ hk).2
  have e3 : cA = ak k := Option.some.inj (e1.symm.trans e2)
  subst e3
  exact kk q H1 hP1 hD1 hS1
end KD
section KE
variable {p : Program} {l : Launch} {e : Env} {R : Room} {s : State} {m : MethodId} {args : Array Value} {below : List Frame} {meth : Method} {c : Code} {H : Heap} {locs : List Loc} {cells slots : Nat} {Q : State → Prop}
variable {pc : Nat} {ls : Array Slot} {rest : List Value} {A : Nat → Prop} {D : va_G} {ws : va_W}
theorem kn_q {cc : ByteArray} {ak : Nat → ClassId} (hexec : p.tables.exec = Jvm.exec) (hb : c.code = cc) {own C : String} {index : Nat} (hown : s.vm.findClass own = some m.cls) (hclink : (Cond.classLink own index C).before args s = true) (hover : va_AO C s) (hE : EV D ak s) (k : Nat) (hk : (AT ak)[k]? = some (ak k, .object C)) (hP : va_P D vwCl ws H) (hD : va_D A ws) (hS : va_S A s.heap H locs) (hA : ∀ q, s.heap.size ≤ q → A q)
    {n : Int32} {N' : Nat} (hn : ¬ n < 0) (hN : n.toNatClampNeg = N') (hbytes : N' * 4 ≤ 536870912) (hcells : cells + 1 ≤ R.cells) (hslots : slots + N' ≤ R.slots) (hdg : decode cc pc = .ok (.anewarray index, 3))
    (kk : ∀ (q : Nat) (H1 : Heap), va_P D vwCl (ws ++ [(q, .inl (ak k, N', .inr (.inr (.inr (.inr (fun _ => none))))))]) H1 → va_D A (ws ++ [(q, .inl (ak k, N', .inr (.inr (.inr (.inr (fun _ => none))))))]) → va_S A s.heap H1 locs →
      W p l e R s m args below meth c H1 locs (cells + 1) (slots + N') Q (F0 m (pc + 3) ls (.ref q :: rest))) : W p l e R s m args below meth c H locs cells slots Q (F0 m pc ls (.int n :: rest)) := by
  refine va_newq hexec hb hown hclink hover hE.1 hP hD hS hA hn hN hbytes hcells hslots hdg (fun q cA H1 hK1 hP1 hD1 hS1 => ?_)
  obtain ⟨-, -, -, -, -, e1⟩ := (hK1.2 (AT ak).length (cA, .object C) (by rw [List.getElem?_append_right (Nat.le_refl _), Nat.sub_self]; rfl)).2
  obtain ⟨-, -, -, -, -, e2⟩ := (hE.1.2 k _ hk).2
  have e3 : cA = ak k := Option.some.inj (e1.symm.trans e2)
  subst e3
  exact kk q H1 hP1 hD1 hS1
end KE
theorem tsw_out (x : Int32) (lo hi : Int) (h : ∀ j : Int, lo ≤ j → j ≤ hi → ¬ x.toInt = j) : x.toInt < lo ∨ hi < x.toInt := by
  by_cases h1 : x.toInt < lo
  · exact Or.inl h1
  · by_cases h2 : hi < x.toInt
    · exact Or.inr h2
    · exact absurd rfl (h x.toInt (by omega) (by omega))
theorem tk_any {D : va_G} {ak : Nat → ClassId} {ad : Nat → Nat} {A : Nat → Prop} {s : State} {H : Heap} {locs : List Loc} (hT : ST D ak ad A s s.heap) (hS : va_S A s.heap H locs) (i : Nat) (hi : i < 31) : va_Any RX6 s H (ad i) := by
  obtain ⟨cell, h1, h2, h3, -⟩ := (hT.1 i hi).2.1.kept hS.2.1
  obtain ⟨kC, hkC, -⟩ := Vm.findClass_spec h3
  refine ⟨cell, h1, h2, ⟨kC, hkC⟩, fun comp h => ?_⟩
  have e : cell.cls = comp := Option.some.inj (h3.symm.trans h)
  rw [e]
  show s.vm.assignableAux (255 + 1) comp comp = true
  rw [Vm.assignableAux]
  simp only [beq_self_eq_true, Bool.true_or]
theorem tok_inj {D : va_G} {ak : Nat → ClassId} {ad : Nat → Nat} {A : Nat → Prop} {s : State} {H : Heap} {i j : Nat} (hT : ST D ak ad A s H) (hi : i < 31) (hj : j < 31) (e : some (ad i) = some (ad j)) : i = j := hT.2.1 i j hi hj (Option.some.inj e)
def tokA (ad : Nat → Nat) (f : Nat → Nat) : Nat → Option Nat := fun i => if f i < 31 then some (ad (f i)) else none
def updN (f : Nat → Nat) (k v : Nat) : Nat → Nat := fun i => if i = k then v else f i
theorem tokA_rf {ad f : Nat → Nat} {i : Nat} (h : f i < 31) : va_rf (tokA ad f i) = .ref (ad (f i)) := by unfold tokA; rw [if_pos h]; rfl
theorem tokA_up {ad f : Nat → Nat} {i e : Nat} (h : e < 31) : va_up (tokA ad f) i (some (ad e)) = tokA ad (updN f i e) := by
  funext j
  by_cases hj : j = i
  · subst hj
    simp [va_up, tokA, updN, h]
  · simp [va_up, tokA, updN, hj]
theorem gwX80 : wsX80.all goodWord = true := by decide +kernel
end
section
-- new int[n][m]: the light library has no law of it; one step of the machine, row after row
def gd_in (cI : ClassId) (M : Nat) : Cell := { cls := cI, slots := Array.replicate M (.int 0), vm := .none }
def gd_out (cG : ClassId) (N a : Nat) : Nat → Cell
  | 0 => { cls := cG, slots := Array.replicate N .null, vm := .none }
  | i + 1 => (gd_out cG N a i).setSlot i (.ref (a + 1 + i))
def gd_fill (s : State) (cG cI : ClassId) (N M : Nat) : Nat → State
  | 0 => s.pushCell (gd_out cG N s.heap.size 0)
  | i + 1 => ((gd_fill s cG cI N M i).pushCell (gd_in cI M)).setCell s.heap.size (gd_out cG N s.heap.size (i + 1))
theorem gd_out_f (cG : ClassId) (N a : Nat) (i : Nat) : (gd_out cG N a i).cls = cG ∧ (gd_out cG N a i).vm = .none ∧ (gd_out cG N a i).slots.size = N := by
  induction i with
  | zero => exact ⟨rfl, rfl, by simp [gd_out]⟩
  | succ i ih => exact ⟨by simp [gd_out, Cell.setSlot, ih.1], by simp [gd_out, Cell.setSlot, ih.2.1], by simp [gd_out, Cell.setSlot, ih.2.2]⟩
theorem gd_fill_f (s : State) (cG cI : ClassId) (N M i : Nat) : (gd_fill s cG cI N M i).heap.size = s.heap.size + 1 + i ∧ (gd_fill s cG cI N M i).heap[s.heap.size]? = some (gd_out cG N s.heap.size i) ∧ (gd_fill s cG cI N M i).vm = s.vm ∧ (gd_fill s cG cI N M i).slotsUsed = s.slotsUsed + N + i * M := by
  induction i with
  | zero => exact ⟨by simp [gd_fill], by simp [gd_fill], rfl, by simp [gd_fill, gd_out]⟩
  | succ i ih =>
    obtain ⟨h1, h2, h3, h4⟩ := ih
    have hlt : s.heap.size < (gd_fill s cG cI N M i).heap.size := by omega
    have h5 : ((gd_fill s cG cI N M i).pushCell (gd_in cI M)).heap[s.heap.size]? = some (gd_out cG N s.heap.size i) := by rw [State.heap_pushCell_of_lt (h := hlt)]; exact h2
    refine ⟨?_, State.heap_setCell_self h5, by simp [gd_fill, h3], ?_⟩
    · simp [gd_fill, State.setCell, h1]; omega
    · simp [gd_fill, h4, gd_in, Nat.succ_mul]; omega
theorem gd_fill_top (s : State) (f : JFrame) (cG cI : ClassId) (N M i : Nat) : gd_fill (s.setTop f) cG cI N M i = (gd_fill s cG cI N M i).setTop f := by
  induction i with
  | zero => rfl
  | succ i ih => simp only [gd_fill, ih, State.heap_setTop, State.pushCell_setTop, State.setCell_setTop]
theorem gd_fill_old (s : State) (cG cI : ClassId) (N M : Nat) {x : Addr} (hx : x < s.heap.size) (i : Nat) : (gd_fill s cG cI N M i).heap[x]? = s.heap[x]? := by
  induction i with
  | zero => exact State.heap_pushCell_of_lt _ _ hx
  | succ i ih =>
    have h1 := (gd_fill_f s cG cI N M i).1
    have hlt : x < (gd_fill s cG cI N M i).heap.size := Nat.lt_of_lt_of_le hx (by rw [h1]; omega)
    show (((gd_fill s cG cI N M i).pushCell (gd_in cI M)).setCell s.heap.size _).heap[x]? = _
    rw [State.heap_setCell_other (Nat.ne_of_gt hx), State.heap_pushCell_of_lt (h := hlt)]
    exact ih
theorem gd_fill_row (s : State) (cG cI : ClassId) (N M : Nat) (i j : Nat) (h : j < i) : (gd_fill s cG cI N M i).heap[s.heap.size + 1 + j]? = some (gd_in cI M) := by
  induction i with
  | zero => exact absurd h (Nat.not_lt_zero _)
  | succ i ih =>
    have h1 := (gd_fill_f s cG cI N M i).1
    show (((gd_fill s cG cI N M i).pushCell (gd_in cI M)).setCell s.heap.size _).heap[s.heap.size + 1 + j]? = _
    rw [State.heap_setCell_other (show s.heap.size ≠ s.heap.size + 1 + j by omega)]
    by_cases hj : j < i
    · have hlt : s.heap.size + 1 + j < (gd_fill s cG cI N M i).heap.size := by omega
      rw [State.heap_pushCell_of_lt (h := hlt)]
      exact ih hj
    · have e : j = i := by omega
      subst e
      rw [← h1]
      exact State.heap_pushCell_size _ _
theorem gd_out_at (cG : ClassId) (N a i j : Nat) (h : j < N) : (gd_out cG N a i).slots[j]? = some (if j < i then .ref (a + 1 + j) else .null) := by
  induction i with
  | zero => simp [gd_out, h]
  | succ i ih =>
    have hs := (gd_out_f cG N a i).2.2
    show ((gd_out cG N a i).setSlot i (.ref (a + 1 + i))).slots[j]? = _
    simp only [Cell.setSlot, Array.getElem?_setIfInBounds]
    by_cases e : i = j
    · subst e; simp [hs, h]
    · rw [if_neg e, ih]
      by_cases hj : j < i
      · rw [if_pos hj, if_pos (by omega)]
      · rw [if_neg hj, if_neg (by omega)]
theorem gd_over {args : Array Value} {s : State} (h : (Cond.arrayOver (.array .int)).before args s = true) : ∃ cI cG k, s.vm.findClass (FieldType.array .int).toString = some cI ∧ s.vm.classes[cG]? = some k ∧ k.kind = .array cI (.array .int) ∧ s.vm.findClass ("[" ++ (FieldType.array .int).toString) = some cG := by
  simp only [Cond.before, Cond.holds, Cond.value, beq_iff_eq] at h
  cases hc : s.vm.findClass (FieldType.array .int).toString with
  | none => simp [hc] at h
  | some cI =>
    simp only [hc, Option.bind_some, Option.bind_eq_some_iff, Option.map_eq_some_iff] at h
    obtain ⟨cG, hi, k, hk, hb⟩ := h
    obtain ⟨hlt, hp, -⟩ := Array.findIdx?_eq_some_iff_getElem.mp hi
    have hkk : s.vm.classes[cG] = k := (Array.getElem?_eq_some_iff.mp hk).2
    rw [hkk] at hp
    cases hkind : k.kind with
    | array component ty =>
      rw [hkind] at hb hp
      simp at hb hp
      exact ⟨cI, cG, k, rfl, hk, by rw [hkind, hp, hb.1], hb.2⟩
    | _ => rw [hkind] at hb; simp at hb
section GDW
variable {E : CtlPost} {e : Env} {d : Bool} {acts : List Action} {s : State}
theorem gd_newA {c comp : ClassId} {k : Class} {ty : FieldType} {len : Nat} {init : Value} (hk : s.vm.classes[c]? = some k) (hkind : k.kind = .array comp ty)
    (hlimit : ¬ len > e.platform.arrayLengthLimit) (hheap : ¬ len * componentBytes ty > e.platform.maxHeapBytes) (hfit : fits ty init = true) (hdef : init.isDefault = true) {Q : Addr → Pre}
    (h1 : s.heap.size < e.platform.maxCells) (h2 : s.slotsUsed + len ≤ e.platform.maxSlots)
    (hq : Q s.heap.size d acts (s.pushCell { cls := c, slots := Array.replicate len init, vm := .none })) : wp (Jvm.newArray c len init) Q E e d acts s := by
  have hfits : ∀ i v, (Array.replicate len init)[i]? = some v → s.fitsSlot c .none i v = true := by
    intro i v hv
    simp only [Array.getElem?_replicate] at hv
    split at hv
    · cases hv; simp [State.fitsSlot, State.slotType?, hk, hkind, hfit]
    · cases hv
  have hda : allocActs (Array.replicate len init) s.heap.size acts = acts := by
    have hall : ((Array.replicate len init).all (·.isDefault)) = true := by rw [Array.all_replicate]; split <;> simp [hdef]
    unfold allocActs
    rw [if_pos hall]
  simp only [Jvm.newArray, Jvm.arrayFits, wp_bind', W.ask, W.ite, hlimit, if_false, wp_pure', W.theClass, hk, hkind, hheap, W.alloc, W.stop, Option.some.injEq, exists_eq_left', Array.size_replicate, hda]
  rw [if_neg (by omega)]
  exact ⟨h1, h2, hfits, hq⟩
theorem gd_make1 {cI cc : ClassId} {kI : Class} {m : Int32} (hkI : s.vm.classes[cI]? = some kI) (hkind : kI.kind = .array cc .int) (hm : ¬ m < 0)
    (hl : ¬ m.toNatClampNeg > e.platform.arrayLengthLimit) (hh : ¬ m.toNatClampNeg * componentBytes .int > e.platform.maxHeapBytes)
    (h1 : s.heap.size < e.platform.maxCells) (h2 : s.slotsUsed + m.toNatClampNeg ≤ e.platform.maxSlots) {Q : Addr → Pre} (hq : Q s.heap.size d acts (s.pushCell (gd_in cI m.toNatClampNeg))) : wp (Op.multianewarray.make cI [m]) Q E e d acts s := by
  rw [Op.multianewarray.make]
  simp only [wp_bind', W.ite, hm, if_false, wp_pure', W.theClass, hkI, hkind, Option.some.injEq, exists_eq_left']
  exact gd_newA hkI hkind hl hh rfl rfl h1 h2 hq
theorem gd_make2 {cG cI cc : ClassId} {kG kI : Class} {n m : Int32} (hkG : s.vm.classes[cG]? = some kG) (hkindG : kG.kind = .array cI (.array .int)) (hkI : s.vm.classes[cI]? = some kI) (hkindI : kI.kind = .array cc .int) (hn : ¬ n < 0) (hm : ¬ m < 0)
    (hl1 : ¬ n.toNatClampNeg > e.platform.arrayLengthLimit) (hh1 : ¬ n.toNatClampNeg * componentBytes (.array .int) > e.platform.maxHeapBytes) (hl2 : ¬ m.toNatClampNeg > e.platform.arrayLengthLimit) (hh2 : ¬ m.toNatClampNeg * componentBytes .int > e.platform.maxHeapBytes)
    (hc : s.heap.size + 1 + n.toNatClampNeg ≤ e.platform.maxCells) (hs : s.slotsUsed + n.toNatClampNeg + n.toNatClampNeg * m.toNatClampNeg ≤ e.platform.maxSlots)
    {Q : Addr → Pre} (hq : ∀ d' acts', Q s.heap.size d' acts' (gd_fill s cG cI n.toNatClampNeg m.toNatClampNeg n.toNatClampNeg)) : wp (Op.multianewarray.make cG [n, m]) Q E e d acts s := by
  have hfind : ([m].find? (· < 0)) = none := by simp [hm]
  rw [Op.multianewarray.make]
  simp only [wp_bind', W.ite, hn, if_false, wp_pure', W.theClass, hkG, hkindG, Option.some.injEq, exists_eq_left']
  refine gd_newA hkG hkindG hl1 hh1 rfl rfl (by omega) (by have := Nat.zero_le (n.toNatClampNeg * m.toNatClampNeg); omega) ?_
  simp only [hfind]
  rw [ite_self, wp_bind', Std.Legacy.Range.forIn_eq_forIn_range']
  have hsz : ([:n.toNatClampNeg] : Std.Legacy.Range).size = n.toNatClampNeg := by simp [Std.Legacy.Range.size]
  rw [hsz]
  show wp (forIn (List.range' 0 n.toNatClampNeg 1) PUnit.unit _) _ E e d acts _
  refine wp_forIn_inv (fun rest t => ∃ i, i ≤ n.toNatClampNeg ∧ rest = List.range' i (n.toNatClampNeg - i) ∧ t = gd_fill s cG cI n.toNatClampNeg m.toNatClampNeg i) _ _ ⟨0, Nat.zero_le _, rfl, rfl⟩ ?_ ?_
  · rintro x rest t d' acts' Q' ⟨i, hi, hl, rfl⟩ hnext
    have hlt : i < n.toNatClampNeg := by
      rcases Nat.lt_or_ge i n.toNatClampNeg with h | h
      · exact h
      · rw [show n.toNatClampNeg - i = 0 from by omega] at hl; simp at hl
    obtain ⟨rfl, hrest⟩ : x = i ∧ rest = List.range' (i + 1) (n.toNatClampNeg - (i + 1)) := by
      rw [show n.toNatClampNeg - i = (n.toNatClampNeg - (i + 1)) + 1 from by omega, List.range'_succ] at hl
      exact ⟨(List.cons.inj hl).1, (List.cons.inj hl).2⟩
    obtain ⟨f1, f2, f3, f4⟩ := gd_fill_f s cG cI n.toNatClampNeg m.toNatClampNeg x
    obtain ⟨o1, o2, o3⟩ := gd_out_f cG n.toNatClampNeg s.heap.size x
    have hmul : x * m.toNatClampNeg + m.toNatClampNeg ≤ n.toNatClampNeg * m.toNatClampNeg := by
      have := Nat.mul_le_mul_right m.toNatClampNeg (show x + 1 ≤ n.toNatClampNeg from hlt)
      rw [Nat.succ_mul] at this
      exact this
    simp only [wp_bind']
    refine gd_make1 (by rw [f3]; exact hkI) hkindI hm hl2 hh2 (by rw [f1]; omega) (by rw [f4]; omega) ?_
    have hlt0 : s.heap.size < (gd_fill s cG cI n.toNatClampNeg m.toNatClampNeg x).heap.size := by rw [f1]; omega
    simp only [wp_bind', W.writeLoc, wp_pure']
    refine ⟨gd_out cG n.toNatClampNeg s.heap.size x, by rw [State.heap_pushCell_of_lt (h := hlt0)]; exact f2, by rw [o2]; simp, by rw [o3]; exact hlt, ?_, hnext _ _ _ ⟨x + 1, hlt, hrest, ?_⟩⟩
    · rw [o1, o2]
      simp [State.fitsSlot, State.slotType?, f3, hkG, hkindG, fits]
    · rw [f1]; rfl
  · rintro t d' acts' ⟨i, hi, hl, rfl⟩
    have hiN : i = n.toNatClampNeg := by
      rcases Nat.lt_or_ge i n.toNatClampNeg with h | h
      · rw [show n.toNatClampNeg - i = (n.toNatClampNeg - (i + 1)) + 1 from by omega, List.range'_succ] at hl; cases hl
      · omega
    subst hiN
    simp only [wp_pure']
    exact hq _ _
end GDW
section GDS
variable {p : Program} {l : Launch} {e : Env} {R : Room} {s : State} {m : MethodId} {args : Array Value} {below : List Frame} {meth : Method} {c : Code} {T : State} {locs : List Loc} {cells slots : Nat}
theorem gd_stand (X : Stand p l e R s m args below meth c T locs cells slots) (cG cI : ClassId) (N M : Nat) (i : Nat) : Stand p l e R s m args below meth c (gd_fill T cG cI N M i) (locs ++ (List.range i).map fun j => ⟨T.heap.size, j⟩) (cells + 1 + i) (slots + N + i * M) := by
  induction i with
  | zero =>
    have h := X.pushed (gd_out cG N T.heap.size 0)
    rw [(gd_out_f cG N T.heap.size 0).2.2] at h
    simpa [gd_fill] using h
  | succ i ih =>
    obtain ⟨f1, f2, f3, f4⟩ := gd_fill_f T cG cI N M i
    have hlt0 : T.heap.size < (gd_fill T cG cI N M i).heap.size := by rw [f1]; omega
    have hcell : ((gd_fill T cG cI N M i).pushCell (gd_in cI M)).heap[T.heap.size]? = some (gd_out cG N T.heap.size i) := by rw [State.heap_pushCell_of_lt (h := hlt0)]; exact f2
    have h := (ih.pushed (gd_in cI M)).stored hcell i (.ref (T.heap.size + 1 + i))
    have e1 : (gd_in cI M).slots.size = M := by simp [gd_in]
    rw [e1] at h
    have e2 : (locs ++ (List.range (i + 1)).map fun j => (⟨T.heap.size, j⟩ : Loc)) = (locs ++ (List.range i).map fun j => (⟨T.heap.size, j⟩ : Loc)) ++ [⟨T.heap.size, i⟩] := by simp [List.range_succ, List.append_assoc]
    have e3 : slots + N + (i + 1) * M = slots + N + i * M + M := by rw [Nat.succ_mul]; omega
    rw [e2, e3]
    exact h
theorem gd_step (X : Stand p l e R s m args below meth c T locs cells slots) (hexec : p.tables.exec = Jvm.exec) {own : String} {index : Nat} (hown : s.vm.findClass own = some m.cls) (hclink : (Cond.classLink own index ("[" ++ (FieldType.array .int).toString)).before args s = true)
    {cI cG : ClassId} {kG : Class} (hI : s.vm.findClass (FieldType.array .int).toString = some cI) (hkG : s.vm.classes[cG]? = some kG) (hkindG : kG.kind = .array cI (.array .int)) (hG : s.vm.findClass ("[" ++ (FieldType.array .int).toString) = some cG) (harr : (Cond.arrayClass .int).before args s = true)
    {g : JFrame} (hg : g.method = m) (hdg : decode c.code g.pc = .ok (.multianewarray index 2, 4)) {n k : Int32} {rest : List Value} (hstack : g.stack = .int k :: .int n :: rest)
    (hn : ¬ n < 0) (hk : ¬ k < 0) (hb1 : n.toNatClampNeg * 4 ≤ 536870912) (hb2 : k.toNatClampNeg * 4 ≤ 536870912) (hcells : cells + (1 + n.toNatClampNeg) ≤ R.cells) (hslots : slots + (n.toNatClampNeg + n.toNatClampNeg * k.toNatClampNeg) ≤ R.slots) :
    ∃ (vm₁ : Vm),
      Stand p l e R s m args below meth c (gd_fill (T.setVm vm₁) cG cI n.toNatClampNeg k.toNatClampNeg n.toNatClampNeg) locs (cells + 1 + n.toNatClampNeg) (slots + n.toNatClampNeg + n.toNatClampNeg * k.toNatClampNeg) ∧
      ∀ target, Steps p.tables e below ((gd_fill (T.setVm vm₁) cG cI n.toNatClampNeg k.toNatClampNeg n.toNatClampNeg).setTop { g with pc := g.pc + 4, stack := .ref T.heap.size :: rest }) target → Steps p.tables e below (T.setTop g) target := by
  subst hg
  have hpl : e.platform.magicAccessors = ({} : Platform).magicAccessors := by rw [X.admits.platform]
  obtain ⟨cI', kI, cc, hI', hkI, hkindI⟩ := Cond.arrayClass_spec harr
  have eI : cI' = cI := Option.some.inj (hI'.symm.trans hI)
  subst eI
  obtain ⟨c0, hfc0, hcl⟩ := Cond.classLink_spec hown hclink e.platform hpl
  cases hG.symm.trans hfc0
  obtain ⟨hg₁, hwarm₁, hready₁⟩ := State.classEntry (e := e) X.warmed hcl
  generalize T.vm.noted g.method.cls index (.cls cG) = vm₁ at hg₁ hwarm₁ hready₁
  have hal : s.vm.Alike vm₁ := hwarm₁.alike
  obtain ⟨kG₁, hkG₁, heG⟩ := hal.2.2 _ _ hkG
  obtain ⟨kI₁, hkI₁, heI⟩ := hal.2.2 _ _ hkI
  have hkindG₁ : kG₁.kind = .array cI' (.array .int) := by rw [heG]; exact hkindG
  have hkindI₁ : kI₁.kind = .array cc .int := by rw [heI]; exact hkindI
  have X₁ := X.noted hwarm₁
  obtain ⟨hr1, hr2⟩ := X.roomAbove hcells hslots
  have XF := gd_stand X₁ cG cI' n.toNatClampNeg k.toNatClampNeg n.toNatClampNeg
  refine ⟨vm₁, XF.dropFresh (fun x hx => ?_), fun target hrest => ?_⟩
  · obtain ⟨j, -, rfl⟩ := List.mem_map.mp hx
    exact X.heapGrown
  have hl1 : ¬ n.toNatClampNeg > e.platform.arrayLengthLimit := by rw [Launch.admits_arrayLengthLimit X.admits]; omega
  have hh1 : ¬ n.toNatClampNeg * componentBytes (.array .int) > e.platform.maxHeapBytes := by
    rw [Launch.admits_maxHeapBytes X.admits]; show ¬ n.toNatClampNeg * 4 > 536870912; omega
  have hl2 : ¬ k.toNatClampNeg > e.platform.arrayLengthLimit := by rw [Launch.admits_arrayLengthLimit X.admits]; omega
  have hh2 : ¬ k.toNatClampNeg * componentBytes .int > e.platform.maxHeapBytes := by
    rw [Launch.admits_maxHeapBytes X.admits]; show ¬ k.toNatClampNeg * 4 > 536870912; omega
  jvm_step X.here [hexec, hdg]
  simp only [Op.multianewarray.sem, wp_bind', W.resolveClassAt_links (State.method?_setTop g X.here.top) hg₁]
  rw [W.popN, if_neg (by decide)]
  refine ⟨g, State.topJava?_setTop' (s := T.setVm vm₁) g X.here.top, [.int n, .int k], rest, rfl, hstack, ?_⟩
  simp only [List.mapM_cons, List.mapM_nil, wp_bind', wp_pure']
  refine gd_make2 (kG := kG₁) (kI := kI₁) (cI := cI') (cc := cc) hkG₁ hkindG₁ hkI₁ hkindI₁ hn hk hl1 hh1 hl2 hh2 (by show T.heap.size + 1 + _ ≤ _; omega) (by show T.slotsUsed + _ + _ ≤ _; omega) (fun d' acts' => ?_)
  have eS : ((T.setTop g).setVm vm₁).setTop { g with stack := rest } = (T.setVm vm₁).setTop { g with stack := rest } := by
    show ((T.setVm vm₁).setTop g).setTop _ = _
    rw [State.setTop_setTop]
  rw [eS, gd_fill_top]
  simp only [wp_bind', W.mark, W.pushRef, State.topJava?_setTop' _ XF.here.top, Option.some.injEq, exists_eq_left', State.setTop_setTop, State.heap_setTop]
  intro acts
  simp [jvm, XF.here.top]
  exact hrest
end GDS
theorem gd_out_v (cG : ClassId) (N a : Nat) (i : Nat) : gd_out cG N a i = arrV cG N (fun j => va_rf (if j < i then some (a + 1 + j) else none)) := by
  induction i with
  | zero =>
    show ({ cls := cG, slots := Array.replicate N .null, vm := .none } : Cell) = _
    rw [arrV_new]
    refine congrArg (arrV cG N) (funext fun j => ?_)
    simp [va_rf]
  | succ i ih =>
    show (gd_out cG N a i).setSlot i (.ref (a + 1 + i)) = _
    rw [ih, arrV_store]
    refine congrArg (arrV cG N) (funext fun j => ?_)
    by_cases e : j = i
    · subst e
      simp [updV, va_rf]
    · by_cases h : j < i
      · simp [updV, e, h, Nat.lt_succ_of_lt h]
      · simp [updV, e, h, show ¬ j < i + 1 by omega]
section GDK
variable {p : Program} {l : Launch} {e : Env} {R : Room} {s : State} {m : MethodId} {args : Array Value} {below : List Frame} {meth : Method} {c : Code} {H : Heap} {locs : List Loc} {cells slots : Nat} {Q : State → Prop}
variable {pc : Nat} {ls : Array Slot} {rest : List Value} {A : Nat → Prop} {D : va_G} {ws : va_W}
/-- new int[n][m]: the outer row, then its rows -/
theorem kn_g {cc : ByteArray} {ak : Nat → ClassId} (hexec : p.tables.exec = Jvm.exec) (hb : c.code = cc) {own : String} {index : Nat} (hown : s.vm.findClass own = some m.cls) (hclink : (Cond.classLink own index ("[" ++ (FieldType.array .int).toString)).before args s = true) (harr : (Cond.arrayClass .int).before args s = true) (hE : EV D ak s) (hP : va_P D vwCl ws H) (hD : va_D A ws) (hS : va_S A s.heap H locs) (hA : ∀ q, s.heap.size ≤ q → A q)
    {n k : Int32} {N M : Nat} (hn : ¬ n < 0) (hk : ¬ k < 0) (hN : n.toNatClampNeg = N) (hM : k.toNatClampNeg = M) (hb1 : N * 4 ≤ 536870912) (hb2 : M * 4 ≤ 536870912) (hcells : cells + (1 + N) ≤ R.cells) (hslots : slots + (N + N * M) ≤ R.slots) (hdg : decode cc pc = .ok (.multianewarray index 2, 4))
    (kk : ∀ (q : Nat) (H1 : Heap), va_P D vwCl (ws ++ ((q, .inl (ak 6, N, .inr (.inr (.inr (.inr (fun i => if i < N then some (q + 1 + i) else none)))))) :: (List.range N).map (fun i => (q + 1 + i, .inl (ak 0, M, .inl (fun _ => 0)))))) H1 → va_D A (ws ++ ((q, .inl (ak 6, N, .inr (.inr (.inr (.inr (fun i => if i < N then some (q + 1 + i) else none)))))) :: (List.range N).map (fun i => (q + 1 + i, .inl (ak 0, M, .inl (fun _ => 0)))))) → va_S A s.heap H1 locs →
      W p l e R s m args below meth c H1 locs (cells + 1 + N) (slots + N + N * M) Q (F0 m (pc + 4) ls (.ref q :: rest))) : W p l e R s m args below meth c H locs cells slots Q (F0 m pc ls (.int k :: .int n :: rest)) := by
  subst hN
  subst hM
  intro T hT X
  obtain ⟨kG, hkG, hkindG⟩ := hE.2.2.2.2.2
  obtain ⟨vm₁, X', step⟩ := gd_step X hexec hown hclink (hE.1.2 0 _ rfl).2 hkG hkindG (hE.1.2 6 _ rfl).2 harr (g := F0 m pc ls (.int k :: .int n :: rest)) rfl (by rw [hb]; exact hdg) rfl hn hk hb1 hb2 hcells hslots
  generalize hF : gd_fill (T.setVm vm₁) (ak 6) (ak 0) n.toNatClampNeg k.toNatClampNeg n.toNatClampNeg = F at X' step
  have hTh : (T.setVm vm₁).heap = H := hT
  obtain ⟨f1, f2, -, -⟩ := gd_fill_f (T.setVm vm₁) (ak 6) (ak 0) n.toNatClampNeg k.toNatClampNeg n.toNatClampNeg
  rw [hF, hTh] at f1 f2
  have hold : ∀ x : Nat, x < H.size → F.heap[x]? = H[x]? := fun x hx => by
    have := gd_fill_old (T.setVm vm₁) (ak 6) (ak 0) n.toNatClampNeg k.toNatClampNeg (x := x) (by rw [hTh]; exact hx) n.toNatClampNeg
    rw [hF, hTh] at this
    exact this
  have hrow : ∀ j : Nat, j < n.toNatClampNeg → F.heap[H.size + 1 + j]? = some (gd_in (ak 0) k.toNatClampNeg) := fun j hj => by
    have := gd_fill_row (T.setVm vm₁) (ak 6) (ak 0) n.toNatClampNeg k.toNatClampNeg n.toNatClampNeg j hj
    rw [hF, hTh] at this
    exact this
  have hout : gd_out (ak 6) n.toNatClampNeg H.size n.toNatClampNeg = vp_cell (ak 6) (n.toNatClampNeg, .inr (.inr (.inr (.inr (fun i => if i < n.toNatClampNeg then some (H.size + 1 + i) else none))))) := by
    rw [vp_cell_q]
    exact gd_out_v (ak 6) n.toNatClampNeg H.size n.toNatClampNeg
  rw [hout] at f2
  have hin : gd_in (ak 0) k.toNatClampNeg = vp_cell (ak 0) (k.toNatClampNeg, .inl (fun _ => (0 : Int32))) := by
    rw [vp_cell_i, ← arrV_new]
    rfl
  generalize hrs : (List.range n.toNatClampNeg).map (fun i => ((H.size + 1 + i, .inl (ak 0, k.toNatClampNeg, .inl (fun _ => (0 : Int32)))) : Nat × va_E)) = rs
  have hr : ∀ (k9 : Nat) (x : Nat × va_E), rs[k9]? = some x → x.1 = H.size + 1 + k9 ∧ k9 < n.toNatClampNeg ∧ x.2 = .inl (ak 0, k.toNatClampNeg, .inl (fun _ => (0 : Int32))) := fun k9 x hx => by
    rw [← hrs, List.getElem?_map] at hx
    by_cases h9 : k9 < n.toNatClampNeg
    · rw [List.getElem?_range h9] at hx
      cases hx
      exact ⟨rfl, h9, rfl⟩
    · rw [List.getElem?_eq_none (by rw [List.length_range]; omega)] at hx
      cases hx
  have hP0 : va_P D vwCl ws F.heap := hP.kept (fun k9 x hx => hold x.1 ((hP k9 x hx).lt))
  have hPt : va_P D vwCl ((H.size, .inl (ak 6, n.toNatClampNeg, .inr (.inr (.inr (.inr (fun i => if i < n.toNatClampNeg then some (H.size + 1 + i) else none)))))) :: rs) F.heap := by
    intro k9 x hx
    cases k9 with
    | zero =>
      cases hx
      exact f2
    | succ k9 =>
      obtain ⟨g1, g2, g3⟩ := hr k9 x hx
      obtain ⟨x1, x2⟩ := x
      cases g1
      cases g3
      exact (hrow k9 g2).trans (congrArg some hin)
  have hle : ∀ (k9 : Nat) (x : Nat × va_E), ((H.size, .inl (ak 6, n.toNatClampNeg, .inr (.inr (.inr (.inr (fun i => if i < n.toNatClampNeg then some (H.size + 1 + i) else none)))))) :: rs : va_W)[k9]? = some x → x.1 = H.size + k9 := by
    intro k9 x hx
    cases k9 with
    | zero => cases hx; rfl
    | succ k9 => rw [(hr k9 x hx).1]; omega
  have hDt : va_D A ((H.size, .inl (ak 6, n.toNatClampNeg, .inr (.inr (.inr (.inr (fun i => if i < n.toNatClampNeg then some (H.size + 1 + i) else none)))))) :: rs) := ⟨fun i j x y hi hj hxy => by have h1 := hle i x hi; have h2 := hle j y hj; omega, fun k9 x hx => hA _ (by rw [hle k9 x hx]; exact Nat.le_trans hS.1 (Nat.le_add_right _ _))⟩
  obtain ⟨t2, a1, b1⟩ := kk H.size F.heap (by rw [hrs]; exact hP0.app hPt) (by rw [hrs]; exact hD.app hDt (fun i j x y hx hy hxy => by have h1 := (hP i x hx).lt; have h2 := hle j y hy; omega)) ⟨Nat.le_trans hS.1 (by rw [f1]; omega), fun x h1 h2 => (hold x (Nat.lt_of_lt_of_le h1 hS.1)).trans (hS.2.1 x h1 h2), hS.2.2⟩ F rfl X'
  refine ⟨t2, step t2 ?_, b1⟩
  rw [hT]
  exact a1
end GDK
end
section
-- cells that nobody writes in a call: read, never named among its own
def KT (D : va_G) (A : Nat → Prop) (cw : va_W) (H : Heap) : Prop := va_P D vwCl cw H ∧ ∀ (k : Nat) (q : Nat × va_E), cw[k]? = some q → ¬ A q.1
theorem KT.kept {D : va_G} {A : Nat → Prop} {cw : va_W} {H H1 : Heap} (h : KT D A cw H) (hq : ∀ a : Nat, a < H.size → ¬ A a → H1[a]? = H[a]?) : KT D A cw H1 := ⟨h.1.kept (fun k q hk => hq q.1 ((h.1 k q hk).lt) (h.2 k q hk)), h.2⟩
theorem KT.narrow {D : va_G} {A B : Nat → Prop} {cw : va_W} {H : Heap} (h : KT D A cw H) (hAB : ∀ q, B q → A q) : KT D B cw H := ⟨h.1, fun k q hk z => h.2 k q hk (hAB _ z)⟩
theorem KT.sub {D : va_G} {A : Nat → Prop} {cw cw' : va_W} {H : Heap} (h : KT D A cw H) (is : List Nat) (hs : is.map (fun i => cw[i]?) = cw'.map some) : KT D A cw' H := by
  have at' : ∀ (k : Nat) (q : Nat × va_E), cw'[k]? = some q → ∃ i : Nat, cw[i]? = some q := by
    intro k q hq
    have h1 : (is.map (fun i => cw[i]?))[k]? = some (some q) := by rw [hs, List.getElem?_map, hq]; rfl
    rw [List.getElem?_map] at h1
    cases hi : is[k]? with
    | none => rw [hi] at h1; cases h1
    | some i => rw [hi] at h1; exact ⟨i, Option.some.inj h1⟩
  exact ⟨fun k q hk => (at' k q hk).elim (fun i hi => h.1 i q hi), fun k q hk => (at' k q hk).elim (fun i hi => h.2 i q hi)⟩
def cPreK (D : va_G) (ak : Nat → ClassId) (ad : Nat → Nat) (av : List Value) (ws : va_W) (sz : Nat) (cw : va_W) : Array Value → State → Prop := fun v U => cPre D ak ad av ws sz v U ∧ KT D (va_A ws sz) cw U.heap
theorem cPreK.blind {D : va_G} {ak : Nat → ClassId} {ad : Nat → Nat} {av : List Value} {ws : va_W} {sz : Nat} {cw : va_W} : FrameBlind (cPreK D ak ad av ws sz cw) := fun a U g mk q => ⟨cPre.blind a U g mk q.1, q.2⟩
section KCK
variable {D : va_G} {ak : Nat → ClassId} {ad : Nat → Nat} {s : State} {H : Heap} {A : Nat → Prop} {ws cw : va_W} {locs : List Loc}
theorem kc_preK {wc ck : va_W} {As : List Value} (hKT : KT D A cw s.heap) (hE : EV D ak s) (hT : ST D ak ad A s s.heap) (hP : va_P D vwCl ws H) (hD : va_D A ws) (hS : va_S A s.heap H locs) (hA : ∀ q, s.heap.size ≤ q → A q) (isC isK : List Nat) (hn : va_nd isC = true) (hC : isC.map (fun i => ws[i]?) = wc.map some) (hC2 : isC.filterMap (fun i => ws[i]?) = wc) (hk : isK.map (fun i => cw[i]?) = ck.map some) : PreS s H (cPreK D ak ad As wc H.size ck) As := by
  have h := kc_pre (As := As) hE hT hP hD hS hA isC hn hC hC2
  refine ⟨cPreK.blind, fun U hU hW => ⟨h.2 U hU hW, ?_⟩⟩
  rw [hU]
  exact ((hKT.kept hS.2.1).narrow (va_free hD hS hA isC hC)).sub isK hk
theorem kc_preVK {wc ck : va_W} {As : List Value} {C : String} {b : Nat} (hKT : KT D A cw s.heap) (hE : EV D ak s) (hT : ST D ak ad A s s.heap) (hP : va_P D vwCl ws H) (hD : va_D A ws) (hS : va_S A s.heap H locs) (hA : ∀ q, s.heap.size ≤ q → A q) (isC isK : List Nat) (hn : va_nd isC = true) (hC : isC.map (fun i => ws[i]?) = wc.map some) (hC2 : isC.filterMap (fun i => ws[i]?) = wc) (hk : isK.map (fun i => cw[i]?) = ck.map some) {wq : va_W} (hQ : va_P D vwCl wq H) (q0 ci : Nat) {fs : List Value} {q : vw_C} (hc : vwCl[ci]? = some q) (hq : q.1 = C) (he : wq[q0]? = some (b, .inr (ci, fs))) : PreV s H C b (cPreK D ak ad (.ref b :: As) wc H.size ck) As := by
  subst hq
  have h := kc_preK (As := .ref b :: As) hKT hE hT hP hD hS hA isC isK hn hC hC2 hk
  exact ⟨h.1, va_recv hE.1 hQ hc he, h.2⟩
theorem kc_preVW {wc : va_W} {As : List Value} {C : String} {b : Nat} (hE : EV D ak s) (hT : ST D ak ad A s s.heap) (hP : va_P D vwCl ws H) (hD : va_D A ws) (hS : va_S A s.heap H locs) (hA : ∀ q, s.heap.size ≤ q → A q) (isC : List Nat) (hn : va_nd isC = true) (hC : isC.map (fun i => ws[i]?) = wc.map some) (hC2 : isC.filterMap (fun i => ws[i]?) = wc) {wq : va_W} (hQ : va_P D vwCl wq H) (q0 ci : Nat) {fs : List Value} {q : vw_C} (hc : vwCl[ci]? = some q) (hq : q.1 = C) (he : wq[q0]? = some (b, .inr (ci, fs))) : PreV s H C b (cPre D ak ad (.ref b :: As) wc H.size) As := by
  subst hq
  have h := kc_pre (As := .ref b :: As) hE hT hP hD hS hA isC hn hC hC2
  exact ⟨h.1, va_recv hE.1 hQ hc he, h.2⟩
end KCK
end
section
theorem bl_nar {v : Int32} (h : v = 0 ∨ v = 1) : narrow .boolean (.int v) = .int v := by rcases h with rfl | rfl <;> rfl
theorem bl_zn {v : Int32} (h : v = 0 ∨ v = 1) : narrow .boolean (.int v) = .int v := bl_nar h
end
section
theorem dX8_within_0 : decode cX8_within 0 = .ok (.iload_n 0, 1) := by decide +kernel
theorem dX8_within_1 : decode cX8_within 1 = .ok (.iload_n 1, 1) := by decide +kernel
theorem dX8_within_2 : decode cX8_within 2 = .ok (.if_icmp .lt 12, 3) := by decide +kernel
theorem dX8_within_14 : decode cX8_within 14 = .ok (.iconst 0, 1) := by decide +kernel
theorem dX8_within_5 : decode cX8_within 5 = .ok (.iload_n 0, 1) := by decide +kernel
theorem dX8_within_6 : decode cX8_within 6 = .ok (.iload_n 2, 1) := by decide +kernel
theorem dX8_within_7 : decode cX8_within 7 = .ok (.if_icmp .gt 7, 3) := by decide +kernel
theorem dX8_within_10 : decode cX8_within 10 = .ok (.iconst 1, 1) := by decide +kernel
theorem dX8_within_11 : decode cX8_within 11 = .ok (.goto 4, 3) := by decide +kernel
theorem dX8_within_15 : decode cX8_within 15 = .ok (.ireturn, 1) := by decide +kernel
theorem dX8_feed_93 : decode cX8_feed 93 = .ok (.aload_n 0, 1) := by decide +kernel
theorem dX8_feed_94 : decode cX8_feed 94 = .ok (.getfield 7, 3) := by decide +kernel
theorem dX8_feed_97 : decode cX8_feed 97 = .ok (.aload_n 0, 1) := by decide +kernel
theorem dX8_feed_98 : decode cX8_feed 98 = .ok (.getfield 159, 3) := by decide +kernel
theorem dX8_feed_101 : decode cX8_feed 101 = .ok (.iload 10, 2) := by decide +kernel
theorem dX8_feed_103 : decode cX8_feed 103 = .ok (.iastore, 1) := by decide +kernel
theorem dX8_feed_104 : decode cX8_feed 104 = .ok (.aload_n 0, 1) := by decide +kernel
theorem dX8_feed_105 : decode cX8_feed 105 = .ok (.dup, 1) := by decide +kernel
theorem dX8_feed_106 : decode cX8_feed 106 = .ok (.getfield 159, 3) := by decide +kernel
theorem dX8_feed_109 : decode cX8_feed 109 = .ok (.iconst 1, 1) := by decide +kernel
theorem dX8_feed_110 : decode cX8_feed 110 = .ok (.iadd, 1) := by decide +kernel
theorem dX8_feed_111 : decode cX8_feed 111 = .ok (.putfield 159, 3) := by decide +kernel
theorem dX8_feed_114 : decode cX8_feed 114 = .ok (.iinc 7 1, 3) := by decide +kernel
theorem dX8_feed_117 : decode cX8_feed 117 = .ok (.goto (-109), 3) := by decide +kernel
theorem dX8_feed_39 : decode cX8_feed 39 = .ok (.lstore 8, 2) := by decide +kernel
theorem dX8_feed_41 : decode cX8_feed 41 = .ok (.lload 8, 2) := by decide +kernel
theorem dX8_feed_43 : decode cX8_feed 43 = .ok (.bipush 56, 2) := by decide +kernel
theorem dX8_feed_45 : decode cX8_feed 45 = .ok (.bipush 8, 2) := by decide +kernel
theorem dX8_feed_47 : decode cX8_feed 47 = .ok (.iload 7, 2) := by decide +kernel
theorem dX8_feed_49 : decode cX8_feed 49 = .ok (.bipush 7, 2) := by decide +kernel
theorem dX8_feed_51 : decode cX8_feed 51 = .ok (.iand, 1) := by decide +kernel
theorem dX8_feed_52 : decode cX8_feed 52 = .ok (.imul, 1) := by decide +kernel
theorem dX8_feed_53 : decode cX8_feed 53 = .ok (.isub, 1) := by decide +kernel
theorem dX8_feed_54 : decode cX8_feed 54 = .ok (.lushr, 1) := by decide +kernel
theorem dX8_feed_55 : decode cX8_feed 55 = .ok (.ldc2_w 157, 3) := by decide +kernel
theorem dX8_feed_58 : decode cX8_feed 58 = .ok (.land, 1) := by decide +kernel
theorem dX8_feed_59 : decode cX8_feed 59 = .ok (.l2i, 1) := by decide +kernel
theorem dX8_feed_60 : decode cX8_feed 60 = .ok (.istore 10, 2) := by decide +kernel
theorem dX8_feed_62 : decode cX8_feed 62 = .ok (.aload_n 0, 1) := by decide +kernel
theorem dX8_feed_63 : decode cX8_feed 63 = .ok (.getfield 159, 3) := by decide +kernel
theorem dX8_feed_66 : decode cX8_feed 66 = .ok (.sipush 1000, 3) := by decide +kernel
theorem dX8_feed_69 : decode cX8_feed 69 = .ok (.if_icmp .ge 45, 3) := by decide +kernel
theorem dX8_feed_72 : decode cX8_feed 72 = .ok (.iload 10, 2) := by decide +kernel
theorem dX8_feed_74 : decode cX8_feed 74 = .ok (.bipush 10, 2) := by decide +kernel
theorem dX8_feed_76 : decode cX8_feed 76 = .ok (.if_icmp .eq 17, 3) := by decide +kernel
theorem dX8_feed_79 : decode cX8_feed 79 = .ok (.iload 10, 2) := by decide +kernel
theorem dX8_feed_81 : decode cX8_feed 81 = .ok (.bipush 32, 2) := by decide +kernel
theorem dX8_feed_83 : decode cX8_feed 83 = .ok (.if_icmp .lt 31, 3) := by decide +kernel
theorem dX8_feed_86 : decode cX8_feed 86 = .ok (.iload 10, 2) := by decide +kernel
theorem dX8_feed_88 : decode cX8_feed 88 = .ok (.bipush 126, 2) := by decide +kernel
theorem dX8_feed_90 : decode cX8_feed 90 = .ok (.if_icmp .gt 24, 3) := by decide +kernel
theorem dX8_feed_8 : decode cX8_feed 8 = .ok (.iload 7, 2) := by decide +kernel
theorem dX8_feed_10 : decode cX8_feed 10 = .ok (.bipush 24, 2) := by decide +kernel
theorem dX8_feed_12 : decode cX8_feed 12 = .ok (.if_icmp .ge 108, 3) := by decide +kernel
theorem dX8_feed_120 : decode cX8_feed 120 = .ok (.aload_n 0, 1) := by decide +kernel
theorem dX8_feed_121 : decode cX8_feed 121 = .ok (.getfield 159, 3) := by decide +kernel
theorem dX8_feed_15 : decode cX8_feed 15 = .ok (.iload 7, 2) := by decide +kernel
theorem dX8_feed_17 : decode cX8_feed 17 = .ok (.bipush 8, 2) := by decide +kernel
theorem dX8_feed_19 : decode cX8_feed 19 = .ok (.if_icmp .ge 7, 3) := by decide +kernel
theorem dX8_feed_26 : decode cX8_feed 26 = .ok (.iload 7, 2) := by decide +kernel
theorem dX8_feed_28 : decode cX8_feed 28 = .ok (.bipush 16, 2) := by decide +kernel
theorem dX8_feed_30 : decode cX8_feed 30 = .ok (.if_icmp .ge 7, 3) := by decide +kernel
theorem dX8_feed_37 : decode cX8_feed 37 = .ok (.lload 5, 2) := by decide +kernel
theorem dX8_feed_33 : decode cX8_feed 33 = .ok (.lload_n 3, 1) := by decide +kernel
theorem dX8_feed_34 : decode cX8_feed 34 = .ok (.goto 5, 3) := by decide +kernel
theorem dX8_feed_22 : decode cX8_feed 22 = .ok (.lload_n 1, 1) := by decide +kernel
theorem dX8_feed_23 : decode cX8_feed 23 = .ok (.goto 16, 3) := by decide +kernel
theorem dX8_feed_0 : decode cX8_feed 0 = .ok (.aload_n 0, 1) := by decide +kernel
theorem dX8_feed_1 : decode cX8_feed 1 = .ok (.iconst 0, 1) := by decide +kernel
theorem dX8_feed_2 : decode cX8_feed 2 = .ok (.putfield 153, 3) := by decide +kernel
theorem dX8_feed_5 : decode cX8_feed 5 = .ok (.iconst 0, 1) := by decide +kernel
theorem dX8_feed_6 : decode cX8_feed 6 = .ok (.istore 7, 2) := by decide +kernel
theorem dX8_feed_124 : decode cX8_feed 124 = .ok (.ireturn, 1) := by decide +kernel
theorem dX8_signAt_0 : decode cX8_signAt 0 = .ok (.iload_n 1, 1) := by decide +kernel
theorem dX8_signAt_1 : decode cX8_signAt 1 = .ok (.aload_n 0, 1) := by decide +kernel
theorem dX8_signAt_2 : decode cX8_signAt 2 = .ok (.getfield 162, 3) := by decide +kernel
theorem dX8_signAt_5 : decode cX8_signAt 5 = .ok (.if_icmp .ge 12, 3) := by decide +kernel
theorem dX8_signAt_17 : decode cX8_signAt 17 = .ok (.iconst 0, 1) := by decide +kernel
theorem dX8_signAt_8 : decode cX8_signAt 8 = .ok (.aload_n 0, 1) := by decide +kernel
theorem dX8_signAt_9 : decode cX8_signAt 9 = .ok (.getfield 7, 3) := by decide +kernel
theorem dX8_signAt_12 : decode cX8_signAt 12 = .ok (.iload_n 1, 1) := by decide +kernel
theorem dX8_signAt_13 : decode cX8_signAt 13 = .ok (.iaload, 1) := by decide +kernel
theorem dX8_signAt_14 : decode cX8_signAt 14 = .ok (.goto 4, 3) := by decide +kernel
theorem dX8_signAt_18 : decode cX8_signAt 18 = .ok (.ireturn, 1) := by decide +kernel
def mob (am : Nat → Nat) (x0 : Int32) (x1 : Int32) (x3 : Int32) (x4 : Int32) (x5 : Int32) (x6 : Int32) (x7 : Int64) (x8 : Int32) (x9 : Int32) (x29 : Int32) (x42 : Int32) (x43 : Int32) (x44 : Int32) (x45 : Int32) (x46 : Int32) (x49 : Int32) (x53 : Int32) (x54 : Int32) (x55 : Int32) (x56 : Int32) (x57 : Int32) (x68 : Int32) : List Value := [.int x0, .int x1, .ref (am 0), .int x3, .int x4, .int x5, .int x6, .long x7, .int x8, .int x9, .ref (am 1), .ref (am 2), .ref (am 3), .ref (am 4), .ref (am 5), .ref (am 6), .ref (am 7), .ref (am 8), .ref (am 9), .ref (am 10), .ref (am 11), .ref (am 12), .ref (am 13), .ref (am 14), .ref (am 15), .ref (am 16), .ref (am 17), .ref (am 18), .ref (am 19), .int x29, .ref (am 20), .ref (am 21), .ref (am 22), .ref (am 23), .ref (am 24), .ref (am 25), .ref (am 26), .ref (am 27), .ref (am 28), .ref (am 29), .ref (am 30), .ref (am 31), .int x42, .int x43, .int x44, .int x45, .int x46, .ref (am 32), .ref (am 33), .int x49, .ref (am 34), .ref (am 35), .ref (am 36), .int x53, .int x54, .int x55, .int x56, .int x57, .ref (am 37), .ref (am 38), .ref (am 39), .ref (am 40), .ref (am 41), .ref (am 42), .ref (am 43), .ref (am 44), .ref (am 45), .ref (am 46), .int x68]

def wp_X8_within (v : Int32) (lo : Int32) (hi : Int32)  (Φ : Int32 → Prop) : Prop := (v < lo → Φ 0 ) ∧ (¬ v < lo → (hi < v → Φ 0 ) ∧ (¬ hi < v → Φ 1 ))
set_option maxHeartbeats 4000000 in
set_option maxRecDepth 100000 in
theorem kj_X8_within_e {p : Program} {l : Launch} {e : Env} {R : Room} {s : State} {m : MethodId} {args : Array Value} {below : List Frame} {meth : Method} {c : Code} {cells slots : Nat} {Q : State → Prop} {A : Nat → Prop} {D : va_G} {ak : Nat → ClassId} {ad : Nat → Nat} (hx : p.tables.exec = Jvm.exec) (hb : c.code = cX8_within) (hown : s.vm.findClass RX8 = some m.cls) (hts : ∀ w ∈ wsX8_within, w.before args s = true) (hml : c.maxLocals = 3) (hE : EV D ak s) (hT : ST D ak ad A s s.heap) (hA : ∀ q, s.heap.size ≤ q → A q) (v : Int32) (lo : Int32) (hi : Int32)  (Φ : Int32 → Prop)
    (kR15 : ∀ (r : Int32)  (H : Heap) (locs : List Loc) (ls : Array Slot), (r = 0 ∨ r = 1) → Φ r  → va_P D vwCl [] H → va_D A [] → va_S A s.heap H locs → W p l e R s m args below meth c H locs cells slots Q (F0 m 15 ls [.int r]))
    : ∀  (H : Heap) (locs : List Loc) (ls : Array Slot), wp_X8_within v lo hi  Φ → va_P D vwCl [] H → va_D A [] → va_S A s.heap H locs → lv_has ls 3 [(0, .int (v)), (1, .int (lo)), (2, .int (hi))] → W p l e R s m args below meth c H locs cells slots Q (F0 m 0 ls ([])) := by
  intro  H locs ls hw hP hD hS hl
  delta wp_X8_within at hw
  refine lv_iload_n hx hb dX8_within_0 rfl (lv_at hl 0 rfl) ?_
  refine lv_iload_n hx hb dX8_within_1 rfl (lv_at hl 1 rfl) ?_
  refine lv_icmp_lt (tgt := 14) hx hb dX8_within_2 (by decide) (fun c_1 => ?_) (fun c_1 => ?_)
  · replace hw := hw.1 c_1
    refine lv_iconst (v := 0) hx hb dX8_within_14 (by decide) ?_
    exact kR15 0  _ _ _ (Or.inl rfl) hw hP hD hS
  · replace hw := hw.2 c_1
    refine lv_iload_n hx hb dX8_within_5 rfl (lv_at hl 0 rfl) ?_
    refine lv_iload_n hx hb dX8_within_6 rfl (lv_at hl 2 rfl) ?_
    refine lv_icmp_gt (tgt := 14) hx hb dX8_within_7 (by decide) (fun c_2 => ?_) (fun c_2 => ?_)
    · replace hw := hw.1 c_2
      refine lv_iconst (v := 0) hx hb dX8_within_14 (by decide) ?_
      exact kR15 0  _ _ _ (Or.inl rfl) hw hP hD hS
    · replace hw := hw.2 c_2
      refine lv_iconst (v := 1) hx hb dX8_within_10 (by decide) ?_
      refine lv_goto (tgt := 15) hx hb dX8_within_11 (by decide) ?_
      exact kR15 1  _ _ _ (Or.inr rfl) hw hP hD hS
set_option maxHeartbeats 4000000 in
set_option maxRecDepth 100000 in
theorem c_X8_within (l : Launch) (D : va_G) (ak : Nat → ClassId) (ad : Nat → Nat) (sz : Nat) (v : Int32) (lo : Int32) (hi : Int32) (Φ : Int32 → Prop) (hf : wp_X8_within v lo hi Φ) : Met l yX8_within wsX8_within ({ frames := 0, cells := 0, slots := 0, locals := 0 }) (cPre D ak ad [.int (v), .int (lo), .int (hi)] ([]) sz) (cI D (S := Unit) (fun (r : Int32) (u : Unit) => Φ r ) (fun u => []) ([]) sz) 0 0 (va_A ([]) sz) := by
  refine Met.ofW (cc := cX8_within) (maxL := 3) (ret := (some .boolean)) (by decide) rfl ?_
  intro p e s m args below meth c s₁ B hml hv
  obtain ⟨rfl, hsz, hP, hE, hD0, hT⟩ := hv
  have hx := B.exec
  have hb := B.bytes
  have hr := B.returns
  have hts := atoms_spec (ws := wsX8_within) B.pre
  have hown : s.vm.findClass RX8 = some m.cls := findClass_of_methodNamed B.named
  have hlocks := B.notSynchronized
  subst hsz
  have hD := hD0.self (sz := s.heap.size)
  generalize hAe : va_A ([]) s.heap.size = A at hD hT ⊢
  have hA : ∀ q : Nat, s.heap.size ≤ q → A q := fun q h => by rw [← hAe]; exact Or.inr h
  have hS : va_S A s.heap s.heap [] := va_S.rf
  have hl := lv_entry ([.int (v), .int (lo), .int (hi)]) (n := 3) (Nat.le_of_ble_eq_true rfl)
  rw [lg_entry_eq]
  generalize (lg_sl ([.int (v), .int (lo), .int (hi)]) ++ List.replicate (3 - (lg_sl ([.int (v), .int (lo), .int (hi)])).length) Slot.unset).toArray = ls at hl ⊢
  have hl : lv_has ls 3 [(0, .int (v)), (1, .int (lo)), (2, .int (hi))] := hl
  exact kj_X8_within_e hx hb hown hts hml hE hT hA v lo hi Φ (fun r  H locs ls hz hw hP hD hS => W.zret (v := r) hx hb hr (bl_zn hz) (fun t ht hW => ⟨⟨r, (), rfl, hw, by rw [ht]; exact hP, by rw [hAe]; exact hD⟩, by rw [hAe]; exact hS.F ht⟩) hS.2.2 dX8_within_15)  _ _ _ hf hP hD hS hl

def wW_X8_feed (ak : Nat → ClassId) (ad : Nat → Nat) (h : Nat) (am : Nat → Nat) (Fthrown : Int32) (Ftaped : Int32) (Fsize : Int32) (Fplace : Int32) (Fbegin : Int32) (Ftoken : Int32) (Fword : Int64) (Ftold : Int32) (Fwrong : Int32) (Fcode : Int32) (Fat : Int32) (Fway : Int32) (Fnext : Int32) (FisEnd : Int32) (FisFallen : Int32) (Fwritten : Int32) (Fmade : Int32) (Fstate : Int32) (FhandNext : Int32) (FhandSteps : Int32) (FhandWritten : Int32) (FmarkAt : Int32) (Atape : Nat → Int32) : va_W := [(h, .inr (7, mob am (Fthrown) (Ftaped) (Fsize) (Fplace) (Fbegin) (Ftoken) (Fword) (Ftold) (Fwrong) (Fcode) (Fat) (Fway) (Fnext) (FisEnd) (FisFallen) (Fwritten) (Fmade) (Fstate) (FhandNext) (FhandSteps) (FhandWritten) (FmarkAt))), ((am 0), .inl (ak 0, 1000, .inl (Atape)))]
def kf_X8_feed_93 (xa : Int64) (xb : Int64) (xc : Int64) (κ8 : Int32 → Int32 → (Nat → Int32) → Int32 → Prop) (Φ : Int32 → Int32 → Int32 → (Nat → Int32) → Prop) (Fthrown : Int32) (Ftaped : Int32) (Atape : Nat → Int32) (l7 : Int32) (l10 : Int32) : Prop := vp_in Ftaped 1000 ∧ κ8 Fthrown (Ftaped + 1) (upd Atape (Ftaped).toNatClampNeg l10) (l7 + 1)
set_option maxHeartbeats 4000000 in
set_option maxRecDepth 100000 in
theorem kj_X8_feed_93 {p : Program} {l : Launch} {e : Env} {R : Room} {s : State} {m : MethodId} {args : Array Value} {below : List Frame} {meth : Method} {c : Code} {cells slots : Nat} {Q : State → Prop} {A : Nat → Prop} {D : va_G} {ak : Nat → ClassId} {ad : Nat → Nat} (hx : p.tables.exec = Jvm.exec) (hb : c.code = cX8_feed) (hown : s.vm.findClass RX8 = some m.cls) (hts : ∀ w ∈ wsX8_feed, w.before args s = true) (hml : c.maxLocals = 11) (hE : EV D ak s) (hT : ST D ak ad A s s.heap) (hA : ∀ q, s.heap.size ≤ q → A q) (h : Nat) (am : Nat → Nat) (Fsize : Int32) (Fplace : Int32) (Fbegin : Int32) (Ftoken : Int32) (Fword : Int64) (Ftold : Int32) (Fwrong : Int32) (Fcode : Int32) (Fat : Int32) (Fway : Int32) (Fnext : Int32) (FisEnd : Int32) (FisFallen : Int32) (Fwritten : Int32) (Fmade : Int32) (Fstate : Int32) (FhandNext : Int32) (FhandSteps : Int32) (FhandWritten : Int32) (FmarkAt : Int32) (xa : Int64) (xb : Int64) (xc : Int64) (κ8 : Int32 → Int32 → (Nat → Int32) → Int32 → Prop) (Φ : Int32 → Int32 → Int32 → (Nat → Int32) → Prop)
    (kk8 : ∀ (Fthrown : Int32) (Ftaped : Int32) (Atape : Nat → Int32) (l7 : Int32) (H : Heap) (locs : List Loc) (ls : Array Slot), κ8 Fthrown Ftaped Atape l7 → va_P D vwCl (wW_X8_feed ak ad h am Fthrown Ftaped Fsize Fplace Fbegin Ftoken Fword Ftold Fwrong Fcode Fat Fway Fnext FisEnd FisFallen Fwritten Fmade Fstate FhandNext FhandSteps FhandWritten FmarkAt Atape) H → va_D A (wW_X8_feed ak ad h am Fthrown Ftaped Fsize Fplace Fbegin Ftoken Fword Ftold Fwrong Fcode Fat Fway Fnext FisEnd FisFallen Fwritten Fmade Fstate FhandNext FhandSteps FhandWritten FmarkAt Atape) → va_S A s.heap H locs → lv_has ls 11 [(0, .ref h), (1, .long (xa)), (3, .long (xb)), (5, .long (xc)), (7, .int (l7))] → W p l e R s m args below meth c H locs cells slots Q (F0 m 8 ls ([])))
    (kR124 : ∀ (r : Int32) (Fthrown : Int32) (Ftaped : Int32) (Atape : Nat → Int32) (H : Heap) (locs : List Loc) (ls : Array Slot), Φ r Fthrown Ftaped Atape → va_P D vwCl (wW_X8_feed ak ad h am Fthrown Ftaped Fsize Fplace Fbegin Ftoken Fword Ftold Fwrong Fcode Fat Fway Fnext FisEnd FisFallen Fwritten Fmade Fstate FhandNext FhandSteps FhandWritten FmarkAt Atape) H → va_D A (wW_X8_feed ak ad h am Fthrown Ftaped Fsize Fplace Fbegin Ftoken Fword Ftold Fwrong Fcode Fat Fway Fnext FisEnd FisFallen Fwritten Fmade Fstate FhandNext FhandSteps FhandWritten FmarkAt Atape) → va_S A s.heap H locs → W p l e R s m args below meth c H locs cells slots Q (F0 m 124 ls [.int r]))
    : ∀ (Fthrown : Int32) (Ftaped : Int32) (Atape : Nat → Int32) (l7 : Int32) (l10 : Int32) (H : Heap) (locs : List Loc) (ls : Array Slot), kf_X8_feed_93 xa xb xc κ8 Φ Fthrown Ftaped Atape l7 l10 → va_P D vwCl (wW_X8_feed ak ad h am Fthrown Ftaped Fsize Fplace Fbegin Ftoken Fword Ftold Fwrong Fcode Fat Fway Fnext FisEnd FisFallen Fwritten Fmade Fstate FhandNext FhandSteps FhandWritten FmarkAt Atape) H → va_D A (wW_X8_feed ak ad h am Fthrown Ftaped Fsize Fplace Fbegin Ftoken Fword Ftold Fwrong Fcode Fat Fway Fnext FisEnd FisFallen Fwritten Fmade Fstate FhandNext FhandSteps FhandWritten FmarkAt Atape) → va_S A s.heap H locs → lv_has ls 11 [(0, .ref h), (1, .long (xa)), (3, .long (xb)), (5, .long (xc)), (7, .int (l7)), (10, .int (l10))] → W p l e R s m args below meth c H locs cells slots Q (F0 m 93 ls ([])) := by
  intro Fthrown Ftaped Atape l7 l10 H locs ls hw hP hD hS hl
  delta kf_X8_feed_93 at hw
  refine lv_aload_n hx hb dX8_feed_93 rfl (lv_at hl 0 rfl) ?_
  refine vt_get (D := D) (ci := 7) (v := .ref (am 0)) (C := RX8) (T := TX8) (N := 69) hx hb hts (fun w h => wm_c (wc_X8 w h)) hown hE.1 hP 0 rfl rfl 2 (by decide) tX8_2 (hts (.fieldLink RX8 7 "WornLinesModel" "tape" "[I") (wm_c hw_0)) (fun _ h9 => h9) rfl dX8_feed_94 ?_
  refine lv_aload_n hx hb dX8_feed_97 rfl (lv_at hl 0 rfl) ?_
  refine vt_get (D := D) (ci := 7) (v := .int (Ftaped)) (C := RX8) (T := TX8) (N := 69) hx hb hts (fun w h => wm_c (wc_X8 w h)) hown hE.1 hP 0 rfl rfl 1 (by decide) tX8_1 (hts (.fieldLink RX8 159 "WornLinesModel" "taped" "I") (wm_c hw_1)) (fun _ h9 => h9) rfl dX8_feed_98 ?_
  refine lv_iload hx hb dX8_feed_101 (lv_at hl 5 rfl) ?_
  obtain ⟨h_6, hw⟩ := hw
  refine va_iast hx hb hE.1 hP hD hS 1 0 rfl rfl (h_6) dX8_feed_103 (fun H locs hP hD hS => ?_)
  have hP : va_P D vwCl (wW_X8_feed ak ad h am Fthrown Ftaped Fsize Fplace Fbegin Ftoken Fword Ftold Fwrong Fcode Fat Fway Fnext FisEnd FisFallen Fwritten Fmade Fstate FhandNext FhandSteps FhandWritten FmarkAt (upd Atape (Ftaped).toNatClampNeg l10)) H := hP
  have hD : va_D A (wW_X8_feed ak ad h am Fthrown Ftaped Fsize Fplace Fbegin Ftoken Fword Ftold Fwrong Fcode Fat Fway Fnext FisEnd FisFallen Fwritten Fmade Fstate FhandNext FhandSteps FhandWritten FmarkAt (upd Atape (Ftaped).toNatClampNeg l10)) := hD
  refine lv_aload_n hx hb dX8_feed_104 rfl (lv_at hl 0 rfl) ?_
  refine lv_dup hx hb dX8_feed_105 rfl ?_
  refine vt_get (D := D) (ci := 7) (v := .int (Ftaped)) (C := RX8) (T := TX8) (N := 69) hx hb hts (fun w h => wm_c (wc_X8 w h)) hown hE.1 hP 0 rfl rfl 1 (by decide) tX8_1 (hts (.fieldLink RX8 159 "WornLinesModel" "taped" "I") (wm_c hw_1)) (fun _ h9 => h9) rfl dX8_feed_106 ?_
  refine lv_iconst (v := 1) hx hb dX8_feed_109 (by decide) ?_
  refine lv_iadd hx hb dX8_feed_110 ?_
  refine vt_put (D := D) (ci := 7) (v := .int (Ftaped + 1)) (ty := .int) (C := RX8) (T := TX8) (N := 69) hx hb hts (fun w h => wm_c (wc_X8 w h)) tyX8 tyX8_ok nmX8 hown hE.1 hP hD hS 0 rfl rfl 1 (by decide) tX8_1 (hts (.fieldLink RX8 159 "WornLinesModel" "taped" "I") (wm_c hw_1)) (fun _ h9 => h9) rfl pf_0 (rfl) rfl (Nat.le_of_ble_eq_true rfl) dX8_feed_111 (fun H locs hP hD hS => ?_)
  have hP : va_P D vwCl (wW_X8_feed ak ad h am Fthrown (Ftaped + 1) Fsize Fplace Fbegin Ftoken Fword Ftold Fwrong Fcode Fat Fway Fnext FisEnd FisFallen Fwritten Fmade Fstate FhandNext FhandSteps FhandWritten FmarkAt (upd Atape (Ftaped).toNatClampNeg l10)) H := hP
  have hD : va_D A (wW_X8_feed ak ad h am Fthrown (Ftaped + 1) Fsize Fplace Fbegin Ftoken Fword Ftold Fwrong Fcode Fat Fway Fnext FisEnd FisFallen Fwritten Fmade Fstate FhandNext FhandSteps FhandWritten FmarkAt (upd Atape (Ftaped).toNatClampNeg l10)) := hD
  refine lv_iinc (v := (l7 + 1)) (lv' := [(7, .int (l7 + 1)), (0, .ref h), (1, .long (xa)), (3, .long (xb)), (5, .long (xc)), (10, .int (l10))]) hx hb dX8_feed_114 hl (k := 4) rfl (rfl) (by decide) rfl (fun ls hl => ?_)
  refine lv_goto (tgt := 8) hx hb dX8_feed_117 (by decide) ?_
  exact kk8 Fthrown (Ftaped + 1) (upd Atape (Ftaped).toNatClampNeg l10) (l7 + 1) _ _ _ hw hP hD hS (lv_sub hl [1, 2, 3, 4, 0] rfl)

def kf_X8_feed_39 (xa : Int64) (xb : Int64) (xc : Int64) (κ8 : Int32 → Int32 → (Nat → Int32) → Int32 → Prop) (Φ : Int32 → Int32 → Int32 → (Nat → Int32) → Prop) (Fthrown : Int32) (Ftaped : Int32) (Atape : Nat → Int32) (l7 : Int32) (s0 : Int64) : Prop := (1000 ≤ Ftaped → κ8 Fthrown Ftaped Atape (l7 + 1)) ∧ (¬ 1000 ≤ Ftaped → ((((((s0).toUInt64 >>> ((56 - (8 * (l7 &&& 7))).toInt64.toUInt64 &&& Int64.toUInt64 63)).toInt64) &&& 255).toInt32) = 10 → kf_X8_feed_93 xa xb xc κ8 Φ Fthrown Ftaped Atape l7 (((((s0).toUInt64 >>> ((56 - (8 * (l7 &&& 7))).toInt64.toUInt64 &&& Int64.toUInt64 63)).toInt64) &&& 255).toInt32)) ∧ (¬ (((((s0).toUInt64 >>> ((56 - (8 * (l7 &&& 7))).toInt64.toUInt64 &&& Int64.toUInt64 63)).toInt64) &&& 255).toInt32) = 10 → ((((((s0).toUInt64 >>> ((56 - (8 * (l7 &&& 7))).toInt64.toUInt64 &&& Int64.toUInt64 63)).toInt64) &&& 255).toInt32) < 32 → κ8 Fthrown Ftaped Atape (l7 + 1)) ∧ (¬ (((((s0).toUInt64 >>> ((56 - (8 * (l7 &&& 7))).toInt64.toUInt64 &&& Int64.toUInt64 63)).toInt64) &&& 255).toInt32) < 32 → (126 < (((((s0).toUInt64 >>> ((56 - (8 * (l7 &&& 7))).toInt64.toUInt64 &&& Int64.toUInt64 63)).toInt64) &&& 255).toInt32) → κ8 Fthrown Ftaped Atape (l7 + 1)) ∧ (¬ 126 < (((((s0).toUInt64 >>> ((56 - (8 * (l7 &&& 7))).toInt64.toUInt64 &&& Int64.toUInt64 63)).toInt64) &&& 255).toInt32) → kf_X8_feed_93 xa xb xc κ8 Φ Fthrown Ftaped Atape l7 (((((s0).toUInt64 >>> ((56 - (8 * (l7 &&& 7))).toInt64.toUInt64 &&& Int64.toUInt64 63)).toInt64) &&& 255).toInt32)))))
set_option maxHeartbeats 4000000 in
set_option maxRecDepth 100000 in
theorem kj_X8_feed_39 {p : Program} {l : Launch} {e : Env} {R : Room} {s : State} {m : MethodId} {args : Array Value} {below : List Frame} {meth : Method} {c : Code} {cells slots : Nat} {Q : State → Prop} {A : Nat → Prop} {D : va_G} {ak : Nat → ClassId} {ad : Nat → Nat} (hx : p.tables.exec = Jvm.exec) (hb : c.code = cX8_feed) (hown : s.vm.findClass RX8 = some m.cls) (hts : ∀ w ∈ wsX8_feed, w.before args s = true) (hml : c.maxLocals = 11) (hE : EV D ak s) (hT : ST D ak ad A s s.heap) (hA : ∀ q, s.heap.size ≤ q → A q) (h : Nat) (am : Nat → Nat) (Fsize : Int32) (Fplace : Int32) (Fbegin : Int32) (Ftoken : Int32) (Fword : Int64) (Ftold : Int32) (Fwrong : Int32) (Fcode : Int32) (Fat : Int32) (Fway : Int32) (Fnext : Int32) (FisEnd : Int32) (FisFallen : Int32) (Fwritten : Int32) (Fmade : Int32) (Fstate : Int32) (FhandNext : Int32) (FhandSteps : Int32) (FhandWritten : Int32) (FmarkAt : Int32) (xa : Int64) (xb : Int64) (xc : Int64) (κ8 : Int32 → Int32 → (Nat → Int32) → Int32 → Prop) (Φ : Int32 → Int32 → Int32 → (Nat → Int32) → Prop)
    (kk8 : ∀ (Fthrown : Int32) (Ftaped : Int32) (Atape : Nat → Int32) (l7 : Int32) (H : Heap) (locs : List Loc) (ls : Array Slot), κ8 Fthrown Ftaped Atape l7 → va_P D vwCl (wW_X8_feed ak ad h am Fthrown Ftaped Fsize Fplace Fbegin Ftoken Fword Ftold Fwrong Fcode Fat Fway Fnext FisEnd FisFallen Fwritten Fmade Fstate FhandNext FhandSteps FhandWritten FmarkAt Atape) H → va_D A (wW_X8_feed ak ad h am Fthrown Ftaped Fsize Fplace Fbegin Ftoken Fword Ftold Fwrong Fcode Fat Fway Fnext FisEnd FisFallen Fwritten Fmade Fstate FhandNext FhandSteps FhandWritten FmarkAt Atape) → va_S A s.heap H locs → lv_has ls 11 [(0, .ref h), (1, .long (xa)), (3, .long (xb)), (5, .long (xc)), (7, .int (l7))] → W p l e R s m args below meth c H locs cells slots Q (F0 m 8 ls ([])))
    (kR124 : ∀ (r : Int32) (Fthrown : Int32) (Ftaped : Int32) (Atape : Nat → Int32) (H : Heap) (locs : List Loc) (ls : Array Slot), Φ r Fthrown Ftaped Atape → va_P D vwCl (wW_X8_feed ak ad h am Fthrown Ftaped Fsize Fplace Fbegin Ftoken Fword Ftold Fwrong Fcode Fat Fway Fnext FisEnd FisFallen Fwritten Fmade Fstate FhandNext FhandSteps FhandWritten FmarkAt Atape) H → va_D A (wW_X8_feed ak ad h am Fthrown Ftaped Fsize Fplace Fbegin Ftoken Fword Ftold Fwrong Fcode Fat Fway Fnext FisEnd FisFallen Fwritten Fmade Fstate FhandNext FhandSteps FhandWritten FmarkAt Atape) → va_S A s.heap H locs → W p l e R s m args below meth c H locs cells slots Q (F0 m 124 ls [.int r]))
    : ∀ (Fthrown : Int32) (Ftaped : Int32) (Atape : Nat → Int32) (l7 : Int32) (s0 : Int64) (H : Heap) (locs : List Loc) (ls : Array Slot), kf_X8_feed_39 xa xb xc κ8 Φ Fthrown Ftaped Atape l7 s0 → va_P D vwCl (wW_X8_feed ak ad h am Fthrown Ftaped Fsize Fplace Fbegin Ftoken Fword Ftold Fwrong Fcode Fat Fway Fnext FisEnd FisFallen Fwritten Fmade Fstate FhandNext FhandSteps FhandWritten FmarkAt Atape) H → va_D A (wW_X8_feed ak ad h am Fthrown Ftaped Fsize Fplace Fbegin Ftoken Fword Ftold Fwrong Fcode Fat Fway Fnext FisEnd FisFallen Fwritten Fmade Fstate FhandNext FhandSteps FhandWritten FmarkAt Atape) → va_S A s.heap H locs → lv_has ls 11 [(0, .ref h), (1, .long (xa)), (3, .long (xb)), (5, .long (xc)), (7, .int (l7))] → W p l e R s m args below meth c H locs cells slots Q (F0 m 39 ls (.long (s0) :: [])) := by
  intro Fthrown Ftaped Atape l7 s0 H locs ls hw hP hD hS hl
  delta kf_X8_feed_39 at hw
  refine lv_lstore (lv' := [(8, .long (s0)), (0, .ref h), (1, .long (xa)), (3, .long (xb)), (5, .long (xc)), (7, .int (l7))]) hx hb dX8_feed_39 hl (by decide) rfl (fun ls hl => ?_)
  refine lv_lload hx hb dX8_feed_41 (lv_at hl 0 rfl) ?_
  refine lv_bipush (v := 56) hx hb dX8_feed_43 (by decide) ?_
  refine lv_bipush (v := 8) hx hb dX8_feed_45 (by decide) ?_
  refine lv_iload hx hb dX8_feed_47 (lv_at hl 5 rfl) ?_
  refine lv_bipush (v := 7) hx hb dX8_feed_49 (by decide) ?_
  refine lv_iand hx hb dX8_feed_51 ?_
  refine lv_imul hx hb dX8_feed_52 ?_
  refine lv_isub hx hb dX8_feed_53 ?_
  refine lv_lushr (v := ((s0).toUInt64 >>> ((56 - (8 * (l7 &&& 7))).toInt64.toUInt64 &&& Int64.toUInt64 63)).toInt64) hx hb dX8_feed_54 rfl ?_
  refine lv_ldc2 hx hb hown (hts (.constantLong RX8 157 (255)) (wm_c hw_2)) dX8_feed_55 ?_
  refine lv_land hx hb dX8_feed_58 ?_
  refine lv_l2i (v := ((((s0).toUInt64 >>> ((56 - (8 * (l7 &&& 7))).toInt64.toUInt64 &&& Int64.toUInt64 63)).toInt64) &&& 255).toInt32) hx hb dX8_feed_59 rfl ?_
  refine lv_istore (lv' := [(10, .int (((((s0).toUInt64 >>> ((56 - (8 * (l7 &&& 7))).toInt64.toUInt64 &&& Int64.toUInt64 63)).toInt64) &&& 255).toInt32)), (8, .long (s0)), (0, .ref h), (1, .long (xa)), (3, .long (xb)), (5, .long (xc)), (7, .int (l7))]) hx hb dX8_feed_60 hl (by decide) rfl (fun ls hl => ?_)
  refine lv_aload_n hx hb dX8_feed_62 rfl (lv_at hl 2 rfl) ?_
  refine vt_get (D := D) (ci := 7) (v := .int (Ftaped)) (C := RX8) (T := TX8) (N := 69) hx hb hts (fun w h => wm_c (wc_X8 w h)) hown hE.1 hP 0 rfl rfl 1 (by decide) tX8_1 (hts (.fieldLink RX8 159 "WornLinesModel" "taped" "I") (wm_c hw_1)) (fun _ h9 => h9) rfl dX8_feed_63 ?_
  refine lv_sipush (v := 1000) hx hb dX8_feed_66 (by decide) ?_
  refine lv_icmp_ge (tgt := 114) hx hb dX8_feed_69 (by decide) (fun c_4 => ?_) (fun c_4 => ?_)
  · replace hw := hw.1 c_4
    refine lv_iinc (v := (l7 + 1)) (lv' := [(7, .int (l7 + 1)), (10, .int (((((s0).toUInt64 >>> ((56 - (8 * (l7 &&& 7))).toInt64.toUInt64 &&& Int64.toUInt64 63)).toInt64) &&& 255).toInt32)), (8, .long (s0)), (0, .ref h), (1, .long (xa)), (3, .long (xb)), (5, .long (xc))]) hx hb dX8_feed_114 hl (k := 6) rfl (rfl) (by decide) rfl (fun ls hl => ?_)
    refine lv_goto (tgt := 8) hx hb dX8_feed_117 (by decide) ?_
    exact kk8 Fthrown Ftaped Atape (l7 + 1) _ _ _ hw hP hD hS (lv_sub hl [3, 4, 5, 6, 0] rfl)
  · replace hw := hw.2 c_4
    refine lv_iload hx hb dX8_feed_72 (lv_at hl 0 rfl) ?_
    refine lv_bipush (v := 10) hx hb dX8_feed_74 (by decide) ?_
    refine lv_icmp_eq (tgt := 93) hx hb dX8_feed_76 (by decide) (fun c_5 => ?_) (fun c_5 => ?_)
    · replace hw := hw.1 c_5
      exact kj_X8_feed_93 hx hb hown hts hml hE hT hA h am Fsize Fplace Fbegin Ftoken Fword Ftold Fwrong Fcode Fat Fway Fnext FisEnd FisFallen Fwritten Fmade Fstate FhandNext FhandSteps FhandWritten FmarkAt xa xb xc _ Φ kk8 kR124 Fthrown Ftaped Atape l7 (((((s0).toUInt64 >>> ((56 - (8 * (l7 &&& 7))).toInt64.toUInt64 &&& Int64.toUInt64 63)).toInt64) &&& 255).toInt32) _ _ _ hw hP hD hS (lv_sub hl [2, 3, 4, 5, 6, 0] rfl)
    · replace hw := hw.2 c_5
      refine lv_iload hx hb dX8_feed_79 (lv_at hl 0 rfl) ?_
      refine lv_bipush (v := 32) hx hb dX8_feed_81 (by decide) ?_
      refine lv_icmp_lt (tgt := 114) hx hb dX8_feed_83 (by decide) (fun c_7 => ?_) (fun c_7 => ?_)
      · replace hw := hw.1 c_7
        refine lv_iinc (v := (l7 + 1)) (lv' := [(7, .int (l7 + 1)), (10, .int (((((s0).toUInt64 >>> ((56 - (8 * (l7 &&& 7))).toInt64.toUInt64 &&& Int64.toUInt64 63)).toInt64) &&& 255).toInt32)), (8, .long (s0)), (0, .ref h), (1, .long (xa)), (3, .long (xb)), (5, .long (xc))]) hx hb dX8_feed_114 hl (k := 6) rfl (rfl) (by decide) rfl (fun ls hl => ?_)
        refine lv_goto (tgt := 8) hx hb dX8_feed_117 (by decide) ?_
        exact kk8 Fthrown Ftaped Atape (l7 + 1) _ _ _ hw hP hD hS (lv_sub hl [3, 4, 5, 6, 0] rfl)
      · replace hw := hw.2 c_7
        refine lv_iload hx hb dX8_feed_86 (lv_at hl 0 rfl) ?_
        refine lv_bipush (v := 126) hx hb dX8_feed_88 (by decide) ?_
        refine lv_icmp_gt (tgt := 114) hx hb dX8_feed_90 (by decide) (fun c_8 => ?_) (fun c_8 => ?_)
        · replace hw := hw.1 c_8
          refine lv_iinc (v := (l7 + 1)) (lv' := [(7, .int (l7 + 1)), (10, .int (((((s0).toUInt64 >>> ((56 - (8 * (l7 &&& 7))).toInt64.toUInt64 &&& Int64.toUInt64 63)).toInt64) &&& 255).toInt32)), (8, .long (s0)), (0, .ref h), (1, .long (xa)), (3, .long (xb)), (5, .long (xc))]) hx hb dX8_feed_114 hl (k := 6) rfl (rfl) (by decide) rfl (fun ls hl => ?_)
          refine lv_goto (tgt := 8) hx hb dX8_feed_117 (by decide) ?_
          exact kk8 Fthrown Ftaped Atape (l7 + 1) _ _ _ hw hP hD hS (lv_sub hl [3, 4, 5, 6, 0] rfl)
        · replace hw := hw.2 c_8
          exact kj_X8_feed_93 hx hb hown hts hml hE hT hA h am Fsize Fplace Fbegin Ftoken Fword Ftold Fwrong Fcode Fat Fway Fnext FisEnd FisFallen Fwritten Fmade Fstate FhandNext FhandSteps FhandWritten FmarkAt xa xb xc _ Φ kk8 kR124 Fthrown Ftaped Atape l7 (((((s0).toUInt64 >>> ((56 - (8 * (l7 &&& 7))).toInt64.toUInt64 &&& Int64.toUInt64 63)).toInt64) &&& 255).toInt32) _ _ _ hw hP hD hS (lv_sub hl [2, 3, 4, 5, 6, 0] rfl)

def lb_X8_feed_8 (xa : Int64) (xb : Int64) (xc : Int64)  (Φ : Int32 → Int32 → Int32 → (Nat → Int32) → Prop) (back : Int32 → Int32 → (Nat → Int32) → Int32 → Prop) (Fthrown : Int32) (Ftaped : Int32) (Atape : Nat → Int32) (l7 : Int32) : Prop := (24 ≤ l7 → Φ Ftaped Fthrown Ftaped Atape) ∧ (¬ 24 ≤ l7 → (8 ≤ l7 → (16 ≤ l7 → kf_X8_feed_39 xa xb xc back Φ Fthrown Ftaped Atape l7 xc) ∧ (¬ 16 ≤ l7 → kf_X8_feed_39 xa xb xc back Φ Fthrown Ftaped Atape l7 xb)) ∧ (¬ 8 ≤ l7 → kf_X8_feed_39 xa xb xc back Φ Fthrown Ftaped Atape l7 xa))
def lf_X8_feed_8 (xa : Int64) (xb : Int64) (xc : Int64)  (Φ : Int32 → Int32 → Int32 → (Nat → Int32) → Prop) : Nat → Int32 → Int32 → (Nat → Int32) → Int32 → Prop
  | 0, _, _, _, _ => False
  | n_ + 1, Fthrown, Ftaped, Atape, l7 => lb_X8_feed_8 xa xb xc  Φ (lf_X8_feed_8 xa xb xc  Φ n_) Fthrown Ftaped Atape l7
theorem li_X8_feed_8 (xa : Int64) (xb : Int64) (xc : Int64)  (Φ : Int32 → Int32 → Int32 → (Nat → Int32) → Prop) (Inv : Int32 → Int32 → (Nat → Int32) → Int32 → Prop) (mu : Int32 → Int32 → (Nat → Int32) → Int32 → Nat) (hs : ∀ (back : Int32 → Int32 → (Nat → Int32) → Int32 → Prop) (Fthrown : Int32) (Ftaped : Int32) (Atape : Nat → Int32) (l7 : Int32), Inv Fthrown Ftaped Atape l7 → (∀ (Fthrown' : Int32) (Ftaped' : Int32) (Atape' : Nat → Int32) (l7' : Int32), Inv Fthrown' Ftaped' Atape' l7' → mu Fthrown' Ftaped' Atape' l7' < mu Fthrown Ftaped Atape l7 → back Fthrown' Ftaped' Atape' l7') → lb_X8_feed_8 xa xb xc  Φ back Fthrown Ftaped Atape l7) : ∀ (n_ : Nat) (Fthrown : Int32) (Ftaped : Int32) (Atape : Nat → Int32) (l7 : Int32), Inv Fthrown Ftaped Atape l7 → mu Fthrown Ftaped Atape l7 < n_ → lf_X8_feed_8 xa xb xc  Φ n_ Fthrown Ftaped Atape l7 := by
  intro n_
  induction n_ with
  | zero => intro Fthrown Ftaped Atape l7 _ h; exact absurd h (Nat.not_lt_zero _)
  | succ n_ ih => intro Fthrown Ftaped Atape l7 hI hm; exact hs _ Fthrown Ftaped Atape l7 hI (fun Fthrown' Ftaped' Atape' l7' h1 h2 => ih Fthrown' Ftaped' Atape' l7' h1 (by omega))
set_option maxHeartbeats 4000000 in
set_option maxRecDepth 100000 in
theorem lp_X8_feed_8 {p : Program} {l : Launch} {e : Env} {R : Room} {s : State} {m : MethodId} {args : Array Value} {below : List Frame} {meth : Method} {c : Code} {cells slots : Nat} {Q : State → Prop} {A : Nat → Prop} {D : va_G} {ak : Nat → ClassId} {ad : Nat → Nat} (hx : p.tables.exec = Jvm.exec) (hb : c.code = cX8_feed) (hown : s.vm.findClass RX8 = some m.cls) (hts : ∀ w ∈ wsX8_feed, w.before args s = true) (hml : c.maxLocals = 11) (hE : EV D ak s) (hT : ST D ak ad A s s.heap) (hA : ∀ q, s.heap.size ≤ q → A q) (h : Nat) (am : Nat → Nat) (Fsize : Int32) (Fplace : Int32) (Fbegin : Int32) (Ftoken : Int32) (Fword : Int64) (Ftold : Int32) (Fwrong : Int32) (Fcode : Int32) (Fat : Int32) (Fway : Int32) (Fnext : Int32) (FisEnd : Int32) (FisFallen : Int32) (Fwritten : Int32) (Fmade : Int32) (Fstate : Int32) (FhandNext : Int32) (FhandSteps : Int32) (FhandWritten : Int32) (FmarkAt : Int32) (xa : Int64) (xb : Int64) (xc : Int64)  (Φ : Int32 → Int32 → Int32 → (Nat → Int32) → Prop)
    (kR124 : ∀ (r : Int32) (Fthrown : Int32) (Ftaped : Int32) (Atape : Nat → Int32) (H : Heap) (locs : List Loc) (ls : Array Slot), Φ r Fthrown Ftaped Atape → va_P D vwCl (wW_X8_feed ak ad h am Fthrown Ftaped Fsize Fplace Fbegin Ftoken Fword Ftold Fwrong Fcode Fat Fway Fnext FisEnd FisFallen Fwritten Fmade Fstate FhandNext FhandSteps FhandWritten FmarkAt Atape) H → va_D A (wW_X8_feed ak ad h am Fthrown Ftaped Fsize Fplace Fbegin Ftoken Fword Ftold Fwrong Fcode Fat Fway Fnext FisEnd FisFallen Fwritten Fmade Fstate FhandNext FhandSteps FhandWritten FmarkAt Atape) → va_S A s.heap H locs → W p l e R s m args below meth c H locs cells slots Q (F0 m 124 ls [.int r]))
    : ∀ (n_ : Nat) (Fthrown : Int32) (Ftaped : Int32) (Atape : Nat → Int32) (l7 : Int32) (H : Heap) (locs : List Loc) (ls : Array Slot), lf_X8_feed_8 xa xb xc  Φ n_ Fthrown Ftaped Atape l7 → va_P D vwCl (wW_X8_feed ak ad h am Fthrown Ftaped Fsize Fplace Fbegin Ftoken Fword Ftold Fwrong Fcode Fat Fway Fnext FisEnd FisFallen Fwritten Fmade Fstate FhandNext FhandSteps FhandWritten FmarkAt Atape) H → va_D A (wW_X8_feed ak ad h am Fthrown Ftaped Fsize Fplace Fbegin Ftoken Fword Ftold Fwrong Fcode Fat Fway Fnext FisEnd FisFallen Fwritten Fmade Fstate FhandNext FhandSteps FhandWritten FmarkAt Atape) → va_S A s.heap H locs → lv_has ls 11 [(0, .ref h), (1, .long (xa)), (3, .long (xb)), (5, .long (xc)), (7, .int (l7))] → W p l e R s m args below meth c H locs cells slots Q (F0 m 8 ls ([])) := by
  intro n_
  induction n_ with
  | zero =>
    intro Fthrown Ftaped Atape l7 H locs ls hw
    exact hw.elim
  | succ n_ ih =>
    intro Fthrown Ftaped Atape l7 H locs ls hw hP hD hS hl
    have hw : lb_X8_feed_8 xa xb xc  Φ (lf_X8_feed_8 xa xb xc  Φ n_) Fthrown Ftaped Atape l7 := hw
    delta lb_X8_feed_8 at hw
    refine lv_iload hx hb dX8_feed_8 (lv_at hl 4 rfl) ?_
    refine lv_bipush (v := 24) hx hb dX8_feed_10 (by decide) ?_
    refine lv_icmp_ge (tgt := 120) hx hb dX8_feed_12 (by decide) (fun c_1 => ?_) (fun c_1 => ?_)
    · replace hw := hw.1 c_1
      refine lv_aload_n hx hb dX8_feed_120 rfl (lv_at hl 0 rfl) ?_
      refine vt_get (D := D) (ci := 7) (v := .int (Ftaped)) (C := RX8) (T := TX8) (N := 69) hx hb hts (fun w h => wm_c (wc_X8 w h)) hown hE.1 hP 0 rfl rfl 1 (by decide) tX8_1 (hts (.fieldLink RX8 159 "WornLinesModel" "taped" "I") (wm_c hw_1)) (fun _ h9 => h9) rfl dX8_feed_121 ?_
      exact kR124 Ftaped Fthrown Ftaped Atape _ _ _ hw hP hD hS
    · replace hw := hw.2 c_1
      refine lv_iload hx hb dX8_feed_15 (lv_at hl 4 rfl) ?_
      refine lv_bipush (v := 8) hx hb dX8_feed_17 (by decide) ?_
      refine lv_icmp_ge (tgt := 26) hx hb dX8_feed_19 (by decide) (fun c_2 => ?_) (fun c_2 => ?_)
      · replace hw := hw.1 c_2
        refine lv_iload hx hb dX8_feed_26 (lv_at hl 4 rfl) ?_
        refine lv_bipush (v := 16) hx hb dX8_feed_28 (by decide) ?_
        refine lv_icmp_ge (tgt := 37) hx hb dX8_feed_30 (by decide) (fun c_3 => ?_) (fun c_3 => ?_)
        · replace hw := hw.1 c_3
          refine lv_lload hx hb dX8_feed_37 (lv_at hl 3 rfl) ?_
          exact kj_X8_feed_39 hx hb hown hts hml hE hT hA h am Fsize Fplace Fbegin Ftoken Fword Ftold Fwrong Fcode Fat Fway Fnext FisEnd FisFallen Fwritten Fmade Fstate FhandNext FhandSteps FhandWritten FmarkAt xa xb xc _ Φ ih kR124 Fthrown Ftaped Atape l7 xc _ _ _ hw hP hD hS (lv_sub hl [0, 1, 2, 3, 4] rfl)
        · replace hw := hw.2 c_3
          refine lv_lload_n hx hb dX8_feed_33 rfl (lv_at hl 2 rfl) ?_
          refine lv_goto (tgt := 39) hx hb dX8_feed_34 (by decide) ?_
          exact kj_X8_feed_39 hx hb hown hts hml hE hT hA h am Fsize Fplace Fbegin Ftoken Fword Ftold Fwrong Fcode Fat Fway Fnext FisEnd FisFallen Fwritten Fmade Fstate FhandNext FhandSteps FhandWritten FmarkAt xa xb xc _ Φ ih kR124 Fthrown Ftaped Atape l7 xb _ _ _ hw hP hD hS (lv_sub hl [0, 1, 2, 3, 4] rfl)
      · replace hw := hw.2 c_2
        refine lv_lload_n hx hb dX8_feed_22 rfl (lv_at hl 1 rfl) ?_
        refine lv_goto (tgt := 39) hx hb dX8_feed_23 (by decide) ?_
        exact kj_X8_feed_39 hx hb hown hts hml hE hT hA h am Fsize Fplace Fbegin Ftoken Fword Ftold Fwrong Fcode Fat Fway Fnext FisEnd FisFallen Fwritten Fmade Fstate FhandNext FhandSteps FhandWritten FmarkAt xa xb xc _ Φ ih kR124 Fthrown Ftaped Atape l7 xa _ _ _ hw hP hD hS (lv_sub hl [0, 1, 2, 3, 4] rfl)

def wp_X8_feed (xa : Int64) (xb : Int64) (xc : Int64) (Fthrown : Int32) (Ftaped : Int32) (Atape : Nat → Int32) (Φ : Int32 → Int32 → Int32 → (Nat → Int32) → Prop) : Prop := (∃ n_, lf_X8_feed_8 xa xb xc  Φ n_ 0 Ftaped Atape 0)
set_option maxHeartbeats 4000000 in
set_option maxRecDepth 100000 in
theorem kj_X8_feed_e {p : Program} {l : Launch} {e : Env} {R : Room} {s : State} {m : MethodId} {args : Array Value} {below : List Frame} {meth : Method} {c : Code} {cells slots : Nat} {Q : State → Prop} {A : Nat → Prop} {D : va_G} {ak : Nat → ClassId} {ad : Nat → Nat} (hx : p.tables.exec = Jvm.exec) (hb : c.code = cX8_feed) (hown : s.vm.findClass RX8 = some m.cls) (hts : ∀ w ∈ wsX8_feed, w.before args s = true) (hml : c.maxLocals = 11) (hE : EV D ak s) (hT : ST D ak ad A s s.heap) (hA : ∀ q, s.heap.size ≤ q → A q) (h : Nat) (am : Nat → Nat) (Fsize : Int32) (Fplace : Int32) (Fbegin : Int32) (Ftoken : Int32) (Fword : Int64) (Ftold : Int32) (Fwrong : Int32) (Fcode : Int32) (Fat : Int32) (Fway : Int32) (Fnext : Int32) (FisEnd : Int32) (FisFallen : Int32) (Fwritten : Int32) (Fmade : Int32) (Fstate : Int32) (FhandNext : Int32) (FhandSteps : Int32) (FhandWritten : Int32) (FmarkAt : Int32) (xa : Int64) (xb : Int64) (xc : Int64)  (Φ : Int32 → Int32 → Int32 → (Nat → Int32) → Prop)
    (kR124 : ∀ (r : Int32) (Fthrown : Int32) (Ftaped : Int32) (Atape : Nat → Int32) (H : Heap) (locs : List Loc) (ls : Array Slot), Φ r Fthrown Ftaped Atape → va_P D vwCl (wW_X8_feed ak ad h am Fthrown Ftaped Fsize Fplace Fbegin Ftoken Fword Ftold Fwrong Fcode Fat Fway Fnext FisEnd FisFallen Fwritten Fmade Fstate FhandNext FhandSteps FhandWritten FmarkAt Atape) H → va_D A (wW_X8_feed ak ad h am Fthrown Ftaped Fsize Fplace Fbegin Ftoken Fword Ftold Fwrong Fcode Fat Fway Fnext FisEnd FisFallen Fwritten Fmade Fstate FhandNext FhandSteps FhandWritten FmarkAt Atape) → va_S A s.heap H locs → W p l e R s m args below meth c H locs cells slots Q (F0 m 124 ls [.int r]))
    : ∀ (Fthrown : Int32) (Ftaped : Int32) (Atape : Nat → Int32) (H : Heap) (locs : List Loc) (ls : Array Slot), wp_X8_feed xa xb xc Fthrown Ftaped Atape Φ → va_P D vwCl (wW_X8_feed ak ad h am Fthrown Ftaped Fsize Fplace Fbegin Ftoken Fword Ftold Fwrong Fcode Fat Fway Fnext FisEnd FisFallen Fwritten Fmade Fstate FhandNext FhandSteps FhandWritten FmarkAt Atape) H → va_D A (wW_X8_feed ak ad h am Fthrown Ftaped Fsize Fplace Fbegin Ftoken Fword Ftold Fwrong Fcode Fat Fway Fnext FisEnd FisFallen Fwritten Fmade Fstate FhandNext FhandSteps FhandWritten FmarkAt Atape) → va_S A s.heap H locs → lv_has ls 11 [(0, .ref h), (1, .long (xa)), (3, .long (xb)), (5, .long (xc))] → W p l e R s m args below meth c H locs cells slots Q (F0 m 0 ls ([])) := by
  intro Fthrown Ftaped Atape H locs ls hw hP hD hS hl
  delta wp_X8_feed at hw
  refine lv_aload_n hx hb dX8_feed_0 rfl (lv_at hl 0 rfl) ?_
  refine lv_iconst (v := 0) hx hb dX8_feed_1 (by decide) ?_
  refine vt_put (D := D) (ci := 7) (v := .int (0)) (ty := .int) (C := RX8) (T := TX8) (N := 69) hx hb hts (fun w h => wm_c (wc_X8 w h)) tyX8 tyX8_ok nmX8 hown hE.1 hP hD hS 0 rfl rfl 0 (by decide) tX8_0 (hts (.fieldLink RX8 153 "WornLinesModel" "thrown" "I") (wm_c hw_3)) (fun _ h9 => h9) rfl pf_0 (rfl) rfl (Nat.le_of_ble_eq_true rfl) dX8_feed_2 (fun H locs hP hD hS => ?_)
  have hP : va_P D vwCl (wW_X8_feed ak ad h am 0 Ftaped Fsize Fplace Fbegin Ftoken Fword Ftold Fwrong Fcode Fat Fway Fnext FisEnd FisFallen Fwritten Fmade Fstate FhandNext FhandSteps FhandWritten FmarkAt Atape) H := hP
  have hD : va_D A (wW_X8_feed ak ad h am 0 Ftaped Fsize Fplace Fbegin Ftoken Fword Ftold Fwrong Fcode Fat Fway Fnext FisEnd FisFallen Fwritten Fmade Fstate FhandNext FhandSteps FhandWritten FmarkAt Atape) := hD
  refine lv_iconst (v := 0) hx hb dX8_feed_5 (by decide) ?_
  refine lv_istore (lv' := [(7, .int (0)), (0, .ref h), (1, .long (xa)), (3, .long (xb)), (5, .long (xc))]) hx hb dX8_feed_6 hl (by decide) rfl (fun ls hl => ?_)
  obtain ⟨n1_, hw⟩ := hw
  exact lp_X8_feed_8 hx hb hown hts hml hE hT hA h am Fsize Fplace Fbegin Ftoken Fword Ftold Fwrong Fcode Fat Fway Fnext FisEnd FisFallen Fwritten Fmade Fstate FhandNext FhandSteps FhandWritten FmarkAt xa xb xc  Φ  kR124 n1_ 0 Ftaped Atape 0 _ _ _ hw hP hD hS (lv_sub hl [1, 2, 3, 4, 0] rfl)
set_option maxHeartbeats 4000000 in
set_option maxRecDepth 100000 in
theorem c_X8_feed (l : Launch) (D : va_G) (ak : Nat → ClassId) (ad : Nat → Nat) (sz : Nat) (h : Nat) (am : Nat → Nat) (Fthrown : Int32) (Ftaped : Int32) (Fsize : Int32) (Fplace : Int32) (Fbegin : Int32) (Ftoken : Int32) (Fword : Int64) (Ftold : Int32) (Fwrong : Int32) (Fcode : Int32) (Fat : Int32) (Fway : Int32) (Fnext : Int32) (FisEnd : Int32) (FisFallen : Int32) (Fwritten : Int32) (Fmade : Int32) (Fstate : Int32) (FhandNext : Int32) (FhandSteps : Int32) (FhandWritten : Int32) (FmarkAt : Int32) (Atape : Nat → Int32) (xa : Int64) (xb : Int64) (xc : Int64) (Φ : Int32 → Int32 → Int32 → (Nat → Int32) → Prop) (hf : wp_X8_feed xa xb xc Fthrown Ftaped Atape Φ) : Met l yX8_feed wsX8_feed ({ frames := 0, cells := 0, slots := 0, locals := 0 }) (cPre D ak ad [.ref h, .long (xa), .long (xb), .long (xc)] ((wW_X8_feed ak ad h am Fthrown Ftaped Fsize Fplace Fbegin Ftoken Fword Ftold Fwrong Fcode Fat Fway Fnext FisEnd FisFallen Fwritten Fmade Fstate FhandNext FhandSteps FhandWritten FmarkAt Atape)) sz) (cI D (S := (Int32) × (Int32) × (Nat → Int32)) (fun (r : Int32) (u : (Int32) × (Int32) × (Nat → Int32)) => Φ r u.1 u.2.1 u.2.2) (fun u => (wW_X8_feed ak ad h am u.1 u.2.1 Fsize Fplace Fbegin Ftoken Fword Ftold Fwrong Fcode Fat Fway Fnext FisEnd FisFallen Fwritten Fmade Fstate FhandNext FhandSteps FhandWritten FmarkAt u.2.2)) ((wW_X8_feed ak ad h am Fthrown Ftaped Fsize Fplace Fbegin Ftoken Fword Ftold Fwrong Fcode Fat Fway Fnext FisEnd FisFallen Fwritten Fmade Fstate FhandNext FhandSteps FhandWritten FmarkAt Atape)) sz) 0 0 (va_A ((wW_X8_feed ak ad h am Fthrown Ftaped Fsize Fplace Fbegin Ftoken Fword Ftold Fwrong Fcode Fat Fway Fnext FisEnd FisFallen Fwritten Fmade Fstate FhandNext FhandSteps FhandWritten FmarkAt Atape)) sz) := by
  refine Met.ofW (cc := cX8_feed) (maxL := 11) (ret := (some .int)) (by decide) rfl ?_
  intro p e s m args below meth c s₁ B hml hv
  obtain ⟨rfl, hsz, hP, hE, hD0, hT⟩ := hv
  have hx := B.exec
  have hb := B.bytes
  have hr := B.returns
  have hts := atoms_spec (ws := wsX8_feed) B.pre
  have hown : s.vm.findClass RX8 = some m.cls := findClass_of_methodNamed B.named
  have hlocks := B.notSynchronized
  subst hsz
  have hD := hD0.self (sz := s.heap.size)
  generalize hAe : va_A ((wW_X8_feed ak ad h am Fthrown Ftaped Fsize Fplace Fbegin Ftoken Fword Ftold Fwrong Fcode Fat Fway Fnext FisEnd FisFallen Fwritten Fmade Fstate FhandNext FhandSteps FhandWritten FmarkAt Atape)) s.heap.size = A at hD hT ⊢
  have hA : ∀ q : Nat, s.heap.size ≤ q → A q := fun q h => by rw [← hAe]; exact Or.inr h
  have hS : va_S A s.heap s.heap [] := va_S.rf
  have hl := lv_entry ([.ref h, .long (xa), .long (xb), .long (xc)]) (n := 11) (Nat.le_of_ble_eq_true rfl)
  rw [lg_entry_eq]
  generalize (lg_sl ([.ref h, .long (xa), .long (xb), .long (xc)]) ++ List.replicate (11 - (lg_sl ([.ref h, .long (xa), .long (xb), .long (xc)])).length) Slot.unset).toArray = ls at hl ⊢
  have hl : lv_has ls 11 [(0, .ref h), (1, .long (xa)), (3, .long (xb)), (5, .long (xc))] := hl
  exact kj_X8_feed_e hx hb hown hts hml hE hT hA h am Fsize Fplace Fbegin Ftoken Fword Ftold Fwrong Fcode Fat Fway Fnext FisEnd FisFallen Fwritten Fmade Fstate FhandNext FhandSteps FhandWritten FmarkAt xa xb xc Φ (fun r Fthrown Ftaped Atape H locs ls hw hP hD hS => W.iret (v := r) hx hb hr (fun t ht hW => ⟨⟨r, (Fthrown, Ftaped, Atape), rfl, hw, by rw [ht]; exact hP, by rw [hAe]; exact hD⟩, by rw [hAe]; exact hS.F ht⟩) hS.2.2 dX8_feed_124) Fthrown Ftaped Atape _ _ _ hf hP hD hS hl

def wW_X8_signAt (ak : Nat → ClassId) (ad : Nat → Nat) (h : Nat) (am : Nat → Nat) (Fthrown : Int32) (Ftaped : Int32) (Fsize : Int32) (Fplace : Int32) (Fbegin : Int32) (Ftoken : Int32) (Fword : Int64) (Ftold : Int32) (Fwrong : Int32) (Fcode : Int32) (Fat : Int32) (Fway : Int32) (Fnext : Int32) (FisEnd : Int32) (FisFallen : Int32) (Fwritten : Int32) (Fmade : Int32) (Fstate : Int32) (FhandNext : Int32) (FhandSteps : Int32) (FhandWritten : Int32) (FmarkAt : Int32) (Atape : Nat → Int32) : va_W := [(h, .inr (7, mob am (Fthrown) (Ftaped) (Fsize) (Fplace) (Fbegin) (Ftoken) (Fword) (Ftold) (Fwrong) (Fcode) (Fat) (Fway) (Fnext) (FisEnd) (FisFallen) (Fwritten) (Fmade) (Fstate) (FhandNext) (FhandSteps) (FhandWritten) (FmarkAt))), ((am 0), .inl (ak 0, 1000, .inl (Atape)))]
def wp_X8_signAt (Fsize : Int32) (Atape : Nat → Int32) (x0 : Int32)  (Φ : Int32 → Prop) : Prop := (Fsize ≤ x0 → Φ 0 ) ∧ (¬ Fsize ≤ x0 → vp_in x0 1000 ∧ Φ (Atape (x0).toNatClampNeg) )
set_option maxHeartbeats 4000000 in
set_option maxRecDepth 100000 in
theorem kj_X8_signAt_e {p : Program} {l : Launch} {e : Env} {R : Room} {s : State} {m : MethodId} {args : Array Value} {below : List Frame} {meth : Method} {c : Code} {cells slots : Nat} {Q : State → Prop} {A : Nat → Prop} {D : va_G} {ak : Nat → ClassId} {ad : Nat → Nat} (hx : p.tables.exec = Jvm.exec) (hb : c.code = cX8_signAt) (hown : s.vm.findClass RX8 = some m.cls) (hts : ∀ w ∈ wsX8_signAt, w.before args s = true) (hml : c.maxLocals = 2) (hE : EV D ak s) (hT : ST D ak ad A s s.heap) (hA : ∀ q, s.heap.size ≤ q → A q) (h : Nat) (am : Nat → Nat) (Fthrown : Int32) (Ftaped : Int32) (Fsize : Int32) (Fplace : Int32) (Fbegin : Int32) (Ftoken : Int32) (Fword : Int64) (Ftold : Int32) (Fwrong : Int32) (Fcode : Int32) (Fat : Int32) (Fway : Int32) (Fnext : Int32) (FisEnd : Int32) (FisFallen : Int32) (Fwritten : Int32) (Fmade : Int32) (Fstate : Int32) (FhandNext : Int32) (FhandSteps : Int32) (FhandWritten : Int32) (FmarkAt : Int32) (Atape : Nat → Int32) (x0 : Int32)  (Φ : Int32 → Prop)
    (kR18 : ∀ (r : Int32)  (H : Heap) (locs : List Loc) (ls : Array Slot), Φ r  → va_P D vwCl (wW_X8_signAt ak ad h am Fthrown Ftaped Fsize Fplace Fbegin Ftoken Fword Ftold Fwrong Fcode Fat Fway Fnext FisEnd FisFallen Fwritten Fmade Fstate FhandNext FhandSteps FhandWritten FmarkAt Atape) H → va_D A (wW_X8_signAt ak ad h am Fthrown Ftaped Fsize Fplace Fbegin Ftoken Fword Ftold Fwrong Fcode Fat Fway Fnext FisEnd FisFallen Fwritten Fmade Fstate FhandNext FhandSteps FhandWritten FmarkAt Atape) → va_S A s.heap H locs → W p l e R s m args below meth c H locs cells slots Q (F0 m 18 ls [.int r]))
    : ∀  (H : Heap) (locs : List Loc) (ls : Array Slot), wp_X8_signAt Fsize Atape x0  Φ → va_P D vwCl (wW_X8_signAt ak ad h am Fthrown Ftaped Fsize Fplace Fbegin Ftoken Fword Ftold Fwrong Fcode Fat Fway Fnext FisEnd FisFallen Fwritten Fmade Fstate FhandNext FhandSteps FhandWritten FmarkAt Atape) H → va_D A (wW_X8_signAt ak ad h am Fthrown Ftaped Fsize Fplace Fbegin Ftoken Fword Ftold Fwrong Fcode Fat Fway Fnext FisEnd FisFallen Fwritten Fmade Fstate FhandNext FhandSteps FhandWritten FmarkAt Atape) → va_S A s.heap H locs → lv_has ls 2 [(0, .ref h), (1, .int (x0))] → W p l e R s m args below meth c H locs cells slots Q (F0 m 0 ls ([])) := by
  intro  H locs ls hw hP hD hS hl
  delta wp_X8_signAt at hw
  refine lv_iload_n hx hb dX8_signAt_0 rfl (lv_at hl 1 rfl) ?_
  refine lv_aload_n hx hb dX8_signAt_1 rfl (lv_at hl 0 rfl) ?_
  refine vt_get (D := D) (ci := 7) (v := .int (Fsize)) (C := RX8) (T := TX8) (N := 69) hx hb hts (fun w h => wm_c (wc_X8 w h)) hown hE.1 hP 0 rfl rfl 3 (by decide) tX8_3 (hts (.fieldLink RX8 162 "WornLinesModel" "size" "I") (wm_c hw_4)) (fun _ h9 => h9) rfl dX8_signAt_2 ?_
  refine lv_icmp_ge (tgt := 17) hx hb dX8_signAt_5 (by decide) (fun c_1 => ?_) (fun c_1 => ?_)
  · replace hw := hw.1 c_1
    refine lv_iconst (v := 0) hx hb dX8_signAt_17 (by decide) ?_
    exact kR18 0  _ _ _ hw hP hD hS
  · replace hw := hw.2 c_1
    refine lv_aload_n hx hb dX8_signAt_8 rfl (lv_at hl 0 rfl) ?_
    refine vt_get (D := D) (ci := 7) (v := .ref (am 0)) (C := RX8) (T := TX8) (N := 69) hx hb hts (fun w h => wm_c (wc_X8 w h)) hown hE.1 hP 0 rfl rfl 2 (by decide) tX8_2 (hts (.fieldLink RX8 7 "WornLinesModel" "tape" "[I") (wm_c hw_0)) (fun _ h9 => h9) rfl dX8_signAt_9 ?_
    refine lv_iload_n hx hb dX8_signAt_12 rfl (lv_at hl 1 rfl) ?_
    obtain ⟨h_2, hw⟩ := hw
    refine va_iald hx hb hE.1 hP 1 0 rfl rfl (h_2) dX8_signAt_13 ?_
    refine lv_goto (tgt := 18) hx hb dX8_signAt_14 (by decide) ?_
    exact kR18 (Atape (x0).toNatClampNeg)  _ _ _ hw hP hD hS
set_option maxHeartbeats 4000000 in
set_option maxRecDepth 100000 in
theorem c_X8_signAt (l : Launch) (D : va_G) (ak : Nat → ClassId) (ad : Nat → Nat) (sz : Nat) (h : Nat) (am : Nat → Nat) (Fthrown : Int32) (Ftaped : Int32) (Fsize : Int32) (Fplace : Int32) (Fbegin : Int32) (Ftoken : Int32) (Fword : Int64) (Ftold : Int32) (Fwrong : Int32) (Fcode : Int32) (Fat : Int32) (Fway : Int32) (Fnext : Int32) (FisEnd : Int32) (FisFallen : Int32) (Fwritten : Int32) (Fmade : Int32) (Fstate : Int32) (FhandNext : Int32) (FhandSteps : Int32) (FhandWritten : Int32) (FmarkAt : Int32) (Atape : Nat → Int32) (x0 : Int32) (Φ : Int32 → Prop) (hf : wp_X8_signAt Fsize Atape x0 Φ) : Met l yX8_signAt wsX8_signAt ({ frames := 0, cells := 0, slots := 0, locals := 0 }) (cPre D ak ad [.ref h, .int (x0)] ((wW_X8_signAt ak ad h am Fthrown Ftaped Fsize Fplace Fbegin Ftoken Fword Ftold Fwrong Fcode Fat Fway Fnext FisEnd FisFallen Fwritten Fmade Fstate FhandNext FhandSteps FhandWritten FmarkAt Atape)) sz) (cI D (S := Unit) (fun (r : Int32) (u : Unit) => Φ r ) (fun u => (wW_X8_signAt ak ad h am Fthrown Ftaped Fsize Fplace Fbegin Ftoken Fword Ftold Fwrong Fcode Fat Fway Fnext FisEnd FisFallen Fwritten Fmade Fstate FhandNext FhandSteps FhandWritten FmarkAt Atape)) ((wW_X8_signAt ak ad h am Fthrown Ftaped Fsize Fplace Fbegin Ftoken Fword Ftold Fwrong Fcode Fat Fway Fnext FisEnd FisFallen Fwritten Fmade Fstate FhandNext FhandSteps FhandWritten FmarkAt Atape)) sz) 0 0 (va_A ((wW_X8_signAt ak ad h am Fthrown Ftaped Fsize Fplace Fbegin Ftoken Fword Ftold Fwrong Fcode Fat Fway Fnext FisEnd FisFallen Fwritten Fmade Fstate FhandNext FhandSteps FhandWritten FmarkAt Atape)) sz) := by
  refine Met.ofW (cc := cX8_signAt) (maxL := 2) (ret := (some .int)) (by decide) rfl ?_
  intro p e s m args below meth c s₁ B hml hv
  obtain ⟨rfl, hsz, hP, hE, hD0, hT⟩ := hv
  have hx := B.exec
  have hb := B.bytes
  have hr := B.returns
  have hts := atoms_spec (ws := wsX8_signAt) B.pre
  have hown : s.vm.findClass RX8 = some m.cls := findClass_of_methodNamed B.named
  have hlocks := B.notSynchronized
  subst hsz
  have hD := hD0.self (sz := s.heap.size)
  generalize hAe : va_A ((wW_X8_signAt ak ad h am Fthrown Ftaped Fsize Fplace Fbegin Ftoken Fword Ftold Fwrong Fcode Fat Fway Fnext FisEnd FisFallen Fwritten Fmade Fstate FhandNext FhandSteps FhandWritten FmarkAt Atape)) s.heap.size = A at hD hT ⊢
  have hA : ∀ q : Nat, s.heap.size ≤ q → A q := fun q h => by rw [← hAe]; exact Or.inr h
  have hS : va_S A s.heap s.heap [] := va_S.rf
  have hl := lv_entry ([.ref h, .int (x0)]) (n := 2) (Nat.le_of_ble_eq_true rfl)
  rw [lg_entry_eq]
  generalize (lg_sl ([.ref h, .int (x0)]) ++ List.replicate (2 - (lg_sl ([.ref h, .int (x0)])).length) Slot.unset).toArray = ls at hl ⊢
  have hl : lv_has ls 2 [(0, .ref h), (1, .int (x0))] := hl
  exact kj_X8_signAt_e hx hb hown hts hml hE hT hA h am Fthrown Ftaped Fsize Fplace Fbegin Ftoken Fword Ftold Fwrong Fcode Fat Fway Fnext FisEnd FisFallen Fwritten Fmade Fstate FhandNext FhandSteps FhandWritten FmarkAt Atape x0 Φ (fun r  H locs ls hw hP hD hS => W.iret (v := r) hx hb hr (fun t ht hW => ⟨⟨r, (), rfl, hw, by rw [ht]; exact hP, by rw [hAe]; exact hD⟩, by rw [hAe]; exact hS.F ht⟩) hS.2.2 dX8_signAt_18)  _ _ _ hf hP hD hS hl
end
