set_option maxRecDepth 20000 in
theorem kn_L : Cond.initialized RL ∈ TB := inT1 (List.mem_of_getElem? (i := 0) rfl) rfl
set_option maxRecDepth 20000 in
theorem kn_X9 : Cond.initialized RX9 ∈ TB := inT1 (List.mem_of_getElem? (i := 1) rfl) rfl
set_option maxRecDepth 20000 in
theorem kn_X7 : Cond.initialized RX7 ∈ TB := inT1 (List.mem_of_getElem? (i := 2) rfl) rfl
set_option maxRecDepth 20000 in
theorem kn_X4 : Cond.initialized RX4 ∈ TB := inT1 (List.mem_of_getElem? (i := 3) rfl) rfl
set_option maxRecDepth 20000 in
theorem kn_X1 : Cond.initialized RX1 ∈ TB := inT1 (List.mem_of_getElem? (i := 4) rfl) rfl
set_option maxRecDepth 20000 in
theorem kn_X5 : Cond.initialized RX5 ∈ TB := inT1 (List.mem_of_getElem? (i := 5) rfl) rfl
set_option maxRecDepth 20000 in
theorem kn_J9 : Cond.initialized RJ9 ∈ TB := inT1 (List.mem_of_getElem? (i := 6) rfl) rfl
set_option maxRecDepth 20000 in
theorem kn_X3 : Cond.initialized RX3 ∈ TB := inT1 (List.mem_of_getElem? (i := 7) rfl) rfl
set_option maxRecDepth 20000 in
theorem kn_X0 : Cond.initialized RX0 ∈ TB := inT1 (List.mem_of_getElem? (i := 8) rfl) rfl
set_option maxRecDepth 20000 in
theorem kn_X8 : Cond.initialized RX8 ∈ TB := inT1 (List.mem_of_getElem? (i := 9) rfl) rfl
set_option maxRecDepth 20000 in
theorem kn_X6 : Cond.initialized RX6 ∈ TB := inT1 (List.mem_of_getElem? (i := 10) rfl) rfl
set_option maxRecDepth 20000 in
theorem kn_X10 : Cond.initialized RX10 ∈ TB := inT1 (List.mem_of_getElem? (i := 11) rfl) rfl
set_option maxRecDepth 20000 in
theorem kn_J10 : Cond.initialized RJ10 ∈ TB := inT1 (List.mem_of_getElem? (i := 12) rfl) rfl
set_option maxRecDepth 20000 in
theorem kn_J13 : Cond.initialized RJ13 ∈ TB := inT1 (List.mem_of_getElem? (i := 13) rfl) rfl
set_option maxRecDepth 20000 in
theorem kn_X2 : Cond.initialized RX2 ∈ TB := inT1 (List.mem_of_getElem? (i := 14) rfl) rfl
set_option maxRecDepth 20000 in
theorem kn_J6 : Cond.initialized RJ6 ∈ TB := inT1 (List.mem_of_getElem? (i := 15) rfl) rfl
set_option maxRecDepth 20000 in
theorem kk_L_7 : Cond.classLink RL 7 RX9 ∈ TB := inT1 (List.mem_of_getElem? (i := 16) rfl) rfl
set_option maxRecDepth 20000 in
theorem kb_X9 : Cond.instantiable RX9 9 ∈ TB := inT1 (List.mem_of_getElem? (i := 17) rfl) rfl
set_option maxRecDepth 20000 in
theorem kl_L_9 : Cond.methodLink RL 9 yX9_init ∈ TB := inT1 (List.mem_of_getElem? (i := 18) rfl) rfl
set_option maxRecDepth 20000 in
theorem ki_X9_init : Cond.instanceMethod yX9_init ∈ TB := inT1 (List.mem_of_getElem? (i := 19) rfl) rfl
set_option maxRecDepth 20000 in
theorem kc_X9_init : Cond.code yX9_init cX9_init 1 none ∈ TB := inT1 (List.mem_of_getElem? (i := 20) rfl) rfl
set_option maxRecDepth 20000 in
theorem kl_X9_1 : Cond.methodLink RX9 1 objectInit ∈ TB := inT1 (List.mem_of_getElem? (i := 21) rfl) rfl
set_option maxRecDepth 20000 in
theorem ki_objectInit : Cond.instanceMethod objectInit ∈ TB := inT1 (List.mem_of_getElem? (i := 22) rfl) rfl
set_option maxRecDepth 20000 in
theorem kc_objectInit : Cond.code objectInit ⟨#[0xb1]⟩ 1 none ∈ TB := inT1 (List.mem_of_getElem? (i := 23) rfl) rfl
set_option maxRecDepth 20000 in
theorem kk_X9_7 : Cond.classLink RX9 7 RX7 ∈ TB := inT1 (List.mem_of_getElem? (i := 24) rfl) rfl
set_option maxRecDepth 20000 in
theorem kb_X7 : Cond.instantiable RX7 2 ∈ TB := inT1 (List.mem_of_getElem? (i := 25) rfl) rfl
set_option maxRecDepth 20000 in
theorem ki_X7_init : Cond.instanceMethod yX7_init ∈ TB := inT1 (List.mem_of_getElem? (i := 27) rfl) rfl
set_option maxRecDepth 20000 in
theorem kc_X7_init : Cond.code yX7_init cX7_init 1 none ∈ TB := inT1 (List.mem_of_getElem? (i := 28) rfl) rfl
set_option maxRecDepth 20000 in
theorem kl_X7_1 : Cond.methodLink RX7 1 objectInit ∈ TB := inT1 (List.mem_of_getElem? (i := 29) rfl) rfl
set_option maxRecDepth 20000 in
theorem kf_X7_9 : Cond.fieldLink RX7 9 "LoafLetters$Text" "bytes" "[B" ∈ TB := inT1 (List.mem_of_getElem? (i := 30) rfl) rfl
set_option maxRecDepth 20000 in
theorem kf_X7_13 : Cond.fieldLink RX7 13 "LoafLetters$Text" "length" "I" ∈ TB := inT1 (List.mem_of_getElem? (i := 31) rfl) rfl
set_option maxRecDepth 20000 in
theorem ka_byte : Cond.arrayClass .byte ∈ TB := inT1 (List.mem_of_getElem? (i := 37) rfl) rfl
set_option maxRecDepth 20000 in
theorem kk_X9_16 : Cond.classLink RX9 16 RX4 ∈ TB := inT1 (List.mem_of_getElem? (i := 38) rfl) rfl
set_option maxRecDepth 20000 in
theorem kb_X4 : Cond.instantiable RX4 2 ∈ TB := inT1 (List.mem_of_getElem? (i := 39) rfl) rfl
set_option maxRecDepth 20000 in
theorem ki_X4_init : Cond.instanceMethod yX4_init ∈ TB := inT1 (List.mem_of_getElem? (i := 41) rfl) rfl
set_option maxRecDepth 20000 in
theorem kc_X4_init : Cond.code yX4_init cX4_init 1 none ∈ TB := inT1 (List.mem_of_getElem? (i := 42) rfl) rfl
set_option maxRecDepth 20000 in
theorem kl_X4_3 : Cond.methodLink RX4 3 objectInit ∈ TB := inT1 (List.mem_of_getElem? (i := 43) rfl) rfl
set_option maxRecDepth 20000 in
theorem kf_X4_9 : Cond.fieldLink RX4 9 "LoafLetters$Reader" "numbers" "[I" ∈ TB := inT1 (List.mem_of_getElem? (i := 44) rfl) rfl
set_option maxRecDepth 20000 in
theorem kf_X4_20 : Cond.fieldLink RX4 20 "LoafLetters$Reader" "place" "I" ∈ TB := inT1 (List.mem_of_getElem? (i := 45) rfl) rfl
set_option maxRecDepth 20000 in
theorem ka_int : Cond.arrayClass .int ∈ TB := inT1 (List.mem_of_getElem? (i := 51) rfl) rfl
set_option maxRecDepth 20000 in
theorem kk_X9_23 : Cond.classLink RX9 23 RX1 ∈ TB := inT1 (List.mem_of_getElem? (i := 52) rfl) rfl
set_option maxRecDepth 20000 in
theorem kb_X1 : Cond.instantiable RX1 1 ∈ TB := inT1 (List.mem_of_getElem? (i := 53) rfl) rfl
set_option maxRecDepth 20000 in
theorem ki_X1_init : Cond.instanceMethod yX1_init ∈ TB := inT1 (List.mem_of_getElem? (i := 55) rfl) rfl
set_option maxRecDepth 20000 in
theorem kc_X1_init : Cond.code yX1_init cX1_init 1 none ∈ TB := inT1 (List.mem_of_getElem? (i := 56) rfl) rfl
set_option maxRecDepth 20000 in
theorem kl_X1_3 : Cond.methodLink RX1 3 objectInit ∈ TB := inT1 (List.mem_of_getElem? (i := 57) rfl) rfl
set_option maxRecDepth 20000 in
theorem kf_X1_9 : Cond.fieldLink RX1 9 "LoafLetters$Larder" "cells" "[I" ∈ TB := inT1 (List.mem_of_getElem? (i := 58) rfl) rfl
set_option maxRecDepth 20000 in
theorem kk_X9_30 : Cond.classLink RX9 30 RX5 ∈ TB := inT1 (List.mem_of_getElem? (i := 62) rfl) rfl
set_option maxRecDepth 20000 in
theorem kb_X5 : Cond.instantiable RX5 3 ∈ TB := inT1 (List.mem_of_getElem? (i := 63) rfl) rfl
set_option maxRecDepth 20000 in
theorem kl_X9_32 : Cond.methodLink RX9 32 yX5_init ∈ TB := inT1 (List.mem_of_getElem? (i := 64) rfl) rfl
set_option maxRecDepth 20000 in
theorem ki_X5_init : Cond.instanceMethod yX5_init ∈ TB := inT1 (List.mem_of_getElem? (i := 65) rfl) rfl
set_option maxRecDepth 20000 in
theorem kc_X5_init : Cond.code yX5_init cX5_init 2 none ∈ TB := inT1 (List.mem_of_getElem? (i := 66) rfl) rfl
set_option maxRecDepth 20000 in
theorem kl_X5_1 : Cond.methodLink RX5 1 objectInit ∈ TB := inT1 (List.mem_of_getElem? (i := 67) rfl) rfl
set_option maxRecDepth 20000 in
theorem kl_X5_7 : Cond.methodLink RX5 7 yJ9_max_7cf53 ∈ TB := inT1 (List.mem_of_getElem? (i := 68) rfl) rfl
set_option maxRecDepth 20000 in
theorem ks_J9_max_7cf53 : Cond.static yJ9_max_7cf53 ∈ TB := inT1 (List.mem_of_getElem? (i := 69) rfl) rfl
set_option maxRecDepth 20000 in
theorem kc_J9_max_7cf53 : Cond.code yJ9_max_7cf53 cJ9_max_7cf53 2 (some .int) ∈ TB := inT1 (List.mem_of_getElem? (i := 70) rfl) rfl
set_option maxRecDepth 20000 in
theorem kf_X5_13 : Cond.fieldLink RX5 13 "LoafLetters$Shelf" "depth" "I" ∈ TB := inT1 (List.mem_of_getElem? (i := 71) rfl) rfl
set_option maxRecDepth 20000 in
theorem kf_X5_21 : Cond.fieldLink RX5 21 "LoafLetters$Shelf" "row" "[I" ∈ TB := inT1 (List.mem_of_getElem? (i := 72) rfl) rfl
set_option maxRecDepth 20000 in
theorem kf_X5_25 : Cond.fieldLink RX5 25 "LoafLetters$Shelf" "size" "I" ∈ TB := inT1 (List.mem_of_getElem? (i := 73) rfl) rfl
set_option maxRecDepth 20000 in
theorem kk_X9_42 : Cond.classLink RX9 42 RX3 ∈ TB := inT1 (List.mem_of_getElem? (i := 81) rfl) rfl
set_option maxRecDepth 20000 in
theorem kb_X3 : Cond.instantiable RX3 2 ∈ TB := inT1 (List.mem_of_getElem? (i := 82) rfl) rfl
set_option maxRecDepth 20000 in
theorem ki_X3_init : Cond.instanceMethod yX3_init ∈ TB := inT1 (List.mem_of_getElem? (i := 84) rfl) rfl
set_option maxRecDepth 20000 in
theorem kc_X3_init : Cond.code yX3_init cX3_init 1 none ∈ TB := inT1 (List.mem_of_getElem? (i := 85) rfl) rfl
set_option maxRecDepth 20000 in
theorem kl_X3_3 : Cond.methodLink RX3 3 objectInit ∈ TB := inT1 (List.mem_of_getElem? (i := 86) rfl) rfl
set_option maxRecDepth 20000 in
theorem kf_X3_9 : Cond.fieldLink RX3 9 "LoafLetters$Reach" "low" "[J" ∈ TB := inT1 (List.mem_of_getElem? (i := 87) rfl) rfl
set_option maxRecDepth 20000 in
theorem kf_X3_15 : Cond.fieldLink RX3 15 "LoafLetters$Reach" "high" "[J" ∈ TB := inT1 (List.mem_of_getElem? (i := 88) rfl) rfl
set_option maxRecDepth 20000 in
theorem ka_long : Cond.arrayClass .long ∈ TB := inT1 (List.mem_of_getElem? (i := 94) rfl) rfl
set_option maxRecDepth 20000 in
theorem kk_X9_49 : Cond.classLink RX9 49 RX0 ∈ TB := inT1 (List.mem_of_getElem? (i := 95) rfl) rfl
set_option maxRecDepth 20000 in
theorem kb_X0 : Cond.instantiable RX0 5 ∈ TB := inT1 (List.mem_of_getElem? (i := 96) rfl) rfl
set_option maxRecDepth 20000 in
theorem kl_X9_51 : Cond.methodLink RX9 51 yX0_init ∈ TB := inT1 (List.mem_of_getElem? (i := 97) rfl) rfl
set_option maxRecDepth 20000 in
theorem ki_X0_init : Cond.instanceMethod yX0_init ∈ TB := inT1 (List.mem_of_getElem? (i := 98) rfl) rfl
set_option maxRecDepth 20000 in
theorem kc_X0_init : Cond.code yX0_init cX0_init 2 none ∈ TB := inT1 (List.mem_of_getElem? (i := 99) rfl) rfl
set_option maxRecDepth 20000 in
theorem kl_X0_3 : Cond.methodLink RX0 3 objectInit ∈ TB := inT1 (List.mem_of_getElem? (i := 100) rfl) rfl
set_option maxRecDepth 20000 in
theorem kf_X0_18 : Cond.fieldLink RX0 18 "LoafLetters$CodeSearch" "reach" "LLoafLetters$Reach;" ∈ TB := inT1 (List.mem_of_getElem? (i := 101) rfl) rfl
set_option maxRecDepth 20000 in
theorem kf_X0_9 : Cond.fieldLink RX0 9 "LoafLetters$CodeSearch" "chosen" "[I" ∈ TB := inT1 (List.mem_of_getElem? (i := 102) rfl) rfl
set_option maxRecDepth 20000 in
theorem kf_X0_15 : Cond.fieldLink RX0 15 "LoafLetters$CodeSearch" "best" "[I" ∈ TB := inT1 (List.mem_of_getElem? (i := 103) rfl) rfl
set_option maxRecDepth 20000 in
theorem kf_X0_28 : Cond.fieldLink RX0 28 "LoafLetters$CodeSearch" "wanted" "I" ∈ TB := inT1 (List.mem_of_getElem? (i := 104) rfl) rfl
set_option maxRecDepth 20000 in
theorem kf_X0_35 : Cond.fieldLink RX0 35 "LoafLetters$CodeSearch" "least" "I" ∈ TB := inT1 (List.mem_of_getElem? (i := 105) rfl) rfl
set_option maxRecDepth 20000 in
theorem kk_X9_58 : Cond.classLink RX9 58 RX8 ∈ TB := inT1 (List.mem_of_getElem? (i := 117) rfl) rfl
set_option maxRecDepth 20000 in
theorem kb_X8 : Cond.instantiable RX8 10 ∈ TB := inT1 (List.mem_of_getElem? (i := 118) rfl) rfl
set_option maxRecDepth 20000 in
theorem kl_X9_60 : Cond.methodLink RX9 60 yX8_init ∈ TB := inT1 (List.mem_of_getElem? (i := 119) rfl) rfl
set_option maxRecDepth 20000 in
theorem ki_X8_init : Cond.instanceMethod yX8_init ∈ TB := inT1 (List.mem_of_getElem? (i := 120) rfl) rfl
set_option maxRecDepth 20000 in
theorem kc_X8_init : Cond.code yX8_init cX8_init 1 none ∈ TB := inT1 (List.mem_of_getElem? (i := 121) rfl) rfl
set_option maxRecDepth 20000 in
theorem kl_X8_3 : Cond.methodLink RX8 3 objectInit ∈ TB := inT1 (List.mem_of_getElem? (i := 122) rfl) rfl
set_option maxRecDepth 20000 in
theorem kf_X8_11 : Cond.fieldLink RX8 11 "LoafLetters$Valley" "signs" "[I" ∈ TB := inT1 (List.mem_of_getElem? (i := 123) rfl) rfl
set_option maxRecDepth 20000 in
theorem kf_X8_15 : Cond.fieldLink RX8 15 "LoafLetters$Valley" "worths" "[I" ∈ TB := inT1 (List.mem_of_getElem? (i := 124) rfl) rfl
set_option maxRecDepth 20000 in
theorem kf_X8_18 : Cond.fieldLink RX8 18 "LoafLetters$Valley" "hungers" "[I" ∈ TB := inT1 (List.mem_of_getElem? (i := 125) rfl) rfl
set_option maxRecDepth 20000 in
theorem kf_X8_21 : Cond.fieldLink RX8 21 "LoafLetters$Valley" "miles" "[I" ∈ TB := inT1 (List.mem_of_getElem? (i := 126) rfl) rfl
set_option maxRecDepth 20000 in
theorem kf_X8_24 : Cond.fieldLink RX8 24 "LoafLetters$Valley" "knowledge" "[I" ∈ TB := inT1 (List.mem_of_getElem? (i := 127) rfl) rfl
set_option maxRecDepth 20000 in
theorem kf_X8_34 : Cond.fieldLink RX8 34 "LoafLetters$Valley" "words" "I" ∈ TB := inT1 (List.mem_of_getElem? (i := 128) rfl) rfl
set_option maxRecDepth 20000 in
theorem kf_X8_37 : Cond.fieldLink RX8 37 "LoafLetters$Valley" "carriers" "I" ∈ TB := inT1 (List.mem_of_getElem? (i := 129) rfl) rfl
set_option maxRecDepth 20000 in
theorem kf_X8_40 : Cond.fieldLink RX8 40 "LoafLetters$Valley" "bakers" "I" ∈ TB := inT1 (List.mem_of_getElem? (i := 130) rfl) rfl
set_option maxRecDepth 20000 in
theorem kf_X8_27 : Cond.fieldLink RX8 27 "LoafLetters$Valley" "birds" "I" ∈ TB := inT1 (List.mem_of_getElem? (i := 131) rfl) rfl
set_option maxRecDepth 20000 in
theorem kf_X8_31 : Cond.fieldLink RX8 31 "LoafLetters$Valley" "mould" "I" ∈ TB := inT1 (List.mem_of_getElem? (i := 132) rfl) rfl
set_option maxRecDepth 20000 in
theorem kl_X9_68 : Cond.methodLink RX9 68 yX8_addWord ∈ TB := inT1 (List.mem_of_getElem? (i := 154) rfl) rfl
set_option maxRecDepth 20000 in
theorem ki_X8_addWord : Cond.instanceMethod yX8_addWord ∈ TB := inT1 (List.mem_of_getElem? (i := 155) rfl) rfl
set_option maxRecDepth 20000 in
theorem ke_X8_addWord : Cond.selects RX8 yX8_addWord yX8_addWord ∈ TB := inT1 (List.mem_of_getElem? (i := 156) rfl) rfl
set_option maxRecDepth 20000 in
theorem kc_X8_addWord : Cond.code yX8_addWord cX8_addWord 6 (some .boolean) ∈ TB := inT1 (List.mem_of_getElem? (i := 157) rfl) rfl
set_option maxRecDepth 20000 in
theorem ks_X9_within : Cond.static yX9_within ∈ TB := inT1 (List.mem_of_getElem? (i := 159) rfl) rfl
set_option maxRecDepth 20000 in
theorem kc_X9_within : Cond.code yX9_within cX9_within 3 (some .boolean) ∈ TB := inT1 (List.mem_of_getElem? (i := 160) rfl) rfl
set_option maxRecDepth 20000 in
theorem kl_X8_47 : Cond.methodLink RX8 47 yX6_of ∈ TB := inT1 (List.mem_of_getElem? (i := 161) rfl) rfl
set_option maxRecDepth 20000 in
theorem ks_X6_of : Cond.static yX6_of ∈ TB := inT1 (List.mem_of_getElem? (i := 162) rfl) rfl
set_option maxRecDepth 20000 in
theorem kc_X6_of : Cond.code yX6_of cX6_of 3 (some .int) ∈ TB := inT1 (List.mem_of_getElem? (i := 163) rfl) rfl
set_option maxRecDepth 20000 in
theorem kl_X8_53 : Cond.methodLink RX8 53 yX8_readAs ∈ TB := inT1 (List.mem_of_getElem? (i := 164) rfl) rfl
set_option maxRecDepth 20000 in
theorem ki_X8_readAs : Cond.instanceMethod yX8_readAs ∈ TB := inT1 (List.mem_of_getElem? (i := 165) rfl) rfl
set_option maxRecDepth 20000 in
theorem ke_X8_readAs : Cond.selects RX8 yX8_readAs yX8_readAs ∈ TB := inT1 (List.mem_of_getElem? (i := 166) rfl) rfl
set_option maxRecDepth 20000 in
theorem kc_X8_readAs : Cond.code yX8_readAs cX8_readAs 3 (some .int) ∈ TB := inT1 (List.mem_of_getElem? (i := 167) rfl) rfl
set_option maxRecDepth 20000 in
theorem kl_X8_61 : Cond.methodLink RX8 61 yX8_signOf ∈ TB := inT1 (List.mem_of_getElem? (i := 168) rfl) rfl
set_option maxRecDepth 20000 in
theorem ki_X8_signOf : Cond.instanceMethod yX8_signOf ∈ TB := inT1 (List.mem_of_getElem? (i := 169) rfl) rfl
set_option maxRecDepth 20000 in
theorem ke_X8_signOf : Cond.selects RX8 yX8_signOf yX8_signOf ∈ TB := inT1 (List.mem_of_getElem? (i := 170) rfl) rfl
set_option maxRecDepth 20000 in
theorem kc_X8_signOf : Cond.code yX8_signOf cX8_signOf 2 (some .int) ∈ TB := inT1 (List.mem_of_getElem? (i := 171) rfl) rfl
set_option maxRecDepth 20000 in
theorem ks_X9_at : Cond.static yX9_at ∈ TB := inT1 (List.mem_of_getElem? (i := 173) rfl) rfl
set_option maxRecDepth 20000 in
theorem kc_X9_at : Cond.code yX9_at cX9_at 2 (some .int) ∈ TB := inT1 (List.mem_of_getElem? (i := 174) rfl) rfl
set_option maxRecDepth 20000 in
theorem kf_X9_10 : Cond.fieldLink RX9 10 "LoafLetters" "text" "LLoafLetters$Text;" ∈ TB := inT1 (List.mem_of_getElem? (i := 175) rfl) rfl
set_option maxRecDepth 20000 in
theorem kf_X9_19 : Cond.fieldLink RX9 19 "LoafLetters" "reader" "LLoafLetters$Reader;" ∈ TB := inT1 (List.mem_of_getElem? (i := 176) rfl) rfl
set_option maxRecDepth 20000 in
theorem kf_X9_26 : Cond.fieldLink RX9 26 "LoafLetters" "larder" "LLoafLetters$Larder;" ∈ TB := inT1 (List.mem_of_getElem? (i := 177) rfl) rfl
set_option maxRecDepth 20000 in
theorem kf_X9_35 : Cond.fieldLink RX9 35 "LoafLetters" "undoable" "LLoafLetters$Shelf;" ∈ TB := inT1 (List.mem_of_getElem? (i := 178) rfl) rfl
set_option maxRecDepth 20000 in
theorem kf_X9_39 : Cond.fieldLink RX9 39 "LoafLetters" "kept" "LLoafLetters$Shelf;" ∈ TB := inT1 (List.mem_of_getElem? (i := 179) rfl) rfl
set_option maxRecDepth 20000 in
theorem kf_X9_45 : Cond.fieldLink RX9 45 "LoafLetters" "reach" "LLoafLetters$Reach;" ∈ TB := inT1 (List.mem_of_getElem? (i := 180) rfl) rfl
set_option maxRecDepth 20000 in
theorem kf_X9_54 : Cond.fieldLink RX9 54 "LoafLetters" "search" "LLoafLetters$CodeSearch;" ∈ TB := inT1 (List.mem_of_getElem? (i := 181) rfl) rfl
set_option maxRecDepth 20000 in
theorem kf_X9_61 : Cond.fieldLink RX9 61 "LoafLetters" "laid" "LLoafLetters$Valley;" ∈ TB := inT1 (List.mem_of_getElem? (i := 182) rfl) rfl
set_option maxRecDepth 20000 in
theorem kf_X9_65 : Cond.fieldLink RX9 65 "LoafLetters" "draft" "LLoafLetters$Valley;" ∈ TB := inT1 (List.mem_of_getElem? (i := 183) rfl) rfl
set_option maxRecDepth 20000 in
theorem kl_L_15 : Cond.methodLink RL 15 yX9_write ∈ TB := inT1 (List.mem_of_getElem? (i := 203) rfl) rfl
set_option maxRecDepth 20000 in
theorem ki_X9_write : Cond.instanceMethod yX9_write ∈ TB := inT1 (List.mem_of_getElem? (i := 204) rfl) rfl
set_option maxRecDepth 20000 in
theorem ke_X9_write : Cond.selects RX9 yX9_write yX9_write ∈ TB := inT1 (List.mem_of_getElem? (i := 205) rfl) rfl
set_option maxRecDepth 20000 in
theorem kc_X9_write : Cond.code yX9_write cX9_write 4 (some .int) ∈ TB := inT1 (List.mem_of_getElem? (i := 206) rfl) rfl
set_option maxRecDepth 20000 in
theorem kl_X9_72 : Cond.methodLink RX9 72 yX9_within ∈ TB := inT1 (List.mem_of_getElem? (i := 207) rfl) rfl
set_option maxRecDepth 20000 in
theorem kl_X9_76 : Cond.methodLink RX9 76 yX7_hasRoom ∈ TB := inT1 (List.mem_of_getElem? (i := 208) rfl) rfl
set_option maxRecDepth 20000 in
theorem ki_X7_hasRoom : Cond.instanceMethod yX7_hasRoom ∈ TB := inT1 (List.mem_of_getElem? (i := 209) rfl) rfl
set_option maxRecDepth 20000 in
theorem ke_X7_hasRoom : Cond.selects RX7 yX7_hasRoom yX7_hasRoom ∈ TB := inT1 (List.mem_of_getElem? (i := 210) rfl) rfl
set_option maxRecDepth 20000 in
theorem kc_X7_hasRoom : Cond.code yX7_hasRoom cX7_hasRoom 2 (some .boolean) ∈ TB := inT1 (List.mem_of_getElem? (i := 211) rfl) rfl
set_option maxRecDepth 20000 in
theorem kl_X9_80 : Cond.methodLink RX9 80 yX7_append ∈ TB := inT1 (List.mem_of_getElem? (i := 212) rfl) rfl
set_option maxRecDepth 20000 in
theorem ki_X7_append : Cond.instanceMethod yX7_append ∈ TB := inT1 (List.mem_of_getElem? (i := 213) rfl) rfl
set_option maxRecDepth 20000 in
theorem ke_X7_append : Cond.selects RX7 yX7_append yX7_append ∈ TB := inT1 (List.mem_of_getElem? (i := 214) rfl) rfl
set_option maxRecDepth 20000 in
theorem kc_X7_append : Cond.code yX7_append cX7_append 5 none ∈ TB := inT1 (List.mem_of_getElem? (i := 215) rfl) rfl
set_option maxRecDepth 20000 in
theorem kl_X9_84 : Cond.methodLink RX9 84 yX7_length ∈ TB := inT1 (List.mem_of_getElem? (i := 216) rfl) rfl
set_option maxRecDepth 20000 in
theorem ki_X7_length : Cond.instanceMethod yX7_length ∈ TB := inT1 (List.mem_of_getElem? (i := 217) rfl) rfl
set_option maxRecDepth 20000 in
theorem ke_X7_length : Cond.selects RX7 yX7_length yX7_length ∈ TB := inT1 (List.mem_of_getElem? (i := 218) rfl) rfl
set_option maxRecDepth 20000 in
theorem kc_X7_length : Cond.code yX7_length cX7_length 1 (some .int) ∈ TB := inT1 (List.mem_of_getElem? (i := 219) rfl) rfl
set_option maxRecDepth 20000 in
theorem kl_L_20 : Cond.methodLink RL 20 yX9_wipe ∈ TB := inT1 (List.mem_of_getElem? (i := 220) rfl) rfl
set_option maxRecDepth 20000 in
theorem ki_X9_wipe : Cond.instanceMethod yX9_wipe ∈ TB := inT1 (List.mem_of_getElem? (i := 221) rfl) rfl
set_option maxRecDepth 20000 in
theorem ke_X9_wipe : Cond.selects RX9 yX9_wipe yX9_wipe ∈ TB := inT1 (List.mem_of_getElem? (i := 222) rfl) rfl
set_option maxRecDepth 20000 in
theorem kc_X9_wipe : Cond.code yX9_wipe cX9_wipe 2 (some .int) ∈ TB := inT1 (List.mem_of_getElem? (i := 223) rfl) rfl
set_option maxRecDepth 20000 in
theorem kl_X9_88 : Cond.methodLink RX9 88 yX7_clear ∈ TB := inT1 (List.mem_of_getElem? (i := 224) rfl) rfl
set_option maxRecDepth 20000 in
theorem ki_X7_clear : Cond.instanceMethod yX7_clear ∈ TB := inT1 (List.mem_of_getElem? (i := 225) rfl) rfl
set_option maxRecDepth 20000 in
theorem ke_X7_clear : Cond.selects RX7 yX7_clear yX7_clear ∈ TB := inT1 (List.mem_of_getElem? (i := 226) rfl) rfl
set_option maxRecDepth 20000 in
theorem kc_X7_clear : Cond.code yX7_clear cX7_clear 1 none ∈ TB := inT1 (List.mem_of_getElem? (i := 227) rfl) rfl
set_option maxRecDepth 20000 in
theorem kl_L_25 : Cond.methodLink RL 25 yX9_fault ∈ TB := inT1 (List.mem_of_getElem? (i := 228) rfl) rfl
set_option maxRecDepth 20000 in
theorem ki_X9_fault : Cond.instanceMethod yX9_fault ∈ TB := inT1 (List.mem_of_getElem? (i := 229) rfl) rfl
set_option maxRecDepth 20000 in
theorem ke_X9_fault : Cond.selects RX9 yX9_fault yX9_fault ∈ TB := inT1 (List.mem_of_getElem? (i := 230) rfl) rfl
set_option maxRecDepth 20000 in
theorem kc_X9_fault : Cond.code yX9_fault cX9_fault 1 (some .int) ∈ TB := inT1 (List.mem_of_getElem? (i := 231) rfl) rfl
set_option maxRecDepth 20000 in
theorem kl_X9_91 : Cond.methodLink RX9 91 yX4_firstFault ∈ TB := inT1 (List.mem_of_getElem? (i := 232) rfl) rfl
set_option maxRecDepth 20000 in
theorem ki_X4_firstFault : Cond.instanceMethod yX4_firstFault ∈ TB := inT1 (List.mem_of_getElem? (i := 233) rfl) rfl
set_option maxRecDepth 20000 in
theorem ke_X4_firstFault : Cond.selects RX4 yX4_firstFault yX4_firstFault ∈ TB := inT1 (List.mem_of_getElem? (i := 234) rfl) rfl
set_option maxRecDepth 20000 in
theorem kc_X4_firstFault : Cond.code yX4_firstFault cX4_firstFault 5 (some .int) ∈ TB := inT1 (List.mem_of_getElem? (i := 235) rfl) rfl
set_option maxRecDepth 20000 in
theorem kl_X4_15 : Cond.methodLink RX4 15 yX8_clear ∈ TB := inT1 (List.mem_of_getElem? (i := 236) rfl) rfl
set_option maxRecDepth 20000 in
theorem ki_X8_clear : Cond.instanceMethod yX8_clear ∈ TB := inT1 (List.mem_of_getElem? (i := 237) rfl) rfl
set_option maxRecDepth 20000 in
theorem ke_X8_clear : Cond.selects RX8 yX8_clear yX8_clear ∈ TB := inT1 (List.mem_of_getElem? (i := 238) rfl) rfl
set_option maxRecDepth 20000 in
theorem kc_X8_clear : Cond.code yX8_clear cX8_clear 1 none ∈ TB := inT1 (List.mem_of_getElem? (i := 239) rfl) rfl
set_option maxRecDepth 20000 in
theorem kl_X4_26 : Cond.methodLink RX4 26 yX7_length ∈ TB := inT2 (List.mem_of_getElem? (i := 0) rfl) rfl
set_option maxRecDepth 20000 in
theorem kl_X4_30 : Cond.methodLink RX4 30 yX4_readItem ∈ TB := inT2 (List.mem_of_getElem? (i := 1) rfl) rfl
set_option maxRecDepth 20000 in
theorem ki_X4_readItem : Cond.instanceMethod yX4_readItem ∈ TB := inT2 (List.mem_of_getElem? (i := 3) rfl) rfl
set_option maxRecDepth 20000 in
theorem kc_X4_readItem : Cond.code yX4_readItem cX4_readItem 4 (some .boolean) ∈ TB := inT2 (List.mem_of_getElem? (i := 4) rfl) rfl
set_option maxRecDepth 20000 in
theorem kl_X4_34 : Cond.methodLink RX4 34 yX7_byteAt ∈ TB := inT2 (List.mem_of_getElem? (i := 5) rfl) rfl
set_option maxRecDepth 20000 in
theorem ki_X7_byteAt : Cond.instanceMethod yX7_byteAt ∈ TB := inT2 (List.mem_of_getElem? (i := 6) rfl) rfl
set_option maxRecDepth 20000 in
theorem ke_X7_byteAt : Cond.selects RX7 yX7_byteAt yX7_byteAt ∈ TB := inT2 (List.mem_of_getElem? (i := 7) rfl) rfl
set_option maxRecDepth 20000 in
theorem kc_X7_byteAt : Cond.code yX7_byteAt cX7_byteAt 2 (some .int) ∈ TB := inT2 (List.mem_of_getElem? (i := 8) rfl) rfl
set_option maxRecDepth 20000 in
theorem kl_X4_38 : Cond.methodLink RX4 38 yX4_readNumbers ∈ TB := inT2 (List.mem_of_getElem? (i := 9) rfl) rfl
set_option maxRecDepth 20000 in
theorem ki_X4_readNumbers : Cond.instanceMethod yX4_readNumbers ∈ TB := inT2 (List.mem_of_getElem? (i := 11) rfl) rfl
set_option maxRecDepth 20000 in
theorem kc_X4_readNumbers : Cond.code yX4_readNumbers cX4_readNumbers 6 (some .boolean) ∈ TB := inT2 (List.mem_of_getElem? (i := 12) rfl) rfl
set_option maxRecDepth 20000 in
theorem kl_X4_57 : Cond.methodLink RX4 57 yX4_readNumber ∈ TB := inT2 (List.mem_of_getElem? (i := 13) rfl) rfl
set_option maxRecDepth 20000 in
theorem ki_X4_readNumber : Cond.instanceMethod yX4_readNumber ∈ TB := inT2 (List.mem_of_getElem? (i := 15) rfl) rfl
set_option maxRecDepth 20000 in
theorem kc_X4_readNumber : Cond.code yX4_readNumber cX4_readNumber 4 (some .int) ∈ TB := inT2 (List.mem_of_getElem? (i := 16) rfl) rfl
set_option maxRecDepth 20000 in
theorem kl_X4_61 : Cond.methodLink RX4 61 yX4_isFigure ∈ TB := inT2 (List.mem_of_getElem? (i := 17) rfl) rfl
set_option maxRecDepth 20000 in
theorem ks_X4_isFigure : Cond.static yX4_isFigure ∈ TB := inT2 (List.mem_of_getElem? (i := 18) rfl) rfl
set_option maxRecDepth 20000 in
theorem kc_X4_isFigure : Cond.code yX4_isFigure cX4_isFigure 1 (some .boolean) ∈ TB := inT2 (List.mem_of_getElem? (i := 19) rfl) rfl
set_option maxRecDepth 20000 in
theorem kl_X4_42 : Cond.methodLink RX4 42 yX8_addWord ∈ TB := inT2 (List.mem_of_getElem? (i := 21) rfl) rfl
set_option maxRecDepth 20000 in
theorem kl_X4_46 : Cond.methodLink RX4 46 yX8_setLosses ∈ TB := inT2 (List.mem_of_getElem? (i := 22) rfl) rfl
set_option maxRecDepth 20000 in
theorem ki_X8_setLosses : Cond.instanceMethod yX8_setLosses ∈ TB := inT2 (List.mem_of_getElem? (i := 23) rfl) rfl
set_option maxRecDepth 20000 in
theorem ke_X8_setLosses : Cond.selects RX8 yX8_setLosses yX8_setLosses ∈ TB := inT2 (List.mem_of_getElem? (i := 24) rfl) rfl
set_option maxRecDepth 20000 in
theorem kc_X8_setLosses : Cond.code yX8_setLosses cX8_setLosses 3 (some .boolean) ∈ TB := inT2 (List.mem_of_getElem? (i := 25) rfl) rfl
set_option maxRecDepth 20000 in
theorem kl_X4_50 : Cond.methodLink RX4 50 yX8_addCarrier ∈ TB := inT2 (List.mem_of_getElem? (i := 26) rfl) rfl
set_option maxRecDepth 20000 in
theorem ki_X8_addCarrier : Cond.instanceMethod yX8_addCarrier ∈ TB := inT2 (List.mem_of_getElem? (i := 27) rfl) rfl
set_option maxRecDepth 20000 in
theorem ke_X8_addCarrier : Cond.selects RX8 yX8_addCarrier yX8_addCarrier ∈ TB := inT2 (List.mem_of_getElem? (i := 28) rfl) rfl
set_option maxRecDepth 20000 in
theorem kc_X8_addCarrier : Cond.code yX8_addCarrier cX8_addCarrier 3 (some .boolean) ∈ TB := inT2 (List.mem_of_getElem? (i := 29) rfl) rfl
set_option maxRecDepth 20000 in
theorem kl_X4_53 : Cond.methodLink RX4 53 yX8_addBaker ∈ TB := inT2 (List.mem_of_getElem? (i := 30) rfl) rfl
set_option maxRecDepth 20000 in
theorem ki_X8_addBaker : Cond.instanceMethod yX8_addBaker ∈ TB := inT2 (List.mem_of_getElem? (i := 31) rfl) rfl
set_option maxRecDepth 20000 in
theorem ke_X8_addBaker : Cond.selects RX8 yX8_addBaker yX8_addBaker ∈ TB := inT2 (List.mem_of_getElem? (i := 32) rfl) rfl
set_option maxRecDepth 20000 in
theorem kc_X8_addBaker : Cond.code yX8_addBaker cX8_addBaker 2 (some .boolean) ∈ TB := inT2 (List.mem_of_getElem? (i := 33) rfl) rfl
set_option maxRecDepth 20000 in
theorem kl_L_29 : Cond.methodLink RL 29 yX9_lay ∈ TB := inT2 (List.mem_of_getElem? (i := 34) rfl) rfl
set_option maxRecDepth 20000 in
theorem ki_X9_lay : Cond.instanceMethod yX9_lay ∈ TB := inT2 (List.mem_of_getElem? (i := 35) rfl) rfl
set_option maxRecDepth 20000 in
theorem ke_X9_lay : Cond.selects RX9 yX9_lay yX9_lay ∈ TB := inT2 (List.mem_of_getElem? (i := 36) rfl) rfl
set_option maxRecDepth 20000 in
theorem kc_X9_lay : Cond.code yX9_lay cX9_lay 2 (some .int) ∈ TB := inT2 (List.mem_of_getElem? (i := 37) rfl) rfl
set_option maxRecDepth 20000 in
theorem kl_X9_95 : Cond.methodLink RX9 95 yX8_words ∈ TB := inT2 (List.mem_of_getElem? (i := 38) rfl) rfl
set_option maxRecDepth 20000 in
theorem ki_X8_words : Cond.instanceMethod yX8_words ∈ TB := inT2 (List.mem_of_getElem? (i := 39) rfl) rfl
set_option maxRecDepth 20000 in
theorem ke_X8_words : Cond.selects RX8 yX8_words yX8_words ∈ TB := inT2 (List.mem_of_getElem? (i := 40) rfl) rfl
set_option maxRecDepth 20000 in
theorem kc_X8_words : Cond.code yX8_words cX8_words 1 (some .int) ∈ TB := inT2 (List.mem_of_getElem? (i := 41) rfl) rfl
set_option maxRecDepth 20000 in
theorem kl_X9_98 : Cond.methodLink RX9 98 yX1_clear ∈ TB := inT2 (List.mem_of_getElem? (i := 42) rfl) rfl
set_option maxRecDepth 20000 in
theorem ki_X1_clear : Cond.instanceMethod yX1_clear ∈ TB := inT2 (List.mem_of_getElem? (i := 43) rfl) rfl
set_option maxRecDepth 20000 in
theorem ke_X1_clear : Cond.selects RX1 yX1_clear yX1_clear ∈ TB := inT2 (List.mem_of_getElem? (i := 44) rfl) rfl
set_option maxRecDepth 20000 in
theorem kc_X1_clear : Cond.code yX1_clear cX1_clear 1 none ∈ TB := inT2 (List.mem_of_getElem? (i := 45) rfl) rfl
set_option maxRecDepth 20000 in
theorem kl_X9_99 : Cond.methodLink RX9 99 yX5_clear ∈ TB := inT2 (List.mem_of_getElem? (i := 46) rfl) rfl
set_option maxRecDepth 20000 in
theorem ki_X5_clear : Cond.instanceMethod yX5_clear ∈ TB := inT2 (List.mem_of_getElem? (i := 47) rfl) rfl
set_option maxRecDepth 20000 in
theorem ke_X5_clear : Cond.selects RX5 yX5_clear yX5_clear ∈ TB := inT2 (List.mem_of_getElem? (i := 48) rfl) rfl
set_option maxRecDepth 20000 in
theorem kc_X5_clear : Cond.code yX5_clear cX5_clear 1 none ∈ TB := inT2 (List.mem_of_getElem? (i := 49) rfl) rfl
set_option maxRecDepth 20000 in
theorem kl_L_33 : Cond.methodLink RL 33 yX9_word ∈ TB := inT2 (List.mem_of_getElem? (i := 50) rfl) rfl
set_option maxRecDepth 20000 in
theorem ki_X9_word : Cond.instanceMethod yX9_word ∈ TB := inT2 (List.mem_of_getElem? (i := 51) rfl) rfl
set_option maxRecDepth 20000 in
theorem ke_X9_word : Cond.selects RX9 yX9_word yX9_word ∈ TB := inT2 (List.mem_of_getElem? (i := 52) rfl) rfl
set_option maxRecDepth 20000 in
theorem kc_X9_word : Cond.code yX9_word cX9_word 3 (some .int) ∈ TB := inT2 (List.mem_of_getElem? (i := 53) rfl) rfl
set_option maxRecDepth 20000 in
theorem kl_X9_100 : Cond.methodLink RX9 100 yX9_isWord ∈ TB := inT2 (List.mem_of_getElem? (i := 54) rfl) rfl
set_option maxRecDepth 20000 in
theorem ki_X9_isWord : Cond.instanceMethod yX9_isWord ∈ TB := inT2 (List.mem_of_getElem? (i := 56) rfl) rfl
set_option maxRecDepth 20000 in
theorem kc_X9_isWord : Cond.code yX9_isWord cX9_isWord 2 (some .boolean) ∈ TB := inT2 (List.mem_of_getElem? (i := 57) rfl) rfl
set_option maxRecDepth 20000 in
theorem kl_X9_103 : Cond.methodLink RX9 103 yX8_signOf ∈ TB := inT2 (List.mem_of_getElem? (i := 58) rfl) rfl
set_option maxRecDepth 20000 in
theorem kl_X9_107 : Cond.methodLink RX9 107 yX8_worthOf ∈ TB := inT2 (List.mem_of_getElem? (i := 59) rfl) rfl
set_option maxRecDepth 20000 in
theorem ki_X8_worthOf : Cond.instanceMethod yX8_worthOf ∈ TB := inT2 (List.mem_of_getElem? (i := 60) rfl) rfl
set_option maxRecDepth 20000 in
theorem ke_X8_worthOf : Cond.selects RX8 yX8_worthOf yX8_worthOf ∈ TB := inT2 (List.mem_of_getElem? (i := 61) rfl) rfl
set_option maxRecDepth 20000 in
theorem kc_X8_worthOf : Cond.code yX8_worthOf cX8_worthOf 2 (some .int) ∈ TB := inT2 (List.mem_of_getElem? (i := 62) rfl) rfl
set_option maxRecDepth 20000 in
theorem kl_X9_110 : Cond.methodLink RX9 110 yX6_flour ∈ TB := inT2 (List.mem_of_getElem? (i := 63) rfl) rfl
set_option maxRecDepth 20000 in
theorem ks_X6_flour : Cond.static yX6_flour ∈ TB := inT2 (List.mem_of_getElem? (i := 64) rfl) rfl
set_option maxRecDepth 20000 in
theorem kc_X6_flour : Cond.code yX6_flour cX6_flour 1 (some .int) ∈ TB := inT2 (List.mem_of_getElem? (i := 65) rfl) rfl
set_option maxRecDepth 20000 in
theorem kl_X6_7 : Cond.methodLink RX6 7 yX6_seeds ∈ TB := inT2 (List.mem_of_getElem? (i := 66) rfl) rfl
set_option maxRecDepth 20000 in
theorem ks_X6_seeds : Cond.static yX6_seeds ∈ TB := inT2 (List.mem_of_getElem? (i := 67) rfl) rfl
set_option maxRecDepth 20000 in
theorem kc_X6_seeds : Cond.code yX6_seeds cX6_seeds 1 (some .int) ∈ TB := inT2 (List.mem_of_getElem? (i := 68) rfl) rfl
set_option maxRecDepth 20000 in
theorem kl_X6_13 : Cond.methodLink RX6 13 yX6_cuts ∈ TB := inT2 (List.mem_of_getElem? (i := 69) rfl) rfl
set_option maxRecDepth 20000 in
theorem ks_X6_cuts : Cond.static yX6_cuts ∈ TB := inT2 (List.mem_of_getElem? (i := 70) rfl) rfl
set_option maxRecDepth 20000 in
theorem kc_X6_cuts : Cond.code yX6_cuts cX6_cuts 1 (some .int) ∈ TB := inT2 (List.mem_of_getElem? (i := 71) rfl) rfl
set_option maxRecDepth 20000 in
theorem kl_X6_16 : Cond.methodLink RX6 16 yX6_filling ∈ TB := inT2 (List.mem_of_getElem? (i := 72) rfl) rfl
set_option maxRecDepth 20000 in
theorem ks_X6_filling : Cond.static yX6_filling ∈ TB := inT2 (List.mem_of_getElem? (i := 73) rfl) rfl
set_option maxRecDepth 20000 in
theorem kc_X6_filling : Cond.code yX6_filling cX6_filling 1 (some .int) ∈ TB := inT2 (List.mem_of_getElem? (i := 74) rfl) rfl
set_option maxRecDepth 20000 in
theorem kl_L_38 : Cond.methodLink RL 38 yX9_bake ∈ TB := inT2 (List.mem_of_getElem? (i := 75) rfl) rfl
set_option maxRecDepth 20000 in
theorem ki_X9_bake : Cond.instanceMethod yX9_bake ∈ TB := inT2 (List.mem_of_getElem? (i := 76) rfl) rfl
set_option maxRecDepth 20000 in
theorem ke_X9_bake : Cond.selects RX9 yX9_bake yX9_bake ∈ TB := inT2 (List.mem_of_getElem? (i := 77) rfl) rfl
set_option maxRecDepth 20000 in
theorem kc_X9_bake : Cond.code yX9_bake cX9_bake 4 (some .int) ∈ TB := inT2 (List.mem_of_getElem? (i := 78) rfl) rfl
set_option maxRecDepth 20000 in
theorem kl_X9_115 : Cond.methodLink RX9 115 yX1_isFull ∈ TB := inT2 (List.mem_of_getElem? (i := 79) rfl) rfl
set_option maxRecDepth 20000 in
theorem ki_X1_isFull : Cond.instanceMethod yX1_isFull ∈ TB := inT2 (List.mem_of_getElem? (i := 80) rfl) rfl
set_option maxRecDepth 20000 in
theorem ke_X1_isFull : Cond.selects RX1 yX1_isFull yX1_isFull ∈ TB := inT2 (List.mem_of_getElem? (i := 81) rfl) rfl
set_option maxRecDepth 20000 in
theorem kc_X1_isFull : Cond.code yX1_isFull cX1_isFull 1 (some .boolean) ∈ TB := inT2 (List.mem_of_getElem? (i := 82) rfl) rfl
set_option maxRecDepth 20000 in
theorem kl_X1_13 : Cond.methodLink RX1 13 yX1_size ∈ TB := inT2 (List.mem_of_getElem? (i := 83) rfl) rfl
set_option maxRecDepth 20000 in
theorem ki_X1_size : Cond.instanceMethod yX1_size ∈ TB := inT2 (List.mem_of_getElem? (i := 84) rfl) rfl
set_option maxRecDepth 20000 in
theorem ke_X1_size : Cond.selects RX1 yX1_size yX1_size ∈ TB := inT2 (List.mem_of_getElem? (i := 85) rfl) rfl
set_option maxRecDepth 20000 in
theorem kc_X1_size : Cond.code yX1_size cX1_size 1 (some .int) ∈ TB := inT2 (List.mem_of_getElem? (i := 86) rfl) rfl
set_option maxRecDepth 20000 in
theorem kl_X9_119 : Cond.methodLink RX9 119 yX5_push ∈ TB := inT2 (List.mem_of_getElem? (i := 87) rfl) rfl
set_option maxRecDepth 20000 in
theorem ki_X5_push : Cond.instanceMethod yX5_push ∈ TB := inT2 (List.mem_of_getElem? (i := 88) rfl) rfl
set_option maxRecDepth 20000 in
theorem ke_X5_push : Cond.selects RX5 yX5_push yX5_push ∈ TB := inT2 (List.mem_of_getElem? (i := 89) rfl) rfl
set_option maxRecDepth 20000 in
theorem kc_X5_push : Cond.code yX5_push cX5_push 2 none ∈ TB := inT2 (List.mem_of_getElem? (i := 90) rfl) rfl
set_option maxRecDepth 20000 in
theorem kl_X5_28 : Cond.methodLink RX5 28 yX5_isFull ∈ TB := inT2 (List.mem_of_getElem? (i := 91) rfl) rfl
set_option maxRecDepth 20000 in
theorem ki_X5_isFull : Cond.instanceMethod yX5_isFull ∈ TB := inT2 (List.mem_of_getElem? (i := 92) rfl) rfl
set_option maxRecDepth 20000 in
theorem ke_X5_isFull : Cond.selects RX5 yX5_isFull yX5_isFull ∈ TB := inT2 (List.mem_of_getElem? (i := 93) rfl) rfl
set_option maxRecDepth 20000 in
theorem kc_X5_isFull : Cond.code yX5_isFull cX5_isFull 1 (some .boolean) ∈ TB := inT2 (List.mem_of_getElem? (i := 94) rfl) rfl
set_option maxRecDepth 20000 in
theorem kl_X5_32 : Cond.methodLink RX5 32 yX5_dropOldest ∈ TB := inT2 (List.mem_of_getElem? (i := 95) rfl) rfl
set_option maxRecDepth 20000 in
theorem ki_X5_dropOldest : Cond.instanceMethod yX5_dropOldest ∈ TB := inT2 (List.mem_of_getElem? (i := 97) rfl) rfl
set_option maxRecDepth 20000 in
theorem kc_X5_dropOldest : Cond.code yX5_dropOldest cX5_dropOldest 2 none ∈ TB := inT2 (List.mem_of_getElem? (i := 98) rfl) rfl
set_option maxRecDepth 20000 in
theorem kl_X5_42 : Cond.methodLink RX5 42 arraycopyName ∈ TB := inT2 (List.mem_of_getElem? (i := 99) rfl) rfl
set_option maxRecDepth 20000 in
theorem ks_arraycopyName : Cond.static arraycopyName ∈ TB := inT2 (List.mem_of_getElem? (i := 100) rfl) rfl
set_option maxRecDepth 20000 in
theorem ka_arraycopyName : Cond.native arraycopyName ∈ TB := inT2 (List.mem_of_getElem? (i := 101) rfl) rfl
set_option maxRecDepth 20000 in
theorem kl_X5_35 : Cond.methodLink RX5 35 yX1_copyTo ∈ TB := inT2 (List.mem_of_getElem? (i := 102) rfl) rfl
set_option maxRecDepth 20000 in
theorem ki_X1_copyTo : Cond.instanceMethod yX1_copyTo ∈ TB := inT2 (List.mem_of_getElem? (i := 103) rfl) rfl
set_option maxRecDepth 20000 in
theorem ke_X1_copyTo : Cond.selects RX1 yX1_copyTo yX1_copyTo ∈ TB := inT2 (List.mem_of_getElem? (i := 104) rfl) rfl
set_option maxRecDepth 20000 in
theorem kc_X1_copyTo : Cond.code yX1_copyTo cX1_copyTo 3 none ∈ TB := inT2 (List.mem_of_getElem? (i := 105) rfl) rfl
set_option maxRecDepth 20000 in
theorem kl_X1_43 : Cond.methodLink RX1 43 arraycopyName ∈ TB := inT2 (List.mem_of_getElem? (i := 107) rfl) rfl
set_option maxRecDepth 20000 in
theorem kl_X9_123 : Cond.methodLink RX9 123 yX9_wordBehind ∈ TB := inT2 (List.mem_of_getElem? (i := 108) rfl) rfl
set_option maxRecDepth 20000 in
theorem ki_X9_wordBehind : Cond.instanceMethod yX9_wordBehind ∈ TB := inT2 (List.mem_of_getElem? (i := 110) rfl) rfl
set_option maxRecDepth 20000 in
theorem kc_X9_wordBehind : Cond.code yX9_wordBehind cX9_wordBehind 2 (some .int) ∈ TB := inT2 (List.mem_of_getElem? (i := 111) rfl) rfl
set_option maxRecDepth 20000 in
theorem kl_X9_126 : Cond.methodLink RX9 126 yX1_add ∈ TB := inT2 (List.mem_of_getElem? (i := 112) rfl) rfl
set_option maxRecDepth 20000 in
theorem ki_X1_add : Cond.instanceMethod yX1_add ∈ TB := inT2 (List.mem_of_getElem? (i := 113) rfl) rfl
set_option maxRecDepth 20000 in
theorem ke_X1_add : Cond.selects RX1 yX1_add yX1_add ∈ TB := inT2 (List.mem_of_getElem? (i := 114) rfl) rfl
set_option maxRecDepth 20000 in
theorem kc_X1_add : Cond.code yX1_add cX1_add 5 none ∈ TB := inT2 (List.mem_of_getElem? (i := 115) rfl) rfl
set_option maxRecDepth 20000 in
theorem kl_X1_31 : Cond.methodLink RX1 31 yX1_isFull ∈ TB := inT2 (List.mem_of_getElem? (i := 116) rfl) rfl
set_option maxRecDepth 20000 in
theorem kl_X1_35 : Cond.methodLink RX1 35 yX1_change ∈ TB := inT2 (List.mem_of_getElem? (i := 117) rfl) rfl
set_option maxRecDepth 20000 in
theorem ki_X1_change : Cond.instanceMethod yX1_change ∈ TB := inT2 (List.mem_of_getElem? (i := 119) rfl) rfl
set_option maxRecDepth 20000 in
theorem kc_X1_change : Cond.code yX1_change cX1_change 4 none ∈ TB := inT2 (List.mem_of_getElem? (i := 120) rfl) rfl
set_option maxRecDepth 20000 in
theorem kl_X1_23 : Cond.methodLink RX1 23 yX1_holds ∈ TB := inT2 (List.mem_of_getElem? (i := 121) rfl) rfl
set_option maxRecDepth 20000 in
theorem ki_X1_holds : Cond.instanceMethod yX1_holds ∈ TB := inT2 (List.mem_of_getElem? (i := 122) rfl) rfl
set_option maxRecDepth 20000 in
theorem ke_X1_holds : Cond.selects RX1 yX1_holds yX1_holds ∈ TB := inT2 (List.mem_of_getElem? (i := 123) rfl) rfl
set_option maxRecDepth 20000 in
theorem kc_X1_holds : Cond.code yX1_holds cX1_holds 2 (some .boolean) ∈ TB := inT2 (List.mem_of_getElem? (i := 124) rfl) rfl
set_option maxRecDepth 20000 in
theorem kl_X9_130 : Cond.methodLink RX9 130 yX9_flourOf ∈ TB := inT2 (List.mem_of_getElem? (i := 125) rfl) rfl
set_option maxRecDepth 20000 in
theorem ks_X9_flourOf : Cond.static yX9_flourOf ∈ TB := inT2 (List.mem_of_getElem? (i := 126) rfl) rfl
set_option maxRecDepth 20000 in
theorem kc_X9_flourOf : Cond.code yX9_flourOf cX9_flourOf 3 (some .int) ∈ TB := inT2 (List.mem_of_getElem? (i := 127) rfl) rfl
set_option maxRecDepth 20000 in
theorem kl_X9_134 : Cond.methodLink RX9 134 yX1_useFlour ∈ TB := inT2 (List.mem_of_getElem? (i := 128) rfl) rfl
set_option maxRecDepth 20000 in
theorem ki_X1_useFlour : Cond.instanceMethod yX1_useFlour ∈ TB := inT2 (List.mem_of_getElem? (i := 129) rfl) rfl
set_option maxRecDepth 20000 in
theorem ke_X1_useFlour : Cond.selects RX1 yX1_useFlour yX1_useFlour ∈ TB := inT2 (List.mem_of_getElem? (i := 130) rfl) rfl
set_option maxRecDepth 20000 in
theorem kc_X1_useFlour : Cond.code yX1_useFlour cX1_useFlour 2 none ∈ TB := inT2 (List.mem_of_getElem? (i := 131) rfl) rfl
set_option maxRecDepth 20000 in
theorem kl_X9_137 : Cond.methodLink RX9 137 yX1_size ∈ TB := inT2 (List.mem_of_getElem? (i := 132) rfl) rfl
set_option maxRecDepth 20000 in
theorem kl_L_42 : Cond.methodLink RL 42 yX9_day ∈ TB := inT2 (List.mem_of_getElem? (i := 133) rfl) rfl
set_option maxRecDepth 20000 in
theorem ki_X9_day : Cond.instanceMethod yX9_day ∈ TB := inT2 (List.mem_of_getElem? (i := 134) rfl) rfl
set_option maxRecDepth 20000 in
theorem ke_X9_day : Cond.selects RX9 yX9_day yX9_day ∈ TB := inT2 (List.mem_of_getElem? (i := 135) rfl) rfl
set_option maxRecDepth 20000 in
theorem kc_X9_day : Cond.code yX9_day cX9_day 3 (some .int) ∈ TB := inT2 (List.mem_of_getElem? (i := 136) rfl) rfl
set_option maxRecDepth 20000 in
theorem kl_X9_140 : Cond.methodLink RX9 140 yX1_passDay ∈ TB := inT2 (List.mem_of_getElem? (i := 137) rfl) rfl
set_option maxRecDepth 20000 in
theorem ki_X1_passDay : Cond.instanceMethod yX1_passDay ∈ TB := inT2 (List.mem_of_getElem? (i := 138) rfl) rfl
set_option maxRecDepth 20000 in
theorem ke_X1_passDay : Cond.selects RX1 yX1_passDay yX1_passDay ∈ TB := inT2 (List.mem_of_getElem? (i := 139) rfl) rfl
set_option maxRecDepth 20000 in
theorem kc_X1_passDay : Cond.code yX1_passDay cX1_passDay 2 none ∈ TB := inT2 (List.mem_of_getElem? (i := 140) rfl) rfl
set_option maxRecDepth 20000 in
theorem kl_X1_39 : Cond.methodLink RX1 39 yX1_part ∈ TB := inT2 (List.mem_of_getElem? (i := 141) rfl) rfl
set_option maxRecDepth 20000 in
theorem ki_X1_part : Cond.instanceMethod yX1_part ∈ TB := inT2 (List.mem_of_getElem? (i := 142) rfl) rfl
set_option maxRecDepth 20000 in
theorem ke_X1_part : Cond.selects RX1 yX1_part yX1_part ∈ TB := inT2 (List.mem_of_getElem? (i := 143) rfl) rfl
set_option maxRecDepth 20000 in
theorem kc_X1_part : Cond.code yX1_part cX1_part 3 (some .int) ∈ TB := inT2 (List.mem_of_getElem? (i := 144) rfl) rfl
set_option maxRecDepth 20000 in
theorem kl_X9_143 : Cond.methodLink RX9 143 yX9_readingOf ∈ TB := inT2 (List.mem_of_getElem? (i := 146) rfl) rfl
set_option maxRecDepth 20000 in
theorem ki_X9_readingOf : Cond.instanceMethod yX9_readingOf ∈ TB := inT2 (List.mem_of_getElem? (i := 148) rfl) rfl
set_option maxRecDepth 20000 in
theorem kc_X9_readingOf : Cond.code yX9_readingOf cX9_readingOf 2 (some .int) ∈ TB := inT2 (List.mem_of_getElem? (i := 149) rfl) rfl
set_option maxRecDepth 20000 in
theorem kl_X9_162 : Cond.methodLink RX9 162 yX9_signNow ∈ TB := inT2 (List.mem_of_getElem? (i := 150) rfl) rfl
set_option maxRecDepth 20000 in
theorem ki_X9_signNow : Cond.instanceMethod yX9_signNow ∈ TB := inT2 (List.mem_of_getElem? (i := 152) rfl) rfl
set_option maxRecDepth 20000 in
theorem kc_X9_signNow : Cond.code yX9_signNow cX9_signNow 5 (some .int) ∈ TB := inT2 (List.mem_of_getElem? (i := 153) rfl) rfl
set_option maxRecDepth 20000 in
theorem kl_X9_146 : Cond.methodLink RX9 146 yX1_part ∈ TB := inT2 (List.mem_of_getElem? (i := 154) rfl) rfl
set_option maxRecDepth 20000 in
theorem kl_X9_172 : Cond.methodLink RX9 172 yX8_turned ∈ TB := inT2 (List.mem_of_getElem? (i := 155) rfl) rfl
set_option maxRecDepth 20000 in
theorem ki_X8_turned : Cond.instanceMethod yX8_turned ∈ TB := inT2 (List.mem_of_getElem? (i := 156) rfl) rfl
set_option maxRecDepth 20000 in
theorem ke_X8_turned : Cond.selects RX8 yX8_turned yX8_turned ∈ TB := inT2 (List.mem_of_getElem? (i := 157) rfl) rfl
set_option maxRecDepth 20000 in
theorem kc_X8_turned : Cond.code yX8_turned cX8_turned 6 (some .int) ∈ TB := inT2 (List.mem_of_getElem? (i := 158) rfl) rfl
set_option maxRecDepth 20000 in
theorem kl_X8_82 : Cond.methodLink RX8 82 yX8_aged ∈ TB := inT2 (List.mem_of_getElem? (i := 159) rfl) rfl
set_option maxRecDepth 20000 in
theorem ki_X8_aged : Cond.instanceMethod yX8_aged ∈ TB := inT2 (List.mem_of_getElem? (i := 160) rfl) rfl
set_option maxRecDepth 20000 in
theorem ke_X8_aged : Cond.selects RX8 yX8_aged yX8_aged ∈ TB := inT2 (List.mem_of_getElem? (i := 161) rfl) rfl
set_option maxRecDepth 20000 in
theorem kc_X8_aged : Cond.code yX8_aged cX8_aged 5 (some .int) ∈ TB := inT2 (List.mem_of_getElem? (i := 162) rfl) rfl
set_option maxRecDepth 20000 in
theorem kl_X8_64 : Cond.methodLink RX8 64 yX6_seeds ∈ TB := inT2 (List.mem_of_getElem? (i := 163) rfl) rfl
set_option maxRecDepth 20000 in
theorem kl_X8_67 : Cond.methodLink RX8 67 yX6_cuts ∈ TB := inT2 (List.mem_of_getElem? (i := 164) rfl) rfl
set_option maxRecDepth 20000 in
theorem kl_X8_70 : Cond.methodLink RX8 70 yJ9_max_7cf53 ∈ TB := inT2 (List.mem_of_getElem? (i := 165) rfl) rfl
set_option maxRecDepth 20000 in
theorem kl_X8_76 : Cond.methodLink RX8 76 yJ9_min_7cf53 ∈ TB := inT2 (List.mem_of_getElem? (i := 166) rfl) rfl
set_option maxRecDepth 20000 in
theorem ks_J9_min_7cf53 : Cond.static yJ9_min_7cf53 ∈ TB := inT2 (List.mem_of_getElem? (i := 167) rfl) rfl
set_option maxRecDepth 20000 in
theorem kc_J9_min_7cf53 : Cond.code yJ9_min_7cf53 cJ9_min_7cf53 2 (some .int) ∈ TB := inT2 (List.mem_of_getElem? (i := 168) rfl) rfl
set_option maxRecDepth 20000 in
theorem kl_X8_79 : Cond.methodLink RX8 79 yX6_filling ∈ TB := inT2 (List.mem_of_getElem? (i := 169) rfl) rfl
set_option maxRecDepth 20000 in
theorem kl_X8_85 : Cond.methodLink RX8 85 yX6_bitten ∈ TB := inT2 (List.mem_of_getElem? (i := 170) rfl) rfl
set_option maxRecDepth 20000 in
theorem ks_X6_bitten : Cond.static yX6_bitten ∈ TB := inT2 (List.mem_of_getElem? (i := 171) rfl) rfl
set_option maxRecDepth 20000 in
theorem kc_X6_bitten : Cond.code yX6_bitten cX6_bitten 1 (some .int) ∈ TB := inT2 (List.mem_of_getElem? (i := 172) rfl) rfl
set_option maxRecDepth 20000 in
theorem kl_X6_19 : Cond.methodLink RX6 19 yX6_of ∈ TB := inT2 (List.mem_of_getElem? (i := 173) rfl) rfl
set_option maxRecDepth 20000 in
theorem kl_X9_257 : Cond.methodLink RX9 257 yX8_readAs ∈ TB := inT2 (List.mem_of_getElem? (i := 174) rfl) rfl
set_option maxRecDepth 20000 in
theorem kl_L_46 : Cond.methodLink RL 46 yX9_bite ∈ TB := inT2 (List.mem_of_getElem? (i := 175) rfl) rfl
set_option maxRecDepth 20000 in
theorem ki_X9_bite : Cond.instanceMethod yX9_bite ∈ TB := inT2 (List.mem_of_getElem? (i := 176) rfl) rfl
set_option maxRecDepth 20000 in
theorem ke_X9_bite : Cond.selects RX9 yX9_bite yX9_bite ∈ TB := inT2 (List.mem_of_getElem? (i := 177) rfl) rfl
set_option maxRecDepth 20000 in
theorem kc_X9_bite : Cond.code yX9_bite cX9_bite 2 (some .int) ∈ TB := inT2 (List.mem_of_getElem? (i := 178) rfl) rfl
set_option maxRecDepth 20000 in
theorem kl_X9_149 : Cond.methodLink RX9 149 yX1_holds ∈ TB := inT2 (List.mem_of_getElem? (i := 179) rfl) rfl
set_option maxRecDepth 20000 in
theorem kl_X9_152 : Cond.methodLink RX9 152 yX1_addBite ∈ TB := inT2 (List.mem_of_getElem? (i := 180) rfl) rfl
set_option maxRecDepth 20000 in
theorem ki_X1_addBite : Cond.instanceMethod yX1_addBite ∈ TB := inT2 (List.mem_of_getElem? (i := 181) rfl) rfl
set_option maxRecDepth 20000 in
theorem ke_X1_addBite : Cond.selects RX1 yX1_addBite yX1_addBite ∈ TB := inT2 (List.mem_of_getElem? (i := 182) rfl) rfl
set_option maxRecDepth 20000 in
theorem kc_X1_addBite : Cond.code yX1_addBite cX1_addBite 2 none ∈ TB := inT2 (List.mem_of_getElem? (i := 183) rfl) rfl
set_option maxRecDepth 20000 in
theorem kl_L_51 : Cond.methodLink RL 51 yX9_take ∈ TB := inT2 (List.mem_of_getElem? (i := 184) rfl) rfl
set_option maxRecDepth 20000 in
theorem ki_X9_take : Cond.instanceMethod yX9_take ∈ TB := inT2 (List.mem_of_getElem? (i := 185) rfl) rfl
set_option maxRecDepth 20000 in
theorem ke_X9_take : Cond.selects RX9 yX9_take yX9_take ∈ TB := inT2 (List.mem_of_getElem? (i := 186) rfl) rfl
set_option maxRecDepth 20000 in
theorem kc_X9_take : Cond.code yX9_take cX9_take 3 (some .int) ∈ TB := inT2 (List.mem_of_getElem? (i := 187) rfl) rfl
set_option maxRecDepth 20000 in
theorem kl_X9_155 : Cond.methodLink RX9 155 yX1_remove ∈ TB := inT2 (List.mem_of_getElem? (i := 188) rfl) rfl
set_option maxRecDepth 20000 in
theorem ki_X1_remove : Cond.instanceMethod yX1_remove ∈ TB := inT2 (List.mem_of_getElem? (i := 189) rfl) rfl
set_option maxRecDepth 20000 in
theorem ke_X1_remove : Cond.selects RX1 yX1_remove yX1_remove ∈ TB := inT2 (List.mem_of_getElem? (i := 190) rfl) rfl
set_option maxRecDepth 20000 in
theorem kc_X1_remove : Cond.code yX1_remove cX1_remove 4 none ∈ TB := inT2 (List.mem_of_getElem? (i := 191) rfl) rfl
set_option maxRecDepth 20000 in
theorem kl_L_55 : Cond.methodLink RL 55 yX9_undo ∈ TB := inT2 (List.mem_of_getElem? (i := 192) rfl) rfl
set_option maxRecDepth 20000 in
theorem ki_X9_undo : Cond.instanceMethod yX9_undo ∈ TB := inT2 (List.mem_of_getElem? (i := 193) rfl) rfl
set_option maxRecDepth 20000 in
theorem ke_X9_undo : Cond.selects RX9 yX9_undo yX9_undo ∈ TB := inT2 (List.mem_of_getElem? (i := 194) rfl) rfl
set_option maxRecDepth 20000 in
theorem kc_X9_undo : Cond.code yX9_undo cX9_undo 1 (some .int) ∈ TB := inT2 (List.mem_of_getElem? (i := 195) rfl) rfl
set_option maxRecDepth 20000 in
theorem kl_X9_158 : Cond.methodLink RX9 158 yX5_size ∈ TB := inT2 (List.mem_of_getElem? (i := 196) rfl) rfl
set_option maxRecDepth 20000 in
theorem ki_X5_size : Cond.instanceMethod yX5_size ∈ TB := inT2 (List.mem_of_getElem? (i := 197) rfl) rfl
set_option maxRecDepth 20000 in
theorem ke_X5_size : Cond.selects RX5 yX5_size yX5_size ∈ TB := inT2 (List.mem_of_getElem? (i := 198) rfl) rfl
set_option maxRecDepth 20000 in
theorem kc_X5_size : Cond.code yX5_size cX5_size 1 (some .int) ∈ TB := inT2 (List.mem_of_getElem? (i := 199) rfl) rfl
set_option maxRecDepth 20000 in
theorem kl_X9_159 : Cond.methodLink RX9 159 yX5_popInto ∈ TB := inT2 (List.mem_of_getElem? (i := 200) rfl) rfl
set_option maxRecDepth 20000 in
theorem ki_X5_popInto : Cond.instanceMethod yX5_popInto ∈ TB := inT2 (List.mem_of_getElem? (i := 201) rfl) rfl
set_option maxRecDepth 20000 in
theorem ke_X5_popInto : Cond.selects RX5 yX5_popInto yX5_popInto ∈ TB := inT2 (List.mem_of_getElem? (i := 202) rfl) rfl
set_option maxRecDepth 20000 in
theorem kc_X5_popInto : Cond.code yX5_popInto cX5_popInto 2 none ∈ TB := inT2 (List.mem_of_getElem? (i := 203) rfl) rfl
set_option maxRecDepth 20000 in
theorem kl_X5_39 : Cond.methodLink RX5 39 yX1_copyFrom ∈ TB := inT2 (List.mem_of_getElem? (i := 204) rfl) rfl
set_option maxRecDepth 20000 in
theorem ki_X1_copyFrom : Cond.instanceMethod yX1_copyFrom ∈ TB := inT2 (List.mem_of_getElem? (i := 205) rfl) rfl
set_option maxRecDepth 20000 in
theorem ke_X1_copyFrom : Cond.selects RX1 yX1_copyFrom yX1_copyFrom ∈ TB := inT2 (List.mem_of_getElem? (i := 206) rfl) rfl
set_option maxRecDepth 20000 in
theorem kc_X1_copyFrom : Cond.code yX1_copyFrom cX1_copyFrom 3 none ∈ TB := inT2 (List.mem_of_getElem? (i := 207) rfl) rfl
set_option maxRecDepth 20000 in
theorem kl_L_59 : Cond.methodLink RL 59 yX9_loaf ∈ TB := inT2 (List.mem_of_getElem? (i := 208) rfl) rfl
set_option maxRecDepth 20000 in
theorem ki_X9_loaf : Cond.instanceMethod yX9_loaf ∈ TB := inT2 (List.mem_of_getElem? (i := 209) rfl) rfl
set_option maxRecDepth 20000 in
theorem ke_X9_loaf : Cond.selects RX9 yX9_loaf yX9_loaf ∈ TB := inT2 (List.mem_of_getElem? (i := 210) rfl) rfl
set_option maxRecDepth 20000 in
theorem kc_X9_loaf : Cond.code yX9_loaf cX9_loaf 3 (some .int) ∈ TB := inT2 (List.mem_of_getElem? (i := 211) rfl) rfl
set_option maxRecDepth 20000 in
theorem kl_L_63 : Cond.methodLink RL 63 yX9_becomes ∈ TB := inT2 (List.mem_of_getElem? (i := 212) rfl) rfl
set_option maxRecDepth 20000 in
theorem ki_X9_becomes : Cond.instanceMethod yX9_becomes ∈ TB := inT2 (List.mem_of_getElem? (i := 213) rfl) rfl
set_option maxRecDepth 20000 in
theorem ke_X9_becomes : Cond.selects RX9 yX9_becomes yX9_becomes ∈ TB := inT2 (List.mem_of_getElem? (i := 214) rfl) rfl
set_option maxRecDepth 20000 in
theorem kc_X9_becomes : Cond.code yX9_becomes cX9_becomes 4 (some .int) ∈ TB := inT2 (List.mem_of_getElem? (i := 215) rfl) rfl
set_option maxRecDepth 20000 in
theorem kl_X9_165 : Cond.methodLink RX9 165 yX9_isSign ∈ TB := inT2 (List.mem_of_getElem? (i := 216) rfl) rfl
set_option maxRecDepth 20000 in
theorem ks_X9_isSign : Cond.static yX9_isSign ∈ TB := inT2 (List.mem_of_getElem? (i := 217) rfl) rfl
set_option maxRecDepth 20000 in
theorem kc_X9_isSign : Cond.code yX9_isSign cX9_isSign 1 (some .boolean) ∈ TB := inT2 (List.mem_of_getElem? (i := 218) rfl) rfl
set_option maxRecDepth 20000 in
theorem kl_X9_168 : Cond.methodLink RX9 168 yX9_isLoss ∈ TB := inT2 (List.mem_of_getElem? (i := 219) rfl) rfl
set_option maxRecDepth 20000 in
theorem ks_X9_isLoss : Cond.static yX9_isLoss ∈ TB := inT2 (List.mem_of_getElem? (i := 220) rfl) rfl
set_option maxRecDepth 20000 in
theorem kc_X9_isLoss : Cond.code yX9_isLoss cX9_isLoss 2 (some .boolean) ∈ TB := inT2 (List.mem_of_getElem? (i := 221) rfl) rfl
set_option maxRecDepth 20000 in
theorem kl_X9_207 : Cond.methodLink RX9 207 yX9_isAge ∈ TB := inT2 (List.mem_of_getElem? (i := 222) rfl) rfl
set_option maxRecDepth 20000 in
theorem ks_X9_isAge : Cond.static yX9_isAge ∈ TB := inT2 (List.mem_of_getElem? (i := 223) rfl) rfl
set_option maxRecDepth 20000 in
theorem kc_X9_isAge : Cond.code yX9_isAge cX9_isAge 1 (some .boolean) ∈ TB := inT2 (List.mem_of_getElem? (i := 224) rfl) rfl
set_option maxRecDepth 20000 in
theorem kl_L_68 : Cond.methodLink RL 68 yX9_mayBe ∈ TB := inT2 (List.mem_of_getElem? (i := 225) rfl) rfl
set_option maxRecDepth 20000 in
theorem ki_X9_mayBe : Cond.instanceMethod yX9_mayBe ∈ TB := inT2 (List.mem_of_getElem? (i := 226) rfl) rfl
set_option maxRecDepth 20000 in
theorem ke_X9_mayBe : Cond.selects RX9 yX9_mayBe yX9_mayBe ∈ TB := inT2 (List.mem_of_getElem? (i := 227) rfl) rfl
set_option maxRecDepth 20000 in
theorem kc_X9_mayBe : Cond.code yX9_mayBe cX9_mayBe 4 (some .int) ∈ TB := inT2 (List.mem_of_getElem? (i := 228) rfl) rfl
set_option maxRecDepth 20000 in
theorem kl_X9_176 : Cond.methodLink RX9 176 yX3_fill ∈ TB := inT2 (List.mem_of_getElem? (i := 229) rfl) rfl
set_option maxRecDepth 20000 in
theorem ki_X3_fill : Cond.instanceMethod yX3_fill ∈ TB := inT2 (List.mem_of_getElem? (i := 230) rfl) rfl
set_option maxRecDepth 20000 in
theorem ke_X3_fill : Cond.selects RX3 yX3_fill yX3_fill ∈ TB := inT2 (List.mem_of_getElem? (i := 231) rfl) rfl
set_option maxRecDepth 20000 in
theorem kc_X3_fill : Cond.code yX3_fill cX3_fill 8 none ∈ TB := inT2 (List.mem_of_getElem? (i := 232) rfl) rfl
set_option maxRecDepth 20000 in
theorem kl_X3_22 : Cond.methodLink RX3 22 yX8_aged ∈ TB := inT2 (List.mem_of_getElem? (i := 234) rfl) rfl
set_option maxRecDepth 20000 in
theorem kl_X3_28 : Cond.methodLink RX3 28 yX3_markBitten ∈ TB := inT2 (List.mem_of_getElem? (i := 235) rfl) rfl
set_option maxRecDepth 20000 in
theorem ki_X3_markBitten : Cond.instanceMethod yX3_markBitten ∈ TB := inT2 (List.mem_of_getElem? (i := 237) rfl) rfl
set_option maxRecDepth 20000 in
theorem kc_X3_markBitten : Cond.code yX3_markBitten cX3_markBitten 6 none ∈ TB := inT2 (List.mem_of_getElem? (i := 238) rfl) rfl
set_option maxRecDepth 20000 in
theorem kl_X3_32 : Cond.methodLink RX3 32 yX3_mark ∈ TB := inT2 (List.mem_of_getElem? (i := 239) rfl) rfl
set_option maxRecDepth 20000 in
theorem ki_X3_mark : Cond.instanceMethod yX3_mark ∈ TB := inT3 (List.mem_of_getElem? (i := 1) rfl) rfl
set_option maxRecDepth 20000 in
theorem kc_X3_mark : Cond.code yX3_mark cX3_mark 3 none ∈ TB := inT3 (List.mem_of_getElem? (i := 2) rfl) rfl
set_option maxRecDepth 20000 in
theorem kl_X3_36 : Cond.methodLink RX3 36 yX6_bitten ∈ TB := inT3 (List.mem_of_getElem? (i := 3) rfl) rfl
set_option maxRecDepth 20000 in
theorem kl_X9_180 : Cond.methodLink RX9 180 yX3_sizeOf ∈ TB := inT3 (List.mem_of_getElem? (i := 4) rfl) rfl
set_option maxRecDepth 20000 in
theorem ki_X3_sizeOf : Cond.instanceMethod yX3_sizeOf ∈ TB := inT3 (List.mem_of_getElem? (i := 5) rfl) rfl
set_option maxRecDepth 20000 in
theorem ke_X3_sizeOf : Cond.selects RX3 yX3_sizeOf yX3_sizeOf ∈ TB := inT3 (List.mem_of_getElem? (i := 6) rfl) rfl
set_option maxRecDepth 20000 in
theorem kc_X3_sizeOf : Cond.code yX3_sizeOf cX3_sizeOf 2 (some .int) ∈ TB := inT3 (List.mem_of_getElem? (i := 7) rfl) rfl
set_option maxRecDepth 20000 in
theorem kl_X3_42 : Cond.methodLink RX3 42 yJ13_bitCount_95d88 ∈ TB := inT3 (List.mem_of_getElem? (i := 8) rfl) rfl
set_option maxRecDepth 20000 in
theorem ks_J13_bitCount_95d88 : Cond.static yJ13_bitCount_95d88 ∈ TB := inT3 (List.mem_of_getElem? (i := 9) rfl) rfl
set_option maxRecDepth 20000 in
theorem kc_J13_bitCount_95d88 : Cond.code yJ13_bitCount_95d88 cJ13_bitCount_95d88 2 (some .int) ∈ TB := inT3 (List.mem_of_getElem? (i := 10) rfl) rfl
set_option maxRecDepth 20000 in
theorem kv_J13_314 : Cond.constantLong RJ13 314 (6148914691236517205) ∈ TB := inT3 (List.mem_of_getElem? (i := 11) rfl) rfl
set_option maxRecDepth 20000 in
theorem kv_J13_316 : Cond.constantLong RJ13 316 (3689348814741910323) ∈ TB := inT3 (List.mem_of_getElem? (i := 12) rfl) rfl
set_option maxRecDepth 20000 in
theorem kv_J13_318 : Cond.constantLong RJ13 318 (1085102592571150095) ∈ TB := inT3 (List.mem_of_getElem? (i := 13) rfl) rfl
set_option maxRecDepth 20000 in
theorem kl_L_72 : Cond.methodLink RL 72 yX9_can ∈ TB := inT3 (List.mem_of_getElem? (i := 14) rfl) rfl
set_option maxRecDepth 20000 in
theorem ki_X9_can : Cond.instanceMethod yX9_can ∈ TB := inT3 (List.mem_of_getElem? (i := 15) rfl) rfl
set_option maxRecDepth 20000 in
theorem ke_X9_can : Cond.selects RX9 yX9_can yX9_can ∈ TB := inT3 (List.mem_of_getElem? (i := 16) rfl) rfl
set_option maxRecDepth 20000 in
theorem kc_X9_can : Cond.code yX9_can cX9_can 5 (some .int) ∈ TB := inT3 (List.mem_of_getElem? (i := 17) rfl) rfl
set_option maxRecDepth 20000 in
theorem kl_X9_183 : Cond.methodLink RX9 183 yX3_holds ∈ TB := inT3 (List.mem_of_getElem? (i := 18) rfl) rfl
set_option maxRecDepth 20000 in
theorem ki_X3_holds : Cond.instanceMethod yX3_holds ∈ TB := inT3 (List.mem_of_getElem? (i := 19) rfl) rfl
set_option maxRecDepth 20000 in
theorem ke_X3_holds : Cond.selects RX3 yX3_holds yX3_holds ∈ TB := inT3 (List.mem_of_getElem? (i := 20) rfl) rfl
set_option maxRecDepth 20000 in
theorem kc_X3_holds : Cond.code yX3_holds cX3_holds 5 (some .boolean) ∈ TB := inT3 (List.mem_of_getElem? (i := 21) rfl) rfl
set_option maxRecDepth 20000 in
theorem kl_L_77 : Cond.methodLink RL 77 yX9_was ∈ TB := inT3 (List.mem_of_getElem? (i := 22) rfl) rfl
set_option maxRecDepth 20000 in
theorem ki_X9_was : Cond.instanceMethod yX9_was ∈ TB := inT3 (List.mem_of_getElem? (i := 23) rfl) rfl
set_option maxRecDepth 20000 in
theorem ke_X9_was : Cond.selects RX9 yX9_was yX9_was ∈ TB := inT3 (List.mem_of_getElem? (i := 24) rfl) rfl
set_option maxRecDepth 20000 in
theorem kc_X9_was : Cond.code yX9_was cX9_was 6 (some .int) ∈ TB := inT3 (List.mem_of_getElem? (i := 25) rfl) rfl
set_option maxRecDepth 20000 in
theorem kl_L_81 : Cond.methodLink RL 81 yX9_half ∈ TB := inT3 (List.mem_of_getElem? (i := 26) rfl) rfl
set_option maxRecDepth 20000 in
theorem ki_X9_half : Cond.instanceMethod yX9_half ∈ TB := inT3 (List.mem_of_getElem? (i := 27) rfl) rfl
set_option maxRecDepth 20000 in
theorem ke_X9_half : Cond.selects RX9 yX9_half yX9_half ∈ TB := inT3 (List.mem_of_getElem? (i := 28) rfl) rfl
set_option maxRecDepth 20000 in
theorem kc_X9_half : Cond.code yX9_half cX9_half 7 (some .int) ∈ TB := inT3 (List.mem_of_getElem? (i := 29) rfl) rfl
set_option maxRecDepth 20000 in
theorem kl_X9_185 : Cond.methodLink RX9 185 yX6_seeds ∈ TB := inT3 (List.mem_of_getElem? (i := 30) rfl) rfl
set_option maxRecDepth 20000 in
theorem kl_X9_188 : Cond.methodLink RX9 188 yX6_cuts ∈ TB := inT3 (List.mem_of_getElem? (i := 31) rfl) rfl
set_option maxRecDepth 20000 in
theorem kl_X9_191 : Cond.methodLink RX9 191 yX6_filling ∈ TB := inT3 (List.mem_of_getElem? (i := 32) rfl) rfl
set_option maxRecDepth 20000 in
theorem kl_L_85 : Cond.methodLink RL 85 yX9_code ∈ TB := inT3 (List.mem_of_getElem? (i := 33) rfl) rfl
set_option maxRecDepth 20000 in
theorem ki_X9_code : Cond.instanceMethod yX9_code ∈ TB := inT3 (List.mem_of_getElem? (i := 34) rfl) rfl
set_option maxRecDepth 20000 in
theorem ke_X9_code : Cond.selects RX9 yX9_code yX9_code ∈ TB := inT3 (List.mem_of_getElem? (i := 35) rfl) rfl
set_option maxRecDepth 20000 in
theorem kc_X9_code : Cond.code yX9_code cX9_code 5 (some .int) ∈ TB := inT3 (List.mem_of_getElem? (i := 36) rfl) rfl
set_option maxRecDepth 20000 in
theorem kl_X9_194 : Cond.methodLink RX9 194 yX0_find ∈ TB := inT3 (List.mem_of_getElem? (i := 37) rfl) rfl
set_option maxRecDepth 20000 in
theorem ki_X0_find : Cond.instanceMethod yX0_find ∈ TB := inT3 (List.mem_of_getElem? (i := 38) rfl) rfl
set_option maxRecDepth 20000 in
theorem ke_X0_find : Cond.selects RX0 yX0_find yX0_find ∈ TB := inT3 (List.mem_of_getElem? (i := 39) rfl) rfl
set_option maxRecDepth 20000 in
theorem kc_X0_find : Cond.code yX0_find cX0_find 6 (some .boolean) ∈ TB := inT3 (List.mem_of_getElem? (i := 40) rfl) rfl
set_option maxRecDepth 20000 in
theorem kl_X0_22 : Cond.methodLink RX0 22 yX3_fill ∈ TB := inT3 (List.mem_of_getElem? (i := 41) rfl) rfl
set_option maxRecDepth 20000 in
theorem kv_X0_34 : Cond.constant RX0 34 (2147483647) ∈ TB := inT3 (List.mem_of_getElem? (i := 42) rfl) rfl
set_option maxRecDepth 20000 in
theorem kl_X0_38 : Cond.methodLink RX0 38 yX0_extend ∈ TB := inT3 (List.mem_of_getElem? (i := 43) rfl) rfl
set_option maxRecDepth 20000 in
theorem ki_X0_extend : Cond.instanceMethod yX0_extend ∈ TB := inT3 (List.mem_of_getElem? (i := 45) rfl) rfl
set_option maxRecDepth 20000 in
theorem kc_X0_extend : Cond.code yX0_extend cX0_extend 6 none ∈ TB := inT3 (List.mem_of_getElem? (i := 46) rfl) rfl
set_option maxRecDepth 20000 in
theorem kl_X0_46 : Cond.methodLink RX0 46 arraycopyName ∈ TB := inT3 (List.mem_of_getElem? (i := 47) rfl) rfl
set_option maxRecDepth 20000 in
theorem kl_X0_52 : Cond.methodLink RX0 52 yX6_flour ∈ TB := inT3 (List.mem_of_getElem? (i := 48) rfl) rfl
set_option maxRecDepth 20000 in
theorem kl_X0_58 : Cond.methodLink RX0 58 yX0_staysApart ∈ TB := inT3 (List.mem_of_getElem? (i := 49) rfl) rfl
set_option maxRecDepth 20000 in
theorem ki_X0_staysApart : Cond.instanceMethod yX0_staysApart ∈ TB := inT3 (List.mem_of_getElem? (i := 51) rfl) rfl
set_option maxRecDepth 20000 in
theorem kc_X0_staysApart : Cond.code yX0_staysApart cX0_staysApart 4 (some .boolean) ∈ TB := inT3 (List.mem_of_getElem? (i := 52) rfl) rfl
set_option maxRecDepth 20000 in
theorem kl_X0_62 : Cond.methodLink RX0 62 yX3_meet ∈ TB := inT3 (List.mem_of_getElem? (i := 54) rfl) rfl
set_option maxRecDepth 20000 in
theorem ki_X3_meet : Cond.instanceMethod yX3_meet ∈ TB := inT3 (List.mem_of_getElem? (i := 55) rfl) rfl
set_option maxRecDepth 20000 in
theorem ke_X3_meet : Cond.selects RX3 yX3_meet yX3_meet ∈ TB := inT3 (List.mem_of_getElem? (i := 56) rfl) rfl
set_option maxRecDepth 20000 in
theorem kc_X3_meet : Cond.code yX3_meet cX3_meet 3 (some .boolean) ∈ TB := inT3 (List.mem_of_getElem? (i := 57) rfl) rfl
set_option maxRecDepth 20000 in
theorem kl_X9_198 : Cond.methodLink RX9 198 yX0_leastFlour ∈ TB := inT3 (List.mem_of_getElem? (i := 58) rfl) rfl
set_option maxRecDepth 20000 in
theorem ki_X0_leastFlour : Cond.instanceMethod yX0_leastFlour ∈ TB := inT3 (List.mem_of_getElem? (i := 59) rfl) rfl
set_option maxRecDepth 20000 in
theorem ke_X0_leastFlour : Cond.selects RX0 yX0_leastFlour yX0_leastFlour ∈ TB := inT3 (List.mem_of_getElem? (i := 60) rfl) rfl
set_option maxRecDepth 20000 in
theorem kc_X0_leastFlour : Cond.code yX0_leastFlour cX0_leastFlour 1 (some .int) ∈ TB := inT3 (List.mem_of_getElem? (i := 61) rfl) rfl
set_option maxRecDepth 20000 in
theorem kl_X9_201 : Cond.methodLink RX9 201 yX0_signAt ∈ TB := inT3 (List.mem_of_getElem? (i := 62) rfl) rfl
set_option maxRecDepth 20000 in
theorem ki_X0_signAt : Cond.instanceMethod yX0_signAt ∈ TB := inT3 (List.mem_of_getElem? (i := 63) rfl) rfl
set_option maxRecDepth 20000 in
theorem ke_X0_signAt : Cond.selects RX0 yX0_signAt yX0_signAt ∈ TB := inT3 (List.mem_of_getElem? (i := 64) rfl) rfl
set_option maxRecDepth 20000 in
theorem kc_X0_signAt : Cond.code yX0_signAt cX0_signAt 2 (some .int) ∈ TB := inT3 (List.mem_of_getElem? (i := 65) rfl) rfl
set_option maxRecDepth 20000 in
theorem kl_L_89 : Cond.methodLink RL 89 yX9_sent ∈ TB := inT3 (List.mem_of_getElem? (i := 66) rfl) rfl
set_option maxRecDepth 20000 in
theorem ki_X9_sent : Cond.instanceMethod yX9_sent ∈ TB := inT3 (List.mem_of_getElem? (i := 67) rfl) rfl
set_option maxRecDepth 20000 in
theorem ke_X9_sent : Cond.selects RX9 yX9_sent yX9_sent ∈ TB := inT3 (List.mem_of_getElem? (i := 68) rfl) rfl
set_option maxRecDepth 20000 in
theorem kc_X9_sent : Cond.code yX9_sent cX9_sent 7 (some .int) ∈ TB := inT3 (List.mem_of_getElem? (i := 69) rfl) rfl
set_option maxRecDepth 20000 in
theorem kl_X9_204 : Cond.methodLink RX9 204 yX9_isCarrier ∈ TB := inT3 (List.mem_of_getElem? (i := 70) rfl) rfl
set_option maxRecDepth 20000 in
theorem ki_X9_isCarrier : Cond.instanceMethod yX9_isCarrier ∈ TB := inT3 (List.mem_of_getElem? (i := 72) rfl) rfl
set_option maxRecDepth 20000 in
theorem kc_X9_isCarrier : Cond.code yX9_isCarrier cX9_isCarrier 2 (some .boolean) ∈ TB := inT3 (List.mem_of_getElem? (i := 73) rfl) rfl
set_option maxRecDepth 20000 in
theorem kl_X9_234 : Cond.methodLink RX9 234 yX8_carriers ∈ TB := inT3 (List.mem_of_getElem? (i := 74) rfl) rfl
set_option maxRecDepth 20000 in
theorem ki_X8_carriers : Cond.instanceMethod yX8_carriers ∈ TB := inT3 (List.mem_of_getElem? (i := 75) rfl) rfl
set_option maxRecDepth 20000 in
theorem ke_X8_carriers : Cond.selects RX8 yX8_carriers yX8_carriers ∈ TB := inT3 (List.mem_of_getElem? (i := 76) rfl) rfl
set_option maxRecDepth 20000 in
theorem kc_X8_carriers : Cond.code yX8_carriers cX8_carriers 1 (some .int) ∈ TB := inT3 (List.mem_of_getElem? (i := 77) rfl) rfl
set_option maxRecDepth 20000 in
theorem kl_X9_210 : Cond.methodLink RX9 210 yX9_isChoice ∈ TB := inT3 (List.mem_of_getElem? (i := 78) rfl) rfl
set_option maxRecDepth 20000 in
theorem ks_X9_isChoice : Cond.static yX9_isChoice ∈ TB := inT3 (List.mem_of_getElem? (i := 79) rfl) rfl
set_option maxRecDepth 20000 in
theorem kc_X9_isChoice : Cond.code yX9_isChoice cX9_isChoice 1 (some .boolean) ∈ TB := inT3 (List.mem_of_getElem? (i := 80) rfl) rfl
set_option maxRecDepth 20000 in
theorem kv_X9_213 : Cond.constantLong RX9 213 (10) ∈ TB := inT3 (List.mem_of_getElem? (i := 81) rfl) rfl
set_option maxRecDepth 20000 in
theorem kl_X9_215 : Cond.methodLink RX9 215 yX8_milesOf ∈ TB := inT3 (List.mem_of_getElem? (i := 82) rfl) rfl
set_option maxRecDepth 20000 in
theorem ki_X8_milesOf : Cond.instanceMethod yX8_milesOf ∈ TB := inT3 (List.mem_of_getElem? (i := 83) rfl) rfl
set_option maxRecDepth 20000 in
theorem ke_X8_milesOf : Cond.selects RX8 yX8_milesOf yX8_milesOf ∈ TB := inT3 (List.mem_of_getElem? (i := 84) rfl) rfl
set_option maxRecDepth 20000 in
theorem kc_X8_milesOf : Cond.code yX8_milesOf cX8_milesOf 2 (some .int) ∈ TB := inT3 (List.mem_of_getElem? (i := 85) rfl) rfl
set_option maxRecDepth 20000 in
theorem kl_X9_218 : Cond.methodLink RX9 218 yX2_power ∈ TB := inT3 (List.mem_of_getElem? (i := 86) rfl) rfl
set_option maxRecDepth 20000 in
theorem ks_X2_power : Cond.static yX2_power ∈ TB := inT3 (List.mem_of_getElem? (i := 87) rfl) rfl
set_option maxRecDepth 20000 in
theorem kc_X2_power : Cond.code yX2_power cX2_power 6 (some .long) ∈ TB := inT3 (List.mem_of_getElem? (i := 88) rfl) rfl
set_option maxRecDepth 20000 in
theorem kl_X9_224 : Cond.methodLink RX9 224 yX8_waysRead ∈ TB := inT3 (List.mem_of_getElem? (i := 89) rfl) rfl
set_option maxRecDepth 20000 in
theorem ki_X8_waysRead : Cond.instanceMethod yX8_waysRead ∈ TB := inT3 (List.mem_of_getElem? (i := 90) rfl) rfl
set_option maxRecDepth 20000 in
theorem ke_X8_waysRead : Cond.selects RX8 yX8_waysRead yX8_waysRead ∈ TB := inT3 (List.mem_of_getElem? (i := 91) rfl) rfl
set_option maxRecDepth 20000 in
theorem kc_X8_waysRead : Cond.code yX8_waysRead cX8_waysRead 9 (some .long) ∈ TB := inT3 (List.mem_of_getElem? (i := 92) rfl) rfl
set_option maxRecDepth 20000 in
theorem kl_X8_88 : Cond.methodLink RX8 88 yX8_milesOf ∈ TB := inT3 (List.mem_of_getElem? (i := 93) rfl) rfl
set_option maxRecDepth 20000 in
theorem kl_X8_91 : Cond.methodLink RX8 91 yX8_turned ∈ TB := inT3 (List.mem_of_getElem? (i := 94) rfl) rfl
set_option maxRecDepth 20000 in
theorem kl_X8_94 : Cond.methodLink RX8 94 yX2_choose ∈ TB := inT3 (List.mem_of_getElem? (i := 95) rfl) rfl
set_option maxRecDepth 20000 in
theorem ks_X2_choose : Cond.static yX2_choose ∈ TB := inT3 (List.mem_of_getElem? (i := 96) rfl) rfl
set_option maxRecDepth 20000 in
theorem kc_X2_choose : Cond.code yX2_choose cX2_choose 5 (some .long) ∈ TB := inT3 (List.mem_of_getElem? (i := 97) rfl) rfl
set_option maxRecDepth 20000 in
theorem kl_X8_100 : Cond.methodLink RX8 100 yX2_power ∈ TB := inT3 (List.mem_of_getElem? (i := 98) rfl) rfl
set_option maxRecDepth 20000 in
theorem kl_X9_228 : Cond.methodLink RX9 228 yX2_lowest ∈ TB := inT3 (List.mem_of_getElem? (i := 99) rfl) rfl
set_option maxRecDepth 20000 in
theorem ks_X2_lowest : Cond.static yX2_lowest ∈ TB := inT3 (List.mem_of_getElem? (i := 100) rfl) rfl
set_option maxRecDepth 20000 in
theorem kc_X2_lowest : Cond.code yX2_lowest cX2_lowest 9 (some .long) ∈ TB := inT3 (List.mem_of_getElem? (i := 101) rfl) rfl
set_option maxRecDepth 20000 in
theorem kl_X2_7 : Cond.methodLink RX2 7 yX2_commonDivisor ∈ TB := inT3 (List.mem_of_getElem? (i := 102) rfl) rfl
set_option maxRecDepth 20000 in
theorem ks_X2_commonDivisor : Cond.static yX2_commonDivisor ∈ TB := inT3 (List.mem_of_getElem? (i := 103) rfl) rfl
set_option maxRecDepth 20000 in
theorem kc_X2_commonDivisor : Cond.code yX2_commonDivisor cX2_commonDivisor 11 (some .long) ∈ TB := inT3 (List.mem_of_getElem? (i := 104) rfl) rfl
set_option maxRecDepth 20000 in
theorem kl_L_93 : Cond.methodLink RL 93 yX9_whom ∈ TB := inT3 (List.mem_of_getElem? (i := 105) rfl) rfl
set_option maxRecDepth 20000 in
theorem ki_X9_whom : Cond.instanceMethod yX9_whom ∈ TB := inT3 (List.mem_of_getElem? (i := 106) rfl) rfl
set_option maxRecDepth 20000 in
theorem ke_X9_whom : Cond.selects RX9 yX9_whom yX9_whom ∈ TB := inT3 (List.mem_of_getElem? (i := 107) rfl) rfl
set_option maxRecDepth 20000 in
theorem kc_X9_whom : Cond.code yX9_whom cX9_whom 11 (some .int) ∈ TB := inT3 (List.mem_of_getElem? (i := 108) rfl) rfl
set_option maxRecDepth 20000 in
theorem kv_X9_232 : Cond.constantLong RX9 232 (-1) ∈ TB := inT3 (List.mem_of_getElem? (i := 109) rfl) rfl
set_option maxRecDepth 20000 in
theorem kl_L_97 : Cond.methodLink RL 97 yX9_two ∈ TB := inT3 (List.mem_of_getElem? (i := 110) rfl) rfl
set_option maxRecDepth 20000 in
theorem ki_X9_two : Cond.instanceMethod yX9_two ∈ TB := inT3 (List.mem_of_getElem? (i := 111) rfl) rfl
set_option maxRecDepth 20000 in
theorem ke_X9_two : Cond.selects RX9 yX9_two yX9_two ∈ TB := inT3 (List.mem_of_getElem? (i := 112) rfl) rfl
set_option maxRecDepth 20000 in
theorem kc_X9_two : Cond.code yX9_two cX9_two 14 (some .long) ∈ TB := inT3 (List.mem_of_getElem? (i := 113) rfl) rfl
set_option maxRecDepth 20000 in
theorem kl_L_102 : Cond.methodLink RL 102 yX9_said ∈ TB := inT3 (List.mem_of_getElem? (i := 114) rfl) rfl
set_option maxRecDepth 20000 in
theorem ki_X9_said : Cond.instanceMethod yX9_said ∈ TB := inT3 (List.mem_of_getElem? (i := 115) rfl) rfl
set_option maxRecDepth 20000 in
theorem ke_X9_said : Cond.selects RX9 yX9_said yX9_said ∈ TB := inT3 (List.mem_of_getElem? (i := 116) rfl) rfl
set_option maxRecDepth 20000 in
theorem kc_X9_said : Cond.code yX9_said cX9_said 7 (some .int) ∈ TB := inT3 (List.mem_of_getElem? (i := 117) rfl) rfl
set_option maxRecDepth 20000 in
theorem kl_X9_237 : Cond.methodLink RX9 237 yX8_worthOfSet ∈ TB := inT3 (List.mem_of_getElem? (i := 118) rfl) rfl
set_option maxRecDepth 20000 in
theorem ki_X8_worthOfSet : Cond.instanceMethod yX8_worthOfSet ∈ TB := inT3 (List.mem_of_getElem? (i := 119) rfl) rfl
set_option maxRecDepth 20000 in
theorem ke_X8_worthOfSet : Cond.selects RX8 yX8_worthOfSet yX8_worthOfSet ∈ TB := inT3 (List.mem_of_getElem? (i := 120) rfl) rfl
set_option maxRecDepth 20000 in
theorem kc_X8_worthOfSet : Cond.code yX8_worthOfSet cX8_worthOfSet 4 (some .int) ∈ TB := inT3 (List.mem_of_getElem? (i := 121) rfl) rfl
set_option maxRecDepth 20000 in
theorem kl_X8_104 : Cond.methodLink RX8 104 yX8_worthOf ∈ TB := inT3 (List.mem_of_getElem? (i := 122) rfl) rfl
set_option maxRecDepth 20000 in
theorem kl_X9_240 : Cond.methodLink RX9 240 yX8_flourOfSet ∈ TB := inT3 (List.mem_of_getElem? (i := 123) rfl) rfl
set_option maxRecDepth 20000 in
theorem ki_X8_flourOfSet : Cond.instanceMethod yX8_flourOfSet ∈ TB := inT3 (List.mem_of_getElem? (i := 124) rfl) rfl
set_option maxRecDepth 20000 in
theorem ke_X8_flourOfSet : Cond.selects RX8 yX8_flourOfSet yX8_flourOfSet ∈ TB := inT3 (List.mem_of_getElem? (i := 125) rfl) rfl
set_option maxRecDepth 20000 in
theorem kc_X8_flourOfSet : Cond.code yX8_flourOfSet cX8_flourOfSet 4 (some .int) ∈ TB := inT3 (List.mem_of_getElem? (i := 126) rfl) rfl
set_option maxRecDepth 20000 in
theorem kl_X8_107 : Cond.methodLink RX8 107 yX6_flour ∈ TB := inT3 (List.mem_of_getElem? (i := 127) rfl) rfl
set_option maxRecDepth 20000 in
theorem kl_L_106 : Cond.methodLink RL 106 yX9_told ∈ TB := inT3 (List.mem_of_getElem? (i := 128) rfl) rfl
set_option maxRecDepth 20000 in
theorem ki_X9_told : Cond.instanceMethod yX9_told ∈ TB := inT3 (List.mem_of_getElem? (i := 129) rfl) rfl
set_option maxRecDepth 20000 in
theorem ke_X9_told : Cond.selects RX9 yX9_told yX9_told ∈ TB := inT3 (List.mem_of_getElem? (i := 130) rfl) rfl
set_option maxRecDepth 20000 in
theorem kc_X9_told : Cond.code yX9_told cX9_told 4 (some .int) ∈ TB := inT3 (List.mem_of_getElem? (i := 131) rfl) rfl
set_option maxRecDepth 20000 in
theorem kl_X9_243 : Cond.methodLink RX9 243 yX8_bakersKnowing ∈ TB := inT3 (List.mem_of_getElem? (i := 132) rfl) rfl
set_option maxRecDepth 20000 in
theorem ki_X8_bakersKnowing : Cond.instanceMethod yX8_bakersKnowing ∈ TB := inT3 (List.mem_of_getElem? (i := 133) rfl) rfl
set_option maxRecDepth 20000 in
theorem ke_X8_bakersKnowing : Cond.selects RX8 yX8_bakersKnowing yX8_bakersKnowing ∈ TB := inT3 (List.mem_of_getElem? (i := 134) rfl) rfl
set_option maxRecDepth 20000 in
theorem kc_X8_bakersKnowing : Cond.code yX8_bakersKnowing cX8_bakersKnowing 4 (some .int) ∈ TB := inT3 (List.mem_of_getElem? (i := 135) rfl) rfl
set_option maxRecDepth 20000 in
theorem kl_X9_246 : Cond.methodLink RX9 246 yJ6_bitCount_0f7a4 ∈ TB := inT3 (List.mem_of_getElem? (i := 136) rfl) rfl
set_option maxRecDepth 20000 in
theorem ks_J6_bitCount_0f7a4 : Cond.static yJ6_bitCount_0f7a4 ∈ TB := inT3 (List.mem_of_getElem? (i := 137) rfl) rfl
set_option maxRecDepth 20000 in
theorem kc_J6_bitCount_0f7a4 : Cond.code yJ6_bitCount_0f7a4 cJ6_bitCount_0f7a4 1 (some .int) ∈ TB := inT3 (List.mem_of_getElem? (i := 138) rfl) rfl
set_option maxRecDepth 20000 in
theorem kv_J6_265 : Cond.constant RJ6 265 (1431655765) ∈ TB := inT3 (List.mem_of_getElem? (i := 139) rfl) rfl
set_option maxRecDepth 20000 in
theorem kv_J6_266 : Cond.constant RJ6 266 (858993459) ∈ TB := inT3 (List.mem_of_getElem? (i := 140) rfl) rfl
set_option maxRecDepth 20000 in
theorem kv_J6_267 : Cond.constant RJ6 267 (252645135) ∈ TB := inT3 (List.mem_of_getElem? (i := 141) rfl) rfl
set_option maxRecDepth 20000 in
theorem kl_X9_251 : Cond.methodLink RX9 251 yJ6_numberOfTrailingZeros_0f7a4 ∈ TB := inT3 (List.mem_of_getElem? (i := 142) rfl) rfl
set_option maxRecDepth 20000 in
theorem ks_J6_numberOfTrailingZeros_0f7a4 : Cond.static yJ6_numberOfTrailingZeros_0f7a4 ∈ TB := inT3 (List.mem_of_getElem? (i := 143) rfl) rfl
set_option maxRecDepth 20000 in
theorem kc_J6_numberOfTrailingZeros_0f7a4 : Cond.code yJ6_numberOfTrailingZeros_0f7a4 cJ6_numberOfTrailingZeros_0f7a4 2 (some .int) ∈ TB := inT3 (List.mem_of_getElem? (i := 144) rfl) rfl
set_option maxRecDepth 20000 in
theorem kv_J6_264 : Cond.constant RJ6 264 (65536) ∈ TB := inT3 (List.mem_of_getElem? (i := 145) rfl) rfl
set_option maxRecDepth 20000 in
theorem kl_L_110 : Cond.methodLink RL 110 yX9_month ∈ TB := inT3 (List.mem_of_getElem? (i := 146) rfl) rfl
set_option maxRecDepth 20000 in
theorem ki_X9_month : Cond.instanceMethod yX9_month ∈ TB := inT3 (List.mem_of_getElem? (i := 147) rfl) rfl
set_option maxRecDepth 20000 in
theorem ke_X9_month : Cond.selects RX9 yX9_month yX9_month ∈ TB := inT3 (List.mem_of_getElem? (i := 148) rfl) rfl
set_option maxRecDepth 20000 in
theorem kc_X9_month : Cond.code yX9_month cX9_month 10 (some .int) ∈ TB := inT3 (List.mem_of_getElem? (i := 149) rfl) rfl
set_option maxRecDepth 20000 in
theorem kl_X9_254 : Cond.methodLink RX9 254 yX9_drawOf ∈ TB := inT3 (List.mem_of_getElem? (i := 150) rfl) rfl
set_option maxRecDepth 20000 in
theorem ks_X9_drawOf : Cond.static yX9_drawOf ∈ TB := inT3 (List.mem_of_getElem? (i := 151) rfl) rfl
set_option maxRecDepth 20000 in
theorem kc_X9_drawOf : Cond.code yX9_drawOf cX9_drawOf 4 (some .int) ∈ TB := inT3 (List.mem_of_getElem? (i := 152) rfl) rfl
set_option maxRecDepth 20000 in
theorem kv_X9_266 : Cond.constantLong RX9 266 (7919) ∈ TB := inT3 (List.mem_of_getElem? (i := 153) rfl) rfl
set_option maxRecDepth 20000 in
theorem kv_X9_268 : Cond.constantLong RX9 268 (6151) ∈ TB := inT3 (List.mem_of_getElem? (i := 154) rfl) rfl
set_option maxRecDepth 20000 in
theorem kv_X9_270 : Cond.constantLong RX9 270 (65521) ∈ TB := inT3 (List.mem_of_getElem? (i := 155) rfl) rfl
set_option maxRecDepth 20000 in
theorem kl_L_114 : Cond.methodLink RL 114 yX9_keep ∈ TB := inT3 (List.mem_of_getElem? (i := 156) rfl) rfl
set_option maxRecDepth 20000 in
theorem ki_X9_keep : Cond.instanceMethod yX9_keep ∈ TB := inT3 (List.mem_of_getElem? (i := 157) rfl) rfl
set_option maxRecDepth 20000 in
theorem ke_X9_keep : Cond.selects RX9 yX9_keep yX9_keep ∈ TB := inT3 (List.mem_of_getElem? (i := 158) rfl) rfl
set_option maxRecDepth 20000 in
theorem kc_X9_keep : Cond.code yX9_keep cX9_keep 1 (some .int) ∈ TB := inT3 (List.mem_of_getElem? (i := 159) rfl) rfl
set_option maxRecDepth 20000 in
theorem kl_X9_260 : Cond.methodLink RX9 260 yX5_isFull ∈ TB := inT3 (List.mem_of_getElem? (i := 160) rfl) rfl
set_option maxRecDepth 20000 in
theorem kl_L_118 : Cond.methodLink RL 118 yX9_back ∈ TB := inT3 (List.mem_of_getElem? (i := 161) rfl) rfl
set_option maxRecDepth 20000 in
theorem ki_X9_back : Cond.instanceMethod yX9_back ∈ TB := inT3 (List.mem_of_getElem? (i := 162) rfl) rfl
set_option maxRecDepth 20000 in
theorem ke_X9_back : Cond.selects RX9 yX9_back yX9_back ∈ TB := inT3 (List.mem_of_getElem? (i := 163) rfl) rfl
set_option maxRecDepth 20000 in
theorem kc_X9_back : Cond.code yX9_back cX9_back 1 (some .int) ∈ TB := inT3 (List.mem_of_getElem? (i := 164) rfl) rfl
set_option maxRecDepth 20000 in
theorem kl_L_122 : Cond.methodLink RL 122 yX9_count ∈ TB := inT3 (List.mem_of_getElem? (i := 165) rfl) rfl
set_option maxRecDepth 20000 in
theorem ki_X9_count : Cond.instanceMethod yX9_count ∈ TB := inT3 (List.mem_of_getElem? (i := 166) rfl) rfl
set_option maxRecDepth 20000 in
theorem ke_X9_count : Cond.selects RX9 yX9_count yX9_count ∈ TB := inT3 (List.mem_of_getElem? (i := 167) rfl) rfl
set_option maxRecDepth 20000 in
theorem kc_X9_count : Cond.code yX9_count cX9_count 2 (some .int) ∈ TB := inT3 (List.mem_of_getElem? (i := 168) rfl) rfl
set_option maxRecDepth 20000 in
theorem kl_X9_261 : Cond.methodLink RX9 261 yX8_bakers ∈ TB := inT3 (List.mem_of_getElem? (i := 169) rfl) rfl
set_option maxRecDepth 20000 in
theorem ki_X8_bakers : Cond.instanceMethod yX8_bakers ∈ TB := inT3 (List.mem_of_getElem? (i := 170) rfl) rfl
set_option maxRecDepth 20000 in
theorem ke_X8_bakers : Cond.selects RX8 yX8_bakers yX8_bakers ∈ TB := inT3 (List.mem_of_getElem? (i := 171) rfl) rfl
set_option maxRecDepth 20000 in
theorem kc_X8_bakers : Cond.code yX8_bakers cX8_bakers 1 (some .int) ∈ TB := inT3 (List.mem_of_getElem? (i := 172) rfl) rfl
set_option maxRecDepth 20000 in
theorem kl_X9_264 : Cond.methodLink RX9 264 yX1_flour ∈ TB := inT3 (List.mem_of_getElem? (i := 173) rfl) rfl
set_option maxRecDepth 20000 in
theorem ki_X1_flour : Cond.instanceMethod yX1_flour ∈ TB := inT3 (List.mem_of_getElem? (i := 174) rfl) rfl
set_option maxRecDepth 20000 in
theorem ke_X1_flour : Cond.selects RX1 yX1_flour yX1_flour ∈ TB := inT3 (List.mem_of_getElem? (i := 175) rfl) rfl
set_option maxRecDepth 20000 in
theorem kc_X1_flour : Cond.code yX1_flour cX1_flour 1 (some .int) ∈ TB := inT3 (List.mem_of_getElem? (i := 176) rfl) rfl
set_option maxRecDepth 20000 in
theorem kk_L_10 : Cond.classLink RL 10 RX10 ∈ TB := inT3 (List.mem_of_getElem? (i := 177) rfl) rfl
set_option maxRecDepth 20000 in
theorem kb_X10 : Cond.instantiable RX10 22 ∈ TB := inT3 (List.mem_of_getElem? (i := 178) rfl) rfl
set_option maxRecDepth 20000 in
theorem kl_L_12 : Cond.methodLink RL 12 yX10_init ∈ TB := inT3 (List.mem_of_getElem? (i := 179) rfl) rfl
set_option maxRecDepth 20000 in
theorem ki_X10_init : Cond.instanceMethod yX10_init ∈ TB := inT3 (List.mem_of_getElem? (i := 180) rfl) rfl
set_option maxRecDepth 20000 in
theorem kc_X10_init : Cond.code yX10_init cX10_init 1 none ∈ TB := inT3 (List.mem_of_getElem? (i := 181) rfl) rfl
set_option maxRecDepth 20000 in
theorem kl_X10_1 : Cond.methodLink RX10 1 objectInit ∈ TB := inT3 (List.mem_of_getElem? (i := 182) rfl) rfl
set_option maxRecDepth 20000 in
theorem kl_X10_57 : Cond.methodLink RX10 57 yX10_begins ∈ TB := inT3 (List.mem_of_getElem? (i := 183) rfl) rfl
set_option maxRecDepth 20000 in
theorem ki_X10_begins : Cond.instanceMethod yX10_begins ∈ TB := inT3 (List.mem_of_getElem? (i := 185) rfl) rfl
set_option maxRecDepth 20000 in
theorem kc_X10_begins : Cond.code yX10_begins cX10_begins 1 none ∈ TB := inT3 (List.mem_of_getElem? (i := 186) rfl) rfl
set_option maxRecDepth 20000 in
theorem kl_X10_60 : Cond.methodLink RX10 60 yX10_takes ∈ TB := inT3 (List.mem_of_getElem? (i := 187) rfl) rfl
set_option maxRecDepth 20000 in
theorem ki_X10_takes : Cond.instanceMethod yX10_takes ∈ TB := inT3 (List.mem_of_getElem? (i := 189) rfl) rfl
set_option maxRecDepth 20000 in
theorem kc_X10_takes : Cond.code yX10_takes cX10_takes 2 none ∈ TB := inT3 (List.mem_of_getElem? (i := 190) rfl) rfl
set_option maxRecDepth 20000 in
theorem kf_X10_69 : Cond.fieldLink RX10 69 "LoafLettersModel" "length" "I" ∈ TB := inT3 (List.mem_of_getElem? (i := 191) rfl) rfl
set_option maxRecDepth 20000 in
theorem kf_X10_7 : Cond.fieldLink RX10 7 "LoafLettersModel" "text" "[B" ∈ TB := inT3 (List.mem_of_getElem? (i := 192) rfl) rfl
set_option maxRecDepth 20000 in
theorem kf_X10_73 : Cond.fieldLink RX10 73 "LoafLettersModel" "at" "I" ∈ TB := inT3 (List.mem_of_getElem? (i := 193) rfl) rfl
set_option maxRecDepth 20000 in
theorem kf_X10_13 : Cond.fieldLink RX10 13 "LoafLettersModel" "told" "[I" ∈ TB := inT3 (List.mem_of_getElem? (i := 194) rfl) rfl
set_option maxRecDepth 20000 in
theorem kf_X10_17 : Cond.fieldLink RX10 17 "LoafLettersModel" "words" "[I" ∈ TB := inT3 (List.mem_of_getElem? (i := 195) rfl) rfl
set_option maxRecDepth 20000 in
theorem kf_X10_20 : Cond.fieldLink RX10 20 "LoafLettersModel" "word" "[I" ∈ TB := inT3 (List.mem_of_getElem? (i := 196) rfl) rfl
set_option maxRecDepth 20000 in
theorem kf_X10_23 : Cond.fieldLink RX10 23 "LoafLettersModel" "carriers" "[I" ∈ TB := inT3 (List.mem_of_getElem? (i := 197) rfl) rfl
set_option maxRecDepth 20000 in
theorem kf_X10_26 : Cond.fieldLink RX10 26 "LoafLettersModel" "carrier" "[I" ∈ TB := inT3 (List.mem_of_getElem? (i := 198) rfl) rfl
set_option maxRecDepth 20000 in
theorem kf_X10_29 : Cond.fieldLink RX10 29 "LoafLettersModel" "bakers" "[I" ∈ TB := inT3 (List.mem_of_getElem? (i := 199) rfl) rfl
set_option maxRecDepth 20000 in
theorem kf_X10_32 : Cond.fieldLink RX10 32 "LoafLettersModel" "baker" "[I" ∈ TB := inT3 (List.mem_of_getElem? (i := 200) rfl) rfl
set_option maxRecDepth 20000 in
theorem kf_X10_35 : Cond.fieldLink RX10 35 "LoafLettersModel" "loaves" "[I" ∈ TB := inT3 (List.mem_of_getElem? (i := 201) rfl) rfl
set_option maxRecDepth 20000 in
theorem kf_X10_38 : Cond.fieldLink RX10 38 "LoafLettersModel" "loaf" "[I" ∈ TB := inT3 (List.mem_of_getElem? (i := 202) rfl) rfl
set_option maxRecDepth 20000 in
theorem kf_X10_41 : Cond.fieldLink RX10 41 "LoafLettersModel" "flour" "[I" ∈ TB := inT3 (List.mem_of_getElem? (i := 203) rfl) rfl
set_option maxRecDepth 20000 in
theorem kf_X10_101 : Cond.fieldLink RX10 101 "LoafLettersModel" "kept" "I" ∈ TB := inT3 (List.mem_of_getElem? (i := 204) rfl) rfl
set_option maxRecDepth 20000 in
theorem kf_X10_98 : Cond.fieldLink RX10 98 "LoafLettersModel" "done" "I" ∈ TB := inT3 (List.mem_of_getElem? (i := 205) rfl) rfl
set_option maxRecDepth 20000 in
theorem kf_X10_44 : Cond.fieldLink RX10 44 "LoafLettersModel" "did" "[I" ∈ TB := inT3 (List.mem_of_getElem? (i := 206) rfl) rfl
set_option maxRecDepth 20000 in
theorem kf_X10_47 : Cond.fieldLink RX10 47 "LoafLettersModel" "reach" "[Z" ∈ TB := inT3 (List.mem_of_getElem? (i := 207) rfl) rfl
set_option maxRecDepth 20000 in
theorem kf_X10_51 : Cond.fieldLink RX10 51 "LoafLettersModel" "best" "[I" ∈ TB := inT3 (List.mem_of_getElem? (i := 208) rfl) rfl
set_option maxRecDepth 20000 in
theorem kf_X10_188 : Cond.fieldLink RX10 188 "LoafLettersModel" "above" "J" ∈ TB := inT3 (List.mem_of_getElem? (i := 209) rfl) rfl
set_option maxRecDepth 20000 in
theorem kf_X10_192 : Cond.fieldLink RX10 192 "LoafLettersModel" "below" "J" ∈ TB := inT3 (List.mem_of_getElem? (i := 210) rfl) rfl
set_option maxRecDepth 20000 in
theorem kf_X10_54 : Cond.fieldLink RX10 54 "LoafLettersModel" "got" "[I" ∈ TB := inT3 (List.mem_of_getElem? (i := 211) rfl) rfl
set_option maxRecDepth 20000 in
theorem kf_X10_170 : Cond.fieldLink RX10 170 "LoafLettersModel" "codeLeast" "I" ∈ TB := inT3 (List.mem_of_getElem? (i := 212) rfl) rfl
set_option maxRecDepth 20000 in
theorem ka_boolean : Cond.arrayClass .boolean ∈ TB := inT4 (List.mem_of_getElem? (i := 18) rfl) rfl
set_option maxRecDepth 20000 in
theorem kl_L_19 : Cond.methodLink RL 19 yX10_write ∈ TB := inT4 (List.mem_of_getElem? (i := 19) rfl) rfl
set_option maxRecDepth 20000 in
theorem ki_X10_write : Cond.instanceMethod yX10_write ∈ TB := inT4 (List.mem_of_getElem? (i := 20) rfl) rfl
set_option maxRecDepth 20000 in
theorem ke_X10_write : Cond.selects RX10 yX10_write yX10_write ∈ TB := inT4 (List.mem_of_getElem? (i := 21) rfl) rfl
set_option maxRecDepth 20000 in
theorem kc_X10_write : Cond.code yX10_write cX10_write 5 (some .int) ∈ TB := inT4 (List.mem_of_getElem? (i := 22) rfl) rfl
set_option maxRecDepth 20000 in
theorem kv_X10_63 : Cond.constantLong RX10 63 (8) ∈ TB := inT4 (List.mem_of_getElem? (i := 23) rfl) rfl
set_option maxRecDepth 20000 in
theorem kl_X10_65 : Cond.methodLink RX10 65 yX10_in ∈ TB := inT4 (List.mem_of_getElem? (i := 24) rfl) rfl
set_option maxRecDepth 20000 in
theorem ks_X10_in : Cond.static yX10_in ∈ TB := inT4 (List.mem_of_getElem? (i := 25) rfl) rfl
set_option maxRecDepth 20000 in
theorem kc_X10_in : Cond.code yX10_in cX10_in 6 (some .boolean) ∈ TB := inT4 (List.mem_of_getElem? (i := 26) rfl) rfl
set_option maxRecDepth 20000 in
theorem kl_L_24 : Cond.methodLink RL 24 yX10_wipe ∈ TB := inT4 (List.mem_of_getElem? (i := 27) rfl) rfl
set_option maxRecDepth 20000 in
theorem ki_X10_wipe : Cond.instanceMethod yX10_wipe ∈ TB := inT4 (List.mem_of_getElem? (i := 28) rfl) rfl
set_option maxRecDepth 20000 in
theorem ke_X10_wipe : Cond.selects RX10 yX10_wipe yX10_wipe ∈ TB := inT4 (List.mem_of_getElem? (i := 29) rfl) rfl
set_option maxRecDepth 20000 in
theorem kc_X10_wipe : Cond.code yX10_wipe cX10_wipe 2 (some .int) ∈ TB := inT4 (List.mem_of_getElem? (i := 30) rfl) rfl
set_option maxRecDepth 20000 in
theorem kl_L_28 : Cond.methodLink RL 28 yX10_fault ∈ TB := inT4 (List.mem_of_getElem? (i := 31) rfl) rfl
set_option maxRecDepth 20000 in
theorem ki_X10_fault : Cond.instanceMethod yX10_fault ∈ TB := inT4 (List.mem_of_getElem? (i := 32) rfl) rfl
set_option maxRecDepth 20000 in
theorem ke_X10_fault : Cond.selects RX10 yX10_fault yX10_fault ∈ TB := inT4 (List.mem_of_getElem? (i := 33) rfl) rfl
set_option maxRecDepth 20000 in
theorem kc_X10_fault : Cond.code yX10_fault cX10_fault 2 (some .int) ∈ TB := inT4 (List.mem_of_getElem? (i := 34) rfl) rfl
set_option maxRecDepth 20000 in
theorem kl_X10_104 : Cond.methodLink RX10 104 yX10_isItem ∈ TB := inT4 (List.mem_of_getElem? (i := 35) rfl) rfl
set_option maxRecDepth 20000 in
theorem ki_X10_isItem : Cond.instanceMethod yX10_isItem ∈ TB := inT4 (List.mem_of_getElem? (i := 37) rfl) rfl
set_option maxRecDepth 20000 in
theorem kc_X10_isItem : Cond.code yX10_isItem cX10_isItem 5 (some .boolean) ∈ TB := inT4 (List.mem_of_getElem? (i := 38) rfl) rfl
set_option maxRecDepth 20000 in
theorem kl_X10_82 : Cond.methodLink RX10 82 yX10_parts ∈ TB := inT4 (List.mem_of_getElem? (i := 39) rfl) rfl
set_option maxRecDepth 20000 in
theorem ks_X10_parts : Cond.static yX10_parts ∈ TB := inT4 (List.mem_of_getElem? (i := 40) rfl) rfl
set_option maxRecDepth 20000 in
theorem kc_X10_parts : Cond.code yX10_parts cX10_parts 1 (some .int) ∈ TB := inT4 (List.mem_of_getElem? (i := 41) rfl) rfl
set_option maxRecDepth 20000 in
theorem kl_X10_86 : Cond.methodLink RX10 86 yX10_number ∈ TB := inT4 (List.mem_of_getElem? (i := 42) rfl) rfl
set_option maxRecDepth 20000 in
theorem ki_X10_number : Cond.instanceMethod yX10_number ∈ TB := inT4 (List.mem_of_getElem? (i := 44) rfl) rfl
set_option maxRecDepth 20000 in
theorem kc_X10_number : Cond.code yX10_number cX10_number 3 (some .int) ∈ TB := inT4 (List.mem_of_getElem? (i := 45) rfl) rfl
set_option maxRecDepth 20000 in
theorem kv_X10_76 : Cond.constantLong RX10 76 (48) ∈ TB := inT4 (List.mem_of_getElem? (i := 46) rfl) rfl
set_option maxRecDepth 20000 in
theorem kv_X10_78 : Cond.constantLong RX10 78 (57) ∈ TB := inT4 (List.mem_of_getElem? (i := 47) rfl) rfl
set_option maxRecDepth 20000 in
theorem kv_X10_80 : Cond.constantLong RX10 80 (2) ∈ TB := inT4 (List.mem_of_getElem? (i := 48) rfl) rfl
set_option maxRecDepth 20000 in
theorem kl_X10_90 : Cond.methodLink RX10 90 yX10_isGood ∈ TB := inT4 (List.mem_of_getElem? (i := 49) rfl) rfl
set_option maxRecDepth 20000 in
theorem ki_X10_isGood : Cond.instanceMethod yX10_isGood ∈ TB := inT4 (List.mem_of_getElem? (i := 51) rfl) rfl
set_option maxRecDepth 20000 in
theorem kc_X10_isGood : Cond.code yX10_isGood cX10_isGood 5 (some .boolean) ∈ TB := inT4 (List.mem_of_getElem? (i := 52) rfl) rfl
set_option maxRecDepth 20000 in
theorem kl_X10_94 : Cond.methodLink RX10 94 yX10_isIn ∈ TB := inT4 (List.mem_of_getElem? (i := 53) rfl) rfl
set_option maxRecDepth 20000 in
theorem ki_X10_isIn : Cond.instanceMethod yX10_isIn ∈ TB := inT4 (List.mem_of_getElem? (i := 55) rfl) rfl
set_option maxRecDepth 20000 in
theorem kc_X10_isIn : Cond.code yX10_isIn cX10_isIn 4 (some .boolean) ∈ TB := inT4 (List.mem_of_getElem? (i := 56) rfl) rfl
set_option maxRecDepth 20000 in
theorem kl_L_32 : Cond.methodLink RL 32 yX10_lay ∈ TB := inT4 (List.mem_of_getElem? (i := 57) rfl) rfl
set_option maxRecDepth 20000 in
theorem ki_X10_lay : Cond.instanceMethod yX10_lay ∈ TB := inT4 (List.mem_of_getElem? (i := 58) rfl) rfl
set_option maxRecDepth 20000 in
theorem ke_X10_lay : Cond.selects RX10 yX10_lay yX10_lay ∈ TB := inT4 (List.mem_of_getElem? (i := 59) rfl) rfl
set_option maxRecDepth 20000 in
theorem kc_X10_lay : Cond.code yX10_lay cX10_lay 1 (some .int) ∈ TB := inT4 (List.mem_of_getElem? (i := 60) rfl) rfl
set_option maxRecDepth 20000 in
theorem kl_X10_108 : Cond.methodLink RX10 108 yX10_fault ∈ TB := inT4 (List.mem_of_getElem? (i := 61) rfl) rfl
set_option maxRecDepth 20000 in
theorem kl_L_37 : Cond.methodLink RL 37 yX10_word ∈ TB := inT4 (List.mem_of_getElem? (i := 62) rfl) rfl
set_option maxRecDepth 20000 in
theorem ki_X10_word : Cond.instanceMethod yX10_word ∈ TB := inT4 (List.mem_of_getElem? (i := 63) rfl) rfl
set_option maxRecDepth 20000 in
theorem ke_X10_word : Cond.selects RX10 yX10_word yX10_word ∈ TB := inT4 (List.mem_of_getElem? (i := 64) rfl) rfl
set_option maxRecDepth 20000 in
theorem kc_X10_word : Cond.code yX10_word cX10_word 3 (some .int) ∈ TB := inT4 (List.mem_of_getElem? (i := 65) rfl) rfl
set_option maxRecDepth 20000 in
theorem kl_X10_111 : Cond.methodLink RX10 111 yX10_isWord ∈ TB := inT4 (List.mem_of_getElem? (i := 66) rfl) rfl
set_option maxRecDepth 20000 in
theorem ki_X10_isWord : Cond.instanceMethod yX10_isWord ∈ TB := inT4 (List.mem_of_getElem? (i := 68) rfl) rfl
set_option maxRecDepth 20000 in
theorem kc_X10_isWord : Cond.code yX10_isWord cX10_isWord 2 (some .boolean) ∈ TB := inT4 (List.mem_of_getElem? (i := 69) rfl) rfl
set_option maxRecDepth 20000 in
theorem kl_X10_114 : Cond.methodLink RX10 114 yX10_flourOf ∈ TB := inT4 (List.mem_of_getElem? (i := 70) rfl) rfl
set_option maxRecDepth 20000 in
theorem ks_X10_flourOf : Cond.static yX10_flourOf ∈ TB := inT4 (List.mem_of_getElem? (i := 71) rfl) rfl
set_option maxRecDepth 20000 in
theorem kc_X10_flourOf : Cond.code yX10_flourOf cX10_flourOf 1 (some .int) ∈ TB := inT4 (List.mem_of_getElem? (i := 72) rfl) rfl
set_option maxRecDepth 20000 in
theorem kl_L_41 : Cond.methodLink RL 41 yX10_bake ∈ TB := inT4 (List.mem_of_getElem? (i := 73) rfl) rfl
set_option maxRecDepth 20000 in
theorem ki_X10_bake : Cond.instanceMethod yX10_bake ∈ TB := inT4 (List.mem_of_getElem? (i := 74) rfl) rfl
set_option maxRecDepth 20000 in
theorem ke_X10_bake : Cond.selects RX10 yX10_bake yX10_bake ∈ TB := inT4 (List.mem_of_getElem? (i := 75) rfl) rfl
set_option maxRecDepth 20000 in
theorem kc_X10_bake : Cond.code yX10_bake cX10_bake 4 (some .int) ∈ TB := inT4 (List.mem_of_getElem? (i := 76) rfl) rfl
set_option maxRecDepth 20000 in
theorem kv_X10_131 : Cond.constantLong RX10 131 (3) ∈ TB := inT4 (List.mem_of_getElem? (i := 77) rfl) rfl
set_option maxRecDepth 20000 in
theorem kl_X10_133 : Cond.methodLink RX10 133 yX10_used ∈ TB := inT4 (List.mem_of_getElem? (i := 78) rfl) rfl
set_option maxRecDepth 20000 in
theorem ki_X10_used : Cond.instanceMethod yX10_used ∈ TB := inT4 (List.mem_of_getElem? (i := 80) rfl) rfl
set_option maxRecDepth 20000 in
theorem kc_X10_used : Cond.code yX10_used cX10_used 4 (some .int) ∈ TB := inT4 (List.mem_of_getElem? (i := 81) rfl) rfl
set_option maxRecDepth 20000 in
theorem kl_X10_124 : Cond.methodLink RX10 124 yX10_baked ∈ TB := inT4 (List.mem_of_getElem? (i := 82) rfl) rfl
set_option maxRecDepth 20000 in
theorem ki_X10_baked : Cond.instanceMethod yX10_baked ∈ TB := inT4 (List.mem_of_getElem? (i := 84) rfl) rfl
set_option maxRecDepth 20000 in
theorem kc_X10_baked : Cond.code yX10_baked cX10_baked 3 (some .int) ∈ TB := inT4 (List.mem_of_getElem? (i := 85) rfl) rfl
set_option maxRecDepth 20000 in
theorem kl_X10_136 : Cond.methodLink RX10 136 yX10_known ∈ TB := inT4 (List.mem_of_getElem? (i := 86) rfl) rfl
set_option maxRecDepth 20000 in
theorem ki_X10_known : Cond.instanceMethod yX10_known ∈ TB := inT4 (List.mem_of_getElem? (i := 88) rfl) rfl
set_option maxRecDepth 20000 in
theorem kc_X10_known : Cond.code yX10_known cX10_known 4 none ∈ TB := inT4 (List.mem_of_getElem? (i := 89) rfl) rfl
set_option maxRecDepth 20000 in
theorem kl_L_45 : Cond.methodLink RL 45 yX10_day ∈ TB := inT4 (List.mem_of_getElem? (i := 90) rfl) rfl
set_option maxRecDepth 20000 in
theorem ki_X10_day : Cond.instanceMethod yX10_day ∈ TB := inT4 (List.mem_of_getElem? (i := 91) rfl) rfl
set_option maxRecDepth 20000 in
theorem ke_X10_day : Cond.selects RX10 yX10_day yX10_day ∈ TB := inT4 (List.mem_of_getElem? (i := 92) rfl) rfl
set_option maxRecDepth 20000 in
theorem kc_X10_day : Cond.code yX10_day cX10_day 3 (some .int) ∈ TB := inT4 (List.mem_of_getElem? (i := 93) rfl) rfl
set_option maxRecDepth 20000 in
theorem kl_X10_140 : Cond.methodLink RX10 140 yX10_ages ∈ TB := inT4 (List.mem_of_getElem? (i := 94) rfl) rfl
set_option maxRecDepth 20000 in
theorem ki_X10_ages : Cond.instanceMethod yX10_ages ∈ TB := inT4 (List.mem_of_getElem? (i := 96) rfl) rfl
set_option maxRecDepth 20000 in
theorem kc_X10_ages : Cond.code yX10_ages cX10_ages 3 none ∈ TB := inT4 (List.mem_of_getElem? (i := 97) rfl) rfl
set_option maxRecDepth 20000 in
theorem kl_X10_144 : Cond.methodLink RX10 144 yX10_hasNow ∈ TB := inT4 (List.mem_of_getElem? (i := 98) rfl) rfl
set_option maxRecDepth 20000 in
theorem ki_X10_hasNow : Cond.instanceMethod yX10_hasNow ∈ TB := inT4 (List.mem_of_getElem? (i := 100) rfl) rfl
set_option maxRecDepth 20000 in
theorem kc_X10_hasNow : Cond.code yX10_hasNow cX10_hasNow 4 (some .int) ∈ TB := inT4 (List.mem_of_getElem? (i := 101) rfl) rfl
set_option maxRecDepth 20000 in
theorem kl_X10_127 : Cond.methodLink RX10 127 yX10_become ∈ TB := inT4 (List.mem_of_getElem? (i := 102) rfl) rfl
set_option maxRecDepth 20000 in
theorem ki_X10_become : Cond.instanceMethod yX10_become ∈ TB := inT4 (List.mem_of_getElem? (i := 104) rfl) rfl
set_option maxRecDepth 20000 in
theorem kc_X10_become : Cond.code yX10_become cX10_become 4 (some .int) ∈ TB := inT4 (List.mem_of_getElem? (i := 105) rfl) rfl
set_option maxRecDepth 20000 in
theorem kl_X10_117 : Cond.methodLink RX10 117 yX10_aged ∈ TB := inT4 (List.mem_of_getElem? (i := 106) rfl) rfl
set_option maxRecDepth 20000 in
theorem ki_X10_aged : Cond.instanceMethod yX10_aged ∈ TB := inT4 (List.mem_of_getElem? (i := 108) rfl) rfl
set_option maxRecDepth 20000 in
theorem kc_X10_aged : Cond.code yX10_aged cX10_aged 5 (some .int) ∈ TB := inT4 (List.mem_of_getElem? (i := 109) rfl) rfl
set_option maxRecDepth 20000 in
theorem kl_X10_121 : Cond.methodLink RX10 121 yX10_bitten ∈ TB := inT4 (List.mem_of_getElem? (i := 110) rfl) rfl
set_option maxRecDepth 20000 in
theorem ks_X10_bitten : Cond.static yX10_bitten ∈ TB := inT4 (List.mem_of_getElem? (i := 111) rfl) rfl
set_option maxRecDepth 20000 in
theorem kc_X10_bitten : Cond.code yX10_bitten cX10_bitten 4 (some .int) ∈ TB := inT4 (List.mem_of_getElem? (i := 112) rfl) rfl
set_option maxRecDepth 20000 in
theorem kl_X10_147 : Cond.methodLink RX10 147 yX10_read ∈ TB := inT4 (List.mem_of_getElem? (i := 113) rfl) rfl
set_option maxRecDepth 20000 in
theorem ki_X10_read : Cond.instanceMethod yX10_read ∈ TB := inT4 (List.mem_of_getElem? (i := 115) rfl) rfl
set_option maxRecDepth 20000 in
theorem kc_X10_read : Cond.code yX10_read cX10_read 3 (some .int) ∈ TB := inT4 (List.mem_of_getElem? (i := 116) rfl) rfl
set_option maxRecDepth 20000 in
theorem kl_L_50 : Cond.methodLink RL 50 yX10_bite ∈ TB := inT4 (List.mem_of_getElem? (i := 117) rfl) rfl
set_option maxRecDepth 20000 in
theorem ki_X10_bite : Cond.instanceMethod yX10_bite ∈ TB := inT4 (List.mem_of_getElem? (i := 118) rfl) rfl
set_option maxRecDepth 20000 in
theorem ke_X10_bite : Cond.selects RX10 yX10_bite yX10_bite ∈ TB := inT4 (List.mem_of_getElem? (i := 119) rfl) rfl
set_option maxRecDepth 20000 in
theorem kc_X10_bite : Cond.code yX10_bite cX10_bite 2 (some .int) ∈ TB := inT4 (List.mem_of_getElem? (i := 120) rfl) rfl
set_option maxRecDepth 20000 in
theorem kl_X10_150 : Cond.methodLink RX10 150 yX10_isLoaf ∈ TB := inT4 (List.mem_of_getElem? (i := 121) rfl) rfl
set_option maxRecDepth 20000 in
theorem ki_X10_isLoaf : Cond.instanceMethod yX10_isLoaf ∈ TB := inT4 (List.mem_of_getElem? (i := 123) rfl) rfl
set_option maxRecDepth 20000 in
theorem kc_X10_isLoaf : Cond.code yX10_isLoaf cX10_isLoaf 2 (some .boolean) ∈ TB := inT4 (List.mem_of_getElem? (i := 124) rfl) rfl
set_option maxRecDepth 20000 in
theorem kl_L_54 : Cond.methodLink RL 54 yX10_take ∈ TB := inT4 (List.mem_of_getElem? (i := 125) rfl) rfl
set_option maxRecDepth 20000 in
theorem ki_X10_take : Cond.instanceMethod yX10_take ∈ TB := inT4 (List.mem_of_getElem? (i := 126) rfl) rfl
set_option maxRecDepth 20000 in
theorem ke_X10_take : Cond.selects RX10 yX10_take yX10_take ∈ TB := inT4 (List.mem_of_getElem? (i := 127) rfl) rfl
set_option maxRecDepth 20000 in
theorem kc_X10_take : Cond.code yX10_take cX10_take 4 (some .int) ∈ TB := inT4 (List.mem_of_getElem? (i := 128) rfl) rfl
set_option maxRecDepth 20000 in
theorem kl_L_58 : Cond.methodLink RL 58 yX10_undo ∈ TB := inT4 (List.mem_of_getElem? (i := 129) rfl) rfl
set_option maxRecDepth 20000 in
theorem ki_X10_undo : Cond.instanceMethod yX10_undo ∈ TB := inT4 (List.mem_of_getElem? (i := 130) rfl) rfl
set_option maxRecDepth 20000 in
theorem ke_X10_undo : Cond.selects RX10 yX10_undo yX10_undo ∈ TB := inT4 (List.mem_of_getElem? (i := 131) rfl) rfl
set_option maxRecDepth 20000 in
theorem kc_X10_undo : Cond.code yX10_undo cX10_undo 4 (some .int) ∈ TB := inT4 (List.mem_of_getElem? (i := 132) rfl) rfl
set_option maxRecDepth 20000 in
theorem kl_L_62 : Cond.methodLink RL 62 yX10_loaf ∈ TB := inT4 (List.mem_of_getElem? (i := 133) rfl) rfl
set_option maxRecDepth 20000 in
theorem ki_X10_loaf : Cond.instanceMethod yX10_loaf ∈ TB := inT4 (List.mem_of_getElem? (i := 134) rfl) rfl
set_option maxRecDepth 20000 in
theorem ke_X10_loaf : Cond.selects RX10 yX10_loaf yX10_loaf ∈ TB := inT4 (List.mem_of_getElem? (i := 135) rfl) rfl
set_option maxRecDepth 20000 in
theorem kc_X10_loaf : Cond.code yX10_loaf cX10_loaf 3 (some .int) ∈ TB := inT4 (List.mem_of_getElem? (i := 136) rfl) rfl
set_option maxRecDepth 20000 in
theorem kv_X10_153 : Cond.constantLong RX10 153 (5) ∈ TB := inT4 (List.mem_of_getElem? (i := 137) rfl) rfl
set_option maxRecDepth 20000 in
theorem kl_L_67 : Cond.methodLink RL 67 yX10_becomes ∈ TB := inT4 (List.mem_of_getElem? (i := 138) rfl) rfl
set_option maxRecDepth 20000 in
theorem ki_X10_becomes : Cond.instanceMethod yX10_becomes ∈ TB := inT4 (List.mem_of_getElem? (i := 139) rfl) rfl
set_option maxRecDepth 20000 in
theorem ke_X10_becomes : Cond.selects RX10 yX10_becomes yX10_becomes ∈ TB := inT4 (List.mem_of_getElem? (i := 140) rfl) rfl
set_option maxRecDepth 20000 in
theorem kc_X10_becomes : Cond.code yX10_becomes cX10_becomes 4 (some .int) ∈ TB := inT4 (List.mem_of_getElem? (i := 141) rfl) rfl
set_option maxRecDepth 20000 in
theorem kl_X10_159 : Cond.methodLink RX10 159 yX10_isSign ∈ TB := inT4 (List.mem_of_getElem? (i := 142) rfl) rfl
set_option maxRecDepth 20000 in
theorem ks_X10_isSign : Cond.static yX10_isSign ∈ TB := inT4 (List.mem_of_getElem? (i := 143) rfl) rfl
set_option maxRecDepth 20000 in
theorem kc_X10_isSign : Cond.code yX10_isSign cX10_isSign 1 (some .boolean) ∈ TB := inT4 (List.mem_of_getElem? (i := 144) rfl) rfl
set_option maxRecDepth 20000 in
theorem kv_X10_155 : Cond.constantLong RX10 155 (71) ∈ TB := inT4 (List.mem_of_getElem? (i := 145) rfl) rfl
set_option maxRecDepth 20000 in
theorem kl_X10_162 : Cond.methodLink RX10 162 yX10_isSpan ∈ TB := inT4 (List.mem_of_getElem? (i := 146) rfl) rfl
set_option maxRecDepth 20000 in
theorem ks_X10_isSpan : Cond.static yX10_isSpan ∈ TB := inT4 (List.mem_of_getElem? (i := 147) rfl) rfl
set_option maxRecDepth 20000 in
theorem kc_X10_isSpan : Cond.code yX10_isSpan cX10_isSpan 2 (some .boolean) ∈ TB := inT4 (List.mem_of_getElem? (i := 148) rfl) rfl
set_option maxRecDepth 20000 in
theorem kv_X10_157 : Cond.constantLong RX10 157 (20) ∈ TB := inT4 (List.mem_of_getElem? (i := 149) rfl) rfl
set_option maxRecDepth 20000 in
theorem kl_L_71 : Cond.methodLink RL 71 yX10_mayBe ∈ TB := inT4 (List.mem_of_getElem? (i := 150) rfl) rfl
set_option maxRecDepth 20000 in
theorem ki_X10_mayBe : Cond.instanceMethod yX10_mayBe ∈ TB := inT4 (List.mem_of_getElem? (i := 151) rfl) rfl
set_option maxRecDepth 20000 in
theorem ke_X10_mayBe : Cond.selects RX10 yX10_mayBe yX10_mayBe ∈ TB := inT4 (List.mem_of_getElem? (i := 152) rfl) rfl
set_option maxRecDepth 20000 in
theorem kc_X10_mayBe : Cond.code yX10_mayBe cX10_mayBe 6 (some .int) ∈ TB := inT4 (List.mem_of_getElem? (i := 153) rfl) rfl
set_option maxRecDepth 20000 in
theorem kl_X10_166 : Cond.methodLink RX10 166 yX10_isAble ∈ TB := inT4 (List.mem_of_getElem? (i := 154) rfl) rfl
set_option maxRecDepth 20000 in
theorem ki_X10_isAble : Cond.instanceMethod yX10_isAble ∈ TB := inT4 (List.mem_of_getElem? (i := 156) rfl) rfl
set_option maxRecDepth 20000 in
theorem kc_X10_isAble : Cond.code yX10_isAble cX10_isAble 7 (some .boolean) ∈ TB := inT4 (List.mem_of_getElem? (i := 157) rfl) rfl
set_option maxRecDepth 20000 in
theorem kl_L_76 : Cond.methodLink RL 76 yX10_can ∈ TB := inT4 (List.mem_of_getElem? (i := 158) rfl) rfl
set_option maxRecDepth 20000 in
theorem ki_X10_can : Cond.instanceMethod yX10_can ∈ TB := inT4 (List.mem_of_getElem? (i := 159) rfl) rfl
set_option maxRecDepth 20000 in
theorem ke_X10_can : Cond.selects RX10 yX10_can yX10_can ∈ TB := inT4 (List.mem_of_getElem? (i := 160) rfl) rfl
set_option maxRecDepth 20000 in
theorem kc_X10_can : Cond.code yX10_can cX10_can 5 (some .int) ∈ TB := inT4 (List.mem_of_getElem? (i := 161) rfl) rfl
set_option maxRecDepth 20000 in
theorem kl_L_80 : Cond.methodLink RL 80 yX10_was ∈ TB := inT4 (List.mem_of_getElem? (i := 162) rfl) rfl
set_option maxRecDepth 20000 in
theorem ki_X10_was : Cond.instanceMethod yX10_was ∈ TB := inT4 (List.mem_of_getElem? (i := 163) rfl) rfl
set_option maxRecDepth 20000 in
theorem ke_X10_was : Cond.selects RX10 yX10_was yX10_was ∈ TB := inT4 (List.mem_of_getElem? (i := 164) rfl) rfl
set_option maxRecDepth 20000 in
theorem kc_X10_was : Cond.code yX10_was cX10_was 6 (some .int) ∈ TB := inT4 (List.mem_of_getElem? (i := 165) rfl) rfl
set_option maxRecDepth 20000 in
theorem kl_L_84 : Cond.methodLink RL 84 yX10_half ∈ TB := inT4 (List.mem_of_getElem? (i := 166) rfl) rfl
set_option maxRecDepth 20000 in
theorem ki_X10_half : Cond.instanceMethod yX10_half ∈ TB := inT4 (List.mem_of_getElem? (i := 167) rfl) rfl
set_option maxRecDepth 20000 in
theorem ke_X10_half : Cond.selects RX10 yX10_half yX10_half ∈ TB := inT4 (List.mem_of_getElem? (i := 168) rfl) rfl
set_option maxRecDepth 20000 in
theorem kc_X10_half : Cond.code yX10_half cX10_half 7 (some .int) ∈ TB := inT4 (List.mem_of_getElem? (i := 169) rfl) rfl
set_option maxRecDepth 20000 in
theorem kl_L_88 : Cond.methodLink RL 88 yX10_code ∈ TB := inT4 (List.mem_of_getElem? (i := 170) rfl) rfl
set_option maxRecDepth 20000 in
theorem ki_X10_code : Cond.instanceMethod yX10_code ∈ TB := inT4 (List.mem_of_getElem? (i := 171) rfl) rfl
set_option maxRecDepth 20000 in
theorem ke_X10_code : Cond.selects RX10 yX10_code yX10_code ∈ TB := inT4 (List.mem_of_getElem? (i := 172) rfl) rfl
set_option maxRecDepth 20000 in
theorem kc_X10_code : Cond.code yX10_code cX10_code 8 (some .int) ∈ TB := inT4 (List.mem_of_getElem? (i := 173) rfl) rfl
set_option maxRecDepth 20000 in
theorem kv_X10_173 : Cond.constantLong RX10 173 (-1) ∈ TB := inT4 (List.mem_of_getElem? (i := 174) rfl) rfl
set_option maxRecDepth 20000 in
theorem kl_X10_175 : Cond.methodLink RX10 175 yX10_codes ∈ TB := inT4 (List.mem_of_getElem? (i := 175) rfl) rfl
set_option maxRecDepth 20000 in
theorem ki_X10_codes : Cond.instanceMethod yX10_codes ∈ TB := inT4 (List.mem_of_getElem? (i := 177) rfl) rfl
set_option maxRecDepth 20000 in
theorem kc_X10_codes : Cond.code yX10_codes cX10_codes 5 none ∈ TB := inT4 (List.mem_of_getElem? (i := 178) rfl) rfl
set_option maxRecDepth 20000 in
theorem kl_X10_179 : Cond.methodLink RX10 179 yX10_isApart ∈ TB := inT4 (List.mem_of_getElem? (i := 179) rfl) rfl
set_option maxRecDepth 20000 in
theorem ki_X10_isApart : Cond.instanceMethod yX10_isApart ∈ TB := inT4 (List.mem_of_getElem? (i := 181) rfl) rfl
set_option maxRecDepth 20000 in
theorem kc_X10_isApart : Cond.code yX10_isApart cX10_isApart 5 (some .boolean) ∈ TB := inT4 (List.mem_of_getElem? (i := 182) rfl) rfl
set_option maxRecDepth 20000 in
theorem kl_L_92 : Cond.methodLink RL 92 yX10_sent ∈ TB := inT4 (List.mem_of_getElem? (i := 183) rfl) rfl
set_option maxRecDepth 20000 in
theorem ki_X10_sent : Cond.instanceMethod yX10_sent ∈ TB := inT4 (List.mem_of_getElem? (i := 184) rfl) rfl
set_option maxRecDepth 20000 in
theorem ke_X10_sent : Cond.selects RX10 yX10_sent yX10_sent ∈ TB := inT4 (List.mem_of_getElem? (i := 185) rfl) rfl
set_option maxRecDepth 20000 in
theorem kc_X10_sent : Cond.code yX10_sent cX10_sent 5 (some .int) ∈ TB := inT4 (List.mem_of_getElem? (i := 186) rfl) rfl
set_option maxRecDepth 20000 in
theorem kl_X10_195 : Cond.methodLink RX10 195 yX10_isCarrier ∈ TB := inT4 (List.mem_of_getElem? (i := 187) rfl) rfl
set_option maxRecDepth 20000 in
theorem ki_X10_isCarrier : Cond.instanceMethod yX10_isCarrier ∈ TB := inT4 (List.mem_of_getElem? (i := 189) rfl) rfl
set_option maxRecDepth 20000 in
theorem kc_X10_isCarrier : Cond.code yX10_isCarrier cX10_isCarrier 2 (some .boolean) ∈ TB := inT4 (List.mem_of_getElem? (i := 190) rfl) rfl
set_option maxRecDepth 20000 in
theorem kl_X10_198 : Cond.methodLink RX10 198 yX10_isAge ∈ TB := inT4 (List.mem_of_getElem? (i := 191) rfl) rfl
set_option maxRecDepth 20000 in
theorem ks_X10_isAge : Cond.static yX10_isAge ∈ TB := inT4 (List.mem_of_getElem? (i := 192) rfl) rfl
set_option maxRecDepth 20000 in
theorem kc_X10_isAge : Cond.code yX10_isAge cX10_isAge 1 (some .boolean) ∈ TB := inT4 (List.mem_of_getElem? (i := 193) rfl) rfl
set_option maxRecDepth 20000 in
theorem kl_X10_201 : Cond.methodLink RX10 201 yX10_reads ∈ TB := inT4 (List.mem_of_getElem? (i := 194) rfl) rfl
set_option maxRecDepth 20000 in
theorem ki_X10_reads : Cond.instanceMethod yX10_reads ∈ TB := inT4 (List.mem_of_getElem? (i := 196) rfl) rfl
set_option maxRecDepth 20000 in
theorem kc_X10_reads : Cond.code yX10_reads cX10_reads 11 (some .long) ∈ TB := inT4 (List.mem_of_getElem? (i := 197) rfl) rfl
set_option maxRecDepth 20000 in
theorem kl_X10_182 : Cond.methodLink RX10 182 yX10_power ∈ TB := inT4 (List.mem_of_getElem? (i := 198) rfl) rfl
set_option maxRecDepth 20000 in
theorem ks_X10_power : Cond.static yX10_power ∈ TB := inT4 (List.mem_of_getElem? (i := 199) rfl) rfl
set_option maxRecDepth 20000 in
theorem kc_X10_power : Cond.code yX10_power cX10_power 6 (some .long) ∈ TB := inT4 (List.mem_of_getElem? (i := 200) rfl) rfl
set_option maxRecDepth 20000 in
theorem kv_X10_186 : Cond.constantLong RX10 186 (10) ∈ TB := inT4 (List.mem_of_getElem? (i := 201) rfl) rfl
set_option maxRecDepth 20000 in
theorem kl_X10_205 : Cond.methodLink RX10 205 yX10_tens ∈ TB := inT4 (List.mem_of_getElem? (i := 202) rfl) rfl
set_option maxRecDepth 20000 in
theorem ki_X10_tens : Cond.instanceMethod yX10_tens ∈ TB := inT4 (List.mem_of_getElem? (i := 204) rfl) rfl
set_option maxRecDepth 20000 in
theorem kc_X10_tens : Cond.code yX10_tens cX10_tens 2 (some .long) ∈ TB := inT4 (List.mem_of_getElem? (i := 205) rfl) rfl
set_option maxRecDepth 20000 in
theorem kl_X10_209 : Cond.methodLink RX10 209 yX10_lowest ∈ TB := inT4 (List.mem_of_getElem? (i := 206) rfl) rfl
set_option maxRecDepth 20000 in
theorem ki_X10_lowest : Cond.instanceMethod yX10_lowest ∈ TB := inT4 (List.mem_of_getElem? (i := 208) rfl) rfl
set_option maxRecDepth 20000 in
theorem kc_X10_lowest : Cond.code yX10_lowest cX10_lowest 11 none ∈ TB := inT4 (List.mem_of_getElem? (i := 209) rfl) rfl
set_option maxRecDepth 20000 in
theorem kl_L_96 : Cond.methodLink RL 96 yX10_whom ∈ TB := inT4 (List.mem_of_getElem? (i := 210) rfl) rfl
set_option maxRecDepth 20000 in
theorem ki_X10_whom : Cond.instanceMethod yX10_whom ∈ TB := inT4 (List.mem_of_getElem? (i := 211) rfl) rfl
set_option maxRecDepth 20000 in
theorem ke_X10_whom : Cond.selects RX10 yX10_whom yX10_whom ∈ TB := inT4 (List.mem_of_getElem? (i := 212) rfl) rfl
set_option maxRecDepth 20000 in
theorem kc_X10_whom : Cond.code yX10_whom cX10_whom 9 (some .int) ∈ TB := inT4 (List.mem_of_getElem? (i := 213) rfl) rfl
set_option maxRecDepth 20000 in
theorem kl_L_101 : Cond.methodLink RL 101 yX10_two ∈ TB := inT4 (List.mem_of_getElem? (i := 214) rfl) rfl
set_option maxRecDepth 20000 in
theorem ki_X10_two : Cond.instanceMethod yX10_two ∈ TB := inT4 (List.mem_of_getElem? (i := 215) rfl) rfl
set_option maxRecDepth 20000 in
theorem ke_X10_two : Cond.selects RX10 yX10_two yX10_two ∈ TB := inT4 (List.mem_of_getElem? (i := 216) rfl) rfl
set_option maxRecDepth 20000 in
theorem kc_X10_two : Cond.code yX10_two cX10_two 8 (some .long) ∈ TB := inT4 (List.mem_of_getElem? (i := 217) rfl) rfl
set_option maxRecDepth 20000 in
theorem kl_L_105 : Cond.methodLink RL 105 yX10_said ∈ TB := inT4 (List.mem_of_getElem? (i := 218) rfl) rfl
set_option maxRecDepth 20000 in
theorem ki_X10_said : Cond.instanceMethod yX10_said ∈ TB := inT4 (List.mem_of_getElem? (i := 219) rfl) rfl
set_option maxRecDepth 20000 in
theorem ke_X10_said : Cond.selects RX10 yX10_said yX10_said ∈ TB := inT4 (List.mem_of_getElem? (i := 220) rfl) rfl
set_option maxRecDepth 20000 in
theorem kc_X10_said : Cond.code yX10_said cX10_said 9 (some .int) ∈ TB := inT4 (List.mem_of_getElem? (i := 221) rfl) rfl
set_option maxRecDepth 20000 in
theorem kv_X10_213 : Cond.constantLong RX10 213 (99) ∈ TB := inT4 (List.mem_of_getElem? (i := 222) rfl) rfl
set_option maxRecDepth 20000 in
theorem kl_L_109 : Cond.methodLink RL 109 yX10_told ∈ TB := inT4 (List.mem_of_getElem? (i := 223) rfl) rfl
set_option maxRecDepth 20000 in
theorem ki_X10_told : Cond.instanceMethod yX10_told ∈ TB := inT4 (List.mem_of_getElem? (i := 224) rfl) rfl
set_option maxRecDepth 20000 in
theorem ke_X10_told : Cond.selects RX10 yX10_told yX10_told ∈ TB := inT4 (List.mem_of_getElem? (i := 225) rfl) rfl
set_option maxRecDepth 20000 in
theorem kc_X10_told : Cond.code yX10_told cX10_told 7 (some .int) ∈ TB := inT4 (List.mem_of_getElem? (i := 226) rfl) rfl
set_option maxRecDepth 20000 in
theorem kv_X10_215 : Cond.constantLong RX10 215 (63) ∈ TB := inT4 (List.mem_of_getElem? (i := 227) rfl) rfl
set_option maxRecDepth 20000 in
theorem kl_L_113 : Cond.methodLink RL 113 yX10_month ∈ TB := inT4 (List.mem_of_getElem? (i := 228) rfl) rfl
set_option maxRecDepth 20000 in
theorem ki_X10_month : Cond.instanceMethod yX10_month ∈ TB := inT4 (List.mem_of_getElem? (i := 229) rfl) rfl
set_option maxRecDepth 20000 in
theorem ke_X10_month : Cond.selects RX10 yX10_month yX10_month ∈ TB := inT4 (List.mem_of_getElem? (i := 230) rfl) rfl
set_option maxRecDepth 20000 in
theorem kc_X10_month : Cond.code yX10_month cX10_month 12 (some .int) ∈ TB := inT4 (List.mem_of_getElem? (i := 231) rfl) rfl
set_option maxRecDepth 20000 in
theorem kv_X10_217 : Cond.constantLong RX10 217 (9999) ∈ TB := inT4 (List.mem_of_getElem? (i := 232) rfl) rfl
set_option maxRecDepth 20000 in
theorem kv_X10_219 : Cond.constantLong RX10 219 (30) ∈ TB := inT4 (List.mem_of_getElem? (i := 233) rfl) rfl
set_option maxRecDepth 20000 in
theorem kv_X10_221 : Cond.constantLong RX10 221 (7919) ∈ TB := inT4 (List.mem_of_getElem? (i := 234) rfl) rfl
set_option maxRecDepth 20000 in
theorem kv_X10_223 : Cond.constantLong RX10 223 (6151) ∈ TB := inT4 (List.mem_of_getElem? (i := 235) rfl) rfl
set_option maxRecDepth 20000 in
theorem kv_X10_225 : Cond.constantLong RX10 225 (65521) ∈ TB := inT4 (List.mem_of_getElem? (i := 236) rfl) rfl
set_option maxRecDepth 20000 in
theorem kl_L_117 : Cond.methodLink RL 117 yX10_keep ∈ TB := inT4 (List.mem_of_getElem? (i := 237) rfl) rfl
set_option maxRecDepth 20000 in
theorem ki_X10_keep : Cond.instanceMethod yX10_keep ∈ TB := inT4 (List.mem_of_getElem? (i := 238) rfl) rfl
set_option maxRecDepth 20000 in
theorem ke_X10_keep : Cond.selects RX10 yX10_keep yX10_keep ∈ TB := inT4 (List.mem_of_getElem? (i := 239) rfl) rfl
set_option maxRecDepth 20000 in
theorem kc_X10_keep : Cond.code yX10_keep cX10_keep 1 (some .int) ∈ TB := inT5 (List.mem_of_getElem? (i := 0) rfl) rfl
set_option maxRecDepth 20000 in
theorem kl_X10_227 : Cond.methodLink RX10 227 yX10_copies ∈ TB := inT5 (List.mem_of_getElem? (i := 1) rfl) rfl
set_option maxRecDepth 20000 in
theorem ki_X10_copies : Cond.instanceMethod yX10_copies ∈ TB := inT5 (List.mem_of_getElem? (i := 3) rfl) rfl
set_option maxRecDepth 20000 in
theorem kc_X10_copies : Cond.code yX10_copies cX10_copies 4 none ∈ TB := inT5 (List.mem_of_getElem? (i := 4) rfl) rfl
set_option maxRecDepth 20000 in
theorem kl_L_121 : Cond.methodLink RL 121 yX10_back ∈ TB := inT5 (List.mem_of_getElem? (i := 5) rfl) rfl
set_option maxRecDepth 20000 in
theorem ki_X10_back : Cond.instanceMethod yX10_back ∈ TB := inT5 (List.mem_of_getElem? (i := 6) rfl) rfl
set_option maxRecDepth 20000 in
theorem ke_X10_back : Cond.selects RX10 yX10_back yX10_back ∈ TB := inT5 (List.mem_of_getElem? (i := 7) rfl) rfl
set_option maxRecDepth 20000 in
theorem kc_X10_back : Cond.code yX10_back cX10_back 1 (some .int) ∈ TB := inT5 (List.mem_of_getElem? (i := 8) rfl) rfl
set_option maxRecDepth 20000 in
theorem kl_L_125 : Cond.methodLink RL 125 yX10_count ∈ TB := inT5 (List.mem_of_getElem? (i := 9) rfl) rfl
set_option maxRecDepth 20000 in
theorem ki_X10_count : Cond.instanceMethod yX10_count ∈ TB := inT5 (List.mem_of_getElem? (i := 10) rfl) rfl
set_option maxRecDepth 20000 in
theorem ke_X10_count : Cond.selects RX10 yX10_count yX10_count ∈ TB := inT5 (List.mem_of_getElem? (i := 11) rfl) rfl
set_option maxRecDepth 20000 in
theorem kc_X10_count : Cond.code yX10_count cX10_count 2 (some .int) ∈ TB := inT5 (List.mem_of_getElem? (i := 12) rfl) rfl
set_option maxRecDepth 20000 in
theorem kv_L_13 : Cond.constantLong RL 13 (4294967295) ∈ TB := inT5 (List.mem_of_getElem? (i := 13) rfl) rfl
set_option maxRecDepth 20000 in
theorem ke_X4_readItem : Cond.selects RX4 yX4_readItem yX4_readItem ∈ TB := inPS (q := (yX4_readItem, 2)) (List.mem_append_left _ (List.mem_of_getElem? (i := 0) rfl))
set_option maxRecDepth 20000 in
theorem ke_X4_readNumbers : Cond.selects RX4 yX4_readNumbers yX4_readNumbers ∈ TB := inPS (q := (yX4_readNumbers, 2)) (List.mem_append_left _ (List.mem_of_getElem? (i := 1) rfl))
set_option maxRecDepth 20000 in
theorem ke_X4_readNumber : Cond.selects RX4 yX4_readNumber yX4_readNumber ∈ TB := inPS (q := (yX4_readNumber, 2)) (List.mem_append_left _ (List.mem_of_getElem? (i := 2) rfl))
set_option maxRecDepth 20000 in
theorem ke_X9_isWord : Cond.selects RX9 yX9_isWord yX9_isWord ∈ TB := inPS (q := (yX9_isWord, 9)) (List.mem_append_left _ (List.mem_of_getElem? (i := 3) rfl))
set_option maxRecDepth 20000 in
theorem ke_X5_dropOldest : Cond.selects RX5 yX5_dropOldest yX5_dropOldest ∈ TB := inPS (q := (yX5_dropOldest, 3)) (List.mem_append_left _ (List.mem_of_getElem? (i := 4) rfl))
set_option maxRecDepth 20000 in
theorem ke_X9_wordBehind : Cond.selects RX9 yX9_wordBehind yX9_wordBehind ∈ TB := inPS (q := (yX9_wordBehind, 9)) (List.mem_append_left _ (List.mem_of_getElem? (i := 5) rfl))
set_option maxRecDepth 20000 in
theorem ke_X1_change : Cond.selects RX1 yX1_change yX1_change ∈ TB := inPS (q := (yX1_change, 1)) (List.mem_append_left _ (List.mem_of_getElem? (i := 6) rfl))
set_option maxRecDepth 20000 in
theorem ke_X9_readingOf : Cond.selects RX9 yX9_readingOf yX9_readingOf ∈ TB := inPS (q := (yX9_readingOf, 9)) (List.mem_append_left _ (List.mem_of_getElem? (i := 7) rfl))
set_option maxRecDepth 20000 in
theorem ke_X9_signNow : Cond.selects RX9 yX9_signNow yX9_signNow ∈ TB := inPS (q := (yX9_signNow, 9)) (List.mem_append_left _ (List.mem_of_getElem? (i := 8) rfl))
set_option maxRecDepth 20000 in
theorem ke_X3_markBitten : Cond.selects RX3 yX3_markBitten yX3_markBitten ∈ TB := inPS (q := (yX3_markBitten, 2)) (List.mem_append_left _ (List.mem_of_getElem? (i := 9) rfl))
set_option maxRecDepth 20000 in
theorem ke_X3_mark : Cond.selects RX3 yX3_mark yX3_mark ∈ TB := inPS (q := (yX3_mark, 2)) (List.mem_append_left _ (List.mem_of_getElem? (i := 10) rfl))
set_option maxRecDepth 20000 in
theorem ke_X0_extend : Cond.selects RX0 yX0_extend yX0_extend ∈ TB := inPS (q := (yX0_extend, 5)) (List.mem_append_left _ (List.mem_of_getElem? (i := 11) rfl))
set_option maxRecDepth 20000 in
theorem ke_X0_staysApart : Cond.selects RX0 yX0_staysApart yX0_staysApart ∈ TB := inPS (q := (yX0_staysApart, 5)) (List.mem_append_left _ (List.mem_of_getElem? (i := 12) rfl))
set_option maxRecDepth 20000 in
theorem ke_X9_isCarrier : Cond.selects RX9 yX9_isCarrier yX9_isCarrier ∈ TB := inPS (q := (yX9_isCarrier, 9)) (List.mem_append_left _ (List.mem_of_getElem? (i := 13) rfl))
set_option maxRecDepth 20000 in
theorem ke_X10_begins : Cond.selects RX10 yX10_begins yX10_begins ∈ TB := inPS (q := (yX10_begins, 22)) (List.mem_append_left _ (List.mem_of_getElem? (i := 14) rfl))
set_option maxRecDepth 20000 in
theorem ke_X10_takes : Cond.selects RX10 yX10_takes yX10_takes ∈ TB := inPS (q := (yX10_takes, 22)) (List.mem_append_left _ (List.mem_of_getElem? (i := 15) rfl))
set_option maxRecDepth 20000 in
theorem ke_X10_isItem : Cond.selects RX10 yX10_isItem yX10_isItem ∈ TB := inPS (q := (yX10_isItem, 22)) (List.mem_append_right _ (List.mem_append_left _ (List.mem_of_getElem? (i := 0) rfl)))
set_option maxRecDepth 20000 in
theorem ke_X10_number : Cond.selects RX10 yX10_number yX10_number ∈ TB := inPS (q := (yX10_number, 22)) (List.mem_append_right _ (List.mem_append_left _ (List.mem_of_getElem? (i := 1) rfl)))
set_option maxRecDepth 20000 in
theorem ke_X10_isGood : Cond.selects RX10 yX10_isGood yX10_isGood ∈ TB := inPS (q := (yX10_isGood, 22)) (List.mem_append_right _ (List.mem_append_left _ (List.mem_of_getElem? (i := 2) rfl)))
set_option maxRecDepth 20000 in
theorem ke_X10_isIn : Cond.selects RX10 yX10_isIn yX10_isIn ∈ TB := inPS (q := (yX10_isIn, 22)) (List.mem_append_right _ (List.mem_append_left _ (List.mem_of_getElem? (i := 3) rfl)))
set_option maxRecDepth 20000 in
theorem ke_X10_isWord : Cond.selects RX10 yX10_isWord yX10_isWord ∈ TB := inPS (q := (yX10_isWord, 22)) (List.mem_append_right _ (List.mem_append_left _ (List.mem_of_getElem? (i := 4) rfl)))
set_option maxRecDepth 20000 in
theorem ke_X10_used : Cond.selects RX10 yX10_used yX10_used ∈ TB := inPS (q := (yX10_used, 22)) (List.mem_append_right _ (List.mem_append_left _ (List.mem_of_getElem? (i := 5) rfl)))
set_option maxRecDepth 20000 in
theorem ke_X10_baked : Cond.selects RX10 yX10_baked yX10_baked ∈ TB := inPS (q := (yX10_baked, 22)) (List.mem_append_right _ (List.mem_append_left _ (List.mem_of_getElem? (i := 6) rfl)))
set_option maxRecDepth 20000 in
theorem ke_X10_known : Cond.selects RX10 yX10_known yX10_known ∈ TB := inPS (q := (yX10_known, 22)) (List.mem_append_right _ (List.mem_append_left _ (List.mem_of_getElem? (i := 7) rfl)))
set_option maxRecDepth 20000 in
theorem ke_X10_ages : Cond.selects RX10 yX10_ages yX10_ages ∈ TB := inPS (q := (yX10_ages, 22)) (List.mem_append_right _ (List.mem_append_left _ (List.mem_of_getElem? (i := 8) rfl)))
set_option maxRecDepth 20000 in
theorem ke_X10_hasNow : Cond.selects RX10 yX10_hasNow yX10_hasNow ∈ TB := inPS (q := (yX10_hasNow, 22)) (List.mem_append_right _ (List.mem_append_left _ (List.mem_of_getElem? (i := 9) rfl)))
set_option maxRecDepth 20000 in
theorem ke_X10_become : Cond.selects RX10 yX10_become yX10_become ∈ TB := inPS (q := (yX10_become, 22)) (List.mem_append_right _ (List.mem_append_left _ (List.mem_of_getElem? (i := 10) rfl)))
set_option maxRecDepth 20000 in
theorem ke_X10_aged : Cond.selects RX10 yX10_aged yX10_aged ∈ TB := inPS (q := (yX10_aged, 22)) (List.mem_append_right _ (List.mem_append_left _ (List.mem_of_getElem? (i := 11) rfl)))
set_option maxRecDepth 20000 in
theorem ke_X10_read : Cond.selects RX10 yX10_read yX10_read ∈ TB := inPS (q := (yX10_read, 22)) (List.mem_append_right _ (List.mem_append_left _ (List.mem_of_getElem? (i := 12) rfl)))
set_option maxRecDepth 20000 in
theorem ke_X10_isLoaf : Cond.selects RX10 yX10_isLoaf yX10_isLoaf ∈ TB := inPS (q := (yX10_isLoaf, 22)) (List.mem_append_right _ (List.mem_append_left _ (List.mem_of_getElem? (i := 13) rfl)))
set_option maxRecDepth 20000 in
theorem ke_X10_isAble : Cond.selects RX10 yX10_isAble yX10_isAble ∈ TB := inPS (q := (yX10_isAble, 22)) (List.mem_append_right _ (List.mem_append_left _ (List.mem_of_getElem? (i := 14) rfl)))
set_option maxRecDepth 20000 in
theorem ke_X10_codes : Cond.selects RX10 yX10_codes yX10_codes ∈ TB := inPS (q := (yX10_codes, 22)) (List.mem_append_right _ (List.mem_append_left _ (List.mem_of_getElem? (i := 15) rfl)))
set_option maxRecDepth 20000 in
theorem ke_X10_isApart : Cond.selects RX10 yX10_isApart yX10_isApart ∈ TB := inPS (q := (yX10_isApart, 22)) (List.mem_append_right _ (List.mem_append_right _ (List.mem_of_getElem? (i := 0) rfl)))
set_option maxRecDepth 20000 in
theorem ke_X10_isCarrier : Cond.selects RX10 yX10_isCarrier yX10_isCarrier ∈ TB := inPS (q := (yX10_isCarrier, 22)) (List.mem_append_right _ (List.mem_append_right _ (List.mem_of_getElem? (i := 1) rfl)))
set_option maxRecDepth 20000 in
theorem ke_X10_reads : Cond.selects RX10 yX10_reads yX10_reads ∈ TB := inPS (q := (yX10_reads, 22)) (List.mem_append_right _ (List.mem_append_right _ (List.mem_of_getElem? (i := 2) rfl)))
set_option maxRecDepth 20000 in
theorem ke_X10_tens : Cond.selects RX10 yX10_tens yX10_tens ∈ TB := inPS (q := (yX10_tens, 22)) (List.mem_append_right _ (List.mem_append_right _ (List.mem_of_getElem? (i := 3) rfl)))
set_option maxRecDepth 20000 in
theorem ke_X10_lowest : Cond.selects RX10 yX10_lowest yX10_lowest ∈ TB := inPS (q := (yX10_lowest, 22)) (List.mem_append_right _ (List.mem_append_right _ (List.mem_of_getElem? (i := 4) rfl)))
set_option maxRecDepth 20000 in
theorem ke_X10_copies : Cond.selects RX10 yX10_copies yX10_copies ∈ TB := inPS (q := (yX10_copies, 22)) (List.mem_append_right _ (List.mem_append_right _ (List.mem_of_getElem? (i := 5) rfl)))
set_option maxRecDepth 20000 in
theorem kt_X0 : ∀ w ∈ u_ws RX0 TX0 5, w ∈ lw_tbl := by decide +kernel
set_option maxRecDepth 20000 in
theorem kg_X0 : ∀ w ∈ u_ws RX0 TX0 5, goodWord w = true := by decide +kernel
set_option maxRecDepth 20000 in
theorem kw_X0 : ∀ w ∈ u_ws RX0 TX0 5, w ∈ TB := fun w h => inTB (kt_X0 w h) (kg_X0 w h)
set_option maxRecDepth 20000 in
theorem kt_X1 : ∀ w ∈ u_ws RX1 TX1 1, w ∈ lw_tbl := by decide +kernel
set_option maxRecDepth 20000 in
theorem kg_X1 : ∀ w ∈ u_ws RX1 TX1 1, goodWord w = true := by decide +kernel
set_option maxRecDepth 20000 in
theorem kw_X1 : ∀ w ∈ u_ws RX1 TX1 1, w ∈ TB := fun w h => inTB (kt_X1 w h) (kg_X1 w h)
set_option maxRecDepth 20000 in
theorem kt_X3 : ∀ w ∈ u_ws RX3 TX3 2, w ∈ lw_tbl := by decide +kernel
set_option maxRecDepth 20000 in
theorem kg_X3 : ∀ w ∈ u_ws RX3 TX3 2, goodWord w = true := by decide +kernel
set_option maxRecDepth 20000 in
theorem kw_X3 : ∀ w ∈ u_ws RX3 TX3 2, w ∈ TB := fun w h => inTB (kt_X3 w h) (kg_X3 w h)
set_option maxRecDepth 20000 in
theorem kt_X4 : ∀ w ∈ u_ws RX4 TX4 2, w ∈ lw_tbl := by decide +kernel
set_option maxRecDepth 20000 in
theorem kg_X4 : ∀ w ∈ u_ws RX4 TX4 2, goodWord w = true := by decide +kernel
set_option maxRecDepth 20000 in
theorem kw_X4 : ∀ w ∈ u_ws RX4 TX4 2, w ∈ TB := fun w h => inTB (kt_X4 w h) (kg_X4 w h)
set_option maxRecDepth 20000 in
theorem kt_X5 : ∀ w ∈ u_ws RX5 TX5 3, w ∈ lw_tbl := by decide +kernel
set_option maxRecDepth 20000 in
theorem kg_X5 : ∀ w ∈ u_ws RX5 TX5 3, goodWord w = true := by decide +kernel
set_option maxRecDepth 20000 in
theorem kw_X5 : ∀ w ∈ u_ws RX5 TX5 3, w ∈ TB := fun w h => inTB (kt_X5 w h) (kg_X5 w h)
set_option maxRecDepth 20000 in
theorem kt_X7 : ∀ w ∈ u_ws RX7 TX7 2, w ∈ lw_tbl := by decide +kernel
set_option maxRecDepth 20000 in
theorem kg_X7 : ∀ w ∈ u_ws RX7 TX7 2, goodWord w = true := by decide +kernel
set_option maxRecDepth 20000 in
theorem kw_X7 : ∀ w ∈ u_ws RX7 TX7 2, w ∈ TB := fun w h => inTB (kt_X7 w h) (kg_X7 w h)
set_option maxRecDepth 20000 in
theorem kt_X8 : ∀ w ∈ u_ws RX8 TX8 10, w ∈ lw_tbl := by decide +kernel
set_option maxRecDepth 20000 in
theorem kg_X8 : ∀ w ∈ u_ws RX8 TX8 10, goodWord w = true := by decide +kernel
set_option maxRecDepth 20000 in
theorem kw_X8 : ∀ w ∈ u_ws RX8 TX8 10, w ∈ TB := fun w h => inTB (kt_X8 w h) (kg_X8 w h)
set_option maxRecDepth 20000 in
theorem kt_X9 : ∀ w ∈ u_ws RX9 TX9 9, w ∈ lw_tbl := by decide +kernel
set_option maxRecDepth 20000 in
theorem kg_X9 : ∀ w ∈ u_ws RX9 TX9 9, goodWord w = true := by decide +kernel
set_option maxRecDepth 20000 in
theorem kw_X9 : ∀ w ∈ u_ws RX9 TX9 9, w ∈ TB := fun w h => inTB (kt_X9 w h) (kg_X9 w h)
set_option maxRecDepth 20000 in
theorem kt_X10 : ∀ w ∈ u_ws RX10 TX10 22, w ∈ lw_tbl := by decide +kernel
set_option maxRecDepth 20000 in
theorem kg_X10 : ∀ w ∈ u_ws RX10 TX10 22, goodWord w = true := by decide +kernel
set_option maxRecDepth 20000 in
theorem kw_X10 : ∀ w ∈ u_ws RX10 TX10 22, w ∈ TB := fun w h => inTB (kt_X10 w h) (kg_X10 w h)
/-- links between nest mates -/
def NL : List (String × Nat × MethodName × String) := [(RX9, 9, yX7_init, RX9), (RX9, 18, yX4_init, RX9), (RX9, 25, yX1_init, RX9), (RX9, 44, yX3_init, RX9), (RX8, 43, yX9_within, RX9), (RX8, 57, yX9_at, RX9), (RX4, 64, yX9_within, RX9), (RX1, 17, yX9_within, RX9), (RX1, 27, yX9_at, RX9), (RX3, 18, yX9_isSign, RX9), (RX0, 42, yX9_at, RX9)]
set_option maxRecDepth 20000 in
theorem kx_X9_9 : (RX9, 9, yX7_init, RX9) ∈ NL := List.mem_of_getElem? (i := 0) rfl
set_option maxRecDepth 20000 in
theorem kx_X9_18 : (RX9, 18, yX4_init, RX9) ∈ NL := List.mem_of_getElem? (i := 1) rfl
set_option maxRecDepth 20000 in
theorem kx_X9_25 : (RX9, 25, yX1_init, RX9) ∈ NL := List.mem_of_getElem? (i := 2) rfl
set_option maxRecDepth 20000 in
theorem kx_X9_44 : (RX9, 44, yX3_init, RX9) ∈ NL := List.mem_of_getElem? (i := 3) rfl
set_option maxRecDepth 20000 in
theorem kx_X8_43 : (RX8, 43, yX9_within, RX9) ∈ NL := List.mem_of_getElem? (i := 4) rfl
set_option maxRecDepth 20000 in
theorem kx_X8_57 : (RX8, 57, yX9_at, RX9) ∈ NL := List.mem_of_getElem? (i := 5) rfl
set_option maxRecDepth 20000 in
theorem kx_X4_64 : (RX4, 64, yX9_within, RX9) ∈ NL := List.mem_of_getElem? (i := 6) rfl
set_option maxRecDepth 20000 in
theorem kx_X1_17 : (RX1, 17, yX9_within, RX9) ∈ NL := List.mem_of_getElem? (i := 7) rfl
set_option maxRecDepth 20000 in
theorem kx_X1_27 : (RX1, 27, yX9_at, RX9) ∈ NL := List.mem_of_getElem? (i := 8) rfl
set_option maxRecDepth 20000 in
theorem kx_X3_18 : (RX3, 18, yX9_isSign, RX9) ∈ NL := List.mem_of_getElem? (i := 9) rfl
set_option maxRecDepth 20000 in
theorem kx_X0_42 : (RX0, 42, yX9_at, RX9) ∈ NL := List.mem_of_getElem? (i := 10) rfl
set_option maxRecDepth 20000 in
theorem NL_tbl : ∀ q ∈ NL, Cond.methodLinkNest q.1 q.2.1 q.2.2.1 q.2.2.2 ∈ lw_tbl := by decide +kernel
