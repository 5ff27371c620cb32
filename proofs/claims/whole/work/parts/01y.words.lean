set_option maxRecDepth 100000 in
theorem fl_J0_9 : Cond.fieldLink RJ0 9 "java/lang/String" "value" "[B" ∈ gw := gw_8 (i := 173) rfl rfl
set_option maxRecDepth 100000 in
theorem fl_J0_15 : Cond.fieldLink RJ0 15 "java/lang/String" "coder" "B" ∈ gw := gw_8 (i := 174) rfl rfl
set_option maxRecDepth 100000 in
theorem fl_J0_38 : Cond.fieldLink RJ0 38 "java/lang/String" "COMPACT_STRINGS" "Z" ∈ gw := gw_3 (i := 100) rfl rfl
set_option maxRecDepth 100000 in
theorem fl_J0_1053 : Cond.fieldLink RJ0 1053 "jdk/internal/util/Preconditions" "SIOOBE_FORMATTER" "Ljava/util/function/BiFunction;" ∈ gw := gw_3 (i := 115) rfl rfl
set_option maxRecDepth 100000 in
theorem fl_J2_44 : Cond.fieldLink RJ2 44 "java/lang/StringUTF16" "$assertionsDisabled" "Z" ∈ gw := gw_3 (i := 133) rfl rfl
set_option maxRecDepth 100000 in
theorem fl_J2_59 : Cond.fieldLink RJ2 59 "java/lang/StringUTF16" "HI_BYTE_SHIFT" "I" ∈ gw := gw_3 (i := 135) rfl rfl
set_option maxRecDepth 100000 in
theorem fl_J2_63 : Cond.fieldLink RJ2 63 "java/lang/StringUTF16" "LO_BYTE_SHIFT" "I" ∈ gw := gw_3 (i := 137) rfl rfl
set_option maxRecDepth 100000 in
theorem fl_J2_403 : Cond.fieldLink RJ2 403 "java/lang/Integer" "DigitOnes" "[B" ∈ gw := gw_5 (i := 133) rfl rfl
set_option maxRecDepth 100000 in
theorem fl_J2_407 : Cond.fieldLink RJ2 407 "java/lang/Integer" "DigitTens" "[B" ∈ gw := gw_5 (i := 134) rfl rfl
set_option maxRecDepth 100000 in
theorem fl_J5_15 : Cond.fieldLink RJ5 15 "java/lang/AbstractStringBuilder" "value" "[B" ∈ gw := gw_2 (i := 197) rfl rfl
set_option maxRecDepth 100000 in
theorem fl_J5_18 : Cond.fieldLink RJ5 18 "java/lang/String" "COMPACT_STRINGS" "Z" ∈ gw := gw_2 (i := 188) rfl rfl
set_option maxRecDepth 100000 in
theorem fl_J5_22 : Cond.fieldLink RJ5 22 "java/lang/AbstractStringBuilder" "coder" "B" ∈ gw := gw_2 (i := 198) rfl rfl
set_option maxRecDepth 100000 in
theorem fl_J5_73 : Cond.fieldLink RJ5 73 "java/lang/AbstractStringBuilder" "maybeLatin1" "Z" ∈ gw := gw_2 (i := 199) rfl rfl
set_option maxRecDepth 100000 in
theorem fl_J5_79 : Cond.fieldLink RJ5 79 "java/lang/AbstractStringBuilder" "count" "I" ∈ gw := gw_2 (i := 200) rfl rfl
set_option maxRecDepth 100000 in
theorem fl_J6_83 : Cond.fieldLink RJ6 83 "java/lang/Integer" "DigitOnes" "[B" ∈ gw := gw_5 (i := 123) rfl rfl
set_option maxRecDepth 100000 in
theorem fl_J6_87 : Cond.fieldLink RJ6 87 "java/lang/Integer" "DigitTens" "[B" ∈ gw := gw_5 (i := 125) rfl rfl
set_option maxRecDepth 100000 in
theorem fl_X0_9 : Cond.fieldLink RX0 9 "TwoProcessors$Instruction" "op" "I" ∈ gw := gw_1 (i := 57) rfl rfl
set_option maxRecDepth 100000 in
theorem fl_X0_15 : Cond.fieldLink RX0 15 "TwoProcessors$Instruction" "relation" "C" ∈ gw := gw_1 (i := 81) rfl rfl
set_option maxRecDepth 100000 in
theorem fl_X0_19 : Cond.fieldLink RX0 19 "TwoProcessors$Instruction" "\x72" "I" ∈ gw := gw_1 (i := 61) rfl rfl
set_option maxRecDepth 100000 in
theorem fl_X0_22 : Cond.fieldLink RX0 22 "TwoProcessors$Instruction" "s" "I" ∈ gw := gw_1 (i := 66) rfl rfl
set_option maxRecDepth 100000 in
theorem fl_X0_25 : Cond.fieldLink RX0 25 "TwoProcessors$Instruction" "t" "I" ∈ gw := gw_1 (i := 71) rfl rfl
set_option maxRecDepth 100000 in
theorem fl_X0_28 : Cond.fieldLink RX0 28 "TwoProcessors$Instruction" "n" "I" ∈ gw := gw_1 (i := 76) rfl rfl
set_option maxRecDepth 100000 in
theorem fl_X1_12 : Cond.fieldLink RX1 12 "TwoProcessors$Machine" "program" "LTwoProcessors$Program;" ∈ gw := gw_2 (i := 7) rfl rfl
set_option maxRecDepth 100000 in
theorem fl_X1_18 : Cond.fieldLink RX1 18 "TwoProcessors$Machine" "registers" "[I" ∈ gw := gw_2 (i := 9) rfl rfl
set_option maxRecDepth 100000 in
theorem fl_X1_22 : Cond.fieldLink RX1 22 "TwoProcessors$Machine" "cells" "[I" ∈ gw := gw_2 (i := 11) rfl rfl
set_option maxRecDepth 100000 in
theorem fl_X1_27 : Cond.fieldLink RX1 27 "TwoProcessors$Machine" "queues" "[LTwoProcessors$Queue;" ∈ gw := gw_2 (i := 13) rfl rfl
set_option maxRecDepth 100000 in
theorem fl_X1_33 : Cond.fieldLink RX1 33 "TwoProcessors$Machine" "sides" "[LTwoProcessors$Side;" ∈ gw := gw_2 (i := 15) rfl rfl
set_option maxRecDepth 100000 in
theorem fl_X1_44 : Cond.fieldLink RX1 44 "TwoProcessors$Program" "registers" "[I" ∈ gw := gw_1 (i := 133) rfl rfl
set_option maxRecDepth 100000 in
theorem fl_X1_51 : Cond.fieldLink RX1 51 "TwoProcessors$Program" "cells" "[I" ∈ gw := gw_1 (i := 129) rfl rfl
set_option maxRecDepth 100000 in
theorem fl_X1_52 : Cond.fieldLink RX1 52 "TwoProcessors$Program" "rooms" "[I" ∈ gw := gw_1 (i := 125) rfl rfl
set_option maxRecDepth 100000 in
theorem fl_X1_59 : Cond.fieldLink RX1 59 "TwoProcessors$Machine" "now" "I" ∈ gw := gw_2 (i := 17) rfl rfl
set_option maxRecDepth 100000 in
theorem fl_X1_63 : Cond.fieldLink RX1 63 "TwoProcessors$Machine" "outcome" "I" ∈ gw := gw_2 (i := 19) rfl rfl
set_option maxRecDepth 100000 in
theorem fl_X1_66 : Cond.fieldLink RX1 66 "TwoProcessors$Program" "late" "I" ∈ gw := gw_1 (i := 116) rfl rfl
set_option maxRecDepth 100000 in
theorem fl_X1_69 : Cond.fieldLink RX1 69 "TwoProcessors$Machine" "late" "I" ∈ gw := gw_2 (i := 21) rfl rfl
set_option maxRecDepth 100000 in
theorem fl_X1_70 : Cond.fieldLink RX1 70 "TwoProcessors$Machine" "greatestSlip" "I" ∈ gw := gw_2 (i := 23) rfl rfl
set_option maxRecDepth 100000 in
theorem fl_X1_73 : Cond.fieldLink RX1 73 "TwoProcessors$Machine" "leastSlip" "I" ∈ gw := gw_2 (i := 24) rfl rfl
set_option maxRecDepth 100000 in
theorem fl_X1_76 : Cond.fieldLink RX1 76 "TwoProcessors$Machine" "slipTogether" "I" ∈ gw := gw_2 (i := 25) rfl rfl
set_option maxRecDepth 100000 in
theorem fl_X1_79 : Cond.fieldLink RX1 79 "TwoProcessors$Machine" "lost" "I" ∈ gw := gw_2 (i := 26) rfl rfl
set_option maxRecDepth 100000 in
theorem fl_X1_82 : Cond.fieldLink RX1 82 "TwoProcessors$Machine" "written" "I" ∈ gw := gw_2 (i := 27) rfl rfl
set_option maxRecDepth 100000 in
theorem fl_X1_85 : Cond.fieldLink RX1 85 "TwoProcessors$Machine" "fetchBegan" "I" ∈ gw := gw_2 (i := 28) rfl rfl
set_option maxRecDepth 100000 in
theorem fl_X1_88 : Cond.fieldLink RX1 88 "TwoProcessors$Machine" "fetched" "I" ∈ gw := gw_2 (i := 29) rfl rfl
set_option maxRecDepth 100000 in
theorem fl_X1_107 : Cond.fieldLink RX1 107 "TwoProcessors$Queue" "room" "I" ∈ gw := gw_1 (i := 180) rfl rfl
set_option maxRecDepth 100000 in
theorem fl_X1_113 : Cond.fieldLink RX1 113 "TwoProcessors$Machine" "stirred" "Z" ∈ gw := gw_2 (i := 30) rfl rfl
set_option maxRecDepth 100000 in
theorem fl_X1_136 : Cond.fieldLink RX1 136 "TwoProcessors$Side" "passed" "I" ∈ gw := gw_1 (i := 204) rfl rfl
set_option maxRecDepth 100000 in
theorem fl_X1_139 : Cond.fieldLink RX1 139 "TwoProcessors$Side" "ended" "Z" ∈ gw := gw_1 (i := 206) rfl rfl
set_option maxRecDepth 100000 in
theorem fl_X1_142 : Cond.fieldLink RX1 142 "TwoProcessors$Queue" "size" "I" ∈ gw := gw_1 (i := 177) rfl rfl
set_option maxRecDepth 100000 in
theorem fl_X1_166 : Cond.fieldLink RX1 166 "TwoProcessors$Program" "rows" "[LTwoProcessors$Instruction;" ∈ gw := gw_1 (i := 109) rfl rfl
set_option maxRecDepth 100000 in
theorem fl_X1_170 : Cond.fieldLink RX1 170 "TwoProcessors$Side" "at" "I" ∈ gw := gw_1 (i := 200) rfl rfl
set_option maxRecDepth 100000 in
theorem fl_X1_204 : Cond.fieldLink RX1 204 "TwoProcessors$Side" "next" "I" ∈ gw := gw_1 (i := 202) rfl rfl
set_option maxRecDepth 100000 in
theorem fl_X1_214 : Cond.fieldLink RX1 214 "TwoProcessors$Instruction" "\x72" "I" ∈ gw := gw_1 (i := 65) rfl rfl
set_option maxRecDepth 100000 in
theorem fl_X1_217 : Cond.fieldLink RX1 217 "TwoProcessors$Instruction" "s" "I" ∈ gw := gw_1 (i := 70) rfl rfl
set_option maxRecDepth 100000 in
theorem fl_X1_220 : Cond.fieldLink RX1 220 "TwoProcessors$Instruction" "t" "I" ∈ gw := gw_1 (i := 75) rfl rfl
set_option maxRecDepth 100000 in
theorem fl_X1_227 : Cond.fieldLink RX1 227 "TwoProcessors$Instruction" "n" "I" ∈ gw := gw_1 (i := 79) rfl rfl
set_option maxRecDepth 100000 in
theorem fl_X1_244 : Cond.fieldLink RX1 244 "TwoProcessors$Program" "aims" "I" ∈ gw := gw_1 (i := 122) rfl rfl
set_option maxRecDepth 100000 in
theorem fl_X1_253 : Cond.fieldLink RX1 253 "TwoProcessors$Program" "size" "I" ∈ gw := gw_1 (i := 114) rfl rfl
set_option maxRecDepth 100000 in
theorem fl_X10_7 : Cond.fieldLink RX10 7 "TwoProcessorsModel" "all" "[I" ∈ gw := gw_6 (i := 113) rfl rfl
set_option maxRecDepth 100000 in
theorem fl_X10_13 : Cond.fieldLink RX10 13 "TwoProcessorsModel" "tape" "[I" ∈ gw := gw_6 (i := 114) rfl rfl
set_option maxRecDepth 100000 in
theorem fl_X10_16 : Cond.fieldLink RX10 16 "TwoProcessorsModel" "isImage" "[Z" ∈ gw := gw_6 (i := 115) rfl rfl
set_option maxRecDepth 100000 in
theorem fl_X10_20 : Cond.fieldLink RX10 20 "TwoProcessorsModel" "faultPlace" "I" ∈ gw := gw_6 (i := 118) rfl rfl
set_option maxRecDepth 100000 in
theorem fl_X10_24 : Cond.fieldLink RX10 24 "TwoProcessorsModel" "line" "[I" ∈ gw := gw_6 (i := 121) rfl rfl
set_option maxRecDepth 100000 in
theorem fl_X10_27 : Cond.fieldLink RX10 27 "TwoProcessorsModel" "name" "[J" ∈ gw := gw_6 (i := 130) rfl rfl
set_option maxRecDepth 100000 in
theorem fl_X10_31 : Cond.fieldLink RX10 31 "TwoProcessorsModel" "wanted" "[J" ∈ gw := gw_6 (i := 131) rfl rfl
set_option maxRecDepth 100000 in
theorem fl_X10_34 : Cond.fieldLink RX10 34 "TwoProcessorsModel" "ofName" "[I" ∈ gw := gw_6 (i := 132) rfl rfl
set_option maxRecDepth 100000 in
theorem fl_X10_37 : Cond.fieldLink RX10 37 "TwoProcessorsModel" "byWhom" "[I" ∈ gw := gw_6 (i := 133) rfl rfl
set_option maxRecDepth 100000 in
theorem fl_X10_40 : Cond.fieldLink RX10 40 "TwoProcessorsModel" "toldAt" "[I" ∈ gw := gw_6 (i := 134) rfl rfl
set_option maxRecDepth 100000 in
theorem fl_X10_174 : Cond.fieldLink RX10 174 "TwoProcessorsModel" "taped" "I" ∈ gw := gw_6 (i := 116) rfl rfl
set_option maxRecDepth 100000 in
theorem fl_X10_205 : Cond.fieldLink RX10 205 "TwoProcessorsModel" "place" "I" ∈ gw := gw_6 (i := 120) rfl rfl
set_option maxRecDepth 100000 in
theorem fl_X10_208 : Cond.fieldLink RX10 208 "TwoProcessorsModel" "isOver" "Z" ∈ gw := gw_6 (i := 119) rfl rfl
set_option maxRecDepth 100000 in
theorem fl_X10_227 : Cond.fieldLink RX10 227 "TwoProcessorsModel" "faultKind" "I" ∈ gw := gw_6 (i := 117) rfl rfl
set_option maxRecDepth 100000 in
theorem fl_X10_236 : Cond.fieldLink RX10 236 "TwoProcessorsModel" "lined" "I" ∈ gw := gw_6 (i := 122) rfl rfl
set_option maxRecDepth 100000 in
theorem fl_X10_298 : Cond.fieldLink RX10 298 "TwoProcessorsModel" "size" "I" ∈ gw := gw_6 (i := 123) rfl rfl
set_option maxRecDepth 100000 in
theorem fl_X10_301 : Cond.fieldLink RX10 301 "TwoProcessorsModel" "at" "I" ∈ gw := gw_6 (i := 124) rfl rfl
set_option maxRecDepth 100000 in
theorem fl_X10_307 : Cond.fieldLink RX10 307 "TwoProcessorsModel" "where" "I" ∈ gw := gw_6 (i := 126) rfl rfl
set_option maxRecDepth 100000 in
theorem fl_X10_310 : Cond.fieldLink RX10 310 "TwoProcessorsModel" "value" "J" ∈ gw := gw_6 (i := 129) rfl rfl
set_option maxRecDepth 100000 in
theorem fl_X10_314 : Cond.fieldLink RX10 314 "TwoProcessorsModel" "sort" "I" ∈ gw := gw_6 (i := 125) rfl rfl
set_option maxRecDepth 100000 in
theorem fl_X10_327 : Cond.fieldLink RX10 327 "TwoProcessorsModel" "wrongKind" "I" ∈ gw := gw_6 (i := 128) rfl rfl
set_option maxRecDepth 100000 in
theorem fl_X10_330 : Cond.fieldLink RX10 330 "TwoProcessorsModel" "wrongPlace" "I" ∈ gw := gw_6 (i := 127) rfl rfl
set_option maxRecDepth 100000 in
theorem fl_X10_391 : Cond.fieldLink RX10 391 "TwoProcessorsModel" "names" "I" ∈ gw := gw_6 (i := 135) rfl rfl
set_option maxRecDepth 100000 in
theorem fl_X10_404 : Cond.fieldLink RX10 404 "TwoProcessorsModel" "jumps" "I" ∈ gw := gw_6 (i := 136) rfl rfl
set_option maxRecDepth 100000 in
theorem fl_X2_11 : Cond.fieldLink RX2 11 "TwoProcessors$Program" "rows" "[LTwoProcessors$Instruction;" ∈ gw := gw_1 (i := 106) rfl rfl
set_option maxRecDepth 100000 in
theorem fl_X2_17 : Cond.fieldLink RX2 17 "TwoProcessors$Program" "rooms" "[I" ∈ gw := gw_1 (i := 124) rfl rfl
set_option maxRecDepth 100000 in
theorem fl_X2_21 : Cond.fieldLink RX2 21 "TwoProcessors$Program" "cells" "[I" ∈ gw := gw_1 (i := 127) rfl rfl
set_option maxRecDepth 100000 in
theorem fl_X2_24 : Cond.fieldLink RX2 24 "TwoProcessors$Program" "registers" "[I" ∈ gw := gw_1 (i := 131) rfl rfl
set_option maxRecDepth 100000 in
theorem fl_X2_27 : Cond.fieldLink RX2 27 "TwoProcessors$Program" "kinds" "[I" ∈ gw := gw_1 (i := 135) rfl rfl
set_option maxRecDepth 100000 in
theorem fl_X2_30 : Cond.fieldLink RX2 30 "TwoProcessors$Program" "sent" "[I" ∈ gw := gw_1 (i := 136) rfl rfl
set_option maxRecDepth 100000 in
theorem fl_X2_33 : Cond.fieldLink RX2 33 "TwoProcessors$Program" "deedCounts" "[I" ∈ gw := gw_1 (i := 137) rfl rfl
set_option maxRecDepth 100000 in
theorem fl_X2_36 : Cond.fieldLink RX2 36 "TwoProcessors$Program" "reach" "[I" ∈ gw := gw_1 (i := 138) rfl rfl
set_option maxRecDepth 100000 in
theorem fl_X2_43 : Cond.fieldLink RX2 43 "TwoProcessors$Program" "size" "I" ∈ gw := gw_1 (i := 110) rfl rfl
set_option maxRecDepth 100000 in
theorem fl_X2_47 : Cond.fieldLink RX2 47 "TwoProcessors$Program" "late" "I" ∈ gw := gw_1 (i := 115) rfl rfl
set_option maxRecDepth 100000 in
theorem fl_X2_50 : Cond.fieldLink RX2 50 "TwoProcessors$Program" "kept" "I" ∈ gw := gw_1 (i := 118) rfl rfl
set_option maxRecDepth 100000 in
theorem fl_X2_59 : Cond.fieldLink RX2 59 "TwoProcessors$Instruction" "op" "I" ∈ gw := gw_1 (i := 58) rfl rfl
set_option maxRecDepth 100000 in
theorem fl_X2_66 : Cond.fieldLink RX2 66 "TwoProcessors$Program" "aims" "I" ∈ gw := gw_1 (i := 121) rfl rfl
set_option maxRecDepth 100000 in
theorem fl_X2_82 : Cond.fieldLink RX2 82 "TwoProcessors$Instruction" "s" "I" ∈ gw := gw_1 (i := 68) rfl rfl
set_option maxRecDepth 100000 in
theorem fl_X2_93 : Cond.fieldLink RX2 93 "TwoProcessors$Instruction" "\x72" "I" ∈ gw := gw_1 (i := 63) rfl rfl
set_option maxRecDepth 100000 in
theorem fl_X2_100 : Cond.fieldLink RX2 100 "TwoProcessors$Instruction" "t" "I" ∈ gw := gw_1 (i := 73) rfl rfl
set_option maxRecDepth 100000 in
theorem fl_X2_152 : Cond.fieldLink RX2 152 "TwoProcessors$Instruction" "n" "I" ∈ gw := gw_1 (i := 80) rfl rfl
set_option maxRecDepth 100000 in
theorem fl_X2_158 : Cond.fieldLink RX2 158 "TwoProcessors$Instruction" "relation" "C" ∈ gw := gw_1 (i := 83) rfl rfl
set_option maxRecDepth 100000 in
theorem fl_X3_9 : Cond.fieldLink RX3 9 "TwoProcessors$Queue" "held" "[I" ∈ gw := gw_1 (i := 173) rfl rfl
set_option maxRecDepth 100000 in
theorem fl_X3_15 : Cond.fieldLink RX3 15 "TwoProcessors$Queue" "marks" "[I" ∈ gw := gw_1 (i := 174) rfl rfl
set_option maxRecDepth 100000 in
theorem fl_X3_18 : Cond.fieldLink RX3 18 "TwoProcessors$Queue" "first" "I" ∈ gw := gw_1 (i := 175) rfl rfl
set_option maxRecDepth 100000 in
theorem fl_X3_22 : Cond.fieldLink RX3 22 "TwoProcessors$Queue" "size" "I" ∈ gw := gw_1 (i := 176) rfl rfl
set_option maxRecDepth 100000 in
theorem fl_X3_25 : Cond.fieldLink RX3 25 "TwoProcessors$Queue" "room" "I" ∈ gw := gw_1 (i := 179) rfl rfl
set_option maxRecDepth 100000 in
theorem fl_X4_14 : Cond.fieldLink RX4 14 "TwoProcessors$Reader" "draft" "LTwoProcessors$Program;" ∈ gw := gw_2 (i := 126) rfl rfl
set_option maxRecDepth 100000 in
theorem fl_X4_21 : Cond.fieldLink RX4 21 "TwoProcessors$Reader" "tokens" "LTwoProcessors$Tokens;" ∈ gw := gw_2 (i := 132) rfl rfl
set_option maxRecDepth 100000 in
theorem fl_X4_25 : Cond.fieldLink RX4 25 "TwoProcessors$Reader" "names" "[I" ∈ gw := gw_2 (i := 135) rfl rfl
set_option maxRecDepth 100000 in
theorem fl_X4_29 : Cond.fieldLink RX4 29 "TwoProcessors$Reader" "aims" "[I" ∈ gw := gw_2 (i := 136) rfl rfl
set_option maxRecDepth 100000 in
theorem fl_X4_36 : Cond.fieldLink RX4 36 "TwoProcessors$Reader" "next" "I" ∈ gw := gw_2 (i := 133) rfl rfl
set_option maxRecDepth 100000 in
theorem fl_X4_40 : Cond.fieldLink RX4 40 "TwoProcessors$Reader" "rowCount" "I" ∈ gw := gw_2 (i := 134) rfl rfl
set_option maxRecDepth 100000 in
theorem fl_X4_43 : Cond.fieldLink RX4 43 "TwoProcessors$Reader" "fault" "I" ∈ gw := gw_2 (i := 128) rfl rfl
set_option maxRecDepth 100000 in
theorem fl_X4_46 : Cond.fieldLink RX4 46 "TwoProcessors$Reader" "faultPlace" "I" ∈ gw := gw_2 (i := 130) rfl rfl
set_option maxRecDepth 100000 in
theorem fl_X4_78 : Cond.fieldLink RX4 78 "TwoProcessors$Program" "size" "I" ∈ gw := gw_1 (i := 111) rfl rfl
set_option maxRecDepth 100000 in
theorem fl_X4_81 : Cond.fieldLink RX4 81 "TwoProcessors$Program" "rows" "[LTwoProcessors$Instruction;" ∈ gw := gw_1 (i := 107) rfl rfl
set_option maxRecDepth 100000 in
theorem fl_X4_85 : Cond.fieldLink RX4 85 "TwoProcessors$Instruction" "op" "I" ∈ gw := gw_1 (i := 59) rfl rfl
set_option maxRecDepth 100000 in
theorem fl_X4_90 : Cond.fieldLink RX4 90 "TwoProcessors$Tokens" "values" "[I" ∈ gw := gw_2 (i := 103) rfl rfl
set_option maxRecDepth 100000 in
theorem fl_X4_113 : Cond.fieldLink RX4 113 "TwoProcessors$Program" "late" "I" ∈ gw := gw_1 (i := 117) rfl rfl
set_option maxRecDepth 100000 in
theorem fl_X4_120 : Cond.fieldLink RX4 120 "TwoProcessors$Program" "rooms" "[I" ∈ gw := gw_1 (i := 126) rfl rfl
set_option maxRecDepth 100000 in
theorem fl_X4_123 : Cond.fieldLink RX4 123 "TwoProcessors$Program" "cells" "[I" ∈ gw := gw_1 (i := 130) rfl rfl
set_option maxRecDepth 100000 in
theorem fl_X4_126 : Cond.fieldLink RX4 126 "TwoProcessors$Program" "registers" "[I" ∈ gw := gw_1 (i := 134) rfl rfl
set_option maxRecDepth 100000 in
theorem fl_X4_129 : Cond.fieldLink RX4 129 "TwoProcessors$Program" "kept" "I" ∈ gw := gw_1 (i := 119) rfl rfl
set_option maxRecDepth 100000 in
theorem fl_X4_149 : Cond.fieldLink RX4 149 "TwoProcessors$Instruction" "\x72" "I" ∈ gw := gw_1 (i := 64) rfl rfl
set_option maxRecDepth 100000 in
theorem fl_X4_152 : Cond.fieldLink RX4 152 "TwoProcessors$Instruction" "n" "I" ∈ gw := gw_1 (i := 78) rfl rfl
set_option maxRecDepth 100000 in
theorem fl_X4_155 : Cond.fieldLink RX4 155 "TwoProcessors$Instruction" "s" "I" ∈ gw := gw_1 (i := 69) rfl rfl
set_option maxRecDepth 100000 in
theorem fl_X4_158 : Cond.fieldLink RX4 158 "TwoProcessors$Instruction" "t" "I" ∈ gw := gw_1 (i := 74) rfl rfl
set_option maxRecDepth 100000 in
theorem fl_X4_168 : Cond.fieldLink RX4 168 "TwoProcessors$Instruction" "relation" "C" ∈ gw := gw_1 (i := 82) rfl rfl
set_option maxRecDepth 100000 in
theorem fl_X4_179 : Cond.fieldLink RX4 179 "TwoProcessors$Tokens" "kinds" "[I" ∈ gw := gw_2 (i := 101) rfl rfl
set_option maxRecDepth 100000 in
theorem fl_X4_182 : Cond.fieldLink RX4 182 "TwoProcessors$Tokens" "places" "[I" ∈ gw := gw_2 (i := 105) rfl rfl
set_option maxRecDepth 100000 in
theorem fl_X5_9 : Cond.fieldLink RX5 9 "TwoProcessors$Side" "waits" "[I" ∈ gw := gw_1 (i := 209) rfl rfl
set_option maxRecDepth 100000 in
theorem fl_X5_15 : Cond.fieldLink RX5 15 "TwoProcessors$Side" "timesDone" "[I" ∈ gw := gw_1 (i := 210) rfl rfl
set_option maxRecDepth 100000 in
theorem fl_X5_18 : Cond.fieldLink RX5 18 "TwoProcessors$Side" "number" "I" ∈ gw := gw_1 (i := 198) rfl rfl
set_option maxRecDepth 100000 in
theorem fl_X5_22 : Cond.fieldLink RX5 22 "TwoProcessors$Side" "at" "I" ∈ gw := gw_1 (i := 199) rfl rfl
set_option maxRecDepth 100000 in
theorem fl_X5_25 : Cond.fieldLink RX5 25 "TwoProcessors$Side" "next" "I" ∈ gw := gw_1 (i := 201) rfl rfl
set_option maxRecDepth 100000 in
theorem fl_X5_28 : Cond.fieldLink RX5 28 "TwoProcessors$Side" "passed" "I" ∈ gw := gw_1 (i := 203) rfl rfl
set_option maxRecDepth 100000 in
theorem fl_X5_31 : Cond.fieldLink RX5 31 "TwoProcessors$Side" "ended" "Z" ∈ gw := gw_1 (i := 205) rfl rfl
set_option maxRecDepth 100000 in
theorem fl_X5_35 : Cond.fieldLink RX5 35 "TwoProcessors$Side" "deedsDone" "I" ∈ gw := gw_1 (i := 207) rfl rfl
set_option maxRecDepth 100000 in
theorem fl_X5_38 : Cond.fieldLink RX5 38 "TwoProcessors$Side" "reason" "I" ∈ gw := gw_1 (i := 208) rfl rfl
set_option maxRecDepth 100000 in
theorem fl_X5_53 : Cond.fieldLink RX5 53 "TwoProcessors$Program" "size" "I" ∈ gw := gw_1 (i := 112) rfl rfl
set_option maxRecDepth 100000 in
theorem fl_X6_9 : Cond.fieldLink RX6 9 "TwoProcessors$Single" "registers" "[I" ∈ gw := gw_2 (i := 162) rfl rfl
set_option maxRecDepth 100000 in
theorem fl_X6_15 : Cond.fieldLink RX6 15 "TwoProcessors$Single" "cells" "[I" ∈ gw := gw_2 (i := 163) rfl rfl
set_option maxRecDepth 100000 in
theorem fl_X6_18 : Cond.fieldLink RX6 18 "TwoProcessors$Program" "registers" "[I" ∈ gw := gw_1 (i := 132) rfl rfl
set_option maxRecDepth 100000 in
theorem fl_X6_27 : Cond.fieldLink RX6 27 "TwoProcessors$Program" "cells" "[I" ∈ gw := gw_1 (i := 128) rfl rfl
set_option maxRecDepth 100000 in
theorem fl_X6_28 : Cond.fieldLink RX6 28 "TwoProcessors$Single" "at" "I" ∈ gw := gw_2 (i := 164) rfl rfl
set_option maxRecDepth 100000 in
theorem fl_X6_32 : Cond.fieldLink RX6 32 "TwoProcessors$Single" "steps" "I" ∈ gw := gw_2 (i := 165) rfl rfl
set_option maxRecDepth 100000 in
theorem fl_X6_35 : Cond.fieldLink RX6 35 "TwoProcessors$Single" "ended" "Z" ∈ gw := gw_2 (i := 166) rfl rfl
set_option maxRecDepth 100000 in
theorem fl_X6_39 : Cond.fieldLink RX6 39 "TwoProcessors$Program" "rows" "[LTwoProcessors$Instruction;" ∈ gw := gw_1 (i := 108) rfl rfl
set_option maxRecDepth 100000 in
theorem fl_X6_43 : Cond.fieldLink RX6 43 "TwoProcessors$Instruction" "op" "I" ∈ gw := gw_1 (i := 60) rfl rfl
set_option maxRecDepth 100000 in
theorem fl_X6_48 : Cond.fieldLink RX6 48 "TwoProcessors$Instruction" "\x72" "I" ∈ gw := gw_1 (i := 62) rfl rfl
set_option maxRecDepth 100000 in
theorem fl_X6_51 : Cond.fieldLink RX6 51 "TwoProcessors$Instruction" "n" "I" ∈ gw := gw_1 (i := 77) rfl rfl
set_option maxRecDepth 100000 in
theorem fl_X6_58 : Cond.fieldLink RX6 58 "TwoProcessors$Instruction" "s" "I" ∈ gw := gw_1 (i := 67) rfl rfl
set_option maxRecDepth 100000 in
theorem fl_X6_61 : Cond.fieldLink RX6 61 "TwoProcessors$Instruction" "t" "I" ∈ gw := gw_1 (i := 72) rfl rfl
set_option maxRecDepth 100000 in
theorem fl_X7_9 : Cond.fieldLink RX7 9 "TwoProcessors$Tokens" "kinds" "[I" ∈ gw := gw_2 (i := 100) rfl rfl
set_option maxRecDepth 100000 in
theorem fl_X7_15 : Cond.fieldLink RX7 15 "TwoProcessors$Tokens" "values" "[I" ∈ gw := gw_2 (i := 102) rfl rfl
set_option maxRecDepth 100000 in
theorem fl_X7_18 : Cond.fieldLink RX7 18 "TwoProcessors$Tokens" "places" "[I" ∈ gw := gw_2 (i := 104) rfl rfl
set_option maxRecDepth 100000 in
theorem fl_X7_21 : Cond.fieldLink RX7 21 "TwoProcessors$Tokens" "ends" "[I" ∈ gw := gw_2 (i := 106) rfl rfl
set_option maxRecDepth 100000 in
theorem fl_X7_24 : Cond.fieldLink RX7 24 "TwoProcessors$Tokens" "tape" "[B" ∈ gw := gw_2 (i := 108) rfl rfl
set_option maxRecDepth 100000 in
theorem fl_X7_37 : Cond.fieldLink RX7 37 "TwoProcessors$Tokens" "length" "I" ∈ gw := gw_2 (i := 109) rfl rfl
set_option maxRecDepth 100000 in
theorem fl_X7_41 : Cond.fieldLink RX7 41 "TwoProcessors$Tokens" "count" "I" ∈ gw := gw_2 (i := 107) rfl rfl
set_option maxRecDepth 100000 in
theorem fl_X8_9 : Cond.fieldLink RX8 9 "TwoProcessors$Whole" "tape" "[B" ∈ gw := gw_2 (i := 64) rfl rfl
set_option maxRecDepth 100000 in
theorem fl_X8_15 : Cond.fieldLink RX8 15 "TwoProcessors$Whole" "faultPlace" "I" ∈ gw := gw_2 (i := 70) rfl rfl
set_option maxRecDepth 100000 in
theorem fl_X8_22 : Cond.fieldLink RX8 22 "TwoProcessors$Whole" "machine" "LTwoProcessors$Machine;" ∈ gw := gw_2 (i := 72) rfl rfl
set_option maxRecDepth 100000 in
theorem fl_X8_26 : Cond.fieldLink RX8 26 "TwoProcessors$Whole" "length" "I" ∈ gw := gw_2 (i := 67) rfl rfl
set_option maxRecDepth 100000 in
theorem fl_X8_35 : Cond.fieldLink RX8 35 "TwoProcessors$Whole" "fault" "I" ∈ gw := gw_2 (i := 68) rfl rfl
set_option maxRecDepth 100000 in
theorem fl_X9_12 : Cond.fieldLink RX9 12 "TwoProcessors" "whole" "LTwoProcessors$Whole;" ∈ gw := gw_3 (i := 14) rfl rfl
set_option maxRecDepth 100000 in
theorem fl_X9_16 : Cond.fieldLink RX9 16 "TwoProcessors" "images" "[LTwoProcessors$Whole;" ∈ gw := gw_3 (i := 15) rfl rfl
set_option maxRecDepth 100000 in
theorem fl_X9_20 : Cond.fieldLink RX9 20 "TwoProcessors" "imageTaken" "[Z" ∈ gw := gw_3 (i := 16) rfl rfl
set_option maxRecDepth 100000 in
theorem fl_X9_27 : Cond.fieldLink RX9 27 "TwoProcessors" "reader" "LTwoProcessors$Reader;" ∈ gw := gw_3 (i := 17) rfl rfl
set_option maxRecDepth 100000 in
theorem fl_X9_34 : Cond.fieldLink RX9 34 "TwoProcessors" "trial" "LTwoProcessors$Machine;" ∈ gw := gw_3 (i := 18) rfl rfl
set_option maxRecDepth 100000 in
theorem fl_X9_41 : Cond.fieldLink RX9 41 "TwoProcessors" "single" "LTwoProcessors$Single;" ∈ gw := gw_3 (i := 19) rfl rfl
set_option maxRecDepth 100000 in
theorem fl_X9_48 : Cond.fieldLink RX9 48 "TwoProcessors" "line" "Ljava/lang/StringBuilder;" ∈ gw := gw_3 (i := 20) rfl rfl
set_option maxRecDepth 100000 in
theorem fl_X9_52 : Cond.fieldLink RX9 52 "TwoProcessors$Whole" "machine" "LTwoProcessors$Machine;" ∈ gw := gw_2 (i := 73) rfl rfl
set_option maxRecDepth 100000 in
theorem fl_X9_55 : Cond.fieldLink RX9 55 "TwoProcessors$Machine" "program" "LTwoProcessors$Program;" ∈ gw := gw_2 (i := 8) rfl rfl
set_option maxRecDepth 100000 in
theorem fl_X9_64 : Cond.fieldLink RX9 64 "TwoProcessors$Whole" "length" "I" ∈ gw := gw_2 (i := 66) rfl rfl
set_option maxRecDepth 100000 in
theorem fl_X9_72 : Cond.fieldLink RX9 72 "TwoProcessors$Whole" "tape" "[B" ∈ gw := gw_2 (i := 65) rfl rfl
set_option maxRecDepth 100000 in
theorem fl_X9_80 : Cond.fieldLink RX9 80 "TwoProcessors$Reader" "fault" "I" ∈ gw := gw_2 (i := 129) rfl rfl
set_option maxRecDepth 100000 in
theorem fl_X9_83 : Cond.fieldLink RX9 83 "TwoProcessors$Whole" "fault" "I" ∈ gw := gw_2 (i := 69) rfl rfl
set_option maxRecDepth 100000 in
theorem fl_X9_84 : Cond.fieldLink RX9 84 "TwoProcessors$Reader" "faultPlace" "I" ∈ gw := gw_2 (i := 131) rfl rfl
set_option maxRecDepth 100000 in
theorem fl_X9_87 : Cond.fieldLink RX9 87 "TwoProcessors$Whole" "faultPlace" "I" ∈ gw := gw_2 (i := 71) rfl rfl
set_option maxRecDepth 100000 in
theorem fl_X9_88 : Cond.fieldLink RX9 88 "TwoProcessors$Reader" "draft" "LTwoProcessors$Program;" ∈ gw := gw_2 (i := 127) rfl rfl
set_option maxRecDepth 100000 in
theorem fl_X9_98 : Cond.fieldLink RX9 98 "TwoProcessors$Program" "size" "I" ∈ gw := gw_1 (i := 113) rfl rfl
set_option maxRecDepth 100000 in
theorem fl_X9_109 : Cond.fieldLink RX9 109 "TwoProcessors$Machine" "queues" "[LTwoProcessors$Queue;" ∈ gw := gw_2 (i := 14) rfl rfl
set_option maxRecDepth 100000 in
theorem fl_X9_113 : Cond.fieldLink RX9 113 "TwoProcessors$Queue" "room" "I" ∈ gw := gw_1 (i := 181) rfl rfl
set_option maxRecDepth 100000 in
theorem fl_X9_128 : Cond.fieldLink RX9 128 "TwoProcessors$Machine" "sides" "[LTwoProcessors$Side;" ∈ gw := gw_2 (i := 16) rfl rfl
set_option maxRecDepth 100000 in
theorem fl_X9_159 : Cond.fieldLink RX9 159 "TwoProcessors$Side" "timesDone" "[I" ∈ gw := gw_1 (i := 211) rfl rfl
set_option maxRecDepth 100000 in
theorem fl_X9_163 : Cond.fieldLink RX9 163 "TwoProcessors$Queue" "size" "I" ∈ gw := gw_1 (i := 178) rfl rfl
set_option maxRecDepth 100000 in
theorem fl_X9_170 : Cond.fieldLink RX9 170 "TwoProcessors$Machine" "cells" "[I" ∈ gw := gw_2 (i := 12) rfl rfl
set_option maxRecDepth 100000 in
theorem fl_X9_176 : Cond.fieldLink RX9 176 "TwoProcessors$Machine" "registers" "[I" ∈ gw := gw_2 (i := 10) rfl rfl
set_option maxRecDepth 100000 in
theorem fl_X9_182 : Cond.fieldLink RX9 182 "TwoProcessors$Single" "ended" "Z" ∈ gw := gw_2 (i := 167) rfl rfl
set_option maxRecDepth 100000 in
theorem fl_X9_199 : Cond.fieldLink RX9 199 "TwoProcessors$Machine" "late" "I" ∈ gw := gw_2 (i := 22) rfl rfl
set_option maxRecDepth 100000 in
theorem fl_X9_211 : Cond.fieldLink RX9 211 "TwoProcessors$Program" "aims" "I" ∈ gw := gw_1 (i := 123) rfl rfl
set_option maxRecDepth 100000 in
theorem fl_X9_227 : Cond.fieldLink RX9 227 "TwoProcessors$Machine" "outcome" "I" ∈ gw := gw_2 (i := 20) rfl rfl
set_option maxRecDepth 100000 in
theorem fl_X9_233 : Cond.fieldLink RX9 233 "TwoProcessors$Machine" "now" "I" ∈ gw := gw_2 (i := 18) rfl rfl
set_option maxRecDepth 100000 in
theorem fl_X9_243 : Cond.fieldLink RX9 243 "TwoProcessors$Program" "kept" "I" ∈ gw := gw_1 (i := 120) rfl rfl
set_option maxRecDepth 100000 in
theorem ml_J0_106 : Cond.methodLink RJ0 106 yJ1_inflate_0e8fd ∈ gw := gw_5 (i := 86) rfl rfl
set_option maxRecDepth 100000 in
theorem ml_J0_212 : Cond.methodLink RJ0 212 ⟨"java/lang/System", "arraycopy", "(Ljava/lang/Object;ILjava/lang/Object;II)V"⟩ ∈ gw := gw_5 (i := 85) rfl rfl
set_option maxRecDepth 100000 in
theorem ml_J0_335 : Cond.methodLink RJ0 335 yJ0_coder_7d493 ∈ gw := gw_3 (i := 96) rfl rfl
set_option maxRecDepth 100000 in
theorem ml_J0_492 : Cond.methodLink RJ0 492 yJ0_isLatin1_aae02 ∈ gw := gw_3 (i := 105) rfl rfl
set_option maxRecDepth 100000 in
theorem ml_J0_495 : Cond.methodLink RJ0 495 yJ1_charAt_3b067 ∈ gw := gw_3 (i := 109) rfl rfl
set_option maxRecDepth 100000 in
theorem ml_J0_498 : Cond.methodLink RJ0 498 yJ2_charAt_3b067 ∈ gw := gw_3 (i := 120) rfl rfl
set_option maxRecDepth 100000 in
theorem ml_J0_1059 : Cond.methodLink RJ0 1059 yJ3_checkIndex_8e157 ∈ gw := gw_3 (i := 117) rfl rfl
set_option maxRecDepth 100000 in
theorem ml_J0_1062 : Cond.methodLink RJ0 1062 yJ3_checkFromToIndex_8c36e ∈ gw := gw_5 (i := 46) rfl rfl
set_option maxRecDepth 100000 in
theorem ml_J0_1065 : Cond.methodLink RJ0 1065 yJ3_checkFromIndexSize_8c36e ∈ gw := gw_5 (i := 78) rfl rfl
set_option maxRecDepth 100000 in
theorem ml_J1_9 : Cond.methodLink RJ1 9 yJ0_checkIndex_df160 ∈ gw := gw_3 (i := 112) rfl rfl
set_option maxRecDepth 100000 in
theorem ml_J1_236 : Cond.methodLink RJ1 236 yJ7_fill_eb02e ∈ gw := gw_4 (i := 231) rfl rfl
set_option maxRecDepth 100000 in
theorem ml_J1_240 : Cond.methodLink RJ1 240 yJ2_inflate_0e8fd ∈ gw := gw_5 (i := 69) rfl rfl
set_option maxRecDepth 100000 in
theorem ml_J2_11 : Cond.methodLink RJ2 11 yJ2_newBytesLength_0f7a4 ∈ gw := gw_2 (i := 193) rfl rfl
set_option maxRecDepth 100000 in
theorem ml_J2_48 : Cond.methodLink RJ2 48 yJ2_length_9d52b ∈ gw := gw_3 (i := 126) rfl rfl
set_option maxRecDepth 100000 in
theorem ml_J2_67 : Cond.methodLink RJ2 67 yJ2_checkIndex_2214a ∈ gw := gw_3 (i := 123) rfl rfl
set_option maxRecDepth 100000 in
theorem ml_J2_71 : Cond.methodLink RJ2 71 yJ2_getChar_3b067 ∈ gw := gw_3 (i := 130) rfl rfl
set_option maxRecDepth 100000 in
theorem ml_J2_96 : Cond.methodLink RJ2 96 yJ2_checkBoundsBeginEnd_d044e ∈ gw := gw_5 (i := 40) rfl rfl
set_option maxRecDepth 100000 in
theorem ml_J2_111 : Cond.methodLink RJ2 111 yJ2_putChar_b72d1 ∈ gw := gw_5 (i := 49) rfl rfl
set_option maxRecDepth 100000 in
theorem ml_J2_173 : Cond.methodLink RJ2 173 yJ2_checkBoundsOffCount_d044e ∈ gw := gw_5 (i := 72) rfl rfl
set_option maxRecDepth 100000 in
theorem ml_J2_241 : Cond.methodLink RJ2 241 yJ0_checkBoundsBeginEnd_23922 ∈ gw := gw_5 (i := 43) rfl rfl
set_option maxRecDepth 100000 in
theorem ml_J2_380 : Cond.methodLink RJ2 380 yJ7_fill_eb02e ∈ gw := gw_5 (i := 0) rfl rfl
set_option maxRecDepth 100000 in
theorem ml_J2_393 : Cond.methodLink RJ2 393 yJ2_getChars_ba4f3 ∈ gw := gw_5 (i := 130) rfl rfl
set_option maxRecDepth 100000 in
theorem ml_J2_414 : Cond.methodLink RJ2 414 yJ0_checkIndex_df160 ∈ gw := gw_3 (i := 129) rfl rfl
set_option maxRecDepth 100000 in
theorem ml_J2_419 : Cond.methodLink RJ2 419 yJ0_checkBoundsOffCount_cabcc ∈ gw := gw_5 (i := 75) rfl rfl
set_option maxRecDepth 100000 in
theorem ml_J4_1 : Cond.methodLink RJ4 1 yJ5_init_d00df ∈ gw := gw_2 (i := 184) rfl rfl
set_option maxRecDepth 100000 in
theorem ml_J4_29 : Cond.methodLink RJ4 29 yJ5_append_cf1ce ∈ gw := gw_5 (i := 30) rfl rfl
set_option maxRecDepth 100000 in
theorem ml_J4_50 : Cond.methodLink RJ4 50 yJ5_append_3fe6f ∈ gw := gw_5 (i := 95) rfl rfl
set_option maxRecDepth 100000 in
theorem ml_J4_53 : Cond.methodLink RJ4 53 yJ5_append_c97b9 ∈ gw := gw_5 (i := 114) rfl rfl
set_option maxRecDepth 100000 in
theorem ml_J4_329 : Cond.methodLink RJ4 329 yJ5_charAt_5068e ∈ gw := gw_5 (i := 146) rfl rfl
set_option maxRecDepth 100000 in
theorem ml_J4_333 : Cond.methodLink RJ4 333 yJ5_setLength_d00df ∈ gw := gw_4 (i := 191) rfl rfl
set_option maxRecDepth 100000 in
theorem ml_J4_343 : Cond.methodLink RJ4 343 yJ5_length_8abf5 ∈ gw := gw_5 (i := 139) rfl rfl
set_option maxRecDepth 100000 in
theorem ml_J5_3 : Cond.methodLink RJ5 3 ⟨"java/lang/Object", "<init>", "()V"⟩ ∈ gw := gw_2 (i := 187) rfl rfl
set_option maxRecDepth 100000 in
theorem ml_J5_26 : Cond.methodLink RJ5 26 yJ2_newBytesFor_77867 ∈ gw := gw_2 (i := 190) rfl rfl
set_option maxRecDepth 100000 in
theorem ml_J5_32 : Cond.methodLink RJ5 32 yJ0_length_8abf5 ∈ gw := gw_5 (i := 52) rfl rfl
set_option maxRecDepth 100000 in
theorem ml_J5_40 : Cond.methodLink RJ5 40 yJ0_coder_7d493 ∈ gw := gw_5 (i := 61) rfl rfl
set_option maxRecDepth 100000 in
theorem ml_J5_83 : Cond.methodLink RJ5 83 yJ5_isLatin1_aae02 ∈ gw := gw_4 (i := 223) rfl rfl
set_option maxRecDepth 100000 in
theorem ml_J5_100 : Cond.methodLink RJ5 100 yJ5_ensureCapacityInternal_d00df ∈ gw := gw_4 (i := 194) rfl rfl
set_option maxRecDepth 100000 in
theorem ml_J5_104 : Cond.methodLink RJ5 104 yJ5_newCapacity_0f7a4 ∈ gw := gw_4 (i := 198) rfl rfl
set_option maxRecDepth 100000 in
theorem ml_J5_108 : Cond.methodLink RJ5 108 yJ7_copyOf_9075b ∈ gw := gw_4 (i := 211) rfl rfl
set_option maxRecDepth 100000 in
theorem ml_J5_114 : Cond.methodLink RJ5 114 yJ8_newLength_cabcc ∈ gw := gw_4 (i := 202) rfl rfl
set_option maxRecDepth 100000 in
theorem ml_J5_125 : Cond.methodLink RJ5 125 yJ1_inflate_0e8fd ∈ gw := gw_5 (i := 66) rfl rfl
set_option maxRecDepth 100000 in
theorem ml_J5_133 : Cond.methodLink RJ5 133 yJ1_fillNull_b72d1 ∈ gw := gw_4 (i := 228) rfl rfl
set_option maxRecDepth 100000 in
theorem ml_J5_137 : Cond.methodLink RJ5 137 yJ2_fillNull_b72d1 ∈ gw := gw_4 (i := 237) rfl rfl
set_option maxRecDepth 100000 in
theorem ml_J5_138 : Cond.methodLink RJ5 138 yJ9_min_7cf53 ∈ gw := gw_5 (i := 149) rfl rfl
set_option maxRecDepth 100000 in
theorem ml_J5_144 : Cond.methodLink RJ5 144 yJ0_checkIndex_df160 ∈ gw := gw_5 (i := 150) rfl rfl
set_option maxRecDepth 100000 in
theorem ml_J5_148 : Cond.methodLink RJ5 148 yJ2_getChar_3b067 ∈ gw := gw_5 (i := 151) rfl rfl
set_option maxRecDepth 100000 in
theorem ml_J5_191 : Cond.methodLink RJ5 191 yJ1_canEncode_fc78d ∈ gw := gw_5 (i := 98) rfl rfl
set_option maxRecDepth 100000 in
theorem ml_J5_195 : Cond.methodLink RJ5 195 yJ5_inflate_da8c8 ∈ gw := gw_5 (i := 62) rfl rfl
set_option maxRecDepth 100000 in
theorem ml_J5_197 : Cond.methodLink RJ5 197 yJ2_putCharSB_b72d1 ∈ gw := gw_5 (i := 101) rfl rfl
set_option maxRecDepth 100000 in
theorem ml_J5_204 : Cond.methodLink RJ5 204 yJ5_appendNull_278bc ∈ gw := gw_5 (i := 33) rfl rfl
set_option maxRecDepth 100000 in
theorem ml_J5_208 : Cond.methodLink RJ5 208 yJ5_putStringAt_47b60 ∈ gw := gw_5 (i := 53) rfl rfl
set_option maxRecDepth 100000 in
theorem ml_J5_226 : Cond.methodLink RJ5 226 yJ2_putCharsAt_cd4e5 ∈ gw := gw_5 (i := 37) rfl rfl
set_option maxRecDepth 100000 in
theorem ml_J5_245 : Cond.methodLink RJ5 245 yJ6_stringSize_0f7a4 ∈ gw := gw_5 (i := 117) rfl rfl
set_option maxRecDepth 100000 in
theorem ml_J5_248 : Cond.methodLink RJ5 248 yJ6_getChars_ba4f3 ∈ gw := gw_5 (i := 120) rfl rfl
set_option maxRecDepth 100000 in
theorem ml_J5_251 : Cond.methodLink RJ5 251 yJ2_getChars_46870 ∈ gw := gw_5 (i := 127) rfl rfl
set_option maxRecDepth 100000 in
theorem ml_J5_397 : Cond.methodLink RJ5 397 yJ5_inflateIfNeededFor_a7421 ∈ gw := gw_5 (i := 57) rfl rfl
set_option maxRecDepth 100000 in
theorem ml_J5_399 : Cond.methodLink RJ5 399 yJ0_getBytes_840e7 ∈ gw := gw_5 (i := 81) rfl rfl
set_option maxRecDepth 100000 in
theorem ml_J7_13 : Cond.methodLink RJ7 13 yJ7_rangeCheck_23922 ∈ gw := gw_4 (i := 234) rfl rfl
set_option maxRecDepth 100000 in
theorem ml_J7_150 : Cond.methodLink RJ7 150 ⟨"java/lang/System", "arraycopy", "(Ljava/lang/Object;ILjava/lang/Object;II)V"⟩ ∈ gw := gw_4 (i := 222) rfl rfl
set_option maxRecDepth 100000 in
theorem ml_J7_304 : Cond.methodLink RJ7 304 yJ9_min_7cf53 ∈ gw := gw_4 (i := 221) rfl rfl
set_option maxRecDepth 100000 in
theorem ml_J7_310 : Cond.methodLink RJ7 310 ⟨"[B", "clone", "()Ljava/lang/Object;"⟩ ∈ gw := gw_4 (i := 214) rfl rfl
set_option maxRecDepth 100000 in
theorem ml_J8_194 : Cond.methodLink RJ8 194 yJ9_max_7cf53 ∈ gw := gw_4 (i := 205) rfl rfl
set_option maxRecDepth 100000 in
theorem ml_J8_201 : Cond.methodLink RJ8 201 yJ8_hugeLength_7cf53 ∈ gw := gw_4 (i := 207) rfl rfl
set_option maxRecDepth 100000 in
theorem ml_L_9 : Cond.methodLink RL 9 yX9_init ∈ gw := gw_1 (i := 26) rfl rfl
set_option maxRecDepth 100000 in
theorem ml_L_12 : Cond.methodLink RL 12 yX10_init ∈ gw := gw_6 (i := 83) rfl rfl
set_option maxRecDepth 100000 in
theorem ml_L_13 : Cond.methodLink RL 13 yX9_feed ∈ gw := gw_3 (i := 36) rfl rfl
set_option maxRecDepth 100000 in
theorem ml_L_17 : Cond.methodLink RL 17 yX10_feed ∈ gw := gw_7 (i := 170) rfl rfl
set_option maxRecDepth 100000 in
theorem ml_L_18 : Cond.methodLink RL 18 yX9_end ∈ gw := gw_3 (i := 44) rfl rfl
set_option maxRecDepth 100000 in
theorem ml_L_22 : Cond.methodLink RL 22 yX10_end ∈ gw := gw_7 (i := 174) rfl rfl
set_option maxRecDepth 100000 in
theorem ml_L_23 : Cond.methodLink RL 23 yX9_program ∈ gw := gw_3 (i := 48) rfl rfl
set_option maxRecDepth 100000 in
theorem ml_L_27 : Cond.methodLink RL 27 yX10_program ∈ gw := gw_8 (i := 40) rfl rfl
set_option maxRecDepth 100000 in
theorem ml_L_28 : Cond.methodLink RL 28 yX9_fault ∈ gw := gw_4 (i := 0) rfl rfl
set_option maxRecDepth 100000 in
theorem ml_L_31 : Cond.methodLink RL 31 yX10_fault ∈ gw := gw_7 (i := 178) rfl rfl
set_option maxRecDepth 100000 in
theorem ml_L_32 : Cond.methodLink RL 32 yX9_cycles ∈ gw := gw_4 (i := 4) rfl rfl
set_option maxRecDepth 100000 in
theorem ml_L_35 : Cond.methodLink RL 35 yX10_cycles ∈ gw := gw_7 (i := 182) rfl rfl
set_option maxRecDepth 100000 in
theorem ml_L_36 : Cond.methodLink RL 36 yX9_begin ∈ gw := gw_4 (i := 137) rfl rfl
set_option maxRecDepth 100000 in
theorem ml_L_39 : Cond.methodLink RL 39 yX10_begin ∈ gw := gw_7 (i := 186) rfl rfl
set_option maxRecDepth 100000 in
theorem ml_L_40 : Cond.methodLink RL 40 yX9_room ∈ gw := gw_4 (i := 141) rfl rfl
set_option maxRecDepth 100000 in
theorem ml_L_44 : Cond.methodLink RL 44 yX10_room ∈ gw := gw_7 (i := 190) rfl rfl
set_option maxRecDepth 100000 in
theorem ml_L_45 : Cond.methodLink RL 45 yX9_count ∈ gw := gw_4 (i := 148) rfl rfl
set_option maxRecDepth 100000 in
theorem ml_L_48 : Cond.methodLink RL 48 yX10_count ∈ gw := gw_7 (i := 194) rfl rfl
set_option maxRecDepth 100000 in
theorem ml_L_49 : Cond.methodLink RL 49 yX9_side ∈ gw := gw_4 (i := 160) rfl rfl
set_option maxRecDepth 100000 in
theorem ml_L_53 : Cond.methodLink RL 53 yX10_side ∈ gw := gw_7 (i := 198) rfl rfl
set_option maxRecDepth 100000 in
theorem ml_L_54 : Cond.methodLink RL 54 yX9_deeds ∈ gw := gw_4 (i := 174) rfl rfl
set_option maxRecDepth 100000 in
theorem ml_L_57 : Cond.methodLink RL 57 yX10_deeds ∈ gw := gw_7 (i := 202) rfl rfl
set_option maxRecDepth 100000 in
theorem ml_L_58 : Cond.methodLink RL 58 yX9_text ∈ gw := gw_4 (i := 179) rfl rfl
set_option maxRecDepth 100000 in
theorem ml_L_62 : Cond.methodLink RL 62 yX10_text ∈ gw := gw_7 (i := 231) rfl rfl
set_option maxRecDepth 100000 in
theorem ml_L_63 : Cond.methodLink RL 63 yX9_did ∈ gw := gw_5 (i := 152) rfl rfl
set_option maxRecDepth 100000 in
theorem ml_L_67 : Cond.methodLink RL 67 yX10_did ∈ gw := gw_7 (i := 206) rfl rfl
set_option maxRecDepth 100000 in
theorem ml_L_68 : Cond.methodLink RL 68 yX9_queue ∈ gw := gw_5 (i := 156) rfl rfl
set_option maxRecDepth 100000 in
theorem ml_L_71 : Cond.methodLink RL 71 yX10_queue ∈ gw := gw_7 (i := 215) rfl rfl
set_option maxRecDepth 100000 in
theorem ml_L_72 : Cond.methodLink RL 72 yX9_roomOf ∈ gw := gw_5 (i := 164) rfl rfl
set_option maxRecDepth 100000 in
theorem ml_L_75 : Cond.methodLink RL 75 yX10_roomOf ∈ gw := gw_7 (i := 219) rfl rfl
set_option maxRecDepth 100000 in
theorem ml_L_76 : Cond.methodLink RL 76 yX9_cell ∈ gw := gw_5 (i := 168) rfl rfl
set_option maxRecDepth 100000 in
theorem ml_L_79 : Cond.methodLink RL 79 yX10_cell ∈ gw := gw_7 (i := 223) rfl rfl
set_option maxRecDepth 100000 in
theorem ml_L_80 : Cond.methodLink RL 80 yX9_register ∈ gw := gw_5 (i := 175) rfl rfl
set_option maxRecDepth 100000 in
theorem ml_L_83 : Cond.methodLink RL 83 yX10_register ∈ gw := gw_7 (i := 227) rfl rfl
set_option maxRecDepth 100000 in
theorem ml_L_84 : Cond.methodLink RL 84 yX9_alone ∈ gw := gw_5 (i := 180) rfl rfl
set_option maxRecDepth 100000 in
theorem ml_L_87 : Cond.methodLink RL 87 yX10_alone ∈ gw := gw_7 (i := 142) rfl rfl
set_option maxRecDepth 100000 in
theorem ml_L_88 : Cond.methodLink RL 88 yX9_ahead ∈ gw := gw_5 (i := 200) rfl rfl
set_option maxRecDepth 100000 in
theorem ml_L_91 : Cond.methodLink RL 91 yX10_ahead ∈ gw := gw_7 (i := 126) rfl rfl
set_option maxRecDepth 100000 in
theorem ml_L_92 : Cond.methodLink RL 92 yX9_time ∈ gw := gw_5 (i := 219) rfl rfl
set_option maxRecDepth 100000 in
theorem ml_L_95 : Cond.methodLink RL 95 yX10_time ∈ gw := gw_6 (i := 189) rfl rfl
set_option maxRecDepth 100000 in
theorem ml_L_96 : Cond.methodLink RL 96 yX9_late ∈ gw := gw_5 (i := 231) rfl rfl
set_option maxRecDepth 100000 in
theorem ml_L_99 : Cond.methodLink RL 99 yX10_late ∈ gw := gw_7 (i := 97) rfl rfl
set_option maxRecDepth 100000 in
theorem ml_L_100 : Cond.methodLink RL 100 yX9_keeping ∈ gw := gw_5 (i := 235) rfl rfl
set_option maxRecDepth 100000 in
theorem ml_L_103 : Cond.methodLink RL 103 yX10_keeping ∈ gw := gw_7 (i := 104) rfl rfl
set_option maxRecDepth 100000 in
theorem ml_L_104 : Cond.methodLink RL 104 yX9_best ∈ gw := gw_6 (i := 4) rfl rfl
set_option maxRecDepth 100000 in
theorem ml_L_107 : Cond.methodLink RL 107 yX10_best ∈ gw := gw_7 (i := 108) rfl rfl
set_option maxRecDepth 100000 in
theorem ml_L_108 : Cond.methodLink RL 108 yX9_least ∈ gw := gw_6 (i := 13) rfl rfl
set_option maxRecDepth 100000 in
theorem ml_L_112 : Cond.methodLink RL 112 yX10_least ∈ gw := gw_7 (i := 114) rfl rfl
set_option maxRecDepth 100000 in
theorem ml_L_113 : Cond.methodLink RL 113 yX9_safe ∈ gw := gw_6 (i := 29) rfl rfl
set_option maxRecDepth 100000 in
theorem ml_L_116 : Cond.methodLink RL 116 yX10_safe ∈ gw := gw_7 (i := 122) rfl rfl
set_option maxRecDepth 100000 in
theorem ml_L_117 : Cond.methodLink RL 117 yX9_rounds ∈ gw := gw_6 (i := 33) rfl rfl
set_option maxRecDepth 100000 in
theorem ml_L_120 : Cond.methodLink RL 120 yX10_rounds ∈ gw := gw_7 (i := 150) rfl rfl
set_option maxRecDepth 100000 in
theorem ml_L_121 : Cond.methodLink RL 121 yX9_changed ∈ gw := gw_6 (i := 57) rfl rfl
set_option maxRecDepth 100000 in
theorem ml_L_124 : Cond.methodLink RL 124 yX10_changed ∈ gw := gw_7 (i := 134) rfl rfl
set_option maxRecDepth 100000 in
theorem ml_L_125 : Cond.methodLink RL 125 yX9_slipped ∈ gw := gw_6 (i := 62) rfl rfl
set_option maxRecDepth 100000 in
theorem ml_L_128 : Cond.methodLink RL 128 yX10_slipped ∈ gw := gw_7 (i := 138) rfl rfl
set_option maxRecDepth 100000 in
theorem ml_L_129 : Cond.methodLink RL 129 yX9_image ∈ gw := gw_6 (i := 67) rfl rfl
set_option maxRecDepth 100000 in
theorem ml_L_133 : Cond.methodLink RL 133 yX10_image ∈ gw := gw_8 (i := 153) rfl rfl
set_option maxRecDepth 100000 in
theorem ml_L_134 : Cond.methodLink RL 134 yX9_again ∈ gw := gw_6 (i := 77) rfl rfl
set_option maxRecDepth 100000 in
theorem ml_L_137 : Cond.methodLink RL 137 yX10_again ∈ gw := gw_8 (i := 157) rfl rfl
set_option maxRecDepth 100000 in
theorem ml_X0_3 : Cond.methodLink RX0 3 ⟨"java/lang/Object", "<init>", "()V"⟩ ∈ gw := gw_1 (i := 56) rfl rfl
set_option maxRecDepth 100000 in
theorem ml_X1_3 : Cond.methodLink RX1 3 ⟨"java/lang/Object", "<init>", "()V"⟩ ∈ gw := gw_1 (i := 43) rfl rfl
set_option maxRecDepth 100000 in
theorem ml_X1_11 : Cond.methodLink RX1 11 yX2_init ∈ gw := gw_1 (i := 46) rfl rfl
set_option maxRecDepth 100000 in
theorem ml_X1_38 : Cond.methodLink RX1 38 yX5_init ∈ gw := gw_1 (i := 194) rfl rfl
set_option maxRecDepth 100000 in
theorem ml_X1_41 : Cond.methodLink RX1 41 yX1_toBeginning ∈ gw := gw_1 (i := 231) rfl rfl
set_option maxRecDepth 100000 in
theorem ml_X1_45 : Cond.methodLink RX1 45 ⟨"java/lang/System", "arraycopy", "(Ljava/lang/Object;ILjava/lang/Object;II)V"⟩ ∈ gw := gw_1 (i := 235) rfl rfl
set_option maxRecDepth 100000 in
theorem ml_X1_55 : Cond.methodLink RX1 55 yX3_clear ∈ gw := gw_1 (i := 238) rfl rfl
set_option maxRecDepth 100000 in
theorem ml_X1_58 : Cond.methodLink RX1 58 yX5_toBeginning ∈ gw := gw_2 (i := 2) rfl rfl
set_option maxRecDepth 100000 in
theorem ml_X1_91 : Cond.methodLink RX1 91 yX2_copyFrom ∈ gw := gw_5 (i := 208) rfl rfl
set_option maxRecDepth 100000 in
theorem ml_X1_95 : Cond.methodLink RX1 95 yX3_copyFrom ∈ gw := gw_5 (i := 209) rfl rfl
set_option maxRecDepth 100000 in
theorem ml_X1_98 : Cond.methodLink RX1 98 yX5_copyFrom ∈ gw := gw_5 (i := 214) rfl rfl
set_option maxRecDepth 100000 in
theorem ml_X1_101 : Cond.methodLink RX1 101 yJ9_max_7cf53 ∈ gw := gw_4 (i := 127) rfl rfl
set_option maxRecDepth 100000 in
theorem ml_X1_110 : Cond.methodLink RX1 110 yX1_oneCycle ∈ gw := gw_4 (i := 12) rfl rfl
set_option maxRecDepth 100000 in
theorem ml_X1_117 : Cond.methodLink RX1 117 yX1_writeOne ∈ gw := gw_4 (i := 16) rfl rfl
set_option maxRecDepth 100000 in
theorem ml_X1_120 : Cond.methodLink RX1 120 yX1_runnerTries ∈ gw := gw_4 (i := 28) rfl rfl
set_option maxRecDepth 100000 in
theorem ml_X1_123 : Cond.methodLink RX1 123 yX1_workerTries ∈ gw := gw_4 (i := 98) rfl rfl
set_option maxRecDepth 100000 in
theorem ml_X1_126 : Cond.methodLink RX1 126 yX1_slip ∈ gw := gw_4 (i := 123) rfl rfl
set_option maxRecDepth 100000 in
theorem ml_X1_130 : Cond.methodLink RX1 130 yJ9_min_7cf53 ∈ gw := gw_4 (i := 128) rfl rfl
set_option maxRecDepth 100000 in
theorem ml_X1_133 : Cond.methodLink RX1 133 yX1_outcomeNow ∈ gw := gw_4 (i := 129) rfl rfl
set_option maxRecDepth 100000 in
theorem ml_X1_145 : Cond.methodLink RX1 145 yX1_allLoadsHaveCome ∈ gw := gw_4 (i := 133) rfl rfl
set_option maxRecDepth 100000 in
theorem ml_X1_149 : Cond.methodLink RX1 149 yX1_hasCome ∈ gw := gw_4 (i := 106) rfl rfl
set_option maxRecDepth 100000 in
theorem ml_X1_153 : Cond.methodLink RX1 153 yX3_markAt ∈ gw := gw_4 (i := 20) rfl rfl
set_option maxRecDepth 100000 in
theorem ml_X1_157 : Cond.methodLink RX1 157 yX3_take ∈ gw := gw_4 (i := 24) rfl rfl
set_option maxRecDepth 100000 in
theorem ml_X1_160 : Cond.methodLink RX1 160 yX5_setReason ∈ gw := gw_4 (i := 32) rfl rfl
set_option maxRecDepth 100000 in
theorem ml_X1_163 : Cond.methodLink RX1 163 yX5_passWithoutDeeds ∈ gw := gw_4 (i := 36) rfl rfl
set_option maxRecDepth 100000 in
theorem ml_X1_173 : Cond.methodLink RX1 173 yX5_kindOfNext ∈ gw := gw_4 (i := 47) rfl rfl
set_option maxRecDepth 100000 in
theorem ml_X1_177 : Cond.methodLink RX1 177 yX1_runnerWaitsFor ∈ gw := gw_4 (i := 55) rfl rfl
set_option maxRecDepth 100000 in
theorem ml_X1_181 : Cond.methodLink RX1 181 yX1_runnerDoes ∈ gw := gw_4 (i := 75) rfl rfl
set_option maxRecDepth 100000 in
theorem ml_X1_184 : Cond.methodLink RX1 184 yX5_finishDeed ∈ gw := gw_4 (i := 94) rfl rfl
set_option maxRecDepth 100000 in
theorem ml_X1_188 : Cond.methodLink RX1 188 yX0_cellBy ∈ gw := gw_4 (i := 59) rfl rfl
set_option maxRecDepth 100000 in
theorem ml_X1_194 : Cond.methodLink RX1 194 yX3_holds ∈ gw := gw_4 (i := 63) rfl rfl
set_option maxRecDepth 100000 in
theorem ml_X1_197 : Cond.methodLink RX1 197 yX3_isFull ∈ gw := gw_4 (i := 67) rfl rfl
set_option maxRecDepth 100000 in
theorem ml_X1_200 : Cond.methodLink RX1 200 yX1_fetchWaitsFor ∈ gw := gw_4 (i := 71) rfl rfl
set_option maxRecDepth 100000 in
theorem ml_X1_207 : Cond.methodLink RX1 207 yX2_sentAt ∈ gw := gw_4 (i := 79) rfl rfl
set_option maxRecDepth 100000 in
theorem ml_X1_210 : Cond.methodLink RX1 210 yX3_add ∈ gw := gw_4 (i := 83) rfl rfl
set_option maxRecDepth 100000 in
theorem ml_X1_223 : Cond.methodLink RX1 223 yX0_decide ∈ gw := gw_4 (i := 87) rfl rfl
set_option maxRecDepth 100000 in
theorem ml_X1_234 : Cond.methodLink RX1 234 yX1_workerWaitsFor ∈ gw := gw_4 (i := 102) rfl rfl
set_option maxRecDepth 100000 in
theorem ml_X1_237 : Cond.methodLink RX1 237 yX1_workerDoes ∈ gw := gw_4 (i := 115) rfl rfl
set_option maxRecDepth 100000 in
theorem ml_X1_240 : Cond.methodLink RX1 240 yX1_lacksCopies ∈ gw := gw_4 (i := 110) rfl rfl
set_option maxRecDepth 100000 in
theorem ml_X1_250 : Cond.methodLink RX1 250 yX1_ownOrCopy ∈ gw := gw_4 (i := 119) rfl rfl
set_option maxRecDepth 100000 in
theorem ml_X10_1 : Cond.methodLink RX10 1 ⟨"java/lang/Object", "<init>", "()V"⟩ ∈ gw := gw_6 (i := 86) rfl rfl
set_option maxRecDepth 100000 in
theorem ml_X10_43 : Cond.methodLink RX10 43 yX10_clears ∈ gw := gw_6 (i := 87) rfl rfl
set_option maxRecDepth 100000 in
theorem ml_X10_47 : Cond.methodLink RX10 47 yX10_starts ∈ gw := gw_6 (i := 91) rfl rfl
set_option maxRecDepth 100000 in
theorem ml_X10_50 : Cond.methodLink RX10 50 yX10_aims ∈ gw := gw_6 (i := 95) rfl rfl
set_option maxRecDepth 100000 in
theorem ml_X10_54 : Cond.methodLink RX10 54 yX10_of ∈ gw := gw_6 (i := 103) rfl rfl
set_option maxRecDepth 100000 in
theorem ml_X10_58 : Cond.methodLink RX10 58 yX10_opOf ∈ gw := gw_6 (i := 99) rfl rfl
set_option maxRecDepth 100000 in
theorem ml_X10_62 : Cond.methodLink RX10 62 yX10_isReckoning ∈ gw := gw_6 (i := 107) rfl rfl
set_option maxRecDepth 100000 in
theorem ml_X10_66 : Cond.methodLink RX10 66 yX10_has ∈ gw := gw_6 (i := 110) rfl rfl
set_option maxRecDepth 100000 in
theorem ml_X10_70 : Cond.methodLink RX10 70 yX10_isAim ∈ gw := gw_7 (i := 11) rfl rfl
set_option maxRecDepth 100000 in
theorem ml_X10_73 : Cond.methodLink RX10 73 yX10_sends ∈ gw := gw_7 (i := 15) rfl rfl
set_option maxRecDepth 100000 in
theorem ml_X10_76 : Cond.methodLink RX10 76 yX10_send ∈ gw := gw_7 (i := 19) rfl rfl
set_option maxRecDepth 100000 in
theorem ml_X10_80 : Cond.methodLink RX10 80 yX10_deed ∈ gw := gw_7 (i := 7) rfl rfl
set_option maxRecDepth 100000 in
theorem ml_X10_83 : Cond.methodLink RX10 83 yX10_queueAt ∈ gw := gw_6 (i := 224) rfl rfl
set_option maxRecDepth 100000 in
theorem ml_X10_86 : Cond.methodLink RX10 86 yX10_inQueue ∈ gw := gw_6 (i := 220) rfl rfl
set_option maxRecDepth 100000 in
theorem ml_X10_89 : Cond.methodLink RX10 89 yX10_first ∈ gw := gw_6 (i := 227) rfl rfl
set_option maxRecDepth 100000 in
theorem ml_X10_92 : Cond.methodLink RX10 92 yX10_reg ∈ gw := gw_7 (i := 35) rfl rfl
set_option maxRecDepth 100000 in
theorem ml_X10_95 : Cond.methodLink RX10 95 yX10_wrap ∈ gw := gw_7 (i := 59) rfl rfl
set_option maxRecDepth 100000 in
theorem ml_X10_98 : Cond.methodLink RX10 98 yX10_sideAt ∈ gw := gw_6 (i := 213) rfl rfl
set_option maxRecDepth 100000 in
theorem ml_X10_101 : Cond.methodLink RX10 101 yX10_takes ∈ gw := gw_6 (i := 231) rfl rfl
set_option maxRecDepth 100000 in
theorem ml_X10_104 : Cond.methodLink RX10 104 yX10_does ∈ gw := gw_7 (i := 69) rfl rfl
set_option maxRecDepth 100000 in
theorem ml_X10_108 : Cond.methodLink RX10 108 yX10_passes ∈ gw := gw_7 (i := 3) rfl rfl
set_option maxRecDepth 100000 in
theorem ml_X10_112 : Cond.methodLink RX10 112 yX10_reason ∈ gw := gw_7 (i := 23) rfl rfl
set_option maxRecDepth 100000 in
theorem ml_X10_115 : Cond.methodLink RX10 115 yX10_waits ∈ gw := gw_7 (i := 43) rfl rfl
set_option maxRecDepth 100000 in
theorem ml_X10_118 : Cond.methodLink RX10 118 yX10_pushes ∈ gw := gw_7 (i := 47) rfl rfl
set_option maxRecDepth 100000 in
theorem ml_X10_122 : Cond.methodLink RX10 122 yX10_reckoned ∈ gw := gw_7 (i := 51) rfl rfl
set_option maxRecDepth 100000 in
theorem ml_X10_125 : Cond.methodLink RX10 125 yX10_cellOf ∈ gw := gw_7 (i := 31) rfl rfl
set_option maxRecDepth 100000 in
theorem ml_X10_128 : Cond.methodLink RX10 128 yX10_holds ∈ gw := gw_7 (i := 62) rfl rfl
set_option maxRecDepth 100000 in
theorem ml_X10_132 : Cond.methodLink RX10 132 yX10_ends ∈ gw := gw_7 (i := 65) rfl rfl
set_option maxRecDepth 100000 in
theorem ml_X10_135 : Cond.methodLink RX10 135 yX10_reckons ∈ gw := gw_7 (i := 55) rfl rfl
set_option maxRecDepth 100000 in
theorem ml_X10_138 : Cond.methodLink RX10 138 yX10_isFull ∈ gw := gw_7 (i := 27) rfl rfl
set_option maxRecDepth 100000 in
theorem ml_X10_141 : Cond.methodLink RX10 141 yX10_isStored ∈ gw := gw_7 (i := 39) rfl rfl
set_option maxRecDepth 100000 in
theorem ml_X10_144 : Cond.methodLink RX10 144 yX10_excuse ∈ gw := gw_7 (i := 77) rfl rfl
set_option maxRecDepth 100000 in
theorem ml_X10_147 : Cond.methodLink RX10 147 yX10_works ∈ gw := gw_7 (i := 85) rfl rfl
set_option maxRecDepth 100000 in
theorem ml_X10_150 : Cond.methodLink RX10 150 yX10_hasCome ∈ gw := gw_7 (i := 81) rfl rfl
set_option maxRecDepth 100000 in
theorem ml_X10_153 : Cond.methodLink RX10 153 yX10_writes ∈ gw := gw_6 (i := 216) rfl rfl
set_option maxRecDepth 100000 in
theorem ml_X10_156 : Cond.methodLink RX10 156 yX10_isEnded ∈ gw := gw_6 (i := 235) rfl rfl
set_option maxRecDepth 100000 in
theorem ml_X10_159 : Cond.methodLink RX10 159 yX10_runs ∈ gw := gw_6 (i := 239) rfl rfl
set_option maxRecDepth 100000 in
theorem ml_X10_162 : Cond.methodLink RX10 162 yX10_toils ∈ gw := gw_7 (i := 73) rfl rfl
set_option maxRecDepth 100000 in
theorem ml_X10_165 : Cond.methodLink RX10 165 yX10_slip ∈ gw := gw_7 (i := 89) rfl rfl
set_option maxRecDepth 100000 in
theorem ml_X10_168 : Cond.methodLink RX10 168 yX10_haveCome ∈ gw := gw_7 (i := 93) rfl rfl
set_option maxRecDepth 100000 in
theorem ml_X10_171 : Cond.methodLink RX10 171 yX10_cycle ∈ gw := gw_6 (i := 209) rfl rfl
set_option maxRecDepth 100000 in
theorem ml_X10_177 : Cond.methodLink RX10 177 yX10_copies ∈ gw := gw_6 (i := 197) rfl rfl
set_option maxRecDepth 100000 in
theorem ml_X10_180 : Cond.methodLink RX10 180 yX10_goes ∈ gw := gw_6 (i := 205) rfl rfl
set_option maxRecDepth 100000 in
theorem ml_X10_183 : Cond.methodLink RX10 183 yX10_tries ∈ gw := gw_6 (i := 193) rfl rfl
set_option maxRecDepth 100000 in
theorem ml_X10_186 : Cond.methodLink RX10 186 yX10_ending ∈ gw := gw_6 (i := 201) rfl rfl
set_option maxRecDepth 100000 in
theorem ml_X10_190 : Cond.methodLink RX10 190 yX10_isIn ∈ gw := gw_7 (i := 101) rfl rfl
set_option maxRecDepth 100000 in
theorem ml_X10_193 : Cond.methodLink RX10 193 yX10_time ∈ gw := gw_7 (i := 112) rfl rfl
set_option maxRecDepth 100000 in
theorem ml_X10_196 : Cond.methodLink RX10 196 yX10_keeping ∈ gw := gw_7 (i := 113) rfl rfl
set_option maxRecDepth 100000 in
theorem ml_X10_199 : Cond.methodLink RX10 199 yX10_timeBy ∈ gw := gw_7 (i := 118) rfl rfl
set_option maxRecDepth 100000 in
theorem ml_X10_202 : Cond.methodLink RX10 202 yX10_counts ∈ gw := gw_7 (i := 130) rfl rfl
set_option maxRecDepth 100000 in
theorem ml_X10_212 : Cond.methodLink RX10 212 yX10_step ∈ gw := gw_7 (i := 146) rfl rfl
set_option maxRecDepth 100000 in
theorem ml_X10_215 : Cond.methodLink RX10 215 yX10_next ∈ gw := gw_7 (i := 158) rfl rfl
set_option maxRecDepth 100000 in
theorem ml_X10_218 : Cond.methodLink RX10 218 yX10_many ∈ gw := gw_7 (i := 166) rfl rfl
set_option maxRecDepth 100000 in
theorem ml_X10_221 : Cond.methodLink RX10 221 yX10_reach ∈ gw := gw_7 (i := 154) rfl rfl
set_option maxRecDepth 100000 in
theorem ml_X10_224 : Cond.methodLink RX10 224 yX10_isLosing ∈ gw := gw_7 (i := 162) rfl rfl
set_option maxRecDepth 100000 in
theorem ml_X10_230 : Cond.methodLink RX10 230 yX10_deeds ∈ gw := gw_7 (i := 214) rfl rfl
set_option maxRecDepth 100000 in
theorem ml_X10_233 : Cond.methodLink RX10 233 yX10_isDeed ∈ gw := gw_7 (i := 210) rfl rfl
set_option maxRecDepth 100000 in
theorem ml_X10_241 : Cond.methodLink RX10 241 yX10_lays ∈ gw := gw_8 (i := 24) rfl rfl
set_option maxRecDepth 100000 in
theorem ml_X10_244 : Cond.methodLink RX10 244 yX10_letter ∈ gw := gw_8 (i := 28) rfl rfl
set_option maxRecDepth 100000 in
theorem ml_X10_247 : Cond.methodLink RX10 247 yX10_number ∈ gw := gw_8 (i := 32) rfl rfl
set_option maxRecDepth 100000 in
theorem ml_X10_252 : Cond.methodLink RX10 252 yX10_opWord ∈ gw := gw_8 (i := 0) rfl rfl
set_option maxRecDepth 100000 in
theorem ml_X10_280 : Cond.methodLink RX10 280 yX10_word ∈ gw := gw_8 (i := 19) rfl rfl
set_option maxRecDepth 100000 in
theorem ml_X10_284 : Cond.methodLink RX10 284 yX10_decides ∈ gw := gw_8 (i := 36) rfl rfl
set_option maxRecDepth 100000 in
theorem ml_X10_295 : Cond.methodLink RX10 295 yX10_tells ∈ gw := gw_7 (i := 235) rfl rfl
set_option maxRecDepth 100000 in
theorem ml_X10_304 : Cond.methodLink RX10 304 yX10_byteAt ∈ gw := gw_8 (i := 48) rfl rfl
set_option maxRecDepth 100000 in
theorem ml_X10_317 : Cond.methodLink RX10 317 yX10_isLetter ∈ gw := gw_8 (i := 52) rfl rfl
set_option maxRecDepth 100000 in
theorem ml_X10_320 : Cond.methodLink RX10 320 yX10_isDigit ∈ gw := gw_8 (i := 55) rfl rfl
set_option maxRecDepth 100000 in
theorem ml_X10_333 : Cond.methodLink RX10 333 yX10_isGood ∈ gw := gw_8 (i := 60) rfl rfl
set_option maxRecDepth 100000 in
theorem ml_X10_337 : Cond.methodLink RX10 337 yX10_isWord ∈ gw := gw_8 (i := 73) rfl rfl
set_option maxRecDepth 100000 in
theorem ml_X10_341 : Cond.methodLink RX10 341 yX10_takesToken ∈ gw := gw_8 (i := 44) rfl rfl
set_option maxRecDepth 100000 in
theorem ml_X10_344 : Cond.methodLink RX10 344 yX10_fails ∈ gw := gw_8 (i := 81) rfl rfl
set_option maxRecDepth 100000 in
theorem ml_X10_347 : Cond.methodLink RX10 347 yX10_alsoWrong ∈ gw := gw_8 (i := 85) rfl rfl
set_option maxRecDepth 100000 in
theorem ml_X10_366 : Cond.methodLink RX10 366 yX10_queueWord ∈ gw := gw_8 (i := 94) rfl rfl
set_option maxRecDepth 100000 in
theorem ml_X10_369 : Cond.methodLink RX10 369 yX10_hasWord ∈ gw := gw_8 (i := 69) rfl rfl
set_option maxRecDepth 100000 in
theorem ml_X10_388 : Cond.methodLink RX10 388 yX10_isKept ∈ gw := gw_8 (i := 116) rfl rfl
set_option maxRecDepth 100000 in
theorem ml_X10_394 : Cond.methodLink RX10 394 yX10_nameBy ∈ gw := gw_8 (i := 126) rfl rfl
set_option maxRecDepth 100000 in
theorem ml_X10_398 : Cond.methodLink RX10 398 yX10_sign ∈ gw := gw_8 (i := 130) rfl rfl
set_option maxRecDepth 100000 in
theorem ml_X10_401 : Cond.methodLink RX10 401 yX10_isName ∈ gw := gw_8 (i := 112) rfl rfl
set_option maxRecDepth 100000 in
theorem ml_X10_407 : Cond.methodLink RX10 407 yX10_opHere ∈ gw := gw_8 (i := 138) rfl rfl
set_option maxRecDepth 100000 in
theorem ml_X10_410 : Cond.methodLink RX10 410 yX10_letterTaken ∈ gw := gw_8 (i := 105) rfl rfl
set_option maxRecDepth 100000 in
theorem ml_X10_413 : Cond.methodLink RX10 413 yX10_numeral ∈ gw := gw_8 (i := 77) rfl rfl
set_option maxRecDepth 100000 in
theorem ml_X10_422 : Cond.methodLink RX10 422 yX10_wants ∈ gw := gw_8 (i := 145) rfl rfl
set_option maxRecDepth 100000 in
theorem ml_X10_425 : Cond.methodLink RX10 425 yX10_queueTaken ∈ gw := gw_8 (i := 90) rfl rfl
set_option maxRecDepth 100000 in
theorem ml_X10_428 : Cond.methodLink RX10 428 yX10_reads ∈ gw := gw_8 (i := 122) rfl rfl
set_option maxRecDepth 100000 in
theorem ml_X10_431 : Cond.methodLink RX10 431 yX10_readsInstruction ∈ gw := gw_8 (i := 134) rfl rfl
set_option maxRecDepth 100000 in
theorem ml_X10_434 : Cond.methodLink RX10 434 yX10_readsLine ∈ gw := gw_8 (i := 64) rfl rfl
set_option maxRecDepth 100000 in
theorem ml_X10_437 : Cond.methodLink RX10 437 yX10_finds ∈ gw := gw_8 (i := 149) rfl rfl
set_option maxRecDepth 100000 in
theorem ml_X2_3 : Cond.methodLink RX2 3 ⟨"java/lang/Object", "<init>", "()V"⟩ ∈ gw := gw_1 (i := 49) rfl rfl
set_option maxRecDepth 100000 in
theorem ml_X2_40 : Cond.methodLink RX2 40 yX2_clear ∈ gw := gw_1 (i := 99) rfl rfl
set_option maxRecDepth 100000 in
theorem ml_X2_53 : Cond.methodLink RX2 53 yJ7_fill_53178 ∈ gw := gw_1 (i := 103) rfl rfl
set_option maxRecDepth 100000 in
theorem ml_X2_62 : Cond.methodLink RX2 62 yX0_copyFrom ∈ gw := gw_3 (i := 234) rfl rfl
set_option maxRecDepth 100000 in
theorem ml_X2_69 : Cond.methodLink RX2 69 ⟨"java/lang/System", "arraycopy", "(Ljava/lang/Object;ILjava/lang/Object;II)V"⟩ ∈ gw := gw_3 (i := 238) rfl rfl
set_option maxRecDepth 100000 in
theorem ml_X2_75 : Cond.methodLink RX2 75 yX2_widenAims ∈ gw := gw_2 (i := 214) rfl rfl
set_option maxRecDepth 100000 in
theorem ml_X2_78 : Cond.methodLink RX2 78 yX2_splitOne ∈ gw := gw_2 (i := 227) rfl rfl
set_option maxRecDepth 100000 in
theorem ml_X2_103 : Cond.methodLink RX2 103 yX2_addDeed ∈ gw := gw_2 (i := 231) rfl rfl
set_option maxRecDepth 100000 in
theorem ml_X2_107 : Cond.methodLink RX2 107 yX2_splitReckoning ∈ gw := gw_2 (i := 238) rfl rfl
set_option maxRecDepth 100000 in
theorem ml_X2_110 : Cond.methodLink RX2 110 yX2_splitMemory ∈ gw := gw_3 (i := 6) rfl rfl
set_option maxRecDepth 100000 in
theorem ml_X2_114 : Cond.methodLink RX2 114 yX2_splitIf ∈ gw := gw_3 (i := 10) rfl rfl
set_option maxRecDepth 100000 in
theorem ml_X2_117 : Cond.methodLink RX2 117 yX2_addSend ∈ gw := gw_3 (i := 2) rfl rfl
set_option maxRecDepth 100000 in
theorem ml_X2_128 : Cond.methodLink RX2 128 yX2_deedsAt ∈ gw := gw_4 (i := 169) rfl rfl
set_option maxRecDepth 100000 in
theorem ml_X2_132 : Cond.methodLink RX2 132 yX2_kindOf ∈ gw := gw_5 (i := 5) rfl rfl
set_option maxRecDepth 100000 in
theorem ml_X2_135 : Cond.methodLink RX2 135 yX2_wordOf ∈ gw := gw_5 (i := 6) rfl rfl
set_option maxRecDepth 100000 in
theorem ml_X2_139 : Cond.methodLink RX2 139 yJ4_append_15ec4 ∈ gw := gw_5 (i := 26) rfl rfl
set_option maxRecDepth 100000 in
theorem ml_X2_145 : Cond.methodLink RX2 145 yX2_sentAt ∈ gw := gw_5 (i := 87) rfl rfl
set_option maxRecDepth 100000 in
theorem ml_X2_148 : Cond.methodLink RX2 148 yX2_writeRegister ∈ gw := gw_5 (i := 88) rfl rfl
set_option maxRecDepth 100000 in
theorem ml_X2_155 : Cond.methodLink RX2 155 yX2_writeNumber ∈ gw := gw_5 (i := 107) rfl rfl
set_option maxRecDepth 100000 in
theorem ml_X2_162 : Cond.methodLink RX2 162 yJ4_append_cf468 ∈ gw := gw_5 (i := 91) rfl rfl
set_option maxRecDepth 100000 in
theorem ml_X2_165 : Cond.methodLink RX2 165 yX2_letterOf ∈ gw := gw_5 (i := 104) rfl rfl
set_option maxRecDepth 100000 in
theorem ml_X2_169 : Cond.methodLink RX2 169 yJ4_append_bf812 ∈ gw := gw_5 (i := 110) rfl rfl
set_option maxRecDepth 100000 in
theorem ml_X2_206 : Cond.methodLink RX2 206 yX2_findReach ∈ gw := gw_6 (i := 41) rfl rfl
set_option maxRecDepth 100000 in
theorem ml_X2_209 : Cond.methodLink RX2 209 yX2_roundOf ∈ gw := gw_6 (i := 49) rfl rfl
set_option maxRecDepth 100000 in
theorem ml_X2_212 : Cond.methodLink RX2 212 yX2_loses ∈ gw := gw_6 (i := 53) rfl rfl
set_option maxRecDepth 100000 in
theorem ml_X2_215 : Cond.methodLink RX2 215 yX2_followers ∈ gw := gw_6 (i := 45) rfl rfl
set_option maxRecDepth 100000 in
theorem ml_X3_3 : Cond.methodLink RX3 3 ⟨"java/lang/Object", "<init>", "()V"⟩ ∈ gw := gw_1 (i := 172) rfl rfl
set_option maxRecDepth 100000 in
theorem ml_X3_28 : Cond.methodLink RX3 28 ⟨"java/lang/System", "arraycopy", "(Ljava/lang/Object;ILjava/lang/Object;II)V"⟩ ∈ gw := gw_5 (i := 213) rfl rfl
set_option maxRecDepth 100000 in
theorem ml_X4_5 : Cond.methodLink RX4 5 ⟨"java/lang/Object", "<init>", "()V"⟩ ∈ gw := gw_2 (i := 91) rfl rfl
set_option maxRecDepth 100000 in
theorem ml_X4_13 : Cond.methodLink RX4 13 yX2_init ∈ gw := gw_2 (i := 93) rfl rfl
set_option maxRecDepth 100000 in
theorem ml_X4_32 : Cond.methodLink RX4 32 yX7_scan ∈ gw := gw_3 (i := 56) rfl rfl
set_option maxRecDepth 100000 in
theorem ml_X4_49 : Cond.methodLink RX4 49 yJ7_fill_53178 ∈ gw := gw_3 (i := 153) rfl rfl
set_option maxRecDepth 100000 in
theorem ml_X4_55 : Cond.methodLink RX4 55 yX2_clear ∈ gw := gw_3 (i := 154) rfl rfl
set_option maxRecDepth 100000 in
theorem ml_X4_58 : Cond.methodLink RX4 58 yX4_isNext ∈ gw := gw_3 (i := 155) rfl rfl
set_option maxRecDepth 100000 in
theorem ml_X4_62 : Cond.methodLink RX4 62 yX4_isBroken ∈ gw := gw_3 (i := 159) rfl rfl
set_option maxRecDepth 100000 in
theorem ml_X4_66 : Cond.methodLink RX4 66 yX4_readLine ∈ gw := gw_3 (i := 163) rfl rfl
set_option maxRecDepth 100000 in
theorem ml_X4_69 : Cond.methodLink RX4 69 yX4_findAims ∈ gw := gw_3 (i := 226) rfl rfl
set_option maxRecDepth 100000 in
theorem ml_X4_72 : Cond.methodLink RX4 72 yJ9_min_7cf53 ∈ gw := gw_3 (i := 213) rfl rfl
set_option maxRecDepth 100000 in
theorem ml_X4_93 : Cond.methodLink RX4 93 yX4_readSetting ∈ gw := gw_3 (i := 167) rfl rfl
set_option maxRecDepth 100000 in
theorem ml_X4_96 : Cond.methodLink RX4 96 yX4_readNameAhead ∈ gw := gw_3 (i := 193) rfl rfl
set_option maxRecDepth 100000 in
theorem ml_X4_99 : Cond.methodLink RX4 99 yX4_readInstruction ∈ gw := gw_3 (i := 209) rfl rfl
set_option maxRecDepth 100000 in
theorem ml_X4_102 : Cond.methodLink RX4 102 yX4_takeSign ∈ gw := gw_3 (i := 205) rfl rfl
set_option maxRecDepth 100000 in
theorem ml_X4_106 : Cond.methodLink RX4 106 yX4_take ∈ gw := gw_3 (i := 171) rfl rfl
set_option maxRecDepth 100000 in
theorem ml_X4_110 : Cond.methodLink RX4 110 yX4_takeNumber ∈ gw := gw_3 (i := 179) rfl rfl
set_option maxRecDepth 100000 in
theorem ml_X4_116 : Cond.methodLink RX4 116 yX4_takeQueue ∈ gw := gw_3 (i := 188) rfl rfl
set_option maxRecDepth 100000 in
theorem ml_X4_135 : Cond.methodLink RX4 135 yX4_rowNamed ∈ gw := gw_3 (i := 197) rfl rfl
set_option maxRecDepth 100000 in
theorem ml_X4_138 : Cond.methodLink RX4 138 yX4_note ∈ gw := gw_3 (i := 184) rfl rfl
set_option maxRecDepth 100000 in
theorem ml_X4_142 : Cond.methodLink RX4 142 yX4_breakOff ∈ gw := gw_3 (i := 175) rfl rfl
set_option maxRecDepth 100000 in
theorem ml_X4_145 : Cond.methodLink RX4 145 yX4_readRest ∈ gw := gw_3 (i := 214) rfl rfl
set_option maxRecDepth 100000 in
theorem ml_X4_161 : Cond.methodLink RX4 161 yX4_takeAim ∈ gw := gw_3 (i := 218) rfl rfl
set_option maxRecDepth 100000 in
theorem ml_X4_164 : Cond.methodLink RX4 164 yX4_takeRelation ∈ gw := gw_3 (i := 222) rfl rfl
set_option maxRecDepth 100000 in
theorem ml_X4_172 : Cond.methodLink RX4 172 yX7_isSame ∈ gw := gw_3 (i := 201) rfl rfl
set_option maxRecDepth 100000 in
theorem ml_X4_176 : Cond.methodLink RX4 176 yJ9_max_7cf53 ∈ gw := gw_3 (i := 183) rfl rfl
set_option maxRecDepth 100000 in
theorem ml_X5_3 : Cond.methodLink RX5 3 ⟨"java/lang/Object", "<init>", "()V"⟩ ∈ gw := gw_1 (i := 197) rfl rfl
set_option maxRecDepth 100000 in
theorem ml_X5_41 : Cond.methodLink RX5 41 yJ7_fill_53178 ∈ gw := gw_2 (i := 6) rfl rfl
set_option maxRecDepth 100000 in
theorem ml_X5_47 : Cond.methodLink RX5 47 ⟨"java/lang/System", "arraycopy", "(Ljava/lang/Object;ILjava/lang/Object;II)V"⟩ ∈ gw := gw_5 (i := 218) rfl rfl
set_option maxRecDepth 100000 in
theorem ml_X5_58 : Cond.methodLink RX5 58 yX2_deedsAt ∈ gw := gw_4 (i := 40) rfl rfl
set_option maxRecDepth 100000 in
theorem ml_X5_62 : Cond.methodLink RX5 62 yX2_kindOf ∈ gw := gw_4 (i := 51) rfl rfl
set_option maxRecDepth 100000 in
theorem ml_X6_3 : Cond.methodLink RX6 3 ⟨"java/lang/Object", "<init>", "()V"⟩ ∈ gw := gw_2 (i := 161) rfl rfl
set_option maxRecDepth 100000 in
theorem ml_X6_21 : Cond.methodLink RX6 21 ⟨"java/lang/System", "arraycopy", "(Ljava/lang/Object;ILjava/lang/Object;II)V"⟩ ∈ gw := gw_5 (i := 188) rfl rfl
set_option maxRecDepth 100000 in
theorem ml_X6_54 : Cond.methodLink RX6 54 yX0_cellBy ∈ gw := gw_5 (i := 193) rfl rfl
set_option maxRecDepth 100000 in
theorem ml_X6_64 : Cond.methodLink RX6 64 yX0_decide ∈ gw := gw_5 (i := 194) rfl rfl
set_option maxRecDepth 100000 in
theorem ml_X7_3 : Cond.methodLink RX7 3 ⟨"java/lang/Object", "<init>", "()V"⟩ ∈ gw := gw_2 (i := 99) rfl rfl
set_option maxRecDepth 100000 in
theorem ml_X7_28 : Cond.methodLink RX7 28 yJ9_min_7cf53 ∈ gw := gw_3 (i := 60) rfl rfl
set_option maxRecDepth 100000 in
theorem ml_X7_34 : Cond.methodLink RX7 34 yJ9_max_7cf53 ∈ gw := gw_3 (i := 63) rfl rfl
set_option maxRecDepth 100000 in
theorem ml_X7_44 : Cond.methodLink RX7 44 yX7_isBlank ∈ gw := gw_3 (i := 66) rfl rfl
set_option maxRecDepth 100000 in
theorem ml_X7_48 : Cond.methodLink RX7 48 yX7_scanOne ∈ gw := gw_3 (i := 69) rfl rfl
set_option maxRecDepth 100000 in
theorem ml_X7_52 : Cond.methodLink RX7 52 yX7_add ∈ gw := gw_3 (i := 80) rfl rfl
set_option maxRecDepth 100000 in
theorem ml_X7_56 : Cond.methodLink RX7 56 yX7_isLetter ∈ gw := gw_3 (i := 73) rfl rfl
set_option maxRecDepth 100000 in
theorem ml_X7_59 : Cond.methodLink RX7 59 yX7_addLetters ∈ gw := gw_3 (i := 76) rfl rfl
set_option maxRecDepth 100000 in
theorem ml_X7_63 : Cond.methodLink RX7 63 yX7_isDigit ∈ gw := gw_3 (i := 143) rfl rfl
set_option maxRecDepth 100000 in
theorem ml_X7_66 : Cond.methodLink RX7 66 yX7_addDigits ∈ gw := gw_3 (i := 146) rfl rfl
set_option maxRecDepth 100000 in
theorem ml_X7_69 : Cond.methodLink RX7 69 yX7_isSign ∈ gw := gw_3 (i := 150) rfl rfl
set_option maxRecDepth 100000 in
theorem ml_X7_75 : Cond.methodLink RX7 75 yX7_wordNumber ∈ gw := gw_3 (i := 87) rfl rfl
set_option maxRecDepth 100000 in
theorem ml_X7_80 : Cond.methodLink RX7 80 yJ0_length_8abf5 ∈ gw := gw_3 (i := 92) rfl rfl
set_option maxRecDepth 100000 in
theorem ml_X7_85 : Cond.methodLink RX7 85 yJ0_charAt_5068e ∈ gw := gw_3 (i := 101) rfl rfl
set_option maxRecDepth 100000 in
theorem ml_X7_89 : Cond.methodLink RX7 89 yX7_isWordAt ∈ gw := gw_3 (i := 139) rfl rfl
set_option maxRecDepth 100000 in
theorem ml_X8_3 : Cond.methodLink RX8 3 ⟨"java/lang/Object", "<init>", "()V"⟩ ∈ gw := gw_1 (i := 37) rfl rfl
set_option maxRecDepth 100000 in
theorem ml_X8_21 : Cond.methodLink RX8 21 yX1_init ∈ gw := gw_1 (i := 40) rfl rfl
set_option maxRecDepth 100000 in
theorem ml_X8_29 : Cond.methodLink RX8 29 ⟨"java/lang/System", "arraycopy", "(Ljava/lang/Object;ILjava/lang/Object;II)V"⟩ ∈ gw := gw_6 (i := 75) rfl rfl
set_option maxRecDepth 100000 in
theorem ml_X8_38 : Cond.methodLink RX8 38 yX1_copyFrom ∈ gw := gw_6 (i := 76) rfl rfl
set_option maxRecDepth 100000 in
theorem ml_X9_3 : Cond.methodLink RX9 3 ⟨"java/lang/Object", "<init>", "()V"⟩ ∈ gw := gw_1 (i := 29) rfl rfl
set_option maxRecDepth 100000 in
theorem ml_X9_33 : Cond.methodLink RX9 33 yX1_init ∈ gw := gw_2 (i := 155) rfl rfl
set_option maxRecDepth 100000 in
theorem ml_X9_47 : Cond.methodLink RX9 47 yJ4_init_da8c8 ∈ gw := gw_2 (i := 181) rfl rfl
set_option maxRecDepth 100000 in
theorem ml_X9_59 : Cond.methodLink RX9 59 yX2_split ∈ gw := gw_2 (i := 210) rfl rfl
set_option maxRecDepth 100000 in
theorem ml_X9_68 : Cond.methodLink RX9 68 yX8_append ∈ gw := gw_3 (i := 40) rfl rfl
set_option maxRecDepth 100000 in
theorem ml_X9_76 : Cond.methodLink RX9 76 yX4_read ∈ gw := gw_3 (i := 52) rfl rfl
set_option maxRecDepth 100000 in
theorem ml_X9_91 : Cond.methodLink RX9 91 yX2_copyFrom ∈ gw := gw_3 (i := 230) rfl rfl
set_option maxRecDepth 100000 in
theorem ml_X9_95 : Cond.methodLink RX9 95 yX1_toBeginning ∈ gw := gw_3 (i := 239) rfl rfl
set_option maxRecDepth 100000 in
theorem ml_X9_101 : Cond.methodLink RX9 101 yX1_goOn ∈ gw := gw_4 (i := 8) rfl rfl
set_option maxRecDepth 100000 in
theorem ml_X9_105 : Cond.methodLink RX9 105 yX9_isQueue ∈ gw := gw_4 (i := 145) rfl rfl
set_option maxRecDepth 100000 in
theorem ml_X9_118 : Cond.methodLink RX9 118 yX9_figureOf ∈ gw := gw_4 (i := 152) rfl rfl
set_option maxRecDepth 100000 in
theorem ml_X9_122 : Cond.methodLink RX9 122 yX9_isSide ∈ gw := gw_4 (i := 164) rfl rfl
set_option maxRecDepth 100000 in
theorem ml_X9_125 : Cond.methodLink RX9 125 yX2_deedsInAll ∈ gw := gw_4 (i := 165) rfl rfl
set_option maxRecDepth 100000 in
theorem ml_X9_132 : Cond.methodLink RX9 132 yX5_figure ∈ gw := gw_4 (i := 170) rfl rfl
set_option maxRecDepth 100000 in
theorem ml_X9_137 : Cond.methodLink RX9 137 yX2_deedsAt ∈ gw := gw_4 (i := 178) rfl rfl
set_option maxRecDepth 100000 in
theorem ml_X9_141 : Cond.methodLink RX9 141 yX2_hasDeed ∈ gw := gw_4 (i := 183) rfl rfl
set_option maxRecDepth 100000 in
theorem ml_X9_145 : Cond.methodLink RX9 145 yJ4_setLength_d00df ∈ gw := gw_4 (i := 187) rfl rfl
set_option maxRecDepth 100000 in
theorem ml_X9_148 : Cond.methodLink RX9 148 yX2_write ∈ gw := gw_5 (i := 1) rfl rfl
set_option maxRecDepth 100000 in
theorem ml_X9_152 : Cond.methodLink RX9 152 yJ4_length_8abf5 ∈ gw := gw_5 (i := 135) rfl rfl
set_option maxRecDepth 100000 in
theorem ml_X9_155 : Cond.methodLink RX9 155 yJ4_charAt_5068e ∈ gw := gw_5 (i := 142) rfl rfl
set_option maxRecDepth 100000 in
theorem ml_X9_164 : Cond.methodLink RX9 164 yX3_heldAt ∈ gw := gw_5 (i := 160) rfl rfl
set_option maxRecDepth 100000 in
theorem ml_X9_167 : Cond.methodLink RX9 167 yX9_isCell ∈ gw := gw_5 (i := 172) rfl rfl
set_option maxRecDepth 100000 in
theorem ml_X9_173 : Cond.methodLink RX9 173 yX9_isRegister ∈ gw := gw_5 (i := 179) rfl rfl
set_option maxRecDepth 100000 in
theorem ml_X9_179 : Cond.methodLink RX9 179 yX6_startOf ∈ gw := gw_5 (i := 184) rfl rfl
set_option maxRecDepth 100000 in
theorem ml_X9_186 : Cond.methodLink RX9 186 yX6_step ∈ gw := gw_5 (i := 189) rfl rfl
set_option maxRecDepth 100000 in
theorem ml_X9_189 : Cond.methodLink RX9 189 yX6_figure ∈ gw := gw_5 (i := 196) rfl rfl
set_option maxRecDepth 100000 in
theorem ml_X9_190 : Cond.methodLink RX9 190 yX1_copyFrom ∈ gw := gw_5 (i := 204) rfl rfl
set_option maxRecDepth 100000 in
theorem ml_X9_193 : Cond.methodLink RX9 193 yX9_tryFromBeginning ∈ gw := gw_5 (i := 223) rfl rfl
set_option maxRecDepth 100000 in
theorem ml_X9_196 : Cond.methodLink RX9 196 yX1_timeIfDone ∈ gw := gw_5 (i := 227) rfl rfl
set_option maxRecDepth 100000 in
theorem ml_X9_202 : Cond.methodLink RX9 202 yX9_timeKeeping ∈ gw := gw_5 (i := 239) rfl rfl
set_option maxRecDepth 100000 in
theorem ml_X9_205 : Cond.methodLink RX9 205 yX9_time ∈ gw := gw_6 (i := 8) rfl rfl
set_option maxRecDepth 100000 in
theorem ml_X9_208 : Cond.methodLink RX9 208 yX9_noTimeIsMost ∈ gw := gw_6 (i := 9) rfl rfl
set_option maxRecDepth 100000 in
theorem ml_X9_214 : Cond.methodLink RX9 214 yX9_isIn ∈ gw := gw_6 (i := 12) rfl rfl
set_option maxRecDepth 100000 in
theorem ml_X9_218 : Cond.methodLink RX9 218 yX9_leastNotStuck ∈ gw := gw_6 (i := 17) rfl rfl
set_option maxRecDepth 100000 in
theorem ml_X9_221 : Cond.methodLink RX9 221 yX9_timeWithRoom ∈ gw := gw_6 (i := 25) rfl rfl
set_option maxRecDepth 100000 in
theorem ml_X9_224 : Cond.methodLink RX9 224 yX2_roundBits ∈ gw := gw_6 (i := 37) rfl rfl
set_option maxRecDepth 100000 in
theorem ml_X9_230 : Cond.methodLink RX9 230 yX1_oneCycle ∈ gw := gw_6 (i := 61) rfl rfl
set_option maxRecDepth 100000 in
theorem ml_X9_236 : Cond.methodLink RX9 236 yX1_slip ∈ gw := gw_6 (i := 66) rfl rfl
set_option maxRecDepth 100000 in
theorem ml_X9_239 : Cond.methodLink RX9 239 yX8_copyFrom ∈ gw := gw_6 (i := 71) rfl rfl
set_option maxRecDepth 100000 in
theorem ml_X9_242 : Cond.methodLink RX9 242 yX1_figure ∈ gw := gw_4 (i := 156) rfl rfl
set_option maxRecDepth 100000 in
theorem ml_X9_246 : Cond.methodLink RX9 246 yX9_bit ∈ gw := gw_6 (i := 3) rfl rfl
set_option maxRecDepth 100000 in
theorem ml_X9_249 : Cond.methodLink RX9 249 yX1_setRooms ∈ gw := gw_6 (i := 21) rfl rfl
set_option maxRecDepth 100000 in
theorem im_J0_charAt_5068e : Cond.instanceMethod yJ0_charAt_5068e ∈ gw := gw_3 (i := 102) rfl rfl
set_option maxRecDepth 100000 in
theorem im_J0_coder_7d493 : Cond.instanceMethod yJ0_coder_7d493 ∈ gw := gw_3 (i := 97) rfl rfl
set_option maxRecDepth 100000 in
theorem im_J0_getBytes_840e7 : Cond.instanceMethod yJ0_getBytes_840e7 ∈ gw := gw_5 (i := 82) rfl rfl
set_option maxRecDepth 100000 in
theorem im_J0_isLatin1_aae02 : Cond.instanceMethod yJ0_isLatin1_aae02 ∈ gw := gw_3 (i := 106) rfl rfl
set_option maxRecDepth 100000 in
theorem im_J0_length_8abf5 : Cond.instanceMethod yJ0_length_8abf5 ∈ gw := gw_3 (i := 93) rfl rfl
set_option maxRecDepth 100000 in
theorem im_J4_init_da8c8 : Cond.instanceMethod yJ4_init_da8c8 ∈ gw := gw_2 (i := 182) rfl rfl
set_option maxRecDepth 100000 in
theorem im_J4_append_cf468 : Cond.instanceMethod yJ4_append_cf468 ∈ gw := gw_5 (i := 92) rfl rfl
set_option maxRecDepth 100000 in
theorem im_J4_append_bf812 : Cond.instanceMethod yJ4_append_bf812 ∈ gw := gw_5 (i := 111) rfl rfl
set_option maxRecDepth 100000 in
theorem im_J4_append_15ec4 : Cond.instanceMethod yJ4_append_15ec4 ∈ gw := gw_5 (i := 27) rfl rfl
set_option maxRecDepth 100000 in
theorem im_J4_charAt_5068e : Cond.instanceMethod yJ4_charAt_5068e ∈ gw := gw_5 (i := 143) rfl rfl
set_option maxRecDepth 100000 in
theorem im_J4_length_8abf5 : Cond.instanceMethod yJ4_length_8abf5 ∈ gw := gw_5 (i := 136) rfl rfl
set_option maxRecDepth 100000 in
theorem im_J4_setLength_d00df : Cond.instanceMethod yJ4_setLength_d00df ∈ gw := gw_4 (i := 188) rfl rfl
set_option maxRecDepth 100000 in
theorem im_J5_init_d00df : Cond.instanceMethod yJ5_init_d00df ∈ gw := gw_2 (i := 185) rfl rfl
set_option maxRecDepth 100000 in
theorem im_J5_append_3fe6f : Cond.instanceMethod yJ5_append_3fe6f ∈ gw := gw_5 (i := 96) rfl rfl
set_option maxRecDepth 100000 in
theorem im_J5_append_c97b9 : Cond.instanceMethod yJ5_append_c97b9 ∈ gw := gw_5 (i := 115) rfl rfl
set_option maxRecDepth 100000 in
theorem im_J5_append_cf1ce : Cond.instanceMethod yJ5_append_cf1ce ∈ gw := gw_5 (i := 31) rfl rfl
set_option maxRecDepth 100000 in
theorem im_J5_appendNull_278bc : Cond.instanceMethod yJ5_appendNull_278bc ∈ gw := gw_5 (i := 35) rfl rfl
set_option maxRecDepth 100000 in
theorem im_J5_charAt_5068e : Cond.instanceMethod yJ5_charAt_5068e ∈ gw := gw_5 (i := 147) rfl rfl
set_option maxRecDepth 100000 in
theorem im_J5_ensureCapacityInternal_d00df : Cond.instanceMethod yJ5_ensureCapacityInternal_d00df ∈ gw := gw_4 (i := 196) rfl rfl
set_option maxRecDepth 100000 in
theorem im_J5_inflate_da8c8 : Cond.instanceMethod yJ5_inflate_da8c8 ∈ gw := gw_5 (i := 64) rfl rfl
set_option maxRecDepth 100000 in
theorem im_J5_inflateIfNeededFor_a7421 : Cond.instanceMethod yJ5_inflateIfNeededFor_a7421 ∈ gw := gw_5 (i := 59) rfl rfl
set_option maxRecDepth 100000 in
theorem im_J5_isLatin1_aae02 : Cond.instanceMethod yJ5_isLatin1_aae02 ∈ gw := gw_4 (i := 224) rfl rfl
set_option maxRecDepth 100000 in
theorem im_J5_length_8abf5 : Cond.instanceMethod yJ5_length_8abf5 ∈ gw := gw_5 (i := 140) rfl rfl
set_option maxRecDepth 100000 in
theorem im_J5_newCapacity_0f7a4 : Cond.instanceMethod yJ5_newCapacity_0f7a4 ∈ gw := gw_4 (i := 200) rfl rfl
set_option maxRecDepth 100000 in
theorem im_J5_putStringAt_47b60 : Cond.instanceMethod yJ5_putStringAt_47b60 ∈ gw := gw_5 (i := 55) rfl rfl
set_option maxRecDepth 100000 in
theorem im_J5_setLength_d00df : Cond.instanceMethod yJ5_setLength_d00df ∈ gw := gw_4 (i := 192) rfl rfl
set_option maxRecDepth 100000 in
theorem im_X0_init : Cond.instanceMethod yX0_init ∈ gw := gw_1 (i := 54) rfl rfl
set_option maxRecDepth 100000 in
theorem im_X0_cellBy : Cond.instanceMethod yX0_cellBy ∈ gw := gw_4 (i := 60) rfl rfl
set_option maxRecDepth 100000 in
theorem im_X0_copyFrom : Cond.instanceMethod yX0_copyFrom ∈ gw := gw_3 (i := 235) rfl rfl
set_option maxRecDepth 100000 in
theorem im_X0_decide : Cond.instanceMethod yX0_decide ∈ gw := gw_4 (i := 88) rfl rfl
set_option maxRecDepth 100000 in
theorem im_X1_init : Cond.instanceMethod yX1_init ∈ gw := gw_1 (i := 41) rfl rfl
set_option maxRecDepth 100000 in
theorem im_X1_allLoadsHaveCome : Cond.instanceMethod yX1_allLoadsHaveCome ∈ gw := gw_4 (i := 135) rfl rfl
set_option maxRecDepth 100000 in
theorem im_X1_copyFrom : Cond.instanceMethod yX1_copyFrom ∈ gw := gw_5 (i := 205) rfl rfl
set_option maxRecDepth 100000 in
theorem im_X1_fetchWaitsFor : Cond.instanceMethod yX1_fetchWaitsFor ∈ gw := gw_4 (i := 73) rfl rfl
set_option maxRecDepth 100000 in
theorem im_X1_figure : Cond.instanceMethod yX1_figure ∈ gw := gw_4 (i := 157) rfl rfl
set_option maxRecDepth 100000 in
theorem im_X1_goOn : Cond.instanceMethod yX1_goOn ∈ gw := gw_4 (i := 9) rfl rfl
set_option maxRecDepth 100000 in
theorem im_X1_hasCome : Cond.instanceMethod yX1_hasCome ∈ gw := gw_4 (i := 108) rfl rfl
set_option maxRecDepth 100000 in
theorem im_X1_lacksCopies : Cond.instanceMethod yX1_lacksCopies ∈ gw := gw_4 (i := 112) rfl rfl
set_option maxRecDepth 100000 in
theorem im_X1_oneCycle : Cond.instanceMethod yX1_oneCycle ∈ gw := gw_4 (i := 13) rfl rfl
set_option maxRecDepth 100000 in
theorem im_X1_outcomeNow : Cond.instanceMethod yX1_outcomeNow ∈ gw := gw_4 (i := 131) rfl rfl
set_option maxRecDepth 100000 in
theorem im_X1_ownOrCopy : Cond.instanceMethod yX1_ownOrCopy ∈ gw := gw_4 (i := 121) rfl rfl
set_option maxRecDepth 100000 in
theorem im_X1_runnerDoes : Cond.instanceMethod yX1_runnerDoes ∈ gw := gw_4 (i := 77) rfl rfl
set_option maxRecDepth 100000 in
theorem im_X1_runnerTries : Cond.instanceMethod yX1_runnerTries ∈ gw := gw_4 (i := 30) rfl rfl
set_option maxRecDepth 100000 in
theorem im_X1_runnerWaitsFor : Cond.instanceMethod yX1_runnerWaitsFor ∈ gw := gw_4 (i := 57) rfl rfl
set_option maxRecDepth 100000 in
theorem im_X1_setRooms : Cond.instanceMethod yX1_setRooms ∈ gw := gw_6 (i := 22) rfl rfl
set_option maxRecDepth 100000 in
theorem im_X1_slip : Cond.instanceMethod yX1_slip ∈ gw := gw_4 (i := 124) rfl rfl
set_option maxRecDepth 100000 in
theorem im_X1_timeIfDone : Cond.instanceMethod yX1_timeIfDone ∈ gw := gw_5 (i := 228) rfl rfl
set_option maxRecDepth 100000 in
theorem im_X1_toBeginning : Cond.instanceMethod yX1_toBeginning ∈ gw := gw_1 (i := 232) rfl rfl
set_option maxRecDepth 100000 in
theorem im_X1_workerDoes : Cond.instanceMethod yX1_workerDoes ∈ gw := gw_4 (i := 117) rfl rfl
set_option maxRecDepth 100000 in
theorem im_X1_workerTries : Cond.instanceMethod yX1_workerTries ∈ gw := gw_4 (i := 100) rfl rfl
set_option maxRecDepth 100000 in
theorem im_X1_workerWaitsFor : Cond.instanceMethod yX1_workerWaitsFor ∈ gw := gw_4 (i := 104) rfl rfl
set_option maxRecDepth 100000 in
theorem im_X1_writeOne : Cond.instanceMethod yX1_writeOne ∈ gw := gw_4 (i := 18) rfl rfl
set_option maxRecDepth 100000 in
theorem im_X10_init : Cond.instanceMethod yX10_init ∈ gw := gw_6 (i := 84) rfl rfl
set_option maxRecDepth 100000 in
theorem im_X10_again : Cond.instanceMethod yX10_again ∈ gw := gw_8 (i := 158) rfl rfl
set_option maxRecDepth 100000 in
theorem im_X10_ahead : Cond.instanceMethod yX10_ahead ∈ gw := gw_7 (i := 127) rfl rfl
set_option maxRecDepth 100000 in
theorem im_X10_aims : Cond.instanceMethod yX10_aims ∈ gw := gw_6 (i := 97) rfl rfl
set_option maxRecDepth 100000 in
theorem im_X10_alone : Cond.instanceMethod yX10_alone ∈ gw := gw_7 (i := 143) rfl rfl
set_option maxRecDepth 100000 in
theorem im_X10_alsoWrong : Cond.instanceMethod yX10_alsoWrong ∈ gw := gw_8 (i := 87) rfl rfl
set_option maxRecDepth 100000 in
theorem im_X10_begin : Cond.instanceMethod yX10_begin ∈ gw := gw_7 (i := 187) rfl rfl
set_option maxRecDepth 100000 in
theorem im_X10_best : Cond.instanceMethod yX10_best ∈ gw := gw_7 (i := 109) rfl rfl
set_option maxRecDepth 100000 in
theorem im_X10_byteAt : Cond.instanceMethod yX10_byteAt ∈ gw := gw_8 (i := 50) rfl rfl
set_option maxRecDepth 100000 in
theorem im_X10_cell : Cond.instanceMethod yX10_cell ∈ gw := gw_7 (i := 224) rfl rfl
set_option maxRecDepth 100000 in
theorem im_X10_cellOf : Cond.instanceMethod yX10_cellOf ∈ gw := gw_7 (i := 33) rfl rfl
set_option maxRecDepth 100000 in
theorem im_X10_changed : Cond.instanceMethod yX10_changed ∈ gw := gw_7 (i := 135) rfl rfl
set_option maxRecDepth 100000 in
theorem im_X10_clears : Cond.instanceMethod yX10_clears ∈ gw := gw_6 (i := 89) rfl rfl
set_option maxRecDepth 100000 in
theorem im_X10_copies : Cond.instanceMethod yX10_copies ∈ gw := gw_6 (i := 199) rfl rfl
set_option maxRecDepth 100000 in
theorem im_X10_count : Cond.instanceMethod yX10_count ∈ gw := gw_7 (i := 195) rfl rfl
set_option maxRecDepth 100000 in
theorem im_X10_counts : Cond.instanceMethod yX10_counts ∈ gw := gw_7 (i := 132) rfl rfl
set_option maxRecDepth 100000 in
theorem im_X10_cycle : Cond.instanceMethod yX10_cycle ∈ gw := gw_6 (i := 211) rfl rfl
set_option maxRecDepth 100000 in
theorem im_X10_cycles : Cond.instanceMethod yX10_cycles ∈ gw := gw_7 (i := 183) rfl rfl
set_option maxRecDepth 100000 in
theorem im_X10_decides : Cond.instanceMethod yX10_decides ∈ gw := gw_8 (i := 38) rfl rfl
set_option maxRecDepth 100000 in
theorem im_X10_deed : Cond.instanceMethod yX10_deed ∈ gw := gw_7 (i := 9) rfl rfl
set_option maxRecDepth 100000 in
theorem im_X10_deeds : Cond.instanceMethod yX10_deeds ∈ gw := gw_7 (i := 203) rfl rfl
set_option maxRecDepth 100000 in
theorem im_X10_did : Cond.instanceMethod yX10_did ∈ gw := gw_7 (i := 207) rfl rfl
set_option maxRecDepth 100000 in
theorem im_X10_does : Cond.instanceMethod yX10_does ∈ gw := gw_7 (i := 71) rfl rfl
set_option maxRecDepth 100000 in
theorem im_X10_end : Cond.instanceMethod yX10_end ∈ gw := gw_7 (i := 175) rfl rfl
set_option maxRecDepth 100000 in
theorem im_X10_ending : Cond.instanceMethod yX10_ending ∈ gw := gw_6 (i := 203) rfl rfl
set_option maxRecDepth 100000 in
theorem im_X10_ends : Cond.instanceMethod yX10_ends ∈ gw := gw_7 (i := 67) rfl rfl
set_option maxRecDepth 100000 in
theorem im_X10_excuse : Cond.instanceMethod yX10_excuse ∈ gw := gw_7 (i := 79) rfl rfl
set_option maxRecDepth 100000 in
theorem im_X10_fails : Cond.instanceMethod yX10_fails ∈ gw := gw_8 (i := 83) rfl rfl
set_option maxRecDepth 100000 in
theorem im_X10_fault : Cond.instanceMethod yX10_fault ∈ gw := gw_7 (i := 179) rfl rfl
set_option maxRecDepth 100000 in
theorem im_X10_feed : Cond.instanceMethod yX10_feed ∈ gw := gw_7 (i := 171) rfl rfl
set_option maxRecDepth 100000 in
theorem im_X10_finds : Cond.instanceMethod yX10_finds ∈ gw := gw_8 (i := 151) rfl rfl
set_option maxRecDepth 100000 in
theorem im_X10_first : Cond.instanceMethod yX10_first ∈ gw := gw_6 (i := 229) rfl rfl
set_option maxRecDepth 100000 in
theorem im_X10_goes : Cond.instanceMethod yX10_goes ∈ gw := gw_6 (i := 207) rfl rfl
set_option maxRecDepth 100000 in
theorem im_X10_hasCome : Cond.instanceMethod yX10_hasCome ∈ gw := gw_7 (i := 83) rfl rfl
set_option maxRecDepth 100000 in
theorem im_X10_hasWord : Cond.instanceMethod yX10_hasWord ∈ gw := gw_8 (i := 71) rfl rfl
set_option maxRecDepth 100000 in
theorem im_X10_haveCome : Cond.instanceMethod yX10_haveCome ∈ gw := gw_7 (i := 95) rfl rfl
set_option maxRecDepth 100000 in
theorem im_X10_image : Cond.instanceMethod yX10_image ∈ gw := gw_8 (i := 154) rfl rfl
set_option maxRecDepth 100000 in
theorem im_X10_inQueue : Cond.instanceMethod yX10_inQueue ∈ gw := gw_6 (i := 222) rfl rfl
set_option maxRecDepth 100000 in
theorem im_X10_isAim : Cond.instanceMethod yX10_isAim ∈ gw := gw_7 (i := 13) rfl rfl
set_option maxRecDepth 100000 in
theorem im_X10_isDeed : Cond.instanceMethod yX10_isDeed ∈ gw := gw_7 (i := 212) rfl rfl
set_option maxRecDepth 100000 in
theorem im_X10_isEnded : Cond.instanceMethod yX10_isEnded ∈ gw := gw_6 (i := 237) rfl rfl
set_option maxRecDepth 100000 in
theorem im_X10_isFull : Cond.instanceMethod yX10_isFull ∈ gw := gw_7 (i := 29) rfl rfl
set_option maxRecDepth 100000 in
theorem im_X10_isGood : Cond.instanceMethod yX10_isGood ∈ gw := gw_8 (i := 62) rfl rfl
set_option maxRecDepth 100000 in
theorem im_X10_isLosing : Cond.instanceMethod yX10_isLosing ∈ gw := gw_7 (i := 164) rfl rfl
set_option maxRecDepth 100000 in
theorem im_X10_isName : Cond.instanceMethod yX10_isName ∈ gw := gw_8 (i := 114) rfl rfl
set_option maxRecDepth 100000 in
theorem im_X10_isStored : Cond.instanceMethod yX10_isStored ∈ gw := gw_7 (i := 41) rfl rfl
set_option maxRecDepth 100000 in
theorem im_X10_isWord : Cond.instanceMethod yX10_isWord ∈ gw := gw_8 (i := 75) rfl rfl
set_option maxRecDepth 100000 in
theorem im_X10_keeping : Cond.instanceMethod yX10_keeping ∈ gw := gw_7 (i := 105) rfl rfl
set_option maxRecDepth 100000 in
theorem im_X10_late : Cond.instanceMethod yX10_late ∈ gw := gw_7 (i := 98) rfl rfl
set_option maxRecDepth 100000 in
theorem im_X10_lays : Cond.instanceMethod yX10_lays ∈ gw := gw_8 (i := 26) rfl rfl
set_option maxRecDepth 100000 in
theorem im_X10_least : Cond.instanceMethod yX10_least ∈ gw := gw_7 (i := 115) rfl rfl
set_option maxRecDepth 100000 in
theorem im_X10_letter : Cond.instanceMethod yX10_letter ∈ gw := gw_8 (i := 30) rfl rfl
set_option maxRecDepth 100000 in
theorem im_X10_letterTaken : Cond.instanceMethod yX10_letterTaken ∈ gw := gw_8 (i := 107) rfl rfl
set_option maxRecDepth 100000 in
theorem im_X10_many : Cond.instanceMethod yX10_many ∈ gw := gw_7 (i := 168) rfl rfl
set_option maxRecDepth 100000 in
theorem im_X10_nameBy : Cond.instanceMethod yX10_nameBy ∈ gw := gw_8 (i := 128) rfl rfl
set_option maxRecDepth 100000 in
theorem im_X10_next : Cond.instanceMethod yX10_next ∈ gw := gw_7 (i := 160) rfl rfl
set_option maxRecDepth 100000 in
theorem im_X10_number : Cond.instanceMethod yX10_number ∈ gw := gw_8 (i := 34) rfl rfl
set_option maxRecDepth 100000 in
theorem im_X10_numeral : Cond.instanceMethod yX10_numeral ∈ gw := gw_8 (i := 79) rfl rfl
set_option maxRecDepth 100000 in
theorem im_X10_of : Cond.instanceMethod yX10_of ∈ gw := gw_6 (i := 105) rfl rfl
set_option maxRecDepth 100000 in
theorem im_X10_opHere : Cond.instanceMethod yX10_opHere ∈ gw := gw_8 (i := 140) rfl rfl
set_option maxRecDepth 100000 in
theorem im_X10_opOf : Cond.instanceMethod yX10_opOf ∈ gw := gw_6 (i := 101) rfl rfl
set_option maxRecDepth 100000 in
theorem im_X10_passes : Cond.instanceMethod yX10_passes ∈ gw := gw_7 (i := 5) rfl rfl
set_option maxRecDepth 100000 in
theorem im_X10_program : Cond.instanceMethod yX10_program ∈ gw := gw_8 (i := 41) rfl rfl
set_option maxRecDepth 100000 in
theorem im_X10_pushes : Cond.instanceMethod yX10_pushes ∈ gw := gw_7 (i := 49) rfl rfl
set_option maxRecDepth 100000 in
theorem im_X10_queue : Cond.instanceMethod yX10_queue ∈ gw := gw_7 (i := 216) rfl rfl
set_option maxRecDepth 100000 in
theorem im_X10_queueTaken : Cond.instanceMethod yX10_queueTaken ∈ gw := gw_8 (i := 92) rfl rfl
set_option maxRecDepth 100000 in
theorem im_X10_reach : Cond.instanceMethod yX10_reach ∈ gw := gw_7 (i := 156) rfl rfl
set_option maxRecDepth 100000 in
theorem im_X10_reads : Cond.instanceMethod yX10_reads ∈ gw := gw_8 (i := 124) rfl rfl
set_option maxRecDepth 100000 in
theorem im_X10_readsInstruction : Cond.instanceMethod yX10_readsInstruction ∈ gw := gw_8 (i := 136) rfl rfl
set_option maxRecDepth 100000 in
theorem im_X10_readsLine : Cond.instanceMethod yX10_readsLine ∈ gw := gw_8 (i := 66) rfl rfl
set_option maxRecDepth 100000 in
theorem im_X10_reason : Cond.instanceMethod yX10_reason ∈ gw := gw_7 (i := 25) rfl rfl
set_option maxRecDepth 100000 in
theorem im_X10_reckoned : Cond.instanceMethod yX10_reckoned ∈ gw := gw_7 (i := 53) rfl rfl
set_option maxRecDepth 100000 in
theorem im_X10_reckons : Cond.instanceMethod yX10_reckons ∈ gw := gw_7 (i := 57) rfl rfl
set_option maxRecDepth 100000 in
theorem im_X10_reg : Cond.instanceMethod yX10_reg ∈ gw := gw_7 (i := 37) rfl rfl
set_option maxRecDepth 100000 in
theorem im_X10_register : Cond.instanceMethod yX10_register ∈ gw := gw_7 (i := 228) rfl rfl
set_option maxRecDepth 100000 in
theorem im_X10_room : Cond.instanceMethod yX10_room ∈ gw := gw_7 (i := 191) rfl rfl
set_option maxRecDepth 100000 in
theorem im_X10_roomOf : Cond.instanceMethod yX10_roomOf ∈ gw := gw_7 (i := 220) rfl rfl
set_option maxRecDepth 100000 in
theorem im_X10_rounds : Cond.instanceMethod yX10_rounds ∈ gw := gw_7 (i := 151) rfl rfl
set_option maxRecDepth 100000 in
theorem im_X10_runs : Cond.instanceMethod yX10_runs ∈ gw := gw_7 (i := 1) rfl rfl
set_option maxRecDepth 100000 in
theorem im_X10_safe : Cond.instanceMethod yX10_safe ∈ gw := gw_7 (i := 123) rfl rfl
set_option maxRecDepth 100000 in
theorem im_X10_send : Cond.instanceMethod yX10_send ∈ gw := gw_7 (i := 21) rfl rfl
set_option maxRecDepth 100000 in
theorem im_X10_sends : Cond.instanceMethod yX10_sends ∈ gw := gw_7 (i := 17) rfl rfl
set_option maxRecDepth 100000 in
theorem im_X10_side : Cond.instanceMethod yX10_side ∈ gw := gw_7 (i := 199) rfl rfl
set_option maxRecDepth 100000 in
theorem im_X10_sign : Cond.instanceMethod yX10_sign ∈ gw := gw_8 (i := 132) rfl rfl
set_option maxRecDepth 100000 in
theorem im_X10_slip : Cond.instanceMethod yX10_slip ∈ gw := gw_7 (i := 91) rfl rfl
set_option maxRecDepth 100000 in
theorem im_X10_slipped : Cond.instanceMethod yX10_slipped ∈ gw := gw_7 (i := 139) rfl rfl
set_option maxRecDepth 100000 in
theorem im_X10_starts : Cond.instanceMethod yX10_starts ∈ gw := gw_6 (i := 93) rfl rfl
set_option maxRecDepth 100000 in
theorem im_X10_step : Cond.instanceMethod yX10_step ∈ gw := gw_7 (i := 148) rfl rfl
set_option maxRecDepth 100000 in
theorem im_X10_takes : Cond.instanceMethod yX10_takes ∈ gw := gw_6 (i := 233) rfl rfl
set_option maxRecDepth 100000 in
theorem im_X10_takesToken : Cond.instanceMethod yX10_takesToken ∈ gw := gw_8 (i := 46) rfl rfl
set_option maxRecDepth 100000 in
theorem im_X10_tells : Cond.instanceMethod yX10_tells ∈ gw := gw_7 (i := 237) rfl rfl
set_option maxRecDepth 100000 in
theorem im_X10_text : Cond.instanceMethod yX10_text ∈ gw := gw_7 (i := 232) rfl rfl
set_option maxRecDepth 100000 in
theorem im_X10_time : Cond.instanceMethod yX10_time ∈ gw := gw_6 (i := 190) rfl rfl
set_option maxRecDepth 100000 in
theorem im_X10_timeBy : Cond.instanceMethod yX10_timeBy ∈ gw := gw_7 (i := 120) rfl rfl
set_option maxRecDepth 100000 in
theorem im_X10_toils : Cond.instanceMethod yX10_toils ∈ gw := gw_7 (i := 75) rfl rfl
set_option maxRecDepth 100000 in
theorem im_X10_tries : Cond.instanceMethod yX10_tries ∈ gw := gw_6 (i := 195) rfl rfl
set_option maxRecDepth 100000 in
theorem im_X10_waits : Cond.instanceMethod yX10_waits ∈ gw := gw_7 (i := 45) rfl rfl
set_option maxRecDepth 100000 in
theorem im_X10_wants : Cond.instanceMethod yX10_wants ∈ gw := gw_8 (i := 147) rfl rfl
set_option maxRecDepth 100000 in
theorem im_X10_word : Cond.instanceMethod yX10_word ∈ gw := gw_8 (i := 21) rfl rfl
set_option maxRecDepth 100000 in
theorem im_X10_works : Cond.instanceMethod yX10_works ∈ gw := gw_7 (i := 87) rfl rfl
set_option maxRecDepth 100000 in
theorem im_X10_writes : Cond.instanceMethod yX10_writes ∈ gw := gw_6 (i := 218) rfl rfl
set_option maxRecDepth 100000 in
theorem im_X2_init : Cond.instanceMethod yX2_init ∈ gw := gw_1 (i := 47) rfl rfl
set_option maxRecDepth 100000 in
theorem im_X2_addDeed : Cond.instanceMethod yX2_addDeed ∈ gw := gw_2 (i := 233) rfl rfl
set_option maxRecDepth 100000 in
theorem im_X2_addSend : Cond.instanceMethod yX2_addSend ∈ gw := gw_3 (i := 4) rfl rfl
set_option maxRecDepth 100000 in
theorem im_X2_clear : Cond.instanceMethod yX2_clear ∈ gw := gw_1 (i := 100) rfl rfl
set_option maxRecDepth 100000 in
theorem im_X2_copyFrom : Cond.instanceMethod yX2_copyFrom ∈ gw := gw_3 (i := 231) rfl rfl
set_option maxRecDepth 100000 in
theorem im_X2_deedsAt : Cond.instanceMethod yX2_deedsAt ∈ gw := gw_4 (i := 41) rfl rfl
set_option maxRecDepth 100000 in
theorem im_X2_deedsInAll : Cond.instanceMethod yX2_deedsInAll ∈ gw := gw_4 (i := 166) rfl rfl
set_option maxRecDepth 100000 in
theorem im_X2_findReach : Cond.instanceMethod yX2_findReach ∈ gw := gw_6 (i := 43) rfl rfl
set_option maxRecDepth 100000 in
theorem im_X2_followers : Cond.instanceMethod yX2_followers ∈ gw := gw_6 (i := 47) rfl rfl
set_option maxRecDepth 100000 in
theorem im_X2_hasDeed : Cond.instanceMethod yX2_hasDeed ∈ gw := gw_4 (i := 184) rfl rfl
set_option maxRecDepth 100000 in
theorem im_X2_kindOf : Cond.instanceMethod yX2_kindOf ∈ gw := gw_4 (i := 52) rfl rfl
set_option maxRecDepth 100000 in
theorem im_X2_loses : Cond.instanceMethod yX2_loses ∈ gw := gw_6 (i := 55) rfl rfl
set_option maxRecDepth 100000 in
theorem im_X2_roundBits : Cond.instanceMethod yX2_roundBits ∈ gw := gw_6 (i := 38) rfl rfl
set_option maxRecDepth 100000 in
theorem im_X2_roundOf : Cond.instanceMethod yX2_roundOf ∈ gw := gw_6 (i := 51) rfl rfl
set_option maxRecDepth 100000 in
theorem im_X2_sentAt : Cond.instanceMethod yX2_sentAt ∈ gw := gw_4 (i := 80) rfl rfl
set_option maxRecDepth 100000 in
theorem im_X2_split : Cond.instanceMethod yX2_split ∈ gw := gw_2 (i := 211) rfl rfl
set_option maxRecDepth 100000 in
theorem im_X2_splitIf : Cond.instanceMethod yX2_splitIf ∈ gw := gw_3 (i := 12) rfl rfl
set_option maxRecDepth 100000 in
theorem im_X2_splitMemory : Cond.instanceMethod yX2_splitMemory ∈ gw := gw_3 (i := 8) rfl rfl
set_option maxRecDepth 100000 in
theorem im_X2_splitOne : Cond.instanceMethod yX2_splitOne ∈ gw := gw_2 (i := 229) rfl rfl
set_option maxRecDepth 100000 in
theorem im_X2_splitReckoning : Cond.instanceMethod yX2_splitReckoning ∈ gw := gw_3 (i := 0) rfl rfl
set_option maxRecDepth 100000 in
theorem im_X2_widenAims : Cond.instanceMethod yX2_widenAims ∈ gw := gw_2 (i := 216) rfl rfl
set_option maxRecDepth 100000 in
theorem im_X2_write : Cond.instanceMethod yX2_write ∈ gw := gw_5 (i := 2) rfl rfl
set_option maxRecDepth 100000 in
theorem im_X3_init : Cond.instanceMethod yX3_init ∈ gw := gw_1 (i := 170) rfl rfl
set_option maxRecDepth 100000 in
theorem im_X3_add : Cond.instanceMethod yX3_add ∈ gw := gw_4 (i := 84) rfl rfl
set_option maxRecDepth 100000 in
theorem im_X3_clear : Cond.instanceMethod yX3_clear ∈ gw := gw_1 (i := 239) rfl rfl
set_option maxRecDepth 100000 in
theorem im_X3_copyFrom : Cond.instanceMethod yX3_copyFrom ∈ gw := gw_5 (i := 210) rfl rfl
set_option maxRecDepth 100000 in
theorem im_X3_heldAt : Cond.instanceMethod yX3_heldAt ∈ gw := gw_5 (i := 161) rfl rfl
set_option maxRecDepth 100000 in
theorem im_X3_holds : Cond.instanceMethod yX3_holds ∈ gw := gw_4 (i := 64) rfl rfl
set_option maxRecDepth 100000 in
theorem im_X3_isFull : Cond.instanceMethod yX3_isFull ∈ gw := gw_4 (i := 68) rfl rfl
set_option maxRecDepth 100000 in
theorem im_X3_markAt : Cond.instanceMethod yX3_markAt ∈ gw := gw_4 (i := 21) rfl rfl
set_option maxRecDepth 100000 in
theorem im_X3_take : Cond.instanceMethod yX3_take ∈ gw := gw_4 (i := 25) rfl rfl
set_option maxRecDepth 100000 in
theorem im_X4_init : Cond.instanceMethod yX4_init ∈ gw := gw_2 (i := 89) rfl rfl
set_option maxRecDepth 100000 in
theorem im_X4_breakOff : Cond.instanceMethod yX4_breakOff ∈ gw := gw_3 (i := 177) rfl rfl
set_option maxRecDepth 100000 in
theorem im_X4_findAims : Cond.instanceMethod yX4_findAims ∈ gw := gw_3 (i := 228) rfl rfl
set_option maxRecDepth 100000 in
theorem im_X4_isBroken : Cond.instanceMethod yX4_isBroken ∈ gw := gw_3 (i := 161) rfl rfl
set_option maxRecDepth 100000 in
theorem im_X4_isNext : Cond.instanceMethod yX4_isNext ∈ gw := gw_3 (i := 157) rfl rfl
set_option maxRecDepth 100000 in
theorem im_X4_note : Cond.instanceMethod yX4_note ∈ gw := gw_3 (i := 186) rfl rfl
set_option maxRecDepth 100000 in
theorem im_X4_read : Cond.instanceMethod yX4_read ∈ gw := gw_3 (i := 53) rfl rfl
set_option maxRecDepth 100000 in
theorem im_X4_readInstruction : Cond.instanceMethod yX4_readInstruction ∈ gw := gw_3 (i := 211) rfl rfl
set_option maxRecDepth 100000 in
theorem im_X4_readLine : Cond.instanceMethod yX4_readLine ∈ gw := gw_3 (i := 165) rfl rfl
set_option maxRecDepth 100000 in
theorem im_X4_readNameAhead : Cond.instanceMethod yX4_readNameAhead ∈ gw := gw_3 (i := 195) rfl rfl
set_option maxRecDepth 100000 in
theorem im_X4_readRest : Cond.instanceMethod yX4_readRest ∈ gw := gw_3 (i := 216) rfl rfl
set_option maxRecDepth 100000 in
theorem im_X4_readSetting : Cond.instanceMethod yX4_readSetting ∈ gw := gw_3 (i := 169) rfl rfl
set_option maxRecDepth 100000 in
theorem im_X4_rowNamed : Cond.instanceMethod yX4_rowNamed ∈ gw := gw_3 (i := 199) rfl rfl
set_option maxRecDepth 100000 in
theorem im_X4_take : Cond.instanceMethod yX4_take ∈ gw := gw_3 (i := 173) rfl rfl
set_option maxRecDepth 100000 in
theorem im_X4_takeAim : Cond.instanceMethod yX4_takeAim ∈ gw := gw_3 (i := 220) rfl rfl
set_option maxRecDepth 100000 in
theorem im_X4_takeNumber : Cond.instanceMethod yX4_takeNumber ∈ gw := gw_3 (i := 181) rfl rfl
set_option maxRecDepth 100000 in
theorem im_X4_takeQueue : Cond.instanceMethod yX4_takeQueue ∈ gw := gw_3 (i := 190) rfl rfl
set_option maxRecDepth 100000 in
theorem im_X4_takeRelation : Cond.instanceMethod yX4_takeRelation ∈ gw := gw_3 (i := 224) rfl rfl
set_option maxRecDepth 100000 in
theorem im_X4_takeSign : Cond.instanceMethod yX4_takeSign ∈ gw := gw_3 (i := 207) rfl rfl
set_option maxRecDepth 100000 in
theorem im_X5_init : Cond.instanceMethod yX5_init ∈ gw := gw_1 (i := 195) rfl rfl
set_option maxRecDepth 100000 in
theorem im_X5_copyFrom : Cond.instanceMethod yX5_copyFrom ∈ gw := gw_5 (i := 215) rfl rfl
set_option maxRecDepth 100000 in
theorem im_X5_figure : Cond.instanceMethod yX5_figure ∈ gw := gw_4 (i := 171) rfl rfl
set_option maxRecDepth 100000 in
theorem im_X5_finishDeed : Cond.instanceMethod yX5_finishDeed ∈ gw := gw_4 (i := 95) rfl rfl
set_option maxRecDepth 100000 in
theorem im_X5_kindOfNext : Cond.instanceMethod yX5_kindOfNext ∈ gw := gw_4 (i := 48) rfl rfl
set_option maxRecDepth 100000 in
theorem im_X5_passWithoutDeeds : Cond.instanceMethod yX5_passWithoutDeeds ∈ gw := gw_4 (i := 37) rfl rfl
set_option maxRecDepth 100000 in
theorem im_X5_setReason : Cond.instanceMethod yX5_setReason ∈ gw := gw_4 (i := 33) rfl rfl
set_option maxRecDepth 100000 in
theorem im_X5_toBeginning : Cond.instanceMethod yX5_toBeginning ∈ gw := gw_2 (i := 3) rfl rfl
set_option maxRecDepth 100000 in
theorem im_X6_init : Cond.instanceMethod yX6_init ∈ gw := gw_2 (i := 159) rfl rfl
set_option maxRecDepth 100000 in
theorem im_X6_figure : Cond.instanceMethod yX6_figure ∈ gw := gw_5 (i := 197) rfl rfl
set_option maxRecDepth 100000 in
theorem im_X6_startOf : Cond.instanceMethod yX6_startOf ∈ gw := gw_5 (i := 185) rfl rfl
set_option maxRecDepth 100000 in
theorem im_X6_step : Cond.instanceMethod yX6_step ∈ gw := gw_5 (i := 190) rfl rfl
set_option maxRecDepth 100000 in
theorem im_X7_init : Cond.instanceMethod yX7_init ∈ gw := gw_2 (i := 97) rfl rfl
set_option maxRecDepth 100000 in
theorem im_X7_add : Cond.instanceMethod yX7_add ∈ gw := gw_3 (i := 82) rfl rfl
set_option maxRecDepth 100000 in
theorem im_X7_addDigits : Cond.instanceMethod yX7_addDigits ∈ gw := gw_3 (i := 148) rfl rfl
set_option maxRecDepth 100000 in
theorem im_X7_addLetters : Cond.instanceMethod yX7_addLetters ∈ gw := gw_3 (i := 78) rfl rfl
set_option maxRecDepth 100000 in
theorem im_X7_isSame : Cond.instanceMethod yX7_isSame ∈ gw := gw_3 (i := 202) rfl rfl
set_option maxRecDepth 100000 in
theorem im_X7_isWordAt : Cond.instanceMethod yX7_isWordAt ∈ gw := gw_3 (i := 141) rfl rfl
set_option maxRecDepth 100000 in
theorem im_X7_scan : Cond.instanceMethod yX7_scan ∈ gw := gw_3 (i := 57) rfl rfl
set_option maxRecDepth 100000 in
theorem im_X7_scanOne : Cond.instanceMethod yX7_scanOne ∈ gw := gw_3 (i := 71) rfl rfl
set_option maxRecDepth 100000 in
theorem im_X7_wordNumber : Cond.instanceMethod yX7_wordNumber ∈ gw := gw_3 (i := 89) rfl rfl
set_option maxRecDepth 100000 in
theorem im_X8_init : Cond.instanceMethod yX8_init ∈ gw := gw_1 (i := 35) rfl rfl
set_option maxRecDepth 100000 in
theorem im_X8_append : Cond.instanceMethod yX8_append ∈ gw := gw_3 (i := 41) rfl rfl
set_option maxRecDepth 100000 in
theorem im_X8_copyFrom : Cond.instanceMethod yX8_copyFrom ∈ gw := gw_6 (i := 72) rfl rfl
set_option maxRecDepth 100000 in
theorem im_X9_init : Cond.instanceMethod yX9_init ∈ gw := gw_1 (i := 27) rfl rfl
set_option maxRecDepth 100000 in
theorem im_X9_again : Cond.instanceMethod yX9_again ∈ gw := gw_6 (i := 78) rfl rfl
set_option maxRecDepth 100000 in
theorem im_X9_ahead : Cond.instanceMethod yX9_ahead ∈ gw := gw_5 (i := 201) rfl rfl
set_option maxRecDepth 100000 in
theorem im_X9_alone : Cond.instanceMethod yX9_alone ∈ gw := gw_5 (i := 181) rfl rfl
set_option maxRecDepth 100000 in
theorem im_X9_begin : Cond.instanceMethod yX9_begin ∈ gw := gw_4 (i := 138) rfl rfl
set_option maxRecDepth 100000 in
theorem im_X9_best : Cond.instanceMethod yX9_best ∈ gw := gw_6 (i := 5) rfl rfl
set_option maxRecDepth 100000 in
theorem im_X9_cell : Cond.instanceMethod yX9_cell ∈ gw := gw_5 (i := 169) rfl rfl
set_option maxRecDepth 100000 in
theorem im_X9_changed : Cond.instanceMethod yX9_changed ∈ gw := gw_6 (i := 58) rfl rfl
set_option maxRecDepth 100000 in
theorem im_X9_count : Cond.instanceMethod yX9_count ∈ gw := gw_4 (i := 149) rfl rfl
set_option maxRecDepth 100000 in
theorem im_X9_cycles : Cond.instanceMethod yX9_cycles ∈ gw := gw_4 (i := 5) rfl rfl
set_option maxRecDepth 100000 in
theorem im_X9_deeds : Cond.instanceMethod yX9_deeds ∈ gw := gw_4 (i := 175) rfl rfl
set_option maxRecDepth 100000 in
theorem im_X9_did : Cond.instanceMethod yX9_did ∈ gw := gw_5 (i := 153) rfl rfl
set_option maxRecDepth 100000 in
theorem im_X9_end : Cond.instanceMethod yX9_end ∈ gw := gw_3 (i := 45) rfl rfl
set_option maxRecDepth 100000 in
theorem im_X9_fault : Cond.instanceMethod yX9_fault ∈ gw := gw_4 (i := 1) rfl rfl
set_option maxRecDepth 100000 in
theorem im_X9_feed : Cond.instanceMethod yX9_feed ∈ gw := gw_3 (i := 37) rfl rfl
set_option maxRecDepth 100000 in
theorem im_X9_figureOf : Cond.instanceMethod yX9_figureOf ∈ gw := gw_4 (i := 154) rfl rfl
set_option maxRecDepth 100000 in
theorem im_X9_image : Cond.instanceMethod yX9_image ∈ gw := gw_6 (i := 68) rfl rfl
set_option maxRecDepth 100000 in
theorem im_X9_keeping : Cond.instanceMethod yX9_keeping ∈ gw := gw_5 (i := 236) rfl rfl
set_option maxRecDepth 100000 in
theorem im_X9_late : Cond.instanceMethod yX9_late ∈ gw := gw_5 (i := 232) rfl rfl
set_option maxRecDepth 100000 in
theorem im_X9_least : Cond.instanceMethod yX9_least ∈ gw := gw_6 (i := 14) rfl rfl
set_option maxRecDepth 100000 in
theorem im_X9_leastNotStuck : Cond.instanceMethod yX9_leastNotStuck ∈ gw := gw_6 (i := 19) rfl rfl
set_option maxRecDepth 100000 in
theorem im_X9_program : Cond.instanceMethod yX9_program ∈ gw := gw_3 (i := 49) rfl rfl
set_option maxRecDepth 100000 in
theorem im_X9_queue : Cond.instanceMethod yX9_queue ∈ gw := gw_5 (i := 157) rfl rfl
set_option maxRecDepth 100000 in
theorem im_X9_register : Cond.instanceMethod yX9_register ∈ gw := gw_5 (i := 176) rfl rfl
set_option maxRecDepth 100000 in
theorem im_X9_room : Cond.instanceMethod yX9_room ∈ gw := gw_4 (i := 142) rfl rfl
set_option maxRecDepth 100000 in
theorem im_X9_roomOf : Cond.instanceMethod yX9_roomOf ∈ gw := gw_5 (i := 165) rfl rfl
set_option maxRecDepth 100000 in
theorem im_X9_rounds : Cond.instanceMethod yX9_rounds ∈ gw := gw_6 (i := 34) rfl rfl
set_option maxRecDepth 100000 in
theorem im_X9_safe : Cond.instanceMethod yX9_safe ∈ gw := gw_6 (i := 30) rfl rfl
set_option maxRecDepth 100000 in
theorem im_X9_side : Cond.instanceMethod yX9_side ∈ gw := gw_4 (i := 161) rfl rfl
set_option maxRecDepth 100000 in
theorem im_X9_slipped : Cond.instanceMethod yX9_slipped ∈ gw := gw_6 (i := 63) rfl rfl
set_option maxRecDepth 100000 in
theorem im_X9_text : Cond.instanceMethod yX9_text ∈ gw := gw_4 (i := 180) rfl rfl
set_option maxRecDepth 100000 in
theorem im_X9_time : Cond.instanceMethod yX9_time ∈ gw := gw_5 (i := 220) rfl rfl
set_option maxRecDepth 100000 in
theorem im_X9_timeKeeping : Cond.instanceMethod yX9_timeKeeping ∈ gw := gw_6 (i := 1) rfl rfl
set_option maxRecDepth 100000 in
theorem im_X9_timeWithRoom : Cond.instanceMethod yX9_timeWithRoom ∈ gw := gw_6 (i := 27) rfl rfl
set_option maxRecDepth 100000 in
theorem im_X9_tryFromBeginning : Cond.instanceMethod yX9_tryFromBeginning ∈ gw := gw_5 (i := 225) rfl rfl
set_option maxRecDepth 100000 in
theorem se_J0_charAt_5068e : Cond.selects RJ0 yJ0_charAt_5068e yJ0_charAt_5068e ∈ gw := gw_3 (i := 103) rfl rfl
set_option maxRecDepth 100000 in
theorem se_J0_coder_7d493 : Cond.selects RJ0 yJ0_coder_7d493 yJ0_coder_7d493 ∈ gw := gw_3 (i := 98) rfl rfl
set_option maxRecDepth 100000 in
theorem se_J0_getBytes_840e7 : Cond.selects RJ0 yJ0_getBytes_840e7 yJ0_getBytes_840e7 ∈ gw := gw_5 (i := 83) rfl rfl
set_option maxRecDepth 100000 in
theorem se_J0_isLatin1_aae02 : Cond.selects RJ0 yJ0_isLatin1_aae02 yJ0_isLatin1_aae02 ∈ gw := gw_3 (i := 107) rfl rfl
set_option maxRecDepth 100000 in
theorem se_J0_length_8abf5 : Cond.selects RJ0 yJ0_length_8abf5 yJ0_length_8abf5 ∈ gw := gw_3 (i := 94) rfl rfl
set_option maxRecDepth 100000 in
theorem se_J4_append_cf468 : Cond.selects RJ4 yJ4_append_cf468 yJ4_append_cf468 ∈ gw := gw_5 (i := 93) rfl rfl
set_option maxRecDepth 100000 in
theorem se_J4_append_bf812 : Cond.selects RJ4 yJ4_append_bf812 yJ4_append_bf812 ∈ gw := gw_5 (i := 112) rfl rfl
set_option maxRecDepth 100000 in
theorem se_J4_append_15ec4 : Cond.selects RJ4 yJ4_append_15ec4 yJ4_append_15ec4 ∈ gw := gw_5 (i := 28) rfl rfl
set_option maxRecDepth 100000 in
theorem se_J4_charAt_5068e : Cond.selects RJ4 yJ4_charAt_5068e yJ4_charAt_5068e ∈ gw := gw_5 (i := 144) rfl rfl
set_option maxRecDepth 100000 in
theorem se_J4_length_8abf5 : Cond.selects RJ4 yJ4_length_8abf5 yJ4_length_8abf5 ∈ gw := gw_5 (i := 137) rfl rfl
set_option maxRecDepth 100000 in
theorem se_J4_setLength_d00df : Cond.selects RJ4 yJ4_setLength_d00df yJ4_setLength_d00df ∈ gw := gw_4 (i := 189) rfl rfl
set_option maxRecDepth 100000 in
theorem se_X0_cellBy : Cond.selects RX0 yX0_cellBy yX0_cellBy ∈ gw := gw_4 (i := 61) rfl rfl
set_option maxRecDepth 100000 in
theorem se_X0_copyFrom : Cond.selects RX0 yX0_copyFrom yX0_copyFrom ∈ gw := gw_3 (i := 236) rfl rfl
set_option maxRecDepth 100000 in
theorem se_X0_decide : Cond.selects RX0 yX0_decide yX0_decide ∈ gw := gw_4 (i := 89) rfl rfl
set_option maxRecDepth 100000 in
theorem se_X1_copyFrom : Cond.selects RX1 yX1_copyFrom yX1_copyFrom ∈ gw := gw_5 (i := 206) rfl rfl
set_option maxRecDepth 100000 in
theorem se_X1_figure : Cond.selects RX1 yX1_figure yX1_figure ∈ gw := gw_4 (i := 158) rfl rfl
set_option maxRecDepth 100000 in
theorem se_X1_goOn : Cond.selects RX1 yX1_goOn yX1_goOn ∈ gw := gw_4 (i := 10) rfl rfl
set_option maxRecDepth 100000 in
theorem se_X1_oneCycle : Cond.selects RX1 yX1_oneCycle yX1_oneCycle ∈ gw := gw_4 (i := 14) rfl rfl
set_option maxRecDepth 100000 in
theorem se_X1_setRooms : Cond.selects RX1 yX1_setRooms yX1_setRooms ∈ gw := gw_6 (i := 23) rfl rfl
set_option maxRecDepth 100000 in
theorem se_X1_slip : Cond.selects RX1 yX1_slip yX1_slip ∈ gw := gw_4 (i := 125) rfl rfl
set_option maxRecDepth 100000 in
theorem se_X1_timeIfDone : Cond.selects RX1 yX1_timeIfDone yX1_timeIfDone ∈ gw := gw_5 (i := 229) rfl rfl
set_option maxRecDepth 100000 in
theorem se_X1_toBeginning : Cond.selects RX1 yX1_toBeginning yX1_toBeginning ∈ gw := gw_1 (i := 233) rfl rfl
set_option maxRecDepth 100000 in
theorem se_X10_again : Cond.selects RX10 yX10_again yX10_again ∈ gw := gw_8 (i := 159) rfl rfl
set_option maxRecDepth 100000 in
theorem se_X10_ahead : Cond.selects RX10 yX10_ahead yX10_ahead ∈ gw := gw_7 (i := 128) rfl rfl
set_option maxRecDepth 100000 in
theorem se_X10_alone : Cond.selects RX10 yX10_alone yX10_alone ∈ gw := gw_7 (i := 144) rfl rfl
set_option maxRecDepth 100000 in
theorem se_X10_begin : Cond.selects RX10 yX10_begin yX10_begin ∈ gw := gw_7 (i := 188) rfl rfl
set_option maxRecDepth 100000 in
theorem se_X10_best : Cond.selects RX10 yX10_best yX10_best ∈ gw := gw_7 (i := 110) rfl rfl
set_option maxRecDepth 100000 in
theorem se_X10_cell : Cond.selects RX10 yX10_cell yX10_cell ∈ gw := gw_7 (i := 225) rfl rfl
set_option maxRecDepth 100000 in
theorem se_X10_changed : Cond.selects RX10 yX10_changed yX10_changed ∈ gw := gw_7 (i := 136) rfl rfl
set_option maxRecDepth 100000 in
theorem se_X10_count : Cond.selects RX10 yX10_count yX10_count ∈ gw := gw_7 (i := 196) rfl rfl
set_option maxRecDepth 100000 in
theorem se_X10_cycles : Cond.selects RX10 yX10_cycles yX10_cycles ∈ gw := gw_7 (i := 184) rfl rfl
set_option maxRecDepth 100000 in
theorem se_X10_deeds : Cond.selects RX10 yX10_deeds yX10_deeds ∈ gw := gw_7 (i := 204) rfl rfl
set_option maxRecDepth 100000 in
theorem se_X10_did : Cond.selects RX10 yX10_did yX10_did ∈ gw := gw_7 (i := 208) rfl rfl
set_option maxRecDepth 100000 in
theorem se_X10_end : Cond.selects RX10 yX10_end yX10_end ∈ gw := gw_7 (i := 176) rfl rfl
set_option maxRecDepth 100000 in
theorem se_X10_fault : Cond.selects RX10 yX10_fault yX10_fault ∈ gw := gw_7 (i := 180) rfl rfl
set_option maxRecDepth 100000 in
theorem se_X10_feed : Cond.selects RX10 yX10_feed yX10_feed ∈ gw := gw_7 (i := 172) rfl rfl
set_option maxRecDepth 100000 in
theorem se_X10_image : Cond.selects RX10 yX10_image yX10_image ∈ gw := gw_8 (i := 155) rfl rfl
set_option maxRecDepth 100000 in
theorem se_X10_keeping : Cond.selects RX10 yX10_keeping yX10_keeping ∈ gw := gw_7 (i := 106) rfl rfl
set_option maxRecDepth 100000 in
theorem se_X10_late : Cond.selects RX10 yX10_late yX10_late ∈ gw := gw_7 (i := 99) rfl rfl
set_option maxRecDepth 100000 in
theorem se_X10_least : Cond.selects RX10 yX10_least yX10_least ∈ gw := gw_7 (i := 116) rfl rfl
set_option maxRecDepth 100000 in
theorem se_X10_program : Cond.selects RX10 yX10_program yX10_program ∈ gw := gw_8 (i := 42) rfl rfl
set_option maxRecDepth 100000 in
theorem se_X10_queue : Cond.selects RX10 yX10_queue yX10_queue ∈ gw := gw_7 (i := 217) rfl rfl
set_option maxRecDepth 100000 in
theorem se_X10_register : Cond.selects RX10 yX10_register yX10_register ∈ gw := gw_7 (i := 229) rfl rfl
set_option maxRecDepth 100000 in
theorem se_X10_room : Cond.selects RX10 yX10_room yX10_room ∈ gw := gw_7 (i := 192) rfl rfl
set_option maxRecDepth 100000 in
theorem se_X10_roomOf : Cond.selects RX10 yX10_roomOf yX10_roomOf ∈ gw := gw_7 (i := 221) rfl rfl
set_option maxRecDepth 100000 in
theorem se_X10_rounds : Cond.selects RX10 yX10_rounds yX10_rounds ∈ gw := gw_7 (i := 152) rfl rfl
set_option maxRecDepth 100000 in
theorem se_X10_safe : Cond.selects RX10 yX10_safe yX10_safe ∈ gw := gw_7 (i := 124) rfl rfl
set_option maxRecDepth 100000 in
theorem se_X10_side : Cond.selects RX10 yX10_side yX10_side ∈ gw := gw_7 (i := 200) rfl rfl
set_option maxRecDepth 100000 in
theorem se_X10_slipped : Cond.selects RX10 yX10_slipped yX10_slipped ∈ gw := gw_7 (i := 140) rfl rfl
set_option maxRecDepth 100000 in
theorem se_X10_text : Cond.selects RX10 yX10_text yX10_text ∈ gw := gw_7 (i := 233) rfl rfl
set_option maxRecDepth 100000 in
theorem se_X10_time : Cond.selects RX10 yX10_time yX10_time ∈ gw := gw_6 (i := 191) rfl rfl
set_option maxRecDepth 100000 in
theorem se_X2_clear : Cond.selects RX2 yX2_clear yX2_clear ∈ gw := gw_1 (i := 101) rfl rfl
set_option maxRecDepth 100000 in
theorem se_X2_copyFrom : Cond.selects RX2 yX2_copyFrom yX2_copyFrom ∈ gw := gw_3 (i := 232) rfl rfl
set_option maxRecDepth 100000 in
theorem se_X2_deedsAt : Cond.selects RX2 yX2_deedsAt yX2_deedsAt ∈ gw := gw_4 (i := 42) rfl rfl
set_option maxRecDepth 100000 in
theorem se_X2_deedsInAll : Cond.selects RX2 yX2_deedsInAll yX2_deedsInAll ∈ gw := gw_4 (i := 167) rfl rfl
set_option maxRecDepth 100000 in
theorem se_X2_hasDeed : Cond.selects RX2 yX2_hasDeed yX2_hasDeed ∈ gw := gw_4 (i := 185) rfl rfl
set_option maxRecDepth 100000 in
theorem se_X2_kindOf : Cond.selects RX2 yX2_kindOf yX2_kindOf ∈ gw := gw_4 (i := 53) rfl rfl
set_option maxRecDepth 100000 in
theorem se_X2_roundBits : Cond.selects RX2 yX2_roundBits yX2_roundBits ∈ gw := gw_6 (i := 39) rfl rfl
set_option maxRecDepth 100000 in
theorem se_X2_sentAt : Cond.selects RX2 yX2_sentAt yX2_sentAt ∈ gw := gw_4 (i := 81) rfl rfl
set_option maxRecDepth 100000 in
theorem se_X2_split : Cond.selects RX2 yX2_split yX2_split ∈ gw := gw_2 (i := 212) rfl rfl
set_option maxRecDepth 100000 in
theorem se_X2_write : Cond.selects RX2 yX2_write yX2_write ∈ gw := gw_5 (i := 3) rfl rfl
set_option maxRecDepth 100000 in
theorem se_X3_add : Cond.selects RX3 yX3_add yX3_add ∈ gw := gw_4 (i := 85) rfl rfl
set_option maxRecDepth 100000 in
theorem se_X3_clear : Cond.selects RX3 yX3_clear yX3_clear ∈ gw := gw_2 (i := 0) rfl rfl
set_option maxRecDepth 100000 in
theorem se_X3_copyFrom : Cond.selects RX3 yX3_copyFrom yX3_copyFrom ∈ gw := gw_5 (i := 211) rfl rfl
set_option maxRecDepth 100000 in
theorem se_X3_heldAt : Cond.selects RX3 yX3_heldAt yX3_heldAt ∈ gw := gw_5 (i := 162) rfl rfl
set_option maxRecDepth 100000 in
theorem se_X3_holds : Cond.selects RX3 yX3_holds yX3_holds ∈ gw := gw_4 (i := 65) rfl rfl
set_option maxRecDepth 100000 in
theorem se_X3_isFull : Cond.selects RX3 yX3_isFull yX3_isFull ∈ gw := gw_4 (i := 69) rfl rfl
set_option maxRecDepth 100000 in
theorem se_X3_markAt : Cond.selects RX3 yX3_markAt yX3_markAt ∈ gw := gw_4 (i := 22) rfl rfl
set_option maxRecDepth 100000 in
theorem se_X3_take : Cond.selects RX3 yX3_take yX3_take ∈ gw := gw_4 (i := 26) rfl rfl
set_option maxRecDepth 100000 in
theorem se_X4_read : Cond.selects RX4 yX4_read yX4_read ∈ gw := gw_3 (i := 54) rfl rfl
set_option maxRecDepth 100000 in
theorem se_X5_copyFrom : Cond.selects RX5 yX5_copyFrom yX5_copyFrom ∈ gw := gw_5 (i := 216) rfl rfl
set_option maxRecDepth 100000 in
theorem se_X5_figure : Cond.selects RX5 yX5_figure yX5_figure ∈ gw := gw_4 (i := 172) rfl rfl
set_option maxRecDepth 100000 in
theorem se_X5_finishDeed : Cond.selects RX5 yX5_finishDeed yX5_finishDeed ∈ gw := gw_4 (i := 96) rfl rfl
set_option maxRecDepth 100000 in
theorem se_X5_kindOfNext : Cond.selects RX5 yX5_kindOfNext yX5_kindOfNext ∈ gw := gw_4 (i := 49) rfl rfl
set_option maxRecDepth 100000 in
theorem se_X5_passWithoutDeeds : Cond.selects RX5 yX5_passWithoutDeeds yX5_passWithoutDeeds ∈ gw := gw_4 (i := 38) rfl rfl
set_option maxRecDepth 100000 in
theorem se_X5_setReason : Cond.selects RX5 yX5_setReason yX5_setReason ∈ gw := gw_4 (i := 34) rfl rfl
set_option maxRecDepth 100000 in
theorem se_X5_toBeginning : Cond.selects RX5 yX5_toBeginning yX5_toBeginning ∈ gw := gw_2 (i := 4) rfl rfl
set_option maxRecDepth 100000 in
theorem se_X6_figure : Cond.selects RX6 yX6_figure yX6_figure ∈ gw := gw_5 (i := 198) rfl rfl
set_option maxRecDepth 100000 in
theorem se_X6_startOf : Cond.selects RX6 yX6_startOf yX6_startOf ∈ gw := gw_5 (i := 186) rfl rfl
set_option maxRecDepth 100000 in
theorem se_X6_step : Cond.selects RX6 yX6_step yX6_step ∈ gw := gw_5 (i := 191) rfl rfl
set_option maxRecDepth 100000 in
theorem se_X7_isSame : Cond.selects RX7 yX7_isSame yX7_isSame ∈ gw := gw_3 (i := 203) rfl rfl
set_option maxRecDepth 100000 in
theorem se_X7_scan : Cond.selects RX7 yX7_scan yX7_scan ∈ gw := gw_3 (i := 58) rfl rfl
set_option maxRecDepth 100000 in
theorem se_X8_append : Cond.selects RX8 yX8_append yX8_append ∈ gw := gw_3 (i := 42) rfl rfl
set_option maxRecDepth 100000 in
theorem se_X8_copyFrom : Cond.selects RX8 yX8_copyFrom yX8_copyFrom ∈ gw := gw_6 (i := 73) rfl rfl
set_option maxRecDepth 100000 in
theorem se_X9_again : Cond.selects RX9 yX9_again yX9_again ∈ gw := gw_6 (i := 79) rfl rfl
set_option maxRecDepth 100000 in
theorem se_X9_ahead : Cond.selects RX9 yX9_ahead yX9_ahead ∈ gw := gw_5 (i := 202) rfl rfl
set_option maxRecDepth 100000 in
theorem se_X9_alone : Cond.selects RX9 yX9_alone yX9_alone ∈ gw := gw_5 (i := 182) rfl rfl
set_option maxRecDepth 100000 in
theorem se_X9_begin : Cond.selects RX9 yX9_begin yX9_begin ∈ gw := gw_4 (i := 139) rfl rfl
set_option maxRecDepth 100000 in
theorem se_X9_best : Cond.selects RX9 yX9_best yX9_best ∈ gw := gw_6 (i := 6) rfl rfl
set_option maxRecDepth 100000 in
theorem se_X9_cell : Cond.selects RX9 yX9_cell yX9_cell ∈ gw := gw_5 (i := 170) rfl rfl
set_option maxRecDepth 100000 in
theorem se_X9_changed : Cond.selects RX9 yX9_changed yX9_changed ∈ gw := gw_6 (i := 59) rfl rfl
set_option maxRecDepth 100000 in
theorem se_X9_count : Cond.selects RX9 yX9_count yX9_count ∈ gw := gw_4 (i := 150) rfl rfl
set_option maxRecDepth 100000 in
theorem se_X9_cycles : Cond.selects RX9 yX9_cycles yX9_cycles ∈ gw := gw_4 (i := 6) rfl rfl
set_option maxRecDepth 100000 in
theorem se_X9_deeds : Cond.selects RX9 yX9_deeds yX9_deeds ∈ gw := gw_4 (i := 176) rfl rfl
set_option maxRecDepth 100000 in
theorem se_X9_did : Cond.selects RX9 yX9_did yX9_did ∈ gw := gw_5 (i := 154) rfl rfl
set_option maxRecDepth 100000 in
theorem se_X9_end : Cond.selects RX9 yX9_end yX9_end ∈ gw := gw_3 (i := 46) rfl rfl
set_option maxRecDepth 100000 in
theorem se_X9_fault : Cond.selects RX9 yX9_fault yX9_fault ∈ gw := gw_4 (i := 2) rfl rfl
set_option maxRecDepth 100000 in
theorem se_X9_feed : Cond.selects RX9 yX9_feed yX9_feed ∈ gw := gw_3 (i := 38) rfl rfl
set_option maxRecDepth 100000 in
theorem se_X9_image : Cond.selects RX9 yX9_image yX9_image ∈ gw := gw_6 (i := 69) rfl rfl
set_option maxRecDepth 100000 in
theorem se_X9_keeping : Cond.selects RX9 yX9_keeping yX9_keeping ∈ gw := gw_5 (i := 237) rfl rfl
set_option maxRecDepth 100000 in
theorem se_X9_late : Cond.selects RX9 yX9_late yX9_late ∈ gw := gw_5 (i := 233) rfl rfl
set_option maxRecDepth 100000 in
theorem se_X9_least : Cond.selects RX9 yX9_least yX9_least ∈ gw := gw_6 (i := 15) rfl rfl
set_option maxRecDepth 100000 in
theorem se_X9_program : Cond.selects RX9 yX9_program yX9_program ∈ gw := gw_3 (i := 50) rfl rfl
set_option maxRecDepth 100000 in
theorem se_X9_queue : Cond.selects RX9 yX9_queue yX9_queue ∈ gw := gw_5 (i := 158) rfl rfl
set_option maxRecDepth 100000 in
theorem se_X9_register : Cond.selects RX9 yX9_register yX9_register ∈ gw := gw_5 (i := 177) rfl rfl
set_option maxRecDepth 100000 in
theorem se_X9_room : Cond.selects RX9 yX9_room yX9_room ∈ gw := gw_4 (i := 143) rfl rfl
set_option maxRecDepth 100000 in
theorem se_X9_roomOf : Cond.selects RX9 yX9_roomOf yX9_roomOf ∈ gw := gw_5 (i := 166) rfl rfl
set_option maxRecDepth 100000 in
theorem se_X9_rounds : Cond.selects RX9 yX9_rounds yX9_rounds ∈ gw := gw_6 (i := 35) rfl rfl
set_option maxRecDepth 100000 in
theorem se_X9_safe : Cond.selects RX9 yX9_safe yX9_safe ∈ gw := gw_6 (i := 31) rfl rfl
set_option maxRecDepth 100000 in
theorem se_X9_side : Cond.selects RX9 yX9_side yX9_side ∈ gw := gw_4 (i := 162) rfl rfl
set_option maxRecDepth 100000 in
theorem se_X9_slipped : Cond.selects RX9 yX9_slipped yX9_slipped ∈ gw := gw_6 (i := 64) rfl rfl
set_option maxRecDepth 100000 in
theorem se_X9_text : Cond.selects RX9 yX9_text yX9_text ∈ gw := gw_4 (i := 181) rfl rfl
set_option maxRecDepth 100000 in
theorem se_X9_time : Cond.selects RX9 yX9_time yX9_time ∈ gw := gw_5 (i := 221) rfl rfl
set_option maxRecDepth 100000 in
theorem se_X1_allLoadsHaveCome : Cond.selects RX1 yX1_allLoadsHaveCome yX1_allLoadsHaveCome ∈ gw := gw_sel (i := 42) rfl rfl
set_option maxRecDepth 100000 in
theorem se_X1_fetchWaitsFor : Cond.selects RX1 yX1_fetchWaitsFor yX1_fetchWaitsFor ∈ gw := gw_sel (i := 33) rfl rfl
set_option maxRecDepth 100000 in
theorem se_X1_hasCome : Cond.selects RX1 yX1_hasCome yX1_hasCome ∈ gw := gw_sel (i := 37) rfl rfl
set_option maxRecDepth 100000 in
theorem se_X1_lacksCopies : Cond.selects RX1 yX1_lacksCopies yX1_lacksCopies ∈ gw := gw_sel (i := 38) rfl rfl
set_option maxRecDepth 100000 in
theorem se_X1_outcomeNow : Cond.selects RX1 yX1_outcomeNow yX1_outcomeNow ∈ gw := gw_sel (i := 41) rfl rfl
set_option maxRecDepth 100000 in
theorem se_X1_ownOrCopy : Cond.selects RX1 yX1_ownOrCopy yX1_ownOrCopy ∈ gw := gw_sel (i := 40) rfl rfl
set_option maxRecDepth 100000 in
theorem se_X1_runnerDoes : Cond.selects RX1 yX1_runnerDoes yX1_runnerDoes ∈ gw := gw_sel (i := 34) rfl rfl
set_option maxRecDepth 100000 in
theorem se_X1_runnerTries : Cond.selects RX1 yX1_runnerTries yX1_runnerTries ∈ gw := gw_sel (i := 31) rfl rfl
set_option maxRecDepth 100000 in
theorem se_X1_runnerWaitsFor : Cond.selects RX1 yX1_runnerWaitsFor yX1_runnerWaitsFor ∈ gw := gw_sel (i := 32) rfl rfl
set_option maxRecDepth 100000 in
theorem se_X1_workerDoes : Cond.selects RX1 yX1_workerDoes yX1_workerDoes ∈ gw := gw_sel (i := 39) rfl rfl
set_option maxRecDepth 100000 in
theorem se_X1_workerTries : Cond.selects RX1 yX1_workerTries yX1_workerTries ∈ gw := gw_sel (i := 35) rfl rfl
set_option maxRecDepth 100000 in
theorem se_X1_workerWaitsFor : Cond.selects RX1 yX1_workerWaitsFor yX1_workerWaitsFor ∈ gw := gw_sel (i := 36) rfl rfl
set_option maxRecDepth 100000 in
theorem se_X1_writeOne : Cond.selects RX1 yX1_writeOne yX1_writeOne ∈ gw := gw_sel (i := 30) rfl rfl
set_option maxRecDepth 100000 in
theorem se_X10_aims : Cond.selects RX10 yX10_aims yX10_aims ∈ gw := gw_sel (i := 54) rfl rfl
set_option maxRecDepth 100000 in
theorem se_X10_alsoWrong : Cond.selects RX10 yX10_alsoWrong yX10_alsoWrong ∈ gw := gw_sel (i := 112) rfl rfl
set_option maxRecDepth 100000 in
theorem se_X10_byteAt : Cond.selects RX10 yX10_byteAt yX10_byteAt ∈ gw := gw_sel (i := 105) rfl rfl
set_option maxRecDepth 100000 in
theorem se_X10_cellOf : Cond.selects RX10 yX10_cellOf yX10_cellOf ∈ gw := gw_sel (i := 75) rfl rfl
set_option maxRecDepth 100000 in
theorem se_X10_clears : Cond.selects RX10 yX10_clears yX10_clears ∈ gw := gw_sel (i := 52) rfl rfl
set_option maxRecDepth 100000 in
theorem se_X10_copies : Cond.selects RX10 yX10_copies yX10_copies ∈ gw := gw_sel (i := 58) rfl rfl
set_option maxRecDepth 100000 in
theorem se_X10_counts : Cond.selects RX10 yX10_counts yX10_counts ∈ gw := gw_sel (i := 91) rfl rfl
set_option maxRecDepth 100000 in
theorem se_X10_cycle : Cond.selects RX10 yX10_cycle yX10_cycle ∈ gw := gw_sel (i := 61) rfl rfl
set_option maxRecDepth 100000 in
theorem se_X10_decides : Cond.selects RX10 yX10_decides yX10_decides ∈ gw := gw_sel (i := 103) rfl rfl
set_option maxRecDepth 100000 in
theorem se_X10_deed : Cond.selects RX10 yX10_deed yX10_deed ∈ gw := gw_sel (i := 69) rfl rfl
set_option maxRecDepth 100000 in
theorem se_X10_does : Cond.selects RX10 yX10_does yX10_does ∈ gw := gw_sel (i := 83) rfl rfl
set_option maxRecDepth 100000 in
theorem se_X10_ending : Cond.selects RX10 yX10_ending yX10_ending ∈ gw := gw_sel (i := 59) rfl rfl
set_option maxRecDepth 100000 in
theorem se_X10_ends : Cond.selects RX10 yX10_ends yX10_ends ∈ gw := gw_sel (i := 82) rfl rfl
set_option maxRecDepth 100000 in
theorem se_X10_excuse : Cond.selects RX10 yX10_excuse yX10_excuse ∈ gw := gw_sel (i := 85) rfl rfl
set_option maxRecDepth 100000 in
theorem se_X10_fails : Cond.selects RX10 yX10_fails yX10_fails ∈ gw := gw_sel (i := 111) rfl rfl
set_option maxRecDepth 100000 in
theorem se_X10_finds : Cond.selects RX10 yX10_finds yX10_finds ∈ gw := gw_sel (i := 122) rfl rfl
set_option maxRecDepth 100000 in
theorem se_X10_first : Cond.selects RX10 yX10_first yX10_first ∈ gw := gw_sel (i := 64) rfl rfl
set_option maxRecDepth 100000 in
theorem se_X10_goes : Cond.selects RX10 yX10_goes yX10_goes ∈ gw := gw_sel (i := 60) rfl rfl
set_option maxRecDepth 100000 in
theorem se_X10_hasCome : Cond.selects RX10 yX10_hasCome yX10_hasCome ∈ gw := gw_sel (i := 86) rfl rfl
set_option maxRecDepth 100000 in
theorem se_X10_hasWord : Cond.selects RX10 yX10_hasWord yX10_hasWord ∈ gw := gw_sel (i := 108) rfl rfl
set_option maxRecDepth 100000 in
theorem se_X10_haveCome : Cond.selects RX10 yX10_haveCome yX10_haveCome ∈ gw := gw_sel (i := 89) rfl rfl
set_option maxRecDepth 100000 in
theorem se_X10_inQueue : Cond.selects RX10 yX10_inQueue yX10_inQueue ∈ gw := gw_sel (i := 63) rfl rfl
set_option maxRecDepth 100000 in
theorem se_X10_isAim : Cond.selects RX10 yX10_isAim yX10_isAim ∈ gw := gw_sel (i := 70) rfl rfl
set_option maxRecDepth 100000 in
theorem se_X10_isDeed : Cond.selects RX10 yX10_isDeed yX10_isDeed ∈ gw := gw_sel (i := 97) rfl rfl
set_option maxRecDepth 100000 in
theorem se_X10_isEnded : Cond.selects RX10 yX10_isEnded yX10_isEnded ∈ gw := gw_sel (i := 66) rfl rfl
set_option maxRecDepth 100000 in
theorem se_X10_isFull : Cond.selects RX10 yX10_isFull yX10_isFull ∈ gw := gw_sel (i := 74) rfl rfl
set_option maxRecDepth 100000 in
theorem se_X10_isGood : Cond.selects RX10 yX10_isGood yX10_isGood ∈ gw := gw_sel (i := 106) rfl rfl
set_option maxRecDepth 100000 in
theorem se_X10_isLosing : Cond.selects RX10 yX10_isLosing yX10_isLosing ∈ gw := gw_sel (i := 95) rfl rfl
set_option maxRecDepth 100000 in
theorem se_X10_isName : Cond.selects RX10 yX10_isName yX10_isName ∈ gw := gw_sel (i := 115) rfl rfl
set_option maxRecDepth 100000 in
theorem se_X10_isStored : Cond.selects RX10 yX10_isStored yX10_isStored ∈ gw := gw_sel (i := 77) rfl rfl
set_option maxRecDepth 100000 in
theorem se_X10_isWord : Cond.selects RX10 yX10_isWord yX10_isWord ∈ gw := gw_sel (i := 109) rfl rfl
set_option maxRecDepth 100000 in
theorem se_X10_lays : Cond.selects RX10 yX10_lays yX10_lays ∈ gw := gw_sel (i := 100) rfl rfl
set_option maxRecDepth 100000 in
theorem se_X10_letter : Cond.selects RX10 yX10_letter yX10_letter ∈ gw := gw_sel (i := 101) rfl rfl
set_option maxRecDepth 100000 in
theorem se_X10_letterTaken : Cond.selects RX10 yX10_letterTaken yX10_letterTaken ∈ gw := gw_sel (i := 114) rfl rfl
set_option maxRecDepth 100000 in
theorem se_X10_many : Cond.selects RX10 yX10_many yX10_many ∈ gw := gw_sel (i := 96) rfl rfl
set_option maxRecDepth 100000 in
theorem se_X10_nameBy : Cond.selects RX10 yX10_nameBy yX10_nameBy ∈ gw := gw_sel (i := 117) rfl rfl
set_option maxRecDepth 100000 in
theorem se_X10_next : Cond.selects RX10 yX10_next yX10_next ∈ gw := gw_sel (i := 94) rfl rfl
set_option maxRecDepth 100000 in
theorem se_X10_number : Cond.selects RX10 yX10_number yX10_number ∈ gw := gw_sel (i := 102) rfl rfl
set_option maxRecDepth 100000 in
theorem se_X10_numeral : Cond.selects RX10 yX10_numeral yX10_numeral ∈ gw := gw_sel (i := 110) rfl rfl
set_option maxRecDepth 100000 in
theorem se_X10_of : Cond.selects RX10 yX10_of yX10_of ∈ gw := gw_sel (i := 56) rfl rfl
set_option maxRecDepth 100000 in
theorem se_X10_opHere : Cond.selects RX10 yX10_opHere yX10_opHere ∈ gw := gw_sel (i := 120) rfl rfl
set_option maxRecDepth 100000 in
theorem se_X10_opOf : Cond.selects RX10 yX10_opOf yX10_opOf ∈ gw := gw_sel (i := 55) rfl rfl
set_option maxRecDepth 100000 in
theorem se_X10_passes : Cond.selects RX10 yX10_passes yX10_passes ∈ gw := gw_sel (i := 68) rfl rfl
set_option maxRecDepth 100000 in
theorem se_X10_pushes : Cond.selects RX10 yX10_pushes yX10_pushes ∈ gw := gw_sel (i := 79) rfl rfl
set_option maxRecDepth 100000 in
theorem se_X10_queueTaken : Cond.selects RX10 yX10_queueTaken yX10_queueTaken ∈ gw := gw_sel (i := 113) rfl rfl
set_option maxRecDepth 100000 in
theorem se_X10_reach : Cond.selects RX10 yX10_reach yX10_reach ∈ gw := gw_sel (i := 93) rfl rfl
set_option maxRecDepth 100000 in
theorem se_X10_reads : Cond.selects RX10 yX10_reads yX10_reads ∈ gw := gw_sel (i := 116) rfl rfl
set_option maxRecDepth 100000 in
theorem se_X10_readsInstruction : Cond.selects RX10 yX10_readsInstruction yX10_readsInstruction ∈ gw := gw_sel (i := 119) rfl rfl
set_option maxRecDepth 100000 in
theorem se_X10_readsLine : Cond.selects RX10 yX10_readsLine yX10_readsLine ∈ gw := gw_sel (i := 107) rfl rfl
set_option maxRecDepth 100000 in
theorem se_X10_reason : Cond.selects RX10 yX10_reason yX10_reason ∈ gw := gw_sel (i := 73) rfl rfl
set_option maxRecDepth 100000 in
theorem se_X10_reckoned : Cond.selects RX10 yX10_reckoned yX10_reckoned ∈ gw := gw_sel (i := 80) rfl rfl
set_option maxRecDepth 100000 in
theorem se_X10_reckons : Cond.selects RX10 yX10_reckons yX10_reckons ∈ gw := gw_sel (i := 81) rfl rfl
set_option maxRecDepth 100000 in
theorem se_X10_reg : Cond.selects RX10 yX10_reg yX10_reg ∈ gw := gw_sel (i := 76) rfl rfl
set_option maxRecDepth 100000 in
theorem se_X10_runs : Cond.selects RX10 yX10_runs yX10_runs ∈ gw := gw_sel (i := 67) rfl rfl
set_option maxRecDepth 100000 in
theorem se_X10_send : Cond.selects RX10 yX10_send yX10_send ∈ gw := gw_sel (i := 72) rfl rfl
set_option maxRecDepth 100000 in
theorem se_X10_sends : Cond.selects RX10 yX10_sends yX10_sends ∈ gw := gw_sel (i := 71) rfl rfl
set_option maxRecDepth 100000 in
theorem se_X10_sign : Cond.selects RX10 yX10_sign yX10_sign ∈ gw := gw_sel (i := 118) rfl rfl
set_option maxRecDepth 100000 in
theorem se_X10_slip : Cond.selects RX10 yX10_slip yX10_slip ∈ gw := gw_sel (i := 88) rfl rfl
set_option maxRecDepth 100000 in
theorem se_X10_starts : Cond.selects RX10 yX10_starts yX10_starts ∈ gw := gw_sel (i := 53) rfl rfl
set_option maxRecDepth 100000 in
theorem se_X10_step : Cond.selects RX10 yX10_step yX10_step ∈ gw := gw_sel (i := 92) rfl rfl
set_option maxRecDepth 100000 in
theorem se_X10_takes : Cond.selects RX10 yX10_takes yX10_takes ∈ gw := gw_sel (i := 65) rfl rfl
set_option maxRecDepth 100000 in
theorem se_X10_takesToken : Cond.selects RX10 yX10_takesToken yX10_takesToken ∈ gw := gw_sel (i := 104) rfl rfl
set_option maxRecDepth 100000 in
theorem se_X10_tells : Cond.selects RX10 yX10_tells yX10_tells ∈ gw := gw_sel (i := 98) rfl rfl
set_option maxRecDepth 100000 in
theorem se_X10_timeBy : Cond.selects RX10 yX10_timeBy yX10_timeBy ∈ gw := gw_sel (i := 90) rfl rfl
set_option maxRecDepth 100000 in
theorem se_X10_toils : Cond.selects RX10 yX10_toils yX10_toils ∈ gw := gw_sel (i := 84) rfl rfl
set_option maxRecDepth 100000 in
theorem se_X10_tries : Cond.selects RX10 yX10_tries yX10_tries ∈ gw := gw_sel (i := 57) rfl rfl
set_option maxRecDepth 100000 in
theorem se_X10_waits : Cond.selects RX10 yX10_waits yX10_waits ∈ gw := gw_sel (i := 78) rfl rfl
set_option maxRecDepth 100000 in
theorem se_X10_wants : Cond.selects RX10 yX10_wants yX10_wants ∈ gw := gw_sel (i := 121) rfl rfl
set_option maxRecDepth 100000 in
theorem se_X10_word : Cond.selects RX10 yX10_word yX10_word ∈ gw := gw_sel (i := 99) rfl rfl
set_option maxRecDepth 100000 in
theorem se_X10_works : Cond.selects RX10 yX10_works yX10_works ∈ gw := gw_sel (i := 87) rfl rfl
set_option maxRecDepth 100000 in
theorem se_X10_writes : Cond.selects RX10 yX10_writes yX10_writes ∈ gw := gw_sel (i := 62) rfl rfl
set_option maxRecDepth 100000 in
theorem se_X2_addDeed : Cond.selects RX2 yX2_addDeed yX2_addDeed ∈ gw := gw_sel (i := 2) rfl rfl
set_option maxRecDepth 100000 in
theorem se_X2_addSend : Cond.selects RX2 yX2_addSend yX2_addSend ∈ gw := gw_sel (i := 4) rfl rfl
set_option maxRecDepth 100000 in
theorem se_X2_findReach : Cond.selects RX2 yX2_findReach yX2_findReach ∈ gw := gw_sel (i := 48) rfl rfl
set_option maxRecDepth 100000 in
theorem se_X2_followers : Cond.selects RX2 yX2_followers yX2_followers ∈ gw := gw_sel (i := 49) rfl rfl
set_option maxRecDepth 100000 in
theorem se_X2_loses : Cond.selects RX2 yX2_loses yX2_loses ∈ gw := gw_sel (i := 51) rfl rfl
set_option maxRecDepth 100000 in
theorem se_X2_roundOf : Cond.selects RX2 yX2_roundOf yX2_roundOf ∈ gw := gw_sel (i := 50) rfl rfl
set_option maxRecDepth 100000 in
theorem se_X2_splitIf : Cond.selects RX2 yX2_splitIf yX2_splitIf ∈ gw := gw_sel (i := 6) rfl rfl
set_option maxRecDepth 100000 in
theorem se_X2_splitMemory : Cond.selects RX2 yX2_splitMemory yX2_splitMemory ∈ gw := gw_sel (i := 5) rfl rfl
set_option maxRecDepth 100000 in
theorem se_X2_splitOne : Cond.selects RX2 yX2_splitOne yX2_splitOne ∈ gw := gw_sel (i := 1) rfl rfl
set_option maxRecDepth 100000 in
theorem se_X2_splitReckoning : Cond.selects RX2 yX2_splitReckoning yX2_splitReckoning ∈ gw := gw_sel (i := 3) rfl rfl
set_option maxRecDepth 100000 in
theorem se_X2_widenAims : Cond.selects RX2 yX2_widenAims yX2_widenAims ∈ gw := gw_sel (i := 0) rfl rfl
set_option maxRecDepth 100000 in
theorem se_X4_breakOff : Cond.selects RX4 yX4_breakOff yX4_breakOff ∈ gw := gw_sel (i := 18) rfl rfl
set_option maxRecDepth 100000 in
theorem se_X4_findAims : Cond.selects RX4 yX4_findAims yX4_findAims ∈ gw := gw_sel (i := 29) rfl rfl
set_option maxRecDepth 100000 in
theorem se_X4_isBroken : Cond.selects RX4 yX4_isBroken yX4_isBroken ∈ gw := gw_sel (i := 14) rfl rfl
set_option maxRecDepth 100000 in
theorem se_X4_isNext : Cond.selects RX4 yX4_isNext yX4_isNext ∈ gw := gw_sel (i := 13) rfl rfl
set_option maxRecDepth 100000 in
theorem se_X4_note : Cond.selects RX4 yX4_note yX4_note ∈ gw := gw_sel (i := 20) rfl rfl
set_option maxRecDepth 100000 in
theorem se_X4_readInstruction : Cond.selects RX4 yX4_readInstruction yX4_readInstruction ∈ gw := gw_sel (i := 25) rfl rfl
set_option maxRecDepth 100000 in
theorem se_X4_readLine : Cond.selects RX4 yX4_readLine yX4_readLine ∈ gw := gw_sel (i := 15) rfl rfl
set_option maxRecDepth 100000 in
theorem se_X4_readNameAhead : Cond.selects RX4 yX4_readNameAhead yX4_readNameAhead ∈ gw := gw_sel (i := 22) rfl rfl
set_option maxRecDepth 100000 in
theorem se_X4_readRest : Cond.selects RX4 yX4_readRest yX4_readRest ∈ gw := gw_sel (i := 26) rfl rfl
set_option maxRecDepth 100000 in
theorem se_X4_readSetting : Cond.selects RX4 yX4_readSetting yX4_readSetting ∈ gw := gw_sel (i := 16) rfl rfl
set_option maxRecDepth 100000 in
theorem se_X4_rowNamed : Cond.selects RX4 yX4_rowNamed yX4_rowNamed ∈ gw := gw_sel (i := 23) rfl rfl
set_option maxRecDepth 100000 in
theorem se_X4_take : Cond.selects RX4 yX4_take yX4_take ∈ gw := gw_sel (i := 17) rfl rfl
set_option maxRecDepth 100000 in
theorem se_X4_takeAim : Cond.selects RX4 yX4_takeAim yX4_takeAim ∈ gw := gw_sel (i := 27) rfl rfl
set_option maxRecDepth 100000 in
theorem se_X4_takeNumber : Cond.selects RX4 yX4_takeNumber yX4_takeNumber ∈ gw := gw_sel (i := 19) rfl rfl
set_option maxRecDepth 100000 in
theorem se_X4_takeQueue : Cond.selects RX4 yX4_takeQueue yX4_takeQueue ∈ gw := gw_sel (i := 21) rfl rfl
set_option maxRecDepth 100000 in
theorem se_X4_takeRelation : Cond.selects RX4 yX4_takeRelation yX4_takeRelation ∈ gw := gw_sel (i := 28) rfl rfl
set_option maxRecDepth 100000 in
theorem se_X4_takeSign : Cond.selects RX4 yX4_takeSign yX4_takeSign ∈ gw := gw_sel (i := 24) rfl rfl
set_option maxRecDepth 100000 in
theorem se_X7_add : Cond.selects RX7 yX7_add yX7_add ∈ gw := gw_sel (i := 9) rfl rfl
set_option maxRecDepth 100000 in
theorem se_X7_addDigits : Cond.selects RX7 yX7_addDigits yX7_addDigits ∈ gw := gw_sel (i := 12) rfl rfl
set_option maxRecDepth 100000 in
theorem se_X7_addLetters : Cond.selects RX7 yX7_addLetters yX7_addLetters ∈ gw := gw_sel (i := 8) rfl rfl
set_option maxRecDepth 100000 in
theorem se_X7_isWordAt : Cond.selects RX7 yX7_isWordAt yX7_isWordAt ∈ gw := gw_sel (i := 11) rfl rfl
set_option maxRecDepth 100000 in
theorem se_X7_scanOne : Cond.selects RX7 yX7_scanOne yX7_scanOne ∈ gw := gw_sel (i := 7) rfl rfl
set_option maxRecDepth 100000 in
theorem se_X7_wordNumber : Cond.selects RX7 yX7_wordNumber yX7_wordNumber ∈ gw := gw_sel (i := 10) rfl rfl
set_option maxRecDepth 100000 in
theorem se_X9_figureOf : Cond.selects RX9 yX9_figureOf yX9_figureOf ∈ gw := gw_sel (i := 43) rfl rfl
set_option maxRecDepth 100000 in
theorem se_X9_leastNotStuck : Cond.selects RX9 yX9_leastNotStuck yX9_leastNotStuck ∈ gw := gw_sel (i := 46) rfl rfl
set_option maxRecDepth 100000 in
theorem se_X9_timeKeeping : Cond.selects RX9 yX9_timeKeeping yX9_timeKeeping ∈ gw := gw_sel (i := 45) rfl rfl
set_option maxRecDepth 100000 in
theorem se_X9_timeWithRoom : Cond.selects RX9 yX9_timeWithRoom yX9_timeWithRoom ∈ gw := gw_sel (i := 47) rfl rfl
set_option maxRecDepth 100000 in
theorem se_X9_tryFromBeginning : Cond.selects RX9 yX9_tryFromBeginning yX9_tryFromBeginning ∈ gw := gw_sel (i := 44) rfl rfl
set_option maxRecDepth 100000 in
theorem in_J0 : Cond.initialized RJ0 ∈ gw := gw_1 (i := 15) rfl rfl
set_option maxRecDepth 100000 in
theorem in_J1 : Cond.initialized RJ1 ∈ gw := gw_1 (i := 19) rfl rfl
set_option maxRecDepth 100000 in
theorem in_J10 : Cond.initialized RJ10 ∈ gw := gw_1 (i := 9) rfl rfl
set_option maxRecDepth 100000 in
theorem in_J2 : Cond.initialized RJ2 ∈ gw := gw_1 (i := 16) rfl rfl
set_option maxRecDepth 100000 in
theorem in_J3 : Cond.initialized RJ3 ∈ gw := gw_1 (i := 20) rfl rfl
set_option maxRecDepth 100000 in
theorem in_J4 : Cond.initialized RJ4 ∈ gw := gw_1 (i := 14) rfl rfl
set_option maxRecDepth 100000 in
theorem in_J5 : Cond.initialized RJ5 ∈ gw := gw_1 (i := 13) rfl rfl
set_option maxRecDepth 100000 in
theorem in_J6 : Cond.initialized RJ6 ∈ gw := gw_1 (i := 23) rfl rfl
set_option maxRecDepth 100000 in
theorem in_J7 : Cond.initialized RJ7 ∈ gw := gw_1 (i := 6) rfl rfl
set_option maxRecDepth 100000 in
theorem in_J8 : Cond.initialized RJ8 ∈ gw := gw_1 (i := 21) rfl rfl
set_option maxRecDepth 100000 in
theorem in_J9 : Cond.initialized RJ9 ∈ gw := gw_1 (i := 18) rfl rfl
set_option maxRecDepth 100000 in
theorem in_Jxd2413 : Cond.initialized RJxd2413 ∈ gw := gw_1 (i := 22) rfl rfl
set_option maxRecDepth 100000 in
theorem in_L : Cond.initialized RL ∈ gw := gw_1 (i := 0) rfl rfl
set_option maxRecDepth 100000 in
theorem in_X0 : Cond.initialized RX0 ∈ gw := gw_1 (i := 5) rfl rfl
set_option maxRecDepth 100000 in
theorem in_X1 : Cond.initialized RX1 ∈ gw := gw_1 (i := 3) rfl rfl
set_option maxRecDepth 100000 in
theorem in_X10 : Cond.initialized RX10 ∈ gw := gw_1 (i := 17) rfl rfl
set_option maxRecDepth 100000 in
theorem in_X2 : Cond.initialized RX2 ∈ gw := gw_1 (i := 4) rfl rfl
set_option maxRecDepth 100000 in
theorem in_X3 : Cond.initialized RX3 ∈ gw := gw_1 (i := 7) rfl rfl
set_option maxRecDepth 100000 in
theorem in_X4 : Cond.initialized RX4 ∈ gw := gw_1 (i := 10) rfl rfl
set_option maxRecDepth 100000 in
theorem in_X5 : Cond.initialized RX5 ∈ gw := gw_1 (i := 8) rfl rfl
set_option maxRecDepth 100000 in
theorem in_X6 : Cond.initialized RX6 ∈ gw := gw_1 (i := 12) rfl rfl
set_option maxRecDepth 100000 in
theorem in_X7 : Cond.initialized RX7 ∈ gw := gw_1 (i := 11) rfl rfl
set_option maxRecDepth 100000 in
theorem in_X8 : Cond.initialized RX8 ∈ gw := gw_1 (i := 2) rfl rfl
set_option maxRecDepth 100000 in
theorem in_X9 : Cond.initialized RX9 ∈ gw := gw_1 (i := 1) rfl rfl
set_option maxRecDepth 100000 in
theorem st_J0_checkBoundsBeginEnd_23922 : Cond.static yJ0_checkBoundsBeginEnd_23922 ∈ gw := gw_5 (i := 44) rfl rfl
set_option maxRecDepth 100000 in
theorem st_J0_checkBoundsOffCount_cabcc : Cond.static yJ0_checkBoundsOffCount_cabcc ∈ gw := gw_5 (i := 76) rfl rfl
set_option maxRecDepth 100000 in
theorem st_J0_checkIndex_df160 : Cond.static yJ0_checkIndex_df160 ∈ gw := gw_3 (i := 113) rfl rfl
set_option maxRecDepth 100000 in
theorem st_J1_canEncode_fc78d : Cond.static yJ1_canEncode_fc78d ∈ gw := gw_5 (i := 99) rfl rfl
set_option maxRecDepth 100000 in
theorem st_J1_charAt_3b067 : Cond.static yJ1_charAt_3b067 ∈ gw := gw_3 (i := 110) rfl rfl
set_option maxRecDepth 100000 in
theorem st_J1_fillNull_b72d1 : Cond.static yJ1_fillNull_b72d1 ∈ gw := gw_4 (i := 229) rfl rfl
set_option maxRecDepth 100000 in
theorem st_J1_inflate_0e8fd : Cond.static yJ1_inflate_0e8fd ∈ gw := gw_5 (i := 67) rfl rfl
set_option maxRecDepth 100000 in
theorem st_J2_charAt_3b067 : Cond.static yJ2_charAt_3b067 ∈ gw := gw_3 (i := 121) rfl rfl
set_option maxRecDepth 100000 in
theorem st_J2_checkBoundsBeginEnd_d044e : Cond.static yJ2_checkBoundsBeginEnd_d044e ∈ gw := gw_5 (i := 41) rfl rfl
set_option maxRecDepth 100000 in
theorem st_J2_checkBoundsOffCount_d044e : Cond.static yJ2_checkBoundsOffCount_d044e ∈ gw := gw_5 (i := 73) rfl rfl
set_option maxRecDepth 100000 in
theorem st_J2_checkIndex_2214a : Cond.static yJ2_checkIndex_2214a ∈ gw := gw_3 (i := 124) rfl rfl
set_option maxRecDepth 100000 in
theorem st_J2_fillNull_b72d1 : Cond.static yJ2_fillNull_b72d1 ∈ gw := gw_4 (i := 238) rfl rfl
set_option maxRecDepth 100000 in
theorem st_J2_getChar_3b067 : Cond.static yJ2_getChar_3b067 ∈ gw := gw_3 (i := 131) rfl rfl
set_option maxRecDepth 100000 in
theorem st_J2_getChars_46870 : Cond.static yJ2_getChars_46870 ∈ gw := gw_5 (i := 128) rfl rfl
set_option maxRecDepth 100000 in
theorem st_J2_getChars_ba4f3 : Cond.static yJ2_getChars_ba4f3 ∈ gw := gw_5 (i := 131) rfl rfl
set_option maxRecDepth 100000 in
theorem st_J2_inflate_0e8fd : Cond.static yJ2_inflate_0e8fd ∈ gw := gw_5 (i := 70) rfl rfl
set_option maxRecDepth 100000 in
theorem st_J2_length_9d52b : Cond.static yJ2_length_9d52b ∈ gw := gw_3 (i := 127) rfl rfl
set_option maxRecDepth 100000 in
theorem st_J2_newBytesFor_77867 : Cond.static yJ2_newBytesFor_77867 ∈ gw := gw_2 (i := 191) rfl rfl
set_option maxRecDepth 100000 in
theorem st_J2_newBytesLength_0f7a4 : Cond.static yJ2_newBytesLength_0f7a4 ∈ gw := gw_2 (i := 194) rfl rfl
set_option maxRecDepth 100000 in
theorem st_J2_putChar_b72d1 : Cond.static yJ2_putChar_b72d1 ∈ gw := gw_5 (i := 50) rfl rfl
set_option maxRecDepth 100000 in
theorem st_J2_putCharSB_b72d1 : Cond.static yJ2_putCharSB_b72d1 ∈ gw := gw_5 (i := 102) rfl rfl
set_option maxRecDepth 100000 in
theorem st_J2_putCharsAt_cd4e5 : Cond.static yJ2_putCharsAt_cd4e5 ∈ gw := gw_5 (i := 38) rfl rfl
set_option maxRecDepth 100000 in
theorem st_J3_checkFromIndexSize_8c36e : Cond.static yJ3_checkFromIndexSize_8c36e ∈ gw := gw_5 (i := 79) rfl rfl
set_option maxRecDepth 100000 in
theorem st_J3_checkFromToIndex_8c36e : Cond.static yJ3_checkFromToIndex_8c36e ∈ gw := gw_5 (i := 47) rfl rfl
set_option maxRecDepth 100000 in
theorem st_J3_checkIndex_8e157 : Cond.static yJ3_checkIndex_8e157 ∈ gw := gw_3 (i := 118) rfl rfl
set_option maxRecDepth 100000 in
theorem st_J6_getChars_ba4f3 : Cond.static yJ6_getChars_ba4f3 ∈ gw := gw_5 (i := 121) rfl rfl
set_option maxRecDepth 100000 in
theorem st_J6_stringSize_0f7a4 : Cond.static yJ6_stringSize_0f7a4 ∈ gw := gw_5 (i := 118) rfl rfl
set_option maxRecDepth 100000 in
theorem st_J7_copyOf_9075b : Cond.static yJ7_copyOf_9075b ∈ gw := gw_4 (i := 212) rfl rfl
set_option maxRecDepth 100000 in
theorem st_J7_fill_eb02e : Cond.static yJ7_fill_eb02e ∈ gw := gw_4 (i := 232) rfl rfl
set_option maxRecDepth 100000 in
theorem st_J7_fill_53178 : Cond.static yJ7_fill_53178 ∈ gw := gw_1 (i := 104) rfl rfl
set_option maxRecDepth 100000 in
theorem st_J7_rangeCheck_23922 : Cond.static yJ7_rangeCheck_23922 ∈ gw := gw_4 (i := 235) rfl rfl
set_option maxRecDepth 100000 in
theorem st_J8_hugeLength_7cf53 : Cond.static yJ8_hugeLength_7cf53 ∈ gw := gw_4 (i := 208) rfl rfl
set_option maxRecDepth 100000 in
theorem st_J8_newLength_cabcc : Cond.static yJ8_newLength_cabcc ∈ gw := gw_4 (i := 203) rfl rfl
set_option maxRecDepth 100000 in
theorem st_J9_max_7cf53 : Cond.static yJ9_max_7cf53 ∈ gw := gw_3 (i := 64) rfl rfl
set_option maxRecDepth 100000 in
theorem st_J9_min_7cf53 : Cond.static yJ9_min_7cf53 ∈ gw := gw_3 (i := 61) rfl rfl
set_option maxRecDepth 100000 in
theorem st_X10_has : Cond.static yX10_has ∈ gw := gw_6 (i := 111) rfl rfl
set_option maxRecDepth 100000 in
theorem st_X10_holds : Cond.static yX10_holds ∈ gw := gw_7 (i := 63) rfl rfl
set_option maxRecDepth 100000 in
theorem st_X10_isDigit : Cond.static yX10_isDigit ∈ gw := gw_8 (i := 56) rfl rfl
set_option maxRecDepth 100000 in
theorem st_X10_isIn : Cond.static yX10_isIn ∈ gw := gw_7 (i := 102) rfl rfl
set_option maxRecDepth 100000 in
theorem st_X10_isKept : Cond.static yX10_isKept ∈ gw := gw_8 (i := 117) rfl rfl
set_option maxRecDepth 100000 in
theorem st_X10_isLetter : Cond.static yX10_isLetter ∈ gw := gw_8 (i := 53) rfl rfl
set_option maxRecDepth 100000 in
theorem st_X10_isReckoning : Cond.static yX10_isReckoning ∈ gw := gw_6 (i := 108) rfl rfl
set_option maxRecDepth 100000 in
theorem st_X10_opWord : Cond.static yX10_opWord ∈ gw := gw_8 (i := 1) rfl rfl
set_option maxRecDepth 100000 in
theorem st_X10_queueAt : Cond.static yX10_queueAt ∈ gw := gw_6 (i := 225) rfl rfl
set_option maxRecDepth 100000 in
theorem st_X10_queueWord : Cond.static yX10_queueWord ∈ gw := gw_8 (i := 95) rfl rfl
set_option maxRecDepth 100000 in
theorem st_X10_sideAt : Cond.static yX10_sideAt ∈ gw := gw_6 (i := 214) rfl rfl
set_option maxRecDepth 100000 in
theorem st_X10_wrap : Cond.static yX10_wrap ∈ gw := gw_7 (i := 60) rfl rfl
set_option maxRecDepth 100000 in
theorem st_X2_letterOf : Cond.static yX2_letterOf ∈ gw := gw_5 (i := 105) rfl rfl
set_option maxRecDepth 100000 in
theorem st_X2_wordOf : Cond.static yX2_wordOf ∈ gw := gw_5 (i := 7) rfl rfl
set_option maxRecDepth 100000 in
theorem st_X2_writeNumber : Cond.static yX2_writeNumber ∈ gw := gw_5 (i := 108) rfl rfl
set_option maxRecDepth 100000 in
theorem st_X2_writeRegister : Cond.static yX2_writeRegister ∈ gw := gw_5 (i := 89) rfl rfl
set_option maxRecDepth 100000 in
theorem st_X7_isBlank : Cond.static yX7_isBlank ∈ gw := gw_3 (i := 67) rfl rfl
set_option maxRecDepth 100000 in
theorem st_X7_isDigit : Cond.static yX7_isDigit ∈ gw := gw_3 (i := 144) rfl rfl
set_option maxRecDepth 100000 in
theorem st_X7_isLetter : Cond.static yX7_isLetter ∈ gw := gw_3 (i := 74) rfl rfl
set_option maxRecDepth 100000 in
theorem st_X7_isSign : Cond.static yX7_isSign ∈ gw := gw_3 (i := 151) rfl rfl
set_option maxRecDepth 100000 in
theorem st_X9_bit : Cond.static yX9_bit ∈ gw := gw_2 (i := 219) rfl rfl
set_option maxRecDepth 100000 in
theorem st_X9_deedPlace : Cond.static yX9_deedPlace ∈ gw := gw_2 (i := 236) rfl rfl
set_option maxRecDepth 100000 in
theorem st_X9_isCell : Cond.static yX9_isCell ∈ gw := gw_5 (i := 173) rfl rfl
set_option maxRecDepth 100000 in
theorem st_X9_isIn : Cond.static yX9_isIn ∈ gw := gw_2 (i := 225) rfl rfl
set_option maxRecDepth 100000 in
theorem st_X9_isQueue : Cond.static yX9_isQueue ∈ gw := gw_4 (i := 146) rfl rfl
set_option maxRecDepth 100000 in
theorem st_X9_isReckoning : Cond.static yX9_isReckoning ∈ gw := gw_2 (i := 222) rfl rfl
set_option maxRecDepth 100000 in
theorem st_X9_isRegister : Cond.static yX9_isRegister ∈ gw := gw_3 (i := 85) rfl rfl
set_option maxRecDepth 100000 in
theorem st_X9_isSide : Cond.static yX9_isSide ∈ gw := gw_4 (i := 45) rfl rfl
set_option maxRecDepth 100000 in
theorem st_X9_noTimeIsMost : Cond.static yX9_noTimeIsMost ∈ gw := gw_6 (i := 10) rfl rfl
set_option maxRecDepth 100000 in
theorem st_X9_reckon : Cond.static yX9_reckon ∈ gw := gw_4 (i := 92) rfl rfl
set_option maxRecDepth 100000 in
theorem co_J0_charAt_5068e : Cond.code yJ0_charAt_5068e cJ0_charAt_5068e 2 (some .char) ∈ gw := gw_3 (i := 104) rfl rfl
set_option maxRecDepth 100000 in
theorem co_J0_checkBoundsBeginEnd_23922 : Cond.code yJ0_checkBoundsBeginEnd_23922 cJ0_checkBoundsBeginEnd_23922 3 none ∈ gw := gw_5 (i := 45) rfl rfl
set_option maxRecDepth 100000 in
theorem co_J0_checkBoundsOffCount_cabcc : Cond.code yJ0_checkBoundsOffCount_cabcc cJ0_checkBoundsOffCount_cabcc 3 (some .int) ∈ gw := gw_5 (i := 77) rfl rfl
set_option maxRecDepth 100000 in
theorem co_J0_checkIndex_df160 : Cond.code yJ0_checkIndex_df160 cJ0_checkIndex_df160 2 none ∈ gw := gw_3 (i := 114) rfl rfl
set_option maxRecDepth 100000 in
theorem co_J0_coder_7d493 : Cond.code yJ0_coder_7d493 cJ0_coder_7d493 1 (some .byte) ∈ gw := gw_3 (i := 99) rfl rfl
set_option maxRecDepth 100000 in
theorem co_J0_getBytes_840e7 : Cond.code yJ0_getBytes_840e7 cJ0_getBytes_840e7 4 none ∈ gw := gw_5 (i := 84) rfl rfl
set_option maxRecDepth 100000 in
theorem co_J0_isLatin1_aae02 : Cond.code yJ0_isLatin1_aae02 cJ0_isLatin1_aae02 1 (some .boolean) ∈ gw := gw_3 (i := 108) rfl rfl
set_option maxRecDepth 100000 in
theorem co_J0_length_8abf5 : Cond.code yJ0_length_8abf5 cJ0_length_8abf5 1 (some .int) ∈ gw := gw_3 (i := 95) rfl rfl
set_option maxRecDepth 100000 in
theorem co_J1_canEncode_fc78d : Cond.code yJ1_canEncode_fc78d cJ1_canEncode_fc78d 1 (some .boolean) ∈ gw := gw_5 (i := 100) rfl rfl
set_option maxRecDepth 100000 in
theorem co_J1_charAt_3b067 : Cond.code yJ1_charAt_3b067 cJ1_charAt_3b067 2 (some .char) ∈ gw := gw_3 (i := 111) rfl rfl
set_option maxRecDepth 100000 in
theorem co_J1_fillNull_b72d1 : Cond.code yJ1_fillNull_b72d1 cJ1_fillNull_b72d1 3 none ∈ gw := gw_4 (i := 230) rfl rfl
set_option maxRecDepth 100000 in
theorem co_J1_inflate_0e8fd : Cond.code yJ1_inflate_0e8fd cJ1_inflate_0e8fd 5 none ∈ gw := gw_5 (i := 68) rfl rfl
set_option maxRecDepth 100000 in
theorem co_J2_charAt_3b067 : Cond.code yJ2_charAt_3b067 cJ2_charAt_3b067 2 (some .char) ∈ gw := gw_3 (i := 122) rfl rfl
set_option maxRecDepth 100000 in
theorem co_J2_checkBoundsBeginEnd_d044e : Cond.code yJ2_checkBoundsBeginEnd_d044e cJ2_checkBoundsBeginEnd_d044e 3 none ∈ gw := gw_5 (i := 42) rfl rfl
set_option maxRecDepth 100000 in
theorem co_J2_checkBoundsOffCount_d044e : Cond.code yJ2_checkBoundsOffCount_d044e cJ2_checkBoundsOffCount_d044e 3 none ∈ gw := gw_5 (i := 74) rfl rfl
set_option maxRecDepth 100000 in
theorem co_J2_checkIndex_2214a : Cond.code yJ2_checkIndex_2214a cJ2_checkIndex_2214a 2 none ∈ gw := gw_3 (i := 125) rfl rfl
set_option maxRecDepth 100000 in
theorem co_J2_fillNull_b72d1 : Cond.code yJ2_fillNull_b72d1 cJ2_fillNull_b72d1 3 none ∈ gw := gw_4 (i := 239) rfl rfl
set_option maxRecDepth 100000 in
theorem co_J2_getChar_3b067 : Cond.code yJ2_getChar_3b067 cJ2_getChar_3b067 2 (some .char) ∈ gw := gw_3 (i := 132) rfl rfl
set_option maxRecDepth 100000 in
theorem co_J2_getChars_46870 : Cond.code yJ2_getChars_46870 cJ2_getChars_46870 5 (some .int) ∈ gw := gw_5 (i := 129) rfl rfl
set_option maxRecDepth 100000 in
theorem co_J2_getChars_ba4f3 : Cond.code yJ2_getChars_ba4f3 cJ2_getChars_ba4f3 7 (some .int) ∈ gw := gw_5 (i := 132) rfl rfl
set_option maxRecDepth 100000 in
theorem co_J2_inflate_0e8fd : Cond.code yJ2_inflate_0e8fd cJ2_inflate_0e8fd 6 none ∈ gw := gw_5 (i := 71) rfl rfl
set_option maxRecDepth 100000 in
theorem co_J2_length_9d52b : Cond.code yJ2_length_9d52b cJ2_length_9d52b 1 (some .int) ∈ gw := gw_3 (i := 128) rfl rfl
set_option maxRecDepth 100000 in
theorem co_J2_newBytesFor_77867 : Cond.code yJ2_newBytesFor_77867 cJ2_newBytesFor_77867 1 (some (.array .byte)) ∈ gw := gw_2 (i := 192) rfl rfl
set_option maxRecDepth 100000 in
theorem co_J2_newBytesLength_0f7a4 : Cond.code yJ2_newBytesLength_0f7a4 cJ2_newBytesLength_0f7a4 1 (some .int) ∈ gw := gw_2 (i := 195) rfl rfl
set_option maxRecDepth 100000 in
theorem co_J2_putChar_b72d1 : Cond.code yJ2_putChar_b72d1 cJ2_putChar_b72d1 3 none ∈ gw := gw_5 (i := 51) rfl rfl
set_option maxRecDepth 100000 in
theorem co_J2_putCharSB_b72d1 : Cond.code yJ2_putCharSB_b72d1 cJ2_putCharSB_b72d1 3 none ∈ gw := gw_5 (i := 103) rfl rfl
set_option maxRecDepth 100000 in
theorem co_J2_putCharsAt_cd4e5 : Cond.code yJ2_putCharsAt_cd4e5 cJ2_putCharsAt_cd4e5 7 (some .int) ∈ gw := gw_5 (i := 39) rfl rfl
set_option maxRecDepth 100000 in
theorem co_J3_checkFromIndexSize_8c36e : Cond.code yJ3_checkFromIndexSize_8c36e cJ3_checkFromIndexSize_8c36e 4 (some .int) ∈ gw := gw_5 (i := 80) rfl rfl
set_option maxRecDepth 100000 in
theorem co_J3_checkFromToIndex_8c36e : Cond.code yJ3_checkFromToIndex_8c36e cJ3_checkFromToIndex_8c36e 4 (some .int) ∈ gw := gw_5 (i := 48) rfl rfl
set_option maxRecDepth 100000 in
theorem co_J3_checkIndex_8e157 : Cond.code yJ3_checkIndex_8e157 cJ3_checkIndex_8e157 3 (some .int) ∈ gw := gw_3 (i := 119) rfl rfl
set_option maxRecDepth 100000 in
theorem co_J4_init_da8c8 : Cond.code yJ4_init_da8c8 cJ4_init_da8c8 1 none ∈ gw := gw_2 (i := 183) rfl rfl
set_option maxRecDepth 100000 in
theorem co_J4_append_cf468 : Cond.code yJ4_append_cf468 cJ4_append_cf468 2 (some (.object "java/lang/StringBuilder")) ∈ gw := gw_5 (i := 94) rfl rfl
set_option maxRecDepth 100000 in
theorem co_J4_append_bf812 : Cond.code yJ4_append_bf812 cJ4_append_bf812 2 (some (.object "java/lang/StringBuilder")) ∈ gw := gw_5 (i := 113) rfl rfl
set_option maxRecDepth 100000 in
theorem co_J4_append_15ec4 : Cond.code yJ4_append_15ec4 cJ4_append_15ec4 2 (some (.object "java/lang/StringBuilder")) ∈ gw := gw_5 (i := 29) rfl rfl
set_option maxRecDepth 100000 in
theorem co_J4_charAt_5068e : Cond.code yJ4_charAt_5068e cJ4_charAt_5068e 2 (some .char) ∈ gw := gw_5 (i := 145) rfl rfl
set_option maxRecDepth 100000 in
theorem co_J4_length_8abf5 : Cond.code yJ4_length_8abf5 cJ4_length_8abf5 1 (some .int) ∈ gw := gw_5 (i := 138) rfl rfl
set_option maxRecDepth 100000 in
theorem co_J4_setLength_d00df : Cond.code yJ4_setLength_d00df cJ4_setLength_d00df 2 none ∈ gw := gw_4 (i := 190) rfl rfl
set_option maxRecDepth 100000 in
theorem co_J5_init_d00df : Cond.code yJ5_init_d00df cJ5_init_d00df 2 none ∈ gw := gw_2 (i := 186) rfl rfl
set_option maxRecDepth 100000 in
theorem co_J5_append_3fe6f : Cond.code yJ5_append_3fe6f cJ5_append_3fe6f 2 (some (.object "java/lang/AbstractStringBuilder")) ∈ gw := gw_5 (i := 97) rfl rfl
set_option maxRecDepth 100000 in
theorem co_J5_append_c97b9 : Cond.code yJ5_append_c97b9 cJ5_append_c97b9 4 (some (.object "java/lang/AbstractStringBuilder")) ∈ gw := gw_5 (i := 116) rfl rfl
set_option maxRecDepth 100000 in
theorem co_J5_append_cf1ce : Cond.code yJ5_append_cf1ce cJ5_append_cf1ce 3 (some (.object "java/lang/AbstractStringBuilder")) ∈ gw := gw_5 (i := 32) rfl rfl
set_option maxRecDepth 100000 in
theorem co_J5_appendNull_278bc : Cond.code yJ5_appendNull_278bc cJ5_appendNull_278bc 3 (some (.object "java/lang/AbstractStringBuilder")) ∈ gw := gw_5 (i := 36) rfl rfl
set_option maxRecDepth 100000 in
theorem co_J5_charAt_5068e : Cond.code yJ5_charAt_5068e cJ5_charAt_5068e 5 (some .char) ∈ gw := gw_5 (i := 148) rfl rfl
set_option maxRecDepth 100000 in
theorem co_J5_ensureCapacityInternal_d00df : Cond.code yJ5_ensureCapacityInternal_d00df cJ5_ensureCapacityInternal_d00df 3 none ∈ gw := gw_4 (i := 197) rfl rfl
set_option maxRecDepth 100000 in
theorem co_J5_inflate_da8c8 : Cond.code yJ5_inflate_da8c8 cJ5_inflate_da8c8 2 none ∈ gw := gw_5 (i := 65) rfl rfl
set_option maxRecDepth 100000 in
theorem co_J5_inflateIfNeededFor_a7421 : Cond.code yJ5_inflateIfNeededFor_a7421 cJ5_inflateIfNeededFor_a7421 2 none ∈ gw := gw_5 (i := 60) rfl rfl
set_option maxRecDepth 100000 in
theorem co_J5_isLatin1_aae02 : Cond.code yJ5_isLatin1_aae02 cJ5_isLatin1_aae02 1 (some .boolean) ∈ gw := gw_4 (i := 227) rfl rfl
set_option maxRecDepth 100000 in
theorem co_J5_length_8abf5 : Cond.code yJ5_length_8abf5 cJ5_length_8abf5 1 (some .int) ∈ gw := gw_5 (i := 141) rfl rfl
set_option maxRecDepth 100000 in
theorem co_J5_newCapacity_0f7a4 : Cond.code yJ5_newCapacity_0f7a4 cJ5_newCapacity_0f7a4 6 (some .int) ∈ gw := gw_4 (i := 201) rfl rfl
set_option maxRecDepth 100000 in
theorem co_J5_putStringAt_47b60 : Cond.code yJ5_putStringAt_47b60 cJ5_putStringAt_47b60 3 none ∈ gw := gw_5 (i := 56) rfl rfl
set_option maxRecDepth 100000 in
theorem co_J5_setLength_d00df : Cond.code yJ5_setLength_d00df cJ5_setLength_d00df 2 none ∈ gw := gw_4 (i := 193) rfl rfl
set_option maxRecDepth 100000 in
theorem co_J6_getChars_ba4f3 : Cond.code yJ6_getChars_ba4f3 cJ6_getChars_ba4f3 7 (some .int) ∈ gw := gw_5 (i := 122) rfl rfl
set_option maxRecDepth 100000 in
theorem co_J6_stringSize_0f7a4 : Cond.code yJ6_stringSize_0f7a4 cJ6_stringSize_0f7a4 4 (some .int) ∈ gw := gw_5 (i := 119) rfl rfl
set_option maxRecDepth 100000 in
theorem co_J7_copyOf_9075b : Cond.code yJ7_copyOf_9075b cJ7_copyOf_9075b 3 (some (.array .byte)) ∈ gw := gw_4 (i := 213) rfl rfl
set_option maxRecDepth 100000 in
theorem co_J7_fill_eb02e : Cond.code yJ7_fill_eb02e cJ7_fill_eb02e 5 none ∈ gw := gw_4 (i := 233) rfl rfl
set_option maxRecDepth 100000 in
theorem co_J7_fill_53178 : Cond.code yJ7_fill_53178 cJ7_fill_53178 4 none ∈ gw := gw_1 (i := 105) rfl rfl
set_option maxRecDepth 100000 in
theorem co_J7_rangeCheck_23922 : Cond.code yJ7_rangeCheck_23922 cJ7_rangeCheck_23922 3 none ∈ gw := gw_4 (i := 236) rfl rfl
set_option maxRecDepth 100000 in
theorem co_J8_hugeLength_7cf53 : Cond.code yJ8_hugeLength_7cf53 cJ8_hugeLength_7cf53 3 (some .int) ∈ gw := gw_4 (i := 209) rfl rfl
set_option maxRecDepth 100000 in
theorem co_J8_newLength_cabcc : Cond.code yJ8_newLength_cabcc cJ8_newLength_cabcc 4 (some .int) ∈ gw := gw_4 (i := 204) rfl rfl
set_option maxRecDepth 100000 in
theorem co_J9_max_7cf53 : Cond.code yJ9_max_7cf53 cJ9_max_7cf53 2 (some .int) ∈ gw := gw_3 (i := 65) rfl rfl
set_option maxRecDepth 100000 in
theorem co_J9_min_7cf53 : Cond.code yJ9_min_7cf53 cJ9_min_7cf53 2 (some .int) ∈ gw := gw_3 (i := 62) rfl rfl
set_option maxRecDepth 100000 in
theorem co_X0_init : Cond.code yX0_init cX0_init 1 none ∈ gw := gw_1 (i := 55) rfl rfl
set_option maxRecDepth 100000 in
theorem co_X0_cellBy : Cond.code yX0_cellBy cX0_cellBy 2 (some .int) ∈ gw := gw_4 (i := 62) rfl rfl
set_option maxRecDepth 100000 in
theorem co_X0_copyFrom : Cond.code yX0_copyFrom cX0_copyFrom 2 none ∈ gw := gw_3 (i := 237) rfl rfl
set_option maxRecDepth 100000 in
theorem co_X0_decide : Cond.code yX0_decide cX0_decide 3 (some .boolean) ∈ gw := gw_4 (i := 90) rfl rfl
set_option maxRecDepth 100000 in
theorem co_X1_init : Cond.code yX1_init cX1_init 2 none ∈ gw := gw_1 (i := 42) rfl rfl
set_option maxRecDepth 100000 in
theorem co_X1_allLoadsHaveCome : Cond.code yX1_allLoadsHaveCome cX1_allLoadsHaveCome 2 (some .boolean) ∈ gw := gw_4 (i := 136) rfl rfl
set_option maxRecDepth 100000 in
theorem co_X1_copyFrom : Cond.code yX1_copyFrom cX1_copyFrom 3 none ∈ gw := gw_5 (i := 207) rfl rfl
set_option maxRecDepth 100000 in
theorem co_X1_fetchWaitsFor : Cond.code yX1_fetchWaitsFor cX1_fetchWaitsFor 3 (some .int) ∈ gw := gw_4 (i := 74) rfl rfl
set_option maxRecDepth 100000 in
theorem co_X1_figure : Cond.code yX1_figure cX1_figure 2 (some .int) ∈ gw := gw_4 (i := 159) rfl rfl
set_option maxRecDepth 100000 in
theorem co_X1_goOn : Cond.code yX1_goOn cX1_goOn 3 (some .int) ∈ gw := gw_4 (i := 11) rfl rfl
set_option maxRecDepth 100000 in
theorem co_X1_hasCome : Cond.code yX1_hasCome cX1_hasCome 2 (some .boolean) ∈ gw := gw_4 (i := 109) rfl rfl
set_option maxRecDepth 100000 in
theorem co_X1_lacksCopies : Cond.code yX1_lacksCopies cX1_lacksCopies 3 (some .boolean) ∈ gw := gw_4 (i := 113) rfl rfl
set_option maxRecDepth 100000 in
theorem co_X1_oneCycle : Cond.code yX1_oneCycle cX1_oneCycle 2 none ∈ gw := gw_4 (i := 15) rfl rfl
set_option maxRecDepth 100000 in
theorem co_X1_outcomeNow : Cond.code yX1_outcomeNow cX1_outcomeNow 1 (some .int) ∈ gw := gw_4 (i := 132) rfl rfl
set_option maxRecDepth 100000 in
theorem co_X1_ownOrCopy : Cond.code yX1_ownOrCopy cX1_ownOrCopy 2 (some .int) ∈ gw := gw_4 (i := 122) rfl rfl
set_option maxRecDepth 100000 in
theorem co_X1_runnerDoes : Cond.code yX1_runnerDoes cX1_runnerDoes 5 (some .int) ∈ gw := gw_4 (i := 78) rfl rfl
set_option maxRecDepth 100000 in
theorem co_X1_runnerTries : Cond.code yX1_runnerTries cX1_runnerTries 5 none ∈ gw := gw_4 (i := 31) rfl rfl
set_option maxRecDepth 100000 in
theorem co_X1_runnerWaitsFor : Cond.code yX1_runnerWaitsFor cX1_runnerWaitsFor 3 (some .int) ∈ gw := gw_4 (i := 58) rfl rfl
set_option maxRecDepth 100000 in
theorem co_X1_setRooms : Cond.code yX1_setRooms cX1_setRooms 5 none ∈ gw := gw_6 (i := 24) rfl rfl
set_option maxRecDepth 100000 in
theorem co_X1_slip : Cond.code yX1_slip cX1_slip 1 (some .int) ∈ gw := gw_4 (i := 126) rfl rfl
set_option maxRecDepth 100000 in
theorem co_X1_timeIfDone : Cond.code yX1_timeIfDone cX1_timeIfDone 1 (some .int) ∈ gw := gw_5 (i := 230) rfl rfl
set_option maxRecDepth 100000 in
theorem co_X1_toBeginning : Cond.code yX1_toBeginning cX1_toBeginning 2 none ∈ gw := gw_1 (i := 234) rfl rfl
set_option maxRecDepth 100000 in
theorem co_X1_workerDoes : Cond.code yX1_workerDoes cX1_workerDoes 7 (some .int) ∈ gw := gw_4 (i := 118) rfl rfl
set_option maxRecDepth 100000 in
theorem co_X1_workerTries : Cond.code yX1_workerTries cX1_workerTries 5 none ∈ gw := gw_4 (i := 101) rfl rfl
set_option maxRecDepth 100000 in
theorem co_X1_workerWaitsFor : Cond.code yX1_workerWaitsFor cX1_workerWaitsFor 3 (some .int) ∈ gw := gw_4 (i := 105) rfl rfl
set_option maxRecDepth 100000 in
theorem co_X1_writeOne : Cond.code yX1_writeOne cX1_writeOne 2 none ∈ gw := gw_4 (i := 19) rfl rfl
set_option maxRecDepth 100000 in
theorem co_X10_init : Cond.code yX10_init cX10_init 1 none ∈ gw := gw_6 (i := 85) rfl rfl
set_option maxRecDepth 100000 in
theorem co_X10_again : Cond.code yX10_again cX10_again 4 (some .boolean) ∈ gw := gw_8 (i := 160) rfl rfl
set_option maxRecDepth 100000 in
theorem co_X10_ahead : Cond.code yX10_ahead cX10_ahead 4 (some .int) ∈ gw := gw_7 (i := 129) rfl rfl
set_option maxRecDepth 100000 in
theorem co_X10_aims : Cond.code yX10_aims cX10_aims 6 (some .int) ∈ gw := gw_6 (i := 98) rfl rfl
set_option maxRecDepth 100000 in
theorem co_X10_alone : Cond.code yX10_alone cX10_alone 5 (some .int) ∈ gw := gw_7 (i := 145) rfl rfl
set_option maxRecDepth 100000 in
theorem co_X10_alsoWrong : Cond.code yX10_alsoWrong cX10_alsoWrong 3 none ∈ gw := gw_8 (i := 88) rfl rfl
set_option maxRecDepth 100000 in
theorem co_X10_begin : Cond.code yX10_begin cX10_begin 1 none ∈ gw := gw_7 (i := 189) rfl rfl
set_option maxRecDepth 100000 in
theorem co_X10_best : Cond.code yX10_best cX10_best 5 (some .int) ∈ gw := gw_7 (i := 111) rfl rfl
set_option maxRecDepth 100000 in
theorem co_X10_byteAt : Cond.code yX10_byteAt cX10_byteAt 2 (some .int) ∈ gw := gw_8 (i := 51) rfl rfl
set_option maxRecDepth 100000 in
theorem co_X10_cell : Cond.code yX10_cell cX10_cell 2 (some .int) ∈ gw := gw_7 (i := 226) rfl rfl
set_option maxRecDepth 100000 in
theorem co_X10_cellOf : Cond.code yX10_cellOf cX10_cellOf 3 (some .int) ∈ gw := gw_7 (i := 34) rfl rfl
set_option maxRecDepth 100000 in
theorem co_X10_changed : Cond.code yX10_changed cX10_changed 3 (some .int) ∈ gw := gw_7 (i := 137) rfl rfl
set_option maxRecDepth 100000 in
theorem co_X10_clears : Cond.code yX10_clears cX10_clears 3 none ∈ gw := gw_6 (i := 90) rfl rfl
set_option maxRecDepth 100000 in
theorem co_X10_copies : Cond.code yX10_copies cX10_copies 4 none ∈ gw := gw_6 (i := 200) rfl rfl
set_option maxRecDepth 100000 in
theorem co_X10_count : Cond.code yX10_count cX10_count 2 (some .int) ∈ gw := gw_7 (i := 197) rfl rfl
set_option maxRecDepth 100000 in
theorem co_X10_counts : Cond.code yX10_counts cX10_counts 3 (some .int) ∈ gw := gw_7 (i := 133) rfl rfl
set_option maxRecDepth 100000 in
theorem co_X10_cycle : Cond.code yX10_cycle cX10_cycle 7 none ∈ gw := gw_6 (i := 212) rfl rfl
set_option maxRecDepth 100000 in
theorem co_X10_cycles : Cond.code yX10_cycles cX10_cycles 2 (some .int) ∈ gw := gw_7 (i := 185) rfl rfl
set_option maxRecDepth 100000 in
theorem co_X10_decides : Cond.code yX10_decides cX10_decides 2 none ∈ gw := gw_8 (i := 39) rfl rfl
set_option maxRecDepth 100000 in
theorem co_X10_deed : Cond.code yX10_deed cX10_deed 10 (some .int) ∈ gw := gw_7 (i := 10) rfl rfl
set_option maxRecDepth 100000 in
theorem co_X10_deeds : Cond.code yX10_deeds cX10_deeds 3 (some .int) ∈ gw := gw_7 (i := 205) rfl rfl
set_option maxRecDepth 100000 in
theorem co_X10_did : Cond.code yX10_did cX10_did 4 (some .int) ∈ gw := gw_7 (i := 209) rfl rfl
set_option maxRecDepth 100000 in
theorem co_X10_does : Cond.code yX10_does cX10_does 6 none ∈ gw := gw_7 (i := 72) rfl rfl
set_option maxRecDepth 100000 in
theorem co_X10_end : Cond.code yX10_end cX10_end 2 (some .int) ∈ gw := gw_7 (i := 177) rfl rfl
set_option maxRecDepth 100000 in
theorem co_X10_ending : Cond.code yX10_ending cX10_ending 2 (some .int) ∈ gw := gw_6 (i := 204) rfl rfl
set_option maxRecDepth 100000 in
theorem co_X10_ends : Cond.code yX10_ends cX10_ends 4 none ∈ gw := gw_7 (i := 68) rfl rfl
set_option maxRecDepth 100000 in
theorem co_X10_excuse : Cond.code yX10_excuse cX10_excuse 4 (some .int) ∈ gw := gw_7 (i := 80) rfl rfl
set_option maxRecDepth 100000 in
theorem co_X10_fails : Cond.code yX10_fails cX10_fails 1 none ∈ gw := gw_8 (i := 84) rfl rfl
set_option maxRecDepth 100000 in
theorem co_X10_fault : Cond.code yX10_fault cX10_fault 2 (some .int) ∈ gw := gw_7 (i := 181) rfl rfl
set_option maxRecDepth 100000 in
theorem co_X10_feed : Cond.code yX10_feed cX10_feed 8 (some .int) ∈ gw := gw_7 (i := 173) rfl rfl
set_option maxRecDepth 100000 in
theorem co_X10_finds : Cond.code yX10_finds cX10_finds 3 none ∈ gw := gw_8 (i := 152) rfl rfl
set_option maxRecDepth 100000 in
theorem co_X10_first : Cond.code yX10_first cX10_first 4 (some .int) ∈ gw := gw_6 (i := 230) rfl rfl
set_option maxRecDepth 100000 in
theorem co_X10_goes : Cond.code yX10_goes cX10_goes 4 (some .int) ∈ gw := gw_6 (i := 208) rfl rfl
set_option maxRecDepth 100000 in
theorem co_X10_has : Cond.code yX10_has cX10_has 2 (some .boolean) ∈ gw := gw_6 (i := 112) rfl rfl
set_option maxRecDepth 100000 in
theorem co_X10_hasCome : Cond.code yX10_hasCome cX10_hasCome 3 (some .boolean) ∈ gw := gw_7 (i := 84) rfl rfl
set_option maxRecDepth 100000 in
theorem co_X10_hasWord : Cond.code yX10_hasWord cX10_hasWord 4 (some .boolean) ∈ gw := gw_8 (i := 72) rfl rfl
set_option maxRecDepth 100000 in
theorem co_X10_haveCome : Cond.code yX10_haveCome cX10_haveCome 3 (some .boolean) ∈ gw := gw_7 (i := 96) rfl rfl
set_option maxRecDepth 100000 in
theorem co_X10_holds : Cond.code yX10_holds cX10_holds 3 (some .boolean) ∈ gw := gw_7 (i := 64) rfl rfl
set_option maxRecDepth 100000 in
theorem co_X10_image : Cond.code yX10_image cX10_image 4 (some .boolean) ∈ gw := gw_8 (i := 156) rfl rfl
set_option maxRecDepth 100000 in
theorem co_X10_inQueue : Cond.code yX10_inQueue cX10_inQueue 3 (some .int) ∈ gw := gw_6 (i := 223) rfl rfl
set_option maxRecDepth 100000 in
theorem co_X10_isAim : Cond.code yX10_isAim cX10_isAim 3 (some .boolean) ∈ gw := gw_7 (i := 14) rfl rfl
set_option maxRecDepth 100000 in
theorem co_X10_isDeed : Cond.code yX10_isDeed cX10_isDeed 4 (some .boolean) ∈ gw := gw_7 (i := 213) rfl rfl
set_option maxRecDepth 100000 in
theorem co_X10_isDigit : Cond.code yX10_isDigit cX10_isDigit 1 (some .boolean) ∈ gw := gw_8 (i := 57) rfl rfl
set_option maxRecDepth 100000 in
theorem co_X10_isEnded : Cond.code yX10_isEnded cX10_isEnded 3 (some .boolean) ∈ gw := gw_6 (i := 238) rfl rfl
set_option maxRecDepth 100000 in
theorem co_X10_isFull : Cond.code yX10_isFull cX10_isFull 3 (some .boolean) ∈ gw := gw_7 (i := 30) rfl rfl
set_option maxRecDepth 100000 in
theorem co_X10_isGood : Cond.code yX10_isGood cX10_isGood 1 (some .boolean) ∈ gw := gw_8 (i := 63) rfl rfl
set_option maxRecDepth 100000 in
theorem co_X10_isIn : Cond.code yX10_isIn cX10_isIn 3 (some .boolean) ∈ gw := gw_7 (i := 103) rfl rfl
set_option maxRecDepth 100000 in
theorem co_X10_isKept : Cond.code yX10_isKept cX10_isKept 4 (some .boolean) ∈ gw := gw_8 (i := 118) rfl rfl
set_option maxRecDepth 100000 in
theorem co_X10_isLetter : Cond.code yX10_isLetter cX10_isLetter 1 (some .boolean) ∈ gw := gw_8 (i := 54) rfl rfl
set_option maxRecDepth 100000 in
theorem co_X10_isLosing : Cond.code yX10_isLosing cX10_isLosing 4 (some .boolean) ∈ gw := gw_7 (i := 165) rfl rfl
set_option maxRecDepth 100000 in
theorem co_X10_isName : Cond.code yX10_isName cX10_isName 1 (some .boolean) ∈ gw := gw_8 (i := 115) rfl rfl
set_option maxRecDepth 100000 in
theorem co_X10_isReckoning : Cond.code yX10_isReckoning cX10_isReckoning 1 (some .boolean) ∈ gw := gw_6 (i := 109) rfl rfl
set_option maxRecDepth 100000 in
theorem co_X10_isStored : Cond.code yX10_isStored cX10_isStored 4 (some .boolean) ∈ gw := gw_7 (i := 42) rfl rfl
set_option maxRecDepth 100000 in
theorem co_X10_isWord : Cond.code yX10_isWord cX10_isWord 3 (some .boolean) ∈ gw := gw_8 (i := 76) rfl rfl
set_option maxRecDepth 100000 in
theorem co_X10_keeping : Cond.code yX10_keeping cX10_keeping 2 (some .int) ∈ gw := gw_7 (i := 107) rfl rfl
set_option maxRecDepth 100000 in
theorem co_X10_late : Cond.code yX10_late cX10_late 2 (some .int) ∈ gw := gw_7 (i := 100) rfl rfl
set_option maxRecDepth 100000 in
theorem co_X10_lays : Cond.code yX10_lays cX10_lays 2 none ∈ gw := gw_8 (i := 27) rfl rfl
set_option maxRecDepth 100000 in
theorem co_X10_least : Cond.code yX10_least cX10_least 6 (some .int) ∈ gw := gw_7 (i := 117) rfl rfl
set_option maxRecDepth 100000 in
theorem co_X10_letter : Cond.code yX10_letter cX10_letter 2 none ∈ gw := gw_8 (i := 31) rfl rfl
set_option maxRecDepth 100000 in
theorem co_X10_letterTaken : Cond.code yX10_letterTaken cX10_letterTaken 2 (some .int) ∈ gw := gw_8 (i := 108) rfl rfl
set_option maxRecDepth 100000 in
theorem co_X10_many : Cond.code yX10_many cX10_many 5 (some .int) ∈ gw := gw_7 (i := 169) rfl rfl
set_option maxRecDepth 100000 in
theorem co_X10_nameBy : Cond.code yX10_nameBy cX10_nameBy 4 (some .int) ∈ gw := gw_8 (i := 129) rfl rfl
set_option maxRecDepth 100000 in
theorem co_X10_next : Cond.code yX10_next cX10_next 4 (some .int) ∈ gw := gw_7 (i := 161) rfl rfl
set_option maxRecDepth 100000 in
theorem co_X10_number : Cond.code yX10_number cX10_number 2 none ∈ gw := gw_8 (i := 35) rfl rfl
set_option maxRecDepth 100000 in
theorem co_X10_numeral : Cond.code yX10_numeral cX10_numeral 5 (some .int) ∈ gw := gw_8 (i := 80) rfl rfl
set_option maxRecDepth 100000 in
theorem co_X10_of : Cond.code yX10_of cX10_of 4 (some .int) ∈ gw := gw_6 (i := 106) rfl rfl
set_option maxRecDepth 100000 in
theorem co_X10_opHere : Cond.code yX10_opHere cX10_opHere 4 (some .int) ∈ gw := gw_8 (i := 141) rfl rfl
set_option maxRecDepth 100000 in
theorem co_X10_opOf : Cond.code yX10_opOf cX10_opOf 3 (some .int) ∈ gw := gw_6 (i := 102) rfl rfl
set_option maxRecDepth 100000 in
theorem co_X10_opWord : Cond.code yX10_opWord cX10_opWord 1 (some .long) ∈ gw := gw_8 (i := 2) rfl rfl
set_option maxRecDepth 100000 in
theorem co_X10_passes : Cond.code yX10_passes cX10_passes 4 none ∈ gw := gw_7 (i := 6) rfl rfl
set_option maxRecDepth 100000 in
theorem co_X10_program : Cond.code yX10_program cX10_program 1 (some .int) ∈ gw := gw_8 (i := 43) rfl rfl
set_option maxRecDepth 100000 in
theorem co_X10_pushes : Cond.code yX10_pushes cX10_pushes 7 none ∈ gw := gw_7 (i := 50) rfl rfl
set_option maxRecDepth 100000 in
theorem co_X10_queue : Cond.code yX10_queue cX10_queue 4 (some .int) ∈ gw := gw_7 (i := 218) rfl rfl
set_option maxRecDepth 100000 in
theorem co_X10_queueAt : Cond.code yX10_queueAt cX10_queueAt 2 (some .int) ∈ gw := gw_6 (i := 226) rfl rfl
set_option maxRecDepth 100000 in
theorem co_X10_queueTaken : Cond.code yX10_queueTaken cX10_queueTaken 2 (some .int) ∈ gw := gw_8 (i := 93) rfl rfl
set_option maxRecDepth 100000 in
theorem co_X10_queueWord : Cond.code yX10_queueWord cX10_queueWord 1 (some .long) ∈ gw := gw_8 (i := 96) rfl rfl
set_option maxRecDepth 100000 in
theorem co_X10_reach : Cond.code yX10_reach cX10_reach 5 (some .int) ∈ gw := gw_7 (i := 157) rfl rfl
set_option maxRecDepth 100000 in
theorem co_X10_reads : Cond.code yX10_reads cX10_reads 1 none ∈ gw := gw_8 (i := 125) rfl rfl
set_option maxRecDepth 100000 in
theorem co_X10_readsInstruction : Cond.code yX10_readsInstruction cX10_readsInstruction 5 none ∈ gw := gw_8 (i := 137) rfl rfl
set_option maxRecDepth 100000 in
theorem co_X10_readsLine : Cond.code yX10_readsLine cX10_readsLine 2 none ∈ gw := gw_8 (i := 67) rfl rfl
set_option maxRecDepth 100000 in
theorem co_X10_reason : Cond.code yX10_reason cX10_reason 4 (some .int) ∈ gw := gw_7 (i := 26) rfl rfl
set_option maxRecDepth 100000 in
theorem co_X10_reckoned : Cond.code yX10_reckoned cX10_reckoned 3 (some .int) ∈ gw := gw_7 (i := 54) rfl rfl
set_option maxRecDepth 100000 in
theorem co_X10_reckons : Cond.code yX10_reckons cX10_reckons 4 (some .int) ∈ gw := gw_7 (i := 58) rfl rfl
set_option maxRecDepth 100000 in
theorem co_X10_reg : Cond.code yX10_reg cX10_reg 3 (some .int) ∈ gw := gw_7 (i := 38) rfl rfl
set_option maxRecDepth 100000 in
theorem co_X10_register : Cond.code yX10_register cX10_register 2 (some .int) ∈ gw := gw_7 (i := 230) rfl rfl
set_option maxRecDepth 100000 in
theorem co_X10_room : Cond.code yX10_room cX10_room 3 (some .boolean) ∈ gw := gw_7 (i := 193) rfl rfl
set_option maxRecDepth 100000 in
theorem co_X10_roomOf : Cond.code yX10_roomOf cX10_roomOf 2 (some .int) ∈ gw := gw_7 (i := 222) rfl rfl
set_option maxRecDepth 100000 in
theorem co_X10_rounds : Cond.code yX10_rounds cX10_rounds 6 (some .int) ∈ gw := gw_7 (i := 153) rfl rfl
set_option maxRecDepth 100000 in
theorem co_X10_runs : Cond.code yX10_runs cX10_runs 9 none ∈ gw := gw_7 (i := 2) rfl rfl
set_option maxRecDepth 100000 in
theorem co_X10_safe : Cond.code yX10_safe cX10_safe 3 (some .int) ∈ gw := gw_7 (i := 125) rfl rfl
set_option maxRecDepth 100000 in
theorem co_X10_send : Cond.code yX10_send cX10_send 6 (some .int) ∈ gw := gw_7 (i := 22) rfl rfl
set_option maxRecDepth 100000 in
theorem co_X10_sends : Cond.code yX10_sends cX10_sends 4 (some .int) ∈ gw := gw_7 (i := 18) rfl rfl
set_option maxRecDepth 100000 in
theorem co_X10_side : Cond.code yX10_side cX10_side 6 (some .int) ∈ gw := gw_7 (i := 201) rfl rfl
set_option maxRecDepth 100000 in
theorem co_X10_sideAt : Cond.code yX10_sideAt cX10_sideAt 2 (some .int) ∈ gw := gw_6 (i := 215) rfl rfl
set_option maxRecDepth 100000 in
theorem co_X10_sign : Cond.code yX10_sign cX10_sign 2 none ∈ gw := gw_8 (i := 133) rfl rfl
set_option maxRecDepth 100000 in
theorem co_X10_slip : Cond.code yX10_slip cX10_slip 2 (some .int) ∈ gw := gw_7 (i := 92) rfl rfl
set_option maxRecDepth 100000 in
theorem co_X10_slipped : Cond.code yX10_slipped cX10_slipped 2 (some .int) ∈ gw := gw_7 (i := 141) rfl rfl
set_option maxRecDepth 100000 in
theorem co_X10_starts : Cond.code yX10_starts cX10_starts 3 none ∈ gw := gw_6 (i := 94) rfl rfl
set_option maxRecDepth 100000 in
theorem co_X10_step : Cond.code yX10_step cX10_step 5 none ∈ gw := gw_7 (i := 149) rfl rfl
set_option maxRecDepth 100000 in
theorem co_X10_takes : Cond.code yX10_takes cX10_takes 6 (some .int) ∈ gw := gw_6 (i := 234) rfl rfl
set_option maxRecDepth 100000 in
theorem co_X10_takesToken : Cond.code yX10_takesToken cX10_takesToken 2 none ∈ gw := gw_8 (i := 47) rfl rfl
set_option maxRecDepth 100000 in
theorem co_X10_tells : Cond.code yX10_tells cX10_tells 5 none ∈ gw := gw_7 (i := 238) rfl rfl
set_option maxRecDepth 100000 in
theorem co_X10_text : Cond.code yX10_text cX10_text 5 (some .int) ∈ gw := gw_7 (i := 234) rfl rfl
set_option maxRecDepth 100000 in
theorem co_X10_time : Cond.code yX10_time cX10_time 1 (some .int) ∈ gw := gw_6 (i := 192) rfl rfl
set_option maxRecDepth 100000 in
theorem co_X10_timeBy : Cond.code yX10_timeBy cX10_timeBy 3 (some .int) ∈ gw := gw_7 (i := 121) rfl rfl
set_option maxRecDepth 100000 in
theorem co_X10_toils : Cond.code yX10_toils cX10_toils 11 none ∈ gw := gw_7 (i := 76) rfl rfl
set_option maxRecDepth 100000 in
theorem co_X10_tries : Cond.code yX10_tries cX10_tries 1 none ∈ gw := gw_6 (i := 196) rfl rfl
set_option maxRecDepth 100000 in
theorem co_X10_waits : Cond.code yX10_waits cX10_waits 5 none ∈ gw := gw_7 (i := 46) rfl rfl
set_option maxRecDepth 100000 in
theorem co_X10_wants : Cond.code yX10_wants cX10_wants 2 none ∈ gw := gw_8 (i := 148) rfl rfl
set_option maxRecDepth 100000 in
theorem co_X10_word : Cond.code yX10_word cX10_word 4 none ∈ gw := gw_8 (i := 22) rfl rfl
set_option maxRecDepth 100000 in
theorem co_X10_works : Cond.code yX10_works cX10_works 3 (some .int) ∈ gw := gw_7 (i := 88) rfl rfl
set_option maxRecDepth 100000 in
theorem co_X10_wrap : Cond.code yX10_wrap cX10_wrap 1 (some .int) ∈ gw := gw_7 (i := 61) rfl rfl
set_option maxRecDepth 100000 in
theorem co_X10_writes : Cond.code yX10_writes cX10_writes 5 none ∈ gw := gw_6 (i := 219) rfl rfl
set_option maxRecDepth 100000 in
theorem co_X2_init : Cond.code yX2_init cX2_init 2 none ∈ gw := gw_1 (i := 48) rfl rfl
set_option maxRecDepth 100000 in
theorem co_X2_addDeed : Cond.code yX2_addDeed cX2_addDeed 5 none ∈ gw := gw_2 (i := 234) rfl rfl
set_option maxRecDepth 100000 in
theorem co_X2_addSend : Cond.code yX2_addSend cX2_addSend 4 none ∈ gw := gw_3 (i := 5) rfl rfl
set_option maxRecDepth 100000 in
theorem co_X2_clear : Cond.code yX2_clear cX2_clear 1 none ∈ gw := gw_1 (i := 102) rfl rfl
set_option maxRecDepth 100000 in
theorem co_X2_copyFrom : Cond.code yX2_copyFrom cX2_copyFrom 3 none ∈ gw := gw_3 (i := 233) rfl rfl
set_option maxRecDepth 100000 in
theorem co_X2_deedsAt : Cond.code yX2_deedsAt cX2_deedsAt 3 (some .int) ∈ gw := gw_4 (i := 43) rfl rfl
set_option maxRecDepth 100000 in
theorem co_X2_deedsInAll : Cond.code yX2_deedsInAll cX2_deedsInAll 4 (some .int) ∈ gw := gw_4 (i := 168) rfl rfl
set_option maxRecDepth 100000 in
theorem co_X2_findReach : Cond.code yX2_findReach cX2_findReach 3 none ∈ gw := gw_6 (i := 44) rfl rfl
set_option maxRecDepth 100000 in
theorem co_X2_followers : Cond.code yX2_followers cX2_followers 2 (some .int) ∈ gw := gw_6 (i := 48) rfl rfl
set_option maxRecDepth 100000 in
theorem co_X2_hasDeed : Cond.code yX2_hasDeed cX2_hasDeed 4 (some .boolean) ∈ gw := gw_4 (i := 186) rfl rfl
set_option maxRecDepth 100000 in
theorem co_X2_kindOf : Cond.code yX2_kindOf cX2_kindOf 4 (some .int) ∈ gw := gw_4 (i := 54) rfl rfl
set_option maxRecDepth 100000 in
theorem co_X2_letterOf : Cond.code yX2_letterOf cX2_letterOf 1 (some .char) ∈ gw := gw_5 (i := 106) rfl rfl
set_option maxRecDepth 100000 in
theorem co_X2_loses : Cond.code yX2_loses cX2_loses 4 (some .boolean) ∈ gw := gw_6 (i := 56) rfl rfl
set_option maxRecDepth 100000 in
theorem co_X2_roundBits : Cond.code yX2_roundBits cX2_roundBits 5 (some .int) ∈ gw := gw_6 (i := 40) rfl rfl
set_option maxRecDepth 100000 in
theorem co_X2_roundOf : Cond.code yX2_roundOf cX2_roundOf 4 (some .int) ∈ gw := gw_6 (i := 52) rfl rfl
set_option maxRecDepth 100000 in
theorem co_X2_sentAt : Cond.code yX2_sentAt cX2_sentAt 3 (some .int) ∈ gw := gw_4 (i := 82) rfl rfl
set_option maxRecDepth 100000 in
theorem co_X2_split : Cond.code yX2_split cX2_split 2 none ∈ gw := gw_2 (i := 213) rfl rfl
set_option maxRecDepth 100000 in
theorem co_X2_splitIf : Cond.code yX2_splitIf cX2_splitIf 3 none ∈ gw := gw_3 (i := 13) rfl rfl
set_option maxRecDepth 100000 in
theorem co_X2_splitMemory : Cond.code yX2_splitMemory cX2_splitMemory 6 none ∈ gw := gw_3 (i := 9) rfl rfl
set_option maxRecDepth 100000 in
theorem co_X2_splitOne : Cond.code yX2_splitOne cX2_splitOne 3 none ∈ gw := gw_2 (i := 230) rfl rfl
set_option maxRecDepth 100000 in
theorem co_X2_splitReckoning : Cond.code yX2_splitReckoning cX2_splitReckoning 3 none ∈ gw := gw_3 (i := 1) rfl rfl
set_option maxRecDepth 100000 in
theorem co_X2_widenAims : Cond.code yX2_widenAims cX2_widenAims 3 none ∈ gw := gw_2 (i := 217) rfl rfl
set_option maxRecDepth 100000 in
theorem co_X2_wordOf : Cond.code yX2_wordOf cX2_wordOf 1 (some (.object "java/lang/String")) ∈ gw := gw_5 (i := 8) rfl rfl
set_option maxRecDepth 100000 in
theorem co_X2_write : Cond.code yX2_write cX2_write 7 none ∈ gw := gw_5 (i := 4) rfl rfl
set_option maxRecDepth 100000 in
theorem co_X2_writeNumber : Cond.code yX2_writeNumber cX2_writeNumber 2 none ∈ gw := gw_5 (i := 109) rfl rfl
set_option maxRecDepth 100000 in
theorem co_X2_writeRegister : Cond.code yX2_writeRegister cX2_writeRegister 2 none ∈ gw := gw_5 (i := 90) rfl rfl
set_option maxRecDepth 100000 in
theorem co_X3_init : Cond.code yX3_init cX3_init 1 none ∈ gw := gw_1 (i := 171) rfl rfl
set_option maxRecDepth 100000 in
theorem co_X3_add : Cond.code yX3_add cX3_add 4 none ∈ gw := gw_4 (i := 86) rfl rfl
set_option maxRecDepth 100000 in
theorem co_X3_clear : Cond.code yX3_clear cX3_clear 2 none ∈ gw := gw_2 (i := 1) rfl rfl
set_option maxRecDepth 100000 in
theorem co_X3_copyFrom : Cond.code yX3_copyFrom cX3_copyFrom 2 none ∈ gw := gw_5 (i := 212) rfl rfl
set_option maxRecDepth 100000 in
theorem co_X3_heldAt : Cond.code yX3_heldAt cX3_heldAt 2 (some .int) ∈ gw := gw_5 (i := 163) rfl rfl
set_option maxRecDepth 100000 in
theorem co_X3_holds : Cond.code yX3_holds cX3_holds 3 (some .boolean) ∈ gw := gw_4 (i := 66) rfl rfl
set_option maxRecDepth 100000 in
theorem co_X3_isFull : Cond.code yX3_isFull cX3_isFull 1 (some .boolean) ∈ gw := gw_4 (i := 70) rfl rfl
set_option maxRecDepth 100000 in
theorem co_X3_markAt : Cond.code yX3_markAt cX3_markAt 2 (some .int) ∈ gw := gw_4 (i := 23) rfl rfl
set_option maxRecDepth 100000 in
theorem co_X3_take : Cond.code yX3_take cX3_take 2 (some .int) ∈ gw := gw_4 (i := 27) rfl rfl
set_option maxRecDepth 100000 in
theorem co_X4_init : Cond.code yX4_init cX4_init 1 none ∈ gw := gw_2 (i := 90) rfl rfl
set_option maxRecDepth 100000 in
theorem co_X4_breakOff : Cond.code yX4_breakOff cX4_breakOff 1 none ∈ gw := gw_3 (i := 178) rfl rfl
set_option maxRecDepth 100000 in
theorem co_X4_findAims : Cond.code yX4_findAims cX4_findAims 3 none ∈ gw := gw_3 (i := 229) rfl rfl
set_option maxRecDepth 100000 in
theorem co_X4_isBroken : Cond.code yX4_isBroken cX4_isBroken 1 (some .boolean) ∈ gw := gw_3 (i := 162) rfl rfl
set_option maxRecDepth 100000 in
theorem co_X4_isNext : Cond.code yX4_isNext cX4_isNext 2 (some .boolean) ∈ gw := gw_3 (i := 158) rfl rfl
set_option maxRecDepth 100000 in
theorem co_X4_note : Cond.code yX4_note cX4_note 3 none ∈ gw := gw_3 (i := 187) rfl rfl
set_option maxRecDepth 100000 in
theorem co_X4_read : Cond.code yX4_read cX4_read 4 none ∈ gw := gw_3 (i := 55) rfl rfl
set_option maxRecDepth 100000 in
theorem co_X4_readInstruction : Cond.code yX4_readInstruction cX4_readInstruction 3 none ∈ gw := gw_3 (i := 212) rfl rfl
set_option maxRecDepth 100000 in
theorem co_X4_readLine : Cond.code yX4_readLine cX4_readLine 1 none ∈ gw := gw_3 (i := 166) rfl rfl
set_option maxRecDepth 100000 in
theorem co_X4_readNameAhead : Cond.code yX4_readNameAhead cX4_readNameAhead 1 none ∈ gw := gw_3 (i := 196) rfl rfl
set_option maxRecDepth 100000 in
theorem co_X4_readRest : Cond.code yX4_readRest cX4_readRest 2 none ∈ gw := gw_3 (i := 217) rfl rfl
set_option maxRecDepth 100000 in
theorem co_X4_readSetting : Cond.code yX4_readSetting cX4_readSetting 5 none ∈ gw := gw_3 (i := 170) rfl rfl
set_option maxRecDepth 100000 in
theorem co_X4_rowNamed : Cond.code yX4_rowNamed cX4_rowNamed 3 (some .int) ∈ gw := gw_3 (i := 200) rfl rfl
set_option maxRecDepth 100000 in
theorem co_X4_take : Cond.code yX4_take cX4_take 3 (some .int) ∈ gw := gw_3 (i := 174) rfl rfl
set_option maxRecDepth 100000 in
theorem co_X4_takeAim : Cond.code yX4_takeAim cX4_takeAim 1 none ∈ gw := gw_3 (i := 221) rfl rfl
set_option maxRecDepth 100000 in
theorem co_X4_takeNumber : Cond.code yX4_takeNumber cX4_takeNumber 5 (some .int) ∈ gw := gw_3 (i := 182) rfl rfl
set_option maxRecDepth 100000 in
theorem co_X4_takeQueue : Cond.code yX4_takeQueue cX4_takeQueue 1 (some .int) ∈ gw := gw_3 (i := 191) rfl rfl
set_option maxRecDepth 100000 in
theorem co_X4_takeRelation : Cond.code yX4_takeRelation cX4_takeRelation 1 (some .char) ∈ gw := gw_3 (i := 225) rfl rfl
set_option maxRecDepth 100000 in
theorem co_X4_takeSign : Cond.code yX4_takeSign cX4_takeSign 2 none ∈ gw := gw_3 (i := 208) rfl rfl
set_option maxRecDepth 100000 in
theorem co_X5_init : Cond.code yX5_init cX5_init 2 none ∈ gw := gw_1 (i := 196) rfl rfl
set_option maxRecDepth 100000 in
theorem co_X5_copyFrom : Cond.code yX5_copyFrom cX5_copyFrom 2 none ∈ gw := gw_5 (i := 217) rfl rfl
set_option maxRecDepth 100000 in
theorem co_X5_figure : Cond.code yX5_figure cX5_figure 2 (some .int) ∈ gw := gw_4 (i := 173) rfl rfl
set_option maxRecDepth 100000 in
theorem co_X5_finishDeed : Cond.code yX5_finishDeed cX5_finishDeed 3 none ∈ gw := gw_4 (i := 97) rfl rfl
set_option maxRecDepth 100000 in
theorem co_X5_kindOfNext : Cond.code yX5_kindOfNext cX5_kindOfNext 2 (some .int) ∈ gw := gw_4 (i := 50) rfl rfl
set_option maxRecDepth 100000 in
theorem co_X5_passWithoutDeeds : Cond.code yX5_passWithoutDeeds cX5_passWithoutDeeds 2 none ∈ gw := gw_4 (i := 39) rfl rfl
set_option maxRecDepth 100000 in
theorem co_X5_setReason : Cond.code yX5_setReason cX5_setReason 2 none ∈ gw := gw_4 (i := 35) rfl rfl
set_option maxRecDepth 100000 in
theorem co_X5_toBeginning : Cond.code yX5_toBeginning cX5_toBeginning 1 none ∈ gw := gw_2 (i := 5) rfl rfl
set_option maxRecDepth 100000 in
theorem co_X6_init : Cond.code yX6_init cX6_init 1 none ∈ gw := gw_2 (i := 160) rfl rfl
set_option maxRecDepth 100000 in
theorem co_X6_figure : Cond.code yX6_figure cX6_figure 2 (some .int) ∈ gw := gw_5 (i := 199) rfl rfl
set_option maxRecDepth 100000 in
theorem co_X6_startOf : Cond.code yX6_startOf cX6_startOf 2 none ∈ gw := gw_5 (i := 187) rfl rfl
set_option maxRecDepth 100000 in
theorem co_X6_step : Cond.code yX6_step cX6_step 4 none ∈ gw := gw_5 (i := 192) rfl rfl
set_option maxRecDepth 100000 in
theorem co_X7_init : Cond.code yX7_init cX7_init 1 none ∈ gw := gw_2 (i := 98) rfl rfl
set_option maxRecDepth 100000 in
theorem co_X7_add : Cond.code yX7_add cX7_add 5 none ∈ gw := gw_3 (i := 83) rfl rfl
set_option maxRecDepth 100000 in
theorem co_X7_addDigits : Cond.code yX7_addDigits cX7_addDigits 5 none ∈ gw := gw_3 (i := 149) rfl rfl
set_option maxRecDepth 100000 in
theorem co_X7_addLetters : Cond.code yX7_addLetters cX7_addLetters 4 none ∈ gw := gw_3 (i := 79) rfl rfl
set_option maxRecDepth 100000 in
theorem co_X7_isBlank : Cond.code yX7_isBlank cX7_isBlank 1 (some .boolean) ∈ gw := gw_3 (i := 68) rfl rfl
set_option maxRecDepth 100000 in
theorem co_X7_isDigit : Cond.code yX7_isDigit cX7_isDigit 1 (some .boolean) ∈ gw := gw_3 (i := 145) rfl rfl
set_option maxRecDepth 100000 in
theorem co_X7_isLetter : Cond.code yX7_isLetter cX7_isLetter 1 (some .boolean) ∈ gw := gw_3 (i := 75) rfl rfl
set_option maxRecDepth 100000 in
theorem co_X7_isSame : Cond.code yX7_isSame cX7_isSame 5 (some .boolean) ∈ gw := gw_3 (i := 204) rfl rfl
set_option maxRecDepth 100000 in
theorem co_X7_isSign : Cond.code yX7_isSign cX7_isSign 1 (some .boolean) ∈ gw := gw_3 (i := 152) rfl rfl
set_option maxRecDepth 100000 in
theorem co_X7_isWordAt : Cond.code yX7_isWordAt cX7_isWordAt 5 (some .boolean) ∈ gw := gw_3 (i := 142) rfl rfl
set_option maxRecDepth 100000 in
theorem co_X7_scan : Cond.code yX7_scan cX7_scan 5 none ∈ gw := gw_3 (i := 59) rfl rfl
set_option maxRecDepth 100000 in
theorem co_X7_scanOne : Cond.code yX7_scanOne cX7_scanOne 4 (some .int) ∈ gw := gw_3 (i := 72) rfl rfl
set_option maxRecDepth 100000 in
theorem co_X7_wordNumber : Cond.code yX7_wordNumber cX7_wordNumber 6 (some .int) ∈ gw := gw_3 (i := 90) rfl rfl
set_option maxRecDepth 100000 in
theorem co_X8_init : Cond.code yX8_init cX8_init 1 none ∈ gw := gw_1 (i := 36) rfl rfl
set_option maxRecDepth 100000 in
theorem co_X8_append : Cond.code yX8_append cX8_append 3 none ∈ gw := gw_3 (i := 43) rfl rfl
set_option maxRecDepth 100000 in
theorem co_X8_copyFrom : Cond.code yX8_copyFrom cX8_copyFrom 2 none ∈ gw := gw_6 (i := 74) rfl rfl
set_option maxRecDepth 100000 in
theorem co_X9_init : Cond.code yX9_init cX9_init 2 none ∈ gw := gw_1 (i := 28) rfl rfl
set_option maxRecDepth 100000 in
theorem co_X9_again : Cond.code yX9_again cX9_again 2 (some .boolean) ∈ gw := gw_6 (i := 80) rfl rfl
set_option maxRecDepth 100000 in
theorem co_X9_ahead : Cond.code yX9_ahead cX9_ahead 3 (some .int) ∈ gw := gw_5 (i := 203) rfl rfl
set_option maxRecDepth 100000 in
theorem co_X9_alone : Cond.code yX9_alone cX9_alone 5 (some .int) ∈ gw := gw_5 (i := 183) rfl rfl
set_option maxRecDepth 100000 in
theorem co_X9_begin : Cond.code yX9_begin cX9_begin 1 none ∈ gw := gw_4 (i := 140) rfl rfl
set_option maxRecDepth 100000 in
theorem co_X9_best : Cond.code yX9_best cX9_best 5 (some .int) ∈ gw := gw_6 (i := 7) rfl rfl
set_option maxRecDepth 100000 in
theorem co_X9_bit : Cond.code yX9_bit cX9_bit 1 (some .int) ∈ gw := gw_2 (i := 220) rfl rfl
set_option maxRecDepth 100000 in
theorem co_X9_cell : Cond.code yX9_cell cX9_cell 2 (some .int) ∈ gw := gw_5 (i := 171) rfl rfl
set_option maxRecDepth 100000 in
theorem co_X9_changed : Cond.code yX9_changed cX9_changed 4 (some .int) ∈ gw := gw_6 (i := 60) rfl rfl
set_option maxRecDepth 100000 in
theorem co_X9_count : Cond.code yX9_count cX9_count 2 (some .int) ∈ gw := gw_4 (i := 151) rfl rfl
set_option maxRecDepth 100000 in
theorem co_X9_cycles : Cond.code yX9_cycles cX9_cycles 2 (some .int) ∈ gw := gw_4 (i := 7) rfl rfl
set_option maxRecDepth 100000 in
theorem co_X9_deedPlace : Cond.code yX9_deedPlace cX9_deedPlace 3 (some .int) ∈ gw := gw_2 (i := 237) rfl rfl
set_option maxRecDepth 100000 in
theorem co_X9_deeds : Cond.code yX9_deeds cX9_deeds 3 (some .int) ∈ gw := gw_4 (i := 177) rfl rfl
set_option maxRecDepth 100000 in
theorem co_X9_did : Cond.code yX9_did cX9_did 4 (some .int) ∈ gw := gw_5 (i := 155) rfl rfl
set_option maxRecDepth 100000 in
theorem co_X9_end : Cond.code yX9_end cX9_end 2 (some .int) ∈ gw := gw_3 (i := 47) rfl rfl
set_option maxRecDepth 100000 in
theorem co_X9_fault : Cond.code yX9_fault cX9_fault 2 (some .int) ∈ gw := gw_4 (i := 3) rfl rfl
set_option maxRecDepth 100000 in
theorem co_X9_feed : Cond.code yX9_feed cX9_feed 6 (some .int) ∈ gw := gw_3 (i := 39) rfl rfl
set_option maxRecDepth 100000 in
theorem co_X9_figureOf : Cond.code yX9_figureOf cX9_figureOf 3 (some .int) ∈ gw := gw_4 (i := 155) rfl rfl
set_option maxRecDepth 100000 in
theorem co_X9_image : Cond.code yX9_image cX9_image 2 (some .boolean) ∈ gw := gw_6 (i := 70) rfl rfl
set_option maxRecDepth 100000 in
theorem co_X9_isCell : Cond.code yX9_isCell cX9_isCell 1 (some .boolean) ∈ gw := gw_5 (i := 174) rfl rfl
set_option maxRecDepth 100000 in
theorem co_X9_isIn : Cond.code yX9_isIn cX9_isIn 2 (some .boolean) ∈ gw := gw_2 (i := 226) rfl rfl
set_option maxRecDepth 100000 in
theorem co_X9_isQueue : Cond.code yX9_isQueue cX9_isQueue 1 (some .boolean) ∈ gw := gw_4 (i := 147) rfl rfl
set_option maxRecDepth 100000 in
theorem co_X9_isReckoning : Cond.code yX9_isReckoning cX9_isReckoning 1 (some .boolean) ∈ gw := gw_2 (i := 223) rfl rfl
set_option maxRecDepth 100000 in
theorem co_X9_isRegister : Cond.code yX9_isRegister cX9_isRegister 1 (some .boolean) ∈ gw := gw_3 (i := 86) rfl rfl
set_option maxRecDepth 100000 in
theorem co_X9_isSide : Cond.code yX9_isSide cX9_isSide 1 (some .boolean) ∈ gw := gw_4 (i := 46) rfl rfl
set_option maxRecDepth 100000 in
theorem co_X9_keeping : Cond.code yX9_keeping cX9_keeping 2 (some .int) ∈ gw := gw_5 (i := 238) rfl rfl
set_option maxRecDepth 100000 in
theorem co_X9_late : Cond.code yX9_late cX9_late 2 (some .int) ∈ gw := gw_5 (i := 234) rfl rfl
set_option maxRecDepth 100000 in
theorem co_X9_least : Cond.code yX9_least cX9_least 5 (some .int) ∈ gw := gw_6 (i := 16) rfl rfl
set_option maxRecDepth 100000 in
theorem co_X9_leastNotStuck : Cond.code yX9_leastNotStuck cX9_leastNotStuck 4 (some .int) ∈ gw := gw_6 (i := 20) rfl rfl
set_option maxRecDepth 100000 in
theorem co_X9_noTimeIsMost : Cond.code yX9_noTimeIsMost cX9_noTimeIsMost 1 (some .int) ∈ gw := gw_6 (i := 11) rfl rfl
set_option maxRecDepth 100000 in
theorem co_X9_program : Cond.code yX9_program cX9_program 1 (some .int) ∈ gw := gw_3 (i := 51) rfl rfl
set_option maxRecDepth 100000 in
theorem co_X9_queue : Cond.code yX9_queue cX9_queue 4 (some .int) ∈ gw := gw_5 (i := 159) rfl rfl
set_option maxRecDepth 100000 in
theorem co_X9_reckon : Cond.code yX9_reckon cX9_reckon 3 (some .int) ∈ gw := gw_4 (i := 93) rfl rfl
set_option maxRecDepth 100000 in
theorem co_X9_register : Cond.code yX9_register cX9_register 2 (some .int) ∈ gw := gw_5 (i := 178) rfl rfl
set_option maxRecDepth 100000 in
theorem co_X9_room : Cond.code yX9_room cX9_room 3 (some .boolean) ∈ gw := gw_4 (i := 144) rfl rfl
set_option maxRecDepth 100000 in
theorem co_X9_roomOf : Cond.code yX9_roomOf cX9_roomOf 2 (some .int) ∈ gw := gw_5 (i := 167) rfl rfl
set_option maxRecDepth 100000 in
theorem co_X9_rounds : Cond.code yX9_rounds cX9_rounds 2 (some .int) ∈ gw := gw_6 (i := 36) rfl rfl
set_option maxRecDepth 100000 in
theorem co_X9_safe : Cond.code yX9_safe cX9_safe 1 (some .int) ∈ gw := gw_6 (i := 32) rfl rfl
set_option maxRecDepth 100000 in
theorem co_X9_side : Cond.code yX9_side cX9_side 3 (some .int) ∈ gw := gw_4 (i := 163) rfl rfl
set_option maxRecDepth 100000 in
theorem co_X9_slipped : Cond.code yX9_slipped cX9_slipped 3 (some .int) ∈ gw := gw_6 (i := 65) rfl rfl
set_option maxRecDepth 100000 in
theorem co_X9_text : Cond.code yX9_text cX9_text 6 (some .int) ∈ gw := gw_4 (i := 182) rfl rfl
set_option maxRecDepth 100000 in
theorem co_X9_time : Cond.code yX9_time cX9_time 1 (some .int) ∈ gw := gw_5 (i := 222) rfl rfl
set_option maxRecDepth 100000 in
theorem co_X9_timeKeeping : Cond.code yX9_timeKeeping cX9_timeKeeping 2 (some .int) ∈ gw := gw_6 (i := 2) rfl rfl
set_option maxRecDepth 100000 in
theorem co_X9_timeWithRoom : Cond.code yX9_timeWithRoom cX9_timeWithRoom 3 (some .int) ∈ gw := gw_6 (i := 28) rfl rfl
set_option maxRecDepth 100000 in
theorem co_X9_tryFromBeginning : Cond.code yX9_tryFromBeginning cX9_tryFromBeginning 1 none ∈ gw := gw_5 (i := 226) rfl rfl
set_option maxRecDepth 100000 in
theorem cl_X10_239 : Jvm.Cond.constantLong RX10 239 (255 : Int64) ∈ gw := gw_8 (i := 23) rfl rfl
set_option maxRecDepth 100000 in
theorem cl_X10_250 : Jvm.Cond.constantLong RX10 250 (1936027236 : Int64) ∈ gw := gw_7 (i := 239) rfl rfl
set_option maxRecDepth 100000 in
theorem cl_X10_256 : Jvm.Cond.constantLong RX10 256 (439788790632 : Int64) ∈ gw := gw_8 (i := 7) rfl rfl
set_option maxRecDepth 100000 in
theorem cl_X10_258 : Jvm.Cond.constantLong RX10 258 (452908512613 : Int64) ∈ gw := gw_8 (i := 8) rfl rfl
set_option maxRecDepth 100000 in
theorem cl_X10_260 : Jvm.Cond.constantLong RX10 260 (6776180 : Int64) ∈ gw := gw_8 (i := 9) rfl rfl
set_option maxRecDepth 100000 in
theorem cl_X10_262 : Jvm.Cond.constantLong RX10 262 (7370100 : Int64) ∈ gw := gw_8 (i := 10) rfl rfl
set_option maxRecDepth 100000 in
theorem cl_X10_264 : Jvm.Cond.constantLong RX10 264 (482854658917 : Int64) ∈ gw := gw_8 (i := 11) rfl rfl
set_option maxRecDepth 100000 in
theorem cl_X10_266 : Jvm.Cond.constantLong RX10 266 (1734964837 : Int64) ∈ gw := gw_8 (i := 12) rfl rfl
set_option maxRecDepth 100000 in
theorem cl_X10_268 : Jvm.Cond.constantLong RX10 268 (1786080624 : Int64) ∈ gw := gw_8 (i := 13) rfl rfl
set_option maxRecDepth 100000 in
theorem cl_X10_270 : Jvm.Cond.constantLong RX10 270 (1952803948 : Int64) ∈ gw := gw_8 (i := 14) rfl rfl
set_option maxRecDepth 100000 in
theorem cl_X10_272 : Jvm.Cond.constantLong RX10 272 (1751475556 : Int64) ∈ gw := gw_8 (i := 15) rfl rfl
set_option maxRecDepth 100000 in
theorem cl_X10_274 : Jvm.Cond.constantLong RX10 274 (6386539 : Int64) ∈ gw := gw_8 (i := 16) rfl rfl
set_option maxRecDepth 100000 in
theorem cl_X10_276 : Jvm.Cond.constantLong RX10 276 (457236047717 : Int64) ∈ gw := gw_8 (i := 17) rfl rfl
set_option maxRecDepth 100000 in
theorem cl_X10_278 : Jvm.Cond.constantLong RX10 278 (6647396 : Int64) ∈ gw := gw_8 (i := 18) rfl rfl
set_option maxRecDepth 100000 in
theorem cl_X10_287 : Jvm.Cond.constantLong RX10 287 (7562612 : Int64) ∈ gw := gw_8 (i := 3) rfl rfl
set_option maxRecDepth 100000 in
theorem cl_X10_289 : Jvm.Cond.constantLong RX10 289 (6382692 : Int64) ∈ gw := gw_8 (i := 4) rfl rfl
set_option maxRecDepth 100000 in
theorem cl_X10_291 : Jvm.Cond.constantLong RX10 291 (7566690 : Int64) ∈ gw := gw_8 (i := 5) rfl rfl
set_option maxRecDepth 100000 in
theorem cl_X10_293 : Jvm.Cond.constantLong RX10 293 (7173484 : Int64) ∈ gw := gw_8 (i := 6) rfl rfl
set_option maxRecDepth 100000 in
theorem cl_X10_323 : Jvm.Cond.constantLong RX10 323 (10 : Int64) ∈ gw := gw_8 (i := 58) rfl rfl
set_option maxRecDepth 100000 in
theorem cl_X10_325 : Jvm.Cond.constantLong RX10 325 (48 : Int64) ∈ gw := gw_8 (i := 59) rfl rfl
set_option maxRecDepth 100000 in
theorem cl_X10_350 : Jvm.Cond.constantLong RX10 350 (97 : Int64) ∈ gw := gw_8 (i := 109) rfl rfl
set_option maxRecDepth 100000 in
theorem cl_X10_352 : Jvm.Cond.constantLong RX10 352 (104 : Int64) ∈ gw := gw_8 (i := 110) rfl rfl
set_option maxRecDepth 100000 in
theorem cl_X10_354 : Jvm.Cond.constantLong RX10 354 (465725121651 : Int64) ∈ gw := gw_8 (i := 97) rfl rfl
set_option maxRecDepth 100000 in
theorem cl_X10_356 : Jvm.Cond.constantLong RX10 356 (126943923168627 : Int64) ∈ gw := gw_8 (i := 98) rfl rfl
set_option maxRecDepth 100000 in
theorem cl_X10_358 : Jvm.Cond.constantLong RX10 358 (1684108385 : Int64) ∈ gw := gw_8 (i := 99) rfl rfl
set_option maxRecDepth 100000 in
theorem cl_X10_360 : Jvm.Cond.constantLong RX10 360 (109330278475123 : Int64) ∈ gw := gw_8 (i := 100) rfl rfl
set_option maxRecDepth 100000 in
theorem cl_X10_362 : Jvm.Cond.constantLong RX10 362 (1953459300 : Int64) ∈ gw := gw_8 (i := 101) rfl rfl
set_option maxRecDepth 100000 in
theorem cl_X10_364 : Jvm.Cond.constantLong RX10 364 (418548245860 : Int64) ∈ gw := gw_8 (i := 102) rfl rfl
set_option maxRecDepth 100000 in
theorem cl_X10_372 : Jvm.Cond.constantLong RX10 372 (1818326117 : Int64) ∈ gw := gw_8 (i := 68) rfl rfl
set_option maxRecDepth 100000 in
theorem cl_X10_374 : Jvm.Cond.constantLong RX10 374 (1919905645 : Int64) ∈ gw := gw_8 (i := 89) rfl rfl
set_option maxRecDepth 100000 in
theorem cl_X10_376 : Jvm.Cond.constantLong RX10 376 (1667591276 : Int64) ∈ gw := gw_8 (i := 103) rfl rfl
set_option maxRecDepth 100000 in
theorem cl_X10_378 : Jvm.Cond.constantLong RX10 378 (7497063 : Int64) ∈ gw := gw_8 (i := 104) rfl rfl
set_option maxRecDepth 100000 in
theorem cl_X10_380 : Jvm.Cond.constantLong RX10 380 (1801807216 : Int64) ∈ gw := gw_8 (i := 111) rfl rfl
set_option maxRecDepth 100000 in
theorem cl_X10_382 : Jvm.Cond.constantLong RX10 382 (1819238756 : Int64) ∈ gw := gw_8 (i := 119) rfl rfl
set_option maxRecDepth 100000 in
theorem cl_X10_384 : Jvm.Cond.constantLong RX10 384 (495874699877 : Int64) ∈ gw := gw_8 (i := 120) rfl rfl
set_option maxRecDepth 100000 in
theorem cl_X10_386 : Jvm.Cond.constantLong RX10 386 (26982 : Int64) ∈ gw := gw_8 (i := 121) rfl rfl
set_option maxRecDepth 100000 in
theorem cl_X10_416 : Jvm.Cond.constantLong RX10 416 (60 : Int64) ∈ gw := gw_8 (i := 142) rfl rfl
set_option maxRecDepth 100000 in
theorem cl_X10_418 : Jvm.Cond.constantLong RX10 418 (61 : Int64) ∈ gw := gw_8 (i := 143) rfl rfl
set_option maxRecDepth 100000 in
theorem cl_X10_420 : Jvm.Cond.constantLong RX10 420 (62 : Int64) ∈ gw := gw_8 (i := 144) rfl rfl
set_option maxRecDepth 100000 in
theorem nat_copy : Cond.native arraycopyName ∈ gw := gw_1 (i := 237) rfl rfl
set_option maxRecDepth 100000 in
theorem st_copy : Cond.static arraycopyName ∈ gw := gw_1 (i := 236) rfl rfl
set_option maxRecDepth 100000 in
theorem lay_J4 : ∀ x ∈ u_ws RJ4 TJ4 4, x ∈ gw := by
  intro x hx
  obtain ⟨k, hk, rfl⟩ := List.mem_map.mp hx
  have hk := List.mem_range.mp hk
  match k, hk with
  | 0, _ => exact gw_2 (i := 201) rfl rfl
  | 1, _ => exact gw_2 (i := 203) rfl rfl
  | 2, _ => exact gw_2 (i := 205) rfl rfl
  | 3, _ => exact gw_2 (i := 207) rfl rfl
  | n + 4, h => exact absurd h (by omega)
set_option maxRecDepth 100000 in
theorem lay_X0 : ∀ x ∈ u_ws RX0 TX0 6, x ∈ gw := by
  intro x hx
  obtain ⟨k, hk, rfl⟩ := List.mem_map.mp hx
  have hk := List.mem_range.mp hk
  match k, hk with
  | 0, _ => exact gw_1 (i := 84) rfl rfl
  | 1, _ => exact gw_1 (i := 86) rfl rfl
  | 2, _ => exact gw_1 (i := 88) rfl rfl
  | 3, _ => exact gw_1 (i := 90) rfl rfl
  | 4, _ => exact gw_1 (i := 92) rfl rfl
  | 5, _ => exact gw_1 (i := 94) rfl rfl
  | n + 6, h => exact absurd h (by omega)
set_option maxRecDepth 100000 in
theorem lay_X1 : ∀ x ∈ u_ws RX1 TX1 16, x ∈ gw := by
  intro x hx
  obtain ⟨k, hk, rfl⟩ := List.mem_map.mp hx
  have hk := List.mem_range.mp hk
  match k, hk with
  | 0, _ => exact gw_2 (i := 31) rfl rfl
  | 1, _ => exact gw_2 (i := 33) rfl rfl
  | 2, _ => exact gw_2 (i := 35) rfl rfl
  | 3, _ => exact gw_2 (i := 37) rfl rfl
  | 4, _ => exact gw_2 (i := 39) rfl rfl
  | 5, _ => exact gw_2 (i := 41) rfl rfl
  | 6, _ => exact gw_2 (i := 43) rfl rfl
  | 7, _ => exact gw_2 (i := 45) rfl rfl
  | 8, _ => exact gw_2 (i := 47) rfl rfl
  | 9, _ => exact gw_2 (i := 49) rfl rfl
  | 10, _ => exact gw_2 (i := 51) rfl rfl
  | 11, _ => exact gw_2 (i := 53) rfl rfl
  | 12, _ => exact gw_2 (i := 55) rfl rfl
  | 13, _ => exact gw_2 (i := 57) rfl rfl
  | 14, _ => exact gw_2 (i := 59) rfl rfl
  | 15, _ => exact gw_2 (i := 61) rfl rfl
  | n + 16, h => exact absurd h (by omega)
set_option maxRecDepth 100000 in
theorem lay_X2 : ∀ x ∈ u_ws RX2 TX2 12, x ∈ gw := by
  intro x hx
  obtain ⟨k, hk, rfl⟩ := List.mem_map.mp hx
  have hk := List.mem_range.mp hk
  match k, hk with
  | 0, _ => exact gw_1 (i := 139) rfl rfl
  | 1, _ => exact gw_1 (i := 141) rfl rfl
  | 2, _ => exact gw_1 (i := 143) rfl rfl
  | 3, _ => exact gw_1 (i := 145) rfl rfl
  | 4, _ => exact gw_1 (i := 147) rfl rfl
  | 5, _ => exact gw_1 (i := 149) rfl rfl
  | 6, _ => exact gw_1 (i := 151) rfl rfl
  | 7, _ => exact gw_1 (i := 153) rfl rfl
  | 8, _ => exact gw_1 (i := 155) rfl rfl
  | 9, _ => exact gw_1 (i := 157) rfl rfl
  | 10, _ => exact gw_1 (i := 159) rfl rfl
  | 11, _ => exact gw_1 (i := 161) rfl rfl
  | n + 12, h => exact absurd h (by omega)
set_option maxRecDepth 100000 in
theorem lay_X3 : ∀ x ∈ u_ws RX3 TX3 5, x ∈ gw := by
  intro x hx
  obtain ⟨k, hk, rfl⟩ := List.mem_map.mp hx
  have hk := List.mem_range.mp hk
  match k, hk with
  | 0, _ => exact gw_1 (i := 182) rfl rfl
  | 1, _ => exact gw_1 (i := 184) rfl rfl
  | 2, _ => exact gw_1 (i := 186) rfl rfl
  | 3, _ => exact gw_1 (i := 188) rfl rfl
  | 4, _ => exact gw_1 (i := 190) rfl rfl
  | n + 5, h => exact absurd h (by omega)
set_option maxRecDepth 100000 in
theorem lay_X4 : ∀ x ∈ u_ws RX4 TX4 8, x ∈ gw := by
  intro x hx
  obtain ⟨k, hk, rfl⟩ := List.mem_map.mp hx
  have hk := List.mem_range.mp hk
  match k, hk with
  | 0, _ => exact gw_2 (i := 137) rfl rfl
  | 1, _ => exact gw_2 (i := 139) rfl rfl
  | 2, _ => exact gw_2 (i := 141) rfl rfl
  | 3, _ => exact gw_2 (i := 143) rfl rfl
  | 4, _ => exact gw_2 (i := 145) rfl rfl
  | 5, _ => exact gw_2 (i := 147) rfl rfl
  | 6, _ => exact gw_2 (i := 149) rfl rfl
  | 7, _ => exact gw_2 (i := 151) rfl rfl
  | n + 8, h => exact absurd h (by omega)
set_option maxRecDepth 100000 in
theorem lay_X5 : ∀ x ∈ u_ws RX5 TX5 9, x ∈ gw := by
  intro x hx
  obtain ⟨k, hk, rfl⟩ := List.mem_map.mp hx
  have hk := List.mem_range.mp hk
  match k, hk with
  | 0, _ => exact gw_1 (i := 212) rfl rfl
  | 1, _ => exact gw_1 (i := 214) rfl rfl
  | 2, _ => exact gw_1 (i := 216) rfl rfl
  | 3, _ => exact gw_1 (i := 218) rfl rfl
  | 4, _ => exact gw_1 (i := 220) rfl rfl
  | 5, _ => exact gw_1 (i := 222) rfl rfl
  | 6, _ => exact gw_1 (i := 224) rfl rfl
  | 7, _ => exact gw_1 (i := 226) rfl rfl
  | 8, _ => exact gw_1 (i := 228) rfl rfl
  | n + 9, h => exact absurd h (by omega)
set_option maxRecDepth 100000 in
theorem lay_X6 : ∀ x ∈ u_ws RX6 TX6 5, x ∈ gw := by
  intro x hx
  obtain ⟨k, hk, rfl⟩ := List.mem_map.mp hx
  have hk := List.mem_range.mp hk
  match k, hk with
  | 0, _ => exact gw_2 (i := 168) rfl rfl
  | 1, _ => exact gw_2 (i := 170) rfl rfl
  | 2, _ => exact gw_2 (i := 172) rfl rfl
  | 3, _ => exact gw_2 (i := 174) rfl rfl
  | 4, _ => exact gw_2 (i := 176) rfl rfl
  | n + 5, h => exact absurd h (by omega)
set_option maxRecDepth 100000 in
theorem lay_X7 : ∀ x ∈ u_ws RX7 TX7 7, x ∈ gw := by
  intro x hx
  obtain ⟨k, hk, rfl⟩ := List.mem_map.mp hx
  have hk := List.mem_range.mp hk
  match k, hk with
  | 0, _ => exact gw_2 (i := 110) rfl rfl
  | 1, _ => exact gw_2 (i := 112) rfl rfl
  | 2, _ => exact gw_2 (i := 114) rfl rfl
  | 3, _ => exact gw_2 (i := 116) rfl rfl
  | 4, _ => exact gw_2 (i := 118) rfl rfl
  | 5, _ => exact gw_2 (i := 120) rfl rfl
  | 6, _ => exact gw_2 (i := 122) rfl rfl
  | n + 7, h => exact absurd h (by omega)
set_option maxRecDepth 100000 in
theorem lay_X8 : ∀ x ∈ u_ws RX8 TX8 5, x ∈ gw := by
  intro x hx
  obtain ⟨k, hk, rfl⟩ := List.mem_map.mp hx
  have hk := List.mem_range.mp hk
  match k, hk with
  | 0, _ => exact gw_2 (i := 74) rfl rfl
  | 1, _ => exact gw_2 (i := 76) rfl rfl
  | 2, _ => exact gw_2 (i := 78) rfl rfl
  | 3, _ => exact gw_2 (i := 80) rfl rfl
  | 4, _ => exact gw_2 (i := 82) rfl rfl
  | n + 5, h => exact absurd h (by omega)
set_option maxRecDepth 100000 in
theorem lay_X9 : ∀ x ∈ u_ws RX9 TX9 7, x ∈ gw := by
  intro x hx
  obtain ⟨k, hk, rfl⟩ := List.mem_map.mp hx
  have hk := List.mem_range.mp hk
  match k, hk with
  | 0, _ => exact gw_3 (i := 21) rfl rfl
  | 1, _ => exact gw_3 (i := 23) rfl rfl
  | 2, _ => exact gw_3 (i := 25) rfl rfl
  | 3, _ => exact gw_3 (i := 27) rfl rfl
  | 4, _ => exact gw_3 (i := 29) rfl rfl
  | 5, _ => exact gw_3 (i := 31) rfl rfl
  | 6, _ => exact gw_3 (i := 33) rfl rfl
  | n + 7, h => exact absurd h (by omega)
set_option maxRecDepth 100000 in
theorem lay_X10 : ∀ x ∈ u_ws RX10 TX10 25, x ∈ gw := by
  intro x hx
  obtain ⟨k, hk, rfl⟩ := List.mem_map.mp hx
  have hk := List.mem_range.mp hk
  match k, hk with
  | 0, _ => exact gw_6 (i := 137) rfl rfl
  | 1, _ => exact gw_6 (i := 139) rfl rfl
  | 2, _ => exact gw_6 (i := 141) rfl rfl
  | 3, _ => exact gw_6 (i := 143) rfl rfl
  | 4, _ => exact gw_6 (i := 145) rfl rfl
  | 5, _ => exact gw_6 (i := 147) rfl rfl
  | 6, _ => exact gw_6 (i := 149) rfl rfl
  | 7, _ => exact gw_6 (i := 151) rfl rfl
  | 8, _ => exact gw_6 (i := 153) rfl rfl
  | 9, _ => exact gw_6 (i := 155) rfl rfl
  | 10, _ => exact gw_6 (i := 157) rfl rfl
  | 11, _ => exact gw_6 (i := 159) rfl rfl
  | 12, _ => exact gw_6 (i := 161) rfl rfl
  | 13, _ => exact gw_6 (i := 163) rfl rfl
  | 14, _ => exact gw_6 (i := 165) rfl rfl
  | 15, _ => exact gw_6 (i := 167) rfl rfl
  | 16, _ => exact gw_6 (i := 169) rfl rfl
  | 17, _ => exact gw_6 (i := 171) rfl rfl
  | 18, _ => exact gw_6 (i := 173) rfl rfl
  | 19, _ => exact gw_6 (i := 175) rfl rfl
  | 20, _ => exact gw_6 (i := 177) rfl rfl
  | 21, _ => exact gw_6 (i := 179) rfl rfl
  | 22, _ => exact gw_6 (i := 181) rfl rfl
  | 23, _ => exact gw_6 (i := 183) rfl rfl
  | 24, _ => exact gw_6 (i := 185) rfl rfl
  | n + 25, h => exact absurd h (by omega)
