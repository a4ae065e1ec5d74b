theorem k_0 : (.selects "JoinOrders" ⟨"JoinOrders", "isSound", "(LJoinOrders$Reading;)Z"⟩ ⟨"JoinOrders", "isSound", "(LJoinOrders$Reading;)Z"⟩ : Cond) ∈ lg_w := inG (List.mem_of_getElem? (i := 0) (by decide +kernel)) (by decide +kernel)
theorem k_1 : (.selects "JoinOrders$Text" ⟨"JoinOrders$Text", "readNumber", "()V"⟩ ⟨"JoinOrders$Text", "readNumber", "()V"⟩ : Cond) ∈ lg_w := inG (List.mem_of_getElem? (i := 1) (by decide +kernel)) (by decide +kernel)
theorem k_2 : (.selects "JoinOrders$Text" ⟨"JoinOrders$Text", "readWord", "()V"⟩ ⟨"JoinOrders$Text", "readWord", "()V"⟩ : Cond) ∈ lg_w := inG (List.mem_of_getElem? (i := 2) (by decide +kernel)) (by decide +kernel)
theorem k_3 : (.selects "JoinOrders$Text" ⟨"JoinOrders$Text", "isWord", "(Ljava/lang/String;)Z"⟩ ⟨"JoinOrders$Text", "isWord", "(Ljava/lang/String;)Z"⟩ : Cond) ∈ lg_w := inG (List.mem_of_getElem? (i := 3) (by decide +kernel)) (by decide +kernel)
theorem k_4 : (.selects "JoinOrders$QueryReading" ⟨"JoinOrders$QueryReading", "after", "(I)I"⟩ ⟨"JoinOrders$QueryReading", "after", "(I)I"⟩ : Cond) ∈ lg_w := inG (List.mem_of_getElem? (i := 4) (by decide +kernel)) (by decide +kernel)
theorem k_5 : (.selects "JoinOrders$PlanReading" ⟨"JoinOrders$PlanReading", "absorbRelation", "(I)I"⟩ ⟨"JoinOrders$PlanReading", "absorbRelation", "(I)I"⟩ : Cond) ∈ lg_w := inG (List.mem_of_getElem? (i := 5) (by decide +kernel)) (by decide +kernel)
theorem k_6 : (.selects "JoinOrders$PlanReading" ⟨"JoinOrders$PlanReading", "joinLastTwo", "()V"⟩ ⟨"JoinOrders$PlanReading", "joinLastTwo", "()V"⟩ : Cond) ∈ lg_w := inG (List.mem_of_getElem? (i := 6) (by decide +kernel)) (by decide +kernel)
theorem k_7 : (.selects "JoinOrders$QueryReading" ⟨"JoinOrders$QueryReading", "absorbNumber", "(I)I"⟩ ⟨"JoinOrders$QueryReading", "absorbNumber", "(I)I"⟩ : Cond) ∈ lg_w := inG (List.mem_of_getElem? (i := 7) (by decide +kernel)) (by decide +kernel)
theorem k_8 : (.selects "JoinOrders$QueryReading" ⟨"JoinOrders$QueryReading", "absorbRows", "(I)I"⟩ ⟨"JoinOrders$QueryReading", "absorbRows", "(I)I"⟩ : Cond) ∈ lg_w := inG (List.mem_of_getElem? (i := 8) (by decide +kernel)) (by decide +kernel)
theorem k_9 : (.selects "JoinOrders$QueryReading" ⟨"JoinOrders$QueryReading", "absorbBy", "(I)I"⟩ ⟨"JoinOrders$QueryReading", "absorbBy", "(I)I"⟩ : Cond) ∈ lg_w := inG (List.mem_of_getElem? (i := 9) (by decide +kernel)) (by decide +kernel)
theorem k_10 : (.selects "JoinOrders$QueryReading" ⟨"JoinOrders$QueryReading", "absorbLimit", "(I)I"⟩ ⟨"JoinOrders$QueryReading", "absorbLimit", "(I)I"⟩ : Cond) ∈ lg_w := inG (List.mem_of_getElem? (i := 10) (by decide +kernel)) (by decide +kernel)
theorem k_11 : (.selects "JoinOrders$QueryReading" ⟨"JoinOrders$QueryReading", "absorbEnd", "(I)I"⟩ ⟨"JoinOrders$QueryReading", "absorbEnd", "(I)I"⟩ : Cond) ∈ lg_w := inG (List.mem_of_getElem? (i := 11) (by decide +kernel)) (by decide +kernel)
theorem k_12 : (.selects "JoinOrders" ⟨"JoinOrders", "forget", "()V"⟩ ⟨"JoinOrders", "forget", "()V"⟩ : Cond) ∈ lg_w := inG (List.mem_of_getElem? (i := 12) (by decide +kernel)) (by decide +kernel)
theorem k_13 : (.selects "JoinOrders" ⟨"JoinOrders", "remember", "()V"⟩ ⟨"JoinOrders", "remember", "()V"⟩ : Cond) ∈ lg_w := inG (List.mem_of_getElem? (i := 13) (by decide +kernel)) (by decide +kernel)
theorem k_14 : (.selects "JoinOrders$Plan" ⟨"JoinOrders$Plan", "place", "(I[II)V"⟩ ⟨"JoinOrders$Plan", "place", "(I[II)V"⟩ : Cond) ∈ lg_w := inG (List.mem_of_getElem? (i := 14) (by decide +kernel)) (by decide +kernel)
theorem k_15 : (.selects "JoinOrders" ⟨"JoinOrders", "changed", "()V"⟩ ⟨"JoinOrders", "changed", "()V"⟩ : Cond) ∈ lg_w := inG (List.mem_of_getElem? (i := 15) (by decide +kernel)) (by decide +kernel)
theorem k_16 : (.selects "JoinOrders" ⟨"JoinOrders", "pairedSets", "()LJoinOrders$Sets;"⟩ ⟨"JoinOrders", "pairedSets", "()LJoinOrders$Sets;"⟩ : Cond) ∈ lg_w := inG (List.mem_of_getElem? (i := 16) (by decide +kernel)) (by decide +kernel)
theorem k_17 : (.selects "JoinOrders" ⟨"JoinOrders", "knownSets", "()LJoinOrders$Sets;"⟩ ⟨"JoinOrders", "knownSets", "()LJoinOrders$Sets;"⟩ : Cond) ∈ lg_w := inG (List.mem_of_getElem? (i := 17) (by decide +kernel)) (by decide +kernel)
theorem k_18 : (.selects "JoinOrders$Sets" ⟨"JoinOrders$Sets", "lay", "([ILJoinOrders$Graph;[I)V"⟩ ⟨"JoinOrders$Sets", "lay", "([ILJoinOrders$Graph;[I)V"⟩ : Cond) ∈ lg_w := inG (List.mem_of_getElem? (i := 18) (by decide +kernel)) (by decide +kernel)
theorem k_19 : (.selects "JoinOrders$Sets" ⟨"JoinOrders$Sets", "grow", "(LJoinOrders$Graph;II)V"⟩ ⟨"JoinOrders$Sets", "grow", "(LJoinOrders$Graph;II)V"⟩ : Cond) ∈ lg_w := inG (List.mem_of_getElem? (i := 19) (by decide +kernel)) (by decide +kernel)
theorem k_20 : (.selects "JoinOrders$Sets" ⟨"JoinOrders$Sets", "edgesIn", "(I)I"⟩ ⟨"JoinOrders$Sets", "edgesIn", "(I)I"⟩ : Cond) ∈ lg_w := inG (List.mem_of_getElem? (i := 20) (by decide +kernel)) (by decide +kernel)
theorem k_21 : (.selects "JoinOrders$Sets" ⟨"JoinOrders$Sets", "countPairs", "(I)I"⟩ ⟨"JoinOrders$Sets", "countPairs", "(I)I"⟩ : Cond) ∈ lg_w := inG (List.mem_of_getElem? (i := 21) (by decide +kernel)) (by decide +kernel)
theorem k_22 : (.selects "JoinOrders$Sets" ⟨"JoinOrders$Sets", "isPair", "(II)Z"⟩ ⟨"JoinOrders$Sets", "isPair", "(II)Z"⟩ : Cond) ∈ lg_w := inG (List.mem_of_getElem? (i := 22) (by decide +kernel)) (by decide +kernel)
theorem k_23 : (.selects "JoinOrders" ⟨"JoinOrders", "bestOf", "(Z)LJoinOrders$Best;"⟩ ⟨"JoinOrders", "bestOf", "(Z)LJoinOrders$Best;"⟩ : Cond) ∈ lg_w := inG (List.mem_of_getElem? (i := 23) (by decide +kernel)) (by decide +kernel)
theorem k_24 : (.selects "JoinOrders$Best" ⟨"JoinOrders$Best", "findOf", "(ILJoinOrders$Sets;Z)V"⟩ ⟨"JoinOrders$Best", "findOf", "(ILJoinOrders$Sets;Z)V"⟩ : Cond) ∈ lg_w := inG (List.mem_of_getElem? (i := 24) (by decide +kernel)) (by decide +kernel)
theorem k_25 : (.selects "JoinOrders$Best" ⟨"JoinOrders$Best", "weigh", "(IILJoinOrders$Sets;)V"⟩ ⟨"JoinOrders$Best", "weigh", "(IILJoinOrders$Sets;)V"⟩ : Cond) ∈ lg_w := inG (List.mem_of_getElem? (i := 25) (by decide +kernel)) (by decide +kernel)
theorem k_26 : (.selects "JoinOrders$Parts" ⟨"JoinOrders$Parts", "begin", "(LJoinOrders$Graph;)V"⟩ ⟨"JoinOrders$Parts", "begin", "(LJoinOrders$Graph;)V"⟩ : Cond) ∈ lg_w := inG (List.mem_of_getElem? (i := 26) (by decide +kernel)) (by decide +kernel)
theorem k_27 : (.selects "JoinOrders$Parts" ⟨"JoinOrders$Parts", "pick", "(LJoinOrders$Sets;)V"⟩ ⟨"JoinOrders$Parts", "pick", "(LJoinOrders$Sets;)V"⟩ : Cond) ∈ lg_w := inG (List.mem_of_getElem? (i := 27) (by decide +kernel)) (by decide +kernel)
theorem k_28 : (.selects "JoinOrders$Parts" ⟨"JoinOrders$Parts", "goesAhead", "(IILJoinOrders$Sets;)Z"⟩ ⟨"JoinOrders$Parts", "goesAhead", "(IILJoinOrders$Sets;)Z"⟩ : Cond) ∈ lg_w := inG (List.mem_of_getElem? (i := 28) (by decide +kernel)) (by decide +kernel)
theorem k_29 : (.selects "JoinOrders$Parts" ⟨"JoinOrders$Parts", "mergePicked", "()V"⟩ ⟨"JoinOrders$Parts", "mergePicked", "()V"⟩ : Cond) ∈ lg_w := inG (List.mem_of_getElem? (i := 29) (by decide +kernel)) (by decide +kernel)
theorem k_30 : (.selects "JoinOrders$Mover" ⟨"JoinOrders$Mover", "turn", "(LJoinOrders$Plan;III)V"⟩ ⟨"JoinOrders$Mover", "turn", "(LJoinOrders$Plan;III)V"⟩ : Cond) ∈ lg_w := inG (List.mem_of_getElem? (i := 30) (by decide +kernel)) (by decide +kernel)
theorem k_31 : (.selects "JoinOrders$Sets" ⟨"JoinOrders$Sets", "firstOfPair", "(II)I"⟩ ⟨"JoinOrders$Sets", "firstOfPair", "(II)I"⟩ : Cond) ∈ lg_w := inG (List.mem_of_getElem? (i := 31) (by decide +kernel)) (by decide +kernel)
theorem k_32 : (.selects "JoinOrders$Plan" ⟨"JoinOrders$Plan", "tellSet", "(I[III)I"⟩ ⟨"JoinOrders$Plan", "tellSet", "(I[III)I"⟩ : Cond) ∈ lg_w := inG (List.mem_of_getElem? (i := 32) (by decide +kernel)) (by decide +kernel)
theorem k_33 : (.selects "JoinOrders" ⟨"JoinOrders", "costOfTrial", "()J"⟩ ⟨"JoinOrders", "costOfTrial", "()J"⟩ : Cond) ∈ lg_w := inG (List.mem_of_getElem? (i := 33) (by decide +kernel)) (by decide +kernel)
theorem k_93 : (.initialized "JoinOrders" : Cond) ∈ lg_w := inG (List.mem_of_getElem? (i := 93) (by decide +kernel)) (by decide +kernel)
theorem k_94 : (.initialized "JoinOrders$State" : Cond) ∈ lg_w := inG (List.mem_of_getElem? (i := 94) (by decide +kernel)) (by decide +kernel)
theorem k_95 : (.initialized "JoinOrders$Graph" : Cond) ∈ lg_w := inG (List.mem_of_getElem? (i := 95) (by decide +kernel)) (by decide +kernel)
theorem k_96 : (.initialized "JoinOrders$Plan" : Cond) ∈ lg_w := inG (List.mem_of_getElem? (i := 96) (by decide +kernel)) (by decide +kernel)
theorem k_97 : (.initialized "JoinOrders$Text" : Cond) ∈ lg_w := inG (List.mem_of_getElem? (i := 97) (by decide +kernel)) (by decide +kernel)
theorem k_99 : (.initialized "JoinOrders$QueryReading" : Cond) ∈ lg_w := inG (List.mem_of_getElem? (i := 99) (by decide +kernel)) (by decide +kernel)
theorem k_100 : (.initialized "JoinOrders$PlanReading" : Cond) ∈ lg_w := inG (List.mem_of_getElem? (i := 100) (by decide +kernel)) (by decide +kernel)
theorem k_101 : (.initialized "JoinOrders$Sets" : Cond) ∈ lg_w := inG (List.mem_of_getElem? (i := 101) (by decide +kernel)) (by decide +kernel)
theorem k_102 : (.initialized "JoinOrders$Best" : Cond) ∈ lg_w := inG (List.mem_of_getElem? (i := 102) (by decide +kernel)) (by decide +kernel)
theorem k_103 : (.initialized "JoinOrders$Parts" : Cond) ∈ lg_w := inG (List.mem_of_getElem? (i := 103) (by decide +kernel)) (by decide +kernel)
theorem k_104 : (.initialized "JoinOrders$Mover" : Cond) ∈ lg_w := inG (List.mem_of_getElem? (i := 104) (by decide +kernel)) (by decide +kernel)
theorem k_110 : (.initialized "java/lang/System" : Cond) ∈ lg_w := inG (List.mem_of_getElem? (i := 110) (by decide +kernel)) (by decide +kernel)
theorem k_111 : (.initialized "java/lang/Math" : Cond) ∈ lg_w := inG (List.mem_of_getElem? (i := 111) (by decide +kernel)) (by decide +kernel)
theorem k_112 : (.initialized "java/lang/Integer" : Cond) ∈ lg_w := inG (List.mem_of_getElem? (i := 112) (by decide +kernel)) (by decide +kernel)
theorem k_113 : (.initialized "java/util/Arrays" : Cond) ∈ lg_w := inG (List.mem_of_getElem? (i := 113) (by decide +kernel)) (by decide +kernel)
theorem k_138 : (.fieldLink "JoinOrders$Sets" 32 "JoinOrders$Graph" "relations" "I" : Cond) ∈ lg_w := inG (List.mem_of_getElem? (i := 138) (by decide +kernel)) (by decide +kernel)
theorem k_140 : (.fieldLink "JoinOrders$Parts" 45 "JoinOrders$Graph" "relations" "I" : Cond) ∈ lg_w := inG (List.mem_of_getElem? (i := 140) (by decide +kernel)) (by decide +kernel)
theorem k_141 : (.fieldLink "JoinOrders$Graph" 30 "JoinOrders$Graph" "relations" "I" : Cond) ∈ lg_w := inG (List.mem_of_getElem? (i := 141) (by decide +kernel)) (by decide +kernel)
theorem k_142 : (.fieldLink "JoinOrders$QueryReading" 43 "JoinOrders$Graph" "relations" "I" : Cond) ∈ lg_w := inG (List.mem_of_getElem? (i := 142) (by decide +kernel)) (by decide +kernel)
theorem k_143 : (.fieldLink "JoinOrders$Sets" 68 "JoinOrders$Graph" "edges" "I" : Cond) ∈ lg_w := inG (List.mem_of_getElem? (i := 143) (by decide +kernel)) (by decide +kernel)
theorem k_144 : (.fieldLink "JoinOrders$Graph" 33 "JoinOrders$Graph" "edges" "I" : Cond) ∈ lg_w := inG (List.mem_of_getElem? (i := 144) (by decide +kernel)) (by decide +kernel)
theorem k_145 : (.fieldLink "JoinOrders$QueryReading" 46 "JoinOrders$Graph" "edges" "I" : Cond) ∈ lg_w := inG (List.mem_of_getElem? (i := 145) (by decide +kernel)) (by decide +kernel)
theorem k_147 : (.fieldLink "JoinOrders$Graph" 9 "JoinOrders$Graph" "limit" "I" : Cond) ∈ lg_w := inG (List.mem_of_getElem? (i := 147) (by decide +kernel)) (by decide +kernel)
theorem k_148 : (.fieldLink "JoinOrders$QueryReading" 85 "JoinOrders$Graph" "limit" "I" : Cond) ∈ lg_w := inG (List.mem_of_getElem? (i := 148) (by decide +kernel)) (by decide +kernel)
theorem k_150 : (.fieldLink "JoinOrders$Graph" 15 "JoinOrders$Graph" "rows" "[I" : Cond) ∈ lg_w := inG (List.mem_of_getElem? (i := 150) (by decide +kernel)) (by decide +kernel)
theorem k_151 : (.fieldLink "JoinOrders$Sets" 71 "JoinOrders$Graph" "rows" "[I" : Cond) ∈ lg_w := inG (List.mem_of_getElem? (i := 151) (by decide +kernel)) (by decide +kernel)
theorem k_153 : (.fieldLink "JoinOrders$Graph" 19 "JoinOrders$Graph" "left" "[I" : Cond) ∈ lg_w := inG (List.mem_of_getElem? (i := 153) (by decide +kernel)) (by decide +kernel)
theorem k_154 : (.fieldLink "JoinOrders$Sets" 41 "JoinOrders$Graph" "left" "[I" : Cond) ∈ lg_w := inG (List.mem_of_getElem? (i := 154) (by decide +kernel)) (by decide +kernel)
theorem k_156 : (.fieldLink "JoinOrders$Graph" 22 "JoinOrders$Graph" "right" "[I" : Cond) ∈ lg_w := inG (List.mem_of_getElem? (i := 156) (by decide +kernel)) (by decide +kernel)
theorem k_157 : (.fieldLink "JoinOrders$Sets" 48 "JoinOrders$Graph" "right" "[I" : Cond) ∈ lg_w := inG (List.mem_of_getElem? (i := 157) (by decide +kernel)) (by decide +kernel)
theorem k_159 : (.fieldLink "JoinOrders$Graph" 25 "JoinOrders$Graph" "by" "[I" : Cond) ∈ lg_w := inG (List.mem_of_getElem? (i := 159) (by decide +kernel)) (by decide +kernel)
theorem k_160 : (.fieldLink "JoinOrders$Sets" 86 "JoinOrders$Graph" "by" "[I" : Cond) ∈ lg_w := inG (List.mem_of_getElem? (i := 160) (by decide +kernel)) (by decide +kernel)
theorem k_184 : (.fieldLink "JoinOrders$Plan" 18 "JoinOrders$Plan" "root" "I" : Cond) ∈ lg_w := inG (List.mem_of_getElem? (i := 184) (by decide +kernel)) (by decide +kernel)
theorem k_187 : (.fieldLink "JoinOrders$Mover" 22 "JoinOrders$Plan" "joins" "I" : Cond) ∈ lg_w := inG (List.mem_of_getElem? (i := 187) (by decide +kernel)) (by decide +kernel)
theorem k_188 : (.fieldLink "JoinOrders$Plan" 22 "JoinOrders$Plan" "joins" "I" : Cond) ∈ lg_w := inG (List.mem_of_getElem? (i := 188) (by decide +kernel)) (by decide +kernel)
theorem k_190 : (.fieldLink "JoinOrders$Sets" 135 "JoinOrders$Plan" "joins" "I" : Cond) ∈ lg_w := inG (List.mem_of_getElem? (i := 190) (by decide +kernel)) (by decide +kernel)
theorem k_191 : (.fieldLink "JoinOrders$Plan" 9 "JoinOrders$Plan" "set" "[I" : Cond) ∈ lg_w := inG (List.mem_of_getElem? (i := 191) (by decide +kernel)) (by decide +kernel)
theorem k_193 : (.fieldLink "JoinOrders$Sets" 132 "JoinOrders$Plan" "set" "[I" : Cond) ∈ lg_w := inG (List.mem_of_getElem? (i := 193) (by decide +kernel)) (by decide +kernel)
theorem k_195 : (.fieldLink "JoinOrders$Plan" 15 "JoinOrders$Plan" "part" "[I" : Cond) ∈ lg_w := inG (List.mem_of_getElem? (i := 195) (by decide +kernel)) (by decide +kernel)
theorem k_197 : (.fieldLink "JoinOrders$Sets" 127 "JoinOrders$Plan" "part" "[I" : Cond) ∈ lg_w := inG (List.mem_of_getElem? (i := 197) (by decide +kernel)) (by decide +kernel)
theorem k_214 : (.fieldLink "JoinOrders$Text" 15 "JoinOrders$Text" "length" "I" : Cond) ∈ lg_w := inG (List.mem_of_getElem? (i := 214) (by decide +kernel)) (by decide +kernel)
theorem k_216 : (.fieldLink "JoinOrders$Text" 9 "JoinOrders$Text" "bytes" "[I" : Cond) ∈ lg_w := inG (List.mem_of_getElem? (i := 216) (by decide +kernel)) (by decide +kernel)
theorem k_217 : (.fieldLink "JoinOrders$PlanReading" 31 "JoinOrders$Text" "kind" "I" : Cond) ∈ lg_w := inG (List.mem_of_getElem? (i := 217) (by decide +kernel)) (by decide +kernel)
theorem k_219 : (.fieldLink "JoinOrders$Text" 35 "JoinOrders$Text" "kind" "I" : Cond) ∈ lg_w := inG (List.mem_of_getElem? (i := 219) (by decide +kernel)) (by decide +kernel)
theorem k_220 : (.fieldLink "JoinOrders$QueryReading" 38 "JoinOrders$Text" "kind" "I" : Cond) ∈ lg_w := inG (List.mem_of_getElem? (i := 220) (by decide +kernel)) (by decide +kernel)
theorem k_222 : (.fieldLink "JoinOrders$Text" 32 "JoinOrders$Text" "start" "I" : Cond) ∈ lg_w := inG (List.mem_of_getElem? (i := 222) (by decide +kernel)) (by decide +kernel)
theorem k_223 : (.fieldLink "JoinOrders$PlanReading" 36 "JoinOrders$Text" "number" "I" : Cond) ∈ lg_w := inG (List.mem_of_getElem? (i := 223) (by decide +kernel)) (by decide +kernel)
theorem k_224 : (.fieldLink "JoinOrders$Text" 55 "JoinOrders$Text" "number" "I" : Cond) ∈ lg_w := inG (List.mem_of_getElem? (i := 224) (by decide +kernel)) (by decide +kernel)
theorem k_225 : (.fieldLink "JoinOrders$QueryReading" 49 "JoinOrders$Text" "number" "I" : Cond) ∈ lg_w := inG (List.mem_of_getElem? (i := 225) (by decide +kernel)) (by decide +kernel)
theorem k_226 : (.fieldLink "JoinOrders$Text" 29 "JoinOrders$Text" "at" "I" : Cond) ∈ lg_w := inG (List.mem_of_getElem? (i := 226) (by decide +kernel)) (by decide +kernel)
theorem k_240 : (.fieldLink "JoinOrders$State" 12 "JoinOrders$State" "graph" "LJoinOrders$Graph;" : Cond) ∈ lg_w := inG (List.mem_of_getElem? (i := 240) (by decide +kernel)) (by decide +kernel)
theorem k_242 : (.fieldLink "JoinOrders$State" 21 "JoinOrders$State" "plan" "LJoinOrders$Plan;" : Cond) ∈ lg_w := inG (List.mem_of_getElem? (i := 242) (by decide +kernel)) (by decide +kernel)
theorem k_244 : (.fieldLink "JoinOrders$State" 28 "JoinOrders$State" "text" "LJoinOrders$Text;" : Cond) ∈ lg_w := inG (List.mem_of_getElem? (i := 244) (by decide +kernel)) (by decide +kernel)
theorem k_246 : (.fieldLink "JoinOrders$State" 46 "JoinOrders$State" "fault" "I" : Cond) ∈ lg_w := inG (List.mem_of_getElem? (i := 246) (by decide +kernel)) (by decide +kernel)
theorem k_248 : (.fieldLink "JoinOrders$State" 32 "JoinOrders$State" "place" "I" : Cond) ∈ lg_w := inG (List.mem_of_getElem? (i := 248) (by decide +kernel)) (by decide +kernel)
theorem k_282 : (.fieldLink "JoinOrders$QueryReading" 12 "JoinOrders$QueryReading" "graph" "LJoinOrders$Graph;" : Cond) ∈ lg_w := inG (List.mem_of_getElem? (i := 282) (by decide +kernel)) (by decide +kernel)
theorem k_284 : (.fieldLink "JoinOrders$QueryReading" 21 "JoinOrders$QueryReading" "awaited" "I" : Cond) ∈ lg_w := inG (List.mem_of_getElem? (i := 284) (by decide +kernel)) (by decide +kernel)
theorem k_285 : (.fieldLink "JoinOrders$QueryReading" 25 "JoinOrders$QueryReading" "left" "I" : Cond) ∈ lg_w := inG (List.mem_of_getElem? (i := 285) (by decide +kernel)) (by decide +kernel)
theorem k_286 : (.fieldLink "JoinOrders$QueryReading" 28 "JoinOrders$QueryReading" "right" "I" : Cond) ∈ lg_w := inG (List.mem_of_getElem? (i := 286) (by decide +kernel)) (by decide +kernel)
theorem k_311 : (.fieldLink "JoinOrders$PlanReading" 46 "JoinOrders$PlanReading" "relations" "I" : Cond) ∈ lg_w := inG (List.mem_of_getElem? (i := 311) (by decide +kernel)) (by decide +kernel)
theorem k_312 : (.fieldLink "JoinOrders$PlanReading" 9 "JoinOrders$PlanReading" "split" "[I" : Cond) ∈ lg_w := inG (List.mem_of_getElem? (i := 312) (by decide +kernel)) (by decide +kernel)
theorem k_314 : (.fieldLink "JoinOrders$PlanReading" 15 "JoinOrders$PlanReading" "within" "[I" : Cond) ∈ lg_w := inG (List.mem_of_getElem? (i := 314) (by decide +kernel)) (by decide +kernel)
theorem k_315 : (.fieldLink "JoinOrders$PlanReading" 21 "JoinOrders$PlanReading" "depth" "I" : Cond) ∈ lg_w := inG (List.mem_of_getElem? (i := 315) (by decide +kernel)) (by decide +kernel)
theorem k_316 : (.fieldLink "JoinOrders$PlanReading" 18 "JoinOrders$PlanReading" "waiting" "[I" : Cond) ∈ lg_w := inG (List.mem_of_getElem? (i := 316) (by decide +kernel)) (by decide +kernel)
theorem k_317 : (.fieldLink "JoinOrders$PlanReading" 25 "JoinOrders$PlanReading" "waitingMany" "I" : Cond) ∈ lg_w := inG (List.mem_of_getElem? (i := 317) (by decide +kernel)) (by decide +kernel)
theorem k_318 : (.fieldLink "JoinOrders$PlanReading" 28 "JoinOrders$PlanReading" "taken" "I" : Cond) ∈ lg_w := inG (List.mem_of_getElem? (i := 318) (by decide +kernel)) (by decide +kernel)
theorem k_342 : (.fieldLink "JoinOrders$Sets" 58 "JoinOrders$Sets" "known" "Z" : Cond) ∈ lg_w := inG (List.mem_of_getElem? (i := 342) (by decide +kernel)) (by decide +kernel)
theorem k_344 : (.fieldLink "JoinOrders$Sets" 105 "JoinOrders$Sets" "paired" "Z" : Cond) ∈ lg_w := inG (List.mem_of_getElem? (i := 344) (by decide +kernel)) (by decide +kernel)
theorem k_346 : (.fieldLink "JoinOrders$Sets" 51 "JoinOrders$Sets" "cappedInAll" "I" : Cond) ∈ lg_w := inG (List.mem_of_getElem? (i := 346) (by decide +kernel)) (by decide +kernel)
theorem k_348 : (.fieldLink "JoinOrders$Sets" 92 "JoinOrders$Sets" "connectedInAll" "I" : Cond) ∈ lg_w := inG (List.mem_of_getElem? (i := 348) (by decide +kernel)) (by decide +kernel)
theorem k_350 : (.fieldLink "JoinOrders$Sets" 95 "JoinOrders$Sets" "pairsInAll" "I" : Cond) ∈ lg_w := inG (List.mem_of_getElem? (i := 350) (by decide +kernel)) (by decide +kernel)
theorem k_352 : (.fieldLink "JoinOrders$Sets" 9 "JoinOrders$Sets" "sizes" "[J" : Cond) ∈ lg_w := inG (List.mem_of_getElem? (i := 352) (by decide +kernel)) (by decide +kernel)
theorem k_353 : (.fieldLink "JoinOrders$Best" 61 "JoinOrders$Sets" "sizes" "[J" : Cond) ∈ lg_w := inG (List.mem_of_getElem? (i := 353) (by decide +kernel)) (by decide +kernel)
theorem k_354 : (.fieldLink "JoinOrders$Parts" 54 "JoinOrders$Sets" "sizes" "[J" : Cond) ∈ lg_w := inG (List.mem_of_getElem? (i := 354) (by decide +kernel)) (by decide +kernel)
theorem k_356 : (.fieldLink "JoinOrders$Sets" 15 "JoinOrders$Sets" "capped" "[Z" : Cond) ∈ lg_w := inG (List.mem_of_getElem? (i := 356) (by decide +kernel)) (by decide +kernel)
theorem k_358 : (.fieldLink "JoinOrders$Sets" 19 "JoinOrders$Sets" "connected" "[Z" : Cond) ∈ lg_w := inG (List.mem_of_getElem? (i := 358) (by decide +kernel)) (by decide +kernel)
theorem k_360 : (.fieldLinkNest "JoinOrders$Best" 22 "JoinOrders$Sets" "end" "I" "JoinOrders" : Cond) ∈ nsW := inN (List.mem_of_getElem? (i := 360) (by decide +kernel)) (by decide +kernel)
theorem k_361 : (.fieldLink "JoinOrders$Sets" 38 "JoinOrders$Sets" "end" "I" : Cond) ∈ lg_w := inG (List.mem_of_getElem? (i := 361) (by decide +kernel)) (by decide +kernel)
theorem k_362 : (.fieldLink "JoinOrders$Sets" 22 "JoinOrders$Sets" "leftIn" "[I" : Cond) ∈ lg_w := inG (List.mem_of_getElem? (i := 362) (by decide +kernel)) (by decide +kernel)
theorem k_363 : (.fieldLink "JoinOrders$Sets" 26 "JoinOrders$Sets" "rightIn" "[I" : Cond) ∈ lg_w := inG (List.mem_of_getElem? (i := 363) (by decide +kernel)) (by decide +kernel)
theorem k_364 : (.fieldLink "JoinOrders$Sets" 29 "JoinOrders$Sets" "pairs" "[I" : Cond) ∈ lg_w := inG (List.mem_of_getElem? (i := 364) (by decide +kernel)) (by decide +kernel)
theorem k_398 : (.fieldLink "JoinOrders$Best" 32 "JoinOrders$Best" "known" "Z" : Cond) ∈ lg_w := inG (List.mem_of_getElem? (i := 398) (by decide +kernel)) (by decide +kernel)
theorem k_400 : (.fieldLink "JoinOrders$Best" 9 "JoinOrders$Best" "costs" "[J" : Cond) ∈ lg_w := inG (List.mem_of_getElem? (i := 400) (by decide +kernel)) (by decide +kernel)
theorem k_402 : (.fieldLink "JoinOrders$Best" 15 "JoinOrders$Best" "crosses" "[I" : Cond) ∈ lg_w := inG (List.mem_of_getElem? (i := 402) (by decide +kernel)) (by decide +kernel)
theorem k_404 : (.fieldLink "JoinOrders$Best" 19 "JoinOrders$Best" "part" "[I" : Cond) ∈ lg_w := inG (List.mem_of_getElem? (i := 404) (by decide +kernel)) (by decide +kernel)
theorem k_421 : (.fieldLink "JoinOrders$Parts" 9 "JoinOrders$Parts" "split" "[I" : Cond) ∈ lg_w := inG (List.mem_of_getElem? (i := 421) (by decide +kernel)) (by decide +kernel)
theorem k_423 : (.fieldLink "JoinOrders$Parts" 15 "JoinOrders$Parts" "part" "[I" : Cond) ∈ lg_w := inG (List.mem_of_getElem? (i := 423) (by decide +kernel)) (by decide +kernel)
theorem k_424 : (.fieldLink "JoinOrders$Parts" 22 "JoinOrders$Parts" "many" "I" : Cond) ∈ lg_w := inG (List.mem_of_getElem? (i := 424) (by decide +kernel)) (by decide +kernel)
theorem k_425 : (.fieldLink "JoinOrders$Parts" 33 "JoinOrders$Parts" "pickedFirst" "I" : Cond) ∈ lg_w := inG (List.mem_of_getElem? (i := 425) (by decide +kernel)) (by decide +kernel)
theorem k_426 : (.fieldLink "JoinOrders$Parts" 36 "JoinOrders$Parts" "pickedSecond" "I" : Cond) ∈ lg_w := inG (List.mem_of_getElem? (i := 426) (by decide +kernel)) (by decide +kernel)
theorem k_510 : (.instanceMethod ⟨"JoinOrders", "type", "(J)I"⟩ : Cond) ∈ lg_w := inG (List.mem_of_getElem? (i := 510) (by decide +kernel)) (by decide +kernel)
theorem k_511 : (.selects "JoinOrders" ⟨"JoinOrders", "type", "(J)I"⟩ ⟨"JoinOrders", "type", "(J)I"⟩ : Cond) ∈ lg_w := inG (List.mem_of_getElem? (i := 511) (by decide +kernel)) (by decide +kernel)
theorem k_512 : (.code ⟨"JoinOrders", "type", "(J)I"⟩ prog_1_method_2_code 3 (Option.some FieldType.int) : Cond) ∈ lg_w := inG (List.mem_of_getElem? (i := 512) (by decide +kernel)) (by decide +kernel)
theorem k_514 : (.instanceMethod ⟨"JoinOrders$Text", "append", "(J)Z"⟩ : Cond) ∈ lg_w := inG (List.mem_of_getElem? (i := 514) (by decide +kernel)) (by decide +kernel)
theorem k_515 : (.selects "JoinOrders$Text" ⟨"JoinOrders$Text", "append", "(J)Z"⟩ ⟨"JoinOrders$Text", "append", "(J)Z"⟩ : Cond) ∈ lg_w := inG (List.mem_of_getElem? (i := 515) (by decide +kernel)) (by decide +kernel)
theorem k_516 : (.code ⟨"JoinOrders$Text", "append", "(J)Z"⟩ prog_12_method_3_code 5 (Option.some FieldType.boolean) : Cond) ∈ lg_w := inG (List.mem_of_getElem? (i := 516) (by decide +kernel)) (by decide +kernel)
theorem k_517 : (.methodLink "JoinOrders$Text" 25 ⟨"JoinOrders$Text", "byteOf", "(JI)I"⟩ : Cond) ∈ lg_w := inG (List.mem_of_getElem? (i := 517) (by decide +kernel)) (by decide +kernel)
theorem k_518 : (.static ⟨"JoinOrders$Text", "byteOf", "(JI)I"⟩ : Cond) ∈ lg_w := inG (List.mem_of_getElem? (i := 518) (by decide +kernel)) (by decide +kernel)
theorem k_519 : (.code ⟨"JoinOrders$Text", "byteOf", "(JI)I"⟩ prog_12_method_4_code 3 (Option.some FieldType.int) : Cond) ∈ lg_w := inG (List.mem_of_getElem? (i := 519) (by decide +kernel)) (by decide +kernel)
theorem k_521 : (.instanceMethod ⟨"JoinOrders", "query", "()I"⟩ : Cond) ∈ lg_w := inG (List.mem_of_getElem? (i := 521) (by decide +kernel)) (by decide +kernel)
theorem k_522 : (.selects "JoinOrders" ⟨"JoinOrders", "query", "()I"⟩ ⟨"JoinOrders", "query", "()I"⟩ : Cond) ∈ lg_w := inG (List.mem_of_getElem? (i := 522) (by decide +kernel)) (by decide +kernel)
theorem k_523 : (.code ⟨"JoinOrders", "query", "()I"⟩ prog_1_method_3_code 1 (Option.some FieldType.int) : Cond) ∈ lg_w := inG (List.mem_of_getElem? (i := 523) (by decide +kernel)) (by decide +kernel)
theorem k_526 : (.instanceMethod ⟨"JoinOrders", "isSound", "(LJoinOrders$Reading;)Z"⟩ : Cond) ∈ lg_w := inG (List.mem_of_getElem? (i := 526) (by decide +kernel)) (by decide +kernel)
theorem k_527 : (.code ⟨"JoinOrders", "isSound", "(LJoinOrders$Reading;)Z"⟩ prog_1_method_32_code 2 (Option.some FieldType.boolean) : Cond) ∈ lg_w := inG (List.mem_of_getElem? (i := 527) (by decide +kernel)) (by decide +kernel)
theorem k_543 : (.methodLink "JoinOrders$QueryReading" 18 ⟨"JoinOrders$Graph", "clear", "()V"⟩ : Cond) ∈ lg_w := inG (List.mem_of_getElem? (i := 543) (by decide +kernel)) (by decide +kernel)
theorem k_544 : (.instanceMethod ⟨"JoinOrders$Graph", "clear", "()V"⟩ : Cond) ∈ lg_w := inG (List.mem_of_getElem? (i := 544) (by decide +kernel)) (by decide +kernel)
theorem k_545 : (.selects "JoinOrders$Graph" ⟨"JoinOrders$Graph", "clear", "()V"⟩ ⟨"JoinOrders$Graph", "clear", "()V"⟩ : Cond) ∈ lg_w := inG (List.mem_of_getElem? (i := 545) (by decide +kernel)) (by decide +kernel)
theorem k_546 : (.code ⟨"JoinOrders$Graph", "clear", "()V"⟩ prog_3_method_5_code 1 (Option.none : Option FieldType) : Cond) ∈ lg_w := inG (List.mem_of_getElem? (i := 546) (by decide +kernel)) (by decide +kernel)
theorem k_548 : (.instanceMethod ⟨"JoinOrders$Text", "startOver", "()V"⟩ : Cond) ∈ lg_w := inG (List.mem_of_getElem? (i := 548) (by decide +kernel)) (by decide +kernel)
theorem k_549 : (.selects "JoinOrders$Text" ⟨"JoinOrders$Text", "startOver", "()V"⟩ ⟨"JoinOrders$Text", "startOver", "()V"⟩ : Cond) ∈ lg_w := inG (List.mem_of_getElem? (i := 549) (by decide +kernel)) (by decide +kernel)
theorem k_550 : (.code ⟨"JoinOrders$Text", "startOver", "()V"⟩ prog_12_method_5_code 1 (Option.none : Option FieldType) : Cond) ∈ lg_w := inG (List.mem_of_getElem? (i := 550) (by decide +kernel)) (by decide +kernel)
theorem k_552 : (.instanceMethod ⟨"JoinOrders$Text", "readToken", "()V"⟩ : Cond) ∈ lg_w := inG (List.mem_of_getElem? (i := 552) (by decide +kernel)) (by decide +kernel)
theorem k_553 : (.selects "JoinOrders$Text" ⟨"JoinOrders$Text", "readToken", "()V"⟩ ⟨"JoinOrders$Text", "readToken", "()V"⟩ : Cond) ∈ lg_w := inG (List.mem_of_getElem? (i := 553) (by decide +kernel)) (by decide +kernel)
theorem k_554 : (.code ⟨"JoinOrders$Text", "readToken", "()V"⟩ prog_12_method_6_code 1 (Option.none : Option FieldType) : Cond) ∈ lg_w := inG (List.mem_of_getElem? (i := 554) (by decide +kernel)) (by decide +kernel)
theorem k_555 : (.methodLink "JoinOrders$Text" 38 ⟨"JoinOrders$Text", "isDigit", "(I)Z"⟩ : Cond) ∈ lg_w := inG (List.mem_of_getElem? (i := 555) (by decide +kernel)) (by decide +kernel)
theorem k_556 : (.static ⟨"JoinOrders$Text", "isDigit", "(I)Z"⟩ : Cond) ∈ lg_w := inG (List.mem_of_getElem? (i := 556) (by decide +kernel)) (by decide +kernel)
theorem k_557 : (.code ⟨"JoinOrders$Text", "isDigit", "(I)Z"⟩ prog_12_method_11_code 1 (Option.some FieldType.boolean) : Cond) ∈ lg_w := inG (List.mem_of_getElem? (i := 557) (by decide +kernel)) (by decide +kernel)
theorem k_560 : (.instanceMethod ⟨"JoinOrders$Text", "readNumber", "()V"⟩ : Cond) ∈ lg_w := inG (List.mem_of_getElem? (i := 560) (by decide +kernel)) (by decide +kernel)
theorem k_561 : (.code ⟨"JoinOrders$Text", "readNumber", "()V"⟩ prog_12_method_7_code 1 (Option.none : Option FieldType) : Cond) ∈ lg_w := inG (List.mem_of_getElem? (i := 561) (by decide +kernel)) (by decide +kernel)
theorem k_563 : (.static ⟨"JoinOrders$Text", "isLetter", "(I)Z"⟩ : Cond) ∈ lg_w := inG (List.mem_of_getElem? (i := 563) (by decide +kernel)) (by decide +kernel)
theorem k_564 : (.code ⟨"JoinOrders$Text", "isLetter", "(I)Z"⟩ prog_12_method_12_code 1 (Option.some FieldType.boolean) : Cond) ∈ lg_w := inG (List.mem_of_getElem? (i := 564) (by decide +kernel)) (by decide +kernel)
theorem k_567 : (.instanceMethod ⟨"JoinOrders$Text", "readWord", "()V"⟩ : Cond) ∈ lg_w := inG (List.mem_of_getElem? (i := 567) (by decide +kernel)) (by decide +kernel)
theorem k_568 : (.code ⟨"JoinOrders$Text", "readWord", "()V"⟩ prog_12_method_8_code 1 (Option.none : Option FieldType) : Cond) ∈ lg_w := inG (List.mem_of_getElem? (i := 568) (by decide +kernel)) (by decide +kernel)
theorem k_572 : (.instanceMethod ⟨"JoinOrders$Text", "isWord", "(Ljava/lang/String;)Z"⟩ : Cond) ∈ lg_w := inG (List.mem_of_getElem? (i := 572) (by decide +kernel)) (by decide +kernel)
theorem k_573 : (.code ⟨"JoinOrders$Text", "isWord", "(Ljava/lang/String;)Z"⟩ prog_12_method_9_code 3 (Option.some FieldType.boolean) : Cond) ∈ lg_w := inG (List.mem_of_getElem? (i := 573) (by decide +kernel)) (by decide +kernel)
theorem k_626 : (.static ⟨"JoinOrders$Text", "signKind", "(I)I"⟩ : Cond) ∈ lg_w := inG (List.mem_of_getElem? (i := 626) (by decide +kernel)) (by decide +kernel)
theorem k_627 : (.code ⟨"JoinOrders$Text", "signKind", "(I)I"⟩ prog_12_method_10_code 1 (Option.some FieldType.int) : Cond) ∈ lg_w := inG (List.mem_of_getElem? (i := 627) (by decide +kernel)) (by decide +kernel)
theorem k_637 : (.methodLink "JoinOrders$QueryReading" 31 ⟨"JoinOrders$QueryReading", "after", "(I)I"⟩ : Cond) ∈ lg_w := inG (List.mem_of_getElem? (i := 637) (by decide +kernel)) (by decide +kernel)
theorem k_639 : (.instanceMethod ⟨"JoinOrders$QueryReading", "after", "(I)I"⟩ : Cond) ∈ lg_w := inG (List.mem_of_getElem? (i := 639) (by decide +kernel)) (by decide +kernel)
theorem k_640 : (.code ⟨"JoinOrders$QueryReading", "after", "(I)I"⟩ prog_8_method_5_code 2 (Option.some FieldType.int) : Cond) ∈ lg_w := inG (List.mem_of_getElem? (i := 640) (by decide +kernel)) (by decide +kernel)
theorem k_641 : (.methodLink "JoinOrders$QueryReading" 35 ⟨"JoinOrders$QueryReading", "afterWord", "(I)I"⟩ : Cond) ∈ lg_w := inG (List.mem_of_getElem? (i := 641) (by decide +kernel)) (by decide +kernel)
theorem k_642 : (.static ⟨"JoinOrders$QueryReading", "afterWord", "(I)I"⟩ : Cond) ∈ lg_w := inG (List.mem_of_getElem? (i := 642) (by decide +kernel)) (by decide +kernel)
theorem k_643 : (.code ⟨"JoinOrders$QueryReading", "afterWord", "(I)I"⟩ prog_8_method_6_code 1 (Option.some FieldType.int) : Cond) ∈ lg_w := inG (List.mem_of_getElem? (i := 643) (by decide +kernel)) (by decide +kernel)
theorem k_650 : (.methodLink "JoinOrders$PlanReading" 39 ⟨"JoinOrders$PlanReading", "absorbRelation", "(I)I"⟩ : Cond) ∈ lg_w := inG (List.mem_of_getElem? (i := 650) (by decide +kernel)) (by decide +kernel)
theorem k_652 : (.instanceMethod ⟨"JoinOrders$PlanReading", "absorbRelation", "(I)I"⟩ : Cond) ∈ lg_w := inG (List.mem_of_getElem? (i := 652) (by decide +kernel)) (by decide +kernel)
theorem k_653 : (.code ⟨"JoinOrders$PlanReading", "absorbRelation", "(I)I"⟩ prog_7_method_7_code 3 (Option.some FieldType.int) : Cond) ∈ lg_w := inG (List.mem_of_getElem? (i := 653) (by decide +kernel)) (by decide +kernel)
theorem k_654 : (.methodLink "JoinOrders$PlanReading" 43 ⟨"JoinOrders$PlanReading", "joinLastTwo", "()V"⟩ : Cond) ∈ lg_w := inG (List.mem_of_getElem? (i := 654) (by decide +kernel)) (by decide +kernel)
theorem k_656 : (.instanceMethod ⟨"JoinOrders$PlanReading", "joinLastTwo", "()V"⟩ : Cond) ∈ lg_w := inG (List.mem_of_getElem? (i := 656) (by decide +kernel)) (by decide +kernel)
theorem k_657 : (.code ⟨"JoinOrders$PlanReading", "joinLastTwo", "()V"⟩ prog_7_method_8_code 3 (Option.none : Option FieldType) : Cond) ∈ lg_w := inG (List.mem_of_getElem? (i := 657) (by decide +kernel)) (by decide +kernel)
theorem k_658 : (.methodLinkNest "JoinOrders$PlanReading" 49 ⟨"JoinOrders", "firstOf", "(II)I"⟩ "JoinOrders" : Cond) ∈ nsW := inN (List.mem_of_getElem? (i := 658) (by decide +kernel)) (by decide +kernel)
theorem k_659 : (.static ⟨"JoinOrders", "firstOf", "(II)I"⟩ : Cond) ∈ lg_w := inG (List.mem_of_getElem? (i := 659) (by decide +kernel)) (by decide +kernel)
theorem k_660 : (.code ⟨"JoinOrders", "firstOf", "(II)I"⟩ prog_1_method_43_code 2 (Option.some FieldType.int) : Cond) ∈ lg_w := inG (List.mem_of_getElem? (i := 660) (by decide +kernel)) (by decide +kernel)
theorem k_661 : (.methodLink "JoinOrders" 392 ⟨"JoinOrders", "least", "(I)I"⟩ : Cond) ∈ lg_w := inG (List.mem_of_getElem? (i := 661) (by decide +kernel)) (by decide +kernel)
theorem k_662 : (.static ⟨"JoinOrders", "least", "(I)I"⟩ : Cond) ∈ lg_w := inG (List.mem_of_getElem? (i := 662) (by decide +kernel)) (by decide +kernel)
theorem k_663 : (.code ⟨"JoinOrders", "least", "(I)I"⟩ prog_1_method_41_code 1 (Option.some FieldType.int) : Cond) ∈ lg_w := inG (List.mem_of_getElem? (i := 663) (by decide +kernel)) (by decide +kernel)
theorem k_667 : (.methodLink "JoinOrders$QueryReading" 52 ⟨"JoinOrders$QueryReading", "absorbNumber", "(I)I"⟩ : Cond) ∈ lg_w := inG (List.mem_of_getElem? (i := 667) (by decide +kernel)) (by decide +kernel)
theorem k_669 : (.instanceMethod ⟨"JoinOrders$QueryReading", "absorbNumber", "(I)I"⟩ : Cond) ∈ lg_w := inG (List.mem_of_getElem? (i := 669) (by decide +kernel)) (by decide +kernel)
theorem k_670 : (.code ⟨"JoinOrders$QueryReading", "absorbNumber", "(I)I"⟩ prog_8_method_8_code 2 (Option.some FieldType.int) : Cond) ∈ lg_w := inG (List.mem_of_getElem? (i := 670) (by decide +kernel)) (by decide +kernel)
theorem k_671 : (.methodLink "JoinOrders$QueryReading" 55 ⟨"JoinOrders$QueryReading", "absorbRows", "(I)I"⟩ : Cond) ∈ lg_w := inG (List.mem_of_getElem? (i := 671) (by decide +kernel)) (by decide +kernel)
theorem k_673 : (.instanceMethod ⟨"JoinOrders$QueryReading", "absorbRows", "(I)I"⟩ : Cond) ∈ lg_w := inG (List.mem_of_getElem? (i := 673) (by decide +kernel)) (by decide +kernel)
theorem k_674 : (.code ⟨"JoinOrders$QueryReading", "absorbRows", "(I)I"⟩ prog_8_method_9_code 2 (Option.some FieldType.int) : Cond) ∈ lg_w := inG (List.mem_of_getElem? (i := 674) (by decide +kernel)) (by decide +kernel)
theorem k_675 : (.methodLink "JoinOrders$QueryReading" 67 ⟨"JoinOrders$Graph", "canBeRows", "(I)Z"⟩ : Cond) ∈ lg_w := inG (List.mem_of_getElem? (i := 675) (by decide +kernel)) (by decide +kernel)
theorem k_676 : (.static ⟨"JoinOrders$Graph", "canBeRows", "(I)Z"⟩ : Cond) ∈ lg_w := inG (List.mem_of_getElem? (i := 676) (by decide +kernel)) (by decide +kernel)
theorem k_677 : (.code ⟨"JoinOrders$Graph", "canBeRows", "(I)Z"⟩ prog_3_method_2_code 1 (Option.some FieldType.boolean) : Cond) ∈ lg_w := inG (List.mem_of_getElem? (i := 677) (by decide +kernel)) (by decide +kernel)
theorem k_678 : (.constant "JoinOrders$Graph" 28 (1000000 : Int32) : Cond) ∈ lg_w := inG (List.mem_of_getElem? (i := 678) (by decide +kernel)) (by decide +kernel)
theorem k_679 : (.methodLink "JoinOrders$QueryReading" 71 ⟨"JoinOrders$Graph", "addRelation", "(I)V"⟩ : Cond) ∈ lg_w := inG (List.mem_of_getElem? (i := 679) (by decide +kernel)) (by decide +kernel)
theorem k_680 : (.instanceMethod ⟨"JoinOrders$Graph", "addRelation", "(I)V"⟩ : Cond) ∈ lg_w := inG (List.mem_of_getElem? (i := 680) (by decide +kernel)) (by decide +kernel)
theorem k_681 : (.selects "JoinOrders$Graph" ⟨"JoinOrders$Graph", "addRelation", "(I)V"⟩ ⟨"JoinOrders$Graph", "addRelation", "(I)V"⟩ : Cond) ∈ lg_w := inG (List.mem_of_getElem? (i := 681) (by decide +kernel)) (by decide +kernel)
theorem k_682 : (.code ⟨"JoinOrders$Graph", "addRelation", "(I)V"⟩ prog_3_method_12_code 2 (Option.none : Option FieldType) : Cond) ∈ lg_w := inG (List.mem_of_getElem? (i := 682) (by decide +kernel)) (by decide +kernel)
theorem k_683 : (.methodLink "JoinOrders$QueryReading" 58 ⟨"JoinOrders$QueryReading", "absorbBy", "(I)I"⟩ : Cond) ∈ lg_w := inG (List.mem_of_getElem? (i := 683) (by decide +kernel)) (by decide +kernel)
theorem k_685 : (.instanceMethod ⟨"JoinOrders$QueryReading", "absorbBy", "(I)I"⟩ : Cond) ∈ lg_w := inG (List.mem_of_getElem? (i := 685) (by decide +kernel)) (by decide +kernel)
theorem k_686 : (.code ⟨"JoinOrders$QueryReading", "absorbBy", "(I)I"⟩ prog_8_method_10_code 2 (Option.some FieldType.int) : Cond) ∈ lg_w := inG (List.mem_of_getElem? (i := 686) (by decide +kernel)) (by decide +kernel)
theorem k_687 : (.methodLink "JoinOrders$QueryReading" 75 ⟨"JoinOrders$Graph", "canBeBy", "(I)Z"⟩ : Cond) ∈ lg_w := inG (List.mem_of_getElem? (i := 687) (by decide +kernel)) (by decide +kernel)
theorem k_688 : (.static ⟨"JoinOrders$Graph", "canBeBy", "(I)Z"⟩ : Cond) ∈ lg_w := inG (List.mem_of_getElem? (i := 688) (by decide +kernel)) (by decide +kernel)
theorem k_689 : (.code ⟨"JoinOrders$Graph", "canBeBy", "(I)Z"⟩ prog_3_method_3_code 1 (Option.some FieldType.boolean) : Cond) ∈ lg_w := inG (List.mem_of_getElem? (i := 689) (by decide +kernel)) (by decide +kernel)
theorem k_690 : (.constant "JoinOrders$Graph" 29 (100000 : Int32) : Cond) ∈ lg_w := inG (List.mem_of_getElem? (i := 690) (by decide +kernel)) (by decide +kernel)
theorem k_691 : (.methodLink "JoinOrders$QueryReading" 78 ⟨"JoinOrders$Graph", "addEdge", "(III)V"⟩ : Cond) ∈ lg_w := inG (List.mem_of_getElem? (i := 691) (by decide +kernel)) (by decide +kernel)
theorem k_692 : (.instanceMethod ⟨"JoinOrders$Graph", "addEdge", "(III)V"⟩ : Cond) ∈ lg_w := inG (List.mem_of_getElem? (i := 692) (by decide +kernel)) (by decide +kernel)
theorem k_693 : (.selects "JoinOrders$Graph" ⟨"JoinOrders$Graph", "addEdge", "(III)V"⟩ ⟨"JoinOrders$Graph", "addEdge", "(III)V"⟩ : Cond) ∈ lg_w := inG (List.mem_of_getElem? (i := 693) (by decide +kernel)) (by decide +kernel)
theorem k_694 : (.code ⟨"JoinOrders$Graph", "addEdge", "(III)V"⟩ prog_3_method_13_code 4 (Option.none : Option FieldType) : Cond) ∈ lg_w := inG (List.mem_of_getElem? (i := 694) (by decide +kernel)) (by decide +kernel)
theorem k_695 : (.methodLink "JoinOrders$QueryReading" 61 ⟨"JoinOrders$QueryReading", "absorbLimit", "(I)I"⟩ : Cond) ∈ lg_w := inG (List.mem_of_getElem? (i := 695) (by decide +kernel)) (by decide +kernel)
theorem k_697 : (.instanceMethod ⟨"JoinOrders$QueryReading", "absorbLimit", "(I)I"⟩ : Cond) ∈ lg_w := inG (List.mem_of_getElem? (i := 697) (by decide +kernel)) (by decide +kernel)
theorem k_698 : (.code ⟨"JoinOrders$QueryReading", "absorbLimit", "(I)I"⟩ prog_8_method_11_code 2 (Option.some FieldType.int) : Cond) ∈ lg_w := inG (List.mem_of_getElem? (i := 698) (by decide +kernel)) (by decide +kernel)
theorem k_699 : (.methodLink "JoinOrders$QueryReading" 82 ⟨"JoinOrders$Graph", "canBeLimit", "(I)Z"⟩ : Cond) ∈ lg_w := inG (List.mem_of_getElem? (i := 699) (by decide +kernel)) (by decide +kernel)
theorem k_700 : (.static ⟨"JoinOrders$Graph", "canBeLimit", "(I)Z"⟩ : Cond) ∈ lg_w := inG (List.mem_of_getElem? (i := 700) (by decide +kernel)) (by decide +kernel)
theorem k_701 : (.code ⟨"JoinOrders$Graph", "canBeLimit", "(I)Z"⟩ prog_3_method_4_code 1 (Option.some FieldType.boolean) : Cond) ∈ lg_w := inG (List.mem_of_getElem? (i := 701) (by decide +kernel)) (by decide +kernel)
theorem k_702 : (.methodLink "JoinOrders$QueryReading" 64 ⟨"JoinOrders$QueryReading", "absorbEnd", "(I)I"⟩ : Cond) ∈ lg_w := inG (List.mem_of_getElem? (i := 702) (by decide +kernel)) (by decide +kernel)
theorem k_704 : (.instanceMethod ⟨"JoinOrders$QueryReading", "absorbEnd", "(I)I"⟩ : Cond) ∈ lg_w := inG (List.mem_of_getElem? (i := 704) (by decide +kernel)) (by decide +kernel)
theorem k_705 : (.code ⟨"JoinOrders$QueryReading", "absorbEnd", "(I)I"⟩ prog_8_method_12_code 3 (Option.some FieldType.int) : Cond) ∈ lg_w := inG (List.mem_of_getElem? (i := 705) (by decide +kernel)) (by decide +kernel)
theorem k_706 : (.methodLink "JoinOrders$QueryReading" 88 ⟨"JoinOrders$Graph", "hasRelation", "(I)Z"⟩ : Cond) ∈ lg_w := inG (List.mem_of_getElem? (i := 706) (by decide +kernel)) (by decide +kernel)
theorem k_707 : (.instanceMethod ⟨"JoinOrders$Graph", "hasRelation", "(I)Z"⟩ : Cond) ∈ lg_w := inG (List.mem_of_getElem? (i := 707) (by decide +kernel)) (by decide +kernel)
theorem k_708 : (.selects "JoinOrders$Graph" ⟨"JoinOrders$Graph", "hasRelation", "(I)Z"⟩ ⟨"JoinOrders$Graph", "hasRelation", "(I)Z"⟩ : Cond) ∈ lg_w := inG (List.mem_of_getElem? (i := 708) (by decide +kernel)) (by decide +kernel)
theorem k_709 : (.code ⟨"JoinOrders$Graph", "hasRelation", "(I)Z"⟩ prog_3_method_9_code 2 (Option.some FieldType.boolean) : Cond) ∈ lg_w := inG (List.mem_of_getElem? (i := 709) (by decide +kernel)) (by decide +kernel)
theorem k_720 : (.instanceMethod ⟨"JoinOrders$Graph", "copy", "(LJoinOrders$Graph;)V"⟩ : Cond) ∈ lg_w := inG (List.mem_of_getElem? (i := 720) (by decide +kernel)) (by decide +kernel)
theorem k_721 : (.selects "JoinOrders$Graph" ⟨"JoinOrders$Graph", "copy", "(LJoinOrders$Graph;)V"⟩ ⟨"JoinOrders$Graph", "copy", "(LJoinOrders$Graph;)V"⟩ : Cond) ∈ lg_w := inG (List.mem_of_getElem? (i := 721) (by decide +kernel)) (by decide +kernel)
theorem k_722 : (.code ⟨"JoinOrders$Graph", "copy", "(LJoinOrders$Graph;)V"⟩ prog_3_method_6_code 2 (Option.none : Option FieldType) : Cond) ∈ lg_w := inG (List.mem_of_getElem? (i := 722) (by decide +kernel)) (by decide +kernel)
theorem k_723 : (.methodLink "JoinOrders$Graph" 36 ⟨"java/lang/System", "arraycopy", "(Ljava/lang/Object;ILjava/lang/Object;II)V"⟩ : Cond) ∈ lg_w := inG (List.mem_of_getElem? (i := 723) (by decide +kernel)) (by decide +kernel)
theorem k_724 : (.static ⟨"java/lang/System", "arraycopy", "(Ljava/lang/Object;ILjava/lang/Object;II)V"⟩ : Cond) ∈ lg_w := inG (List.mem_of_getElem? (i := 724) (by decide +kernel)) (by decide +kernel)
theorem k_725 : (.native ⟨"java/lang/System", "arraycopy", "(Ljava/lang/Object;ILjava/lang/Object;II)V"⟩ : Cond) ∈ lg_w := inG (List.mem_of_getElem? (i := 725) (by decide +kernel)) (by decide +kernel)
theorem k_727 : (.instanceMethod ⟨"JoinOrders$Plan", "clear", "()V"⟩ : Cond) ∈ lg_w := inG (List.mem_of_getElem? (i := 727) (by decide +kernel)) (by decide +kernel)
theorem k_728 : (.selects "JoinOrders$Plan" ⟨"JoinOrders$Plan", "clear", "()V"⟩ ⟨"JoinOrders$Plan", "clear", "()V"⟩ : Cond) ∈ lg_w := inG (List.mem_of_getElem? (i := 728) (by decide +kernel)) (by decide +kernel)
theorem k_729 : (.code ⟨"JoinOrders$Plan", "clear", "()V"⟩ prog_6_method_3_code 1 (Option.none : Option FieldType) : Cond) ∈ lg_w := inG (List.mem_of_getElem? (i := 729) (by decide +kernel)) (by decide +kernel)
theorem k_732 : (.instanceMethod ⟨"JoinOrders", "forget", "()V"⟩ : Cond) ∈ lg_w := inG (List.mem_of_getElem? (i := 732) (by decide +kernel)) (by decide +kernel)
theorem k_733 : (.code ⟨"JoinOrders", "forget", "()V"⟩ prog_1_method_35_code 1 (Option.none : Option FieldType) : Cond) ∈ lg_w := inG (List.mem_of_getElem? (i := 733) (by decide +kernel)) (by decide +kernel)
theorem k_736 : (.instanceMethod ⟨"JoinOrders", "plan", "()I"⟩ : Cond) ∈ lg_w := inG (List.mem_of_getElem? (i := 736) (by decide +kernel)) (by decide +kernel)
theorem k_737 : (.selects "JoinOrders" ⟨"JoinOrders", "plan", "()I"⟩ ⟨"JoinOrders", "plan", "()I"⟩ : Cond) ∈ lg_w := inG (List.mem_of_getElem? (i := 737) (by decide +kernel)) (by decide +kernel)
theorem k_738 : (.code ⟨"JoinOrders", "plan", "()I"⟩ prog_1_method_4_code 1 (Option.some FieldType.int) : Cond) ∈ lg_w := inG (List.mem_of_getElem? (i := 738) (by decide +kernel)) (by decide +kernel)
theorem k_741 : (.instanceMethod ⟨"JoinOrders", "remember", "()V"⟩ : Cond) ∈ lg_w := inG (List.mem_of_getElem? (i := 741) (by decide +kernel)) (by decide +kernel)
theorem k_742 : (.code ⟨"JoinOrders", "remember", "()V"⟩ prog_1_method_33_code 1 (Option.none : Option FieldType) : Cond) ∈ lg_w := inG (List.mem_of_getElem? (i := 742) (by decide +kernel)) (by decide +kernel)
theorem k_744 : (.instanceMethod ⟨"JoinOrders$Plan", "copy", "(LJoinOrders$Plan;)V"⟩ : Cond) ∈ lg_w := inG (List.mem_of_getElem? (i := 744) (by decide +kernel)) (by decide +kernel)
theorem k_745 : (.selects "JoinOrders$Plan" ⟨"JoinOrders$Plan", "copy", "(LJoinOrders$Plan;)V"⟩ ⟨"JoinOrders$Plan", "copy", "(LJoinOrders$Plan;)V"⟩ : Cond) ∈ lg_w := inG (List.mem_of_getElem? (i := 745) (by decide +kernel)) (by decide +kernel)
theorem k_746 : (.code ⟨"JoinOrders$Plan", "copy", "(LJoinOrders$Plan;)V"⟩ prog_6_method_4_code 2 (Option.none : Option FieldType) : Cond) ∈ lg_w := inG (List.mem_of_getElem? (i := 746) (by decide +kernel)) (by decide +kernel)
theorem k_747 : (.methodLink "JoinOrders$Plan" 25 ⟨"java/lang/System", "arraycopy", "(Ljava/lang/Object;ILjava/lang/Object;II)V"⟩ : Cond) ∈ lg_w := inG (List.mem_of_getElem? (i := 747) (by decide +kernel)) (by decide +kernel)
theorem k_752 : (.instanceMethod ⟨"JoinOrders$PlanReading", "whole", "()I"⟩ : Cond) ∈ lg_w := inG (List.mem_of_getElem? (i := 752) (by decide +kernel)) (by decide +kernel)
theorem k_753 : (.selects "JoinOrders$PlanReading" ⟨"JoinOrders$PlanReading", "whole", "()I"⟩ ⟨"JoinOrders$PlanReading", "whole", "()I"⟩ : Cond) ∈ lg_w := inG (List.mem_of_getElem? (i := 753) (by decide +kernel)) (by decide +kernel)
theorem k_754 : (.code ⟨"JoinOrders$PlanReading", "whole", "()I"⟩ prog_7_method_2_code 1 (Option.some FieldType.int) : Cond) ∈ lg_w := inG (List.mem_of_getElem? (i := 754) (by decide +kernel)) (by decide +kernel)
theorem k_756 : (.instanceMethod ⟨"JoinOrders$Plan", "take", "(I[I)V"⟩ : Cond) ∈ lg_w := inG (List.mem_of_getElem? (i := 756) (by decide +kernel)) (by decide +kernel)
theorem k_757 : (.selects "JoinOrders$Plan" ⟨"JoinOrders$Plan", "take", "(I[I)V"⟩ ⟨"JoinOrders$Plan", "take", "(I[I)V"⟩ : Cond) ∈ lg_w := inG (List.mem_of_getElem? (i := 757) (by decide +kernel)) (by decide +kernel)
theorem k_758 : (.code ⟨"JoinOrders$Plan", "take", "(I[I)V"⟩ prog_6_method_5_code 3 (Option.none : Option FieldType) : Cond) ∈ lg_w := inG (List.mem_of_getElem? (i := 758) (by decide +kernel)) (by decide +kernel)
theorem k_761 : (.instanceMethod ⟨"JoinOrders$Plan", "place", "(I[II)V"⟩ : Cond) ∈ lg_w := inG (List.mem_of_getElem? (i := 761) (by decide +kernel)) (by decide +kernel)
theorem k_762 : (.code ⟨"JoinOrders$Plan", "place", "(I[II)V"⟩ prog_6_method_6_code 5 (Option.none : Option FieldType) : Cond) ∈ lg_w := inG (List.mem_of_getElem? (i := 762) (by decide +kernel)) (by decide +kernel)
theorem k_764 : (.static ⟨"java/lang/Integer", "bitCount", "(I)I"⟩ : Cond) ∈ lg_w := inG (List.mem_of_getElem? (i := 764) (by decide +kernel)) (by decide +kernel)
theorem k_765 : (.code ⟨"java/lang/Integer", "bitCount", "(I)I"⟩ prog_19_method_49_code 1 (Option.some FieldType.int) : Cond) ∈ lg_w := inG (List.mem_of_getElem? (i := 765) (by decide +kernel)) (by decide +kernel)
theorem k_766 : (.constant "java/lang/Integer" 265 (1431655765 : Int32) : Cond) ∈ lg_w := inG (List.mem_of_getElem? (i := 766) (by decide +kernel)) (by decide +kernel)
theorem k_767 : (.constant "java/lang/Integer" 266 (858993459 : Int32) : Cond) ∈ lg_w := inG (List.mem_of_getElem? (i := 767) (by decide +kernel)) (by decide +kernel)
theorem k_768 : (.constant "java/lang/Integer" 267 (252645135 : Int32) : Cond) ∈ lg_w := inG (List.mem_of_getElem? (i := 768) (by decide +kernel)) (by decide +kernel)
theorem k_770 : (.instanceMethod ⟨"JoinOrders", "fault", "(Z)I"⟩ : Cond) ∈ lg_w := inG (List.mem_of_getElem? (i := 770) (by decide +kernel)) (by decide +kernel)
theorem k_771 : (.selects "JoinOrders" ⟨"JoinOrders", "fault", "(Z)I"⟩ ⟨"JoinOrders", "fault", "(Z)I"⟩ : Cond) ∈ lg_w := inG (List.mem_of_getElem? (i := 771) (by decide +kernel)) (by decide +kernel)
theorem k_772 : (.code ⟨"JoinOrders", "fault", "(Z)I"⟩ prog_1_method_5_code 2 (Option.some FieldType.int) : Cond) ∈ lg_w := inG (List.mem_of_getElem? (i := 772) (by decide +kernel)) (by decide +kernel)
theorem k_774 : (.instanceMethod ⟨"JoinOrders", "add", "(I)I"⟩ : Cond) ∈ lg_w := inG (List.mem_of_getElem? (i := 774) (by decide +kernel)) (by decide +kernel)
theorem k_775 : (.selects "JoinOrders" ⟨"JoinOrders", "add", "(I)I"⟩ ⟨"JoinOrders", "add", "(I)I"⟩ : Cond) ∈ lg_w := inG (List.mem_of_getElem? (i := 775) (by decide +kernel)) (by decide +kernel)
theorem k_776 : (.code ⟨"JoinOrders", "add", "(I)I"⟩ prog_1_method_6_code 2 (Option.some FieldType.int) : Cond) ∈ lg_w := inG (List.mem_of_getElem? (i := 776) (by decide +kernel)) (by decide +kernel)
theorem k_781 : (.instanceMethod ⟨"JoinOrders", "changed", "()V"⟩ : Cond) ∈ lg_w := inG (List.mem_of_getElem? (i := 781) (by decide +kernel)) (by decide +kernel)
theorem k_782 : (.code ⟨"JoinOrders", "changed", "()V"⟩ prog_1_method_34_code 1 (Option.none : Option FieldType) : Cond) ∈ lg_w := inG (List.mem_of_getElem? (i := 782) (by decide +kernel)) (by decide +kernel)
theorem k_784 : (.instanceMethod ⟨"JoinOrders", "rows", "(II)Z"⟩ : Cond) ∈ lg_w := inG (List.mem_of_getElem? (i := 784) (by decide +kernel)) (by decide +kernel)
theorem k_785 : (.selects "JoinOrders" ⟨"JoinOrders", "rows", "(II)Z"⟩ ⟨"JoinOrders", "rows", "(II)Z"⟩ : Cond) ∈ lg_w := inG (List.mem_of_getElem? (i := 785) (by decide +kernel)) (by decide +kernel)
theorem k_786 : (.code ⟨"JoinOrders", "rows", "(II)Z"⟩ prog_1_method_7_code 4 (Option.some FieldType.boolean) : Cond) ∈ lg_w := inG (List.mem_of_getElem? (i := 786) (by decide +kernel)) (by decide +kernel)
theorem k_789 : (.instanceMethod ⟨"JoinOrders", "link", "(III)I"⟩ : Cond) ∈ lg_w := inG (List.mem_of_getElem? (i := 789) (by decide +kernel)) (by decide +kernel)
theorem k_790 : (.selects "JoinOrders" ⟨"JoinOrders", "link", "(III)I"⟩ ⟨"JoinOrders", "link", "(III)I"⟩ : Cond) ∈ lg_w := inG (List.mem_of_getElem? (i := 790) (by decide +kernel)) (by decide +kernel)
theorem k_791 : (.code ⟨"JoinOrders", "link", "(III)I"⟩ prog_1_method_8_code 5 (Option.some FieldType.int) : Cond) ∈ lg_w := inG (List.mem_of_getElem? (i := 791) (by decide +kernel)) (by decide +kernel)
theorem k_793 : (.instanceMethod ⟨"JoinOrders$Graph", "canLink", "(II)Z"⟩ : Cond) ∈ lg_w := inG (List.mem_of_getElem? (i := 793) (by decide +kernel)) (by decide +kernel)
theorem k_794 : (.selects "JoinOrders$Graph" ⟨"JoinOrders$Graph", "canLink", "(II)Z"⟩ ⟨"JoinOrders$Graph", "canLink", "(II)Z"⟩ : Cond) ∈ lg_w := inG (List.mem_of_getElem? (i := 794) (by decide +kernel)) (by decide +kernel)
theorem k_795 : (.code ⟨"JoinOrders$Graph", "canLink", "(II)Z"⟩ prog_3_method_11_code 3 (Option.some FieldType.boolean) : Cond) ∈ lg_w := inG (List.mem_of_getElem? (i := 795) (by decide +kernel)) (by decide +kernel)
theorem k_796 : (.methodLink "JoinOrders$Graph" 46 ⟨"JoinOrders$Graph", "holds", "(I)Z"⟩ : Cond) ∈ lg_w := inG (List.mem_of_getElem? (i := 796) (by decide +kernel)) (by decide +kernel)
theorem k_797 : (.instanceMethod ⟨"JoinOrders$Graph", "holds", "(I)Z"⟩ : Cond) ∈ lg_w := inG (List.mem_of_getElem? (i := 797) (by decide +kernel)) (by decide +kernel)
theorem k_798 : (.selects "JoinOrders$Graph" ⟨"JoinOrders$Graph", "holds", "(I)Z"⟩ ⟨"JoinOrders$Graph", "holds", "(I)Z"⟩ : Cond) ∈ lg_w := inG (List.mem_of_getElem? (i := 798) (by decide +kernel)) (by decide +kernel)
theorem k_799 : (.code ⟨"JoinOrders$Graph", "holds", "(I)Z"⟩ prog_3_method_8_code 2 (Option.some FieldType.boolean) : Cond) ∈ lg_w := inG (List.mem_of_getElem? (i := 799) (by decide +kernel)) (by decide +kernel)
theorem k_800 : (.methodLink "JoinOrders$Graph" 42 ⟨"JoinOrders$Graph", "all", "()I"⟩ : Cond) ∈ lg_w := inG (List.mem_of_getElem? (i := 800) (by decide +kernel)) (by decide +kernel)
theorem k_801 : (.instanceMethod ⟨"JoinOrders$Graph", "all", "()I"⟩ : Cond) ∈ lg_w := inG (List.mem_of_getElem? (i := 801) (by decide +kernel)) (by decide +kernel)
theorem k_802 : (.selects "JoinOrders$Graph" ⟨"JoinOrders$Graph", "all", "()I"⟩ ⟨"JoinOrders$Graph", "all", "()I"⟩ : Cond) ∈ lg_w := inG (List.mem_of_getElem? (i := 802) (by decide +kernel)) (by decide +kernel)
theorem k_803 : (.code ⟨"JoinOrders$Graph", "all", "()I"⟩ prog_3_method_7_code 1 (Option.some FieldType.int) : Cond) ∈ lg_w := inG (List.mem_of_getElem? (i := 803) (by decide +kernel)) (by decide +kernel)
theorem k_807 : (.instanceMethod ⟨"JoinOrders", "cut", "(I)I"⟩ : Cond) ∈ lg_w := inG (List.mem_of_getElem? (i := 807) (by decide +kernel)) (by decide +kernel)
theorem k_808 : (.selects "JoinOrders" ⟨"JoinOrders", "cut", "(I)I"⟩ ⟨"JoinOrders", "cut", "(I)I"⟩ : Cond) ∈ lg_w := inG (List.mem_of_getElem? (i := 808) (by decide +kernel)) (by decide +kernel)
theorem k_809 : (.code ⟨"JoinOrders", "cut", "(I)I"⟩ prog_1_method_9_code 2 (Option.some FieldType.int) : Cond) ∈ lg_w := inG (List.mem_of_getElem? (i := 809) (by decide +kernel)) (by decide +kernel)
theorem k_811 : (.instanceMethod ⟨"JoinOrders$Graph", "hasEdge", "(I)Z"⟩ : Cond) ∈ lg_w := inG (List.mem_of_getElem? (i := 811) (by decide +kernel)) (by decide +kernel)
theorem k_812 : (.selects "JoinOrders$Graph" ⟨"JoinOrders$Graph", "hasEdge", "(I)Z"⟩ ⟨"JoinOrders$Graph", "hasEdge", "(I)Z"⟩ : Cond) ∈ lg_w := inG (List.mem_of_getElem? (i := 812) (by decide +kernel)) (by decide +kernel)
theorem k_813 : (.code ⟨"JoinOrders$Graph", "hasEdge", "(I)Z"⟩ prog_3_method_10_code 2 (Option.some FieldType.boolean) : Cond) ∈ lg_w := inG (List.mem_of_getElem? (i := 813) (by decide +kernel)) (by decide +kernel)
theorem k_815 : (.instanceMethod ⟨"JoinOrders$Graph", "dropEdge", "(I)V"⟩ : Cond) ∈ lg_w := inG (List.mem_of_getElem? (i := 815) (by decide +kernel)) (by decide +kernel)
theorem k_816 : (.selects "JoinOrders$Graph" ⟨"JoinOrders$Graph", "dropEdge", "(I)V"⟩ ⟨"JoinOrders$Graph", "dropEdge", "(I)V"⟩ : Cond) ∈ lg_w := inG (List.mem_of_getElem? (i := 816) (by decide +kernel)) (by decide +kernel)
theorem k_817 : (.code ⟨"JoinOrders$Graph", "dropEdge", "(I)V"⟩ prog_3_method_14_code 2 (Option.none : Option FieldType) : Cond) ∈ lg_w := inG (List.mem_of_getElem? (i := 817) (by decide +kernel)) (by decide +kernel)
theorem k_818 : (.methodLink "JoinOrders$Graph" 50 ⟨"JoinOrders$Graph", "hasEdge", "(I)Z"⟩ : Cond) ∈ lg_w := inG (List.mem_of_getElem? (i := 818) (by decide +kernel)) (by decide +kernel)
theorem k_820 : (.instanceMethod ⟨"JoinOrders", "by", "(II)Z"⟩ : Cond) ∈ lg_w := inG (List.mem_of_getElem? (i := 820) (by decide +kernel)) (by decide +kernel)
theorem k_821 : (.selects "JoinOrders" ⟨"JoinOrders", "by", "(II)Z"⟩ ⟨"JoinOrders", "by", "(II)Z"⟩ : Cond) ∈ lg_w := inG (List.mem_of_getElem? (i := 821) (by decide +kernel)) (by decide +kernel)
theorem k_822 : (.code ⟨"JoinOrders", "by", "(II)Z"⟩ prog_1_method_10_code 4 (Option.some FieldType.boolean) : Cond) ∈ lg_w := inG (List.mem_of_getElem? (i := 822) (by decide +kernel)) (by decide +kernel)
theorem k_824 : (.instanceMethod ⟨"JoinOrders", "limit", "(I)Z"⟩ : Cond) ∈ lg_w := inG (List.mem_of_getElem? (i := 824) (by decide +kernel)) (by decide +kernel)
theorem k_825 : (.selects "JoinOrders" ⟨"JoinOrders", "limit", "(I)Z"⟩ ⟨"JoinOrders", "limit", "(I)Z"⟩ : Cond) ∈ lg_w := inG (List.mem_of_getElem? (i := 825) (by decide +kernel)) (by decide +kernel)
theorem k_826 : (.code ⟨"JoinOrders", "limit", "(I)Z"⟩ prog_1_method_11_code 2 (Option.some FieldType.boolean) : Cond) ∈ lg_w := inG (List.mem_of_getElem? (i := 826) (by decide +kernel)) (by decide +kernel)
theorem k_829 : (.instanceMethod ⟨"JoinOrders", "choose", "()I"⟩ : Cond) ∈ lg_w := inG (List.mem_of_getElem? (i := 829) (by decide +kernel)) (by decide +kernel)
theorem k_830 : (.selects "JoinOrders" ⟨"JoinOrders", "choose", "()I"⟩ ⟨"JoinOrders", "choose", "()I"⟩ : Cond) ∈ lg_w := inG (List.mem_of_getElem? (i := 830) (by decide +kernel)) (by decide +kernel)
theorem k_831 : (.code ⟨"JoinOrders", "choose", "()I"⟩ prog_1_method_12_code 3 (Option.some FieldType.int) : Cond) ∈ lg_w := inG (List.mem_of_getElem? (i := 831) (by decide +kernel)) (by decide +kernel)
theorem k_835 : (.instanceMethod ⟨"JoinOrders", "pairedSets", "()LJoinOrders$Sets;"⟩ : Cond) ∈ lg_w := inG (List.mem_of_getElem? (i := 835) (by decide +kernel)) (by decide +kernel)
theorem k_836 : (.code ⟨"JoinOrders", "pairedSets", "()LJoinOrders$Sets;"⟩ prog_1_method_37_code 1 (Option.some (FieldType.object "JoinOrders$Sets")) : Cond) ∈ lg_w := inG (List.mem_of_getElem? (i := 836) (by decide +kernel)) (by decide +kernel)
theorem k_839 : (.instanceMethod ⟨"JoinOrders", "knownSets", "()LJoinOrders$Sets;"⟩ : Cond) ∈ lg_w := inG (List.mem_of_getElem? (i := 839) (by decide +kernel)) (by decide +kernel)
theorem k_840 : (.code ⟨"JoinOrders", "knownSets", "()LJoinOrders$Sets;"⟩ prog_1_method_36_code 1 (Option.some (FieldType.object "JoinOrders$Sets")) : Cond) ∈ lg_w := inG (List.mem_of_getElem? (i := 840) (by decide +kernel)) (by decide +kernel)
theorem k_842 : (.instanceMethod ⟨"JoinOrders$Sets", "measure", "(LJoinOrders$Graph;)V"⟩ : Cond) ∈ lg_w := inG (List.mem_of_getElem? (i := 842) (by decide +kernel)) (by decide +kernel)
theorem k_843 : (.selects "JoinOrders$Sets" ⟨"JoinOrders$Sets", "measure", "(LJoinOrders$Graph;)V"⟩ ⟨"JoinOrders$Sets", "measure", "(LJoinOrders$Graph;)V"⟩ : Cond) ∈ lg_w := inG (List.mem_of_getElem? (i := 843) (by decide +kernel)) (by decide +kernel)
theorem k_844 : (.code ⟨"JoinOrders$Sets", "measure", "(LJoinOrders$Graph;)V"⟩ prog_10_method_2_code 4 (Option.none : Option FieldType) : Cond) ∈ lg_w := inG (List.mem_of_getElem? (i := 844) (by decide +kernel)) (by decide +kernel)
theorem k_845 : (.methodLink "JoinOrders$Sets" 44 ⟨"JoinOrders$Sets", "lay", "([ILJoinOrders$Graph;[I)V"⟩ : Cond) ∈ lg_w := inG (List.mem_of_getElem? (i := 845) (by decide +kernel)) (by decide +kernel)
theorem k_847 : (.instanceMethod ⟨"JoinOrders$Sets", "lay", "([ILJoinOrders$Graph;[I)V"⟩ : Cond) ∈ lg_w := inG (List.mem_of_getElem? (i := 847) (by decide +kernel)) (by decide +kernel)
theorem k_848 : (.code ⟨"JoinOrders$Sets", "lay", "([ILJoinOrders$Graph;[I)V"⟩ prog_10_method_3_code 7 (Option.none : Option FieldType) : Cond) ∈ lg_w := inG (List.mem_of_getElem? (i := 848) (by decide +kernel)) (by decide +kernel)
theorem k_849 : (.methodLink "JoinOrders$Sets" 62 ⟨"java/util/Arrays", "fill", "([II)V"⟩ : Cond) ∈ lg_w := inG (List.mem_of_getElem? (i := 849) (by decide +kernel)) (by decide +kernel)
theorem k_850 : (.static ⟨"java/util/Arrays", "fill", "([II)V"⟩ : Cond) ∈ lg_w := inG (List.mem_of_getElem? (i := 850) (by decide +kernel)) (by decide +kernel)
theorem k_851 : (.code ⟨"java/util/Arrays", "fill", "([II)V"⟩ prog_29_method_103_code 4 (Option.none : Option FieldType) : Cond) ∈ lg_w := inG (List.mem_of_getElem? (i := 851) (by decide +kernel)) (by decide +kernel)
theorem k_852 : (.methodLink "JoinOrders$Sets" 54 ⟨"JoinOrders$Sets", "grow", "(LJoinOrders$Graph;II)V"⟩ : Cond) ∈ lg_w := inG (List.mem_of_getElem? (i := 852) (by decide +kernel)) (by decide +kernel)
theorem k_854 : (.instanceMethod ⟨"JoinOrders$Sets", "grow", "(LJoinOrders$Graph;II)V"⟩ : Cond) ∈ lg_w := inG (List.mem_of_getElem? (i := 854) (by decide +kernel)) (by decide +kernel)
theorem k_855 : (.code ⟨"JoinOrders$Sets", "grow", "(LJoinOrders$Graph;II)V"⟩ prog_10_method_4_code 11 (Option.none : Option FieldType) : Cond) ∈ lg_w := inG (List.mem_of_getElem? (i := 855) (by decide +kernel)) (by decide +kernel)
theorem k_856 : (.methodLink "JoinOrders$Sets" 74 ⟨"java/lang/Math", "max", "(II)I"⟩ : Cond) ∈ lg_w := inG (List.mem_of_getElem? (i := 856) (by decide +kernel)) (by decide +kernel)
theorem k_857 : (.static ⟨"java/lang/Math", "max", "(II)I"⟩ : Cond) ∈ lg_w := inG (List.mem_of_getElem? (i := 857) (by decide +kernel)) (by decide +kernel)
theorem k_858 : (.code ⟨"java/lang/Math", "max", "(II)I"⟩ prog_20_method_65_code 2 (Option.some FieldType.int) : Cond) ∈ lg_w := inG (List.mem_of_getElem? (i := 858) (by decide +kernel)) (by decide +kernel)
theorem k_859 : (.constantLong "JoinOrders$Sets" 80 (1000000000000000 : Int64) : Cond) ∈ lg_w := inG (List.mem_of_getElem? (i := 859) (by decide +kernel)) (by decide +kernel)
theorem k_860 : (.methodLink "JoinOrders$Sets" 82 ⟨"JoinOrders$Sets", "edgesIn", "(I)I"⟩ : Cond) ∈ lg_w := inG (List.mem_of_getElem? (i := 860) (by decide +kernel)) (by decide +kernel)
theorem k_862 : (.instanceMethod ⟨"JoinOrders$Sets", "edgesIn", "(I)I"⟩ : Cond) ∈ lg_w := inG (List.mem_of_getElem? (i := 862) (by decide +kernel)) (by decide +kernel)
theorem k_863 : (.code ⟨"JoinOrders$Sets", "edgesIn", "(I)I"⟩ prog_10_method_5_code 2 (Option.some FieldType.int) : Cond) ∈ lg_w := inG (List.mem_of_getElem? (i := 863) (by decide +kernel)) (by decide +kernel)
theorem k_864 : (.methodLink "JoinOrders$Sets" 89 ⟨"java/lang/Math", "max", "(JJ)J"⟩ : Cond) ∈ lg_w := inG (List.mem_of_getElem? (i := 864) (by decide +kernel)) (by decide +kernel)
theorem k_865 : (.static ⟨"java/lang/Math", "max", "(JJ)J"⟩ : Cond) ∈ lg_w := inG (List.mem_of_getElem? (i := 865) (by decide +kernel)) (by decide +kernel)
theorem k_866 : (.code ⟨"java/lang/Math", "max", "(JJ)J"⟩ prog_20_method_66_code 4 (Option.some FieldType.long) : Cond) ∈ lg_w := inG (List.mem_of_getElem? (i := 866) (by decide +kernel)) (by decide +kernel)
theorem k_868 : (.instanceMethod ⟨"JoinOrders$Sets", "findPairs", "()V"⟩ : Cond) ∈ lg_w := inG (List.mem_of_getElem? (i := 868) (by decide +kernel)) (by decide +kernel)
theorem k_869 : (.selects "JoinOrders$Sets" ⟨"JoinOrders$Sets", "findPairs", "()V"⟩ ⟨"JoinOrders$Sets", "findPairs", "()V"⟩ : Cond) ∈ lg_w := inG (List.mem_of_getElem? (i := 869) (by decide +kernel)) (by decide +kernel)
theorem k_870 : (.code ⟨"JoinOrders$Sets", "findPairs", "()V"⟩ prog_10_method_6_code 2 (Option.none : Option FieldType) : Cond) ∈ lg_w := inG (List.mem_of_getElem? (i := 870) (by decide +kernel)) (by decide +kernel)
theorem k_871 : (.methodLink "JoinOrders$Sets" 98 ⟨"JoinOrders$Sets", "countPairs", "(I)I"⟩ : Cond) ∈ lg_w := inG (List.mem_of_getElem? (i := 871) (by decide +kernel)) (by decide +kernel)
theorem k_873 : (.instanceMethod ⟨"JoinOrders$Sets", "countPairs", "(I)I"⟩ : Cond) ∈ lg_w := inG (List.mem_of_getElem? (i := 873) (by decide +kernel)) (by decide +kernel)
theorem k_874 : (.code ⟨"JoinOrders$Sets", "countPairs", "(I)I"⟩ prog_10_method_7_code 6 (Option.some FieldType.int) : Cond) ∈ lg_w := inG (List.mem_of_getElem? (i := 874) (by decide +kernel)) (by decide +kernel)
theorem k_875 : (.methodLinkNest "JoinOrders$Sets" 108 ⟨"JoinOrders", "splitsOf", "(I)I"⟩ "JoinOrders" : Cond) ∈ nsW := inN (List.mem_of_getElem? (i := 875) (by decide +kernel)) (by decide +kernel)
theorem k_876 : (.static ⟨"JoinOrders", "splitsOf", "(I)I"⟩ : Cond) ∈ lg_w := inG (List.mem_of_getElem? (i := 876) (by decide +kernel)) (by decide +kernel)
theorem k_877 : (.code ⟨"JoinOrders", "splitsOf", "(I)I"⟩ prog_1_method_44_code 1 (Option.some FieldType.int) : Cond) ∈ lg_w := inG (List.mem_of_getElem? (i := 877) (by decide +kernel)) (by decide +kernel)
theorem k_878 : (.methodLink "JoinOrders" 387 ⟨"java/lang/Integer", "bitCount", "(I)I"⟩ : Cond) ∈ lg_w := inG (List.mem_of_getElem? (i := 878) (by decide +kernel)) (by decide +kernel)
theorem k_879 : (.methodLinkNest "JoinOrders$Sets" 111 ⟨"JoinOrders", "least", "(I)I"⟩ "JoinOrders" : Cond) ∈ nsW := inN (List.mem_of_getElem? (i := 879) (by decide +kernel)) (by decide +kernel)
theorem k_880 : (.methodLink "JoinOrders$Sets" 114 ⟨"JoinOrders$Sets", "isPair", "(II)Z"⟩ : Cond) ∈ lg_w := inG (List.mem_of_getElem? (i := 880) (by decide +kernel)) (by decide +kernel)
theorem k_882 : (.instanceMethod ⟨"JoinOrders$Sets", "isPair", "(II)Z"⟩ : Cond) ∈ lg_w := inG (List.mem_of_getElem? (i := 882) (by decide +kernel)) (by decide +kernel)
theorem k_883 : (.code ⟨"JoinOrders$Sets", "isPair", "(II)Z"⟩ prog_10_method_8_code 3 (Option.some FieldType.boolean) : Cond) ∈ lg_w := inG (List.mem_of_getElem? (i := 883) (by decide +kernel)) (by decide +kernel)
theorem k_884 : (.methodLink "JoinOrders$Sets" 121 ⟨"JoinOrders$Sets", "areJoined", "(II)Z"⟩ : Cond) ∈ lg_w := inG (List.mem_of_getElem? (i := 884) (by decide +kernel)) (by decide +kernel)
theorem k_885 : (.instanceMethod ⟨"JoinOrders$Sets", "areJoined", "(II)Z"⟩ : Cond) ∈ lg_w := inG (List.mem_of_getElem? (i := 885) (by decide +kernel)) (by decide +kernel)
theorem k_886 : (.selects "JoinOrders$Sets" ⟨"JoinOrders$Sets", "areJoined", "(II)Z"⟩ ⟨"JoinOrders$Sets", "areJoined", "(II)Z"⟩ : Cond) ∈ lg_w := inG (List.mem_of_getElem? (i := 886) (by decide +kernel)) (by decide +kernel)
theorem k_887 : (.code ⟨"JoinOrders$Sets", "areJoined", "(II)Z"⟩ prog_10_method_9_code 3 (Option.some FieldType.boolean) : Cond) ∈ lg_w := inG (List.mem_of_getElem? (i := 887) (by decide +kernel)) (by decide +kernel)
theorem k_888 : (.methodLinkNest "JoinOrders$Sets" 118 ⟨"JoinOrders", "nextPart", "(II)I"⟩ "JoinOrders" : Cond) ∈ nsW := inN (List.mem_of_getElem? (i := 888) (by decide +kernel)) (by decide +kernel)
theorem k_889 : (.static ⟨"JoinOrders", "nextPart", "(II)I"⟩ : Cond) ∈ lg_w := inG (List.mem_of_getElem? (i := 889) (by decide +kernel)) (by decide +kernel)
theorem k_890 : (.code ⟨"JoinOrders", "nextPart", "(II)I"⟩ prog_1_method_45_code 4 (Option.some FieldType.int) : Cond) ∈ lg_w := inG (List.mem_of_getElem? (i := 890) (by decide +kernel)) (by decide +kernel)
theorem k_891 : (.methodLinkNest "JoinOrders$Sets" 101 ⟨"JoinOrders", "isOne", "(I)Z"⟩ "JoinOrders" : Cond) ∈ nsW := inN (List.mem_of_getElem? (i := 891) (by decide +kernel)) (by decide +kernel)
theorem k_892 : (.static ⟨"JoinOrders", "isOne", "(I)Z"⟩ : Cond) ∈ lg_w := inG (List.mem_of_getElem? (i := 892) (by decide +kernel)) (by decide +kernel)
theorem k_893 : (.code ⟨"JoinOrders", "isOne", "(I)Z"⟩ prog_1_method_40_code 1 (Option.some FieldType.boolean) : Cond) ∈ lg_w := inG (List.mem_of_getElem? (i := 893) (by decide +kernel)) (by decide +kernel)
theorem k_896 : (.instanceMethod ⟨"JoinOrders", "bestOf", "(Z)LJoinOrders$Best;"⟩ : Cond) ∈ lg_w := inG (List.mem_of_getElem? (i := 896) (by decide +kernel)) (by decide +kernel)
theorem k_897 : (.code ⟨"JoinOrders", "bestOf", "(Z)LJoinOrders$Best;"⟩ prog_1_method_38_code 3 (Option.some (FieldType.object "JoinOrders$Best")) : Cond) ∈ lg_w := inG (List.mem_of_getElem? (i := 897) (by decide +kernel)) (by decide +kernel)
theorem k_899 : (.instanceMethod ⟨"JoinOrders$Best", "find", "(LJoinOrders$Sets;Z)V"⟩ : Cond) ∈ lg_w := inG (List.mem_of_getElem? (i := 899) (by decide +kernel)) (by decide +kernel)
theorem k_900 : (.selects "JoinOrders$Best" ⟨"JoinOrders$Best", "find", "(LJoinOrders$Sets;Z)V"⟩ ⟨"JoinOrders$Best", "find", "(LJoinOrders$Sets;Z)V"⟩ : Cond) ∈ lg_w := inG (List.mem_of_getElem? (i := 900) (by decide +kernel)) (by decide +kernel)
theorem k_901 : (.code ⟨"JoinOrders$Best", "find", "(LJoinOrders$Sets;Z)V"⟩ prog_2_method_2_code 4 (Option.none : Option FieldType) : Cond) ∈ lg_w := inG (List.mem_of_getElem? (i := 901) (by decide +kernel)) (by decide +kernel)
theorem k_902 : (.methodLink "JoinOrders$Best" 28 ⟨"JoinOrders$Best", "findOf", "(ILJoinOrders$Sets;Z)V"⟩ : Cond) ∈ lg_w := inG (List.mem_of_getElem? (i := 902) (by decide +kernel)) (by decide +kernel)
theorem k_904 : (.instanceMethod ⟨"JoinOrders$Best", "findOf", "(ILJoinOrders$Sets;Z)V"⟩ : Cond) ∈ lg_w := inG (List.mem_of_getElem? (i := 904) (by decide +kernel)) (by decide +kernel)
theorem k_905 : (.code ⟨"JoinOrders$Best", "findOf", "(ILJoinOrders$Sets;Z)V"⟩ prog_2_method_3_code 7 (Option.none : Option FieldType) : Cond) ∈ lg_w := inG (List.mem_of_getElem? (i := 905) (by decide +kernel)) (by decide +kernel)
theorem k_906 : (.methodLinkNest "JoinOrders$Best" 36 ⟨"JoinOrders", "splitsOf", "(I)I"⟩ "JoinOrders" : Cond) ∈ nsW := inN (List.mem_of_getElem? (i := 906) (by decide +kernel)) (by decide +kernel)
theorem k_907 : (.methodLinkNest "JoinOrders$Best" 40 ⟨"JoinOrders", "least", "(I)I"⟩ "JoinOrders" : Cond) ∈ nsW := inN (List.mem_of_getElem? (i := 907) (by decide +kernel)) (by decide +kernel)
theorem k_908 : (.methodLinkNest "JoinOrders$Best" 43 ⟨"JoinOrders", "isOne", "(I)Z"⟩ "JoinOrders" : Cond) ∈ nsW := inN (List.mem_of_getElem? (i := 908) (by decide +kernel)) (by decide +kernel)
theorem k_909 : (.methodLink "JoinOrders$Best" 47 ⟨"JoinOrders$Best", "weigh", "(IILJoinOrders$Sets;)V"⟩ : Cond) ∈ lg_w := inG (List.mem_of_getElem? (i := 909) (by decide +kernel)) (by decide +kernel)
theorem k_911 : (.instanceMethod ⟨"JoinOrders$Best", "weigh", "(IILJoinOrders$Sets;)V"⟩ : Cond) ∈ lg_w := inG (List.mem_of_getElem? (i := 911) (by decide +kernel)) (by decide +kernel)
theorem k_912 : (.code ⟨"JoinOrders$Best", "weigh", "(IILJoinOrders$Sets;)V"⟩ prog_2_method_4_code 8 (Option.none : Option FieldType) : Cond) ∈ lg_w := inG (List.mem_of_getElem? (i := 912) (by decide +kernel)) (by decide +kernel)
theorem k_913 : (.methodLink "JoinOrders$Best" 55 ⟨"JoinOrders$Sets", "areJoined", "(II)Z"⟩ : Cond) ∈ lg_w := inG (List.mem_of_getElem? (i := 913) (by decide +kernel)) (by decide +kernel)
theorem k_914 : (.constantLong "JoinOrders$Best" 59 (1000000000000000 : Int64) : Cond) ∈ lg_w := inG (List.mem_of_getElem? (i := 914) (by decide +kernel)) (by decide +kernel)
theorem k_915 : (.methodLink "JoinOrders$Best" 64 ⟨"java/lang/Math", "min", "(JJ)J"⟩ : Cond) ∈ lg_w := inG (List.mem_of_getElem? (i := 915) (by decide +kernel)) (by decide +kernel)
theorem k_916 : (.static ⟨"java/lang/Math", "min", "(JJ)J"⟩ : Cond) ∈ lg_w := inG (List.mem_of_getElem? (i := 916) (by decide +kernel)) (by decide +kernel)
theorem k_917 : (.code ⟨"java/lang/Math", "min", "(JJ)J"⟩ prog_20_method_70_code 4 (Option.some FieldType.long) : Cond) ∈ lg_w := inG (List.mem_of_getElem? (i := 917) (by decide +kernel)) (by decide +kernel)
theorem k_918 : (.methodLinkNest "JoinOrders$Best" 70 ⟨"JoinOrders", "isBetter", "(IJIJ)Z"⟩ "JoinOrders" : Cond) ∈ nsW := inN (List.mem_of_getElem? (i := 918) (by decide +kernel)) (by decide +kernel)
theorem k_919 : (.static ⟨"JoinOrders", "isBetter", "(IJIJ)Z"⟩ : Cond) ∈ lg_w := inG (List.mem_of_getElem? (i := 919) (by decide +kernel)) (by decide +kernel)
theorem k_920 : (.code ⟨"JoinOrders", "isBetter", "(IJIJ)Z"⟩ prog_1_method_46_code 6 (Option.some FieldType.boolean) : Cond) ∈ lg_w := inG (List.mem_of_getElem? (i := 920) (by decide +kernel)) (by decide +kernel)
theorem k_921 : (.methodLinkNest "JoinOrders$Best" 51 ⟨"JoinOrders", "nextPart", "(II)I"⟩ "JoinOrders" : Cond) ∈ nsW := inN (List.mem_of_getElem? (i := 921) (by decide +kernel)) (by decide +kernel)
theorem k_923 : (.instanceMethod ⟨"JoinOrders$Parts", "mergeAll", "(LJoinOrders$Graph;LJoinOrders$Sets;)V"⟩ : Cond) ∈ lg_w := inG (List.mem_of_getElem? (i := 923) (by decide +kernel)) (by decide +kernel)
theorem k_924 : (.selects "JoinOrders$Parts" ⟨"JoinOrders$Parts", "mergeAll", "(LJoinOrders$Graph;LJoinOrders$Sets;)V"⟩ ⟨"JoinOrders$Parts", "mergeAll", "(LJoinOrders$Graph;LJoinOrders$Sets;)V"⟩ : Cond) ∈ lg_w := inG (List.mem_of_getElem? (i := 924) (by decide +kernel)) (by decide +kernel)
theorem k_925 : (.code ⟨"JoinOrders$Parts", "mergeAll", "(LJoinOrders$Graph;LJoinOrders$Sets;)V"⟩ prog_5_method_2_code 4 (Option.none : Option FieldType) : Cond) ∈ lg_w := inG (List.mem_of_getElem? (i := 925) (by decide +kernel)) (by decide +kernel)
theorem k_926 : (.methodLink "JoinOrders$Parts" 18 ⟨"JoinOrders$Parts", "begin", "(LJoinOrders$Graph;)V"⟩ : Cond) ∈ lg_w := inG (List.mem_of_getElem? (i := 926) (by decide +kernel)) (by decide +kernel)
theorem k_928 : (.instanceMethod ⟨"JoinOrders$Parts", "begin", "(LJoinOrders$Graph;)V"⟩ : Cond) ∈ lg_w := inG (List.mem_of_getElem? (i := 928) (by decide +kernel)) (by decide +kernel)
theorem k_929 : (.code ⟨"JoinOrders$Parts", "begin", "(LJoinOrders$Graph;)V"⟩ prog_5_method_4_code 3 (Option.none : Option FieldType) : Cond) ∈ lg_w := inG (List.mem_of_getElem? (i := 929) (by decide +kernel)) (by decide +kernel)
theorem k_930 : (.methodLink "JoinOrders$Parts" 26 ⟨"JoinOrders$Parts", "pick", "(LJoinOrders$Sets;)V"⟩ : Cond) ∈ lg_w := inG (List.mem_of_getElem? (i := 930) (by decide +kernel)) (by decide +kernel)
theorem k_932 : (.instanceMethod ⟨"JoinOrders$Parts", "pick", "(LJoinOrders$Sets;)V"⟩ : Cond) ∈ lg_w := inG (List.mem_of_getElem? (i := 932) (by decide +kernel)) (by decide +kernel)
theorem k_933 : (.code ⟨"JoinOrders$Parts", "pick", "(LJoinOrders$Sets;)V"⟩ prog_5_method_5_code 4 (Option.none : Option FieldType) : Cond) ∈ lg_w := inG (List.mem_of_getElem? (i := 933) (by decide +kernel)) (by decide +kernel)
theorem k_934 : (.methodLink "JoinOrders$Parts" 50 ⟨"JoinOrders$Parts", "goesAhead", "(IILJoinOrders$Sets;)Z"⟩ : Cond) ∈ lg_w := inG (List.mem_of_getElem? (i := 934) (by decide +kernel)) (by decide +kernel)
theorem k_936 : (.instanceMethod ⟨"JoinOrders$Parts", "goesAhead", "(IILJoinOrders$Sets;)Z"⟩ : Cond) ∈ lg_w := inG (List.mem_of_getElem? (i := 936) (by decide +kernel)) (by decide +kernel)
theorem k_937 : (.code ⟨"JoinOrders$Parts", "goesAhead", "(IILJoinOrders$Sets;)Z"⟩ prog_5_method_6_code 11 (Option.some FieldType.boolean) : Cond) ∈ lg_w := inG (List.mem_of_getElem? (i := 937) (by decide +kernel)) (by decide +kernel)
theorem k_938 : (.methodLink "JoinOrders$Parts" 39 ⟨"JoinOrders$Sets", "areJoined", "(II)Z"⟩ : Cond) ∈ lg_w := inG (List.mem_of_getElem? (i := 938) (by decide +kernel)) (by decide +kernel)
theorem k_939 : (.methodLink "JoinOrders$Parts" 30 ⟨"JoinOrders$Parts", "mergePicked", "()V"⟩ : Cond) ∈ lg_w := inG (List.mem_of_getElem? (i := 939) (by decide +kernel)) (by decide +kernel)
theorem k_941 : (.instanceMethod ⟨"JoinOrders$Parts", "mergePicked", "()V"⟩ : Cond) ∈ lg_w := inG (List.mem_of_getElem? (i := 941) (by decide +kernel)) (by decide +kernel)
theorem k_942 : (.code ⟨"JoinOrders$Parts", "mergePicked", "()V"⟩ prog_5_method_7_code 2 (Option.none : Option FieldType) : Cond) ∈ lg_w := inG (List.mem_of_getElem? (i := 942) (by decide +kernel)) (by decide +kernel)
theorem k_943 : (.methodLink "JoinOrders$Parts" 58 ⟨"java/lang/System", "arraycopy", "(Ljava/lang/Object;ILjava/lang/Object;II)V"⟩ : Cond) ∈ lg_w := inG (List.mem_of_getElem? (i := 943) (by decide +kernel)) (by decide +kernel)
theorem k_945 : (.instanceMethod ⟨"JoinOrders", "step", "()I"⟩ : Cond) ∈ lg_w := inG (List.mem_of_getElem? (i := 945) (by decide +kernel)) (by decide +kernel)
theorem k_946 : (.selects "JoinOrders" ⟨"JoinOrders", "step", "()I"⟩ ⟨"JoinOrders", "step", "()I"⟩ : Cond) ∈ lg_w := inG (List.mem_of_getElem? (i := 946) (by decide +kernel)) (by decide +kernel)
theorem k_947 : (.code ⟨"JoinOrders", "step", "()I"⟩ prog_1_method_13_code 2 (Option.some FieldType.int) : Cond) ∈ lg_w := inG (List.mem_of_getElem? (i := 947) (by decide +kernel)) (by decide +kernel)
theorem k_949 : (.instanceMethod ⟨"JoinOrders$Plan", "isNone", "()Z"⟩ : Cond) ∈ lg_w := inG (List.mem_of_getElem? (i := 949) (by decide +kernel)) (by decide +kernel)
theorem k_950 : (.selects "JoinOrders$Plan" ⟨"JoinOrders$Plan", "isNone", "()Z"⟩ ⟨"JoinOrders$Plan", "isNone", "()Z"⟩ : Cond) ∈ lg_w := inG (List.mem_of_getElem? (i := 950) (by decide +kernel)) (by decide +kernel)
theorem k_951 : (.code ⟨"JoinOrders$Plan", "isNone", "()Z"⟩ prog_6_method_2_code 1 (Option.some FieldType.boolean) : Cond) ∈ lg_w := inG (List.mem_of_getElem? (i := 951) (by decide +kernel)) (by decide +kernel)
theorem k_953 : (.instanceMethod ⟨"JoinOrders$Mover", "stepOf", "(LJoinOrders$Plan;LJoinOrders$Sets;)I"⟩ : Cond) ∈ lg_w := inG (List.mem_of_getElem? (i := 953) (by decide +kernel)) (by decide +kernel)
theorem k_954 : (.selects "JoinOrders$Mover" ⟨"JoinOrders$Mover", "stepOf", "(LJoinOrders$Plan;LJoinOrders$Sets;)I"⟩ ⟨"JoinOrders$Mover", "stepOf", "(LJoinOrders$Plan;LJoinOrders$Sets;)I"⟩ : Cond) ∈ lg_w := inG (List.mem_of_getElem? (i := 954) (by decide +kernel)) (by decide +kernel)
theorem k_955 : (.code ⟨"JoinOrders$Mover", "stepOf", "(LJoinOrders$Plan;LJoinOrders$Sets;)I"⟩ prog_4_method_6_code 12 (Option.some FieldType.int) : Cond) ∈ lg_w := inG (List.mem_of_getElem? (i := 955) (by decide +kernel)) (by decide +kernel)
theorem k_957 : (.instanceMethod ⟨"JoinOrders$Sets", "crossesOf", "(LJoinOrders$Plan;)I"⟩ : Cond) ∈ lg_w := inG (List.mem_of_getElem? (i := 957) (by decide +kernel)) (by decide +kernel)
theorem k_958 : (.selects "JoinOrders$Sets" ⟨"JoinOrders$Sets", "crossesOf", "(LJoinOrders$Plan;)I"⟩ ⟨"JoinOrders$Sets", "crossesOf", "(LJoinOrders$Plan;)I"⟩ : Cond) ∈ lg_w := inG (List.mem_of_getElem? (i := 958) (by decide +kernel)) (by decide +kernel)
theorem k_959 : (.code ⟨"JoinOrders$Sets", "crossesOf", "(LJoinOrders$Plan;)I"⟩ prog_10_method_13_code 4 (Option.some FieldType.int) : Cond) ∈ lg_w := inG (List.mem_of_getElem? (i := 959) (by decide +kernel)) (by decide +kernel)
theorem k_960 : (.methodLink "JoinOrders$Sets" 138 ⟨"JoinOrders$Sets", "isCross", "(LJoinOrders$Plan;I)Z"⟩ : Cond) ∈ lg_w := inG (List.mem_of_getElem? (i := 960) (by decide +kernel)) (by decide +kernel)
theorem k_961 : (.instanceMethod ⟨"JoinOrders$Sets", "isCross", "(LJoinOrders$Plan;I)Z"⟩ : Cond) ∈ lg_w := inG (List.mem_of_getElem? (i := 961) (by decide +kernel)) (by decide +kernel)
theorem k_962 : (.selects "JoinOrders$Sets" ⟨"JoinOrders$Sets", "isCross", "(LJoinOrders$Plan;I)Z"⟩ ⟨"JoinOrders$Sets", "isCross", "(LJoinOrders$Plan;I)Z"⟩ : Cond) ∈ lg_w := inG (List.mem_of_getElem? (i := 962) (by decide +kernel)) (by decide +kernel)
theorem k_963 : (.code ⟨"JoinOrders$Sets", "isCross", "(LJoinOrders$Plan;I)Z"⟩ prog_10_method_12_code 3 (Option.some FieldType.boolean) : Cond) ∈ lg_w := inG (List.mem_of_getElem? (i := 963) (by decide +kernel)) (by decide +kernel)
theorem k_965 : (.instanceMethod ⟨"JoinOrders$Sets", "costOf", "(LJoinOrders$Plan;I)J"⟩ : Cond) ∈ lg_w := inG (List.mem_of_getElem? (i := 965) (by decide +kernel)) (by decide +kernel)
theorem k_966 : (.selects "JoinOrders$Sets" ⟨"JoinOrders$Sets", "costOf", "(LJoinOrders$Plan;I)J"⟩ ⟨"JoinOrders$Sets", "costOf", "(LJoinOrders$Plan;I)J"⟩ : Cond) ∈ lg_w := inG (List.mem_of_getElem? (i := 966) (by decide +kernel)) (by decide +kernel)
theorem k_967 : (.code ⟨"JoinOrders$Sets", "costOf", "(LJoinOrders$Plan;I)J"⟩ prog_10_method_14_code 6 (Option.some FieldType.long) : Cond) ∈ lg_w := inG (List.mem_of_getElem? (i := 967) (by decide +kernel)) (by decide +kernel)
theorem k_968 : (.methodLink "JoinOrders$Sets" 142 ⟨"java/lang/Math", "min", "(JJ)J"⟩ : Cond) ∈ lg_w := inG (List.mem_of_getElem? (i := 968) (by decide +kernel)) (by decide +kernel)
theorem k_970 : (.static ⟨"JoinOrders$Mover", "movesOf", "(LJoinOrders$Plan;)I"⟩ : Cond) ∈ lg_w := inG (List.mem_of_getElem? (i := 970) (by decide +kernel)) (by decide +kernel)
theorem k_971 : (.code ⟨"JoinOrders$Mover", "movesOf", "(LJoinOrders$Plan;)I"⟩ prog_4_method_2_code 1 (Option.some FieldType.int) : Cond) ∈ lg_w := inG (List.mem_of_getElem? (i := 971) (by decide +kernel)) (by decide +kernel)
theorem k_973 : (.instanceMethod ⟨"JoinOrders$Mover", "make", "(LJoinOrders$Plan;I)V"⟩ : Cond) ∈ lg_w := inG (List.mem_of_getElem? (i := 973) (by decide +kernel)) (by decide +kernel)
theorem k_974 : (.selects "JoinOrders$Mover" ⟨"JoinOrders$Mover", "make", "(LJoinOrders$Plan;I)V"⟩ ⟨"JoinOrders$Mover", "make", "(LJoinOrders$Plan;I)V"⟩ : Cond) ∈ lg_w := inG (List.mem_of_getElem? (i := 974) (by decide +kernel)) (by decide +kernel)
theorem k_975 : (.code ⟨"JoinOrders$Mover", "make", "(LJoinOrders$Plan;I)V"⟩ prog_4_method_4_code 7 (Option.none : Option FieldType) : Cond) ∈ lg_w := inG (List.mem_of_getElem? (i := 975) (by decide +kernel)) (by decide +kernel)
theorem k_978 : (.static ⟨"JoinOrders$Mover", "kindOf", "(I)I"⟩ : Cond) ∈ lg_w := inG (List.mem_of_getElem? (i := 978) (by decide +kernel)) (by decide +kernel)
theorem k_979 : (.code ⟨"JoinOrders$Mover", "kindOf", "(I)I"⟩ prog_4_method_3_code 1 (Option.some FieldType.int) : Cond) ∈ lg_w := inG (List.mem_of_getElem? (i := 979) (by decide +kernel)) (by decide +kernel)
theorem k_982 : (.instanceMethod ⟨"JoinOrders$Mover", "turn", "(LJoinOrders$Plan;III)V"⟩ : Cond) ∈ lg_w := inG (List.mem_of_getElem? (i := 982) (by decide +kernel)) (by decide +kernel)
theorem k_983 : (.code ⟨"JoinOrders$Mover", "turn", "(LJoinOrders$Plan;III)V"⟩ prog_4_method_5_code 9 (Option.none : Option FieldType) : Cond) ∈ lg_w := inG (List.mem_of_getElem? (i := 983) (by decide +kernel)) (by decide +kernel)
theorem k_990 : (.instanceMethod ⟨"JoinOrders", "undo", "()I"⟩ : Cond) ∈ lg_w := inG (List.mem_of_getElem? (i := 990) (by decide +kernel)) (by decide +kernel)
theorem k_991 : (.selects "JoinOrders" ⟨"JoinOrders", "undo", "()I"⟩ ⟨"JoinOrders", "undo", "()I"⟩ : Cond) ∈ lg_w := inG (List.mem_of_getElem? (i := 991) (by decide +kernel)) (by decide +kernel)
theorem k_992 : (.code ⟨"JoinOrders", "undo", "()I"⟩ prog_1_method_14_code 1 (Option.some FieldType.int) : Cond) ∈ lg_w := inG (List.mem_of_getElem? (i := 992) (by decide +kernel)) (by decide +kernel)
theorem k_994 : (.instanceMethod ⟨"JoinOrders", "count", "(I)I"⟩ : Cond) ∈ lg_w := inG (List.mem_of_getElem? (i := 994) (by decide +kernel)) (by decide +kernel)
theorem k_995 : (.selects "JoinOrders" ⟨"JoinOrders", "count", "(I)I"⟩ ⟨"JoinOrders", "count", "(I)I"⟩ : Cond) ∈ lg_w := inG (List.mem_of_getElem? (i := 995) (by decide +kernel)) (by decide +kernel)
theorem k_996 : (.code ⟨"JoinOrders", "count", "(I)I"⟩ prog_1_method_15_code 2 (Option.some FieldType.int) : Cond) ∈ lg_w := inG (List.mem_of_getElem? (i := 996) (by decide +kernel)) (by decide +kernel)
theorem k_998 : (.instanceMethod ⟨"JoinOrders", "connected", "(I)Z"⟩ : Cond) ∈ lg_w := inG (List.mem_of_getElem? (i := 998) (by decide +kernel)) (by decide +kernel)
theorem k_999 : (.selects "JoinOrders" ⟨"JoinOrders", "connected", "(I)Z"⟩ ⟨"JoinOrders", "connected", "(I)Z"⟩ : Cond) ∈ lg_w := inG (List.mem_of_getElem? (i := 999) (by decide +kernel)) (by decide +kernel)
theorem k_1000 : (.code ⟨"JoinOrders", "connected", "(I)Z"⟩ prog_1_method_18_code 2 (Option.some FieldType.boolean) : Cond) ∈ lg_w := inG (List.mem_of_getElem? (i := 1000) (by decide +kernel)) (by decide +kernel)
theorem k_1004 : (.instanceMethod ⟨"JoinOrders$Parts", "mergeJoined", "(LJoinOrders$Graph;LJoinOrders$Sets;)I"⟩ : Cond) ∈ lg_w := inG (List.mem_of_getElem? (i := 1004) (by decide +kernel)) (by decide +kernel)
theorem k_1005 : (.selects "JoinOrders$Parts" ⟨"JoinOrders$Parts", "mergeJoined", "(LJoinOrders$Graph;LJoinOrders$Sets;)I"⟩ ⟨"JoinOrders$Parts", "mergeJoined", "(LJoinOrders$Graph;LJoinOrders$Sets;)I"⟩ : Cond) ∈ lg_w := inG (List.mem_of_getElem? (i := 1005) (by decide +kernel)) (by decide +kernel)
theorem k_1006 : (.code ⟨"JoinOrders$Parts", "mergeJoined", "(LJoinOrders$Graph;LJoinOrders$Sets;)I"⟩ prog_5_method_3_code 4 (Option.some FieldType.int) : Cond) ∈ lg_w := inG (List.mem_of_getElem? (i := 1006) (by decide +kernel)) (by decide +kernel)
theorem k_1008 : (.instanceMethod ⟨"JoinOrders", "size", "(IZ)J"⟩ : Cond) ∈ lg_w := inG (List.mem_of_getElem? (i := 1008) (by decide +kernel)) (by decide +kernel)
theorem k_1009 : (.selects "JoinOrders" ⟨"JoinOrders", "size", "(IZ)J"⟩ ⟨"JoinOrders", "size", "(IZ)J"⟩ : Cond) ∈ lg_w := inG (List.mem_of_getElem? (i := 1009) (by decide +kernel)) (by decide +kernel)
theorem k_1010 : (.code ⟨"JoinOrders", "size", "(IZ)J"⟩ prog_1_method_17_code 3 (Option.some FieldType.long) : Cond) ∈ lg_w := inG (List.mem_of_getElem? (i := 1010) (by decide +kernel)) (by decide +kernel)
theorem k_1014 : (.instanceMethod ⟨"JoinOrders", "joined", "(II)Z"⟩ : Cond) ∈ lg_w := inG (List.mem_of_getElem? (i := 1014) (by decide +kernel)) (by decide +kernel)
theorem k_1015 : (.selects "JoinOrders" ⟨"JoinOrders", "joined", "(II)Z"⟩ ⟨"JoinOrders", "joined", "(II)Z"⟩ : Cond) ∈ lg_w := inG (List.mem_of_getElem? (i := 1015) (by decide +kernel)) (by decide +kernel)
theorem k_1016 : (.code ⟨"JoinOrders", "joined", "(II)Z"⟩ prog_1_method_19_code 3 (Option.some FieldType.boolean) : Cond) ∈ lg_w := inG (List.mem_of_getElem? (i := 1016) (by decide +kernel)) (by decide +kernel)
theorem k_1019 : (.instanceMethod ⟨"JoinOrders", "pair", "(IZ)I"⟩ : Cond) ∈ lg_w := inG (List.mem_of_getElem? (i := 1019) (by decide +kernel)) (by decide +kernel)
theorem k_1020 : (.selects "JoinOrders" ⟨"JoinOrders", "pair", "(IZ)I"⟩ ⟨"JoinOrders", "pair", "(IZ)I"⟩ : Cond) ∈ lg_w := inG (List.mem_of_getElem? (i := 1020) (by decide +kernel)) (by decide +kernel)
theorem k_1021 : (.code ⟨"JoinOrders", "pair", "(IZ)I"⟩ prog_1_method_20_code 3 (Option.some FieldType.int) : Cond) ∈ lg_w := inG (List.mem_of_getElem? (i := 1021) (by decide +kernel)) (by decide +kernel)
theorem k_1023 : (.instanceMethod ⟨"JoinOrders$Sets", "partOfPair", "(IZ)I"⟩ : Cond) ∈ lg_w := inG (List.mem_of_getElem? (i := 1023) (by decide +kernel)) (by decide +kernel)
theorem k_1024 : (.selects "JoinOrders$Sets" ⟨"JoinOrders$Sets", "partOfPair", "(IZ)I"⟩ ⟨"JoinOrders$Sets", "partOfPair", "(IZ)I"⟩ : Cond) ∈ lg_w := inG (List.mem_of_getElem? (i := 1024) (by decide +kernel)) (by decide +kernel)
theorem k_1025 : (.code ⟨"JoinOrders$Sets", "partOfPair", "(IZ)I"⟩ prog_10_method_10_code 6 (Option.some FieldType.int) : Cond) ∈ lg_w := inG (List.mem_of_getElem? (i := 1025) (by decide +kernel)) (by decide +kernel)
theorem k_1026 : (.methodLink "JoinOrders$Sets" 124 ⟨"JoinOrders$Sets", "firstOfPair", "(II)I"⟩ : Cond) ∈ lg_w := inG (List.mem_of_getElem? (i := 1026) (by decide +kernel)) (by decide +kernel)
theorem k_1028 : (.instanceMethod ⟨"JoinOrders$Sets", "firstOfPair", "(II)I"⟩ : Cond) ∈ lg_w := inG (List.mem_of_getElem? (i := 1028) (by decide +kernel)) (by decide +kernel)
theorem k_1029 : (.code ⟨"JoinOrders$Sets", "firstOfPair", "(II)I"⟩ prog_10_method_11_code 7 (Option.some FieldType.int) : Cond) ∈ lg_w := inG (List.mem_of_getElem? (i := 1029) (by decide +kernel)) (by decide +kernel)
theorem k_1031 : (.instanceMethod ⟨"JoinOrders", "best", "(IZI)J"⟩ : Cond) ∈ lg_w := inG (List.mem_of_getElem? (i := 1031) (by decide +kernel)) (by decide +kernel)
theorem k_1032 : (.selects "JoinOrders" ⟨"JoinOrders", "best", "(IZI)J"⟩ ⟨"JoinOrders", "best", "(IZI)J"⟩ : Cond) ∈ lg_w := inG (List.mem_of_getElem? (i := 1032) (by decide +kernel)) (by decide +kernel)
theorem k_1033 : (.code ⟨"JoinOrders", "best", "(IZI)J"⟩ prog_1_method_21_code 5 (Option.some FieldType.long) : Cond) ∈ lg_w := inG (List.mem_of_getElem? (i := 1033) (by decide +kernel)) (by decide +kernel)
theorem k_1035 : (.instanceMethod ⟨"JoinOrders", "greedy", "(I)J"⟩ : Cond) ∈ lg_w := inG (List.mem_of_getElem? (i := 1035) (by decide +kernel)) (by decide +kernel)
theorem k_1036 : (.selects "JoinOrders" ⟨"JoinOrders", "greedy", "(I)J"⟩ ⟨"JoinOrders", "greedy", "(I)J"⟩ : Cond) ∈ lg_w := inG (List.mem_of_getElem? (i := 1036) (by decide +kernel)) (by decide +kernel)
theorem k_1037 : (.code ⟨"JoinOrders", "greedy", "(I)J"⟩ prog_1_method_22_code 2 (Option.some FieldType.long) : Cond) ∈ lg_w := inG (List.mem_of_getElem? (i := 1037) (by decide +kernel)) (by decide +kernel)
theorem k_1040 : (.instanceMethod ⟨"JoinOrders", "cost", "()J"⟩ : Cond) ∈ lg_w := inG (List.mem_of_getElem? (i := 1040) (by decide +kernel)) (by decide +kernel)
theorem k_1041 : (.selects "JoinOrders" ⟨"JoinOrders", "cost", "()J"⟩ ⟨"JoinOrders", "cost", "()J"⟩ : Cond) ∈ lg_w := inG (List.mem_of_getElem? (i := 1041) (by decide +kernel)) (by decide +kernel)
theorem k_1042 : (.code ⟨"JoinOrders", "cost", "()J"⟩ prog_1_method_24_code 1 (Option.some FieldType.long) : Cond) ∈ lg_w := inG (List.mem_of_getElem? (i := 1042) (by decide +kernel)) (by decide +kernel)
theorem k_1044 : (.instanceMethod ⟨"JoinOrders", "told", "(I)I"⟩ : Cond) ∈ lg_w := inG (List.mem_of_getElem? (i := 1044) (by decide +kernel)) (by decide +kernel)
theorem k_1045 : (.selects "JoinOrders" ⟨"JoinOrders", "told", "(I)I"⟩ ⟨"JoinOrders", "told", "(I)I"⟩ : Cond) ∈ lg_w := inG (List.mem_of_getElem? (i := 1045) (by decide +kernel)) (by decide +kernel)
theorem k_1046 : (.code ⟨"JoinOrders", "told", "(I)I"⟩ prog_1_method_25_code 3 (Option.some FieldType.int) : Cond) ∈ lg_w := inG (List.mem_of_getElem? (i := 1046) (by decide +kernel)) (by decide +kernel)
theorem k_1048 : (.instanceMethod ⟨"JoinOrders$Plan", "tell", "([I)I"⟩ : Cond) ∈ lg_w := inG (List.mem_of_getElem? (i := 1048) (by decide +kernel)) (by decide +kernel)
theorem k_1049 : (.selects "JoinOrders$Plan" ⟨"JoinOrders$Plan", "tell", "([I)I"⟩ ⟨"JoinOrders$Plan", "tell", "([I)I"⟩ : Cond) ∈ lg_w := inG (List.mem_of_getElem? (i := 1049) (by decide +kernel)) (by decide +kernel)
theorem k_1050 : (.code ⟨"JoinOrders$Plan", "tell", "([I)I"⟩ prog_6_method_8_code 2 (Option.some FieldType.int) : Cond) ∈ lg_w := inG (List.mem_of_getElem? (i := 1050) (by decide +kernel)) (by decide +kernel)
theorem k_1053 : (.instanceMethod ⟨"JoinOrders$Plan", "tellSet", "(I[III)I"⟩ : Cond) ∈ lg_w := inG (List.mem_of_getElem? (i := 1053) (by decide +kernel)) (by decide +kernel)
theorem k_1054 : (.code ⟨"JoinOrders$Plan", "tellSet", "(I[III)I"⟩ prog_6_method_9_code 7 (Option.some FieldType.int) : Cond) ∈ lg_w := inG (List.mem_of_getElem? (i := 1054) (by decide +kernel)) (by decide +kernel)
theorem k_1056 : (.instanceMethod ⟨"JoinOrders$Plan", "partOf", "(I)I"⟩ : Cond) ∈ lg_w := inG (List.mem_of_getElem? (i := 1056) (by decide +kernel)) (by decide +kernel)
theorem k_1057 : (.selects "JoinOrders$Plan" ⟨"JoinOrders$Plan", "partOf", "(I)I"⟩ ⟨"JoinOrders$Plan", "partOf", "(I)I"⟩ : Cond) ∈ lg_w := inG (List.mem_of_getElem? (i := 1057) (by decide +kernel)) (by decide +kernel)
theorem k_1058 : (.code ⟨"JoinOrders$Plan", "partOf", "(I)I"⟩ prog_6_method_7_code 3 (Option.some FieldType.int) : Cond) ∈ lg_w := inG (List.mem_of_getElem? (i := 1058) (by decide +kernel)) (by decide +kernel)
theorem k_1060 : (.static ⟨"JoinOrders", "relationOf", "(I)I"⟩ : Cond) ∈ lg_w := inG (List.mem_of_getElem? (i := 1060) (by decide +kernel)) (by decide +kernel)
theorem k_1061 : (.code ⟨"JoinOrders", "relationOf", "(I)I"⟩ prog_1_method_42_code 1 (Option.some FieldType.int) : Cond) ∈ lg_w := inG (List.mem_of_getElem? (i := 1061) (by decide +kernel)) (by decide +kernel)
theorem k_1063 : (.static ⟨"JoinOrders$Plan", "put", "(I[II)I"⟩ : Cond) ∈ lg_w := inG (List.mem_of_getElem? (i := 1063) (by decide +kernel)) (by decide +kernel)
theorem k_1064 : (.code ⟨"JoinOrders$Plan", "put", "(I[II)I"⟩ prog_6_method_10_code 3 (Option.some FieldType.int) : Cond) ∈ lg_w := inG (List.mem_of_getElem? (i := 1064) (by decide +kernel)) (by decide +kernel)
theorem k_1066 : (.instanceMethod ⟨"JoinOrders", "move", "(I)J"⟩ : Cond) ∈ lg_w := inG (List.mem_of_getElem? (i := 1066) (by decide +kernel)) (by decide +kernel)
theorem k_1067 : (.selects "JoinOrders" ⟨"JoinOrders", "move", "(I)J"⟩ ⟨"JoinOrders", "move", "(I)J"⟩ : Cond) ∈ lg_w := inG (List.mem_of_getElem? (i := 1067) (by decide +kernel)) (by decide +kernel)
theorem k_1068 : (.code ⟨"JoinOrders", "move", "(I)J"⟩ prog_1_method_26_code 3 (Option.some FieldType.long) : Cond) ∈ lg_w := inG (List.mem_of_getElem? (i := 1068) (by decide +kernel)) (by decide +kernel)
theorem k_1071 : (.instanceMethod ⟨"JoinOrders", "steps", "()I"⟩ : Cond) ∈ lg_w := inG (List.mem_of_getElem? (i := 1071) (by decide +kernel)) (by decide +kernel)
theorem k_1072 : (.selects "JoinOrders" ⟨"JoinOrders", "steps", "()I"⟩ ⟨"JoinOrders", "steps", "()I"⟩ : Cond) ∈ lg_w := inG (List.mem_of_getElem? (i := 1072) (by decide +kernel)) (by decide +kernel)
theorem k_1073 : (.code ⟨"JoinOrders", "steps", "()I"⟩ prog_1_method_27_code 3 (Option.some FieldType.int) : Cond) ∈ lg_w := inG (List.mem_of_getElem? (i := 1073) (by decide +kernel)) (by decide +kernel)
theorem k_1076 : (.instanceMethod ⟨"JoinOrders", "would", "(ZII)J"⟩ : Cond) ∈ lg_w := inG (List.mem_of_getElem? (i := 1076) (by decide +kernel)) (by decide +kernel)
theorem k_1077 : (.selects "JoinOrders" ⟨"JoinOrders", "would", "(ZII)J"⟩ ⟨"JoinOrders", "would", "(ZII)J"⟩ : Cond) ∈ lg_w := inG (List.mem_of_getElem? (i := 1077) (by decide +kernel)) (by decide +kernel)
theorem k_1078 : (.code ⟨"JoinOrders", "would", "(ZII)J"⟩ prog_1_method_28_code 5 (Option.some FieldType.long) : Cond) ∈ lg_w := inG (List.mem_of_getElem? (i := 1078) (by decide +kernel)) (by decide +kernel)
theorem k_1081 : (.instanceMethod ⟨"JoinOrders", "costOfTrial", "()J"⟩ : Cond) ∈ lg_w := inG (List.mem_of_getElem? (i := 1081) (by decide +kernel)) (by decide +kernel)
theorem k_1082 : (.code ⟨"JoinOrders", "costOfTrial", "()J"⟩ prog_1_method_39_code 1 (Option.some FieldType.long) : Cond) ∈ lg_w := inG (List.mem_of_getElem? (i := 1082) (by decide +kernel)) (by decide +kernel)
theorem k_1084 : (.instanceMethod ⟨"JoinOrders", "needed", "(Z)J"⟩ : Cond) ∈ lg_w := inG (List.mem_of_getElem? (i := 1084) (by decide +kernel)) (by decide +kernel)
theorem k_1085 : (.selects "JoinOrders" ⟨"JoinOrders", "needed", "(Z)J"⟩ ⟨"JoinOrders", "needed", "(Z)J"⟩ : Cond) ∈ lg_w := inG (List.mem_of_getElem? (i := 1085) (by decide +kernel)) (by decide +kernel)
theorem k_1086 : (.code ⟨"JoinOrders", "needed", "(Z)J"⟩ prog_1_method_29_code 8 (Option.some FieldType.long) : Cond) ∈ lg_w := inG (List.mem_of_getElem? (i := 1086) (by decide +kernel)) (by decide +kernel)
theorem k_1088 : (.instanceMethod ⟨"JoinOrders", "image", "(I)Z"⟩ : Cond) ∈ lg_w := inG (List.mem_of_getElem? (i := 1088) (by decide +kernel)) (by decide +kernel)
theorem k_1089 : (.selects "JoinOrders" ⟨"JoinOrders", "image", "(I)Z"⟩ ⟨"JoinOrders", "image", "(I)Z"⟩ : Cond) ∈ lg_w := inG (List.mem_of_getElem? (i := 1089) (by decide +kernel)) (by decide +kernel)
theorem k_1090 : (.code ⟨"JoinOrders", "image", "(I)Z"⟩ prog_1_method_30_code 2 (Option.some FieldType.boolean) : Cond) ∈ lg_w := inG (List.mem_of_getElem? (i := 1090) (by decide +kernel)) (by decide +kernel)
theorem k_1092 : (.instanceMethod ⟨"JoinOrders$State", "copy", "(LJoinOrders$State;)V"⟩ : Cond) ∈ lg_w := inG (List.mem_of_getElem? (i := 1092) (by decide +kernel)) (by decide +kernel)
theorem k_1093 : (.selects "JoinOrders$State" ⟨"JoinOrders$State", "copy", "(LJoinOrders$State;)V"⟩ ⟨"JoinOrders$State", "copy", "(LJoinOrders$State;)V"⟩ : Cond) ∈ lg_w := inG (List.mem_of_getElem? (i := 1093) (by decide +kernel)) (by decide +kernel)
theorem k_1094 : (.code ⟨"JoinOrders$State", "copy", "(LJoinOrders$State;)V"⟩ prog_11_method_2_code 2 (Option.none : Option FieldType) : Cond) ∈ lg_w := inG (List.mem_of_getElem? (i := 1094) (by decide +kernel)) (by decide +kernel)
theorem k_1095 : (.methodLink "JoinOrders$State" 36 ⟨"JoinOrders$Graph", "copy", "(LJoinOrders$Graph;)V"⟩ : Cond) ∈ lg_w := inG (List.mem_of_getElem? (i := 1095) (by decide +kernel)) (by decide +kernel)
theorem k_1096 : (.methodLink "JoinOrders$State" 40 ⟨"JoinOrders$Plan", "copy", "(LJoinOrders$Plan;)V"⟩ : Cond) ∈ lg_w := inG (List.mem_of_getElem? (i := 1096) (by decide +kernel)) (by decide +kernel)
theorem k_1097 : (.methodLink "JoinOrders$State" 43 ⟨"JoinOrders$Text", "copy", "(LJoinOrders$Text;)V"⟩ : Cond) ∈ lg_w := inG (List.mem_of_getElem? (i := 1097) (by decide +kernel)) (by decide +kernel)
theorem k_1098 : (.instanceMethod ⟨"JoinOrders$Text", "copy", "(LJoinOrders$Text;)V"⟩ : Cond) ∈ lg_w := inG (List.mem_of_getElem? (i := 1098) (by decide +kernel)) (by decide +kernel)
theorem k_1099 : (.selects "JoinOrders$Text" ⟨"JoinOrders$Text", "copy", "(LJoinOrders$Text;)V"⟩ ⟨"JoinOrders$Text", "copy", "(LJoinOrders$Text;)V"⟩ : Cond) ∈ lg_w := inG (List.mem_of_getElem? (i := 1099) (by decide +kernel)) (by decide +kernel)
theorem k_1100 : (.code ⟨"JoinOrders$Text", "copy", "(LJoinOrders$Text;)V"⟩ prog_12_method_2_code 2 (Option.none : Option FieldType) : Cond) ∈ lg_w := inG (List.mem_of_getElem? (i := 1100) (by decide +kernel)) (by decide +kernel)
theorem k_1101 : (.methodLink "JoinOrders$Text" 19 ⟨"java/lang/System", "arraycopy", "(Ljava/lang/Object;ILjava/lang/Object;II)V"⟩ : Cond) ∈ lg_w := inG (List.mem_of_getElem? (i := 1101) (by decide +kernel)) (by decide +kernel)
theorem k_1103 : (.instanceMethod ⟨"JoinOrders", "again", "(I)Z"⟩ : Cond) ∈ lg_w := inG (List.mem_of_getElem? (i := 1103) (by decide +kernel)) (by decide +kernel)
theorem k_1104 : (.selects "JoinOrders" ⟨"JoinOrders", "again", "(I)Z"⟩ ⟨"JoinOrders", "again", "(I)Z"⟩ : Cond) ∈ lg_w := inG (List.mem_of_getElem? (i := 1104) (by decide +kernel)) (by decide +kernel)
theorem k_1105 : (.code ⟨"JoinOrders", "again", "(I)Z"⟩ prog_1_method_31_code 2 (Option.some FieldType.boolean) : Cond) ∈ lg_w := inG (List.mem_of_getElem? (i := 1105) (by decide +kernel)) (by decide +kernel)
theorem k_1111 : (.instanceMethod ⟨"JoinOrders", "edge", "(II)I"⟩ : Cond) ∈ lg_w := inG (List.mem_of_getElem? (i := 1111) (by decide +kernel)) (by decide +kernel)
theorem k_1112 : (.selects "JoinOrders" ⟨"JoinOrders", "edge", "(II)I"⟩ ⟨"JoinOrders", "edge", "(II)I"⟩ : Cond) ∈ lg_w := inG (List.mem_of_getElem? (i := 1112) (by decide +kernel)) (by decide +kernel)
theorem k_1113 : (.code ⟨"JoinOrders", "edge", "(II)I"⟩ prog_1_method_16_code 3 (Option.some FieldType.int) : Cond) ∈ lg_w := inG (List.mem_of_getElem? (i := 1113) (by decide +kernel)) (by decide +kernel)
theorem k_1184 : (.instanceMethod ⟨"JoinOrders", "node", "(II)J"⟩ : Cond) ∈ lg_w := inG (List.mem_of_getElem? (i := 1184) (by decide +kernel)) (by decide +kernel)
theorem k_1185 : (.selects "JoinOrders" ⟨"JoinOrders", "node", "(II)J"⟩ ⟨"JoinOrders", "node", "(II)J"⟩ : Cond) ∈ lg_w := inG (List.mem_of_getElem? (i := 1185) (by decide +kernel)) (by decide +kernel)
theorem k_1186 : (.code ⟨"JoinOrders", "node", "(II)J"⟩ prog_1_method_23_code 4 (Option.some FieldType.long) : Cond) ∈ lg_w := inG (List.mem_of_getElem? (i := 1186) (by decide +kernel)) (by decide +kernel)
abbrev b_J_init : ByteArray := prog_1_method_1_code
def y_J_init : MethodName := ⟨"JoinOrders", "<init>", "()V"⟩
abbrev b_J_type : ByteArray := prog_1_method_2_code
def y_J_type : MethodName := ⟨"JoinOrders", "type", "(J)I"⟩
theorem mv_J_type : mV y_J_type b_J_type 3 (some .int) n_J 1 := ⟨k_512, k_510, k_511, k_93, rfl, by decide +kernel, by decide +kernel, by decide +kernel⟩
abbrev b_J_query : ByteArray := prog_1_method_3_code
def y_J_query : MethodName := ⟨"JoinOrders", "query", "()I"⟩
theorem mv_J_query : mV y_J_query b_J_query 1 (some .int) n_J 0 := ⟨k_523, k_521, k_522, k_93, rfl, by decide +kernel, by decide +kernel, by decide +kernel⟩
abbrev b_J_plan : ByteArray := prog_1_method_4_code
def y_J_plan : MethodName := ⟨"JoinOrders", "plan", "()I"⟩
theorem mv_J_plan : mV y_J_plan b_J_plan 1 (some .int) n_J 0 := ⟨k_738, k_736, k_737, k_93, rfl, by decide +kernel, by decide +kernel, by decide +kernel⟩
abbrev b_J_fault : ByteArray := prog_1_method_5_code
def y_J_fault : MethodName := ⟨"JoinOrders", "fault", "(Z)I"⟩
theorem mv_J_fault : mV y_J_fault b_J_fault 2 (some .int) n_J 1 := ⟨k_772, k_770, k_771, k_93, rfl, by decide +kernel, by decide +kernel, by decide +kernel⟩
abbrev b_J_add : ByteArray := prog_1_method_6_code
def y_J_add : MethodName := ⟨"JoinOrders", "add", "(I)I"⟩
theorem mv_J_add : mV y_J_add b_J_add 2 (some .int) n_J 1 := ⟨k_776, k_774, k_775, k_93, rfl, by decide +kernel, by decide +kernel, by decide +kernel⟩
abbrev b_J_rows : ByteArray := prog_1_method_7_code
def y_J_rows : MethodName := ⟨"JoinOrders", "rows", "(II)Z"⟩
theorem mv_J_rows : mV y_J_rows b_J_rows 4 (some .boolean) n_J 2 := ⟨k_786, k_784, k_785, k_93, rfl, by decide +kernel, by decide +kernel, by decide +kernel⟩
abbrev b_J_link : ByteArray := prog_1_method_8_code
def y_J_link : MethodName := ⟨"JoinOrders", "link", "(III)I"⟩
theorem mv_J_link : mV y_J_link b_J_link 5 (some .int) n_J 3 := ⟨k_791, k_789, k_790, k_93, rfl, by decide +kernel, by decide +kernel, by decide +kernel⟩
abbrev b_J_cut : ByteArray := prog_1_method_9_code
def y_J_cut : MethodName := ⟨"JoinOrders", "cut", "(I)I"⟩
theorem mv_J_cut : mV y_J_cut b_J_cut 2 (some .int) n_J 1 := ⟨k_809, k_807, k_808, k_93, rfl, by decide +kernel, by decide +kernel, by decide +kernel⟩
abbrev b_J_by : ByteArray := prog_1_method_10_code
def y_J_by : MethodName := ⟨"JoinOrders", "by", "(II)Z"⟩
theorem mv_J_by : mV y_J_by b_J_by 4 (some .boolean) n_J 2 := ⟨k_822, k_820, k_821, k_93, rfl, by decide +kernel, by decide +kernel, by decide +kernel⟩
abbrev b_J_limit : ByteArray := prog_1_method_11_code
def y_J_limit : MethodName := ⟨"JoinOrders", "limit", "(I)Z"⟩
theorem mv_J_limit : mV y_J_limit b_J_limit 2 (some .boolean) n_J 1 := ⟨k_826, k_824, k_825, k_93, rfl, by decide +kernel, by decide +kernel, by decide +kernel⟩
abbrev b_J_choose : ByteArray := prog_1_method_12_code
def y_J_choose : MethodName := ⟨"JoinOrders", "choose", "()I"⟩
theorem mv_J_choose : mV y_J_choose b_J_choose 3 (some .int) n_J 0 := ⟨k_831, k_829, k_830, k_93, rfl, by decide +kernel, by decide +kernel, by decide +kernel⟩
abbrev b_J_step : ByteArray := prog_1_method_13_code
def y_J_step : MethodName := ⟨"JoinOrders", "step", "()I"⟩
theorem mv_J_step : mV y_J_step b_J_step 2 (some .int) n_J 0 := ⟨k_947, k_945, k_946, k_93, rfl, by decide +kernel, by decide +kernel, by decide +kernel⟩
abbrev b_J_undo : ByteArray := prog_1_method_14_code
def y_J_undo : MethodName := ⟨"JoinOrders", "undo", "()I"⟩
theorem mv_J_undo : mV y_J_undo b_J_undo 1 (some .int) n_J 0 := ⟨k_992, k_990, k_991, k_93, rfl, by decide +kernel, by decide +kernel, by decide +kernel⟩
abbrev b_J_count : ByteArray := prog_1_method_15_code
def y_J_count : MethodName := ⟨"JoinOrders", "count", "(I)I"⟩
theorem mv_J_count : mV y_J_count b_J_count 2 (some .int) n_J 1 := ⟨k_996, k_994, k_995, k_93, rfl, by decide +kernel, by decide +kernel, by decide +kernel⟩
abbrev b_J_edge : ByteArray := prog_1_method_16_code
def y_J_edge : MethodName := ⟨"JoinOrders", "edge", "(II)I"⟩
theorem mv_J_edge : mV y_J_edge b_J_edge 3 (some .int) n_J 2 := ⟨k_1113, k_1111, k_1112, k_93, rfl, by decide +kernel, by decide +kernel, by decide +kernel⟩
abbrev b_J_size : ByteArray := prog_1_method_17_code
def y_J_size : MethodName := ⟨"JoinOrders", "size", "(IZ)J"⟩
theorem mv_J_size : mV y_J_size b_J_size 3 (some .long) n_J 2 := ⟨k_1010, k_1008, k_1009, k_93, rfl, by decide +kernel, by decide +kernel, by decide +kernel⟩
abbrev b_J_connected : ByteArray := prog_1_method_18_code
def y_J_connected : MethodName := ⟨"JoinOrders", "connected", "(I)Z"⟩
theorem mv_J_connected : mV y_J_connected b_J_connected 2 (some .boolean) n_J 1 := ⟨k_1000, k_998, k_999, k_93, rfl, by decide +kernel, by decide +kernel, by decide +kernel⟩
abbrev b_J_joined : ByteArray := prog_1_method_19_code
def y_J_joined : MethodName := ⟨"JoinOrders", "joined", "(II)Z"⟩
theorem mv_J_joined : mV y_J_joined b_J_joined 3 (some .boolean) n_J 2 := ⟨k_1016, k_1014, k_1015, k_93, rfl, by decide +kernel, by decide +kernel, by decide +kernel⟩
abbrev b_J_pair : ByteArray := prog_1_method_20_code
def y_J_pair : MethodName := ⟨"JoinOrders", "pair", "(IZ)I"⟩
theorem mv_J_pair : mV y_J_pair b_J_pair 3 (some .int) n_J 2 := ⟨k_1021, k_1019, k_1020, k_93, rfl, by decide +kernel, by decide +kernel, by decide +kernel⟩
abbrev b_J_best : ByteArray := prog_1_method_21_code
def y_J_best : MethodName := ⟨"JoinOrders", "best", "(IZI)J"⟩
theorem mv_J_best : mV y_J_best b_J_best 5 (some .long) n_J 3 := ⟨k_1033, k_1031, k_1032, k_93, rfl, by decide +kernel, by decide +kernel, by decide +kernel⟩
abbrev b_J_greedy : ByteArray := prog_1_method_22_code
def y_J_greedy : MethodName := ⟨"JoinOrders", "greedy", "(I)J"⟩
theorem mv_J_greedy : mV y_J_greedy b_J_greedy 2 (some .long) n_J 1 := ⟨k_1037, k_1035, k_1036, k_93, rfl, by decide +kernel, by decide +kernel, by decide +kernel⟩
abbrev b_J_node : ByteArray := prog_1_method_23_code
def y_J_node : MethodName := ⟨"JoinOrders", "node", "(II)J"⟩
theorem mv_J_node : mV y_J_node b_J_node 4 (some .long) n_J 2 := ⟨k_1186, k_1184, k_1185, k_93, rfl, by decide +kernel, by decide +kernel, by decide +kernel⟩
abbrev b_J_cost : ByteArray := prog_1_method_24_code
def y_J_cost : MethodName := ⟨"JoinOrders", "cost", "()J"⟩
theorem mv_J_cost : mV y_J_cost b_J_cost 1 (some .long) n_J 0 := ⟨k_1042, k_1040, k_1041, k_93, rfl, by decide +kernel, by decide +kernel, by decide +kernel⟩
abbrev b_J_told : ByteArray := prog_1_method_25_code
def y_J_told : MethodName := ⟨"JoinOrders", "told", "(I)I"⟩
theorem mv_J_told : mV y_J_told b_J_told 3 (some .int) n_J 1 := ⟨k_1046, k_1044, k_1045, k_93, rfl, by decide +kernel, by decide +kernel, by decide +kernel⟩
abbrev b_J_move : ByteArray := prog_1_method_26_code
def y_J_move : MethodName := ⟨"JoinOrders", "move", "(I)J"⟩
theorem mv_J_move : mV y_J_move b_J_move 3 (some .long) n_J 1 := ⟨k_1068, k_1066, k_1067, k_93, rfl, by decide +kernel, by decide +kernel, by decide +kernel⟩
abbrev b_J_steps : ByteArray := prog_1_method_27_code
def y_J_steps : MethodName := ⟨"JoinOrders", "steps", "()I"⟩
theorem mv_J_steps : mV y_J_steps b_J_steps 3 (some .int) n_J 0 := ⟨k_1073, k_1071, k_1072, k_93, rfl, by decide +kernel, by decide +kernel, by decide +kernel⟩
abbrev b_J_would : ByteArray := prog_1_method_28_code
def y_J_would : MethodName := ⟨"JoinOrders", "would", "(ZII)J"⟩
theorem mv_J_would : mV y_J_would b_J_would 5 (some .long) n_J 3 := ⟨k_1078, k_1076, k_1077, k_93, rfl, by decide +kernel, by decide +kernel, by decide +kernel⟩
abbrev b_J_needed : ByteArray := prog_1_method_29_code
def y_J_needed : MethodName := ⟨"JoinOrders", "needed", "(Z)J"⟩
theorem mv_J_needed : mV y_J_needed b_J_needed 8 (some .long) n_J 1 := ⟨k_1086, k_1084, k_1085, k_93, rfl, by decide +kernel, by decide +kernel, by decide +kernel⟩
abbrev b_J_image : ByteArray := prog_1_method_30_code
def y_J_image : MethodName := ⟨"JoinOrders", "image", "(I)Z"⟩
theorem mv_J_image : mV y_J_image b_J_image 2 (some .boolean) n_J 1 := ⟨k_1090, k_1088, k_1089, k_93, rfl, by decide +kernel, by decide +kernel, by decide +kernel⟩
abbrev b_J_again : ByteArray := prog_1_method_31_code
def y_J_again : MethodName := ⟨"JoinOrders", "again", "(I)Z"⟩
theorem mv_J_again : mV y_J_again b_J_again 2 (some .boolean) n_J 1 := ⟨k_1105, k_1103, k_1104, k_93, rfl, by decide +kernel, by decide +kernel, by decide +kernel⟩
abbrev b_J_isSound : ByteArray := prog_1_method_32_code
def y_J_isSound : MethodName := ⟨"JoinOrders", "isSound", "(LJoinOrders$Reading;)Z"⟩
theorem mv_J_isSound : mV y_J_isSound b_J_isSound 2 (some .boolean) n_J 1 := ⟨k_527, k_526, k_0, k_93, rfl, by decide +kernel, by decide +kernel, by decide +kernel⟩
abbrev b_J_remember : ByteArray := prog_1_method_33_code
def y_J_remember : MethodName := ⟨"JoinOrders", "remember", "()V"⟩
theorem mv_J_remember : mV y_J_remember b_J_remember 1 none n_J 0 := ⟨k_742, k_741, k_13, k_93, rfl, by decide +kernel, by decide +kernel, by decide +kernel⟩
abbrev b_J_changed : ByteArray := prog_1_method_34_code
def y_J_changed : MethodName := ⟨"JoinOrders", "changed", "()V"⟩
theorem mv_J_changed : mV y_J_changed b_J_changed 1 none n_J 0 := ⟨k_782, k_781, k_15, k_93, rfl, by decide +kernel, by decide +kernel, by decide +kernel⟩
abbrev b_J_forget : ByteArray := prog_1_method_35_code
def y_J_forget : MethodName := ⟨"JoinOrders", "forget", "()V"⟩
theorem mv_J_forget : mV y_J_forget b_J_forget 1 none n_J 0 := ⟨k_733, k_732, k_12, k_93, rfl, by decide +kernel, by decide +kernel, by decide +kernel⟩
abbrev b_J_knownSets : ByteArray := prog_1_method_36_code
def y_J_knownSets : MethodName := ⟨"JoinOrders", "knownSets", "()LJoinOrders$Sets;"⟩
theorem mv_J_knownSets : mV y_J_knownSets b_J_knownSets 1 (some ((FieldType.object "JoinOrders$Sets"))) n_J 0 := ⟨k_840, k_839, k_17, k_93, rfl, by decide +kernel, by decide +kernel, by decide +kernel⟩
abbrev b_J_pairedSets : ByteArray := prog_1_method_37_code
def y_J_pairedSets : MethodName := ⟨"JoinOrders", "pairedSets", "()LJoinOrders$Sets;"⟩
theorem mv_J_pairedSets : mV y_J_pairedSets b_J_pairedSets 1 (some ((FieldType.object "JoinOrders$Sets"))) n_J 0 := ⟨k_836, k_835, k_16, k_93, rfl, by decide +kernel, by decide +kernel, by decide +kernel⟩
abbrev b_J_bestOf : ByteArray := prog_1_method_38_code
def y_J_bestOf : MethodName := ⟨"JoinOrders", "bestOf", "(Z)LJoinOrders$Best;"⟩
theorem mv_J_bestOf : mV y_J_bestOf b_J_bestOf 3 (some ((FieldType.object "JoinOrders$Best"))) n_J 1 := ⟨k_897, k_896, k_23, k_93, rfl, by decide +kernel, by decide +kernel, by decide +kernel⟩
abbrev b_J_costOfTrial : ByteArray := prog_1_method_39_code
def y_J_costOfTrial : MethodName := ⟨"JoinOrders", "costOfTrial", "()J"⟩
theorem mv_J_costOfTrial : mV y_J_costOfTrial b_J_costOfTrial 1 (some .long) n_J 0 := ⟨k_1082, k_1081, k_33, k_93, rfl, by decide +kernel, by decide +kernel, by decide +kernel⟩
abbrev b_J_isOne : ByteArray := prog_1_method_40_code
def y_J_isOne : MethodName := ⟨"JoinOrders", "isOne", "(I)Z"⟩
theorem ms_J_isOne : mS y_J_isOne b_J_isOne 1 (some .boolean) 1 := ⟨k_893, k_892, k_93, by decide +kernel, by decide +kernel, by decide +kernel⟩
abbrev b_J_least : ByteArray := prog_1_method_41_code
def y_J_least : MethodName := ⟨"JoinOrders", "least", "(I)I"⟩
theorem ms_J_least : mS y_J_least b_J_least 1 (some .int) 1 := ⟨k_663, k_662, k_93, by decide +kernel, by decide +kernel, by decide +kernel⟩
abbrev b_J_relationOf : ByteArray := prog_1_method_42_code
def y_J_relationOf : MethodName := ⟨"JoinOrders", "relationOf", "(I)I"⟩
theorem ms_J_relationOf : mS y_J_relationOf b_J_relationOf 1 (some .int) 1 := ⟨k_1061, k_1060, k_93, by decide +kernel, by decide +kernel, by decide +kernel⟩
abbrev b_J_firstOf : ByteArray := prog_1_method_43_code
def y_J_firstOf : MethodName := ⟨"JoinOrders", "firstOf", "(II)I"⟩
theorem ms_J_firstOf : mS y_J_firstOf b_J_firstOf 2 (some .int) 2 := ⟨k_660, k_659, k_93, by decide +kernel, by decide +kernel, by decide +kernel⟩
abbrev b_J_splitsOf : ByteArray := prog_1_method_44_code
def y_J_splitsOf : MethodName := ⟨"JoinOrders", "splitsOf", "(I)I"⟩
theorem ms_J_splitsOf : mS y_J_splitsOf b_J_splitsOf 1 (some .int) 1 := ⟨k_877, k_876, k_93, by decide +kernel, by decide +kernel, by decide +kernel⟩
abbrev b_J_nextPart : ByteArray := prog_1_method_45_code
def y_J_nextPart : MethodName := ⟨"JoinOrders", "nextPart", "(II)I"⟩
theorem ms_J_nextPart : mS y_J_nextPart b_J_nextPart 4 (some .int) 2 := ⟨k_890, k_889, k_93, by decide +kernel, by decide +kernel, by decide +kernel⟩
abbrev b_J_isBetter : ByteArray := prog_1_method_46_code
def y_J_isBetter : MethodName := ⟨"JoinOrders", "isBetter", "(IJIJ)Z"⟩
theorem ms_J_isBetter : mS y_J_isBetter b_J_isBetter 6 (some .boolean) 4 := ⟨k_920, k_919, k_93, by decide +kernel, by decide +kernel, by decide +kernel⟩
abbrev b_B_init : ByteArray := prog_2_method_1_code
def y_B_init : MethodName := ⟨"JoinOrders$Best", "<init>", "()V"⟩
abbrev b_B_find : ByteArray := prog_2_method_2_code
def y_B_find : MethodName := ⟨"JoinOrders$Best", "find", "(LJoinOrders$Sets;Z)V"⟩
theorem mv_B_find : mV y_B_find b_B_find 4 none n_B 2 := ⟨k_901, k_899, k_900, k_102, rfl, by decide +kernel, by decide +kernel, by decide +kernel⟩
abbrev b_B_findOf : ByteArray := prog_2_method_3_code
def y_B_findOf : MethodName := ⟨"JoinOrders$Best", "findOf", "(ILJoinOrders$Sets;Z)V"⟩
theorem mv_B_findOf : mV y_B_findOf b_B_findOf 7 none n_B 3 := ⟨k_905, k_904, k_24, k_102, rfl, by decide +kernel, by decide +kernel, by decide +kernel⟩
abbrev b_B_weigh : ByteArray := prog_2_method_4_code
def y_B_weigh : MethodName := ⟨"JoinOrders$Best", "weigh", "(IILJoinOrders$Sets;)V"⟩
theorem mv_B_weigh : mV y_B_weigh b_B_weigh 8 none n_B 3 := ⟨k_912, k_911, k_25, k_102, rfl, by decide +kernel, by decide +kernel, by decide +kernel⟩
abbrev b_G_init : ByteArray := prog_3_method_1_code
def y_G_init : MethodName := ⟨"JoinOrders$Graph", "<init>", "()V"⟩
abbrev b_G_canBeRows : ByteArray := prog_3_method_2_code
def y_G_canBeRows : MethodName := ⟨"JoinOrders$Graph", "canBeRows", "(I)Z"⟩
theorem ms_G_canBeRows : mS y_G_canBeRows b_G_canBeRows 1 (some .boolean) 1 := ⟨k_677, k_676, k_95, by decide +kernel, by decide +kernel, by decide +kernel⟩
abbrev b_G_canBeBy : ByteArray := prog_3_method_3_code
def y_G_canBeBy : MethodName := ⟨"JoinOrders$Graph", "canBeBy", "(I)Z"⟩
theorem ms_G_canBeBy : mS y_G_canBeBy b_G_canBeBy 1 (some .boolean) 1 := ⟨k_689, k_688, k_95, by decide +kernel, by decide +kernel, by decide +kernel⟩
abbrev b_G_canBeLimit : ByteArray := prog_3_method_4_code
def y_G_canBeLimit : MethodName := ⟨"JoinOrders$Graph", "canBeLimit", "(I)Z"⟩
theorem ms_G_canBeLimit : mS y_G_canBeLimit b_G_canBeLimit 1 (some .boolean) 1 := ⟨k_701, k_700, k_95, by decide +kernel, by decide +kernel, by decide +kernel⟩
abbrev b_G_clear : ByteArray := prog_3_method_5_code
def y_G_clear : MethodName := ⟨"JoinOrders$Graph", "clear", "()V"⟩
theorem mv_G_clear : mV y_G_clear b_G_clear 1 none n_G 0 := ⟨k_546, k_544, k_545, k_95, rfl, by decide +kernel, by decide +kernel, by decide +kernel⟩
abbrev b_G_copy : ByteArray := prog_3_method_6_code
def y_G_copy : MethodName := ⟨"JoinOrders$Graph", "copy", "(LJoinOrders$Graph;)V"⟩
theorem mv_G_copy : mV y_G_copy b_G_copy 2 none n_G 1 := ⟨k_722, k_720, k_721, k_95, rfl, by decide +kernel, by decide +kernel, by decide +kernel⟩
abbrev b_G_all : ByteArray := prog_3_method_7_code
def y_G_all : MethodName := ⟨"JoinOrders$Graph", "all", "()I"⟩
theorem mv_G_all : mV y_G_all b_G_all 1 (some .int) n_G 0 := ⟨k_803, k_801, k_802, k_95, rfl, by decide +kernel, by decide +kernel, by decide +kernel⟩
abbrev b_G_holds : ByteArray := prog_3_method_8_code
def y_G_holds : MethodName := ⟨"JoinOrders$Graph", "holds", "(I)Z"⟩
theorem mv_G_holds : mV y_G_holds b_G_holds 2 (some .boolean) n_G 1 := ⟨k_799, k_797, k_798, k_95, rfl, by decide +kernel, by decide +kernel, by decide +kernel⟩
abbrev b_G_hasRelation : ByteArray := prog_3_method_9_code
def y_G_hasRelation : MethodName := ⟨"JoinOrders$Graph", "hasRelation", "(I)Z"⟩
theorem mv_G_hasRelation : mV y_G_hasRelation b_G_hasRelation 2 (some .boolean) n_G 1 := ⟨k_709, k_707, k_708, k_95, rfl, by decide +kernel, by decide +kernel, by decide +kernel⟩
abbrev b_G_hasEdge : ByteArray := prog_3_method_10_code
def y_G_hasEdge : MethodName := ⟨"JoinOrders$Graph", "hasEdge", "(I)Z"⟩
theorem mv_G_hasEdge : mV y_G_hasEdge b_G_hasEdge 2 (some .boolean) n_G 1 := ⟨k_813, k_811, k_812, k_95, rfl, by decide +kernel, by decide +kernel, by decide +kernel⟩
abbrev b_G_canLink : ByteArray := prog_3_method_11_code
def y_G_canLink : MethodName := ⟨"JoinOrders$Graph", "canLink", "(II)Z"⟩
theorem mv_G_canLink : mV y_G_canLink b_G_canLink 3 (some .boolean) n_G 2 := ⟨k_795, k_793, k_794, k_95, rfl, by decide +kernel, by decide +kernel, by decide +kernel⟩
abbrev b_G_addRelation : ByteArray := prog_3_method_12_code
def y_G_addRelation : MethodName := ⟨"JoinOrders$Graph", "addRelation", "(I)V"⟩
theorem mv_G_addRelation : mV y_G_addRelation b_G_addRelation 2 none n_G 1 := ⟨k_682, k_680, k_681, k_95, rfl, by decide +kernel, by decide +kernel, by decide +kernel⟩
abbrev b_G_addEdge : ByteArray := prog_3_method_13_code
def y_G_addEdge : MethodName := ⟨"JoinOrders$Graph", "addEdge", "(III)V"⟩
theorem mv_G_addEdge : mV y_G_addEdge b_G_addEdge 4 none n_G 3 := ⟨k_694, k_692, k_693, k_95, rfl, by decide +kernel, by decide +kernel, by decide +kernel⟩
abbrev b_G_dropEdge : ByteArray := prog_3_method_14_code
def y_G_dropEdge : MethodName := ⟨"JoinOrders$Graph", "dropEdge", "(I)V"⟩
theorem mv_G_dropEdge : mV y_G_dropEdge b_G_dropEdge 2 none n_G 1 := ⟨k_817, k_815, k_816, k_95, rfl, by decide +kernel, by decide +kernel, by decide +kernel⟩
abbrev b_V_init : ByteArray := prog_4_method_1_code
def y_V_init : MethodName := ⟨"JoinOrders$Mover", "<init>", "()V"⟩
abbrev b_V_movesOf : ByteArray := prog_4_method_2_code
def y_V_movesOf : MethodName := ⟨"JoinOrders$Mover", "movesOf", "(LJoinOrders$Plan;)I"⟩
theorem ms_V_movesOf : mS y_V_movesOf b_V_movesOf 1 (some .int) 1 := ⟨k_971, k_970, k_104, by decide +kernel, by decide +kernel, by decide +kernel⟩
abbrev b_V_kindOf : ByteArray := prog_4_method_3_code
def y_V_kindOf : MethodName := ⟨"JoinOrders$Mover", "kindOf", "(I)I"⟩
theorem ms_V_kindOf : mS y_V_kindOf b_V_kindOf 1 (some .int) 1 := ⟨k_979, k_978, k_104, by decide +kernel, by decide +kernel, by decide +kernel⟩
abbrev b_V_make : ByteArray := prog_4_method_4_code
def y_V_make : MethodName := ⟨"JoinOrders$Mover", "make", "(LJoinOrders$Plan;I)V"⟩
theorem mv_V_make : mV y_V_make b_V_make 7 none n_V 2 := ⟨k_975, k_973, k_974, k_104, rfl, by decide +kernel, by decide +kernel, by decide +kernel⟩
abbrev b_V_turn : ByteArray := prog_4_method_5_code
def y_V_turn : MethodName := ⟨"JoinOrders$Mover", "turn", "(LJoinOrders$Plan;III)V"⟩
theorem mv_V_turn : mV y_V_turn b_V_turn 9 none n_V 4 := ⟨k_983, k_982, k_30, k_104, rfl, by decide +kernel, by decide +kernel, by decide +kernel⟩
abbrev b_V_stepOf : ByteArray := prog_4_method_6_code
def y_V_stepOf : MethodName := ⟨"JoinOrders$Mover", "stepOf", "(LJoinOrders$Plan;LJoinOrders$Sets;)I"⟩
theorem mv_V_stepOf : mV y_V_stepOf b_V_stepOf 12 (some .int) n_V 2 := ⟨k_955, k_953, k_954, k_104, rfl, by decide +kernel, by decide +kernel, by decide +kernel⟩
abbrev b_A_init : ByteArray := prog_5_method_1_code
def y_A_init : MethodName := ⟨"JoinOrders$Parts", "<init>", "()V"⟩
abbrev b_A_mergeAll : ByteArray := prog_5_method_2_code
def y_A_mergeAll : MethodName := ⟨"JoinOrders$Parts", "mergeAll", "(LJoinOrders$Graph;LJoinOrders$Sets;)V"⟩
theorem mv_A_mergeAll : mV y_A_mergeAll b_A_mergeAll 4 none n_A 2 := ⟨k_925, k_923, k_924, k_103, rfl, by decide +kernel, by decide +kernel, by decide +kernel⟩
abbrev b_A_mergeJoined : ByteArray := prog_5_method_3_code
def y_A_mergeJoined : MethodName := ⟨"JoinOrders$Parts", "mergeJoined", "(LJoinOrders$Graph;LJoinOrders$Sets;)I"⟩
theorem mv_A_mergeJoined : mV y_A_mergeJoined b_A_mergeJoined 4 (some .int) n_A 2 := ⟨k_1006, k_1004, k_1005, k_103, rfl, by decide +kernel, by decide +kernel, by decide +kernel⟩
abbrev b_A_begin : ByteArray := prog_5_method_4_code
def y_A_begin : MethodName := ⟨"JoinOrders$Parts", "begin", "(LJoinOrders$Graph;)V"⟩
theorem mv_A_begin : mV y_A_begin b_A_begin 3 none n_A 1 := ⟨k_929, k_928, k_26, k_103, rfl, by decide +kernel, by decide +kernel, by decide +kernel⟩
abbrev b_A_pick : ByteArray := prog_5_method_5_code
def y_A_pick : MethodName := ⟨"JoinOrders$Parts", "pick", "(LJoinOrders$Sets;)V"⟩
theorem mv_A_pick : mV y_A_pick b_A_pick 4 none n_A 1 := ⟨k_933, k_932, k_27, k_103, rfl, by decide +kernel, by decide +kernel, by decide +kernel⟩
abbrev b_A_goesAhead : ByteArray := prog_5_method_6_code
def y_A_goesAhead : MethodName := ⟨"JoinOrders$Parts", "goesAhead", "(IILJoinOrders$Sets;)Z"⟩
theorem mv_A_goesAhead : mV y_A_goesAhead b_A_goesAhead 11 (some .boolean) n_A 3 := ⟨k_937, k_936, k_28, k_103, rfl, by decide +kernel, by decide +kernel, by decide +kernel⟩
abbrev b_A_mergePicked : ByteArray := prog_5_method_7_code
def y_A_mergePicked : MethodName := ⟨"JoinOrders$Parts", "mergePicked", "()V"⟩
theorem mv_A_mergePicked : mV y_A_mergePicked b_A_mergePicked 2 none n_A 0 := ⟨k_942, k_941, k_29, k_103, rfl, by decide +kernel, by decide +kernel, by decide +kernel⟩
abbrev b_P_init : ByteArray := prog_6_method_1_code
def y_P_init : MethodName := ⟨"JoinOrders$Plan", "<init>", "()V"⟩
abbrev b_P_isNone : ByteArray := prog_6_method_2_code
def y_P_isNone : MethodName := ⟨"JoinOrders$Plan", "isNone", "()Z"⟩
theorem mv_P_isNone : mV y_P_isNone b_P_isNone 1 (some .boolean) n_P 0 := ⟨k_951, k_949, k_950, k_96, rfl, by decide +kernel, by decide +kernel, by decide +kernel⟩
abbrev b_P_clear : ByteArray := prog_6_method_3_code
def y_P_clear : MethodName := ⟨"JoinOrders$Plan", "clear", "()V"⟩
theorem mv_P_clear : mV y_P_clear b_P_clear 1 none n_P 0 := ⟨k_729, k_727, k_728, k_96, rfl, by decide +kernel, by decide +kernel, by decide +kernel⟩
abbrev b_P_copy : ByteArray := prog_6_method_4_code
def y_P_copy : MethodName := ⟨"JoinOrders$Plan", "copy", "(LJoinOrders$Plan;)V"⟩
theorem mv_P_copy : mV y_P_copy b_P_copy 2 none n_P 1 := ⟨k_746, k_744, k_745, k_96, rfl, by decide +kernel, by decide +kernel, by decide +kernel⟩
abbrev b_P_take : ByteArray := prog_6_method_5_code
def y_P_take : MethodName := ⟨"JoinOrders$Plan", "take", "(I[I)V"⟩
theorem mv_P_take : mV y_P_take b_P_take 3 none n_P 2 := ⟨k_758, k_756, k_757, k_96, rfl, by decide +kernel, by decide +kernel, by decide +kernel⟩
abbrev b_P_place : ByteArray := prog_6_method_6_code
def y_P_place : MethodName := ⟨"JoinOrders$Plan", "place", "(I[II)V"⟩
theorem mv_P_place : mV y_P_place b_P_place 5 none n_P 3 := ⟨k_762, k_761, k_14, k_96, rfl, by decide +kernel, by decide +kernel, by decide +kernel⟩
abbrev b_P_partOf : ByteArray := prog_6_method_7_code
def y_P_partOf : MethodName := ⟨"JoinOrders$Plan", "partOf", "(I)I"⟩
theorem mv_P_partOf : mV y_P_partOf b_P_partOf 3 (some .int) n_P 1 := ⟨k_1058, k_1056, k_1057, k_96, rfl, by decide +kernel, by decide +kernel, by decide +kernel⟩
abbrev b_P_tell : ByteArray := prog_6_method_8_code
def y_P_tell : MethodName := ⟨"JoinOrders$Plan", "tell", "([I)I"⟩
theorem mv_P_tell : mV y_P_tell b_P_tell 2 (some .int) n_P 1 := ⟨k_1050, k_1048, k_1049, k_96, rfl, by decide +kernel, by decide +kernel, by decide +kernel⟩
abbrev b_P_tellSet : ByteArray := prog_6_method_9_code
def y_P_tellSet : MethodName := ⟨"JoinOrders$Plan", "tellSet", "(I[III)I"⟩
theorem mv_P_tellSet : mV y_P_tellSet b_P_tellSet 7 (some .int) n_P 4 := ⟨k_1054, k_1053, k_32, k_96, rfl, by decide +kernel, by decide +kernel, by decide +kernel⟩
abbrev b_P_put : ByteArray := prog_6_method_10_code
def y_P_put : MethodName := ⟨"JoinOrders$Plan", "put", "(I[II)I"⟩
theorem ms_P_put : mS y_P_put b_P_put 3 (some .int) 3 := ⟨k_1064, k_1063, k_96, by decide +kernel, by decide +kernel, by decide +kernel⟩
abbrev b_L_init : ByteArray := prog_7_method_1_code
def y_L_init : MethodName := ⟨"JoinOrders$PlanReading", "<init>", "()V"⟩
abbrev b_L_whole : ByteArray := prog_7_method_2_code
def y_L_whole : MethodName := ⟨"JoinOrders$PlanReading", "whole", "()I"⟩
theorem mv_L_whole : mV y_L_whole b_L_whole 1 (some .int) n_L 0 := ⟨k_754, k_752, k_753, k_100, rfl, by decide +kernel, by decide +kernel, by decide +kernel⟩
abbrev b_L_begin : ByteArray := prog_7_method_3_code
def y_L_begin : MethodName := ⟨"JoinOrders$PlanReading", "begin", "()V"⟩
abbrev b_L_canStand : ByteArray := prog_7_method_4_code
def y_L_canStand : MethodName := ⟨"JoinOrders$PlanReading", "canStand", "(I)Z"⟩
abbrev b_L_pass : ByteArray := prog_7_method_5_code
def y_L_pass : MethodName := ⟨"JoinOrders$PlanReading", "pass", "(I)V"⟩
abbrev b_L_absorb : ByteArray := prog_7_method_6_code
def y_L_absorb : MethodName := ⟨"JoinOrders$PlanReading", "absorb", "(LJoinOrders$Text;)I"⟩
abbrev b_L_absorbRelation : ByteArray := prog_7_method_7_code
def y_L_absorbRelation : MethodName := ⟨"JoinOrders$PlanReading", "absorbRelation", "(I)I"⟩
theorem mv_L_absorbRelation : mV y_L_absorbRelation b_L_absorbRelation 3 (some .int) n_L 1 := ⟨k_653, k_652, k_5, k_100, rfl, by decide +kernel, by decide +kernel, by decide +kernel⟩
abbrev b_L_joinLastTwo : ByteArray := prog_7_method_8_code
def y_L_joinLastTwo : MethodName := ⟨"JoinOrders$PlanReading", "joinLastTwo", "()V"⟩
theorem mv_L_joinLastTwo : mV y_L_joinLastTwo b_L_joinLastTwo 3 none n_L 0 := ⟨k_657, k_656, k_6, k_100, rfl, by decide +kernel, by decide +kernel, by decide +kernel⟩
abbrev b_Q_init : ByteArray := prog_8_method_1_code
def y_Q_init : MethodName := ⟨"JoinOrders$QueryReading", "<init>", "()V"⟩
abbrev b_Q_begin : ByteArray := prog_8_method_2_code
def y_Q_begin : MethodName := ⟨"JoinOrders$QueryReading", "begin", "()V"⟩
abbrev b_Q_canStand : ByteArray := prog_8_method_3_code
def y_Q_canStand : MethodName := ⟨"JoinOrders$QueryReading", "canStand", "(I)Z"⟩
abbrev b_Q_pass : ByteArray := prog_8_method_4_code
def y_Q_pass : MethodName := ⟨"JoinOrders$QueryReading", "pass", "(I)V"⟩
abbrev b_Q_after : ByteArray := prog_8_method_5_code
def y_Q_after : MethodName := ⟨"JoinOrders$QueryReading", "after", "(I)I"⟩
theorem mv_Q_after : mV y_Q_after b_Q_after 2 (some .int) n_Q 1 := ⟨k_640, k_639, k_4, k_99, rfl, by decide +kernel, by decide +kernel, by decide +kernel⟩
abbrev b_Q_afterWord : ByteArray := prog_8_method_6_code
def y_Q_afterWord : MethodName := ⟨"JoinOrders$QueryReading", "afterWord", "(I)I"⟩
theorem ms_Q_afterWord : mS y_Q_afterWord b_Q_afterWord 1 (some .int) 1 := ⟨k_643, k_642, k_99, by decide +kernel, by decide +kernel, by decide +kernel⟩
abbrev b_Q_absorb : ByteArray := prog_8_method_7_code
def y_Q_absorb : MethodName := ⟨"JoinOrders$QueryReading", "absorb", "(LJoinOrders$Text;)I"⟩
abbrev b_Q_absorbNumber : ByteArray := prog_8_method_8_code
def y_Q_absorbNumber : MethodName := ⟨"JoinOrders$QueryReading", "absorbNumber", "(I)I"⟩
theorem mv_Q_absorbNumber : mV y_Q_absorbNumber b_Q_absorbNumber 2 (some .int) n_Q 1 := ⟨k_670, k_669, k_7, k_99, rfl, by decide +kernel, by decide +kernel, by decide +kernel⟩
abbrev b_Q_absorbRows : ByteArray := prog_8_method_9_code
def y_Q_absorbRows : MethodName := ⟨"JoinOrders$QueryReading", "absorbRows", "(I)I"⟩
theorem mv_Q_absorbRows : mV y_Q_absorbRows b_Q_absorbRows 2 (some .int) n_Q 1 := ⟨k_674, k_673, k_8, k_99, rfl, by decide +kernel, by decide +kernel, by decide +kernel⟩
abbrev b_Q_absorbBy : ByteArray := prog_8_method_10_code
def y_Q_absorbBy : MethodName := ⟨"JoinOrders$QueryReading", "absorbBy", "(I)I"⟩
theorem mv_Q_absorbBy : mV y_Q_absorbBy b_Q_absorbBy 2 (some .int) n_Q 1 := ⟨k_686, k_685, k_9, k_99, rfl, by decide +kernel, by decide +kernel, by decide +kernel⟩
abbrev b_Q_absorbLimit : ByteArray := prog_8_method_11_code
def y_Q_absorbLimit : MethodName := ⟨"JoinOrders$QueryReading", "absorbLimit", "(I)I"⟩
theorem mv_Q_absorbLimit : mV y_Q_absorbLimit b_Q_absorbLimit 2 (some .int) n_Q 1 := ⟨k_698, k_697, k_10, k_99, rfl, by decide +kernel, by decide +kernel, by decide +kernel⟩
abbrev b_Q_absorbEnd : ByteArray := prog_8_method_12_code
def y_Q_absorbEnd : MethodName := ⟨"JoinOrders$QueryReading", "absorbEnd", "(I)I"⟩
theorem mv_Q_absorbEnd : mV y_Q_absorbEnd b_Q_absorbEnd 3 (some .int) n_Q 1 := ⟨k_705, k_704, k_11, k_99, rfl, by decide +kernel, by decide +kernel, by decide +kernel⟩
abbrev b_E_init : ByteArray := prog_9_method_1_code
def y_E_init : MethodName := ⟨"JoinOrders$Reading", "<init>", "()V"⟩
abbrev b_E_read : ByteArray := prog_9_method_6_code
def y_E_read : MethodName := ⟨"JoinOrders$Reading", "read", "(LJoinOrders$Text;)V"⟩
abbrev b_S_init : ByteArray := prog_10_method_1_code
def y_S_init : MethodName := ⟨"JoinOrders$Sets", "<init>", "()V"⟩
abbrev b_S_measure : ByteArray := prog_10_method_2_code
def y_S_measure : MethodName := ⟨"JoinOrders$Sets", "measure", "(LJoinOrders$Graph;)V"⟩
theorem mv_S_measure : mV y_S_measure b_S_measure 4 none n_S 1 := ⟨k_844, k_842, k_843, k_101, rfl, by decide +kernel, by decide +kernel, by decide +kernel⟩
abbrev b_S_lay : ByteArray := prog_10_method_3_code
def y_S_lay : MethodName := ⟨"JoinOrders$Sets", "lay", "([ILJoinOrders$Graph;[I)V"⟩
theorem mv_S_lay : mV y_S_lay b_S_lay 7 none n_S 3 := ⟨k_848, k_847, k_18, k_101, rfl, by decide +kernel, by decide +kernel, by decide +kernel⟩
abbrev b_S_grow : ByteArray := prog_10_method_4_code
def y_S_grow : MethodName := ⟨"JoinOrders$Sets", "grow", "(LJoinOrders$Graph;II)V"⟩
theorem mv_S_grow : mV y_S_grow b_S_grow 11 none n_S 3 := ⟨k_855, k_854, k_19, k_101, rfl, by decide +kernel, by decide +kernel, by decide +kernel⟩
abbrev b_S_edgesIn : ByteArray := prog_10_method_5_code
def y_S_edgesIn : MethodName := ⟨"JoinOrders$Sets", "edgesIn", "(I)I"⟩
theorem mv_S_edgesIn : mV y_S_edgesIn b_S_edgesIn 2 (some .int) n_S 1 := ⟨k_863, k_862, k_20, k_101, rfl, by decide +kernel, by decide +kernel, by decide +kernel⟩
abbrev b_S_findPairs : ByteArray := prog_10_method_6_code
def y_S_findPairs : MethodName := ⟨"JoinOrders$Sets", "findPairs", "()V"⟩
theorem mv_S_findPairs : mV y_S_findPairs b_S_findPairs 2 none n_S 0 := ⟨k_870, k_868, k_869, k_101, rfl, by decide +kernel, by decide +kernel, by decide +kernel⟩
abbrev b_S_countPairs : ByteArray := prog_10_method_7_code
def y_S_countPairs : MethodName := ⟨"JoinOrders$Sets", "countPairs", "(I)I"⟩
theorem mv_S_countPairs : mV y_S_countPairs b_S_countPairs 6 (some .int) n_S 1 := ⟨k_874, k_873, k_21, k_101, rfl, by decide +kernel, by decide +kernel, by decide +kernel⟩
abbrev b_S_isPair : ByteArray := prog_10_method_8_code
def y_S_isPair : MethodName := ⟨"JoinOrders$Sets", "isPair", "(II)Z"⟩
theorem mv_S_isPair : mV y_S_isPair b_S_isPair 3 (some .boolean) n_S 2 := ⟨k_883, k_882, k_22, k_101, rfl, by decide +kernel, by decide +kernel, by decide +kernel⟩
abbrev b_S_areJoined : ByteArray := prog_10_method_9_code
def y_S_areJoined : MethodName := ⟨"JoinOrders$Sets", "areJoined", "(II)Z"⟩
theorem mv_S_areJoined : mV y_S_areJoined b_S_areJoined 3 (some .boolean) n_S 2 := ⟨k_887, k_885, k_886, k_101, rfl, by decide +kernel, by decide +kernel, by decide +kernel⟩
abbrev b_S_partOfPair : ByteArray := prog_10_method_10_code
def y_S_partOfPair : MethodName := ⟨"JoinOrders$Sets", "partOfPair", "(IZ)I"⟩
theorem mv_S_partOfPair : mV y_S_partOfPair b_S_partOfPair 6 (some .int) n_S 2 := ⟨k_1025, k_1023, k_1024, k_101, rfl, by decide +kernel, by decide +kernel, by decide +kernel⟩
abbrev b_S_firstOfPair : ByteArray := prog_10_method_11_code
def y_S_firstOfPair : MethodName := ⟨"JoinOrders$Sets", "firstOfPair", "(II)I"⟩
theorem mv_S_firstOfPair : mV y_S_firstOfPair b_S_firstOfPair 7 (some .int) n_S 2 := ⟨k_1029, k_1028, k_31, k_101, rfl, by decide +kernel, by decide +kernel, by decide +kernel⟩
abbrev b_S_isCross : ByteArray := prog_10_method_12_code
def y_S_isCross : MethodName := ⟨"JoinOrders$Sets", "isCross", "(LJoinOrders$Plan;I)Z"⟩
theorem mv_S_isCross : mV y_S_isCross b_S_isCross 3 (some .boolean) n_S 2 := ⟨k_963, k_961, k_962, k_101, rfl, by decide +kernel, by decide +kernel, by decide +kernel⟩
abbrev b_S_crossesOf : ByteArray := prog_10_method_13_code
def y_S_crossesOf : MethodName := ⟨"JoinOrders$Sets", "crossesOf", "(LJoinOrders$Plan;)I"⟩
theorem mv_S_crossesOf : mV y_S_crossesOf b_S_crossesOf 4 (some .int) n_S 1 := ⟨k_959, k_957, k_958, k_101, rfl, by decide +kernel, by decide +kernel, by decide +kernel⟩
abbrev b_S_costOf : ByteArray := prog_10_method_14_code
def y_S_costOf : MethodName := ⟨"JoinOrders$Sets", "costOf", "(LJoinOrders$Plan;I)J"⟩
theorem mv_S_costOf : mV y_S_costOf b_S_costOf 6 (some .long) n_S 2 := ⟨k_967, k_965, k_966, k_101, rfl, by decide +kernel, by decide +kernel, by decide +kernel⟩
abbrev b_U_init : ByteArray := prog_11_method_1_code
def y_U_init : MethodName := ⟨"JoinOrders$State", "<init>", "()V"⟩
abbrev b_U_copy : ByteArray := prog_11_method_2_code
def y_U_copy : MethodName := ⟨"JoinOrders$State", "copy", "(LJoinOrders$State;)V"⟩
theorem mv_U_copy : mV y_U_copy b_U_copy 2 none n_U 1 := ⟨k_1094, k_1092, k_1093, k_94, rfl, by decide +kernel, by decide +kernel, by decide +kernel⟩
abbrev b_T_init : ByteArray := prog_12_method_1_code
def y_T_init : MethodName := ⟨"JoinOrders$Text", "<init>", "()V"⟩
abbrev b_T_copy : ByteArray := prog_12_method_2_code
def y_T_copy : MethodName := ⟨"JoinOrders$Text", "copy", "(LJoinOrders$Text;)V"⟩
theorem mv_T_copy : mV y_T_copy b_T_copy 2 none n_T 1 := ⟨k_1100, k_1098, k_1099, k_97, rfl, by decide +kernel, by decide +kernel, by decide +kernel⟩
abbrev b_T_append : ByteArray := prog_12_method_3_code
def y_T_append : MethodName := ⟨"JoinOrders$Text", "append", "(J)Z"⟩
theorem mv_T_append : mV y_T_append b_T_append 5 (some .boolean) n_T 1 := ⟨k_516, k_514, k_515, k_97, rfl, by decide +kernel, by decide +kernel, by decide +kernel⟩
abbrev b_T_byteOf : ByteArray := prog_12_method_4_code
def y_T_byteOf : MethodName := ⟨"JoinOrders$Text", "byteOf", "(JI)I"⟩
theorem ms_T_byteOf : mS y_T_byteOf b_T_byteOf 3 (some .int) 2 := ⟨k_519, k_518, k_97, by decide +kernel, by decide +kernel, by decide +kernel⟩
abbrev b_T_startOver : ByteArray := prog_12_method_5_code
def y_T_startOver : MethodName := ⟨"JoinOrders$Text", "startOver", "()V"⟩
theorem mv_T_startOver : mV y_T_startOver b_T_startOver 1 none n_T 0 := ⟨k_550, k_548, k_549, k_97, rfl, by decide +kernel, by decide +kernel, by decide +kernel⟩
abbrev b_T_readToken : ByteArray := prog_12_method_6_code
def y_T_readToken : MethodName := ⟨"JoinOrders$Text", "readToken", "()V"⟩
theorem mv_T_readToken : mV y_T_readToken b_T_readToken 1 none n_T 0 := ⟨k_554, k_552, k_553, k_97, rfl, by decide +kernel, by decide +kernel, by decide +kernel⟩
abbrev b_T_readNumber : ByteArray := prog_12_method_7_code
def y_T_readNumber : MethodName := ⟨"JoinOrders$Text", "readNumber", "()V"⟩
theorem mv_T_readNumber : mV y_T_readNumber b_T_readNumber 1 none n_T 0 := ⟨k_561, k_560, k_1, k_97, rfl, by decide +kernel, by decide +kernel, by decide +kernel⟩
abbrev b_T_readWord : ByteArray := prog_12_method_8_code
def y_T_readWord : MethodName := ⟨"JoinOrders$Text", "readWord", "()V"⟩
theorem mv_T_readWord : mV y_T_readWord b_T_readWord 1 none n_T 0 := ⟨k_568, k_567, k_2, k_97, rfl, by decide +kernel, by decide +kernel, by decide +kernel⟩
abbrev b_T_isWord : ByteArray := prog_12_method_9_code
def y_T_isWord : MethodName := ⟨"JoinOrders$Text", "isWord", "(Ljava/lang/String;)Z"⟩
theorem mv_T_isWord : mV y_T_isWord b_T_isWord 3 (some .boolean) n_T 1 := ⟨k_573, k_572, k_3, k_97, rfl, by decide +kernel, by decide +kernel, by decide +kernel⟩
abbrev b_T_signKind : ByteArray := prog_12_method_10_code
def y_T_signKind : MethodName := ⟨"JoinOrders$Text", "signKind", "(I)I"⟩
theorem ms_T_signKind : mS y_T_signKind b_T_signKind 1 (some .int) 1 := ⟨k_627, k_626, k_97, by decide +kernel, by decide +kernel, by decide +kernel⟩
abbrev b_T_isDigit : ByteArray := prog_12_method_11_code
def y_T_isDigit : MethodName := ⟨"JoinOrders$Text", "isDigit", "(I)Z"⟩
theorem ms_T_isDigit : mS y_T_isDigit b_T_isDigit 1 (some .boolean) 1 := ⟨k_557, k_556, k_97, by decide +kernel, by decide +kernel, by decide +kernel⟩
abbrev b_T_isLetter : ByteArray := prog_12_method_12_code
def y_T_isLetter : MethodName := ⟨"JoinOrders$Text", "isLetter", "(I)Z"⟩
theorem ms_T_isLetter : mS y_T_isLetter b_T_isLetter 1 (some .boolean) 1 := ⟨k_564, k_563, k_97, by decide +kernel, by decide +kernel, by decide +kernel⟩
abbrev b_I_bitCount : ByteArray := prog_19_method_49_code
def y_I_bitCount : MethodName := ⟨"java/lang/Integer", "bitCount", "(I)I"⟩
theorem ms_I_bitCount : mS y_I_bitCount b_I_bitCount 1 (some .int) 1 := ⟨k_765, k_764, k_112, by decide +kernel, by decide +kernel, by decide +kernel⟩
abbrev b_Y_fill_ints_int : ByteArray := prog_29_method_103_code
def y_Y_fill_ints_int : MethodName := ⟨"java/util/Arrays", "fill", "([II)V"⟩
theorem ms_Y_fill_ints_int : mS y_Y_fill_ints_int b_Y_fill_ints_int 4 none 2 := ⟨k_851, k_850, k_113, by decide +kernel, by decide +kernel, by decide +kernel⟩
theorem sw_out_0_5 {x : Int32} (h0 : ¬ x = (0 : Int32)) (h1 : ¬ x = (1 : Int32)) (h2 : ¬ x = (2 : Int32)) (h3 : ¬ x = (3 : Int32)) (h4 : ¬ x = (4 : Int32)) (h5 : ¬ x = (5 : Int32)) : x.toInt < 0 ∨ 5 < x.toInt := by
  have g0 : ¬ x.toInt = 0 := fun e => h0 (Int32.toInt_inj.mp (e.trans (by decide)))
  have g1 : ¬ x.toInt = 1 := fun e => h1 (Int32.toInt_inj.mp (e.trans (by decide)))
  have g2 : ¬ x.toInt = 2 := fun e => h2 (Int32.toInt_inj.mp (e.trans (by decide)))
  have g3 : ¬ x.toInt = 3 := fun e => h3 (Int32.toInt_inj.mp (e.trans (by decide)))
  have g4 : ¬ x.toInt = 4 := fun e => h4 (Int32.toInt_inj.mp (e.trans (by decide)))
  have g5 : ¬ x.toInt = 5 := fun e => h5 (Int32.toInt_inj.mp (e.trans (by decide)))
  omega
theorem sw_out_0_8 {x : Int32} (h0 : ¬ x = (0 : Int32)) (h1 : ¬ x = (1 : Int32)) (h2 : ¬ x = (2 : Int32)) (h3 : ¬ x = (3 : Int32)) (h4 : ¬ x = (4 : Int32)) (h5 : ¬ x = (5 : Int32)) (h6 : ¬ x = (6 : Int32)) (h7 : ¬ x = (7 : Int32)) (h8 : ¬ x = (8 : Int32)) : x.toInt < 0 ∨ 8 < x.toInt := by
  have g0 : ¬ x.toInt = 0 := fun e => h0 (Int32.toInt_inj.mp (e.trans (by decide)))
  have g1 : ¬ x.toInt = 1 := fun e => h1 (Int32.toInt_inj.mp (e.trans (by decide)))
  have g2 : ¬ x.toInt = 2 := fun e => h2 (Int32.toInt_inj.mp (e.trans (by decide)))
  have g3 : ¬ x.toInt = 3 := fun e => h3 (Int32.toInt_inj.mp (e.trans (by decide)))
  have g4 : ¬ x.toInt = 4 := fun e => h4 (Int32.toInt_inj.mp (e.trans (by decide)))
  have g5 : ¬ x.toInt = 5 := fun e => h5 (Int32.toInt_inj.mp (e.trans (by decide)))
  have g6 : ¬ x.toInt = 6 := fun e => h6 (Int32.toInt_inj.mp (e.trans (by decide)))
  have g7 : ¬ x.toInt = 7 := fun e => h7 (Int32.toInt_inj.mp (e.trans (by decide)))
  have g8 : ¬ x.toInt = 8 := fun e => h8 (Int32.toInt_inj.mp (e.trans (by decide)))
  omega
theorem sl_out_1_7_8 {x : Int32} (h0 : ¬ x = (1 : Int32)) (h1 : ¬ x = (7 : Int32)) (h2 : ¬ x = (8 : Int32)) : Op.lookupswitch.offset [(1, 36), (7, 42), (8, 48)] (54) x.toInt = (54) := by
  have g0 : ¬ x.toInt = 1 := fun e => h0 (Int32.toInt_inj.mp (e.trans (by decide)))
  have g1 : ¬ x.toInt = 7 := fun e => h1 (Int32.toInt_inj.mp (e.trans (by decide)))
  have g2 : ¬ x.toInt = 8 := fun e => h2 (Int32.toInt_inj.mp (e.trans (by decide)))
  simp only [Op.lookupswitch.offset, if_neg (fun h => g0 (Eq.symm h)), if_neg (fun h => g1 (Eq.symm h)), if_neg (fun h => g2 (Eq.symm h))]
theorem sl_out_40_41_45_59 {x : Int32} (h0 : ¬ x = (40 : Int32)) (h1 : ¬ x = (41 : Int32)) (h2 : ¬ x = (45 : Int32)) (h3 : ¬ x = (59 : Int32)) : Op.lookupswitch.offset [(40, 47), (41, 49), (45, 45), (59, 43)] (51) x.toInt = (51) := by
  have g0 : ¬ x.toInt = 40 := fun e => h0 (Int32.toInt_inj.mp (e.trans (by decide)))
  have g1 : ¬ x.toInt = 41 := fun e => h1 (Int32.toInt_inj.mp (e.trans (by decide)))
  have g2 : ¬ x.toInt = 45 := fun e => h2 (Int32.toInt_inj.mp (e.trans (by decide)))
  have g3 : ¬ x.toInt = 59 := fun e => h3 (Int32.toInt_inj.mp (e.trans (by decide)))
  simp only [Op.lookupswitch.offset, if_neg (fun h => g0 (Eq.symm h)), if_neg (fun h => g1 (Eq.symm h)), if_neg (fun h => g2 (Eq.symm h)), if_neg (fun h => g3 (Eq.symm h))]
